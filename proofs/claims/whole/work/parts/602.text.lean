/-! TEXT, CUT, PLACE, SAY: what both sides keep of them -/
theorem and_255 (x : Int32) : 0 ≤ (x &&& 255).toInt ∧ (x &&& 255).toInt ≤ 255 := by
  have h : (x &&& 255).toBitVec.toNat ≤ 255 := by
    simp only [Int32.toBitVec_and, BitVec.toNat_and]
    exact Nat.and_le_right
  have h2 : (x &&& 255).toInt = ((x &&& 255).toBitVec.toNat : Int) := by
    show (x &&& 255).toBitVec.toInt = _
    rw [BitVec.toInt_eq_toNat_of_lt (by omega)]
  omega
theorem and_255n (x : Int32) : ∃ n, n < 256 ∧ x &&& 255 = sI n := by
  have h := and_255 x
  refine ⟨nn (x &&& 255), ?_, sI_of h.1⟩
  have : (nn (x &&& 255) : Int) = (x &&& 255).toInt := nn_int h.1
  omega
theorem char_256 : ∀ n, n < 256 → vp_nar .char (((sI n).toUInt32 % 65536).toInt32) = sI n := by decide +kernel
/-- the letter of a word at a shift -/
def ltr (a s : Int32) : Int32 := ((a.toUInt32 >>> (s.toUInt32 &&& Int32.toUInt32 31)).toInt32) &&& 255
theorem ltr_n (a s : Int32) : ∃ n, n < 256 ∧ ltr a s = sI n := and_255n _
theorem ltr_char (a s : Int32) : vp_nar .char (((ltr a s).toUInt32 % 65536).toInt32) = ltr a s := by
  obtain ⟨n, hn, e⟩ := ltr_n a s
  rw [e]
  exact char_256 n hn
def l4 (a : Int32) : List Int32 := [ltr a 24, ltr a 16, ltr a 8, ltr a 0]
def nz (ls : List Int32) : Nat := (ls.filter (fun x => x ≠ 0)).length
theorem nz_app (a b : List Int32) : nz (a ++ b) = nz a + nz b := by simp [nz]
theorem nz_le (a : List Int32) : nz a ≤ a.length := List.length_filter_le _ _
theorem nz_c0 {x : Int32} {ls : List Int32} (h : x = 0) : nz (x :: ls) = nz ls := by simp [nz, h]
theorem nz_c1 {x : Int32} {ls : List Int32} (h : ¬ x = 0) : nz (x :: ls) = nz ls + 1 := by simp [nz, h]
/-- letters put behind each other -/
def pu1 (r c f : Nat) (M : mwM) (x : Int32) : mwM := if x = 0 then M else mset (mset M r (nn (M c f)) x) c f (M c f + 1)
def pu (r c f : Nat) (M : mwM) : List Int32 → mwM
  | [] => M
  | x :: ls => pu r c f (pu1 r c f M x) ls
theorem pu_app (r c f : Nat) (M : mwM) (a b : List Int32) : pu r c f M (a ++ b) = pu r c f (pu r c f M a) b := by
  induction a generalizing M with
  | nil => rfl
  | cons x a ih => exact ih _
theorem pu1_c {r c f n : Nat} {M : mwM} {x : Int32} (hc : M c f = sI n) : pu1 r c f M x c f = sI (n + nz [x]) := by
  unfold pu1
  by_cases h : x = 0
  · rw [if_pos h, nz_c0 h, hc]; rfl
  · rw [if_neg h, nz_c1 h, mset_s, hc, sI_1]; rfl
theorem pu1_o {r c f a j : Nat} {M : mwM} {x : Int32} (h1 : a ≠ r) (h2 : ¬ (a = c ∧ j = f)) : pu1 r c f M x a j = M a j := by
  unfold pu1
  by_cases h : x = 0
  · rw [if_pos h]
  · rw [if_neg h, mset_n h2, mset_k h1]
theorem pu1_r {r c f n j : Nat} {M : mwM} {x : Int32} (hrc : r ≠ c) (hn : n < 2000000000) (hc : M c f = sI n) (hj : j < n) : pu1 r c f M x r j = M r j := by
  unfold pu1
  by_cases h : x = 0
  · rw [if_pos h]
  · rw [if_neg h, mset_k hrc, hc, mset_j (by rw [nn_s hn]; omega)]
theorem pu1_n {r c f n : Nat} {M : mwM} {x : Int32} (hrc : r ≠ c) (hn : n < 2000000000) (hc : M c f = sI n) (h : ¬ x = 0) : pu1 r c f M x r n = x := by
  unfold pu1
  rw [if_neg h, mset_k hrc, hc, nn_s hn, mset_s]
theorem pu_all {r c f : Nat} (hrc : r ≠ c) (ls : List Int32) : ∀ (M : mwM) (n : Nat), M c f = sI n → n + nz ls < 2000000000 → pu r c f M ls c f = sI (n + nz ls) ∧ (∀ a j, a ≠ r → ¬ (a = c ∧ j = f) → pu r c f M ls a j = M a j) ∧ (∀ j, j < n → pu r c f M ls r j = M r j) ∧ (∀ i (hi : i < nz ls), pu r c f M ls r (n + i) = (ls.filter (fun x => x ≠ 0))[i]'hi) := by
  induction ls with
  | nil =>
    intro M n hc _
    refine ⟨by simpa [pu, nz] using hc, fun _ _ _ _ => rfl, fun _ _ => rfl, ?_⟩
    intro i hi
    simp [nz] at hi
  | cons x ls ih =>
    intro M n hc hn
    have hz : nz (x :: ls) = nz [x] + nz ls := nz_app [x] ls
    obtain ⟨h1, h2, h3, h4⟩ := ih (pu1 r c f M x) (n + nz [x]) (pu1_c hc) (by omega)
    refine ⟨?_, ?_, ?_, ?_⟩
    · show pu r c f (pu1 r c f M x) ls c f = _
      rw [h1, hz]; congr 1; omega
    · intro a j ha hj
      exact (h2 a j ha hj).trans (pu1_o ha hj)
    · intro j hj
      exact (h3 j (by omega)).trans (pu1_r hrc (by omega) hc hj)
    · intro i hi
      show pu r c f (pu1 r c f M x) ls r (n + i) = _
      by_cases h : x = 0
      · have e : nz [x] = 0 := by simp [nz, h]
        rw [e] at h4 h3 hz
        have := h4 i (by omega)
        rw [Nat.add_zero] at this
        rw [this]
        simp [h]
      · have e : nz [x] = 1 := by simp [nz, h]
        rw [e] at h4 h3 hz
        cases i with
        | zero =>
          have := h3 n (by omega)
          rw [Nat.add_zero, this, pu1_n hrc (by omega) hc h]
          simp [h]
        | succ i =>
          have := h4 i (by omega)
          rw [show n + (i + 1) = n + 1 + i by omega, this]
          simp [h]
/-- the class: four letters -/
theorem ap_step {fu : Nat} {a v : Int32} {r : Int32 × mwM × mwL → Option (mwM × mwL)} {M : mwM} {L : mwL} {n : Nat} (hv : ¬ v < 0) (hM : M 1 4 = sI n) (hn : n + nz [ltr a v] ≤ 6000) : fX8_append_i3 fu a r v M L = r (v + (-8), pu1 2 1 4 M (ltr a v), L) := by
  unfold fX8_append_i3 fX8_append_b50
  simp only [mlet]
  rw [if_neg hv]
  show (if ltr a v = 0 then _ else _) = _
  unfold pu1
  by_cases hx : ltr a v = 0
  · rw [if_pos hx, if_pos hx]
  · rw [if_neg hx, if_neg hx]
    have h1 : nz [ltr a v] = 1 := by rw [nz_c1 hx]; rfl
    have h2 : ¬ (6000 : Int32) ≤ M 1 4 := by
      rw [hM]
      show ¬ sI 6000 ≤ sI n
      rw [sI_le (by omega) (by omega)]
      omega
    rw [if_neg h2, mck_in (by rw [hM]; exact sI_in (by omega) (by omega))]
    show r (v + -8, mset (mset M 2 _ (vp_nar .char (((ltr a v).toUInt32 % 65536).toInt32))) 1 4 _, L) = _
    rw [ltr_char]
    simp [mset, nn]
theorem nz_1 (x : Int32) : nz [x] ≤ 1 := nz_le [x]
theorem nz_l4 (a : Int32) : nz (l4 a) = nz [ltr a 24] + (nz [ltr a 16] + (nz [ltr a 8] + nz [ltr a 0])) := by
  rw [← nz_app, ← nz_app, ← nz_app]; rfl
theorem ap_all {fu : Nat} {a : Int32} {M : mwM} {L : mwL} {n : Nat} (hf : 5 ≤ fu) (hM : M 1 4 = sI n) (hn : n + nz (l4 a) ≤ 6000) : DX8_append fu a M L = some (pu 2 1 4 M (l4 a), L) := by
  obtain ⟨g, rfl⟩ : ∃ g, fu = g + 5 := ⟨fu - 5, by omega⟩
  have e : nz (l4 a) = nz [ltr a 24] + (nz [ltr a 16] + (nz [ltr a 8] + nz [ltr a 0])) := by
    rw [← nz_app, ← nz_app, ← nz_app]; rfl
  have m1 := pu1_c (r := 2) (x := ltr a 24) hM
  have m2 := pu1_c (r := 2) (x := ltr a 16) m1
  have m3 := pu1_c (r := 2) (x := ltr a 8) m2
  unfold DX8_append fX8_append_h3
  rw [mloop_S]
  show fX8_append_i3 (g + 5) a (fX8_append_h3 (g + 5) a (g + 4)) 24 M L = _
  rw [ap_step (n := n) (by decide) hM (by omega)]
  show fX8_append_i3 (g + 5) a (fX8_append_h3 (g + 5) a (g + 3)) 16 _ L = _
  rw [ap_step (by decide) m1 (by omega)]
  show fX8_append_i3 (g + 5) a (fX8_append_h3 (g + 5) a (g + 2)) 8 _ L = _
  rw [ap_step (by decide) m2 (by omega)]
  show fX8_append_i3 (g + 5) a (fX8_append_h3 (g + 5) a (g + 1)) 0 _ L = _
  rw [ap_step (by decide) m3 (by omega)]
  rfl
theorem li_step {fu : Nat} {a v w : Int32} {r : Int32 × Int32 × mwM × mwL → Option (Int32 × mwM × mwL)} {M : mwM} {L : mwL} (hv : ¬ v < 0) : fX11_lettersIn_i5 fu a r w v M L = r (w + sI (nz [ltr a v]), v + (-8), M, L) := by
  unfold fX11_lettersIn_i5 fX11_lettersIn_b25
  simp only [mlet]
  rw [if_neg hv]
  show (if ltr a v = 0 then _ else _) = _
  by_cases hx : ltr a v = 0
  · rw [if_pos hx, nz_c0 hx]; rfl
  · rw [if_neg hx, nz_c1 hx]; rfl
theorem li_end {fu : Nat} {a w : Int32} {r : Int32 × Int32 × mwM × mwL → Option (Int32 × mwM × mwL)} {M : mwM} {L : mwL} : fX11_lettersIn_i5 fu a r w (-8) M L = some (w, M, L) := by
  unfold fX11_lettersIn_i5
  rw [if_pos (by decide)]
theorem li_all {fu : Nat} {a : Int32} {M : mwM} {L : mwL} (hf : 5 ≤ fu) : DX11_lettersIn fu a M L = some (sI (nz (l4 a)), M, L) := by
  obtain ⟨g, rfl⟩ : ∃ g, fu = g + 5 := ⟨fu - 5, by omega⟩
  have e : nz (l4 a) = nz [ltr a 24] + nz [ltr a 16] + nz [ltr a 8] + nz [ltr a 0] := by
    have := nz_l4 a
    omega
  unfold DX11_lettersIn fX11_lettersIn_h5
  rw [mloop_S]
  show fX11_lettersIn_i5 (g + 5) a (fX11_lettersIn_h5 (g + 5) a (g + 4)) 0 24 M L = _
  rw [li_step (by decide), show (24 : Int32) + (-8) = 16 from by decide]
  show fX11_lettersIn_i5 (g + 5) a (fX11_lettersIn_h5 (g + 5) a (g + 3)) (0 + sI (nz [ltr a 24])) 16 M L = _
  rw [li_step (by decide), show (16 : Int32) + (-8) = 8 from by decide]
  show fX11_lettersIn_i5 (g + 5) a (fX11_lettersIn_h5 (g + 5) a (g + 2)) (0 + sI (nz [ltr a 24]) + sI (nz [ltr a 16])) 8 M L = _
  rw [li_step (by decide), show (8 : Int32) + (-8) = 0 from by decide]
  show fX11_lettersIn_i5 (g + 5) a (fX11_lettersIn_h5 (g + 5) a (g + 1)) (0 + sI (nz [ltr a 24]) + sI (nz [ltr a 16]) + sI (nz [ltr a 8])) 0 M L = _
  rw [li_step (by decide), show (0 : Int32) + (-8) = -8 from by decide]
  show fX11_lettersIn_i5 (g + 5) a (fX11_lettersIn_h5 (g + 5) a g) (0 + sI (nz [ltr a 24]) + sI (nz [ltr a 16]) + sI (nz [ltr a 8]) + sI (nz [ltr a 0])) (-8) M L = _
  rw [li_end, e, ← sI_add, ← sI_add, ← sI_add, show (0 : Int32) + sI (nz [ltr a 24]) = sI (nz [ltr a 24]) from Int32.zero_add _]
def l16 (a b c d : Int32) : List Int32 := l4 a ++ (l4 b ++ (l4 c ++ l4 d))
theorem l16_len (a b c d : Int32) : (l16 a b c d).length = 16 := rfl
theorem nz_l16 (a b c d : Int32) : nz (l16 a b c d) = nz (l4 a) + (nz (l4 b) + (nz (l4 c) + nz (l4 d))) := by
  unfold l16
  rw [nz_app, nz_app, nz_app]
/-- the class: text -/
theorem ct_text {fu : Nat} {a b c d : Int32} {M : mwM} {L : mwL} {n : Nat} (hf : 5 ≤ fu) (hM : M 1 4 = sI n) (hn : n ≤ 6000) : DL_text fu a b c d M L = if n + nz (l16 a b c d) ≤ 6000 then some (0, pu 2 1 4 M (l16 a b c d), L) else some (1, M, L) := by
  have z := nz_l16 a b c d
  have za := nz_le (l4 a)
  have zb := nz_le (l4 b)
  have zc := nz_le (l4 c)
  have zd := nz_le (l4 d)
  have k4 : ∀ a, (l4 a).length = 4 := fun _ => rfl
  rw [k4] at za zb zc zd
  unfold DL_text DX11_text
  rw [li_all hf, mb3_s, li_all hf, mb3_s, li_all hf, mb3_s, li_all hf, mb3_s, hM, sI_add, sI_add, sI_add, sI_add]
  have hc : (sI (n + nz (l4 a) + nz (l4 b) + nz (l4 c) + nz (l4 d)) ≤ 6000) ↔ n + nz (l16 a b c d) ≤ 6000 := by
    show (sI _ ≤ sI 6000) ↔ _
    rw [sI_le (by omega) (by omega)]
    omega
  by_cases h : n + nz (l16 a b c d) ≤ 6000
  · rw [if_pos (hc.mpr h), if_pos h]
    have e1 := (pu_all (r := 2) (c := 1) (f := 4) (by decide) (l4 a) M n hM (by omega)).1
    have e2 := (pu_all (r := 2) (c := 1) (f := 4) (by decide) (l4 b) _ _ e1 (by omega)).1
    have e3 := (pu_all (r := 2) (c := 1) (f := 4) (by decide) (l4 c) _ _ e2 (by omega)).1
    rw [ap_all hf hM (by omega), mb2_s, ap_all hf e1 (by omega), mb2_s, ap_all hf e2 (by omega), mb2_s, ap_all hf e3 (by omega), mb2_s]
    unfold l16
    rw [pu_app, pu_app, pu_app]
    rfl
  · rw [if_neg (fun q => h (hc.mp q)), if_neg h]
    rfl
