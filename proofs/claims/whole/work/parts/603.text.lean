theorem bit_255 : ∀ i, i < 32 → 8 ≤ i → (255#32).getLsbD i = false := by decide
theorem bv_sh (x : BitVec 32) (s : Nat) (hs : s ≤ 24) : (x >>> s) &&& 255#32 = (x.sshiftRight s) &&& 255#32 := by
  apply BitVec.eq_of_getLsbD_eq
  intro i hi
  simp only [BitVec.getLsbD_and, BitVec.getLsbD_ushiftRight, BitVec.getLsbD_sshiftRight]
  by_cases h8 : i < 8
  · have h1 : s + i < 32 := by omega
    have h2 : ¬ 32 ≤ i := by omega
    simp [h1, h2]
  · rw [bit_255 i hi (by omega)]
    simp
theorem sh_0 (x : Int32) : ltr x 0 = (x >>> (0 : Int32)) &&& 255 := by
  apply Int32.toBitVec_inj.mp
  exact bv_sh x.toBitVec 0 (by omega)
theorem sh_8 (x : Int32) : ltr x 8 = (x >>> (8 : Int32)) &&& 255 := by
  apply Int32.toBitVec_inj.mp
  exact bv_sh x.toBitVec 8 (by omega)
theorem sh_16 (x : Int32) : ltr x 16 = (x >>> (16 : Int32)) &&& 255 := by
  apply Int32.toBitVec_inj.mp
  exact bv_sh x.toBitVec 16 (by omega)
theorem sh_24 (x : Int32) : ltr x 24 = (x >>> (24 : Int32)) &&& 255 := by
  apply Int32.toBitVec_inj.mp
  exact bv_sh x.toBitVec 24 (by omega)
theorem mt_char {fu : Nat} {a b c d : Int32} {M : mwM} {L : mwL} {k : Nat} (hk : k < 16) : DX19_character fu a b c d (sI k) M L = some ((l16 a b c d)[k]'hk, M, L) := by
  have h : k = 0 ∨ k = 1 ∨ k = 2 ∨ k = 3 ∨ k = 4 ∨ k = 5 ∨ k = 6 ∨ k = 7 ∨ k = 8 ∨ k = 9 ∨ k = 10 ∨ k = 11 ∨ k = 12 ∨ k = 13 ∨ k = 14 ∨ k = 15 := by omega
  unfold DX19_character fX19_character_b33
  rcases h with rfl | rfl | rfl | rfl | rfl | rfl | rfl | rfl | rfl | rfl | rfl | rfl | rfl | rfl | rfl | rfl
  · exact congrArg (fun z => some (z, M, L)) (sh_24 a).symm
  · exact congrArg (fun z => some (z, M, L)) (sh_16 a).symm
  · exact congrArg (fun z => some (z, M, L)) (sh_8 a).symm
  · exact congrArg (fun z => some (z, M, L)) (sh_0 a).symm
  · exact congrArg (fun z => some (z, M, L)) (sh_24 b).symm
  · exact congrArg (fun z => some (z, M, L)) (sh_16 b).symm
  · exact congrArg (fun z => some (z, M, L)) (sh_8 b).symm
  · exact congrArg (fun z => some (z, M, L)) (sh_0 b).symm
  · exact congrArg (fun z => some (z, M, L)) (sh_24 c).symm
  · exact congrArg (fun z => some (z, M, L)) (sh_16 c).symm
  · exact congrArg (fun z => some (z, M, L)) (sh_8 c).symm
  · exact congrArg (fun z => some (z, M, L)) (sh_0 c).symm
  · exact congrArg (fun z => some (z, M, L)) (sh_24 d).symm
  · exact congrArg (fun z => some (z, M, L)) (sh_16 d).symm
  · exact congrArg (fun z => some (z, M, L)) (sh_8 d).symm
  · exact congrArg (fun z => some (z, M, L)) (sh_0 d).symm
theorem l16_n {a b c d x : Int32} (h : x ∈ l16 a b c d) : ∃ n, n < 256 ∧ x = sI n := by
  simp only [l16, l4, List.cons_append, List.nil_append, List.mem_cons, List.not_mem_nil, or_false] at h
  rcases h with h | h | h | h | h | h | h | h | h | h | h | h | h | h | h | h <;> (rw [h]; exact ltr_n _ _)
theorem mt_w {fu : Nat} {a b c d : Int32} {L : mwL} : ∀ (rest pre : List Int32) (M : mwM) (n f : Nat), pre ++ rest = l16 a b c d → rest.length < f → M 732 0 = 0 → M 732 2 = sI n → n + nz rest ≤ 6000 → fX19_text_h68 fu a b c d f (sI pre.length, M, L) = some (pu 733 732 2 M rest, L) := by
  intro rest
  induction rest with
  | nil =>
    intro pre M n f hp hf _ _ _
    obtain ⟨g, rfl⟩ : ∃ g, f = g + 1 := ⟨f - 1, by simp at hf; omega⟩
    have hl : pre.length = 16 := by rw [← l16_len a b c d, ← hp]; simp
    unfold fX19_text_h68
    rw [mloop_S, hl]
    rfl
  | cons x rest ih =>
    intro pre M n f hp hf h0 h2 hn
    obtain ⟨g, rfl⟩ : ∃ g, f = g + 1 := ⟨f - 1, by simp at hf; omega⟩
    have hl : pre.length < 16 := by rw [← l16_len a b c d, ← hp]; simp
    have hx : (l16 a b c d)[pre.length]'hl = x := by simp [← hp]
    have hz : nz (x :: rest) = nz [x] + nz rest := nz_app [x] rest
    unfold fX19_text_h68
    rw [mloop_S]
    show fX19_text_i68 fu a b c d (fX19_text_h68 fu a b c d g) (sI pre.length) M L = _
    unfold fX19_text_i68 fX19_text_b123
    have hc : ¬ (16 : Int32) ≤ sI pre.length := by
      show ¬ sI 16 ≤ sI _
      rw [sI_le (by omega) (by omega)]
      omega
    rw [if_neg hc, if_pos h0, mt_char hl, mb3_s, hx]
    have ihx := ih (pre ++ [x]) (pu1 733 732 2 M x) (n + nz [x]) g (by simpa using hp) (by simp at hf; omega) (by rw [pu1_o (by decide) (by decide)]; exact h0) (pu1_c h2) (by omega)
    have hk : sI pre.length + 1 = sI (pre ++ [x]).length := by rw [sI_1]; simp
    simp only [mlet]
    rw [hk]
    by_cases hxx : x = 0
    · rw [if_pos hxx]
      have e : pu1 733 732 2 M x = M := by unfold pu1; rw [if_pos hxx]
      rw [e] at ihx
      rw [ihx]
      show _ = some (pu 733 732 2 (pu1 733 732 2 M x) rest, L)
      rw [e]
    · have h1 : nz [x] = 1 := by rw [nz_c1 hxx]; rfl
      rw [if_neg hxx, mck_in (by rw [h2]; exact sI_in (by omega) (by omega))]
      have e : pu1 733 732 2 M x = mset (mset M 733 (M 732 2).toNatClampNeg x) 732 2 (mset M 733 (M 732 2).toNatClampNeg x 732 2 + 1) := by
        unfold pu1
        rw [if_neg hxx, mset_k (a := 732) (by decide)]
      rw [e] at ihx
      rw [ihx]
      show _ = some (pu 733 732 2 (pu1 733 732 2 M x) rest, L)
      rw [e]
theorem mt_c {fu : Nat} {a b c d : Int32} {M : mwM} {L : mwL} : ∀ (rest pre : List Int32) (f : Nat), pre ++ rest = l16 a b c d → rest.length < f → fX19_text_h6 fu a b c d f (sI (nz pre), sI pre.length, M, L) = (if ((M 732 2) + sI (nz (l16 a b c d))) ≤ 6000 then fX19_text_b62 fu a b c d 0 M L else fX19_text_b62 fu a b c d 1 M L) := by
  intro rest
  induction rest with
  | nil =>
    intro pre f hp hf
    obtain ⟨g, rfl⟩ : ∃ g, f = g + 1 := ⟨f - 1, by simp at hf; omega⟩
    have hl : pre.length = 16 := by rw [← l16_len a b c d, ← hp]; simp
    have hq : pre = l16 a b c d := by simpa using hp
    unfold fX19_text_h6
    rw [mloop_S, hl, hq]
    rfl
  | cons x rest ih =>
    intro pre f hp hf
    obtain ⟨g, rfl⟩ : ∃ g, f = g + 1 := ⟨f - 1, by simp at hf; omega⟩
    have hl : pre.length < 16 := by rw [← l16_len a b c d, ← hp]; simp
    have hx : (l16 a b c d)[pre.length]'hl = x := by simp [← hp]
    unfold fX19_text_h6
    rw [mloop_S]
    show fX19_text_i6 fu a b c d (fX19_text_h6 fu a b c d g) (sI (nz pre)) (sI pre.length) M L = _
    unfold fX19_text_i6 fX19_text_b35
    have hc : ¬ (16 : Int32) ≤ sI pre.length := by
      show ¬ sI 16 ≤ sI _
      rw [sI_le (by omega) (by omega)]
      omega
    have ihx := ih (pre ++ [x]) g (by simpa using hp) (by simp at hf; omega)
    have hk : sI pre.length + 1 = sI (pre ++ [x]).length := by rw [sI_1]; simp
    have hxm : x ∈ l16 a b c d := by rw [← hp]; simp
    obtain ⟨m, hm, em⟩ := l16_n hxm
    rw [if_neg hc, mt_char hl, mb3_s, hx]
    simp only [mlet]
    rw [hk]
    by_cases hxx : x = 0
    · rw [if_pos (by rw [hxx]; decide)]
      rw [← ihx, nz_app, nz_c0 hxx]
      rfl
    · have h0 : ¬ x ≤ 0 := by
        intro q
        apply hxx
        rw [em] at q ⊢
        have q2 : sI m ≤ sI 0 := q
        rw [sI_le (by omega) (by omega)] at q2
        have : m = 0 := by omega
        rw [this]; rfl
      rw [if_neg h0, ← ihx, nz_app, nz_c1 hxx]
      show _ = fX19_text_h6 fu a b c d g (sI (nz pre + 1), _, M, L)
      rw [← sI_1]
theorem mt_text {fu : Nat} {a b c d : Int32} {M : mwM} {L : mwL} {n : Nat} (hf : 17 ≤ fu) (hM : M 732 2 = sI n) (hn : n ≤ 6000) : DX19_text fu a b c d M L = if n + nz (l16 a b c d) ≤ 6000 then some (pu 733 732 2 (mset M 732 0 0) (l16 a b c d), L) else some (mset M 732 0 1, L) := by
  have zz : nz (l16 a b c d) ≤ 16 := nz_le _
  unfold DX19_text
  rw [show ((0 : Int32), (0 : Int32), M, L) = (sI (nz []), sI ([] : List Int32).length, M, L) from rfl]
  rw [mt_c (l16 a b c d) [] fu rfl (by rw [l16_len]; omega), hM, sI_add]
  have hc : (sI (n + nz (l16 a b c d)) ≤ 6000) ↔ n + nz (l16 a b c d) ≤ 6000 := by
    show (sI _ ≤ sI 6000) ↔ _
    rw [sI_le (by omega) (by omega)]
  by_cases h : n + nz (l16 a b c d) ≤ 6000
  · rw [if_pos (hc.mpr h), if_pos h]
    exact mt_w (l16 a b c d) [] (mset M 732 0 0) n fu rfl (by rw [l16_len]; omega) mset_s (by rw [mset_j (by decide)]; exact hM) h
  · rw [if_neg (fun q => h (hc.mp q)), if_neg h]
    obtain ⟨g, rfl⟩ : ∃ g, fu = g + 1 := ⟨fu - 1, by omega⟩
    unfold fX19_text_b62 fX19_text_h68
    simp only [mlet]
    rw [mloop_S]
    show fX19_text_i68 (g + 1) a b c d _ 0 (mset M 732 0 1) L = _
    unfold fX19_text_i68 fX19_text_b129
    rw [if_neg (by decide), if_neg (by rw [mset_s]; decide)]
/-- what both sides know of the text -/
def RT (M : mwM) : Prop := ∃ n, n ≤ 6000 ∧ M 1 4 = sI n ∧ M 732 2 = sI n ∧ ∀ j, j < n → M 2 j = M 733 j ∧ ∃ x, 0 < x ∧ x < 256 ∧ M 733 j = sI x
theorem st_text {fu : Nat} {a b c d : Int32} {M : mwM} {L : mwL} (hf : 17 ≤ fu) (h : RT M) : ∃ k M1 M2, DL_text fu a b c d M L = some (k, M1, L) ∧ DX19_text fu a b c d M1 L = some (M2, L) ∧ M2 732 0 = k ∧ RT M2 ∧ (∀ e j, e ≠ 2 → e ≠ 733 → ¬ (e = 1 ∧ j = 4) → ¬ (e = 732 ∧ (j = 0 ∨ j = 2)) → M2 e j = M e j) := by
  obtain ⟨n, hn, h1, h2, h3⟩ := h
  by_cases hc : n + nz (l16 a b c d) ≤ 6000
  · obtain ⟨p1, p2, p3, p4⟩ := pu_all (r := 2) (c := 1) (f := 4) (by decide) (l16 a b c d) M n h1 (by omega)
    have hm2 : mset (pu 2 1 4 M (l16 a b c d)) 732 0 0 732 2 = sI n := by rw [mset_j (by decide), p2 _ _ (by decide) (by decide), h2]
    obtain ⟨q1, q2, q3, q4⟩ := pu_all (r := 733) (c := 732) (f := 2) (by decide) (l16 a b c d) (mset (pu 2 1 4 M (l16 a b c d)) 732 0 0) n hm2 (by omega)
    refine ⟨0, pu 2 1 4 M (l16 a b c d), pu 733 732 2 (mset (pu 2 1 4 M (l16 a b c d)) 732 0 0) (l16 a b c d), ?_, ?_, ?_, ?_, ?_⟩
    · rw [ct_text (by omega) h1 hn, if_pos hc]
    · rw [mt_text (by omega) (by rw [p2 _ _ (by decide) (by decide)]; exact h2) hn, if_pos hc]
    · rw [q2 _ _ (by decide) (by decide), mset_s]
    · refine ⟨n + nz (l16 a b c d), hc, ?_, q1, ?_⟩
      · rw [q2 _ _ (by decide) (by decide), mset_k (by decide), p1]
      · intro j hj
        rw [q2 2 j (by decide) (by simp), mset_k (by decide)]
        by_cases hjn : j < n
        · rw [p3 j hjn, q3 j hjn, mset_k (by decide), p2 _ _ (by decide) (by simp)]
          exact h3 j hjn
        · have ej : j = n + (j - n) := by omega
          have hi : j - n < nz (l16 a b c d) := by omega
          rw [ej, p4 (j - n) hi, q4 (j - n) hi]
          refine ⟨rfl, ?_⟩
          have hmem := List.getElem_mem (l := (l16 a b c d).filter (fun x => x ≠ 0)) (n := j - n) hi
          rw [List.mem_filter] at hmem
          obtain ⟨x, hx, ex⟩ := l16_n hmem.1
          refine ⟨x, ?_, hx, ex⟩
          have hne := hmem.2
          rw [ex] at hne
          rcases Nat.eq_zero_or_pos x with rfl | hp
          · exact absurd hne (by decide)
          · exact hp
    · intro e j e1 e2 e3 e4
      rw [q2 e j e2 (fun q => e4 ⟨q.1, Or.inr q.2⟩), mset_n (fun q => e4 ⟨q.1, Or.inl q.2⟩), p2 e j e1 e3]
  · refine ⟨1, M, mset M 732 0 1, ?_, ?_, mset_s, ?_, ?_⟩
    · rw [ct_text (by omega) h1 hn, if_neg hc]
    · rw [mt_text (by omega) h2 hn, if_neg hc]
    · refine ⟨n, hn, ?_, ?_, ?_⟩
      · rw [mset_k (by decide)]; exact h1
      · rw [mset_j (by decide)]; exact h2
      · intro j hj
        rw [mset_k (by decide), mset_k (by decide)]
        exact h3 j hj
    · intro e j _ _ _ e4
      rw [mset_n (fun q => e4 ⟨q.1, Or.inl q.2⟩)]
theorem st_cut {fu : Nat} {a : Int32} {M : mwM} {L : mwL} (h : RT M) : ∃ k M1 L1 r M2, DL_cut fu a M L = some (k, M1, L1) ∧ DX19_cut fu a M1 L1 = some (r, M2, L1) ∧ M2 732 0 = k ∧ (k = 0 → L1 1577 0 = r.toInt64) ∧ (∀ e j, e ≠ 1577 → L1 e j = L e j) ∧ RT M2 ∧ (∀ e j, ¬ (e = 1 ∧ j = 4) → ¬ (e = 732 ∧ (j = 0 ∨ j = 2)) → M2 e j = M e j) := by
  obtain ⟨n, hn, h1, h2, h3⟩ := h
  unfold DL_cut DX11_cut fX11_cut_b15 DX19_cut fX19_cut_b13 fX19_cut_b18
  by_cases ha : a < 0
  · refine ⟨1, M, L, 0, mset M 732 0 1, ?_, ?_, mset_s, fun q => absurd q (by decide), fun _ _ _ => rfl, ⟨n, hn, ?_, ?_, ?_⟩, ?_⟩
    · rw [if_pos ha]; rfl
    · rw [if_pos ha]; simp [mlet, mset_s]
    · rw [mset_k (by decide)]; exact h1
    · rw [mset_j (by decide)]; exact h2
    · intro j hj
      rw [mset_k (by decide), mset_k (by decide)]
      exact h3 j hj
    · intro e j _ e4
      rw [mset_n (fun q => e4 ⟨q.1, Or.inl q.2⟩)]
  · by_cases hb : a ≤ sI n
    · have h0 : 0 ≤ a.toInt := by
        have : ¬ a.toInt < (0 : Int32).toInt := fun q => ha (Int32.lt_iff_toInt_lt.mpr q)
        have hz : (0 : Int32).toInt = 0 := rfl
        omega
      have han := sI_of h0
      have hle : nn a ≤ n := by
        have q := Int32.le_iff_toInt_le.mp hb
        rw [sI_toInt (by omega)] at q
        have : (nn a : Int) = a.toInt := nn_int h0
        omega
      refine ⟨0, mset M 1 4 a, mset L 1577 0 a.toInt64, a, mset (mset (mset M 1 4 a) 732 0 0) 732 2 a, ?_, ?_, ?_, fun _ => mset_s, fun e j he => mset_k he, ⟨nn a, by omega, ?_, ?_, ?_⟩, ?_⟩
      · rw [if_neg ha, h1, if_pos hb]; rfl
      · rw [if_neg ha, mset_k (a := 732) (by decide), h2, if_pos hb]; simp [mlet, mset_s]
      · rw [mset_j (by decide), mset_s]
      · rw [mset_k (by decide), mset_k (by decide), mset_s]; exact han
      · rw [mset_s]; exact han
      · intro j hj
        rw [mset_k (by decide), mset_k (by decide), mset_k (by decide), mset_k (by decide), mset_k (by decide), mset_k (by decide)]
        exact h3 j (by omega)
      · intro e j e3 e4
        rw [mset_n (fun q => e4 ⟨q.1, Or.inr q.2⟩), mset_n (fun q => e4 ⟨q.1, Or.inl q.2⟩), mset_n e3]
    · refine ⟨1, M, L, 0, mset M 732 0 1, ?_, ?_, mset_s, fun q => absurd q (by decide), fun _ _ _ => rfl, ⟨n, hn, ?_, ?_, ?_⟩, ?_⟩
      · rw [if_neg ha, h1, if_neg hb]; rfl
      · rw [if_neg ha, h2, if_neg hb]; simp [mlet, mset_s]
      · rw [mset_k (by decide)]; exact h1
      · rw [mset_j (by decide)]; exact h2
      · intro j hj
        rw [mset_k (by decide), mset_k (by decide)]
        exact h3 j hj
      · intro e j _ e4
        rw [mset_n (fun q => e4 ⟨q.1, Or.inl q.2⟩)]
