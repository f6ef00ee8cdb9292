/-! the reference puts a value into a frame -/
def pqf (t : Bool) (n q : Nat) : Nat := if t = true then n - 1 - q else q
theorem pqf_lt {t : Bool} {n q : Nat} (h : q < n) : pqf t n q < n := by unfold pqf; split <;> omega
theorem pqf_in {t : Bool} {n q r : Nat} (h : q < n) (h' : r < n) (e : pqf t n q = pqf t n r) : q = r := by
  unfold pqf at e
  split at e <;> omega
theorem pqf_sur {t : Bool} {n y : Nat} (h : y < n) : ∃ q, q < n ∧ pqf t n q = y := by
  cases t
  · exact ⟨y, h, by unfold pqf; rw [if_neg (by decide)]⟩
  · exact ⟨n - 1 - y, by omega, by unfold pqf; rw [if_pos rfl]; omega⟩
abbrev PuM (M : mwM) (k l n b : Nat) (t : Bool) (i e o : Nat) : Prop := M k 2 = sI n ∧ n ≤ 40 ∧ 1 ≤ l ∧ l ≤ n ∧ M k 15 = 1 ∧ M (k + 1) l = sI b ∧ 1 ≤ b ∧ b ≤ 64 ∧ M (k + 3) l = bI t ∧ M (k + 4) l = -1 ∧ M (k + 5) l = sI l ∧ M (k + 12) (129 + l) = sI i ∧ 1 ≤ i ∧ i ≤ 40 ∧ M (k + 13) (129 + l) = sI (8 * o) ∧ M (k + 14) i = sI e ∧ e ≤ 320 ∧ o + (b + 7) / 8 ≤ 8
theorem PuM_f {M M' : mwM} {k l n b i e o : Nat} {t : Bool} (h : PuM M k l n b t i e o) (hf : ∀ a y, (a = k ∧ (y = 2 ∨ y = 15)) ∨ (k + 1 ≤ a ∧ a ≤ k + 5) ∨ (k + 12 ≤ a ∧ a ≤ k + 14) → M' a y = M a y) : PuM M' k l n b t i e o := by
  obtain ⟨h1, h2, h3, h4, h5, h6, h7, h8, h9, h10, h11, h12, h13, h14, h15, h16, h17, h18⟩ := h
  exact ⟨by rw [hf _ _ (by omega)]; exact h1, h2, h3, h4, by rw [hf _ _ (by omega)]; exact h5, by rw [hf _ _ (by omega)]; exact h6, h7, h8, by rw [hf _ _ (by omega)]; exact h9, by rw [hf _ _ (by omega)]; exact h10, by rw [hf _ _ (by omega)]; exact h11, by rw [hf _ _ (by omega)]; exact h12, h13, h14, by rw [hf _ _ (by omega)]; exact h15, by rw [hf _ _ (by omega)]; exact h16, h17, h18⟩
theorem m_where {fu k l n b i e o j : Nat} {t : Bool} {M : mwM} {L : mwL} (h : PuM M k l n b t i e o) (hj : j < b) : DX16_where fu k (sI l) (sI j) M L = some (sI (8 * (e + o + pqf t ((b + 7) / 8) (j / 8)) + j % 8), M, L) := by
  obtain ⟨h1, h2, h3, h4, h5, h6, h7, h8, h9, h10, h11, h12, h13, h14, h15, h16, h17, h18⟩ := h
  unfold DX16_where fX16_where_b80
  simp only [mlet]
  rw [h5, s129, mck_s (by omega) (by omega), sI_nn (show 129 + l < 2000000000 by omega), h12, mck_s (by omega) (by omega), mck_s (by omega) (by omega), sI_nn (show i < 2000000000 by omega), h16, h15, sI_lml, sI_add, mck_s (by omega) (by omega), sI_nn (show l < 2000000000 by omega), h9]
  cases t with
  | false =>
    rw [bI_f, if_pos (show (0 : Int32) = 0 from rfl), sI_add]
    unfold pqf
    rw [if_neg (by decide)]
    congr 3
    omega
  | true =>
    rw [bI_t, if_neg (show ¬ (1 : Int32) = 0 by decide)]
    have e8 : (sI b + 7) / 8 = sI ((b + 7) / 8) := by
      rw [sI_adl]
      exact sI_div (b := 8) (by omega) (by omega)
    have ej : sI j / 8 = sI (j / 8) := sI_div (b := 8) (by omega) (by omega)
    have em : sI j - sI j / 8 * 8 = sI (j % 8) := sI_mod (b := 8) (by omega) (by omega)
    unfold DX16_octetsOf
    rw [mck_s (by omega) (by omega), mb3_s, sI_nn (show l < 2000000000 by omega), h6, e8, em, ej, sI_dec (by omega), sI_lml, sI_lml, sI_add, sI_sub (by omega), sI_add]
    unfold pqf
    rw [if_pos rfl]
    congr 3
    omega
/-- how many bits of octet q stand once j bits are put -/
def rrj (j q : Nat) : Nat := if j ≤ 8 * q then 0 else if 8 * q + 8 ≤ j then 8 else j - 8 * q
theorem xb {V j : Nat} : (V / 2 ^ (8 * (j / 8)) % 256) / 2 ^ (j % 8) % 2 = V / 2 ^ j % 2 := by
  have e : V / 2 ^ j = V / 2 ^ (8 * (j / 8)) / 2 ^ (j % 8) := by
    rw [Nat.div_div_eq_div_mul, ← Nat.pow_add, show 8 * (j / 8) + j % 8 = j from by omega]
  rw [e]
  generalize V / 2 ^ (8 * (j / 8)) = W
  have hr : j % 8 < 8 := Nat.mod_lt _ (by omega)
  generalize j % 8 = r at hr
  rcases r8 hr with e | e | e | e | e | e | e | e <;> subst e <;> simp only [Nat.reducePow] <;> omega
theorem m_writeP {fu k l n b i e o : Nat} {t : Bool} {v : Int64} {M : mwM} {L : mwL} {od : Nat → Nat} (hfu : 100 ≤ fu) (h : PuM M k l n b t i e o) (hod : ∀ q, q < (b + 7) / 8 → M (k + 15) (e + o + pqf t ((b + 7) / 8) q) = sI (od q) ∧ od q < 2 ^ (if b - 8 * q < 8 then b - 8 * q else 8)) : ∃ M', DX16_write fu k (sI l) v M L = some (M', L) ∧ (∀ q, q < (b + 7) / 8 → M' (k + 15) (e + o + pqf t ((b + 7) / 8) q) = sI (vq v b q)) ∧ ∀ a y, ¬ (a = k + 15 ∧ e + o ≤ y ∧ y < e + o + (b + 7) / 8) → M' a y = M a y := by
  have hb1 := h.2.2.2.2.2.2.1
  have hb2 := h.2.2.2.2.2.2.2.1
  have he : e ≤ 320 := h.2.2.2.2.2.2.2.2.2.2.2.2.2.2.2.2.1
  have ho : o + (b + 7) / 8 ≤ 8 := h.2.2.2.2.2.2.2.2.2.2.2.2.2.2.2.2.2
  have hl : l ≤ 40 := by have := h.2.1; have := h.2.2.2.1; omega
  have od8 : ∀ q, q < (b + 7) / 8 → od q < 256 := fun q hq => by
    have h1 := (hod q hq).2
    have h2 : 2 ^ (if b - 8 * q < 8 then b - 8 * q else 8) ≤ 2 ^ 8 := Nat.pow_le_pow_right (by omega) (by split <;> omega)
    omega
  unfold DX16_write
  have key : ∀ (r j w : Nat) (B : mwM), j + r = b → r < w → (∀ q, q < (b + 7) / 8 → B (k + 15) (e + o + pqf t ((b + 7) / 8) q) = sI (mx (uL v / 2 ^ (8 * q) % 256) (od q) (rrj j q))) → (∀ a y, ¬ (a = k + 15 ∧ e + o ≤ y ∧ y < e + o + (b + 7) / 8) → B a y = M a y) → ∃ M', fX16_write_h3 fu k (sI l) v w (sI j, B, L) = some (M', L) ∧ (∀ q, q < (b + 7) / 8 → M' (k + 15) (e + o + pqf t ((b + 7) / 8) q) = sI (vq v b q)) ∧ ∀ a y, ¬ (a = k + 15 ∧ e + o ≤ y ∧ y < e + o + (b + 7) / 8) → M' a y = M a y := by
    intro r
    induction r with
    | zero =>
      intro j w B hj hw h1 h2
      obtain ⟨w', rfl⟩ : ∃ y, w = y + 1 := ⟨w - 1, by omega⟩
      have ej : j = b := by omega
      subst ej
      refine ⟨B, ?_, fun q hq => ?_, h2⟩
      · show fX16_write_i3 fu k (sI l) v (fX16_write_h3 fu k (sI l) v w') (sI j) B L = _
        unfold fX16_write_i3
        rw [mck_s (by omega) (by omega), sI_nn (by omega), h2 _ _ (by omega), h.2.2.2.2.2.1, if_pos (by rw [sI_le (by omega) (by omega)]; omega)]
      · rw [h1 q hq]
        have er : rrj j q = if j - 8 * q < 8 then j - 8 * q else 8 := by unfold rrj; split <;> split <;> (try split) <;> omega
        rw [er, mx_w (hod q hq).2]
        unfold vq
        rw [Nat.mod_mod_of_dvd _ (show 2 ^ (if j - 8 * q < 8 then j - 8 * q else 8) ∣ 256 from ⟨2 ^ (8 - (if j - 8 * q < 8 then j - 8 * q else 8)), by rw [← Nat.pow_add, show (if j - 8 * q < 8 then j - 8 * q else 8) + (8 - (if j - 8 * q < 8 then j - 8 * q else 8)) = 8 from by split <;> omega]⟩)]
    | succ r ih =>
      intro j w B hj hw h1 h2
      obtain ⟨w', rfl⟩ : ∃ y, w = y + 1 := ⟨w - 1, by omega⟩
      have un : fX16_write_h3 fu k (sI l) v (w' + 1) (sI j, B, L) = fX16_write_i3 fu k (sI l) v (fX16_write_h3 fu k (sI l) v w') (sI j) B L := rfl
      rw [un]
      have hB : PuM B k l n b t i e o := PuM_f h (fun a y w => h2 a y (by omega))
      have hq0 : j / 8 < (b + 7) / 8 := by omega
      have hpq := pqf_lt (t := t) hq0
      have hr : j % 8 < 8 := Nat.mod_lt _ (by omega)
      have d8 : sI (8 * (e + o + pqf t ((b + 7) / 8) (j / 8)) + j % 8) / 8 = sI (e + o + pqf t ((b + 7) / 8) (j / 8)) := by
        have := sI_div (a := 8 * (e + o + pqf t ((b + 7) / 8) (j / 8)) + j % 8) (b := 8) (by omega) (by omega)
        rw [show (8 * (e + o + pqf t ((b + 7) / 8) (j / 8)) + j % 8) / 8 = e + o + pqf t ((b + 7) / 8) (j / 8) from by omega] at this
        exact this
      have m8 : sI (8 * (e + o + pqf t ((b + 7) / 8) (j / 8)) + j % 8) &&& 7 = sI (j % 8) := by
        rw [sI_a7, show (8 * (e + o + pqf t ((b + 7) / 8) (j / 8)) + j % 8) % 8 = j % 8 from by omega]
      have hv := h1 (j / 8) hq0
      have er : rrj j (j / 8) = j % 8 := by unfold rrj; split <;> (try split) <;> omega
      rw [er] at hv
      have er1 : rrj (j + 1) (j / 8) = j % 8 + 1 := by unfold rrj; split <;> (try split) <;> omega
      have hm := mx_lt (x := uL v / 2 ^ (8 * (j / 8)) % 256) (r := j % 8) (by omega) (od8 _ hq0)
      unfold fX16_write_i3 fX16_write_b83
      simp only [mlet]
      rw [mck_s (by omega) (by omega), sI_nn (show l < 2000000000 by omega), hB.2.2.2.2.2.1, if_neg (by rw [sI_le (by omega) (by omega)]; omega), m_where hB (by omega), mb3_s, d8, m8, mck_s (by omega) (by omega), mck_s (by omega) (by omega), mck_s (by omega) (by omega), mck_s (by omega) (by omega), sI_nn (by omega), hv, sI_1]
      have nxt : ∀ tb : Bool, (uL v / 2 ^ (8 * (j / 8)) % 256 / 2 ^ (j % 8) % 2 = 1) = (tb = true) → ∃ M', fX16_write_h3 fu k (sI l) v w' (sI (j + 1), mset B (k + 15) (e + o + pqf t ((b + 7) / 8) (j / 8)) (sI (stp (mx (uL v / 2 ^ (8 * (j / 8)) % 256) (od (j / 8)) (j % 8)) (j % 8) tb)), L) = some (M', L) ∧ (∀ q, q < (b + 7) / 8 → M' (k + 15) (e + o + pqf t ((b + 7) / 8) q) = sI (vq v b q)) ∧ ∀ a y, ¬ (a = k + 15 ∧ e + o ≤ y ∧ y < e + o + (b + 7) / 8) → M' a y = M a y := by
        intro tb htb
        rw [mx_st hr (od8 _ hq0) htb]
        refine ih (j + 1) w' _ (by omega) (by omega) (fun q hq => ?_) (fun a y w => by rw [mset_n (by omega)]; exact h2 a y w)
        by_cases eq : q = j / 8
        · subst eq
          rw [mset_s, er1]
        · have ne : pqf t ((b + 7) / 8) q ≠ pqf t ((b + 7) / 8) (j / 8) := fun w => eq (pqf_in hq hq0 w)
          rw [mset_n (by omega), h1 q hq]
          have : rrj (j + 1) q = rrj j q := by unfold rrj; split <;> split <;> (try split) <;> (try split) <;> omega
          rw [this]
      by_cases c : uL v / 2 ^ j % 2 = 1
      · rw [if_pos ((bit64 v (by omega)).mpr c), st_1 _ hr _ hm]
        exact nxt true (by rw [xb, c]; simp)
      · rw [if_neg (fun w => c ((bit64 v (by omega)).mp w)), st_0 _ hr _ hm]
        exact nxt false (by rw [xb]; simp [c])
  refine key b 0 fu M (by omega) (by omega) (fun q hq => ?_) (fun _ _ _ => rfl)
  rw [(hod q hq).1]
  have : rrj 0 q = 0 := by unfold rrj; rw [if_pos (by omega)]
  rw [this, mx_0]
theorem m_putP {fu k l n b i e o : Nat} {t : Bool} {v : Int64} {M : mwM} {L : mwL} {od : Nat → Nat} (hfu : 100 ≤ fu) (h : PuM M k l n b t i e o) (hod : ∀ q, q < (b + 7) / 8 → M (k + 15) (e + o + pqf t ((b + 7) / 8) q) = sI (od q) ∧ od q < 2 ^ (if b - 8 * q < 8 then b - 8 * q else 8)) : ∃ M', DX16_put fu k (sI l) v M L = some (M', L) ∧ (∀ q, q < (b + 7) / 8 → M' (k + 15) (e + o + pqf t ((b + 7) / 8) q) = sI (vq v b q)) ∧ ∀ a y, ¬ (a = k ∧ y = 0) → ¬ (a = k + 15 ∧ e + o ≤ y ∧ y < e + o + (b + 7) / 8) → M' a y = M a y := by
  have hB : PuM (mset M k 0 0) k l n b t i e o := PuM_f h (fun a y w => by rw [mset_n (by omega)])
  obtain ⟨M', k1, k2, k3⟩ := m_writeP (fu := fu) (v := v) (L := L) hfu hB (od := od) (fun q hq => by rw [mset_n (by omega)]; exact hod q hq)
  obtain ⟨h1, h2, h3, h4, h5, h6, h7, h8, h9, h10, h11, h12, h13, h14, h15, h16, h17, h18⟩ := hB
  refine ⟨M', ?_, k2, fun a y w1 w2 => by rw [k3 a y w2, mset_n w1]⟩
  unfold DX16_put fX16_put_b58
  rw [mlet_e, m_isNowhere h1 h5 h2 h3 h4 h12 h13 (by omega), mb3_s, if_pos (show (0 : Int32) = 0 from rfl), mck_s (by omega) (by omega), sI_nn (by omega), h11, mck_s (by omega) (by omega), mlet_e, mck_s (by omega) (by omega), h10, if_pos (show (-1 : Int32) < 0 by decide), k1, mb2_s]
