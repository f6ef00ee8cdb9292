/-! THE KEYS as the reference's constructor makes them -/
def kyI (M0 : mwM) (c i : Nat) (M : mwM) : Prop := M 854 1 = sI c ∧ M 856 c = sI (i % 16) ∧ (∀ k, c < k → M 856 k = 0) ∧ (∀ k, 1 ≤ k → k < c → ∀ j, j < 16 → M 855 (16 * k + j) = sI (k + j)) ∧ (∀ j, j < i → M 855 (16 * c + j) = sI (c + j)) ∧ ∀ a y, a ≠ 855 → a ≠ 856 → ¬ (a = 854 ∧ y ≤ 1) → M a y = M0 a y
theorem ky_mod : ∀ i, i < 16 → (sI i + 1) - (sI i + 1) / 16 * 16 = sI ((i + 1) % 16) := by decide +kernel
theorem ky_byte : ∀ c, c ≤ 16 → ∀ i, i < 16 → ((sI c + sI i).toInt8.toInt32) &&& 255 = sI (c + i) := by decide +kernel
theorem m_key14 {fu c : Nat} {M0 M : mwM} {L : mwL} (hc : c < 16) (h1 : M 854 1 = sI c) (h6 : ∀ k, c < k → M 856 k = 0) (h5 : ∀ k, 1 ≤ k → k ≤ c → ∀ j, j < 16 → M 855 (16 * k + j) = sI (k + j)) (hk : ∀ a y, a ≠ 855 → a ≠ 856 → ¬ (a = 854 ∧ y ≤ 1) → M a y = M0 a y) : ∃ M', DX14_key fu M L = some (sI (c + 1), M', L) ∧ kyI M0 (c + 1) 0 M' := by
  unfold DX14_key
  simp only [mlet_e]
  rw [mset_n (show ¬ (854 = 854 ∧ 1 = 0) by omega), h1, if_neg (show ¬ sI c = 16 by rw [sI_eql (by omega) (by decide)]; omega), sI_1]
  refine ⟨_, by rw [mset_s], mset_s, ?_, fun k hk9 => ?_, fun k u1 u2 j hj => ?_, fun j hj => by omega, fun a y u1 u2 u3 => ?_⟩
  · rw [mset_n (by omega), mset_n (by omega)]; exact h6 _ (by omega)
  · rw [mset_n (by omega), mset_n (by omega)]; exact h6 _ (by omega)
  · rw [mset_n (by omega), mset_n (by omega)]; exact h5 k u1 (by omega) j hj
  · rw [mset_n (by omega), mset_n (by omega)]; exact hk a y u1 u2 u3
theorem m_byte14 {fu c i : Nat} {M0 M : mwM} {L : mwL} {x : Int32} (hc : 1 ≤ c ∧ c ≤ 16) (hi : i < 16) (hx : x &&& 255 = sI (c + i)) (h : kyI M0 c i M) : ∃ M', DX14_keyByte fu (sI c) x M L = some (M', L) ∧ kyI M0 c (i + 1) M' := by
  obtain ⟨h1, h2, h3, h4, h5, hk⟩ := h
  unfold DX14_keyByte DX14_noKey fX14_noKey_b23
  simp only [mlet_e]
  have e1 : mset M 854 0 0 854 1 = sI c := by rw [mset_n (by omega)]; exact h1
  rw [e1, if_neg (show ¬ sI c < 1 by rw [sI_ltl (by omega) (by decide)]; omega), if_pos (show sI c ≤ sI c by rw [sI_le (by omega) (by omega)]; omega), mzz_0, mb3_s, if_pos (show (0 : Int32) = 0 from rfl), mck_s (show c < 17 by omega) (by omega), sI_nn (by omega)]
  have e2 : mset M 854 0 0 856 c = sI i := by rw [mset_n (by omega), h2, Nat.mod_eq_of_lt hi]
  rw [e2, show (16 : Int32) * sI c + sI i = sI (16 * c + i) by rw [show (16 : Int32) * sI c = sI (16 * c) from sI_lml, sI_add], mck_s (by omega) (by omega), mck_s (show c < 17 by omega) (by omega), mck_s (show c < 17 by omega) (by omega), sI_nn (by omega)]
  rw [mset_n (show ¬ (856 = 855 ∧ c = 16 * c + i) by omega), e2, ky_mod i hi, hx]
  refine ⟨_, rfl, ?_, mset_s, fun k hk9 => ?_, fun k u1 u2 j hj => ?_, fun j hj => ?_, fun a y u1 u2 u3 => ?_⟩
  · rw [mset_n (by omega), mset_n (by omega)]; exact e1
  · rw [mset_n (by omega), mset_n (by omega), mset_n (by omega)]; exact h3 k hk9
  · rw [mset_n (by omega), mset_n (by omega), mset_n (by omega)]; exact h4 k u1 u2 j hj
  · by_cases e : j = i
    · rw [e, mset_n (by omega), mset_s]
    · rw [mset_n (by omega), mset_n (by omega), mset_n (by omega)]; exact h5 j (by omega)
  · rw [mset_n (by omega), mset_n (by omega), mset_n (by omega)]; exact hk a y u1 u2 u3
theorem m_730 {fu c : Nat} {M0 : mwM} {L : mwL} {Q : mwM → Prop} (hc : 1 ≤ c ∧ c ≤ 16) (r714 : (Int32 × mwM × mwL) → Option (mwM × mwL)) (hr : ∀ M', kyI M0 c 16 M' → ∃ M9, r714 (sI (c + 1), M', L) = some (M9, L) ∧ Q M9) : ∀ (n i f : Nat) (M : mwM), i + n = 16 → n < f → kyI M0 c i M → ∃ M9, fX19_tail_h730 fu r714 f (sI c, sI c, sI i, M, L) = some (M9, L) ∧ Q M9 := by
  intro n
  induction n with
  | zero =>
    intro i f M hi hf hk
    obtain ⟨f, rfl⟩ : ∃ g, f = g + 1 := ⟨f - 1, by omega⟩
    have : i = 16 := by omega
    subst this
    show ∃ M9, fX19_tail_i730 fu r714 (fX19_tail_h730 fu r714 f) (sI c) (sI c) (sI 16) M L = some (M9, L) ∧ Q M9
    unfold fX19_tail_i730
    rw [if_pos (show (16 : Int32) ≤ sI 16 by decide), mlet_e, sI_1]
    exact hr M hk
  | succ n ih =>
    intro i f M hi hf hk
    obtain ⟨f, rfl⟩ : ∃ g, f = g + 1 := ⟨f - 1, by omega⟩
    show ∃ M9, fX19_tail_i730 fu r714 (fX19_tail_h730 fu r714 f) (sI c) (sI c) (sI i) M L = some (M9, L) ∧ Q M9
    unfold fX19_tail_i730
    obtain ⟨M', e, hk'⟩ := m_byte14 (fu := fu) (L := L) (x := (sI c + sI i).toInt8.toInt32) hc (show i < 16 by omega) (ky_byte c hc.2 i (by omega)) hk
    rw [if_neg (show ¬ (16 : Int32) ≤ sI i by rw [show (16 : Int32) = sI 16 from rfl, sI_le (by omega) (by omega)]; omega), e, mb2_s, mlet_e, sI_1]
    exact ih (i + 1) f M' (by omega) (by omega) hk'
theorem m_714 {fu : Nat} {M0 : mwM} {L : mwL} (hfu : 300 ≤ fu) : ∀ (n c f : Nat) (M : mwM), c + n = 16 → n < f → M 854 1 = sI c → (∀ k, c < k → M 856 k = 0) → (∀ k, 1 ≤ k → k ≤ c → ∀ j, j < 16 → M 855 (16 * k + j) = sI (k + j)) → (∀ a y, a ≠ 855 → a ≠ 856 → ¬ (a = 854 ∧ y ≤ 1) → M a y = M0 a y) → ∃ M9, fX19_tail_h714 fu f (sI (c + 1), M, L) = some (M9, L) ∧ M9 854 1 = sI 16 ∧ (∀ k, 1 ≤ k → k ≤ 16 → ∀ j, j < 16 → M9 855 (16 * k + j) = sI (k + j)) ∧ ∀ a y, a ≠ 855 → a ≠ 856 → ¬ (a = 854 ∧ y ≤ 1) → M9 a y = M0 a y := by
  intro n
  induction n with
  | zero =>
    intro c f M hc hf h1 h6 h5 hk
    obtain ⟨f, rfl⟩ : ∃ g, f = g + 1 := ⟨f - 1, by omega⟩
    have : c = 16 := by omega
    subst this
    refine ⟨M, ?_, h1, h5, hk⟩
    show fX19_tail_i714 fu (fX19_tail_h714 fu f) (sI (16 + 1)) M L = _
    unfold fX19_tail_i714
    rw [if_pos (show (16 : Int32) < sI (16 + 1) by decide)]
  | succ n ih =>
    intro c f M hc hf h1 h6 h5 hk
    obtain ⟨f, rfl⟩ : ∃ g, f = g + 1 := ⟨f - 1, by omega⟩
    obtain ⟨M', e, hk'⟩ := m_key14 (fu := fu) (L := L) (show c < 16 by omega) h1 h6 h5 hk
    have g := m_730 (fu := fu) (c := c + 1) (M0 := M0) (L := L) (Q := fun M9 => M9 854 1 = sI 16 ∧ (∀ k, 1 ≤ k → k ≤ 16 → ∀ j, j < 16 → M9 855 (16 * k + j) = sI (k + j)) ∧ ∀ a y, a ≠ 855 → a ≠ 856 → ¬ (a = 854 ∧ y ≤ 1) → M9 a y = M0 a y) (by omega) (fX19_tail_h714 fu f) (fun M2 q => by
      obtain ⟨q1, q2, q3, q4, q5, q6⟩ := q
      exact ih (c + 1) f M2 (by omega) (by omega) q1 q3 (fun k u1 u2 j hj => by
        by_cases e : k = c + 1
        · rw [e]; exact q5 j hj
        · exact q4 k u1 (by omega) j hj) q6) 16 0 fu M' (by omega) (by omega) hk'
    obtain ⟨M9, g1, g2⟩ := g
    refine ⟨M9, ?_, g2⟩
    rw [← g1]
    show fX19_tail_i714 fu (fX19_tail_h714 fu f) (sI (c + 1)) M L = _
    unfold fX19_tail_i714
    rw [if_neg (show ¬ (16 : Int32) < sI (c + 1) by rw [show (16 : Int32) = sI 16 from rfl, sI_lt (by omega) (by omega)]; omega), e, mb3_s]
    rfl
theorem m_tail19 {fu : Nat} {M : mwM} {L : mwL} (hfu : 300 ≤ fu) (h1 : M 854 1 = 0) (h6 : ∀ k, M 856 k = 0) : ∃ M9, DX19_tail fu M L = some (M9, L) ∧ M9 854 1 = sI 16 ∧ (∀ k, 1 ≤ k → k ≤ 16 → ∀ j, j < 16 → M9 855 (16 * k + j) = sI (k + j)) ∧ ∀ a y, a ≠ 855 → a ≠ 856 → ¬ (a = 854 ∧ y ≤ 1) → M9 a y = M a y := m_714 hfu 16 0 fu M (by omega) (by omega) h1 (fun k _ => h6 k) (fun k u1 u2 => by omega) (fun _ _ _ _ _ => rfl)
