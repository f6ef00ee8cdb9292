/-! the reference: what a pack leaves -/
theorem s129 {s : Nat} : (129 : Int32) * 1 + sI s = sI (129 + s) := by
  rw [show (129 : Int32) * 1 = 129 from rfl, sI_lad]
/-- what a pack leaves: where the frames begin, what they hold, where the signals are -/
def PkE (M M' : mwM) (k n cap G : Nat) (fr oc : Nat → Nat) : Prop :=
  (∀ f, 1 ≤ f → f ≤ G → M' (k + 14) f = sI ((f - 1) * cap)) ∧ (∀ y, y < G * cap → M' (k + 15) y = 0) ∧ (∀ l, 1 ≤ l → l ≤ n → M' (k + 12) (129 + l) = sI (fr l) ∧ M' (k + 13) (129 + l) = sI (8 * oc l)) ∧ ∀ a y, ¬ (k + 9 ≤ a ∧ a ≤ k + 15) → M' a y = M a y
theorem m_packT {fu k n cap G : Nat} {pl zl fr oc bt : Nat → Nat} {tu : Nat → Bool} {M : mwM} {L : mwL} (hfu : 600 ≤ fu) (h : PvM M k n cap pl zl fr oc) (hs : PsG M k n bt tu) (h15 : M k 15 = 1) (hG : G ≤ 40) (h0 : ∀ l, 1 ≤ l → l ≤ n → fr l ≤ G) (hu : ∀ f, 1 ≤ f → f ≤ G → ∃ l, 1 ≤ l ∧ l ≤ n ∧ fr l = f) : ∃ M', fX16_pack_h68 fu k 5040 fu (0, 1, M, L) = some (sI G, M', L) ∧ PkE M M' k n cap G fr oc := by
  have hn := h.2.2.1
  have hcap := h.2.2.2.1
  have hgc : G * cap ≤ 320 := Nat.le_trans (Nat.mul_le_mul hG hcap) (by omega)
  have key3 : ∀ (r s q : Nat) (B : mwM), s + r = n + 1 → r < q → 1 ≤ s → (∀ f, 1 ≤ f → f ≤ G → B (k + 14) f = sI ((f - 1) * cap)) → (∀ y, y < G * cap → B (k + 15) y = 0) → (∀ l, 1 ≤ l → l < s → B (k + 12) (129 + l) = sI (fr l) ∧ B (k + 13) (129 + l) = sI (8 * oc l)) → (∀ a y, ¬ (k + 9 ≤ a ∧ a ≤ k + 15) → B a y = M a y) → ∃ M', fX16_pack_h160 fu k 5040 q (sI G, sI s, B, L) = some (sI G, M', L) ∧ PkE M M' k n cap G fr oc := by
    intro r
    induction r with
    | zero =>
      intro s q B hs' hq s1 q1 q2 q3 q4
      obtain ⟨q', rfl⟩ : ∃ y, q = y + 1 := ⟨q - 1, by omega⟩
      refine ⟨B, ?_, q1, q2, fun l l1 l2 => q3 l l1 (by omega), q4⟩
      show fX16_pack_i160 fu k 5040 (fX16_pack_h160 fu k 5040 q') (sI G) (sI s) B L = _
      unfold fX16_pack_i160
      rw [q4 _ _ (by omega), h.2.1, if_pos (by rw [sI_lt (by omega) (by omega)]; omega)]
    | succ r ih =>
      intro s q B hs' hq s1 q1 q2 q3 q4
      obtain ⟨q', rfl⟩ : ∃ y, q = y + 1 := ⟨q - 1, by omega⟩
      obtain ⟨a1, a2, a3, a4, a5, a6, a7, a8, a9, a10⟩ := h.2.2.2.2 s s1 (by omega)
      have c1 : B (k + 5) s = sI s := by rw [q4 _ _ (by omega)]; exact a1
      have c2 : B (k + 16) s = sI (fr s) := by rw [q4 _ _ (by omega)]; exact a7
      have c3 : B (k + 17) s = sI (oc s) := by rw [q4 _ _ (by omega)]; exact a9
      have c4 : B k 15 = 1 := by rw [q4 _ _ (by omega)]; exact h15
      have c5 : B k 2 = sI n := by rw [q4 _ _ (by omega)]; exact h.2.1
      have un : fX16_pack_h160 fu k 5040 (q' + 1) (sI G, sI s, B, L) = fX16_pack_i160 fu k 5040 (fX16_pack_h160 fu k 5040 q') (sI G) (sI s) B L := rfl
      rw [un]
      unfold fX16_pack_i160
      simp only [mlet]
      rw [c5, if_neg (by rw [sI_lt (by omega) (by omega)]; omega), mck_s (by omega) (by omega), sI_nn (show s < 2000000000 by omega), c1]
      generalize hB9 : mset B (k + 9) (sI s).toNatClampNeg (B (k + 16) (sI s).toNatClampNeg) = B9
      generalize hB10 : mset B9 (k + 10) (sI s).toNatClampNeg (B9 (k + 17) (sI s).toNatClampNeg) = B10
      generalize hB11 : mset B10 (k + 11) (sI s).toNatClampNeg (vp_nar .boolean 1) = B11
      rw [sI_nn (show s < 2000000000 by omega)] at hB9 hB10 hB11
      have t0 : ∀ a y, ¬ (k + 9 ≤ a ∧ a ≤ k + 11) → B11 a y = B a y := fun a y w => by rw [← hB11, mset_n (by omega), ← hB10, mset_n (by omega), ← hB9, mset_n (by omega)]
      have t9 : B11 (k + 9) s = sI (fr s) := by rw [← hB11, mset_n (by omega), ← hB10, mset_n (by omega), ← hB9, mset_s, c2]
      have t10 : B11 (k + 10) s = sI (oc s) := by rw [← hB11, mset_n (by omega), ← hB10, mset_s, ← hB9, mset_n (by omega), c3]
      rw [t0 k 15 (by omega), c4, s129, sI_nn (show 129 + s < 2000000000 by omega), sI_nn (show s < 2000000000 by omega), t9]
      generalize hB12 : mset B11 (k + 12) (129 + s) (sI (fr s)) = B12
      have t1 : ∀ a y, ¬ (k + 9 ≤ a ∧ a ≤ k + 15) → B12 a y = M a y := fun a y w => by rw [← hB12, mset_n (by omega), t0 a y (by omega)]; exact q4 a y w
      have t15 : B12 k 15 = 1 := by rw [t1 _ _ (by omega)]; exact h15
      have t101 : B12 (k + 10) s = sI (oc s) := by rw [← hB12, mset_n (by omega)]; exact t10
      rw [m_bitIn (by omega) (PsG_f hs (fun a y w => t1 a y (by omega))) s1 (by omega), mb3_s, t15, s129, sI_nn (show 129 + s < 2000000000 by omega), t101, sI_lml, sI_1]
      rw [mck_s (show s < 129 by omega) (by omega), mck_s (show s < 129 by omega) (by omega), mck_s (show s < 129 by omega) (by omega), mck_s (show s < 129 by omega) (by omega), mck_s (show s < 129 by omega) (by omega), mck_s (show s < 129 by omega) (by omega), mck_s (show 129 + s < 2193 by omega) (by omega), mck_s (show s < 129 by omega) (by omega), mck_s (show 129 + s < 2193 by omega) (by omega)]
      have e0 : sI (8 * oc s) + 0 = sI (8 * oc s) := by rw [show (0 : Int32) = sI 0 from rfl, sI_add, Nat.add_zero]
      rw [e0]
      have t2 : ∀ a y, ¬ (k + 9 ≤ a ∧ a ≤ k + 11) → ¬ (a = k + 12 ∧ y = 129 + s) → B12 a y = B a y := fun a y w1 w2 => by rw [← hB12, mset_n (by omega)]; exact t0 a y w1
      refine ih (s + 1) q' (mset B12 (k + 13) (129 + s) (sI (8 * oc s))) (by omega) (by omega) (by omega) (fun f f1 f2 => ?_) (fun y hy => ?_) (fun l l1 l2 => ?_) (fun a y w => ?_)
      · rw [mset_n (by omega), t2 _ _ (by omega) (by omega)]; exact q1 f f1 f2
      · rw [mset_n (by omega), t2 _ _ (by omega) (by omega)]; exact q2 y hy
      · by_cases e : l = s
        · subst e
          refine ⟨by rw [mset_n (by omega), ← hB12, mset_s], by rw [mset_s]⟩
        · obtain ⟨d1, d2⟩ := q3 l l1 (by omega)
          refine ⟨by rw [mset_n (by omega), t2 _ _ (by omega) (by omega)]; exact d1, by rw [mset_n (by omega), t2 _ _ (by omega) (by omega)]; exact d2⟩
      · rw [mset_n (by omega)]; exact t1 a y w
  have key2 : ∀ (r y q : Nat) (B : mwM), y + r = G * cap → r < q → (∀ f, 1 ≤ f → f ≤ G → B (k + 14) f = sI ((f - 1) * cap)) → (∀ x, x < y → B (k + 15) x = 0) → (∀ a y, ¬ (k + 9 ≤ a ∧ a ≤ k + 15) → B a y = M a y) → ∃ M', fX16_pack_h131 fu k 5040 q (sI G, sI y, B, L) = some (sI G, M', L) ∧ PkE M M' k n cap G fr oc := by
    intro r
    induction r with
    | zero =>
      intro y q B hy hq q1 q2 q3
      obtain ⟨q', rfl⟩ : ∃ y, q = y + 1 := ⟨q - 1, by omega⟩
      have un : fX16_pack_h131 fu k 5040 (q' + 1) (sI G, sI y, B, L) = fX16_pack_i131 fu k 5040 (fX16_pack_h131 fu k 5040 q') (sI G) (sI y) B L := rfl
      rw [un]
      unfold fX16_pack_i131
      rw [q3 k 1 (by omega), h.1, sI_mul, if_pos (by rw [sI_le (by omega) (by omega)]; omega)]
      exact key3 n 1 fu B (by omega) (by omega) (by omega) q1 (fun x hx => q2 x (by omega)) (fun l l1 l2 => by omega) q3
    | succ r ih =>
      intro y q B hy hq q1 q2 q3
      obtain ⟨q', rfl⟩ : ∃ y, q = y + 1 := ⟨q - 1, by omega⟩
      have un : fX16_pack_h131 fu k 5040 (q' + 1) (sI G, sI y, B, L) = fX16_pack_i131 fu k 5040 (fX16_pack_h131 fu k 5040 q') (sI G) (sI y) B L := rfl
      rw [un]
      unfold fX16_pack_i131
      simp only [mlet]
      rw [q3 k 1 (by omega), h.1, sI_mul, if_neg (by rw [sI_le (by omega) (by omega)]; omega), mck_s (by omega) (by omega), sI_nn (by omega), sI_1]
      refine ih (y + 1) q' (mset B (k + 15) y 0) (by omega) (by omega) (fun f f1 f2 => by rw [mset_n (by omega)]; exact q1 f f1 f2) (fun x hx => ?_) (fun a x w => by rw [mset_n (by omega)]; exact q3 a x w)
      by_cases e : x = y
      · rw [e, mset_s]
      · rw [mset_n (by omega)]; exact q2 x (by omega)
  have key1 : ∀ (r f q : Nat) (B : mwM), f + r = 65 → r < q → 1 ≤ f → (∀ x, 1 ≤ x → x < f → x ≤ G → B (k + 14) x = sI ((x - 1) * cap)) → (∀ a y, ¬ (k + 9 ≤ a ∧ a ≤ k + 15) → B a y = M a y) → ∃ M', fX16_pack_h68 fu k 5040 q (sI (if f ≤ G then f - 1 else G), sI f, B, L) = some (sI G, M', L) ∧ PkE M M' k n cap G fr oc := by
    intro r
    induction r with
    | zero =>
      intro f q B hf hq f1 q1 q2
      obtain ⟨q', rfl⟩ : ∃ y, q = y + 1 := ⟨q - 1, by omega⟩
      have un : fX16_pack_h68 fu k 5040 (q' + 1) (sI (if f ≤ G then f - 1 else G), sI f, B, L) = fX16_pack_i68 fu k 5040 (fX16_pack_h68 fu k 5040 q') (sI (if f ≤ G then f - 1 else G)) (sI f) B L := rfl
      rw [un]
      unfold fX16_pack_i68
      rw [if_pos (by rw [sI_lle (by decide) (by omega)]; omega), if_neg (show ¬ f ≤ G by omega)]
      exact key2 (G * cap) 0 fu B (by omega) (by omega) (fun x x1 x2 => q1 x x1 (by omega) x2) (fun x hx => by omega) q2
    | succ r ih =>
      intro f q B hf hq f1 q1 q2
      obtain ⟨q', rfl⟩ : ∃ y, q = y + 1 := ⟨q - 1, by omega⟩
      have un : fX16_pack_h68 fu k 5040 (q' + 1) (sI (if f ≤ G then f - 1 else G), sI f, B, L) = fX16_pack_i68 fu k 5040 (fX16_pack_h68 fu k 5040 q') (sI (if f ≤ G then f - 1 else G)) (sI f) B L := rfl
      rw [un]
      have hB : PvM B k n cap pl zl fr oc := PvM_f h (fun a y w => q2 a y (by omega))
      unfold fX16_pack_i68 fX16_pack_b101 fX16_pack_b120
      simp only [mlet]
      rw [if_neg (by rw [sI_lle (by decide) (by omega)]; omega), m_isUsed (by omega) hB (by omega), mb3_s, mck_s (by omega) (by omega), mck_s (by omega) (by omega), sI_nn (by omega), hB.1, sI_1]
      by_cases c : f ≤ G
      · obtain ⟨l, l1, l2, l3⟩ := hu f f1 c
        have eu : ex1 (fun l => decide (fr l = f)) n = true := ex1_t.mpr ⟨l, l1, l2, decide_eq_true l3⟩
        rw [eu, bI_t, if_neg (show ¬ (1 : Int32) = 0 by decide), if_pos c, sI_mul]
        have nx := ih (f + 1) q' (mset B (k + 14) f (sI ((f - 1) * cap))) (by omega) (by omega) (by omega) (fun x x1 x2 x3 => by
          by_cases e : x = f
          · rw [e, mset_s]
          · rw [mset_n (by omega)]; exact q1 x x1 (by omega) x3) (fun a y w => by rw [mset_n (by omega)]; exact q2 a y w)
        have hB2 : PvM (mset B (k + 14) f (sI ((f - 1) * cap))) k n cap pl zl fr oc := PvM_f hB (fun a y w => by rw [mset_n (by omega)])
        rw [m_isUsed (by omega) hB2 (by omega), mb3_s, eu, bI_t, if_neg (show ¬ (1 : Int32) = 0 by decide), sI_1]
        have e2 : (if f + 1 ≤ G then f + 1 - 1 else G) = f - 1 + 1 := by split <;> omega
        rw [e2] at nx
        exact nx
      · have eu : ex1 (fun l => decide (fr l = f)) n = false := ex1_f.mpr (fun l l1 l2 => decide_eq_false (fun w => by have := h0 l l1 l2; omega))
        rw [eu, bI_f, if_pos (show (0 : Int32) = 0 from rfl), if_neg c]
        have nx := ih (f + 1) q' (mset B (k + 14) f (-1)) (by omega) (by omega) (by omega) (fun x x1 x2 x3 => by
          rw [mset_n (by omega)]; exact q1 x x1 (by omega) x3) (fun a y w => by rw [mset_n (by omega)]; exact q2 a y w)
        have hB2 : PvM (mset B (k + 14) f (-1)) k n cap pl zl fr oc := PvM_f hB (fun a y w => by rw [mset_n (by omega)])
        rw [m_isUsed (by omega) hB2 (by omega), mb3_s, eu, bI_f, if_pos (show (0 : Int32) = 0 from rfl)]
        rw [if_neg (by omega)] at nx
        exact nx
  have st := key1 64 1 fu M (by omega) (by omega) (by omega) (fun x x1 x2 => by omega) (fun _ _ _ => rfl)
  have e0 : (if 1 ≤ G then 1 - 1 else G) = 0 := by split <;> omega
  rw [e0] at st
  exact st
