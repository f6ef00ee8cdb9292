/-! guards -/
theorem m_note {fu : Nat} {M : mwM} {L : mwL} {q rw' : Nat} {a b : Int32} {c : Int64} (h : M q 31 = sI rw') (hr : rw' ≤ 500) : wq (DX13_note fu q a b c M L) (fun z => z.2 = L ∧ (∃ rw2, rw2 ≤ 500 ∧ z.1 q 31 = sI rw2) ∧ ∀ b y, ¬ (b = q ∧ y = 31) → b ≠ q + 22 → z.1 b y = M b y) := by
  unfold DX13_note
  rw [h]
  by_cases h5 : rw' = 500
  · rw [if_pos (by rw [h5]; rfl)]
    exact wq_some ⟨rfl, ⟨rw', hr, h⟩, fun _ _ _ _ => rfl⟩
  · have e31 : ∀ (X : mwM) (j : Nat) (v : Int32), mset X (q + 22) j v q 31 = X q 31 := fun X j v => mset_k (by omega)
    rw [if_neg (by rw [sI_eql (by omega) (by omega)]; exact h5)]
    simp (disch := omega) only [mlet, sI_lml, sI_1, sI_adl, e31, h, mck_s, sI_nn]
    refine wq_some ⟨rfl, ⟨rw' + 1, by omega, ?_⟩, ?_⟩
    · try dsimp only
      rw [mset_s]
    · intro b' y h1 h2
      try dsimp only
      rw [mset_n h1, mset_k h2, mset_k h2, mset_k h2]
/-- what a guard says: its operation, its first datum, its second -/
def gOp (g : Nat) : Nat := g % 8
def gA (g : Nat) : Nat := g / 8 % 32
def gB (g : Nat) : Nat := g / 256 % 32
def cmpB (op : Nat) (a b : Int64) : Bool := if op = 1 then decide (a = b) else if op = 2 then decide (a ≠ b) else if op = 3 then decide (a < b) else if op = 4 then decide (b ≤ a) else if op = 5 then decide (a / b ≠ 0) else decide (a - a / b * b = 0)
/-- by zero -/
def zrB (op : Nat) (b : Int64) : Bool := decide (5 ≤ op) && decide (b = 0)
theorem c_compare {fu k op : Nat} {A : mwM} {L : mwL} {a b : Int64} (h0 : 1 ≤ op) (ho : op ≤ 6) : DX2_compare fu k (sI op) a b A L = some (if zrB op b = true then (0, mset A k 15 (A k 15 + 1), L) else (bI (cmpB op a b), A, L)) := by
  unfold DX2_compare
  have go : (5 ≤ op → ¬ b = 0) → fX2_compare_b24 fu k (sI op) a b A L = some (bI (cmpB op a b), A, L) := by
    intro hb
    unfold fX2_compare_b24 fX2_compare_b72 fX2_compare_b85 fX2_compare_b98 fX2_compare_b111 fX2_compare_b126 fX2_compare_b141 cmpB
    simp only [mlet]
    by_cases h1 : op = 1
    · rw [if_pos (by rw [h1]; rfl), if_pos h1]
      by_cases hq : a = b
      · rw [if_pos ((lg_cmp_eq _ _).mpr hq), decide_eq_true hq]; rfl
      · rw [if_neg (fun z => hq ((lg_cmp_eq _ _).mp z)), decide_eq_false hq]; rfl
    · rw [if_neg (by rw [sI_eql (by omega) (by omega)]; exact h1), if_neg h1]
      by_cases h2 : op = 2
      · rw [if_pos (by rw [h2]; rfl), if_pos h2]
        by_cases hq : a = b
        · rw [if_pos ((lg_cmp_eq _ _).mpr hq), decide_eq_false (fun z => z hq)]; rfl
        · rw [if_neg (fun z => hq ((lg_cmp_eq _ _).mp z)), decide_eq_true hq]; rfl
      · rw [if_neg (by rw [sI_eql (by omega) (by omega)]; exact h2), if_neg h2]
        by_cases h3 : op = 3
        · rw [if_pos (by rw [h3]; rfl), if_pos h3]
          by_cases hq : b ≤ a
          · rw [if_pos ((lg_cmp_ge _ _).mpr hq), decide_eq_false (Int64.not_lt.mpr hq)]; rfl
          · rw [if_neg (fun z => hq ((lg_cmp_ge _ _).mp z)), decide_eq_true (Int64.not_le.mp hq)]; rfl
        · rw [if_neg (by rw [sI_eql (by omega) (by omega)]; exact h3), if_neg h3]
          by_cases h4 : op = 4
          · rw [if_pos (by rw [h4]; rfl), if_pos h4]
            by_cases hq : b ≤ a
            · rw [if_neg (fun z => Int64.not_lt.mpr hq ((lg_cmp_lt _ _).mp z)), decide_eq_true hq]; rfl
            · rw [if_pos ((lg_cmp_lt _ _).mpr (Int64.not_le.mp hq)), decide_eq_false hq]; rfl
          · rw [if_neg (by rw [sI_eql (by omega) (by omega)]; exact h4), if_neg h4]
            have hz := hb (by omega)
            by_cases h5 : op = 5
            · rw [if_pos (by rw [h5]; rfl), if_pos h5]
              unfold mnzL
              rw [if_neg hz]
              by_cases hq : a / b = 0
              · rw [if_pos ((lg_cmp_eq _ _).mpr hq), decide_eq_false (fun z => z hq)]; rfl
              · rw [if_neg (fun z => hq ((lg_cmp_eq _ _).mp z)), decide_eq_true hq]; rfl
            · rw [if_neg (by rw [sI_eql (by omega) (by omega)]; exact h5), if_neg h5]
              unfold mnzL
              rw [if_neg hz]
              by_cases hq : a - a / b * b = 0
              · rw [if_pos ((lg_cmp_eq _ _).mpr hq), decide_eq_true hq]; rfl
              · rw [if_neg (fun z => hq ((lg_cmp_eq _ _).mp z)), decide_eq_false hq]; rfl
  unfold zrB
  by_cases h5 : op < 5
  · rw [if_pos (by rw [sI_ltl (by omega) (by omega)]; exact h5), go (fun z => by omega), decide_eq_false (show ¬ 5 ≤ op by omega)]
    rfl
  · rw [if_neg (by rw [sI_ltl (by omega) (by omega)]; exact h5), decide_eq_true (show 5 ≤ op by omega)]
    by_cases hz : b = 0
    · rw [if_pos ((lg_cmp_eq _ _).mpr hz), decide_eq_true hz]
      rfl
    · rw [if_neg (fun z => hz ((lg_cmp_eq _ _).mp z)), go (fun _ => hz), decide_eq_false hz]
      rfl
theorem m_ask {fu op : Nat} {M : mwM} {L : mwL} {a b : Int64} (h0 : 1 ≤ op) (ho : op ≤ 6) (hz : zrB op b = false) : DX13_ask fu (sI op) a b M L = some ((if cmpB op a b = true then 1 else 0), M, L) := by
  have hb : 5 ≤ op → ¬ b = 0 := by
    intro h5 hb0
    unfold zrB at hz
    rw [decide_eq_true h5, decide_eq_true hb0] at hz
    cases hz
  unfold DX13_ask fX13_ask_b16 fX13_ask_b33 fX13_ask_b50 fX13_ask_b67 fX13_ask_b86 fX13_ask_b104 cmpB
  by_cases h1 : op = 1
  · rw [if_pos (by rw [h1]; rfl), if_pos h1]
    by_cases hq : a = b
    · rw [if_pos ((lg_cmp_eq _ _).mpr hq), decide_eq_true hq]; rfl
    · rw [if_neg (fun z => hq ((lg_cmp_eq _ _).mp z)), decide_eq_false hq]; rfl
  · rw [if_neg (by rw [sI_eql (by omega) (by omega)]; exact h1), if_neg h1]
    by_cases h2 : op = 2
    · rw [if_pos (by rw [h2]; rfl), if_pos h2]
      by_cases hq : a = b
      · rw [if_pos ((lg_cmp_eq _ _).mpr hq), decide_eq_false (fun z => z hq)]; rfl
      · rw [if_neg (fun z => hq ((lg_cmp_eq _ _).mp z)), decide_eq_true hq]; rfl
    · rw [if_neg (by rw [sI_eql (by omega) (by omega)]; exact h2), if_neg h2]
      by_cases h3 : op = 3
      · rw [if_pos (by rw [h3]; rfl), if_pos h3]
        by_cases hq : b ≤ a
        · rw [if_pos ((lg_cmp_ge _ _).mpr hq), decide_eq_false (Int64.not_lt.mpr hq)]; rfl
        · rw [if_neg (fun z => hq ((lg_cmp_ge _ _).mp z)), decide_eq_true (Int64.not_le.mp hq)]; rfl
      · rw [if_neg (by rw [sI_eql (by omega) (by omega)]; exact h3), if_neg h3]
        by_cases h4 : op = 4
        · rw [if_pos (by rw [h4]; rfl), if_pos h4]
          by_cases hq : b ≤ a
          · rw [if_pos ((lg_cmp_ge _ _).mpr hq), decide_eq_true hq]; rfl
          · rw [if_neg (fun z => hq ((lg_cmp_ge _ _).mp z)), decide_eq_false hq]; rfl
        · rw [if_neg (by rw [sI_eql (by omega) (by omega)]; exact h4), if_neg h4]
          have hz2 := hb (by omega)
          by_cases h5 : op = 5
          · rw [if_pos (by rw [h5]; rfl), if_pos h5]
            unfold mnzL
            rw [if_neg hz2]
            by_cases hq : a / b = 0
            · rw [if_pos ((lg_cmp_eq _ _).mpr hq), decide_eq_false (fun z => z hq)]; rfl
            · rw [if_neg (fun z => hq ((lg_cmp_eq _ _).mp z)), decide_eq_true hq]; rfl
          · rw [if_neg (by rw [sI_eql (by omega) (by omega)]; exact h5), if_neg h5]
            unfold mnzL
            rw [if_neg hz2]
            by_cases hq : a - a / b * b = 0
            · rw [if_pos ((lg_cmp_eq _ _).mpr hq), decide_eq_true hq]; rfl
            · rw [if_neg (fun z => hq ((lg_cmp_eq _ _).mp z)), decide_eq_false hq]; rfl
/-- the second value of a guard -/
def gV (D : Nat → Int64) (g : Nat) : Int64 := if g < 8192 then D (gB g) else sL (gB g)
def hdB (D : Nat → Int64) (g : Nat) : Bool := if g = 0 then true else (!zrB (gOp g) (gV D g) && cmpB (gOp g) (D (gA g)) (gV D g))
def hzB (D : Nat → Int64) (g : Nat) : Bool := if g = 0 then false else zrB (gOp g) (gV D g)
/-- what was seen of an edge: taken, held, not held -/
def sn (u h f : Bool) : Nat := (if u = true then 1 else 0) + (if h = true then 2 else 0) + (if f = true then 4 else 0)
theorem sn_h (u h f : Bool) : sI (sn u h f) ||| 2 = sI (sn u true f) := by cases u <;> cases h <;> cases f <;> decide
theorem sn_f (u h f : Bool) : sI (sn u h f) ||| 4 = sI (sn u h true) := by cases u <;> cases h <;> cases f <;> decide
theorem sn_u (u h f : Bool) : sI (sn u h f) ||| 1 = sI (sn true h f) := by cases u <;> cases h <;> cases f <;> decide
theorem sn_lt (u h f : Bool) : sn u h f < 8 := by cases u <;> cases h <;> cases f <;> decide
/-- the class: whether an edge's guard holds -/
theorem c_holds {fu k g e : Nat} {A : mwM} {L : mwL} {u h f : Bool} (he : e ≤ 400) (hg : g < 16384) (hg2 : g = 0 ∨ (1 ≤ g % 8 ∧ g % 8 ≤ 6)) (h24 : A (k + 24) e = sI g) (h26 : A (k + 26) e = sI (sn u h f)) : wq (DX2_holds fu k (sI e) A L) (fun z => z.1 = bI (hdB (L (k + 34)) g) ∧ z.2.2 = L ∧ z.2.1 (k + 26) e = sI (sn u (h || (decide (g ≠ 0) && hdB (L (k + 34)) g)) (f || (decide (g ≠ 0) && !hdB (L (k + 34)) g))) ∧ z.2.1 k 15 = (if hzB (L (k + 34)) g = true then A k 15 + 1 else A k 15) ∧ ∀ b y, ¬ (b = k + 26 ∧ y = e) → ¬ (b = k ∧ y = 15) → z.2.1 b y = A b y) := by
  unfold DX2_holds
  rw [mck_s (by omega) (by omega), sI_nn (by omega), h24]
  simp only [mlet]
  by_cases h0 : g = 0
  · rw [if_pos (by rw [h0]; rfl)]
    have e1 : hdB (L (k + 34)) g = true := by unfold hdB; rw [if_pos h0]
    have e2 : hzB (L (k + 34)) g = false := by unfold hzB; rw [if_pos h0]
    rw [e1, e2]
    refine wq_some ⟨rfl, rfl, ?_, rfl, fun _ _ _ _ => rfl⟩
    try dsimp only
    rw [h26, h0]
    simp
  · rw [if_neg (by rw [sI_eql (by omega) (by decide)]; exact h0)]
    obtain ⟨o1, o2⟩ : 1 ≤ g % 8 ∧ g % 8 ≤ 6 := by
      rcases hg2 with q | q
      · exact absurd q h0
      · exact q
    have d8 : sI g / 8 = sI (g / 8) := sI_div (b := 8) (by omega) (by omega)
    have d256 : sI g / 256 = sI (g / 256) := sI_div (b := 256) (by omega) (by omega)
    have m8 : sI g - sI g / 8 * 8 = sI (g % 8) := sI_mod (b := 8) (by omega) (by omega)
    have m32 : sI (g / 8) - sI (g / 8) / 32 * 32 = sI (g / 8 % 32) := sI_mod (b := 32) (by omega) (by omega)
    have m32b : sI (g / 256) - sI (g / 256) / 32 * 32 = sI (g / 256 % 32) := sI_mod (b := 32) (by omega) (by omega)
    rw [m8, d8, d256, m32, m32b, mck_s (by omega) (by omega), mck_s (by omega) (by omega), sI_nn (by omega), sI_nn (by omega), sI_L (by omega)]
    have hV : ∀ (P : Option (Int32 × mwM × mwL) → Prop), P (fX2_holds_b59 fu k (sI e) (sI (g % 8)) (L (k + 34) (g / 8 % 32)) (gV (L (k + 34)) g) A L) → P (if sI g < 8192 then fX2_holds_b59 fu k (sI e) (sI (g % 8)) (L (k + 34) (g / 8 % 32)) (L (k + 34) (g / 256 % 32)) A L else fX2_holds_b59 fu k (sI e) (sI (g % 8)) (L (k + 34) (g / 8 % 32)) (sL (g / 256 % 32)) A L) := by
      intro P hP
      unfold gV at hP
      by_cases hl : g < 8192
      · rw [if_pos (by rw [sI_ltl (by omega) (by omega)]; exact hl)]
        rw [if_pos hl] at hP
        exact hP
      · rw [if_neg (by rw [sI_ltl (by omega) (by omega)]; exact hl)]
        rw [if_neg hl] at hP
        exact hP
    refine hV (fun o => wq o _) ?_
    have eH : hdB (L (k + 34)) g = (!zrB (g % 8) (gV (L (k + 34)) g) && cmpB (g % 8) (L (k + 34) (g / 8 % 32)) (gV (L (k + 34)) g)) := by
      unfold hdB
      rw [if_neg h0]
      rfl
    have eZ : hzB (L (k + 34)) g = zrB (g % 8) (gV (L (k + 34)) g) := by
      unfold hzB
      rw [if_neg h0]
      rfl
    have dn : decide (g ≠ 0) = true := decide_eq_true h0
    rw [eH, eZ, dn, Bool.true_and, Bool.true_and]
    generalize gV (L (k + 34)) g = V
    unfold fX2_holds_b59
    rw [c_compare o1 o2]
    cases hz : zrB (g % 8) V with
    | true =>
      rw [if_pos rfl, mb3_s, mck_s (by omega) (by omega), if_pos rfl]
      unfold fX2_holds_b83
      rw [mck_s (by omega) (by omega), sI_nn (by omega), mset_k (show k + 26 ≠ k by omega), h26]
      simp only [mlet]
      refine wq_zz (Or.inl rfl) (wq_some ⟨rfl, rfl, ?_, ?_, ?_⟩)
      all_goals (try dsimp only)
      · rw [mset_s, sn_f]; simp
      · rw [mset_k (by omega), mset_s, if_pos trivial]
      · intro b y q1 q2
        rw [mset_n q1, mset_n q2]
    | false =>
      rw [if_neg (by decide), mb3_s, mck_s (by omega) (by omega)]
      unfold fX2_holds_b83
      cases hc : cmpB (g % 8) (L (k + 34) (g / 8 % 32)) V with
      | true =>
        rw [if_neg (by decide), mck_s (by omega) (by omega), sI_nn (by omega), h26]
        simp only [mlet]
        refine wq_zz (Or.inr rfl) (wq_some ⟨rfl, rfl, ?_, ?_, ?_⟩)
        all_goals (try dsimp only)
        · rw [mset_s, sn_h]; simp
        · rw [mset_k (by omega), if_neg (by decide)]
        · intro b y q1 q2
          rw [mset_n q1]
      | false =>
        rw [if_pos bI_f, mck_s (by omega) (by omega), sI_nn (by omega), h26]
        simp only [mlet]
        refine wq_zz (Or.inl rfl) (wq_some ⟨rfl, rfl, ?_, ?_, ?_⟩)
        all_goals (try dsimp only)
        · rw [mset_s, sn_f]; simp
        · rw [mset_k (by omega), if_neg (by decide)]
        · intro b y q1 q2
          rw [mset_n q1]
/-- the reference: whether an edge's guard holds -/
theorem m_holds13 {fu q g e rw' : Nat} {M : mwM} {L : mwL} {h f : Bool} (he : e ≤ 400) (hg : g < 16384) (hg2 : g = 0 ∨ (1 ≤ g % 8 ∧ g % 8 ≤ 6)) (h13 : M (q + 13) e = sI g) (h15 : M (q + 15) e = bI h) (h16 : M (q + 16) e = bI f) (h31 : M q 31 = sI rw') (hrw : rw' ≤ 500) : wq (DX13_holds fu q (sI e) M L) (fun z => z.1 = bI (hdB (L (q + 21)) g) ∧ z.2.2 = L ∧ z.2.1 (q + 15) e = bI (h || (decide (g ≠ 0) && hdB (L (q + 21)) g)) ∧ z.2.1 (q + 16) e = bI (f || (decide (g ≠ 0) && !hdB (L (q + 21)) g)) ∧ z.2.1 q 30 = (if hzB (L (q + 21)) g = true then M q 30 + 1 else M q 30) ∧ (∃ rw2, rw2 ≤ 500 ∧ z.2.1 q 31 = sI rw2) ∧ ∀ b y, ¬ (y = e ∧ (b = q + 15 ∨ b = q + 16)) → ¬ (b = q ∧ (y = 30 ∨ y = 31)) → b ≠ q + 22 → z.2.1 b y = M b y) := by
  unfold DX13_holds
  rw [mck_s (by omega) (by omega), sI_nn (by omega), h13]
  simp only [mlet]
  by_cases h0 : g = 0
  · rw [if_pos (by rw [h0]; rfl)]
    have e1 : hdB (L (q + 21)) g = true := by unfold hdB; rw [if_pos h0]
    have e2 : hzB (L (q + 21)) g = false := by unfold hzB; rw [if_pos h0]
    rw [e1, e2]
    refine wq_some ⟨rfl, rfl, ?_, ?_, rfl, ⟨rw', hrw, h31⟩, fun _ _ _ _ _ => rfl⟩
    all_goals (try dsimp only)
    · rw [h15, h0]; simp
    · rw [h16, h0]; simp
  · rw [if_neg (by rw [sI_eql (by omega) (by decide)]; exact h0)]
    obtain ⟨o1, o2⟩ : 1 ≤ g % 8 ∧ g % 8 ≤ 6 := by
      rcases hg2 with z | z
      · exact absurd z h0
      · exact z
    have s8 : (sI g >>> ((8 : Int32) &&& 31)) &&& 31 = sI (g / 256 % 32) := by
      rw [show (8 : Int32) &&& 31 = sI 8 from by decide, sI_shr (by omega) (by omega)]
      exact sI_and (m := 5)
    have s3 : (sI g >>> ((3 : Int32) &&& 31)) &&& 31 = sI (g / 8 % 32) := by
      rw [show (3 : Int32) &&& 31 = sI 3 from by decide, sI_shr (by omega) (by omega)]
      exact sI_and (m := 5)
    have a7 : sI g &&& 7 = sI (g % 8) := sI_and (m := 3)
    rw [s8, mck_s (by omega) (by omega), sI_nn (by omega), sI_L (by omega)]
    have hV : ∀ (P : Option (Int32 × mwM × mwL) → Prop), P (fX13_holds_b39 fu q (sI e) (sI g) (gV (L (q + 21)) g) M L) → P (if sI g ≤ 8191 then fX13_holds_b39 fu q (sI e) (sI g) (L (q + 21) (g / 256 % 32)) M L else fX13_holds_b39 fu q (sI e) (sI g) (sL (g / 256 % 32)) M L) := by
      intro P hP
      unfold gV at hP
      by_cases hl : g < 8192
      · rw [if_pos (by rw [sI_lel (by omega) (by omega)]; show g ≤ 8191; omega)]
        rw [if_pos hl] at hP
        exact hP
      · rw [if_neg (by rw [sI_lel (by omega) (by omega)]; show ¬ g ≤ 8191; omega)]
        rw [if_neg hl] at hP
        exact hP
    refine hV (fun o => wq o _) ?_
    have eH : hdB (L (q + 21)) g = (!zrB (g % 8) (gV (L (q + 21)) g) && cmpB (g % 8) (L (q + 21) (g / 8 % 32)) (gV (L (q + 21)) g)) := by
      unfold hdB
      rw [if_neg h0]
      rfl
    have eZ : hzB (L (q + 21)) g = zrB (g % 8) (gV (L (q + 21)) g) := by
      unfold hzB
      rw [if_neg h0]
      rfl
    have dn : decide (g ≠ 0) = true := decide_eq_true h0
    rw [eH, eZ, dn, Bool.true_and, Bool.true_and]
    generalize gV (L (q + 21)) g = V
    have b1 : vp_nar .boolean (1 : Int32) = bI true := by decide
    unfold fX13_holds_b39
    rw [a7]
    -- behind the question whether it is by zero
    cases hz : zrB (g % 8) V with
    | true =>
      have hz' := hz
      unfold zrB at hz'
      rw [Bool.and_eq_true, decide_eq_true_eq, decide_eq_true_eq] at hz'
      rw [if_neg (by rw [sI_lel (by omega) (by omega)]; show ¬ g % 8 ≤ 4; omega), if_pos ((lg_cmp_eq _ _).mpr hz'.2)]
      unfold fX13_holds_b61
      rw [if_neg (by decide)]
      simp only [mlet]
      refine wq_b2 (m_note (rw' := rw') (by rw [mset_j (by decide)]; exact h31) hrw) ?_
      rintro M1 L1 ⟨x1, ⟨rw2, x2, x3⟩, x4⟩
      dsimp only at x1 x2 x3 x4
      subst x1
      unfold fX13_holds_b85 fX13_holds_b119 fX13_holds_b120 fX13_holds_b144
      rw [if_neg (by decide), if_pos rfl, mck_s (by omega) (by omega), sI_nn (by omega), b1]
      simp only [mlet]
      refine wq_zz (Or.inl rfl) (wq_some ⟨rfl, rfl, ?_, ?_, ?_, ⟨rw2, x2, ?_⟩, ?_⟩)
      all_goals (try dsimp only)
      · rw [mset_k (by omega), x4 _ _ (by omega) (by omega), mset_k (by omega), h15]; simp
      · rw [mset_s]; simp
      · rw [mset_k (by omega), x4 _ _ (by omega) (by omega), mset_s, if_pos trivial]
      · rw [mset_k (by omega)]; exact x3
      · intro b y w1 w2 w3
        rw [mset_n (by omega), x4 _ _ (by omega) (by omega), mset_n (by omega)]
    | false =>
      have go : wq (fX13_holds_b60 fu q (sI e) (sI g) V M L) (fun z => z.1 = bI (!false && cmpB (g % 8) (L (q + 21) (g / 8 % 32)) V) ∧ z.2.2 = L ∧ z.2.1 (q + 15) e = bI (h || (!false && cmpB (g % 8) (L (q + 21) (g / 8 % 32)) V)) ∧ z.2.1 (q + 16) e = bI (f || !(!false && cmpB (g % 8) (L (q + 21) (g / 8 % 32)) V)) ∧ z.2.1 q 30 = (if false = true then M q 30 + 1 else M q 30) ∧ (∃ rw2, rw2 ≤ 500 ∧ z.2.1 q 31 = sI rw2) ∧ ∀ b y, ¬ (y = e ∧ (b = q + 15 ∨ b = q + 16)) → ¬ (b = q ∧ (y = 30 ∨ y = 31)) → b ≠ q + 22 → z.2.1 b y = M b y) := by
        unfold fX13_holds_b60 fX13_holds_b61 fX13_holds_b85
        rw [if_pos rfl, if_pos rfl, s3, a7, mck_s (by omega) (by omega), sI_nn (by omega), m_ask o1 o2 hz, mb3_s]
        unfold fX13_holds_b119 fX13_holds_b120 fX13_holds_b144
        cases hc : cmpB (g % 8) (L (q + 21) (g / 8 % 32)) V with
        | true =>
          rw [if_pos rfl, if_pos (by decide), if_neg (by decide), mck_s (by omega) (by omega), sI_nn (by omega), b1]
          simp only [mlet]
          refine wq_zz (Or.inr rfl) (wq_some ⟨rfl, rfl, ?_, ?_, ?_, ⟨rw', hrw, ?_⟩, ?_⟩)
          all_goals (try dsimp only)
          · rw [mset_s]; simp
          · rw [mset_k (by omega), h16]; simp
          · rw [mset_k (by omega)]; rfl
          · rw [mset_k (by omega)]; exact h31
          · intro b y w1 w2 w3
            rw [mset_n (by omega)]
        | false =>
          rw [if_neg (by decide), if_pos rfl, mck_s (by omega) (by omega), sI_nn (by omega), b1]
          simp only [mlet]
          refine wq_zz (Or.inl rfl) (wq_some ⟨rfl, rfl, ?_, ?_, ?_, ⟨rw', hrw, ?_⟩, ?_⟩)
          all_goals (try dsimp only)
          · rw [mset_k (by omega), h15]; simp
          · rw [mset_s]; simp
          · rw [mset_k (by omega)]; rfl
          · rw [mset_k (by omega)]; exact h31
          · intro b y w1 w2 w3
            rw [mset_n (by omega)]
      by_cases h4 : g % 8 ≤ 4
      · rw [if_pos (by rw [sI_lel (by omega) (by omega)]; exact h4)]
        exact go
      · rw [if_neg (by rw [sI_lel (by omega) (by omega)]; exact h4), if_neg (by
          intro z
          have hv := (lg_cmp_eq _ _).mp z
          unfold zrB at hz
          rw [decide_eq_true (show 5 ≤ g % 8 by omega), decide_eq_true hv] at hz
          cases hz)]
        exact go
