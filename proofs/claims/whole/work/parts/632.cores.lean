theorem bsN_st {A : mwM} {c : Nat} {w : Option Nat} : ∀ (j b : Nat), bsN A c w j = some b → w = some b ∨ (A 12 b = 1 ∧ A 8 b = sI c) := by
  intro j
  induction j with
  | zero => intro b hb; exact Or.inl hb
  | succ j ih =>
    intro b hb
    unfold bsN at hb
    split at hb
    · split at hb
      · rename_i h
        injection hb with hb
        subst hb
        exact Or.inr ⟨h.2, h.1⟩
      · cases hb
    · split at hb
      · rename_i h
        injection hb with hb
        subst hb
        exact Or.inr ⟨h.2.1, h.1⟩
      · rename_i b' hb' _
        injection hb with hb
        subst hb
        exact ih _ hb'
/-- what the reference knows for choosing -/
def okCh (A M : mwM) (L : mwL) (T : Nat) : Prop := M 787 1 = sI T ∧ (∀ r, 1 ≤ r → r ≤ 32 → M 806 r = 0) ∧ ∀ i, i < T → M 788 (i + 1) = A 7 i ∧ M 789 (i + 1) = A 8 i ∧ M 796 (i + 1) = A 12 i ∧ M 792 (i + 1) = 1 ∧ (A 12 i ≠ 0 → L 797 (i + 1) = (A 15 i).toInt64) ∧ ∃ k, k < 256 ∧ A 7 i = sI k
theorem m_height {fu : Nat} {M : mwM} {L : mwL} {t : Nat} (hf : 33 ≤ fu) (ht : 1 ≤ t) (ht2 : t ≤ 100) (hh : ∀ r, 1 ≤ r → r ≤ 32 → M 806 r = 0) : DX15_height fu (sI t) M L = some (M 788 t, M, L) := by
  unfold DX15_height
  rw [mck_s (by omega) (by omega), sI_nn (by omega)]
  simp only [mlet]
  have h := wq_for (body := fun r s => fX15_height_i9 fu (sI t) r s.1 s.2.1 s.2.2.1 s.2.2.2) (Q := fun q => q = (M 788 t, M, L)) (fun j (_ : Unit) => (M 788 t, sI (j + 1), M, L)) (fun _ _ => True) 32 ?_ ?_ 32 0 () fu (by omega) (by omega) trivial
  · obtain ⟨q, e, rfl⟩ := h
    exact e
  · intro j _ r hj _ ih
    show wq (fX15_height_i9 fu (sI t) r (M 788 t) (sI (j + 1)) M L) _
    unfold fX15_height_i9 fX15_height_b44 fX15_height_b45
    rw [if_neg (by rw [sI_llt (by omega) (by omega)]; omega), mck_s (by omega) (by omega), sI_nn (by omega), hh _ (by omega) (by omega), if_neg (by
      intro q
      have q2 : sI 0 = sI t := q
      rw [sI_eq (by omega) (by omega)] at q2
      omega)]
    simp only [mlet]
    rw [sI_1]
    exact ih () trivial
  · intro _ r _
    show wq (fX15_height_i9 fu (sI t) r (M 788 t) (sI 33) M L) _
    unfold fX15_height_i9
    rw [if_pos (by decide)]
    exact wq_some rfl
theorem m_running {fu : Nat} {A M : mwM} {L : mwL} {c T : Nat} {w : Option Nat} (hf : 33 ≤ fu) (hT : T ≤ 12) (ho : okCh A M L T) (hw : ∀ i, i < T → ((A 8 i = sI c ∧ A 12 i = 2) ↔ w = some i)) (hwT : ∀ x, w = some x → x < T) : DX15_runningOf fu (sI c) M L = some (oM w, M, L) := by
  obtain ⟨h1, _, h3⟩ := ho
  unfold DX15_runningOf
  have h := wq_for (body := fun r s => fX15_runningOf_i4 fu (sI c) r s.1 s.2.1 s.2.2.1 s.2.2.2) (Q := fun q => q = (oM w, M, L)) (fun j (v : Option Nat) => (oM v, sI (j + 1), M, L)) (fun j v => (∀ x, w = some x → x < j → v = some x) ∧ (∀ x, v = some x → w = some x)) T ?_ ?_ T 0 none fu (by omega) (by omega) ⟨fun x _ h => by omega, fun x h => by cases h⟩
  · obtain ⟨q, e, rfl⟩ := h
    exact e
  · intro j v r hj ⟨p1, p2⟩ ih
    show wq (fX15_runningOf_i4 fu (sI c) r (oM v) (sI (j + 1)) M L) _
    unfold fX15_runningOf_i4 fX15_runningOf_b36 fX15_runningOf_b37
    obtain ⟨q1, q2, q3, _⟩ := h3 j hj
    rw [h1, if_neg (by rw [sI_lt (by omega) (by omega)]; omega), mck_s (by omega) (by omega), sI_nn (by omega), q2]
    simp only [mlet]
    rw [sI_1]
    have no : ¬ (A 8 j = sI c ∧ A 12 j = 2) → wq (r (oM v, sI (j + 1 + 1), M, L)) (fun q => q = (oM w, M, L)) := by
      intro hn
      refine ih v ⟨?_, p2⟩
      intro x hx hxj
      by_cases hxe : x = j
      · subst hxe; exact absurd ((hw x hj).mpr hx) hn
      · exact p1 x hx (by omega)
    by_cases h8 : A 8 j = sI c
    · rw [if_pos h8, mck_s (by omega) (by omega), q3]
      by_cases h12 : A 12 j = 2
      · rw [if_pos h12]
        have hwj := (hw j hj).mp ⟨h8, h12⟩
        refine ih (some j) ⟨?_, ?_⟩
        · intro x hx hxj
          rw [hwj] at hx
          exact hx
        · intro x hx
          rw [← hx]; exact hwj
      · rw [if_neg h12]
        exact no (fun q => h12 q.2)
    · rw [if_neg h8]
      exact no (fun q => h8 q.1)
  · intro v r ⟨p1, p2⟩
    show wq (fX15_runningOf_i4 fu (sI c) r (oM v) (sI (T + 1)) M L) _
    unfold fX15_runningOf_i4
    rw [h1, if_pos (by rw [sI_lt (by omega) (by omega)]; omega)]
    refine wq_some ?_
    have : v = w := by
      cases hw' : w with
      | none =>
        cases hv : v with
        | none => rfl
        | some x => have := p2 x hv; rw [hw'] at this; cases this
      | some x => exact p1 x hw' (hwT x hw')
    rw [this]
def chM (M : mwM) (w b : Option Nat) : mwM :=
  let M1 := match w with
    | none => M
    | some x => mset (mset M 804 (x + 1) (vp_nar .boolean 0)) 796 (x + 1) 1
  match b with
    | none => M1
    | some x => mset M1 796 (x + 1) 2
def moB (A : mwM) : Option Nat → Int32
  | none => -1
  | some b => A 7 b
theorem oM_pos {w : Option Nat} {T : Nat} (hT : T ≤ 12) (hw : ∀ x, w = some x → x < T) : (oM w ≤ 0) ↔ w = none := by
  cases w with
  | none => exact ⟨fun _ => rfl, fun _ => by decide⟩
  | some x =>
    have := hw x rfl
    constructor
    · intro h
      exact absurd h (by show ¬ sI (x + 1) ≤ 0; rw [sI_lel (by omega) (by decide)]; exact Nat.not_succ_le_zero _)
    · intro h; cases h
theorem i64_lt (a b : Int32) : (a.toInt64 < b.toInt64) ↔ a < b := by
  rw [Int64.lt_iff_toInt_lt, Int32.lt_iff_toInt_lt, Int32.toInt_toInt64, Int32.toInt_toInt64]
theorem i64_le (a b : Int32) : (a.toInt64 ≤ b.toInt64) ↔ a ≤ b := by
  rw [Int64.le_iff_toInt_le, Int32.le_iff_toInt_le, Int32.toInt_toInt64, Int32.toInt_toInt64]
theorem m_choose {fu : Nat} {A M : mwM} {L : mwL} {c T : Nat} {w : Option Nat} (hf : 33 ≤ fu) (hT : T ≤ 12) (ho : okCh A M L T) (hw : ∀ i, i < T → ((A 8 i = sI c ∧ A 12 i = 2) ↔ w = some i)) (hwT : ∀ x, w = some x → x < T) : DX15_choose fu (sI c) M L = some (oM (bsN A c w T), chM M w (bsN A c w T), L) := by
  have ho' := ho
  obtain ⟨h1, h2, h3⟩ := ho'
  have hlt := bsN_lt (A := A) (c := c) hwT
  -- the loop, from the one that runs
  have loop : wq (fX15_choose_h50 fu (sI c) fu (oM w, oM w, moB A w, 1, M, L)) (fun q => q = (oM (bsN A c w T), chM M w (bsN A c w T), L)) := by
    refine wq_for (body := fun r s => fX15_choose_i50 fu (sI c) r s.1 s.2.1 s.2.2.1 s.2.2.2.1 s.2.2.2.2.1 s.2.2.2.2.2) (fun j (_ : Unit) => (oM w, oM (bsN A c w j), moB A (bsN A c w j), sI (j + 1), M, L)) (fun _ _ => True) T ?_ ?_ T 0 () fu (by omega) (by omega) trivial
    · intro j _ r hj _ ih
      show wq (fX15_choose_i50 fu (sI c) r (oM w) (oM (bsN A c w j)) (moB A (bsN A c w j)) (sI (j + 1)) M L) _
      have hn := ih () trivial
      unfold fX15_choose_i50 fX15_choose_b128 fX15_choose_b135
      obtain ⟨q1, q2, q3, q4, q5, kj, hkj, q6⟩ := h3 j hj
      rw [h1, if_neg (by rw [sI_lt (by omega) (by omega)]; omega), mck_s (by omega) (by omega), sI_nn (by omega), q2]
      simp only [mlet]
      rw [sI_1]
      have hb := hlt j (by omega)
      have hst := bsN_st (A := A) (c := c) (w := w) j
      rw [bsN_S] at hn
      by_cases h8 : A 8 j = sI c
      · rw [if_pos h8, mck_s (by omega) (by omega), q3]
        by_cases h12 : A 12 j = 1
        · rw [if_pos h12, m_height hf (by omega) (by omega) h2, mb3_s, q1]
          cases hbj : bsN A c w j with
          | none =>
            rw [hbj] at hn
            simp only [h8, h12, and_self, if_true] at hn
            rw [if_pos (by show (-1 : Int32) < A 7 j; rw [q6]; exact m1_lt (by omega))]
            exact hn
          | some b =>
            rw [hbj] at hn
            have hbT := hb b hbj
            obtain ⟨u1, u2, u3, u4, u5, kb, hkb, u6⟩ := h3 b hbT
            simp only [h8, h12, true_and] at hn
            show wq (if A 7 b < A 7 j then _ else _) _
            by_cases hlt2 : A 7 b < A 7 j
            · have hbe : befB A j b = true := by
                unfold befB
                have hne : ¬ A 7 j = A 7 b := fun q => by rw [q] at hlt2; exact absurd hlt2 (by simp)
                rw [if_neg hne]
                simpa using hlt2
              rw [if_pos hlt2]
              rw [if_pos hbe] at hn
              exact hn
            · rw [if_neg hlt2]
              by_cases heq : A 7 j = A 7 b
              · rw [if_pos (show A 7 j = moB A (some b) from heq)]
                have hbw : (oM (some b) = oM w) ↔ A 12 b = 2 := by
                  constructor
                  · intro q
                    cases hw' : w with
                    | none =>
                      rw [hw'] at q
                      have q2 : sI (b + 1) = sI 0 := q
                      rw [sI_eq (by omega) (by omega)] at q2
                      omega
                    | some x =>
                      rw [hw'] at q
                      have hxT := hwT x hw'
                      have q2 : sI (b + 1) = sI (x + 1) := q
                      rw [sI_eq (by omega) (by omega)] at q2
                      have hbx : b = x := by omega
                      rw [hbx]
                      exact ((hw x hxT).mpr hw').2
                  · intro q
                    rcases hst b hbj with hwb | ⟨hq, _⟩
                    · rw [hwb]
                    · rw [hq] at q; exact absurd q (by decide)
                by_cases h2b : A 12 b = 2
                · rw [if_pos (hbw.mpr h2b)]
                  have hbe : ¬ befB A j b = true := by
                    unfold befB
                    rw [if_pos heq]
                    simp [h2b]
                  rw [if_neg hbe] at hn
                  show wq (r (oM w, oM (some b), A 7 b, sI (j + 1 + 1), M, L)) _
                  exact hn
                · rw [if_neg (fun q => h2b (hbw.mp q)), mck_s (by omega) (by omega)]
                  show wq (mck (sI (b + 1)) 101 (if 0 ≤ lg_cmp (L 797 (j + 1)) (L 797 (sI (b + 1)).toNatClampNeg) then _ else _)) _
                  rw [mck_s (by omega) (by omega), sI_nn (by omega)]
                  have hb0 : A 12 b ≠ 0 := by
                    rcases hst b hbj with hwb | ⟨hq, _⟩
                    · have := ((hw b hbT).mpr hwb).2
                      exact absurd this h2b
                    · rw [hq]; decide
                  rw [q5 (by rw [h12]; decide), u5 hb0]
                  by_cases hle : A 15 b ≤ A 15 j
                  · rw [if_pos ((lg_cmp_ge _ _).mpr ((i64_le _ _).mpr hle))]
                    have hbe : ¬ befB A j b = true := by
                      unfold befB
                      rw [if_pos heq]
                      have : ¬ A 15 j < A 15 b := Int32.not_lt.mpr hle
                      simp [this]
                    rw [if_neg hbe] at hn
                    exact hn
                  · rw [if_neg (fun q => hle ((i64_le _ _).mp ((lg_cmp_ge _ _).mp q)))]
                    have hbe : befB A j b = true := by
                      unfold befB
                      rw [if_pos heq]
                      have : A 15 j < A 15 b := Int32.not_le.mp hle
                      simp [this, h2b]
                    rw [if_pos hbe] at hn
                    exact hn
              · rw [if_neg (show ¬ A 7 j = moB A (some b) from heq)]
                have hbe : ¬ befB A j b = true := by
                  unfold befB
                  rw [if_neg heq]
                  simpa using hlt2
                rw [if_neg hbe] at hn
                exact hn
        · rw [if_neg h12]
          cases hbj : bsN A c w j with
          | none =>
            rw [hbj] at hn
            simp only [h12, and_false, if_false] at hn
            exact hn
          | some b =>
            rw [hbj] at hn
            simp only [h12, and_false, false_and, if_false] at hn
            exact hn
      · rw [if_neg h8]
        cases hbj : bsN A c w j with
        | none =>
          rw [hbj] at hn
          simp only [h8, false_and, if_false] at hn
          exact hn
        | some b =>
          rw [hbj] at hn
          simp only [h8, false_and, if_false] at hn
          exact hn
    · intro _ r _
      show wq (fX15_choose_i50 fu (sI c) r (oM w) (oM (bsN A c w T)) (moB A (bsN A c w T)) (sI (T + 1)) M L) _
      unfold fX15_choose_i50 fX15_choose_b159 fX15_choose_b170
      rw [h1, if_pos (by rw [sI_lt (by omega) (by omega)]; omega)]
      have hb := hlt T (Nat.le_refl _)
      simp only [mlet]
      refine wq_eq (b := (oM (bsN A c w T), chM M w (bsN A c w T), L)) ?_ rfl
      unfold chM
      cases w with
      | none =>
        rw [if_pos (by decide)]
        cases hbT : bsN A c none T with
        | none =>
          rw [if_pos (by decide)]
        | some b =>
          have := hb b hbT
          rw [if_neg (by show ¬ sI (b + 1) ≤ 0; rw [sI_lel (by omega) (by decide)]; exact Nat.not_succ_le_zero _)]
          show mck (sI (b + 1)) 101 (some (oM (some b), mset M 796 (sI (b + 1)).toNatClampNeg 2, L)) = _
          rw [mck_s (by omega) (by omega), sI_nn (by omega)]
      | some x =>
        have hx := hwT x rfl
        rw [if_neg (by show ¬ sI (x + 1) ≤ 0; rw [sI_lel (by omega) (by decide)]; exact Nat.not_succ_le_zero _)]
        show mck (sI (x + 1)) 101 (mck (sI (x + 1)) 101 (if oM (bsN A c (some x) T) ≤ 0 then some (oM (bsN A c (some x) T), mset (mset M 804 (sI (x + 1)).toNatClampNeg (vp_nar FieldType.boolean 0)) 796 (sI (x + 1)).toNatClampNeg 1, L) else mck (oM (bsN A c (some x) T)) 101 (some (oM (bsN A c (some x) T), mset (mset (mset M 804 (sI (x + 1)).toNatClampNeg (vp_nar FieldType.boolean 0)) 796 (sI (x + 1)).toNatClampNeg 1) 796 (oM (bsN A c (some x) T)).toNatClampNeg 2, L)))) = _
        rw [mck_s (by omega) (by omega), mck_s (by omega) (by omega), sI_nn (by omega)]
        cases hbT : bsN A c (some x) T with
        | none =>
          rw [if_pos (by decide)]
        | some b =>
          have := hb b hbT
          rw [if_neg (by show ¬ sI (b + 1) ≤ 0; rw [sI_lel (by omega) (by decide)]; exact Nat.not_succ_le_zero _)]
          show mck (sI (b + 1)) 101 (some (oM (some b), mset (mset (mset M 804 (x + 1) (vp_nar FieldType.boolean 0)) 796 (x + 1) 1) 796 (sI (b + 1)).toNatClampNeg 2, L)) = _
          rw [mck_s (by omega) (by omega), sI_nn (by omega)]
  obtain ⟨q, e, rfl⟩ := loop
  unfold DX15_choose fX15_choose_b30 fX15_choose_b45
  rw [m_running hf hT ho hw hwT, mb3_s]
  cases hw' : w with
  | none =>
    rw [if_pos (by decide), if_pos (by decide)]
    rw [hw'] at e
    exact e
  | some x =>
    have hx := hwT x hw'
    obtain ⟨u1, u2, u3, u4, u5, kb, hkb, u6⟩ := h3 x hx
    have hp : ¬ oM (some x) ≤ 0 := by show ¬ sI (x + 1) ≤ 0; rw [sI_lel (by omega) (by decide)]; exact Nat.not_succ_le_zero _
    rw [if_neg hp, if_neg hp]
    show mck (sI (x + 1)) 101 (if M 792 (sI (x + 1)).toNatClampNeg = 0 then _ else mb3 (DX15_height fu (sI (x + 1)) M L) _) = _
    rw [mck_s (by omega) (by omega), sI_nn (by omega), u4, if_neg (by decide), m_height hf (by omega) (by omega) h2, mb3_s, u1]
    rw [hw'] at e
    exact e
