/-! frames and signals as both sides keep them -/
def pkn (c y : Nat) : Nat := 2 * c + (if y = 0 then 0 else 1)
def cpk (y : Nat) : Nat := if y = 0 then 8 else 3
theorem cpk_8 {y : Nat} : cpk y ≤ 8 ∧ 3 ≤ cpk y := by unfold cpk; split <;> omega
theorem isO_pk {co ky : Nat → Nat} {c s : Nat} {lk : Bool} : isO co ky c lk s = decide (pkn (co s) (ky s) = 2 * c + (if lk = true then 1 else 0)) := by
  unfold isO pkn
  by_cases e1 : co s = c
  · rw [decide_eq_true e1]
    by_cases e2 : ky s = 0
    · rw [decide_eq_false (fun w => w e2), if_pos e2]
      cases lk
      · rw [if_neg (by decide), decide_eq_true (by omega)]; rfl
      · rw [if_pos rfl, decide_eq_false (by omega)]; rfl
    · rw [decide_eq_true e2, if_neg e2]
      cases lk
      · rw [if_neg (by decide), decide_eq_false (by omega)]; rfl
      · rw [if_pos rfl, decide_eq_true (by omega)]; rfl
  · have e3 : ¬ (2 * co s + (if ky s = 0 then 0 else 1) = 2 * c + (if lk = true then 1 else 0)) := by split <;> split <;> omega
    rw [decide_eq_false e1, decide_eq_false e3, Bool.false_and]
abbrev FrT (A M : mwM) (f ow ev lo i : Nat) : Prop := A 74 f = sI ow ∧ A 75 f = sI ev ∧ A 76 f = sI lo ∧ M 779 f = sI ow ∧ M 780 f = sI (pkn ow lo) ∧ M 781 f = sI i ∧ M 782 f = sI ev ∧ M 783 f = sI lo ∧ 1 ≤ i ∧ i ≤ 40 ∧ ow < 6 ∧ lo ≤ 16 ∧ 500 ≤ ev ∧ ev ≤ 20000 ∧ M (941 + 53 * pkn ow lo) 1 = sI (cpk lo) ∧ M (941 + 53 * pkn ow lo) 15 = 1 ∧ M (941 + 53 * pkn ow lo + 14) i = sI ((i - 1) * cpk lo)
abbrev FrZ (A M : mwM) (f ow ev lo i : Nat) : Prop := A 79 f = sI ev ∧ A 77 f = 0 ∧ (∀ x, x < 6 → A (86 + x) f = 0) ∧ M 785 f = 0 ∧ ∀ y, y < cpk lo → M (941 + 53 * pkn ow lo + 15) ((i - 1) * cpk lo + y) = 0
abbrev SgT (A M : mwM) (s f o l n b : Nat) (t : Bool) (c y i : Nat) : Prop := A 71 s = sI f ∧ A 72 s = sI o ∧ M 767 s = sI f ∧ M 768 s = sI (8 * o) ∧ M 766 s = sI l ∧ 1 ≤ l ∧ l ≤ n ∧ n ≤ 40 ∧ o + (b + 7) / 8 ≤ cpk y ∧ M (941 + 53 * pkn c y) 2 = sI n ∧ M (941 + 53 * pkn c y + 1) l = sI b ∧ M (941 + 53 * pkn c y + 3) l = bI t ∧ M (941 + 53 * pkn c y + 4) l = -1 ∧ M (941 + 53 * pkn c y + 5) l = sI l ∧ M (941 + 53 * pkn c y + 12) (129 + l) = sI i ∧ M (941 + 53 * pkn c y + 13) (129 + l) = sI (8 * o)
def JR (A M : mwM) (S : Nat) (bt pe co ky : Nat → Nat) (tu : Nat → Bool) (p F : Nat) (fs os ls ns ow ev lo fi : Nat → Nat) : Prop :=
  A 61 11 = sI F ∧ M 732 67 = sI F ∧ F + cnt (fun s => decide (p ≤ pkn (co s) (ky s))) S ≤ S ∧
  (∀ f, f < F → FrT A M f (ow f) (ev f) (lo f) (fi f) ∧ FrZ A M f (ow f) (ev f) (lo f) (fi f) ∧ pkn (ow f) (lo f) < p ∧ ∃ s, s < S ∧ pkn (co s) (ky s) < p ∧ fs s = f) ∧
  (∀ s, s < S → pkn (co s) (ky s) < p → fs s < F ∧ ow (fs s) = co s ∧ ev (fs s) = pe s ∧ lo (fs s) = ky s ∧ SgT A M s (fs s) (os s) (ls s) (ns s) (bt s) (tu s) (co s) (ky s) (fi (fs s))) ∧
  (∀ s t, s < S → t < S → pkn (co s) (ky s) < p → pkn (co t) (ky t) < p → s ≠ t → fs s = fs t → os s + ocs bt s ≤ os t ∨ os t + ocs bt t ≤ os s) ∧
  (∀ f g, f < F → g < F → pkn (ow f) (lo f) = pkn (ow g) (lo g) → fi f = fi g → f = g) ∧
  ∀ q, q < 12 → ∀ y, y ≤ 40 → M (941 + 53 * q + 8) y = 0
theorem lk_JR {A A' M M' : mwM} {c p F G S : Nat} {lk : Bool} {bt pe co ky fr oc fs os ls ns ow ev lo fi : Nat → Nat} {tu : Nat → Bool} (hc : c < 6) (hp : p = 2 * c + (if lk = true then 1 else 0)) (hSC : SgC A S bt pe co ky) (hJ : JR A M S bt pe co ky tu p F fs os ls ns ow ev lo fi) (hQ : PKq A A' M M' (941 + 53 * p) c p F G (cnt (isO co ky c lk) S) (if lk = true then 3 else 8) S (isO co ky c lk) bt pe ky fr oc tu) : ∃ fs' os' ls' ns' ow' ev' lo' fi', JR A' M' S bt pe co ky tu (p + 1) (F + G) fs' os' ls' ns' ow' ev' lo' fi' := by
  obtain ⟨j1, j2, j3, j4, j5, j6, j7, j8⟩ := hJ
  obtain ⟨⟨l1, l2, l3, l4⟩, q2, q3, q4, q5, q6, q7, q8, q9, q10, q11⟩ := hQ
  have hS40 := hSC.2.1
  have eP : ∀ s, isO co ky c lk s = decide (pkn (co s) (ky s) = p) := fun s => by rw [hp]; exact isO_pk
  have eT : ∀ s, pkn (co s) (ky s) = p → isO co ky c lk s = true := fun s w => by rw [eP]; exact decide_eq_true w
  have eF : ∀ s, pkn (co s) (ky s) ≠ p → isO co ky c lk s = false := fun s w => by rw [eP]; exact decide_eq_false w
  have p12 : p < 12 := by rw [hp]; split <;> omega
  have hcnt : cnt (fun s => decide (p ≤ pkn (co s) (ky s))) S = cnt (isO co ky c lk) S + cnt (fun s => decide (p + 1 ≤ pkn (co s) (ky s))) S := by
    apply cnt_or
    intro s hs
    rw [eP]
    by_cases e1 : pkn (co s) (ky s) = p
    · rw [decide_eq_true e1, decide_eq_true (by omega), decide_eq_false (by omega)]
      exact ⟨rfl, rfl⟩
    · rw [decide_eq_false e1]
      by_cases e2 : p + 1 ≤ pkn (co s) (ky s)
      · rw [decide_eq_true e2, decide_eq_true (by omega)]
        exact ⟨rfl, rfl⟩
      · rw [decide_eq_false e2, decide_eq_false (by omega)]
        exact ⟨rfl, rfl⟩
  have hn40 := cnt_le (isO co ky c lk) S
  -- of this pack: what a signal's key says
  have own : ∀ s, s < S → pkn (co s) (ky s) = p → co s = c ∧ cpk (ky s) = (if lk = true then 3 else 8) := fun s hs w => by
    have h := eT s w
    unfold isO at h
    rw [Bool.and_eq_true] at h
    refine ⟨of_decide_eq_true h.1, ?_⟩
    unfold cpk
    by_cases z : ky s = 0
    · rw [if_pos z]
      have h2 := h.2
      rw [show decide (ky s ≠ 0) = false from decide_eq_false (fun u => u z)] at h2
      cases lk
      · rfl
      · exact absurd h2 (by decide)
    · rw [if_neg z]
      have h2 := h.2
      rw [show decide (ky s ≠ 0) = true from decide_eq_true z] at h2
      cases lk
      · exact absurd h2 (by decide)
      · rfl
  -- the class's new frames
  have newf : ∀ f, F ≤ f → f < F + G → ∃ s, s < S ∧ pkn (co s) (ky s) = p ∧ isO co ky c lk s = true ∧ fr (lxf (isO co ky c lk) s) = f - F + 1 ∧ F + fr (lxf (isO co ky c lk) s) - 1 = f ∧ OpF A A' f s := fun f w1 w2 => by
    obtain ⟨s, s1, s2, s3⟩ := q7 (f - F + 1) (by omega) (by omega)
    have e : F + fr (lxf (isO co ky c lk) s) - 1 = f := by omega
    obtain ⟨o1, o2, o3⟩ := l2 s s1 s2 (by omega)
    rw [e] at o3
    have s2' := s2
    rw [eP] at s2'
    exact ⟨s, s1, of_decide_eq_true s2', s2, s3, e, o3⟩
  have nnew : ∀ s, s < S → pkn (co s) (ky s) = p → nn (A' 75 (F + fr (lxf (isO co ky c lk) s) - 1)) = pe s ∧ nn (A' 76 (F + fr (lxf (isO co ky c lk) s) - 1)) = ky s := fun s s1 s2 => by
    obtain ⟨w1, w2, w3, w4, _⟩ := q5 s s1 (eT s s2)
    obtain ⟨o1, o2, p1, p2, p3, _⟩ := l2 s s1 (eT s s2) (by omega)
    obtain ⟨a1, a2, a3, a4, a5, a6, a7, a8, a9, a10⟩ := hSC.2.2 s s1
    rw [p2, p3, a4, a9, nn_s (by omega), nn_s (by omega)]
    exact ⟨rfl, rfl⟩
  have oldM : ∀ a y q, q < p → (941 + 53 * q ≤ a ∧ a ≤ 941 + 53 * q + 22) → M' a y = M a y := fun a y q w1 w2 => q11 a y (by omega) (by omega) (by omega) (by omega)
  refine ⟨fun s => if pkn (co s) (ky s) = p then F + fr (lxf (isO co ky c lk) s) - 1 else fs s, fun s => if pkn (co s) (ky s) = p then oc (lxf (isO co ky c lk) s) else os s, fun s => if pkn (co s) (ky s) = p then lxf (isO co ky c lk) s else ls s, fun s => if pkn (co s) (ky s) = p then cnt (isO co ky c lk) S else ns s, fun f => if f < F then ow f else c, fun f => if f < F then ev f else nn (A' 75 f), fun f => if f < F then lo f else nn (A' 76 f), fun f => if f < F then fi f else f - F + 1, l1, q3, by omega, fun f hf => ?_, fun s s1 s2 => ?_, fun s t s1 t1 s2 t2 ne e => ?_, fun f g f1 g1 e1 e2 => ?_, fun q q1 y y1 => ?_⟩
  · dsimp only
    by_cases of : f < F
    · rw [if_pos of, if_pos of, if_pos of, if_pos of]
      obtain ⟨⟨a1, a2, a3, a4, a5, a6, a7, a8, a9, a10, a11, a12, a13, a14, a15, a16, a17⟩, ⟨z1, z2, z3, z4, z5⟩, b, ⟨s, s1, s2, s3⟩⟩ := j4 f of
      have tA : ∀ a, 74 ≤ a ∧ a ≤ 91 → A' a f = A a f := fun a w => l4 a f (by omega) (by omega) (by omega) (by omega) (by omega)
      have tM : ∀ a, 779 ≤ a ∧ a ≤ 785 → M' a f = M a f := fun a w => q11 a f (by omega) (by omega) (by omega) (by omega)
      refine ⟨⟨by rw [tA _ (by omega)]; exact a1, by rw [tA _ (by omega)]; exact a2, by rw [tA _ (by omega)]; exact a3, by rw [tM _ (by omega)]; exact a4, by rw [tM _ (by omega)]; exact a5, by rw [tM _ (by omega)]; exact a6, by rw [tM _ (by omega)]; exact a7, by rw [tM _ (by omega)]; exact a8, a9, a10, a11, a12, a13, a14, by rw [oldM _ _ _ b (by omega)]; exact a15, by rw [oldM _ _ _ b (by omega)]; exact a16, by rw [oldM _ _ _ b (by omega)]; exact a17⟩, ⟨by rw [tA _ (by omega)]; exact z1, by rw [tA _ (by omega)]; exact z2, fun x hx => by rw [tA _ (by omega)]; exact z3 x hx, by rw [tM _ (by omega)]; exact z4, fun y hy => by rw [oldM _ _ _ b (by omega)]; exact z5 y hy⟩, by omega, s, s1, by omega, by rw [if_neg (by omega)]; exact s3⟩
    · rw [if_neg of, if_neg of, if_neg of, if_neg of]
      obtain ⟨s, s1, s2, s3, s4, s5, o1, o2, o3, o4, o5, o6⟩ := newf f (by omega) hf
      obtain ⟨v1, v2⟩ := nnew s s1 s2
      rw [s5] at v1 v2
      rw [v1, v2]
      obtain ⟨a1, a2, a3, a4, a5, a6, a7, a8, a9, a10⟩ := hSC.2.2 s s1
      obtain ⟨w1, w2⟩ := own s s1 s2
      obtain ⟨x1, x2, x3, x4, x5, x6, x7, x8, x9, x10, x11, x12, x13, x14, x15, x16, x17, x18, x19⟩ := q5 s s1 s3
      rw [s5] at x8 x9
      rw [s4] at x19
      obtain ⟨y1, y2, y3, y4⟩ := q4 (f - F) (by omega)
      rw [show F + (f - F) = f from by omega] at y1 y2 y3 y4
      have epk : pkn c (ky s) = p := by rw [← w1]; exact s2
      unfold FrT FrZ
      rw [epk, w2]
      refine ⟨⟨by rw [o1, a7, w1], by rw [o2]; exact a4, by rw [o3]; exact a9, y1, y2, y3, x8, x9, by omega, by omega, hc, a10, a5, a6, x10, x12, x19⟩, ⟨by rw [o4]; exact a4, o5, o6, y4, fun y hy => q6 _ ?_⟩, by omega, s, s1, by omega, by rw [if_pos s2]; exact s5⟩
      have h1 : (f - F + 1 - 1 + 1) * (if lk = true then 3 else 8) ≤ G * (if lk = true then 3 else 8) := Nat.mul_le_mul_right _ (by omega)
      rw [Nat.add_mul] at h1
      omega
  · dsimp only
    by_cases e : pkn (co s) (ky s) = p
    · rw [if_pos e, if_pos e, if_pos e, if_pos e]
      obtain ⟨x1, x2, x3, x4, x5, x6, x7, x8, x9, x10, x11, x12, x13, x14, x15, x16, x17, x18, x19⟩ := q5 s s1 (eT s e)
      obtain ⟨w1, w2⟩ := own s s1 e
      obtain ⟨v1, v2⟩ := nnew s s1 e
      obtain ⟨o1, o2, o3⟩ := l2 s s1 (eT s e) (by omega)
      have nf : ¬ F + fr (lxf (isO co ky c lk) s) - 1 < F := by omega
      rw [if_neg nf, if_neg nf, if_neg nf, if_neg nf, v1, v2]
      unfold SgT
      rw [e, w2]
      refine ⟨by omega, w1.symm, rfl, rfl, o1, o2, x6, x7, x1, lxf_1, x2, by omega, x5, x11, x13, x14, x15, x16, ?_, x18⟩
      rw [x17, show F + fr (lxf (isO co ky c lk) s) - 1 - F + 1 = fr (lxf (isO co ky c lk) s) from by omega]
    · rw [if_neg e, if_neg e, if_neg e, if_neg e]
      have lt : pkn (co s) (ky s) < p := by omega
      obtain ⟨a1, a2, a3, a4, b1, b2, b3, b4, b5, b6, b7, b8, b9, b10, b11, b12, b13, b14, b15, b16⟩ := j5 s s1 lt
      rw [if_pos a1, if_pos a1, if_pos a1, if_pos a1]
      obtain ⟨u1, u2⟩ := l3 s (Or.inl (eF s e))
      obtain ⟨u3, u4, u5⟩ := q9 s (eF s e)
      refine ⟨by omega, a2, a3, a4, by rw [u1]; exact b1, by rw [u2]; exact b2, by rw [u4]; exact b3, by rw [u5]; exact b4, by rw [u3]; exact b5, b6, b7, b8, b9, by rw [oldM _ _ _ lt (by omega)]; exact b10, by rw [oldM _ _ _ lt (by omega)]; exact b11, by rw [oldM _ _ _ lt (by omega)]; exact b12, by rw [oldM _ _ _ lt (by omega)]; exact b13, by rw [oldM _ _ _ lt (by omega)]; exact b14, by rw [oldM _ _ _ lt (by omega)]; exact b15, by rw [oldM _ _ _ lt (by omega)]; exact b16⟩
  · dsimp only at e ⊢
    by_cases e1 : pkn (co s) (ky s) = p
    · by_cases e2 : pkn (co t) (ky t) = p
      · rw [if_pos e1, if_pos e2] at e ⊢
        obtain ⟨_, _, w3, _⟩ := q5 s s1 (eT s e1)
        obtain ⟨_, _, w3', _⟩ := q5 t t1 (eT t e2)
        exact q8 s t s1 t1 (eT s e1) (eT t e2) ne (by omega)
      · rw [if_pos e1, if_neg e2] at e
        have := (j5 t t1 (by omega)).1
        obtain ⟨_, _, w3, _⟩ := q5 s s1 (eT s e1)
        omega
    · by_cases e2 : pkn (co t) (ky t) = p
      · rw [if_neg e1, if_pos e2] at e
        have := (j5 s s1 (by omega)).1
        obtain ⟨_, _, w3, _⟩ := q5 t t1 (eT t e2)
        omega
      · rw [if_neg e1, if_neg e2] at e ⊢
        exact j6 s t s1 t1 (by omega) (by omega) ne e
  · dsimp only at e1 e2
    by_cases of : f < F
    · rw [if_pos of, if_pos of] at e1
      rw [if_pos of] at e2
      have bf := (j4 f of).2.2.1
      by_cases og : g < F
      · rw [if_pos og, if_pos og] at e1
        rw [if_pos og] at e2
        exact j7 f g of og e1 e2
      · rw [if_neg og, if_neg og] at e1
        obtain ⟨s, s1, s2, s3, s4, s5, o⟩ := newf g (by omega) g1
        obtain ⟨v1, v2⟩ := nnew s s1 s2
        rw [s5] at v2
        rw [v2, ← (own s s1 s2).1] at e1
        omega
    · rw [if_neg of, if_neg of] at e1
      rw [if_neg of] at e2
      obtain ⟨s, s1, s2, s3, s4, s5, o⟩ := newf f (by omega) f1
      obtain ⟨v1, v2⟩ := nnew s s1 s2
      rw [s5] at v2
      rw [v2, ← (own s s1 s2).1] at e1
      by_cases og : g < F
      · rw [if_pos og, if_pos og] at e1
        have bg := (j4 g og).2.2.1
        omega
      · rw [if_neg og] at e2
        omega
  · by_cases e : q = p
    · rw [e, q10]; exact j8 p p12 y y1
    · rw [q11 _ _ (by omega) (by omega) (by omega) (by omega)]
      exact j8 q q1 y y1
