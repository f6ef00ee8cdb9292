/-! JOINING: the class learns its keys and finds its charts' domains -/
theorem c_domL {fu X : Nat} {A : mwM} {L : mwL} (hf : 500 ≤ fu) (hX : X ≤ 12) (h14 : A 3 14 = sI X) (hc : ∀ x, x < X → ∃ c, Cv c ∧ TrC A (293 + 36 * x) (c 0 0) (c 1) (c 2) (c 3) ∧ EdC A (293 + 36 * x) (c 0 1) (c 4) (c 5) (c 6) (c 7)) : wq (fX1_join_h86 fu fu (0, A, L)) (fun z => z.2 = L ∧ (∀ x, x < X → ∀ c, Cv c → TrC A (293 + 36 * x) (c 0 0) (c 1) (c 2) (c 3) → EdC A (293 + 36 * x) (c 0 1) (c 4) (c 5) (c 6) (c 7) → DoC (293 + 36 * x) z.1 c) ∧ ∀ b y, ¬ (293 ≤ b ∧ (b - 293) % 36 = 25) → z.1 b y = A b y) := by
  refine wq_for (body := fun r s => fX1_join_i86 fu r s.1 s.2.1 s.2.2) (fun i (a : mwM × mwL) => (sI i, a.1, a.2)) (fun i a => a.2 = L ∧ (∀ x, x < i → ∀ c, Cv c → TrC A (293 + 36 * x) (c 0 0) (c 1) (c 2) (c 3) → EdC A (293 + 36 * x) (c 0 1) (c 4) (c 5) (c 6) (c 7) → DoC (293 + 36 * x) a.1 c) ∧ ∀ b y, ¬ (293 ≤ b ∧ (b - 293) % 36 = 25) → a.1 b y = A b y) X ?_ ?_ X 0 (A, L) fu (by omega) (by omega) ⟨rfl, fun x h => by omega, fun _ _ _ => rfl⟩
  · rintro i ⟨a, l⟩ r hi ⟨p1, p2, p3⟩ ih
    dsimp only at p1 p2 p3
    show wq (fX1_join_i86 fu r (sI i) a l) _
    unfold fX1_join_i86
    rw [p3 3 14 (by omega), h14, if_neg (show ¬ sI X ≤ sI i by rw [sI_le (by omega) (by omega)]; omega), mck_s (show i < 12 by omega) (by omega), sI_nn (by omega)]
    have tr : ∀ c : Nat → Nat → Nat, TrC A (293 + 36 * i) (c 0 0) (c 1) (c 2) (c 3) → TrC a (293 + 36 * i) (c 0 0) (c 1) (c 2) (c 3) := fun c h => ⟨by rw [p3 _ _ (by omega)]; exact h.1, fun s hs => by
      rw [p3 _ _ (by omega), p3 _ _ (by omega), p3 _ _ (by omega)]
      exact h.2 s hs⟩
    have ed : ∀ c : Nat → Nat → Nat, EdC A (293 + 36 * i) (c 0 1) (c 4) (c 5) (c 6) (c 7) → EdC a (293 + 36 * i) (c 0 1) (c 4) (c 5) (c 6) (c 7) := fun c h => ⟨by rw [p3 _ _ (by omega)]; exact h.1, fun e e1 e2 => by
      rw [p3 _ _ (by omega), p3 _ _ (by omega), p3 _ _ (by omega), p3 _ _ (by omega)]
      exact h.2 e e1 e2⟩
    obtain ⟨c, c1, c2, c3⟩ := hc i hi
    obtain ⟨A1, L1, e1, e2, e3, e4⟩ := wq_ex (c_findDomains (fu := fu) (k := 293 + 36 * i) (L := l) (by omega) c1 (tr c c2) (ed c c3))
    dsimp only at e2 e3 e4
    rw [e1, mb2_s, mlet_e, sI_1]
    refine ih (A1, L1) ⟨by rw [e2]; exact p1, fun x hx k k1 k2 k3 => ?_, fun b y u => ?_⟩
    · dsimp only
      by_cases ex : x = i
      · subst ex
        obtain ⟨A2, L2, f1, f2, f3, f4⟩ := wq_ex (c_findDomains (fu := fu) (k := 293 + 36 * x) (L := l) (by omega) k1 (tr k k2) (ed k k3))
        dsimp only at f3
        rw [e1] at f1
        have := congrArg Prod.fst (Option.some.inj f1)
        dsimp only at this
        rw [this]
        exact f3
      · intro e he1 he2 j hj1 hj2 hs
        rw [e4 _ _ (by omega)]
        exact p2 x (by omega) k k1 k2 k3 e he1 he2 j hj1 hj2 hs
    · dsimp only
      rw [e4 b y (by omega), p3 b y u]
  · rintro ⟨a, l⟩ r ⟨p1, p2, p3⟩
    dsimp only at p1 p2 p3
    show wq (fX1_join_i86 fu r (sI X) a l) _
    unfold fX1_join_i86
    rw [p3 3 14 (by omega), h14, if_pos (show sI X ≤ sI X by rw [sI_le (by omega) (by omega)]; omega)]
    exact wq_some ⟨p1, p2, p3⟩
theorem c_learnL {fu F : Nat} {A M : mwM} {L : mwL} {S lo : Nat → Nat} {Q : mwM × mwL → Prop} (hf : 500 ≤ fu) (hF : F ≤ 40) (h11 : A 61 11 = sI F) (hlo : ∀ f, f < F → A 76 f = sI (lo f) ∧ lo f ≤ 16) (hR : RCd A M S) (h16 : KnC A S 16)
    (hQ : ∀ A', RCd A' M S → KnC A' S 16 → (∀ f, f < F → lo f ≠ 0 → KnC A' S (lo f)) → (∀ a y, ¬ (101 ≤ a ∧ a ≤ 138) → A' a y = A a y) → wq (fX1_join_h86 fu fu (0, A', L)) Q) : wq (fX1_join_h35 fu fu (0, A, L)) Q := by
  refine wq_for (body := fun r s => fX1_join_i35 fu r s.1 s.2.1 s.2.2) (fun i (a : mwM × mwL) => (sI i, a.1, a.2)) (fun i a => a.2 = L ∧ RCd a.1 M S ∧ KnC a.1 S 16 ∧ (∀ f, f < i → lo f ≠ 0 → KnC a.1 S (lo f)) ∧ ∀ b y, ¬ (101 ≤ b ∧ b ≤ 138) → a.1 b y = A b y) F ?_ ?_ F 0 (A, L) fu (by omega) (by omega) ⟨rfl, hR, h16, fun f h => by omega, fun _ _ _ => rfl⟩
  · rintro i ⟨a, l⟩ r hi ⟨p1, p2, p3, p4, p5⟩ ih
    dsimp only at p1 p2 p3 p4 p5
    obtain ⟨l1, l2⟩ := hlo i hi
    show wq (fX1_join_i35 fu r (sI i) a l) _
    unfold fX1_join_i35 fX1_join_b78
    rw [p5 61 11 (by omega), h11, if_neg (show ¬ sI F ≤ sI i by rw [sI_le (by omega) (by omega)]; omega), mck_s (show i < 40 by omega) (by omega), mck_s (show i < 40 by omega) (by omega), sI_nn (by omega), p5 76 i (by omega), l1]
    by_cases z : lo i = 0
    · rw [if_pos (show sI (lo i) = 0 by rw [z]; rfl), mlet_e, sI_1]
      refine ih (a, l) ⟨p1, p2, p3, fun f hf h0 => ?_, p5⟩
      exact p4 f (by
        have : f ≠ i := fun e => h0 (by rw [e]; exact z)
        omega) h0
    · rw [if_neg (show ¬ sI (lo i) = 0 by rw [show (0 : Int32) = sI 0 from rfl, sI_eq (by omega) (by omega)]; exact z)]
      obtain ⟨A1, L1, e1, e2, e3, e4, e5, e6⟩ := wq_ex (c_learn3 (fu := fu) (key := lo i) (L := l) (by omega) (by omega) p2)
      dsimp only at e2 e3 e4 e5 e6
      rw [e1, mb2_s, mlet_e, sI_1]
      refine ih (A1, L1) ⟨by rw [e2]; exact p1, e3, e5 16 (by omega) p3, fun f hf h0 => ?_, fun b y u => ?_⟩
      · by_cases ef : f = i
        · rw [ef]
          exact e4
        · exact e5 _ (by have := (hlo f (by omega)).2; omega) (p4 f (by omega) h0)
      · dsimp only
        rw [e6 b y u, p5 b y u]
  · rintro ⟨a, l⟩ r ⟨p1, p2, p3, p4, p5⟩
    dsimp only at p1 p2 p3 p4 p5
    subst p1
    show wq (fX1_join_i35 fu r (sI F) a l) _
    unfold fX1_join_i35
    rw [p5 61 11 (by omega), h11, if_pos (show sI F ≤ sI F by rw [sI_le (by omega) (by omega)]; omega)]
    exact hQ a p2 p3 p4 p5
