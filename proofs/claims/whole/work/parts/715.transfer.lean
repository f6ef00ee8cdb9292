/-! the reference: all of a moment; the clock goes on -/
theorem rcO_r {t i j : Nat} (h : i ≠ 5) : ∀ k p, (rcO t k p).1 i j = p.1 i j := by
  intro k
  induction k with
  | zero => intro p; rfl
  | succ k ih =>
    intro p
    have e : (rcO t (k + 1) p).1 i j = (rcO t k p).1 i j := by
      show (rcS t ((k + 1) % 4) (rcO t k p)).1 i j = (rcO t k p).1 i j
      unfold rcS
      split
      · exact mset_n (by omega)
      · rfl
    exact e.trans (ih p)
theorem rcO_V {t : Nat} : ∀ k p, TfV p.1 p.2 → TfV (rcO t k p).1 (rcO t k p).2 := by
  intro k
  induction k with
  | zero => intro p h; exact h
  | succ k ih => intro p h; exact V_rc (ih p h)
theorem rcO_5 {t r k : Nat} {p : PB} (h : (rcO t k p).1 5 r = 1) : p.1 5 r = 1 := by
  induction k with
  | zero => exact h
  | succ k ih =>
    refine ih ?_
    have e : rcO t (k + 1) p = rcS t ((k + 1) % 4) (rcO t k p) := rfl
    rw [e] at h
    unfold rcS at h
    split at h
    · dsimp only at h
      by_cases hq : r = (k + 1) % 4
      · rw [hq, mset_s] at h; omega
      · rw [mset_j hq] at h; exact h
    · exact h
theorem m_moment17 {fu τ : Nat} {M : mwM} {L : mwL} {p : PB} {o : Nat → Nat → Nat} {e : Nat → Nat} (hfu : 200 ≤ fu) (hv : TfV p.1 p.2) (h : TfM M L τ p.1 p.2 o e) (hτ : τ ≤ 20001) (ht : ∀ m, 1 ≤ m → m ≤ p.1 0 0 → p.1 3 m = 1 → p.1 4 m ≤ τ ∧ τ ≤ p.1 4 m + 1000) (hr : ∀ r, r < 4 → p.1 5 r = 1 → p.1 9 r ≤ τ ∧ τ ≤ p.1 9 r + 1000) : wq (DX17_moment fu M L) (fun z => ∃ e', TfM z.1 z.2 τ (rcO τ 4 (goA τ (p.1 0 0) p)).1 (rcO τ 4 (goA τ (p.1 0 0) p)).2 o e' ∧ eR 104 e p.2 e' (rcO τ 4 (goA τ (p.1 0 0) p)).2 ∧ mFr M z.1 ∧ lFr L z.2) := by
  have hK := hv.1.1
  have vG := gA_V (t := τ) (p.1 0 0) p (Nat.le_refl _) hv
  generalize hQ : (fun z : mwM × mwL => ∃ e', TfM z.1 z.2 τ (rcO τ 4 (goA τ (p.1 0 0) p)).1 (rcO τ 4 (goA τ (p.1 0 0) p)).2 o e' ∧ eR 104 e p.2 e' (rcO τ 4 (goA τ (p.1 0 0) p)).2 ∧ mFr M z.1 ∧ lFr L z.2) = Q
  have rcv : ∀ (M1 : mwM) (L1 : mwL) (e1 : Nat → Nat), TfM M1 L1 τ (goA τ (p.1 0 0) p).1 (goA τ (p.1 0 0) p).2 o e1 → eR (p.1 0 0) e p.2 e1 (goA τ (p.1 0 0) p).2 → mFr M M1 → lFr L L1 → wq (fX17_moment_h53 fu fu (1, M1, L1)) Q := by
    intro M1 L1 e1 T1 E1 f1 f2
    generalize hg : goA τ (p.1 0 0) p = q at *
    have q9 : ∀ j, q.1 9 j = p.1 9 j := fun j => by rw [← hg]; exact gA_r (by omega) (by omega) (by omega) _ _
    have q5 : ∀ j, q.1 5 j = p.1 5 j := fun j => by rw [← hg]; exact gA_r (by omega) (by omega) (by omega) _ _
    refine wq_for (body := fun r z => fX17_moment_i53 fu r z.1 z.2.1 z.2.2) (fun i (w : mwM × mwL × (Nat → Nat)) => (sI (i + 1), w.1, w.2.1)) (fun i w => TfM w.1 w.2.1 τ (rcO τ i q).1 (rcO τ i q).2 o w.2.2 ∧ eR (p.1 0 0 + i) e p.2 w.2.2 (rcO τ i q).2 ∧ mFr M w.1 ∧ lFr L w.2.1) 4 ?_ ?_ 4 0 (M1, L1, e1) fu (by omega) (by omega) ⟨T1, E1, f1, f2⟩
    · rintro i ⟨M2, L2, e2⟩ r hi ⟨T2, E2, g1, g2⟩ ih
      dsimp only at T2 E2 g1 g2
      show wq (fX17_moment_i53 fu r (sI (i + 1)) M2 L2) _
      have vi := rcO_V (t := τ) i q vG
      have e0 : rcO τ (i + 1) q = rcS τ ((i + 1) % 4) (rcO τ i q) := rfl
      rw [e0] at ih
      have key := fun X Y Z => ih (X, Y, Z)
      dsimp only at key
      have hr4 : (i + 1) % 4 < 4 := Nat.mod_lt _ (by omega)
      have i9 : ∀ j, (rcO τ i q).1 9 j = p.1 9 j := fun j => by rw [rcO_r (by omega)]; exact q9 j
      have i5 : ∀ j, (rcO τ i q).1 5 j = 1 → p.1 5 j = 1 := fun j z => by rw [← q5]; exact rcO_5 z
      generalize rcO τ i q = u at *
      unfold fX17_moment_i53 fX17_moment_b104 fX17_moment_b138
      rw [if_neg (by rw [sI_lle (by decide) (by omega)]; omega), show sI (i + 1) - sI (i + 1) / 4 * 4 = sI ((i + 1) % 4) from sI_mod (b := 4) (by omega) (by omega)]
      simp only [mlet]
      generalize (i + 1) % 4 = x at *
      rw [mck_s hr4 (by omega), sI_nn (by omega), mck_s hr4 (by omega), mck_s hr4 (by omega), mck_s hr4 (by omega), mck_s hr4 (by omega), sI_1]
      have tr := T2.2.2.2.2.1 x hr4
      have v3 := (vi.2.2.1 x hr4).1
      rw [tr.1]
      have skip : ¬ (u.1 5 x = 1 ∧ 1000 ≤ τ - u.1 9 x) → wq (r (sI (i + 1 + 1), M2, L2)) Q := by
        intro hno
        have es : rcS τ x u = u := by unfold rcS; rw [if_neg hno]
        rw [es] at key
        refine key M2 L2 e2 ⟨T2, ?_, g1, g2⟩
        have := eR_t E2 (eR_0 (k := 1) (e := e2) (b := u.2) (b' := u.2) rfl)
        rw [Nat.add_assoc] at this
        exact this
      by_cases a1 : u.1 5 x = 1
      · have t := tr.2 a1
        have hrx := hr x hr4 (i5 x a1)
        rw [if_pos (show sI (u.1 5 x) = 1 by rw [a1]; rfl), t.2.2.2.2.2.2.1, if_pos (show (0 : Int32) = 0 from rfl), if_pos (show sI (u.1 5 x) = 1 by rw [a1]; rfl), t.2.2.2.2.2.1, T2.1.2.1, i9, sL_sub hrx.1]
        by_cases a2 : τ - p.1 9 x = 1000
        · rw [if_pos ((lg_cmp_eq _ _).mpr (by rw [a2]; rfl))]
          unfold DX17_endReceiver
          rw [mck_s hr4 (by omega), sI_nn (by omega)]
          simp only [mlet]
          rw [mck_in (show vp_in 2 8 from sI_in (k := 2) (by omega) (by omega)), mck_in (show vp_in 2 8 from sI_in (k := 2) (by omega) (by omega)), mb2_s]
          have es : rcS τ x u = (mset u.1 5 x 3, mset u.2 2 0 true) := by unfold rcS; rw [if_pos ⟨a1, by rw [i9]; omega⟩]
          rw [es] at key
          refine key _ L2 (eU e2 2) ⟨?_, ?_, fun a y w => by rw [mset_n (by omega), mset_n (by omega)]; exact g1 a y w, g2⟩
          · dsimp only
            refine TfM_ch T2 (fun a y w => by rw [mset_n (by omega), mset_n (by omega)]) T2.1.2.1 (fun i j w v => mset_n (by omega)) (fun y w v => ?_) (fun y w v => ?_) (fun y w => ?_) (fun f w => ?_) (fun k w => ?_)
            · have t := (T2.2.2.1 y w v).2
              unfold TmS at t ⊢
              simp (disch := omega) only [mset_n]
              exact t
            · have t := T2.2.2.2.1 y w v
              simp (disch := omega) only [mset_n]
              exact t
            · have t := T2.2.2.2.2.1 y w
              unfold TmR at t ⊢
              by_cases hq : y = x
              · subst hq
                rw [mset_s, mset_n (show ¬ (882 = 901 ∧ y = (2 : Int32).toNatClampNeg) by omega), mset_s]
                exact ⟨rfl, fun z => by omega⟩
              · rw [mset_j hq]
                simp (disch := omega) only [mset_n]
                exact t
            · have t := (T2.2.2.2.2.2.1 f w).2.2.2.2.2.1
              simp (disch := omega) only [mset_n]
              exact t
            · by_cases hq : k = 2
              · subst hq
                show mset (mset M2 882 x 3) 901 2 _ 901 2 = sI (eU e2 2 2)
                rw [mset_s, show mset M2 882 x 3 901 (2 : Int32).toNatClampNeg = M2 901 2 from mset_n (by omega), T2.2.2.2.2.2.2 2 (by omega), sI_1]
                rfl
              · show mset (mset M2 882 x 3) 901 2 _ 901 k = sI (eU e2 2 k)
                rw [mset_j hq, mset_n (by omega), T2.2.2.2.2.2.2 k w]
                unfold eU
                rw [if_neg hq]
          · have := eR_t E2 (eR_1 (k := 2) (e := e2) (b := u.2) (b' := mset u.2 2 0 true) (by omega) mset_s)
            rw [Nat.add_assoc] at this
            exact this
        · rw [if_neg (show ¬ lg_cmp (sL (τ - p.1 9 x)) 1000 = 0 from fun z => a2 ((sL_eq (a := τ - p.1 9 x) (b := 1000) (by omega) (by omega)).mp ((lg_cmp_eq _ _).mp z)))]
          exact skip (fun z => by rw [i9] at z; omega)
      · rw [if_neg (show ¬ sI (u.1 5 x) = 1 by rw [sI_eql (by omega) (by decide)]; exact a1), if_neg (show ¬ sI (u.1 5 x) = 1 by rw [sI_eql (by omega) (by decide)]; exact a1)]
        exact skip (fun z => a1 z.1)
    · rintro ⟨M2, L2, e2⟩ r ⟨T2, E2, g1, g2⟩
      dsimp only at T2 E2 g1 g2
      show wq (fX17_moment_i53 fu r (sI (4 + 1)) M2 L2) _
      unfold fX17_moment_i53
      rw [if_pos (by decide), ← hQ]
      refine wq_some ⟨e2, T2, ?_, g1, g2⟩
      obtain ⟨x1, x2, x3, x4⟩ := E2
      exact ⟨x1, x2, by omega, x4⟩
  unfold DX17_moment
  refine wq_for (body := fun r z => fX17_moment_i2 fu r z.1 z.2.1 z.2.2) (fun i (w : mwM × mwL × (Nat → Nat)) => (sI (i + 1), w.1, w.2.1)) (fun i w => TfM w.1 w.2.1 τ (goA τ i p).1 (goA τ i p).2 o w.2.2 ∧ eR i e p.2 w.2.2 (goA τ i p).2 ∧ mFr M w.1 ∧ lFr L w.2.1) (p.1 0 0) ?_ ?_ (p.1 0 0) 0 (M, L, e) fu (by omega) (by omega) ⟨h, eR_0 rfl, fun _ _ _ => rfl, fun _ _ _ => rfl⟩
  · rintro i ⟨M2, L2, e2⟩ r hi ⟨T2, E2, g1, g2⟩ ih
    dsimp only at T2 E2 g1 g2
    show wq (fX17_moment_i2 fu r (sI (i + 1)) M2 L2) _
    have vi := gA_V (t := τ) i p (by omega) hv
    have ki : (goA τ i p).1 0 0 = p.1 0 0 := gA_r (by omega) (by omega) (by omega) _ _
    have e0 : goA τ (i + 1) p = goP (i + 1) τ (goA τ i p) := rfl
    rw [e0] at ih
    have key := fun X Y Z => ih (X, Y, Z)
    dsimp only at key
    have i3 : (goA τ i p).1 3 (i + 1) = p.1 3 (i + 1) := gA_3 i (by omega)
    have i4 : (goA τ i p).1 4 (i + 1) = p.1 4 (i + 1) := gA_r (by omega) (by omega) (by omega) _ _
    unfold fX17_moment_i2
    rw [T2.1.2.2.1, ki, if_neg (by rw [sI_lt (by omega) (by omega)]; omega)]
    refine m_mom1 (by omega) vi T2 (by omega) (by omega) hτ (fun z => ?_) (fun M' L' e' t1 t2 t3 t4 => ?_)
    · rw [i3] at z
      rw [i4]
      exact ht (i + 1) (by omega) (by omega) z
    · exact key M' L' e' ⟨t1, eR_t E2 t2, fun a y w => (t3 a y w).trans (g1 a y w), fun a y w => (t4 a y w).trans (g2 a y w)⟩
  · rintro ⟨M2, L2, e2⟩ r ⟨T2, E2, g1, g2⟩
    dsimp only at T2 E2 g1 g2
    show wq (fX17_moment_i2 fu r (sI (p.1 0 0 + 1)) M2 L2) _
    have ki : (goA τ (p.1 0 0) p).1 0 0 = p.1 0 0 := gA_r (by omega) (by omega) (by omega) _ _
    unfold fX17_moment_i2
    rw [T2.1.2.2.1, ki, if_pos (by rw [sI_lt (by omega) (by omega)]; omega)]
    exact rcv M2 L2 e2 T2 E2 g1 g2
