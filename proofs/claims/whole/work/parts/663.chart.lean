/-! the domain of an edge -/
def goodB (pa kd de fr to : Nat → Nat) (E d e : Nat) : Bool := allN (fun j => (!sS kd fr to e j || insB pa de d (fr j)) && (!sT kd fr to e j || insB pa de d (to j))) E
def bst (pa kd de fr to : Nat → Nat) (E e : Nat) : Nat → Nat
  | 0 => 0
  | i + 1 => if kd (i + 1) = 0 ∧ de (bst pa kd de fr to E e i) < de (i + 1) ∧ goodB pa kd de fr to E (i + 1) e = true then i + 1 else bst pa kd de fr to E e i
theorem bst_le {pa kd de fr to : Nat → Nat} {E e : Nat} : ∀ i, bst pa kd de fr to E e i ≤ i := by
  intro i
  induction i with
  | zero => exact Nat.le_refl _
  | succ i ih =>
    unfold bst
    split
    · exact Nat.le_refl _
    · exact Nat.le_succ_of_le ih
theorem bst_spec {N : Nat} {pa kd de fr to : Nat → Nat} {E e : Nat} (hT : Tr N pa kd de) : ∀ i, i ≤ N → (bst pa kd de fr to E e i = 0 ∨ (kd (bst pa kd de fr to E e i) = 0 ∧ goodB pa kd de fr to E (bst pa kd de fr to E e i) e = true)) ∧ ∀ d, 1 ≤ d → d ≤ i → kd d = 0 → goodB pa kd de fr to E d e = true → de d ≤ de (bst pa kd de fr to E e i) := by
  intro i
  induction i with
  | zero => intro _; exact ⟨Or.inl rfl, fun d h1 h2 => by omega⟩
  | succ i ih =>
    intro hi
    obtain ⟨i1, i2⟩ := ih (by omega)
    have e1 : bst pa kd de fr to E e (i + 1) = if kd (i + 1) = 0 ∧ de (bst pa kd de fr to E e i) < de (i + 1) ∧ goodB pa kd de fr to E (i + 1) e = true then i + 1 else bst pa kd de fr to E e i := rfl
    by_cases hc : kd (i + 1) = 0 ∧ de (bst pa kd de fr to E e i) < de (i + 1) ∧ goodB pa kd de fr to E (i + 1) e = true
    · rw [e1, if_pos hc]
      refine ⟨Or.inr ⟨hc.1, hc.2.2⟩, ?_⟩
      intro d h1 h2 h3 h4
      by_cases hd : d = i + 1
      · rw [hd]; exact Nat.le_refl _
      · have := i2 d h1 (by omega) h3 h4
        have := hc.2.1
        omega
    · rw [e1, if_neg hc]
      refine ⟨i1, ?_⟩
      intro d h1 h2 h3 h4
      by_cases hd : d = i + 1
      · subst hd
        rcases Nat.lt_or_ge (de (bst pa kd de fr to E e i)) (de (i + 1)) with q | q
        · exact absurd ⟨h3, q, h4⟩ hc
        · exact q
      · exact i2 d h1 (by omega) h3 h4
/-- two states around one, equally deep, are one -/
theorem ins_uniq {N : Nat} {pa kd de : Nat → Nat} (h : Tr N pa kd de) {d d' : Nat} (hdd : de d = de d') : ∀ s, s ≤ N → insB pa de d s = true → insB pa de d' s = true → d = d' := by
  intro s
  induction s using Nat.strongRecOn with
  | _ s ih =>
    intro hs h1 h2
    rcases Nat.eq_zero_or_pos s with rfl | q
    · rw [ins_0 h] at h1; cases h1
    · obtain ⟨w1, w2, w3, w4, w5⟩ := h.2.2.2.2 s q hs
      rw [ins_S h q hs, Bool.or_eq_true, decide_eq_true_eq] at h1 h2
      rcases h1 with h1 | h1
      · rcases h2 with h2 | h2
        · rw [← h1, ← h2]
        · have := ins_lt h (pa s) (by omega) h2
          rw [h1] at this
          omega
      · rcases h2 with h2 | h2
        · have := ins_lt h (pa s) (by omega) h1
          rw [h2] at this
          omega
        · exact ih (pa s) w1 (by omega) h1 h2
/-- the reference: the domain of an edge -/
theorem m_domain {fu : Nat} {M : mwM} {L : mwL} {q N E e : Nat} {pa kd de fr to ev gu : Nat → Nat} (hf : 402 ≤ fu) (hT : Tr N pa kd de) (hM : TrM M q N pa kd de) (hE : Ed N E kd fr to ev gu) (hEM : EdM M q E fr to ev gu) (h1 : 1 ≤ e) (h2 : e ≤ E) : DX13_domain fu q (sI e) M L = some (sI (bst pa kd de fr to E e N), M, L) := by
  have hE4 := hE.1
  have hN := hT.1
  -- the edges, from one on
  have inner : ∀ (d b : Nat) (r4 : Int32 × Int32 × mwM × mwL → Option (Int32 × mwM × mwL)) (Q : Int32 × mwM × mwL → Prop), d ≤ N → (∀ g, g = goodB pa kd de fr to E d e → wq (fX13_domain_b119 fu q (sI e) r4 (sI b) (sI d) (bI g) M L) Q) → wq (fX13_domain_b41 fu q (sI e) r4 (sI b) (sI d) 1 M L) Q := by
    intro d b r4 Q hd hQ
    unfold fX13_domain_b41
    refine wq_for (body := fun r s => fX13_domain_i46 fu q (sI e) r4 r s.1 s.2.1 s.2.2.1 s.2.2.2.1 s.2.2.2.2.1 s.2.2.2.2.2) (fun i (_ : Unit) => (sI b, sI d, bI (allN (fun j => (!sS kd fr to e j || insB pa de d (fr j)) && (!sT kd fr to e j || insB pa de d (to j))) (i - 1)), sI i, M, L)) (fun i _ => 1 ≤ i) (E + 1) ?_ ?_ E 1 () fu (by omega) (by omega) (Nat.le_refl _)
    · intro i _ r hi hi1 ih
      obtain ⟨n, rfl⟩ : ∃ n, i = n + 1 := ⟨i - 1, by omega⟩
      obtain ⟨j1, j2, j3, j4, j5, j6, j7, j8, _⟩ := hE.2 (n + 1) (by omega) (by omega)
      have ih2 := ih () (by omega)
      have el : allN (fun j => (!sS kd fr to e j || insB pa de d (fr j)) && (!sT kd fr to e j || insB pa de d (to j))) (n + 1) = (allN (fun j => (!sS kd fr to e j || insB pa de d (fr j)) && (!sT kd fr to e j || insB pa de d (to j))) n && ((!sS kd fr to e (n + 1) || insB pa de d (fr (n + 1))) && (!sT kd fr to e (n + 1) || insB pa de d (to (n + 1))))) := rfl
      rw [show n + 1 + 1 - 1 = n + 1 from rfl, el] at ih2
      show wq (fX13_domain_i46 fu q (sI e) r4 r (sI b) (sI d) (bI (allN (fun j => (!sS kd fr to e j || insB pa de d (fr j)) && (!sT kd fr to e j || insB pa de d (to j))) n)) (sI (n + 1)) M L) _
      unfold fX13_domain_i46
      rw [hEM.1, if_neg (by rw [sI_lt (by omega) (by omega)]; omega)]
      cases ha : allN (fun j => (!sS kd fr to e j || insB pa de d (fr j)) && (!sT kd fr to e j || insB pa de d (to j))) n with
      | false =>
        rw [if_pos bI_f]
        refine hQ false ?_
        unfold goodB
        by_cases hx : allN (fun j => (!sS kd fr to e j || insB pa de d (fr j)) && (!sT kd fr to e j || insB pa de d (to j))) E = true
        · exfalso
          have : allN (fun j => (!sS kd fr to e j || insB pa de d (fr j)) && (!sT kd fr to e j || insB pa de d (to j))) n = true := by
            rw [allN_iff]
            intro j hj1 hj2
            exact (allN_iff E).mp hx j hj1 (by omega)
          rw [ha] at this
          cases this
        · simp only [Bool.not_eq_true] at hx
          exact hx.symm
      | true =>
        rw [ha, Bool.true_and] at ih2
        rw [if_neg (by decide), m_sS hT hM hE hEM h1 h2 (by omega) (by omega), mb3_s]
        have hb84 : ∀ g : Bool, (!sS kd fr to e (n + 1) || insB pa de d (fr (n + 1))) = g → wq (fX13_domain_b84 fu q (sI e) r4 r (sI b) (sI d) (bI g) (sI (n + 1)) M L) Q := by
          intro g hg
          rw [hg] at ih2
          unfold fX13_domain_b84 fX13_domain_b113
          simp only [mlet]
          rw [sI_1]
          cases g with
          | false =>
            rw [if_pos bI_f]
            exact ih2
          | true =>
            rw [if_neg (by decide), m_sT hT hM hE hEM h1 h2 (by omega) (by omega), mb3_s]
            cases hs : sT kd fr to e (n + 1) with
            | false =>
              rw [hs] at ih2
              rw [if_pos bI_f]
              exact ih2
            | true =>
              rw [hs] at ih2
              rw [if_neg (by decide), mck_s (by omega) (by omega), sI_nn (by omega), (hEM.2 (n + 1) (by omega) (by omega)).2.1, m_inside (by omega) hT hM j4 hd, mb3_s]
              exact ih2
        cases hs : sS kd fr to e (n + 1) with
        | false =>
          rw [if_pos bI_f]
          exact hb84 true (by rw [hs]; rfl)
        | true =>
          rw [if_neg (by decide), mck_s (by omega) (by omega), sI_nn (by omega), (hEM.2 (n + 1) (by omega) (by omega)).1, m_inside (by omega) hT hM j2 hd, mb3_s]
          exact hb84 _ (by rw [hs]; rfl)
    · intro _ r _
      show wq (fX13_domain_i46 fu q (sI e) r4 r (sI b) (sI d) (bI (goodB pa kd de fr to E d e)) (sI (E + 1)) M L) _
      unfold fX13_domain_i46
      rw [hEM.1, if_pos (by rw [sI_lt (by omega) (by omega)]; omega)]
      exact hQ _ rfl
  unfold DX13_domain
  have h := wq_for (body := fun r s => fX13_domain_i4 fu q (sI e) r s.1 s.2.1 s.2.2.1 s.2.2.2) (Q := fun z => z = (sI (bst pa kd de fr to E e N), M, L)) (fun i (_ : Unit) => (sI (bst pa kd de fr to E e (i - 1)), sI i, M, L)) (fun i _ => 1 ≤ i) (N + 1) ?_ ?_ N 1 () fu (by omega) (by omega) (Nat.le_refl _)
  · obtain ⟨z, hz, rfl⟩ := h
    exact hz
  · intro i _ r hi hi1 ih
    obtain ⟨n, rfl⟩ : ∃ n, i = n + 1 := ⟨i - 1, by omega⟩
    have ih2 := ih () (by omega)
    have hp := Tr_pa hT (s := n + 1) (by omega)
    have hbl := bst_le (pa := pa) (kd := kd) (de := de) (fr := fr) (to := to) (E := E) (e := e) n
    have hpb := Tr_pa hT (s := bst pa kd de fr to E e n) (by omega)
    have e1 : bst pa kd de fr to E e (n + 1) = if kd (n + 1) = 0 ∧ de (bst pa kd de fr to E e n) < de (n + 1) ∧ goodB pa kd de fr to E (n + 1) e = true then n + 1 else bst pa kd de fr to E e n := rfl
    rw [show n + 1 + 1 - 1 = n + 1 from rfl, e1] at ih2
    show wq (fX13_domain_i4 fu q (sI e) r (sI (bst pa kd de fr to E e n)) (sI (n + 1)) M L) _
    generalize bst pa kd de fr to E e n = b at *
    have hno : ∀ (hx : ¬ (kd (n + 1) = 0 ∧ de b < de (n + 1) ∧ goodB pa kd de fr to E (n + 1) e = true)), wq (fX13_domain_b119 fu q (sI e) r (sI b) (sI (n + 1)) 0 M L) (fun z => z = (sI (bst pa kd de fr to E e N), M, L)) := by
      intro hx
      rw [if_neg hx] at ih2
      unfold fX13_domain_b119 fX13_domain_b129
      rw [if_pos rfl]
      simp only [mlet]
      rw [sI_1]
      exact ih2
    have hb40 : ∀ (hx : ¬ (kd (n + 1) = 0 ∧ de b < de (n + 1) ∧ goodB pa kd de fr to E (n + 1) e = true)), wq (fX13_domain_b40 fu q (sI e) r (sI b) (sI (n + 1)) M L) (fun z => z = (sI (bst pa kd de fr to E e N), M, L)) := by
      intro hx
      unfold fX13_domain_b40 fX13_domain_b41
      obtain ⟨g, hg⟩ : ∃ g, fu = g + 1 := ⟨fu - 1, by omega⟩
      have : wq (fX13_domain_h46 fu q (sI e) r (g + 1) (sI b, sI (n + 1), 0, 1, M, L)) (fun z => z = (sI (bst pa kd de fr to E e N), M, L)) := by
        unfold fX13_domain_h46
        rw [mloop_S]
        show wq (fX13_domain_i46 fu q (sI e) r _ (sI b) (sI (n + 1)) 0 1 M L) _
        unfold fX13_domain_i46
        exact wq_if (fun _ => hno hx) (fun _ => by rw [if_pos rfl]; exact hno hx)
      rw [← hg] at this
      exact this
    unfold fX13_domain_i4
    rw [hM.1, if_neg (by rw [sI_lt (by omega) (by omega)]; omega), mck_s (by omega) (by omega), sI_nn (by omega), (hM.2 (n + 1) (by omega)).2.1]
    by_cases hk : kd (n + 1) = 0
    · rw [if_pos (by rw [hk]; rfl), mck_s (by omega) (by omega), mck_s (by omega) (by omega), sI_nn (by omega), (hM.2 (n + 1) (by omega)).2.2, (hM.2 b (by omega)).2.2]
      by_cases hd : de b < de (n + 1)
      · rw [if_neg (by rw [sI_le (by omega) (by omega)]; omega)]
        refine inner (n + 1) b r _ (by omega) ?_
        intro g hg
        cases g with
        | false => exact hno (fun z => by rw [← hg] at z; cases z.2.2)
        | true =>
          rw [if_pos ⟨hk, hd, hg.symm⟩] at ih2
          unfold fX13_domain_b119 fX13_domain_b129
          rw [if_neg (by decide)]
          simp only [mlet]
          rw [sI_1]
          exact ih2
      · rw [if_pos (by rw [sI_le (by omega) (by omega)]; omega)]
        exact hb40 (fun z => hd z.2.1)
    · rw [if_neg (by rw [sI_eql (by omega) (by decide)]; exact hk)]
      exact hb40 (fun z => hk z.1)
  · intro _ r _
    show wq (fX13_domain_i4 fu q (sI e) r (sI (bst pa kd de fr to E e N)) (sI (N + 1)) M L) _
    unfold fX13_domain_i4
    rw [hM.1, if_pos (by rw [sI_lt (by omega) (by omega)]; omega)]
    exact wq_some rfl
