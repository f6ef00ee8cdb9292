/-! the class: what lies around an edge -/
theorem c_isAim {fu : Nat} {A : mwM} {L : mwL} {k N s : Nat} {pa kd de : Nat → Nat} (hT : Tr N pa kd de) (hC : TrC A k N pa kd de) (hs : s ≤ N) : DX2_isAim fu k (sI s) A L = some (bI (decide (kd s < 4)), A, L) := by
  have hp := Tr_pa hT hs
  unfold DX2_isAim fX2_isAim_b28 fX2_isAim_b29
  rw [mck_s (by omega) (by omega), sI_nn (by omega), (hC.2 s hs).2.1, mck_s (by omega) (by omega)]
  by_cases h4 : kd s = 4
  · rw [if_pos (by rw [h4]; rfl), decide_eq_false (by omega)]; rfl
  · rw [if_neg (by rw [sI_eql (by omega) (by omega)]; exact h4)]
    by_cases h5 : kd s = 5
    · rw [if_pos (by rw [h5]; rfl), decide_eq_false (by omega)]; rfl
    · rw [if_neg (by rw [sI_eql (by omega) (by omega)]; exact h5), decide_eq_true (by omega)]; rfl
def stB (pa kd de fr to : Nat → Nat) (d e j : Nat) : Bool := (!(decide (kd (fr e) = 5) && decide (to j = fr e)) || insB pa de d (fr j)) && (!(decide (kd (to e) = 4) && (decide (fr j = to e) && decide (kd (to j) < 4))) || insB pa de d (to j))
def ac0 (pa kd de fr to : Nat → Nat) (d e : Nat) : Bool := (decide (kd (fr e) = 5) || insB pa de d (fr e)) && (decide (kd (to e) = 4) || insB pa de d (to e))
theorem good_eq {pa kd de fr to : Nat → Nat} {E d e : Nat} (h1 : 1 ≤ e) (h2 : e ≤ E) : (ac0 pa kd de fr to d e && allN (stB pa kd de fr to d e) E) = goodB pa kd de fr to E d e := by
  rw [Bool.eq_iff_iff]
  unfold goodB ac0
  rw [Bool.and_eq_true, Bool.and_eq_true, allN_iff, allN_iff]
  constructor
  · rintro ⟨⟨a1, a2⟩, a3⟩ j hj1 hj2
    have h3 := a3 j hj1 hj2
    unfold stB at h3
    rw [Bool.and_eq_true] at h3
    rw [Bool.and_eq_true]
    refine ⟨?_, ?_⟩
    · unfold sS
      by_cases h5 : kd (fr e) = 5
      · rw [if_pos h5]
        have := h3.1
        rw [decide_eq_true h5, Bool.true_and] at this
        exact this
      · rw [if_neg h5]
        rw [decide_eq_false h5, Bool.false_or] at a1
        by_cases hj : j = e
        · rw [hj, a1]; simp
        · simp [hj]
    · unfold sT
      by_cases h4 : kd (to e) = 4
      · rw [if_pos h4]
        have := h3.2
        rw [decide_eq_true h4, Bool.true_and] at this
        exact this
      · rw [if_neg h4]
        rw [decide_eq_false h4, Bool.false_or] at a2
        by_cases hj : j = e
        · rw [hj, a2]; simp
        · simp [hj]
  · intro a
    have he := a e h1 h2
    rw [Bool.and_eq_true] at he
    refine ⟨⟨?_, ?_⟩, ?_⟩
    · by_cases h5 : kd (fr e) = 5
      · simp [h5]
      · have := he.1
        unfold sS at this
        rw [if_neg h5] at this
        simp at this
        simp [this]
    · by_cases h4 : kd (to e) = 4
      · simp [h4]
      · have := he.2
        unfold sT at this
        rw [if_neg h4] at this
        simp at this
        simp [this]
    · intro j hj1 hj2
      have hj := a j hj1 hj2
      rw [Bool.and_eq_true] at hj
      unfold stB
      rw [Bool.and_eq_true]
      refine ⟨?_, ?_⟩
      · by_cases h5 : kd (fr e) = 5
        · have := hj.1
          unfold sS at this
          rw [if_pos h5] at this
          rw [decide_eq_true h5, Bool.true_and]
          exact this
        · simp [h5]
      · by_cases h4 : kd (to e) = 4
        · have := hj.2
          unfold sT at this
          rw [if_pos h4] at this
          rw [decide_eq_true h4, Bool.true_and]
          exact this
        · simp [h4]
theorem c_isAround {fu : Nat} {A : mwM} {L : mwL} {k N E d e : Nat} {pa kd de fr to ev gu : Nat → Nat} (hf : 402 ≤ fu) (hT : Tr N pa kd de) (hC : TrC A k N pa kd de) (hE : Ed N E kd fr to ev gu) (hEC : EdC A k E fr to ev gu) (hd : d ≤ N) (h1 : 1 ≤ e) (h2 : e ≤ E) : DX2_isAround fu k (sI d) (sI e) A L = some (bI (decide (kd d = 0) && goodB pa kd de fr to E d e), A, L) := by
  have hE4 := hE.1
  have hN := hT.1
  have hp := Tr_pa hT hd
  obtain ⟨e1, e2, e3, e4, e5, e6, e7, e8, _⟩ := hE.2 e h1 h2
  have hkf := (Tr_pa hT e2).2.2.2.1
  have hkt := (Tr_pa hT e4).2.2.2.1
  unfold DX2_isAround
  rw [mck_s (by omega) (by omega), sI_nn (by omega), (hC.2 d hd).2.1]
  by_cases hk : kd d = 0
  · rw [if_pos (by rw [hk]; rfl), decide_eq_true hk, Bool.true_and, mck_s (by omega) (by omega), sI_nn (by omega), (hEC.2 e h1 h2).1, (hEC.2 e h1 h2).2.1]
    simp only [mlet]
    rw [mck_s (by omega) (by omega), mck_s (by omega) (by omega), sI_nn (by omega), (hC.2 _ e2).2.1, ← good_eq (pa := pa) (de := de) (d := d) h1 h2]
    -- the loop over the edges
    have loop : ∀ g : Bool, ac0 pa kd de fr to d e = g → fX2_isAround_b81 fu k (sI d) (sI e) (sI (fr e)) (sI (to e)) (bI g) A L = some (bI (ac0 pa kd de fr to d e && allN (stB pa kd de fr to d e) E), A, L) := by
      intro g hg
      unfold fX2_isAround_b81
      have h := wq_for (body := fun r s => fX2_isAround_i86 fu k (sI d) (sI e) r s.1 s.2.1 s.2.2.1 s.2.2.2.1 s.2.2.2.2.1 s.2.2.2.2.2) (Q := fun z => z = (bI (ac0 pa kd de fr to d e && allN (stB pa kd de fr to d e) E), A, L)) (fun i (_ : Unit) => (sI (fr e), sI (to e), bI (ac0 pa kd de fr to d e && allN (stB pa kd de fr to d e) (i - 1)), sI i, A, L)) (fun i _ => 1 ≤ i) (E + 1) ?_ ?_ E 1 () fu (by omega) (by omega) (Nat.le_refl _)
      · obtain ⟨z, hz, rfl⟩ := h
        rw [show (ac0 pa kd de fr to d e && allN (stB pa kd de fr to d e) (1 - 1)) = g from by rw [hg]; show (g && true) = g; simp] at hz
        exact hz
      · intro i _ r hi hi1 ih
        obtain ⟨n, rfl⟩ : ∃ n, i = n + 1 := ⟨i - 1, by omega⟩
        obtain ⟨j1, j2, j3, j4, j5, j6, j7, j8, _⟩ := hE.2 (n + 1) (by omega) (by omega)
        have ih2 := ih () (by omega)
        have el : allN (stB pa kd de fr to d e) (n + 1) = (allN (stB pa kd de fr to d e) n && stB pa kd de fr to d e (n + 1)) := rfl
        rw [show n + 1 + 1 - 1 = n + 1 from rfl, el, ← Bool.and_assoc] at ih2
        show wq (fX2_isAround_i86 fu k (sI d) (sI e) r (sI (fr e)) (sI (to e)) (bI (ac0 pa kd de fr to d e && allN (stB pa kd de fr to d e) n)) (sI (n + 1)) A L) _
        unfold fX2_isAround_i86
        rw [hEC.1, if_neg (by rw [sI_lt (by omega) (by omega)]; omega)]
        cases ha : (ac0 pa kd de fr to d e && allN (stB pa kd de fr to d e) n) with
        | false =>
          rw [if_pos bI_f]
          unfold fX2_isAround_b209
          refine wq_zz (Or.inl rfl) (wq_some ?_)
          have : (ac0 pa kd de fr to d e && allN (stB pa kd de fr to d e) E) = false := by
            by_cases hx : (ac0 pa kd de fr to d e && allN (stB pa kd de fr to d e) E) = true
            · rw [Bool.and_eq_true] at hx
              have : allN (stB pa kd de fr to d e) n = true := by
                rw [allN_iff]
                intro j q1 q2
                exact (allN_iff E).mp hx.2 j q1 (by omega)
              rw [hx.1, this] at ha
              cases ha
            · simpa using hx
          rw [this]
        | true =>
          rw [ha, Bool.true_and] at ih2
          rw [show stB pa kd de fr to d e (n + 1) = ((!(decide (kd (fr e) = 5) && decide (to (n + 1) = fr e)) || insB pa de d (fr (n + 1))) && (!(decide (kd (to e) = 4) && (decide (fr (n + 1) = to e) && decide (kd (to (n + 1)) < 4))) || insB pa de d (to (n + 1)))) from rfl] at ih2
          rw [if_neg (by decide), mck_s (by omega) (by omega), sI_nn (by omega), (hC.2 _ e2).2.1]
          have b141 : ∀ g2 : Bool, (!(decide (kd (fr e) = 5) && decide (to (n + 1) = fr e)) || insB pa de d (fr (n + 1))) = g2 → wq (fX2_isAround_b141 fu k (sI d) (sI e) r (sI (fr e)) (sI (to e)) (bI g2) (sI (n + 1)) A L) (fun z => z = (bI (ac0 pa kd de fr to d e && allN (stB pa kd de fr to d e) E), A, L)) := by
            intro g2 hg2
            rw [hg2] at ih2
            unfold fX2_isAround_b141 fX2_isAround_b203
            simp only [mlet]
            rw [mck_s (by omega) (by omega), sI_nn (by omega), (hC.2 _ e4).2.1, sI_1]
            by_cases h4 : kd (to e) = 4
            · rw [if_pos (by rw [h4]; rfl), mck_s (by omega) (by omega), sI_nn (by omega), (hEC.2 (n + 1) (by omega) (by omega)).1]
              rw [decide_eq_true h4, Bool.true_and] at ih2
              by_cases hfj : fr (n + 1) = to e
              · rw [if_pos (by rw [hfj]), mck_s (by omega) (by omega), (hEC.2 (n + 1) (by omega) (by omega)).2.1, c_isAim hT hC j4, mb3_s]
                rw [decide_eq_true hfj, Bool.true_and] at ih2
                by_cases hkj : kd (to (n + 1)) < 4
                · rw [decide_eq_true hkj] at ih2 ⊢
                  rw [if_neg (by decide), mck_s (by omega) (by omega), (hEC.2 (n + 1) (by omega) (by omega)).2.1, c_isIn (by omega) hT hC j4 hd, mb3_s]
                  have hand : ∀ x y : Bool, bI x &&& bI y = bI (x && y) := by decide
                  rw [hand]
                  rw [Bool.not_true, Bool.false_or] at ih2
                  exact ih2
                · rw [decide_eq_false hkj] at ih2 ⊢
                  rw [if_pos bI_f]
                  rw [Bool.not_false, Bool.true_or, Bool.and_true] at ih2
                  exact ih2
              · rw [if_neg (by rw [sI_eq (by omega) (by omega)]; exact hfj)]
                rw [decide_eq_false hfj, Bool.false_and, Bool.not_false, Bool.true_or, Bool.and_true] at ih2
                exact ih2
            · rw [if_neg (by rw [sI_eql (by omega) (by omega)]; exact h4)]
              rw [decide_eq_false h4, Bool.false_and, Bool.not_false, Bool.true_or, Bool.and_true] at ih2
              exact ih2
          by_cases h5 : kd (fr e) = 5
          · rw [if_pos (by rw [h5]; rfl), mck_s (by omega) (by omega), sI_nn (by omega), (hEC.2 (n + 1) (by omega) (by omega)).2.1]
            by_cases htj : to (n + 1) = fr e
            · rw [if_pos (by rw [htj]), mck_s (by omega) (by omega), (hEC.2 (n + 1) (by omega) (by omega)).1, c_isIn (by omega) hT hC j2 hd, mb3_s]
              exact b141 _ (by rw [decide_eq_true h5, decide_eq_true htj]; rfl)
            · rw [if_neg (by rw [sI_eq (by omega) (by omega)]; exact htj)]
              exact b141 true (by rw [decide_eq_false htj]; simp)
          · rw [if_neg (by rw [sI_eql (by omega) (by omega)]; exact h5)]
            exact b141 true (by rw [decide_eq_false h5]; simp)
      · intro _ r _
        show wq (fX2_isAround_i86 fu k (sI d) (sI e) r (sI (fr e)) (sI (to e)) (bI (ac0 pa kd de fr to d e && allN (stB pa kd de fr to d e) E)) (sI (E + 1)) A L) _
        unfold fX2_isAround_i86 fX2_isAround_b209
        rw [hEC.1, if_pos (by rw [sI_lt (by omega) (by omega)]; omega)]
        exact wq_zz bI_z (wq_some rfl)
    have b53 : (decide (kd (fr e) = 5) || insB pa de d (fr e)) = true → fX2_isAround_b53 fu k (sI d) (sI e) (sI (fr e)) (sI (to e)) A L = some (bI (ac0 pa kd de fr to d e && allN (stB pa kd de fr to d e) E), A, L) := by
      intro hs
      unfold fX2_isAround_b53 fX2_isAround_b76 fX2_isAround_b80
      rw [mck_s (by omega) (by omega), sI_nn (by omega), (hC.2 _ e4).2.1]
      by_cases h4 : kd (to e) = 4
      · rw [if_pos (by rw [h4]; rfl)]
        exact loop true (by unfold ac0; rw [hs, decide_eq_true h4]; rfl)
      · rw [if_neg (by rw [sI_eql (by omega) (by omega)]; exact h4), c_isIn (by omega) hT hC e4 hd, mb3_s]
        cases hi : insB pa de d (to e) with
        | false =>
          rw [if_pos bI_f]
          exact loop false (by unfold ac0; rw [hs, decide_eq_false h4, hi]; rfl)
        | true =>
          rw [if_neg (by decide)]
          exact loop true (by unfold ac0; rw [hs, decide_eq_false h4, hi]; rfl)
    by_cases h5 : kd (fr e) = 5
    · rw [if_pos (by rw [h5]; rfl)]
      exact b53 (by rw [decide_eq_true h5]; rfl)
    · rw [if_neg (by rw [sI_eql (by omega) (by omega)]; exact h5), c_isIn (by omega) hT hC e2 hd, mb3_s]
      cases hi : insB pa de d (fr e) with
      | false =>
        rw [if_pos bI_f]
        unfold fX2_isAround_b80
        exact loop false (by unfold ac0; rw [decide_eq_false h5, hi]; rfl)
      | true =>
        rw [if_neg (by decide)]
        exact b53 (by rw [decide_eq_false h5, hi]; rfl)
  · rw [if_neg (by rw [sI_eql (by omega) (by decide)]; exact hk), decide_eq_false hk]
    rfl
/-- up the tree to what lies around -/
def clB (pa : Nat → Nat) (p : Nat → Bool) : Nat → Nat → Nat
  | 0, d => d
  | f + 1, d => if d = 0 then 0 else if p d = true then d else clB pa p f (pa d)
theorem cl_spec {N : Nat} {pa kd de : Nat → Nat} (h : Tr N pa kd de) {p : Nat → Bool} : ∀ n d, de d = n → d ≤ N → clB pa p n d ≤ N ∧ (clB pa p n d = 0 ∨ p (clB pa p n d) = true) ∧ ∀ x, 1 ≤ x → x ≤ N → (x = d ∨ insB pa de x d = true) → p x = true → de x ≤ de (clB pa p n d) := by
  intro n
  induction n with
  | zero =>
    intro d hn hd
    have h0 : d = 0 := by
      rcases Nat.eq_zero_or_pos d with q | q
      · exact q
      · have := (h.2.2.2.2 d q hd).2.1
        omega
    subst h0
    refine ⟨hd, Or.inl rfl, ?_⟩
    intro x hx1 hx2 hx3 _
    rcases hx3 with q | q
    · omega
    · rw [ins_0 h] at q; cases q
  | succ n ih =>
    intro d hn hd
    have h1 : 1 ≤ d := by
      rcases Nat.eq_zero_or_pos d with q | q
      · rw [q, h.2.2.2.1] at hn; omega
      · exact q
    obtain ⟨w1, w2, w3, w4, w5⟩ := h.2.2.2.2 d h1 hd
    show (if d = 0 then 0 else if p d = true then d else clB pa p n (pa d)) ≤ N ∧ ((if d = 0 then 0 else if p d = true then d else clB pa p n (pa d)) = 0 ∨ p (if d = 0 then 0 else if p d = true then d else clB pa p n (pa d)) = true) ∧ ∀ x, 1 ≤ x → x ≤ N → (x = d ∨ insB pa de x d = true) → p x = true → de x ≤ de (if d = 0 then 0 else if p d = true then d else clB pa p n (pa d))
    rw [if_neg (by omega)]
    by_cases hp : p d = true
    · rw [if_pos hp]
      refine ⟨hd, Or.inr hp, ?_⟩
      intro x hx1 hx2 hx3 _
      rcases hx3 with q | q
      · rw [q]; exact Nat.le_refl _
      · have := ins_lt h d hd q
        omega
    · rw [if_neg hp]
      obtain ⟨i1, i2, i3⟩ := ih (pa d) (by omega) (by omega)
      refine ⟨i1, i2, ?_⟩
      intro x hx1 hx2 hx3 hx4
      refine i3 x hx1 hx2 ?_ hx4
      rcases hx3 with q | q
      · rw [q] at hx4; exact absurd hx4 hp
      · rw [ins_S h h1 hd, Bool.or_eq_true, decide_eq_true_eq] at q
        rcases q with q | q
        · exact Or.inl q.symm
        · exact Or.inr q
/-- climbing from a source's parent finds the domain -/
theorem cl_bst {N E e j : Nat} {pa kd de fr to ev gu : Nat → Nat} (h : Tr N pa kd de) (hE : Ed N E kd fr to ev gu) (hj1 : 1 ≤ j) (hj2 : j ≤ E) (hj : sS kd fr to e j = true) : clB pa (fun d => decide (kd d = 0) && goodB pa kd de fr to E d e) (de (pa (fr j))) (pa (fr j)) = bst pa kd de fr to E e N := by
  obtain ⟨j1, j2, _⟩ := hE.2 j hj1 hj2
  have hp := Tr_pa h j2
  obtain ⟨s1, s2, s3⟩ := cl_spec h (p := fun d => decide (kd d = 0) && goodB pa kd de fr to E d e) (de (pa (fr j))) (pa (fr j)) rfl hp.1
  obtain ⟨b1, b2⟩ := bst_spec (fr := fr) (to := to) (E := E) (e := e) h N (Nat.le_refl _)
  have bl := bst_le (pa := pa) (kd := kd) (de := de) (fr := fr) (to := to) (E := E) (e := e) N
  -- what is good lies around the source
  have hins : ∀ d, goodB pa kd de fr to E d e = true → insB pa de d (fr j) = true := by
    intro d hd
    unfold goodB at hd
    have := (allN_iff E).mp hd j hj1 hj2
    rw [Bool.and_eq_true, hj] at this
    simpa using this.1
  have hch : ∀ d, goodB pa kd de fr to E d e = true → (d = pa (fr j) ∨ insB pa de d (pa (fr j)) = true) := by
    intro d hd
    have := hins d hd
    rw [ins_S h j1 j2, Bool.or_eq_true, decide_eq_true_eq] at this
    rcases this with q | q
    · exact Or.inl q.symm
    · exact Or.inr q
  generalize clB pa (fun d => decide (kd d = 0) && goodB pa kd de fr to E d e) (de (pa (fr j))) (pa (fr j)) = D at *
  generalize bst pa kd de fr to E e N = B at *
  have hpos : ∀ x, 1 ≤ x → x ≤ N → 1 ≤ de x := by
    intro x q1 q2
    have := (h.2.2.2.2 x q1 q2).2.1
    omega
  have h0 := h.2.2.2.1
  rcases Nat.eq_zero_or_pos B with hB | hB
  · rcases Nat.eq_zero_or_pos D with hD | hD
    · rw [hB, hD]
    · exfalso
      rcases s2 with q | q
      · omega
      · simp only [Bool.and_eq_true, decide_eq_true_eq] at q
        have := b2 D hD s1 q.1 q.2
        rw [hB, h0] at this
        have := hpos D hD s1
        omega
  · rcases b1 with q | ⟨q1, q2⟩
    · omega
    · have hDB := s3 B hB bl (hch B q2) (by simp [q1, q2])
      have hBp := hpos B hB bl
      rcases s2 with z | z
      · rw [z, h0] at hDB; omega
      · simp only [Bool.and_eq_true, decide_eq_true_eq] at z
        have hD : 1 ≤ D := by
          rcases Nat.eq_zero_or_pos D with y | y
          · rw [y, h0] at hDB; omega
          · exact y
        have hBD := b2 D hD s1 z.1 z.2
        exact ins_uniq h (by omega) (fr j) j2 (hins D z.2) (hins B q2)
