/-! the bus begins anew -/
theorem c_begin0 {fu N : Nat} {A : mwM} {L : mwL} (hfu : 150000 ≤ fu) (hN : N ≤ 7) : wq (DX0_begin fu (sI N) A L) (fun z => z.2 = L ∧ z.1 20 8 = sI N ∧ z.1 20 9 = sI 0 ∧ z.1 20 10 = sI 0 ∧ z.1 20 11 = sI 0 ∧ z.1 20 12 = sI 0 ∧ z.1 20 13 = bI true ∧ (∀ n, n < 7 → z.1 25 n = sI 0 ∧ z.1 30 n = sI 0 ∧ z.1 31 n = sI 0) ∧ (∀ t, t < 20000 → z.1 22 t = sI 0) ∧ ∀ a y, ¬ (a = 20 ∧ 8 ≤ y ∧ y ≤ 13) → ¬ ((a = 25 ∨ a = 30 ∨ a = 31) ∧ y < 7) → ¬ (a = 22 ∧ y < 20000) → z.1 a y = A a y) := by
  unfold DX0_begin
  rw [if_neg (show ¬ 7 < sI N by rw [sI_llt (by decide) (by omega)]; omega)]
  simp only [mlet]
  generalize hA1 : mset (mset (mset (mset (mset (mset A 20 8 (sI N)) 20 9 0) 20 10 0) 20 11 0) 20 12 0) 20 13 1 = A1
  have f1 : ∀ a y, ¬ (a = 20 ∧ 8 ≤ y ∧ y ≤ 13) → A1 a y = A a y := fun a y u => by
    rw [← hA1]
    simp (disch := omega) only [mset_n]
  have v1 : A1 20 8 = sI N ∧ A1 20 9 = sI 0 ∧ A1 20 10 = sI 0 ∧ A1 20 11 = sI 0 ∧ A1 20 12 = sI 0 ∧ A1 20 13 = bI true := by
    rw [← hA1]
    simp (disch := omega) only [mset_n, mset_s]
    exact ⟨(by first | trivial | rfl), (by first | trivial | rfl), (by first | trivial | rfl), (by first | trivial | rfl), (by first | trivial | rfl), (by first | trivial | rfl)⟩
  refine wq_for (body := fun r z => fX0_begin_i37 fu (sI N) r z.1 z.2.1 z.2.2) (fun i (x : mwM) => (sI i, x, L)) (fun i x => (∀ j, j < i → x 25 j = sI 0 ∧ x 30 j = sI 0 ∧ x 31 j = sI 0) ∧ ∀ a y, ¬ ((a = 25 ∨ a = 30 ∨ a = 31) ∧ y < 7) → x a y = A1 a y) 7 ?_ ?_ 7 0 A1 fu (by omega) (by omega) ⟨fun j u => by omega, fun _ _ _ => rfl⟩
  · intro i x r hi ⟨x1, x2⟩ ih
    show wq (fX0_begin_i37 fu (sI N) r (sI i) x L) _
    unfold fX0_begin_i37
    rw [if_neg (by rw [sI_lle (by decide) (by omega)]; omega)]
    simp only [mlet]
    rw [mck_s hi (by omega), mck_s hi (by omega), mck_s hi (by omega), sI_nn (by omega), sI_1]
    refine ih _ ⟨fun j u => ?_, fun a y u => by rw [mset_n (by omega), mset_n (by omega), mset_n (by omega)]; exact x2 a y u⟩
    by_cases z : j = i
    · rw [z]
      simp (disch := omega) only [mset_n, mset_s]
      exact ⟨(by first | trivial | rfl), (by first | trivial | rfl), (by first | trivial | rfl)⟩
    · simp (disch := omega) only [mset_n]
      exact x1 j (by omega)
  · intro x r ⟨x1, x2⟩
    show wq (fX0_begin_i37 fu (sI N) r (sI 7) x L) _
    unfold fX0_begin_i37
    rw [if_pos (by decide)]
    refine wq_for (body := fun r z => fX0_begin_i79 fu (sI N) r z.1 z.2.1 z.2.2) (fun i (y : mwM) => (sI i, y, L)) (fun i y => (∀ t, t < i → y 22 t = sI 0) ∧ ∀ a b, ¬ (a = 22 ∧ b < 20000) → y a b = x a b) 20000 ?_ ?_ 20000 0 x fu (by omega) (by omega) ⟨fun j u => by omega, fun _ _ _ => rfl⟩
    · intro i y r hi ⟨y1, y2⟩ ih
      show wq (fX0_begin_i79 fu (sI N) r (sI i) y L) _
      unfold fX0_begin_i79
      rw [if_neg (by rw [sI_lle (by decide) (by omega)]; omega), mck_s hi (by omega), sI_nn (by omega), show vp_nar .byte 0 = sI 0 by decide]
      simp only [mlet]
      rw [sI_1]
      refine ih _ ⟨fun t u => ?_, fun a b u => by rw [mset_n (by omega)]; exact y2 a b u⟩
      by_cases z : t = i
      · rw [z, mset_s]
      · rw [mset_n (by omega)]
        exact y1 t (by omega)
    · intro y r ⟨y1, y2⟩
      show wq (fX0_begin_i79 fu (sI N) r (sI 20000) y L) _
      unfold fX0_begin_i79
      rw [if_pos (by decide)]
      have g : ∀ a b, ¬ ((a = 25 ∨ a = 30 ∨ a = 31) ∧ b < 7) → ¬ (a = 22 ∧ b < 20000) → y a b = A1 a b := fun a b u1 u2 => by rw [y2 a b u2, x2 a b u1]
      refine wq_some ⟨rfl, ?_, ?_, ?_, ?_, ?_, ?_, fun n u => ?_, y1, fun a b u1 u2 u3 => ?_⟩
      · dsimp only
        rw [g 20 8 (by omega) (by omega)]; exact v1.1
      · dsimp only
        rw [g 20 9 (by omega) (by omega)]; exact v1.2.1
      · dsimp only
        rw [g 20 10 (by omega) (by omega)]; exact v1.2.2.1
      · dsimp only
        rw [g 20 11 (by omega) (by omega)]; exact v1.2.2.2.1
      · dsimp only
        rw [g 20 12 (by omega) (by omega)]; exact v1.2.2.2.2.1
      · dsimp only
        rw [g 20 13 (by omega) (by omega)]; exact v1.2.2.2.2.2
      · dsimp only
        rw [y2 25 n (by omega), y2 30 n (by omega), y2 31 n (by omega)]
        exact x1 n u
      · dsimp only
        rw [g a b u2 u3, f1 a b u1]
theorem m_nodes {fu N : Nat} {M : mwM} {L : mwL} (hfu : 150000 ≤ fu) (hN : N ≤ 7) : wq (DX12_nodes fu (sI N) M L) (fun z => z.2 = L ∧ z.1 821 0 = 0 ∧ z.1 821 1 = sI N ∧ z.1 821 2 = sI 0 ∧ z.1 821 4 = sI 0 ∧ z.1 821 11 = sI 0 ∧ z.1 821 22 = sI 0 ∧ z.1 821 29 = sI 0 ∧ z.1 821 48 = -1 ∧ z.1 821 50 = -1 ∧ (∀ n, n < 32 → z.1 831 n = sI 0 ∧ z.1 834 n = 0 ∧ z.1 835 n = 0) ∧ (∀ i, i < 140000 → z.1 838 i = sI 0) ∧ ∀ a y, ¬ (821 ≤ a ∧ a ≤ 838) → z.1 a y = M a y) := by
  unfold DX12_nodes fX12_nodes_b30
  simp only [mlet]
  rw [if_pos (show sI N ≤ 32 by rw [sI_lel (by omega) (by decide)]; omega), if_pos (show 0 ≤ sI N by rw [sI_lle (by decide) (by omega)]; omega), mset_s, if_pos (show (0 : Int32) ≤ 0 by decide)]
  generalize hM1 : mset (mset (mset (mset (mset (mset (mset (mset (mset M 821 50 (-1)) 821 48 (-1)) 821 0 0) 821 1 (sI N)) 821 2 0) 821 4 0) 821 11 0) 821 22 0) 821 29 0 = M1
  have f1 : ∀ a y, a ≠ 821 → M1 a y = M a y := fun a y u => by
    rw [← hM1]
    simp (disch := omega) only [mset_n]
  have v1 : M1 821 0 = 0 ∧ M1 821 1 = sI N ∧ M1 821 2 = sI 0 ∧ M1 821 4 = sI 0 ∧ M1 821 11 = sI 0 ∧ M1 821 22 = sI 0 ∧ M1 821 29 = sI 0 ∧ M1 821 48 = -1 ∧ M1 821 50 = -1 := by
    rw [← hM1]
    simp (disch := omega) only [mset_n, mset_s]
    exact ⟨(by first | trivial | rfl), (by first | trivial | rfl), (by first | trivial | rfl), (by first | trivial | rfl), (by first | trivial | rfl), (by first | trivial | rfl), (by first | trivial | rfl), (by first | trivial | rfl), (by first | trivial | rfl)⟩
  refine wq_for (body := fun r z => fX12_nodes_i73 fu (sI N) r z.1 z.2.1 z.2.2) (fun i (x : mwM) => (sI i, x, L)) (fun i x => (∀ j, j < i → x 831 j = sI 0 ∧ x 834 j = 0 ∧ x 835 j = 0) ∧ ∀ a y, a ≠ 831 → a ≠ 834 → a ≠ 835 → x a y = M1 a y) 32 ?_ ?_ 32 0 M1 fu (by omega) (by omega) ⟨fun j u => by omega, fun _ _ _ _ _ => rfl⟩
  · intro i x r hi ⟨x1, x2⟩ ih
    show wq (fX12_nodes_i73 fu (sI N) r (sI i) x L) _
    unfold fX12_nodes_i73
    rw [if_neg (by rw [sI_lle (by decide) (by omega)]; omega)]
    simp only [mlet]
    rw [mck_s hi (by omega), mck_s hi (by omega), mck_s hi (by omega), sI_nn (by omega), sI_1]
    refine ih _ ⟨fun j u => ?_, fun a y u1 u2 u3 => by rw [mset_n (by omega), mset_n (by omega), mset_n (by omega)]; exact x2 a y u1 u2 u3⟩
    by_cases z : j = i
    · rw [z]
      simp (disch := omega) only [mset_n, mset_s]
      exact ⟨(by first | trivial | rfl), (by first | trivial | rfl), (by first | trivial | rfl)⟩
    · simp (disch := omega) only [mset_n]
      exact x1 j (by omega)
  · intro x r ⟨x1, x2⟩
    show wq (fX12_nodes_i73 fu (sI N) r (sI 32) x L) _
    unfold fX12_nodes_i73
    rw [if_pos (by decide)]
    refine wq_for (body := fun r z => fX12_nodes_i108 fu (sI N) r z.1 z.2.1 z.2.2) (fun i (y : mwM) => (sI i, y, L)) (fun i y => (∀ t, t < i → y 838 t = sI 0) ∧ ∀ a b, a ≠ 838 → y a b = x a b) 140000 ?_ ?_ 140000 0 x fu (by omega) (by omega) ⟨fun j u => by omega, fun _ _ _ => rfl⟩
    · intro i y r hi ⟨y1, y2⟩ ih
      show wq (fX12_nodes_i108 fu (sI N) r (sI i) y L) _
      unfold fX12_nodes_i108
      rw [if_neg (by rw [sI_lle (by decide) (by omega)]; omega), mck_s hi (by omega), sI_nn (by omega), show vp_nar .boolean 0 = sI 0 by decide]
      simp only [mlet]
      rw [sI_1]
      refine ih _ ⟨fun t u => ?_, fun a b u => by rw [mset_n (by omega)]; exact y2 a b u⟩
      by_cases z : t = i
      · rw [z, mset_s]
      · rw [mset_n (by omega)]
        exact y1 t (by omega)
    · intro y r ⟨y1, y2⟩
      show wq (fX12_nodes_i108 fu (sI N) r (sI 140000) y L) _
      unfold fX12_nodes_i108
      rw [if_pos (by decide)]
      have g : ∀ b, y 821 b = M1 821 b := fun b => by rw [y2 821 b (by omega), x2 821 b (by omega) (by omega) (by omega)]
      refine wq_some ⟨rfl, ?_, ?_, ?_, ?_, ?_, ?_, ?_, ?_, ?_, fun n u => ?_, y1, fun a b u => ?_⟩
      · dsimp only
        rw [g]; exact v1.1
      · dsimp only
        rw [g]; exact v1.2.1
      · dsimp only
        rw [g]; exact v1.2.2.1
      · dsimp only
        rw [g]; exact v1.2.2.2.1
      · dsimp only
        rw [g]; exact v1.2.2.2.2.1
      · dsimp only
        rw [g]; exact v1.2.2.2.2.2.1
      · dsimp only
        rw [g]; exact v1.2.2.2.2.2.2.1
      · dsimp only
        rw [g]; exact v1.2.2.2.2.2.2.2.1
      · dsimp only
        rw [g]; exact v1.2.2.2.2.2.2.2.2
      · dsimp only
        rw [y2 831 n (by omega), y2 834 n (by omega), y2 835 n (by omega)]
        exact x1 n u
      · dsimp only
        rw [y2 a b (by omega), x2 a b (by omega) (by omega) (by omega), f1 a b (by omega)]
theorem st_begin {fu N : Nat} {ow id : Nat → Nat} {oc : Nat → Nat → Nat} {dn : Nat → Nat} {A M : mwM} {Lc Lm : mwL} (hfu : 150000 ≤ fu) (h1 : 1 ≤ N) (hN : N ≤ 7) (hO : OcA A) : ∃ A' M', DX0_begin fu (sI N) A Lc = some (A', Lc) ∧ DX12_nodes fu (sI N) M Lm = some (M', Lm) ∧ BusR A' M' N 0 0 ow id oc dn z0 z0 z0 true ∧ A' 20 12 = sI 0 ∧ (∀ a y, ¬ (20 ≤ a ∧ a ≤ 60) → A' a y = A a y) ∧ ∀ a y, ¬ (821 ≤ a ∧ a ≤ 853) → M' a y = M a y := by
  obtain ⟨⟨A1, La⟩, e1, a1, a2, a3, a4, a5, a6, a7, a8, a9, a10⟩ := c_begin0 (fu := fu) (A := A) (L := Lc) hfu hN
  dsimp only at a1 a2 a3 a4 a5 a6 a7 a8 a9 a10
  rw [a1] at e1
  obtain ⟨⟨M1, Lb⟩, e2, b1, b2, b3, b4, b5, b6, b7, b8, b9, b10, b11, b12, b13⟩ := m_nodes (fu := fu) (M := M) (L := Lm) hfu hN
  dsimp only at b1 b2 b3 b4 b5 b6 b7 b8 b9 b10 b11 b12 b13
  rw [b1] at e2
  refine ⟨A1, M1, e1, e2, ⟨⟨⟨h1, hN, by omega⟩, ⟨a2, b3, b4⟩, ⟨a3, by omega, fun f u => by omega⟩, ⟨b5, by omega, fun f u => by omega⟩, Or.inl b10, Or.inl b9, ⟨a4, b8, fun i u => absurd u (by show ¬ i < 0; omega)⟩, ⟨a5, b6⟩, fun n u => ⟨(a8 n u).2.1, (a8 n u).2.2, (b11 n (by omega)).2.1, (b11 n (by omega)).2.2⟩, b7, ⟨z0, fun k u => absurd u (by show ¬ k < 0; omega), fun n u => rfl⟩, fun n u => ⟨by show 8 * 0 ≤ 0 + 8; omega, by show 40 * 0 ≤ 0; omega⟩⟩, fun n u => Or.inl ⟨(a8 n (by omega)).1, (b11 n (by omega)).1, by show 8 * 0 ≤ 0; omega, by show 40 * 0 ≤ 0; omega⟩, fun n u => ?_, fun t u => ⟨a9 t u, by show 0 < 128; omega, fun n w => ?_⟩, ⟨a7, fun _ n u => ⟨(a8 n (by omega)).1, (a8 n (by omega)).2.1⟩⟩, fun i u => by omega⟩, a6, fun a y u => a10 a y (by omega) (by omega) (by omega), fun a y u => b13 a y (by omega)⟩
  · obtain ⟨o, ho⟩ := hO n u
    exact ⟨o, OcR_f ho (fun y => a10 _ y (by omega) (by omega) (by omega))⟩
  · rw [b12 _ (by omega)]
    show sI 0 = sI (0 / 2 ^ n % 2)
    rw [Nat.zero_div]
