/-! what one pack leaves on both sides -/
def PKq (A A' M M' : mwM) (k c p F G n cap S : Nat) (P : Nat → Bool) (bt pe ky fr oc : Nat → Nat) (tu : Nat → Bool) : Prop :=
  LkS A A' F G S P fr oc ∧ G ≤ n ∧ M' 732 67 = sI (F + G) ∧ PFx M' c p F G ∧
  (∀ s, s < S → P s = true → M' 766 s = sI (lxf P s) ∧ lxf P s ≤ n ∧ 1 ≤ fr (lxf P s) ∧ fr (lxf P s) ≤ G ∧ oc (lxf P s) + ocs bt s ≤ cap ∧ M' 767 s = sI (F + fr (lxf P s) - 1) ∧ M' 768 s = sI (8 * oc (lxf P s)) ∧ M' 782 (F + fr (lxf P s) - 1) = sI (pe s) ∧ M' 783 (F + fr (lxf P s) - 1) = sI (ky s) ∧ M' k 1 = sI cap ∧ M' k 2 = sI n ∧ M' k 15 = 1 ∧ M' (k + 1) (lxf P s) = sI (bt s) ∧ M' (k + 3) (lxf P s) = bI (tu s) ∧ M' (k + 4) (lxf P s) = -1 ∧ M' (k + 5) (lxf P s) = sI (lxf P s) ∧ M' (k + 12) (129 + lxf P s) = sI (fr (lxf P s)) ∧ M' (k + 13) (129 + lxf P s) = sI (8 * oc (lxf P s)) ∧ M' (k + 14) (fr (lxf P s)) = sI ((fr (lxf P s) - 1) * cap)) ∧
  (∀ y, y < G * cap → M' (k + 15) y = 0) ∧ (∀ f, 1 ≤ f → f ≤ G → ∃ s, s < S ∧ P s = true ∧ fr (lxf P s) = f) ∧
  (∀ s t, s < S → t < S → P s = true → P t = true → s ≠ t → fr (lxf P s) = fr (lxf P t) → oc (lxf P s) + ocs bt s ≤ oc (lxf P t) ∨ oc (lxf P t) + ocs bt t ≤ oc (lxf P s)) ∧
  (∀ y, P y = false → M' 766 y = M 766 y ∧ M' 767 y = M 767 y ∧ M' 768 y = M 768 y) ∧ (∀ y, M' (k + 8) y = M (k + 8) y) ∧
  ∀ a y, ¬ (k ≤ a ∧ a ≤ k + 22) → ¬ (766 ≤ a ∧ a ≤ 768) → ¬ (a = 732 ∧ y = 67) → ¬ ((779 ≤ a ∧ a ≤ 783 ∨ a = 785) ∧ F ≤ y) → M' a y = M a y
theorem lk_one0 {fu k cap S c p F K : Nat} {lk : Bool} {A M : mwM} {L L2 : mwL} {bt pe co ky ka kp kn : Nat → Nat} {tu : Nat → Bool} (hfu : 90000 ≤ fu) (hc : c < 6) (hp : p < 12) (hk : k = 941 + 53 * p) (hcap : cap = if lk = true then 3 else 8) (hSC : SgC A S bt pe co ky) (hS : SgM M S bt pe co tu) (hK : KyM M K ka kp kn) (hky : ∀ s, s < S → ky s = kyf ka kp kn (co s) (pe s) K 0) (h8 : ∀ y, y ≤ 40 → M (k + 8) y = 0) (hfit : ∀ s, s < S → isO co ky c lk s = true → ocs bt s ≤ cap) (hFA : A 61 11 = sI F) (hFM : M 732 67 = sI F) (h40 : F + cnt (isO co ky c lk) S ≤ 40) : ∃ A' M' fr oc G, DX6_packOf fu (sI c) (bI lk) A L = some (A', L) ∧ DX19_packOne fu (sI c) (bI lk) (sI p) M L2 = some (1, M', L2) ∧ PKq A A' M M' k c p F G (cnt (isO co ky c lk) S) cap S (isO co ky c lk) bt pe ky fr oc tu := by
  have hS40 := hS.2.1
  have hcap8 : cap ≤ 8 := by rw [hcap]; split <;> omega
  have hpo := m_pO1 (fu := fu) (L := L2) (by omega) hc hp hk hcap hS hK hky h8
  rcases hpo with ⟨B, hB, hle, hX⟩ | ⟨t, B, t1, t2, t3, _⟩
  · obtain ⟨b1, b2, b3, b4, b5⟩ := hB
    have hSB : SgM B S bt pe co tu := SgM_f hS (fun a y w => b4 a y (by omega) (by omega))
    have hKB : KyM B K ka kp kn := KyM_f hK (fun a y w => b4 a y (by omega) (by omega))
    rw [hX]
    by_cases n0 : 0 < cnt (isO co ky c lk) S
    · rw [if_pos n0]
      obtain ⟨hPs, h15⟩ := b1 n0
      have esof : ∀ s, s < S → isO co ky c lk s = true → sof (isO co ky c lk) (lxf (isO co ky c lk) s) S = s := fun s q1 q2 => sof_lx q2 S q1
      have hLB : LkB S (cnt (isO co ky c lk) S) cap (isO co ky c lk) bt pe co ky (fun l => pe (sof (isO co ky c lk) l S)) (fun l => ((fun l => bt (sof (isO co ky c lk) l S)) l + 7) / 8) c := by
        refine ⟨rfl, fun s q1 q2 => ?_, fun s t q1 q2 q3 q4 q5 => ?_⟩
        · dsimp only
          rw [esof s q1 q2]
          have hco : co s = c := by
            unfold isO at q2
            rw [Bool.and_eq_true] at q2
            exact of_decide_eq_true q2.1
          exact ⟨rfl, rfl, hfit s q1 q2, hco⟩
        · unfold isO at q3 q4
          rw [Bool.and_eq_true] at q3 q4
          rw [hky s q1, hky t q2, of_decide_eq_true q3.1, of_decide_eq_true q4.1, q5]
      obtain ⟨A', M1, fr, oc, G, e1, e2, e3, e4, e5, e6, e7, e8, e9, e10, e11⟩ := lk_pack1 (fu := fu) (k := k) (L := L) (L2 := L2) hfu hSC hc hLB h40 hcap hFA hPs h15
      rw [e2, mb3_s]
      have hS1 : SgM M1 S bt pe co tu := SgM_f hSB (fun a y w => e11 a y (by omega) (by omega))
      have hK1 : KyM M1 K ka kp kn := KyM_f hKB (fun a y w => e11 a y (by omega) (by omega))
      have hl : ∀ s, s < S → isO co ky c lk s = true → 1 ≤ lxf (isO co ky c lk) s ∧ lxf (isO co ky c lk) s ≤ cnt (isO co ky c lk) S := fun s q1 q2 => ⟨lxf_1, cnt_in q1 q2⟩
      have hsame : ∀ s t, s < S → t < S → isO co ky c lk s = true → isO co ky c lk t = true → fr (lxf (isO co ky c lk) s) = fr (lxf (isO co ky c lk) t) → pe s = pe t ∧ ky s = ky t := by
        intro s t q1 q2 q3 q4 q5
        obtain ⟨w1, w2⟩ := hl s q1 q3
        obtain ⟨w3, w4⟩ := hl t q2 q4
        obtain ⟨_, _, f1, _, _⟩ := e4 _ w1 w2
        obtain ⟨_, _, f2, _, _⟩ := e4 _ w3 w4
        obtain ⟨_, _, o1, o2, o3, _⟩ := e3.2.1 s q1 q3 (by omega)
        obtain ⟨_, _, o1', o2', o3', _⟩ := e3.2.1 t q2 q4 (by omega)
        rw [← q5] at o2' o3'
        obtain ⟨a1, a2, a3, a4, a5, a6, a7, a8, a9, a10⟩ := hSC.2.2 s q1
        obtain ⟨d1, d2, d3, d4, d5, d6, d7, d8, d9, d10⟩ := hSC.2.2 t q2
        exact ⟨sI_inj (by omega) (by omega) (by rw [← a4, ← d4, ← o2, ← o2']), sI_inj (by omega) (by omega) (by rw [← a9, ← d9, ← o3, ← o3'])⟩
      obtain ⟨M2, g1, g2, g3, g4, g5, g6⟩ := m_pO2 (cap := cap) (fu := fu) (L := L2) (M := M1) (lk := lk) (G := G) (fr := fr) (oc := oc) (F0 := F) (by omega) hc hp hk hS1 hK1 hky rfl (fun w => by
          obtain ⟨l, l1, l2⟩ := lxf_ex (P := isO co ky c lk) (S := S) (l := 1) (by omega) (by omega)
          have := e4 1 (by omega) (by omega)
          omega) (fun _ => by rw [e11 _ _ (by omega) (by omega)]; exact hPs.2.2.1.1) (fun _ => e8) (fun _ => e4) (fun t q1 q2 => by rw [e11 _ _ (by omega) (by omega)]; exact b2 t q1 q2) hsame (by rw [e11 _ _ (by omega) (by omega), b4 _ _ (by omega) (by omega)]; exact hFM) (by omega)
      have rk : ∀ a y, (k + 1 ≤ a ∧ a ≤ k + 40) ∨ (a = k ∧ y ≠ 0) → M2 a y = M1 a y := fun a y w => g6 a y (by omega) (by omega) (by omega) (by omega) (by omega)
      refine ⟨A', M2, fr, oc, G, e1, g1, e3, e6, g2, g3, fun s q1 q2 => ?_, fun y hy => by rw [rk _ _ (by omega)]; exact e10 y hy, fun f f1 f2 => ?_, fun s t q1 q2 q3 q4 q5 q6 => ?_, fun y hy => ?_, fun y => ?_, fun a y w1 w2 w3 w4 => ?_⟩
      · obtain ⟨w1, w2⟩ := hl s q1 q2
        obtain ⟨c1, c2, c3, c4, c5⟩ := e4 _ w1 w2
        obtain ⟨i1, i2, i3, i4⟩ := g4 s q1 q2 (Or.inl c4)
        obtain ⟨x1, x2, x3, x4, x5, x6⟩ := hPs.2.2.1.2.2 _ w1 w2
        have od := e7.1 _ w1 w2 (by omega)
        dsimp only at x3 x6 od
        rw [esof s q1 q2] at x3 x6 od
        refine ⟨?_, w2, c3, c4, od, i1, i2, i3, i4, ?_, ?_, ?_, ?_, ?_, ?_, ?_, by rw [rk _ _ (by omega)]; exact c1, by rw [rk _ _ (by omega)]; exact c2, by rw [rk _ _ (by omega)]; exact e9 _ c3 c4⟩
        · rw [g6 _ _ (by omega) (by omega) (by omega) (by omega) (by omega), e11 _ _ (by omega) (by omega)]
          exact b2 s q1 q2
        · rw [rk _ _ (by omega), e11 _ _ (by omega) (by omega)]; exact hPs.1
        · rw [rk _ _ (by omega), e11 _ _ (by omega) (by omega)]; exact hPs.2.2.1.1
        · rw [rk _ _ (by omega)]; exact e8
        · rw [rk _ _ (by omega), e11 _ _ (by omega) (by omega)]; exact x3
        · rw [rk _ _ (by omega), e11 _ _ (by omega) (by omega)]; exact x6
        · rw [rk _ _ (by omega), e11 _ _ (by omega) (by omega)]; exact x2
        · rw [rk _ _ (by omega), e11 _ _ (by omega) (by omega)]; exact x1
      · obtain ⟨l, l1, l2, l3⟩ := e5 f f1 f2
        obtain ⟨s, s1, s2, s3⟩ := lxf_ex (P := isO co ky c lk) (S := S) l1 l2
        exact ⟨s, s1, s2, by rw [s3]; exact l3⟩
      · obtain ⟨w1, w2⟩ := hl s q1 q3
        obtain ⟨w3, w4⟩ := hl t q2 q4
        have := e7.2 _ _ w1 w2 w3 w4 (fun w => q5 (lxf_inj q3 q4 w)) q6 (by have := (e4 _ w1 w2).2.2.1; omega)
        dsimp only at this
        rw [esof s q1 q3, esof t q2 q4] at this
        exact this
      · obtain ⟨u1, u2⟩ := g5 y hy
        rw [u1, u2, g6 _ _ (by omega) (by omega) (by omega) (by omega) (by omega), e11 _ _ (by omega) (by omega), e11 _ _ (by omega) (by omega), e11 _ _ (by omega) (by omega), b4 767 y (by omega) (by omega), b4 768 y (by omega) (by omega)]
        exact ⟨b3 y hy, rfl, rfl⟩
      · rw [rk _ _ (by omega), e11 _ _ (by omega) (by omega)]
        exact b5 y
      · rw [g6 a y (by omega) w3 (by omega) (by omega) w4, e11 a y (by omega) (by omega)]
        exact b4 a y (by omega) (by omega)
    · rw [if_neg n0]
      have hno : ∀ s, s < S → isO co ky c lk s = false := fun s q1 => by
        cases hb : isO co ky c lk s with
        | false => rfl
        | true =>
          have := cnt_in q1 hb
          have := lxf_1 (P := isO co ky c lk) (s := s)
          omega
      have g := m_pO2 (cap := cap) (fu := fu) (L := L2) (M := B) (lk := lk) (G := 0) (fr := fun _ => 0) (oc := fun _ => 0) (F0 := F) (by omega) hc hp hk hSB hKB hky rfl (fun _ => by omega) (fun w => absurd w (by omega)) (fun w => absurd w (by omega)) (fun w => absurd w (by omega)) b2 (fun s t q1 q2 q3 => by rw [hno s q1] at q3; cases q3) (by rw [b4 _ _ (by omega) (by omega)]; exact hFM) (by omega)
      obtain ⟨M2, g1, g2, g3, g4, g5, g6⟩ := g
      refine ⟨A, M2, fun _ => 0, fun _ => 0, 0, lk_packOf0 (by omega) hSC hc hno, g1, ⟨hFA, fun s _ _ w => absurd rfl w, fun _ _ => ⟨rfl, rfl⟩, fun _ _ _ _ _ _ _ => rfl⟩, by omega, g2, g3, fun s q1 q2 => (by rw [hno s q1] at q2; cases q2), fun y hy => by omega, fun f f1 f2 => by omega, fun s t q1 q2 q3 => (by rw [hno s q1] at q3; cases q3), fun y hy => ?_, fun y => ?_, fun a y w1 w2 w3 w4 => ?_⟩
      · obtain ⟨u1, u2⟩ := g5 y hy
        rw [u1, u2, g6 _ _ (by omega) (by omega) (by omega) (by omega) (by omega), b4 767 y (by omega) (by omega), b4 768 y (by omega) (by omega)]
        exact ⟨b3 y hy, rfl, rfl⟩
      · rw [g6 _ _ (by omega) (by omega) (by omega) (by omega) (by omega)]
        exact b5 y
      · rw [g6 a y (by omega) w3 (by omega) (by omega) w4]
        exact b4 a y (by omega) (by omega)
  · have := hfit t t1 t2
    omega
