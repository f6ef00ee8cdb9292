/-! SYSTEM: the call -/
theorem PR_g {A A' M M' : mwM} {Lc Lm : mwL} {n C T X S K R W : Nat} {nl : List Nm} {ow ct : Nat → Nat} {sg : Nat → Nat → Nat} {tu : Nat → Bool} {ky rd wt : Nat → Nat → Nat} (h : PR A M Lc Lm n C T X S K R W nl ow ct sg tu ky rd wt) (hA : ∀ a y, 2 ≤ a ∨ (a = 1 ∧ y = 3) → A' a y = A a y) (hM : ∀ a y, ¬ (a = 732 ∧ 6 ≤ y ∧ y ≤ 13) → ¬ (743 ≤ a ∧ a ≤ 746 ∧ y = T) → ¬ ((a = 761 ∨ a = 764 ∨ a = 765) ∧ y = S) → M' a y = M a y) : PR A' M' Lc Lm n C T X S K R W nl ow ct sg tu ky rd wt := by
  obtain ⟨⟨h1, h2, h3⟩, h4, h5, h6, h7, h8, h9, h10, h11, h12⟩ := h
  refine ⟨⟨by rw [hA _ _ (by omega)]; exact h1, by rw [hM _ _ (by omega) (by omega) (by omega)]; exact h2, h3⟩, PrT_f h4 (fun a y u => hA a y (by omega)) (fun a y u => hM a y (by omega) (by omega) (by omega)), PrX_f h5 (fun a y u => hA a y (by omega)) (fun a y u => hM a y (by omega) (by omega) (by omega)) (fun _ _ _ => rfl) (fun _ _ => rfl), PrB_f h6 (fun a a1 a2 => hM a 0 (by omega) (by omega) (by omega)) (fun _ _ _ _ _ => rfl) (fun _ _ _ _ _ => rfl), PrS_f h7 (fun a y u => hA a y (by omega)) (fun a y u => hM a y (by omega) (by omega) (by omega)), PrK_f h8 (fun a y u => hA a y (by omega)) (fun a y u => hM a y (by omega) (by omega) (by omega)), RdR_f h9 (fun a y u => hA a y (by omega)) (fun a y u => hM a y (by omega) (by omega) (by omega)) (fun _ => rfl) (fun _ => rfl), PrW_f h10 (fun a y a1 a2 => hA a y (by omega)) (fun a y u => hM a y (by omega) (by omega) (by omega)) (fun _ => rfl), NaR_f h11 (fun a y u => hA a y (by omega)) (fun a y u => hM a y (by omega) (by omega) (by omega)), h12⟩
theorem ClA_f {A A' : mwM} {o : Nat → Nat → Nat} (h : ClA A o) (hA : ∀ a y, 2 ≤ a → A' a y = A a y) : ClA A' o := by
  obtain ⟨c1, c2, c3, c4, c5, c6, c7, c8, c9⟩ := h
  refine ⟨fun k hk => ?_, ?_, ?_, fun c hc => ?_, ?_, ?_, TfC_w c7 (by decide) (fun a y u1 u2 => hA a y (by omega)), ?_, fun c hc => ?_⟩
  · rw [hA _ _ (by omega)]; exact c1 k hk
  · rw [hA _ _ (by omega), hA _ _ (by omega), hA _ _ (by omega), hA _ _ (by omega), hA _ _ (by omega), hA _ _ (by omega)]; exact c2
  · rw [hA _ _ (by omega), hA _ _ (by omega), hA _ _ (by omega), hA _ _ (by omega)]; exact c3
  · rw [hA _ _ (by omega)]; exact c4 c hc
  · rw [hA _ _ (by omega), hA _ _ (by omega), hA _ _ (by omega)]; exact c5
  · rw [hA _ _ (by omega), hA _ _ (by omega), hA _ _ (by omega), hA _ _ (by omega)]; exact c6
  · rw [hA _ _ (by omega)]; exact c8
  · rw [hA _ _ (by omega), hA _ _ (by omega), hA _ _ (by omega), hA _ _ (by omega)]; exact c9 c hc
theorem OcA_f {A A' : mwM} (h : OcA A) (hA : ∀ a y, 47 ≤ a → a ≤ 60 → A' a y = A a y) : OcA A' := fun n hn => by
  obtain ⟨q, hq⟩ := h n hn
  exact ⟨q, OcR_f hq (fun y => hA _ _ (by omega) (by omega))⟩
theorem sys_bad {fu n k : Nat} {A M : mwM} {Lc Lm : mwL} {tx Sb : Nat → Nat} (hk : k ≤ 16) (h4 : A 0 4 = sI k) (h3 : M 732 3 = sI k) (hC : TxC A n tx) (hM : TxM M n tx) (hI : HI A M Lc Lm Sb) (hX : Fx A M) : ∃ r A' M', fX11_system_b59 fu 0 A Lc = some ((0, r), A', Lc) ∧ fX19_system_b127 fu M Lm = some (r, M', Lm) ∧ M' 732 0 = M 732 0 ∧ M' 732 4 = 0 ∧ HS A' M' Lc Lm Sb := by
  obtain ⟨q, w, q1, q2, q3, q4, q5, q6, q7⟩ := hX
  obtain ⟨i1, i2, i3, i4, i5⟩ := hI
  refine ⟨sI q, mset A 0 5 0, mset (mset M 732 4 0) 732 5 (sI w), ?_, ?_, by rw [mset_n (by omega), mset_n (by omega)], by rw [mset_n (by omega), mset_s], ⟨k, hk, by rw [mset_n (by omega)]; exact h4, by rw [mset_n (by omega), mset_n (by omega)]; exact h3⟩, ⟨n, tx, TxC_f hC (fun x y u => mset_n (by omega)), TxM_f hM (fun x y u => by rw [mset_n (by omega), mset_n (by omega)])⟩, ⟨RCd_fr i1 (fun a y u1 u2 => mset_n (by omega)) (fun a y u => by rw [mset_n (by omega), mset_n (by omega)]), OcA_f i2 (fun a y u1 u2 => mset_n (by omega)), by rw [mset_n (by omega), mset_n (by omega)]; exact i3, PrB_f i4 (fun a u1 u2 => by rw [mset_n (by omega), mset_n (by omega)]) (fun _ _ _ _ _ => rfl) (fun _ _ _ _ _ => rfl), fun a ha y hy => by rw [mset_n (by omega), mset_n (by omega)]; exact i5 a ha y hy⟩, by rw [mset_n (by omega), mset_s]; exact q6, Or.inl ⟨mset_s, by rw [mset_n (by omega), mset_s]⟩⟩
  · unfold fX11_system_b59 fX11_system_b76
    rw [mzz_0, mlet_e, mset_s, if_pos (show (0 : Int32) = 0 from rfl), mset_n (show ¬ (1 = 0 ∧ 12 = 5) by omega), q4]
  · unfold fX19_system_b127 fX19_system_b128
    rw [mzz_0, mlet_e, mset_s, if_pos (show (0 : Int32) = 0 from rfl), mlet_e, mset_n (show ¬ (732 = 732 ∧ 12 = 4) by omega), q7, mset_n (show ¬ (732 = 732 ∧ 11 = 5) by omega), mset_n (show ¬ (732 = 732 ∧ 11 = 4) by omega), q5]
/-- the reference's two numbers of states agree -/
def H54 (M : mwM) : Prop := M 732 4 = 1 → ∀ X x : Nat, M 732 33 = sI X → X ≤ 12 → x < X → M 754 x = M (964 + 53 * x) 2
theorem H54_0 {M : mwM} {v : Int32} (h : H54 M) : H54 (mset M 732 0 v) := fun h4 X x h33 hX hx => by
  rw [mset_n (by omega), mset_n (by omega)]
  exact h (by rw [mset_n (by omega)] at h4; exact h4) X x (by rw [mset_n (by omega)] at h33; exact h33) hX hx
theorem H54_n {M : mwM} (h : M 732 4 = 0) : H54 M := fun h4 => by
  rw [h] at h4
  exact absurd h4 (by decide)
theorem HS_0 {A M : mwM} {Lc Lm : mwL} {Sb : Nat → Nat} {v : Int32} (h : HS A M Lc Lm Sb) : HS A (mset M 732 0 v) Lc Lm Sb := by
  obtain ⟨⟨k, k1, k2, k3⟩, ⟨n, tx, t1, t2⟩, ⟨i1, i2, i3, i4, i5⟩, h5, hc⟩ := h
  refine ⟨⟨k, k1, k2, by rw [mset_n (by omega)]; exact k3⟩, ⟨n, tx, t1, TxM_f t2 (fun x y u => mset_n (by omega))⟩, ⟨RCd_fr i1 (fun _ _ _ _ => rfl) (fun a y u => mset_n (by omega)), i2, by rw [mset_n (by omega)]; exact i3, PrB_f i4 (fun a u1 u2 => mset_n (by omega)) (fun _ _ _ _ _ => rfl) (fun _ _ _ _ _ => rfl), fun a ha y hy => by rw [mset_n (by omega)]; exact i5 a ha y hy⟩, by rw [mset_n (by omega)]; exact h5, ?_⟩
  rcases hc with ⟨c1, c2⟩ | ⟨c1, c2, C, S, F, W, R, X, T, t, E, d, tu, g, own, bd, si, p, o, e, ec, tc, fl, c3, c4, c5⟩
  · exact Or.inl ⟨c1, by rw [mset_n (by omega)]; exact c2⟩
  · exact Or.inr ⟨c1, by rw [mset_n (by omega)]; exact c2, C, S, F, W, R, X, T, t, E, d, tu, g, own, bd, si, p, o, e, ec, tc, fl, CAR_f c3 (fun _ _ _ => rfl) (fun a y u => mset_n (by omega)), c4, c5⟩
theorem st_system {fu : Nat} {A M : mwM} {Lc Lm : mwL} {Sb : Nat → Nat} (hz : ∀ (A0 : mwM) (L0 : mwL) (A' : mwM) (L' : mwL), fX8_readText_h19 fu fu (0, 0, A0, L0) = some (A', L') → A' 1 12 = 0 → A' 1 13 = A0 1 13) (hfu : 150000 ≤ fu) (h : HS A M Lc Lm Sb) : ∃ (w : Nat) (r : Int32) (A' M' : mwM) (Lc' Lm' : mwL), DX11_system fu A Lc = some ((w, r), A', Lc') ∧ DX19_system fu M Lm = some (r, M', Lm') ∧ w ≤ 1 ∧ M' 732 0 = sI w ∧ HS A' M' Lc' Lm' Sb ∧ (H54 M → H54 M') := by
  obtain ⟨⟨k, k1, k2, k3⟩, ⟨n, tx, t1, t2⟩, ⟨i1, i2, i3, i4, i5⟩, h5, hc⟩ := id h
  unfold DX11_system DX19_system
  rw [k2, k3]
  by_cases c16 : k = 16
  · rw [if_neg (show ¬ sI k < 16 by rw [show (16 : Int32) = sI 16 from rfl, sI_lt (by omega) (by omega)]; omega), if_pos (show sI k = 16 by rw [c16]; rfl)]
    unfold fX19_system_b15
    rw [mlet_e, mset_s, if_neg (show ¬ (1 : Int32) ≤ 0 by decide)]
    exact ⟨1, 0, A, _, Lc, Lm, rfl, rfl, by omega, mset_s, HS_0 h, H54_0⟩
  rw [if_pos (show sI k < 16 by rw [show (16 : Int32) = sI 16 from rfl, sI_lt (by omega) (by omega)]; omega), if_neg (show ¬ sI k = 16 by rw [show (16 : Int32) = sI 16 from rfl, sI_eq (by omega) (by omega)]; exact c16), mlet_e, sI_1]
  -- the class clears
  obtain ⟨B1, L1, e1, e2, e3, e4, e5, e6, e7⟩ := wq_ex (c_clear1 (fu := fu) (A := mset A 0 4 (sI (k + 1))) (L := Lc) (o := fun _ _ => 0) (by omega))
  dsimp only at e2 e3 e4 e5 e6 e7
  subst e2
  rw [e1, mb2_s]
  unfold DX8_readText
  simp only [mlet_e]
  generalize hA1 : mset (mset (mset B1 1 3 0) 1 12 0) 1 13 0 = A1
  have fA1 : ∀ a y, ¬ (a = 1 ∧ (y = 3 ∨ y = 12 ∨ y = 13)) → A1 a y = B1 a y := fun a y u => by rw [← hA1, mset_n (by omega), mset_n (by omega), mset_n (by omega)]
  have a3 : A1 1 3 = 0 := by rw [← hA1, mset_n (by omega), mset_n (by omega), mset_s]
  have a12 : A1 1 12 = 0 := by rw [← hA1, mset_n (by omega), mset_s]
  have a13 : A1 1 13 = 0 := by rw [← hA1, mset_s]
  have a04 : A1 0 4 = sI (k + 1) := by rw [fA1 _ _ (by omega), e7 _ _ (by omega) (by omega) (by omega) (by omega) (by omega) (by omega) (by omega) (by omega) (by omega) (by omega) (by omega) (by omega), mset_s]
  have fB : ∀ a y, (a = 1 ∧ y = 4) ∨ a = 2 ∨ (20 ≤ a ∧ a ≤ 60) ∨ (98 ≤ a ∧ a ≤ 136) → A1 a y = A a y := fun a y u => by rw [fA1 a y (by omega), e7 a y (by omega) (by omega) (by omega) (by omega) (by omega) (by omega) (by omega) (by omega) (by omega) (by omega) (by omega) (by omega), mset_n (by omega)]
  -- the reference clears
  unfold fX19_system_b15
  rw [mlet_e, mset_s, if_pos (show (0 : Int32) ≤ 0 by decide)]
  simp only [mlet_e]
  rw [mset_n (show ¬ (732 = 732 ∧ 3 = 0) by omega), k3, sI_1]
  generalize hM0 : mset (mset (mset (mset (mset (mset (mset (mset (mset (mset (mset (mset (mset M 732 0 0) 732 3 (sI (k + 1))) 732 4 0) 732 5 0) 732 14 0) 732 19 0) 732 20 0) 732 24 0) 732 33 0) 732 45 0) 732 55 0) 732 62 0) 732 67 0 = M0
  have z0 : M0 732 0 = 0 ∧ M0 732 3 = sI (k + 1) ∧ M0 732 5 = 0 ∧ M0 732 67 = 0 ∧ (M0 732 14 = 0 ∧ M0 732 19 = 0 ∧ M0 732 20 = 0 ∧ M0 732 24 = 0 ∧ M0 732 33 = 0 ∧ M0 732 45 = 0 ∧ M0 732 55 = 0 ∧ M0 732 62 = 0) := by
    rw [← hM0]
    simp (disch := omega) only [mset_n, mset_s]
    exact ⟨trivial, trivial, trivial, trivial, trivial, trivial, trivial, trivial, trivial, trivial, trivial, trivial⟩
  have fM0 : ∀ a y, ¬ (a = 732 ∧ y ≠ 2) → M0 a y = M a y := fun a y u => by
    rw [← hM0]
    simp (disch := omega) only [mset_n]
  obtain ⟨M1, L2, g1, g2, g3, g4, g5, g6⟩ := wq_ex (m_anew18 (fu := fu) (M := M0) (L := Lm) (by omega))
  dsimp only at g2 g3 g4 g5 g6
  subst g2
  rw [g1, mb2_s]
  obtain ⟨y0, y3, y5, y67, y14, y19, y20, y24, y33, y45, y55, y62⟩ := z0
  have fM1 : ∀ a y, ¬ (a = 732 ∧ y ≠ 2) → ¬ (902 ≤ a ∧ a ≤ 920) → M1 a y = M a y := fun a y u1 u2 => by rw [g6 a y u2, fM0 a y u1]
  have m7 : ∀ y, M1 732 y = M0 732 y := fun y => g6 _ _ (by omega)
  have hC1 : TxC A1 n tx := TxC_f t1 (fun a y u => fB a y (by omega))
  have hT1 : TxM M1 n tx := TxM_f t2 (fun a y u => fM1 a y (by omega) (by omega))
  have hB1 : PrB M1 L1 L2 := PrB_f i4 (fun a u1 u2 => fM1 a 0 (by omega) (by omega)) (fun _ _ _ _ _ => rfl) (fun _ _ _ _ _ => rfl)
  have hcl : ClA A1 (fun _ _ => 0) := ClA_f e3 (fun a y u => fA1 a y (by omega))
  have pe : PE A1 M1 L1 L2 n 0 := PR_0 hcl (fun x hx => by rw [fA1 _ _ (by omega)]; exact e5 x hx) (fun i hi => by rw [fA1 _ _ (by omega)]; exact e6 i hi) a3 (by rw [m7, m7, m7, m7, m7, m7, m7, m7]; exact ⟨y14, y19, y20, y24, y33, y45, y55, y62⟩) g3 g4 g5 hB1
  have hn := hC1.2.1
  obtain ⟨A2, M2, Lc2, Lm2, q1, q2, q3, q4, q5, ⟨r1, r2, r3, r4⟩⟩ := st_lines2 (fu := fu) (n := n) (tx := tx) (by omega) n 0 0 fu fu A1 M1 L1 L2 (by omega) (by omega) (by omega) (by omega) (by omega) hC1 hT1 pe a12
  rw [show fX8_readText_h19 fu fu (0, 0, A1, L1) = fX8_readText_b87 fu A2 Lc2 from q1]
  -- what stays through the reading
  have s04 : A2 0 4 = sI (k + 1) := by rw [r1 _ _ (by omega) (by omega)]; exact a04
  have s3 : M2 732 3 = sI (k + 1) := by rw [r2 _ _ (by omega) (by omega), m7]; exact y3
  have s0 : M2 732 0 = 0 := by rw [r2 _ _ (by omega) (by omega), m7]; exact y0
  have s5 : M2 732 5 = 0 := by rw [r2 _ _ (by omega) (by omega), m7]; exact y5
  have R2 : RCd A2 M2 Sb := RCd_fr i1 (fun a y u1 u2 => by rw [r1 a y (by omega) (by omega), fB a y (by omega)]) (fun a y u => by rw [r2 a y (by omega) (by omega), fM1 a y (by omega) (by omega)])
  have O2 : OcA A2 := OcA_f i2 (fun a y u1 u2 => by rw [r1 a y (by omega) (by omega), fB a y (by omega)])
  have E2 : M2 870 1 = sI 0 := by rw [r2 _ _ (by omega) (by omega), fM1 _ _ (by omega) (by omega)]; exact i3
  have I2 : ∀ q, q < 12 → ∀ y, y ≤ 40 → M2 (941 + 53 * q + 8) y = 0 := fun q hq y hy => by rw [r2 _ _ (by omega) (by omega), fM1 _ _ (by omega) (by omega)]; exact i5 q hq y hy
  obtain ⟨C, T, X, S, K, R, W, nl, ow, ct, sg, tu, ky, rd, wt, pr, _, _⟩ := q5
  have hI2 : HI A2 M2 Lc2 Lm2 Sb := ⟨R2, O2, E2, pr.2.2.2.1, I2⟩
  unfold DX19_read
  rcases q2 with ⟨g12, eM⟩ | ⟨hX, eM⟩
  rotate_left
  · -- a line is wrong
    have eb : fX8_readText_b87 fu A2 Lc2 = some (A2, Lc2) := by
      unfold fX8_readText_b87
      rw [if_neg (Fx_n hX)]
      rfl
    rw [eb, mb2_s, if_neg (Fx_n hX), show fX19_read_h2 fu fu (0, M1, L2) = _ from eM, mb3_s, if_pos (show (0 : Int32) = 0 from rfl)]
    obtain ⟨r, A', M', x1, x2, x3, x5, x4⟩ := sys_bad (fu := fu) (by omega) s04 s3 q3 q4 hI2 hX
    exact ⟨0, r, A', M', Lc2, Lm2, x1, x2, by omega, by rw [x3]; exact s0, x4, fun _ => H54_n x5⟩
  rw [show fX19_read_h2 fu fu (0, M1, L2) = eoM fu M2 Lm2 from eM]
  have jz : JZ A2 M2 := ⟨by rw [r1 _ _ (by omega) (by omega)]; exact hcl.2.2.2.2.1.2.1, by rw [r2 _ _ (by omega) (by omega), m7]; exact y67, I2⟩
  rcases st_judge (fu := fu) (fX19_system_b127 fu) (fun M21 L22 => mb3 (DX19_build fu M21 L22) (fun r27 M25 L26 => (if r27 = 0 then fX19_system_b127 fu M25 L26 else fX19_system_b128 fu 1 M25 L26))) (by omega) pr q3 q4 g12 jz with ⟨A3, M3, b1, b2, hX, b4, b5, b6⟩ | ⟨c0, hno, b1, b2⟩
  · rw [b1, mb2_s, if_neg (Fx_n hX), b2]
    have hI3 : HI A3 M3 Lc2 Lm2 Sb := ⟨RCd_fr R2 (fun a y u1 u2 => b4 a y (by omega)) (fun a y u => b5 a y (by omega) (by omega) (by omega) (by omega)), OcA_f O2 (fun a y u1 u2 => b4 a y (by omega)), by rw [b5 _ _ (by omega) (by omega) (by omega) (by omega)]; exact E2, PrB_f pr.2.2.2.1 (fun a u1 u2 => b5 a 0 (by omega) (by omega) (by omega) (by omega)) (fun _ _ _ _ _ => rfl) (fun _ _ _ _ _ => rfl), b6⟩
    obtain ⟨r, A', M', x1, x2, x3, x5, x4⟩ := sys_bad (fu := fu) (k := k + 1) (by omega) (by rw [b4 _ _ (by omega)]; exact s04) (by rw [b5 _ _ (by omega) (by omega) (by omega) (by omega)]; exact s3) (TxC_f q3 (fun a y u => b4 a y (by omega))) (TxM_f q4 (fun a y u => b5 a y (by omega) (by omega) (by omega) (by omega))) hI3 hX
    exact ⟨0, r, A', M', Lc2, Lm2, x1, x2, by omega, by rw [x3, b5 _ _ (by omega) (by omega) (by omega) (by omega)]; exact s0, x4, fun _ => H54_n x5⟩
  · -- the car is joined
    rw [b1, mb2_s, if_pos g12, b2]
    unfold fX11_system_b59
    rw [show mzz (1 : Int32) (mlet (mset A2 0 5 1) (fun M2 => (if (M2 0 5) = 0 then fX11_system_b76 fu M2 Lc2 else mb2 (DX1_join fu M2 Lc2) (fun M4 L5 => fX11_system_b76 fu M4 L5)))) = mlet (mset A2 0 5 1) (fun M2 => (if (M2 0 5) = 0 then fX11_system_b76 fu M2 Lc2 else mb2 (DX1_join fu M2 Lc2) (fun M4 L5 => fX11_system_b76 fu M4 L5))) from rfl, mlet_e, mset_s, if_neg (show ¬ (1 : Int32) = 0 by decide)]
    generalize hA3 : mset A2 0 5 1 = A3
    have fA3 : ∀ a y, ¬ (a = 0 ∧ y = 5) → A3 a y = A2 a y := fun a y u => by rw [← hA3, mset_n (by omega)]
    have a05 : A3 0 5 = 1 := by rw [← hA3, mset_s]
    have pr3 := PR_g pr (A' := A3) (M' := M2) (fun a y u => fA3 a y (by omega)) (fun _ _ _ _ _ => rfl)
    have f2 : ∀ a y, rA a y → ¬ (a = 1 ∧ y = 6) → a ≠ 0 → A3 a y = A1 a y := fun a y u1 u2 u3 => by rw [fA3 a y (by omega), r1 a y u1 u2]
    obtain ⟨c1, ⟨_, _, _, c5, c6, c7⟩, ⟨_, c9, _, c11⟩, c12, ⟨_, c14, _⟩, _, c20, c21, c22⟩ := hcl
    have j0 : J0 A3 M2 Sb (fun _ _ => 0) := by
      refine ⟨RCd_fr R2 (fun a y u1 u2 => fA3 a y (by omega)) (fun _ _ _ => rfl), OcA_f O2 (fun a y u1 u2 => fA3 a y (by omega)), E2, ⟨?_, ?_, ?_⟩, fun c hc => ?_, fun q hq => ?_, ⟨?_, ?_, fun c hc => ?_⟩, TfC_w c20 (by decide) (fun a y u1 u2 => f2 a y (by omega) (by omega) (by omega)), ?_, fun c hc => ?_⟩
      · rw [f2 _ _ (by omega) (by omega) (by omega)]; exact c5
      · rw [f2 _ _ (by omega) (by omega) (by omega)]; exact c6
      · rw [f2 _ _ (by omega) (by omega) (by omega)]; exact c7
      · rw [f2 _ _ (by omega) (by omega) (by omega), fA1 _ _ (by omega)]; exact e4 c hc
      · rw [f2 _ _ (by omega) (by omega) (by omega)]; exact c1 q hq
      · rw [f2 _ _ (by omega) (by omega) (by omega)]; exact c9
      · rw [f2 _ _ (by omega) (by omega) (by omega)]; exact c11
      · rw [f2 _ _ (by omega) (by omega) (by omega)]; exact c12 c hc
      · rw [f2 _ _ (by omega) (by omega) (by omega)]; exact c21
      · rw [f2 _ _ (by omega) (by omega) (by omega), f2 _ _ (by omega) (by omega) (by omega), f2 _ _ (by omega) (by omega) (by omega), f2 _ _ (by omega) (by omega) (by omega)]; exact c22 c hc
    obtain ⟨A7, M8, L8, F, d, g, own, bd, si, p, e, ec, tc, fl, x1, x2, x3, x4, x5, x6, x7, x8⟩ := st_join (fu := fu) (fX19_system_b127 fu) (fun M25 L26 => fX19_system_b128 fu 1 M25 L26) hfu pr3 ⟨by rw [fA3 _ _ (by omega)]; exact jz.1, jz.2⟩ j0 c0 hno
    rw [x1, mb2_s, x2]
    obtain ⟨n1, n2, n3⟩ := car_hi x3
    have w12 : A7 1 12 = 0 := by rw [x6 _ _ (by omega) (by omega) (by omega) (by omega) (by omega) (by omega), fA3 _ _ (by omega)]; exact g12
    refine ⟨0, 0, A7, mset M8 732 4 1, Lc2, L8, ?_, ?_, by omega, ?_, ⟨⟨k + 1, by omega, ?_, ?_⟩, ⟨n, tx, TxC_f q3 (fun a y u => ?_), TxM_f q4 (fun a y u => ?_)⟩, ⟨RCd_fr n1 (fun _ _ _ _ => rfl) (fun a y u => mset_n (by omega)), n2, by rw [mset_n (by omega)]; exact n3, PrB_f x5 (fun a u1 u2 => mset_n (by omega)) (fun _ _ _ _ _ => rfl) (fun _ _ _ _ _ => rfl), fun q hq y hy => by rw [mset_n (by omega)]; exact x4 q hq y hy⟩, ?_, Or.inr ⟨?_, mset_s, C, S, F, W, R, X, T, 0, 0, d, tu, g, own, bd, si, p, _, e, ec, tc, fl, CAR_f x3 (fun _ _ _ => rfl) (fun a y u => mset_n (by omega)), by rw [x6 _ _ (by omega) (by omega) (by omega) (by omega) (by omega) (by omega)]; exact pr3.2.2.1.1, fun c _ _ => x8 c⟩⟩, fun _ => ?_⟩
    · unfold fX11_system_b76
      rw [w12]
    · unfold fX19_system_b128
      rw [mzz_1, mlet_e, mset_s, if_neg (show ¬ (1 : Int32) = 0 by decide)]
    · rw [mset_n (by omega), x7 _ _ (by omega) (by omega)]; exact s0
    · rw [x6 _ _ (by omega) (by omega) (by omega) (by omega) (by omega) (by omega), fA3 _ _ (by omega)]; exact s04
    · rw [mset_n (by omega), x7 _ _ (by omega) (by omega)]; exact s3
    · rw [x6 _ _ (by omega) (by omega) (by omega) (by omega) (by omega) (by omega), fA3 _ _ (by omega)]
    · rw [mset_n (by omega), x7 _ _ (by omega) (by omega)]
    · rw [x6 _ _ (by omega) (by omega) (by omega) (by omega) (by omega) (by omega), fA3 _ _ (by omega), mset_n (by omega), x7 _ _ (by omega) (by omega), s5, hz _ _ _ _ ((show fX8_readText_h19 fu fu (0, 0, A1, L1) = fX8_readText_b87 fu A2 Lc2 from q1).trans b1) g12]
      exact a13
    · rw [x6 _ _ (by omega) (by omega) (by omega) (by omega) (by omega) (by omega)]; exact a05
    · intro _ X' x h33 hX' hx
      have e33 : M2 732 33 = sI X := pr3.2.2.1.2.1
      have hX12 : X ≤ 12 := pr3.2.2.1.2.2.1
      rw [mset_n (by omega), x7 _ _ (by omega) (by omega), e33, sI_eq (by omega) (by omega)] at h33
      subst h33
      obtain ⟨c, va, D, xx, _, hc, _, _, hns, _⟩ := (pr3.2.2.1.2.2.2.1 x hx).2.2.2.2.2.2.2.2
      obtain ⟨_, _, _, _, hN⟩ := pr3.2.2.2.2.2.2.2.2.1
      have n754 : M2 754 x = sI (c 0 0) := by rw [hns]; exact (hN x hx).1.1
      obtain ⟨va', ⟨w, p2⟩, nw, hW, ⟨hRc, _⟩, hRm, _⟩ := x3.2.2.2.2.2.2.1 x hx
      have a7 : A7 (293 + 36 * x) 7 = sI (w.1.1 0 0) := hRc.1.1
      rw [x6 _ _ (by omega) (by omega) (by omega) (by omega) (by omega) (by omega), show A3 (293 + 36 * x) 7 = sI (c 0 0) from hc.1.1] at a7
      have m2 : M8 (964 + 53 * x) 2 = sI (w.1.1 0 0) := hRm.1.1
      rw [mset_n (by omega), mset_n (by omega), x7 _ _ (by omega) (by omega), n754, m2, a7]
