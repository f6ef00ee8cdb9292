/-! THE LAW'S LOOP (printed) -/
theorem fq {α : Type} {lg : α → Int64} {Sb : Nat → Nat} {D : mwM → mwL → Option (Int32 × mwM × mwL)} {G : mwM → mwL → Option (α × mwM × mwL)} {M : mwM} {L : mwL} {fu : Nat} (B : mwM → mwL → Option (Int32 × mwM × mwL)) (h : DQ lg Sb D G M L) : ∃ M' L', JJ Sb M' L' ∧ mb3 (D M L) (fun r26 M24 L25 => mb3 (G M24 L25) (fun r30 M28 L29 => mb3 (DX19_thrown fu M28 L29) (fun r33 M31 L32 => (if r33 = r26 then (if r26 = 0 then (if (lg_cmp (L32 1577 (0 : Int32).toNatClampNeg) (lg r30)) = 0 then B M31 L32 else some (0, M31, L32)) else B M31 L32) else some (0, M31, L32))))) = B M' L' := by
  obtain ⟨k, r, M1, L1, M2, L2, e1, e2, e3, e4, e5⟩ := h
  refine ⟨M2, L2, e5, ?_⟩
  rw [e1, mb3_s, e2, mb3_s, show DX19_thrown fu M2 L2 = some (M2 732 0, M2, L2) from rfl, mb3_s, if_pos e3]
  by_cases q : k = 0
  · rw [if_pos q]
    exact if_pos ((lg_cmp_eq _ _).mpr (e4 q))
  · rw [if_neg q]
theorem ft {Sb : Nat → Nat} {D : mwM → mwL → Option (Int32 × mwM × mwL)} {G : mwM → mwL → Option (mwM × mwL)} {M : mwM} {L : mwL} {fu : Nat} (B : mwM → mwL → Option (Int32 × mwM × mwL)) (h : DT Sb D G M L) : ∃ M' L', JJ Sb M' L' ∧ mb3 (D M L) (fun r26 M24 L25 => mb2 (G M24 L25) (fun M28 L29 => mb3 (DX19_thrown fu M28 L29) (fun r33 M31 L32 => (if r33 = r26 then B M31 L32 else some (0, M31, L32))))) = B M' L' := by
  obtain ⟨k, M1, L1, M2, L2, e1, e2, e3, e5⟩ := h
  refine ⟨M2, L2, e5, ?_⟩
  rw [e1, mb3_s, e2, mb2_s, show DX19_thrown fu M2 L2 = some (M2 732 0, M2, L2) from rfl, mb3_s, if_pos e3]
theorem fs {Sb : Nat → Nat} {F G : mwM → mwL → Option (Int32 × mwM × mwL)} {M : mwM} {L : mwL} (B : mwM → mwL → Option (Int32 × mwM × mwL)) (h : DS Sb F G M L) : ∃ M' L', JJ Sb M' L' ∧ mb3 (F M L) (fun r26 M24 L25 => mb3 (G M24 L25) (fun r30 M28 L29 => (if r26 = r30 then B M28 L29 else some (0, M28, L29)))) = B M' L' := by
  obtain ⟨k, M1, L1, M2, L2, e1, e2, e5⟩ := h
  refine ⟨M2, L2, e5, ?_⟩
  rw [e1, mb3_s, e2, mb3_s, if_pos rfl]
theorem la_g {n i : Nat} (hn : n ≤ 2560) (hi : i ≤ 3000) : ((Int32.ofNat n) - 5 < sI i) ↔ n < i + 5 := by
  by_cases h : 5 ≤ n
  · rw [show (Int32.ofNat n) - 5 = sI (n - 5) from sI_sub (b := 5) h, sI_lt (by omega) (by omega)]
    omega
  · have hneg : (Int32.ofNat n) - 5 < 0 := by
      have : n = 0 ∨ n = 1 ∨ n = 2 ∨ n = 3 ∨ n = 4 := by omega
      rcases this with rfl | rfl | rfl | rfl | rfl <;> decide
    have h0 : (Int32.ofNat n) - 5 < sI i := by
      have := Int32.lt_iff_toInt_lt.mp hneg
      have hz : (0 : Int32).toInt = 0 := rfl
      rw [Int32.lt_iff_toInt_lt, sI_toInt (by omega)]
      omega
    exact ⟨fun _ => by omega, fun _ => h0⟩
set_option maxHeartbeats 4000000 in
set_option maxRecDepth 100000 in
theorem law_i {fu n i : Nat} {xs : Nat → Int32} {M : mwM} {L : mwL} {Sb : Nat → Nat} (hfu : 150000 ≤ fu) (hn : n ≤ 2560) (hi : i + 5 ≤ n) (r : (Int32 × mwM × mwL) → Option (Int32 × mwM × mwL)) (h : JJ Sb M L) : ∃ M' L', JJ Sb M' L' ∧ fL_law_i23 fu n xs r (sI i) M L = r (sI (i + 5), M', L') := by
  have e1 : sI i + 1 = sI (i + 1) := sI_1
  have e2 : sI i + 2 = sI (i + 2) := sI_add (b := 2)
  have e3 : sI i + 3 = sI (i + 3) := sI_add (b := 3)
  have e4 : sI i + 4 = sI (i + 4) := sI_add (b := 4)
  have e5 : sI i + 5 = sI (i + 5) := sI_add (b := 5)
  have k1 : ∀ {β : Type} {x : Option β}, mck (sI (i + 1)) n x = x := mck_s (by omega) (by omega)
  have k2 : ∀ {β : Type} {x : Option β}, mck (sI (i + 2)) n x = x := mck_s (by omega) (by omega)
  have k3 : ∀ {β : Type} {x : Option β}, mck (sI (i + 3)) n x = x := mck_s (by omega) (by omega)
  have k4 : ∀ {β : Type} {x : Option β}, mck (sI (i + 4)) n x = x := mck_s (by omega) (by omega)
  have m1 : (sI (i + 1)).toNatClampNeg = i + 1 := sI_nn (by omega)
  have m2 : (sI (i + 2)).toNatClampNeg = i + 2 := sI_nn (by omega)
  have m3 : (sI (i + 3)).toNatClampNeg = i + 3 := sI_nn (by omega)
  have m4 : (sI (i + 4)).toNatClampNeg = i + 4 := sI_nn (by omega)
  have eB : ∀ M' L', fL_law_b1646 fu n xs r (sI i) M' L' = r (sI (i + 5), M', L') := fun M' L' => by
    unfold fL_law_b1646
    rw [mlet_e, e5]
  have wr : ∀ {X : Option (Int32 × mwM × mwL)}, (∃ M' L', JJ Sb M' L' ∧ X = fL_law_b1646 fu n xs r (sI i) M' L') → ∃ M' L', JJ Sb M' L' ∧ X = r (sI (i + 5), M', L') := fun ⟨M', L', j, e⟩ => ⟨M', L', j, e.trans (eB M' L')⟩
  unfold fL_law_i23
  rw [if_neg (show ¬ ((Int32.ofNat n) - 5 < sI i) from fun z => by have := (la_g hn (by omega)).mp z; omega), mck_s (show i < n by omega) (by omega), mlet_e]
  simp only [e1, e2, e3, e4, k1, k2, k3, k4, m1, m2, m3, m4]
  apply wr
  generalize xs (sI i).toNatClampNeg &&& 31 = op
  by_cases c0 : op = 0
  · rw [if_pos c0]
    exact ft (fu := fu) (fL_law_b1646 fu n xs r (sI i)) (lw_text hfu h)
  rw [if_neg c0]
  by_cases c1 : op = 1
  · rw [if_pos c1]
    exact fq (fu := fu) (fL_law_b285 fu n xs r (sI i)) (lw_cut hfu h)
  rw [if_neg c1]
  by_cases c2 : op = 2
  · rw [if_pos c2]
    exact fq (fu := fu) (fL_law_b329 fu n xs r (sI i)) (lw_system hfu h)
  rw [if_neg c2]
  by_cases c3 : op = 3
  · rw [if_pos c3]
    exact fs (fL_law_b1646 fu n xs r (sI i)) (lw_place h)
  rw [if_neg c3]
  by_cases c4 : op = 4
  · rw [if_pos c4]
    exact fq (fu := fu) (fL_law_b398 fu n xs r (sI i)) (lw_count hfu h)
  rw [if_neg c4]
  by_cases c5 : op = 5
  · rw [if_pos c5]
    exact fq (fu := fu) (fL_law_b466 fu n xs r (sI i)) (lw_frame hfu h)
  rw [if_neg c5]
  by_cases c6 : op = 6
  · rw [if_pos c6]
    by_cases q : xs (i + 2) = 0
    · rw [if_pos q]
      unfold fL_law_b490 fL_law_b517
      simp only [e1, e2, k1, k2, m1, m2, if_pos q]
      exact fq (fu := fu) (fL_law_b550 fu n xs r (sI i)) (lw_signal hfu h)
    · rw [if_neg q]
      unfold fL_law_b490 fL_law_b517
      simp only [e1, e2, k1, k2, m1, m2, if_neg q]
      exact fq (fu := fu) (fL_law_b550 fu n xs r (sI i)) (lw_signal hfu h)
  rw [if_neg c6]
  by_cases c7 : op = 7
  · rw [if_pos c7]
    exact fq (fu := fu) (fL_law_b606 fu n xs r (sI i)) (lw_run hfu h)
  rw [if_neg c7]
  by_cases c8 : op = 8
  · rw [if_pos c8]
    exact fs (fL_law_b1646 fu n xs r (sI i)) (lw_time h)
  rw [if_neg c8]
  by_cases c9 : op = 9
  · rw [if_pos c9]
    exact fq (fu := fu) (fL_law_b675 fu n xs r (sI i)) (lw_bit hfu h)
  rw [if_neg c9]
  by_cases c10 : op = 10
  · rw [if_pos c10]
    exact fq (fu := fu) (fL_law_b743 fu n xs r (sI i)) (lw_node hfu h)
  rw [if_neg c10]
  by_cases c11 : op = 11
  · rw [if_pos c11]
    exact fq (fu := fu) (fL_law_b811 fu n xs r (sI i)) (lw_error hfu h)
  rw [if_neg c11]
  by_cases c12 : op = 12
  · rw [if_pos c12]
    exact ft (fu := fu) (fL_law_b1646 fu n xs r (sI i)) (lw_flip h)
  rw [if_neg c12]
  by_cases c13 : op = 13
  · rw [if_pos c13]
    by_cases q : xs (i + 2) = 0
    · rw [if_pos q]
      unfold fL_law_b883 fL_law_b910
      simp only [e1, e2, k1, k2, m1, m2, if_pos q]
      exact fq (fu := fu) (fL_law_b943 fu n xs r (sI i)) (lw_silence (b := false) hfu h)
    · rw [if_neg q]
      unfold fL_law_b883 fL_law_b910
      simp only [e1, e2, k1, k2, m1, m2, if_neg q]
      exact fq (fu := fu) (fL_law_b943 fu n xs r (sI i)) (lw_silence (b := true) hfu h)
  rw [if_neg c13]
  by_cases c14 : op = 14
  · rw [if_pos c14]
    exact fq (fu := fu) (fL_law_b1011 fu n xs r (sI i)) (lw_running hfu h)
  rw [if_neg c14]
  by_cases c15 : op = 15
  · rw [if_pos c15]
    exact fq (fu := fu) (fL_law_b1079 fu n xs r (sI i)) (lw_task hfu h)
  rw [if_neg c15]
  by_cases c16 : op = 16
  · rw [if_pos c16]
    exact fq (fu := fu) (fL_law_b1147 fu n xs r (sI i)) (lw_active hfu h)
  rw [if_neg c16]
  by_cases c17 : op = 17
  · rw [if_pos c17]
    exact fq (fu := fu) (fL_law_b1214 fu n xs r (sI i)) (lw_value hfu h)
  rw [if_neg c17]
  by_cases c18 : op = 18
  · rw [if_pos c18]
    exact fq (fu := fu) (fL_law_b1282 fu n xs r (sI i)) (lw_chart hfu h)
  rw [if_neg c18]
  by_cases c19 : op = 19
  · rw [if_pos c19]
    exact fq (fu := fu) (fL_law_b1350 fu n xs r (sI i)) (lw_trouble hfu h)
  rw [if_neg c19]
  by_cases c20 : op = 20
  · rw [if_pos c20]
    by_cases q : xs (i + 1) = 0
    · rw [if_pos q]
      unfold fL_law_b1368 fL_law_b1389
      simp only [e1, k1, m1, if_pos q]
      exact fq (fu := fu) (fL_law_b1422 fu n xs r (sI i)) (lw_cycle (ts := 0) hfu (by omega) h)
    · rw [if_neg q]
      unfold fL_law_b1368 fL_law_b1389
      simp only [e1, k1, m1, if_neg q]
      exact fq (fu := fu) (fL_law_b1422 fu n xs r (sI i)) (lw_cycle (ts := 1) hfu (by omega) h)
  rw [if_neg c20]
  by_cases c21 : op = 21
  · rw [if_pos c21]
    exact fq (fu := fu) (fL_law_b1478 fu n xs r (sI i)) (lw_counted hfu h)
  rw [if_neg c21]
  by_cases c22 : op = 22
  · rw [if_pos c22]
    exact fs (fL_law_b1646 fu n xs r (sI i)) (lw_say h)
  rw [if_neg c22]
  by_cases c23 : op = 23
  · rw [if_pos c23]
    exact fq (fu := fu) (fL_law_b1561 fu n xs r (sI i)) (lw_ask hfu h)
  rw [if_neg c23]
  by_cases c24 : op = 24
  · rw [if_pos c24]
    exact fs (fL_law_b1646 fu n xs r (sI i)) (lw_asking h)
  rw [if_neg c24]
  by_cases c25 : op = 25
  · rw [if_pos c25]
    exact fq (fu := fu) (fL_law_b1630 fu n xs r (sI i)) (lw_answer hfu h)
  rw [if_neg c25]
  by_cases c26 : op = 26
  · rw [if_pos c26]
    exact fs (fL_law_b1646 fu n xs r (sI i)) (lw_answers h)
  rw [if_neg c26]
  exact ⟨M, L, h, rfl⟩
theorem law_l {fu n : Nat} {xs : Nat → Int32} {Sb : Nat → Nat} (hfu : 150000 ≤ fu) (hn : n ≤ 2560) : ∀ (m i f : Nat) (M : mwM) (L : mwL), i ≤ 2600 → n < i + 5 * m + 5 → m < f → JJ Sb M L → ∃ M0 L0, fL_law_h23 fu n xs f (sI i, M, L) = some (1, M0, L0) := by
  intro m
  induction m with
  | zero =>
    intro i f M L hi2 hi hf h
    obtain ⟨f, rfl⟩ : ∃ y, f = y + 1 := ⟨f - 1, by omega⟩
    refine ⟨M, L, ?_⟩
    show fL_law_i23 fu n xs (fL_law_h23 fu n xs f) (sI i) M L = _
    unfold fL_law_i23
    rw [if_pos ((la_g hn (by omega)).mpr (by omega))]
  | succ m ih =>
    intro i f M L hi2 hi hf h
    obtain ⟨f, rfl⟩ : ∃ y, f = y + 1 := ⟨f - 1, by omega⟩
    by_cases c : n < i + 5
    · refine ⟨M, L, ?_⟩
      show fL_law_i23 fu n xs (fL_law_h23 fu n xs f) (sI i) M L = _
      unfold fL_law_i23
      rw [if_pos ((la_g hn (by omega)).mpr c)]
    · obtain ⟨M', L', j, e⟩ := law_i (xs := xs) hfu hn (show i + 5 ≤ n by omega) (fL_law_h23 fu n xs f) h
      show ∃ M0 L0, fL_law_i23 fu n xs (fL_law_h23 fu n xs f) (sI i) M L = some (1, M0, L0)
      rw [e]
      exact ih (i + 5) f M' L' (by omega) (by omega) (by omega) j
theorem law_ok {n : Nat} {xs : Nat → Int32} {Sb : Nat → Nat} {M : mwM} {L : mwL} (hn : n ≤ 2560) (h : JJ Sb M L) : ∃ M0 L0, DL_law 200000 513 n xs M L = some (1, M0, L0) := law_l (by omega) hn 512 0 513 M L (by omega) (by omega) (by omega) h
