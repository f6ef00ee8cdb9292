/-! codes of frames -/
def vS (P n : Nat) (oc : Nat → Nat) (i : Nat) : Nat := if i = 0 then P else if i < 9 then n / 2 ^ (8 * (8 - i)) % 256 else oc (i - 9)
theorem vS_lt {P n : Nat} {oc : Nat → Nat} (hP : P < 256) (ho : ∀ i, i < 3 → oc i < 256) : ∀ i, i < 12 → vS P n oc i < 256 := by
  intro i hi
  unfold vS
  split
  · exact hP
  · split
    · exact Nat.mod_lt _ (by omega)
    · exact ho _ (by omega)
theorem uI_s {n : Nat} (h : n < 2000000000) : (sI n).toUInt32.toNat = n := by
  show (BitVec.ofNat 32 n).toNat = n
  rw [BitVec.toNat_ofNat]
  exact Nat.mod_eq_of_lt (by omega)
theorem uL_s {n : Nat} (h : n < 2000000000) : (sL n).toUInt64.toNat = n := by
  show (BitVec.ofNat 64 n).toNat = n
  rw [BitVec.toNat_ofNat]
  exact Nat.mod_eq_of_lt (by omega)
theorem e24 : ∀ j, j < 4 → (24 : Int32) - 8 * sI j = sI (24 - 8 * j) := by decide +kernel
theorem e56 : ∀ j, j < 8 → (56 : Int32) - 8 * sI j = sI (56 - 8 * j) := by decide +kernel
theorem c_makeCode {fu f n P key row n3 : Nat} {A M : mwM} {L : mwL} {S oc : Nat → Nat} (hfu : 200 ≤ fu) (hf : f < 40) (hn : n < 2000000000) (hP : P < 40) (h78 : A 78 f = sI P) (h76 : A 76 f = sI key) (hk2 : key < 17) (hC : RCd A M S) (hK : KnC A S key) (hr1 : row ≠ 96) (hr2 : row ≠ 137) (hr3 : row ≠ 138) (hn3 : 8 ≤ n3) (ho : ∀ i, i < 3 → A row i = sI (oc i) ∧ oc i < 256) : ∃ A', DX6_makeCode fu (sI f) (sI n) row n3 A L = some (A', L) ∧ bytes A' 138 16 (cmac S (scN S key) 12 (vS P n oc)) ∧ ∀ a y, a ≠ 96 → a ≠ 137 → a ≠ 138 → A' a y = A a y := by
  obtain ⟨c1, c2, c3, c4, c5, c6, c7⟩ := hC
  unfold DX6_makeCode
  rw [mck_s hf (by omega), mlet_e, sI_nn (show f < 2000000000 by omega), h78, show (0 : Int32).toNatClampNeg = 0 from rfl]
  -- the three octets
  have last : ∀ (r i q : Nat) (B : mwM), i + r = 3 → r < q → (∀ x, x < 9 → B 96 x = sI (vS P n oc x)) → (∀ x, x < i → B 96 (9 + x) = sI (oc x)) → (∀ a y, a ≠ 96 → B a y = A a y) → ∃ A', fX6_makeCode_h65 fu (sI f) (sI n) row n3 q (sI i, B, L) = some (A', L) ∧ bytes A' 138 16 (cmac S (scN S key) 12 (vS P n oc)) ∧ ∀ a y, a ≠ 96 → a ≠ 137 → a ≠ 138 → A' a y = A a y := by
    intro r
    induction r with
    | zero =>
      intro i q B hi hq h1 h2 h3
      obtain ⟨q', rfl⟩ : ∃ y, q = y + 1 := ⟨q - 1, by omega⟩
      have un : fX6_makeCode_h65 fu (sI f) (sI n) row n3 (q' + 1) (sI i, B, L) = fX6_makeCode_i65 fu (sI f) (sI n) row n3 (fX6_makeCode_h65 fu (sI f) (sI n) row n3 q') (sI i) B L := rfl
      have hb : bytes B 96 12 (vS P n oc) := fun x hx => by
        refine ⟨?_, vS_lt (by omega) (fun i hi => (ho i hi).2) x hx⟩
        by_cases e : x < 9
        · exact h1 x e
        · have := h2 (x - 9) (by omega)
          rw [show 9 + (x - 9) = x from by omega] at this
          rw [this]
          unfold vS
          rw [if_neg (by omega), if_neg e]
      have hm := c_make (fu := fu) (L := L) (key := key) (row := 96) (len := 12) (n := 12) (S := S) (rk := scN S key) (v := vS P n oc) (A := B) (by omega) hk2 (fun i u => by rw [h3 _ _ (by omega)]; exact c1 i u) (fun i u => by rw [h3 _ _ (by omega)]; exact c2 i u) (fun i u => by rw [h3 _ _ (by omega)]; exact hK.2.1 i u) (fun i u => by rw [h3 _ _ (by omega)]; exact hK.2.2 i u) (by omega) (by omega) (by omega) hb
      obtain ⟨⟨A', L'⟩, z1, z2, z3, z4⟩ := hm
      dsimp only at z2 z3 z4
      subst z2
      refine ⟨A', ?_, z3, fun a y w1 w2 w3 => by rw [z4 a y w2 w3]; exact h3 a y w1⟩
      rw [un]
      unfold fX6_makeCode_i65
      have z1' : DX3_make fu (sI key) 96 12 12 B L' = some (A', L') := z1
      rw [if_pos (by rw [sI_lle (by decide) (by omega)]; omega), mck_s hf (by omega), sI_nn (by omega), h3 76 f (by omega), h76, z1', mb2_s]
    | succ r ih =>
      intro i q B hi hq h1 h2 h3
      obtain ⟨q', rfl⟩ : ∃ y, q = y + 1 := ⟨q - 1, by omega⟩
      have un : fX6_makeCode_h65 fu (sI f) (sI n) row n3 (q' + 1) (sI i, B, L) = fX6_makeCode_i65 fu (sI f) (sI n) row n3 (fX6_makeCode_h65 fu (sI f) (sI n) row n3 q') (sI i) B L := rfl
      rw [un]
      unfold fX6_makeCode_i65
      simp only [mlet]
      rw [if_neg (by rw [sI_lle (by decide) (by omega)]; omega), mck_s (by omega) (by omega), sI_lad, mck_s (by omega) (by omega), sI_nn (by omega), sI_nn (by omega), h3 row i hr1, (ho i (by omega)).1, sI_1]
      refine ih (i + 1) q' _ (by omega) (by omega) (fun x hx => by rw [mset_n (by omega)]; exact h1 x hx) (fun x hx => ?_) (fun a y w => by rw [mset_n (by omega)]; exact h3 a y w)
      by_cases e : x = i
      · rw [e, mset_s]
      · rw [mset_n (by omega)]; exact h2 x (by omega)
  -- the count
  have first : ∀ (r j q : Nat) (B : mwM), j + r = 4 → r < q → (∀ x, x < 9 → (x < 1 + j ∨ (5 ≤ x ∧ x < 5 + j)) → B 96 x = sI (vS P n oc x)) → (∀ a y, a ≠ 96 → B a y = A a y) → ∃ A', fX6_makeCode_h17 fu (sI f) (sI n) row n3 q (sI j, B, L) = some (A', L) ∧ bytes A' 138 16 (cmac S (scN S key) 12 (vS P n oc)) ∧ ∀ a y, a ≠ 96 → a ≠ 137 → a ≠ 138 → A' a y = A a y := by
    intro r
    induction r with
    | zero =>
      intro j q B hj hq h1 h3
      obtain ⟨q', rfl⟩ : ∃ y, q = y + 1 := ⟨q - 1, by omega⟩
      have un : fX6_makeCode_h17 fu (sI f) (sI n) row n3 (q' + 1) (sI j, B, L) = fX6_makeCode_i17 fu (sI f) (sI n) row n3 (fX6_makeCode_h17 fu (sI f) (sI n) row n3 q') (sI j) B L := rfl
      rw [un]
      unfold fX6_makeCode_i17
      rw [if_pos (by rw [sI_lle (by decide) (by omega)]; omega)]
      exact last 3 0 fu B (by omega) (by omega) (fun x hx => h1 x hx (by omega)) (fun x hx => by omega) h3
    | succ r ih =>
      intro j q B hj hq h1 h3
      obtain ⟨q', rfl⟩ : ∃ y, q = y + 1 := ⟨q - 1, by omega⟩
      have un : fX6_makeCode_h17 fu (sI f) (sI n) row n3 (q' + 1) (sI j, B, L) = fX6_makeCode_i17 fu (sI f) (sI n) row n3 (fX6_makeCode_h17 fu (sI f) (sI n) row n3 q') (sI j) B L := rfl
      rw [un]
      have ev : (((sI n).toUInt32 >>> ((24 - (8 * sI j)).toUInt32 &&& Int32.toUInt32 31)).toInt32) &&& 255 = sI (vS P n oc (5 + j)) := by
        rw [e24 j (by omega), ush32 (sI n) _ (by omega), uI_s hn]
        unfold vS
        rw [if_neg (by omega), if_pos (by omega), show 8 * (8 - (5 + j)) = 24 - 8 * j from by omega]
      have e0 : (0 : Int32) = sI (vS P n oc (1 + j)) := by
        unfold vS
        rw [if_neg (by omega), if_pos (by omega)]
        have hb : n / 2 ^ (8 * (8 - (1 + j))) = 0 := by
          apply Nat.div_eq_of_lt
          have : 2 ^ 32 ≤ 2 ^ (8 * (8 - (1 + j))) := Nat.pow_le_pow_right (by omega) (by omega)
          omega
        rw [hb]
        rfl
      unfold fX6_makeCode_i17
      rw [if_neg (by rw [sI_lle (by decide) (by omega)]; omega), sI_lad, sI_lad, mck_s (by omega) (by omega), mlet_e, mck_s (by omega) (by omega), mlet_e, mlet_e, sI_nn (by omega), sI_nn (by omega), ev, sI_1, e0]
      refine ih (j + 1) q' _ (by omega) (by omega) (fun x hx hc => ?_) (fun a y w => by rw [mset_n (by omega), mset_n (by omega)]; exact h3 a y w)
      by_cases x1 : x = 5 + j
      · rw [x1, mset_s]
      · rw [mset_n (by omega)]
        by_cases x2 : x = 1 + j
        · rw [x2, mset_s]
        · rw [mset_n (by omega)]
          exact h1 x hx (by omega)
  refine first 4 0 fu (mset A 96 0 (sI P)) (by omega) (by omega) (fun x hx hc => ?_) (fun a y w => by rw [mset_n (by omega)])
  have : x = 0 := by omega
  subst this
  rw [mset_s]
  rfl
theorem by_n {x : Nat} (h : x < 256) : (sI x).toInt8.toInt32 &&& 255 = sI x := (by_u x h).2
theorem i8_255 (x : Int32) : x.toInt8.toInt32 &&& 255 = x &&& 255 := by
  apply Int32.toBitVec_inj.mp
  apply BitVec.eq_of_getLsbD_eq
  intro i hi
  show ((x.toInt8.toInt32).toBitVec &&& (255 : Int32).toBitVec).getLsbD i = (x.toBitVec &&& (255 : Int32).toBitVec).getLsbD i
  rw [BitVec.getLsbD_and, BitVec.getLsbD_and]
  by_cases h : i < 8
  · congr 1
    rw [Int8.toBitVec_toInt32, BitVec.getLsbD_signExtend, if_pos h, Int32.toBitVec_toInt8, BitVec.getLsbD_signExtend, if_pos (by omega)]
    simp [h, hi]
  · have : ((255 : Int32).toBitVec).getLsbD i = false := by
      have : ∀ i, i < 32 → ¬ i < 8 → ((255 : Int32).toBitVec).getLsbD i = false := by decide +kernel
      exact this i hi h
    rw [this, Bool.and_false, Bool.and_false]
