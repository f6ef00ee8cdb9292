/-! the value of a signal in a frame -/
def hiv (o : Nat → Nat) (n : Nat) : Nat → Nat
  | 0 => 0
  | r + 1 => hiv o n r * 256 + o (n - 1 - r)
theorem hiv_lt {o : Nat → Nat} {n : Nat} (ho : ∀ i, i < n → o i < 256) : ∀ r, r ≤ n → hiv o n r < 2 ^ (8 * r) := by
  intro r
  induction r with
  | zero => intro _; show 0 < _; exact Nat.pow_pos (by omega)
  | succ r ih =>
    intro hr
    have h1 := ih (by omega)
    have h2 := ho (n - 1 - r) (by omega)
    show hiv o n r * 256 + o (n - 1 - r) < 2 ^ (8 * (r + 1))
    have e : 2 ^ (8 * (r + 1)) = 2 ^ (8 * r) * 256 := by rw [show 8 * (r + 1) = 8 * r + 8 from by omega, Nat.pow_add]
    rw [e]
    have h3 : (hiv o n r + 1) * 256 ≤ 2 ^ (8 * r) * 256 := Nat.mul_le_mul_right _ h1
    omega
theorem hiv_oct {o : Nat → Nat} {n : Nat} (ho : ∀ i, i < n → o i < 256) : ∀ r, r ≤ n → ∀ i, i < r → hiv o n r / 2 ^ (8 * i) % 256 = o (n - r + i) := by
  intro r
  induction r with
  | zero => intro _ i hi; omega
  | succ r ih =>
    intro hr i hi
    have h2 := ho (n - 1 - r) (by omega)
    have e1 : hiv o n (r + 1) = hiv o n r * 256 + o (n - 1 - r) := rfl
    rw [e1]
    by_cases i0 : i = 0
    · subst i0
      rw [Nat.mul_zero, Nat.pow_zero, Nat.div_one, Nat.add_zero, show n - (r + 1) = n - 1 - r from by omega]
      omega
    · obtain ⟨j, rfl⟩ : ∃ j, i = j + 1 := ⟨i - 1, by omega⟩
      have e2 : (hiv o n r * 256 + o (n - 1 - r)) / 2 ^ (8 * (j + 1)) = hiv o n r / 2 ^ (8 * j) := by
        rw [show 8 * (j + 1) = 8 + 8 * j from by omega, Nat.pow_add, ← Nat.div_div_eq_div_mul]
        congr 1
        show (hiv o n r * 256 + o (n - 1 - r)) / 256 = _
        omega
      rw [e2, ih (by omega) j (by omega), show n - r + j = n - (r + 1) + (j + 1) from by omega]
theorem uL_mul {v : Int64} {q : Nat} (hq : q < 256) (h : uL v * 256 + q < 2 ^ 64) : uL (v * 256 + (sI q).toInt64) = uL v * 256 + q := by
  rw [sI_L (by omega)]
  show (v.toBitVec * (256 : Int64).toBitVec + (sL q).toBitVec).toNat = v.toBitVec.toNat * 256 + q
  have e1 : ((256 : Int64).toBitVec).toNat = 256 := by decide
  have e2 : ((sL q).toBitVec).toNat = q := uL_s (by omega)
  have h' : v.toBitVec.toNat * 256 + q < 2 ^ 64 := h
  rw [BitVec.toNat_add, BitVec.toNat_mul, e1, e2, Nat.mod_eq_of_lt (Nat.lt_of_le_of_lt (Nat.le_add_right _ _) h'), Nat.mod_eq_of_lt h']
theorem uL_or {v : Int64} {k : Nat} (hk : k < 64) (h : uL v < 2 ^ k) : uL (v ||| (1 <<< ((sI k).toInt64 &&& 63))) = uL v + 2 ^ k := by
  have e : ∀ b, b < 64 → ((1 : Int64) <<< ((sI b).toInt64 &&& 63)).toBitVec = BitVec.ofNat 64 (2 ^ b) := by decide +kernel
  show (v.toBitVec ||| ((1 : Int64) <<< ((sI k).toInt64 &&& 63)).toBitVec).toNat = v.toBitVec.toNat + 2 ^ k
  have hb : 2 ^ k < 2 ^ 64 := Nat.pow_lt_pow_right (by omega) hk
  rw [e k hk, BitVec.toNat_or, BitVec.toNat_ofNat, Nat.mod_eq_of_lt hb]
  have h3 := Nat.two_pow_add_eq_or_of_lt h 1
  rw [Nat.mul_one] at h3
  have h4 : 2 ^ k + v.toBitVec.toNat = 2 ^ k ||| v.toBitVec.toNat := h3
  rw [Nat.add_comm, h4, Nat.or_comm]
theorem c_valueIn {fu s row n2 b o : Nat} {t : Bool} {ov : Nat → Nat} {A : mwM} {L : mwL} (hfu : 20 ≤ fu) (hs : s < 40) (h63 : A 63 s = sI b) (b1 : 1 ≤ b) (b2 : b ≤ 64) (h67 : A 67 s = bI t) (h72 : A 72 s = sI o) (ho : o + (b + 7) / 8 ≤ 8) (hn2 : 8 ≤ n2) (hn3 : n2 < 1000) (hov : ∀ y, y < 8 → A row y = sI (ov y) ∧ ov y < 256) : ∃ w, DX6_valueIn fu (sI s) row n2 A L = some (w, A, L) ∧ uL w = hiv (fun q => ov (o + pqf t ((b + 7) / 8) q)) ((b + 7) / 8) ((b + 7) / 8) % 2 ^ b := by
  generalize hO : (fun q => ov (o + pqf t ((b + 7) / 8) q)) = O
  have hO2 : ∀ q, O q = ov (o + pqf t ((b + 7) / 8) q) := fun q => by rw [← hO]
  have hO8 : ∀ q, q < (b + 7) / 8 → O q < 256 := fun q hq => by
    have := pqf_lt (t := t) hq
    rw [hO2]; exact (hov _ (by omega)).2
  unfold DX6_valueIn
  rw [c_octetsOf hs h63 b2, mb3_s, mlet_e]
  have key : ∀ (r j q : Nat) (v : Int64), r + j = (b + 7) / 8 → j < q → uL v = hiv O ((b + 7) / 8) r → ∃ w, fX6_valueIn_h11 fu (sI s) row n2 q (v, sI j - 1, A, L) = some (w, A, L) ∧ uL w = hiv O ((b + 7) / 8) ((b + 7) / 8) % 2 ^ b := by
    intro r j
    induction j generalizing r with
    | zero =>
      intro q v hr hq hv
      obtain ⟨q', rfl⟩ : ∃ y, q = y + 1 := ⟨q - 1, by omega⟩
      have un : fX6_valueIn_h11 fu (sI s) row n2 (q' + 1) (v, sI 0 - 1, A, L) = fX6_valueIn_i11 fu (sI s) row n2 (fX6_valueIn_h11 fu (sI s) row n2 q') v (sI 0 - 1) A L := rfl
      rw [un]
      unfold fX6_valueIn_i11
      obtain ⟨w, w1, w2⟩ := c_cutTo (fu := fu) (v := v) (M := A) (L := L) b1 b2
      refine ⟨w, ?_, ?_⟩
      · rw [if_pos (by decide), mck_s hs (by omega), sI_nn (by omega), h63, w1, mb3_s]
      · rw [w2, hv, show r = (b + 7) / 8 from by omega]
    | succ j ih =>
      intro q v hr hq hv
      obtain ⟨q', rfl⟩ : ∃ y, q = y + 1 := ⟨q - 1, by omega⟩
      have un : fX6_valueIn_h11 fu (sI s) row n2 (q' + 1) (v, sI (j + 1) - 1, A, L) = fX6_valueIn_i11 fu (sI s) row n2 (fX6_valueIn_h11 fu (sI s) row n2 q') v (sI (j + 1) - 1) A L := rfl
      rw [un, sI_m1]
      have hj : j < (b + 7) / 8 := by omega
      have hpq := pqf_lt (t := t) hj
      obtain ⟨o1, o2⟩ := hov (o + pqf t ((b + 7) / 8) j) (by omega)
      unfold fX6_valueIn_i11
      rw [if_neg (by rw [sI_ltl (by omega) (by decide)]; omega), c_placeOf hs h67 h72 h63 b2 hj, mb3_s, mck_s (by omega) (by omega), sI_nn (by omega), o1, mlet_e, mlet_e, shl_or v _ o2]
      have em : sI j + (-1) = sI j - 1 := by rw [Int32.sub_eq_add_neg]
      rw [em]
      have hl := hiv_lt hO8 r (by omega)
      have hl2 := hiv_lt hO8 (r + 1) (by omega)
      have e1 : hiv O ((b + 7) / 8) (r + 1) = hiv O ((b + 7) / 8) r * 256 + O ((b + 7) / 8 - 1 - r) := rfl
      have e2 : O ((b + 7) / 8 - 1 - r) = ov (o + pqf t ((b + 7) / 8) j) := by rw [hO2, show (b + 7) / 8 - 1 - r = j from by omega]
      have hp : 2 ^ (8 * (r + 1)) ≤ 2 ^ 64 := Nat.pow_le_pow_right (by omega) (by omega)
      exact ih (r + 1) q' _ (by omega) (by omega) (by rw [uL_mul o2 (by rw [hv]; omega), hv, e1, e2])
  exact key 0 ((b + 7) / 8) fu 0 (by omega) (by omega) rfl
theorem m_valueOf {fu s b o : Nat} {t : Bool} {ov : Nat → Nat} {M : mwM} {L : mwL} (hfu : 100 ≤ fu) (hs : s < 40) (h761 : M 761 s = sI b) (b1 : 1 ≤ b) (b2 : b ≤ 64) (h765 : M 765 s = bI t) (h768 : M 768 s = sI (8 * o)) (ho : o + (b + 7) / 8 ≤ 8) (hov : ∀ y, y < 8 → M 926 y = sI (ov y) ∧ ov y < 256) : ∃ w, DX19_valueOf fu (sI s) M L = some (w, M, L) ∧ uL w = hiv (fun q => ov (o + pqf t ((b + 7) / 8) q)) ((b + 7) / 8) ((b + 7) / 8) % 2 ^ b := by
  generalize hO : (fun q => ov (o + pqf t ((b + 7) / 8) q)) = O
  have hO2 : ∀ q, O q = ov (o + pqf t ((b + 7) / 8) q) := fun q => by rw [← hO]
  have hO8 : ∀ q, q < (b + 7) / 8 → O q < 256 := fun q hq => by
    have := pqf_lt (t := t) hq
    rw [hO2]; exact (hov _ (by omega)).2
  generalize hX : hiv O ((b + 7) / 8) ((b + 7) / 8) = X
  have hbit : ∀ k, k < b → X / 2 ^ k % 2 = ov (o + pqf t ((b + 7) / 8) (k / 8)) / 2 ^ (k % 8) % 2 := fun k hk => by
    rw [← xb (V := X) (j := k), ← hX, hiv_oct hO8 _ (Nat.le_refl _) (k / 8) (by omega), Nat.sub_self, Nat.zero_add, hO2]
  have e8 : (sI b + 7) / 8 = sI ((b + 7) / 8) := by
    rw [sI_adl]
    exact sI_div (b := 8) (by omega) (by omega)
  unfold DX19_valueOf
  rw [mck_s hs (by omega), mlet_e, sI_nn (by omega), h761, e8]
  have key : ∀ (r k q : Nat) (v : Int64), k + r = b → r < q → uL v = X % 2 ^ k → ∃ w, fX19_valueOf_h18 fu (sI s) q (sI ((b + 7) / 8), v, sI k, M, L) = some (w, M, L) ∧ uL w = X % 2 ^ b := by
    intro r
    induction r with
    | zero =>
      intro k q v hk hq hv
      obtain ⟨q', rfl⟩ : ∃ y, q = y + 1 := ⟨q - 1, by omega⟩
      refine ⟨v, ?_, by rw [hv, show k = b from by omega]⟩
      show fX19_valueOf_i18 fu (sI s) (fX19_valueOf_h18 fu (sI s) q') (sI ((b + 7) / 8)) v (sI k) M L = _
      unfold fX19_valueOf_i18
      rw [mck_s hs (by omega), sI_nn (by omega), h761, if_pos (by rw [sI_le (by omega) (by omega)]; omega)]
    | succ r ih =>
      intro k q v hk hq hv
      obtain ⟨q', rfl⟩ : ∃ y, q = y + 1 := ⟨q - 1, by omega⟩
      have un : fX19_valueOf_h18 fu (sI s) (q' + 1) (sI ((b + 7) / 8), v, sI k, M, L) = fX19_valueOf_i18 fu (sI s) (fX19_valueOf_h18 fu (sI s) q') (sI ((b + 7) / 8)) v (sI k) M L := rfl
      rw [un]
      have hq0 : k / 8 < (b + 7) / 8 := by omega
      have hpq := pqf_lt (t := t) hq0
      have hr : k % 8 < 8 := Nat.mod_lt _ (by omega)
      obtain ⟨o1, o2⟩ := hov (o + pqf t ((b + 7) / 8) (k / 8)) (by omega)
      have hm : X % 2 ^ (k + 1) = X % 2 ^ k + 2 ^ k * (X / 2 ^ k % 2) := Nat.mod_pow_succ
      have hlt : X % 2 ^ k < 2 ^ k := Nat.mod_lt _ (Nat.pow_pos (by omega))
      have sh : ∀ h, h < 256 → ∀ r, r < 8 → (((sI h >>> (sI r &&& 31)) &&& 1 = 1) ↔ h / 2 ^ r % 2 = 1) := by decide +kernel
      have fin : ∀ p : Int32, p = sI (8 * (o + pqf t ((b + 7) / 8) (k / 8)) + k % 8) → ∃ w, fX19_valueOf_b75 fu (sI s) (fX19_valueOf_h18 fu (sI s) q') (sI ((b + 7) / 8)) v (sI k) p M L = some (w, M, L) ∧ uL w = X % 2 ^ b := by
        intro p hp
        have d8 : p / 8 = sI (o + pqf t ((b + 7) / 8) (k / 8)) := by
          rw [hp]
          have := sI_div (a := 8 * (o + pqf t ((b + 7) / 8) (k / 8)) + k % 8) (b := 8) (by omega) (by omega)
          rw [show (8 * (o + pqf t ((b + 7) / 8) (k / 8)) + k % 8) / 8 = o + pqf t ((b + 7) / 8) (k / 8) from by omega] at this
          exact this
        have m8 : p - p / 8 * 8 = sI (k % 8) := by
          rw [hp]
          have := sI_mod (a := 8 * (o + pqf t ((b + 7) / 8) (k / 8)) + k % 8) (b := 8) (by omega) (by omega)
          rw [show (8 * (o + pqf t ((b + 7) / 8) (k / 8)) + k % 8) % 8 = k % 8 from by omega] at this
          exact this
        unfold fX19_valueOf_b75 fX19_valueOf_b106
        rw [m8, d8, mck_s (by omega) (by omega), sI_nn (by omega), o1]
        by_cases c : ov (o + pqf t ((b + 7) / 8) (k / 8)) / 2 ^ (k % 8) % 2 = 1
        · rw [if_pos ((sh _ o2 _ hr).mpr c), mlet_e, mlet_e, sI_1]
          refine ih (k + 1) q' _ (by omega) (by omega) ?_
          rw [uL_or (by omega) (by rw [hv]; exact hlt), hv, hm, hbit k (by omega), c, Nat.mul_one]
        · rw [if_neg (fun w => c ((sh _ o2 _ hr).mp w)), mlet_e, sI_1]
          refine ih (k + 1) q' _ (by omega) (by omega) ?_
          rw [hv, hm, hbit k (by omega), show ov (o + pqf t ((b + 7) / 8) (k / 8)) / 2 ^ (k % 8) % 2 = 0 from by omega, Nat.mul_zero, Nat.add_zero]
      unfold fX19_valueOf_i18
      rw [mck_s hs (by omega), sI_nn (by omega), h761, if_neg (by rw [sI_le (by omega) (by omega)]; omega), mck_s hs (by omega), h765, h768]
      cases t with
      | false =>
        rw [bI_f, if_pos (show (0 : Int32) = 0 from rfl), mck_s hs (by omega), sI_add]
        refine fin _ ?_
        unfold pqf
        rw [if_neg (by decide), show 8 * o + k = 8 * (o + k / 8) + k % 8 from by omega]
      | true =>
        have ek : sI k / 8 = sI (k / 8) := sI_div (b := 8) (by omega) (by omega)
        have em : sI k - sI k / 8 * 8 = sI (k % 8) := sI_mod (b := 8) (by omega) (by omega)
        rw [bI_t, if_neg (show ¬ (1 : Int32) = 0 by decide), mck_s hs (by omega), em, ek, sI_dec (by omega), sI_sub (by omega), sI_lml, sI_add, sI_add]
        refine fin _ ?_
        unfold pqf
        rw [if_pos rfl, show 8 * o + 8 * ((b + 7) / 8 - 1 - k / 8) + k % 8 = 8 * (o + ((b + 7) / 8 - 1 - k / 8)) + k % 8 from by omega]
  exact key b 0 fu 0 (by omega) (by omega) (by rw [Nat.pow_zero, Nat.mod_one]; rfl)
theorem uL_inj {v w : Int64} (h : uL v = uL w) : v = w := by
  apply Int64.toBitVec_inj.mp
  exact BitVec.eq_of_toNat_eq h
