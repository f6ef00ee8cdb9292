/-! the ear: a plain bit more -/
def atE (e : Nat) : Nat := if e = 1 then 33 else 14
def caE (e f : Nat) : Nat := atE e + 1 + 3 * f + (if e = 1 ∧ f = 0 then 1 else 0)
def jE (e P : Nat) : Nat := if e = 1 then min P 32 - 14 else 0
def ocE (f r c : Nat) : Nat := if f = 1 then octF c else if r = 1 then 0 else (if 8 < c then 8 else c)
def PIx (q : Nat → Nat) (P e f ca c r oc oe id to ck : Nat) : Prop :=
  (∀ i, i < P → q i < 2) ∧ 1 ≤ P ∧
  e = (if 14 ≤ P then q 13 else 0) ∧
  f = (if atE e < P then q (atE e) else 0) ∧
  ca = (if atE e < P then caE e f else 100000) ∧
  c = (if atE e < P then num q (caE e f) (min P (caE e f + 4) - caE e f) else 0) ∧
  r = (if e = 1 ∧ 33 ≤ P then q 32 else if 13 ≤ P then q 12 else 0) ∧
  oc = (if atE e < P ∧ caE e f + 4 ≤ P then ocE f r c else 0) ∧
  oe = (if atE e < P ∧ caE e f + 4 ≤ P then caE e f + 4 + 8 * oc else 100000) ∧
  id = num q 1 (min P 12 - 1) * 2 ^ jE e P + num q 14 (jE e P) ∧
  to = num q oe (P - oe) ∧
  ck = crcF (2 ^ 14) 17817 0 q (min P oe)
theorem PI_x {q g : Nat → Nat} : PI q g ↔ PIx q (g 5) (g 12) (g 13) (g 15) (g 14) (g 11) (g 16) (g 17) (g 10) (g 18) (g 7) := Iff.rfl
theorem bit_s {q : Nat → Nat} {P b : Nat} (i1 : ∀ i, i < P → q i < 2) (hb : b < 2) (hq : q P = b) : ∀ i, i < P + 1 → q i < 2 := by
  intro i u
  by_cases z : i = P
  · rw [z, hq]; exact hb
  · exact i1 i (by omega)
theorem caE_b {e f : Nat} (he : e < 2) (hf : f < 2) : atE e + 1 ≤ caE e f ∧ caE e f ≤ atE e + 4 := by
  unfold caE
  split <;> omega
theorem ocE_le (f r c : Nat) : ocE f r c ≤ 64 := by
  unfold ocE
  split
  · exact octF_le c
  · split
    · omega
    · split <;> omega
theorem crc_1 {q : Nat → Nat} {P b n : Nat} (hq : q P = b) (hn : n = P) : c15 (crcF (2 ^ 14) 17817 0 q n) b = crcF (2 ^ 14) 17817 0 q (P + 1) := by
  subst hn
  show crcS (2 ^ 14) 17817 (crcF (2 ^ 14) 17817 0 q n) b = crcS (2 ^ 14) 17817 (crcF (2 ^ 14) 17817 0 q n) (q n)
  rw [hq]
/-- before the thirteenth bit -/
theorem PIx_h {q : Nat → Nat} {P e f ca c r oc oe id to ck : Nat} (h : PIx q P e f ca c r oc oe id to ck) (h1 : P ≤ 14) (h2 : e = 0) : f = 0 ∧ ca = 100000 ∧ c = 0 ∧ oc = 0 ∧ oe = 100000 ∧ to = 0 ∧ ck = crcF (2 ^ 14) 17817 0 q P ∧ id = num q 1 (min P 12 - 1) := by
  obtain ⟨i1, i2, i3, i4, i5, i6, i7, i8, i9, i10, i11, i12⟩ := h
  subst h2
  have a0 : atE 0 = 14 := rfl
  have j0 : jE 0 P = 0 := rfl
  rw [a0] at i4 i5 i6 i8 i9
  rw [if_neg (by omega)] at i4 i5 i6 i8 i9
  subst i4 i5 i6 i8 i9
  rw [j0] at i10
  rw [show P - 100000 = 0 by omega] at i11
  rw [show min P 100000 = P by omega] at i12
  exact ⟨rfl, rfl, rfl, rfl, rfl, i11, i12, by rw [i10]; show _ * 1 + 0 = _; omega⟩
theorem PIx_i {q : Nat → Nat} {P e r id ck : Nat} (i1 : ∀ i, i < P → q i < 2) (h1 : P ≤ 14) (h0 : 1 ≤ P) (i3 : e = (if 14 ≤ P then q 13 else 0)) (i7 : r = (if 13 ≤ P then q 12 else 0)) (i10 : id = num q 1 (min P 12 - 1)) (i12 : ck = crcF (2 ^ 14) 17817 0 q P) : PIx q P e 0 100000 0 r 0 100000 id 0 ck := by
  have ab : 14 ≤ atE e := by unfold atE; split <;> omega
  have j0 : jE e P = 0 := by unfold jE; split <;> omega
  refine ⟨i1, h0, i3, ?_, ?_, ?_, ?_, ?_, ?_, ?_, ?_, ?_⟩
  · rw [if_neg (by omega)]
  · rw [if_neg (by omega)]
  · rw [if_neg (by omega)]
  · rw [if_neg (by omega)]; exact i7
  · rw [if_neg (by omega)]
  · rw [if_neg (by omega)]
  · rw [j0, i10]
    show _ = _ * 1 + 0
    omega
  · rw [show P - 100000 = 0 by omega]
    rfl
  · rw [show min P 100000 = P by omega]
    exact i12
/-- the parts up to the first flag -/
theorem PIx_A {q : Nat → Nat} {P e f ca c r oc oe id to ck b : Nat} (h : PIx q P e f ca c r oc oe id to ck) (hb : b < 2) (hq : q P = b) (h1 : P ≤ 13) : PIx q (P + 1) (if P = 13 then b else e) f ca c (if P = 12 then b else r) oc oe (if P ≤ 11 then 2 * id + b else id) to (c15 ck b) := by
  have h' := h
  obtain ⟨i1, i2, i3, _, _, _, i7, _, _, _, _, _⟩ := h
  have he : e = 0 := by rw [i3]; exact if_neg (by omega)
  obtain ⟨rfl, rfl, rfl, rfl, rfl, rfl, k1, k2⟩ := PIx_h h' (by omega) he
  refine PIx_i (bit_s i1 hb hq) (by omega) (by omega) ?_ ?_ ?_ ?_
  · by_cases z : P = 13
    · rw [if_pos z, if_pos (by omega), ← hq, z]
    · rw [if_neg z, if_neg (by omega), he]
  · rw [he, if_neg (show ¬ (0 = 1 ∧ 33 ≤ P) by omega)] at i7
    by_cases z : P = 12
    · rw [if_pos z, if_pos (by omega), ← hq, z]
    · rw [if_neg z, i7]
      by_cases y : 13 ≤ P
      · rw [if_pos y, if_pos (by omega)]
      · rw [if_neg y, if_neg (by omega)]
  · by_cases z : P ≤ 11
    · rw [if_pos z, k2, show min P 12 - 1 = P - 1 by omega, show min (P + 1) 12 - 1 = (P - 1) + 1 by omega]
      show _ = 2 * num q 1 (P - 1) + q (1 + (P - 1))
      rw [show 1 + (P - 1) = P by omega, hq]
    · rw [if_neg z, k2, show min P 12 - 1 = 11 by omega, show min (P + 1) 12 - 1 = 11 by omega]
  · rw [k1]
    exact crc_1 hq rfl
/-- a long identifier, and the flag behind it -/
theorem PIx_l {q : Nat → Nat} {P e f ca c r oc oe id to ck : Nat} (h : PIx q P e f ca c r oc oe id to ck) (h1 : 14 ≤ P) (h3 : P ≤ 33) (h2 : e = 1) : f = 0 ∧ ca = 100000 ∧ c = 0 ∧ oc = 0 ∧ oe = 100000 ∧ to = 0 ∧ ck = crcF (2 ^ 14) 17817 0 q P ∧ id = num q 1 11 * 2 ^ (min P 32 - 14) + num q 14 (min P 32 - 14) := by
  obtain ⟨i1, i2, i3, i4, i5, i6, i7, i8, i9, i10, i11, i12⟩ := h
  subst h2
  have a0 : atE 1 = 33 := rfl
  have j0 : jE 1 P = min P 32 - 14 := rfl
  rw [a0] at i4 i5 i6 i8 i9
  rw [if_neg (by omega)] at i4 i5 i6 i8 i9
  subst i4 i5 i6 i8 i9
  rw [j0, show min P 12 - 1 = 11 by omega] at i10
  rw [show P - 100000 = 0 by omega] at i11
  rw [show min P 100000 = P by omega] at i12
  exact ⟨rfl, rfl, rfl, rfl, rfl, i11, i12, i10⟩
theorem PIx_E {q : Nat → Nat} {P e f ca c r oc oe id to ck b : Nat} (h : PIx q P e f ca c r oc oe id to ck) (hb : b < 2) (hq : q P = b) (h1 : 14 ≤ P) (h3 : P ≤ 32) (h2 : e = 1) : PIx q (P + 1) e f ca c (if P = 32 then b else r) oc oe (if P ≤ 31 then 2 * id + b else id) to (c15 ck b) := by
  have h' := h
  obtain ⟨i1, i2, i3, _, _, _, i7, _, _, _, _, _⟩ := h
  obtain ⟨rfl, rfl, rfl, rfl, rfl, rfl, k1, k2⟩ := PIx_l h' (by omega) (by omega) h2
  have a0 : atE e = 33 := by rw [h2]; rfl
  have j0 : jE e (P + 1) = min (P + 1) 32 - 14 := by rw [h2]; rfl
  rw [if_pos (by omega)] at i3
  rw [if_neg (by omega), if_pos (by omega)] at i7
  refine ⟨bit_s i1 hb hq, by omega, ?_, ?_, ?_, ?_, ?_, ?_, ?_, ?_, ?_, ?_⟩
  · rw [if_pos (by omega)]; exact i3
  · rw [a0, if_neg (by omega)]
  · rw [a0, if_neg (by omega)]
  · rw [a0, if_neg (by omega)]
  · by_cases z : P = 32
    · rw [if_pos z, if_pos (by omega), ← hq, z]
    · rw [if_neg z, if_neg (by omega), if_pos (by omega)]; exact i7
  · rw [a0, if_neg (by omega)]
  · rw [a0, if_neg (by omega)]
  · rw [j0, show min (P + 1) 12 - 1 = 11 by omega]
    by_cases z : P ≤ 31
    · rw [if_pos z, k2, show min P 32 - 14 = P - 14 by omega, show min (P + 1) 32 - 14 = (P - 14) + 1 by omega]
      show _ = _ + (2 * num q 14 (P - 14) + q (14 + (P - 14)))
      rw [show 14 + (P - 14) = P by omega, hq, Nat.pow_succ, ← Nat.mul_assoc]
      generalize num q 1 11 * 2 ^ (P - 14) = X
      omega
    · rw [if_neg z, k2, show min P 32 - 14 = 18 by omega, show min (P + 1) 32 - 14 = 18 by omega]
  · rw [show P + 1 - 100000 = 0 by omega]
    rfl
  · rw [k1, Nat.min_eq_left (show P + 1 ≤ 100000 by omega)]
    exact crc_1 hq rfl
/-- the flag that tells the kind -/
theorem PIx_D {q : Nat → Nat} {P e f ca c r oc oe id to ck b : Nat} (h : PIx q P e f ca c r oc oe id to ck) (hb : b < 2) (hq : q P = b) (h1 : P = atE e) (h2 : e < 2) : PIx q (P + 1) e b (caE e b) c r oc oe id to (c15 ck b) := by
  have h' := h
  obtain ⟨i1, i2, i3, _, _, _, i7, _, _, i10, _, _⟩ := h
  have cb := caE_b h2 hb
  have hP : 14 ≤ P ∧ P ≤ 33 := by rw [h1]; unfold atE; split <;> omega
  have kk : f = 0 ∧ ca = 100000 ∧ c = 0 ∧ oc = 0 ∧ oe = 100000 ∧ to = 0 ∧ ck = crcF (2 ^ 14) 17817 0 q P := by
    by_cases z : e = 1
    · obtain ⟨k1, k2, k3, k4, k5, k6, k7, _⟩ := PIx_l h' (by omega) (by omega) z
      exact ⟨k1, k2, k3, k4, k5, k6, k7⟩
    · have ha : atE e = 14 := by unfold atE; rw [if_neg z]
      obtain ⟨k1, k2, k3, k4, k5, k6, k7, _⟩ := PIx_h h' (by omega) (by omega)
      exact ⟨k1, k2, k3, k4, k5, k6, k7⟩
  obtain ⟨rfl, rfl, rfl, rfl, rfl, rfl, k1⟩ := kk
  have j0 : jE e (P + 1) = jE e P := by
    unfold jE
    split
    · rename_i z
      have ha : atE e = 33 := by unfold atE; rw [if_pos z]
      omega
    · rfl
  rw [if_pos (by omega)] at i3
  refine ⟨bit_s i1 hb hq, by omega, ?_, ?_, ?_, ?_, ?_, ?_, ?_, ?_, ?_, ?_⟩
  · rw [if_pos (by omega)]; exact i3
  · rw [if_pos (by omega), ← h1, hq]
  · rw [if_pos (by omega)]
  · rw [if_pos (by omega), show min (P + 1) (caE e b + 4) - caE e b = 0 by omega]
    rfl
  · rw [i7]
    by_cases z : e = 1 ∧ 33 ≤ P
    · rw [if_pos z, if_pos (by omega)]
    · have ha : ¬ e = 1 := fun y => z ⟨y, by rw [h1, y]; decide⟩
      rw [if_neg z, if_pos (show 13 ≤ P by omega), if_neg (show ¬ (e = 1 ∧ 33 ≤ P + 1) from fun y => ha y.1), if_pos (show 13 ≤ P + 1 by omega)]
  · rw [if_neg (by omega)]
  · rw [if_neg (by omega)]
  · rw [j0, i10, show min P 12 - 1 = min (P + 1) 12 - 1 by omega]
  · rw [show P + 1 - 100000 = 0 by omega]
    rfl
  · rw [k1, Nat.min_eq_left (show P + 1 ≤ 100000 by omega)]
    exact crc_1 hq rfl
/-- behind it -/
theorem PIx_H {q : Nat → Nat} {P e f ca c r oc oe id to ck b : Nat} (h : PIx q P e f ca c r oc oe id to ck) (hb : b < 2) (hq : q P = b) (h1 : atE e < P) (h2 : e < 2) : PIx q (P + 1) e f ca (if ca ≤ P ∧ P ≤ ca + 3 then 2 * c + b else c) r (if P = ca + 3 then ocE f r (2 * c + b) else oc) (if P = ca + 3 then ca + 4 + 8 * ocE f r (2 * c + b) else oe) id (if oe ≤ P then 2 * to + b else to) (if oe ≤ P then ck else c15 ck b) := by
  obtain ⟨i1, i2, i3, i4, i5, i6, i7, i8, i9, i10, i11, i12⟩ := h
  have hP : 14 < P := by unfold atE at h1; split at h1 <;> omega
  rw [if_pos h1] at i4 i5 i6
  have hf : f < 2 := by rw [i4]; exact i1 _ h1
  have cb := caE_b h2 hf
  have j0 : jE e (P + 1) = jE e P := by
    unfold jE
    split
    · rename_i z
      have ha : atE e = 33 := by unfold atE; rw [if_pos z]
      omega
    · rfl
  have oo : caE e f + 4 ≤ P → oe = caE e f + 4 + 8 * oc ∧ oc = ocE f r c ∧ oc ≤ 64 := fun z => by
    rw [if_pos ⟨h1, z⟩] at i8 i9
    exact ⟨i9, i8, by rw [i8]; exact ocE_le _ _ _⟩
  have on : ¬ caE e f + 4 ≤ P → oe = 100000 ∧ oc = 0 ∧ P < 100 := fun z => by
    rw [if_neg (fun y => z y.2)] at i8 i9
    refine ⟨i9, i8, ?_⟩
    have ha : atE e ≤ 33 := by unfold atE; split <;> omega
    omega
  rw [if_pos (by omega)] at i3
  rw [i5]
  refine ⟨bit_s i1 hb hq, by omega, ?_, ?_, ?_, ?_, ?_, ?_, ?_, ?_, ?_, ?_⟩
  · rw [if_pos (by omega)]; exact i3
  · rw [if_pos (by omega)]; exact i4
  · rw [if_pos (by omega)]
  · rw [if_pos (show atE e < P + 1 by omega)]
    by_cases z : caE e f ≤ P ∧ P ≤ caE e f + 3
    · rw [if_pos z, show min (P + 1) (caE e f + 4) - caE e f = (P - caE e f) + 1 by omega]
      show _ = 2 * num q (caE e f) (P - caE e f) + q (caE e f + (P - caE e f))
      rw [show caE e f + (P - caE e f) = P by omega, hq, i6, show min P (caE e f + 4) - caE e f = P - caE e f by omega]
    · rw [if_neg z, i6, show min (P + 1) (caE e f + 4) - caE e f = min P (caE e f + 4) - caE e f by omega]
  · rw [i7]
    by_cases z : e = 1
    · have ha : atE e = 33 := by unfold atE; rw [if_pos z]
      rw [if_pos ⟨z, by omega⟩, if_pos ⟨z, by omega⟩]
    · rw [if_neg (show ¬ (e = 1 ∧ 33 ≤ P) from fun y => z y.1), if_pos (show 13 ≤ P by omega), if_neg (show ¬ (e = 1 ∧ 33 ≤ P + 1) from fun y => z y.1), if_pos (show 13 ≤ P + 1 by omega)]
  · by_cases z : P = caE e f + 3
    · rw [if_pos z, if_pos ⟨by omega, by omega⟩, if_pos ⟨by omega, by omega⟩]
    · rw [if_neg z]
      by_cases y : caE e f + 4 ≤ P
      · rw [if_pos ⟨by omega, by omega⟩, if_neg (by omega)]
        exact (oo y).2.1
      · rw [if_neg (by omega)]
        exact (on y).2.1
  · by_cases z : P = caE e f + 3
    · rw [if_pos z, if_pos ⟨by omega, by omega⟩, if_pos z]
    · rw [if_neg z, if_neg z]
      by_cases y : caE e f + 4 ≤ P
      · rw [if_pos ⟨by omega, by omega⟩]
        exact (oo y).1
      · rw [if_neg (by omega)]
        exact (on y).1
  · rw [j0, i10, show min P 12 - 1 = min (P + 1) 12 - 1 by omega]
  · by_cases z : P = caE e f + 3
    · have y := on (by omega)
      rw [if_pos z, if_neg (by omega), i11, y.1, show P - 100000 = 0 by omega, show P + 1 - (caE e f + 4 + 8 * ocE f r (2 * c + b)) = 0 by omega]
      rfl
    · rw [if_neg z]
      by_cases y : oe ≤ P
      · rw [if_pos y, show P + 1 - oe = (P - oe) + 1 by omega]
        show _ = 2 * num q oe (P - oe) + q (oe + (P - oe))
        rw [show oe + (P - oe) = P by omega, hq, i11]
      · rw [if_neg y, i11, show P + 1 - oe = 0 by omega, show P - oe = 0 by omega]
  · by_cases z : P = caE e f + 3
    · have y := on (by omega)
      rw [if_pos z, if_neg (by omega), show min (P + 1) (caE e f + 4 + 8 * ocE f r (2 * c + b)) = P + 1 by omega, i12]
      exact crc_1 hq (by omega)
    · rw [if_neg z]
      by_cases y : oe ≤ P
      · rw [if_pos y, i12, show min (P + 1) oe = min P oe by omega]
      · rw [if_neg y, i12, show min (P + 1) oe = P + 1 by omega]
        exact crc_1 hq (by omega)
