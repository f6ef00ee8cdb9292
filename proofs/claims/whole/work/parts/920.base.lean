/-! FRAMES: what the rows printed by frp.py rest on -/
def kq2 (P : mwM → mwL → Prop) (x : Option (mwM × mwL)) : Prop := ∀ z, x = some z → P z.1 z.2
def kq3 {α : Type} (P : mwM → mwL → Prop) (x : Option (α × mwM × mwL)) : Prop := ∀ z, x = some z → P z.2.1 z.2.2
theorem kqS2 {P : mwM → mwL → Prop} {M : mwM} {L : mwL} (h : P M L) : kq2 P (some (M, L)) := fun z hz => by injection hz with hz; subst hz; exact h
theorem kqS3 {α : Type} {P : mwM → mwL → Prop} {r : α} {M : mwM} {L : mwL} (h : P M L) : kq3 P (some (r, M, L)) := fun z hz => by injection hz with hz; subst hz; exact h
theorem kqN2 {P : mwM → mwL → Prop} : kq2 P none := fun z hz => by injection hz
theorem kqN3 {α : Type} {P : mwM → mwL → Prop} : kq3 (α := α) P none := fun z hz => by injection hz
theorem kqI2 {P : mwM → mwL → Prop} {c : Prop} {i : Decidable c} {x y : Option (mwM × mwL)} (h1 : kq2 P x) (h2 : kq2 P y) : kq2 P (@ite _ c i x y) := by
  by_cases q : c
  · rw [if_pos q]; exact h1
  · rw [if_neg q]; exact h2
theorem kqI3 {α : Type} {P : mwM → mwL → Prop} {c : Prop} {i : Decidable c} {x y : Option (α × mwM × mwL)} (h1 : kq3 P x) (h2 : kq3 P y) : kq3 P (@ite _ c i x y) := by
  by_cases q : c
  · rw [if_pos q]; exact h1
  · rw [if_neg q]; exact h2
theorem kqK2 {P : mwM → mwL → Prop} {i : Int32} {n : Nat} {x : Option (mwM × mwL)} (h : i.toNatClampNeg < n → kq2 P x) : kq2 P (mck i n x) := by
  unfold mck
  by_cases q : i < 0 ∨ n ≤ i.toNatClampNeg
  · rw [if_pos q]; exact kqN2
  · rw [if_neg q]; exact h (by omega)
theorem kqK3 {α : Type} {P : mwM → mwL → Prop} {i : Int32} {n : Nat} {x : Option (α × mwM × mwL)} (h : i.toNatClampNeg < n → kq3 P x) : kq3 P (mck i n x) := by
  unfold mck
  by_cases q : i < 0 ∨ n ≤ i.toNatClampNeg
  · rw [if_pos q]; exact kqN3
  · rw [if_neg q]; exact h (by omega)
theorem kq_mnz2 {P : mwM → mwL → Prop} {v : Int32} {x : Option (mwM × mwL)} (h : kq2 P x) : kq2 P (mnz v x) := kqI2 kqN2 h
theorem kq_mnz3 {α : Type} {P : mwM → mwL → Prop} {v : Int32} {x : Option (α × mwM × mwL)} (h : kq3 P x) : kq3 P (mnz v x) := kqI3 kqN3 h
theorem kq_mnzL2 {P : mwM → mwL → Prop} {v : Int64} {x : Option (mwM × mwL)} (h : kq2 P x) : kq2 P (mnzL v x) := kqI2 kqN2 h
theorem kq_mnzL3 {α : Type} {P : mwM → mwL → Prop} {v : Int64} {x : Option (α × mwM × mwL)} (h : kq3 P x) : kq3 P (mnzL v x) := kqI3 kqN3 h
theorem kq_mzz2 {P : mwM → mwL → Prop} {v : Int32} {x : Option (mwM × mwL)} (h : kq2 P x) : kq2 P (mzz v x) := kqI2 h kqN2
theorem kq_mzz3 {α : Type} {P : mwM → mwL → Prop} {v : Int32} {x : Option (α × mwM × mwL)} (h : kq3 P x) : kq3 P (mzz v x) := kqI3 h kqN3
theorem kq_mbb2 {P : mwM → mwL → Prop} {v : Int32} {x : Option (mwM × mwL)} (h : kq2 P x) : kq2 P (mbb v x) := kqI2 h kqN2
theorem kq_mbb3 {α : Type} {P : mwM → mwL → Prop} {v : Int32} {x : Option (α × mwM × mwL)} (h : kq3 P x) : kq3 P (mbb v x) := kqI3 h kqN3
theorem kqL2 {α : Type} {P : mwM → mwL → Prop} {v : α} {f : α → Option (mwM × mwL)} (h : ∀ x, kq2 P (f x)) : kq2 P (mlet v f) := h v
theorem kqL3 {α β : Type} {P : mwM → mwL → Prop} {v : α} {f : α → Option (β × mwM × mwL)} (h : ∀ x, kq3 P (f x)) : kq3 P (mlet v f) := h v
theorem kqB22 {P : mwM → mwL → Prop} {x : Option (mwM × mwL)} {f : mwM → mwL → Option (mwM × mwL)} (hx : kq2 P x) (hf : ∀ M L, P M L → kq2 P (f M L)) : kq2 P (mb2 x f) := by
  cases x with
  | none => exact kqN2
  | some z => exact hf z.1 z.2 (hx z rfl)
theorem kqB23 {α : Type} {P : mwM → mwL → Prop} {x : Option (mwM × mwL)} {f : mwM → mwL → Option (α × mwM × mwL)} (hx : kq2 P x) (hf : ∀ M L, P M L → kq3 P (f M L)) : kq3 P (mb2 x f) := by
  cases x with
  | none => exact kqN3
  | some z => exact hf z.1 z.2 (hx z rfl)
theorem kqB32 {α : Type} {P : mwM → mwL → Prop} {x : Option (α × mwM × mwL)} {f : α → mwM → mwL → Option (mwM × mwL)} (hx : kq3 P x) (hf : ∀ r M L, P M L → kq2 P (f r M L)) : kq2 P (mb3 x f) := by
  cases x with
  | none => exact kqN2
  | some z => exact hf z.1 z.2.1 z.2.2 (hx z rfl)
theorem kqB33 {α β : Type} {P : mwM → mwL → Prop} {x : Option (α × mwM × mwL)} {f : α → mwM → mwL → Option (β × mwM × mwL)} (hx : kq3 P x) (hf : ∀ r M L, P M L → kq3 P (f r M L)) : kq3 P (mb3 x f) := by
  cases x with
  | none => exact kqN3
  | some z => exact hf z.1 z.2.1 z.2.2 (hx z rfl)
/-- closed under the class's writes -/
def CPcs (P : mwM → mwL → Prop) : Prop := (∀ M L a y v, a < 732 → P M L → P (mset M a y v) L) ∧ (∀ M L a y v, a < 731 → P M L → P M (mset L a y v))
def CPc1 (P : mwM → mwL → Prop) : Prop := (∀ M L a y v, a < 731 ∧ ¬ (a = 0 ∧ y = 3) → P M L → P (mset M a y v) L) ∧ (∀ M L a y v, a < 731 → P M L → P M (mset L a y v))
def CPc2 (P : mwM → mwL → Prop) : Prop := (∀ M L a y v, a < 731 ∧ ¬ (a = 0 ∧ y = 3) ∧ ¬ (a = 1 ∧ (y = 12 ∨ y = 13)) → P M L → P (mset M a y v) L) ∧ (∀ M L a y v, a < 731 → P M L → P M (mset L a y v)) ∧ (∀ fu a b M L, a ≠ 0 → P M L → kq2 P (DX8_fail fu a b M L))
/-- closed under the reference's writes -/
def CPra (P : mwM → mwL → Prop) : Prop := (∀ M L a y v, 732 ≤ a ∧ a < 1577 ∧ ¬ (a = 732 ∧ y = 110) ∧ a ≠ 940 → P M L → P (mset M a y v) L) ∧ (∀ M L a y v, 732 ≤ a ∧ a < 1577 → P M L → P M (mset L a y v))
def CPrs (P : mwM → mwL → Prop) : Prop := (∀ M L a y v, 732 ≤ a ∧ a < 1577 ∧ a ≠ 754 ∧ ¬ (a = 732 ∧ (y = 4 ∨ y = 33)) ∧ ¬ (964 ≤ a ∧ (a - 964) % 53 = 0 ∧ y = 2) → P M L → P (mset M a y v) L) ∧ (∀ M L a y v, 732 ≤ a ∧ a < 1577 → P M L → P M (mset L a y v))
def CPrb (P : mwM → mwL → Prop) : Prop := (∀ M L a y v, 732 ≤ a ∧ a < 1577 ∧ ¬ (a = 732 ∧ (y = 4 ∨ y = 33 ∨ y = 110)) ∧ a ≠ 940 ∧ a ≠ 754 ∧ ¬ (964 ≤ a ∧ (a - 964) % 53 = 0 ∧ y = 2) → P M L → P (mset M a y v) L) ∧ (∀ M L a y v, 732 ≤ a ∧ a < 1577 → P M L → P M (mset L a y v))
theorem c12 {P : mwM → mwL → Prop} (h : CPc1 P) : CPc2 P := by
  refine ⟨fun M L a y v ho hp => h.1 M L a y v ⟨ho.1, ho.2.1⟩ hp, h.2, fun fu a b M L _ hp => ?_⟩
  unfold DX8_fail fX8_fail_b17
  exact kqI2 (show kq2 P (some (_, L)) from kqS2 (h.1 _ _ _ _ _ (by omega) (h.1 _ _ _ _ _ (by omega) hp))) (kqS2 hp)
theorem cs1 {P : mwM → mwL → Prop} (h : CPcs P) : CPc1 P := ⟨fun M L a y v ho hp => h.1 M L a y v (by omega) hp, h.2⟩
theorem cs2 {P : mwM → mwL → Prop} (h : CPcs P) : CPc2 P := c12 (cs1 h)
theorem cab {P : mwM → mwL → Prop} (h : CPra P) : CPrb P := ⟨fun M L a y v ho hp => h.1 M L a y v (by omega) hp, h.2⟩
theorem csb {P : mwM → mwL → Prop} (h : CPrs P) : CPrb P := ⟨fun M L a y v ho hp => h.1 M L a y v (by omega) hp, h.2⟩
theorem kqM2_c1 {P : mwM → mwL → Prop} (hC : CPc1 P) {M : mwM} {L : mwL} {a y : Nat} {v : Int32} {f : mwM → Option (mwM × mwL)} (h : P M L) (ho : a < 731 ∧ ¬ (a = 0 ∧ y = 3)) (hf : ∀ M1, P M1 L → kq2 P (f M1)) : kq2 P (mlet (mset M a y v) f) := hf _ (hC.1 _ _ _ _ _ ho h)
theorem kqW2_c1 {P : mwM → mwL → Prop} (hC : CPc1 P) {M : mwM} {L : mwL} {a y : Nat} {v : Int64} {f : mwL → Option (mwM × mwL)} (h : P M L) (ho : a < 731) (hf : ∀ L1, P M L1 → kq2 P (f L1)) : kq2 P (mlet (mset L a y v) f) := hf _ (hC.2 _ _ _ _ _ ho h)
theorem kqM3_c1 {α : Type} {P : mwM → mwL → Prop} (hC : CPc1 P) {M : mwM} {L : mwL} {a y : Nat} {v : Int32} {f : mwM → Option (α × mwM × mwL)} (h : P M L) (ho : a < 731 ∧ ¬ (a = 0 ∧ y = 3)) (hf : ∀ M1, P M1 L → kq3 P (f M1)) : kq3 P (mlet (mset M a y v) f) := hf _ (hC.1 _ _ _ _ _ ho h)
theorem kqW3_c1 {α : Type} {P : mwM → mwL → Prop} (hC : CPc1 P) {M : mwM} {L : mwL} {a y : Nat} {v : Int64} {f : mwL → Option (α × mwM × mwL)} (h : P M L) (ho : a < 731) (hf : ∀ L1, P M L1 → kq3 P (f L1)) : kq3 P (mlet (mset L a y v) f) := hf _ (hC.2 _ _ _ _ _ ho h)
theorem kqM2_c2 {P : mwM → mwL → Prop} (hC : CPc2 P) {M : mwM} {L : mwL} {a y : Nat} {v : Int32} {f : mwM → Option (mwM × mwL)} (h : P M L) (ho : a < 731 ∧ ¬ (a = 0 ∧ y = 3) ∧ ¬ (a = 1 ∧ (y = 12 ∨ y = 13))) (hf : ∀ M1, P M1 L → kq2 P (f M1)) : kq2 P (mlet (mset M a y v) f) := hf _ (hC.1 _ _ _ _ _ ho h)
theorem kqW2_c2 {P : mwM → mwL → Prop} (hC : CPc2 P) {M : mwM} {L : mwL} {a y : Nat} {v : Int64} {f : mwL → Option (mwM × mwL)} (h : P M L) (ho : a < 731) (hf : ∀ L1, P M L1 → kq2 P (f L1)) : kq2 P (mlet (mset L a y v) f) := hf _ (hC.2.1 _ _ _ _ _ ho h)
theorem kqM3_c2 {α : Type} {P : mwM → mwL → Prop} (hC : CPc2 P) {M : mwM} {L : mwL} {a y : Nat} {v : Int32} {f : mwM → Option (α × mwM × mwL)} (h : P M L) (ho : a < 731 ∧ ¬ (a = 0 ∧ y = 3) ∧ ¬ (a = 1 ∧ (y = 12 ∨ y = 13))) (hf : ∀ M1, P M1 L → kq3 P (f M1)) : kq3 P (mlet (mset M a y v) f) := hf _ (hC.1 _ _ _ _ _ ho h)
theorem kqW3_c2 {α : Type} {P : mwM → mwL → Prop} (hC : CPc2 P) {M : mwM} {L : mwL} {a y : Nat} {v : Int64} {f : mwL → Option (α × mwM × mwL)} (h : P M L) (ho : a < 731) (hf : ∀ L1, P M L1 → kq3 P (f L1)) : kq3 P (mlet (mset L a y v) f) := hf _ (hC.2.1 _ _ _ _ _ ho h)
theorem kqM2_cs {P : mwM → mwL → Prop} (hC : CPcs P) {M : mwM} {L : mwL} {a y : Nat} {v : Int32} {f : mwM → Option (mwM × mwL)} (h : P M L) (ho : a < 732) (hf : ∀ M1, P M1 L → kq2 P (f M1)) : kq2 P (mlet (mset M a y v) f) := hf _ (hC.1 _ _ _ _ _ ho h)
theorem kqW2_cs {P : mwM → mwL → Prop} (hC : CPcs P) {M : mwM} {L : mwL} {a y : Nat} {v : Int64} {f : mwL → Option (mwM × mwL)} (h : P M L) (ho : a < 731) (hf : ∀ L1, P M L1 → kq2 P (f L1)) : kq2 P (mlet (mset L a y v) f) := hf _ (hC.2 _ _ _ _ _ ho h)
theorem kqM3_cs {α : Type} {P : mwM → mwL → Prop} (hC : CPcs P) {M : mwM} {L : mwL} {a y : Nat} {v : Int32} {f : mwM → Option (α × mwM × mwL)} (h : P M L) (ho : a < 732) (hf : ∀ M1, P M1 L → kq3 P (f M1)) : kq3 P (mlet (mset M a y v) f) := hf _ (hC.1 _ _ _ _ _ ho h)
theorem kqW3_cs {α : Type} {P : mwM → mwL → Prop} (hC : CPcs P) {M : mwM} {L : mwL} {a y : Nat} {v : Int64} {f : mwL → Option (α × mwM × mwL)} (h : P M L) (ho : a < 731) (hf : ∀ L1, P M L1 → kq3 P (f L1)) : kq3 P (mlet (mset L a y v) f) := hf _ (hC.2 _ _ _ _ _ ho h)
theorem kqM2_ra {P : mwM → mwL → Prop} (hC : CPra P) {M : mwM} {L : mwL} {a y : Nat} {v : Int32} {f : mwM → Option (mwM × mwL)} (h : P M L) (ho : 732 ≤ a ∧ a < 1577 ∧ ¬ (a = 732 ∧ y = 110) ∧ a ≠ 940) (hf : ∀ M1, P M1 L → kq2 P (f M1)) : kq2 P (mlet (mset M a y v) f) := hf _ (hC.1 _ _ _ _ _ ho h)
theorem kqW2_ra {P : mwM → mwL → Prop} (hC : CPra P) {M : mwM} {L : mwL} {a y : Nat} {v : Int64} {f : mwL → Option (mwM × mwL)} (h : P M L) (ho : 732 ≤ a ∧ a < 1577) (hf : ∀ L1, P M L1 → kq2 P (f L1)) : kq2 P (mlet (mset L a y v) f) := hf _ (hC.2 _ _ _ _ _ ho h)
theorem kqM3_ra {α : Type} {P : mwM → mwL → Prop} (hC : CPra P) {M : mwM} {L : mwL} {a y : Nat} {v : Int32} {f : mwM → Option (α × mwM × mwL)} (h : P M L) (ho : 732 ≤ a ∧ a < 1577 ∧ ¬ (a = 732 ∧ y = 110) ∧ a ≠ 940) (hf : ∀ M1, P M1 L → kq3 P (f M1)) : kq3 P (mlet (mset M a y v) f) := hf _ (hC.1 _ _ _ _ _ ho h)
theorem kqW3_ra {α : Type} {P : mwM → mwL → Prop} (hC : CPra P) {M : mwM} {L : mwL} {a y : Nat} {v : Int64} {f : mwL → Option (α × mwM × mwL)} (h : P M L) (ho : 732 ≤ a ∧ a < 1577) (hf : ∀ L1, P M L1 → kq3 P (f L1)) : kq3 P (mlet (mset L a y v) f) := hf _ (hC.2 _ _ _ _ _ ho h)
theorem kqM2_rs {P : mwM → mwL → Prop} (hC : CPrs P) {M : mwM} {L : mwL} {a y : Nat} {v : Int32} {f : mwM → Option (mwM × mwL)} (h : P M L) (ho : 732 ≤ a ∧ a < 1577 ∧ a ≠ 754 ∧ ¬ (a = 732 ∧ (y = 4 ∨ y = 33)) ∧ ¬ (964 ≤ a ∧ (a - 964) % 53 = 0 ∧ y = 2)) (hf : ∀ M1, P M1 L → kq2 P (f M1)) : kq2 P (mlet (mset M a y v) f) := hf _ (hC.1 _ _ _ _ _ ho h)
theorem kqW2_rs {P : mwM → mwL → Prop} (hC : CPrs P) {M : mwM} {L : mwL} {a y : Nat} {v : Int64} {f : mwL → Option (mwM × mwL)} (h : P M L) (ho : 732 ≤ a ∧ a < 1577) (hf : ∀ L1, P M L1 → kq2 P (f L1)) : kq2 P (mlet (mset L a y v) f) := hf _ (hC.2 _ _ _ _ _ ho h)
theorem kqM3_rs {α : Type} {P : mwM → mwL → Prop} (hC : CPrs P) {M : mwM} {L : mwL} {a y : Nat} {v : Int32} {f : mwM → Option (α × mwM × mwL)} (h : P M L) (ho : 732 ≤ a ∧ a < 1577 ∧ a ≠ 754 ∧ ¬ (a = 732 ∧ (y = 4 ∨ y = 33)) ∧ ¬ (964 ≤ a ∧ (a - 964) % 53 = 0 ∧ y = 2)) (hf : ∀ M1, P M1 L → kq3 P (f M1)) : kq3 P (mlet (mset M a y v) f) := hf _ (hC.1 _ _ _ _ _ ho h)
theorem kqW3_rs {α : Type} {P : mwM → mwL → Prop} (hC : CPrs P) {M : mwM} {L : mwL} {a y : Nat} {v : Int64} {f : mwL → Option (α × mwM × mwL)} (h : P M L) (ho : 732 ≤ a ∧ a < 1577) (hf : ∀ L1, P M L1 → kq3 P (f L1)) : kq3 P (mlet (mset L a y v) f) := hf _ (hC.2 _ _ _ _ _ ho h)
theorem kqM2_rb {P : mwM → mwL → Prop} (hC : CPrb P) {M : mwM} {L : mwL} {a y : Nat} {v : Int32} {f : mwM → Option (mwM × mwL)} (h : P M L) (ho : 732 ≤ a ∧ a < 1577 ∧ ¬ (a = 732 ∧ (y = 4 ∨ y = 33 ∨ y = 110)) ∧ a ≠ 940 ∧ a ≠ 754 ∧ ¬ (964 ≤ a ∧ (a - 964) % 53 = 0 ∧ y = 2)) (hf : ∀ M1, P M1 L → kq2 P (f M1)) : kq2 P (mlet (mset M a y v) f) := hf _ (hC.1 _ _ _ _ _ ho h)
theorem kqW2_rb {P : mwM → mwL → Prop} (hC : CPrb P) {M : mwM} {L : mwL} {a y : Nat} {v : Int64} {f : mwL → Option (mwM × mwL)} (h : P M L) (ho : 732 ≤ a ∧ a < 1577) (hf : ∀ L1, P M L1 → kq2 P (f L1)) : kq2 P (mlet (mset L a y v) f) := hf _ (hC.2 _ _ _ _ _ ho h)
theorem kqM3_rb {α : Type} {P : mwM → mwL → Prop} (hC : CPrb P) {M : mwM} {L : mwL} {a y : Nat} {v : Int32} {f : mwM → Option (α × mwM × mwL)} (h : P M L) (ho : 732 ≤ a ∧ a < 1577 ∧ ¬ (a = 732 ∧ (y = 4 ∨ y = 33 ∨ y = 110)) ∧ a ≠ 940 ∧ a ≠ 754 ∧ ¬ (964 ≤ a ∧ (a - 964) % 53 = 0 ∧ y = 2)) (hf : ∀ M1, P M1 L → kq3 P (f M1)) : kq3 P (mlet (mset M a y v) f) := hf _ (hC.1 _ _ _ _ _ ho h)
theorem kqW3_rb {α : Type} {P : mwM → mwL → Prop} (hC : CPrb P) {M : mwM} {L : mwL} {a y : Nat} {v : Int64} {f : mwL → Option (α × mwM × mwL)} (h : P M L) (ho : 732 ≤ a ∧ a < 1577) (hf : ∀ L1, P M L1 → kq3 P (f L1)) : kq3 P (mlet (mset L a y v) f) := hf _ (hC.2 _ _ _ _ _ ho h)
