/-! THE WORLD: the cells of class and reference by their numbers (in the order in which they are made). Cell k has a kind T k = (tag, length): tags 0 .. 5 arrays of int, byte, boolean, char, short, long, 6 .. 10 arrays of references, 11 + c an object of class number c. What it holds: M k j (ints), L k j (longs), F k j (references, by numbers). ad k is its address. -/
def mw_fv (fk : Nat → Nat → Nat) (ad : Nat → Nat) (M : Nat → Nat → Int32) (L : Nat → Nat → Int64) (F : Nat → Nat → Option Nat) (ci k j : Nat) : Value :=
  if fk ci j = 0 then .int (M k j) else if fk ci j = 1 then .long (L k j) else va_rf ((F k j).map ad)
def mw_ce (fk : Nat → Nat → Nat) (ac : Nat → ClassId) (ad : Nat → Nat) (T : Nat → Nat × Nat) (M : Nat → Nat → Int32) (L : Nat → Nat → Int64) (F : Nat → Nat → Option Nat) (k : Nat) : va_E :=
  if (T k).1 < 5 then .inl (ac (T k).1, (T k).2, .inl (M k))
  else if (T k).1 = 5 then .inl (ac 5, (T k).2, .inr (.inl (L k)))
  else if (T k).1 < 11 then .inl (ac (T k).1, (T k).2, .inr (.inr (.inr (.inr (fun j => (F k j).map ad)))))
  else .inr ((T k).1 - 11, (List.range (T k).2).map (mw_fv fk ad M L F ((T k).1 - 11) k))
def mw_l (fk : Nat → Nat → Nat) (ac : Nat → ClassId) (ad : Nat → Nat) (T : Nat → Nat × Nat) (M : Nat → Nat → Int32) (L : Nat → Nat → Int64) (F : Nat → Nat → Option Nat) (N : Nat) : va_W :=
  (List.range N).map (fun k => (ad k, mw_ce fk ac ad T M L F k))
def mset {α : Type} (M : Nat → Nat → α) (k j : Nat) (x : α) : Nat → Nat → α := fun a b => if a = k ∧ b = j then x else M a b
theorem mset_s {α : Type} {M : Nat → Nat → α} {k j : Nat} {x : α} : mset M k j x k j = x := by simp [mset]
theorem mset_n {α : Type} {M : Nat → Nat → α} {k j a b : Nat} {x : α} (h : ¬ (a = k ∧ b = j)) : mset M k j x a b = M a b := by simp [mset, h]
theorem mset_k {α : Type} {M : Nat → Nat → α} {k j a b : Nat} {x : α} (h : a ≠ k) : mset M k j x a b = M a b := mset_n (fun q => h q.1)
theorem mset_j {α : Type} {M : Nat → Nat → α} {k j a b : Nat} {x : α} (h : b ≠ j) : mset M k j x a b = M a b := mset_n (fun q => h q.2)
theorem mset_row {α : Type} {M : Nat → Nat → α} {k j : Nat} {x : α} : mset M k j x k = fun b => if b = j then x else M k b := by
  funext b
  simp [mset]
theorem mset_rown {α : Type} {M : Nat → Nat → α} {k j a : Nat} {x : α} (h : a ≠ k) : mset M k j x a = M a := by
  funext b
  exact mset_k h
theorem mset_up {M : Nat → Nat → Int32} {k j : Nat} {x : Int32} : mset M k j x k = upd (M k) j x := by
  funext b
  simp [mset, upd]
theorem mset_upL {M : Nat → Nat → Int64} {k j : Nat} {x : Int64} : mset M k j x k = vp_updL (M k) j x := by
  funext b
  simp [mset, vp_updL]
section MWL
variable {fk : Nat → Nat → Nat} {ac : Nat → ClassId} {ad : Nat → Nat} {T : Nat → Nat × Nat} {M : Nat → Nat → Int32} {L : Nat → Nat → Int64} {F : Nat → Nat → Option Nat} {N : Nat}
theorem mw_at {k : Nat} (hk : k < N) : (mw_l fk ac ad T M L F N)[k]? = some (ad k, mw_ce fk ac ad T M L F k) := by
  simp [mw_l, hk]
theorem mw_len : (mw_l fk ac ad T M L F N).length = N := by simp [mw_l]
theorem mw_ceA {k t n : Nat} (h : T k = (t, n)) (ht : t < 5) : mw_ce fk ac ad T M L F k = .inl (ac t, n, .inl (M k)) := by
  simp [mw_ce, h, ht]
theorem mw_ceL {k n : Nat} (h : T k = (5, n)) : mw_ce fk ac ad T M L F k = .inl (ac 5, n, .inr (.inl (L k))) := by
  simp [mw_ce, h]
theorem mw_ceR {k t n : Nat} (h : T k = (t, n)) (h5 : 5 < t) (h9 : t < 11) : mw_ce fk ac ad T M L F k = .inl (ac t, n, .inr (.inr (.inr (.inr (fun j => (F k j).map ad))))) := by
  simp [mw_ce, h, h9, show ¬ t < 5 by omega, show ¬ t = 5 by omega]
theorem mw_ceO {k ci n : Nat} (h : T k = (11 + ci, n)) : mw_ce fk ac ad T M L F k = .inr (ci, (List.range n).map (mw_fv fk ad M L F ci k)) := by
  simp [mw_ce, h, show ¬ 11 + ci < 5 by omega, show ¬ 11 + ci = 5 by omega, show 11 + ci - 11 = ci by omega]
theorem mw_fld {ci k j n : Nat} (hj : j < n) : ((List.range n).map (mw_fv fk ad M L F ci k))[j]? = some (mw_fv fk ad M L F ci k j) := by
  simp [hj]
theorem mw_fvI {ci k j : Nat} (h : fk ci j = 0) : mw_fv fk ad M L F ci k j = .int (M k j) := by simp [mw_fv, h]
theorem mw_fvL {ci k j : Nat} (h : fk ci j = 1) : mw_fv fk ad M L F ci k j = .long (L k j) := by simp [mw_fv, h]
theorem mw_fvR {ci k j r : Nat} (h : fk ci j = 2) (hF : F k j = some r) : mw_fv fk ad M L F ci k j = .ref (ad r) := by simp [mw_fv, h, hF, va_rf]
/-- another list of cells that differs at one place alone -/
theorem mw_set {T' : Nat → Nat × Nat} {M' : Nat → Nat → Int32} {L' : Nat → Nat → Int64} {F' : Nat → Nat → Option Nat} {k : Nat} {e : va_E} (hk : k < N) (he : e = mw_ce fk ac ad T' M' L' F' k) (ho : ∀ i, i ≠ k → mw_ce fk ac ad T M L F i = mw_ce fk ac ad T' M' L' F' i) :
    (mw_l fk ac ad T M L F N).set k (ad k, e) = mw_l fk ac ad T' M' L' F' N := by
  apply List.ext_getElem?
  intro i
  by_cases hi : i < N
  · rw [mw_at hi, List.getElem?_set]
    by_cases hik : k = i
    · subst hik
      rw [if_pos rfl, if_pos (by rw [mw_len]; exact hk), he]
    · rw [if_neg hik, mw_at hi, ho i (fun q => hik q.symm)]
  · rw [List.getElem?_eq_none (by rw [List.length_set, mw_len]; omega), List.getElem?_eq_none (by rw [mw_len]; omega)]
theorem mw_ce_M {M' : Nat → Nat → Int32} {i : Nat} (h : M i = M' i) : mw_ce fk ac ad T M L F i = mw_ce fk ac ad T M' L F i := by
  have e : ∀ ci, mw_fv fk ad M L F ci i = mw_fv fk ad M' L F ci i := fun ci => by
    funext j
    simp only [mw_fv, h]
  simp only [mw_ce, h, e]
theorem mw_ce_L {L' : Nat → Nat → Int64} {i : Nat} (h : L i = L' i) : mw_ce fk ac ad T M L F i = mw_ce fk ac ad T M L' F i := by
  have e : ∀ ci, mw_fv fk ad M L F ci i = mw_fv fk ad M L' F ci i := fun ci => by
    funext j
    simp only [mw_fv, h]
  simp only [mw_ce, h, e]
theorem mw_ce_F {F' : Nat → Nat → Option Nat} {i : Nat} (h : F i = F' i) : mw_ce fk ac ad T M L F i = mw_ce fk ac ad T M L F' i := by
  have e : ∀ ci, mw_fv fk ad M L F ci i = mw_fv fk ad M L F' ci i := fun ci => by
    funext j
    simp only [mw_fv, h]
  simp only [mw_ce, h, e]
theorem mw_setA {k t n : Nat} {j : Nat} {x : Int32} (hk : k < N) (h : T k = (t, n)) (ht : t < 5) : (mw_l fk ac ad T M L F N).set k (ad k, .inl (ac t, n, .inl (upd (M k) j x))) = mw_l fk ac ad T (mset M k j x) L F N :=
  mw_set hk (by rw [mw_ceA h ht, mset_up]) (fun i hi => mw_ce_M (mset_rown hi).symm)
theorem mw_setL {k n : Nat} {j : Nat} {x : Int64} (hk : k < N) (h : T k = (5, n)) : (mw_l fk ac ad T M L F N).set k (ad k, .inl (ac 5, n, .inr (.inl (vp_updL (L k) j x)))) = mw_l fk ac ad T M (mset L k j x) F N :=
  mw_set hk (by rw [mw_ceL h, mset_upL]) (fun i hi => mw_ce_L (mset_rown hi).symm)
theorem mw_setR {k t n j r : Nat} (hk : k < N) (h : T k = (t, n)) (h5 : 5 < t) (h9 : t < 11) : (mw_l fk ac ad T M L F N).set k (ad k, .inl (ac t, n, .inr (.inr (.inr (.inr (va_up (fun j => (F k j).map ad) j (some (ad r)))))))) = mw_l fk ac ad T M L (mset F k j (some r)) N := by
  refine mw_set hk ?_ (fun i hi => mw_ce_F (mset_rown hi).symm)
  rw [mw_ceR h h5 h9]
  have e : va_up (fun j => (F k j).map ad) j (some (ad r)) = fun b => (mset F k j (some r) k b).map ad := by
    funext b
    by_cases hb : b = j
    · subst hb
      simp [va_up, mset]
    · simp [va_up, mset, hb]
  rw [e]
theorem mw_upd {α : Type} (f : Nat → α) (n j : Nat) (v : α) : ((List.range n).map f).set j v = (List.range n).map (fun b => if b = j then v else f b) := by
  apply List.ext_getElem?
  intro i
  rw [List.getElem?_set]
  by_cases hij : j = i
  · subst hij
    by_cases hj : j < n
    · simp [hj]
    · simp [hj]
  · rw [if_neg hij]
    by_cases hi : i < n
    · simp [hi, show ¬ i = j from fun q => hij q.symm]
    · simp [hi]
theorem mw_setOI {k ci n j : Nat} {x : Int32} (hk : k < N) (h : T k = (11 + ci, n)) (hf : fk ci j = 0) : (mw_l fk ac ad T M L F N).set k (ad k, .inr (ci, ((List.range n).map (mw_fv fk ad M L F ci k)).set j (.int x))) = mw_l fk ac ad T (mset M k j x) L F N := by
  refine mw_set hk ?_ (fun i hi => mw_ce_M (mset_rown hi).symm)
  rw [mw_ceO h, mw_upd]
  congr 3
  funext b
  by_cases hb : b = j
  · subst hb
    simp [mw_fv, hf, mset]
  · simp [mw_fv, mset, hb]
theorem mw_setOL {k ci n j : Nat} {x : Int64} (hk : k < N) (h : T k = (11 + ci, n)) (hf : fk ci j = 1) : (mw_l fk ac ad T M L F N).set k (ad k, .inr (ci, ((List.range n).map (mw_fv fk ad M L F ci k)).set j (.long x))) = mw_l fk ac ad T M (mset L k j x) F N := by
  refine mw_set hk ?_ (fun i hi => mw_ce_L (mset_rown hi).symm)
  rw [mw_ceO h, mw_upd]
  congr 3
  funext b
  by_cases hb : b = j
  · subst hb
    simp [mw_fv, hf, mset]
  · simp [mw_fv, mset, hb]
theorem mw_setOR {k ci n j r : Nat} (hk : k < N) (h : T k = (11 + ci, n)) (hf : fk ci j = 2) : (mw_l fk ac ad T M L F N).set k (ad k, .inr (ci, ((List.range n).map (mw_fv fk ad M L F ci k)).set j (.ref (ad r)))) = mw_l fk ac ad T M L (mset F k j (some r)) N := by
  refine mw_set hk ?_ (fun i hi => mw_ce_F (mset_rown hi).symm)
  rw [mw_ceO h, mw_upd]
  congr 3
  funext b
  by_cases hb : b = j
  · subst hb
    simp [mw_fv, hf, mset, va_rf]
  · simp [mw_fv, mset, hb]
end MWL
