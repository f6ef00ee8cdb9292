/-! one bit on the bus: what both sides keep -/
def s7 (f : Nat → Nat) : Nat := f 0 + f 1 + f 2 + f 3 + f 4 + f 5 + f 6
theorem s7_s {f : Nat → Nat} {n : Nat} (hn : n < 7) : s7 (nst f n (f n + 1)) = s7 f + 1 := by
  unfold s7 nst
  rcases (show n = 0 ∨ n = 1 ∨ n = 2 ∨ n = 3 ∨ n = 4 ∨ n = 5 ∨ n = 6 by omega) with rfl | rfl | rfl | rfl | rfl | rfl | rfl <;> simp <;> omega
theorem s7_le {f : Nat → Nat} {b : Nat} (h : ∀ n, n < 7 → f n ≤ b) : s7 f ≤ 7 * b := by
  have h0 := h 0 (by omega)
  have h1 := h 1 (by omega)
  have h2 := h 2 (by omega)
  have h3 := h 3 (by omega)
  have h4 := h 4 (by omega)
  have h5 := h 5 (by omega)
  have h6 := h 6 (by omega)
  unfold s7
  omega
theorem sI_shl (v : Nat) {s : Nat} (hs : s < 32) : sI v <<< (sI s &&& 31) = sI (v * 2 ^ s) := by
  apply Int32.toBitVec_inj.mp
  rw [Int32.toBitVec_shiftLeft]
  have h1 : ∀ s, s < 32 → ((sI s) &&& 31).toBitVec.smod 32 = BitVec.ofNat 32 s := by decide +kernel
  rw [h1 s hs]
  show BitVec.ofNat 32 v <<< BitVec.ofNat 32 s = BitVec.ofNat 32 (v * 2 ^ s)
  apply BitVec.eq_of_toNat_eq
  have h2 : (BitVec.ofNat 32 s).toNat = s := by rw [BitVec.toNat_ofNat]; omega
  show (BitVec.ofNat 32 v <<< (BitVec.ofNat 32 s).toNat).toNat = _
  rw [h2, BitVec.toNat_shiftLeft, BitVec.toNat_ofNat, BitVec.toNat_ofNat, Nat.shiftLeft_eq, Nat.mod_mul_mod]
theorem or_sh {k v s : Nat} (hs : s < 32) (hk : k < 2 ^ s) : sI k ||| (sI v <<< (sI s &&& 31)) = sI (k + v * 2 ^ s) := by
  rw [sI_shl v hs, sI_or]
  congr 1
  have := Nat.shiftLeft_add_eq_or_of_lt hk v
  rw [Nat.shiftLeft_eq] at this
  rw [Nat.or_comm]
  omega
theorem er_v {k n t : Nat} (hk : k < 8) (hn : n < 8) : (sI k ||| (sI n <<< ((3 : Int32) &&& 31))) ||| (sI t <<< ((6 : Int32) &&& 31)) = sI (k + 8 * n + 64 * t) := by
  have e1 : sI k ||| (sI n <<< ((3 : Int32) &&& 31)) = sI (k + n * 2 ^ 3) := or_sh (s := 3) (by omega) (by omega)
  have e2 : sI (k + n * 2 ^ 3) ||| (sI t <<< ((6 : Int32) &&& 31)) = sI (k + n * 2 ^ 3 + t * 2 ^ 6) := or_sh (s := 6) (by omega) (by omega)
  rw [e1, e2]
  congr 1
  omega
def ErR (A M : mwM) (E : Nat) : Prop := ∀ i, i < E → ∃ k n t, k < 8 ∧ n < 7 ∧ t < 20000 ∧ A 23 i = sI (k + 8 * n + 64 * t) ∧ M 845 i = sI k ∧ M 846 i = sI n ∧ M 847 i = sI t
def TnR (M : mwM) (tk : Nat) (tc : Nat → Nat) : Prop := ∃ tn : Nat → Nat, (∀ k, k < tk → M 839 k = sI (tn k) ∧ tn k < 7) ∧ ∀ n, n < 7 → cnt (fun k => decide (tn k = n)) tk = tc n
def BuG (A M : mwM) (N t F : Nat) (ow id : Nat → Nat) (oc : Nat → Nat → Nat) (dn ec tc : Nat → Nat) : Prop :=
  (1 ≤ N ∧ N ≤ 7 ∧ t < 20000) ∧ (A 20 8 = sI N ∧ M 821 1 = sI N ∧ M 821 2 = sI t) ∧ FrC A F ow id oc dn ∧ FrM M F ow id oc dn ∧ WC M F id oc ∧ CA M ∧
  (A 20 10 = sI (s7 ec) ∧ M 821 29 = sI (s7 ec) ∧ ErR A M (s7 ec)) ∧
  (A 20 11 = sI (cnt (fun f => decide (dn f = 1)) F) ∧ M 821 11 = sI (cnt (fun f => decide (dn f = 1)) F)) ∧
  (∀ n, n < 7 → A 30 n = sI (cnt (fun f => decide (ow f = n ∧ dn f = 0)) F) ∧ A 31 n = sI (tc n) ∧ M 834 n = 0 ∧ M 835 n = 0) ∧
  M 821 22 = sI (s7 tc) ∧ TnR M (s7 tc) tc ∧ (∀ n, n < 7 → 8 * ec n ≤ t + 8 ∧ 40 * tc n ≤ t + 1)
/-- a node that listens -/
def LiR (A M : mwM) (n K : Nat) (s : Nat → Nat) : Prop := 1 ≤ K ∧ K ≤ 900 ∧ s 0 = 0 ∧ (∀ i, i < K → s i < 2) ∧ Gd s K ∧ M 836 n = sI K ∧ (∀ i, i < K → M 837 (1200 * n + i) = sI (s i)) ∧ EaR A (47 + 2 * n) (hq s K) ∧ ∃ o0, OcR A (47 + 2 * n) (oq s o0 K)
def pgL (h : Nat → Nat) (K : Nat) : Nat := if h 1 = 2 ∧ h 6 = 9 then 0 else K
def NdR (A M : mwM) (F : Nat) (ow id : Nat → Nat) (oc : Nat → Nat → Nat) (dn : Nat → Nat) (n t ecn tcn : Nat) : Prop :=
  (A 25 n = sI 0 ∧ M 831 n = sI 0 ∧ 8 * ecn ≤ t ∧ 40 * tcn ≤ t) ∨
  (∃ f K, f < F ∧ ow f = n ∧ dn f = 0 ∧ A 25 n = sI 1 ∧ M 831 n = sI 1 ∧ A 27 n = sI f ∧ M 833 n = sI f ∧ A 28 n = sI K ∧ M 836 n = sI K ∧ 1 ≤ K ∧ K < wN (fbF (id f) (oc f)) + 10 ∧ WvR A n (fbF (id f) (oc f)) ∧ (∀ i, i < K → i < wN (fbF (id f) (oc f)) → M 837 (1200 * n + i) = sI (wR (fbF (id f) (oc f)) i)) ∧ 8 * ecn ≤ t ∧ 40 * tcn + K ≤ t) ∨
  (∃ s K, A 25 n = sI 2 ∧ M 831 n = sI 2 ∧ LiR A M n K s ∧ 8 * ecn ≤ t ∧ 40 * tcn + pgL (hq s K) K ≤ t) ∨
  (∃ st lf, 3 ≤ st ∧ st ≤ 6 ∧ A 25 n = sI st ∧ M 831 n = sI st ∧ (st ≠ 4 → A 26 n = sI lf ∧ M 832 n = sI lf ∧ 1 ≤ lf ∧ lf ≤ 7) ∧ (st = 3 → 8 * ecn ≤ t + 1 + lf) ∧ (st = 4 → 8 * ecn ≤ t + 1) ∧ (5 ≤ st → 8 * ecn ≤ t) ∧ 40 * tcn ≤ t)
/-- what a node's turn changes -/
def ndA (n : Nat) (A A' : mwM) : Prop := ∀ a y, ¬ ((25 ≤ a ∧ a ≤ 32 ∧ y = n) ∨ a = 34 + n ∨ a = 47 + 2 * n ∨ a = 48 + 2 * n ∨ (a = 20 ∧ (y = 10 ∨ y = 11 ∨ y = 12)) ∨ a = 23 ∨ a = 45) → A' a y = A a y
def ndM (n : Nat) (M M' : mwM) : Prop := ∀ a y, ¬ (((831 ≤ a ∧ a ≤ 833 ∨ a = 836) ∧ y = n) ∨ (a = 837 ∧ 1200 * n ≤ y ∧ y < 1200 * n + 1200) ∨ (a = 821 ∧ (y = 11 ∨ y = 22 ∨ y = 29 ∨ y = 34 ∨ y = 37 ∨ y = 38 ∨ (41 ≤ y ∧ y ≤ 46) ∨ (48 ≤ y ∧ y ≤ 50))) ∨ (828 ≤ a ∧ a ≤ 830) ∨ (839 ≤ a ∧ a ≤ 853)) → M' a y = M a y
theorem ndA_t {n : Nat} {A B C : mwM} (h1 : ndA n A B) (h2 : ndA n B C) : ndA n A C := fun a y u => (h2 a y u).trans (h1 a y u)
theorem ndM_t {n : Nat} {A B C : mwM} (h1 : ndM n A B) (h2 : ndM n B C) : ndM n A C := fun a y u => (h2 a y u).trans (h1 a y u)
theorem LiR_fr {A A' M M' : mwM} {n K : Nat} {s : Nat → Nat} (h : LiR A M n K s) (hA : ∀ a y, a = 47 + 2 * n ∨ a = 48 + 2 * n → A' a y = A a y) (hM : ∀ a y, (a = 836 ∧ y = n) ∨ (a = 837 ∧ 1200 * n ≤ y ∧ y < 1200 * n + 1200) → M' a y = M a y) : LiR A' M' n K s := by
  obtain ⟨h1, h2, h3, h4, h5, h6, h7, h8, o0, h9⟩ := h
  refine ⟨h1, h2, h3, h4, h5, by rw [hM 836 n (by omega)]; exact h6, fun i u => by rw [hM 837 _ (by omega)]; exact h7 i u, EaR_f h8 (fun y => hA _ y (by omega)), o0, OcR_f h9 (fun y => hA _ y (by omega))⟩
theorem WvR_fr {A A' : mwM} {n : Nat} {f : Nat → Nat} (h : WvR A n f) (hA : ∀ a y, a = 34 + n ∨ (a = 29 ∧ y = n) → A' a y = A a y) : WvR A' n f := by
  obtain ⟨h1, h2, h3⟩ := h
  exact ⟨fun i u => by rw [hA _ _ (by omega)]; exact h1 i u, fun i u1 u2 => by rw [hA _ _ (by omega)]; exact h2 i u1 u2, by rw [hA 29 n (by omega)]; exact h3⟩
/-- another node's turn -/
theorem NdR_o {A A' M M' : mwM} {F : Nat} {ow id : Nat → Nat} {oc : Nat → Nat → Nat} {dn dn' : Nat → Nat} {n m t ecn tcn : Nat} (hm : m ≠ n) (hn7 : n < 7) (hm7 : m < 7) (h : NdR A M F ow id oc dn m t ecn tcn) (hA : ndA n A A') (hM : ndM n M M') (hd : ∀ f, ow f ≠ n → dn' f = dn f) : NdR A' M' F ow id oc dn' m t ecn tcn := by
  have a : ∀ x, 25 ≤ x → x ≤ 32 → A' x m = A x m := fun x u1 u2 => hA x m (by omega)
  rcases h with ⟨h1, h2, h3, h4⟩ | ⟨f, K, f1, f2, f3, f4, f5, f6, f7, f8, f9, f10, f11, f12, f13, f14, f15⟩ | ⟨s, K, k1, k2, k3, k4, k5⟩ | ⟨st, lf, g1, g2, g3, g4, g5, g6, g7, g8, g9⟩
  · exact Or.inl ⟨by rw [a 25 (by omega) (by omega)]; exact h1, by rw [hM 831 m (by omega)]; exact h2, h3, h4⟩
  · refine Or.inr (Or.inl ⟨f, K, f1, f2, by rw [hd f (by omega)]; exact f3, by rw [a 25 (by omega) (by omega)]; exact f4, by rw [hM 831 m (by omega)]; exact f5, by rw [a 27 (by omega) (by omega)]; exact f6, by rw [hM 833 m (by omega)]; exact f7, by rw [a 28 (by omega) (by omega)]; exact f8, by rw [hM 836 m (by omega)]; exact f9, f10, f11, WvR_fr f12 (fun x y u => hA x y (by omega)), fun i u1 u2 => ?_, f14, f15⟩)
    have wb := wN_b (f := fbF (id f) (oc f)) (fbF_lt _ _)
    rw [hM 837 _ (by omega)]
    exact f13 i u1 u2
  · exact Or.inr (Or.inr (Or.inl ⟨s, K, by rw [a 25 (by omega) (by omega)]; exact k1, by rw [hM 831 m (by omega)]; exact k2, LiR_fr k3 (fun x y u => hA x y (by omega)) (fun x y u => hM x y (by omega)), k4, k5⟩))
  · refine Or.inr (Or.inr (Or.inr ⟨st, lf, g1, g2, by rw [a 25 (by omega) (by omega)]; exact g3, by rw [hM 831 m (by omega)]; exact g4, fun z => ?_, g6, g7, g8, g9⟩))
    rw [a 26 (by omega) (by omega), hM 832 m (by omega)]
    exact g5 z
