/-! one bit on the bus: what both sides keep -/
def s7 (f : Nat → Nat) : Nat := f 0 + f 1 + f 2 + f 3 + f 4 + f 5 + f 6
theorem s7_s {f : Nat → Nat} {n : Nat} (hn : n < 7) : s7 (nst f n (f n + 1)) = s7 f + 1 := by
  unfold s7 nst
  rcases (show n = 0 ∨ n = 1 ∨ n = 2 ∨ n = 3 ∨ n = 4 ∨ n = 5 ∨ n = 6 by omega) with rfl | rfl | rfl | rfl | rfl | rfl | rfl <;> simp <;> omega
theorem s7_le {f : Nat → Nat} {b : Nat} (h : ∀ n, n < 7 → f n ≤ b) : s7 f ≤ 7 * b := by
  have h0 := h 0 (by omega)
  have h1 := h 1 (by omega)
  have h2 := h 2 (by omega)
  have h3 := h 3 (by omega)
  have h4 := h 4 (by omega)
  have h5 := h 5 (by omega)
  have h6 := h 6 (by omega)
  unfold s7
  omega
theorem sI_shl (v : Nat) {s : Nat} (hs : s < 32) : sI v <<< (sI s &&& 31) = sI (v * 2 ^ s) := by
  apply Int32.toBitVec_inj.mp
  rw [Int32.toBitVec_shiftLeft]
  have h1 : ∀ s, s < 32 → ((sI s) &&& 31).toBitVec.smod 32 = BitVec.ofNat 32 s := by decide +kernel
  rw [h1 s hs]
  show BitVec.ofNat 32 v <<< BitVec.ofNat 32 s = BitVec.ofNat 32 (v * 2 ^ s)
  apply BitVec.eq_of_toNat_eq
  have h2 : (BitVec.ofNat 32 s).toNat = s := by rw [BitVec.toNat_ofNat]; omega
  show (BitVec.ofNat 32 v <<< (BitVec.ofNat 32 s).toNat).toNat = _
  rw [h2, BitVec.toNat_shiftLeft, BitVec.toNat_ofNat, BitVec.toNat_ofNat, Nat.shiftLeft_eq, Nat.mod_mul_mod]
theorem or_sh {k v s : Nat} (hs : s < 32) (hk : k < 2 ^ s) : sI k ||| (sI v <<< (sI s &&& 31)) = sI (k + v * 2 ^ s) := by
  rw [sI_shl v hs, sI_or]
  congr 1
  have := Nat.shiftLeft_add_eq_or_of_lt hk v
  rw [Nat.shiftLeft_eq] at this
  rw [Nat.or_comm]
  omega
theorem er_v {k n t : Nat} (hk : k < 8) (hn : n < 8) : (sI k ||| (sI n <<< ((3 : Int32) &&& 31))) ||| (sI t <<< ((6 : Int32) &&& 31)) = sI (k + 8 * n + 64 * t) := by
  have e1 : sI k ||| (sI n <<< ((3 : Int32) &&& 31)) = sI (k + n * 2 ^ 3) := or_sh (s := 3) (by omega) (by omega)
  have e2 : sI (k + n * 2 ^ 3) ||| (sI t <<< ((6 : Int32) &&& 31)) = sI (k + n * 2 ^ 3 + t * 2 ^ 6) := or_sh (s := 6) (by omega) (by omega)
  rw [e1, e2]
  congr 1
  omega
def ErR (A M : mwM) (E : Nat) : Prop := ∀ i, i < E → ∃ k n t, k < 8 ∧ n < 7 ∧ t < 20000 ∧ A 23 i = sI (k + 8 * n + 64 * t) ∧ M 845 i = sI k ∧ M 846 i = sI n ∧ M 847 i = sI t
def TnR (M : mwM) (tk : Nat) (tc : Nat → Nat) : Prop := ∃ tn : Nat → Nat, (∀ k, k < tk → M 839 k = sI (tn k) ∧ tn k < 7) ∧ ∀ n, n < 7 → cnt (fun k => decide (tn k = n)) tk = tc n
def BuG (A M : mwM) (N t F : Nat) (ow id : Nat → Nat) (oc : Nat → Nat → Nat) (dn ec tc : Nat → Nat) : Prop :=
  (1 ≤ N ∧ N ≤ 7 ∧ t < 20000) ∧ (A 20 8 = sI N ∧ M 821 1 = sI N ∧ M 821 2 = sI t) ∧ FrC A F ow id oc dn ∧ FrM M F ow id oc dn ∧ WC M F id oc ∧ CA M ∧
  (A 20 10 = sI (s7 ec) ∧ M 821 29 = sI (s7 ec) ∧ ErR A M (s7 ec)) ∧
  (A 20 11 = sI (cnt (fun f => decide (dn f = 1)) F) ∧ M 821 11 = sI (cnt (fun f => decide (dn f = 1)) F)) ∧
  (∀ n, n < 7 → A 30 n = sI (cnt (fun f => decide (ow f = n ∧ dn f = 0)) F) ∧ A 31 n = sI (tc n) ∧ M 834 n = 0 ∧ M 835 n = 0) ∧
  M 821 22 = sI (s7 tc) ∧ TnR M (s7 tc) tc ∧ (∀ n, n < 7 → 8 * ec n ≤ t + 8 ∧ 40 * tc n ≤ t + 1)
/-- a node that listens -/
def LiR (A M : mwM) (n K : Nat) (s : Nat → Nat) : Prop := 1 ≤ K ∧ K ≤ 900 ∧ s 0 = 0 ∧ (∀ i, i < K → s i < 2) ∧ Gd s K ∧ M 836 n = sI K ∧ (∀ i, i < K → M 837 (1200 * n + i) = sI (s i)) ∧ EaR A (47 + 2 * n) (hq s K) ∧ ∃ o0, OcR A (47 + 2 * n) (oq s o0 K)
def pgL (h : Nat → Nat) (K : Nat) : Nat := if h 1 = 2 ∧ h 6 = 9 then 0 else K
def NdR (A M : mwM) (F : Nat) (ow id : Nat → Nat) (oc : Nat → Nat → Nat) (dn : Nat → Nat) (n t ecn tcn : Nat) : Prop :=
  (A 25 n = sI 0 ∧ M 831 n = sI 0 ∧ 8 * ecn ≤ t ∧ 40 * tcn ≤ t) ∨
  (∃ f K, f < F ∧ ow f = n ∧ dn f = 0 ∧ A 25 n = sI 1 ∧ M 831 n = sI 1 ∧ A 27 n = sI f ∧ M 833 n = sI f ∧ A 28 n = sI K ∧ M 836 n = sI K ∧ 1 ≤ K ∧ K < wN (fbF (id f) (oc f)) + 10 ∧ WvR A n (fbF (id f) (oc f)) ∧ (∀ i, i < K → i < wN (fbF (id f) (oc f)) → M 837 (1200 * n + i) = sI (wR (fbF (id f) (oc f)) i)) ∧ 8 * ecn ≤ t ∧ 40 * tcn + K ≤ t) ∨
  (∃ s K, A 25 n = sI 2 ∧ M 831 n = sI 2 ∧ LiR A M n K s ∧ 8 * ecn ≤ t ∧ 40 * tcn + pgL (hq s K) K ≤ t) ∨
  (∃ st lf, 3 ≤ st ∧ st ≤ 6 ∧ A 25 n = sI st ∧ M 831 n = sI st ∧ (st ≠ 4 → A 26 n = sI lf ∧ M 832 n = sI lf ∧ 1 ≤ lf ∧ lf ≤ 7) ∧ (st = 3 → 8 * ecn ≤ t + 1 + lf) ∧ (st = 4 → 8 * ecn ≤ t + 1) ∧ (5 ≤ st → 8 * ecn ≤ t) ∧ 40 * tcn ≤ t)
/-- what a node's turn changes -/
def ndA (n : Nat) (A A' : mwM) : Prop := ∀ a y, ¬ ((25 ≤ a ∧ a ≤ 32 ∧ y = n) ∨ a = 34 + n ∨ a = 47 + 2 * n ∨ a = 48 + 2 * n ∨ (a = 20 ∧ (y = 10 ∨ y = 11 ∨ y = 12)) ∨ a = 23 ∨ a = 45) → A' a y = A a y
def ndM (n : Nat) (M M' : mwM) : Prop := ∀ a y, ¬ (((831 ≤ a ∧ a ≤ 833 ∨ a = 836) ∧ y = n) ∨ (a = 837 ∧ 1200 * n ≤ y ∧ y < 1200 * n + 1200) ∨ (a = 821 ∧ (y = 11 ∨ y = 22 ∨ y = 29 ∨ y = 34 ∨ y = 37 ∨ y = 38 ∨ (41 ≤ y ∧ y ≤ 46) ∨ (48 ≤ y ∧ y ≤ 50))) ∨ (828 ≤ a ∧ a ≤ 830) ∨ (839 ≤ a ∧ a ≤ 853)) → M' a y = M a y
theorem ndA_t {n : Nat} {A B C : mwM} (h1 : ndA n A B) (h2 : ndA n B C) : ndA n A C := fun a y u => (h2 a y u).trans (h1 a y u)
theorem ndM_t {n : Nat} {A B C : mwM} (h1 : ndM n A B) (h2 : ndM n B C) : ndM n A C := fun a y u => (h2 a y u).trans (h1 a y u)
theorem LiR_fr {A A' M M' : mwM} {n K : Nat} {s : Nat → Nat} (h : LiR A M n K s) (hA : ∀ a y, a = 47 + 2 * n ∨ a = 48 + 2 * n → A' a y = A a y) (hM : ∀ a y, (a = 836 ∧ y = n) ∨ (a = 837 ∧ 1200 * n ≤ y ∧ y < 1200 * n + 1200) → M' a y = M a y) : LiR A' M' n K s := by
  obtain ⟨h1, h2, h3, h4, h5, h6, h7, h8, o0, h9⟩ := h
  refine ⟨h1, h2, h3, h4, h5, by rw [hM 836 n (by omega)]; exact h6, fun i u => by rw [hM 837 _ (by omega)]; exact h7 i u, EaR_f h8 (fun y => hA _ y (by omega)), o0, OcR_f h9 (fun y => hA _ y (by omega))⟩
theorem WvR_fr {A A' : mwM} {n : Nat} {f : Nat → Nat} (h : WvR A n f) (hA : ∀ a y, a = 34 + n ∨ (a = 29 ∧ y = n) → A' a y = A a y) : WvR A' n f := by
  obtain ⟨h1, h2, h3⟩ := h
  exact ⟨fun i u => by rw [hA _ _ (by omega)]; exact h1 i u, fun i u1 u2 => by rw [hA _ _ (by omega)]; exact h2 i u1 u2, by rw [hA 29 n (by omega)]; exact h3⟩
/-- another node's turn -/
theorem NdR_o {A A' M M' : mwM} {F : Nat} {ow id : Nat → Nat} {oc : Nat → Nat → Nat} {dn dn' : Nat → Nat} {n m t ecn tcn : Nat} (hm : m ≠ n) (hn7 : n < 7) (hm7 : m < 7) (h : NdR A M F ow id oc dn m t ecn tcn) (hA : ndA n A A') (hM : ndM n M M') (hd : ∀ f, ow f ≠ n → dn' f = dn f) : NdR A' M' F ow id oc dn' m t ecn tcn := by
  have a : ∀ x, 25 ≤ x → x ≤ 32 → A' x m = A x m := fun x u1 u2 => hA x m (by omega)
  rcases h with ⟨h1, h2, h3, h4⟩ | ⟨f, K, f1, f2, f3, f4, f5, f6, f7, f8, f9, f10, f11, f12, f13, f14, f15⟩ | ⟨s, K, k1, k2, k3, k4, k5⟩ | ⟨st, lf, g1, g2, g3, g4, g5, g6, g7, g8, g9⟩
  · exact Or.inl ⟨by rw [a 25 (by omega) (by omega)]; exact h1, by rw [hM 831 m (by omega)]; exact h2, h3, h4⟩
  · refine Or.inr (Or.inl ⟨f, K, f1, f2, by rw [hd f (by omega)]; exact f3, by rw [a 25 (by omega) (by omega)]; exact f4, by rw [hM 831 m (by omega)]; exact f5, by rw [a 27 (by omega) (by omega)]; exact f6, by rw [hM 833 m (by omega)]; exact f7, by rw [a 28 (by omega) (by omega)]; exact f8, by rw [hM 836 m (by omega)]; exact f9, f10, f11, WvR_fr f12 (fun x y u => hA x y (by omega)), fun i u1 u2 => ?_, f14, f15⟩)
    have wb := wN_b (f := fbF (id f) (oc f)) (fbF_lt _ _)
    rw [hM 837 _ (by omega)]
    exact f13 i u1 u2
  · exact Or.inr (Or.inr (Or.inl ⟨s, K, by rw [a 25 (by omega) (by omega)]; exact k1, by rw [hM 831 m (by omega)]; exact k2, LiR_fr k3 (fun x y u => hA x y (by omega)) (fun x y u => hM x y (by omega)), k4, k5⟩))
  · refine Or.inr (Or.inr (Or.inr ⟨st, lf, g1, g2, by rw [a 25 (by omega) (by omega)]; exact g3, by rw [hM 831 m (by omega)]; exact g4, fun z => ?_, g6, g7, g8, g9⟩))
    rw [a 26 (by omega) (by omega), hM 832 m (by omega)]
    exact g5 z
/-! one bit on the bus: faults, and states without a frame -/
theorem FrC_fr {A A' : mwM} {F : Nat} {ow id : Nat → Nat} {oc : Nat → Nat → Nat} {dn : Nat → Nat} (h : FrC A F ow id oc dn) (hA : ∀ a y, (a = 20 ∧ y = 9) ∨ (43 ≤ a ∧ a ≤ 46) → A' a y = A a y) : FrC A' F ow id oc dn := by
  obtain ⟨h1, h2, h3⟩ := h
  refine ⟨by rw [hA 20 9 (by omega)]; exact h1, h2, fun f u => ?_⟩
  obtain ⟨a1, a2, a3, a4, a5, a6, a7⟩ := h3 f u
  exact ⟨by rw [hA 43 f (by omega)]; exact a1, a2, by rw [hA 44 f (by omega)]; exact a3, a4, by rw [hA 45 f (by omega)]; exact a5, a6, fun i w => by rw [hA 46 _ (by omega)]; exact a7 i w⟩
theorem FrM_fr {M M' : mwM} {F : Nat} {ow id : Nat → Nat} {oc : Nat → Nat → Nat} {dn : Nat → Nat} (h : FrM M F ow id oc dn) (hM : ∀ a y, (a = 821 ∧ y = 4) ∨ (823 ≤ a ∧ a ≤ 828) → M' a y = M a y) : FrM M' F ow id oc dn := by
  obtain ⟨h1, h2, h3⟩ := h
  refine ⟨by rw [hM 821 4 (by omega)]; exact h1, h2, fun f u => ?_⟩
  obtain ⟨a1, a2, a3, a4, a5, b1, b2, b3, b4⟩ := h3 f u
  exact ⟨by rw [hM 823 f (by omega)]; exact a1, a2, a3, by rw [hM 828 f (by omega)]; exact a4, a5, by rw [hM 824 f (by omega)]; exact b1, by rw [hM 825 f (by omega)]; exact b2, by rw [hM 826 f (by omega)]; exact b3, fun i w => by rw [hM 827 _ (by omega)]; exact b4 i w⟩
theorem WC_fr {M M' : mwM} {F : Nat} {id : Nat → Nat} {oc : Nat → Nat → Nat} (h : WC M F id oc) (hM : ∀ a y, (a = 821 ∧ (y = 37 ∨ y = 38 ∨ y = 50)) ∨ a = 849 ∨ a = 850 → M' a y = M a y) : WC M' F id oc := by
  rcases h with h | ⟨g, h1, h2, h3⟩
  · exact Or.inl (by rw [hM 821 50 (by omega)]; exact h)
  · exact Or.inr ⟨g, h1, by rw [hM 821 50 (by omega)]; exact h2, WrM_fr h3 (fun a y u => hM a y (by omega))⟩
theorem BuG_fr {A A' M M' : mwM} {N t F : Nat} {ow id : Nat → Nat} {oc : Nat → Nat → Nat} {dn ec tc : Nat → Nat} (h : BuG A M N t F ow id oc dn ec tc) (hA : ∀ a y, (a = 20 ∧ 8 ≤ y ∧ y ≤ 11) ∨ a = 23 ∨ a = 30 ∨ a = 31 ∨ (43 ≤ a ∧ a ≤ 46) → A' a y = A a y) (hM : ∀ a y, (a = 821 ∧ (y = 1 ∨ y = 2 ∨ y = 4 ∨ y = 11 ∨ y = 22 ∨ y = 29)) ∨ (823 ≤ a ∧ a ≤ 828) ∨ a = 834 ∨ a = 835 ∨ a = 839 ∨ (845 ≤ a ∧ a ≤ 847) → M' a y = M a y) (hW : WC M' F id oc) (hC : CA M') : BuG A' M' N t F ow id oc dn ec tc := by
  obtain ⟨h1, ⟨h2, h3, h4⟩, h5, h6, h7, h8, ⟨h9, h10, h11⟩, ⟨h12, h13⟩, h14, h15, ⟨tn, h16, h17⟩, h18⟩ := h
  refine ⟨h1, ⟨by rw [hA 20 8 (by omega)]; exact h2, by rw [hM 821 1 (by omega)]; exact h3, by rw [hM 821 2 (by omega)]; exact h4⟩, FrC_fr h5 (fun a y u => hA a y (by omega)), FrM_fr h6 (fun a y u => hM a y (by omega)), hW, hC, ⟨by rw [hA 20 10 (by omega)]; exact h9, by rw [hM 821 29 (by omega)]; exact h10, fun i u => ?_⟩, ⟨by rw [hA 20 11 (by omega)]; exact h12, by rw [hM 821 11 (by omega)]; exact h13⟩, fun n u => ?_, by rw [hM 821 22 (by omega)]; exact h15, ⟨tn, fun k u => by rw [hM 839 k (by omega)]; exact h16 k u, h17⟩, h18⟩
  · obtain ⟨k, n, tt, q1, q2, q3, q4, q5, q6, q7⟩ := h11 i u
    exact ⟨k, n, tt, q1, q2, q3, by rw [hA 23 i (by omega)]; exact q4, by rw [hM 845 i (by omega)]; exact q5, by rw [hM 846 i (by omega)]; exact q6, by rw [hM 847 i (by omega)]; exact q7⟩
  · obtain ⟨q1, q2, q3, q4⟩ := h14 n u
    exact ⟨by rw [hA 30 n (by omega)]; exact q1, by rw [hA 31 n (by omega)]; exact q2, by rw [hM 834 n (by omega)]; exact q3, by rw [hM 835 n (by omega)]; exact q4⟩
/-- what was taken, as both sides know it -/
def TkE (A M : mwM) (n k : Nat) : Prop := ∃ h o : Nat → Nat, EaR A (47 + 2 * n) h ∧ OcR A (47 + 2 * n) o ∧ h 11 < 2 ∧ h 12 < 2 ∧ h 13 < 2 ∧ h 14 < 16 ∧ h 16 = ocE (h 13) (h 11) (h 14) ∧ h 10 < 536870912 ∧ M 840 k = sI (h 10) ∧ M 841 k = sI (kdH h) ∧ M 842 k = sI (h 14) ∧ ∀ i, i < h 16 → M 844 (64 * k + i) = bt8 (o i)
def StQ (N t F : Nat) (ow id : Nat → Nat) (oc : Nat → Nat → Nat) (dn ec tc : Nat → Nat) (n : Nat) (A0 M0 : mwM) (Lc Lm : mwL) (oC oM : Option (mwM × mwL)) : Prop :=
  ∃ (A M : mwM) (dn' ec' tc' : Nat → Nat), oC = some (A, Lc) ∧ oM = some (M, Lm) ∧ (∃ o, OcR A (47 + 2 * n) o) ∧ BuG A M N t F ow id oc dn' ec' tc' ∧ NdR A M F ow id oc dn' n (t + 1) (ec' n) (tc' n) ∧ ndA n A0 A ∧ ndM n M0 M ∧ (∀ f, ow f ≠ n → dn' f = dn f) ∧ (∀ m, m ≠ n → ec' m = ec m ∧ tc' m = tc m) ∧ ((tc' n = tc n ∧ A 20 12 = A0 20 12) ∨ (tc' n = tc n + 1 ∧ A 20 12 = (A0 20 12) ||| (1 <<< (sI n &&& 31)) ∧ s7 tc' = s7 tc + 1 ∧ M 839 (s7 tc) = sI n ∧ TkE A M n (s7 tc))) ∧ (s7 tc' = s7 tc → ∀ a y, (839 ≤ a ∧ a ≤ 844) → M a y = M0 a y) ∧ (∀ a y, (839 ≤ a ∧ a ≤ 843) ∧ y < s7 tc ∨ a = 844 ∧ y < 64 * s7 tc → M a y = M0 a y)
theorem c_tellF {fu n k t E : Nat} {A : mwM} {L : mwL} (hn : n < 7) (hk : k < 8) (hE : A 20 10 = sI E) (hE2 : E < 17507) : DX0_tellFault fu (sI n) (sI k) (sI t) A L = some (mset (mset (mset (mset A 23 E (sI (k + 8 * n + 64 * t))) 20 10 (sI (E + 1))) 25 n 3) 26 n 6, L) := by
  unfold DX0_tellFault fX0_tellFault_b39 DX0_become
  simp only [mlet, mb2_id]
  rw [hE, if_neg (by rw [sI_lle (by decide) (by omega)]; omega), mck_s (by omega) (by omega), sI_nn (by omega), mck_s hn (by omega), mck_s hn (by omega), sI_nn (by omega), er_v hk (by omega), mset_n (by omega), hE, sI_1]
theorem nbk : ∀ k, k < 16 → vp_nar .byte (sI k).toInt8.toInt32 = sI k := by decide
theorem m_wrong12 {fu n k E : Nat} {M : mwM} {L : mwL} (hn : n < 7) (hk : k < 8) (hE : M 821 29 = sI E) (hE2 : E < 17600) : DX12_wrong fu (sI n) (sI k) M L = some (mset (mset (mset (mset (mset (mset M 845 E (sI k)) 846 E (sI n)) 847 E (M 821 2)) 821 29 (sI (E + 1))) 831 n 3) 832 n 6, L) := by
  unfold DX12_wrong
  simp only [mlet]
  simp (disch := omega) only [hE, mck_s, sI_nn, mset_n]
  rw [nbk k (by omega), nbk n (by omega), sI_1]
theorem st_fault {fu N t F n k : Nat} {ow id : Nat → Nat} {oc : Nat → Nat → Nat} {dn ec tc : Nat → Nat} {A0 M0 A M : mwM} {Lc Lm : mwL} (hn : n < 7) (hk : k < 8) (hG : BuG A M N t F ow id oc dn ec tc) (hA : ndA n A0 A) (hM : ndM n M0 M) (he : 8 * ec n ≤ t) (htc : 40 * tc n ≤ t + 1) (h12 : A 20 12 = A0 20 12) (hT : ∀ a y, (839 ≤ a ∧ a ≤ 844) → M a y = M0 a y) (hOc : ∃ o, OcR A (47 + 2 * n) o) : StQ N t F ow id oc dn ec tc n A0 M0 Lc Lm (DX0_tellFault fu (sI n) (sI k) (sI t) A Lc) (DX12_wrong fu (sI n) (sI k) M Lm) := by
  obtain ⟨h1, ⟨h2, h3, h4⟩, h5, h6, h7, h8, ⟨h9, h10, h11⟩, ⟨h12', h13⟩, h14, h15, ⟨tn, h16, h17⟩, h18⟩ := hG
  have eb : s7 ec ≤ 17500 := Nat.le_trans (s7_le (b := 2500) (fun m u => by have := (h18 m u).1; omega)) (by omega)
  rw [c_tellF hn hk h9 (by omega), m_wrong12 hn hk h10 (by omega), h4]
  generalize hA1 : mset (mset (mset (mset A 23 (s7 ec) (sI (k + 8 * n + 64 * t))) 20 10 (sI (s7 ec + 1))) 25 n 3) 26 n 6 = A1
  generalize hM1 : mset (mset (mset (mset (mset (mset M 845 (s7 ec) (sI k)) 846 (s7 ec) (sI n)) 847 (s7 ec) (sI t)) 821 29 (sI (s7 ec + 1))) 831 n 3) 832 n 6 = M1
  have fA : ∀ a y, ¬ (a = 23 ∧ y = s7 ec) → ¬ (a = 20 ∧ y = 10) → ¬ ((a = 25 ∨ a = 26) ∧ y = n) → A1 a y = A a y := fun a y u1 u2 u3 => by
    rw [← hA1, mset_n (by omega), mset_n (by omega), mset_n u2, mset_n u1]
  have fM : ∀ a y, ¬ (845 ≤ a ∧ a ≤ 847 ∧ y = s7 ec) → ¬ (a = 821 ∧ y = 29) → ¬ ((a = 831 ∨ a = 832) ∧ y = n) → M1 a y = M a y := fun a y u1 u2 u3 => by
    rw [← hM1]
    simp (disch := omega) only [mset_n]
  have vA : A1 23 (s7 ec) = sI (k + 8 * n + 64 * t) ∧ A1 20 10 = sI (s7 ec + 1) ∧ A1 25 n = sI 3 ∧ A1 26 n = sI 6 := by
    rw [← hA1]
    simp (disch := omega) only [mset_n, mset_s]
    exact ⟨(by first | trivial | rfl), (by first | trivial | rfl), (by first | trivial | rfl), (by first | trivial | rfl)⟩
  have vM : M1 845 (s7 ec) = sI k ∧ M1 846 (s7 ec) = sI n ∧ M1 847 (s7 ec) = sI t ∧ M1 821 29 = sI (s7 ec + 1) ∧ M1 831 n = sI 3 ∧ M1 832 n = sI 6 := by
    rw [← hM1]
    simp (disch := omega) only [mset_n, mset_s]
    exact ⟨(by first | trivial | rfl), (by first | trivial | rfl), (by first | trivial | rfl), (by first | trivial | rfl), (by first | trivial | rfl), (by first | trivial | rfl)⟩
  have se := s7_s (f := ec) hn
  refine ⟨A1, M1, dn, nst ec n (ec n + 1), tc, rfl, rfl, (by obtain ⟨o, ho⟩ := hOc; exact ⟨o, OcR_f ho (fun y => fA _ y (by omega) (by omega) (by omega))⟩), ⟨h1, ⟨by rw [fA 20 8 (by omega) (by omega) (by omega)]; exact h2, by rw [fM 821 1 (by omega) (by omega) (by omega)]; exact h3, by rw [fM 821 2 (by omega) (by omega) (by omega)]; exact h4⟩, FrC_fr h5 (fun a y u => fA a y (by omega) (by omega) (by omega)), FrM_fr h6 (fun a y u => fM a y (by omega) (by omega) (by omega)), WC_fr h7 (fun a y u => fM a y (by omega) (by omega) (by omega)), CA_fr h8 (fun a y u => fM a y (by omega) (by omega) (by omega)), ⟨by rw [se]; exact vA.2.1, by rw [se]; exact vM.2.2.2.1, fun i u => ?_⟩, ⟨by rw [fA 20 11 (by omega) (by omega) (by omega)]; exact h12', by rw [fM 821 11 (by omega) (by omega) (by omega)]; exact h13⟩, fun m u => ?_, by rw [fM 821 22 (by omega) (by omega) (by omega)]; exact h15, ⟨tn, fun j u => by rw [fM 839 j (by omega) (by omega) (by omega)]; exact h16 j u, h17⟩, fun m u => ?_⟩, ?_, ?_, ?_, fun _ _ => rfl, fun m u => ⟨nst_n u, rfl⟩, Or.inl ⟨rfl, by rw [fA 20 12 (by omega) (by omega) (by omega)]; exact h12⟩, fun _ a y u => ?_, fun a y u => ?_⟩
  · rw [se] at u
    by_cases z : i = s7 ec
    · rw [z]
      exact ⟨k, n, t, hk, hn, h1.2.2, vA.1, vM.1, vM.2.1, vM.2.2.1⟩
    · obtain ⟨k', n', tt, q1, q2, q3, q4, q5, q6, q7⟩ := h11 i (by omega)
      exact ⟨k', n', tt, q1, q2, q3, by rw [fA 23 i (by omega) (by omega) (by omega)]; exact q4, by rw [fM 845 i (by omega) (by omega) (by omega)]; exact q5, by rw [fM 846 i (by omega) (by omega) (by omega)]; exact q6, by rw [fM 847 i (by omega) (by omega) (by omega)]; exact q7⟩
  · obtain ⟨q1, q2, q3, q4⟩ := h14 m u
    exact ⟨by rw [fA 30 m (by omega) (by omega) (by omega)]; exact q1, by rw [fA 31 m (by omega) (by omega) (by omega)]; exact q2, by rw [fM 834 m (by omega) (by omega) (by omega)]; exact q3, by rw [fM 835 m (by omega) (by omega) (by omega)]; exact q4⟩
  · by_cases z : m = n
    · rw [z, nst_s]
      exact ⟨by omega, (h18 n hn).2⟩
    · rw [nst_n z]
      exact h18 m u
  · refine Or.inr (Or.inr (Or.inr ⟨3, 6, by omega, by omega, vA.2.2.1, vM.2.2.2.2.1, fun _ => ⟨vA.2.2.2, vM.2.2.2.2.2, by omega, by omega⟩, fun _ => by rw [nst_s]; omega, fun z => by omega, fun z => by omega, htc⟩))
  · exact ndA_t hA (fun a y u => fA a y (by omega) (by omega) (by omega))
  · exact ndM_t hM (fun a y u => fM a y (by omega) (by omega) (by omega))
  · rw [fM a y (by omega) (by omega) (by omega)]
    exact hT a y u
  · rw [fM a y (by omega) (by omega) (by omega)]
    exact hT a y (by omega)
/-! one bit on the bus: nodes without a frame -/
theorem st_calm {N t F n : Nat} {ow id : Nat → Nat} {oc : Nat → Nat → Nat} {dn ec tc : Nat → Nat} {A0 M0 A M : mwM} {Lc Lm : mwL} (hG : BuG A M N t F ow id oc dn ec tc) (hN : NdR A M F ow id oc dn n (t + 1) (ec n) (tc n)) (hA : ndA n A0 A) (hM : ndM n M0 M) (h12 : A 20 12 = A0 20 12) (hT : ∀ a y, (839 ≤ a ∧ a ≤ 844) → M a y = M0 a y) (hOc : ∃ o, OcR A (47 + 2 * n) o) : StQ N t F ow id oc dn ec tc n A0 M0 Lc Lm (some (A, Lc)) (some (M, Lm)) :=
  ⟨A, M, dn, ec, tc, rfl, rfl, hOc, hG, hN, hA, hM, fun _ _ => rfl, fun _ _ => ⟨rfl, rfl⟩, Or.inl ⟨rfl, h12⟩, fun _ a y u => hT a y u, fun a y u => hT a y (by omega)⟩
/-- own cells alone -/
def owA (n : Nat) (A A' : mwM) : Prop := ∀ a y, ¬ ((25 ≤ a ∧ a ≤ 29 ∨ a = 32) ∧ y = n) → a ≠ 34 + n → a ≠ 47 + 2 * n → a ≠ 48 + 2 * n → A' a y = A a y
def owM (n : Nat) (M M' : mwM) : Prop := ∀ a y, ¬ ((831 ≤ a ∧ a ≤ 833 ∨ a = 836) ∧ y = n) → ¬ (a = 837 ∧ 1200 * n ≤ y ∧ y < 1200 * n + 1200) → ¬ (a = 821 ∧ (y = 34 ∨ y = 37 ∨ y = 38 ∨ (41 ≤ y ∧ y ≤ 46) ∨ (48 ≤ y ∧ y ≤ 50))) → ¬ (848 ≤ a ∧ a ≤ 853) → M' a y = M a y
theorem st_own {N t F n : Nat} {ow id : Nat → Nat} {oc : Nat → Nat → Nat} {dn ec tc : Nat → Nat} {A0 M0 A M : mwM} {Lc Lm : mwL} (hn : n < 7) (hG : BuG A0 M0 N t F ow id oc dn ec tc) (hN : NdR A M F ow id oc dn n (t + 1) (ec n) (tc n)) (hA : owA n A0 A) (hM : owM n M0 M) (hW : WC M F id oc) (hC : CA M) (hOc : ∃ o, OcR A (47 + 2 * n) o) : StQ N t F ow id oc dn ec tc n A0 M0 Lc Lm (some (A, Lc)) (some (M, Lm)) := by
  refine st_calm (BuG_fr hG (fun a y u => hA a y (by omega) (by omega) (by omega) (by omega)) (fun a y u => hM a y (by omega) (by omega) (by omega) (by omega)) hW hC) hN (fun a y u => hA a y (by omega) (by omega) (by omega) (by omega)) (fun a y u => hM a y (by omega) (by omega) (by omega) (by omega)) (hA 20 12 (by omega) (by omega) (by omega) (by omega)) (fun a y u => hM a y (by omega) (by omega) (by omega) (by omega)) hOc
theorem oc_own {A A' : mwM} {n : Nat} (h : ∃ o, OcR A (47 + 2 * n) o) (u : ∀ y, A' (48 + 2 * n) y = A (48 + 2 * n) y) : ∃ o, OcR A' (47 + 2 * n) o := by
  obtain ⟨o, ho⟩ := h
  refine ⟨o, OcR_f ho (fun y => ?_)⟩
  have := u y
  rw [show 48 + 2 * n = 47 + 2 * n + 1 by omega] at this
  exact this
theorem sI_dec {lf : Nat} (h : 1 ≤ lf) : sI lf - 1 = sI (lf - 1) := sI_sub (b := 1) h
/-- flags: the class and the reference -/
theorem st_X3 {fu N t F n lf b : Nat} {ow id : Nat → Nat} {oc : Nat → Nat → Nat} {dn ec tc : Nat → Nat} {A M : mwM} {Lc Lm : mwL} (hn : n < 7) (hG : BuG A M N t F ow id oc dn ec tc) (hOc : ∃ o, OcR A (47 + 2 * n) o) (h25 : A 25 n = sI 3) (h831 : M 831 n = sI 3) (h26 : A 26 n = sI lf) (h832 : M 832 n = sI lf) (l1 : 1 ≤ lf) (l7 : lf ≤ 7) (pe : 8 * ec n ≤ t + 1 + lf) (pt : 40 * tc n ≤ t) : StQ N t F ow id oc dn ec tc n A M Lc Lm (DX0_see fu (sI n) (sI b) (sI t) A Lc) (DX12_sees fu (sI n) (sI b) M Lm) := by
  have hG' := hG
  obtain ⟨_, _, _, _, hW, hC, _⟩ := hG'
  unfold DX0_see fX0_see_b165 DX12_sees fX12_sees_b56 fX12_sees_b181 fX12_sees_b294
  simp only [mlet]
  simp (disch := omega) only [mck_s, sI_nn, h25, h831, h26, h832, mset_n, mset_s, sI_dec]
  simp (decide := true) only [ite_true, ite_false]
  by_cases c : lf = 1
  · rw [c]
    rw [if_pos (show sI (1 - 1) = 0 from rfl), if_pos (show sI (1 - 1) = 0 from rfl)]
    refine st_own hn hG (Or.inr (Or.inr (Or.inr ⟨4, 0, by omega, by omega, by rw [mset_s]; rfl, by rw [mset_s]; rfl, fun z => absurd rfl z, fun z => by omega, fun _ => by omega, fun z => by omega, by omega⟩))) (fun a y u1 u2 u3 u4 => by simp (disch := omega) only [mset_n]) (fun a y u1 u2 u3 u4 => by simp (disch := omega) only [mset_n]) (WC_fr hW (fun a y u => by simp (disch := omega) only [mset_n])) (CA_fr hC (fun a y u => by simp (disch := omega) only [mset_n])) (oc_own hOc (fun y => by simp (disch := omega) only [mset_n]))
  · have nz : ¬ sI (lf - 1) = 0 := by rw [sI_eql (by omega) (by decide)]; omega
    rw [if_neg nz, if_neg nz]
    refine st_own hn hG (Or.inr (Or.inr (Or.inr ⟨3, lf - 1, by omega, by omega, by rw [mset_n (by omega)]; exact h25, by rw [mset_s]; rfl, fun _ => ⟨mset_s, by rw [mset_n (by omega), mset_s], by omega, by omega⟩, fun _ => by omega, fun z => by omega, fun z => by omega, by omega⟩))) (fun a y u1 u2 u3 u4 => by simp (disch := omega) only [mset_n]) (fun a y u1 u2 u3 u4 => by simp (disch := omega) only [mset_n]) (WC_fr hW (fun a y u => by simp (disch := omega) only [mset_n])) (CA_fr hC (fun a y u => by simp (disch := omega) only [mset_n])) (oc_own hOc (fun y => by simp (disch := omega) only [mset_n]))
/-- which state -/
theorem c_see4 {fu n : Nat} {x y : Int32} {A : mwM} {L : mwL} (hn : n < 7) (h : A 25 n = sI 4) : DX0_see fu (sI n) x y A L = if x = 1 then DX0_become fu (sI n) 5 7 A L else some (A, L) := by
  unfold DX0_see fX0_see_b165
  rw [mck_s hn (by omega), sI_nn (by omega), h]
  simp only [mlet, mb2_id]
  rw [if_neg (show ¬ sI 4 = 0 by decide), if_neg (show ¬ sI 4 = 1 by decide), if_neg (show ¬ sI 4 = 2 by decide), if_neg (show ¬ sI 4 = 3 by decide), if_pos (show sI 4 = 4 from rfl)]
theorem c_see5 {fu n : Nat} {x y : Int32} {A : mwM} {L : mwL} (hn : n < 7) (h : A 25 n = sI 5) : DX0_see fu (sI n) x y A L = DX0_seeClearing fu (sI n) x y A L := by
  unfold DX0_see fX0_see_b165
  rw [mck_s hn (by omega), sI_nn (by omega), h]
  simp only [mlet, mb2_id]
  rw [if_neg (show ¬ sI 5 = 0 by decide), if_neg (show ¬ sI 5 = 1 by decide), if_neg (show ¬ sI 5 = 2 by decide), if_neg (show ¬ sI 5 = 3 by decide), if_neg (show ¬ sI 5 = 4 by decide), if_pos (show sI 5 = 5 from rfl)]
theorem c_see6 {fu n : Nat} {x y : Int32} {A : mwM} {L : mwL} (hn : n < 7) (h : A 25 n = sI 6) : DX0_see fu (sI n) x y A L = DX0_seePausing fu (sI n) x y A L := by
  unfold DX0_see fX0_see_b165
  rw [mck_s hn (by omega), sI_nn (by omega), h]
  simp only [mlet, mb2_id]
  rw [if_neg (show ¬ sI 6 = 0 by decide), if_neg (show ¬ sI 6 = 1 by decide), if_neg (show ¬ sI 6 = 2 by decide), if_neg (show ¬ sI 6 = 3 by decide), if_neg (show ¬ sI 6 = 4 by decide), if_neg (show ¬ sI 6 = 5 by decide)]
theorem c_see2 {fu n : Nat} {x y : Int32} {A : mwM} {L : mwL} (hn : n < 7) (h : A 25 n = sI 2) : DX0_see fu (sI n) x y A L = DX0_seeListening fu (sI n) x y A L := by
  unfold DX0_see fX0_see_b165
  rw [mck_s hn (by omega), sI_nn (by omega), h]
  simp only [mlet, mb2_id]
  rw [if_neg (show ¬ sI 2 = 0 by decide), if_neg (show ¬ sI 2 = 1 by decide), if_pos (show sI 2 = 2 from rfl)]
theorem c_see1 {fu n : Nat} {x y : Int32} {A : mwM} {L : mwL} (hn : n < 7) (h : A 25 n = sI 1) : DX0_see fu (sI n) x y A L = mb3 (DX0_isLosing fu (sI n) x A L) (fun r11 M9 L10 => if r11 = 0 then DX0_seeSending fu (sI n) x y M9 L10 else DX0_loseArbitration fu (sI n) M9 L10) := by
  unfold DX0_see fX0_see_b165
  rw [mck_s hn (by omega), sI_nn (by omega), h]
  simp only [mlet, mb2_id]
  rw [if_neg (show ¬ sI 1 = 0 by decide), if_pos (show sI 1 = 1 from rfl)]
theorem c_see0 {fu n : Nat} {x y : Int32} {A : mwM} {L : mwL} (hn : n < 7) (h : A 25 n = sI 0) : DX0_see fu (sI n) x y A L = if x = 0 then DX0_beginListening fu (sI n) A L else some (A, L) := by
  unfold DX0_see fX0_see_b165
  rw [mck_s hn (by omega), sI_nn (by omega), h]
  simp only [mlet, mb2_id]
  rw [if_pos (show sI 0 = 0 from rfl)]
theorem m_seesn {fu n st : Nat} {x : Int32} {M : mwM} {L : mwL} (hn : n < 7) (h : M 831 n = sI st) (h0 : st ≠ 0) (h9 : st < 100) : DX12_sees fu (sI n) x M L = fX12_sees_b56 fu (sI n) x M L := by
  unfold DX12_sees
  rw [mck_s (by omega) (by omega), sI_nn (by omega), h, if_neg (by rw [sI_eql (by omega) (by decide)]; exact h0)]
theorem m_b561 {fu n : Nat} {x : Int32} {M : mwM} {L : mwL} (hn : n < 7) (h : M 831 n = sI 1) : fX12_sees_b56 fu (sI n) x M L = DX12_sent fu (sI n) x M L := by
  unfold fX12_sees_b56 fX12_sees_b294
  rw [mck_s (by omega) (by omega), sI_nn (by omega), h, if_pos (show sI 1 = 1 from rfl), mb2_id]
theorem m_b562 {fu n : Nat} {x : Int32} {M : mwM} {L : mwL} (hn : n < 7) (h : M 831 n = sI 2) : fX12_sees_b56 fu (sI n) x M L = mb2 (DX12_see fu (sI n) x M L) (fun M22 L23 => mb3 (DX12_read fu (sI n) M22 L23) (fun r26 M24 L25 => if r26 = 10 then DX12_take fu (sI n) M24 L25 else if r26 = 11 then DX12_go fu (sI n) 6 3 M24 L25 else if r26 = -1 then some (M24, L25) else DX12_wrong fu (sI n) r26 M24 L25)) := by
  unfold fX12_sees_b56 fX12_sees_b139 fX12_sees_b294
  rw [mck_s (by omega) (by omega), sI_nn (by omega), h, if_neg (show ¬ sI 2 = 1 by decide), mck_s (by omega) (by omega), if_pos (show sI 2 = 2 from rfl)]
  simp only [mb2_id]
theorem m_b56x {fu n st : Nat} {x : Int32} {M : mwM} {L : mwL} (hn : n < 7) (h : M 831 n = sI st) (h3 : 4 ≤ st) (h6 : st ≤ 6) : fX12_sees_b56 fu (sI n) x M L = (if st = 4 then (if x = 1 then DX12_go fu (sI n) 5 7 (mset M 832 n (M 832 n - 1)) L else some (mset M 832 n (M 832 n - 1), L)) else if st = 5 then (if x = 0 then (if M 832 n - 1 = 0 then DX12_wrong fu (sI n) 5 (mset M 832 n (M 832 n - 1)) L else DX12_wrong fu (sI n) 2 (mset M 832 n (M 832 n - 1)) L) else (if M 832 n - 1 = 0 then DX12_go fu (sI n) 6 3 (mset M 832 n (M 832 n - 1)) L else some (mset M 832 n (M 832 n - 1), L))) else DX12_pauses fu (sI n) x (mset M 832 n (M 832 n - 1)) L) := by
  unfold fX12_sees_b56
  rw [mck_s (by omega) (by omega), sI_nn (by omega), h, if_neg (by rw [sI_eql (by omega) (by decide)]; omega), mck_s (by omega) (by omega), if_neg (by rw [sI_eql (by omega) (by decide)]; omega), mck_s (by omega) (by omega), mck_s (by omega) (by omega)]
  simp only [mlet]
  have hx : (mset M 832 n (M 832 n - 1)) 831 n = sI st := by rw [mset_n (by omega)]; exact h
  have hy : (mset M 832 n (M 832 n - 1)) 832 n = M 832 n - 1 := mset_s
  rw [mck_s (by omega) (by omega), hx, if_neg (by rw [sI_eql (by omega) (by decide)]; omega), mck_s (by omega) (by omega)]
  generalize mset M 832 n (M 832 n - 1) = X at *
  generalize M 832 n - 1 = v at *
  have b247 : fX12_sees_b247 fu (sI n) x X L = (if st = 5 then (if v = 0 then DX12_go fu (sI n) 6 3 X L else some (X, L)) else if st = 6 then DX12_pauses fu (sI n) x X L else some (X, L)) := by
    have b277 : fX12_sees_b277 fu (sI n) x X L = (if st = 6 then DX12_pauses fu (sI n) x X L else some (X, L)) := by
      unfold fX12_sees_b277 fX12_sees_b294
      rw [mck_s (by omega) (by omega), sI_nn (by omega), hx, mb2_id]
      by_cases c : st = 6
      · rw [if_pos (show sI st = 6 by rw [c]; rfl), if_pos c]
      · rw [if_neg (show ¬ sI st = 6 by rw [sI_eql (by omega) (by decide)]; exact c), if_neg c]
    unfold fX12_sees_b247 fX12_sees_b294
    rw [mck_s (by omega) (by omega), sI_nn (by omega), hx, mck_s (by omega) (by omega), hy, b277, mb2_id]
    by_cases c : st = 5
    · rw [if_pos (show sI st = 5 by rw [c]; rfl), if_pos c, if_neg (show ¬ st = 6 by omega)]
    · rw [if_neg (show ¬ sI st = 5 by rw [sI_eql (by omega) (by decide)]; exact c), if_neg c]
  have b211 : fX12_sees_b211 fu (sI n) x X L = (if st = 5 then (if x = 0 then (if v = 0 then DX12_wrong fu (sI n) 5 X L else DX12_wrong fu (sI n) 2 X L) else (if v = 0 then DX12_go fu (sI n) 6 3 X L else some (X, L))) else if st = 6 then DX12_pauses fu (sI n) x X L else some (X, L)) := by
    unfold fX12_sees_b211 fX12_sees_b241 fX12_sees_b294
    rw [mck_s (by omega) (by omega), sI_nn (by omega), hx, mck_s (by omega) (by omega), hy, b247, mb2_id, mb2_id]
    by_cases c : st = 5
    · rw [if_pos (show sI st = 5 by rw [c]; rfl), if_pos c, if_pos c]
    · rw [if_neg (show ¬ sI st = 5 by rw [sI_eql (by omega) (by decide)]; exact c), if_neg c, if_neg c]
  unfold fX12_sees_b294
  rw [b211, mb2_id]
  by_cases c4 : st = 4
  · rw [if_pos (show sI st = 4 by rw [c4]; rfl), if_pos c4, if_neg (show ¬ st = 5 by omega), if_neg (show ¬ st = 6 by omega)]
  · rw [if_neg (show ¬ sI st = 4 by rw [sI_eql (by omega) (by decide)]; exact c4), if_neg c4]
    by_cases c5 : st = 5
    · rw [if_pos c5, if_pos c5]
    · rw [if_neg c5, if_neg c5, if_pos (show st = 6 by omega)]
theorem st_X4 {fu N t F n b : Nat} {ow id : Nat → Nat} {oc : Nat → Nat → Nat} {dn ec tc : Nat → Nat} {A M : mwM} {Lc Lm : mwL} (hn : n < 7) (hb : b < 2) (hG : BuG A M N t F ow id oc dn ec tc) (hOc : ∃ o, OcR A (47 + 2 * n) o) (h25 : A 25 n = sI 4) (h831 : M 831 n = sI 4) (pe : 8 * ec n ≤ t + 1) (pt : 40 * tc n ≤ t) : StQ N t F ow id oc dn ec tc n A M Lc Lm (DX0_see fu (sI n) (sI b) (sI t) A Lc) (DX12_sees fu (sI n) (sI b) M Lm) := by
  have hG' := hG
  obtain ⟨_, _, _, _, hW, hC, _⟩ := hG'
  rw [c_see4 hn h25, m_seesn hn h831 (by omega) (by omega), m_b56x hn h831 (by omega) (by omega), if_pos rfl]
  unfold DX0_become DX12_go
  simp only [mlet]
  simp (disch := omega) only [mck_s, sI_nn]
  by_cases c : b = 1
  · have e : sI b = 1 := by rw [c]; rfl
    rw [if_pos e, if_pos e]
    refine st_own hn hG (Or.inr (Or.inr (Or.inr ⟨5, 7, by omega, by omega, by rw [mset_n (by omega), mset_s]; rfl, by rw [mset_n (by omega), mset_s]; rfl, fun _ => ⟨by rw [mset_s]; rfl, by rw [mset_s]; rfl, by omega, by omega⟩, fun z => by omega, fun z => by omega, fun _ => by omega, by omega⟩))) (fun a y u1 u2 u3 u4 => by simp (disch := omega) only [mset_n]) (fun a y u1 u2 u3 u4 => by simp (disch := omega) only [mset_n]) (WC_fr hW (fun a y u => by simp (disch := omega) only [mset_n])) (CA_fr hC (fun a y u => by simp (disch := omega) only [mset_n])) (oc_own hOc (fun y => by simp (disch := omega) only [mset_n]))
  · have e : ¬ sI b = 1 := by rw [sI_eql (by omega) (by decide)]; exact c
    rw [if_neg e, if_neg e]
    refine st_own hn hG (Or.inr (Or.inr (Or.inr ⟨4, 0, by omega, by omega, h25, by rw [mset_n (by omega)]; exact h831, fun z => absurd rfl z, fun z => by omega, fun _ => by omega, fun z => by omega, by omega⟩))) (fun a y u1 u2 u3 u4 => rfl) (fun a y u1 u2 u3 u4 => by simp (disch := omega) only [mset_n]) (WC_fr hW (fun a y u => by simp (disch := omega) only [mset_n])) (CA_fr hC (fun a y u => by simp (disch := omega) only [mset_n])) hOc
theorem st_X5 {fu N t F n lf b : Nat} {ow id : Nat → Nat} {oc : Nat → Nat → Nat} {dn ec tc : Nat → Nat} {A M : mwM} {Lc Lm : mwL} (hn : n < 7) (hb : b < 2) (hG : BuG A M N t F ow id oc dn ec tc) (hOc : ∃ o, OcR A (47 + 2 * n) o) (h25 : A 25 n = sI 5) (h831 : M 831 n = sI 5) (h26 : A 26 n = sI lf) (h832 : M 832 n = sI lf) (l1 : 1 ≤ lf) (l7 : lf ≤ 7) (pe : 8 * ec n ≤ t) (pt : 40 * tc n ≤ t) : StQ N t F ow id oc dn ec tc n A M Lc Lm (DX0_see fu (sI n) (sI b) (sI t) A Lc) (DX12_sees fu (sI n) (sI b) M Lm) := by
  have hG' := hG
  obtain ⟨_, _, _, _, hW, hC, _⟩ := hG'
  rw [c_see5 hn h25, m_seesn hn h831 (by omega) (by omega), m_b56x hn h831 (by omega) (by omega), if_neg (show ¬ 5 = 4 by decide), if_pos rfl, h832, sI_dec l1]
  unfold DX0_seeClearing fX0_seeClearing_b34 fX0_seeClearing_b60
  simp only [mlet, mb2_id]
  simp (disch := omega) only [mck_s, sI_nn, h26, mset_s, sI_dec]
  have g2 : BuG (mset A 26 n (sI (lf - 1))) (mset M 832 n (sI (lf - 1))) N t F ow id oc dn ec tc := BuG_fr hG (fun a y u => by simp (disch := omega) only [mset_n]) (fun a y u => by simp (disch := omega) only [mset_n]) (WC_fr hW (fun a y u => by simp (disch := omega) only [mset_n])) (CA_fr hC (fun a y u => by simp (disch := omega) only [mset_n]))
  by_cases c : b = 0
  · have e : sI b = 0 := by rw [c]; rfl
    rw [if_pos e, if_pos e]
    have flt : ∀ k, k < 8 → StQ N t F ow id oc dn ec tc n A M Lc Lm (DX0_tellFault fu (sI n) (sI k) (sI t) (mset A 26 n (sI (lf - 1))) Lc) (DX12_wrong fu (sI n) (sI k) (mset M 832 n (sI (lf - 1))) Lm) := fun k hk => st_fault hn hk g2 (fun a y u => by simp (disch := omega) only [mset_n]) (fun a y u => by simp (disch := omega) only [mset_n]) pe (by omega) (by simp (disch := omega) only [mset_n]) (fun a y u => by simp (disch := omega) only [mset_n]) (oc_own hOc (fun y => by simp (disch := omega) only [mset_n]))
    by_cases d : lf = 1
    · rw [d] at flt ⊢
      rw [if_pos (show sI (1 - 1) = 0 from rfl), if_pos (show sI (1 - 1) = 0 from rfl)]
      exact flt 5 (by omega)
    · have nz : ¬ sI (lf - 1) = 0 := by rw [sI_eql (by omega) (by decide)]; omega
      rw [if_neg nz, if_neg nz]
      exact flt 2 (by omega)
  · have e : ¬ sI b = 0 := by rw [sI_eql (by omega) (by decide)]; exact c
    rw [if_neg e, if_neg e]
    unfold DX0_become DX12_go
    simp only [mlet]
    simp (disch := omega) only [mck_s, sI_nn]
    by_cases d : lf = 1
    · rw [d]
      rw [if_pos (show sI (1 - 1) = 0 from rfl), if_pos (show sI (1 - 1) = 0 from rfl)]
      refine st_own hn hG (Or.inr (Or.inr (Or.inr ⟨6, 3, by omega, by omega, by rw [mset_n (by omega), mset_s]; rfl, by rw [mset_n (by omega), mset_s]; rfl, fun _ => ⟨by rw [mset_s]; rfl, by rw [mset_s]; rfl, by omega, by omega⟩, fun z => by omega, fun z => by omega, fun _ => by omega, by omega⟩))) (fun a y u1 u2 u3 u4 => by simp (disch := omega) only [mset_n]) (fun a y u1 u2 u3 u4 => by simp (disch := omega) only [mset_n]) (WC_fr hW (fun a y u => by simp (disch := omega) only [mset_n])) (CA_fr hC (fun a y u => by simp (disch := omega) only [mset_n])) (oc_own hOc (fun y => by simp (disch := omega) only [mset_n]))
    · have nz : ¬ sI (lf - 1) = 0 := by rw [sI_eql (by omega) (by decide)]; omega
      rw [if_neg nz, if_neg nz]
      refine st_own hn hG (Or.inr (Or.inr (Or.inr ⟨5, lf - 1, by omega, by omega, by rw [mset_n (by omega)]; exact h25, by rw [mset_n (by omega)]; exact h831, fun _ => ⟨mset_s, mset_s, by omega, by omega⟩, fun z => by omega, fun z => by omega, fun _ => by omega, by omega⟩))) (fun a y u1 u2 u3 u4 => by simp (disch := omega) only [mset_n]) (fun a y u1 u2 u3 u4 => by simp (disch := omega) only [mset_n]) (WC_fr hW (fun a y u => by simp (disch := omega) only [mset_n])) (CA_fr hC (fun a y u => by simp (disch := omega) only [mset_n])) (oc_own hOc (fun y => by simp (disch := omega) only [mset_n]))
/-! one bit on the bus: quiet nodes, and pauses -/
theorem c_beginL {fu n : Nat} {A : mwM} {L : mwL} (hn : n < 7) : wq (DX0_beginListening fu (sI n) A L) (fun z => z.2 = L ∧ z.1 25 n = sI 2 ∧ EaR z.1 (47 + 2 * n) h00 ∧ ∀ a y, a ≠ 47 + 2 * n → ¬ (a = 25 ∧ y = n) → z.1 a y = A a y) := by
  unfold DX0_beginListening
  rw [mck_s hn (by omega)]
  simp only [mlet, mb2_id]
  rw [mck_s hn (by omega), sI_nn (by omega)]
  refine wq_mono (c_begin5 (L := L)) ?_
  rintro z ⟨z1, z2, z3⟩
  refine ⟨z1, ?_, z2, fun a y u1 u2 => by rw [z3 a y u1, mset_n u2]⟩
  rw [z3 25 n (by omega), mset_s]
  rfl
theorem m_see12 {fu n K b : Nat} {M : mwM} {L : mwL} (hn : n < 7) (hK : M 836 n = sI K) (hK2 : K < 1200) (hb : b < 2) : DX12_see fu (sI n) (sI b) M L = some (mset (mset M 837 (1200 * n + K) (sI b)) 836 n (sI (K + 1)), L) := by
  unfold DX12_see
  simp only [mlet]
  rw [mck_s (by omega) (by omega), sI_nn (by omega), hK, sI_lml, sI_add, mck_s (by omega) (by omega), sI_nn (by omega), mck_s (by omega) (by omega), mck_s (by omega) (by omega), nb2 b hb, mset_n (by omega), hK, sI_1]
theorem fs_cnt {ow id dn : Nat → Nat} {oc : Nat → Nat → Nat} {n : Nat} : ∀ F, (fsF ow id oc dn n F = 0 ↔ cnt (fun f => decide (ow f = n ∧ dn f = 0)) F = 0) := by
  intro F
  induction F with
  | zero => exact ⟨fun _ => rfl, fun _ => rfl⟩
  | succ F ih =>
    rw [fsF_s]
    have cs : cnt (fun f => decide (ow f = n ∧ dn f = 0)) (F + 1) = cnt (fun f => decide (ow f = n ∧ dn f = 0)) F + (if (decide (ow F = n ∧ dn F = 0)) = true then 1 else 0) := rfl
    rw [cs]
    by_cases c : ow F = n ∧ dn F = 0
    · rw [if_pos c, decide_eq_true c, if_pos rfl]
      constructor
      · intro z
        exfalso
        split at z
        · omega
        · split at z
          · omega
          · contradiction
      · intro z
        omega
    · rw [if_neg c, decide_eq_false c, if_neg (by decide), Nat.add_zero]
      exact ih
/-- a node begins to listen: the first bit, 0, is heard -/
theorem Li_1 {A M : mwM} {n : Nat} (hE : EaR A (47 + 2 * n) h00) (hO : ∃ o, OcR A (47 + 2 * n) o) (h836 : M 836 n = sI 1) (h837 : M 837 (1200 * n) = sI 0) : LiR A M n 1 z0 := by
  obtain ⟨o, ho⟩ := hO
  refine ⟨by omega, by omega, rfl, fun i u => by show 0 < 2; omega, fun j u1 u2 => by omega, h836, fun i u => ?_, hE, o, ho⟩
  have : i = 0 := by omega
  rw [this]
  exact h837
theorem pg_1 : pgL (hq z0 1) 1 = 1 := by
  unfold pgL
  rw [if_neg]
  intro z
  have := z.1
  have e : hq z0 1 1 = 0 := rfl
  omega
theorem CaV_ex {s : Nat → Nat} {K : Nat} (hK : 1 ≤ K) (hK2 : K ≤ 1000) (h0 : s 0 = 0) (hs : ∀ i, i < K → s i < 2) (hg : Gd s (K - 1)) : ∃ E, CaV s K E := by
  obtain ⟨E, hE⟩ := HV_ex hK h0 hs hg
  exact ⟨E, hK, hK2, hs, hE⟩
theorem st_Q {fu N t F n b : Nat} {ow id : Nat → Nat} {oc : Nat → Nat → Nat} {dn ec tc : Nat → Nat} {A M : mwM} {Lc Lm : mwL} (hfu : 1300 ≤ fu) (hn : n < 7) (hb : b < 2) (hG : BuG A M N t F ow id oc dn ec tc) (hOc : ∃ o, OcR A (47 + 2 * n) o) (h25 : A 25 n = sI 0) (h831 : M 831 n = sI 0) (hfs : fsF ow id oc dn n F = 0) (pe : 8 * ec n ≤ t) (pt : 40 * tc n ≤ t) : StQ N t F ow id oc dn ec tc n A M Lc Lm (DX0_see fu (sI n) (sI b) (sI t) A Lc) (DX12_sees fu (sI n) (sI b) M Lm) := by
  have hG' := hG
  obtain ⟨_, _, _, hFM, hW, hC, _⟩ := hG'
  rw [c_see0 hn h25]
  unfold DX12_sees
  rw [mck_s (by omega) (by omega), sI_nn (by omega), h831, if_pos (show sI 0 = 0 from rfl), mck_s (by omega) (by omega)]
  simp only [mlet]
  obtain ⟨⟨r, M1, L1⟩, e1, y1, y2, y3, y4⟩ := m_first (fu := fu) (M := mset M 836 n 0) (L := Lm) (by omega) hn (FrM_fr hFM (fun a y u => by simp (disch := omega) only [mset_n]))
  dsimp only at y1 y2 y3 y4
  rw [hfs] at y1
  rw [y1] at e1
  rw [y2] at e1
  have hC1 : CA M1 := y4 (CA_fr hC (fun a y u => by simp (disch := omega) only [mset_n]))
  have fM : ∀ a y, ¬ (a = 836 ∧ y = n) → ¬ (a = 821 ∧ (y = 34 ∨ y = 48)) → a ≠ 848 → a ≠ 851 → M1 a y = M a y := fun a y u1 u2 u3 u4 => by rw [y3 a y u2 u3 u4, mset_n u1]
  have hW1 : WC M1 F id oc := WC_fr hW (fun a y u => fM a y (by omega) (by omega) (by omega) (by omega))
  rw [e1, mb3_s, if_pos (show fI 0 = -1 from rfl)]
  by_cases c : b = 1
  · have e : sI b = 1 := by rw [c]; rfl
    rw [if_neg (show ¬ sI b = 0 by rw [e]; decide), if_pos e]
    refine st_own hn hG (Or.inl ⟨h25, by rw [fM 831 n (by omega) (by omega) (by omega) (by omega)]; exact h831, by omega, by omega⟩) (fun _ _ _ _ _ _ => rfl) (fun a y u1 u2 u3 u4 => fM a y (by omega) (by omega) (by omega) (by omega)) hW1 hC1 hOc
  · have b0 : b = 0 := by omega
    subst b0
    rw [if_pos (show sI 0 = 0 from rfl), if_neg (show ¬ sI 0 = 1 by decide)]
    unfold fX12_sees_b33 fX12_sees_b48
    rw [if_pos (show fI 0 = -1 from rfl), mck_s (by omega) (by omega), sI_nn (by omega)]
    simp only [mlet]
    rw [mck_s (by omega) (by omega)]
    generalize hM2 : mset (mset M1 831 n 2) 833 n (fI 0) = M2
    have f2 : ∀ a y, ¬ ((a = 831 ∨ a = 833) ∧ y = n) → M2 a y = M1 a y := fun a y u => by rw [← hM2, mset_n (by omega), mset_n (by omega)]
    have v2 : M2 831 n = sI 2 := by rw [← hM2, mset_n (by omega), mset_s]; rfl
    have k0 : M2 836 n = sI 0 := by rw [f2 836 n (by omega), y3 836 n (by omega) (by omega) (by omega), mset_s]; rfl
    rw [m_b562 hn v2, m_see12 hn k0 (by omega) (by omega), mb2_s]
    generalize hM3 : mset (mset M2 837 (1200 * n + 0) (sI 0)) 836 n (sI (0 + 1)) = M3
    have f3 : ∀ a y, ¬ (a = 836 ∧ y = n) → ¬ (a = 837 ∧ y = 1200 * n) → M3 a y = M2 a y := fun a y u1 u2 => by rw [← hM3, mset_n u1, mset_n (by omega)]
    have v36 : M3 836 n = sI 1 := by rw [← hM3, mset_s]
    have v37 : M3 837 (1200 * n) = sI 0 := by rw [← hM3, mset_n (by omega)]; exact mset_s
    obtain ⟨E, hV⟩ := CaV_ex (s := z0) (K := 1) (by omega) (by omega) rfl (fun i u => by show 0 < 2; omega) (fun j u1 u2 => by omega)
    obtain ⟨⟨r2, M4, L4⟩, e4, w1, w2, w3, w4⟩ := m_read (fu := fu) (M := M3) (L := Lm) (s := z0) hfu hn v36 (fun i u => by rw [show i = 0 by omega, Nat.add_zero]; exact v37) rfl hV (fun j u1 u2 => by omega) (CA_fr hC1 (fun a y u => by rw [f3 a y (by omega) (by omega), f2 a y (by omega)]))
    dsimp only at w1 w2 w3 w4
    have rl : rLast z0 1 = 0 := rfl
    rw [rl] at w1
    rw [w1, w2] at e4
    rw [e4, mb3_s, if_neg (show ¬ rmI 0 = 10 by decide), if_neg (show ¬ rmI 0 = 11 by decide), if_pos (show rmI 0 = -1 from rfl)]
    obtain ⟨⟨A1, La⟩, ea, b1, b2, b3, b4⟩ := c_beginL (fu := fu) (A := A) (L := Lc) hn
    dsimp only at b1 b2 b3 b4
    rw [b1] at ea
    rw [ea]
    have g4 : ∀ a y, ¬ ((a = 831 ∨ a = 833 ∨ a = 836) ∧ y = n) → ¬ (a = 837 ∧ y = 1200 * n) → ¬ (a = 821 ∧ (y = 34 ∨ (41 ≤ y ∧ y ≤ 46) ∨ y = 48 ∨ y = 49)) → a ≠ 848 → a ≠ 851 → a ≠ 852 → a ≠ 853 → M4 a y = M a y := fun a y u1 u2 u3 u4 u5 u6 u7 => by
      rw [w3 a y (by omega) u4 u6 u7, f3 a y (by omega) u2, f2 a y (by omega), fM a y (by omega) (by omega) u4 u5]
    have hOc1 : ∃ o, OcR A1 (47 + 2 * n) o := oc_own hOc (fun y => b4 _ y (by omega) (by omega))
    refine st_own hn hG (Or.inr (Or.inr (Or.inl ⟨z0, 1, b2, ?_, Li_1 b3 hOc1 ?_ ?_, by omega, by rw [pg_1]; omega⟩))) (fun a y u1 u2 u3 u4 => b4 a y u3 (by omega)) (fun a y u1 u2 u3 u4 => g4 a y (by omega) (by omega) (by omega) (by omega) (by omega) (by omega) (by omega)) (WC_fr hW (fun a y u => g4 a y (by omega) (by omega) (by omega) (by omega) (by omega) (by omega) (by omega))) w4 hOc1
    · rw [w3 831 n (by omega) (by omega) (by omega) (by omega), f3 831 n (by omega) (by omega)]; exact v2
    · rw [w3 836 n (by omega) (by omega) (by omega) (by omega)]; exact v36
    · rw [w3 837 _ (by omega) (by omega) (by omega) (by omega)]; exact v37
theorem fb_0 (id : Nat) (oc : Nat → Nat) : fbF id oc 0 = 0 := rfl
theorem wR_0 (id : Nat) (oc : Nat → Nat) : wR (fbF id oc) 0 = 0 := by
  have wb := wN_b (f := fbF id oc) (fbF_lt _ _)
  unfold wR
  rw [if_pos (by omega)]
  have h1 : ¬ lyS (fbF id oc) 0 = 5 := by
    unfold lyS
    rw [fb_0]
    show ¬ (if 0 = 1 then 0 + 1 else 1) = 5
    simp
  have n1 := lyN_n h1
  have s := (ly_st (f := fbF id oc) 1 97 0 (by rw [n1]; show 0 < 0 + 1; omega)).1
  rw [show 1 + 97 = 98 by rfl] at s
  rw [s, (lyR_n h1).1]
  show nst z0 0 (fbF id oc 0) 0 = 0
  rw [nst_s, fb_0]
theorem st_X6 {fu N t F n lf b : Nat} {ow id : Nat → Nat} {oc : Nat → Nat → Nat} {dn ec tc : Nat → Nat} {A M : mwM} {Lc Lm : mwL} (hfu : 1300 ≤ fu) (hn : n < 7) (hb : b < 2) (hG : BuG A M N t F ow id oc dn ec tc) (hOc : ∃ o, OcR A (47 + 2 * n) o) (h25 : A 25 n = sI 6) (h831 : M 831 n = sI 6) (h26 : A 26 n = sI lf) (h832 : M 832 n = sI lf) (l1 : 1 ≤ lf) (l7 : lf ≤ 7) (pe : 8 * ec n ≤ t) (pt : 40 * tc n ≤ t) : StQ N t F ow id oc dn ec tc n A M Lc Lm (DX0_see fu (sI n) (sI b) (sI t) A Lc) (DX12_sees fu (sI n) (sI b) M Lm) := by
  have hG' := hG
  obtain ⟨_, _, hFC, hFM, hW, hC, _, _, h14, _⟩ := hG'
  rw [c_see6 hn h25, m_seesn hn h831 (by omega) (by omega), m_b56x hn h831 (by omega) (by omega), if_neg (show ¬ 6 = 4 by decide), if_neg (show ¬ 6 = 5 by decide), h832, sI_dec l1]
  unfold DX0_seePausing DX12_pauses fX0_seePausing_b37 fX0_seePausing_b69 fX0_seePausing_b101 fX12_pauses_b22 fX12_pauses_b90
  simp only [mlet, mb2_id]
  have waits := (h14 n hn).1
  rw [mck_s hn (by omega), mck_s hn (by omega), sI_nn (by omega), h26, sI_dec l1, mck_s hn (by omega), mset_s, mck_s (by omega) (by omega), mset_s]
  have g2 : BuG (mset A 26 n (sI (lf - 1))) (mset M 832 n (sI (lf - 1))) N t F ow id oc dn ec tc := BuG_fr hG (fun a y u => by simp (disch := omega) only [mset_n]) (fun a y u => by simp (disch := omega) only [mset_n]) (WC_fr hW (fun a y u => by simp (disch := omega) only [mset_n])) (CA_fr hC (fun a y u => by simp (disch := omega) only [mset_n]))
  by_cases c : b = 0
  · subst c
    rw [if_pos (show sI 0 = 0 from rfl), if_pos (show sI 0 = 0 from rfl), if_pos (show sI 0 = 0 from rfl), if_pos (show sI 0 = 0 from rfl), if_pos (show sI 0 = 0 from rfl)]
    by_cases d : lf = 1
    · subst d
      rw [if_pos (show sI (1 - 1) ≤ 0 by decide), if_pos (show sI (1 - 1) ≤ 0 by decide), mset_n (show ¬ (30 = 26 ∧ n = n) by omega), waits, mck_s (by omega) (by omega), mck_s (by omega) (by omega)]
      generalize hM1 : mset (mset M 832 n (sI (1 - 1))) 836 n 0 = M1
      have f1 : ∀ a y, ¬ ((a = 832 ∨ a = 836) ∧ y = n) → M1 a y = M a y := fun a y u => by rw [← hM1, mset_n (by omega), mset_n (by omega)]
      have k0 : M1 836 n = sI 0 := by rw [← hM1, mset_s]; rfl
      have se : DX12_see fu (sI n) 0 M1 Lm = some (mset (mset M1 837 (1200 * n + 0) (sI 0)) 836 n (sI (0 + 1)), Lm) := m_see12 (b := 0) hn k0 (by omega) (by omega)
      rw [se, mb2_s]
      generalize hM3 : mset (mset M1 837 (1200 * n + 0) (sI 0)) 836 n (sI (0 + 1)) = M3
      have f3 : ∀ a y, ¬ (a = 836 ∧ y = n) → ¬ (a = 837 ∧ y = 1200 * n) → M3 a y = M1 a y := fun a y u1 u2 => by rw [← hM3, mset_n u1, mset_n (by omega)]
      have v36 : M3 836 n = sI 1 := by rw [← hM3, mset_s]
      have v37 : M3 837 (1200 * n) = sI 0 := by rw [← hM3, mset_n (by omega)]; exact mset_s
      obtain ⟨⟨r, M4, L4⟩, e1, y1, y2, y3, y4⟩ := m_first (fu := fu) (M := M3) (L := Lm) (by omega) hn (FrM_fr hFM (fun a y u => by rw [f3 a y (by omega) (by omega), f1 a y (by omega)]))
      dsimp only at y1 y2 y3 y4
      rw [y1, y2] at e1
      rw [e1, mb3_s, mck_s (by omega) (by omega), mck_s (by omega) (by omega), mset_s]
      have hC4 : CA M4 := y4 (CA_fr hC (fun a y u => by rw [f3 a y (by omega) (by omega), f1 a y (by omega)]))
      have f4 : ∀ a y, ¬ ((a = 832 ∨ a = 836) ∧ y = n) → ¬ (a = 837 ∧ y = 1200 * n) → ¬ (a = 821 ∧ (y = 34 ∨ y = 48)) → a ≠ 848 → a ≠ 851 → M4 a y = M a y := fun a y u1 u2 u3 u4 u5 => by rw [y3 a y u3 u4 u5, f3 a y (by omega) u2, f1 a y (by omega)]
      have w36 : M4 836 n = sI 1 := by rw [y3 836 n (by omega) (by omega) (by omega)]; exact v36
      have w37 : M4 837 (1200 * n) = sI 0 := by rw [y3 837 _ (by omega) (by omega) (by omega)]; exact v37
      have le := (fsF_le (ow := ow) (id := id) (dn := dn) (oc := oc) (n := n) F)
      have hF := hFC.2.1
      have cle := cnt_le (fun f => decide (ow f = n ∧ dn f = 0)) F
      unfold fX12_pauses_b70 fX12_pauses_b90
      simp only [mlet]
      by_cases q : fsF ow id oc dn n F = 0
      · rw [(fs_cnt F).mp q, if_pos (show sI 0 ≤ 0 by decide), q, if_pos (show fI 0 = -1 from rfl), mck_s (by omega) (by omega), sI_nn (by omega)]
        obtain ⟨⟨A1, La⟩, ea, b1, b2, b3, b4⟩ := c_beginL (fu := fu) (A := mset A 26 n (sI (1 - 1))) (L := Lc) hn
        dsimp only at b1 b2 b3 b4
        rw [b1] at ea
        rw [ea]
        have hOc1 : ∃ o, OcR A1 (47 + 2 * n) o := oc_own hOc (fun y => by rw [b4 _ y (by omega) (by omega), mset_n (by omega)])
        refine st_own hn hG (Or.inr (Or.inr (Or.inl ⟨z0, 1, b2, by rw [mset_s]; rfl, Li_1 b3 hOc1 (by rw [mset_n (by omega), mset_n (by omega)]; exact w36) (by rw [mset_n (by omega), mset_n (by omega)]; exact w37), by omega, by rw [pg_1]; omega⟩))) (fun a y u1 u2 u3 u4 => by rw [b4 a y u3 (by omega), mset_n (by omega)]) (fun a y u1 u2 u3 u4 => by rw [mset_n (by omega), mset_n (by omega)]; exact f4 a y (by omega) (by omega) (by omega) (by omega) (by omega)) (WC_fr hW (fun a y u => by rw [mset_n (by omega), mset_n (by omega)]; exact f4 a y (by omega) (by omega) (by omega) (by omega) (by omega))) (CA_fr hC4 (fun a y u => by rw [mset_n (by omega), mset_n (by omega)])) hOc1
      · have cn : cnt (fun f => decide (ow f = n ∧ dn f = 0)) F ≠ 0 := fun z => q ((fs_cnt F).mpr z)
        obtain ⟨⟨A1, La⟩, ea, b1, b2, b3, b4, b5, b6⟩ := c_beginSending (fu := fu) (A := mset A 26 n (sI (1 - 1))) (L := Lc) (by omega) hn (FrC_fr hFC (fun a y u => by simp (disch := omega) only [mset_n])) q
        dsimp only at b1 b2 b3 b4 b5 b6
        rw [b1] at ea
        have ef : fI (fsF ow id oc dn n F) = sI (fsF ow id oc dn n F - 1) := if_neg q
        have em : ¬ sI (fsF ow id oc dn n F - 1) = -1 := fun z => sI_m1n (by omega) z.symm
        rw [if_neg (show ¬ sI (cnt (fun f => decide (ow f = n ∧ dn f = 0)) F) ≤ 0 by rw [sI_lel (by omega) (by decide)]; omega), ea, mb2_s, mck_s hn (by omega), ef, if_neg em, mck_s (by omega) (by omega), sI_nn (by omega)]
        have own := le.2 q
        generalize hg : fsF ow id oc dn n F - 1 = g at *
        have wb := wN_b (f := fbF (id g) (oc g)) (fbF_lt _ _)
        have hOc1 : ∃ o, OcR (mset A1 28 n 1) (47 + 2 * n) o := oc_own hOc (fun y => by rw [mset_n (by omega), b6 _ y (by omega) (by omega), mset_n (by omega)])
        refine st_own hn hG (Or.inr (Or.inl ⟨g, 1, by omega, own.1, own.2, by rw [mset_n (by omega)]; exact b2, by rw [mset_s]; rfl, by rw [mset_n (by omega)]; exact b3, by rw [mset_n (by omega), mset_s], by rw [mset_s]; rfl, by rw [mset_n (by omega), mset_n (by omega)]; exact w36, by omega, by omega, WvR_fr b5 (fun a y u => mset_n (by omega)), fun i u1 u2 => ?_, by omega, by omega⟩)) (fun a y u1 u2 u3 u4 => by rw [mset_n (by omega), b6 a y u2 (by omega), mset_n (by omega)]) (fun a y u1 u2 u3 u4 => by rw [mset_n (by omega), mset_n (by omega)]; exact f4 a y (by omega) (by omega) (by omega) (by omega) (by omega)) (WC_fr hW (fun a y u => by rw [mset_n (by omega), mset_n (by omega)]; exact f4 a y (by omega) (by omega) (by omega) (by omega) (by omega))) (CA_fr hC4 (fun a y u => by rw [mset_n (by omega), mset_n (by omega)])) hOc1
        have : i = 0 := by omega
        rw [this, Nat.add_zero, mset_n (by omega), mset_n (by omega), wR_0]
        exact w37
    · have nz : ¬ sI (lf - 1) ≤ 0 := by rw [sI_lel (by omega) (by decide)]; omega
      rw [if_neg nz, if_neg nz]
      have flt : StQ N t F ow id oc dn ec tc n A M Lc Lm (DX0_tellFault fu (sI n) (sI 5) (sI t) (mset A 26 n (sI (lf - 1))) Lc) (DX12_wrong fu (sI n) (sI 5) (mset M 832 n (sI (lf - 1))) Lm) := st_fault (k := 5) hn (by omega) g2 (fun a y u => by simp (disch := omega) only [mset_n]) (fun a y u => by simp (disch := omega) only [mset_n]) pe (by omega) (by simp (disch := omega) only [mset_n]) (fun a y u => by simp (disch := omega) only [mset_n]) (oc_own hOc (fun y => by simp (disch := omega) only [mset_n]))
      rw [mck_s (by omega) (by omega)]
      exact flt
  · have e : ¬ sI b = 0 := by rw [sI_eql (by omega) (by decide)]; exact c
    rw [if_neg e, if_neg e, if_neg e, if_neg e, if_neg e]
    simp (disch := omega) only [mck_s]
    by_cases d : lf = 1
    · subst d
      rw [if_pos (show sI (1 - 1) = 0 from rfl), if_pos (show sI (1 - 1) = 0 from rfl)]
      refine st_own hn hG (Or.inl ⟨by rw [mset_s]; rfl, by rw [mset_s]; rfl, by omega, by omega⟩) (fun a y u1 u2 u3 u4 => by simp (disch := omega) only [mset_n]) (fun a y u1 u2 u3 u4 => by simp (disch := omega) only [mset_n]) (WC_fr hW (fun a y u => by simp (disch := omega) only [mset_n])) (CA_fr hC (fun a y u => by simp (disch := omega) only [mset_n])) (oc_own hOc (fun y => by simp (disch := omega) only [mset_n]))
    · have nz : ¬ sI (lf - 1) = 0 := by rw [sI_eql (by omega) (by decide)]; omega
      rw [if_neg nz, if_neg nz]
      refine st_own hn hG (Or.inr (Or.inr (Or.inr ⟨6, lf - 1, by omega, by omega, by rw [mset_n (by omega)]; exact h25, by rw [mset_n (by omega)]; exact h831, fun _ => ⟨mset_s, mset_s, by omega, by omega⟩, fun z => by omega, fun z => by omega, fun _ => by omega, by omega⟩))) (fun a y u1 u2 u3 u4 => by simp (disch := omega) only [mset_n]) (fun a y u1 u2 u3 u4 => by simp (disch := omega) only [mset_n]) (WC_fr hW (fun a y u => by simp (disch := omega) only [mset_n])) (CA_fr hC (fun a y u => by simp (disch := omega) only [mset_n])) (oc_own hOc (fun y => by simp (disch := omega) only [mset_n]))
/-! one bit on the bus: a node that listens -/
theorem PI_id {p h : Nat → Nat} (hI : PI p h) : h 10 < 536870912 := by
  obtain ⟨i1, i2, i3, i4, i5, i6, i7, i8, i9, i10, _⟩ := PI_x.mp hI
  rw [i10]
  have n1 := num_lt (p := p) (a := 1) (min (h 5) 12 - 1) (fun i u1 u2 => i1 i (by omega))
  have l1 : 2 ^ (min (h 5) 12 - 1) ≤ 2 ^ 11 := Nat.pow_le_pow_right (by omega) (by omega)
  have j18 : jE (h 12) (h 5) ≤ 18 := by unfold jE; split <;> omega
  have n2 : num p 14 (jE (h 12) (h 5)) < 2 ^ jE (h 12) (h 5) := num_lt _ (fun i u1 u2 => i1 i (by unfold jE at u2; split at u2 <;> omega))
  have l2 : 2 ^ jE (h 12) (h 5) ≤ 2 ^ 18 := Nat.pow_le_pow_right (by omega) j18
  have l3 : num p 1 (min (h 5) 12 - 1) * 2 ^ jE (h 12) (h 5) ≤ 2047 * 2 ^ 18 := Nat.mul_le_mul (by omega) l2
  omega
theorem ED_e {s p h o : Nat → Nat} {e : Nat} (hD : ED s e p h o) : 34 ≤ e + (if h 13 = 1 then 27 else 0) ∧ e ≤ 720 ∧ h 17 < 100000 ∧ h 17 = h 15 + 4 + 8 * h 16 ∧ h 17 ≤ h 5 ∧ 22 ≤ e := by
  obtain ⟨⟨e1, e2, e3, e4, e5, e6, _⟩, hd⟩ := hD
  obtain ⟨_, _, _, _, _, _, _, _, _, _, b2, b3, b4, b5⟩ := PI_b e1
  have k17 : h 17 < 100000 := by
    by_cases y : h 17 < 100000
    · exact y
    · have := b3 (by omega)
      omega
  have kk := b2 k17
  have k15 := b5 (by omega)
  have f15 : h 13 = 1 → 18 ≤ h 15 := by
    intro z
    obtain ⟨i1, i2, i3, i4, i5, _⟩ := PI_x.mp e1
    by_cases w : atE (h 12) < h 5
    · rw [if_pos w] at i5
      unfold caE at i5
      have : 14 ≤ atE (h 12) := by unfold atE; split <;> omega
      rw [z] at i5
      omega
    · rw [if_neg w] at i5
      omega
  rcases hd with z | z
  · rw [if_pos z.1]
    have := f15 z.1
    omega
  · rw [if_neg (by omega)]
    omega
theorem Li_b {s : Nat → Nat} {K : Nat} (hK : 1 ≤ K) (h0 : s 0 = 0) (hs : ∀ i, i < K → s i < 2) (hg : Gd s K) : K ≤ 800 := by
  obtain ⟨e, b1, b2, b3, b4⟩ := BE_K z0 K hK h0 hs hg
  by_cases c : K < e
  · have := ES_5 (b3 K hK (by omega) c)
    omega
  · obtain ⟨i, rfl⟩ : ∃ i, K = e + i := ⟨K - e, by omega⟩
    have t := (b4 i (by omega)).1
    have := ED_e t.1
    have wb := Wd_b (hq s e)
    rcases t.2 with ⟨c1, c2, c3⟩ | ⟨c1, c2, c3, c4, c5⟩ | ⟨c1, g, c2, c3, c4, c5, c6⟩ <;> omega
/-- where a frame is taken -/
theorem tk_at {s : Nat → Nat} {K : Nat} (hK : 1 ≤ K) (h0 : s 0 = 0) (hs : ∀ i, i < K → s i < 2) (hg : Gd s K) (hr : rAll (s K) (hq s K) = 6) : 39 ≤ K ∧ hq s K 6 = 8 ∧ hq s K 1 = 2 ∧ ∀ o0 E, BE s o0 K E → E ≤ K := by
  have st : hq s K 1 ≠ 0 := fun z => by
    rw [(rAll_0 z).1] at hr
    exact rBody_6 hr
  have key : ∀ o0 E, BE s o0 K E → E ≤ K := fun o0 E hB => by
    by_cases c : E ≤ K
    · exact c
    · exact absurd (hB.2.2.1 K hK (by omega) (by omega)).2.1 st
  obtain ⟨e, hB⟩ := BE_K z0 K hK h0 hs hg
  have ek := key z0 e hB
  obtain ⟨i, hi⟩ : ∃ i, K = e + i := ⟨K - e, by omega⟩
  have t := (hB.2.2.2 i (by omega)).1
  rw [← hi] at t
  have ee := ED_e t.1
  have wb := Wd_b (hq s e)
  have r8 : ∀ h : Nat → Nat, h 1 = 2 → rAll (s K) h = 6 → h 6 = 8 := fun h h1 hr => by
    unfold rAll rTail at hr
    rw [if_neg (by omega), if_pos h1] at hr
    by_cases c1 : h 6 = 1
    · rw [if_pos c1] at hr; omega
    · rw [if_neg c1] at hr
      by_cases c2 : s K = 0
      · rw [if_pos c2] at hr
        split at hr <;> omega
      · rw [if_neg c2] at hr
        by_cases c3 : h 6 = 2 ∧ hRight h = false
        · rw [if_pos c3] at hr; omega
        · rw [if_neg c3] at hr
          by_cases c4 : h 6 = 8
          · exact c4
          · rw [if_neg c4] at hr
            split at hr <;> omega
  rcases t.2 with ⟨c1, c2, c3⟩ | ⟨c1, c2, c3, c4, c5⟩ | ⟨c1, g, c2, c3, c4, c5, c6⟩
  · have h1 : hq s K 1 = 2 := by
      rw [c2]
      show hq s e 1 = 2
      have := t.1.2
      omega
    have h8 := r8 _ h1 hr
    have h6 : hq s K 6 = i := by rw [c2, nst_s]
    rw [if_neg (by omega)] at ee
    exact ⟨by omega, h8, h1, key⟩
  · exfalso
    have e1 : rAll (s K) (hq s K) = rFix (s K) (hq s K) := if_pos c4
    rw [e1] at hr
    unfold rFix at hr
    split at hr
    · split at hr <;> omega
    · split at hr <;> omega
  · have h1 : hq s K 1 = 2 := by rw [c6]; exact c3
    have h8 := r8 _ h1 hr
    have h6 : hq s K 6 = i - Wd (hq s e) := by rw [c6, nst_s]
    exact ⟨by omega, h8, h1, key⟩
/-- behind the body its numbers stay -/
theorem ET_c {s p he h o : Nat → Nat} {e i : Nat} (hT : ET s e i p he h o) : h 10 = he 10 ∧ h 11 = he 11 ∧ h 12 = he 12 ∧ h 13 = he 13 ∧ h 14 = he 14 ∧ h 15 = he 15 ∧ h 16 = he 16 := by
  have fx : ∀ (g : Nat → Nat) (j : Nat), FX s e he g j → g 10 = he 10 ∧ g 11 = he 11 ∧ g 12 = he 12 ∧ g 13 = he 13 ∧ g 14 = he 14 ∧ g 15 = he 15 ∧ g 16 = he 16 := fun g j hF => by
    have f := hF.2.2.2.2.2.2.2
    exact ⟨f 10 (by omega) (by omega) (by omega) (by omega) (by omega) (by omega) (by omega), f 11 (by omega) (by omega) (by omega) (by omega) (by omega) (by omega) (by omega), f 12 (by omega) (by omega) (by omega) (by omega) (by omega) (by omega) (by omega), f 13 (by omega) (by omega) (by omega) (by omega) (by omega) (by omega) (by omega), f 14 (by omega) (by omega) (by omega) (by omega) (by omega) (by omega) (by omega), f 15 (by omega) (by omega) (by omega) (by omega) (by omega) (by omega) (by omega), f 16 (by omega) (by omega) (by omega) (by omega) (by omega) (by omega) (by omega)⟩
  rcases hT.2 with ⟨c1, c2, c3⟩ | ⟨c1, c2, c3, c4, c5⟩ | ⟨c1, g, c2, c3, c4, c5, c6⟩
  · rw [c2]
    exact ⟨rfl, rfl, rfl, rfl, rfl, rfl, rfl⟩
  · exact fx h i c3
  · rw [c6]
    exact fx g _ c2
theorem cnt_s1 {tn : Nat → Nat} {T n m : Nat} : cnt (fun k => decide (nst tn T n k = m)) (T + 1) = cnt (fun k => decide (tn k = m)) T + (if n = m then 1 else 0) := by
  have e : cnt (fun k => decide (nst tn T n k = m)) (T + 1) = cnt (fun k => decide (nst tn T n k = m)) T + (if decide (nst tn T n T = m) = true then 1 else 0) := rfl
  rw [e, nst_s, cnt_congr (q := fun k => decide (tn k = m)) (fun i u => by rw [nst_n (by omega)])]
  by_cases c : n = m
  · rw [if_pos c, decide_eq_true c, if_pos rfl]
  · rw [if_neg c, decide_eq_false c, if_neg (by decide)]
theorem st_L {fu N t F n K b : Nat} {s : Nat → Nat} {ow id : Nat → Nat} {oc : Nat → Nat → Nat} {dn ec tc : Nat → Nat} {A M : mwM} {Lc Lm : mwL} (hfu : 1300 ≤ fu) (hn : n < 7) (hb : b < 2) (hG : BuG A M N t F ow id oc dn ec tc) (h25 : A 25 n = sI 2) (h831 : M 831 n = sI 2) (hL : LiR A M n K s) (pe : 8 * ec n ≤ t) (pt : 40 * tc n + pgL (hq s K) K ≤ t) : StQ N t F ow id oc dn ec tc n A M Lc Lm (DX0_see fu (sI n) (sI b) (sI t) A Lc) (DX12_sees fu (sI n) (sI b) M Lm) := by
  have hG' := hG
  obtain ⟨g1, ⟨g2, g3, g4⟩, g5, g6, hW, hC, ⟨g9, g10, g11⟩, ⟨g12, g13⟩, g14, g15, ⟨tn, g16, g17⟩, g18⟩ := hG'
  obtain ⟨k1, k2, k3, k4, k5, k6, k7, k8, o0, k9⟩ := hL
  -- the row with the new bit
  obtain ⟨u, hu⟩ : ∃ u, u = nst s K b := ⟨_, rfl⟩
  have uK : u K = b := by rw [hu, nst_s]
  have ui : ∀ i, i < K → u i = s i := fun i w => by rw [hu, nst_n (by omega)]
  have uc : ∀ j, j ≤ K → hq u j = hq s j ∧ pq u j = pq s j ∧ oq u o0 j = oq s o0 j := fun j w => hq_c j (fun i v => ui i (by omega))
  have uq := uc K (Nat.le_refl K)
  have u0 : u 0 = 0 := by rw [ui 0 (by omega)]; exact k3
  have ub : ∀ i, i ≤ K → u i < 2 := fun i w => by
    by_cases z : i = K
    · rw [z, uK]; exact hb
    · rw [ui i (by omega)]; exact k4 i (by omega)
  have ug : Gd u K := fun j w1 w2 => by rw [ui j w2, (uc j (by omega)).1]; exact k5 j w1 w2
  rw [← uq.1] at k8 pt
  rw [← uq.2.2] at k9
  have k800 := Li_b k1 u0 (fun i w => ub i (by omega)) ug
  rw [← uK]
  -- the class
  rw [c_see2 hn h25, m_seesn hn h831 (by omega) (by omega), m_b562 hn h831]
  unfold DX0_seeListening fX0_seeListening_b79
  rw [mck_s hn (by omega), sI_nn (by omega)]
  simp only [mb2_id]
  obtain ⟨⟨r1, A1, L1⟩, ea, a1, a2, a3, a4, a5⟩ := c_hearK (fu := fu) (L := Lc) k8 k9 k1 u0 ub ug
  dsimp only at a1 a2 a3 a4 a5
  rw [a1, a2] at ea
  rw [ea, mb3_s]
  -- the reference
  rw [m_see12 hn k6 (by omega) (ub K (Nat.le_refl K)), mb2_s]
  generalize hM1 : mset (mset M 837 (1200 * n + K) (sI (u K))) 836 n (sI (K + 1)) = M1
  have f1 : ∀ a y, ¬ (a = 836 ∧ y = n) → ¬ (a = 837 ∧ y = 1200 * n + K) → M1 a y = M a y := fun a y w1 w2 => by rw [← hM1, mset_n w1, mset_n w2]
  have v36 : M1 836 n = sI (K + 1) := by rw [← hM1, mset_s]
  have v37 : ∀ i, i < K + 1 → M1 837 (1200 * n + i) = sI (u i) := fun i w => by
    by_cases z : i = K
    · rw [z, ← hM1, mset_n (by omega), mset_s]
    · rw [f1 837 _ (by omega) (by omega), ui i (by omega)]
      exact k7 i (by omega)
  obtain ⟨E, hV⟩ := CaV_ex (s := u) (K := K + 1) (by omega) (by omega) u0 (fun i w => ub i (by omega)) ug
  obtain ⟨⟨r2, M2, L2⟩, em, b1, b2, b3, b4⟩ := m_read (fu := fu) (M := M1) (L := Lm) (s := u) hfu hn v36 v37 u0 hV ug (CA_fr hC (fun a y w => f1 a y (by omega) (by omega)))
  dsimp only at b1 b2 b3 b4
  have rl : rLast u (K + 1) = rAll (u K) (hq u K) := by
    unfold rLast
    rw [if_neg (by omega), Nat.add_sub_cancel]
  rw [rl] at b1
  rw [b1, b2] at em
  rw [em, mb3_s]
  generalize hr : rAll (u K) (hq u K) = r at *
  have fM2 : ∀ a y, ¬ (a = 836 ∧ y = n) → ¬ (a = 837 ∧ y = 1200 * n + K) → ¬ (a = 821 ∧ (y = 34 ∨ (41 ≤ y ∧ y ≤ 46) ∨ y = 48 ∨ y = 49)) → a ≠ 848 → a ≠ 852 → a ≠ 853 → M2 a y = M a y := fun a y w1 w2 w3 w4 w5 w6 => by rw [b3 a y w3 w4 w5 w6, f1 a y w1 w2]
  have v36' : M2 836 n = sI (K + 1) := by rw [b3 836 n (by omega) (by omega) (by omega) (by omega)]; exact v36
  have v37' : ∀ i, i < K + 1 → M2 837 (1200 * n + i) = sI (u i) := fun i w => by rw [b3 837 _ (by omega) (by omega) (by omega) (by omega)]; exact v37 i w
  have hW2 : WC M2 F id oc := WC_fr hW (fun a y w => fM2 a y (by omega) (by omega) (by omega) (by omega) (by omega) (by omega))
  have hG2 : BuG A1 M2 N t F ow id oc dn ec tc := BuG_fr hG (fun a y w => a5 a y (by omega) (by omega)) (fun a y w => fM2 a y (by omega) (by omega) (by omega) (by omega) (by omega) (by omega)) hW2 b4
  have hA1 : ndA n A A1 := fun a y w => a5 a y (by omega) (by omega)
  have hM2 : ndM n M M2 := fun a y w => fM2 a y (by omega) (by omega) (by omega) (by omega) (by omega) (by omega)
  have rb : r < 8 := by
    rw [← hr]
    unfold rAll
    split
    · unfold rFix
      split
      · split <;> omega
      · split <;> omega
    · split
      · unfold rTail
        split
        · omega
        · split
          · split <;> omega
          · split
            · omega
            · split
              · omega
              · split <;> omega
      · unfold rBody
        split
        · split <;> omega
        · by_cases z : u K = 1 ∧ hPl0 (u K) (hq u K) 13 = 1 ∧ hq u K 5 = (if hPl0 (u K) (hq u K) 12 = 1 then 34 else 15)
          · rw [if_pos z]; omega
          · rw [if_neg z]; omega
  have li : r = 0 ∨ r = 6 → LiR A1 M2 n (K + 1) u := fun z => by
    obtain ⟨e1, e2⟩ := a3 z
    refine ⟨by omega, ?_, u0, fun i w => ub i (by omega), fun j w1 w2 => ?_, v36', v37', e1, o0, e2⟩
    · omega
    · by_cases y : j = K
      · rw [y, hr]; exact z
      · exact ug j w1 (by omega)
  have pgK : r = 0 ∨ r = 6 → pgL (hq u K) K = K := fun z => by
    unfold pgL
    rw [if_neg]
    intro y
    have : rAll (u K) (hq u K) = 5 ∨ rAll (u K) (hq u K) = 7 := by
      unfold rAll
      rw [if_neg (by omega), if_pos y.1]
      exact rTail_9 y.2
    omega
  have ptc : 40 * tc n ≤ t := by omega
  by_cases c6 : r = 6
  · -- taken
    rw [c6] at hr
    obtain ⟨t1, t2, t3, t4⟩ := tk_at k1 u0 (fun i w => ub i (by omega)) ug hr
    have pk := pgK (Or.inr c6)
    have li6 := li (Or.inr c6)
    obtain ⟨EA, OA⟩ := a3 (Or.inr c6)
    subst c6
    rw [if_pos (show rI 6 = -2 from rfl), if_pos (show rmI 6 = 10 from rfl), mck_s hn (by omega), mck_s hn (by omega)]
    simp only [mlet]
    rw [mset_n (show ¬ (20 = 31 ∧ 12 = n) by omega), a5 31 n (by omega) (by omega), (g14 n hn).2.1, sI_1, a5 20 12 (by omega) (by omega)]
    have EK : E ≤ K := by
      have hHV := hV.2.2.2
      by_cases c : E ≤ K
      · exact c
      · exfalso
        have := (hHV.2.2.1 K k1 (by omega) (by omega)).2.1
        omega
    obtain ⟨⟨M3, L3⟩, et, d1, d2, d3⟩ := m_take12 (fu := fu) (M := M2) (L := Lm) (s := u) hfu hn v36' v37' u0 hV (by omega) ug b4 (by rw [fM2 834 n (by omega) (by omega) (by omega) (by omega) (by omega) (by omega)]; exact (g14 n hn).2.2.1) (by rw [fM2 835 n (by omega) (by omega) (by omega) (by omega) (by omega) (by omega)]; exact (g14 n hn).2.2.2) (show M2 821 22 = sI (s7 tc) by rw [fM2 821 22 (by omega) (by omega) (by omega) (by omega) (by omega) (by omega)]; exact g15) (by
      have := s7_le (f := tc) (b := 500) (fun m w => by have := (g18 m w).2; omega)
      omega)
    dsimp only at d1 d2 d3
    rw [d1] at et
    rw [et]
    obtain ⟨p1, p2, p3, p4, p5, p6, p7, p8⟩ := d2
    have fA : ∀ a y, ¬ (a = 31 ∧ y = n) → ¬ (a = 20 ∧ y = 12) → mset (mset A1 31 n (sI (tc n + 1))) 20 12 (A 20 12 ||| (1 <<< (sI n &&& 31))) a y = A1 a y := fun a y w1 w2 => by rw [mset_n w2, mset_n w1]
    have ts := s7_s (f := tc) hn
    -- what both know of it
    obtain ⟨e, hB⟩ := BE_K o0 K k1 u0 (fun i w => ub i (by omega)) ug
    have ek := t4 o0 e hB
    have eE : e = E := by
      have hv1 : HV u (K + 1) e := by
        refine ⟨hB.1, by omega, fun j w1 w2 w3 => ?_, fun j w1 w2 w3 => ?_, fun _ _ => ?_⟩
        · have := hB.2.2.1 j w1 (by omega) w2
          have hz := BE_K z0 K k1 u0 (fun i w => ub i (by omega)) ug
          obtain ⟨e', hB'⟩ := hz
          have ek' := t4 z0 e' hB'
          -- the same end
          by_cases q : j < e'
          · exact hB'.2.2.1 j w1 (by omega) q
          · exfalso
            have s1 := this.2.1
            obtain ⟨i, hi⟩ : ∃ i, j = e' + i := ⟨j - e', by omega⟩
            have s2 := (hB'.2.2.2 i (by omega)).1
            rw [← hi] at s2
            have s3 := (ET_b s2 (fun x w => ub x (by omega))).2.2.1
            omega
        · have := hB.2.2.1 j w1 (by omega) (by omega)
          have g := ug j w1 (by omega)
          rw [(rAll_0 this.2.1).1] at g
          rcases g with z | z
          · exact z
          · exact absurd z rBody_6
        · have := (hB.2.2.2 0 (by omega)).1
          have hd := this.1.2
          intro z
          omega
      exact HV_u hv1 hV.2.2.2
    subst eE
    obtain ⟨iK, hiK⟩ : ∃ iK, K = e + iK := ⟨K - e, by omega⟩
    obtain ⟨hT, _, ho⟩ := hB.2.2.2 iK (by omega)
    rw [← hiK] at hT ho
    obtain ⟨hT', _⟩ := ET_s hT (show u (e + iK) = u K by rw [← hiK]) (by rw [hr]; exact Or.inr rfl)
    rw [← hq_s k1] at hT'
    obtain ⟨x10, x11, x12, x13, x14, x15, x16⟩ := ET_c hT'
    have hD := hT.1
    obtain ⟨e1', e2', e3', e4', e5', e6'⟩ := ED_e hD
    obtain ⟨⟨q1, _, _, _, _, _, _, _, _, _, _, q12⟩, _⟩ := hD
    obtain ⟨w11, w12, w13, _, _, w16, _, w14, _⟩ := PI_b q1
    have ooK : oq u o0 (K + 1) = oq u o0 e := by
      rw [oq_s k1, ← ho]
      exact if_neg (by omega)
    refine ⟨_, M3, dn, ec, nst tc n (tc n + 1), rfl, rfl, ⟨_, OcR_f OA (fun y => fA _ y (by omega) (by omega))⟩, ⟨g1, ⟨by rw [fA 20 8 (by omega) (by omega), a5 20 8 (by omega) (by omega)]; exact g2, by rw [p8 821 1 (by omega) (by omega) (by omega) (by omega) (by omega) (by omega), fM2 821 1 (by omega) (by omega) (by omega) (by omega) (by omega) (by omega)]; exact g3, by rw [p8 821 2 (by omega) (by omega) (by omega) (by omega) (by omega) (by omega), fM2 821 2 (by omega) (by omega) (by omega) (by omega) (by omega) (by omega)]; exact g4⟩, FrC_fr g5 (fun a y w => by rw [fA a y (by omega) (by omega), a5 a y (by omega) (by omega)]), FrM_fr g6 (fun a y w => by rw [p8 a y (by omega) (by omega) (by omega) (by omega) (by omega) (by omega), fM2 a y (by omega) (by omega) (by omega) (by omega) (by omega) (by omega)]), WC_fr hW2 (fun a y w => p8 a y (by omega) (by omega) (by omega) (by omega) (by omega) (by omega)), d3, ⟨by rw [fA 20 10 (by omega) (by omega), a5 20 10 (by omega) (by omega)]; exact g9, by rw [p8 821 29 (by omega) (by omega) (by omega) (by omega) (by omega) (by omega), fM2 821 29 (by omega) (by omega) (by omega) (by omega) (by omega) (by omega)]; exact g10, fun i w => ?_⟩, ⟨by rw [fA 20 11 (by omega) (by omega), a5 20 11 (by omega) (by omega)]; exact g12, by rw [p8 821 11 (by omega) (by omega) (by omega) (by omega) (by omega) (by omega), fM2 821 11 (by omega) (by omega) (by omega) (by omega) (by omega) (by omega)]; exact g13⟩, fun m w => ?_, by rw [ts]; exact p7, ⟨nst tn (s7 tc) n, fun k w => ?_, fun m w => ?_⟩, fun m w => ?_⟩, Or.inr (Or.inr (Or.inl ⟨u, K + 1, ?_, ?_, ?_, by omega, ?_⟩)), ?_, ?_, fun _ _ => rfl, fun m w => ⟨rfl, nst_n w⟩, Or.inr ⟨nst_s, mset_s, ts, p1, hq u (K + 1), oq u o0 (K + 1), EaR_f EA (fun y => fA _ y (by omega) (by omega)), OcR_f OA (fun y => fA _ y (by omega) (by omega)), by rw [x11]; exact w11, by rw [x12]; exact w12, by rw [x13]; exact w13, by rw [x14]; exact w14, by rw [x16, x13, x11, x14]; exact PI_16 q1 e3', by rw [x10]; exact PI_id q1, by rw [x10]; exact p2, by unfold kdH; rw [x11, x12, x13]; exact p3, by rw [x14]; exact p4, fun i w => ?_⟩, fun z => by rw [ts] at z; omega, fun a y w => ?_⟩
    · obtain ⟨k', n', tt, z1, z2, z3, z4, z5, z6, z7⟩ := g11 i w
      exact ⟨k', n', tt, z1, z2, z3, by rw [fA 23 i (by omega) (by omega), a5 23 i (by omega) (by omega)]; exact z4, by rw [p8 845 i (by omega) (by omega) (by omega) (by omega) (by omega) (by omega), fM2 845 i (by omega) (by omega) (by omega) (by omega) (by omega) (by omega)]; exact z5, by rw [p8 846 i (by omega) (by omega) (by omega) (by omega) (by omega) (by omega), fM2 846 i (by omega) (by omega) (by omega) (by omega) (by omega) (by omega)]; exact z6, by rw [p8 847 i (by omega) (by omega) (by omega) (by omega) (by omega) (by omega), fM2 847 i (by omega) (by omega) (by omega) (by omega) (by omega) (by omega)]; exact z7⟩
    · obtain ⟨z1, z2, z3, z4⟩ := g14 m w
      refine ⟨by rw [fA 30 m (by omega) (by omega), a5 30 m (by omega) (by omega)]; exact z1, ?_, by rw [p8 834 m (by omega) (by omega) (by omega) (by omega) (by omega) (by omega), fM2 834 m (by omega) (by omega) (by omega) (by omega) (by omega) (by omega)]; exact z3, by rw [p8 835 m (by omega) (by omega) (by omega) (by omega) (by omega) (by omega), fM2 835 m (by omega) (by omega) (by omega) (by omega) (by omega) (by omega)]; exact z4⟩
      by_cases q : m = n
      · rw [q, nst_s, mset_n (by omega), mset_s]
      · rw [nst_n q, fA 31 m (by omega) (by omega), a5 31 m (by omega) (by omega)]
        exact z2
    · rw [ts] at w
      by_cases q : k = s7 tc
      · rw [q, nst_s]
        exact ⟨p1, hn⟩
      · rw [nst_n q, p8 839 k (by omega) (by omega) (by omega) (by omega) (by omega) (by omega), fM2 839 k (by omega) (by omega) (by omega) (by omega) (by omega) (by omega)]
        exact g16 k (by omega)
    · rw [ts, cnt_s1, g17 m w]
      by_cases q : n = m
      · rw [if_pos q, ← q, nst_s]
      · rw [if_neg q, nst_n (fun z => q z.symm), Nat.add_zero]
    · by_cases q : m = n
      · rw [q, nst_s]
        exact ⟨(g18 n hn).1, by omega⟩
      · rw [nst_n q]
        exact g18 m w
    · rw [fA 25 n (by omega) (by omega), a5 25 n (by omega) (by omega)]
      exact h25
    · rw [p8 831 n (by omega) (by omega) (by omega) (by omega) (by omega) (by omega), fM2 831 n (by omega) (by omega) (by omega) (by omega) (by omega) (by omega)]
      exact h831
    · exact LiR_fr li6 (fun a y w => fA a y (by omega) (by omega)) (fun a y w => p8 a y (by omega) (by omega) (by omega) (by omega) (by omega) (by omega))
    · rw [nst_s]
      have : pgL (hq u (K + 1)) (K + 1) = 0 := by
        have hn9 : hq u (K + 1) = nst (hq u K) 6 (hq u K 6 + 1) := by
          rw [hq_s k1]
          unfold hAll
          rw [if_neg (show ¬ hq u K 1 = 1 by omega), if_pos t3]
        unfold pgL
        rw [hn9, if_pos (show nst (hq u K) 6 (hq u K 6 + 1) 1 = 2 ∧ nst (hq u K) 6 (hq u K 6 + 1) 6 = 9 from ⟨t3, by rw [nst_s, t2]⟩)]
      omega
    · exact ndA_t hA1 (fun a y w => fA a y (by omega) (by omega))
    · exact ndM_t hM2 (fun a y w => p8 a y (by omega) (by omega) (by omega) (by omega) (by omega) (by omega))
    · rw [x16] at w
      rw [p6 i w, ooK]
      have oi := q12 i w (by omega)
      rw [show min 8 (hq u e 5 - (hq u e 15 + 4 + 8 * i)) = 8 by omega] at oi
      have o256 := (OA i (by omega)).2
      rw [ooK] at o256
      rw [Nat.mod_eq_of_lt o256] at oi
      rw [oi]
    · rw [p8 a y (by omega) (by omega) (by omega) (by omega) (by omega) (by omega), fM2 a y (by omega) (by omega) (by omega) (by omega) (by omega) (by omega)]
  · by_cases c7 : r = 7
    · subst c7
      rw [if_neg (show ¬ rI 7 = -2 by decide), if_pos (show rI 7 = -3 from rfl), if_neg (show ¬ rmI 7 = 10 by decide), if_pos (show rmI 7 = 11 from rfl)]
      unfold DX0_become DX12_go
      simp only [mlet]
      simp (disch := omega) only [mck_s, sI_nn]
      refine st_calm (BuG_fr hG2 (fun a y w => by simp (disch := omega) only [mset_n]) (fun a y w => by simp (disch := omega) only [mset_n]) (WC_fr hW2 (fun a y w => by simp (disch := omega) only [mset_n])) (CA_fr b4 (fun a y w => by simp (disch := omega) only [mset_n]))) (Or.inr (Or.inr (Or.inr ⟨6, 3, by omega, by omega, by rw [mset_n (by omega), mset_s]; rfl, by rw [mset_n (by omega), mset_s]; rfl, fun _ => ⟨by rw [mset_s]; rfl, by rw [mset_s]; rfl, by omega, by omega⟩, fun z => by omega, fun z => by omega, fun _ => by omega, by omega⟩))) (ndA_t hA1 (fun a y w => by simp (disch := omega) only [mset_n])) (ndM_t hM2 (fun a y w => by simp (disch := omega) only [mset_n])) (by rw [mset_n (by omega), mset_n (by omega), a5 20 12 (by omega) (by omega)]) (fun a y w => by rw [mset_n (by omega), mset_n (by omega), fM2 a y (by omega) (by omega) (by omega) (by omega) (by omega) (by omega)]) (oc_own a4 (fun y => by simp (disch := omega) only [mset_n]))
    · by_cases c0 : r = 0
      · subst c0
        rw [if_neg (show ¬ rI 0 = -2 by decide), if_neg (show ¬ rI 0 = -3 by decide), if_pos (show rI 0 = -1 from rfl), if_neg (show ¬ rmI 0 = 10 by decide), if_neg (show ¬ rmI 0 = 11 by decide), if_pos (show rmI 0 = -1 from rfl)]
        have pk := pgK (Or.inl rfl)
        refine st_calm hG2 (Or.inr (Or.inr (Or.inl ⟨u, K + 1, by rw [a5 25 n (by omega) (by omega)]; exact h25, by rw [fM2 831 n (by omega) (by omega) (by omega) (by omega) (by omega) (by omega)]; exact h831, li (Or.inl rfl), by omega, ?_⟩))) hA1 hM2 (a5 20 12 (by omega) (by omega)) (fun a y w => fM2 a y (by omega) (by omega) (by omega) (by omega) (by omega) (by omega)) a4
        have : pgL (hq u (K + 1)) (K + 1) ≤ K + 1 := by unfold pgL; split <;> omega
        omega
      · have er : rI r = sI r := by
          unfold rI
          rw [if_neg c0, if_neg c6, if_neg c7]
        have em' : rmI r = sI r := by
          unfold rmI
          rw [if_neg c0, if_neg c6, if_neg c7]
        have neq : ∀ v : Int32, v = -2 ∨ v = -3 ∨ v = -1 → ¬ sI r = v := by
          have : ∀ r, r < 8 → ∀ v : Int32, v = -2 ∨ v = -3 ∨ v = -1 → ¬ sI r = v := by
            intro r hr8 v hv
            rcases (show r = 0 ∨ r = 1 ∨ r = 2 ∨ r = 3 ∨ r = 4 ∨ r = 5 ∨ r = 6 ∨ r = 7 by omega) with rfl | rfl | rfl | rfl | rfl | rfl | rfl | rfl <;> rcases hv with rfl | rfl | rfl <;> decide
          exact this r rb
        rw [er, em', if_neg (neq _ (Or.inl rfl)), if_neg (neq _ (Or.inr (Or.inl rfl))), if_neg (neq _ (Or.inr (Or.inr rfl))), if_neg (show ¬ sI r = 10 by rw [sI_eql (by omega) (by decide)]; omega), if_neg (show ¬ sI r = 11 by rw [sI_eql (by omega) (by decide)]; omega), if_neg (neq _ (Or.inr (Or.inr rfl)))]
        exact st_fault hn rb hG2 hA1 hM2 pe (by omega) (a5 20 12 (by omega) (by omega)) (fun a y w => fM2 a y (by omega) (by omega) (by omega) (by omega) (by omega) (by omega)) a4
/-! one bit on the bus: a node that loses -/
theorem ly_pos {f : Nat → Nat} : ∀ j i, i < (lyN f j).1 → lyF f j i = 0 → ∃ m, m < j ∧ i = (lyN f m).1 := by
  intro j
  induction j with
  | zero => intro i hi; exact absurd hi (by show ¬ i < 0; omega)
  | succ j ih =>
    intro i hi hz
    by_cases c : i < (lyN f j).1
    · have := (ly_st (f := f) j 1 i c).2.1
      rw [this] at hz
      obtain ⟨m, h1, h2⟩ := ih i c hz
      exact ⟨m, by omega, h2⟩
    · by_cases d : lyS f j = 5
      · rw [lyN_5 d] at hi
        have hi' : i < (lyN f j).1 + 2 := hi
        by_cases e : i = (lyN f j).1
        · exact ⟨j, by omega, e⟩
        · exfalso
          rw [(lyR_5 d).2.1, show i = (lyN f j).1 + 1 by omega, nst_s] at hz
          omega
      · rw [lyN_n d] at hi
        have hi' : i < (lyN f j).1 + 1 := hi
        exact ⟨j, by omega, by omega⟩
/-- a short head: no stage, no false flag -/
theorem hd_s {s p h o : Nat → Nat} {K b : Nat} (hE : ES s K p h o) (hb : b < 2) (h5 : h 5 ≤ 13) : (h 3 < 5 → rBody b h = 0 ∧ hBody b h = hPl0 b h) ∧ (h 3 = 5 → b ≠ h 2 → rBody b h = 0 ∧ hBody b h = hStuff b h) := by
  obtain ⟨⟨e1, e2, e3, e4, e5, e6, _⟩, h1, hend⟩ := hE
  obtain ⟨_, _, _, _, _, _, _, _, _, _, b2, b3, _, b5⟩ := PI_b e1
  have k17 : ¬ h 17 < 100000 := fun z => by
    have := b2 z
    have := b5 (by omega)
    omega
  constructor
  · intro c
    have hG := PI_s e1 hb
    obtain ⟨_, _, _, _, _, _, _, _, _, _, d2, d3, _, d5⟩ := PI_b hG
    obtain ⟨_, _, _, j4, _⟩ := PI_x.mp hG
    obtain ⟨g1, g2, g3, g4, g5, _⟩ := hPl0_n (b := b) (h := h)
    have g13 : hPl0 b h 13 = 0 := by
      rw [j4, if_neg]
      have : 14 ≤ atE (hPl0 b h 12) := by unfold atE; split <;> omega
      omega
    have g17 : ¬ hPl0 b h 17 < 100000 := fun z => by
      have := d2 z
      have := d5 (by omega)
      omega
    unfold rBody hBody
    rw [if_neg (by omega), if_neg (by omega), if_neg (fun z => by omega)]
    refine ⟨rfl, ?_⟩
    unfold hPl1
    rw [if_neg]
    unfold sEnd
    split <;> omega
  · intro c d
    unfold rBody hBody
    rw [if_pos c, if_pos c, if_neg d]
    refine ⟨rfl, ?_⟩
    rw [if_neg]
    unfold sEnd
    split <;> omega
theorem Gd_s {s : Nat → Nat} {K : Nat} (hg : Gd s K) (hr : rAll (s K) (hq s K) = 0) : Gd s (K + 1) := by
  intro j u1 u2
  by_cases z : j = K
  · rw [z]; exact Or.inl hr
  · exact hg j u1 (by omega)
theorem ES_of {s : Nat → Nat} {K : Nat} (hK : 1 ≤ K) (h0 : s 0 = 0) (hs : ∀ i, i < K → s i < 2) (hg : Gd s K) (h1 : hq s K 1 = 0) : ES s K (pq s K) (hq s K) (oq s z0 K) := by
  obtain ⟨e, b1, b2, b3, b4⟩ := BE_K z0 K hK h0 hs hg
  by_cases c : K < e
  · exact b3 K hK (by omega) c
  · exfalso
    obtain ⟨i, hi⟩ : ∃ i, K = e + i := ⟨K - e, by omega⟩
    have t := (b4 i (by omega)).1
    rw [← hi] at t
    have := (ET_b t (fun j u => hs j (by omega))).2.2.1
    omega
theorem sync {f s : Nat → Nat} (hf : ∀ i, f i < 2) (hf0 : f 0 = 0) : ∀ j, 1 ≤ j → j ≤ 14 → (∀ i, i < (lyN f j).1 → s i = lyR f j i) → 1 ≤ (lyN f j).1 ∧ s 0 = 0 ∧ (∀ i, i < (lyN f j).1 → s i < 2) ∧ Gd s (lyN f j).1 ∧ hq s (lyN f j).1 1 = 0 ∧ hq s (lyN f j).1 2 = (lyN f j).2.2 ∧ hq s (lyN f j).1 3 = (lyN f j).2.1 ∧ hq s (lyN f j).1 5 = j := by
  intro j
  induction j with
  | zero => intro h; omega
  | succ j ih =>
    intro _ hj hs
    have bits : ∀ i, i < (lyN f (j + 1)).1 → s i < 2 := fun i u => by rw [hs i u]; exact (ly_b hf (j + 1) i u).1
    by_cases j0 : j = 0
    · subst j0
      have h1 : ¬ lyS f 0 = 5 := by
        unfold lyS
        rw [hf0]
        show ¬ (if 0 = 1 then 0 + 1 else 1) = 5
        simp
      have n1 : lyN f 1 = (1, 1, 0) := by
        rw [lyN_n h1]
        unfold lyS
        rw [hf0]
        rfl
      rw [n1] at hs bits ⊢
      have s0 : s 0 = 0 := by
        rw [hs 0 (by show 0 < 1; omega), (lyR_n h1).1]
        show nst z0 0 (f 0) 0 = 0
        rw [nst_s, hf0]
      exact ⟨by show 1 ≤ 1; omega, s0, bits, fun j u1 u2 => absurd u2 (by show ¬ j < 1; omega), rfl, rfl, rfl, rfl⟩
    · obtain ⟨i1, i2, i3, i4, i5, i6, i7, i8⟩ := ih (by omega) (by omega) (fun i u => by
        have up := lyN_up (f := f) j
        rw [hs i (by omega), (ly_st (f := f) j 1 i u).1])
      have hj2 := hf j
      obtain ⟨l1, l2, l3, l4, l5⟩ := lyN_b hf j
      have eS := ES_of i1 i2 i3 i4 i5
      have up := lyN_up (f := f) j
      have sK : s (lyN f j).1 = f j := by
        rw [hs _ up]
        by_cases c : lyS f j = 5
        · rw [(lyR_5 c).1, nst_a]
        · rw [(lyR_n c).1, nst_s]
      obtain ⟨p1, _⟩ := hd_s (b := f j) eS hj2 (by omega)
      obtain ⟨p2, p3⟩ := p1 (by omega)
      have hS : lyS f j = (if f j = hq s (lyN f j).1 2 then hq s (lyN f j).1 3 + 1 else 1) := by rw [i6, i7]; rfl
      obtain ⟨q1, q2, q3, q4, q5, q6, _⟩ := hPl0_n (b := f j) (h := hq s (lyN f j).1)
      have r0 : rAll (s (lyN f j).1) (hq s (lyN f j).1) = 0 := by rw [(rAll_0 i5).1, sK]; exact p2
      have g1 := Gd_s i4 r0
      have hh : hq s ((lyN f j).1 + 1) = hPl0 (f j) (hq s (lyN f j).1) := by rw [hq_s i1, (rAll_0 i5).2, sK]; exact p3
      have v1 : hq s ((lyN f j).1 + 1) 1 = 0 := by rw [hh, q1]; exact i5
      have v2 : hq s ((lyN f j).1 + 1) 2 = f j := by rw [hh, q2]
      have v3 : hq s ((lyN f j).1 + 1) 3 = lyS f j := by rw [hh, q3, hS]
      have v5 : hq s ((lyN f j).1 + 1) 5 = j + 1 := by rw [hh, q5, i8]
      by_cases c : lyS f j = 5
      · have n := lyN_5 c
        rw [n] at bits hs ⊢
        have bits' : ∀ i, i < (lyN f j).1 + 2 → s i < 2 := bits
        have hs' : ∀ i, i < (lyN f j).1 + 2 → s i = lyR f (j + 1) i := hs
        have e2 := ES_of (by omega) i2 (fun i u => bits' i (by omega)) g1 v1
        have sK1 : s ((lyN f j).1 + 1) = 1 - f j := by
          rw [hs' _ (by omega), (lyR_5 c).1, nst_s]
        -- the fourteenth plain bit may have been the fifth of its kind
        have st2 : rBody (1 - f j) (hq s ((lyN f j).1 + 1)) = 0 ∧ hBody (1 - f j) (hq s ((lyN f j).1 + 1)) = hStuff (1 - f j) (hq s ((lyN f j).1 + 1)) := by
          have ne : 1 - f j ≠ hq s ((lyN f j).1 + 1) 2 := by rw [v2]; omega
          unfold rBody hBody
          have c5 : hq s ((lyN f j).1 + 1) 3 = 5 := by rw [v3]; exact c
          rw [if_pos c5, if_neg ne, if_pos c5]
          refine ⟨rfl, if_neg ?_⟩
          obtain ⟨⟨x1, _⟩, _⟩ := e2
          obtain ⟨_, _, _, _, _, _, _, _, _, _, d2, d3, _, d5⟩ := PI_b x1
          have k17 : ¬ hq s ((lyN f j).1 + 1) 17 < 100000 := fun z => by
            have := d2 z
            have := d5 (by omega)
            omega
          unfold sEnd
          split <;> omega
        have r1 : rAll (s ((lyN f j).1 + 1)) (hq s ((lyN f j).1 + 1)) = 0 := by rw [(rAll_0 v1).1, sK1]; exact st2.1
        have g2 := Gd_s g1 r1
        have hh2 : hq s ((lyN f j).1 + 2) = hStuff (1 - f j) (hq s ((lyN f j).1 + 1)) := by
          have := hq_s (s := s) (K := (lyN f j).1 + 1) (by omega)
          rw [(rAll_0 v1).2, sK1] at this
          rw [show (lyN f j).1 + 2 = (lyN f j).1 + 1 + 1 by omega, this]
          exact st2.2
        refine ⟨by show 1 ≤ (lyN f j).1 + 2; omega, i2, bits', g2, ?_, ?_, ?_, ?_⟩
        · show hq s ((lyN f j).1 + 2) 1 = 0
          rw [hh2]
          exact v1
        · show hq s ((lyN f j).1 + 2) 2 = 1 - f j
          rw [hh2]
          rfl
        · show hq s ((lyN f j).1 + 2) 3 = 1
          rw [hh2]
          rfl
        · show hq s ((lyN f j).1 + 2) 5 = j + 1
          rw [hh2]
          exact v5
      · have n := lyN_n c
        rw [n] at bits hs ⊢
        exact ⟨by show 1 ≤ (lyN f j).1 + 1; omega, i2, bits, g1, v1, v2, v3, v5⟩
/-- the bits seen up to a loss go on -/
theorem lose_g {f s : Nat → Nat} {K : Nat} (hf : ∀ i, f i < 2) (hf0 : f 0 = 0) (hK1 : 1 ≤ K) (hKN : K < wN f) (hK : K < (lyN f 13).1 + 1) (hz : lyF f 98 K = 0) (hs : ∀ i, i < K → s i = wR f i) (hsK : s K = 0) : s 0 = 0 ∧ (∀ i, i < K + 1 → s i < 2) ∧ Gd s (K + 1) ∧ hq s (K + 1) 1 = 0 := by
  obtain ⟨j, hj, hjK⟩ : ∃ j, j ≤ 13 ∧ K = (lyN f j).1 := by
    obtain ⟨m, h1, h2⟩ := ly_pos 98 K hKN hz
    refine ⟨m, ?_, h2⟩
    by_cases c : m ≤ 13
    · exact c
    · have := lyN_le (f := f) 13 (m - 13)
      rw [show 13 + (m - 13) = m by omega] at this
      omega
  have j1 : 1 ≤ j := by
    by_cases c : j = 0
    · subst c
      have : (lyN f 0).1 = 0 := rfl
      omega
    · omega
  have hs' : ∀ i, i < (lyN f j).1 → s i = lyR f j i := fun i u => by
    rw [hs i (by omega)]
    unfold wR
    rw [if_pos (by omega)]
    have := (ly_st (f := f) j (98 - j) i u).1
    rw [show j + (98 - j) = 98 by omega] at this
    exact this
  obtain ⟨i1, i2, i3, i4, i5, i6, i7, i8⟩ := sync hf hf0 j j1 (by omega) hs'
  obtain ⟨l1, _⟩ := lyN_b hf j
  rw [← hjK] at i1 i3 i4 i5 i6 i7 i8
  have eS := ES_of i1 i2 i3 i4 i5
  obtain ⟨p1, _⟩ := hd_s (b := 0) eS (by omega) (by omega)
  obtain ⟨p2, p3⟩ := p1 (by omega)
  have r0 : rAll (s K) (hq s K) = 0 := by rw [(rAll_0 i5).1, hsK]; exact p2
  refine ⟨i2, fun i u => ?_, Gd_s i4 r0, ?_⟩
  · by_cases z : i = K
    · rw [z, hsK]; omega
    · exact i3 i (by omega)
  · rw [hq_s hK1, (rAll_0 i5).2, hsK, p3]
    have := (hPl0_n (b := 0) (h := hq s K)).1
    rw [this]
    exact i5
theorem wv_1 {x y : Nat} (hx : x < 2) : sI (x + 2 * y) &&& 1 = sI x := by
  have := sI_and (a := x + 2 * y) (m := 1)
  rw [show (x + 2 * y) % 2 ^ 1 = x by omega] at this
  exact this
theorem c_lose0 {fu n K : Nat} {f s : Nat → Nat} {A : mwM} {L : mwL} (hfu : 300 ≤ fu) (hn : n < 7) (hf : ∀ i, f i < 2) (hK1 : 1 ≤ K) (hK : K < wN f) (h28 : A 28 n = sI K) (hW : WvR A n f) (hOc : ∃ o, OcR A (47 + 2 * n) o) (hs : ∀ i, i < K → s i = wR f i) (hsK : s K = 0) (h0 : s 0 = 0) (hb : ∀ i, i < K + 1 → s i < 2) (hg : Gd s (K + 1)) : wq (DX0_loseArbitration fu (sI n) A L) (fun z => z.2 = L ∧ z.1 25 n = sI 2 ∧ EaR z.1 (47 + 2 * n) (hq s (K + 1)) ∧ (∃ o0, OcR z.1 (47 + 2 * n) (oq s o0 (K + 1))) ∧ ∀ a y, a ≠ 47 + 2 * n → a ≠ 48 + 2 * n → ¬ (a = 25 ∧ y = n) → z.1 a y = A a y) := by
  obtain ⟨o0, ho⟩ := hOc
  have wb := wN_b hf
  unfold DX0_loseArbitration
  refine wq_b2 (c_beginL (A := A) (L := L) hn) ?_
  rintro A1 L1 ⟨b1, b2, b3, b4⟩
  dsimp only at b1 b2 b3 b4
  subst b1
  have good : ∀ j, 1 ≤ j → j < K + 1 → rAll (s j) (hq s j) = 0 ∨ rAll (s j) (hq s j) = 6 := hg
  have key : ∀ (m j fz : Nat) (X : mwM), j + m = K → m < fz → 1 ≤ j → EaR X (47 + 2 * n) (hq s j) → OcR X (47 + 2 * n) (oq s o0 j) → (∀ a y, a ≠ 47 + 2 * n → a ≠ 48 + 2 * n → X a y = A1 a y) → wq (fX0_loseArbitration_h7 fu (sI n) fz (sI j, X, L1)) (fun z => z.2 = L1 ∧ z.1 25 n = sI 2 ∧ EaR z.1 (47 + 2 * n) (hq s (K + 1)) ∧ (∃ o0, OcR z.1 (47 + 2 * n) (oq s o0 (K + 1))) ∧ ∀ a y, a ≠ 47 + 2 * n → a ≠ 48 + 2 * n → ¬ (a = 25 ∧ y = n) → z.1 a y = A a y) := by
    intro m
    induction m with
    | zero =>
      intro j fz X hj hf1 hj1 hE hO hX
      obtain ⟨g, rfl⟩ : ∃ g, fz = g + 1 := ⟨fz - 1, by omega⟩
      have : j = K := by omega
      subst this
      unfold fX0_loseArbitration_h7
      rw [mloop_S]
      show wq (fX0_loseArbitration_i7 fu (sI n) _ (sI j) X L1) _
      unfold fX0_loseArbitration_i7
      rw [mck_s hn (by omega), sI_nn (by omega), hX 28 n (by omega) (by omega), b4 28 n (by omega) (by omega), h28, if_pos (by rw [sI_le (by omega) (by omega)]; omega), mck_s hn (by omega)]
      have he := c_hearK (fu := fu) (L := L1) hE hO hj1 h0 (fun i u => hb i (by omega)) (fun x u1 u2 => good x u1 (by omega))
      rw [hsK] at he
      refine wq_b3 (show wq (DX5_hear fu (47 + 2 * n) 0 X L1) _ from he) ?_
      rintro r Y L2 ⟨y1, y2, y3, y4, y5⟩
      dsimp only at y1 y2 y3 y4 y5
      have gj := good j hj1 (by omega)
      rw [hsK] at gj
      obtain ⟨e1, e2⟩ := y3 gj
      refine wq_some ⟨y2, ?_, e1, ⟨o0, e2⟩, fun a y u1 u2 u3 => ?_⟩
      · dsimp only
        rw [y5 25 n (by omega) (by omega), hX 25 n (by omega) (by omega)]
        exact b2
      · dsimp only
        rw [y5 a y u1 (by omega), hX a y u1 u2, b4 a y u1 u3]
    | succ m ih =>
      intro j fz X hj hf1 hj1 hE hO hX
      obtain ⟨g, rfl⟩ : ∃ g, fz = g + 1 := ⟨fz - 1, by omega⟩
      unfold fX0_loseArbitration_h7
      rw [mloop_S]
      show wq (fX0_loseArbitration_i7 fu (sI n) (fX0_loseArbitration_h7 fu (sI n) g) (sI j) X L1) _
      unfold fX0_loseArbitration_i7
      have wv : X (34 + n) j &&& 1 = sI (s j) := by
        rw [hX (34 + n) j (by omega) (by omega), b4 (34 + n) j (by omega) (by omega), hW.1 j (by omega), wv_1 (ly_b hf 98 j (show j < (lyN f 98).1 by have : wN f = (lyN f 98).1 := rfl; omega)).1, hs j (by omega)]
        unfold wR
        rw [if_pos (by omega)]
      rw [mck_s hn (by omega), sI_nn (by omega), hX 28 n (by omega) (by omega), b4 28 n (by omega) (by omega), h28, if_neg (by rw [sI_le (by omega) (by omega)]; omega), mck_s hn (by omega), mck_s hn (by omega), mck_s (by omega) (by omega), sI_nn (by omega), wv]
      refine wq_b3 (c_hearK (fu := fu) (L := L1) hE hO hj1 h0 (fun i u => hb i (by omega)) (fun x u1 u2 => good x u1 (by omega))) ?_
      rintro r Y L2 ⟨y1, y2, y3, y4, y5⟩
      dsimp only at y1 y2 y3 y4 y5
      subst y2
      obtain ⟨e1, e2⟩ := y3 (good j hj1 (by omega))
      simp only [mlet]
      rw [sI_1]
      exact ih (j + 1) g Y (by omega) (by omega) (by omega) e1 e2 (fun a y u1 u2 => by rw [y5 a y u1 (by omega), hX a y u1 u2])
  refine key (K - 1) 1 fu A1 (by omega) (by omega) (by omega) b3 ?_ (fun _ _ _ _ => rfl)
  exact OcR_f ho (fun y => b4 _ y (by omega) (by omega))
/-! one bit on the bus: a node that sends -/
theorem cnt_1 {p q : Nat → Bool} {f : Nat} (hp : p f = false) (hq : q f = true) (h : ∀ i, i ≠ f → q i = p i) : ∀ F, f < F → cnt q F = cnt p F + 1 := by
  intro F
  induction F with
  | zero => intro z; omega
  | succ F ih =>
    intro hf
    have e1 : cnt q (F + 1) = cnt q F + (if q F then 1 else 0) := rfl
    have e2 : cnt p (F + 1) = cnt p F + (if p F then 1 else 0) := rfl
    rw [e1, e2]
    by_cases c : F = f
    · subst c
      rw [hp, hq, cnt_congr (q := p) (fun i u => h i (by omega))]
      rfl
    · rw [ih (by omega), h F c]
      omega
theorem wv_2 : ∀ x, x < 2 → ∀ y, y < 2 → ((sI (x + 2 * y) &&& 2 = 0) ↔ y = 0) := by decide
def lsB (f : Nat → Nat) (K b : Nat) : Bool := decide (K < (lyN f 13).1 + 1 ∧ (if K < wN f then lyF f 98 K else 0) = 0 ∧ wR f K = 1 ∧ b = 0)
theorem arb_b {f : Nat → Nat} (hf : ∀ i, f i < 2) : (lyN f 13).1 + 1 ≤ 18 ∧ (lyN f 13).1 + 1 ≤ wN f := by
  obtain ⟨i1, i2, i3, i4, i5⟩ := lyN_b hf 13
  have := i5 (by omega)
  have l := lyN_le (f := f) 13 85
  have e : wN f = (lyN f (13 + 85)).1 := rfl
  omega
theorem c_isLosing {fu n K b : Nat} {f : Nat → Nat} {A : mwM} {L : mwL} (hn : n < 7) (hb : b < 2) (hf : ∀ i, f i < 2) (hK : K < wN f + 10) (h28 : A 28 n = sI K) (h32 : A 32 n = sI (wR f K)) (hW : WvR A n f) : DX0_isLosing fu (sI n) (sI b) A L = some (bI (lsB f K b), A, L) := by
  have wb := wN_b hf
  have ab := arb_b hf
  have wl := wR_lt hf K
  unfold DX0_isLosing fX0_isLosing_b37 fX0_isLosing_b38
  simp only [mzz_0, mzz_1]
  rw [mck_s hn (by omega), sI_nn (by omega), h32, h28, mck_s hn (by omega), mck_s hn (by omega), mck_s (by omega) (by omega), sI_nn (by omega)]
  unfold lsB
  by_cases c1 : wR f K ≤ b
  · rw [if_pos (by rw [sI_le (by omega) (by omega)]; exact c1), decide_eq_false (by omega)]
    rfl
  · rw [if_neg (by rw [sI_le (by omega) (by omega)]; exact c1)]
    by_cases c2 : K < wN f
    · obtain ⟨b1, b2, b3, b4⟩ := ly_b hf 98 K c2
      rw [hW.1 K c2]
      have w2 := wv_2 _ b1 _ b3
      by_cases c3 : lyG f 98 K = 0
      · rw [if_pos (w2.mpr c3), decide_eq_false]
        · rfl
        · rw [if_pos c2]
          intro z
          have := b4.mpr ⟨z.2.1, z.1⟩
          omega
      · rw [if_neg (fun z => c3 (w2.mp z)), decide_eq_true]
        · rfl
        · rw [if_pos c2]
          have := b4.mp (by omega)
          exact ⟨this.2, this.1, by omega, by omega⟩
    · rw [hW.2.1 K (by omega) hK, if_pos (show sI 1 &&& 2 = 0 by decide), decide_eq_false (by omega)]
      rfl
theorem w_9 (w : Nat) (h : w < 1000) : sI (w + 10) - 9 = sI (w + 1) := by
  have : sI (w + 10) - 9 = sI (w + 10 - 9) := sI_sub (b := 9) (by omega)
  rw [this, show w + 10 - 9 = w + 1 by omega]
theorem w_10 (w : Nat) (h : w < 1000) : sI (w + 10) - 10 + 1 = sI (w + 1) := by
  have : sI (w + 10) - 10 = sI (w + 10 - 10) := sI_sub (b := 10) (by omega)
  rw [this, sI_1, show w + 10 - 10 = w by omega]
theorem w_1 (w : Nat) (h : w < 1000) : sI (w + 10) - 1 = sI (w + 9) := by
  have : sI (w + 10) - 1 = sI (w + 10 - 1) := sI_sub (b := 1) (by omega)
  rw [this, show w + 10 - 1 = w + 9 by omega]
theorem st_well {fu N t F n K b f wn : Nat} {fb : Nat → Nat} {ow id : Nat → Nat} {oc : Nat → Nat → Nat} {dn ec tc : Nat → Nat} {A M0 M2 : mwM} {Lc Lm : mwL} (hn : n < 7) (hwn : wn = wN fb) (wb : 98 ≤ wn ∧ wn ≤ 122) (hfb : fbF (id f) (oc f) = fb) (hG2 : BuG A M2 N t F ow id oc dn ec tc) (nM2 : ndM n M0 M2) (hT2 : ∀ a y, (839 ≤ a ∧ a ≤ 844) → M2 a y = M0 a y) (hOc : ∃ o, OcR A (47 + 2 * n) o) (hf : f < F) (how : ow f = n) (hdn : dn f = 0) (h25 : A 25 n = sI 1) (v831 : M2 831 n = sI 1) (h27 : A 27 n = sI f) (v833 : M2 833 n = sI f) (h28 : A 28 n = sI K) (v36 : M2 836 n = sI (K + 1)) (hK : K < wn + 10) (hW : WvR A n fb) (a29 : A 29 n = sI (wn + 10)) (r37 : M2 821 37 = sI (wn + 10)) (hseen : ∀ i, i < K + 1 → i < wN fb → M2 837 (1200 * n + i) = sI (wR fb i)) (pe : 8 * ec n ≤ t) (pt : 40 * tc n + K ≤ t) : StQ N t F ow id oc dn ec tc n A M0 Lc Lm (fX0_seeSending_b79 fu (sI n) (sI b) (sI t) A Lc) (fX12_sent_b143 fu (sI n) (sI b) (sI f) (sI K) M2 Lm) := by
  have hG' := hG2
  obtain ⟨g1, ⟨g2, g3, g4⟩, g5, g6, hWC2, hC2, ⟨g9, g10, g11⟩, ⟨g12, g13⟩, g14, g15, ⟨tn, g16, g17⟩, g18⟩ := hG'
  have hF200 := g5.2.1
  unfold fX0_seeSending_b79 fX0_seeSending_b115 fX12_sent_b143 fX12_sent_b202
  simp only [mlet, mb2_id]
  rw [mck_s hn (by omega), mck_s hn (by omega), sI_nn (by omega), h28, sI_1, mck_s hn (by omega), mck_s hn (by omega), mset_s, mset_n (show ¬ (29 = 28 ∧ n = n) by omega), a29, r37, w_1 wn (by omega)]
  by_cases c : K + 1 < wn + 10
  · rw [if_pos (by rw [sI_lt (by omega) (by omega)]; exact c), if_neg (by rw [sI_eq (by omega) (by omega)]; omega)]
    refine st_calm (BuG_fr hG2 (fun a y w => by simp (disch := omega) only [mset_n]) (fun _ _ _ => rfl) hWC2 hC2) (Or.inr (Or.inl ⟨f, K + 1, hf, how, hdn, by rw [mset_n (by omega)]; exact h25, v831, by rw [mset_n (by omega)]; exact h27, v833, mset_s, v36, by omega, by rw [hfb, ← hwn]; exact c, by rw [hfb]; exact WvR_fr hW (fun a y w => mset_n (by omega)), fun i u1 u2 => ?_, by omega, by omega⟩)) (fun a y w => by simp (disch := omega) only [mset_n]) nM2 (by rw [mset_n (by omega)]) hT2 (oc_own hOc (fun y => by simp (disch := omega) only [mset_n]))
    rw [hfb] at u2 ⊢
    exact hseen i u1 u2
  · have c9 : K = wn + 9 := by omega
    rw [if_neg (by rw [sI_lt (by omega) (by omega)]; exact c), if_pos (by rw [c9])]
    have dup := cnt_1 (p := fun x => decide (dn x = 1)) (q := fun x => decide (nst dn f 1 x = 1)) (f := f) (by rw [hdn]; rfl) (by rw [nst_s]; rfl) (fun i w => by rw [nst_n w]) F hf
    have wdn := cnt_1 (p := fun x => decide (ow x = n ∧ nst dn f 1 x = 0)) (q := fun x => decide (ow x = n ∧ dn x = 0)) (f := f) (by rw [nst_s]; exact decide_eq_false (by omega)) (decide_eq_true ⟨how, hdn⟩) (fun i w => by rw [nst_n w]) F hf
    have wot : ∀ m, m ≠ n → cnt (fun x => decide (ow x = m ∧ nst dn f 1 x = 0)) F = cnt (fun x => decide (ow x = m ∧ dn x = 0)) F := fun m hm => cnt_congr (fun i w => by
      by_cases z : i = f
      · rw [z, decide_eq_false (show ¬ (ow f = m ∧ nst dn f 1 f = 0) from fun v => by omega), decide_eq_false (show ¬ (ow f = m ∧ dn f = 0) from fun v => by omega)]
      · rw [nst_n z])
    have dle := cnt_le (fun x => decide (nst dn f 1 x = 1)) F
    have wle := cnt_le (fun x => decide (ow x = n ∧ dn x = 0)) F
    unfold DX0_endSending DX0_become DX12_go
    simp only [mlet, mb2_id]
    have p11 : M2 821 11 = sI (cnt (fun x => decide (dn x = 1)) F) := g13
    generalize hDC : cnt (fun x => decide (dn x = 1)) F = DC at *
    generalize hWT : cnt (fun x => decide (ow x = n ∧ nst dn f 1 x = 0)) F = WT at *
    have p30 := (g14 n hn).1
    rw [wdn] at p30
    simp (disch := omega) only [mck_s, sI_nn, mset_n, h27, p30, g12, p11, sI_m1, sI_1]
    generalize hA3 : mset (mset (mset (mset (mset (mset A 28 n (sI (K + 1))) 45 f 1) 30 n (sI WT)) 20 11 (sI (DC + 1))) 25 n 6) 26 n 3 = A3
    have fA3 : ∀ a y, ¬ ((a = 28 ∨ a = 30 ∨ a = 25 ∨ a = 26) ∧ y = n) → ¬ (a = 45 ∧ y = f) → ¬ (a = 20 ∧ y = 11) → A3 a y = A a y := fun a y w1 w2 w3 => by
      rw [← hA3]
      simp (disch := omega) only [mset_n]
    have vA3 : A3 45 f = sI 1 ∧ A3 30 n = sI WT ∧ A3 20 11 = sI (DC + 1) ∧ A3 25 n = sI 6 ∧ A3 26 n = sI 3 := by
      rw [← hA3]
      simp (disch := omega) only [mset_n, mset_s]
      exact ⟨(by first | trivial | rfl), (by first | trivial | rfl), (by first | trivial | rfl), (by first | trivial | rfl), (by first | trivial | rfl)⟩
    generalize hM3 : mset (mset (mset (mset (mset (mset M2 828 f (vp_nar .boolean 1)) 829 DC (sI f)) 830 DC (M2 821 2)) 821 11 (sI (DC + 1))) 831 n 6) 832 n 3 = M3
    have fM3 : ∀ a y, ¬ ((a = 831 ∨ a = 832) ∧ y = n) → ¬ (a = 828 ∧ y = f) → a ≠ 829 → a ≠ 830 → ¬ (a = 821 ∧ y = 11) → M3 a y = M2 a y := fun a y w1 w2 w3 w4 w5 => by
      rw [← hM3]
      simp (disch := omega) only [mset_n]
    have vM3 : M3 828 f = sI 1 ∧ M3 821 11 = sI (DC + 1) ∧ M3 831 n = sI 6 ∧ M3 832 n = sI 3 := by
      rw [← hM3]
      simp (disch := omega) only [mset_n, mset_s]
      exact ⟨(by first | trivial | rfl), (by first | trivial | rfl), (by first | trivial | rfl), (by first | trivial | rfl)⟩
    refine ⟨A3, M3, nst dn f 1, ec, tc, rfl, rfl, oc_own hOc (fun y => fA3 _ y (by omega) (by omega) (by omega)), ⟨g1, ⟨by rw [fA3 20 8 (by omega) (by omega) (by omega)]; exact g2, by rw [fM3 821 1 (by omega) (by omega) (by omega) (by omega) (by omega)]; exact hG2.2.1.2.1, by rw [fM3 821 2 (by omega) (by omega) (by omega) (by omega) (by omega)]; exact hG2.2.1.2.2⟩, ⟨by rw [fA3 20 9 (by omega) (by omega) (by omega)]; exact g5.1, g5.2.1, fun x w => ?_⟩, ⟨by rw [fM3 821 4 (by omega) (by omega) (by omega) (by omega) (by omega)]; exact hG2.2.2.2.1.1, g5.2.1, fun x w => ?_⟩, WC_fr hWC2 (fun a y w => fM3 a y (by omega) (by omega) (by omega) (by omega) (by omega)), CA_fr hC2 (fun a y w => fM3 a y (by omega) (by omega) (by omega) (by omega) (by omega)), ⟨by rw [fA3 20 10 (by omega) (by omega) (by omega)]; exact g9, by rw [fM3 821 29 (by omega) (by omega) (by omega) (by omega) (by omega)]; exact hG2.2.2.2.2.2.2.1.2.1, fun i w => ?_⟩, ⟨by rw [dup]; exact vA3.2.2.1, by rw [dup]; exact vM3.2.1⟩, fun m w => ?_, by rw [fM3 821 22 (by omega) (by omega) (by omega) (by omega) (by omega)]; exact hG2.2.2.2.2.2.2.2.2.2.1, ⟨tn, fun k w => by rw [fM3 839 k (by omega) (by omega) (by omega) (by omega) (by omega)]; exact g16 k w, g17⟩, g18⟩, Or.inr (Or.inr (Or.inr ⟨6, 3, by omega, by omega, vA3.2.2.2.1, vM3.2.2.1, fun _ => ⟨vA3.2.2.2.2, vM3.2.2.2, by omega, by omega⟩, fun z => by omega, fun z => by omega, fun _ => by omega, by omega⟩)), fun a y w => fA3 a y (by omega) (by omega) (by omega), ndM_t nM2 (fun a y w => fM3 a y (by omega) (by omega) (by omega) (by omega) (by omega)), fun x w => nst_n (fun z => w (by rw [z]; exact how)), fun _ _ => ⟨rfl, rfl⟩, Or.inl ⟨rfl, fA3 20 12 (by omega) (by omega) (by omega)⟩, fun _ a y w => by rw [fM3 a y (by omega) (by omega) (by omega) (by omega) (by omega)]; exact hT2 a y w, fun a y w => by rw [fM3 a y (by omega) (by omega) (by omega) (by omega) (by omega)]; exact hT2 a y (by omega)⟩
    · obtain ⟨z1, z2, z3, z4, z5, z6, z7⟩ := g5.2.2 x w
      refine ⟨by rw [fA3 43 x (by omega) (by omega) (by omega)]; exact z1, z2, by rw [fA3 44 x (by omega) (by omega) (by omega)]; exact z3, z4, ?_, ?_, fun i v => by rw [fA3 46 _ (by omega) (by omega) (by omega)]; exact z7 i v⟩
      · by_cases q : x = f
        · rw [q, nst_s]; exact vA3.1
        · rw [nst_n q, fA3 45 x (by omega) (by omega) (by omega)]; exact z5
      · by_cases q : x = f
        · rw [q, nst_s]; omega
        · rw [nst_n q]; exact z6
    · obtain ⟨z1, z2, z3, z4, z5, b1, b2, b3, b4⟩ := hG2.2.2.2.1.2.2 x w
      refine ⟨by rw [fM3 823 x (by omega) (by omega) (by omega) (by omega) (by omega)]; exact z1, z2, z3, ?_, ?_, by rw [fM3 824 x (by omega) (by omega) (by omega) (by omega) (by omega)]; exact b1, by rw [fM3 825 x (by omega) (by omega) (by omega) (by omega) (by omega)]; exact b2, by rw [fM3 826 x (by omega) (by omega) (by omega) (by omega) (by omega)]; exact b3, fun i v => by rw [fM3 827 _ (by omega) (by omega) (by omega) (by omega) (by omega)]; exact b4 i v⟩
      · by_cases q : x = f
        · rw [q, nst_s]; exact vM3.1
        · rw [nst_n q, fM3 828 x (by omega) (by omega) (by omega) (by omega) (by omega)]; exact z4
      · by_cases q : x = f
        · rw [q, nst_s]; omega
        · rw [nst_n q]; exact z5
    · obtain ⟨k', n', tt, z1, z2, z3, z4, z5, z6, z7⟩ := hG2.2.2.2.2.2.2.1.2.2 i w
      exact ⟨k', n', tt, z1, z2, z3, by rw [fA3 23 i (by omega) (by omega) (by omega)]; exact z4, by rw [fM3 845 i (by omega) (by omega) (by omega) (by omega) (by omega)]; exact z5, by rw [fM3 846 i (by omega) (by omega) (by omega) (by omega) (by omega)]; exact z6, by rw [fM3 847 i (by omega) (by omega) (by omega) (by omega) (by omega)]; exact z7⟩
    · obtain ⟨z1, z2, z3, z4⟩ := hG2.2.2.2.2.2.2.2.2.1 m w
      refine ⟨?_, by rw [fA3 31 m (by omega) (by omega) (by omega)]; exact z2, by rw [fM3 834 m (by omega) (by omega) (by omega) (by omega) (by omega)]; exact z3, by rw [fM3 835 m (by omega) (by omega) (by omega) (by omega) (by omega)]; exact z4⟩
      by_cases q : m = n
      · rw [q, hWT]; exact vA3.2.1
      · rw [wot m q, fA3 30 m (by omega) (by omega) (by omega)]; exact z1
theorem st_lost {fu N t F n K b : Nat} {fb : Nat → Nat} {ow id : Nat → Nat} {oc : Nat → Nat → Nat} {dn ec tc : Nat → Nat} {A M0 M2 : mwM} {Lc Lm : mwL} (hfu : 1300 ≤ fu) (hn : n < 7) (hfl : ∀ i, fb i < 2) (hf0 : fb 0 = 0) (w0 : wR fb 0 = 0) (hls : lsB fb K b = true) (hG2 : BuG A M2 N t F ow id oc dn ec tc) (nM2 : ndM n M0 M2) (hT2 : ∀ a y, (839 ≤ a ∧ a ≤ 844) → M2 a y = M0 a y) (hOc : ∃ o, OcR A (47 + 2 * n) o) (h28 : A 28 n = sI K) (v36 : M2 836 n = sI (K + 1)) (v37 : M2 837 (1200 * n + K) = sI b) (hW : WvR A n fb) (hseen : ∀ i, i < K → i < wN fb → M2 837 (1200 * n + i) = sI (wR fb i)) (pe : 8 * ec n ≤ t) (pt : 40 * tc n + K ≤ t) : StQ N t F ow id oc dn ec tc n A M0 Lc Lm (DX0_loseArbitration fu (sI n) A Lc) (some (mset M2 831 n 2, Lm)) := by
  have hG' := hG2
  obtain ⟨g1, ⟨g2, g3, g4⟩, g5, g6, hWC2, hC2, ⟨g9, g10, g11⟩, ⟨g12, g13⟩, g14, g15, ⟨tn, g16, g17⟩, g18⟩ := hG'
  have ab := arb_b hfl
  have hl := of_decide_eq_true hls
  obtain ⟨q1, q2, q3, q4⟩ := hl
  have K1 : 1 ≤ K := by
    by_cases z : K = 0
    · rw [z, w0] at q3
      omega
    · omega
  have KN : K < wN fb := by omega
  rw [if_pos KN] at q2
  obtain ⟨s, hs1, hs2⟩ : ∃ s : Nat → Nat, (∀ i, i < K → s i = wR fb i) ∧ s K = 0 := ⟨fun i => if i < K then wR fb i else 0, fun i u => if_pos u, if_neg (by omega)⟩
  obtain ⟨c1, c2, c3, c4⟩ := lose_g hfl hf0 K1 KN q1 q2 hs1 hs2
  obtain ⟨⟨A1, La⟩, ea, d1, d2, d3, ⟨o0, d4⟩, d5⟩ := c_lose0 (fu := fu) (A := A) (L := Lc) (by omega) hn hfl K1 KN h28 hW hOc hs1 hs2 c1 c2 c3
  dsimp only at d1 d2 d3 d4 d5
  rw [d1] at ea
  rw [ea]
  have li := Li_b (s := s) (K := K + 1) (by omega) c1 c2 c3
  refine st_calm (BuG_fr hG2 (fun a y w => d5 a y (by omega) (by omega) (by omega)) (fun a y w => by simp (disch := omega) only [mset_n]) (WC_fr hWC2 (fun a y w => by simp (disch := omega) only [mset_n])) (CA_fr hC2 (fun a y w => by simp (disch := omega) only [mset_n]))) (Or.inr (Or.inr (Or.inl ⟨s, K + 1, d2, by rw [mset_s]; rfl, ⟨by omega, by omega, c1, c2, c3, by rw [mset_n (by omega)]; exact v36, fun i u => ?_, d3, o0, d4⟩, by omega, ?_⟩))) (fun a y w => d5 a y (by omega) (by omega) (by omega)) (ndM_t nM2 (fun a y w => by simp (disch := omega) only [mset_n])) (d5 20 12 (by omega) (by omega) (by omega)) (fun a y w => by rw [mset_n (by omega)]; exact hT2 a y w) ⟨_, d4⟩
  · rw [mset_n (by omega)]
    by_cases z : i = K
    · rw [z, hs2, v37, q4]
    · rw [hs1 i (by omega)]
      exact hseen i (by omega) (by omega)
  · have : pgL (hq s (K + 1)) (K + 1) ≤ K + 1 := by unfold pgL; split <;> omega
    omega
theorem st_sent {fu N t F n K b f : Nat} {ow id : Nat → Nat} {oc : Nat → Nat → Nat} {dn ec tc : Nat → Nat} {A M0 M : mwM} {Lc Lm : mwL} (hfu : 1300 ≤ fu) (hn : n < 7) (hb : b < 2) (hG : BuG A M N t F ow id oc dn ec tc) (hM0 : ndM n M0 M) (hT0 : ∀ a y, (839 ≤ a ∧ a ≤ 844) → M a y = M0 a y) (hOc : ∃ o, OcR A (47 + 2 * n) o) (hf : f < F) (how : ow f = n) (hdn : dn f = 0) (h25 : A 25 n = sI 1) (h831 : M 831 n = sI 1) (h27 : A 27 n = sI f) (h833 : M 833 n = sI f) (h28 : A 28 n = sI K) (h836 : M 836 n = sI K) (h32 : A 32 n = sI (wR (fbF (id f) (oc f)) K)) (hK : K < wN (fbF (id f) (oc f)) + 10) (hW : WvR A n (fbF (id f) (oc f))) (hse : ∀ i, i < K → i < wN (fbF (id f) (oc f)) → M 837 (1200 * n + i) = sI (wR (fbF (id f) (oc f)) i)) (pe : 8 * ec n ≤ t) (pt : 40 * tc n + K ≤ t) : StQ N t F ow id oc dn ec tc n A M0 Lc Lm (DX0_see fu (sI n) (sI b) (sI t) A Lc) (DX12_sent fu (sI n) (sI b) M Lm) := by
  have hG' := hG
  obtain ⟨g1, ⟨g2, g3, g4⟩, g5, g6, hWC, hC, ⟨g9, g10, g11⟩, ⟨g12, g13⟩, g14, g15, ⟨tn, g16, g17⟩, g18⟩ := hG'
  have hfl := fbF_lt (id f) (oc f)
  have hf0 := fb_0 (id f) (oc f)
  have w0 := wR_0 (id f) (oc f)
  have hF200 := g5.2.1
  rw [c_see1 hn h25]
  obtain ⟨⟨M1, L1⟩, e1, x1, x2, x3, x4, x5⟩ := m_write (fu := fu) (L := Lm) (by omega) g6 hf hWC
  dsimp only at x1 x2 x3 x4 x5
  rw [x1] at e1
  have hC1 := x4 hC
  have hWC1 : WC M1 F id oc := Or.inr ⟨f, hf, x3, x2⟩
  generalize hfb : fbF (id f) (oc f) = fb at *
  have wb := wN_b hfl
  have ab := arb_b hfl
  have wl := wR_lt hfl K
  rw [c_isLosing hn hb hfl hK h28 h32 hW, mb3_s]
  unfold DX12_sent
  rw [mck_s (by omega) (by omega), sI_nn (by omega), h833]
  simp only [mlet]
  rw [e1, mb2_s, mck_s (by omega) (by omega), x5 836 n (by omega) (by omega) (by omega) (by omega) (by omega), h836, m_see12 hn (by rw [x5 836 n (by omega) (by omega) (by omega) (by omega) (by omega)]; exact h836) (by omega) hb, mb2_s]
  generalize hM2 : mset (mset M1 837 (1200 * n + K) (sI b)) 836 n (sI (K + 1)) = M2
  have f2 : ∀ a y, ¬ (a = 836 ∧ y = n) → ¬ (a = 837 ∧ y = 1200 * n + K) → M2 a y = M1 a y := fun a y w1 w2 => by rw [← hM2, mset_n w1, mset_n w2]
  have fM : ∀ a y, ¬ (a = 836 ∧ y = n) → ¬ (a = 837 ∧ y = 1200 * n + K) → ¬ (a = 821 ∧ (y = 34 ∨ y = 37 ∨ y = 38 ∨ y = 41 ∨ y = 48 ∨ y = 50)) → a ≠ 848 → a ≠ 849 → a ≠ 850 → a ≠ 852 → M2 a y = M a y := fun a y w1 w2 w3 w4 w5 w6 w7 => by rw [f2 a y w1 w2, x5 a y w3 w4 w5 w6 w7]
  have v36 : M2 836 n = sI (K + 1) := by rw [← hM2, mset_s]
  have v37 : M2 837 (1200 * n + K) = sI b := by rw [← hM2, mset_n (by omega), mset_s]
  have hC2 : CA M2 := CA_fr hC1 (fun a y w => f2 a y (by omega) (by omega))
  have hWC2 : WC M2 F id oc := WC_fr hWC1 (fun a y w => f2 a y (by omega) (by omega))
  obtain ⟨r37, rR, r38⟩ := WrM_fr (M' := M2) x2 (fun a y w => f2 a y (by omega) (by omega))
  obtain ⟨rRK, rFK⟩ := rR K hK
  have hG2 : BuG A M2 N t F ow id oc dn ec tc := BuG_fr hG (fun _ _ _ => rfl) (fun a y w => fM a y (by omega) (by omega) (by omega) (by omega) (by omega) (by omega) (by omega)) hWC2 hC2
  have nM2 : ndM n M0 M2 := ndM_t hM0 (fun a y w => fM a y (by omega) (by omega) (by omega) (by omega) (by omega) (by omega) (by omega))
  have hT2 : ∀ a y, (839 ≤ a ∧ a ≤ 844) → M2 a y = M0 a y := fun a y w => by rw [fM a y (by omega) (by omega) (by omega) (by omega) (by omega) (by omega) (by omega)]; exact hT0 a y w
  have v831 : M2 831 n = sI 1 := by rw [fM 831 n (by omega) (by omega) (by omega) (by omega) (by omega) (by omega) (by omega)]; exact h831
  have v833 : M2 833 n = sI f := by rw [fM 833 n (by omega) (by omega) (by omega) (by omega) (by omega) (by omega) (by omega)]; exact h833
  rw [r38, mck_s (by omega) (by omega), mck_s (by omega) (by omega), sI_nn (by omega), rRK, rFK]
  have flt2 : (if K < wN fb then lyF fb 98 K else 0) < 2 := by
    split
    · exact (ly_b hfl 98 K (by assumption)).2.1
    · omega
  have pick : ∀ (X Y : Option (mwM × mwL)), (if sI ((lyN fb 13).1 + 1) ≤ sI K then Y else if sI (if K < wN fb then lyF fb 98 K else 0) = 0 then (if sI (wR fb K) = 1 then (if sI b = 0 then X else Y) else Y) else Y) = (if lsB fb K b = true then X else Y) := by
    intro X Y
    unfold lsB
    generalize (if K < wN fb then lyF fb 98 K else 0) = q at flt2
    by_cases d1 : (lyN fb 13).1 + 1 ≤ K
    · rw [if_pos (by rw [sI_le (by omega) (by omega)]; exact d1), if_neg]
      rw [decide_eq_true_iff]
      omega
    · rw [if_neg (by rw [sI_le (by omega) (by omega)]; exact d1)]
      by_cases d2 : q = 0
      · rw [if_pos (show sI q = 0 by rw [d2]; rfl)]
        by_cases d3 : wR fb K = 1
        · rw [if_pos (show sI (wR fb K) = 1 by rw [d3]; rfl)]
          by_cases d4 : b = 0
          · rw [if_pos (show sI b = 0 by rw [d4]; rfl), if_pos]
            rw [decide_eq_true_iff]
            exact ⟨by omega, d2, d3, d4⟩
          · rw [if_neg (show ¬ sI b = 0 by rw [sI_eql (by omega) (by decide)]; exact d4), if_neg]
            rw [decide_eq_true_iff]
            exact fun z => d4 z.2.2.2
        · rw [if_neg (show ¬ sI (wR fb K) = 1 by rw [sI_eql (by omega) (by decide)]; exact d3), if_neg]
          rw [decide_eq_true_iff]
          exact fun z => d3 z.2.2.1
      · rw [if_neg (show ¬ sI q = 0 by rw [sI_eql (by omega) (by decide)]; exact d2), if_neg]
        rw [decide_eq_true_iff]
        exact fun z => d2 z.2.1
  rw [pick]
  unfold fX12_sent_b64 fX12_sent_b65
  rw [r37, w_9 (wN fb) (by omega)]
  cases hls : lsB fb K b with
  | true =>
    rw [if_neg (show ¬ bI true = 0 by decide), if_pos rfl]
    have b84 : ∀ x : Int32, fX12_sent_b84 fu (sI n) (sI b) (sI f) (sI K) 1 x M2 Lm = some (mset M2 831 n 2, Lm) := fun x => by
      unfold fX12_sent_b84 fX12_sent_b202
      rw [if_neg (show ¬ (1 : Int32) = 0 by decide), mck_s (by omega) (by omega), sI_nn (by omega)]
      rfl
    have fin : StQ N t F ow id oc dn ec tc n A M0 Lc Lm (DX0_loseArbitration fu (sI n) A Lc) (some (mset M2 831 n 2, Lm)) := by
      refine st_lost hfu hn hfl hf0 w0 hls hG2 nM2 hT2 hOc h28 v36 v37 hW (fun i u1 u2 => ?_) pe pt
      rw [f2 837 _ (by omega) (by omega), x5 837 _ (by omega) (by omega) (by omega) (by omega) (by omega)]
      exact hse i u1 u2
    rw [b84, b84]
    split
    · exact fin
    · exact fin
  | false =>
    rw [if_pos (show bI false = 0 from rfl), if_neg (by decide)]
    unfold DX0_seeSending
    have a29 := hW.2.2
    rw [mck_s hn (by omega), mck_s hn (by omega), sI_nn (by omega), h28, a29, w_10 (wN fb) (by omega)]
    -- it went well
    have well : (K < wN fb → b = wR fb K) → StQ N t F ow id oc dn ec tc n A M0 Lc Lm (fX0_seeSending_b79 fu (sI n) (sI b) (sI t) A Lc) (fX12_sent_b143 fu (sI n) (sI b) (sI f) (sI K) M2 Lm) := by
      intro hbe
      refine st_well hn rfl wb hfb hG2 nM2 hT2 hOc hf how hdn h25 v831 h27 v833 h28 v36 hK hW a29 r37 (fun i u1 u2 => ?_) pe pt
      by_cases z : i = K
      · rw [z] at u2 ⊢
        rw [v37, hbe u2]
      · rw [f2 837 _ (by omega) (by omega), x5 837 _ (by omega) (by omega) (by omega) (by omega) (by omega)]
        exact hse i (by omega) u2
    have flt : ∀ k, k < 8 → StQ N t F ow id oc dn ec tc n A M0 Lc Lm (DX0_tellFault fu (sI n) (sI k) (sI t) A Lc) (DX12_wrong fu (sI n) (sI k) M2 Lm) := fun k hk => st_fault hn hk hG2 (fun _ _ _ => rfl) nM2 pe (by omega) rfl hT2 hOc
    have z0' : (0 : Int32) = 0 := rfl
    have z1' : ¬ (1 : Int32) = 0 := by decide
    by_cases ca : K = wN fb + 1
    · have e : sI K = sI (wN fb + 1) := by rw [ca]
      rw [if_pos e, if_pos e]
      unfold fX0_seeSending_b29 fX12_sent_b84
      rw [if_neg z1', if_pos z0', if_neg z1']
      by_cases cb : b = 1
      · have eb : sI b = 1 := by rw [cb]; rfl
        unfold fX0_seeSending_b115 fX12_sent_b125
        rw [if_pos eb, if_pos eb, if_neg z1', mb2_id]
        unfold fX12_sent_b137 fX12_sent_b202
        rw [mb2_id]
        exact flt 4 (by omega)
      · have eb : ¬ sI b = 1 := by rw [sI_eql (by omega) (by decide)]; exact cb
        rw [if_neg eb, if_neg eb]
        unfold fX0_seeSending_b51
        rw [if_neg z1']
        exact well (fun z => by omega)
    · have e : ¬ sI K = sI (wN fb + 1) := by rw [sI_eq (by omega) (by omega)]; exact ca
      rw [if_neg e, if_neg e]
      unfold fX0_seeSending_b29 fX12_sent_b84
      rw [if_pos z0', if_pos z0', if_pos z0']
      unfold fX0_seeSending_b51
      rw [if_pos z0', mck_s hn (by omega), sI_nn (by omega), h32, mck_s (by omega) (by omega), sI_nn (by omega), rRK]
      by_cases cb : b = wR fb K
      · have eb : sI b = sI (wR fb K) := congrArg sI cb
        rw [if_pos eb, if_pos eb]
        exact well (fun _ => cb)
      · have eb : ¬ sI b = sI (wR fb K) := fun z => cb (sI_inj (by omega) (by omega) z)
        rw [if_neg eb, if_neg eb]
        unfold fX0_seeSending_b115 fX12_sent_b125
        rw [if_pos z0', mb2_id]
        unfold fX12_sent_b137 fX12_sent_b202
        rw [mb2_id]
        exact flt 0 (by omega)
/-! one bit on the bus: a node sees -/
def NmR (A M : mwM) (F : Nat) (ow id : Nat → Nat) (oc : Nat → Nat → Nat) (dn : Nat → Nat) (n t ecn tcn pb : Nat) : Prop := A 32 n = sI pb ∧
  ((A 25 n = sI 0 ∧ M 831 n = sI 0 ∧ fsF ow id oc dn n F = 0 ∧ pb = 1 ∧ 8 * ecn ≤ t ∧ 40 * tcn ≤ t) ∨
  (∃ f, fsF ow id oc dn n F = f + 1 ∧ A 25 n = sI 1 ∧ M 831 n = sI 0 ∧ A 27 n = sI f ∧ A 28 n = sI 0 ∧ WvR A n (fbF (id f) (oc f)) ∧ pb = 0 ∧ 8 * ecn ≤ t ∧ 40 * tcn ≤ t) ∨
  (∃ f K, f < F ∧ ow f = n ∧ dn f = 0 ∧ A 25 n = sI 1 ∧ M 831 n = sI 1 ∧ A 27 n = sI f ∧ M 833 n = sI f ∧ A 28 n = sI K ∧ M 836 n = sI K ∧ 1 ≤ K ∧ K < wN (fbF (id f) (oc f)) + 10 ∧ WvR A n (fbF (id f) (oc f)) ∧ (∀ i, i < K → i < wN (fbF (id f) (oc f)) → M 837 (1200 * n + i) = sI (wR (fbF (id f) (oc f)) i)) ∧ pb = wR (fbF (id f) (oc f)) K ∧ 8 * ecn ≤ t ∧ 40 * tcn + K ≤ t) ∨
  (∃ s K, A 25 n = sI 2 ∧ M 831 n = sI 2 ∧ LiR A M n K s ∧ 8 * ecn ≤ t ∧ 40 * tcn + pgL (hq s K) K ≤ t) ∨
  (∃ st lf, 3 ≤ st ∧ st ≤ 6 ∧ A 25 n = sI st ∧ M 831 n = sI st ∧ (st ≠ 4 → A 26 n = sI lf ∧ M 832 n = sI lf ∧ 1 ≤ lf ∧ lf ≤ 7) ∧ (st = 3 → 8 * ecn ≤ t + 1 + lf) ∧ (st = 4 → 8 * ecn ≤ t + 1) ∧ (5 ≤ st → 8 * ecn ≤ t) ∧ 40 * tcn ≤ t))
theorem fsF_c {ow id dn dn' : Nat → Nat} {oc : Nat → Nat → Nat} {n : Nat} (h : ∀ f, ow f = n → dn' f = dn f) : ∀ F, fsF ow id oc dn' n F = fsF ow id oc dn n F := by
  intro F
  induction F with
  | zero => rfl
  | succ F ih =>
    rw [fsF_s, fsF_s, ih]
    by_cases c : ow F = n
    · rw [h F c]
    · rw [if_neg (fun z => c z.1), if_neg (fun z => c z.1)]
theorem NmR_o {A A' M M' : mwM} {F : Nat} {ow id : Nat → Nat} {oc : Nat → Nat → Nat} {dn dn' : Nat → Nat} {n m t ecn tcn pb : Nat} (hm : m ≠ n) (hn7 : n < 7) (hm7 : m < 7) (h : NmR A M F ow id oc dn m t ecn tcn pb) (hA : ndA n A A') (hM : ndM n M M') (hd : ∀ f, ow f ≠ n → dn' f = dn f) : NmR A' M' F ow id oc dn' m t ecn tcn pb := by
  have a : ∀ x, 25 ≤ x → x ≤ 32 → A' x m = A x m := fun x u1 u2 => hA x m (by omega)
  have fc : fsF ow id oc dn' m F = fsF ow id oc dn m F := fsF_c (fun f u => hd f (by omega)) F
  refine ⟨by rw [a 32 (by omega) (by omega)]; exact h.1, ?_⟩
  rcases h.2 with ⟨h1, h2, h3, h4, h5, h6⟩ | ⟨f, f1, f2, f3, f4, f5, f6, f7, f8, f9⟩ | ⟨f, K, f1, f2, f3, f4, f5, f6, f7, f8, f9, f10, f11, f12, f13, f14, f15, f16⟩ | ⟨s, K, k1, k2, k3, k4, k5⟩ | ⟨st, lf, g1, g2, g3, g4, g5, g6, g7, g8, g9⟩
  · exact Or.inl ⟨by rw [a 25 (by omega) (by omega)]; exact h1, by rw [hM 831 m (by omega)]; exact h2, by rw [fc]; exact h3, h4, h5, h6⟩
  · exact Or.inr (Or.inl ⟨f, by rw [fc]; exact f1, by rw [a 25 (by omega) (by omega)]; exact f2, by rw [hM 831 m (by omega)]; exact f3, by rw [a 27 (by omega) (by omega)]; exact f4, by rw [a 28 (by omega) (by omega)]; exact f5, WvR_fr f6 (fun x y u => hA x y (by omega)), f7, f8, f9⟩)
  · refine Or.inr (Or.inr (Or.inl ⟨f, K, f1, f2, by rw [hd f (by omega)]; exact f3, by rw [a 25 (by omega) (by omega)]; exact f4, by rw [hM 831 m (by omega)]; exact f5, by rw [a 27 (by omega) (by omega)]; exact f6, by rw [hM 833 m (by omega)]; exact f7, by rw [a 28 (by omega) (by omega)]; exact f8, by rw [hM 836 m (by omega)]; exact f9, f10, f11, WvR_fr f12 (fun x y u => hA x y (by omega)), fun i u1 u2 => ?_, f14, f15, f16⟩))
    have wb := wN_b (f := fbF (id f) (oc f)) (fbF_lt _ _)
    rw [hM 837 _ (by omega)]
    exact f13 i u1 u2
  · exact Or.inr (Or.inr (Or.inr (Or.inl ⟨s, K, by rw [a 25 (by omega) (by omega)]; exact k1, by rw [hM 831 m (by omega)]; exact k2, LiR_fr k3 (fun x y u => hA x y (by omega)) (fun x y u => hM x y (by omega)), k4, k5⟩)))
  · refine Or.inr (Or.inr (Or.inr (Or.inr ⟨st, lf, g1, g2, by rw [a 25 (by omega) (by omega)]; exact g3, by rw [hM 831 m (by omega)]; exact g4, fun z => ?_, g6, g7, g8, g9⟩)))
    rw [a 26 (by omega) (by omega), hM 832 m (by omega)]
    exact g5 z
theorem st_node {fu N t F n b pb : Nat} {ow id : Nat → Nat} {oc : Nat → Nat → Nat} {dn ec tc : Nat → Nat} {A M : mwM} {Lc Lm : mwL} (hfu : 1300 ≤ fu) (hn : n < 7) (hb : b < 2) (hG : BuG A M N t F ow id oc dn ec tc) (hOc : ∃ o, OcR A (47 + 2 * n) o) (hN : NmR A M F ow id oc dn n t (ec n) (tc n) pb) : StQ N t F ow id oc dn ec tc n A M Lc Lm (DX0_see fu (sI n) (sI b) (sI t) A Lc) (DX12_sees fu (sI n) (sI b) M Lm) := by
  obtain ⟨h32, hN⟩ := hN
  rcases hN with ⟨h1, h2, h3, h4, h5, h6⟩ | ⟨f, f1, f2, f3, f4, f5, f6, f7, f8, f9⟩ | ⟨f, K, f1, f2, f3, f4, f5, f6, f7, f8, f9, f10, f11, f12, f13, f14, f15, f16⟩ | ⟨s, K, k1, k2, k3, k4, k5⟩ | ⟨st, lf, g1, g2, g3, g4, g5, g6, g7, g8, g9⟩
  · exact st_Q hfu hn hb hG hOc h1 h2 h3 h5 h6
  · have hG' := hG
    obtain ⟨_, _, _, hFM, hW, hC, _⟩ := hG'
    have le := (fsF_le (ow := ow) (id := id) (dn := dn) (oc := oc) (n := n) F)
    have own := le.2 (by omega)
    rw [f1, Nat.add_sub_cancel] at own
    rw [f1] at le
    have hF := hFM.2.1
    unfold DX12_sees
    rw [mck_s (by omega) (by omega), sI_nn (by omega), f3, if_pos (show sI 0 = 0 from rfl), mck_s (by omega) (by omega)]
    simp only [mlet]
    obtain ⟨⟨r, M1, L1⟩, e1, y1, y2, y3, y4⟩ := m_first (fu := fu) (M := mset M 836 n 0) (L := Lm) (by omega) hn (FrM_fr hFM (fun a y u => by simp (disch := omega) only [mset_n]))
    dsimp only at y1 y2 y3 y4
    have ef : fI (f + 1) = sI f := by
      unfold fI
      rw [if_neg (by omega), Nat.add_sub_cancel]
    rw [f1, ef] at y1
    rw [y1, y2] at e1
    have em : ¬ sI f = -1 := fun z => sI_m1n (by omega) z.symm
    have hC1 : CA M1 := y4 (CA_fr hC (fun a y u => by simp (disch := omega) only [mset_n]))
    have fM : ∀ a y, ¬ (a = 836 ∧ y = n) → ¬ (a = 821 ∧ (y = 34 ∨ y = 48)) → a ≠ 848 → a ≠ 851 → M1 a y = M a y := fun a y u1 u2 u3 u4 => by rw [y3 a y u2 u3 u4, mset_n u1]
    rw [e1, mb3_s, if_neg em]
    unfold fX12_sees_b33 fX12_sees_b48
    rw [if_neg em, mck_s (by omega) (by omega), sI_nn (by omega)]
    simp only [mlet]
    rw [mck_s (by omega) (by omega)]
    generalize hM2 : mset (mset M1 831 n 1) 833 n (sI f) = M2
    have f2' : ∀ a y, ¬ ((a = 831 ∨ a = 833) ∧ y = n) → M2 a y = M1 a y := fun a y u => by rw [← hM2, mset_n (by omega), mset_n (by omega)]
    have v2 : M2 831 n = sI 1 := by rw [← hM2, mset_n (by omega), mset_s]; rfl
    have v3 : M2 833 n = sI f := by rw [← hM2, mset_s]
    have k0 : M2 836 n = sI 0 := by rw [f2' 836 n (by omega), y3 836 n (by omega) (by omega) (by omega), mset_s]; rfl
    rw [m_b561 hn v2]
    have wb := wN_b (f := fbF (id f) (oc f)) (fbF_lt _ _)
    exact st_sent hfu hn hb (BuG_fr hG (fun _ _ _ => rfl) (fun a y u => by rw [f2' a y (by omega), fM a y (by omega) (by omega) (by omega) (by omega)]) (WC_fr hW (fun a y u => by rw [f2' a y (by omega), fM a y (by omega) (by omega) (by omega) (by omega)])) (CA_fr hC1 (fun a y u => f2' a y (by omega)))) (fun a y u => by rw [f2' a y (by omega), fM a y (by omega) (by omega) (by omega) (by omega)]) (fun a y u => by rw [f2' a y (by omega), fM a y (by omega) (by omega) (by omega) (by omega)]) hOc (by omega) own.1 own.2 f2 v2 f4 v3 f5 k0 (by rw [wR_0, h32, f7]) (by omega) f6 (fun i u => by omega) f8 (by omega)
  · rw [m_seesn hn f5 (by omega) (by omega), m_b561 hn f5]
    exact st_sent hfu hn hb hG (fun _ _ _ => rfl) (fun _ _ _ => rfl) hOc f1 f2 f3 f4 f5 f6 f7 f8 f9 (by rw [h32, f14]) f11 f12 f13 f15 f16
  · exact st_L hfu hn hb hG k1 k2 k3 k4 k5
  · rcases (show st = 3 ∨ st = 4 ∨ st = 5 ∨ st = 6 by omega) with rfl | rfl | rfl | rfl
    · obtain ⟨a1, a2, a3, a4⟩ := g5 (by omega)
      exact st_X3 hn hG hOc g3 g4 a1 a2 a3 a4 (g6 rfl) g9
    · exact st_X4 hn hb hG hOc g3 g4 (g7 rfl) g9
    · obtain ⟨a1, a2, a3, a4⟩ := g5 (by omega)
      exact st_X5 hn hb hG hOc g3 g4 a1 a2 a3 a4 (g8 (by omega)) g9
    · obtain ⟨a1, a2, a3, a4⟩ := g5 (by omega)
      exact st_X6 hfu hn hb hG hOc g3 g4 a1 a2 a3 a4 (g8 (by omega)) g9
/-! one bit on the bus: a node puts -/
/-- what a put changes -/
def puA (n : Nat) (A A' : mwM) : Prop := ∀ a y, ¬ ((a = 25 ∨ a = 27 ∨ a = 28 ∨ a = 29 ∨ a = 32) ∧ y = n) → a ≠ 34 + n → A' a y = A a y
def puM (M M' : mwM) : Prop := ∀ a y, ¬ (a = 821 ∧ (y = 34 ∨ y = 37 ∨ y = 38 ∨ (41 ≤ y ∧ y ≤ 46) ∨ (48 ≤ y ∧ y ≤ 50))) → ¬ (848 ≤ a ∧ a ≤ 853) → M' a y = M a y
theorem st_put {fu N t F n : Nat} {ow id : Nat → Nat} {oc : Nat → Nat → Nat} {dn ec tc : Nat → Nat} {A M : mwM} {Lc Lm : mwL} (hfu : 1300 ≤ fu) (hn : n < 7) (hG : BuG A M N t F ow id oc dn ec tc) (hN : NdR A M F ow id oc dn n t (ec n) (tc n)) : ∃ (A' M' : mwM) (pb : Nat), pb < 2 ∧ DX0_putOf fu (sI n) A Lc = some (sI pb, A', Lc) ∧ DX12_puts fu (sI n) M Lm = some (sI pb, M', Lm) ∧ BuG (mset A' 32 n (sI pb)) M' N t F ow id oc dn ec tc ∧ NmR (mset A' 32 n (sI pb)) M' F ow id oc dn n t (ec n) (tc n) pb ∧ puA n A (mset A' 32 n (sI pb)) ∧ puM M M' := by
  have hG' := hG
  obtain ⟨_, _, hFC, hFM, hW, hC, _, _, h14, _⟩ := hG'
  have waits := (h14 n hn).1
  have cle := cnt_le (fun f => decide (ow f = n ∧ dn f = 0)) F
  have hF := hFC.2.1
  have le := (fsF_le (ow := ow) (id := id) (dn := dn) (oc := oc) (n := n) F)
  unfold DX0_putOf DX12_puts fX12_puts_b23 fX12_puts_b79 fX12_puts_b95
  rw [mck_s hn (by omega), sI_nn (by omega), mck_s (show n < 32 by omega) (by omega)]
  simp only [mlet, mb3_id3]
  rcases hN with ⟨h1, h2, h3, h4⟩ | ⟨f, K, f1, f2, f3, f4, f5, f6, f7, f8, f9, f10, f11, f12, f13, f14, f15⟩ | ⟨s, K, k1, k2, k3, k4, k5⟩ | ⟨st, lf, g1, g2, g3, g4, g5, g6, g7, g8, g9⟩
  · rw [h1, h2, if_pos (show sI 0 = 0 from rfl), if_pos (show sI 0 = 0 from rfl), mck_s hn (by omega), waits]
    obtain ⟨⟨r, M1, L1⟩, e1, y1, y2, y3, y4⟩ := m_first (fu := fu) (L := Lm) (by omega) hn hFM
    dsimp only at y1 y2 y3 y4
    rw [y1, y2] at e1
    rw [e1, mb3_s]
    have pM : puM M M1 := fun a y u1 u2 => y3 a y (by omega) (by omega) (by omega)
    have hW1 : WC M1 F id oc := WC_fr hW (fun a y u => y3 a y (by omega) (by omega) (by omega))
    by_cases q : fsF ow id oc dn n F = 0
    · rw [(fs_cnt F).mp q, if_pos (show sI 0 = 0 from rfl), q, if_pos (show fI 0 = -1 from rfl)]
      refine ⟨A, M1, 1, by omega, rfl, rfl, BuG_fr hG (fun a y u => by simp (disch := omega) only [mset_n]) (fun a y u => y3 a y (by omega) (by omega) (by omega)) hW1 (y4 hC), ⟨mset_s, Or.inl ⟨by rw [mset_n (by omega)]; exact h1, by rw [y3 831 n (by omega) (by omega) (by omega)]; exact h2, q, rfl, h3, h4⟩⟩, fun a y u1 u2 => mset_n (by omega), pM⟩
    · have cn : cnt (fun f => decide (ow f = n ∧ dn f = 0)) F ≠ 0 := fun z => q ((fs_cnt F).mpr z)
      have ef : fI (fsF ow id oc dn n F) = sI (fsF ow id oc dn n F - 1) := if_neg q
      have em : ¬ sI (fsF ow id oc dn n F - 1) = -1 := fun z => sI_m1n (by omega) z.symm
      obtain ⟨⟨A1, La⟩, ea, b1, b2, b3, b4, b5, b6⟩ := c_beginSending (fu := fu) (A := A) (L := Lc) (by omega) hn hFC q
      dsimp only at b1 b2 b3 b4 b5 b6
      rw [b1] at ea
      rw [if_neg (show ¬ sI (cnt (fun f => decide (ow f = n ∧ dn f = 0)) F) = 0 by rw [sI_eql (by omega) (by decide)]; exact cn), ea, mb2_s, ef, if_neg em]
      refine ⟨A1, M1, 0, by omega, rfl, rfl, BuG_fr hG (fun a y u => by rw [mset_n (by omega), b6 a y (by omega) (by omega)]) (fun a y u => y3 a y (by omega) (by omega) (by omega)) hW1 (y4 hC), ⟨mset_s, Or.inr (Or.inl ⟨fsF ow id oc dn n F - 1, by omega, by rw [mset_n (by omega)]; exact b2, by rw [y3 831 n (by omega) (by omega) (by omega)]; exact h2, by rw [mset_n (by omega)]; exact b3, by rw [mset_n (by omega)]; exact b4, WvR_fr b5 (fun a y u => mset_n (by omega)), rfl, h3, h4⟩)⟩, fun a y u1 u2 => by rw [mset_n (by omega), b6 a y u2 (by omega)], pM⟩
  · have wb := wN_b (f := fbF (id f) (oc f)) (fbF_lt _ _)
    have wl := wR_lt (f := fbF (id f) (oc f)) (fbF_lt _ _) K
    have wire : A (34 + n) K &&& 1 = sI (wR (fbF (id f) (oc f)) K) := by
      by_cases c : K < wN (fbF (id f) (oc f))
      · rw [f12.1 K c, wv_1 (ly_b (fbF_lt _ _) 98 K c).1]
        unfold wR
        rw [if_pos c]
      · rw [f12.2.1 K (by omega) f11]
        unfold wR
        rw [if_neg c]
        rfl
    rw [f4, f5, if_neg (show ¬ sI 1 = 0 by decide), if_pos (show sI 1 = 1 from rfl), if_neg (show ¬ sI 1 = 0 by decide), mck_s hn (by omega), mck_s hn (by omega), f8, mck_s (by omega) (by omega), sI_nn (by omega), wire, mck_s (show n < 32 by omega) (by omega), if_pos (show sI 1 = 1 from rfl), mck_s (show n < 32 by omega) (by omega), f7]
    obtain ⟨⟨M1, L1⟩, e1, x1, x2, x3, x4, x5⟩ := m_write (fu := fu) (L := Lm) (by omega) hFM f1 hW
    dsimp only at x1 x2 x3 x4 x5
    rw [x1] at e1
    have pM : puM M M1 := fun a y u1 u2 => x5 a y (by omega) (by omega) (by omega) (by omega) (by omega)
    rw [e1, mb2_s, mck_s (show n < 32 by omega) (by omega), x5 836 n (by omega) (by omega) (by omega) (by omega) (by omega), f9, mck_s (by omega) (by omega), sI_nn (by omega), (x2.2.1 K f11).1]
    refine ⟨A, M1, _, wl, rfl, rfl, BuG_fr hG (fun a y u => by simp (disch := omega) only [mset_n]) (fun a y u => x5 a y (by omega) (by omega) (by omega) (by omega) (by omega)) (Or.inr ⟨f, f1, x3, x2⟩) (x4 hC), ⟨mset_s, Or.inr (Or.inr (Or.inl ⟨f, K, f1, f2, f3, by rw [mset_n (by omega)]; exact f4, by rw [x5 831 n (by omega) (by omega) (by omega) (by omega) (by omega)]; exact f5, by rw [mset_n (by omega)]; exact f6, by rw [x5 833 n (by omega) (by omega) (by omega) (by omega) (by omega)]; exact f7, by rw [mset_n (by omega)]; exact f8, by rw [x5 836 n (by omega) (by omega) (by omega) (by omega) (by omega)]; exact f9, f10, f11, WvR_fr f12 (fun a y u => mset_n (by omega)), fun i u1 u2 => by rw [x5 837 _ (by omega) (by omega) (by omega) (by omega) (by omega)]; exact f13 i u1 u2, rfl, f14, f15⟩))⟩, fun a y u1 u2 => mset_n (by omega), pM⟩
  · obtain ⟨l1, l2, l3, l4, l5, l6, l7, l8, o0, l9⟩ := k3
    rw [k1, k2, if_neg (show ¬ sI 2 = 0 by decide), if_neg (show ¬ sI 2 = 1 by decide), if_pos (show sI 2 = 2 from rfl), if_neg (show ¬ sI 2 = 0 by decide), mck_s hn (by omega), c_putK (fu := fu) (L := Lc) l8 l1 l3 l4 l5, mck_s (show n < 32 by omega) (by omega), if_neg (show ¬ sI 2 = 1 by decide), mck_s (show n < 32 by omega) (by omega), if_pos (show sI 2 = 2 from rfl)]
    obtain ⟨E, hV⟩ := CaV_ex (s := s) (K := K) l1 (by omega) l3 l4 (fun j u1 u2 => l5 j u1 (by omega))
    obtain ⟨⟨r, M1, L1⟩, e1, y1, y2, y3, y4⟩ := m_answers (fu := fu) (L := Lm) hfu hn l6 l7 l3 hV l5 hC
    dsimp only at y1 y2 y3 y4
    rw [y1, y2] at e1
    rw [e1, mb3_s]
    have pM : puM M M1 := fun a y u1 u2 => y3 a y (by omega) (by omega) (by omega) (by omega)
    have pl : putK (hq s K) < 2 := by unfold putK; split <;> omega
    have eq : (if bI (decide (putK (hq s K) = 0)) = 0 then some ((1 : Int32), M1, Lm) else some (0, M1, Lm)) = some (sI (putK (hq s K)), M1, Lm) := by
      by_cases c : putK (hq s K) = 0
      · rw [decide_eq_true c, if_neg (show ¬ bI true = 0 by decide), c]
        rfl
      · rw [decide_eq_false c, if_pos (show bI false = 0 from rfl), show putK (hq s K) = 1 by omega]
        rfl
    rw [eq]
    refine ⟨A, M1, _, pl, rfl, rfl, BuG_fr hG (fun a y u => by simp (disch := omega) only [mset_n]) (fun a y u => y3 a y (by omega) (by omega) (by omega) (by omega)) (WC_fr hW (fun a y u => y3 a y (by omega) (by omega) (by omega) (by omega))) y4, ⟨mset_s, Or.inr (Or.inr (Or.inr (Or.inl ⟨s, K, by rw [mset_n (by omega)]; exact k1, by rw [y3 831 n (by omega) (by omega) (by omega) (by omega)]; exact k2, LiR_fr ⟨l1, l2, l3, l4, l5, l6, l7, l8, o0, l9⟩ (fun a y u => mset_n (by omega)) (fun a y u => y3 a y (by omega) (by omega) (by omega) (by omega)), k4, k5⟩)))⟩, fun a y u1 u2 => mset_n (by omega), pM⟩
  · have fin : ∀ pb, pb < 2 → BuG (mset A 32 n (sI pb)) M N t F ow id oc dn ec tc ∧ NmR (mset A 32 n (sI pb)) M F ow id oc dn n t (ec n) (tc n) pb ∧ puA n A (mset A 32 n (sI pb)) ∧ puM M M := fun pb _ => ⟨BuG_fr hG (fun a y u => by simp (disch := omega) only [mset_n]) (fun _ _ _ => rfl) hW hC, ⟨mset_s, Or.inr (Or.inr (Or.inr (Or.inr ⟨st, lf, g1, g2, by rw [mset_n (by omega)]; exact g3, g4, fun z => by rw [mset_n (by omega)]; exact g5 z, g6, g7, g8, g9⟩)))⟩, fun a y u1 u2 => mset_n (by omega), fun _ _ _ _ => rfl⟩
    have n0 : ¬ sI st = 0 := by rw [sI_eql (by omega) (by decide)]; omega
    have n1 : ¬ sI st = 1 := by rw [sI_eql (by omega) (by decide)]; omega
    have n2 : ¬ sI st = 2 := by rw [sI_eql (by omega) (by decide)]; omega
    rw [g3, g4, if_neg n0, if_neg n1, if_neg n2, if_neg n0, mck_s (show n < 32 by omega) (by omega), if_neg n1, mck_s (show n < 32 by omega) (by omega), if_neg n2, mck_s (show n < 32 by omega) (by omega)]
    by_cases c : st = 3
    · have e3 : sI st = 3 := by rw [c]; rfl
      rw [if_pos e3, if_pos e3]
      exact ⟨A, M, 0, by omega, rfl, rfl, fin 0 (by omega)⟩
    · have e3 : ¬ sI st = 3 := by rw [sI_eql (by omega) (by decide)]; exact c
      rw [if_neg e3, if_neg e3]
      exact ⟨A, M, 1, by omega, rfl, rfl, fin 1 (by omega)⟩
/-! one bit on the bus: all nodes see -/
theorem NdR_e {A A' M M' : mwM} {F : Nat} {ow id : Nat → Nat} {oc : Nat → Nat → Nat} {dn : Nat → Nat} {m t ecn tcn : Nat} (h : NdR A M F ow id oc dn m t ecn tcn) (hA : ∀ a y, a ≠ 20 → a ≠ 21 → A' a y = A a y) (hM : ∀ a y, a ≠ 821 → a ≠ 822 → M' a y = M a y) : NdR A' M' F ow id oc dn m t ecn tcn := by
  rcases h with ⟨h1, h2, h3, h4⟩ | ⟨f, K, f1, f2, f3, f4, f5, f6, f7, f8, f9, f10, f11, f12, f13, f14, f15⟩ | ⟨s, K, k1, k2, k3, k4, k5⟩ | ⟨st, lf, g1, g2, g3, g4, g5, g6, g7, g8, g9⟩
  · exact Or.inl ⟨by rw [hA 25 m (by omega) (by omega)]; exact h1, by rw [hM 831 m (by omega) (by omega)]; exact h2, h3, h4⟩
  · exact Or.inr (Or.inl ⟨f, K, f1, f2, f3, by rw [hA 25 m (by omega) (by omega)]; exact f4, by rw [hM 831 m (by omega) (by omega)]; exact f5, by rw [hA 27 m (by omega) (by omega)]; exact f6, by rw [hM 833 m (by omega) (by omega)]; exact f7, by rw [hA 28 m (by omega) (by omega)]; exact f8, by rw [hM 836 m (by omega) (by omega)]; exact f9, f10, f11, WvR_fr f12 (fun x y u => hA x y (by omega) (by omega)), fun i u1 u2 => by rw [hM 837 _ (by omega) (by omega)]; exact f13 i u1 u2, f14, f15⟩)
  · exact Or.inr (Or.inr (Or.inl ⟨s, K, by rw [hA 25 m (by omega) (by omega)]; exact k1, by rw [hM 831 m (by omega) (by omega)]; exact k2, LiR_fr k3 (fun x y u => hA x y (by omega) (by omega)) (fun x y u => hM x y (by omega) (by omega)), k4, k5⟩))
  · exact Or.inr (Or.inr (Or.inr ⟨st, lf, g1, g2, by rw [hA 25 m (by omega) (by omega)]; exact g3, by rw [hM 831 m (by omega) (by omega)]; exact g4, fun z => by rw [hA 26 m (by omega) (by omega), hM 832 m (by omega) (by omega)]; exact g5 z, g6, g7, g8, g9⟩))
theorem NmR_e {A A' M M' : mwM} {F : Nat} {ow id : Nat → Nat} {oc : Nat → Nat → Nat} {dn : Nat → Nat} {m t ecn tcn pb : Nat} (h : NmR A M F ow id oc dn m t ecn tcn pb) (hA : ∀ a y, a ≠ 20 → a ≠ 21 → A' a y = A a y) (hM : ∀ a y, a ≠ 821 → a ≠ 822 → M' a y = M a y) : NmR A' M' F ow id oc dn m t ecn tcn pb := by
  refine ⟨by rw [hA 32 m (by omega) (by omega)]; exact h.1, ?_⟩
  rcases h.2 with ⟨h1, h2, h3, h4, h5, h6⟩ | ⟨f, f1, f2, f3, f4, f5, f6, f7, f8, f9⟩ | ⟨f, K, f1, f2, f3, f4, f5, f6, f7, f8, f9, f10, f11, f12, f13, f14, f15, f16⟩ | ⟨s, K, k1, k2, k3, k4, k5⟩ | ⟨st, lf, g1, g2, g3, g4, g5, g6, g7, g8, g9⟩
  · exact Or.inl ⟨by rw [hA 25 m (by omega) (by omega)]; exact h1, by rw [hM 831 m (by omega) (by omega)]; exact h2, h3, h4, h5, h6⟩
  · exact Or.inr (Or.inl ⟨f, f1, by rw [hA 25 m (by omega) (by omega)]; exact f2, by rw [hM 831 m (by omega) (by omega)]; exact f3, by rw [hA 27 m (by omega) (by omega)]; exact f4, by rw [hA 28 m (by omega) (by omega)]; exact f5, WvR_fr f6 (fun x y u => hA x y (by omega) (by omega)), f7, f8, f9⟩)
  · exact Or.inr (Or.inr (Or.inl ⟨f, K, f1, f2, f3, by rw [hA 25 m (by omega) (by omega)]; exact f4, by rw [hM 831 m (by omega) (by omega)]; exact f5, by rw [hA 27 m (by omega) (by omega)]; exact f6, by rw [hM 833 m (by omega) (by omega)]; exact f7, by rw [hA 28 m (by omega) (by omega)]; exact f8, by rw [hM 836 m (by omega) (by omega)]; exact f9, f10, f11, WvR_fr f12 (fun x y u => hA x y (by omega) (by omega)), fun i u1 u2 => by rw [hM 837 _ (by omega) (by omega)]; exact f13 i u1 u2, f14, f15, f16⟩))
  · exact Or.inr (Or.inr (Or.inr (Or.inl ⟨s, K, by rw [hA 25 m (by omega) (by omega)]; exact k1, by rw [hM 831 m (by omega) (by omega)]; exact k2, LiR_fr k3 (fun x y u => hA x y (by omega) (by omega)) (fun x y u => hM x y (by omega) (by omega)), k4, k5⟩)))
  · exact Or.inr (Or.inr (Or.inr (Or.inr ⟨st, lf, g1, g2, by rw [hA 25 m (by omega) (by omega)]; exact g3, by rw [hM 831 m (by omega) (by omega)]; exact g4, fun z => by rw [hA 26 m (by omega) (by omega), hM 832 m (by omega) (by omega)]; exact g5 z, g6, g7, g8, g9⟩)))
def FlR (A M : mwM) (fl : Nat → Nat) : Prop := ∀ t, t < 20000 → A 22 t = sI (fl t) ∧ fl t < 128 ∧ ∀ n, n < 7 → M 838 (20000 * n + t) = sI (fl t / 2 ^ n % 2)
def OcA (A : mwM) : Prop := ∀ n, n < 7 → ∃ o, OcR A (47 + 2 * n) o
/-- the nodes whose bit is set have just taken a frame -/
def FrE (A M : mwM) (N : Nat) (tc tc' : Nat → Nat) (mk : Nat) : Prop := A 20 12 = sI mk ∧ ∀ n, n < 7 → (mk / 2 ^ n % 2 = 1 ∧ n < N ∧ tc' n = tc n + 1 ∧ ∃ k, s7 tc ≤ k ∧ k < s7 tc' ∧ M 839 k = sI n ∧ TkE A M n k) ∨ (mk / 2 ^ n % 2 = 0 ∧ tc' n = tc n)
def bitF (A0 M0 A M : mwM) : Prop := (∀ a y, ¬ (20 ≤ a ∧ a ≤ 60) → A a y = A0 a y) ∧ (∀ a y, ¬ (821 ≤ a ∧ a ≤ 853) → M a y = M0 a y) ∧ (∀ a y, a = 22 → A a y = A0 a y) ∧ (∀ a y, a = 838 → M a y = M0 a y) ∧ (∀ y, y ≠ 13 → y ≠ 12 → y ≠ 10 → y ≠ 11 → A 20 y = A0 20 y)
def JP (N t F : Nat) (ow id : Nat → Nat) (oc : Nat → Nat → Nat) (tc : Nat → Nat) (A0 M0 : mwM) (Lc Lm : mwL) (bb : Nat) (oC : Option (mwM × mwL)) (oM : Option (Int32 × mwM × mwL)) : Prop :=
  ∃ (A M : mwM) (x : Int32) (dn' ec' tc' : Nat → Nat) (mk : Nat) (asl : Bool), oC = some (A, Lc) ∧ oM = some (x, mset M 821 2 (sI (t + 1)), Lm) ∧ BuG A M N t F ow id oc dn' ec' tc' ∧ (∀ n, n < N → NdR A M F ow id oc dn' n (t + 1) (ec' n) (tc' n)) ∧ OcA A ∧ mk < 128 ∧ FrE A M N tc tc' mk ∧ A 20 13 = bI asl ∧ (asl = true → ∀ n, n < N → A 25 n = sI 0 ∧ A 30 n = sI 0) ∧ bitF A0 M0 A M ∧ (∀ i, i ≠ t → A 21 i = A0 21 i ∧ M 822 i = M0 822 i) ∧ A 21 t = sI bb ∧ M 822 t = sI bb ∧ (∀ n, N ≤ n → ec' n = ec' n)
theorem mk_or {mk n : Nat} (hn : n < 7) (hm : mk < 2 ^ n) : sI mk ||| (1 <<< (sI n &&& 31)) = sI (mk + 2 ^ n) := by
  have := or_sh (k := mk) (v := 1) (s := n) (by omega) hm
  rw [Nat.one_mul] at this
  exact this
theorem mk_hi {mk n m : Nat} (hm : mk < 2 ^ n) (h : n ≤ m) : mk / 2 ^ m % 2 = 0 := by
  have : 2 ^ n ≤ 2 ^ m := Nat.pow_le_pow_right (by omega) h
  rw [Nat.div_eq_of_lt (by omega)]
theorem mk_lo {mk n m : Nat} (hm : m < n) : (mk + 2 ^ n) / 2 ^ m % 2 = mk / 2 ^ m % 2 := by
  have e : 2 ^ n = 2 ^ m * (2 * 2 ^ (n - m - 1)) := by
    rw [← Nat.pow_succ', ← Nat.pow_add]
    congr 1
    omega
  rw [e, Nat.add_mul_div_left _ _ (Nat.two_pow_pos m)]
  omega
theorem mk_at {mk n : Nat} (hm : mk < 2 ^ n) : (mk + 2 ^ n) / 2 ^ n % 2 = 1 := by
  rw [Nat.add_div_right _ (Nat.two_pow_pos n), Nat.div_eq_of_lt hm]
theorem xor_b : ∀ b, b < 2 → ∀ f, f < 2 → sI b ^^^ sI f = sI (if f = 0 then b else 1 - b) ∧ (f = 1 → (1 : Int32) - sI b = sI (1 - b)) := by decide
theorem TkE_fr {A A' M M' : mwM} {n k : Nat} (h : TkE A M n k) (hA : ∀ a y, a = 47 + 2 * n ∨ a = 48 + 2 * n → A' a y = A a y) (hM : ∀ a y, (840 ≤ a ∧ a ≤ 842 ∧ y = k) ∨ (a = 844 ∧ y < 64 * k + 64) → M' a y = M a y) : TkE A' M' n k := by
  obtain ⟨h', o, a1, a2, a3, a4, a5, a6, a7, a8, a9, a10, a11, a12⟩ := h
  have o64 := ocE_le (h' 13) (h' 11) (h' 14)
  exact ⟨h', o, EaR_f a1 (fun y => hA _ y (by omega)), OcR_f a2 (fun y => hA _ y (by omega)), a3, a4, a5, a6, a7, a8, by rw [hM 840 k (by omega)]; exact a9, by rw [hM 841 k (by omega)]; exact a10, by rw [hM 842 k (by omega)]; exact a11, fun i u => by rw [hM 844 _ (by omega)]; exact a12 i u⟩
theorem and_b : ∀ a b : Bool, (bI a &&& bI b) = bI (a && b) ∧ (bI a = 0 ∨ bI a = 1) := by decide
theorem mzz_bb {β : Type} {a : Bool} {x : Option β} : mzz (bI a) x = x := by
  cases a
  · exact mzz_0
  · exact mzz_1
theorem all_see {fu N t F bb : Nat} {v2 : Int32} {ow id : Nat → Nat} {oc : Nat → Nat → Nat} {tc fl : Nat → Nat} {A0 M0 : mwM} {Lc Lm : mwL} (hfu : 1300 ≤ fu) (hN : N ≤ 7) (hbb : bb < 2) : ∀ (m n f g : Nat) (A M : mwM) (dn2 ec2 tc2 : Nat → Nat) (mk : Nat) (asl : Bool), n + m = N → m < f → m < g → BuG A M N t F ow id oc dn2 ec2 tc2 → (∀ k, k < n → NdR A M F ow id oc dn2 k (t + 1) (ec2 k) (tc2 k)) → (∀ k, n ≤ k → k < N → ∃ pb, NmR A M F ow id oc dn2 k t (ec2 k) (tc2 k) pb) → OcA A → FlR A M fl → mk < 2 ^ n → FrE A M N tc tc2 mk → s7 tc ≤ s7 tc2 → A 20 13 = bI asl → (asl = true → ∀ k, k < n → A 25 k = sI 0 ∧ A 30 k = sI 0) → bitF A0 M0 A M → (∀ i, i ≠ t → A 21 i = A0 21 i ∧ M 822 i = M0 822 i) → A 21 t = sI bb → M 822 t = sI bb → JP N t F ow id oc tc A0 M0 Lc Lm bb (fX0_passBit_h88 fu (sI t) f (sI bb, sI n, A, Lc)) (fX12_run_h103 fu 1 (fX12_run_h45 fu 1 (fu - 1)) g (v2, 0, sI bb, sI n, M, Lm)) := by
  intro m
  induction m with
  | zero =>
    intro n f g A M dn2 ec2 tc2 mk asl hn hf hg hG hd hm hO hF hmk hE hs h13 has hB hbit hA21 hM22
    obtain ⟨f', rfl⟩ : ∃ f', f = f' + 1 := ⟨f - 1, by omega⟩
    obtain ⟨g', rfl⟩ : ∃ g', g = g' + 1 := ⟨g - 1, by omega⟩
    have nN : n = N := by omega
    subst nN
    have hG' := hG
    obtain ⟨_, ⟨g2, g3, g4⟩, _⟩ := hG'
    unfold fX0_passBit_h88 fX12_run_h103
    rw [mloop_S, mloop_S]
    show JP n t F ow id oc tc A0 M0 Lc Lm bb (fX0_passBit_i88 fu (sI t) _ (sI bb) (sI n) A Lc) (fX12_run_i103 fu 1 _ _ v2 0 (sI bb) (sI n) M Lm)
    unfold fX0_passBit_i88 fX12_run_i103
    have nn : sI n ≤ sI n := by rw [sI_le (by omega) (by omega)]; omega
    rw [g2, if_pos nn, g3, if_pos nn, g4, sI_1]
    simp only [mlet]
    obtain ⟨q, hq⟩ : ∃ q, fu - 1 = q + 1 := ⟨fu - 2, by omega⟩
    rw [hq]
    unfold fX12_run_h45
    rw [mloop_S]
    have e45 : (fX12_run_i45 fu 1 (mloop (fun r45 s => fX12_run_i45 fu 1 r45 s.1 s.2.1 s.2.2.1 s.2.2.2) q) v2 (0 + 1) (mset M 821 2 (sI (t + 1))) Lm) = some ((mset M 821 2 (sI (t + 1))) 821 11 - v2, mset M 821 2 (sI (t + 1)), Lm) := by
      unfold fX12_run_i45
      rw [if_pos (by decide)]
    have m128 : mk < 128 := Nat.lt_of_lt_of_le hmk (Nat.le_trans (Nat.pow_le_pow_right (by omega) (show n ≤ 7 by omega)) (by decide))
    exact ⟨A, M, _, dn2, ec2, tc2, mk, asl, rfl, e45, hG, fun k u => hd k u, hO, m128, hE, h13, fun z k u => has z k u, hB, hbit, hA21, hM22, fun _ _ => rfl⟩
  | succ m ih =>
    intro n f g A M dn2 ec2 tc2 mk asl hn hf hg hG hd hm hO hF hmk hE hs h13 has hB hbit hA21 hM22
    obtain ⟨f', rfl⟩ : ∃ f', f = f' + 1 := ⟨f - 1, by omega⟩
    obtain ⟨g', rfl⟩ : ∃ g', g = g' + 1 := ⟨g - 1, by omega⟩
    have hG' := hG
    obtain ⟨g1, ⟨g2, g3, g4⟩, _⟩ := hG'
    unfold fX0_passBit_h88 fX12_run_h103
    rw [mloop_S, mloop_S]
    show JP N t F ow id oc tc A0 M0 Lc Lm bb (fX0_passBit_i88 fu (sI t) (fX0_passBit_h88 fu (sI t) f') (sI bb) (sI n) A Lc) (fX12_run_i103 fu 1 (fX12_run_h45 fu 1 (fu - 1)) (fX12_run_h103 fu 1 (fX12_run_h45 fu 1 (fu - 1)) g') v2 0 (sI bb) (sI n) M Lm)
    unfold fX0_passBit_i88 fX12_run_i103 fX12_run_b143
    have nn : ¬ sI N ≤ sI n := by rw [sI_le (by omega) (by omega)]; omega
    obtain ⟨l1, l2, l3⟩ := hF t g1.2.2
    have l4 := l3 n (by omega)
    have fb2 : fl t / 2 ^ n % 2 < 2 := Nat.mod_lt _ (by decide)
    obtain ⟨xb1, xb2⟩ := xor_b bb hbb _ fb2
    rw [g2, if_neg nn, mck_s g1.2.2 (by omega), sI_nn (by omega), l1, bitx (by omega) (by omega), xb1, g3, if_neg nn, g4, sI_lml, sI_add, mck_s (by omega) (by omega), sI_nn (show 20000 * n + t < 2000000000 by omega), l4]
    generalize hbn : (if fl t / 2 ^ n % 2 = 0 then bb else 1 - bb) = bn at *
    have bn2 : bn < 2 := by rw [← hbn]; split <;> omega
    obtain ⟨pb, hpb⟩ := hm n (Nat.le_refl n) (by omega)
    obtain ⟨A1, M1, dn', ec', tc', e1, e2, oc1, G1, N1, a1, m1, d1, c1, fr1, t1, t2⟩ := st_node (fu := fu) (b := bn) (Lc := Lc) (Lm := Lm) hfu (show n < 7 by omega) bn2 hG (hO n (by omega)) hpb
    have ref : (if sI (fl t / 2 ^ n % 2) = 0 then mb2 (DX12_sees fu (sI n) (sI bb) M Lm) (fun M18 L19 => mlet (sI n + 1) (fun x20 => fX12_run_h103 fu 1 (fX12_run_h45 fu 1 (fu - 1)) g' (v2, 0, sI bb, x20, M18, L19))) else mb2 (DX12_sees fu (sI n) (1 - sI bb) M Lm) (fun M18 L19 => mlet (sI n + 1) (fun x20 => fX12_run_h103 fu 1 (fX12_run_h45 fu 1 (fu - 1)) g' (v2, 0, sI bb, x20, M18, L19)))) = fX12_run_h103 fu 1 (fX12_run_h45 fu 1 (fu - 1)) g' (v2, 0, sI bb, sI (n + 1), M1, Lm) := by
      by_cases c : fl t / 2 ^ n % 2 = 0
      · rw [if_pos c] at hbn
        rw [if_pos (show sI (fl t / 2 ^ n % 2) = 0 by rw [c]; rfl), hbn, e2, mb2_s]
        simp only [mlet]
        rw [sI_1]
      · rw [if_neg c] at hbn
        rw [if_neg (show ¬ sI (fl t / 2 ^ n % 2) = 0 by rw [sI_eql (by omega) (by decide)]; exact c), xb2 (by omega), hbn, e2, mb2_s]
        simp only [mlet]
        rw [sI_1]
    rw [ref, e1, mb2_s, mck_s (show n < 7 by omega) (by omega), mck_s (show n < 7 by omega) (by omega)]
    have h13' : A1 20 13 = bI asl := by rw [a1 20 13 (by omega)]; exact h13
    have h30 := (G1.2.2.2.2.2.2.2.2.1 n (by omega)).1
    have cle := cnt_le (fun f => decide (ow f = n ∧ dn' f = 0)) F
    have hF200 := G1.2.2.1.2.1
    -- asleep or not
    have fin : ∀ x : Bool, (x = true → A1 25 n = sI 0 ∧ A1 30 n = sI 0) → JP N t F ow id oc tc A0 M0 Lc Lm bb (fX0_passBit_b146 fu (sI t) (fX0_passBit_h88 fu (sI t) f') (sI bb) (sI n) (A1 20 13) (bI x) A1 Lc) (fX12_run_h103 fu 1 (fX12_run_h45 fu 1 (fu - 1)) g' (v2, 0, sI bb, sI (n + 1), M1, Lm)) := by
      intro x hx
      unfold fX0_passBit_b146
      rw [h13', (and_b asl x).1, mzz_bb]
      simp only [mlet]
      rw [sI_1]
      have sx : ∀ a y, ¬ (a = 20 ∧ y = 13) → mset A1 20 13 (bI (asl && x)) a y = A1 a y := fun a y u => mset_n u
      have p2 : 2 ^ (n + 1) = 2 ^ n + 2 ^ n := by rw [Nat.pow_succ]; omega
      have sge : s7 tc2 ≤ s7 tc' := by
        rcases fr1 with z | z
        · have : tc' = tc2 := by
            funext k
            by_cases q : k = n
            · rw [q]; exact z.1
            · exact (c1 k q).2
          rw [this]
          exact Nat.le_refl _
        · omega
      have old : ∀ k, k < n → ((mk / 2 ^ k % 2 = 1 ∧ k < N ∧ tc' k = tc k + 1 ∧ ∃ j, s7 tc ≤ j ∧ j < s7 tc' ∧ M1 839 j = sI k ∧ TkE (mset A1 20 13 (bI (asl && x))) M1 k j) ∨ (mk / 2 ^ k % 2 = 0 ∧ tc' k = tc k)) := fun k hk => by
        rcases hE.2 k (by omega) with ⟨z1, z2, z3, j, z4, z5, z6, z7⟩ | ⟨z1, z2⟩
        · refine Or.inl ⟨z1, z2, by rw [(c1 k (by omega)).2]; exact z3, j, z4, by omega, ?_, ?_⟩
          · rw [t2 839 j (by omega)]; exact z6
          · refine TkE_fr z7 (fun a y u => ?_) (fun a y u => t2 a y (by omega))
            rw [sx a y (by omega), a1 a y (by omega)]
        · exact Or.inr ⟨z1, by rw [(c1 k (by omega)).2]; exact z2⟩
      have new : ∃ mk', mk' < 2 ^ (n + 1) ∧ FrE (mset A1 20 13 (bI (asl && x))) M1 N tc tc' mk' := by
        rcases fr1 with ⟨z1, z2⟩ | ⟨z1, z2, z3, z4, z5⟩
        · refine ⟨mk, by omega, by rw [sx 20 12 (by omega), z2]; exact hE.1, fun k hk => ?_⟩
          by_cases q : k < n
          · exact old k q
          · right
            refine ⟨mk_hi hmk (by omega), ?_⟩
            rcases hE.2 k hk with w | w
            · have := mk_hi hmk (show n ≤ k by omega)
              omega
            · by_cases r : k = n
              · rw [r, z1, ← r]; exact w.2
              · rw [(c1 k r).2]; exact w.2
        · refine ⟨mk + 2 ^ n, by omega, by rw [sx 20 12 (by omega), z2, hE.1, mk_or (by omega) hmk], fun k hk => ?_⟩
          have w0 : ∀ k, n ≤ k → k < 7 → tc2 k = tc k := fun k u1 u2 => by
            rcases hE.2 k u2 with w | w
            · have := mk_hi hmk u1
              omega
            · exact w.2
          by_cases q : k < n
          · rw [mk_lo q]
            exact old k q
          · by_cases r : k = n
            · rw [r]
              refine Or.inl ⟨mk_at hmk, by omega, by rw [z1, w0 n (by omega) (by omega)], s7 tc2, hs, by omega, z4, TkE_fr z5 (fun a y u => sx a y (by omega)) (fun _ _ _ => rfl)⟩
            · exact Or.inr ⟨mk_hi (n := n + 1) (by omega) (by omega), by rw [(c1 k r).2]; exact w0 k (by omega) hk⟩
      obtain ⟨mk', hmk', hE'⟩ := new
      refine ih (n + 1) f' g' (mset A1 20 13 (bI (asl && x))) M1 dn' ec' tc' mk' (asl && x) (by omega) (by omega) (by omega) (BuG_fr G1 (fun a y u => sx a y (by omega)) (fun _ _ _ => rfl) G1.2.2.2.2.1 G1.2.2.2.2.2.1) (fun k hk => ?_) (fun k h1 h2 => ?_) (fun k hk => ?_) (fun t' ht' => ?_) hmk' hE' (by omega) mset_s (fun z k hk => ?_) ⟨fun a y u => ?_, fun a y u => ?_, fun a y u => ?_, fun a y u => ?_, fun y u1 u2 u3 u4 => ?_⟩ (fun i u => ?_) ?_ ?_
      · refine NdR_e ?_ (fun a y u1 u2 => sx a y (by omega)) (fun _ _ _ _ => rfl)
        by_cases q : k = n
        · rw [q]; exact N1
        · rw [(c1 k q).1, (c1 k q).2]
          exact NdR_o q (by omega) (by omega) (hd k (by omega)) a1 m1 d1
      · obtain ⟨pk, hpk⟩ := hm k (by omega) h2
        refine ⟨pk, NmR_e ?_ (fun a y u1 u2 => sx a y (by omega)) (fun _ _ _ _ => rfl)⟩
        rw [(c1 k (by omega)).1, (c1 k (by omega)).2]
        exact NmR_o (by omega) (by omega) (by omega) hpk a1 m1 d1
      · by_cases q : k = n
        · rw [q]
          obtain ⟨o, ho⟩ := oc1
          exact ⟨o, OcR_f ho (fun y => sx _ y (by omega))⟩
        · obtain ⟨o, ho⟩ := hO k hk
          exact ⟨o, OcR_f ho (fun y => by rw [sx _ y (by omega), a1 _ y (by omega)])⟩
      · obtain ⟨q1, q2, q3⟩ := hF t' ht'
        exact ⟨by rw [sx 22 t' (by omega), a1 22 t' (by omega)]; exact q1, q2, fun k hk => by rw [m1 838 _ (by omega)]; exact q3 k hk⟩
      · have zz : asl = true ∧ x = true := by
          cases asl <;> cases x <;> simp_all
        rw [sx 25 k (by omega), sx 30 k (by omega)]
        by_cases q : k = n
        · rw [q]; exact hx zz.2
        · rw [a1 25 k (by omega), a1 30 k (by omega)]
          exact has zz.1 k (by omega)
      · rw [sx a y (by omega), a1 a y (by omega)]; exact hB.1 a y u
      · rw [m1 a y (by omega)]; exact hB.2.1 a y u
      · rw [sx a y (by omega), a1 a y (by omega)]; exact hB.2.2.1 a y u
      · rw [m1 a y (by omega)]; exact hB.2.2.2.1 a y u
      · rw [sx 20 y (by omega), a1 20 y (by omega)]; exact hB.2.2.2.2 y u1 u2 u3 u4
      · rw [sx 21 i (by omega), a1 21 i (by omega), m1 822 i (by omega)]; exact hbit i u
      · rw [sx 21 t (by omega), a1 21 t (by omega)]; exact hA21
      · rw [m1 822 t (by omega)]; exact hM22
    unfold fX0_passBit_b145
    rw [sI_nn (show n < 2000000000 by omega)]
    by_cases c1' : A1 25 n = 0
    · rw [if_pos c1']
      by_cases c2' : A1 30 n = 0
      · rw [if_pos c2']
        exact fin true (fun _ => ⟨c1', c2'⟩)
      · rw [if_neg c2']
        exact fin false (fun z => by cases z)
    · rw [if_neg c1']
      exact fin false (fun z => by cases z)
/-! one bit on the bus -/
theorem and_pb : ∀ b, b < 2 → ∀ p, p < 2 → sI b &&& sI p = sI (if p = 0 then 0 else b) := by decide
theorem all_put {fu N t F : Nat} {v2 : Int32} {ow id : Nat → Nat} {oc : Nat → Nat → Nat} {dn ec tc fl : Nat → Nat} {A0 M0 : mwM} {Lc Lm : mwL} (hfu : 1300 ≤ fu) (hN : N ≤ 7) : ∀ (m n f g : Nat) (A M : mwM) (bb : Nat), n + m = N → m < f → m < g → bb < 2 → BuG A M N t F ow id oc dn ec tc → (∀ k, k < n → ∃ pb, NmR A M F ow id oc dn k t (ec k) (tc k) pb) → (∀ k, n ≤ k → k < N → NdR A M F ow id oc dn k t (ec k) (tc k)) → OcA A → FlR A M fl → A 20 12 = sI 0 → bitF A0 M0 A M → (∀ i, i ≠ t → A 21 i = A0 21 i ∧ M 822 i = M0 822 i) → ∃ bb', bb' < 2 ∧ JP N t F ow id oc tc A0 M0 Lc Lm bb' (fX0_passBit_h33 fu (sI t) f (sI bb, sI n, A, Lc)) (fX12_run_h56 fu 1 (fX12_run_h45 fu 1 (fu - 1)) g (v2, 0, sI bb, sI n, M, Lm)) := by
  intro m
  induction m with
  | zero =>
    intro n f g A M bb hn hf hg hbb hG hm hd hO hF h12 hB hbit
    obtain ⟨f', rfl⟩ : ∃ f', f = f' + 1 := ⟨f - 1, by omega⟩
    obtain ⟨g', rfl⟩ : ∃ g', g = g' + 1 := ⟨g - 1, by omega⟩
    have nN : n = N := by omega
    subst nN
    have hG' := hG
    obtain ⟨g1, ⟨g2, g3, g4⟩, _, _, hW, hC, _⟩ := hG'
    refine ⟨bb, hbb, ?_⟩
    unfold fX0_passBit_h33 fX12_run_h56
    rw [mloop_S, mloop_S]
    show JP n t F ow id oc tc A0 M0 Lc Lm bb (fX0_passBit_i33 fu (sI t) _ (sI bb) (sI n) A Lc) (fX12_run_i56 fu 1 _ _ v2 0 (sI bb) (sI n) M Lm)
    unfold fX0_passBit_i33 fX12_run_i56
    have nn : sI n ≤ sI n := by rw [sI_le (by omega) (by omega)]; omega
    rw [g2, if_pos nn, g3, if_pos nn, g4, mck_s g1.2.2 (by omega), mck_s g1.2.2 (by omega), sI_nn (show t < 2000000000 by omega), nb2 bb hbb]
    simp only [mlet]
    have sA : ∀ a y, ¬ (a = 20 ∧ y = 13) → ¬ (a = 21 ∧ y = t) → mset (mset A 21 t (sI bb)) 20 13 1 a y = A a y := fun a y u1 u2 => by rw [mset_n u1, mset_n u2]
    have sM : ∀ a y, ¬ (a = 822 ∧ y = t) → mset M 822 t (sI bb) a y = M a y := fun a y u => mset_n u
    refine all_see (v2 := v2) (fl := fl) hfu hN hbb n 0 fu fu (mset (mset A 21 t (sI bb)) 20 13 1) (mset M 822 t (sI bb)) dn ec tc 0 true (by omega) (by omega) (by omega) (BuG_fr hG (fun a y u => sA a y (by omega) (by omega)) (fun a y u => sM a y (by omega)) (WC_fr hW (fun a y u => sM a y (by omega))) (CA_fr hC (fun a y u => sM a y (by omega)))) (fun k u => by omega) (fun k u1 u2 => ?_) (fun k u => ?_) (fun t' ht' => ?_) (by omega) ⟨by rw [sA 20 12 (by omega) (by omega)]; exact h12, fun k u => Or.inr ⟨by rw [Nat.zero_div], rfl⟩⟩ (Nat.le_refl _) (by rw [mset_s]; rfl) (fun _ k u => by omega) ⟨fun a y u => by rw [sA a y (by omega) (by omega)]; exact hB.1 a y u, fun a y u => by rw [sM a y (by omega)]; exact hB.2.1 a y u, fun a y u => by rw [sA a y (by omega) (by omega)]; exact hB.2.2.1 a y u, fun a y u => by rw [sM a y (by omega)]; exact hB.2.2.2.1 a y u, fun y u1 u2 u3 u4 => by rw [sA 20 y (by omega) (by omega)]; exact hB.2.2.2.2 y u1 u2 u3 u4⟩ (fun i u => by rw [sA 21 i (by omega) (by omega), sM 822 i (by omega)]; exact hbit i u) (by rw [mset_n (by omega), mset_s]) mset_s
    · obtain ⟨pb, hpb⟩ := hm k u2
      exact ⟨pb, NmR_e hpb (fun a y w1 w2 => sA a y (by omega) (by omega)) (fun a y w1 w2 => sM a y (by omega))⟩
    · obtain ⟨o, ho⟩ := hO k u
      exact ⟨o, OcR_f ho (fun y => sA _ y (by omega) (by omega))⟩
    · obtain ⟨q1, q2, q3⟩ := hF t' ht'
      exact ⟨by rw [sA 22 t' (by omega) (by omega)]; exact q1, q2, fun k hk => by rw [sM 838 _ (by omega)]; exact q3 k hk⟩
  | succ m ih =>
    intro n f g A M bb hn hf hg hbb hG hm hd hO hF h12 hB hbit
    obtain ⟨f', rfl⟩ : ∃ f', f = f' + 1 := ⟨f - 1, by omega⟩
    obtain ⟨g', rfl⟩ : ∃ g', g = g' + 1 := ⟨g - 1, by omega⟩
    have hG' := hG
    obtain ⟨g1, ⟨g2, g3, g4⟩, _⟩ := hG'
    obtain ⟨A1, M1, pb, p2, e1, e2, G1, N1, pA, pM⟩ := st_put (fu := fu) (Lc := Lc) (Lm := Lm) hfu (show n < 7 by omega) hG (hd n (Nat.le_refl n) (by omega))
    have nA : ndA n A (mset A1 32 n (sI pb)) := fun a y u => pA a y (by omega) (by omega)
    have nM : ndM n M M1 := fun a y u => pM a y (by omega) (by omega)
    have hb' : (if pb = 0 then 0 else bb) < 2 := by split <;> omega
    obtain ⟨bb', hb2, hJ⟩ := ih (n + 1) f' g' (mset A1 32 n (sI pb)) M1 (if pb = 0 then 0 else bb) (by omega) (by omega) (by omega) hb' G1 (fun k hk => by
      by_cases q : k = n
      · rw [q]; exact ⟨pb, N1⟩
      · obtain ⟨pk, hpk⟩ := hm k (by omega)
        exact ⟨pk, NmR_o q (by omega) (by omega) hpk nA nM (fun _ _ => rfl)⟩) (fun k h1 h2 => NdR_o (by omega) (by omega) (by omega) (hd k (by omega) h2) nA nM (fun _ _ => rfl)) (fun k hk => by
      obtain ⟨o, ho⟩ := hO k hk
      exact ⟨o, OcR_f ho (fun y => pA _ y (by omega) (by omega))⟩) (fun t' ht' => by
      obtain ⟨q1, q2, q3⟩ := hF t' ht'
      exact ⟨by rw [pA 22 t' (by omega) (by omega)]; exact q1, q2, fun k hk => by rw [pM 838 _ (by omega) (by omega)]; exact q3 k hk⟩) (by rw [pA 20 12 (by omega) (by omega)]; exact h12) ⟨fun a y u => by rw [pA a y (by omega) (by omega)]; exact hB.1 a y u, fun a y u => by rw [pM a y (by omega) (by omega)]; exact hB.2.1 a y u, fun a y u => by rw [pA a y (by omega) (by omega)]; exact hB.2.2.1 a y u, fun a y u => by rw [pM a y (by omega) (by omega)]; exact hB.2.2.2.1 a y u, fun y u1 u2 u3 u4 => by rw [pA 20 y (by omega) (by omega)]; exact hB.2.2.2.2 y u1 u2 u3 u4⟩ (fun i u => by rw [pA 21 i (by omega) (by omega), pM 822 i (by omega) (by omega)]; exact hbit i u)
    refine ⟨bb', hb2, ?_⟩
    unfold fX0_passBit_h33 fX12_run_h56
    rw [mloop_S, mloop_S]
    show JP N t F ow id oc tc A0 M0 Lc Lm bb' (fX0_passBit_i33 fu (sI t) (fX0_passBit_h33 fu (sI t) f') (sI bb) (sI n) A Lc) (fX12_run_i56 fu 1 (fX12_run_h45 fu 1 (fu - 1)) (fX12_run_h56 fu 1 (fX12_run_h45 fu 1 (fu - 1)) g') v2 0 (sI bb) (sI n) M Lm)
    unfold fX0_passBit_i33 fX12_run_i56 fX12_run_b80
    have nn : ¬ sI N ≤ sI n := by rw [sI_le (by omega) (by omega)]; omega
    rw [g2, if_neg nn, g3, if_neg nn, e1, mb3_s, e2, mb3_s, mck_s (show n < 7 by omega) (by omega), sI_nn (show n < 2000000000 by omega)]
    simp only [mlet]
    rw [mck_s (show n < 7 by omega) (by omega), mset_s, and_pb bb hbb pb p2, sI_1]
    by_cases c : pb = 0
    · rw [if_pos c] at hJ
      rw [if_pos c, if_pos (show sI pb = 0 by rw [c]; rfl)]
      exact hJ
    · rw [if_neg c] at hJ
      rw [if_neg c, if_neg (show ¬ sI pb = 0 by rw [sI_eql (by omega) (by decide)]; exact c)]
      exact hJ
/-- between bits -/
def BuQ (A M : mwM) (N t F : Nat) (ow id : Nat → Nat) (oc : Nat → Nat → Nat) (dn ec tc : Nat → Nat) : Prop :=
  (1 ≤ N ∧ N ≤ 7 ∧ t ≤ 20000) ∧ (A 20 8 = sI N ∧ M 821 1 = sI N ∧ M 821 2 = sI t) ∧ FrC A F ow id oc dn ∧ FrM M F ow id oc dn ∧ WC M F id oc ∧ CA M ∧
  (A 20 10 = sI (s7 ec) ∧ M 821 29 = sI (s7 ec) ∧ ErR A M (s7 ec)) ∧
  (A 20 11 = sI (cnt (fun f => decide (dn f = 1)) F) ∧ M 821 11 = sI (cnt (fun f => decide (dn f = 1)) F)) ∧
  (∀ n, n < 7 → A 30 n = sI (cnt (fun f => decide (ow f = n ∧ dn f = 0)) F) ∧ A 31 n = sI (tc n) ∧ M 834 n = 0 ∧ M 835 n = 0) ∧
  M 821 22 = sI (s7 tc) ∧ TnR M (s7 tc) tc ∧ (∀ n, n < 7 → 8 * ec n ≤ t + 8 ∧ 40 * tc n ≤ t)
theorem BuG_Q {A M : mwM} {N t F : Nat} {ow id : Nat → Nat} {oc : Nat → Nat → Nat} {dn ec tc : Nat → Nat} (h : BuQ A M N t F ow id oc dn ec tc) (ht : t < 20000) : BuG A M N t F ow id oc dn ec tc := by
  obtain ⟨h1, h2, h3, h4, h5, h6, h7, h8, h9, h10, h11, h12⟩ := h
  exact ⟨⟨h1.1, h1.2.1, ht⟩, h2, h3, h4, h5, h6, h7, h8, h9, h10, h11, fun n u => ⟨(h12 n u).1, by have := (h12 n u).2; omega⟩⟩
theorem BuQ_G {A M : mwM} {N t F : Nat} {ow id : Nat → Nat} {oc : Nat → Nat → Nat} {dn ec tc : Nat → Nat} (h : BuG A M N t F ow id oc dn ec tc) : BuQ A (mset M 821 2 (sI (t + 1))) N (t + 1) F ow id oc dn ec tc := by
  obtain ⟨h1, ⟨h2, h2', h2''⟩, h3, h4, h5, h6, ⟨h7, h7', h7''⟩, ⟨h8, h8'⟩, h9, h10, ⟨tn, h11, h11'⟩, h12⟩ := h
  have sm : ∀ a y, ¬ (a = 821 ∧ y = 2) → mset M 821 2 (sI (t + 1)) a y = M a y := fun a y u => mset_n u
  refine ⟨⟨h1.1, h1.2.1, by omega⟩, ⟨h2, by rw [sm 821 1 (by omega)]; exact h2', mset_s⟩, h3, FrM_fr h4 (fun a y u => sm a y (by omega)), WC_fr h5 (fun a y u => sm a y (by omega)), CA_fr h6 (fun a y u => sm a y (by omega)), ⟨h7, by rw [sm 821 29 (by omega)]; exact h7', fun i u => ?_⟩, ⟨h8, by rw [sm 821 11 (by omega)]; exact h8'⟩, fun n u => ?_, by rw [sm 821 22 (by omega)]; exact h10, ⟨tn, fun k u => by rw [sm 839 k (by omega)]; exact h11 k u, h11'⟩, fun n u => ⟨by have := (h12 n u).1; omega, (h12 n u).2⟩⟩
  · obtain ⟨k, n, tt, q1, q2, q3, q4, q5, q6, q7⟩ := h7'' i u
    exact ⟨k, n, tt, q1, q2, q3, q4, by rw [sm 845 i (by omega)]; exact q5, by rw [sm 846 i (by omega)]; exact q6, by rw [sm 847 i (by omega)]; exact q7⟩
  · obtain ⟨q1, q2, q3, q4⟩ := h9 n u
    exact ⟨q1, q2, by rw [sm 834 n (by omega)]; exact q3, by rw [sm 835 n (by omega)]; exact q4⟩
def BusR (A M : mwM) (N t F : Nat) (ow id : Nat → Nat) (oc : Nat → Nat → Nat) (dn ec tc fl : Nat → Nat) (asl : Bool) : Prop := BuQ A M N t F ow id oc dn ec tc ∧ (∀ n, n < N → NdR A M F ow id oc dn n t (ec n) (tc n)) ∧ OcA A ∧ FlR A M fl ∧ (A 20 13 = bI asl ∧ (asl = true → ∀ n, n < N → A 25 n = sI 0 ∧ A 30 n = sI 0)) ∧ ∀ i, i < t → A 21 i = M 822 i
