/-! a frame of the transfer has come -/
theorem TfC_w {A A' : mwM} {n : Nat → Nat → Nat} {b : Nat → Nat → Bool} {o : Nat → Nat → Nat} (h : TfC A n b o) (hK : n 0 0 ≤ 100) (hA : ∀ a y, 154 ≤ a → a ≤ 273 → A' a y = A a y) : TfC A' n b o := by
  obtain ⟨⟨h1, h2, h3, h4, h5, h6⟩, h7, h8, h9⟩ := h
  refine ⟨⟨by rw [hA _ _ (by omega) (by omega)]; exact h1, by rw [hA _ _ (by omega) (by omega)]; exact h2, by rw [hA _ _ (by omega) (by omega)]; exact h3, by rw [hA _ _ (by omega) (by omega)]; exact h4, by rw [hA _ _ (by omega) (by omega)]; exact h5, by rw [hA _ _ (by omega) (by omega)]; exact h6⟩, fun m u1 u2 => ?_, fun r u => ?_, fun f u => ?_⟩
  · obtain ⟨q1, q2, q3, q4, q5, q6⟩ := h7 m u1 u2
    exact ⟨by rw [hA _ _ (by omega) (by omega)]; exact q1, by rw [hA _ _ (by omega) (by omega)]; exact q2, by rw [hA _ _ (by omega) (by omega)]; exact q3, by rw [hA _ _ (by omega) (by omega)]; exact q4, fun w => by rw [hA _ _ (by omega) (by omega)]; exact q5 w, fun i w => by rw [hA _ _ (by omega) (by omega)]; exact q6 i w⟩
  · obtain ⟨q1, q2⟩ := h8 r u
    refine ⟨by rw [hA _ _ (by omega) (by omega)]; exact q1, fun w => ?_⟩
    obtain ⟨q3, q4, q5, q6⟩ := q2 w
    exact ⟨by rw [hA _ _ (by omega) (by omega)]; exact q3, by rw [hA _ _ (by omega) (by omega)]; exact q4, by rw [hA _ _ (by omega) (by omega)]; exact q5, by rw [hA _ _ (by omega) (by omega)]; exact q6⟩
  · obtain ⟨q1, q2, q3, q4⟩ := h9 f u
    exact ⟨by rw [hA _ _ (by omega) (by omega)]; exact q1, by rw [hA _ _ (by omega) (by omega)]; exact q2, by rw [hA _ _ (by omega) (by omega)]; exact q3, by rw [hA _ _ (by omega) (by omega)]; exact q4⟩
/-- what was answered -/
def AnR (A M : mwM) (n : Nat → Nat → Nat) (o : Nat → Nat → Nat) : Prop := (A 3 18 = sI 0 ∧ M 732 98 = sI 0) ∨ ∃ m, 1 ≤ m ∧ m ≤ n 0 0 ∧ A 3 18 = sI m ∧ M 732 98 = sI (n 2 m) ∧ ∀ j, j < n 2 m → M 931 j = sI (o m j)
/-- the transfer and the questions, as both keep them -/
def TrB (A M : mwM) (Lm : mwL) (C : Nat) (Sb : Nat → Nat) (p : PB) (o : Nat → Nat → Nat) (e : Nat → Nat) : Prop :=
  TfV p.1 p.2 ∧ TfC A p.1 p.2 o ∧ TfM M Lm (p.1 0 3) p.1 p.2 o e ∧ TfN M p.1 p.2 e ∧ TfT p.1 (p.1 0 3) ∧ (∀ m, 1 ≤ m → m ≤ p.1 0 0 → p.1 1 m < C) ∧ A 3 17 = M 732 97 ∧ A 292 3 = M 939 3 ∧ AnR A M p.1 o ∧ QuR A M ∧ KnC A Sb 16 ∧ ∀ f, p.1 0 2 ≤ f → f < p.1 0 1 → p.2 1 f = false
abbrev trA (A A' : mwM) : Prop := ∀ a y, ¬ (154 ≤ a ∧ a ≤ 273) → ¬ (275 ≤ a ∧ a ≤ 282) → ¬ (137 ≤ a ∧ a ≤ 138) → ¬ (a = 139 ∧ y = 3) → ¬ (146 ≤ a ∧ a ≤ 150) → ¬ (a = 3 ∧ (y = 17 ∨ y = 18)) → ¬ (a = 292 ∧ y = 3) → A' a y = A a y
abbrev trM (M M' : mwM) : Prop := ∀ a y, ¬ (a = 732 ∧ (y = 88 ∨ y = 91 ∨ y = 95 ∨ y = 97 ∨ y = 98 ∨ y = 102 ∨ y = 108)) → ¬ (869 ≤ a ∧ a ≤ 920) → ¬ (927 ≤ a ∧ a ≤ 938) → ¬ (a = 939 ∧ y = 3) → a ≠ 854 → a ≠ 858 → a ≠ 859 → ¬ (863 ≤ a ∧ a ≤ 867) → ¬ (964 ≤ a ∧ (a - 964) % 53 = 0 ∧ y = 0) → M' a y = M a y
abbrev trC (L L' : mwL) : Prop := ∀ a y, ¬ (293 ≤ a ∧ (a - 293) % 36 = 34 ∧ y < 32) → L' a y = L a y
abbrev trL (L L' : mwL) : Prop := ∀ a y, ¬ (a = 881 ∨ a = 889 ∨ a = 897) → ¬ (964 ≤ a ∧ (a - 964) % 53 = 21 ∧ y < 32) → L' a y = L a y
theorem TkB_tr {A A' M M' : mwM} {Lc Lc' Lm Lm' : mwL} {S F W R X t E : Nat} {d : Nat → Nat → Nat} {tu : Nat → Bool} {g : Nat → Nat → Nat} {own Sb bd : Nat → Nat} (h : TkB A M Lc Lm S F W R X t E d tu g own Sb bd) (hA : trA A A') (hM : trM M M') (hC : trC Lc Lc') (hL : trL Lm Lm') (hT : RTr A' M' W E) (hR : RCd A' M' Sb) (hD : ∀ x, x < X → Lc' (293 + 36 * x + 34) = Lm' (964 + 53 * x + 21)) : TkB A' M' Lc' Lm' S F W R X t E d tu g own Sb bd := by
  obtain ⟨kS, kO, kR, kQ, kW, kT, kC, kK, kN, k1, k2, k16, k83, kt⟩ := h
  have hX := kO.1
  refine ⟨FrS_f kS (fun a y u => hA a y (by omega) (by omega) (by omega) (by omega) (by omega) (by omega) (by omega)) (fun a y u => hM a y (by omega) (by omega) (by omega) (by omega) (by omega) (by omega) (by omega) (by omega) (by omega)), ChO_f kO (fun x hx => hA _ _ (by omega) (by omega) (by omega) (by omega) (by omega) (by omega) (by omega)) (fun a y u => hM a y (by omega) (by omega) (by omega) (by omega) (by omega) (by omega) (by omega) (by omega) (by omega)), RdR_f kR (fun a y u => hA a y (by omega) (by omega) (by omega) (by omega) (by omega) (by omega) (by omega)) (fun a y u => hM a y (by omega) (by omega) (by omega) (by omega) (by omega) (by omega) (by omega) (by omega) (by omega)) (fun y => hC _ _ (by omega)) (fun y => hL _ _ (by omega) (by omega)), fun x hx => ?_, WtR_f kW (fun a y u => hA a y (by omega) (by omega) (by omega) (by omega) (by omega) (by omega) (by omega)) (fun a y u => hM a y (by omega) (by omega) (by omega) (by omega) (by omega) (by omega) (by omega) (by omega) (by omega)) (fun y => hL _ _ (by omega) (by omega)), hT, hR, fun f hf hz => KnC_f (kK f hf hz) (FrS_lo kS hf) (fun a y u1 u2 => hA a y (by omega) (by omega) (by omega) (by omega) (by omega) (by omega) (by omega)), fun f hf c hc => ?_, ?_, ?_, ?_, ?_, kt⟩
  · obtain ⟨qn, q1, q2, q3, q4, q5⟩ := kQ x hx
    exact ⟨qn, q1, by rw [hA _ _ (by omega) (by omega) (by omega) (by omega) (by omega) (by omega) (by omega)]; exact q2, by rw [hM _ _ (by omega) (by omega) (by omega) (by omega) (by omega) (by omega) (by omega) (by omega) (by omega)]; exact q3, fun i hi => by rw [hA _ _ (by omega) (by omega) (by omega) (by omega) (by omega) (by omega) (by omega), hM _ _ (by omega) (by omega) (by omega) (by omega) (by omega) (by omega) (by omega) (by omega) (by omega)]; exact q4 i hi, hD x hx⟩
  · obtain ⟨cn, n1, n2, n3⟩ := kN f hf c hc
    exact ⟨cn, n1, by rw [hA _ _ (by omega) (by omega) (by omega) (by omega) (by omega) (by omega) (by omega)]; exact n2, by rw [hL _ _ (by omega) (by omega)]; exact n3⟩
  · rw [hA _ _ (by omega) (by omega) (by omega) (by omega) (by omega) (by omega) (by omega), hM _ _ (by omega) (by omega) (by omega) (by omega) (by omega) (by omega) (by omega) (by omega) (by omega)]; exact k1
  · rw [hA _ _ (by omega) (by omega) (by omega) (by omega) (by omega) (by omega) (by omega), hM _ _ (by omega) (by omega) (by omega) (by omega) (by omega) (by omega) (by omega) (by omega) (by omega)]; exact k2
  · rw [hA _ _ (by omega) (by omega) (by omega) (by omega) (by omega) (by omega) (by omega)]; exact k16
  · rw [hM _ _ (by omega) (by omega) (by omega) (by omega) (by omega) (by omega) (by omega) (by omega) (by omega)]; exact k83
/-- what the reach of a frame leaves of the numbers -/
theorem rch_n {c : Nat} {tt : Bool} {p : PB} (hv : TfV p.1 p.2) (hT : TfT p.1 (p.1 0 3)) : (rchP c tt p).1.1 0 0 = p.1 0 0 ∧ (rchP c tt p).1.1 0 3 = p.1 0 3 ∧ (∀ m, (rchP c tt p).1.1 1 m = p.1 1 m) ∧ (∀ m, (rchP c tt p).1.1 2 m = p.1 2 m) ∧ (∀ m, (rchP c tt p).1.2 0 m = p.2 0 m) ∧ TfT (rchP c tt p).1.1 (p.1 0 3) := by
  unfold rchP
  cases hf : (List.range (p.1 0 2)).find? (onW p.1 p.2 c tt) with
  | none => exact ⟨rfl, rfl, fun _ => rfl, fun _ => rfl, fun _ => rfl, hT⟩
  | some f =>
    dsimp only
    have hm := List.mem_range.mp (List.mem_of_find?_eq_some hf)
    have hle := hv.1.2.1
    refine ⟨by rw [rv_n (by omega)], by rw [rv_n (by omega)], fun m => by rw [rv_n (by omega)], fun m => by rw [rv_n (by omega)], fun m => ?_, T_rv (p := (p.1, mset p.2 1 f true)) (V_gone hv) (by dsimp only; omega) hT⟩
    rw [rv_b (Or.inl rfl)]
    show mset p.2 1 f true 0 m = _
    rw [mset_n (by omega)]
theorem c_make9n {fu a3 n3 : Nat} {c a sz : Int32} {A : mwM} {L : mwL} (h : A 154 5 = sI 100) : DX9_make fu c a a3 n3 sz A L = some (A, L) := by
  unfold DX9_make fX9_make_b22
  rw [h, if_pos (by decide)]
