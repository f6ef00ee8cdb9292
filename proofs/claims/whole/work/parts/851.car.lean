/-! THE CAR, as both keep it -/
theorem HdF_f {M M' : mwM} {S f : Nat} {d : Nat → Nat → Nat} {tu : Nat → Bool} (h : HdF M S d tu f) (hM : ∀ a y, 941 ≤ a → (a - 941) % 53 = 15 → M' a y = M a y) : HdF M' S d tu f := by
  have hk : kFr d f = 941 + 53 * pkn (d 10 f) (d 12 f) := rfl
  refine ⟨fun s hs hf q hq => ?_, fun y hy hn => ?_⟩
  · obtain ⟨od, o1, o2⟩ := h.1 s hs hf q hq
    exact ⟨od, by rw [hM _ _ (by omega) (by omega)]; exact o1, o2⟩
  · rw [hM _ _ (by omega) (by omega)]
    exact h.2 y hy hn
/-- what changes only as frames are sent -/
def SlW (A M : mwM) (C S F W X T t : Nat) (d : Nat → Nat → Nat) (tu : Nat → Bool) (g : Nat → Nat → Nat) (si : Nat → Bool) : Prop :=
  (∀ f, f < F → HdF M S d tu f) ∧ DyS A M F d t 0 ∧ SoR A F d t ∧ (∀ f, f < F → d 10 f < C) ∧ (∀ s, s < S → d 4 s < X) ∧ (∀ c, c < 6 → A 284 c = bI (si c) ∧ M 923 c = bI (si c)) ∧ (∀ w, w < W → A 143 w = sI (3 * d 1 (g 4 w))) ∧ M 732 19 = sI C ∧ A 3 13 = sI C ∧ C ≤ 6 ∧ M 732 24 = sI T ∧ (∀ i, i < T → (A 283 i = -1 ∧ M 747 i = -1) ∨ ∃ x, x < X ∧ A 283 i = sI x ∧ M 747 i = sI x) ∧ ∀ i, i < T → A 10 i = M 746 i
theorem SlW_f {A A' M M' : mwM} {C S F W X T t : Nat} {d : Nat → Nat → Nat} {tu : Nat → Bool} {g : Nat → Nat → Nat} {si : Nat → Bool} (h : SlW A M C S F W X T t d tu g si) (hA : ∀ a y, (a = 3 ∧ y = 13) ∨ a = 10 ∨ (a = 61 ∧ y = 14) ∨ a = 77 ∨ a = 79 ∨ a = 143 ∨ a = 283 ∨ a = 284 → A' a y = A a y) (hM : ∀ a y, (a = 732 ∧ (y = 19 ∨ y = 24)) ∨ a = 746 ∨ a = 747 ∨ a = 785 ∨ a = 923 ∨ (941 ≤ a ∧ (a - 941) % 53 = 15) → M' a y = M a y) : SlW A' M' C S F W X T t d tu g si := by
  obtain ⟨h1, h2, ⟨sm, h3, h3'⟩, h4, h5, h6, h7, h8, h9, h10, h11, h12, h13⟩ := h
  refine ⟨fun f hf => HdF_f (h1 f hf) (fun a y u1 u2 => hM a y (by omega)), fun f hf => ?_, ⟨sm, by rw [hA _ _ (by omega)]; exact h3, h3'⟩, h4, h5, fun c hc => ?_, fun w hw => by rw [hA _ _ (by omega)]; exact h7 w hw, by rw [hM _ _ (by omega)]; exact h8, by rw [hA _ _ (by omega)]; exact h9, h10, by rw [hM _ _ (by omega)]; exact h11, fun i hi => ?_, fun i hi => by rw [hA _ _ (by omega), hM _ _ (by omega)]; exact h13 i hi⟩
  · obtain ⟨⟨k, k1, k2, k3⟩, k4⟩ := h2 f hf
    exact ⟨⟨k, by rw [hA _ _ (by omega)]; exact k1, by rw [hM _ _ (by omega)]; exact k2, k3⟩, by rw [hA _ _ (by omega)]; exact k4⟩
  · rw [hA _ _ (by omega), hM _ _ (by omega)]
    exact h6 c hc
  · rw [hA _ _ (by omega), hM _ _ (by omega)]
    exact h12 i hi
/-- the car -/
def CAR (A M : mwM) (Lc Lm : mwL) (C S F W R X T t E : Nat) (d : Nat → Nat → Nat) (tu : Nat → Bool) (g : Nat → Nat → Nat) (own Sb bd : Nat → Nat) (si : Nat → Bool) (p : PB) (o : Nat → Nat → Nat) (e ec tc fl : Nat → Nat) : Prop :=
  TkB A M Lc Lm S F W R X t E d tu g own Sb bd ∧ TrB A M Lm C Sb p o e ∧ p.1 0 3 = t ∧ BusE A M (C + 1) t ec tc fl ∧ SlW A M C S F W X T t d tu g si ∧ RCo A M Lm T C t ∧ (∀ x, x < X → CxR A M Lc Lm t x) ∧ (∀ i, i < T → A 17 i = M 748 i) ∧ (∀ k, k ≤ C → M 924 k = sI (tc k)) ∧ A 292 0 = M 939 0 ∧ A 292 4 = M 939 4 ∧ E ≤ 240 * t ∧ ∀ c, c < 6 → bd c ≤ 64 * t
theorem TkB_g {A A' M M' : mwM} {Lc Lc' Lm Lm' : mwL} {S F W R X t t' E E' : Nat} {d : Nat → Nat → Nat} {tu : Nat → Bool} {g : Nat → Nat → Nat} {own Sb bd : Nat → Nat} (h : TkB A M Lc Lm S F W R X t E d tu g own Sb bd) (hS : FrS A' M' S F d tu) (hQ : ∀ x, x < X → QdR A' M' Lc' Lm' x) (hW : WtR A' M' Lm' W S (g 4) (g 5)) (hT : RTr A' M' W E') (hR : RCd A' M' Sb) (hA : ∀ a y, (a = 3 ∧ y = 15) ∨ (86 ≤ a ∧ a ≤ 91) ∨ (101 ≤ a ∧ a ≤ 136) ∨ (286 ≤ a ∧ a ≤ 290) ∨ (a = 292 ∧ (y = 1 ∨ y = 2)) ∨ (293 ≤ a ∧ (a - 293) % 36 = 0 ∧ y = 5) → A' a y = A a y) (hM : ∀ a y, (a = 732 ∧ (y = 33 ∨ y = 55)) ∨ a = 742 ∨ a = 749 ∨ (769 ≤ a ∧ a ≤ 773) ∨ (a = 939 ∧ (y = 1 ∨ y = 2)) → M' a y = M a y) (hC : ∀ y, Lc' 291 y = Lc 291 y) (hL : ∀ a y, a = 774 ∨ a = 786 → Lm' a y = Lm a y) (h16 : A' 3 16 = sI t') (h83 : M' 732 83 = sI t') (ht : t' ≤ 20000) : TkB A' M' Lc' Lm' S F W R X t' E' d tu g own Sb bd := by
  obtain ⟨kS, kO, kR, kQ, kW, kT, kC, kK, kN, k1, k2, k16, k83, kt⟩ := h
  refine ⟨hS, ChO_f kO (fun x hx => hA _ _ (by omega)) (fun a y u => hM a y (by omega)), RdR_f kR (fun a y u => hA a y (by omega)) (fun a y u => hM a y (by omega)) hC (fun y => hL _ y (by omega)), hQ, hW, hT, hR, fun f hf hk => KnC_f (kK f hf hk) ?_ (fun a y u1 u2 => hA a y (by omega)), fun f hf c hc => ?_, by rw [hA _ _ (by omega), hM _ _ (by omega)]; exact k1, by rw [hA _ _ (by omega), hM _ _ (by omega)]; exact k2, h16, h83, ht⟩
  · obtain ⟨_, _, _, _, _, _, fF, _⟩ := kS
    have := (fF f hf).1
    unfold FrT at this
    omega
  · obtain ⟨cn, n1, n2, n3⟩ := kN f hf c hc
    exact ⟨cn, n1, by rw [hA _ _ (by omega)]; exact n2, by rw [hL _ _ (by omega)]; exact n3⟩
/-- what the running car leaves alone -/
abbrev kpA (A A' : mwM) : Prop := ∀ a y, a ≤ 2 ∨ (a = 3 ∧ y = 14) → A' a y = A a y
abbrev kpM (X : Nat) (M M' : mwM) : Prop := ∀ a y, (a = 732 ∧ y ≤ 5) ∨ a = 733 ∨ (941 ≤ a ∧ (a - 941) % 53 = 8) ∨ (964 + 53 * X ≤ a ∧ 1 ≤ (a - 964) % 53 ∧ (a - 964) % 53 ≤ 3) → M' a y = M a y
abbrev kpC (X : Nat) (L L' : mwL) : Prop := ∀ a y, 293 + 36 * X ≤ a → (a - 293) % 36 = 34 → 32 ≤ y → L' a y = L a y
abbrev kpL (X : Nat) (L L' : mwL) : Prop := ∀ a y, 964 + 53 * X ≤ a → (a - 964) % 53 = 21 → 32 ≤ y → L' a y = L a y
