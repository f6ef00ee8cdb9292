/-! READING: what both have read so far -/
def PrT (A M : mwM) (T C X : Nat) (ow : Nat → Nat) : Prop := A 5 3 = sI T ∧ M 732 24 = sI T ∧ T ≤ 12 ∧ (∀ i, i < T → A 8 i = sI (ow i) ∧ M 742 i = sI (ow i) ∧ ow i < C ∧ (∃ pr pe ou wk, A 7 i = sI pr ∧ M 743 i = sI pr ∧ pr ≤ 255 ∧ A 9 i = sI pe ∧ M 744 i = sI pe ∧ 500 ≤ pe ∧ pe ≤ 20000 ∧ A 11 i = sI ou ∧ M 745 i = sI ou ∧ ou < pe ∧ A 10 i = sI wk ∧ M 746 i = sI wk ∧ 1 ≤ wk ∧ wk ≤ 1000) ∧ (∀ a, 12 ≤ a → a ≤ 17 → A a i = 0) ∧ M 748 i = 0 ∧ ((A 283 i = -1 ∧ M 747 i = -1) ∨ ∃ x, x < X ∧ A 283 i = sI x ∧ M 747 i = sI x)) ∧ ∀ i, T ≤ i → i < 12 → A 283 i = -1
def ChP (A M : mwM) (Lc Lm : mwL) (x ns nd : Nat) : Prop := A (293 + 36 * x) 11 = 0 ∧ A (293 + 36 * x) 13 = 0 ∧ M 751 x = 0 ∧ M 752 x = 0 ∧ Lm (964 + 53 * x) 28 = 0 ∧ ∃ c va D xx, Cv c ∧ ReC (293 + 36 * x) A Lc c b00 va D xx ∧ ReM (964 + 53 * x) M Lm c b00 va D xx ∧ ClM (964 + 53 * x) M Lm c ∧ c 0 0 = ns ∧ c 0 4 = nd ∧ M 750 x = sI (c 0 1) ∧ ∀ s, s ≤ c 0 0 → c 13 s = 0 ∧ c 14 s = 0
def PrX (A M : mwM) (Lc Lm : mwL) (X T : Nat) (ow ct : Nat → Nat) (nl : List Nm) : Prop := A 3 14 = sI X ∧ M 732 33 = sI X ∧ X ≤ 12 ∧ (∀ x, x < X → M 749 x = sI (ct x) ∧ ct x < T ∧ A (293 + 36 * x) 5 = sI (ow (ct x)) ∧ ChP A M Lc Lm x (nsL (1 + 2 * x) nl).length (nsL (2 + 2 * x) nl).length) ∧ ∀ x, X ≤ x → x < 12 → A (293 + 36 * x) 5 = -1
def PrB (M : mwM) (Lc Lm : mwL) : Prop := ∀ x, x < 12 → M (964 + 53 * x + 1) 0 = 0 ∧ M (964 + 53 * x + 2) 0 = 0 ∧ M (964 + 53 * x + 3) 0 = 0 ∧ ∀ y, 32 ≤ y → Lc (293 + 36 * x + 34) y = Lm (964 + 53 * x + 21) y
def PrS (A M : mwM) (S X n : Nat) (ow ct : Nat → Nat) (sg : Nat → Nat → Nat) (tu : Nat → Bool) : Prop := A 61 10 = sI S ∧ M 732 45 = sI S ∧ S ≤ 40 ∧ ∀ s, s < S → (A 63 s = sI (sg 0 s) ∧ M 761 s = sI (sg 0 s) ∧ 1 ≤ sg 0 s ∧ sg 0 s ≤ 64) ∧ (A 66 s = sI (sg 1 s) ∧ M 764 s = sI (sg 1 s) ∧ 500 ≤ sg 1 s ∧ sg 1 s ≤ 20000) ∧ (A 64 s = sI (sg 2 s) ∧ M 762 s = sI (sg 2 s) ∧ sg 2 s < X) ∧ (A 65 s = sI (sg 3 s) ∧ M 763 s = sI (sg 3 s) ∧ sg 3 s < 32) ∧ (A 67 s = bI (tu s) ∧ M 765 s = bI (tu s)) ∧ A 68 s = sI (ow (ct (sg 2 s))) ∧ A 69 s = sI (sg 4 s) ∧ M 760 s = sI (sg 4 s) ∧ sg 4 s ≤ n
def PrW (A M : mwM) (Lm : mwL) (W S : Nat) (sg wt : Nat → Nat → Nat) : Prop := WtR A M Lm W S (wt 0) (wt 1) ∧ RTr A M W 0 ∧ (∀ w, w < W → A 143 w = sI (3 * sg 1 (wt 0 w))) ∧ ∀ j, W < j → j ≤ 30 → M 906 j = 0 ∧ M 916 j = 0
def NmB (C T X S : Nat) (nl : List Nm) : Prop := (nsL 0 nl).length = C + T + X + S ∧ ∀ q, q ∈ nl → q.1 ≤ 2 * X ∧ (q.1 = 0 → (q.2.2.2.1 = 0 ∧ q.2.2.2.2 < C) ∨ (q.2.2.2.1 = 1 ∧ q.2.2.2.2 < T) ∨ (q.2.2.2.1 = 2 ∧ q.2.2.2.2 < X) ∨ (q.2.2.2.1 = 3 ∧ q.2.2.2.2 < S))
def PrK (A M : mwM) (K : Nat) (ky : Nat → Nat → Nat) : Prop := KyC A K (ky 0) (ky 1) (ky 2) ∧ KyM M K (ky 0) (ky 1) (ky 2) ∧ ∀ i, i < K → 1 ≤ ky 2 i
def PR (A M : mwM) (Lc Lm : mwL) (n C T X S K R W : Nat) (nl : List Nm) (ow ct : Nat → Nat) (sg : Nat → Nat → Nat) (tu : Nat → Bool) (ky rd wt : Nat → Nat → Nat) : Prop :=
  (A 3 13 = sI C ∧ M 732 19 = sI C ∧ C ≤ 6) ∧ PrT A M T C X ow ∧ PrX A M Lc Lm X T ow ct nl ∧ PrB M Lc Lm ∧ PrS A M S X n ow ct sg tu ∧ PrK A M K ky ∧ RdR A M Lc Lm R S X (rd 0) (rd 1) (rd 2) (rd 3) ∧ PrW A M Lm W S sg wt ∧ NaR A M n X nl ∧ NmB C T X S nl
theorem PrT_f {A A' M M' : mwM} {T C X : Nat} {ow : Nat → Nat} (h : PrT A M T C X ow) (hA : ∀ a y, (a = 5 ∧ y = 3) ∨ (7 ≤ a ∧ a ≤ 17) ∨ a = 283 → A' a y = A a y) (hM : ∀ a y, (a = 732 ∧ y = 24) ∨ (742 ≤ a ∧ a ≤ 748 ∧ y < T) → M' a y = M a y) : PrT A' M' T C X ow := by
  obtain ⟨h1, h2, h3, h4, h5⟩ := h
  refine ⟨by rw [hA _ _ (by omega)]; exact h1, by rw [hM _ _ (by omega)]; exact h2, h3, fun i hi => ?_, fun i i1 i2 => by rw [hA _ _ (by omega)]; exact h5 i i1 i2⟩
  obtain ⟨g1, g2, g3, ⟨pr, pe, ou, wk, q1, q2, q3, q4, q5, q6, q7, q8, q9, q10, q11, q12, q13, q14⟩, g5, g6, g7⟩ := h4 i hi
  refine ⟨by rw [hA _ _ (by omega)]; exact g1, by rw [hM _ _ (by omega)]; exact g2, g3, ⟨pr, pe, ou, wk, by rw [hA _ _ (by omega)]; exact q1, by rw [hM _ _ (by omega)]; exact q2, q3, by rw [hA _ _ (by omega)]; exact q4, by rw [hM _ _ (by omega)]; exact q5, q6, q7, by rw [hA _ _ (by omega)]; exact q8, by rw [hM _ _ (by omega)]; exact q9, q10, by rw [hA _ _ (by omega)]; exact q11, by rw [hM _ _ (by omega)]; exact q12, q13, q14⟩, fun a a1 a2 => by rw [hA _ _ (by omega)]; exact g5 a a1 a2, by rw [hM _ _ (by omega)]; exact g6, ?_⟩
  rw [hA _ _ (by omega), hM _ _ (by omega)]
  exact g7
theorem ChP_f {A A' M M' : mwM} {Lc Lc' Lm Lm' : mwL} {x ns nd : Nat} (h : ChP A M Lc Lm x ns nd) (hA : ∀ a y, 293 + 36 * x ≤ a → a ≤ 293 + 36 * x + 35 → A' a y = A a y) (hM : ∀ a y, (750 ≤ a ∧ a ≤ 752 ∧ y = x) ∨ (964 + 53 * x ≤ a ∧ a ≤ 964 + 53 * x + 52) → M' a y = M a y) (hC : Lc' (293 + 36 * x + 34) = Lc (293 + 36 * x + 34)) (hL : ∀ a, 964 + 53 * x ≤ a → a ≤ 964 + 53 * x + 52 → Lm' a = Lm a) : ChP A' M' Lc' Lm' x ns nd := by
  obtain ⟨h1, h2, h3, h4, h5, c, va, D, xx, g1, g2, g3, g4, g5, g6, g7, g8⟩ := h
  exact ⟨by rw [hA _ _ (by omega) (by omega)]; exact h1, by rw [hA _ _ (by omega) (by omega)]; exact h2, by rw [hM _ _ (by omega)]; exact h3, by rw [hM _ _ (by omega)]; exact h4, by rw [hL _ (by omega) (by omega)]; exact h5, c, va, D, xx, g1, ReC_f g2 (fun a y a1 a2 _ _ _ _ => hA a y (by omega) (by omega)) hC, ReM_f g3 (fun a y a1 a2 _ => hM a y (by omega)) (fun a a1 a2 => hL a (by omega) (by omega)), ClM_f g4 (fun a y a1 a2 _ => hM a y (by omega)) (fun a a1 a2 => hL a (by omega) (by omega)), g5, g6, by rw [hM _ _ (by omega)]; exact g7, g8⟩
theorem PrX_f {A A' M M' : mwM} {Lc Lc' Lm Lm' : mwL} {X T : Nat} {ow ct : Nat → Nat} {nl : List Nm} (h : PrX A M Lc Lm X T ow ct nl) (hA : ∀ a y, (a = 3 ∧ y = 14) ∨ (293 ≤ a ∧ a ≤ 724) → A' a y = A a y) (hM : ∀ a y, (a = 732 ∧ y = 33) ∨ (749 ≤ a ∧ a ≤ 752) ∨ 964 ≤ a → M' a y = M a y) (hC : ∀ a, 293 ≤ a → a ≤ 724 → Lc' a = Lc a) (hL : ∀ a, 964 ≤ a → Lm' a = Lm a) : PrX A' M' Lc' Lm' X T ow ct nl := by
  obtain ⟨h1, h2, h3, h4, h5⟩ := h
  refine ⟨by rw [hA _ _ (by omega)]; exact h1, by rw [hM _ _ (by omega)]; exact h2, h3, fun x hx => ?_, fun x x1 x2 => by rw [hA _ _ (by omega)]; exact h5 x x1 x2⟩
  obtain ⟨g1, g2, g3, g4⟩ := h4 x hx
  exact ⟨by rw [hM _ _ (by omega)]; exact g1, g2, by rw [hA _ _ (by omega)]; exact g3, ChP_f g4 (fun a y a1 a2 => hA a y (by omega)) (fun a y u => hM a y (by omega)) (hC _ (by omega) (by omega)) (fun a a1 a2 => hL a (by omega))⟩
theorem PrB_f {M M' : mwM} {Lc Lc' Lm Lm' : mwL} (h : PrB M Lc Lm) (hM : ∀ a, 964 ≤ a → (a - 964) % 53 = 1 ∨ (a - 964) % 53 = 2 ∨ (a - 964) % 53 = 3 → M' a 0 = M a 0) (hC : ∀ a y, 32 ≤ y → 293 ≤ a → a ≤ 724 → Lc' a y = Lc a y) (hL : ∀ a y, 32 ≤ y → 964 ≤ a → (a - 964) % 53 = 21 → Lm' a y = Lm a y) : PrB M' Lc' Lm' := by
  intro x hx
  obtain ⟨g1, g2, g3, g4⟩ := h x hx
  exact ⟨by rw [hM _ (by omega) (by omega)]; exact g1, by rw [hM _ (by omega) (by omega)]; exact g2, by rw [hM _ (by omega) (by omega)]; exact g3, fun y hy => by rw [hC _ _ hy (by omega) (by omega), hL _ _ hy (by omega) (by omega)]; exact g4 y hy⟩
theorem PrS_f {A A' M M' : mwM} {S X n : Nat} {ow ct : Nat → Nat} {sg : Nat → Nat → Nat} {tu : Nat → Bool} (h : PrS A M S X n ow ct sg tu) (hA : ∀ a y, (a = 61 ∧ y = 10) ∨ (63 ≤ a ∧ a ≤ 69) → A' a y = A a y) (hM : ∀ a y, (a = 732 ∧ y = 45) ∨ (760 ≤ a ∧ a ≤ 765 ∧ y < S) → M' a y = M a y) : PrS A' M' S X n ow ct sg tu := by
  obtain ⟨h1, h2, h3, h4⟩ := h
  refine ⟨by rw [hA _ _ (by omega)]; exact h1, by rw [hM _ _ (by omega)]; exact h2, h3, fun s hs => ?_⟩
  rw [hA _ _ (by omega), hA _ _ (by omega), hA _ _ (by omega), hA _ _ (by omega), hA _ _ (by omega), hA _ _ (by omega), hA _ _ (by omega), hM _ _ (by omega), hM _ _ (by omega), hM _ _ (by omega), hM _ _ (by omega), hM _ _ (by omega), hM _ _ (by omega)]
  exact h4 s hs
theorem PrK_f {A A' M M' : mwM} {K : Nat} {ky : Nat → Nat → Nat} (h : PrK A M K ky) (hA : ∀ a y, (a = 61 ∧ y = 12) ∨ (82 ≤ a ∧ a ≤ 84) → A' a y = A a y) (hM : ∀ a y, (a = 732 ∧ y = 20) ∨ (738 ≤ a ∧ a ≤ 740) → M' a y = M a y) : PrK A' M' K ky := by
  obtain ⟨⟨h1, h2, h3⟩, ⟨g1, g2, g3⟩, k⟩ := h
  refine ⟨⟨by rw [hA _ _ (by omega)]; exact h1, h2, fun i hi => ?_⟩, ⟨by rw [hM _ _ (by omega)]; exact g1, g2, fun i hi => ?_⟩, k⟩
  · rw [hA _ _ (by omega), hA _ _ (by omega), hA _ _ (by omega)]
    exact h3 i hi
  · rw [hM _ _ (by omega), hM _ _ (by omega), hM _ _ (by omega)]
    exact g3 i hi
theorem PrW_f {A A' M M' : mwM} {Lm Lm' : mwL} {W S : Nat} {sg wt : Nat → Nat → Nat} (h : PrW A M Lm W S sg wt) (hA : ∀ a y, 139 ≤ a → a ≤ 153 → A' a y = A a y) (hM : ∀ a y, (a = 732 ∧ y = 62) ∨ (775 ≤ a ∧ a ≤ 777) ∨ (902 ≤ a ∧ a ≤ 920) → M' a y = M a y) (hL : ∀ y, Lm' 778 y = Lm 778 y) : PrW A' M' Lm' W S sg wt := by
  obtain ⟨h1, h2, h3, h4⟩ := h
  exact ⟨WtR_f h1 (fun a y u => hA a y (by omega) (by omega)) (fun a y u => hM a y (by omega)) hL, RTr_fr h2 (fun a y a1 a2 => hA a y a1 a2) (fun a y a1 a2 _ => hM a y (by omega)), fun w hw => by rw [hA _ _ (by omega) (by omega)]; exact h3 w hw, fun j j1 j2 => by rw [hM _ _ (by omega), hM _ _ (by omega)]; exact h4 j j1 j2⟩
theorem PR_f {A A' M M' : mwM} {Lc Lm : mwL} {n C T X S K R W : Nat} {nl : List Nm} {ow ct : Nat → Nat} {sg : Nat → Nat → Nat} {tu : Nat → Bool} {ky rd wt : Nat → Nat → Nat} (h : PR A M Lc Lm n C T X S K R W nl ow ct sg tu ky rd wt) (hA : ∀ a y, a ≠ 1 ∨ y = 3 → A' a y = A a y) (hM : ∀ a y, ¬ (a = 732 ∧ 6 ≤ y ∧ y ≤ 13) → ¬ (743 ≤ a ∧ a ≤ 746 ∧ y = T) → ¬ ((a = 761 ∨ a = 764 ∨ a = 765) ∧ y = S) → M' a y = M a y) : PR A' M' Lc Lm n C T X S K R W nl ow ct sg tu ky rd wt := by
  obtain ⟨⟨h1, h2, h3⟩, h4, h5, h6, h7, h8, h9, h10, h11, h12⟩ := h
  refine ⟨⟨by rw [hA _ _ (by omega)]; exact h1, by rw [hM _ _ (by omega) (by omega) (by omega)]; exact h2, h3⟩, PrT_f h4 (fun a y u => hA a y (by omega)) (fun a y u => hM a y (by omega) (by omega) (by omega)), PrX_f h5 (fun a y u => hA a y (by omega)) (fun a y u => hM a y (by omega) (by omega) (by omega)) (fun _ _ _ => rfl) (fun _ _ => rfl), PrB_f h6 (fun a a1 a2 => hM a 0 (by omega) (by omega) (by omega)) (fun _ _ _ _ _ => rfl) (fun _ _ _ _ _ => rfl), PrS_f h7 (fun a y u => hA a y (by omega)) (fun a y u => hM a y (by omega) (by omega) (by omega)), PrK_f h8 (fun a y u => hA a y (by omega)) (fun a y u => hM a y (by omega) (by omega) (by omega)), RdR_f h9 (fun a y u => hA a y (by omega)) (fun a y u => hM a y (by omega) (by omega) (by omega)) (fun _ => rfl) (fun _ => rfl), PrW_f h10 (fun a y a1 a2 => hA a y (by omega)) (fun a y u => hM a y (by omega) (by omega) (by omega)) (fun _ => rfl), NaR_f h11 (fun a y u => hA a y (by omega)) (fun a y u => hM a y (by omega) (by omega) (by omega)), h12⟩
/-- a word behind a blank -/
theorem nw_2 {tx : Nat → Nat} {le a : Nat} (h : a ≤ le) (hb : a < le → tx a = 32) (hk : nwK tx le a = true) : a + 2 ≤ nwE tx le a ∧ nwE tx le a ≤ le ∧ (nwE tx le a < le → tx (nwE tx le a) = 32) := by
  obtain ⟨b1, b2, b3, b4, b5, b6, b7, _⟩ := nw_b (tx := tx) h
  have h5 := b5 hk
  have : nwB tx le a < le := by
    have := of_decide_eq_true hk
    exact this.1
  have h7 := b7 hk (hb (by omega))
  exact ⟨by omega, b4, b6⟩
theorem ns_app {σ : Nat} {nl : List Nm} {q : Nm} : nsL σ (nl ++ [q]) = if q.1 = σ then nsL σ nl ++ [q] else nsL σ nl := by
  unfold nsL
  rw [List.filter_append]
  by_cases c : q.1 = σ
  · rw [if_pos c]
    simp [c]
  · rw [if_neg c]
    simp [c]
/-- what stays while a line is read -/
abbrev rA (a y : Nat) : Prop := ¬ (a = 1 ∧ (y = 3 ∨ y = 5 ∨ 7 ≤ y)) ∧ ¬ (a = 3 ∧ 13 ≤ y ∧ y ≤ 15) ∧ ¬ (a = 5 ∧ y = 3) ∧ ¬ (7 ≤ a ∧ a ≤ 17) ∧ ¬ (a = 61 ∧ (y = 10 ∨ y = 12)) ∧ ¬ (63 ≤ a ∧ a ≤ 69) ∧ ¬ (82 ≤ a ∧ a ≤ 84) ∧ ¬ (139 ≤ a ∧ a ≤ 150) ∧ a ≠ 283 ∧ ¬ (286 ≤ a ∧ a ≤ 290) ∧ ¬ (293 ≤ a ∧ a ≤ 730)
abbrev rM (a y : Nat) : Prop := ¬ (a = 732 ∧ (y = 6 ∨ (8 ≤ y ∧ y ≤ 14) ∨ y = 19 ∨ y = 20 ∨ y = 24 ∨ y = 33 ∨ y = 45 ∨ y = 55 ∨ y = 62)) ∧ ¬ (734 ≤ a ∧ a ≤ 765) ∧ ¬ (769 ≤ a ∧ a ≤ 773) ∧ ¬ (775 ≤ a ∧ a ≤ 777) ∧ ¬ (902 ≤ a ∧ a ≤ 920) ∧ ¬ (964 ≤ a ∧ (a - 964) % 53 ≤ 29)
abbrev fL (A A' M M' : mwM) (Lc Lc' Lm Lm' : mwL) : Prop := (∀ a y, rA a y → A' a y = A a y) ∧ (∀ a y, rM a y → M' a y = M a y) ∧ (∀ a, ¬ (293 ≤ a ∧ a ≤ 724) → Lc' a = Lc a) ∧ ∀ a, a < 964 → a ≠ 778 → Lm' a = Lm a
/-- how a line ends -/
def RlQ (A M : mwM) (Lc Lm : mwL) (n le : Nat) (X : Option (mwM × mwL)) (Y : Option (Int32 × mwM × mwL)) : Prop :=
  ∃ A' M' Lc' Lm', ∃ gd : Bool, X = some (A', Lc') ∧ Y = some (bI gd, M', Lm') ∧ fL A A' M M' Lc Lc' Lm Lm' ∧ (if gd = true then A' 1 12 = 0 else Fx A' M') ∧ ∃ C T X S K R W nl ow ct sg tu ky rd wt, PR A' M' Lc' Lm' n C T X S K R W nl ow ct sg tu ky rd wt ∧ 12 * nl.length ≤ le + 1 ∧ 15 * K ≤ le + 1
