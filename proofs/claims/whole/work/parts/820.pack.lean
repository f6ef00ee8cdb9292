/-! the class: keys, too large ones; positions on both sides -/
abbrev SgB (A : mwM) (S : Nat) (bt pe co : Nat → Nat) : Prop := A 61 10 = sI S ∧ S ≤ 40 ∧ ∀ s, s < S → A 63 s = sI (bt s) ∧ 1 ≤ bt s ∧ bt s ≤ 64 ∧ A 66 s = sI (pe s) ∧ 500 ≤ pe s ∧ pe s ≤ 20000 ∧ A 68 s = sI (co s) ∧ co s < 6
theorem KyC_f {A A' : mwM} {K : Nat} {ka kp kn : Nat → Nat} (h : KyC A K ka kp kn) (hf : ∀ a y, (a = 61 ∧ y = 12) ∨ a = 82 ∨ a = 83 ∨ a = 84 → A' a y = A a y) : KyC A' K ka kp kn := by
  obtain ⟨h1, h2, h3⟩ := h
  refine ⟨by rw [hf _ _ (by omega)]; exact h1, h2, fun i hi => ?_⟩
  obtain ⟨a1, a2, a3, a4, a5, a6⟩ := h3 i hi
  exact ⟨by rw [hf _ _ (by omega)]; exact a1, by rw [hf _ _ (by omega)]; exact a2, by rw [hf _ _ (by omega)]; exact a3, a4, a5, a6⟩
theorem c_keys {fu S C K : Nat} {A : mwM} {L : mwL} {bt pe co ka kp kn : Nat → Nat} (hfu : 500 ≤ fu) (hS : SgB A S bt pe co) (hK : KyC A K ka kp kn) : ∃ A', DX6_pack fu (sI C) A L = fX6_pack_h47 fu (sI C) fu (0, A', L) ∧ SgC A' S bt pe co (fun s => kyf ka kp kn (co s) (pe s) K 0) ∧ ∀ a y, a ≠ 70 → A' a y = A a y := by
  obtain ⟨h1, h2, h3⟩ := hS
  unfold DX6_pack
  have key : ∀ (r s q : Nat) (B : mwM), s + r = S → r < q → (∀ t, t < s → B 70 t = sI (kyf ka kp kn (co t) (pe t) K 0)) → (∀ a y, a ≠ 70 → B a y = A a y) → ∃ A', fX6_pack_h2 fu (sI C) q (sI s, B, L) = fX6_pack_h47 fu (sI C) fu (0, A', L) ∧ SgC A' S bt pe co (fun s => kyf ka kp kn (co s) (pe s) K 0) ∧ ∀ a y, a ≠ 70 → A' a y = A a y := by
    intro r
    induction r with
    | zero =>
      intro s q B hs hq h70 hf
      obtain ⟨q', rfl⟩ : ∃ y, q = y + 1 := ⟨q - 1, by omega⟩
      refine ⟨B, ?_, ⟨by rw [hf _ _ (by omega)]; exact h1, h2, fun t ht => ?_⟩, hf⟩
      · show fX6_pack_i2 fu (sI C) (fX6_pack_h2 fu (sI C) q') (sI s) B L = _
        unfold fX6_pack_i2
        rw [hf _ _ (by omega), h1, if_pos (by rw [sI_le (by omega) (by omega)]; omega)]
      · obtain ⟨a1, a2, a3, a4, a5, a6, a7, a8⟩ := h3 t ht
        exact ⟨by rw [hf _ _ (by omega)]; exact a1, a2, a3, by rw [hf _ _ (by omega)]; exact a4, a5, a6, by rw [hf _ _ (by omega)]; exact a7, a8, h70 t (by omega), kyf_le _ _ (fun j hj => (hK.2.2 j (by omega)).2.2.2.2.2)⟩
    | succ r ih =>
      intro s q B hs hq h70 hf
      obtain ⟨q', rfl⟩ : ∃ y, q = y + 1 := ⟨q - 1, by omega⟩
      obtain ⟨a1, a2, a3, a4, a5, a6, a7, a8⟩ := h3 s (by omega)
      have un : fX6_pack_h2 fu (sI C) (q' + 1) (sI s, B, L) = fX6_pack_i2 fu (sI C) (fX6_pack_h2 fu (sI C) q') (sI s) B L := rfl
      rw [un]
      unfold fX6_pack_i2
      rw [hf 61 10 (by omega), h1, if_neg (by rw [sI_le (by omega) (by omega)]; omega), mck_s (by omega) (by omega), mck_s (by omega) (by omega), sI_nn (by omega), hf 68 s (by omega), hf 66 s (by omega), a7, a4, c_keyOf hfu (KyC_f hK (fun a y w => hf a y (by omega))) a8 a6, mb3_s, mck_s (by omega) (by omega)]
      simp only [mlet]
      rw [sI_1]
      refine ih (s + 1) q' _ (by omega) (by omega) (fun t ht => ?_) (fun a y w => by rw [mset_n (by omega)]; exact hf a y w)
      by_cases e : t = s
      · rw [e, mset_s]
      · rw [mset_n (by omega)]; exact h70 t (by omega)
  exact key S 0 fu A (by omega) (by omega) (fun t w => by omega) (fun _ _ _ => rfl)
theorem c_findTooLarge {fu S C K : Nat} {A : mwM} {L : mwL} {bt pe co ka kp kn : Nat → Nat} (hfu : 500 ≤ fu) (hC : C ≤ 6) (hS : SgB A S bt pe co) (hK : KyC A K ka kp kn) (hco : ∀ s, s < S → co s < C) : ((∀ s, s < S → ¬ TLg bt (fun s => kyf ka kp kn (co s) (pe s) K 0) s) ∧ DX6_findTooLarge fu (sI C) A L = some (-1, A, L)) ∨ ∃ t, t < S ∧ TLg bt (fun s => kyf ka kp kn (co s) (pe s) K 0) t ∧ (∀ u, u < S → TLg bt (fun s => kyf ka kp kn (co s) (pe s) K 0) u → co t < co u ∨ (co t = co u ∧ t ≤ u)) ∧ DX6_findTooLarge fu (sI C) A L = some (sI t, A, L) := by
  obtain ⟨h1, h2, h3⟩ := hS
  have h16 : ∀ s, s < S → kyf ka kp kn (co s) (pe s) K 0 ≤ 16 := fun s _ => kyf_le _ _ (fun j hj => (hK.2.2 j (by omega)).2.2.2.2.2)
  generalize hky : (fun s => kyf ka kp kn (co s) (pe s) K 0) = ky
  have eky : ∀ s, kyf ka kp kn (co s) (pe s) K 0 = ky s := fun s => by rw [← hky]
  unfold DX6_findTooLarge
  have inner : ∀ (c : Nat), c < C → ∀ (rr : (Int32 × mwM × mwL) → Option (Int32 × mwM × mwL)) (r s q : Nat), s + r = S → r < q → (∀ u, u < s → co u = c → ¬ TLg bt ky u) → ((∀ u, u < S → co u = c → ¬ TLg bt ky u) ∧ fX6_findTooLarge_h9 fu (sI C) rr q (sI c, sI s, A, L) = rr (sI (c + 1), A, L)) ∨ ∃ t, t < S ∧ co t = c ∧ TLg bt ky t ∧ (∀ u, u < t → co u = c → ¬ TLg bt ky u) ∧ fX6_findTooLarge_h9 fu (sI C) rr q (sI c, sI s, A, L) = some (sI t, A, L) := by
    intro c hc rr r
    induction r with
    | zero =>
      intro s q hs hq hno
      obtain ⟨q', rfl⟩ : ∃ y, q = y + 1 := ⟨q - 1, by omega⟩
      refine Or.inl ⟨fun u hu => hno u (by omega), ?_⟩
      show fX6_findTooLarge_i9 fu (sI C) rr (fX6_findTooLarge_h9 fu (sI C) rr q') (sI c) (sI s) A L = _
      unfold fX6_findTooLarge_i9
      simp only [mlet]
      rw [h1, if_pos (by rw [sI_le (by omega) (by omega)]; omega), sI_1]
    | succ r ih =>
      intro s q hs hq hno
      obtain ⟨q', rfl⟩ : ∃ y, q = y + 1 := ⟨q - 1, by omega⟩
      obtain ⟨a1, a2, a3, a4, a5, a6, a7, a8⟩ := h3 s (by omega)
      have un : fX6_findTooLarge_h9 fu (sI C) rr (q' + 1) (sI c, sI s, A, L) = fX6_findTooLarge_i9 fu (sI C) rr (fX6_findTooLarge_h9 fu (sI C) rr q') (sI c) (sI s) A L := rfl
      rw [un]
      have nx : (co s = c → ¬ TLg bt ky s) → ((∀ u, u < S → co u = c → ¬ TLg bt ky u) ∧ fX6_findTooLarge_b68 fu (sI C) rr (fX6_findTooLarge_h9 fu (sI C) rr q') (sI c) (sI s) A L = rr (sI (c + 1), A, L)) ∨ ∃ t, t < S ∧ co t = c ∧ TLg bt ky t ∧ (∀ u, u < t → co u = c → ¬ TLg bt ky u) ∧ fX6_findTooLarge_b68 fu (sI C) rr (fX6_findTooLarge_h9 fu (sI C) rr q') (sI c) (sI s) A L = some (sI t, A, L) := by
        intro hn
        unfold fX6_findTooLarge_b68
        simp only [mlet]
        rw [sI_1]
        exact ih (s + 1) q' (by omega) (by omega) (fun u hu cu => by
          by_cases e : u = s
          · rw [e] at cu ⊢; exact hn cu
          · exact hno u (by omega) cu)
      unfold fX6_findTooLarge_i9 fX6_findTooLarge_b49 fX6_findTooLarge_b50
      rw [h1, if_neg (by rw [sI_le (by omega) (by omega)]; omega), mck_s (by omega) (by omega), sI_nn (by omega), a7, a4]
      by_cases e1 : co s = c
      · rw [if_pos (by rw [e1]), mck_s (by omega) (by omega), c_keyOf hfu hK (by omega) a6, mb3_s, ← e1, eky s]
        have h16' := h16 s (by omega)
        rw [eky] at h16'
        by_cases e2 : ky s = 0
        · rw [if_pos (by rw [e2]; rfl), if_pos (show (0 : Int32) = 0 from rfl), e1]
          exact nx (fun _ w => w.1 e2)
        · rw [if_neg (by rw [show (0 : Int32) = sI 0 from rfl, sI_eq (by omega) (by omega)]; exact e2), if_neg (show ¬ (1 : Int32) = 0 by decide), c_octetsOf (by omega) a1 a3, mb3_s]
          by_cases e3 : (bt s + 7) / 8 ≤ 3
          · rw [if_pos (by rw [sI_lel (by omega) (by decide)]; exact e3), e1]
            exact nx (fun _ w => by have : 3 < (bt s + 7) / 8 := w.2; omega)
          · rw [if_neg (by rw [sI_lel (by omega) (by decide)]; exact e3)]
            exact Or.inr ⟨s, by omega, rfl, ⟨e2, by show 3 < (bt s + 7) / 8; omega⟩, fun u hu cu => hno u hu (by omega), rfl⟩
      · rw [if_neg (by rw [sI_eq (by omega) (by omega)]; exact e1), if_pos (show (0 : Int32) = 0 from rfl)]
        exact nx (fun w => absurd w e1)
  have outer : ∀ (r c q : Nat), c + r = C → r < q → (∀ u, u < S → co u < c → ¬ TLg bt ky u) → ((∀ s, s < S → ¬ TLg bt ky s) ∧ fX6_findTooLarge_h2 fu (sI C) q (sI c, A, L) = some (-1, A, L)) ∨ ∃ t, t < S ∧ TLg bt ky t ∧ (∀ u, u < S → TLg bt ky u → co t < co u ∨ (co t = co u ∧ t ≤ u)) ∧ fX6_findTooLarge_h2 fu (sI C) q (sI c, A, L) = some (sI t, A, L) := by
    intro r
    induction r with
    | zero =>
      intro c q hc hq hno
      obtain ⟨q', rfl⟩ : ∃ y, q = y + 1 := ⟨q - 1, by omega⟩
      refine Or.inl ⟨fun u hu => hno u hu (by have := hco u hu; omega), ?_⟩
      show fX6_findTooLarge_i2 fu (sI C) (fX6_findTooLarge_h2 fu (sI C) q') (sI c) A L = _
      unfold fX6_findTooLarge_i2
      rw [if_pos (by rw [sI_le (by omega) (by omega)]; omega)]
    | succ r ih =>
      intro c q hc hq hno
      obtain ⟨q', rfl⟩ : ∃ y, q = y + 1 := ⟨q - 1, by omega⟩
      have un : fX6_findTooLarge_h2 fu (sI C) (q' + 1) (sI c, A, L) = fX6_findTooLarge_i2 fu (sI C) (fX6_findTooLarge_h2 fu (sI C) q') (sI c) A L := rfl
      rw [un]
      unfold fX6_findTooLarge_i2
      rw [if_neg (by rw [sI_le (by omega) (by omega)]; omega)]
      rcases inner c (by omega) (fX6_findTooLarge_h2 fu (sI C) q') S 0 fu (by omega) (by omega) (fun u hu => by omega) with ⟨i1, i2⟩ | ⟨t, t1, t2, t3, t4, t5⟩
      · have i2' : fX6_findTooLarge_h9 fu (sI C) (fX6_findTooLarge_h2 fu (sI C) q') fu (sI c, 0, A, L) = fX6_findTooLarge_h2 fu (sI C) q' (sI (c + 1), A, L) := i2
        rw [i2']
        exact ih (c + 1) q' (by omega) (by omega) (fun u hu cu => by
          by_cases e : co u = c
          · exact i1 u hu e
          · exact hno u hu (by omega))
      · have t5' : fX6_findTooLarge_h9 fu (sI C) (fX6_findTooLarge_h2 fu (sI C) q') fu (sI c, 0, A, L) = some (sI t, A, L) := t5
        rw [t5']
        refine Or.inr ⟨t, t1, t3, fun u hu tu => ?_, rfl⟩
        by_cases e : co u < c
        · exact absurd tu (hno u hu e)
        · by_cases e2 : co u = c
          · refine Or.inr ⟨by omega, ?_⟩
            apply Nat.le_of_not_lt
            intro w
            exact t4 u w e2 tu
          · exact Or.inl (by omega)
  exact outer C 0 fu (by omega) (by omega) (fun u hu w => by omega)
/-- where a frame stands among all -/
def posf (ev : Nat → Nat) (F f : Nat) : Nat := cnt (fun g => decide (ev g < ev f ∨ (ev g = ev f ∧ g < f))) F
theorem cnt_all {F : Nat} : cnt (fun _ => true) F = F := by
  induction F with
  | zero => rfl
  | succ F ih => rw [cnt_sc, ih, if_pos rfl]
theorem posf_lt {ev : Nat → Nat} {F f : Nat} (h : f < F) : posf ev F f < F := by
  have := cnt_lt (p := fun g => decide (ev g < ev f ∨ (ev g = ev f ∧ g < f))) (q := fun _ => true) h (decide_eq_false (by omega)) rfl (fun _ _ _ => rfl)
  rw [cnt_all] at this
  exact this
theorem posf_in {ev : Nat → Nat} {F f g : Nat} (hf : f < F) (hg : g < F) (h : posf ev F f = posf ev F g) : f = g := by
  have mono : ∀ f g, f < F → (ev f < ev g ∨ (ev f = ev g ∧ f < g)) → posf ev F f < posf ev F g := by
    intro f g hf w
    refine cnt_lt hf (decide_eq_false (by omega)) (decide_eq_true w) (fun x _ hx => ?_)
    have := of_decide_eq_true hx
    exact decide_eq_true (by omega)
  rcases Nat.lt_trichotomy f g with q | q | q
  · by_cases e : ev f ≤ ev g
    · have := mono f g hf (by omega); omega
    · have := mono g f hg (by omega); omega
  · exact q
  · by_cases e : ev g ≤ ev f
    · have := mono g f hg (by omega); omega
    · have := mono f g hf (by omega); omega
theorem pigeon : ∀ (n : Nat) (g : Nat → Nat), (∀ i, i < n + 1 → g i < n) → ∃ i j, i < j ∧ j < n + 1 ∧ g i = g j := by
  intro n
  induction n with
  | zero => intro g h; have := h 0 (by omega); omega
  | succ n ih =>
    intro g h
    by_cases e : ∃ i, i < n + 1 ∧ g i = g (n + 1)
    · obtain ⟨i, i1, i2⟩ := e
      exact ⟨i, n + 1, i1, by omega, i2⟩
    · have ne : ∀ i, i < n + 1 → g i ≠ g (n + 1) := fun i hi w => e ⟨i, hi, w⟩
      obtain ⟨i, j, h1, h2, h3⟩ := ih (fun i => if g (n + 1) < g i then g i - 1 else g i) (fun i hi => by
        have := h i (by omega)
        have := h (n + 1) (by omega)
        have := ne i hi
        try dsimp only
        split <;> omega)
      try dsimp only at h3
      have := ne i (by omega)
      have := ne j (by omega)
      refine ⟨i, j, h1, by omega, ?_⟩
      split at h3 <;> split at h3 <;> omega
theorem posf_sur {ev : Nat → Nat} {F q : Nat} (hq : q < F) : ∃ f, f < F ∧ posf ev F f = q := by
  apply Classical.byContradiction
  intro no
  have ne : ∀ f, f < F → posf ev F f ≠ q := fun f hf w => no ⟨f, hf, w⟩
  obtain ⟨n, rfl⟩ : ∃ n, F = n + 1 := ⟨F - 1, by omega⟩
  obtain ⟨i, j, h1, h2, h3⟩ := pigeon n (fun i => if q < posf ev (n + 1) i then posf ev (n + 1) i - 1 else posf ev (n + 1) i) (fun i hi => by
    have := posf_lt (ev := ev) hi
    have := ne i hi
    try dsimp only
    split <;> omega)
  try dsimp only at h3
  have := ne i (by omega)
  have := ne j h2
  have e : posf ev (n + 1) i = posf ev (n + 1) j := by split at h3 <;> split at h3 <;> omega
  have := posf_in (by omega) h2 e
  omega
