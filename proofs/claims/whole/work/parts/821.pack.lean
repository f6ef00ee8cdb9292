/-! positions of the frames, the soonest frame -/
theorem posf_s {ev : Nat → Nat} {f g : Nat} : posf ev (g + 1) f = posf ev g f + (if ev g < ev f ∨ (ev g = ev f ∧ g < f) then 1 else 0) := by
  unfold posf
  rw [cnt_sc]
  by_cases w : ev g < ev f ∨ (ev g = ev f ∧ g < f)
  · rw [if_pos w, if_pos (decide_eq_true w)]
  · rw [if_neg w, if_neg (by rw [decide_eq_false w]; decide)]
theorem posf_le {ev : Nat → Nat} {f g : Nat} : posf ev g f ≤ g := cnt_le _ _
theorem c_findPositions {fu F : Nat} {A : mwM} {L : mwL} {ev : Nat → Nat} (hfu : 50 ≤ fu) (hF : A 61 11 = sI F) (h40 : F ≤ 40) (hev : ∀ f, f < F → A 75 f = sI (ev f) ∧ ev f ≤ 20000) : ∃ A', DX6_findPositions fu A L = some (A', L) ∧ (∀ f, f < F → A' 78 f = sI (posf ev F f) ∧ A' 80 (posf ev F f) = sI f) ∧ ∀ a y, a ≠ 78 → a ≠ 80 → A' a y = A a y := by
  unfold DX6_findPositions
  have inner : ∀ (f : Nat), f < F → ∀ (rr : (Int32 × mwM × mwL) → Option (mwM × mwL)) (B : mwM), (∀ a y, a ≠ 78 → a ≠ 80 → B a y = A a y) → ∀ (r g q : Nat), g + r = F → r < q → fX6_findPositions_h14 fu rr q (sI f, sI (posf ev g f), sI g, B, L) = rr (sI (f + 1), mset (mset B 78 f (sI (posf ev F f))) 80 (posf ev F f) (sI f), L) := by
    intro f hf rr B hB r
    have b11 : B 61 11 = sI F := by rw [hB _ _ (by omega) (by omega)]; exact hF
    have be : ∀ g, g < F → B 75 g = sI (ev g) := fun g hg => by rw [hB _ _ (by omega) (by omega)]; exact (hev g hg).1
    have hp := posf_lt (ev := ev) hf
    induction r with
    | zero =>
      intro g q hg hq
      obtain ⟨q', rfl⟩ : ∃ y, q = y + 1 := ⟨q - 1, by omega⟩
      have eg : g = F := by omega
      subst eg
      show fX6_findPositions_i14 fu rr (fX6_findPositions_h14 fu rr q') (sI f) (sI (posf ev g f)) (sI g) B L = _
      unfold fX6_findPositions_i14
      simp only [mlet]
      rw [b11, if_pos (by rw [sI_le (by omega) (by omega)]; omega), mck_s (by omega) (by omega), mck_s (by omega) (by omega), sI_nn (by omega), sI_nn (by omega), sI_1]
    | succ r ih =>
      intro g q hg hq
      obtain ⟨q', rfl⟩ : ∃ y, q = y + 1 := ⟨q - 1, by omega⟩
      have nx := ih (g + 1) q' (by omega) (by omega)
      have hpl := posf_le (ev := ev) (g := g) (f := f)
      have ef := (hev f hf).2
      have eg := (hev g (by omega)).2
      show fX6_findPositions_i14 fu rr (fX6_findPositions_h14 fu rr q') (sI f) (sI (posf ev g f)) (sI g) B L = _
      rw [posf_s] at nx
      have y1 : (ev g < ev f ∨ (ev g = ev f ∧ g < f)) → fX6_findPositions_b78 fu rr (fX6_findPositions_h14 fu rr q') (sI f) (sI g) (sI (posf ev g f)) B L = rr (sI (f + 1), mset (mset B 78 f (sI (posf ev F f))) 80 (posf ev F f) (sI f), L) := fun w => by
        rw [if_pos w] at nx
        unfold fX6_findPositions_b78 fX6_findPositions_b83
        simp only [mlet]
        rw [sI_1, sI_1]
        exact nx
      have y0 : ¬ (ev g < ev f ∨ (ev g = ev f ∧ g < f)) → fX6_findPositions_b83 fu rr (fX6_findPositions_h14 fu rr q') (sI f) (sI g) (sI (posf ev g f)) 0 B L = rr (sI (f + 1), mset (mset B 78 f (sI (posf ev F f))) 80 (posf ev F f) (sI f), L) := fun w => by
        rw [if_neg w] at nx
        unfold fX6_findPositions_b83
        simp only [mlet]
        rw [sI_1, show (0 : Int32) = sI 0 from rfl, sI_add]
        exact nx
      unfold fX6_findPositions_i14 fX6_findPositions_b50 fX6_findPositions_b51
      rw [b11, if_neg (by rw [sI_le (by omega) (by omega)]; omega), mck_s (by omega) (by omega), mck_s (by omega) (by omega), mck_s (by omega) (by omega), mck_s (by omega) (by omega), sI_nn (by omega), sI_nn (by omega), be g (by omega), be f hf, if_pos (show (0 : Int32) = 0 from rfl), if_neg (show ¬ (1 : Int32) = 0 by decide)]
      by_cases c1 : ev g = ev f
      · rw [if_pos (by rw [c1])]
        by_cases c2 : f ≤ g
        · rw [if_pos (by rw [sI_le (by omega) (by omega)]; exact c2), if_pos (by rw [sI_le (by omega) (by omega)]; omega)]
          exact y0 (by omega)
        · rw [if_neg (by rw [sI_le (by omega) (by omega)]; exact c2)]
          exact y1 (by omega)
      · rw [if_neg (by rw [sI_eq (by omega) (by omega)]; exact c1)]
        by_cases c2 : ev f ≤ ev g
        · rw [if_pos (by rw [sI_le (by omega) (by omega)]; exact c2)]
          exact y0 (by omega)
        · rw [if_neg (by rw [sI_le (by omega) (by omega)]; exact c2)]
          exact y1 (by omega)
  have outer : ∀ (r f q : Nat) (B : mwM), f + r = F → r < q → (∀ x, x < f → B 78 x = sI (posf ev F x) ∧ B 80 (posf ev F x) = sI x) → (∀ a y, a ≠ 78 → a ≠ 80 → B a y = A a y) → ∃ A', fX6_findPositions_h2 fu q (sI f, B, L) = some (A', L) ∧ (∀ f, f < F → A' 78 f = sI (posf ev F f) ∧ A' 80 (posf ev F f) = sI f) ∧ ∀ a y, a ≠ 78 → a ≠ 80 → A' a y = A a y := by
    intro r
    induction r with
    | zero =>
      intro f q B hf hq h1 h2
      obtain ⟨q', rfl⟩ : ∃ y, q = y + 1 := ⟨q - 1, by omega⟩
      refine ⟨B, ?_, fun x hx => h1 x (by omega), h2⟩
      show fX6_findPositions_i2 fu (fX6_findPositions_h2 fu q') (sI f) B L = _
      unfold fX6_findPositions_i2
      rw [h2 _ _ (by omega) (by omega), hF, if_pos (by rw [sI_le (by omega) (by omega)]; omega)]
    | succ r ih =>
      intro f q B hf hq h1 h2
      obtain ⟨q', rfl⟩ : ∃ y, q = y + 1 := ⟨q - 1, by omega⟩
      have un : fX6_findPositions_h2 fu (q' + 1) (sI f, B, L) = fX6_findPositions_i2 fu (fX6_findPositions_h2 fu q') (sI f) B L := rfl
      rw [un]
      unfold fX6_findPositions_i2
      have i1 := inner f (by omega) (fX6_findPositions_h2 fu q') B h2 F 0 fu (by omega) (by omega)
      have i1' : fX6_findPositions_h14 fu (fX6_findPositions_h2 fu q') fu (sI f, 0, 0, B, L) = _ := i1
      rw [h2 61 11 (by omega) (by omega), hF, if_neg (by rw [sI_le (by omega) (by omega)]; omega), i1']
      refine ih (f + 1) q' _ (by omega) (by omega) (fun x hx => ?_) (fun a y w1 w2 => by rw [mset_n (by omega), mset_n (by omega)]; exact h2 a y w1 w2)
      by_cases e : x = f
      · rw [e]
        exact ⟨by rw [mset_n (by omega), mset_s], by rw [mset_s]⟩
      · obtain ⟨u1, u2⟩ := h1 x (by omega)
        have ne : posf ev F x ≠ posf ev F f := fun w => e (posf_in (by omega) (by omega) w)
        exact ⟨by rw [mset_n (by omega), mset_n (by omega)]; exact u1, by rw [mset_n (by omega), mset_n (by omega)]; exact u2⟩
  exact outer F 0 fu A (by omega) (by omega) (fun x hx => by omega) (fun _ _ _ _ => rfl)
theorem m_positions {fu F : Nat} {M : mwM} {L : mwL} {ev : Nat → Nat} (hfu : 50 ≤ fu) (hF : M 732 67 = sI F) (h40 : F ≤ 40) (hev : ∀ f, f < F → M 782 f = sI (ev f) ∧ ev f ≤ 20000) : ∃ M', fX19_join_h45 fu fu (0, M, L) = some (1, M', L) ∧ (∀ f, f < F → M' 784 f = sI (posf ev F f)) ∧ ∀ a y, a ≠ 784 → M' a y = M a y := by
  have inner : ∀ (f : Nat), f < F → ∀ (rr : (Int32 × mwM × mwL) → Option (Int32 × mwM × mwL)) (r g q : Nat) (B : mwM), g + r = F → r < q → B 784 f = sI (posf ev g f) → (∀ a y, a ≠ 784 → B a y = M a y) → ∃ B', fX19_join_h62 fu rr q (sI f, sI g, B, L) = rr (sI (f + 1), B', L) ∧ B' 784 f = sI (posf ev F f) ∧ ∀ a y, ¬ (a = 784 ∧ y = f) → B' a y = B a y := by
    intro f hf rr r
    induction r with
    | zero =>
      intro g q B hg hq h1 h2
      obtain ⟨q', rfl⟩ : ∃ y, q = y + 1 := ⟨q - 1, by omega⟩
      have eg : g = F := by omega
      subst eg
      refine ⟨B, ?_, h1, fun _ _ _ => rfl⟩
      show fX19_join_i62 fu rr (fX19_join_h62 fu rr q') (sI f) (sI g) B L = _
      unfold fX19_join_i62
      simp only [mlet]
      rw [h2 _ _ (by omega), hF, if_pos (by rw [sI_le (by omega) (by omega)]; omega), sI_1]
    | succ r ih =>
      intro g q B hg hq h1 h2
      obtain ⟨q', rfl⟩ : ∃ y, q = y + 1 := ⟨q - 1, by omega⟩
      have hpl := posf_le (ev := ev) (g := g) (f := f)
      have ef := hev f hf
      have eg := hev g (by omega)
      have un : fX19_join_h62 fu rr (q' + 1) (sI f, sI g, B, L) = fX19_join_i62 fu rr (fX19_join_h62 fu rr q') (sI f) (sI g) B L := rfl
      rw [un]
      have fin : ∀ v, v = posf ev (g + 1) f → ∃ B', fX19_join_b137 fu rr (fX19_join_h62 fu rr q') (sI f) (sI g) (sI f) (sI v) B L = rr (sI (f + 1), B', L) ∧ B' 784 f = sI (posf ev F f) ∧ ∀ a y, ¬ (a = 784 ∧ y = f) → B' a y = B a y := by
        intro v hv
        unfold fX19_join_b137
        simp only [mlet]
        rw [mck_s (by omega) (by omega), sI_nn (by omega), sI_1]
        obtain ⟨B', k1, k2, k3⟩ := ih (g + 1) q' (mset B 784 f (sI v)) (by omega) (by omega) (by rw [mset_s, hv]) (fun a y w => by rw [mset_n (by omega)]; exact h2 a y w)
        exact ⟨B', k1, k2, fun a y w => by rw [k3 a y w, mset_n w]⟩
      have y1 : (ev g < ev f ∨ (ev g = ev f ∧ g < f)) → ∃ B', fX19_join_b105 fu rr (fX19_join_h62 fu rr q') (sI f) (sI g) B L = rr (sI (f + 1), B', L) ∧ B' 784 f = sI (posf ev F f) ∧ ∀ a y, ¬ (a = 784 ∧ y = f) → B' a y = B a y := fun w => by
        unfold fX19_join_b105 fX19_join_b110
        rw [if_neg (show ¬ (1 : Int32) = 0 by decide), mck_s (by omega) (by omega), sI_nn (by omega), h1, sI_1]
        exact fin _ (by rw [posf_s, if_pos w])
      have y0 : ¬ (ev g < ev f ∨ (ev g = ev f ∧ g < f)) → ∃ B', fX19_join_b109 fu rr (fX19_join_h62 fu rr q') (sI f) (sI g) B L = rr (sI (f + 1), B', L) ∧ B' 784 f = sI (posf ev F f) ∧ ∀ a y, ¬ (a = 784 ∧ y = f) → B' a y = B a y := fun w => by
        unfold fX19_join_b109 fX19_join_b110
        rw [if_pos (show (0 : Int32) = 0 from rfl), mck_s (by omega) (by omega), sI_nn (by omega), h1]
        exact fin _ (by rw [posf_s, if_neg w, Nat.add_zero])
      unfold fX19_join_i62
      rw [h2 732 67 (by omega), hF, if_neg (by rw [sI_le (by omega) (by omega)]; omega), mck_s (by omega) (by omega), mck_s (by omega) (by omega), mck_s (by omega) (by omega), mck_s (by omega) (by omega), sI_nn (by omega), sI_nn (by omega), h2 782 g (by omega), h2 782 f (by omega), ef.1, eg.1]
      by_cases c1 : ev g < ev f
      · rw [if_pos (by rw [sI_lt (by omega) (by omega)]; exact c1)]
        exact y1 (Or.inl c1)
      · rw [if_neg (by rw [sI_lt (by omega) (by omega)]; exact c1)]
        by_cases c2 : ev g = ev f
        · rw [if_pos (by rw [c2])]
          by_cases c3 : f ≤ g
          · rw [if_pos (by rw [sI_le (by omega) (by omega)]; exact c3)]
            exact y0 (by omega)
          · rw [if_neg (by rw [sI_le (by omega) (by omega)]; exact c3)]
            exact y1 (by omega)
        · rw [if_neg (by rw [sI_eq (by omega) (by omega)]; exact c2)]
          exact y0 (by omega)
  have outer : ∀ (r f q : Nat) (B : mwM), f + r = F → r < q → (∀ x, x < f → B 784 x = sI (posf ev F x)) → (∀ a y, a ≠ 784 → B a y = M a y) → ∃ M', fX19_join_h45 fu q (sI f, B, L) = some (1, M', L) ∧ (∀ f, f < F → M' 784 f = sI (posf ev F f)) ∧ ∀ a y, a ≠ 784 → M' a y = M a y := by
    intro r
    induction r with
    | zero =>
      intro f q B hf hq h1 h2
      obtain ⟨q', rfl⟩ : ∃ y, q = y + 1 := ⟨q - 1, by omega⟩
      refine ⟨B, ?_, fun x hx => h1 x (by omega), h2⟩
      show fX19_join_i45 fu (fX19_join_h45 fu q') (sI f) B L = _
      unfold fX19_join_i45
      rw [h2 _ _ (by omega), hF, if_pos (by rw [sI_le (by omega) (by omega)]; omega)]
    | succ r ih =>
      intro f q B hf hq h1 h2
      obtain ⟨q', rfl⟩ : ∃ y, q = y + 1 := ⟨q - 1, by omega⟩
      have un : fX19_join_h45 fu (q' + 1) (sI f, B, L) = fX19_join_i45 fu (fX19_join_h45 fu q') (sI f) B L := rfl
      rw [un]
      unfold fX19_join_i45
      simp only [mlet]
      rw [h2 732 67 (by omega), hF, if_neg (by rw [sI_le (by omega) (by omega)]; omega), mck_s (by omega) (by omega), sI_nn (by omega)]
      obtain ⟨B', k1, k2, k3⟩ := inner f (by omega) (fX19_join_h45 fu q') F 0 fu (mset B 784 f 0) (by omega) (by omega) (by rw [mset_s]; rfl) (fun a y w => by rw [mset_n (by omega)]; exact h2 a y w)
      have k1' : fX19_join_h62 fu (fX19_join_h45 fu q') fu (sI f, 0, mset B 784 f 0, L) = _ := k1
      rw [k1']
      refine ih (f + 1) q' B' (by omega) (by omega) (fun x hx => ?_) (fun a y w => by rw [k3 a y (by omega), mset_n (by omega)]; exact h2 a y w)
      by_cases e : x = f
      · rw [e]; exact k2
      · rw [k3 _ _ (by omega), mset_n (by omega)]
        exact h1 x (by omega)
  exact outer F 0 fu M (by omega) (by omega) (fun x hx => by omega) (fun _ _ _ => rfl)
/-- the soonest of all frames -/
def SoN (nx : Nat → Nat) (F m : Nat) : Prop := (∀ f, f < F → m ≤ nx f) ∧ m ≤ 1000000 ∧ (m = 1000000 ∨ ∃ f, f < F ∧ nx f = m)
theorem c_findSoonest {fu F : Nat} {A : mwM} {L : mwL} {nx : Nat → Nat} (hfu : 50 ≤ fu) (hF : A 61 11 = sI F) (h40 : F ≤ 40) (hnx : ∀ f, f < F → A 79 f = sI (nx f) ∧ nx f ≤ 1000000) : ∃ m, DX6_findSoonest fu A L = some (mset A 61 14 (sI m), L) ∧ SoN nx F m := by
  unfold DX6_findSoonest
  simp only [mlet]
  have key : ∀ (r f q m : Nat), f + r = F → r < q → SoN nx f m → ∃ m', fX6_findSoonest_h8 fu q (sI f, mset A 61 14 (sI m), L) = some (mset A 61 14 (sI m'), L) ∧ SoN nx F m' := by
    intro r
    induction r with
    | zero =>
      intro f q m hf hq h
      obtain ⟨q', rfl⟩ : ∃ y, q = y + 1 := ⟨q - 1, by omega⟩
      have ef : f = F := by omega
      subst ef
      refine ⟨m, ?_, h⟩
      show fX6_findSoonest_i8 fu (fX6_findSoonest_h8 fu q') (sI f) (mset A 61 14 (sI m)) L = _
      unfold fX6_findSoonest_i8
      rw [mset_n (by omega), hF, if_pos (by rw [sI_le (by omega) (by omega)]; omega)]
    | succ r ih =>
      intro f q m hf hq h
      obtain ⟨q', rfl⟩ : ∃ y, q = y + 1 := ⟨q - 1, by omega⟩
      obtain ⟨n1, n2⟩ := hnx f (by omega)
      obtain ⟨h1, h2, h3⟩ := h
      have un : fX6_findSoonest_h8 fu (q' + 1) (sI f, mset A 61 14 (sI m), L) = fX6_findSoonest_i8 fu (fX6_findSoonest_h8 fu q') (sI f) (mset A 61 14 (sI m)) L := rfl
      rw [un]
      unfold fX6_findSoonest_i8
      simp only [mlet]
      rw [mset_n (show ¬ (61 = 61 ∧ 11 = 14) by omega), hF, if_neg (by rw [sI_le (by omega) (by omega)]; omega), mck_s (by omega) (by omega), sI_nn (by omega), mset_n (show ¬ (79 = 61 ∧ f = 14) by omega), n1, mset_s, mset_ii, sI_1]
      by_cases c : nx f < m
      · rw [if_pos (by rw [sI_lt (by omega) (by omega)]; exact c)]
        refine ih (f + 1) q' (nx f) (by omega) (by omega) ⟨fun x hx => ?_, n2, Or.inr ⟨f, by omega, rfl⟩⟩
        by_cases e : x = f
        · rw [e]; exact Nat.le_refl _
        · have := h1 x (by omega); omega
      · rw [if_neg (by rw [sI_lt (by omega) (by omega)]; exact c)]
        refine ih (f + 1) q' m (by omega) (by omega) ⟨fun x hx => ?_, h2, ?_⟩
        · by_cases e : x = f
          · rw [e]; omega
          · exact h1 x (by omega)
        · rcases h3 with h3 | ⟨x, x1, x2⟩
          · exact Or.inl h3
          · exact Or.inr ⟨x, by omega, x2⟩
  exact key F 0 fu 1000000 (by omega) (by omega) ⟨fun f hf => by omega, by omega, Or.inl rfl⟩
