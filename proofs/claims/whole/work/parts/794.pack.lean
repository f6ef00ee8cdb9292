/-! the class: groups go to their places, frames are opened -/
abbrev OpF (A A' : mwM) (F s : Nat) : Prop := A' 74 F = A 68 s ∧ A' 75 F = A 66 s ∧ A' 76 F = A 70 s ∧ A' 79 F = A 66 s ∧ A' 77 F = 0 ∧ ∀ c, c < 6 → A' (86 + c) F = 0
theorem c_openFrame {fu s F : Nat} {A : mwM} {L : mwL} (hfu : 50 ≤ fu) (hs : s < 40) (hF : A 61 11 = sI F) (h40 : F < 40) : ∃ A', DX6_openFrame fu (sI s) A L = some (A', L) ∧ A' 61 11 = sI (F + 1) ∧ OpF A A' F s ∧ ∀ a y, ¬ (a = 61 ∧ y = 11) → ¬ ((74 ≤ a ∧ a ≤ 77 ∨ a = 79 ∨ 86 ≤ a ∧ a ≤ 91) ∧ y = F) → A' a y = A a y := by
  unfold DX6_openFrame
  simp only [mlet]
  have r1 : ∀ (B : mwM) (a : Nat) (x : Int32), a ≠ 61 → B 61 11 = sI F → mset B a F x 61 11 = sI F := fun B a x h1 h2 => by rw [mset_n (by omega)]; exact h2
  rw [mck_s hs (by omega), hF, mck_s h40 (by omega), mck_s hs (by omega), sI_nn (show F < 2000000000 by omega), sI_nn (show s < 2000000000 by omega)]
  rw [r1 A 74 _ (by omega) hF, mck_s h40 (by omega), mck_s hs (by omega), sI_nn (show F < 2000000000 by omega), mset_n (show ¬ (66 = 74 ∧ s = F) by omega)]
  rw [r1 _ 75 _ (by omega) (r1 A 74 _ (by omega) hF), mck_s h40 (by omega), mck_s hs (by omega), sI_nn (show F < 2000000000 by omega), mset_n (show ¬ (70 = 75 ∧ s = F) by omega), mset_n (show ¬ (70 = 74 ∧ s = F) by omega)]
  rw [r1 _ 76 _ (by omega) (r1 _ 75 _ (by omega) (r1 A 74 _ (by omega) hF)), mck_s h40 (by omega), sI_nn (show F < 2000000000 by omega), mset_n (show ¬ (66 = 76 ∧ s = F) by omega), mset_n (show ¬ (66 = 75 ∧ s = F) by omega), mset_n (show ¬ (66 = 74 ∧ s = F) by omega)]
  rw [r1 _ 79 _ (by omega) (r1 _ 76 _ (by omega) (r1 _ 75 _ (by omega) (r1 A 74 _ (by omega) hF))), mck_s h40 (by omega), sI_nn (show F < 2000000000 by omega)]
  generalize hB : mset (mset (mset (mset (mset A 74 F (A 68 s)) 75 F (A 66 s)) 76 F (A 70 s)) 79 F (A 66 s)) 77 F 0 = B
  have b61 : B 61 11 = sI F := by rw [← hB]; exact r1 _ 77 _ (by omega) (r1 _ 79 _ (by omega) (r1 _ 76 _ (by omega) (r1 _ 75 _ (by omega) (r1 A 74 _ (by omega) hF))))
  have b74 : B 74 F = A 68 s := by rw [← hB, mset_n (by omega), mset_n (by omega), mset_n (by omega), mset_n (by omega), mset_s]
  have b75 : B 75 F = A 66 s := by rw [← hB, mset_n (by omega), mset_n (by omega), mset_n (by omega), mset_s]
  have b76 : B 76 F = A 70 s := by rw [← hB, mset_n (by omega), mset_n (by omega), mset_s]
  have b79 : B 79 F = A 66 s := by rw [← hB, mset_n (by omega), mset_s]
  have b77 : B 77 F = 0 := by rw [← hB, mset_s]
  have bf : ∀ a y, ¬ ((74 ≤ a ∧ a ≤ 77 ∨ a = 79 ∨ 86 ≤ a ∧ a ≤ 91) ∧ y = F) → B a y = A a y := by
    intro a y q
    rw [← hB, mset_n (by omega), mset_n (by omega), mset_n (by omega), mset_n (by omega), mset_n (by omega)]
  clear hB
  have key : ∀ (n c q : Nat) (C : mwM), c + n = 6 → n < q → (∀ x, x < c → C (86 + x) F = 0) → (∀ a y, ¬ (86 ≤ a ∧ a ≤ 91 ∧ y = F) → C a y = B a y) → ∃ A', fX6_openFrame_h91 fu (sI s) q (sI c, C, L) = some (A', L) ∧ A' 61 11 = sI (F + 1) ∧ OpF A A' F s ∧ ∀ a y, ¬ (a = 61 ∧ y = 11) → ¬ ((74 ≤ a ∧ a ≤ 77 ∨ a = 79 ∨ 86 ≤ a ∧ a ≤ 91) ∧ y = F) → A' a y = A a y := by
    intro n
    induction n with
    | zero =>
      intro c q C hc hq h1 h2
      obtain ⟨q', rfl⟩ : ∃ x, q = x + 1 := ⟨q - 1, by omega⟩
      have : c = 6 := by omega
      subst this
      have un : fX6_openFrame_h91 fu (sI s) (q' + 1) (sI 6, C, L) = fX6_openFrame_i91 fu (sI s) (fX6_openFrame_h91 fu (sI s) q') (sI 6) C L := rfl
      rw [un]
      unfold fX6_openFrame_i91
      rw [if_pos (by decide)]
      simp only [mlet]
      rw [h2 61 11 (by omega), b61, sI_1]
      refine ⟨_, rfl, by rw [mset_s], ⟨?_, ?_, ?_, ?_, ?_, ?_⟩, ?_⟩
      · rw [mset_n (by omega), h2 _ _ (by omega), b74]
      · rw [mset_n (by omega), h2 _ _ (by omega), b75]
      · rw [mset_n (by omega), h2 _ _ (by omega), b76]
      · rw [mset_n (by omega), h2 _ _ (by omega), b79]
      · rw [mset_n (by omega), h2 _ _ (by omega), b77]
      · intro x hx; rw [mset_n (by omega)]; exact h1 x hx
      · intro a y q1 q2
        rw [mset_n q1, h2 a y (by omega), bf a y q2]
    | succ n ih =>
      intro c q C hc hq h1 h2
      obtain ⟨q', rfl⟩ : ∃ x, q = x + 1 := ⟨q - 1, by omega⟩
      have un : fX6_openFrame_h91 fu (sI s) (q' + 1) (sI c, C, L) = fX6_openFrame_i91 fu (sI s) (fX6_openFrame_h91 fu (sI s) q') (sI c) C L := rfl
      rw [un]
      unfold fX6_openFrame_i91
      rw [if_neg (by rw [sI_lle (by decide) (by omega)]; omega), mck_s (by omega) (by omega), h2 61 11 (by omega), b61, mck_s h40 (by omega), sI_nn (by omega), sI_nn (by omega)]
      simp only [mlet]
      rw [sI_1]
      refine ih (c + 1) q' _ (by omega) (by omega) (fun x hx => ?_) (fun a y q1 => by rw [mset_n (by omega)]; exact h2 a y q1)
      by_cases e : x = c
      · subst e; rw [mset_s]
      · rw [mset_n (by omega)]; exact h1 x (by omega)
  exact key 6 0 fu B (by omega) (by omega) (fun x hx => by omega) (fun _ _ _ => rfl)
/-- behind the packing of some groups -/
def PgC (A A' : mwM) (m F0 : Nat) (g sz ch : Nat → Nat) : Prop :=
  A' 61 11 = sI (F0 + opn ch m) ∧ (∀ j, j < m → A' 71 (g j) = sI (F0 + ch j) ∧ A' 72 (g j) = sI (fil ch sz j (ch j))) ∧ (∀ f, F0 ≤ f → f < F0 + opn ch m → OpF A A' f (g 0)) ∧ (∀ a y, a ≠ 71 → a ≠ 72 → a ≠ 93 → a ≠ 94 → ¬ (a = 61 ∧ y = 11) → ¬ ((74 ≤ a ∧ a ≤ 77 ∨ a = 79 ∨ 86 ≤ a ∧ a ≤ 91) ∧ F0 ≤ y) → A' a y = A a y) ∧ ∀ y, (∀ j, j < m → y ≠ g j) → A' 71 y = A 71 y ∧ A' 72 y = A 72 y
theorem c_placeGroups {fu m F0 : Nat} {g sz ch : Nat → Nat} {A : mwM} {L : mwL} (hfu : 50 ≤ fu) (hm : 0 < m) (hG : GpC A m g sz) (hi : ∀ i j, i < m → j < m → g i = g j → i = j) (h93 : ∀ j, j < m → A 93 j = sI (ch j)) (ht : tgt ch m) (hF : A 61 11 = sI F0) (h40 : F0 + opn ch m ≤ 40) : ∃ A', DX6_placeGroups fu (sI (opn ch m)) A L = some (A', L) ∧ PgC A A' m F0 g sz ch := by
  obtain ⟨g1, g2, g3⟩ := hG
  obtain ⟨A1, e1, z1, f1⟩ := c_empty (L := L) hfu g1 g2
  have hop := tgt_le ht
  unfold DX6_placeGroups
  rw [e1, mb2_s]
  -- the frames
  have opens : ∀ (n f q : Nat) (B : mwM), f + n = opn ch m → n < q → B 61 11 = sI (F0 + f) → (∀ j, j < m → B 71 (g j) = sI (F0 + ch j) ∧ B 72 (g j) = sI (fil ch sz j (ch j))) → (∀ x, F0 ≤ x → x < F0 + f → OpF A B x (g 0)) → (∀ a y, a ≠ 71 → a ≠ 72 → a ≠ 93 → a ≠ 94 → ¬ (a = 61 ∧ y = 11) → ¬ ((74 ≤ a ∧ a ≤ 77 ∨ a = 79 ∨ 86 ≤ a ∧ a ≤ 91) ∧ F0 ≤ y) → B a y = A a y) → (∀ y, (∀ j, j < m → y ≠ g j) → B 71 y = A 71 y ∧ B 72 y = A 72 y) → ∃ A', fX6_placeGroups_h88 fu (sI (opn ch m)) q (sI f, B, L) = some (A', L) ∧ PgC A A' m F0 g sz ch := by
    intro n
    induction n with
    | zero =>
      intro f q B hf hq h1 h2 h3 h4 h5
      obtain ⟨q', rfl⟩ : ∃ x, q = x + 1 := ⟨q - 1, by omega⟩
      have un : fX6_placeGroups_h88 fu (sI (opn ch m)) (q' + 1) (sI f, B, L) = fX6_placeGroups_i88 fu (sI (opn ch m)) (fX6_placeGroups_h88 fu (sI (opn ch m)) q') (sI f) B L := rfl
      have ef : f = opn ch m := by omega
      rw [un]
      unfold fX6_placeGroups_i88
      rw [if_pos (by rw [sI_le (by omega) (by omega)]; omega)]
      rw [ef] at h1 h3
      exact ⟨B, rfl, h1, h2, h3, h4, h5⟩
    | succ n ih =>
      intro f q B hf hq h1 h2 h3 h4 h5
      obtain ⟨q', rfl⟩ : ∃ x, q = x + 1 := ⟨q - 1, by omega⟩
      have un : fX6_placeGroups_h88 fu (sI (opn ch m)) (q' + 1) (sI f, B, L) = fX6_placeGroups_i88 fu (sI (opn ch m)) (fX6_placeGroups_h88 fu (sI (opn ch m)) q') (sI f) B L := rfl
      rw [un]
      unfold fX6_placeGroups_i88
      obtain ⟨p1, p2, _⟩ := g3 0 hm
      have e0 : (0 : Int32).toNatClampNeg = 0 := rfl
      rw [if_neg (by rw [sI_le (by omega) (by omega)]; omega), e0, h4 92 0 (by omega) (by omega) (by omega) (by omega) (by omega) (by omega), p1]
      obtain ⟨B', k1, k2, k3, k4⟩ := c_openFrame (L := L) (A := B) hfu p2 h1 (by omega)
      rw [k1, mb2_s]
      simp only [mlet]
      rw [sI_1]
      refine ih (f + 1) q' B' (by omega) (by omega) (by rw [k2]; rfl) ?_ ?_ ?_ ?_
      · intro j hj
        rw [k4 _ _ (by omega) (by omega), k4 _ _ (by omega) (by omega)]
        exact h2 j hj
      · intro x x1 x2
        by_cases e : x = F0 + f
        · subst e
          obtain ⟨o1, o2, o3, o4, o5, o6⟩ := k3
          have r1 : ∀ a, a = 68 ∨ a = 66 ∨ a = 70 → B a (g 0) = A a (g 0) := fun a ha => h4 a _ (by omega) (by omega) (by omega) (by omega) (by omega) (by omega)
          exact ⟨by rw [o1]; exact r1 68 (by omega), by rw [o2]; exact r1 66 (by omega), by rw [o3]; exact r1 70 (by omega), by rw [o4]; exact r1 66 (by omega), o5, o6⟩
        · obtain ⟨o1, o2, o3, o4, o5, o6⟩ := h3 x x1 (by omega)
          exact ⟨by rw [k4 _ _ (by omega) (by omega)]; exact o1, by rw [k4 _ _ (by omega) (by omega)]; exact o2, by rw [k4 _ _ (by omega) (by omega)]; exact o3, by rw [k4 _ _ (by omega) (by omega)]; exact o4, by rw [k4 _ _ (by omega) (by omega)]; exact o5, fun c hc => by rw [k4 _ _ (by omega) (by omega)]; exact o6 c hc⟩
      · intro a y q1 q2 q3 q4 q5 q6
        rw [k4 a y q5 (by omega)]
        exact h4 a y q1 q2 q3 q4 q5 q6
      · intro y hy
        rw [k4 _ _ (by omega) (by omega), k4 _ _ (by omega) (by omega)]
        exact h5 y hy
  -- the groups
  have puts : ∀ (n i q : Nat) (B : mwM), i + n = m → n < q → (∀ x, x < m → B 94 x = sI (fil ch sz i x)) → (∀ j, j < i → B 71 (g j) = sI (F0 + ch j) ∧ B 72 (g j) = sI (fil ch sz j (ch j))) → (∀ a y, a ≠ 71 → a ≠ 72 → a ≠ 94 → B a y = A a y) → (∀ y, (∀ j, j < m → y ≠ g j) → B 71 y = A 71 y ∧ B 72 y = A 72 y) → ∃ A', fX6_placeGroups_h6 fu (sI (opn ch m)) q (sI i, B, L) = some (A', L) ∧ PgC A A' m F0 g sz ch := by
    intro n
    induction n with
    | zero =>
      intro i q B hq1 hq h1 h2 h3 h4
      obtain ⟨q', rfl⟩ : ∃ x, q = x + 1 := ⟨q - 1, by omega⟩
      have un : fX6_placeGroups_h6 fu (sI (opn ch m)) (q' + 1) (sI i, B, L) = fX6_placeGroups_i6 fu (sI (opn ch m)) (fX6_placeGroups_h6 fu (sI (opn ch m)) q') (sI i) B L := rfl
      have ei : i = m := by omega
      rw [un]
      unfold fX6_placeGroups_i6
      rw [h3 61 13 (by omega) (by omega) (by omega), g1, if_pos (by rw [sI_le (by omega) (by omega)]; omega)]
      rw [ei] at h2
      refine opens (opn ch m) 0 fu B (by omega) (by omega) (by rw [h3 61 11 (by omega) (by omega) (by omega)]; exact hF) h2 (fun x x1 x2 => by omega) (fun a y q1 q2 _ q4 _ _ => h3 a y q1 q2 q4) h4
    | succ n ih =>
      intro i q B hq1 hq h1 h2 h3 h4
      obtain ⟨q', rfl⟩ : ∃ x, q = x + 1 := ⟨q - 1, by omega⟩
      have un : fX6_placeGroups_h6 fu (sI (opn ch m)) (q' + 1) (sI i, B, L) = fX6_placeGroups_i6 fu (sI (opn ch m)) (fX6_placeGroups_h6 fu (sI (opn ch m)) q') (sI i) B L := rfl
      rw [un]
      obtain ⟨b1, b2, b3, b4, bt, b5, b6, b7⟩ := g3 i (by omega)
      have hci : ch i < m := by have := ht i (by omega); have := tgt_le (ch := ch) (i := i) (fun j hj => ht j (by omega)); omega
      unfold fX6_placeGroups_i6
      rw [h3 61 13 (by omega) (by omega) (by omega), g1, if_neg (by rw [sI_le (by omega) (by omega)]; omega)]
      simp only [mlet]
      have n92 : B 92 i = sI (g i) := by rw [h3 92 i (by omega) (by omega) (by omega)]; exact b1
      have n93 : B 93 i = sI (ch i) := by rw [h3 93 i (by omega) (by omega) (by omega)]; exact h93 i (by omega)
      have n11 : B 61 11 = sI F0 := by rw [h3 61 11 (by omega) (by omega) (by omega)]; exact hF
      have n63 : B 63 (g i) = sI bt := by rw [h3 63 _ (by omega) (by omega) (by omega)]; exact b5
      rw [sI_nn (show i < 2000000000 by omega), n92]
      simp only [mck_s (show i < 40 by omega) (show i < 2000000000 by omega), mck_s b2 (show g i < 2000000000 by omega), sI_nn (show g i < 2000000000 by omega)]
      rw [n11, n93, sI_add]
      have m93 : ∀ x z, mset (mset B 71 (g i) x) 72 (g i) z 93 i = sI (ch i) := fun x z => by rw [mset_n (by omega), mset_n (by omega)]; exact n93
      have k93 : ∀ x, mset B 71 (g i) x 93 i = sI (ch i) := fun x => by rw [mset_n (by omega)]; exact n93
      rw [k93, m93]
      simp only [mck_s (show ch i < 40 by omega) (show ch i < 2000000000 by omega), sI_nn (show ch i < 2000000000 by omega)]
      rw [mset_n (show ¬ (94 = 71 ∧ ch i = g i) by omega), h1 (ch i) hci, c_octetsOf (A := mset (mset B 71 (g i) (sI (F0 + ch i))) 72 (g i) (sI (fil ch sz i (ch i)))) b2 (by rw [mset_n (by omega), mset_n (by omega)]; exact n63) b6, mb3_s]
      rw [mset_n (show ¬ (94 = 72 ∧ ch i = g i) by omega), mset_n (show ¬ (94 = 71 ∧ ch i = g i) by omega), h1 (ch i) hci, ← b7, sI_add, sI_1]
      refine ih (i + 1) q' _ (by omega) (by omega) ?_ ?_ ?_ ?_
      · intro x hx
        show _ = sI (fil ch sz i x + if ch i = x then sz i else 0)
        by_cases e : ch i = x
        · rw [if_pos e, ← e, mset_s]
        · rw [if_neg e, mset_n (by omega), mset_n (by omega), mset_n (by omega), h1 x hx, Nat.add_zero]
      · intro j hj
        by_cases e : j = i
        · subst e
          rw [mset_n (by omega), mset_n (by omega), mset_s, mset_n (by omega), mset_s]
          exact ⟨rfl, rfl⟩
        · have ne : g j ≠ g i := fun w => e (hi j i (by omega) (by omega) w)
          rw [mset_n (by omega), mset_n (by omega), mset_n (by omega), mset_n (by omega), mset_n (by omega), mset_n (by omega)]
          exact h2 j (by omega)
      · intro a y q1 q2 q4
        rw [mset_n (by omega), mset_n (by omega), mset_n (by omega)]
        exact h3 a y q1 q2 q4
      · intro y hy
        have ne := hy i (by omega)
        rw [mset_n (by omega), mset_n (by omega), mset_n (by omega), mset_n (by omega), mset_n (by omega), mset_n (by omega)]
        exact h4 y hy
  exact puts m 0 fu A1 (by omega) (by omega) (fun x hx => by rw [z1 x hx]; rfl) (fun j hj => by omega) (fun a y _ _ q => f1 a y q) (fun y hy => ⟨f1 71 y (by omega), f1 72 y (by omega)⟩)
theorem c_packGroups {fu m F0 room : Nat} {g sz : Nat → Nat} {A : mwM} {L : mwL} (hfu : 50 ≤ fu) (hm : 0 < m) (hroom : room ≤ 8) (hr : ∀ j, j < m → sz j ≤ room) (hG : GpC A m g sz) (hi : ∀ i j, i < m → j < m → g i = g j → i = j) (hF : A 61 11 = sI F0) (h40 : F0 + m ≤ 40) : ∃ ch A', DX6_packGroups fu (sI room) A L = some (A', L) ∧ PkW sz room m ch ∧ PgC A A' m F0 g sz ch := by
  have hm40 := hG.2.1
  have fin : ∀ ch B, PkW sz room m ch → FtC A B → (∀ j, j < m → B 93 j = sI (ch j)) → ∃ A', fX6_packGroups_b23 fu (sI room) (sI (opn ch m)) B L = some (A', L) ∧ PkW sz room m ch ∧ PgC A A' m F0 g sz ch := by
    intro ch B hw hFt h93
    have ht : tgt ch m := fun j hj => (PkW_way hm hr hw j hj).1
    have hop := tgt_le ht
    obtain ⟨A', k1, k2⟩ := c_placeGroups (L := L) hfu hm (GpC_f hG hFt) hi h93 ht (by rw [hFt 61 11 (by omega) (by omega)]; exact hF) (by omega)
    unfold fX6_packGroups_b23
    rw [k1, mb2_s]
    obtain ⟨p1, p2, p3, p4, p5⟩ := k2
    refine ⟨A', rfl, hw, p1, p2, fun f f1 f2 => ?_, fun a y q1 q2 q3 q4 q5 q6 => ?_, fun y hy => ?_⟩
    · obtain ⟨o1, o2, o3, o4, o5, o6⟩ := p3 f f1 f2
      have r1 : ∀ a, a = 68 ∨ a = 66 ∨ a = 70 → B a (g 0) = A a (g 0) := fun a ha => hFt a _ (by omega) (by omega)
      exact ⟨by rw [o1]; exact r1 68 (by omega), by rw [o2]; exact r1 66 (by omega), by rw [o3]; exact r1 70 (by omega), by rw [o4]; exact r1 66 (by omega), o5, o6⟩
    · rw [p4 a y q1 q2 q3 q4 q5 q6, hFt a y q3 q4]
    · obtain ⟨w1, w2⟩ := p5 y hy
      rw [w1, w2, hFt _ _ (by omega) (by omega), hFt _ _ (by omega) (by omega)]
      exact ⟨rfl, rfl⟩
  unfold DX6_packGroups
  rw [hG.1]
  by_cases c : 7 < m
  · rw [if_pos (by rw [sI_llt (by decide) (by omega)]; exact c)]
    obtain ⟨ch, B, k1, k2, k3, k4⟩ := c_packFirstFit (L := L) hfu c hroom hG
    rw [k1, mb3_s]
    obtain ⟨A', e⟩ := fin ch B k2 k3 k4
    exact ⟨ch, A', e⟩
  · rw [if_neg (by rw [sI_llt (by decide) (by omega)]; exact c)]
    obtain ⟨ch, B, k1, k2, k3, k4⟩ := c_packBest (L := L) hfu hm (by omega) hroom hr hG
    rw [k1, mb3_s]
    obtain ⟨A', e⟩ := fin ch B k2 k3 k4
    exact ⟨ch, A', e⟩
