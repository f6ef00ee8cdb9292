abbrev ocs (bt : Nat → Nat) (s : Nat) : Nat := (bt s + 7) / 8
theorem SgC_f {A A' : mwM} {S : Nat} {bt pe co ky : Nat → Nat} (h : SgC A S bt pe co ky) (hf : ∀ a y, a = 63 ∨ a = 66 ∨ a = 68 ∨ a = 70 ∨ (a = 61 ∧ y = 10) → A' a y = A a y) : SgC A' S bt pe co ky := by
  obtain ⟨h1, h2, h3⟩ := h
  refine ⟨by rw [hf _ _ (by omega)]; exact h1, h2, fun s hs => ?_⟩
  obtain ⟨a1, a2, a3, a4, a5, a6, a7, a8, a9, a10⟩ := h3 s hs
  exact ⟨by rw [hf _ _ (by omega)]; exact a1, a2, a3, by rw [hf _ _ (by omega)]; exact a4, a5, a6, by rw [hf _ _ (by omega)]; exact a7, a8, by rw [hf _ _ (by omega)]; exact a9, a10⟩
theorem Srt_le {P : Nat → Bool} {zs : Nat → Nat} : ∀ (S m : Nat) (g : Nat → Nat), Srt P zs S m g → m ≤ S := by
  intro S
  induction S with
  | zero =>
    intro m g h
    apply Nat.le_of_not_lt
    intro q
    have := (h.1 0 (by omega)).1
    omega
  | succ S ih =>
    intro m g h
    by_cases e : ∃ j, j < m ∧ g j = S
    · obtain ⟨j, j1, j2⟩ := e
      have inj := Srt_inj h
      have h2 : Srt P zs S (m - 1) (fun x => if x < j then g x else g (x + 1)) := by
        have ne : ∀ x, x < m → x ≠ j → g x < S := by
          intro x hx hn
          have a := (h.1 x hx).1
          have b : g x ≠ S := fun w => hn (inj x j hx j1 (by rw [w, j2]))
          omega
        refine ⟨fun x hx => ?_, fun s hs ps => ?_, fun x y hxy hy => ?_⟩
        · dsimp only
          by_cases c : x < j
          · rw [if_pos c]; exact ⟨ne x (by omega) (by omega), (h.1 x (by omega)).2⟩
          · rw [if_neg c]; exact ⟨ne (x + 1) (by omega) (by omega), (h.1 (x + 1) (by omega)).2⟩
        · obtain ⟨k, k1, k2⟩ := h.2.1 s (by omega) ps
          have : k ≠ j := fun w => by rw [w, j2] at k2; omega
          by_cases c : k < j
          · exact ⟨k, by omega, by dsimp only; rw [if_pos c, k2]⟩
          · refine ⟨k - 1, by omega, ?_⟩
            dsimp only
            rw [if_neg (by omega), show k - 1 + 1 = k from by omega, k2]
        · dsimp only
          by_cases c : y < j
          · rw [if_pos (by omega), if_pos c]; exact h.2.2 x y hxy (by omega)
          · rw [if_neg c]
            by_cases d : x < j
            · rw [if_pos d]; exact h.2.2 x (y + 1) (by omega) (by omega)
            · rw [if_neg d]; exact h.2.2 (x + 1) (y + 1) (by omega) (by omega)
      have := ih _ _ h2
      omega
    · have h2 : Srt P zs S m g := by
        refine ⟨fun x hx => ?_, fun s hs ps => h.2.1 s (by omega) ps, h.2.2⟩
        have a := h.1 x hx
        have b : g x ≠ S := fun w => e ⟨x, hx, w⟩
        exact ⟨by omega, a.2⟩
      have := ih _ _ h2
      omega
/-- the class: the groups of one period, in their order -/
theorem c_collectGroups {fu S c p : Nat} {lk : Bool} {bt pe co ky : Nat → Nat} {A : mwM} {L : mwL} (hfu : 50 ≤ fu) (hS : SgC A S bt pe co ky) (hc : c < 6) (hp : p ≤ 20000) : ∃ m g A', DX6_collectGroups fu (sI c) (bI lk) (sI p) A L = some (A', L) ∧ Srt (fun s => isO co ky c lk s && decide (pe s = p)) (ocs bt) S m g ∧ A' 61 13 = sI m ∧ (∀ j, j < m → A' 92 j = sI (g j)) ∧ ∀ a y, a ≠ 92 → ¬ (a = 61 ∧ y = 13) → A' a y = A a y := by
  obtain ⟨h1, h2, h3⟩ := hS
  unfold DX6_collectGroups
  simp only [mlet]
  have key : ∀ (n s q m : Nat) (g : Nat → Nat) (B : mwM), s + n = S → n < q → Srt (fun s => isO co ky c lk s && decide (pe s = p)) (ocs bt) s m g → B 61 13 = sI m → (∀ j, j < m → B 92 j = sI (g j)) → (∀ a y, a ≠ 92 → ¬ (a = 61 ∧ y = 13) → B a y = A a y) → ∃ m g A', fX6_collectGroups_h8 fu (sI c) (bI lk) (sI p) q (sI s, B, L) = some (A', L) ∧ Srt (fun s => isO co ky c lk s && decide (pe s = p)) (ocs bt) S m g ∧ A' 61 13 = sI m ∧ (∀ j, j < m → A' 92 j = sI (g j)) ∧ ∀ a y, a ≠ 92 → ¬ (a = 61 ∧ y = 13) → A' a y = A a y := by
    intro n
    induction n with
    | zero =>
      intro s q m g B hs hq hT k1 k2 k3
      obtain ⟨q', rfl⟩ : ∃ x, q = x + 1 := ⟨q - 1, by omega⟩
      have : s = S := by omega
      subst this
      refine ⟨m, g, B, ?_, hT, k1, k2, k3⟩
      show fX6_collectGroups_i8 fu (sI c) (bI lk) (sI p) (fX6_collectGroups_h8 fu (sI c) (bI lk) (sI p) q') (sI s) B L = _
      unfold fX6_collectGroups_i8
      rw [k3 61 10 (by omega) (by omega), h1, if_pos (by rw [sI_le (by omega) (by omega)]; omega)]
    | succ n ih =>
      intro s q m g B hs hq hT k1 k2 k3
      obtain ⟨q', rfl⟩ : ∃ x, q = x + 1 := ⟨q - 1, by omega⟩
      have hSB : SgC B S bt pe co ky := SgC_f ⟨h1, h2, h3⟩ (fun a y w => k3 a y (by omega) (by omega))
      obtain ⟨b1, b2, b3⟩ := hSB
      obtain ⟨a1, a2, a3, a4, a5, a6, a7, a8, a9, a10⟩ := b3 s (by omega)
      have hm := Srt_le _ _ _ hT
      have un : fX6_collectGroups_h8 fu (sI c) (bI lk) (sI p) (q' + 1) (sI s, B, L) = fX6_collectGroups_i8 fu (sI c) (bI lk) (sI p) (fX6_collectGroups_h8 fu (sI c) (bI lk) (sI p) q') (sI s) B L := rfl
      rw [un]
      unfold fX6_collectGroups_i8
      rw [b1, if_neg (by rw [sI_le (by omega) (by omega)]; omega), c_isOf ⟨b1, b2, b3⟩ (by omega) hc, mb3_s, mck_s (by omega) (by omega), sI_nn (by omega), a4]
      simp only [mlet]
      have skip : (isO co ky c lk s && decide (pe s = p)) = false → ∃ m g A', fX6_collectGroups_b115 fu (sI c) (bI lk) (sI p) (fX6_collectGroups_h8 fu (sI c) (bI lk) (sI p) q') (sI s) B L = some (A', L) ∧ Srt (fun s => isO co ky c lk s && decide (pe s = p)) (ocs bt) S m g ∧ A' 61 13 = sI m ∧ (∀ j, j < m → A' 92 j = sI (g j)) ∧ ∀ a y, a ≠ 92 → ¬ (a = 61 ∧ y = 13) → A' a y = A a y := by
        intro w
        unfold fX6_collectGroups_b115
        simp only [mlet]
        rw [sI_1]
        exact ih (s + 1) q' m g B (by omega) (by omega) (Srt_skip hT w) k1 k2 k3
      cases hb : isO co ky c lk s with
      | false =>
        rw [bI_f, if_pos (show (0 : Int32) = 0 from rfl)]
        exact skip (by rw [hb]; rfl)
      | true =>
        rw [bI_t, if_neg (by decide)]
        by_cases cp : pe s = p
        · rw [if_pos (by rw [cp]), k1]
          have hps : (fun s => isO co ky c lk s && decide (pe s = p)) s = true := by
            show (isO co ky c lk s && decide (pe s = p)) = true
            rw [hb, decide_eq_true cp]; rfl
          -- to its place
          have inner : ∀ (at_ r : Nat) (C : mwM), at_ ≤ m → at_ < r → (∀ j, j < at_ → C 92 j = sI (g j)) → (∀ j, at_ ≤ j → j < m → C 92 (j + 1) = sI (g j)) → (∀ j, at_ ≤ j → j < m → ocs bt (g j) < ocs bt s) → (∀ a y, a ≠ 92 → C a y = B a y) → ∃ m g A', fX6_collectGroups_h47 fu (sI c) (bI lk) (sI p) (fX6_collectGroups_h8 fu (sI c) (bI lk) (sI p) q') r (sI s, sI at_, C, L) = some (A', L) ∧ Srt (fun s => isO co ky c lk s && decide (pe s = p)) (ocs bt) S m g ∧ A' 61 13 = sI m ∧ (∀ j, j < m → A' 92 j = sI (g j)) ∧ ∀ a y, a ≠ 92 → ¬ (a = 61 ∧ y = 13) → A' a y = A a y := by
            intro at_
            have stop : ∀ (at_ : Nat) (C : mwM), at_ ≤ m → (∀ j, j < at_ → C 92 j = sI (g j)) → (∀ j, at_ ≤ j → j < m → C 92 (j + 1) = sI (g j)) → (∀ j, j < at_ → ocs bt s ≤ ocs bt (g j)) → (∀ j, at_ ≤ j → j < m → ocs bt (g j) < ocs bt s) → (∀ a y, a ≠ 92 → C a y = B a y) → ∃ m g A', fX6_collectGroups_b96 fu (sI c) (bI lk) (sI p) (fX6_collectGroups_h8 fu (sI c) (bI lk) (sI p) q') (sI s) (sI at_) C L = some (A', L) ∧ Srt (fun s => isO co ky c lk s && decide (pe s = p)) (ocs bt) S m g ∧ A' 61 13 = sI m ∧ (∀ j, j < m → A' 92 j = sI (g j)) ∧ ∀ a y, a ≠ 92 → ¬ (a = 61 ∧ y = 13) → A' a y = A a y := by
              intro at_ C ha c1 c2 c3 c4 c5
              unfold fX6_collectGroups_b96 fX6_collectGroups_b115
              rw [mck_s (by omega) (by omega), sI_nn (by omega)]
              simp only [mlet]
              rw [mset_n (show ¬ (61 = 92 ∧ 13 = at_) by omega), c5 61 13 (by omega), k1, sI_1, sI_1]
              refine ih (s + 1) q' (m + 1) (ins g at_ s) _ (by omega) (by omega) (Srt_ins hT hps ha c3 c4) (by rw [mset_s]) (fun j hj => ?_) (fun a y w1 w2 => ?_)
              · rw [mset_n (by omega)]
                unfold ins
                by_cases q1 : j < at_
                · rw [if_pos q1, mset_n (by omega)]; exact c1 j q1
                · rw [if_neg q1]
                  by_cases q2 : j = at_
                  · rw [if_pos q2, q2, mset_s]
                  · rw [if_neg q2, mset_n (by omega)]
                    have := c2 (j - 1) (by omega) (by omega)
                    rw [show j - 1 + 1 = j from by omega] at this
                    exact this
              · rw [mset_n (by omega), mset_n (by omega), c5 a y w1]
                exact k3 a y w1 w2
            induction at_ with
            | zero =>
              intro r C ha hr c1 c2 c4 c5
              obtain ⟨r', rfl⟩ : ∃ x, r = x + 1 := ⟨r - 1, by omega⟩
              have un2 : fX6_collectGroups_h47 fu (sI c) (bI lk) (sI p) (fX6_collectGroups_h8 fu (sI c) (bI lk) (sI p) q') (r' + 1) (sI s, sI 0, C, L) = fX6_collectGroups_i47 fu (sI c) (bI lk) (sI p) (fX6_collectGroups_h8 fu (sI c) (bI lk) (sI p) q') (fX6_collectGroups_h47 fu (sI c) (bI lk) (sI p) (fX6_collectGroups_h8 fu (sI c) (bI lk) (sI p) q') r') (sI s) (sI 0) C L := rfl
              rw [un2]
              unfold fX6_collectGroups_i47
              rw [if_pos (by decide)]
              exact stop 0 C ha c1 c2 (fun j hj => by omega) c4 c5
            | succ at_ iha =>
              intro r C ha hr c1 c2 c4 c5
              obtain ⟨r', rfl⟩ : ∃ x, r = x + 1 := ⟨r - 1, by omega⟩
              have un2 : fX6_collectGroups_h47 fu (sI c) (bI lk) (sI p) (fX6_collectGroups_h8 fu (sI c) (bI lk) (sI p) q') (r' + 1) (sI s, sI (at_ + 1), C, L) = fX6_collectGroups_i47 fu (sI c) (bI lk) (sI p) (fX6_collectGroups_h8 fu (sI c) (bI lk) (sI p) q') (fX6_collectGroups_h47 fu (sI c) (bI lk) (sI p) (fX6_collectGroups_h8 fu (sI c) (bI lk) (sI p) q') r') (sI s) (sI (at_ + 1)) C L := rfl
              rw [un2]
              unfold fX6_collectGroups_i47
              obtain ⟨t1, t2⟩ := hT.1 at_ (by omega)
              obtain ⟨d1, d2, d3, _⟩ := b3 (g at_) (by omega)
              have e63 : ∀ x, C 63 x = B 63 x := fun x => c5 63 x (by omega)
              rw [if_neg (by rw [sI_lel (by omega) (by decide)]; omega), sI_m1, mck_s (by omega) (by omega), sI_nn (by omega), c1 at_ (by omega), c_octetsOf (show g at_ < 40 by omega) (by rw [e63]; exact d1) d3, mb3_s, c_octetsOf (show s < 40 by omega) (by rw [e63]; exact a1) a3, mb3_s]
              by_cases q1 : ocs bt s ≤ ocs bt (g at_)
              · rw [if_pos (by rw [sI_le (by omega) (by omega)]; exact q1)]
                refine stop (at_ + 1) C ha c1 c2 (fun j hj => ?_) c4 c5
                by_cases e : j = at_
                · rw [e]; exact q1
                · have := hT.2.2 j at_ (by omega) (by omega)
                  rcases this with w | w
                  · omega
                  · omega
              · rw [if_neg (by rw [sI_le (by omega) (by omega)]; exact q1), mck_s (by omega) (by omega), mck_s (by omega) (by omega), sI_nn (by omega), c1 at_ (by omega)]
                simp only [mlet]
                rw [sI_pm]
                refine iha r' (mset C 92 (at_ + 1) (sI (g at_))) (by omega) (by omega) (fun j hj => ?_) (fun j j1 j2 => ?_) (fun j j1 j2 => ?_) (fun a y w => by rw [mset_n (by omega)]; exact c5 a y w)
                · rw [mset_n (by omega)]; exact c1 j (by omega)
                · by_cases e : j = at_
                  · rw [e, mset_s]
                  · rw [mset_n (by omega)]; exact c2 j (by omega) j2
                · by_cases e : j = at_
                  · rw [e]; omega
                  · exact c4 j (by omega) j2
          exact inner m fu B (Nat.le_refl _) (by omega) k2 (fun j j1 j2 => by omega) (fun j j1 j2 => by omega) (fun _ _ _ => rfl)
        · rw [if_neg (by rw [sI_eq (by omega) (by omega)]; exact cp)]
          exact skip (by rw [hb, decide_eq_false cp]; rfl)
  refine key S 0 fu 0 (fun _ => 0) _ (by omega) (by omega) ⟨fun j hj => by omega, fun s hs => by omega, fun i j _ hj => by omega⟩ (by rw [mset_s]; rfl) (fun j hj => by omega) (fun a y w1 w2 => by rw [mset_n (by omega)])
