/-! the reference: the groups of one period, in their order -/
theorem PvM_f {M M' : mwM} {k n cap : Nat} {pl zl fr oc : Nat → Nat} (h : PvM M k n cap pl zl fr oc) (hf : ∀ a y, (a = k ∧ (y = 1 ∨ y = 2)) ∨ a = k + 5 ∨ a = k + 2 ∨ a = k + 22 ∨ a = k + 16 ∨ a = k + 17 → M' a y = M a y) : PvM M' k n cap pl zl fr oc := by
  obtain ⟨h1, h2, h3, h4, h5⟩ := h
  refine ⟨by rw [hf _ _ (by omega)]; exact h1, by rw [hf _ _ (by omega)]; exact h2, h3, h4, fun l l1 l2 => ?_⟩
  obtain ⟨a1, a2, a3, a4, a5, a6, a7, a8, a9, a10⟩ := h5 l l1 l2
  exact ⟨by rw [hf _ _ (by omega)]; exact a1, by rw [hf _ _ (by omega)]; exact a2, a3, by rw [hf _ _ (by omega)]; exact a4, a5, a6, by rw [hf _ _ (by omega)]; exact a7, a8, by rw [hf _ _ (by omega)]; exact a9, a10⟩
abbrev pr6 (pl fr : Nat → Nat) (p l : Nat) : Prop := 1 ≤ l ∧ fr l = 0 ∧ pl l = p
abbrev lt6 (zl gl : Nat → Nat) (m l : Nat) : Prop := m = 0 ∨ befo zl (gl (m - 1)) l
def bv (b : Nat) : Int32 := if b = 0 then -1 else sI b
def bsl (pl fr zl gl : Nat → Nat) (p m g b : Nat) : Prop := (b = 0 → ∀ l, l ≤ g → ¬ (pr6 pl fr p l ∧ lt6 zl gl m l)) ∧ (b ≠ 0 → b ≤ g ∧ pr6 pl fr p b ∧ lt6 zl gl m b ∧ ∀ l, l ≤ g → pr6 pl fr p l → lt6 zl gl m l → l = b ∨ befo zl b l)
theorem m_listed {fu k n cap p : Nat} {M : mwM} {L : mwL} {pl zl fr oc : Nat → Nat} (hfu : 70 ≤ fu) (hP : PvM M k n cap pl zl fr oc) (hp : p ≤ 20000) : ∃ m gl M', DX16_listed fu k (sI p) M L = some (sI m, M', L) ∧ Srt (fun l => decide (pr6 pl fr p l)) zl (n + 1) m gl ∧ (∀ j, j < m → M' (k + 18) j = sI (gl j)) ∧ ∀ a y, a ≠ k + 18 → M' a y = M a y := by
  have hn := hP.2.2.1
  unfold DX16_listed
  -- one round: the next one
  have inner : ∀ (r g q m : Nat) (gl : Nat → Nat) (B : mwM) (b : Nat) (rr : (Int32 × Int32 × mwM × mwL) → Option (Int32 × mwM × mwL)), g + r = n → r < q → m ≤ 41 → PvM B k n cap pl zl fr oc → (∀ j, j < m → B (k + 18) j = sI (gl j) ∧ gl j ≤ n ∧ 1 ≤ gl j) → bsl pl fr zl gl p m g b →
      ((∀ l, l ≤ n → ¬ (pr6 pl fr p l ∧ lt6 zl gl m l)) ∧ fX16_listed_h13 fu k (sI p) rr q (sI m, bv b, sI (g + 1), B, L) = rr (sI m, -1, B, L)) ∨ (∃ x, x ≤ n ∧ pr6 pl fr p x ∧ lt6 zl gl m x ∧ (∀ l, l ≤ n → pr6 pl fr p l → lt6 zl gl m l → l = x ∨ befo zl x l) ∧ fX16_listed_h13 fu k (sI p) rr q (sI m, bv b, sI (g + 1), B, L) = rr (sI (m + 1), sI x, mset B (k + 18) m (sI x), L)) := by
    intro r
    induction r with
    | zero =>
      intro g q m gl B b rr hg hq hm hP hgl hb
      obtain ⟨q', rfl⟩ : ∃ x, q = x + 1 := ⟨q - 1, by omega⟩
      have : g = n := by omega
      subst this
      have un : ∀ v, fX16_listed_h13 fu k (sI p) rr (q' + 1) (sI m, v, sI (g + 1), B, L) = (if v ≤ 0 then rr (sI m, v, B, L) else mck (sI m) 129 (mlet (mset B (k + 18) ((sI m).toNatClampNeg) v) (fun M5 => mlet (sI m + 1) (fun x6 => rr (x6, v, M5, L))))) := by
        intro v
        show fX16_listed_i13 fu k (sI p) rr (fX16_listed_h13 fu k (sI p) rr q') (sI m) v (sI (g + 1)) B L = _
        unfold fX16_listed_i13
        rw [hP.2.1, if_pos (by rw [sI_lt (by omega) (by omega)]; omega)]
      by_cases bz : b = 0
      · refine Or.inl ⟨hb.1 bz, ?_⟩
        unfold bv
        rw [un, if_pos bz, if_pos (by decide)]
      · obtain ⟨b1, b2, b3, b4⟩ := hb.2 bz
        refine Or.inr ⟨b, b1, b2, b3, b4, ?_⟩
        unfold bv
        rw [un, if_neg bz, if_neg (by rw [sI_lel (by omega) (by decide)]; omega), mck_s (by omega) (by omega), sI_nn (by omega)]
        simp only [mlet]
        rw [sI_1]
    | succ r ih =>
      intro g q m gl B b rr hg hq hm hP hgl hb
      obtain ⟨q', rfl⟩ : ∃ x, q = x + 1 := ⟨q - 1, by omega⟩
      obtain ⟨h1, h2, h3, h4, h5⟩ := id hP
      obtain ⟨a1, a2, a3, a4, a5, a6, a7, a8, a9, a10⟩ := h5 (g + 1) (by omega) (by omega)
      -- what this one comes to
      have step : ∀ v : Int32, v = bv b → fX16_listed_h13 fu k (sI p) rr (q' + 1) (sI m, v, sI (g + 1), B, L) = fX16_listed_h13 fu k (sI p) rr q' (sI m, (if (pr6 pl fr p (g + 1) ∧ lt6 zl gl m (g + 1)) ∧ (b = 0 ∨ zl b < zl (g + 1)) then sI (g + 1) else v), sI (g + 1 + 1), B, L) := by
        intro v hv
        show fX16_listed_i13 fu k (sI p) rr (fX16_listed_h13 fu k (sI p) rr q') (sI m) v (sI (g + 1)) B L = _
        have keep : ∀ w, fX16_listed_b165 fu k (sI p) rr (fX16_listed_h13 fu k (sI p) rr q') (sI m) (sI (g + 1)) w B L = fX16_listed_h13 fu k (sI p) rr q' (sI m, w, sI (g + 1 + 1), B, L) := by
          intro w
          unfold fX16_listed_b165
          simp only [mlet]
          rw [sI_1]
        have e164 : fX16_listed_b164 fu k (sI p) rr (fX16_listed_h13 fu k (sI p) rr q') (sI m) v (sI (g + 1)) B L = fX16_listed_h13 fu k (sI p) rr q' (sI m, v, sI (g + 1 + 1), B, L) := keep v
        have e159 : fX16_listed_b159 fu k (sI p) rr (fX16_listed_h13 fu k (sI p) rr q') (sI m) (sI (g + 1)) B L = fX16_listed_h13 fu k (sI p) rr q' (sI m, sI (g + 1), sI (g + 1 + 1), B, L) := keep _
        -- it isn't one of them
        have e127z : ∀ s1, fX16_listed_b127 fu k (sI p) rr (fX16_listed_h13 fu k (sI p) rr q') (sI m) v (sI (g + 1)) 0 s1 B L = fX16_listed_h13 fu k (sI p) rr q' (sI m, v, sI (g + 1 + 1), B, L) := by
          intro s1
          unfold fX16_listed_b127
          rw [if_pos (show (0 : Int32) = 0 from rfl), e164]
        have e127n : ∀ s0, fX16_listed_b127 fu k (sI p) rr (fX16_listed_h13 fu k (sI p) rr q') (sI m) v (sI (g + 1)) s0 0 B L = fX16_listed_h13 fu k (sI p) rr q' (sI m, v, sI (g + 1 + 1), B, L) := by
          intro s0
          unfold fX16_listed_b127
          rw [if_pos (show (0 : Int32) = 0 from rfl), e164]
          split <;> rfl
        have e127t : fX16_listed_b127 fu k (sI p) rr (fX16_listed_h13 fu k (sI p) rr q') (sI m) v (sI (g + 1)) 1 1 B L = fX16_listed_h13 fu k (sI p) rr q' (sI m, (if (b = 0 ∨ zl b < zl (g + 1)) then sI (g + 1) else v), sI (g + 1 + 1), B, L) := by
          unfold fX16_listed_b127
          rw [if_neg (show ¬ (1 : Int32) = 0 by decide), if_neg (show ¬ (1 : Int32) = 0 by decide), e164, e159]
          by_cases bz : b = 0
          · rw [hv]
            unfold bv
            rw [if_pos bz, if_pos (by decide), if_pos (Or.inl bz)]
          · obtain ⟨b1, b2, b3, b4⟩ := hb.2 bz
            unfold bv at hv
            rw [if_neg bz] at hv
            rw [hv]
            obtain ⟨d1, d2, d3, d4, d5, d6, d7, d8, d9, d10⟩ := h5 b b2.1 (by omega)
            rw [if_neg (by rw [sI_ltl (by omega) (by decide)]; omega), mck_s (show g + 1 < 129 by omega) (by omega), mck_s (show b < 129 by omega) (by omega), sI_nn (show g + 1 < 2000000000 by omega), sI_nn (show b < 2000000000 by omega), a4, d4]
            by_cases w : zl b < zl (g + 1)
            · rw [if_neg (by rw [sI_le (by omega) (by omega)]; omega), if_pos (Or.inr w)]
            · rw [if_pos (by rw [sI_le (by omega) (by omega)]; omega), if_neg (fun z => z.elim bz w)]
        have e57 : ∀ is : Bool, fX16_listed_b57 fu k (sI p) rr (fX16_listed_h13 fu k (sI p) rr q') (sI m) v (sI (g + 1)) (bI is) B L = fX16_listed_h13 fu k (sI p) rr q' (sI m, (if (is = true ∧ lt6 zl gl m (g + 1)) ∧ (b = 0 ∨ zl b < zl (g + 1)) then sI (g + 1) else v), sI (g + 1 + 1), B, L) := by
          intro is
          have fin : lt6 zl gl m (g + 1) → fX16_listed_b127 fu k (sI p) rr (fX16_listed_h13 fu k (sI p) rr q') (sI m) v (sI (g + 1)) (bI is) 1 B L = fX16_listed_h13 fu k (sI p) rr q' (sI m, (if (is = true ∧ lt6 zl gl m (g + 1)) ∧ (b = 0 ∨ zl b < zl (g + 1)) then sI (g + 1) else v), sI (g + 1 + 1), B, L) := by
            intro hl
            cases is with
            | false => rw [bI_f, e127z, if_neg (fun w => by cases w.1.1)]
            | true =>
              rw [bI_t, e127t]
              by_cases w : b = 0 ∨ zl b < zl (g + 1)
              · rw [if_pos w, if_pos ⟨⟨rfl, hl⟩, w⟩]
              · rw [if_neg w, if_neg (fun z => w z.2)]
          have fno : ¬ lt6 zl gl m (g + 1) → fX16_listed_b127 fu k (sI p) rr (fX16_listed_h13 fu k (sI p) rr q') (sI m) v (sI (g + 1)) (bI is) 0 B L = fX16_listed_h13 fu k (sI p) rr q' (sI m, (if (is = true ∧ lt6 zl gl m (g + 1)) ∧ (b = 0 ∨ zl b < zl (g + 1)) then sI (g + 1) else v), sI (g + 1 + 1), B, L) := by
            intro hl
            rw [e127n, if_neg (fun w => hl w.1.2)]
          unfold fX16_listed_b57 fX16_listed_b122 fX16_listed_b126
          by_cases m0 : m = 0
          · rw [if_pos (by rw [m0]; rfl)]
            exact fin (Or.inl m0)
          · obtain ⟨m', rfl⟩ : ∃ x, m = x + 1 := ⟨m - 1, by omega⟩
            obtain ⟨l1, l2, l3⟩ := hgl m' (by omega)
            obtain ⟨d1, d2, d3, d4, d5, d6, d7, d8, d9, d10⟩ := h5 (gl m') l3 l2
            rw [if_neg (by rw [sI_eql (by omega) (by decide)]; omega), sI_m1]
            simp only [mck_s (show g + 1 < 129 by omega) (show g + 1 < 2000000000 by omega), mck_s (show m' < 129 by omega) (show m' < 2000000000 by omega), sI_nn (show g + 1 < 2000000000 by omega), sI_nn (show m' < 2000000000 by omega)]
            rw [l1]
            simp only [mck_s (show gl m' < 129 by omega) (show gl m' < 2000000000 by omega), sI_nn (show gl m' < 2000000000 by omega)]
            rw [a4, d4]
            have el : lt6 zl gl (m' + 1) (g + 1) ↔ befo zl (gl m') (g + 1) := by
              constructor
              · intro w
                rcases w with w | w
                · omega
                · exact w
              · exact fun w => Or.inr w
            by_cases c1 : zl (g + 1) < zl (gl m')
            · rw [if_pos (by rw [sI_lt (by omega) (by omega)]; exact c1)]
              exact fin (el.mpr (Or.inl c1))
            · rw [if_neg (by rw [sI_lt (by omega) (by omega)]; exact c1)]
              by_cases c2 : zl (g + 1) = zl (gl m')
              · rw [if_pos (by rw [c2])]
                by_cases c3 : g + 1 ≤ gl m'
                · rw [if_pos (by rw [sI_le (by omega) (by omega)]; exact c3)]
                  exact fno (fun w => by have := el.mp w; omega)
                · rw [if_neg (by rw [sI_le (by omega) (by omega)]; exact c3)]
                  exact fin (el.mpr (Or.inr ⟨by omega, by omega⟩))
              · rw [if_neg (by rw [sI_eq (by omega) (by omega)]; exact c2)]
                exact fno (fun w => by have := el.mp w; omega)
        unfold fX16_listed_i13 fX16_listed_b56
        rw [h2, if_neg (by rw [sI_lt (by omega) (by omega)]; omega), m_isGroup a1 (by omega), mb3_s, if_neg (show ¬ (1 : Int32) = 0 by decide), mck_s (by omega) (by omega), mck_s (by omega) (by omega), sI_nn (by omega), a7, a2]
        by_cases c1 : fr (g + 1) = 0
        · rw [if_pos (by rw [c1]; rfl)]
          by_cases c2 : pl (g + 1) = p
          · rw [if_pos (by rw [c2])]
            have := e57 true
            rw [bI_t] at this
            rw [this]
            by_cases w : lt6 zl gl m (g + 1) ∧ (b = 0 ∨ zl b < zl (g + 1))
            · rw [if_pos ⟨⟨rfl, w.1⟩, w.2⟩, if_pos ⟨⟨⟨by omega, c1, c2⟩, w.1⟩, w.2⟩]
            · rw [if_neg (fun z => w ⟨z.1.2, z.2⟩), if_neg (fun z => w ⟨z.1.2, z.2⟩)]
          · rw [if_neg (by rw [sI_eq (by omega) (by omega)]; exact c2)]
            have := e57 false
            rw [bI_f] at this
            rw [this, if_neg (fun w => by cases w.1.1), if_neg (fun w => c2 w.1.1.2.2)]
        · rw [if_neg (by rw [sI_eql (by omega) (by decide)]; exact c1)]
          have := e57 false
          rw [bI_f] at this
          rw [this, if_neg (fun w => by cases w.1.1), if_neg (fun w => c1 w.1.1.2.1)]
      rw [step _ rfl]
      by_cases cc : (pr6 pl fr p (g + 1) ∧ lt6 zl gl m (g + 1)) ∧ (b = 0 ∨ zl b < zl (g + 1))
      · rw [if_pos cc]
        have eb : bv (g + 1) = sI (g + 1) := by unfold bv; rw [if_neg (by omega)]
        rw [← eb]
        refine ih (g + 1) q' m gl B (g + 1) rr (by omega) (by omega) hm hP hgl ?_
        refine ⟨fun z => by omega, fun _ => ⟨by omega, cc.1.1, cc.1.2, fun l hl w1 w2 => ?_⟩⟩
        by_cases e : l = g + 1
        · exact Or.inl e
        · by_cases bz : b = 0
          · exact absurd ⟨w1, w2⟩ (hb.1 bz l (by omega))
          · obtain ⟨b1, b2, b3, b4⟩ := hb.2 bz
            have lt : zl b < zl (g + 1) := by
              rcases cc.2 with z | z
              · exact absurd z bz
              · exact z
            rcases b4 l (by omega) w1 w2 with w | w
            · rw [w]; exact Or.inr (Or.inl lt)
            · exact Or.inr (Or.inl (by rcases w with w | w <;> omega))
      · rw [if_neg cc]
        refine ih (g + 1) q' m gl B b rr (by omega) (by omega) hm hP hgl ?_
        refine ⟨fun bz l hl w => ?_, fun bz => ?_⟩
        · by_cases e : l = g + 1
          · subst e; exact cc ⟨w, Or.inl bz⟩
          · exact hb.1 bz l (by omega) w
        · obtain ⟨b1, b2, b3, b4⟩ := hb.2 bz
          refine ⟨by omega, b2, b3, fun l hl w1 w2 => ?_⟩
          by_cases e : l = g + 1
          · subst e
            have nz : ¬ zl b < zl (g + 1) := fun w => cc ⟨⟨w1, w2⟩, Or.inr w⟩
            right
            by_cases q : zl (g + 1) < zl b
            · exact Or.inl q
            · exact Or.inr ⟨by omega, by omega⟩
          · exact b4 l (by omega) w1 w2
  -- round by round
  have outer : ∀ (N m q : Nat) (gl : Nat → Nat) (B : mwM) (v : Int32), cnt (fun l => decide (pr6 pl fr p l ∧ lt6 zl gl m l)) (n + 1) ≤ N → N + 1 < q → m + N ≤ 41 → ¬ v < 0 → (∀ a y, a ≠ k + 18 → B a y = M a y) → (∀ j, j < m → B (k + 18) j = sI (gl j) ∧ gl j ≤ n ∧ 1 ≤ gl j) → (∀ j, j < m → pr6 pl fr p (gl j)) → (∀ i j, i < j → j < m → befo zl (gl i) (gl j)) → (∀ l, l ≤ n → pr6 pl fr p l → (∃ j, j < m ∧ gl j = l) ∨ lt6 zl gl m l) → ∃ m' gl' M', fX16_listed_h4 fu k (sI p) q (sI m, v, B, L) = some (sI m', M', L) ∧ Srt (fun l => decide (pr6 pl fr p l)) zl (n + 1) m' gl' ∧ (∀ j, j < m' → M' (k + 18) j = sI (gl' j)) ∧ ∀ a y, a ≠ k + 18 → M' a y = M a y := by
    intro N
    induction N with
    | zero =>
      intro m q gl B v hc hq hm hv hx hgl hpr hso hcov
      obtain ⟨q', rfl⟩ : ∃ x, q = x + 1 := ⟨q - 1, by omega⟩
      have hPB : PvM B k n cap pl zl fr oc := PvM_f hP (fun a y w => hx a y (by omega))
      have none : ∀ l, l ≤ n → ¬ (pr6 pl fr p l ∧ lt6 zl gl m l) := by
        intro l hl w
        have := cnt_lt (p := fun _ => false) (q := fun l => decide (pr6 pl fr p l ∧ lt6 zl gl m l)) (n := n + 1) (x := l) (by omega) rfl (decide_eq_true w) (fun i _ h => by cases h)
        omega
      have un : fX16_listed_h4 fu k (sI p) (q' + 1) (sI m, v, B, L) = fX16_listed_i4 fu k (sI p) (fX16_listed_h4 fu k (sI p) q') (sI m) v B L := rfl
      rw [un]
      unfold fX16_listed_i4
      rw [if_neg hv]
      rcases inner n 0 fu m gl B 0 (fX16_listed_h4 fu k (sI p) q') (by omega) (by omega) (by omega) hPB hgl ⟨fun _ l hl w => by have := w.1.1; omega, fun z => absurd rfl z⟩ with ⟨i1, i2⟩ | ⟨x, i1, i2, i3, i4, i5⟩
      · have e0 : bv 0 = -1 := rfl
        rw [e0, show sI (0 + 1) = (1 : Int32) from rfl] at i2
        rw [i2]
        obtain ⟨q2, rfl⟩ : ∃ x, q' = x + 1 := ⟨q' - 1, by omega⟩
        have un2 : fX16_listed_h4 fu k (sI p) (q2 + 1) (sI m, -1, B, L) = fX16_listed_i4 fu k (sI p) (fX16_listed_h4 fu k (sI p) q2) (sI m) (-1) B L := rfl
        rw [un2]
        unfold fX16_listed_i4
        rw [if_pos (by decide)]
        refine ⟨m, gl, B, rfl, ⟨fun j hj => ⟨by have := (hgl j hj).2.1; omega, decide_eq_true (hpr j hj)⟩, fun s hs ps => ?_, hso⟩, fun j hj => (hgl j hj).1, hx⟩
        rcases hcov s (by omega) (of_decide_eq_true ps) with w | w
        · exact w
        · exact absurd ⟨of_decide_eq_true ps, w⟩ (none s (by omega))
      · exact absurd ⟨i2, i3⟩ (none x i1)
    | succ N ih =>
      intro m q gl B v hc hq hm hv hx hgl hpr hso hcov
      obtain ⟨q', rfl⟩ : ∃ x, q = x + 1 := ⟨q - 1, by omega⟩
      have hPB : PvM B k n cap pl zl fr oc := PvM_f hP (fun a y w => hx a y (by omega))
      have un : fX16_listed_h4 fu k (sI p) (q' + 1) (sI m, v, B, L) = fX16_listed_i4 fu k (sI p) (fX16_listed_h4 fu k (sI p) q') (sI m) v B L := rfl
      rw [un]
      unfold fX16_listed_i4
      rw [if_neg hv]
      have e0 : bv 0 = -1 := rfl
      rcases inner n 0 fu m gl B 0 (fX16_listed_h4 fu k (sI p) q') (by omega) (by omega) (by omega) hPB hgl ⟨fun _ l hl w => by have := w.1.1; omega, fun z => absurd rfl z⟩ with ⟨i1, i2⟩ | ⟨x, i1, i2, i3, i4, i5⟩
      · rw [e0, show sI (0 + 1) = (1 : Int32) from rfl] at i2
        rw [i2]
        obtain ⟨q2, rfl⟩ : ∃ x, q' = x + 1 := ⟨q' - 1, by omega⟩
        have un2 : fX16_listed_h4 fu k (sI p) (q2 + 1) (sI m, -1, B, L) = fX16_listed_i4 fu k (sI p) (fX16_listed_h4 fu k (sI p) q2) (sI m) (-1) B L := rfl
        rw [un2]
        unfold fX16_listed_i4
        rw [if_pos (by decide)]
        refine ⟨m, gl, B, rfl, ⟨fun j hj => ⟨by have := (hgl j hj).2.1; omega, decide_eq_true (hpr j hj)⟩, fun s hs ps => ?_, hso⟩, fun j hj => (hgl j hj).1, hx⟩
        rcases hcov s (by omega) (of_decide_eq_true ps) with w | w
        · exact w
        · exact absurd ⟨of_decide_eq_true ps, w⟩ (i1 s (by omega))
      · rw [e0, show sI (0 + 1) = (1 : Int32) from rfl] at i5
        rw [i5]
        have last : lt6 zl (fun j => if j < m then gl j else x) (m + 1) = fun l => (m + 1 = 0 ∨ befo zl x l) := by
          funext l
          show (m + 1 = 0 ∨ befo zl (if m + 1 - 1 < m then gl (m + 1 - 1) else x) l) = _
          rw [if_neg (by omega)]
        have tra : ∀ l, befo zl x l → lt6 zl gl m l := by
          intro l w
          rcases i3 with z | z
          · exact Or.inl z
          · right
            rcases w with w | w <;> rcases z with z | z <;> first | exact Or.inl (by omega) | exact Or.inr (by omega)
        refine ih (m + 1) q' (fun j => if j < m then gl j else x) _ (sI x) ?_ (by omega) (by omega) ?_ (fun a y w => by rw [mset_n (by omega)]; exact hx a y w) (fun j hj => ?_) (fun j hj => ?_) (fun i j hij hj => ?_) (fun l hl w => ?_)
        · have := cnt_lt (p := fun l => decide (pr6 pl fr p l ∧ lt6 zl (fun j => if j < m then gl j else x) (m + 1) l)) (q := fun l => decide (pr6 pl fr p l ∧ lt6 zl gl m l)) (n := n + 1) (x := x) (by omega) (decide_eq_false (fun w => by
            have z := w.2
            rw [last] at z
            rcases z with z | z
            · omega
            · rcases z with z | z <;> omega)) (decide_eq_true ⟨i2, i3⟩) (fun i _ h => by
            have h' := of_decide_eq_true h
            have z := h'.2
            rw [last] at z
            rcases z with z | z
            · omega
            · exact decide_eq_true ⟨h'.1, tra i z⟩)
          omega
        · rw [sI_ltl (by omega) (by decide)]; omega
        · by_cases c : j < m
          · rw [if_pos c, mset_n (by omega)]; exact hgl j c
          · have : j = m := by omega
            subst this
            rw [if_neg c, mset_s]
            exact ⟨rfl, i1, i2.1⟩
        · by_cases c : j < m
          · rw [if_pos c]; exact hpr j c
          · rw [if_neg c]; exact i2
        · skip
          by_cases c : j < m
          · rw [if_pos (by omega), if_pos c]; exact hso i j hij c
          · have : j = m := by omega
            subst this
            rw [if_pos hij, if_neg c]
            rcases i3 with z | z
            · omega
            · by_cases e : i = j - 1
              · rw [e]; exact z
              · have w := hso i (j - 1) (by omega) (by omega)
                rcases w with w | w <;> rcases z with z | z <;> first | exact Or.inl (by omega) | exact Or.inr (by omega)
        · rcases hcov l hl w with ⟨j, j1, j2⟩ | z
          · exact Or.inl ⟨j, by omega, by rw [if_pos j1]; exact j2⟩
          · rcases i4 l hl w z with e | e
            · exact Or.inl ⟨m, by omega, by rw [if_neg (by omega)]; exact e.symm⟩
            · right
              rw [last]
              exact Or.inr e
  have hcn := cnt_le (fun l => decide (pr6 pl fr p l ∧ lt6 zl (fun _ => 0) 0 l)) (n + 1)
  exact outer (n + 1) 0 fu (fun _ => 0) M 0 hcn (by omega) (by omega) (by decide) (fun _ _ _ => rfl) (fun j hj => by omega) (fun j hj => by omega) (fun i j _ hj => by omega) (fun l _ _ => Or.inr (Or.inl rfl))
