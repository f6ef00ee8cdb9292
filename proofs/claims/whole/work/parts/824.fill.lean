/-! the class fills a frame -/
theorem c_placeOf {fu s o b q : Nat} {t : Bool} {A : mwM} {L : mwL} (hs : s < 40) (h67 : A 67 s = bI t) (h72 : A 72 s = sI o) (h63 : A 63 s = sI b) (hb : b ≤ 64) (hq : q < (b + 7) / 8) : DX6_placeOf fu (sI s) (sI q) A L = some (sI (o + pqf t ((b + 7) / 8) q), A, L) := by
  unfold DX6_placeOf fX6_placeOf_b34
  rw [mck_s hs (by omega), mck_s hs (by omega), sI_nn (by omega), h67, h72]
  cases t with
  | false =>
    rw [bI_f, if_neg (show ¬ (0 : Int32) = 1 by decide), sI_add]
    unfold pqf
    rw [if_neg (by decide)]
  | true =>
    rw [bI_t, if_pos (show (1 : Int32) = 1 from rfl), c_octetsOf hs h63 hb, mb3_s, sI_dec (by omega), sI_sub (by omega), sI_add]
    unfold pqf
    rw [if_pos rfl]
abbrev FiC (A : mwM) (S : Nat) (bt fs os ct dt : Nat → Nat) (tu : Nat → Bool) : Prop := A 61 10 = sI S ∧ S ≤ 40 ∧ ∀ s, s < S → A 63 s = sI (bt s) ∧ 1 ≤ bt s ∧ bt s ≤ 64 ∧ A 67 s = bI (tu s) ∧ A 71 s = sI (fs s) ∧ fs s < 40 ∧ A 72 s = sI (os s) ∧ os s + ocs bt s ≤ 8 ∧ A 64 s = sI (ct s) ∧ ct s < 12 ∧ A 65 s = sI (dt s) ∧ dt s < 32
theorem FiC_f {A A' : mwM} {S : Nat} {bt fs os ct dt : Nat → Nat} {tu : Nat → Bool} (h : FiC A S bt fs os ct dt tu) (hf : ∀ a y, (a = 61 ∧ y = 10) ∨ (63 ≤ a ∧ a ≤ 67) ∨ a = 71 ∨ a = 72 → A' a y = A a y) : FiC A' S bt fs os ct dt tu := by
  obtain ⟨h1, h2, h3⟩ := h
  refine ⟨by rw [hf _ _ (by omega)]; exact h1, h2, fun s hs => ?_⟩
  obtain ⟨a1, a2, a3, a4, a5, a6, a7, a8, a9, a10, a11, a12⟩ := h3 s hs
  exact ⟨by rw [hf _ _ (by omega)]; exact a1, a2, a3, by rw [hf _ _ (by omega)]; exact a4, by rw [hf _ _ (by omega)]; exact a5, a6, by rw [hf _ _ (by omega)]; exact a7, a8, by rw [hf _ _ (by omega)]; exact a9, a10, by rw [hf _ _ (by omega)]; exact a11, a12⟩
/-- what stands apart in a frame -/
abbrev FiD (S : Nat) (bt fs os : Nat → Nat) : Prop := ∀ s t, s < S → t < S → s ≠ t → fs s = fs t → os s + ocs bt s ≤ os t ∨ os t + ocs bt t ≤ os s
theorem c_fillS {fu f S s : Nat} {bt fs os ct dt : Nat → Nat} {tu : Nat → Bool} {v w : Int64} {L : mwL} (hfu : 100 ≤ fu) (hs : s < S) (hw : uL w = uL v % 2 ^ bt s) (rr : (Int32 × mwM × mwL) → Option (mwM × mwL)) : ∀ (r q p : Nat) (A : mwM), q + r = ocs bt s → r < p → FiC A S bt fs os ct dt tu → (∀ x, x < q → A 95 (os s + pqf (tu s) (ocs bt s) x) = sI (vq v (bt s) x)) → ∃ A', fX6_fill_h98 fu (sI f) rr p (sI s, w, sI q, A, L) = rr (sI (s + 1), A', L) ∧ (∀ x, x < ocs bt s → A' 95 (os s + pqf (tu s) (ocs bt s) x) = sI (vq v (bt s) x)) ∧ ∀ a y, ¬ (a = 95 ∧ os s ≤ y ∧ y < os s + ocs bt s) → A' a y = A a y := by
  intro r
  induction r with
  | zero =>
    intro q p A hq hp hF hd
    obtain ⟨p', rfl⟩ : ∃ y, p = y + 1 := ⟨p - 1, by omega⟩
    obtain ⟨h1, h2, h3⟩ := hF
    obtain ⟨a1, a2, a3, a4, a5, a6, a7, a8, a9, a10, a11, a12⟩ := h3 s hs
    refine ⟨A, ?_, fun x hx => hd x (by omega), fun _ _ _ => rfl⟩
    show fX6_fill_i98 fu (sI f) rr (fX6_fill_h98 fu (sI f) rr p') (sI s) w (sI q) A L = _
    unfold fX6_fill_i98 fX6_fill_b139
    simp only [mlet]
    have : q = (bt s + 7) / 8 := by have e : ocs bt s = (bt s + 7) / 8 := rfl; omega
    rw [c_octetsOf (by omega) a1 a3, mb3_s, if_pos (by rw [sI_le (by omega) (by omega)]; omega), sI_1]
  | succ r ih =>
    intro q p A hq hp hF hd
    obtain ⟨p', rfl⟩ : ∃ y, p = y + 1 := ⟨p - 1, by omega⟩
    obtain ⟨h1, h2, h3⟩ := id hF
    obtain ⟨a1, a2, a3, a4, a5, a6, a7, a8, a9, a10, a11, a12⟩ := h3 s hs
    have eo : ocs bt s = (bt s + 7) / 8 := rfl
    rw [eo] at a8 hq
    have hpq := pqf_lt (t := tu s) (show q < (bt s + 7) / 8 by omega)
    have un : fX6_fill_h98 fu (sI f) rr (p' + 1) (sI s, w, sI q, A, L) = fX6_fill_i98 fu (sI f) rr (fX6_fill_h98 fu (sI f) rr p') (sI s) w (sI q) A L := rfl
    have ev : (((w.toUInt64 >>> ((8 * sI q).toInt64.toUInt64 &&& Int64.toUInt64 63)).toInt64).toInt32) &&& 255 = sI (vq v (bt s) q) := by
      rw [sI_lml, ush64 w (8 * q) (by omega)]
      have e2 : w.toUInt64.toNat = uL v % 2 ^ bt s := hw
      rw [e2, vq_e]
      rfl
    obtain ⟨A', k1, k2, k3⟩ := ih (q + 1) p' (mset A 95 (os s + pqf (tu s) ((bt s + 7) / 8) q) (sI (vq v (bt s) q))) (by rw [eo]; omega) (by omega) (FiC_f hF (fun a y u => by rw [mset_n (by omega)])) (fun x hx => by
      rw [eo]
      by_cases e : x = q
      · rw [e, mset_s]
      · have ne : pqf (tu s) ((bt s + 7) / 8) x ≠ pqf (tu s) ((bt s + 7) / 8) q := fun u => e (pqf_in (by omega) (by omega) u)
        rw [mset_n (by omega)]
        exact hd x (by omega))
    refine ⟨A', ?_, k2, fun a y u => by rw [k3 a y u, mset_n (by rw [eo] at u; omega)]⟩
    rw [un]
    unfold fX6_fill_i98
    simp only [mlet]
    rw [c_octetsOf (by omega) a1 a3, mb3_s, if_neg (by rw [sI_le (by omega) (by omega)]; omega), c_placeOf (by omega) a4 a7 a1 a3 (by omega), mb3_s, mck_s (by omega) (by omega), sI_nn (by omega), ev, sI_1]
    exact k1
theorem c_fill {fu f S : Nat} {bt fs os ct dt : Nat → Nat} {tu : Nat → Bool} {V : Nat → Int64} {A : mwM} {L : mwL} (hfu : 100 ≤ fu) (hf : f < 40) (hF : FiC A S bt fs os ct dt tu) (hD : FiD S bt fs os) (hV : ∀ s, s < S → L (293 + 36 * ct s + 34) (dt s) = V s) : ∃ A', DX6_fill fu (sI f) A L = some (A', L) ∧ A' 77 f = A 77 f + 1 ∧ (∀ s, s < S → fs s = f → ∀ q, q < ocs bt s → A' 95 (os s + pqf (tu s) (ocs bt s) q) = sI (vq (V s) (bt s) q)) ∧ (∀ y, y < 8 → (∀ s, s < S → fs s = f → ¬ (os s ≤ y ∧ y < os s + ocs bt s)) → A' 95 y = 0) ∧ ∀ a y, ¬ (a = 77 ∧ y = f) → ¬ (a = 95 ∧ y < 8) → A' a y = A a y := by
  have hS40 := hF.2.1
  -- the signals
  have key : ∀ (r s p : Nat) (B : mwM), s + r = S → r < p → FiC B S bt fs os ct dt tu → (∀ t, t < s → fs t = f → ∀ q, q < ocs bt t → B 95 (os t + pqf (tu t) (ocs bt t) q) = sI (vq (V t) (bt t) q)) → (∀ y, y < 8 → (∀ t, t < s → fs t = f → ¬ (os t ≤ y ∧ y < os t + ocs bt t)) → B 95 y = 0) → ∃ A', fX6_fill_h38 fu (sI f) p (sI s, B, L) = some (A', L) ∧ (∀ s, s < S → fs s = f → ∀ q, q < ocs bt s → A' 95 (os s + pqf (tu s) (ocs bt s) q) = sI (vq (V s) (bt s) q)) ∧ (∀ y, y < 8 → (∀ s, s < S → fs s = f → ¬ (os s ≤ y ∧ y < os s + ocs bt s)) → A' 95 y = 0) ∧ ∀ a y, ¬ (a = 95 ∧ y < 8) → A' a y = B a y := by
    intro r
    induction r with
    | zero =>
      intro s p B hs hp hB h1 h2
      obtain ⟨p', rfl⟩ : ∃ y, p = y + 1 := ⟨p - 1, by omega⟩
      have es : s = S := by omega
      subst es
      refine ⟨B, ?_, h1, h2, fun _ _ _ => rfl⟩
      show fX6_fill_i38 fu (sI f) (fX6_fill_h38 fu (sI f) p') (sI s) B L = _
      unfold fX6_fill_i38
      rw [hB.1, if_pos (by rw [sI_le (by omega) (by omega)]; omega)]
    | succ r ih =>
      intro s p B hs hp hB h1 h2
      obtain ⟨p', rfl⟩ : ∃ y, p = y + 1 := ⟨p - 1, by omega⟩
      obtain ⟨a1, a2, a3, a4, a5, a6, a7, a8, a9, a10, a11, a12⟩ := hB.2.2 s (by omega)
      have un : fX6_fill_h38 fu (sI f) (p' + 1) (sI s, B, L) = fX6_fill_i38 fu (sI f) (fX6_fill_h38 fu (sI f) p') (sI s) B L := rfl
      rw [un]
      unfold fX6_fill_i38
      rw [hB.1, if_neg (by rw [sI_le (by omega) (by omega)]; omega), mck_s (by omega) (by omega), sI_nn (show s < 2000000000 by omega), a5]
      by_cases e : fs s = f
      · rw [if_pos (by rw [e]), mck_s (by omega) (by omega), mck_s (by omega) (by omega), a9, mck_s (by omega) (by omega), mck_s (by omega) (by omega), a11, mck_s (by omega) (by omega), sI_nn (by omega), sI_nn (by omega), a1, hV s (by omega)]
        obtain ⟨w, w1, w2⟩ := c_cutTo (fu := fu) (v := V s) (M := B) (L := L) a2 a3
        rw [w1, mb3_s]
        obtain ⟨C, c1, c2, c3⟩ := c_fillS (fu := fu) (f := f) (L := L) hfu (show s < S by omega) w2 (fX6_fill_h38 fu (sI f) p') (ocs bt s) 0 fu B (by omega) (by have e2 : ocs bt s = (bt s + 7) / 8 := rfl; omega) hB (fun x hx => by omega)
        have c1' : fX6_fill_h98 fu (sI f) (fX6_fill_h38 fu (sI f) p') fu (sI s, w, 0, B, L) = _ := c1
        rw [c1']
        obtain ⟨A', k1, k2, k3, k4⟩ := ih (s + 1) p' C (by omega) (by omega) (FiC_f hB (fun a y u => c3 a y (by omega))) (fun t ht ft q hq => by
          by_cases et : t = s
          · subst et
            exact c2 q hq
          · have hpq := pqf_lt (t := tu t) hq
            have := hD s t (by omega) (by omega) (fun u => et u.symm) (by rw [e, ft])
            rw [c3 _ _ (by omega)]
            exact h1 t (by omega) ft q hq) (fun y hy hn => by
          have := hn s (by omega) e
          rw [c3 _ _ (by omega)]
          exact h2 y hy (fun t ht => hn t (by omega)))
        refine ⟨A', k1, k2, k3, fun a y u => by rw [k4 a y u, c3 a y (by omega)]⟩
      · rw [if_neg (by rw [sI_eq (by omega) (by omega)]; exact e)]
        unfold fX6_fill_b139
        simp only [mlet]
        rw [sI_1]
        exact ih (s + 1) p' B (by omega) (by omega) hB (fun t ht ft => by
          by_cases et : t = s
          · rw [et] at ft; exact absurd ft e
          · exact h1 t (by omega) ft) (fun y hy hn => h2 y hy (fun t ht => hn t (by omega)))
  -- the empty row
  have zero : ∀ (r x p : Nat) (B : mwM), x + r = 8 → r < p → FiC B S bt fs os ct dt tu → (∀ y, y < x → B 95 y = 0) → ∃ A', fX6_fill_h14 fu (sI f) p (sI x, B, L) = some (A', L) ∧ (∀ s, s < S → fs s = f → ∀ q, q < ocs bt s → A' 95 (os s + pqf (tu s) (ocs bt s) q) = sI (vq (V s) (bt s) q)) ∧ (∀ y, y < 8 → (∀ s, s < S → fs s = f → ¬ (os s ≤ y ∧ y < os s + ocs bt s)) → A' 95 y = 0) ∧ ∀ a y, ¬ (a = 95 ∧ y < 8) → A' a y = B a y := by
    intro r
    induction r with
    | zero =>
      intro x p B hx hp hB h0
      obtain ⟨p', rfl⟩ : ∃ y, p = y + 1 := ⟨p - 1, by omega⟩
      have un : fX6_fill_h14 fu (sI f) (p' + 1) (sI x, B, L) = fX6_fill_i14 fu (sI f) (fX6_fill_h14 fu (sI f) p') (sI x) B L := rfl
      rw [un]
      unfold fX6_fill_i14
      rw [if_pos (by rw [sI_lle (by decide) (by omega)]; omega)]
      exact key S 0 fu B (by omega) (by omega) hB (fun t ht => by omega) (fun y hy _ => h0 y (by omega))
    | succ r ih =>
      intro x p B hx hp hB h0
      obtain ⟨p', rfl⟩ : ∃ y, p = y + 1 := ⟨p - 1, by omega⟩
      have un : fX6_fill_h14 fu (sI f) (p' + 1) (sI x, B, L) = fX6_fill_i14 fu (sI f) (fX6_fill_h14 fu (sI f) p') (sI x) B L := rfl
      rw [un]
      unfold fX6_fill_i14
      simp only [mlet]
      rw [if_neg (by rw [sI_lle (by decide) (by omega)]; omega), mck_s (by omega) (by omega), sI_nn (by omega), sI_1]
      obtain ⟨A', k1, k2, k3, k4⟩ := ih (x + 1) p' (mset B 95 x 0) (by omega) (by omega) (FiC_f hB (fun a y u => by rw [mset_n (by omega)])) (fun y hy => by
        by_cases e : y = x
        · rw [e, mset_s]
        · rw [mset_n (by omega)]; exact h0 y (by omega))
      exact ⟨A', k1, k2, k3, fun a y u => by rw [k4 a y u, mset_n (by omega)]⟩
  unfold DX6_fill
  simp only [mlet]
  rw [mck_s hf (by omega), mck_s hf (by omega), sI_nn (by omega)]
  obtain ⟨A', k1, k2, k3, k4⟩ := zero 8 0 fu (mset A 77 f (A 77 f + 1)) (by omega) (by omega) (FiC_f hF (fun a y u => by rw [mset_n (by omega)])) (fun y hy => by omega)
  exact ⟨A', k1, by rw [k4 _ _ (by omega), mset_s], k2, k3, fun a y u1 u2 => by rw [k4 a y u2, mset_n u1]⟩
