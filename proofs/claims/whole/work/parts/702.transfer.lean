/-! a message goes on -/
abbrev PB := (Nat → Nat → Nat) × (Nat → Nat → Bool)
def coP (m : Nat) : Nat → PB → PB
  | 0, p => p
  | i + 1, p => (mkN (coP m i p).1 2 m (i + 1), mkB (coP m i p).1 (coP m i p).2)
def goP (m t : Nat) (p : PB) : PB := if p.1 3 m = 2 then (mset (coP m (csN (p.1 2 m)) p).1 3 m 3, (coP m (csN (p.1 2 m)) p).2) else if p.1 3 m = 1 ∧ 1000 ≤ t - p.1 4 m then (mset p.1 3 m 4, mset p.2 2 0 true) else p
theorem co_r {m i j : Nat} (h : i ≠ 0 ∨ j ≠ 1) (h2 : ¬ (10 ≤ i ∧ i ≤ 12)) : ∀ k p, (coP m k p).1 i j = p.1 i j := by
  intro k
  induction k with
  | zero => intro p; rfl
  | succ k ih => intro p; exact (mk_r h h2).trans (ih p)
theorem co_F {m : Nat} : ∀ k p, (coP m k p).1 0 1 = p.1 0 1 + k := by
  intro k
  induction k with
  | zero => intro p; rfl
  | succ k ih =>
    intro p
    have := ih p
    show mkN (coP m k p).1 2 m (k + 1) 0 1 = p.1 0 1 + (k + 1)
    rw [mk_F, this]
    omega
theorem co_b {m i j : Nat} (h : i ≠ 1) : ∀ k p, (coP m k p).2 i j = p.2 i j := by
  intro k
  induction k with
  | zero => intro p; rfl
  | succ k ih => intro p; exact (mkB_r h).trans (ih p)
theorem co_W {m : Nat} : ∀ k p, TfW p.1 p.2 → 1 ≤ m → m ≤ p.1 0 0 → p.1 3 m ≠ 0 → 8 ≤ p.1 2 m → k ≤ csN (p.1 2 m) → TfW (coP m k p).1 (coP m k p).2 := by
  intro k
  induction k with
  | zero => intro p h _ _ _ _ _; exact h
  | succ k ih =>
    intro p h h1 h2 h3 h4 h5
    have := ih p h h1 h2 h3 h4 (by omega)
    have e2 : (coP m k p).1 2 m = p.1 2 m := co_r (by omega) (by omega) k p
    refine W_mk this ⟨by omega, h1, ?_, ?_, fun z => by omega, fun _ => ?_, fun _ => ⟨by omega, ?_⟩, fun z => absurd rfl z, fun z => by omega⟩
    · rw [co_r (by omega) (by omega)]; exact h2
    · rw [co_r (by omega) (by omega)]; exact h3
    · rw [e2]; exact h4
    · rw [e2]
      unfold csN at h5
      omega
theorem V_st {n : Nat → Nat → Nat} {b b' : Nat → Nat → Bool} {m st : Nat} (h : TfW n b) (hb : ∀ i j, i ≠ 2 → b' i j = b i j) (h1 : 1 ≤ m) (h2 : m ≤ n 0 0) (h3 : n 3 m ≠ 0) (hst : 3 ≤ st ∧ st ≤ 4) : TfW (mset n 3 m st) b' := by
  obtain ⟨⟨w1, w2, w3, w4⟩, w6, w7, w8⟩ := h
  have fo : ∀ i j, i ≠ 3 → mset n 3 m st i j = n i j := fun i j u => mset_n (by omega)
  have f3 : ∀ j, mset n 3 m st 3 j = if j = m then st else n 3 j := by
    intro j
    by_cases hq : j = m
    · rw [hq, mset_s, if_pos rfl]
    · rw [mset_j hq, if_neg hq]
  refine ⟨?_, ?_, ?_, ?_⟩
  · rw [fo 0 0 (by omega), fo 0 1 (by omega), fo 0 2 (by omega), fo 0 3 (by omega), fo 0 4 (by omega)]
    exact ⟨w1, w2, w3, w4⟩
  · intro j u1 u2
    rw [fo 0 0 (by omega)] at u2
    have := w6 j u1 u2
    rw [fo 1 j (by omega), fo 2 j (by omega), fo 0 3 (by omega), fo 0 4 (by omega), fo 4 j (by omega), f3, hb 3 j (by omega)]
    by_cases hq : j = m
    · subst hq
      rw [if_pos rfl]
      exact ⟨this.1, this.2.1, this.2.2.1, hst.2, this.2.2.2.2.1, fun z => by omega, fun _ => hst.1, fun _ => by omega⟩
    · rw [if_neg hq]
      exact this
  · intro r u
    rw [fo 5 r (by omega), fo 6 r (by omega), fo 7 r (by omega), fo 8 r (by omega), fo 9 r (by omega), fo 0 0 (by omega), fo 0 3 (by omega), fo 2 _ (by omega)]
    exact w7 r u
  · intro f u
    rw [fo 0 1 (by omega)] at u
    have := w8 f u
    rw [fo 10 f (by omega), fo 11 f (by omega), fo 12 f (by omega), fo 0 0 (by omega), fo 0 1 (by omega), fo 2 _ (by omega), f3, hb 1 f (by omega), hb 3 _ (by omega)]
    refine ⟨this.1, this.2.1, this.2.2.1, ?_, this.2.2.2.2.1, this.2.2.2.2.2.1, this.2.2.2.2.2.2.1, this.2.2.2.2.2.2.2.1, fun hk => ⟨(this.2.2.2.2.2.2.2.2 hk).1, fun f' v1 v2 v3 => ?_⟩⟩
    · split
      · omega
      · exact this.2.2.2.1
    · rw [fo 10 f' (by omega)] at v2
      rw [fo 11 f' (by omega)] at v3
      exact (this.2.2.2.2.2.2.2.2 hk).2 f' v1 v2 v3
theorem V_go {m t : Nat} {p : PB} (h : TfV p.1 p.2) (h1 : 1 ≤ m) (h2 : m ≤ p.1 0 0) : TfV (goP m t p).1 (goP m t p).2 := by
  obtain ⟨hW, hs⟩ := TfV_W.mp h
  have hm := hW.2.1 m h1 h2
  unfold goP
  by_cases a1 : p.1 3 m = 2
  · rw [if_pos a1]
    dsimp only
    have h8 : 8 ≤ p.1 2 m := hm.2.2.2.2.2.1 (Or.inr a1)
    have cW := co_W (csN (p.1 2 m)) p hW h1 h2 (by omega) h8 (Nat.le_refl _)
    have hK : (coP m (csN (p.1 2 m)) p).1 0 0 = p.1 0 0 := co_r (by omega) (by omega) _ p
    rw [TfV_W]
    refine ⟨V_st cW (fun _ _ _ => rfl) h1 (by rw [hK]; exact h2) (by rw [co_r (by omega) (by omega)]; omega) (by omega), ?_⟩
    rw [mset_n (by omega), mset_n (by omega), hK, co_F]
    have := su_1 (g := cbF p.1 p.2) (h := cbF (mset (coP m (csN (p.1 2 m)) p).1 3 m 3) (coP m (csN (p.1 2 m)) p).2) (j := m) (d := csN (p.1 2 m)) (p.1 0 0) h1 h2 (fun j u1 u2 u3 => ?_) ?_
    · omega
    · unfold cbF
      rw [mset_j u3, mset_n (show ¬ (2 = 3 ∧ j = m) by omega), co_r (by omega) (by omega), co_r (by omega) (by omega), co_b (by omega)]
    · unfold cbF
      rw [mset_s, mset_n (show ¬ (2 = 3 ∧ m = m) by omega), co_r (by omega) (by omega), co_b (by omega), a1]
      simp [h8]
  · rw [if_neg a1]
    by_cases a2 : p.1 3 m = 1 ∧ 1000 ≤ t - p.1 4 m
    · rw [if_pos a2]
      dsimp only
      rw [TfV_W]
      refine ⟨V_st hW (fun i j u => mset_n (by omega)) h1 h2 (by omega) (by omega), ?_⟩
      rw [mset_n (by omega), mset_n (by omega)]
      refine Nat.le_trans hs (su_le _ (fun j u1 u2 => ?_))
      unfold cbF
      rw [mset_n (show ¬ (2 = 3 ∧ j = m) by omega), mset_n (M := p.2) (show ¬ (3 = 2 ∧ j = 0) by omega)]
      by_cases hq : j = m
      · subst hq
        rw [mset_s, a2.1]
        simp
      · rw [mset_j hq]
        exact Nat.le_refl _
    · rw [if_neg a2]
      exact h
/-- the class: a message goes on -/
theorem TfC_st {A A' : mwM} {n : Nat → Nat → Nat} {b b' : Nat → Nat → Bool} {o : Nat → Nat → Nat} {m st : Nat} (h : TfC A n b o) (hK : n 0 0 ≤ 100) (hst : st ≠ 0) (h3 : n 3 m ≠ 0) (h159 : ∀ j, A' 159 j = if j = m then sI st else A 159 j) (h10 : A' 154 10 = bI (b' 2 0)) (hA : ∀ a y, a ≠ 159 → ¬ (a = 154 ∧ y = 10) → A' a y = A a y) (hb : ∀ i j, i ≠ 2 → b' i j = b i j) : TfC A' (mset n 3 m st) b' o := by
  obtain ⟨k1, k2, k3, k4⟩ := h
  have fo : ∀ i j, i ≠ 3 → mset n 3 m st i j = n i j := fun i j u => mset_n (by omega)
  refine ⟨?_, ?_, ?_, ?_⟩
  · rw [fo 0 0 (by omega), fo 0 1 (by omega), fo 0 2 (by omega), fo 0 3 (by omega), fo 0 4 (by omega), h10]
    simp (disch := omega) only [hA]
    exact ⟨k1.1, k1.2.1, k1.2.2.1, k1.2.2.2.1, k1.2.2.2.2.1, trivial⟩
  · intro j u1 u2
    rw [fo 0 0 (by omega)] at u2
    have := k2 j u1 u2
    rw [fo 1 j (by omega), fo 2 j (by omega), fo 4 j (by omega), h159, hb 0 j (by omega)]
    simp (disch := omega) only [hA]
    refine ⟨this.1, this.2.1, this.2.2.1, ?_, ?_, this.2.2.2.2.2⟩
    · by_cases hq : j = m
      · rw [if_pos hq, hq, mset_s]
      · rw [if_neg hq, mset_j hq]; exact this.2.2.2.1
    · intro z
      by_cases hq : j = m
      · rw [hq] at this ⊢
        exact this.2.2.2.2.1 h3
      · rw [mset_j hq] at z
        exact this.2.2.2.2.1 z
  · intro r u
    rw [fo 5 r (by omega), fo 6 r (by omega), fo 7 r (by omega), fo 8 r (by omega), fo 9 r (by omega)]
    simp (disch := omega) only [hA]
    exact k3 r u
  · intro f u
    rw [fo 0 1 (by omega)] at u
    rw [fo 10 f (by omega), fo 11 f (by omega), fo 12 f (by omega), hb 1 f (by omega)]
    simp (disch := omega) only [hA]
    exact k4 f u
theorem m7_le {l : Nat} (h : l ≤ 7) : sI l + (-7) ≤ 0 := by
  rcases (show l = 0 ∨ l = 1 ∨ l = 2 ∨ l = 3 ∨ l = 4 ∨ l = 5 ∨ l = 6 ∨ l = 7 by omega) with rfl | rfl | rfl | rfl | rfl | rfl | rfl | rfl <;> decide
theorem c_goOn9 {fu m t : Nat} {A : mwM} {L : mwL} {p : PB} {o : Nat → Nat → Nat} (hf : 20 ≤ fu) (hv : TfV p.1 p.2) (h : TfC A p.1 p.2 o) (h1 : 1 ≤ m) (h2 : m ≤ p.1 0 0) (ht : t ≤ 20000) (htc : p.1 0 3 ≤ t) : wq (DX9_goOn fu (sI m) (sI t) A L) (fun z => z.2 = L ∧ TfC z.1 (goP m t p).1 (goP m t p).2 o ∧ ∀ a y, ¬ (270 ≤ a ∧ a ≤ 273) → ¬ (a = 154 ∧ (y = 6 ∨ y = 10)) → a ≠ 159 → z.1 a y = A a y) := by
  have hK := hv.1.1
  have hm := hv.2.1 m h1 h2
  have vg := V_go (t := t) hv h1 h2
  obtain ⟨e156, e157, e158, e159, e160, _⟩ := h.2.1 m h1 h2
  unfold DX9_goOn fX9_goOn_b105
  have eg : goP m t p = if p.1 3 m = 2 then (mset (coP m (csN (p.1 2 m)) p).1 3 m 3, (coP m (csN (p.1 2 m)) p).2) else if p.1 3 m = 1 ∧ 1000 ≤ t - p.1 4 m then (mset p.1 3 m 4, mset p.2 2 0 true) else p := rfl
  rw [mck_s (by omega) (by omega), sI_nn (by omega), e159]
  by_cases a1 : p.1 3 m = 2
  · rw [if_pos a1] at eg
    rw [if_pos (by rw [a1]; rfl), mck_s (by omega) (by omega), e158]
    have h8 : 8 ≤ p.1 2 m := hm.2.2.2.2.2.1 (Or.inr a1)
    have cs14 := cs_le hm.2.2.1
    have hFt : (goP m t p).1 0 1 = p.1 0 1 + csN (p.1 2 m) := by
      rw [eg]
      dsimp only
      rw [mset_n (by omega), co_F]
    have hF := Tf_F vg
    rw [hFt] at hF
    simp only [mlet]
    rw [show sI (p.1 2 m) - 6 = sI (p.1 2 m - 6) from sI_sub (b := 6) (by omega)]
    -- the frames
    have key : ∀ (j i left f : Nat) (a : mwM), i + j = csN (p.1 2 m) → left = p.1 2 m - 6 - 7 * i → j < f → TfC a (coP m i p).1 (coP m i p).2 o → (∀ b y, ¬ (270 ≤ b ∧ b ≤ 273) → ¬ (b = 154 ∧ y = 6) → a b y = A b y) → ∀ lv : Int32, (if left = 0 then lv ≤ 0 else lv = sI left) → wq (fX9_goOn_h27 fu (sI m) (sI t) f (lv, sI (i + 1), a, L)) (fun z => z.2 = L ∧ TfC z.1 (goP m t p).1 (goP m t p).2 o ∧ ∀ a y, ¬ (270 ≤ a ∧ a ≤ 273) → ¬ (a = 154 ∧ (y = 6 ∨ y = 10)) → a ≠ 159 → z.1 a y = A a y) := by
      intro j
      induction j with
      | zero =>
        intro i left f a hi hl hf1 hr p1 lv hlv
        obtain ⟨g, rfl⟩ : ∃ g, f = g + 1 := ⟨f - 1, by omega⟩
        have hl0 : left = 0 := by
          unfold csN at hi
          omega
        rw [if_pos hl0] at hlv
        unfold fX9_goOn_h27
        rw [mloop_S]
        show wq (fX9_goOn_i27 fu (sI m) (sI t) (fX9_goOn_h27 fu (sI m) (sI t) g) lv (sI (i + 1)) a L) _
        unfold fX9_goOn_i27 fX9_goOn_b105
        rw [if_pos hlv, mck_s (by omega) (by omega)]
        simp only [mlet]
        rw [sI_nn (by omega)]
        have hi2 : i = csN (p.1 2 m) := by omega
        rw [hi2] at hr
        refine wq_some ⟨rfl, ?_, fun b y u1 u2 u3 => ?_⟩
        all_goals (try dsimp only)
        · rw [eg]
          dsimp only
          refine TfC_st hr ?_ (by omega) ?_ (fun j => ?_) ?_ (fun b y u1 u2 => mset_n (by omega)) (fun _ _ _ => rfl)
          · rw [co_r (by omega) (by omega)]; exact hK
          · rw [co_r (by omega) (by omega)]; omega
          · by_cases hq : j = m
            · rw [if_pos hq, hq, mset_s]; rfl
            · rw [if_neg hq, mset_j hq]
          · rw [mset_k (by omega)]; exact hr.1.2.2.2.2.2
        · rw [mset_n (by omega)]; exact p1 b y u1 (by omega)
      | succ j ih =>
        intro i left f a hi hl hf1 hr p1 lv hlv
        obtain ⟨g, rfl⟩ : ∃ g, f = g + 1 := ⟨f - 1, by omega⟩
        have hl0 : left ≠ 0 := by
          unfold csN at hi
          omega
        rw [if_neg hl0] at hlv
        unfold fX9_goOn_h27
        rw [mloop_S]
        show wq (fX9_goOn_i27 fu (sI m) (sI t) (fX9_goOn_h27 fu (sI m) (sI t) g) lv (sI (i + 1)) a L) _
        unfold fX9_goOn_i27
        rw [hlv, if_neg (by rw [sI_lel (by omega) (by decide)]; omega), show sI (i + 1) - sI (i + 1) / 16 * 16 = sI ((i + 1) % 16) from sI_mod (b := 16) (by omega) (by omega), Nat.mod_eq_of_lt (show i + 1 < 16 by omega)]
        have hKc : (coP m i p).1 0 0 = p.1 0 0 := co_r (by omega) (by omega) _ p
        have hFc : (coP m i p).1 0 1 = p.1 0 1 + i := co_F _ _
        refine wq_b2 (show wq (DX9_makeFrame fu 2 (sI m) (sI (i + 1)) a L) _ from c_makeFrame (kd := 2) hr (by rw [hKc]; exact hK) (by rw [hFc]; omega)) ?_
        rintro M1 L1 ⟨y1, y2, y3⟩
        dsimp only at y1 y2 y3
        subst y1
        simp only [mlet]
        rw [sI_1]
        refine ih (i + 1) (left - 7) g M1 (by omega) (by omega) (by omega) y2 (fun b y u1 u2 => (y3 b y u1 u2).trans (p1 b y u1 u2)) _ ?_
        by_cases h7 : left ≤ 7
        · rw [if_pos (by omega)]
          exact m7_le h7
        · rw [if_neg (by omega), show (-7 : Int32) = -sI 7 from by decide, ← Int32.sub_eq_add_neg, sI_sub (by omega)]
    exact key (csN (p.1 2 m)) 0 (p.1 2 m - 6) fu A (by omega) (by omega) (by omega) h (fun _ _ _ _ => rfl) _ (by rw [if_neg (by omega)])
  · rw [if_neg a1] at eg
    rw [if_neg (by rw [sI_eql (by omega) (by decide)]; exact a1), mck_s (by omega) (by omega)]
    by_cases a3 : p.1 3 m = 1
    · rw [if_pos (by rw [a3]; rfl), mck_s (by omega) (by omega), e160 (by omega), sI_sub (by omega)]
      by_cases a4 : 1000 ≤ t - p.1 4 m
      · rw [if_pos ⟨a3, a4⟩] at eg
        rw [if_neg (by rw [sI_ltl (by omega) (by decide)]; omega), mck_s (by omega) (by omega)]
        simp only [mlet]
        rw [eg]
        refine wq_some ⟨rfl, ?_, fun b y u1 u2 u3 => ?_⟩
        all_goals (try dsimp only)
        · refine TfC_st h hK (by omega) (by omega) (fun j => ?_) ?_ (fun b y u1 u2 => by rw [mset_n u2, mset_n (by omega)]) (fun i j u => mset_n (by omega))
          · rw [mset_n (by omega)]
            by_cases hq : j = m
            · rw [if_pos hq, hq, mset_s]; rfl
            · rw [if_neg hq, mset_j hq]
          · rw [mset_s, mset_s]; rfl
        · rw [mset_n (by omega), mset_n (by omega)]
      · rw [if_neg (fun z => a4 z.2)] at eg
        rw [if_pos (by rw [sI_ltl (by omega) (by decide)]; omega), eg]
        exact wq_some ⟨rfl, h, fun _ _ _ _ _ => rfl⟩
    · rw [if_neg (fun z => a3 z.1)] at eg
      rw [if_neg (by rw [sI_eql (by omega) (by decide)]; exact a3), eg]
      exact wq_some ⟨rfl, h, fun _ _ _ _ _ => rfl⟩
