/-! a frame reaches its aim -/
def reB (r : Nat) (p : PB) : Nat → Nat → Bool := if p.1 5 r = 1 then mset p.2 2 0 true else p.2
def fsN (m : Nat) (n : Nat → Nat → Nat) : Nat → Nat → Nat := mset (mset (mset (mset (mset n 5 (m % 4) 1) 6 (m % 4) m) 7 (m % 4) 6) 8 (m % 4) 1) 9 (m % 4) (n 0 3)
def fsP (m : Nat) (p : PB) : PB := (mkN (fsN m p.1) 3 m 0, mkB (fsN m p.1) (mset (reB (m % 4) p) 3 m true))
def gtN (r sq : Nat) (n : Nat → Nat → Nat) : Nat → Nat → Nat := mset (mset (mset n 7 r (n 7 r + 7)) 8 r (sq + 1)) 9 r (n 0 3)
def nxQ (m sq : Nat) (p : PB) : PB × Nat :=
  if p.1 5 (m % 4) = 1 ∧ p.1 6 (m % 4) = m then
    (if p.1 8 (m % 4) = sq then
      (if p.1 7 (m % 4) + 7 < p.1 2 m then ((gtN (m % 4) sq p.1, p.2), 0) else ((mset p.1 5 (m % 4) 2, p.2), m))
    else ((mset p.1 5 (m % 4) 3, mset p.2 2 0 true), 0))
  else (p, 0)
def rvQ (f : Nat) (p : PB) : PB × Nat :=
  if p.1 10 f = 3 then ((if p.1 3 (p.1 11 f) = 1 then (mset p.1 3 (p.1 11 f) 2, p.2) else p), 0)
  else if p.1 10 f = 2 then nxQ (p.1 11 f) (p.1 12 f) p
  else if p.1 10 f = 0 then ((mset p.1 5 (p.1 11 f % 4) 2, reB (p.1 11 f % 4) p), p.1 11 f)
  else (fsP (p.1 11 f) p, 0)
abbrev RvV (n : Nat → Nat → Nat) (r : Nat) : Prop := n 5 r ≤ 3 ∧ (n 5 r = 1 → 1 ≤ n 6 r ∧ n 6 r ≤ n 0 0 ∧ n 6 r % 4 = r ∧ 1 ≤ n 8 r ∧ n 8 r ≤ 15 ∧ n 7 r = 6 + 7 * (n 8 r - 1) ∧ n 7 r < n 2 (n 6 r) ∧ n 9 r ≤ n 0 3)
/-- what holds stays, where receivers, states and flags change -/
theorem W_ch {n n' : Nat → Nat → Nat} {b b' : Nat → Nat → Bool} (h : TfW n b) (h0 : ∀ i j, i ≠ 3 → ¬ (5 ≤ i ∧ i ≤ 9) → n' i j = n i j) (h3 : ∀ j, n' 3 j = n 3 j ∨ (n 3 j = 1 ∧ n' 3 j = 2)) (hr : ∀ r, r < 4 → RvV n' r) (hb3 : ∀ j, 1 ≤ j → j ≤ n 0 0 → b' 3 j = true → n 3 j ≠ 0) (hbf : ∀ f, f < n 0 1 → n 10 f = 1 → b' 1 f = false → b' 3 (n 11 f) = false) : TfW n' b' := by
  obtain ⟨⟨w1, w2, w3, w4⟩, w6, w7, w8⟩ := h
  refine ⟨?_, ?_, hr, ?_⟩
  · rw [h0 0 0 (by omega) (by omega), h0 0 1 (by omega) (by omega), h0 0 2 (by omega) (by omega), h0 0 3 (by omega) (by omega), h0 0 4 (by omega) (by omega)]
    exact ⟨w1, w2, w3, w4⟩
  · intro m u1 u2
    rw [h0 0 0 (by omega) (by omega)] at u2
    have := w6 m u1 u2
    have c3 := h3 m
    rw [h0 1 m (by omega) (by omega), h0 2 m (by omega) (by omega), h0 4 m (by omega) (by omega), h0 0 3 (by omega) (by omega), h0 0 4 (by omega) (by omega)]
    refine ⟨this.1, this.2.1, this.2.2.1, by omega, this.2.2.2.2.1, fun z => this.2.2.2.2.2.1 (by omega), fun z => ?_, fun z => ?_⟩
    · have := this.2.2.2.2.2.2.1 z
      omega
    · have := hb3 m u1 u2 z
      omega
  · intro f u
    rw [h0 0 1 (by omega) (by omega)] at u
    have := w8 f u
    have c3 := h3 (n 11 f)
    rw [h0 10 f (by omega) (by omega), h0 11 f (by omega) (by omega), h0 12 f (by omega) (by omega), h0 0 0 (by omega) (by omega), h0 0 1 (by omega) (by omega), h0 2 _ (by omega) (by omega)]
    refine ⟨this.1, this.2.1, this.2.2.1, by have := this.2.2.2.1; omega, this.2.2.2.2.1, this.2.2.2.2.2.1, this.2.2.2.2.2.2.1, this.2.2.2.2.2.2.2.1, fun hk => ⟨hbf f u hk, fun f' v1 v2 v3 => ?_⟩⟩
    rw [h0 10 f' (by omega) (by omega)] at v2
    rw [h0 11 f' (by omega) (by omega)] at v3
    exact (this.2.2.2.2.2.2.2.2 hk).2 f' v1 v2 v3
theorem cb_ch {n n' : Nat → Nat → Nat} {b b' : Nat → Nat → Bool} {m : Nat} (h2 : n' 2 m = n 2 m) (h3 : n' 3 m = n 3 m ∨ (n 3 m = 1 ∧ n' 3 m = 2)) (hb : b' 3 m = b 3 m) : cbF n' b' m = cbF n b m := by
  unfold cbF
  rw [h2, hb]
  rcases h3 with e | ⟨e1, e2⟩
  · rw [e]
  · rw [e1, e2]
    simp
theorem V_ch {n n' : Nat → Nat → Nat} {b b' : Nat → Nat → Bool} (h : TfV n b) (h0 : ∀ i j, i ≠ 3 → ¬ (5 ≤ i ∧ i ≤ 9) → n' i j = n i j) (h3 : ∀ j, n' 3 j = n 3 j ∨ (n 3 j = 1 ∧ n' 3 j = 2)) (hr : ∀ r, r < 4 → RvV n' r) (hb3 : ∀ j, b' 3 j = b 3 j) (hb1 : ∀ f, b' 1 f = false → b 1 f = false) : TfV n' b' := by
  obtain ⟨hW, hs⟩ := TfV_W.mp h
  rw [TfV_W]
  refine ⟨W_ch hW h0 h3 hr (fun j u1 u2 z => ?_) (fun f u v w => ?_), ?_⟩
  · rw [hb3] at z
    exact (hW.2.1 j u1 u2).2.2.2.2.2.2.2 z
  · rw [hb3]
    exact ((hW.2.2.2 f u).2.2.2.2.2.2.2.2 v).1 (hb1 f w)
  · rw [h0 0 0 (by omega) (by omega), h0 0 1 (by omega) (by omega)]
    refine Nat.le_trans hs (su_le _ (fun m _ _ => ?_))
    rw [cb_ch (h0 2 m (by omega) (by omega)) (h3 m) (hb3 m)]
    exact Nat.le_refl _
theorem V_gone {p : PB} {f : Nat} (h : TfV p.1 p.2) : TfV p.1 (mset p.2 1 f true) := by
  refine V_ch h (fun _ _ _ _ => rfl) (fun _ => Or.inl rfl) h.2.2.1 (fun j => mset_n (by omega)) (fun g z => ?_)
  by_cases hq : g = f
  · rw [hq, mset_s] at z
    cases z
  · rw [mset_j hq] at z
    exact z
theorem re_b {r i j : Nat} {p : PB} (h : i ≠ 2) : reB r p i j = p.2 i j := by
  unfold reB
  split
  · exact mset_n (by omega)
  · rfl
/-- one receiver changes -/
theorem rv_1 {n n' : Nat → Nat → Nat} {r : Nat} (h : ∀ x, x < 4 → RvV n x) (h0 : ∀ i j, ¬ (5 ≤ i ∧ i ≤ 9 ∧ j = r) → n' i j = n i j) (h1 : RvV n' r) : ∀ x, x < 4 → RvV n' x := by
  intro x u
  by_cases hq : x = r
  · rw [hq]; exact h1
  · unfold RvV
    rw [h0 5 x (by omega), h0 6 x (by omega), h0 7 x (by omega), h0 8 x (by omega), h0 9 x (by omega), h0 0 0 (by omega), h0 0 3 (by omega), h0 2 _ (by omega)]
    exact h x u
theorem V_rv {f : Nat} {p : PB} (h : TfV p.1 p.2) (hf : f < p.1 0 1) (hg : p.1 10 f = 1 → p.2 3 (p.1 11 f) = false ∧ p.2 1 f = true) : TfV (rvQ f p).1.1 (rvQ f p).1.2 := by
  have hF := h.2.2.2 f hf
  have hR := h.2.2.1
  generalize hm : p.1 11 f = m at *
  have hr4 : m % 4 < 4 := Nat.mod_lt _ (by omega)
  have hM := h.2.1 m hF.2.1 hF.2.2.1
  have cs : ∀ j, mset p.1 5 (m % 4) j 5 (m % 4) = j := fun j => mset_s
  unfold rvQ nxQ
  rw [hm]
  by_cases k3 : p.1 10 f = 3
  · rw [if_pos k3]
    dsimp only
    by_cases a1 : p.1 3 m = 1
    · rw [if_pos a1]
      refine V_ch h (fun i j u _ => mset_n (by omega)) (fun j => ?_) (fun r u => ?_) (fun _ => rfl) (fun _ z => z)
      · dsimp only
        by_cases hq : j = m
        · rw [hq, mset_s]; exact Or.inr ⟨a1, rfl⟩
        · rw [mset_j hq]; exact Or.inl rfl
      · unfold RvV
        simp (disch := omega) only [mset_n]
        exact hR r u
    · rw [if_neg a1]; exact h
  · rw [if_neg k3]
    by_cases k2 : p.1 10 f = 2
    · rw [if_pos k2]
      by_cases a1 : p.1 5 (m % 4) = 1 ∧ p.1 6 (m % 4) = m
      · rw [if_pos a1]
        have hr := (hR (m % 4) hr4).2 a1.1
        by_cases a2 : p.1 8 (m % 4) = p.1 12 f
        · rw [if_pos a2]
          by_cases a3 : p.1 7 (m % 4) + 7 < p.1 2 m
          · rw [if_pos a3]
            dsimp only
            refine V_ch h (fun i j u v => ?_) (fun j => ?_) (rv_1 (r := m % 4) hR (fun i j u => ?_) ?_) (fun _ => rfl) (fun _ z => z)
            · unfold gtN
              rw [mset_n (by omega), mset_n (by omega), mset_n (by omega)]
            · unfold gtN
              rw [mset_n (by omega), mset_n (by omega), mset_n (by omega)]
              exact Or.inl rfl
            · unfold gtN
              rw [mset_n (by omega), mset_n (by omega), mset_n (by omega)]
            · unfold RvV gtN
              simp (disch := omega) only [mset_n, mset_s]
              refine ⟨(hR _ hr4).1, fun _ => ⟨hr.1, hr.2.1, hr.2.2.1, by omega, ?_, ?_, ?_, Nat.le_refl _⟩⟩
              · have := hM.2.2.1
                omega
              · omega
              · rw [a1.2]; exact a3
          · rw [if_neg a3]
            dsimp only
            refine V_ch h (fun i j u v => mset_n (by omega)) (fun j => Or.inl (mset_n (by omega))) (rv_1 (r := m % 4) hR (fun i j u => mset_n (by omega)) ?_) (fun _ => rfl) (fun _ z => z)
            refine ⟨by rw [cs]; omega, fun z => ?_⟩
            rw [cs] at z
            omega
        · rw [if_neg a2]
          dsimp only
          refine V_ch h (fun i j u v => mset_n (by omega)) (fun j => Or.inl (mset_n (by omega))) (rv_1 (r := m % 4) hR (fun i j u => mset_n (by omega)) ?_) (fun j => mset_n (by omega)) (fun g z => ?_)
          · refine ⟨by rw [cs]; omega, fun z => ?_⟩
            rw [cs] at z
            omega
          · rw [mset_n (by omega)] at z
            exact z
      · rw [if_neg a1]; exact h
    · rw [if_neg k2]
      by_cases k0 : p.1 10 f = 0
      · rw [if_pos k0]
        dsimp only
        refine V_ch h (fun i j u v => mset_n (by omega)) (fun j => Or.inl (mset_n (by omega))) (rv_1 (r := m % 4) hR (fun i j u => mset_n (by omega)) ?_) (fun j => re_b (by omega)) (fun g z => ?_)
        · refine ⟨by rw [cs]; omega, fun z => ?_⟩
          rw [cs] at z
          omega
        · rw [re_b (by omega)] at z
          exact z
      · rw [if_neg k0]
        have k1 : p.1 10 f = 1 := by omega
        obtain ⟨g1, g2⟩ := hg k1
        dsimp only
        obtain ⟨hW, hs⟩ := TfV_W.mp h
        have fo : ∀ i j, ¬ (5 ≤ i ∧ i ≤ 9 ∧ j = m % 4) → fsN m p.1 i j = p.1 i j := by
          intro i j u
          unfold fsN
          rw [mset_n (by omega), mset_n (by omega), mset_n (by omega), mset_n (by omega), mset_n (by omega)]
        have hRm : RvV (fsN m p.1) (m % 4) := by
          unfold RvV fsN
          simp (disch := omega) only [mset_n, mset_s]
          have := hF.2.2.2.2.2.1 (by omega)
          exact ⟨by omega, fun _ => ⟨hF.2.1, hF.2.2.1, trivial, by omega, by omega, by omega, by omega, Nat.le_refl _⟩⟩
        have eb : ∀ j, mset (reB (m % 4) p) 3 m true 3 j = if j = m then true else p.2 3 j := by
          intro j
          by_cases hq : j = m
          · rw [hq, mset_s, if_pos rfl]
          · rw [mset_j hq, if_neg hq, re_b (by omega)]
        have e1 : ∀ j, mset (reB (m % 4) p) 3 m true 1 j = p.2 1 j := fun j => by rw [mset_n (by omega), re_b (by omega)]
        have W1 : TfW (fsN m p.1) (mset (reB (m % 4) p) 3 m true) := by
          refine W_ch hW (fun i j u v => fo i j (by omega)) (fun j => Or.inl (fo 3 j (by omega))) (rv_1 (r := m % 4) hR fo hRm) (fun j u1 u2 z => ?_) (fun g u v w => ?_)
          · rw [eb] at z
            by_cases hq : j = m
            · rw [hq]; exact hF.2.2.2.1
            · rw [if_neg hq] at z
              exact (hW.2.1 j u1 u2).2.2.2.2.2.2.2 z
          · rw [e1] at w
            rw [eb]
            by_cases hq : p.1 11 g = m
            · have := (hF.2.2.2.2.2.2.2.2 k1).2 g u v hq
              rw [this, g2] at w
              cases w
            · rw [if_neg hq]
              exact ((hW.2.2.2 g u).2.2.2.2.2.2.2.2 v).1 w
        have hFr : FrV (fsN m p.1) (mset (reB (m % 4) p) 3 m true) 3 m 0 := by
          refine ⟨by omega, hF.2.1, ?_, ?_, fun z => by omega, fun _ => ?_, fun z => by omega, fun _ => rfl, fun z => by omega⟩
          · rw [fo 0 0 (by omega)]; exact hF.2.2.1
          · rw [fo 3 m (by omega)]; exact hF.2.2.2.1
          · rw [fo 2 m (by omega)]; exact hF.2.2.2.2.2.1 (by omega)
        rw [TfV_W]
        refine ⟨W_mk W1 hFr, ?_⟩
        have hn : ∀ i j, i ≠ 0 → ¬ (10 ≤ i ∧ i ≤ 12) → mkN (fsN m p.1) 3 m 0 i j = fsN m p.1 i j := fun i j u v => mk_r (by omega) v
        unfold fsP
        dsimp only
        rw [mk_F, mk_r (by omega) (by omega), fo 0 0 (by omega), fo 0 1 (by omega)]
        have := su_1 (g := cbF p.1 p.2) (h := cbF (mkN (fsN m p.1) 3 m 0) (mkB (fsN m p.1) (mset (reB (m % 4) p) 3 m true))) (j := m) (d := 1) (p.1 0 0) hF.2.1 hF.2.2.1 (fun j u1 u2 u3 => ?_) ?_
        · omega
        · unfold cbF
          rw [hn 3 j (by omega) (by omega), hn 2 j (by omega) (by omega), fo 3 j (by omega), fo 2 j (by omega), mkB_r (by omega), eb, if_neg u3]
        · unfold cbF
          rw [hn 3 m (by omega) (by omega), hn 2 m (by omega) (by omega), fo 3 m (by omega), fo 2 m (by omega), mkB_r (by omega), eb, if_pos rfl, g1]
          have := hF.2.2.2.1
          simp
          omega
