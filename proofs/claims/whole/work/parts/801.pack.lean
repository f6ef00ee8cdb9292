/-- frame f holds octets 0 to fill - 1, without a gap -/
def Cov (fr oc zl : Nat → Nat) (n f fill : Nat) : Prop := (∀ l, 1 ≤ l → l ≤ n → fr l = f → oc l + zl l ≤ fill) ∧ ∀ x, x < fill → ∃ l, 1 ≤ l ∧ l ≤ n ∧ fr l = f ∧ oc l ≤ x ∧ x < oc l + zl l
theorem m_room {fu k n cap f nd fill : Nat} {pl zl fr oc : Nat → Nat} {M : mwM} {L : mwL} (hfu : 50 ≤ fu) (h : PvM M k n cap pl zl fr oc) (hf : f ≤ 64) (hn1 : 1 ≤ nd) (hnd : nd ≤ 8) (hfl : fill ≤ 8) (hc : Cov fr oc zl n f fill) : DX16_room fu k (sI f) (sI nd) M L = some (if fill + nd ≤ cap then sI fill else -1, M, L) := by
  have hP := h
  obtain ⟨h1, h2, h3, h4, h5⟩ := h
  obtain ⟨c1, c2⟩ := hc
  have nn1 : ¬ (-1 : Int32) = 0 := by decide
  -- where a place is asked for
  have free : ∀ e, e ≤ fill → DX16_isFree fu k (sI f) (sI e) (sI nd) M L = some (bI (decide (e = fill ∧ fill + nd ≤ cap)), M, L) := by
    intro e he
    rw [m_isFree hfu hP hf (by omega) (by omega)]
    congr 2
    by_cases q : e = fill
    · subst q
      have : ex1 (frP fr oc zl f e nd) n = false := ex1_f.mpr (fun l l1 l2 => decide_eq_false (fun w => by have := c1 l l1 l2 w.1; omega))
      rw [this]
      by_cases r : e + nd ≤ cap
      · rw [decide_eq_true r, decide_eq_true (⟨rfl, r⟩ : e = e ∧ e + nd ≤ cap)]; rfl
      · rw [decide_eq_false r, decide_eq_false (fun w => r w.2)]; rfl
    · obtain ⟨l, l1, l2, l3, l4, l5⟩ := c2 e (by omega)
      have : ex1 (frP fr oc zl f e nd) n = true := ex1_t.mpr ⟨l, l1, l2, decide_eq_true ⟨l3, l5, by omega⟩⟩
      have d0 : decide (e = fill ∧ fill + nd ≤ cap) = false := decide_eq_false (fun w => q w.1)
      rw [this, d0]
      cases decide (e + nd ≤ cap) <;> rfl
  have loop : ∀ (r l q : Nat) (v : Int32), l + r = n → r < q → (v = -1 ∧ (fill + nd ≤ cap → ∀ x, 1 ≤ x → x ≤ l → fr x = f → oc x + zl x ≠ fill) ∨ v = sI fill ∧ fill + nd ≤ cap ∧ 0 < fill) → (fill = 0 → v = -1 → cap < nd) → fX16_room_h19 fu k (sI f) (sI nd) q (v, sI (l + 1), M, L) = some (if fill + nd ≤ cap then sI fill else -1, M, L) := by
    intro r
    induction r with
    | zero =>
      intro l q v hl hq hv h0
      obtain ⟨q', rfl⟩ : ∃ x, q = x + 1 := ⟨q - 1, by omega⟩
      have : l = n := by omega
      subst this
      show fX16_room_i19 fu k (sI f) (sI nd) (fX16_room_h19 fu k (sI f) (sI nd) q') v (sI (l + 1)) M L = _
      unfold fX16_room_i19 fX16_room_b103
      rw [h2, if_pos (by rw [sI_lt (by omega) (by omega)]; omega)]
      rcases hv with ⟨v1, v2⟩ | ⟨v1, v2, v3⟩
      · rw [if_neg (by
          intro w
          by_cases z : fill = 0
          · have := h0 z v1; omega
          · obtain ⟨x, x1, x2, x3, x4, x5⟩ := c2 (fill - 1) (by omega)
            have a := c1 x x1 x2 x3
            exact v2 w x x1 x2 x3 (by omega)), v1]
      · rw [if_pos v2, v1]
    | succ r ih =>
      intro l q v hl hq hv h0
      obtain ⟨q', rfl⟩ : ∃ x, q = x + 1 := ⟨q - 1, by omega⟩
      obtain ⟨a1, a2, a3, a4, a5, a6, a7, a8, a9, a10⟩ := h5 (l + 1) (by omega) (by omega)
      show fX16_room_i19 fu k (sI f) (sI nd) (fX16_room_h19 fu k (sI f) (sI nd) q') v (sI (l + 1)) M L = _
      have hv0 : ¬ v = 0 := by
        rcases hv with ⟨v1, v2⟩ | ⟨v1, v2, v3⟩
        · rw [v1]; exact nn1
        · rw [v1, sI_eql (by omega) (by decide)]; omega
      have go : ∀ w : Int32, (w = -1 ∧ (fill + nd ≤ cap → ∀ x, 1 ≤ x → x ≤ l + 1 → fr x = f → oc x + zl x ≠ fill) ∨ w = sI fill ∧ fill + nd ≤ cap ∧ 0 < fill) → (fill = 0 → w = -1 → cap < nd) → fX16_room_b97 fu k (sI f) (sI nd) (fX16_room_h19 fu k (sI f) (sI nd) q') w (sI (l + 1)) M L = some (if fill + nd ≤ cap then sI fill else -1, M, L) := by
        intro w hw hw0
        unfold fX16_room_b97
        simp only [mlet]
        rw [sI_1]
        exact ih (l + 1) q' w (by omega) (by omega) hw hw0
      unfold fX16_room_i19
      rw [h2, if_neg (by rw [sI_lt (by omega) (by omega)]; omega), if_neg hv0, m_isGroup a1 (by omega), mb3_s, if_neg (show ¬ (1 : Int32) = 0 by decide), mck_s (by omega) (by omega), mck_s (by omega) (by omega), mck_s (by omega) (by omega), sI_nn (by omega), a7, a9, a4, sI_add]
      simp only [mlet]
      by_cases c : fr (l + 1) = f
      · have ce := c1 (l + 1) (by omega) (by omega) c
        rw [if_pos (by rw [c]), free _ ce, mb3_s]
        unfold fX16_room_b95 fX16_room_b90 fX16_room_b96
        by_cases d : oc (l + 1) + zl (l + 1) = fill ∧ fill + nd ≤ cap
        · rw [decide_eq_true d, bI_t, if_neg (show ¬ (1 : Int32) = 0 by decide), d.1]
          rcases hv with ⟨v1, v2⟩ | ⟨v1, v2, v3⟩
          · rw [v1, if_pos (by decide)]
            exact go (sI fill) (Or.inr ⟨rfl, d.2, by omega⟩) (fun z => by omega)
          · rw [v1, if_neg (by rw [sI_ltl (by omega) (by decide)]; omega), if_pos (by rw [sI_le (by omega) (by omega)]; omega)]
            exact go (sI fill) (Or.inr ⟨rfl, v2, v3⟩) (fun z => by omega)
        · rw [decide_eq_false d, bI_f, if_pos (show (0 : Int32) = 0 from rfl)]
          refine go v ?_ h0
          rcases hv with ⟨v1, v2⟩ | ⟨v1, v2, v3⟩
          · refine Or.inl ⟨v1, fun w x x1 x2 x3 => ?_⟩
            by_cases e : x = l + 1
            · subst e; exact fun z => d ⟨z, w⟩
            · exact v2 w x x1 (by omega) x3
          · exact Or.inr ⟨v1, v2, v3⟩
      · rw [if_neg (by rw [sI_eq (by omega) (by omega)]; exact c)]
        refine go v ?_ h0
        rcases hv with ⟨v1, v2⟩ | ⟨v1, v2, v3⟩
        · refine Or.inl ⟨v1, fun w x x1 x2 x3 => ?_⟩
          by_cases e : x = l + 1
          · subst e; exact absurd x3 c
          · exact v2 w x x1 (by omega) x3
        · exact Or.inr ⟨v1, v2, v3⟩
  have f0 := free 0 (by omega)
  have e0 : sI 0 = 0 := rfl
  rw [e0] at f0
  unfold DX16_room fX16_room_b15
  rw [f0, mb3_s]
  by_cases z : fill = 0
  · subst z
    by_cases w : 0 + nd ≤ cap
    · rw [decide_eq_true (⟨rfl, w⟩ : 0 = 0 ∧ 0 + nd ≤ cap), bI_t, if_neg (show ¬ (1 : Int32) = 0 by decide), if_pos w]
      obtain ⟨g, rfl⟩ : ∃ x, fu = x + 1 := ⟨fu - 1, by omega⟩
      show fX16_room_i19 (g + 1) k (sI f) (sI nd) (fX16_room_h19 (g + 1) k (sI f) (sI nd) g) 0 (sI 1) M L = _
      unfold fX16_room_i19 fX16_room_b103
      rw [if_pos (show (0 : Int32) = 0 from rfl)]
      split <;> rfl
    · rw [decide_eq_false (fun q => w q.2), bI_f, if_pos (show (0 : Int32) = 0 from rfl)]
      exact loop n 0 fu (-1) (by omega) (by omega) (Or.inl ⟨rfl, fun q => absurd q w⟩) (fun _ _ => by omega)
  · rw [decide_eq_false (fun q => z q.1.symm), bI_f, if_pos (show (0 : Int32) = 0 from rfl)]
    exact loop n 0 fu (-1) (by omega) (by omega) (Or.inl ⟨rfl, fun _ x x1 x2 => by omega⟩) (fun q => absurd q z)
theorem m_newFrame {fu k n cap F : Nat} {pl zl fr oc : Nat → Nat} {M : mwM} {L : mwL} (hfu : 70 ≤ fu) (h : PvM M k n cap pl zl fr oc) (h1 : 1 ≤ F) (hF : F ≤ 64) (hu : ∀ f, 1 ≤ f → f < F → ∃ l, 1 ≤ l ∧ l ≤ n ∧ fr l = f) (hn : ∀ l, 1 ≤ l → l ≤ n → fr l ≠ F) : DX16_newFrame fu k M L = some (sI F, M, L) := by
  unfold DX16_newFrame
  have key : ∀ (r f q : Nat), f + r = F → r < q → 1 ≤ f → fX16_newFrame_h2 fu k q (sI f, M, L) = some (sI F, M, L) := by
    intro r
    induction r with
    | zero =>
      intro f q hf hq h0
      obtain ⟨q', rfl⟩ : ∃ x, q = x + 1 := ⟨q - 1, by omega⟩
      have : f = F := by omega
      subst this
      show fX16_newFrame_i2 fu k (fX16_newFrame_h2 fu k q') (sI f) M L = _
      unfold fX16_newFrame_i2 fX16_newFrame_b22
      have e : ex1 (fun l => decide (fr l = f)) n = false := ex1_f.mpr (fun l l1 l2 => decide_eq_false (hn l l1 l2))
      rw [if_neg (by rw [sI_lle (by decide) (by omega)]; omega), m_isUsed (by omega) h hF, mb3_s, e, bI_f, if_pos (show (0 : Int32) = 0 from rfl)]
    | succ r ih =>
      intro f q hf hq h0
      obtain ⟨q', rfl⟩ : ∃ x, q = x + 1 := ⟨q - 1, by omega⟩
      show fX16_newFrame_i2 fu k (fX16_newFrame_h2 fu k q') (sI f) M L = _
      unfold fX16_newFrame_i2
      obtain ⟨l, l1, l2, l3⟩ := hu f h0 (by omega)
      have e : ex1 (fun l => decide (fr l = f)) n = true := ex1_t.mpr ⟨l, l1, l2, decide_eq_true l3⟩
      rw [if_neg (by rw [sI_lle (by decide) (by omega)]; omega), m_isUsed (by omega) h (by omega), mb3_s, e, bI_t, if_neg (show ¬ (1 : Int32) = 0 by decide)]
      simp only [mlet]
      rw [sI_1]
      exact ih (f + 1) q' (by omega) (by omega) (by omega)
  exact key (F - 1) 1 fu (by omega) (by omega) (by omega)
