/-! THE REFERENCE'S PACK: what is asked of it while it packs -/
def ex1 (p : Nat → Bool) : Nat → Bool
  | 0 => false
  | n + 1 => ex1 p n || p (n + 1)
theorem ex1_t {p : Nat → Bool} {n : Nat} : ex1 p n = true ↔ ∃ l, 1 ≤ l ∧ l ≤ n ∧ p l = true := by
  induction n with
  | zero => exact ⟨fun h => (by cases h), fun ⟨l, h1, h2, _⟩ => by omega⟩
  | succ n ih =>
    show (ex1 p n || p (n + 1)) = true ↔ _
    rw [Bool.or_eq_true, ih]
    constructor
    · rintro (⟨l, h1, h2, h3⟩ | h)
      · exact ⟨l, h1, by omega, h3⟩
      · exact ⟨n + 1, by omega, by omega, h⟩
    · rintro ⟨l, h1, h2, h3⟩
      by_cases e : l = n + 1
      · subst e; exact Or.inr h3
      · exact Or.inl ⟨l, h1, by omega, h3⟩
theorem ex1_f {p : Nat → Bool} {n : Nat} : ex1 p n = false ↔ ∀ l, 1 ≤ l → l ≤ n → p l = false := by
  constructor
  · intro h l h1 h2
    cases hp : p l with
    | false => rfl
    | true => rw [ex1_t.mpr ⟨l, h1, h2, hp⟩] at h; cases h
  · intro h
    cases hp : ex1 p n with
    | false => rfl
    | true =>
      obtain ⟨l, h1, h2, h3⟩ := ex1_t.mp hp
      rw [h l h1 h2] at h3; cases h3
abbrev PvM (M : mwM) (k n cap : Nat) (pl zl fr oc : Nat → Nat) : Prop := M k 1 = sI cap ∧ M k 2 = sI n ∧ n ≤ 40 ∧ cap ≤ 8 ∧ ∀ l, 1 ≤ l → l ≤ n → M (k + 5) l = sI l ∧ M (k + 2) l = sI (pl l) ∧ pl l ≤ 20000 ∧ M (k + 22) l = sI (zl l) ∧ 1 ≤ zl l ∧ zl l ≤ 8 ∧ M (k + 16) l = sI (fr l) ∧ fr l ≤ 64 ∧ M (k + 17) l = sI (oc l) ∧ oc l ≤ 8
theorem m_isGroup {fu k l : Nat} {M : mwM} {L : mwL} (h : M (k + 5) l = sI l) (hl : l < 129) : DX16_isGroup fu k (sI l) M L = some (1, M, L) := by
  unfold DX16_isGroup fX16_isGroup_b15
  rw [mck_s hl (by omega), sI_nn (by omega), h, if_pos rfl]
  rfl
theorem m_isUsed {fu k n cap f : Nat} {pl zl fr oc : Nat → Nat} {M : mwM} {L : mwL} (hfu : 50 ≤ fu) (h : PvM M k n cap pl zl fr oc) (hf : f ≤ 64) : DX16_isUsed fu k (sI f) M L = some (bI (ex1 (fun l => decide (fr l = f)) n), M, L) := by
  obtain ⟨h1, h2, h3, h4, h5⟩ := h
  unfold DX16_isUsed
  have key : ∀ (r l q : Nat), l + r = n → r < q → fX16_isUsed_h4 fu k (sI f) q (bI (ex1 (fun l => decide (fr l = f)) l), sI (l + 1), M, L) = some (bI (ex1 (fun l => decide (fr l = f)) n), M, L) := by
    intro r
    induction r with
    | zero =>
      intro l q hl hq
      obtain ⟨q', rfl⟩ : ∃ x, q = x + 1 := ⟨q - 1, by omega⟩
      have : l = n := by omega
      subst this
      show fX16_isUsed_i4 fu k (sI f) (fX16_isUsed_h4 fu k (sI f) q') (bI (ex1 (fun l => decide (fr l = f)) l)) (sI (l + 1)) M L = _
      unfold fX16_isUsed_i4
      rw [h2, if_pos (by rw [sI_lt (by omega) (by omega)]; omega)]
      unfold mzz
      rw [if_pos bI_z]
    | succ r ih =>
      intro l q hl hq
      obtain ⟨q', rfl⟩ : ∃ x, q = x + 1 := ⟨q - 1, by omega⟩
      obtain ⟨a1, a2, a3, a4, a5, a6, a7, a8, a9, a10⟩ := h5 (l + 1) (by omega) (by omega)
      show fX16_isUsed_i4 fu k (sI f) (fX16_isUsed_h4 fu k (sI f) q') (bI (ex1 (fun l => decide (fr l = f)) l)) (sI (l + 1)) M L = _
      unfold fX16_isUsed_i4 fX16_isUsed_b34 fX16_isUsed_b38 fX16_isUsed_b39
      rw [h2, if_neg (by rw [sI_lt (by omega) (by omega)]; omega), m_isGroup a1 (by omega), mb3_s, if_neg (show ¬ (1 : Int32) = 0 by decide), mck_s (by omega) (by omega), sI_nn (by omega), a7]
      simp only [mlet]
      rw [sI_1]
      have nx := ih (l + 1) q' (by omega) (by omega)
      have e : ex1 (fun l => decide (fr l = f)) (l + 1) = (ex1 (fun l => decide (fr l = f)) l || decide (fr (l + 1) = f)) := rfl
      rw [e] at nx
      cases hb : ex1 (fun l => decide (fr l = f)) l with
      | true =>
        rw [hb, Bool.true_or] at nx
        rw [bI_t, if_neg (show ¬ (1 : Int32) = 0 by decide)]
        exact nx
      | false =>
        rw [hb, Bool.false_or] at nx
        rw [bI_f, if_pos (show (0 : Int32) = 0 from rfl)]
        by_cases c : fr (l + 1) = f
        · rw [if_pos (by rw [c])]
          rw [decide_eq_true c] at nx
          exact nx
        · rw [if_neg (by rw [sI_eq (by omega) (by omega)]; exact c)]
          rw [decide_eq_false c] at nx
          exact nx
  exact key n 0 fu (by omega) (by omega)
theorem m_hasOther {fu k n cap f p : Nat} {pl zl fr oc : Nat → Nat} {M : mwM} {L : mwL} (hfu : 50 ≤ fu) (h : PvM M k n cap pl zl fr oc) (hf : f ≤ 64) (hp : p ≤ 20000) : DX16_hasOther fu k (sI f) (sI p) M L = some (bI (ex1 (fun l => decide (fr l = f ∧ pl l ≠ p)) n), M, L) := by
  obtain ⟨h1, h2, h3, h4, h5⟩ := h
  unfold DX16_hasOther
  have key : ∀ (r l q : Nat), l + r = n → r < q → fX16_hasOther_h5 fu k (sI f) (sI p) q (bI (ex1 (fun l => decide (fr l = f ∧ pl l ≠ p)) l), sI (l + 1), M, L) = some (bI (ex1 (fun l => decide (fr l = f ∧ pl l ≠ p)) n), M, L) := by
    intro r
    induction r with
    | zero =>
      intro l q hl hq
      obtain ⟨q', rfl⟩ : ∃ x, q = x + 1 := ⟨q - 1, by omega⟩
      have : l = n := by omega
      subst this
      show fX16_hasOther_i5 fu k (sI f) (sI p) (fX16_hasOther_h5 fu k (sI f) (sI p) q') (bI (ex1 (fun l => decide (fr l = f ∧ pl l ≠ p)) l)) (sI (l + 1)) M L = _
      unfold fX16_hasOther_i5
      rw [h2, if_pos (by rw [sI_lt (by omega) (by omega)]; omega)]
      unfold mzz
      rw [if_pos bI_z]
    | succ r ih =>
      intro l q hl hq
      obtain ⟨q', rfl⟩ : ∃ x, q = x + 1 := ⟨q - 1, by omega⟩
      obtain ⟨a1, a2, a3, a4, a5, a6, a7, a8, a9, a10⟩ := h5 (l + 1) (by omega) (by omega)
      show fX16_hasOther_i5 fu k (sI f) (sI p) (fX16_hasOther_h5 fu k (sI f) (sI p) q') (bI (ex1 (fun l => decide (fr l = f ∧ pl l ≠ p)) l)) (sI (l + 1)) M L = _
      unfold fX16_hasOther_i5 fX16_hasOther_b49 fX16_hasOther_b53 fX16_hasOther_b54
      rw [h2, if_neg (by rw [sI_lt (by omega) (by omega)]; omega), m_isGroup a1 (by omega), mb3_s, if_neg (show ¬ (1 : Int32) = 0 by decide), mck_s (by omega) (by omega), mck_s (by omega) (by omega), sI_nn (by omega), a7, a2]
      simp only [mlet]
      rw [sI_1]
      have nx := ih (l + 1) q' (by omega) (by omega)
      have e : ex1 (fun l => decide (fr l = f ∧ pl l ≠ p)) (l + 1) = (ex1 (fun l => decide (fr l = f ∧ pl l ≠ p)) l || decide (fr (l + 1) = f ∧ pl (l + 1) ≠ p)) := rfl
      rw [e] at nx
      cases hb : ex1 (fun l => decide (fr l = f ∧ pl l ≠ p)) l with
      | true =>
        rw [hb, Bool.true_or] at nx
        rw [bI_t, if_neg (show ¬ (1 : Int32) = 0 by decide)]
        exact nx
      | false =>
        rw [hb, Bool.false_or] at nx
        rw [bI_f, if_pos (show (0 : Int32) = 0 from rfl)]
        by_cases c : fr (l + 1) = f
        · rw [if_pos (by rw [c])]
          by_cases d : pl (l + 1) = p
          · rw [if_pos (by rw [d])]
            rw [decide_eq_false (fun w => w.2 d)] at nx
            exact nx
          · rw [if_neg (by rw [sI_eq (by omega) (by omega)]; exact d)]
            rw [decide_eq_true ⟨c, d⟩] at nx
            exact nx
        · rw [if_neg (by rw [sI_eq (by omega) (by omega)]; exact c)]
          rw [decide_eq_false (fun w => c w.1)] at nx
          exact nx
  exact key n 0 fu (by omega) (by omega)
def frP (fr oc zl : Nat → Nat) (f x nd : Nat) (l : Nat) : Bool := decide (fr l = f ∧ x < oc l + zl l ∧ oc l < x + nd)
theorem m_isFree {fu k n cap f x nd : Nat} {pl zl fr oc : Nat → Nat} {M : mwM} {L : mwL} (hfu : 50 ≤ fu) (h : PvM M k n cap pl zl fr oc) (hf : f ≤ 64) (hx : x ≤ 100) (hnd : nd ≤ 100) : DX16_isFree fu k (sI f) (sI x) (sI nd) M L = some (bI (decide (x + nd ≤ cap) && !ex1 (frP fr oc zl f x nd) n), M, L) := by
  obtain ⟨h1, h2, h3, h4, h5⟩ := h
  have z : ∀ (b : Bool), fX16_isFree_b99 fu k (sI f) (sI x) (sI nd) (bI b) M L = some (bI b, M, L) := by
    intro b
    unfold fX16_isFree_b99 mzz
    rw [if_pos bI_z]
  have key : ∀ (r l q : Nat), l + r = n → r < q → ex1 (frP fr oc zl f x nd) l = false → fX16_isFree_h20 fu k (sI f) (sI x) (sI nd) q (bI true, sI (l + 1), M, L) = some (bI (!ex1 (frP fr oc zl f x nd) n), M, L) := by
    intro r
    induction r with
    | zero =>
      intro l q hl hq hb
      obtain ⟨q', rfl⟩ : ∃ x, q = x + 1 := ⟨q - 1, by omega⟩
      have : l = n := by omega
      subst this
      show fX16_isFree_i20 fu k (sI f) (sI x) (sI nd) (fX16_isFree_h20 fu k (sI f) (sI x) (sI nd) q') (bI true) (sI (l + 1)) M L = _
      unfold fX16_isFree_i20
      rw [h2, if_pos (by rw [sI_lt (by omega) (by omega)]; omega), z, hb]
      rfl
    | succ r ih =>
      intro l q hl hq hb
      obtain ⟨q', rfl⟩ : ∃ x, q = x + 1 := ⟨q - 1, by omega⟩
      obtain ⟨a1, a2, a3, a4, a5, a6, a7, a8, a9, a10⟩ := h5 (l + 1) (by omega) (by omega)
      show fX16_isFree_i20 fu k (sI f) (sI x) (sI nd) (fX16_isFree_h20 fu k (sI f) (sI x) (sI nd) q') (bI true) (sI (l + 1)) M L = _
      have go : frP fr oc zl f x nd (l + 1) = false → fX16_isFree_b86 fu k (sI f) (sI x) (sI nd) (fX16_isFree_h20 fu k (sI f) (sI x) (sI nd) q') (sI (l + 1)) M L = some (bI (!ex1 (frP fr oc zl f x nd) n), M, L) := by
        intro w
        unfold fX16_isFree_b86 fX16_isFree_b91
        simp only [mlet]
        rw [sI_1]
        refine ih (l + 1) q' (by omega) (by omega) ?_
        show (ex1 (frP fr oc zl f x nd) l || frP fr oc zl f x nd (l + 1)) = false
        rw [hb, w]; rfl
      unfold fX16_isFree_i20
      rw [h2, if_neg (by rw [sI_lt (by omega) (by omega)]; omega), bI_t, if_neg (show ¬ (1 : Int32) = 0 by decide), m_isGroup a1 (by omega), mb3_s, if_neg (show ¬ (1 : Int32) = 0 by decide), mck_s (by omega) (by omega), mck_s (by omega) (by omega), mck_s (by omega) (by omega), mck_s (by omega) (by omega), sI_nn (by omega), a7, a9, a4, sI_add, sI_add]
      by_cases c : fr (l + 1) = f
      · rw [if_pos (by rw [c])]
        by_cases d : oc (l + 1) + zl (l + 1) ≤ x
        · rw [if_pos (by rw [sI_le (by omega) (by omega)]; exact d)]
          exact go (decide_eq_false (fun w => by omega))
        · rw [if_neg (by rw [sI_le (by omega) (by omega)]; exact d)]
          by_cases e : oc (l + 1) < x + nd
          · rw [if_pos (by rw [sI_lt (by omega) (by omega)]; exact e)]
            have ht : ex1 (frP fr oc zl f x nd) n = true := ex1_t.mpr ⟨l + 1, by omega, by omega, decide_eq_true ⟨c, by omega, e⟩⟩
            rw [ht]
            unfold fX16_isFree_b91
            simp only [mlet]
            rw [sI_1]
            obtain ⟨q2, rfl⟩ : ∃ x, q' = x + 1 := ⟨q' - 1, by omega⟩
            show fX16_isFree_i20 fu k (sI f) (sI x) (sI nd) (fX16_isFree_h20 fu k (sI f) (sI x) (sI nd) q2) (bI false) (sI (l + 1 + 1)) M L = _
            unfold fX16_isFree_i20
            rw [z, bI_f, if_pos (show (0 : Int32) = 0 from rfl)]
            split <;> rfl
          · rw [if_neg (by rw [sI_lt (by omega) (by omega)]; exact e)]
            exact go (decide_eq_false (fun w => e w.2.2))
      · rw [if_neg (by rw [sI_eq (by omega) (by omega)]; exact c)]
        exact go (decide_eq_false (fun w => c w.1))
  unfold DX16_isFree fX16_isFree_b15
  rw [h1, sI_add]
  by_cases c : x + nd ≤ cap
  · rw [if_neg (by rw [sI_lt (by omega) (by omega)]; omega), decide_eq_true c, Bool.true_and]
    exact key n 0 fu (by omega) (by omega) rfl
  · rw [if_pos (by rw [sI_lt (by omega) (by omega)]; omega), decide_eq_false c, Bool.false_and]
    obtain ⟨g, rfl⟩ : ∃ x, fu = x + 1 := ⟨fu - 1, by omega⟩
    show fX16_isFree_i20 (g + 1) k (sI f) (sI x) (sI nd) (fX16_isFree_h20 (g + 1) k (sI f) (sI x) (sI nd) g) (bI false) (sI 1) M L = _
    unfold fX16_isFree_i20
    rw [z, bI_f, if_pos (show (0 : Int32) = 0 from rfl)]
    split <;> rfl
