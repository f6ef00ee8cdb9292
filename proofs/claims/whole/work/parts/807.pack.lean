/-! the reference: one period -/
theorem cnt_cg {p q : Nat → Bool} {n : Nat} (h : ∀ i, i < n → p i = q i) : cnt p n = cnt q n := by
  induction n with
  | zero => rfl
  | succ n ih =>
    show cnt p n + (if p n then 1 else 0) = cnt q n + (if q n then 1 else 0)
    rw [ih (fun i hi => h i (by omega)), h n (by omega)]
theorem cnt_or {a b c : Nat → Bool} {n : Nat} (h : ∀ i, i < n → a i = (b i || c i) ∧ (b i && c i) = false) : cnt a n = cnt b n + cnt c n := by
  induction n with
  | zero => rfl
  | succ n ih =>
    show cnt a n + (if a n then 1 else 0) = (cnt b n + (if b n then 1 else 0)) + (cnt c n + (if c n then 1 else 0))
    rw [ih (fun i hi => h i (by omega))]
    obtain ⟨h1, h2⟩ := h n (by omega)
    rw [h1]
    cases hb : b n <;> cases hc : c n
    · simp
    · simp; omega
    · simp; omega
    · rw [hb, hc] at h2; cases h2
theorem Srt_cnt {P : Nat → Bool} {zs : Nat → Nat} : ∀ (S m : Nat) (g : Nat → Nat), Srt P zs S m g → cnt P S = m := by
  intro S
  induction S with
  | zero =>
    intro m g h
    apply Nat.le_antisymm (Nat.zero_le _)
    apply Nat.le_of_not_lt
    intro q
    have q' : 0 < m := q
    have := (h.1 0 q').1
    omega
  | succ S ih =>
    intro m g h
    by_cases e : ∃ j, j < m ∧ g j = S
    · obtain ⟨j, j1, j2⟩ := e
      have inj := Srt_inj h
      have h2 : Srt P zs S (m - 1) (fun x => if x < j then g x else g (x + 1)) := by
        have ne : ∀ x, x < m → x ≠ j → g x < S := by
          intro x hx hn
          have a := (h.1 x hx).1
          have b : g x ≠ S := fun w => hn (inj x j hx j1 (by rw [w, j2]))
          omega
        refine ⟨fun x hx => ?_, fun s hs ps => ?_, fun x y hxy hy => ?_⟩
        · dsimp only
          by_cases c : x < j
          · rw [if_pos c]; exact ⟨ne x (by omega) (by omega), (h.1 x (by omega)).2⟩
          · rw [if_neg c]; exact ⟨ne (x + 1) (by omega) (by omega), (h.1 (x + 1) (by omega)).2⟩
        · obtain ⟨k, k1, k2⟩ := h.2.1 s (by omega) ps
          have : k ≠ j := fun w => by rw [w, j2] at k2; omega
          by_cases c : k < j
          · exact ⟨k, by omega, by dsimp only; rw [if_pos c, k2]⟩
          · refine ⟨k - 1, by omega, ?_⟩
            dsimp only
            rw [if_neg (by omega), show k - 1 + 1 = k from by omega, k2]
        · dsimp only
          by_cases c : y < j
          · rw [if_pos (by omega), if_pos c]; exact h.2.2 x y hxy (by omega)
          · rw [if_neg c]
            by_cases d : x < j
            · rw [if_pos d]; exact h.2.2 x (y + 1) (by omega) (by omega)
            · rw [if_neg d]; exact h.2.2 (x + 1) (y + 1) (by omega) (by omega)
      have e2 := ih _ _ h2
      have ps := (h.1 j j1).2
      rw [j2] at ps
      show cnt P S + (if P S then 1 else 0) = m
      rw [e2, ps, if_pos rfl]
      omega
    · have h2 : Srt P zs S m g := by
        refine ⟨fun x hx => ?_, fun s hs ps => h.2.1 s (by omega) ps, h.2.2⟩
        have a := h.1 x hx
        have b : g x ≠ S := fun w => e ⟨x, hx, w⟩
        exact ⟨by omega, a.2⟩
      have e2 := ih _ _ h2
      show cnt P S + (if P S then 1 else 0) = m
      cases ps : P S with
      | false => rw [e2, if_neg (by decide)]; omega
      | true =>
        obtain ⟨j, j1, j2⟩ := h.2.1 S (by omega) ps
        exact absurd ⟨j, j1, j2⟩ e
def fac : Nat → Nat
  | 0 => 1
  | n + 1 => (n + 1) * fac n
theorem sL_mul {a b : Nat} : sL a * sL b = sL (a * b) := by simp [sL, Int64.ofNat_mul]
theorem fac_7 : ∀ m, m ≤ 7 → fac m ≤ 5040 := by decide
/-- what the packing of one period leaves -/
def PpM (M M' : mwM) (k F0 m : Nat) (gl zr ch : Nat → Nat) : Prop := (∀ j, j < m → M' (k + 16) (gl j) = sI (F0 + 1 + ch j) ∧ M' (k + 17) (gl j) = sI (fil ch zr j (ch j))) ∧ (∀ y, (∀ j, j < m → y ≠ gl j) → M' (k + 16) y = M (k + 16) y ∧ M' (k + 17) y = M (k + 17) y) ∧ ∀ a y, ¬ (k + 16 ≤ a ∧ a ≤ k + 21) → ¬ (a = k ∧ y = 14) → M' a y = M a y
theorem m_packPeriod {fu k n cap p F0 : Nat} {M : mwM} {L : mwL} {pl zl fr oc : Nat → Nat} (hfu : 90000 ≤ fu) (hP : PvM M k n cap pl zl fr oc) (hp : p ≤ 20000) (hz : ∀ l, 1 ≤ l → l ≤ n → zl l ≤ cap) (hfr : ∀ l, 1 ≤ l → l ≤ n → fr l ≤ F0) (hpl : ∀ l, 1 ≤ l → l ≤ n → pl l = p → fr l = 0) (hex : ∃ l, 1 ≤ l ∧ l ≤ n ∧ pl l = p) (hus : ∀ f, 1 ≤ f → f ≤ F0 → ∃ l, 1 ≤ l ∧ l ≤ n ∧ fr l = f) (hU : F0 + cnt (fun l => decide (pr6 pl fr p l)) (n + 1) ≤ 40) : ∃ m gl ch M', DX16_packPeriod fu k (sI p) 5040 M L = some (1, M', L) ∧ 0 < m ∧ Srt (fun l => decide (pr6 pl fr p l)) zl (n + 1) m gl ∧ PkW (fun j => zl (gl j)) cap m ch ∧ PpM M M' k F0 m gl (fun j => zl (gl j)) ch := by
  obtain ⟨m, gl, M1, e1, sr, r18, f18⟩ := m_listed (fu := fu) (L := L) (by omega) hP hp
  have hcn := Srt_cnt _ _ _ sr
  rw [hcn] at hU
  have hn := hP.2.2.1
  have hP1 : PvM M1 k n cap pl zl fr oc := PvM_f hP (fun a y w => f18 a y (by omega))
  have hgl : ∀ j, j < m → 1 ≤ gl j ∧ gl j ≤ n ∧ fr (gl j) = 0 ∧ pl (gl j) = p := fun j hj => by
    obtain ⟨q1, q2⟩ := sr.1 j hj
    have q3 := of_decide_eq_true q2
    exact ⟨q3.1, by omega, q3.2.1, q3.2.2⟩
  have hm0 : 0 < m := by
    obtain ⟨l, l1, l2, l3⟩ := hex
    obtain ⟨j, j1, _⟩ := sr.2.1 l (by omega) (decide_eq_true ⟨l1, hpl l l1 l2 l3, l3⟩)
    omega
  have hm40 : m ≤ 40 := by omega
  have hmn : m ≤ n := by
    -- one less than the row, for 0 isn't in it
    have h0 : Srt (fun l => decide (pr6 pl fr p (l + 1))) (fun l => zl (l + 1)) n m (fun j => gl j - 1) := by
      refine ⟨fun j hj => ?_, fun s hs ps => ?_, fun i j hij hj => ?_⟩
      · obtain ⟨q1, q2, q3, q4⟩ := hgl j hj
        show gl j - 1 < n ∧ decide (pr6 pl fr p (gl j - 1 + 1)) = true
        refine ⟨by omega, decide_eq_true ?_⟩
        rw [show gl j - 1 + 1 = gl j from by omega]
        exact ⟨q1, q3, q4⟩
      · obtain ⟨j, j1, j2⟩ := sr.2.1 (s + 1) (by omega) ps
        exact ⟨j, j1, by dsimp only; omega⟩
      · obtain ⟨q1, _⟩ := hgl i (by omega)
        obtain ⟨w1, _⟩ := hgl j hj
        have := sr.2.2 i j hij hj
        show befo (fun l => zl (l + 1)) (gl i - 1) (gl j - 1)
        unfold befo
        dsimp only
        rw [show gl i - 1 + 1 = gl i from by omega, show gl j - 1 + 1 = gl j from by omega]
        rcases this with w | w
        · exact Or.inl w
        · exact Or.inr (by omega)
    exact Srt_le _ _ _ h0
  unfold DX16_packPeriod
  rw [e1, mb3_s]
  -- no frame of this period is there
  have there : ∀ (r f q : Nat), f + r = 65 → r < q → 1 ≤ f → fX16_packPeriod_h13 fu k (sI p) 5040 q (sI m, 0, sI f, M1, L) = fX16_packPeriod_h63 fu k (sI p) 5040 fu (sI m, 0, 1, 2, M1, L) := by
    intro r
    induction r with
    | zero =>
      intro f q hf hq h1
      obtain ⟨q', rfl⟩ : ∃ x, q = x + 1 := ⟨q - 1, by omega⟩
      show fX16_packPeriod_i13 fu k (sI p) 5040 (fX16_packPeriod_h13 fu k (sI p) 5040 q') (sI m) 0 (sI f) M1 L = _
      unfold fX16_packPeriod_i13
      rw [if_pos (by rw [sI_lle (by decide) (by omega)]; omega)]
    | succ r ih =>
      intro f q hf hq h1
      obtain ⟨q', rfl⟩ : ∃ x, q = x + 1 := ⟨q - 1, by omega⟩
      show fX16_packPeriod_i13 fu k (sI p) 5040 (fX16_packPeriod_h13 fu k (sI p) 5040 q') (sI m) 0 (sI f) M1 L = _
      have nx := ih (f + 1) q' (by omega) (by omega) (by omega)
      have e51 : fX16_packPeriod_b51 fu k (sI p) 5040 (fX16_packPeriod_h13 fu k (sI p) 5040 q') (sI m) 0 (sI f) M1 L = fX16_packPeriod_h63 fu k (sI p) 5040 fu (sI m, 0, 1, 2, M1, L) := by
        unfold fX16_packPeriod_b51
        simp only [mlet]
        rw [sI_1]
        exact nx
      unfold fX16_packPeriod_i13
      rw [if_neg (by rw [sI_lle (by decide) (by omega)]; omega), m_isUsed (by omega) hP1 (by omega), mb3_s, e51]
      cases hb : ex1 (fun l => decide (fr l = f)) n with
      | false => rw [bI_f, if_pos (show (0 : Int32) = 0 from rfl)]
      | true =>
        rw [bI_t, if_neg (show ¬ (1 : Int32) = 0 by decide), m_hasOther (by omega) hP1 (by omega) hp, mb3_s, e51]
        obtain ⟨l, l1, l2, l3⟩ := ex1_t.mp hb
        have l3' := of_decide_eq_true l3
        have ho : ex1 (fun l => decide (fr l = f ∧ pl l ≠ p)) n = true := ex1_t.mpr ⟨l, l1, l2, decide_eq_true ⟨l3', fun w => by have := hpl l l1 l2 w; omega⟩⟩
        rw [ho, bI_t, if_neg (show ¬ (1 : Int32) = 0 by decide)]
  rw [show (1 : Int32) = sI 1 from rfl, there 64 1 fu (by omega) (by omega) (by omega)]
  -- how many ways
  have ways : ∀ (r x q : Nat), x + r = m + 1 → r < q → 1 ≤ x → (m < 8 ∨ x = 2) → ∃ v, (m < 8 → v = sL (fac m)) ∧ fX16_packPeriod_h63 fu k (sI p) 5040 q (sI m, 0, sL (fac (x - 1)), sI x, M1, L) = fX16_packPeriod_b91 fu k (sI p) 5040 (sI m) 0 v M1 L := by
    intro r
    induction r with
    | zero =>
      intro x q hx hq h1 h8
      obtain ⟨q', rfl⟩ : ∃ y, q = y + 1 := ⟨q - 1, by omega⟩
      refine ⟨sL (fac (x - 1)), fun _ => by rw [show x - 1 = m from by omega], ?_⟩
      show fX16_packPeriod_i63 fu k (sI p) 5040 (fX16_packPeriod_h63 fu k (sI p) 5040 q') (sI m) 0 (sL (fac (x - 1))) (sI x) M1 L = _
      unfold fX16_packPeriod_i63
      rw [if_pos (by rw [sI_lt (by omega) (by omega)]; omega)]
    | succ r ih =>
      intro x q hx hq h1 h8
      obtain ⟨q', rfl⟩ : ∃ y, q = y + 1 := ⟨q - 1, by omega⟩
      show ∃ v, _ ∧ fX16_packPeriod_i63 fu k (sI p) 5040 (fX16_packPeriod_h63 fu k (sI p) 5040 q') (sI m) 0 (sL (fac (x - 1))) (sI x) M1 L = _
      unfold fX16_packPeriod_i63
      rw [if_neg (by rw [sI_lt (by omega) (by omega)]; omega)]
      by_cases c : m < 8
      · rw [if_neg (by rw [sI_lle (by decide) (by omega)]; omega)]
        simp only [mlet]
        rw [sI_1, sI_L (by omega), sL_mul]
        have ef : fac (x - 1) * x = fac (x + 1 - 1) := by
          obtain ⟨y, rfl⟩ : ∃ y, x = y + 1 := ⟨x - 1, by omega⟩
          show fac y * (y + 1) = (y + 1) * fac y
          exact Nat.mul_comm _ _
        rw [ef]
        exact ih (x + 1) q' (by omega) (by omega) (by omega) (Or.inl c)
      · rw [if_pos (by rw [sI_lle (by decide) (by omega)]; omega)]
        exact ⟨_, fun w => absurd w c, rfl⟩
  have m1 : ∃ v, (m < 8 → v = sL (fac m)) ∧ fX16_packPeriod_h63 fu k (sI p) 5040 fu (sI m, 0, 1, 2, M1, L) = fX16_packPeriod_b91 fu k (sI p) 5040 (sI m) 0 v M1 L := ways (m - 1) 2 fu (by omega) (by omega) (by omega) (Or.inr rfl)
  obtain ⟨v, v1, v2⟩ := m1
  rw [v2]
  have hB : SB M1 k n cap F0 m pl zl fr oc gl := ⟨hP1, hU, hmn, hfr, fun j hj => ⟨(hgl j hj).1, (hgl j hj).2.1, (hgl j hj).2.2.1, r18 j hj⟩, Srt_inj sr, hus⟩
  have hR0 : SR M1 M1 k F0 m gl (fun j => zl (gl j)) (fun _ => 0) 0 0 := by
    refine ⟨fun _ _ _ _ _ _ _ => rfl, fun _ _ => ⟨rfl, rfl⟩, fun j hj => by omega, fun j _ hj => ?_, fun j hj => ?_, fun j hj => absurd hj (Nat.not_lt_zero _), fun j hj => by omega⟩
    · obtain ⟨q1, q2, q3, q4⟩ := hgl j hj
      obtain ⟨a1, a2, a3, a4, a5, a6, a7, a8, a9, a10⟩ := hP1.2.2.2.2 (gl j) q1 q2
      rw [a7, q3]; rfl
    · obtain ⟨q1, q2, q3, q4⟩ := hgl j hj
      obtain ⟨a1, a2, a3, a4, a5, a6, a7, a8, a9, a10⟩ := hP1.2.2.2.2 (gl j) q1 q2
      exact ⟨_, a10, a9⟩
  have hzj : ∀ j, j < m → zl (gl j) ≤ cap := fun j hj => hz _ (hgl j hj).1 (hgl j hj).2.1
  have fin : ∀ ch M' u, SR M1 M' k F0 m gl (fun j => zl (gl j)) ch m u → PpM M M' k F0 m gl (fun j => zl (gl j)) ch := by
    intro ch M' u h
    obtain ⟨q1, q2, q3, q4, q5, q6, q7⟩ := h
    refine ⟨q3, fun y hy => ?_, fun a y w1 w2 => ?_⟩
    · obtain ⟨x1, x2⟩ := q2 y hy
      rw [x1, x2, f18 _ _ (by omega), f18 _ _ (by omega)]
      exact ⟨rfl, rfl⟩
    · rw [q1 a y (by omega) (by omega) (by omega) (by omega) (by omega), f18 a y (by omega)]
  unfold fX16_packPeriod_b91
  by_cases c : 7 < m
  · rw [if_pos (by rw [sI_llt (by decide) (by omega)]; exact c)]
    unfold fX16_packPeriod_b105
    simp only [mlet]
    have hB2 : SB (mset M1 k 14 0) k n cap F0 m pl zl fr oc gl := ⟨PvM_f hP1 (fun a y w => by rw [mset_n (by omega)]), hU, hmn, hfr, fun j hj => ⟨(hgl j hj).1, (hgl j hj).2.1, (hgl j hj).2.2.1, by rw [mset_n (by omega)]; exact r18 j hj⟩, Srt_inj sr, hus⟩
    have hR2 : SR (mset M1 k 14 0) (mset M1 k 14 0) k F0 m gl (fun j => zl (gl j)) (fun _ => 0) 0 0 := by
      obtain ⟨q1, q2, q3, q4, q5, q6, q7⟩ := hR0
      exact ⟨fun _ _ _ _ _ _ _ => rfl, fun _ _ => ⟨rfl, rfl⟩, fun j hj => by omega, fun j w hj => by rw [mset_n (by omega)]; exact q4 j w hj, fun j hj => by rw [mset_n (by omega)]; exact q5 j hj, fun j hj => absurd hj (Nat.not_lt_zero _), fun j hj => by omega⟩
    obtain ⟨ch, M', k1, k2, k3⟩ := m_inTurn (fu := fu) (L := L) (by omega) hB2 hzj hR2
    rw [k1, mb3_s]
    refine ⟨m, gl, ch, M', by unfold mzz; rw [if_pos (Or.inr rfl)]; rfl, hm0, sr, ⟨fun w => by omega, fun _ => k3⟩, ?_⟩
    obtain ⟨q1, q2, q3, q4, q5, q6, q7⟩ := k2
    refine ⟨q3, fun y hy => ?_, fun a y w1 w2 => ?_⟩
    · obtain ⟨x1, x2⟩ := q2 y hy
      rw [x1, x2, mset_n (by omega), mset_n (by omega), f18 _ _ (by omega), f18 _ _ (by omega)]
      exact ⟨rfl, rfl⟩
    · rw [q1 a y (by omega) (by omega) (by omega) (by omega) (by omega), mset_n w2, f18 a y (by omega)]
  · rw [if_neg (by rw [sI_llt (by decide) (by omega)]; exact c), v1 (by omega)]
    have hle : lg_cmp (sL (fac m)) 5040 ≤ 0 := by
      rw [lg_cmp_le]
      have h1 := fac_7 m (by omega)
      have h2 : sL (fac m) ≤ sL 5040 := by rw [sL_le (by omega) (by omega)]; omega
      exact h2
    rw [if_pos hle]
    have key : ∀ (r fresh q : Nat) (B : mwM), fresh + r = m → r < q → SR M1 B k F0 m gl (fun j => zl (gl j)) (fun _ => 0) 0 0 → (∀ x, x < fresh → fnd (fun j => zl (gl j)) cap x m 0 (fun _ => 0) = none) → ∃ ch M', fX16_packPeriod_h122 fu k (sI p) 5040 q (sI m, 0, sI fresh, B, L) = some (1, M', L) ∧ PkW (fun j => zl (gl j)) cap m ch ∧ PpM M M' k F0 m gl (fun j => zl (gl j)) ch := by
      intro r
      induction r with
      | zero =>
        intro fresh q B hf hq hR hno
        obtain ⟨q', rfl⟩ : ∃ y, q = y + 1 := ⟨q - 1, by omega⟩
        have em : fresh = m := by omega
        subst em
        show ∃ ch M', fX16_packPeriod_i122 fu k (sI p) 5040 (fX16_packPeriod_h122 fu k (sI p) 5040 q') (sI fresh) 0 (sI fresh) B L = _ ∧ _
        unfold fX16_packPeriod_i122
        rw [if_neg (by rw [sI_lt (by omega) (by omega)]; omega)]
        rcases m_search (fresh := fresh) (L := L) hfu hB hm0 (by omega) hzj (Nat.le_refl _) hR with ⟨ch, M', k1, k2, k3⟩ | ⟨k1, _⟩
        · refine ⟨ch, M', ?_, ⟨fun _ => ⟨fresh, by omega, Nat.le_refl _, fun x _ x2 => hno x x2, k1⟩, fun w => by omega⟩, fin ch M' _ k2⟩
          rw [k3, mb3_s, if_neg (show ¬ (1 : Int32) = 0 by decide)]
        · exact absurd (way_own hzj) (fun w => fnd_none _ _ _ _ k1 (fun j hj => by omega) (by rw [Nat.zero_add]; exact w))
      | succ r ih =>
        intro fresh q B hf hq hR hno
        obtain ⟨q', rfl⟩ : ∃ y, q = y + 1 := ⟨q - 1, by omega⟩
        show ∃ ch M', fX16_packPeriod_i122 fu k (sI p) 5040 (fX16_packPeriod_h122 fu k (sI p) 5040 q') (sI m) 0 (sI fresh) B L = _ ∧ _
        unfold fX16_packPeriod_i122
        rw [if_neg (by rw [sI_lt (by omega) (by omega)]; omega)]
        rcases m_search (fresh := fresh) (L := L) hfu hB hm0 (by omega) hzj (by omega) hR with ⟨ch, M', k1, k2, k3⟩ | ⟨k1, M', k2, k3⟩
        · have f1 : 1 ≤ fresh := by
            apply Nat.succ_le_of_lt
            apply Nat.pos_of_ne_zero
            intro w
            subst w
            have w2 := (fnd_some _ _ _ _ k1).2 0 (by omega) (by omega)
            omega
          refine ⟨ch, M', ?_, ⟨fun _ => ⟨fresh, f1, by omega, fun x _ x2 => hno x x2, k1⟩, fun w => by omega⟩, fin ch M' _ k2⟩
          rw [k3, mb3_s, if_neg (show ¬ (1 : Int32) = 0 by decide)]
        · rw [k3, mb3_s, if_pos (show (0 : Int32) = 0 from rfl)]
          simp only [mlet]
          rw [sI_1]
          refine ih (fresh + 1) q' M' (by omega) (by omega) k2 (fun x hx => ?_)
          by_cases e : x = fresh
          · rw [e]; exact k1
          · exact hno x (by omega)
    obtain ⟨ch, M', k1, k2, k3⟩ := key m 0 fu M1 (by omega) (by omega) hR0 (fun x hx => by omega)
    exact ⟨m, gl, ch, M', k1, hm0, sr, k2, k3⟩
