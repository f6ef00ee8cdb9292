/-- bit b of n -/
def bt (n b : Nat) : Nat := n / 2^b % 2
theorem bt_lt (n b : Nat) : bt n b < 2 := Nat.mod_lt _ (by decide)
theorem bt_sb {n b v c : Nat} (hn : n < 256) (hb : b < 8) (hv : v < 2) (hc : c < 8) : bt (sb n b v) c = if c = b then v else bt n c := sb_dig n hn b hb v hv c hc
theorem m_isb {fu : Nat} {M : mwM} {L : mwL} {c n b : Nat} (hd : dg M c n) (hc : c ≤ 200) (hb : (OfNat.ofNat b : Nat) < 8) : DX18_is fu (sI c) (no_index (OfNat.ofNat b)) M L = some (sI (bt n (OfNat.ofNat b : Nat)), M, L) := m_is hd hc hb
theorem sb_l {n b v : Nat} (hn : n < 256) (hb : b < 8) (hv : v < 2) : sb n b v < 256 := sb_lt n hn b hb v hv
/-- one code at the end of a cycle -/
def cyF (ts n t a g : Nat) : Nat × Nat × Nat × Nat × Bool := if bt n 1 = 0 ∧ bt n 6 = 0 then gy ts n t a g else (n, t, a, g, false)
theorem gy_bt (ts n t a g : Nat) : gy ts n t a g = if ts = 0 ∨ bt n 3 = 0 ∨ bt n 0 = 1 then (if (if g < 255 then g + 1 else 255) < 3 then sb n 2 0 else sb (sb n 2 0) 7 0, if bt n 3 = 0 then 0 else t, a, if g < 255 then g + 1 else 255, false) else if a + 1 < 40 then (if (if g < 255 then g + 1 else 255) < 3 then sb n 2 0 else sb (sb n 2 0) 7 0, t, a + 1, if g < 255 then g + 1 else 255, false) else (sb (if (if g < 255 then g + 1 else 255) < 3 then sb n 2 0 else sb (sb n 2 0) 7 0) 3 0, 0, 0, 0, true) := by
  have h0 : bt n 0 = n % 2 := by unfold bt; simp
  have h3 : bt n 3 = n / 8 % 2 := rfl
  unfold gy
  rw [h0, h3]
theorem gy_rg {ts n p t a g k : Nat} (hr : rg n p t a g k) : (gy ts n t a g).1 < 256 ∧ (gy ts n t a g).2.1 < 256 ∧ (gy ts n t a g).2.2.1 < 40 ∧ (gy ts n t a g).2.2.2.1 < 256 := by
  obtain ⟨r1, r2, r3, r4, r5, r6, r7⟩ := hr
  have hg : (if g < 255 then g + 1 else 255) < 256 := by split <;> omega
  generalize hG : (if g < 255 then g + 1 else 255) = g1 at hg
  have hn : (if g1 < 3 then sb n 2 0 else sb (sb n 2 0) 7 0) < 256 := by
    split
    · exact sb_l r1 (by omega) (by omega)
    · exact sb_l (sb_l r1 (by omega) (by omega)) (by omega) (by omega)
  generalize hN : (if g1 < 3 then sb n 2 0 else sb (sb n 2 0) 7 0) = n2 at hn
  rw [gy_bt, hG, hN]
  have ht : (if bt n 3 = 0 then 0 else t) < 256 := by split <;> omega
  by_cases hc : ts = 0 ∨ bt n 3 = 0 ∨ bt n 0 = 1
  · rw [if_pos hc]
    exact ⟨hn, ht, r5, hg⟩
  · rw [if_neg hc]
    by_cases ha : a + 1 < 40
    · rw [if_pos ha]
      exact ⟨hn, r4, ha, hg⟩
    · rw [if_neg ha]
      exact ⟨sb_l hn (by omega) (by omega), (show 0 < 256 by decide), (show 0 < 40 by decide), (show 0 < 256 by decide)⟩
theorem cyF_rg {ts n p t a g k : Nat} (hr : rg n p t a g k) : (cyF ts n t a g).1 < 256 ∧ (cyF ts n t a g).2.1 < 256 ∧ (cyF ts n t a g).2.2.1 < 40 ∧ (cyF ts n t a g).2.2.2.1 < 256 := by
  unfold cyF
  split
  · exact gy_rg hr
  · exact ⟨hr.1, hr.2.2.2.1, hr.2.2.2.2.1, hr.2.2.2.2.2.1⟩
abbrev cyP (ts i n p t a g k : Nat) (M q : mwM) : Prop := cm q i (sb (sb (cyF ts n t a g).1 1 0) 6 1) p (cyF ts n t a g).2.1 (cyF ts n t a g).2.2.1 (cyF ts n t a g).2.2.2.1 k ∧ q 916 (i + 1) = (if (cyF ts n t a g).2.2.2.2 = true then 0 else M 916 (i + 1)) ∧ ∀ b j, ¬ (b = 908 ∧ 8 * (i + 1) ≤ j ∧ j < 8 * (i + 1) + 8) → ¬ (j = i + 1 ∧ (b = 909 ∨ b = 910 ∨ b = 911 ∨ b = 916)) → b ≠ 912 → b ≠ 913 → b ≠ 914 → b ≠ 915 → q b j = M b j
theorem m_cyc {fu : Nat} {M : mwM} {L : mwL} {N i n p t a g k ts : Nat} {r : Int32 × mwM × mwL → Option (Int32 × mwM × mwL)} {Q : Int32 × mwM × mwL → Prop} (hf : 9 ≤ fu) (hN : N ≤ 30) (hi : i < N) (hts : ts < 2) (hr : rg n p t a g k) (hm : cm M i n p t a g k) (h2 : M 902 2 = sI N) (hQ : ∀ q, cyP ts i n p t a g k M q → wq (r (sI (i + 1 + 1), q, L)) Q) : wq (fX18_cycle_i17 fu (sI ts) r (sI (i + 1)) M L) Q := by
  obtain ⟨r1, r2, r3, r4, r5, r6, r7⟩ := hr
  obtain ⟨m1, m2, m3, m4, m5, m6, m7, m8, m9⟩ := hm
  have hi1 : i + 1 ≤ 200 := by omega
  -- the end: bits 1 and 6, what is kept
  have fin : ∀ (M1 : mwM) (n' t' a' g' : Nat), n' < 256 → dg M1 (i + 1) n' → M1 909 (i + 1) = sI t' → M1 910 (i + 1) = sI a' → M1 911 (i + 1) = sI g' → (∀ b j, ¬ (b = 908 ∧ 8 * (i + 1) ≤ j ∧ j < 8 * (i + 1) + 8) → ¬ (j = i + 1 ∧ (b = 909 ∨ b = 910 ∨ b = 911 ∨ b = 916)) → M1 b j = M b j) → (∃ rm, cyF ts n t a g = (n', t', a', g', rm) ∧ M1 916 (i + 1) = (if rm = true then 0 else M 916 (i + 1))) → wq (fX18_cycle_b204 fu (sI ts) r (sI (i + 1)) M1 L) Q := by
    intro M1 n' t' a' g' hn hd h909 h910 h911 hfr ⟨rm, hcy, h916⟩
    have s1 : sb n' 1 0 < 256 := sb_l hn (by omega) (by omega)
    unfold fX18_cycle_b204
    rw [m_set hi1 (by omega), mb2_s, m_set hi1 (by omega), mb2_s]
    have d1 := dg_set (b := 1) (v := 0) hd hn (by omega) (by omega) bo_0
    have d6 := dg_set (b := 6) (v := 1) d1 s1 (by omega) (by omega) bo_1
    refine wq_b2 (m_keep d6 hi1 (by omega)) ?_
    rintro M2 L2 ⟨hL2, k1⟩
    dsimp only at hL2 k1
    subst hL2
    simp only [mlet]
    rw [sI_1]
    refine hQ M2 ⟨?_, ?_, ?_⟩
    · rw [hcy]
      refine ⟨?_, dg_f d6 (fun b _ => k1 _ _ (by omega) (by omega) (by omega) (by omega)), ?_, ?_, ?_, ?_, ?_, ?_, ?_⟩
      · rw [k1 _ _ (by omega) (by omega) (by omega) (by omega), mset_n (by omega), mset_n (by omega), hfr _ _ (by omega) (by omega)]; exact m1
      · rw [k1 _ _ (by omega) (by omega) (by omega) (by omega), mset_n (by omega), mset_n (by omega), hfr _ _ (by omega) (by omega)]; exact m3
      · rw [k1 _ _ (by omega) (by omega) (by omega) (by omega), mset_n (by omega), mset_n (by omega)]; exact h909
      · rw [k1 _ _ (by omega) (by omega) (by omega) (by omega), mset_n (by omega), mset_n (by omega)]; exact h910
      · rw [k1 _ _ (by omega) (by omega) (by omega) (by omega), mset_n (by omega), mset_n (by omega)]; exact h911
      · rw [k1 _ _ (by omega) (by omega) (by omega) (by omega), mset_n (by omega), mset_n (by omega), hfr _ _ (by omega) (by omega)]; exact m7
      · rw [k1 _ _ (by omega) (by omega) (by omega) (by omega), mset_n (by omega), mset_n (by omega), hfr _ _ (by omega) (by omega)]; exact m8
      · rw [k1 _ _ (by omega) (by omega) (by omega) (by omega), mset_n (by omega), mset_n (by omega), hfr _ _ (by omega) (by omega)]; exact m9
    · rw [hcy, k1 _ _ (by omega) (by omega) (by omega) (by omega), mset_n (by omega), mset_n (by omega)]; exact h916
    · intro b j h1 h2 h3 h4 h5 h6
      rw [k1 _ _ h3 h4 h5 h6, mset_n (by omega), mset_n (by omega), hfr _ _ h1 h2]
  have b1 : bt n 1 < 2 := bt_lt n 1
  have b6 : bt n 6 < 2 := bt_lt n 6
  have b3 : bt n 3 < 2 := bt_lt n 3
  have b0 : bt n 0 < 2 := bt_lt n 0
  unfold fX18_cycle_i17
  rw [h2, if_neg (by rw [sI_lt (by omega) (by omega)]; omega), m_isb m2 hi1 (by omega), mb3_s]
  by_cases e1 : bt n 1 = 0
  · rw [if_pos (by rw [e1]; rfl), m_isb m2 hi1 (by omega), mb3_s]
    by_cases e6 : bt n 6 = 0
    · rw [if_pos (by rw [e6]; rfl), m_set hi1 (by omega), mb2_s]
      have hF : cyF ts n t a g = gy ts n t a g := by unfold cyF; rw [if_pos ⟨e1, e6⟩]
      rw [gy_bt] at hF
      have s2 : sb n 2 0 < 256 := sb_l r1 (by omega) (by omega)
      have d2' := dg_set (b := 2) (v := 0) m2 r1 (by omega) (by omega) bo_0
      have t3 : bt (sb n 2 0) 3 = bt n 3 := by rw [bt_sb r1 (by omega) (by omega) (by omega), if_neg (by decide)]
      have t0 : bt (sb n 2 0) 0 = bt n 0 := by rw [bt_sb r1 (by omega) (by omega) (by omega), if_neg (by decide)]
      have t73 : bt (sb (sb n 2 0) 7 0) 3 = bt n 3 := by rw [bt_sb s2 (by omega) (by omega) (by omega), if_neg (by decide), t3]
      have t70 : bt (sb (sb n 2 0) 7 0) 0 = bt n 0 := by rw [bt_sb s2 (by omega) (by omega) (by omega), if_neg (by decide), t0]
      have hg : (if g < 255 then g + 1 else 255) < 256 := by split <;> omega
      generalize hG : (if g < 255 then g + 1 else 255) = g1 at hg hF
      generalize hn2 : (if g1 < 3 then sb n 2 0 else sb (sb n 2 0) 7 0) = n2 at hF
      have hn2' : n2 < 256 ∧ bt n2 3 = bt n 3 ∧ bt n2 0 = bt n 0 := by
        rw [← hn2]
        split
        · exact ⟨s2, t3, t0⟩
        · exact ⟨sb_l s2 (by omega) (by omega), t73, t70⟩
      -- from the age on
      have age : ∀ (M1 : mwM), dg M1 (i + 1) n2 → M1 909 (i + 1) = sI (if bt n 3 = 0 then 0 else t) → M1 911 (i + 1) = sI g1 → (∀ b j, ¬ (b = 908 ∧ 8 * (i + 1) ≤ j ∧ j < 8 * (i + 1) + 8) → ¬ (j = i + 1 ∧ (b = 909 ∨ b = 911)) → M1 b j = M b j) → wq (fX18_cycle_b126 fu (sI ts) r (sI (i + 1)) M1 L) Q := by
        intro M1 hd h909 h911 hfr
        have h910 : M1 910 (i + 1) = sI a := by rw [hfr _ _ (by omega) (by omega)]; exact m5
        have h916 : M1 916 (i + 1) = M 916 (i + 1) := hfr _ _ (by omega) (by omega)
        have stay : (ts = 0 ∨ bt n 3 = 0 ∨ bt n 0 = 1) → wq (fX18_cycle_b158 fu (sI ts) r (sI (i + 1)) M1 L) Q := by
          intro hs
          unfold fX18_cycle_b158
          rw [mck_s (by omega) (by omega), sI_nn (by omega), h910, if_neg (by rw [sI_eql (by omega) (by omega)]; omega)]
          refine fin M1 _ _ _ _ hn2'.1 hd h909 h910 h911 (fun b j h1 h2 => hfr b j h1 (by omega)) ⟨false, ?_, ?_⟩
          · rw [hF, if_pos hs]
          · rw [h916]; rfl
        unfold fX18_cycle_b126
        by_cases ht0 : ts = 0
        · rw [if_pos (by rw [ht0]; rfl)]
          exact stay (Or.inl ht0)
        · rw [if_neg (by rw [sI_eql (by omega) (by omega)]; exact ht0), m_isb hd hi1 (by omega), mb3_s]
          rw [show bt n2 (OfNat.ofNat 3) = bt n 3 from hn2'.2.1]
          by_cases e3 : bt n 3 = 0
          · rw [if_pos (by rw [e3]; rfl)]
            exact stay (Or.inr (Or.inl e3))
          · rw [if_neg (by rw [sI_eql (by omega) (by omega)]; exact e3), m_isb hd hi1 (by decide), mb3_s]
            rw [show bt n2 (OfNat.ofNat 0) = bt n 0 from hn2'.2.2]
            by_cases e0 : bt n 0 = 0
            · have hs : ¬ (ts = 0 ∨ bt n 3 = 0 ∨ bt n 0 = 1) := by omega
              rw [if_pos (by rw [e0]; rfl)]
              simp (disch := omega) only [mlet, mck_s, sI_nn, h910, sI_1]
              unfold fX18_cycle_b158
              rw [mck_s (by omega) (by omega), sI_nn (by omega), mset_s]
              have t909 : M1 909 (i + 1) = sI t := by rw [h909, if_neg e3]
              by_cases ha : a + 1 < 40
              · rw [if_neg (by rw [sI_eql (by omega) (by omega)]; omega)]
                refine fin _ n2 t (a + 1) g1 hn2'.1 (dg_o hd (by decide)) (by rw [mset_k (by decide)]; exact t909) mset_s (by rw [mset_k (by decide)]; exact h911) ?_ ⟨false, ?_, ?_⟩
                · intro b j h1 h2
                  rw [mset_n (by omega)]
                  exact hfr b j h1 (by omega)
                · rw [hF, if_neg hs, if_pos ha]
                · rw [mset_k (by decide), h916]; rfl
              · rw [if_pos (by rw [sI_eql (by omega) (by omega)]; show a + 1 = 40; omega), m_set hi1 (by omega), mb2_s]
                simp (disch := omega) only [mlet, mck_s, sI_nn]
                refine fin _ (sb n2 3 0) 0 0 0 (sb_l hn2'.1 (by omega) (by omega)) (dg_o (dg_o (dg_o (dg_o (dg_set (dg_o hd (by decide)) hn2'.1 (by omega) (by omega) bo_0) (by decide)) (by decide)) (by decide)) (by decide)) ?_ ?_ ?_ ?_ ⟨true, ?_, ?_⟩
                · rw [mset_k (by decide), mset_k (by decide), mset_k (by decide), mset_s]; rfl
                · rw [mset_k (by decide), mset_k (by decide), mset_s]; rfl
                · rw [mset_k (by decide), mset_s]; rfl
                · intro b j h1 h2
                  rw [mset_n (by omega), mset_n (by omega), mset_n (by omega), mset_n (by omega), mset_n (by omega), mset_n (by omega)]
                  exact hfr b j h1 (by omega)
                · rw [hF, if_neg hs, if_neg ha]
                · rw [mset_s]; rfl
            · rw [if_neg (by rw [sI_eql (by omega) (by omega)]; exact e0)]
              exact stay (Or.inr (Or.inr (by omega)))
      -- from the good cycles on
      have gc : ∀ (M1 : mwM) (x : Int32), x = sI g1 → dg M1 (i + 1) (sb n 2 0) → M1 909 (i + 1) = sI (if bt n 3 = 0 then 0 else t) → (∀ b j, ¬ (b = 908 ∧ 8 * (i + 1) ≤ j ∧ j < 8 * (i + 1) + 8) → ¬ (j = i + 1 ∧ b = 909) → M1 b j = M b j) → wq (fX18_cycle_b107 fu (sI ts) r (sI (i + 1)) (sI (i + 1)) x M1 L) Q := by
        intro M1 x hx hd h909 hfr
        subst hx
        unfold fX18_cycle_b107
        simp (disch := omega) only [mlet, mck_s, sI_nn, mset_s]
        by_cases h3 : g1 < 3
        · rw [if_pos (by rw [sI_lel (by omega) (by omega)]; omega)]
          refine age _ (dg_o (by rw [← hn2, if_pos h3]; exact hd) (by decide)) (by rw [mset_k (by decide)]; exact h909) mset_s ?_
          intro b j h1 h2
          rw [mset_n (by omega)]
          exact hfr b j h1 (by omega)
        · rw [if_neg (by rw [sI_lel (by omega) (by omega)]; omega), m_set hi1 (by omega), mb2_s]
          refine age _ ?_ (by rw [mset_k (by decide), mset_k (by decide)]; exact h909) (by rw [mset_k (by decide), mset_s]) ?_
          · rw [← hn2, if_neg h3]
            exact dg_set (dg_o hd (by decide)) s2 (by omega) (by omega) bo_0
          · intro b j h1 h2
            rw [mset_n (by omega), mset_n (by omega)]
            exact hfr b j h1 (by omega)
      -- from the trips on
      have tc : ∀ (M1 : mwM) (x : Int32), x = sI (if bt n 3 = 0 then 0 else t) → dg M1 (i + 1) (sb n 2 0) → (∀ b j, ¬ (b = 908 ∧ 8 * (i + 1) ≤ j ∧ j < 8 * (i + 1) + 8) → M1 b j = M b j) → wq (fX18_cycle_b75 fu (sI ts) r (sI (i + 1)) (sI (i + 1)) x M1 L) Q := by
        intro M1 x hx hd hfr
        subst hx
        unfold fX18_cycle_b75
        simp (disch := omega) only [mlet, mck_s, sI_nn]
        have h911 : mset M1 909 (i + 1) (sI (if bt n 3 = 0 then 0 else t)) 911 (i + 1) = sI g := by rw [mset_k (by decide), hfr _ _ (by omega)]; exact m6
        rw [h911, sI_1]
        have hfr2 : ∀ b j, ¬ (b = 908 ∧ 8 * (i + 1) ≤ j ∧ j < 8 * (i + 1) + 8) → ¬ (j = i + 1 ∧ b = 909) → mset M1 909 (i + 1) (sI (if bt n 3 = 0 then 0 else t)) b j = M b j := by
          intro b j h1 h2
          rw [mset_n (by omega)]
          exact hfr b j h1
        by_cases h255 : g < 255
        · rw [if_neg (by rw [sI_lle (by omega) (by omega)]; omega)]
          exact gc _ _ (by rw [← hG, if_pos h255]) (dg_o hd (by decide)) mset_s hfr2
        · rw [if_pos (by rw [sI_lle (by omega) (by omega)]; omega)]
          exact gc _ _ (by rw [← hG, if_neg h255]; rfl) (dg_o hd (by decide)) mset_s hfr2
      have fr2 : ∀ b j, ¬ (b = 908 ∧ 8 * (i + 1) ≤ j ∧ j < 8 * (i + 1) + 8) → mset M 908 (8 * (i + 1) + OfNat.ofNat 2) (vp_nar FieldType.boolean 0) b j = M b j := by
        intro b j h1
        refine mset_n (fun q => h1 ⟨q.1, ?_, ?_⟩)
        · rw [q.2]; exact Nat.le_add_right _ _
        · rw [q.2]; exact Nat.add_lt_add_left (by decide) _
      rw [m_isb d2' hi1 (by omega), mb3_s]
      rw [show bt (sb n (OfNat.ofNat 2) 0) (OfNat.ofNat 3) = bt n 3 from t3]
      by_cases e3 : bt n 3 = 0
      · rw [if_pos (by rw [e3]; rfl)]
        exact tc _ 0 (by rw [if_pos e3]; rfl) d2' fr2
      · rw [if_neg (by rw [sI_eql (by omega) (by omega)]; exact e3), mck_s (by omega) (by omega), sI_nn (by omega)]
        refine tc _ _ ?_ d2' fr2
        rw [if_neg e3, fr2 _ _ (by omega)]; exact m4
    · rw [if_neg (by rw [sI_eql (by omega) (by omega)]; exact e6)]
      refine fin M n t a g r1 m2 m4 m5 m6 (fun _ _ _ _ => rfl) ⟨false, ?_, rfl⟩
      unfold cyF
      rw [if_neg (fun q => e6 q.2)]
  · rw [if_neg (by rw [sI_eql (by omega) (by omega)]; exact e1)]
    refine fin M n t a g r1 m2 m4 m5 m6 (fun _ _ _ _ => rfl) ⟨false, ?_, rfl⟩
    unfold cyF
    rw [if_neg (fun q => e1 q.1)]
