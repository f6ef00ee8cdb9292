/-! the reference chooses -/
theorem m_chooseC {fu : Nat} {M : mwM} {L : mwL} {q v : Nat} {c : Nat → Nat → Nat} {b : Nat → Nat → Bool} {va : Nat → Int32} {D : Nat → Int64} {x : Nat → Int32} (hf : 402 ≤ fu) (hv : Cv c) (h : ReM q M L c b va D x) (hvv : v < 2000) : wq (DX13_choose fu q (sI v) M L) (fun z => z.1 = sI (tkL c b D v).length ∧ z.2.2 = L ∧ ReM q z.2.1 L c (seb c b D v (c 0 1)) va D (sex c b D x v (c 0 1)) ∧ LiZ z.2.1 (q + 24) (tkL c b D v) ∧ z.2.1 q 35 = sI (tkL c b D v).length ∧ ∀ a y, ¬ (q ≤ a ∧ a ≤ q + 29) → z.2.1 a y = M a y) := by
  have hT := hv.1
  have hE := hv.2.1
  have hN := hT.1
  have hE4 := hE.1
  have b0 : vp_nar .boolean (0 : Int32) = bI false := by decide
  have b1 : vp_nar .boolean (1 : Int32) = bI true := by decide
  obtain ⟨hM, hEM, hXM, hf4, h5, h6, h7, h8⟩ := h
  obtain ⟨rw0, hr0, hr1⟩ := hf4.2.2.2.2.2.2
  have hac : ∀ s, 1 ≤ s → s ≤ c 0 0 → M (q + 9) s = bI (b 0 s) := fun s u1 u2 => (h6 s u1 u2).1
  have hLD : L (q + 21) = D := hf4.2.2.2.2.2.1
  have hsl : (srL c b D v).length = (rlL c b D v (c 0 1)).length := sr_len hv (Nat.le_refl _)
  have hrl := rl_len (c := c) (b := b) (D := D) (v := v) (c 0 1)
  -- what holds behind the first way through
  have build : ∀ B : mwM, (∀ e, 1 ≤ e → e ≤ c 0 1 → B (q + 15) e = bI (seb c b D v (c 0 1) 4 e) ∧ B (q + 16) e = bI (seb c b D v (c 0 1) 5 e)) → B q 30 = zcN c b D v (x 1) (c 0 1) → (∃ r, r ≤ 500 ∧ B q 31 = sI r) → (∀ a y, ¬ (a = q + 15 ∨ a = q + 16 ∨ (q + 22 ≤ a ∧ a ≤ q + 26)) → ¬ (a = q ∧ (y = 30 ∨ y = 31 ∨ y = 33 ∨ y = 35)) → B a y = M a y) → ReM q B L c (seb c b D v (c 0 1)) va D (sex c b D x v (c 0 1)) := by
    intro B g1 g2 g4 g3
    have hb : ∀ r, r ≠ 4 → r ≠ 5 → seb c b D v (c 0 1) r = b r := by
      intro r u1 u2
      funext e
      unfold seb
      rw [if_neg u1, if_neg u2]
    unfold ReM
    rw [hb 0 (by omega) (by omega), hb 1 (by omega) (by omega), hb 2 (by omega) (by omega), hb 3 (by omega) (by omega), hb 6 (by omega) (by omega)]
    refine ⟨TrM_f hM (g3 _ _ (by omega) (by omega)) (fun a s u1 u2 => g3 _ _ (by omega) (by omega)), ?_, ?_, ?_, ?_, ?_, ?_, ?_⟩
    · refine ⟨?_, fun e u1 u2 => ?_⟩
      · simp (disch := omega) only [g3]; exact hEM.1
      · simp (disch := omega) only [g3]; exact hEM.2 e u1 u2
    · refine ⟨?_, fun e u1 => ?_⟩
      · simp (disch := omega) only [g3]; exact hXM.1
      · simp (disch := omega) only [g3]; exact hXM.2 e u1
    · simp (disch := omega) only [g3]
      exact ⟨hf4.1, hf4.2.1, hf4.2.2.1, g2, hf4.2.2.2.2.1, hf4.2.2.2.2.2.1, g4⟩
    · intro s hs
      simp (disch := omega) only [g3]; exact h5 s hs
    · intro s u1 hs
      simp (disch := omega) only [g3]; exact h6 s u1 hs
    · simp (disch := omega) only [g3]; exact h7
    · intro e u1 u2
      simp (disch := omega) only [g3]
      exact ⟨(h8 e u1 u2).1, g1 e u1 u2⟩
  -- going through the levels
  have levels : ∀ B : mwM, LiZ B (q + 23) (rlL c b D v (c 0 1)) → B q 33 = sI (rlL c b D v (c 0 1)).length → B q 35 = sI 0 → (∀ s, 1 ≤ s → s ≤ c 0 0 → B (q + 25) s = bI false) → (∀ e, 1 ≤ e → e ≤ c 0 1 → B (q + 15) e = bI (seb c b D v (c 0 1) 4 e) ∧ B (q + 16) e = bI (seb c b D v (c 0 1) 5 e)) → B q 30 = zcN c b D v (x 1) (c 0 1) → (∃ r, r ≤ 500 ∧ B q 31 = sI r) → (∀ a y, ¬ (a = q + 15 ∨ a = q + 16 ∨ (q + 22 ≤ a ∧ a ≤ q + 26)) → ¬ (a = q ∧ (y = 30 ∨ y = 31 ∨ y = 33 ∨ y = 35)) → B a y = M a y) → wq (fX13_choose_h128 fu q (sI v) fu (sI 41, B, L)) (fun z => z.1 = sI (tkL c b D v).length ∧ z.2.2 = L ∧ ReM q z.2.1 L c (seb c b D v (c 0 1)) va D (sex c b D x v (c 0 1)) ∧ LiZ z.2.1 (q + 24) (tkL c b D v) ∧ z.2.1 q 35 = sI (tkL c b D v).length ∧ ∀ a y, ¬ (q ≤ a ∧ a ≤ q + 29) → z.2.1 a y = M a y) := by
    intro B o1 o2 o3 o4 o5 o6 o7 o8
    -- what holds at a state of the going through: W are the edges gone through
    obtain ⟨St, hSt⟩ : ∃ St : List Nat → mwM → Prop, St = fun W a => (clL c b W).2.length ≤ W.length ∧ LiZ a (q + 24) (clL c b W).2 ∧ a q 35 = sI (clL c b W).2.length ∧ (∀ s, 1 ≤ s → s ≤ c 0 0 → a (q + 25) s = bI ((clL c b W).1 s)) ∧ ∀ d y, ¬ (q + 24 ≤ d ∧ d ≤ q + 26) → ¬ (d = q ∧ y = 35) → a d y = B d y := ⟨_, rfl⟩
    -- one edge more
    have one : ∀ (W : List Nat) (e j i : Nat) (a : mwM) (r128 : Int32 × mwM × mwL → Option (Int32 × mwM × mwL)) (r134 : Int32 × Int32 × mwM × mwL → Option (Int32 × mwM × mwL)) (Q : Int32 × mwM × mwL → Prop), St W a → W.length < (srL c b D v).length → i < 400 → 1 ≤ e → e ≤ c 0 1 → a (q + 23) i = sI e → (∀ a', St (W ++ [e]) a' → wq (r134 (sI j, sI (i + 1), a', L)) Q) → wq (mb3 (DX13_domain fu q (sI e) a L) (fun r37 M35 L36 => mb2 (DX13_findExits fu q r37 M35 L36) (fun M38 L39 => fX13_choose_h185 fu q (sI v) r128 r134 fu (sI j, sI i, 1, 1, M38, L39)))) Q := by
      intro W e j i a r128 r134 Q hW hWl hi e1 e2 e3 hQ
      rw [hSt] at hW hQ
      dsimp only at hQ
      obtain ⟨s0, s1, s2, s3, s4⟩ := hW
      have aM : TrM a q (c 0 0) (c 1) (c 2) (c 3) := TrM_f hM (by rw [s4 _ _ (by omega) (by omega), o8 _ _ (by omega) (by omega)]) (fun d s u1 u2 => by rw [s4 _ _ (by omega) (by omega), o8 _ _ (by omega) (by omega)])
      have aE : EdM a q (c 0 1) (c 4) (c 5) (c 6) (c 7) := ⟨by rw [s4 _ _ (by omega) (by omega), o8 _ _ (by omega) (by omega)]; exact hEM.1, fun j u1 u2 => by simp (disch := omega) only [s4, o8]; exact hEM.2 j u1 u2⟩
      have aac : ∀ s, 1 ≤ s → s ≤ c 0 0 → a (q + 9) s = bI (b 0 s) := fun s u1 u2 => by rw [s4 _ _ (by omega) (by omega), o8 _ _ (by omega) (by omega)]; exact hac s u1 u2
      have hdl := doE_le (c := c) (e := e)
      rw [m_domain (by omega) hT aM hE aE e1 e2, mb3_s]
      refine wq_b2 (m_findExits (d := doE c e) (by omega) hT aM aac hdl) ?_
      rintro M1 L1 ⟨y1, y2, y3⟩
      dsimp only at y1 y2 y3
      subst y1
      have m2 : M1 q 2 = sI (c 0 0) := (y3 _ _ (by omega)).trans aM.1
      have hst : clL c b (W ++ [e]) = clS c b (clL c b W) e := by
        unfold clL
        rw [List.foldl_append]
        rfl
      rw [hst] at hQ
      generalize hG : clL c b W = G at *
      -- apart, or not
      refine wq_for (body := fun r z => fX13_choose_i185 fu q (sI v) r128 r134 r z.1 z.2.1 z.2.2.1 z.2.2.2.1 z.2.2.2.2.1 z.2.2.2.2.2) (fun n (_ : Unit) => (sI j, sI i, bI (allN (fun s => !(exB (c 1) (c 3) (b 0) (doE c e) s && G.1 s)) (n - 1)), sI n, M1, L1)) (fun n _ => 1 ≤ n) (c 0 0 + 1) ?_ ?_ (c 0 0) 1 () fu (by omega) (by omega) (Nat.le_refl _)
      · intro n _ r hn hn1 ih
        obtain ⟨n, rfl⟩ : ∃ m, n = m + 1 := ⟨n - 1, by omega⟩
        have ih2 := ih () (by omega)
        show wq (fX13_choose_i185 fu q (sI v) r128 r134 r (sI j) (sI i) (bI (allN (fun s => !(exB (c 1) (c 3) (b 0) (doE c e) s && G.1 s)) n)) (sI (n + 1)) M1 L1) _
        simp only [show n + 1 + 1 - 1 = n + 1 from rfl, allN] at ih2
        have f1 := y2 (n + 1) (by omega) (by omega)
        have f2 : M1 (q + 25) (n + 1) = bI (G.1 (n + 1)) := (y3 _ _ (by omega)).trans (s3 _ (by omega) (by omega))
        unfold exB at ih2 ⊢
        unfold fX13_choose_i185 fX13_choose_b223 fX13_choose_b219 fX13_choose_b224
        simp (disch := omega) only [m2, f1, f2, mck_s, sI_nn, nn_s, sI_lt, sI_le, sI_eq, sI_ltl, sI_lel, sI_eql, sI_llt, sI_lle, sI_1, bI_0, bI_1, bI_n, mlet, mb3_s, mb2_s]
        rw [if_neg (by omega)]
        generalize allN (fun s => !(b 0 s && insB (c 1) (c 3) (doE c e) s && G.1 s)) n = x1 at *
        generalize (b 0 (n + 1) && insB (c 1) (c 3) (doE c e) (n + 1)) = x2 at *
        generalize G.1 (n + 1) = x3 at *
        cases x1 <;> cases x2 <;> cases x3 <;> simpa [bI] using ih2
      · intro _ r _
        show wq (fX13_choose_i185 fu q (sI v) r128 r134 r (sI j) (sI i) (bI (apB (c 1) (c 3) (b 0) (c 0 0) (doE c e) G.1)) (sI (c 0 0 + 1)) M1 L1) _
        unfold fX13_choose_i185
        rw [m2, if_pos (by rw [sI_lt (by omega) (by omega)]; omega)]
        cases hap : apB (c 1) (c 3) (b 0) (c 0 0) (doE c e) G.1 with
        | false =>
          have hs2 : clS c b G e = G := by
            unfold clS
            rw [hap, if_neg (by decide)]
          rw [hs2] at hQ
          obtain ⟨g, hg⟩ : ∃ g, fu = g + 1 := ⟨fu - 1, by omega⟩
          have fin : wq (fX13_choose_b287 fu q (sI v) r128 r134 (sI j) (sI i) (bI false) M1 L1) Q := by
            unfold fX13_choose_b287 fX13_choose_b317
            rw [if_pos bI_f]
            simp only [mlet]
            rw [sI_1]
            refine hQ M1 ⟨by rw [List.length_append]; omega, fun i w hw => ?_, ?_, fun s u1 u2 => ?_, fun d y u1 u2 => ?_⟩
            · rw [y3 _ _ (by omega)]; exact s1 i w hw
            · rw [y3 _ _ (by omega)]; exact s2
            · rw [y3 _ _ (by omega)]; exact s3 s u1 u2
            · rw [y3 _ _ (by omega)]; exact s4 d y u1 u2
          have : wq (fX13_choose_h235 fu q (sI v) r128 r134 (g + 1) (sI j, sI i, bI false, 1, M1, L1)) Q := by
            unfold fX13_choose_h235
            rw [mloop_S]
            show wq (fX13_choose_i235 fu q (sI v) r128 r134 _ (sI j) (sI i) (bI false) 1 M1 L1) _
            unfold fX13_choose_i235
            exact wq_if (fun _ => fin) (fun _ => by rw [if_pos bI_f]; exact fin)
          rw [← hg] at this
          exact this
        | true =>
          have hs2 : clS c b G e = (fun s => G.1 s || exB (c 1) (c 3) (b 0) (doE c e) s, G.2 ++ [e]) := by
            unfold clS
            rw [hap, if_pos rfl]
          rw [hs2] at hQ
          dsimp only at hQ
          rw [List.length_append (as := G.2), List.length_singleton] at hQ
          refine wq_for (body := fun r z => fX13_choose_i235 fu q (sI v) r128 r134 r z.1 z.2.1 z.2.2.1 z.2.2.2.1 z.2.2.2.2.1 z.2.2.2.2.2) (fun n (o : mwM) => (sI j, sI i, bI true, sI n, o, L1)) (fun n o => 1 ≤ n ∧ (∀ s, 1 ≤ s → s ≤ c 0 0 → o (q + 25) s = bI (G.1 s || (decide (s < n) && exB (c 1) (c 3) (b 0) (doE c e) s))) ∧ ∀ d y, d ≠ q + 25 → o d y = M1 d y) (c 0 0 + 1) ?_ ?_ (c 0 0) 1 M1 fu (by omega) (by omega) ⟨Nat.le_refl _, ?_, fun _ _ _ => rfl⟩
          · intro n o r hn ⟨hn1, t1, t2⟩ ih
            show wq (fX13_choose_i235 fu q (sI v) r128 r134 r (sI j) (sI i) (bI true) (sI n) o L1) _
            have f0 : o q 2 = sI (c 0 0) := (t2 _ _ (by omega)).trans m2
            have f1 : o (q + 26) n = bI (exB (c 1) (c 3) (b 0) (doE c e) n) := (t2 _ _ (by omega)).trans (y2 n (by omega) (by omega))
            have f2 := t1 n hn1 (by omega)
            rw [decide_eq_false (by omega), Bool.false_and, Bool.or_false] at f2
            have go : ∀ u : Int32, u = bI (G.1 n || exB (c 1) (c 3) (b 0) (doE c e) n) → wq (r (sI j, sI i, bI true, sI (n + 1), mset o (q + 25) n u, L1)) Q := by
              intro u hu
              refine ih _ ⟨by omega, fun s u1 u2 => ?_, fun d y u => by rw [mset_k u]; exact t2 d y u⟩
              by_cases hs : s = n
              · subst hs
                rw [mset_s, decide_eq_true (by omega), Bool.true_and]
                exact hu
              · rw [mset_j hs, t1 s u1 u2]
                by_cases hlt : s < n
                · rw [decide_eq_true hlt, decide_eq_true (by omega)]
                · rw [decide_eq_false hlt, decide_eq_false (by omega)]
            unfold fX13_choose_i235 fX13_choose_b275 fX13_choose_b280
            simp (disch := omega) only [f0, f1, f2, b0, b1, mck_s, sI_nn, nn_s, sI_lt, sI_le, sI_eq, sI_ltl, sI_lel, sI_eql, sI_llt, sI_lle, sI_1, bI_0, bI_1, bI_n, mlet, mb3_s, mb2_s]
            rw [if_neg (by omega), if_neg (by decide)]
            cases h1 : G.1 n with
            | true =>
              rw [if_neg (by decide)]
              exact go _ (by rw [h1]; rfl)
            | false =>
              rw [if_pos rfl]
              cases h2 : exB (c 1) (c 3) (b 0) (doE c e) n with
              | true =>
                rw [if_neg (by decide)]
                exact go _ (by rw [h1, h2]; rfl)
              | false =>
                rw [if_pos rfl]
                exact go _ (by rw [h1, h2]; rfl)
          · intro o r ⟨_, t1, t2⟩
            show wq (fX13_choose_i235 fu q (sI v) r128 r134 r (sI j) (sI i) (bI true) (sI (c 0 0 + 1)) o L1) _
            have f0 : o q 2 = sI (c 0 0) := (t2 _ _ (by omega)).trans m2
            have f35 : o q 35 = sI G.2.length := by rw [t2 _ _ (by omega), y3 _ _ (by omega)]; exact s2
            have f23 : o (q + 23) i = sI e := by rw [t2 _ _ (by omega), y3 _ _ (by omega)]; exact e3
            unfold fX13_choose_i235
            rw [f0, if_pos (by rw [sI_lt (by omega) (by omega)]; omega)]
            unfold fX13_choose_b287 fX13_choose_b317
            simp (disch := omega) only [f35, f23, mset_n, mck_s, sI_nn, nn_s, sI_lt, sI_le, sI_eq, sI_ltl, sI_lel, sI_eql, sI_llt, sI_lle, sI_1, bI_0, bI_1, bI_n, mlet, mb3_s, mb2_s]
            rw [if_neg (by decide)]
            refine hQ _ ⟨by rw [List.length_append, List.length_singleton]; omega, fun n w hw => ?_, by rw [mset_s], fun s u1 u2 => ?_, fun d y u1 u2 => ?_⟩
            · rw [mset_n (by omega)]
              rcases Nat.lt_trichotomy n G.2.length with g | g | g
              · rw [List.getElem?_append_left g] at hw
                rw [mset_j (by omega), t2 _ _ (by omega), y3 _ _ (by omega)]
                exact s1 n w hw
              · rw [List.getElem?_append_right (by omega), g, Nat.sub_self] at hw
                have : w = e := by simpa using hw.symm
                rw [g, mset_s, this]
              · rw [List.getElem?_eq_none (by rw [List.length_append, List.length_singleton]; omega)] at hw
                cases hw
            · rw [mset_n (by omega), mset_n (by omega), t1 s u1 u2, decide_eq_true (by omega)]
              simp
            · rw [mset_n (by omega), mset_n (by omega), t2 _ _ (by omega), y3 _ _ (by omega)]
              exact s4 d y u1 u2
          · intro s u1 u2
            rw [y3 _ _ (by omega), s3 s u1 u2, decide_eq_false (by omega)]
            simp
    -- the levels
    refine wq_for (body := fun r z => fX13_choose_i128 fu q (sI v) r z.1 z.2.1 z.2.2) (fun i (a : mwM) => (sI (41 - i), a, L)) (fun i a => i ≤ 41 ∧ ∃ W, srL c b D v = W ++ soL (kyE c) (rlL c b D v (c 0 1)) (41 - i) ∧ St W a) 41 ?_ ?_ 41 0 B fu (by omega) (by omega) ⟨by omega, [], rfl, ?_⟩
    · intro i a r128 hi ⟨_, W, hW1, hW2⟩ ih
      show wq (fX13_choose_i128 fu q (sI v) r128 (sI (41 - i)) a L) _
      obtain ⟨j, hj⟩ : ∃ j, 41 - i = j + 1 := ⟨40 - i, by omega⟩
      have hj2 : 41 - (i + 1) = j := by omega
      rw [hj] at hW1 ⊢
      rw [hj2] at ih
      unfold fX13_choose_i128
      rw [if_neg (by rw [sI_lel (by omega) (by decide)]; omega)]
      have hso : soL (kyE c) (rlL c b D v (c 0 1)) (j + 1) = slv (kyE c) (rlL c b D v (c 0 1)) (j + 1) ++ soL (kyE c) (rlL c b D v (c 0 1)) j := rfl
      have hWlen : W.length + (slv (kyE c) (rlL c b D v (c 0 1)) (j + 1)).length ≤ (srL c b D v).length := by
        rw [hW1, hso, List.length_append, List.length_append]
        omega
      refine wq_for (body := fun r z => fX13_choose_i134 fu q (sI v) r128 r z.1 z.2.1 z.2.2.1 z.2.2.2) (fun n (o : mwM) => (sI (j + 1), sI n, o, L)) (fun n o => St (W ++ slv (kyE c) ((rlL c b D v (c 0 1)).take n) (j + 1)) o) (rlL c b D v (c 0 1)).length ?_ ?_ (rlL c b D v (c 0 1)).length 0 a fu (by omega) (by omega) ?_
      · intro n o r hn hS ih3
        show wq (fX13_choose_i134 fu q (sI v) r128 r (sI (j + 1)) (sI n) o L) _
        have hg := List.getElem?_eq_getElem hn
        generalize hew : (rlL c b D v (c 0 1))[n] = e at hg
        have hmem : e ∈ rlL c b D v (c 0 1) := by rw [← hew]; exact List.getElem_mem hn
        obtain ⟨e1, e2, e3⟩ := rl_mem _ hmem
        obtain ⟨j1, j2, _⟩ := hE.2 e e1 e2
        have hky := ky_le hv e1 e2
        have hS' := hS
        rw [hSt] at hS'
        obtain ⟨_, _, _, _, s4⟩ := hS'
        have f33 : o q 33 = sI (rlL c b D v (c 0 1)).length := by rw [s4 _ _ (by omega) (by omega)]; exact o2
        have f23 : o (q + 23) n = sI e := by rw [s4 _ _ (by omega) (by omega)]; exact o1 n e hg
        have f10 : o (q + 10) e = sI (c 4 e) := by rw [s4 _ _ (by omega) (by omega), o8 _ _ (by omega) (by omega)]; exact (hEM.2 e e1 e2).1
        have f3 : o (q + 3) (c 4 e) = sI (kyE c e) := by rw [s4 _ _ (by omega) (by omega), o8 _ _ (by omega) (by omega)]; exact (hM.2 _ j2).2.2
        have htake : (rlL c b D v (c 0 1)).take (n + 1) = (rlL c b D v (c 0 1)).take n ++ [e] := by
          rw [List.take_succ, hg]
          rfl
        have hsub : (slv (kyE c) ((rlL c b D v (c 0 1)).take (n + 1)) (j + 1)).length ≤ (slv (kyE c) (rlL c b D v (c 0 1)) (j + 1)).length := by
          unfold slv
          exact List.Sublist.length_le (List.Sublist.filter _ (List.take_sublist _ _))
        unfold fX13_choose_i134
        simp (disch := omega) only [f33, f23, f10, f3, mck_s, sI_nn, nn_s, sI_lt, sI_le, sI_eq, sI_ltl, sI_lel, sI_eql, sI_llt, sI_lle, sI_1, bI_0, bI_1, bI_n, mlet, mb3_s, mb2_s]
        rw [if_neg (by omega)]
        by_cases hk : kyE c e = j + 1
        · rw [if_pos hk]
          have hsl2 : slv (kyE c) ((rlL c b D v (c 0 1)).take (n + 1)) (j + 1) = slv (kyE c) ((rlL c b D v (c 0 1)).take n) (j + 1) ++ [e] := by
            rw [htake]
            unfold slv
            rw [List.filter_append, List.filter_cons_of_pos (by simp [hk]), List.filter_nil]
          rw [hsl2] at ih3 hsub
          rw [← List.append_assoc] at ih3
          rw [List.length_append, List.length_singleton] at hsub
          exact one _ e (j + 1) n o r128 r _ hS (by rw [List.length_append]; omega) (by omega) e1 e2 f23 ih3
        · rw [if_neg hk]
          have hsl2 : slv (kyE c) ((rlL c b D v (c 0 1)).take (n + 1)) (j + 1) = slv (kyE c) ((rlL c b D v (c 0 1)).take n) (j + 1) := by
            rw [htake]
            unfold slv
            rw [List.filter_append, List.filter_cons_of_neg (by simp [hk]), List.filter_nil, List.append_nil]
          rw [hsl2] at ih3
          unfold fX13_choose_b317
          simp only [mlet]
          rw [sI_1]
          exact ih3 o hS
      · intro o r hS
        show wq (fX13_choose_i134 fu q (sI v) r128 r (sI (j + 1)) (sI (rlL c b D v (c 0 1)).length) o L) _
        rw [List.take_length] at hS
        have hS' := hS
        rw [hSt] at hS'
        obtain ⟨_, _, _, _, s4⟩ := hS'
        have f33 : o q 33 = sI (rlL c b D v (c 0 1)).length := by rw [s4 _ _ (by omega) (by omega)]; exact o2
        unfold fX13_choose_i134
        rw [f33, if_pos (by rw [sI_le (by omega) (by omega)]; exact Nat.le_refl _)]
        simp only [mlet]
        rw [sI_pm]
        refine ih o ⟨by omega, W ++ slv (kyE c) (rlL c b D v (c 0 1)) (j + 1), ?_, hS⟩
        rw [hW1, hso, List.append_assoc]
      · rw [show slv (kyE c) ((rlL c b D v (c 0 1)).take 0) (j + 1) = [] from rfl, List.append_nil]
        exact hW2
    · intro a r ⟨_, W, hW1, hW2⟩
      show wq (fX13_choose_i128 fu q (sI v) r (sI (41 - 41)) a L) _
      rw [show 41 - 41 = 0 from rfl] at hW1 ⊢
      rw [show soL (kyE c) (rlL c b D v (c 0 1)) 0 = [] from rfl, List.append_nil] at hW1
      rw [hSt, ← hW1] at hW2
      obtain ⟨s0, s1, s2, s3, s4⟩ := hW2
      unfold fX13_choose_i128
      rw [if_pos (by decide)]
      refine wq_some ⟨s2, rfl, ?_, s1, s2, fun d y u => ?_⟩
      all_goals (try dsimp only)
      · refine build a (fun e u1 u2 => ?_) ?_ ?_ (fun d y u1 u2 => ?_)
        · rw [s4 _ _ (by omega) (by omega), s4 _ _ (by omega) (by omega)]; exact o5 e u1 u2
        · rw [s4 _ _ (by omega) (by omega)]; exact o6
        · rw [s4 _ _ (by omega) (by omega)]; exact o7
        · rw [s4 _ _ (by omega) (by omega)]; exact o8 d y u1 u2
      · rw [s4 _ _ (by omega) (by omega)]; exact o8 d y (by omega) (by omega)
    · rw [hSt]
      exact ⟨Nat.le_refl _, fun j w hw => absurd hw (by simp [clL]), o3, o4, fun _ _ _ _ => rfl⟩
  -- the first way
  unfold DX13_choose
  simp only [mlet]
  refine wq_for (body := fun r z => fX13_choose_i7 fu q (sI v) r z.1 z.2.1 z.2.2) (fun i (a : mwM) => (sI i, a, L)) (fun i a => 1 ≤ i ∧ LiZ a (q + 23) (rlL c b D v (i - 1)) ∧ a q 33 = sI (rlL c b D v (i - 1)).length ∧ (∀ e, 1 ≤ e → e ≤ c 0 1 → a (q + 15) e = bI (seb c b D v (i - 1) 4 e) ∧ a (q + 16) e = bI (seb c b D v (i - 1) 5 e)) ∧ a q 30 = zcN c b D v (x 1) (i - 1) ∧ (∃ r, r ≤ 500 ∧ a q 31 = sI r) ∧ ∀ d y, ¬ (d = q + 15 ∨ d = q + 16 ∨ d = q + 22 ∨ d = q + 23) → ¬ (d = q ∧ (y = 30 ∨ y = 31 ∨ y = 33)) → a d y = M d y) (c 0 1 + 1) ?_ ?_ (c 0 1) 1 (mset M q 33 0) fu (by omega) (by omega) ⟨Nat.le_refl _, ?_, ?_, ?_, ?_, ?_, ?_⟩
  · intro i a r hi ⟨h1i, q0, q1, q2, q3, ⟨rw1, q5, q6⟩, q4⟩ ih
    obtain ⟨n, rfl⟩ : ∃ n, i = n + 1 := ⟨i - 1, by omega⟩
    rw [Nat.add_sub_cancel] at q0 q1 q2 q3
    have ih2 := ih
    simp only [show n + 1 + 1 - 1 = n + 1 from rfl] at ih2
    show wq (fX13_choose_i7 fu q (sI v) r (sI (n + 1)) a L) _
    have aM : TrM a q (c 0 0) (c 1) (c 2) (c 3) := TrM_f hM (q4 _ _ (by omega) (by omega)) (fun d s u1 u2 => q4 _ _ (by omega) (by omega))
    have aE : EdM a q (c 0 1) (c 4) (c 5) (c 6) (c 7) := ⟨(q4 _ _ (by omega) (by omega)).trans hEM.1, fun j u1 u2 => by simp (disch := omega) only [q4]; exact hEM.2 j u1 u2⟩
    have aac : ∀ s, 1 ≤ s → s ≤ c 0 0 → a (q + 9) s = bI (b 0 s) := fun s u1 u2 => (q4 _ _ (by omega) (by omega)).trans (hac s u1 u2)
    obtain ⟨j1, j2, j3, j4, j5, j6, j7, j8, j9⟩ := hE.2 (n + 1) (by omega) (by omega)
    obtain ⟨a1, a2, a3, a4⟩ := aE.2 (n + 1) (by omega) (by omega)
    have k1 := (aM.2 _ j2).2.1
    have k2 := (aM.2 _ j4).2.1
    have kk1 := (Tr_pa hT j2).2.2.2.1
    have kk2 := (Tr_pa hT j4).2.2.2.1
    have hrl := rl_len (c := c) (b := b) (D := D) (v := v) n
    have em := m_waitsFor (fu := fu) (L := L) (by omega) hT aM hE aE aac (show 1 ≤ n + 1 by omega) (show n + 1 ≤ c 0 1 by omega)
    have erl : rlL c b D v (n + 1) = rlL c b D v n ++ (if rdB c b D v (n + 1) = true then [n + 1] else []) := rfl
    have ezc : zcN c b D v (x 1) (n + 1) = if (cnB c b v (n + 1) && hzB D (c 7 (n + 1))) = true then zcN c b D v (x 1) n + 1 else zcN c b D v (x 1) n := rfl
    have oth : ∀ e, e ≠ n + 1 → seb c b D v (n + 1) 4 e = seb c b D v n 4 e ∧ seb c b D v (n + 1) 5 e = seb c b D v n 5 e := by
      intro e he
      have : decide (e ≤ n + 1) = decide (e ≤ n) := by
        by_cases hq : e ≤ n
        · rw [decide_eq_true hq, decide_eq_true (by omega)]
        · rw [decide_eq_false hq, decide_eq_false (by omega)]
      unfold seb
      simp only [this]
      exact ⟨trivial, trivial⟩
    have own0 : seb c b D v n 4 (n + 1) = b 4 (n + 1) ∧ seb c b D v n 5 (n + 1) = b 5 (n + 1) := by
      unfold seb
      rw [decide_eq_false (show ¬ n + 1 ≤ n by omega)]
      simp
    have own1 : seb c b D v (n + 1) 4 (n + 1) = (b 4 (n + 1) || (cnB c b v (n + 1) && (decide (c 7 (n + 1) ≠ 0) && hdB D (c 7 (n + 1))))) ∧ seb c b D v (n + 1) 5 (n + 1) = (b 5 (n + 1) || (cnB c b v (n + 1) && (decide (c 7 (n + 1) ≠ 0) && !hdB D (c 7 (n + 1))))) := by
      unfold seb
      rw [decide_eq_true (Nat.le_refl (n + 1))]
      simp
    have skip : cnB c b v (n + 1) = false → wq (r (sI (n + 1 + 1), a, L)) (fun z => z.1 = sI (tkL c b D v).length ∧ z.2.2 = L ∧ ReM q z.2.1 L c (seb c b D v (c 0 1)) va D (sex c b D x v (c 0 1)) ∧ LiZ z.2.1 (q + 24) (tkL c b D v) ∧ z.2.1 q 35 = sI (tkL c b D v).length ∧ ∀ a y, ¬ (q ≤ a ∧ a ≤ q + 29) → z.2.1 a y = M a y) := by
      intro hcn
      have hr0 : rdB c b D v (n + 1) = false := by unfold rdB; rw [hcn]; rfl
      have er : rlL c b D v (n + 1) = rlL c b D v n := by rw [erl, hr0, if_neg (by decide), List.append_nil]
      rw [er] at ih2
      refine ih2 a ⟨by omega, q0, q1, fun e u1 u2 => ?_, ?_, ⟨rw1, q5, q6⟩, q4⟩
      · by_cases he : e = n + 1
        · subst he
          have := q2 (n + 1) u1 u2
          rw [own0.1, own0.2] at this
          rw [own1.1, own1.2, hcn]
          simpa using this
        · rw [(oth e he).1, (oth e he).2]
          exact q2 e u1 u2
      · rw [ezc, hcn]
        exact q3
    unfold fX13_choose_i7 fX13_choose_b91
    simp (disch := omega) only [aE.1, a1, a2, a3, k1, k2, em, mck_s, sI_nn, nn_s, sI_lt, sI_le, sI_eq, sI_ltl, sI_lel, sI_eql, sI_llt, sI_lle, sI_1, bI_0, bI_1, bI_n, mlet, mb3_s, mb2_s]
    rw [if_neg (by omega)]
    by_cases hev : c 6 (n + 1) = v
    · rw [if_pos hev]
      by_cases h4 : c 2 (c 4 (n + 1)) = 4
      · rw [if_pos h4]
        exact skip (by unfold cnB goB; simp [h4])
      rw [if_neg h4]
      by_cases h5 : c 2 (c 5 (n + 1)) = 5
      · rw [if_pos h5]
        exact skip (by unfold cnB goB; simp [h5])
      rw [if_neg h5]
      cases hwt : wtB (c 2) (c 4) (c 5) (c 0 1) (b 0) (n + 1) with
      | false =>
        rw [if_pos rfl]
        exact skip (by unfold cnB goB; rw [hwt]; simp)
      | true =>
        rw [if_neg (by decide)]
        have hcn : cnB c b v (n + 1) = true := by unfold cnB goB; rw [hwt, decide_eq_true hev, decide_eq_true h4, decide_eq_true h5]; rfl
        have a26 := q2 (n + 1) (by omega) (by omega)
        rw [own0.1, own0.2] at a26
        refine wq_b3 (m_holds13 (g := c 7 (n + 1)) (rw' := rw1) (by omega) j8 j9 a4 a26.1 a26.2 q6 q5) ?_
        rintro r1 M1 L1 ⟨y1, y2, y3, y4, y5, y6, y7⟩
        dsimp only at y1 y2 y3 y4 y5 y6 y7
        subst y1 y2
        rw [hLD] at y3 y4 y5 ⊢
        rw [hcn, Bool.true_and, Bool.true_and] at own1
        rw [hcn, Bool.true_and] at ezc
        have m26 : ∀ e, 1 ≤ e → e ≤ c 0 1 → M1 (q + 15) e = bI (seb c b D v (n + 1) 4 e) ∧ M1 (q + 16) e = bI (seb c b D v (n + 1) 5 e) := by
          intro e u1 u2
          by_cases he : e = n + 1
          · subst he
            rw [own1.1, own1.2]
            exact ⟨y3, y4⟩
          · rw [(oth e he).1, (oth e he).2, y7 _ _ (by omega) (by omega) (by omega), y7 _ _ (by omega) (by omega) (by omega)]
            exact q2 e u1 u2
        have m15 : M1 q 30 = zcN c b D v (x 1) (n + 1) := by
          rw [y5, ezc, q3]
        have mfr : ∀ d y, ¬ (d = q + 15 ∨ d = q + 16 ∨ d = q + 22 ∨ d = q + 23) → ¬ (d = q ∧ (y = 30 ∨ y = 31 ∨ y = 33)) → M1 d y = M d y := by
          intro d y u1 u2
          rw [y7 _ _ (by omega) (by omega) (by omega)]
          exact q4 d y u1 u2
        have m33 : M1 q 33 = sI (rlL c b D v n).length := by rw [y7 _ _ (by omega) (by omega) (by omega)]; exact q1
        have m23 : LiZ M1 (q + 23) (rlL c b D v n) := fun j w hw => by rw [y7 _ _ (by omega) (by omega) (by omega)]; exact q0 j w hw
        cases hhd : hdB D (c 7 (n + 1)) with
        | false =>
          rw [if_pos bI_f]
          have hr0 : rdB c b D v (n + 1) = false := by unfold rdB; rw [hhd]; simp
          have er : rlL c b D v (n + 1) = rlL c b D v n := by rw [erl, hr0, if_neg (by decide), List.append_nil]
          rw [er] at ih2
          exact ih2 M1 ⟨by omega, m23, m33, m26, m15, y6, mfr⟩
        | true =>
          rw [if_neg (by decide)]
          have hr1 : rdB c b D v (n + 1) = true := by unfold rdB; rw [hcn, hhd]; rfl
          have er : rlL c b D v (n + 1) = rlL c b D v n ++ [n + 1] := by rw [erl, hr1, if_pos rfl]
          rw [er] at ih2
          rw [List.length_append, List.length_singleton] at ih2
          simp (disch := omega) only [m33, mset_n, mck_s, sI_nn, nn_s, sI_lt, sI_le, sI_eq, sI_ltl, sI_lel, sI_eql, sI_llt, sI_lle, sI_1, bI_0, bI_1, bI_n, mlet, mb3_s, mb2_s]
          obtain ⟨rw2, y61, y62⟩ := y6
          refine ih2 _ ⟨by omega, fun j w hw => ?_, by rw [mset_s], fun e u1 u2 => ?_, ?_, ⟨rw2, y61, ?_⟩, fun d y u1 u2 => ?_⟩
          · rw [mset_n (by omega)]
            rcases Nat.lt_trichotomy j (rlL c b D v n).length with g | g | g
            · rw [List.getElem?_append_left g] at hw
              rw [mset_j (by omega)]
              exact m23 j w hw
            · rw [List.getElem?_append_right (by omega), g, Nat.sub_self] at hw
              have : w = n + 1 := by simpa using hw.symm
              rw [g, mset_s, this]
            · rw [List.getElem?_eq_none (by rw [List.length_append, List.length_singleton]; omega)] at hw
              cases hw
          · simp (disch := omega) only [mset_n]; exact m26 e u1 u2
          · simp (disch := omega) only [mset_n]; exact m15
          · simp (disch := omega) only [mset_n]; exact y62
          · simp (disch := omega) only [mset_n]; exact mfr d y u1 u2
    · rw [if_neg hev]
      exact skip (by unfold cnB; rw [decide_eq_false hev]; rfl)
  · intro a r ⟨_, q0, q1, q2, q3, q5, q4⟩
    rw [Nat.add_sub_cancel] at q0 q1 q2 q3
    show wq (fX13_choose_i7 fu q (sI v) r (sI (c 0 1 + 1)) a L) _
    have e8 : a q 12 = sI (c 0 1) := (q4 _ _ (by omega) (by omega)).trans hEM.1
    unfold fX13_choose_i7
    rw [e8, if_pos (by rw [sI_lt (by omega) (by omega)]; omega)]
    simp only [mlet]
    refine wq_for (body := fun r z => fX13_choose_i104 fu q (sI v) r z.1 z.2.1 z.2.2) (fun i (o : mwM) => (sI i, o, L)) (fun i o => (∀ s, s < i → o (q + 25) s = bI false) ∧ ∀ d y, d ≠ q + 25 → o d y = mset a q 35 0 d y) (c 0 0 + 1) ?_ ?_ (c 0 0 + 1) 0 (mset a q 35 0) fu (by omega) (by omega) ⟨fun s u2 => by omega, fun _ _ _ => rfl⟩
    · intro i o r hi ⟨s1, s2⟩ ih
      show wq (fX13_choose_i104 fu q (sI v) r (sI i) o L) _
      have o7 : o q 2 = sI (c 0 0) := by rw [s2 _ _ (by omega), mset_n (by omega), q4 _ _ (by omega) (by omega)]; exact hM.1
      unfold fX13_choose_i104
      simp (disch := omega) only [o7, b0, mck_s, sI_nn, nn_s, sI_lt, sI_le, sI_eq, sI_ltl, sI_lel, sI_eql, sI_llt, sI_lle, sI_1, bI_0, bI_1, bI_n, mlet, mb3_s, mb2_s]
      rw [if_neg (by omega)]
      refine ih _ ⟨fun s u2 => ?_, fun d y u => by rw [mset_k u]; exact s2 d y u⟩
      by_cases hs : s = i
      · rw [hs, mset_s]
      · rw [mset_j hs]; exact s1 s (by omega)
    · intro o r ⟨s1, s2⟩
      show wq (fX13_choose_i104 fu q (sI v) r (sI (c 0 0 + 1)) o L) _
      have o7 : o q 2 = sI (c 0 0) := by rw [s2 _ _ (by omega), mset_n (by omega), q4 _ _ (by omega) (by omega)]; exact hM.1
      unfold fX13_choose_i104
      rw [o7, if_pos (by rw [sI_lt (by omega) (by omega)]; omega)]
      refine levels o (fun j w hw => ?_) ?_ ?_ (fun s u1 u2 => s1 s (by omega)) (fun e u1 u2 => ?_) ?_ ?_ (fun d y u1 u2 => ?_)
      · rw [s2 _ _ (by omega), mset_n (by omega)]; exact q0 j w hw
      · rw [s2 _ _ (by omega), mset_n (by omega)]; exact q1
      · rw [s2 _ _ (by omega), mset_s]; rfl
      · rw [s2 _ _ (by omega), mset_n (by omega), s2 _ _ (by omega), mset_n (by omega)]; exact q2 e u1 u2
      · rw [s2 _ _ (by omega), mset_n (by omega)]; exact q3
      · rw [s2 _ _ (by omega), mset_n (by omega)]; exact q5
      · rw [s2 _ _ (by omega), mset_n (by omega)]; exact q4 d y (by omega) (by omega)
  · intro j w hw
    cases hw
  · rw [mset_s]; rfl
  · intro e u1 u2
    have := h8 e u1 u2
    unfold seb
    rw [decide_eq_false (show ¬ e ≤ 1 - 1 by omega), mset_n (by omega), mset_n (by omega)]
    simpa using this.2
  · rw [mset_n (by omega)]; exact hf4.2.2.2.1
  · exact ⟨rw0, hr0, by rw [mset_n (by omega)]; exact hr1⟩
  · intro d y u1 u2
    exact mset_n (by omega)
/-! what an edge aims at, and what is entered -/
/-- something on the way from f up to d -/
def clm (pa : Nat → Nat) (d : Nat) (p : Nat → Bool) : Nat → Nat → Bool
  | 0, _ => false
  | m + 1, f => if f = d then false else (p f || clm pa d p m (pa f))
def onP (c : Nat → Nat → Nat) (d f s : Nat) : Bool := clm (c 1) d (fun t => decide (t = s)) (c 3 f) f
def sib (c : Nat → Nat → Nat) (o : Nat → Bool) (s : Nat) : Bool := anyN (fun t => decide (t ≠ s) && decide (c 1 t = c 1 s) && o t) (c 0 0)
def blk (c : Nat → Nat → Nat) (d f : Nat) (o : Nat → Bool) : Bool := clm (c 1) d (fun s => decide (c 2 (c 1 s) = 0) && sib c o s) (c 3 f) f
def frA (c : Nat → Nat → Nat) (t : Nat) : Nat := if 2 ≤ c 2 t then c 1 t else t
def aiF (c : Nat → Nat → Nat) (d : Nat) (g : Nat → Nat → Bool) (t : Nat) : Nat → Nat → Bool := if blk c d (frA c t) (g 0) = true then g else fun r s => if r = 0 then g 0 s || onP c d (frA c t) s else if r = 1 then g 1 s || (decide (s = c 1 t) && decide (c 2 t = 2)) else if r = 2 then g 2 s || (decide (s = c 1 t) && decide (c 2 t = 3)) else g r s
def aiN (c : Nat → Nat → Nat) (e d : Nat) : Nat → Nat → Nat → Bool
  | 0 => fun _ _ => false
  | j + 1 => if sT (c 2) (c 4) (c 5) e (j + 1) = true then aiF c d (aiN c e d j) (c 5 (j + 1)) else aiN c e d j
theorem clm_0 {pa : Nat → Nat} {d : Nat} {p : Nat → Bool} : ∀ m, clm pa d p m d = false := by
  intro m
  cases m with
  | zero => rfl
  | succ m =>
    show (if d = d then false else (p d || clm pa d p m (pa d))) = false
    rw [if_pos rfl]
theorem clm_S {N : Nat} {pa kd de : Nat → Nat} (h : Tr N pa kd de) {d f : Nat} {p : Nat → Bool} (hf : f ≤ N) (hd : insB pa de d f = true) : clm pa d p (de f) f = (p f || clm pa d p (de (pa f)) (pa f)) := by
  have h1 : 1 ≤ f := by
    rcases Nat.eq_zero_or_pos f with q | q
    · rw [q, ins_0 h] at hd; cases hd
    · exact q
  have := (h.2.2.2.2 f h1 hf).2.1
  have hl := ins_lt h f hf hd
  rw [this]
  show (if f = d then false else (p f || clm pa d p (de (pa f)) (pa f))) = _
  rw [if_neg (by omega)]
/-- going up by induction -/
theorem up_ind {N : Nat} {pa kd de : Nat → Nat} (h : Tr N pa kd de) {d : Nat} {P : Nat → Prop} (h0 : P d) (hs : ∀ f, f ≤ N → insB pa de d f = true → (pa f = d ∨ insB pa de d (pa f) = true) → P (pa f) → P f) : ∀ f, f ≤ N → (f = d ∨ insB pa de d f = true) → P f := by
  intro f
  induction f using Nat.strongRecOn with
  | _ f ih =>
    intro hf hd
    rcases hd with rfl | hd
    · exact h0
    · have h1 : 1 ≤ f := by
        rcases Nat.eq_zero_or_pos f with q | q
        · rw [q, ins_0 h] at hd; cases hd
        · exact q
      have hp := (h.2.2.2.2 f h1 hf).1
      have hd2 : pa f = d ∨ insB pa de d (pa f) = true := by
        have := hd
        rw [ins_S h h1 hf, Bool.or_eq_true, decide_eq_true_eq] at this
        exact this
      exact hs f hf hd hd2 (ih (pa f) hp (by omega) hd2)
theorem clm_iff {N : Nat} {pa kd de : Nat → Nat} (h : Tr N pa kd de) {d : Nat} {p : Nat → Bool} : ∀ f, f ≤ N → (f = d ∨ insB pa de d f = true) → (clm pa d p (de f) f = true ↔ ∃ s, s ≤ N ∧ clm pa d (fun t => decide (t = s)) (de f) f = true ∧ p s = true) := by
  refine up_ind h (P := fun f => (clm pa d p (de f) f = true ↔ ∃ s, s ≤ N ∧ clm pa d (fun t => decide (t = s)) (de f) f = true ∧ p s = true)) ?_ ?_
  · rw [clm_0]
    constructor
    · intro q; cases q
    · rintro ⟨s, _, h2, _⟩
      rw [clm_0] at h2
      cases h2
  · intro f hf hd _ ih
    rw [clm_S h hf hd, Bool.or_eq_true, ih]
    constructor
    · rintro (q | ⟨s, h1, h2, h3⟩)
      · exact ⟨f, hf, by rw [clm_S h hf hd]; simp, q⟩
      · exact ⟨s, h1, by rw [clm_S h hf hd, h2]; simp, h3⟩
    · rintro ⟨s, h1, h2, h3⟩
      rw [clm_S h hf hd, Bool.or_eq_true, decide_eq_true_eq] at h2
      rcases h2 with q | q
      · exact Or.inl (q ▸ h3)
      · exact Or.inr ⟨s, h1, q, h3⟩
/-- what lies on the way -/
theorem on_facts {N : Nat} {pa kd de : Nat → Nat} (h : Tr N pa kd de) {d s : Nat} : ∀ f, f ≤ N → (f = d ∨ insB pa de d f = true) → clm pa d (fun t => decide (t = s)) (de f) f = true → insB pa de d s = true ∧ s ≤ f ∧ (s = f ∨ kd s ≤ 1) ∧ (pa s = d ∨ clm pa d (fun t => decide (t = pa s)) (de f) f = true) := by
  refine up_ind h (P := fun f => clm pa d (fun t => decide (t = s)) (de f) f = true → insB pa de d s = true ∧ s ≤ f ∧ (s = f ∨ kd s ≤ 1) ∧ (pa s = d ∨ clm pa d (fun t => decide (t = pa s)) (de f) f = true)) ?_ ?_
  · intro q
    rw [clm_0] at q
    cases q
  · intro f hf hd hd2 ih hq
    have h1 : 1 ≤ f := by
      rcases Nat.eq_zero_or_pos f with q | q
      · rw [q, ins_0 h] at hd; cases hd
      · exact q
    obtain ⟨w1, w2, w3, w4, w5⟩ := h.2.2.2.2 f h1 hf
    rw [clm_S h hf hd, Bool.or_eq_true, decide_eq_true_eq] at hq
    rcases hq with rfl | hq
    · refine ⟨hd, Nat.le_refl _, Or.inl rfl, ?_⟩
      rcases hd2 with q | q
      · exact Or.inl q
      · right
        rw [clm_S h hf hd, clm_S h (by omega) q]
        simp
    · obtain ⟨i1, i2, i3, i4⟩ := ih hq
      refine ⟨i1, by omega, ?_, ?_⟩
      · right
        rcases i3 with q | q
        · rw [q]; exact w5
        · exact q
      · rcases i4 with q | q
        · exact Or.inl q
        · right
          rw [clm_S h hf hd, q]
          simp
/-- on the way no two have one parent -/
theorem on_uniq {N : Nat} {pa kd de : Nat → Nat} (h : Tr N pa kd de) {d s t : Nat} (hst : pa s = pa t) : ∀ f, f ≤ N → (f = d ∨ insB pa de d f = true) → clm pa d (fun z => decide (z = s)) (de f) f = true → clm pa d (fun z => decide (z = t)) (de f) f = true → s = t := by
  refine up_ind h (P := fun f => clm pa d (fun z => decide (z = s)) (de f) f = true → clm pa d (fun z => decide (z = t)) (de f) f = true → s = t) ?_ ?_
  · intro q
    rw [clm_0] at q
    cases q
  · intro f hf hd hd2 ih h1 h2
    have hf1 : 1 ≤ f := by
      rcases Nat.eq_zero_or_pos f with q | q
      · rw [q, ins_0 h] at hd; cases hd
      · exact q
    have hpf := (h.2.2.2.2 f hf1 hf).1
    rw [clm_S h hf hd, Bool.or_eq_true, decide_eq_true_eq] at h1 h2
    rcases h1 with rfl | h1
    · rcases h2 with rfl | h2
      · rfl
      · exfalso
        have g1 := on_facts h (pa f) (by omega) hd2 h2
        have ht1 : 1 ≤ t := by
          rcases Nat.eq_zero_or_pos t with q | q
          · rw [q, ins_0 h] at g1; cases g1.1
          · exact q
        have := (h.2.2.2.2 t ht1 (by omega)).1
        omega
    · rcases h2 with rfl | h2
      · exfalso
        have g1 := on_facts h (pa f) (by omega) hd2 h1
        have ht1 : 1 ≤ s := by
          rcases Nat.eq_zero_or_pos s with q | q
          · rw [q, ins_0 h] at g1; cases g1.1
          · exact q
        have := (h.2.2.2.2 s ht1 (by omega)).1
        omega
      · exact ih h1 h2
/-- what the aims keep to -/
def GoA (c : Nat → Nat → Nat) (d : Nat) (g : Nat → Nat → Bool) : Prop := ∀ s, g 0 s = true → 1 ≤ s ∧ s ≤ c 0 0 ∧ c 2 s ≤ 1 ∧ insB (c 1) (c 3) d s = true ∧ (c 1 s = d ∨ g 0 (c 1 s) = true) ∧ ∀ t, g 0 t = true → c 1 t = c 1 s → c 2 (c 1 s) = 0 → t = s
theorem GoA_0 {c : Nat → Nat → Nat} {d : Nat} : GoA c d (fun _ _ => false) := by
  intro s h
  cases h
theorem frA_in {c : Nat → Nat → Nat} {d t : Nat} (hT : Tr (c 0 0) (c 1) (c 2) (c 3)) (h1 : 1 ≤ t) (ht : t ≤ c 0 0) (hd : insB (c 1) (c 3) d t = true) : frA c t ≤ c 0 0 ∧ (frA c t = d ∨ insB (c 1) (c 3) d (frA c t) = true) ∧ (frA c t = d ∨ c 2 (frA c t) ≤ 1) := by
  obtain ⟨w1, w2, w3, w4, w5⟩ := hT.2.2.2.2 t h1 ht
  unfold frA
  by_cases hm : 2 ≤ c 2 t
  · rw [if_pos hm]
    refine ⟨by omega, ?_, Or.inr w5⟩
    rw [ins_S hT h1 ht, Bool.or_eq_true, decide_eq_true_eq] at hd
    exact hd
  · rw [if_neg hm]
    exact ⟨ht, Or.inr hd, Or.inr (by omega)⟩
theorem sib_iff {c : Nat → Nat → Nat} {o : Nat → Bool} {s : Nat} : sib c o s = true ↔ ∃ t, 1 ≤ t ∧ t ≤ c 0 0 ∧ t ≠ s ∧ c 1 t = c 1 s ∧ o t = true := by
  unfold sib
  rw [anyN_iff]
  constructor
  · rintro ⟨t, h1, h2, h3⟩
    simp only [Bool.and_eq_true, decide_eq_true_eq] at h3
    exact ⟨t, h1, h2, h3.1.1, h3.1.2, h3.2⟩
  · rintro ⟨t, h1, h2, h3, h4, h5⟩
    exact ⟨t, h1, h2, by simp [h3, h4, h5]⟩
theorem GoA_F {c : Nat → Nat → Nat} {d t : Nat} {g : Nat → Nat → Bool} (hT : Tr (c 0 0) (c 1) (c 2) (c 3)) (hg : GoA c d g) (h1 : 1 ≤ t) (ht : t ≤ c 0 0) (hd : insB (c 1) (c 3) d t = true) : GoA c d (aiF c d g t) := by
  unfold aiF
  by_cases hb : blk c d (frA c t) (g 0) = true
  · rw [if_pos hb]; exact hg
  rw [if_neg hb]
  obtain ⟨f1, f2, f3⟩ := frA_in hT h1 ht hd
  have key : ∀ s, onP c d (frA c t) s = true → 1 ≤ s ∧ s ≤ c 0 0 ∧ c 2 s ≤ 1 ∧ insB (c 1) (c 3) d s = true ∧ (c 1 s = d ∨ onP c d (frA c t) (c 1 s) = true) := by
    intro s hs
    have hs' := hs
    unfold onP at hs'
    have := on_facts hT (frA c t) f1 f2 hs'
    have hs1 : 1 ≤ s := by
      rcases Nat.eq_zero_or_pos s with q | q
      · rw [q, ins_0 hT] at this; cases this.1
      · exact q
    refine ⟨hs1, by omega, ?_, this.1, this.2.2.2⟩
    rcases this.2.2.1 with q | q
    · rcases f3 with w | w
      · exfalso
        rw [w, clm_0] at hs'
        cases hs'
      · rw [q]; exact w
    · exact q
  intro s hs
  simp only [if_true, Bool.or_eq_true] at hs
  have main : 1 ≤ s ∧ s ≤ c 0 0 ∧ c 2 s ≤ 1 ∧ insB (c 1) (c 3) d s = true ∧ (c 1 s = d ∨ (g 0 (c 1 s) || onP c d (frA c t) (c 1 s)) = true) := by
    rcases hs with hs | hs
    · obtain ⟨u1, u2, u3, u4, u5, u6⟩ := hg s hs
      refine ⟨u1, u2, u3, u4, ?_⟩
      rcases u5 with q | q
      · exact Or.inl q
      · right; rw [q]; rfl
    · obtain ⟨u1, u2, u3, u4, u5⟩ := key s hs
      refine ⟨u1, u2, u3, u4, ?_⟩
      rcases u5 with q | q
      · exact Or.inl q
      · right; rw [q]; simp
  -- under a plain parent there is one alone
  have nb : ∀ z, onP c d (frA c t) z = true → c 2 (c 1 z) = 0 → ∀ y, g 0 y = true → c 1 y = c 1 z → y = z := by
    intro z hz hp y hy hyz
    by_cases hq : y = z
    · exact hq
    exfalso
    refine hb ?_
    unfold blk
    rw [clm_iff hT _ f1 f2]
    have hy2 := hg y hy
    refine ⟨z, (key z hz).2.1, hz, ?_⟩
    rw [decide_eq_true hp, Bool.true_and, sib_iff]
    exact ⟨y, hy2.1, hy2.2.1, hq, hyz, hy⟩
  refine ⟨main.1, main.2.1, main.2.2.1, main.2.2.2.1, main.2.2.2.2, ?_⟩
  intro y hy hys hp
  simp only [if_true, Bool.or_eq_true] at hy
  rcases hs with hs | hs
  · rcases hy with hy | hy
    · exact (hg s hs).2.2.2.2.2 y hy hys hp
    · exact (nb y hy (by rw [hys]; exact hp) s hs hys.symm).symm
  · rcases hy with hy | hy
    · exact nb s hs hp y hy hys
    · exact on_uniq hT hys (frA c t) f1 f2 hy hs
/-- the targets lie inside the domain -/
theorem tg_in {c : Nat → Nat → Nat} {e j d : Nat} (h1 : 1 ≤ j) (h2 : j ≤ c 0 1) (hs : sT (c 2) (c 4) (c 5) e j = true) (hd : d = 0 ∨ goodB (c 1) (c 2) (c 3) (c 4) (c 5) (c 0 1) d e = true) (hv : Cv c) : insB (c 1) (c 3) d (c 5 j) = true := by
  rcases hd with rfl | hd
  · obtain ⟨_, _, j3, j4, _⟩ := hv.2.1.2 j h1 h2
    exact ins_root hv.1 _ j3 j4
  · unfold goodB at hd
    have := (allN_iff _).mp hd j h1 h2
    rw [Bool.and_eq_true, hs] at this
    simpa using this.2
theorem do_good {c : Nat → Nat → Nat} (hv : Cv c) {e : Nat} : doE c e = 0 ∨ (c 2 (doE c e) = 0 ∧ goodB (c 1) (c 2) (c 3) (c 4) (c 5) (c 0 1) (doE c e) e = true) := (bst_spec hv.1 _ (Nat.le_refl _)).1
theorem GoA_N {c : Nat → Nat → Nat} {e : Nat} (hv : Cv c) : ∀ j, j ≤ c 0 1 → GoA c (doE c e) (aiN c e (doE c e) j) := by
  intro j
  induction j with
  | zero => intro _; exact GoA_0
  | succ j ih =>
    intro hj
    show GoA c (doE c e) (if sT (c 2) (c 4) (c 5) e (j + 1) = true then aiF c (doE c e) (aiN c e (doE c e) j) (c 5 (j + 1)) else aiN c e (doE c e) j)
    by_cases hs : sT (c 2) (c 4) (c 5) e (j + 1) = true
    · rw [if_pos hs]
      obtain ⟨_, _, j3, j4, _⟩ := hv.2.1.2 (j + 1) (by omega) hj
      refine GoA_F hv.1 (ih (by omega)) j3 j4 (tg_in (by omega) hj hs ?_ hv)
      rcases do_good hv (e := e) with q | q
      · exact Or.inl q
      · exact Or.inr q.2
    · rw [if_neg hs]
      exact ih (by omega)
/-! what is entered -/
def enc (c : Nat → Nat → Nat) (o : Nat → Bool) (p : Nat) : Nat := fstN (fun t => decide (c 1 t = p) && o t) (c 0 0) 1
def dfl (c : Nat → Nat → Nat) (p : Nat) : Nat := chF (c 1) (c 2) (c 0 0) (fun _ => true) p
def pkf (c : Nat → Nat → Nat) (g : Nat → Nat → Bool) (p : Nat) (w : Bool) : Nat := if enc c (g 0) p ≠ 0 then enc c (g 0) p else if (g 1 p || w) = true ∧ c 13 p ≠ 0 then c 13 p else dfl c p
def cmF (c : Nat → Nat → Nat) (d : Nat) (g : Nat → Nat → Bool) : Nat → Nat → Bool × Bool
  | 0, _ => (false, false)
  | m + 1, s => ((if c 1 s = d then true else (cmF c d g m (c 1 s)).1) && (decide (c 2 s ≤ 1) && (decide (c 2 (c 1 s) = 1) || decide (pkf c g (c 1 s) (if c 1 s = d then g 2 d else (cmF c d g m (c 1 s)).2) = s))), g 2 s || (if c 1 s = d then g 2 d else (cmF c d g m (c 1 s)).2))
def cmB (c : Nat → Nat → Nat) (d : Nat) (g : Nat → Nat → Bool) (s : Nat) : Bool := (cmF c d g (c 3 s) s).1
def dqB (c : Nat → Nat → Nat) (d : Nat) (g : Nat → Nat → Bool) (s : Nat) : Bool := if s = d then g 2 d else (cmF c d g (c 3 s) s).2
def cnD (c : Nat → Nat → Nat) (d : Nat) (g : Nat → Nat → Bool) (p : Nat) : Bool := if p = d then true else cmB c d g p
theorem cm_S {c : Nat → Nat → Nat} {d s : Nat} {g : Nat → Nat → Bool} (hT : Tr (c 0 0) (c 1) (c 2) (c 3)) (h1 : 1 ≤ s) (hs : s ≤ c 0 0) : cmB c d g s = (cnD c d g (c 1 s) && (decide (c 2 s ≤ 1) && (decide (c 2 (c 1 s) = 1) || decide (pkf c g (c 1 s) (dqB c d g (c 1 s)) = s)))) := by
  unfold cmB
  rw [(hT.2.2.2.2 s h1 hs).2.1]
  rfl
theorem dq_S {c : Nat → Nat → Nat} {d s : Nat} {g : Nat → Nat → Bool} (hT : Tr (c 0 0) (c 1) (c 2) (c 3)) (h1 : 1 ≤ s) (hs : s ≤ c 0 0) (hd : s ≠ d) : dqB c d g s = (g 2 s || dqB c d g (c 1 s)) := by
  have e : dqB c d g s = (cmF c d g (c 3 s) s).2 := by
    unfold dqB
    rw [if_neg hd]
  rw [e, (hT.2.2.2.2 s h1 hs).2.1]
  rfl
theorem cm_0 {c : Nat → Nat → Nat} {d : Nat} {g : Nat → Nat → Bool} (hT : Tr (c 0 0) (c 1) (c 2) (c 3)) : cmB c d g 0 = false := by
  unfold cmB
  rw [hT.2.2.2.1]
  rfl
theorem cm_in {c : Nat → Nat → Nat} {d : Nat} {g : Nat → Nat → Bool} (hT : Tr (c 0 0) (c 1) (c 2) (c 3)) : ∀ s, s ≤ c 0 0 → cmB c d g s = true → 1 ≤ s ∧ insB (c 1) (c 3) d s = true ∧ c 2 s ≤ 1 := by
  intro s
  induction s using Nat.strongRecOn with
  | _ s ih =>
    intro hs h
    have h1 : 1 ≤ s := by
      rcases Nat.eq_zero_or_pos s with q | q
      · rw [q, cm_0 hT] at h; cases h
      · exact q
    rw [cm_S hT h1 hs] at h
    simp only [Bool.and_eq_true, decide_eq_true_eq] at h
    have hp := (hT.2.2.2.2 s h1 hs).1
    refine ⟨h1, ?_, h.2.1⟩
    rw [ins_S hT h1 hs, Bool.or_eq_true, decide_eq_true_eq]
    have h2 := h.1
    unfold cnD at h2
    by_cases hq : c 1 s = d
    · exact Or.inl hq
    · rw [if_neg hq] at h2
      exact Or.inr (ih (c 1 s) hp (by omega) h2).2.1
/-! the reference aims -/
def GrM (M : mwM) (q N : Nat) (g : Nat → Nat → Bool) : Prop := ∀ s, s ≤ N → M (q + 27) s = bI (g 0 s) ∧ M (q + 28) s = bI (g 1 s) ∧ M (q + 29) s = bI (g 2 s)
theorem m_second {fu : Nat} {M : mwM} {L : mwL} {q s : Nat} {c : Nat → Nat → Nat} {o : Nat → Bool} (hf : 202 ≤ fu) (hT : Tr (c 0 0) (c 1) (c 2) (c 3)) (hM : TrM M q (c 0 0) (c 1) (c 2) (c 3)) (ho : ∀ t, 1 ≤ t → t ≤ c 0 0 → M (q + 27) t = bI (o t)) (hs : s ≤ c 0 0) : DX13_second fu q (sI s) M L = some (bI (sib c o s), M, L) := by
  have hN := hT.1
  have hps := Tr_pa hT hs
  unfold DX13_second
  have h := wq_for (body := fun r z => fX13_second_i4 fu q (sI s) r z.1 z.2.1 z.2.2.1 z.2.2.2) (Q := fun z => z = (bI (sib c o s), M, L)) (fun i (_ : Unit) => (bI (anyN (fun t => decide (t ≠ s) && decide (c 1 t = c 1 s) && o t) (i - 1)), sI i, M, L)) (fun i _ => 1 ≤ i) (c 0 0 + 1) ?_ ?_ (c 0 0) 1 () fu (by omega) (by omega) (Nat.le_refl _)
  · obtain ⟨z, hz, rfl⟩ := h
    exact hz
  · intro i _ r hi hi1 ih
    obtain ⟨n, rfl⟩ : ∃ n, i = n + 1 := ⟨i - 1, by omega⟩
    have ih2 := ih () (by omega)
    show wq (fX13_second_i4 fu q (sI s) r (bI (anyN (fun t => decide (t ≠ s) && decide (c 1 t = c 1 s) && o t) n)) (sI (n + 1)) M L) _
    simp only [show n + 1 + 1 - 1 = n + 1 from rfl, anyN] at ih2
    have hpn := Tr_pa hT (show n + 1 ≤ c 0 0 by omega)
    have e1 := (hM.2 s hs).1
    have e2 := (hM.2 (n + 1) (by omega)).1
    have e3 := ho (n + 1) (by omega) (by omega)
    unfold fX13_second_i4 fX13_second_b49 fX13_second_b45 fX13_second_b50
    simp (disch := omega) only [hM.1, e1, e2, e3, mck_s, sI_nn, nn_s, sI_lt, sI_le, sI_eq, sI_ltl, sI_lel, sI_eql, sI_llt, sI_lle, sI_1, bI_0, bI_1, bI_n, mlet, mb3_s, mb2_s]
    rw [if_neg (by omega)]
    generalize anyN (fun t => decide (t ≠ s) && decide (c 1 t = c 1 s) && o t) n = x1 at *
    cases x1 with
    | true =>
      rw [if_neg (by decide)]
      simpa [bI] using ih2
    | false =>
      rw [if_pos rfl]
      by_cases h1 : n + 1 = s
      · rw [if_pos h1]
        rw [decide_eq_false (fun z => z h1)] at ih2
        simpa [bI] using ih2
      · rw [if_neg h1]
        rw [decide_eq_true h1] at ih2
        by_cases h2 : c 1 (n + 1) = c 1 s
        · rw [if_pos h2]
          rw [decide_eq_true h2] at ih2
          cases h3 : o (n + 1)
          · rw [h3] at ih2
            rw [if_pos rfl]
            simpa [bI] using ih2
          · rw [h3] at ih2
            rw [if_neg (by decide)]
            simpa [bI] using ih2
        · rw [if_neg h2]
          rw [decide_eq_false h2] at ih2
          simpa [bI] using ih2
  · intro _ r _
    show wq (fX13_second_i4 fu q (sI s) r (bI (sib c o s)) (sI (c 0 0 + 1)) M L) _
    unfold fX13_second_i4
    rw [hM.1, if_pos (by rw [sI_lt (by omega) (by omega)]; omega)]
    exact wq_zz bI_z (wq_some rfl)
theorem ins_1 {N : Nat} {pa kd de : Nat → Nat} (h : Tr N pa kd de) {d f : Nat} (hd : insB pa de d f = true) : 1 ≤ f := by
  rcases Nat.eq_zero_or_pos f with q | q
  · rw [q, ins_0 h] at hd; cases hd
  · exact q
theorem m_aim {fu : Nat} {M : mwM} {L : mwL} {q d t : Nat} {c : Nat → Nat → Nat} {g : Nat → Nat → Bool} (hf : 202 ≤ fu) (hT : Tr (c 0 0) (c 1) (c 2) (c 3)) (hM : TrM M q (c 0 0) (c 1) (c 2) (c 3)) (hg : GrM M q (c 0 0) g) (h1 : 1 ≤ t) (ht : t ≤ c 0 0) (hdl : d ≤ c 0 0) (hd : insB (c 1) (c 3) d t = true) : wq (DX13_aim fu q (sI d) (sI t) M L) (fun z => z.2 = L ∧ GrM z.1 q (c 0 0) (aiF c d g t) ∧ ∀ b y, ¬ (q + 27 ≤ b ∧ b ≤ q + 29) → z.1 b y = M b y) := by
  have hN := hT.1
  have hpt := Tr_pa hT ht
  have b1 : vp_nar .boolean (1 : Int32) = bI true := by decide
  have b0 : vp_nar .boolean (0 : Int32) = bI false := by decide
  obtain ⟨f1, f2, f3⟩ := frA_in hT h1 ht hd
  -- the end: the marks
  have fin : ∀ (r : Int32 × mwM × mwL → Option (mwM × mwL)) (a : mwM) (o : Nat → Bool), (∀ u, u ≤ c 0 0 → a (q + 27) u = bI (o u)) → (∀ b y, b ≠ q + 27 → a b y = M b y) → wq (fX13_aim_i68 fu q (sI d) (sI t) r (sI d) a L) (fun z => z.2 = L ∧ (∀ u, u ≤ c 0 0 → z.1 (q + 27) u = bI (o u) ∧ z.1 (q + 28) u = bI (g 1 u || (decide (u = c 1 t) && decide (c 2 t = 2))) ∧ z.1 (q + 29) u = bI (g 2 u || (decide (u = c 1 t) && decide (c 2 t = 3)))) ∧ ∀ b y, ¬ (q + 27 ≤ b ∧ b ≤ q + 29) → z.1 b y = M b y) := by
    intro r a o p1 p2
    have e2 : a (q + 2) t = sI (c 1 t) := (p2 _ _ (by omega)).trans (hM.2 t ht).1
    have e1 : a (q + 1) t = sI (c 2 t) := (p2 _ _ (by omega)).trans (hM.2 t ht).2.1
    have e28 : a (q + 28) (c 1 t) = bI (g 1 (c 1 t)) := (p2 _ _ (by omega)).trans (hg _ hpt.1).2.1
    have e29 : a (q + 29) (c 1 t) = bI (g 2 (c 1 t)) := (p2 _ _ (by omega)).trans (hg _ hpt.1).2.2
    unfold fX13_aim_i68
    rw [if_pos rfl]
    have fin3 : ∀ (w : Int32) (B : mwM), w = bI (g 2 (c 1 t) || decide (c 2 t = 3)) → (∀ u, u ≤ c 0 0 → B (q + 27) u = bI (o u) ∧ B (q + 28) u = bI (g 1 u || (decide (u = c 1 t) && decide (c 2 t = 2)))) → (∀ b y, b ≠ q + 27 → b ≠ q + 28 → B b y = M b y) → wq (fX13_aim_b173 fu q (sI d) (sI t) (sI (c 1 t)) w B L) (fun z => z.2 = L ∧ (∀ u, u ≤ c 0 0 → z.1 (q + 27) u = bI (o u) ∧ z.1 (q + 28) u = bI (g 1 u || (decide (u = c 1 t) && decide (c 2 t = 2))) ∧ z.1 (q + 29) u = bI (g 2 u || (decide (u = c 1 t) && decide (c 2 t = 3)))) ∧ ∀ b y, ¬ (q + 27 ≤ b ∧ b ≤ q + 29) → z.1 b y = M b y) := by
      intro w B hw B1 B2
      unfold fX13_aim_b173
      rw [hw]
      simp (disch := omega) only [mck_s, sI_nn, nn_s, sI_lt, sI_le, sI_eq, sI_ltl, sI_lel, sI_eql, sI_llt, sI_lle, sI_1, bI_0, bI_1, bI_n, mlet, mb3_s, mb2_s]
      refine wq_some ⟨rfl, fun u hu => ?_, fun b y hb => ?_⟩
      all_goals (try dsimp only)
      · rw [mset_k (by omega), mset_k (by omega)]
        refine ⟨(B1 u hu).1, (B1 u hu).2, ?_⟩
        by_cases hq : u = c 1 t
        · rw [hq, mset_s, decide_eq_true rfl, Bool.true_and]
        · rw [mset_j hq, B2 _ _ (by omega) (by omega), (hg u hu).2.2, decide_eq_false hq]
          simp
      · rw [mset_k (by omega)]
        exact B2 b y (by omega) (by omega)
    have fin2 : ∀ (w : Int32), w = bI (g 1 (c 1 t) || decide (c 2 t = 2)) → wq (fX13_aim_b133 fu q (sI d) (sI t) (sI (c 1 t)) w a L) (fun z => z.2 = L ∧ (∀ u, u ≤ c 0 0 → z.1 (q + 27) u = bI (o u) ∧ z.1 (q + 28) u = bI (g 1 u || (decide (u = c 1 t) && decide (c 2 t = 2))) ∧ z.1 (q + 29) u = bI (g 2 u || (decide (u = c 1 t) && decide (c 2 t = 3)))) ∧ ∀ b y, ¬ (q + 27 ≤ b ∧ b ≤ q + 29) → z.1 b y = M b y) := by
      intro w hw
      unfold fX13_aim_b133
      rw [hw]
      have B1 : ∀ u, u ≤ c 0 0 → mset a (q + 28) (c 1 t) (bI (g 1 (c 1 t) || decide (c 2 t = 2))) (q + 27) u = bI (o u) ∧ mset a (q + 28) (c 1 t) (bI (g 1 (c 1 t) || decide (c 2 t = 2))) (q + 28) u = bI (g 1 u || (decide (u = c 1 t) && decide (c 2 t = 2))) := by
        intro u hu
        rw [mset_k (by omega)]
        refine ⟨p1 u hu, ?_⟩
        by_cases hq : u = c 1 t
        · rw [hq, mset_s, decide_eq_true rfl, Bool.true_and]
        · rw [mset_j hq, p2 _ _ (by omega), (hg u hu).2.1, decide_eq_false hq]
          simp
      have B2 : ∀ b y, b ≠ q + 27 → b ≠ q + 28 → mset a (q + 28) (c 1 t) (bI (g 1 (c 1 t) || decide (c 2 t = 2))) b y = M b y := fun b y u1 u2 => by rw [mset_k u2]; exact p2 b y u1
      simp (disch := omega) only [mset_k, e1, e2, e29, mck_s, sI_nn, nn_s, sI_lt, sI_le, sI_eq, sI_ltl, sI_lel, sI_eql, sI_llt, sI_lle, sI_1, bI_0, bI_1, bI_n, mlet, mb3_s, mb2_s]
      unfold fX13_aim_b168
      cases h2 : g 2 (c 1 t) with
      | true =>
        rw [if_neg (by decide)]
        exact fin3 _ _ (by rw [h2]; rfl) B1 B2
      | false =>
        rw [if_pos rfl]
        by_cases h3 : c 2 t = 3
        · rw [if_pos h3]
          exact fin3 _ _ (by rw [h2, decide_eq_true h3]; rfl) B1 B2
        · rw [if_neg h3]
          exact fin3 _ _ (by rw [h2, decide_eq_false h3]; rfl) B1 B2
    simp (disch := omega) only [e1, e2, e28, mck_s, sI_nn, nn_s, sI_lt, sI_le, sI_eq, sI_ltl, sI_lel, sI_eql, sI_llt, sI_lle, sI_1, bI_0, bI_1, bI_n, mlet, mb3_s, mb2_s]
    unfold fX13_aim_b128
    cases h2 : g 1 (c 1 t) with
    | true =>
      rw [if_neg (by decide)]
      exact fin2 _ (by rw [h2]; rfl)
    | false =>
      rw [if_pos rfl]
      by_cases h3 : c 2 t = 2
      · rw [if_pos h3]
        exact fin2 _ (by rw [h2, decide_eq_true h3]; rfl)
      · rw [if_neg h3]
        exact fin2 _ (by rw [h2, decide_eq_false h3]; rfl)
  -- the second way up
  have way2 : ∀ (n s f : Nat) (a : mwM) (o : Nat → Bool), c 3 s = n → s ≤ c 0 0 → (s = d ∨ insB (c 1) (c 3) d s = true) → n < f → (∀ u, u ≤ c 0 0 → a (q + 27) u = bI (o u)) → (∀ b y, b ≠ q + 27 → a b y = M b y) → wq (fX13_aim_h68 fu q (sI d) (sI t) f (sI s, a, L)) (fun z => z.2 = L ∧ (∀ u, u ≤ c 0 0 → z.1 (q + 27) u = bI (o u || onP c d s u) ∧ z.1 (q + 28) u = bI (g 1 u || (decide (u = c 1 t) && decide (c 2 t = 2))) ∧ z.1 (q + 29) u = bI (g 2 u || (decide (u = c 1 t) && decide (c 2 t = 3)))) ∧ ∀ b y, ¬ (q + 27 ≤ b ∧ b ≤ q + 29) → z.1 b y = M b y) := by
    intro n
    induction n with
    | zero =>
      intro s f a o hn hs hds hf1 p1 p2
      obtain ⟨u, rfl⟩ : ∃ u, f = u + 1 := ⟨f - 1, by omega⟩
      have hsd : s = d := by
        rcases hds with q | q
        · exact q
        · have := ins_lt hT s hs q
          omega
      subst hsd
      unfold fX13_aim_h68
      rw [mloop_S]
      have e0 : ∀ u, onP c s s u = false := fun u => clm_0 _
      simp only [e0, Bool.or_false]
      exact fin _ a o p1 p2
    | succ n ih =>
      intro s f a o hn hs hds hf1 p1 p2
      obtain ⟨u, rfl⟩ : ∃ u, f = u + 1 := ⟨f - 1, by omega⟩
      by_cases hsd : s = d
      · subst hsd
        unfold fX13_aim_h68
        rw [mloop_S]
        have e0 : ∀ u, onP c s s u = false := fun u => clm_0 _
        simp only [e0, Bool.or_false]
        exact fin _ a o p1 p2
      · have hds2 : insB (c 1) (c 3) d s = true := by
          rcases hds with q | q
          · exact absurd q hsd
          · exact q
        have hs1 := ins_1 hT hds2
        have hps := hT.2.2.2.2 s hs1 hs
        have hup : c 1 s = d ∨ insB (c 1) (c 3) d (c 1 s) = true := by
          have := hds2
          rw [ins_S hT hs1 hs, Bool.or_eq_true, decide_eq_true_eq] at this
          exact this
        have e2 : a (q + 2) s = sI (c 1 s) := (p2 _ _ (by omega)).trans (hM.2 s hs).1
        unfold fX13_aim_h68
        rw [mloop_S]
        show wq (fX13_aim_i68 fu q (sI d) (sI t) (fX13_aim_h68 fu q (sI d) (sI t) u) (sI s) a L) _
        unfold fX13_aim_i68
        rw [if_neg (by rw [sI_eq (by omega) (by omega)]; exact hsd)]
        simp (disch := omega) only [e2, b1, mset_k, mck_s, sI_nn, nn_s, sI_lt, sI_le, sI_eq, sI_ltl, sI_lel, sI_eql, sI_llt, sI_lle, sI_1, bI_0, bI_1, bI_n, mlet, mb3_s, mb2_s]
        refine wq_mono (ih (c 1 s) u (mset a (q + 27) s (bI true)) (fun z => o z || decide (z = s)) (by omega) (by omega) hup (by omega) (fun z hz => ?_) (fun b y hb => by rw [mset_k hb]; exact p2 b y hb)) ?_
        · by_cases hq : z = s
          · rw [hq, mset_s, decide_eq_true rfl]; simp
          · rw [mset_j hq, p1 z hz, decide_eq_false hq]; simp
        · rintro ⟨B, l⟩ ⟨y1, y2, y3⟩
          refine ⟨y1, fun z hz => ?_, y3⟩
          have e0 : onP c d s z = (decide (s = z) || onP c d (c 1 s) z) := by
            unfold onP
            rw [clm_S hT hs hds2]
          rw [e0, ← Bool.or_assoc]
          have := y2 z hz
          have ec : decide (z = s) = decide (s = z) := by
            by_cases hq : z = s
            · rw [decide_eq_true hq, decide_eq_true hq.symm]
            · rw [decide_eq_false hq, decide_eq_false (fun w => hq w.symm)]
          rw [ec] at this
          exact this
  -- the first way up
  have way1 : ∀ (n s f : Nat), c 3 s = n → s ≤ c 0 0 → (s = d ∨ insB (c 1) (c 3) d s = true) → n < f → fX13_aim_h22 fu q (sI d) (sI t) f (sI (frA c t), sI s, M, L) = if blk c d s (g 0) = true then some (M, L) else fX13_aim_h68 fu q (sI d) (sI t) fu (sI (frA c t), M, L) := by
    intro n
    have stop : ∀ (s f : Nat), s = d → 0 < f → fX13_aim_h22 fu q (sI d) (sI t) f (sI (frA c t), sI s, M, L) = if blk c d s (g 0) = true then some (M, L) else fX13_aim_h68 fu q (sI d) (sI t) fu (sI (frA c t), M, L) := by
      intro s f hsd hf1
      obtain ⟨u, rfl⟩ : ∃ u, f = u + 1 := ⟨f - 1, by omega⟩
      subst hsd
      have e0 : blk c s s (g 0) = false := clm_0 _
      rw [e0, if_neg (by decide)]
      unfold fX13_aim_h22
      rw [mloop_S]
      show fX13_aim_i22 fu q (sI s) (sI t) _ (sI (frA c t)) (sI s) M L = _
      unfold fX13_aim_i22
      rw [if_pos rfl]
    induction n with
    | zero =>
      intro s f hn hs hds hf1
      refine stop s f ?_ (by omega)
      rcases hds with q | q
      · exact q
      · have := ins_lt hT s hs q
        omega
    | succ n ih =>
      intro s f hn hs hds hf1
      by_cases hsd : s = d
      · exact stop s f hsd (by omega)
      · obtain ⟨u, rfl⟩ : ∃ u, f = u + 1 := ⟨f - 1, by omega⟩
        have hds2 : insB (c 1) (c 3) d s = true := by
          rcases hds with q | q
          · exact absurd q hsd
          · exact q
        have hs1 := ins_1 hT hds2
        have hps := hT.2.2.2.2 s hs1 hs
        have hpp := Tr_pa hT hs
        have hkp := (Tr_pa hT hpp.1).2.2.2.1
        have hup : c 1 s = d ∨ insB (c 1) (c 3) d (c 1 s) = true := by
          have := hds2
          rw [ins_S hT hs1 hs, Bool.or_eq_true, decide_eq_true_eq] at this
          exact this
        have e2 := (hM.2 s hs).1
        have e1 := (hM.2 (c 1 s) hpp.1).2.1
        have es := m_second (fu := fu) (L := L) (o := g 0) (by omega) hT hM (fun z u1 u2 => (hg z u2).1) hs
        have ih2 := ih (c 1 s) u (by omega) (by omega) hup (by omega)
        have eb : blk c d s (g 0) = ((decide (c 2 (c 1 s) = 0) && sib c (g 0) s) || blk c d (c 1 s) (g 0)) := by
          unfold blk
          rw [clm_S hT hs hds2]
        rw [eb]
        unfold fX13_aim_h22
        rw [mloop_S]
        show fX13_aim_i22 fu q (sI d) (sI t) (fX13_aim_h22 fu q (sI d) (sI t) u) (sI (frA c t)) (sI s) M L = _
        unfold fX13_aim_i22 fX13_aim_b53
        simp (disch := omega) only [e1, e2, es, ih2, mck_s, sI_nn, nn_s, sI_lt, sI_le, sI_eq, sI_ltl, sI_lel, sI_eql, sI_llt, sI_lle, sI_1, bI_0, bI_1, bI_n, mlet, mb3_s, mb2_s]
        rw [if_neg hsd]
        by_cases hk : c 2 (c 1 s) = 0
        · rw [if_pos hk, decide_eq_true hk]
          cases sib c (g 0) s <;> simp
        · rw [if_neg hk, decide_eq_false hk]
          simp
  have hdf := (Tr_pa hT f1).2.2.2.2
  have ebb : fX13_aim_b18 fu q (sI d) (sI t) (sI (frA c t)) M L = if blk c d (frA c t) (g 0) = true then some (M, L) else fX13_aim_h68 fu q (sI d) (sI t) fu (sI (frA c t), M, L) := by
    unfold fX13_aim_b18
    exact way1 _ _ fu rfl f1 f2 (by omega)
  have main : wq (fX13_aim_b18 fu q (sI d) (sI t) (sI (frA c t)) M L) (fun z => z.2 = L ∧ GrM z.1 q (c 0 0) (aiF c d g t) ∧ ∀ b y, ¬ (q + 27 ≤ b ∧ b ≤ q + 29) → z.1 b y = M b y) := by
    rw [ebb]
    unfold aiF
    by_cases hb : blk c d (frA c t) (g 0) = true
    · rw [if_pos hb, if_pos hb]
      exact wq_some ⟨rfl, hg, fun _ _ _ => rfl⟩
    · rw [if_neg hb, if_neg hb]
      refine wq_mono (way2 _ (frA c t) fu M (g 0) rfl f1 f2 (by omega) (fun z hz => (hg z hz).1) (fun _ _ _ => rfl)) ?_
      rintro ⟨B, l⟩ ⟨y1, y2, y3⟩
      exact ⟨y1, fun z hz => y2 z hz, y3⟩
  unfold DX13_aim
  have e2 := (hM.2 t ht).1
  have em := m_mark (fu := fu) (L := L) hT hM ht
  simp (disch := omega) only [em, e2, mck_s, sI_nn, nn_s, sI_lt, sI_le, sI_eq, sI_ltl, sI_lel, sI_eql, sI_llt, sI_lle, sI_1, bI_0, bI_1, bI_n, mlet, mb3_s, mb2_s]
  unfold frA at main
  by_cases hm : 2 ≤ c 2 t
  · rw [if_neg (by simp [hm])]
    rw [if_pos hm] at main
    exact main
  · rw [if_pos (by simp [hm])]
    rw [if_neg hm] at main
    exact main
/-! the class aims -/
def rcN (g : Nat → Nat → Bool) (p : Nat) : Nat := (if g 1 p = true then 1 else 0) + (if g 2 p = true then 2 else 0)
theorem rcN_le {g : Nat → Nat → Bool} {p : Nat} : rcN g p ≤ 3 := by
  unfold rcN
  cases g 1 p <;> cases g 2 p <;> decide
def CkP (c : Nat → Nat → Nat) (g : Nat → Nat → Bool) (P : Nat → Nat) : Prop := ∀ p, p ≤ c 0 0 → P p ≤ c 0 0 ∧ (P p ≠ 0 → g 0 (P p) = true ∧ c 1 (P p) = p) ∧ (P p = 0 → ∀ s, g 0 s = true → c 1 s ≠ p)
def GrC (A : mwM) (k N : Nat) (g : Nat → Nat → Bool) (P : Nat → Nat) : Prop := ∀ p, p ≤ N → A (k + 12) p = sI (P p) ∧ A (k + 13) p = sI (rcN g p)
def upP (pa : Nat → Nat) (d : Nat) : Nat → Nat → (Nat → Nat) → Nat → Nat
  | 0, _, P => P
  | m + 1, f, P => if f = d then P else upP pa d m (pa f) (fun p => if p = pa f then f else P p)
theorem upP_0 {pa : Nat → Nat} {d : Nat} {P : Nat → Nat} : ∀ m, upP pa d m d P = P := by
  intro m
  cases m with
  | zero => rfl
  | succ m =>
    show (if d = d then P else upP pa d m (pa d) (fun p => if p = pa d then d else P p)) = P
    rw [if_pos rfl]
theorem upP_S {N : Nat} {pa kd de : Nat → Nat} (h : Tr N pa kd de) {d f : Nat} {P : Nat → Nat} (hf : f ≤ N) (hd : insB pa de d f = true) : upP pa d (de f) f P = upP pa d (de (pa f)) (pa f) (fun p => if p = pa f then f else P p) := by
  have h1 := ins_1 h hd
  have := (h.2.2.2.2 f h1 hf).2.1
  have hl := ins_lt h f hf hd
  rw [this]
  show (if f = d then P else upP pa d (de (pa f)) (pa f) (fun p => if p = pa f then f else P p)) = _
  rw [if_neg (by omega)]
theorem upP_v {N : Nat} {pa kd de : Nat → Nat} (h : Tr N pa kd de) {d : Nat} : ∀ f, f ≤ N → (f = d ∨ insB pa de d f = true) → ∀ P : Nat → Nat, (∀ s, clm pa d (fun t => decide (t = s)) (de f) f = true → upP pa d (de f) f P (pa s) = s) ∧ ∀ p, (∀ s, clm pa d (fun t => decide (t = s)) (de f) f = true → pa s ≠ p) → upP pa d (de f) f P p = P p := by
  refine up_ind h (P := fun f => ∀ P : Nat → Nat, (∀ s, clm pa d (fun t => decide (t = s)) (de f) f = true → upP pa d (de f) f P (pa s) = s) ∧ ∀ p, (∀ s, clm pa d (fun t => decide (t = s)) (de f) f = true → pa s ≠ p) → upP pa d (de f) f P p = P p) ?_ ?_
  · intro P
    refine ⟨fun s hs => ?_, fun p _ => ?_⟩
    · rw [clm_0] at hs; cases hs
    · rw [upP_0]
  · intro f hf hd hd2 ih P
    have h1 := ins_1 h hd
    have hpf := (h.2.2.2.2 f h1 hf).1
    obtain ⟨i1, i2⟩ := ih (fun p => if p = pa f then f else P p)
    rw [upP_S h hf hd]
    refine ⟨fun s hs => ?_, fun p hp => ?_⟩
    · rw [clm_S h hf hd, Bool.or_eq_true, decide_eq_true_eq] at hs
      rcases hs with rfl | hs
      · rw [i2 (pa f) ?_, if_pos rfl]
        intro s hs q
        have g1 := on_facts h (pa f) (by omega) hd2 hs
        have hs1 := ins_1 h g1.1
        have := (h.2.2.2.2 s hs1 (by omega)).1
        omega
      · exact i1 s hs
    · have hpn : p ≠ pa f := fun q => hp f (by rw [clm_S h hf hd]; simp) q.symm
      rw [i2 p (fun s hs => hp s (by rw [clm_S h hf hd, hs]; simp)), if_neg hpn]
theorem CkP_up {c : Nat → Nat → Nat} {d t : Nat} {g : Nat → Nat → Bool} {P : Nat → Nat} (hT : Tr (c 0 0) (c 1) (c 2) (c 3)) (hP : CkP c g P) (h1 : 1 ≤ t) (ht : t ≤ c 0 0) (hd : insB (c 1) (c 3) d t = true) (hb : ¬ blk c d (frA c t) (g 0) = true) : CkP c (aiF c d g t) (upP (c 1) d (c 3 (frA c t)) (frA c t) P) := by
  obtain ⟨f1, f2, f3⟩ := frA_in hT h1 ht hd
  obtain ⟨u1, u2⟩ := upP_v hT (frA c t) f1 f2 P
  have eg : ∀ s, aiF c d g t 0 s = (g 0 s || onP c d (frA c t) s) := by
    intro s
    unfold aiF
    rw [if_neg hb, if_pos rfl]
  intro p hp
  by_cases hx : ∃ s, clm (c 1) d (fun t => decide (t = s)) (c 3 (frA c t)) (frA c t) = true ∧ c 1 s = p
  · obtain ⟨s, s1, s2⟩ := hx
    have hs := on_facts hT _ f1 f2 s1
    have hs1 := ins_1 hT hs.1
    have e := u1 s s1
    rw [s2] at e
    rw [e]
    refine ⟨by omega, fun _ => ⟨?_, s2⟩, fun q => by omega⟩
    rw [eg, show onP c d (frA c t) s = true from s1]
    simp
  · have hx' : ∀ s, clm (c 1) d (fun t => decide (t = s)) (c 3 (frA c t)) (frA c t) = true → c 1 s ≠ p := fun s hs q => hx ⟨s, hs, q⟩
    rw [u2 p hx']
    obtain ⟨v1, v2, v3⟩ := hP p hp
    refine ⟨v1, fun q => ⟨?_, (v2 q).2⟩, fun q s hs => ?_⟩
    · rw [eg, (v2 q).1]; rfl
    · rw [eg, Bool.or_eq_true] at hs
      rcases hs with hs | hs
      · exact v3 q s hs
      · exact hx' s hs
theorem rc_or1 (a b : Bool) : sI ((if a = true then 1 else 0) + (if b = true then 2 else 0)) ||| 1 = sI ((if (true : Bool) = true then 1 else 0) + (if b = true then 2 else 0)) := by cases a <;> cases b <;> decide
theorem rc_or2 (a b : Bool) : sI ((if a = true then 1 else 0) + (if b = true then 2 else 0)) ||| 2 = sI ((if a = true then 1 else 0) + (if (true : Bool) = true then 2 else 0)) := by cases a <;> cases b <;> decide
theorem c_aimAt {fu : Nat} {A : mwM} {L : mwL} {k d t : Nat} {c : Nat → Nat → Nat} {g : Nat → Nat → Bool} {P : Nat → Nat} (hf : 202 ≤ fu) (hT : Tr (c 0 0) (c 1) (c 2) (c 3)) (hC : TrC A k (c 0 0) (c 1) (c 2) (c 3)) (hG : GoA c d g) (hg : GrC A k (c 0 0) g P) (hP : CkP c g P) (h1 : 1 ≤ t) (ht : t ≤ c 0 0) (hdl : d ≤ c 0 0) (hd : insB (c 1) (c 3) d t = true) (hk4 : c 2 t < 4) : wq (DX2_aimAt fu k (sI t) (sI d) A L) (fun z => z.2 = L ∧ (∃ P', GrC z.1 k (c 0 0) (aiF c d g t) P' ∧ CkP c (aiF c d g t) P') ∧ ∀ b y, b ≠ k + 12 → b ≠ k + 13 → z.1 b y = A b y) := by
  have hN := hT.1
  have hpt := Tr_pa hT ht
  obtain ⟨f1, f2, f3⟩ := frA_in hT h1 ht hd
  have hdf := (Tr_pa hT f1).2.2.2.2
  -- the end: what is recalled
  have fin : ∀ (w : Int32) (a : mwM) (P' : Nat → Nat), w = bI (decide (2 ≤ c 2 t)) → ¬ blk c d (frA c t) (g 0) = true → CkP c (aiF c d g t) P' → (∀ p, p ≤ c 0 0 → a (k + 12) p = sI (P' p)) → (∀ b y, b ≠ k + 12 → a b y = A b y) → wq (fX2_aimAt_b184 fu k (sI t) (sI d) w (sI (frA c t)) a L) (fun z => z.2 = L ∧ (∃ P', GrC z.1 k (c 0 0) (aiF c d g t) P' ∧ CkP c (aiF c d g t) P') ∧ ∀ b y, b ≠ k + 12 → b ≠ k + 13 → z.1 b y = A b y) := by
    intro w a P' hw hb hP' p1 p2
    have eg1 : ∀ s, aiF c d g t 1 s = (g 1 s || (decide (s = c 1 t) && decide (c 2 t = 2))) := by
      intro s
      unfold aiF
      rw [if_neg hb, if_neg (by omega), if_pos rfl]
    have eg2 : ∀ s, aiF c d g t 2 s = (g 2 s || (decide (s = c 1 t) && decide (c 2 t = 3))) := by
      intro s
      unfold aiF
      rw [if_neg hb, if_neg (by omega), if_neg (by omega), if_pos rfl]
    have e3 : a (k + 3) t = sI (c 2 t) := (p2 _ _ (by omega)).trans (hC.2 t ht).2.1
    unfold fX2_aimAt_b184 fX2_aimAt_b216 fX2_aimAt_b218
    rw [hw]
    by_cases hm : 2 ≤ c 2 t
    · have hfr : frA c t = c 1 t := by unfold frA; rw [if_pos hm]
      rw [decide_eq_true hm, if_neg (by decide), hfr]
      have e13 : a (k + 13) (c 1 t) = sI (rcN g (c 1 t)) := (p2 _ _ (by omega)).trans (hg _ hpt.1).2
      simp (disch := omega) only [e3, e13, mck_s, sI_nn, nn_s, sI_lt, sI_le, sI_eq, sI_ltl, sI_lel, sI_eql, sI_llt, sI_lle, sI_1, bI_0, bI_1, bI_n, mlet, mb3_s, mb2_s]
      have rest : ∀ z : Int32, z = sI (rcN (aiF c d g t) (c 1 t)) → wq (some (mset a (k + 13) (c 1 t) z, L)) (fun z => z.2 = L ∧ (∃ P', GrC z.1 k (c 0 0) (aiF c d g t) P' ∧ CkP c (aiF c d g t) P') ∧ ∀ b y, b ≠ k + 12 → b ≠ k + 13 → z.1 b y = A b y) := by
        intro z hz
        refine wq_some ⟨rfl, ⟨P', fun p hp => ?_, hP'⟩, fun b y v1 v2 => ?_⟩
        all_goals (try dsimp only)
        · rw [mset_k (by omega)]
          refine ⟨p1 p hp, ?_⟩
          by_cases hq : p = c 1 t
          · rw [hq, mset_s]; exact hz
          · rw [mset_j hq, p2 _ _ (by omega), (hg p hp).2]
            unfold rcN
            rw [eg1, eg2, decide_eq_false hq]
            simp
        · rw [mset_k v2]; exact p2 b y v1
      by_cases h3 : c 2 t = 3
      · rw [if_pos h3]
        refine rest _ ?_
        unfold rcN
        rw [eg1, eg2, rc_or2, h3]
        simp
      · rw [if_neg h3]
        have h2 : c 2 t = 2 := by omega
        refine rest _ ?_
        unfold rcN
        rw [eg1, eg2, rc_or1, h2]
        simp
    · rw [decide_eq_false hm, if_pos bI_f]
      refine wq_some ⟨rfl, ⟨P', fun p hp => ⟨p1 p hp, ?_⟩, hP'⟩, fun b y v1 v2 => p2 b y v1⟩
      dsimp only
      rw [p2 _ _ (by omega), (hg p hp).2]
      unfold rcN
      rw [eg1, eg2, decide_eq_false (show ¬ c 2 t = 2 by omega), decide_eq_false (show ¬ c 2 t = 3 by omega)]
      simp
  -- the second way up
  have way2 : ∀ (w : Int32) (n s v f : Nat) (a : mwM) (Pa : Nat → Nat), w = bI (decide (2 ≤ c 2 t)) → ¬ blk c d (frA c t) (g 0) = true → c 3 s = n → s ≤ c 0 0 → (s = d ∨ insB (c 1) (c 3) d s = true) → v + n ≤ 40 → n < f → (∀ p, p ≤ c 0 0 → a (k + 12) p = sI (Pa p)) → (∀ b y, b ≠ k + 12 → a b y = A b y) → CkP c (aiF c d g t) (upP (c 1) d n s Pa) → wq (fX2_aimAt_h130 fu k (sI t) (sI d) f (w, sI (frA c t), sI s, sI v, a, L)) (fun z => z.2 = L ∧ (∃ P', GrC z.1 k (c 0 0) (aiF c d g t) P' ∧ CkP c (aiF c d g t) P') ∧ ∀ b y, b ≠ k + 12 → b ≠ k + 13 → z.1 b y = A b y) := by
    intro w n
    have stop : ∀ (s v f : Nat) (a : mwM) (Pa : Nat → Nat), w = bI (decide (2 ≤ c 2 t)) → ¬ blk c d (frA c t) (g 0) = true → s = d → 0 < f → v ≤ 40 → (∀ p, p ≤ c 0 0 → a (k + 12) p = sI (Pa p)) → (∀ b y, b ≠ k + 12 → a b y = A b y) → CkP c (aiF c d g t) Pa → wq (fX2_aimAt_h130 fu k (sI t) (sI d) f (w, sI (frA c t), sI s, sI v, a, L)) (fun z => z.2 = L ∧ (∃ P', GrC z.1 k (c 0 0) (aiF c d g t) P' ∧ CkP c (aiF c d g t) P') ∧ ∀ b y, b ≠ k + 12 → b ≠ k + 13 → z.1 b y = A b y) := by
      intro s v f a Pa hw hb hsd hf1 hv p1 p2 hPa
      obtain ⟨u, rfl⟩ : ∃ u, f = u + 1 := ⟨f - 1, by omega⟩
      subst hsd
      unfold fX2_aimAt_h130
      rw [mloop_S]
      show wq (fX2_aimAt_i130 fu k (sI t) (sI s) _ w (sI (frA c t)) (sI s) (sI v) a L) _
      unfold fX2_aimAt_i130
      rw [if_neg (by rw [sI_llt (by decide) (by omega)]; omega), if_pos rfl]
      exact fin w a Pa hw hb hPa p1 p2
    induction n with
    | zero =>
      intro s v f a Pa hw hb hn hs hds hv hf1 p1 p2 hPa
      refine stop s v f a Pa hw hb ?_ (by omega) (by omega) p1 p2 hPa
      rcases hds with q | q
      · exact q
      · have := ins_lt hT s hs q
        omega
    | succ n ih =>
      intro s v f a Pa hw hb hn hs hds hv hf1 p1 p2 hPa
      by_cases hsd : s = d
      · subst hsd
        rw [upP_0] at hPa
        exact stop s v f a Pa hw hb rfl (by omega) (by omega) p1 p2 hPa
      · obtain ⟨u, rfl⟩ : ∃ u, f = u + 1 := ⟨f - 1, by omega⟩
        have hds2 : insB (c 1) (c 3) d s = true := by
          rcases hds with q | q
          · exact absurd q hsd
          · exact q
        have hs1 := ins_1 hT hds2
        have hps := hT.2.2.2.2 s hs1 hs
        have hup : c 1 s = d ∨ insB (c 1) (c 3) d (c 1 s) = true := by
          have := hds2
          rw [ins_S hT hs1 hs, Bool.or_eq_true, decide_eq_true_eq] at this
          exact this
        have e2 : a (k + 2) s = sI (c 1 s) := (p2 _ _ (by omega)).trans (hC.2 s hs).1
        have hPa2 : CkP c (aiF c d g t) (upP (c 1) d n (c 1 s) (fun p => if p = c 1 s then s else Pa p)) := by
          have := hPa
          rw [← hn, upP_S hT hs hds2, show c 3 (c 1 s) = n by omega] at this
          exact this
        unfold fX2_aimAt_h130
        rw [mloop_S]
        show wq (fX2_aimAt_i130 fu k (sI t) (sI d) (fX2_aimAt_h130 fu k (sI t) (sI d) u) w (sI (frA c t)) (sI s) (sI v) a L) _
        unfold fX2_aimAt_i130
        rw [if_neg (by rw [sI_llt (by decide) (by omega)]; omega), if_neg (by rw [sI_eq (by omega) (by omega)]; exact hsd), if_neg (by rw [sI_eql (by omega) (by decide)]; omega)]
        simp (disch := omega) only [e2, mset_k, mck_s, sI_nn, nn_s, sI_lt, sI_le, sI_eq, sI_ltl, sI_lel, sI_eql, sI_llt, sI_lle, sI_1, bI_0, bI_1, bI_n, mlet, mb3_s, mb2_s]
        refine ih (c 1 s) (v + 1) u _ _ hw hb (by omega) (by omega) hup (by omega) (by omega) (fun p hp => ?_) (fun b y hb => by rw [mset_k hb]; exact p2 b y hb) hPa2
        by_cases hq : p = c 1 s
        · rw [hq, mset_s, if_pos rfl]
        · rw [mset_j hq, if_neg hq]; exact p1 p hp
  -- the first way up
  have way1 : ∀ (w : Int32) (n s v f : Nat), c 3 s = n → s ≤ c 0 0 → (s = d ∨ insB (c 1) (c 3) d s = true) → v + n ≤ 40 → n < f → fX2_aimAt_h43 fu k (sI t) (sI d) f (w, sI (frA c t), sI s, sI v, A, L) = if blk c d s (g 0) = true then some (A, L) else fX2_aimAt_h130 fu k (sI t) (sI d) fu (w, sI (frA c t), sI (frA c t), sI 0, A, L) := by
    intro w n
    have stop : ∀ (s v f : Nat), s = d → 0 < f → v ≤ 40 → fX2_aimAt_h43 fu k (sI t) (sI d) f (w, sI (frA c t), sI s, sI v, A, L) = if blk c d s (g 0) = true then some (A, L) else fX2_aimAt_h130 fu k (sI t) (sI d) fu (w, sI (frA c t), sI (frA c t), sI 0, A, L) := by
      intro s v f hsd hf1 hv
      obtain ⟨u, rfl⟩ : ∃ u, f = u + 1 := ⟨f - 1, by omega⟩
      subst hsd
      have e0 : blk c s s (g 0) = false := clm_0 _
      rw [e0, if_neg (by decide)]
      unfold fX2_aimAt_h43
      rw [mloop_S]
      show fX2_aimAt_i43 fu k (sI t) (sI s) _ w (sI (frA c t)) (sI s) (sI v) A L = _
      unfold fX2_aimAt_i43
      rw [if_neg (by rw [sI_llt (by decide) (by omega)]; omega), if_pos rfl]
      rfl
    induction n with
    | zero =>
      intro s v f hn hs hds hv hf1
      refine stop s v f ?_ (by omega) (by omega)
      rcases hds with q | q
      · exact q
      · have := ins_lt hT s hs q
        omega
    | succ n ih =>
      intro s v f hn hs hds hv hf1
      by_cases hsd : s = d
      · exact stop s v f hsd (by omega) (by omega)
      · obtain ⟨u, rfl⟩ : ∃ u, f = u + 1 := ⟨f - 1, by omega⟩
        have hds2 : insB (c 1) (c 3) d s = true := by
          rcases hds with q | q
          · exact absurd q hsd
          · exact q
        have hs1 := ins_1 hT hds2
        have hps := hT.2.2.2.2 s hs1 hs
        have hpp := Tr_pa hT hs
        have hkp := (Tr_pa hT hpp.1).2.2.2.1
        have hup : c 1 s = d ∨ insB (c 1) (c 3) d (c 1 s) = true := by
          have := hds2
          rw [ins_S hT hs1 hs, Bool.or_eq_true, decide_eq_true_eq] at this
          exact this
        have e2 := (hC.2 s hs).1
        have e1 := (hC.2 (c 1 s) hpp.1).2.1
        have e12 := (hg (c 1 s) hpp.1).1
        obtain ⟨v1, v2, v3⟩ := hP (c 1 s) hpp.1
        have ih2 := ih (c 1 s) (v + 1) u (by omega) (by omega) hup (by omega) (by omega)
        have eb : blk c d s (g 0) = ((decide (c 2 (c 1 s) = 0) && sib c (g 0) s) || blk c d (c 1 s) (g 0)) := by
          unfold blk
          rw [clm_S hT hs hds2]
        rw [eb]
        unfold fX2_aimAt_h43
        rw [mloop_S]
        show fX2_aimAt_i43 fu k (sI t) (sI d) (fX2_aimAt_h43 fu k (sI t) (sI d) u) w (sI (frA c t)) (sI s) (sI v) A L = _
        unfold fX2_aimAt_i43 fX2_aimAt_b113
        rw [if_neg (by rw [sI_llt (by decide) (by omega)]; omega), if_neg (by rw [sI_eq (by omega) (by omega)]; exact hsd), if_neg (by rw [sI_eql (by omega) (by decide)]; omega)]
        simp (disch := omega) only [e1, e2, e12, ih2, mck_s, sI_nn, nn_s, sI_lt, sI_le, sI_eq, sI_ltl, sI_lel, sI_eql, sI_llt, sI_lle, sI_1, bI_0, bI_1, bI_n, mlet, mb3_s, mb2_s]
        by_cases hk : c 2 (c 1 s) = 0
        · rw [if_pos hk, decide_eq_true hk, Bool.true_and]
          by_cases hz : P (c 1 s) = 0
          · have : sib c (g 0) s = false := by
              by_cases hx : sib c (g 0) s = true
              · obtain ⟨y, _, _, _, y4, y5⟩ := sib_iff.mp hx
                exact absurd y4 (v3 hz y y5)
              · simpa using hx
            rw [if_pos hz, this, Bool.false_or]
          · rw [if_neg hz]
            by_cases hq : P (c 1 s) = s
            · have : sib c (g 0) s = false := by
                by_cases hx : sib c (g 0) s = true
                · obtain ⟨y, _, _, y3, y4, y5⟩ := sib_iff.mp hx
                  have hw := v2 hz
                  rw [hq] at hw
                  exact absurd ((hG s hw.1).2.2.2.2.2 y y5 y4 hk) y3
                · simpa using hx
              rw [if_pos hq, this, Bool.false_or]
            · have hw := v2 hz
              have hr := hG _ hw.1
              have : sib c (g 0) s = true := sib_iff.mpr ⟨P (c 1 s), hr.1, hr.2.1, hq, hw.2, hw.1⟩
              rw [if_neg hq, this]
              simp
        · rw [if_neg hk, decide_eq_false hk]
          simp
  have main : ∀ w : Int32, w = bI (decide (2 ≤ c 2 t)) → wq (fX2_aimAt_b34 fu k (sI t) (sI d) w (sI (frA c t)) A L) (fun z => z.2 = L ∧ (∃ P', GrC z.1 k (c 0 0) (aiF c d g t) P' ∧ CkP c (aiF c d g t) P') ∧ ∀ b y, b ≠ k + 12 → b ≠ k + 13 → z.1 b y = A b y) := by
    intro w hw
    unfold fX2_aimAt_b34
    rw [show fX2_aimAt_h43 fu k (sI t) (sI d) fu (w, sI (frA c t), sI (frA c t), 0, A, L) = _ from way1 w _ (frA c t) 0 fu rfl f1 f2 (by omega) (by omega)]
    by_cases hb : blk c d (frA c t) (g 0) = true
    · rw [if_pos hb]
      have ea : aiF c d g t = g := by unfold aiF; rw [if_pos hb]
      rw [ea]
      exact wq_some ⟨rfl, ⟨P, hg, hP⟩, fun _ _ _ _ => rfl⟩
    · rw [if_neg hb]
      exact way2 w _ (frA c t) 0 fu A P hw hb rfl f1 f2 (by omega) (by omega) (fun p hp => (hg p hp).1) (fun _ _ _ => rfl) (CkP_up hT hP h1 ht hd hb)
  unfold DX2_aimAt fX2_aimAt_b17
  have e2 := (hC.2 t ht).1
  have e3 := (hC.2 t ht).2.1
  simp (disch := omega) only [e2, e3, mck_s, sI_nn, nn_s, sI_lt, sI_le, sI_eq, sI_ltl, sI_lel, sI_eql, sI_llt, sI_lle, sI_1, bI_0, bI_1, bI_n, mlet, mb3_s, mb2_s]
  by_cases hm : 2 ≤ c 2 t
  · rw [if_neg (by omega), if_neg (by decide)]
    have := main 1 (by rw [decide_eq_true hm]; rfl)
    unfold frA at this
    rw [if_pos hm] at this
    exact this
  · rw [if_pos (by omega), if_pos trivial]
    have := main 0 (by rw [decide_eq_false hm]; rfl)
    unfold frA at this
    rw [if_neg hm] at this
    exact this
theorem ai_own {c : Nat → Nat → Nat} {e d : Nat} (h4 : c 2 (c 5 e) ≠ 4) : ∀ j, aiN c e d j = if 1 ≤ e ∧ e ≤ j then aiF c d (fun _ _ => false) (c 5 e) else fun _ _ => false := by
  intro j
  induction j with
  | zero =>
    rw [if_neg (by omega)]
    rfl
  | succ j ih =>
    show (if sT (c 2) (c 4) (c 5) e (j + 1) = true then aiF c d (aiN c e d j) (c 5 (j + 1)) else aiN c e d j) = _
    unfold sT
    rw [if_neg h4, ih]
    by_cases hq : j + 1 = e
    · rw [decide_eq_true hq, if_pos rfl, if_neg (by omega), if_pos (by omega), hq]
    · rw [decide_eq_false hq, if_neg (by decide)]
      by_cases h2 : 1 ≤ e ∧ e ≤ j
      · rw [if_pos h2, if_pos (by omega)]
      · rw [if_neg h2, if_neg (by omega)]
theorem c_aim {fu : Nat} {A : mwM} {L : mwL} {k e : Nat} {c : Nat → Nat → Nat} (hf : 402 ≤ fu) (hv : Cv c) (hC : TrC A k (c 0 0) (c 1) (c 2) (c 3)) (hEC : EdC A k (c 0 1) (c 4) (c 5) (c 6) (c 7)) (he : e ≤ c 0 1) (h5 : 1 ≤ e → c 2 (c 5 e) ≠ 5) (h0 : e = 0 → doE c e = 0) : wq (DX2_aim fu k (sI e) (sI (doE c e)) A L) (fun z => z.2 = L ∧ (∃ P, GrC z.1 k (c 0 0) (if e = 0 then fun _ _ => false else aiN c e (doE c e) (c 0 1)) P ∧ CkP c (if e = 0 then fun _ _ => false else aiN c e (doE c e) (c 0 1)) P) ∧ ∀ b y, b ≠ k + 12 → b ≠ k + 13 → z.1 b y = A b y) := by
  have hT := hv.1
  have hE := hv.2.1
  have hN := hT.1
  have hE4 := hE.1
  have hdl := doE_le (c := c) (e := e)
  have hdg : doE c e = 0 ∨ goodB (c 1) (c 2) (c 3) (c 4) (c 5) (c 0 1) (doE c e) e = true := by
    rcases do_good hv (e := e) with q | q
    · exact Or.inl q
    · exact Or.inr q.2
  have ck0 : CkP c (fun _ _ => false) (fun _ => 0) := fun p hp => ⟨Nat.zero_le _, fun q => absurd rfl q, fun _ s hs => by cases hs⟩
  unfold DX2_aim
  refine wq_for (body := fun r z => fX2_aim_i2 fu k (sI e) (sI (doE c e)) r z.1 z.2.1 z.2.2) (fun i (a : mwM) => (sI i, a, L)) (fun i a => (∀ p, p < i → a (k + 12) p = sI 0 ∧ a (k + 13) p = sI 0) ∧ ∀ b y, b ≠ k + 12 → b ≠ k + 13 → a b y = A b y) (c 0 0 + 1) ?_ ?_ (c 0 0 + 1) 0 A fu (by omega) (by omega) ⟨fun p hp => by omega, fun _ _ _ _ => rfl⟩
  · intro i a r hi ⟨p1, p2⟩ ih
    show wq (fX2_aim_i2 fu k (sI e) (sI (doE c e)) r (sI i) a L) _
    have e7 : a k 7 = sI (c 0 0) := (p2 _ _ (by omega) (by omega)).trans hC.1
    unfold fX2_aim_i2
    rw [e7, if_neg (by rw [sI_lt (by omega) (by omega)]; omega)]
    simp (disch := omega) only [mck_s, sI_nn, nn_s, sI_lt, sI_le, sI_eq, sI_ltl, sI_lel, sI_eql, sI_llt, sI_lle, sI_1, bI_0, bI_1, bI_n, mlet, mb3_s, mb2_s]
    refine ih _ ⟨fun p hp => ?_, fun b y u1 u2 => by simp (disch := omega) only [mset_n]; exact p2 b y u1 u2⟩
    by_cases hq : p = i
    · subst hq
      simp (disch := omega) only [mset_n, mset_s]
      exact ⟨rfl, rfl⟩
    · simp (disch := omega) only [mset_n]
      exact p1 p (by omega)
  · intro a r ⟨p1, p2⟩
    show wq (fX2_aim_i2 fu k (sI e) (sI (doE c e)) r (sI (c 0 0 + 1)) a L) _
    have e7 : a k 7 = sI (c 0 0) := (p2 _ _ (by omega) (by omega)).trans hC.1
    have aC : TrC a k (c 0 0) (c 1) (c 2) (c 3) := TrC_f hC (p2 _ _ (by omega) (by omega)) (fun d s u1 u2 => p2 _ _ (by omega) (by omega))
    have aE : EdC a k (c 0 1) (c 4) (c 5) (c 6) (c 7) := ⟨(p2 _ _ (by omega) (by omega)).trans hEC.1, fun j u1 u2 => by simp (disch := omega) only [p2]; exact hEC.2 j u1 u2⟩
    have gr0 : GrC a k (c 0 0) (fun _ _ => false) (fun _ => 0) := fun p hp => p1 p (by omega)
    unfold fX2_aim_i2
    rw [e7, if_pos (by rw [sI_lt (by omega) (by omega)]; omega)]
    by_cases he0 : e = 0
    · rw [if_pos (by rw [he0]; rfl)]
      refine wq_some ⟨rfl, ⟨fun _ => 0, ?_, ?_⟩, p2⟩
      · rw [if_pos he0]; exact gr0
      · rw [if_pos he0]; exact ck0
    rw [if_neg (by rw [sI_eql (by omega) (by decide)]; exact he0)]
    simp only [if_neg he0]
    have he1 : 1 ≤ e := by omega
    obtain ⟨j1, j2, j3, j4, _⟩ := hE.2 e he1 he
    have e22 := (aE.2 e he1 he).2.1
    have e3 := (aC.2 _ j4).2.1
    have hk5 := (Tr_pa hT j4).2.2.2.1
    have h5e := h5 he1
    simp (disch := omega) only [e22, e3, mck_s, sI_nn, nn_s, sI_lt, sI_le, sI_eq, sI_ltl, sI_lel, sI_eql, sI_llt, sI_lle, sI_1, bI_0, bI_1, bI_n, mlet, mb3_s, mb2_s]
    by_cases h4 : c 2 (c 5 e) = 4
    · rw [if_pos h4]
      refine wq_for (body := fun r z => fX2_aim_i72 fu k (sI e) (sI (doE c e)) r z.1 z.2.1 z.2.2.1 z.2.2.2) (fun i (o : mwM) => (sI (c 5 e), sI i, o, L)) (fun i o => 1 ≤ i ∧ (∃ P, GrC o k (c 0 0) (aiN c e (doE c e) (i - 1)) P ∧ CkP c (aiN c e (doE c e) (i - 1)) P) ∧ ∀ b y, b ≠ k + 12 → b ≠ k + 13 → o b y = A b y) (c 0 1 + 1) ?_ ?_ (c 0 1) 1 a fu (by omega) (by omega) ⟨Nat.le_refl _, ⟨fun _ => 0, gr0, ck0⟩, p2⟩
      · intro i o r hi ⟨hi1, ⟨P, q1, q2⟩, q3⟩ ih
        obtain ⟨n, rfl⟩ : ∃ n, i = n + 1 := ⟨i - 1, by omega⟩
        show wq (fX2_aim_i72 fu k (sI e) (sI (doE c e)) r (sI (c 5 e)) (sI (n + 1)) o L) _
        rw [Nat.add_sub_cancel] at q1 q2
        simp only [show n + 1 + 1 - 1 = n + 1 from rfl] at ih
        have oC : TrC o k (c 0 0) (c 1) (c 2) (c 3) := TrC_f hC (q3 _ _ (by omega) (by omega)) (fun d s u1 u2 => q3 _ _ (by omega) (by omega))
        have oE : EdC o k (c 0 1) (c 4) (c 5) (c 6) (c 7) := ⟨(q3 _ _ (by omega) (by omega)).trans hEC.1, fun j u1 u2 => by simp (disch := omega) only [q3]; exact hEC.2 j u1 u2⟩
        obtain ⟨n1, n2, n3, n4, _⟩ := hE.2 (n + 1) (by omega) (by omega)
        obtain ⟨o1, o2, _⟩ := oE.2 (n + 1) (by omega) (by omega)
        have ea := c_isAim (fu := fu) (L := L) hT oC n4
        have eai : aiN c e (doE c e) (n + 1) = if sT (c 2) (c 4) (c 5) e (n + 1) = true then aiF c (doE c e) (aiN c e (doE c e) n) (c 5 (n + 1)) else aiN c e (doE c e) n := rfl
        unfold sT at eai
        rw [if_pos h4] at eai
        unfold fX2_aim_i72 fX2_aim_b124
        simp (disch := omega) only [oE.1, o1, o2, ea, mck_s, sI_nn, nn_s, sI_lt, sI_le, sI_eq, sI_ltl, sI_lel, sI_eql, sI_llt, sI_lle, sI_1, bI_0, bI_1, bI_n, mlet, mb3_s, mb2_s]
        rw [if_neg (by omega)]
        by_cases hfr : c 4 (n + 1) = c 5 e
        · rw [if_pos hfr]
          rw [decide_eq_true hfr, Bool.true_and] at eai
          by_cases hk : c 2 (c 5 (n + 1)) < 4
          · rw [if_neg (by simp [hk])]
            rw [decide_eq_true hk, if_pos rfl] at eai
            have hsT : sT (c 2) (c 4) (c 5) e (n + 1) = true := by
              unfold sT
              rw [if_pos h4, decide_eq_true hfr, decide_eq_true hk]
              rfl
            refine wq_b2 (c_aimAt (by omega) hT oC (GoA_N hv n (by omega)) q1 q2 n3 n4 hdl (tg_in (by omega) (by omega) hsT hdg hv) hk) ?_
            rintro M1 L1 ⟨y1, y2, y3⟩
            dsimp only at y1 y2 y3
            subst y1
            refine ih M1 ⟨by omega, ?_, fun b y u1 u2 => (y3 b y u1 u2).trans (q3 b y u1 u2)⟩
            rw [eai]
            exact y2
          · rw [if_pos (by simp; omega)]
            rw [decide_eq_false hk, if_neg (by decide)] at eai
            refine ih o ⟨by omega, ⟨P, ?_, ?_⟩, q3⟩
            · rw [eai]; exact q1
            · rw [eai]; exact q2
        · rw [if_neg hfr]
          rw [decide_eq_false hfr, Bool.false_and, if_neg (by decide)] at eai
          refine ih o ⟨by omega, ⟨P, ?_, ?_⟩, q3⟩
          · rw [eai]; exact q1
          · rw [eai]; exact q2
      · intro o r ⟨_, q1, q3⟩
        show wq (fX2_aim_i72 fu k (sI e) (sI (doE c e)) r (sI (c 5 e)) (sI (c 0 1 + 1)) o L) _
        unfold fX2_aim_i72
        rw [q3 _ _ (by omega) (by omega), hEC.1, if_pos (by rw [sI_lt (by omega) (by omega)]; omega)]
        exact wq_some ⟨rfl, q1, q3⟩
    · rw [if_neg h4]
      have hsT : sT (c 2) (c 4) (c 5) e e = true := by
        unfold sT
        rw [if_neg h4]
        simp
      have eai : aiN c e (doE c e) (c 0 1) = aiF c (doE c e) (fun _ _ => false) (c 5 e) := by
        rw [ai_own h4, if_pos ⟨he1, he⟩]
      refine wq_b2 (c_aimAt (by omega) hT aC GoA_0 gr0 ck0 j3 j4 hdl (tg_in he1 he hsT hdg hv) (by omega)) ?_
      rintro M1 L1 ⟨y1, y2, y3⟩
      dsimp only at y1 y2 y3
      subst y1
      refine wq_some ⟨rfl, ?_, fun b y u1 u2 => (y3 b y u1 u2).trans (p2 b y u1 u2)⟩
      rw [eai]
      exact y2
/-! the class enters -/
def ReX (ch : Nat → Nat) (k : Nat) (A : mwM) (L : mwL) (c : Nat → Nat → Nat) (b : Nat → Nat → Bool) (va : Nat → Int32) (D : Nat → Int64) (x : Nat → Int32) : Prop :=
  TrC A k (c 0 0) (c 1) (c 2) (c 3) ∧ EdC A k (c 0 1) (c 4) (c 5) (c 6) (c 7) ∧ AxC A k (c 0 2) (fun i => c (8 + i)) va ∧
  (A k 6 = sI (c 0 3) ∧ A k 10 = sI (c 0 4) ∧ A k 14 = x 0 ∧ A k 15 = x 1 ∧ A k 16 = bI (b 6 0) ∧ L (k + 34) = D) ∧
  (∀ s, s ≤ c 0 0 → A (k + 5) s = sI (c 12 s) ∧ A (k + 6) s = sI (chF (c 1) (c 2) (c 0 0) (fun _ => true) s) ∧ A (k + 8) s = sI (ch s) ∧ A (k + 9) s = sI (c 13 s)) ∧
  (∀ s, 1 ≤ s → s ≤ c 0 0 → A (k + 7) s = bI (b 0 s) ∧ A (k + 10) s = sI (c 14 s) ∧ A (k + 11) s = bI (b 1 s) ∧ A (k + 17) s = bI (b 2 s)) ∧
  (LiC A (k + 18) (riL (c 3) (c 0 0) 42) ∧ LiC A (k + 19) (faL (c 3) (c 0 0) 41)) ∧
  ∀ e, 1 ≤ e → e ≤ c 0 1 → A (k + 26) e = sI (sn (b 3 e) (b 4 e) (b 5 e))
theorem ReC_X {k : Nat} {A : mwM} {L : mwL} {c : Nat → Nat → Nat} {b : Nat → Nat → Bool} {va : Nat → Int32} {D : Nat → Int64} {x : Nat → Int32} : ReC k A L c b va D x ↔ ReX (chK c b) k A L c b va D x := Iff.rfl
theorem ReX_ch {ch ch' : Nat → Nat} {k : Nat} {A : mwM} {L : mwL} {c : Nat → Nat → Nat} {b : Nat → Nat → Bool} {va : Nat → Int32} {D : Nat → Int64} {x : Nat → Int32} (h : ReX ch k A L c b va D x) (he : ∀ s, s ≤ c 0 0 → ch s = ch' s) : ReX ch' k A L c b va D x := by
  obtain ⟨h1, h2, h3, h4, h5, h6, h7, h8⟩ := h
  exact ⟨h1, h2, h3, h4, fun s hs => by rw [← he s hs]; exact h5 s hs, h6, h7, h8⟩
theorem ck_enc {c : Nat → Nat → Nat} {d p : Nat} {g : Nat → Nat → Bool} {P : Nat → Nat} (hG : GoA c d g) (hP : CkP c g P) (hp : p ≤ c 0 0) (hk : c 2 p = 0) : P p = enc c (g 0) p := by
  obtain ⟨v1, v2, v3⟩ := hP p hp
  unfold enc
  by_cases hz : P p = 0
  · rw [hz, fst_0]
    intro j u1 u2
    by_cases hq : c 1 j = p
    · have : g 0 j = false := by
        by_cases hx : g 0 j = true
        · exact absurd hq (v3 hz j hx)
        · simpa using hx
      rw [this]; simp
    · rw [decide_eq_false hq]; rfl
  · have hw := v2 hz
    have hr := hG _ hw.1
    have hne : fstN (fun t => decide (c 1 t = p) && g 0 t) (c 0 0) 1 ≠ 0 := by
      intro q
      have := fst_n _ _ (by omega) q (P p) hr.1 (by omega)
      rw [hw.1, decide_eq_true hw.2] at this
      cases this
    have hz2 := fst_p _ _ (by omega) hne
    simp only [Bool.and_eq_true, decide_eq_true_eq] at hz2
    exact (hr.2.2.2.2.2 _ hz2.1.2 (by rw [hw.2]; exact hz2.1.1) (by rw [hw.2]; exact hk)).symm
theorem c_pickChild {fu k p u r h f : Nat} {A : mwM} {L : mwL} (hp : p ≤ 200) (hu : A (k + 12) p = sI u) (hr : A (k + 13) p = sI r) (hh : A (k + 9) p = sI h) (hf : A (k + 6) p = sI f) (hu2 : u ≤ 200) (hr2 : r ≤ 3) (hh2 : h ≤ 200) : wq (DX2_pickChild fu k (sI p) A L) (fun z => z.2 = L ∧ z.1 (k + 12) p = sI (if u ≠ 0 then u else if r ≠ 0 ∧ h ≠ 0 then h else f) ∧ ∀ b y, ¬ (b = k + 12 ∧ y = p) → z.1 b y = A b y) := by
  unfold DX2_pickChild fX2_pickChild_b42 fX2_pickChild_b71
  simp (disch := omega) only [hu, hr, hh, hf, mset_k, mset_s, mck_s, sI_nn, nn_s, sI_lt, sI_le, sI_eq, sI_ltl, sI_lel, sI_eql, sI_llt, sI_lle, sI_1, bI_0, bI_1, bI_n, mlet, mb3_s, mb2_s]
  by_cases h1 : u = 0
  · rw [if_pos h1, if_neg (show ¬ u ≠ 0 from fun z => z h1)]
    by_cases h2 : r = 0
    · rw [if_pos h2, if_pos h1, if_neg (show ¬ (r ≠ 0 ∧ h ≠ 0) from fun z => z.1 h2)]
      exact wq_some ⟨rfl, mset_s, fun b y u => mset_n u⟩
    · rw [if_neg h2]
      by_cases h3 : h = 0
      · rw [if_pos h3, if_neg (show ¬ (r ≠ 0 ∧ h ≠ 0) from fun z => z.2 h3)]
        refine wq_some ⟨rfl, mset_s, fun b y u => ?_⟩
        dsimp only
        rw [mset_n u, mset_n u]
      · rw [if_neg h3, if_pos (show r ≠ 0 ∧ h ≠ 0 from ⟨h2, h3⟩)]
        exact wq_some ⟨rfl, mset_s, fun b y u => mset_n u⟩
  · rw [if_neg h1, if_pos (show u ≠ 0 from h1), if_neg h1]
    exact wq_some ⟨rfl, hu, fun _ _ _ => rfl⟩
theorem cm_uniq {c : Nat → Nat → Nat} {d s t : Nat} {g : Nat → Nat → Bool} (hT : Tr (c 0 0) (c 1) (c 2) (c 3)) (hs : s ≤ c 0 0) (ht : t ≤ c 0 0) (h1 : cmB c d g s = true) (h2 : cmB c d g t = true) (hp : c 1 s = c 1 t) (hk : c 2 (c 1 s) = 0) : s = t := by
  have s1 := (cm_in hT s hs h1).1
  have t1 := (cm_in hT t ht h2).1
  rw [cm_S hT s1 hs] at h1
  rw [cm_S hT t1 ht] at h2
  simp only [Bool.and_eq_true, Bool.or_eq_true, decide_eq_true_eq] at h1 h2
  rw [← hp] at h2
  rcases h1.2.2 with q | q
  · omega
  · rcases h2.2.2 with w | w
    · omega
    · omega
def rcW (g : Nat → Nat → Bool) (p : Nat) (w : Bool) : Nat := (if g 1 p = true then 1 else 0) + (if w = true then 2 else 0)
theorem rc_and (a b w v : Bool) : sI ((if a = true then 1 else 0) + (if b = true then 2 else 0)) ||| (sI ((if v = true then 1 else 0) + (if w = true then 2 else 0)) &&& 2) = sI ((if a = true then 1 else 0) + (if (b || w) = true then 2 else 0)) := by cases a <;> cases b <;> cases w <;> cases v <;> decide
theorem rcW_le {g : Nat → Nat → Bool} {p : Nat} {w : Bool} : rcW g p w ≤ 3 := by
  unfold rcW
  cases g 1 p <;> cases w <;> decide
theorem rcW_0 {g : Nat → Nat → Bool} {p : Nat} {w : Bool} : (rcW g p w ≠ 0) ↔ (g 1 p || w) = true := by
  unfold rcW
  cases g 1 p <;> cases w <;> decide
def enb (b : Nat → Nat → Bool) (cm : Nat → Bool) : Nat → Nat → Bool := fun r s => if r = 0 then b 0 s || cm s else if r = 1 then b 1 s && !cm s else if r = 2 then b 2 s || cm s else b r s
def ent (c : Nat → Nat → Nat) (cm : Nat → Bool) (now : Nat) : Nat → Nat → Nat := fun i j => if i = 14 ∧ cm j = true then now else c i j
def chE (c : Nat → Nat → Nat) (cm : Nat → Bool) (ch : Nat → Nat) (p : Nat) : Nat := if c 2 p = 0 ∧ fstN (fun t => decide (c 1 t = p) && cm t) (c 0 0) 1 ≠ 0 then fstN (fun t => decide (c 1 t = p) && cm t) (c 0 0) 1 else ch p
/-- the first way through: who comes -/
theorem c_coming {fu : Nat} {A : mwM} {L : mwL} {k d : Nat} {c : Nat → Nat → Nat} {g : Nat → Nat → Bool} {P : Nat → Nat} {Q : mwM × mwL → Prop} (hf : 202 ≤ fu) (hT : Tr (c 0 0) (c 1) (c 2) (c 3)) (hC : TrC A k (c 0 0) (c 1) (c 2) (c 3)) (hG : GoA c d g) (hg : GrC A k (c 0 0) g P) (hP : CkP c g P) (hdl : d ≤ c 0 0) (hdf : ∀ s, s ≤ c 0 0 → A (k + 6) s = sI (dfl c s)) (hhi : ∀ s, s ≤ c 0 0 → A (k + 9) s = sI (c 13 s) ∧ c 13 s ≤ c 0 0) (hQ : ∀ a : mwM, (∀ s, s ≤ c 0 0 → a (k + 14) s = bI (cmB c d g s)) → (∀ b y, b ≠ k + 12 → b ≠ k + 13 → b ≠ k + 14 → a b y = A b y) → wq (fX2_enterAll_h164 fu k (sI d) fu (1, a, L)) Q) : wq (DX2_enterAll fu k (sI d) A L) Q := by
  have hN := hT.1
  have dle : ∀ s, dfl c s ≤ c 0 0 := fun s => ch_le
  unfold DX2_enterAll
  have hrl := rcN_le (g := g) (p := d)
  have hPd := (hP d hdl).1
  refine wq_b2 (c_pickChild (p := d) (u := P d) (r := rcN g d) (h := c 13 d) (f := dfl c d) (by omega) (hg d hdl).1 (hg d hdl).2 (hhi d hdl).1 (hdf d hdl) (by omega) rcN_le (by have := (hhi d hdl).2; omega)) ?_
  rintro M1 L1 ⟨y1, y2, y3⟩
  dsimp only at y1 y2 y3
  subst y1
  simp only [mlet, show (0 : Int32).toNatClampNeg = 0 from rfl]
  have edq : dqB c d g d = g 2 d := by unfold dqB; rw [if_pos rfl]
  have pkd : c 2 d = 0 → (if P d ≠ 0 then P d else if rcN g d ≠ 0 ∧ c 13 d ≠ 0 then c 13 d else dfl c d) = pkf c g d (dqB c d g d) := by
    intro hk
    unfold pkf
    rw [← ck_enc hG hP hdl hk, edq]
    have : (rcN g d ≠ 0 ∧ c 13 d ≠ 0) ↔ ((g 1 d || g 2 d) = true ∧ c 13 d ≠ 0) := by
      rw [← rcW_0]
      rfl
    simp only [this]
  have pkl : ∀ (u r h f : Nat), u ≤ c 0 0 → h ≤ c 0 0 → f ≤ c 0 0 → (if u ≠ 0 then u else if r ≠ 0 ∧ h ≠ 0 then h else f) ≤ c 0 0 := by
    intro u r h f h1 h2 h3
    split
    · exact h1
    · split
      · exact h2
      · exact h3
  refine wq_for (body := fun r z => fX2_enterAll_i17 fu k (sI d) r z.1 z.2.1 z.2.2) (fun i (a : mwM) => (sI i, a, L1)) (fun i a => 1 ≤ i ∧ (∀ s, s < i → a (k + 14) s = bI (cmB c d g s)) ∧ (∃ R : Nat → Nat, ∀ p, p ≤ c 0 0 → a (k + 12) p = sI (R p) ∧ R p ≤ c 0 0 ∧ ((p = d ∨ (p < i ∧ cmB c d g p = true)) → c 2 p = 0 → R p = pkf c g p (dqB c d g p)) ∧ (p ≠ d → ¬ (p < i ∧ cmB c d g p = true) → R p = P p)) ∧ (∀ p, p ≤ c 0 0 → ((p < i ∧ cmB c d g p = true) → a (k + 13) p = sI (rcW g p (dqB c d g p))) ∧ (¬ (p < i ∧ cmB c d g p = true) → a (k + 13) p = sI (rcN g p))) ∧ ∀ b y, b ≠ k + 12 → b ≠ k + 13 → b ≠ k + 14 → a b y = A b y) (c 0 0 + 1) ?_ ?_ (c 0 0) 1 _ fu (by omega) (by omega) ⟨Nat.le_refl _, ?_, ?_, ?_, ?_⟩
  · intro i a r hi ⟨hi1, q1, ⟨R, q2⟩, q3, q4⟩ ih
    show wq (fX2_enterAll_i17 fu k (sI d) r (sI i) a L1) _
    have aC : TrC a k (c 0 0) (c 1) (c 2) (c 3) := TrC_f hC (q4 _ _ (by omega) (by omega) (by omega)) (fun d s u1 u2 => q4 _ _ (by omega) (by omega) (by omega))
    obtain ⟨w1, w2, w3, w4, w5⟩ := hT.2.2.2.2 i hi1 (by omega)
    have hpl : c 1 i ≤ c 0 0 := by omega
    have e1 := (aC.2 i (by omega)).1
    have e2 := (aC.2 (c 1 i) hpl).2.1
    have e12 := q2 (c 1 i) hpl
    have e14 := q1 (c 1 i) w1
    have em := c_isMark (fu := fu) (L := L1) hT aC (show i ≤ c 0 0 by omega)
    have ecm := cm_S (d := d) (g := g) hT hi1 (show i ≤ c 0 0 by omega)
    -- it doesn't come
    have no : cmB c d g i = false → wq (fX2_enterAll_b101 fu k (sI d) r (sI i) (sI (c 1 i)) a L1) Q := by
      intro hcm
      unfold fX2_enterAll_b101 fX2_enterAll_b102 fX2_enterAll_b122 fX2_enterAll_b156
      simp (disch := omega) only [mck_s, sI_nn, nn_s, sI_lt, sI_le, sI_eq, sI_ltl, sI_lel, sI_eql, sI_llt, sI_lle, sI_1, bI_0, bI_1, bI_n, mlet, mb3_s, mb2_s]
      rw [if_pos trivial, if_pos trivial]
      refine ih _ ⟨by omega, fun s hs => ?_, ⟨R, fun p hp => ?_⟩, fun p hp => ?_, fun b y u1 u2 u3 => by rw [mset_k u3]; exact q4 b y u1 u2 u3⟩
      · by_cases hq : s = i
        · rw [hq, mset_s, hcm]; rfl
        · rw [mset_j hq]; exact q1 s (by omega)
      · have := q2 p hp
        rw [mset_k (by omega)]
        refine ⟨this.1, this.2.1, fun u1 u2 => this.2.2.1 ?_ u2, fun u1 u2 => this.2.2.2 u1 ?_⟩
        · rcases u1 with v | v
          · exact Or.inl v
          · right
            refine ⟨?_, v.2⟩
            by_cases hq : p = i
            · rw [hq, hcm] at v; cases v.2
            · omega
        · intro v
          exact u2 ⟨by omega, v.2⟩
      · have := q3 p hp
        rw [mset_k (by omega)]
        refine ⟨fun v => this.1 ⟨?_, v.2⟩, fun v => this.2 (fun z => v ⟨by omega, z.2⟩)⟩
        by_cases hq : p = i
        · rw [hq, hcm] at v; cases v.2
        · omega
    -- it comes
    have yes : cmB c d g i = true → wq (fX2_enterAll_b97 fu k (sI d) r (sI i) (sI (c 1 i)) a L1) Q := by
      intro hcm
      have hin := cm_in hT i (by omega) hcm
      have hid : i ≠ d := by
        have := ins_lt hT i (by omega) hin.2.1
        omega
      have r1 := (q3 i (by omega)).2 (fun z => by omega)
      have rp : a (k + 13) (c 1 i) = sI (rcW g (c 1 i) (dqB c d g (c 1 i))) := by
        have hcd : c 1 i = d ∨ cmB c d g (c 1 i) = true := by
          rw [ecm] at hcm
          simp only [Bool.and_eq_true] at hcm
          have := hcm.1
          unfold cnD at this
          by_cases hq : c 1 i = d
          · exact Or.inl hq
          · rw [if_neg hq] at this
            exact Or.inr this
        by_cases hx : cmB c d g (c 1 i) = true
        · exact (q3 _ hpl).1 ⟨w1, hx⟩
        · rcases hcd with v | v
          · have := (q3 (c 1 i) hpl).2 (fun z => hx z.2)
            rw [this, v, edq]
            rfl
          · exact absurd v hx
      have edqi := dq_S (g := g) hT hi1 (show i ≤ c 0 0 by omega) hid
      have ei := q2 i (by omega)
      have eR : R i = P i := ei.2.2.2 hid (fun z => by omega)
      have Pi := (hP i (by omega)).1
      have hhi2 := hhi i (by omega)
      unfold fX2_enterAll_b97 fX2_enterAll_b102 fX2_enterAll_b122 fX2_enterAll_b156
      simp (disch := omega) only [mset_k, r1, rp, mck_s, sI_nn, nn_s, sI_lt, sI_le, sI_eq, sI_ltl, sI_lel, sI_eql, sI_llt, sI_lle, sI_1, bI_0, bI_1, bI_n, mlet, mb3_s, mb2_s]
      rw [if_neg (by decide), if_neg (by decide)]
      have eor : sI (rcN g i) ||| (sI (rcW g (c 1 i) (dqB c d g (c 1 i))) &&& 2) = sI (rcW g i (dqB c d g i)) := by
        rw [edqi]
        exact rc_and _ _ _ _
      rw [eor]
      refine wq_b2 (c_pickChild (p := i) (u := P i) (r := rcW g i (dqB c d g i)) (h := c 13 i) (f := dfl c i) (by omega) ?_ ?_ ?_ ?_ (by omega) rcW_le (by omega)) ?_
      · rw [mset_k (by omega), mset_k (by omega), ei.1, eR]
      · rw [mset_s]
      · rw [mset_k (by omega), mset_k (by omega), q4 _ _ (by omega) (by omega) (by omega)]; exact hhi2.1
      · rw [mset_k (by omega), mset_k (by omega), q4 _ _ (by omega) (by omega) (by omega)]; exact hdf i (by omega)
      rintro M2 L2 ⟨z1, z2, z3⟩
      dsimp only at z1 z2 z3
      subst z1
      refine ih M2 ⟨by omega, fun s hs => ?_, ⟨fun p => if p = i then (if P i ≠ 0 then P i else if rcW g i (dqB c d g i) ≠ 0 ∧ c 13 i ≠ 0 then c 13 i else dfl c i) else R p, fun p hp => ?_⟩, fun p hp => ?_, fun b y u1 u2 u3 => ?_⟩
      · rw [z3 _ _ (by omega), mset_k (by omega)]
        by_cases hq : s = i
        · rw [hq, mset_s, hcm]; rfl
        · rw [mset_j hq]; exact q1 s (by omega)
      · by_cases hq : p = i
        · subst hq
          dsimp only
          rw [if_pos rfl]
          refine ⟨z2, pkl _ _ _ _ Pi hhi2.2 (dle _), fun _ hk => ?_, fun _ v => absurd ⟨by omega, hcm⟩ v⟩
          unfold pkf
          rw [← ck_enc hG hP hp hk]
          have : (rcW g p (dqB c d g p) ≠ 0 ∧ c 13 p ≠ 0) ↔ ((g 1 p || dqB c d g p) = true ∧ c 13 p ≠ 0) := by rw [rcW_0]
          simp only [this]
        · dsimp only
          rw [if_neg hq, z3 _ _ (by omega), mset_k (by omega), mset_k (by omega)]
          have := q2 p hp
          refine ⟨this.1, this.2.1, fun u1 u2 => this.2.2.1 ?_ u2, fun u1 u2 => this.2.2.2 u1 (fun v => u2 ⟨by omega, v.2⟩)⟩
          rcases u1 with v | v
          · exact Or.inl v
          · exact Or.inr ⟨by omega, v.2⟩
      · by_cases hq : p = i
        · subst hq
          rw [z3 _ _ (by omega), mset_s]
          exact ⟨fun _ => rfl, fun v => absurd ⟨by omega, hcm⟩ v⟩
        · rw [z3 _ _ (by omega), mset_j hq, mset_k (by omega)]
          have := q3 p hp
          exact ⟨fun v => this.1 ⟨by omega, v.2⟩, fun v => this.2 (fun z => v ⟨by omega, z.2⟩)⟩
      · rw [z3 _ _ (by omega), mset_k u2, mset_k u3]; exact q4 b y u1 u2 u3
    have decider : ∀ (s0 : Int32) (wn : Bool), s0 = bI wn → (cnD c d g (c 1 i) = true → wn = (decide (c 2 (c 1 i) = 1) || decide (pkf c g (c 1 i) (dqB c d g (c 1 i)) = i))) → wq (fX2_enterAll_b64 fu k (sI d) r (sI i) (sI (c 1 i)) s0 a L1) Q := by
      intro s0 wn hs0 hwn
      unfold fX2_enterAll_b64
      rw [hs0]
      simp (disch := omega) only [em, e14, mck_s, sI_nn, nn_s, sI_lt, sI_le, sI_eq, sI_ltl, sI_lel, sI_eql, sI_llt, sI_lle, sI_1, bI_0, bI_1, bI_n, mlet, mb3_s, mb2_s]
      unfold cnD at ecm hwn
      by_cases hm : 2 ≤ c 2 i
      · rw [if_neg (by simp [hm])]
        exact no (by rw [ecm, decide_eq_false (show ¬ c 2 i ≤ 1 by omega)]; simp)
      rw [if_pos (by simp [hm])]
      rw [decide_eq_true (show c 2 i ≤ 1 by omega), Bool.true_and] at ecm
      cases wn with
      | false =>
        rw [if_pos rfl]
        refine no ?_
        rw [ecm]
        by_cases hx : (if c 1 i = d then true else cmB c d g (c 1 i)) = true
        · rw [← hwn hx]; simp
        · simp only [Bool.not_eq_true] at hx
          rw [hx]; rfl
      | true =>
        rw [if_neg (by decide)]
        by_cases hq : c 1 i = d
        · rw [if_pos hq]
          rw [if_pos hq] at ecm hwn
          exact yes (by rw [ecm, ← hwn rfl]; rfl)
        · rw [if_neg hq]
          rw [if_neg hq] at ecm hwn
          cases hx : cmB c d g (c 1 i) with
          | true =>
            rw [if_pos rfl]
            exact yes (by rw [ecm, hx, ← hwn hx]; rfl)
          | false =>
            rw [if_neg (by decide)]
            exact no (by rw [ecm, hx]; rfl)
    unfold fX2_enterAll_i17 fX2_enterAll_b59
    simp (disch := omega) only [aC.1, e1, e2, e12.1, mck_s, sI_nn, nn_s, sI_lt, sI_le, sI_eq, sI_ltl, sI_lel, sI_eql, sI_llt, sI_lle, sI_1, bI_0, bI_1, bI_n, mlet, mb3_s, mb2_s]
    rw [if_neg (by omega)]
    by_cases hk1 : c 2 (c 1 i) = 1
    · rw [if_pos hk1]
      exact decider 1 true rfl (fun _ => by rw [decide_eq_true hk1]; rfl)
    · rw [if_neg hk1]
      have hk0 : c 2 (c 1 i) = 0 := by omega
      have hRp : cnD c d g (c 1 i) = true → R (c 1 i) = pkf c g (c 1 i) (dqB c d g (c 1 i)) := by
        intro hx
        refine e12.2.2.1 ?_ hk0
        unfold cnD at hx
        by_cases hq : c 1 i = d
        · exact Or.inl hq
        · rw [if_neg hq] at hx
          exact Or.inr ⟨w1, hx⟩
      have hRl := e12.2.1
      by_cases hR : R (c 1 i) = i
      · rw [if_pos hR]
        exact decider 1 true rfl (fun hx => by rw [← hRp hx, decide_eq_true hR]; simp)
      · rw [if_neg hR]
        exact decider 0 false rfl (fun hx => by rw [← hRp hx, decide_eq_false hR, decide_eq_false hk1]; rfl)
  · intro a r ⟨_, q1, _, _, q4⟩
    show wq (fX2_enterAll_i17 fu k (sI d) r (sI (c 0 0 + 1)) a L1) _
    unfold fX2_enterAll_i17
    rw [q4 _ _ (by omega) (by omega) (by omega), hC.1, if_pos (by rw [sI_lt (by omega) (by omega)]; omega)]
    exact hQ a (fun s hs => q1 s (by omega)) q4
  · intro s hs
    have : s = 0 := by omega
    rw [this, mset_s, cm_0 hT]
    rfl
  · refine ⟨fun p => if p = d then (if P d ≠ 0 then P d else if rcN g d ≠ 0 ∧ c 13 d ≠ 0 then c 13 d else dfl c d) else P p, fun p hp => ?_⟩
    dsimp only
    have hno : ¬ (p < 1 ∧ cmB c d g p = true) := by
      intro z
      have : p = 0 := by omega
      rw [this, cm_0 hT] at z
      cases z.2
    rw [mset_k (by omega)]
    by_cases hq : p = d
    · subst hq
      rw [if_pos rfl]
      exact ⟨y2, pkl _ _ _ _ hPd (hhi p hp).2 (dle _), fun _ hk => pkd hk, fun v => absurd rfl v⟩
    · rw [if_neg hq, y3 _ _ (by omega)]
      refine ⟨(hg p hp).1, (hP p hp).1, fun u _ => ?_, fun _ _ => rfl⟩
      rcases u with v | v
      · exact absurd v hq
      · exact absurd v hno
  · intro p hp
    have hno : ¬ (p < 1 ∧ cmB c d g p = true) := by
      intro z
      have : p = 0 := by omega
      rw [this, cm_0 hT] at z
      cases z.2
    rw [mset_k (by omega), y3 _ _ (by omega)]
    exact ⟨fun z => absurd z hno, fun _ => (hg p hp).2⟩
  · intro b y u1 u2 u3
    rw [mset_k u3, y3 _ _ (by omega)]
/-! the class enters, the second way through -/
def acD (c : Nat → Nat → Nat) (va : Nat → Int32) (w s : Nat) (D : Nat → Int64) : Nat → Int64 := dA (fun i => c (8 + i)) va w s D (c 0 2)
theorem tk_nd {l : List Nat} {n : Nat} (hn : n < l.length) (hd : List.Pairwise (fun a b => a ≠ b) l) : l[n] ∉ l.take n := by
  have e : l = l.take n ++ l[n] :: l.drop (n + 1) := by
    rw [← List.drop_eq_getElem_cons hn, List.take_append_drop]
  intro h
  rw [e, List.pairwise_append] at hd
  exact hd.2.2 _ h _ (List.mem_cons_self ..) rfl
theorem tk_S {l : List Nat} {n : Nat} (hn : n < l.length) : l.take (n + 1) = l.take n ++ [l[n]] := by
  rw [List.take_succ, List.getElem?_eq_getElem hn]
  rfl
theorem c_enterAll {fu : Nat} {A : mwM} {L : mwL} {k d now : Nat} {c : Nat → Nat → Nat} {b : Nat → Nat → Bool} {va : Nat → Int32} {D : Nat → Int64} {x : Nat → Int32} {ch : Nat → Nat} {g : Nat → Nat → Bool} {P : Nat → Nat} (hf : 601 ≤ fu) (hv : Cv c) (h : ReX ch k A L c b va D x) (hG : GoA c d g) (hg : GrC A k (c 0 0) g P) (hP : CkP c g P) (hdl : d ≤ c 0 0) (hhi : ∀ s, s ≤ c 0 0 → c 13 s ≤ c 0 0) (hnow : A k 12 = sI now) : wq (DX2_enterAll fu k (sI d) A L) (fun z => ReX (chE c (cmB c d g) ch) k z.1 z.2 (ent c (cmB c d g) now) (enb b (cmB c d g)) va (alo (cmB c d g) (acD c va 0) (riL (c 3) (c 0 0) 42) D) x ∧ (∀ a y, ¬ (a = k + 7 ∨ a = k + 8 ∨ (k + 10 ≤ a ∧ a ≤ k + 14) ∨ a = k + 17) → z.1 a y = A a y) ∧ ∀ a, a ≠ k + 34 → z.2 a = L a) := by
  have hT := hv.1
  have hN := hT.1
  obtain ⟨hC, hEC, hXC, hf4, h5, h6, h7, h8⟩ := h
  refine c_coming (by omega) hT hC hG hg hP hdl (fun s hs => (h5 s hs).2.1) (fun s hs => ⟨(h5 s hs).2.2.2, hhi s hs⟩) ?_
  intro B o1 o2
  generalize hcm : cmB c d g = cm at *
  have hl := ri_len hT
  have hnd := ri_nd (de := c 3) (N := c 0 0) 42
  have hmm : ∀ s, 1 ≤ s → s ≤ c 0 0 → s ∈ riL (c 3) (c 0 0) 42 := fun s u1 u2 => (ri_mem 42).mpr ⟨u1, u2, by have := (hT.2.2.2.2 s u1 u2).2.2.1; omega⟩
  have hmr : ∀ s, s ∈ riL (c 3) (c 0 0) 42 → 1 ≤ s ∧ s ≤ c 0 0 := fun s hs => ⟨((ri_mem 42).mp hs).1, ((ri_mem 42).mp hs).2.1⟩
  have h7' := h7.1
  have hun : ∀ s t, s ≤ c 0 0 → t ≤ c 0 0 → cm s = true → cm t = true → c 1 s = c 1 t → c 2 (c 1 s) = 0 → s = t := by
    intro s t u1 u2 u3 u4 u5 u6
    rw [← hcm] at u3 u4
    exact cm_uniq hT u1 u2 u3 u4 u5 u6
  generalize hl0 : riL (c 3) (c 0 0) 42 = l0 at *
  refine wq_for (body := fun r z => fX2_enterAll_i164 fu k (sI d) r z.1 z.2.1 z.2.2) (fun i (w : mwM × mwL) => (sI i, w.1, w.2)) (fun i w => 1 ≤ i ∧ (∀ s, 1 ≤ s → s ≤ c 0 0 → w.1 (k + 7) s = bI (b 0 s || (cm s && decide (s ∈ l0.take (i - 1)))) ∧ w.1 (k + 17) s = bI (b 2 s || (cm s && decide (s ∈ l0.take (i - 1)))) ∧ w.1 (k + 10) s = sI (if (cm s && decide (s ∈ l0.take (i - 1))) = true then now else c 14 s) ∧ w.1 (k + 11) s = bI (b 1 s && !(cm s && decide (s ∈ l0.take (i - 1))))) ∧ (∀ p, p ≤ c 0 0 → (∀ t, t ∈ l0.take (i - 1) → cm t = true → c 1 t = p → c 2 p = 0 → w.1 (k + 8) p = sI t) ∧ ((∀ t, t ∈ l0.take (i - 1) → cm t = true → c 1 t = p → c 2 p ≠ 0) → w.1 (k + 8) p = sI (ch p))) ∧ w.2 (k + 34) = alo cm (acD c va 0) (l0.take (i - 1)) D ∧ (∀ a, a ≠ k + 34 → w.2 a = L a) ∧ ∀ a y, ¬ (a = k + 7 ∨ a = k + 8 ∨ a = k + 10 ∨ a = k + 11 ∨ a = k + 17) → w.1 a y = B a y) (c 0 0 + 1) ?_ ?_ (c 0 0) 1 (B, L) fu (by omega) (by omega) ⟨Nat.le_refl _, ?_, ?_, hf4.2.2.2.2.2, fun _ _ => rfl, fun _ _ _ => rfl⟩
  · rintro i ⟨a, l⟩ r hi ⟨hi1, q1, q2, q3, q4, q5⟩ ih
    dsimp only at q1 q2 q3 q4 q5
    obtain ⟨n, rfl⟩ : ∃ n, i = n + 1 := ⟨i - 1, by omega⟩
    rw [Nat.add_sub_cancel] at q1 q2 q3
    show wq (fX2_enterAll_i164 fu k (sI d) r (sI (n + 1)) a l) _
    have key := fun (X : mwM) (Y : mwL) => ih (X, Y)
    dsimp only at key
    simp only [show n + 1 + 1 - 1 = n + 1 from rfl] at key
    have hn : n < l0.length := by omega
    rw [tk_S hn] at key
    have hnin := tk_nd hn hnd
    have hget := List.getElem?_eq_getElem hn
    generalize hs : l0[n] = s at *
    have hsr := hmr s (by rw [← hs]; exact List.getElem_mem hn)
    generalize hpre : l0.take n = pre at *
    obtain ⟨w1, w2, w3, w4, w5⟩ := hT.2.2.2.2 s hsr.1 hsr.2
    have e18 : a (k + 18) (n + 1) = sI s := by
      rw [q5 _ _ (by omega), o2 _ _ (by omega) (by omega) (by omega)]
      exact h7' n s hget
    have e14 : a (k + 14) s = bI (cm s) := by rw [q5 _ _ (by omega)]; exact o1 s hsr.2
    have e7 : a k 7 = sI (c 0 0) := by rw [q5 _ _ (by omega), o2 _ _ (by omega) (by omega) (by omega)]; exact hC.1
    have e12 : a k 12 = sI now := by rw [q5 _ _ (by omega), o2 _ _ (by omega) (by omega) (by omega)]; exact hnow
    have e2 : a (k + 2) s = sI (c 1 s) := by rw [q5 _ _ (by omega), o2 _ _ (by omega) (by omega) (by omega)]; exact (hC.2 s hsr.2).1
    have e3 : a (k + 3) (c 1 s) = sI (c 2 (c 1 s)) := by rw [q5 _ _ (by omega), o2 _ _ (by omega) (by omega) (by omega)]; exact (hC.2 _ (by omega)).2.1
    have eal : ∀ D0, alo cm (acD c va 0) (pre ++ [s]) D0 = if cm s = true then acD c va 0 s (alo cm (acD c va 0) pre D0) else alo cm (acD c va 0) pre D0 := fun D0 => by
      rw [alo_app]
      rfl
    have dmem : ∀ t, decide (t ∈ pre ++ [s]) = (decide (t ∈ pre) || decide (t = s)) := by
      intro t
      rw [Bool.eq_iff_iff]
      simp
    unfold fX2_enterAll_i164 fX2_enterAll_b272 fX2_enterAll_b278
    simp (disch := omega) only [e7, e18, e14, e12, e2, e3, mset_n, mck_s, sI_nn, nn_s, sI_lt, sI_le, sI_eq, sI_ltl, sI_lel, sI_eql, sI_llt, sI_lle, sI_1, bI_0, bI_1, bI_n, mlet, mb3_s, mb2_s]
    rw [if_neg (by omega)]
    cases hc : cm s with
    | false =>
      rw [if_neg (by decide)]
      refine key a l ⟨by omega, fun t u1 u2 => ?_, fun p hp => ?_, ?_, q4, q5⟩
      · have := q1 t u1 u2
        rw [dmem]
        by_cases hts : t = s
        · rw [hts] at this ⊢
          rw [hc] at this ⊢
          simpa using this
        · rw [decide_eq_false hts, Bool.or_false]
          exact this
      · have := q2 p hp
        refine ⟨fun t ht => ?_, fun ht => this.2 (fun t ht2 => ht t (List.mem_append_left _ ht2))⟩
        rw [List.mem_append, List.mem_singleton] at ht
        rcases ht with ht | rfl
        · exact this.1 t ht
        · intro hx
          rw [hc] at hx
          cases hx
      · rw [eal, hc, if_neg (by decide)]
        exact q3
    | true =>
      rw [if_pos rfl]
      have aX : ∀ G : mwM, (∀ a' y, ¬ (a' = k + 7 ∨ a' = k + 8 ∨ a' = k + 10 ∨ a' = k + 11 ∨ a' = k + 17) → G a' y = a a' y) → AxC G k (c 0 2) (fun i => c (8 + i)) va := by
        intro G hG2
        refine ⟨?_, fun i hi => ?_⟩
        · simp (disch := omega) only [hG2, q5, o2]; exact hXC.1
        · simp (disch := omega) only [hG2, q5, o2]; exact hXC.2 i hi
      have go : ∀ G : mwM, (∀ a' y, ¬ (y = s ∧ (a' = k + 7 ∨ a' = k + 10 ∨ a' = k + 11 ∨ a' = k + 17)) → ¬ (a' = k + 8 ∧ y = c 1 s) → G a' y = a a' y) → G (k + 7) s = 1 → G (k + 17) s = 1 → G (k + 10) s = sI now → G (k + 11) s = 0 → (c 2 (c 1 s) = 0 → G (k + 8) (c 1 s) = sI s) → (c 2 (c 1 s) ≠ 0 → G (k + 8) (c 1 s) = a (k + 8) (c 1 s)) → wq (mb2 (DX2_doActs fu k 0 (sI s) G l) (fun M63 L64 => r (sI (n + 1 + 1), M63, L64))) (fun z => ReX (chE c cm ch) k z.1 z.2 (ent c cm now) (enb b cm) va (alo cm (acD c va 0) l0 D) x ∧ (∀ a y, ¬ (a = k + 7 ∨ a = k + 8 ∨ (k + 10 ≤ a ∧ a ≤ k + 14) ∨ a = k + 17) → z.1 a y = A a y) ∧ ∀ a, a ≠ k + 34 → z.2 a = L a) := by
        intro G g0 g1 g2 g3 g4 g5 g6
        refine wq_b2 (c_doActs (w := 0) (o := s) (n := c 0 2) (by omega) hv.2.2.1 (aX G (fun a' y u => g0 a' y (by omega) (by omega))) (by omega) (by omega)) ?_
        rintro M1 L1 ⟨y1, y2, y3⟩
        dsimp only at y1 y2 y3
        subst y1
        refine key M1 L1 ⟨by omega, fun t u1 u2 => ?_, fun p hp => ?_, ?_, fun a' u => (y3 a' u).trans (q4 a' u), fun a' y u => (g0 a' y (by omega) (by omega)).trans (q5 a' y u)⟩
        · have := q1 t u1 u2
          rw [dmem]
          by_cases hts : t = s
          · subst hts
            rw [hc, decide_eq_true rfl, g1, g2, g3, g4]
            simp [bI]
          · rw [decide_eq_false hts, Bool.or_false, g0 _ _ (by omega) (by omega), g0 _ _ (by omega) (by omega), g0 _ _ (by omega) (by omega), g0 _ _ (by omega) (by omega)]
            exact this
        · have := q2 p hp
          refine ⟨fun t ht hct htp hk => ?_, fun ht => ?_⟩
          · rw [List.mem_append, List.mem_singleton] at ht
            rcases ht with ht | rfl
            · by_cases hps : c 1 s = p
              · have htr := hmr t (by rw [← hpre] at ht; exact List.mem_of_mem_take ht)
                have := hun t s htr.2 hsr.2 hct hc (by omega) (by rw [htp]; exact hk)
                rw [this, ← hps]
                exact g5 (by rw [hps]; exact hk)
              · rw [g0 _ _ (by omega) (by omega)]
                exact this.1 t ht hct htp hk
            · rw [← htp]
              exact g5 (by rw [htp]; exact hk)
          · by_cases hps : c 1 s = p
            · have hk := ht s (List.mem_append_right _ (List.mem_singleton.mpr rfl)) hc hps
              have g6' := g6 (by rw [hps]; exact hk)
              rw [hps] at g6'
              rw [g6']
              exact this.2 (fun t ht2 => ht t (List.mem_append_left _ ht2))
            · rw [g0 _ _ (by omega) (by omega)]
              exact this.2 (fun t ht2 => ht t (List.mem_append_left _ ht2))
        · rw [eal, hc, if_pos rfl, y2, q3]
          rfl
      by_cases hk : c 2 (c 1 s) = 0
      · rw [if_pos hk]
        refine go _ ?_ ?_ ?_ ?_ ?_ ?_ ?_
        · intro a' y u1 u2
          simp (disch := omega) only [mset_n]
        all_goals (try (simp (disch := omega) only [mset_n, mset_s]))
        · intro _; trivial
        · intro z; exact absurd hk z
      · rw [if_neg hk]
        refine go _ ?_ ?_ ?_ ?_ ?_ ?_ ?_
        · intro a' y u1 u2
          simp (disch := omega) only [mset_n]
        all_goals (try (simp (disch := omega) only [mset_n, mset_s]))
        · intro z; exact absurd z hk
        · intro _; trivial
  · rintro ⟨a, l⟩ r ⟨_, q1, q2, q3, q4, q5⟩
    dsimp only at q1 q2 q3 q4 q5
    rw [Nat.add_sub_cancel, List.take_of_length_le (show l0.length ≤ c 0 0 by omega)] at q1 q2 q3
    show wq (fX2_enterAll_i164 fu k (sI d) r (sI (c 0 0 + 1)) a l) _
    have e7 : a k 7 = sI (c 0 0) := by rw [q5 _ _ (by omega), o2 _ _ (by omega) (by omega) (by omega)]; exact hC.1
    have fr : ∀ a' y, ¬ (a' = k + 7 ∨ a' = k + 8 ∨ (k + 10 ≤ a' ∧ a' ≤ k + 14) ∨ a' = k + 17) → a a' y = A a' y := fun a' y u => by rw [q5 _ _ (by omega), o2 _ _ (by omega) (by omega) (by omega)]
    unfold fX2_enterAll_i164
    rw [e7, if_pos (by rw [sI_lt (by omega) (by omega)]; omega)]
    refine wq_some ⟨?_, fr, q4⟩
    dsimp only
    have ec : ∀ i, i ≠ 14 → ent c cm now i = c i := by
      intro i hi
      funext j
      unfold ent
      rw [if_neg (fun z => hi z.1)]
    have eb : ∀ i, 3 ≤ i → enb b cm i = b i := by
      intro i hi
      funext j
      unfold enb
      rw [if_neg (by omega), if_neg (by omega), if_neg (by omega)]
    unfold ReX
    rw [ec 0 (by omega), ec 1 (by omega), ec 2 (by omega), ec 3 (by omega), ec 4 (by omega), ec 5 (by omega), ec 6 (by omega), ec 7 (by omega), ec 12 (by omega), ec 13 (by omega), eb 3 (by omega), eb 4 (by omega), eb 5 (by omega), eb 6 (by omega)]
    refine ⟨TrC_f hC (fr _ _ (by omega)) (fun a s u1 u2 => fr _ _ (by omega)), ?_, ?_, ?_, ?_, ?_, ?_, ?_⟩
    · refine ⟨?_, fun e u1 u2 => ?_⟩
      · simp (disch := omega) only [fr]; exact hEC.1
      · simp (disch := omega) only [fr]; exact hEC.2 e u1 u2
    · refine ⟨?_, fun i hi => ?_⟩
      · simp (disch := omega) only [fr]; exact hXC.1
      · have := hXC.2 i hi
        dsimp only at this ⊢
        rw [ec _ (by omega), ec _ (by omega), ec _ (by omega), ec _ (by omega)]
        simp (disch := omega) only [fr]; exact this
    · rw [q3]
      simp (disch := omega) only [fr]
      exact ⟨hf4.1, hf4.2.1, hf4.2.2.1, hf4.2.2.2.1, hf4.2.2.2.2.1, trivial⟩
    · intro s hs
      have := h5 s hs
      rw [fr (k + 5) s (by omega), fr (k + 6) s (by omega), fr (k + 9) s (by omega)]
      refine ⟨this.1, this.2.1, ?_, this.2.2.2⟩
      unfold chE
      by_cases hx : c 2 s = 0 ∧ fstN (fun t => decide (c 1 t = s) && cm t) (c 0 0) 1 ≠ 0
      · rw [if_pos hx]
        have hp := fst_p _ _ (by omega) hx.2
        simp only [Bool.and_eq_true, decide_eq_true_eq] at hp
        exact (q2 s hs).1 _ (hmm _ hp.2.1 (by omega)) hp.1.2 hp.1.1 hx.1
      · rw [if_neg hx]
        refine (q2 s hs).2 (fun t ht hct htp hk => ?_)
        have htr := hmr t ht
        have hz : fstN (fun t => decide (c 1 t = s) && cm t) (c 0 0) 1 = 0 := by
          rcases Nat.eq_zero_or_pos (fstN (fun t => decide (c 1 t = s) && cm t) (c 0 0) 1) with z | z
          · exact z
          · exact absurd ⟨hk, by omega⟩ hx
        have := fst_n _ _ (by omega) hz t htr.1 (by omega)
        rw [hct, decide_eq_true htp] at this
        cases this
    · intro s u1 hs
      have := q1 s u1 hs
      rw [decide_eq_true (hmm s u1 hs), Bool.and_true] at this
      refine ⟨this.1, ?_, this.2.2.2, this.2.1⟩
      rw [this.2.2.1]
      unfold ent
      by_cases hq : cm s = true
      · rw [if_pos hq, if_pos ⟨rfl, hq⟩]
      · rw [if_neg hq, if_neg (fun z => hq z.2)]
    · refine ⟨fun i v hv => ?_, fun i v hv => ?_⟩
      · rw [hl0] at hv
        rw [fr _ _ (by omega)]
        exact h7.1 i v hv
      · rw [fr _ _ (by omega)]; exact h7.2 i v hv
    · intro e u1 u2
      rw [fr _ _ (by omega)]; exact h8 e u1 u2
  · intro s u1 u2
    have := h6 s u1 u2
    dsimp only
    rw [o2 _ _ (by omega) (by omega) (by omega), o2 _ _ (by omega) (by omega) (by omega), o2 _ _ (by omega) (by omega) (by omega), o2 _ _ (by omega) (by omega) (by omega)]
    simp only [show (1 : Nat) - 1 = 0 from rfl, List.take_zero, List.not_mem_nil, decide_false, Bool.and_false, Bool.or_false, Bool.not_false, Bool.and_true]
    refine ⟨this.1, this.2.2.2, ?_, this.2.2.1⟩
    rw [if_neg (by decide)]
    exact this.2.1
  · intro p hp
    dsimp only
    rw [o2 _ _ (by omega) (by omega) (by omega)]
    exact ⟨fun t ht => absurd ht (by simp), fun _ => (h5 p hp).2.2.1⟩
/-! the reference fills -/
def HiV (c : Nat → Nat → Nat) : Prop := ∀ s, s ≤ c 0 0 → c 13 s = 0 ∨ (1 ≤ c 13 s ∧ c 13 s ≤ c 0 0 ∧ c 1 (c 13 s) = s ∧ c 2 (c 13 s) ≤ 1)
theorem HiV_le {c : Nat → Nat → Nat} (h : HiV c) : ∀ s, s ≤ c 0 0 → c 13 s ≤ c 0 0 := by
  intro s hs
  rcases h s hs with q | q
  · omega
  · omega
theorem df_p {c : Nat → Nat → Nat} {p : Nat} (h : dfl c p ≠ 0) : 1 ≤ dfl c p ∧ dfl c p ≤ c 0 0 ∧ c 1 (dfl c p) = p ∧ c 2 (dfl c p) ≤ 1 := by
  have hz := fst_p (p := chP (c 1) (c 2) (fun _ => true) p) _ _ (by omega) h
  have h1 := hz.1
  unfold chP at h1
  simp only [Bool.and_eq_true, decide_eq_true_eq] at h1
  exact ⟨hz.2.1, by have := hz.2.2; unfold dfl chF; omega, h1.1.1, h1.1.2⟩
def pk2 (c : Nat → Nat → Nat) (g1 : Nat → Bool) (p : Nat) (w : Bool) : Nat := if (w || g1 p) = true ∧ c 13 p ≠ 0 then c 13 p else dfl c p
theorem m_fill {fu : Nat} {M : mwM} {L : mwL} {q d s : Nat} {c : Nat → Nat → Nat} {o g1 w : Nat → Bool} (hf : 202 ≤ fu) (hT : Tr (c 0 0) (c 1) (c 2) (c 3)) (hM : TrM M q (c 0 0) (c 1) (c 2) (c 3)) (ho : ∀ t, 1 ≤ t → t ≤ c 0 0 → M (q + 27) t = bI (o t)) (hg1 : ∀ t, t ≤ c 0 0 → M (q + 28) t = bI (g1 t)) (hw : ∀ t, t ≤ c 0 0 → M (q + 29) t = bI (w t)) (hhi : ∀ t, t ≤ c 0 0 → M (q + 4) t = sI (c 13 t)) (hH : HiV c) (hs : s ≤ c 0 0) (hd : d ≤ c 0 0) (hk : c 2 s ≤ 1) : wq (DX13_fill fu q (sI s) (sI d) M L) (fun z => z.2 = L ∧ z.1 (q + 29) s = bI (w s || (decide (s ≠ d) && w (c 1 s))) ∧ (∀ t, 1 ≤ t → t ≤ c 0 0 → z.1 (q + 27) t = bI (if c 2 s = 1 then o t || (decide (c 1 t = s) && decide (c 2 t ≤ 1)) else if anyN (fun t => decide (c 1 t = s) && o t) (c 0 0) = true then o t else o t || decide (t = pk2 c g1 s (w s || (decide (s ≠ d) && w (c 1 s))))) ) ∧ ∀ b y, b ≠ q + 27 → ¬ (b = q + 29 ∧ y = s) → z.1 b y = M b y) := by
  have hN := hT.1
  have hps := Tr_pa hT hs
  have b1 : vp_nar .boolean (1 : Int32) = bI true := by decide
  have b0 : vp_nar .boolean (0 : Int32) = bI false := by decide
  generalize hW : (w s || (decide (s ≠ d) && w (c 1 s))) = W
  generalize hQ : (fun z : mwM × mwL => z.2 = L ∧ z.1 (q + 29) s = bI W ∧ (∀ t, 1 ≤ t → t ≤ c 0 0 → z.1 (q + 27) t = bI (if c 2 s = 1 then o t || (decide (c 1 t = s) && decide (c 2 t ≤ 1)) else if anyN (fun t => decide (c 1 t = s) && o t) (c 0 0) = true then o t else o t || decide (t = pk2 c g1 s W))) ∧ ∀ b y, b ≠ q + 27 → ¬ (b = q + 29 ∧ y = s) → z.1 b y = M b y) = Q
  -- behind the mark of deepness
  have main : ∀ v : Int32, v = bI W → wq (fX13_fill_b38 fu q (sI s) (sI d) v M L) Q := by
    intro v hv
    subst hv
    unfold fX13_fill_b38
    simp (disch := omega) only [mck_s, sI_nn, nn_s, sI_lt, sI_le, sI_eq, sI_ltl, sI_lel, sI_eql, sI_llt, sI_lle, sI_1, bI_0, bI_1, bI_n, mlet, mb3_s, mb2_s]
    refine wq_for (body := fun r z => fX13_fill_i44 fu q (sI s) (sI d) r z.1 z.2.1 z.2.2.1 z.2.2.2) (fun i (a : mwM × Bool) => (bI a.2, sI i, a.1, L)) (fun i a => 1 ≤ i ∧ a.1 (q + 29) s = bI W ∧ (∀ t, 1 ≤ t → t ≤ c 0 0 → a.1 (q + 27) t = bI (o t || (decide (t < i) && (decide (c 2 s = 1) && (decide (c 1 t = s) && decide (c 2 t ≤ 1)))))) ∧ (c 2 s = 0 → a.2 = anyN (fun t => decide (c 1 t = s) && o t) (i - 1)) ∧ ∀ b y, b ≠ q + 27 → ¬ (b = q + 29 ∧ y = s) → a.1 b y = M b y) (c 0 0 + 1) ?_ ?_ (c 0 0) 1 (mset M (q + 29) s (bI W), false) fu (by omega) (by omega) ⟨Nat.le_refl _, mset_s, ?_, fun _ => rfl, ?_⟩
    · rintro i ⟨a, so⟩ r hi ⟨hi1, p0, p1, p2, p3⟩ ih
      dsimp only at p0 p1 p2 p3
      obtain ⟨n, rfl⟩ : ∃ n, i = n + 1 := ⟨i - 1, by omega⟩
      show wq (fX13_fill_i44 fu q (sI s) (sI d) r (bI so) (sI (n + 1)) a L) _
      have key := fun (X : mwM) (Y : Bool) => ih (X, Y)
      dsimp only at key
      simp only [show n + 1 + 1 - 1 = n + 1 from rfl] at key
      rw [Nat.add_sub_cancel] at p2
      have aM : TrM a q (c 0 0) (c 1) (c 2) (c 3) := TrM_f hM (p3 _ _ (by omega) (by omega)) (fun d s u1 u2 => p3 _ _ (by omega) (by omega))
      have hpn := Tr_pa hT (show n + 1 ≤ c 0 0 by omega)
      have e1 := (aM.2 (n + 1) (by omega)).1
      have e2 := (aM.2 s hs).2.1
      have em := m_mark (fu := fu) (L := L) hT aM (show n + 1 ≤ c 0 0 by omega)
      have eo := p1 (n + 1) (by omega) (by omega)
      rw [decide_eq_false (show ¬ n + 1 < n + 1 by omega), Bool.false_and, Bool.or_false] at eo
      -- behind the entering
      have b91 : ∀ G : mwM, (∀ b y, ¬ (b = q + 27 ∧ y = n + 1) → G b y = a b y) → (G (q + 27) (n + 1) = bI (o (n + 1) || (decide (c 2 s = 1) && (decide (c 1 (n + 1) = s) && decide (c 2 (n + 1) ≤ 1))))) → wq (fX13_fill_b91 fu q (sI s) (sI d) r (bI so) (sI (n + 1)) G L) Q := by
        intro G k1 k2
        have next : ∀ so2 : Bool, (c 2 s = 0 → so2 = (so || (decide (c 1 (n + 1) = s) && o (n + 1)))) → wq (r (bI so2, sI (n + 1 + 1), G, L)) Q := by
          intro so2 hso
          refine key G so2 ⟨by omega, (k1 _ _ (by omega)).trans p0, fun t u1 u2 => ?_, fun hk0 => ?_, fun b y u1 u2 => (k1 b y (by omega)).trans (p3 b y u1 u2)⟩
          · by_cases hq : t = n + 1
            · subst hq
              rw [k2, decide_eq_true (show n + 1 < n + 1 + 1 by omega), Bool.true_and]
            · rw [k1 _ _ (by omega), p1 t u1 u2]
              by_cases hlt : t < n + 1
              · rw [decide_eq_true hlt, decide_eq_true (show t < n + 1 + 1 by omega)]
              · rw [decide_eq_false hlt, decide_eq_false (show ¬ t < n + 1 + 1 by omega)]
          · rw [hso hk0, p2 hk0]
            rfl
        have g2 : G (q + 2) (n + 1) = sI (c 1 (n + 1)) := (k1 _ _ (by omega)).trans e1
        unfold fX13_fill_b91 fX13_fill_b120 fX13_fill_b116 fX13_fill_b121
        simp (disch := omega) only [g2, k2, mck_s, sI_nn, nn_s, sI_lt, sI_le, sI_eq, sI_ltl, sI_lel, sI_eql, sI_llt, sI_lle, sI_1, bI_0, bI_1, bI_n, mlet, mb3_s, mb2_s]
        cases so with
        | true =>
          rw [if_neg (by decide)]
          exact next true (fun _ => rfl)
        | false =>
          rw [if_pos rfl]
          by_cases h1 : c 1 (n + 1) = s
          · rw [if_pos h1]
            cases hx : (o (n + 1) || (decide (c 2 s = 1) && (decide (c 1 (n + 1) = s) && decide (c 2 (n + 1) ≤ 1)))) with
            | false =>
              rw [if_pos rfl]
              refine next false (fun hk0 => ?_)
              rw [hk0] at hx
              simp only [Bool.or_eq_false_iff] at hx
              rw [hx.1]
              simp
            | true =>
              rw [if_neg (by decide)]
              refine next true (fun hk0 => ?_)
              rw [hk0] at hx
              simp at hx
              rw [hx, decide_eq_true h1]
              rfl
          · rw [if_neg h1]
            refine next false (fun hk0 => ?_)
            rw [decide_eq_false h1]
            rfl
      unfold fX13_fill_i44
      simp (disch := omega) only [aM.1, e1, e2, em, b1, mck_s, sI_nn, nn_s, sI_lt, sI_le, sI_eq, sI_ltl, sI_lel, sI_eql, sI_llt, sI_lle, sI_1, bI_0, bI_1, bI_n, mlet, mb3_s, mb2_s]
      rw [if_neg (by omega)]
      by_cases h1 : c 1 (n + 1) = s
      · rw [if_pos h1]
        by_cases h2 : c 2 s = 1
        · rw [if_pos h2]
          by_cases h3 : 2 ≤ c 2 (n + 1)
          · rw [if_neg (by simp [h3])]
            refine b91 a (fun _ _ _ => rfl) ?_
            rw [eo, decide_eq_false (show ¬ c 2 (n + 1) ≤ 1 by omega)]
            simp
          · rw [if_pos (by simp [h3])]
            refine b91 _ (fun b y u => mset_n u) ?_
            rw [mset_s, decide_eq_true h2, decide_eq_true h1, decide_eq_true (show c 2 (n + 1) ≤ 1 by omega)]
            simp
        · rw [if_neg h2]
          refine b91 a (fun _ _ _ => rfl) ?_
          rw [eo, decide_eq_false h2]
          simp
      · rw [if_neg h1]
        refine b91 a (fun _ _ _ => rfl) ?_
        rw [eo, decide_eq_false h1]
        simp
    · rintro ⟨a, so⟩ r ⟨_, p0, p1, p2, p3⟩
      dsimp only at p0 p1 p2 p3
      rw [Nat.add_sub_cancel] at p2
      show wq (fX13_fill_i44 fu q (sI s) (sI d) r (bI so) (sI (c 0 0 + 1)) a L) _
      have aM : TrM a q (c 0 0) (c 1) (c 2) (c 3) := TrM_f hM (p3 _ _ (by omega) (by omega)) (fun d s u1 u2 => p3 _ _ (by omega) (by omega))
      have e2 := (aM.2 s hs).2.1
      have e28 : a (q + 28) s = bI (g1 s) := (p3 _ _ (by omega) (by omega)).trans (hg1 s hs)
      have e4 : a (q + 4) s = sI (c 13 s) := (p3 _ _ (by omega) (by omega)).trans (hhi s hs)
      have hle := HiV_le hH s hs
      -- nothing more is entered
      have stop : (c 2 s = 0 → so = true) → wq (fX13_fill_b141 fu q (sI s) (sI d) a L) Q := by
        intro hso
        unfold fX13_fill_b141
        rw [← hQ]
        refine wq_some ⟨rfl, p0, fun t u1 u2 => ?_, p3⟩
        dsimp only
        rw [p1 t u1 u2, decide_eq_true (show t < c 0 0 + 1 by omega), Bool.true_and]
        by_cases h1 : c 2 s = 1
        · rw [if_pos h1, decide_eq_true h1, Bool.true_and]
        · have h0 : c 2 s = 0 := by omega
          rw [if_neg h1, decide_eq_false h1]
          have := p2 h0
          rw [hso h0] at this
          rw [if_pos this.symm]
          simp
      -- one is entered
      have one : c 2 s = 0 → so = false → ∀ v, v = pk2 c g1 s W → v ≤ c 0 0 → wq (fX13_fill_b184 fu q (sI s) (sI d) (sI v) a L) Q := by
        intro h0 hso v hv hvl
        have hany := p2 h0
        rw [hso] at hany
        unfold fX13_fill_b184 fX13_fill_b199
        simp (disch := omega) only [b1, mck_s, sI_nn, nn_s, sI_lt, sI_le, sI_eq, sI_ltl, sI_lel, sI_eql, sI_llt, sI_lle, sI_1, bI_0, bI_1, bI_n, mlet, mb3_s, mb2_s]
        rw [← hQ]
        by_cases hv0 : v ≤ 0
        · rw [if_pos hv0]
          refine wq_some ⟨rfl, p0, fun t u1 u2 => ?_, p3⟩
          dsimp only
          rw [p1 t u1 u2, if_neg (by omega), ← hany, if_neg (by decide), decide_eq_false (show ¬ c 2 s = 1 by omega), ← hv, decide_eq_false (show ¬ t = v by omega)]
          simp
        · rw [if_neg hv0]
          refine wq_some ⟨rfl, by dsimp only; rw [mset_k (by omega)]; exact p0, fun t u1 u2 => ?_, fun b y u1 u2 => ?_⟩
          all_goals (try dsimp only)
          · rw [if_neg (by omega), ← hany, if_neg (by decide), ← hv]
            by_cases hq : t = v
            · rw [hq, mset_s, decide_eq_true rfl]; simp
            · rw [mset_j hq, p1 t u1 u2, decide_eq_false (show ¬ c 2 s = 1 by omega), decide_eq_false hq]
              simp
          · rw [mset_k u1]; exact p3 b y u1 u2
      have ech := m_child (fu := fu) (L := L) (w := false) (ac := fun _ => false) (s := s) (by omega) hT aM (fun z => by cases z) hs
      have hdl : chF (c 1) (c 2) (c 0 0) (fun c => !false || false) s = dfl c s := rfl
      have b178 : c 2 s = 0 → so = false → ¬ ((W || g1 s) = true ∧ c 13 s ≠ 0) → wq (fX13_fill_b178 fu q (sI s) (sI d) a L) Q := by
        intro h0 hso hn
        unfold fX13_fill_b178
        rw [show DX13_child fu q (sI s) 0 a L = _ from ech, mb3_s]
        refine one h0 hso _ ?_ ch_le
        unfold pk2
        rw [if_neg hn]
        rfl
      have b160 : c 2 s = 0 → so = false → (W || g1 s) = true → wq (fX13_fill_b160 fu q (sI s) (sI d) a L) Q := by
        intro h0 hso hn
        unfold fX13_fill_b160
        simp (disch := omega) only [e4, mck_s, sI_nn, nn_s, sI_lt, sI_le, sI_eq, sI_ltl, sI_lel, sI_eql, sI_llt, sI_lle, sI_1, bI_0, bI_1, bI_n, mlet, mb3_s, mb2_s]
        by_cases hz : c 13 s ≤ 0
        · rw [if_pos hz]
          exact b178 h0 hso (fun z => z.2 (by omega))
        · rw [if_neg hz]
          refine one h0 hso _ ?_ hle
          unfold pk2
          rw [if_pos ⟨hn, by omega⟩]
      unfold fX13_fill_i44
      rw [aM.1, if_pos (by rw [sI_lt (by omega) (by omega)]; omega)]
      simp (disch := omega) only [e2, p0, e28, mck_s, sI_nn, nn_s, sI_lt, sI_le, sI_eq, sI_ltl, sI_lel, sI_eql, sI_llt, sI_lle, sI_1, bI_0, bI_1, bI_n, mlet, mb3_s, mb2_s]
      cases so with
      | true =>
        rw [if_neg (by decide)]
        exact stop (fun _ => rfl)
      | false =>
        rw [if_pos rfl]
        by_cases h0 : c 2 s = 0
        · rw [if_pos h0]
          cases hW2 : W with
          | true =>
            rw [if_neg (by decide)]
            exact b160 h0 rfl (by rw [hW2]; rfl)
          | false =>
            rw [if_pos rfl]
            cases hg2 : g1 s with
            | true =>
              rw [if_neg (by decide)]
              exact b160 h0 rfl (by rw [hg2]; simp)
            | false =>
              rw [if_pos rfl]
              exact b178 h0 rfl (fun z => by rw [hW2, hg2] at z; cases z.1)
        · rw [if_neg h0]
          exact stop (fun z => absurd z h0)
    · intro t u1 u2
      dsimp only
      rw [mset_k (by omega), ho t u1 u2, decide_eq_false (show ¬ t < 1 by omega)]
      simp
    · intro b y u1 u2
      dsimp only
      rw [mset_n u2]
  unfold DX13_fill fX13_fill_b37 fX13_fill_b33
  have e2 := (hM.2 s hs).1
  have e29 := hw s hs
  have e29p := hw (c 1 s) hps.1
  simp (disch := omega) only [e2, e29, e29p, mck_s, sI_nn, nn_s, sI_lt, sI_le, sI_eq, sI_ltl, sI_lel, sI_eql, sI_llt, sI_lle, sI_1, bI_0, bI_1, bI_n, mlet, mb3_s, mb2_s]
  cases h1 : w s with
  | true =>
    rw [if_neg (by decide)]
    exact main 1 (by rw [← hW, h1]; rfl)
  | false =>
    rw [if_pos rfl]
    by_cases h2 : s = d
    · rw [if_pos h2]
      exact main 0 (by rw [← hW, h1, decide_eq_false (fun z => z h2)]; rfl)
    · rw [if_neg h2]
      cases h3 : w (c 1 s) with
      | true =>
        rw [if_neg (by decide)]
        exact main 1 (by rw [← hW, h1, h3, decide_eq_true h2]; rfl)
      | false =>
        rw [if_pos rfl]
        exact main 0 (by rw [← hW, h1, h3]; simp [bI])
/-! the reference enters -/
/-- what is aimed at is entered -/
theorem en_cm {c : Nat → Nat → Nat} {d : Nat} {g : Nat → Nat → Bool} (hT : Tr (c 0 0) (c 1) (c 2) (c 3)) (hG : GoA c d g) : ∀ s, g 0 s = true → cmB c d g s = true := by
  intro s
  induction s using Nat.strongRecOn with
  | _ s ih =>
    intro hs
    obtain ⟨u1, u2, u3, u4, u5, u6⟩ := hG s hs
    have hp := hT.2.2.2.2 s u1 u2
    rw [cm_S hT u1 u2, decide_eq_true u3, Bool.true_and, Bool.and_eq_true]
    refine ⟨?_, ?_⟩
    · unfold cnD
      by_cases hq : c 1 s = d
      · rw [if_pos hq]
      · rw [if_neg hq]
        rcases u5 with v | v
        · exact absurd v hq
        · exact ih (c 1 s) hp.1 v
    · by_cases hk : c 2 (c 1 s) = 1
      · rw [decide_eq_true hk]; rfl
      · have hk0 : c 2 (c 1 s) = 0 := by omega
        have he : enc c (g 0) (c 1 s) = s := by
          unfold enc
          have hne : fstN (fun t => decide (c 1 t = c 1 s) && g 0 t) (c 0 0) 1 ≠ 0 := by
            intro z
            have := fst_n _ _ (by omega) z s u1 (by omega)
            rw [hs, decide_eq_true rfl] at this
            cases this
          have hz := fst_p _ _ (by omega) hne
          simp only [Bool.and_eq_true, decide_eq_true_eq] at hz
          exact u6 _ hz.1.2 hz.1.1 hk0
        unfold pkf
        rw [he, if_pos (by omega), decide_eq_true rfl]
        simp
/-- the children of one that is gone through -/
theorem fill_cm {c : Nat → Nat → Nat} {d p t : Nat} {g : Nat → Nat → Bool} {o : Nat → Bool} (hT : Tr (c 0 0) (c 1) (c 2) (c 3)) (hG : GoA c d g) (hH : HiV c) (hp : cnD c d g p = true) (hpl : p ≤ c 0 0) (hk : c 2 p ≤ 1) (ho : ∀ t, 1 ≤ t → t ≤ c 0 0 → c 1 t = p → o t = g 0 t) (t1 : 1 ≤ t) (t2 : t ≤ c 0 0) (htp : c 1 t = p) : (if c 2 p = 1 then o t || (decide (c 1 t = p) && decide (c 2 t ≤ 1)) else if anyN (fun t => decide (c 1 t = p) && o t) (c 0 0) = true then o t else o t || decide (t = pk2 c (g 1) p (dqB c d g p))) = cmB c d g t := by
  rw [cm_S hT t1 t2, htp, hp, Bool.true_and, ho t t1 t2 htp]
  by_cases hk1 : c 2 p = 1
  · rw [if_pos hk1, decide_eq_true hk1, decide_eq_true rfl]
    simp only [Bool.true_and, Bool.true_or, Bool.and_true]
    cases hx : g 0 t with
    | false => rfl
    | true =>
      rw [decide_eq_true (hG t hx).2.2.1]
      rfl
  · have hk0 : c 2 p = 0 := by omega
    rw [if_neg hk1, decide_eq_false hk1, Bool.false_or]
    have hany : (anyN (fun t => decide (c 1 t = p) && o t) (c 0 0) = true) ↔ enc c (g 0) p ≠ 0 := by
      rw [anyN_iff]
      constructor
      · rintro ⟨j, j1, j2, j3⟩ z
        simp only [Bool.and_eq_true, decide_eq_true_eq] at j3
        have := fst_n _ _ (by omega) z j j1 (by omega)
        rw [ho j j1 j2 j3.1] at j3
        rw [j3.2, decide_eq_true j3.1] at this
        cases this
      · intro z
        have hz := fst_p _ _ (by omega) z
        have hz1 := hz.1
        simp only [Bool.and_eq_true, decide_eq_true_eq] at hz1
        refine ⟨_, hz.2.1, by have := hz.2.2; omega, ?_⟩
        rw [ho _ hz.2.1 (by have := hz.2.2; omega) hz1.1]
        exact hz.1
    by_cases he : enc c (g 0) p ≠ 0
    · rw [if_pos (hany.mpr he)]
      unfold pkf
      rw [if_pos he]
      have hz := fst_p _ _ (by omega) he
      have hz1 := hz.1
      simp only [Bool.and_eq_true, decide_eq_true_eq] at hz1
      cases hx : g 0 t with
      | true =>
        have u := hG t hx
        have : enc c (g 0) p = t := u.2.2.2.2.2 _ hz1.2 (by rw [htp]; exact hz1.1) (by rw [htp]; exact hk0)
        rw [this, decide_eq_true rfl, decide_eq_true u.2.2.1]
        rfl
      | false =>
        have : enc c (g 0) p ≠ t := by
          intro z
          have h3 : g 0 (enc c (g 0) p) = true := hz1.2
          rw [z, hx] at h3
          cases h3
        rw [decide_eq_false this]
        simp
    · have he0 : enc c (g 0) p = 0 := by omega
      rw [if_neg (fun z => he (hany.mp z))]
      have hx : g 0 t = false := by
        have := fst_n _ _ (by omega) he0 t t1 (by omega)
        rw [decide_eq_true htp, Bool.true_and] at this
        exact this
      have epk : pkf c g p (dqB c d g p) = pk2 c (g 1) p (dqB c d g p) := by
        unfold pkf pk2
        rw [if_neg (by omega), Bool.or_comm]
      rw [hx, epk, Bool.false_or]
      by_cases hq : t = pk2 c (g 1) p (dqB c d g p)
      · rw [decide_eq_true hq, decide_eq_true hq.symm]
        have : c 2 t ≤ 1 := by
          unfold pk2 at hq
          by_cases hc : (dqB c d g p || g 1 p) = true ∧ c 13 p ≠ 0
          · rw [if_pos hc] at hq
            rcases hH p hpl with v | v
            · omega
            · rw [hq]; exact v.2.2.2
          · rw [if_neg hc] at hq
            rw [hq]
            exact (df_p (by omega)).2.2.2
        rw [decide_eq_true this]
        rfl
      · rw [decide_eq_false hq, decide_eq_false (show ¬ pk2 c (g 1) p (dqB c d g p) = t from fun z => hq z.symm)]
        simp
/-- what is not gone through has no children that are aimed at -/
theorem no_cm {c : Nat → Nat → Nat} {d p t : Nat} {g : Nat → Nat → Bool} (hT : Tr (c 0 0) (c 1) (c 2) (c 3)) (hG : GoA c d g) (hp : cnD c d g p = false) (t1 : 1 ≤ t) (t2 : t ≤ c 0 0) (htp : c 1 t = p) : g 0 t = false ∧ cmB c d g t = false := by
  have h1 : cmB c d g t = false := by
    rw [cm_S hT t1 t2, htp, hp]
    rfl
  refine ⟨?_, h1⟩
  by_cases hx : g 0 t = true
  · rw [en_cm hT hG t hx] at h1
    cases h1
  · simpa using hx
theorem cn_de {c : Nat → Nat → Nat} {d p : Nat} {g : Nat → Nat → Bool} (hT : Tr (c 0 0) (c 1) (c 2) (c 3)) (hpl : p ≤ c 0 0) (hp : cnD c d g p = true) : c 3 d ≤ c 3 p := by
  unfold cnD at hp
  by_cases hq : p = d
  · rw [hq]; exact Nat.le_refl _
  · rw [if_neg hq] at hp
    have := ins_lt hT p hpl (cm_in hT p hpl hp).2.1
    omega
