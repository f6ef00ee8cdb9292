/-! the reference chooses -/
theorem m_chooseC {fu : Nat} {M : mwM} {L : mwL} {q v : Nat} {c : Nat → Nat → Nat} {b : Nat → Nat → Bool} {va : Nat → Int32} {D : Nat → Int64} {x : Nat → Int32} (hf : 402 ≤ fu) (hv : Cv c) (h : ReM q M L c b va D x) (hvv : v < 2000) : wq (DX13_choose fu q (sI v) M L) (fun z => z.1 = sI (tkL c b D v).length ∧ z.2.2 = L ∧ ReM q z.2.1 L c (seb c b D v (c 0 1)) va D (sex c b D x v (c 0 1)) ∧ LiZ z.2.1 (q + 24) (tkL c b D v) ∧ z.2.1 q 35 = sI (tkL c b D v).length ∧ ∀ a y, ¬ (q ≤ a ∧ a ≤ q + 29) → z.2.1 a y = M a y) := by
  have hT := hv.1
  have hE := hv.2.1
  have hN := hT.1
  have hE4 := hE.1
  have b0 : vp_nar .boolean (0 : Int32) = bI false := by decide
  have b1 : vp_nar .boolean (1 : Int32) = bI true := by decide
  obtain ⟨hM, hEM, hXM, hf4, h5, h6, h7, h8⟩ := h
  obtain ⟨rw0, hr0, hr1⟩ := hf4.2.2.2.2.2.2
  have hac : ∀ s, 1 ≤ s → s ≤ c 0 0 → M (q + 9) s = bI (b 0 s) := fun s u1 u2 => (h6 s u1 u2).1
  have hLD : L (q + 21) = D := hf4.2.2.2.2.2.1
  have hsl : (srL c b D v).length = (rlL c b D v (c 0 1)).length := sr_len hv (Nat.le_refl _)
  have hrl := rl_len (c := c) (b := b) (D := D) (v := v) (c 0 1)
  -- what holds behind the first way through
  have build : ∀ B : mwM, (∀ e, 1 ≤ e → e ≤ c 0 1 → B (q + 15) e = bI (seb c b D v (c 0 1) 4 e) ∧ B (q + 16) e = bI (seb c b D v (c 0 1) 5 e)) → B q 30 = zcN c b D v (x 1) (c 0 1) → (∃ r, r ≤ 500 ∧ B q 31 = sI r) → (∀ a y, ¬ (a = q + 15 ∨ a = q + 16 ∨ (q + 22 ≤ a ∧ a ≤ q + 26)) → ¬ (a = q ∧ (y = 30 ∨ y = 31 ∨ y = 33 ∨ y = 35)) → B a y = M a y) → ReM q B L c (seb c b D v (c 0 1)) va D (sex c b D x v (c 0 1)) := by
    intro B g1 g2 g4 g3
    have hb : ∀ r, r ≠ 4 → r ≠ 5 → seb c b D v (c 0 1) r = b r := by
      intro r u1 u2
      funext e
      unfold seb
      rw [if_neg u1, if_neg u2]
    unfold ReM
    rw [hb 0 (by omega) (by omega), hb 1 (by omega) (by omega), hb 2 (by omega) (by omega), hb 3 (by omega) (by omega), hb 6 (by omega) (by omega)]
    refine ⟨TrM_f hM (g3 _ _ (by omega) (by omega)) (fun a s u1 u2 => g3 _ _ (by omega) (by omega)), ?_, ?_, ?_, ?_, ?_, ?_, ?_⟩
    · refine ⟨?_, fun e u1 u2 => ?_⟩
      · simp (disch := omega) only [g3]; exact hEM.1
      · simp (disch := omega) only [g3]; exact hEM.2 e u1 u2
    · refine ⟨?_, fun e u1 => ?_⟩
      · simp (disch := omega) only [g3]; exact hXM.1
      · simp (disch := omega) only [g3]; exact hXM.2 e u1
    · simp (disch := omega) only [g3]
      exact ⟨hf4.1, hf4.2.1, hf4.2.2.1, g2, hf4.2.2.2.2.1, hf4.2.2.2.2.2.1, g4⟩
    · intro s hs
      simp (disch := omega) only [g3]; exact h5 s hs
    · intro s u1 hs
      simp (disch := omega) only [g3]; exact h6 s u1 hs
    · simp (disch := omega) only [g3]; exact h7
    · intro e u1 u2
      simp (disch := omega) only [g3]
      exact ⟨(h8 e u1 u2).1, g1 e u1 u2⟩
  -- going through the levels
  have levels : ∀ B : mwM, LiZ B (q + 23) (rlL c b D v (c 0 1)) → B q 33 = sI (rlL c b D v (c 0 1)).length → B q 35 = sI 0 → (∀ s, 1 ≤ s → s ≤ c 0 0 → B (q + 25) s = bI false) → (∀ e, 1 ≤ e → e ≤ c 0 1 → B (q + 15) e = bI (seb c b D v (c 0 1) 4 e) ∧ B (q + 16) e = bI (seb c b D v (c 0 1) 5 e)) → B q 30 = zcN c b D v (x 1) (c 0 1) → (∃ r, r ≤ 500 ∧ B q 31 = sI r) → (∀ a y, ¬ (a = q + 15 ∨ a = q + 16 ∨ (q + 22 ≤ a ∧ a ≤ q + 26)) → ¬ (a = q ∧ (y = 30 ∨ y = 31 ∨ y = 33 ∨ y = 35)) → B a y = M a y) → wq (fX13_choose_h128 fu q (sI v) fu (sI 41, B, L)) (fun z => z.1 = sI (tkL c b D v).length ∧ z.2.2 = L ∧ ReM q z.2.1 L c (seb c b D v (c 0 1)) va D (sex c b D x v (c 0 1)) ∧ LiZ z.2.1 (q + 24) (tkL c b D v) ∧ z.2.1 q 35 = sI (tkL c b D v).length ∧ ∀ a y, ¬ (q ≤ a ∧ a ≤ q + 29) → z.2.1 a y = M a y) := by
    intro B o1 o2 o3 o4 o5 o6 o7 o8
    -- what holds at a state of the going through: W are the edges gone through
    obtain ⟨St, hSt⟩ : ∃ St : List Nat → mwM → Prop, St = fun W a => (clL c b W).2.length ≤ W.length ∧ LiZ a (q + 24) (clL c b W).2 ∧ a q 35 = sI (clL c b W).2.length ∧ (∀ s, 1 ≤ s → s ≤ c 0 0 → a (q + 25) s = bI ((clL c b W).1 s)) ∧ ∀ d y, ¬ (q + 24 ≤ d ∧ d ≤ q + 26) → ¬ (d = q ∧ y = 35) → a d y = B d y := ⟨_, rfl⟩
    -- one edge more
    have one : ∀ (W : List Nat) (e j i : Nat) (a : mwM) (r128 : Int32 × mwM × mwL → Option (Int32 × mwM × mwL)) (r134 : Int32 × Int32 × mwM × mwL → Option (Int32 × mwM × mwL)) (Q : Int32 × mwM × mwL → Prop), St W a → W.length < (srL c b D v).length → i < 400 → 1 ≤ e → e ≤ c 0 1 → a (q + 23) i = sI e → (∀ a', St (W ++ [e]) a' → wq (r134 (sI j, sI (i + 1), a', L)) Q) → wq (mb3 (DX13_domain fu q (sI e) a L) (fun r37 M35 L36 => mb2 (DX13_findExits fu q r37 M35 L36) (fun M38 L39 => fX13_choose_h185 fu q (sI v) r128 r134 fu (sI j, sI i, 1, 1, M38, L39)))) Q := by
      intro W e j i a r128 r134 Q hW hWl hi e1 e2 e3 hQ
      rw [hSt] at hW hQ
      dsimp only at hQ
      obtain ⟨s0, s1, s2, s3, s4⟩ := hW
      have aM : TrM a q (c 0 0) (c 1) (c 2) (c 3) := TrM_f hM (by rw [s4 _ _ (by omega) (by omega), o8 _ _ (by omega) (by omega)]) (fun d s u1 u2 => by rw [s4 _ _ (by omega) (by omega), o8 _ _ (by omega) (by omega)])
      have aE : EdM a q (c 0 1) (c 4) (c 5) (c 6) (c 7) := ⟨by rw [s4 _ _ (by omega) (by omega), o8 _ _ (by omega) (by omega)]; exact hEM.1, fun j u1 u2 => by simp (disch := omega) only [s4, o8]; exact hEM.2 j u1 u2⟩
      have aac : ∀ s, 1 ≤ s → s ≤ c 0 0 → a (q + 9) s = bI (b 0 s) := fun s u1 u2 => by rw [s4 _ _ (by omega) (by omega), o8 _ _ (by omega) (by omega)]; exact hac s u1 u2
      have hdl := doE_le (c := c) (e := e)
      rw [m_domain (by omega) hT aM hE aE e1 e2, mb3_s]
      refine wq_b2 (m_findExits (d := doE c e) (by omega) hT aM aac hdl) ?_
      rintro M1 L1 ⟨y1, y2, y3⟩
      dsimp only at y1 y2 y3
      subst y1
      have m2 : M1 q 2 = sI (c 0 0) := (y3 _ _ (by omega)).trans aM.1
      have hst : clL c b (W ++ [e]) = clS c b (clL c b W) e := by
        unfold clL
        rw [List.foldl_append]
        rfl
      rw [hst] at hQ
      generalize hG : clL c b W = G at *
      -- apart, or not
      refine wq_for (body := fun r z => fX13_choose_i185 fu q (sI v) r128 r134 r z.1 z.2.1 z.2.2.1 z.2.2.2.1 z.2.2.2.2.1 z.2.2.2.2.2) (fun n (_ : Unit) => (sI j, sI i, bI (allN (fun s => !(exB (c 1) (c 3) (b 0) (doE c e) s && G.1 s)) (n - 1)), sI n, M1, L1)) (fun n _ => 1 ≤ n) (c 0 0 + 1) ?_ ?_ (c 0 0) 1 () fu (by omega) (by omega) (Nat.le_refl _)
      · intro n _ r hn hn1 ih
        obtain ⟨n, rfl⟩ : ∃ m, n = m + 1 := ⟨n - 1, by omega⟩
        have ih2 := ih () (by omega)
        show wq (fX13_choose_i185 fu q (sI v) r128 r134 r (sI j) (sI i) (bI (allN (fun s => !(exB (c 1) (c 3) (b 0) (doE c e) s && G.1 s)) n)) (sI (n + 1)) M1 L1) _
        simp only [show n + 1 + 1 - 1 = n + 1 from rfl, allN] at ih2
        have f1 := y2 (n + 1) (by omega) (by omega)
        have f2 : M1 (q + 25) (n + 1) = bI (G.1 (n + 1)) := (y3 _ _ (by omega)).trans (s3 _ (by omega) (by omega))
        unfold exB at ih2 ⊢
        unfold fX13_choose_i185 fX13_choose_b223 fX13_choose_b219 fX13_choose_b224
        simp (disch := omega) only [m2, f1, f2, mck_s, sI_nn, nn_s, sI_lt, sI_le, sI_eq, sI_ltl, sI_lel, sI_eql, sI_llt, sI_lle, sI_1, bI_0, bI_1, bI_n, mlet, mb3_s, mb2_s]
        rw [if_neg (by omega)]
        generalize allN (fun s => !(b 0 s && insB (c 1) (c 3) (doE c e) s && G.1 s)) n = x1 at *
        generalize (b 0 (n + 1) && insB (c 1) (c 3) (doE c e) (n + 1)) = x2 at *
        generalize G.1 (n + 1) = x3 at *
        cases x1 <;> cases x2 <;> cases x3 <;> simpa [bI] using ih2
      · intro _ r _
        show wq (fX13_choose_i185 fu q (sI v) r128 r134 r (sI j) (sI i) (bI (apB (c 1) (c 3) (b 0) (c 0 0) (doE c e) G.1)) (sI (c 0 0 + 1)) M1 L1) _
        unfold fX13_choose_i185
        rw [m2, if_pos (by rw [sI_lt (by omega) (by omega)]; omega)]
        cases hap : apB (c 1) (c 3) (b 0) (c 0 0) (doE c e) G.1 with
        | false =>
          have hs2 : clS c b G e = G := by
            unfold clS
            rw [hap, if_neg (by decide)]
          rw [hs2] at hQ
          obtain ⟨g, hg⟩ : ∃ g, fu = g + 1 := ⟨fu - 1, by omega⟩
          have fin : wq (fX13_choose_b287 fu q (sI v) r128 r134 (sI j) (sI i) (bI false) M1 L1) Q := by
            unfold fX13_choose_b287 fX13_choose_b317
            rw [if_pos bI_f]
            simp only [mlet]
            rw [sI_1]
            refine hQ M1 ⟨by rw [List.length_append]; omega, fun i w hw => ?_, ?_, fun s u1 u2 => ?_, fun d y u1 u2 => ?_⟩
            · rw [y3 _ _ (by omega)]; exact s1 i w hw
            · rw [y3 _ _ (by omega)]; exact s2
            · rw [y3 _ _ (by omega)]; exact s3 s u1 u2
            · rw [y3 _ _ (by omega)]; exact s4 d y u1 u2
          have : wq (fX13_choose_h235 fu q (sI v) r128 r134 (g + 1) (sI j, sI i, bI false, 1, M1, L1)) Q := by
            unfold fX13_choose_h235
            rw [mloop_S]
            show wq (fX13_choose_i235 fu q (sI v) r128 r134 _ (sI j) (sI i) (bI false) 1 M1 L1) _
            unfold fX13_choose_i235
            exact wq_if (fun _ => fin) (fun _ => by rw [if_pos bI_f]; exact fin)
          rw [← hg] at this
          exact this
        | true =>
          have hs2 : clS c b G e = (fun s => G.1 s || exB (c 1) (c 3) (b 0) (doE c e) s, G.2 ++ [e]) := by
            unfold clS
            rw [hap, if_pos rfl]
          rw [hs2] at hQ
          dsimp only at hQ
          rw [List.length_append (as := G.2), List.length_singleton] at hQ
          refine wq_for (body := fun r z => fX13_choose_i235 fu q (sI v) r128 r134 r z.1 z.2.1 z.2.2.1 z.2.2.2.1 z.2.2.2.2.1 z.2.2.2.2.2) (fun n (o : mwM) => (sI j, sI i, bI true, sI n, o, L1)) (fun n o => 1 ≤ n ∧ (∀ s, 1 ≤ s → s ≤ c 0 0 → o (q + 25) s = bI (G.1 s || (decide (s < n) && exB (c 1) (c 3) (b 0) (doE c e) s))) ∧ ∀ d y, d ≠ q + 25 → o d y = M1 d y) (c 0 0 + 1) ?_ ?_ (c 0 0) 1 M1 fu (by omega) (by omega) ⟨Nat.le_refl _, ?_, fun _ _ _ => rfl⟩
          · intro n o r hn ⟨hn1, t1, t2⟩ ih
            show wq (fX13_choose_i235 fu q (sI v) r128 r134 r (sI j) (sI i) (bI true) (sI n) o L1) _
            have f0 : o q 2 = sI (c 0 0) := (t2 _ _ (by omega)).trans m2
            have f1 : o (q + 26) n = bI (exB (c 1) (c 3) (b 0) (doE c e) n) := (t2 _ _ (by omega)).trans (y2 n (by omega) (by omega))
            have f2 := t1 n hn1 (by omega)
            rw [decide_eq_false (by omega), Bool.false_and, Bool.or_false] at f2
            have go : ∀ u : Int32, u = bI (G.1 n || exB (c 1) (c 3) (b 0) (doE c e) n) → wq (r (sI j, sI i, bI true, sI (n + 1), mset o (q + 25) n u, L1)) Q := by
              intro u hu
              refine ih _ ⟨by omega, fun s u1 u2 => ?_, fun d y u => by rw [mset_k u]; exact t2 d y u⟩
              by_cases hs : s = n
              · subst hs
                rw [mset_s, decide_eq_true (by omega), Bool.true_and]
                exact hu
              · rw [mset_j hs, t1 s u1 u2]
                by_cases hlt : s < n
                · rw [decide_eq_true hlt, decide_eq_true (by omega)]
                · rw [decide_eq_false hlt, decide_eq_false (by omega)]
            unfold fX13_choose_i235 fX13_choose_b275 fX13_choose_b280
            simp (disch := omega) only [f0, f1, f2, b0, b1, mck_s, sI_nn, nn_s, sI_lt, sI_le, sI_eq, sI_ltl, sI_lel, sI_eql, sI_llt, sI_lle, sI_1, bI_0, bI_1, bI_n, mlet, mb3_s, mb2_s]
            rw [if_neg (by omega), if_neg (by decide)]
            cases h1 : G.1 n with
            | true =>
              rw [if_neg (by decide)]
              exact go _ (by rw [h1]; rfl)
            | false =>
              rw [if_pos rfl]
              cases h2 : exB (c 1) (c 3) (b 0) (doE c e) n with
              | true =>
                rw [if_neg (by decide)]
                exact go _ (by rw [h1, h2]; rfl)
              | false =>
                rw [if_pos rfl]
                exact go _ (by rw [h1, h2]; rfl)
          · intro o r ⟨_, t1, t2⟩
            show wq (fX13_choose_i235 fu q (sI v) r128 r134 r (sI j) (sI i) (bI true) (sI (c 0 0 + 1)) o L1) _
            have f0 : o q 2 = sI (c 0 0) := (t2 _ _ (by omega)).trans m2
            have f35 : o q 35 = sI G.2.length := by rw [t2 _ _ (by omega), y3 _ _ (by omega)]; exact s2
            have f23 : o (q + 23) i = sI e := by rw [t2 _ _ (by omega), y3 _ _ (by omega)]; exact e3
            unfold fX13_choose_i235
            rw [f0, if_pos (by rw [sI_lt (by omega) (by omega)]; omega)]
            unfold fX13_choose_b287 fX13_choose_b317
            simp (disch := omega) only [f35, f23, mset_n, mck_s, sI_nn, nn_s, sI_lt, sI_le, sI_eq, sI_ltl, sI_lel, sI_eql, sI_llt, sI_lle, sI_1, bI_0, bI_1, bI_n, mlet, mb3_s, mb2_s]
            rw [if_neg (by decide)]
            refine hQ _ ⟨by rw [List.length_append, List.length_singleton]; omega, fun n w hw => ?_, by rw [mset_s], fun s u1 u2 => ?_, fun d y u1 u2 => ?_⟩
            · rw [mset_n (by omega)]
              rcases Nat.lt_trichotomy n G.2.length with g | g | g
              · rw [List.getElem?_append_left g] at hw
                rw [mset_j (by omega), t2 _ _ (by omega), y3 _ _ (by omega)]
                exact s1 n w hw
              · rw [List.getElem?_append_right (by omega), g, Nat.sub_self] at hw
                have : w = e := by simpa using hw.symm
                rw [g, mset_s, this]
              · rw [List.getElem?_eq_none (by rw [List.length_append, List.length_singleton]; omega)] at hw
                cases hw
            · rw [mset_n (by omega), mset_n (by omega), t1 s u1 u2, decide_eq_true (by omega)]
              simp
            · rw [mset_n (by omega), mset_n (by omega), t2 _ _ (by omega), y3 _ _ (by omega)]
              exact s4 d y u1 u2
          · intro s u1 u2
            rw [y3 _ _ (by omega), s3 s u1 u2, decide_eq_false (by omega)]
            simp
    -- the levels
    refine wq_for (body := fun r z => fX13_choose_i128 fu q (sI v) r z.1 z.2.1 z.2.2) (fun i (a : mwM) => (sI (41 - i), a, L)) (fun i a => i ≤ 41 ∧ ∃ W, srL c b D v = W ++ soL (kyE c) (rlL c b D v (c 0 1)) (41 - i) ∧ St W a) 41 ?_ ?_ 41 0 B fu (by omega) (by omega) ⟨by omega, [], rfl, ?_⟩
    · intro i a r128 hi ⟨_, W, hW1, hW2⟩ ih
      show wq (fX13_choose_i128 fu q (sI v) r128 (sI (41 - i)) a L) _
      obtain ⟨j, hj⟩ : ∃ j, 41 - i = j + 1 := ⟨40 - i, by omega⟩
      have hj2 : 41 - (i + 1) = j := by omega
      rw [hj] at hW1 ⊢
      rw [hj2] at ih
      unfold fX13_choose_i128
      rw [if_neg (by rw [sI_lel (by omega) (by decide)]; omega)]
      have hso : soL (kyE c) (rlL c b D v (c 0 1)) (j + 1) = slv (kyE c) (rlL c b D v (c 0 1)) (j + 1) ++ soL (kyE c) (rlL c b D v (c 0 1)) j := rfl
      have hWlen : W.length + (slv (kyE c) (rlL c b D v (c 0 1)) (j + 1)).length ≤ (srL c b D v).length := by
        rw [hW1, hso, List.length_append, List.length_append]
        omega
      refine wq_for (body := fun r z => fX13_choose_i134 fu q (sI v) r128 r z.1 z.2.1 z.2.2.1 z.2.2.2) (fun n (o : mwM) => (sI (j + 1), sI n, o, L)) (fun n o => St (W ++ slv (kyE c) ((rlL c b D v (c 0 1)).take n) (j + 1)) o) (rlL c b D v (c 0 1)).length ?_ ?_ (rlL c b D v (c 0 1)).length 0 a fu (by omega) (by omega) ?_
      · intro n o r hn hS ih3
        show wq (fX13_choose_i134 fu q (sI v) r128 r (sI (j + 1)) (sI n) o L) _
        have hg := List.getElem?_eq_getElem hn
        generalize hew : (rlL c b D v (c 0 1))[n] = e at hg
        have hmem : e ∈ rlL c b D v (c 0 1) := by rw [← hew]; exact List.getElem_mem hn
        obtain ⟨e1, e2, e3⟩ := rl_mem _ hmem
        obtain ⟨j1, j2, _⟩ := hE.2 e e1 e2
        have hky := ky_le hv e1 e2
        have hS' := hS
        rw [hSt] at hS'
        obtain ⟨_, _, _, _, s4⟩ := hS'
        have f33 : o q 33 = sI (rlL c b D v (c 0 1)).length := by rw [s4 _ _ (by omega) (by omega)]; exact o2
        have f23 : o (q + 23) n = sI e := by rw [s4 _ _ (by omega) (by omega)]; exact o1 n e hg
        have f10 : o (q + 10) e = sI (c 4 e) := by rw [s4 _ _ (by omega) (by omega), o8 _ _ (by omega) (by omega)]; exact (hEM.2 e e1 e2).1
        have f3 : o (q + 3) (c 4 e) = sI (kyE c e) := by rw [s4 _ _ (by omega) (by omega), o8 _ _ (by omega) (by omega)]; exact (hM.2 _ j2).2.2
        have htake : (rlL c b D v (c 0 1)).take (n + 1) = (rlL c b D v (c 0 1)).take n ++ [e] := by
          rw [List.take_succ, hg]
          rfl
        have hsub : (slv (kyE c) ((rlL c b D v (c 0 1)).take (n + 1)) (j + 1)).length ≤ (slv (kyE c) (rlL c b D v (c 0 1)) (j + 1)).length := by
          unfold slv
          exact List.Sublist.length_le (List.Sublist.filter _ (List.take_sublist _ _))
        unfold fX13_choose_i134
        simp (disch := omega) only [f33, f23, f10, f3, mck_s, sI_nn, nn_s, sI_lt, sI_le, sI_eq, sI_ltl, sI_lel, sI_eql, sI_llt, sI_lle, sI_1, bI_0, bI_1, bI_n, mlet, mb3_s, mb2_s]
        rw [if_neg (by omega)]
        by_cases hk : kyE c e = j + 1
        · rw [if_pos hk]
          have hsl2 : slv (kyE c) ((rlL c b D v (c 0 1)).take (n + 1)) (j + 1) = slv (kyE c) ((rlL c b D v (c 0 1)).take n) (j + 1) ++ [e] := by
            rw [htake]
            unfold slv
            rw [List.filter_append, List.filter_cons_of_pos (by simp [hk]), List.filter_nil]
          rw [hsl2] at ih3 hsub
          rw [← List.append_assoc] at ih3
          rw [List.length_append, List.length_singleton] at hsub
          exact one _ e (j + 1) n o r128 r _ hS (by rw [List.length_append]; omega) (by omega) e1 e2 f23 ih3
        · rw [if_neg hk]
          have hsl2 : slv (kyE c) ((rlL c b D v (c 0 1)).take (n + 1)) (j + 1) = slv (kyE c) ((rlL c b D v (c 0 1)).take n) (j + 1) := by
            rw [htake]
            unfold slv
            rw [List.filter_append, List.filter_cons_of_neg (by simp [hk]), List.filter_nil, List.append_nil]
          rw [hsl2] at ih3
          unfold fX13_choose_b317
          simp only [mlet]
          rw [sI_1]
          exact ih3 o hS
      · intro o r hS
        show wq (fX13_choose_i134 fu q (sI v) r128 r (sI (j + 1)) (sI (rlL c b D v (c 0 1)).length) o L) _
        rw [List.take_length] at hS
        have hS' := hS
        rw [hSt] at hS'
        obtain ⟨_, _, _, _, s4⟩ := hS'
        have f33 : o q 33 = sI (rlL c b D v (c 0 1)).length := by rw [s4 _ _ (by omega) (by omega)]; exact o2
        unfold fX13_choose_i134
        rw [f33, if_pos (by rw [sI_le (by omega) (by omega)]; exact Nat.le_refl _)]
        simp only [mlet]
        rw [sI_pm]
        refine ih o ⟨by omega, W ++ slv (kyE c) (rlL c b D v (c 0 1)) (j + 1), ?_, hS⟩
        rw [hW1, hso, List.append_assoc]
      · rw [show slv (kyE c) ((rlL c b D v (c 0 1)).take 0) (j + 1) = [] from rfl, List.append_nil]
        exact hW2
    · intro a r ⟨_, W, hW1, hW2⟩
      show wq (fX13_choose_i128 fu q (sI v) r (sI (41 - 41)) a L) _
      rw [show 41 - 41 = 0 from rfl] at hW1 ⊢
      rw [show soL (kyE c) (rlL c b D v (c 0 1)) 0 = [] from rfl, List.append_nil] at hW1
      rw [hSt, ← hW1] at hW2
      obtain ⟨s0, s1, s2, s3, s4⟩ := hW2
      unfold fX13_choose_i128
      rw [if_pos (by decide)]
      refine wq_some ⟨s2, rfl, ?_, s1, s2, fun d y u => ?_⟩
      all_goals (try dsimp only)
      · refine build a (fun e u1 u2 => ?_) ?_ ?_ (fun d y u1 u2 => ?_)
        · rw [s4 _ _ (by omega) (by omega), s4 _ _ (by omega) (by omega)]; exact o5 e u1 u2
        · rw [s4 _ _ (by omega) (by omega)]; exact o6
        · rw [s4 _ _ (by omega) (by omega)]; exact o7
        · rw [s4 _ _ (by omega) (by omega)]; exact o8 d y u1 u2
      · rw [s4 _ _ (by omega) (by omega)]; exact o8 d y (by omega) (by omega)
    · rw [hSt]
      exact ⟨Nat.le_refl _, fun j w hw => absurd hw (by simp [clL]), o3, o4, fun _ _ _ _ => rfl⟩
  -- the first way
  unfold DX13_choose
  simp only [mlet]
  refine wq_for (body := fun r z => fX13_choose_i7 fu q (sI v) r z.1 z.2.1 z.2.2) (fun i (a : mwM) => (sI i, a, L)) (fun i a => 1 ≤ i ∧ LiZ a (q + 23) (rlL c b D v (i - 1)) ∧ a q 33 = sI (rlL c b D v (i - 1)).length ∧ (∀ e, 1 ≤ e → e ≤ c 0 1 → a (q + 15) e = bI (seb c b D v (i - 1) 4 e) ∧ a (q + 16) e = bI (seb c b D v (i - 1) 5 e)) ∧ a q 30 = zcN c b D v (x 1) (i - 1) ∧ (∃ r, r ≤ 500 ∧ a q 31 = sI r) ∧ ∀ d y, ¬ (d = q + 15 ∨ d = q + 16 ∨ d = q + 22 ∨ d = q + 23) → ¬ (d = q ∧ (y = 30 ∨ y = 31 ∨ y = 33)) → a d y = M d y) (c 0 1 + 1) ?_ ?_ (c 0 1) 1 (mset M q 33 0) fu (by omega) (by omega) ⟨Nat.le_refl _, ?_, ?_, ?_, ?_, ?_, ?_⟩
  · intro i a r hi ⟨h1i, q0, q1, q2, q3, ⟨rw1, q5, q6⟩, q4⟩ ih
    obtain ⟨n, rfl⟩ : ∃ n, i = n + 1 := ⟨i - 1, by omega⟩
    rw [Nat.add_sub_cancel] at q0 q1 q2 q3
    have ih2 := ih
    simp only [show n + 1 + 1 - 1 = n + 1 from rfl] at ih2
    show wq (fX13_choose_i7 fu q (sI v) r (sI (n + 1)) a L) _
    have aM : TrM a q (c 0 0) (c 1) (c 2) (c 3) := TrM_f hM (q4 _ _ (by omega) (by omega)) (fun d s u1 u2 => q4 _ _ (by omega) (by omega))
    have aE : EdM a q (c 0 1) (c 4) (c 5) (c 6) (c 7) := ⟨(q4 _ _ (by omega) (by omega)).trans hEM.1, fun j u1 u2 => by simp (disch := omega) only [q4]; exact hEM.2 j u1 u2⟩
    have aac : ∀ s, 1 ≤ s → s ≤ c 0 0 → a (q + 9) s = bI (b 0 s) := fun s u1 u2 => (q4 _ _ (by omega) (by omega)).trans (hac s u1 u2)
    obtain ⟨j1, j2, j3, j4, j5, j6, j7, j8, j9⟩ := hE.2 (n + 1) (by omega) (by omega)
    obtain ⟨a1, a2, a3, a4⟩ := aE.2 (n + 1) (by omega) (by omega)
    have k1 := (aM.2 _ j2).2.1
    have k2 := (aM.2 _ j4).2.1
    have kk1 := (Tr_pa hT j2).2.2.2.1
    have kk2 := (Tr_pa hT j4).2.2.2.1
    have hrl := rl_len (c := c) (b := b) (D := D) (v := v) n
    have em := m_waitsFor (fu := fu) (L := L) (by omega) hT aM hE aE aac (show 1 ≤ n + 1 by omega) (show n + 1 ≤ c 0 1 by omega)
    have erl : rlL c b D v (n + 1) = rlL c b D v n ++ (if rdB c b D v (n + 1) = true then [n + 1] else []) := rfl
    have ezc : zcN c b D v (x 1) (n + 1) = if (cnB c b v (n + 1) && hzB D (c 7 (n + 1))) = true then zcN c b D v (x 1) n + 1 else zcN c b D v (x 1) n := rfl
    have oth : ∀ e, e ≠ n + 1 → seb c b D v (n + 1) 4 e = seb c b D v n 4 e ∧ seb c b D v (n + 1) 5 e = seb c b D v n 5 e := by
      intro e he
      have : decide (e ≤ n + 1) = decide (e ≤ n) := by
        by_cases hq : e ≤ n
        · rw [decide_eq_true hq, decide_eq_true (by omega)]
        · rw [decide_eq_false hq, decide_eq_false (by omega)]
      unfold seb
      simp only [this]
      exact ⟨trivial, trivial⟩
    have own0 : seb c b D v n 4 (n + 1) = b 4 (n + 1) ∧ seb c b D v n 5 (n + 1) = b 5 (n + 1) := by
      unfold seb
      rw [decide_eq_false (show ¬ n + 1 ≤ n by omega)]
      simp
    have own1 : seb c b D v (n + 1) 4 (n + 1) = (b 4 (n + 1) || (cnB c b v (n + 1) && (decide (c 7 (n + 1) ≠ 0) && hdB D (c 7 (n + 1))))) ∧ seb c b D v (n + 1) 5 (n + 1) = (b 5 (n + 1) || (cnB c b v (n + 1) && (decide (c 7 (n + 1) ≠ 0) && !hdB D (c 7 (n + 1))))) := by
      unfold seb
      rw [decide_eq_true (Nat.le_refl (n + 1))]
      simp
    have skip : cnB c b v (n + 1) = false → wq (r (sI (n + 1 + 1), a, L)) (fun z => z.1 = sI (tkL c b D v).length ∧ z.2.2 = L ∧ ReM q z.2.1 L c (seb c b D v (c 0 1)) va D (sex c b D x v (c 0 1)) ∧ LiZ z.2.1 (q + 24) (tkL c b D v) ∧ z.2.1 q 35 = sI (tkL c b D v).length ∧ ∀ a y, ¬ (q ≤ a ∧ a ≤ q + 29) → z.2.1 a y = M a y) := by
      intro hcn
      have hr0 : rdB c b D v (n + 1) = false := by unfold rdB; rw [hcn]; rfl
      have er : rlL c b D v (n + 1) = rlL c b D v n := by rw [erl, hr0, if_neg (by decide), List.append_nil]
      rw [er] at ih2
      refine ih2 a ⟨by omega, q0, q1, fun e u1 u2 => ?_, ?_, ⟨rw1, q5, q6⟩, q4⟩
      · by_cases he : e = n + 1
        · subst he
          have := q2 (n + 1) u1 u2
          rw [own0.1, own0.2] at this
          rw [own1.1, own1.2, hcn]
          simpa using this
        · rw [(oth e he).1, (oth e he).2]
          exact q2 e u1 u2
      · rw [ezc, hcn]
        exact q3
    unfold fX13_choose_i7 fX13_choose_b91
    simp (disch := omega) only [aE.1, a1, a2, a3, k1, k2, em, mck_s, sI_nn, nn_s, sI_lt, sI_le, sI_eq, sI_ltl, sI_lel, sI_eql, sI_llt, sI_lle, sI_1, bI_0, bI_1, bI_n, mlet, mb3_s, mb2_s]
    rw [if_neg (by omega)]
    by_cases hev : c 6 (n + 1) = v
    · rw [if_pos hev]
      by_cases h4 : c 2 (c 4 (n + 1)) = 4
      · rw [if_pos h4]
        exact skip (by unfold cnB goB; simp [h4])
      rw [if_neg h4]
      by_cases h5 : c 2 (c 5 (n + 1)) = 5
      · rw [if_pos h5]
        exact skip (by unfold cnB goB; simp [h5])
      rw [if_neg h5]
      cases hwt : wtB (c 2) (c 4) (c 5) (c 0 1) (b 0) (n + 1) with
      | false =>
        rw [if_pos rfl]
        exact skip (by unfold cnB goB; rw [hwt]; simp)
      | true =>
        rw [if_neg (by decide)]
        have hcn : cnB c b v (n + 1) = true := by unfold cnB goB; rw [hwt, decide_eq_true hev, decide_eq_true h4, decide_eq_true h5]; rfl
        have a26 := q2 (n + 1) (by omega) (by omega)
        rw [own0.1, own0.2] at a26
        refine wq_b3 (m_holds13 (g := c 7 (n + 1)) (rw' := rw1) (by omega) j8 j9 a4 a26.1 a26.2 q6 q5) ?_
        rintro r1 M1 L1 ⟨y1, y2, y3, y4, y5, y6, y7⟩
        dsimp only at y1 y2 y3 y4 y5 y6 y7
        subst y1 y2
        rw [hLD] at y3 y4 y5 ⊢
        rw [hcn, Bool.true_and, Bool.true_and] at own1
        rw [hcn, Bool.true_and] at ezc
        have m26 : ∀ e, 1 ≤ e → e ≤ c 0 1 → M1 (q + 15) e = bI (seb c b D v (n + 1) 4 e) ∧ M1 (q + 16) e = bI (seb c b D v (n + 1) 5 e) := by
          intro e u1 u2
          by_cases he : e = n + 1
          · subst he
            rw [own1.1, own1.2]
            exact ⟨y3, y4⟩
          · rw [(oth e he).1, (oth e he).2, y7 _ _ (by omega) (by omega) (by omega), y7 _ _ (by omega) (by omega) (by omega)]
            exact q2 e u1 u2
        have m15 : M1 q 30 = zcN c b D v (x 1) (n + 1) := by
          rw [y5, ezc, q3]
        have mfr : ∀ d y, ¬ (d = q + 15 ∨ d = q + 16 ∨ d = q + 22 ∨ d = q + 23) → ¬ (d = q ∧ (y = 30 ∨ y = 31 ∨ y = 33)) → M1 d y = M d y := by
          intro d y u1 u2
          rw [y7 _ _ (by omega) (by omega) (by omega)]
          exact q4 d y u1 u2
        have m33 : M1 q 33 = sI (rlL c b D v n).length := by rw [y7 _ _ (by omega) (by omega) (by omega)]; exact q1
        have m23 : LiZ M1 (q + 23) (rlL c b D v n) := fun j w hw => by rw [y7 _ _ (by omega) (by omega) (by omega)]; exact q0 j w hw
        cases hhd : hdB D (c 7 (n + 1)) with
        | false =>
          rw [if_pos bI_f]
          have hr0 : rdB c b D v (n + 1) = false := by unfold rdB; rw [hhd]; simp
          have er : rlL c b D v (n + 1) = rlL c b D v n := by rw [erl, hr0, if_neg (by decide), List.append_nil]
          rw [er] at ih2
          exact ih2 M1 ⟨by omega, m23, m33, m26, m15, y6, mfr⟩
        | true =>
          rw [if_neg (by decide)]
          have hr1 : rdB c b D v (n + 1) = true := by unfold rdB; rw [hcn, hhd]; rfl
          have er : rlL c b D v (n + 1) = rlL c b D v n ++ [n + 1] := by rw [erl, hr1, if_pos rfl]
          rw [er] at ih2
          rw [List.length_append, List.length_singleton] at ih2
          simp (disch := omega) only [m33, mset_n, mck_s, sI_nn, nn_s, sI_lt, sI_le, sI_eq, sI_ltl, sI_lel, sI_eql, sI_llt, sI_lle, sI_1, bI_0, bI_1, bI_n, mlet, mb3_s, mb2_s]
          obtain ⟨rw2, y61, y62⟩ := y6
          refine ih2 _ ⟨by omega, fun j w hw => ?_, by rw [mset_s], fun e u1 u2 => ?_, ?_, ⟨rw2, y61, ?_⟩, fun d y u1 u2 => ?_⟩
          · rw [mset_n (by omega)]
            rcases Nat.lt_trichotomy j (rlL c b D v n).length with g | g | g
            · rw [List.getElem?_append_left g] at hw
              rw [mset_j (by omega)]
              exact m23 j w hw
            · rw [List.getElem?_append_right (by omega), g, Nat.sub_self] at hw
              have : w = n + 1 := by simpa using hw.symm
              rw [g, mset_s, this]
            · rw [List.getElem?_eq_none (by rw [List.length_append, List.length_singleton]; omega)] at hw
              cases hw
          · simp (disch := omega) only [mset_n]; exact m26 e u1 u2
          · simp (disch := omega) only [mset_n]; exact m15
          · simp (disch := omega) only [mset_n]; exact y62
          · simp (disch := omega) only [mset_n]; exact mfr d y u1 u2
    · rw [if_neg hev]
      exact skip (by unfold cnB; rw [decide_eq_false hev]; rfl)
  · intro a r ⟨_, q0, q1, q2, q3, q5, q4⟩
    rw [Nat.add_sub_cancel] at q0 q1 q2 q3
    show wq (fX13_choose_i7 fu q (sI v) r (sI (c 0 1 + 1)) a L) _
    have e8 : a q 12 = sI (c 0 1) := (q4 _ _ (by omega) (by omega)).trans hEM.1
    unfold fX13_choose_i7
    rw [e8, if_pos (by rw [sI_lt (by omega) (by omega)]; omega)]
    simp only [mlet]
    refine wq_for (body := fun r z => fX13_choose_i104 fu q (sI v) r z.1 z.2.1 z.2.2) (fun i (o : mwM) => (sI i, o, L)) (fun i o => (∀ s, s < i → o (q + 25) s = bI false) ∧ ∀ d y, d ≠ q + 25 → o d y = mset a q 35 0 d y) (c 0 0 + 1) ?_ ?_ (c 0 0 + 1) 0 (mset a q 35 0) fu (by omega) (by omega) ⟨fun s u2 => by omega, fun _ _ _ => rfl⟩
    · intro i o r hi ⟨s1, s2⟩ ih
      show wq (fX13_choose_i104 fu q (sI v) r (sI i) o L) _
      have o7 : o q 2 = sI (c 0 0) := by rw [s2 _ _ (by omega), mset_n (by omega), q4 _ _ (by omega) (by omega)]; exact hM.1
      unfold fX13_choose_i104
      simp (disch := omega) only [o7, b0, mck_s, sI_nn, nn_s, sI_lt, sI_le, sI_eq, sI_ltl, sI_lel, sI_eql, sI_llt, sI_lle, sI_1, bI_0, bI_1, bI_n, mlet, mb3_s, mb2_s]
      rw [if_neg (by omega)]
      refine ih _ ⟨fun s u2 => ?_, fun d y u => by rw [mset_k u]; exact s2 d y u⟩
      by_cases hs : s = i
      · rw [hs, mset_s]
      · rw [mset_j hs]; exact s1 s (by omega)
    · intro o r ⟨s1, s2⟩
      show wq (fX13_choose_i104 fu q (sI v) r (sI (c 0 0 + 1)) o L) _
      have o7 : o q 2 = sI (c 0 0) := by rw [s2 _ _ (by omega), mset_n (by omega), q4 _ _ (by omega) (by omega)]; exact hM.1
      unfold fX13_choose_i104
      rw [o7, if_pos (by rw [sI_lt (by omega) (by omega)]; omega)]
      refine levels o (fun j w hw => ?_) ?_ ?_ (fun s u1 u2 => s1 s (by omega)) (fun e u1 u2 => ?_) ?_ ?_ (fun d y u1 u2 => ?_)
      · rw [s2 _ _ (by omega), mset_n (by omega)]; exact q0 j w hw
      · rw [s2 _ _ (by omega), mset_n (by omega)]; exact q1
      · rw [s2 _ _ (by omega), mset_s]; rfl
      · rw [s2 _ _ (by omega), mset_n (by omega), s2 _ _ (by omega), mset_n (by omega)]; exact q2 e u1 u2
      · rw [s2 _ _ (by omega), mset_n (by omega)]; exact q3
      · rw [s2 _ _ (by omega), mset_n (by omega)]; exact q5
      · rw [s2 _ _ (by omega), mset_n (by omega)]; exact q4 d y (by omega) (by omega)
  · intro j w hw
    cases hw
  · rw [mset_s]; rfl
  · intro e u1 u2
    have := h8 e u1 u2
    unfold seb
    rw [decide_eq_false (show ¬ e ≤ 1 - 1 by omega), mset_n (by omega), mset_n (by omega)]
    simpa using this.2
  · rw [mset_n (by omega)]; exact hf4.2.2.2.1
  · exact ⟨rw0, hr0, by rw [mset_n (by omega)]; exact hr1⟩
  · intro d y u1 u2
    exact mset_n (by omega)
