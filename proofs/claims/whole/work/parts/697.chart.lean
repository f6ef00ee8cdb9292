/-! an event happens: the reference -/
theorem RmW_n {q : Nat} {M M' : mwM} {L : mwL} {va : Nat → Int32} {w : ZT} (h : RmW q M L va w) (h31 : ∃ r, r ≤ 500 ∧ M' q 31 = sI r) (hM : ∀ a y, q ≤ a → a ≤ q + 21 → ¬ (a = q ∧ (y = 0 ∨ y = 31 ∨ y = 33 ∨ y = 35)) → M' a y = M a y) : RmW q M' L va w := by
  obtain ⟨j1, j2, j3, j4, j5, j6, j7, j8⟩ := h
  refine ⟨TrM_f j1 (hM _ _ (by omega) (by omega) (by omega)) (fun a s u1 u2 => hM _ _ (by omega) (by omega) (by omega)), ?_, ?_, ?_, ?_, ?_, ?_, ?_⟩
  · refine ⟨?_, fun e u1 u2 => ?_⟩
    · simp (disch := omega) only [hM]; exact j2.1
    · simp (disch := omega) only [hM]; exact j2.2 e u1 u2
  · refine ⟨?_, fun i hi => ?_⟩
    · simp (disch := omega) only [hM]; exact j3.1
    · simp (disch := omega) only [hM]; exact j3.2 i hi
  · simp (disch := omega) only [hM]
    exact ⟨j4.1, j4.2.1, j4.2.2.1, j4.2.2.2.1, j4.2.2.2.2.1, j4.2.2.2.2.2.1, h31⟩
  · intro s hs
    simp (disch := omega) only [hM]; exact j5 s hs
  · intro s u1 hs
    simp (disch := omega) only [hM]; exact j6 s u1 hs
  · simp (disch := omega) only [hM]; exact j7
  · intro e u1 u2
    simp (disch := omega) only [hM]; exact j8 e u1 u2
theorem RmW_sp {q s : Nat} {M : mwM} {L : mwL} {va : Nat → Int32} {w : ZT} (h : RmW q M L va w) (hs : s ≤ w.1.1 0 0) : RmW q (mset M (q + 7) s (bI true)) L va (spZ s w) := by
  obtain ⟨j1, j2, j3, j4, j5, j6, j7, j8⟩ := h
  have e3 : ∀ r j, r ≠ 1 → (spZ s w).1.2.1 r j = w.1.2.1 r j := by
    intro r j hr
    show (if r = 1 ∧ j = s then true else w.1.2.1 r j) = w.1.2.1 r j
    rw [if_neg (fun z => hr z.1)]
  refine ⟨TrM_f j1 (mset_k (by omega)) (fun a s u1 u2 => mset_k (by omega)), ?_, ?_, ?_, ?_, ?_, ?_, ?_⟩
  · refine ⟨?_, fun e u1 u2 => ?_⟩
    · simp (disch := omega) only [mset_n]; exact j2.1
    · simp (disch := omega) only [mset_n]; exact j2.2 e u1 u2
  · refine ⟨?_, fun i hi => ?_⟩
    · simp (disch := omega) only [mset_n]; exact j3.1
    · simp (disch := omega) only [mset_n]; exact j3.2 i hi
  · rw [e3 6 0 (by omega)]
    simp (disch := omega) only [mset_n]; exact j4
  · intro t ht
    simp (disch := omega) only [mset_n]; exact j5 t ht
  · intro t u1 ht
    have := j6 t u1 ht
    rw [e3 0 t (by omega), e3 2 t (by omega)]
    refine ⟨?_, this.2.1, ?_, ?_⟩
    · simp (disch := omega) only [mset_n]; exact this.1
    · show _ = bI (if (1 : Nat) = 1 ∧ t = s then true else w.1.2.1 1 t)
      by_cases hq : t = s
      · rw [hq, mset_s, if_pos ⟨rfl, rfl⟩]
      · rw [mset_j hq, if_neg (fun z => hq z.2)]; exact this.2.2.1
    · simp (disch := omega) only [mset_n]; exact this.2.2.2
  · rw [e3 6 0 (by omega)]
    simp (disch := omega) only [mset_n]; exact j7
  · intro e u1 u2
    rw [e3 3 e (by omega), e3 4 e (by omega), e3 5 e (by omega)]
    simp (disch := omega) only [mset_n]; exact j8 e u1 u2
def frMc (q : Nat) (M M' : mwM) : Prop := ∀ a y, ¬ (q ≤ a ∧ a ≤ q + 29) → M' a y = M a y
def frLc (q : Nat) (L L' : mwL) : Prop := ∀ a, a ≠ q + 6 → a ≠ q + 21 → L' a = L a
def reE (ok : Bool) (r : Int32) : Prop := if ok = true then ∃ m, m ≤ 100000000 ∧ r = sI m else r = -1
theorem m_ev2 {fu : Nat} {M : mwM} {L : mwL} {q e t m0 : Nat} {va : Nat → Int32} {w : ZT} (hf : 1100 ≤ fu) (hw : InW w) (hS : S14 w.1.1) (h : RmW q M L va w) (ht : t ≤ 20000) (he : e < 1000) (hm0 : m0 ≤ 20000) : wq (fX13_event_b107 fu q (sI e) (sL t) (sI m0) M L) (fun z => reE (ev2 va e t w).1 z.1 ∧ RmW q z.2.1 z.2.2 va (ev2 va e t w).2 ∧ frMc q M z.2.1 ∧ frLc q L z.2.2) := by
  have hN := hw.1.1.1
  have b1 : vp_nar .boolean (1 : Int32) = bI true := by decide
  generalize hQ : (fun z : Int32 × mwM × mwL => reE (ev2 va e t w).1 z.1 ∧ RmW q z.2.1 z.2.2 va (ev2 va e t w).2 ∧ frMc q M z.2.1 ∧ frLc q L z.2.2) = Q
  have fin : ∀ (m : Nat) (a : mwM) (l : mwL) (r : Int32 × Int32 × Int32 × mwM × mwL → Option (Int32 × mwM × mwL)) (v6 : Int32), m ≤ 20420000 → (spL va t 1000 w).1 = true → RmW q a l va (spL va t 1000 w).2 → frMc q M a → frLc q L l → wq (fX13_event_i117 fu q (sI e) (sL t) r (sI m) 0 v6 a l) Q := by
    intro m a l r v6 hm hok hr p1 p2
    have hI := spL_In (va := va) ht 1000 w hw hS
    have e0 : ev2 va e t w = if e = 0 then spL va t 1000 w else chN va t (w.1.1 0 3) (fiZ va e t (spL va t 1000 w).2) := by
      unfold ev2
      rw [if_pos hok]
    have hlimu : (spL va t 1000 w).2.1.1 0 3 = w.1.1 0 3 := by rw [spL_r (by omega) (by omega)]
    generalize spL va t 1000 w = u at *
    unfold fX13_event_i117
    rw [if_pos (by decide)]
    by_cases he0 : e = 0
    · rw [if_pos (by rw [he0]; rfl)]
      rw [if_pos he0] at e0
      rw [← hQ, e0]
      refine wq_some ⟨?_, hr, p1, p2⟩
      unfold reE
      rw [if_pos hok]
      exact ⟨m, by omega, rfl⟩
    rw [if_neg (by rw [sI_eql (by omega) (by decide)]; exact he0)]
    rw [if_neg he0] at e0
    refine wq_b3 (m_selZ (v := e) (by omega) hI.1 hr (by omega)) ?_
    rintro r1 M1 L1 ⟨y1, y2, y3, y4, y6, y5⟩
    dsimp only at y1 y2 y3 y4 y5 y6
    subst y1 y2
    have hlz := tkZ_len (v := e) hI.1
    have e29 : M1 q 29 = (seZ e u.2).2 0 := y3.2.2.2.1.2.2.1
    have rest : ∀ d : Int32, d = (seZ e u.2).2 0 + (if decide ((tkZ e u.2).length = 0) = true then 1 else 0) → wq (fX13_event_b256 fu q (sI e) (sL t) (sI m) d M1 L1) Q := by
      intro d hd
      unfold fX13_event_b256 fX13_event_b290
      simp only [mlet]
      have hr3 : ReM q (mset M1 q 29 d) L1 (seZ e u.2).1.1 (seZ e u.2).1.2.1 va (seZ e u.2).1.2.2 (fiZ va e t u.2).2 := by
        obtain ⟨j1, j2, j3, j4, j5, j6, j7, j8⟩ := y3
        refine ⟨TrM_f j1 (mset_j (by omega)) (fun a s u1 u2 => mset_k (by omega)), ?_, ?_, ?_, ?_, ?_, ?_, ?_⟩
        · refine ⟨?_, fun e u1 u2 => ?_⟩
          · simp (disch := omega) only [mset_n]; exact j2.1
          · simp (disch := omega) only [mset_n]; exact j2.2 e u1 u2
        · refine ⟨?_, fun i hi => ?_⟩
          · simp (disch := omega) only [mset_n]; exact j3.1
          · simp (disch := omega) only [mset_n]; exact j3.2 i hi
        · refine ⟨?_, ?_, ?_, ?_, ?_, j4.2.2.2.2.2.1, ?_⟩
          · simp (disch := omega) only [mset_n]; exact j4.1
          · simp (disch := omega) only [mset_n]; exact j4.2.1
          · rw [mset_s, hd]
            rfl
          · simp (disch := omega) only [mset_n]
            rw [j4.2.2.2.1]
            rfl
          · simp (disch := omega) only [mset_n]; exact j4.2.2.2.2.1
          · simp (disch := omega) only [mset_n]; exact j4.2.2.2.2.2.2
        · intro t ht
          simp (disch := omega) only [mset_n]; exact j5 t ht
        · intro t u1 ht
          simp (disch := omega) only [mset_n]; exact j6 t u1 ht
        · simp (disch := omega) only [mset_n]; exact j7
        · intro e u1 u2
          simp (disch := omega) only [mset_n]; exact j8 e u1 u2
      refine wq_b3 (m_stepC (now := t) (by omega) (In_se (v := e) hI.1) hr3 (fun i v hv => by rw [mset_k (by omega)]; exact y4 i v hv) (by rw [mset_j (by omega)]; exact y6) hlz) ?_
      rintro r2 M2 L2 ⟨z1, _, z2, z3, z4⟩
      dsimp only at z1 z2 z3 z4
      subst z1
      have hr4 : RmW q M2 L2 va (fiZ va e t u.2) := z2
      have hlim : (fiZ va e t u.2).1.1 0 3 = w.1.1 0 3 := by
        have h1 : (gZ va t e u.2).1.1 0 = u.2.1.1 0 := g_r (by omega) (by omega)
        have h2 : (fiZ va e t u.2).1.1 0 3 = (gZ va t e u.2).1.1 0 3 := rfl
        rw [h2, h1]
        exact hlimu
      refine wq_b3 (m_chain (now := t) (w := fiZ va e t u.2) (by omega) (In_g hI.1) hr4) ?_
      rintro r3 M3 L3 ⟨v1, v2, v4, v5⟩
      dsimp only at v1 v2 v4 v5
      rw [hlim, ← e0] at v1 v2
      have fr3 : frMc q M M3 := fun b y u1 => by rw [v4 _ _ u1, z3 _ _ u1, mset_n (by omega), y5 _ _ u1]; exact p1 b y u1
      have fl3 : frLc q L L3 := fun b u1 u2 => by rw [v5 _ u1 u2, z4 _ u1 u2]; exact p2 b u1 u2
      rw [← hQ]
      cases hok2 : (ev2 va e t w).1 with
      | true =>
        rw [hok2, if_pos rfl] at v1
        obtain ⟨m2, w1, w2⟩ := v1
        rw [w2, sI_add, if_pos (by rw [show (0 : Int32) = sI 0 from rfl, sI_le (by omega) (by omega)]; omega), sI_add]
        refine wq_some ⟨?_, v2, fr3, fl3⟩
        unfold reE
        rw [if_pos rfl]
        exact ⟨_, by omega, rfl⟩
      | false =>
        rw [hok2, if_neg (by decide)] at v1
        rw [v1, if_neg (by decide)]
        refine wq_some ⟨?_, v2, fr3, fl3⟩
        unfold reE
        rw [if_neg (by decide)]
    by_cases hz : (tkZ e u.2).length = 0
    · rw [if_pos (by rw [hz]; rfl)]
      exact rest _ (by rw [e29, decide_eq_true hz]; rfl)
    · rw [if_neg (by rw [sI_eql (by omega) (by decide)]; exact hz)]
      exact rest _ (by rw [e29, decide_eq_false hz, if_neg (by decide)]; exact (Int32.add_zero _).symm)
  have bad : (spL va t 1000 w).1 = false → ev2 va e t w = spL va t 1000 w := by
    intro hok
    unfold ev2
    rw [hok, if_neg (by decide)]
  have key : ∀ (n i m f : Nat) (u : ZT) (a : mwM) (l : mwL), i + n = 1000 → m ≤ 20000 + 20400 * i → n < f → InW u → S14 u.1.1 → u.1.1 0 3 = w.1.1 0 3 → RmW q a l va u → spL va t n u = spL va t 1000 w → frMc q M a → frLc q L l → wq (fX13_event_h117 fu q (sI e) (sL t) f (sI m, sI (duZ t u), sI i, a, l)) Q := by
    intro n
    induction n with
    | zero =>
      intro i m f u a l hi hm hf1 hu hSu hlim hr hsp p1 p2
      obtain ⟨g, rfl⟩ : ∃ g, f = g + 1 := ⟨f - 1, by omega⟩
      have e0 : spL va t 0 u = (decide (duZ t u = 0), u) := rfl
      rw [e0] at hsp
      unfold fX13_event_h117
      rw [mloop_S]
      show wq (fX13_event_i117 fu q (sI e) (sL t) (fX13_event_h117 fu q (sI e) (sL t) g) (sI m) (sI (duZ t u)) (sI i) a l) Q
      by_cases hd : duZ t u = 0
      · rw [hd]
        exact fin m a l _ _ (by omega) (by rw [← hsp]; exact decide_eq_true hd) (by rw [← hsp]; exact hr) p1 p2
      · have hdl := (du_ok hd).1
        have hNu := hu.1.1.1
        unfold fX13_event_i117
        rw [if_neg (by rw [sI_lel (by omega) (by decide)]; omega), if_pos (by rw [show i = 1000 by omega]; rfl)]
        obtain ⟨rw1, k5, k6⟩ := hr.2.2.2.1.2.2.2.2.2.2
        refine wq_b2 (m_note (rw' := rw1) k6 k5) ?_
        rintro M2 L2 ⟨z1, z3, z2⟩
        dsimp only at z1 z2 z3
        subst z1
        have hb := bad (by rw [← hsp]; exact decide_eq_false hd)
        rw [← hQ, hb, ← hsp]
        refine wq_some ⟨?_, RmW_n hr z3 (fun b y u1 u2 u3 => z2 _ _ (by omega) (by omega)), fun b y u1 => (z2 _ _ (by omega) (by omega)).trans (p1 b y u1), p2⟩
        unfold reE
        rw [decide_eq_false hd]
        simp
    | succ n ih =>
      intro i m f u a l hi hm hf1 hu hSu hlim hr hsp p1 p2
      obtain ⟨g, rfl⟩ : ∃ g, f = g + 1 := ⟨f - 1, by omega⟩
      have e0 : spL va t (n + 1) u = if duZ t u = 0 then (true, u) else if (sp2 va t u).1 = true then spL va t n (sp2 va t u).2 else (false, (sp2 va t u).2) := rfl
      rw [e0] at hsp
      unfold fX13_event_h117
      rw [mloop_S]
      show wq (fX13_event_i117 fu q (sI e) (sL t) (fX13_event_h117 fu q (sI e) (sL t) g) (sI m) (sI (duZ t u)) (sI i) a l) Q
      by_cases hd : duZ t u = 0
      · rw [if_pos hd] at hsp
        rw [hd]
        exact fin m a l _ _ (by omega) (by rw [← hsp]) (by rw [← hsp]; exact hr) p1 p2
      rw [if_neg hd] at hsp
      have hdk := du_ok hd
      have hdl := hdk.1
      have hat := hdk.2
      have hNu := hu.1.1.1
      have hsp1 := sp1_In (va := va) hu hSu ht hd
      have hsp2 := sp2_In (va := va) hu hSu ht hd
      unfold fX13_event_i117
      rw [if_neg (by rw [sI_lel (by omega) (by decide)]; omega), if_neg (by rw [sI_eql (by omega) (by decide)]; omega)]
      have e6 := (hr.2.2.2.2.2.1 (duZ t u) (by omega) hdl).2.1
      have e5 := (hr.2.2.2.2.1 (duZ t u) hdl).1
      simp (disch := omega) only [b1, e6, e5, sL_add, sI_lad, mck_s, sI_nn, nn_s, sI_lt, sI_le, sI_eq, sI_ltl, sI_lel, sI_eql, sI_llt, sI_lle, sI_1, bI_0, bI_1, bI_n, mlet, mb3_s, mb2_s]
      refine wq_b3 (m_selZ (v := 1000 + duZ t u) (by omega) (sp_In hu) (RmW_sp hr hdl) (by omega)) ?_
      rintro r1 M1 L1 ⟨y1, y2, y3, y4, y6, y5⟩
      dsimp only at y1 y2 y3 y4 y5 y6
      subst y1 y2
      refine wq_b3 (m_stepZ (now := atZ t u) (by omega) (sp_In hu) y3 y4 y6) ?_
      rintro r2 M2 L2 ⟨z1, z2, z3, z4⟩
      dsimp only at z1 z2 z3 z4
      subst z1
      have hlz := tkZ_len (v := 1000 + duZ t u) (sp_In (s := duZ t u) hu)
      have hlim1 : (sp1 va t u).1.1 0 3 = u.1.1 0 3 := by
        have h1 : (sp1 va t u).1.1 0 = u.1.1 0 := g_r (w := spZ (duZ t u) u) (by omega) (by omega)
        rw [h1]
      refine wq_b3 (m_chain (now := atZ t u) (w := sp1 va t u) (by omega) hsp1.1 z2) ?_
      rintro r3 M3 L3 ⟨v1, v2, v4, v5⟩
      dsimp only at v1 v2 v4 v5
      rw [hlim1] at v1 v2
      have v1' : if (sp2 va t u).1 = true then ∃ m, m ≤ 20000 ∧ r3 = sI m else r3 = -1 := v1
      have v2' : RmW q M3 L3 va (sp2 va t u).2 := v2
      have fr3 : frMc q M M3 := fun b y u1 => by rw [v4 _ _ u1, z3 _ _ u1, y5 _ _ u1, mset_n (by omega)]; exact p1 b y u1
      have fl3 : frLc q L L3 := fun b u1 u2 => by rw [v5 _ u1 u2, z4 _ u1 u2]; exact p2 b u1 u2
      cases hok : (sp2 va t u).1 with
      | false =>
        rw [hok, if_neg (by decide)] at v1'
        rw [v1', if_neg (by decide)]
        rw [hok, if_neg (by decide)] at hsp
        have hb := bad (by rw [← hsp])
        rw [← hQ, hb, ← hsp]
        refine wq_some ⟨?_, v2', fr3, fl3⟩
        unfold reE
        simp
      | true =>
        rw [hok, if_pos rfl] at v1'
        obtain ⟨m2, w1, w2⟩ := v1'
        rw [w2, if_pos (by rw [show (0 : Int32) = sI 0 from rfl, sI_le (by omega) (by omega)]; omega)]
        rw [hok, if_pos rfl] at hsp
        try simp only [mlet]
        rw [m_due (by omega) hsp2.1.1 hsp2.2 v2' ht, mb3_s, sI_add, sI_add]
        refine ih (i + 1) _ g (sp2 va t u).2 M3 L3 (by omega) ?_ (by omega) hsp2.1 hsp2.2 ?_ v2' hsp fr3 fl3
        · omega
        · rw [sp2_r (by omega) (by omega)]; exact hlim
  unfold fX13_event_b107
  rw [m_due (by omega) hw.1 hS h ht, mb3_s]
  exact key 1000 0 m0 fu w M L (by omega) (by omega) (by omega) hw hS rfl h rfl (fun _ _ _ => rfl) (fun _ _ _ => rfl)
theorem m_event {fu : Nat} {M : mwM} {L : mwL} {q e t nw : Nat} {va : Nat → Int32} {w : ZT} (hf : 1100 ≤ fu) (hw : WI w) (h : RmW q M L va w) (ht : t ≤ 20000) (he : e < 1000) (hnw : L q 28 = sL nw) (hnt : nw ≤ t) (hdf : dfl w.1.1 0 ≠ 0) : wq (DX13_event fu q (sI e) (sL t) M L) (fun z => reE (ev1 va e t w).1 z.1 ∧ RmW q z.2.1 z.2.2 va (ev1 va e t w).2 ∧ frMc q M z.2.1 ∧ (∀ a, a ≠ q → a ≠ q + 6 → a ≠ q + 21 → z.2.2 a = L a) ∧ z.2.2 q 28 = sL t) := by
  have hv := hw.1
  have hT := hv.1
  have hN := hT.1
  have b1 : vp_nar .boolean (1 : Int32) = bI true := by decide
  have hM := h.1
  have hM0 : TrM (mset M q 0 0) q (w.1.1 0 0) (w.1.1 1) (w.1.1 2) (w.1.1 3) := TrM_f hM (mset_j (by omega)) (fun a s u1 u2 => mset_k (by omega))
  have ech := m_child (fu := fu) (L := L) (w := false) (ac := fun _ => false) (s := 0) (by omega) hT hM0 (fun z => by cases z) (Nat.zero_le _)
  have hdl : chF (w.1.1 1) (w.1.1 2) (w.1.1 0 0) (fun c => !false || false) 0 = dfl w.1.1 0 := rfl
  rw [hdl] at ech
  have hle : dfl w.1.1 0 ≤ w.1.1 0 0 := ch_le
  have e27 : M q 27 = bI (w.1.2.1 6 0) := h.2.2.2.1.2.2.2.2.1
  unfold DX13_event
  simp only [mlet]
  rw [if_neg (by rw [show (0 : Int32) = sI 0 from rfl, sI_lt (by omega) (by omega)]; omega), if_neg (by rw [sI_llt (by decide) (by omega)]; omega), hnw, if_neg (fun z => by
    have := (lg_cmp_lt _ _).mp z
    rw [sL_lt (by omega) (by omega)] at this
    omega), if_neg (fun z => by
    have := (lg_cmp_lt _ _).mp z
    rw [show (0 : Int64) = sL 0 from rfl, sL_lt (by omega) (by omega)] at this
    omega), if_pos ((lg_cmp_le _ _).mpr (by
    rw [Int64.le_iff_toInt_le, sL_toInt (by omega), show (4611686018427387904 : Int64).toInt = 4611686018427387904 from by decide]
    omega)), show DX13_child fu q 0 0 (mset M q 0 0) L = _ from ech, mb3_s, if_neg (by rw [sI_eql (by omega) (by decide)]; exact hdf)]
  have e27' : mset (mset M q 0 0) q 31 0 q 27 = bI (w.1.2.1 6 0) := by
    simp (disch := omega) only [mset_n]; exact e27
  have hB : RmW q (mset (mset M q 0 0) q 31 0) (mset L q 28 (sL t)) va w := by
    have h1 : RmW q (mset (mset M q 0 0) q 31 0) L va w := RmW_n h ⟨0, by omega, mset_s⟩ (fun a y u1 u2 u3 => by simp (disch := omega) only [mset_n])
    exact ReM_f h1 (fun _ _ _ _ _ => rfl) (fun a u1 u2 => mset_rown (by omega))
  have frB : frMc q M (mset (mset M q 0 0) q 31 0) := fun a y u => by simp (disch := omega) only [mset_n]
  rw [e27']
  cases hs : w.1.2.1 6 0 with
  | true =>
    rw [if_neg (by decide)]
    have e1 : ev1 va e t w = ev2 va e t w := by
      unfold ev1
      rw [if_pos hs]
    rw [e1]
    refine wq_mono (m_ev2 (e := e) (m0 := 0) hf ⟨hv, hw.2.2.1 hs⟩ hw.2.1 hB ht he (by omega)) ?_
    rintro ⟨r, M1, L1⟩ ⟨y1, y2, y3, y4⟩
    refine ⟨y1, y2, fun a y u => (y3 a y u).trans (frB a y u), fun a u1 u2 u3 => ?_, ?_⟩
    · exact (y4 a u2 u3).trans (mset_rown u1)
    · have y4' : L1 q = mset L q 28 (sL t) q := y4 q (by omega) (by omega)
      show L1 q 28 = sL t
      rw [y4', mset_s]
  | false =>
    rw [if_pos bI_f]
    have e1 : ev1 va e t w = if (chN va t (w.1.1 0 3) (stZ va t w)).1 = true then ev2 va e t (chN va t (w.1.1 0 3) (stZ va t w)).2 else chN va t (w.1.1 0 3) (stZ va t w) := by
      unfold ev1
      rw [hs, if_neg (by decide)]
    obtain ⟨s1, s2, s3⟩ := st_cf (va := va) hw hs ht
    obtain ⟨hb0, hh⟩ := hw.2.2.2 hs
    have hH : HiV w.1.1 := fun s hs2 => Or.inl (hh s hs2)
    rw [e1]
    generalize hG : mset (mset (mset (mset M q 0 0) q 31 0) q 27 1) (q + 9) ((0 : Int32).toNatClampNeg) (vp_nar .boolean 1) = G
    have hGr : ReM q G (mset L q 28 (sL t)) w.1.1 (sta w.1.2.1) va w.1.2.2 w.2 := by
      obtain ⟨j1, j2, j3, j4, j5, j6, j7, j8⟩ := hB
      have G1 : ∀ a y, ¬ (a = q ∧ y = 27) → ¬ (a = q + 9 ∧ y = 0) → G a y = mset (mset M q 0 0) q 31 0 a y := by
        intro a y u1 u2
        subst hG
        rw [mset_n (by rw [show (0 : Int32).toNatClampNeg = 0 from rfl]; exact u2), mset_n u1]
      have G27 : G q 27 = bI true := by
        subst hG
        rw [mset_k (by omega), mset_s]
        rfl
      have G9 : G (q + 9) 0 = bI true := by
        subst hG
        rw [show (0 : Int32).toNatClampNeg = 0 from rfl, mset_s, b1]
      refine ⟨TrM_f j1 (G1 _ _ (by omega) (by omega)) (fun a s u1 u2 => G1 _ _ (by omega) (by omega)), ?_, ?_, ?_, ?_, ?_, ?_, ?_⟩
      · refine ⟨(G1 _ _ (by omega) (by omega)).trans j2.1, fun e u1 u2 => ?_⟩
        rw [G1 _ _ (by omega) (by omega), G1 _ _ (by omega) (by omega), G1 _ _ (by omega) (by omega), G1 _ _ (by omega) (by omega)]
        exact j2.2 e u1 u2
      · refine ⟨(G1 _ _ (by omega) (by omega)).trans j3.1, fun i hi => ?_⟩
        rw [G1 _ _ (by omega) (by omega), G1 _ _ (by omega) (by omega), G1 _ _ (by omega) (by omega)]
        exact j3.2 i hi
      · refine ⟨(G1 _ _ (by omega) (by omega)).trans j4.1, (G1 _ _ (by omega) (by omega)).trans j4.2.1, (G1 _ _ (by omega) (by omega)).trans j4.2.2.1, (G1 _ _ (by omega) (by omega)).trans j4.2.2.2.1, ?_, j4.2.2.2.2.2.1, ?_⟩
        · rw [G27, sta_6]
        · rw [G1 _ _ (by omega) (by omega)]; exact j4.2.2.2.2.2.2
      · intro s hs2
        rw [G1 _ _ (by omega) (by omega)]; exact j5 s hs2
      · intro s u1 hs2
        rw [G1 _ _ (by omega) (by omega), G1 _ _ (by omega) (by omega), G1 _ _ (by omega) (by omega), sta_r (r := 0) (by omega), sta_r (r := 1) (by omega), sta_r (r := 2) (by omega)]
        exact j6 s u1 hs2
      · rw [G9, sta_6]
      · intro e u1 u2
        rw [G1 _ _ (by omega) (by omega), G1 _ _ (by omega) (by omega), G1 _ _ (by omega) (by omega), sta_r (r := 3) (by omega), sta_r (r := 4) (by omega), sta_r (r := 5) (by omega)]
        exact j8 e u1 u2
    have frG : frMc q M G := by
      intro a y u
      subst hG
      rw [show (0 : Int32).toNatClampNeg = 0 from rfl]
      simp (disch := omega) only [mset_n]
    refine wq_b2 (show wq (DX13_enter fu q 0 0 (sL t) G (mset L q 28 (sL t))) _ from m_enter (e := 0) (d := 0) (now := t) (g := fun _ _ => false) (by omega) hv hH hGr (Nat.zero_le _) rfl hT.2.2.1 rfl) ?_
    rintro M2 L2 ⟨z1, z2, z3⟩
    dsimp only at z1 z2 z3
    have hr2 : RmW q M2 L2 va (stZ va t w) := by
      unfold RmW stZ
      dsimp only
      exact z1
    refine wq_b3 (m_chain (now := t) (w := stZ va t w) (by omega) s1 hr2) ?_
    rintro r3 M3 L3 ⟨v1, v2, v4, v5⟩
    dsimp only at v1 v2 v4 v5
    rw [stZ_r (by omega)] at v1 v2
    have fr3 : frMc q M M3 := fun a y u => by rw [v4 _ _ u, z2 _ _ (by omega) (by omega) (by omega)]; exact frG a y u
    have fl3 : ∀ a, a ≠ q → a ≠ q + 6 → a ≠ q + 21 → L3 a = L a := fun a u1 u2 u3 => by rw [v5 _ u2 u3, z3 _ u2 u3, mset_rown u1]
    have f28 : L3 q 28 = sL t := by rw [v5 _ (by omega) (by omega), z3 _ (by omega) (by omega), mset_s]
    have h4 := ch_In (va := va) ht (w.1.1 0 3) _ s1 s2
    cases hok : (chN va t (w.1.1 0 3) (stZ va t w)).1 with
    | false =>
      rw [hok, if_neg (by decide)] at v1
      rw [v1, if_neg (by decide), if_neg (by decide)]
      refine wq_some ⟨?_, v2, fr3, fl3, f28⟩
      unfold reE
      rw [hok, if_neg (by decide)]
    | true =>
      rw [hok, if_pos rfl] at v1
      obtain ⟨m2, w1, w2⟩ := v1
      rw [w2, if_pos (by rw [show (0 : Int32) = sI 0 from rfl, sI_le (by omega) (by omega)]; omega), if_pos rfl]
      refine wq_mono (m_ev2 (e := e) (m0 := m2) hf h4.1 h4.2 v2 ht he w1) ?_
      rintro ⟨r4, M4, L4⟩ ⟨x1, x2, x3, x4⟩
      refine ⟨x1, x2, fun a y u => (x3 a y u).trans (fr3 a y u), fun a u1 u2 u3 => (x4 a u2 u3).trans (fl3 a u1 u2 u3), ?_⟩
      have x4' : L4 q = L3 q := x4 q (by omega) (by omega)
      show L4 q 28 = sL t
      rw [x4']; exact f28
