/-! an event happens: the class -/
theorem RcW_f {k : Nat} {A A' : mwM} {L L' : mwL} {va : Nat → Int32} {w : ZT} (h : RcW k A L va w) (hA : ∀ a y, k ≤ a → a ≤ k + 33 → ¬ (a = k ∧ (y = 5 ∨ y = 11 ∨ y = 12 ∨ y = 13)) → ¬ (k + 12 ≤ a ∧ a ≤ k + 16) → a ≠ k + 27 → A' a y = A a y) (hL : L' (k + 34) = L (k + 34)) : RcW k A' L' va w := ⟨ReC_f h.1 (fun a y u1 u2 u3 u4 u5 u6 => hA a y u1 u2 u3 u4 u6) hL, DoC_c h.2 (fun _ _ => rfl) (fun e => hA _ _ (by omega) (by omega) (by omega) (by omega) (by omega))⟩
/-- one state has spoken -/
theorem RcW_sp {k s : Nat} {A : mwM} {L : mwL} {va : Nat → Int32} {w : ZT} (h : RcW k A L va w) (hs : s ≤ w.1.1 0 0) : RcW k (mset A (k + 11) s 1) L va (spZ s w) := by
  obtain ⟨⟨j1, j2, j3, j4, j5, j6, j7, j8⟩, hD⟩ := h
  refine ⟨⟨TrC_f j1 (mset_k (by omega)) (fun a s u1 u2 => mset_k (by omega)), ?_, ?_, ?_, ?_, ?_, ?_, ?_⟩, DoC_c hD (fun _ _ => rfl) (fun e => mset_k (by omega))⟩
  · refine ⟨?_, fun e u1 u2 => ?_⟩
    · simp (disch := omega) only [mset_n]; exact j2.1
    · simp (disch := omega) only [mset_n]; exact j2.2 e u1 u2
  · refine ⟨?_, fun i hi => ?_⟩
    · simp (disch := omega) only [mset_n]; exact j3.1
    · simp (disch := omega) only [mset_n]; exact j3.2 i hi
  · simp (disch := omega) only [mset_n]; exact j4
  · intro t ht
    simp (disch := omega) only [mset_n]
    have := j5 t ht
    refine ⟨this.1, this.2.1, ?_, this.2.2.2⟩
    have e : chK (spZ s w).1.1 (spZ s w).1.2.1 t = chK w.1.1 w.1.2.1 t := by
      unfold chK
      have e2 : (spZ s w).1.2.1 0 = w.1.2.1 0 := by
        funext j
        show (if (0 : Nat) = 1 ∧ j = s then true else w.1.2.1 0 j) = w.1.2.1 0 j
        rw [if_neg (by omega)]
      rw [e2]
      rfl
    rw [e]
    exact this.2.2.1
  · intro t u1 ht
    have := j6 t u1 ht
    refine ⟨?_, ?_, ?_, ?_⟩
    · simp (disch := omega) only [mset_n]
      rw [this.1]
      show bI (w.1.2.1 0 t) = bI (if (0 : Nat) = 1 ∧ t = s then true else w.1.2.1 0 t)
      rw [if_neg (by omega)]
    · simp (disch := omega) only [mset_n]; exact this.2.1
    · show _ = bI (if (1 : Nat) = 1 ∧ t = s then true else w.1.2.1 1 t)
      by_cases hq : t = s
      · rw [hq, mset_s, if_pos ⟨rfl, rfl⟩]; rfl
      · rw [mset_j hq, if_neg (fun z => hq z.2)]; exact this.2.2.1
    · simp (disch := omega) only [mset_n]
      rw [this.2.2.2]
      show bI (w.1.2.1 2 t) = bI (if (2 : Nat) = 1 ∧ t = s then true else w.1.2.1 2 t)
      rw [if_neg (by omega)]
  · refine ⟨fun i v hv => ?_, fun i v hv => ?_⟩
    · simp (disch := omega) only [mset_n]; exact j7.1 i v hv
    · simp (disch := omega) only [mset_n]; exact j7.2 i v hv
  · intro e u1 u2
    simp (disch := omega) only [mset_n]
    rw [j8 e u1 u2]
    show _ = sI (sn (if (3 : Nat) = 1 ∧ e = s then true else w.1.2.1 3 e) (if (4 : Nat) = 1 ∧ e = s then true else w.1.2.1 4 e) (if (5 : Nat) = 1 ∧ e = s then true else w.1.2.1 5 e))
    rw [if_neg (by omega), if_neg (by omega), if_neg (by omega)]
def frC (k : Nat) (A A' : mwM) : Prop := ∀ a y, ¬ (k + 7 ≤ a ∧ a ≤ k + 17) → a ≠ k + 26 → a ≠ k + 27 → ¬ (a = k ∧ (y = 12 ∨ y = 14 ∨ y = 15 ∨ y = 16)) → A' a y = A a y
theorem c_ev2 {fu : Nat} {A : mwM} {L : mwL} {k e t : Nat} {va : Nat → Int32} {w : ZT} (hf : 1100 ≤ fu) (hw : InW w) (hS : S14 w.1.1) (h : RcW k A L va w) (ht : t ≤ 20000) (he : e < 1000) : wq (fX2_happen_b37 fu k (sI e) (sI t) A L) (fun z => z.1 = bI (ev2 va e t w).1 ∧ RcW k z.2.1 z.2.2 va (ev2 va e t w).2 ∧ frC k A z.2.1 ∧ ∀ a, a ≠ k + 34 → z.2.2 a = L a) := by
  have hN := hw.1.1.1
  generalize hQ : (fun z : Int32 × mwM × mwL => z.1 = bI (ev2 va e t w).1 ∧ RcW k z.2.1 z.2.2 va (ev2 va e t w).2 ∧ frC k A z.2.1 ∧ ∀ a, a ≠ k + 34 → z.2.2 a = L a) = Q
  -- the speaking is over, and nobody wants more
  have fin : ∀ (a : mwM) (l : mwL), (spL va t 1000 w).1 = true → RcW k a l va (spL va t 1000 w).2 → frC k A a → (∀ b, b ≠ k + 34 → l b = L b) → wq (fX2_happen_b124 fu k (sI e) (sI t) 0 a l) Q := by
    intro a l hok hr p1 p2
    have hI := spL_In (va := va) ht 1000 w hw hS
    have e0 : ev2 va e t w = if e = 0 then spL va t 1000 w else chN va t (w.1.1 0 3) (fiZ va e t (spL va t 1000 w).2) := by
      unfold ev2
      rw [if_pos hok]
    have hlimu : (spL va t 1000 w).2.1.1 0 3 = w.1.1 0 3 := by rw [spL_r (by omega) (by omega)]
    generalize spL va t 1000 w = u at *
    unfold fX2_happen_b124
    rw [if_pos rfl]
    simp only [mlet]
    have hr2 : RcW k (mset a k 12 (sI t)) l va u.2 := RcW_f hr (fun b y u1 u2 u3 u4 u5 => mset_n (by omega)) rfl
    by_cases he0 : e = 0
    · rw [if_pos (by rw [he0]; rfl)]
      rw [if_pos he0] at e0
      rw [← hQ, e0]
      refine wq_some ⟨by rw [hok]; rfl, hr2, fun b y u1 u2 u3 u4 => ?_, p2⟩
      dsimp only
      rw [mset_n (by omega)]; exact p1 b y u1 u2 u3 u4
    rw [if_neg (by rw [sI_eql (by omega) (by decide)]; exact he0)]
    rw [if_neg he0] at e0
    refine wq_b3 (c_selZ (v := e) (by omega) hI.1 hr2 (by omega)) ?_
    rintro r1 M1 L1 ⟨y1, y2, y3, y4, y5⟩
    dsimp only at y1 y2 y3 y4 y5
    subst y1 y2
    have n1 : M1 k 12 = sI t := by rw [y5 _ _ (by omega) (by omega), mset_s]
    refine wq_b2 (c_goZ (now := t) (by omega) hI.1 y3 y4 n1) ?_
    rintro M2 L2 ⟨z1, z2, z3⟩
    dsimp only at z1 z2 z3
    have hlz := tkZ_len (v := e) hI.1
    have n2 : M2 k 12 = sI t := by rw [z2 _ _ (by omega) (by omega)]; exact n1
    have e14 : M2 k 14 = (gZ va t e u.2).2 0 := z1.1.2.2.2.1.2.2.1
    have rest : ∀ d : Int32, d = (if decide ((tkZ e u.2).length = 0) = true then 1 else 0) → wq (fX2_happen_b169 fu k (sI e) (sI t) (M2 k 14) d M2 L2) Q := by
      intro d hd
      unfold fX2_happen_b169
      simp only [mlet]
      have hr3 : RcW k (mset M2 k 14 (M2 k 14 + d)) L2 va (fiZ va e t u.2) := by
        obtain ⟨⟨j1, j2, j3, j4, j5, j6, j7, j8⟩, hD⟩ := z1
        refine ⟨⟨TrC_f j1 (mset_j (by omega)) (fun a s u1 u2 => mset_k (by omega)), ?_, ?_, ?_, ?_, ?_, ?_, ?_⟩, DoC_c hD (fun _ _ => rfl) (fun e => mset_k (by omega))⟩
        · refine ⟨?_, fun e u1 u2 => ?_⟩
          · simp (disch := omega) only [mset_n]; exact j2.1
          · simp (disch := omega) only [mset_n]; exact j2.2 e u1 u2
        · refine ⟨?_, fun i hi => ?_⟩
          · simp (disch := omega) only [mset_n]; exact j3.1
          · simp (disch := omega) only [mset_n]; exact j3.2 i hi
        · refine ⟨?_, ?_, ?_, ?_, ?_, j4.2.2.2.2.2⟩
          · simp (disch := omega) only [mset_n]; exact j4.1
          · simp (disch := omega) only [mset_n]; exact j4.2.1
          · rw [mset_s, e14, hd]
            rfl
          · simp (disch := omega) only [mset_n]
            rw [j4.2.2.2.1]
            rfl
          · simp (disch := omega) only [mset_n]; exact j4.2.2.2.2.1
        · intro t ht
          simp (disch := omega) only [mset_n]; exact j5 t ht
        · intro t u1 ht
          simp (disch := omega) only [mset_n]; exact j6 t u1 ht
        · refine ⟨fun i v hv => ?_, fun i v hv => ?_⟩
          · simp (disch := omega) only [mset_n]; exact j7.1 i v hv
          · simp (disch := omega) only [mset_n]; exact j7.2 i v hv
        · intro e u1 u2
          simp (disch := omega) only [mset_n]; exact j8 e u1 u2
      have hlim : (fiZ va e t u.2).1.1 0 3 = w.1.1 0 3 := by
        have h1 : (gZ va t e u.2).1.1 0 = u.2.1.1 0 := g_r (by omega) (by omega)
        have h2 : (fiZ va e t u.2).1.1 0 3 = (gZ va t e u.2).1.1 0 3 := rfl
        rw [h2, h1]
        exact hlimu
      refine wq_b3 (c_chain (now := t) (w := fiZ va e t u.2) (by omega) (In_g hI.1) hr3 (by rw [mset_j (by omega)]; exact n2)) ?_
      rintro r3 M3 L3 ⟨v1, v2, v3, v4, v5⟩
      dsimp only at v1 v2 v3 v4 v5
      rw [hlim, ← e0] at v1 v2
      subst v1
      rw [← hQ]
      refine wq_zz bI_z (wq_some ⟨rfl, v2, fun b y u1 u2 u3 u4 => ?_, fun b u1 => ?_⟩)
      all_goals (try dsimp only)
      · rw [v4 _ _ u1 u2 u3 (by omega), mset_n (by omega), z2 _ _ u1 u2, y5 _ _ (by omega) (by omega), mset_n (by omega)]
        exact p1 b y u1 u2 u3 u4
      · rw [v5 _ u1, z3 _ u1]; exact p2 b u1
    by_cases hz : (tkZ e u.2).length = 0
    · rw [if_pos (by rw [hz]; rfl)]
      exact rest 1 (by rw [decide_eq_true hz]; rfl)
    · rw [if_neg (by rw [sI_eql (by omega) (by decide)]; exact hz)]
      exact rest 0 (by rw [decide_eq_false hz]; rfl)
  have bad : (spL va t 1000 w).1 = false → ev2 va e t w = spL va t 1000 w := by
    intro hok
    unfold ev2
    rw [hok, if_neg (by decide)]
  -- the speaking
  have key : ∀ (n i f : Nat) (u : ZT) (a : mwM) (l : mwL), i + n = 1000 → n < f → InW u → S14 u.1.1 → u.1.1 0 3 = w.1.1 0 3 → RcW k a l va u → spL va t n u = spL va t 1000 w → frC k A a → (∀ b, b ≠ k + 34 → l b = L b) → wq (fX2_happen_h46 fu k (sI e) (sI t) f (sI (duZ t u), sI i, a, l)) Q := by
    intro n
    induction n with
    | zero =>
      intro i f u a l hi hf1 hu hSu hlim hr hsp p1 p2
      obtain ⟨g, rfl⟩ : ∃ g, f = g + 1 := ⟨f - 1, by omega⟩
      have e0 : spL va t 0 u = (decide (duZ t u = 0), u) := rfl
      rw [e0] at hsp
      unfold fX2_happen_h46
      rw [mloop_S]
      show wq (fX2_happen_i46 fu k (sI e) (sI t) (fX2_happen_h46 fu k (sI e) (sI t) g) (sI (duZ t u)) (sI i) a l) Q
      unfold fX2_happen_i46
      rw [if_pos (by rw [sI_lle (by decide) (by omega)]; omega)]
      by_cases hd : duZ t u = 0
      · rw [hd]
        refine fin a l (by rw [← hsp]; exact decide_eq_true hd) (by rw [← hsp]; exact hr) p1 p2
      · have hdl := (du_ok hd).1
        have hNu := hu.1.1.1
        unfold fX2_happen_b124
        rw [if_neg (by rw [sI_eql (by omega) (by decide)]; exact hd)]
        have hb := bad (by rw [← hsp]; exact decide_eq_false hd)
        rw [← hQ, hb, ← hsp]
        refine wq_some ⟨?_, hr, p1, p2⟩
        rw [decide_eq_false hd]
        rfl
    | succ n ih =>
      intro i f u a l hi hf1 hu hSu hlim hr hsp p1 p2
      obtain ⟨g, rfl⟩ : ∃ g, f = g + 1 := ⟨f - 1, by omega⟩
      have e0 : spL va t (n + 1) u = if duZ t u = 0 then (true, u) else if (sp2 va t u).1 = true then spL va t n (sp2 va t u).2 else (false, (sp2 va t u).2) := rfl
      rw [e0] at hsp
      unfold fX2_happen_h46
      rw [mloop_S]
      show wq (fX2_happen_i46 fu k (sI e) (sI t) (fX2_happen_h46 fu k (sI e) (sI t) g) (sI (duZ t u)) (sI i) a l) Q
      unfold fX2_happen_i46
      rw [if_neg (by rw [sI_lle (by decide) (by omega)]; omega)]
      by_cases hd : duZ t u = 0
      · rw [if_pos hd] at hsp
        rw [if_pos (by rw [hd]; rfl), hd]
        exact fin a l (by rw [← hsp]) (by rw [← hsp]; exact hr) p1 p2
      rw [if_neg hd] at hsp
      have hdk := du_ok hd
      have hdl := hdk.1
      have hat := hdk.2
      have hNu := hu.1.1.1
      have hsp1 := sp1_In (va := va) hu hSu ht hd
      have hsp2 := sp2_In (va := va) hu hSu ht hd
      rw [if_neg (by rw [sI_eql (by omega) (by decide)]; exact hd)]
      have e10 := (hr.1.2.2.2.2.2.1 (duZ t u) (by omega) hdl).2.1
      have e5 := (hr.1.2.2.2.2.1 (duZ t u) hdl).1
      simp (disch := omega) only [mset_n, e10, e5, sI_add, sI_lad, mck_s, sI_nn, nn_s, sI_lt, sI_le, sI_eq, sI_ltl, sI_lel, sI_eql, sI_llt, sI_lle, sI_1, bI_0, bI_1, bI_n, mlet, mb3_s, mb2_s]
      have hrs : RcW k (mset (mset a (k + 11) (duZ t u) 1) k 12 (sI (u.1.1 14 (duZ t u) + u.1.1 12 (duZ t u)))) l va (spZ (duZ t u) u) := RcW_f (RcW_sp hr hdl) (fun b y u1 u2 u3 u4 u5 => mset_n (by omega)) rfl
      refine wq_b3 (c_selZ (v := 1000 + duZ t u) (by omega) (sp_In hu) hrs (by omega)) ?_
      rintro r1 M1 L1 ⟨y1, y2, y3, y4, y5⟩
      dsimp only at y1 y2 y3 y4 y5
      subst y1 y2
      have n1 : M1 k 12 = sI (atZ t u) := by
        rw [y5 _ _ (by omega) (by omega), mset_s]
        rfl
      refine wq_b2 (c_goZ (now := atZ t u) (by omega) (sp_In hu) y3 y4 n1) ?_
      rintro M2 L2 ⟨z1, z2, z3⟩
      dsimp only at z1 z2 z3
      have n2 : M2 k 12 = sI (atZ t u) := by rw [z2 _ _ (by omega) (by omega)]; exact n1
      have hlim1 : (sp1 va t u).1.1 0 3 = u.1.1 0 3 := by
        have h1 : (sp1 va t u).1.1 0 = u.1.1 0 := g_r (w := spZ (duZ t u) u) (by omega) (by omega)
        rw [h1]
      refine wq_b3 (c_chain (now := atZ t u) (w := sp1 va t u) (by omega) hsp1.1 z1 n2) ?_
      rintro r3 M3 L3 ⟨v1, v2, v3, v4, v5⟩
      dsimp only at v1 v2 v3 v4 v5
      rw [hlim1] at v1 v2
      have v1' : r3 = bI (sp2 va t u).1 := v1
      have v2' : RcW k M3 L3 va (sp2 va t u).2 := v2
      have fr3 : frC k A M3 := by
        intro b y u1 u2 u3 u4
        rw [v4 _ _ u1 u2 u3 (by omega), z2 _ _ u1 u2, y5 _ _ (by omega) (by omega), mset_n (by omega), mset_n (by omega)]
        exact p1 b y u1 u2 u3 u4
      have fl3 : ∀ b, b ≠ k + 34 → L3 b = L b := fun b u1 => by rw [v5 _ u1, z3 _ u1]; exact p2 b u1
      rw [v1']
      cases hok : (sp2 va t u).1 with
      | false =>
        rw [if_pos bI_f]
        rw [hok, if_neg (by decide)] at hsp
        have hb := bad (by rw [← hsp])
        rw [← hQ, hb, ← hsp]
        exact wq_some ⟨rfl, v2', fr3, fl3⟩
      | true =>
        rw [if_neg (by decide)]
        rw [hok, if_pos rfl] at hsp
        rw [c_nextToSpeak (by omega) hsp2.1.1 hsp2.2 v2'.1 ht, mb3_s]
        refine ih (i + 1) g (sp2 va t u).2 M3 L3 (by omega) (by omega) hsp2.1 hsp2.2 ?_ v2' hsp fr3 fl3
        rw [sp2_r (by omega) (by omega)]; exact hlim
  unfold fX2_happen_b37
  rw [c_nextToSpeak (by omega) hw.1 hS h.1 ht, mb3_s]
  exact key 1000 0 fu w A L (by omega) (by omega) hw hS rfl h rfl (fun _ _ _ _ _ _ => rfl) (fun _ _ => rfl)
