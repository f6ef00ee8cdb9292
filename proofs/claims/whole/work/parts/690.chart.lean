/-! one edge is taken -/
def usB (b : Nat → Nat → Bool) (e : Nat) : Nat → Nat → Bool := fun r s => if r = 3 ∧ s = e then true else b r s
def tk2 (c : Nat → Nat → Nat) (b : Nat → Nat → Bool) (e : Nat) : Nat → Nat → Nat := lvC c (usB b e) (doE c e)
def tkg (c : Nat → Nat → Nat) (b : Nat → Nat → Bool) (e : Nat) : Nat → Nat → Bool := aiN (tk2 c b e) e (doE c e) (tk2 c b e 0 1)
def tkm (c : Nat → Nat → Nat) (b : Nat → Nat → Bool) (e : Nat) : Nat → Bool := cmB (tk2 c b e) (doE c e) (tkg c b e)
def tkC (c : Nat → Nat → Nat) (b : Nat → Nat → Bool) (e now : Nat) : Nat → Nat → Nat := ent (tk2 c b e) (tkm c b e) now
def tkB (c : Nat → Nat → Nat) (b : Nat → Nat → Bool) (e : Nat) : Nat → Nat → Bool := enb (lvB c (usB b e) (doE c e)) (tkm c b e)
def tkD (c : Nat → Nat → Nat) (b : Nat → Nat → Bool) (va : Nat → Int32) (e : Nat) (D : Nat → Int64) : Nat → Int64 := alo (tkm c b e) (acD (tk2 c b e) va 0) (riL (tk2 c b e 3) (tk2 c b e 0 0) 42) (acD (tk2 c b e) va 2 e (alo (exB (c 1) (c 3) (usB b e 0) (doE c e)) (acD c va 1) (faL (c 3) (c 0 0) 41) D))
theorem us_r {b : Nat → Nat → Bool} {e r : Nat} (h : r ≠ 3) : usB b e r = b r := by
  funext s
  unfold usB
  rw [if_neg (fun z => h z.1)]
theorem tk2_r {c : Nat → Nat → Nat} {b : Nat → Nat → Bool} {e i : Nat} (h : i ≠ 13) : tk2 c b e i = c i := lvC_r h
theorem doE_c {c c' : Nat → Nat → Nat} {e : Nat} (h : ∀ i, i ≤ 5 → c' i = c i) : doE c' e = doE c e := by
  unfold doE
  rw [h 0 (by omega), h 1 (by omega), h 2 (by omega), h 3 (by omega), h 4 (by omega), h 5 (by omega)]
theorem Cv_c {c c' : Nat → Nat → Nat} (h : ∀ i, i ≤ 12 → c' i = c i) (hv : Cv c) : Cv c' := by
  have e : (fun i => c' (8 + i)) 0 = c 8 ∧ (fun i => c' (8 + i)) 1 = c 9 ∧ (fun i => c' (8 + i)) 2 = c 10 ∧ (fun i => c' (8 + i)) 3 = c 11 := ⟨h _ (by omega), h _ (by omega), h _ (by omega), h _ (by omega)⟩
  unfold Cv
  rw [h 0 (by omega), h 1 (by omega), h 2 (by omega), h 3 (by omega), h 4 (by omega), h 5 (by omega), h 6 (by omega), h 7 (by omega), h 8 (by omega), h 9 (by omega), h 12 (by omega)]
  refine ⟨hv.1, hv.2.1, ⟨hv.2.2.1.1, fun i hi => ?_⟩, hv.2.2.2⟩
  rw [e.1, e.2.1, e.2.2.1, e.2.2.2]
  exact hv.2.2.1.2 i hi
theorem tk2_v {c : Nat → Nat → Nat} {b : Nat → Nat → Bool} {e : Nat} (hv : Cv c) : Cv (tk2 c b e) := Cv_c (fun i hi => tk2_r (by omega)) hv
theorem do_k0 {c : Nat → Nat → Nat} {e : Nat} (hv : Cv c) : c 2 (doE c e) = 0 := by
  rcases do_good hv (e := e) with q | q
  · rw [q]; exact hv.1.2.2.1
  · exact q.1
theorem m_take {fu : Nat} {M : mwM} {L : mwL} {q e now : Nat} {c : Nat → Nat → Nat} {b : Nat → Nat → Bool} {va : Nat → Int32} {D : Nat → Int64} {x : Nat → Int32} (hf : 601 ≤ fu) (hv : Cv c) (hH : HiV c) (h : ReM q M L c b va D x) (he1 : 1 ≤ e) (he : e ≤ c 0 1) : wq (DX13_take fu q (sI e) (sL now) M L) (fun z => ReM q z.1 z.2 (tkC c b e now) (tkB c b e) va (tkD c b va e D) x ∧ (∀ a y, ¬ (q ≤ a ∧ a ≤ q + 23) → ¬ (q + 25 ≤ a ∧ a ≤ q + 29) → z.1 a y = M a y) ∧ z.1 q 35 = M q 35 ∧ ∀ a, a ≠ q + 6 → a ≠ q + 21 → z.2 a = L a) := by
  have hT := hv.1
  have hE := hv.2.1
  have hN := hT.1
  have hE4 := hE.1
  have b0 : vp_nar .boolean (0 : Int32) = bI false := by decide
  have b1 : vp_nar .boolean (1 : Int32) = bI true := by decide
  obtain ⟨hM, hEM, hXM, hf4, h5, h6, h7, h8⟩ := h
  obtain ⟨rw0, hr0, hr1⟩ := hf4.2.2.2.2.2.2
  have hdl := doE_le (c := c) (e := e)
  have hdk := do_k0 hv (e := e)
  have hu0 : usB b e 0 = b 0 := us_r (by omega)
  generalize hQ : (fun z : mwM × mwL => ReM q z.1 z.2 (tkC c b e now) (tkB c b e) va (tkD c b va e D) x ∧ (∀ a y, ¬ (q ≤ a ∧ a ≤ q + 23) → ¬ (q + 25 ≤ a ∧ a ≤ q + 29) → z.1 a y = M a y) ∧ z.1 q 35 = M q 35 ∧ ∀ a, a ≠ q + 6 → a ≠ q + 21 → z.2 a = L a) = Q
  generalize hex : exB (c 1) (c 3) (b 0) (doE c e) = ex
  -- behind the leaving: acts of the edge, entering
  have rest : ∀ (B : mwM) (K : mwL), ReM q B K (tk2 c b e) (lvB c (usB b e) (doE c e)) va (alo ex (acD c va 1) (faL (c 3) (c 0 0) 41) D) x → (∀ a y, ¬ (q ≤ a ∧ a ≤ q + 23) → ¬ (q + 25 ≤ a ∧ a ≤ q + 29) → B a y = M a y) → B q 35 = M q 35 → (∀ a, a ≠ q + 6 → a ≠ q + 21 → K a = L a) → wq (mb2 (DX13_doActs fu q (sI e) 2 B K) (fun M13 L14 => mb2 (DX13_enter fu q (sI (doE c e)) (sI e) (sL now) M13 L14) (fun M15 L16 => some (M15, L16)))) Q := by
    intro B K hB o1 o2 o3
    have hB' := hB
    obtain ⟨_, _, k3, k4, _⟩ := hB'
    obtain ⟨rw1, k5, k6⟩ := k4.2.2.2.2.2.2
    have hKD := k4.2.2.2.2.2.1
    have hv2 := tk2_v (b := b) (e := e) hv
    refine wq_b2 (m_doActs (rw' := rw1) (w := 2) (o := e) (by omega) hv2.2.2.1 k3 (by omega) (by omega) k6 k5) ?_
    rintro M1 L1 ⟨y1, y2, y3, y4⟩
    dsimp only at y1 y2 y3 y4
    have hB1 : ReM q M1 L1 (tk2 c b e) (lvB c (usB b e) (doE c e)) va (acD (tk2 c b e) va 2 e (alo ex (acD c va 1) (faL (c 3) (c 0 0) 41) D)) x := by
      obtain ⟨j1, j2, j3, j4, j5, j6, j7, j8⟩ := hB
      refine ⟨TrM_f j1 (y4 _ _ (by omega) (by omega)) (fun a s u1 u2 => y4 _ _ (by omega) (by omega)), ?_, ?_, ?_, ?_, ?_, ?_, ?_⟩
      · refine ⟨?_, fun e u1 u2 => ?_⟩
        · simp (disch := omega) only [y4]; exact j2.1
        · simp (disch := omega) only [y4]; exact j2.2 e u1 u2
      · refine ⟨?_, fun i hi => ?_⟩
        · simp (disch := omega) only [y4]; exact j3.1
        · simp (disch := omega) only [y4, y2]; exact j3.2 i hi
      · simp (disch := omega) only [y4]
        refine ⟨j4.1, j4.2.1, j4.2.2.1, j4.2.2.2.1, j4.2.2.2.2.1, ?_, y3⟩
        rw [y1, hKD]
        rfl
      · intro s hs
        simp (disch := omega) only [y4, y2]; exact j5 s hs
      · intro s u1 hs
        simp (disch := omega) only [y4, y2]; exact j6 s u1 hs
      · simp (disch := omega) only [y4]; exact j7
      · intro e u1 u2
        simp (disch := omega) only [y4]; exact j8 e u1 u2
    have edo : doE c e = if e = 0 then 0 else doE (tk2 c b e) e := by
      rw [if_neg (by omega)]
      exact (doE_c (fun i hi => tk2_r (by omega))).symm
    refine wq_b2 (m_enter (g := tkg c b e) hf hv2 (lv_HiV hT hH) hB1 (by rw [tk2_r (by omega)]; exact he) edo (by rw [tk2_r (by omega)]; exact hdk) (by rw [if_neg (by omega)]; rfl)) ?_
    rintro M2 L2 ⟨z1, z2, z3⟩
    dsimp only at z1 z2 z3
    rw [← hQ]
    refine wq_some ⟨?_, fun a y u1 u2 => ?_, ?_, fun a u1 u2 => ?_⟩
    all_goals (try dsimp only)
    · have : tkD c b va e D = alo (cmB (tk2 c b e) (doE c e) (tkg c b e)) (acD (tk2 c b e) va 0) (riL (tk2 c b e 3) (tk2 c b e 0 0) 42) (acD (tk2 c b e) va 2 e (alo ex (acD c va 1) (faL (c 3) (c 0 0) 41) D)) := by
        unfold tkD
        rw [hu0, hex]
        rfl
      rw [this]
      exact z1
    · rw [z2 _ _ (by omega) (by omega) (by omega), y4 _ _ (by omega) (by omega)]; exact o1 a y u1 u2
    · rw [z2 _ _ (by omega) (by omega) (by omega), y4 _ _ (by omega) (by omega)]; exact o2
    · rw [z3 _ u1 u2, y2 _ u2]; exact o3 a u1 u2
  -- leaving by levels
  have leave : ∀ B : mwM, (∀ s, 1 ≤ s → s ≤ c 0 0 → B (q + 26) s = bI (ex s)) → (∀ s, s ≤ c 0 0 → B (q + 4) s = sI (tk2 c b e 13 s)) → (∀ j, 1 ≤ j → j ≤ c 0 1 → B (q + 14) j = bI (usB b e 3 j)) → (∃ r, r ≤ 500 ∧ B q 31 = sI r) → (∀ a y, ¬ (a = q + 4 ∨ a = q + 14 ∨ a = q + 22 ∨ a = q + 26) → ¬ (a = q ∧ y = 31) → B a y = M a y) → wq (fX13_take_h83 fu q (sI e) (sL now) fu (sI (doE c e), sI 41, B, L)) Q := by
    intro B o1 o2 o3 o4 o5
    refine wq_for (body := fun r z => fX13_take_i83 fu q (sI e) (sL now) r z.1 z.2.1 z.2.2.1 z.2.2.2) (fun i (w : mwM × mwL) => (sI (doE c e), sI (41 - i), w.1, w.2)) (fun i w => (∀ s, 1 ≤ s → s ≤ c 0 0 → w.1 (q + 9) s = bI (b 0 s && !(ex s && decide (41 - i < c 3 s)))) ∧ (∃ D1, w.2 (q + 21) = D1 ∧ faI (c 3) (c 0 0) ex (acD c va 1) (41 - i) D1 = faI (c 3) (c 0 0) ex (acD c va 1) 41 D) ∧ (∃ r, r ≤ 500 ∧ w.1 q 31 = sI r) ∧ w.1 (q + 9) 0 = M (q + 9) 0 ∧ (∀ a, a ≠ q + 21 → w.2 a = L a) ∧ ∀ a y, a ≠ q + 9 → a ≠ q + 22 → ¬ (a = q ∧ y = 31) → w.1 a y = B a y) 41 ?_ ?_ 41 0 (B, L) fu (by omega) (by omega) ⟨?_, ⟨D, hf4.2.2.2.2.2.1, rfl⟩, o4, o5 _ _ (by omega) (by omega), fun _ _ => rfl, fun _ _ _ _ _ => rfl⟩
    · rintro i ⟨a, l⟩ r83 hi ⟨p1, ⟨D1, p2, p3⟩, ⟨rw1, p4, p5⟩, p6, p7, p8⟩ ih
      dsimp only at p1 p2 p5 p6 p7 p8
      obtain ⟨j, hj⟩ : ∃ j, 41 - i = j + 1 := ⟨40 - i, by omega⟩
      have hj2 : 41 - (i + 1) = j := by omega
      rw [hj] at p1 p3
      show wq (fX13_take_i83 fu q (sI e) (sL now) r83 (sI (doE c e)) (sI (41 - i)) a l) _
      rw [hj]
      have key := fun (X : mwM) (Y : mwL) => ih (X, Y)
      dsimp only at key
      rw [hj2] at key
      unfold fX13_take_i83
      rw [if_neg (by rw [sI_lel (by omega) (by decide)]; omega)]
      refine wq_for (body := fun r z => fX13_take_i91 fu q (sI e) (sL now) r83 r z.1 z.2.1 z.2.2.1 z.2.2.2.1 z.2.2.2.2) (fun i (w : mwM × mwL) => (sI (doE c e), sI (j + 1), sI i, w.1, w.2)) (fun i w => 1 ≤ i ∧ (∀ s, 1 ≤ s → s ≤ c 0 0 → w.1 (q + 9) s = bI (b 0 s && !(ex s && (decide (j + 1 < c 3 s) || (decide (c 3 s = j + 1) && decide (s < i)))))) ∧ w.2 (q + 21) = nsI (fun s => ex s && decide (c 3 s = j + 1)) (acD c va 1) (i - 1) D1 ∧ (∃ r, r ≤ 500 ∧ w.1 q 31 = sI r) ∧ w.1 (q + 9) 0 = M (q + 9) 0 ∧ (∀ a, a ≠ q + 21 → w.2 a = L a) ∧ ∀ a y, a ≠ q + 9 → a ≠ q + 22 → ¬ (a = q ∧ y = 31) → w.1 a y = B a y) (c 0 0 + 1) ?_ ?_ (c 0 0) 1 (a, l) fu (by omega) (by omega) ⟨Nat.le_refl _, fun s u1 u2 => ?_, p2, ⟨rw1, p4, p5⟩, p6, p7, p8⟩
      · rintro s ⟨a, l⟩ r hs ⟨hs1, t1, t2, ⟨rw2, t3, t4⟩, t5, t6, t7⟩ ih2
        dsimp only at t1 t2 t4 t5 t6 t7
        obtain ⟨n, rfl⟩ : ∃ n, s = n + 1 := ⟨s - 1, by omega⟩
        show wq (fX13_take_i91 fu q (sI e) (sL now) r83 r (sI (doE c e)) (sI (j + 1)) (sI (n + 1)) a l) _
        have key2 := fun (X : mwM) (Y : mwL) => ih2 (X, Y)
        dsimp only at key2
        simp only [show n + 1 + 1 - 1 = n + 1 from rfl] at key2
        rw [Nat.add_sub_cancel] at t2
        have hde := (Tr_pa hT (show n + 1 ≤ c 0 0 by omega)).2.2.2.2
        have e2 : a q 2 = sI (c 0 0) := by rw [t7 _ _ (by omega) (by omega) (by omega), o5 _ _ (by omega) (by omega)]; exact hM.1
        have e26 : a (q + 26) (n + 1) = bI (ex (n + 1)) := by rw [t7 _ _ (by omega) (by omega) (by omega)]; exact o1 _ (by omega) (by omega)
        have e3 : a (q + 3) (n + 1) = sI (c 3 (n + 1)) := by rw [t7 _ _ (by omega) (by omega) (by omega), o5 _ _ (by omega) (by omega)]; exact (hM.2 _ (by omega)).2.2
        have ens : ∀ D0, nsI (fun s => ex s && decide (c 3 s = j + 1)) (acD c va 1) (n + 1) D0 = if (ex (n + 1) && decide (c 3 (n + 1) = j + 1)) = true then acD c va 1 (n + 1) (nsI (fun s => ex s && decide (c 3 s = j + 1)) (acD c va 1) n D0) else nsI (fun s => ex s && decide (c 3 s = j + 1)) (acD c va 1) n D0 := fun D0 => rfl
        have ltS : ∀ s, s ≠ n + 1 → decide (s < n + 1 + 1) = decide (s < n + 1) := by
          intro s hq
          by_cases hlt : s < n + 1
          · rw [decide_eq_true hlt, decide_eq_true (show s < n + 1 + 1 by omega)]
          · rw [decide_eq_false hlt, decide_eq_false (show ¬ s < n + 1 + 1 by omega)]
        have skip : (ex (n + 1) && decide (c 3 (n + 1) = j + 1)) = false → wq (r (sI (doE c e), sI (j + 1), sI (n + 1 + 1), a, l)) Q := by
          intro hno
          refine key2 a l ⟨by omega, fun s u1 u2 => ?_, ?_, ⟨rw2, t3, t4⟩, t5, t6, t7⟩
          · rw [t1 s u1 u2]
            by_cases hq : s = n + 1
            · subst hq
              cases hx : ex (n + 1) with
              | false => rfl
              | true =>
                rw [hx, Bool.true_and] at hno
                rw [hno]
                rfl
            · rw [ltS s hq]
          · rw [ens, hno, if_neg (by decide)]
            exact t2
        unfold fX13_take_i91 fX13_take_b145
        simp (disch := omega) only [e2, e26, e3, mck_s, sI_nn, nn_s, sI_lt, sI_le, sI_eq, sI_ltl, sI_lel, sI_eql, sI_llt, sI_lle, sI_1, bI_0, bI_1, bI_n, mlet, mb3_s, mb2_s]
        rw [if_neg (by omega)]
        cases hc : ex (n + 1) with
        | false =>
          rw [if_pos rfl]
          exact skip (by rw [hc]; rfl)
        | true =>
          rw [if_neg (by decide)]
          by_cases hdj : c 3 (n + 1) = j + 1
          · rw [if_pos hdj]
            refine wq_b2 (m_note (rw' := rw2) t4 t3) ?_
            rintro M1 L1 ⟨y1, ⟨rw3, y2, y4⟩, y3⟩
            dsimp only at y1 y4 y3
            subst y1
            simp (disch := omega) only [b0, mck_s, sI_nn, nn_s, sI_lt, sI_le, sI_eq, sI_ltl, sI_lel, sI_eql, sI_llt, sI_lle, sI_1, bI_0, bI_1, bI_n, mlet, mb3_s, mb2_s]
            refine wq_b2 (m_doActs (rw' := rw3) (w := 1) (o := n + 1) (n := c 0 2) (ax := fun i => c (8 + i)) (va := va) (by omega) hv.2.2.1 ⟨?_, fun i hi => ?_⟩ (by omega) (by omega) ?_ y2) ?_
            · simp (disch := omega) only [mset_n, y3, t7, o5]; exact hXM.1
            · have := hXM.2 i hi
              rw [← t6 (q + 20) (by omega)] at this
              simp (disch := omega) only [mset_n, y3, t7, o5]; exact this
            · simp (disch := omega) only [mset_n]; exact y4
            rintro M2 L2 ⟨z1, z2, z3, z4⟩
            dsimp only at z1 z2 z3 z4
            refine key2 M2 L2 ⟨by omega, fun s u1 u2 => ?_, ?_, z3, ?_, fun a' u1 => ?_, fun a' y u1 u2 u3 => ?_⟩
            · by_cases hq : s = n + 1
              · subst hq
                rw [hc, decide_eq_true hdj, decide_eq_true (show n + 1 < n + 1 + 1 by omega)]
                simp (disch := omega) only [z4, mset_n, mset_s]
                simp
              · rw [ltS s hq]
                simp (disch := omega) only [z4, mset_n, y3]
                exact t1 s u1 u2
            · rw [ens, hc, decide_eq_true hdj, Bool.and_self, if_pos rfl, z1, t2]
              rfl
            · simp (disch := omega) only [z4, mset_n, y3]; exact t5
            · rw [z2 _ u1]; exact t6 a' u1
            · rw [z4 _ _ u3 u2]
              simp (disch := omega) only [mset_n, y3]
              exact t7 a' y u1 u2 u3
          · rw [if_neg hdj]
            exact skip (by rw [hc, decide_eq_false hdj]; rfl)
      · rintro ⟨a, l⟩ r ⟨_, t1, t2, t3, t5, t6, t7⟩
        dsimp only at t1 t2 t3 t5 t6 t7
        rw [Nat.add_sub_cancel] at t2
        show wq (fX13_take_i91 fu q (sI e) (sL now) r83 r (sI (doE c e)) (sI (j + 1)) (sI (c 0 0 + 1)) a l) _
        have e2 : a q 2 = sI (c 0 0) := by rw [t7 _ _ (by omega) (by omega) (by omega), o5 _ _ (by omega) (by omega)]; exact hM.1
        unfold fX13_take_i91
        rw [e2, if_pos (by rw [sI_lt (by omega) (by omega)]; omega)]
        simp only [mlet]
        rw [sI_pm]
        refine key a l ⟨fun s u1 u2 => ?_, ⟨_, t2, p3⟩, t3, t5, t6, t7⟩
        rw [t1 s u1 u2, decide_eq_true (show s < c 0 0 + 1 by omega), Bool.and_true]
        have : (decide (j + 1 < c 3 s) || decide (c 3 s = j + 1)) = decide (j < c 3 s) := by
          by_cases h1 : j < c 3 s
          · rw [decide_eq_true h1]
            by_cases h2 : c 3 s = j + 1
            · rw [decide_eq_true h2]; simp
            · rw [decide_eq_true (show j + 1 < c 3 s by omega)]; rfl
          · rw [decide_eq_false h1, decide_eq_false (show ¬ j + 1 < c 3 s by omega), decide_eq_false (show ¬ c 3 s = j + 1 by omega)]; rfl
        rw [this]
      · dsimp only
        rw [p1 s u1 u2, decide_eq_false (show ¬ s < 1 by omega), Bool.and_false, Bool.or_false]
    · rintro ⟨a, l⟩ r ⟨p1, ⟨D1, p2, p3⟩, p4, p6, p7, p8⟩
      dsimp only at p1 p2 p4 p6 p7 p8
      show wq (fX13_take_i83 fu q (sI e) (sL now) r (sI (doE c e)) (sI (41 - 41)) a l) _
      unfold fX13_take_i83
      rw [if_pos (by decide)]
      have hD1 : D1 = alo ex (acD c va 1) (faL (c 3) (c 0 0) 41) D := by
        rw [← fa_alo]
        exact p3
      have fr : ∀ a' y, ¬ (a' = q + 4 ∨ a' = q + 9 ∨ a' = q + 14 ∨ a' = q + 22 ∨ a' = q + 26) → ¬ (a' = q ∧ y = 31) → a a' y = M a' y := fun a' y u1 u2 => by rw [p8 _ _ (by omega) (by omega) u2, o5 _ _ (by omega) u2]
      refine rest a l ?_ (fun a' y u1 u2 => fr a' y (by omega) (by omega)) (fr _ _ (by omega) (by omega)) (fun a' u1 u2 => p7 a' u2)
      have e3 : ∀ r, 1 ≤ r → lvB c (usB b e) (doE c e) r = usB b e r := by
        intro r hr
        funext s
        unfold lvB
        rw [if_neg (by omega)]
      unfold ReM
      rw [tk2_r (i := 0) (by omega), tk2_r (i := 1) (by omega), tk2_r (i := 2) (by omega), tk2_r (i := 3) (by omega), tk2_r (i := 4) (by omega), tk2_r (i := 5) (by omega), tk2_r (i := 6) (by omega), tk2_r (i := 7) (by omega), tk2_r (i := 12) (by omega), tk2_r (i := 14) (by omega), e3 1 (by omega), e3 2 (by omega), e3 3 (by omega), e3 4 (by omega), e3 5 (by omega), e3 6 (by omega), us_r (r := 1) (by omega), us_r (r := 2) (by omega), us_r (r := 4) (by omega), us_r (r := 5) (by omega), us_r (r := 6) (by omega)]
      refine ⟨TrM_f hM (fr _ _ (by omega) (by omega)) (fun a s u1 u2 => fr _ _ (by omega) (by omega)), ?_, ?_, ?_, ?_, ?_, ?_, ?_⟩
      · refine ⟨?_, fun e u1 u2 => ?_⟩
        · simp (disch := omega) only [fr]; exact hEM.1
        · simp (disch := omega) only [fr]; exact hEM.2 e u1 u2
      · refine ⟨?_, fun i hi => ?_⟩
        · simp (disch := omega) only [fr]; exact hXM.1
        · have := hXM.2 i hi
          dsimp only at this ⊢
          rw [tk2_r (by omega), tk2_r (by omega), tk2_r (by omega), tk2_r (by omega), p7 _ (by omega)]
          simp (disch := omega) only [fr]; exact this
      · rw [p2, hD1]
        simp (disch := omega) only [fr]
        exact ⟨hf4.1, hf4.2.1, hf4.2.2.1, hf4.2.2.2.1, hf4.2.2.2.2.1, trivial, p4⟩
      · intro s hs
        rw [p7 _ (by omega), p8 _ _ (by omega) (by omega) (by omega)]
        exact ⟨(h5 s hs).1, o2 s hs⟩
      · intro s u1 hs
        have := h6 s u1 hs
        have hd1 := (hT.2.2.2.2 s u1 hs)
        rw [p7 _ (by omega), p1 s u1 hs, fr (q + 7) s (by omega) (by omega), fr (q + 8) s (by omega) (by omega)]
        refine ⟨?_, this.2⟩
        rw [decide_eq_true (show 41 - 41 < c 3 s by omega), Bool.and_true]
        unfold lvB
        rw [if_pos rfl, hu0, ← hex]
        unfold exB
        cases b 0 s <;> simp
      · rw [p6]; exact h7
      · intro j u1 u2
        rw [p8 _ _ (by omega) (by omega) (by omega), fr (q + 15) j (by omega) (by omega), fr (q + 16) j (by omega) (by omega)]
        exact ⟨o3 j u1 u2, (h8 j u1 u2).2⟩
    · intro s u1 u2
      have hd1 := (hT.2.2.2.2 s u1 u2)
      dsimp only
      rw [o5 _ _ (by omega) (by omega), (h6 s u1 u2).1, decide_eq_false (show ¬ 41 - 0 < c 3 s by omega)]
      simp
  -- the beginning
  unfold DX13_take
  refine wq_b2 (m_note (rw' := rw0) hr1 hr0) ?_
  rintro M1 L1 ⟨y1, ⟨rw1, y2, y4⟩, y3⟩
  dsimp only at y1 y4 y3
  subst y1
  simp (disch := omega) only [b1, mck_s, sI_nn, nn_s, sI_lt, sI_le, sI_eq, sI_ltl, sI_lel, sI_eql, sI_llt, sI_lle, sI_1, bI_0, bI_1, bI_n, mlet, mb3_s, mb2_s]
  generalize hG : mset M1 (q + 14) e (bI true) = G
  have G1 : ∀ a y, ¬ (a = q + 14 ∨ a = q + 22) → ¬ (a = q ∧ y = 31) → G a y = M a y := by
    intro a y u1 u2
    subst hG
    rw [mset_n (by omega), y3 _ _ u2 (by omega)]
  have G14 : ∀ j, 1 ≤ j → j ≤ c 0 1 → G (q + 14) j = bI (usB b e 3 j) := by
    intro j u1 u2
    subst hG
    unfold usB
    by_cases hq : j = e
    · rw [hq, mset_s, if_pos ⟨rfl, rfl⟩]
    · rw [mset_j hq, y3 _ _ (by omega) (by omega), if_neg (fun z => hq z.2)]
      exact (h8 j u1 u2).1
  have G31 : G q 31 = sI rw1 := by
    subst hG
    rw [mset_k (by omega)]
    exact y4
  have gM : TrM G q (c 0 0) (c 1) (c 2) (c 3) := TrM_f hM (G1 _ _ (by omega) (by omega)) (fun d s u1 u2 => G1 _ _ (by omega) (by omega))
  have gE : EdM G q (c 0 1) (c 4) (c 5) (c 6) (c 7) := ⟨(G1 _ _ (by omega) (by omega)).trans hEM.1, fun j u1 u2 => by simp (disch := omega) only [G1]; exact hEM.2 j u1 u2⟩
  have gA : ∀ s, 1 ≤ s → s ≤ c 0 0 → G (q + 9) s = bI (b 0 s) := fun s u1 u2 => (G1 _ _ (by omega) (by omega)).trans (h6 s u1 u2).1
  rw [m_domain (by omega) hT gM hE gE he1 he, mb3_s]
  refine wq_b2 (m_findExits (d := doE c e) (by omega) hT gM gA hdl) ?_
  rintro B L2 ⟨z1, z2, z3⟩
  dsimp only at z1 z2 z3
  subst z1
  have z2' : ∀ s, 1 ≤ s → s ≤ c 0 0 → B (q + 26) s = bI (ex s) := by
    intro s u1 u2
    rw [z2 s u1 u2, ← hex]
    rfl
  have bA : ∀ s, 1 ≤ s → s ≤ c 0 0 → B (q + 9) s = bI (b 0 s) := fun s u1 u2 => (z3 _ _ (by omega)).trans (gA s u1 u2)
  -- the histories
  refine wq_for (body := fun r z => fX13_take_i30 fu q (sI e) (sL now) r z.1 z.2.1 z.2.2.1 z.2.2.2) (fun i (a : mwM) => (sI (doE c e), sI i, a, L2)) (fun i a => 1 ≤ i ∧ (∀ s, s ≤ c 0 0 → a (q + 4) s = sI (if s < i then tk2 c b e 13 s else c 13 s)) ∧ ∀ a' y, a' ≠ q + 4 → a a' y = B a' y) (c 0 0 + 1) ?_ ?_ (c 0 0) 1 B fu (by omega) (by omega) ⟨Nat.le_refl _, fun s hs => ?_, fun _ _ _ => rfl⟩
  · intro i a r hi ⟨hi1, p1, p2⟩ ih
    show wq (fX13_take_i30 fu q (sI e) (sL now) r (sI (doE c e)) (sI i) a L2) _
    have aM : TrM a q (c 0 0) (c 1) (c 2) (c 3) := TrM_f gM (by rw [p2 _ _ (by omega), z3 _ _ (by omega)]) (fun d s u1 u2 => by rw [p2 _ _ (by omega), z3 _ _ (by omega)])
    have aA : ∀ s, 1 ≤ s → s ≤ c 0 0 → a (q + 9) s = bI (b 0 s) := fun s u1 u2 => (p2 _ _ (by omega)).trans (bA s u1 u2)
    have e26 : a (q + 26) i = bI (ex i) := (p2 _ _ (by omega)).trans (z2' i hi1 (by omega))
    have e1 := (aM.2 i (by omega)).2.1
    have hki := (Tr_pa hT (show i ≤ c 0 0 by omega)).2.2.2.1
    have ech := m_child (fu := fu) (L := L2) (w := true) (ac := b 0) (s := i) (by omega) hT aM (fun _ => aA) (by omega)
    have hch : chF (c 1) (c 2) (c 0 0) (fun c => !true || b 0 c) i = chF (c 1) (c 2) (c 0 0) (b 0) i := rfl
    rw [hch, bI_t] at ech
    have e13 : tk2 c b e 13 i = if ex i = true ∧ c 2 i = 0 then chF (c 1) (c 2) (c 0 0) (b 0) i else c 13 i := by
      unfold tk2 lvC
      rw [hu0, hex]
      by_cases hq : ex i = true ∧ c 2 i = 0
      · rw [if_pos ⟨rfl, hq⟩, if_pos hq]
      · rw [if_neg (fun z => hq z.2), if_neg hq]
    have skip : ¬ (ex i = true ∧ c 2 i = 0) → wq (r (sI (doE c e), sI (i + 1), a, L2)) Q := by
      intro hno
      refine ih a ⟨by omega, fun s hs => ?_, p2⟩
      rw [p1 s hs]
      by_cases hq : s = i
      · subst hq
        rw [if_neg (by omega), if_pos (by omega), e13, if_neg hno]
      · by_cases hlt : s < i
        · rw [if_pos hlt, if_pos (by omega)]
        · rw [if_neg hlt, if_neg (by omega)]
    unfold fX13_take_i30 fX13_take_b73
    simp (disch := omega) only [aM.1, e26, e1, ech, mck_s, sI_nn, nn_s, sI_lt, sI_le, sI_eq, sI_ltl, sI_lel, sI_eql, sI_llt, sI_lle, sI_1, bI_0, bI_1, bI_n, mlet, mb3_s, mb2_s]
    rw [if_neg (by omega)]
    cases hx : ex i with
    | false =>
      rw [if_pos rfl]
      have := skip (fun z => by rw [hx] at z; cases z.1)
      exact this
    | true =>
      rw [if_neg (by decide)]
      by_cases hk : c 2 i = 0
      · rw [if_pos hk]
        refine ih _ ⟨by omega, fun s hs => ?_, fun a' y u => by rw [mset_k u]; exact p2 a' y u⟩
        by_cases hq : s = i
        · subst hq
          rw [mset_s, if_pos (by omega), e13, if_pos ⟨hx, hk⟩]
        · rw [mset_j hq, p1 s hs]
          by_cases hlt : s < i
          · rw [if_pos hlt, if_pos (by omega)]
          · rw [if_neg hlt, if_neg (by omega)]
      · rw [if_neg hk]
        exact skip (fun z => hk z.2)
  · intro a r ⟨_, p1, p2⟩
    show wq (fX13_take_i30 fu q (sI e) (sL now) r (sI (doE c e)) (sI (c 0 0 + 1)) a L2) _
    unfold fX13_take_i30
    rw [p2 _ _ (by omega), z3 _ _ (by omega), gM.1, if_pos (by rw [sI_lt (by omega) (by omega)]; omega)]
    refine leave a (fun s u1 u2 => ?_) (fun s hs => ?_) (fun j u1 u2 => ?_) ⟨rw1, y2, ?_⟩ (fun a' y u1 u2 => ?_)
    · rw [p2 _ _ (by omega)]; exact z2' s u1 u2
    · rw [p1 s hs, if_pos (by omega)]
    · rw [p2 _ _ (by omega), z3 _ _ (by omega)]; exact G14 j u1 u2
    · rw [p2 _ _ (by omega), z3 _ _ (by omega)]; exact G31
    · rw [p2 _ _ (by omega), z3 _ _ (by omega)]; exact G1 a' y (by omega) u2
  · rw [z3 _ _ (by omega), G1 _ _ (by omega) (by omega), (h5 s hs).2]
    by_cases hlt : s < 1
    · have hs0 : s = 0 := by omega
      subst hs0
      rw [if_pos hlt]
      congr 1
      unfold tk2 lvC
      rw [if_neg]
      rintro ⟨_, w, _⟩
      unfold exB at w
      rw [ins_0 hT] at w
      simp at w
    · rw [if_neg hlt]
