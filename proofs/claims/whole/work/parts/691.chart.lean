/-! the class takes an edge -/
theorem tkC_r {c : Nat → Nat → Nat} {b : Nat → Nat → Bool} {e now i : Nat} (h : i ≠ 13) (h2 : i ≠ 14) : tkC c b e now i = c i := by
  have : tkC c b e now i = tk2 c b e i := by
    funext j
    unfold tkC ent
    rw [if_neg (fun z => h2 z.1)]
  rw [this, tk2_r h]
theorem tk_v {c : Nat → Nat → Nat} {b : Nat → Nat → Bool} {e now : Nat} (hv : Cv c) : Cv (tkC c b e now) := Cv_c (fun i hi => tkC_r (by omega) (by omega)) hv
theorem Cfg_us {c : Nat → Nat → Nat} {b : Nat → Nat → Bool} {e : Nat} (h : Cfg c b) : Cfg c (usB b e) := by
  have e0 : ∀ s, usB b e 0 s = b 0 s := fun s => congrFun (us_r (by omega)) s
  obtain ⟨h1, h2, h3, h4⟩ := h
  refine ⟨fun s u1 u2 u3 => ?_, fun s t u1 u2 u3 u4 u5 u6 => ?_, fun p hp u1 => ?_, h4⟩
  · rw [e0] at u3 ⊢
    exact h1 s u1 u2 u3
  · rw [e0] at u5 u6
    exact h2 s t u1 u2 u3 u4 u5 u6
  · simp only [e0] at u1 ⊢
    exact h3 p hp u1
theorem tk_G {c : Nat → Nat → Nat} {b : Nat → Nat → Bool} {e : Nat} (hv : Cv c) : GoA (tk2 c b e) (doE c e) (tkg c b e) := by
  have := GoA_N (c := tk2 c b e) (e := e) (tk2_v hv) _ (Nat.le_refl _)
  rw [doE_c (c := c) (c' := tk2 c b e) (fun i hi => tk2_r (by omega))] at this
  exact this
theorem cf_take {c : Nat → Nat → Nat} {b : Nat → Nat → Bool} {e now : Nat} (hv : Cv c) (h : Cfg c b) (hd : doE c e = 0 ∨ b 0 (doE c e) = true) : Cfg (tkC c b e now) (tkB c b e) ∧ ∀ s, s ≤ c 0 0 → chE (tk2 c b e) (tkm c b e) (fun s => if exB (c 1) (c 3) (usB b e 0) (doE c e) s = true then 0 else chK c (usB b e) s) s = chK (tkC c b e now) (tkB c b e) s := by
  have e0 : usB b e 0 = b 0 := us_r (by omega)
  exact cf_step (g := tkg c b e) (now := now) hv.1 (Cfg_D (Cfg_us h)) doE_le (do_k0 hv) (by rw [e0]; exact hd) rfl (tk_G hv)
theorem c_go1 {β : Type} {fu : Nat} {A : mwM} {L : mwL} {k e now : Nat} {c : Nat → Nat → Nat} {b : Nat → Nat → Bool} {va : Nat → Int32} {D : Nat → Int64} {x : Nat → Int32} {K : mwM → mwL → Option β} {Q : β → Prop} (hf : 601 ≤ fu) (hv : Cv c) (hc : Cfg c b) (h : ReC k A L c b va D x) (he1 : 1 ≤ e) (he : e ≤ c 0 1) (h5e : c 2 (c 5 e) ≠ 5) (hd : doE c e = 0 ∨ b 0 (doE c e) = true) (hnow : A k 12 = sI now) (hK : ∀ A' L', ReC k A' L' (tkC c b e now) (tkB c b e) va (tkD c b va e D) x → (∀ a y, ¬ (k + 7 ≤ a ∧ a ≤ k + 17) → a ≠ k + 26 → A' a y = A a y) → (∀ a, a ≠ k + 34 → L' a = L a) → wq (K A' L') Q) : wq (mb2 (DX2_leaveAll fu k (sI (doE c e)) (mset A (k + 26) e (A (k + 26) e ||| 1)) L) (fun M12 L13 => mb2 (DX2_doActs fu k 2 (sI e) M12 L13) (fun M14 L15 => mb2 (DX2_aim fu k (sI e) (sI (doE c e)) M14 L15) (fun M16 L17 => mb2 (DX2_enterAll fu k (sI (doE c e)) M16 L17) (fun M18 L19 => K M18 L19))))) Q := by
  have hT := hv.1
  have hE4 := hv.2.1.1
  have hN := hT.1
  have e0 : usB b e 0 = b 0 := us_r (by omega)
  -- seen
  have hB : ReC k (mset A (k + 26) e (A (k + 26) e ||| 1)) L c (usB b e) va D x := by
    obtain ⟨j1, j2, j3, j4, j5, j6, j7, j8⟩ := h
    have hK2 : ∀ s, chK c (usB b e) s = chK c b s := by
      intro s
      unfold chK
      rw [e0]
    unfold ReC ReC'
    rw [us_r (r := 0) (by omega), us_r (r := 1) (by omega), us_r (r := 2) (by omega), us_r (r := 4) (by omega), us_r (r := 5) (by omega), us_r (r := 6) (by omega)]
    refine ⟨TrC_f j1 (mset_k (by omega)) (fun a s u1 u2 => mset_k (by omega)), ?_, ?_, ?_, ?_, ?_, ?_, ?_⟩
    · refine ⟨?_, fun e u1 u2 => ?_⟩
      · simp (disch := omega) only [mset_n]; exact j2.1
      · simp (disch := omega) only [mset_n]; exact j2.2 e u1 u2
    · refine ⟨?_, fun i hi => ?_⟩
      · simp (disch := omega) only [mset_n]; exact j3.1
      · simp (disch := omega) only [mset_n]; exact j3.2 i hi
    · simp (disch := omega) only [mset_n]; exact j4
    · intro s hs
      rw [hK2]
      simp (disch := omega) only [mset_n]; exact j5 s hs
    · intro s u1 hs
      simp (disch := omega) only [mset_n]; exact j6 s u1 hs
    · refine ⟨fun i w hw => ?_, fun i w hw => ?_⟩
      · simp (disch := omega) only [mset_n]; exact j7.1 i w hw
      · simp (disch := omega) only [mset_n]; exact j7.2 i w hw
    · intro j u1 u2
      unfold usB
      by_cases hq : j = e
      · subst hq
        rw [mset_s, if_pos ⟨rfl, rfl⟩, j8 j u1 u2, sn_u]
      · rw [mset_j hq, if_neg (fun z => hq z.2)]
        exact j8 j u1 u2
  refine wq_b2 (c_leaveAll hf hv hB doE_le (cf_hz (Cfg_us hc))) ?_
  rintro M1 L1 ⟨y1, y2, y3⟩
  dsimp only at y1 y2 y3
  have hv2 := tk2_v (b := b) (e := e) hv
  have y1' : ReX (fun s => if exB (c 1) (c 3) (usB b e 0) (doE c e) s = true then 0 else chK c (usB b e) s) k M1 L1 (tk2 c b e) (lvB c (usB b e) (doE c e)) va (alo (exB (c 1) (c 3) (usB b e 0) (doE c e)) (acD c va 1) (faL (c 3) (c 0 0) 41) D) x := y1
  obtain ⟨j1, j2, j3, j4, j5, j6, j7, j8⟩ := y1'
  refine wq_b2 (c_doActs (w := 2) (o := e) (by omega) hv2.2.2.1 j3 (by omega) (by omega)) ?_
  rintro M2 L2 ⟨z1, z2, z3⟩
  dsimp only at z1 z2 z3
  subst z1
  have edo : doE (tk2 c b e) e = doE c e := doE_c (fun i hi => tk2_r (by omega))
  have am := c_aim (fu := fu) (L := L2) (e := e) (by omega) hv2 j1 j2 (by rw [tk2_r (by omega)]; exact he) (fun _ => by rw [tk2_r (by omega), tk2_r (by omega)]; exact h5e) (fun z => by omega)
  rw [edo] at am
  refine wq_b2 am ?_
  rintro M3 L3 ⟨w1, ⟨P, w2, w3⟩, w4⟩
  dsimp only at w1 w2 w3 w4
  subst w1
  rw [if_neg (by omega)] at w2 w3
  have hX3 : ReX (fun s => if exB (c 1) (c 3) (usB b e 0) (doE c e) s = true then 0 else chK c (usB b e) s) k M3 L3 (tk2 c b e) (lvB c (usB b e) (doE c e)) va (acD (tk2 c b e) va 2 e (alo (exB (c 1) (c 3) (usB b e 0) (doE c e)) (acD c va 1) (faL (c 3) (c 0 0) 41) D)) x := by
    refine ⟨TrC_f j1 (w4 _ _ (by omega) (by omega)) (fun a s u1 u2 => w4 _ _ (by omega) (by omega)), ?_, ?_, ?_, ?_, ?_, ?_, ?_⟩
    · refine ⟨?_, fun e u1 u2 => ?_⟩
      · simp (disch := omega) only [w4]; exact j2.1
      · simp (disch := omega) only [w4]; exact j2.2 e u1 u2
    · refine ⟨?_, fun i hi => ?_⟩
      · simp (disch := omega) only [w4]; exact j3.1
      · simp (disch := omega) only [w4]; exact j3.2 i hi
    · simp (disch := omega) only [w4]
      refine ⟨j4.1, j4.2.1, j4.2.2.1, j4.2.2.2.1, j4.2.2.2.2.1, ?_⟩
      rw [z2, j4.2.2.2.2.2]
      rfl
    · intro s hs
      simp (disch := omega) only [w4]; exact j5 s hs
    · intro s u1 hs
      simp (disch := omega) only [w4]; exact j6 s u1 hs
    · refine ⟨fun i w hw => ?_, fun i w hw => ?_⟩
      · simp (disch := omega) only [w4]; exact j7.1 i w hw
      · simp (disch := omega) only [w4]; exact j7.2 i w hw
    · intro j u1 u2
      simp (disch := omega) only [w4]; exact j8 j u1 u2
  have hH2 : HiV (tk2 c b e) := lv_HiV hT hc.2.2.2
  refine wq_b2 (c_enterAll (now := now) hf hv2 hX3 (tk_G hv) w2 w3 (by rw [tk2_r (by omega)]; exact doE_le) (HiV_le hH2) ?_) ?_
  · rw [w4 _ _ (by omega) (by omega), y2 _ _ (by omega) (by omega), mset_k (by omega)]; exact hnow
  rintro M4 L4 ⟨v1, v2, v3⟩
  dsimp only at v1 v2 v3
  refine hK M4 L4 ?_ (fun a y u1 u2 => ?_) (fun a u => ?_)
  · rw [ReC_X]
    refine ReX_ch v1 (fun s hs => ?_)
    have hs2 : s ≤ tkC c b e now 0 0 := hs
    rw [tkC_r (by omega) (by omega)] at hs2
    exact (cf_take hv hc hd).2 s hs2
  · rw [v2 _ _ (by omega), w4 _ _ (by omega) (by omega), y2 _ _ (by omega) (by omega), mset_k u2]
  · rw [v3 _ u, z3 _ u, y3 _ u]
/-! a step: several edges -/
def stL (va : Nat → Int32) (now : Nat) : List Nat → (Nat → Nat → Nat) × (Nat → Nat → Bool) × (Nat → Int64) → (Nat → Nat → Nat) × (Nat → Nat → Bool) × (Nat → Int64)
  | [], z => z
  | e :: l, z => stL va now l (tkC z.1 z.2.1 e now, tkB z.1 z.2.1 e, tkD z.1 z.2.1 va e z.2.2)
theorem st_app {va : Nat → Int32} {now : Nat} : ∀ (l1 l2 : List Nat) (z), stL va now (l1 ++ l2) z = stL va now l2 (stL va now l1 z) := by
  intro l1
  induction l1 with
  | nil => intro l2 z; rfl
  | cons e l ih => intro l2 z; exact ih l2 _
def TkO (c : Nat → Nat → Nat) (b : Nat → Nat → Bool) (l : List Nat) : Prop := (∀ e, e ∈ l → 1 ≤ e ∧ e ≤ c 0 1 ∧ c 2 (c 5 e) ≠ 5 ∧ (doE c e = 0 ∨ b 0 (doE c e) = true)) ∧ List.Pairwise (fun e1 e2 => insB (c 1) (c 3) (doE c e1) (doE c e2) = false) l
theorem Tk_S {c : Nat → Nat → Nat} {b : Nat → Nat → Bool} {e now : Nat} {l : List Nat} (h : TkO c b (e :: l)) : TkO (tkC c b e now) (tkB c b e) l := by
  obtain ⟨h1, h2⟩ := h
  rw [List.pairwise_cons] at h2
  have edo : ∀ j, doE (tkC c b e now) j = doE c j := fun j => doE_c (fun i hi => tkC_r (by omega) (by omega))
  refine ⟨fun j hj => ?_, ?_⟩
  · obtain ⟨u1, u2, u3, u4⟩ := h1 j (List.mem_cons_of_mem _ hj)
    rw [edo, tkC_r (i := 0) (by omega) (by omega), tkC_r (i := 2) (by omega) (by omega), tkC_r (i := 5) (by omega) (by omega)]
    refine ⟨u1, u2, u3, ?_⟩
    rcases u4 with v | v
    · exact Or.inl v
    · right
      unfold tkB enb lvB
      rw [if_pos rfl, if_pos rfl, us_r (by omega), v, h2.1 j hj]
      rfl
  · refine List.Pairwise.imp (fun {x y} hxy => ?_) h2.2
    rw [edo, edo, tkC_r (i := 1) (by omega) (by omega), tkC_r (i := 3) (by omega) (by omega)]
    exact hxy
def InZ (z : (Nat → Nat → Nat) × (Nat → Nat → Bool) × (Nat → Int64)) (l : List Nat) : Prop := Cv z.1 ∧ Cfg z.1 z.2.1 ∧ TkO z.1 z.2.1 l
theorem In_S {va : Nat → Int32} {now e : Nat} {z : (Nat → Nat → Nat) × (Nat → Nat → Bool) × (Nat → Int64)} {l : List Nat} (h : InZ z (e :: l)) : InZ (tkC z.1 z.2.1 e now, tkB z.1 z.2.1 e, tkD z.1 z.2.1 va e z.2.2) l := by
  obtain ⟨h1, h2, h3⟩ := h
  exact ⟨tk_v h1, (cf_take h1 h2 (h3.1 e (List.mem_cons_self ..)).2.2.2).1, Tk_S h3⟩
/-- the class goes on -/
theorem c_goOn {fu : Nat} {A : mwM} {L : mwL} {k now : Nat} {z : (Nat → Nat → Nat) × (Nat → Nat → Bool) × (Nat → Int64)} {va : Nat → Int32} {x : Nat → Int32} {T : List Nat} (hf : 601 ≤ fu) (hz : InZ z T) (h : ReC k A L z.1 z.2.1 va z.2.2 x) (hD : ∀ e, e ∈ T → A (k + 25) e = sI (doE z.1 e)) (hR : LiZ A (k + 27) T) (hTl : T.length ≤ 400) (hnow : A k 12 = sI now) : wq (DX2_goOn fu k (sI T.length) A L) (fun w => InZ (stL va now T z) [] ∧ ReC k w.1 w.2 (stL va now T z).1 (stL va now T z).2.1 va (stL va now T z).2.2 x ∧ (∀ a y, ¬ (k + 7 ≤ a ∧ a ≤ k + 17) → a ≠ k + 26 → w.1 a y = A a y) ∧ ∀ a, a ≠ k + 34 → w.2 a = L a) := by
  unfold DX2_goOn
  refine wq_for (body := fun r s => fX2_goOn_i2 fu k (sI T.length) r s.1 s.2.1 s.2.2) (fun i (w : mwM × mwL) => (sI i, w.1, w.2)) (fun i w => InZ (stL va now (T.take i) z) (T.drop i) ∧ (∀ e, doE (stL va now (T.take i) z).1 e = doE z.1 e) ∧ ReC k w.1 w.2 (stL va now (T.take i) z).1 (stL va now (T.take i) z).2.1 va (stL va now (T.take i) z).2.2 x ∧ (∀ a y, ¬ (k + 7 ≤ a ∧ a ≤ k + 17) → a ≠ k + 26 → w.1 a y = A a y) ∧ ∀ a, a ≠ k + 34 → w.2 a = L a) T.length ?_ ?_ T.length 0 (A, L) fu (by omega) (by omega) ⟨hz, fun _ => rfl, h, fun _ _ _ _ => rfl, fun _ _ => rfl⟩
  · rintro i ⟨a, l⟩ r hi ⟨p1, p5, p2, p3, p4⟩ ih
    dsimp only at p2 p3 p4
    show wq (fX2_goOn_i2 fu k (sI T.length) r (sI i) a l) _
    have key := fun (X : mwM) (Y : mwL) => ih (X, Y)
    dsimp only at key
    have hget := List.getElem?_eq_getElem hi
    rw [List.drop_eq_getElem_cons hi] at p1
    rw [tk_S hi, st_app] at key
    have hmem : T[i] ∈ T := List.getElem_mem hi
    generalize T[i] = e at *
    generalize stL va now (T.take i) z = y at *
    have st1 : stL va now [e] y = (tkC y.1 y.2.1 e now, tkB y.1 y.2.1 e, tkD y.1 y.2.1 va e y.2.2) := rfl
    rw [st1] at key
    dsimp only at key
    obtain ⟨q1, q2, q3⟩ := p1
    obtain ⟨u1, u2, u3, u4⟩ := q3.1 e (List.mem_cons_self ..)
    have hE4 := q1.2.1.1
    have hN := q1.1.1
    have e27 : a (k + 27) i = sI e := (p3 _ _ (by omega) (by omega)).trans (hR i e hget)
    have e25 : a (k + 25) e = sI (doE y.1 e) := by
      rw [p3 _ _ (by omega) (by omega), hD e hmem, p5]
    unfold fX2_goOn_i2
    simp (disch := omega) only [e27, e25, mck_s, sI_nn, nn_s, sI_lt, sI_le, sI_eq, sI_ltl, sI_lel, sI_eql, sI_llt, sI_lle, sI_1, bI_0, bI_1, bI_n, mlet, mb3_s, mb2_s]
    rw [if_neg (by omega)]
    refine c_go1 (now := now) hf q1 q2 p2 u1 u2 u3 u4 ((p3 _ _ (by omega) (by omega)).trans hnow) ?_
    intro A' L' v1 v2 v3
    refine key A' L' ⟨In_S ⟨q1, q2, q3⟩, fun j => ?_, v1, fun a' y' w1 w2 => (v2 a' y' w1 w2).trans (p3 a' y' w1 w2), fun a' w => (v3 a' w).trans (p4 a' w)⟩
    rw [← p5 j]
    exact doE_c (fun i hi => tkC_r (by omega) (by omega))
  · rintro ⟨a, l⟩ r ⟨p1, p5, p2, p3, p4⟩
    dsimp only at p2 p3 p4
    show wq (fX2_goOn_i2 fu k (sI T.length) r (sI T.length) a l) _
    rw [List.take_length] at p1 p2
    rw [List.drop_length] at p1
    unfold fX2_goOn_i2
    rw [if_pos (by rw [sI_le (by omega) (by omega)]; exact Nat.le_refl _)]
    exact wq_some ⟨p1, p2, p3, p4⟩
/-- the reference steps -/
theorem m_stepC {fu : Nat} {M : mwM} {L : mwL} {q now : Nat} {z : (Nat → Nat → Nat) × (Nat → Nat → Bool) × (Nat → Int64)} {va : Nat → Int32} {x : Nat → Int32} {T : List Nat} (hf : 601 ≤ fu) (hz : InZ z T) (h : ReM q M L z.1 z.2.1 va z.2.2 x) (hR : LiZ M (q + 24) T) (hR2 : M q 35 = sI T.length) (hTl : T.length ≤ 400) : wq (DX13_step fu q (sL now) M L) (fun w => w.1 = sI T.length ∧ InZ (stL va now T z) [] ∧ ReM q w.2.1 w.2.2 (stL va now T z).1 (stL va now T z).2.1 va (stL va now T z).2.2 x ∧ (∀ a y, ¬ (q ≤ a ∧ a ≤ q + 29) → w.2.1 a y = M a y) ∧ ∀ a, a ≠ q + 6 → a ≠ q + 21 → w.2.2 a = L a) := by
  unfold DX13_step
  refine wq_for (body := fun r s => fX13_step_i2 fu q (sL now) r s.1 s.2.1 s.2.2) (fun i (w : mwM × mwL) => (sI i, w.1, w.2)) (fun i w => InZ (stL va now (T.take i) z) (T.drop i) ∧ ReM q w.1 w.2 (stL va now (T.take i) z).1 (stL va now (T.take i) z).2.1 va (stL va now (T.take i) z).2.2 x ∧ (∀ a y, ¬ (q ≤ a ∧ a ≤ q + 23) → ¬ (q + 25 ≤ a ∧ a ≤ q + 29) → w.1 a y = M a y) ∧ w.1 q 35 = M q 35 ∧ ∀ a, a ≠ q + 6 → a ≠ q + 21 → w.2 a = L a) T.length ?_ ?_ T.length 0 (M, L) fu (by omega) (by omega) ⟨hz, h, fun _ _ _ _ => rfl, rfl, fun _ _ _ => rfl⟩
  · rintro i ⟨a, l⟩ r hi ⟨p1, p2, p3, p5, p4⟩ ih
    dsimp only at p2 p3 p4 p5
    show wq (fX13_step_i2 fu q (sL now) r (sI i) a l) _
    have key := fun (X : mwM) (Y : mwL) => ih (X, Y)
    dsimp only at key
    have hget := List.getElem?_eq_getElem hi
    rw [List.drop_eq_getElem_cons hi] at p1
    rw [tk_S hi, st_app] at key
    generalize T[i] = e at *
    generalize stL va now (T.take i) z = y at *
    have st1 : stL va now [e] y = (tkC y.1 y.2.1 e now, tkB y.1 y.2.1 e, tkD y.1 y.2.1 va e y.2.2) := rfl
    rw [st1] at key
    dsimp only at key
    obtain ⟨q1, q2, q3⟩ := p1
    obtain ⟨u1, u2, u3, u4⟩ := q3.1 e (List.mem_cons_self ..)
    have e24 : a (q + 24) i = sI e := (p3 _ _ (by omega) (by omega)).trans (hR i e hget)
    have e35 : a q 35 = sI T.length := p5.trans hR2
    unfold fX13_step_i2
    simp (disch := omega) only [e24, e35, mck_s, sI_nn, nn_s, sI_lt, sI_le, sI_eq, sI_ltl, sI_lel, sI_eql, sI_llt, sI_lle, sI_1, bI_0, bI_1, bI_n, mlet, mb3_s, mb2_s]
    rw [if_neg (by omega)]
    refine wq_b2 (m_take (now := now) hf q1 q2.2.2.2 p2 u1 u2) ?_
    rintro M1 L1 ⟨v1, v2, v3, v4⟩
    dsimp only at v1 v2 v3 v4
    exact key M1 L1 ⟨In_S ⟨q1, q2, q3⟩, v1, fun a' y' w1 w2 => (v2 a' y' w1 w2).trans (p3 a' y' w1 w2), v3.trans p5, fun a' w1 w2 => (v4 a' w1 w2).trans (p4 a' w1 w2)⟩
  · rintro ⟨a, l⟩ r ⟨p1, p2, p3, p5, p4⟩
    dsimp only at p2 p3 p4 p5
    show wq (fX13_step_i2 fu q (sL now) r (sI T.length) a l) _
    rw [List.take_length] at p1 p2
    rw [List.drop_length] at p1
    have e35 : a q 35 = sI T.length := p5.trans hR2
    unfold fX13_step_i2
    rw [e35, if_pos (by rw [sI_le (by omega) (by omega)]; exact Nat.le_refl _)]
    exact wq_some ⟨rfl, p1, p2, fun a' y u => p3 a' y (by omega) (by omega), p4⟩
