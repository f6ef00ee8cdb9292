/-! an event happens: the class, from the start on -/
theorem tkB_6 {c : Nat → Nat → Nat} {b : Nat → Nat → Bool} {e : Nat} : tkB c b e 6 = b 6 := by
  funext s
  unfold tkB enb lvB usB
  rw [if_neg (by omega), if_neg (by omega), if_neg (by omega), if_neg (by omega), if_neg (by omega)]
theorem st_6 {va : Nat → Int32} {now : Nat} : ∀ (l : List Nat) (z), (stL va now l z).2.1 6 = z.2.1 6 := by
  intro l
  induction l with
  | nil => intro z; rfl
  | cons e l ih =>
    intro z
    exact (ih (tkC z.1 z.2.1 e now, tkB z.1 z.2.1 e, tkD z.1 z.2.1 va e z.2.2)).trans (tkB_6 (c := z.1) (b := z.2.1) (e := e))
theorem se_6 {v : Nat} {w : ZT} : (seZ v w).1.2.1 6 = w.1.2.1 6 := by
  funext s
  show seb w.1.1 w.1.2.1 w.1.2.2 v (w.1.1 0 1) 6 s = w.1.2.1 6 s
  unfold seb
  rw [if_neg (by omega), if_neg (by omega)]
theorem g_6 {va : Nat → Int32} {now v : Nat} {w : ZT} : (gZ va now v w).1.2.1 6 = w.1.2.1 6 := (st_6 _ _).trans se_6
theorem ch_6 {va : Nat → Int32} {now : Nat} : ∀ n w, (chN va now n w).2.1.2.1 6 = w.1.2.1 6 := by
  intro n
  induction n with
  | zero => intro w; exact se_6
  | succ n ih =>
    intro w
    have e0 : chN va now (n + 1) w = if (tkZ 0 w).length = 0 then (true, seZ 0 w) else chN va now n (gZ va now 0 w) := rfl
    rw [e0]
    split
    · exact se_6
    · rw [ih]; exact g_6
theorem sp_6 {s : Nat} {w : ZT} : (spZ s w).1.2.1 6 = w.1.2.1 6 := by
  funext j
  show (if (6 : Nat) = 1 ∧ j = s then true else w.1.2.1 6 j) = w.1.2.1 6 j
  rw [if_neg (by omega)]
theorem sp2_6 {va : Nat → Int32} {t : Nat} {w : ZT} : (sp2 va t w).2.1.2.1 6 = w.1.2.1 6 := by
  unfold sp2
  rw [ch_6]
  exact (g_6 (w := spZ (duZ t w) w)).trans sp_6
theorem spL_6 {va : Nat → Int32} {t : Nat} : ∀ n w, (spL va t n w).2.1.2.1 6 = w.1.2.1 6 := by
  intro n
  induction n with
  | zero => intro w; rfl
  | succ n ih =>
    intro w
    have e0 : spL va t (n + 1) w = if duZ t w = 0 then (true, w) else if (sp2 va t w).1 = true then spL va t n (sp2 va t w).2 else (false, (sp2 va t w).2) := rfl
    rw [e0]
    split
    · rfl
    · split
      · rw [ih]; exact sp2_6
      · exact sp2_6
theorem ev2_I {va : Nat → Int32} {e t : Nat} {u : ZT} (hu : InW u) (hS : S14 u.1.1) (ht : t ≤ 20000) : InW (ev2 va e t u).2 ∧ S14 (ev2 va e t u).2.1.1 ∧ (ev2 va e t u).2.1.2.1 6 = u.1.2.1 6 := by
  have h1 := spL_In (va := va) ht 1000 u hu hS
  have h6 := spL_6 (va := va) (t := t) 1000 u
  unfold ev2
  split
  · split
    · exact ⟨h1.1, h1.2, h6⟩
    · have h2 : InW (fiZ va e t (spL va t 1000 u).2) := In_g (w := (spL va t 1000 u).2) h1.1
      have h3 : S14 (fiZ va e t (spL va t 1000 u).2).1.1 := S14_g (w := (spL va t 1000 u).2) h1.2 ht
      have h4 := ch_In (va := va) ht (u.1.1 0 3) _ h2 h3
      refine ⟨h4.1, h4.2, ?_⟩
      rw [ch_6]
      exact (g_6 (w := (spL va t 1000 u).2)).trans h6
  · exact ⟨h1.1, h1.2, h6⟩
theorem stZ_6 {va : Nat → Int32} {t : Nat} {w : ZT} : (stZ va t w).1.2.1 6 0 = true := by
  show enb (sta w.1.2.1) (cmB w.1.1 0 (fun _ _ => false)) 6 0 = true
  unfold enb
  rw [if_neg (by omega), if_neg (by omega), if_neg (by omega)]
  exact sta_6
theorem WI_of {w : ZT} (h1 : InW w) (h2 : S14 w.1.1) (h3 : w.1.2.1 6 0 = true) : WI w := ⟨h1.1, h2, fun _ => h1.2, fun z => by rw [h3] at z; cases z⟩
theorem ev1_I {va : Nat → Int32} {e t : Nat} {w : ZT} (h : WI w) (ht : t ≤ 20000) : WI (ev1 va e t w).2 := by
  unfold ev1
  by_cases hs : w.1.2.1 6 0 = true
  · rw [if_pos hs]
    have := ev2_I (va := va) (e := e) ⟨h.1, h.2.2.1 hs⟩ h.2.1 ht
    exact WI_of this.1 this.2.1 (by rw [this.2.2]; exact hs)
  · rw [if_neg hs]
    have hs' : w.1.2.1 6 0 = false := by simpa using hs
    obtain ⟨s1, s2, _⟩ := st_cf (va := va) h hs' ht
    have h4 := ch_In (va := va) ht (w.1.1 0 3) _ s1 s2
    have h6 : (chN va t (w.1.1 0 3) (stZ va t w)).2.1.2.1 6 0 = true := by rw [ch_6]; exact stZ_6
    split
    · have := ev2_I (va := va) (e := e) h4.1 h4.2 ht
      exact WI_of this.1 this.2.1 (by rw [this.2.2]; exact h6)
    · exact WI_of h4.1 h4.2 h6
theorem stZ_r {va : Nat → Int32} {t i : Nat} {w : ZT} (h : i ≠ 14) : (stZ va t w).1.1 i = w.1.1 i := by
  funext j
  show ent w.1.1 (cmB w.1.1 0 (fun _ _ => false)) t i j = w.1.1 i j
  unfold ent
  rw [if_neg (fun z => h z.1)]
theorem c_happen {fu : Nat} {A : mwM} {L : mwL} {k e t : Nat} {va : Nat → Int32} {w : ZT} (hf : 1100 ≤ fu) (hw : WI w) (h : RcW k A L va w) (ht : t ≤ 20000) (he : e < 1000) : wq (DX2_happen fu k (sI e) (sI t) A L) (fun z => z.1 = bI (ev1 va e t w).1 ∧ RcW k z.2.1 z.2.2 va (ev1 va e t w).2 ∧ frC k A z.2.1 ∧ ∀ a, a ≠ k + 34 → z.2.2 a = L a) := by
  have hv := hw.1
  have hN := hv.1.1
  have e16 : A k 16 = bI (w.1.2.1 6 0) := h.1.2.2.2.1.2.2.2.2.1
  unfold DX2_happen
  rw [e16]
  cases hs : w.1.2.1 6 0 with
  | true =>
    rw [if_neg (by decide)]
    have e1 : ev1 va e t w = ev2 va e t w := by
      unfold ev1
      rw [if_pos hs]
    rw [e1]
    exact c_ev2 hf ⟨hv, hw.2.2.1 hs⟩ hw.2.1 h ht he
  | false =>
    rw [if_pos bI_f]
    have e1 : ev1 va e t w = if (chN va t (w.1.1 0 3) (stZ va t w)).1 = true then ev2 va e t (chN va t (w.1.1 0 3) (stZ va t w)).2 else chN va t (w.1.1 0 3) (stZ va t w) := by
      unfold ev1
      rw [hs, if_neg (by decide)]
    obtain ⟨s1, s2, s3⟩ := st_cf (va := va) hw hs ht
    obtain ⟨hb0, hh⟩ := hw.2.2.2 hs
    rw [e1]
    simp only [mlet]
    -- started
    have hB : ReX (chK w.1.1 (sta w.1.2.1)) k (mset (mset A k 16 1) k 12 (sI t)) L w.1.1 (sta w.1.2.1) va w.1.2.2 w.2 := by
      obtain ⟨⟨j1, j2, j3, j4, j5, j6, j7, j8⟩, hD⟩ := h
      refine ⟨TrC_f j1 (by simp (disch := omega) only [mset_n]) (fun a s u1 u2 => by simp (disch := omega) only [mset_n]), ?_, ?_, ?_, ?_, ?_, ?_, ?_⟩
      · refine ⟨?_, fun e u1 u2 => ?_⟩
        · simp (disch := omega) only [mset_n]; exact j2.1
        · simp (disch := omega) only [mset_n]; exact j2.2 e u1 u2
      · refine ⟨?_, fun i hi => ?_⟩
        · simp (disch := omega) only [mset_n]; exact j3.1
        · simp (disch := omega) only [mset_n]; exact j3.2 i hi
      · refine ⟨?_, ?_, ?_, ?_, ?_, j4.2.2.2.2.2⟩
        · simp (disch := omega) only [mset_n]; exact j4.1
        · simp (disch := omega) only [mset_n]; exact j4.2.1
        · simp (disch := omega) only [mset_n]; exact j4.2.2.1
        · simp (disch := omega) only [mset_n]; exact j4.2.2.2.1
        · rw [mset_j (by omega), mset_s, sta_6]; rfl
      · intro s hs2
        have := j5 s hs2
        have eK : chK w.1.1 (sta w.1.2.1) s = chK w.1.1 w.1.2.1 s := by
          unfold chK
          rw [sta_r (by omega)]
        rw [eK]
        simp (disch := omega) only [mset_n]; exact this
      · intro s u1 hs2
        have := j6 s u1 hs2
        rw [sta_r (r := 0) (by omega), sta_r (r := 1) (by omega), sta_r (r := 2) (by omega)]
        simp (disch := omega) only [mset_n]; exact this
      · refine ⟨fun i v hv => ?_, fun i v hv => ?_⟩
        · simp (disch := omega) only [mset_n]; exact j7.1 i v hv
        · simp (disch := omega) only [mset_n]; exact j7.2 i v hv
      · intro e u1 u2
        rw [sta_r (r := 3) (by omega), sta_r (r := 4) (by omega), sta_r (r := 5) (by omega)]
        simp (disch := omega) only [mset_n]; exact j8 e u1 u2
    have hDo : DoC k (mset (mset A k 16 1) k 12 (sI t)) w.1.1 := DoC_c h.2 (fun _ _ => rfl) (fun e => by simp (disch := omega) only [mset_n])
    refine wq_b2 (c_aim0 (by omega) hv hB.1) ?_
    rintro M1 L1 ⟨y1, y2, y3⟩
    dsimp only at y1 y2 y3
    subst y1
    have hB1 : ReX (chK w.1.1 (sta w.1.2.1)) k M1 L1 w.1.1 (sta w.1.2.1) va w.1.2.2 w.2 := by
      obtain ⟨j1, j2, j3, j4, j5, j6, j7, j8⟩ := hB
      refine ⟨TrC_f j1 (y3 _ _ (by omega) (by omega)) (fun a s u1 u2 => y3 _ _ (by omega) (by omega)), ?_, ?_, ?_, ?_, ?_, ?_, ?_⟩
      · refine ⟨?_, fun e u1 u2 => ?_⟩
        · simp (disch := omega) only [y3]; exact j2.1
        · simp (disch := omega) only [y3]; exact j2.2 e u1 u2
      · refine ⟨?_, fun i hi => ?_⟩
        · simp (disch := omega) only [y3]; exact j3.1
        · simp (disch := omega) only [y3]; exact j3.2 i hi
      · simp (disch := omega) only [y3]; exact j4
      · intro s hs2
        simp (disch := omega) only [y3]; exact j5 s hs2
      · intro s u1 hs2
        simp (disch := omega) only [y3]; exact j6 s u1 hs2
      · refine ⟨fun i v hv => ?_, fun i v hv => ?_⟩
        · simp (disch := omega) only [y3]; exact j7.1 i v hv
        · simp (disch := omega) only [y3]; exact j7.2 i v hv
      · intro e u1 u2
        simp (disch := omega) only [y3]; exact j8 e u1 u2
    have ck0 : CkP w.1.1 (fun _ _ => false) (fun _ => 0) := fun p hp => ⟨Nat.zero_le _, fun q => absurd rfl q, fun _ s hs => by cases hs⟩
    have n1 : M1 k 12 = sI t := by rw [y3 _ _ (by omega) (by omega), mset_s]
    refine wq_b2 (show wq (DX2_enterAll fu k 0 M1 L1) _ from c_enterAll (d := 0) (now := t) (by omega) hv hB1 GoA_0 y2 ck0 (Nat.zero_le _) (fun s hs2 => by rw [hh s hs2]; exact Nat.zero_le _) n1) ?_
    rintro M2 L2 ⟨z1, z2, z3⟩
    dsimp only at z1 z2 z3
    have hr2 : RcW k M2 L2 va (stZ va t w) := by
      refine ⟨?_, DoC_c hDo (fun i hi => stZ_r (by omega)) (fun e => ?_)⟩
      · rw [ReC_X]
        have z1' : ReX (chE w.1.1 (cmB w.1.1 0 (fun _ _ => false)) (chK w.1.1 (sta w.1.2.1))) k M2 L2 (stZ va t w).1.1 (stZ va t w).1.2.1 va (stZ va t w).1.2.2 (stZ va t w).2 := by
          unfold stZ
          dsimp only
          exact z1
        refine ReX_ch z1' (fun s hs2 => ?_)
        rw [stZ_r (by omega)] at hs2
        exact s3 s hs2
      · rw [z2 _ _ (by omega), y3 _ _ (by omega) (by omega)]
    have n2 : M2 k 12 = sI t := by rw [z2 _ _ (by omega)]; exact n1
    refine wq_b3 (c_chain (now := t) (w := stZ va t w) (by omega) s1 hr2 n2) ?_
    rintro r3 M3 L3 ⟨v1, v2, v3, v4, v5⟩
    dsimp only at v1 v2 v3 v4 v5
    rw [stZ_r (by omega)] at v1 v2 v3
    have fr3 : frC k A M3 := by
      intro b y u1 u2 u3 u4
      rw [v4 _ _ u1 u2 u3 (by omega), z2 _ _ (by omega), y3 _ _ (by omega) (by omega), mset_n (by omega), mset_n (by omega)]
    have fl3 : ∀ b, b ≠ k + 34 → L3 b = L1 b := fun b u1 => by rw [v5 _ u1, z3 _ u1]
    have h4 := ch_In (va := va) ht (w.1.1 0 3) _ s1 s2
    rw [v1]
    cases hok : (chN va t (w.1.1 0 3) (stZ va t w)).1 with
    | false =>
      rw [if_pos bI_f, if_neg (by decide)]
      exact wq_some ⟨by rw [hok]; rfl, v2, fr3, fl3⟩
    | true =>
      rw [if_neg (by decide), if_pos rfl]
      refine wq_mono (c_ev2 (e := e) hf v3 h4.2 v2 ht he) ?_
      rintro ⟨r4, M4, L4⟩ ⟨x1, x2, x3, x4⟩
      exact ⟨x1, x2, fun b y u1 u2 u3 u4 => (x3 b y u1 u2 u3 u4).trans (fr3 b y u1 u2 u3 u4), fun b u1 => (x4 b u1).trans (fl3 b u1)⟩
