/-! an event happens: the class, from the start on -/
theorem tkB_6 {c : Nat → Nat → Nat} {b : Nat → Nat → Bool} {e : Nat} : tkB c b e 6 = b 6 := by
  funext s
  unfold tkB enb lvB usB
  rw [if_neg (by omega), if_neg (by omega), if_neg (by omega), if_neg (by omega), if_neg (by omega)]
theorem st_6 {va : Nat → Int32} {now : Nat} : ∀ (l : List Nat) (z), (stL va now l z).2.1 6 = z.2.1 6 := by
  intro l
  induction l with
  | nil => intro z; rfl
  | cons e l ih =>
    intro z
    exact (ih (tkC z.1 z.2.1 e now, tkB z.1 z.2.1 e, tkD z.1 z.2.1 va e z.2.2)).trans (tkB_6 (c := z.1) (b := z.2.1) (e := e))
theorem se_6 {v : Nat} {w : ZT} : (seZ v w).1.2.1 6 = w.1.2.1 6 := by
  funext s
  show seb w.1.1 w.1.2.1 w.1.2.2 v (w.1.1 0 1) 6 s = w.1.2.1 6 s
  unfold seb
  rw [if_neg (by omega), if_neg (by omega)]
theorem g_6 {va : Nat → Int32} {now v : Nat} {w : ZT} : (gZ va now v w).1.2.1 6 = w.1.2.1 6 := (st_6 _ _).trans se_6
theorem ch_6 {va : Nat → Int32} {now : Nat} : ∀ n w, (chN va now n w).2.1.2.1 6 = w.1.2.1 6 := by
  intro n
  induction n with
  | zero => intro w; exact se_6
  | succ n ih =>
    intro w
    have e0 : chN va now (n + 1) w = if (tkZ 0 w).length = 0 then (true, seZ 0 w) else chN va now n (gZ va now 0 w) := rfl
    rw [e0]
    split
    · exact se_6
    · rw [ih]; exact g_6
theorem sp_6 {s : Nat} {w : ZT} : (spZ s w).1.2.1 6 = w.1.2.1 6 := by
  funext j
  show (if (6 : Nat) = 1 ∧ j = s then true else w.1.2.1 6 j) = w.1.2.1 6 j
  rw [if_neg (by omega)]
theorem sp2_6 {va : Nat → Int32} {t : Nat} {w : ZT} : (sp2 va t w).2.1.2.1 6 = w.1.2.1 6 := by
  unfold sp2
  rw [ch_6]
  exact (g_6 (w := spZ (duZ t w) w)).trans sp_6
theorem spL_6 {va : Nat → Int32} {t : Nat} : ∀ n w, (spL va t n w).2.1.2.1 6 = w.1.2.1 6 := by
  intro n
  induction n with
  | zero => intro w; rfl
  | succ n ih =>
    intro w
    have e0 : spL va t (n + 1) w = if duZ t w = 0 then (true, w) else if (sp2 va t w).1 = true then spL va t n (sp2 va t w).2 else (false, (sp2 va t w).2) := rfl
    rw [e0]
    split
    · rfl
    · split
      · rw [ih]; exact sp2_6
      · exact sp2_6
theorem ev2_I {va : Nat → Int32} {e t : Nat} {u : ZT} (hu : InW u) (hS : S14 u.1.1) (ht : t ≤ 20000) : InW (ev2 va e t u).2 ∧ S14 (ev2 va e t u).2.1.1 ∧ (ev2 va e t u).2.1.2.1 6 = u.1.2.1 6 := by
  have h1 := spL_In (va := va) ht 1000 u hu hS
  have h6 := spL_6 (va := va) (t := t) 1000 u
  unfold ev2
  split
  · split
    · exact ⟨h1.1, h1.2, h6⟩
    · have h2 : InW (fiZ va e t (spL va t 1000 u).2) := In_g (w := (spL va t 1000 u).2) h1.1
      have h3 : S14 (fiZ va e t (spL va t 1000 u).2).1.1 := S14_g (w := (spL va t 1000 u).2) h1.2 ht
      have h4 := ch_In (va := va) ht (u.1.1 0 3) _ h2 h3
      refine ⟨h4.1, h4.2, ?_⟩
      rw [ch_6]
      exact (g_6 (w := (spL va t 1000 u).2)).trans h6
  · exact ⟨h1.1, h1.2, h6⟩
theorem stZ_6 {va : Nat → Int32} {t : Nat} {w : ZT} : (stZ va t w).1.2.1 6 0 = true := by
  show enb (sta w.1.2.1) (cmB w.1.1 0 (fun _ _ => false)) 6 0 = true
  unfold enb
  rw [if_neg (by omega), if_neg (by omega), if_neg (by omega)]
  exact sta_6
theorem WI_of {w : ZT} (h1 : InW w) (h2 : S14 w.1.1) (h3 : w.1.2.1 6 0 = true) : WI w := ⟨h1.1, h2, fun _ => h1.2, fun z => by rw [h3] at z; cases z⟩
theorem ev1_I {va : Nat → Int32} {e t : Nat} {w : ZT} (h : WI w) (ht : t ≤ 20000) : WI (ev1 va e t w).2 := by
  unfold ev1
  by_cases hs : w.1.2.1 6 0 = true
  · rw [if_pos hs]
    have := ev2_I (va := va) (e := e) ⟨h.1, h.2.2.1 hs⟩ h.2.1 ht
    exact WI_of this.1 this.2.1 (by rw [this.2.2]; exact hs)
  · rw [if_neg hs]
    have hs' : w.1.2.1 6 0 = false := by simpa using hs
    obtain ⟨s1, s2, _⟩ := st_cf (va := va) h hs' ht
    have h4 := ch_In (va := va) ht (w.1.1 0 3) _ s1 s2
    have h6 : (chN va t (w.1.1 0 3) (stZ va t w)).2.1.2.1 6 0 = true := by rw [ch_6]; exact stZ_6
    split
    · have := ev2_I (va := va) (e := e) h4.1 h4.2 ht
      exact WI_of this.1 this.2.1 (by rw [this.2.2]; exact h6)
    · exact WI_of h4.1 h4.2 h6
theorem stZ_r {va : Nat → Int32} {t i : Nat} {w : ZT} (h : i ≠ 14) : (stZ va t w).1.1 i = w.1.1 i := by
  funext j
  show ent w.1.1 (cmB w.1.1 0 (fun _ _ => false)) t i j = w.1.1 i j
  unfold ent
  rw [if_neg (fun z => h z.1)]
theorem c_happen {fu : Nat} {A : mwM} {L : mwL} {k e t : Nat} {va : Nat → Int32} {w : ZT} (hf : 1100 ≤ fu) (hw : WI w) (h : RcW k A L va w) (ht : t ≤ 20000) (he : e < 1000) : wq (DX2_happen fu k (sI e) (sI t) A L) (fun z => z.1 = bI (ev1 va e t w).1 ∧ RcW k z.2.1 z.2.2 va (ev1 va e t w).2 ∧ frC k A z.2.1 ∧ ∀ a, a ≠ k + 34 → z.2.2 a = L a) := by
  have hv := hw.1
  have hN := hv.1.1
  have e16 : A k 16 = bI (w.1.2.1 6 0) := h.1.2.2.2.1.2.2.2.2.1
  unfold DX2_happen
  rw [e16]
  cases hs : w.1.2.1 6 0 with
  | true =>
    rw [if_neg (by decide)]
    have e1 : ev1 va e t w = ev2 va e t w := by
      unfold ev1
      rw [if_pos hs]
    rw [e1]
    exact c_ev2 hf ⟨hv, hw.2.2.1 hs⟩ hw.2.1 h ht he
  | false =>
    rw [if_pos bI_f]
    have e1 : ev1 va e t w = if (chN va t (w.1.1 0 3) (stZ va t w)).1 = true then ev2 va e t (chN va t (w.1.1 0 3) (stZ va t w)).2 else chN va t (w.1.1 0 3) (stZ va t w) := by
      unfold ev1
      rw [hs, if_neg (by decide)]
    obtain ⟨s1, s2, s3⟩ := st_cf (va := va) hw hs ht
    obtain ⟨hb0, hh⟩ := hw.2.2.2 hs
    rw [e1]
    simp only [mlet]
    -- started
    have hB : ReX (chK w.1.1 (sta w.1.2.1)) k (mset (mset A k 16 1) k 12 (sI t)) L w.1.1 (sta w.1.2.1) va w.1.2.2 w.2 := by
      obtain ⟨⟨j1, j2, j3, j4, j5, j6, j7, j8⟩, hD⟩ := h
      refine ⟨TrC_f j1 (by simp (disch := omega) only [mset_n]) (fun a s u1 u2 => by simp (disch := omega) only [mset_n]), ?_, ?_, ?_, ?_, ?_, ?_, ?_⟩
      · refine ⟨?_, fun e u1 u2 => ?_⟩
        · simp (disch := omega) only [mset_n]; exact j2.1
        · simp (disch := omega) only [mset_n]; exact j2.2 e u1 u2
      · refine ⟨?_, fun i hi => ?_⟩
        · simp (disch := omega) only [mset_n]; exact j3.1
        · simp (disch := omega) only [mset_n]; exact j3.2 i hi
      · refine ⟨?_, ?_, ?_, ?_, ?_, j4.2.2.2.2.2⟩
        · simp (disch := omega) only [mset_n]; exact j4.1
        · simp (disch := omega) only [mset_n]; exact j4.2.1
        · simp (disch := omega) only [mset_n]; exact j4.2.2.1
        · simp (disch := omega) only [mset_n]; exact j4.2.2.2.1
        · rw [mset_j (by omega), mset_s, sta_6]; rfl
      · intro s hs2
        have := j5 s hs2
        have eK : chK w.1.1 (sta w.1.2.1) s = chK w.1.1 w.1.2.1 s := by
          unfold chK
          rw [sta_r (by omega)]
        rw [eK]
        simp (disch := omega) only [mset_n]; exact this
      · intro s u1 hs2
        have := j6 s u1 hs2
        rw [sta_r (r := 0) (by omega), sta_r (r := 1) (by omega), sta_r (r := 2) (by omega)]
        simp (disch := omega) only [mset_n]; exact this
      · refine ⟨fun i v hv => ?_, fun i v hv => ?_⟩
        · simp (disch := omega) only [mset_n]; exact j7.1 i v hv
        · simp (disch := omega) only [mset_n]; exact j7.2 i v hv
      · intro e u1 u2
        rw [sta_r (r := 3) (by omega), sta_r (r := 4) (by omega), sta_r (r := 5) (by omega)]
        simp (disch := omega) only [mset_n]; exact j8 e u1 u2
    have hDo : DoC k (mset (mset A k 16 1) k 12 (sI t)) w.1.1 := DoC_c h.2 (fun _ _ => rfl) (fun e => by simp (disch := omega) only [mset_n])
    refine wq_b2 (c_aim0 (by omega) hv hB.1) ?_
    rintro M1 L1 ⟨y1, y2, y3⟩
    dsimp only at y1 y2 y3
    subst y1
    have hB1 : ReX (chK w.1.1 (sta w.1.2.1)) k M1 L1 w.1.1 (sta w.1.2.1) va w.1.2.2 w.2 := by
      obtain ⟨j1, j2, j3, j4, j5, j6, j7, j8⟩ := hB
      refine ⟨TrC_f j1 (y3 _ _ (by omega) (by omega)) (fun a s u1 u2 => y3 _ _ (by omega) (by omega)), ?_, ?_, ?_, ?_, ?_, ?_, ?_⟩
      · refine ⟨?_, fun e u1 u2 => ?_⟩
        · simp (disch := omega) only [y3]; exact j2.1
        · simp (disch := omega) only [y3]; exact j2.2 e u1 u2
      · refine ⟨?_, fun i hi => ?_⟩
        · simp (disch := omega) only [y3]; exact j3.1
        · simp (disch := omega) only [y3]; exact j3.2 i hi
      · simp (disch := omega) only [y3]; exact j4
      · intro s hs2
        simp (disch := omega) only [y3]; exact j5 s hs2
      · intro s u1 hs2
        simp (disch := omega) only [y3]; exact j6 s u1 hs2
      · refine ⟨fun i v hv => ?_, fun i v hv => ?_⟩
        · simp (disch := omega) only [y3]; exact j7.1 i v hv
        · simp (disch := omega) only [y3]; exact j7.2 i v hv
      · intro e u1 u2
        simp (disch := omega) only [y3]; exact j8 e u1 u2
    have ck0 : CkP w.1.1 (fun _ _ => false) (fun _ => 0) := fun p hp => ⟨Nat.zero_le _, fun q => absurd rfl q, fun _ s hs => by cases hs⟩
    have n1 : M1 k 12 = sI t := by rw [y3 _ _ (by omega) (by omega), mset_s]
    refine wq_b2 (show wq (DX2_enterAll fu k 0 M1 L1) _ from c_enterAll (d := 0) (now := t) (by omega) hv hB1 GoA_0 y2 ck0 (Nat.zero_le _) (fun s hs2 => by rw [hh s hs2]; exact Nat.zero_le _) n1) ?_
    rintro M2 L2 ⟨z1, z2, z3⟩
    dsimp only at z1 z2 z3
    have hr2 : RcW k M2 L2 va (stZ va t w) := by
      refine ⟨?_, DoC_c hDo (fun i hi => stZ_r (by omega)) (fun e => ?_)⟩
      · rw [ReC_X]
        have z1' : ReX (chE w.1.1 (cmB w.1.1 0 (fun _ _ => false)) (chK w.1.1 (sta w.1.2.1))) k M2 L2 (stZ va t w).1.1 (stZ va t w).1.2.1 va (stZ va t w).1.2.2 (stZ va t w).2 := by
          unfold stZ
          dsimp only
          exact z1
        refine ReX_ch z1' (fun s hs2 => ?_)
        rw [stZ_r (by omega)] at hs2
        exact s3 s hs2
      · rw [z2 _ _ (by omega), y3 _ _ (by omega) (by omega)]
    have n2 : M2 k 12 = sI t := by rw [z2 _ _ (by omega)]; exact n1
    refine wq_b3 (c_chain (now := t) (w := stZ va t w) (by omega) s1 hr2 n2) ?_
    rintro r3 M3 L3 ⟨v1, v2, v3, v4, v5⟩
    dsimp only at v1 v2 v3 v4 v5
    rw [stZ_r (by omega)] at v1 v2 v3
    have fr3 : frC k A M3 := by
      intro b y u1 u2 u3 u4
      rw [v4 _ _ u1 u2 u3 (by omega), z2 _ _ (by omega), y3 _ _ (by omega) (by omega), mset_n (by omega), mset_n (by omega)]
    have fl3 : ∀ b, b ≠ k + 34 → L3 b = L1 b := fun b u1 => by rw [v5 _ u1, z3 _ u1]
    have h4 := ch_In (va := va) ht (w.1.1 0 3) _ s1 s2
    rw [v1]
    cases hok : (chN va t (w.1.1 0 3) (stZ va t w)).1 with
    | false =>
      rw [if_pos bI_f, if_neg (by decide)]
      exact wq_some ⟨by rw [hok]; rfl, v2, fr3, fl3⟩
    | true =>
      rw [if_neg (by decide), if_pos rfl]
      refine wq_mono (c_ev2 (e := e) hf v3 h4.2 v2 ht he) ?_
      rintro ⟨r4, M4, L4⟩ ⟨x1, x2, x3, x4⟩
      exact ⟨x1, x2, fun b y u1 u2 u3 u4 => (x3 b y u1 u2 u3 u4).trans (fr3 b y u1 u2 u3 u4), fun b u1 => (x4 b u1).trans (fl3 b u1)⟩
/-! an event happens: the reference -/
theorem RmW_n {q : Nat} {M M' : mwM} {L : mwL} {va : Nat → Int32} {w : ZT} (h : RmW q M L va w) (h31 : ∃ r, r ≤ 500 ∧ M' q 31 = sI r) (hM : ∀ a y, q ≤ a → a ≤ q + 21 → ¬ (a = q ∧ (y = 0 ∨ y = 31 ∨ y = 33 ∨ y = 35)) → M' a y = M a y) : RmW q M' L va w := by
  obtain ⟨j1, j2, j3, j4, j5, j6, j7, j8⟩ := h
  refine ⟨TrM_f j1 (hM _ _ (by omega) (by omega) (by omega)) (fun a s u1 u2 => hM _ _ (by omega) (by omega) (by omega)), ?_, ?_, ?_, ?_, ?_, ?_, ?_⟩
  · refine ⟨?_, fun e u1 u2 => ?_⟩
    · simp (disch := omega) only [hM]; exact j2.1
    · simp (disch := omega) only [hM]; exact j2.2 e u1 u2
  · refine ⟨?_, fun i hi => ?_⟩
    · simp (disch := omega) only [hM]; exact j3.1
    · simp (disch := omega) only [hM]; exact j3.2 i hi
  · simp (disch := omega) only [hM]
    exact ⟨j4.1, j4.2.1, j4.2.2.1, j4.2.2.2.1, j4.2.2.2.2.1, j4.2.2.2.2.2.1, h31⟩
  · intro s hs
    simp (disch := omega) only [hM]; exact j5 s hs
  · intro s u1 hs
    simp (disch := omega) only [hM]; exact j6 s u1 hs
  · simp (disch := omega) only [hM]; exact j7
  · intro e u1 u2
    simp (disch := omega) only [hM]; exact j8 e u1 u2
theorem RmW_sp {q s : Nat} {M : mwM} {L : mwL} {va : Nat → Int32} {w : ZT} (h : RmW q M L va w) (hs : s ≤ w.1.1 0 0) : RmW q (mset M (q + 7) s (bI true)) L va (spZ s w) := by
  obtain ⟨j1, j2, j3, j4, j5, j6, j7, j8⟩ := h
  have e3 : ∀ r j, r ≠ 1 → (spZ s w).1.2.1 r j = w.1.2.1 r j := by
    intro r j hr
    show (if r = 1 ∧ j = s then true else w.1.2.1 r j) = w.1.2.1 r j
    rw [if_neg (fun z => hr z.1)]
  refine ⟨TrM_f j1 (mset_k (by omega)) (fun a s u1 u2 => mset_k (by omega)), ?_, ?_, ?_, ?_, ?_, ?_, ?_⟩
  · refine ⟨?_, fun e u1 u2 => ?_⟩
    · simp (disch := omega) only [mset_n]; exact j2.1
    · simp (disch := omega) only [mset_n]; exact j2.2 e u1 u2
  · refine ⟨?_, fun i hi => ?_⟩
    · simp (disch := omega) only [mset_n]; exact j3.1
    · simp (disch := omega) only [mset_n]; exact j3.2 i hi
  · rw [e3 6 0 (by omega)]
    simp (disch := omega) only [mset_n]; exact j4
  · intro t ht
    simp (disch := omega) only [mset_n]; exact j5 t ht
  · intro t u1 ht
    have := j6 t u1 ht
    rw [e3 0 t (by omega), e3 2 t (by omega)]
    refine ⟨?_, this.2.1, ?_, ?_⟩
    · simp (disch := omega) only [mset_n]; exact this.1
    · show _ = bI (if (1 : Nat) = 1 ∧ t = s then true else w.1.2.1 1 t)
      by_cases hq : t = s
      · rw [hq, mset_s, if_pos ⟨rfl, rfl⟩]
      · rw [mset_j hq, if_neg (fun z => hq z.2)]; exact this.2.2.1
    · simp (disch := omega) only [mset_n]; exact this.2.2.2
  · rw [e3 6 0 (by omega)]
    simp (disch := omega) only [mset_n]; exact j7
  · intro e u1 u2
    rw [e3 3 e (by omega), e3 4 e (by omega), e3 5 e (by omega)]
    simp (disch := omega) only [mset_n]; exact j8 e u1 u2
def frMc (q : Nat) (M M' : mwM) : Prop := ∀ a y, ¬ (q ≤ a ∧ a ≤ q + 29) → M' a y = M a y
def frLc (q : Nat) (L L' : mwL) : Prop := ∀ a, a ≠ q + 6 → a ≠ q + 21 → L' a = L a
def reE (ok : Bool) (r : Int32) : Prop := if ok = true then ∃ m, m ≤ 100000000 ∧ r = sI m else r = -1
theorem m_ev2 {fu : Nat} {M : mwM} {L : mwL} {q e t m0 : Nat} {va : Nat → Int32} {w : ZT} (hf : 1100 ≤ fu) (hw : InW w) (hS : S14 w.1.1) (h : RmW q M L va w) (ht : t ≤ 20000) (he : e < 1000) (hm0 : m0 ≤ 20000) : wq (fX13_event_b107 fu q (sI e) (sL t) (sI m0) M L) (fun z => reE (ev2 va e t w).1 z.1 ∧ RmW q z.2.1 z.2.2 va (ev2 va e t w).2 ∧ frMc q M z.2.1 ∧ frLc q L z.2.2) := by
  have hN := hw.1.1.1
  have b1 : vp_nar .boolean (1 : Int32) = bI true := by decide
  generalize hQ : (fun z : Int32 × mwM × mwL => reE (ev2 va e t w).1 z.1 ∧ RmW q z.2.1 z.2.2 va (ev2 va e t w).2 ∧ frMc q M z.2.1 ∧ frLc q L z.2.2) = Q
  have fin : ∀ (m : Nat) (a : mwM) (l : mwL) (r : Int32 × Int32 × Int32 × mwM × mwL → Option (Int32 × mwM × mwL)) (v6 : Int32), m ≤ 20420000 → (spL va t 1000 w).1 = true → RmW q a l va (spL va t 1000 w).2 → frMc q M a → frLc q L l → wq (fX13_event_i117 fu q (sI e) (sL t) r (sI m) 0 v6 a l) Q := by
    intro m a l r v6 hm hok hr p1 p2
    have hI := spL_In (va := va) ht 1000 w hw hS
    have e0 : ev2 va e t w = if e = 0 then spL va t 1000 w else chN va t (w.1.1 0 3) (fiZ va e t (spL va t 1000 w).2) := by
      unfold ev2
      rw [if_pos hok]
    have hlimu : (spL va t 1000 w).2.1.1 0 3 = w.1.1 0 3 := by rw [spL_r (by omega) (by omega)]
    generalize spL va t 1000 w = u at *
    unfold fX13_event_i117
    rw [if_pos (by decide)]
    by_cases he0 : e = 0
    · rw [if_pos (by rw [he0]; rfl)]
      rw [if_pos he0] at e0
      rw [← hQ, e0]
      refine wq_some ⟨?_, hr, p1, p2⟩
      unfold reE
      rw [if_pos hok]
      exact ⟨m, by omega, rfl⟩
    rw [if_neg (by rw [sI_eql (by omega) (by decide)]; exact he0)]
    rw [if_neg he0] at e0
    refine wq_b3 (m_selZ (v := e) (by omega) hI.1 hr (by omega)) ?_
    rintro r1 M1 L1 ⟨y1, y2, y3, y4, y6, y5⟩
    dsimp only at y1 y2 y3 y4 y5 y6
    subst y1 y2
    have hlz := tkZ_len (v := e) hI.1
    have e29 : M1 q 29 = (seZ e u.2).2 0 := y3.2.2.2.1.2.2.1
    have rest : ∀ d : Int32, d = (seZ e u.2).2 0 + (if decide ((tkZ e u.2).length = 0) = true then 1 else 0) → wq (fX13_event_b256 fu q (sI e) (sL t) (sI m) d M1 L1) Q := by
      intro d hd
      unfold fX13_event_b256 fX13_event_b290
      simp only [mlet]
      have hr3 : ReM q (mset M1 q 29 d) L1 (seZ e u.2).1.1 (seZ e u.2).1.2.1 va (seZ e u.2).1.2.2 (fiZ va e t u.2).2 := by
        obtain ⟨j1, j2, j3, j4, j5, j6, j7, j8⟩ := y3
        refine ⟨TrM_f j1 (mset_j (by omega)) (fun a s u1 u2 => mset_k (by omega)), ?_, ?_, ?_, ?_, ?_, ?_, ?_⟩
        · refine ⟨?_, fun e u1 u2 => ?_⟩
          · simp (disch := omega) only [mset_n]; exact j2.1
          · simp (disch := omega) only [mset_n]; exact j2.2 e u1 u2
        · refine ⟨?_, fun i hi => ?_⟩
          · simp (disch := omega) only [mset_n]; exact j3.1
          · simp (disch := omega) only [mset_n]; exact j3.2 i hi
        · refine ⟨?_, ?_, ?_, ?_, ?_, j4.2.2.2.2.2.1, ?_⟩
          · simp (disch := omega) only [mset_n]; exact j4.1
          · simp (disch := omega) only [mset_n]; exact j4.2.1
          · rw [mset_s, hd]
            rfl
          · simp (disch := omega) only [mset_n]
            rw [j4.2.2.2.1]
            rfl
          · simp (disch := omega) only [mset_n]; exact j4.2.2.2.2.1
          · simp (disch := omega) only [mset_n]; exact j4.2.2.2.2.2.2
        · intro t ht
          simp (disch := omega) only [mset_n]; exact j5 t ht
        · intro t u1 ht
          simp (disch := omega) only [mset_n]; exact j6 t u1 ht
        · simp (disch := omega) only [mset_n]; exact j7
        · intro e u1 u2
          simp (disch := omega) only [mset_n]; exact j8 e u1 u2
      refine wq_b3 (m_stepC (now := t) (by omega) (In_se (v := e) hI.1) hr3 (fun i v hv => by rw [mset_k (by omega)]; exact y4 i v hv) (by rw [mset_j (by omega)]; exact y6) hlz) ?_
      rintro r2 M2 L2 ⟨z1, _, z2, z3, z4⟩
      dsimp only at z1 z2 z3 z4
      subst z1
      have hr4 : RmW q M2 L2 va (fiZ va e t u.2) := z2
      have hlim : (fiZ va e t u.2).1.1 0 3 = w.1.1 0 3 := by
        have h1 : (gZ va t e u.2).1.1 0 = u.2.1.1 0 := g_r (by omega) (by omega)
        have h2 : (fiZ va e t u.2).1.1 0 3 = (gZ va t e u.2).1.1 0 3 := rfl
        rw [h2, h1]
        exact hlimu
      refine wq_b3 (m_chain (now := t) (w := fiZ va e t u.2) (by omega) (In_g hI.1) hr4) ?_
      rintro r3 M3 L3 ⟨v1, v2, v4, v5⟩
      dsimp only at v1 v2 v4 v5
      rw [hlim, ← e0] at v1 v2
      have fr3 : frMc q M M3 := fun b y u1 => by rw [v4 _ _ u1, z3 _ _ u1, mset_n (by omega), y5 _ _ u1]; exact p1 b y u1
      have fl3 : frLc q L L3 := fun b u1 u2 => by rw [v5 _ u1 u2, z4 _ u1 u2]; exact p2 b u1 u2
      rw [← hQ]
      cases hok2 : (ev2 va e t w).1 with
      | true =>
        rw [hok2, if_pos rfl] at v1
        obtain ⟨m2, w1, w2⟩ := v1
        rw [w2, sI_add, if_pos (by rw [show (0 : Int32) = sI 0 from rfl, sI_le (by omega) (by omega)]; omega), sI_add]
        refine wq_some ⟨?_, v2, fr3, fl3⟩
        unfold reE
        rw [if_pos rfl]
        exact ⟨_, by omega, rfl⟩
      | false =>
        rw [hok2, if_neg (by decide)] at v1
        rw [v1, if_neg (by decide)]
        refine wq_some ⟨?_, v2, fr3, fl3⟩
        unfold reE
        rw [if_neg (by decide)]
    by_cases hz : (tkZ e u.2).length = 0
    · rw [if_pos (by rw [hz]; rfl)]
      exact rest _ (by rw [e29, decide_eq_true hz]; rfl)
    · rw [if_neg (by rw [sI_eql (by omega) (by decide)]; exact hz)]
      exact rest _ (by rw [e29, decide_eq_false hz, if_neg (by decide)]; exact (Int32.add_zero _).symm)
  have bad : (spL va t 1000 w).1 = false → ev2 va e t w = spL va t 1000 w := by
    intro hok
    unfold ev2
    rw [hok, if_neg (by decide)]
  have key : ∀ (n i m f : Nat) (u : ZT) (a : mwM) (l : mwL), i + n = 1000 → m ≤ 20000 + 20400 * i → n < f → InW u → S14 u.1.1 → u.1.1 0 3 = w.1.1 0 3 → RmW q a l va u → spL va t n u = spL va t 1000 w → frMc q M a → frLc q L l → wq (fX13_event_h117 fu q (sI e) (sL t) f (sI m, sI (duZ t u), sI i, a, l)) Q := by
    intro n
    induction n with
    | zero =>
      intro i m f u a l hi hm hf1 hu hSu hlim hr hsp p1 p2
      obtain ⟨g, rfl⟩ : ∃ g, f = g + 1 := ⟨f - 1, by omega⟩
      have e0 : spL va t 0 u = (decide (duZ t u = 0), u) := rfl
      rw [e0] at hsp
      unfold fX13_event_h117
      rw [mloop_S]
      show wq (fX13_event_i117 fu q (sI e) (sL t) (fX13_event_h117 fu q (sI e) (sL t) g) (sI m) (sI (duZ t u)) (sI i) a l) Q
      by_cases hd : duZ t u = 0
      · rw [hd]
        exact fin m a l _ _ (by omega) (by rw [← hsp]; exact decide_eq_true hd) (by rw [← hsp]; exact hr) p1 p2
      · have hdl := (du_ok hd).1
        have hNu := hu.1.1.1
        unfold fX13_event_i117
        rw [if_neg (by rw [sI_lel (by omega) (by decide)]; omega), if_pos (by rw [show i = 1000 by omega]; rfl)]
        obtain ⟨rw1, k5, k6⟩ := hr.2.2.2.1.2.2.2.2.2.2
        refine wq_b2 (m_note (rw' := rw1) k6 k5) ?_
        rintro M2 L2 ⟨z1, z3, z2⟩
        dsimp only at z1 z2 z3
        subst z1
        have hb := bad (by rw [← hsp]; exact decide_eq_false hd)
        rw [← hQ, hb, ← hsp]
        refine wq_some ⟨?_, RmW_n hr z3 (fun b y u1 u2 u3 => z2 _ _ (by omega) (by omega)), fun b y u1 => (z2 _ _ (by omega) (by omega)).trans (p1 b y u1), p2⟩
        unfold reE
        rw [decide_eq_false hd]
        simp
    | succ n ih =>
      intro i m f u a l hi hm hf1 hu hSu hlim hr hsp p1 p2
      obtain ⟨g, rfl⟩ : ∃ g, f = g + 1 := ⟨f - 1, by omega⟩
      have e0 : spL va t (n + 1) u = if duZ t u = 0 then (true, u) else if (sp2 va t u).1 = true then spL va t n (sp2 va t u).2 else (false, (sp2 va t u).2) := rfl
      rw [e0] at hsp
      unfold fX13_event_h117
      rw [mloop_S]
      show wq (fX13_event_i117 fu q (sI e) (sL t) (fX13_event_h117 fu q (sI e) (sL t) g) (sI m) (sI (duZ t u)) (sI i) a l) Q
      by_cases hd : duZ t u = 0
      · rw [if_pos hd] at hsp
        rw [hd]
        exact fin m a l _ _ (by omega) (by rw [← hsp]) (by rw [← hsp]; exact hr) p1 p2
      rw [if_neg hd] at hsp
      have hdk := du_ok hd
      have hdl := hdk.1
      have hat := hdk.2
      have hNu := hu.1.1.1
      have hsp1 := sp1_In (va := va) hu hSu ht hd
      have hsp2 := sp2_In (va := va) hu hSu ht hd
      unfold fX13_event_i117
      rw [if_neg (by rw [sI_lel (by omega) (by decide)]; omega), if_neg (by rw [sI_eql (by omega) (by decide)]; omega)]
      have e6 := (hr.2.2.2.2.2.1 (duZ t u) (by omega) hdl).2.1
      have e5 := (hr.2.2.2.2.1 (duZ t u) hdl).1
      simp (disch := omega) only [b1, e6, e5, sL_add, sI_lad, mck_s, sI_nn, nn_s, sI_lt, sI_le, sI_eq, sI_ltl, sI_lel, sI_eql, sI_llt, sI_lle, sI_1, bI_0, bI_1, bI_n, mlet, mb3_s, mb2_s]
      refine wq_b3 (m_selZ (v := 1000 + duZ t u) (by omega) (sp_In hu) (RmW_sp hr hdl) (by omega)) ?_
      rintro r1 M1 L1 ⟨y1, y2, y3, y4, y6, y5⟩
      dsimp only at y1 y2 y3 y4 y5 y6
      subst y1 y2
      refine wq_b3 (m_stepZ (now := atZ t u) (by omega) (sp_In hu) y3 y4 y6) ?_
      rintro r2 M2 L2 ⟨z1, z2, z3, z4⟩
      dsimp only at z1 z2 z3 z4
      subst z1
      have hlz := tkZ_len (v := 1000 + duZ t u) (sp_In (s := duZ t u) hu)
      have hlim1 : (sp1 va t u).1.1 0 3 = u.1.1 0 3 := by
        have h1 : (sp1 va t u).1.1 0 = u.1.1 0 := g_r (w := spZ (duZ t u) u) (by omega) (by omega)
        rw [h1]
      refine wq_b3 (m_chain (now := atZ t u) (w := sp1 va t u) (by omega) hsp1.1 z2) ?_
      rintro r3 M3 L3 ⟨v1, v2, v4, v5⟩
      dsimp only at v1 v2 v4 v5
      rw [hlim1] at v1 v2
      have v1' : if (sp2 va t u).1 = true then ∃ m, m ≤ 20000 ∧ r3 = sI m else r3 = -1 := v1
      have v2' : RmW q M3 L3 va (sp2 va t u).2 := v2
      have fr3 : frMc q M M3 := fun b y u1 => by rw [v4 _ _ u1, z3 _ _ u1, y5 _ _ u1, mset_n (by omega)]; exact p1 b y u1
      have fl3 : frLc q L L3 := fun b u1 u2 => by rw [v5 _ u1 u2, z4 _ u1 u2]; exact p2 b u1 u2
      cases hok : (sp2 va t u).1 with
      | false =>
        rw [hok, if_neg (by decide)] at v1'
        rw [v1', if_neg (by decide)]
        rw [hok, if_neg (by decide)] at hsp
        have hb := bad (by rw [← hsp])
        rw [← hQ, hb, ← hsp]
        refine wq_some ⟨?_, v2', fr3, fl3⟩
        unfold reE
        simp
      | true =>
        rw [hok, if_pos rfl] at v1'
        obtain ⟨m2, w1, w2⟩ := v1'
        rw [w2, if_pos (by rw [show (0 : Int32) = sI 0 from rfl, sI_le (by omega) (by omega)]; omega)]
        rw [hok, if_pos rfl] at hsp
        try simp only [mlet]
        rw [m_due (by omega) hsp2.1.1 hsp2.2 v2' ht, mb3_s, sI_add, sI_add]
        refine ih (i + 1) _ g (sp2 va t u).2 M3 L3 (by omega) ?_ (by omega) hsp2.1 hsp2.2 ?_ v2' hsp fr3 fl3
        · omega
        · rw [sp2_r (by omega) (by omega)]; exact hlim
  unfold fX13_event_b107
  rw [m_due (by omega) hw.1 hS h ht, mb3_s]
  exact key 1000 0 m0 fu w M L (by omega) (by omega) (by omega) hw hS rfl h rfl (fun _ _ _ => rfl) (fun _ _ _ => rfl)
theorem m_event {fu : Nat} {M : mwM} {L : mwL} {q e t nw : Nat} {va : Nat → Int32} {w : ZT} (hf : 1100 ≤ fu) (hw : WI w) (h : RmW q M L va w) (ht : t ≤ 20000) (he : e < 1000) (hnw : L q 28 = sL nw) (hnt : nw ≤ t) (hdf : dfl w.1.1 0 ≠ 0) : wq (DX13_event fu q (sI e) (sL t) M L) (fun z => reE (ev1 va e t w).1 z.1 ∧ RmW q z.2.1 z.2.2 va (ev1 va e t w).2 ∧ frMc q M z.2.1 ∧ (∀ a, a ≠ q → a ≠ q + 6 → a ≠ q + 21 → z.2.2 a = L a) ∧ z.2.2 q 28 = sL t) := by
  have hv := hw.1
  have hT := hv.1
  have hN := hT.1
  have b1 : vp_nar .boolean (1 : Int32) = bI true := by decide
  have hM := h.1
  have hM0 : TrM (mset M q 0 0) q (w.1.1 0 0) (w.1.1 1) (w.1.1 2) (w.1.1 3) := TrM_f hM (mset_j (by omega)) (fun a s u1 u2 => mset_k (by omega))
  have ech := m_child (fu := fu) (L := L) (w := false) (ac := fun _ => false) (s := 0) (by omega) hT hM0 (fun z => by cases z) (Nat.zero_le _)
  have hdl : chF (w.1.1 1) (w.1.1 2) (w.1.1 0 0) (fun c => !false || false) 0 = dfl w.1.1 0 := rfl
  rw [hdl] at ech
  have hle : dfl w.1.1 0 ≤ w.1.1 0 0 := ch_le
  have e27 : M q 27 = bI (w.1.2.1 6 0) := h.2.2.2.1.2.2.2.2.1
  unfold DX13_event
  simp only [mlet]
  rw [if_neg (by rw [show (0 : Int32) = sI 0 from rfl, sI_lt (by omega) (by omega)]; omega), if_neg (by rw [sI_llt (by decide) (by omega)]; omega), hnw, if_neg (fun z => by
    have := (lg_cmp_lt _ _).mp z
    rw [sL_lt (by omega) (by omega)] at this
    omega), if_neg (fun z => by
    have := (lg_cmp_lt _ _).mp z
    rw [show (0 : Int64) = sL 0 from rfl, sL_lt (by omega) (by omega)] at this
    omega), if_pos ((lg_cmp_le _ _).mpr (by
    rw [Int64.le_iff_toInt_le, sL_toInt (by omega), show (4611686018427387904 : Int64).toInt = 4611686018427387904 from by decide]
    omega)), show DX13_child fu q 0 0 (mset M q 0 0) L = _ from ech, mb3_s, if_neg (by rw [sI_eql (by omega) (by decide)]; exact hdf)]
  have e27' : mset (mset M q 0 0) q 31 0 q 27 = bI (w.1.2.1 6 0) := by
    simp (disch := omega) only [mset_n]; exact e27
  have hB : RmW q (mset (mset M q 0 0) q 31 0) (mset L q 28 (sL t)) va w := by
    have h1 : RmW q (mset (mset M q 0 0) q 31 0) L va w := RmW_n h ⟨0, by omega, mset_s⟩ (fun a y u1 u2 u3 => by simp (disch := omega) only [mset_n])
    exact ReM_f h1 (fun _ _ _ _ _ => rfl) (fun a u1 u2 => mset_rown (by omega))
  have frB : frMc q M (mset (mset M q 0 0) q 31 0) := fun a y u => by simp (disch := omega) only [mset_n]
  rw [e27']
  cases hs : w.1.2.1 6 0 with
  | true =>
    rw [if_neg (by decide)]
    have e1 : ev1 va e t w = ev2 va e t w := by
      unfold ev1
      rw [if_pos hs]
    rw [e1]
    refine wq_mono (m_ev2 (e := e) (m0 := 0) hf ⟨hv, hw.2.2.1 hs⟩ hw.2.1 hB ht he (by omega)) ?_
    rintro ⟨r, M1, L1⟩ ⟨y1, y2, y3, y4⟩
    refine ⟨y1, y2, fun a y u => (y3 a y u).trans (frB a y u), fun a u1 u2 u3 => ?_, ?_⟩
    · exact (y4 a u2 u3).trans (mset_rown u1)
    · have y4' : L1 q = mset L q 28 (sL t) q := y4 q (by omega) (by omega)
      show L1 q 28 = sL t
      rw [y4', mset_s]
  | false =>
    rw [if_pos bI_f]
    have e1 : ev1 va e t w = if (chN va t (w.1.1 0 3) (stZ va t w)).1 = true then ev2 va e t (chN va t (w.1.1 0 3) (stZ va t w)).2 else chN va t (w.1.1 0 3) (stZ va t w) := by
      unfold ev1
      rw [hs, if_neg (by decide)]
    obtain ⟨s1, s2, s3⟩ := st_cf (va := va) hw hs ht
    obtain ⟨hb0, hh⟩ := hw.2.2.2 hs
    have hH : HiV w.1.1 := fun s hs2 => Or.inl (hh s hs2)
    rw [e1]
    generalize hG : mset (mset (mset (mset M q 0 0) q 31 0) q 27 1) (q + 9) ((0 : Int32).toNatClampNeg) (vp_nar .boolean 1) = G
    have hGr : ReM q G (mset L q 28 (sL t)) w.1.1 (sta w.1.2.1) va w.1.2.2 w.2 := by
      obtain ⟨j1, j2, j3, j4, j5, j6, j7, j8⟩ := hB
      have G1 : ∀ a y, ¬ (a = q ∧ y = 27) → ¬ (a = q + 9 ∧ y = 0) → G a y = mset (mset M q 0 0) q 31 0 a y := by
        intro a y u1 u2
        subst hG
        rw [mset_n (by rw [show (0 : Int32).toNatClampNeg = 0 from rfl]; exact u2), mset_n u1]
      have G27 : G q 27 = bI true := by
        subst hG
        rw [mset_k (by omega), mset_s]
        rfl
      have G9 : G (q + 9) 0 = bI true := by
        subst hG
        rw [show (0 : Int32).toNatClampNeg = 0 from rfl, mset_s, b1]
      refine ⟨TrM_f j1 (G1 _ _ (by omega) (by omega)) (fun a s u1 u2 => G1 _ _ (by omega) (by omega)), ?_, ?_, ?_, ?_, ?_, ?_, ?_⟩
      · refine ⟨(G1 _ _ (by omega) (by omega)).trans j2.1, fun e u1 u2 => ?_⟩
        rw [G1 _ _ (by omega) (by omega), G1 _ _ (by omega) (by omega), G1 _ _ (by omega) (by omega), G1 _ _ (by omega) (by omega)]
        exact j2.2 e u1 u2
      · refine ⟨(G1 _ _ (by omega) (by omega)).trans j3.1, fun i hi => ?_⟩
        rw [G1 _ _ (by omega) (by omega), G1 _ _ (by omega) (by omega), G1 _ _ (by omega) (by omega)]
        exact j3.2 i hi
      · refine ⟨(G1 _ _ (by omega) (by omega)).trans j4.1, (G1 _ _ (by omega) (by omega)).trans j4.2.1, (G1 _ _ (by omega) (by omega)).trans j4.2.2.1, (G1 _ _ (by omega) (by omega)).trans j4.2.2.2.1, ?_, j4.2.2.2.2.2.1, ?_⟩
        · rw [G27, sta_6]
        · rw [G1 _ _ (by omega) (by omega)]; exact j4.2.2.2.2.2.2
      · intro s hs2
        rw [G1 _ _ (by omega) (by omega)]; exact j5 s hs2
      · intro s u1 hs2
        rw [G1 _ _ (by omega) (by omega), G1 _ _ (by omega) (by omega), G1 _ _ (by omega) (by omega), sta_r (r := 0) (by omega), sta_r (r := 1) (by omega), sta_r (r := 2) (by omega)]
        exact j6 s u1 hs2
      · rw [G9, sta_6]
      · intro e u1 u2
        rw [G1 _ _ (by omega) (by omega), G1 _ _ (by omega) (by omega), G1 _ _ (by omega) (by omega), sta_r (r := 3) (by omega), sta_r (r := 4) (by omega), sta_r (r := 5) (by omega)]
        exact j8 e u1 u2
    have frG : frMc q M G := by
      intro a y u
      subst hG
      rw [show (0 : Int32).toNatClampNeg = 0 from rfl]
      simp (disch := omega) only [mset_n]
    refine wq_b2 (show wq (DX13_enter fu q 0 0 (sL t) G (mset L q 28 (sL t))) _ from m_enter (e := 0) (d := 0) (now := t) (g := fun _ _ => false) (by omega) hv hH hGr (Nat.zero_le _) rfl hT.2.2.1 rfl) ?_
    rintro M2 L2 ⟨z1, z2, z3⟩
    dsimp only at z1 z2 z3
    have hr2 : RmW q M2 L2 va (stZ va t w) := by
      unfold RmW stZ
      dsimp only
      exact z1
    refine wq_b3 (m_chain (now := t) (w := stZ va t w) (by omega) s1 hr2) ?_
    rintro r3 M3 L3 ⟨v1, v2, v4, v5⟩
    dsimp only at v1 v2 v4 v5
    rw [stZ_r (by omega)] at v1 v2
    have fr3 : frMc q M M3 := fun a y u => by rw [v4 _ _ u, z2 _ _ (by omega) (by omega) (by omega)]; exact frG a y u
    have fl3 : ∀ a, a ≠ q → a ≠ q + 6 → a ≠ q + 21 → L3 a = L a := fun a u1 u2 u3 => by rw [v5 _ u2 u3, z3 _ u2 u3, mset_rown u1]
    have f28 : L3 q 28 = sL t := by rw [v5 _ (by omega) (by omega), z3 _ (by omega) (by omega), mset_s]
    have h4 := ch_In (va := va) ht (w.1.1 0 3) _ s1 s2
    cases hok : (chN va t (w.1.1 0 3) (stZ va t w)).1 with
    | false =>
      rw [hok, if_neg (by decide)] at v1
      rw [v1, if_neg (by decide), if_neg (by decide)]
      refine wq_some ⟨?_, v2, fr3, fl3, f28⟩
      unfold reE
      rw [hok, if_neg (by decide)]
    | true =>
      rw [hok, if_pos rfl] at v1
      obtain ⟨m2, w1, w2⟩ := v1
      rw [w2, if_pos (by rw [show (0 : Int32) = sI 0 from rfl, sI_le (by omega) (by omega)]; omega), if_pos rfl]
      refine wq_mono (m_ev2 (e := e) (m0 := m2) hf h4.1 h4.2 v2 ht he w1) ?_
      rintro ⟨r4, M4, L4⟩ ⟨x1, x2, x3, x4⟩
      refine ⟨x1, x2, fun a y u => (x3 a y u).trans (fr3 a y u), fun a u1 u2 u3 => (x4 a u2 u3).trans (fl3 a u1 u2 u3), ?_⟩
      have x4' : L4 q = L3 q := x4 q (by omega) (by omega)
      show L4 q 28 = sL t
      rw [x4']; exact f28
/-! what a chart tells -/
theorem m_event0 {fu : Nat} {M : mwM} {L : mwL} {q e t nw : Nat} {va : Nat → Int32} {w : ZT} (hf : 1100 ≤ fu) (hw : WI w) (h : RmW q M L va w) (ht : t ≤ 20000) (he : e < 1000) (hnw : L q 28 = sL nw) (hnt : nw ≤ t) (hdf : dfl w.1.1 0 = 0) : wq (DX13_event fu q (sI e) (sL t) M L) (fun z => z.1 = -3 ∧ RmW q z.2.1 L va w ∧ frMc q M z.2.1 ∧ z.2.2 = L) := by
  have hv := hw.1
  have hT := hv.1
  have hN := hT.1
  have hM0 : TrM (mset M q 0 0) q (w.1.1 0 0) (w.1.1 1) (w.1.1 2) (w.1.1 3) := TrM_f h.1 (mset_j (by omega)) (fun a s u1 u2 => mset_k (by omega))
  have ech := m_child (fu := fu) (L := L) (w := false) (ac := fun _ => false) (s := 0) (by omega) hT hM0 (fun z => by cases z) (Nat.zero_le _)
  have hdl : chF (w.1.1 1) (w.1.1 2) (w.1.1 0 0) (fun c => !false || false) 0 = dfl w.1.1 0 := rfl
  rw [hdl, hdf] at ech
  unfold DX13_event
  simp only [mlet]
  rw [if_neg (by rw [show (0 : Int32) = sI 0 from rfl, sI_lt (by omega) (by omega)]; omega), if_neg (by rw [sI_llt (by decide) (by omega)]; omega), hnw, if_neg (fun z => by
    have := (lg_cmp_lt _ _).mp z
    rw [sL_lt (by omega) (by omega)] at this
    omega), if_neg (fun z => by
    have := (lg_cmp_lt _ _).mp z
    rw [show (0 : Int64) = sL 0 from rfl, sL_lt (by omega) (by omega)] at this
    omega), if_pos ((lg_cmp_le _ _).mpr (by
    rw [Int64.le_iff_toInt_le, sL_toInt (by omega), show (4611686018427387904 : Int64).toInt = 4611686018427387904 from by decide]
    omega)), show DX13_child fu q 0 0 (mset M q 0 0) L = _ from ech, mb3_s, if_pos (show sI 0 = 0 from rfl)]
  refine wq_some ⟨rfl, ?_, fun a y u => mset_n (by omega), rfl⟩
  exact RmW_n h (by dsimp only; rw [mset_j (by omega)]; exact h.2.2.2.1.2.2.2.2.2.2) (fun a y u1 u2 u3 => mset_n (by omega))
/-- the innermost active state -/
def inN (c : Nat → Nat → Nat) (b : Nat → Nat → Bool) : Nat → Nat → Nat
  | 0, s => s
  | m + 1, s => if chK c b s = 0 then s else inN c b m (chK c b s)
theorem chK_act {c : Nat → Nat → Nat} {b : Nat → Nat → Bool} {s : Nat} (hT : Tr (c 0 0) (c 1) (c 2) (c 3)) (h : chK c b s ≠ 0) : 1 ≤ chK c b s ∧ chK c b s ≤ c 0 0 ∧ b 0 (chK c b s) = true ∧ c 3 (chK c b s) = c 3 s + 1 := by
  unfold chK at h ⊢
  by_cases hq : c 2 s = 0 ∧ (s = 0 ∨ b 0 s = true)
  · rw [if_pos hq] at h ⊢
    have := ch_act h
    refine ⟨this.1, this.2.1, this.2.2.2.2, ?_⟩
    rw [(hT.2.2.2.2 _ this.1 this.2.1).2.1, this.2.2.1]
  · rw [if_neg hq] at h
    exact absurd rfl h
theorem c_innermost {fu : Nat} {A : mwM} {L : mwL} {k s : Nat} {c : Nat → Nat → Nat} {b : Nat → Nat → Bool} {va : Nat → Int32} {D : Nat → Int64} {x : Nat → Int32} (hf : 43 ≤ fu) (hv : Cv c) (h : ReC k A L c b va D x) (hs : s ≤ c 0 0) : DX2_innermost fu k (sI s) A L = some (sI (if s = 0 ∨ b 0 s = true then inN c b (41 - c 3 s) s else 0), A, L) := by
  have hT := hv.1
  have hN := hT.1
  have key : ∀ (m s v f : Nat), c 3 s + m = 41 → s ≤ c 0 0 → v + m ≤ 41 → m < f → ∀ s0, fX2_innermost_h21 fu k s0 f (sI s, sI v, A, L) = some (sI (inN c b m s), A, L) := by
    intro m
    induction m with
    | zero =>
      intro s v f hm hs2 hv2 hf1 s0
      have := (Tr_pa hT hs2).2.2.2.2
      omega
    | succ m ih =>
      intro s v f hm hs2 hv2 hf1 s0
      obtain ⟨g, rfl⟩ : ∃ g, f = g + 1 := ⟨f - 1, by omega⟩
      have e8 := (h.2.2.2.2.1 s hs2).2.2.1
      have ckl : chK c b s ≤ c 0 0 := by
        unfold chK
        split
        · exact ch_le
        · omega
      have e0 : inN c b (m + 1) s = if chK c b s = 0 then s else inN c b m (chK c b s) := rfl
      rw [e0]
      unfold fX2_innermost_h21
      rw [mloop_S]
      show fX2_innermost_i21 fu k s0 (fX2_innermost_h21 fu k s0 g) (sI s) (sI v) A L = _
      unfold fX2_innermost_i21 fX2_innermost_b55
      simp (disch := omega) only [e8, mck_s, sI_nn, nn_s, sI_lt, sI_le, sI_eq, sI_ltl, sI_lel, sI_eql, sI_llt, sI_lle, sI_1, bI_0, bI_1, bI_n, mlet, mb3_s, mb2_s]
      rw [if_neg (by omega)]
      by_cases hq : chK c b s = 0
      · rw [if_pos hq, if_pos hq]
      · rw [if_neg hq, if_neg hq]
        have ha := chK_act hT hq
        exact ih (chK c b s) (v + 1) g (by omega) ha.2.1 (by omega) (by omega) s0
  have hde := (Tr_pa hT hs).2.2.2.2
  have b17 : fX2_innermost_b17 fu k (sI s) A L = some (sI (inN c b (41 - c 3 s) s), A, L) := by
    unfold fX2_innermost_b17
    exact key (41 - c 3 s) s 0 fu (by omega) hs (by omega) (by omega) (sI s)
  unfold DX2_innermost
  by_cases h0 : s = 0
  · rw [if_pos (by rw [h0]; rfl), b17, if_pos (Or.inl h0)]
  · rw [if_neg (by rw [sI_eql (by omega) (by decide)]; exact h0), mck_s (by omega) (by omega), sI_nn (by omega), (h.2.2.2.2.2.1 s (by omega) hs).1, b17]
    cases hb : b 0 s with
    | false =>
      rw [if_pos bI_f, if_neg (fun z => by rcases z with w | w; exact h0 w; cases w)]
      rfl
    | true => rw [if_neg (by decide), if_pos (Or.inr rfl)]
theorem m_active {fu : Nat} {M : mwM} {L : mwL} {q s : Nat} {c : Nat → Nat → Nat} {b : Nat → Nat → Bool} {va : Nat → Int32} {D : Nat → Int64} {x : Nat → Int32} (hf : 202 ≤ fu) (hv : Cv c) (h : ReM q M L c b va D x) (hs : s ≤ c 0 0) : DX13_active fu q (sI s) M L = some ((if b 6 0 = true then sI (if s = 0 ∨ b 0 s = true then inN c b (41 - c 3 s) s else 0) else -3), mset M q 0 0, L) := by
  have hT := hv.1
  have hN := hT.1
  have h0 : ReM q (mset M q 0 0) L c b va D x := ReM_f h (fun a y _ _ u => mset_n (by omega)) (fun _ _ _ => rfl)
  have e1 := m_noneC (fu := fu) (L := L) (p := s) h0.1.1 hN (by omega)
  rw [decide_eq_false (by omega)] at e1
  have hac : ∀ t, 1 ≤ t → t ≤ c 0 0 → mset M q 0 0 (q + 9) t = bI (b 0 t) := fun t u1 u2 => (h0.2.2.2.2.2.1 t u1 u2).1
  have key : ∀ (m s f : Nat), c 3 s + m = 41 → s ≤ c 0 0 → (s = 0 ∨ b 0 s = true) → m < f → ∀ s0, fX13_active_h38 fu q s0 f (sI s, mset M q 0 0, L) = some (sI (inN c b m s), mset M q 0 0, L) := by
    intro m
    induction m with
    | zero =>
      intro s f hm hs2 hb hf1 s0
      have := (Tr_pa hT hs2).2.2.2.2
      omega
    | succ m ih =>
      intro s f hm hs2 hb hf1 s0
      obtain ⟨g, rfl⟩ : ∃ g, f = g + 1 := ⟨f - 1, by omega⟩
      have hps := Tr_pa hT hs2
      have ech := m_child (fu := fu) (L := L) (w := true) (ac := b 0) (s := s) (by omega) hT h0.1 (fun _ => hac) hs2
      have hch : chF (c 1) (c 2) (c 0 0) (fun c => !true || b 0 c) s = chF (c 1) (c 2) (c 0 0) (b 0) s := rfl
      rw [hch, bI_t] at ech
      have e2 := (h0.1.2 s hs2).2.1
      have e0 : inN c b (m + 1) s = if chK c b s = 0 then s else inN c b m (chK c b s) := rfl
      have hle : chF (c 1) (c 2) (c 0 0) (b 0) s ≤ c 0 0 := ch_le
      rw [e0]
      unfold fX13_active_h38
      rw [mloop_S]
      show fX13_active_i38 fu q s0 (fX13_active_h38 fu q s0 g) (sI s) (mset M q 0 0) L = _
      unfold fX13_active_i38 fX13_active_b66
      simp (disch := omega) only [e2, ech, mck_s, sI_nn, nn_s, sI_lt, sI_le, sI_eq, sI_ltl, sI_lel, sI_eql, sI_llt, sI_lle, sI_1, bI_0, bI_1, bI_n, mlet, mb3_s, mb2_s]
      by_cases hk : c 2 s = 0
      · have eK : chK c b s = chF (c 1) (c 2) (c 0 0) (b 0) s := by
          unfold chK
          rw [if_pos ⟨hk, hb⟩]
        rw [if_pos hk, eK]
        by_cases hz : chF (c 1) (c 2) (c 0 0) (b 0) s = 0
        · rw [if_pos (by omega), if_pos hz]
        · rw [if_neg (by omega), if_neg hz, ← eK]
          have ha := chK_act hT (show chK c b s ≠ 0 by rw [eK]; exact hz)
          exact ih (chK c b s) g (by omega) ha.2.1 (Or.inr ha.2.2.1) (by omega) s0
      · have eK : chK c b s = 0 := by
          unfold chK
          rw [if_neg (fun z => hk z.1)]
        rw [if_neg hk, eK, if_pos rfl]
  have hde := (Tr_pa hT hs).2.2.2.2
  have e27 : mset M q 0 0 q 27 = bI (b 6 0) := h0.2.2.2.1.2.2.2.2.1
  have e9 : mset M q 0 0 (q + 9) s = bI (if s = 0 then b 6 0 else b 0 s) := by
    by_cases hz : s = 0
    · rw [if_pos hz, hz]; exact h0.2.2.2.2.2.2.1
    · rw [if_neg hz]; exact hac s (by omega) hs
  unfold DX13_active
  simp only [mlet]
  rw [e1, mb3_s, if_pos bI_f, e27]
  cases hst : b 6 0 with
  | false =>
    rw [if_pos bI_f, if_neg (by decide)]
  | true =>
    rw [if_neg (by decide), if_pos rfl, mck_s (by omega) (by omega), sI_nn (by omega), e9, hst]
    by_cases hz : s = 0
    · rw [if_pos hz, if_neg (by decide), if_pos (Or.inl hz)]
      exact key _ s fu (by omega) hs (Or.inl hz) (by omega) (sI s)
    · rw [if_neg hz]
      cases hb : b 0 s with
      | false =>
        rw [if_pos bI_f, if_neg (fun z => by rcases z with w | w; exact hz w; cases w)]
        rfl
      | true =>
        rw [if_neg (by decide), if_pos (Or.inr rfl)]
        exact key _ s fu (by omega) hs (Or.inr hb) (by omega) (sI s)
/-- how many -/
def ctN (p : Nat → Bool) : Nat → Nat
  | 0 => 0
  | n + 1 => ctN p n + (if p (n + 1) = true then 1 else 0)
theorem ct_le {p : Nat → Bool} : ∀ n, ctN p n ≤ n := by
  intro n
  induction n with
  | zero => exact Nat.le_refl _
  | succ n ih =>
    show ctN p n + (if p (n + 1) = true then 1 else 0) ≤ n + 1
    split <;> omega
def cvF (c : Nat → Nat → Nat) (b : Nat → Nat → Bool) (x : Nat → Int32) (j : Nat) : Int32 := if j = 0 then sI (ctN (b 2) (c 0 0)) else if j = 4 then x 1 else sI (ctN (b (j + 2)) (c 0 1))
theorem bI_sI {b : Bool} : bI b = sI (if b = true then 1 else 0) := by cases b <;> rfl
theorem sn_1 (u h f : Bool) : (sI (sn u h f) &&& 1 = 0) ↔ u = false := by cases u <;> cases h <;> cases f <;> decide
theorem sn_2 (u h f : Bool) : (sI (sn u h f) &&& 2 = 0) ↔ h = false := by cases u <;> cases h <;> cases f <;> decide
theorem sn_4 (u h f : Bool) : (sI (sn u h f) &&& 4 = 0) ↔ f = false := by cases u <;> cases h <;> cases f <;> decide
theorem c_covered {fu : Nat} {A : mwM} {L : mwL} {k j : Nat} {c : Nat → Nat → Nat} {b : Nat → Nat → Bool} {va : Nat → Int32} {D : Nat → Int64} {x : Nat → Int32} (hf : 402 ≤ fu) (hv : Cv c) (h : ReC k A L c b va D x) (hj : j ≤ 4) : DX2_covered fu k (sI j) A L = some (cvF c b x j, A, L) := by
  have hN := hv.1.1
  have hE4 := hv.2.1.1
  -- edges
  have edges : ∀ (j : Nat) (mk : Int32) (p : Nat → Bool), (∀ e, 1 ≤ e → e ≤ c 0 1 → (A (k + 26) e &&& mk = 0 ↔ p e = false)) → fX2_covered_b65 fu k (sI j) 0 mk A L = some (sI (ctN p (c 0 1)), A, L) := by
    intro j mk p hp
    unfold fX2_covered_b65
    have hh := wq_for (body := fun r z => fX2_covered_i69 fu k (sI j) r z.1 z.2.1 z.2.2.1 z.2.2.2.1 z.2.2.2.2) (Q := fun z => z = (sI (ctN p (c 0 1)), A, L)) (fun i (_ : Unit) => (sI (ctN p (i - 1)), mk, sI i, A, L)) (fun i _ => 1 ≤ i) (c 0 1 + 1) ?_ ?_ (c 0 1) 1 () fu (by omega) (by omega) (Nat.le_refl _)
    · obtain ⟨z, hz, rfl⟩ := hh
      exact hz
    · intro i _ r hi hi1 ih
      obtain ⟨n, rfl⟩ : ∃ n, i = n + 1 := ⟨i - 1, by omega⟩
      have ih2 := ih () (by omega)
      simp only [show n + 1 + 1 - 1 = n + 1 from rfl] at ih2
      have e0 : ctN p (n + 1) = ctN p n + (if p (n + 1) = true then 1 else 0) := rfl
      rw [e0] at ih2
      show wq (fX2_covered_i69 fu k (sI j) r (sI (ctN p n)) mk (sI (n + 1)) A L) _
      unfold fX2_covered_i69 fX2_covered_b98
      rw [h.2.1.1, if_neg (by rw [sI_lt (by omega) (by omega)]; omega), mck_s (by omega) (by omega), sI_nn (by omega)]
      simp only [mlet]
      rw [sI_1]
      cases hpe : p (n + 1) with
      | false =>
        rw [if_pos ((hp (n + 1) (by omega) (by omega)).mpr hpe), Int32.add_zero]
        rw [hpe, if_neg (by decide)] at ih2
        exact ih2
      | true =>
        rw [if_neg (fun z => by rw [(hp (n + 1) (by omega) (by omega)).mp z] at hpe; cases hpe), sI_1]
        rw [hpe, if_pos rfl] at ih2
        exact ih2
    · intro _ r _
      show wq (fX2_covered_i69 fu k (sI j) r (sI (ctN p (c 0 1))) mk (sI (c 0 1 + 1)) A L) _
      unfold fX2_covered_i69
      rw [h.2.1.1, if_pos (by rw [sI_lt (by omega) (by omega)]; omega)]
      exact wq_some rfl
  have h8 := h.2.2.2.2.2.2.2
  unfold DX2_covered cvF
  rcases (show j = 0 ∨ j = 1 ∨ j = 2 ∨ j = 3 ∨ j = 4 by omega) with rfl | rfl | rfl | rfl | rfl
  · rw [if_pos (show sI 0 = 0 from rfl), if_pos (show (0 : Nat) = 0 from rfl)]
    have hh := wq_for (body := fun r z => fX2_covered_i8 fu k (sI 0) r z.1 z.2.1 z.2.2.1 z.2.2.2) (Q := fun z => z = (sI (ctN (b 2) (c 0 0)), A, L)) (fun i (_ : Unit) => (sI (ctN (b 2) (i - 1)), sI i, A, L)) (fun i _ => 1 ≤ i) (c 0 0 + 1) ?_ ?_ (c 0 0) 1 () fu (by omega) (by omega) (Nat.le_refl _)
    · obtain ⟨z, hz, rfl⟩ := hh
      exact hz
    · intro i _ r hi hi1 ih
      obtain ⟨n, rfl⟩ : ∃ n, i = n + 1 := ⟨i - 1, by omega⟩
      have ih2 := ih () (by omega)
      simp only [show n + 1 + 1 - 1 = n + 1 from rfl] at ih2
      show wq (fX2_covered_i8 fu k (sI 0) r (sI (ctN (b 2) n)) (sI (n + 1)) A L) _
      have e17 := (h.2.2.2.2.2.1 (n + 1) (by omega) (by omega)).2.2.2
      unfold fX2_covered_i8
      rw [h.1.1, if_neg (by rw [sI_lt (by omega) (by omega)]; omega), mck_s (by omega) (by omega), sI_nn (by omega), e17, bI_sI]
      simp only [mlet]
      rw [sI_1, sI_add]
      exact ih2
    · intro _ r _
      show wq (fX2_covered_i8 fu k (sI 0) r (sI (ctN (b 2) (c 0 0))) (sI (c 0 0 + 1)) A L) _
      unfold fX2_covered_i8
      rw [h.1.1, if_pos (by rw [sI_lt (by omega) (by omega)]; omega)]
      exact wq_some rfl
  · rw [if_neg (show ¬ sI 1 = 0 by decide), if_neg (show ¬ sI 1 = 4 by decide), if_pos (show sI 1 = 1 from rfl), if_neg (show ¬ (1 : Nat) = 0 by omega), if_neg (show ¬ (1 : Nat) = 4 by omega)]
    exact edges 1 1 (b 3) (fun e u1 u2 => by rw [h8 e u1 u2]; exact sn_1 _ _ _)
  · rw [if_neg (show ¬ sI 2 = 0 by decide), if_neg (show ¬ sI 2 = 4 by decide), if_neg (show ¬ sI 2 = 1 by decide), if_pos (show sI 2 = 2 from rfl), if_neg (show ¬ (2 : Nat) = 0 by omega), if_neg (show ¬ (2 : Nat) = 4 by omega)]
    exact edges 2 2 (b 4) (fun e u1 u2 => by rw [h8 e u1 u2]; exact sn_2 _ _ _)
  · rw [if_neg (show ¬ sI 3 = 0 by decide), if_neg (show ¬ sI 3 = 4 by decide), if_neg (show ¬ sI 3 = 1 by decide), if_neg (show ¬ sI 3 = 2 by decide), if_neg (show ¬ (3 : Nat) = 0 by omega), if_neg (show ¬ (3 : Nat) = 4 by omega)]
    exact edges 3 4 (b 5) (fun e u1 u2 => by rw [h8 e u1 u2]; exact sn_4 _ _ _)
  · rw [if_neg (show ¬ sI 4 = 0 by decide), if_pos (show sI 4 = 4 from rfl), if_neg (show ¬ (4 : Nat) = 0 by omega), if_pos (show (4 : Nat) = 4 from rfl), h.2.2.2.1.2.2.2.1]
theorem m_covered {fu : Nat} {M : mwM} {L : mwL} {q j : Nat} {c : Nat → Nat → Nat} {b : Nat → Nat → Bool} {va : Nat → Int32} {D : Nat → Int64} {x : Nat → Int32} (hf : 402 ≤ fu) (hv : Cv c) (h : ReM q M L c b va D x) (hj : j ≤ 4) : DX13_covered fu q (sI j) M L = some (cvF c b x j, mset M q 0 0, L) := by
  have hN := hv.1.1
  have hE4 := hv.2.1.1
  have h0 : ReM q (mset M q 0 0) L c b va D x := ReM_f h (fun a y _ _ u => mset_n (by omega)) (fun _ _ _ => rfl)
  unfold DX13_covered
  simp only [mlet]
  rw [if_neg (by rw [show (0 : Int32) = sI 0 from rfl, sI_lt (by omega) (by omega)]; omega), if_pos (by rw [sI_lel (by omega) (by decide)]; exact hj)]
  generalize mset M q 0 0 = G at *
  have edges : ∀ (j : Nat) (p : Nat → Bool), 1 ≤ j → j ≤ 3 → (∀ e, 1 ≤ e → e ≤ c 0 1 → G (q + 13 + j) e = bI (p e)) → fX13_covered_b66 fu q (sI j) 0 G L = some (sI (ctN p (c 0 1)), G, L) := by
    intro j p hj1 hj2 hp
    unfold fX13_covered_b66
    have hh := wq_for (body := fun r z => fX13_covered_i68 fu q (sI j) r z.1 z.2.1 z.2.2.1 z.2.2.2) (Q := fun z => z = (sI (ctN p (c 0 1)), G, L)) (fun i (_ : Unit) => (sI (ctN p (i - 1)), sI i, G, L)) (fun i _ => 1 ≤ i) (c 0 1 + 1) ?_ ?_ (c 0 1) 1 () fu (by omega) (by omega) (Nat.le_refl _)
    · obtain ⟨z, hz, rfl⟩ := hh
      exact hz
    · intro i _ r hi hi1 ih
      obtain ⟨n, rfl⟩ : ∃ n, i = n + 1 := ⟨i - 1, by omega⟩
      have ih2 := ih () (by omega)
      simp only [show n + 1 + 1 - 1 = n + 1 from rfl] at ih2
      have e0 : ctN p (n + 1) = ctN p n + (if p (n + 1) = true then 1 else 0) := rfl
      rw [e0] at ih2
      show wq (fX13_covered_i68 fu q (sI j) r (sI (ctN p n)) (sI (n + 1)) G L) _
      have hpe2 := hp (n + 1) (by omega) (by omega)
      have fin : wq (if bI (p (n + 1)) = 0 then fX13_covered_b129 fu q (sI j) r (sI (ctN p n)) (sI (n + 1)) G L else fX13_covered_b123 fu q (sI j) r (sI (ctN p n)) (sI (n + 1)) G L) (fun z => z = (sI (ctN p (c 0 1)), G, L)) := by
        unfold fX13_covered_b129 fX13_covered_b123 fX13_covered_b130
        simp only [mlet]
        rw [sI_1, sI_1]
        cases hpe : p (n + 1) with
        | false =>
          rw [if_pos bI_f]
          rw [hpe, if_neg (by decide)] at ih2
          exact ih2
        | true =>
          rw [if_neg (by decide)]
          rw [hpe, if_pos rfl] at ih2
          exact ih2
      unfold fX13_covered_i68
      rw [h0.2.1.1, if_neg (by rw [sI_lt (by omega) (by omega)]; omega), if_neg (by rw [sI_lel (by omega) (by decide)]; omega)]
      rcases (show j = 1 ∨ j = 2 ∨ j = 3 by omega) with rfl | rfl | rfl
      · rw [if_pos (show sI 1 = 1 from rfl), mck_s (by omega) (by omega), sI_nn (by omega), show G (q + 14) (n + 1) = bI (p (n + 1)) from hpe2]
        exact fin
      · rw [if_neg (show ¬ sI 2 = 1 by decide), if_pos (show sI 2 = 2 from rfl), mck_s (by omega) (by omega), sI_nn (by omega), show G (q + 15) (n + 1) = bI (p (n + 1)) from hpe2]
        exact fin
      · rw [if_neg (show ¬ sI 3 = 1 by decide), if_neg (show ¬ sI 3 = 2 by decide), mck_s (by omega) (by omega), sI_nn (by omega), show G (q + 16) (n + 1) = bI (p (n + 1)) from hpe2]
        exact fin
    · intro _ r _
      show wq (fX13_covered_i68 fu q (sI j) r (sI (ctN p (c 0 1))) (sI (c 0 1 + 1)) G L) _
      unfold fX13_covered_i68 fX13_covered_b137
      rw [h0.2.1.1, if_pos (by rw [sI_lt (by omega) (by omega)]; omega)]
      exact wq_some rfl
  have h8 := h0.2.2.2.2.2.2.2
  -- past the states
  have past : ∀ j : Nat, 1 ≤ j → j ≤ 3 → fX13_covered_h31 fu q (sI j) fu (0, 1, G, L) = fX13_covered_b66 fu q (sI j) 0 G L := by
    intro j hj1 hj2
    obtain ⟨f, hfu⟩ : ∃ f, fu = f + 1 := ⟨fu - 1, by omega⟩
    have : fX13_covered_h31 fu q (sI j) (f + 1) (0, 1, G, L) = fX13_covered_b66 fu q (sI j) 0 G L := by
      unfold fX13_covered_h31
      rw [mloop_S]
      show fX13_covered_i31 fu q (sI j) _ 0 1 G L = _
      unfold fX13_covered_i31
      split
      · rfl
      · rw [if_neg (by rw [sI_eql (by omega) (by decide)]; omega)]
    rw [← hfu] at this
    exact this
  unfold cvF
  rcases (show j = 0 ∨ j = 1 ∨ j = 2 ∨ j = 3 ∨ j = 4 by omega) with rfl | rfl | rfl | rfl | rfl
  · rw [if_neg (show ¬ sI 0 = 4 by decide), if_pos (show (0 : Nat) = 0 from rfl)]
    have hh := wq_for (body := fun r z => fX13_covered_i31 fu q (sI 0) r z.1 z.2.1 z.2.2.1 z.2.2.2) (Q := fun z => z = (sI (ctN (b 2) (c 0 0)), G, L)) (fun i (_ : Unit) => (sI (ctN (b 2) (i - 1)), sI i, G, L)) (fun i _ => 1 ≤ i) (c 0 0 + 1) ?_ ?_ (c 0 0) 1 () fu (by omega) (by omega) (Nat.le_refl _)
    · obtain ⟨z, hz, rfl⟩ := hh
      exact hz
    · intro i _ r hi hi1 ih
      obtain ⟨n, rfl⟩ : ∃ n, i = n + 1 := ⟨i - 1, by omega⟩
      have ih2 := ih () (by omega)
      simp only [show n + 1 + 1 - 1 = n + 1 from rfl] at ih2
      have e0 : ctN (b 2) (n + 1) = ctN (b 2) n + (if b 2 (n + 1) = true then 1 else 0) := rfl
      rw [e0] at ih2
      show wq (fX13_covered_i31 fu q (sI 0) r (sI (ctN (b 2) n)) (sI (n + 1)) G L) _
      have e8 := (h0.2.2.2.2.2.1 (n + 1) (by omega) (by omega)).2.2.2
      unfold fX13_covered_i31 fX13_covered_b59
      rw [h0.1.1, if_neg (by rw [sI_lt (by omega) (by omega)]; omega), if_pos (show sI 0 = 0 from rfl), mck_s (by omega) (by omega), sI_nn (by omega), e8]
      simp only [mlet]
      rw [sI_1, sI_1]
      cases hpe : b 2 (n + 1) with
      | false =>
        rw [if_pos bI_f]
        rw [hpe, if_neg (by decide)] at ih2
        exact ih2
      | true =>
        rw [if_neg (by decide)]
        rw [hpe, if_pos rfl] at ih2
        exact ih2
    · intro _ r _
      show wq (fX13_covered_i31 fu q (sI 0) r (sI (ctN (b 2) (c 0 0))) (sI (c 0 0 + 1)) G L) _
      unfold fX13_covered_i31 fX13_covered_b66
      rw [h0.1.1, if_pos (by rw [sI_lt (by omega) (by omega)]; omega)]
      obtain ⟨f, hfu⟩ : ∃ f, fu = f + 1 := ⟨fu - 1, by omega⟩
      have : wq (fX13_covered_h68 fu q (sI 0) (f + 1) (sI (ctN (b 2) (c 0 0)), 1, G, L)) (fun z => z = (sI (ctN (b 2) (c 0 0)), G, L)) := by
        unfold fX13_covered_h68
        rw [mloop_S]
        show wq (fX13_covered_i68 fu q (sI 0) _ (sI (ctN (b 2) (c 0 0))) 1 G L) _
        unfold fX13_covered_i68 fX13_covered_b137
        exact wq_if (fun _ => wq_some rfl) (fun _ => by rw [if_pos (by decide)]; exact wq_some rfl)
      rw [← hfu] at this
      exact this
  · rw [if_neg (show ¬ sI 1 = 4 by decide), if_neg (show ¬ (1 : Nat) = 0 by omega), if_neg (show ¬ (1 : Nat) = 4 by omega), past 1 (by omega) (by omega)]
    exact edges 1 (b 3) (by omega) (by omega) (fun e u1 u2 => (h8 e u1 u2).1)
  · rw [if_neg (show ¬ sI 2 = 4 by decide), if_neg (show ¬ (2 : Nat) = 0 by omega), if_neg (show ¬ (2 : Nat) = 4 by omega), past 2 (by omega) (by omega)]
    exact edges 2 (b 4) (by omega) (by omega) (fun e u1 u2 => (h8 e u1 u2).2.1)
  · rw [if_neg (show ¬ sI 3 = 4 by decide), if_neg (show ¬ (3 : Nat) = 0 by omega), if_neg (show ¬ (3 : Nat) = 4 by omega), past 3 (by omega) (by omega)]
    exact edges 3 (b 5) (by omega) (by omega) (fun e u1 u2 => (h8 e u1 u2).2.2)
  · rw [if_pos (show sI 4 = 4 from rfl), if_neg (show ¬ (4 : Nat) = 0 by omega), if_pos (show (4 : Nat) = 4 from rfl), h0.2.2.2.1.2.2.2.1]
/-! a task that is done lets its chart work off what waits -/
theorem ev2_r {va : Nat → Int32} {e t i : Nat} {w : ZT} (h : i ≠ 13) (h2 : i ≠ 14) : (ev2 va e t w).2.1.1 i = w.1.1 i := by
  have h1 := spL_r (va := va) (t := t) h h2 1000 w
  unfold ev2
  split
  · split
    · exact h1
    · rw [ch_r h h2]
      exact (g_r (w := (spL va t 1000 w).2) h h2).trans h1
  · exact h1
theorem ev1_r {va : Nat → Int32} {e t i : Nat} {w : ZT} (h : i ≠ 13) (h2 : i ≠ 14) : (ev1 va e t w).2.1.1 i = w.1.1 i := by
  unfold ev1
  split
  · exact ev2_r h h2
  · split
    · rw [ev2_r h h2, ch_r h h2]; exact stZ_r h2
    · rw [ch_r h h2]; exact stZ_r h2
def wkS (va : Nat → Int32) (t e : Nat) (p : ZT × Int32) : ZT × Int32 := ((ev1 va e t p.1).2, if (ev1 va e t p.1).1 = true then p.2 else p.2 + 1)
def wkN (va : Nat → Int32) (t : Nat) (es : Nat → Nat) : Nat → ZT × Int32 → ZT × Int32
  | 0, p => p
  | i + 1, p => wkS va t (es i) (wkN va t es i p)
def wkZ (va : Nat → Int32) (t n : Nat) (es : Nat → Nat) (p : ZT × Int32) : ZT × Int32 := if dfl p.1.1.1 0 = 0 then p else if n = 0 then wkS va t 0 p else wkN va t es n p
theorem wkS_I {va : Nat → Int32} {t e : Nat} {p : ZT × Int32} (h : WI p.1) (ht : t ≤ 20000) : WI (wkS va t e p).1 := ev1_I h ht
theorem wkN_I {va : Nat → Int32} {t : Nat} {es : Nat → Nat} (ht : t ≤ 20000) : ∀ n p, WI p.1 → WI (wkN va t es n p).1 := by
  intro n
  induction n with
  | zero => intro p h; exact h
  | succ n ih => intro p h; exact wkS_I (ih p h) ht
theorem wkN_r {va : Nat → Int32} {t i : Nat} {es : Nat → Nat} (h : i ≠ 13) (h2 : i ≠ 14) : ∀ n p, (wkN va t es n p).1.1.1 i = p.1.1.1 i := by
  intro n
  induction n with
  | zero => intro p; rfl
  | succ n ih => intro p; exact (ev1_r h h2).trans (ih p)
theorem wkZ_I {va : Nat → Int32} {t n : Nat} {es : Nat → Nat} {p : ZT × Int32} (h : WI p.1) (ht : t ≤ 20000) : WI (wkZ va t n es p).1 := by
  unfold wkZ
  split
  · exact h
  · split
    · exact wkS_I h ht
    · exact wkN_I ht _ _ h
theorem c_workOff {fu : Nat} {A : mwM} {L : mwL} {k t n : Nat} {es : Nat → Nat} {va : Nat → Int32} {p : ZT × Int32} (hf : 1100 ≤ fu) (hw : WI p.1) (h : RcW k A L va p.1) (ht : t ≤ 20000) (hn : n ≤ 16) (h11 : A k 11 = sI n) (hes : ∀ i, i < n → A (k + 35) i = sI (es i) ∧ es i < 1000) (h13 : A k 13 = p.2) : wq (DX2_workOff fu k (sI t) A L) (fun z => RcW k z.1 z.2 va (wkZ va t n es p).1 ∧ z.1 k 13 = (wkZ va t n es p).2 ∧ z.1 k 11 = sI 0 ∧ (∀ a y, ¬ (k + 7 ≤ a ∧ a ≤ k + 17) → a ≠ k + 26 → a ≠ k + 27 → ¬ (a = k ∧ (11 ≤ y ∧ y ≤ 16)) → z.1 a y = A a y) ∧ ∀ a, a ≠ k + 34 → z.2 a = L a) := by
  have hdl : dfl p.1.1.1 0 ≤ p.1.1.1 0 0 := ch_le
  have hN := hw.1.1.1
  generalize hQ : (fun z : mwM × mwL => RcW k z.1 z.2 va (wkZ va t n es p).1 ∧ z.1 k 13 = (wkZ va t n es p).2 ∧ z.1 k 11 = sI 0 ∧ (∀ a y, ¬ (k + 7 ≤ a ∧ a ≤ k + 17) → a ≠ k + 26 → a ≠ k + 27 → ¬ (a = k ∧ (11 ≤ y ∧ y ≤ 16)) → z.1 a y = A a y) ∧ ∀ a, a ≠ k + 34 → z.2 a = L a) = Q
  -- one event
  have one : ∀ (β : Type) (e : Nat) (a : mwM) (l : mwL) (u : ZT × Int32) (K : mwM → mwL → Option β) (P : β → Prop), e < 1000 → WI u.1 → RcW k a l va u.1 → a k 13 = u.2 → a k 11 = sI 0 → (∀ b y, ¬ (k + 7 ≤ b ∧ b ≤ k + 17) → b ≠ k + 26 → b ≠ k + 27 → ¬ (b = k ∧ (11 ≤ y ∧ y ≤ 16)) → a b y = A b y) → (∀ b, b ≠ k + 34 → l b = L b) → (∀ a' l', RcW k a' l' va (wkS va t e u).1 → a' k 13 = (wkS va t e u).2 → a' k 11 = sI 0 → (∀ b y, ¬ (k + 7 ≤ b ∧ b ≤ k + 17) → b ≠ k + 26 → b ≠ k + 27 → ¬ (b = k ∧ (11 ≤ y ∧ y ≤ 16)) → a' b y = A b y) → (∀ b, b ≠ k + 34 → l' b = L b) → wq (K a' l') P) → wq (mb3 (DX2_happen fu k (sI e) (sI t) a l) (fun r M3 L4 => if r = 0 then K (mset M3 k 13 (M3 k 13 + 1)) L4 else K M3 L4)) P := by
    intro β e a l u K P he hu hr g13 g11 p1 p2 hK
    refine wq_b3 (c_happen hf hu hr ht he) ?_
    rintro r M1 L1 ⟨y1, y2, y3, y4⟩
    dsimp only at y1 y2 y3 y4
    subst y1
    have f13 : M1 k 13 = u.2 := (y3 _ _ (by omega) (by omega) (by omega) (by omega)).trans g13
    have f11 : M1 k 11 = sI 0 := (y3 _ _ (by omega) (by omega) (by omega) (by omega)).trans g11
    have fr : ∀ b y, ¬ (k + 7 ≤ b ∧ b ≤ k + 17) → b ≠ k + 26 → b ≠ k + 27 → ¬ (b = k ∧ (11 ≤ y ∧ y ≤ 16)) → M1 b y = A b y := fun b y u1 u2 u3 u4 => (y3 b y u1 u2 u3 (by omega)).trans (p1 b y u1 u2 u3 u4)
    have fl : ∀ b, b ≠ k + 34 → L1 b = L b := fun b u1 => (y4 b u1).trans (p2 b u1)
    cases hok : (ev1 va e t u.1).1 with
    | true =>
      rw [if_neg (by decide)]
      refine hK M1 L1 y2 ?_ f11 fr fl
      unfold wkS
      rw [hok, if_pos rfl]
      exact f13
    | false =>
      rw [if_pos bI_f]
      refine hK _ L1 (RcW_f y2 (fun b y u1 u2 u3 u4 u5 => mset_n (by omega)) rfl) ?_ (by rw [mset_j (by omega)]; exact f11) (fun b y u1 u2 u3 u4 => by rw [mset_n (by omega)]; exact fr b y u1 u2 u3 u4) fl
      unfold wkS
      rw [hok, if_neg (by decide), mset_s, f13]
  unfold DX2_workOff
  simp only [mlet]
  have hB : RcW k (mset A k 11 0) L va p.1 := RcW_f h (fun b y u1 u2 u3 u4 u5 => mset_n (by omega)) rfl
  have e6 : mset A k 11 0 (k + 6) ((0 : Int32).toNatClampNeg) = sI (dfl p.1.1.1 0) := by
    rw [mset_k (by omega)]
    exact (h.1.2.2.2.2.1 0 (Nat.zero_le _)).2.1
  rw [e6, h11]
  by_cases hd : dfl p.1.1.1 0 = 0
  · have e0 : wkZ va t n es p = p := by unfold wkZ; rw [if_pos hd]
    rw [if_pos (by rw [hd]; rfl), ← hQ, e0]
    refine wq_some ⟨hB, ?_, mset_s, fun b y u1 u2 u3 u4 => mset_n (by omega), fun _ _ => rfl⟩
    dsimp only
    rw [mset_j (by omega)]; exact h13
  rw [if_neg (by rw [sI_eql (by omega) (by decide)]; exact hd)]
  -- the row of events
  have row : ∀ (a : mwM) (l : mwL) (u : ZT × Int32), (n = 0 → u = wkZ va t n es p) → (n ≠ 0 → u = p) → WI u.1 → RcW k a l va u.1 → a k 13 = u.2 → a k 11 = sI 0 → (∀ b y, ¬ (k + 7 ≤ b ∧ b ≤ k + 17) → b ≠ k + 26 → b ≠ k + 27 → ¬ (b = k ∧ (11 ≤ y ∧ y ≤ 16)) → a b y = A b y) → (∀ b, b ≠ k + 34 → l b = L b) → wq (fX2_workOff_b45 fu k (sI t) (sI n) a l) Q := by
    intro a l u hu0 hu1 hu hr g13 g11 p1 p2
    unfold fX2_workOff_b45
    refine wq_for (body := fun r s => fX2_workOff_i47 fu k (sI t) r s.1 s.2.1 s.2.2.1 s.2.2.2) (fun i (w : mwM × mwL) => (sI n, sI i, w.1, w.2)) (fun i w => RcW k w.1 w.2 va (wkN va t es i u).1 ∧ w.1 k 13 = (wkN va t es i u).2 ∧ w.1 k 11 = sI 0 ∧ (∀ b y, ¬ (k + 7 ≤ b ∧ b ≤ k + 17) → b ≠ k + 26 → b ≠ k + 27 → ¬ (b = k ∧ (11 ≤ y ∧ y ≤ 16)) → w.1 b y = A b y) ∧ ∀ b, b ≠ k + 34 → w.2 b = L b) n ?_ ?_ n 0 (a, l) fu (by omega) (by omega) ⟨hr, g13, g11, p1, p2⟩
    · rintro i ⟨a, l⟩ r hi ⟨q1, q2, q3, q4, q5⟩ ih
      dsimp only at q1 q2 q3 q4 q5
      show wq (fX2_workOff_i47 fu k (sI t) r (sI n) (sI i) a l) _
      have key := fun (X : mwM) (Y : mwL) => ih (X, Y)
      dsimp only at key
      have e35 : a (k + 35) i = sI (es i) := (q4 _ _ (by omega) (by omega) (by omega) (by omega)).trans (hes i hi).1
      unfold fX2_workOff_i47 fX2_workOff_b76
      rw [if_neg (by rw [sI_le (by omega) (by omega)]; omega), mck_s (by omega) (by omega), sI_nn (by omega), e35]
      simp only [mlet]
      rw [sI_1]
      exact one _ (es i) a l (wkN va t es i u) (fun X Y => r (sI n, sI (i + 1), X, Y)) _ (hes i hi).2 (wkN_I ht _ _ hu) q1 q2 q3 q4 q5 (fun a' l' z1 z2 z3 z4 z5 => key a' l' ⟨z1, z2, z3, z4, z5⟩)
    · rintro ⟨a, l⟩ r ⟨q1, q2, q3, q4, q5⟩
      dsimp only at q1 q2 q3 q4 q5
      show wq (fX2_workOff_i47 fu k (sI t) r (sI n) (sI n) a l) _
      unfold fX2_workOff_i47
      rw [if_pos (by rw [sI_le (by omega) (by omega)]; exact Nat.le_refl _), ← hQ]
      have e0 : wkN va t es n u = wkZ va t n es p := by
        by_cases hz : n = 0
        · rw [← hu0 hz, hz]
          rfl
        · rw [hu1 hz]
          unfold wkZ
          rw [if_neg hd, if_neg hz]
      rw [e0] at q1 q2
      exact wq_some ⟨q1, q2, q3, q4, q5⟩
  have fB : ∀ b y, ¬ (k + 7 ≤ b ∧ b ≤ k + 17) → b ≠ k + 26 → b ≠ k + 27 → ¬ (b = k ∧ (11 ≤ y ∧ y ≤ 16)) → mset A k 11 0 b y = A b y := fun b y u1 u2 u3 u4 => mset_n (by omega)
  by_cases hz : n = 0
  · rw [if_pos (by rw [hz]; rfl)]
    refine one _ 0 _ L p (fun X Y => fX2_workOff_b45 fu k (sI t) (sI n) X Y) Q (by omega) hw hB (by rw [mset_j (by omega)]; exact h13) mset_s fB (fun _ _ => rfl) (fun a' l' z1 z2 z3 z4 z5 => row a' l' (wkS va t 0 p) (fun _ => ?_) (fun w => absurd hz w) (wkS_I hw ht) z1 z2 z3 z4 z5)
    unfold wkZ
    rw [if_neg hd, if_pos hz]
  · rw [if_neg (by rw [sI_eql (by omega) (by decide)]; exact hz)]
    exact row _ L p (fun w => absurd w hz) (fun _ => rfl) hw hB (by rw [mset_j (by omega)]; exact h13) mset_s fB (fun _ _ => rfl)
theorem m_taskDone {fu : Nat} {M : mwM} {L : mwL} {x t T n nw : Nat} {es : Nat → Nat} {va : Nat → Int32} {p : ZT × Int32} (hf : 1100 ≤ fu) (hT : T < 12) (hx : x < 12) (hw : WI p.1) (h : RmW (964 + 53 * x) M L va p.1) (ht : t ≤ 20000) (hn : n ≤ 16) (h747 : M 747 T = sI x) (h83 : M 732 83 = sI t) (h752 : M 752 x = sI n) (hes : ∀ i, i < n → M 753 (16 * x + i) = sI (es i) ∧ es i < 1000) (h751 : M 751 x = p.2) (hnw : L (964 + 53 * x) 28 = sL nw) (hnt : nw ≤ t) : wq (DX19_taskDone fu (sI T) M L) (fun z => RmW (964 + 53 * x) z.1 z.2 va (wkZ va t n es p).1 ∧ z.1 751 x = (wkZ va t n es p).2 ∧ z.1 752 x = sI 0 ∧ z.1 748 T = M 748 T + 1 ∧ (∃ nw', nw' ≤ t ∧ z.2 (964 + 53 * x) 28 = sL nw') ∧ (∀ a y, ¬ (964 + 53 * x ≤ a ∧ a ≤ 964 + 53 * x + 29) → ¬ (a = 748 ∧ y = T) → ¬ (a = 751 ∧ y = x) → ¬ (a = 752 ∧ y = x) → z.1 a y = M a y) ∧ ∀ a, a ≠ 964 + 53 * x → a ≠ 964 + 53 * x + 6 → a ≠ 964 + 53 * x + 21 → z.2 a = L a) := by
  obtain ⟨q, hq⟩ : ∃ q, q = 964 + 53 * x := ⟨_, rfl⟩
  rw [← hq] at h hnw ⊢
  generalize hQ : (fun z : mwM × mwL => RmW q z.1 z.2 va (wkZ va t n es p).1 ∧ z.1 751 x = (wkZ va t n es p).2 ∧ z.1 752 x = sI 0 ∧ z.1 748 T = M 748 T + 1 ∧ (∃ nw', nw' ≤ t ∧ z.2 q 28 = sL nw') ∧ (∀ a y, ¬ (q ≤ a ∧ a ≤ q + 29) → ¬ (a = 748 ∧ y = T) → ¬ (a = 751 ∧ y = x) → ¬ (a = 752 ∧ y = x) → z.1 a y = M a y) ∧ ∀ a, a ≠ q → a ≠ q + 6 → a ≠ q + 21 → z.2 a = L a) = Q
  -- what a step of events is, where nothing is there at all
  obtain ⟨S, hS⟩ : ∃ S : Nat → ZT × Int32 → ZT × Int32, S = fun e u => if dfl p.1.1.1 0 = 0 then u else wkS va t e u := ⟨_, rfl⟩
  have S_I : ∀ e u, WI u.1 → WI (S e u).1 := by
    intro e u hu
    rw [hS]
    dsimp only
    split
    · exact hu
    · exact wkS_I hu ht
  have S_r : ∀ e u, (u.1.1.1 0 = p.1.1.1 0 ∧ u.1.1.1 1 = p.1.1.1 1 ∧ u.1.1.1 2 = p.1.1.1 2) → ((S e u).1.1.1 0 = p.1.1.1 0 ∧ (S e u).1.1.1 1 = p.1.1.1 1 ∧ (S e u).1.1.1 2 = p.1.1.1 2) := by
    intro e u hu
    rw [hS]
    dsimp only
    split
    · exact hu
    · refine ⟨?_, ?_, ?_⟩
      · exact (ev1_r (by omega) (by omega)).trans hu.1
      · exact (ev1_r (by omega) (by omega)).trans hu.2.1
      · exact (ev1_r (by omega) (by omega)).trans hu.2.2
  have one : ∀ (β : Type) (e : Nat) (a : mwM) (l : mwL) (u : ZT × Int32) (K : mwM → mwL → Option β) (P : β → Prop), e < 1000 → WI u.1 → (u.1.1.1 0 = p.1.1.1 0 ∧ u.1.1.1 1 = p.1.1.1 1 ∧ u.1.1.1 2 = p.1.1.1 2) → RmW q a l va u.1 → a 751 x = u.2 → (∃ nw', nw' ≤ t ∧ l q 28 = sL nw') → (∀ a' l', RmW q a' l' va (S e u).1 → a' 751 x = (S e u).2 → (∃ nw', nw' ≤ t ∧ l' q 28 = sL nw') → (∀ b y, ¬ (q ≤ b ∧ b ≤ q + 29) → ¬ (b = 751 ∧ y = x) → a' b y = a b y) → (∀ b, b ≠ q → b ≠ q + 6 → b ≠ q + 21 → l' b = l b) → wq (K a' l') P) → wq (mb3 (DX13_event fu q (sI e) (sL t) a l) (fun r M3 L4 => if r = (-1) then mck (sI x) 12 (mck (sI x) 12 (K (mset M3 751 x (M3 751 x + 1)) L4)) else K M3 L4)) P := by
    intro β e a l u K P he hu hur hr g751 ⟨nw1, g1, g2⟩ hK
    have ed : dfl u.1.1.1 0 = dfl p.1.1.1 0 := by
      unfold dfl
      rw [hur.1, hur.2.1, hur.2.2]
    by_cases hd : dfl p.1.1.1 0 = 0
    · have eS : S e u = u := by rw [hS]; dsimp only; rw [if_pos hd]
      rw [eS] at hK
      refine wq_b3 (m_event0 hf hu hr ht he g2 g1 (by rw [ed]; exact hd)) ?_
      rintro r M1 L1 ⟨y1, y2, y3, y4⟩
      dsimp only at y1 y2 y3 y4
      subst y1 y4
      rw [if_neg (by decide)]
      exact hK M1 L1 y2 ((y3 _ _ (by omega)).trans g751) ⟨nw1, g1, g2⟩ (fun b y u1 u2 => y3 b y u1) (fun _ _ _ _ => rfl)
    · have eS : S e u = wkS va t e u := by rw [hS]; dsimp only; rw [if_neg hd]
      rw [eS] at hK
      refine wq_b3 (m_event hf hu hr ht he g2 g1 (by rw [ed]; exact hd)) ?_
      rintro r M1 L1 ⟨y1, y2, y3, y4, y5⟩
      dsimp only at y1 y2 y3 y4 y5
      have f751 : M1 751 x = u.2 := (y3 _ _ (by omega)).trans g751
      unfold reE at y1
      cases hok : (ev1 va e t u.1).1 with
      | true =>
        rw [hok, if_pos rfl] at y1
        obtain ⟨m, m1, m2⟩ := y1
        rw [if_neg (by
          rw [m2]
          intro z
          have h1 := congrArg Int32.toInt z
          rw [sI_toInt (by omega), show (-1 : Int32).toInt = -1 from by decide] at h1
          omega)]
        refine hK M1 L1 y2 ?_ ⟨t, Nat.le_refl _, y5⟩ (fun b y u1 u2 => y3 b y u1) y4
        unfold wkS
        rw [hok, if_pos rfl]
        exact f751
      | false =>
        rw [hok, if_neg (by decide)] at y1
        rw [if_pos y1, mck_s (by omega) (by omega), mck_s (by omega) (by omega)]
        refine hK _ L1 (RmW_n y2 (by rw [mset_k (by omega)]; exact y2.2.2.2.1.2.2.2.2.2.2) (fun b y u1 u2 u3 => mset_n (by omega))) ?_ ⟨t, Nat.le_refl _, y5⟩ (fun b y u1 u2 => by rw [mset_n u2]; exact y3 b y u1) y4
        unfold wkS
        rw [hok, if_neg (by decide), mset_s, f751]
  -- the row of events
  obtain ⟨SN, hSN⟩ : ∃ SN : Nat → ZT × Int32 → ZT × Int32, SN = fun i u => if dfl p.1.1.1 0 = 0 then u else wkN va t es i u := ⟨_, rfl⟩
  have SN_S : ∀ i u, SN (i + 1) u = S (es i) (SN i u) := by
    intro i u
    rw [hS, hSN]
    dsimp only
    split
    · rfl
    · rfl
  generalize hG : mset (mset M 748 T (M 748 T + 1)) 752 x 0 = G
  have G0 : ∀ a y, ¬ (a = 748 ∧ y = T) → ¬ (a = 752 ∧ y = x) → G a y = M a y := by
    intro a y u1 u2
    subst hG
    rw [mset_n u2, mset_n u1]
  have G748 : G 748 T = M 748 T + 1 := by
    subst hG
    rw [mset_k (by omega), mset_s]
  have G752 : G 752 x = sI 0 := by
    subst hG
    rw [mset_s]
    rfl
  have hGr : RmW q G L va p.1 := RmW_n h (by rw [G0 _ _ (by omega) (by omega)]; exact h.2.2.2.1.2.2.2.2.2.2) (fun b y u1 u2 u3 => G0 _ _ (by omega) (by omega))
  have row : ∀ (a : mwM) (l : mwL) (u : ZT × Int32), SN n u = wkZ va t n es p → WI u.1 → (u.1.1.1 0 = p.1.1.1 0 ∧ u.1.1.1 1 = p.1.1.1 1 ∧ u.1.1.1 2 = p.1.1.1 2) → RmW q a l va u.1 → a 751 x = u.2 → (∃ nw', nw' ≤ t ∧ l q 28 = sL nw') → (∀ b y, ¬ (q ≤ b ∧ b ≤ q + 29) → ¬ (b = 751 ∧ y = x) → a b y = G b y) → (∀ b, b ≠ q → b ≠ q + 6 → b ≠ q + 21 → l b = L b) → wq (fX19_taskDone_b69 fu (sI T) (sI x) (sI n) a l) Q := by
    intro a l u hfin hu hur hr g751 g28 p1 p2
    unfold fX19_taskDone_b69
    refine wq_for (body := fun r s => fX19_taskDone_i72 fu (sI T) r s.1 s.2.1 s.2.2.1 s.2.2.2.1 s.2.2.2.2) (fun i (w : mwM × mwL) => (sI x, sI n, sI i, w.1, w.2)) (fun i w => WI (SN i u).1 ∧ ((SN i u).1.1.1 0 = p.1.1.1 0 ∧ (SN i u).1.1.1 1 = p.1.1.1 1 ∧ (SN i u).1.1.1 2 = p.1.1.1 2) ∧ RmW q w.1 w.2 va (SN i u).1 ∧ w.1 751 x = (SN i u).2 ∧ (∃ nw', nw' ≤ t ∧ w.2 q 28 = sL nw') ∧ (∀ b y, ¬ (q ≤ b ∧ b ≤ q + 29) → ¬ (b = 751 ∧ y = x) → w.1 b y = G b y) ∧ ∀ b, b ≠ q → b ≠ q + 6 → b ≠ q + 21 → w.2 b = L b) n ?_ ?_ n 0 (a, l) fu (by omega) (by omega) ?_
    · rintro i ⟨a, l⟩ r hi ⟨q0, q0', q1, q2, q3, q4, q5⟩ ih
      dsimp only at q1 q2 q3 q4 q5
      show wq (fX19_taskDone_i72 fu (sI T) r (sI x) (sI n) (sI i) a l) _
      have key := fun (X : mwM) (Y : mwL) => ih (X, Y)
      dsimp only at key
      rw [SN_S] at key
      have e753 : a 753 (16 * x + i) = sI (es i) := by
        rw [q4 _ _ (by omega) (by omega), G0 _ _ (by omega) (by omega)]
        exact (hes i hi).1
      have e83 : a 732 83 = sI t := by
        rw [q4 _ _ (by omega) (by omega), G0 _ _ (by omega) (by omega)]
        exact h83
      unfold fX19_taskDone_i72 fX19_taskDone_b118
      simp (disch := omega) only [sI_lml, sI_add, e753, e83, sI_L, mck_s, sI_nn, nn_s, sI_lt, sI_le, sI_eq, sI_ltl, sI_lel, sI_eql, sI_llt, sI_lle, sI_1, bI_0, bI_1, bI_n, mlet, mb3_s, mb2_s]
      rw [if_neg (by omega), ← hq]
      have := one _ (es i) a l (SN i u) (fun X Y => r (sI x, sI n, sI (i + 1), X, Y)) Q (hes i hi).2 q0 q0' q1 q2 q3 (fun a' l' z1 z2 z3 z4 z5 => key a' l' ⟨S_I _ _ q0, S_r _ _ q0', z1, z2, z3, fun b y u1 u2 => (z4 b y u1 u2).trans (q4 b y u1 u2), fun b u1 u2 u3 => (z5 b u1 u2 u3).trans (q5 b u1 u2 u3)⟩)
      simp only [mck_s (show x < 12 from hx) (show x < 2000000000 by omega)] at this
      exact this
    · rintro ⟨a, l⟩ r ⟨q0, q0', q1, q2, q3, q4, q5⟩
      dsimp only at q1 q2 q3 q4 q5
      show wq (fX19_taskDone_i72 fu (sI T) r (sI x) (sI n) (sI n) a l) _
      unfold fX19_taskDone_i72
      rw [if_pos (by rw [sI_le (by omega) (by omega)]; exact Nat.le_refl _), ← hQ]
      rw [hfin] at q1 q2
      refine wq_some ⟨q1, q2, ?_, ?_, q3, fun b y u1 u2 u3 u4 => ?_, q5⟩
      all_goals (try dsimp only)
      · rw [q4 _ _ (by omega) (by omega)]; exact G752
      · rw [q4 _ _ (by omega) (by omega)]; exact G748
      · rw [q4 _ _ u1 u3, G0 _ _ u2 u4]
    · have e0 : SN 0 u = u := by
        rw [hSN]
        dsimp only
        split
        · rfl
        · rfl
      rw [e0]
      exact ⟨hu, hur, hr, g751, g28, p1, p2⟩
  unfold DX19_taskDone
  have e747 : mset M 748 T (M 748 T + 1) 747 T = sI x := by rw [mset_k (by omega)]; exact h747
  have e752 : mset M 748 T (M 748 T + 1) 752 x = sI n := by rw [mset_k (by omega)]; exact h752
  have e83 : G 732 83 = sI t := (G0 _ _ (by omega) (by omega)).trans h83
  simp (disch := omega) only [e747, e752, mck_s, sI_nn, nn_s, sI_lt, sI_le, sI_eq, sI_ltl, sI_lel, sI_eql, sI_llt, sI_lle, sI_1, bI_0, bI_1, bI_n, mlet, mb3_s, mb2_s]
  rw [hG, if_pos (by omega)]
  simp (disch := omega) only [e83, sI_L, mck_s, sI_nn, nn_s, sI_lt, sI_le, sI_eq, sI_ltl, sI_lel, sI_eql, sI_llt, sI_lle, sI_1, bI_0, bI_1, bI_n, mlet, mb3_s, mb2_s]
  rw [← hq]
  by_cases hz : n = 0
  · rw [if_pos hz]
    have := one _ 0 G L p (fun X Y => fX19_taskDone_b69 fu (sI T) (sI x) (sI n) X Y) Q (by omega) hw ⟨rfl, rfl, rfl⟩ hGr ((G0 _ _ (by omega) (by omega)).trans h751) ⟨nw, hnt, hnw⟩ (fun a' l' z1 z2 z3 z4 z5 => row a' l' (S 0 p) ?_ (S_I _ _ hw) (S_r _ _ ⟨rfl, rfl, rfl⟩) z1 z2 z3 z4 z5)
    · simp only [mck_s (show x < 12 from hx) (show x < 2000000000 by omega)] at this
      exact this
    · rw [hS, hSN]
      unfold wkZ
      dsimp only
      by_cases hd : dfl p.1.1.1 0 = 0
      · rw [if_pos hd, if_pos hd, if_pos hd]
      · rw [if_neg hd, if_neg hd, if_neg hd, if_pos hz, hz]
        rfl
  · rw [if_neg hz]
    refine row G L p ?_ hw ⟨rfl, rfl, rfl⟩ hGr ((G0 _ _ (by omega) (by omega)).trans h751) ⟨nw, hnt, hnw⟩ (fun _ _ _ _ => rfl) (fun _ _ _ _ => rfl)
    rw [hSN]
    unfold wkZ
    dsimp only
    by_cases hd : dfl p.1.1.1 0 = 0
    · rw [if_pos hd, if_pos hd]
    · rw [if_neg hd, if_neg hd, if_neg hz]
/-! TRANSFER: what both sides hold. n: numbers (0: counts, 1 controller, 2 size, 3 state, 4 begun at, 5 .. 9 receivers, 10 .. 12 frames), b: flags (0 asks, 1 gone, 2 something ended), o: octets of messages -/
def cmo (x : Nat) : Nat := if x ≤ 1 then x else x + 1
theorem cmo_1 {x : Nat} : cmo x = 1 ↔ x = 1 := by
  unfold cmo
  split <;> omega
theorem cmo_le {x : Nat} (h : x ≤ 3) : cmo x ≤ 4 := by
  unfold cmo
  split <;> omega
def TfC (A : mwM) (n : Nat → Nat → Nat) (b : Nat → Nat → Bool) (o : Nat → Nat → Nat) : Prop :=
  (A 154 5 = sI (n 0 0) ∧ A 154 6 = sI (n 0 1) ∧ A 154 7 = sI (n 0 2) ∧ A 154 8 = sI (n 0 4) ∧ A 154 9 = sI (n 0 3) ∧ A 154 10 = bI (b 2 0)) ∧
  (∀ m, 1 ≤ m → m ≤ n 0 0 → A 156 m = sI (n 1 m) ∧ A 157 m = bI (b 0 m) ∧ A 158 m = sI (n 2 m) ∧ A 159 m = sI (n 3 m) ∧ (n 3 m ≠ 0 → A 160 m = sI (n 4 m)) ∧ ∀ i, i < n 2 m → A (162 + m) i = sI (o m i)) ∧
  (∀ r, r < 4 → A 264 r = sI (cmo (n 5 r)) ∧ (n 5 r = 1 → A 265 r = sI (n 6 r) ∧ A 266 r = sI (n 7 r) ∧ A 267 r = sI (n 8 r) ∧ A 268 r = sI (n 9 r))) ∧
  ∀ f, f < n 0 1 → A 270 f = sI (n 10 f) ∧ A 271 f = sI (n 11 f) ∧ A 272 f = sI (n 12 f) ∧ A 273 f = bI (b 1 f)
/-- how many frames a message may have had made -/
def csN (s : Nat) : Nat := (s - 6 + 6) / 7
def cbF (n : Nat → Nat → Nat) (b : Nat → Nat → Bool) (m : Nat) : Nat := (if n 3 m = 0 then 0 else 1) + (if b 3 m = true then 1 else 0) + (if n 3 m = 3 ∧ 8 ≤ n 2 m then csN (n 2 m) else 0)
def suN (g : Nat → Nat) : Nat → Nat
  | 0 => 0
  | m + 1 => suN g m + g (m + 1)
theorem su_le {g h : Nat → Nat} : ∀ k, (∀ m, 1 ≤ m → m ≤ k → g m ≤ h m) → suN g k ≤ suN h k := by
  intro k
  induction k with
  | zero => intro _; exact Nat.le_refl _
  | succ k ih =>
    intro hh
    have h1 := ih (fun m u1 u2 => hh m u1 (by omega))
    have h2 := hh (k + 1) (by omega) (Nat.le_refl _)
    show suN g k + g (k + 1) ≤ suN h k + h (k + 1)
    omega
theorem su_c {c : Nat} : ∀ k, suN (fun _ => c) k = c * k := by
  intro k
  induction k with
  | zero => rfl
  | succ k ih =>
    show suN (fun _ => c) k + c = c * (k + 1)
    rw [ih, Nat.mul_succ]
/-- one summand grows -/
theorem su_1 {g h : Nat → Nat} {j d : Nat} : ∀ k, 1 ≤ j → j ≤ k → (∀ m, 1 ≤ m → m ≤ k → m ≠ j → h m = g m) → h j = g j + d → suN h k = suN g k + d := by
  intro k
  induction k with
  | zero => intro h1 h2; omega
  | succ k ih =>
    intro h1 h2 h3 h4
    show suN h k + h (k + 1) = suN g k + g (k + 1) + d
    by_cases hq : j = k + 1
    · subst hq
      have : suN h k = suN g k := by
        clear ih h2 h4
        have : ∀ i, i ≤ k → suN h i = suN g i := by
          intro i
          induction i with
          | zero => intro _; rfl
          | succ i ih2 =>
            intro hi
            show suN h i + h (i + 1) = suN g i + g (i + 1)
            rw [ih2 (by omega), h3 (i + 1) (by omega) (by omega) (by omega)]
        exact this k (Nat.le_refl _)
      omega
    · have := ih h1 (by omega) (fun m u1 u2 u3 => h3 m u1 (by omega) u3) h4
      have h5 := h3 (k + 1) (by omega) (Nat.le_refl _) (by omega)
      omega
def TfV (n : Nat → Nat → Nat) (b : Nat → Nat → Bool) : Prop :=
  (n 0 0 ≤ 100 ∧ n 0 2 ≤ n 0 1 ∧ n 0 3 ≤ 20000 ∧ n 0 4 ≤ n 0 0 ∧ n 0 1 ≤ suN (cbF n b) (n 0 0)) ∧
  (∀ m, 1 ≤ m → m ≤ n 0 0 → n 1 m < 6 ∧ 1 ≤ n 2 m ∧ n 2 m ≤ 100 ∧ n 3 m ≤ 4 ∧ n 4 m ≤ n 0 3 ∧ (n 3 m = 1 ∨ n 3 m = 2 → 8 ≤ n 2 m) ∧ (m ≤ n 0 4 → 3 ≤ n 3 m) ∧ (b 3 m = true → n 3 m ≠ 0)) ∧
  (∀ r, r < 4 → n 5 r ≤ 3 ∧ (n 5 r = 1 → 1 ≤ n 6 r ∧ n 6 r ≤ n 0 0 ∧ n 6 r % 4 = r ∧ 1 ≤ n 8 r ∧ n 8 r ≤ 15 ∧ n 7 r = 6 + 7 * (n 8 r - 1) ∧ n 7 r < n 2 (n 6 r) ∧ n 9 r ≤ n 0 3)) ∧
  ∀ f, f < n 0 1 → n 10 f ≤ 3 ∧ 1 ≤ n 11 f ∧ n 11 f ≤ n 0 0 ∧ n 3 (n 11 f) ≠ 0 ∧ (n 10 f = 0 → n 2 (n 11 f) ≤ 7) ∧ (n 10 f ≠ 0 → 8 ≤ n 2 (n 11 f)) ∧ (n 10 f = 2 → 1 ≤ n 12 f ∧ 6 + 7 * (n 12 f - 1) < n 2 (n 11 f)) ∧ (n 10 f ≠ 2 → n 12 f = 0) ∧ (n 10 f = 1 → (b 1 f = false → b 3 (n 11 f) = false) ∧ ∀ f', f' < n 0 1 → n 10 f' = 1 → n 11 f' = n 11 f → f' = f)
theorem cs_le {s : Nat} (h : s ≤ 100) : csN s ≤ 14 := by
  unfold csN
  omega
theorem cb_le {n : Nat → Nat → Nat} {b : Nat → Nat → Bool} {m : Nat} (h : n 2 m ≤ 100) : cbF n b m ≤ 16 := by
  have := cs_le h
  unfold cbF
  split <;> split <;> split <;> omega
theorem Tf_F {n : Nat → Nat → Nat} {b : Nat → Nat → Bool} (h : TfV n b) : n 0 1 ≤ 1600 := by
  have h1 := h.1.2.2.2.2
  have h2 := su_le (g := cbF n b) (h := fun _ => 16) (n 0 0) (fun m u1 u2 => cb_le (h.2.1 m u1 u2).2.2.1)
  rw [su_c] at h2
  have := h.1.1
  omega
/-- a frame is made -/
def mkN (n : Nat → Nat → Nat) (kd m sq : Nat) : Nat → Nat → Nat := mset (mset (mset (mset n 10 (n 0 1) kd) 11 (n 0 1) m) 12 (n 0 1) sq) 0 1 (n 0 1 + 1)
def mkB (n : Nat → Nat → Nat) (b : Nat → Nat → Bool) : Nat → Nat → Bool := mset b 1 (n 0 1) false
theorem c_makeFrame {fu kd m sq : Nat} {A : mwM} {L : mwL} {n : Nat → Nat → Nat} {b : Nat → Nat → Bool} {o : Nat → Nat → Nat} (h : TfC A n b o) (hK : n 0 0 ≤ 100) (hF : n 0 1 < 1600) : wq (DX9_makeFrame fu (sI kd) (sI m) (sI sq) A L) (fun z => z.2 = L ∧ TfC z.1 (mkN n kd m sq) (mkB n b) o ∧ ∀ a y, ¬ (270 ≤ a ∧ a ≤ 273) → ¬ (a = 154 ∧ y = 6) → z.1 a y = A a y) := by
  obtain ⟨⟨h1, h2, h3, h4, h5, h6⟩, hm, hr, hfr⟩ := h
  unfold DX9_makeFrame
  simp (disch := omega) only [h2, mset_n, mck_s, sI_nn, nn_s, sI_lt, sI_le, sI_eq, sI_ltl, sI_lel, sI_eql, sI_llt, sI_lle, sI_1, bI_0, bI_1, bI_n, mlet, mb3_s, mb2_s]
  rw [if_pos (by omega)]
  refine wq_some ⟨rfl, ?_, fun a y u1 u2 => ?_⟩
  all_goals (try dsimp only)
  · unfold TfC mkN mkB
    refine ⟨?_, ?_, ?_, ?_⟩
    · simp (disch := omega) only [mset_n, mset_s]
      exact ⟨h1, trivial, h3, h4, h5, h6⟩
    · intro j u1 u2
      simp (disch := omega) only [mset_n] at u2
      simp (disch := omega) only [mset_n]
      exact hm j u1 u2
    · intro r u
      simp (disch := omega) only [mset_n]
      exact hr r u
    · intro f u
      rw [mset_s] at u
      by_cases hq : f = n 0 1
      · subst hq
        simp (disch := omega) only [mset_n, mset_s, true_and, and_true]
        rfl
      · simp (disch := omega) only [mset_n]
        exact hfr f (by omega)
  · simp (disch := omega) only [mset_n]
/-! a message begins -/
def bgN (n : Nat → Nat → Nat) (m : Nat) : Nat → Nat → Nat := mset (mset (mkN n (if n 2 m ≤ 7 then 0 else 1) m 0) 3 m (if n 2 m ≤ 7 then 3 else 1)) 4 m (n 0 3)
theorem c_begin9 {fu m : Nat} {A : mwM} {L : mwL} {n : Nat → Nat → Nat} {b : Nat → Nat → Bool} {o : Nat → Nat → Nat} (h : TfC A n b o) (hK : n 0 0 ≤ 100) (hF : n 0 1 < 1600) (hm : 1 ≤ m ∧ m ≤ n 0 0) (hs : n 2 m ≤ 100) : wq (DX9_begin fu (sI m) A L) (fun z => z.2 = L ∧ TfC z.1 (bgN n m) (mkB n b) o ∧ ∀ a y, ¬ (270 ≤ a ∧ a ≤ 273) → ¬ (a = 154 ∧ y = 6) → a ≠ 159 → a ≠ 160 → z.1 a y = A a y) := by
  have e158 := (h.2.1 m hm.1 hm.2).2.2.1
  -- behind the frame
  have fin : ∀ (kd st : Nat) (v : Int32), kd = (if n 2 m ≤ 7 then 0 else 1) → st = (if n 2 m ≤ 7 then 3 else 1) → v = bI (decide (n 2 m ≤ 7)) → wq (fX9_begin_b29 fu (sI m) v (sI kd) A L) (fun z => z.2 = L ∧ TfC z.1 (bgN n m) (mkB n b) o ∧ ∀ a y, ¬ (270 ≤ a ∧ a ≤ 273) → ¬ (a = 154 ∧ y = 6) → a ≠ 159 → a ≠ 160 → z.1 a y = A a y) := by
    intro kd st v hkd hst hv
    unfold fX9_begin_b29
    refine wq_b2 (show wq (DX9_makeFrame fu (sI kd) (sI m) 0 A L) _ from c_makeFrame (sq := 0) h hK hF) ?_
    rintro M1 L1 ⟨y1, y2, y3⟩
    dsimp only at y1 y2 y3
    subst y1
    have e9 : M1 154 9 = sI (n 0 3) := (y3 _ _ (by omega) (by omega)).trans h.1.2.2.2.2.1
    have b50 : ∀ s : Int32, s = sI st → wq (fX9_begin_b50 fu (sI m) s M1 L1) (fun z => z.2 = L1 ∧ TfC z.1 (bgN n m) (mkB n b) o ∧ ∀ a y, ¬ (270 ≤ a ∧ a ≤ 273) → ¬ (a = 154 ∧ y = 6) → a ≠ 159 → a ≠ 160 → z.1 a y = A a y) := by
      intro s hs2
      unfold fX9_begin_b50
      simp (disch := omega) only [e9, mset_n, mck_s, sI_nn, nn_s, sI_lt, sI_le, sI_eq, sI_ltl, sI_lel, sI_eql, sI_llt, sI_lle, sI_1, bI_0, bI_1, bI_n, mlet, mb3_s, mb2_s]
      refine wq_some ⟨rfl, ?_, fun a y u1 u2 u3 u4 => ?_⟩
      all_goals (try dsimp only)
      · obtain ⟨k1, k2, k3, k4⟩ := y2
        have c0 : ∀ j, bgN n m 0 j = mkN n kd m 0 0 j := by
          intro j
          unfold bgN
          simp (disch := omega) only [mset_n]
          rw [← hkd]
        have cr : ∀ i j, i ≠ 3 → i ≠ 4 → bgN n m i j = mkN n kd m 0 i j := by
          intro i j u1 u2
          unfold bgN
          simp (disch := omega) only [mset_n]
          rw [← hkd]
        have e3 : ∀ j, bgN n m 3 j = if j = m then st else mkN n kd m 0 3 j := by
          intro j
          unfold bgN
          by_cases hq : j = m
          · subst hq
            rw [mset_n (by omega), mset_s, if_pos rfl, hst]
          · rw [mset_n (by omega), mset_n (by omega), if_neg hq, ← hkd]
        have e4 : ∀ j, bgN n m 4 j = if j = m then n 0 3 else mkN n kd m 0 4 j := by
          intro j
          unfold bgN
          by_cases hq : j = m
          · subst hq
            rw [mset_s, if_pos rfl]
          · rw [mset_n (by omega), mset_n (by omega), if_neg hq, ← hkd]
        have K1 : mkN n kd m 0 0 0 = n 0 0 := by unfold mkN; simp (disch := omega) only [mset_n]
        refine ⟨?_, ?_, ?_, ?_⟩
        · rw [c0, c0, c0, c0, c0]
          simp (disch := omega) only [mset_n]
          exact k1
        · intro j u1 u2
          rw [c0] at u2
          have := k2 j u1 u2
          rw [K1] at u2
          rw [cr 1 j (by omega) (by omega), cr 2 j (by omega) (by omega), e3, e4]
          simp (disch := omega) only [mset_n]
          refine ⟨this.1, this.2.1, this.2.2.1, ?_, ?_, this.2.2.2.2.2⟩
          · by_cases hq : j = m
            · subst hq
              rw [mset_s, if_pos rfl, hs2]
            · rw [mset_j hq, if_neg hq]; exact this.2.2.2.1
          · by_cases hq : j = m
            · subst hq
              intro _
              rw [mset_s, if_pos rfl]
            · rw [mset_j hq, if_neg hq, if_neg hq]; exact this.2.2.2.2.1
        · intro r u
          rw [cr 5 r (by omega) (by omega), cr 6 r (by omega) (by omega), cr 7 r (by omega) (by omega), cr 8 r (by omega) (by omega), cr 9 r (by omega) (by omega)]
          simp (disch := omega) only [mset_n]
          exact k3 r u
        · intro f u
          rw [c0] at u
          rw [cr 10 f (by omega) (by omega), cr 11 f (by omega) (by omega), cr 12 f (by omega) (by omega)]
          simp (disch := omega) only [mset_n]
          exact k4 f u
      · simp (disch := omega) only [mset_n]
        exact y3 a y u1 u2
    by_cases h7 : n 2 m ≤ 7
    · rw [hv, decide_eq_true h7, if_neg (by decide)]
      exact b50 3 (by rw [hst, if_pos h7]; rfl)
    · rw [hv, decide_eq_false h7, if_pos bI_f]
      exact b50 1 (by rw [hst, if_neg h7]; rfl)
  unfold DX9_begin fX9_begin_b18
  simp (disch := omega) only [e158, mck_s, sI_nn, nn_s, sI_lt, sI_le, sI_eq, sI_ltl, sI_lel, sI_eql, sI_llt, sI_lle, sI_1, bI_0, bI_1, bI_n, mlet, mb3_s, mb2_s]
  by_cases h7 : n 2 m ≤ 7
  · rw [if_neg (by omega), if_neg (by decide)]
    exact fin 0 3 1 (by rw [if_pos h7]) (by rw [if_pos h7]) (by rw [decide_eq_true h7]; rfl)
  · rw [if_pos (by omega), if_pos trivial]
    exact fin 1 1 0 (by rw [if_neg h7]) (by rw [if_neg h7]) (by rw [decide_eq_false h7]; rfl)
/-! what holds stays: a message begins -/
theorem mk_r {n : Nat → Nat → Nat} {kd m sq i j : Nat} (h : i ≠ 0 ∨ j ≠ 1) (h2 : ¬ (10 ≤ i ∧ i ≤ 12)) : mkN n kd m sq i j = n i j := by
  unfold mkN
  rw [mset_n (by omega), mset_n (by omega), mset_n (by omega), mset_n (by omega)]
theorem mk_F {n : Nat → Nat → Nat} {kd m sq : Nat} : mkN n kd m sq 0 1 = n 0 1 + 1 := by
  unfold mkN
  rw [mset_s]
theorem mk_o {n : Nat → Nat → Nat} {kd m sq i j : Nat} (h : i ≠ 0) (h2 : j ≠ n 0 1) : mkN n kd m sq i j = n i j := by
  unfold mkN
  rw [mset_n (by omega), mset_n (by omega), mset_n (by omega), mset_n (by omega)]
theorem mk_10 {n : Nat → Nat → Nat} {kd m sq : Nat} : mkN n kd m sq 10 (n 0 1) = kd := by
  unfold mkN
  rw [mset_n (by omega), mset_n (by omega), mset_n (by omega), mset_s]
theorem mk_11 {n : Nat → Nat → Nat} {kd m sq : Nat} : mkN n kd m sq 11 (n 0 1) = m := by
  unfold mkN
  rw [mset_n (by omega), mset_n (by omega), mset_s]
theorem mk_12 {n : Nat → Nat → Nat} {kd m sq : Nat} : mkN n kd m sq 12 (n 0 1) = sq := by
  unfold mkN
  rw [mset_n (by omega), mset_s]
theorem mkB_r {n : Nat → Nat → Nat} {b : Nat → Nat → Bool} {i j : Nat} (h : i ≠ 1) : mkB n b i j = b i j := by
  unfold mkB
  rw [mset_n (by omega)]
theorem mkB_o {n : Nat → Nat → Nat} {b : Nat → Nat → Bool} {i j : Nat} (h : j ≠ n 0 1) : mkB n b i j = b i j := by
  unfold mkB
  rw [mset_n (by omega)]
theorem mkB_F {n : Nat → Nat → Nat} {b : Nat → Nat → Bool} : mkB n b 1 (n 0 1) = false := by
  unfold mkB
  rw [mset_s]
/-- a frame more: what must hold of it -/
def FrV (n : Nat → Nat → Nat) (b : Nat → Nat → Bool) (kd m sq : Nat) : Prop := kd ≤ 3 ∧ 1 ≤ m ∧ m ≤ n 0 0 ∧ n 3 m ≠ 0 ∧ (kd = 0 → n 2 m ≤ 7) ∧ (kd ≠ 0 → 8 ≤ n 2 m) ∧ (kd = 2 → 1 ≤ sq ∧ 6 + 7 * (sq - 1) < n 2 m) ∧ (kd ≠ 2 → sq = 0) ∧ (kd = 1 → b 3 m = false ∧ ∀ f, f < n 0 1 → n 10 f = 1 → n 11 f ≠ m)
/-- all but the count of frames -/
def TfW (n : Nat → Nat → Nat) (b : Nat → Nat → Bool) : Prop :=
  (n 0 0 ≤ 100 ∧ n 0 2 ≤ n 0 1 ∧ n 0 3 ≤ 20000 ∧ n 0 4 ≤ n 0 0) ∧
  (∀ m, 1 ≤ m → m ≤ n 0 0 → n 1 m < 6 ∧ 1 ≤ n 2 m ∧ n 2 m ≤ 100 ∧ n 3 m ≤ 4 ∧ n 4 m ≤ n 0 3 ∧ (n 3 m = 1 ∨ n 3 m = 2 → 8 ≤ n 2 m) ∧ (m ≤ n 0 4 → 3 ≤ n 3 m) ∧ (b 3 m = true → n 3 m ≠ 0)) ∧
  (∀ r, r < 4 → n 5 r ≤ 3 ∧ (n 5 r = 1 → 1 ≤ n 6 r ∧ n 6 r ≤ n 0 0 ∧ n 6 r % 4 = r ∧ 1 ≤ n 8 r ∧ n 8 r ≤ 15 ∧ n 7 r = 6 + 7 * (n 8 r - 1) ∧ n 7 r < n 2 (n 6 r) ∧ n 9 r ≤ n 0 3)) ∧
  ∀ f, f < n 0 1 → n 10 f ≤ 3 ∧ 1 ≤ n 11 f ∧ n 11 f ≤ n 0 0 ∧ n 3 (n 11 f) ≠ 0 ∧ (n 10 f = 0 → n 2 (n 11 f) ≤ 7) ∧ (n 10 f ≠ 0 → 8 ≤ n 2 (n 11 f)) ∧ (n 10 f = 2 → 1 ≤ n 12 f ∧ 6 + 7 * (n 12 f - 1) < n 2 (n 11 f)) ∧ (n 10 f ≠ 2 → n 12 f = 0) ∧ (n 10 f = 1 → (b 1 f = false → b 3 (n 11 f) = false) ∧ ∀ f', f' < n 0 1 → n 10 f' = 1 → n 11 f' = n 11 f → f' = f)
theorem TfV_W {n : Nat → Nat → Nat} {b : Nat → Nat → Bool} : TfV n b ↔ TfW n b ∧ n 0 1 ≤ suN (cbF n b) (n 0 0) := by
  constructor
  · rintro ⟨⟨h1, h2, h3, h4, h5⟩, h6, h7, h8⟩
    exact ⟨⟨⟨h1, h2, h3, h4⟩, h6, h7, h8⟩, h5⟩
  · rintro ⟨⟨⟨h1, h2, h3, h4⟩, h6, h7, h8⟩, h5⟩
    exact ⟨⟨h1, h2, h3, h4, h5⟩, h6, h7, h8⟩
theorem W_mk {n : Nat → Nat → Nat} {b : Nat → Nat → Bool} {kd m sq : Nat} (h : TfW n b) (hf : FrV n b kd m sq) : TfW (mkN n kd m sq) (mkB n b) := by
  obtain ⟨⟨h1, h2, h3, h4⟩, h6, h7, h8⟩ := h
  obtain ⟨g1, g2, g3, g4, g5, g6, g7, g8, g9⟩ := hf
  refine ⟨⟨?_, ?_, ?_, ?_⟩, ?_, ?_, ?_⟩
  · rw [mk_r (by omega) (by omega)]; exact h1
  · rw [mk_r (by omega) (by omega), mk_F]; omega
  · rw [mk_r (by omega) (by omega)]; exact h3
  · rw [mk_r (by omega) (by omega), mk_r (by omega) (by omega)]; exact h4
  · intro j u1 u2
    rw [mk_r (by omega) (by omega)] at u2
    rw [mk_r (by omega) (by omega), mk_r (by omega) (by omega), mk_r (by omega) (by omega), mk_r (by omega) (by omega), mk_r (by omega) (by omega), mk_r (by omega) (by omega), mkB_r (by omega)]
    exact h6 j u1 u2
  · intro r u
    have := h7 r u
    rw [mk_r (by omega) (by omega), mk_r (by omega) (by omega), mk_r (by omega) (by omega), mk_r (by omega) (by omega), mk_r (by omega) (by omega), mk_r (by omega) (by omega), mk_r (by omega) (by omega), mk_r (by omega) (by omega)]
    exact this
  · intro f u
    rw [mk_F] at u
    have e0 : mkN n kd m sq 0 0 = n 0 0 := mk_r (by omega) (by omega)
    have e2 : ∀ j, mkN n kd m sq 2 j = n 2 j := fun j => mk_r (by omega) (by omega)
    have e3 : ∀ j, mkN n kd m sq 3 j = n 3 j := fun j => mk_r (by omega) (by omega)
    rw [e0, e2, e3, mkB_r (b := b) (show (3 : Nat) ≠ 1 by omega)]
    by_cases hq : f = n 0 1
    · subst hq
      rw [mk_10, mk_11, mk_12, mkB_F]
      refine ⟨g1, g2, g3, g4, g5, g6, g7, g8, fun hk => ⟨fun _ => (g9 hk).1, fun f' v1 v2 v3 => ?_⟩⟩
      rw [mk_F] at v1
      by_cases hq2 : f' = n 0 1
      · exact hq2
      · rw [mk_o (by omega) hq2] at v2 v3
        exact absurd v3 ((g9 hk).2 f' (by omega) v2)
    · have := h8 f (by omega)
      rw [mk_o (i := 10) (by omega) hq, mk_o (i := 11) (by omega) hq, mk_o (i := 12) (by omega) hq, mkB_o hq]
      refine ⟨this.1, this.2.1, this.2.2.1, this.2.2.2.1, this.2.2.2.2.1, this.2.2.2.2.2.1, this.2.2.2.2.2.2.1, this.2.2.2.2.2.2.2.1, fun hk => ⟨(this.2.2.2.2.2.2.2.2 hk).1, fun f' v1 v2 v3 => ?_⟩⟩
      rw [mk_F] at v1
      by_cases hq2 : f' = n 0 1
      · exfalso
        subst hq2
        rw [mk_10] at v2
        rw [mk_11] at v3
        exact (g9 v2).2 f (by omega) hk v3.symm
      · rw [mk_o (by omega) hq2] at v2 v3
        exact (this.2.2.2.2.2.2.2.2 hk).2 f' (by omega) v2 v3
theorem V_bg {n : Nat → Nat → Nat} {b : Nat → Nat → Bool} {m : Nat} (h : TfV n b) (h1 : 1 ≤ m) (h2 : m ≤ n 0 0) (h0 : n 3 m = 0) : TfV (bgN n m) (mkB n b) := by
  obtain ⟨hW, hs⟩ := TfV_W.mp h
  have hm := hW.2.1 m h1 h2
  have hb3 : b 3 m = false := by
    by_cases hx : b 3 m = true
    · exact absurd h0 (hm.2.2.2.2.2.2.2 hx)
    · simpa using hx
  obtain ⟨⟨w1, w2, w3, w4⟩, w6, w7, w8⟩ := hW
  have hS : ¬ m ≤ n 0 4 := fun z => by have := hm.2.2.2.2.2.2.1 z; omega
  -- first the state, then the frame
  obtain ⟨n1, hn1⟩ : ∃ n1, n1 = mset (mset n 3 m (if n 2 m ≤ 7 then 3 else 1)) 4 m (n 0 3) := ⟨_, rfl⟩
  have f3 : ∀ j, n1 3 j = if j = m then (if n 2 m ≤ 7 then 3 else 1) else n 3 j := by
    intro j
    rw [hn1, mset_n (by omega)]
    by_cases hq : j = m
    · rw [hq, mset_s, if_pos rfl]
    · rw [mset_j hq, if_neg hq]
  have f4 : ∀ j, n1 4 j = if j = m then n 0 3 else n 4 j := by
    intro j
    rw [hn1]
    by_cases hq : j = m
    · rw [hq, mset_s, if_pos rfl]
    · rw [mset_j hq, mset_n (by omega), if_neg hq]
  have fo : ∀ i j, i ≠ 3 → i ≠ 4 → n1 i j = n i j := by
    intro i j u1 u2
    rw [hn1, mset_n (by omega), mset_n (by omega)]
  have W1 : TfW n1 b := by
    refine ⟨?_, ?_, ?_, ?_⟩
    · rw [fo 0 0 (by omega) (by omega), fo 0 1 (by omega) (by omega), fo 0 2 (by omega) (by omega), fo 0 3 (by omega) (by omega), fo 0 4 (by omega) (by omega)]
      exact ⟨w1, w2, w3, w4⟩
    · intro j u1 u2
      rw [fo 0 0 (by omega) (by omega)] at u2
      have := w6 j u1 u2
      rw [fo 1 j (by omega) (by omega), fo 2 j (by omega) (by omega), fo 0 3 (by omega) (by omega), fo 0 4 (by omega) (by omega), f3, f4]
      by_cases hq : j = m
      · subst hq
        rw [if_pos rfl, if_pos rfl]
        refine ⟨this.1, this.2.1, this.2.2.1, ?_, Nat.le_refl _, ?_, fun z => absurd z hS, ?_⟩
        · split <;> omega
        · intro z
          by_cases h7 : n 2 j ≤ 7
          · rw [if_pos h7] at z; omega
          · omega
        · intro _
          split <;> omega
      · rw [if_neg hq, if_neg hq]
        exact this
    · intro r u
      rw [fo 5 r (by omega) (by omega), fo 6 r (by omega) (by omega), fo 7 r (by omega) (by omega), fo 8 r (by omega) (by omega), fo 9 r (by omega) (by omega), fo 0 0 (by omega) (by omega), fo 0 3 (by omega) (by omega), fo 2 _ (by omega) (by omega)]
      exact w7 r u
    · intro f u
      rw [fo 0 1 (by omega) (by omega)] at u
      have := w8 f u
      rw [fo 10 f (by omega) (by omega), fo 11 f (by omega) (by omega), fo 12 f (by omega) (by omega), fo 0 0 (by omega) (by omega), fo 0 1 (by omega) (by omega), fo 2 _ (by omega) (by omega), f3]
      have hne : n 11 f ≠ m := fun z => by
        have h4 := this.2.2.2.1
        rw [z] at h4
        exact h4 h0
      rw [if_neg hne]
      refine ⟨this.1, this.2.1, this.2.2.1, this.2.2.2.1, this.2.2.2.2.1, this.2.2.2.2.2.1, this.2.2.2.2.2.2.1, this.2.2.2.2.2.2.2.1, fun hk => ⟨(this.2.2.2.2.2.2.2.2 hk).1, fun f' v1 v2 v3 => ?_⟩⟩
      rw [fo 10 f' (by omega) (by omega)] at v2
      rw [fo 11 f' (by omega) (by omega)] at v3
      exact (this.2.2.2.2.2.2.2.2 hk).2 f' v1 v2 v3
  have hF1 : n1 0 1 = n 0 1 := fo 0 1 (by omega) (by omega)
  have eN : bgN n m = mkN n1 (if n 2 m ≤ 7 then 0 else 1) m 0 := by
    funext i j
    unfold bgN mkN
    rw [hF1, hn1]
    unfold mset
    by_cases a1 : i = 4 ∧ j = m
    · rw [if_pos a1, if_neg (by omega), if_neg (by omega), if_neg (by omega), if_neg (by omega), if_pos a1]
    · rw [if_neg a1]
      by_cases a2 : i = 3 ∧ j = m
      · rw [if_pos a2, if_neg (show ¬ (i = 0 ∧ j = 1) by omega), if_neg (show ¬ (i = 12 ∧ j = n 0 1) by omega), if_neg (show ¬ (i = 11 ∧ j = n 0 1) by omega), if_neg (show ¬ (i = 10 ∧ j = n 0 1) by omega), if_neg a1, if_pos a2]
      · rw [if_neg a2, if_neg a1, if_neg a2]
  have eB : mkB n b = mkB n1 b := by
    unfold mkB
    rw [hF1]
  have hFr : FrV n1 b (if n 2 m ≤ 7 then 0 else 1) m 0 := by
    refine ⟨by split <;> omega, h1, ?_, ?_, ?_, ?_, ?_, fun _ => rfl, fun _ => ⟨hb3, fun f u v => ?_⟩⟩
    · rw [fo 0 0 (by omega) (by omega)]; exact h2
    · rw [f3, if_pos rfl]
      split <;> omega
    · intro z
      rw [fo 2 m (by omega) (by omega)]
      by_cases h7 : n 2 m ≤ 7
      · exact h7
      · rw [if_neg h7] at z; omega
    · intro z
      rw [fo 2 m (by omega) (by omega)]
      by_cases h7 : n 2 m ≤ 7
      · rw [if_pos h7] at z; omega
      · omega
    · intro z
      split at z <;> omega
    · rw [fo 0 1 (by omega) (by omega)] at u
      rw [fo 11 f (by omega) (by omega)]
      intro z
      have h4 := (w8 f u).2.2.2.1
      rw [z] at h4
      exact h4 h0
  rw [TfV_W]
  refine ⟨?_, ?_⟩
  · rw [eN, eB]
    exact W_mk W1 hFr
  · have hK : bgN n m 0 0 = n 0 0 := by
      rw [eN, mk_r (by omega) (by omega)]; exact fo 0 0 (by omega) (by omega)
    have hF : bgN n m 0 1 = n 0 1 + 1 := by
      rw [eN, mk_F, hF1]
    rw [hK, hF]
    have e2 : ∀ j, bgN n m 2 j = n 2 j := fun j => by rw [eN, mk_r (by omega) (by omega)]; exact fo 2 j (by omega) (by omega)
    have e3 : ∀ j, bgN n m 3 j = if j = m then (if n 2 m ≤ 7 then 3 else 1) else n 3 j := fun j => by rw [eN, mk_r (by omega) (by omega)]; exact f3 j
    have eb3 : ∀ j, mkB n b 3 j = b 3 j := fun j => mkB_r (by omega)
    have := su_1 (g := cbF n b) (h := cbF (bgN n m) (mkB n b)) (j := m) (d := 1) (n 0 0) h1 h2 (fun j u1 u2 u3 => ?_) ?_
    · omega
    · unfold cbF
      rw [e2, e3, eb3, if_neg u3]
    · unfold cbF
      rw [e2, e3, eb3, if_pos rfl, hb3, h0]
      by_cases h7 : n 2 m ≤ 7
      · rw [if_pos h7]
        simp
        omega
      · rw [if_neg h7]
        simp
/-! a message goes on -/
abbrev PB := (Nat → Nat → Nat) × (Nat → Nat → Bool)
def coP (m : Nat) : Nat → PB → PB
  | 0, p => p
  | i + 1, p => (mkN (coP m i p).1 2 m (i + 1), mkB (coP m i p).1 (coP m i p).2)
def goP (m t : Nat) (p : PB) : PB := if p.1 3 m = 2 then (mset (coP m (csN (p.1 2 m)) p).1 3 m 3, (coP m (csN (p.1 2 m)) p).2) else if p.1 3 m = 1 ∧ 1000 ≤ t - p.1 4 m then (mset p.1 3 m 4, mset p.2 2 0 true) else p
theorem co_r {m i j : Nat} (h : i ≠ 0 ∨ j ≠ 1) (h2 : ¬ (10 ≤ i ∧ i ≤ 12)) : ∀ k p, (coP m k p).1 i j = p.1 i j := by
  intro k
  induction k with
  | zero => intro p; rfl
  | succ k ih => intro p; exact (mk_r h h2).trans (ih p)
theorem co_F {m : Nat} : ∀ k p, (coP m k p).1 0 1 = p.1 0 1 + k := by
  intro k
  induction k with
  | zero => intro p; rfl
  | succ k ih =>
    intro p
    have := ih p
    show mkN (coP m k p).1 2 m (k + 1) 0 1 = p.1 0 1 + (k + 1)
    rw [mk_F, this]
    omega
theorem co_b {m i j : Nat} (h : i ≠ 1) : ∀ k p, (coP m k p).2 i j = p.2 i j := by
  intro k
  induction k with
  | zero => intro p; rfl
  | succ k ih => intro p; exact (mkB_r h).trans (ih p)
theorem co_W {m : Nat} : ∀ k p, TfW p.1 p.2 → 1 ≤ m → m ≤ p.1 0 0 → p.1 3 m ≠ 0 → 8 ≤ p.1 2 m → k ≤ csN (p.1 2 m) → TfW (coP m k p).1 (coP m k p).2 := by
  intro k
  induction k with
  | zero => intro p h _ _ _ _ _; exact h
  | succ k ih =>
    intro p h h1 h2 h3 h4 h5
    have := ih p h h1 h2 h3 h4 (by omega)
    have e2 : (coP m k p).1 2 m = p.1 2 m := co_r (by omega) (by omega) k p
    refine W_mk this ⟨by omega, h1, ?_, ?_, fun z => by omega, fun _ => ?_, fun _ => ⟨by omega, ?_⟩, fun z => absurd rfl z, fun z => by omega⟩
    · rw [co_r (by omega) (by omega)]; exact h2
    · rw [co_r (by omega) (by omega)]; exact h3
    · rw [e2]; exact h4
    · rw [e2]
      unfold csN at h5
      omega
theorem V_st {n : Nat → Nat → Nat} {b b' : Nat → Nat → Bool} {m st : Nat} (h : TfW n b) (hb : ∀ i j, i ≠ 2 → b' i j = b i j) (h1 : 1 ≤ m) (h2 : m ≤ n 0 0) (h3 : n 3 m ≠ 0) (hst : 3 ≤ st ∧ st ≤ 4) : TfW (mset n 3 m st) b' := by
  obtain ⟨⟨w1, w2, w3, w4⟩, w6, w7, w8⟩ := h
  have fo : ∀ i j, i ≠ 3 → mset n 3 m st i j = n i j := fun i j u => mset_n (by omega)
  have f3 : ∀ j, mset n 3 m st 3 j = if j = m then st else n 3 j := by
    intro j
    by_cases hq : j = m
    · rw [hq, mset_s, if_pos rfl]
    · rw [mset_j hq, if_neg hq]
  refine ⟨?_, ?_, ?_, ?_⟩
  · rw [fo 0 0 (by omega), fo 0 1 (by omega), fo 0 2 (by omega), fo 0 3 (by omega), fo 0 4 (by omega)]
    exact ⟨w1, w2, w3, w4⟩
  · intro j u1 u2
    rw [fo 0 0 (by omega)] at u2
    have := w6 j u1 u2
    rw [fo 1 j (by omega), fo 2 j (by omega), fo 0 3 (by omega), fo 0 4 (by omega), fo 4 j (by omega), f3, hb 3 j (by omega)]
    by_cases hq : j = m
    · subst hq
      rw [if_pos rfl]
      exact ⟨this.1, this.2.1, this.2.2.1, hst.2, this.2.2.2.2.1, fun z => by omega, fun _ => hst.1, fun _ => by omega⟩
    · rw [if_neg hq]
      exact this
  · intro r u
    rw [fo 5 r (by omega), fo 6 r (by omega), fo 7 r (by omega), fo 8 r (by omega), fo 9 r (by omega), fo 0 0 (by omega), fo 0 3 (by omega), fo 2 _ (by omega)]
    exact w7 r u
  · intro f u
    rw [fo 0 1 (by omega)] at u
    have := w8 f u
    rw [fo 10 f (by omega), fo 11 f (by omega), fo 12 f (by omega), fo 0 0 (by omega), fo 0 1 (by omega), fo 2 _ (by omega), f3, hb 1 f (by omega), hb 3 _ (by omega)]
    refine ⟨this.1, this.2.1, this.2.2.1, ?_, this.2.2.2.2.1, this.2.2.2.2.2.1, this.2.2.2.2.2.2.1, this.2.2.2.2.2.2.2.1, fun hk => ⟨(this.2.2.2.2.2.2.2.2 hk).1, fun f' v1 v2 v3 => ?_⟩⟩
    · split
      · omega
      · exact this.2.2.2.1
    · rw [fo 10 f' (by omega)] at v2
      rw [fo 11 f' (by omega)] at v3
      exact (this.2.2.2.2.2.2.2.2 hk).2 f' v1 v2 v3
theorem V_go {m t : Nat} {p : PB} (h : TfV p.1 p.2) (h1 : 1 ≤ m) (h2 : m ≤ p.1 0 0) : TfV (goP m t p).1 (goP m t p).2 := by
  obtain ⟨hW, hs⟩ := TfV_W.mp h
  have hm := hW.2.1 m h1 h2
  unfold goP
  by_cases a1 : p.1 3 m = 2
  · rw [if_pos a1]
    dsimp only
    have h8 : 8 ≤ p.1 2 m := hm.2.2.2.2.2.1 (Or.inr a1)
    have cW := co_W (csN (p.1 2 m)) p hW h1 h2 (by omega) h8 (Nat.le_refl _)
    have hK : (coP m (csN (p.1 2 m)) p).1 0 0 = p.1 0 0 := co_r (by omega) (by omega) _ p
    rw [TfV_W]
    refine ⟨V_st cW (fun _ _ _ => rfl) h1 (by rw [hK]; exact h2) (by rw [co_r (by omega) (by omega)]; omega) (by omega), ?_⟩
    rw [mset_n (by omega), mset_n (by omega), hK, co_F]
    have := su_1 (g := cbF p.1 p.2) (h := cbF (mset (coP m (csN (p.1 2 m)) p).1 3 m 3) (coP m (csN (p.1 2 m)) p).2) (j := m) (d := csN (p.1 2 m)) (p.1 0 0) h1 h2 (fun j u1 u2 u3 => ?_) ?_
    · omega
    · unfold cbF
      rw [mset_j u3, mset_n (show ¬ (2 = 3 ∧ j = m) by omega), co_r (by omega) (by omega), co_r (by omega) (by omega), co_b (by omega)]
    · unfold cbF
      rw [mset_s, mset_n (show ¬ (2 = 3 ∧ m = m) by omega), co_r (by omega) (by omega), co_b (by omega), a1]
      simp [h8]
  · rw [if_neg a1]
    by_cases a2 : p.1 3 m = 1 ∧ 1000 ≤ t - p.1 4 m
    · rw [if_pos a2]
      dsimp only
      rw [TfV_W]
      refine ⟨V_st hW (fun i j u => mset_n (by omega)) h1 h2 (by omega) (by omega), ?_⟩
      rw [mset_n (by omega), mset_n (by omega)]
      refine Nat.le_trans hs (su_le _ (fun j u1 u2 => ?_))
      unfold cbF
      rw [mset_n (show ¬ (2 = 3 ∧ j = m) by omega), mset_n (M := p.2) (show ¬ (3 = 2 ∧ j = 0) by omega)]
      by_cases hq : j = m
      · subst hq
        rw [mset_s, a2.1]
        simp
      · rw [mset_j hq]
        exact Nat.le_refl _
    · rw [if_neg a2]
      exact h
/-- the class: a message goes on -/
theorem TfC_st {A A' : mwM} {n : Nat → Nat → Nat} {b b' : Nat → Nat → Bool} {o : Nat → Nat → Nat} {m st : Nat} (h : TfC A n b o) (hK : n 0 0 ≤ 100) (hst : st ≠ 0) (h3 : n 3 m ≠ 0) (h159 : ∀ j, A' 159 j = if j = m then sI st else A 159 j) (h10 : A' 154 10 = bI (b' 2 0)) (hA : ∀ a y, a ≠ 159 → ¬ (a = 154 ∧ y = 10) → A' a y = A a y) (hb : ∀ i j, i ≠ 2 → b' i j = b i j) : TfC A' (mset n 3 m st) b' o := by
  obtain ⟨k1, k2, k3, k4⟩ := h
  have fo : ∀ i j, i ≠ 3 → mset n 3 m st i j = n i j := fun i j u => mset_n (by omega)
  refine ⟨?_, ?_, ?_, ?_⟩
  · rw [fo 0 0 (by omega), fo 0 1 (by omega), fo 0 2 (by omega), fo 0 3 (by omega), fo 0 4 (by omega), h10]
    simp (disch := omega) only [hA]
    exact ⟨k1.1, k1.2.1, k1.2.2.1, k1.2.2.2.1, k1.2.2.2.2.1, trivial⟩
  · intro j u1 u2
    rw [fo 0 0 (by omega)] at u2
    have := k2 j u1 u2
    rw [fo 1 j (by omega), fo 2 j (by omega), fo 4 j (by omega), h159, hb 0 j (by omega)]
    simp (disch := omega) only [hA]
    refine ⟨this.1, this.2.1, this.2.2.1, ?_, ?_, this.2.2.2.2.2⟩
    · by_cases hq : j = m
      · rw [if_pos hq, hq, mset_s]
      · rw [if_neg hq, mset_j hq]; exact this.2.2.2.1
    · intro z
      by_cases hq : j = m
      · rw [hq] at this ⊢
        exact this.2.2.2.2.1 h3
      · rw [mset_j hq] at z
        exact this.2.2.2.2.1 z
  · intro r u
    rw [fo 5 r (by omega), fo 6 r (by omega), fo 7 r (by omega), fo 8 r (by omega), fo 9 r (by omega)]
    simp (disch := omega) only [hA]
    exact k3 r u
  · intro f u
    rw [fo 0 1 (by omega)] at u
    rw [fo 10 f (by omega), fo 11 f (by omega), fo 12 f (by omega), hb 1 f (by omega)]
    simp (disch := omega) only [hA]
    exact k4 f u
theorem m7_le {l : Nat} (h : l ≤ 7) : sI l + (-7) ≤ 0 := by
  rcases (show l = 0 ∨ l = 1 ∨ l = 2 ∨ l = 3 ∨ l = 4 ∨ l = 5 ∨ l = 6 ∨ l = 7 by omega) with rfl | rfl | rfl | rfl | rfl | rfl | rfl | rfl <;> decide
theorem c_goOn9 {fu m t : Nat} {A : mwM} {L : mwL} {p : PB} {o : Nat → Nat → Nat} (hf : 20 ≤ fu) (hv : TfV p.1 p.2) (h : TfC A p.1 p.2 o) (h1 : 1 ≤ m) (h2 : m ≤ p.1 0 0) (ht : t ≤ 20000) (htc : p.1 0 3 ≤ t) : wq (DX9_goOn fu (sI m) (sI t) A L) (fun z => z.2 = L ∧ TfC z.1 (goP m t p).1 (goP m t p).2 o ∧ ∀ a y, ¬ (270 ≤ a ∧ a ≤ 273) → ¬ (a = 154 ∧ (y = 6 ∨ y = 10)) → a ≠ 159 → z.1 a y = A a y) := by
  have hK := hv.1.1
  have hm := hv.2.1 m h1 h2
  have vg := V_go (t := t) hv h1 h2
  obtain ⟨e156, e157, e158, e159, e160, _⟩ := h.2.1 m h1 h2
  unfold DX9_goOn fX9_goOn_b105
  have eg : goP m t p = if p.1 3 m = 2 then (mset (coP m (csN (p.1 2 m)) p).1 3 m 3, (coP m (csN (p.1 2 m)) p).2) else if p.1 3 m = 1 ∧ 1000 ≤ t - p.1 4 m then (mset p.1 3 m 4, mset p.2 2 0 true) else p := rfl
  rw [mck_s (by omega) (by omega), sI_nn (by omega), e159]
  by_cases a1 : p.1 3 m = 2
  · rw [if_pos a1] at eg
    rw [if_pos (by rw [a1]; rfl), mck_s (by omega) (by omega), e158]
    have h8 : 8 ≤ p.1 2 m := hm.2.2.2.2.2.1 (Or.inr a1)
    have cs14 := cs_le hm.2.2.1
    have hFt : (goP m t p).1 0 1 = p.1 0 1 + csN (p.1 2 m) := by
      rw [eg]
      dsimp only
      rw [mset_n (by omega), co_F]
    have hF := Tf_F vg
    rw [hFt] at hF
    simp only [mlet]
    rw [show sI (p.1 2 m) - 6 = sI (p.1 2 m - 6) from sI_sub (b := 6) (by omega)]
    -- the frames
    have key : ∀ (j i left f : Nat) (a : mwM), i + j = csN (p.1 2 m) → left = p.1 2 m - 6 - 7 * i → j < f → TfC a (coP m i p).1 (coP m i p).2 o → (∀ b y, ¬ (270 ≤ b ∧ b ≤ 273) → ¬ (b = 154 ∧ y = 6) → a b y = A b y) → ∀ lv : Int32, (if left = 0 then lv ≤ 0 else lv = sI left) → wq (fX9_goOn_h27 fu (sI m) (sI t) f (lv, sI (i + 1), a, L)) (fun z => z.2 = L ∧ TfC z.1 (goP m t p).1 (goP m t p).2 o ∧ ∀ a y, ¬ (270 ≤ a ∧ a ≤ 273) → ¬ (a = 154 ∧ (y = 6 ∨ y = 10)) → a ≠ 159 → z.1 a y = A a y) := by
      intro j
      induction j with
      | zero =>
        intro i left f a hi hl hf1 hr p1 lv hlv
        obtain ⟨g, rfl⟩ : ∃ g, f = g + 1 := ⟨f - 1, by omega⟩
        have hl0 : left = 0 := by
          unfold csN at hi
          omega
        rw [if_pos hl0] at hlv
        unfold fX9_goOn_h27
        rw [mloop_S]
        show wq (fX9_goOn_i27 fu (sI m) (sI t) (fX9_goOn_h27 fu (sI m) (sI t) g) lv (sI (i + 1)) a L) _
        unfold fX9_goOn_i27 fX9_goOn_b105
        rw [if_pos hlv, mck_s (by omega) (by omega)]
        simp only [mlet]
        rw [sI_nn (by omega)]
        have hi2 : i = csN (p.1 2 m) := by omega
        rw [hi2] at hr
        refine wq_some ⟨rfl, ?_, fun b y u1 u2 u3 => ?_⟩
        all_goals (try dsimp only)
        · rw [eg]
          dsimp only
          refine TfC_st hr ?_ (by omega) ?_ (fun j => ?_) ?_ (fun b y u1 u2 => mset_n (by omega)) (fun _ _ _ => rfl)
          · rw [co_r (by omega) (by omega)]; exact hK
          · rw [co_r (by omega) (by omega)]; omega
          · by_cases hq : j = m
            · rw [if_pos hq, hq, mset_s]; rfl
            · rw [if_neg hq, mset_j hq]
          · rw [mset_k (by omega)]; exact hr.1.2.2.2.2.2
        · rw [mset_n (by omega)]; exact p1 b y u1 (by omega)
      | succ j ih =>
        intro i left f a hi hl hf1 hr p1 lv hlv
        obtain ⟨g, rfl⟩ : ∃ g, f = g + 1 := ⟨f - 1, by omega⟩
        have hl0 : left ≠ 0 := by
          unfold csN at hi
          omega
        rw [if_neg hl0] at hlv
        unfold fX9_goOn_h27
        rw [mloop_S]
        show wq (fX9_goOn_i27 fu (sI m) (sI t) (fX9_goOn_h27 fu (sI m) (sI t) g) lv (sI (i + 1)) a L) _
        unfold fX9_goOn_i27
        rw [hlv, if_neg (by rw [sI_lel (by omega) (by decide)]; omega), show sI (i + 1) - sI (i + 1) / 16 * 16 = sI ((i + 1) % 16) from sI_mod (b := 16) (by omega) (by omega), Nat.mod_eq_of_lt (show i + 1 < 16 by omega)]
        have hKc : (coP m i p).1 0 0 = p.1 0 0 := co_r (by omega) (by omega) _ p
        have hFc : (coP m i p).1 0 1 = p.1 0 1 + i := co_F _ _
        refine wq_b2 (show wq (DX9_makeFrame fu 2 (sI m) (sI (i + 1)) a L) _ from c_makeFrame (kd := 2) hr (by rw [hKc]; exact hK) (by rw [hFc]; omega)) ?_
        rintro M1 L1 ⟨y1, y2, y3⟩
        dsimp only at y1 y2 y3
        subst y1
        simp only [mlet]
        rw [sI_1]
        refine ih (i + 1) (left - 7) g M1 (by omega) (by omega) (by omega) y2 (fun b y u1 u2 => (y3 b y u1 u2).trans (p1 b y u1 u2)) _ ?_
        by_cases h7 : left ≤ 7
        · rw [if_pos (by omega)]
          exact m7_le h7
        · rw [if_neg (by omega), show (-7 : Int32) = -sI 7 from by decide, ← Int32.sub_eq_add_neg, sI_sub (by omega)]
    exact key (csN (p.1 2 m)) 0 (p.1 2 m - 6) fu A (by omega) (by omega) (by omega) h (fun _ _ _ _ => rfl) _ (by rw [if_neg (by omega)])
  · rw [if_neg a1] at eg
    rw [if_neg (by rw [sI_eql (by omega) (by decide)]; exact a1), mck_s (by omega) (by omega)]
    by_cases a3 : p.1 3 m = 1
    · rw [if_pos (by rw [a3]; rfl), mck_s (by omega) (by omega), e160 (by omega), sI_sub (by omega)]
      by_cases a4 : 1000 ≤ t - p.1 4 m
      · rw [if_pos ⟨a3, a4⟩] at eg
        rw [if_neg (by rw [sI_ltl (by omega) (by decide)]; omega), mck_s (by omega) (by omega)]
        simp only [mlet]
        rw [eg]
        refine wq_some ⟨rfl, ?_, fun b y u1 u2 u3 => ?_⟩
        all_goals (try dsimp only)
        · refine TfC_st h hK (by omega) (by omega) (fun j => ?_) ?_ (fun b y u1 u2 => by rw [mset_n u2, mset_n (by omega)]) (fun i j u => mset_n (by omega))
          · rw [mset_n (by omega)]
            by_cases hq : j = m
            · rw [if_pos hq, hq, mset_s]; rfl
            · rw [if_neg hq, mset_j hq]
          · rw [mset_s, mset_s]; rfl
        · rw [mset_n (by omega), mset_n (by omega)]
      · rw [if_neg (fun z => a4 z.2)] at eg
        rw [if_pos (by rw [sI_ltl (by omega) (by decide)]; omega), eg]
        exact wq_some ⟨rfl, h, fun _ _ _ _ _ => rfl⟩
    · rw [if_neg (fun z => a3 z.1)] at eg
      rw [if_neg (by rw [sI_eql (by omega) (by decide)]; exact a3), eg]
      exact wq_some ⟨rfl, h, fun _ _ _ _ _ => rfl⟩
/-! the clock of the transfer goes on: the class -/
def bgA : Nat → PB → PB
  | 0, p => p
  | i + 1, p => if (bgA i p).1 3 (i + 1) = 0 then (bgN (bgA i p).1 (i + 1), mkB (bgA i p).1 (bgA i p).2) else bgA i p
def goA (t : Nat) : Nat → PB → PB
  | 0, p => p
  | i + 1, p => goP (i + 1) t (goA t i p)
def seN (n : Nat → Nat → Nat) : Nat → Nat → Nat
  | 0, s => s
  | f + 1, s => if s < n 0 0 ∧ 3 ≤ n 3 (s + 1) then seN n f (s + 1) else s
def rcS (t r : Nat) (p : PB) : PB := if p.1 5 r = 1 ∧ 1000 ≤ t - p.1 9 r then (mset p.1 5 r 3, mset p.2 2 0 true) else p
def rcA (t : Nat) : Nat → PB → PB
  | 0, p => p
  | i + 1, p => rcS t i (rcA t i p)
def seP (p : PB) : PB := (mset p.1 0 4 (seN p.1 101 (p.1 0 4)), p.2)
def clP (t : Nat) (p : PB) : PB := (mset p.1 0 3 t, p.2)
def tkP (t : Nat) (p : PB) : PB := clP t (rcA t 4 (seP (goA t (p.1 0 0) (bgA (p.1 0 0) p))))
theorem bg_r {n : Nat → Nat → Nat} {m i j : Nat} (h : i ≠ 0 ∨ j ≠ 1) (h2 : ¬ (10 ≤ i ∧ i ≤ 12)) (h3 : i ≠ 3) (h4 : i ≠ 4) : bgN n m i j = n i j := by
  unfold bgN
  rw [mset_n (by omega), mset_n (by omega), mk_r h h2]
theorem bg_3 {n : Nat → Nat → Nat} {m j : Nat} (h : j ≠ m) : bgN n m 3 j = n 3 j := by
  unfold bgN
  rw [mset_n (by omega), mset_n (by omega), mk_r (by omega) (by omega)]
theorem bA_r {i j : Nat} (h : i ≠ 0 ∨ j ≠ 1) (h2 : ¬ (10 ≤ i ∧ i ≤ 12)) (h3 : i ≠ 3) (h4 : i ≠ 4) : ∀ k p, (bgA k p).1 i j = p.1 i j := by
  intro k
  induction k with
  | zero => intro p; rfl
  | succ k ih =>
    intro p
    have e : bgA (k + 1) p = if (bgA k p).1 3 (k + 1) = 0 then (bgN (bgA k p).1 (k + 1), mkB (bgA k p).1 (bgA k p).2) else bgA k p := rfl
    rw [e]
    split
    · exact (bg_r h h2 h3 h4).trans (ih p)
    · exact ih p
theorem bA_3 {j : Nat} : ∀ k p, p.1 3 j ≠ 0 → (bgA k p).1 3 j = p.1 3 j := by
  intro k
  induction k with
  | zero => intro p _; rfl
  | succ k ih =>
    intro p h
    have e : bgA (k + 1) p = if (bgA k p).1 3 (k + 1) = 0 then (bgN (bgA k p).1 (k + 1), mkB (bgA k p).1 (bgA k p).2) else bgA k p := rfl
    rw [e]
    split
    · rename_i h0
      by_cases hq : j = k + 1
      · rw [hq] at h ⊢
        rw [← hq, ih p (by rw [hq]; exact h), hq] at h0
        exact absurd h0 h
      · exact (bg_3 hq).trans (ih p h)
    · exact ih p h
theorem bA_no {s : Nat} {p : PB} (h : ∀ m, 1 ≤ m → m ≤ s → p.1 3 m ≠ 0) : bgA s p = p := by
  induction s with
  | zero => rfl
  | succ s ih =>
    have h1 := ih (fun m u1 u2 => h m u1 (by omega))
    have e : bgA (s + 1) p = if (bgA s p).1 3 (s + 1) = 0 then (bgN (bgA s p).1 (s + 1), mkB (bgA s p).1 (bgA s p).2) else bgA s p := rfl
    rw [e, h1, if_neg (h (s + 1) (by omega) (Nat.le_refl _))]
theorem bA_V : ∀ k p, k ≤ p.1 0 0 → TfV p.1 p.2 → TfV (bgA k p).1 (bgA k p).2 := by
  intro k
  induction k with
  | zero => intro p _ h; exact h
  | succ k ih =>
    intro p hk h
    have h1 := ih p (by omega) h
    have e : bgA (k + 1) p = if (bgA k p).1 3 (k + 1) = 0 then (bgN (bgA k p).1 (k + 1), mkB (bgA k p).1 (bgA k p).2) else bgA k p := rfl
    rw [e]
    split
    · rename_i h0
      exact V_bg h1 (by omega) (by rw [bA_r (by omega) (by omega) (by omega) (by omega)]; exact hk) h0
    · exact h1
theorem go_r {m t i j : Nat} {p : PB} (h : i ≠ 0 ∨ j ≠ 1) (h2 : ¬ (10 ≤ i ∧ i ≤ 12)) (h3 : i ≠ 3) : (goP m t p).1 i j = p.1 i j := by
  unfold goP
  split
  · dsimp only
    rw [mset_n (by omega)]; exact co_r h h2 _ _
  · split
    · dsimp only
      rw [mset_n (by omega)]
    · rfl
theorem go_no {m t : Nat} {p : PB} (h : 3 ≤ p.1 3 m) : goP m t p = p := by
  unfold goP
  rw [if_neg (by omega), if_neg (by omega)]
theorem gA_r {t i j : Nat} (h : i ≠ 0 ∨ j ≠ 1) (h2 : ¬ (10 ≤ i ∧ i ≤ 12)) (h3 : i ≠ 3) : ∀ k p, (goA t k p).1 i j = p.1 i j := by
  intro k
  induction k with
  | zero => intro p; rfl
  | succ k ih => intro p; exact (go_r h h2 h3).trans (ih p)
theorem gA_no {t s : Nat} {p : PB} (h : ∀ m, 1 ≤ m → m ≤ s → 3 ≤ p.1 3 m) : goA t s p = p := by
  induction s with
  | zero => rfl
  | succ s ih =>
    have h1 := ih (fun m u1 u2 => h m u1 (by omega))
    show goP (s + 1) t (goA t s p) = p
    rw [h1]
    exact go_no (h (s + 1) (by omega) (Nat.le_refl _))
theorem gA_V {t : Nat} : ∀ k p, k ≤ p.1 0 0 → TfV p.1 p.2 → TfV (goA t k p).1 (goA t k p).2 := by
  intro k
  induction k with
  | zero => intro p _ h; exact h
  | succ k ih =>
    intro p hk h
    exact V_go (ih p (by omega) h) (by omega) (by rw [gA_r (by omega) (by omega) (by omega)]; exact hk)
theorem se_ok {n : Nat → Nat → Nat} : ∀ f s, s ≤ n 0 0 → (∀ m, 1 ≤ m → m ≤ s → 3 ≤ n 3 m) → s ≤ seN n f s ∧ seN n f s ≤ n 0 0 ∧ ∀ m, 1 ≤ m → m ≤ seN n f s → 3 ≤ n 3 m := by
  intro f
  induction f with
  | zero => intro s h1 h2; exact ⟨Nat.le_refl _, h1, h2⟩
  | succ f ih =>
    intro s h1 h2
    have e : seN n (f + 1) s = if s < n 0 0 ∧ 3 ≤ n 3 (s + 1) then seN n f (s + 1) else s := rfl
    rw [e]
    split
    · rename_i h
      have := ih (s + 1) (by omega) (fun m u1 u2 => by
        by_cases hq : m = s + 1
        · rw [hq]; exact h.2
        · exact h2 m u1 (by omega))
      exact ⟨by omega, this.2.1, this.2.2⟩
    · exact ⟨Nat.le_refl _, h1, h2⟩
theorem V_se {p : PB} (h : TfV p.1 p.2) : TfV (seP p).1 (seP p).2 := by
  obtain ⟨⟨w1, w2, w3, w4, w5⟩, w6, w7, w8⟩ := h
  have hs := se_ok (n := p.1) 101 (p.1 0 4) w4 (fun m u1 u2 => (w6 m u1 (by omega)).2.2.2.2.2.2.1 u2)
  have fo : ∀ i j, i ≠ 0 ∨ j ≠ 4 → (seP p).1 i j = p.1 i j := fun i j u => mset_n (by omega)
  have f4 : (seP p).1 0 4 = seN p.1 101 (p.1 0 4) := by
    show mset p.1 0 4 (seN p.1 101 (p.1 0 4)) 0 4 = _
    rw [mset_s]
  have ecb : cbF (seP p).1 (seP p).2 = cbF p.1 p.2 := by
    funext m
    unfold cbF
    rw [fo 3 m (by omega), fo 2 m (by omega)]
    rfl
  refine ⟨?_, ?_, ?_, ?_⟩
  · rw [fo 0 0 (by omega), fo 0 1 (by omega), fo 0 2 (by omega), fo 0 3 (by omega), f4, ecb]
    exact ⟨w1, w2, w3, hs.2.1, w5⟩
  · intro m u1 u2
    rw [fo 0 0 (by omega)] at u2
    have := w6 m u1 u2
    rw [fo 1 m (by omega), fo 2 m (by omega), fo 3 m (by omega), fo 4 m (by omega), fo 0 3 (by omega), f4]
    exact ⟨this.1, this.2.1, this.2.2.1, this.2.2.2.1, this.2.2.2.2.1, this.2.2.2.2.2.1, fun z => hs.2.2 m u1 z, this.2.2.2.2.2.2.2⟩
  · intro r u
    rw [fo 5 r (by omega), fo 6 r (by omega), fo 7 r (by omega), fo 8 r (by omega), fo 9 r (by omega), fo 0 0 (by omega), fo 0 3 (by omega), fo 2 _ (by omega)]
    exact w7 r u
  · intro f u
    rw [fo 0 1 (by omega)] at u
    have := w8 f u
    rw [fo 10 f (by omega), fo 11 f (by omega), fo 12 f (by omega), fo 0 0 (by omega), fo 0 1 (by omega), fo 2 _ (by omega), fo 3 _ (by omega)]
    refine ⟨this.1, this.2.1, this.2.2.1, this.2.2.2.1, this.2.2.2.2.1, this.2.2.2.2.2.1, this.2.2.2.2.2.2.1, this.2.2.2.2.2.2.2.1, fun hk => ⟨(this.2.2.2.2.2.2.2.2 hk).1, fun f' v1 v2 v3 => ?_⟩⟩
    rw [fo 10 f' (by omega)] at v2
    rw [fo 11 f' (by omega)] at v3
    exact (this.2.2.2.2.2.2.2.2 hk).2 f' v1 v2 v3
theorem V_rc {t r : Nat} {p : PB} (h : TfV p.1 p.2) : TfV (rcS t r p).1 (rcS t r p).2 := by
  unfold rcS
  by_cases hc : p.1 5 r = 1 ∧ 1000 ≤ t - p.1 9 r
  · rw [if_pos hc]
    dsimp only
    obtain ⟨⟨w1, w2, w3, w4, w5⟩, w6, w7, w8⟩ := h
    have fo : ∀ i j, i ≠ 5 → mset p.1 5 r 3 i j = p.1 i j := fun i j u => mset_n (by omega)
    have fb : ∀ i j, i ≠ 2 → mset p.2 2 0 true i j = p.2 i j := fun i j u => mset_n (by omega)
    have ecb : cbF (mset p.1 5 r 3) (mset p.2 2 0 true) = cbF p.1 p.2 := by
      funext m
      unfold cbF
      rw [fo 3 m (by omega), fo 2 m (by omega), fb 3 m (by omega)]
    refine ⟨?_, ?_, ?_, ?_⟩
    · rw [fo 0 0 (by omega), fo 0 1 (by omega), fo 0 2 (by omega), fo 0 3 (by omega), fo 0 4 (by omega), ecb]
      exact ⟨w1, w2, w3, w4, w5⟩
    · intro m u1 u2
      rw [fo 0 0 (by omega)] at u2
      rw [fo 1 m (by omega), fo 2 m (by omega), fo 3 m (by omega), fo 4 m (by omega), fo 0 3 (by omega), fo 0 4 (by omega), fb 3 m (by omega)]
      exact w6 m u1 u2
    · intro r' u
      rw [fo 6 r' (by omega), fo 7 r' (by omega), fo 8 r' (by omega), fo 9 r' (by omega), fo 0 0 (by omega), fo 0 3 (by omega), fo 2 _ (by omega)]
      by_cases hq : r' = r
      · rw [hq, mset_s]
        exact ⟨by omega, fun z => by omega⟩
      · rw [mset_j hq]
        exact w7 r' u
    · intro f u
      rw [fo 0 1 (by omega)] at u
      have := w8 f u
      rw [fo 10 f (by omega), fo 11 f (by omega), fo 12 f (by omega), fo 0 0 (by omega), fo 0 1 (by omega), fo 2 _ (by omega), fo 3 _ (by omega), fb 1 f (by omega), fb 3 _ (by omega)]
      refine ⟨this.1, this.2.1, this.2.2.1, this.2.2.2.1, this.2.2.2.2.1, this.2.2.2.2.2.1, this.2.2.2.2.2.2.1, this.2.2.2.2.2.2.2.1, fun hk => ⟨(this.2.2.2.2.2.2.2.2 hk).1, fun f' v1 v2 v3 => ?_⟩⟩
      rw [fo 10 f' (by omega)] at v2
      rw [fo 11 f' (by omega)] at v3
      exact (this.2.2.2.2.2.2.2.2 hk).2 f' v1 v2 v3
  · rw [if_neg hc]
    exact h
theorem rA_V {t : Nat} : ∀ k p, TfV p.1 p.2 → TfV (rcA t k p).1 (rcA t k p).2 := by
  intro k
  induction k with
  | zero => intro p h; exact h
  | succ k ih => intro p h; exact V_rc (ih p h)
theorem V_cl {t : Nat} {p : PB} (h : TfV p.1 p.2) (ht : t ≤ 20000) (htc : p.1 0 3 ≤ t) : TfV (clP t p).1 (clP t p).2 := by
  obtain ⟨⟨w1, w2, w3, w4, w5⟩, w6, w7, w8⟩ := h
  have fo : ∀ i j, i ≠ 0 ∨ j ≠ 3 → (clP t p).1 i j = p.1 i j := fun i j u => mset_n (by omega)
  have f3 : (clP t p).1 0 3 = t := by
    show mset p.1 0 3 t 0 3 = _
    rw [mset_s]
  have ecb : cbF (clP t p).1 (clP t p).2 = cbF p.1 p.2 := by
    funext m
    unfold cbF
    rw [fo 3 m (by omega), fo 2 m (by omega)]
    rfl
  refine ⟨?_, ?_, ?_, ?_⟩
  · rw [fo 0 0 (by omega), fo 0 1 (by omega), fo 0 2 (by omega), fo 0 4 (by omega), f3, ecb]
    exact ⟨w1, w2, ht, w4, w5⟩
  · intro m u1 u2
    rw [fo 0 0 (by omega)] at u2
    have := w6 m u1 u2
    rw [fo 1 m (by omega), fo 2 m (by omega), fo 3 m (by omega), fo 4 m (by omega), fo 0 4 (by omega), f3]
    exact ⟨this.1, this.2.1, this.2.2.1, this.2.2.2.1, by omega, this.2.2.2.2.2⟩
  · intro r u
    have := w7 r u
    rw [fo 5 r (by omega), fo 6 r (by omega), fo 7 r (by omega), fo 8 r (by omega), fo 9 r (by omega), fo 0 0 (by omega), f3, fo 2 _ (by omega)]
    refine ⟨this.1, fun z => ?_⟩
    have h2 := this.2 z
    exact ⟨h2.1, h2.2.1, h2.2.2.1, h2.2.2.2.1, h2.2.2.2.2.1, h2.2.2.2.2.2.1, h2.2.2.2.2.2.2.1, by omega⟩
  · intro f u
    rw [fo 0 1 (by omega)] at u
    have := w8 f u
    rw [fo 10 f (by omega), fo 11 f (by omega), fo 12 f (by omega), fo 0 0 (by omega), fo 0 1 (by omega), fo 2 _ (by omega), fo 3 _ (by omega)]
    refine ⟨this.1, this.2.1, this.2.2.1, this.2.2.2.1, this.2.2.2.2.1, this.2.2.2.2.2.1, this.2.2.2.2.2.2.1, this.2.2.2.2.2.2.2.1, fun hk => ⟨(this.2.2.2.2.2.2.2.2 hk).1, fun f' v1 v2 v3 => ?_⟩⟩
    rw [fo 10 f' (by omega)] at v2
    rw [fo 11 f' (by omega)] at v3
    exact (this.2.2.2.2.2.2.2.2 hk).2 f' v1 v2 v3
theorem rA_r {t i j : Nat} (h : i ≠ 5) : ∀ k p, (rcA t k p).1 i j = p.1 i j := by
  intro k
  induction k with
  | zero => intro p; rfl
  | succ k ih =>
    intro p
    have e : (rcA t (k + 1) p).1 i j = (rcA t k p).1 i j := by
      show (rcS t k (rcA t k p)).1 i j = (rcA t k p).1 i j
      unfold rcS
      split
      · exact mset_n (by omega)
      · rfl
    exact e.trans (ih p)
theorem c_tick9 {fu t : Nat} {A : mwM} {L : mwL} {p : PB} {o : Nat → Nat → Nat} (hf : 200 ≤ fu) (hv : TfV p.1 p.2) (h : TfC A p.1 p.2 o) (ht : t ≤ 20000) (htc : p.1 0 3 ≤ t) : wq (DX9_tick fu (sI t) A L) (fun z => z.2 = L ∧ TfC z.1 (tkP t p).1 (tkP t p).2 o ∧ TfV (tkP t p).1 (tkP t p).2 ∧ ∀ a y, ¬ (a = 154 ∨ a = 159 ∨ a = 160 ∨ a = 264 ∨ (270 ≤ a ∧ a ≤ 273)) → z.1 a y = A a y) := by
  have hK := hv.1.1
  have hS := hv.1.2.2.2.1
  have hst : ∀ m, 1 ≤ m → m ≤ p.1 0 4 → 3 ≤ p.1 3 m := fun m u1 u2 => (hv.2.1 m u1 (by omega)).2.2.2.2.2.2.1 u2
  generalize hQ : (fun z : mwM × mwL => z.2 = L ∧ TfC z.1 (tkP t p).1 (tkP t p).2 o ∧ TfV (tkP t p).1 (tkP t p).2 ∧ ∀ a y, ¬ (a = 154 ∨ a = 159 ∨ a = 160 ∨ a = 264 ∨ (270 ≤ a ∧ a ≤ 273)) → z.1 a y = A a y) = Q
  have vB := bA_V (p.1 0 0) p (Nat.le_refl _) hv
  have kB : (bgA (p.1 0 0) p).1 0 0 = p.1 0 0 := bA_r (by omega) (by omega) (by omega) (by omega) _ _
  have vG := gA_V (t := t) (p.1 0 0) (bgA (p.1 0 0) p) (by rw [kB]; exact Nat.le_refl _) vB
  generalize hq1 : bgA (p.1 0 0) p = q1 at *
  have kG : (goA t (p.1 0 0) q1).1 0 0 = p.1 0 0 := by rw [gA_r (by omega) (by omega) (by omega)]; exact kB
  generalize hq2 : goA t (p.1 0 0) q1 = q2 at *
  have vS := V_se vG
  have vR := rA_V (t := t) 4 _ vS
  have c1 : q1.1 0 3 = p.1 0 3 := by rw [← hq1]; exact bA_r (by omega) (by omega) (by omega) (by omega) _ _
  have c2 : q2.1 0 3 = p.1 0 3 := by rw [← hq2, gA_r (by omega) (by omega) (by omega)]; exact c1
  have c3 : (rcA t 4 (seP q2)).1 0 3 = p.1 0 3 := by
    rw [rA_r (by omega)]
    show mset q2.1 0 4 (seN q2.1 101 (q2.1 0 4)) 0 3 = p.1 0 3
    rw [mset_n (by omega)]; exact c2
  have etk : tkP t p = clP t (rcA t 4 (seP q2)) := by
    unfold tkP
    rw [hq1, hq2]
  have vC : TfV (tkP t p).1 (tkP t p).2 := by
    rw [etk]
    exact V_cl vR ht (by rw [c3]; exact htc)
  -- the receivers, and the clock
  have receivers : ∀ a : mwM, TfC a (seP q2).1 (seP q2).2 o → (∀ b y, ¬ (b = 154 ∨ b = 159 ∨ b = 160 ∨ b = 264 ∨ (270 ≤ b ∧ b ≤ 273)) → a b y = A b y) → wq (fX9_tick_b105 fu (sI t) a L) Q := by
    intro a hr p1
    unfold fX9_tick_b105
    refine wq_for (body := fun r z => fX9_tick_i107 fu (sI t) r z.1 z.2.1 z.2.2) (fun i (a : mwM) => (sI i, a, L)) (fun i a => TfC a (rcA t i (seP q2)).1 (rcA t i (seP q2)).2 o ∧ ∀ b y, ¬ (b = 154 ∨ b = 159 ∨ b = 160 ∨ b = 264 ∨ (270 ≤ b ∧ b ≤ 273)) → a b y = A b y) 4 ?_ ?_ 4 0 a fu (by omega) (by omega) ⟨hr, p1⟩
    · intro i a r hi ⟨hr, p1⟩ ih
      show wq (fX9_tick_i107 fu (sI t) r (sI i) a L) _
      have vi := rA_V (t := t) i _ vS
      have ci : (rcA t i (seP q2)).1 0 3 = p.1 0 3 := by
        rw [rA_r (by omega)]
        show mset q2.1 0 4 (seN q2.1 101 (q2.1 0 4)) 0 3 = p.1 0 3
        rw [mset_n (by omega)]; exact c2
      have hKi : (rcA t i (seP q2)).1 0 0 = p.1 0 0 := by
        rw [rA_r (by omega)]
        show mset q2.1 0 4 (seN q2.1 101 (q2.1 0 4)) 0 0 = p.1 0 0
        rw [mset_n (by omega)]; exact kG
      have e0 : rcA t (i + 1) (seP q2) = rcS t i (rcA t i (seP q2)) := rfl
      rw [e0] at ih
      generalize rcA t i (seP q2) = u at *
      have e264 := hr.2.2.1 i hi
      have hvi := vi.2.2.1 i hi
      have hcl := cmo_le hvi.1
      have skip : ¬ (u.1 5 i = 1 ∧ 1000 ≤ t - u.1 9 i) → wq (r (sI (i + 1), a, L)) Q := by
        intro hno
        have es : rcS t i u = u := by unfold rcS; rw [if_neg hno]
        rw [es] at ih
        exact ih a ⟨hr, p1⟩
      unfold fX9_tick_i107 fX9_tick_b154
      rw [if_neg (by rw [sI_lle (by decide) (by omega)]; omega), mck_s (by omega) (by omega), sI_nn (by omega), e264.1]
      simp only [mlet]
      rw [sI_1]
      by_cases h1 : u.1 5 i = 1
      · have h2 := hvi.2 h1
        rw [if_pos (by rw [h1]; rfl), mck_s (by omega) (by omega), (e264.2 h1).2.2.2, sI_sub (by omega), mck_s (by omega) (by omega)]
        by_cases h3 : 1000 ≤ t - u.1 9 i
        · rw [if_neg (by rw [sI_ltl (by omega) (by decide)]; omega)]
          have es : rcS t i u = (mset u.1 5 i 3, mset u.2 2 0 true) := by unfold rcS; rw [if_pos ⟨h1, h3⟩]
          rw [es] at ih
          dsimp only at ih
          refine ih _ ⟨?_, fun b y w => by rw [mset_n (by omega), mset_n (by omega)]; exact p1 b y w⟩
          obtain ⟨k1, k2, k3, k4⟩ := hr
          have fo : ∀ i' j, i' ≠ 5 → mset u.1 5 i 3 i' j = u.1 i' j := fun i' j w => mset_n (by omega)
          have fb : ∀ i' j, i' ≠ 2 → mset u.2 2 0 true i' j = u.2 i' j := fun i' j w => mset_n (by omega)
          refine ⟨?_, ?_, ?_, ?_⟩
          · rw [fo 0 0 (by omega), fo 0 1 (by omega), fo 0 2 (by omega), fo 0 3 (by omega), fo 0 4 (by omega), mset_s (M := u.2)]
            simp (disch := omega) only [mset_n, mset_s]
            exact ⟨k1.1, k1.2.1, k1.2.2.1, k1.2.2.2.1, k1.2.2.2.2.1, rfl⟩
          · intro m u1 u2
            rw [fo 0 0 (by omega)] at u2
            rw [fo 1 m (by omega), fo 2 m (by omega), fo 3 m (by omega), fo 4 m (by omega), fb 0 m (by omega)]
            simp (disch := omega) only [mset_n]
            exact k2 m u1 u2
          · intro r' w
            have := k3 r' w
            rw [fo 6 r' (by omega), fo 7 r' (by omega), fo 8 r' (by omega), fo 9 r' (by omega)]
            by_cases hq : r' = i
            · subst hq
              rw [mset_s, mset_n (show ¬ (264 = 154 ∧ r' = 10) by omega), mset_s]
              exact ⟨rfl, fun z => by omega⟩
            · rw [mset_j hq]
              simp (disch := omega) only [mset_n]
              exact this
          · intro f w
            rw [fo 0 1 (by omega)] at w
            rw [fo 10 f (by omega), fo 11 f (by omega), fo 12 f (by omega), fb 1 f (by omega)]
            simp (disch := omega) only [mset_n]
            exact k4 f w
        · rw [if_pos (by rw [sI_ltl (by omega) (by decide)]; omega)]
          exact skip (fun z => h3 z.2)
      · rw [if_neg (by rw [sI_eql (by omega) (by decide)]; exact fun z => h1 (cmo_1.mp z))]
        exact skip (fun z => h1 z.1)
    · intro a r ⟨hr, p1⟩
      show wq (fX9_tick_i107 fu (sI t) r (sI 4) a L) _
      unfold fX9_tick_i107
      rw [if_pos (by decide), ← hQ]
      simp only [mlet]
      refine wq_some ⟨rfl, ?_, vC, fun b y w => by dsimp only; rw [mset_n (by omega)]; exact p1 b y w⟩
      dsimp only
      rw [etk]
      have hKr : (rcA t 4 (seP q2)).1 0 0 = p.1 0 0 := by
        rw [rA_r (by omega)]
        show mset q2.1 0 4 (seN q2.1 101 (q2.1 0 4)) 0 0 = p.1 0 0
        rw [mset_n (by omega)]; exact kG
      generalize rcA t 4 (seP q2) = u at *
      have fo : ∀ i j, i ≠ 0 ∨ j ≠ 3 → (clP t u).1 i j = u.1 i j := fun i j w => mset_n (by omega)
      have f3 : (clP t u).1 0 3 = t := by
        show mset u.1 0 3 t 0 3 = _
        rw [mset_s]
      have fb : (clP t u).2 = u.2 := rfl
      obtain ⟨k1, k2, k3, k4⟩ := hr
      refine ⟨?_, ?_, ?_, ?_⟩
      · rw [fo 0 0 (by omega), fo 0 1 (by omega), fo 0 2 (by omega), f3, fo 0 4 (by omega), fb]
        simp (disch := omega) only [mset_n, mset_s]
        exact ⟨k1.1, k1.2.1, k1.2.2.1, k1.2.2.2.1, trivial, k1.2.2.2.2.2⟩
      · intro m u1 u2
        rw [fo 0 0 (by omega)] at u2
        rw [fo 1 m (by omega), fo 2 m (by omega), fo 3 m (by omega), fo 4 m (by omega), fb]
        simp (disch := omega) only [mset_n]
        exact k2 m u1 u2
      · intro r' w
        rw [fo 5 r' (by omega), fo 6 r' (by omega), fo 7 r' (by omega), fo 8 r' (by omega), fo 9 r' (by omega)]
        simp (disch := omega) only [mset_n]
        exact k3 r' w
      · intro f w
        rw [fo 0 1 (by omega)] at w
        rw [fo 10 f (by omega), fo 11 f (by omega), fo 12 f (by omega), fb]
        simp (disch := omega) only [mset_n]
        exact k4 f w
  -- what is settled
  have settle : ∀ (g s f : Nat) (a : mwM), s ≤ p.1 0 0 → p.1 0 0 < s + g → g < f → seN q2.1 g s = seN q2.1 101 (q2.1 0 4) → TfC a (mset q2.1 0 4 s) q2.2 o → (∀ b y, ¬ (b = 154 ∨ b = 159 ∨ b = 160 ∨ b = 264 ∨ (270 ≤ b ∧ b ≤ 273)) → a b y = A b y) → wq (fX9_tick_h64 fu (sI t) f (a, L)) Q := by
    intro g
    induction g with
    | zero => intro s f a h1 h2; omega
    | succ g ih =>
      intro s f a h1 h2 hf1 hse hr p1
      obtain ⟨f', rfl⟩ : ∃ f', f = f' + 1 := ⟨f - 1, by omega⟩
      have e0 : seN q2.1 (g + 1) s = if s < q2.1 0 0 ∧ 3 ≤ q2.1 3 (s + 1) then seN q2.1 g (s + 1) else s := rfl
      rw [e0, kG] at hse
      have k5 : a 154 5 = sI (p.1 0 0) := by rw [hr.1.1, mset_n (by omega), kG]
      have k8 : a 154 8 = sI s := by rw [hr.1.2.2.2.1, mset_s]
      have done : seN q2.1 101 (q2.1 0 4) = s → wq (fX9_tick_b105 fu (sI t) a L) Q := by
        intro hs
        refine receivers a ?_ p1
        show TfC a (mset q2.1 0 4 (seN q2.1 101 (q2.1 0 4))) q2.2 o
        rw [hs]
        exact hr
      unfold fX9_tick_h64
      rw [mloop_S]
      show wq (fX9_tick_i64 fu (sI t) (fX9_tick_h64 fu (sI t) f') a L) Q
      unfold fX9_tick_i64
      rw [k5, k8]
      by_cases a1 : s < p.1 0 0
      · have k159 := (hr.2.1 (s + 1) (by omega) (by rw [mset_n (by omega), kG]; omega)).2.2.2.1
        rw [mset_n (by omega)] at k159
        have h34 := (vG.2.1 (s + 1) (by omega) (by rw [kG]; omega)).2.2.2.1
        rw [if_neg (by rw [sI_le (by omega) (by omega)]; omega), sI_1, mck_s (by omega) (by omega), sI_nn (by omega), k159]
        by_cases a2 : 3 ≤ q2.1 3 (s + 1)
        · rw [if_pos ⟨a1, a2⟩] at hse
          rw [if_neg (by rw [sI_ltl (by omega) (by decide)]; omega)]
          simp only [mlet]
          refine ih (s + 1) f' _ (by omega) (by omega) (by omega) hse ?_ (fun b y w => by rw [mset_n (by omega)]; exact p1 b y w)
          obtain ⟨c1', c2', c3', c4'⟩ := hr
          have fo : ∀ v i j, i ≠ 0 ∨ j ≠ 4 → mset q2.1 0 4 v i j = q2.1 i j := fun v i j w => mset_n (by omega)
          refine ⟨?_, ?_, ?_, ?_⟩
          · rw [fo _ 0 0 (by omega), fo _ 0 1 (by omega), fo _ 0 2 (by omega), fo _ 0 3 (by omega)] at c1'
            rw [fo _ 0 0 (by omega), fo _ 0 1 (by omega), fo _ 0 2 (by omega), fo _ 0 3 (by omega), mset_s]
            simp (disch := omega) only [mset_n, mset_s]
            exact ⟨c1'.1, c1'.2.1, c1'.2.2.1, trivial, c1'.2.2.2.2.1, c1'.2.2.2.2.2⟩
          · intro m u1 u2
            rw [fo _ 0 0 (by omega)] at u2
            have := c2' m u1 (by rw [fo _ 0 0 (by omega)]; exact u2)
            rw [kG] at u2
            rw [fo _ 1 m (by omega), fo _ 2 m (by omega), fo _ 3 m (by omega), fo _ 4 m (by omega)] at this ⊢
            simp (disch := omega) only [mset_n]
            exact this
          · intro r' w
            have := c3' r' w
            rw [fo _ 5 r' (by omega), fo _ 6 r' (by omega), fo _ 7 r' (by omega), fo _ 8 r' (by omega), fo _ 9 r' (by omega)] at this ⊢
            simp (disch := omega) only [mset_n]
            exact this
          · intro f w
            rw [fo _ 0 1 (by omega)] at w
            have := c4' f (by rw [fo _ 0 1 (by omega)]; exact w)
            rw [fo _ 10 f (by omega), fo _ 11 f (by omega), fo _ 12 f (by omega)] at this ⊢
            simp (disch := omega) only [mset_n]
            exact this
        · rw [if_neg (fun z => a2 z.2)] at hse
          rw [if_pos (by rw [sI_ltl (by omega) (by decide)]; omega)]
          exact done hse.symm
      · rw [if_neg (fun z => a1 z.1)] at hse
        rw [if_pos (by rw [sI_le (by omega) (by omega)]; omega)]
        exact done hse.symm
  -- messages go on
  have goes : ∀ a : mwM, TfC a q1.1 q1.2 o → (∀ b y, ¬ (b = 154 ∨ b = 159 ∨ b = 160 ∨ b = 264 ∨ (270 ≤ b ∧ b ≤ 273)) → a b y = A b y) → wq (fX9_tick_h44 fu (sI t) fu (sI (p.1 0 4 + 1), a, L)) Q := by
    intro a hr p1
    have hg0 : goA t (p.1 0 4) q1 = q1 := gA_no (fun m u1 u2 => by
      have h3 := hst m u1 u2
      rw [← hq1, bA_3 _ _ (by omega)]
      exact h3)
    refine wq_for (body := fun r z => fX9_tick_i44 fu (sI t) r z.1 z.2.1 z.2.2) (fun i (a : mwM) => (sI (i + 1), a, L)) (fun i a => TfC a (goA t i q1).1 (goA t i q1).2 o ∧ ∀ b y, ¬ (b = 154 ∨ b = 159 ∨ b = 160 ∨ b = 264 ∨ (270 ≤ b ∧ b ≤ 273)) → a b y = A b y) (p.1 0 0) ?_ ?_ (p.1 0 0 - p.1 0 4) (p.1 0 4) a fu (by omega) (by omega) ⟨by rw [hg0]; exact hr, p1⟩
    · intro i a r hi ⟨hr, p1⟩ ih
      show wq (fX9_tick_i44 fu (sI t) r (sI (i + 1)) a L) _
      have vi := gA_V (t := t) i q1 (by rw [kB]; omega) vB
      have ki : (goA t i q1).1 0 0 = p.1 0 0 := by rw [gA_r (by omega) (by omega) (by omega)]; exact kB
      have ci : (goA t i q1).1 0 3 = p.1 0 3 := by rw [gA_r (by omega) (by omega) (by omega)]; exact c1
      have e0 : goA t (i + 1) q1 = goP (i + 1) t (goA t i q1) := rfl
      rw [e0] at ih
      generalize goA t i q1 = u at *
      unfold fX9_tick_i44
      rw [hr.1.1, ki, if_neg (by rw [sI_lt (by omega) (by omega)]; omega)]
      refine wq_b2 (c_goOn9 (by omega) vi hr (by omega) (by omega) ht (by omega)) ?_
      rintro M1 L1 ⟨y1, y2, y3⟩
      dsimp only at y1 y2 y3
      subst y1
      simp only [mlet]
      rw [sI_1]
      exact ih M1 ⟨y2, fun b y w => (y3 b y (by omega) (by omega) (by omega)).trans (p1 b y w)⟩
    · intro a r ⟨hr, p1⟩
      show wq (fX9_tick_i44 fu (sI t) r (sI (p.1 0 0 + 1)) a L) _
      unfold fX9_tick_i44
      rw [hq2] at hr
      rw [hr.1.1, kG, if_pos (by rw [sI_lt (by omega) (by omega)]; omega)]
      refine settle 101 (q2.1 0 4) fu a (by have := vG.1.2.2.2.1; omega) (by omega) (by omega) rfl ?_ p1
      have : mset q2.1 0 4 (q2.1 0 4) = q2.1 := by
        funext i j
        by_cases hc : i = 0 ∧ j = 4
        · rw [hc.1, hc.2, mset_s]
        · rw [mset_n hc]
      rw [this]
      exact hr
  unfold DX9_tick
  simp only [mlet]
  rw [h.1.2.2.2.1, sI_1]
  refine wq_for (body := fun r z => fX9_tick_i7 fu (sI t) r z.1 z.2.1 z.2.2) (fun i (a : mwM) => (sI (i + 1), a, L)) (fun i a => TfC a (bgA i p).1 (bgA i p).2 o ∧ ∀ b y, ¬ (b = 154 ∨ b = 159 ∨ b = 160 ∨ b = 264 ∨ (270 ≤ b ∧ b ≤ 273)) → a b y = A b y) (p.1 0 0) ?_ ?_ (p.1 0 0 - p.1 0 4) (p.1 0 4) A fu (by omega) (by omega) ⟨by rw [bA_no (fun m u1 u2 => by have := hst m u1 u2; omega)]; exact h, fun _ _ _ => rfl⟩
  · intro i a r hi ⟨hr, p1⟩ ih
    show wq (fX9_tick_i7 fu (sI t) r (sI (i + 1)) a L) _
    have vi := bA_V i p (by omega) hv
    have vj := bA_V (i + 1) p (by omega) hv
    have ki : (bgA i p).1 0 0 = p.1 0 0 := bA_r (by omega) (by omega) (by omega) (by omega) _ _
    have e0 : bgA (i + 1) p = if (bgA i p).1 3 (i + 1) = 0 then (bgN (bgA i p).1 (i + 1), mkB (bgA i p).1 (bgA i p).2) else bgA i p := rfl
    rw [e0] at ih vj
    generalize bgA i p = u at *
    have hm := vi.2.1 (i + 1) (by omega) (by omega)
    have e159 := (hr.2.1 (i + 1) (by omega) (by omega)).2.2.2.1
    unfold fX9_tick_i7 fX9_tick_b31
    simp only [mlet]
    rw [hr.1.1, ki, if_neg (by rw [sI_lt (by omega) (by omega)]; omega), mck_s (by omega) (by omega), sI_nn (by omega), e159]
    by_cases h0 : u.1 3 (i + 1) = 0
    · rw [if_pos h0] at ih vj
      rw [if_pos (by rw [h0]; rfl)]
      dsimp only at ih vj
      have hF := Tf_F vj
      have hF1 : bgN u.1 (i + 1) 0 1 = u.1 0 1 + 1 := by
        unfold bgN
        rw [mset_n (by omega), mset_n (by omega), mk_F]
      refine wq_b2 (c_begin9 hr (by omega) (by omega) (by omega) hm.2.2.1) ?_
      rintro M1 L1 ⟨y1, y2, y3⟩
      dsimp only at y1 y2 y3
      subst y1
      rw [sI_1]
      exact ih M1 ⟨y2, fun b y w => (y3 b y (by omega) (by omega) (by omega) (by omega)).trans (p1 b y w)⟩
    · rw [if_neg h0] at ih
      rw [if_neg (by rw [sI_eql (by omega) (by decide)]; exact h0), sI_1]
      exact ih a ⟨hr, p1⟩
  · intro a r ⟨hr, p1⟩
    show wq (fX9_tick_i7 fu (sI t) r (sI (p.1 0 0 + 1)) a L) _
    unfold fX9_tick_i7
    rw [hq1] at hr
    have k4 : q1.1 0 4 = p.1 0 4 := by rw [← hq1]; exact bA_r (by omega) (by omega) (by omega) (by omega) _ _
    rw [hr.1.1, kB, if_pos (by rw [sI_lt (by omega) (by omega)]; omega), hr.1.2.2.2.1, k4, sI_1]
    exact goes a hr p1
/-! a frame reaches its aim -/
def reB (r : Nat) (p : PB) : Nat → Nat → Bool := if p.1 5 r = 1 then mset p.2 2 0 true else p.2
def fsN (m : Nat) (n : Nat → Nat → Nat) : Nat → Nat → Nat := mset (mset (mset (mset (mset n 5 (m % 4) 1) 6 (m % 4) m) 7 (m % 4) 6) 8 (m % 4) 1) 9 (m % 4) (n 0 3)
def fsP (m : Nat) (p : PB) : PB := (mkN (fsN m p.1) 3 m 0, mkB (fsN m p.1) (mset (reB (m % 4) p) 3 m true))
def gtN (r sq : Nat) (n : Nat → Nat → Nat) : Nat → Nat → Nat := mset (mset (mset n 7 r (n 7 r + 7)) 8 r (sq + 1)) 9 r (n 0 3)
def nxQ (m sq : Nat) (p : PB) : PB × Nat :=
  if p.1 5 (m % 4) = 1 ∧ p.1 6 (m % 4) = m then
    (if p.1 8 (m % 4) = sq then
      (if p.1 7 (m % 4) + 7 < p.1 2 m then ((gtN (m % 4) sq p.1, p.2), 0) else ((mset p.1 5 (m % 4) 2, p.2), m))
    else ((mset p.1 5 (m % 4) 3, mset p.2 2 0 true), 0))
  else (p, 0)
def rvQ (f : Nat) (p : PB) : PB × Nat :=
  if p.1 10 f = 3 then ((if p.1 3 (p.1 11 f) = 1 then (mset p.1 3 (p.1 11 f) 2, p.2) else p), 0)
  else if p.1 10 f = 2 then nxQ (p.1 11 f) (p.1 12 f) p
  else if p.1 10 f = 0 then ((mset p.1 5 (p.1 11 f % 4) 2, reB (p.1 11 f % 4) p), p.1 11 f)
  else (fsP (p.1 11 f) p, 0)
abbrev RvV (n : Nat → Nat → Nat) (r : Nat) : Prop := n 5 r ≤ 3 ∧ (n 5 r = 1 → 1 ≤ n 6 r ∧ n 6 r ≤ n 0 0 ∧ n 6 r % 4 = r ∧ 1 ≤ n 8 r ∧ n 8 r ≤ 15 ∧ n 7 r = 6 + 7 * (n 8 r - 1) ∧ n 7 r < n 2 (n 6 r) ∧ n 9 r ≤ n 0 3)
/-- what holds stays, where receivers, states and flags change -/
theorem W_ch {n n' : Nat → Nat → Nat} {b b' : Nat → Nat → Bool} (h : TfW n b) (h0 : ∀ i j, i ≠ 3 → ¬ (5 ≤ i ∧ i ≤ 9) → n' i j = n i j) (h3 : ∀ j, n' 3 j = n 3 j ∨ (n 3 j = 1 ∧ n' 3 j = 2)) (hr : ∀ r, r < 4 → RvV n' r) (hb3 : ∀ j, 1 ≤ j → j ≤ n 0 0 → b' 3 j = true → n 3 j ≠ 0) (hbf : ∀ f, f < n 0 1 → n 10 f = 1 → b' 1 f = false → b' 3 (n 11 f) = false) : TfW n' b' := by
  obtain ⟨⟨w1, w2, w3, w4⟩, w6, w7, w8⟩ := h
  refine ⟨?_, ?_, hr, ?_⟩
  · rw [h0 0 0 (by omega) (by omega), h0 0 1 (by omega) (by omega), h0 0 2 (by omega) (by omega), h0 0 3 (by omega) (by omega), h0 0 4 (by omega) (by omega)]
    exact ⟨w1, w2, w3, w4⟩
  · intro m u1 u2
    rw [h0 0 0 (by omega) (by omega)] at u2
    have := w6 m u1 u2
    have c3 := h3 m
    rw [h0 1 m (by omega) (by omega), h0 2 m (by omega) (by omega), h0 4 m (by omega) (by omega), h0 0 3 (by omega) (by omega), h0 0 4 (by omega) (by omega)]
    refine ⟨this.1, this.2.1, this.2.2.1, by omega, this.2.2.2.2.1, fun z => this.2.2.2.2.2.1 (by omega), fun z => ?_, fun z => ?_⟩
    · have := this.2.2.2.2.2.2.1 z
      omega
    · have := hb3 m u1 u2 z
      omega
  · intro f u
    rw [h0 0 1 (by omega) (by omega)] at u
    have := w8 f u
    have c3 := h3 (n 11 f)
    rw [h0 10 f (by omega) (by omega), h0 11 f (by omega) (by omega), h0 12 f (by omega) (by omega), h0 0 0 (by omega) (by omega), h0 0 1 (by omega) (by omega), h0 2 _ (by omega) (by omega)]
    refine ⟨this.1, this.2.1, this.2.2.1, by have := this.2.2.2.1; omega, this.2.2.2.2.1, this.2.2.2.2.2.1, this.2.2.2.2.2.2.1, this.2.2.2.2.2.2.2.1, fun hk => ⟨hbf f u hk, fun f' v1 v2 v3 => ?_⟩⟩
    rw [h0 10 f' (by omega) (by omega)] at v2
    rw [h0 11 f' (by omega) (by omega)] at v3
    exact (this.2.2.2.2.2.2.2.2 hk).2 f' v1 v2 v3
theorem cb_ch {n n' : Nat → Nat → Nat} {b b' : Nat → Nat → Bool} {m : Nat} (h2 : n' 2 m = n 2 m) (h3 : n' 3 m = n 3 m ∨ (n 3 m = 1 ∧ n' 3 m = 2)) (hb : b' 3 m = b 3 m) : cbF n' b' m = cbF n b m := by
  unfold cbF
  rw [h2, hb]
  rcases h3 with e | ⟨e1, e2⟩
  · rw [e]
  · rw [e1, e2]
    simp
theorem V_ch {n n' : Nat → Nat → Nat} {b b' : Nat → Nat → Bool} (h : TfV n b) (h0 : ∀ i j, i ≠ 3 → ¬ (5 ≤ i ∧ i ≤ 9) → n' i j = n i j) (h3 : ∀ j, n' 3 j = n 3 j ∨ (n 3 j = 1 ∧ n' 3 j = 2)) (hr : ∀ r, r < 4 → RvV n' r) (hb3 : ∀ j, b' 3 j = b 3 j) (hb1 : ∀ f, b' 1 f = false → b 1 f = false) : TfV n' b' := by
  obtain ⟨hW, hs⟩ := TfV_W.mp h
  rw [TfV_W]
  refine ⟨W_ch hW h0 h3 hr (fun j u1 u2 z => ?_) (fun f u v w => ?_), ?_⟩
  · rw [hb3] at z
    exact (hW.2.1 j u1 u2).2.2.2.2.2.2.2 z
  · rw [hb3]
    exact ((hW.2.2.2 f u).2.2.2.2.2.2.2.2 v).1 (hb1 f w)
  · rw [h0 0 0 (by omega) (by omega), h0 0 1 (by omega) (by omega)]
    refine Nat.le_trans hs (su_le _ (fun m _ _ => ?_))
    rw [cb_ch (h0 2 m (by omega) (by omega)) (h3 m) (hb3 m)]
    exact Nat.le_refl _
theorem V_gone {p : PB} {f : Nat} (h : TfV p.1 p.2) : TfV p.1 (mset p.2 1 f true) := by
  refine V_ch h (fun _ _ _ _ => rfl) (fun _ => Or.inl rfl) h.2.2.1 (fun j => mset_n (by omega)) (fun g z => ?_)
  by_cases hq : g = f
  · rw [hq, mset_s] at z
    cases z
  · rw [mset_j hq] at z
    exact z
theorem re_b {r i j : Nat} {p : PB} (h : i ≠ 2) : reB r p i j = p.2 i j := by
  unfold reB
  split
  · exact mset_n (by omega)
  · rfl
/-- one receiver changes -/
theorem rv_1 {n n' : Nat → Nat → Nat} {r : Nat} (h : ∀ x, x < 4 → RvV n x) (h0 : ∀ i j, ¬ (5 ≤ i ∧ i ≤ 9 ∧ j = r) → n' i j = n i j) (h1 : RvV n' r) : ∀ x, x < 4 → RvV n' x := by
  intro x u
  by_cases hq : x = r
  · rw [hq]; exact h1
  · unfold RvV
    rw [h0 5 x (by omega), h0 6 x (by omega), h0 7 x (by omega), h0 8 x (by omega), h0 9 x (by omega), h0 0 0 (by omega), h0 0 3 (by omega), h0 2 _ (by omega)]
    exact h x u
theorem V_rv {f : Nat} {p : PB} (h : TfV p.1 p.2) (hf : f < p.1 0 1) (hg : p.1 10 f = 1 → p.2 3 (p.1 11 f) = false ∧ p.2 1 f = true) : TfV (rvQ f p).1.1 (rvQ f p).1.2 := by
  have hF := h.2.2.2 f hf
  have hR := h.2.2.1
  generalize hm : p.1 11 f = m at *
  have hr4 : m % 4 < 4 := Nat.mod_lt _ (by omega)
  have hM := h.2.1 m hF.2.1 hF.2.2.1
  have cs : ∀ j, mset p.1 5 (m % 4) j 5 (m % 4) = j := fun j => mset_s
  unfold rvQ nxQ
  rw [hm]
  by_cases k3 : p.1 10 f = 3
  · rw [if_pos k3]
    dsimp only
    by_cases a1 : p.1 3 m = 1
    · rw [if_pos a1]
      refine V_ch h (fun i j u _ => mset_n (by omega)) (fun j => ?_) (fun r u => ?_) (fun _ => rfl) (fun _ z => z)
      · dsimp only
        by_cases hq : j = m
        · rw [hq, mset_s]; exact Or.inr ⟨a1, rfl⟩
        · rw [mset_j hq]; exact Or.inl rfl
      · unfold RvV
        simp (disch := omega) only [mset_n]
        exact hR r u
    · rw [if_neg a1]; exact h
  · rw [if_neg k3]
    by_cases k2 : p.1 10 f = 2
    · rw [if_pos k2]
      by_cases a1 : p.1 5 (m % 4) = 1 ∧ p.1 6 (m % 4) = m
      · rw [if_pos a1]
        have hr := (hR (m % 4) hr4).2 a1.1
        by_cases a2 : p.1 8 (m % 4) = p.1 12 f
        · rw [if_pos a2]
          by_cases a3 : p.1 7 (m % 4) + 7 < p.1 2 m
          · rw [if_pos a3]
            dsimp only
            refine V_ch h (fun i j u v => ?_) (fun j => ?_) (rv_1 (r := m % 4) hR (fun i j u => ?_) ?_) (fun _ => rfl) (fun _ z => z)
            · unfold gtN
              rw [mset_n (by omega), mset_n (by omega), mset_n (by omega)]
            · unfold gtN
              rw [mset_n (by omega), mset_n (by omega), mset_n (by omega)]
              exact Or.inl rfl
            · unfold gtN
              rw [mset_n (by omega), mset_n (by omega), mset_n (by omega)]
            · unfold RvV gtN
              simp (disch := omega) only [mset_n, mset_s]
              refine ⟨(hR _ hr4).1, fun _ => ⟨hr.1, hr.2.1, hr.2.2.1, by omega, ?_, ?_, ?_, Nat.le_refl _⟩⟩
              · have := hM.2.2.1
                omega
              · omega
              · rw [a1.2]; exact a3
          · rw [if_neg a3]
            dsimp only
            refine V_ch h (fun i j u v => mset_n (by omega)) (fun j => Or.inl (mset_n (by omega))) (rv_1 (r := m % 4) hR (fun i j u => mset_n (by omega)) ?_) (fun _ => rfl) (fun _ z => z)
            refine ⟨by rw [cs]; omega, fun z => ?_⟩
            rw [cs] at z
            omega
        · rw [if_neg a2]
          dsimp only
          refine V_ch h (fun i j u v => mset_n (by omega)) (fun j => Or.inl (mset_n (by omega))) (rv_1 (r := m % 4) hR (fun i j u => mset_n (by omega)) ?_) (fun j => mset_n (by omega)) (fun g z => ?_)
          · refine ⟨by rw [cs]; omega, fun z => ?_⟩
            rw [cs] at z
            omega
          · rw [mset_n (by omega)] at z
            exact z
      · rw [if_neg a1]; exact h
    · rw [if_neg k2]
      by_cases k0 : p.1 10 f = 0
      · rw [if_pos k0]
        dsimp only
        refine V_ch h (fun i j u v => mset_n (by omega)) (fun j => Or.inl (mset_n (by omega))) (rv_1 (r := m % 4) hR (fun i j u => mset_n (by omega)) ?_) (fun j => re_b (by omega)) (fun g z => ?_)
        · refine ⟨by rw [cs]; omega, fun z => ?_⟩
          rw [cs] at z
          omega
        · rw [re_b (by omega)] at z
          exact z
      · rw [if_neg k0]
        have k1 : p.1 10 f = 1 := by omega
        obtain ⟨g1, g2⟩ := hg k1
        dsimp only
        obtain ⟨hW, hs⟩ := TfV_W.mp h
        have fo : ∀ i j, ¬ (5 ≤ i ∧ i ≤ 9 ∧ j = m % 4) → fsN m p.1 i j = p.1 i j := by
          intro i j u
          unfold fsN
          rw [mset_n (by omega), mset_n (by omega), mset_n (by omega), mset_n (by omega), mset_n (by omega)]
        have hRm : RvV (fsN m p.1) (m % 4) := by
          unfold RvV fsN
          simp (disch := omega) only [mset_n, mset_s]
          have := hF.2.2.2.2.2.1 (by omega)
          exact ⟨by omega, fun _ => ⟨hF.2.1, hF.2.2.1, trivial, by omega, by omega, by omega, by omega, Nat.le_refl _⟩⟩
        have eb : ∀ j, mset (reB (m % 4) p) 3 m true 3 j = if j = m then true else p.2 3 j := by
          intro j
          by_cases hq : j = m
          · rw [hq, mset_s, if_pos rfl]
          · rw [mset_j hq, if_neg hq, re_b (by omega)]
        have e1 : ∀ j, mset (reB (m % 4) p) 3 m true 1 j = p.2 1 j := fun j => by rw [mset_n (by omega), re_b (by omega)]
        have W1 : TfW (fsN m p.1) (mset (reB (m % 4) p) 3 m true) := by
          refine W_ch hW (fun i j u v => fo i j (by omega)) (fun j => Or.inl (fo 3 j (by omega))) (rv_1 (r := m % 4) hR fo hRm) (fun j u1 u2 z => ?_) (fun g u v w => ?_)
          · rw [eb] at z
            by_cases hq : j = m
            · rw [hq]; exact hF.2.2.2.1
            · rw [if_neg hq] at z
              exact (hW.2.1 j u1 u2).2.2.2.2.2.2.2 z
          · rw [e1] at w
            rw [eb]
            by_cases hq : p.1 11 g = m
            · have := (hF.2.2.2.2.2.2.2.2 k1).2 g u v hq
              rw [this, g2] at w
              cases w
            · rw [if_neg hq]
              exact ((hW.2.2.2 g u).2.2.2.2.2.2.2.2 v).1 w
        have hFr : FrV (fsN m p.1) (mset (reB (m % 4) p) 3 m true) 3 m 0 := by
          refine ⟨by omega, hF.2.1, ?_, ?_, fun z => by omega, fun _ => ?_, fun z => by omega, fun _ => rfl, fun z => by omega⟩
          · rw [fo 0 0 (by omega)]; exact hF.2.2.1
          · rw [fo 3 m (by omega)]; exact hF.2.2.2.1
          · rw [fo 2 m (by omega)]; exact hF.2.2.2.2.2.1 (by omega)
        rw [TfV_W]
        refine ⟨W_mk W1 hFr, ?_⟩
        have hn : ∀ i j, i ≠ 0 → ¬ (10 ≤ i ∧ i ≤ 12) → mkN (fsN m p.1) 3 m 0 i j = fsN m p.1 i j := fun i j u v => mk_r (by omega) v
        unfold fsP
        dsimp only
        rw [mk_F, mk_r (by omega) (by omega), fo 0 0 (by omega), fo 0 1 (by omega)]
        have := su_1 (g := cbF p.1 p.2) (h := cbF (mkN (fsN m p.1) 3 m 0) (mkB (fsN m p.1) (mset (reB (m % 4) p) 3 m true))) (j := m) (d := 1) (p.1 0 0) hF.2.1 hF.2.2.1 (fun j u1 u2 u3 => ?_) ?_
        · omega
        · unfold cbF
          rw [hn 3 j (by omega) (by omega), hn 2 j (by omega) (by omega), fo 3 j (by omega), fo 2 j (by omega), mkB_r (by omega), eb, if_neg u3]
        · unfold cbF
          rw [hn 3 m (by omega) (by omega), hn 2 m (by omega) (by omega), fo 3 m (by omega), fo 2 m (by omega), mkB_r (by omega), eb, if_pos rfl, g1]
          have := hF.2.2.2.1
          simp
          omega
/-! the class: a frame reaches its aim -/
theorem TfC_ch {A A' : mwM} {n n' : Nat → Nat → Nat} {b b' : Nat → Nat → Bool} {o : Nat → Nat → Nat} (h : TfC A n b o) (hK : n 0 0 ≤ 100) (hA : ∀ a y, ¬ (a = 159 ∨ (264 ≤ a ∧ a ≤ 268) ∨ a = 273 ∨ (a = 154 ∧ y = 10)) → A' a y = A a y) (h0 : ∀ i j, i ≠ 3 → ¬ (5 ≤ i ∧ i ≤ 9) → n' i j = n i j) (hb0 : ∀ j, b' 0 j = b 0 j) (h10 : A' 154 10 = bI (b' 2 0)) (h159 : ∀ m, 1 ≤ m → m ≤ n 0 0 → A' 159 m = sI (n' 3 m)) (h3 : ∀ m, n' 3 m ≠ 0 → n 3 m ≠ 0) (hr : ∀ r, r < 4 → A' 264 r = sI (cmo (n' 5 r)) ∧ (n' 5 r = 1 → A' 265 r = sI (n' 6 r) ∧ A' 266 r = sI (n' 7 r) ∧ A' 267 r = sI (n' 8 r) ∧ A' 268 r = sI (n' 9 r))) (h273 : ∀ f, f < n 0 1 → A' 273 f = bI (b' 1 f)) : TfC A' n' b' o := by
  obtain ⟨k1, k2, k3, k4⟩ := h
  refine ⟨?_, ?_, hr, ?_⟩
  · rw [h0 0 0 (by omega) (by omega), h0 0 1 (by omega) (by omega), h0 0 2 (by omega) (by omega), h0 0 3 (by omega) (by omega), h0 0 4 (by omega) (by omega)]
    rw [hA 154 5 (by omega), hA 154 6 (by omega), hA 154 7 (by omega), hA 154 8 (by omega), hA 154 9 (by omega)]
    exact ⟨k1.1, k1.2.1, k1.2.2.1, k1.2.2.2.1, k1.2.2.2.2.1, h10⟩
  · intro m u1 u2
    rw [h0 0 0 (by omega) (by omega)] at u2
    have := k2 m u1 u2
    rw [h0 1 m (by omega) (by omega), h0 2 m (by omega) (by omega), h0 4 m (by omega) (by omega), hb0, hA 156 m (by omega), hA 157 m (by omega), hA 158 m (by omega), hA 160 m (by omega)]
    refine ⟨this.1, this.2.1, this.2.2.1, h159 m u1 u2, fun z => this.2.2.2.2.1 (h3 m z), fun i u => ?_⟩
    rw [hA (162 + m) i (by omega)]
    exact this.2.2.2.2.2 i u
  · intro f u
    rw [h0 0 1 (by omega) (by omega)] at u
    have := k4 f u
    rw [h0 10 f (by omega) (by omega), h0 11 f (by omega) (by omega), h0 12 f (by omega) (by omega), hA 270 f (by omega), hA 271 f (by omega), hA 272 f (by omega)]
    exact ⟨this.1, this.2.1, this.2.2.1, h273 f u⟩
abbrev RvC (A : mwM) (n : Nat → Nat → Nat) (r : Nat) : Prop := A 264 r = sI (cmo (n 5 r)) ∧ (n 5 r = 1 → A 265 r = sI (n 6 r) ∧ A 266 r = sI (n 7 r) ∧ A 267 r = sI (n 8 r) ∧ A 268 r = sI (n 9 r))
theorem rc_1 {A A' : mwM} {n n' : Nat → Nat → Nat} {r : Nat} (h : ∀ x, x < 4 → RvC A n x) (h0 : ∀ i j, ¬ (5 ≤ i ∧ i ≤ 9 ∧ j = r) → n' i j = n i j) (hA : ∀ a y, 264 ≤ a → a ≤ 268 → y ≠ r → A' a y = A a y) (h1 : RvC A' n' r) : ∀ x, x < 4 → RvC A' n' x := by
  intro x u
  by_cases hq : x = r
  · rw [hq]; exact h1
  · unfold RvC
    rw [h0 5 x (by omega), h0 6 x (by omega), h0 7 x (by omega), h0 8 x (by omega), h0 9 x (by omega), hA 264 x (by omega) (by omega) hq, hA 265 x (by omega) (by omega) hq, hA 266 x (by omega) (by omega) hq, hA 267 x (by omega) (by omega) hq, hA 268 x (by omega) (by omega) hq]
    exact h x u
theorem TfC_st2 {A : mwM} {n : Nat → Nat → Nat} {b : Nat → Nat → Bool} {o : Nat → Nat → Nat} (h : TfC A n b o) : ∀ m, 1 ≤ m → m ≤ n 0 0 → A 159 m = sI (n 3 m) := fun m u1 u2 => (h.2.1 m u1 u2).2.2.2.1
theorem TfC_gn {A : mwM} {n : Nat → Nat → Nat} {b : Nat → Nat → Bool} {o : Nat → Nat → Nat} (h : TfC A n b o) : ∀ f, f < n 0 1 → A 273 f = bI (b 1 f) := fun f u => (h.2.2.2 f u).2.2.2
theorem c_receiveNext {fu m sq : Nat} {A : mwM} {L : mwL} {p : PB} {o : Nat → Nat → Nat} (hv : TfV p.1 p.2) (h : TfC A p.1 p.2 o) (h1 : 1 ≤ m) (h2 : m ≤ p.1 0 0) (hs : sq ≤ 14) : wq (DX9_receiveNext fu (sI m) (sI sq) A L) (fun z => z.1 = sI (nxQ m sq p).2 ∧ z.2.2 = L ∧ TfC z.2.1 (nxQ m sq p).1.1 (nxQ m sq p).1.2 o ∧ ∀ a y, ¬ (264 ≤ a ∧ a ≤ 268) → ¬ (a = 154 ∧ y = 10) → z.2.1 a y = A a y) := by
  have hK := hv.1.1
  have hM := hv.2.1 m h1 h2
  have hr4 : m % 4 < 4 := Nat.mod_lt _ (by omega)
  have hR := hv.2.2.1 (m % 4) hr4
  have e158 := (h.2.1 m h1 h2).2.2.1
  have hC := h.2.2.1 (m % 4) hr4
  have k9 := h.1.2.2.2.2.1
  have hcl := cmo_le hR.1
  unfold DX9_receiveNext fX9_receiveNext_b28 nxQ
  simp only [mlet]
  rw [show sI m - sI m / 4 * 4 = sI (m % 4) from sI_mod (b := 4) (by omega) (by omega)]
  generalize hr : m % 4 = r at *
  rw [mck_s hr4 (by omega), sI_nn (by omega), hC.1]
  by_cases a1 : p.1 5 r = 1
  · have hV := hR.2 a1
    obtain ⟨c1, c2, c3, c4⟩ := hC.2 a1
    rw [if_pos (by rw [a1]; rfl), mck_s hr4 (by omega), c1]
    by_cases a2 : p.1 6 r = m
    · rw [if_pos (show sI (p.1 6 r) = sI m by rw [a2]), if_pos (show p.1 5 r = 1 ∧ p.1 6 r = m from ⟨a1, a2⟩), mck_s hr4 (by omega), c3]
      by_cases a3 : p.1 8 r = sq
      · rw [if_pos (show sI (p.1 8 r) = sI sq by rw [a3]), if_pos a3, mck_s hr4 (by omega), mck_s hr4 (by omega), mck_s hr4 (by omega), mck_s hr4 (by omega), mck_s hr4 (by omega), mck_s (by omega) (by omega), mck_s hr4 (by omega), sI_nn (by omega), c2, sI_1, show sI (sq + 1) - sI (sq + 1) / 16 * 16 = sI ((sq + 1) % 16) from sI_mod (b := 16) (by omega) (by omega), Nat.mod_eq_of_lt (show sq + 1 < 16 by omega)]
        have hsz : p.1 7 r < 200 := by have := hM.2.2.1; rw [a2] at hV; omega
        rw [show sI (p.1 7 r) + 7 = sI (p.1 7 r + 7) from sI_adl]
        simp (disch := omega) only [mset_n, mset_s, e158, k9]
        by_cases a4 : p.1 7 r + 7 < p.1 2 m
        · rw [if_pos a4, if_neg (by rw [sI_le (by omega) (by omega)]; omega)]
          refine wq_some ⟨rfl, rfl, ?_, fun a y u1 u2 => ?_⟩
          all_goals (try dsimp only)
          · refine TfC_ch h hK (fun a y u => by simp (disch := omega) only [mset_n]) (fun i j u v => ?_) (fun _ => rfl) ?_ (fun j u v => ?_) (fun j z => ?_) (rc_1 (r := r) h.2.2.1 (fun i j u => ?_) (fun a y u v w => by simp (disch := omega) only [mset_n]) ?_) (fun g u => ?_)
            · unfold gtN
              simp (disch := omega) only [mset_n]
            · simp (disch := omega) only [mset_n]
              exact h.1.2.2.2.2.2
            · unfold gtN
              simp (disch := omega) only [mset_n]
              exact TfC_st2 h j u v
            · unfold gtN at z
              revert z
              simp (disch := omega) only [mset_n]
              exact id
            · unfold gtN
              simp (disch := omega) only [mset_n]
            · unfold RvC gtN
              simp (disch := omega) only [mset_n, mset_s]
              exact ⟨hC.1, fun _ => ⟨c1, trivial, trivial, trivial⟩⟩
            · simp (disch := omega) only [mset_n]
              exact TfC_gn h g u
          · simp (disch := omega) only [mset_n]
        · rw [if_neg a4, if_pos (by rw [sI_le (by omega) (by omega)]; omega)]
          refine wq_some ⟨rfl, rfl, ?_, fun a y u1 u2 => ?_⟩
          all_goals (try dsimp only)
          · refine TfC_ch h hK (fun a y u => by simp (disch := omega) only [mset_n]) (fun i j u v => mset_n (by omega)) (fun _ => rfl) ?_ (fun j u v => ?_) (fun j z => ?_) (rc_1 (r := r) h.2.2.1 (fun i j u => mset_n (by omega)) (fun a y u v w => by simp (disch := omega) only [mset_n]) ?_) (fun g u => ?_)
            · simp (disch := omega) only [mset_n]
              exact h.1.2.2.2.2.2
            · simp (disch := omega) only [mset_n]
              exact TfC_st2 h j u v
            · rw [mset_n (by omega)] at z; exact z
            · unfold RvC
              rw [mset_s, mset_s]
              exact ⟨rfl, fun z => by omega⟩
            · simp (disch := omega) only [mset_n]
              exact TfC_gn h g u
          · simp (disch := omega) only [mset_n]
      · rw [if_neg (by rw [sI_eq (by omega) (by omega)]; exact a3), if_neg a3, mck_s hr4 (by omega)]
        refine wq_some ⟨rfl, rfl, ?_, fun a y u1 u2 => ?_⟩
        all_goals (try dsimp only)
        · refine TfC_ch h hK (fun a y u => by simp (disch := omega) only [mset_n]) (fun i j u v => mset_n (by omega)) (fun j => mset_n (by omega)) ?_ (fun j u v => ?_) (fun j z => ?_) (rc_1 (r := r) h.2.2.1 (fun i j u => mset_n (by omega)) (fun a y u v w => by simp (disch := omega) only [mset_n]) ?_) (fun g u => ?_)
          · rw [mset_s, mset_s]; rfl
          · simp (disch := omega) only [mset_n]
            exact TfC_st2 h j u v
          · rw [mset_n (by omega)] at z; exact z
          · unfold RvC
            rw [mset_n (show ¬ (264 = 154 ∧ r = 10) by omega), mset_s, mset_s]
            exact ⟨rfl, fun z => by omega⟩
          · simp (disch := omega) only [mset_n]
            exact TfC_gn h g u
        · simp (disch := omega) only [mset_n]
    · rw [if_neg (by rw [sI_eq (by omega) (by omega)]; exact a2), if_neg (fun z => a2 z.2)]
      exact wq_some ⟨rfl, rfl, h, fun _ _ _ _ => rfl⟩
  · rw [if_neg (by rw [sI_eql (by omega) (by decide)]; exact fun z => a1 (cmo_1.mp z)), if_neg (fun z => a1 z.1)]
    exact wq_some ⟨rfl, rfl, h, fun _ _ _ _ => rfl⟩
theorem nx_le {m sq K : Nat} {p : PB} (h : m ≤ K) : (nxQ m sq p).2 ≤ K := by
  unfold nxQ
  split
  · split
    · split
      · exact Nat.zero_le _
      · exact h
    · exact Nat.zero_le _
  · exact Nat.zero_le _
theorem c_receive {fu f : Nat} {A : mwM} {L : mwL} {p : PB} {o : Nat → Nat → Nat} (hv : TfV p.1 p.2) (hF1 : p.1 0 1 < 1600 ∨ p.1 10 f ≠ 1) (h : TfC A p.1 p.2 o) (hf : f < p.1 0 1) : wq (DX9_receive fu (sI f) A L) (fun z => z.1 = sI (rvQ f p).2 ∧ z.2.2 = L ∧ TfC z.2.1 (rvQ f p).1.1 (rvQ f p).1.2 o ∧ ∀ a y, ¬ (a = 154 ∨ a = 159 ∨ (264 ≤ a ∧ a ≤ 268) ∨ (270 ≤ a ∧ a ≤ 273)) → z.2.1 a y = A a y) := by
  have hK := hv.1.1
  have hF0 := Tf_F hv
  have hF := hv.2.2.2 f hf
  obtain ⟨q270, q271, q272, q273⟩ := h.2.2.2 f hf
  unfold DX9_receive fX9_receive_b42 rvQ
  simp only [mlet]
  rw [mck_s (by omega) (by omega), sI_nn (by omega), q271, mck_s (by omega) (by omega), q270]
  generalize hm : p.1 11 f = m at *
  have hr4 : m % 4 < 4 := Nat.mod_lt _ (by omega)
  have hM := hv.2.1 m hF.2.1 hF.2.2.1
  have hR := hv.2.2.1 (m % 4) hr4
  have hC := h.2.2.1 (m % 4) hr4
  have k9 := h.1.2.2.2.2.1
  have hcl := cmo_le hR.1
  have e159 := (h.2.1 m hF.2.1 hF.2.2.1).2.2.2.1
  by_cases k3 : p.1 10 f = 3
  · rw [if_pos (by rw [k3]; rfl), if_pos k3, mck_s (by omega) (by omega), sI_nn (by omega), e159]
    by_cases a1 : p.1 3 m = 1
    · rw [if_pos (by rw [a1]; rfl), if_pos a1, mck_s (by omega) (by omega)]
      refine wq_some ⟨rfl, rfl, ?_, fun a y u => ?_⟩
      all_goals (try dsimp only)
      · refine TfC_ch h hK (fun a y u => by simp (disch := omega) only [mset_n]) (fun i j u v => mset_n (by omega)) (fun _ => rfl) ?_ (fun j u v => ?_) (fun j z => ?_) (fun r u => ?_) (fun g u => ?_)
        · simp (disch := omega) only [mset_n]
          exact h.1.2.2.2.2.2
        · by_cases hq : j = m
          · rw [hq, mset_s, mset_s]; rfl
          · rw [mset_j hq, mset_j hq]
            exact TfC_st2 h j u v
        · by_cases hq : j = m
          · rw [hq]; omega
          · rw [mset_j hq] at z; exact z
        · simp (disch := omega) only [mset_n]
          exact h.2.2.1 r u
        · simp (disch := omega) only [mset_n]
          exact TfC_gn h g u
      · simp (disch := omega) only [mset_n]
    · rw [if_neg (by rw [sI_eql (by omega) (by decide)]; exact a1), if_neg a1]
      exact wq_some ⟨rfl, rfl, h, fun _ _ _ => rfl⟩
  · rw [if_neg (by rw [sI_eql (by omega) (by decide)]; exact k3), if_neg k3, mck_s (by omega) (by omega)]
    by_cases k2 : p.1 10 f = 2
    · have hs := hF.2.2.2.2.2.2.1 k2
      have h100 := hM.2.2.1
      rw [if_pos (by rw [k2]; rfl), if_pos k2, mck_s (by omega) (by omega), q272]
      refine wq_b3 (c_receiveNext hv h hF.2.1 hF.2.2.1 (by omega)) ?_
      rintro r1 M1 L1 ⟨y0, y1, y2, y3⟩
      dsimp only at y0 y1 y2 y3
      exact wq_some ⟨y0, y1, y2, fun a y u => y3 a y (by omega) (by omega)⟩
    · rw [if_neg (by rw [sI_eql (by omega) (by decide)]; exact k2), if_neg k2]
      rw [show sI m - sI m / 4 * 4 = sI (m % 4) from sI_mod (b := 4) (by omega) (by omega)]
      generalize hr : m % 4 = r at *
      rw [mck_s hr4 (by omega), sI_nn (by omega), hC.1]
      -- a receiver begins
      have fin : ∀ a : mwM, TfC a p.1 (reB r p) o → (∀ x y, ¬ (x = 154 ∧ y = 10) → a x y = A x y) → wq (fX9_receive_b91 fu (sI f) (sI m) (sI r) a L) (fun z => z.1 = sI (if p.1 10 f = 0 then ((mset p.1 5 r 2, reB r p), m) else (fsP m p, 0)).2 ∧ z.2.2 = L ∧ TfC z.2.1 (if p.1 10 f = 0 then ((mset p.1 5 r 2, reB r p), m) else (fsP m p, 0)).1.1 (if p.1 10 f = 0 then ((mset p.1 5 r 2, reB r p), m) else (fsP m p, 0)).1.2 o ∧ ∀ a y, ¬ (a = 154 ∨ a = 159 ∨ (264 ≤ a ∧ a ≤ 268) ∨ (270 ≤ a ∧ a ≤ 273)) → z.2.1 a y = A a y) := by
        intro a ha pa
        unfold fX9_receive_b91
        rw [mck_s (by omega) (by omega), sI_nn (by omega), pa 270 f (by omega), q270]
        by_cases k0 : p.1 10 f = 0
        · rw [if_pos (by rw [k0]; rfl), if_pos k0, mck_s hr4 (by omega), sI_nn (by omega)]
          simp only [mlet]
          refine wq_some ⟨rfl, rfl, ?_, fun x y u => ?_⟩
          all_goals (try dsimp only)
          · refine TfC_ch ha hK (fun a y u => by simp (disch := omega) only [mset_n]) (fun i j u v => mset_n (by omega)) (fun _ => rfl) ?_ (fun j u v => ?_) (fun j z => ?_) (rc_1 (r := r) ha.2.2.1 (fun i j u => mset_n (by omega)) (fun a y u v w => by simp (disch := omega) only [mset_n]) ?_) (fun g u => ?_)
            · simp (disch := omega) only [mset_n]
              exact ha.1.2.2.2.2.2
            · simp (disch := omega) only [mset_n]
              exact TfC_st2 ha j u v
            · rw [mset_n (by omega)] at z; exact z
            · unfold RvC
              rw [mset_s, mset_s]
              exact ⟨rfl, fun z => by omega⟩
            · simp (disch := omega) only [mset_n]
              exact TfC_gn ha g u
          · rw [mset_n (by omega)]; exact pa x y (by omega)
        · have k1 : p.1 10 f = 1 := by omega
          rw [if_neg (by rw [sI_eql (by omega) (by decide)]; exact k0), if_neg k0]
          simp (disch := omega) only [mck_s, sI_nn, nn_s, sI_lt, sI_le, sI_eq, sI_ltl, sI_lel, sI_eql, sI_llt, sI_lle, sI_1, bI_0, bI_1, bI_n, mlet, mb3_s, mb2_s]
          simp (disch := omega) only [mset_n, pa 154 9, k9]
          have hT : TfC (mset (mset (mset (mset (mset a 264 r 1) 265 r (sI m)) 266 r 6) 267 r 1) 268 r (sI (p.1 0 3))) (fsN m p.1) (mset (reB r p) 3 m true) o := by
            refine TfC_ch ha hK (fun a y u => by simp (disch := omega) only [mset_n]) (fun i j u v => ?_) (fun j => mset_n (by omega)) ?_ (fun j u v => ?_) (fun j z => ?_) (rc_1 (r := r) ha.2.2.1 (fun i j u => ?_) (fun a y u v w => by simp (disch := omega) only [mset_n]) ?_) (fun g u => ?_)
            · unfold fsN
              rw [hr]
              simp (disch := omega) only [mset_n]
            · simp (disch := omega) only [mset_n]
              exact ha.1.2.2.2.2.2
            · unfold fsN
              rw [hr]
              simp (disch := omega) only [mset_n]
              exact TfC_st2 ha j u v
            · unfold fsN at z
              rw [hr] at z
              revert z
              simp (disch := omega) only [mset_n]
              exact id
            · unfold fsN
              rw [hr]
              simp (disch := omega) only [mset_n]
            · unfold RvC fsN
              rw [hr]
              simp (disch := omega) only [mset_n, mset_s]
              exact ⟨rfl, fun _ => ⟨trivial, rfl, rfl, trivial⟩⟩
            · simp (disch := omega) only [mset_n]
              exact TfC_gn ha g u
          have fo : ∀ i j, ¬ (5 ≤ i ∧ i ≤ 9 ∧ j = r) → fsN m p.1 i j = p.1 i j := by
            intro i j u
            unfold fsN
            rw [hr, mset_n (by omega), mset_n (by omega), mset_n (by omega), mset_n (by omega), mset_n (by omega)]
          refine wq_b2 (show wq (DX9_makeFrame fu 3 (sI m) 0 _ L) _ from c_makeFrame (kd := 3) (sq := 0) hT (by rw [fo 0 0 (by omega)]; exact hK) (by rw [fo 0 1 (by omega)]; omega)) ?_
          rintro M1 L1 ⟨y1, y2, y3⟩
          dsimp only at y1 y2 y3
          subst y1
          refine wq_some ⟨rfl, rfl, ?_, fun x y u => ?_⟩
          all_goals (try dsimp only)
          · unfold fsP
            rw [hr]
            exact y2
          · rw [y3 x y (by omega) (by omega)]
            simp (disch := omega) only [mset_n]
            exact pa x y (by omega)
      by_cases a1 : p.1 5 r = 1
      · rw [if_pos (by rw [a1]; rfl)]
        refine fin _ ?_ (fun x y u => mset_n u)
        have eb : reB r p = mset p.2 2 0 true := by unfold reB; rw [if_pos a1]
        rw [eb]
        refine TfC_ch h hK (fun a y u => by simp (disch := omega) only [mset_n]) (fun i j u v => rfl) (fun j => mset_n (by omega)) ?_ (fun j u v => ?_) (fun j z => z) (fun r u => ?_) (fun g u => ?_)
        · rw [mset_s, mset_s]; rfl
        · simp (disch := omega) only [mset_n]
          exact TfC_st2 h j u v
        · simp (disch := omega) only [mset_n]
          exact h.2.2.1 r u
        · simp (disch := omega) only [mset_n]
          exact TfC_gn h g u
      · rw [if_neg (by rw [sI_eql (by omega) (by decide)]; exact fun z => a1 (cmo_1.mp z))]
        refine fin _ ?_ (fun x y u => rfl)
        have eb : reB r p = p.2 := by unfold reB; rw [if_neg a1]
        rw [eb]
        exact h
