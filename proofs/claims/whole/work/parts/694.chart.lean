/-! an event happens: what comes of it -/
def spZ (s : Nat) (w : ZT) : ZT := ((w.1.1, (fun r j => if r = 1 ∧ j = s then true else w.1.2.1 r j), w.1.2.2), w.2)
def duZ (t : Nat) (w : ZT) : Nat := duN w.1.1 w.1.2.1 t (w.1.1 0 0)
def atZ (t : Nat) (w : ZT) : Nat := w.1.1 14 (duZ t w) + w.1.1 12 (duZ t w)
def sp1 (va : Nat → Int32) (t : Nat) (w : ZT) : ZT := gZ va (atZ t w) (1000 + duZ t w) (spZ (duZ t w) w)
def sp2 (va : Nat → Int32) (t : Nat) (w : ZT) : Bool × ZT := chN va (atZ t w) (w.1.1 0 3) (sp1 va t w)
def spL (va : Nat → Int32) (t : Nat) : Nat → ZT → Bool × ZT
  | 0, w => (decide (duZ t w = 0), w)
  | n + 1, w => if duZ t w = 0 then (true, w) else if (sp2 va t w).1 = true then spL va t n (sp2 va t w).2 else (false, (sp2 va t w).2)
theorem S14_tk {c : Nat → Nat → Nat} {b : Nat → Nat → Bool} {e now : Nat} (h : S14 c) (hn : now ≤ 20000) : S14 (tkC c b e now) := by
  intro s hs
  rw [tkC_r (by omega) (by omega)] at hs
  unfold tkC ent
  split
  · exact hn
  · rw [tk2_r (by omega)]; exact h s hs
theorem S14_st {va : Nat → Int32} {now : Nat} (hn : now ≤ 20000) : ∀ (l : List Nat) (z), S14 z.1 → S14 (stL va now l z).1 := by
  intro l
  induction l with
  | nil => intro z h; exact h
  | cons e l ih => intro z h; exact ih _ (S14_tk h hn)
theorem S14_g {va : Nat → Int32} {now v : Nat} {w : ZT} (h : S14 w.1.1) (hn : now ≤ 20000) : S14 (gZ va now v w).1.1 := S14_st hn _ _ h
theorem ch_In {va : Nat → Int32} {now : Nat} (hn : now ≤ 20000) : ∀ n w, InW w → S14 w.1.1 → InW (chN va now n w).2 ∧ S14 (chN va now n w).2.1.1 := by
  intro n
  induction n with
  | zero => intro w h h2; exact ⟨In_seW h, h2⟩
  | succ n ih =>
    intro w h h2
    have e0 : chN va now (n + 1) w = if (tkZ 0 w).length = 0 then (true, seZ 0 w) else chN va now n (gZ va now 0 w) := rfl
    rw [e0]
    split
    · exact ⟨In_seW h, h2⟩
    · exact ih _ (In_g h) (S14_g h2 hn)
theorem ch_r {va : Nat → Int32} {now i : Nat} (h : i ≠ 13) (h2 : i ≠ 14) : ∀ n w, (chN va now n w).2.1.1 i = w.1.1 i := by
  intro n
  induction n with
  | zero => intro w; rfl
  | succ n ih =>
    intro w
    have e0 : chN va now (n + 1) w = if (tkZ 0 w).length = 0 then (true, seZ 0 w) else chN va now n (gZ va now 0 w) := rfl
    rw [e0]
    split
    · rfl
    · rw [ih]; exact g_r h h2
theorem sp_In {s : Nat} {w : ZT} (h : InW w) : InW (spZ s w) := by
  refine ⟨h.1, Cfg_b h.2 ?_⟩
  funext j
  show (if (0 : Nat) = 1 ∧ j = s then true else w.1.2.1 0 j) = w.1.2.1 0 j
  rw [if_neg (by omega)]
theorem du_ok {t : Nat} {w : ZT} (h : duZ t w ≠ 0) : duZ t w ≤ w.1.1 0 0 ∧ atZ t w ≤ t := by
  have := du_le (c := w.1.1) (b := w.1.2.1) (t := t) (w.1.1 0 0)
  have h2 := this.2 h
  unfold duC at h2
  simp only [Bool.and_eq_true, decide_eq_true_eq] at h2
  exact ⟨this.1, h2.2.2.2⟩
theorem sp1_In {va : Nat → Int32} {t : Nat} {w : ZT} (h : InW w) (hS : S14 w.1.1) (ht : t ≤ 20000) (hd : duZ t w ≠ 0) : InW (sp1 va t w) ∧ S14 (sp1 va t w).1.1 := by
  have := du_ok hd
  exact ⟨In_g (sp_In h), S14_g (w := spZ (duZ t w) w) hS (by omega)⟩
theorem sp2_In {va : Nat → Int32} {t : Nat} {w : ZT} (h : InW w) (hS : S14 w.1.1) (ht : t ≤ 20000) (hd : duZ t w ≠ 0) : InW (sp2 va t w).2 ∧ S14 (sp2 va t w).2.1.1 := by
  have := du_ok hd
  have h1 := sp1_In (va := va) h hS ht hd
  exact ch_In (by omega) _ _ h1.1 h1.2
theorem sp2_r {va : Nat → Int32} {t i : Nat} {w : ZT} (h : i ≠ 13) (h2 : i ≠ 14) : (sp2 va t w).2.1.1 i = w.1.1 i := by
  have h1 : (sp1 va t w).1.1 i = w.1.1 i := g_r (w := spZ (duZ t w) w) h h2
  unfold sp2
  rw [ch_r h h2]
  exact h1
theorem spL_In {va : Nat → Int32} {t : Nat} (ht : t ≤ 20000) : ∀ n w, InW w → S14 w.1.1 → InW (spL va t n w).2 ∧ S14 (spL va t n w).2.1.1 := by
  intro n
  induction n with
  | zero => intro w h h2; exact ⟨h, h2⟩
  | succ n ih =>
    intro w h h2
    have e0 : spL va t (n + 1) w = if duZ t w = 0 then (true, w) else if (sp2 va t w).1 = true then spL va t n (sp2 va t w).2 else (false, (sp2 va t w).2) := rfl
    rw [e0]
    by_cases hd : duZ t w = 0
    · rw [if_pos hd]; exact ⟨h, h2⟩
    · rw [if_neg hd]
      have h3 := sp2_In (va := va) h h2 ht hd
      split
      · exact ih _ h3.1 h3.2
      · exact h3
theorem spL_r {va : Nat → Int32} {t i : Nat} (h : i ≠ 13) (h2 : i ≠ 14) : ∀ n w, (spL va t n w).2.1.1 i = w.1.1 i := by
  intro n
  induction n with
  | zero => intro w; rfl
  | succ n ih =>
    intro w
    have e0 : spL va t (n + 1) w = if duZ t w = 0 then (true, w) else if (sp2 va t w).1 = true then spL va t n (sp2 va t w).2 else (false, (sp2 va t w).2) := rfl
    rw [e0]
    split
    · rfl
    · split
      · rw [ih]; exact sp2_r h h2
      · exact sp2_r h h2
/-- the event itself -/
def drZ (w : ZT) (z : Bool) : ZT := (w.1, fun i => if i = 0 then w.2 0 + (if z = true then 1 else 0) else w.2 i)
def fiZ (va : Nat → Int32) (e t : Nat) (w : ZT) : ZT := drZ (gZ va t e w) (decide ((tkZ e w).length = 0))
def ev2 (va : Nat → Int32) (e t : Nat) (w : ZT) : Bool × ZT := if (spL va t 1000 w).1 = true then (if e = 0 then spL va t 1000 w else chN va t (w.1.1 0 3) (fiZ va e t (spL va t 1000 w).2)) else spL va t 1000 w
def sta (b : Nat → Nat → Bool) : Nat → Nat → Bool := fun r s => if r = 6 ∧ s = 0 then true else b r s
theorem sta_r {b : Nat → Nat → Bool} {r : Nat} (h : r ≠ 6) : sta b r = b r := by
  funext s
  unfold sta
  rw [if_neg (fun z => h z.1)]
theorem sta_6 {b : Nat → Nat → Bool} : sta b 6 0 = true := by
  unfold sta
  rw [if_pos ⟨rfl, rfl⟩]
def stZ (va : Nat → Int32) (t : Nat) (w : ZT) : ZT := ((ent w.1.1 (cmB w.1.1 0 (fun _ _ => false)) t, enb (sta w.1.2.1) (cmB w.1.1 0 (fun _ _ => false)), alo (cmB w.1.1 0 (fun _ _ => false)) (acD w.1.1 va 0) (riL (w.1.1 3) (w.1.1 0 0) 42) w.1.2.2), w.2)
def ev1 (va : Nat → Int32) (e t : Nat) (w : ZT) : Bool × ZT := if w.1.2.1 6 0 = true then ev2 va e t w else if (chN va t (w.1.1 0 3) (stZ va t w)).1 = true then ev2 va e t (chN va t (w.1.1 0 3) (stZ va t w)).2 else chN va t (w.1.1 0 3) (stZ va t w)
/-- what holds of a chart between the events -/
def WI (w : ZT) : Prop := Cv w.1.1 ∧ S14 w.1.1 ∧ (w.1.2.1 6 0 = true → Cfg w.1.1 w.1.2.1) ∧ (w.1.2.1 6 0 = false → w.1.2.1 0 = (fun _ => false) ∧ ∀ s, s ≤ w.1.1 0 0 → w.1.1 13 s = 0)
theorem lv_non {c : Nat → Nat → Nat} {b : Nat → Nat → Bool} (hb : b 0 = fun _ => false) : lvC c b 0 = c ∧ lvB c b 0 = b := by
  have hx : ∀ j, exB (c 1) (c 3) (b 0) 0 j = false := by
    intro j
    unfold exB
    rw [hb]
    rfl
  refine ⟨?_, ?_⟩
  · funext i j
    unfold lvC
    rw [if_neg (fun z => by rw [hx] at z; cases z.2.1)]
  · funext r s
    unfold lvB
    by_cases hr : r = 0
    · rw [if_pos hr, hr, hb]
      rfl
    · rw [if_neg hr]
theorem st_cf {va : Nat → Int32} {t : Nat} {w : ZT} (h : WI w) (hb : w.1.2.1 6 0 = false) (ht : t ≤ 20000) : InW (stZ va t w) ∧ S14 (stZ va t w).1.1 ∧ ∀ s, s ≤ w.1.1 0 0 → chE w.1.1 (cmB w.1.1 0 (fun _ _ => false)) (chK w.1.1 (sta w.1.2.1)) s = chK (stZ va t w).1.1 (stZ va t w).1.2.1 s := by
  obtain ⟨hv, hS, _, hn⟩ := h
  obtain ⟨hb0, hh⟩ := hn hb
  have hT := hv.1
  have hb1 : sta w.1.2.1 0 = fun _ => false := by rw [sta_r (by omega)]; exact hb0
  obtain ⟨l1, l2⟩ := lv_non (c := w.1.1) (b := sta w.1.2.1) hb1
  have hH : HiV w.1.1 := fun s hs => Or.inl (hh s hs)
  have hD : CfD w.1.1 (sta w.1.2.1) 0 := by
    refine ⟨fun s u1 u2 u3 => ?_, fun s t' u1 u2 u3 u4 u5 => ?_, fun p hp hp0 hi => ?_, hH⟩
    · rw [hb1] at u3; cases u3
    · rw [hb1] at u5; cases u5
    · exfalso
      rw [ins_root hT p (by omega) hp] at hi
      cases hi
  have hst := cf_step (g := fun _ _ => false) (now := t) hT hD (Nat.zero_le _) hT.2.2.1 (Or.inl rfl) l1.symm GoA_0
  rw [l2] at hst
  have hx : ∀ s, exB (w.1.1 1) (w.1.1 3) ((sta w.1.2.1) 0) 0 s = false := by
    intro s
    unfold exB
    rw [hb1]
    rfl
  refine ⟨⟨?_, hst.1⟩, ?_, fun s hs => ?_⟩
  · refine Cv_c (fun i hi => ?_) hv
    funext j
    show ent w.1.1 (cmB w.1.1 0 (fun _ _ => false)) t i j = w.1.1 i j
    unfold ent
    rw [if_neg (fun z => by omega)]
  · intro s hs
    show ent w.1.1 (cmB w.1.1 0 (fun _ _ => false)) t 14 s ≤ 20000
    have hs2 : s ≤ w.1.1 0 0 := by
      have e : (stZ va t w).1.1 0 0 = w.1.1 0 0 := by
        show ent w.1.1 (cmB w.1.1 0 (fun _ _ => false)) t 0 0 = w.1.1 0 0
        unfold ent
        rw [if_neg (fun z => by omega)]
      rw [e] at hs
      exact hs
    unfold ent
    split
    · exact ht
    · exact hS s hs2
  · have h2 := hst.2 s hs
    have e : (fun s => if exB (w.1.1 1) (w.1.1 3) ((sta w.1.2.1) 0) 0 s = true then 0 else chK w.1.1 (sta w.1.2.1) s) = chK w.1.1 (sta w.1.2.1) := by
      funext j
      rw [hx j, if_neg (by decide)]
    rw [e] at h2
    exact h2
theorem c_aim0 {fu : Nat} {A : mwM} {L : mwL} {k : Nat} {c : Nat → Nat → Nat} (hf : 402 ≤ fu) (hv : Cv c) (hC : TrC A k (c 0 0) (c 1) (c 2) (c 3)) : wq (DX2_aim fu k 0 0 A L) (fun z => z.2 = L ∧ GrC z.1 k (c 0 0) (fun _ _ => false) (fun _ => 0) ∧ ∀ b y, b ≠ k + 12 → b ≠ k + 13 → z.1 b y = A b y) := by
  have hN := hv.1.1
  unfold DX2_aim
  refine wq_for (body := fun r z => fX2_aim_i2 fu k 0 0 r z.1 z.2.1 z.2.2) (fun i (a : mwM) => (sI i, a, L)) (fun i a => (∀ p, p < i → a (k + 12) p = sI 0 ∧ a (k + 13) p = sI 0) ∧ ∀ b y, b ≠ k + 12 → b ≠ k + 13 → a b y = A b y) (c 0 0 + 1) ?_ ?_ (c 0 0 + 1) 0 A fu (by omega) (by omega) ⟨fun p hp => by omega, fun _ _ _ _ => rfl⟩
  · intro i a r hi ⟨p1, p2⟩ ih
    show wq (fX2_aim_i2 fu k 0 0 r (sI i) a L) _
    have e7 : a k 7 = sI (c 0 0) := (p2 _ _ (by omega) (by omega)).trans hC.1
    unfold fX2_aim_i2
    rw [e7, if_neg (by rw [sI_lt (by omega) (by omega)]; omega)]
    simp (disch := omega) only [mck_s, sI_nn, nn_s, sI_lt, sI_le, sI_eq, sI_ltl, sI_lel, sI_eql, sI_llt, sI_lle, sI_1, bI_0, bI_1, bI_n, mlet, mb3_s, mb2_s]
    refine ih _ ⟨fun p hp => ?_, fun b y u1 u2 => by simp (disch := omega) only [mset_n]; exact p2 b y u1 u2⟩
    by_cases hq : p = i
    · subst hq
      simp (disch := omega) only [mset_n, mset_s]
      exact ⟨rfl, rfl⟩
    · simp (disch := omega) only [mset_n]
      exact p1 p (by omega)
  · intro a r ⟨p1, p2⟩
    show wq (fX2_aim_i2 fu k 0 0 r (sI (c 0 0 + 1)) a L) _
    have e7 : a k 7 = sI (c 0 0) := (p2 _ _ (by omega) (by omega)).trans hC.1
    unfold fX2_aim_i2
    rw [e7, if_pos (by rw [sI_lt (by omega) (by omega)]; omega), if_pos rfl]
    exact wq_some ⟨rfl, fun p hp => p1 p (by omega), p2⟩
