/-! what is taken may be taken, one after the other -/
theorem ins_trans {N : Nat} {pa kd de : Nat → Nat} (h : Tr N pa kd de) {d1 d2 : Nat} (h12 : insB pa de d1 d2 = true) : ∀ s, s ≤ N → insB pa de d2 s = true → insB pa de d1 s = true := by
  intro s hs h2
  refine up_ind h (P := fun s => s = d2 ∨ insB pa de d1 s = true) (Or.inl rfl) ?_ s hs (Or.inr h2) |>.resolve_left ?_
  · intro f hf hd _ ih
    right
    rw [ins_S h (ins_1 h hd) hf, Bool.or_eq_true]
    rcases ih with q | q
    · right; rw [q]; exact h12
    · exact Or.inr q
  · intro z
    have := ins_lt h s hs h2
    rw [z] at this
    omega
theorem anc_act {c : Nat → Nat → Nat} {b : Nat → Nat → Bool} (hT : Tr (c 0 0) (c 1) (c 2) (c 3)) (h1 : Cf1 c b) {d : Nat} : ∀ s, s ≤ c 0 0 → insB (c 1) (c 3) d s = true → b 0 s = true → d = 0 ∨ b 0 d = true := by
  intro s
  induction s using Nat.strongRecOn with
  | _ s ih =>
    intro hs hi hb
    have s1 := ins_1 hT hi
    have hp := (hT.2.2.2.2 s s1 hs).1
    have w := h1 s s1 hs hb
    rw [ins_S hT s1 hs, Bool.or_eq_true, decide_eq_true_eq] at hi
    rcases hi with q | q
    · rw [← q]; exact w.2
    · rcases w.2 with v | v
      · rw [v, ins_0 hT] at q; cases q
      · exact ih (c 1 s) hp (by omega) q v
def JcL (c : Nat → Nat → Nat) (b : Nat → Nat → Bool) (st : (Nat → Bool) × List Nat) : Prop := (∀ s, 1 ≤ s → s ≤ c 0 0 → (st.1 s = true ↔ ∃ e, e ∈ st.2 ∧ exB (c 1) (c 3) (b 0) (doE c e) s = true)) ∧ List.Pairwise (fun e1 e2 => ∀ s, 1 ≤ s → s ≤ c 0 0 → ¬ (exB (c 1) (c 3) (b 0) (doE c e1) s = true ∧ exB (c 1) (c 3) (b 0) (doE c e2) s = true)) st.2
theorem J_S {c : Nat → Nat → Nat} {b : Nat → Nat → Bool} {st : (Nat → Bool) × List Nat} {e : Nat} (h : JcL c b st) : JcL c b (clS c b st e) := by
  unfold clS
  by_cases ha : apB (c 1) (c 3) (b 0) (c 0 0) (doE c e) st.1 = true
  · rw [if_pos ha]
    refine ⟨fun s u1 u2 => ?_, ?_⟩
    · dsimp only
      rw [Bool.or_eq_true, h.1 s u1 u2]
      constructor
      · rintro (⟨e', v1, v2⟩ | v)
        · exact ⟨e', List.mem_append_left _ v1, v2⟩
        · exact ⟨e, List.mem_append_right _ (List.mem_singleton.mpr rfl), v⟩
      · rintro ⟨e', v1, v2⟩
        rw [List.mem_append, List.mem_singleton] at v1
        rcases v1 with w | w
        · exact Or.inl ⟨e', w, v2⟩
        · rw [w] at v2; exact Or.inr v2
    · dsimp only
      rw [List.pairwise_append]
      refine ⟨h.2, List.pairwise_singleton _ _, ?_⟩
      intro e1 h1 e2 h2 s u1 u2 ⟨v1, v2⟩
      rw [List.mem_singleton] at h2
      subst h2
      have hg := (h.1 s u1 u2).mpr ⟨e1, h1, v1⟩
      unfold apB at ha
      have := (allN_iff _).mp ha s u1 u2
      rw [v2, hg] at this
      cases this
  · rw [if_neg ha]; exact h
theorem J_L {c : Nat → Nat → Nat} {b : Nat → Nat → Bool} : ∀ (l : List Nat) (st : (Nat → Bool) × List Nat), JcL c b st → JcL c b (l.foldl (clS c b) st) ∧ ∀ e, e ∈ (l.foldl (clS c b) st).2 → e ∈ st.2 ∨ e ∈ l := by
  intro l
  induction l with
  | nil => intro st h; exact ⟨h, fun e he => Or.inl he⟩
  | cons a l ih =>
    intro st h
    have := ih (clS c b st a) (J_S h)
    refine ⟨this.1, fun e he => ?_⟩
    rcases this.2 e he with v | v
    · unfold clS at v
      by_cases ha : apB (c 1) (c 3) (b 0) (c 0 0) (doE c a) st.1 = true
      · rw [if_pos ha] at v
        dsimp only at v
        rw [List.mem_append, List.mem_singleton] at v
        rcases v with w | w
        · exact Or.inl w
        · right; rw [w]; exact List.mem_cons_self ..
      · rw [if_neg ha] at v
        exact Or.inl v
    · exact Or.inr (List.mem_cons_of_mem _ v)
theorem J_0 {c : Nat → Nat → Nat} {b : Nat → Nat → Bool} : JcL c b (fun _ => false, []) := by
  refine ⟨fun s _ _ => ⟨fun z => ?_, ?_⟩, List.Pairwise.nil⟩
  · cases z
  · rintro ⟨e, he, _⟩
    cases he
theorem tk_mem {c : Nat → Nat → Nat} {b : Nat → Nat → Bool} {D : Nat → Int64} {v e : Nat} (h : e ∈ tkL c b D v) : 1 ≤ e ∧ e ≤ c 0 1 ∧ rdB c b D v e = true := by
  have := (J_L (c := c) (b := b) (srL c b D v) (fun _ => false, []) J_0).2 e h
  rcases this with w | w
  · cases w
  · exact sr_mem w
theorem se_0 {c : Nat → Nat → Nat} {b : Nat → Nat → Bool} {D : Nat → Int64} {v n : Nat} : seb c b D v n 0 = b 0 := by
  funext s
  unfold seb
  rw [if_neg (by omega), if_neg (by omega)]
theorem tk_ok {c : Nat → Nat → Nat} {b : Nat → Nat → Bool} {D : Nat → Int64} {v : Nat} (hv : Cv c) (hc : Cfg c b) : TkO c (seb c b D v (c 0 1)) (tkL c b D v) := by
  have hT := hv.1
  -- a source of what is ready
  have src : ∀ e, 1 ≤ e → e ≤ c 0 1 → rdB c b D v e = true → ∃ s, 1 ≤ s ∧ s ≤ c 0 0 ∧ b 0 s = true ∧ (doE c e = 0 ∨ insB (c 1) (c 3) (doE c e) s = true) := by
    intro e h1 h2 h3
    obtain ⟨j, j1, j2, j3, j4⟩ := rd_src h3
    obtain ⟨u1, u2, _⟩ := hv.2.1.2 j j1 j2
    refine ⟨c 4 j, u1, u2, j4, ?_⟩
    rcases do_good hv (e := e) with w | w
    · exact Or.inl w
    · right
      have := w.2
      unfold goodB at this
      have h4 := (allN_iff _).mp this j j1 j2
      rw [Bool.and_eq_true, j3] at h4
      simpa using h4.1
  refine ⟨fun e he => ?_, ?_⟩
  · obtain ⟨h1, h2, h3⟩ := tk_mem he
    refine ⟨h1, h2, ?_, ?_⟩
    · unfold rdB cnB goB at h3
      simp only [Bool.and_eq_true, decide_eq_true_eq] at h3
      exact h3.1.2.1
    · rw [se_0]
      obtain ⟨s, s1, s2, s3, s4⟩ := src e h1 h2 h3
      rcases s4 with w | w
      · exact Or.inl w
      · exact anc_act hT hc.1 s s2 w s3
  · have hj := (J_L (c := c) (b := b) (srL c b D v) (fun _ => false, []) J_0).1.2
    have hj2 : List.Pairwise (fun e1 e2 => ∀ s, 1 ≤ s → s ≤ c 0 0 → ¬ (exB (c 1) (c 3) (b 0) (doE c e1) s = true ∧ exB (c 1) (c 3) (b 0) (doE c e2) s = true)) (tkL c b D v) := hj
    refine List.Pairwise.imp_of_mem (fun {e1 e2} m1 m2 hr => ?_) hj2
    obtain ⟨h1, h2, h3⟩ := tk_mem m2
    obtain ⟨s, s1, s2, s3, s4⟩ := src e2 h1 h2 h3
    by_cases hx : insB (c 1) (c 3) (doE c e1) (doE c e2) = true
    · exfalso
      rcases s4 with w | w
      · rw [w, ins_0 hT] at hx; cases hx
      · refine hr s s1 s2 ⟨?_, ?_⟩
        · unfold exB
          rw [s3, ins_trans hT hx s s2 w]
          rfl
        · unfold exB
          rw [s3, w]
          rfl
    · simpa using hx
theorem tk_len {c : Nat → Nat → Nat} {b : Nat → Nat → Bool} {D : Nat → Int64} {v : Nat} (hv : Cv c) : (tkL c b D v).length ≤ c 0 1 := by
  have hl : ∀ (l : List Nat) (st : (Nat → Bool) × List Nat), (l.foldl (clS c b) st).2.length ≤ st.2.length + l.length := by
    intro l
    induction l with
    | nil => intro st; exact Nat.le_refl _
    | cons a l ih =>
      intro st
      have h1 := ih (clS c b st a)
      have h2 : (clS c b st a).2.length ≤ st.2.length + 1 := by
        unfold clS
        split
        · dsimp only
          rw [List.length_append, List.length_singleton]
          exact Nat.le_refl _
        · omega
      show (l.foldl (clS c b) (clS c b st a)).2.length ≤ st.2.length + (l.length + 1)
      omega
  have h1 := hl (srL c b D v) (fun _ => false, [])
  have h2 : (srL c b D v).length = (rlL c b D v (c 0 1)).length := sr_len hv (Nat.le_refl _)
  have h3 := rl_len (c := c) (b := b) (D := D) (v := v) (c 0 1)
  show (clL c b (srL c b D v)).2.length ≤ c 0 1
  unfold clL
  simp only [List.length_nil] at h1
  omega
/-! one selection and its step; chains -/
abbrev ZT := ((Nat → Nat → Nat) × (Nat → Nat → Bool) × (Nat → Int64)) × (Nat → Int32)
def seZ (v : Nat) (w : ZT) : ZT := ((w.1.1, seb w.1.1 w.1.2.1 w.1.2.2 v (w.1.1 0 1), w.1.2.2), sex w.1.1 w.1.2.1 w.1.2.2 w.2 v (w.1.1 0 1))
def tkZ (v : Nat) (w : ZT) : List Nat := tkL w.1.1 w.1.2.1 w.1.2.2 v
def gZ (va : Nat → Int32) (now v : Nat) (w : ZT) : ZT := (stL va now (tkZ v w) (seZ v w).1, (seZ v w).2)
def chN (va : Nat → Int32) (now : Nat) : Nat → ZT → Bool × ZT
  | 0, w => (decide ((tkZ 0 w).length = 0), seZ 0 w)
  | n + 1, w => if (tkZ 0 w).length = 0 then (true, seZ 0 w) else chN va now n (gZ va now 0 w)
def InW (w : ZT) : Prop := Cv w.1.1 ∧ Cfg w.1.1 w.1.2.1
theorem Cfg_b {c : Nat → Nat → Nat} {b b' : Nat → Nat → Bool} (h : Cfg c b) (e : b' 0 = b 0) : Cfg c b' := by
  unfold Cfg Cf1 Cf2 Cf3 at *
  rw [e]
  exact h
theorem In_se {v : Nat} {w : ZT} (h : InW w) : InZ (seZ v w).1 (tkZ v w) := ⟨h.1, Cfg_b h.2 (se_0 (c := w.1.1) (b := w.1.2.1) (D := w.1.2.2) (v := v) (n := w.1.1 0 1)), tk_ok h.1 h.2⟩
theorem In_seW {v : Nat} {w : ZT} (h : InW w) : InW (seZ v w) := ⟨h.1, Cfg_b h.2 (se_0 (c := w.1.1) (b := w.1.2.1) (D := w.1.2.2) (v := v) (n := w.1.1 0 1))⟩
theorem In_L {va : Nat → Int32} {now : Nat} : ∀ (l : List Nat) (z), InZ z l → InZ (stL va now l z) [] := by
  intro l
  induction l with
  | nil => intro z h; exact h
  | cons e l ih => intro z h; exact ih _ (In_S h)
theorem In_g {va : Nat → Int32} {now v : Nat} {w : ZT} (h : InW w) : InW (gZ va now v w) := by
  have := In_L (va := va) (now := now) (tkZ v w) _ (In_se (v := v) h)
  exact ⟨this.1, this.2.1⟩
theorem st_r {va : Nat → Int32} {now i : Nat} (h : i ≠ 13) (h2 : i ≠ 14) : ∀ (l : List Nat) (z), (stL va now l z).1 i = z.1 i := by
  intro l
  induction l with
  | nil => intro z; rfl
  | cons e l ih =>
    intro z
    have := ih (tkC z.1 z.2.1 e now, tkB z.1 z.2.1 e, tkD z.1 z.2.1 va e z.2.2)
    exact this.trans (tkC_r h h2)
theorem g_r {va : Nat → Int32} {now v i : Nat} {w : ZT} (h : i ≠ 13) (h2 : i ≠ 14) : (gZ va now v w).1.1 i = w.1.1 i := st_r h h2 _ _
theorem DoC_c {k : Nat} {A A' : mwM} {c c' : Nat → Nat → Nat} (h : DoC k A c) (hc : ∀ i, i ≤ 12 → c' i = c i) (hA : ∀ e, A' (k + 25) e = A (k + 25) e) : DoC k A' c' := by
  unfold DoC at *
  rw [hc 0 (by omega), hc 1 (by omega), hc 2 (by omega), hc 3 (by omega), hc 4 (by omega), hc 5 (by omega)]
  intro e h1 h2 j h3 h4 h5
  rw [hA]
  exact h e h1 h2 j h3 h4 h5
def RcW (k : Nat) (A : mwM) (L : mwL) (va : Nat → Int32) (w : ZT) : Prop := ReC k A L w.1.1 w.1.2.1 va w.1.2.2 w.2 ∧ DoC k A w.1.1
def RmW (q : Nat) (M : mwM) (L : mwL) (va : Nat → Int32) (w : ZT) : Prop := ReM q M L w.1.1 w.1.2.1 va w.1.2.2 w.2
/-- the class selects -/
theorem c_selZ {fu : Nat} {A : mwM} {L : mwL} {k v : Nat} {va : Nat → Int32} {w : ZT} (hf : 402 ≤ fu) (hw : InW w) (h : RcW k A L va w) (hv : v < 2000) : wq (DX2_select fu k (sI v) A L) (fun z => z.1 = sI (tkZ v w).length ∧ z.2.2 = L ∧ RcW k z.2.1 L va (seZ v w) ∧ LiZ z.2.1 (k + 27) (tkZ v w) ∧ ∀ a y, ¬ (a = k + 15 ∨ a = k + 16 ∨ a = k + 26 ∨ a = k + 27) → ¬ (a = k ∧ y = 15) → z.2.1 a y = A a y) := by
  refine wq_mono (c_select hf hw.1 h.1 h.2 hv) ?_
  rintro ⟨r, M1, L1⟩ ⟨y1, y2, y3, y4, y5⟩
  exact ⟨y1, y2, ⟨y3, DoC_c h.2 (fun _ _ => rfl) (fun e => y5 _ _ (by omega) (by omega))⟩, y4, y5⟩
/-- the class goes on behind a selection -/
theorem c_goZ {fu : Nat} {A : mwM} {L : mwL} {k v now : Nat} {va : Nat → Int32} {w : ZT} (hf : 601 ≤ fu) (hw : InW w) (h : RcW k A L va (seZ v w)) (hR : LiZ A (k + 27) (tkZ v w)) (hnow : A k 12 = sI now) : wq (DX2_goOn fu k (sI (tkZ v w).length) A L) (fun z => RcW k z.1 z.2 va (gZ va now v w) ∧ (∀ a y, ¬ (k + 7 ≤ a ∧ a ≤ k + 17) → a ≠ k + 26 → z.1 a y = A a y) ∧ ∀ a, a ≠ k + 34 → z.2 a = L a) := by
  have hl := tk_len (b := w.1.2.1) (D := w.1.2.2) (v := v) hw.1
  have hE4 := hw.1.2.1.1
  refine wq_mono (c_goOn (now := now) hf (In_se (v := v) hw) h.1 (fun e he => ?_) hR (by unfold tkZ; omega) hnow) ?_
  · obtain ⟨h1, h2, h3⟩ := tk_mem he
    obtain ⟨j, j1, j2, j3, _⟩ := rd_src h3
    exact h.2 e h1 h2 j j1 j2 j3
  · rintro ⟨M1, L1⟩ ⟨y1, y2, y3, y4⟩
    exact ⟨⟨y2, DoC_c h.2 (fun i hi => g_r (by omega) (by omega)) (fun e => y3 _ _ (by omega) (by omega))⟩, y3, y4⟩
theorem c_chain {fu : Nat} {A : mwM} {L : mwL} {k now : Nat} {va : Nat → Int32} {w : ZT} (hf : 601 ≤ fu) (hw : InW w) (h : RcW k A L va w) (hnow : A k 12 = sI now) : wq (DX2_chain fu k A L) (fun z => z.1 = bI (chN va now (w.1.1 0 3) w).1 ∧ RcW k z.2.1 z.2.2 va (chN va now (w.1.1 0 3) w).2 ∧ InW (chN va now (w.1.1 0 3) w).2 ∧ (∀ a y, ¬ (k + 7 ≤ a ∧ a ≤ k + 17) → a ≠ k + 26 → a ≠ k + 27 → ¬ (a = k ∧ y = 15) → z.2.1 a y = A a y) ∧ ∀ a, a ≠ k + 34 → z.2.2 a = L a) := by
  have hl := hw.1.2.2.2.1
  generalize hQ : (fun z : Int32 × mwM × mwL => z.1 = bI (chN va now (w.1.1 0 3) w).1 ∧ RcW k z.2.1 z.2.2 va (chN va now (w.1.1 0 3) w).2 ∧ InW (chN va now (w.1.1 0 3) w).2 ∧ (∀ a y, ¬ (k + 7 ≤ a ∧ a ≤ k + 17) → a ≠ k + 26 → a ≠ k + 27 → ¬ (a = k ∧ y = 15) → z.2.1 a y = A a y) ∧ ∀ a, a ≠ k + 34 → z.2.2 a = L a) = Q
  have key : ∀ (n i f : Nat) (u : ZT) (a : mwM) (l : mwL), i + n = w.1.1 0 3 → n < f → InW u → RcW k a l va u → u.1.1 0 3 = w.1.1 0 3 → chN va now n u = chN va now (w.1.1 0 3) w → (∀ b y, ¬ (k + 7 ≤ b ∧ b ≤ k + 17) → b ≠ k + 26 → b ≠ k + 27 → ¬ (b = k ∧ y = 15) → a b y = A b y) → (∀ b, b ≠ k + 34 → l b = L b) → wq (fX2_chain_h2 fu k f (sI i, a, l)) Q := by
    intro n
    induction n with
    | zero =>
      intro i f u a l hi hf1 hu hr hlim hch p1 p2
      obtain ⟨g, rfl⟩ : ∃ g, f = g + 1 := ⟨f - 1, by omega⟩
      unfold fX2_chain_h2
      rw [mloop_S]
      show wq (fX2_chain_i2 fu k (fX2_chain_h2 fu k g) (sI i) a l) Q
      unfold fX2_chain_i2 fX2_chain_b46
      rw [hr.1.2.2.2.1.1, hlim, if_pos (by rw [sI_le (by omega) (by omega)]; omega)]
      have hl2 := tk_len (b := u.1.2.1) (D := u.1.2.2) (v := 0) hu.1
      have hE4 := hu.1.2.1.1
      refine wq_b3 (c_selZ (v := 0) (by omega) hu hr (by omega)) ?_
      rintro r1 M1 L1 ⟨y1, y2, y3, y4, y5⟩
      dsimp only at y1 y2 y3 y4 y5
      subst y1 y2
      have e0 : chN va now 0 u = (decide ((tkZ 0 u).length = 0), seZ 0 u) := rfl
      rw [e0] at hch
      have fin : ∀ v : Int32, v = bI (decide ((tkZ 0 u).length = 0)) → wq (mzz v (some (v, M1, L1))) Q := by
        intro v hv
        rw [← hQ, ← hch]
        rw [hv]
        refine wq_zz bI_z (wq_some ⟨rfl, y3, In_seW hu, fun b y u1 u2 u3 u4 => ?_, p2⟩)
        exact (y5 b y (by omega) u4).trans (p1 b y u1 u2 u3 u4)
      have hlz : (tkZ 0 u).length ≤ 400 := by unfold tkZ; omega
      by_cases hz : (tkZ 0 u).length = 0
      · rw [if_pos (by rw [hz]; rfl)]
        exact fin 1 (by rw [decide_eq_true hz]; rfl)
      · rw [if_neg (by rw [sI_eql (by omega) (by decide)]; exact hz)]
        exact fin 0 (by rw [decide_eq_false hz]; rfl)
    | succ n ih =>
      intro i f u a l hi hf1 hu hr hlim hch p1 p2
      obtain ⟨g, rfl⟩ : ∃ g, f = g + 1 := ⟨f - 1, by omega⟩
      unfold fX2_chain_h2
      rw [mloop_S]
      show wq (fX2_chain_i2 fu k (fX2_chain_h2 fu k g) (sI i) a l) Q
      unfold fX2_chain_i2
      rw [hr.1.2.2.2.1.1, hlim, if_neg (by rw [sI_le (by omega) (by omega)]; omega)]
      have hl2 := tk_len (b := u.1.2.1) (D := u.1.2.2) (v := 0) hu.1
      have hE4 := hu.1.2.1.1
      refine wq_b3 (c_selZ (v := 0) (by omega) hu hr (by omega)) ?_
      rintro r1 M1 L1 ⟨y1, y2, y3, y4, y5⟩
      dsimp only at y1 y2 y3 y4 y5
      subst y1 y2
      have e0 : chN va now (n + 1) u = if (tkZ 0 u).length = 0 then (true, seZ 0 u) else chN va now n (gZ va now 0 u) := rfl
      rw [e0] at hch
      have hlz : (tkZ 0 u).length ≤ 400 := by unfold tkZ; omega
      by_cases hz : (tkZ 0 u).length = 0
      · rw [if_pos (by rw [hz]; rfl)]
        rw [if_pos hz] at hch
        rw [← hQ, ← hch]
        refine wq_some ⟨rfl, y3, In_seW hu, fun b y u1 u2 u3 u4 => ?_, p2⟩
        exact (y5 b y (by omega) u4).trans (p1 b y u1 u2 u3 u4)
      · rw [if_neg (by rw [sI_eql (by omega) (by decide)]; exact hz)]
        rw [if_neg hz] at hch
        refine wq_b2 (c_goZ (now := now) hf hu y3 y4 ?_) ?_
        · rw [y5 _ _ (by omega) (by omega), p1 _ _ (by omega) (by omega) (by omega) (by omega)]; exact hnow
        rintro M2 L2 ⟨z1, z2, z3⟩
        dsimp only at z1 z2 z3
        simp only [mlet]
        rw [sI_1]
        refine ih (i + 1) g (gZ va now 0 u) M2 L2 (by omega) (by omega) (In_g hu) z1 ?_ hch (fun b y u1 u2 u3 u4 => ?_) (fun b u => (z3 b u).trans (p2 b u))
        · rw [g_r (by omega) (by omega)]; exact hlim
        · rw [z2 _ _ u1 u2, y5 _ _ (by omega) u4]; exact p1 b y u1 u2 u3 u4
  unfold DX2_chain
  exact key (w.1.1 0 3) 0 fu w A L (by omega) (by omega) hw h rfl rfl (fun _ _ _ _ _ _ => rfl) (fun _ _ => rfl)
