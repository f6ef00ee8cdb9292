/-! the class aims -/
def rcN (g : Nat → Nat → Bool) (p : Nat) : Nat := (if g 1 p = true then 1 else 0) + (if g 2 p = true then 2 else 0)
theorem rcN_le {g : Nat → Nat → Bool} {p : Nat} : rcN g p ≤ 3 := by
  unfold rcN
  cases g 1 p <;> cases g 2 p <;> decide
def CkP (c : Nat → Nat → Nat) (g : Nat → Nat → Bool) (P : Nat → Nat) : Prop := ∀ p, p ≤ c 0 0 → P p ≤ c 0 0 ∧ (P p ≠ 0 → g 0 (P p) = true ∧ c 1 (P p) = p) ∧ (P p = 0 → ∀ s, g 0 s = true → c 1 s ≠ p)
def GrC (A : mwM) (k N : Nat) (g : Nat → Nat → Bool) (P : Nat → Nat) : Prop := ∀ p, p ≤ N → A (k + 12) p = sI (P p) ∧ A (k + 13) p = sI (rcN g p)
def upP (pa : Nat → Nat) (d : Nat) : Nat → Nat → (Nat → Nat) → Nat → Nat
  | 0, _, P => P
  | m + 1, f, P => if f = d then P else upP pa d m (pa f) (fun p => if p = pa f then f else P p)
theorem upP_0 {pa : Nat → Nat} {d : Nat} {P : Nat → Nat} : ∀ m, upP pa d m d P = P := by
  intro m
  cases m with
  | zero => rfl
  | succ m =>
    show (if d = d then P else upP pa d m (pa d) (fun p => if p = pa d then d else P p)) = P
    rw [if_pos rfl]
theorem upP_S {N : Nat} {pa kd de : Nat → Nat} (h : Tr N pa kd de) {d f : Nat} {P : Nat → Nat} (hf : f ≤ N) (hd : insB pa de d f = true) : upP pa d (de f) f P = upP pa d (de (pa f)) (pa f) (fun p => if p = pa f then f else P p) := by
  have h1 := ins_1 h hd
  have := (h.2.2.2.2 f h1 hf).2.1
  have hl := ins_lt h f hf hd
  rw [this]
  show (if f = d then P else upP pa d (de (pa f)) (pa f) (fun p => if p = pa f then f else P p)) = _
  rw [if_neg (by omega)]
theorem upP_v {N : Nat} {pa kd de : Nat → Nat} (h : Tr N pa kd de) {d : Nat} : ∀ f, f ≤ N → (f = d ∨ insB pa de d f = true) → ∀ P : Nat → Nat, (∀ s, clm pa d (fun t => decide (t = s)) (de f) f = true → upP pa d (de f) f P (pa s) = s) ∧ ∀ p, (∀ s, clm pa d (fun t => decide (t = s)) (de f) f = true → pa s ≠ p) → upP pa d (de f) f P p = P p := by
  refine up_ind h (P := fun f => ∀ P : Nat → Nat, (∀ s, clm pa d (fun t => decide (t = s)) (de f) f = true → upP pa d (de f) f P (pa s) = s) ∧ ∀ p, (∀ s, clm pa d (fun t => decide (t = s)) (de f) f = true → pa s ≠ p) → upP pa d (de f) f P p = P p) ?_ ?_
  · intro P
    refine ⟨fun s hs => ?_, fun p _ => ?_⟩
    · rw [clm_0] at hs; cases hs
    · rw [upP_0]
  · intro f hf hd hd2 ih P
    have h1 := ins_1 h hd
    have hpf := (h.2.2.2.2 f h1 hf).1
    obtain ⟨i1, i2⟩ := ih (fun p => if p = pa f then f else P p)
    rw [upP_S h hf hd]
    refine ⟨fun s hs => ?_, fun p hp => ?_⟩
    · rw [clm_S h hf hd, Bool.or_eq_true, decide_eq_true_eq] at hs
      rcases hs with rfl | hs
      · rw [i2 (pa f) ?_, if_pos rfl]
        intro s hs q
        have g1 := on_facts h (pa f) (by omega) hd2 hs
        have hs1 := ins_1 h g1.1
        have := (h.2.2.2.2 s hs1 (by omega)).1
        omega
      · exact i1 s hs
    · have hpn : p ≠ pa f := fun q => hp f (by rw [clm_S h hf hd]; simp) q.symm
      rw [i2 p (fun s hs => hp s (by rw [clm_S h hf hd, hs]; simp)), if_neg hpn]
theorem CkP_up {c : Nat → Nat → Nat} {d t : Nat} {g : Nat → Nat → Bool} {P : Nat → Nat} (hT : Tr (c 0 0) (c 1) (c 2) (c 3)) (hP : CkP c g P) (h1 : 1 ≤ t) (ht : t ≤ c 0 0) (hd : insB (c 1) (c 3) d t = true) (hb : ¬ blk c d (frA c t) (g 0) = true) : CkP c (aiF c d g t) (upP (c 1) d (c 3 (frA c t)) (frA c t) P) := by
  obtain ⟨f1, f2, f3⟩ := frA_in hT h1 ht hd
  obtain ⟨u1, u2⟩ := upP_v hT (frA c t) f1 f2 P
  have eg : ∀ s, aiF c d g t 0 s = (g 0 s || onP c d (frA c t) s) := by
    intro s
    unfold aiF
    rw [if_neg hb, if_pos rfl]
  intro p hp
  by_cases hx : ∃ s, clm (c 1) d (fun t => decide (t = s)) (c 3 (frA c t)) (frA c t) = true ∧ c 1 s = p
  · obtain ⟨s, s1, s2⟩ := hx
    have hs := on_facts hT _ f1 f2 s1
    have hs1 := ins_1 hT hs.1
    have e := u1 s s1
    rw [s2] at e
    rw [e]
    refine ⟨by omega, fun _ => ⟨?_, s2⟩, fun q => by omega⟩
    rw [eg, show onP c d (frA c t) s = true from s1]
    simp
  · have hx' : ∀ s, clm (c 1) d (fun t => decide (t = s)) (c 3 (frA c t)) (frA c t) = true → c 1 s ≠ p := fun s hs q => hx ⟨s, hs, q⟩
    rw [u2 p hx']
    obtain ⟨v1, v2, v3⟩ := hP p hp
    refine ⟨v1, fun q => ⟨?_, (v2 q).2⟩, fun q s hs => ?_⟩
    · rw [eg, (v2 q).1]; rfl
    · rw [eg, Bool.or_eq_true] at hs
      rcases hs with hs | hs
      · exact v3 q s hs
      · exact hx' s hs
theorem rc_or1 (a b : Bool) : sI ((if a = true then 1 else 0) + (if b = true then 2 else 0)) ||| 1 = sI ((if (true : Bool) = true then 1 else 0) + (if b = true then 2 else 0)) := by cases a <;> cases b <;> decide
theorem rc_or2 (a b : Bool) : sI ((if a = true then 1 else 0) + (if b = true then 2 else 0)) ||| 2 = sI ((if a = true then 1 else 0) + (if (true : Bool) = true then 2 else 0)) := by cases a <;> cases b <;> decide
theorem c_aimAt {fu : Nat} {A : mwM} {L : mwL} {k d t : Nat} {c : Nat → Nat → Nat} {g : Nat → Nat → Bool} {P : Nat → Nat} (hf : 202 ≤ fu) (hT : Tr (c 0 0) (c 1) (c 2) (c 3)) (hC : TrC A k (c 0 0) (c 1) (c 2) (c 3)) (hG : GoA c d g) (hg : GrC A k (c 0 0) g P) (hP : CkP c g P) (h1 : 1 ≤ t) (ht : t ≤ c 0 0) (hdl : d ≤ c 0 0) (hd : insB (c 1) (c 3) d t = true) (hk4 : c 2 t < 4) : wq (DX2_aimAt fu k (sI t) (sI d) A L) (fun z => z.2 = L ∧ (∃ P', GrC z.1 k (c 0 0) (aiF c d g t) P' ∧ CkP c (aiF c d g t) P') ∧ ∀ b y, b ≠ k + 12 → b ≠ k + 13 → z.1 b y = A b y) := by
  have hN := hT.1
  have hpt := Tr_pa hT ht
  obtain ⟨f1, f2, f3⟩ := frA_in hT h1 ht hd
  have hdf := (Tr_pa hT f1).2.2.2.2
  -- the end: what is recalled
  have fin : ∀ (w : Int32) (a : mwM) (P' : Nat → Nat), w = bI (decide (2 ≤ c 2 t)) → ¬ blk c d (frA c t) (g 0) = true → CkP c (aiF c d g t) P' → (∀ p, p ≤ c 0 0 → a (k + 12) p = sI (P' p)) → (∀ b y, b ≠ k + 12 → a b y = A b y) → wq (fX2_aimAt_b184 fu k (sI t) (sI d) w (sI (frA c t)) a L) (fun z => z.2 = L ∧ (∃ P', GrC z.1 k (c 0 0) (aiF c d g t) P' ∧ CkP c (aiF c d g t) P') ∧ ∀ b y, b ≠ k + 12 → b ≠ k + 13 → z.1 b y = A b y) := by
    intro w a P' hw hb hP' p1 p2
    have eg1 : ∀ s, aiF c d g t 1 s = (g 1 s || (decide (s = c 1 t) && decide (c 2 t = 2))) := by
      intro s
      unfold aiF
      rw [if_neg hb, if_neg (by omega), if_pos rfl]
    have eg2 : ∀ s, aiF c d g t 2 s = (g 2 s || (decide (s = c 1 t) && decide (c 2 t = 3))) := by
      intro s
      unfold aiF
      rw [if_neg hb, if_neg (by omega), if_neg (by omega), if_pos rfl]
    have e3 : a (k + 3) t = sI (c 2 t) := (p2 _ _ (by omega)).trans (hC.2 t ht).2.1
    unfold fX2_aimAt_b184 fX2_aimAt_b216 fX2_aimAt_b218
    rw [hw]
    by_cases hm : 2 ≤ c 2 t
    · have hfr : frA c t = c 1 t := by unfold frA; rw [if_pos hm]
      rw [decide_eq_true hm, if_neg (by decide), hfr]
      have e13 : a (k + 13) (c 1 t) = sI (rcN g (c 1 t)) := (p2 _ _ (by omega)).trans (hg _ hpt.1).2
      simp (disch := omega) only [e3, e13, mck_s, sI_nn, nn_s, sI_lt, sI_le, sI_eq, sI_ltl, sI_lel, sI_eql, sI_llt, sI_lle, sI_1, bI_0, bI_1, bI_n, mlet, mb3_s, mb2_s]
      have rest : ∀ z : Int32, z = sI (rcN (aiF c d g t) (c 1 t)) → wq (some (mset a (k + 13) (c 1 t) z, L)) (fun z => z.2 = L ∧ (∃ P', GrC z.1 k (c 0 0) (aiF c d g t) P' ∧ CkP c (aiF c d g t) P') ∧ ∀ b y, b ≠ k + 12 → b ≠ k + 13 → z.1 b y = A b y) := by
        intro z hz
        refine wq_some ⟨rfl, ⟨P', fun p hp => ?_, hP'⟩, fun b y v1 v2 => ?_⟩
        all_goals (try dsimp only)
        · rw [mset_k (by omega)]
          refine ⟨p1 p hp, ?_⟩
          by_cases hq : p = c 1 t
          · rw [hq, mset_s]; exact hz
          · rw [mset_j hq, p2 _ _ (by omega), (hg p hp).2]
            unfold rcN
            rw [eg1, eg2, decide_eq_false hq]
            simp
        · rw [mset_k v2]; exact p2 b y v1
      by_cases h3 : c 2 t = 3
      · rw [if_pos h3]
        refine rest _ ?_
        unfold rcN
        rw [eg1, eg2, rc_or2, h3]
        simp
      · rw [if_neg h3]
        have h2 : c 2 t = 2 := by omega
        refine rest _ ?_
        unfold rcN
        rw [eg1, eg2, rc_or1, h2]
        simp
    · rw [decide_eq_false hm, if_pos bI_f]
      refine wq_some ⟨rfl, ⟨P', fun p hp => ⟨p1 p hp, ?_⟩, hP'⟩, fun b y v1 v2 => p2 b y v1⟩
      dsimp only
      rw [p2 _ _ (by omega), (hg p hp).2]
      unfold rcN
      rw [eg1, eg2, decide_eq_false (show ¬ c 2 t = 2 by omega), decide_eq_false (show ¬ c 2 t = 3 by omega)]
      simp
  -- the second way up
  have way2 : ∀ (w : Int32) (n s v f : Nat) (a : mwM) (Pa : Nat → Nat), w = bI (decide (2 ≤ c 2 t)) → ¬ blk c d (frA c t) (g 0) = true → c 3 s = n → s ≤ c 0 0 → (s = d ∨ insB (c 1) (c 3) d s = true) → v + n ≤ 40 → n < f → (∀ p, p ≤ c 0 0 → a (k + 12) p = sI (Pa p)) → (∀ b y, b ≠ k + 12 → a b y = A b y) → CkP c (aiF c d g t) (upP (c 1) d n s Pa) → wq (fX2_aimAt_h130 fu k (sI t) (sI d) f (w, sI (frA c t), sI s, sI v, a, L)) (fun z => z.2 = L ∧ (∃ P', GrC z.1 k (c 0 0) (aiF c d g t) P' ∧ CkP c (aiF c d g t) P') ∧ ∀ b y, b ≠ k + 12 → b ≠ k + 13 → z.1 b y = A b y) := by
    intro w n
    have stop : ∀ (s v f : Nat) (a : mwM) (Pa : Nat → Nat), w = bI (decide (2 ≤ c 2 t)) → ¬ blk c d (frA c t) (g 0) = true → s = d → 0 < f → v ≤ 40 → (∀ p, p ≤ c 0 0 → a (k + 12) p = sI (Pa p)) → (∀ b y, b ≠ k + 12 → a b y = A b y) → CkP c (aiF c d g t) Pa → wq (fX2_aimAt_h130 fu k (sI t) (sI d) f (w, sI (frA c t), sI s, sI v, a, L)) (fun z => z.2 = L ∧ (∃ P', GrC z.1 k (c 0 0) (aiF c d g t) P' ∧ CkP c (aiF c d g t) P') ∧ ∀ b y, b ≠ k + 12 → b ≠ k + 13 → z.1 b y = A b y) := by
      intro s v f a Pa hw hb hsd hf1 hv p1 p2 hPa
      obtain ⟨u, rfl⟩ : ∃ u, f = u + 1 := ⟨f - 1, by omega⟩
      subst hsd
      unfold fX2_aimAt_h130
      rw [mloop_S]
      show wq (fX2_aimAt_i130 fu k (sI t) (sI s) _ w (sI (frA c t)) (sI s) (sI v) a L) _
      unfold fX2_aimAt_i130
      rw [if_neg (by rw [sI_llt (by decide) (by omega)]; omega), if_pos rfl]
      exact fin w a Pa hw hb hPa p1 p2
    induction n with
    | zero =>
      intro s v f a Pa hw hb hn hs hds hv hf1 p1 p2 hPa
      refine stop s v f a Pa hw hb ?_ (by omega) (by omega) p1 p2 hPa
      rcases hds with q | q
      · exact q
      · have := ins_lt hT s hs q
        omega
    | succ n ih =>
      intro s v f a Pa hw hb hn hs hds hv hf1 p1 p2 hPa
      by_cases hsd : s = d
      · subst hsd
        rw [upP_0] at hPa
        exact stop s v f a Pa hw hb rfl (by omega) (by omega) p1 p2 hPa
      · obtain ⟨u, rfl⟩ : ∃ u, f = u + 1 := ⟨f - 1, by omega⟩
        have hds2 : insB (c 1) (c 3) d s = true := by
          rcases hds with q | q
          · exact absurd q hsd
          · exact q
        have hs1 := ins_1 hT hds2
        have hps := hT.2.2.2.2 s hs1 hs
        have hup : c 1 s = d ∨ insB (c 1) (c 3) d (c 1 s) = true := by
          have := hds2
          rw [ins_S hT hs1 hs, Bool.or_eq_true, decide_eq_true_eq] at this
          exact this
        have e2 : a (k + 2) s = sI (c 1 s) := (p2 _ _ (by omega)).trans (hC.2 s hs).1
        have hPa2 : CkP c (aiF c d g t) (upP (c 1) d n (c 1 s) (fun p => if p = c 1 s then s else Pa p)) := by
          have := hPa
          rw [← hn, upP_S hT hs hds2, show c 3 (c 1 s) = n by omega] at this
          exact this
        unfold fX2_aimAt_h130
        rw [mloop_S]
        show wq (fX2_aimAt_i130 fu k (sI t) (sI d) (fX2_aimAt_h130 fu k (sI t) (sI d) u) w (sI (frA c t)) (sI s) (sI v) a L) _
        unfold fX2_aimAt_i130
        rw [if_neg (by rw [sI_llt (by decide) (by omega)]; omega), if_neg (by rw [sI_eq (by omega) (by omega)]; exact hsd), if_neg (by rw [sI_eql (by omega) (by decide)]; omega)]
        simp (disch := omega) only [e2, mset_k, mck_s, sI_nn, nn_s, sI_lt, sI_le, sI_eq, sI_ltl, sI_lel, sI_eql, sI_llt, sI_lle, sI_1, bI_0, bI_1, bI_n, mlet, mb3_s, mb2_s]
        refine ih (c 1 s) (v + 1) u _ _ hw hb (by omega) (by omega) hup (by omega) (by omega) (fun p hp => ?_) (fun b y hb => by rw [mset_k hb]; exact p2 b y hb) hPa2
        by_cases hq : p = c 1 s
        · rw [hq, mset_s, if_pos rfl]
        · rw [mset_j hq, if_neg hq]; exact p1 p hp
  -- the first way up
  have way1 : ∀ (w : Int32) (n s v f : Nat), c 3 s = n → s ≤ c 0 0 → (s = d ∨ insB (c 1) (c 3) d s = true) → v + n ≤ 40 → n < f → fX2_aimAt_h43 fu k (sI t) (sI d) f (w, sI (frA c t), sI s, sI v, A, L) = if blk c d s (g 0) = true then some (A, L) else fX2_aimAt_h130 fu k (sI t) (sI d) fu (w, sI (frA c t), sI (frA c t), sI 0, A, L) := by
    intro w n
    have stop : ∀ (s v f : Nat), s = d → 0 < f → v ≤ 40 → fX2_aimAt_h43 fu k (sI t) (sI d) f (w, sI (frA c t), sI s, sI v, A, L) = if blk c d s (g 0) = true then some (A, L) else fX2_aimAt_h130 fu k (sI t) (sI d) fu (w, sI (frA c t), sI (frA c t), sI 0, A, L) := by
      intro s v f hsd hf1 hv
      obtain ⟨u, rfl⟩ : ∃ u, f = u + 1 := ⟨f - 1, by omega⟩
      subst hsd
      have e0 : blk c s s (g 0) = false := clm_0 _
      rw [e0, if_neg (by decide)]
      unfold fX2_aimAt_h43
      rw [mloop_S]
      show fX2_aimAt_i43 fu k (sI t) (sI s) _ w (sI (frA c t)) (sI s) (sI v) A L = _
      unfold fX2_aimAt_i43
      rw [if_neg (by rw [sI_llt (by decide) (by omega)]; omega), if_pos rfl]
      rfl
    induction n with
    | zero =>
      intro s v f hn hs hds hv hf1
      refine stop s v f ?_ (by omega) (by omega)
      rcases hds with q | q
      · exact q
      · have := ins_lt hT s hs q
        omega
    | succ n ih =>
      intro s v f hn hs hds hv hf1
      by_cases hsd : s = d
      · exact stop s v f hsd (by omega) (by omega)
      · obtain ⟨u, rfl⟩ : ∃ u, f = u + 1 := ⟨f - 1, by omega⟩
        have hds2 : insB (c 1) (c 3) d s = true := by
          rcases hds with q | q
          · exact absurd q hsd
          · exact q
        have hs1 := ins_1 hT hds2
        have hps := hT.2.2.2.2 s hs1 hs
        have hpp := Tr_pa hT hs
        have hkp := (Tr_pa hT hpp.1).2.2.2.1
        have hup : c 1 s = d ∨ insB (c 1) (c 3) d (c 1 s) = true := by
          have := hds2
          rw [ins_S hT hs1 hs, Bool.or_eq_true, decide_eq_true_eq] at this
          exact this
        have e2 := (hC.2 s hs).1
        have e1 := (hC.2 (c 1 s) hpp.1).2.1
        have e12 := (hg (c 1 s) hpp.1).1
        obtain ⟨v1, v2, v3⟩ := hP (c 1 s) hpp.1
        have ih2 := ih (c 1 s) (v + 1) u (by omega) (by omega) hup (by omega) (by omega)
        have eb : blk c d s (g 0) = ((decide (c 2 (c 1 s) = 0) && sib c (g 0) s) || blk c d (c 1 s) (g 0)) := by
          unfold blk
          rw [clm_S hT hs hds2]
        rw [eb]
        unfold fX2_aimAt_h43
        rw [mloop_S]
        show fX2_aimAt_i43 fu k (sI t) (sI d) (fX2_aimAt_h43 fu k (sI t) (sI d) u) w (sI (frA c t)) (sI s) (sI v) A L = _
        unfold fX2_aimAt_i43 fX2_aimAt_b113
        rw [if_neg (by rw [sI_llt (by decide) (by omega)]; omega), if_neg (by rw [sI_eq (by omega) (by omega)]; exact hsd), if_neg (by rw [sI_eql (by omega) (by decide)]; omega)]
        simp (disch := omega) only [e1, e2, e12, ih2, mck_s, sI_nn, nn_s, sI_lt, sI_le, sI_eq, sI_ltl, sI_lel, sI_eql, sI_llt, sI_lle, sI_1, bI_0, bI_1, bI_n, mlet, mb3_s, mb2_s]
        by_cases hk : c 2 (c 1 s) = 0
        · rw [if_pos hk, decide_eq_true hk, Bool.true_and]
          by_cases hz : P (c 1 s) = 0
          · have : sib c (g 0) s = false := by
              by_cases hx : sib c (g 0) s = true
              · obtain ⟨y, _, _, _, y4, y5⟩ := sib_iff.mp hx
                exact absurd y4 (v3 hz y y5)
              · simpa using hx
            rw [if_pos hz, this, Bool.false_or]
          · rw [if_neg hz]
            by_cases hq : P (c 1 s) = s
            · have : sib c (g 0) s = false := by
                by_cases hx : sib c (g 0) s = true
                · obtain ⟨y, _, _, y3, y4, y5⟩ := sib_iff.mp hx
                  have hw := v2 hz
                  rw [hq] at hw
                  exact absurd ((hG s hw.1).2.2.2.2.2 y y5 y4 hk) y3
                · simpa using hx
              rw [if_pos hq, this, Bool.false_or]
            · have hw := v2 hz
              have hr := hG _ hw.1
              have : sib c (g 0) s = true := sib_iff.mpr ⟨P (c 1 s), hr.1, hr.2.1, hq, hw.2, hw.1⟩
              rw [if_neg hq, this]
              simp
        · rw [if_neg hk, decide_eq_false hk]
          simp
  have main : ∀ w : Int32, w = bI (decide (2 ≤ c 2 t)) → wq (fX2_aimAt_b34 fu k (sI t) (sI d) w (sI (frA c t)) A L) (fun z => z.2 = L ∧ (∃ P', GrC z.1 k (c 0 0) (aiF c d g t) P' ∧ CkP c (aiF c d g t) P') ∧ ∀ b y, b ≠ k + 12 → b ≠ k + 13 → z.1 b y = A b y) := by
    intro w hw
    unfold fX2_aimAt_b34
    rw [show fX2_aimAt_h43 fu k (sI t) (sI d) fu (w, sI (frA c t), sI (frA c t), 0, A, L) = _ from way1 w _ (frA c t) 0 fu rfl f1 f2 (by omega) (by omega)]
    by_cases hb : blk c d (frA c t) (g 0) = true
    · rw [if_pos hb]
      have ea : aiF c d g t = g := by unfold aiF; rw [if_pos hb]
      rw [ea]
      exact wq_some ⟨rfl, ⟨P, hg, hP⟩, fun _ _ _ _ => rfl⟩
    · rw [if_neg hb]
      exact way2 w _ (frA c t) 0 fu A P hw hb rfl f1 f2 (by omega) (by omega) (fun p hp => (hg p hp).1) (fun _ _ _ => rfl) (CkP_up hT hP h1 ht hd hb)
  unfold DX2_aimAt fX2_aimAt_b17
  have e2 := (hC.2 t ht).1
  have e3 := (hC.2 t ht).2.1
  simp (disch := omega) only [e2, e3, mck_s, sI_nn, nn_s, sI_lt, sI_le, sI_eq, sI_ltl, sI_lel, sI_eql, sI_llt, sI_lle, sI_1, bI_0, bI_1, bI_n, mlet, mb3_s, mb2_s]
  by_cases hm : 2 ≤ c 2 t
  · rw [if_neg (by omega), if_neg (by decide)]
    have := main 1 (by rw [decide_eq_true hm]; rfl)
    unfold frA at this
    rw [if_pos hm] at this
    exact this
  · rw [if_pos (by omega), if_pos trivial]
    have := main 0 (by rw [decide_eq_false hm]; rfl)
    unfold frA at this
    rw [if_neg hm] at this
    exact this
theorem ai_own {c : Nat → Nat → Nat} {e d : Nat} (h4 : c 2 (c 5 e) ≠ 4) : ∀ j, aiN c e d j = if 1 ≤ e ∧ e ≤ j then aiF c d (fun _ _ => false) (c 5 e) else fun _ _ => false := by
  intro j
  induction j with
  | zero =>
    rw [if_neg (by omega)]
    rfl
  | succ j ih =>
    show (if sT (c 2) (c 4) (c 5) e (j + 1) = true then aiF c d (aiN c e d j) (c 5 (j + 1)) else aiN c e d j) = _
    unfold sT
    rw [if_neg h4, ih]
    by_cases hq : j + 1 = e
    · rw [decide_eq_true hq, if_pos rfl, if_neg (by omega), if_pos (by omega), hq]
    · rw [decide_eq_false hq, if_neg (by decide)]
      by_cases h2 : 1 ≤ e ∧ e ≤ j
      · rw [if_pos h2, if_pos (by omega)]
      · rw [if_neg h2, if_neg (by omega)]
theorem c_aim {fu : Nat} {A : mwM} {L : mwL} {k e : Nat} {c : Nat → Nat → Nat} (hf : 402 ≤ fu) (hv : Cv c) (hC : TrC A k (c 0 0) (c 1) (c 2) (c 3)) (hEC : EdC A k (c 0 1) (c 4) (c 5) (c 6) (c 7)) (he : e ≤ c 0 1) (h5 : 1 ≤ e → c 2 (c 5 e) ≠ 5) (h0 : e = 0 → doE c e = 0) : wq (DX2_aim fu k (sI e) (sI (doE c e)) A L) (fun z => z.2 = L ∧ (∃ P, GrC z.1 k (c 0 0) (if e = 0 then fun _ _ => false else aiN c e (doE c e) (c 0 1)) P ∧ CkP c (if e = 0 then fun _ _ => false else aiN c e (doE c e) (c 0 1)) P) ∧ ∀ b y, b ≠ k + 12 → b ≠ k + 13 → z.1 b y = A b y) := by
  have hT := hv.1
  have hE := hv.2.1
  have hN := hT.1
  have hE4 := hE.1
  have hdl := doE_le (c := c) (e := e)
  have hdg : doE c e = 0 ∨ goodB (c 1) (c 2) (c 3) (c 4) (c 5) (c 0 1) (doE c e) e = true := by
    rcases do_good hv (e := e) with q | q
    · exact Or.inl q
    · exact Or.inr q.2
  have ck0 : CkP c (fun _ _ => false) (fun _ => 0) := fun p hp => ⟨Nat.zero_le _, fun q => absurd rfl q, fun _ s hs => by cases hs⟩
  unfold DX2_aim
  refine wq_for (body := fun r z => fX2_aim_i2 fu k (sI e) (sI (doE c e)) r z.1 z.2.1 z.2.2) (fun i (a : mwM) => (sI i, a, L)) (fun i a => (∀ p, p < i → a (k + 12) p = sI 0 ∧ a (k + 13) p = sI 0) ∧ ∀ b y, b ≠ k + 12 → b ≠ k + 13 → a b y = A b y) (c 0 0 + 1) ?_ ?_ (c 0 0 + 1) 0 A fu (by omega) (by omega) ⟨fun p hp => by omega, fun _ _ _ _ => rfl⟩
  · intro i a r hi ⟨p1, p2⟩ ih
    show wq (fX2_aim_i2 fu k (sI e) (sI (doE c e)) r (sI i) a L) _
    have e7 : a k 7 = sI (c 0 0) := (p2 _ _ (by omega) (by omega)).trans hC.1
    unfold fX2_aim_i2
    rw [e7, if_neg (by rw [sI_lt (by omega) (by omega)]; omega)]
    simp (disch := omega) only [mck_s, sI_nn, nn_s, sI_lt, sI_le, sI_eq, sI_ltl, sI_lel, sI_eql, sI_llt, sI_lle, sI_1, bI_0, bI_1, bI_n, mlet, mb3_s, mb2_s]
    refine ih _ ⟨fun p hp => ?_, fun b y u1 u2 => by simp (disch := omega) only [mset_n]; exact p2 b y u1 u2⟩
    by_cases hq : p = i
    · subst hq
      simp (disch := omega) only [mset_n, mset_s]
      exact ⟨rfl, rfl⟩
    · simp (disch := omega) only [mset_n]
      exact p1 p (by omega)
  · intro a r ⟨p1, p2⟩
    show wq (fX2_aim_i2 fu k (sI e) (sI (doE c e)) r (sI (c 0 0 + 1)) a L) _
    have e7 : a k 7 = sI (c 0 0) := (p2 _ _ (by omega) (by omega)).trans hC.1
    have aC : TrC a k (c 0 0) (c 1) (c 2) (c 3) := TrC_f hC (p2 _ _ (by omega) (by omega)) (fun d s u1 u2 => p2 _ _ (by omega) (by omega))
    have aE : EdC a k (c 0 1) (c 4) (c 5) (c 6) (c 7) := ⟨(p2 _ _ (by omega) (by omega)).trans hEC.1, fun j u1 u2 => by simp (disch := omega) only [p2]; exact hEC.2 j u1 u2⟩
    have gr0 : GrC a k (c 0 0) (fun _ _ => false) (fun _ => 0) := fun p hp => p1 p (by omega)
    unfold fX2_aim_i2
    rw [e7, if_pos (by rw [sI_lt (by omega) (by omega)]; omega)]
    by_cases he0 : e = 0
    · rw [if_pos (by rw [he0]; rfl)]
      refine wq_some ⟨rfl, ⟨fun _ => 0, ?_, ?_⟩, p2⟩
      · rw [if_pos he0]; exact gr0
      · rw [if_pos he0]; exact ck0
    rw [if_neg (by rw [sI_eql (by omega) (by decide)]; exact he0)]
    simp only [if_neg he0]
    have he1 : 1 ≤ e := by omega
    obtain ⟨j1, j2, j3, j4, _⟩ := hE.2 e he1 he
    have e22 := (aE.2 e he1 he).2.1
    have e3 := (aC.2 _ j4).2.1
    have hk5 := (Tr_pa hT j4).2.2.2.1
    have h5e := h5 he1
    simp (disch := omega) only [e22, e3, mck_s, sI_nn, nn_s, sI_lt, sI_le, sI_eq, sI_ltl, sI_lel, sI_eql, sI_llt, sI_lle, sI_1, bI_0, bI_1, bI_n, mlet, mb3_s, mb2_s]
    by_cases h4 : c 2 (c 5 e) = 4
    · rw [if_pos h4]
      refine wq_for (body := fun r z => fX2_aim_i72 fu k (sI e) (sI (doE c e)) r z.1 z.2.1 z.2.2.1 z.2.2.2) (fun i (o : mwM) => (sI (c 5 e), sI i, o, L)) (fun i o => 1 ≤ i ∧ (∃ P, GrC o k (c 0 0) (aiN c e (doE c e) (i - 1)) P ∧ CkP c (aiN c e (doE c e) (i - 1)) P) ∧ ∀ b y, b ≠ k + 12 → b ≠ k + 13 → o b y = A b y) (c 0 1 + 1) ?_ ?_ (c 0 1) 1 a fu (by omega) (by omega) ⟨Nat.le_refl _, ⟨fun _ => 0, gr0, ck0⟩, p2⟩
      · intro i o r hi ⟨hi1, ⟨P, q1, q2⟩, q3⟩ ih
        obtain ⟨n, rfl⟩ : ∃ n, i = n + 1 := ⟨i - 1, by omega⟩
        show wq (fX2_aim_i72 fu k (sI e) (sI (doE c e)) r (sI (c 5 e)) (sI (n + 1)) o L) _
        rw [Nat.add_sub_cancel] at q1 q2
        simp only [show n + 1 + 1 - 1 = n + 1 from rfl] at ih
        have oC : TrC o k (c 0 0) (c 1) (c 2) (c 3) := TrC_f hC (q3 _ _ (by omega) (by omega)) (fun d s u1 u2 => q3 _ _ (by omega) (by omega))
        have oE : EdC o k (c 0 1) (c 4) (c 5) (c 6) (c 7) := ⟨(q3 _ _ (by omega) (by omega)).trans hEC.1, fun j u1 u2 => by simp (disch := omega) only [q3]; exact hEC.2 j u1 u2⟩
        obtain ⟨n1, n2, n3, n4, _⟩ := hE.2 (n + 1) (by omega) (by omega)
        obtain ⟨o1, o2, _⟩ := oE.2 (n + 1) (by omega) (by omega)
        have ea := c_isAim (fu := fu) (L := L) hT oC n4
        have eai : aiN c e (doE c e) (n + 1) = if sT (c 2) (c 4) (c 5) e (n + 1) = true then aiF c (doE c e) (aiN c e (doE c e) n) (c 5 (n + 1)) else aiN c e (doE c e) n := rfl
        unfold sT at eai
        rw [if_pos h4] at eai
        unfold fX2_aim_i72 fX2_aim_b124
        simp (disch := omega) only [oE.1, o1, o2, ea, mck_s, sI_nn, nn_s, sI_lt, sI_le, sI_eq, sI_ltl, sI_lel, sI_eql, sI_llt, sI_lle, sI_1, bI_0, bI_1, bI_n, mlet, mb3_s, mb2_s]
        rw [if_neg (by omega)]
        by_cases hfr : c 4 (n + 1) = c 5 e
        · rw [if_pos hfr]
          rw [decide_eq_true hfr, Bool.true_and] at eai
          by_cases hk : c 2 (c 5 (n + 1)) < 4
          · rw [if_neg (by simp [hk])]
            rw [decide_eq_true hk, if_pos rfl] at eai
            have hsT : sT (c 2) (c 4) (c 5) e (n + 1) = true := by
              unfold sT
              rw [if_pos h4, decide_eq_true hfr, decide_eq_true hk]
              rfl
            refine wq_b2 (c_aimAt (by omega) hT oC (GoA_N hv n (by omega)) q1 q2 n3 n4 hdl (tg_in (by omega) (by omega) hsT hdg hv) hk) ?_
            rintro M1 L1 ⟨y1, y2, y3⟩
            dsimp only at y1 y2 y3
            subst y1
            refine ih M1 ⟨by omega, ?_, fun b y u1 u2 => (y3 b y u1 u2).trans (q3 b y u1 u2)⟩
            rw [eai]
            exact y2
          · rw [if_pos (by simp; omega)]
            rw [decide_eq_false hk, if_neg (by decide)] at eai
            refine ih o ⟨by omega, ⟨P, ?_, ?_⟩, q3⟩
            · rw [eai]; exact q1
            · rw [eai]; exact q2
        · rw [if_neg hfr]
          rw [decide_eq_false hfr, Bool.false_and, if_neg (by decide)] at eai
          refine ih o ⟨by omega, ⟨P, ?_, ?_⟩, q3⟩
          · rw [eai]; exact q1
          · rw [eai]; exact q2
      · intro o r ⟨_, q1, q3⟩
        show wq (fX2_aim_i72 fu k (sI e) (sI (doE c e)) r (sI (c 5 e)) (sI (c 0 1 + 1)) o L) _
        unfold fX2_aim_i72
        rw [q3 _ _ (by omega) (by omega), hEC.1, if_pos (by rw [sI_lt (by omega) (by omega)]; omega)]
        exact wq_some ⟨rfl, q1, q3⟩
    · rw [if_neg h4]
      have hsT : sT (c 2) (c 4) (c 5) e e = true := by
        unfold sT
        rw [if_neg h4]
        simp
      have eai : aiN c e (doE c e) (c 0 1) = aiF c (doE c e) (fun _ _ => false) (c 5 e) := by
        rw [ai_own h4, if_pos ⟨he1, he⟩]
      refine wq_b2 (c_aimAt (by omega) hT aC GoA_0 gr0 ck0 j3 j4 hdl (tg_in he1 he hsT hdg hv) (by omega)) ?_
      rintro M1 L1 ⟨y1, y2, y3⟩
      dsimp only at y1 y2 y3
      subst y1
      refine wq_some ⟨rfl, ?_, fun b y u1 u2 => (y3 b y u1 u2).trans (p2 b y u1 u2)⟩
      rw [eai]
      exact y2
