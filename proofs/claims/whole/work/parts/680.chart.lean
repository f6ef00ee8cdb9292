/-! what an edge aims at, and what is entered -/
/-- something on the way from f up to d -/
def clm (pa : Nat → Nat) (d : Nat) (p : Nat → Bool) : Nat → Nat → Bool
  | 0, _ => false
  | m + 1, f => if f = d then false else (p f || clm pa d p m (pa f))
def onP (c : Nat → Nat → Nat) (d f s : Nat) : Bool := clm (c 1) d (fun t => decide (t = s)) (c 3 f) f
def sib (c : Nat → Nat → Nat) (o : Nat → Bool) (s : Nat) : Bool := anyN (fun t => decide (t ≠ s) && decide (c 1 t = c 1 s) && o t) (c 0 0)
def blk (c : Nat → Nat → Nat) (d f : Nat) (o : Nat → Bool) : Bool := clm (c 1) d (fun s => decide (c 2 (c 1 s) = 0) && sib c o s) (c 3 f) f
def frA (c : Nat → Nat → Nat) (t : Nat) : Nat := if 2 ≤ c 2 t then c 1 t else t
def aiF (c : Nat → Nat → Nat) (d : Nat) (g : Nat → Nat → Bool) (t : Nat) : Nat → Nat → Bool := if blk c d (frA c t) (g 0) = true then g else fun r s => if r = 0 then g 0 s || onP c d (frA c t) s else if r = 1 then g 1 s || (decide (s = c 1 t) && decide (c 2 t = 2)) else if r = 2 then g 2 s || (decide (s = c 1 t) && decide (c 2 t = 3)) else g r s
def aiN (c : Nat → Nat → Nat) (e d : Nat) : Nat → Nat → Nat → Bool
  | 0 => fun _ _ => false
  | j + 1 => if sT (c 2) (c 4) (c 5) e (j + 1) = true then aiF c d (aiN c e d j) (c 5 (j + 1)) else aiN c e d j
theorem clm_0 {pa : Nat → Nat} {d : Nat} {p : Nat → Bool} : ∀ m, clm pa d p m d = false := by
  intro m
  cases m with
  | zero => rfl
  | succ m =>
    show (if d = d then false else (p d || clm pa d p m (pa d))) = false
    rw [if_pos rfl]
theorem clm_S {N : Nat} {pa kd de : Nat → Nat} (h : Tr N pa kd de) {d f : Nat} {p : Nat → Bool} (hf : f ≤ N) (hd : insB pa de d f = true) : clm pa d p (de f) f = (p f || clm pa d p (de (pa f)) (pa f)) := by
  have h1 : 1 ≤ f := by
    rcases Nat.eq_zero_or_pos f with q | q
    · rw [q, ins_0 h] at hd; cases hd
    · exact q
  have := (h.2.2.2.2 f h1 hf).2.1
  have hl := ins_lt h f hf hd
  rw [this]
  show (if f = d then false else (p f || clm pa d p (de (pa f)) (pa f))) = _
  rw [if_neg (by omega)]
/-- going up by induction -/
theorem up_ind {N : Nat} {pa kd de : Nat → Nat} (h : Tr N pa kd de) {d : Nat} {P : Nat → Prop} (h0 : P d) (hs : ∀ f, f ≤ N → insB pa de d f = true → (pa f = d ∨ insB pa de d (pa f) = true) → P (pa f) → P f) : ∀ f, f ≤ N → (f = d ∨ insB pa de d f = true) → P f := by
  intro f
  induction f using Nat.strongRecOn with
  | _ f ih =>
    intro hf hd
    rcases hd with rfl | hd
    · exact h0
    · have h1 : 1 ≤ f := by
        rcases Nat.eq_zero_or_pos f with q | q
        · rw [q, ins_0 h] at hd; cases hd
        · exact q
      have hp := (h.2.2.2.2 f h1 hf).1
      have hd2 : pa f = d ∨ insB pa de d (pa f) = true := by
        have := hd
        rw [ins_S h h1 hf, Bool.or_eq_true, decide_eq_true_eq] at this
        exact this
      exact hs f hf hd hd2 (ih (pa f) hp (by omega) hd2)
theorem clm_iff {N : Nat} {pa kd de : Nat → Nat} (h : Tr N pa kd de) {d : Nat} {p : Nat → Bool} : ∀ f, f ≤ N → (f = d ∨ insB pa de d f = true) → (clm pa d p (de f) f = true ↔ ∃ s, s ≤ N ∧ clm pa d (fun t => decide (t = s)) (de f) f = true ∧ p s = true) := by
  refine up_ind h (P := fun f => (clm pa d p (de f) f = true ↔ ∃ s, s ≤ N ∧ clm pa d (fun t => decide (t = s)) (de f) f = true ∧ p s = true)) ?_ ?_
  · rw [clm_0]
    constructor
    · intro q; cases q
    · rintro ⟨s, _, h2, _⟩
      rw [clm_0] at h2
      cases h2
  · intro f hf hd _ ih
    rw [clm_S h hf hd, Bool.or_eq_true, ih]
    constructor
    · rintro (q | ⟨s, h1, h2, h3⟩)
      · exact ⟨f, hf, by rw [clm_S h hf hd]; simp, q⟩
      · exact ⟨s, h1, by rw [clm_S h hf hd, h2]; simp, h3⟩
    · rintro ⟨s, h1, h2, h3⟩
      rw [clm_S h hf hd, Bool.or_eq_true, decide_eq_true_eq] at h2
      rcases h2 with q | q
      · exact Or.inl (q ▸ h3)
      · exact Or.inr ⟨s, h1, q, h3⟩
/-- what lies on the way -/
theorem on_facts {N : Nat} {pa kd de : Nat → Nat} (h : Tr N pa kd de) {d s : Nat} : ∀ f, f ≤ N → (f = d ∨ insB pa de d f = true) → clm pa d (fun t => decide (t = s)) (de f) f = true → insB pa de d s = true ∧ s ≤ f ∧ (s = f ∨ kd s ≤ 1) ∧ (pa s = d ∨ clm pa d (fun t => decide (t = pa s)) (de f) f = true) := by
  refine up_ind h (P := fun f => clm pa d (fun t => decide (t = s)) (de f) f = true → insB pa de d s = true ∧ s ≤ f ∧ (s = f ∨ kd s ≤ 1) ∧ (pa s = d ∨ clm pa d (fun t => decide (t = pa s)) (de f) f = true)) ?_ ?_
  · intro q
    rw [clm_0] at q
    cases q
  · intro f hf hd hd2 ih hq
    have h1 : 1 ≤ f := by
      rcases Nat.eq_zero_or_pos f with q | q
      · rw [q, ins_0 h] at hd; cases hd
      · exact q
    obtain ⟨w1, w2, w3, w4, w5⟩ := h.2.2.2.2 f h1 hf
    rw [clm_S h hf hd, Bool.or_eq_true, decide_eq_true_eq] at hq
    rcases hq with rfl | hq
    · refine ⟨hd, Nat.le_refl _, Or.inl rfl, ?_⟩
      rcases hd2 with q | q
      · exact Or.inl q
      · right
        rw [clm_S h hf hd, clm_S h (by omega) q]
        simp
    · obtain ⟨i1, i2, i3, i4⟩ := ih hq
      refine ⟨i1, by omega, ?_, ?_⟩
      · right
        rcases i3 with q | q
        · rw [q]; exact w5
        · exact q
      · rcases i4 with q | q
        · exact Or.inl q
        · right
          rw [clm_S h hf hd, q]
          simp
/-- on the way no two have one parent -/
theorem on_uniq {N : Nat} {pa kd de : Nat → Nat} (h : Tr N pa kd de) {d s t : Nat} (hst : pa s = pa t) : ∀ f, f ≤ N → (f = d ∨ insB pa de d f = true) → clm pa d (fun z => decide (z = s)) (de f) f = true → clm pa d (fun z => decide (z = t)) (de f) f = true → s = t := by
  refine up_ind h (P := fun f => clm pa d (fun z => decide (z = s)) (de f) f = true → clm pa d (fun z => decide (z = t)) (de f) f = true → s = t) ?_ ?_
  · intro q
    rw [clm_0] at q
    cases q
  · intro f hf hd hd2 ih h1 h2
    have hf1 : 1 ≤ f := by
      rcases Nat.eq_zero_or_pos f with q | q
      · rw [q, ins_0 h] at hd; cases hd
      · exact q
    have hpf := (h.2.2.2.2 f hf1 hf).1
    rw [clm_S h hf hd, Bool.or_eq_true, decide_eq_true_eq] at h1 h2
    rcases h1 with rfl | h1
    · rcases h2 with rfl | h2
      · rfl
      · exfalso
        have g1 := on_facts h (pa f) (by omega) hd2 h2
        have ht1 : 1 ≤ t := by
          rcases Nat.eq_zero_or_pos t with q | q
          · rw [q, ins_0 h] at g1; cases g1.1
          · exact q
        have := (h.2.2.2.2 t ht1 (by omega)).1
        omega
    · rcases h2 with rfl | h2
      · exfalso
        have g1 := on_facts h (pa f) (by omega) hd2 h1
        have ht1 : 1 ≤ s := by
          rcases Nat.eq_zero_or_pos s with q | q
          · rw [q, ins_0 h] at g1; cases g1.1
          · exact q
        have := (h.2.2.2.2 s ht1 (by omega)).1
        omega
      · exact ih h1 h2
/-- what the aims keep to -/
def GoA (c : Nat → Nat → Nat) (d : Nat) (g : Nat → Nat → Bool) : Prop := ∀ s, g 0 s = true → 1 ≤ s ∧ s ≤ c 0 0 ∧ c 2 s ≤ 1 ∧ insB (c 1) (c 3) d s = true ∧ (c 1 s = d ∨ g 0 (c 1 s) = true) ∧ ∀ t, g 0 t = true → c 1 t = c 1 s → c 2 (c 1 s) = 0 → t = s
theorem GoA_0 {c : Nat → Nat → Nat} {d : Nat} : GoA c d (fun _ _ => false) := by
  intro s h
  cases h
theorem frA_in {c : Nat → Nat → Nat} {d t : Nat} (hT : Tr (c 0 0) (c 1) (c 2) (c 3)) (h1 : 1 ≤ t) (ht : t ≤ c 0 0) (hd : insB (c 1) (c 3) d t = true) : frA c t ≤ c 0 0 ∧ (frA c t = d ∨ insB (c 1) (c 3) d (frA c t) = true) ∧ (frA c t = d ∨ c 2 (frA c t) ≤ 1) := by
  obtain ⟨w1, w2, w3, w4, w5⟩ := hT.2.2.2.2 t h1 ht
  unfold frA
  by_cases hm : 2 ≤ c 2 t
  · rw [if_pos hm]
    refine ⟨by omega, ?_, Or.inr w5⟩
    rw [ins_S hT h1 ht, Bool.or_eq_true, decide_eq_true_eq] at hd
    exact hd
  · rw [if_neg hm]
    exact ⟨ht, Or.inr hd, Or.inr (by omega)⟩
theorem sib_iff {c : Nat → Nat → Nat} {o : Nat → Bool} {s : Nat} : sib c o s = true ↔ ∃ t, 1 ≤ t ∧ t ≤ c 0 0 ∧ t ≠ s ∧ c 1 t = c 1 s ∧ o t = true := by
  unfold sib
  rw [anyN_iff]
  constructor
  · rintro ⟨t, h1, h2, h3⟩
    simp only [Bool.and_eq_true, decide_eq_true_eq] at h3
    exact ⟨t, h1, h2, h3.1.1, h3.1.2, h3.2⟩
  · rintro ⟨t, h1, h2, h3, h4, h5⟩
    exact ⟨t, h1, h2, by simp [h3, h4, h5]⟩
theorem GoA_F {c : Nat → Nat → Nat} {d t : Nat} {g : Nat → Nat → Bool} (hT : Tr (c 0 0) (c 1) (c 2) (c 3)) (hg : GoA c d g) (h1 : 1 ≤ t) (ht : t ≤ c 0 0) (hd : insB (c 1) (c 3) d t = true) : GoA c d (aiF c d g t) := by
  unfold aiF
  by_cases hb : blk c d (frA c t) (g 0) = true
  · rw [if_pos hb]; exact hg
  rw [if_neg hb]
  obtain ⟨f1, f2, f3⟩ := frA_in hT h1 ht hd
  have key : ∀ s, onP c d (frA c t) s = true → 1 ≤ s ∧ s ≤ c 0 0 ∧ c 2 s ≤ 1 ∧ insB (c 1) (c 3) d s = true ∧ (c 1 s = d ∨ onP c d (frA c t) (c 1 s) = true) := by
    intro s hs
    have hs' := hs
    unfold onP at hs'
    have := on_facts hT (frA c t) f1 f2 hs'
    have hs1 : 1 ≤ s := by
      rcases Nat.eq_zero_or_pos s with q | q
      · rw [q, ins_0 hT] at this; cases this.1
      · exact q
    refine ⟨hs1, by omega, ?_, this.1, this.2.2.2⟩
    rcases this.2.2.1 with q | q
    · rcases f3 with w | w
      · exfalso
        rw [w, clm_0] at hs'
        cases hs'
      · rw [q]; exact w
    · exact q
  intro s hs
  simp only [if_true, Bool.or_eq_true] at hs
  have main : 1 ≤ s ∧ s ≤ c 0 0 ∧ c 2 s ≤ 1 ∧ insB (c 1) (c 3) d s = true ∧ (c 1 s = d ∨ (g 0 (c 1 s) || onP c d (frA c t) (c 1 s)) = true) := by
    rcases hs with hs | hs
    · obtain ⟨u1, u2, u3, u4, u5, u6⟩ := hg s hs
      refine ⟨u1, u2, u3, u4, ?_⟩
      rcases u5 with q | q
      · exact Or.inl q
      · right; rw [q]; rfl
    · obtain ⟨u1, u2, u3, u4, u5⟩ := key s hs
      refine ⟨u1, u2, u3, u4, ?_⟩
      rcases u5 with q | q
      · exact Or.inl q
      · right; rw [q]; simp
  -- under a plain parent there is one alone
  have nb : ∀ z, onP c d (frA c t) z = true → c 2 (c 1 z) = 0 → ∀ y, g 0 y = true → c 1 y = c 1 z → y = z := by
    intro z hz hp y hy hyz
    by_cases hq : y = z
    · exact hq
    exfalso
    refine hb ?_
    unfold blk
    rw [clm_iff hT _ f1 f2]
    have hy2 := hg y hy
    refine ⟨z, (key z hz).2.1, hz, ?_⟩
    rw [decide_eq_true hp, Bool.true_and, sib_iff]
    exact ⟨y, hy2.1, hy2.2.1, hq, hyz, hy⟩
  refine ⟨main.1, main.2.1, main.2.2.1, main.2.2.2.1, main.2.2.2.2, ?_⟩
  intro y hy hys hp
  simp only [if_true, Bool.or_eq_true] at hy
  rcases hs with hs | hs
  · rcases hy with hy | hy
    · exact (hg s hs).2.2.2.2.2 y hy hys hp
    · exact (nb y hy (by rw [hys]; exact hp) s hs hys.symm).symm
  · rcases hy with hy | hy
    · exact nb s hs hp y hy hys
    · exact on_uniq hT hys (frA c t) f1 f2 hy hs
/-- the targets lie inside the domain -/
theorem tg_in {c : Nat → Nat → Nat} {e j d : Nat} (h1 : 1 ≤ j) (h2 : j ≤ c 0 1) (hs : sT (c 2) (c 4) (c 5) e j = true) (hd : d = 0 ∨ goodB (c 1) (c 2) (c 3) (c 4) (c 5) (c 0 1) d e = true) (hv : Cv c) : insB (c 1) (c 3) d (c 5 j) = true := by
  rcases hd with rfl | hd
  · obtain ⟨_, _, j3, j4, _⟩ := hv.2.1.2 j h1 h2
    exact ins_root hv.1 _ j3 j4
  · unfold goodB at hd
    have := (allN_iff _).mp hd j h1 h2
    rw [Bool.and_eq_true, hs] at this
    simpa using this.2
theorem do_good {c : Nat → Nat → Nat} (hv : Cv c) {e : Nat} : doE c e = 0 ∨ (c 2 (doE c e) = 0 ∧ goodB (c 1) (c 2) (c 3) (c 4) (c 5) (c 0 1) (doE c e) e = true) := (bst_spec hv.1 _ (Nat.le_refl _)).1
theorem GoA_N {c : Nat → Nat → Nat} {e : Nat} (hv : Cv c) : ∀ j, j ≤ c 0 1 → GoA c (doE c e) (aiN c e (doE c e) j) := by
  intro j
  induction j with
  | zero => intro _; exact GoA_0
  | succ j ih =>
    intro hj
    show GoA c (doE c e) (if sT (c 2) (c 4) (c 5) e (j + 1) = true then aiF c (doE c e) (aiN c e (doE c e) j) (c 5 (j + 1)) else aiN c e (doE c e) j)
    by_cases hs : sT (c 2) (c 4) (c 5) e (j + 1) = true
    · rw [if_pos hs]
      obtain ⟨_, _, j3, j4, _⟩ := hv.2.1.2 (j + 1) (by omega) hj
      refine GoA_F hv.1 (ih (by omega)) j3 j4 (tg_in (by omega) hj hs ?_ hv)
      rcases do_good hv (e := e) with q | q
      · exact Or.inl q
      · exact Or.inr q.2
    · rw [if_neg hs]
      exact ih (by omega)
/-! what is entered -/
def enc (c : Nat → Nat → Nat) (o : Nat → Bool) (p : Nat) : Nat := fstN (fun t => decide (c 1 t = p) && o t) (c 0 0) 1
def dfl (c : Nat → Nat → Nat) (p : Nat) : Nat := chF (c 1) (c 2) (c 0 0) (fun _ => true) p
def pkf (c : Nat → Nat → Nat) (g : Nat → Nat → Bool) (p : Nat) (w : Bool) : Nat := if enc c (g 0) p ≠ 0 then enc c (g 0) p else if (g 1 p || w) = true ∧ c 13 p ≠ 0 then c 13 p else dfl c p
def cmF (c : Nat → Nat → Nat) (d : Nat) (g : Nat → Nat → Bool) : Nat → Nat → Bool × Bool
  | 0, _ => (false, false)
  | m + 1, s => ((if c 1 s = d then true else (cmF c d g m (c 1 s)).1) && (decide (c 2 s ≤ 1) && (decide (c 2 (c 1 s) = 1) || decide (pkf c g (c 1 s) (if c 1 s = d then g 2 d else (cmF c d g m (c 1 s)).2) = s))), g 2 s || (if c 1 s = d then g 2 d else (cmF c d g m (c 1 s)).2))
def cmB (c : Nat → Nat → Nat) (d : Nat) (g : Nat → Nat → Bool) (s : Nat) : Bool := (cmF c d g (c 3 s) s).1
def dqB (c : Nat → Nat → Nat) (d : Nat) (g : Nat → Nat → Bool) (s : Nat) : Bool := if s = d then g 2 d else (cmF c d g (c 3 s) s).2
def cnD (c : Nat → Nat → Nat) (d : Nat) (g : Nat → Nat → Bool) (p : Nat) : Bool := if p = d then true else cmB c d g p
theorem cm_S {c : Nat → Nat → Nat} {d s : Nat} {g : Nat → Nat → Bool} (hT : Tr (c 0 0) (c 1) (c 2) (c 3)) (h1 : 1 ≤ s) (hs : s ≤ c 0 0) : cmB c d g s = (cnD c d g (c 1 s) && (decide (c 2 s ≤ 1) && (decide (c 2 (c 1 s) = 1) || decide (pkf c g (c 1 s) (dqB c d g (c 1 s)) = s)))) := by
  unfold cmB
  rw [(hT.2.2.2.2 s h1 hs).2.1]
  rfl
theorem dq_S {c : Nat → Nat → Nat} {d s : Nat} {g : Nat → Nat → Bool} (hT : Tr (c 0 0) (c 1) (c 2) (c 3)) (h1 : 1 ≤ s) (hs : s ≤ c 0 0) (hd : s ≠ d) : dqB c d g s = (g 2 s || dqB c d g (c 1 s)) := by
  have e : dqB c d g s = (cmF c d g (c 3 s) s).2 := by
    unfold dqB
    rw [if_neg hd]
  rw [e, (hT.2.2.2.2 s h1 hs).2.1]
  rfl
theorem cm_0 {c : Nat → Nat → Nat} {d : Nat} {g : Nat → Nat → Bool} (hT : Tr (c 0 0) (c 1) (c 2) (c 3)) : cmB c d g 0 = false := by
  unfold cmB
  rw [hT.2.2.2.1]
  rfl
theorem cm_in {c : Nat → Nat → Nat} {d : Nat} {g : Nat → Nat → Bool} (hT : Tr (c 0 0) (c 1) (c 2) (c 3)) : ∀ s, s ≤ c 0 0 → cmB c d g s = true → 1 ≤ s ∧ insB (c 1) (c 3) d s = true ∧ c 2 s ≤ 1 := by
  intro s
  induction s using Nat.strongRecOn with
  | _ s ih =>
    intro hs h
    have h1 : 1 ≤ s := by
      rcases Nat.eq_zero_or_pos s with q | q
      · rw [q, cm_0 hT] at h; cases h
      · exact q
    rw [cm_S hT h1 hs] at h
    simp only [Bool.and_eq_true, decide_eq_true_eq] at h
    have hp := (hT.2.2.2.2 s h1 hs).1
    refine ⟨h1, ?_, h.2.1⟩
    rw [ins_S hT h1 hs, Bool.or_eq_true, decide_eq_true_eq]
    have h2 := h.1
    unfold cnD at h2
    by_cases hq : c 1 s = d
    · exact Or.inl hq
    · rw [if_neg hq] at h2
      exact Or.inr (ih (c 1 s) hp (by omega) h2).2.1
