/-! what holds of the active states -/
def Cf1 (c : Nat → Nat → Nat) (b : Nat → Nat → Bool) : Prop := ∀ s, 1 ≤ s → s ≤ c 0 0 → b 0 s = true → c 2 s ≤ 1 ∧ (c 1 s = 0 ∨ b 0 (c 1 s) = true)
def Cf2 (c : Nat → Nat → Nat) (b : Nat → Nat → Bool) : Prop := ∀ s t, 1 ≤ s → s ≤ c 0 0 → 1 ≤ t → t ≤ c 0 0 → b 0 s = true → b 0 t = true → c 1 s = c 1 t → c 2 (c 1 s) = 0 → s = t
def Cf3 (c : Nat → Nat → Nat) (b : Nat → Nat → Bool) (p : Nat) : Prop := (p = 0 ∨ b 0 p = true) → c 2 p = 0 → dfl c p ≠ 0 → ∃ s, 1 ≤ s ∧ s ≤ c 0 0 ∧ b 0 s = true ∧ c 1 s = p
def Cfg (c : Nat → Nat → Nat) (b : Nat → Nat → Bool) : Prop := Cf1 c b ∧ Cf2 c b ∧ (∀ p, p ≤ c 0 0 → Cf3 c b p) ∧ HiV c
def CfD (c : Nat → Nat → Nat) (b : Nat → Nat → Bool) (d : Nat) : Prop := Cf1 c b ∧ Cf2 c b ∧ (∀ p, p ≤ c 0 0 → p ≠ d → insB (c 1) (c 3) d p = false → Cf3 c b p) ∧ HiV c
theorem Cfg_D {c : Nat → Nat → Nat} {b : Nat → Nat → Bool} {d : Nat} (h : Cfg c b) : CfD c b d := ⟨h.1, h.2.1, fun p hp _ _ => h.2.2.1 p hp, h.2.2.2⟩
def lvC (c : Nat → Nat → Nat) (b : Nat → Nat → Bool) (d : Nat) : Nat → Nat → Nat := fun i j => if i = 13 ∧ exB (c 1) (c 3) (b 0) d j = true ∧ c 2 j = 0 then chF (c 1) (c 2) (c 0 0) (b 0) j else c i j
def lvB (c : Nat → Nat → Nat) (b : Nat → Nat → Bool) (d : Nat) : Nat → Nat → Bool := fun r s => if r = 0 then b 0 s && !insB (c 1) (c 3) d s else b r s
theorem lvC_r {c : Nat → Nat → Nat} {b : Nat → Nat → Bool} {d i : Nat} (h : i ≠ 13) : lvC c b d i = c i := by
  funext j
  unfold lvC
  rw [if_neg (fun z => h z.1)]
theorem ch_act {c : Nat → Nat → Nat} {o : Nat → Bool} {p : Nat} (h : chF (c 1) (c 2) (c 0 0) o p ≠ 0) : 1 ≤ chF (c 1) (c 2) (c 0 0) o p ∧ chF (c 1) (c 2) (c 0 0) o p ≤ c 0 0 ∧ c 1 (chF (c 1) (c 2) (c 0 0) o p) = p ∧ c 2 (chF (c 1) (c 2) (c 0 0) o p) ≤ 1 ∧ o (chF (c 1) (c 2) (c 0 0) o p) = true := by
  have hz := fst_p (p := chP (c 1) (c 2) o p) _ _ (by omega) h
  have h1 := hz.1
  unfold chP at h1
  simp only [Bool.and_eq_true, decide_eq_true_eq] at h1
  exact ⟨hz.2.1, by have := hz.2.2; unfold chF; omega, h1.1.1, h1.1.2, h1.2⟩
theorem ch_none {c : Nat → Nat → Nat} {o : Nat → Bool} {p t : Nat} (h : chF (c 1) (c 2) (c 0 0) o p = 0) (t1 : 1 ≤ t) (t2 : t ≤ c 0 0) (ht : c 1 t = p) (hk : c 2 t ≤ 1) : o t = false := by
  have := fst_n (p := chP (c 1) (c 2) o p) _ _ (by omega) h t t1 (by omega)
  unfold chP at this
  rw [decide_eq_true ht, decide_eq_true hk] at this
  simpa using this
theorem df_ne {c : Nat → Nat → Nat} {p t : Nat} (t1 : 1 ≤ t) (t2 : t ≤ c 0 0) (ht : c 1 t = p) (hk : c 2 t ≤ 1) : dfl c p ≠ 0 := by
  intro z
  have := ch_none (o := fun _ => true) z t1 t2 ht hk
  cases this
theorem pk_ne {c : Nat → Nat → Nat} {g : Nat → Nat → Bool} {p : Nat} {w : Bool} (h : dfl c p ≠ 0) : pkf c g p w ≠ 0 := by
  unfold pkf
  split
  · assumption
  · split
    · rename_i h2; exact h2.2
    · exact h
/-- one that is gone through and has children that may be entered, has one that is -/
theorem cm_child {c : Nat → Nat → Nat} {d p : Nat} {g : Nat → Nat → Bool} (hT : Tr (c 0 0) (c 1) (c 2) (c 3)) (hG : GoA c d g) (hH : HiV c) (hp : cnD c d g p = true) (hpl : p ≤ c 0 0) (hk : c 2 p = 0) (hdf : dfl c p ≠ 0) : ∃ t, 1 ≤ t ∧ t ≤ c 0 0 ∧ c 1 t = p ∧ cmB c d g t = true := by
  have hne := pk_ne (g := g) (w := dqB c d g p) hdf
  have hpk : ∀ t, t = pkf c g p (dqB c d g p) → 1 ≤ t ∧ t ≤ c 0 0 ∧ c 1 t = p ∧ c 2 t ≤ 1 := by
    intro t ht
    unfold pkf at ht
    by_cases he : enc c (g 0) p ≠ 0
    · rw [if_pos he] at ht
      have hz := fst_p _ _ (by omega) he
      have hz1 := hz.1
      simp only [Bool.and_eq_true, decide_eq_true_eq] at hz1
      have hg0 : g 0 (enc c (g 0) p) = true := hz1.2
      have := hG _ hg0
      rw [ht]
      exact ⟨this.1, this.2.1, hz1.1, this.2.2.1⟩
    · rw [if_neg he] at ht
      by_cases hc : (g 1 p || dqB c d g p) = true ∧ c 13 p ≠ 0
      · rw [if_pos hc] at ht
        rcases hH p hpl with v | v
        · exact absurd v hc.2
        · rw [ht]; exact v
      · rw [if_neg hc] at ht
        rw [ht]; exact df_p hdf
  obtain ⟨u1, u2, u3, u4⟩ := hpk _ rfl
  refine ⟨_, u1, u2, u3, ?_⟩
  rw [cm_S hT u1 u2, u3, hp, decide_eq_true u4, decide_eq_true rfl]
  simp
section CFG
variable {c : Nat → Nat → Nat} {b : Nat → Nat → Bool} {d : Nat}
theorem cf_hz (h : Cfg c b) : ∀ s, 1 ≤ s → s ≤ c 0 0 → b 0 s = true → c 2 s = 0 → chF (c 1) (c 2) (c 0 0) (b 0) s = 0 → c 13 s = 0 := by
  intro s h1 h2 h3 h4 h5
  rcases h.2.2.2 s h2 with v | v
  · exact v
  · exfalso
    obtain ⟨t, t1, t2, t3, t4⟩ := h.2.2.1 s h2 (Or.inr h3) h4 (df_ne v.1 v.2.1 v.2.2.1 v.2.2.2)
    have := ch_none h5 t1 t2 t4 (h.1 t t1 t2 t3).1
    rw [t3] at this
    cases this
theorem lv_HiV (hT : Tr (c 0 0) (c 1) (c 2) (c 3)) (hH : HiV c) : HiV (lvC c b d) := by
  intro s hs
  rw [lvC_r (i := 0) (by omega)] at hs ⊢
  rw [lvC_r (i := 1) (by omega), lvC_r (i := 2) (by omega)]
  by_cases hq : exB (c 1) (c 3) (b 0) d s = true ∧ c 2 s = 0
  · have e : lvC c b d 13 s = chF (c 1) (c 2) (c 0 0) (b 0) s := by
      unfold lvC
      rw [if_pos ⟨rfl, hq⟩]
    rw [e]
    by_cases hz : chF (c 1) (c 2) (c 0 0) (b 0) s = 0
    · exact Or.inl hz
    · have := ch_act hz
      exact Or.inr ⟨this.1, this.2.1, this.2.2.1, this.2.2.2.1⟩
  · have e : lvC c b d 13 s = c 13 s := by
      unfold lvC
      rw [if_neg (fun z => hq z.2)]
    rw [e]
    exact hH s hs
theorem ins_par (hT : Tr (c 0 0) (c 1) (c 2) (c 3)) {t : Nat} (t1 : 1 ≤ t) (t2 : t ≤ c 0 0) : insB (c 1) (c 3) d t = (decide (c 1 t = d) || insB (c 1) (c 3) d (c 1 t)) := ins_S hT t1 t2
/-- behind a step: the active states, and the children -/
theorem cf_step {c2 : Nat → Nat → Nat} {g : Nat → Nat → Bool} {now : Nat} (hT : Tr (c 0 0) (c 1) (c 2) (c 3)) (h : CfD c b d) (hdl : d ≤ c 0 0) (hk : c 2 d = 0) (hd : d = 0 ∨ b 0 d = true) (hc2 : c2 = lvC c b d) (hG : GoA c2 d g) : Cfg (ent c2 (cmB c2 d g) now) (enb (lvB c b d) (cmB c2 d g)) ∧ ∀ s, s ≤ c 0 0 → chE c2 (cmB c2 d g) (fun s => if exB (c 1) (c 3) (b 0) d s = true then 0 else chK c b s) s = chK (ent c2 (cmB c2 d g) now) (enb (lvB c b d) (cmB c2 d g)) s := by
  obtain ⟨I1, I2, I3, IH⟩ := h
  have s0 : c2 0 = c 0 := by rw [hc2]; exact lvC_r (by omega)
  have s1 : c2 1 = c 1 := by rw [hc2]; exact lvC_r (by omega)
  have s2 : c2 2 = c 2 := by rw [hc2]; exact lvC_r (by omega)
  have s3 : c2 3 = c 3 := by rw [hc2]; exact lvC_r (by omega)
  have hT2 : Tr (c2 0 0) (c2 1) (c2 2) (c2 3) := by rw [s0, s1, s2, s3]; exact hT
  have hH2 : HiV c2 := by rw [hc2]; exact lv_HiV hT IH
  have ec : ∀ i, i ≠ 14 → ent c2 (cmB c2 d g) now i = c2 i := by
    intro i hi
    funext j
    unfold ent
    rw [if_neg (fun z => hi z.1)]
  have eb : ∀ s, enb (lvB c b d) (cmB c2 d g) 0 s = ((b 0 s && !insB (c 1) (c 3) d s) || cmB c2 d g s) := by
    intro s
    unfold enb lvB
    rw [if_pos rfl, if_pos rfl]
  have df2 : ∀ p, dfl c2 p = dfl c p := by
    intro p
    unfold dfl
    rw [s0, s1, s2]
  have cin : ∀ s, s ≤ c 0 0 → cmB c2 d g s = true → 1 ≤ s ∧ insB (c 1) (c 3) d s = true ∧ c 2 s ≤ 1 := by
    intro s hs hc
    have := cm_in hT2 s (by rw [s0]; exact hs) hc
    rw [s1, s2, s3] at this
    exact this
  have insd : insB (c 1) (c 3) d d = false := by
    by_cases hx : insB (c 1) (c 3) d d = true
    · have := ins_lt hT d hdl hx
      omega
    · simpa using hx
  have cns : ∀ s, 1 ≤ s → s ≤ c 0 0 → cmB c2 d g s = true → cnD c2 d g (c 1 s) = true := by
    intro s u1 u2 hc
    rw [cm_S hT2 u1 (by rw [s0]; exact u2), s1] at hc
    simp only [Bool.and_eq_true] at hc
    exact hc.1
  have actd : d ≠ 0 → enb (lvB c b d) (cmB c2 d g) 0 d = true := by
    intro hne
    rw [eb, insd]
    rcases hd with v | v
    · exact absurd v hne
    · rw [v]; rfl
  have kid : ∀ p, p ≤ c 0 0 → cnD c2 d g p = true → c 2 p = 0 → dfl c p ≠ 0 → ∃ t, 1 ≤ t ∧ t ≤ c 0 0 ∧ c 1 t = p ∧ cmB c2 d g t = true := by
    intro p hp u1 u2 u3
    have := cm_child hT2 hG hH2 u1 (by rw [s0]; exact hp) (by rw [s2]; exact u2) (by rw [df2]; exact u3)
    rw [s0, s1] at this
    exact this
  refine ⟨⟨?_, ?_, ?_, ?_⟩, ?_⟩
  · -- parents are active
    intro s u1 u2 u3
    rw [ec 0 (by omega), s0] at u2
    rw [ec 1 (by omega), ec 2 (by omega), s1, s2]
    rw [eb, Bool.or_eq_true] at u3
    rcases u3 with v | v
    · rw [Bool.and_eq_true, Bool.not_eq_true'] at v
      have w := I1 s u1 u2 v.1
      refine ⟨w.1, ?_⟩
      rcases w.2 with z | z
      · exact Or.inl z
      · right
        have hi := v.2
        rw [ins_par hT u1 u2, Bool.or_eq_false_iff] at hi
        rw [eb, z, hi.2]
        rfl
    · have w := cin s u2 v
      refine ⟨w.2.2, ?_⟩
      have hcn := cns s u1 u2 v
      unfold cnD at hcn
      by_cases hq : c 1 s = d
      · rw [hq]
        by_cases hd0 : d = 0
        · exact Or.inl hd0
        · exact Or.inr (actd hd0)
      · rw [if_neg hq] at hcn
        right
        rw [eb, hcn]
        simp
  · -- one child alone
    intro s t u1 u2 v1 v2 a1 a2 hp hk0
    rw [ec 0 (by omega), s0] at u2 v2
    rw [ec 1 (by omega), s1] at hp
    rw [ec 1 (by omega), ec 2 (by omega), s1, s2] at hk0
    rw [eb, Bool.or_eq_true] at a1 a2
    rcases a1 with a1 | a1
    · rw [Bool.and_eq_true, Bool.not_eq_true'] at a1
      rcases a2 with a2 | a2
      · rw [Bool.and_eq_true] at a2
        exact I2 s t u1 u2 v1 v2 a1.1 a2.1 hp hk0
      · exfalso
        have w := (cin t v2 a2).2.1
        rw [ins_par hT v1 v2, ← hp, ← ins_par hT u1 u2, a1.2] at w
        cases w
    · rcases a2 with a2 | a2
      · exfalso
        rw [Bool.and_eq_true, Bool.not_eq_true'] at a2
        have w := (cin s u2 a1).2.1
        rw [ins_par hT u1 u2, hp, ← ins_par hT v1 v2, a2.2] at w
        cases w
      · refine cm_uniq hT2 (by rw [s0]; exact u2) (by rw [s0]; exact v2) a1 a2 (by rw [s1]; exact hp) (by rw [s1, s2]; exact hk0)
  · -- one child at least
    intro p hp u1 u2 u3
    rw [ec 0 (by omega), s0] at hp
    rw [ec 2 (by omega), s2] at u2
    have u3' : dfl c p ≠ 0 := by
      have e : dfl (ent c2 (cmB c2 d g) now) p = dfl c p := by
        rw [← df2]
        unfold dfl
        rw [ec 0 (by omega), ec 1 (by omega), ec 2 (by omega)]
      rw [e] at u3
      exact u3
    rw [ec 0 (by omega), ec 1 (by omega), s0, s1]
    have byc : cnD c2 d g p = true → ∃ s, 1 ≤ s ∧ s ≤ c 0 0 ∧ enb (lvB c b d) (cmB c2 d g) 0 s = true ∧ c 1 s = p := by
      intro hcn
      obtain ⟨t, t1, t2, t3, t4⟩ := kid p hp hcn u2 u3'
      exact ⟨t, t1, t2, by rw [eb, t4]; simp, t3⟩
    by_cases hq : p = d
    · exact byc (by unfold cnD; rw [if_pos hq])
    · cases hi : insB (c 1) (c 3) d p with
      | true =>
        refine byc ?_
        unfold cnD
        rw [if_neg hq]
        rcases u1 with v | v
        · rw [v, ins_0 hT] at hi; cases hi
        · rw [eb, hi] at v
          simpa using v
      | false =>
        have hact : p = 0 ∨ b 0 p = true := by
          rcases u1 with v | v
          · exact Or.inl v
          · rw [eb, hi, Bool.or_eq_true] at v
            rcases v with w | w
            · right; simpa using w
            · rw [(cin p hp w).2.1] at hi; cases hi
        obtain ⟨t, t1, t2, t3, t4⟩ := I3 p hp hq hi hact u2 u3'
        refine ⟨t, t1, t2, ?_, t4⟩
        have hit : insB (c 1) (c 3) d t = false := by
          rw [ins_par hT t1 t2, t4, hi, decide_eq_false hq]
          rfl
        rw [eb, t3, hit]
        rfl
  · intro s hs
    rw [ec 0 (by omega)] at hs
    rw [ec 0 (by omega), ec 1 (by omega), ec 2 (by omega), ec 13 (by omega)]
    exact hH2 s hs
  · -- the children in the row
    intro p hp
    have eK : chK (ent c2 (cmB c2 d g) now) (enb (lvB c b d) (cmB c2 d g)) p = if c 2 p = 0 ∧ (p = 0 ∨ enb (lvB c b d) (cmB c2 d g) 0 p = true) then chF (c 1) (c 2) (c 0 0) (enb (lvB c b d) (cmB c2 d g) 0) p else 0 := by
      unfold chK
      rw [ec 0 (by omega), ec 1 (by omega), ec 2 (by omega), s0, s1, s2]
    have eE : chE c2 (cmB c2 d g) (fun s => if exB (c 1) (c 3) (b 0) d s = true then 0 else chK c b s) p = if c 2 p = 0 ∧ fstN (fun t => decide (c 1 t = p) && cmB c2 d g t) (c 0 0) 1 ≠ 0 then fstN (fun t => decide (c 1 t = p) && cmB c2 d g t) (c 0 0) 1 else (if exB (c 1) (c 3) (b 0) d p = true then 0 else chK c b p) := by
      unfold chE
      rw [s0, s1, s2]
    rw [eK, eE]
    by_cases hkn : c 2 p ≠ 0
    · simp [hkn, chK]
    have hk0 : c 2 p = 0 := by omega
    -- children of what lies inside, or of the domain, are what comes
    have inner : (p = d ∨ insB (c 1) (c 3) d p = true) → chF (c 1) (c 2) (c 0 0) (enb (lvB c b d) (cmB c2 d g) 0) p = fstN (fun t => decide (c 1 t = p) && cmB c2 d g t) (c 0 0) 1 := by
      intro hpd
      unfold chF
      refine fst_congr _ _ (fun t t1 t2 => ?_)
      unfold chP
      by_cases htp : c 1 t = p
      · have hit : insB (c 1) (c 3) d t = true := by
          rw [ins_par hT t1 (by omega), htp]
          rcases hpd with v | v
          · rw [decide_eq_true v]; rfl
          · rw [v]; simp
        rw [eb, hit, decide_eq_true htp]
        cases hc : cmB c2 d g t with
        | false => simp
        | true =>
          rw [decide_eq_true (cin t (by omega) hc).2.2]
          simp
      · rw [decide_eq_false htp]
        simp
    by_cases hq : p = d
    · have hact : p = 0 ∨ enb (lvB c b d) (cmB c2 d g) 0 p = true := by
        by_cases hd0 : d = 0
        · exact Or.inl (by omega)
        · right; rw [hq]; exact actd hd0
      rw [if_pos (show c 2 p = 0 ∧ (p = 0 ∨ enb (lvB c b d) (cmB c2 d g) 0 p = true) from ⟨hk0, hact⟩), inner (Or.inl hq)]
      by_cases hf : fstN (fun t => decide (c 1 t = p) && cmB c2 d g t) (c 0 0) 1 = 0
      · rw [if_neg (show ¬ (c 2 p = 0 ∧ fstN (fun t => decide (c 1 t = p) && cmB c2 d g t) (c 0 0) 1 ≠ 0) from fun z => z.2 hf), hf]
        have hdf0 : dfl c p = 0 := by
          by_cases hx : dfl c p = 0
          · exact hx
          · exfalso
            obtain ⟨t, t1, t2, t3, t4⟩ := kid p hp (by unfold cnD; rw [if_pos hq]) hk0 hx
            have := fst_n _ _ (by omega) hf t t1 (by omega)
            rw [t4, decide_eq_true t3] at this
            cases this
        split
        · rfl
        · unfold chK
          split
          · by_cases hz : chF (c 1) (c 2) (c 0 0) (b 0) p = 0
            · exact hz
            · exfalso
              have := ch_act hz
              exact df_ne this.1 this.2.1 this.2.2.1 this.2.2.2.1 hdf0
          · rfl
      · rw [if_pos (show c 2 p = 0 ∧ fstN (fun t => decide (c 1 t = p) && cmB c2 d g t) (c 0 0) 1 ≠ 0 from ⟨hk0, hf⟩)]
    · cases hi : insB (c 1) (c 3) d p with
      | true =>
        have hp0 : p ≠ 0 := by
          intro z
          rw [z, ins_0 hT] at hi; cases hi
        have hp1 : 1 ≤ p := by omega
        have old : (if exB (c 1) (c 3) (b 0) d p = true then 0 else chK c b p) = 0 := by
          split
          · rfl
          · rename_i hx
            unfold exB at hx
            rw [hi, Bool.and_true] at hx
            unfold chK
            rw [if_neg (by
              rintro ⟨_, w | w⟩
              · exact hp0 w
              · exact hx w)]
        rw [old]
        have hact : enb (lvB c b d) (cmB c2 d g) 0 p = cmB c2 d g p := by
          rw [eb, hi]
          simp
        cases hc : cmB c2 d g p with
        | true =>
          rw [if_pos (show c 2 p = 0 ∧ (p = 0 ∨ enb (lvB c b d) (cmB c2 d g) 0 p = true) from ⟨hk0, Or.inr (by rw [hact]; exact hc)⟩), inner (Or.inr hi)]
          by_cases hf : fstN (fun t => decide (c 1 t = p) && cmB c2 d g t) (c 0 0) 1 = 0
          · rw [if_neg (show ¬ (c 2 p = 0 ∧ fstN (fun t => decide (c 1 t = p) && cmB c2 d g t) (c 0 0) 1 ≠ 0) from fun z => z.2 hf), hf]
          · rw [if_pos (show c 2 p = 0 ∧ fstN (fun t => decide (c 1 t = p) && cmB c2 d g t) (c 0 0) 1 ≠ 0 from ⟨hk0, hf⟩)]
        | false =>
          rw [if_neg (show ¬ (c 2 p = 0 ∧ (p = 0 ∨ enb (lvB c b d) (cmB c2 d g) 0 p = true)) by
            rintro ⟨_, w | w⟩
            · exact hp0 w
            · rw [hact, hc] at w; cases w)]
          rw [if_neg]
          rintro ⟨_, hf⟩
          have hz := fst_p _ _ (by omega) hf
          have hz1 := hz.1
          simp only [Bool.and_eq_true, decide_eq_true_eq] at hz1
          have hcn := cns _ hz.2.1 (by have := hz.2.2; omega) hz1.2
          rw [hz1.1] at hcn
          unfold cnD at hcn
          rw [if_neg hq, hc] at hcn
          cases hcn
      | false =>
        have hnc : cmB c2 d g p = false := by
          by_cases hx : cmB c2 d g p = true
          · rw [(cin p hp hx).2.1] at hi; cases hi
          · simpa using hx
        have hact : enb (lvB c b d) (cmB c2 d g) 0 p = b 0 p := by
          rw [eb, hi, hnc]
          simp
        have hkids : ∀ t, 1 ≤ t → t ≤ c 0 0 → c 1 t = p → insB (c 1) (c 3) d t = false ∧ cmB c2 d g t = false := by
          intro t t1 t2 t3
          have hit : insB (c 1) (c 3) d t = false := by
            rw [ins_par hT t1 t2, t3, hi, decide_eq_false hq]
            rfl
          refine ⟨hit, ?_⟩
          by_cases hx : cmB c2 d g t = true
          · rw [(cin t t2 hx).2.1] at hit; cases hit
          · simpa using hx
        have hf : fstN (fun t => decide (c 1 t = p) && cmB c2 d g t) (c 0 0) 1 = 0 := by
          refine fst_0 _ _ (fun t t1 t2 => ?_)
          by_cases htp : c 1 t = p
          · rw [(hkids t t1 (by omega) htp).2]; simp
          · rw [decide_eq_false htp]; rfl
        have hex : exB (c 1) (c 3) (b 0) d p = false := by
          unfold exB
          rw [hi]; simp
        rw [if_neg (show ¬ (c 2 p = 0 ∧ fstN (fun t => decide (c 1 t = p) && cmB c2 d g t) (c 0 0) 1 ≠ 0) from fun z => z.2 hf), hex, if_neg (by decide), hact]
        unfold chK
        by_cases hc : c 2 p = 0 ∧ (p = 0 ∨ b 0 p = true)
        · rw [if_pos hc, if_pos hc]
          unfold chF
          refine fst_congr _ _ (fun t t1 t2 => ?_)
          unfold chP
          by_cases htp : c 1 t = p
          · have := hkids t t1 (by omega) htp
            rw [eb, this.1, this.2]
            simp
          · rw [decide_eq_false htp]; rfl
        · rw [if_neg hc, if_neg hc]
end CFG
