/-! the class enters -/
def ReX (ch : Nat → Nat) (k : Nat) (A : mwM) (L : mwL) (c : Nat → Nat → Nat) (b : Nat → Nat → Bool) (va : Nat → Int32) (D : Nat → Int64) (x : Nat → Int32) : Prop :=
  TrC A k (c 0 0) (c 1) (c 2) (c 3) ∧ EdC A k (c 0 1) (c 4) (c 5) (c 6) (c 7) ∧ AxC A k (c 0 2) (fun i => c (8 + i)) va ∧
  (A k 6 = sI (c 0 3) ∧ A k 10 = sI (c 0 4) ∧ A k 14 = x 0 ∧ A k 15 = x 1 ∧ A k 16 = bI (b 6 0) ∧ L (k + 34) = D) ∧
  (∀ s, s ≤ c 0 0 → A (k + 5) s = sI (c 12 s) ∧ A (k + 6) s = sI (chF (c 1) (c 2) (c 0 0) (fun _ => true) s) ∧ A (k + 8) s = sI (ch s) ∧ A (k + 9) s = sI (c 13 s)) ∧
  (∀ s, 1 ≤ s → s ≤ c 0 0 → A (k + 7) s = bI (b 0 s) ∧ A (k + 10) s = sI (c 14 s) ∧ A (k + 11) s = bI (b 1 s) ∧ A (k + 17) s = bI (b 2 s)) ∧
  (LiC A (k + 18) (riL (c 3) (c 0 0) 42) ∧ LiC A (k + 19) (faL (c 3) (c 0 0) 41)) ∧
  ∀ e, 1 ≤ e → e ≤ c 0 1 → A (k + 26) e = sI (sn (b 3 e) (b 4 e) (b 5 e))
theorem ReC_X {k : Nat} {A : mwM} {L : mwL} {c : Nat → Nat → Nat} {b : Nat → Nat → Bool} {va : Nat → Int32} {D : Nat → Int64} {x : Nat → Int32} : ReC k A L c b va D x ↔ ReX (chK c b) k A L c b va D x := Iff.rfl
theorem ReX_ch {ch ch' : Nat → Nat} {k : Nat} {A : mwM} {L : mwL} {c : Nat → Nat → Nat} {b : Nat → Nat → Bool} {va : Nat → Int32} {D : Nat → Int64} {x : Nat → Int32} (h : ReX ch k A L c b va D x) (he : ∀ s, s ≤ c 0 0 → ch s = ch' s) : ReX ch' k A L c b va D x := by
  obtain ⟨h1, h2, h3, h4, h5, h6, h7, h8⟩ := h
  exact ⟨h1, h2, h3, h4, fun s hs => by rw [← he s hs]; exact h5 s hs, h6, h7, h8⟩
theorem ck_enc {c : Nat → Nat → Nat} {d p : Nat} {g : Nat → Nat → Bool} {P : Nat → Nat} (hG : GoA c d g) (hP : CkP c g P) (hp : p ≤ c 0 0) (hk : c 2 p = 0) : P p = enc c (g 0) p := by
  obtain ⟨v1, v2, v3⟩ := hP p hp
  unfold enc
  by_cases hz : P p = 0
  · rw [hz, fst_0]
    intro j u1 u2
    by_cases hq : c 1 j = p
    · have : g 0 j = false := by
        by_cases hx : g 0 j = true
        · exact absurd hq (v3 hz j hx)
        · simpa using hx
      rw [this]; simp
    · rw [decide_eq_false hq]; rfl
  · have hw := v2 hz
    have hr := hG _ hw.1
    have hne : fstN (fun t => decide (c 1 t = p) && g 0 t) (c 0 0) 1 ≠ 0 := by
      intro q
      have := fst_n _ _ (by omega) q (P p) hr.1 (by omega)
      rw [hw.1, decide_eq_true hw.2] at this
      cases this
    have hz2 := fst_p _ _ (by omega) hne
    simp only [Bool.and_eq_true, decide_eq_true_eq] at hz2
    exact (hr.2.2.2.2.2 _ hz2.1.2 (by rw [hw.2]; exact hz2.1.1) (by rw [hw.2]; exact hk)).symm
theorem c_pickChild {fu k p u r h f : Nat} {A : mwM} {L : mwL} (hp : p ≤ 200) (hu : A (k + 12) p = sI u) (hr : A (k + 13) p = sI r) (hh : A (k + 9) p = sI h) (hf : A (k + 6) p = sI f) (hu2 : u ≤ 200) (hr2 : r ≤ 3) (hh2 : h ≤ 200) : wq (DX2_pickChild fu k (sI p) A L) (fun z => z.2 = L ∧ z.1 (k + 12) p = sI (if u ≠ 0 then u else if r ≠ 0 ∧ h ≠ 0 then h else f) ∧ ∀ b y, ¬ (b = k + 12 ∧ y = p) → z.1 b y = A b y) := by
  unfold DX2_pickChild fX2_pickChild_b42 fX2_pickChild_b71
  simp (disch := omega) only [hu, hr, hh, hf, mset_k, mset_s, mck_s, sI_nn, nn_s, sI_lt, sI_le, sI_eq, sI_ltl, sI_lel, sI_eql, sI_llt, sI_lle, sI_1, bI_0, bI_1, bI_n, mlet, mb3_s, mb2_s]
  by_cases h1 : u = 0
  · rw [if_pos h1, if_neg (show ¬ u ≠ 0 from fun z => z h1)]
    by_cases h2 : r = 0
    · rw [if_pos h2, if_pos h1, if_neg (show ¬ (r ≠ 0 ∧ h ≠ 0) from fun z => z.1 h2)]
      exact wq_some ⟨rfl, mset_s, fun b y u => mset_n u⟩
    · rw [if_neg h2]
      by_cases h3 : h = 0
      · rw [if_pos h3, if_neg (show ¬ (r ≠ 0 ∧ h ≠ 0) from fun z => z.2 h3)]
        refine wq_some ⟨rfl, mset_s, fun b y u => ?_⟩
        dsimp only
        rw [mset_n u, mset_n u]
      · rw [if_neg h3, if_pos (show r ≠ 0 ∧ h ≠ 0 from ⟨h2, h3⟩)]
        exact wq_some ⟨rfl, mset_s, fun b y u => mset_n u⟩
  · rw [if_neg h1, if_pos (show u ≠ 0 from h1), if_neg h1]
    exact wq_some ⟨rfl, hu, fun _ _ _ => rfl⟩
theorem cm_uniq {c : Nat → Nat → Nat} {d s t : Nat} {g : Nat → Nat → Bool} (hT : Tr (c 0 0) (c 1) (c 2) (c 3)) (hs : s ≤ c 0 0) (ht : t ≤ c 0 0) (h1 : cmB c d g s = true) (h2 : cmB c d g t = true) (hp : c 1 s = c 1 t) (hk : c 2 (c 1 s) = 0) : s = t := by
  have s1 := (cm_in hT s hs h1).1
  have t1 := (cm_in hT t ht h2).1
  rw [cm_S hT s1 hs] at h1
  rw [cm_S hT t1 ht] at h2
  simp only [Bool.and_eq_true, Bool.or_eq_true, decide_eq_true_eq] at h1 h2
  rw [← hp] at h2
  rcases h1.2.2 with q | q
  · omega
  · rcases h2.2.2 with w | w
    · omega
    · omega
def rcW (g : Nat → Nat → Bool) (p : Nat) (w : Bool) : Nat := (if g 1 p = true then 1 else 0) + (if w = true then 2 else 0)
theorem rc_and (a b w v : Bool) : sI ((if a = true then 1 else 0) + (if b = true then 2 else 0)) ||| (sI ((if v = true then 1 else 0) + (if w = true then 2 else 0)) &&& 2) = sI ((if a = true then 1 else 0) + (if (b || w) = true then 2 else 0)) := by cases a <;> cases b <;> cases w <;> cases v <;> decide
theorem rcW_le {g : Nat → Nat → Bool} {p : Nat} {w : Bool} : rcW g p w ≤ 3 := by
  unfold rcW
  cases g 1 p <;> cases w <;> decide
theorem rcW_0 {g : Nat → Nat → Bool} {p : Nat} {w : Bool} : (rcW g p w ≠ 0) ↔ (g 1 p || w) = true := by
  unfold rcW
  cases g 1 p <;> cases w <;> decide
def enb (b : Nat → Nat → Bool) (cm : Nat → Bool) : Nat → Nat → Bool := fun r s => if r = 0 then b 0 s || cm s else if r = 1 then b 1 s && !cm s else if r = 2 then b 2 s || cm s else b r s
def ent (c : Nat → Nat → Nat) (cm : Nat → Bool) (now : Nat) : Nat → Nat → Nat := fun i j => if i = 14 ∧ cm j = true then now else c i j
def chE (c : Nat → Nat → Nat) (cm : Nat → Bool) (ch : Nat → Nat) (p : Nat) : Nat := if c 2 p = 0 ∧ fstN (fun t => decide (c 1 t = p) && cm t) (c 0 0) 1 ≠ 0 then fstN (fun t => decide (c 1 t = p) && cm t) (c 0 0) 1 else ch p
/-- the first way through: who comes -/
theorem c_coming {fu : Nat} {A : mwM} {L : mwL} {k d : Nat} {c : Nat → Nat → Nat} {g : Nat → Nat → Bool} {P : Nat → Nat} {Q : mwM × mwL → Prop} (hf : 202 ≤ fu) (hT : Tr (c 0 0) (c 1) (c 2) (c 3)) (hC : TrC A k (c 0 0) (c 1) (c 2) (c 3)) (hG : GoA c d g) (hg : GrC A k (c 0 0) g P) (hP : CkP c g P) (hdl : d ≤ c 0 0) (hdf : ∀ s, s ≤ c 0 0 → A (k + 6) s = sI (dfl c s)) (hhi : ∀ s, s ≤ c 0 0 → A (k + 9) s = sI (c 13 s) ∧ c 13 s ≤ c 0 0) (hQ : ∀ a : mwM, (∀ s, s ≤ c 0 0 → a (k + 14) s = bI (cmB c d g s)) → (∀ b y, b ≠ k + 12 → b ≠ k + 13 → b ≠ k + 14 → a b y = A b y) → wq (fX2_enterAll_h164 fu k (sI d) fu (1, a, L)) Q) : wq (DX2_enterAll fu k (sI d) A L) Q := by
  have hN := hT.1
  have dle : ∀ s, dfl c s ≤ c 0 0 := fun s => ch_le
  unfold DX2_enterAll
  have hrl := rcN_le (g := g) (p := d)
  have hPd := (hP d hdl).1
  refine wq_b2 (c_pickChild (p := d) (u := P d) (r := rcN g d) (h := c 13 d) (f := dfl c d) (by omega) (hg d hdl).1 (hg d hdl).2 (hhi d hdl).1 (hdf d hdl) (by omega) rcN_le (by have := (hhi d hdl).2; omega)) ?_
  rintro M1 L1 ⟨y1, y2, y3⟩
  dsimp only at y1 y2 y3
  subst y1
  simp only [mlet, show (0 : Int32).toNatClampNeg = 0 from rfl]
  have edq : dqB c d g d = g 2 d := by unfold dqB; rw [if_pos rfl]
  have pkd : c 2 d = 0 → (if P d ≠ 0 then P d else if rcN g d ≠ 0 ∧ c 13 d ≠ 0 then c 13 d else dfl c d) = pkf c g d (dqB c d g d) := by
    intro hk
    unfold pkf
    rw [← ck_enc hG hP hdl hk, edq]
    have : (rcN g d ≠ 0 ∧ c 13 d ≠ 0) ↔ ((g 1 d || g 2 d) = true ∧ c 13 d ≠ 0) := by
      rw [← rcW_0]
      rfl
    simp only [this]
  have pkl : ∀ (u r h f : Nat), u ≤ c 0 0 → h ≤ c 0 0 → f ≤ c 0 0 → (if u ≠ 0 then u else if r ≠ 0 ∧ h ≠ 0 then h else f) ≤ c 0 0 := by
    intro u r h f h1 h2 h3
    split
    · exact h1
    · split
      · exact h2
      · exact h3
  refine wq_for (body := fun r z => fX2_enterAll_i17 fu k (sI d) r z.1 z.2.1 z.2.2) (fun i (a : mwM) => (sI i, a, L1)) (fun i a => 1 ≤ i ∧ (∀ s, s < i → a (k + 14) s = bI (cmB c d g s)) ∧ (∃ R : Nat → Nat, ∀ p, p ≤ c 0 0 → a (k + 12) p = sI (R p) ∧ R p ≤ c 0 0 ∧ ((p = d ∨ (p < i ∧ cmB c d g p = true)) → c 2 p = 0 → R p = pkf c g p (dqB c d g p)) ∧ (p ≠ d → ¬ (p < i ∧ cmB c d g p = true) → R p = P p)) ∧ (∀ p, p ≤ c 0 0 → ((p < i ∧ cmB c d g p = true) → a (k + 13) p = sI (rcW g p (dqB c d g p))) ∧ (¬ (p < i ∧ cmB c d g p = true) → a (k + 13) p = sI (rcN g p))) ∧ ∀ b y, b ≠ k + 12 → b ≠ k + 13 → b ≠ k + 14 → a b y = A b y) (c 0 0 + 1) ?_ ?_ (c 0 0) 1 _ fu (by omega) (by omega) ⟨Nat.le_refl _, ?_, ?_, ?_, ?_⟩
  · intro i a r hi ⟨hi1, q1, ⟨R, q2⟩, q3, q4⟩ ih
    show wq (fX2_enterAll_i17 fu k (sI d) r (sI i) a L1) _
    have aC : TrC a k (c 0 0) (c 1) (c 2) (c 3) := TrC_f hC (q4 _ _ (by omega) (by omega) (by omega)) (fun d s u1 u2 => q4 _ _ (by omega) (by omega) (by omega))
    obtain ⟨w1, w2, w3, w4, w5⟩ := hT.2.2.2.2 i hi1 (by omega)
    have hpl : c 1 i ≤ c 0 0 := by omega
    have e1 := (aC.2 i (by omega)).1
    have e2 := (aC.2 (c 1 i) hpl).2.1
    have e12 := q2 (c 1 i) hpl
    have e14 := q1 (c 1 i) w1
    have em := c_isMark (fu := fu) (L := L1) hT aC (show i ≤ c 0 0 by omega)
    have ecm := cm_S (d := d) (g := g) hT hi1 (show i ≤ c 0 0 by omega)
    -- it doesn't come
    have no : cmB c d g i = false → wq (fX2_enterAll_b101 fu k (sI d) r (sI i) (sI (c 1 i)) a L1) Q := by
      intro hcm
      unfold fX2_enterAll_b101 fX2_enterAll_b102 fX2_enterAll_b122 fX2_enterAll_b156
      simp (disch := omega) only [mck_s, sI_nn, nn_s, sI_lt, sI_le, sI_eq, sI_ltl, sI_lel, sI_eql, sI_llt, sI_lle, sI_1, bI_0, bI_1, bI_n, mlet, mb3_s, mb2_s]
      rw [if_pos trivial, if_pos trivial]
      refine ih _ ⟨by omega, fun s hs => ?_, ⟨R, fun p hp => ?_⟩, fun p hp => ?_, fun b y u1 u2 u3 => by rw [mset_k u3]; exact q4 b y u1 u2 u3⟩
      · by_cases hq : s = i
        · rw [hq, mset_s, hcm]; rfl
        · rw [mset_j hq]; exact q1 s (by omega)
      · have := q2 p hp
        rw [mset_k (by omega)]
        refine ⟨this.1, this.2.1, fun u1 u2 => this.2.2.1 ?_ u2, fun u1 u2 => this.2.2.2 u1 ?_⟩
        · rcases u1 with v | v
          · exact Or.inl v
          · right
            refine ⟨?_, v.2⟩
            by_cases hq : p = i
            · rw [hq, hcm] at v; cases v.2
            · omega
        · intro v
          exact u2 ⟨by omega, v.2⟩
      · have := q3 p hp
        rw [mset_k (by omega)]
        refine ⟨fun v => this.1 ⟨?_, v.2⟩, fun v => this.2 (fun z => v ⟨by omega, z.2⟩)⟩
        by_cases hq : p = i
        · rw [hq, hcm] at v; cases v.2
        · omega
    -- it comes
    have yes : cmB c d g i = true → wq (fX2_enterAll_b97 fu k (sI d) r (sI i) (sI (c 1 i)) a L1) Q := by
      intro hcm
      have hin := cm_in hT i (by omega) hcm
      have hid : i ≠ d := by
        have := ins_lt hT i (by omega) hin.2.1
        omega
      have r1 := (q3 i (by omega)).2 (fun z => by omega)
      have rp : a (k + 13) (c 1 i) = sI (rcW g (c 1 i) (dqB c d g (c 1 i))) := by
        have hcd : c 1 i = d ∨ cmB c d g (c 1 i) = true := by
          rw [ecm] at hcm
          simp only [Bool.and_eq_true] at hcm
          have := hcm.1
          unfold cnD at this
          by_cases hq : c 1 i = d
          · exact Or.inl hq
          · rw [if_neg hq] at this
            exact Or.inr this
        by_cases hx : cmB c d g (c 1 i) = true
        · exact (q3 _ hpl).1 ⟨w1, hx⟩
        · rcases hcd with v | v
          · have := (q3 (c 1 i) hpl).2 (fun z => hx z.2)
            rw [this, v, edq]
            rfl
          · exact absurd v hx
      have edqi := dq_S (g := g) hT hi1 (show i ≤ c 0 0 by omega) hid
      have ei := q2 i (by omega)
      have eR : R i = P i := ei.2.2.2 hid (fun z => by omega)
      have Pi := (hP i (by omega)).1
      have hhi2 := hhi i (by omega)
      unfold fX2_enterAll_b97 fX2_enterAll_b102 fX2_enterAll_b122 fX2_enterAll_b156
      simp (disch := omega) only [mset_k, r1, rp, mck_s, sI_nn, nn_s, sI_lt, sI_le, sI_eq, sI_ltl, sI_lel, sI_eql, sI_llt, sI_lle, sI_1, bI_0, bI_1, bI_n, mlet, mb3_s, mb2_s]
      rw [if_neg (by decide), if_neg (by decide)]
      have eor : sI (rcN g i) ||| (sI (rcW g (c 1 i) (dqB c d g (c 1 i))) &&& 2) = sI (rcW g i (dqB c d g i)) := by
        rw [edqi]
        exact rc_and _ _ _ _
      rw [eor]
      refine wq_b2 (c_pickChild (p := i) (u := P i) (r := rcW g i (dqB c d g i)) (h := c 13 i) (f := dfl c i) (by omega) ?_ ?_ ?_ ?_ (by omega) rcW_le (by omega)) ?_
      · rw [mset_k (by omega), mset_k (by omega), ei.1, eR]
      · rw [mset_s]
      · rw [mset_k (by omega), mset_k (by omega), q4 _ _ (by omega) (by omega) (by omega)]; exact hhi2.1
      · rw [mset_k (by omega), mset_k (by omega), q4 _ _ (by omega) (by omega) (by omega)]; exact hdf i (by omega)
      rintro M2 L2 ⟨z1, z2, z3⟩
      dsimp only at z1 z2 z3
      subst z1
      refine ih M2 ⟨by omega, fun s hs => ?_, ⟨fun p => if p = i then (if P i ≠ 0 then P i else if rcW g i (dqB c d g i) ≠ 0 ∧ c 13 i ≠ 0 then c 13 i else dfl c i) else R p, fun p hp => ?_⟩, fun p hp => ?_, fun b y u1 u2 u3 => ?_⟩
      · rw [z3 _ _ (by omega), mset_k (by omega)]
        by_cases hq : s = i
        · rw [hq, mset_s, hcm]; rfl
        · rw [mset_j hq]; exact q1 s (by omega)
      · by_cases hq : p = i
        · subst hq
          dsimp only
          rw [if_pos rfl]
          refine ⟨z2, pkl _ _ _ _ Pi hhi2.2 (dle _), fun _ hk => ?_, fun _ v => absurd ⟨by omega, hcm⟩ v⟩
          unfold pkf
          rw [← ck_enc hG hP hp hk]
          have : (rcW g p (dqB c d g p) ≠ 0 ∧ c 13 p ≠ 0) ↔ ((g 1 p || dqB c d g p) = true ∧ c 13 p ≠ 0) := by rw [rcW_0]
          simp only [this]
        · dsimp only
          rw [if_neg hq, z3 _ _ (by omega), mset_k (by omega), mset_k (by omega)]
          have := q2 p hp
          refine ⟨this.1, this.2.1, fun u1 u2 => this.2.2.1 ?_ u2, fun u1 u2 => this.2.2.2 u1 (fun v => u2 ⟨by omega, v.2⟩)⟩
          rcases u1 with v | v
          · exact Or.inl v
          · exact Or.inr ⟨by omega, v.2⟩
      · by_cases hq : p = i
        · subst hq
          rw [z3 _ _ (by omega), mset_s]
          exact ⟨fun _ => rfl, fun v => absurd ⟨by omega, hcm⟩ v⟩
        · rw [z3 _ _ (by omega), mset_j hq, mset_k (by omega)]
          have := q3 p hp
          exact ⟨fun v => this.1 ⟨by omega, v.2⟩, fun v => this.2 (fun z => v ⟨by omega, z.2⟩)⟩
      · rw [z3 _ _ (by omega), mset_k u2, mset_k u3]; exact q4 b y u1 u2 u3
    have decider : ∀ (s0 : Int32) (wn : Bool), s0 = bI wn → (cnD c d g (c 1 i) = true → wn = (decide (c 2 (c 1 i) = 1) || decide (pkf c g (c 1 i) (dqB c d g (c 1 i)) = i))) → wq (fX2_enterAll_b64 fu k (sI d) r (sI i) (sI (c 1 i)) s0 a L1) Q := by
      intro s0 wn hs0 hwn
      unfold fX2_enterAll_b64
      rw [hs0]
      simp (disch := omega) only [em, e14, mck_s, sI_nn, nn_s, sI_lt, sI_le, sI_eq, sI_ltl, sI_lel, sI_eql, sI_llt, sI_lle, sI_1, bI_0, bI_1, bI_n, mlet, mb3_s, mb2_s]
      unfold cnD at ecm hwn
      by_cases hm : 2 ≤ c 2 i
      · rw [if_neg (by simp [hm])]
        exact no (by rw [ecm, decide_eq_false (show ¬ c 2 i ≤ 1 by omega)]; simp)
      rw [if_pos (by simp [hm])]
      rw [decide_eq_true (show c 2 i ≤ 1 by omega), Bool.true_and] at ecm
      cases wn with
      | false =>
        rw [if_pos rfl]
        refine no ?_
        rw [ecm]
        by_cases hx : (if c 1 i = d then true else cmB c d g (c 1 i)) = true
        · rw [← hwn hx]; simp
        · simp only [Bool.not_eq_true] at hx
          rw [hx]; rfl
      | true =>
        rw [if_neg (by decide)]
        by_cases hq : c 1 i = d
        · rw [if_pos hq]
          rw [if_pos hq] at ecm hwn
          exact yes (by rw [ecm, ← hwn rfl]; rfl)
        · rw [if_neg hq]
          rw [if_neg hq] at ecm hwn
          cases hx : cmB c d g (c 1 i) with
          | true =>
            rw [if_pos rfl]
            exact yes (by rw [ecm, hx, ← hwn hx]; rfl)
          | false =>
            rw [if_neg (by decide)]
            exact no (by rw [ecm, hx]; rfl)
    unfold fX2_enterAll_i17 fX2_enterAll_b59
    simp (disch := omega) only [aC.1, e1, e2, e12.1, mck_s, sI_nn, nn_s, sI_lt, sI_le, sI_eq, sI_ltl, sI_lel, sI_eql, sI_llt, sI_lle, sI_1, bI_0, bI_1, bI_n, mlet, mb3_s, mb2_s]
    rw [if_neg (by omega)]
    by_cases hk1 : c 2 (c 1 i) = 1
    · rw [if_pos hk1]
      exact decider 1 true rfl (fun _ => by rw [decide_eq_true hk1]; rfl)
    · rw [if_neg hk1]
      have hk0 : c 2 (c 1 i) = 0 := by omega
      have hRp : cnD c d g (c 1 i) = true → R (c 1 i) = pkf c g (c 1 i) (dqB c d g (c 1 i)) := by
        intro hx
        refine e12.2.2.1 ?_ hk0
        unfold cnD at hx
        by_cases hq : c 1 i = d
        · exact Or.inl hq
        · rw [if_neg hq] at hx
          exact Or.inr ⟨w1, hx⟩
      have hRl := e12.2.1
      by_cases hR : R (c 1 i) = i
      · rw [if_pos hR]
        exact decider 1 true rfl (fun hx => by rw [← hRp hx, decide_eq_true hR]; simp)
      · rw [if_neg hR]
        exact decider 0 false rfl (fun hx => by rw [← hRp hx, decide_eq_false hR, decide_eq_false hk1]; rfl)
  · intro a r ⟨_, q1, _, _, q4⟩
    show wq (fX2_enterAll_i17 fu k (sI d) r (sI (c 0 0 + 1)) a L1) _
    unfold fX2_enterAll_i17
    rw [q4 _ _ (by omega) (by omega) (by omega), hC.1, if_pos (by rw [sI_lt (by omega) (by omega)]; omega)]
    exact hQ a (fun s hs => q1 s (by omega)) q4
  · intro s hs
    have : s = 0 := by omega
    rw [this, mset_s, cm_0 hT]
    rfl
  · refine ⟨fun p => if p = d then (if P d ≠ 0 then P d else if rcN g d ≠ 0 ∧ c 13 d ≠ 0 then c 13 d else dfl c d) else P p, fun p hp => ?_⟩
    dsimp only
    have hno : ¬ (p < 1 ∧ cmB c d g p = true) := by
      intro z
      have : p = 0 := by omega
      rw [this, cm_0 hT] at z
      cases z.2
    rw [mset_k (by omega)]
    by_cases hq : p = d
    · subst hq
      rw [if_pos rfl]
      exact ⟨y2, pkl _ _ _ _ hPd (hhi p hp).2 (dle _), fun _ hk => pkd hk, fun v => absurd rfl v⟩
    · rw [if_neg hq, y3 _ _ (by omega)]
      refine ⟨(hg p hp).1, (hP p hp).1, fun u _ => ?_, fun _ _ => rfl⟩
      rcases u with v | v
      · exact absurd v hq
      · exact absurd v hno
  · intro p hp
    have hno : ¬ (p < 1 ∧ cmB c d g p = true) := by
      intro z
      have : p = 0 := by omega
      rw [this, cm_0 hT] at z
      cases z.2
    rw [mset_k (by omega), y3 _ _ (by omega)]
    exact ⟨fun z => absurd z hno, fun _ => (hg p hp).2⟩
  · intro b y u1 u2 u3
    rw [mset_k u3, y3 _ _ (by omega)]
