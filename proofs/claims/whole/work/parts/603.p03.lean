/-! steps until nothing is to be done on a core -/
theorem m_atHand {fu : Nat} {M : mwM} {L : mwL} (hf : 1 ≤ fu) (h : M 787 35 = 0) : DX15_atHand fu M L = some (-1, M, L) := by
  obtain ⟨f, rfl⟩ : ∃ f, fu = f + 1 := ⟨fu - 1, by omega⟩
  unfold DX15_atHand fX15_atHand_h4
  rw [mloop_S]
  show fX15_atHand_i4 (f + 1) _ (-1) 0 M L = _
  unfold fX15_atHand_i4
  rw [h, if_pos (by decide)]
/-- what one step does behind the choice (A1, M1: the memories behind it) -/
theorem m_step {fu : Nat} {M M1 A1 : mwM} {L : mwL} {T C tn cn U c : Nat} {b : Option Nat} (hf : 33 ≤ fu) (hc : c < 6) (h35 : M 787 35 = 0) (hch : DX15_choose fu (sI c) M L = some (oM b, M1, L)) (h : RC A1 M1 L T C tn cn U) (hb : ∀ x, b = some x → x < T ∧ A1 12 x = 2) : (b = none → DX15_step fu (sI c) M L = some (0, M1, L)) ∧ (∀ x, b = some x → A1 13 x ≠ 0 → DX15_step fu (sI c) M L = some (0, M1, L)) ∧ (∀ x, b = some x → A1 13 x = 0 → DX15_step fu (sI c) M L = mb2 (DX15_ends fu (sI (x + 1)) M1 L) (fun M20 L21 => some (1, M20, L21))) := by
  have h13 : DX15_step fu (sI c) M L = fX15_step_b13 fu (sI c) M L := by
    unfold DX15_step
    by_cases h0 : c = 0
    · rw [if_pos (by rw [h0]; rfl), m_atHand (by omega) h35, mb3_s, if_pos (by decide)]
    · rw [if_neg (by rw [sI_eql (by omega) (by decide)]; exact h0)]
  rw [h13]
  unfold fX15_step_b13 fX15_step_b41 fX15_step_b64 fX15_step_b93
  rw [hch, mb3_s]
  obtain ⟨hT, hC, _, hcn, a3, m1, m7, m0, a4, l21, m29, m35, hh, hg, m39, ht1, hchn⟩ := h
  refine ⟨?_, ?_, ?_⟩
  · intro hn
    rw [hn, if_pos (show oM none = 0 from rfl)]
  · intro x hx hlf0
    obtain ⟨hxT, h12⟩ := hb x hx
    obtain ⟨rk, co, pe, mi, nx, st, lf, wa, tu, us, dn, q1, q2, q3⟩ := ht1 x hxT
    have hst : st = 2 := by
      rw [q2.2.2.2.2.2.1] at h12
      exact (sI_eq (a := st) (b := 2) (by have := q1.2.2.2.2.2.2.2.1; omega) (by omega)).mp h12
    have hlf : lf ≠ 0 := by
      intro q
      apply hlf0
      rw [q2.2.2.2.2.2.2.1, q]; rfl
    have hlr := (q3.2.2.2.2.2.2.2.2.2.2.2.2 (by omega)).2
    rw [hx]
    rw [show oM (some x) = sI (x + 1) from rfl]
    rw [if_neg (by rw [sI_eql (by omega) (by decide)]; exact Nat.succ_ne_zero _), mck_s (by omega) (by omega), sI_nn (by omega)]
    have hpart : ∀ k, k < T → M1 793 k = sI (k + 1) := by
      intro k hk
      obtain ⟨_, _, _, _, _, _, _, _, _, _, _, _, _, u3⟩ := ht1 k hk
      exact u3.2.2.2.2.1
    rcases hlr with ⟨u1, u2, u3⟩ | ⟨u1, u2, u3, u4⟩ | ⟨u1, u2, u3, u4, u5⟩ | ⟨u1, u2, u3⟩
    · rw [u1, if_neg (by decide)]
    · rw [u1, if_pos rfl, mck_s (by omega) (by omega), q3.2.2.2.2.2.2.2.2.2.2.1, if_pos (by decide), m_nextPart (nx := 0) (by omega) hT hxT m7 hpart u2 (by decide), mb3_s]
      first | rw [if_pos rfl] | skip
      rw [if_neg (by rw [sI_ltl (by omega) (by decide)]; exact Nat.not_lt_zero _), mck_s (by omega) (by omega), sI_nn (by omega), q3.2.2.2.2.2.1, if_pos rfl]
    · rw [u1, if_pos rfl, mck_s (by omega) (by omega), q3.2.2.2.2.2.2.2.2.2.2.1, if_pos (by decide), m_nextPart (nx := 0) (by omega) hT hxT m7 hpart u2 (by decide), mb3_s]
      first | rw [if_pos rfl] | skip
      rw [if_neg (by rw [sI_ltl (by omega) (by decide)]; exact Nat.not_lt_zero _), mck_s (by omega) (by omega), sI_nn (by omega), q3.2.2.2.2.2.1, if_pos rfl]
    · exact absurd u3 hlf
  · intro x hx hlf0
    obtain ⟨hxT, h12⟩ := hb x hx
    obtain ⟨rk, co, pe, mi, nx, st, lf, wa, tu, us, dn, q1, q2, q3⟩ := ht1 x hxT
    have hst : st = 2 := by
      rw [q2.2.2.2.2.2.1] at h12
      exact (sI_eq (a := st) (b := 2) (by have := q1.2.2.2.2.2.2.2.1; omega) (by omega)).mp h12
    have hlf : lf = 0 := by
      rw [q2.2.2.2.2.2.2.1] at hlf0
      exact (sI_eq (a := lf) (b := 0) (by have := q1.2.2.2.2.2.2.2.2.1; have := q1.2.2.2.2.2.1; omega) (by omega)).mp hlf0
    have hmi := q1.2.2.2.2.1
    have hlr := (q3.2.2.2.2.2.2.2.2.2.2.2.2 (by omega)).2
    rw [hx]
    rw [show oM (some x) = sI (x + 1) from rfl]
    rw [if_neg (by rw [sI_eql (by omega) (by decide)]; exact Nat.succ_ne_zero _), mck_s (by omega) (by omega), sI_nn (by omega)]
    have hpart : ∀ k, k < T → M1 793 k = sI (k + 1) := by
      intro k hk
      obtain ⟨_, _, _, _, _, _, _, _, _, _, _, _, _, u3⟩ := ht1 k hk
      exact u3.2.2.2.2.1
    rcases hlr with ⟨u1, u2, u3⟩ | ⟨u1, u2, u3, u4⟩ | ⟨u1, u2, u3, u4, u5⟩ | ⟨u1, u2, u3⟩
    · omega
    · omega
    · omega
    · rw [u1, if_pos rfl, mck_s (by omega) (by omega), q3.2.2.2.2.2.2.2.2.2.2.1, if_pos (by decide), m_nextPart (nx := 1) (by omega) hT hxT m7 hpart u2 (by decide), mb3_s]
      rw [show (if (1 : Nat) = 0 then sI x else -1) = (-1 : Int32) from rfl, if_pos (by decide), if_neg (by decide)]
/-- the jobs on a core that have nothing left -/
def nend (A : mwM) (c T : Nat) : Nat := cnt (fun i => decide (A 8 i = sI c ∧ A 12 i ≠ 0 ∧ A 13 i = 0)) T
theorem cnt_lt {p q : Nat → Bool} {n x : Nat} (hx : x < n) (h1 : p x = false) (h2 : q x = true) (h : ∀ i, i < n → p i = true → q i = true) : cnt p n < cnt q n := by
  induction n with
  | zero => omega
  | succ n ih =>
    have mono : ∀ m, m ≤ n → cnt p m ≤ cnt q m := by
      intro m
      induction m with
      | zero => intro _; exact Nat.le_refl _
      | succ m ihm =>
        intro hm
        have := ihm (by omega)
        show cnt p m + (if p m then 1 else 0) ≤ cnt q m + (if q m then 1 else 0)
        by_cases hp : p m = true
        · rw [if_pos hp, if_pos (h m (by omega) hp)]; omega
        · rw [if_neg hp]; split <;> omega
    show cnt p n + (if p n then 1 else 0) < cnt q n + (if q n then 1 else 0)
    by_cases hxn : x = n
    · subst hxn
      have := mono x (Nat.le_refl _)
      rw [h1, h2]
      simp
      omega
    · have := ih (by omega) (fun i hi => h i (by omega))
      by_cases hp : p n = true
      · rw [if_pos hp, if_pos (h n (by omega) hp)]; omega
      · rw [if_neg hp]; split <;> omega
theorem nend_ch {A : mwM} {c T : Nat} {w b : Option Nat} (hw : ∀ x, w = some x → A 12 x ≠ 0) (hb : ∀ x, b = some x → A 12 x ≠ 0) : nend (chA A c w b) c T = nend A c T := by
  apply cnt_congr
  intro i _
  rw [chA_f (a := 8) (by decide) (by omega), chA_f (a := 13) (by decide) (by omega), chA_12]
  by_cases e1 : b = some i
  · rw [if_pos e1]
    have := hb i e1
    simp [this]
  · rw [if_neg e1]
    by_cases e2 : w = some i
    · rw [if_pos e2]
      have := hw i e2
      simp [this]
    · rw [if_neg e2]
theorem nend_end {A : mwM} {c T i mi wa : Nat} (hi : i < T) (h8 : A 8 i = sI c) (h12 : A 12 i ≠ 0) (h13 : A 13 i = 0) (h10 : A 10 i = sI mi) (hmi : mi ≤ 1000) (h14 : A 14 i = sI wa) (hwa : wa < 2) : nend (endA A c i) c T < nend A c T := by
  apply cnt_lt hi
  · -- it has ended
    have hw01 : wa = 0 ∨ wa = 1 := by omega
    rcases hw01 with hw | hw
    · have : endA A c i 12 i = 0 := by
        unfold endA
        rw [if_pos (by rw [h14, hw]; rfl), mset_k (by decide), mset_s]
      simp [this]
    · have : ¬ endA A c i 13 i = 0 := by
        unfold endA
        rw [if_neg (by rw [h14, hw]; decide), mset_s, h10, sI_1, sI_eql (by omega) (by decide)]
        exact Nat.succ_ne_zero _
      simp [this]
  · simp [h8, h12, h13]
  · intro x _ hx
    by_cases hxi : x = i
    · subst hxi; simp [h8, h12, h13]
    · rw [endA_f (by omega) (by omega) (by omega), endA_f (by omega) (by omega) (by omega), endA_f (by omega) (by omega) (by omega)] at hx
      exact hx
abbrev locA (A A' : mwM) (c : Nat) : Prop := (∀ b y, b ≠ 5 → ¬ (12 ≤ b ∧ b ≤ 15) → ¬ (b = 18 ∧ y = c) → A' b y = A b y) ∧ (∀ y, y ≠ 4 → A' 5 y = A 5 y) ∧ ∀ b x, ¬ A 8 x = sI c → 12 ≤ b → b ≤ 15 → A' b x = A b x
abbrev locM (M M' : mwM) (L L' : mwL) : Prop := (∀ b y, ¬ (b = 796 ∨ b = 798 ∨ b = 799 ∨ b = 801 ∨ b = 802 ∨ b = 804) → M' b y = M b y) ∧ ∀ b y, ¬ (b = 797 ∨ b = 800) → ¬ (b = 787 ∧ y = 21) → L' b y = L b y
theorem locA_tr {A A1 A2 : mwM} {c : Nat} (h : locA A A1 c) (h2 : locA A1 A2 c) : locA A A2 c := by
  obtain ⟨a1, a2, a3⟩ := h
  obtain ⟨b1, b2, b3⟩ := h2
  refine ⟨fun b y q1 q2 q3 => (b1 b y q1 q2 q3).trans (a1 b y q1 q2 q3), fun y q => (b2 y q).trans (a2 y q), fun b x q1 q2 q3 => ?_⟩
  have e8 : A1 8 x = A 8 x := a1 8 x (by omega) (by omega) (by omega)
  exact (b3 b x (by rw [e8]; exact q1) q2 q3).trans (a3 b x q1 q2 q3)
theorem locA_ch {A : mwM} {c T : Nat} {w b : Option Nat} (hw : ∀ x, w = some x → A 8 x = sI c) (hb : ∀ x, b = some x → A 8 x = sI c) : locA A (chA A c w b) c := by
  refine ⟨fun a y q1 q2 q3 => chA_f (by omega) q3, fun y q => chA_f (by omega) (by omega), fun a x q1 q2 q3 => ?_⟩
  by_cases h12 : a = 12
  · subst h12
    rw [chA_12, if_neg (fun q => q1 (hb x q)), if_neg (fun q => q1 (hw x q))]
  · exact chA_f h12 (by omega)
theorem locA_end {A : mwM} {c i : Nat} (h8 : A 8 i = sI c) : locA A (endA A c i) c := by
  refine ⟨fun b y q1 q2 q3 => endA_f (by omega) q3 (by omega), fun y q => endA_f (by omega) (by omega) (by omega), fun b x q1 q2 q3 => endA_f ?_ (by omega) (by omega)⟩
  rintro ⟨e, _⟩
  subst e
  exact q1 h8
theorem c_settle1 {fu : Nat} {A1 : mwM} {L : mwL} {c x v2 lf wa : Nat} {r : Int32 × mwM × mwL → Option (mwM × mwL)} {A : mwM} (hc : c < 6) (hx : x < 12) (hv : v2 ≤ 24) (hch : DX4_choose fu (sI c) A L = some (A1, L)) (h18 : A1 18 c = sI x) (h13 : A1 13 x = sI lf) (hlf : lf ≤ 2000) (h14 : A1 14 x = sI wa) (hwa : wa < 2) : fX4_settle_i2 fu (sI c) r (sI v2) A L = if lf = 0 then r (sI (v2 + 1), endA A1 c x, L) else some (A1, L) := by
  unfold fX4_settle_i2 fX4_settle_b36 fX4_settle_b83
  rw [if_neg (by rw [sI_llt (by omega) (by omega)]; omega), hch, mb2_s, mck_s (by omega) (by omega), sI_nn (by omega), h18]
  simp only [mlet]
  rw [if_neg (by rw [sI_ltl (by omega) (by decide)]; exact Nat.not_lt_zero _), mck_s (by omega) (by omega), sI_nn (by omega), h13]
  by_cases h0 : lf = 0
  · subst h0
    rw [if_pos (by decide), if_pos rfl, mck_s (by omega) (by omega), mck_s (by omega) (by omega), mck_s (by omega) (by omega), mset_k (a := 14) (by decide), mset_k (a := 14) (by decide), h14, sI_1]
    unfold endA
    have hw01 : wa = 0 ∨ wa = 1 := by omega
    rcases hw01 with hw | hw
    · rw [hw, if_pos (by decide), if_pos (by rw [h14, hw]; rfl)]
    · rw [hw, if_neg (by decide), if_neg (by rw [h14, hw]; decide), mck_s (by omega) (by omega), mck_s (by omega) (by omega), show sI 1 - 1 = 0 from by decide]
      have hr : DX4_makeReady fu (sI x) (mset (mset (mset A1 12 x 0) 18 c (-1)) 14 x 0) L = some (mset (mset (mset (mset (mset (mset (mset A1 12 x 0) 18 c (-1)) 14 x 0) 5 4 (A1 5 4 + 1)) 12 x 1) 15 x (A1 5 4 + 1)) 13 x (A1 10 x + 1), L) := by
        unfold DX4_makeReady
        simp (disch := omega) only [mlet, mck_s, sI_nn]
        rw [show mset (mset (mset A1 12 x 0) 18 c (-1)) 14 x 0 5 4 = A1 5 4 from by rw [mset_k (by decide), mset_k (by decide), mset_k (by decide)]]
        rw [show mset (mset (mset (mset (mset A1 12 x 0) 18 c (-1)) 14 x 0) 5 4 (A1 5 4 + 1)) 12 x 1 5 4 = A1 5 4 + 1 from by rw [mset_k (by decide), mset_s]]
        rw [show mset (mset (mset (mset (mset (mset A1 12 x 0) 18 c (-1)) 14 x 0) 5 4 (A1 5 4 + 1)) 12 x 1) 15 x (A1 5 4 + 1) 10 x = A1 10 x from by rw [mset_k (by decide), mset_k (by decide), mset_k (by decide), mset_k (by decide), mset_k (by decide), mset_k (by decide)]]
      rw [hr, mb2_s]
  · rw [if_neg (by rw [sI_lel (by omega) (by decide)]; exact fun q => h0 (Nat.le_zero.mp q)), if_neg h0]
theorem RC_tn {A M M2 : mwM} {L L2 : mwL} {T C tn cn U tn2 cn2 : Nat} (h : RC A M L T C tn cn U) (h2 : RC A M2 L2 T C tn2 cn2 U) : tn2 = tn := by
  obtain ⟨_, _, b1, _, _, _, _, _, e1, _⟩ := h
  obtain ⟨_, _, b2, _, _, _, _, _, e2, _⟩ := h2
  rw [e1] at e2
  exact ((sI_eq (by omega) (by omega)).mp e2).symm
theorem oI_inj {w b : Option Nat} {T : Nat} (hT : T ≤ 12) (hw : ∀ x, w = some x → x < T) (hb : ∀ x, b = some x → x < T) (h : oI w = oI b) : w = b := by
  cases w with
  | none =>
    cases b with
    | none => rfl
    | some y =>
      have hy := hb y rfl
      have e2 : (-1 : Int32) = sI y := h
      have := m1_lt (b := y) (by omega)
      rw [← e2] at this
      exact absurd this (by decide)
  | some x =>
    have hx := hw x rfl
    cases b with
    | none =>
      have e2 : sI x = (-1 : Int32) := h
      have := m1_lt (b := x) (by omega)
      rw [e2] at this
      exact absurd this (by decide)
    | some y =>
      have hy := hb y rfl
      have e2 : sI x = sI y := h
      rw [(sI_eq (by omega) (by omega)).mp e2]
theorem st_settle {fu : Nat} {Lc : mwL} {T C cn U c : Nat} (hf : 33 ≤ fu) (hc : c < 6) : ∀ (n : Nat) (A : mwM) (tn v2 f : Nat), nend A c T ≤ n → v2 + n ≤ 24 → n < f → tn + n < 100000000 → (∃ M L, RC A M L T C tn cn U) → ∃ A' b' tn', fX4_settle_h2 fu (sI c) f (sI v2, A, Lc) = some (A', Lc) ∧ tn ≤ tn' ∧ tn' ≤ tn + n ∧ stl A' c T b' ∧ (∀ x, b' = some x → x < T ∧ A' 13 x ≠ 0) ∧ locA A A' c ∧ (∃ M0 L0, RC A' M0 L0 T C tn' cn U) ∧ ∀ (M : mwM) (L : mwL) (f2 : Nat), n < f2 → RC A M L T C tn cn U → ∀ (v1 : Int32) (r42 : Int32 × mwM × mwL → Option (Int32 × mwM × mwL)) (r50 : Int32 × Int32 × mwM × mwL → Option (Int32 × mwM × mwL)) (Q : Int32 × mwM × mwL → Prop), (∀ v1' M' L', (v1' = v1 ∨ v1' = 1) → RC A' M' L' T C tn' cn U → locM M M' L L' → wq (r50 (v1', sI (c + 1), M', L')) Q) → wq (fX15_microsecond_h58 fu r42 r50 f2 (v1, sI c, M, L)) Q := by
  intro n
  induction n using Nat.strongRecOn with
  | ind n ih =>
    intro A tn v2 f hn hv hf1 htn ⟨Mx, Lx, h⟩
    obtain ⟨g, rfl⟩ : ∃ g, f = g + 1 := ⟨f - 1, by omega⟩
    have hT := h.1
    obtain ⟨w, b, v1, v2', v3, hb, hbc, hcA, hcM, hR1⟩ := st_choose (Lc := Lc) hf h hc
    have hw8 : ∀ x, w = some x → A 8 x = sI c := fun x hx => ((v3 x (v2' x hx)).mpr hx).1
    have hw12 : ∀ x, w = some x → A 12 x ≠ 0 := fun x hx => by rw [((v3 x (v2' x hx)).mpr hx).2]; decide
    have hb12 : ∀ x, b = some x → A 12 x ≠ 0 := by
      intro x hx
      rcases bsN_st T x (hb ▸ hx) with hw | ⟨hq, _⟩
      · exact hw12 x hw
      · rw [hq]; decide
    have hstl : stl (chA A c w b) c T b := by rw [hb]; exact stl_choose v3 v2'
    have hloc : locA A (chA A c w b) c := locA_ch (T := T) hw8 (fun x hx => (hbc x hx).2)
    have hne : nend (chA A c w b) c T = nend A c T := nend_ch hw12 hb12
    -- the reference's side of the choice, at any memory that fits
    have mod : ∀ (M : mwM) (L : mwL), RC A M L T C tn cn U → RC (chA A c w b) (chM M w b) L T C tn cn U ∧ locM M (chM M w b) L L ∧ (b = none → DX15_step fu (sI c) M L = some (0, chM M w b, L)) ∧ (∀ x, b = some x → chA A c w b 13 x ≠ 0 → DX15_step fu (sI c) M L = some (0, chM M w b, L)) ∧ (∀ x, b = some x → chA A c w b 13 x = 0 → DX15_step fu (sI c) M L = mb2 (DX15_ends fu (sI (x + 1)) (chM M w b) L) (fun M20 L21 => some (1, M20, L21))) := by
      intro M L hR
      obtain ⟨w', b', u1, u2, u3, ub, ubc, ucA, ucM, uR⟩ := st_choose (Lc := Lc) hf hR hc
      have ew : w' = w := oI_inj hT u2 v2' (by rw [← u1, v1])
      subst ew
      have eb : b' = b := by rw [ub, hb]
      subst eb
      have h35 : M 787 35 = 0 := hR.2.2.2.2.2.2.2.2.2.2.2.1
      obtain ⟨s1, s2, s3⟩ := m_step hf hc h35 ucM uR (fun x hx => ⟨(ubc x hx).1, by rw [chA_12, if_pos hx]⟩)
      exact ⟨uR, ⟨fun a y q => chM_f (by omega) (by omega), fun _ _ _ _ => rfl⟩, s1, s2, s3⟩
    cases hbb : b with
    | none =>
      rw [hbb] at hcA hR1 hstl hloc mod
      refine ⟨chA A c w none, none, tn, ?_, Nat.le_refl _, by omega, hstl, (fun x hx => by cases hx), hloc, ⟨_, _, hR1⟩, ?_⟩
      · unfold fX4_settle_h2
        rw [mloop_S]
        show fX4_settle_i2 fu (sI c) _ (sI v2) A Lc = _
        unfold fX4_settle_i2 fX4_settle_b36
        rw [if_neg (by rw [sI_llt (by omega) (by omega)]; omega), hcA, mb2_s, mck_s (by omega) (by omega), sI_nn (by omega), chA_18]
        rfl
      · intro M L f2 hf2 hR v1' r42 r50 Q hQ
        obtain ⟨g2, rfl⟩ : ∃ g2, f2 = g2 + 1 := ⟨f2 - 1, by omega⟩
        obtain ⟨p1, p2, s1, _, _⟩ := mod M L hR
        unfold fX15_microsecond_h58
        rw [mloop_S]
        show wq (fX15_microsecond_i58 fu r42 r50 _ v1' (sI c) M L) _
        unfold fX15_microsecond_i58
        rw [s1 rfl, mb3_s, if_pos rfl]
        simp only [mlet]
        rw [sI_1]
        exact hQ v1' _ _ (Or.inl rfl) p1 p2
    | some x =>
      have hx := hbc x hbb
      rw [hbb] at hcA hR1 hstl hloc mod hne
      have hRC1 := hR1
      obtain ⟨_, _, _, _, _, _, _, _, _, _, _, _, _, _, _, ht1', _⟩ := hRC1
      obtain ⟨rk, co, pe, mi, nx, st, lf, wa, tu, us, dn, q1, q2, q3⟩ := ht1' x hx.1
      obtain ⟨w1, w2, w3, w4, w5, w6, w7, w8, w9, w10, w11, w12, w13, w14, w15, w16⟩ := q1
      obtain ⟨k1, k2, k3, k4, k5, k6, k7, k8, k9, k10, k11⟩ := q2
      have hcs := c_settle1 (r := fX4_settle_h2 fu (sI c) g) hc (show x < 12 by omega) (show v2 ≤ 24 by omega) hcA chA_18 k7 (by omega) k8 w10
      by_cases h0 : lf = 0
      · subst h0
        rw [if_pos rfl] at hcs
        have e8 : chA A c w (some x) 8 x = sI c := by rw [chA_f (by decide) (by omega)]; exact hx.2
        have e12 : chA A c w (some x) 12 x = 2 := by rw [chA_12, if_pos rfl]
        have hlt := nend_end (A := chA A c w (some x)) hx.1 e8 (by rw [e12]; decide) k7 k4 w6 k8 w10
        obtain ⟨M2, L2, tn2, he, t1, t2, hR2, _, _⟩ := st_end hf hR1 (by omega) hc hx.1 e8 e12 k7
        obtain ⟨A', b', tn', i1, i2, i3, i4, i5, i6, i7, i8⟩ := ih (n - 1) (by omega) (endA (chA A c w (some x)) c x) tn2 (v2 + 1) g (by omega) (by omega) (by omega) (by omega) ⟨M2, L2, hR2⟩
        refine ⟨A', b', tn', ?_, by omega, by omega, i4, i5, locA_tr (locA_tr hloc (locA_end e8)) i6, i7, ?_⟩
        · unfold fX4_settle_h2
          rw [mloop_S]
          show fX4_settle_i2 fu (sI c) (fX4_settle_h2 fu (sI c) g) (sI v2) A Lc = _
          rw [hcs]
          exact i1
        · intro M L f2 hf2 hR v1' r42 r50 Q hQ
          obtain ⟨g2, rfl⟩ : ∃ g2, f2 = g2 + 1 := ⟨f2 - 1, by omega⟩
          obtain ⟨p1, p2, _, _, s3⟩ := mod M L hR
          obtain ⟨M3, L3, tn3, he3, _, _, hR3, f1, f2'⟩ := st_end hf p1 (by omega) hc hx.1 e8 e12 k7
          have etn : tn3 = tn2 := RC_tn hR2 hR3
          subst etn
          unfold fX15_microsecond_h58
          rw [mloop_S]
          show wq (fX15_microsecond_i58 fu r42 r50 (fX15_microsecond_h58 fu r42 r50 g2) v1' (sI c) M L) _
          unfold fX15_microsecond_i58
          rw [s3 x rfl k7, he3, mb2_s, mb3_s, if_neg (by decide)]
          refine i8 M3 L3 g2 (by omega) hR3 1 r42 r50 Q ?_
          intro v1'' M' L' hv1 hRR hlo
          refine hQ v1'' M' L' (Or.inr (by rcases hv1 with h | h <;> exact h)) hRR ⟨?_, ?_⟩
          · intro b y q
            rw [hlo.1 b y q, f1 b y (by omega), p2.1 b y q]
          · intro b y q1' q2'
            rw [hlo.2 b y q1' q2', f2' b y (by omega) q2']
      · rw [if_neg h0] at hcs
        have hnz : chA A c w (some x) 13 x ≠ 0 := by
          rw [k7]
          intro q
          exact h0 ((sI_eq (a := lf) (b := 0) (by omega) (by omega)).mp q)
        refine ⟨chA A c w (some x), some x, tn, ?_, Nat.le_refl _, by omega, hstl, ?_, hloc, ⟨_, _, hR1⟩, ?_⟩
        · unfold fX4_settle_h2
          rw [mloop_S]
          show fX4_settle_i2 fu (sI c) (fX4_settle_h2 fu (sI c) g) (sI v2) A Lc = _
          exact hcs
        · intro y hy
          injection hy with hy
          subst hy
          exact ⟨hx.1, hnz⟩
        · intro M L f2 hf2 hR v1' r42 r50 Q hQ
          obtain ⟨g2, rfl⟩ : ∃ g2, f2 = g2 + 1 := ⟨f2 - 1, by omega⟩
          obtain ⟨p1, p2, _, s2, _⟩ := mod M L hR
          unfold fX15_microsecond_h58
          rw [mloop_S]
          show wq (fX15_microsecond_i58 fu r42 r50 _ v1' (sI c) M L) _
          unfold fX15_microsecond_i58
          rw [s2 x rfl hnz, mb3_s, if_pos rfl]
          simp only [mlet]
          rw [sI_1]
          exact hQ v1' _ _ (Or.inl rfl) p1 p2
/-! a core on which nothing is to be done -/
theorem mset_id {M : mwM} {a j : Nat} {x : Int32} (h : M a j = x) : mset M a j x = M := by
  funext b y
  by_cases hq : b = a ∧ y = j
  · rw [hq.1, hq.2, mset_s, h]
  · rw [mset_n hq]
theorem mset_mset {M : mwM} {a j : Nat} {x z : Int32} : mset (mset M a j x) a j z = mset M a j z := by
  funext b y
  by_cases hq : b = a ∧ y = j
  · rw [hq.1, hq.2, mset_s, mset_s]
  · rw [mset_n hq, mset_n hq, mset_n hq]
theorem chM_id {M : mwM} {b : Option Nat} (h : ∀ x, b = some x → M 796 (x + 1) = 2 ∧ M 804 (x + 1) = 0) : chM M b b = M := by
  unfold chM
  cases b with
  | none => rfl
  | some x =>
    obtain ⟨h1, h2⟩ := h x rfl
    have hb : vp_nar .boolean 0 = (0 : Int32) := bo_0
    simp only []
    rw [mset_mset, hb, mset_id h2, mset_id h1]
theorem chA_id {A : mwM} {c : Nat} {b : Option Nat} (h18 : A 18 c = oI b) (h : ∀ x, b = some x → A 12 x = 2) : chA A c b b = A := by
  unfold chA
  cases b with
  | none => exact mset_id h18
  | some x =>
    simp only []
    rw [mset_mset, mset_id (h x rfl), mset_id h18]
theorem m_idle {fu : Nat} {A M : mwM} {L : mwL} {T C tn cn U c : Nat} {b : Option Nat} (hf : 33 ≤ fu) (h : RC A M L T C tn cn U) (hc : c < 6) (hs : stl A c T b) (hb : ∀ x, b = some x → x < T) : (∀ x, b = some x → A 8 x = sI c ∧ A 12 x = 2) ∧ DX15_choose fu (sI c) M L = some (oM b, M, L) ∧ ((∀ x, b = some x → A 13 x ≠ 0) → DX15_step fu (sI c) M L = some (0, M, L)) := by
  obtain ⟨w, b', v1, v2, v3, hb', hbc, hcA, hcM, hR⟩ := st_choose (Lc := L) hf h hc
  have hT := h.1
  have hwb : w = b := oI_inj hT v2 hb (by rw [← v1, hs.1])
  subst hwb
  have hbb : b' = w := by rw [hb']; exact stl_bsN hs T (Nat.le_refl _)
  subst hbb
  have h12 : ∀ x, b' = some x → A 8 x = sI c ∧ A 12 x = 2 := fun x hx => (v3 x (v2 x hx)).mpr hx
  have hM2 : chM M b' b' = M := by
    apply chM_id
    intro x hx
    obtain ⟨_, _, _, _, _, _, _, _, _, _, _, _, _, _, _, ht1, _⟩ := h
    obtain ⟨rk, co, pe, mi, nx, st, lf, wa, tu, us, dn, q1, q2, q3⟩ := ht1 x (v2 x hx)
    have := (h12 x hx).2
    rw [q2.2.2.2.2.2.1] at this
    exact ⟨q3.2.2.2.2.2.2.2.1.trans this, q3.2.2.2.2.2.2.2.2.2.1⟩
  have hA2 : chA A c b' b' = A := chA_id v1 (fun x hx => (h12 x hx).2)
  rw [hM2] at hcM
  refine ⟨h12, hcM, ?_⟩
  intro hlf
  have h35 : M 787 35 = 0 := h.2.2.2.2.2.2.2.2.2.2.2.1
  obtain ⟨s1, s2, _⟩ := m_step hf hc h35 hcM h (fun x hx => ⟨v2 x hx, (h12 x hx).2⟩)
  cases hbb : b' with
  | none => exact s1 hbb
  | some x => exact s2 x hbb (hlf x hbb)
theorem stl_loc {A A' : mwM} {c c' T : Nat} {b : Option Nat} (hc : c < 6) (hc' : c' < 6) (hne : c ≠ c') (hl : locA A A' c') (hs : stl A c T b) (hb : ∀ x, b = some x → A 8 x = sI c) : stl A' c T b ∧ ∀ x, b = some x → A' 13 x = A 13 x := by
  obtain ⟨l1, l2, l3⟩ := hl
  have hn : ∀ x, A 8 x = sI c → ¬ A 8 x = sI c' := by
    intro x q1 q2
    rw [q1] at q2
    exact hne ((sI_eq (by omega) (by omega)).mp q2)
  refine ⟨⟨by rw [l1 _ _ (by omega) (by omega) (by omega)]; exact hs.1, ?_⟩, ?_⟩
  · intro x hx h8 h12
    rw [l1 8 x (by omega) (by omega) (by omega)] at h8
    rw [l3 12 x (hn x h8) (by omega) (by omega)] at h12
    obtain ⟨y, hy, hy2, hle⟩ := hs.2 x hx h8 h12
    refine ⟨y, hy, ?_, ?_⟩
    · rw [l3 12 y (hn y (hb y hy)) (by omega) (by omega)]; exact hy2
    · rw [l1 7 x (by omega) (by omega) (by omega), l1 7 y (by omega) (by omega) (by omega)]; exact hle
  · intro x hx
    exact l3 13 x (hn x (hb x hx)) (by omega) (by omega)
/-- the first c cores are settled -/
def SA (A : mwM) (T c : Nat) : Prop := ∀ c', c' < c → ∃ b, stl A c' T b ∧ ∀ x, b = some x → x < T ∧ A 13 x ≠ 0 ∧ A 8 x = sI c'
theorem bsN_none {A : mwM} {c T : Nat} (h : ∀ x, x < T → ¬ A 8 x = sI c) : ∀ j, j ≤ T → bsN A c none j = none := by
  intro j
  induction j with
  | zero => intro _; rfl
  | succ j ih =>
    intro hj
    unfold bsN
    rw [ih (by omega)]
    simp only []
    rw [if_neg (fun q => h j (by omega) q.1)]
theorem c_settle0 {fu : Nat} {A M : mwM} {L Lc : mwL} {T C tn cn U c : Nat} (hf : 33 ≤ fu) (h : RC A M L T C tn cn U) (hc : c < 6) (hC : C ≤ c) : DX4_settle fu (sI c) A Lc = some (A, Lc) ∧ stl A c T none := by
  obtain ⟨hT, _, _, _, a3, _, _, _, _, _, _, _, _, _, _, ht1, hch⟩ := h
  obtain ⟨w, v1, v2, v3⟩ := hch c hc
  have hno : ∀ x, x < T → ¬ A 8 x = sI c := by
    intro x hx q
    obtain ⟨rk, co, pe, mi, nx, st, lf, wa, tu, us, dn, q1, q2, q3⟩ := ht1 x hx
    rw [q2.2.1] at q
    have := (sI_eq (by have := q1.2.1; omega) (by omega)).mp q
    have := q1.2.1
    omega
  have hw : w = none := by
    cases hw' : w with
    | none => rfl
    | some x => exact absurd ((v3 x (v2 x hw')).mpr hw').1 (hno x (v2 x hw'))
  subst hw
  have hcc := c_choose (fu := fu) (L := Lc) (by omega) hc hT a3 v1 v2
  rw [bsN_none hno T (Nat.le_refl _), chA_id v1 (fun x hx => by cases hx)] at hcc
  refine ⟨?_, v1, fun x hx h8 _ => absurd h8 (hno x hx)⟩
  obtain ⟨f, rfl⟩ : ∃ f, fu = f + 1 := ⟨fu - 1, by omega⟩
  unfold DX4_settle fX4_settle_h2
  rw [mloop_S]
  show fX4_settle_i2 (f + 1) (sI c) _ 0 A Lc = _
  unfold fX4_settle_i2 fX4_settle_b36
  rw [if_neg (by decide), hcc, mb2_s, mck_s (by omega) (by omega), sI_nn (by omega), v1]
  rfl
abbrev gloA (A A' : mwM) : Prop := (∀ b y, b ≠ 5 → ¬ (12 ≤ b ∧ b ≤ 15) → b ≠ 18 → A' b y = A b y) ∧ ∀ y, y ≠ 4 → A' 5 y = A 5 y
theorem nend_le (A : mwM) (c T : Nat) : nend A c T ≤ T := cnt_le _ _
theorem st_all {fu : Nat} {Lc : mwL} {T C cn U t : Nat} (hf : 33 ≤ fu) : ∀ (m c : Nat) (A : mwM) (tn f : Nat), c + m = 6 → m < f → tn + 12 * m < 100000000 → SA A T c → (∃ M L, RC A M L T C tn cn U) → ∃ A' tn', fX4_passMicrosecond_h19 fu (sI t) f (sI c, A, Lc) = fX4_passMicrosecond_b36 fu (sI t) A' Lc ∧ tn ≤ tn' ∧ tn' ≤ tn + 12 * m ∧ SA A' T 6 ∧ gloA A A' ∧ (C ≤ c → A' = A ∧ tn' = tn) ∧ (∃ M0 L0, RC A' M0 L0 T C tn' cn U) ∧ ∀ (M : mwM) (L : mwL) (v1 : Int32) (r42 : Int32 × mwM × mwL → Option (Int32 × mwM × mwL)) (Q : Int32 × mwM × mwL → Prop) (f2 : Nat), RC A M L T C tn cn U → c ≤ C → m < f2 → (∀ v1' M' L', (v1' = v1 ∨ v1' = 1) → RC A' M' L' T C tn' cn U → locM M M' L L' → wq (r42 (v1', M', L')) Q) → wq (fX15_microsecond_h50 fu r42 f2 (v1, sI c, M, L)) Q := by
  intro m
  induction m with
  | zero =>
    intro c A tn f hc hf1 htn hSA ⟨Mx, Lx, h⟩
    have hc6 : c = 6 := by omega
    subst hc6
    obtain ⟨g, rfl⟩ : ∃ g, f = g + 1 := ⟨f - 1, by omega⟩
    refine ⟨A, tn, ?_, Nat.le_refl _, by omega, hSA, ⟨fun _ _ _ _ _ => rfl, fun _ _ => rfl⟩, fun _ => ⟨rfl, rfl⟩, ⟨Mx, Lx, h⟩, ?_⟩
    · unfold fX4_passMicrosecond_h19
      rw [mloop_S]
      show fX4_passMicrosecond_i19 fu (sI t) _ (sI 6) A Lc = _
      unfold fX4_passMicrosecond_i19
      rw [if_pos (by decide)]
    · intro M L v1 r42 Q f2 hR hcC hf2 hQ
      obtain ⟨g2, rfl⟩ : ∃ g2, f2 = g2 + 1 := ⟨f2 - 1, by omega⟩
      have hC6 := hR.2.1
      have m0 : M 787 0 = sI C := hR.2.2.2.2.2.2.2.1
      unfold fX15_microsecond_h50
      rw [mloop_S]
      show wq (fX15_microsecond_i50 fu r42 _ v1 (sI 6) M L) _
      unfold fX15_microsecond_i50
      rw [m0, if_pos (by rw [sI_le (by omega) (by omega)]; omega)]
      exact hQ v1 M L (Or.inl rfl) hR ⟨fun _ _ _ => rfl, fun _ _ _ _ => rfl⟩
  | succ m ih =>
    intro c A tn f hc hf1 htn hSA ⟨Mx, Lx, h⟩
    obtain ⟨g, rfl⟩ : ∃ g, f = g + 1 := ⟨f - 1, by omega⟩
    have hc6 : c < 6 := by omega
    have hT := h.1
    have hC6 := h.2.1
    by_cases hcC : c < C
    · -- a core with a controller
      obtain ⟨A1, b1, tn1, s1, s2, s3, s4, s5, s6, ⟨M0, L0, s7⟩, s8⟩ := st_settle (Lc := Lc) (T := T) (C := C) (cn := cn) hf hc6 12 A tn 0 fu (by have := nend_le A c T; omega) (by omega) (by omega) (by omega) ⟨Mx, Lx, h⟩
      have hSA1 : SA A1 T (c + 1) := by
        intro c' hc'
        by_cases hcc : c' = c
        · subst hcc
          obtain ⟨h12, _, _⟩ := m_idle hf s7 hc6 s4 (fun x hx => (s5 x hx).1)
          exact ⟨b1, s4, fun x hx => ⟨(s5 x hx).1, (s5 x hx).2, (h12 x hx).1⟩⟩
        · obtain ⟨b, u1, u2⟩ := hSA c' (by omega)
          obtain ⟨w1, w2⟩ := stl_loc (by omega) hc6 hcc s6 u1 (fun x hx => (u2 x hx).2.2)
          refine ⟨b, w1, fun x hx => ⟨(u2 x hx).1, ?_, ?_⟩⟩
          · rw [w2 x hx]; exact (u2 x hx).2.1
          · rw [s6.1 8 x (by omega) (by omega) (by omega)]; exact (u2 x hx).2.2
      obtain ⟨A', tn', i1, i2, i3, i4, i5, i6, i8, i7⟩ := ih (c + 1) A1 tn1 g (by omega) (by omega) (by omega) hSA1 ⟨M0, L0, s7⟩
      have hglo : gloA A A' := ⟨fun b y q1 q2 q3 => (i5.1 b y q1 q2 q3).trans (s6.1 b y q1 q2 (by omega)), fun y q => (i5.2 y q).trans (s6.2.1 y q)⟩
      refine ⟨A', tn', ?_, by omega, by omega, i4, hglo, fun q => by omega, i8, ?_⟩
      · unfold fX4_passMicrosecond_h19
        rw [mloop_S]
        show fX4_passMicrosecond_i19 fu (sI t) (fX4_passMicrosecond_h19 fu (sI t) g) (sI c) A Lc = _
        unfold fX4_passMicrosecond_i19
        rw [if_neg (by rw [sI_lle (by omega) (by omega)]; omega)]
        unfold DX4_settle
        show mb2 (fX4_settle_h2 fu (sI c) fu (sI 0, A, Lc)) _ = _
        rw [s1, mb2_s]
        simp only [mlet]
        rw [sI_1]
        exact i1
      · intro M L v1 r42 Q f2 hR hcC2 hf2 hQ
        obtain ⟨g2, rfl⟩ : ∃ g2, f2 = g2 + 1 := ⟨f2 - 1, by omega⟩
        have m0 : M 787 0 = sI C := hR.2.2.2.2.2.2.2.1
        unfold fX15_microsecond_h50
        rw [mloop_S]
        show wq (fX15_microsecond_i50 fu r42 (fX15_microsecond_h50 fu r42 g2) v1 (sI c) M L) _
        unfold fX15_microsecond_i50
        rw [m0, if_neg (by rw [sI_le (by omega) (by omega)]; omega)]
        refine s8 M L fu (by omega) hR v1 r42 (fX15_microsecond_h50 fu r42 g2) Q ?_
        intro v1' M' L' hv hR' hlo
        refine i7 M' L' v1' r42 Q g2 hR' (by omega) (by omega) ?_
        intro v1'' M'' L'' hv' hR'' hlo'
        refine hQ v1'' M'' L'' ?_ hR'' ⟨fun b y q => (hlo'.1 b y q).trans (hlo.1 b y q), fun b y q1 q2 => (hlo'.2 b y q1 q2).trans (hlo.2 b y q1 q2)⟩
        rcases hv' with h1 | h1
        · rcases hv with h2 | h2
          · exact Or.inl (h1.trans h2)
          · exact Or.inr (h1.trans h2)
        · exact Or.inr h1
    · -- a core without one
      obtain ⟨s1, s2⟩ := c_settle0 (Lc := Lc) hf h hc6 (by omega)
      have hSA1 : SA A T (c + 1) := by
        intro c' hc'
        by_cases hcc : c' = c
        · subst hcc
          exact ⟨none, s2, fun x hx => by cases hx⟩
        · exact hSA c' (by omega)
      obtain ⟨A', tn', i1, i2, i3, i4, i5, i6, i8, i7⟩ := ih (c + 1) A tn g (by omega) (by omega) (by omega) hSA1 ⟨Mx, Lx, h⟩
      obtain ⟨rfl, rfl⟩ := i6 (by omega)
      refine ⟨A', tn', ?_, Nat.le_refl _, by omega, i4, i5, fun _ => ⟨rfl, rfl⟩, i8, ?_⟩
      · unfold fX4_passMicrosecond_h19
        rw [mloop_S]
        show fX4_passMicrosecond_i19 fu (sI t) (fX4_passMicrosecond_h19 fu (sI t) g) (sI c) A' Lc = _
        unfold fX4_passMicrosecond_i19
        rw [if_neg (by rw [sI_lle (by omega) (by omega)]; omega), s1, mb2_s]
        simp only [mlet]
        rw [sI_1]
        exact i1
      · intro M L v1 r42 Q f2 hR hcC2 hf2 hQ
        obtain ⟨g2, rfl⟩ : ∃ g2, f2 = g2 + 1 := ⟨f2 - 1, by omega⟩
        have m0 : M 787 0 = sI C := hR.2.2.2.2.2.2.2.1
        unfold fX15_microsecond_h50
        rw [mloop_S]
        show wq (fX15_microsecond_i50 fu r42 (fX15_microsecond_h50 fu r42 g2) v1 (sI c) M L) _
        unfold fX15_microsecond_i50
        rw [m0, if_pos (by rw [sI_le (by omega) (by omega)]; omega)]
        exact hQ v1 M L (Or.inl rfl) hR ⟨fun _ _ _ => rfl, fun _ _ _ _ => rfl⟩
/-- nothing is to be done on any core: the reference goes round once -/
theorem m_round {fu : Nat} {A M : mwM} {L : mwL} {T C tn cn U : Nat} {v1 : Int32} {r42 : Int32 × mwM × mwL → Option (Int32 × mwM × mwL)} {Q : Int32 × mwM × mwL → Prop} (hf : 33 ≤ fu) (h : RC A M L T C tn cn U) (hS : SA A T 6) (hQ : wq (r42 (v1, M, L)) Q) : ∀ (m c f : Nat), c + m = C → m < f → wq (fX15_microsecond_h50 fu r42 f (v1, sI c, M, L)) Q := by
  have hC6 := h.2.1
  have m0 : M 787 0 = sI C := h.2.2.2.2.2.2.2.1
  intro m
  induction m with
  | zero =>
    intro c f hc hf1
    obtain ⟨g, rfl⟩ : ∃ g, f = g + 1 := ⟨f - 1, by omega⟩
    unfold fX15_microsecond_h50
    rw [mloop_S]
    show wq (fX15_microsecond_i50 fu r42 _ v1 (sI c) M L) _
    unfold fX15_microsecond_i50
    rw [m0, if_pos (by rw [sI_le (by omega) (by omega)]; omega)]
    exact hQ
  | succ m ih =>
    intro c f hc hf1
    obtain ⟨g, rfl⟩ : ∃ g, f = g + 1 := ⟨f - 1, by omega⟩
    obtain ⟨b, u1, u2⟩ := hS c (by omega)
    obtain ⟨_, _, hst⟩ := m_idle hf h (by omega) u1 (fun x hx => (u2 x hx).1)
    obtain ⟨g3, hg3⟩ : ∃ g3, fu = g3 + 1 := ⟨fu - 1, by omega⟩
    unfold fX15_microsecond_h50
    rw [mloop_S]
    show wq (fX15_microsecond_i50 fu r42 (fX15_microsecond_h50 fu r42 g) v1 (sI c) M L) _
    unfold fX15_microsecond_i50
    rw [m0, if_neg (by rw [sI_le (by omega) (by omega)]; omega)]
    have e : fX15_microsecond_h58 fu r42 (fX15_microsecond_h50 fu r42 g) fu (v1, sI c, M, L) = fX15_microsecond_h50 fu r42 g (v1, sI (c + 1), M, L) := by
      unfold fX15_microsecond_h58
      conv => lhs; rw [hg3]
      rw [mloop_S]
      show fX15_microsecond_i58 (g3 + 1) r42 (fX15_microsecond_h50 (g3 + 1) r42 g) _ v1 (sI c) M L = _
      unfold fX15_microsecond_i58
      rw [← hg3, hst (fun x hx => (u2 x hx).2.1), mb3_s, if_pos rfl]
      simp only [mlet]
      rw [sI_1]
    rw [e]
    exact ih (c + 1) g (by omega) (by omega)
/-! a microsecond is used, on both sides -/
def useA (A : mwM) (x : Nat) : mwM :=
  if A 13 x = 1 then mset (mset (mset (mset (mset A 16 x (A 16 x + 1)) 13 x (A 13 x - 1)) 17 x (A 17 x + 1)) 5 5 (A 5 5 ||| (1 <<< (sI x &&& 31)))) 5 6 0
  else mset (mset A 16 x (A 16 x + 1)) 13 x (A 13 x - 1)
theorem useA_f {A : mwM} {x b y : Nat} (h1 : ¬ (y = x ∧ (b = 13 ∨ b = 16 ∨ b = 17))) (h2 : ¬ (b = 5 ∧ (y = 5 ∨ y = 6))) : useA A x b y = A b y := by
  unfold useA
  split
  · rw [mset_n (by omega), mset_n (by omega), mset_n (by omega), mset_n (by omega), mset_n (by omega)]
  · rw [mset_n (by omega), mset_n (by omega)]
theorem RC_up {A M : mwM} {L : mwL} {T C tn cn U U' : Nat} (h : RC A M L T C tn cn U) (hU : U ≤ U') : RC A M L T C tn cn U' := by
  obtain ⟨h1, h2, h3, h4, h5, h6, h7, h8, h9, h10, h11, h12, h13, h14, h15, h16, h17⟩ := h
  refine ⟨h1, h2, h3, h4, h5, h6, h7, h8, h9, h10, h11, h12, h13, h14, h15, ?_, h17⟩
  intro i hi
  obtain ⟨rk, co, pe, mi, nx, st, lf, wa, tu, us, dn, q1, q2, q3⟩ := h16 i hi
  obtain ⟨w1, w2, w3, w4, w5, w6, w7, w8, w9, w10, w11, w12, w13, w14, w15, w16⟩ := q1
  exact ⟨rk, co, pe, mi, nx, st, lf, wa, tu, us, dn, ⟨w1, w2, w3, w4, w5, w6, w7, w8, w9, w10, w11, by omega, w13, w14, w15, w16⟩, q2, q3⟩
theorem st_use {fu : Nat} {A M : mwM} {L Lc : mwL} {T C tn cn U x : Nat} (hf : 33 ≤ fu) (h : RC A M L T C tn cn U) (hU : U < 1000000) (hx : x < T) (h12 : A 12 x ≠ 0) (h13 : A 13 x ≠ 0) : DX4_use fu (sI x) A Lc = some (useA A x, Lc) ∧ ∃ M' L', DX15_pass fu (sI (x + 1)) M L = some (M', L') ∧ RC (useA A x) M' L' T C tn cn (U + 1) ∧ L' 805 (x + 1) = L 805 (x + 1) + 1 ∧ (∀ b y, ¬ (y = x + 1 ∧ (b = 799 ∨ b = 801)) → M' b y = M b y) ∧ ∀ b y, ¬ (y = x + 1 ∧ (b = 800 ∨ b = 805)) → L' b y = L b y := by
  have h0 := h
  obtain ⟨hT, hC, htn, hcn, a3, m1, m7, m0, a4, l21, m29, m35, hh, hg, m39, ht1, hch⟩ := h0
  obtain ⟨rk, co, pe, mi, nx, st, lf, wa, tu, us, dn, q1, q2, q3⟩ := ht1 x hx
  obtain ⟨w1, w2, w3, w4, w5, w6, w7, w8, w9, w10, w11, w12, w13, w14, w15, w16⟩ := q1
  obtain ⟨k1, k2, k3, k4, k5, k6, k7, k8, k9, k10, k11⟩ := q2
  obtain ⟨n1, n2, n3, n4, n5, n6, n7, n8, n9, n10, n11, n12, n13⟩ := q3
  have hst : st ≠ 0 := by
    intro q
    apply h12
    rw [k6, q]; rfl
  have hlf0 : lf ≠ 0 := by
    intro q
    apply h13
    rw [k7, q]; rfl
  obtain ⟨lf', rfl⟩ : ∃ lf', lf = lf' + 1 := ⟨lf - 1, by omega⟩
  have hsum := w16 (by omega)
  have hpart : ∀ k, k < T → M 793 k = sI (k + 1) := by
    intro k hk
    obtain ⟨_, _, _, _, _, _, _, _, _, _, _, _, _, u3⟩ := ht1 k hk
    exact u3.2.2.2.2.1
  obtain ⟨⟨M', L'⟩, hp, p1, p2, p3, p4⟩ := m_pass (fu := fu) (by omega) hT hx w5 w6 m7 hpart n7 n11 n12 (by omega) (n13 hst).2
  dsimp only at p1 p2 p3 p4
  rw [Nat.add_sub_cancel] at p1
  have eone : (A 13 x = 1) ↔ lf' = 0 := by
    rw [k7]
    constructor
    · intro q
      have := (sI_eq (a := lf' + 1) (b := 1) (by omega) (by omega)).mp q
      omega
    · intro q; rw [q]; rfl
  have eU : useA A x = (if lf' = 0 then mset (mset (mset (mset (mset A 16 x (sI (us + 1))) 13 x (sI lf')) 17 x (sI (dn + 1))) 5 5 (A 5 5 ||| (1 <<< (sI x &&& 31)))) 5 6 0 else mset (mset A 16 x (sI (us + 1))) 13 x (sI lf')) := by
    unfold useA
    rw [k10, k11, sI_1, sI_1]
    by_cases hz : lf' = 0
    · rw [if_pos (eone.mpr hz), if_pos hz, k7, sI_m1]
    · rw [if_neg (fun q => hz (eone.mp q)), if_neg hz, k7, sI_m1]
  refine ⟨?_, M', L', hp, ?_, ?_, p3, p4⟩
  · rw [c_use (by omega) (by omega) k10 k7 k11, eU]
  · have r16 : useA A x 16 x = sI (us + 1) := by
      rw [eU]
      split
      · rw [mset_k (by decide), mset_k (by decide), mset_k (by decide), mset_k (by decide), mset_s]
      · rw [mset_k (by decide), mset_s]
    have r13 : useA A x 13 x = sI lf' := by
      rw [eU]
      split
      · rw [mset_k (by decide), mset_k (by decide), mset_k (by decide), mset_s]
      · rw [mset_s]
    have r17 : useA A x 17 x = sI (if lf' = 0 then dn + 1 else dn) := by
      rw [eU]
      by_cases hz : lf' = 0
      · rw [if_pos hz, if_pos hz, mset_k (by decide), mset_k (by decide), mset_s]
      · rw [if_neg hz, if_neg hz, mset_k (by decide), mset_k (by decide)]; exact k11
    refine ⟨hT, hC, htn, hcn, ?_, ?_, ?_, ?_, ?_, ?_, ?_, ?_, ?_, ?_, ?_, ?_, ?_⟩
    · rw [useA_f (by omega) (by omega)]; exact a3
    · rw [p3 _ _ (by omega)]; exact m1
    · rw [p3 _ _ (by omega)]; exact m7
    · rw [p3 _ _ (by omega)]; exact m0
    · rw [useA_f (by omega) (by omega)]; exact a4
    · rw [p4 _ _ (by omega)]; exact l21
    · rw [p3 _ _ (by omega)]; exact m29
    · rw [p3 _ _ (by omega)]; exact m35
    · intro r q1 q2
      rw [p3 _ _ (by omega)]; exact hh r q1 q2
    · intro r q1 q2
      rw [p3 _ _ (by omega)]; exact hg r q1 q2
    · rw [p3 _ _ (by omega)]; exact m39
    · intro i hi
      by_cases hix : i = x
      · subst hix
        refine ⟨rk, co, pe, mi, nx, st, lf', wa, tu, us + 1, (if lf' = 0 then dn + 1 else dn), ⟨w1, w2, w3, w4, w5, w6, w7, w8, by omega, w10, w11, by omega, ?_, fun q => absurd q hst, ?_, ?_⟩, ⟨?_, ?_, ?_, ?_, ?_, ?_, r13, ?_, ?_, r16, r17⟩, ⟨?_, ?_, ?_, ?_, ?_, ?_, ?_, ?_, ?_, ?_, ?_, p2, fun _ => ⟨?_, p1⟩⟩⟩
        · split <;> omega
        · intro hz
          rw [if_pos hz, ← hsum, hz]
        · intro hz
          rw [if_neg (by omega), ← hsum]
          omega
        · rw [useA_f (by omega) (by omega)]; exact k1
        · rw [useA_f (by omega) (by omega)]; exact k2
        · rw [useA_f (by omega) (by omega)]; exact k3
        · rw [useA_f (by omega) (by omega)]; exact k4
        · rw [useA_f (by omega) (by omega)]; exact k5
        · rw [useA_f (by omega) (by omega)]; exact k6
        · rw [useA_f (by omega) (by omega)]; exact k8
        · rw [useA_f (by omega) (by omega)]; exact k9
        · rw [p3 _ _ (by omega)]; exact n1
        · rw [p3 _ _ (by omega)]; exact n2
        · rw [p3 _ _ (by omega)]; exact n3
        · rw [p3 _ _ (by omega)]; exact n4
        · rw [p3 _ _ (by omega)]; exact n5
        · rw [p3 _ _ (by omega)]; exact n6
        · rw [p4 _ _ (by omega)]; exact n7
        · rw [p3 _ _ (by omega)]; exact n8
        · rw [p3 _ _ (by omega)]; exact n9
        · rw [p3 _ _ (by omega)]; exact n10
        · rw [p3 _ _ (by omega)]; exact n11
        · rw [p4 _ _ (by omega)]; exact (n13 hst).1
      · obtain ⟨rk, co, pe, mi, nx, st, lf, wa, tu, us, dn, q1, q2, q3⟩ := ht1 i hi
        obtain ⟨w1, w2, w3, w4, w5, w6, w7, w8, w9, w10, w11, w12, w13, w14, w15, w16⟩ := q1
        exact ⟨rk, co, pe, mi, nx, st, lf, wa, tu, us, dn, ⟨w1, w2, w3, w4, w5, w6, w7, w8, w9, w10, w11, by omega, w13, w14, w15, w16⟩, tk_f q2 (fun b _ _ => useA_f (by omega) (by omega)), tm_f q3 (fun b _ _ _ _ _ _ _ _ _ => p3 _ _ (by omega)) (p3 _ _ (by omega)) (p3 _ _ (by omega)) (p4 _ _ (by omega)) (fun b _ _ => p4 _ _ (by omega))⟩
    · intro c hc
      obtain ⟨w, v1, v2, v3⟩ := hch c hc
      refine ⟨w, by rw [useA_f (by omega) (by omega)]; exact v1, v2, ?_⟩
      intro i hi
      rw [useA_f (by omega) (by omega), useA_f (by omega) (by omega)]
      exact v3 i hi
  · rw [p2, n12, sL_1]
/-! a microsecond of the cores, up to the choice -/
theorem m_exit {fu : Nat} {A M : mwM} {L : mwL} {T C tn cn U f : Nat} {Q : Int32 × mwM × mwL → Prop} (h : RC A M L T C tn cn U) (hQ : wq (fX15_microsecond_b121 fu M L) Q) : wq (fX15_microsecond_h42 fu (f + 1) (0, M, L)) Q := by
  have h29 : M 787 29 = 0 := h.2.2.2.2.2.2.2.2.2.2.1
  unfold fX15_microsecond_h42
  rw [mloop_S]
  show wq (fX15_microsecond_i42 fu _ 0 M L) Q
  unfold fX15_microsecond_i42
  rw [if_pos rfl, h29, if_pos (by decide)]
  exact hQ
/-- nothing is to be done on any core -/
theorem m_settled {fu : Nat} {A M : mwM} {L : mwL} {T C tn cn U f : Nat} {Q : Int32 × mwM × mwL → Prop} (hf : 33 ≤ fu) (h : RC A M L T C tn cn U) (hS : SA A T 6) (hQ : wq (fX15_microsecond_b121 fu M L) Q) : wq (fX15_microsecond_h42 fu (f + 2) (1, M, L)) Q := by
  unfold fX15_microsecond_h42
  rw [mloop_S]
  show wq (fX15_microsecond_i42 fu (fX15_microsecond_h42 fu (f + 1)) 1 M L) Q
  unfold fX15_microsecond_i42
  rw [if_neg (by decide)]
  exact m_round (v1 := 0) hf h hS (m_exit h hQ) C 0 fu (by omega) (by have := h.2.1; omega)
/-- the cores settle -/
theorem st_unsettled {fu : Nat} {Lc : mwL} {A : mwM} {T C tn cn U t : Nat} (hf : 33 ≤ fu) (htn : tn + 72 < 100000000) (h : ∃ M L, RC A M L T C tn cn U) : ∃ A' tn', fX4_passMicrosecond_h19 fu (sI t) fu (0, A, Lc) = fX4_passMicrosecond_b36 fu (sI t) A' Lc ∧ tn ≤ tn' ∧ tn' ≤ tn + 72 ∧ SA A' T 6 ∧ gloA A A' ∧ (∃ M0 L0, RC A' M0 L0 T C tn' cn U) ∧ ∀ (M : mwM) (L : mwL) (f : Nat) (Q : Int32 × mwM × mwL → Prop), RC A M L T C tn cn U → (∀ M' L', RC A' M' L' T C tn' cn U → locM M M' L L' → wq (fX15_microsecond_b121 fu M' L') Q) → wq (fX15_microsecond_h42 fu (f + 3) (1, M, L)) Q := by
  obtain ⟨A', tn', i1, i2, i3, i4, i5, _, i8, i7⟩ := st_all (Lc := Lc) (t := t) hf 6 0 A tn fu (by omega) (by omega) (by omega) (fun c' hc' => by omega) h
  refine ⟨A', tn', i1, i2, by omega, i4, i5, i8, ?_⟩
  intro M L f Q hR hQ
  unfold fX15_microsecond_h42
  rw [mloop_S]
  show wq (fX15_microsecond_i42 fu (fX15_microsecond_h42 fu (f + 2)) 1 M L) Q
  unfold fX15_microsecond_i42
  rw [if_neg (by decide)]
  refine i7 M L 0 (fX15_microsecond_h42 fu (f + 2)) Q fu hR (Nat.zero_le _) (by omega) ?_
  intro v1' M' L' hv hR' hlo
  rcases hv with rfl | rfl
  · exact m_exit hR' (hQ M' L' hR' hlo)
  · exact m_settled hf hR' i4 (hQ M' L' hR' hlo)
/-! who runs: the class's row of a microsecond -/
theorem or_add {R n c : Nat} (hR : R < 16 ^ c) (hn : n < 16) (hc : c < 6) : sI R ||| (sI n <<< ((4 * sI c) &&& 31)) = sI (R + n * 16 ^ c) := by
  have e1 : ∀ c, c < 6 → (4 * sI c) &&& 31 = sI (4 * c) := by decide +kernel
  have e2 : ∀ c, c < 6 → ∀ n, n < 16 → sI n <<< sI (4 * c) = sI (n * 16 ^ c) := by decide +kernel
  rw [e1 c hc, e2 c hc n hn]
  apply Int32.toBitVec_inj.mp
  show BitVec.ofNat 32 R ||| BitVec.ofNat 32 (n * 16 ^ c) = BitVec.ofNat 32 (R + n * 16 ^ c)
  rw [← BitVec.ofNat_or]
  congr 1
  have h16 : (16 : Nat) ^ c = 2 ^ (4 * c) := by rw [Nat.pow_mul]
  rw [h16] at hR ⊢
  rw [← Nat.shiftLeft_eq, Nat.or_comm, Nat.add_comm]
  exact (Nat.shiftLeft_add_eq_or_of_lt hR n).symm
/-- who is chosen on a core -/
def chs (A : mwM) (c : Nat) : Option Nat := if A 18 c < 0 then none else some (nn (A 18 c))
theorem chs_eq {A : mwM} {c T : Nat} {b : Option Nat} (hT : T ≤ 12) (hb : ∀ x, b = some x → x < T) (h : A 18 c = oI b) : chs A c = b := by
  unfold chs
  rw [h]
  cases b with
  | none => rw [if_pos (by decide)]
  | some x =>
    have := hb x rfl
    show (if sI x < 0 then none else some (nn (sI x))) = some x
    rw [if_neg (by rw [sI_ltl (by omega) (by decide)]; exact Nat.not_lt_zero _), nn_s (by omega)]
/-- the class's memory when the first c cores have used the microsecond; the row of who ran -/
def usN (A : mwM) : Nat → mwM
  | 0 => A
  | c + 1 => match chs A c with
    | none => usN A c
    | some x => useA (usN A c) x
def rwV (A : mwM) (c : Nat) : Nat := match chs A c with
  | none => 0
  | some x => x + 1
def rwN (A : mwM) : Nat → Nat
  | 0 => 0
  | c + 1 => rwN A c + rwV A c * 16 ^ c
theorem rwN_lt {A : mwM} (h : ∀ c, c < 6 → rwV A c < 16) : ∀ c, c ≤ 6 → rwN A c < 16 ^ c := by
  intro c
  induction c with
  | zero => intro _; exact Nat.one_pos
  | succ c ih =>
    intro hc
    have h1 := ih (by omega)
    have h2 := h c (by omega)
    show rwN A c + rwV A c * 16 ^ c < 16 ^ (c + 1)
    rw [Nat.pow_succ]
    have h3 : (rwV A c + 1) * 16 ^ c ≤ 16 * 16 ^ c := Nat.mul_le_mul_right _ (by omega)
    rw [Nat.add_mul, Nat.one_mul, Nat.mul_comm 16] at h3
    omega
theorem usN_f {A : mwM} {b y : Nat} (h1 : b ≠ 13) (h2 : b ≠ 16) (h3 : b ≠ 17) (h4 : ¬ (b = 5 ∧ (y = 5 ∨ y = 6))) : ∀ c, usN A c b y = A b y := by
  intro c
  induction c with
  | zero => rfl
  | succ c ih =>
    show (match chs A c with
      | none => usN A c
      | some x => useA (usN A c) x) b y = _
    cases hq : chs A c with
    | none => simp only []; exact ih
    | some x => simp only []; rw [useA_f (by omega) h4]; exact ih
/-- what the later cores have chosen isn't touched by the earlier ones -/
theorem usN_13 {A : mwM} {x : Nat} : ∀ c, (∀ c', c' < c → chs A c' ≠ some x) → ∀ b, (b = 13 ∨ b = 16 ∨ b = 17) → usN A c b x = A b x := by
  intro c
  induction c with
  | zero => intro _ b _; rfl
  | succ c ih =>
    intro hc b hb
    show (match chs A c with
      | none => usN A c
      | some z => useA (usN A c) z) b x = _
    have hn := hc c (by omega)
    have ihc := ih (fun c' hc' => hc c' (by omega)) b hb
    cases hq : chs A c with
    | none => simp only []; exact ihc
    | some z =>
      simp only []
      have hzx : x ≠ z := fun q => hn (by rw [hq, q])
      rw [useA_f (by omega) (by omega)]; exact ihc
/-- the class: all cores use the microsecond; the reference: it passes -/
theorem st_uses {fu : Nat} {A : mwM} {Lc : mwL} {T C tn cn U t : Nat} (hf : 33 ≤ fu) (ht : t < 20000) (hU : U + 6 < 1000000) (hS : SA A T 6) (hR : ∃ M L, RC A M L T C tn cn U) : fX4_passMicrosecond_b36 fu (sI t) A Lc = some (mset (usN (mset A 5 5 0) 6) 19 t (sI (rwN (mset A 5 5 0) 6)), Lc) := by
  obtain ⟨M, L, h⟩ := hR
  have hT := h.1
  -- fresh doesn't matter for what RC says
  have h0 : RC (mset A 5 5 0) M L T C tn cn U := by
    obtain ⟨h1, h2, h3, h4, h5, h6, h7, h8, h9, h10, h11, h12, h13, h14, h15, h16, h17⟩ := h
    refine ⟨h1, h2, h3, h4, by rw [mset_j (by decide)]; exact h5, h6, h7, h8, by rw [mset_j (by decide)]; exact h9, h10, h11, h12, h13, h14, h15, ?_, ?_⟩
    · intro i hi
      obtain ⟨rk, co, pe, mi, nx, st, lf, wa, tu, us, dn, q1, q2, q3⟩ := h16 i hi
      exact ⟨rk, co, pe, mi, nx, st, lf, wa, tu, us, dn, q1, tk_f q2 (fun b _ _ => mset_k (by omega)), q3⟩
    · intro c hc
      obtain ⟨w, v1, v2, v3⟩ := h17 c hc
      refine ⟨w, by rw [mset_k (by decide)]; exact v1, v2, ?_⟩
      intro i hi
      rw [mset_k (by decide), mset_k (by decide)]
      exact v3 i hi
  have hS0 : SA (mset A 5 5 0) T 6 := by
    intro c hc
    obtain ⟨b, u1, u2⟩ := hS c hc
    refine ⟨b, ⟨by rw [mset_k (by decide)]; exact u1.1, ?_⟩, fun x hx => ⟨(u2 x hx).1, by rw [mset_k (by decide)]; exact (u2 x hx).2.1, by rw [mset_k (by decide)]; exact (u2 x hx).2.2⟩⟩
    intro x hx h8 h12
    rw [mset_k (by decide)] at h8 h12
    obtain ⟨y, q1, q2, q3⟩ := u1.2 x hx h8 h12
    exact ⟨y, q1, by rw [mset_k (by decide)]; exact q2, by rw [mset_k (by decide), mset_k (by decide)]; exact q3⟩
  have hchs : ∀ c, c < 6 → ∃ b, chs (mset A 5 5 0) c = b ∧ stl (mset A 5 5 0) c T b ∧ ∀ x, b = some x → x < T ∧ mset A 5 5 0 13 x ≠ 0 ∧ mset A 5 5 0 8 x = sI c ∧ mset A 5 5 0 12 x = 2 := by
    intro c hc
    obtain ⟨b, u1, u2⟩ := hS0 c hc
    obtain ⟨h12, _, _⟩ := m_idle hf h0 hc u1 (fun x hx => (u2 x hx).1)
    exact ⟨b, chs_eq hT (fun x hx => (u2 x hx).1) u1.1, u1, fun x hx => ⟨(u2 x hx).1, (u2 x hx).2.1, (u2 x hx).2.2, (h12 x hx).2⟩⟩
  unfold fX4_passMicrosecond_b36
  simp only [mlet]
  generalize mset A 5 5 0 = B at *
  have hrv : ∀ c, c < 6 → rwV B c < 16 := by
    intro c hc
    obtain ⟨b, e, _, u⟩ := hchs c hc
    unfold rwV
    rw [e]
    cases b with
    | none => decide
    | some x => have := (u x rfl).1; show x + 1 < 16; omega
  have hrl := rwN_lt hrv
  have hloop := wq_for (body := fun r s => fX4_passMicrosecond_i45 fu (sI t) r s.1 s.2.1 s.2.2.1 s.2.2.2) (Q := fun q => q = (mset (usN B 6) 19 t (sI (rwN B 6)), Lc)) (fun c (_ : Unit) => (sI (rwN B c), sI c, usN B c, Lc)) (fun c _ => ∃ M' L', RC (usN B c) M' L' T C tn cn (U + c)) 6 ?_ ?_ 6 0 () fu (by omega) (by omega) ⟨M, L, h0⟩
  · obtain ⟨q, e, rfl⟩ := hloop
    exact e
  · rintro c _ r hc ⟨M', L', hRc⟩ ih
    show wq (fX4_passMicrosecond_i45 fu (sI t) r (sI (rwN B c)) (sI c) (usN B c) Lc) _
    obtain ⟨b, e, u1, u2⟩ := hchs c hc
    unfold fX4_passMicrosecond_i45 fX4_passMicrosecond_b85
    have e18 : usN B c 18 c = oI b := by rw [usN_f (by decide) (by decide) (by decide) (by omega)]; exact u1.1
    rw [if_neg (by rw [sI_lle (by omega) (by omega)]; omega), mck_s hc (by omega), sI_nn (by omega), e18]
    simp only [mlet]
    rw [sI_1]
    have hnext : ∀ z, usN B (c + 1) = z → rwN B (c + 1) = rwN B c + rwV B c * 16 ^ c := fun _ _ => rfl
    cases hb : b with
    | none =>
      rw [if_pos (by decide)]
      have e1 : usN B (c + 1) = usN B c := by
        show (match chs B c with
          | none => usN B c
          | some x => useA (usN B c) x) = _
        rw [e, hb]
      have e2 : rwN B (c + 1) = rwN B c := by
        show rwN B c + rwV B c * 16 ^ c = _
        have : rwV B c = 0 := by unfold rwV; rw [e, hb]
        rw [this]; omega
      have hn := ih () ⟨M', L', by rw [e1]; exact RC_up hRc (by omega)⟩
      rw [e1, e2] at hn
      exact hn
    | some x =>
      obtain ⟨hxT, h13, h8, h12⟩ := u2 x hb
      have hpre : ∀ c', c' < c → chs B c' ≠ some x := by
        intro c' hc' q
        obtain ⟨b', e', _, u2'⟩ := hchs c' (by omega)
        have := (u2' x (by rw [← e', q])).2.2.1
        rw [h8] at this
        have := (sI_eq (by omega) (by omega)).mp this
        omega
      have e12 : usN B c 12 x ≠ 0 := by rw [usN_f (by decide) (by decide) (by decide) (by omega), h12]; decide
      have e13 : usN B c 13 x ≠ 0 := by rw [usN_13 c hpre 13 (Or.inl rfl)]; exact h13
      obtain ⟨d1, M2, L2, d2, d3, _⟩ := st_use (Lc := Lc) hf hRc (by omega) hxT e12 e13
      have e1 : usN B (c + 1) = useA (usN B c) x := by
        show (match chs B c with
          | none => usN B c
          | some x => useA (usN B c) x) = _
        rw [e, hb]
      have e2 : rwN B (c + 1) = rwN B c + (x + 1) * 16 ^ c := by
        show rwN B c + rwV B c * 16 ^ c = _
        have : rwV B c = x + 1 := by unfold rwV; rw [e, hb]
        rw [this]
      have hn := ih () ⟨M2, L2, by rw [e1]; exact d3⟩
      rw [if_neg (by show ¬ sI x < 0; rw [sI_ltl (by omega) (by decide)]; exact Nat.not_lt_zero _), mck_s hc (by omega), mck_s hc (by omega)]
      show wq (mb2 (DX4_use fu (sI x) (usN B c) Lc) (fun M14 L15 => r (sI (rwN B c) ||| ((sI x + 1) <<< ((4 * sI c) &&& 31)), sI (c + 1), M14, L15))) _
      rw [d1, mb2_s, sI_1, or_add (hrl c (by omega)) (by omega) hc, ← e2, ← e1]
      exact hn
  · rintro _ r ⟨M', L', hRc⟩
    show wq (fX4_passMicrosecond_i45 fu (sI t) r (sI (rwN B 6)) (sI 6) (usN B 6) Lc) _
    unfold fX4_passMicrosecond_i45
    rw [if_pos (by decide), mck_s ht (by omega), sI_nn (by omega)]
    exact wq_some rfl
/-! the reference: the microsecond passes on all cores -/
theorem rw_16 : ∀ n, n < 16 → vp_nar .short (sI n).toInt16.toInt32 = sI n := by decide +kernel
theorem stl_us {B : mwM} {c T : Nat} {b : Option Nat} (h : stl B c T b) (c' : Nat) : stl (usN B c') c T b := by
  refine ⟨by rw [usN_f (by decide) (by decide) (by decide) (by omega)]; exact h.1, ?_⟩
  intro x hx h8 h12
  rw [usN_f (by decide) (by decide) (by decide) (by omega)] at h8 h12
  obtain ⟨y, q1, q2, q3⟩ := h.2 x hx h8 h12
  exact ⟨y, q1, by rw [usN_f (by decide) (by decide) (by decide) (by omega)]; exact q2, by rw [usN_f (by decide) (by decide) (by decide) (by omega), usN_f (by decide) (by decide) (by decide) (by omega)]; exact q3⟩
theorem m_uses {fu : Nat} {B M : mwM} {L : mwL} {T C tn cn U now : Nat} (hf : 33 ≤ fu) (hnow : now < 20000) (hU : U + 6 < 1000000) (hS : SA B T 6) (h : RC B M L T C tn cn U) (hN : L 787 43 = sL now) : wq (fX15_microsecond_b121 fu M L) (fun q => RC (usN B 6) q.2.1 q.2.2 T C tn cn (U + 6) ∧ q.2.2 787 43 = sL (now + 1) ∧ (∀ c, c < C → q.2.1 820 (20000 * c + now) = sI (rwV B c)) ∧ (∀ y, (∀ c, c < C → y ≠ 20000 * c + now) → q.2.1 820 y = M 820 y) ∧ (∀ b y, b ≠ 820 → b ≠ 799 → b ≠ 801 → q.2.1 b y = M b y) ∧ ∀ b y, b ≠ 800 → b ≠ 805 → ¬ (b = 787 ∧ y = 43) → q.2.2 b y = L b y) := by
  have hT := h.1
  have hC := h.2.1
  have hchs : ∀ c, c < 6 → ∃ b, chs B c = b ∧ stl B c T b ∧ ∀ x, b = some x → x < T ∧ B 13 x ≠ 0 ∧ B 8 x = sI c ∧ B 12 x = 2 := by
    intro c hc
    obtain ⟨b, u1, u2⟩ := hS c hc
    obtain ⟨h12, _, _⟩ := m_idle hf h hc u1 (fun x hx => (u2 x hx).1)
    exact ⟨b, chs_eq hT (fun x hx => (u2 x hx).1) u1.1, u1, fun x hx => ⟨(u2 x hx).1, (u2 x hx).2.1, (u2 x hx).2.2, (h12 x hx).2⟩⟩
  have hnone : ∀ c, C ≤ c → c < 6 → chs B c = none := by
    intro c hc1 hc2
    obtain ⟨b, e, _, u2⟩ := hchs c hc2
    rw [e]
    cases hb : b with
    | none => rfl
    | some x =>
      exfalso
      obtain ⟨hxT, _, h8, _⟩ := u2 x hb
      obtain ⟨_, _, _, _, _, _, _, _, _, _, _, _, _, _, _, ht1, _⟩ := h
      obtain ⟨rk, co, pe, mi, nx, st, lf, wa, tu, us, dn, q1, q2, _⟩ := ht1 x hxT
      rw [q2.2.1] at h8
      have hco := q1.2.1
      have := (sI_eq (by omega) (by omega)).mp h8
      omega
  have hus : ∀ m, C + m ≤ 6 → usN B (C + m) = usN B C := by
    intro m
    induction m with
    | zero => intro _; rfl
    | succ m ih =>
      intro hm
      show (match chs B (C + m) with
        | none => usN B (C + m)
        | some x => useA (usN B (C + m)) x) = _
      rw [hnone (C + m) (by omega) (by omega)]
      exact ih (by omega)
  have hus6 : usN B 6 = usN B C := by
    have := hus (6 - C) (by omega)
    rw [show C + (6 - C) = 6 by omega] at this
    exact this
  unfold fX15_microsecond_b121
  refine wq_for (body := fun r s => fX15_microsecond_i125 fu r s.1 s.2.1 s.2.2.1 s.2.2.2) (fun c (a : Int32 × mwM × mwL) => (a.1, sI c, a.2.1, a.2.2)) (fun c a => RC (usN B c) a.2.1 a.2.2 T C tn cn (U + c) ∧ a.2.2 787 43 = sL now ∧ (∀ c', c' < c → a.2.1 820 (20000 * c' + now) = sI (rwV B c')) ∧ (∀ y, (∀ c', c' < c → y ≠ 20000 * c' + now) → a.2.1 820 y = M 820 y) ∧ (∀ b y, b ≠ 820 → b ≠ 799 → b ≠ 801 → a.2.1 b y = M b y) ∧ ∀ b y, b ≠ 800 → b ≠ 805 → a.2.2 b y = L b y) C ?_ ?_ C 0 (0, M, L) fu (by omega) (by omega) ⟨h, hN, fun c' h => by omega, fun _ _ => rfl, fun _ _ _ _ _ => rfl, fun _ _ _ _ => rfl⟩
  · rintro c ⟨v2, a, l⟩ r hc ⟨p1, p2, p3, p4, p5, p6⟩ ih
    dsimp only at p1 p2 p3 p4 p5 p6
    show wq (fX15_microsecond_i125 fu r v2 (sI c) a l) _
    obtain ⟨b, e, u1, u2⟩ := hchs c (by omega)
    obtain ⟨i1, i2, _⟩ := m_idle hf p1 (by omega) (stl_us u1 c) (fun x hx => (u2 x hx).1)
    have m0 : a 787 0 = sI C := p1.2.2.2.2.2.2.2.1
    have h35 : a 787 35 = 0 := p1.2.2.2.2.2.2.2.2.2.2.2.1
    have hrv : oM b = sI (rwV B c) := by
      unfold rwV
      rw [e]
      cases b <;> rfl
    have hrl : rwV B c < 16 := by
      unfold rwV
      rw [e]
      cases hb : b with
      | none => decide
      | some x => have := (u2 x hb).1; show x + 1 < 16; omega
    -- behind the row of who runs
    have hidx : (20000 * sI c) + (l 787 43).toInt32 = sI (20000 * c + now) := by
      rw [p2, sL_I (by omega), sI_lml, sI_add]
    have fin : ∀ (s0 : Int32) (a1 : mwM), a1 = mset a 820 (20000 * c + now) (sI (rwV B c)) → wq (fX15_microsecond_b243 fu r (sI c) (oM b) (-1) s0 a1 l) (fun q => RC (usN B 6) q.2.1 q.2.2 T C tn cn (U + 6) ∧ q.2.2 787 43 = sL (now + 1) ∧ (∀ c, c < C → q.2.1 820 (20000 * c + now) = sI (rwV B c)) ∧ (∀ y, (∀ c, c < C → y ≠ 20000 * c + now) → q.2.1 820 y = M 820 y) ∧ (∀ b y, b ≠ 820 → b ≠ 799 → b ≠ 801 → q.2.1 b y = M b y) ∧ ∀ b y, b ≠ 800 → b ≠ 805 → ¬ (b = 787 ∧ y = 43) → q.2.2 b y = L b y) := by
      intro s0 a1 ha1
      have f820 : ∀ b y, b ≠ 820 → a1 b y = a b y := fun b y q => by rw [ha1, mset_k q]
      have pa : RC (usN B c) a1 l T C tn cn (U + c) := by
        obtain ⟨h1, h2, h3, h4, h5, h6, h7, h8, h9, h10, h11, h12, h13, h14, h15, h16, h17⟩ := p1
        refine ⟨h1, h2, h3, h4, h5, by rw [f820 _ _ (by decide)]; exact h6, by rw [f820 _ _ (by decide)]; exact h7, by rw [f820 _ _ (by decide)]; exact h8, h9, h10, by rw [f820 _ _ (by decide)]; exact h11, by rw [f820 _ _ (by decide)]; exact h12, fun r q1 q2 => by rw [f820 _ _ (by decide)]; exact h13 r q1 q2, fun r q1 q2 => by rw [f820 _ _ (by decide)]; exact h14 r q1 q2, by rw [f820 _ _ (by decide)]; exact h15, ?_, h17⟩
        intro i hi
        obtain ⟨rk, co, pe, mi, nx, st, lf, wa, tu, us, dn, q1, q2, q3⟩ := h16 i hi
        exact ⟨rk, co, pe, mi, nx, st, lf, wa, tu, us, dn, q1, q2, tm_f q3 (fun b _ _ _ _ _ _ _ _ _ => f820 _ _ (by omega)) (f820 _ _ (by decide)) (f820 _ _ (by decide)) rfl (fun _ _ _ => rfl)⟩
      have g3 : ∀ c', c' < c + 1 → a1 820 (20000 * c' + now) = sI (rwV B c') := by
        intro c' hc'
        rw [ha1]
        by_cases hcc : c' = c
        · rw [hcc, mset_s]
        · rw [mset_j (by omega)]; exact p3 c' (by omega)
      have g4 : ∀ y, (∀ c', c' < c + 1 → y ≠ 20000 * c' + now) → a1 820 y = M 820 y := by
        intro y hy
        rw [ha1, mset_j (hy c (by omega))]
        exact p4 y (fun c' hc' => hy c' (by omega))
      unfold fX15_microsecond_b243 fX15_microsecond_b274
      rw [if_pos (by decide)]
      simp only [mlet]
      rw [sI_1]
      cases hb : b with
      | none =>
        have e1 : usN B (c + 1) = usN B c := by
          show (match chs B c with
            | none => usN B c
            | some x => useA (usN B c) x) = _
          rw [e, hb]
        rw [if_pos (by decide)]
        refine ih (s0, a1, l) ⟨by rw [e1]; exact RC_up pa (by omega), p2, g3, g4, fun b y q1 q2 q3 => (f820 b y q1).trans (p5 b y q1 q2 q3), p6⟩
      | some x =>
        obtain ⟨hxT, h13, h8, h12⟩ := u2 x hb
        have hpre : ∀ c', c' < c → chs B c' ≠ some x := by
          intro c' hc' q
          obtain ⟨b', e', _, u2'⟩ := hchs c' (by omega)
          have := (u2' x (by rw [← e', q])).2.2.1
          rw [h8] at this
          have := (sI_eq (by omega) (by omega)).mp this
          omega
        have e12 : usN B c 12 x ≠ 0 := by rw [usN_f (by decide) (by decide) (by decide) (by omega), h12]; decide
        have e13 : usN B c 13 x ≠ 0 := by rw [usN_13 c hpre 13 (Or.inl rfl)]; exact h13
        obtain ⟨_, M2, L2, d2, d3, _, d5, d6⟩ := st_use (Lc := l) hf pa (by omega) hxT e12 e13
        have e1 : usN B (c + 1) = useA (usN B c) x := by
          show (match chs B c with
            | none => usN B c
            | some x => useA (usN B c) x) = _
          rw [e, hb]
        rw [if_neg (by show ¬ sI (x + 1) ≤ 0; rw [sI_lel (by omega) (by decide)]; exact Nat.not_succ_le_zero _)]
        show wq (mb2 (DX15_pass fu (sI (x + 1)) a1 l) _) _
        rw [d2, mb2_s]
        refine ih (s0, M2, L2) ⟨by rw [e1]; exact d3, by dsimp only; rw [d6 _ _ (by omega)]; exact p2, fun c' hc' => by dsimp only; rw [d5 _ _ (by omega)]; exact g3 c' hc', fun y hy => by dsimp only; rw [d5 _ _ (by omega)]; exact g4 y hy, fun b y q1 q2 q3 => by dsimp only; rw [d5 _ _ (by omega), f820 b y q1]; exact p5 b y q1 q2 q3, fun b y q1 q2 => by dsimp only; rw [d6 _ _ (by omega)]; exact p6 b y q1 q2⟩
    have at175 : wq (fX15_microsecond_b152 fu r v2 (sI c) (oM b) (-1) a l) (fun q => RC (usN B 6) q.2.1 q.2.2 T C tn cn (U + 6) ∧ q.2.2 787 43 = sL (now + 1) ∧ (∀ c, c < C → q.2.1 820 (20000 * c + now) = sI (rwV B c)) ∧ (∀ y, (∀ c, c < C → y ≠ 20000 * c + now) → q.2.1 820 y = M 820 y) ∧ (∀ b y, b ≠ 820 → b ≠ 799 → b ≠ 801 → q.2.1 b y = M b y) ∧ ∀ b y, b ≠ 800 → b ≠ 805 → ¬ (b = 787 ∧ y = 43) → q.2.2 b y = L b y) := by
      unfold fX15_microsecond_b152 fX15_microsecond_b175 fX15_microsecond_b227
      rw [if_pos (by decide), hidx, mck_s (by omega) (by omega), sI_nn (by omega)]
      simp only [mlet]
      rw [hrv, rw_16 _ hrl, ← hrv]
      have two : ∀ (z : Int32), wq (if oM b = z then fX15_microsecond_b243 fu r (sI c) (oM b) (-1) v2 (mset a 820 (20000 * c + now) (oM b)) l else fX15_microsecond_b243 fu r (sI c) (oM b) (-1) (v2 + 1) (mset a 820 (20000 * c + now) (oM b)) l) (fun q => RC (usN B 6) q.2.1 q.2.2 T C tn cn (U + 6) ∧ q.2.2 787 43 = sL (now + 1) ∧ (∀ c, c < C → q.2.1 820 (20000 * c + now) = sI (rwV B c)) ∧ (∀ y, (∀ c, c < C → y ≠ 20000 * c + now) → q.2.1 820 y = M 820 y) ∧ (∀ b y, b ≠ 820 → b ≠ 799 → b ≠ 801 → q.2.1 b y = M b y) ∧ ∀ b y, b ≠ 800 → b ≠ 805 → ¬ (b = 787 ∧ y = 43) → q.2.2 b y = L b y) := by
        intro z
        split
        · exact fin _ _ (by rw [hrv])
        · exact fin _ _ (by rw [hrv])
      rw [p2]
      by_cases hn0 : now = 0
      · rw [if_pos (by rw [hn0]; decide)]
        exact two 0
      · rw [if_neg (by
          rw [lg_cmp_le]
          show ¬ sL now ≤ sL 0
          rw [sL_le (by omega) (by omega)]
          omega)]
        obtain ⟨k, hk⟩ : ∃ k, 20000 * c + now = k + 1 := ⟨20000 * c + now - 1, by omega⟩
        rw [show sI (20000 * c + now) - 1 = sI k from by rw [hk]; exact sI_m1, mck_s (by omega) (by omega)]
        exact two _
    unfold fX15_microsecond_i125
    rw [m0, if_neg (by rw [sI_le (by omega) (by omega)]; omega), i2, mb3_s]
    by_cases hc0 : c = 0
    · rw [if_pos (by rw [hc0]; rfl), m_atHand (by omega) h35, mb3_s]
      exact at175
    · rw [if_neg (by rw [sI_eql (by omega) (by decide)]; exact hc0)]
      exact at175
  · rintro ⟨v2, a, l⟩ r ⟨p1, p2, p3, p4, p5, p6⟩
    dsimp only at p1 p2 p3 p4 p5 p6
    show wq (fX15_microsecond_i125 fu r v2 (sI C) a l) _
    have m0 : a 787 0 = sI C := p1.2.2.2.2.2.2.2.1
    unfold fX15_microsecond_i125
    rw [m0, if_pos (by rw [sI_le (by omega) (by omega)]; omega), p2, sL_1]
    simp only [mlet]
    refine wq_some ⟨?_, ?_, p3, p4, p5, ?_⟩
    all_goals (try dsimp only)
    · rw [hus6]
      have hup := RC_up p1 (show U + C ≤ U + 6 by omega)
      obtain ⟨h1, h2, h3, h4, h5, h6, h7, h8, h9, h10, h11, h12, h13, h14, h15, h16, h17⟩ := hup
      refine ⟨h1, h2, h3, h4, h5, h6, h7, h8, h9, by rw [mset_j (by decide)]; exact h10, h11, h12, h13, h14, h15, ?_, h17⟩
      intro i hi
      obtain ⟨rk, co, pe, mi, nx, st, lf, wa, tu, us, dn, q1, q2, q3⟩ := h16 i hi
      exact ⟨rk, co, pe, mi, nx, st, lf, wa, tu, us, dn, q1, q2, tm_f q3 (fun _ _ _ _ _ _ _ _ _ _ => rfl) rfl rfl (mset_k (by decide)) (fun b _ _ => mset_k (by omega))⟩
    · rw [mset_s]
    · intro b y q1 q2 q3
      rw [mset_n q3]; exact p6 b y q1 q2
/-! the activations: a table on one side, the next one of each task on the other -/
def AL (A M : mwM) (L : mwL) (T now : Nat) (cut : Nat → Nat) : Prop :=
  cut 0 = 0 ∧ cut T ≤ 480 ∧ M 787 32 = sI (cut T) ∧ ∀ j, j < T → cut j ≤ cut (j + 1) ∧ cut (j + 1) ≤ cut T ∧ (∀ k, cut j ≤ k → k < cut (j + 1) → M 812 k = sI (j + 1)) ∧ ∃ kx nx pe, cut j ≤ kx ∧ kx ≤ cut (j + 1) ∧ A 11 j = sI nx ∧ A 9 j = sI pe ∧ pe ≤ 20000 ∧ 500 ≤ pe ∧ nx < 50000 ∧ now ≤ nx ∧ (∀ k, cut j ≤ k → k < kx → ∃ z, L 813 k = sL z ∧ z < now) ∧ (∀ k, kx ≤ k → k < cut (j + 1) → L 813 k = sL (nx + (k - kx) * pe)) ∧ 20000 ≤ nx + (cut (j + 1) - kx) * pe
/-- frames of the activations -/
abbrev alM (M M' : mwM) (L L' : mwL) : Prop := (∀ b y, ¬ (b = 796 ∨ b = 798 ∨ b = 799 ∨ b = 801 ∨ b = 802 ∨ b = 804 ∨ b = 817 ∨ b = 818) → ¬ (b = 787 ∧ y = 39) → M' b y = M b y) ∧ ∀ b y, ¬ (b = 797 ∨ b = 800 ∨ b = 819) → ¬ (b = 787 ∧ y = 21) → L' b y = L b y
theorem m_segment {fu : Nat} {A : mwM} {T C U t j al lo hi kx nx pe : Nat} {P : Option (Int32 × mwM × mwL) → Prop} (hj : j < T) (ht : t < 20000) (hal : al ≤ 480) (hhi : hi ≤ al) (h11 : A 11 j = sI nx) (hnx : nx < 50000) (hpe : 500 ≤ pe) (hge : t ≤ nx) (hkx1 : lo ≤ kx) (hkx2 : kx ≤ hi) (hend : kx = hi → 20000 ≤ nx) : ∀ (m k f : Nat) (M : mwM) (L : mwL) (tn cn : Nat), k + m = hi → lo ≤ k → al - k < f → tn + 1 < 100000000 → cn + 1 < 100000000 → M 787 32 = sI al → L 787 43 = sL t → (∀ k, lo ≤ k → k < hi → M 812 k = sI (j + 1)) → (∀ k, lo ≤ k → k < kx → ∃ z, L 813 k = sL z ∧ z < t) → (∀ k, kx ≤ k → k < hi → L 813 k = sL (nx + (k - kx) * pe)) → (∀ k, k < hi → k - kx < 100000) → (pe ≤ 20000) → ((nx = t ∧ kx < k ∧ RC (act1 A t j) M L T C tn cn U) ∨ (¬ (nx = t ∧ kx < k) ∧ RC A M L T C tn cn U)) → (∀ M' L' tn' cn', RC (act1 A t j) M' L' T C tn' cn' U → tn' ≤ tn + 1 → cn' ≤ cn + 1 → alM M M' L L' → ∀ f', al - hi < f' → P (fX15_microsecond_h2 fu f' (sI hi, M', L'))) → P (fX15_microsecond_h2 fu f (sI k, M, L)) := by
  intro m
  induction m with
  | zero =>
    intro k f M L tn cn hk hlo hf htn hcn h32 h43 h812 hb ha hsm hpe2 hR hQ
    have hkh : k = hi := by omega
    subst hkh
    have hRR : RC (act1 A t j) M L T C tn cn U := by
      rcases hR with ⟨_, _, h⟩ | ⟨hn, h⟩
      · exact h
      · have hne : nx ≠ t := by
          intro q
          have : ¬ kx < k := fun q2 => hn ⟨q, q2⟩
          have hke : kx = k := by omega
          have := hend hke
          omega
        have e : act1 A t j = A := by
          unfold act1
          rw [if_neg (by rw [h11, sI_eq (by omega) (by omega)]; exact hne)]
        rw [e]; exact h
    exact hQ M L tn cn hRR (by omega) (by omega) ⟨fun _ _ _ _ => rfl, fun _ _ _ _ => rfl⟩ f hf
  | succ m ih =>
    intro k f M L tn cn hk hlo hf htn hcn h32 h43 h812 hb ha hsm hpe2 hR hQ
    obtain ⟨g, rfl⟩ : ∃ g, f = g + 1 := ⟨f - 1, by omega⟩
    unfold fX15_microsecond_h2
    rw [mloop_S]
    show P (fX15_microsecond_i2 fu (fX15_microsecond_h2 fu g) (sI k) M L)
    unfold fX15_microsecond_i2 fX15_microsecond_b34
    rw [h32, if_neg (by rw [sI_le (by omega) (by omega)]; omega), mck_s (by omega) (by omega), sI_nn (by omega), h43, h812 k hlo (by omega)]
    simp only [mlet]
    rw [sI_1]
    by_cases hm : nx = t ∧ k = kx
    · -- the one that is due
      obtain ⟨e1, e2⟩ := hm
      have hRA : RC A M L T C tn cn U := by
        rcases hR with ⟨_, h, _⟩ | ⟨_, h⟩
        · omega
        · exact h
      have hL : L 813 k = sL t := by
        rw [ha k (by omega) (by omega), e2, e1]
        congr 1
        rw [Nat.sub_self, Nat.zero_mul, Nat.add_zero]
      obtain ⟨M', L', tn', cn', hbg, q1, q2, q3, q4, q5, q6⟩ := st_act1 (fu := fu) hRA hj ht htn hcn (by rw [h11, e1])
      rw [hL, if_pos ((lg_cmp_eq _ _).mpr rfl), mck_s (by omega) (by omega), hbg, mb2_s]
      have hal2 : alM M M' L L' := ⟨fun b y w1 w2 => q5 b y (by omega) w2 (by omega) (by omega), fun b y w1 w2 => q6 b y (by omega) w2 (by omega)⟩
      -- no second one: from here on nothing is due
      have tailQ : ∀ (m k f : Nat), k + m = hi → kx < k → al - k < f → P (fX15_microsecond_h2 fu f (sI k, M', L')) := by
        intro m
        induction m with
        | zero =>
          intro k f hk2 hkx3 hf2
          have : k = hi := by omega
          subst this
          exact hQ M' L' tn' cn' q4 q2 q3 hal2 f hf2
        | succ m ih2 =>
          intro k f hk2 hkx3 hf2
          obtain ⟨g2, rfl⟩ : ∃ g2, f = g2 + 1 := ⟨f - 1, by omega⟩
          unfold fX15_microsecond_h2
          rw [mloop_S]
          show P (fX15_microsecond_i2 fu (fX15_microsecond_h2 fu g2) (sI k) M' L')
          unfold fX15_microsecond_i2 fX15_microsecond_b34
          rw [hal2.1 787 32 (by omega) (by omega), h32, if_neg (by rw [sI_le (by omega) (by omega)]; omega), mck_s (by omega) (by omega), sI_nn (by omega), hal2.2 787 43 (by omega) (by omega), h43, hal2.2 813 k (by omega) (by omega), ha k (by omega) (by omega)]
          have hd := hsm k (by omega)
          obtain ⟨d, hd2⟩ : ∃ d, k - kx = d + 1 := ⟨k - kx - 1, by omega⟩
          have hmul : 500 ≤ (k - kx) * pe := by
            rw [hd2, Nat.add_mul, Nat.one_mul]
            exact Nat.le_trans hpe (Nat.le_add_left _ _)
          have hmul2 : (k - kx) * pe ≤ 100000 * 20000 := Nat.mul_le_mul (by omega) hpe2
          rw [if_neg (by
            rw [lg_cmp_eq, sL_eq (by omega) (by omega)]
            omega)]
          simp only [mlet]
          rw [sI_1]
          exact ih2 (k + 1) g2 (by omega) (by omega) (by omega)
      exact tailQ m (k + 1) g (by omega) (by omega) (by omega)
    · -- not due
      have hne : ¬ lg_cmp (L 813 k) (sL t) = 0 := by
        rw [lg_cmp_eq]
        by_cases hkk : k < kx
        · obtain ⟨z, z1, z2⟩ := hb k hlo hkk
          rw [z1, sL_eq (by omega) (by omega)]
          omega
        · have hd := hsm k (by omega)
          have hmul2 : (k - kx) * pe ≤ 100000 * 20000 := Nat.mul_le_mul (by omega) hpe2
          rw [ha k (by omega) (by omega), sL_eq (by omega) (by omega)]
          intro q
          by_cases hke : k = kx
          · rw [hke, Nat.sub_self, Nat.zero_mul] at q
            exact hm ⟨by omega, hke⟩
          · obtain ⟨d, hd2⟩ : ∃ d, k - kx = d + 1 := ⟨k - kx - 1, by omega⟩
            rw [hd2, Nat.add_mul, Nat.one_mul] at q
            omega
      rw [if_neg hne]
      refine ih (k + 1) g M L tn cn (by omega) (by omega) (by omega) htn hcn h32 h43 h812 hb ha hsm hpe2 ?_ hQ
      rcases hR with ⟨w1, w2, w3⟩ | ⟨w1, w2⟩
      · exact Or.inl ⟨w1, by omega, w3⟩
      · refine Or.inr ⟨?_, w2⟩
        rintro ⟨w3, w4⟩
        by_cases hke : k = kx
        · exact hm ⟨w3, hke⟩
        · exact w1 ⟨w3, by omega⟩
/-! all activations of a microsecond -/
theorem alM_tr {M M1 M2 : mwM} {L L1 L2 : mwL} (h1 : alM M M1 L L1) (h2 : alM M1 M2 L1 L2) : alM M M2 L L2 := ⟨fun b y w1 w2 => (h2.1 b y w1 w2).trans (h1.1 b y w1 w2), fun b y w1 w2 => (h2.2 b y w1 w2).trans (h1.2 b y w1 w2)⟩
theorem m_alarms {fu : Nat} {A M0 : mwM} {L0 : mwL} {T C U t tn0 cn0 : Nat} {cut : Nat → Nat} {P : Option (Int32 × mwM × mwL) → Prop} (hT : T ≤ 12) (ht : t < 20000) (htn : tn0 + 12 < 100000000) (hcn : cn0 + 12 < 100000000) (hAL : AL A M0 L0 T t cut) (h43 : L0 787 43 = sL t) (hQ : ∀ M' L' tn' cn', RC (actN A t T) M' L' T C tn' cn' U → tn' ≤ tn0 + T → cn' ≤ cn0 + T → alM M0 M' L0 L' → P (fX15_microsecond_h42 fu fu (1, M', L'))) : ∀ (m j f tn cn : Nat) (M : mwM) (L : mwL), j + m = T → cut T - cut j < f → tn ≤ tn0 + j → cn ≤ cn0 + j → alM M0 M L0 L → RC (actN A t j) M L T C tn cn U → P (fX15_microsecond_h2 fu f (sI (cut j), M, L)) := by
  obtain ⟨c0, cT, c32, hseg⟩ := hAL
  intro m
  induction m with
  | zero =>
    intro j f tn cn M L hj hf h1 h2 hal hR
    have hjT : j = T := by omega
    subst hjT
    obtain ⟨g, rfl⟩ : ∃ g, f = g + 1 := ⟨f - 1, by omega⟩
    unfold fX15_microsecond_h2
    rw [mloop_S]
    show P (fX15_microsecond_i2 fu (fX15_microsecond_h2 fu g) (sI (cut j)) M L)
    unfold fX15_microsecond_i2
    rw [hal.1 787 32 (by omega) (by omega), c32, if_pos (by rw [sI_le (by omega) (by omega)]; omega)]
    exact hQ M L tn cn hR h1 h2 hal
  | succ m ih =>
    intro j f tn cn M L hj hf h1 h2 hal hR
    obtain ⟨s1, s2, s3, kx, nx, pe, k1, k2, k3, k4, k5, k6, k7, k8, k9, k10, k11⟩ := hseg j (by omega)
    have hend : kx = cut (j + 1) → 20000 ≤ nx := by
      intro q
      rw [q, Nat.sub_self, Nat.zero_mul, Nat.add_zero] at k11
      exact k11
    refine m_segment (fu := fu) (A := actN A t j) (C := C) (U := U) (P := P) (lo := cut j) (hi := cut (j + 1)) (al := cut T) (kx := kx) (nx := nx) (pe := pe) (j := j) (by omega) ht cT s2 (by rw [actN_f (by omega) j (Nat.le_refl _)]; exact k3) k7 k6 k8 k1 k2 hend (cut (j + 1) - cut j) (cut j) f M L tn cn (by omega) (Nat.le_refl _) hf (by omega) (by omega) (by rw [hal.1 787 32 (by omega) (by omega)]; exact c32) (by rw [hal.2 787 43 (by omega) (by omega)]; exact h43) ?_ ?_ ?_ (fun k hk => by omega) k5 (Or.inr ⟨fun q => by omega, hR⟩) ?_
    · intro k w1 w2
      rw [hal.1 812 k (by omega) (by omega)]
      exact s3 k w1 w2
    · intro k w1 w2
      rw [hal.2 813 k (by omega) (by omega)]
      exact k9 k w1 w2
    · intro k w1 w2
      rw [hal.2 813 k (by omega) (by omega)]
      exact k10 k w1 w2
    · intro M' L' tn' cn' hR' q1 q2 hal' f' hf'
      exact ih (j + 1) f' tn' cn' M' L' (by omega) hf' (by omega) (by omega) (alM_tr hal hal') hR'
theorem actN_11 {A : mwM} {t T : Nat} : ∀ j, j ≤ T → ∀ y, actN A t j 11 y = if y < j ∧ A 11 y = sI t then A 11 y + A 9 y else A 11 y := by
  intro j
  induction j with
  | zero => intro _ y; rw [if_neg (by omega)]; rfl
  | succ j ih =>
    intro hj y
    have ih1 := ih (by omega)
    show act1 (actN A t j) t j 11 y = _
    by_cases hy : y = j
    · subst hy
      have e11 : actN A t y 11 y = A 11 y := actN_f (by omega) y (Nat.le_refl _)
      have e9 : actN A t y 9 y = A 9 y := actN_f (by omega) y (Nat.le_refl _)
      unfold act1
      rw [e11, e9]
      by_cases ht : A 11 y = sI t
      · rw [if_pos ht, if_pos (show y < y + 1 ∧ A 11 y = sI t from ⟨Nat.lt_succ_self y, ht⟩)]
        split
        · rw [mset_k (by decide), mset_k (by decide), mset_k (by decide), mset_k (by decide), mset_k (by decide), mset_s]
        · split
          · rw [mset_k (by decide), mset_k (by decide), mset_s]
          · rw [mset_k (by decide), mset_s]
      · rw [if_neg ht, if_neg (fun q => ht q.2), e11]
    · rw [act1_f (by omega) (by omega), ih1 y]
      by_cases hc : y < j ∧ A 11 y = sI t
      · rw [if_pos hc, if_pos ⟨by omega, hc.2⟩]
      · rw [if_neg hc, if_neg (fun q => hc ⟨by omega, q.2⟩)]
/-- nothing was due: nothing has changed -/
theorem actN_56 {A : mwM} {t T : Nat} : ∀ j, j ≤ T → actN A t j = A ∨ actN A t j 5 6 = 0 := by
  intro j
  induction j with
  | zero => intro _; exact Or.inl rfl
  | succ j ih =>
    intro hj
    show act1 (actN A t j) t j = A ∨ act1 (actN A t j) t j 5 6 = 0
    unfold act1
    split
    · right
      split
      · rw [mset_k (by decide), mset_k (by decide), mset_k (by decide), mset_j (by decide), mset_s]
      · split
        · rw [mset_k (by decide), mset_s]
        · rw [mset_s]
    · exact ih (by omega)
/-- the table a microsecond later -/
theorem AL_next {A A' M M' : mwM} {L L' : mwL} {T t : Nat} {cut : Nat → Nat} (ht : t < 20000) (h : AL A M L T t cut) (h11 : ∀ j, j < T → A' 11 j = if A 11 j = sI t then A 11 j + A 9 j else A 11 j) (h9 : ∀ j, j < T → A' 9 j = A 9 j) (h32 : M' 787 32 = M 787 32) (h812 : ∀ k, M' 812 k = M 812 k) (h813 : ∀ k, L' 813 k = L 813 k) : AL A' M' L' T (t + 1) cut := by
  obtain ⟨c0, cT, c32, hseg⟩ := h
  refine ⟨c0, cT, h32.trans c32, ?_⟩
  intro j hj
  obtain ⟨s1, s2, s3, kx, nx, pe, k1, k2, k3, k4, k5, k6, k7, k8, k9, k10, k11⟩ := hseg j hj
  refine ⟨s1, s2, fun k w1 w2 => (h812 k).trans (s3 k w1 w2), ?_⟩
  by_cases hn : nx = t
  · have hkx : kx < cut (j + 1) := by
      rcases Nat.lt_or_ge kx (cut (j + 1)) with q | q
      · exact q
      · have e : kx = cut (j + 1) := by omega
        rw [e, Nat.sub_self, Nat.zero_mul] at k11
        omega
    obtain ⟨d, hd⟩ : ∃ d, cut (j + 1) - kx = d + 1 := ⟨cut (j + 1) - kx - 1, by omega⟩
    refine ⟨kx + 1, nx + pe, pe, by omega, by omega, ?_, (h9 j hj).trans k4, k5, k6, by omega, by omega, ?_, ?_, ?_⟩
    · rw [h11 j hj, if_pos (by rw [k3, hn]), k3, k4, sI_add]
    · intro k w1 w2
      rw [h813]
      by_cases hk : k < kx
      · obtain ⟨z, z1, z2⟩ := k9 k w1 hk
        exact ⟨z, z1, by omega⟩
      · have e : k = kx := by omega
        refine ⟨nx, ?_, by omega⟩
        rw [k10 k (by omega) (by omega), e, Nat.sub_self, Nat.zero_mul, Nat.add_zero]
    · intro k w1 w2
      rw [h813, k10 k (by omega) w2]
      obtain ⟨e, he⟩ : ∃ e, k - kx = e + 1 := ⟨k - kx - 1, by omega⟩
      have he2 : k - (kx + 1) = e := by omega
      rw [he, he2, Nat.add_mul, Nat.one_mul]
      congr 1
      omega
    · have e2 : cut (j + 1) - (kx + 1) = d := by omega
      rw [hd, Nat.add_mul, Nat.one_mul] at k11
      rw [e2]
      omega
  · refine ⟨kx, nx, pe, k1, k2, ?_, (h9 j hj).trans k4, k5, k6, k7, by omega, ?_, ?_, k11⟩
    · rw [h11 j hj, if_neg (by rw [k3, sI_eq (by omega) (by omega)]; exact hn)]
      exact k3
    · intro k w1 w2
      rw [h813]
      obtain ⟨z, z1, z2⟩ := k9 k w1 w2
      exact ⟨z, z1, by omega⟩
    · intro k w1 w2
      rw [h813]
      exact k10 k w1 w2
/-! which tasks have used all their microseconds -/
def ran (B : mwM) (c i : Nat) : Prop := ∃ c', c' < c ∧ chs B c' = some i
theorem or_bit {fr x : Nat} (hx : x < 12) : sI fr ||| (1 <<< (sI x &&& 31)) = sI (fr ||| 2 ^ x) := by
  have e1 : ∀ x, x < 12 → (1 : Int32) <<< (sI x &&& 31) = sI (2 ^ x) := by decide +kernel
  rw [e1 x hx]
  apply Int32.toBitVec_inj.mp
  show BitVec.ofNat 32 fr ||| BitVec.ofNat 32 (2 ^ x) = BitVec.ofNat 32 (fr ||| 2 ^ x)
  rw [← BitVec.ofNat_or]
theorem usN_S {B : mwM} {c x : Nat} (h : chs B c = some x) : usN B (c + 1) = useA (usN B c) x := by
  show (match chs B c with
    | none => usN B c
    | some x => useA (usN B c) x) = _
  rw [h]
theorem usN_N {B : mwM} {c : Nat} (h : chs B c = none) : usN B (c + 1) = usN B c := by
  show (match chs B c with
    | none => usN B c
    | some x => useA (usN B c) x) = _
  rw [h]
theorem ran_S {B : mwM} {c x i : Nat} (h : chs B c = some x) : ran B (c + 1) i ↔ ran B c i ∨ i = x := by
  constructor
  · rintro ⟨c', h1, h2⟩
    by_cases hc : c' = c
    · subst hc
      rw [h] at h2
      injection h2 with h2
      exact Or.inr h2.symm
    · exact Or.inl ⟨c', by omega, h2⟩
  · rintro (⟨c', h1, h2⟩ | rfl)
    · exact ⟨c', by omega, h2⟩
    · exact ⟨c, by omega, h⟩
theorem ran_N {B : mwM} {c i : Nat} (h : chs B c = none) : ran B (c + 1) i ↔ ran B c i := by
  constructor
  · rintro ⟨c', h1, h2⟩
    by_cases hc : c' = c
    · subst hc
      rw [h] at h2
      cases h2
    · exact ⟨c', by omega, h2⟩
  · rintro ⟨c', h1, h2⟩
    exact ⟨c', by omega, h2⟩
theorem us_bits {B : mwM} {T : Nat} (hT : T ≤ 12) (hb : ∀ c, c < 6 → ∀ x, chs B c = some x → x < T ∧ B 8 x = sI c) (h55 : B 5 5 = 0) : ∀ c, c ≤ 6 → (∃ fr, fr < 2 ^ T ∧ usN B c 5 5 = sI fr ∧ ∀ i, i < T → (fr.testBit i = true ↔ ran B c i ∧ B 13 i = 1)) ∧ (∀ i, ran B c i → usN B c 16 i = B 16 i + 1 ∧ usN B c 13 i = B 13 i - 1 ∧ usN B c 17 i = (if B 13 i = 1 then B 17 i + 1 else B 17 i)) ∧ (usN B c 5 6 = B 5 6 ∨ usN B c 5 6 = 0) ∧ (usN B c 5 6 ≠ 0 → ∀ i, ran B c i → B 13 i ≠ 1) := by
  intro c
  induction c with
  | zero =>
    intro _
    refine ⟨⟨0, Nat.two_pow_pos T, h55, ?_⟩, ?_, Or.inl rfl, ?_⟩
    · intro i _
      constructor
      · intro h; simp at h
      · rintro ⟨⟨c', h, _⟩, _⟩; omega
    · rintro i ⟨c', h, _⟩; omega
    · rintro _ i ⟨c', h, _⟩; omega
  | succ c ih =>
    intro hc
    obtain ⟨⟨fr, f1, f2, f3⟩, ih2, ih3, ih4⟩ := ih (by omega)
    cases hx : chs B c with
    | none =>
      rw [usN_N hx]
      refine ⟨⟨fr, f1, f2, fun i hi => by rw [ran_N hx]; exact f3 i hi⟩, fun i hi => ih2 i ((ran_N hx).mp hi), ih3, fun h i hi => ih4 h i ((ran_N hx).mp hi)⟩
    | some x =>
      obtain ⟨hxT, h8⟩ := hb c (by omega) x hx
      have hpre : ∀ c', c' < c → chs B c' ≠ some x := by
        intro c' hc' q
        have := (hb c' (by omega) x q).2
        rw [h8] at this
        have := (sI_eq (by omega) (by omega)).mp this
        omega
      have hnr : ¬ ran B c x := by
        rintro ⟨c', h1, h2⟩
        exact hpre c' h1 h2
      have e13 := usN_13 c hpre 13 (Or.inl rfl)
      have e16 := usN_13 c hpre 16 (Or.inr (Or.inl rfl))
      have e17 := usN_13 c hpre 17 (Or.inr (Or.inr rfl))
      rw [usN_S hx]
      have hoth : ∀ i, i ≠ x → ∀ b, (b = 13 ∨ b = 16 ∨ b = 17) → useA (usN B c) x b i = usN B c b i := fun i hi b hb' => useA_f (by omega) (by omega)
      have hx16 : useA (usN B c) x 16 x = B 16 x + 1 := by
        unfold useA
        split
        · rw [mset_k (by decide), mset_k (by decide), mset_k (by decide), mset_k (by decide), mset_s, e16]
        · rw [mset_k (by decide), mset_s, e16]
      have hx13 : useA (usN B c) x 13 x = B 13 x - 1 := by
        unfold useA
        split
        · rw [mset_k (by decide), mset_k (by decide), mset_k (by decide), mset_s, e13]
        · rw [mset_s, e13]
      have hx17 : useA (usN B c) x 17 x = if B 13 x = 1 then B 17 x + 1 else B 17 x := by
        unfold useA
        rw [e13]
        split
        · rw [mset_k (by decide), mset_k (by decide), mset_s, e17]
        · rw [mset_k (by decide), mset_k (by decide), e17]
      have hvals : ∀ i, ran B (c + 1) i → useA (usN B c) x 16 i = B 16 i + 1 ∧ useA (usN B c) x 13 i = B 13 i - 1 ∧ useA (usN B c) x 17 i = (if B 13 i = 1 then B 17 i + 1 else B 17 i) := by
        intro i hi
        by_cases hix : i = x
        · rw [hix]; exact ⟨hx16, hx13, hx17⟩
        · have hri : ran B c i := by
            rcases (ran_S hx).mp hi with q | q
            · exact q
            · exact absurd q hix
          rw [hoth i hix 16 (by omega), hoth i hix 13 (by omega), hoth i hix 17 (by omega)]
          exact ih2 i hri
      by_cases h1 : B 13 x = 1
      · have e55 : useA (usN B c) x 5 5 = sI (fr ||| 2 ^ x) := by
          unfold useA
          rw [e13, if_pos h1, mset_j (by decide), mset_s, f2, or_bit (by omega)]
        have e56 : useA (usN B c) x 5 6 = 0 := by
          unfold useA
          rw [e13, if_pos h1, mset_s]
        refine ⟨⟨fr ||| 2 ^ x, Nat.or_lt_two_pow f1 (Nat.pow_lt_pow_right (by omega) hxT), e55, ?_⟩, hvals, Or.inr e56, fun q => absurd e56 q⟩
        intro i hi
        rw [Nat.testBit_or, Nat.testBit_two_pow, ran_S hx, Bool.or_eq_true, f3 i hi, decide_eq_true_eq]
        constructor
        · rintro (⟨q1, q2⟩ | rfl)
          · exact ⟨Or.inl q1, q2⟩
          · exact ⟨Or.inr rfl, h1⟩
        · rintro ⟨q1 | rfl, q2⟩
          · exact Or.inl ⟨q1, q2⟩
          · exact Or.inr rfl
      · have e55 : useA (usN B c) x 5 5 = sI fr := by
          unfold useA
          rw [e13, if_neg h1, mset_k (by decide), mset_k (by decide), f2]
        have e56 : useA (usN B c) x 5 6 = usN B c 5 6 := by
          unfold useA
          rw [e13, if_neg h1, mset_k (by decide), mset_k (by decide)]
        refine ⟨⟨fr, f1, e55, ?_⟩, hvals, by rw [e56]; exact ih3, ?_⟩
        · intro i hi
          rw [f3 i hi, ran_S hx]
          constructor
          · rintro ⟨q1, q2⟩; exact ⟨Or.inl q1, q2⟩
          · rintro ⟨q1 | rfl, q2⟩
            · exact ⟨q1, q2⟩
            · exact absurd q2 h1
        · intro hq i hi
          rw [e56] at hq
          rcases (ran_S hx).mp hi with q | rfl
          · exact ih4 hq i q
          · exact h1
/-! a microsecond of the cores, on both sides -/
theorem RC_5 {A A' M : mwM} {L : mwL} {T C tn cn U : Nat} (h : RC A M L T C tn cn U) (hA : ∀ b y, ¬ (b = 5 ∧ (y = 5 ∨ y = 6)) → b ≠ 19 → A' b y = A b y) : RC A' M L T C tn cn U := by
  obtain ⟨h1, h2, h3, h4, h5, h6, h7, h8, h9, h10, h11, h12, h13, h14, h15, h16, h17⟩ := h
  refine ⟨h1, h2, h3, h4, by rw [hA 5 3 (by omega) (by omega)]; exact h5, h6, h7, h8, by rw [hA 5 4 (by omega) (by omega)]; exact h9, h10, h11, h12, h13, h14, h15, ?_, ?_⟩
  · intro i hi
    obtain ⟨rk, co, pe, mi, nx, st, lf, wa, tu, us, dn, q1, q2, q3⟩ := h16 i hi
    exact ⟨rk, co, pe, mi, nx, st, lf, wa, tu, us, dn, q1, tk_f q2 (fun b _ _ => hA b i (by omega) (by omega)), q3⟩
  · intro c hc
    obtain ⟨w, v1, v2, v3⟩ := h17 c hc
    refine ⟨w, by rw [hA 18 c (by omega) (by omega)]; exact v1, v2, ?_⟩
    intro i hi
    rw [hA 8 i (by omega) (by omega), hA 12 i (by omega) (by omega)]
    exact v3 i hi
theorem SA_5 {A A' : mwM} {T n : Nat} (h : SA A T n) (hA : ∀ b y, b ≠ 5 → b ≠ 19 → A' b y = A b y) : SA A' T n := by
  intro c hc
  obtain ⟨b, u1, u2⟩ := h c hc
  refine ⟨b, ⟨by rw [hA 18 c (by omega) (by omega)]; exact u1.1, ?_⟩, fun x hx => ⟨(u2 x hx).1, by rw [hA 13 x (by omega) (by omega)]; exact (u2 x hx).2.1, by rw [hA 8 x (by omega) (by omega)]; exact (u2 x hx).2.2⟩⟩
  intro x hx h8 h12
  rw [hA 8 x (by omega) (by omega)] at h8
  rw [hA 12 x (by omega) (by omega)] at h12
  obtain ⟨y, q1, q2, q3⟩ := u1.2 x hx h8 h12
  exact ⟨y, q1, by rw [hA 12 y (by omega) (by omega)]; exact q2, by rw [hA 7 x (by omega) (by omega), hA 7 y (by omega) (by omega)]; exact q3⟩
/-- who ran, in every microsecond so far -/
def rwS (v : Nat → Nat) : Nat → Nat
  | 0 => 0
  | c + 1 => rwS v c + v c * 16 ^ c
theorem rwN_S (A : mwM) : ∀ c, rwN A c = rwS (rwV A) c := by
  intro c
  induction c with
  | zero => rfl
  | succ c ih =>
    show rwN A c + rwV A c * 16 ^ c = rwS (rwV A) c + rwV A c * 16 ^ c
    rw [ih]
def WH (A M : mwM) (C t : Nat) : Prop := ∀ s, s < t → ∃ v : Nat → Nat, (∀ c, c < 6 → v c < 16) ∧ A 19 s = sI (rwS v 6) ∧ ∀ c, c < C → M 820 (20000 * c + s) = sI (v c)
def RCo (A M : mwM) (L : mwL) (T C t : Nat) : Prop := ∃ tn cn U cut, RC A M L T C tn cn U ∧ AL A M L T t cut ∧ L 787 43 = sL t ∧ t ≤ 20000 ∧ tn ≤ 84 * t ∧ cn ≤ 12 * t ∧ U ≤ 6 * t + 1 ∧ (A 5 6 = 0 ∨ A 5 6 = 1) ∧ (A 5 6 = 1 → SA A T 6) ∧ WH A M C t
/-- a task has used its microseconds: whole numbers of runs -/
theorem dn_iff {us lf dn mi : Nat} (h0 : lf = 0 → us = dn * (mi + 1)) (h1 : 0 < lf → us + lf = (dn + 1) * (mi + 1)) (hl : lf ≤ mi) : (us % (mi + 1) = 0) ↔ lf = 0 := by
  constructor
  · intro h
    rcases Nat.eq_zero_or_pos lf with q | q
    · exact q
    · exfalso
      have e := h1 q
      have e2 : (us + lf) % (mi + 1) = 0 := by rw [e]; exact Nat.mul_mod_left _ _
      rw [Nat.add_mod, h, Nat.zero_add, Nat.mod_mod, Nat.mod_eq_of_lt (by omega)] at e2
      omega
  · intro h
    rw [h0 h]
    exact Nat.mul_mod_left _ _
theorem sI_inj {a b : Nat} (ha : a < 2000000000) (hb : b < 2000000000) (h : sI a = sI b) : a = b := (sI_eq ha hb).mp h
/-- from the settled cores on: the microsecond is used -/
theorem st_tail {fu : Nat} {A0 A M0 M : mwM} {L0 L Lc : mwL} {T C tn cn U t : Nat} {cut : Nat → Nat} (hf : 500 ≤ fu) (ht : t < 20000) (hR : RC A M L T C tn cn U) (hS : SA A T 6) (hN : L 787 43 = sL t) (hU : U ≤ 6 * t + 1) (htn : tn ≤ 84 * t + 84) (hcn : cn ≤ 12 * t + 12) (h56 : A 5 6 = 1) (hW : WH A0 M0 C t) (h19 : ∀ y, A 19 y = A0 19 y) (h820 : ∀ y, M 820 y = M0 820 y) (hAL : AL A M L T (t + 1) cut) : ∃ A', fX4_passMicrosecond_b36 fu (sI t) A Lc = some (A', Lc) ∧ wq (fX15_microsecond_b121 fu M L) (fun q => RCo A' q.2.1 q.2.2 T C (t + 1) ∧ (∃ fr, fr < 2 ^ T ∧ A' 5 5 = sI fr ∧ ∀ i, i < T → ∃ us us' mi dn, L 805 (i + 1) = sL us ∧ q.2.2 805 (i + 1) = sL us' ∧ us' < 1000000 ∧ us ≤ us' ∧ A 10 i = sI mi ∧ mi ≤ 1000 ∧ (fr.testBit i = true ↔ us < us' ∧ us' % (mi + 1) = 0) ∧ A 17 i = sI dn ∧ dn < 1000000 ∧ A' 17 i = sI (if fr.testBit i = true then dn + 1 else dn)) ∧ (∀ b y, ¬ (b = 5 ∧ (y = 5 ∨ y = 6)) → b ≠ 13 → b ≠ 16 → b ≠ 17 → b ≠ 19 → A' b y = A b y) ∧ (∀ b y, b ≠ 820 → b ≠ 799 → b ≠ 801 → q.2.1 b y = M b y) ∧ ∀ b y, b ≠ 800 → b ≠ 805 → ¬ (b = 787 ∧ y = 43) → q.2.2 b y = L b y) := by
  have hT := hR.1
  have hC := hR.2.1
  have e1 := st_uses (fu := fu) (Lc := Lc) (by omega) ht (by omega) hS ⟨M, L, hR⟩
  refine ⟨_, e1, ?_⟩
  have hR0 : RC (mset A 5 5 0) M L T C tn cn U := RC_5 hR (fun b y h1 _ => mset_n (by omega))
  have hS0 : SA (mset A 5 5 0) T 6 := SA_5 hS (fun b y h1 _ => mset_k h1)
  have hB55 : mset A 5 5 0 5 5 = 0 := mset_s
  have hB56 : mset A 5 5 0 5 6 = 1 := by rw [mset_j (by decide)]; exact h56
  have hBo : ∀ b y, b ≠ 5 → mset A 5 5 0 b y = A b y := fun b y hb => mset_k hb
  have hB3 : ∀ b y, ¬ (b = 5 ∧ y = 5) → mset A 5 5 0 b y = A b y := fun b y hb => mset_n hb
  generalize mset A 5 5 0 = B at *
  have hchs : ∀ c, c < 6 → ∃ b, chs B c = b ∧ stl B c T b ∧ ∀ x, b = some x → x < T ∧ B 13 x ≠ 0 ∧ B 8 x = sI c ∧ B 12 x = 2 := by
    intro c hc
    obtain ⟨b, u1, u2⟩ := hS0 c hc
    obtain ⟨h12, _, _⟩ := m_idle (fu := fu) (by omega) hR0 hc u1 (fun x hx => (u2 x hx).1)
    exact ⟨b, chs_eq hT (fun x hx => (u2 x hx).1) u1.1, u1, fun x hx => ⟨(u2 x hx).1, (u2 x hx).2.1, (u2 x hx).2.2, (h12 x hx).2⟩⟩
  have hb : ∀ c, c < 6 → ∀ x, chs B c = some x → x < T ∧ B 8 x = sI c := by
    intro c hc x hx
    obtain ⟨b, e, _, u⟩ := hchs c hc
    rw [e] at hx
    exact ⟨(u x hx).1, (u x hx).2.2.1⟩
  have hrv : ∀ c, c < 6 → rwV B c < 16 := by
    intro c hc
    obtain ⟨b, e, _, u⟩ := hchs c hc
    unfold rwV
    rw [e]
    cases b with
    | none => decide
    | some x => have := (u x rfl).1; show x + 1 < 16; omega
  obtain ⟨⟨fr, f1, f2, f3⟩, g1, g2, g3⟩ := us_bits hT hb hB55 6 (Nat.le_refl _)
  refine wq_mono (m_uses (fu := fu) (by omega) ht (by omega) hS0 hR0 hN) ?_
  rintro ⟨r, M', L'⟩ ⟨p1, p2, p3, p4, p5, p6⟩
  dsimp only at p1 p2 p3 p4 p5 p6 ⊢
  have hus : ∀ b y, ¬ (b = 5 ∧ (y = 5 ∨ y = 6)) → b ≠ 13 → b ≠ 16 → b ≠ 17 → b ≠ 19 → mset (usN B 6) 19 t (sI (rwN B 6)) b y = A b y := by
    intro b y h1 h2 h3 h4 h5
    rw [mset_k h5, usN_f h2 h3 h4 h1]
    exact hB3 b y (by omega)
  refine ⟨⟨tn, cn, U + 6, cut, RC_5 p1 (fun b y _ h2 => mset_k h2), ?_, p2, by omega, by omega, by omega, by omega, ?_, ?_, ?_⟩, ⟨fr, f1, ?_, ?_⟩, hus, p5, p6⟩
  · obtain ⟨c0, cT, c32, hseg⟩ := hAL
    refine ⟨c0, cT, (p5 787 32 (by omega) (by omega) (by omega)).trans c32, ?_⟩
    intro j hj
    obtain ⟨s1, s2, s3, kx, nx, pe, k1, k2, k3, k4, k5, k6, k7, k8, k9, k10, k11⟩ := hseg j hj
    refine ⟨s1, s2, fun k w1 w2 => (p5 812 k (by omega) (by omega) (by omega)).trans (s3 k w1 w2), kx, nx, pe, k1, k2, (hus 11 j (by omega) (by omega) (by omega) (by omega) (by omega)).trans k3, (hus 9 j (by omega) (by omega) (by omega) (by omega) (by omega)).trans k4, k5, k6, k7, k8, ?_, ?_, k11⟩
    · intro k w1 w2
      obtain ⟨z, z1, z2⟩ := k9 k w1 w2
      exact ⟨z, (p6 813 k (by omega) (by omega) (by omega)).trans z1, z2⟩
    · intro k w1 w2
      exact (p6 813 k (by omega) (by omega) (by omega)).trans (k10 k w1 w2)
  · rw [mset_k (by decide)]
    rcases g2 with q | q
    · exact Or.inr (q.trans hB56)
    · exact Or.inl q
  · intro hq
    rw [mset_k (by decide)] at hq
    have hno := g3 (by rw [hq]; decide)
    refine SA_5 (A := usN B 6) ?_ (fun b y _ h2 => mset_k h2)
    intro c hc
    obtain ⟨b, e, u1, u2⟩ := hchs c hc
    refine ⟨b, stl_us u1 6, fun x hx => ⟨(u2 x hx).1, ?_, ?_⟩⟩
    · have hrx : ran B 6 x := ⟨c, hc, by rw [e, hx]⟩
      rw [(g1 x hrx).2.1]
      have h1 := hno x hrx
      intro q
      apply h1
      have := congrArg (fun z => z + 1) q
      simpa using this
    · rw [usN_f (by decide) (by decide) (by decide) (by omega)]
      exact (u2 x hx).2.2.1
  · intro s hs
    by_cases hst : s = t
    · subst hst
      refine ⟨rwV B, hrv, ?_, p3⟩
      rw [mset_s, rwN_S]
    · obtain ⟨v, v1, v2, v3⟩ := hW s (by omega)
      refine ⟨v, v1, ?_, ?_⟩
      · rw [mset_j hst, usN_f (by decide) (by decide) (by decide) (by omega), hBo 19 s (by omega), h19]
        exact v2
      · intro c hc
        rw [p4 _ (fun c' hc' => by omega), h820]
        exact v3 c hc
  · rw [mset_k (by decide)]; exact f2
  · intro i hi
    obtain ⟨_, _, _, _, _, _, _, _, _, _, _, _, _, _, _, htA, _⟩ := hR0
    obtain ⟨_, _, _, _, _, _, _, _, _, _, _, _, _, _, _, htB, _⟩ := p1
    obtain ⟨rk, co, pe, mi, nx, st, lf, wa, tu, us, dn, q1, q2, q3⟩ := htA i hi
    obtain ⟨rk', co', pe', mi', nx', st', lf', wa', tu', us', dn', r1, r2, r3⟩ := htB i hi
    obtain ⟨w1, w2, w3, w4, w5, w6, w7, w8, w9, w10, w11, w12, w13, w14, w15, w16⟩ := q1
    obtain ⟨k1, k2, k3, k4, k5, k6, k7, k8, k9, k10, k11⟩ := q2
    obtain ⟨w1', w2', w3', w4', w5', w6', w7', w8', w9', w10', w11', w12', w13', w14', w15', w16'⟩ := r1
    obtain ⟨k1', k2', k3', k4', k5', k6', k7', k8', k9', k10', k11'⟩ := r2
    have hmi : mi' = mi := by
      rw [usN_f (by decide) (by decide) (by decide) (by omega), k4] at k4'
      exact (sI_inj (by omega) (by omega) k4').symm
    subst hmi
    have e17A : A 17 i = sI dn := by rw [← hBo 17 i (by omega)]; exact k11
    have eA10 : A 10 i = sI mi' := by rw [← hBo 10 i (by omega)]; exact k4
    have e17 : mset (usN B 6) 19 t (sI (rwN B 6)) 17 i = usN B 6 17 i := mset_k (by decide)
    refine ⟨us, us', mi', dn, q3.2.2.2.2.2.2.2.2.2.2.2.1, r3.2.2.2.2.2.2.2.2.2.2.2.1, by omega, ?_, eA10, w6, ?_, e17A, by omega, ?_⟩
    all_goals by_cases hr : ran B 6 i
    · obtain ⟨x1, x2, x3⟩ := g1 i hr
      rw [x1, k10, sI_1] at k10'
      have := sI_inj (by omega) (by omega) k10'
      omega
    · have hz := usN_13 (A := B) (x := i) 6 (fun c' hc' q => hr ⟨c', hc', q⟩) 16 (by omega)
      rw [hz, k10] at k10'
      have := sI_inj (by omega) (by omega) k10'
      omega
    · obtain ⟨x1, x2, x3⟩ := g1 i hr
      rw [f3 i hi]
      have hlf0 : lf ≠ 0 := by
        obtain ⟨c, hc, hcx⟩ := hr
        obtain ⟨b, e, _, u⟩ := hchs c hc
        have := (u i (by rw [← e]; exact hcx)).2.1
        intro q
        apply this
        rw [k7, q]; rfl
      obtain ⟨l0, rfl⟩ : ∃ l0, lf = l0 + 1 := ⟨lf - 1, by omega⟩
      have hus' : us' = us + 1 := by
        rw [x1, k10, sI_1] at k10'
        exact (sI_inj (by omega) (by omega) k10').symm
      have hlf' : lf' = l0 := by
        rw [x2, k7, sI_m1] at k7'
        exact (sI_inj (by omega) (by omega) k7').symm
      rw [dn_iff w15' w16' (by omega), hlf', k7]
      constructor
      · rintro ⟨_, q⟩
        have q2 : sI (l0 + 1) = sI 1 := q
        have := sI_inj (by omega) (by omega) q2
        omega
      · rintro ⟨_, q⟩
        refine ⟨hr, ?_⟩
        rw [q]; rfl
    · rw [f3 i hi]
      have hz := usN_13 (A := B) (x := i) 6 (fun c' hc' q => hr ⟨c', hc', q⟩) 16 (by omega)
      rw [hz, k10] at k10'
      have := sI_inj (by omega) (by omega) k10'
      constructor
      · rintro ⟨q, _⟩; exact absurd q hr
      · rintro ⟨q, _⟩; omega
    · obtain ⟨x1, x2, x3⟩ := g1 i hr
      rw [e17, x3, k11, sI_1]
      by_cases h13 : B 13 i = 1
      · rw [if_pos h13, if_pos ((f3 i hi).mpr ⟨hr, h13⟩)]
      · rw [if_neg h13, if_neg (fun q => h13 ((f3 i hi).mp q).2)]
    · have hz := usN_13 (A := B) (x := i) 6 (fun c' hc' q => hr ⟨c', hc', q⟩) 17 (by omega)
      rw [e17, hz, k11, if_neg (fun q => hr ((f3 i hi).mp q).1)]
/-- the cores' microsecond -/
theorem st_micro {fu : Nat} {A M : mwM} {L Lc : mwL} {T C t : Nat} (hf : 500 ≤ fu) (ht : t < 20000) (h : RCo A M L T C t) : ∃ A', DX4_passMicrosecond fu (sI t) A Lc = some (A', Lc) ∧ wq (DX15_microsecond fu M L) (fun q => RCo A' q.2.1 q.2.2 T C (t + 1) ∧ (∃ fr, fr < 2 ^ T ∧ A' 5 5 = sI fr ∧ ∀ i, i < T → ∃ us us' mi dn, L 805 (i + 1) = sL us ∧ q.2.2 805 (i + 1) = sL us' ∧ us' < 1000000 ∧ us ≤ us' ∧ A 10 i = sI mi ∧ mi ≤ 1000 ∧ (fr.testBit i = true ↔ us < us' ∧ us' % (mi + 1) = 0) ∧ A 17 i = sI dn ∧ dn < 1000000 ∧ A' 17 i = sI (if fr.testBit i = true then dn + 1 else dn)) ∧ (∀ b y, b ≠ 5 → ¬ (11 ≤ b ∧ b ≤ 19) → A' b y = A b y) ∧ (∀ b y, (b < 787 ∨ 820 < b) → q.2.1 b y = M b y) ∧ ∀ b y, (b < 787 ∨ 820 < b) → q.2.2 b y = L b y) := by
  obtain ⟨tn, cn, U, cut, hR, hAL, h43, ht2, b1, b2, b3, h56, hSA, hW⟩ := h
  have hT := hR.1
  have hwa : ∀ j, j < T → A 14 j = 0 ∨ A 14 j = 1 := by
    obtain ⟨_, _, _, _, _, _, _, _, _, _, _, _, _, _, _, htA, _⟩ := hR
    intro j hj
    obtain ⟨rk, co, pe, mi, nx, st, lf, wa, tu, us, dn, q1, q2, q3⟩ := htA j hj
    have hw2 : wa < 2 := q1.2.2.2.2.2.2.2.2.2.1
    rw [q2.2.2.2.2.2.2.2.1]
    rcases Nat.lt_or_ge wa 1 with q | q
    · left
      have : wa = 0 := by omega
      rw [this]; rfl
    · right
      have : wa = 1 := by omega
      rw [this]; rfl
  have hact := c_activate (fu := fu) (L := Lc) (t := t) (by omega) hT hR.2.2.2.2.1 hwa
  -- the reference: its table
  obtain ⟨M1, L1, tn1, cn1, heq, hR1, htn1, hcn1, hal⟩ : ∃ M1 L1 tn1 cn1, DX15_microsecond fu M L = fX15_microsecond_h42 fu fu (1, M1, L1) ∧ RC (actN A t T) M1 L1 T C tn1 cn1 U ∧ tn1 ≤ tn + T ∧ cn1 ≤ cn + T ∧ alM M M1 L L1 := by
    have hc0 : cut 0 = 0 := hAL.1
    have hcT : cut T ≤ 480 := hAL.2.1
    have := m_alarms (fu := fu) (C := C) (U := U) (tn0 := tn) (cn0 := cn) (P := fun o => ∃ M1 L1 tn1 cn1, o = fX15_microsecond_h42 fu fu (1, M1, L1) ∧ RC (actN A t T) M1 L1 T C tn1 cn1 U ∧ tn1 ≤ tn + T ∧ cn1 ≤ cn + T ∧ alM M M1 L L1) hT ht (by omega) (by omega) hAL h43 (fun M' L' tn' cn' q1 q2 q3 q4 => ⟨M', L', tn', cn', rfl, q1, q2, q3, q4⟩) T 0 fu tn cn M L (by omega) (by omega) (by omega) (by omega) ⟨fun _ _ _ _ => rfl, fun _ _ _ _ => rfl⟩ hR
    rw [hc0] at this
    exact this
  have hAL1 : ∀ (A2 M2 : mwM) (L2 : mwL), (∀ j, A2 11 j = actN A t T 11 j) → (∀ j, A2 9 j = actN A t T 9 j) → M2 787 32 = M1 787 32 → (∀ k, M2 812 k = M1 812 k) → (∀ k, L2 813 k = L1 813 k) → AL A2 M2 L2 T (t + 1) cut := by
    intro A2 M2 L2 w1 w2 w3 w4 w5
    refine AL_next ht hAL ?_ ?_ (w3.trans (hal.1 787 32 (by omega) (by omega))) (fun k => (w4 k).trans (hal.1 812 k (by omega) (by omega))) (fun k => (w5 k).trans (hal.2 813 k (by omega) (by omega)))
    · intro j hj
      rw [w1, actN_11 T (Nat.le_refl _)]
      by_cases hq : A 11 j = sI t
      · rw [if_pos ⟨hj, hq⟩, if_pos hq]
      · rw [if_neg (fun q => hq q.2), if_neg hq]
    · intro j hj
      rw [w2]
      exact actN_g (by omega) (by omega) T
  have hN1 : L1 787 43 = sL t := by rw [hal.2 787 43 (by omega) (by omega)]; exact h43
  have hfin : ∀ (A2 : mwM) (M2 : mwM) (L2 : mwL) (q : Int32 × mwM × mwL) (A' : mwM), (∀ b y, b ≠ 5 → ¬ (11 ≤ b ∧ b ≤ 19) → A2 b y = A b y) → (∀ y, A2 17 y = A 17 y) → (∀ b y, (b < 787 ∨ 820 < b) → M2 b y = M b y) → (∀ b y, (b < 787 ∨ 820 < b) → L2 b y = L b y) → (∀ y, L2 805 y = L 805 y) → (RCo A' q.2.1 q.2.2 T C (t + 1) ∧ (∃ fr, fr < 2 ^ T ∧ A' 5 5 = sI fr ∧ ∀ i, i < T → ∃ us us' mi dn, L2 805 (i + 1) = sL us ∧ q.2.2 805 (i + 1) = sL us' ∧ us' < 1000000 ∧ us ≤ us' ∧ A2 10 i = sI mi ∧ mi ≤ 1000 ∧ (fr.testBit i = true ↔ us < us' ∧ us' % (mi + 1) = 0) ∧ A2 17 i = sI dn ∧ dn < 1000000 ∧ A' 17 i = sI (if fr.testBit i = true then dn + 1 else dn)) ∧ (∀ b y, ¬ (b = 5 ∧ (y = 5 ∨ y = 6)) → b ≠ 13 → b ≠ 16 → b ≠ 17 → b ≠ 19 → A' b y = A2 b y) ∧ (∀ b y, b ≠ 820 → b ≠ 799 → b ≠ 801 → q.2.1 b y = M2 b y) ∧ ∀ b y, b ≠ 800 → b ≠ 805 → ¬ (b = 787 ∧ y = 43) → q.2.2 b y = L2 b y) → (RCo A' q.2.1 q.2.2 T C (t + 1) ∧ (∃ fr, fr < 2 ^ T ∧ A' 5 5 = sI fr ∧ ∀ i, i < T → ∃ us us' mi dn, L 805 (i + 1) = sL us ∧ q.2.2 805 (i + 1) = sL us' ∧ us' < 1000000 ∧ us ≤ us' ∧ A 10 i = sI mi ∧ mi ≤ 1000 ∧ (fr.testBit i = true ↔ us < us' ∧ us' % (mi + 1) = 0) ∧ A 17 i = sI dn ∧ dn < 1000000 ∧ A' 17 i = sI (if fr.testBit i = true then dn + 1 else dn)) ∧ (∀ b y, b ≠ 5 → ¬ (11 ≤ b ∧ b ≤ 19) → A' b y = A b y) ∧ (∀ b y, (b < 787 ∨ 820 < b) → q.2.1 b y = M b y) ∧ ∀ b y, (b < 787 ∨ 820 < b) → q.2.2 b y = L b y) := by
    intro A2 M2 L2 q A' e1 e2 e3 e4 e5 ⟨q1, ⟨fr, q2, q3, q4⟩, q5, q6, q7⟩
    refine ⟨q1, ⟨fr, q2, q3, ?_⟩, fun b y h1 h2 => (q5 b y (by omega) (by omega) (by omega) (by omega) (by omega)).trans (e1 b y h1 h2), fun b y h1 => (q6 b y (by omega) (by omega) (by omega)).trans (e3 b y h1), fun b y h1 => (q7 b y (by omega) (by omega) (by omega)).trans (e4 b y h1)⟩
    intro i hi
    obtain ⟨us, us', mi, dn, x1, x2, x3, x4, x5, x6, x7, x8, x9, x10⟩ := q4 i hi
    exact ⟨us, us', mi, dn, by rw [← e5]; exact x1, x2, x3, x4, by rw [← e1 10 i (by omega) (by omega)]; exact x5, x6, x7, by rw [← e2]; exact x8, x9, x10⟩
  have a1 : ∀ b y, b ≠ 5 → ¬ (11 ≤ b ∧ b ≤ 19) → actN A t T b y = A b y := fun b y h1 h2 => actN_g (by omega) (by omega) T
  have a17 : ∀ y, actN A t T 17 y = A 17 y := fun y => actN_g (by omega) (by omega) T
  have a19 : ∀ y, actN A t T 19 y = A 19 y := fun y => actN_g (by omega) (by omega) T
  unfold DX4_passMicrosecond
  rw [hact, mb2_s]
  by_cases hz : actN A t T 5 6 = 0
  · rw [if_pos hz]
    simp only [mlet]
    have hR1' : RC (mset (actN A t T) 5 6 1) M1 L1 T C tn1 cn1 U := RC_5 hR1 (fun b y h1 _ => mset_n (by omega))
    obtain ⟨A2, tn2, c1, c2, c3, c4, c5, ⟨Mx, Lx, c6⟩, c7⟩ := st_unsettled (Lc := Lc) (t := t) (fu := fu) (by omega) (by omega) ⟨M1, L1, hR1'⟩
    have g9 : ∀ b y, b ≠ 5 → ¬ (12 ≤ b ∧ b ≤ 15) → b ≠ 18 → A2 b y = actN A t T b y := fun b y h1 h2 h3 => (c5.1 b y h1 h2 h3).trans (mset_k h1)
    have h561 : A2 5 6 = 1 := by rw [c5.2 6 (by omega), mset_s]
    -- the class's memory behind it doesn't depend on the reference's
    have hcls : ∃ A', fX4_passMicrosecond_b36 fu (sI t) A2 Lc = some (A', Lc) ∧ ∀ A'', fX4_passMicrosecond_b36 fu (sI t) A2 Lc = some (A'', Lc) → A'' = A' := by
      have := st_uses (fu := fu) (Lc := Lc) (t := t) (by omega) ht (by omega) c4 ⟨Mx, Lx, c6⟩
      exact ⟨_, this, fun A'' h => by rw [this] at h; injection h with h; injection h with h _; exact h.symm⟩
    obtain ⟨A', k1, k2⟩ := hcls
    refine ⟨A', ?_, ?_⟩
    · rw [show (0 : Int32) = sI 0 from rfl] at c1 ⊢
      rw [c1]
      exact k1
    · rw [heq]
      obtain ⟨g, hg⟩ : ∃ g, fu = g + 3 := ⟨fu - 3, by omega⟩
      have hgo := c7 M1 L1 g (fun q => RCo A' q.2.1 q.2.2 T C (t + 1) ∧ (∃ fr, fr < 2 ^ T ∧ A' 5 5 = sI fr ∧ ∀ i, i < T → ∃ us us' mi dn, L 805 (i + 1) = sL us ∧ q.2.2 805 (i + 1) = sL us' ∧ us' < 1000000 ∧ us ≤ us' ∧ A 10 i = sI mi ∧ mi ≤ 1000 ∧ (fr.testBit i = true ↔ us < us' ∧ us' % (mi + 1) = 0) ∧ A 17 i = sI dn ∧ dn < 1000000 ∧ A' 17 i = sI (if fr.testBit i = true then dn + 1 else dn)) ∧ (∀ b y, b ≠ 5 → ¬ (11 ≤ b ∧ b ≤ 19) → A' b y = A b y) ∧ (∀ b y, (b < 787 ∨ 820 < b) → q.2.1 b y = M b y) ∧ ∀ b y, (b < 787 ∨ 820 < b) → q.2.2 b y = L b y) hR1' ?_
      · rw [← hg] at hgo
        exact hgo
      · intro M2 L2 hR2 hlo
        obtain ⟨A'', t1, t2⟩ := st_tail (fu := fu) (A0 := A) (M0 := M) (L0 := L) (Lc := Lc) (cut := cut) hf ht hR2 c4 (by rw [hlo.2 787 43 (by omega) (by omega)]; exact hN1) b3 (by omega) (by omega) h561 hW (fun y => (g9 19 y (by omega) (by omega) (by omega)).trans (a19 y)) (fun y => (hlo.1 820 y (by omega)).trans (hal.1 820 y (by omega) (by omega))) (hAL1 A2 M2 L2 (fun j => g9 11 j (by omega) (by omega) (by omega)) (fun j => g9 9 j (by omega) (by omega) (by omega)) (hlo.1 787 32 (by omega)) (fun k => hlo.1 812 k (by omega)) (fun k => hlo.2 813 k (by omega) (by omega)))
        have := k2 A'' t1
        subst this
        refine wq_mono t2 (fun q hq => hfin A2 M2 L2 q A'' ?_ ?_ ?_ ?_ ?_ hq)
        · intro b y h1 h2
          exact (g9 b y h1 (by omega) (by omega)).trans (a1 b y h1 h2)
        · intro y
          exact (g9 17 y (by omega) (by omega) (by omega)).trans (a17 y)
        · intro b y h1
          exact (hlo.1 b y (by omega)).trans (hal.1 b y (by omega) (by omega))
        · intro b y h1
          exact (hlo.2 b y (by omega) (by omega)).trans (hal.2 b y (by omega) (by omega))
        · intro y
          exact (hlo.2 805 y (by omega) (by omega)).trans (hal.2 805 y (by omega) (by omega))
  · rw [if_neg hz]
    have hsame : actN A t T = A := by
      rcases actN_56 (A := A) (t := t) T (Nat.le_refl _) with q | q
      · exact q
      · exact absurd q hz
    rw [hsame] at hR1 hz hAL1 ⊢
    have h561 : A 5 6 = 1 := by
      rcases h56 with q | q
      · exact absurd q hz
      · exact q
    have hS := hSA h561
    obtain ⟨A', t1, t2⟩ := st_tail (fu := fu) (A0 := A) (M0 := M) (L0 := L) (Lc := Lc) (cut := cut) hf ht hR1 hS hN1 b3 (by omega) (by omega) h561 hW (fun _ => rfl) (fun y => hal.1 820 y (by omega) (by omega)) (hAL1 A M1 L1 (fun _ => rfl) (fun _ => rfl) rfl (fun _ => rfl) (fun _ => rfl))
    refine ⟨A', t1, ?_⟩
    rw [heq]
    obtain ⟨g, hg⟩ : ∃ g, fu = g + 2 := ⟨fu - 2, by omega⟩
    have hgo := m_settled (fu := fu) (f := g) (by omega) hR1 hS (wq_mono t2 (fun q hq => hfin A M1 L1 q A' (fun _ _ _ _ => rfl) (fun _ => rfl) (fun b y h1 => hal.1 b y (by omega) (by omega)) (fun b y h1 => hal.2 b y (by omega) (by omega)) (fun y => hal.2 805 y (by omega) (by omega)) hq))
    rw [← hg] at hgo
    exact hgo
/-! the reference's run of one microsecond -/
theorem RC_M {A M M' : mwM} {L : mwL} {T C tn cn U : Nat} (h : RC A M L T C tn cn U) (hM : ∀ b y, b ≠ 808 → M' b y = M b y) : RC A M' L T C tn cn U := by
  obtain ⟨h1, h2, h3, h4, h5, h6, h7, h8, h9, h10, h11, h12, h13, h14, h15, h16, h17⟩ := h
  refine ⟨h1, h2, h3, h4, h5, by rw [hM _ _ (by omega)]; exact h6, by rw [hM _ _ (by omega)]; exact h7, by rw [hM _ _ (by omega)]; exact h8, h9, h10, by rw [hM _ _ (by omega)]; exact h11, by rw [hM _ _ (by omega)]; exact h12, fun r q1 q2 => by rw [hM _ _ (by omega)]; exact h13 r q1 q2, fun r q1 q2 => by rw [hM _ _ (by omega)]; exact h14 r q1 q2, by rw [hM _ _ (by omega)]; exact h15, ?_, h17⟩
  intro i hi
  obtain ⟨rk, co, pe, mi, nx, st, lf, wa, tu, us, dn, q1, q2, q3⟩ := h16 i hi
  exact ⟨rk, co, pe, mi, nx, st, lf, wa, tu, us, dn, q1, q2, tm_f q3 (fun b _ _ _ _ _ _ _ h8 _ => hM b _ h8) (hM _ _ (by omega)) (hM _ _ (by omega)) rfl (fun _ _ _ => rfl)⟩
theorem RCo_M {A M M' : mwM} {L : mwL} {T C t : Nat} (h : RCo A M L T C t) (hM : ∀ b y, b ≠ 808 → M' b y = M b y) : RCo A M' L T C t := by
  obtain ⟨tn, cn, U, cut, hR, ⟨c0, cT, c32, hseg⟩, h43, ht2, b1, b2, b3, h56, hSA, hW⟩ := h
  refine ⟨tn, cn, U, cut, RC_M hR hM, ⟨c0, cT, (hM _ _ (by omega)).trans c32, ?_⟩, h43, ht2, b1, b2, b3, h56, hSA, ?_⟩
  · intro j hj
    obtain ⟨s1, s2, s3, s4⟩ := hseg j hj
    exact ⟨s1, s2, fun k w1 w2 => (hM _ _ (by omega)).trans (s3 k w1 w2), s4⟩
  · intro s hs
    obtain ⟨v, v1, v2, v3⟩ := hW s hs
    exact ⟨v, v1, v2, fun c hc => (hM _ _ (by omega)).trans (v3 c hc)⟩
theorem m_ceil {fu : Nat} {M : mwM} {L : mwL} {T : Nat} (hf : 34 ≤ fu) (hT : T ≤ 12) (h7 : M 787 7 = sI T) (hk : ∀ k, k < T → M 794 k = 0) : wq (DX15_findCeilings fu M L) (fun q => q.2 = L ∧ ∀ b y, b ≠ 808 → q.1 b y = M b y) := by
  unfold DX15_findCeilings
  refine wq_for (body := fun r s => fX15_findCeilings_i2 fu r s.1 s.2.1 s.2.2) (fun i (a : mwM) => (sI i, a, L)) (fun _ a => ∀ b y, b ≠ 808 → a b y = M b y) 33 ?_ ?_ 32 1 M fu (by omega) (by omega) (fun _ _ _ => rfl)
  · intro i a r hi hP ih
    show wq (fX15_findCeilings_i2 fu r (sI i) a L) _
    unfold fX15_findCeilings_i2
    rw [if_neg (by rw [sI_llt (by omega) (by omega)]; omega), mck_s (by omega) (by omega), sI_nn (by omega)]
    simp only [mlet]
    rw [sI_1]
    exact ih (mset a 808 i 0) (fun b y hb => by rw [mset_k hb]; exact hP b y hb)
  · intro a r hP
    show wq (fX15_findCeilings_i2 fu r (sI 33) a L) _
    unfold fX15_findCeilings_i2
    rw [if_pos (by decide)]
    refine wq_for (body := fun r s => fX15_findCeilings_i23 fu r s.1 s.2.1 s.2.2) (fun i (_ : Unit) => (sI i, a, L)) (fun _ _ => True) T ?_ ?_ T 0 () fu (by omega) (by omega) trivial
    · intro i _ r2 hi _ ih
      show wq (fX15_findCeilings_i23 fu r2 (sI i) a L) _
      unfold fX15_findCeilings_i23 fX15_findCeilings_b87
      rw [hP 787 7 (by omega), h7, if_neg (by rw [sI_le (by omega) (by omega)]; omega), mck_s (by omega) (by omega), sI_nn (by omega)]
      simp only [mlet]
      rw [mck_s (by omega) (by omega), hP 794 i (by omega), hk i hi, if_neg (by decide), sI_1]
      exact ih () trivial
    · intro _ r2 _
      show wq (fX15_findCeilings_i23 fu r2 (sI T) a L) _
      unfold fX15_findCeilings_i23
      rw [hP 787 7 (by omega), h7, if_pos (by rw [sI_le (by omega) (by omega)]; omega)]
      exact wq_some ⟨rfl, hP⟩
theorem sL_sub {a b : Nat} (h : b ≤ a) : sL a - sL b = sL (a - b) := by
  have e : sL a = sL (a - b) + sL b := by rw [sL_add]; congr 1; omega
  rw [e]
  simp
theorem m_run1 {fu : Nat} {M : mwM} {L : mwL} {T t : Nat} {P : mwM × mwL → Prop} (hf : 34 ≤ fu) (ht : t < 20000) (hT : T ≤ 12) (h7 : M 787 7 = sI T) (hk : ∀ k, k < T → M 794 k = 0) (hN : L 787 43 = sL t) (h : ∀ M', (∀ b y, b ≠ 808 → M' b y = M b y) → wq (DX15_microsecond fu M' L) (fun q => P (q.2.1, q.2.2))) : wq (DX15_run fu 1 M L) (fun q => P (q.2.1, q.2.2)) := by
  unfold DX15_run
  rw [if_neg (by decide), hN, show (50000 : Int64) - sL t = sL (50000 - t) from sL_sub (a := 50000) (by omega), if_pos (by
    rw [lg_cmp_le]
    show sL 1 ≤ _
    rw [sL_le (by omega) (by omega)]
    omega)]
  refine wq_b2 (m_ceil hf hT h7 hk) ?_
  rintro M1 L1 ⟨hL1, hM1⟩
  dsimp only at hL1 hM1
  subst hL1
  obtain ⟨g, hg⟩ : ∃ g, fu = g + 2 := ⟨fu - 2, by omega⟩
  have hgo : wq (fX15_run_h31 fu 1 (g + 2) (0, 0, M1, L1)) (fun q => P (q.2.1, q.2.2)) := by
    unfold fX15_run_h31
    rw [mloop_S]
    show wq (fX15_run_i31 fu 1 (fX15_run_h31 fu 1 (g + 1)) 0 0 M1 L1) _
    unfold fX15_run_i31
    rw [if_neg (by decide)]
    refine wq_b3 (h M1 hM1) ?_
    rintro r M2 L2 hP
    dsimp only at hP
    simp only [mlet]
    unfold fX15_run_h31
    rw [mloop_S]
    show wq (fX15_run_i31 fu 1 _ (0 + r) (0 + 1) M2 L2) _
    unfold fX15_run_i31
    rw [if_pos (by decide)]
    exact wq_some hP
  rw [← hg] at hgo
  exact hgo
/-- the cores' microsecond, as both sides call it -/
theorem st_cores {fu : Nat} {A M : mwM} {L Lc : mwL} {T C t : Nat} (hf : 500 ≤ fu) (ht : t < 20000) (h : RCo A M L T C t) : ∃ A', DX4_passMicrosecond fu (sI t) A Lc = some (A', Lc) ∧ wq (DX15_run fu 1 M L) (fun q => RCo A' q.2.1 q.2.2 T C (t + 1) ∧ (∃ fr, fr < 2 ^ T ∧ A' 5 5 = sI fr ∧ ∀ i, i < T → ∃ us us' mi dn, L 805 (i + 1) = sL us ∧ q.2.2 805 (i + 1) = sL us' ∧ us' < 1000000 ∧ us ≤ us' ∧ A 10 i = sI mi ∧ mi ≤ 1000 ∧ (fr.testBit i = true ↔ us < us' ∧ us' % (mi + 1) = 0) ∧ A 17 i = sI dn ∧ dn < 1000000 ∧ A' 17 i = sI (if fr.testBit i = true then dn + 1 else dn)) ∧ (∀ b y, b ≠ 5 → ¬ (11 ≤ b ∧ b ≤ 19) → A' b y = A b y) ∧ (∀ b y, (b < 787 ∨ 820 < b) → q.2.1 b y = M b y) ∧ ∀ b y, (b < 787 ∨ 820 < b) → q.2.2 b y = L b y) := by
  have h0 := h
  obtain ⟨tn, cn, U, cut, hR, _, h43, _, _, _, _, _, _, _⟩ := h0
  have hT := hR.1
  have h7 := hR.2.2.2.2.2.2.1
  have h794 : ∀ k, k < T → M 794 k = 0 := by
    obtain ⟨_, _, _, _, _, _, _, _, _, _, _, _, _, _, _, htA, _⟩ := hR
    intro k hk
    obtain ⟨rk, co, pe, mi, nx, st, lf, wa, tu, us, dn, q1, q2, q3⟩ := htA k hk
    exact q3.2.2.2.2.2.1
  obtain ⟨A', e1, _⟩ := st_micro (Lc := Lc) hf ht h
  refine ⟨A', e1, ?_⟩
  refine m_run1 (P := fun q => RCo A' q.1 q.2 T C (t + 1) ∧ (∃ fr, fr < 2 ^ T ∧ A' 5 5 = sI fr ∧ ∀ i, i < T → ∃ us us' mi dn, L 805 (i + 1) = sL us ∧ q.2 805 (i + 1) = sL us' ∧ us' < 1000000 ∧ us ≤ us' ∧ A 10 i = sI mi ∧ mi ≤ 1000 ∧ (fr.testBit i = true ↔ us < us' ∧ us' % (mi + 1) = 0) ∧ A 17 i = sI dn ∧ dn < 1000000 ∧ A' 17 i = sI (if fr.testBit i = true then dn + 1 else dn)) ∧ (∀ b y, b ≠ 5 → ¬ (11 ≤ b ∧ b ≤ 19) → A' b y = A b y) ∧ (∀ b y, (b < 787 ∨ 820 < b) → q.1 b y = M b y) ∧ ∀ b y, (b < 787 ∨ 820 < b) → q.2 b y = L b y) (by omega) ht hT h7 h794 h43 ?_
  intro M' hM'
  obtain ⟨A2, e2, e3⟩ := st_micro (Lc := Lc) hf ht (RCo_M h hM')
  rw [e1] at e2
  injection e2 with e2
  injection e2 with e2 _
  subst e2
  refine wq_mono e3 ?_
  rintro q ⟨q1, q2, q3, q4, q5⟩
  exact ⟨q1, q2, q3, fun b y hb => (q4 b y hb).trans (hM' b y (by omega)), q5⟩
/-! what the calls ask of the cores -/
theorem rwS_dig {v : Nat → Nat} (h : ∀ c, c < 6 → v c < 16) : ∀ n, n ≤ 6 → rwS v n < 16 ^ n ∧ ∀ c, c < n → rwS v n / 16 ^ c % 16 = v c := by
  intro n
  induction n with
  | zero => intro _; exact ⟨Nat.one_pos, fun c hc => by omega⟩
  | succ n ih =>
    intro hn
    obtain ⟨i1, i2⟩ := ih (by omega)
    have hv := h n (by omega)
    have e : rwS v (n + 1) = rwS v n + v n * 16 ^ n := rfl
    have hp : 0 < 16 ^ n := Nat.pow_pos (by omega)
    refine ⟨?_, ?_⟩
    · rw [e, Nat.pow_succ]
      have : (v n + 1) * 16 ^ n ≤ 16 * 16 ^ n := Nat.mul_le_mul_right _ (by omega)
      rw [Nat.add_mul, Nat.one_mul, Nat.mul_comm 16] at this
      omega
    · intro c hc
      rw [e]
      by_cases hcn : c = n
      · subst hcn
        rw [Nat.add_mul_div_right _ _ hp, Nat.div_eq_of_lt i1, Nat.zero_add, Nat.mod_eq_of_lt hv]
      · have hlt : c < n := by omega
        obtain ⟨d, hd⟩ : ∃ d, n = c + (d + 1) := ⟨n - c - 1, by omega⟩
        have hpc : 0 < 16 ^ c := Nat.pow_pos (by omega)
        have e2 : v n * 16 ^ n = v n * 16 ^ d * 16 * 16 ^ c := by
          rw [hd, Nat.pow_add, Nat.pow_succ]
          simp only [Nat.mul_assoc, Nat.mul_comm, Nat.mul_left_comm]
        rw [e2, Nat.add_mul_div_right _ _ hpc, Nat.add_mul_mod_self_right]
        exact i2 c hlt
theorem c_who {fu : Nat} {A : mwM} {L : mwL} {v : Nat → Nat} {c s : Nat} (hs : s < 20000) (hc : c < 6) (hv : ∀ c, c < 6 → v c < 16) (h : A 19 s = sI (rwS v 6)) : DX4_whoRan fu (sI c) (sI s) A L = some (sI (v c), A, L) := by
  obtain ⟨d1, d2⟩ := rwS_dig hv 6 (Nat.le_refl _)
  unfold DX4_whoRan
  rw [mck_s hs (by omega), sI_nn (by omega), h]
  have e1 : ∀ c, c < 6 → (4 * sI c) &&& 31 = sI (4 * c) := by decide +kernel
  rw [e1 c hc]
  have d3 := d2 c hc
  generalize rwS v 6 = R at *
  have d1' : R < 16777216 := d1
  have e2 : (sI R >>> sI (4 * c)) &&& 15 = sI (R / 16 ^ c % 16) := by
    apply Int32.toBitVec_inj.mp
    show (BitVec.ofNat 32 R).sshiftRight ((BitVec.ofNat 32 (4 * c)).smod 32).toNat &&& 15#32 = BitVec.ofNat 32 (R / 16 ^ c % 16)
    have e3 : ∀ c, c < 6 → ((BitVec.ofNat 32 (4 * c)).smod 32).toNat = 4 * c := by decide +kernel
    rw [e3 c hc, BitVec.sshiftRight_eq_of_msb_false (by
      rw [BitVec.msb_eq_false_iff_two_mul_lt, BitVec.toNat_ofNat, Nat.mod_eq_of_lt (by omega)]
      omega)]
    apply BitVec.eq_of_toNat_eq
    rw [BitVec.toNat_and, BitVec.toNat_ushiftRight, BitVec.toNat_ofNat, BitVec.toNat_ofNat, Nat.mod_eq_of_lt (show R < 2 ^ 32 by omega), Nat.shiftRight_eq_div_pow]
    have h16 : (16 : Nat) ^ c = 2 ^ (4 * c) := by rw [Nat.pow_mul]
    rw [← h16]
    have h15 : (15 % 2 ^ 32 : Nat) = 2 ^ 4 - 1 := by decide
    have h17 : R / 16 ^ c % 16 < 16 := Nat.mod_lt _ (by decide)
    rw [h15, Nat.and_two_pow_sub_one_eq_mod, BitVec.toNat_ofNat, Nat.mod_eq_of_lt (show R / 16 ^ c % 16 < 2 ^ 32 by omega)]
  rw [e2, d3]
/-! the reference's cores, made anew and filled with tasks -/
def CZ (M : mwM) (L : mwL) (C : Nat) : Prop := M 787 0 = sI C ∧ L 787 21 = sL 0 ∧ L 787 43 = sL 0 ∧ M 787 29 = 0 ∧ M 787 35 = 0 ∧ M 787 39 = sI 0 ∧ (∀ r, 1 ≤ r → r ≤ 32 → M 806 r = 0) ∧ (∀ r, 1 ≤ r → r ≤ 16 → M 809 r = 0) ∧ ∀ t, t < 101 → M 796 t = 0 ∧ M 798 t = 0 ∧ M 804 t = 0 ∧ M 810 t = 0 ∧ L 805 t = sL 0
theorem m_anew15 {fu : Nat} {M : mwM} {L : mwL} {C : Nat} (hf : 102 ≤ fu) : wq (DX15_anew fu (sI C) M L) (fun q => CZ q.1 q.2 C ∧ q.1 787 1 = sI 0 ∧ q.1 787 7 = sI 0 ∧ q.1 787 32 = sI 0 ∧ (∀ b y, (b < 787 ∨ 820 < b) → q.1 b y = M b y) ∧ ∀ b y, (b < 787 ∨ 820 < b) → q.2 b y = L b y) := by
  unfold DX15_anew
  simp only [mlet]
  refine wq_for (body := fun r s => fX15_anew_i57 fu (sI C) r s.1 s.2.1 s.2.2) (fun i (a : mwM × mwL) => (sI i, a.1, a.2)) (fun i a => (a.1 787 0 = sI C ∧ a.2 787 21 = sL 0 ∧ a.2 787 43 = sL 0 ∧ a.1 787 29 = 0 ∧ a.1 787 35 = 0 ∧ a.1 787 39 = sI 0 ∧ a.1 787 1 = sI 0 ∧ a.1 787 7 = sI 0 ∧ a.1 787 32 = sI 0) ∧ (∀ t, t < i → a.1 796 t = 0 ∧ a.1 798 t = 0 ∧ a.1 804 t = 0 ∧ a.1 810 t = 0 ∧ a.2 805 t = sL 0) ∧ (∀ b y, (b < 787 ∨ 820 < b) → a.1 b y = M b y) ∧ ∀ b y, (b < 787 ∨ 820 < b) → a.2 b y = L b y) 101 ?_ ?_ 101 0 (mset (mset (mset (mset (mset (mset (mset (mset M 787 0 (sI C)) 787 1 0) 787 7 0) 787 29 0) 787 31 0) 787 32 0) 787 35 0) 787 39 0, mset (mset (mset L 787 21 0) 787 28 0) 787 43 0) fu (by omega) (by omega) ⟨⟨?_, ?_, ?_, ?_, ?_, ?_, ?_, ?_, ?_⟩, fun t ht => by omega, ?_, ?_⟩
  · rintro i ⟨a, l⟩ r hi ⟨⟨p1, p2, p3, p4, p5, p6, p7, p8, p9⟩, q1, q2, q3⟩ ih
    dsimp only at p1 p2 p3 p4 p5 p6 p7 p8 p9 q1 q2 q3
    show wq (fX15_anew_i57 fu (sI C) r (sI i) a l) _
    unfold fX15_anew_i57
    rw [if_neg (by rw [sI_lle (by omega) (by omega)]; omega)]
    simp (disch := omega) only [mlet, mck_s, sI_nn, sI_1]
    have hb : ∀ v : Int32, v = 0 → vp_nar .boolean v = 0 := by
      intro v hv
      rw [hv]; rfl
    have hb0 : vp_nar .boolean (0 : Int32) = 0 := hb 0 rfl
    rw [hb0]
    refine ih (mset (mset (mset (mset (mset (mset (mset (mset a 796 i 0) 798 i 0) 799 i 0) 801 i 0) 802 i 0) 803 i 0) 804 i 0) 810 i 0, mset (mset l 800 i 0) 805 i 0) ⟨⟨?_, ?_, ?_, ?_, ?_, ?_, ?_, ?_, ?_⟩, ?_, ?_, ?_⟩
    all_goals (try dsimp only)
    · simp only [mset_k (show (787 : Nat) ≠ 796 by decide), mset_k (show (787 : Nat) ≠ 798 by decide), mset_k (show (787 : Nat) ≠ 799 by decide), mset_k (show (787 : Nat) ≠ 801 by decide), mset_k (show (787 : Nat) ≠ 802 by decide), mset_k (show (787 : Nat) ≠ 803 by decide), mset_k (show (787 : Nat) ≠ 804 by decide), mset_k (show (787 : Nat) ≠ 810 by decide)]; exact p1
    · rw [mset_k (by decide), mset_k (by decide)]; exact p2
    · rw [mset_k (by decide), mset_k (by decide)]; exact p3
    · simp only [mset_k (show (787 : Nat) ≠ 796 by decide), mset_k (show (787 : Nat) ≠ 798 by decide), mset_k (show (787 : Nat) ≠ 799 by decide), mset_k (show (787 : Nat) ≠ 801 by decide), mset_k (show (787 : Nat) ≠ 802 by decide), mset_k (show (787 : Nat) ≠ 803 by decide), mset_k (show (787 : Nat) ≠ 804 by decide), mset_k (show (787 : Nat) ≠ 810 by decide)]; exact p4
    · simp only [mset_k (show (787 : Nat) ≠ 796 by decide), mset_k (show (787 : Nat) ≠ 798 by decide), mset_k (show (787 : Nat) ≠ 799 by decide), mset_k (show (787 : Nat) ≠ 801 by decide), mset_k (show (787 : Nat) ≠ 802 by decide), mset_k (show (787 : Nat) ≠ 803 by decide), mset_k (show (787 : Nat) ≠ 804 by decide), mset_k (show (787 : Nat) ≠ 810 by decide)]; exact p5
    · simp only [mset_k (show (787 : Nat) ≠ 796 by decide), mset_k (show (787 : Nat) ≠ 798 by decide), mset_k (show (787 : Nat) ≠ 799 by decide), mset_k (show (787 : Nat) ≠ 801 by decide), mset_k (show (787 : Nat) ≠ 802 by decide), mset_k (show (787 : Nat) ≠ 803 by decide), mset_k (show (787 : Nat) ≠ 804 by decide), mset_k (show (787 : Nat) ≠ 810 by decide)]; exact p6
    · simp only [mset_k (show (787 : Nat) ≠ 796 by decide), mset_k (show (787 : Nat) ≠ 798 by decide), mset_k (show (787 : Nat) ≠ 799 by decide), mset_k (show (787 : Nat) ≠ 801 by decide), mset_k (show (787 : Nat) ≠ 802 by decide), mset_k (show (787 : Nat) ≠ 803 by decide), mset_k (show (787 : Nat) ≠ 804 by decide), mset_k (show (787 : Nat) ≠ 810 by decide)]; exact p7
    · simp only [mset_k (show (787 : Nat) ≠ 796 by decide), mset_k (show (787 : Nat) ≠ 798 by decide), mset_k (show (787 : Nat) ≠ 799 by decide), mset_k (show (787 : Nat) ≠ 801 by decide), mset_k (show (787 : Nat) ≠ 802 by decide), mset_k (show (787 : Nat) ≠ 803 by decide), mset_k (show (787 : Nat) ≠ 804 by decide), mset_k (show (787 : Nat) ≠ 810 by decide)]; exact p8
    · simp only [mset_k (show (787 : Nat) ≠ 796 by decide), mset_k (show (787 : Nat) ≠ 798 by decide), mset_k (show (787 : Nat) ≠ 799 by decide), mset_k (show (787 : Nat) ≠ 801 by decide), mset_k (show (787 : Nat) ≠ 802 by decide), mset_k (show (787 : Nat) ≠ 803 by decide), mset_k (show (787 : Nat) ≠ 804 by decide), mset_k (show (787 : Nat) ≠ 810 by decide)]; exact p9
    · intro t ht
      by_cases hti : t = i
      · subst hti
        refine ⟨?_, ?_, ?_, ?_, ?_⟩
        · rw [mset_k (by decide), mset_k (by decide), mset_k (by decide), mset_k (by decide), mset_k (by decide), mset_k (by decide), mset_k (by decide), mset_s]
        · rw [mset_k (by decide), mset_k (by decide), mset_k (by decide), mset_k (by decide), mset_k (by decide), mset_k (by decide), mset_s]
        · rw [mset_k (by decide), mset_s]
        · rw [mset_s]
        · rw [mset_s]; rfl
      · obtain ⟨w1, w2, w3, w4, w5⟩ := q1 t (by omega)
        refine ⟨?_, ?_, ?_, ?_, ?_⟩
        · rw [mset_j hti, mset_j hti, mset_j hti, mset_j hti, mset_j hti, mset_j hti, mset_j hti, mset_j hti]; exact w1
        · rw [mset_j hti, mset_j hti, mset_j hti, mset_j hti, mset_j hti, mset_j hti, mset_j hti, mset_j hti]; exact w2
        · rw [mset_j hti, mset_j hti, mset_j hti, mset_j hti, mset_j hti, mset_j hti, mset_j hti, mset_j hti]; exact w3
        · rw [mset_j hti, mset_j hti, mset_j hti, mset_j hti, mset_j hti, mset_j hti, mset_j hti, mset_j hti]; exact w4
        · rw [mset_j hti, mset_j hti]; exact w5
    · intro b y hb'
      rw [mset_k (by omega), mset_k (by omega), mset_k (by omega), mset_k (by omega), mset_k (by omega), mset_k (by omega), mset_k (by omega), mset_k (by omega)]
      exact q2 b y hb'
    · intro b y hb'
      rw [mset_k (by omega), mset_k (by omega)]
      exact q3 b y hb'
  · rintro ⟨a, l⟩ r ⟨⟨p1, p2, p3, p4, p5, p6, p7, p8, p9⟩, q1, q2, q3⟩
    dsimp only at p1 p2 p3 p4 p5 p6 p7 p8 p9 q1 q2 q3
    show wq (fX15_anew_i57 fu (sI C) r (sI 101) a l) _
    unfold fX15_anew_i57
    rw [if_pos (by decide)]
    refine wq_for (body := fun r s => fX15_anew_i141 fu (sI C) r s.1 s.2.1 s.2.2) (fun i (a : mwM) => (sI i, a, l)) (fun i b => (∀ r, r < i → b 806 r = 0) ∧ ∀ x y, x ≠ 806 → b x y = a x y) 33 ?_ ?_ 33 0 a fu (by omega) (by omega) ⟨fun r h => by omega, fun _ _ _ => rfl⟩
    · intro i b r2 hi ⟨u1, u2⟩ ih
      show wq (fX15_anew_i141 fu (sI C) r2 (sI i) b l) _
      unfold fX15_anew_i141
      rw [if_neg (by rw [sI_lle (by omega) (by omega)]; omega)]
      simp (disch := omega) only [mlet, mck_s, sI_nn, sI_1]
      refine ih _ ⟨?_, ?_⟩
      · intro r3 hr3
        by_cases hri : r3 = i
        · rw [hri, mset_s]
        · rw [mset_j hri]; exact u1 r3 (by omega)
      · intro x y hx
        rw [mset_k hx]; exact u2 x y hx
    · intro b r2 ⟨u1, u2⟩
      show wq (fX15_anew_i141 fu (sI C) r2 (sI 33) b l) _
      unfold fX15_anew_i141
      rw [if_pos (by decide)]
      refine wq_for (body := fun r s => fX15_anew_i162 fu (sI C) r s.1 s.2.1 s.2.2) (fun i (a : mwM) => (sI i, a, l)) (fun i c => (∀ r, r < i → c 809 r = 0) ∧ ∀ x y, x ≠ 809 → c x y = b x y) 17 ?_ ?_ 17 0 b fu (by omega) (by omega) ⟨fun r h => by omega, fun _ _ _ => rfl⟩
      · intro i c r3 hi ⟨u3, u4⟩ ih
        show wq (fX15_anew_i162 fu (sI C) r3 (sI i) c l) _
        unfold fX15_anew_i162
        rw [if_neg (by rw [sI_lle (by omega) (by omega)]; omega)]
        simp (disch := omega) only [mlet, mck_s, sI_nn, sI_1]
        refine ih _ ⟨?_, ?_⟩
        · intro r4 hr4
          by_cases hri : r4 = i
          · rw [hri, mset_s]
          · rw [mset_j hri]; exact u3 r4 (by omega)
        · intro x y hx
          rw [mset_k hx]; exact u4 x y hx
      · intro c r3 ⟨u3, u4⟩
        show wq (fX15_anew_i162 fu (sI C) r3 (sI 17) c l) _
        unfold fX15_anew_i162
        rw [if_pos (by decide)]
        have hc : ∀ x y, x ≠ 806 → x ≠ 809 → c x y = a x y := fun x y h1 h2 => (u4 x y h2).trans (u2 x y h1)
        refine wq_some ⟨⟨?_, p2, p3, ?_, ?_, ?_, ?_, ?_, ?_⟩, ?_, ?_, ?_, ?_, q3⟩
        all_goals (try dsimp only)
        · rw [hc _ _ (by omega) (by omega)]; exact p1
        · rw [hc _ _ (by omega) (by omega)]; exact p4
        · rw [hc _ _ (by omega) (by omega)]; exact p5
        · rw [hc _ _ (by omega) (by omega)]; exact p6
        · intro r4 _ h2
          rw [u4 _ _ (by omega)]
          exact u1 r4 (by omega)
        · intro r4 _ h2
          exact u3 r4 (by omega)
        · intro t ht
          obtain ⟨w1, w2, w3, w4, w5⟩ := q1 t ht
          exact ⟨by rw [hc _ _ (by omega) (by omega)]; exact w1, by rw [hc _ _ (by omega) (by omega)]; exact w2, by rw [hc _ _ (by omega) (by omega)]; exact w3, by rw [hc _ _ (by omega) (by omega)]; exact w4, w5⟩
        · rw [hc _ _ (by omega) (by omega)]; exact p7
        · rw [hc _ _ (by omega) (by omega)]; exact p8
        · rw [hc _ _ (by omega) (by omega)]; exact p9
        · intro x y hx
          rw [hc _ _ (by omega) (by omega)]
          exact q2 x y hx
  all_goals (try dsimp only)
  · rw [mset_j (by decide), mset_j (by decide), mset_j (by decide), mset_j (by decide), mset_j (by decide), mset_j (by decide), mset_j (by decide), mset_s]
  · rw [mset_j (by decide), mset_j (by decide), mset_s]; rfl
  · rw [mset_s]; rfl
  · rw [mset_j (by decide), mset_j (by decide), mset_j (by decide), mset_j (by decide), mset_s]
  · rw [mset_j (by decide), mset_s]
  · rw [mset_s]; rfl
  · rw [mset_j (by decide), mset_j (by decide), mset_j (by decide), mset_j (by decide), mset_j (by decide), mset_j (by decide), mset_s]; rfl
  · rw [mset_j (by decide), mset_j (by decide), mset_j (by decide), mset_j (by decide), mset_j (by decide), mset_s]; rfl
  · rw [mset_j (by decide), mset_j (by decide), mset_s]; rfl
  · intro b y hb
    rw [mset_k (by omega), mset_k (by omega), mset_k (by omega), mset_k (by omega), mset_k (by omega), mset_k (by omega), mset_k (by omega), mset_k (by omega)]
  · intro b y hb
    rw [mset_k (by omega), mset_k (by omega), mset_k (by omega)]
/-! one task -/
theorem m_task15 {fu : Nat} {M : mwM} {L : mwL} {C i rk co : Nat} (hi : i < 12) (hC : C ≤ 6) (hco : co < C) (hrk : rk < 256) (h0 : M 787 0 = sI C) (h1 : M 787 1 = sI i) (h43 : L 787 43 = sL 0) : wq (DX15_task fu (sI rk) (sI co) 2 0 M L) (fun q => q.1 = sI (i + 1) ∧ q.2.2 = L ∧ q.2.1 787 1 = sI (i + 1) ∧ q.2.1 788 (i + 1) = sI rk ∧ q.2.1 789 (i + 1) = sI co ∧ q.2.1 790 (i + 1) = 2 ∧ q.2.1 792 (i + 1) = 1 ∧ ∀ b y, ¬ (b = 787 ∧ y = 1) → ¬ (y = i + 1 ∧ 788 ≤ b ∧ b ≤ 792) → q.2.1 b y = M b y) := by
  unfold DX15_task
  rw [if_neg (by rw [sI_ltl (by omega) (by decide)]; exact Nat.not_lt_zero _), h0, if_pos (by rw [sI_lt (by omega) (by omega)]; exact hco), if_neg (by rw [sI_ltl (by omega) (by decide)]; exact Nat.not_lt_zero _), if_neg (by rw [sI_llt (by omega) (by omega)]; omega), if_neg (by decide), if_neg (by decide), if_pos rfl]
  unfold fX15_task_b49
  rw [h43, if_pos (by decide), h1, if_neg (by rw [sI_eql (by omega) (by omega)]; omega)]
  simp only [mlet]
  have e1 : ∀ (X : mwM), X 787 1 = sI (i + 1) → X 787 1 = sI (i + 1) := fun _ h => h
  simp (disch := omega) only [mset_s, mset_k (show (787 : Nat) ≠ 788 by decide), mset_k (show (787 : Nat) ≠ 789 by decide), mset_k (show (787 : Nat) ≠ 790 by decide), mset_k (show (787 : Nat) ≠ 791 by decide), mset_k (show (787 : Nat) ≠ 792 by decide), sI_1, mck_s, sI_nn]
  refine wq_some ⟨rfl, rfl, ?_, ?_, ?_, ?_, ?_, ?_⟩
  all_goals (try dsimp only)
  · simp only [mset_s, mset_k (show (787 : Nat) ≠ 788 by decide), mset_k (show (787 : Nat) ≠ 789 by decide), mset_k (show (787 : Nat) ≠ 790 by decide), mset_k (show (787 : Nat) ≠ 791 by decide), mset_k (show (787 : Nat) ≠ 792 by decide)]
  · rw [mset_k (by decide), mset_k (by decide), mset_k (by decide), mset_k (by decide), mset_s]
  · rw [mset_k (by decide), mset_k (by decide), mset_k (by decide), mset_s]
  · rw [mset_k (by decide), mset_k (by decide), mset_s]
  · rw [mset_s]; rfl
  · intro b y w1 w2
    rw [mset_n (by omega), mset_n (by omega), mset_n (by omega), mset_n (by omega), mset_n (by omega), mset_n (by omega)]
theorem m_part15 {fu : Nat} {M : mwM} {L : mwL} {i mi : Nat} (hf : 13 ≤ fu) (hi : i < 12) (hmi : 1 ≤ mi) (hmi2 : mi ≤ 1000) (h1 : M 787 1 = sI (i + 1)) (h7 : M 787 7 = sI i) (h43 : L 787 43 = sL 0) : wq (DX15_part fu (sI (i + 1)) 0 (sI mi).toInt64 M L) (fun q => q.2.1 787 7 = sI (i + 1) ∧ q.2.1 793 i = sI (i + 1) ∧ q.2.1 794 i = 0 ∧ q.2.2 795 i = sL mi ∧ (∀ b y, ¬ (b = 787 ∧ y = 7) → ¬ (y = i ∧ (b = 793 ∨ b = 794)) → q.2.1 b y = M b y) ∧ ∀ b y, ¬ (b = 795 ∧ y = i) → q.2.2 b y = L b y) := by
  unfold DX15_part
  rw [m_no (T := i + 1) (by omega) (by omega) h1, mb3_s, if_pos rfl, if_neg (by decide), if_neg (by decide), sI_L (by omega)]
  have hg : DX15_good fu 0 (sL mi) M L = some (1, M, L) := by
    unfold DX15_good fX15_good_b10 fX15_good_b29
    rw [if_pos rfl, if_neg (by
      rw [lg_cmp_lt]
      show ¬ sL mi < sL 1
      rw [sL_lt (by omega) (by omega)]
      omega), if_neg (by
      rw [lg_cmp_gt]
      show ¬ sL 50000 < sL mi
      rw [sL_lt (by omega) (by omega)]
      omega)]
    rfl
  rw [hg, mb3_s, if_neg (by decide), h43, if_pos (by decide), h7, if_neg (by rw [sI_eql (by omega) (by omega)]; omega)]
  simp (disch := omega) only [mlet, mset_s, h7, mset_k (show (787 : Nat) ≠ 793 by decide), mset_k (show (787 : Nat) ≠ 794 by decide), sI_1, mck_s, sI_nn]
  refine wq_for (body := fun r s => fX15_part_i102 fu (sI (i + 1)) 0 (sL mi) r s.1 s.2.1 s.2.2.1 s.2.2.2) (fun j (a : Int32) => (a, sI j, mset (mset (mset M 793 i (sI (i + 1))) 794 i 0) 787 7 (sI (i + 1)), mset L 795 i (sL mi))) (fun _ _ => True) (i + 1) ?_ ?_ (i + 1) 0 0 fu (by omega) (by omega) trivial
  · intro j a r hj _ ih
    show wq (fX15_part_i102 fu (sI (i + 1)) 0 (sL mi) r a (sI j) (mset (mset (mset M 793 i (sI (i + 1))) 794 i 0) 787 7 (sI (i + 1))) (mset L 795 i (sL mi))) _
    unfold fX15_part_i102 fX15_part_b131
    rw [mset_s, if_neg (by rw [sI_le (by omega) (by omega)]; omega), mck_s (by omega) (by omega)]
    simp only [mlet]
    rw [sI_1]
    exact wq_if (fun _ => ih (a + 1) trivial) (fun _ => ih a trivial)
  · intro a r _
    show wq (fX15_part_i102 fu (sI (i + 1)) 0 (sL mi) r a (sI (i + 1)) (mset (mset (mset M 793 i (sI (i + 1))) 794 i 0) 787 7 (sI (i + 1))) (mset L 795 i (sL mi))) _
    unfold fX15_part_i102
    rw [mset_s, if_pos (by rw [sI_le (by omega) (by omega)]; omega)]
    refine wq_some ⟨?_, ?_, ?_, ?_, ?_, ?_⟩
    all_goals (try dsimp only)
    · rw [mset_s]
    · rw [mset_k (by decide), mset_k (by decide), mset_s]
    · rw [mset_k (by decide), mset_s]
    · rw [mset_s]
    · intro b y w1 w2
      rw [mset_n w1, mset_n (by omega), mset_n (by omega)]
    · intro b y w1
      rw [mset_n w1]
theorem m_activate15 {fu : Nat} {M : mwM} {L : mwL} {i T al at' : Nat} (hi : i < T) (hT : T ≤ 12) (hal : al < 480) (hat : at' < 20000) (h1 : M 787 1 = sI T) (h32 : M 787 32 = sI al) (h43 : L 787 43 = sL 0) : DX15_activate fu (sI (i + 1)) (sI at').toInt64 M L = some (1, mset (mset M 812 al (sI (i + 1))) 787 32 (sI (al + 1)), mset L 813 al (sL at')) := by
  unfold DX15_activate
  rw [m_no hT hi h1, mb3_s, if_pos rfl, sI_L (by omega), h43, if_neg (by
    rw [lg_cmp_lt, sL_lt (by omega) (by omega)]
    omega), if_pos (by
    rw [lg_cmp_le]
    show sL at' ≤ sL 50000
    rw [sL_le (by omega) (by omega)]
    omega), h32, if_neg (by rw [sI_eql (by omega) (by omega)]; omega)]
  simp (disch := omega) only [mlet, h32, mset_k (show (787 : Nat) ≠ 812 by decide), sI_1, mck_s, sI_nn]
/-! how often a task is activated -/
def nA (off pe : Nat) : Nat := (20000 - off + (pe - 1)) / pe
theorem nA_le {off pe : Nat} (hpe : 500 ≤ pe) : nA off pe ≤ 40 := by
  unfold nA
  have h1 : (20000 - off + (pe - 1)) / pe < 41 := by
    rw [Nat.div_lt_iff_lt_mul (by omega)]
    omega
  omega
theorem nA_lt {off pe n : Nat} (hpe : 500 ≤ pe) (hoff : off < 20000) (hn : n < nA off pe) : off + n * pe < 20000 := by
  unfold nA at hn
  rw [Nat.lt_div_iff_mul_lt (by omega)] at hn
  have e : n * pe = pe * n := Nat.mul_comm _ _
  omega
theorem nA_ge {off pe : Nat} (hpe : 500 ≤ pe) : 20000 ≤ off + nA off pe * pe := by
  unfold nA
  have h := Nat.div_add_mod (20000 - off + (pe - 1)) pe
  have h2 := Nat.mod_lt (20000 - off + (pe - 1)) (show 0 < pe by omega)
  rw [Nat.mul_comm] at h
  omega
def cutF (off pe : Nat → Nat) : Nat → Nat
  | 0 => 0
  | j + 1 => cutF off pe j + nA (off j) (pe j)
theorem cutF_le {off pe : Nat → Nat} {T : Nat} (hpe : ∀ j, j < T → 500 ≤ pe j) : ∀ j, j ≤ T → cutF off pe j ≤ 40 * j := by
  intro j
  induction j with
  | zero => intro _; exact Nat.le_refl _
  | succ j ih =>
    intro hj
    have h1 := ih (by omega)
    have h2 := nA_le (off := off j) (hpe j (by omega))
    show cutF off pe j + nA (off j) (pe j) ≤ _
    omega
theorem cutF_mono {off pe : Nat → Nat} : ∀ m j, cutF off pe j ≤ cutF off pe (j + m) := by
  intro m
  induction m with
  | zero => intro j; exact Nat.le_refl _
  | succ m ih =>
    intro j
    have h1 := ih j
    show _ ≤ cutF off pe (j + m) + nA (off (j + m)) (pe (j + m))
    omega
theorem CZ_f {M M' : mwM} {L L' : mwL} {C : Nat} (h : CZ M L C) (hM : ∀ b y, ¬ (b = 787 ∧ (y = 1 ∨ y = 7 ∨ y = 32)) → ¬ (788 ≤ b ∧ b ≤ 795) → b ≠ 812 → M' b y = M b y) (hL : ∀ b y, b ≠ 795 → b ≠ 813 → L' b y = L b y) : CZ M' L' C := by
  obtain ⟨h1, h2, h3, h4, h5, h6, h7, h8, h9⟩ := h
  refine ⟨by rw [hM _ _ (by omega) (by omega) (by omega)]; exact h1, by rw [hL _ _ (by omega) (by omega)]; exact h2, by rw [hL _ _ (by omega) (by omega)]; exact h3, by rw [hM _ _ (by omega) (by omega) (by omega)]; exact h4, by rw [hM _ _ (by omega) (by omega) (by omega)]; exact h5, by rw [hM _ _ (by omega) (by omega) (by omega)]; exact h6, fun r q1 q2 => by rw [hM _ _ (by omega) (by omega) (by omega)]; exact h7 r q1 q2, fun r q1 q2 => by rw [hM _ _ (by omega) (by omega) (by omega)]; exact h8 r q1 q2, ?_⟩
  intro t ht
  obtain ⟨w1, w2, w3, w4, w5⟩ := h9 t ht
  exact ⟨by rw [hM _ _ (by omega) (by omega) (by omega)]; exact w1, by rw [hM _ _ (by omega) (by omega) (by omega)]; exact w2, by rw [hM _ _ (by omega) (by omega) (by omega)]; exact w3, by rw [hM _ _ (by omega) (by omega) (by omega)]; exact w4, by rw [hL _ _ (by omega) (by omega)]; exact w5⟩
/-- a task's rows in the reference's cores -/
abbrev tb (M : mwM) (L : mwL) (j rk co mi : Nat) : Prop := M 788 (j + 1) = sI rk ∧ M 789 (j + 1) = sI co ∧ M 790 (j + 1) = 2 ∧ M 792 (j + 1) = 1 ∧ M 793 j = sI (j + 1) ∧ M 794 j = 0 ∧ L 795 j = sL mi
theorem tb_f {M M' : mwM} {L L' : mwL} {j rk co mi : Nat} (h : tb M L j rk co mi) (hM : ∀ b, M' b (j + 1) = M b (j + 1) ∨ ¬ (788 ≤ b ∧ b ≤ 792)) (h3 : M' 793 j = M 793 j) (h4 : M' 794 j = M 794 j) (h5 : L' 795 j = L 795 j) : tb M' L' j rk co mi := by
  obtain ⟨w1, w2, w3, w4, w5, w6, w7⟩ := h
  have hk : ∀ b, 788 ≤ b → b ≤ 792 → M' b (j + 1) = M b (j + 1) := by
    intro b q1 q2
    rcases hM b with q | q
    · exact q
    · exact absurd ⟨q1, q2⟩ q
  exact ⟨by rw [hk _ (by omega) (by omega)]; exact w1, by rw [hk _ (by omega) (by omega)]; exact w2, by rw [hk _ (by omega) (by omega)]; exact w3, by rw [hk _ (by omega) (by omega)]; exact w4, by rw [h3]; exact w5, by rw [h4]; exact w6, by rw [h5]; exact w7⟩
/-- all tasks of a car -/
theorem m_tasks {fu : Nat} {M : mwM} {L : mwL} {C T : Nat} {rk co pe off mi : Nat → Nat} {Q : Int32 × mwM × mwL → Prop} (hf : 100 ≤ fu) (hT : T ≤ 12) (hC : C ≤ 6) (h24 : M 732 24 = sI T) (ht : ∀ j, j < T → M 743 j = sI (rk j) ∧ M 742 j = sI (co j) ∧ M 744 j = sI (pe j) ∧ M 745 j = sI (off j) ∧ M 746 j = sI (mi j) ∧ rk j < 256 ∧ co j < C ∧ 500 ≤ pe j ∧ pe j ≤ 20000 ∧ off j < pe j ∧ 1 ≤ mi j ∧ mi j ≤ 1000) (hZ : CZ M L C) (h1 : M 787 1 = sI 0) (h7 : M 787 7 = sI 0) (h32 : M 787 32 = sI 0)
    (hQ : ∀ M' L' r, CZ M' L' C → M' 787 1 = sI T → M' 787 7 = sI T → M' 787 32 = sI (cutF off pe T) → (∀ j, j < T → tb M' L' j (rk j) (co j) (mi j)) → (∀ j, j < T → ∀ k, cutF off pe j ≤ k → k < cutF off pe (j + 1) → M' 812 k = sI (j + 1) ∧ L' 813 k = sL (off j + (k - cutF off pe j) * pe j)) → (∀ b y, (b < 787 ∨ 820 < b) → M' b y = M b y) → (∀ b y, (b < 787 ∨ 820 < b) → L' b y = L b y) → wq (fX19_build_i36 fu r (sI T) M' L') Q) : wq (fX19_build_h36 fu fu (0, M, L)) Q := by
  have hpe : ∀ j, j < T → 500 ≤ pe j := fun j hj => (ht j hj).2.2.2.2.2.2.2.1
  refine wq_for (body := fun r s => fX19_build_i36 fu r s.1 s.2.1 s.2.2) (fun i (a : mwM × mwL) => (sI i, a.1, a.2)) (fun i a => CZ a.1 a.2 C ∧ a.1 787 1 = sI i ∧ a.1 787 7 = sI i ∧ a.1 787 32 = sI (cutF off pe i) ∧ (∀ j, j < i → tb a.1 a.2 j (rk j) (co j) (mi j)) ∧ (∀ j, j < i → ∀ k, cutF off pe j ≤ k → k < cutF off pe (j + 1) → a.1 812 k = sI (j + 1) ∧ a.2 813 k = sL (off j + (k - cutF off pe j) * pe j)) ∧ (∀ b y, (b < 787 ∨ 820 < b) → a.1 b y = M b y) ∧ ∀ b y, (b < 787 ∨ 820 < b) → a.2 b y = L b y) T ?_ ?_ T 0 (M, L) fu (by omega) (by omega) ⟨hZ, h1, h7, h32, fun j h => by omega, fun j h => by omega, fun _ _ _ => rfl, fun _ _ _ => rfl⟩
  · rintro i ⟨a, l⟩ r hi ⟨p1, p2, p3, p4, p5, p6, p7, p8⟩ ih
    dsimp only at p1 p2 p3 p4 p5 p6 p7 p8
    obtain ⟨t1, t2, t3, t4, t5, t6, t7, t8, t9, t10, t11, t12⟩ := ht i hi
    have hcut := cutF_le (off := off) hpe i (by omega)
    have hnA := nA_le (off := off i) t8
    show wq (fX19_build_i36 fu r (sI i) a l) _
    unfold fX19_build_i36
    rw [p7 732 24 (by omega), h24, if_neg (by rw [sI_le (by omega) (by omega)]; omega), mck_s (by omega) (by omega), mck_s (by omega) (by omega), sI_nn (by omega), p7 743 i (by omega), t1, p7 742 i (by omega), t2]
    refine wq_b3 (m_task15 (by omega) hC t7 t6 p1.1 p2 p1.2.2.1) ?_
    rintro rr M1 L1 ⟨x1, x2, x3, x4, x5, x6, x7, x8⟩
    dsimp only at x1 x2 x3 x4 x5 x6 x7 x8
    subst x1 x2
    rw [mck_s (by omega) (by omega), x8 746 i (by omega) (by omega), p7 746 i (by omega), t5]
    refine wq_b3 (m_part15 (by omega) (by omega) t11 t12 x3 (by rw [x8 787 7 (by omega) (by omega)]; exact p3) p1.2.2.1) ?_
    rintro rr2 M2 L2 ⟨y1, y2, y3, y4, y5, y6⟩
    dsimp only at y1 y2 y3 y4 y5 y6
    rw [mck_s (by omega) (by omega), y5 745 i (by omega) (by omega), x8 745 i (by omega) (by omega), p7 745 i (by omega), t4]
    simp only [mlet]
    have f12 : ∀ b y, ¬ (b = 787 ∧ (y = 1 ∨ y = 7)) → ¬ (y = i + 1 ∧ 788 ≤ b ∧ b ≤ 792) → ¬ (y = i ∧ (b = 793 ∨ b = 794)) → M2 b y = a b y := fun b y q1 q2 q3 => (y5 b y (by omega) (by omega)).trans (x8 b y (by omega) (by omega))
    have hl2 : ∀ b y, ¬ (b = 795 ∧ y = i) → L2 b y = L1 b y := y6
    have h2_1 : M2 787 1 = sI (i + 1) := by rw [y5 _ _ (by omega) (by omega)]; exact x3
    have h2_32 : M2 787 32 = sI (cutF off pe i) := by rw [f12 _ _ (by omega) (by omega) (by omega)]; exact p4
    rw [show sI (off i) = sI (off i + 0 * pe i) by rw [Nat.zero_mul, Nat.add_zero]]
    refine wq_for (body := fun r' s => fX19_build_i91 fu r r' s.1 s.2.1 s.2.2.1 s.2.2.2.1 s.2.2.2.2) (fun n (c : mwM × mwL) => (sI i, sI (i + 1), sI (off i + n * pe i), c.1, c.2)) (fun n c => c.1 787 32 = sI (cutF off pe i + n) ∧ (∀ k, cutF off pe i ≤ k → k < cutF off pe i + n → c.1 812 k = sI (i + 1) ∧ c.2 813 k = sL (off i + (k - cutF off pe i) * pe i)) ∧ (∀ b y, ¬ (b = 787 ∧ y = 32) → ¬ (b = 812 ∧ cutF off pe i ≤ y) → c.1 b y = M2 b y) ∧ ∀ b y, ¬ (b = 813 ∧ cutF off pe i ≤ y) → c.2 b y = L2 b y) (nA (off i) (pe i)) ?_ ?_ (nA (off i) (pe i)) 0 (M2, L2) fu (by omega) (by omega) ⟨h2_32, fun k q1 q2 => by omega, fun _ _ _ _ => rfl, fun _ _ _ => rfl⟩
    · rintro n ⟨c, d⟩ r' hn ⟨z1, z2, z3, z4⟩ ih2
      dsimp only at z1 z2 z3 z4
      have hlt := nA_lt t8 (by omega) hn
      show wq (fX19_build_i91 fu r r' (sI i) (sI (i + 1)) (sI (off i + n * pe i)) c d) _
      unfold fX19_build_i91
      rw [if_neg (by rw [sI_lle (by omega) (by omega)]; omega), m_activate15 (T := i + 1) (al := cutF off pe i + n) (by omega) (by omega) (by omega) hlt (by rw [z3 _ _ (by omega) (by omega)]; exact h2_1) z1 (by rw [z4 _ _ (by omega), y6 _ _ (by omega)]; exact p1.2.2.1), mb3_s, if_pos (by decide), mck_s (by omega) (by omega), sI_nn (by omega)]
      simp only [mlet]
      have e744 : mset (mset c 812 (cutF off pe i + n) (sI (i + 1))) 787 32 (sI (cutF off pe i + n + 1)) 744 i = sI (pe i) := by
        rw [mset_k (by decide), mset_k (by decide), z3 _ _ (by omega) (by omega), f12 _ _ (by omega) (by omega) (by omega), p7 744 i (by omega)]
        exact t3
      rw [e744, sI_add, show off i + n * pe i + pe i = off i + (n + 1) * pe i by rw [Nat.add_mul, Nat.one_mul]; omega]
      refine ih2 (mset (mset c 812 (cutF off pe i + n) (sI (i + 1))) 787 32 (sI (cutF off pe i + n + 1)), mset d 813 (cutF off pe i + n) (sL (off i + n * pe i))) ⟨?_, ?_, ?_, ?_⟩
      all_goals (try dsimp only)
      · rw [mset_s]; rfl
      · intro k q1 q2
        by_cases hk : k = cutF off pe i + n
        · subst hk
          rw [mset_k (by decide), mset_s, mset_s, Nat.add_sub_cancel_left]
          exact ⟨rfl, rfl⟩
        · rw [mset_k (by decide), mset_j hk, mset_j hk]
          exact z2 k q1 (by omega)
      · intro b y q1 q2
        rw [mset_n (by omega), mset_n (by omega)]
        exact z3 b y q1 q2
      · intro b y q1
        rw [mset_n (by omega)]
        exact z4 b y q1
    · rintro ⟨c, d⟩ r' ⟨z1, z2, z3, z4⟩
      dsimp only at z1 z2 z3 z4
      have hge := nA_ge (off := off i) t8
      have hnp : nA (off i) (pe i) * pe i ≤ 40 * 20000 := Nat.mul_le_mul hnA t9
      show wq (fX19_build_i91 fu r r' (sI i) (sI (i + 1)) (sI (off i + nA (off i) (pe i) * pe i)) c d) _
      unfold fX19_build_i91
      rw [if_pos (by rw [sI_lle (by omega) (by omega)]; exact hge)]
      simp only [mlet]
      rw [sI_1]
      have e1 : cutF off pe (i + 1) = cutF off pe i + nA (off i) (pe i) := rfl
      refine ih (c, d) ⟨?_, ?_, ?_, ?_, ?_, ?_, ?_, ?_⟩
      all_goals (try dsimp only)
      · exact CZ_f p1 (fun b y q1 q2 q3 => (z3 b y (by omega) (by omega)).trans (f12 b y (by omega) (by omega) (by omega))) (fun b y q1 q2 => (z4 b y (by omega)).trans (y6 b y (by omega)))
      · rw [z3 _ _ (by omega) (by omega)]; exact h2_1
      · rw [z3 _ _ (by omega) (by omega)]; exact y1
      · rw [e1]; exact z1
      · intro j hj
        by_cases hji : j = i
        · subst hji
          exact ⟨by rw [z3 _ _ (by omega) (by omega), y5 _ _ (by omega) (by omega)]; exact x4, by rw [z3 _ _ (by omega) (by omega), y5 _ _ (by omega) (by omega)]; exact x5, by rw [z3 _ _ (by omega) (by omega), y5 _ _ (by omega) (by omega)]; exact x6, by rw [z3 _ _ (by omega) (by omega), y5 _ _ (by omega) (by omega)]; exact x7, by rw [z3 _ _ (by omega) (by omega)]; exact y2, by rw [z3 _ _ (by omega) (by omega)]; exact y3, by rw [z4 _ _ (by omega)]; exact y4⟩
        · refine tb_f (p5 j (by omega)) ?_ ?_ ?_ ?_
          · intro b
            by_cases hb : 788 ≤ b ∧ b ≤ 792
            · left
              rw [z3 _ _ (by omega) (by omega)]
              exact f12 _ _ (by omega) (by omega) (by omega)
            · exact Or.inr hb
          · rw [z3 _ _ (by omega) (by omega)]; exact f12 _ _ (by omega) (by omega) (by omega)
          · rw [z3 _ _ (by omega) (by omega)]; exact f12 _ _ (by omega) (by omega) (by omega)
          · rw [z4 _ _ (by omega)]; exact y6 _ _ (by omega)
      · intro j hj k q1 q2
        by_cases hji : j = i
        · subst hji
          exact z2 k q1 (by rw [← e1]; exact q2)
        · have hm := cutF_mono (off := off) (pe := pe) (i - (j + 1)) (j + 1)
          rw [show j + 1 + (i - (j + 1)) = i by omega] at hm
          rw [z3 _ _ (by omega) (by omega), f12 _ _ (by omega) (by omega) (by omega), z4 _ _ (by omega), y6 _ _ (by omega)]
          exact p6 j (by omega) k q1 q2
      · intro b y q
        rw [z3 _ _ (by omega) (by omega), f12 _ _ (by omega) (by omega) (by omega)]
        exact p7 b y q
      · intro b y q
        rw [z4 _ _ (by omega), y6 _ _ (by omega)]
        exact p8 b y q
  · rintro ⟨a, l⟩ r ⟨p1, p2, p3, p4, p5, p6, p7, p8⟩
    exact hQ a l r p1 p2 p3 p4 p5 p6 p7 p8
/-- what the class has of its tasks when a text has been read -/
def CT (A : mwM) (T : Nat) (rk co pe off mi : Nat → Nat) : Prop := A 5 3 = sI T ∧ A 5 4 = sI 0 ∧ A 5 6 = 1 ∧ (∀ c, c < 6 → A 18 c = -1) ∧ ∀ j, j < T → tk A j (rk j) (co j) (pe j) (mi j) (off j) 0 0 0 0 0 0
theorem RCo_0 {A M : mwM} {L : mwL} {C T : Nat} {rk co pe off mi : Nat → Nat} (hT : T ≤ 12) (hC : C ≤ 6) (hA : CT A T rk co pe off mi) (ht : ∀ j, j < T → rk j < 256 ∧ co j < C ∧ 500 ≤ pe j ∧ pe j ≤ 20000 ∧ off j < pe j ∧ 1 ≤ mi j ∧ mi j ≤ 1000) (hZ : CZ M L C) (h1 : M 787 1 = sI T) (h7 : M 787 7 = sI T) (h32 : M 787 32 = sI (cutF off pe T)) (hb : ∀ j, j < T → tb M L j (rk j) (co j) (mi j)) (hal : ∀ j, j < T → ∀ k, cutF off pe j ≤ k → k < cutF off pe (j + 1) → M 812 k = sI (j + 1) ∧ L 813 k = sL (off j + (k - cutF off pe j) * pe j)) : RCo A M L T C 0 := by
  obtain ⟨a1, a2, a3, a4, a5⟩ := hA
  obtain ⟨z1, z2, z3, z4, z5, z6, z7, z8, z9⟩ := hZ
  have hpe : ∀ j, j < T → 500 ≤ pe j := fun j hj => (ht j hj).2.2.1
  have h12 : ∀ j, j < T → A 12 j = 0 := fun j hj => (a5 j hj).2.2.2.2.2.1
  refine ⟨0, 0, 1, cutF off pe, ⟨hT, hC, by omega, by omega, a1, h1, h7, z1, a2, z2, z4, z5, z7, z8, z6, ?_, ?_⟩, ⟨rfl, ?_, h32, ?_⟩, z3, by omega, by omega, by omega, by omega, Or.inr a3, ?_, fun s hs => by omega⟩
  · intro i hi
    obtain ⟨w1, w2, w3, w4, w5, w6, w7⟩ := ht i hi
    obtain ⟨b1, b2, b3, b4, b5, b6, b7⟩ := hb i hi
    obtain ⟨u1, u2, u3, u4, u5⟩ := z9 (i + 1) (by omega)
    exact ⟨rk i, co i, pe i, mi i, off i, 0, 0, 0, 0, 0, 0, ⟨w1, w2, w3, w4, w6, w7, by omega, by omega, by omega, by omega, by omega, by omega, by omega, fun _ => ⟨rfl, rfl⟩, fun _ => by omega, fun q => by omega⟩, a5 i hi, ⟨b1, b2, b3, b4, b5, b6, b7, u1, u2, u3, u4, u5, fun q => absurd rfl q⟩⟩
  · intro c hc
    refine ⟨none, a4 c hc, (fun x hx => by cases hx), ?_⟩
    intro i hi
    constructor
    · rintro ⟨_, q⟩
      rw [h12 i hi] at q
      exact absurd q (by decide)
    · intro q; cases q
  · have := cutF_le (off := off) hpe T (Nat.le_refl _)
    omega
  · intro j hj
    obtain ⟨w1, w2, w3, w4, w5, w6, w7⟩ := ht j hj
    have hm1 := cutF_mono (off := off) (pe := pe) 1 j
    have hm2 := cutF_mono (off := off) (pe := pe) (T - (j + 1)) (j + 1)
    rw [show j + 1 + (T - (j + 1)) = T by omega] at hm2
    refine ⟨hm1, hm2, fun k q1 q2 => (hal j hj k q1 q2).1, cutF off pe j, off j, pe j, Nat.le_refl _, hm1, (a5 j hj).2.2.2.2.1, (a5 j hj).2.2.1, w4, w3, by omega, by omega, fun k q1 q2 => by omega, fun k q1 q2 => (hal j hj k q1 q2).2, ?_⟩
    have e1 : cutF off pe (j + 1) - cutF off pe j = nA (off j) (pe j) := by
      show cutF off pe j + nA (off j) (pe j) - cutF off pe j = _
      omega
    rw [e1]
    exact nA_ge w3
  · intro _ c hc
    refine ⟨none, ⟨a4 c hc, ?_⟩, fun x hx => by cases hx⟩
    intro x hx _ q
    rw [h12 x hx] at q
    exact absurd q (by decide)
/-! CODES: the cipher as both sides make it, on octets -/
theorem sI_xor (a b : Nat) : sI a ^^^ sI b = sI (a ^^^ b) := by
  apply Int32.toBitVec_inj.mp
  show BitVec.ofNat 32 a ^^^ BitVec.ofNat 32 b = BitVec.ofNat 32 (a ^^^ b)
  rw [BitVec.ofNat_xor]
theorem xor_8 {a b : Nat} (ha : a < 256) (hb : b < 256) : a ^^^ b < 256 := Nat.xor_lt_two_pow (n := 8) ha hb
def sft (i : Nat) : Nat := (i + 4 * (i % 4)) % 16
def col (i k : Nat) : Nat := i / 4 * 4 + (i + k) % 4
/-- one round: octets replaced and moved, mixed (but in the last), the round's key -/
def rnd (S D : Nat → Nat) (last : Bool) (k x : Nat → Nat) (i : Nat) : Nat :=
  (if last = true then S (x (sft i)) else D (S (x (sft (col i 0)))) ^^^ D (S (x (sft (col i 1)))) ^^^ S (x (sft (col i 1))) ^^^ S (x (sft (col i 2))) ^^^ S (x (sft (col i 3)))) ^^^ k i
def encN (S D rk : Nat → Nat) (x : Nat → Nat) : Nat → Nat → Nat
  | 0 => fun i => x i ^^^ rk i
  | j + 1 => rnd S D (decide (j + 1 = 10)) (fun i => rk (16 * (j + 1) + i)) (encN S D rk x j)
theorem col_0 : ∀ i, i < 16 → col i 0 = i := by decide
theorem col_lt : ∀ i, i < 16 → ∀ k, k < 4 → col i k < 16 := by decide
theorem sft_lt (i : Nat) : sft i < 16 := Nat.mod_lt _ (by decide)
theorem rnd_lt {S D k x : Nat → Nat} {last : Bool} {i : Nat} (hS : ∀ y, y < 256 → S y < 256) (hD : ∀ y, y < 256 → D y < 256) (hk : k i < 256) (hx : ∀ i, i < 16 → x i < 256) : rnd S D last k x i < 256 := by
  have hs : ∀ i, S (x (sft i)) < 256 := fun i => hS _ (hx _ (sft_lt i))
  unfold rnd
  refine xor_8 ?_ hk
  split
  · exact hs i
  · exact xor_8 (xor_8 (xor_8 (xor_8 (hD _ (hs _)) (hD _ (hs _))) (hs _)) (hs _)) (hs _)
theorem encN_lt {S D rk x : Nat → Nat} (hS : ∀ y, y < 256 → S y < 256) (hD : ∀ y, y < 256 → D y < 256) (hk : ∀ i, i < 176 → rk i < 256) (hx : ∀ i, i < 16 → x i < 256) : ∀ j, j ≤ 10 → ∀ i, i < 16 → encN S D rk x j i < 256 := by
  intro j
  induction j with
  | zero => intro _ i hi; exact xor_8 (hx i hi) (hk i (by omega))
  | succ j ih => intro hj i hi; exact rnd_lt hS hD (hk _ (by omega)) (ih (by omega))
/-- octets in a row of the memory -/
abbrev bytes (M : mwM) (r n : Nat) (x : Nat → Nat) : Prop := ∀ i, i < n → M r i = sI (x i) ∧ x i < 256
theorem ix_sft : ∀ i, i < 16 → (sI i + (4 * (sI i - sI i / 4 * 4))) - (sI i + (4 * (sI i - sI i / 4 * 4))) / 16 * 16 = sI (sft i) := by decide +kernel
theorem ix_col : ∀ i, i < 16 → sI i / 4 * 4 + (sI i + 1 - (sI i + 1) / 4 * 4) = sI (col i 1) ∧ sI i / 4 * 4 + (sI i + 2 - (sI i + 2) / 4 * 4) = sI (col i 2) ∧ sI i / 4 * 4 + (sI i + 3 - (sI i + 3) / 4 * 4) = sI (col i 3) := by decide +kernel
/-- the class: one block -/
theorem c_encrypt {fu : Nat} {A : mwM} {L : mwL} {key : Nat} {S D rk x : Nat → Nat} (hf : 17 ≤ fu) (hkey : key < 17) (hS : bytes A 98 256 S) (hD : bytes A 99 256 D) (hk : bytes A (101 + key) 176 rk) (hx : bytes A 137 16 x) : wq (DX3_encrypt fu (sI key) A L) (fun q => q.2 = L ∧ bytes q.1 138 16 (encN S D rk x 10) ∧ ∀ b y, b ≠ 137 → b ≠ 138 → q.1 b y = A b y) := by
  have hS' : ∀ y, y < 256 → S y < 256 := fun y hy => (hS y hy).2
  have hD' : ∀ y, y < 256 → D y < 256 := fun y hy => (hD y hy).2
  have hk' : ∀ i, i < 176 → rk i < 256 := fun i hi => (hk i hi).2
  have hx' : ∀ i, i < 16 → x i < 256 := fun i hi => (hx i hi).2
  have he := encN_lt hS' hD' hk' hx'
  -- the rounds
  have rounds : ∀ (A1 : mwM), bytes A1 138 16 (encN S D rk x 0) → (∀ b y, b ≠ 137 → b ≠ 138 → A1 b y = A b y) → wq (fX3_encrypt_h39 fu (sI key) fu (101 + key, 1, A1, L)) (fun q => q.2 = L ∧ bytes q.1 138 16 (encN S D rk x 10) ∧ ∀ b y, b ≠ 137 → b ≠ 138 → q.1 b y = A b y) := by
    intro A1 h1 h2
    refine wq_for (body := fun r s => fX3_encrypt_i39 fu (sI key) r s.1 s.2.1 s.2.2.1 s.2.2.2) (fun j (a : mwM) => (101 + key, sI (j + 1), a, L)) (fun j a => bytes a 138 16 (encN S D rk x j) ∧ ∀ b y, b ≠ 137 → b ≠ 138 → a b y = A b y) 10 ?_ ?_ 10 0 A1 fu (by omega) (by omega) ⟨h1, h2⟩
    · intro j a r hj ⟨p1, p2⟩ ih
      show wq (fX3_encrypt_i39 fu (sI key) r (101 + key) (sI (j + 1)) a L) _
      unfold fX3_encrypt_i39
      rw [if_neg (by rw [sI_llt (by omega) (by omega)]; omega)]
      -- octets replaced and moved
      refine wq_for (body := fun r48 s => fX3_encrypt_i48 fu (sI key) r r48 s.1 s.2.1 s.2.2.1 s.2.2.2.1 s.2.2.2.2) (fun i (a2 : mwM) => (101 + key, sI (j + 1), sI i, a2, L)) (fun i a2 => (∀ y, y < i → a2 137 y = sI (S (encN S D rk x j (sft y)))) ∧ bytes a2 138 16 (encN S D rk x j) ∧ ∀ b y, b ≠ 137 → b ≠ 138 → a2 b y = A b y) 16 ?_ ?_ 16 0 a fu (by omega) (by omega) ⟨fun y hy => by omega, p1, p2⟩
      · intro i a2 r48 hi ⟨s1, s2, s3⟩ ih2
        show wq (fX3_encrypt_i48 fu (sI key) r r48 (101 + key) (sI (j + 1)) (sI i) a2 L) _
        unfold fX3_encrypt_i48
        have hsl := sft_lt i
        have hel := he j (by omega) (sft i) hsl
        rw [if_neg (by rw [sI_lle (by omega) (by omega)]; omega), ix_sft i hi, mck_s hsl (by omega), sI_nn (by omega), (s2 (sft i) hsl).1, mck_s hel (by omega), mck_s (by omega) (by omega), sI_nn (by omega), sI_nn (by omega), s3 98 _ (by omega) (by omega), (hS _ hel).1]
        simp only [mlet]
        rw [sI_1]
        refine ih2 (mset a2 137 i (sI (S (encN S D rk x j (sft i))))) ⟨?_, ?_, ?_⟩
        · intro y hy
          by_cases hyi : y = i
          · rw [hyi, mset_s]
          · rw [mset_j hyi]; exact s1 y (by omega)
        · intro y hy
          rw [mset_k (by decide)]; exact s2 y hy
        · intro b y q1 q2
          rw [mset_k q1]; exact s3 b y q1 q2
      · intro a2 r48 ⟨s1, s2, s3⟩
        show wq (fX3_encrypt_i48 fu (sI key) r r48 (101 + key) (sI (j + 1)) (sI 16) a2 L) _
        unfold fX3_encrypt_i48
        rw [if_pos (by decide)]
        -- mixed
        refine wq_for (body := fun r93 s => fX3_encrypt_i93 fu (sI key) r r93 s.1 s.2.1 s.2.2.1 s.2.2.2.1 s.2.2.2.2) (fun i (a3 : mwM) => (101 + key, sI (j + 1), sI i, a3, L)) (fun i a3 => (∀ y, y < 16 → a3 137 y = sI (S (encN S D rk x j (sft y)))) ∧ (∀ y, y < i → a3 138 y = sI (encN S D rk x (j + 1) y)) ∧ ∀ b y, b ≠ 137 → b ≠ 138 → a3 b y = A b y) 16 ?_ ?_ 16 0 a2 fu (by omega) (by omega) ⟨s1, fun y hy => by omega, s3⟩
        · intro i a3 r93 hi ⟨t1, t2, t3⟩ ih3
          show wq (fX3_encrypt_i93 fu (sI key) r r93 (101 + key) (sI (j + 1)) (sI i) a3 L) _
          unfold fX3_encrypt_i93 fX3_encrypt_b200
          obtain ⟨e1, e2, e3⟩ := ix_col i hi
          have c1 := col_lt i hi 1 (by omega)
          have c2 := col_lt i hi 2 (by omega)
          have c3 := col_lt i hi 3 (by omega)
          have hs : ∀ y, S (encN S D rk x j (sft y)) < 256 := fun y => hS' _ (he j (by omega) _ (sft_lt y))
          have hs0 := hs i
          have hs1 := hs (col i 1)
          rw [if_neg (by rw [sI_lle (by omega) (by omega)]; omega)]
          simp only [mlet]
          rw [e1, e2, e3, mck_s hi (by omega), mck_s c1 (by omega), mck_s c2 (by omega), mck_s c3 (by omega), sI_nn (by omega), sI_nn (by omega), sI_nn (by omega), sI_nn (by omega), t1 i hi, t1 _ c1, t1 _ c2, t1 _ c3]
          have hrow : (16 : Int32) * sI (j + 1) + sI i = sI (16 * (j + 1) + i) := by rw [sI_lml, sI_add]
          have fin : ∀ (z : Nat), z ^^^ rk (16 * (j + 1) + i) = encN S D rk x (j + 1) i → wq (mck ((16 * sI (j + 1)) + sI i) 176 (mck (sI i) 16 (r93 (101 + key, sI (j + 1), sI i + 1, mset a3 138 i (sI z ^^^ (a3 (101 + key) ((16 * sI (j + 1)) + sI i).toNatClampNeg)), L)))) (fun q => q.2 = L ∧ bytes q.1 138 16 (encN S D rk x 10) ∧ ∀ b y, b ≠ 137 → b ≠ 138 → q.1 b y = A b y) := by
            intro z hz
            rw [hrow, mck_s (by omega) (by omega), mck_s hi (by omega), sI_nn (by omega), t3 _ _ (by omega) (by omega), (hk _ (by omega)).1, sI_xor, hz, sI_1]
            refine ih3 (mset a3 138 i (sI (encN S D rk x (j + 1) i))) ⟨?_, ?_, ?_⟩
            · intro y hy
              rw [mset_k (by decide)]; exact t1 y hy
            · intro y hy
              by_cases hyi : y = i
              · rw [hyi, mset_s]
              · rw [mset_j hyi]; exact t2 y (by omega)
            · intro b y q1 q2
              rw [mset_k q2]; exact t3 b y q1 q2
          by_cases hj9 : j + 1 = 10
          · rw [if_pos (by rw [sI_lle (by omega) (by omega)]; omega)]
            refine fin _ ?_
            show _ = rnd S D (decide (j + 1 = 10)) _ _ i
            unfold rnd
            rw [if_pos (by simp [hj9])]
          · rw [if_neg (by rw [sI_lle (by omega) (by omega)]; omega), mck_s hs0 (by omega), mck_s hs1 (by omega), sI_nn (by omega), sI_nn (by omega), t3 99 _ (by omega) (by omega), t3 99 _ (by omega) (by omega), (hD _ hs0).1, (hD _ hs1).1, sI_xor, sI_xor, sI_xor, sI_xor]
            refine fin _ ?_
            show _ = rnd S D (decide (j + 1 = 10)) _ _ i
            unfold rnd
            rw [if_neg (by simp [hj9]), col_0 i hi]
        · intro a3 r93 ⟨t1, t2, t3⟩
          show wq (fX3_encrypt_i93 fu (sI key) r r93 (101 + key) (sI (j + 1)) (sI 16) a3 L) _
          unfold fX3_encrypt_i93
          rw [if_pos (by decide)]
          simp only [mlet]
          rw [sI_1]
          exact ih a3 ⟨fun y hy => ⟨t2 y hy, he (j + 1) (by omega) y hy⟩, t3⟩
    · intro a r ⟨p1, p2⟩
      show wq (fX3_encrypt_i39 fu (sI key) r (101 + key) (sI 11) a L) _
      unfold fX3_encrypt_i39
      rw [if_pos (by decide)]
      exact wq_some ⟨rfl, p1, p2⟩
  unfold DX3_encrypt
  rw [mck_s hkey (by omega), sI_nn (by omega)]
  refine wq_for (body := fun r s => fX3_encrypt_i9 fu (sI key) r s.1 s.2.1 s.2.2.1 s.2.2.2) (fun i (a : mwM) => (101 + key, sI i, a, L)) (fun i a => (∀ y, y < i → a 138 y = sI (encN S D rk x 0 y)) ∧ ∀ b y, b ≠ 138 → a b y = A b y) 16 ?_ ?_ 16 0 A fu (by omega) (by omega) ⟨fun y hy => by omega, fun _ _ _ => rfl⟩
  · intro i a r hi ⟨s1, s2⟩ ih
    show wq (fX3_encrypt_i9 fu (sI key) r (101 + key) (sI i) a L) _
    unfold fX3_encrypt_i9
    rw [if_neg (by rw [sI_lle (by omega) (by omega)]; omega), mck_s hi (by omega), mck_s (by omega) (by omega), mck_s hi (by omega), sI_nn (by omega), s2 137 _ (by omega), s2 (101 + key) _ (by omega), (hx i hi).1, (hk i (by omega)).1, sI_xor]
    simp only [mlet]
    rw [sI_1]
    refine ih (mset a 138 i (sI (x i ^^^ rk i))) ⟨?_, ?_⟩
    · intro y hy
      by_cases hyi : y = i
      · rw [hyi, mset_s]; rfl
      · rw [mset_j hyi]; exact s1 y (by omega)
    · intro b y q
      rw [mset_k q]; exact s2 b y q
  · intro a r ⟨s1, s2⟩
    show wq (fX3_encrypt_i9 fu (sI key) r (101 + key) (sI 16) a L) _
    unfold fX3_encrypt_i9
    rw [if_pos (by decide)]
    exact rounds a (fun y hy => ⟨s1 y hy, he 0 (by omega) y hy⟩) (fun b y _ q => s2 b y q)
