/-! choosing, on both sides -/
theorem chA_f {A : mwM} {c : Nat} {w b : Option Nat} {a y : Nat} (h1 : a ≠ 12) (h2 : ¬ (a = 18 ∧ y = c)) : chA A c w b a y = A a y := by
  unfold chA
  cases w <;> cases b <;> simp only [] <;> rw [mset_n h2] <;> simp [mset, h1]
theorem chA_18 {A : mwM} {c : Nat} {w b : Option Nat} : chA A c w b 18 c = oI b := by
  unfold chA
  exact mset_s
theorem chA_12 {A : mwM} {c : Nat} {w b : Option Nat} (y : Nat) : chA A c w b 12 y = if b = some y then 2 else if w = some y then 1 else A 12 y := by
  unfold chA
  cases w with
  | none =>
    cases b with
    | none => simp [mset]
    | some x =>
      simp only []
      rw [mset_k (by decide)]
      by_cases h : x = y
      · subst h; simp [mset]
      · have h' : ¬ y = x := fun q => h q.symm
        simp [mset, h, h']
  | some z =>
    cases b with
    | none =>
      simp only []
      rw [mset_k (by decide)]
      by_cases h : z = y
      · subst h; simp [mset]
      · have h' : ¬ y = z := fun q => h q.symm
        simp [mset, h, h']
    | some x =>
      simp only []
      rw [mset_k (by decide)]
      by_cases h : x = y
      · subst h; simp [mset]
      · have h' : ¬ y = x := fun q => h q.symm
        by_cases h2 : z = y
        · subst h2; simp [mset, h, h']
        · have h2' : ¬ y = z := fun q => h2 q.symm
          simp [mset, h, h', h2, h2']
theorem chM_f {M : mwM} {w b : Option Nat} {a y : Nat} (h1 : a ≠ 796) (h2 : a ≠ 804) : chM M w b a y = M a y := by
  unfold chM
  cases w <;> cases b <;> simp [mset, h1, h2]
theorem chM_804 {M : mwM} {w b : Option Nat} {y : Nat} (h : M 804 y = 0) : chM M w b 804 y = 0 := by
  unfold chM
  cases w with
  | none => cases b <;> simp [mset, h]
  | some x =>
    have hb : vp_nar .boolean 0 = (0 : Int32) := bo_0
    cases b <;> simp [mset, h, hb]
theorem chM_796 {M : mwM} {w b : Option Nat} (y : Nat) : chM M w b 796 (y + 1) = if b = some y then 2 else if w = some y then 1 else M 796 (y + 1) := by
  unfold chM
  cases w with
  | none =>
    cases b with
    | none => simp
    | some x =>
      by_cases h : x = y
      · subst h; simp [mset]
      · have h' : ¬ y = x := fun q => h q.symm
        simp [mset, h, h']
  | some z =>
    cases b with
    | none =>
      by_cases h : z = y
      · subst h; simp [mset]
      · have h' : ¬ y = z := fun q => h q.symm
        simp [mset, h, h']
    | some x =>
      by_cases h : x = y
      · subst h; simp [mset]
      · have h' : ¬ y = x := fun q => h q.symm
        by_cases h2 : z = y
        · subst h2; simp [mset, h, h']
        · have h2' : ¬ y = z := fun q => h2 q.symm
          simp [mset, h, h', h2, h2']
theorem RC_ok {A M : mwM} {L : mwL} {T C tn cn U : Nat} (h : RC A M L T C tn cn U) : okCh A M L T := by
  obtain ⟨hT, hC, htn, _, a3, m1, _, _, a4, l21, _, _, hh, _, m39, ht1, hch⟩ := h
  refine ⟨m1, hh, ?_⟩
  intro i hi
  obtain ⟨rk, co, pe, mi, nx, st, lf, wa, tu, us, dn, q1, q2, q3⟩ := ht1 i hi
  obtain ⟨w1, w2, w3, w4, w5, w6, w7, w8, w9, w10, w11, w12⟩ := q1
  refine ⟨?_, ?_, ?_, q3.2.2.2.1, ?_, rk, w1, q2.1⟩
  · rw [q3.1, q2.1]
  · rw [q3.2.1, q2.2.1]
  · rw [q3.2.2.2.2.2.2.2.1, q2.2.2.2.2.2.1]
  · intro hs
    have hst : st ≠ 0 := by
      intro q
      apply hs
      rw [q2.2.2.2.2.2.1, q]
      rfl
    rw [(q3.2.2.2.2.2.2.2.2.2.2.2.2 hst).1, q2.2.2.2.2.2.2.2.2.1, sI_L (by omega)]
theorem st_choose {fu : Nat} {A M : mwM} {L Lc : mwL} {T C tn cn U c : Nat} (hf : 33 ≤ fu) (h : RC A M L T C tn cn U) (hc : c < 6) : ∃ w b, A 18 c = oI w ∧ (∀ x, w = some x → x < T) ∧ (∀ i, i < T → ((A 8 i = sI c ∧ A 12 i = 2) ↔ w = some i)) ∧ b = bsN A c w T ∧ (∀ x, b = some x → x < T ∧ A 8 x = sI c) ∧ DX4_choose fu (sI c) A Lc = some (chA A c w b, Lc) ∧ DX15_choose fu (sI c) M L = some (oM b, chM M w b, L) ∧ RC (chA A c w b) (chM M w b) L T C tn cn U := by
  have h0 := h
  obtain ⟨hT, hC, htn, hcn, a3, m1, m7, m0, a4, l21, m29, m35, hh, hg, m39, ht1, hch⟩ := h0
  obtain ⟨w, v1, v2, v3⟩ := hch c hc
  have hb := bsN_lt (A := A) (c := c) v2 T (Nat.le_refl _)
  have hbc : ∀ x, bsN A c w T = some x → x < T ∧ A 8 x = sI c := by
    intro x hx
    refine ⟨hb x hx, ?_⟩
    rcases bsN_st T x hx with hw | ⟨_, hq⟩
    · exact ((v3 x (v2 x hw)).mpr hw).1
    · exact hq
  refine ⟨w, bsN A c w T, v1, v2, v3, rfl, hbc, c_choose (by omega) hc hT a3 v1 v2, m_choose hf hT (RC_ok h) v3 v2, ?_⟩
  generalize hbe : bsN A c w T = b at hbc
  refine ⟨hT, hC, htn, hcn, ?_, ?_, ?_, ?_, ?_, l21, ?_, ?_, ?_, ?_, ?_, ?_, ?_⟩
  · rw [chA_f (by decide) (by omega)]; exact a3
  · rw [chM_f (by decide) (by decide)]; exact m1
  · rw [chM_f (by decide) (by decide)]; exact m7
  · rw [chM_f (by decide) (by decide)]; exact m0
  · rw [chA_f (by decide) (by omega)]; exact a4
  · rw [chM_f (by decide) (by decide)]; exact m29
  · rw [chM_f (by decide) (by decide)]; exact m35
  · intro r q1 q2
    rw [chM_f (by decide) (by decide)]; exact hh r q1 q2
  · intro r q1 q2
    rw [chM_f (by decide) (by decide)]; exact hg r q1 q2
  · rw [chM_f (by decide) (by decide)]; exact m39
  · intro i hi
    obtain ⟨rk, co, pe, mi, nx, st, lf, wa, tu, us, dn, q1, q2, q3⟩ := ht1 i hi
    obtain ⟨w1, w2, w3, w4, w5, w6, w7, w8, w9, w10, w11, w12, w13, w14, w15, w16⟩ := q1
    obtain ⟨k1, k2, k3, k4, k5, k6, k7, k8, k9, k10, k11⟩ := q2
    obtain ⟨n1, n2, n3, n4, n5, n6, n7, n8, n9, n10, n11, n12, n13⟩ := q3
    -- the task's new state
    have hs : ∃ st', st' < 3 ∧ (st' = 0 → st = 0) ∧ (st' ≠ 0 → st ≠ 0) ∧ chA A c w b 12 i = sI st' ∧ chM M w b 796 (i + 1) = sI st' := by
      rw [chA_12, chM_796]
      by_cases e1 : b = some i
      · rw [if_pos e1, if_pos e1]
        refine ⟨2, by omega, fun h => by omega, fun _ => ?_, rfl, rfl⟩
        rcases bsN_st T i (by rw [hbe]; exact e1) with hw | ⟨hq, _⟩
        · have := ((v3 i hi).mpr hw).2
          intro q
          rw [k6, q] at this
          exact absurd this (by decide)
        · intro q
          rw [k6, q] at hq
          exact absurd hq (by decide)
      · rw [if_neg e1, if_neg e1]
        by_cases e2 : w = some i
        · rw [if_pos e2, if_pos e2]
          refine ⟨1, by omega, fun h => by omega, fun _ => ?_, rfl, rfl⟩
          have := ((v3 i hi).mpr e2).2
          intro q
          rw [k6, q] at this
          exact absurd this (by decide)
        · rw [if_neg e2, if_neg e2]
          exact ⟨st, w8, fun h => h, fun h => h, k6, n8⟩
    obtain ⟨st', s1, s2, s3, s4, s5⟩ := hs
    refine ⟨rk, co, pe, mi, nx, st', lf, wa, tu, us, dn, ⟨w1, w2, w3, w4, w5, w6, w7, s1, w9, w10, w11, w12, w13, fun q => w14 (s2 q), w15, w16⟩, ⟨?_, ?_, ?_, ?_, ?_, s4, ?_, ?_, ?_, ?_, ?_⟩, ⟨?_, ?_, ?_, ?_, ?_, ?_, n7, s5, ?_, chM_804 n10, ?_, n12, fun q => ⟨(n13 (s3 q)).1, lfR_f (n13 (s3 q)).2 (chM_f (by decide) (by decide)) (chM_f (by decide) (by decide)) rfl⟩⟩⟩
    · rw [chA_f (by decide) (by omega)]; exact k1
    · rw [chA_f (by decide) (by omega)]; exact k2
    · rw [chA_f (by decide) (by omega)]; exact k3
    · rw [chA_f (by decide) (by omega)]; exact k4
    · rw [chA_f (by decide) (by omega)]; exact k5
    · rw [chA_f (by decide) (by omega)]; exact k7
    · rw [chA_f (by decide) (by omega)]; exact k8
    · rw [chA_f (by decide) (by omega)]; exact k9
    · rw [chA_f (by decide) (by omega)]; exact k10
    · rw [chA_f (by decide) (by omega)]; exact k11
    · rw [chM_f (by decide) (by decide)]; exact n1
    · rw [chM_f (by decide) (by decide)]; exact n2
    · rw [chM_f (by decide) (by decide)]; exact n3
    · rw [chM_f (by decide) (by decide)]; exact n4
    · rw [chM_f (by decide) (by decide)]; exact n5
    · rw [chM_f (by decide) (by decide)]; exact n6
    · rw [chM_f (by decide) (by decide)]; exact n9
    · rw [chM_f (by decide) (by decide)]; exact n11
  · intro c' hc'
    by_cases hcc : c' = c
    · subst hcc
      refine ⟨b, chA_18, fun x hx => (hbc x hx).1, ?_⟩
      intro i hi
      rw [chA_f (by decide) (by omega), chA_12]
      by_cases e1 : b = some i
      · rw [if_pos e1]
        exact ⟨fun _ => e1, fun _ => ⟨(hbc i e1).2, rfl⟩⟩
      · rw [if_neg e1]
        by_cases e2 : w = some i
        · rw [if_pos e2]
          exact ⟨fun q => absurd q.2 (by decide), fun q => absurd q e1⟩
        · rw [if_neg e2]
          exact ⟨fun q => absurd ((v3 i hi).mp q) e2, fun q => absurd q e1⟩
    · obtain ⟨w', u1, u2, u3⟩ := hch c' hc'
      refine ⟨w', by rw [chA_f (by decide) (by omega)]; exact u1, u2, ?_⟩
      intro i hi
      rw [chA_f (by decide) (by omega), chA_12]
      have hne : ∀ x, A 8 x = sI c → ¬ A 8 x = sI c' := by
        intro x q1 q2
        rw [q1] at q2
        have := (sI_eq (by omega) (by omega)).mp q2
        omega
      by_cases e1 : b = some i
      · have h8 := (hbc i e1).2
        rw [if_pos e1]
        exact ⟨fun q => absurd q.1 (hne i h8), fun q => absurd ((u3 i hi).mpr q).1 (hne i h8)⟩
      · rw [if_neg e1]
        by_cases e2 : w = some i
        · have h8 := ((v3 i hi).mpr e2).1
          rw [if_pos e2]
          exact ⟨fun q => absurd q.1 (hne i h8), fun q => absurd ((u3 i hi).mpr q).1 (hne i h8)⟩
        · rw [if_neg e2]
          exact u3 i hi
/-! who is chosen stays so, if nothing happens -/
theorem bsN_max {A : mwM} {c : Nat} {w : Option Nat} : ∀ j, (∀ x, w = some x → ∃ b, bsN A c w j = some b ∧ A 7 x ≤ A 7 b) ∧ (∀ x, x < j → A 8 x = sI c → A 12 x = 1 → ∃ b, bsN A c w j = some b ∧ A 7 x ≤ A 7 b) := by
  intro j
  induction j with
  | zero => exact ⟨fun x hx => ⟨x, hx, Int32.le_refl _⟩, fun x hx => by omega⟩
  | succ j ih =>
    obtain ⟨ih1, ih2⟩ := ih
    -- a best one only gives way to one that isn't lower
    have up : ∀ b, bsN A c w j = some b → ∃ b', bsN A c w (j + 1) = some b' ∧ A 7 b ≤ A 7 b' := by
      intro b hb
      unfold bsN
      rw [hb]
      simp only []
      by_cases hq : A 8 j = sI c ∧ A 12 j = 1 ∧ befB A j b = true
      · rw [if_pos hq]
        refine ⟨j, rfl, ?_⟩
        have hbe := hq.2.2
        unfold befB at hbe
        split at hbe
        · rename_i he
          rw [he]
          exact Int32.le_refl _
        · have := of_decide_eq_true hbe
          exact Int32.le_of_lt this
      · rw [if_neg hq]
        exact ⟨b, rfl, Int32.le_refl _⟩
    constructor
    · intro x hx
      obtain ⟨b, hb, hle⟩ := ih1 x hx
      obtain ⟨b', hb', hle'⟩ := up b hb
      exact ⟨b', hb', Int32.le_trans hle hle'⟩
    · intro x hx h8 h12
      by_cases hxj : x = j
      · subst hxj
        cases hb : bsN A c w x with
        | none =>
          refine ⟨x, ?_, Int32.le_refl _⟩
          unfold bsN
          rw [hb]
          simp only []
          rw [if_pos ⟨h8, h12⟩]
        | some b =>
          by_cases hbe : befB A x b = true
          · refine ⟨x, ?_, Int32.le_refl _⟩
            unfold bsN
            rw [hb]
            simp only []
            rw [if_pos ⟨h8, h12, hbe⟩]
          · refine ⟨b, ?_, ?_⟩
            · unfold bsN
              rw [hb]
              simp only []
              rw [if_neg (fun q => hbe q.2.2)]
            · unfold befB at hbe
              split at hbe
              · rename_i he
                rw [he]
                exact Int32.le_refl _
              · have : ¬ A 7 b < A 7 x := fun q => hbe (by simpa using q)
                exact Int32.not_lt.mp this
      · obtain ⟨b, hb, hle⟩ := ih2 x (by omega) h8 h12
        obtain ⟨b', hb', hle'⟩ := up b hb
        exact ⟨b', hb', Int32.le_trans hle hle'⟩
/-- nothing is to be chosen anew on a core -/
def stl (A : mwM) (c T : Nat) (b : Option Nat) : Prop := A 18 c = oI b ∧ ∀ x, x < T → A 8 x = sI c → A 12 x = 1 → ∃ y, b = some y ∧ A 12 y = 2 ∧ A 7 x ≤ A 7 y
theorem stl_bsN {A : mwM} {c T : Nat} {b : Option Nat} (h : stl A c T b) : ∀ j, j ≤ T → bsN A c b j = b := by
  intro j
  induction j with
  | zero => intro _; rfl
  | succ j ih =>
    intro hj
    have e := ih (by omega)
    unfold bsN
    rw [e]
    cases hb : b with
    | none =>
      simp only []
      rw [if_neg]
      rintro ⟨h8, h12⟩
      obtain ⟨y, hy, _⟩ := h.2 j (by omega) h8 h12
      rw [hb] at hy
      cases hy
    | some x =>
      simp only []
      rw [if_neg]
      rintro ⟨h8, h12, hbe⟩
      obtain ⟨y, hy, hy2, hle⟩ := h.2 j (by omega) h8 h12
      rw [hb] at hy
      injection hy with hy
      subst hy
      unfold befB at hbe
      split at hbe
      · simp [hy2] at hbe
      · have := of_decide_eq_true hbe
        exact absurd hle (Int32.not_le.mpr this)
theorem stl_choose {A : mwM} {c T : Nat} {w : Option Nat} (hw : ∀ i, i < T → ((A 8 i = sI c ∧ A 12 i = 2) ↔ w = some i)) (hwT : ∀ x, w = some x → x < T) : stl (chA A c w (bsN A c w T)) c T (bsN A c w T) := by
  refine ⟨chA_18, ?_⟩
  intro x hx h8 h12
  rw [chA_f (by decide) (by omega)] at h8
  rw [chA_12] at h12
  obtain ⟨mx1, mx2⟩ := bsN_max (A := A) (c := c) (w := w) T
  have key : ∃ b, bsN A c w T = some b ∧ A 7 x ≤ A 7 b := by
    by_cases e1 : bsN A c w T = some x
    · exact ⟨x, e1, Int32.le_refl _⟩
    · rw [if_neg e1] at h12
      by_cases e2 : w = some x
      · exact mx1 x e2
      · rw [if_neg e2] at h12
        exact mx2 x hx h8 h12
  obtain ⟨b, hb, hle⟩ := key
  refine ⟨b, hb, ?_, ?_⟩
  · rw [chA_12, if_pos hb]
  · rw [chA_f (by decide) (by omega), chA_f (by decide) (by omega)]
    exact hle
