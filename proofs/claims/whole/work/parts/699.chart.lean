/-! a task that is done lets its chart work off what waits -/
theorem ev2_r {va : Nat → Int32} {e t i : Nat} {w : ZT} (h : i ≠ 13) (h2 : i ≠ 14) : (ev2 va e t w).2.1.1 i = w.1.1 i := by
  have h1 := spL_r (va := va) (t := t) h h2 1000 w
  unfold ev2
  split
  · split
    · exact h1
    · rw [ch_r h h2]
      exact (g_r (w := (spL va t 1000 w).2) h h2).trans h1
  · exact h1
theorem ev1_r {va : Nat → Int32} {e t i : Nat} {w : ZT} (h : i ≠ 13) (h2 : i ≠ 14) : (ev1 va e t w).2.1.1 i = w.1.1 i := by
  unfold ev1
  split
  · exact ev2_r h h2
  · split
    · rw [ev2_r h h2, ch_r h h2]; exact stZ_r h2
    · rw [ch_r h h2]; exact stZ_r h2
def wkS (va : Nat → Int32) (t e : Nat) (p : ZT × Int32) : ZT × Int32 := ((ev1 va e t p.1).2, if (ev1 va e t p.1).1 = true then p.2 else p.2 + 1)
def wkN (va : Nat → Int32) (t : Nat) (es : Nat → Nat) : Nat → ZT × Int32 → ZT × Int32
  | 0, p => p
  | i + 1, p => wkS va t (es i) (wkN va t es i p)
def wkZ (va : Nat → Int32) (t n : Nat) (es : Nat → Nat) (p : ZT × Int32) : ZT × Int32 := if dfl p.1.1.1 0 = 0 then p else if n = 0 then wkS va t 0 p else wkN va t es n p
theorem wkS_I {va : Nat → Int32} {t e : Nat} {p : ZT × Int32} (h : WI p.1) (ht : t ≤ 20000) : WI (wkS va t e p).1 := ev1_I h ht
theorem wkN_I {va : Nat → Int32} {t : Nat} {es : Nat → Nat} (ht : t ≤ 20000) : ∀ n p, WI p.1 → WI (wkN va t es n p).1 := by
  intro n
  induction n with
  | zero => intro p h; exact h
  | succ n ih => intro p h; exact wkS_I (ih p h) ht
theorem wkN_r {va : Nat → Int32} {t i : Nat} {es : Nat → Nat} (h : i ≠ 13) (h2 : i ≠ 14) : ∀ n p, (wkN va t es n p).1.1.1 i = p.1.1.1 i := by
  intro n
  induction n with
  | zero => intro p; rfl
  | succ n ih => intro p; exact (ev1_r h h2).trans (ih p)
theorem wkZ_I {va : Nat → Int32} {t n : Nat} {es : Nat → Nat} {p : ZT × Int32} (h : WI p.1) (ht : t ≤ 20000) : WI (wkZ va t n es p).1 := by
  unfold wkZ
  split
  · exact h
  · split
    · exact wkS_I h ht
    · exact wkN_I ht _ _ h
theorem c_workOff {fu : Nat} {A : mwM} {L : mwL} {k t n : Nat} {es : Nat → Nat} {va : Nat → Int32} {p : ZT × Int32} (hf : 1100 ≤ fu) (hw : WI p.1) (h : RcW k A L va p.1) (ht : t ≤ 20000) (hn : n ≤ 16) (h11 : A k 11 = sI n) (hes : ∀ i, i < n → A (k + 35) i = sI (es i) ∧ es i < 1000) (h13 : A k 13 = p.2) : wq (DX2_workOff fu k (sI t) A L) (fun z => RcW k z.1 z.2 va (wkZ va t n es p).1 ∧ z.1 k 13 = (wkZ va t n es p).2 ∧ z.1 k 11 = sI 0 ∧ (∀ a y, ¬ (k + 7 ≤ a ∧ a ≤ k + 17) → a ≠ k + 26 → a ≠ k + 27 → ¬ (a = k ∧ (11 ≤ y ∧ y ≤ 16)) → z.1 a y = A a y) ∧ ∀ a, a ≠ k + 34 → z.2 a = L a) := by
  have hdl : dfl p.1.1.1 0 ≤ p.1.1.1 0 0 := ch_le
  have hN := hw.1.1.1
  generalize hQ : (fun z : mwM × mwL => RcW k z.1 z.2 va (wkZ va t n es p).1 ∧ z.1 k 13 = (wkZ va t n es p).2 ∧ z.1 k 11 = sI 0 ∧ (∀ a y, ¬ (k + 7 ≤ a ∧ a ≤ k + 17) → a ≠ k + 26 → a ≠ k + 27 → ¬ (a = k ∧ (11 ≤ y ∧ y ≤ 16)) → z.1 a y = A a y) ∧ ∀ a, a ≠ k + 34 → z.2 a = L a) = Q
  -- one event
  have one : ∀ (β : Type) (e : Nat) (a : mwM) (l : mwL) (u : ZT × Int32) (K : mwM → mwL → Option β) (P : β → Prop), e < 1000 → WI u.1 → RcW k a l va u.1 → a k 13 = u.2 → a k 11 = sI 0 → (∀ b y, ¬ (k + 7 ≤ b ∧ b ≤ k + 17) → b ≠ k + 26 → b ≠ k + 27 → ¬ (b = k ∧ (11 ≤ y ∧ y ≤ 16)) → a b y = A b y) → (∀ b, b ≠ k + 34 → l b = L b) → (∀ a' l', RcW k a' l' va (wkS va t e u).1 → a' k 13 = (wkS va t e u).2 → a' k 11 = sI 0 → (∀ b y, ¬ (k + 7 ≤ b ∧ b ≤ k + 17) → b ≠ k + 26 → b ≠ k + 27 → ¬ (b = k ∧ (11 ≤ y ∧ y ≤ 16)) → a' b y = A b y) → (∀ b, b ≠ k + 34 → l' b = L b) → wq (K a' l') P) → wq (mb3 (DX2_happen fu k (sI e) (sI t) a l) (fun r M3 L4 => if r = 0 then K (mset M3 k 13 (M3 k 13 + 1)) L4 else K M3 L4)) P := by
    intro β e a l u K P he hu hr g13 g11 p1 p2 hK
    refine wq_b3 (c_happen hf hu hr ht he) ?_
    rintro r M1 L1 ⟨y1, y2, y3, y4⟩
    dsimp only at y1 y2 y3 y4
    subst y1
    have f13 : M1 k 13 = u.2 := (y3 _ _ (by omega) (by omega) (by omega) (by omega)).trans g13
    have f11 : M1 k 11 = sI 0 := (y3 _ _ (by omega) (by omega) (by omega) (by omega)).trans g11
    have fr : ∀ b y, ¬ (k + 7 ≤ b ∧ b ≤ k + 17) → b ≠ k + 26 → b ≠ k + 27 → ¬ (b = k ∧ (11 ≤ y ∧ y ≤ 16)) → M1 b y = A b y := fun b y u1 u2 u3 u4 => (y3 b y u1 u2 u3 (by omega)).trans (p1 b y u1 u2 u3 u4)
    have fl : ∀ b, b ≠ k + 34 → L1 b = L b := fun b u1 => (y4 b u1).trans (p2 b u1)
    cases hok : (ev1 va e t u.1).1 with
    | true =>
      rw [if_neg (by decide)]
      refine hK M1 L1 y2 ?_ f11 fr fl
      unfold wkS
      rw [hok, if_pos rfl]
      exact f13
    | false =>
      rw [if_pos bI_f]
      refine hK _ L1 (RcW_f y2 (fun b y u1 u2 u3 u4 u5 => mset_n (by omega)) rfl) ?_ (by rw [mset_j (by omega)]; exact f11) (fun b y u1 u2 u3 u4 => by rw [mset_n (by omega)]; exact fr b y u1 u2 u3 u4) fl
      unfold wkS
      rw [hok, if_neg (by decide), mset_s, f13]
  unfold DX2_workOff
  simp only [mlet]
  have hB : RcW k (mset A k 11 0) L va p.1 := RcW_f h (fun b y u1 u2 u3 u4 u5 => mset_n (by omega)) rfl
  have e6 : mset A k 11 0 (k + 6) ((0 : Int32).toNatClampNeg) = sI (dfl p.1.1.1 0) := by
    rw [mset_k (by omega)]
    exact (h.1.2.2.2.2.1 0 (Nat.zero_le _)).2.1
  rw [e6, h11]
  by_cases hd : dfl p.1.1.1 0 = 0
  · have e0 : wkZ va t n es p = p := by unfold wkZ; rw [if_pos hd]
    rw [if_pos (by rw [hd]; rfl), ← hQ, e0]
    refine wq_some ⟨hB, ?_, mset_s, fun b y u1 u2 u3 u4 => mset_n (by omega), fun _ _ => rfl⟩
    dsimp only
    rw [mset_j (by omega)]; exact h13
  rw [if_neg (by rw [sI_eql (by omega) (by decide)]; exact hd)]
  -- the row of events
  have row : ∀ (a : mwM) (l : mwL) (u : ZT × Int32), (n = 0 → u = wkZ va t n es p) → (n ≠ 0 → u = p) → WI u.1 → RcW k a l va u.1 → a k 13 = u.2 → a k 11 = sI 0 → (∀ b y, ¬ (k + 7 ≤ b ∧ b ≤ k + 17) → b ≠ k + 26 → b ≠ k + 27 → ¬ (b = k ∧ (11 ≤ y ∧ y ≤ 16)) → a b y = A b y) → (∀ b, b ≠ k + 34 → l b = L b) → wq (fX2_workOff_b45 fu k (sI t) (sI n) a l) Q := by
    intro a l u hu0 hu1 hu hr g13 g11 p1 p2
    unfold fX2_workOff_b45
    refine wq_for (body := fun r s => fX2_workOff_i47 fu k (sI t) r s.1 s.2.1 s.2.2.1 s.2.2.2) (fun i (w : mwM × mwL) => (sI n, sI i, w.1, w.2)) (fun i w => RcW k w.1 w.2 va (wkN va t es i u).1 ∧ w.1 k 13 = (wkN va t es i u).2 ∧ w.1 k 11 = sI 0 ∧ (∀ b y, ¬ (k + 7 ≤ b ∧ b ≤ k + 17) → b ≠ k + 26 → b ≠ k + 27 → ¬ (b = k ∧ (11 ≤ y ∧ y ≤ 16)) → w.1 b y = A b y) ∧ ∀ b, b ≠ k + 34 → w.2 b = L b) n ?_ ?_ n 0 (a, l) fu (by omega) (by omega) ⟨hr, g13, g11, p1, p2⟩
    · rintro i ⟨a, l⟩ r hi ⟨q1, q2, q3, q4, q5⟩ ih
      dsimp only at q1 q2 q3 q4 q5
      show wq (fX2_workOff_i47 fu k (sI t) r (sI n) (sI i) a l) _
      have key := fun (X : mwM) (Y : mwL) => ih (X, Y)
      dsimp only at key
      have e35 : a (k + 35) i = sI (es i) := (q4 _ _ (by omega) (by omega) (by omega) (by omega)).trans (hes i hi).1
      unfold fX2_workOff_i47 fX2_workOff_b76
      rw [if_neg (by rw [sI_le (by omega) (by omega)]; omega), mck_s (by omega) (by omega), sI_nn (by omega), e35]
      simp only [mlet]
      rw [sI_1]
      exact one _ (es i) a l (wkN va t es i u) (fun X Y => r (sI n, sI (i + 1), X, Y)) _ (hes i hi).2 (wkN_I ht _ _ hu) q1 q2 q3 q4 q5 (fun a' l' z1 z2 z3 z4 z5 => key a' l' ⟨z1, z2, z3, z4, z5⟩)
    · rintro ⟨a, l⟩ r ⟨q1, q2, q3, q4, q5⟩
      dsimp only at q1 q2 q3 q4 q5
      show wq (fX2_workOff_i47 fu k (sI t) r (sI n) (sI n) a l) _
      unfold fX2_workOff_i47
      rw [if_pos (by rw [sI_le (by omega) (by omega)]; exact Nat.le_refl _), ← hQ]
      have e0 : wkN va t es n u = wkZ va t n es p := by
        by_cases hz : n = 0
        · rw [← hu0 hz, hz]
          rfl
        · rw [hu1 hz]
          unfold wkZ
          rw [if_neg hd, if_neg hz]
      rw [e0] at q1 q2
      exact wq_some ⟨q1, q2, q3, q4, q5⟩
  have fB : ∀ b y, ¬ (k + 7 ≤ b ∧ b ≤ k + 17) → b ≠ k + 26 → b ≠ k + 27 → ¬ (b = k ∧ (11 ≤ y ∧ y ≤ 16)) → mset A k 11 0 b y = A b y := fun b y u1 u2 u3 u4 => mset_n (by omega)
  by_cases hz : n = 0
  · rw [if_pos (by rw [hz]; rfl)]
    refine one _ 0 _ L p (fun X Y => fX2_workOff_b45 fu k (sI t) (sI n) X Y) Q (by omega) hw hB (by rw [mset_j (by omega)]; exact h13) mset_s fB (fun _ _ => rfl) (fun a' l' z1 z2 z3 z4 z5 => row a' l' (wkS va t 0 p) (fun _ => ?_) (fun w => absurd hz w) (wkS_I hw ht) z1 z2 z3 z4 z5)
    unfold wkZ
    rw [if_neg hd, if_pos hz]
  · rw [if_neg (by rw [sI_eql (by omega) (by decide)]; exact hz)]
    exact row _ L p (fun w => absurd w hz) (fun _ => rfl) hw hB (by rw [mset_j (by omega)]; exact h13) mset_s fB (fun _ _ => rfl)
theorem m_taskDone {fu : Nat} {M : mwM} {L : mwL} {x t T n nw : Nat} {es : Nat → Nat} {va : Nat → Int32} {p : ZT × Int32} (hf : 1100 ≤ fu) (hT : T < 12) (hx : x < 12) (hw : WI p.1) (h : RmW (964 + 53 * x) M L va p.1) (ht : t ≤ 20000) (hn : n ≤ 16) (h747 : M 747 T = sI x) (h83 : M 732 83 = sI t) (h752 : M 752 x = sI n) (hes : ∀ i, i < n → M 753 (16 * x + i) = sI (es i) ∧ es i < 1000) (h751 : M 751 x = p.2) (hnw : L (964 + 53 * x) 28 = sL nw) (hnt : nw ≤ t) : wq (DX19_taskDone fu (sI T) M L) (fun z => RmW (964 + 53 * x) z.1 z.2 va (wkZ va t n es p).1 ∧ z.1 751 x = (wkZ va t n es p).2 ∧ z.1 752 x = sI 0 ∧ z.1 748 T = M 748 T + 1 ∧ (∃ nw', nw' ≤ t ∧ z.2 (964 + 53 * x) 28 = sL nw') ∧ (∀ a y, ¬ (964 + 53 * x ≤ a ∧ a ≤ 964 + 53 * x + 29) → ¬ (a = 748 ∧ y = T) → ¬ (a = 751 ∧ y = x) → ¬ (a = 752 ∧ y = x) → z.1 a y = M a y) ∧ ∀ a, a ≠ 964 + 53 * x → a ≠ 964 + 53 * x + 6 → a ≠ 964 + 53 * x + 21 → z.2 a = L a) := by
  obtain ⟨q, hq⟩ : ∃ q, q = 964 + 53 * x := ⟨_, rfl⟩
  rw [← hq] at h hnw ⊢
  generalize hQ : (fun z : mwM × mwL => RmW q z.1 z.2 va (wkZ va t n es p).1 ∧ z.1 751 x = (wkZ va t n es p).2 ∧ z.1 752 x = sI 0 ∧ z.1 748 T = M 748 T + 1 ∧ (∃ nw', nw' ≤ t ∧ z.2 q 28 = sL nw') ∧ (∀ a y, ¬ (q ≤ a ∧ a ≤ q + 29) → ¬ (a = 748 ∧ y = T) → ¬ (a = 751 ∧ y = x) → ¬ (a = 752 ∧ y = x) → z.1 a y = M a y) ∧ ∀ a, a ≠ q → a ≠ q + 6 → a ≠ q + 21 → z.2 a = L a) = Q
  -- what a step of events is, where nothing is there at all
  obtain ⟨S, hS⟩ : ∃ S : Nat → ZT × Int32 → ZT × Int32, S = fun e u => if dfl p.1.1.1 0 = 0 then u else wkS va t e u := ⟨_, rfl⟩
  have S_I : ∀ e u, WI u.1 → WI (S e u).1 := by
    intro e u hu
    rw [hS]
    dsimp only
    split
    · exact hu
    · exact wkS_I hu ht
  have S_r : ∀ e u, (u.1.1.1 0 = p.1.1.1 0 ∧ u.1.1.1 1 = p.1.1.1 1 ∧ u.1.1.1 2 = p.1.1.1 2) → ((S e u).1.1.1 0 = p.1.1.1 0 ∧ (S e u).1.1.1 1 = p.1.1.1 1 ∧ (S e u).1.1.1 2 = p.1.1.1 2) := by
    intro e u hu
    rw [hS]
    dsimp only
    split
    · exact hu
    · refine ⟨?_, ?_, ?_⟩
      · exact (ev1_r (by omega) (by omega)).trans hu.1
      · exact (ev1_r (by omega) (by omega)).trans hu.2.1
      · exact (ev1_r (by omega) (by omega)).trans hu.2.2
  have one : ∀ (β : Type) (e : Nat) (a : mwM) (l : mwL) (u : ZT × Int32) (K : mwM → mwL → Option β) (P : β → Prop), e < 1000 → WI u.1 → (u.1.1.1 0 = p.1.1.1 0 ∧ u.1.1.1 1 = p.1.1.1 1 ∧ u.1.1.1 2 = p.1.1.1 2) → RmW q a l va u.1 → a 751 x = u.2 → (∃ nw', nw' ≤ t ∧ l q 28 = sL nw') → (∀ a' l', RmW q a' l' va (S e u).1 → a' 751 x = (S e u).2 → (∃ nw', nw' ≤ t ∧ l' q 28 = sL nw') → (∀ b y, ¬ (q ≤ b ∧ b ≤ q + 29) → ¬ (b = 751 ∧ y = x) → a' b y = a b y) → (∀ b, b ≠ q → b ≠ q + 6 → b ≠ q + 21 → l' b = l b) → wq (K a' l') P) → wq (mb3 (DX13_event fu q (sI e) (sL t) a l) (fun r M3 L4 => if r = (-1) then mck (sI x) 12 (mck (sI x) 12 (K (mset M3 751 x (M3 751 x + 1)) L4)) else K M3 L4)) P := by
    intro β e a l u K P he hu hur hr g751 ⟨nw1, g1, g2⟩ hK
    have ed : dfl u.1.1.1 0 = dfl p.1.1.1 0 := by
      unfold dfl
      rw [hur.1, hur.2.1, hur.2.2]
    by_cases hd : dfl p.1.1.1 0 = 0
    · have eS : S e u = u := by rw [hS]; dsimp only; rw [if_pos hd]
      rw [eS] at hK
      refine wq_b3 (m_event0 hf hu hr ht he g2 g1 (by rw [ed]; exact hd)) ?_
      rintro r M1 L1 ⟨y1, y2, y3, y4⟩
      dsimp only at y1 y2 y3 y4
      subst y1 y4
      rw [if_neg (by decide)]
      exact hK M1 L1 y2 ((y3 _ _ (by omega)).trans g751) ⟨nw1, g1, g2⟩ (fun b y u1 u2 => y3 b y u1) (fun _ _ _ _ => rfl)
    · have eS : S e u = wkS va t e u := by rw [hS]; dsimp only; rw [if_neg hd]
      rw [eS] at hK
      refine wq_b3 (m_event hf hu hr ht he g2 g1 (by rw [ed]; exact hd)) ?_
      rintro r M1 L1 ⟨y1, y2, y3, y4, y5⟩
      dsimp only at y1 y2 y3 y4 y5
      have f751 : M1 751 x = u.2 := (y3 _ _ (by omega)).trans g751
      unfold reE at y1
      cases hok : (ev1 va e t u.1).1 with
      | true =>
        rw [hok, if_pos rfl] at y1
        obtain ⟨m, m1, m2⟩ := y1
        rw [if_neg (by
          rw [m2]
          intro z
          have h1 := congrArg Int32.toInt z
          rw [sI_toInt (by omega), show (-1 : Int32).toInt = -1 from by decide] at h1
          omega)]
        refine hK M1 L1 y2 ?_ ⟨t, Nat.le_refl _, y5⟩ (fun b y u1 u2 => y3 b y u1) y4
        unfold wkS
        rw [hok, if_pos rfl]
        exact f751
      | false =>
        rw [hok, if_neg (by decide)] at y1
        rw [if_pos y1, mck_s (by omega) (by omega), mck_s (by omega) (by omega)]
        refine hK _ L1 (RmW_n y2 (by rw [mset_k (by omega)]; exact y2.2.2.2.1.2.2.2.2.2.2) (fun b y u1 u2 u3 => mset_n (by omega))) ?_ ⟨t, Nat.le_refl _, y5⟩ (fun b y u1 u2 => by rw [mset_n u2]; exact y3 b y u1) y4
        unfold wkS
        rw [hok, if_neg (by decide), mset_s, f751]
  -- the row of events
  obtain ⟨SN, hSN⟩ : ∃ SN : Nat → ZT × Int32 → ZT × Int32, SN = fun i u => if dfl p.1.1.1 0 = 0 then u else wkN va t es i u := ⟨_, rfl⟩
  have SN_S : ∀ i u, SN (i + 1) u = S (es i) (SN i u) := by
    intro i u
    rw [hS, hSN]
    dsimp only
    split
    · rfl
    · rfl
  generalize hG : mset (mset M 748 T (M 748 T + 1)) 752 x 0 = G
  have G0 : ∀ a y, ¬ (a = 748 ∧ y = T) → ¬ (a = 752 ∧ y = x) → G a y = M a y := by
    intro a y u1 u2
    subst hG
    rw [mset_n u2, mset_n u1]
  have G748 : G 748 T = M 748 T + 1 := by
    subst hG
    rw [mset_k (by omega), mset_s]
  have G752 : G 752 x = sI 0 := by
    subst hG
    rw [mset_s]
    rfl
  have hGr : RmW q G L va p.1 := RmW_n h (by rw [G0 _ _ (by omega) (by omega)]; exact h.2.2.2.1.2.2.2.2.2.2) (fun b y u1 u2 u3 => G0 _ _ (by omega) (by omega))
  have row : ∀ (a : mwM) (l : mwL) (u : ZT × Int32), SN n u = wkZ va t n es p → WI u.1 → (u.1.1.1 0 = p.1.1.1 0 ∧ u.1.1.1 1 = p.1.1.1 1 ∧ u.1.1.1 2 = p.1.1.1 2) → RmW q a l va u.1 → a 751 x = u.2 → (∃ nw', nw' ≤ t ∧ l q 28 = sL nw') → (∀ b y, ¬ (q ≤ b ∧ b ≤ q + 29) → ¬ (b = 751 ∧ y = x) → a b y = G b y) → (∀ b, b ≠ q → b ≠ q + 6 → b ≠ q + 21 → l b = L b) → wq (fX19_taskDone_b69 fu (sI T) (sI x) (sI n) a l) Q := by
    intro a l u hfin hu hur hr g751 g28 p1 p2
    unfold fX19_taskDone_b69
    refine wq_for (body := fun r s => fX19_taskDone_i72 fu (sI T) r s.1 s.2.1 s.2.2.1 s.2.2.2.1 s.2.2.2.2) (fun i (w : mwM × mwL) => (sI x, sI n, sI i, w.1, w.2)) (fun i w => WI (SN i u).1 ∧ ((SN i u).1.1.1 0 = p.1.1.1 0 ∧ (SN i u).1.1.1 1 = p.1.1.1 1 ∧ (SN i u).1.1.1 2 = p.1.1.1 2) ∧ RmW q w.1 w.2 va (SN i u).1 ∧ w.1 751 x = (SN i u).2 ∧ (∃ nw', nw' ≤ t ∧ w.2 q 28 = sL nw') ∧ (∀ b y, ¬ (q ≤ b ∧ b ≤ q + 29) → ¬ (b = 751 ∧ y = x) → w.1 b y = G b y) ∧ ∀ b, b ≠ q → b ≠ q + 6 → b ≠ q + 21 → w.2 b = L b) n ?_ ?_ n 0 (a, l) fu (by omega) (by omega) ?_
    · rintro i ⟨a, l⟩ r hi ⟨q0, q0', q1, q2, q3, q4, q5⟩ ih
      dsimp only at q1 q2 q3 q4 q5
      show wq (fX19_taskDone_i72 fu (sI T) r (sI x) (sI n) (sI i) a l) _
      have key := fun (X : mwM) (Y : mwL) => ih (X, Y)
      dsimp only at key
      rw [SN_S] at key
      have e753 : a 753 (16 * x + i) = sI (es i) := by
        rw [q4 _ _ (by omega) (by omega), G0 _ _ (by omega) (by omega)]
        exact (hes i hi).1
      have e83 : a 732 83 = sI t := by
        rw [q4 _ _ (by omega) (by omega), G0 _ _ (by omega) (by omega)]
        exact h83
      unfold fX19_taskDone_i72 fX19_taskDone_b118
      simp (disch := omega) only [sI_lml, sI_add, e753, e83, sI_L, mck_s, sI_nn, nn_s, sI_lt, sI_le, sI_eq, sI_ltl, sI_lel, sI_eql, sI_llt, sI_lle, sI_1, bI_0, bI_1, bI_n, mlet, mb3_s, mb2_s]
      rw [if_neg (by omega), ← hq]
      have := one _ (es i) a l (SN i u) (fun X Y => r (sI x, sI n, sI (i + 1), X, Y)) Q (hes i hi).2 q0 q0' q1 q2 q3 (fun a' l' z1 z2 z3 z4 z5 => key a' l' ⟨S_I _ _ q0, S_r _ _ q0', z1, z2, z3, fun b y u1 u2 => (z4 b y u1 u2).trans (q4 b y u1 u2), fun b u1 u2 u3 => (z5 b u1 u2 u3).trans (q5 b u1 u2 u3)⟩)
      simp only [mck_s (show x < 12 from hx) (show x < 2000000000 by omega)] at this
      exact this
    · rintro ⟨a, l⟩ r ⟨q0, q0', q1, q2, q3, q4, q5⟩
      dsimp only at q1 q2 q3 q4 q5
      show wq (fX19_taskDone_i72 fu (sI T) r (sI x) (sI n) (sI n) a l) _
      unfold fX19_taskDone_i72
      rw [if_pos (by rw [sI_le (by omega) (by omega)]; exact Nat.le_refl _), ← hQ]
      rw [hfin] at q1 q2
      refine wq_some ⟨q1, q2, ?_, ?_, q3, fun b y u1 u2 u3 u4 => ?_, q5⟩
      all_goals (try dsimp only)
      · rw [q4 _ _ (by omega) (by omega)]; exact G752
      · rw [q4 _ _ (by omega) (by omega)]; exact G748
      · rw [q4 _ _ u1 u3, G0 _ _ u2 u4]
    · have e0 : SN 0 u = u := by
        rw [hSN]
        dsimp only
        split
        · rfl
        · rfl
      rw [e0]
      exact ⟨hu, hur, hr, g751, g28, p1, p2⟩
  unfold DX19_taskDone
  have e747 : mset M 748 T (M 748 T + 1) 747 T = sI x := by rw [mset_k (by omega)]; exact h747
  have e752 : mset M 748 T (M 748 T + 1) 752 x = sI n := by rw [mset_k (by omega)]; exact h752
  have e83 : G 732 83 = sI t := (G0 _ _ (by omega) (by omega)).trans h83
  simp (disch := omega) only [e747, e752, mck_s, sI_nn, nn_s, sI_lt, sI_le, sI_eq, sI_ltl, sI_lel, sI_eql, sI_llt, sI_lle, sI_1, bI_0, bI_1, bI_n, mlet, mb3_s, mb2_s]
  rw [hG, if_pos (by omega)]
  simp (disch := omega) only [e83, sI_L, mck_s, sI_nn, nn_s, sI_lt, sI_le, sI_eq, sI_ltl, sI_lel, sI_eql, sI_llt, sI_lle, sI_1, bI_0, bI_1, bI_n, mlet, mb3_s, mb2_s]
  rw [← hq]
  by_cases hz : n = 0
  · rw [if_pos hz]
    have := one _ 0 G L p (fun X Y => fX19_taskDone_b69 fu (sI T) (sI x) (sI n) X Y) Q (by omega) hw ⟨rfl, rfl, rfl⟩ hGr ((G0 _ _ (by omega) (by omega)).trans h751) ⟨nw, hnt, hnw⟩ (fun a' l' z1 z2 z3 z4 z5 => row a' l' (S 0 p) ?_ (S_I _ _ hw) (S_r _ _ ⟨rfl, rfl, rfl⟩) z1 z2 z3 z4 z5)
    · simp only [mck_s (show x < 12 from hx) (show x < 2000000000 by omega)] at this
      exact this
    · rw [hS, hSN]
      unfold wkZ
      dsimp only
      by_cases hd : dfl p.1.1.1 0 = 0
      · rw [if_pos hd, if_pos hd, if_pos hd]
      · rw [if_neg hd, if_neg hd, if_neg hd, if_pos hz, hz]
        rfl
  · rw [if_neg hz]
    refine row G L p ?_ hw ⟨rfl, rfl, rfl⟩ hGr ((G0 _ _ (by omega) (by omega)).trans h751) ⟨nw, hnt, hnw⟩ (fun _ _ _ _ => rfl) (fun _ _ _ _ => rfl)
    rw [hSN]
    unfold wkZ
    dsimp only
    by_cases hd : dfl p.1.1.1 0 = 0
    · rw [if_pos hd, if_pos hd]
    · rw [if_neg hd, if_neg hd, if_neg hz]
