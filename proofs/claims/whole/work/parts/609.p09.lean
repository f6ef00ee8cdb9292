/-! the class: what is on its way, a message is made, a frame's octets -/
def toT (n : Nat → Nat → Nat) (b : Nat → Nat → Bool) (f : Nat) : Bool := b 0 (n 11 f) == decide (n 10 f = 3)
def onW (n : Nat → Nat → Nat) (b : Nat → Nat → Bool) (c : Nat) (tt : Bool) (f : Nat) : Bool := !b 1 f && (decide (n 1 (n 11 f) = c) && (toT n b f == tt))
def rchP (c : Nat) (tt : Bool) (p : PB) : PB × Nat := match (List.range (p.1 0 2)).find? (onW p.1 p.2 c tt) with
  | none => (p, 0)
  | some f => rvQ f (p.1, mset p.2 1 f true)
theorem mzz_b {β : Type} {b : Bool} {x : Option β} : mzz (bI b) x = x := by
  unfold mzz
  rw [if_pos bI_z]
theorem c_isQuestion {fu m : Nat} {A : mwM} {L : mwL} {n : Nat → Nat → Nat} {b : Nat → Nat → Bool} {o : Nat → Nat → Nat} (h : TfC A n b o) (hK : n 0 0 ≤ 100) (h1 : 1 ≤ m) (h2 : m ≤ n 0 0) : DX9_isQuestion fu (sI m) A L = some (bI (b 0 m), A, L) := by
  have e := (h.2.1 m h1 h2).2.1
  unfold DX9_isQuestion fX9_isQuestion_b17
  rw [mck_s (by omega) (by omega), sI_nn (by omega), e]
  cases b 0 m
  · rw [if_neg (by decide)]
    unfold mzz
    rw [if_pos (by decide)]
    rfl
  · rw [if_pos (by decide)]
    unfold mzz
    rw [if_pos (by decide)]
    rfl
theorem c_controllerOf {fu f : Nat} {A : mwM} {L : mwL} {n : Nat → Nat → Nat} {b : Nat → Nat → Bool} {o : Nat → Nat → Nat} (h : TfC A n b o) (hv : TfV n b) (hf : f < n 0 1) : DX9_controllerOf fu (sI f) A L = some (sI (n 1 (n 11 f)), A, L) := by
  have hF := Tf_F hv
  have hg := hv.2.2.2 f hf
  have hK := hv.1.1
  have e := (h.2.2.2 f hf).2.1
  have e1 := (h.2.1 (n 11 f) hg.2.1 hg.2.2.1).1
  unfold DX9_controllerOf
  rw [mck_s (by omega) (by omega), sI_nn (by omega), e, mck_s (by omega) (by omega), sI_nn (by omega), e1]
theorem c_isToTester {fu f : Nat} {A : mwM} {L : mwL} {n : Nat → Nat → Nat} {b : Nat → Nat → Bool} {o : Nat → Nat → Nat} (h : TfC A n b o) (hv : TfV n b) (hf : f < n 0 1) : DX9_isToTester fu (sI f) A L = some (bI (toT n b f), A, L) := by
  have hF := Tf_F hv
  have hg := hv.2.2.2 f hf
  have hK := hv.1.1
  obtain ⟨e0, e1, _, _⟩ := h.2.2.2 f hf
  unfold DX9_isToTester fX9_isToTester_b29 fX9_isToTester_b37
  rw [mck_s (by omega) (by omega), sI_nn (by omega), e1, c_isQuestion h hK hg.2.1 hg.2.2.1, mb3_s, mck_s (by omega) (by omega), e0]
  unfold toT
  by_cases h3 : n 10 f = 3
  · rw [if_pos (by rw [h3]; rfl), decide_eq_true h3]
    cases b 0 (n 11 f)
    · rw [if_neg (by decide)]; rfl
    · rw [if_pos (by decide)]; rfl
  · rw [if_neg (by rw [sI_eql (by omega) (by decide)]; exact h3), decide_eq_false h3]
    cases b 0 (n 11 f)
    · rw [if_pos (by decide)]; rfl
    · rw [if_neg (by decide)]; rfl
theorem bI_eq {a b : Bool} : (bI a = bI b) ↔ a = b := by cases a <;> cases b <;> decide
theorem rch_some {c f : Nat} {tt : Bool} {p : PB} (hf : f < p.1 0 2) (ho : onW p.1 p.2 c tt f = true) (hn : ∀ j, j < f → onW p.1 p.2 c tt j = false) : rchP c tt p = rvQ f (p.1, mset p.2 1 f true) := by
  unfold rchP
  have : (List.range (p.1 0 2)).find? (onW p.1 p.2 c tt) = some f := List.find?_range_eq_some.mpr ⟨ho, List.mem_range.mpr hf, fun j hj => by rw [hn j hj]; rfl⟩
  rw [this]
theorem rch_none {c : Nat} {tt : Bool} {p : PB} (hn : ∀ j, j < p.1 0 2 → onW p.1 p.2 c tt j = false) : rchP c tt p = (p, 0) := by
  unfold rchP
  have : (List.range (p.1 0 2)).find? (onW p.1 p.2 c tt) = none := List.find?_range_eq_none.mpr (fun j hj => by rw [hn j hj]; rfl)
  rw [this]
theorem c_reach {fu c : Nat} {tt : Bool} {A : mwM} {L : mwL} {p : PB} {o : Nat → Nat → Nat} (hfu : 1700 ≤ fu) (hc : c < 6) (hv : TfV p.1 p.2) (h : TfC A p.1 p.2 o) : wq (DX9_reach fu (sI c) (bI tt) A L) (fun z => z.1 = sI (rchP c tt p).2 ∧ z.2.2 = L ∧ TfC z.2.1 (rchP c tt p).1.1 (rchP c tt p).1.2 o ∧ TfV (rchP c tt p).1.1 (rchP c tt p).1.2 ∧ ∀ a y, ¬ (a = 154 ∨ a = 159 ∨ (264 ≤ a ∧ a ≤ 268) ∨ (270 ≤ a ∧ a ≤ 273)) → z.2.1 a y = A a y) := by
  have hF := Tf_F hv
  have hH := hv.1.2.1
  have hK := hv.1.1
  unfold DX9_reach
  refine wq_for (body := fun r z => fX9_reach_i2 fu (sI c) (bI tt) r z.1 z.2.1 z.2.2) (fun i (_ : Unit) => (sI i, A, L)) (fun i _ => ∀ j, j < i → onW p.1 p.2 c tt j = false) (p.1 0 2) ?_ ?_ (p.1 0 2) 0 () fu (by omega) (by omega) (fun j u => by omega)
  · intro i _ r hi hn ih
    show wq (fX9_reach_i2 fu (sI c) (bI tt) r (sI i) A L) _
    have hfi := h.2.2.2 i (by omega)
    have hvi := hv.2.2.2 i (by omega)
    have h6 := (hv.2.1 _ hvi.2.1 hvi.2.2.1).1
    unfold fX9_reach_i2 fX9_reach_b54
    simp only [mlet]
    rw [h.1.2.2.1, if_neg (by rw [sI_le (by omega) (by omega)]; omega), mck_s (by omega) (by omega), sI_nn (by omega), hfi.2.2.2, sI_1]
    have no : onW p.1 p.2 c tt i = false → wq (r (sI (i + 1), A, L)) _ := fun hno => ih () (fun j hj => by
      by_cases hq : j = i
      · rw [hq]; exact hno
      · exact hn j (by omega))
    by_cases a1 : p.2 1 i = true
    · rw [if_neg (by rw [a1]; decide)]
      exact no (by unfold onW; rw [a1]; rfl)
    · have a1' : p.2 1 i = false := by simpa using a1
      rw [if_pos (by rw [a1']; rfl), c_controllerOf h hv (by omega), mb3_s]
      by_cases a2 : p.1 1 (p.1 11 i) = c
      · rw [if_pos (show sI (p.1 1 (p.1 11 i)) = sI c by rw [a2]), c_isToTester h hv (by omega), mb3_s]
        by_cases a3 : toT p.1 p.2 i = tt
        · rw [if_pos (show bI (toT p.1 p.2 i) = bI tt by rw [a3]), mck_s (by omega) (by omega)]
          have hon : onW p.1 p.2 c tt i = true := by
            unfold onW
            rw [a1', a2, a3]
            simp
          rw [rch_some hi hon hn]
          have hg := V_gone (f := i) hv
          have hvr : TfV (rvQ i (p.1, mset p.2 1 i true)).1.1 (rvQ i (p.1, mset p.2 1 i true)).1.2 := V_rv (p := (p.1, mset p.2 1 i true)) hg (by dsimp only; omega) (fun k1 => ⟨by dsimp only; rw [mset_n (by omega)]; exact (hvi.2.2.2.2.2.2.2.2 k1).1 a1', mset_s⟩)
          have hC : TfC (mset A 273 i 1) p.1 (mset p.2 1 i true) o := by
            refine TfC_ch h hK (fun a y u => by simp (disch := omega) only [mset_n]) (fun _ _ _ _ => rfl) (fun j => mset_n (by omega)) ?_ (fun j u v => ?_) (fun _ z => z) (fun r u => ?_) (fun g u => ?_)
            · simp (disch := omega) only [mset_n]
              exact h.1.2.2.2.2.2
            · simp (disch := omega) only [mset_n]
              exact TfC_st2 h j u v
            · simp (disch := omega) only [mset_n]
              exact h.2.2.1 r u
            · by_cases hq : g = i
              · rw [hq, mset_s, mset_s]; rfl
              · rw [mset_j hq, mset_j hq]
                exact TfC_gn h g u
          refine wq_b3 (c_receive (p := (p.1, mset p.2 1 i true)) hg ?_ hC (by dsimp only; omega)) ?_
          · by_cases k1 : p.1 10 i = 1
            · left
              have := Tf_F hvr
              have e : (rvQ i (p.1, mset p.2 1 i true)).1.1 0 1 = p.1 0 1 + 1 := by
                unfold rvQ
                dsimp only
                rw [if_neg (by omega), if_neg (by omega), if_neg (by omega)]
                unfold fsP fsN
                dsimp only
                rw [mk_F]
                simp (disch := omega) only [mset_n]
              rw [e] at this
              dsimp only
              omega
            · exact Or.inr k1
          rintro r1 M1 L1 ⟨y0, y1, y2, y3⟩
          dsimp only at y0 y1 y2 y3
          refine wq_some ⟨y0, y1, y2, hvr, fun a y u => ?_⟩
          dsimp only
          rw [y3 a y u, mset_n (by omega)]
        · rw [if_neg (by rw [bI_eq]; exact a3)]
          refine no ?_
          unfold onW
          have : (toT p.1 p.2 i == tt) = false := by simpa using a3
          rw [this, Bool.and_false, Bool.and_false]
      · rw [if_neg (by rw [sI_eq (by omega) (by omega)]; exact a2)]
        refine no ?_
        unfold onW
        rw [decide_eq_false a2, Bool.false_and, Bool.and_false]
  · intro _ r hn
    show wq (fX9_reach_i2 fu (sI c) (bI tt) r (sI (p.1 0 2)) A L) _
    unfold fX9_reach_i2
    rw [h.1.2.2.1, if_pos (by rw [sI_le (by omega) (by omega)]; omega), rch_none hn]
    exact wq_some ⟨rfl, rfl, h, hv, fun _ _ _ => rfl⟩
/-! a message is made -/
def maN (c sz : Nat) (n : Nat → Nat → Nat) : Nat → Nat → Nat := mset (mset (mset (mset (mset n 1 (n 0 0 + 1) c) 2 (n 0 0 + 1) sz) 3 (n 0 0 + 1) 0) 4 (n 0 0 + 1) 0) 0 0 (n 0 0 + 1)
def maB (a : Bool) (n : Nat → Nat → Nat) (b : Nat → Nat → Bool) : Nat → Nat → Bool := mset (mset b 0 (n 0 0 + 1) a) 3 (n 0 0 + 1) false
def maO (v : Nat → Nat) (n o : Nat → Nat → Nat) : Nat → Nat → Nat := fun m i => if m = n 0 0 + 1 then v i else o m i
theorem ma_o {c sz i j : Nat} {n : Nat → Nat → Nat} (h : ¬ (1 ≤ i ∧ i ≤ 4 ∧ j = n 0 0 + 1)) (h2 : ¬ (i = 0 ∧ j = 0)) : maN c sz n i j = n i j := by
  unfold maN
  rw [mset_n (by omega), mset_n (by omega), mset_n (by omega), mset_n (by omega), mset_n (by omega)]
theorem ma_0 {c sz : Nat} {n : Nat → Nat → Nat} : maN c sz n 0 0 = n 0 0 + 1 := by
  unfold maN
  rw [mset_s]
theorem ma_1 {c sz : Nat} {n : Nat → Nat → Nat} : maN c sz n 1 (n 0 0 + 1) = c ∧ maN c sz n 2 (n 0 0 + 1) = sz ∧ maN c sz n 3 (n 0 0 + 1) = 0 ∧ maN c sz n 4 (n 0 0 + 1) = 0 := by
  unfold maN
  simp (disch := omega) only [mset_n, mset_s, and_self]
theorem maB_o {a : Bool} {i j : Nat} {n : Nat → Nat → Nat} {b : Nat → Nat → Bool} (h : ¬ (j = n 0 0 + 1 ∧ (i = 0 ∨ i = 3))) : maB a n b i j = b i j := by
  unfold maB
  rw [mset_n (by omega), mset_n (by omega)]
theorem maB_0 {a : Bool} {n : Nat → Nat → Nat} {b : Nat → Nat → Bool} : maB a n b 0 (n 0 0 + 1) = a ∧ maB a n b 3 (n 0 0 + 1) = false := by
  unfold maB
  rw [mset_n (by omega), mset_s, mset_s]
  exact ⟨rfl, rfl⟩
theorem su_eq {g h : Nat → Nat} (k : Nat) (hh : ∀ m, 1 ≤ m → m ≤ k → g m = h m) : suN g k = suN h k :=
  Nat.le_antisymm (su_le k (fun m u1 u2 => by rw [hh m u1 u2]; exact Nat.le_refl _)) (su_le k (fun m u1 u2 => by rw [hh m u1 u2]; exact Nat.le_refl _))
theorem V_ma {c sz : Nat} {a : Bool} {n : Nat → Nat → Nat} {b : Nat → Nat → Bool} (h : TfV n b) (hK : n 0 0 < 100) (hc : c < 6) (hs : 1 ≤ sz ∧ sz ≤ 100) : TfV (maN c sz n) (maB a n b) := by
  obtain ⟨⟨w1, w2, w3, w4, w5⟩, w6, w7, w8⟩ := h
  obtain ⟨m1, m2, m3, m4⟩ := @ma_1 c sz n
  refine ⟨⟨?_, ?_, ?_, ?_, ?_⟩, ?_, ?_, ?_⟩
  · rw [ma_0]; omega
  · rw [ma_o (by omega) (by omega), ma_o (by omega) (by omega)]; exact w2
  · rw [ma_o (by omega) (by omega)]; exact w3
  · rw [ma_0, ma_o (by omega) (by omega)]; omega
  · rw [ma_0, ma_o (by omega) (by omega)]
    show n 0 1 ≤ suN _ (n 0 0) + cbF _ _ (n 0 0 + 1)
    have := su_eq (g := cbF n b) (h := cbF (maN c sz n) (maB a n b)) (n 0 0) (fun m u1 u2 => by
      unfold cbF
      rw [ma_o (by omega) (by omega), ma_o (by omega) (by omega), maB_o (by omega)])
    omega
  · intro m u1 u2
    rw [ma_0] at u2
    by_cases hq : m = n 0 0 + 1
    · rw [hq, m1, m2, m3, m4, (@maB_0 a n b).2]
      refine ⟨hc, hs.1, hs.2, by omega, by omega, fun z => by omega, fun z => ?_, fun z => by cases z⟩
      rw [ma_o (by omega) (by omega)] at z
      omega
    · have := w6 m u1 (by omega)
      rw [ma_o (by omega) (by omega), ma_o (by omega) (by omega), ma_o (by omega) (by omega), ma_o (by omega) (by omega), ma_o (i := 0) (j := 3) (by omega) (by omega), ma_o (i := 0) (j := 4) (by omega) (by omega), maB_o (by omega)]
      exact this
  · intro r u
    have := w7 r u
    rw [ma_o (i := 5) (by omega) (by omega), ma_o (i := 6) (by omega) (by omega), ma_o (i := 7) (by omega) (by omega), ma_o (i := 8) (by omega) (by omega), ma_o (i := 9) (by omega) (by omega), ma_o (i := 0) (j := 3) (by omega) (by omega), ma_0]
    refine ⟨this.1, fun z => ?_⟩
    have h2 := this.2 z
    rw [ma_o (by omega) (by omega)]
    exact ⟨h2.1, by omega, h2.2.2⟩
  · intro f u
    rw [ma_o (by omega) (by omega)] at u
    have := w8 f u
    rw [ma_o (i := 10) (by omega) (by omega), ma_o (i := 11) (by omega) (by omega), ma_o (i := 12) (by omega) (by omega), ma_o (i := 0) (j := 1) (by omega) (by omega), ma_0, ma_o (i := 2) (by omega) (by omega), ma_o (i := 3) (by omega) (by omega), maB_o (by omega), maB_o (by omega)]
    refine ⟨this.1, this.2.1, by omega, this.2.2.2.1, this.2.2.2.2.1, this.2.2.2.2.2.1, this.2.2.2.2.2.2.1, this.2.2.2.2.2.2.2.1, fun hk => ⟨(this.2.2.2.2.2.2.2.2 hk).1, fun f' v1 v2 v3 => ?_⟩⟩
    rw [ma_o (by omega) (by omega)] at v2 v3
    exact (this.2.2.2.2.2.2.2.2 hk).2 f' v1 v2 v3
theorem c_make9 {fu c a3 n3 sz : Nat} {a : Bool} {A : mwM} {L : mwL} {n : Nat → Nat → Nat} {b : Nat → Nat → Bool} {o : Nat → Nat → Nat} {v : Nat → Nat} (hfu : 200 ≤ fu) (hv : TfV n b) (h : TfC A n b o) (hK : n 0 0 < 100) (hs : 1 ≤ sz ∧ sz ≤ 100) (hn3 : sz ≤ n3) (ha3 : a3 < 154 ∨ 269 ≤ a3) (hsrc : ∀ i, i < sz → A a3 i = sI (v i)) : wq (DX9_make fu (sI c) (bI a) a3 n3 (sI sz) A L) (fun z => z.2 = L ∧ TfC z.1 (maN c sz n) (maB a n b) (maO v n o) ∧ ∀ x y, ¬ (x = 154 ∨ (156 ≤ x ∧ x ≤ 159) ∨ x = 162 + n 0 0 + 1) → z.1 x y = A x y) := by
  obtain ⟨k1, k2, k3, k4⟩ := h
  obtain ⟨m1, m2, m3, m4⟩ := @ma_1 c sz n
  have loop : ∀ a0 : mwM, a0 154 5 = sI (n 0 0 + 1) → (∀ i, i < sz → a0 a3 i = sI (v i)) → (∀ Q : mwM × mwL → Prop, (∀ a1 : mwM, (∀ i, i < sz → a1 (162 + n 0 0 + 1) i = sI (v i)) → (∀ x y, x ≠ 162 + n 0 0 + 1 → a1 x y = a0 x y) → Q (a1, L)) → wq (fX9_make_h93 fu (sI c) (bI a) a3 n3 (sI sz) fu (0, a0, L)) Q) := by
    intro a0 e5 es Q hQ
    refine wq_for (body := fun r z => fX9_make_i93 fu (sI c) (bI a) a3 n3 (sI sz) r z.1 z.2.1 z.2.2) (fun i (w : mwM) => (sI i, w, L)) (fun i w => (∀ j, j < i → w (162 + n 0 0 + 1) j = sI (v j)) ∧ ∀ x y, x ≠ 162 + n 0 0 + 1 → w x y = a0 x y) sz ?_ ?_ sz 0 a0 fu (by omega) (by omega) ⟨fun j u => by omega, fun _ _ _ => rfl⟩
    · intro i w r hi ⟨q1, q2⟩ ih
      show wq (fX9_make_i93 fu (sI c) (bI a) a3 n3 (sI sz) r (sI i) w L) _
      unfold fX9_make_i93
      rw [if_neg (by rw [sI_le (by omega) (by omega)]; omega), q2 154 5 (by omega), e5, mck_s (by omega) (by omega), mck_s (by omega) (by omega), mck_s (by omega) (by omega), sI_nn (by omega), sI_nn (by omega), q2 a3 i (by omega), es i hi]
      simp only [mlet]
      rw [sI_1]
      refine ih _ ⟨fun j u => ?_, fun x y u => ?_⟩
      · by_cases hq : j = i
        · rw [hq]
          exact mset_s
        · rw [mset_j hq]; exact q1 j (by omega)
      · rw [mset_n (by omega)]; exact q2 x y u
    · intro w r ⟨q1, q2⟩
      show wq (fX9_make_i93 fu (sI c) (bI a) a3 n3 (sI sz) r (sI sz) w L) _
      unfold fX9_make_i93
      rw [if_pos (by rw [sI_le (by omega) (by omega)]; omega)]
      exact wq_some (hQ w q1 q2)
  have fin : ∀ (a0 : mwM) (s2 : Int32), s2 = bI a → a0 = mset (mset A 154 5 (sI (n 0 0 + 1))) 156 (n 0 0 + 1) (sI c) → wq (fX9_make_b64 fu (sI c) (bI a) a3 n3 (sI sz) (sI (n 0 0 + 1)) s2 a0 L) (fun z => z.2 = L ∧ TfC z.1 (maN c sz n) (maB a n b) (maO v n o) ∧ ∀ x y, ¬ (x = 154 ∨ (156 ≤ x ∧ x ≤ 159) ∨ x = 162 + n 0 0 + 1) → z.1 x y = A x y) := by
    intro a0 s2 hs2 ha0
    unfold fX9_make_b64
    subst ha0
    simp (disch := omega) only [mset_n, mset_s, mck_s, sI_nn, nn_s, sI_lt, sI_le, sI_eq, sI_ltl, sI_lel, sI_eql, sI_llt, sI_lle, sI_1, bI_0, bI_1, bI_n, mlet, mb3_s, mb2_s]
    refine loop _ (by simp (disch := omega) only [mset_n, mset_s]) (fun i u => by simp (disch := omega) only [mset_n, hsrc]) _ ?_
    intro a1 q1 q2
    refine ⟨rfl, ⟨?_, ?_, ?_, ?_⟩, fun x y u => ?_⟩
    all_goals (try dsimp only)
    · rw [q2 154 5 (by omega), q2 154 6 (by omega), q2 154 7 (by omega), q2 154 8 (by omega), q2 154 9 (by omega), q2 154 10 (by omega), ma_0, ma_o (by omega) (by omega), ma_o (by omega) (by omega), ma_o (by omega) (by omega), ma_o (by omega) (by omega), maB_o (by omega)]
      simp (disch := omega) only [mset_n, mset_s]
      exact ⟨trivial, k1.2⟩
    · intro m u1 u2
      rw [ma_0] at u2
      rw [q2 156 m (by omega), q2 157 m (by omega), q2 158 m (by omega), q2 159 m (by omega), q2 160 m (by omega)]
      by_cases hq : m = n 0 0 + 1
      · rw [hq, m1, m2, m3, (@maB_0 a n b).1]
        simp (disch := omega) only [mset_n, mset_s]
        refine ⟨trivial, hs2, trivial, rfl, fun z => absurd rfl z, fun i u => ?_⟩
        rw [show 162 + (n 0 0 + 1) = 162 + n 0 0 + 1 by omega, q1 i u]
        unfold maO
        rw [if_pos rfl]
      · have := k2 m u1 (by omega)
        rw [ma_o (by omega) (by omega), ma_o (by omega) (by omega), ma_o (by omega) (by omega), ma_o (by omega) (by omega), maB_o (by omega)]
        simp (disch := omega) only [mset_n]
        refine ⟨this.1, this.2.1, this.2.2.1, this.2.2.2.1, this.2.2.2.2.1, fun i u => ?_⟩
        unfold maO
        rw [if_neg hq, q2 _ _ (by omega)]
        simp (disch := omega) only [mset_n]
        exact this.2.2.2.2.2 i u
    · intro r u
      have := k3 r u
      rw [q2 264 r (by omega), q2 265 r (by omega), q2 266 r (by omega), q2 267 r (by omega), q2 268 r (by omega), ma_o (by omega) (by omega), ma_o (by omega) (by omega), ma_o (by omega) (by omega), ma_o (by omega) (by omega), ma_o (by omega) (by omega)]
      simp (disch := omega) only [mset_n]
      exact this
    · intro f u
      rw [ma_o (by omega) (by omega)] at u
      have := k4 f u
      rw [q2 270 f (by omega), q2 271 f (by omega), q2 272 f (by omega), q2 273 f (by omega), ma_o (by omega) (by omega), ma_o (by omega) (by omega), ma_o (by omega) (by omega), maB_o (by omega)]
      simp (disch := omega) only [mset_n]
      exact this
    · rw [q2 x y (by omega)]
      simp (disch := omega) only [mset_n]
  unfold DX9_make
  rw [k1.1, if_neg (by rw [sI_lle (by decide) (by omega)]; omega), if_neg (by rw [sI_ltl (by omega) (by decide)]; omega), if_pos (by rw [sI_lel (by omega) (by decide)]; omega)]
  simp (disch := omega) only [mset_n, mset_s, mck_s, sI_nn, nn_s, sI_lt, sI_le, sI_eq, sI_ltl, sI_lel, sI_eql, sI_llt, sI_lle, sI_1, bI_0, bI_1, bI_n, mlet, mb3_s, mb2_s]
  cases a
  · rw [if_pos rfl]
    exact fin _ 0 rfl rfl
  · rw [if_neg (by decide)]
    exact fin _ 1 rfl rfl
/-! the class: a frame's octets; it is lost; all begins anew -/
def frO (kd sq : Nat) : Nat := if kd = 2 then 6 + 7 * (sq - 1) else 0
def moO (kd : Nat) : Nat := if kd = 3 then 0 else if kd = 1 then 6 else 7
def wrO (n o : Nat → Nat → Nat) (f : Nat) : Nat → Nat
  | 0 => 16 * n 10 f + (if n 10 f = 1 then n 2 (n 11 f) else n 12 f) % 16
  | i + 1 => if i < moO (n 10 f) ∧ frO (n 10 f) (n 12 f) + i < n 2 (n 11 f) then o (n 11 f) (frO (n 10 f) (n 12 f) + i) else 0
theorem and15 : ∀ x, x < 128 → sI x &&& 15 = sI (x % 16) := by decide +kernel
theorem c_writeOctets {fu f : Nat} {A : mwM} {L : mwL} {n : Nat → Nat → Nat} {b : Nat → Nat → Bool} {o : Nat → Nat → Nat} (hfu : 10 ≤ fu) (hv : TfV n b) (h : TfC A n b o) (hf : f < n 0 1) : wq (DX9_writeOctets fu (sI f) A L) (fun z => z.2 = L ∧ (∀ i, i < 8 → z.1 274 i = sI (wrO n o f i)) ∧ ∀ x y, x ≠ 274 → z.1 x y = A x y) := by
  have hF := Tf_F hv
  have hg := hv.2.2.2 f hf
  have hK := hv.1.1
  obtain ⟨e0, e1, e2, _⟩ := h.2.2.2 f hf
  generalize hm : n 11 f = m at *
  have hM := hv.2.1 m hg.2.1 hg.2.2.1
  obtain ⟨_, _, e158, _, _, eo⟩ := h.2.1 m hg.2.1 hg.2.2.1
  generalize hk : n 10 f = kd at *
  generalize hs : n 12 f = sq at *
  have hsq : sq ≤ 14 := by
    by_cases k2 : kd = 2
    · have := hg.2.2.2.2.2.2.1 k2
      omega
    · have := hg.2.2.2.2.2.2.2.1 k2
      omega
  have w0 : wrO n o f 0 = 16 * kd + (if kd = 1 then n 2 m else sq) % 16 := by
    unfold wrO
    rw [hk, hm, hs]
  have wi : ∀ i, wrO n o f (i + 1) = if i < moO kd ∧ frO kd sq + i < n 2 m then o m (frO kd sq + i) else 0 := by
    intro i
    show (if i < moO (n 10 f) ∧ frO (n 10 f) (n 12 f) + i < n 2 (n 11 f) then o (n 11 f) (frO (n 10 f) (n 12 f) + i) else 0) = _
    rw [hk, hm, hs]
  have hmo : moO kd ≤ 7 := by
    unfold moO
    split
    · omega
    · split <;> omega
  have hfr : frO kd sq ≤ 100 := by
    unfold frO
    split <;> omega
  -- the octets behind the first
  have loop : ∀ low, low < 128 → low = (if kd = 1 then n 2 m else sq) → wq (fX9_writeOctets_b92 fu (sI f) (sI m) (sI kd) (sI low) (sI (frO kd sq)) (sI (moO kd)) A L) (fun z => z.2 = L ∧ (∀ i, i < 8 → z.1 274 i = sI (wrO n o f i)) ∧ ∀ x y, x ≠ 274 → z.1 x y = A x y) := by
    intro low hl el
    unfold fX9_writeOctets_b92
    rw [and15 low hl, show (16 : Int32) * sI kd = sI (16 * kd) from sI_lml, sI_add]
    simp only [mlet]
    refine wq_for (body := fun r z => fX9_writeOctets_i113 fu (sI f) r z.1 z.2.1 z.2.2.1 z.2.2.2.1 z.2.2.2.2.1 z.2.2.2.2.2) (fun i (w : mwM) => (sI m, sI (frO kd sq), sI (moO kd), sI i, w, L)) (fun i w => (∀ j, j < i + 1 → w 274 j = sI (wrO n o f j)) ∧ ∀ x y, x ≠ 274 → w x y = A x y) 7 ?_ ?_ 7 0 _ fu (by omega) (by omega) ⟨fun j u => ?_, fun x y u => mset_n (by omega)⟩
    · intro i w r hi ⟨q1, q2⟩ ih
      show wq (fX9_writeOctets_i113 fu (sI f) r (sI m) (sI (frO kd sq)) (sI (moO kd)) (sI i) w L) _
      have put : ∀ x : Nat, x = wrO n o f (i + 1) → wq (fX9_writeOctets_b184 fu (sI f) r (sI m) (sI (frO kd sq)) (sI (moO kd)) (sI i) (1 + sI i) (sI x) w L) (fun z => z.2 = L ∧ (∀ i, i < 8 → z.1 274 i = sI (wrO n o f i)) ∧ ∀ x y, x ≠ 274 → z.1 x y = A x y) := by
        intro x hx
        unfold fX9_writeOctets_b184
        rw [show (1 : Int32) + sI i = sI (1 + i) from sI_lad, mck_s (by omega) (by omega), sI_nn (by omega), sI_1]
        simp only [mlet]
        refine ih _ ⟨fun j u => ?_, fun x y u => by rw [mset_n (by omega)]; exact q2 x y u⟩
        by_cases hq : j = 1 + i
        · rw [hq, mset_s, hx, Nat.add_comm]
        · rw [mset_j hq]; exact q1 j (by omega)
      unfold fX9_writeOctets_i113 fX9_writeOctets_b152 fX9_writeOctets_b153
      rw [if_neg (by rw [sI_lle (by decide) (by omega)]; omega), if_pos (show (0 : Int32) = 0 from rfl), if_neg (show ¬ (1 : Int32) = 0 by decide), q2 158 _ (by omega), sI_add, mck_s (show m < 101 by omega) (by omega), mck_s (show m < 101 by omega) (by omega)]
      by_cases a1 : i < moO kd
      · rw [if_neg (by rw [sI_le (by omega) (by omega)]; omega), if_neg (by rw [sI_ltl (by omega) (by decide)]; omega), sI_nn (by omega), e158]
        by_cases a2 : frO kd sq + i < n 2 m
        · rw [if_neg (by rw [sI_le (by omega) (by omega)]; omega), mck_s (by have := hM.2.2.1; omega) (by omega), sI_nn (by omega), q2 _ _ (by omega), eo _ a2]
          exact put _ (by rw [wi, if_pos ⟨a1, a2⟩])
        · rw [if_pos (by rw [sI_le (by omega) (by omega)]; omega)]
          exact put 0 (by rw [wi, if_neg (fun z => a2 z.2)])
      · rw [if_pos (by rw [sI_le (by omega) (by omega)]; omega)]
        exact put 0 (by rw [wi, if_neg (fun z => a1 z.1)])
    · intro w r ⟨q1, q2⟩
      show wq (fX9_writeOctets_i113 fu (sI f) r (sI m) (sI (frO kd sq)) (sI (moO kd)) (sI 7) w L) _
      unfold fX9_writeOctets_i113
      rw [if_pos (by decide)]
      exact wq_some ⟨rfl, fun i u => q1 i (by omega), q2⟩
    · have : j = 0 := by omega
      subst this
      show mset A 274 0 _ 274 0 = _
      rw [mset_s, w0, el]
  -- how many, and from where
  have b69 : ∀ low, low < 128 → low = (if kd = 1 then n 2 m else sq) → wq (fX9_writeOctets_b69 fu (sI f) (sI m) (sI kd) (sI low) (sI (frO kd sq)) A L) (fun z => z.2 = L ∧ (∀ i, i < 8 → z.1 274 i = sI (wrO n o f i)) ∧ ∀ x y, x ≠ 274 → z.1 x y = A x y) := by
    intro low hl el
    have lp := loop low hl el
    unfold fX9_writeOctets_b69
    by_cases k3 : kd = 3
    · rw [if_pos (by rw [k3]; rfl)]
      have : moO kd = 0 := by unfold moO; rw [if_pos k3]
      rw [this] at lp
      exact lp
    · rw [if_neg (by rw [sI_eql (by omega) (by decide)]; exact k3)]
      by_cases k1 : kd = 1
      · rw [if_pos (by rw [k1]; rfl)]
        have : moO kd = 6 := by unfold moO; rw [if_neg k3, if_pos k1]
        rw [this] at lp
        exact lp
      · rw [if_neg (by rw [sI_eql (by omega) (by decide)]; exact k1)]
        have : moO kd = 7 := by unfold moO; rw [if_neg k3, if_neg k1]
        rw [this] at lp
        exact lp
  have b42 : ∀ low, low < 128 → low = (if kd = 1 then n 2 m else sq) → wq (fX9_writeOctets_b42 fu (sI f) (sI m) (sI kd) (sI low) A L) (fun z => z.2 = L ∧ (∀ i, i < 8 → z.1 274 i = sI (wrO n o f i)) ∧ ∀ x y, x ≠ 274 → z.1 x y = A x y) := by
    intro low hl el
    have lp := b69 low hl el
    unfold fX9_writeOctets_b42
    by_cases k2 : kd = 2
    · have h1 := hg.2.2.2.2.2.2.1 k2
      have e : frO kd sq = 6 + 7 * (sq - 1) := by unfold frO; rw [if_pos k2]
      rw [if_pos (by rw [k2]; rfl), mck_s (by omega) (by omega), sI_nn (by omega), e2, show sI sq - 1 = sI (sq - 1) from sI_sub (b := 1) (by omega), show (7 : Int32) * sI (sq - 1) = sI (7 * (sq - 1)) from sI_lml, show (6 : Int32) + sI (7 * (sq - 1)) = sI (6 + 7 * (sq - 1)) from sI_lad, ← e]
      exact lp
    · rw [if_neg (by rw [sI_eql (by omega) (by decide)]; exact k2)]
      have e : frO kd sq = 0 := by unfold frO; rw [if_neg k2]
      rw [e] at lp
      exact lp
  have h100 := hM.2.2.1
  unfold DX9_writeOctets
  simp only [mlet]
  rw [mck_s (by omega) (by omega), sI_nn (by omega), e1, mck_s (by omega) (by omega), e0]
  by_cases k1 : kd = 1
  · rw [if_pos (by rw [k1]; rfl), mck_s (by omega) (by omega), sI_nn (by omega), e158]
    exact b42 (n 2 m) (by omega) (by rw [if_pos k1])
  · rw [if_neg (by rw [sI_eql (by omega) (by decide)]; exact k1), mck_s (by omega) (by omega), e2]
    exact b42 sq (by omega) (by rw [if_neg k1])
theorem c_lose {fu f : Nat} {A : mwM} {L : mwL} {p : PB} {o : Nat → Nat → Nat} (hv : TfV p.1 p.2) (h : TfC A p.1 p.2 o) (hf : f < p.1 0 1) : wq (DX9_lose fu (sI f) A L) (fun z => z.2 = L ∧ TfC z.1 p.1 (mset p.2 1 f true) o ∧ ∀ x y, ¬ (x = 273 ∧ y = f) → z.1 x y = A x y) := by
  have hF := Tf_F hv
  unfold DX9_lose
  rw [mck_s (by omega) (by omega), sI_nn (by omega)]
  simp only [mlet]
  refine wq_some ⟨rfl, ?_, fun x y u => mset_n u⟩
  dsimp only
  refine TfC_ch h hv.1.1 (fun a y u => by simp (disch := omega) only [mset_n]) (fun _ _ _ _ => rfl) (fun j => mset_n (by omega)) ?_ (fun j u v => ?_) (fun _ z => z) (fun r u => ?_) (fun g u => ?_)
  · simp (disch := omega) only [mset_n]
    exact h.1.2.2.2.2.2
  · simp (disch := omega) only [mset_n]
    exact TfC_st2 h j u v
  · simp (disch := omega) only [mset_n]
    exact h.2.2.1 r u
  · by_cases hq : g = f
    · rw [hq, mset_s, mset_s]; rfl
    · rw [mset_j hq, mset_j hq]
      exact TfC_gn h g u
def tn0 : Nat → Nat → Nat := fun _ _ => 0
def tb0 : Nat → Nat → Bool := fun _ _ => false
theorem V_00 : TfV tn0 tb0 := by
  refine ⟨⟨by decide, by decide, by decide, by decide, by decide⟩, fun m u1 u2 => ?_, fun r _ => ⟨Nat.zero_le 3, fun z => ?_⟩, fun f u => ?_⟩
  · have : m ≤ 0 := u2
    omega
  · have : (0 : Nat) = 1 := z
    omega
  · have : f < 0 := u
    omega
theorem c_clear9 {fu : Nat} {A : mwM} {L : mwL} {o : Nat → Nat → Nat} (hfu : 10 ≤ fu) : wq (DX9_clear fu A L) (fun z => z.2 = L ∧ TfC z.1 tn0 tb0 o ∧ ∀ x y, ¬ (x = 154 ∨ x = 264) → z.1 x y = A x y) := by
  unfold DX9_clear
  simp only [mlet]
  refine wq_for (body := fun r z => fX9_clear_i32 fu r z.1 z.2.1 z.2.2) (fun i (w : mwM) => (sI i, w, L)) (fun i w => (∀ j, j < i → w 264 j = 0) ∧ (w 154 5 = 0 ∧ w 154 6 = 0 ∧ w 154 7 = 0 ∧ w 154 8 = 0 ∧ w 154 9 = 0 ∧ w 154 10 = 0) ∧ ∀ x y, ¬ (x = 154 ∨ x = 264) → w x y = A x y) 4 ?_ ?_ 4 0 _ fu (by omega) (by omega) ⟨fun j u => by omega, ?_, fun x y u => ?_⟩
  · intro i w r hi ⟨q1, q2, q3⟩ ih
    show wq (fX9_clear_i32 fu r (sI i) w L) _
    unfold fX9_clear_i32
    rw [if_neg (by rw [sI_lle (by decide) (by omega)]; omega), mck_s (by omega) (by omega), sI_nn (by omega)]
    simp only [mlet]
    rw [sI_1]
    refine ih _ ⟨fun j u => ?_, ?_, fun x y u => by rw [mset_n (by omega)]; exact q3 x y u⟩
    · by_cases hq : j = i
      · rw [hq, mset_s]
      · rw [mset_j hq]; exact q1 j (by omega)
    · simp (disch := omega) only [mset_n]
      exact q2
  · intro w r ⟨q1, q2, q3⟩
    show wq (fX9_clear_i32 fu r (sI 4) w L) _
    unfold fX9_clear_i32
    rw [if_pos (by decide)]
    refine wq_some ⟨rfl, ⟨q2, fun m u1 u2 => ?_, fun r u => ⟨q1 r u, fun z => ?_⟩, fun f u => ?_⟩, q3⟩
    · have : m ≤ 0 := u2
      omega
    · have : (0 : Nat) = 1 := z
      omega
    · have : f < 0 := u
      omega
  · simp (disch := omega) only [mset_n, mset_s, and_self]
  · simp (disch := omega) only [mset_n]
/-! TRANSFER: the reference -/
def sB (x : Nat) : Int32 := (sI x).toInt8.toInt32
theorem sB_n : ∀ x, x < 256 → vp_nar .byte (sB x) = sB x := by decide +kernel
theorem sB_b : ∀ x, x < 256 → (sB x).toInt8.toInt32 = sB x := by decide +kernel
theorem sB_a : ∀ x, x < 256 → sB x &&& 255 = sI x := by decide +kernel
def nuO (n : Nat → Nat → Nat) (f : Nat) : Nat := if n 10 f = 1 then n 2 (n 11 f) else n 12 f
def coO (n : Nat → Nat → Nat) (f : Nat) : Nat := if n 10 f = 0 then n 2 (n 11 f) else if n 10 f = 1 then 6 else if n 10 f = 3 then 0 else if n 2 (n 11 f) - frO 2 (n 12 f) ≤ 7 then n 2 (n 11 f) - frO 2 (n 12 f) else 7
abbrev TmG (M : mwM) (L : mwL) (τ : Nat) (n : Nat → Nat → Nat) : Prop := M 869 1 = sI 4095 ∧ L 869 2 = sL τ ∧ M 869 3 = sI (n 0 0) ∧ M 869 26 = sI (n 0 1) ∧ M 869 35 = sI 0 ∧ M 869 36 = sI 0 ∧ M 869 37 = sI 0 ∧ M 869 39 = 0
abbrev TmS (M : mwM) (L : mwL) (τ : Nat) (n : Nat → Nat → Nat) (m : Nat) : Prop := M 872 m = bI (decide (n 3 m ≠ 0)) ∧ M 873 m = sI (n 3 m) ∧ (n 3 m = 1 ∨ n 3 m = 2 → M 874 m = sI 6) ∧ (n 3 m ≤ 2 → M 875 m = sI 0) ∧ (n 3 m = 1 → L 880 m = sL (n 4 m)) ∧ (n 3 m = 2 → M 876 m = 0 ∧ M 878 m = 0 ∧ L 881 m = sL τ)
abbrev TmM (M : mwM) (L : mwL) (τ : Nat) (n o : Nat → Nat → Nat) (m : Nat) : Prop := (∀ i, i < n 2 m → M 871 (suN (n 2) (m - 1) + i) = sB (o m i) ∧ o m i < 256) ∧ TmS M L τ n m
abbrev TmR (M : mwM) (L : mwL) (n o : Nat → Nat → Nat) (r : Nat) : Prop := M 882 r = sI (n 5 r) ∧ (n 5 r = 1 → M 883 r = sI (n 6 r) ∧ M 884 r = sI (n 2 (n 6 r)) ∧ M 885 r = sI (n 7 r) ∧ M 886 r = sI (n 8 r) ∧ M 887 r = 0 ∧ L 889 r = sL (n 9 r) ∧ M 890 r = 0 ∧ ∀ i, i < n 7 r → M 891 (10000 * r + i) = sB (o (n 6 r) i))
abbrev TmF (M : mwM) (n : Nat → Nat → Nat) (b : Nat → Nat → Bool) (o : Nat → Nat → Nat) (f : Nat) : Prop := M 892 (f + 1) = sI (n 10 f) ∧ M 893 (f + 1) = sI (n 11 f) ∧ M 894 (f + 1) = sI (nuO n f) ∧ M 895 (f + 1) = sI (coO n f) ∧ M 896 (f + 1) = sI 0 ∧ M 898 (f + 1) = bI (b 1 f) ∧ ∀ k, k < coO n f → M 899 (7 * (f + 1) + k) = sB (o (n 11 f) (frO (n 10 f) (n 12 f) + k))
def TfM (M : mwM) (L : mwL) (τ : Nat) (n : Nat → Nat → Nat) (b : Nat → Nat → Bool) (o : Nat → Nat → Nat) (e : Nat → Nat) : Prop :=
  TmG M L τ n ∧ (∀ m, m ≤ n 0 0 → M 870 (m + 1) = sI (suN (n 2) m)) ∧ (∀ m, 1 ≤ m → m ≤ n 0 0 → TmM M L τ n o m) ∧ (∀ m, n 0 0 < m → m ≤ 100 → M 872 m = 0 ∧ M 873 m = 0 ∧ M 875 m = sI 0) ∧ (∀ r, r < 4 → TmR M L n o r) ∧ (∀ f, f < n 0 1 → TmF M n b o f) ∧ ∀ k, k < 8 → M 901 k = sI (e k)
theorem su_k {n : Nat → Nat → Nat} {b : Nat → Nat → Bool} (hv : TfW n b) : ∀ k, k ≤ n 0 0 → suN (n 2) k ≤ 100 * k := by
  intro k hk
  have := su_le (g := n 2) (h := fun _ => 100) k (fun m u1 u2 => (hv.2.1 m u1 (by omega)).2.2.1)
  rw [su_c] at this
  exact this
theorem su_S {g : Nat → Nat} {m : Nat} (h : 1 ≤ m) : suN g m = suN g (m - 1) + g m := by
  obtain ⟨k, rfl⟩ : ∃ k, m = k + 1 := ⟨m - 1, by omega⟩
  rfl
theorem m_size17 {fu m τ : Nat} {M : mwM} {L : mwL} {n : Nat → Nat → Nat} {b : Nat → Nat → Bool} {o : Nat → Nat → Nat} {e : Nat → Nat} (hv : TfW n b) (h : TfM M L τ n b o e) (h1 : 1 ≤ m) (h2 : m ≤ n 0 0) : DX17_size fu (sI m) M L = some (sI (n 2 m), M, L) := by
  have hK := hv.1.1
  have e1 := h.2.1 m h2
  have e0 := h.2.1 (m - 1) (by omega)
  rw [show m - 1 + 1 = m by omega] at e0
  have hs := su_S (g := n 2) h1
  have := su_k hv m h2
  unfold DX17_size
  rw [sI_1, mck_s (by omega) (by omega), mck_s (by omega) (by omega), sI_nn (by omega), sI_nn (by omega), e1, e0, sI_sub (by omega), hs]
  rw [show suN (n 2) (m - 1) + n 2 m - suN (n 2) (m - 1) = n 2 m by omega]
theorem co_le {n : Nat → Nat → Nat} {b : Nat → Nat → Bool} {f : Nat} (hv : TfW n b) (hf : f < n 0 1) : coO n f ≤ 7 := by
  have hg := hv.2.2.2 f hf
  unfold coO
  split
  · exact hg.2.2.2.2.1 (by assumption)
  · split
    · omega
    · split
      · omega
      · split <;> omega
/-- a frame more -/
theorem TfM_mk {M M' : mwM} {L L' : mwL} {τ kd m sq co : Nat} {n : Nat → Nat → Nat} {b : Nat → Nat → Bool} {o : Nat → Nat → Nat} {e : Nat → Nat} (hv : ∀ f, f < n 0 1 → coO n f ≤ 7) (h : TfM M L τ n b o e) (hA : ∀ a y, ¬ (892 ≤ a ∧ a ≤ 898 ∧ y = n 0 1 + 1) → ¬ (a = 869 ∧ y = 26) → ¬ (a = 899 ∧ 7 * (n 0 1 + 1) ≤ y) → M' a y = M a y) (hL : ∀ a y, a ≠ 897 → L' a y = L a y) (h26 : M' 869 26 = sI (n 0 1 + 1)) (h892 : M' 892 (n 0 1 + 1) = sI kd) (h893 : M' 893 (n 0 1 + 1) = sI m) (h894 : M' 894 (n 0 1 + 1) = sI (if kd = 1 then n 2 m else sq)) (h895 : M' 895 (n 0 1 + 1) = sI co) (hco : co = if kd = 0 then n 2 m else if kd = 1 then 6 else if kd = 3 then 0 else if n 2 m - frO 2 sq ≤ 7 then n 2 m - frO 2 sq else 7) (h896 : M' 896 (n 0 1 + 1) = sI 0) (h898 : M' 898 (n 0 1 + 1) = 0) (h899 : ∀ k, k < co → M' 899 (7 * (n 0 1 + 1) + k) = sB (o m (frO kd sq + k))) : TfM M' L' τ (mkN n kd m sq) (mkB n b) o e := by
  obtain ⟨k1, k2, k3, k4, k5, k6, k7⟩ := h
  have fo : ∀ i j, i ≠ 0 ∨ j ≠ 1 → ¬ (10 ≤ i ∧ i ≤ 12) → mkN n kd m sq i j = n i j := fun i j u v => mk_r u v
  have f2 : mkN n kd m sq 2 = n 2 := funext (fun j => fo 2 j (by omega) (by omega))
  refine ⟨?_, ?_, ?_, ?_, ?_, ?_, ?_⟩
  · unfold TmG
    rw [fo 0 0 (by omega) (by omega), mk_F, hA 869 1 (by omega) (by omega) (by omega), hA 869 3 (by omega) (by omega) (by omega), hA 869 35 (by omega) (by omega) (by omega), hA 869 36 (by omega) (by omega) (by omega), hA 869 37 (by omega) (by omega) (by omega), hA 869 39 (by omega) (by omega) (by omega), hL 869 2 (by omega)]
    exact ⟨k1.1, k1.2.1, k1.2.2.1, h26, k1.2.2.2.2⟩
  · intro j u
    rw [fo 0 0 (by omega) (by omega)] at u
    rw [f2, hA 870 _ (by omega) (by omega) (by omega)]
    exact k2 j u
  · intro j u1 u2
    rw [fo 0 0 (by omega) (by omega)] at u2
    have := k3 j u1 u2
    unfold TmM TmS
    rw [f2, fo 3 j (by omega) (by omega), fo 4 j (by omega) (by omega), hA 872 j (by omega) (by omega) (by omega), hA 873 j (by omega) (by omega) (by omega), hA 874 j (by omega) (by omega) (by omega), hA 875 j (by omega) (by omega) (by omega), hA 876 j (by omega) (by omega) (by omega), hA 878 j (by omega) (by omega) (by omega), hL 880 j (by omega), hL 881 j (by omega)]
    refine ⟨fun i u => ?_, this.2⟩
    rw [hA 871 _ (by omega) (by omega) (by omega)]
    exact this.1 i u
  · intro j u1 u2
    rw [fo 0 0 (by omega) (by omega)] at u1
    rw [hA 872 j (by omega) (by omega) (by omega), hA 873 j (by omega) (by omega) (by omega), hA 875 j (by omega) (by omega) (by omega)]
    exact k4 j u1 u2
  · intro r u
    have := k5 r u
    unfold TmR
    rw [f2, fo 5 r (by omega) (by omega), fo 6 r (by omega) (by omega), fo 7 r (by omega) (by omega), fo 8 r (by omega) (by omega), fo 9 r (by omega) (by omega), hA 882 r (by omega) (by omega) (by omega), hA 883 r (by omega) (by omega) (by omega), hA 884 r (by omega) (by omega) (by omega), hA 885 r (by omega) (by omega) (by omega), hA 886 r (by omega) (by omega) (by omega), hA 887 r (by omega) (by omega) (by omega), hA 890 r (by omega) (by omega) (by omega), hL 889 r (by omega)]
    refine ⟨this.1, fun z => ?_⟩
    have t := this.2 z
    refine ⟨t.1, t.2.1, t.2.2.1, t.2.2.2.1, t.2.2.2.2.1, t.2.2.2.2.2.1, t.2.2.2.2.2.2.1, fun i u => ?_⟩
    rw [hA 891 _ (by omega) (by omega) (by omega)]
    exact t.2.2.2.2.2.2.2 i u
  · intro f u
    rw [mk_F] at u
    by_cases hq : f = n 0 1
    · subst hq
      have en : nuO (mkN n kd m sq) (n 0 1) = if kd = 1 then n 2 m else sq := by
        unfold nuO
        rw [mk_10, mk_11, mk_12, fo 2 m (by omega) (by omega)]
      have ec : coO (mkN n kd m sq) (n 0 1) = co := by
        unfold coO
        rw [mk_10, mk_11, mk_12, fo 2 m (by omega) (by omega), ← hco]
      unfold TmF
      rw [en, ec, mk_10, mk_11, mk_12, mkB_F]
      exact ⟨h892, h893, h894, h895, h896, h898, h899⟩
    · have := k6 f (by omega)
      have cl := hv f (show f < n 0 1 by omega)
      have en : nuO (mkN n kd m sq) f = nuO n f := by
        unfold nuO
        rw [mk_o (by omega) hq, mk_o (by omega) hq, mk_o (by omega) hq, fo 2 _ (by omega) (by omega)]
      have ec : coO (mkN n kd m sq) f = coO n f := by
        unfold coO
        rw [mk_o (by omega) hq, mk_o (by omega) hq, mk_o (by omega) hq, fo 2 _ (by omega) (by omega)]
      unfold TmF
      rw [en, ec, mk_o (by omega) hq, mk_o (by omega) hq, mk_o (by omega) hq, mkB_o hq]
      rw [hA 892 _ (by omega) (by omega) (by omega), hA 893 _ (by omega) (by omega) (by omega), hA 894 _ (by omega) (by omega) (by omega), hA 895 _ (by omega) (by omega) (by omega), hA 896 _ (by omega) (by omega) (by omega), hA 898 _ (by omega) (by omega) (by omega)]
      refine ⟨this.1, this.2.1, this.2.2.1, this.2.2.2.1, this.2.2.2.2.1, this.2.2.2.2.2.1, fun k u => ?_⟩
      rw [hA 899 _ (by omega) (by omega) (by omega)]
      exact this.2.2.2.2.2.2 k u
  · intro k u
    rw [hA 901 k (by omega) (by omega) (by omega)]
    exact k7 k u
theorem m_make17 {fu F τ : Nat} {a1 a2 a3 a4 a5 : Int32} {M : mwM} {L : mwL} (hF : F < 1600) (h26 : M 869 26 = sI F) (h2 : L 869 2 = sL τ) : wq (DX17_make fu a1 a2 a3 a4 a5 M L) (fun z => z.1 = sI (F + 1) ∧ (∀ a y, ¬ (892 ≤ a ∧ a ≤ 898 ∧ y = F + 1) → ¬ (a = 869 ∧ y = 26) → z.2.1 a y = M a y) ∧ (∀ a y, a ≠ 897 → z.2.2 a y = L a y) ∧ z.2.1 869 26 = sI (F + 1) ∧ z.2.1 892 (F + 1) = a1 ∧ z.2.1 893 (F + 1) = a2 ∧ z.2.1 894 (F + 1) = a3 ∧ z.2.1 895 (F + 1) = a4 ∧ z.2.1 896 (F + 1) = a5 ∧ z.2.1 898 (F + 1) = 0) := by
  unfold DX17_make
  rw [h26, if_neg (by rw [sI_eql (by omega) (by decide)]; omega)]
  simp (disch := omega) only [mset_n, mset_s, mck_s, sI_nn, nn_s, sI_lt, sI_le, sI_eq, sI_ltl, sI_lel, sI_eql, sI_llt, sI_lle, sI_1, bI_0, bI_1, bI_n, mlet, mb3_s, mb2_s]
  refine wq_some ⟨rfl, fun a y u v => ?_, fun a y u => ?_, ?_⟩
  all_goals (try dsimp only)
  · simp (disch := omega) only [mset_n]
  · simp (disch := omega) only [mset_n]
  · simp (disch := omega) only [mset_n, mset_s, true_and]
    rfl
theorem m_fill17 {fu F m fr c τ : Nat} {M : mwM} {L : mwL} {v : Nat → Nat} {B : Nat} (hfu : 10 ≤ fu) (hF : F < 1601) (hm : m < 102) (hc : c ≤ 7) (h870 : M 870 m = sI B) (hB : B + fr + 7 ≤ 20000) (hd : ∀ k, k < c → M 871 (B + fr + k) = sB (v k) ∧ v k < 256) : wq (DX17_fill fu (sI (F + 1)) (sI m) (sI fr) (sI c) M L) (fun z => z.2 = L ∧ (∀ k, k < c → z.1 899 (7 * (F + 1) + k) = sB (v k)) ∧ ∀ a y, ¬ (a = 899 ∧ 7 * (F + 1) ≤ y ∧ y < 7 * (F + 1) + 7) → z.1 a y = M a y) := by
  unfold DX17_fill
  refine wq_for (body := fun r z => fX17_fill_i3 fu (sI (F + 1)) (sI m) (sI fr) (sI c) r z.1 z.2.1 z.2.2) (fun i (w : mwM) => (sI i, w, L)) (fun i w => (∀ k, k < i → w 899 (7 * (F + 1) + k) = sB (v k)) ∧ ∀ a y, ¬ (a = 899 ∧ 7 * (F + 1) ≤ y ∧ y < 7 * (F + 1) + 7) → w a y = M a y) c ?_ ?_ c 0 M fu (by omega) (by omega) ⟨fun k u => by omega, fun _ _ _ => rfl⟩
  · intro i w r hi ⟨q1, q2⟩ ih
    show wq (fX17_fill_i3 fu (sI (F + 1)) (sI m) (sI fr) (sI c) r (sI i) w L) _
    have hdi := hd i hi
    unfold fX17_fill_i3
    rw [if_neg (by rw [sI_le (by omega) (by omega)]; omega), if_neg (by rw [sI_lel (by omega) (by decide)]; omega), mck_s (by omega) (by omega), sI_nn (by omega), q2 870 m (by omega), h870, sI_add, sI_add, show (7 : Int32) * sI (F + 1) = sI (7 * (F + 1)) from sI_lml, sI_add, mck_s (by omega) (by omega), mck_s (by omega) (by omega), sI_nn (by omega), sI_nn (by omega), q2 871 _ (by omega), hdi.1, sB_n _ hdi.2]
    simp only [mlet]
    rw [sI_1]
    refine ih _ ⟨fun k u => ?_, fun a y u => by rw [mset_n (by omega)]; exact q2 a y u⟩
    by_cases hq : k = i
    · rw [hq, mset_s]
    · rw [mset_n (by omega)]; exact q1 k (by omega)
  · intro w r ⟨q1, q2⟩
    show wq (fX17_fill_i3 fu (sI (F + 1)) (sI m) (sI fr) (sI c) r (sI c) w L) _
    unfold fX17_fill_i3 fX17_fill_b48
    rw [if_pos (by rw [sI_le (by omega) (by omega)]; omega)]
    exact wq_some ⟨rfl, q1, q2⟩
/-! the reference: states, receivers, flags change; a message begins -/
theorem TfM_ch {M M' : mwM} {L L' : mwL} {τ τ' : Nat} {n n' : Nat → Nat → Nat} {b b' : Nat → Nat → Bool} {o : Nat → Nat → Nat} {e e' : Nat → Nat} (h : TfM M L τ n b o e) (hA : ∀ a y, ¬ ((872 ≤ a ∧ a ≤ 879) ∨ (882 ≤ a ∧ a ≤ 891) ∨ a = 898 ∨ a = 900 ∨ a = 901 ∨ (a = 869 ∧ (y = 0 ∨ y = 40))) → M' a y = M a y) (hτ : L' 869 2 = sL τ') (h0 : ∀ i j, ¬ (3 ≤ i ∧ i ≤ 9) → ¬ (i = 0 ∧ (j = 3 ∨ j = 4)) → n' i j = n i j) (hm : ∀ m, 1 ≤ m → m ≤ n 0 0 → TmS M' L' τ' n' m) (hu : ∀ m, n 0 0 < m → m ≤ 100 → M' 872 m = 0 ∧ M' 873 m = 0 ∧ M' 875 m = sI 0) (hr : ∀ r, r < 4 → TmR M' L' n' o r) (hf : ∀ f, f < n 0 1 → M' 898 (f + 1) = bI (b' 1 f)) (he : ∀ k, k < 8 → M' 901 k = sI (e' k)) : TfM M' L' τ' n' b' o e' := by
  obtain ⟨k1, k2, k3, k4, k5, k6, k7⟩ := h
  have f2 : n' 2 = n 2 := funext (fun j => h0 2 j (by omega) (by omega))
  refine ⟨?_, ?_, ?_, ?_, hr, ?_, he⟩
  · unfold TmG
    rw [h0 0 0 (by omega) (by omega), h0 0 1 (by omega) (by omega), hA 869 1 (by omega), hA 869 3 (by omega), hA 869 26 (by omega), hA 869 35 (by omega), hA 869 36 (by omega), hA 869 37 (by omega), hA 869 39 (by omega)]
    exact ⟨k1.1, hτ, k1.2.2⟩
  · intro j u
    rw [h0 0 0 (by omega) (by omega)] at u
    rw [f2, hA 870 _ (by omega)]
    exact k2 j u
  · intro j u1 u2
    rw [h0 0 0 (by omega) (by omega)] at u2
    refine ⟨fun i u => ?_, hm j u1 u2⟩
    rw [f2] at u
    rw [f2, hA 871 _ (by omega)]
    exact (k3 j u1 u2).1 i u
  · intro j u1 u2
    rw [h0 0 0 (by omega) (by omega)] at u1
    exact hu j u1 u2
  · intro f u
    rw [h0 0 1 (by omega) (by omega)] at u
    have := k6 f u
    have en : nuO n' f = nuO n f := by
      unfold nuO
      rw [h0 10 f (by omega) (by omega), h0 11 f (by omega) (by omega), h0 12 f (by omega) (by omega), f2]
    have ec : coO n' f = coO n f := by
      unfold coO
      rw [h0 10 f (by omega) (by omega), h0 11 f (by omega) (by omega), h0 12 f (by omega) (by omega), f2]
    unfold TmF
    rw [en, ec, h0 10 f (by omega) (by omega), h0 11 f (by omega) (by omega), h0 12 f (by omega) (by omega), hA 892 _ (by omega), hA 893 _ (by omega), hA 894 _ (by omega), hA 895 _ (by omega), hA 896 _ (by omega)]
    refine ⟨this.1, this.2.1, this.2.2.1, this.2.2.2.1, this.2.2.2.2.1, hf f u, fun k u => ?_⟩
    rw [hA 899 _ (by omega)]
    exact this.2.2.2.2.2.2 k u
theorem m_start17 {fu m : Nat} {M : mwM} {L : mwL} {n : Nat → Nat → Nat} {b : Nat → Nat → Bool} {o : Nat → Nat → Nat} {e : Nat → Nat} (hfu : 10 ≤ fu) (hv : TfV n b) (h : TfM M L (n 0 3) n b o e) (h1 : 1 ≤ m) (h2 : m ≤ n 0 0) (h3 : n 3 m = 0) : wq (DX17_start fu (sI m) M L) (fun z => TfM z.1 z.2 (n 0 3) (bgN n m) (mkB n b) o e ∧ (∀ a y, ¬ (a = 869 ∨ (872 ≤ a ∧ a ≤ 874) ∨ (892 ≤ a ∧ a ≤ 899)) → z.1 a y = M a y) ∧ ∀ a y, ¬ (a = 880 ∨ a = 897) → z.2 a y = L a y) := by
  have hK := hv.1.1
  have hM := hv.2.1 m h1 h2
  have hvb := V_bg hv h1 h2 h3
  have hF : n 0 1 < 1600 := by
    have := Tf_F hvb
    have e1 : bgN n m 0 1 = n 0 1 + 1 := by
      unfold bgN
      rw [mset_n (by omega), mset_n (by omega), mk_F]
    omega
  have sz : ∀ {M' : mwM} {L' : mwL}, M' = M → L' = L → DX17_size fu (sI m) M' L' = some (sI (n 2 m), M', L') := by
    intro M' L' e1 e2
    rw [e1, e2]
    exact m_size17 (TfV_W.mp hv).1 h h1 h2
  have tm := h.2.2.1 m h1 h2
  have e0 := h.2.1 (m - 1) (by omega)
  rw [show m - 1 + 1 = m by omega] at e0
  have hs := su_S (g := n 2) h1
  have hsk := su_k (TfV_W.mp hv).1 m h2
  have fin : ∀ kd co st : Nat, kd = (if n 2 m ≤ 7 then 0 else 1) → co = (if n 2 m ≤ 7 then n 2 m else 6) → st = (if n 2 m ≤ 7 then 3 else 1) → ∀ v3 : Int32, v3 = bI (decide (n 2 m ≤ 7)) → wq (fX17_start_b76 fu (sI m) (sI co) v3 (sI kd) (sI (if kd = 1 then n 2 m else 0)) M L) (fun z => TfM z.1 z.2 (n 0 3) (bgN n m) (mkB n b) o e ∧ (∀ a y, ¬ (a = 869 ∨ (872 ≤ a ∧ a ≤ 874) ∨ (892 ≤ a ∧ a ≤ 899)) → z.1 a y = M a y) ∧ ∀ a y, ¬ (a = 880 ∨ a = 897) → z.2 a y = L a y) := by
    intro kd co st hkd hco hst v3 hv3
    have hc7 : co ≤ 7 ∧ co ≤ n 2 m := by
      rw [hco]
      split <;> omega
    have hk01 : kd = 0 ∨ kd = 1 := by
      rw [hkd]
      split <;> omega
    have hfr : frO kd 0 = 0 := by
      unfold frO
      rw [if_neg (by omega)]
    unfold fX17_start_b76
    refine wq_b3 (m_make17 (τ := n 0 3) hF h.1.2.2.2.1 h.1.2.1) ?_
    rintro r1 M1 L1 ⟨y0, y1, y2, y3, y4, y5, y6, y7, y8, y9⟩
    dsimp only at y0 y1 y2 y3 y4 y5 y6 y7 y8 y9
    rw [y0]
    refine wq_b2 (show wq (DX17_fill fu (sI (n 0 1 + 1)) (sI m) 0 (sI co) M1 L1) _ from m_fill17 (τ := 0) (fr := 0) (B := suN (n 2) (m - 1)) (v := fun k => o m k) hfu (by omega) (by omega) hc7.1 ?_ (by omega) (fun k u => ?_)) ?_
    · rw [y1 870 m (by omega) (by omega)]; exact e0
    · rw [y1 871 _ (by omega) (by omega)]
      exact tm.1 k (by omega)
    rintro M2 L2 ⟨w1, w2, w3⟩
    dsimp only at w1 w2 w3
    subst w1
    have T1 : TfM M2 L2 (n 0 3) (mkN n kd m 0) (mkB n b) o e := by
      refine TfM_mk (co := co) (fun f u => co_le (TfV_W.mp hv).1 u) h (fun a y u1 u2 u3 => ?_) y2 ?_ ?_ ?_ ?_ ?_ ?_ ?_ ?_ (fun k u => ?_)
      · rw [w3 a y (by omega), y1 a y u1 u2]
      · rw [w3 869 26 (by omega)]; exact y3
      · rw [w3 892 _ (by omega)]; exact y4
      · rw [w3 893 _ (by omega)]; exact y5
      · rw [w3 894 _ (by omega)]; exact y6
      · rw [w3 895 _ (by omega)]; exact y7
      · rw [hco]
        by_cases h7 : n 2 m ≤ 7
        · rw [if_pos h7, if_pos (by rw [hkd, if_pos h7])]
        · rw [if_neg h7, if_neg (by rw [hkd, if_neg h7]; omega), if_pos (by rw [hkd, if_neg h7])]
      · rw [w3 896 _ (by omega)]; exact y8
      · rw [w3 898 _ (by omega)]; exact y9
      · rw [w2 k u, hfr, Nat.zero_add]
    have fK : mkN n kd m 0 0 0 = n 0 0 := mk_r (by omega) (by omega)
    have t2 : L2 869 2 = sL (n 0 3) := T1.1.2.1
    have done : ∀ M3 L3, M3 = mset (mset (mset M2 872 m 1) 874 m (sI co)) 873 m (sI st) → L3 = mset L2 880 m (sL (n 0 3)) → TfM M3 L3 (n 0 3) (bgN n m) (mkB n b) o e ∧ (∀ a y, ¬ (a = 869 ∨ (872 ≤ a ∧ a ≤ 874) ∨ (892 ≤ a ∧ a ≤ 899)) → M3 a y = M a y) ∧ ∀ a y, ¬ (a = 880 ∨ a = 897) → L3 a y = L a y := by
      intro M3 L3 q1 q2
      subst q1
      subst q2
      have b3 : ∀ j, bgN n m 3 j = if j = m then st else n 3 j := by
        intro j
        unfold bgN
        rw [mset_n (by omega)]
        by_cases hq : j = m
        · rw [hq, mset_s, if_pos rfl, hst]
        · rw [mset_j hq, if_neg hq, mk_r (by omega) (by omega)]
      have b4 : ∀ j, bgN n m 4 j = if j = m then n 0 3 else n 4 j := by
        intro j
        unfold bgN
        by_cases hq : j = m
        · rw [hq, mset_s, if_pos rfl]
        · rw [mset_j hq, if_neg hq, mset_n (by omega), mk_r (by omega) (by omega)]
      refine ⟨TfM_ch T1 (fun a y u => by simp (disch := omega) only [mset_n]) (by simp (disch := omega) only [mset_n]; exact t2) (fun i j u v => ?_) (fun j u v => ?_) (fun j u v => ?_) (fun r u => ?_) (fun f u => ?_) (fun k u => ?_), fun a y u => ?_, fun a y u => ?_⟩
      · unfold bgN
        rw [mset_n (by omega), mset_n (by omega), ← hkd]
      · rw [fK] at v
        unfold TmS
        rw [b3, b4]
        by_cases hq : j = m
        · subst hq
          rw [show (if j = j then st else n 3 j) = st from if_pos rfl, show (if j = j then n 0 3 else n 4 j) = n 0 3 from if_pos rfl]
          simp (disch := omega) only [mset_n, mset_s]
          have : st = 3 ∨ st = 1 := by
            rw [hst]; split <;> omega
          refine ⟨?_, trivial, fun z => ?_, fun z => ?_, fun _ => trivial, fun z => by omega⟩
          · rw [decide_eq_true (by omega)]; rfl
          · have : ¬ n 2 j ≤ 7 := by
              intro h7
              rw [if_pos h7] at hst
              omega
            rw [hco, if_neg this]
          · have := (T1.2.2.1 j u (by rw [fK]; exact v)).2.2.2.2.1
            rw [mk_r (by omega) (by omega)] at this
            exact this (by omega)
        · have := (T1.2.2.1 j u (by rw [fK]; exact v)).2
          unfold TmS at this
          rw [mk_r (by omega) (by omega), mk_r (by omega) (by omega)] at this
          rw [if_neg hq, if_neg hq]
          simp (disch := omega) only [mset_n]
          exact this
      · rw [fK] at u
        have := T1.2.2.2.1 j (by rw [fK]; exact u) v
        simp (disch := omega) only [mset_n]
        exact this
      · have := T1.2.2.2.2.1 r u
        have fr : ∀ i j, 5 ≤ i → i ≤ 9 → bgN n m i j = mkN n kd m 0 i j := by
          intro i j u v
          unfold bgN
          rw [mset_n (by omega), mset_n (by omega), ← hkd]
        have f2 : ∀ j, bgN n m 2 j = mkN n kd m 0 2 j := by
          intro j
          unfold bgN
          rw [mset_n (by omega), mset_n (by omega), ← hkd]
        unfold TmR
        rw [fr 5 r (by omega) (by omega), fr 6 r (by omega) (by omega), fr 7 r (by omega) (by omega), fr 8 r (by omega) (by omega), fr 9 r (by omega) (by omega), f2]
        simp (disch := omega) only [mset_n]
        exact this
      · have := (T1.2.2.2.2.2.1 f u).2.2.2.2.2.1
        simp (disch := omega) only [mset_n]
        exact this
      · simp (disch := omega) only [mset_n]
        exact T1.2.2.2.2.2.2 k u
      · simp (disch := omega) only [mset_n]
        rw [w3 a y (by omega)]
        exact y1 a y (by omega) (by omega)
      · rw [mset_n (by omega)]
        exact y2 a y (by omega)
    simp (disch := omega) only [mck_s, sI_nn, nn_s, sI_lt, sI_le, sI_eq, sI_ltl, sI_lel, sI_eql, sI_llt, sI_lle, sI_1, bI_0, bI_1, bI_n, mlet, mb3_s, mb2_s]
    rw [t2]
    by_cases h7 : n 2 m ≤ 7
    · rw [if_neg (by rw [hv3, decide_eq_true h7]; decide)]
      unfold fX17_start_b130 fX17_start_b143
      simp (disch := omega) only [mck_s, sI_nn, nn_s, sI_lt, sI_le, sI_eq, sI_ltl, sI_lel, sI_eql, sI_llt, sI_lle, sI_1, bI_0, bI_1, bI_n, mlet, mb3_s, mb2_s]
      rw [if_neg (by omega)]
      exact wq_some (done _ _ (by rw [hst, if_pos h7]; rfl) rfl)
    · rw [if_pos (by rw [hv3, decide_eq_false h7]; rfl)]
      unfold fX17_start_b130 fX17_start_b143
      simp (disch := omega) only [mck_s, sI_nn, nn_s, sI_lt, sI_le, sI_eq, sI_ltl, sI_lel, sI_eql, sI_llt, sI_lle, sI_1, bI_0, bI_1, bI_n, mlet, mb3_s, mb2_s]
      rw [if_neg (by omega)]
      exact wq_some (done _ _ (by rw [hst, if_neg h7]; rfl) rfl)
  unfold DX17_start fX17_start_b35 fX17_start_b51 fX17_start_b62
  have h100 := hM.2.2.1
  rw [sz rfl rfl, mb3_s]
  by_cases h7 : n 2 m ≤ 7
  · rw [if_neg (by rw [sI_lle (by decide) (by omega)]; omega), sz rfl rfl, mb3_s, sz rfl rfl, mb3_s, if_neg (by rw [sI_lle (by decide) (by omega)]; omega), if_neg (by decide), if_neg (by decide)]
    exact fin 0 (n 2 m) 3 (by rw [if_pos h7]) (by rw [if_pos h7]) (by rw [if_pos h7]) 1 (by rw [decide_eq_true h7]; rfl)
  · rw [if_pos (by rw [sI_lle (by decide) (by omega)]; omega), sz rfl rfl, mb3_s, if_pos (by rw [sI_lel (by omega) (by decide)]; omega), sz rfl rfl, mb3_s, if_pos (by rw [sI_lle (by decide) (by omega)]; omega), if_pos rfl, if_pos rfl, sz rfl rfl, mb3_s]
    exact fin 1 6 1 (by rw [if_neg h7]) (by rw [if_neg h7]) (by rw [if_neg h7]) 0 (by rw [decide_eq_false h7]; rfl)
/-! the reference: what is left of a message is sent -/
def eS (e : Nat → Nat) : Nat := e 1 + e 2 + e 3 + e 4 + e 5 + e 6 + e 7
def eR (k : Nat) (e : Nat → Nat) (b : Nat → Nat → Bool) (e' : Nat → Nat) (b' : Nat → Nat → Bool) : Prop := e' 0 = e 0 ∧ eS e ≤ eS e' ∧ eS e' ≤ eS e + k ∧ b' 2 0 = (b 2 0 || decide (eS e < eS e'))
theorem eR_0 {k : Nat} {e : Nat → Nat} {b b' : Nat → Nat → Bool} (h : b' 2 0 = b 2 0) : eR k e b e b' := by
  refine ⟨rfl, Nat.le_refl _, by omega, ?_⟩
  rw [decide_eq_false (by omega), Bool.or_false, h]
theorem eR_t {k k' : Nat} {e e' e'' : Nat → Nat} {b b' b'' : Nat → Nat → Bool} (h1 : eR k e b e' b') (h2 : eR k' e' b' e'' b'') : eR (k + k') e b e'' b'' := by
  obtain ⟨a1, a2, a3, a4⟩ := h1
  obtain ⟨c1, c2, c3, c4⟩ := h2
  refine ⟨c1.trans a1, by omega, by omega, ?_⟩
  rw [c4, a4]
  by_cases q1 : eS e < eS e'
  · rw [decide_eq_true q1, decide_eq_true (show eS e < eS e'' by omega)]
    simp
  · by_cases q2 : eS e' < eS e''
    · rw [decide_eq_true q2, decide_eq_true (show eS e < eS e'' by omega)]
      simp
    · rw [decide_eq_false q1, decide_eq_false q2, decide_eq_false (show ¬ eS e < eS e'' by omega)]
      simp
def eU (e : Nat → Nat) (k : Nat) : Nat → Nat := fun j => if j = k then e k + 1 else e j
theorem eR_1 {k : Nat} {e : Nat → Nat} {b b' : Nat → Nat → Bool} (hk : 1 ≤ k ∧ k ≤ 7) (h : b' 2 0 = true) : eR 1 e b (eU e k) b' := by
  have hs : eS (eU e k) = eS e + 1 := by
    unfold eS eU
    rcases (show k = 1 ∨ k = 2 ∨ k = 3 ∨ k = 4 ∨ k = 5 ∨ k = 6 ∨ k = 7 by omega) with rfl | rfl | rfl | rfl | rfl | rfl | rfl <;> simp <;> omega
  refine ⟨?_, by omega, by omega, ?_⟩
  · unfold eU
    rw [if_neg (by omega)]
  · rw [h, hs, decide_eq_true (by omega), Bool.or_true]
theorem m_sz17 {fu m : Nat} {M : mwM} {L : mwL} {n : Nat → Nat → Nat} {b : Nat → Nat → Bool} (hv : TfW n b) (h : ∀ m, m ≤ n 0 0 → M 870 (m + 1) = sI (suN (n 2) m)) (h1 : 1 ≤ m) (h2 : m ≤ n 0 0) : DX17_size fu (sI m) M L = some (sI (n 2 m), M, L) := by
  have hK := hv.1.1
  have e1 := h m h2
  have e0 := h (m - 1) (by omega)
  rw [show m - 1 + 1 = m by omega] at e0
  have hs := su_S (g := n 2) h1
  have := su_k hv m h2
  unfold DX17_size
  rw [sI_1, mck_s (by omega) (by omega), mck_s (by omega) (by omega), sI_nn (by omega), sI_nn (by omega), e1, e0, sI_sub (by omega), hs]
  rw [show suN (n 2) (m - 1) + n 2 m - suN (n 2) (m - 1) = n 2 m by omega]
/-- one frame of it -/
theorem m_sendNext17 {fu m j τ : Nat} {M : mwM} {L : mwL} {p : PB} {o : Nat → Nat → Nat} {e : Nat → Nat} (hfu : 10 ≤ fu) (hW : TfW p.1 p.2) (h1 : 1 ≤ m) (h2 : m ≤ p.1 0 0) (h3 : p.1 3 m = 2) (hj : j < csN (p.1 2 m)) (hF : p.1 0 1 + j < 1600) (h : TfM (mset (mset M 874 m (sI 6)) 875 m (sI 0)) L τ (coP m j p).1 (coP m j p).2 o e) (h874 : M 874 m = sI (6 + 7 * j)) (h875 : M 875 m = sI j) : wq (DX17_sendNext fu (sI m) M L) (fun z => (if j + 1 = csN (p.1 2 m) then TfM z.1 z.2 τ (mset (coP m (j + 1) p).1 3 m 3) (coP m (j + 1) p).2 o e else TfM (mset (mset z.1 874 m (sI 6)) 875 m (sI 0)) z.2 τ (coP m (j + 1) p).1 (coP m (j + 1) p).2 o e ∧ z.1 874 m = sI (6 + 7 * (j + 1)) ∧ z.1 875 m = sI (j + 1)) ∧ (∀ a y, ¬ (a = 869 ∨ (873 ≤ a ∧ a ≤ 875) ∨ (892 ≤ a ∧ a ≤ 899)) → z.1 a y = M a y) ∧ ∀ a y, ¬ (a = 881 ∨ a = 897) → z.2 a y = L a y) := by
  have hK := hW.1.1
  have hM := hW.2.1 m h1 h2
  have h8 : 8 ≤ p.1 2 m := hM.2.2.2.2.2.1 (Or.inr h3)
  have cs14 := cs_le hM.2.2.1
  have cW := co_W j p hW h1 h2 (by omega) h8 (by omega)
  have r0 : ∀ i y, i ≠ 0 ∨ y ≠ 1 → ¬ (10 ≤ i ∧ i ≤ 12) → (coP m j p).1 i y = p.1 i y := fun i y u v => co_r u v j p
  have rF : (coP m j p).1 0 1 = p.1 0 1 + j := co_F j p
  have eco : coP m (j + 1) p = (mkN (coP m j p).1 2 m (j + 1), mkB (coP m j p).1 (coP m j p).2) := rfl
  have r00 := r0 0 0 (by omega) (by omega)
  have r2 : ∀ y, (coP m j p).1 2 y = p.1 2 y := fun y => r0 2 y (by omega) (by omega)
  have r2' : (coP m j p).1 2 = p.1 2 := funext r2
  have r3 := r0 3 m (by omega) (by omega)
  have N0 : ∀ a y, ¬ (a = 874 ∨ a = 875) → mset (mset M 874 m (sI 6)) 875 m (sI 0) a y = M a y := fun a y u => by rw [mset_n (by omega), mset_n (by omega)]
  have q870 : ∀ x, x ≤ p.1 0 0 → M 870 (x + 1) = sI (suN (p.1 2) x) := by
    intro x u
    have := h.2.1 x (by rw [r00]; exact u)
    rw [N0 _ _ (by omega), r2'] at this
    exact this
  have tm := h.2.2.1 m h1 (by rw [r00]; exact h2)
  have q26 : M 869 26 = sI (p.1 0 1 + j) := by
    have := h.1.2.2.2.1
    rw [N0 _ _ (by omega), rF] at this
    exact this
  have q2 : L 869 2 = sL τ := h.1.2.1
  have q873 : M 873 m = sI 2 := by
    have := tm.2.2.1
    rw [N0 _ _ (by omega), r3, h3] at this
    exact this
  have q6 := tm.2.2.2.2.2.2 (by rw [r3, h3])
  rw [N0 _ _ (by omega), N0 _ _ (by omega)] at q6
  obtain ⟨q876, q878, q881⟩ := q6
  have hs := su_S (g := p.1 2) h1
  have hsk := su_k hW m h2
  have e0 := q870 (m - 1) (by omega)
  rw [show m - 1 + 1 = m by omega] at e0
  have hle : 6 + 7 * j < p.1 2 m := by
    unfold csN at hj
    omega
  have fin : ∀ co rest : Nat, rest = p.1 2 m - (6 + 7 * j) → co = (if rest ≤ 7 then rest else 7) → wq (fX17_sendNext_b25 fu (sI m) (sI rest) (sI co) M L) (fun z => (if j + 1 = csN (p.1 2 m) then TfM z.1 z.2 τ (mset (coP m (j + 1) p).1 3 m 3) (coP m (j + 1) p).2 o e else TfM (mset (mset z.1 874 m (sI 6)) 875 m (sI 0)) z.2 τ (coP m (j + 1) p).1 (coP m (j + 1) p).2 o e ∧ z.1 874 m = sI (6 + 7 * (j + 1)) ∧ z.1 875 m = sI (j + 1)) ∧ (∀ a y, ¬ (a = 869 ∨ (873 ≤ a ∧ a ≤ 875) ∨ (892 ≤ a ∧ a ≤ 899)) → z.1 a y = M a y) ∧ ∀ a y, ¬ (a = 881 ∨ a = 897) → z.2 a y = L a y) := by
    intro co rest hrest hco
    have hc7 : co ≤ 7 ∧ co ≤ rest := by
      rw [hco]
      split <;> omega
    unfold fX17_sendNext_b25 fX17_sendNext_b177
    rw [mck_s (by omega) (by omega), mck_s (by omega) (by omega), sI_nn (by omega), h875, sI_1, show sI (j + 1) - sI (j + 1) / 16 * 16 = sI ((j + 1) % 16) from sI_mod (b := 16) (by omega) (by omega), Nat.mod_eq_of_lt (show j + 1 < 16 by omega)]
    simp only [mlet]
    rw [mck_s (by omega) (by omega), mset_s]
    refine wq_b3 (m_make17 (F := p.1 0 1 + j) (τ := τ) (by omega) (by rw [mset_n (by omega)]; exact q26) q2) ?_
    rintro g1 M1 L1 ⟨y0, y1, y2, y3, y4, y5, y6, y7, y8, y9⟩
    dsimp only at y0 y1 y2 y3 y4 y5 y6 y7 y8 y9
    rw [y0, if_neg (by rw [sI_eql (by omega) (by decide)]; omega), mck_s (by omega) (by omega)]
    have y1' : ∀ a y, ¬ (892 ≤ a ∧ a ≤ 898) → ¬ (a = 869 ∧ y = 26) → a ≠ 875 → M1 a y = M a y := fun a y u v w => by
      rw [y1 a y (by omega) v, mset_n (by omega)]
    rw [y1' 874 m (by omega) (by omega) (by omega), h874]
    refine wq_b2 (m_fill17 (τ := 0) (fr := 6 + 7 * j) (B := suN (p.1 2) (m - 1)) (v := fun k => o m (6 + 7 * j + k)) hfu (by omega) (by omega) hc7.1 ?_ (by omega) (fun k u => ?_)) ?_
    · rw [y1' 870 m (by omega) (by omega) (by omega)]; exact e0
    · rw [y1' 871 _ (by omega) (by omega) (by omega)]
      have := tm.1 (6 + 7 * j + k) (by rw [r2]; omega)
      rw [N0 _ _ (by omega), r2', ← Nat.add_assoc] at this
      exact this
    rintro M2 L2 ⟨w1, w2, w3⟩
    dsimp only at w1 w2 w3
    subst w1
    rw [mck_s (by omega) (by omega), mck_s (by omega) (by omega), mck_s (by omega) (by omega), mck_s (by omega) (by omega), w3 874 m (by omega), y1' 874 m (by omega) (by omega) (by omega), h874, sI_add, y2 869 2 (by omega), q2]
    have z878 : mset M2 874 m (sI (6 + 7 * j + co)) 878 m = 0 := by
      rw [mset_n (by omega), w3 878 m (by omega), y1' 878 m (by omega) (by omega) (by omega), q878]
    rw [z878, show (0 : Int32).toInt64 = 0 by decide, Int64.add_zero]
    have hFj : (coP m j p).1 0 1 + 1 = p.1 0 1 + j + 1 := by rw [rF]
    have T : ∀ M3 L3, M3 = mset M2 874 m (sI (6 + 7 * j + co)) → L3 = mset L2 881 m (sL τ) → TfM (mset (mset M3 874 m (sI 6)) 875 m (sI 0)) L3 τ (coP m (j + 1) p).1 (coP m (j + 1) p).2 o e := by
      intro M3 L3 q1 q2
      subst q1
      subst q2
      rw [eco]
      refine TfM_mk (co := co) (fun f u => co_le cW u) h (fun a y u1 u2 u3 => ?_) (fun a y u => ?_) ?_ ?_ ?_ ?_ ?_ ?_ ?_ ?_ (fun k u => ?_)
      · by_cases c1 : a = 875 ∧ y = m
        · rw [c1.1, c1.2, mset_s, mset_s]
        · rw [mset_n c1, mset_n c1]
          by_cases c2 : a = 874 ∧ y = m
          · rw [c2.1, c2.2, mset_s, mset_s]
          · rw [mset_n c2, mset_n c2, mset_n c2, w3 a y (by omega)]
            rw [y1 a y (by omega) u2, mset_n c1]
      · by_cases c1 : a = 881 ∧ y = m
        · rw [c1.1, c1.2, mset_s, q881]
        · rw [mset_n c1, y2 a y u]
      · simp (disch := omega) only [mset_n]
        rw [w3 869 26 (by omega), y3, rF]
      · simp (disch := omega) only [mset_n]
        rw [hFj, w3 892 _ (by omega), y4]
        rfl
      · simp (disch := omega) only [mset_n]
        rw [hFj, w3 893 _ (by omega), y5]
      · simp (disch := omega) only [mset_n]
        rw [hFj, w3 894 _ (by omega), y6, if_neg (by omega)]
      · simp (disch := omega) only [mset_n]
        rw [hFj, w3 895 _ (by omega), y7]
      · rw [if_neg (by omega), if_neg (by omega), if_neg (by omega), r2, hco, hrest]
        show _ = if p.1 2 m - (6 + 7 * (j + 1 - 1)) ≤ 7 then p.1 2 m - (6 + 7 * (j + 1 - 1)) else 7
        rw [Nat.add_sub_cancel]
      · simp (disch := omega) only [mset_n]
        rw [hFj, w3 896 _ (by omega), y8]
        rfl
      · simp (disch := omega) only [mset_n]
        rw [hFj, w3 898 _ (by omega), y9]
      · simp (disch := omega) only [mset_n]
        rw [hFj, w2 k u]
        rfl
    have fM : ∀ a y, ¬ (a = 869 ∨ (873 ≤ a ∧ a ≤ 875) ∨ (892 ≤ a ∧ a ≤ 899)) → M2 a y = M a y := fun a y u => by
      rw [w3 a y (by omega), y1' a y (by omega) (by omega) (by omega)]
    by_cases hl : rest ≤ 7
    · have hjl : j + 1 = csN (p.1 2 m) := by
        unfold csN at hj ⊢
        omega
      rw [if_pos hl] at hco
      rw [if_pos (by rw [hco]), mck_s (by omega) (by omega)]
      refine wq_some ⟨?_, fun a y u => ?_, fun a y u => ?_⟩
      all_goals (try dsimp only)
      · rw [if_pos hjl]
        have T1 := T _ _ rfl rfl
        have c3 : ∀ y, (coP m (j + 1) p).1 3 y = p.1 3 y := fun y => co_r (by omega) (by omega) _ _
        have c0 : (coP m (j + 1) p).1 0 0 = p.1 0 0 := co_r (by omega) (by omega) _ _
        refine TfM_ch T1 (fun a y u => by simp (disch := omega) only [mset_n]) T1.1.2.1 (fun i y u v => mset_n (by omega)) (fun x u v => ?_) (fun x u v => ?_) (fun r u => ?_) (fun f u => ?_) (fun k u => ?_)
        · have t := (T1.2.2.1 x u v).2
          unfold TmS at t ⊢
          by_cases hq : x = m
          · subst hq
            rw [c3, h3] at t
            rw [mset_s]
            simp (disch := omega) only [mset_n, mset_s] at t
            simp (disch := omega) only [mset_n, mset_s]
            refine ⟨?_, rfl, fun z => by omega, fun z => by omega, fun z => by omega, fun z => by omega⟩
            rw [t.1]
            rfl
          · rw [mset_j hq]
            simp (disch := omega) only [mset_n] at t
            simp (disch := omega) only [mset_n]
            exact t
        · have t := T1.2.2.2.1 x u v
          rw [c0] at u
          simp (disch := omega) only [mset_n] at t
          simp (disch := omega) only [mset_n]
          exact t
        · have t := T1.2.2.2.2.1 r u
          unfold TmR at t ⊢
          simp (disch := omega) only [mset_n] at t
          simp (disch := omega) only [mset_n]
          exact t
        · have t := (T1.2.2.2.2.2.1 f u).2.2.2.2.2.1
          simp (disch := omega) only [mset_n] at t
          simp (disch := omega) only [mset_n]
          exact t
        · have t := T1.2.2.2.2.2.2 k u
          simp (disch := omega) only [mset_n] at t
          simp (disch := omega) only [mset_n]
          exact t
      · rw [mset_n (by omega), mset_n (by omega)]
        exact fM a y u
      · rw [mset_n (by omega)]
        exact y2 a y (by omega)
    · have hjl : ¬ j + 1 = csN (p.1 2 m) := by
        unfold csN at hj ⊢
        omega
      rw [if_neg hl] at hco
      rw [if_neg (by rw [sI_eq (by omega) (by omega)]; omega), mck_s (by omega) (by omega)]
      rw [show mset M2 874 m (sI (6 + 7 * j + co)) 876 m = 0 by rw [mset_n (by omega), w3 876 m (by omega), y1' 876 m (by omega) (by omega) (by omega), q876], if_pos rfl]
      refine wq_some ⟨?_, fun a y u => ?_, fun a y u => ?_⟩
      all_goals (try dsimp only)
      · rw [if_neg hjl]
        refine ⟨T _ _ rfl rfl, ?_, ?_⟩
        · rw [mset_s, hco, show 6 + 7 * j + 7 = 6 + 7 * (j + 1) by omega]
        · rw [mset_n (by omega), w3 875 m (by omega), y1 875 m (by omega) (by omega), mset_s]
      · rw [mset_n (by omega)]
        exact fM a y u
      · rw [mset_n (by omega)]
        exact y2 a y (by omega)
  unfold DX17_sendNext
  have h100 := hM.2.2.1
  rw [m_sz17 hW q870 h1 h2, mb3_s, mck_s (by omega) (by omega), sI_nn (by omega), h874, sI_sub (by omega)]
  simp only [mlet]
  by_cases hl : p.1 2 m - (6 + 7 * j) ≤ 7
  · rw [if_pos (by rw [sI_lel (by omega) (by decide)]; exact hl)]
    exact fin _ _ rfl (by rw [if_pos hl])
  · rw [if_neg (by rw [sI_lel (by omega) (by decide)]; exact hl)]
    exact fin 7 _ rfl (by rw [if_neg hl])
/-! what goes on: sending and its end may be told apart -/
theorem mset_cm {α : Type} {M : Nat → Nat → α} {a b c d : Nat} {x y : α} (h : ¬ (a = c ∧ b = d)) : mset (mset M a b x) c d y = mset (mset M c d y) a b x := by
  funext i j
  by_cases h1 : i = c ∧ j = d
  · rw [h1.1, h1.2, mset_s, mset_n (by omega), mset_s]
  · rw [mset_n h1]
    by_cases h2 : i = a ∧ j = b
    · rw [h2.1, h2.2, mset_s, mset_s]
    · rw [mset_n h2, mset_n h2, mset_n h1]
theorem mset_ii {α : Type} {M : Nat → Nat → α} {a b : Nat} {x y : α} : mset (mset M a b x) a b y = mset M a b y := by
  funext i j
  by_cases h1 : i = a ∧ j = b
  · rw [h1.1, h1.2, mset_s, mset_s]
  · rw [mset_n h1, mset_n h1, mset_n h1]
def sdP (m : Nat) (p : PB) : PB := if p.1 3 m = 2 then (mset (coP m (csN (p.1 2 m)) p).1 3 m 3, (coP m (csN (p.1 2 m)) p).2) else p
def toP (m t : Nat) (p : PB) : PB := if p.1 3 m = 1 ∧ 1000 ≤ t - p.1 4 m then (mset p.1 3 m 4, mset p.2 2 0 true) else p
def sdA : Nat → PB → PB
  | 0, p => p
  | i + 1, p => sdP (i + 1) (sdA i p)
def toA (t : Nat) : Nat → PB → PB
  | 0, p => p
  | i + 1, p => toP (i + 1) t (toA t i p)
theorem sdP_1 {m : Nat} {n : Nat → Nat → Nat} {b : Nat → Nat → Bool} (h : n 3 m = 2) : sdP m (n, b) = (mset (coP m (csN (n 2 m)) (n, b)).1 3 m 3, (coP m (csN (n 2 m)) (n, b)).2) := by
  unfold sdP
  rw [if_pos h]
theorem sdP_0 {m : Nat} {n : Nat → Nat → Nat} {b : Nat → Nat → Bool} (h : n 3 m ≠ 2) : sdP m (n, b) = (n, b) := by
  unfold sdP
  rw [if_neg h]
theorem toP_1 {m t : Nat} {n : Nat → Nat → Nat} {b : Nat → Nat → Bool} (h : n 3 m = 1 ∧ 1000 ≤ t - n 4 m) : toP m t (n, b) = (mset n 3 m 4, mset b 2 0 true) := by
  unfold toP
  rw [if_pos h]
theorem toP_0 {m t : Nat} {n : Nat → Nat → Nat} {b : Nat → Nat → Bool} (h : ¬ (n 3 m = 1 ∧ 1000 ≤ t - n 4 m)) : toP m t (n, b) = (n, b) := by
  unfold toP
  rw [if_neg h]
theorem rcS_1 {r t : Nat} {n : Nat → Nat → Nat} {b : Nat → Nat → Bool} (h : n 5 r = 1 ∧ 1000 ≤ t - n 9 r) : rcS t r (n, b) = (mset n 5 r 3, mset b 2 0 true) := by
  unfold rcS
  rw [if_pos h]
theorem rcS_0 {r t : Nat} {n : Nat → Nat → Nat} {b : Nat → Nat → Bool} (h : ¬ (n 5 r = 1 ∧ 1000 ≤ t - n 9 r)) : rcS t r (n, b) = (n, b) := by
  unfold rcS
  rw [if_neg h]
theorem go_sp {m t : Nat} {p : PB} : goP m t p = toP m t (sdP m p) := by
  obtain ⟨n, b⟩ := p
  by_cases h2 : n 3 m = 2
  · rw [sdP_1 h2, toP_0 (by rw [mset_s]; omega)]
    unfold goP
    rw [if_pos h2]
  · rw [sdP_0 h2]
    unfold goP toP
    rw [if_neg h2]
theorem co_cm {m j v : Nat} : ∀ k (p : PB), coP m k (mset p.1 3 j v, mset p.2 2 0 true) = (mset (coP m k p).1 3 j v, mset (coP m k p).2 2 0 true) := by
  intro k
  induction k with
  | zero => intro p; rfl
  | succ k ih =>
    intro p
    have e1 : coP m (k + 1) (mset p.1 3 j v, mset p.2 2 0 true) = (mkN (coP m k (mset p.1 3 j v, mset p.2 2 0 true)).1 2 m (k + 1), mkB (coP m k (mset p.1 3 j v, mset p.2 2 0 true)).1 (coP m k (mset p.1 3 j v, mset p.2 2 0 true)).2) := rfl
    have e2 : coP m (k + 1) p = (mkN (coP m k p).1 2 m (k + 1), mkB (coP m k p).1 (coP m k p).2) := rfl
    rw [e1, e2, ih p]
    dsimp only
    generalize coP m k p = q
    unfold mkN mkB
    have e0 : mset q.1 3 j v 0 1 = q.1 0 1 := mset_n (by omega)
    rw [e0]
    congr 1
    · rw [mset_cm (a := 3) (c := 10) (by omega), mset_cm (a := 3) (c := 11) (by omega), mset_cm (a := 3) (c := 12) (by omega), mset_cm (a := 3) (c := 0) (by omega)]
    · rw [mset_cm (by omega)]
theorem to_sd {j m t : Nat} {p : PB} (h : j ≠ m) : toP j t (sdP m p) = sdP m (toP j t p) := by
  obtain ⟨n, b⟩ := p
  have a1 : n 3 m = 2 → mset (coP m (csN (n 2 m)) (n, b)).1 3 m 3 3 j = n 3 j := fun _ => by rw [mset_j h, co_r (by omega) (by omega)]
  have a2 : n 3 m = 2 → mset (coP m (csN (n 2 m)) (n, b)).1 3 m 3 4 j = n 4 j := fun _ => by rw [mset_n (by omega), co_r (by omega) (by omega)]
  have a3 : mset n 3 j 4 3 m = n 3 m := mset_j (Ne.symm h)
  have a4 : mset n 3 j 4 2 m = n 2 m := mset_n (by omega)
  by_cases c1 : n 3 j = 1 ∧ 1000 ≤ t - n 4 j
  · rw [toP_1 (b := b) c1]
    by_cases c2 : n 3 m = 2
    · have e3 := co_cm (m := m) (j := j) (v := 4) (csN (n 2 m)) (n, b)
      dsimp only at e3
      rw [sdP_1 c2, toP_1 (by rw [a1 c2, a2 c2]; exact c1), sdP_1 (by rw [a3]; exact c2), a4, e3]
      dsimp only
      rw [mset_cm (by omega)]
    · rw [sdP_0 c2, toP_1 c1, sdP_0 (by rw [a3]; exact c2)]
  · rw [toP_0 (b := b) c1]
    by_cases c2 : n 3 m = 2
    · rw [sdP_1 c2, toP_0 (by rw [a1 c2, a2 c2]; exact c1)]
    · rw [sdP_0 c2, toP_0 c1]
theorem toA_sd {m t : Nat} : ∀ k, k < m → ∀ p, toA t k (sdP m p) = sdP m (toA t k p) := by
  intro k
  induction k with
  | zero => intro _ p; rfl
  | succ k ih =>
    intro hk p
    show toP (k + 1) t (toA t k (sdP m p)) = sdP m (toP (k + 1) t (toA t k p))
    rw [ih (by omega), to_sd (by omega)]
theorem goA_sp {t : Nat} : ∀ k p, goA t k p = toA t k (sdA k p) := by
  intro k
  induction k with
  | zero => intro p; rfl
  | succ k ih =>
    intro p
    show goP (k + 1) t (goA t k p) = toP (k + 1) t (toA t k (sdP (k + 1) (sdA k p)))
    rw [go_sp, ih, toA_sd k (by omega)]
theorem sd_r {m i j : Nat} {p : PB} (h : i ≠ 0 ∨ j ≠ 1) (h2 : ¬ (10 ≤ i ∧ i ≤ 12)) (h3 : ¬ (i = 3 ∧ j = m)) : (sdP m p).1 i j = p.1 i j := by
  unfold sdP
  split
  · dsimp only
    rw [mset_n h3]; exact co_r h h2 _ _
  · rfl
theorem sd_m {m : Nat} {p : PB} : (sdP m p).1 3 m = if p.1 3 m = 2 then 3 else p.1 3 m := by
  unfold sdP
  split
  · dsimp only
    rw [mset_s]
  · rfl
theorem sdA_3 : ∀ k p j, (sdA k p).1 3 j = if 1 ≤ j ∧ j ≤ k ∧ p.1 3 j = 2 then 3 else p.1 3 j := by
  intro k
  induction k with
  | zero =>
    intro p j
    rw [if_neg (by omega)]
    rfl
  | succ k ih =>
    intro p j
    show (sdP (k + 1) (sdA k p)).1 3 j = _
    by_cases hq : j = k + 1
    · subst hq
      rw [sd_m, ih, if_neg (show ¬ (1 ≤ k + 1 ∧ k + 1 ≤ k ∧ p.1 3 (k + 1) = 2) by omega)]
      by_cases h2 : p.1 3 (k + 1) = 2
      · rw [if_pos h2, if_pos ⟨by omega, by omega, h2⟩]
      · rw [if_neg h2, if_neg (fun z => h2 z.2.2)]
    · rw [sd_r (by omega) (by omega) (by omega), ih]
      by_cases h2 : 1 ≤ j ∧ j ≤ k ∧ p.1 3 j = 2
      · rw [if_pos h2, if_pos ⟨by omega, by omega, h2.2.2⟩]
      · rw [if_neg h2, if_neg (fun z => h2 ⟨z.1, by omega, z.2.2⟩)]
theorem sdA_4 {j : Nat} : ∀ k p, (sdA k p).1 4 j = p.1 4 j := by
  intro k
  induction k with
  | zero => intro p; rfl
  | succ k ih => intro p; exact (sd_r (by omega) (by omega) (by omega)).trans (ih p)
theorem toA_no {t : Nat} {p : PB} : ∀ k, (∀ m, 1 ≤ m → m ≤ k → p.1 3 m = 1 → t - p.1 4 m < 1000) → toA t k p = p := by
  intro k
  induction k with
  | zero => intro _; rfl
  | succ k ih =>
    intro h
    show toP (k + 1) t (toA t k p) = p
    rw [ih (fun m u v => h m u (by omega))]
    unfold toP
    rw [if_neg]
    intro z
    have := h (k + 1) (by omega) (by omega) z.1
    omega
theorem sdA_no {p : PB} : ∀ k, (∀ m, 1 ≤ m → m ≤ k → p.1 3 m ≠ 2) → sdA k p = p := by
  intro k
  induction k with
  | zero => intro _; rfl
  | succ k ih =>
    intro h
    show sdP (k + 1) (sdA k p) = p
    rw [ih (fun m u v => h m u (by omega))]
    unfold sdP
    rw [if_neg (h (k + 1) (by omega) (by omega))]
/-- no end at the time before: twice is once -/
theorem go_two {s t k : Nat} {p : PB} (h : ∀ m, 1 ≤ m → m ≤ k → p.1 3 m = 1 → s - p.1 4 m < 1000) : goA t k (goA s k p) = goA t k p := by
  have e1 : goA s k p = sdA k p := by
    rw [goA_sp]
    refine toA_no k (fun m u v w => ?_)
    rw [sdA_3] at w
    rw [sdA_4]
    by_cases h2 : 1 ≤ m ∧ m ≤ k ∧ p.1 3 m = 2
    · rw [if_pos h2] at w; omega
    · rw [if_neg h2] at w
      exact h m u v w
  rw [e1, goA_sp, goA_sp]
  rw [sdA_no (p := sdA k p) k (fun m u v w => ?_)]
  rw [sdA_3] at w
  by_cases h2 : 1 ≤ m ∧ m ≤ k ∧ p.1 3 m = 2
  · rw [if_pos h2] at w; omega
  · rw [if_neg h2] at w
    exact h2 ⟨u, v, w⟩
theorem gA_2 {s k m : Nat} {p : PB} (h1 : 1 ≤ m) (h2 : m ≤ k) : (goA s k p).1 3 m ≠ 2 := by
  rw [goA_sp]
  have key : ∀ i q, q.1 3 m ≠ 2 → (toA s i q).1 3 m ≠ 2 := by
    intro i
    induction i with
    | zero => intro q h; exact h
    | succ i ih =>
      intro q h
      show (toP (i + 1) s (toA s i q)).1 3 m ≠ 2
      have := ih q h
      unfold toP
      split
      · dsimp only
        by_cases hq : m = i + 1
        · rw [hq, mset_s]; omega
        · rw [mset_j hq]; exact this
      · exact this
  refine key k _ ?_
  rw [sdA_3]
  split
  · omega
  · intro z
    rename_i hn
    exact hn ⟨h1, h2, z⟩
theorem gA_3 {s j : Nat} {p : PB} : ∀ k, k < j → (goA s k p).1 3 j = p.1 3 j := by
  intro k
  induction k with
  | zero => intro _; rfl
  | succ k ih =>
    intro hk
    show (goP (k + 1) s (goA s k p)).1 3 j = p.1 3 j
    rw [← ih (by omega)]
    unfold goP
    split
    · dsimp only
      rw [mset_j (by omega)]; exact co_r (by omega) (by omega) _ _
    · split
      · exact mset_j (by omega)
      · rfl
/-! the receivers, in another order -/
def rcO (t : Nat) : Nat → PB → PB
  | 0, p => p
  | k + 1, p => rcS t ((k + 1) % 4) (rcO t k p)
theorem rc_cm {t r r' : Nat} {p : PB} (h : r ≠ r') : rcS t r (rcS t r' p) = rcS t r' (rcS t r p) := by
  obtain ⟨n, b⟩ := p
  have a1 : mset n 5 r' 3 5 r = n 5 r := mset_j h
  have a2 : mset n 5 r' 3 9 r = n 9 r := mset_n (by omega)
  have a3 : mset n 5 r 3 5 r' = n 5 r' := mset_j (Ne.symm h)
  have a4 : mset n 5 r 3 9 r' = n 9 r' := mset_n (by omega)
  by_cases c1 : n 5 r = 1 ∧ 1000 ≤ t - n 9 r
  · by_cases c2 : n 5 r' = 1 ∧ 1000 ≤ t - n 9 r'
    · rw [rcS_1 c1, rcS_1 c2, rcS_1 (by rw [a1, a2]; exact c1), rcS_1 (by rw [a3, a4]; exact c2), mset_cm (by omega)]
    · rw [rcS_1 c1, rcS_0 c2, rcS_1 c1, rcS_0 (by rw [a3, a4]; exact c2)]
  · by_cases c2 : n 5 r' = 1 ∧ 1000 ≤ t - n 9 r'
    · rw [rcS_0 c1, rcS_1 c2, rcS_0 (by rw [a1, a2]; exact c1)]
    · rw [rcS_0 c1, rcS_0 c2, rcS_0 c1]
theorem rcO_4 {t : Nat} {p : PB} : rcO t 4 p = rcA t 4 p := by
  show rcS t 0 (rcS t 3 (rcS t 2 (rcS t 1 p))) = rcS t 3 (rcS t 2 (rcS t 1 (rcS t 0 p)))
  rw [rc_cm (r := 0) (r' := 3) (by omega), rc_cm (r := 0) (r' := 2) (by omega), rc_cm (r := 0) (r' := 1) (by omega)]
theorem rcO_no {t : Nat} {p : PB} (h : ∀ r, r < 4 → p.1 5 r = 1 → t - p.1 9 r < 1000) : ∀ k, rcO t k p = p := by
  intro k
  induction k with
  | zero => rfl
  | succ k ih =>
    show rcS t ((k + 1) % 4) (rcO t k p) = p
    rw [ih]
    unfold rcS
    rw [if_neg]
    intro z
    have := h ((k + 1) % 4) (Nat.mod_lt _ (by omega)) z.1
    omega
/-! the reference: a moment -/
theorem due_2 {fu m τ : Nat} {M : mwM} {L : mwL} (hm : m ≤ 100) (h1 : M 873 m = sI 2) (h2 : L 881 m = sL τ) (h3 : L 869 2 = sL τ) : DX17_senderDue fu (sI m) M L = some (1, M, L) := by
  unfold DX17_senderDue fX17_senderDue_b52 fX17_senderDue_b57
  rw [mck_s (by omega) (by omega), sI_nn (by omega), h1, if_pos (show sI 2 = 2 from rfl), mck_s (by omega) (by omega), h2, h3, if_pos ((lg_cmp_eq _ _).mpr rfl)]
  rfl
theorem due_1 {fu m s τ : Nat} {M : mwM} {L : mwL} (hm : m ≤ 100) (h1 : M 873 m = sI 1) (h2 : L 880 m = sL s) (h3 : L 869 2 = sL τ) (hs : s ≤ τ) (ht : τ ≤ 30000) : DX17_senderDue fu (sI m) M L = some (bI (decide (τ - s = 1000)), M, L) := by
  unfold DX17_senderDue fX17_senderDue_b24 fX17_senderDue_b52 fX17_senderDue_b56 fX17_senderDue_b57
  rw [mck_s (by omega) (by omega), sI_nn (by omega), h1, if_neg (by decide), mck_s (by omega) (by omega), if_pos (show sI 1 = 1 from rfl), mck_s (by omega) (by omega), h2, h3, sL_sub hs]
  by_cases hq : τ - s = 1000
  · rw [if_pos ((lg_cmp_eq _ _).mpr (by rw [hq]; rfl)), decide_eq_true hq]
    rfl
  · rw [if_neg (show ¬ lg_cmp (sL (τ - s)) 1000 = 0 from fun z => hq ((sL_eq (a := τ - s) (b := 1000) (by omega) (by omega)).mp ((lg_cmp_eq _ _).mp z))), decide_eq_false hq]
    rfl
theorem due_0 {fu m st : Nat} {M : mwM} {L : mwL} (hm : m ≤ 100) (h1 : M 873 m = sI st) (hs : st ≤ 4) (n1 : st ≠ 1) (n2 : st ≠ 2) : DX17_senderDue fu (sI m) M L = some (0, M, L) := by
  unfold DX17_senderDue fX17_senderDue_b24 fX17_senderDue_b56 fX17_senderDue_b57
  rw [mck_s (by omega) (by omega), sI_nn (by omega), h1, if_neg (by rw [sI_eql (by omega) (by decide)]; exact n2), mck_s (by omega) (by omega), if_neg (by rw [sI_eql (by omega) (by decide)]; exact n1)]
  rfl
abbrev mFr (M M' : mwM) : Prop := ∀ a y, ¬ (a = 869 ∨ (872 ≤ a ∧ a ≤ 875) ∨ a = 882 ∨ (892 ≤ a ∧ a ≤ 899) ∨ a = 901) → M' a y = M a y
abbrev lFr (L L' : mwL) : Prop := ∀ a y, ¬ (a = 869 ∨ a = 880 ∨ a = 881 ∨ a = 897) → L' a y = L a y
theorem m_mom1 {fu m τ : Nat} {M : mwM} {L : mwL} {p : PB} {o : Nat → Nat → Nat} {e : Nat → Nat} {Q : mwM × mwL → Prop} {r2 : Int32 × mwM × mwL → Option (mwM × mwL)} (hfu : 40 ≤ fu) (hv : TfV p.1 p.2) (h : TfM M L τ p.1 p.2 o e) (h1 : 1 ≤ m) (h2 : m ≤ p.1 0 0) (hτ : τ ≤ 20001) (ht : p.1 3 m = 1 → p.1 4 m ≤ τ ∧ τ ≤ p.1 4 m + 1000) (hQ : ∀ M' L' e', TfM M' L' τ (goP m τ p).1 (goP m τ p).2 o e' → eR 1 e p.2 e' (goP m τ p).2 → mFr M M' → lFr L L' → wq (r2 (sI (m + 1), M', L')) Q) : wq (fX17_moment_h10 fu r2 fu (sI m, M, L)) Q := by
  have hK := hv.1.1
  have hM := hv.2.1 m h1 h2
  have tm := (h.2.2.1 m h1 h2).2
  have hW := (TfV_W.mp hv).1
  -- nothing is due
  have stop : ∀ (f : Nat) (M' : mwM) (L' : mwL) (st : Nat), 1 ≤ f → M' 873 m = sI st → st ≤ 4 → st ≠ 1 → st ≠ 2 → wq (r2 (sI (m + 1), M', L')) Q → wq (fX17_moment_h10 fu r2 f (sI m, M', L')) Q := by
    intro f M' L' st hf e1 e2 e3 e4 hq
    obtain ⟨g, rfl⟩ : ∃ g, f = g + 1 := ⟨f - 1, by omega⟩
    unfold fX17_moment_h10
    rw [mloop_S]
    show wq (fX17_moment_i10 fu r2 (fX17_moment_h10 fu r2 g) (sI m) M' L') Q
    unfold fX17_moment_i10
    rw [due_0 (by omega) e1 e2 e3 e4, mb3_s, if_pos rfl]
    simp only [mlet]
    rw [sI_1]
    exact hq
  by_cases a2 : p.1 3 m = 2
  · have eg : goP m τ p = (mset (coP m (csN (p.1 2 m)) p).1 3 m 3, (coP m (csN (p.1 2 m)) p).2) := by unfold goP; rw [if_pos a2]
    have h8 : 8 ≤ p.1 2 m := hM.2.2.2.2.2.1 (Or.inr a2)
    have cs14 := cs_le hM.2.2.1
    have vg := V_go (t := τ) hv h1 h2
    have hF := Tf_F vg
    have eF : (goP m τ p).1 0 1 = p.1 0 1 + csN (p.1 2 m) := by
      rw [eg]
      dsimp only
      rw [mset_n (by omega), co_F]
    have cs0 : 1 ≤ csN (p.1 2 m) := by
      unfold csN
      omega
    have key : ∀ (k j f : Nat) (M' : mwM) (L' : mwL), j + k + 1 = csN (p.1 2 m) → k + 2 ≤ f → TfM (mset (mset M' 874 m (sI 6)) 875 m (sI 0)) L' τ (coP m j p).1 (coP m j p).2 o e → M' 874 m = sI (6 + 7 * j) → M' 875 m = sI j → mFr M M' → lFr L L' → wq (fX17_moment_h10 fu r2 f (sI m, M', L')) Q := by
      intro k
      induction k with
      | zero =>
        intro j f M' L' hj hf T q4 q5 fM fL
        obtain ⟨g, rfl⟩ : ∃ g, f = g + 1 := ⟨f - 1, by omega⟩
        have c3 : (coP m j p).1 3 m = 2 := by rw [co_r (by omega) (by omega)]; exact a2
        have c0 : (coP m j p).1 0 0 = p.1 0 0 := co_r (by omega) (by omega) _ _
        have t := (T.2.2.1 m h1 (by rw [c0]; exact h2)).2
        unfold TmS at t
        rw [c3] at t
        simp (disch := omega) only [mset_n] at t
        unfold fX17_moment_h10
        rw [mloop_S]
        show wq (fX17_moment_i10 fu r2 (fX17_moment_h10 fu r2 g) (sI m) M' L') Q
        unfold fX17_moment_i10
        rw [due_2 (by omega) t.2.1 (t.2.2.2.2.2 trivial).2.2 T.1.2.1, mb3_s, if_neg (by decide), mck_s (by omega) (by omega), sI_nn (by omega), t.2.1, if_neg (by decide)]
        refine wq_b2 (m_sendNext17 (by omega) hW h1 h2 a2 (by omega) (by omega) T q4 q5) ?_
        rintro M1 L1 ⟨y1, y2, y3⟩
        dsimp only at y1 y2 y3
        rw [if_pos (by omega)] at y1
        have ej : j + 1 = csN (p.1 2 m) := by omega
        rw [ej, ← show (goP m τ p).1 = mset (coP m (csN (p.1 2 m)) p).1 3 m 3 by rw [eg], ← show (goP m τ p).2 = (coP m (csN (p.1 2 m)) p).2 by rw [eg]] at y1
        have g3 : (goP m τ p).1 3 m = 3 := by
          rw [eg]
          exact mset_s
        have g0 : (goP m τ p).1 0 0 = p.1 0 0 := go_r (by omega) (by omega) (by omega)
        have t2 := (y1.2.2.1 m h1 (by rw [g0]; exact h2)).2.2.1
        rw [g3] at t2
        refine stop g M1 L1 3 (by omega) t2 (by omega) (by omega) (by omega) (hQ M1 L1 e y1 (eR_0 ?_) (fun a y u => ?_) (fun a y u => ?_))
        · rw [eg]
          exact co_b (by omega) _ _
        · rw [y2 a y (by omega)]; exact fM a y u
        · rw [y3 a y (by omega)]; exact fL a y u
      | succ k ih =>
        intro j f M' L' hj hf T q4 q5 fM fL
        obtain ⟨g, rfl⟩ : ∃ g, f = g + 1 := ⟨f - 1, by omega⟩
        have c3 : (coP m j p).1 3 m = 2 := by rw [co_r (by omega) (by omega)]; exact a2
        have c0 : (coP m j p).1 0 0 = p.1 0 0 := co_r (by omega) (by omega) _ _
        have t := (T.2.2.1 m h1 (by rw [c0]; exact h2)).2
        unfold TmS at t
        rw [c3] at t
        simp (disch := omega) only [mset_n] at t
        unfold fX17_moment_h10
        rw [mloop_S]
        show wq (fX17_moment_i10 fu r2 (fX17_moment_h10 fu r2 g) (sI m) M' L') Q
        unfold fX17_moment_i10
        rw [due_2 (by omega) t.2.1 (t.2.2.2.2.2 trivial).2.2 T.1.2.1, mb3_s, if_neg (by decide), mck_s (by omega) (by omega), sI_nn (by omega), t.2.1, if_neg (by decide)]
        refine wq_b2 (m_sendNext17 (by omega) hW h1 h2 a2 (by omega) (by omega) T q4 q5) ?_
        rintro M1 L1 ⟨y1, y2, y3⟩
        dsimp only at y1 y2 y3
        rw [if_neg (by omega)] at y1
        refine ih (j + 1) g M1 L1 (by omega) (by omega) y1.1 y1.2.1 y1.2.2 (fun a y u => ?_) (fun a y u => ?_)
        · rw [y2 a y (by omega)]; exact fM a y u
        · rw [y3 a y (by omega)]; exact fL a y u
    have m4 := tm.2.2.1 (Or.inr a2)
    have m5 := tm.2.2.2.1 (by omega)
    refine key (csN (p.1 2 m) - 1) 0 fu M L (by omega) (by omega) ?_ m4 m5 (fun _ _ _ => rfl) (fun _ _ _ => rfl)
    have e1 : mset (mset M 874 m (sI 6)) 875 m (sI 0) = M := by
      rw [mset_id (M := M) m4, mset_id m5]
    rw [e1]
    exact h
  · by_cases a1 : p.1 3 m = 1
    · have tt := ht a1
      by_cases a3 : τ - p.1 4 m = 1000
      · have eg : goP m τ p = (mset p.1 3 m 4, mset p.2 2 0 true) := by unfold goP; rw [if_neg a2, if_pos ⟨a1, by omega⟩]
        obtain ⟨g, hg⟩ : ∃ g, fu = g + 1 := ⟨fu - 1, by omega⟩
        have q873 : M 873 m = sI 1 := by rw [tm.2.1, a1]
        have step : wq (fX17_moment_i10 fu r2 (fX17_moment_h10 fu r2 g) (sI m) M L) Q := by
          unfold fX17_moment_i10
          rw [due_1 (by omega) q873 (tm.2.2.2.2.1 a1) h.1.2.1 tt.1 (by omega), mb3_s, if_neg (by rw [decide_eq_true a3]; decide), mck_s (by omega) (by omega), sI_nn (by omega), q873, if_pos (show sI 1 = 1 from rfl)]
          unfold DX17_endSender
          rw [mck_s (by omega) (by omega), sI_nn (by omega)]
          simp only [mlet]
          rw [mck_in (show vp_in 1 8 from sI_in (k := 1) (by omega) (by omega)), mck_in (show vp_in 1 8 from sI_in (k := 1) (by omega) (by omega)), mb2_s]
          have e901 := h.2.2.2.2.2.2 1 (by omega)
          refine stop g _ L 4 (by omega) (by rw [mset_n (by omega), mset_s]; rfl) (by omega) (by omega) (by omega) (hQ _ L (eU e 1) ?_ (eR_1 (by omega) (by rw [eg]; dsimp only; rw [mset_s])) (fun a y u => by rw [mset_n (by omega), mset_n (by omega)]) (fun _ _ _ => rfl))
          rw [eg]
          dsimp only
          refine TfM_ch h (fun a y u => by rw [mset_n (by omega), mset_n (by omega)]) h.1.2.1 (fun i j u v => mset_n (by omega)) (fun x u v => ?_) (fun x u v => ?_) (fun r u => ?_) (fun f u => ?_) (fun k u => ?_)
          · have t := (h.2.2.1 x u v).2
            unfold TmS at t ⊢
            by_cases hq : x = m
            · subst hq
              rw [a1] at t
              rw [mset_s]
              simp (disch := omega) only [mset_n, mset_s]
              refine ⟨?_, rfl, fun z => by omega, fun z => by omega, fun z => by omega, fun z => by omega⟩
              rw [t.1]
              rfl
            · rw [mset_j hq]
              simp (disch := omega) only [mset_n]
              exact t
          · have t := h.2.2.2.1 x u v
            simp (disch := omega) only [mset_n]
            exact t
          · have t := h.2.2.2.2.1 r u
            unfold TmR at t ⊢
            simp (disch := omega) only [mset_n]
            exact t
          · have t := (h.2.2.2.2.2.1 f u).2.2.2.2.2.1
            simp (disch := omega) only [mset_n]
            exact t
          · by_cases hq : k = 1
            · subst hq
              show mset (mset M 873 m 4) 901 1 _ 901 1 = sI (eU e 1 1)
              rw [mset_s, show mset M 873 m 4 901 (1 : Int32).toNatClampNeg = M 901 1 from mset_n (by omega), e901, sI_1]
              rfl
            · show mset (mset M 873 m 4) 901 1 _ 901 k = sI (eU e 1 k)
              rw [mset_j hq, mset_n (by omega), h.2.2.2.2.2.2 k u]
              unfold eU
              rw [if_neg hq]
        show wq (mloop (fun r10 s => fX17_moment_i10 fu r2 r10 s.1 s.2.1 s.2.2) fu (sI m, M, L)) Q
        have e0 : mloop (fun r10 s => fX17_moment_i10 fu r2 r10 s.1 s.2.1 s.2.2) fu (sI m, M, L) = mloop (fun r10 s => fX17_moment_i10 fu r2 r10 s.1 s.2.1 s.2.2) (g + 1) (sI m, M, L) := by
          congr 1
        rw [e0, mloop_S]
        exact step
      · have eg : goP m τ p = p := by unfold goP; rw [if_neg a2, if_neg (by omega)]
        rw [eg] at hQ
        obtain ⟨g, hg⟩ : ∃ g, fu = g + 1 := ⟨fu - 1, by omega⟩
        have q873 : M 873 m = sI 1 := by rw [tm.2.1, a1]
        show wq (mloop (fun r10 s => fX17_moment_i10 fu r2 r10 s.1 s.2.1 s.2.2) fu (sI m, M, L)) Q
        have e0 : mloop (fun r10 s => fX17_moment_i10 fu r2 r10 s.1 s.2.1 s.2.2) fu (sI m, M, L) = mloop (fun r10 s => fX17_moment_i10 fu r2 r10 s.1 s.2.1 s.2.2) (g + 1) (sI m, M, L) := by
          congr 1
        rw [e0, mloop_S]
        show wq (fX17_moment_i10 fu r2 (fX17_moment_h10 fu r2 g) (sI m) M L) Q
        unfold fX17_moment_i10
        rw [due_1 (by omega) q873 (tm.2.2.2.2.1 a1) h.1.2.1 tt.1 (by omega), mb3_s, if_pos (by rw [decide_eq_false a3]; rfl)]
        simp only [mlet]
        rw [sI_1]
        exact hQ M L e h (eR_0 rfl) (fun _ _ _ => rfl) (fun _ _ _ => rfl)
    · have eg : goP m τ p = p := by unfold goP; rw [if_neg a2, if_neg (by omega)]
      rw [eg] at hQ
      exact stop fu M L (p.1 3 m) (by omega) tm.2.1 hM.2.2.2.1 a1 a2 (hQ M L e h (eR_0 rfl) (fun _ _ _ => rfl) (fun _ _ _ => rfl))
/-! the reference: all of a moment; the clock goes on -/
theorem rcO_r {t i j : Nat} (h : i ≠ 5) : ∀ k p, (rcO t k p).1 i j = p.1 i j := by
  intro k
  induction k with
  | zero => intro p; rfl
  | succ k ih =>
    intro p
    have e : (rcO t (k + 1) p).1 i j = (rcO t k p).1 i j := by
      show (rcS t ((k + 1) % 4) (rcO t k p)).1 i j = (rcO t k p).1 i j
      unfold rcS
      split
      · exact mset_n (by omega)
      · rfl
    exact e.trans (ih p)
theorem rcO_V {t : Nat} : ∀ k p, TfV p.1 p.2 → TfV (rcO t k p).1 (rcO t k p).2 := by
  intro k
  induction k with
  | zero => intro p h; exact h
  | succ k ih => intro p h; exact V_rc (ih p h)
theorem rcO_5 {t r k : Nat} {p : PB} (h : (rcO t k p).1 5 r = 1) : p.1 5 r = 1 := by
  induction k with
  | zero => exact h
  | succ k ih =>
    refine ih ?_
    have e : rcO t (k + 1) p = rcS t ((k + 1) % 4) (rcO t k p) := rfl
    rw [e] at h
    unfold rcS at h
    split at h
    · dsimp only at h
      by_cases hq : r = (k + 1) % 4
      · rw [hq, mset_s] at h; omega
      · rw [mset_j hq] at h; exact h
    · exact h
theorem m_moment17 {fu τ : Nat} {M : mwM} {L : mwL} {p : PB} {o : Nat → Nat → Nat} {e : Nat → Nat} (hfu : 200 ≤ fu) (hv : TfV p.1 p.2) (h : TfM M L τ p.1 p.2 o e) (hτ : τ ≤ 20001) (ht : ∀ m, 1 ≤ m → m ≤ p.1 0 0 → p.1 3 m = 1 → p.1 4 m ≤ τ ∧ τ ≤ p.1 4 m + 1000) (hr : ∀ r, r < 4 → p.1 5 r = 1 → p.1 9 r ≤ τ ∧ τ ≤ p.1 9 r + 1000) : wq (DX17_moment fu M L) (fun z => ∃ e', TfM z.1 z.2 τ (rcO τ 4 (goA τ (p.1 0 0) p)).1 (rcO τ 4 (goA τ (p.1 0 0) p)).2 o e' ∧ eR 104 e p.2 e' (rcO τ 4 (goA τ (p.1 0 0) p)).2 ∧ mFr M z.1 ∧ lFr L z.2) := by
  have hK := hv.1.1
  have vG := gA_V (t := τ) (p.1 0 0) p (Nat.le_refl _) hv
  generalize hQ : (fun z : mwM × mwL => ∃ e', TfM z.1 z.2 τ (rcO τ 4 (goA τ (p.1 0 0) p)).1 (rcO τ 4 (goA τ (p.1 0 0) p)).2 o e' ∧ eR 104 e p.2 e' (rcO τ 4 (goA τ (p.1 0 0) p)).2 ∧ mFr M z.1 ∧ lFr L z.2) = Q
  have rcv : ∀ (M1 : mwM) (L1 : mwL) (e1 : Nat → Nat), TfM M1 L1 τ (goA τ (p.1 0 0) p).1 (goA τ (p.1 0 0) p).2 o e1 → eR (p.1 0 0) e p.2 e1 (goA τ (p.1 0 0) p).2 → mFr M M1 → lFr L L1 → wq (fX17_moment_h53 fu fu (1, M1, L1)) Q := by
    intro M1 L1 e1 T1 E1 f1 f2
    generalize hg : goA τ (p.1 0 0) p = q at *
    have q9 : ∀ j, q.1 9 j = p.1 9 j := fun j => by rw [← hg]; exact gA_r (by omega) (by omega) (by omega) _ _
    have q5 : ∀ j, q.1 5 j = p.1 5 j := fun j => by rw [← hg]; exact gA_r (by omega) (by omega) (by omega) _ _
    refine wq_for (body := fun r z => fX17_moment_i53 fu r z.1 z.2.1 z.2.2) (fun i (w : mwM × mwL × (Nat → Nat)) => (sI (i + 1), w.1, w.2.1)) (fun i w => TfM w.1 w.2.1 τ (rcO τ i q).1 (rcO τ i q).2 o w.2.2 ∧ eR (p.1 0 0 + i) e p.2 w.2.2 (rcO τ i q).2 ∧ mFr M w.1 ∧ lFr L w.2.1) 4 ?_ ?_ 4 0 (M1, L1, e1) fu (by omega) (by omega) ⟨T1, E1, f1, f2⟩
    · rintro i ⟨M2, L2, e2⟩ r hi ⟨T2, E2, g1, g2⟩ ih
      dsimp only at T2 E2 g1 g2
      show wq (fX17_moment_i53 fu r (sI (i + 1)) M2 L2) _
      have vi := rcO_V (t := τ) i q vG
      have e0 : rcO τ (i + 1) q = rcS τ ((i + 1) % 4) (rcO τ i q) := rfl
      rw [e0] at ih
      have key := fun X Y Z => ih (X, Y, Z)
      dsimp only at key
      have hr4 : (i + 1) % 4 < 4 := Nat.mod_lt _ (by omega)
      have i9 : ∀ j, (rcO τ i q).1 9 j = p.1 9 j := fun j => by rw [rcO_r (by omega)]; exact q9 j
      have i5 : ∀ j, (rcO τ i q).1 5 j = 1 → p.1 5 j = 1 := fun j z => by rw [← q5]; exact rcO_5 z
      generalize rcO τ i q = u at *
      unfold fX17_moment_i53 fX17_moment_b104 fX17_moment_b138
      rw [if_neg (by rw [sI_lle (by decide) (by omega)]; omega), show sI (i + 1) - sI (i + 1) / 4 * 4 = sI ((i + 1) % 4) from sI_mod (b := 4) (by omega) (by omega)]
      simp only [mlet]
      generalize (i + 1) % 4 = x at *
      rw [mck_s hr4 (by omega), sI_nn (by omega), mck_s hr4 (by omega), mck_s hr4 (by omega), mck_s hr4 (by omega), mck_s hr4 (by omega), sI_1]
      have tr := T2.2.2.2.2.1 x hr4
      have v3 := (vi.2.2.1 x hr4).1
      rw [tr.1]
      have skip : ¬ (u.1 5 x = 1 ∧ 1000 ≤ τ - u.1 9 x) → wq (r (sI (i + 1 + 1), M2, L2)) Q := by
        intro hno
        have es : rcS τ x u = u := by unfold rcS; rw [if_neg hno]
        rw [es] at key
        refine key M2 L2 e2 ⟨T2, ?_, g1, g2⟩
        have := eR_t E2 (eR_0 (k := 1) (e := e2) (b := u.2) (b' := u.2) rfl)
        rw [Nat.add_assoc] at this
        exact this
      by_cases a1 : u.1 5 x = 1
      · have t := tr.2 a1
        have hrx := hr x hr4 (i5 x a1)
        rw [if_pos (show sI (u.1 5 x) = 1 by rw [a1]; rfl), t.2.2.2.2.2.2.1, if_pos (show (0 : Int32) = 0 from rfl), if_pos (show sI (u.1 5 x) = 1 by rw [a1]; rfl), t.2.2.2.2.2.1, T2.1.2.1, i9, sL_sub hrx.1]
        by_cases a2 : τ - p.1 9 x = 1000
        · rw [if_pos ((lg_cmp_eq _ _).mpr (by rw [a2]; rfl))]
          unfold DX17_endReceiver
          rw [mck_s hr4 (by omega), sI_nn (by omega)]
          simp only [mlet]
          rw [mck_in (show vp_in 2 8 from sI_in (k := 2) (by omega) (by omega)), mck_in (show vp_in 2 8 from sI_in (k := 2) (by omega) (by omega)), mb2_s]
          have es : rcS τ x u = (mset u.1 5 x 3, mset u.2 2 0 true) := by unfold rcS; rw [if_pos ⟨a1, by rw [i9]; omega⟩]
          rw [es] at key
          refine key _ L2 (eU e2 2) ⟨?_, ?_, fun a y w => by rw [mset_n (by omega), mset_n (by omega)]; exact g1 a y w, g2⟩
          · dsimp only
            refine TfM_ch T2 (fun a y w => by rw [mset_n (by omega), mset_n (by omega)]) T2.1.2.1 (fun i j w v => mset_n (by omega)) (fun y w v => ?_) (fun y w v => ?_) (fun y w => ?_) (fun f w => ?_) (fun k w => ?_)
            · have t := (T2.2.2.1 y w v).2
              unfold TmS at t ⊢
              simp (disch := omega) only [mset_n]
              exact t
            · have t := T2.2.2.2.1 y w v
              simp (disch := omega) only [mset_n]
              exact t
            · have t := T2.2.2.2.2.1 y w
              unfold TmR at t ⊢
              by_cases hq : y = x
              · subst hq
                rw [mset_s, mset_n (show ¬ (882 = 901 ∧ y = (2 : Int32).toNatClampNeg) by omega), mset_s]
                exact ⟨rfl, fun z => by omega⟩
              · rw [mset_j hq]
                simp (disch := omega) only [mset_n]
                exact t
            · have t := (T2.2.2.2.2.2.1 f w).2.2.2.2.2.1
              simp (disch := omega) only [mset_n]
              exact t
            · by_cases hq : k = 2
              · subst hq
                show mset (mset M2 882 x 3) 901 2 _ 901 2 = sI (eU e2 2 2)
                rw [mset_s, show mset M2 882 x 3 901 (2 : Int32).toNatClampNeg = M2 901 2 from mset_n (by omega), T2.2.2.2.2.2.2 2 (by omega), sI_1]
                rfl
              · show mset (mset M2 882 x 3) 901 2 _ 901 k = sI (eU e2 2 k)
                rw [mset_j hq, mset_n (by omega), T2.2.2.2.2.2.2 k w]
                unfold eU
                rw [if_neg hq]
          · have := eR_t E2 (eR_1 (k := 2) (e := e2) (b := u.2) (b' := mset u.2 2 0 true) (by omega) mset_s)
            rw [Nat.add_assoc] at this
            exact this
        · rw [if_neg (show ¬ lg_cmp (sL (τ - p.1 9 x)) 1000 = 0 from fun z => a2 ((sL_eq (a := τ - p.1 9 x) (b := 1000) (by omega) (by omega)).mp ((lg_cmp_eq _ _).mp z)))]
          exact skip (fun z => by rw [i9] at z; omega)
      · rw [if_neg (show ¬ sI (u.1 5 x) = 1 by rw [sI_eql (by omega) (by decide)]; exact a1), if_neg (show ¬ sI (u.1 5 x) = 1 by rw [sI_eql (by omega) (by decide)]; exact a1)]
        exact skip (fun z => a1 z.1)
    · rintro ⟨M2, L2, e2⟩ r ⟨T2, E2, g1, g2⟩
      dsimp only at T2 E2 g1 g2
      show wq (fX17_moment_i53 fu r (sI (4 + 1)) M2 L2) _
      unfold fX17_moment_i53
      rw [if_pos (by decide), ← hQ]
      refine wq_some ⟨e2, T2, ?_, g1, g2⟩
      obtain ⟨x1, x2, x3, x4⟩ := E2
      exact ⟨x1, x2, by omega, x4⟩
  unfold DX17_moment
  refine wq_for (body := fun r z => fX17_moment_i2 fu r z.1 z.2.1 z.2.2) (fun i (w : mwM × mwL × (Nat → Nat)) => (sI (i + 1), w.1, w.2.1)) (fun i w => TfM w.1 w.2.1 τ (goA τ i p).1 (goA τ i p).2 o w.2.2 ∧ eR i e p.2 w.2.2 (goA τ i p).2 ∧ mFr M w.1 ∧ lFr L w.2.1) (p.1 0 0) ?_ ?_ (p.1 0 0) 0 (M, L, e) fu (by omega) (by omega) ⟨h, eR_0 rfl, fun _ _ _ => rfl, fun _ _ _ => rfl⟩
  · rintro i ⟨M2, L2, e2⟩ r hi ⟨T2, E2, g1, g2⟩ ih
    dsimp only at T2 E2 g1 g2
    show wq (fX17_moment_i2 fu r (sI (i + 1)) M2 L2) _
    have vi := gA_V (t := τ) i p (by omega) hv
    have ki : (goA τ i p).1 0 0 = p.1 0 0 := gA_r (by omega) (by omega) (by omega) _ _
    have e0 : goA τ (i + 1) p = goP (i + 1) τ (goA τ i p) := rfl
    rw [e0] at ih
    have key := fun X Y Z => ih (X, Y, Z)
    dsimp only at key
    have i3 : (goA τ i p).1 3 (i + 1) = p.1 3 (i + 1) := gA_3 i (by omega)
    have i4 : (goA τ i p).1 4 (i + 1) = p.1 4 (i + 1) := gA_r (by omega) (by omega) (by omega) _ _
    unfold fX17_moment_i2
    rw [T2.1.2.2.1, ki, if_neg (by rw [sI_lt (by omega) (by omega)]; omega)]
    refine m_mom1 (by omega) vi T2 (by omega) (by omega) hτ (fun z => ?_) (fun M' L' e' t1 t2 t3 t4 => ?_)
    · rw [i3] at z
      rw [i4]
      exact ht (i + 1) (by omega) (by omega) z
    · exact key M' L' e' ⟨t1, eR_t E2 t2, fun a y w => (t3 a y w).trans (g1 a y w), fun a y w => (t4 a y w).trans (g2 a y w)⟩
  · rintro ⟨M2, L2, e2⟩ r ⟨T2, E2, g1, g2⟩
    dsimp only at T2 E2 g1 g2
    show wq (fX17_moment_i2 fu r (sI (p.1 0 0 + 1)) M2 L2) _
    have ki : (goA τ (p.1 0 0) p).1 0 0 = p.1 0 0 := gA_r (by omega) (by omega) (by omega) _ _
    unfold fX17_moment_i2
    rw [T2.1.2.2.1, ki, if_pos (by rw [sI_lt (by omega) (by omega)]; omega)]
    exact rcv M2 L2 e2 T2 E2 g1 g2
/-! the reference: the clock goes on -/
theorem TfM_fr {M M' : mwM} {L L' : mwL} {τ : Nat} {n : Nat → Nat → Nat} {b : Nat → Nat → Bool} {o : Nat → Nat → Nat} {e : Nat → Nat} (h : TfM M L τ n b o e) (hA : ∀ a y, 869 ≤ a → a ≤ 901 → a ≠ 900 → ¬ (a = 869 ∧ (y = 0 ∨ y = 40)) → M' a y = M a y) (hL : ∀ a y, 869 ≤ a → a ≤ 901 → L' a y = L a y) : TfM M' L' τ n b o e := by
  obtain ⟨k1, k2, k3, k4, k5, k6, k7⟩ := h
  refine ⟨?_, ?_, ?_, ?_, ?_, ?_, ?_⟩
  · unfold TmG
    rw [hA 869 1 (by omega) (by omega) (by omega) (by omega), hA 869 3 (by omega) (by omega) (by omega) (by omega), hA 869 26 (by omega) (by omega) (by omega) (by omega), hA 869 35 (by omega) (by omega) (by omega) (by omega), hA 869 36 (by omega) (by omega) (by omega) (by omega), hA 869 37 (by omega) (by omega) (by omega) (by omega), hA 869 39 (by omega) (by omega) (by omega) (by omega), hL 869 2 (by omega) (by omega)]
    exact k1
  · intro j u
    rw [hA 870 _ (by omega) (by omega) (by omega) (by omega)]
    exact k2 j u
  · intro j u1 u2
    have t := k3 j u1 u2
    refine ⟨fun i u => ?_, ?_⟩
    · rw [hA 871 _ (by omega) (by omega) (by omega) (by omega)]
      exact t.1 i u
    · unfold TmS
      rw [hA 872 _ (by omega) (by omega) (by omega) (by omega), hA 873 _ (by omega) (by omega) (by omega) (by omega), hA 874 _ (by omega) (by omega) (by omega) (by omega), hA 875 _ (by omega) (by omega) (by omega) (by omega), hA 876 _ (by omega) (by omega) (by omega) (by omega), hA 878 _ (by omega) (by omega) (by omega) (by omega), hL 880 _ (by omega) (by omega), hL 881 _ (by omega) (by omega)]
      exact t.2
  · intro j u1 u2
    rw [hA 872 _ (by omega) (by omega) (by omega) (by omega), hA 873 _ (by omega) (by omega) (by omega) (by omega), hA 875 _ (by omega) (by omega) (by omega) (by omega)]
    exact k4 j u1 u2
  · intro r u
    have t := k5 r u
    unfold TmR
    rw [hA 882 _ (by omega) (by omega) (by omega) (by omega), hA 883 _ (by omega) (by omega) (by omega) (by omega), hA 884 _ (by omega) (by omega) (by omega) (by omega), hA 885 _ (by omega) (by omega) (by omega) (by omega), hA 886 _ (by omega) (by omega) (by omega) (by omega), hA 887 _ (by omega) (by omega) (by omega) (by omega), hA 890 _ (by omega) (by omega) (by omega) (by omega), hL 889 _ (by omega) (by omega)]
    refine ⟨t.1, fun z => ?_⟩
    have t2 := t.2 z
    refine ⟨t2.1, t2.2.1, t2.2.2.1, t2.2.2.2.1, t2.2.2.2.2.1, t2.2.2.2.2.2.1, t2.2.2.2.2.2.2.1, fun i u => ?_⟩
    rw [hA 891 _ (by omega) (by omega) (by omega) (by omega)]
    exact t2.2.2.2.2.2.2.2 i u
  · intro f u
    have t := k6 f u
    unfold TmF
    rw [hA 892 _ (by omega) (by omega) (by omega) (by omega), hA 893 _ (by omega) (by omega) (by omega) (by omega), hA 894 _ (by omega) (by omega) (by omega) (by omega), hA 895 _ (by omega) (by omega) (by omega) (by omega), hA 896 _ (by omega) (by omega) (by omega) (by omega), hA 898 _ (by omega) (by omega) (by omega) (by omega)]
    refine ⟨t.1, t.2.1, t.2.2.1, t.2.2.2.1, t.2.2.2.2.1, t.2.2.2.2.2.1, fun k u => ?_⟩
    rw [hA 899 _ (by omega) (by omega) (by omega) (by omega)]
    exact t.2.2.2.2.2.2 k u
  · intro k u
    rw [hA 901 _ (by omega) (by omega) (by omega) (by omega)]
    exact k7 k u
/-- the same state, but for what the class alone has; no message is being sent, or the time is the same -/
theorem TfM_E {M : mwM} {L L' : mwL} {τ τ' : Nat} {n n' : Nat → Nat → Nat} {b : Nat → Nat → Bool} {o : Nat → Nat → Nat} {e : Nat → Nat} (h : TfM M L τ n b o e) (h0 : ∀ i j, ¬ (i = 0 ∧ (j = 3 ∨ j = 4)) → n' i j = n i j) (hL : ∀ a y, a ≠ 869 → L' a y = L a y) (hτ : L' 869 2 = sL τ') (h2 : ∀ m, 1 ≤ m → m ≤ n 0 0 → n 3 m = 2 → τ' = τ) : TfM M L' τ' n' b o e := by
  refine TfM_ch h (fun _ _ _ => rfl) hτ (fun i j u v => h0 i j v) (fun m u v => ?_) h.2.2.2.1 (fun r u => ?_) (fun f u => (h.2.2.2.2.2.1 f u).2.2.2.2.2.1) h.2.2.2.2.2.2
  · have t := (h.2.2.1 m u v).2
    unfold TmS at t ⊢
    rw [h0 3 m (by omega), h0 4 m (by omega), hL 880 m (by omega), hL 881 m (by omega)]
    exact ⟨t.1, t.2.1, t.2.2.1, t.2.2.2.1, t.2.2.2.2.1, fun z => by rw [h2 m u v z]; exact t.2.2.2.2.2 z⟩
  · have t := h.2.2.2.2.1 r u
    unfold TmR at t ⊢
    rw [h0 5 r (by omega), h0 6 r (by omega), h0 7 r (by omega), h0 8 r (by omega), h0 9 r (by omega), h0 2 _ (by omega), hL 889 r (by omega)]
    exact t
def TfT (n : Nat → Nat → Nat) (τ : Nat) : Prop := (∀ m, 1 ≤ m → m ≤ n 0 0 → n 3 m = 1 → n 4 m ≤ τ ∧ τ < n 4 m + 1000) ∧ ∀ r, r < 4 → n 5 r = 1 → n 9 r ≤ τ ∧ τ < n 9 r + 1000
theorem m_sum17 {fu : Nat} {M : mwM} {L : mwL} (hfu : 10 ≤ fu) : wq (DX17_sum fu M L) (fun z => z.2.1 = M ∧ z.2.2 = L) := by
  unfold DX17_sum
  refine wq_for (body := fun r z => fX17_sum_i4 fu r z.1 z.2.1 z.2.2.1 z.2.2.2) (fun i (v : Int32) => (v, sI (i + 1), M, L)) (fun _ _ => True) 7 ?_ ?_ 7 0 0 fu (by omega) (by omega) trivial
  · intro i v r hi _ ih
    show wq (fX17_sum_i4 fu r v (sI (i + 1)) M L) _
    unfold fX17_sum_i4
    rw [if_neg (by rw [sI_lle (by decide) (by omega)]; omega), mck_s (by omega) (by omega)]
    simp only [mlet]
    rw [sI_1]
    exact ih _ trivial
  · intro v r _
    show wq (fX17_sum_i4 fu r v (sI (7 + 1)) M L) _
    unfold fX17_sum_i4
    rw [if_pos (by decide)]
    exact wq_some ⟨rfl, rfl⟩
theorem bA_3c : ∀ k p m, 1 ≤ m → m ≤ k → (bgA k p).1 3 m = 1 → (p.1 3 m = 1 ∧ (bgA k p).1 4 m = p.1 4 m) ∨ (bgA k p).1 4 m = p.1 0 3 := by
  intro k
  induction k with
  | zero => intro p m h1 h2; omega
  | succ k ih =>
    intro p m h1 h2
    have e : bgA (k + 1) p = if (bgA k p).1 3 (k + 1) = 0 then (bgN (bgA k p).1 (k + 1), mkB (bgA k p).1 (bgA k p).2) else bgA k p := rfl
    have hi : ∀ j, k < j → ∀ i, i = 3 ∨ i = 4 → (bgA k p).1 i j = p.1 i j := by
      intro j hj i hi
      clear e ih h1 h2
      induction k with
      | zero => rfl
      | succ k ih2 =>
        have e2 : bgA (k + 1) p = if (bgA k p).1 3 (k + 1) = 0 then (bgN (bgA k p).1 (k + 1), mkB (bgA k p).1 (bgA k p).2) else bgA k p := rfl
        rw [e2]
        split
        · dsimp only
          unfold bgN
          rw [mset_n (by omega), mset_n (by omega), mk_r (by omega) (by omega)]
          exact ih2 (by omega)
        · exact ih2 (by omega)
    have h03 : (bgA k p).1 0 3 = p.1 0 3 := bA_r (by omega) (by omega) (by omega) (by omega) _ _
    rw [e]
    split
    · dsimp only
      by_cases hq : m = k + 1
      · subst hq
        intro _
        right
        unfold bgN
        rw [mset_s]; exact h03
      · unfold bgN
        rw [mset_n (by omega), mset_n (by omega), mset_n (by omega), mset_j hq, mk_r (by omega) (by omega), mk_r (by omega) (by omega)]
        exact ih p m h1 (by omega)
    · by_cases hq : m = k + 1
      · subst hq
        intro z
        left
        rw [hi _ (by omega) 3 (by omega)] at z
        exact ⟨z, hi _ (by omega) 4 (by omega)⟩
      · exact ih p m h1 (by omega)
theorem T_bg {p : PB} (h : TfT p.1 (p.1 0 3)) : TfT (bgA (p.1 0 0) p).1 (p.1 0 3) := by
  refine ⟨fun m u1 u2 z => ?_, fun r u z => ?_⟩
  · rw [bA_r (by omega) (by omega) (by omega) (by omega)] at u2
    rcases bA_3c _ p m u1 u2 z with ⟨a1, a2⟩ | a
    · rw [a2]; exact h.1 m u1 u2 a1
    · rw [a]; omega
  · rw [bA_r (by omega) (by omega) (by omega) (by omega)] at z ⊢
    exact h.2 r u z
theorem go_1 {m t : Nat} {p : PB} {j : Nat} (h : (goP m t p).1 3 j = 1) : p.1 3 j = 1 ∧ (j = m → t - p.1 4 m < 1000) := by
  unfold goP at h
  split at h
  · dsimp only at h
    by_cases hq : j = m
    · rw [hq, mset_s] at h; omega
    · rw [mset_j hq, co_r (by omega) (by omega)] at h
      exact ⟨h, fun z => absurd z hq⟩
  · split at h
    · dsimp only at h
      by_cases hq : j = m
      · rw [hq, mset_s] at h; omega
      · rw [mset_j hq] at h
        exact ⟨h, fun z => absurd z hq⟩
    · rename_i h1 h2
      refine ⟨h, fun z => ?_⟩
      subst z
      by_cases hc : 1000 ≤ t - p.1 4 j
      · exact absurd ⟨h, hc⟩ h2
      · omega
theorem gA_1 {t : Nat} : ∀ k (p : PB) (j : Nat), (goA t k p).1 3 j = 1 → p.1 3 j = 1 ∧ (1 ≤ j → j ≤ k → t - p.1 4 j < 1000) := by
  intro k
  induction k with
  | zero => intro p j h; exact ⟨h, fun _ _ => by omega⟩
  | succ k ih =>
    intro p j h
    have h' : (goP (k + 1) t (goA t k p)).1 3 j = 1 := h
    have a := go_1 h'
    have b := ih p j a.1
    refine ⟨b.1, fun u v => ?_⟩
    by_cases hq : j = k + 1
    · have := a.2 hq
      rw [← hq, gA_r (by omega) (by omega) (by omega)] at this
      exact this
    · exact b.2 u (by omega)
theorem rA_5 {t : Nat} : ∀ k (p : PB) (r : Nat), (rcA t k p).1 5 r = 1 → p.1 5 r = 1 ∧ (r < k → t - p.1 9 r < 1000) := by
  intro k
  induction k with
  | zero => intro p r h; exact ⟨h, fun _ => by omega⟩
  | succ k ih =>
    intro p r h
    have h' : (rcS t k (rcA t k p)).1 5 r = 1 := h
    unfold rcS at h'
    split at h'
    · dsimp only at h'
      by_cases hq : r = k
      · rw [hq, mset_s] at h'; omega
      · rw [mset_j hq] at h'
        have := ih p r h'
        exact ⟨this.1, fun u => this.2 (by omega)⟩
    · rename_i hn
      have := ih p r h'
      refine ⟨this.1, fun u => ?_⟩
      by_cases hq : r = k
      · subst hq
        rw [rA_r (i := 9) (by omega)] at hn
        by_cases hc : 1000 ≤ t - p.1 9 r
        · exact absurd ⟨h', hc⟩ hn
        · omega
      · exact this.2 (by omega)
theorem tk_r {t i j : Nat} {p : PB} (h0 : ¬ (i = 0 ∧ (j = 3 ∨ j = 4))) (h5 : i ≠ 5) : (tkP t p).1 i j = (goA t (p.1 0 0) (bgA (p.1 0 0) p)).1 i j := by
  unfold tkP clP
  dsimp only
  rw [mset_n (by omega), rA_r h5]
  unfold seP
  dsimp only
  rw [mset_n (by omega)]
theorem tk_5 {t r : Nat} {p : PB} : (tkP t p).1 5 r = (rcA t 4 (goA t (p.1 0 0) (bgA (p.1 0 0) p))).1 5 r ∧ (tkP t p).2 = (rcA t 4 (goA t (p.1 0 0) (bgA (p.1 0 0) p))).2 := by
  have key : ∀ k (q q' : PB), (∀ i j, i ≠ 0 → q.1 i j = q'.1 i j) → q.2 = q'.2 → (∀ i j, i ≠ 0 → (rcA t k q).1 i j = (rcA t k q').1 i j) ∧ (rcA t k q).2 = (rcA t k q').2 := by
    intro k
    induction k with
    | zero => intro q q' h1 h2; exact ⟨h1, h2⟩
    | succ k ih =>
      intro q q' h1 h2
      obtain ⟨i1, i2⟩ := ih q q' h1 h2
      show (∀ i j, i ≠ 0 → (rcS t k (rcA t k q)).1 i j = (rcS t k (rcA t k q')).1 i j) ∧ (rcS t k (rcA t k q)).2 = (rcS t k (rcA t k q')).2
      generalize rcA t k q = x at *
      generalize rcA t k q' = x' at *
      unfold rcS
      rw [i1 5 k (by omega), i1 9 k (by omega), i2]
      split
      · refine ⟨fun i j u => ?_, rfl⟩
        dsimp only
        by_cases hc : i = 5 ∧ j = k
        · rw [hc.1, hc.2, mset_s, mset_s]
        · rw [mset_n hc, mset_n hc]; exact i1 i j u
      · exact ⟨i1, i2⟩
  have hk := key 4 (seP (goA t (p.1 0 0) (bgA (p.1 0 0) p))) (goA t (p.1 0 0) (bgA (p.1 0 0) p)) (fun i j u => by unfold seP; dsimp only; rw [mset_n (by omega)]) rfl
  unfold tkP clP
  dsimp only
  rw [mset_n (by omega)]
  exact ⟨hk.1 5 r (by omega), hk.2⟩
theorem T_tk {t : Nat} {p : PB} (ht : t = p.1 0 3 + 1) (h : TfT p.1 (p.1 0 3)) : TfT (tkP t p).1 t := by
  have hb := T_bg h
  refine ⟨fun m u1 u2 z => ?_, fun r u z => ?_⟩
  · rw [tk_r (by omega) (by omega), gA_r (by omega) (by omega) (by omega), bA_r (by omega) (by omega) (by omega) (by omega)] at u2
    rw [tk_r (by omega) (by omega)] at z
    rw [tk_r (by omega) (by omega), gA_r (by omega) (by omega) (by omega)]
    have a := gA_1 _ _ m z
    have a2 := a.2 u1 u2
    have a3 := hb.1 m u1 (by rw [bA_r (by omega) (by omega) (by omega) (by omega)]; exact u2) a.1
    omega
  · rw [tk_5.1] at z
    have a := rA_5 4 _ r z
    have a2 := a.2 u
    have a1 := a.1
    rw [gA_r (by omega) (by omega) (by omega)] at a1 a2
    have a3 := hb.2 r u a1
    rw [tk_r (by omega) (by omega), gA_r (by omega) (by omega) (by omega)]
    omega
theorem m_tick17 {fu t : Nat} {M : mwM} {L : mwL} {p : PB} {o : Nat → Nat → Nat} {e : Nat → Nat} (hfu : 200 ≤ fu) (hv : TfV p.1 p.2) (hT : TfT p.1 (p.1 0 3)) (h : TfM M L (p.1 0 3) p.1 p.2 o e) (ht : t = p.1 0 3 + 1) (ht2 : t ≤ 20000) : wq (DX17_tick fu (sL t) M L) (fun z => ∃ e', TfM z.2.1 z.2.2 t (tkP t p).1 (tkP t p).2 o e' ∧ eR 208 e p.2 e' (tkP t p).2 ∧ mFr M z.2.1 ∧ lFr L z.2.2) := by
  have hK := hv.1.1
  have vB := bA_V (p.1 0 0) p (Nat.le_refl _) hv
  have kB : (bgA (p.1 0 0) p).1 0 0 = p.1 0 0 := bA_r (by omega) (by omega) (by omega) (by omega) _ _
  have tB := T_bg hT
  generalize hQ : (fun z : Int32 × mwM × mwL => ∃ e', TfM z.2.1 z.2.2 t (tkP t p).1 (tkP t p).2 o e' ∧ eR 208 e p.2 e' (tkP t p).2 ∧ mFr M z.2.1 ∧ lFr L z.2.2) = Q
  -- all have begun
  have moments : ∀ (v : Int32) (M1 : mwM) (L1 : mwL), TfM M1 L1 (p.1 0 3) (bgA (p.1 0 0) p).1 (bgA (p.1 0 0) p).2 o e → mFr M M1 → lFr L L1 → wq (mb2 (DX17_moment fu M1 L1) (fun M2 L3 => fX17_tick_h73 fu (sL t) fu (v, M2, L3))) Q := by
    intro v M1 L1 T1 f1 f2
    have b20 : (bgA (p.1 0 0) p).2 2 0 = p.2 2 0 := by
      have : ∀ k, (bgA k p).2 2 0 = p.2 2 0 := by
        intro k
        induction k with
        | zero => rfl
        | succ k ih =>
          have e2 : bgA (k + 1) p = if (bgA k p).1 3 (k + 1) = 0 then (bgN (bgA k p).1 (k + 1), mkB (bgA k p).1 (bgA k p).2) else bgA k p := rfl
          rw [e2]
          split
          · exact (mkB_r (n := (bgA k p).1) (by omega)).trans ih
          · exact ih
      exact this _
    have etk1 : ∀ i j, ¬ (i = 0 ∧ (j = 3 ∨ j = 4)) → (tkP t p).1 i j = (rcA t 4 (goA t (p.1 0 0) (bgA (p.1 0 0) p))).1 i j := by
      intro i j u
      by_cases h5 : i = 5
      · rw [h5]; exact tk_5.1
      · rw [tk_r u h5, rA_r h5]
    have etk2 : (tkP t p).2 = (rcA t 4 (goA t (p.1 0 0) (bgA (p.1 0 0) p))).2 := (@tk_5 t 0 p).2
    generalize hq : bgA (p.1 0 0) p = q at *
    have m1 := m_moment17 (fu := fu) (by omega) vB T1 (by omega) (fun m u1 u2 z => by have := tB.1 m u1 u2 z; omega) (fun r u z => by have := tB.2 r u z; omega)
    have rno : rcO (p.1 0 3) 4 (goA (p.1 0 3) (q.1 0 0) q) = goA (p.1 0 3) (q.1 0 0) q := by
      refine rcO_no (fun r u z => ?_) 4
      rw [gA_r (by omega) (by omega) (by omega)] at z ⊢
      have := tB.2 r u z
      omega
    rw [rno] at m1
    refine wq_b2 m1 ?_
    rintro M2 L2 ⟨e2, T2, E2, g1, g2⟩
    dsimp only at T2 E2 g1 g2
    have vG := gA_V (t := p.1 0 3) (q.1 0 0) q (Nat.le_refl _) vB
    have two : goA t (q.1 0 0) (goA (p.1 0 3) (q.1 0 0) q) = goA t (q.1 0 0) q := go_two (fun m u1 u2 z => by have := tB.1 m u1 u2 z; omega)
    have n2 : ∀ m, 1 ≤ m → m ≤ q.1 0 0 → (goA (p.1 0 3) (q.1 0 0) q).1 3 m ≠ 2 := fun m u1 u2 => gA_2 u1 u2
    have g4 : ∀ j, (goA (p.1 0 3) (q.1 0 0) q).1 4 j = q.1 4 j := fun j => gA_r (by omega) (by omega) (by omega) _ _
    have g5 : ∀ j, (goA (p.1 0 3) (q.1 0 0) q).1 5 j = q.1 5 j := fun j => gA_r (by omega) (by omega) (by omega) _ _
    have g9 : ∀ j, (goA (p.1 0 3) (q.1 0 0) q).1 9 j = q.1 9 j := fun j => gA_r (by omega) (by omega) (by omega) _ _
    have g0 : (goA (p.1 0 3) (q.1 0 0) q).1 0 0 = q.1 0 0 := gA_r (by omega) (by omega) (by omega) _ _
    have g3 : ∀ j, (goA (p.1 0 3) (q.1 0 0) q).1 3 j = 1 → q.1 3 j = 1 := fun j z => (gA_1 _ _ j z).1
    generalize hg : goA (p.1 0 3) (q.1 0 0) q = q2 at *
    obtain ⟨ff, hff⟩ : ∃ ff, fu = ff + 2 := ⟨fu - 2, by omega⟩
    have e0 : fX17_tick_h73 fu (sL t) fu (v, M2, L2) = fX17_tick_i73 fu (sL t) (fX17_tick_h73 fu (sL t) (ff + 1)) v M2 L2 := by
      show mloop (fun r73 s => fX17_tick_i73 fu (sL t) r73 s.1 s.2.1 s.2.2) fu (v, M2, L2) = _
      have : mloop (fun r73 s => fX17_tick_i73 fu (sL t) r73 s.1 s.2.1 s.2.2) fu (v, M2, L2) = mloop (fun r73 s => fX17_tick_i73 fu (sL t) r73 s.1 s.2.1 s.2.2) (ff + 1 + 1) (v, M2, L2) := by
        congr 1
      rw [this, mloop_S]
      rfl
    rw [e0]
    unfold fX17_tick_i73
    rw [T2.1.2.1, if_neg (by rw [lg_cmp_ge, sL_le (by omega) (by omega)]; omega), sL_1]
    simp only [mlet]
    have T3 : TfM M2 (mset L2 869 2 (sL (p.1 0 3 + 1))) t q2.1 q2.2 o e2 := by
      refine TfM_E T2 (fun _ _ _ => rfl) (fun a y u => mset_n (by omega)) (by rw [mset_s, ht]) (fun m u1 u2 z => ?_)
      exact absurd z (n2 m u1 (by rw [← g0]; exact u2))
    have m2 := m_moment17 (fu := fu) (by omega) vG T3 (by omega) (fun m u1 u2 z => by
      rw [g4]
      have := tB.1 m u1 (by rw [← g0]; exact u2) (g3 m z)
      omega) (fun r u z => by
      rw [g9]
      have := tB.2 r u (by rw [← g5]; exact z)
      omega)
    rw [rcO_4, g0, two, kB] at m2
    refine wq_b2 m2 ?_
    rintro M4 L4 ⟨e4, T4, E4, k1, k2⟩
    dsimp only at T4 E4 k1 k2
    show wq (mloop (fun r73 s => fX17_tick_i73 fu (sL t) r73 s.1 s.2.1 s.2.2) (ff + 1) (v, M4, L4)) Q
    rw [mloop_S]
    show wq (fX17_tick_i73 fu (sL t) _ v M4 L4) Q
    unfold fX17_tick_i73
    rw [T4.1.2.1, if_pos (by rw [lg_cmp_ge, sL_le (by omega) (by omega)]; omega)]
    refine wq_b3 (m_sum17 (by omega)) ?_
    rintro rr M5 L5 ⟨s1, s2⟩
    dsimp only at s1 s2
    subst s1
    subst s2
    rw [← hQ]
    refine wq_some ⟨e4, ?_, ?_, fun a y u => ?_, fun a y u => ?_⟩
    all_goals (try dsimp only)
    · rw [etk2]
      exact TfM_E T4 (fun i j u => etk1 i j u) (fun _ _ _ => rfl) T4.1.2.1 (fun _ _ _ _ => rfl)
    · rw [etk2]
      have := eR_t E2 E4
      obtain ⟨x1, x2, x3, x4⟩ := this
      refine ⟨x1, x2, x3, ?_⟩
      rw [x4, b20]
    · rw [k1 a y u, g1 a y u, f1 a y u]
    · rw [k2 a y u, mset_n (by omega), g2 a y u, f2 a y u]
  unfold DX17_tick
  simp only [mlet]
  rw [h.1.2.1, if_neg (by rw [lg_cmp_lt, sL_lt (by omega) (by omega)]; omega), sL_sub (by omega), if_pos (by rw [lg_cmp_le]; show sL (t - p.1 0 3) ≤ sL 5000; rw [sL_le (by omega) (by omega)]; omega)]
  refine wq_b3 (m_sum17 (by omega)) ?_
  rintro v M0 L0 ⟨s1, s2⟩
  dsimp only at s1 s2
  subst s1
  subst s2
  have T0 : TfM (mset M 869 0 0) L0 (p.1 0 3) p.1 p.2 o e := TfM_fr h (fun a y _ _ _ u => mset_n (by omega)) (fun _ _ _ _ => rfl)
  refine wq_for (body := fun r z => fX17_tick_i38 fu (sL t) r z.1 z.2.1 z.2.2.1 z.2.2.2) (fun i (w : mwM × mwL) => (v, sI (i + 1), w.1, w.2)) (fun i w => TfM w.1 w.2 (p.1 0 3) (bgA i p).1 (bgA i p).2 o e ∧ mFr M w.1 ∧ lFr L0 w.2) (p.1 0 0) ?_ ?_ (p.1 0 0) 0 (mset M 869 0 0, L0) fu (by omega) (by omega) ⟨T0, fun a y u => mset_n (by omega), fun _ _ _ => rfl⟩
  · rintro i ⟨M2, L2⟩ r hi ⟨T2, g1, g2⟩ ih
    dsimp only at T2 g1 g2
    show wq (fX17_tick_i38 fu (sL t) r v (sI (i + 1)) M2 L2) _
    have vi := bA_V i p (by omega) hv
    have ki : (bgA i p).1 0 0 = p.1 0 0 := bA_r (by omega) (by omega) (by omega) (by omega) _ _
    have ci : (bgA i p).1 0 3 = p.1 0 3 := bA_r (by omega) (by omega) (by omega) (by omega) _ _
    have e0 : bgA (i + 1) p = if (bgA i p).1 3 (i + 1) = 0 then (bgN (bgA i p).1 (i + 1), mkB (bgA i p).1 (bgA i p).2) else bgA i p := rfl
    rw [e0] at ih
    have key := fun X Y => ih (X, Y)
    dsimp only at key
    generalize bgA i p = u at *
    have t2 := (T2.2.2.1 (i + 1) (by omega) (by omega)).2.1
    unfold fX17_tick_i38 fX17_tick_b63
    rw [T2.1.2.2.1, ki, if_neg (by rw [sI_lt (by omega) (by omega)]; omega), mck_s (by omega) (by omega), sI_nn (by omega), t2]
    simp only [mlet]
    by_cases h0 : u.1 3 (i + 1) = 0
    · rw [if_pos (by rw [decide_eq_false (by omega)]; rfl)]
      rw [if_pos h0] at key
      dsimp only at key
      have T2' : TfM M2 L2 (u.1 0 3) u.1 u.2 o e := by rw [ci]; exact T2
      refine wq_b2 (m_start17 (by omega) vi T2' (by omega) (by omega) h0) ?_
      rintro M3 L3 ⟨y1, y2, y3⟩
      dsimp only at y1 y2 y3
      rw [ci] at y1
      rw [sI_1]
      exact key M3 L3 ⟨y1, fun a y w => by rw [y2 a y (by omega)]; exact g1 a y w, fun a y w => by rw [y3 a y (by omega)]; exact g2 a y w⟩
    · rw [if_neg (by rw [decide_eq_true h0]; decide)]
      rw [if_neg h0] at key
      rw [sI_1]
      exact key M2 L2 ⟨T2, g1, g2⟩
  · rintro ⟨M2, L2⟩ r ⟨T2, g1, g2⟩
    dsimp only at T2 g1 g2
    show wq (fX17_tick_i38 fu (sL t) r v (sI (p.1 0 0 + 1)) M2 L2) _
    unfold fX17_tick_i38
    rw [T2.1.2.2.1, kB, if_pos (by rw [sI_lt (by omega) (by omega)]; omega)]
    exact moments v M2 L2 T2 g1 g2
/-! the reference: a frame is taken -/
theorem m_put17 {fu r f c d : Nat} {M : mwM} {L : mwL} {v : Nat → Nat} (hfu : 10 ≤ fu) (hr : r < 4) (hf : f < 1600) (hc : c ≤ 7) (hd : d ≤ 200) (h895 : M 895 (f + 1) = sI c) (h885 : M 885 r = sI d) (ho : ∀ k, k < c → M 899 (7 * (f + 1) + k) = sB (v k) ∧ v k < 256) : wq (DX17_put fu (sI r) (sI (f + 1)) M L) (fun z => z.2 = L ∧ z.1 885 r = sI (d + c) ∧ (∀ k, k < c → z.1 891 (10000 * r + d + k) = sB (v k)) ∧ (∀ a y, ¬ (a = 885 ∧ y = r) → ¬ (a = 891 ∧ 10000 * r + d ≤ y ∧ y < 10000 * r + d + c) → z.1 a y = M a y)) := by
  unfold DX17_put
  refine wq_for (body := fun r' z => fX17_put_i2 fu (sI r) (sI (f + 1)) r' z.1 z.2.1 z.2.2) (fun i (w : mwM) => (sI i, w, L)) (fun i w => w 885 r = sI (d + i) ∧ (∀ k, k < i → w 891 (10000 * r + d + k) = sB (v k)) ∧ (∀ a y, ¬ (a = 885 ∧ y = r) → ¬ (a = 891 ∧ 10000 * r + d ≤ y ∧ y < 10000 * r + d + c) → w a y = M a y)) c ?_ ?_ c 0 M fu (by omega) (by omega) ⟨h885, fun k u => by omega, fun _ _ _ _ => rfl⟩
  · intro i w r' hi ⟨q1, q2, q3⟩ ih
    show wq (fX17_put_i2 fu (sI r) (sI (f + 1)) r' (sI i) w L) _
    have hoi := ho i hi
    unfold fX17_put_i2
    rw [mck_s (by omega) (by omega), sI_nn (by omega), q3 895 _ (by omega) (by omega), h895, if_neg (by rw [sI_le (by omega) (by omega)]; omega), mck_s (by omega) (by omega), show (7 : Int32) * sI (f + 1) = sI (7 * (f + 1)) from sI_lml, sI_add, mck_s (by omega) (by omega), sI_nn (by omega), q1, show (10000 : Int32) * sI r = sI (10000 * r) from sI_lml, sI_add, mck_s (by omega) (by omega), sI_nn (by omega), sI_nn (by omega), q3 899 _ (by omega) (by omega), hoi.1, sB_n _ hoi.2]
    simp only [mlet]
    rw [mck_s (by omega) (by omega), mck_s (by omega) (by omega), mset_n (show ¬ (885 = 891 ∧ r = 10000 * r + (d + i)) by omega), q1, sI_1, sI_1]
    refine ih _ ⟨?_, fun k u => ?_, fun a y u1 u2 => ?_⟩
    · rw [mset_s, Nat.add_assoc]
    · rw [mset_n (by omega)]
      by_cases hq : k = i
      · rw [hq, show 10000 * r + d + i = 10000 * r + (d + i) by omega, mset_s]
      · rw [mset_n (by omega)]; exact q2 k (by omega)
    · rw [mset_n (by omega), mset_n (by omega)]
      exact q3 a y u1 u2
  · intro w r' ⟨q1, q2, q3⟩
    show wq (fX17_put_i2 fu (sI r) (sI (f + 1)) r' (sI c) w L) _
    unfold fX17_put_i2
    rw [mck_s (by omega) (by omega), sI_nn (by omega), q3 895 _ (by omega) (by omega), h895, if_pos (by rw [sI_le (by omega) (by omega)]; omega)]
    exact wq_some ⟨rfl, q1, q2, q3⟩
theorem m_whole17 {fu r len e0 : Nat} {M : mwM} {L : mwL} {v : Nat → Nat} (hfu : 200 ≤ fu) (hr : r < 4) (hl : len ≤ 100) (h884 : M 884 r = sI len) (h901 : M 901 0 = sI e0) (hb : ∀ k, k < len → M 891 (10000 * r + k) = sB (v k) ∧ v k < 256) : wq (DX17_whole fu (sI r) M L) (fun z => z.2 = L ∧ z.1 882 r = sI 2 ∧ z.1 901 0 = sI (e0 + 1) ∧ z.1 869 40 = sI len ∧ (∀ k, k < len → z.1 900 k = sB (v k)) ∧ (∀ a y, ¬ (a = 882 ∧ y = r) → ¬ (a = 901 ∧ y = 0) → ¬ (a = 869 ∧ y = 40) → a ≠ 900 → z.1 a y = M a y)) := by
  unfold DX17_whole
  rw [mck_s hr (by omega), sI_nn (by omega)]
  simp only [mlet]
  rw [mck_s hr (by omega)]
  have c0 : (0 : Int32).toNatClampNeg = 0 := by decide
  rw [c0, mset_n (show ¬ (901 = 882 ∧ 0 = r) by omega), h901, sI_1]
  have e884 : mset (mset M 882 r 2) 901 0 (sI (e0 + 1)) 884 r = sI len := by rw [mset_n (by omega), mset_n (by omega), h884]
  rw [e884]
  generalize hN : mset (mset (mset M 882 r 2) 901 0 (sI (e0 + 1))) 869 40 (sI len) = N
  have n40 : N 869 40 = sI len := by rw [← hN, mset_s]
  have nf : ∀ a y, ¬ (a = 882 ∧ y = r) → ¬ (a = 901 ∧ y = 0) → ¬ (a = 869 ∧ y = 40) → N a y = M a y := fun a y u1 u2 u3 => by rw [← hN, mset_n u3, mset_n u2, mset_n u1]
  refine wq_for (body := fun r' z => fX17_whole_i29 fu (sI r) r' z.1 z.2.1 z.2.2) (fun i (w : mwM) => (sI i, w, L)) (fun i w => (∀ k, k < i → w 900 k = sB (v k)) ∧ ∀ a y, a ≠ 900 → w a y = N a y) len ?_ ?_ len 0 N fu (by omega) (by omega) ⟨fun k u => by omega, fun _ _ _ => rfl⟩
  · intro i w r' hi ⟨q1, q2⟩ ih
    show wq (fX17_whole_i29 fu (sI r) r' (sI i) w L) _
    have hbi := hb i hi
    unfold fX17_whole_i29
    rw [q2 869 40 (by omega), n40, if_neg (by rw [sI_le (by omega) (by omega)]; omega), show (10000 : Int32) * sI r = sI (10000 * r) from sI_lml, sI_add, mck_s (by omega) (by omega), mck_s (by omega) (by omega), sI_nn (by omega), sI_nn (by omega), q2 891 _ (by omega), nf 891 _ (by omega) (by omega) (by omega), hbi.1, sB_n _ hbi.2]
    simp only [mlet]
    rw [sI_1]
    refine ih _ ⟨fun k u => ?_, fun a y u => by rw [mset_n (by omega)]; exact q2 a y u⟩
    by_cases hq : k = i
    · rw [hq, mset_s]
    · rw [mset_j hq]; exact q1 k (by omega)
  · intro w r' ⟨q1, q2⟩
    show wq (fX17_whole_i29 fu (sI r) r' (sI len) w L) _
    unfold fX17_whole_i29
    rw [q2 869 40 (by omega), n40, if_pos (by rw [sI_le (by omega) (by omega)]; omega)]
    refine wq_some ⟨rfl, ?_, ?_, ?_, q1, fun a y u1 u2 u3 u4 => ?_⟩
    all_goals (try dsimp only)
    · rw [q2 882 r (by omega), ← hN, mset_n (by omega), mset_n (by omega), mset_s]; rfl
    · rw [q2 901 0 (by omega), ← hN, mset_n (by omega), mset_s]
    · rw [q2 869 40 (by omega)]; exact n40
    · rw [q2 a y u4]; exact nf a y u1 u2 u3
theorem m_endReceiver17 {fu r why ew : Nat} {M : mwM} {L : mwL} (hr : r < 4) (hw : why < 8) (h : M 901 why = sI ew) : DX17_endReceiver fu (sI r) (sI why) M L = some (mset (mset M 882 r (sI 3)) 901 why (sI (ew + 1)), L) := by
  unfold DX17_endReceiver
  simp (disch := omega) only [mck_s, sI_nn, nn_s, sI_lt, sI_le, sI_eq, sI_ltl, sI_lel, sI_eql, sI_llt, sI_lle, sI_1, bI_0, bI_1, bI_n, mlet, mb3_s, mb2_s, mset_n, h]
  rfl
def eQ (k : Nat) (e : Nat → Nat) (b : Nat → Nat → Bool) (e' : Nat → Nat) (b' : Nat → Nat → Bool) : Prop := eS e ≤ eS e' ∧ eS e' ≤ eS e + k ∧ b' 2 0 = (b 2 0 || decide (eS e < eS e'))
theorem eQ_R {k : Nat} {e e' : Nat → Nat} {b b' : Nat → Nat → Bool} (h : eR k e b e' b') : eQ k e b e' b' := h.2
theorem eS_0 {e : Nat → Nat} : eS (eU e 0) = eS e := by
  unfold eS eU
  simp
/-- what a frame that is taken leaves behind -/
def rvM (z : mwM) (n o : Nat → Nat → Nat) (m : Nat) (e e' : Nat → Nat) : Prop := (m = 0 → e' 0 = e 0) ∧ (m ≠ 0 → e' 0 = e 0 + 1 ∧ z 869 40 = sI (n 2 m) ∧ ∀ j, j < n 2 m → z 900 j = sB (o m j))
abbrev rFr (M M' : mwM) : Prop := ∀ a y, ¬ (a = 869 ∨ (872 ≤ a ∧ a ≤ 879) ∨ (882 ≤ a ∧ a ≤ 901)) → M' a y = M a y
abbrev rFl (L L' : mwL) : Prop := ∀ a y, ¬ (a = 881 ∨ a = 889 ∨ a = 897) → L' a y = L a y
theorem m_takeFlow17 {fu f : Nat} {M : mwM} {L : mwL} {p : PB} {o : Nat → Nat → Nat} {e : Nat → Nat} (hv : TfV p.1 p.2) (h : TfM M L (p.1 0 3) p.1 p.2 o e) (hf : f < p.1 0 1) (hk : p.1 10 f = 3) : wq (DX17_takeFlow fu (sI (f + 1)) M L) (fun z => TfM z.2.1 z.2.2 (p.1 0 3) (rvQ f p).1.1 (rvQ f p).1.2 o e ∧ (rvQ f p).2 = 0 ∧ (rvQ f p).1.2 = p.2 ∧ rFr M z.2.1 ∧ rFl L z.2.2) := by
  have hF := Tf_F hv
  have hg := hv.2.2.2 f hf
  have hK := hv.1.1
  have tf := h.2.2.2.2.2.1 f hf
  have co0 : coO p.1 f = 0 := by
    unfold coO
    rw [if_neg (by omega), if_neg (by omega), if_pos hk]
  have nu0 : nuO p.1 f = 0 := by
    unfold nuO
    rw [if_neg (by omega)]
    exact hg.2.2.2.2.2.2.2.1 (by omega)
  unfold TmF at tf
  rw [co0] at tf
  have er : rvQ f p = ((if p.1 3 (p.1 11 f) = 1 then (mset p.1 3 (p.1 11 f) 2, p.2) else p), 0) := by
    unfold rvQ
    rw [if_pos hk]
  rw [er]
  generalize hm : p.1 11 f = m at *
  have tm := (h.2.2.1 m hg.2.1 hg.2.2.1).2
  have hM := hv.2.1 m hg.2.1 hg.2.2.1
  unfold DX17_takeFlow fX17_takeFlow_b179
  rw [mck_s (by omega) (by omega), sI_nn (by omega), tf.2.1]
  simp only [mlet]
  rw [mck_s (by omega) (by omega), sI_nn (by omega), tm.2.1]
  by_cases a1 : p.1 3 m = 1
  · rw [if_pos (show sI (p.1 3 m) = 1 by rw [a1]; rfl), mck_s (by omega) (by omega), tf.2.2.1, nu0, tf.2.2.2.2.1, mck_s (by omega) (by omega), if_pos (show sI 0 = 0 from rfl)]
    rw [mck_s (by omega) (by omega), mck_s (by omega) (by omega), mck_s (by omega) (by omega), mck_s (by omega) (by omega), mck_s (by omega) (by omega), if_neg (by decide)]
    unfold fX17_takeFlow_b107 fX17_takeFlow_b179
    simp only [mlet]
    rw [mck_s (by omega) (by omega), mck_s (by omega) (by omega), mck_s (by omega) (by omega), sI_nn (by omega)]
    simp (disch := omega) only [mset_n, tf.2.2.2.1, h.1.2.1]
    rw [if_pos a1]
    refine wq_some ⟨?_, trivial, rfl, fun a y u => ?_, fun a y u => ?_⟩
    all_goals (try dsimp only)
    · refine TfM_ch h (fun a y u => by simp (disch := omega) only [mset_n]) (by rw [mset_n (by omega)]; exact h.1.2.1) (fun i j u v => mset_n (by omega)) (fun x u v => ?_) (fun x u v => ?_) (fun r u => ?_) (fun g u => ?_) (fun k u => ?_)
      · have t := (h.2.2.1 x u v).2
        unfold TmS at t ⊢
        by_cases hq : x = m
        · subst hq
          rw [a1] at t
          simp (disch := omega) only [mset_n, mset_s]
          refine ⟨by rw [t.1]; rfl, rfl, fun _ => t.2.2.1 (Or.inl rfl), fun _ => t.2.2.2.1 (by omega), fun z => by omega, fun _ => ⟨rfl, rfl, trivial⟩⟩
        · simp (disch := omega) only [mset_n]
          exact t
      · have t := h.2.2.2.1 x u v
        simp (disch := omega) only [mset_n]
        exact t
      · have t := h.2.2.2.2.1 r u
        unfold TmR at t ⊢
        simp (disch := omega) only [mset_n]
        exact t
      · have t := (h.2.2.2.2.2.1 g u).2.2.2.2.2.1
        simp (disch := omega) only [mset_n]
        exact t
      · have t := h.2.2.2.2.2.2 k u
        simp (disch := omega) only [mset_n]
        exact t
    · simp (disch := omega) only [mset_n]
    · rw [mset_n (by omega)]
  · rw [if_neg (show ¬ sI (p.1 3 m) = 1 by rw [sI_eql (by omega) (by decide)]; exact a1), mck_s (by omega) (by omega), if_neg a1]
    exact wq_some ⟨h, trivial, rfl, fun _ _ _ => rfl, fun _ _ _ => rfl⟩
/-! the reference: a frame is taken, all of it -/
theorem rm_1 {M M' : mwM} {L L' : mwL} {n n' o : Nat → Nat → Nat} {r : Nat} (h : ∀ x, x < 4 → TmR M L n o x) (h7 : ∀ x, x < 4 → n 5 x = 1 → n 7 x ≤ 200) (h0 : ∀ i j, ¬ (5 ≤ i ∧ i ≤ 9 ∧ j = r) → n' i j = n i j) (hA : ∀ a y, 882 ≤ a → a ≤ 890 → y ≠ r → M' a y = M a y) (hB : ∀ y, ¬ (10000 * r ≤ y ∧ y < 10000 * r + 10000) → M' 891 y = M 891 y) (hL : ∀ y, y ≠ r → L' 889 y = L 889 y) (h1 : TmR M' L' n' o r) : ∀ x, x < 4 → TmR M' L' n' o x := by
  intro x u
  by_cases hq : x = r
  · rw [hq]; exact h1
  · have t := h x u
    unfold TmR at t ⊢
    rw [h0 5 x (by omega), h0 6 x (by omega), h0 7 x (by omega), h0 8 x (by omega), h0 9 x (by omega), h0 2 _ (by omega), hA 882 x (by omega) (by omega) hq, hA 883 x (by omega) (by omega) hq, hA 884 x (by omega) (by omega) hq, hA 885 x (by omega) (by omega) hq, hA 886 x (by omega) (by omega) hq, hA 887 x (by omega) (by omega) hq, hA 890 x (by omega) (by omega) hq, hL x hq]
    refine ⟨t.1, fun z => ?_⟩
    have t2 := t.2 z
    have := h7 x u z
    refine ⟨t2.1, t2.2.1, t2.2.2.1, t2.2.2.2.1, t2.2.2.2.2.1, t2.2.2.2.2.2.1, t2.2.2.2.2.2.2.1, fun i w => ?_⟩
    rw [hB _ (by omega)]
    exact t2.2.2.2.2.2.2.2 i w
theorem R_7 {n : Nat → Nat → Nat} {b : Nat → Nat → Bool} (hv : TfV n b) : ∀ x, x < 4 → n 5 x = 1 → n 7 x ≤ 200 := by
  intro x u z
  have := (hv.2.2.1 x u).2 z
  omega
theorem m_takeNext17 {fu f r m sq : Nat} {M : mwM} {L : mwL} {p : PB} {o : Nat → Nat → Nat} {e : Nat → Nat} (hfu : 200 ≤ fu) (hv : TfV p.1 p.2) (h : TfM M L (p.1 0 3) p.1 p.2 o e) (hf : f < p.1 0 1) (hk : p.1 10 f = 2) (hm : p.1 11 f = m) (hsq : p.1 12 f = sq) (hr : r = m % 4) (a1 : p.1 5 r = 1) (a2 : p.1 6 r = m) : wq (DX17_takeNext fu (sI r) (sI (f + 1)) M L) (fun z => ∃ e', TfM z.1 z.2 (p.1 0 3) (nxQ m sq p).1.1 (nxQ m sq p).1.2 o e' ∧ eQ 1 e p.2 e' (nxQ m sq p).1.2 ∧ rvM z.1 p.1 o (nxQ m sq p).2 e e' ∧ rFr M z.1 ∧ rFl L z.2) := by
  have hF := Tf_F hv
  have hg := hv.2.2.2 f hf
  have hK := hv.1.1
  have hr4 : r < 4 := by rw [hr]; exact Nat.mod_lt _ (by omega)
  have tf := h.2.2.2.2.2.1 f hf
  have tr := h.2.2.2.2.1 r hr4
  have hR := (hv.2.2.1 r hr4).2 a1
  rw [hm] at hg
  have hM := hv.2.1 m hg.2.1 hg.2.2.1
  have to := (h.2.2.1 m hg.2.1 hg.2.2.1).1
  obtain ⟨c1, c2, c3, c4, c5, c6, c7, c8⟩ := tr.2 a1
  have nu : nuO p.1 f = sq := by
    unfold nuO
    rw [if_neg (by omega), hsq]
  have h2 := hg.2.2.2.2.2.2.1 hk
  rw [hsq] at h2
  have fr : frO 2 sq = 6 + 7 * (sq - 1) := rfl
  have fr' : frO (p.1 10 f) (p.1 12 f) = 6 + 7 * (sq - 1) := by rw [hk, hsq]; rfl
  have cv : coO p.1 f = if p.1 2 m - (6 + 7 * (sq - 1)) ≤ 7 then p.1 2 m - (6 + 7 * (sq - 1)) else 7 := by
    unfold coO
    rw [if_neg (by omega), if_neg (by omega), if_neg (by omega), hm, hsq, fr]
  have h100 := hM.2.2.1
  generalize hc : coO p.1 f = c at *
  have hc7 : c ≤ 7 := by
    rw [cv]
    split <;> omega
  unfold TmF at tf
  rw [nu, hc, fr', hm] at tf
  have e3 := h.2.2.2.2.2.2 3 (by omega)
  unfold DX17_takeNext fX17_takeNext_b116
  rw [mck_s (by omega) (by omega), mck_s hr4 (by omega), sI_nn (by omega), sI_nn (by omega), tf.2.2.1, c4]
  have enx : nxQ m sq p = (if p.1 8 r = sq then (if p.1 7 r + 7 < p.1 2 m then ((gtN r sq p.1, p.2), 0) else ((mset p.1 5 r 2, p.2), m)) else ((mset p.1 5 r 3, mset p.2 2 0 true), 0)) := by
    unfold nxQ
    rw [← hr, if_pos ⟨a1, a2⟩]
  rw [enx]
  by_cases b1 : p.1 8 r = sq
  · rw [if_pos (show sI sq = sI (p.1 8 r) by rw [b1]), if_pos b1, mck_s hr4 (by omega), mck_s hr4 (by omega)]
    simp only [mlet]
    rw [mck_s hr4 (by omega), mck_s hr4 (by omega), sI_1, show sI (p.1 8 r + 1) - sI (p.1 8 r + 1) / 16 * 16 = sI ((p.1 8 r + 1) % 16) from sI_mod (b := 16) (by omega) (by omega), Nat.mod_eq_of_lt (show p.1 8 r + 1 < 16 by omega), h.1.2.1]
    have e7 : p.1 7 r = 6 + 7 * (sq - 1) := by rw [hR.2.2.2.2.2.1, b1]
    generalize hN : mset (mset M 886 r (sI (p.1 8 r + 1))) 890 r (vp_nar .boolean 0) = N
    have nf : ∀ a y, ¬ (y = r ∧ (a = 886 ∨ a = 890)) → N a y = M a y := fun a y u => by rw [← hN, mset_n (by omega), mset_n (by omega)]
    have n86 : N 886 r = sI (p.1 8 r + 1) := by rw [← hN, mset_n (by omega), mset_s]
    have n90 : N 890 r = 0 := by rw [← hN, mset_s]; rfl
    refine wq_b2 (m_put17 (c := c) (d := p.1 7 r) (v := fun k => o m (6 + 7 * (sq - 1) + k)) (by omega) hr4 (by omega) hc7 (by omega) (by rw [nf _ _ (by omega)]; exact tf.2.2.2.1) (by rw [nf _ _ (by omega)]; exact c3) (fun k u => ?_)) ?_
    · rw [nf _ _ (by omega)]
      refine ⟨tf.2.2.2.2.2.2 k u, (to _ ?_).2⟩
      rw [cv] at u
      split at u <;> omega
    rintro M1 L1 ⟨y1, y2, y3, y4⟩
    dsimp only at y1 y2 y3 y4
    subst y1
    rw [mck_s hr4 (by omega), mck_s hr4 (by omega), y2, y4 884 r (by omega) (by omega), nf 884 r (by omega), c2, a2]
    have buf : ∀ i, i < p.1 7 r + c → M1 891 (10000 * r + i) = sB (o m i) := by
      intro i u
      by_cases hi : i < p.1 7 r
      · rw [y4 891 _ (by omega) (by omega), nf 891 _ (by omega)]
        have := c8 i hi
        rw [a2] at this
        exact this
      · have := y3 (i - p.1 7 r) (by omega)
        rw [show 10000 * r + p.1 7 r + (i - p.1 7 r) = 10000 * r + i by omega, show 6 + 7 * (sq - 1) + (i - p.1 7 r) = i by omega] at this
        exact this
    by_cases b2 : p.1 7 r + 7 < p.1 2 m
    · have hcc : c = 7 := by rw [cv, if_neg (by omega)]
      rw [if_neg (by rw [sI_eq (by omega) (by omega)]; omega), mck_s hr4 (by omega), mck_s hr4 (by omega), mck_s hr4 (by omega), if_pos b2]
      have z87 : mset M1 888 r (M1 888 r - 1) 887 r = 0 := by rw [mset_n (by omega), y4 887 r (by omega) (by omega), nf 887 r (by omega), c5]
      rw [z87, if_pos (by decide)]
      refine wq_some ⟨e, ?_, ⟨Nat.le_refl _, by omega, by rw [decide_eq_false (by omega), Bool.or_false]⟩, ⟨fun _ => rfl, fun z => absurd rfl z⟩, fun a y u => ?_, fun a y u => ?_⟩
      all_goals (try dsimp only)
      · have gf : ∀ i j, ¬ (5 ≤ i ∧ i ≤ 9 ∧ j = r) → gtN r sq p.1 i j = p.1 i j := fun i j u => by
          unfold gtN
          rw [mset_n (by omega), mset_n (by omega), mset_n (by omega)]
        refine TfM_ch h (fun a y u => ?_) (by rw [mset_n (by omega)]; exact h.1.2.1) (fun i j u v => gf i j (by omega)) (fun x u v => ?_) (fun x u v => ?_) (rm_1 (r := r) h.2.2.2.2.1 (R_7 hv) gf (fun a y u v w => ?_) (fun y u => ?_) (fun y u => mset_j u) ?_) (fun g u => ?_) (fun k u => ?_)
        · rw [mset_n (by omega), y4 a y (by omega) (by omega), nf a y (by omega)]
        · have t := (h.2.2.1 x u v).2
          unfold TmS at t ⊢
          rw [gf 3 x (by omega), gf 4 x (by omega)]
          simp (disch := omega) only [mset_n, y4, nf]
          exact t
        · have t := h.2.2.2.1 x u v
          simp (disch := omega) only [mset_n, y4, nf]
          exact t
        · rw [mset_n (by omega), y4 a y (by omega) (by omega), nf a y (by omega)]
        · rw [mset_n (by omega), y4 891 y (by omega) (by omega), nf 891 y (by omega)]
        · unfold TmR gtN
          simp (disch := omega) only [mset_n, mset_s]
          rw [y4 882 r (by omega) (by omega), nf 882 r (by omega), y4 883 r (by omega) (by omega), nf 883 r (by omega), y4 884 r (by omega) (by omega), nf 884 r (by omega), y4 886 r (by omega) (by omega), n86, y4 887 r (by omega) (by omega), nf 887 r (by omega), y4 890 r (by omega) (by omega), n90, y2, b1, hcc]
          refine ⟨tr.1, fun _ => ⟨c1, c2, rfl, rfl, c5, trivial, rfl, fun i u => ?_⟩⟩
          rw [a2]
          exact buf i (by omega)
        · have t := (h.2.2.2.2.2.1 g u).2.2.2.2.2.1
          simp (disch := omega) only [mset_n, y4, nf]
          exact t
        · have t := h.2.2.2.2.2.2 k u
          simp (disch := omega) only [mset_n, y4, nf]
          exact t
      · rw [mset_n (by omega), y4 a y (by omega) (by omega), nf a y (by omega)]
      · rw [mset_n (by omega)]
    · have hcc : p.1 7 r + c = p.1 2 m := by
        rw [cv, if_pos (by omega)]
        rw [a2] at hR
        omega
      rw [hcc] at buf
      rw [if_pos (by rw [hcc]), if_neg b2]
      refine wq_b2 (m_whole17 (len := p.1 2 m) (e0 := e 0) (v := fun k => o m k) hfu hr4 (by omega) ?_ ?_ (fun k u => ⟨buf k u, (to k u).2⟩)) ?_
      · rw [y4 884 r (by omega) (by omega), nf 884 r (by omega), c2, a2]
      · rw [y4 901 0 (by omega) (by omega), nf 901 0 (by omega)]
        exact h.2.2.2.2.2.2 0 (by omega)
      rintro M2 L2 ⟨w1, w2, w3, w4, w5, w6⟩
      dsimp only at w1 w2 w3 w4 w5 w6
      subst w1
      have hM2 : ∀ a y, ¬ (882 ≤ a ∧ a ≤ 891) → ¬ (a = 901 ∧ y = 0) → ¬ (a = 869 ∧ y = 40) → a ≠ 900 → M2 a y = M a y := fun a y u1 u2 u3 u4 => by
        rw [w6 a y (by omega) u2 u3 u4, y4 a y (by omega) (by omega), nf a y (by omega)]
      refine wq_some ⟨eU e 0, ?_, ?_, ⟨fun z => absurd z (by omega), fun _ => ⟨by unfold eU; rw [if_pos rfl], w4, w5⟩⟩, fun a y u => ?_, fun a y u => ?_⟩
      all_goals (try dsimp only)
      · refine TfM_ch h (fun a y u => ?_) (by rw [mset_n (by omega)]; exact h.1.2.1) (fun i j u v => mset_n (by omega)) (fun x u v => ?_) (fun x u v => ?_) (rm_1 (r := r) h.2.2.2.2.1 (R_7 hv) (fun i j u => mset_n (by omega)) (fun a y u v w => ?_) (fun y u => ?_) (fun y u => mset_j u) ?_) (fun g u => ?_) (fun k u => ?_)
        · exact hM2 a y (by omega) (by omega) (by omega) (by omega)
        · have t := (h.2.2.1 x u v).2
          unfold TmS at t ⊢
          simp (disch := omega) only [mset_n, hM2]
          exact t
        · have t := h.2.2.2.1 x u v
          simp (disch := omega) only [mset_n, hM2]
          exact t
        · rw [w6 a y (by omega) (by omega) (by omega) (by omega), y4 a y (by omega) (by omega), nf a y (by omega)]
        · rw [w6 891 y (by omega) (by omega) (by omega) (by omega), y4 891 y (by omega) (by omega), nf 891 y (by omega)]
        · unfold TmR
          rw [mset_s, w2]
          exact ⟨rfl, fun z => by omega⟩
        · have t := (h.2.2.2.2.2.1 g u).2.2.2.2.2.1
          simp (disch := omega) only [mset_n, hM2]
          exact t
        · by_cases hq : k = 0
          · rw [hq, w3]
            unfold eU
            rw [if_pos rfl]
          · have t := h.2.2.2.2.2.2 k u
            rw [hM2 901 k (by omega) (by omega) (by omega) (by omega), t]
            unfold eU
            rw [if_neg hq]
      · refine ⟨by rw [eS_0]; exact Nat.le_refl _, by rw [eS_0]; omega, ?_⟩
        rw [eS_0, decide_eq_false (by omega), Bool.or_false]
      · exact hM2 a y (by omega) (by omega) (by omega) (by omega)
      · rw [mset_n (by omega)]
  · rw [if_neg (show ¬ sI sq = sI (p.1 8 r) by rw [sI_eq (by omega) (by omega)]; omega), if_neg b1]
    rw [show (3 : Int32) = sI 3 from rfl, m_endReceiver17 hr4 (by omega) e3, mb2_s]
    refine wq_some ⟨eU e 3, ?_, (eR_1 (by omega) (by dsimp only; rw [mset_s])).2, ⟨fun _ => rfl, fun z => absurd rfl z⟩, fun a y u => ?_, fun a y u => rfl⟩
    all_goals (try dsimp only)
    · refine TfM_ch h (fun a y u => by rw [mset_n (by omega), mset_n (by omega)]) h.1.2.1 (fun i j u v => mset_n (by omega)) (fun x u v => ?_) (fun x u v => ?_) (rm_1 (r := r) h.2.2.2.2.1 (R_7 hv) (fun i j u => mset_n (by omega)) (fun a y u v w => by rw [mset_n (by omega), mset_n (by omega)]) (fun y u => by rw [mset_n (by omega), mset_n (by omega)]) (fun y u => rfl) ?_) (fun g u => ?_) (fun k u => ?_)
      · have t := (h.2.2.1 x u v).2
        unfold TmS at t ⊢
        simp (disch := omega) only [mset_n]
        exact t
      · have t := h.2.2.2.1 x u v
        simp (disch := omega) only [mset_n]
        exact t
      · unfold TmR
        rw [mset_s, mset_n (show ¬ (882 = 901 ∧ r = 3) by omega), mset_s]
        exact ⟨rfl, fun z => by omega⟩
      · have t := (h.2.2.2.2.2.1 g u).2.2.2.2.2.1
        simp (disch := omega) only [mset_n]
        exact t
      · by_cases hq : k = 3
        · rw [hq, mset_s]
          rfl
        · rw [mset_j hq, mset_n (by omega), h.2.2.2.2.2.2 k u]
          unfold eU
          rw [if_neg hq]
    · rw [mset_n (by omega), mset_n (by omega)]
theorem m_answer17 {fu r m τ F : Nat} {M : mwM} {L : mwL} (hr : r < 4) (hF : F < 1600) (h26 : M 869 26 = sI F) (h2 : L 869 2 = sL τ) (h35 : M 869 35 = sI 0) (h36 : M 869 36 = sI 0) (h37 : M 869 37 = sI 0) (h883 : M 883 r = sI m) : wq (DX17_answer fu (sI r) M L) (fun z => (∀ a y, ¬ (892 ≤ a ∧ a ≤ 898 ∧ y = F + 1) → ¬ (a = 869 ∧ y = 26) → ¬ (y = r ∧ (a = 887 ∨ a = 888 ∨ a = 890)) → z.1 a y = M a y) ∧ (∀ a y, a ≠ 897 → ¬ (a = 889 ∧ y = r) → z.2 a y = L a y) ∧ z.2 889 r = sL τ ∧ z.1 887 r = 0 ∧ z.1 890 r = 0 ∧ z.1 869 26 = sI (F + 1) ∧ z.1 892 (F + 1) = sI 3 ∧ z.1 893 (F + 1) = sI m ∧ z.1 894 (F + 1) = sI 0 ∧ z.1 895 (F + 1) = sI 0 ∧ z.1 896 (F + 1) = sI 0 ∧ z.1 898 (F + 1) = 0) := by
  unfold DX17_answer
  rw [mck_s hr (by omega), sI_nn (by omega), h883, h35, h36, h37]
  refine wq_b3 (m_make17 (τ := τ) hF h26 h2) ?_
  rintro g1 M1 L1 ⟨y0, y1, y2, y3, y4, y5, y6, y7, y8, y9⟩
  dsimp only at y0 y1 y2 y3 y4 y5 y6 y7 y8 y9
  rw [y0, if_neg (by rw [sI_eql (by omega) (by decide)]; omega), mck_s hr (by omega), y1 869 37 (by omega) (by omega), h37, y2 869 2 (by omega), h2]
  simp only [mlet]
  rw [if_neg (show ¬ sI 0 = 1 by decide)]
  unfold fX17_answer_b62 fX17_answer_b90 fX17_answer_b104
  rw [mck_s hr (by omega), sI_nn (by omega)]
  simp only [mlet]
  have q37 : ∀ x y z, mset M1 890 r x 869 37 = sI 0 ∧ mset (mset (mset M1 890 r x) 887 r y) 888 r z 869 37 = sI 0 := fun x y z => by
    constructor
    · rw [mset_n (by omega), y1 869 37 (by omega) (by omega), h37]
    · rw [mset_n (by omega), mset_n (by omega), mset_n (by omega), y1 869 37 (by omega) (by omega), h37]
  have q35 : ∀ x y, mset M1 890 r x 869 35 = sI 0 ∧ mset (mset M1 890 r x) 887 r y 869 35 = sI 0 := fun x y => by
    constructor
    · rw [mset_n (by omega), y1 869 35 (by omega) (by omega), h35]
    · rw [mset_n (by omega), mset_n (by omega), y1 869 35 (by omega) (by omega), h35]
  rw [(q37 _ 0 0).1, if_pos (show sI 0 = 0 from rfl), mck_s hr (by omega), mck_s hr (by omega), (q35 _ 0).1, (q35 _ _).2, (q37 _ _ _).2, if_neg (by decide)]
  refine wq_some ⟨fun a y u1 u2 u3 => ?_, fun a y u1 u2 => ?_, ?_, ?_, ?_, ?_⟩
  all_goals (try dsimp only)
  · simp (disch := omega) only [mset_n]
    exact y1 a y u1 u2
  · rw [mset_n u2]; exact y2 a y u1
  · rw [mset_s]
  · rw [mset_n (by omega), mset_s]; rfl
  · rw [mset_n (by omega), mset_n (by omega), mset_s]; rfl
  · simp (disch := omega) only [mset_n]
    exact ⟨y3, y4, y5, y6, y7, y8, y9⟩
theorem eQ_t {k k' : Nat} {e e' e'' : Nat → Nat} {b b' b'' : Nat → Nat → Bool} (h1 : eQ k e b e' b') (h2 : eQ k' e' b' e'' b'') : eQ (k + k') e b e'' b'' := by
  obtain ⟨a2, a3, a4⟩ := h1
  obtain ⟨c2, c3, c4⟩ := h2
  refine ⟨by omega, by omega, ?_⟩
  rw [c4, a4]
  by_cases q1 : eS e < eS e'
  · rw [decide_eq_true q1, decide_eq_true (show eS e < eS e'' by omega)]
    simp
  · by_cases q2 : eS e' < eS e''
    · rw [decide_eq_true q2, decide_eq_true (show eS e < eS e'' by omega)]
      simp
    · rw [decide_eq_false q1, decide_eq_false q2, decide_eq_false (show ¬ eS e < eS e'' by omega)]
      simp
theorem m_take17 {fu f : Nat} {M : mwM} {L : mwL} {p : PB} {o : Nat → Nat → Nat} {e : Nat → Nat} (hfu : 200 ≤ fu) (hv : TfV p.1 p.2) (hF1 : p.1 0 1 < 1600 ∨ p.1 10 f ≠ 1) (h : TfM M L (p.1 0 3) p.1 p.2 o e) (hf : f < p.1 0 1) (hk : p.1 10 f ≠ 3) : wq (DX17_take fu (sI (f + 1)) M L) (fun z => ∃ e', TfM z.2.1 z.2.2 (p.1 0 3) (rvQ f p).1.1 (rvQ f p).1.2 o e' ∧ eQ 1 e p.2 e' (rvQ f p).1.2 ∧ rvM z.2.1 p.1 o (rvQ f p).2 e e' ∧ rFr M z.2.1 ∧ rFl L z.2.2) := by
  have hF := Tf_F hv
  have hg := hv.2.2.2 f hf
  have hK := hv.1.1
  have tf := h.2.2.2.2.2.1 f hf
  have hc7 := co_le (TfV_W.mp hv).1 hf
  generalize hm : p.1 11 f = m at *
  have hr4 : m % 4 < 4 := Nat.mod_lt _ (by omega)
  generalize hr : m % 4 = r at *
  have tr := h.2.2.2.2.1 r hr4
  have v3 := (hv.2.2.1 r hr4).1
  have hM := hv.2.1 m hg.2.1 hg.2.2.1
  have to := (h.2.2.1 m hg.2.1 hg.2.2.1).1
  have h100 := hM.2.2.1
  unfold TmF at tf
  rw [hm] at tf
  unfold DX17_take fX17_take_b50
  rw [mck_s (by omega) (by omega), sI_nn (by omega), tf.2.1, show sI m - sI m / 4 * 4 = sI (m % 4) from sI_mod (b := 4) (by omega) (by omega), hr]
  simp only [mlet]
  rw [mck_s (by omega) (by omega), tf.1]
  by_cases k2 : p.1 10 f = 2
  · have er : rvQ f p = nxQ m (p.1 12 f) p := by
      unfold rvQ
      rw [if_neg hk, if_pos k2, hm]
    rw [er, if_pos (show sI (p.1 10 f) = 2 by rw [k2]; rfl), mck_s hr4 (by omega), sI_nn (by omega), tr.1]
    have none : ¬ (p.1 5 r = 1 ∧ p.1 6 r = m) → wq (mck (sI r) 4 (some (M 882 r, M, L))) (fun z => ∃ e', TfM z.2.1 z.2.2 (p.1 0 3) (nxQ m (p.1 12 f) p).1.1 (nxQ m (p.1 12 f) p).1.2 o e' ∧ eQ 1 e p.2 e' (nxQ m (p.1 12 f) p).1.2 ∧ rvM z.2.1 p.1 o (nxQ m (p.1 12 f) p).2 e e' ∧ rFr M z.2.1 ∧ rFl L z.2.2) := by
      intro hno
      have en : nxQ m (p.1 12 f) p = (p, 0) := by
        unfold nxQ
        rw [hr, if_neg hno]
      rw [en, mck_s hr4 (by omega)]
      exact wq_some ⟨e, h, ⟨Nat.le_refl _, by omega, by rw [decide_eq_false (by omega), Bool.or_false]⟩, ⟨fun _ => rfl, fun z => absurd rfl z⟩, fun _ _ _ => rfl, fun _ _ _ => rfl⟩
    by_cases a1 : p.1 5 r = 1
    · have t2 := tr.2 a1
      have hR := (hv.2.2.1 r hr4).2 a1
      rw [if_pos (show sI (p.1 5 r) = 1 by rw [a1]; rfl), mck_s hr4 (by omega), mck_s (by omega) (by omega), t2.1]
      by_cases a2 : p.1 6 r = m
      · rw [if_pos (show sI (p.1 6 r) = sI m by rw [a2])]
        refine wq_b2 (m_takeNext17 hfu hv h hf k2 hm rfl hr.symm a1 a2) ?_
        rintro M1 L1 ⟨e1, q1, q2, q3, q4, q5⟩
        dsimp only at q1 q2 q3 q4 q5
        rw [mck_s hr4 (by omega)]
        exact wq_some ⟨e1, q1, q2, q3, q4, q5⟩
      · rw [if_neg (show ¬ sI (p.1 6 r) = sI m by rw [sI_eq (by omega) (by omega)]; exact a2)]
        exact tr.1 ▸ none (fun z => a2 z.2)
    · rw [if_neg (show ¬ sI (p.1 5 r) = 1 by rw [sI_eql (by omega) (by decide)]; exact a1)]
      exact tr.1 ▸ none (fun z => a1 z.1)
  · rw [if_neg (show ¬ sI (p.1 10 f) = 2 by rw [sI_eql (by omega) (by decide)]; exact k2), mck_s hr4 (by omega), sI_nn (by omega), tr.1]
    have er : rvQ f p = (if p.1 10 f = 0 then ((mset p.1 5 r 2, reB r p), m) else (fsP m p, 0)) := by
      unfold rvQ
      rw [if_neg hk, if_neg k2, hm, hr]
    rw [er]
    have k01 : p.1 10 f = 0 ∨ p.1 10 f = 1 := by omega
    have hfr : frO (p.1 10 f) (p.1 12 f) = 0 := by
      unfold frO
      rw [if_neg k2]
    rw [hfr] at tf
    -- behind the end of what was being received
    have fin : ∀ (M0 : mwM) (e0 : Nat → Nat), (∀ a y, ¬ (a = 882 ∧ y = r) → a ≠ 901 → M0 a y = M a y) → (∀ k, k < 8 → M0 901 k = sI (e0 k)) → eR 1 e p.2 e0 (reB r p) → wq (fX17_take_b74 fu (sI (f + 1)) (sI r) M0 L) (fun z => ∃ e', TfM z.2.1 z.2.2 (p.1 0 3) (if p.1 10 f = 0 then ((mset p.1 5 r 2, reB r p), m) else (fsP m p, 0)).1.1 (if p.1 10 f = 0 then ((mset p.1 5 r 2, reB r p), m) else (fsP m p, 0)).1.2 o e' ∧ eQ 1 e p.2 e' (if p.1 10 f = 0 then ((mset p.1 5 r 2, reB r p), m) else (fsP m p, 0)).1.2 ∧ rvM z.2.1 p.1 o (if p.1 10 f = 0 then ((mset p.1 5 r 2, reB r p), m) else (fsP m p, 0)).2 e e' ∧ rFr M z.2.1 ∧ rFl L z.2.2) := by
      intro M0 e0 m0 he0 hE
      unfold fX17_take_b74
      rw [mck_s (by omega) (by omega), mck_s hr4 (by omega), sI_nn (by omega), sI_nn (by omega), m0 893 _ (by omega) (by omega), tf.2.1]
      simp only [mlet]
      rw [mck_s hr4 (by omega), mck_s hr4 (by omega), mck_s (by omega) (by omega), mck_s (by omega) (by omega), mck_s (by omega) (by omega)]
      generalize hN : mset (mset (mset M0 883 r (sI m)) 885 r 0) 887 r 0 = N
      have nf : ∀ a y, ¬ (y = r ∧ (a = 882 ∨ a = 883 ∨ a = 885 ∨ a = 887)) → a ≠ 901 → N a y = M a y := fun a y u v => by rw [← hN, mset_n (by omega), mset_n (by omega), mset_n (by omega), m0 a y (by omega) v]
      have n83 : N 883 r = sI m := by rw [← hN, mset_n (by omega), mset_n (by omega), mset_s]
      have n85 : N 885 r = sI 0 := by rw [← hN, mset_n (by omega), mset_s]; rfl
      have n87 : N 887 r = 0 := by rw [← hN, mset_s]
      have n901 : ∀ k, k < 8 → N 901 k = sI (e0 k) := fun k u => by rw [← hN, mset_n (by omega), mset_n (by omega), mset_n (by omega)]; exact he0 k u
      rw [nf 892 _ (by omega) (by omega), tf.1, nf 895 _ (by omega) (by omega), tf.2.2.2.1, nf 894 _ (by omega) (by omega), tf.2.2.1]
      unfold fX17_take_b129 fX17_take_b222
      by_cases k0 : p.1 10 f = 0
      · have hco : coO p.1 f = p.1 2 m := by
          unfold coO
          rw [if_pos k0, hm]
        rw [hco] at tf hc7 ⊢
        rw [if_pos (show sI (p.1 10 f) = 0 by rw [k0]; rfl), mck_s hr4 (by omega), sI_nn (by omega)]
        simp only [mlet]
        rw [mck_s (by omega) (by omega), sI_nn (by omega), mset_n (show ¬ (892 = 884 ∧ f + 1 = r) by omega), nf 892 _ (by omega) (by omega), tf.1, if_pos (show sI (p.1 10 f) = 0 by rw [k0]; rfl), if_pos k0]
        refine wq_b2 (m_put17 (c := p.1 2 m) (d := 0) (v := fun k => o m k) (by omega) hr4 (by omega) hc7 (by omega) (by rw [mset_n (by omega), nf _ _ (by omega) (by omega)]; exact tf.2.2.2.1) (by rw [mset_n (by omega)]; exact n85) (fun k u => ?_)) ?_
        · rw [mset_n (by omega), nf _ _ (by omega) (by omega)]
          have := tf.2.2.2.2.2.2 k u
          rw [Nat.zero_add] at this
          exact ⟨this, (to k u).2⟩
        rintro M1 L1 ⟨y1, y2, y3, y4⟩
        dsimp only at y1 y2 y3 y4
        subst y1
        refine wq_b2 (m_whole17 (len := p.1 2 m) (e0 := e0 0) (v := fun k => o m k) hfu hr4 (by omega) ?_ ?_ (fun k u => ⟨?_, (to k u).2⟩)) ?_
        · rw [y4 884 r (by omega) (by omega), mset_s]
        · rw [y4 901 0 (by omega) (by omega), mset_n (by omega)]; exact n901 0 (by omega)
        · exact y3 k u
        rintro M2 L2 ⟨w1, w2, w3, w4, w5, w6⟩
        dsimp only at w1 w2 w3 w4 w5 w6
        subst w1
        have hM2 : ∀ a y, ¬ (882 ≤ a ∧ a ≤ 891) → a ≠ 901 → ¬ (a = 869 ∧ y = 40) → a ≠ 900 → M2 a y = M a y := fun a y u1 u2 u3 u4 => by
          rw [w6 a y (by omega) (by omega) u3 u4, y4 a y (by omega) (by omega), mset_n (by omega), nf a y (by omega) u2]
        rw [mck_s hr4 (by omega)]
        refine wq_some ⟨eU e0 0, ?_, ?_, ⟨fun z => absurd z (by omega), fun _ => ⟨by unfold eU; rw [if_pos rfl, hE.1], w4, w5⟩⟩, fun a y u => ?_, fun a y u => rfl⟩
        all_goals (try dsimp only)
        · refine TfM_ch h (fun a y u => ?_) h.1.2.1 (fun i j u v => mset_n (by omega)) (fun x u v => ?_) (fun x u v => ?_) (rm_1 (r := r) h.2.2.2.2.1 (R_7 hv) (fun i j u => mset_n (by omega)) (fun a y u v w => ?_) (fun y u => ?_) (fun y u => rfl) ?_) (fun g u => ?_) (fun k u => ?_)
          · exact hM2 a y (by omega) (by omega) (by omega) (by omega)
          · have t := (h.2.2.1 x u v).2
            unfold TmS at t ⊢
            simp (disch := omega) only [mset_n, hM2]
            exact t
          · have t := h.2.2.2.1 x u v
            simp (disch := omega) only [mset_n, hM2]
            exact t
          · rw [w6 a y (by omega) (by omega) (by omega) (by omega), y4 a y (by omega) (by omega), mset_n (by omega), nf a y (by omega) (by omega)]
          · rw [w6 891 y (by omega) (by omega) (by omega) (by omega), y4 891 y (by omega) (by omega), mset_n (by omega), nf 891 y (by omega) (by omega)]
          · unfold TmR
            rw [mset_s, w2]
            exact ⟨rfl, fun z => by omega⟩
          · have t := (h.2.2.2.2.2.1 g u).2.2.2.2.2.1
            rw [hM2 898 _ (by omega) (by omega) (by omega) (by omega), re_b (by omega)]
            exact t
          · by_cases hq : k = 0
            · rw [hq, w3]
              unfold eU
              rw [if_pos rfl]
            · rw [w6 901 k (by omega) (by omega) (by omega) (by omega), y4 901 k (by omega) (by omega), mset_n (by omega), n901 k u]
              unfold eU
              rw [if_neg hq]
        · obtain ⟨x1, x2, x3, x4⟩ := hE
          unfold eQ
          rw [eS_0]
          exact ⟨x2, x3, x4⟩
        · exact hM2 a y (by omega) (by omega) (by omega) (by omega)
      · have k1 : p.1 10 f = 1 := by omega
        have hF9 : p.1 0 1 < 1600 := by omega
        have hco : coO p.1 f = 6 := by
          unfold coO
          rw [if_neg k0, if_pos k1]
        have hnu : nuO p.1 f = p.1 2 m := by
          unfold nuO
          rw [if_pos k1, hm]
        have h8 := hg.2.2.2.2.2.1 (by omega)
        rw [hco, hnu] at tf
        rw [hco] at hc7
        rw [hco, hnu]
        rw [if_neg (show ¬ sI (p.1 10 f) = 0 by rw [sI_eql (by omega) (by decide)]; exact k0), mck_s hr4 (by omega), sI_nn (by omega)]
        simp only [mlet]
        rw [mck_s (by omega) (by omega), sI_nn (by omega), mset_n (show ¬ (892 = 884 ∧ f + 1 = r) by omega), nf 892 _ (by omega) (by omega), tf.1, if_neg (show ¬ sI (p.1 10 f) = 0 by rw [sI_eql (by omega) (by decide)]; exact k0), if_neg k0, mck_s (by omega) (by omega), mset_n (show ¬ (894 = 884 ∧ f + 1 = r) by omega), nf 894 _ (by omega) (by omega), tf.2.2.1, mset_n (show ¬ (869 = 884 ∧ 1 = r) by omega), nf 869 1 (by omega) (by omega), h.1.1, if_pos (by rw [sI_le (by omega) (by omega)]; omega), mck_s hr4 (by omega), mck_s hr4 (by omega)]
        generalize hN2 : mset (mset (mset N 884 r (sI (p.1 2 m))) 882 r 1) 886 r 1 = N2
        have nf2 : ∀ a y, ¬ (y = r ∧ (882 ≤ a ∧ a ≤ 887)) → a ≠ 901 → N2 a y = M a y := fun a y u v => by rw [← hN2, mset_n (by omega), mset_n (by omega), mset_n (by omega), nf a y (by omega) v]
        have p82 : N2 882 r = sI 1 := by rw [← hN2, mset_n (by omega), mset_s]; rfl
        have p83 : N2 883 r = sI m := by rw [← hN2, mset_n (by omega), mset_n (by omega), mset_n (by omega), n83]
        have p84 : N2 884 r = sI (p.1 2 m) := by rw [← hN2, mset_n (by omega), mset_n (by omega), mset_s]
        have p85 : N2 885 r = sI 0 := by rw [← hN2, mset_n (by omega), mset_n (by omega), mset_n (by omega), n85]
        have p86 : N2 886 r = sI 1 := by rw [← hN2, mset_s]; rfl
        have p901 : ∀ k, k < 8 → N2 901 k = sI (e0 k) := fun k u => by rw [← hN2, mset_n (by omega), mset_n (by omega), mset_n (by omega)]; exact n901 k u
        refine wq_b2 (m_put17 (c := 6) (d := 0) (v := fun k => o m k) (by omega) hr4 (by omega) hc7 (by omega) (by rw [nf2 _ _ (by omega) (by omega)]; exact tf.2.2.2.1) p85 (fun k u => ?_)) ?_
        · rw [nf2 _ _ (by omega) (by omega)]
          have := tf.2.2.2.2.2.2 k u
          rw [Nat.zero_add] at this
          exact ⟨this, (to k (by omega)).2⟩
        rintro M1 L1 ⟨y1, y2, y3, y4⟩
        dsimp only at y1 y2 y3 y4
        subst y1
        have nf3 : ∀ a y, ¬ (y = r ∧ (882 ≤ a ∧ a ≤ 887)) → a ≠ 901 → a ≠ 891 → M1 a y = M a y := fun a y u v w => by rw [y4 a y (by omega) (by omega), nf2 a y u v]
        refine wq_b2 (m_answer17 (m := m) (τ := p.1 0 3) hr4 hF9 (by rw [nf3 _ _ (by omega) (by omega) (by omega)]; exact h.1.2.2.2.1) h.1.2.1 (by rw [nf3 _ _ (by omega) (by omega) (by omega)]; exact h.1.2.2.2.2.1) (by rw [nf3 _ _ (by omega) (by omega) (by omega)]; exact h.1.2.2.2.2.2.1) (by rw [nf3 _ _ (by omega) (by omega) (by omega)]; exact h.1.2.2.2.2.2.2.1) (by rw [y4 883 r (by omega) (by omega)]; exact p83)) ?_
        rintro M2 L2 ⟨w1, w2, w3, w4, w5, w6, w7, w8, w9, w10, w11, w12⟩
        dsimp only at w1 w2 w3 w4 w5 w6 w7 w8 w9 w10 w11 w12
        rw [mck_s hr4 (by omega)]
        have fo : ∀ i j, ¬ (5 ≤ i ∧ i ≤ 9 ∧ j = r) → fsN m p.1 i j = p.1 i j := by
          intro i j u
          unfold fsN
          rw [hr, mset_n (by omega), mset_n (by omega), mset_n (by omega), mset_n (by omega), mset_n (by omega)]
        -- the memory before the flow
        have TV : TfM (mset (mset (mset M1 888 r (M2 888 r)) 887 r 0) 890 r 0) (mset L1 889 r (sL (p.1 0 3))) (p.1 0 3) (fsN m p.1) (mset (reB r p) 3 m true) o e0 := by
          refine TfM_ch h (fun a y u => ?_) (by rw [mset_n (by omega)]; exact h.1.2.1) (fun i j u v => fo i j (by omega)) (fun x u v => ?_) (fun x u v => ?_) (rm_1 (r := r) h.2.2.2.2.1 (R_7 hv) fo (fun a y u v w => ?_) (fun y u => ?_) (fun y u => mset_j u) ?_) (fun g u => ?_) (fun k u => ?_)
          · rw [mset_n (by omega), mset_n (by omega), mset_n (by omega)]
            exact nf3 a y (by omega) (by omega) (by omega)
          · have t := (h.2.2.1 x u v).2
            unfold TmS at t ⊢
            rw [fo 3 x (by omega), fo 4 x (by omega)]
            simp (disch := omega) only [mset_n, nf3]
            exact t
          · have t := h.2.2.2.1 x u v
            simp (disch := omega) only [mset_n, nf3]
            exact t
          · rw [mset_n (by omega), mset_n (by omega), mset_n (by omega)]
            exact nf3 a y (by omega) (by omega) (by omega)
          · rw [mset_n (by omega), mset_n (by omega), mset_n (by omega), y4 891 y (by omega) (by omega), nf2 891 y (by omega) (by omega)]
          · unfold TmR fsN
            rw [hr]
            simp (disch := omega) only [mset_n, mset_s]
            rw [y4 882 r (by omega) (by omega), p82, y4 883 r (by omega) (by omega), p83, y4 884 r (by omega) (by omega), p84, y4 886 r (by omega) (by omega), p86, y2]
            refine ⟨rfl, fun _ => ⟨rfl, rfl, rfl, rfl, trivial, trivial, trivial, fun i u => ?_⟩⟩
            exact y3 i u
          · have t := (h.2.2.2.2.2.1 g u).2.2.2.2.2.1
            rw [mset_n (show ¬ (898 = 890 ∧ g + 1 = r) by omega), mset_n (show ¬ (898 = 887 ∧ g + 1 = r) by omega), mset_n (show ¬ (898 = 888 ∧ g + 1 = r) by omega), nf3 898 _ (by omega) (by omega) (by omega), mset_n (show ¬ (1 = 3 ∧ g = m) by omega), re_b (by omega)]
            exact t
          · rw [mset_n (by omega), mset_n (by omega), mset_n (by omega), y4 901 k (by omega) (by omega)]
            exact p901 k u
        have c7' : ∀ g, g < fsN m p.1 0 1 → coO (fsN m p.1) g ≤ 7 := by
          intro g u
          rw [fo 0 1 (by omega)] at u
          have := co_le (TfV_W.mp hv).1 u
          have ec : coO (fsN m p.1) g = coO p.1 g := by
            unfold coO
            rw [fo 10 g (by omega), fo 11 g (by omega), fo 12 g (by omega), fo 2 _ (by omega)]
          rw [ec]
          exact this
        refine wq_some ⟨e0, ?_, ?_, ⟨fun _ => hE.1, fun z => absurd rfl z⟩, fun a y u => ?_, fun a y u => ?_⟩
        all_goals (try dsimp only)
        · unfold fsP
          rw [hr]
          dsimp only
          have g0 : fsN m p.1 0 1 = p.1 0 1 := fo 0 1 (by omega)
          refine TfM_mk (co := 0) c7' TV (fun a y u1 u2 u3 => ?_) (fun a y u => ?_) ?_ ?_ ?_ ?_ ?_ ?_ ?_ ?_ (fun k u => by omega)
          · rw [g0] at u1
            by_cases c1 : a = 890 ∧ y = r
            · rw [c1.1, c1.2, mset_s]; exact w5
            · rw [mset_n c1]
              by_cases c2 : a = 887 ∧ y = r
              · rw [c2.1, c2.2, mset_s]; exact w4
              · rw [mset_n c2]
                by_cases c3 : a = 888 ∧ y = r
                · rw [c3.1, c3.2, mset_s]
                · rw [mset_n c3]
                  exact w1 a y u1 u2 (by omega)
          · by_cases c1 : a = 889 ∧ y = r
            · rw [c1.1, c1.2, mset_s]; exact w3
            · rw [mset_n c1]
              exact w2 a y u c1
          · rw [g0]; exact w6
          · rw [g0]; exact w7
          · rw [g0]; exact w8
          · rw [g0, if_neg (by omega)]; exact w9
          · rw [g0]; exact w10
          · rw [if_neg (by omega), if_neg (by omega), if_pos rfl]
          · rw [g0]; exact w11
          · rw [g0]; exact w12
        · obtain ⟨x1, x2, x3, x4⟩ := hE
          refine ⟨x2, x3, ?_⟩
          unfold fsP
          rw [hr]
          dsimp only
          rw [mkB_r (by omega), mset_n (by omega)]
          exact x4
        · rw [w1 a y (by omega) (by omega) (by omega)]
          exact nf3 a y (by omega) (by omega) (by omega)
        · exact w2 a y (by omega) (by omega)
    by_cases a1 : p.1 5 r = 1
    · have eb : reB r p = mset p.2 2 0 true := by unfold reB; rw [if_pos a1]
      rw [if_pos (show sI (p.1 5 r) = 1 by rw [a1]; rfl), show (6 : Int32) = sI 6 from rfl, m_endReceiver17 hr4 (by omega) (h.2.2.2.2.2.2 6 (by omega)), mb2_s]
      refine fin _ (eU e 6) (fun a y u v => by rw [mset_n (by omega), mset_n u]) (fun k u => ?_) (eR_1 (by omega) (by rw [eb, mset_s]))
      by_cases hq : k = 6
      · rw [hq, mset_s]
        rfl
      · rw [mset_j hq, mset_n (by omega), h.2.2.2.2.2.2 k u]
        unfold eU
        rw [if_neg hq]
    · have eb : reB r p = p.2 := by unfold reB; rw [if_neg a1]
      rw [if_neg (show ¬ sI (p.1 5 r) = 1 by rw [sI_eql (by omega) (by decide)]; exact a1)]
      refine fin M e (fun _ _ _ _ => rfl) h.2.2.2.2.2.2 (eR_0 (by rw [eb]))
