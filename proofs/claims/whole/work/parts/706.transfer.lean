/-! the class: what is on its way, a message is made, a frame's octets -/
def toT (n : Nat → Nat → Nat) (b : Nat → Nat → Bool) (f : Nat) : Bool := b 0 (n 11 f) == decide (n 10 f = 3)
def onW (n : Nat → Nat → Nat) (b : Nat → Nat → Bool) (c : Nat) (tt : Bool) (f : Nat) : Bool := !b 1 f && (decide (n 1 (n 11 f) = c) && (toT n b f == tt))
def rchP (c : Nat) (tt : Bool) (p : PB) : PB × Nat := match (List.range (p.1 0 2)).find? (onW p.1 p.2 c tt) with
  | none => (p, 0)
  | some f => rvQ f (p.1, mset p.2 1 f true)
theorem mzz_b {β : Type} {b : Bool} {x : Option β} : mzz (bI b) x = x := by
  unfold mzz
  rw [if_pos bI_z]
theorem c_isQuestion {fu m : Nat} {A : mwM} {L : mwL} {n : Nat → Nat → Nat} {b : Nat → Nat → Bool} {o : Nat → Nat → Nat} (h : TfC A n b o) (hK : n 0 0 ≤ 100) (h1 : 1 ≤ m) (h2 : m ≤ n 0 0) : DX9_isQuestion fu (sI m) A L = some (bI (b 0 m), A, L) := by
  have e := (h.2.1 m h1 h2).2.1
  unfold DX9_isQuestion fX9_isQuestion_b17
  rw [mck_s (by omega) (by omega), sI_nn (by omega), e]
  cases b 0 m
  · rw [if_neg (by decide)]
    unfold mzz
    rw [if_pos (by decide)]
    rfl
  · rw [if_pos (by decide)]
    unfold mzz
    rw [if_pos (by decide)]
    rfl
theorem c_controllerOf {fu f : Nat} {A : mwM} {L : mwL} {n : Nat → Nat → Nat} {b : Nat → Nat → Bool} {o : Nat → Nat → Nat} (h : TfC A n b o) (hv : TfV n b) (hf : f < n 0 1) : DX9_controllerOf fu (sI f) A L = some (sI (n 1 (n 11 f)), A, L) := by
  have hF := Tf_F hv
  have hg := hv.2.2.2 f hf
  have hK := hv.1.1
  have e := (h.2.2.2 f hf).2.1
  have e1 := (h.2.1 (n 11 f) hg.2.1 hg.2.2.1).1
  unfold DX9_controllerOf
  rw [mck_s (by omega) (by omega), sI_nn (by omega), e, mck_s (by omega) (by omega), sI_nn (by omega), e1]
theorem c_isToTester {fu f : Nat} {A : mwM} {L : mwL} {n : Nat → Nat → Nat} {b : Nat → Nat → Bool} {o : Nat → Nat → Nat} (h : TfC A n b o) (hv : TfV n b) (hf : f < n 0 1) : DX9_isToTester fu (sI f) A L = some (bI (toT n b f), A, L) := by
  have hF := Tf_F hv
  have hg := hv.2.2.2 f hf
  have hK := hv.1.1
  obtain ⟨e0, e1, _, _⟩ := h.2.2.2 f hf
  unfold DX9_isToTester fX9_isToTester_b29 fX9_isToTester_b37
  rw [mck_s (by omega) (by omega), sI_nn (by omega), e1, c_isQuestion h hK hg.2.1 hg.2.2.1, mb3_s, mck_s (by omega) (by omega), e0]
  unfold toT
  by_cases h3 : n 10 f = 3
  · rw [if_pos (by rw [h3]; rfl), decide_eq_true h3]
    cases b 0 (n 11 f)
    · rw [if_neg (by decide)]; rfl
    · rw [if_pos (by decide)]; rfl
  · rw [if_neg (by rw [sI_eql (by omega) (by decide)]; exact h3), decide_eq_false h3]
    cases b 0 (n 11 f)
    · rw [if_pos (by decide)]; rfl
    · rw [if_neg (by decide)]; rfl
theorem bI_eq {a b : Bool} : (bI a = bI b) ↔ a = b := by cases a <;> cases b <;> decide
theorem rch_some {c f : Nat} {tt : Bool} {p : PB} (hf : f < p.1 0 2) (ho : onW p.1 p.2 c tt f = true) (hn : ∀ j, j < f → onW p.1 p.2 c tt j = false) : rchP c tt p = rvQ f (p.1, mset p.2 1 f true) := by
  unfold rchP
  have : (List.range (p.1 0 2)).find? (onW p.1 p.2 c tt) = some f := List.find?_range_eq_some.mpr ⟨ho, List.mem_range.mpr hf, fun j hj => by rw [hn j hj]; rfl⟩
  rw [this]
theorem rch_none {c : Nat} {tt : Bool} {p : PB} (hn : ∀ j, j < p.1 0 2 → onW p.1 p.2 c tt j = false) : rchP c tt p = (p, 0) := by
  unfold rchP
  have : (List.range (p.1 0 2)).find? (onW p.1 p.2 c tt) = none := List.find?_range_eq_none.mpr (fun j hj => by rw [hn j hj]; rfl)
  rw [this]
theorem c_reach {fu c : Nat} {tt : Bool} {A : mwM} {L : mwL} {p : PB} {o : Nat → Nat → Nat} (hfu : 1700 ≤ fu) (hc : c < 6) (hv : TfV p.1 p.2) (h : TfC A p.1 p.2 o) : wq (DX9_reach fu (sI c) (bI tt) A L) (fun z => z.1 = sI (rchP c tt p).2 ∧ z.2.2 = L ∧ TfC z.2.1 (rchP c tt p).1.1 (rchP c tt p).1.2 o ∧ TfV (rchP c tt p).1.1 (rchP c tt p).1.2 ∧ ∀ a y, ¬ (a = 154 ∨ a = 159 ∨ (264 ≤ a ∧ a ≤ 268) ∨ (270 ≤ a ∧ a ≤ 273)) → z.2.1 a y = A a y) := by
  have hF := Tf_F hv
  have hH := hv.1.2.1
  have hK := hv.1.1
  unfold DX9_reach
  refine wq_for (body := fun r z => fX9_reach_i2 fu (sI c) (bI tt) r z.1 z.2.1 z.2.2) (fun i (_ : Unit) => (sI i, A, L)) (fun i _ => ∀ j, j < i → onW p.1 p.2 c tt j = false) (p.1 0 2) ?_ ?_ (p.1 0 2) 0 () fu (by omega) (by omega) (fun j u => by omega)
  · intro i _ r hi hn ih
    show wq (fX9_reach_i2 fu (sI c) (bI tt) r (sI i) A L) _
    have hfi := h.2.2.2 i (by omega)
    have hvi := hv.2.2.2 i (by omega)
    have h6 := (hv.2.1 _ hvi.2.1 hvi.2.2.1).1
    unfold fX9_reach_i2 fX9_reach_b54
    simp only [mlet]
    rw [h.1.2.2.1, if_neg (by rw [sI_le (by omega) (by omega)]; omega), mck_s (by omega) (by omega), sI_nn (by omega), hfi.2.2.2, sI_1]
    have no : onW p.1 p.2 c tt i = false → wq (r (sI (i + 1), A, L)) _ := fun hno => ih () (fun j hj => by
      by_cases hq : j = i
      · rw [hq]; exact hno
      · exact hn j (by omega))
    by_cases a1 : p.2 1 i = true
    · rw [if_neg (by rw [a1]; decide)]
      exact no (by unfold onW; rw [a1]; rfl)
    · have a1' : p.2 1 i = false := by simpa using a1
      rw [if_pos (by rw [a1']; rfl), c_controllerOf h hv (by omega), mb3_s]
      by_cases a2 : p.1 1 (p.1 11 i) = c
      · rw [if_pos (show sI (p.1 1 (p.1 11 i)) = sI c by rw [a2]), c_isToTester h hv (by omega), mb3_s]
        by_cases a3 : toT p.1 p.2 i = tt
        · rw [if_pos (show bI (toT p.1 p.2 i) = bI tt by rw [a3]), mck_s (by omega) (by omega)]
          have hon : onW p.1 p.2 c tt i = true := by
            unfold onW
            rw [a1', a2, a3]
            simp
          rw [rch_some hi hon hn]
          have hg := V_gone (f := i) hv
          have hvr : TfV (rvQ i (p.1, mset p.2 1 i true)).1.1 (rvQ i (p.1, mset p.2 1 i true)).1.2 := V_rv (p := (p.1, mset p.2 1 i true)) hg (by dsimp only; omega) (fun k1 => ⟨by dsimp only; rw [mset_n (by omega)]; exact (hvi.2.2.2.2.2.2.2.2 k1).1 a1', mset_s⟩)
          have hC : TfC (mset A 273 i 1) p.1 (mset p.2 1 i true) o := by
            refine TfC_ch h hK (fun a y u => by simp (disch := omega) only [mset_n]) (fun _ _ _ _ => rfl) (fun j => mset_n (by omega)) ?_ (fun j u v => ?_) (fun _ z => z) (fun r u => ?_) (fun g u => ?_)
            · simp (disch := omega) only [mset_n]
              exact h.1.2.2.2.2.2
            · simp (disch := omega) only [mset_n]
              exact TfC_st2 h j u v
            · simp (disch := omega) only [mset_n]
              exact h.2.2.1 r u
            · by_cases hq : g = i
              · rw [hq, mset_s, mset_s]; rfl
              · rw [mset_j hq, mset_j hq]
                exact TfC_gn h g u
          refine wq_b3 (c_receive (p := (p.1, mset p.2 1 i true)) hg ?_ hC (by dsimp only; omega)) ?_
          · by_cases k1 : p.1 10 i = 1
            · left
              have := Tf_F hvr
              have e : (rvQ i (p.1, mset p.2 1 i true)).1.1 0 1 = p.1 0 1 + 1 := by
                unfold rvQ
                dsimp only
                rw [if_neg (by omega), if_neg (by omega), if_neg (by omega)]
                unfold fsP fsN
                dsimp only
                rw [mk_F]
                simp (disch := omega) only [mset_n]
              rw [e] at this
              dsimp only
              omega
            · exact Or.inr k1
          rintro r1 M1 L1 ⟨y0, y1, y2, y3⟩
          dsimp only at y0 y1 y2 y3
          refine wq_some ⟨y0, y1, y2, hvr, fun a y u => ?_⟩
          dsimp only
          rw [y3 a y u, mset_n (by omega)]
        · rw [if_neg (by rw [bI_eq]; exact a3)]
          refine no ?_
          unfold onW
          have : (toT p.1 p.2 i == tt) = false := by simpa using a3
          rw [this, Bool.and_false, Bool.and_false]
      · rw [if_neg (by rw [sI_eq (by omega) (by omega)]; exact a2)]
        refine no ?_
        unfold onW
        rw [decide_eq_false a2, Bool.false_and, Bool.and_false]
  · intro _ r hn
    show wq (fX9_reach_i2 fu (sI c) (bI tt) r (sI (p.1 0 2)) A L) _
    unfold fX9_reach_i2
    rw [h.1.2.2.1, if_pos (by rw [sI_le (by omega) (by omega)]; omega), rch_none hn]
    exact wq_some ⟨rfl, rfl, h, hv, fun _ _ _ => rfl⟩
/-! a message is made -/
def maN (c sz : Nat) (n : Nat → Nat → Nat) : Nat → Nat → Nat := mset (mset (mset (mset (mset n 1 (n 0 0 + 1) c) 2 (n 0 0 + 1) sz) 3 (n 0 0 + 1) 0) 4 (n 0 0 + 1) 0) 0 0 (n 0 0 + 1)
def maB (a : Bool) (n : Nat → Nat → Nat) (b : Nat → Nat → Bool) : Nat → Nat → Bool := mset (mset b 0 (n 0 0 + 1) a) 3 (n 0 0 + 1) false
def maO (v : Nat → Nat) (n o : Nat → Nat → Nat) : Nat → Nat → Nat := fun m i => if m = n 0 0 + 1 then v i else o m i
theorem ma_o {c sz i j : Nat} {n : Nat → Nat → Nat} (h : ¬ (1 ≤ i ∧ i ≤ 4 ∧ j = n 0 0 + 1)) (h2 : ¬ (i = 0 ∧ j = 0)) : maN c sz n i j = n i j := by
  unfold maN
  rw [mset_n (by omega), mset_n (by omega), mset_n (by omega), mset_n (by omega), mset_n (by omega)]
theorem ma_0 {c sz : Nat} {n : Nat → Nat → Nat} : maN c sz n 0 0 = n 0 0 + 1 := by
  unfold maN
  rw [mset_s]
theorem ma_1 {c sz : Nat} {n : Nat → Nat → Nat} : maN c sz n 1 (n 0 0 + 1) = c ∧ maN c sz n 2 (n 0 0 + 1) = sz ∧ maN c sz n 3 (n 0 0 + 1) = 0 ∧ maN c sz n 4 (n 0 0 + 1) = 0 := by
  unfold maN
  simp (disch := omega) only [mset_n, mset_s, and_self]
theorem maB_o {a : Bool} {i j : Nat} {n : Nat → Nat → Nat} {b : Nat → Nat → Bool} (h : ¬ (j = n 0 0 + 1 ∧ (i = 0 ∨ i = 3))) : maB a n b i j = b i j := by
  unfold maB
  rw [mset_n (by omega), mset_n (by omega)]
theorem maB_0 {a : Bool} {n : Nat → Nat → Nat} {b : Nat → Nat → Bool} : maB a n b 0 (n 0 0 + 1) = a ∧ maB a n b 3 (n 0 0 + 1) = false := by
  unfold maB
  rw [mset_n (by omega), mset_s, mset_s]
  exact ⟨rfl, rfl⟩
theorem su_eq {g h : Nat → Nat} (k : Nat) (hh : ∀ m, 1 ≤ m → m ≤ k → g m = h m) : suN g k = suN h k :=
  Nat.le_antisymm (su_le k (fun m u1 u2 => by rw [hh m u1 u2]; exact Nat.le_refl _)) (su_le k (fun m u1 u2 => by rw [hh m u1 u2]; exact Nat.le_refl _))
theorem V_ma {c sz : Nat} {a : Bool} {n : Nat → Nat → Nat} {b : Nat → Nat → Bool} (h : TfV n b) (hK : n 0 0 < 100) (hc : c < 6) (hs : 1 ≤ sz ∧ sz ≤ 100) : TfV (maN c sz n) (maB a n b) := by
  obtain ⟨⟨w1, w2, w3, w4, w5⟩, w6, w7, w8⟩ := h
  obtain ⟨m1, m2, m3, m4⟩ := @ma_1 c sz n
  refine ⟨⟨?_, ?_, ?_, ?_, ?_⟩, ?_, ?_, ?_⟩
  · rw [ma_0]; omega
  · rw [ma_o (by omega) (by omega), ma_o (by omega) (by omega)]; exact w2
  · rw [ma_o (by omega) (by omega)]; exact w3
  · rw [ma_0, ma_o (by omega) (by omega)]; omega
  · rw [ma_0, ma_o (by omega) (by omega)]
    show n 0 1 ≤ suN _ (n 0 0) + cbF _ _ (n 0 0 + 1)
    have := su_eq (g := cbF n b) (h := cbF (maN c sz n) (maB a n b)) (n 0 0) (fun m u1 u2 => by
      unfold cbF
      rw [ma_o (by omega) (by omega), ma_o (by omega) (by omega), maB_o (by omega)])
    omega
  · intro m u1 u2
    rw [ma_0] at u2
    by_cases hq : m = n 0 0 + 1
    · rw [hq, m1, m2, m3, m4, (@maB_0 a n b).2]
      refine ⟨hc, hs.1, hs.2, by omega, by omega, fun z => by omega, fun z => ?_, fun z => by cases z⟩
      rw [ma_o (by omega) (by omega)] at z
      omega
    · have := w6 m u1 (by omega)
      rw [ma_o (by omega) (by omega), ma_o (by omega) (by omega), ma_o (by omega) (by omega), ma_o (by omega) (by omega), ma_o (i := 0) (j := 3) (by omega) (by omega), ma_o (i := 0) (j := 4) (by omega) (by omega), maB_o (by omega)]
      exact this
  · intro r u
    have := w7 r u
    rw [ma_o (i := 5) (by omega) (by omega), ma_o (i := 6) (by omega) (by omega), ma_o (i := 7) (by omega) (by omega), ma_o (i := 8) (by omega) (by omega), ma_o (i := 9) (by omega) (by omega), ma_o (i := 0) (j := 3) (by omega) (by omega), ma_0]
    refine ⟨this.1, fun z => ?_⟩
    have h2 := this.2 z
    rw [ma_o (by omega) (by omega)]
    exact ⟨h2.1, by omega, h2.2.2⟩
  · intro f u
    rw [ma_o (by omega) (by omega)] at u
    have := w8 f u
    rw [ma_o (i := 10) (by omega) (by omega), ma_o (i := 11) (by omega) (by omega), ma_o (i := 12) (by omega) (by omega), ma_o (i := 0) (j := 1) (by omega) (by omega), ma_0, ma_o (i := 2) (by omega) (by omega), ma_o (i := 3) (by omega) (by omega), maB_o (by omega), maB_o (by omega)]
    refine ⟨this.1, this.2.1, by omega, this.2.2.2.1, this.2.2.2.2.1, this.2.2.2.2.2.1, this.2.2.2.2.2.2.1, this.2.2.2.2.2.2.2.1, fun hk => ⟨(this.2.2.2.2.2.2.2.2 hk).1, fun f' v1 v2 v3 => ?_⟩⟩
    rw [ma_o (by omega) (by omega)] at v2 v3
    exact (this.2.2.2.2.2.2.2.2 hk).2 f' v1 v2 v3
theorem c_make9 {fu c a3 n3 sz : Nat} {a : Bool} {A : mwM} {L : mwL} {n : Nat → Nat → Nat} {b : Nat → Nat → Bool} {o : Nat → Nat → Nat} {v : Nat → Nat} (hfu : 200 ≤ fu) (hv : TfV n b) (h : TfC A n b o) (hK : n 0 0 < 100) (hs : 1 ≤ sz ∧ sz ≤ 100) (hn3 : sz ≤ n3) (ha3 : a3 < 154 ∨ 269 ≤ a3) (hsrc : ∀ i, i < sz → A a3 i = sI (v i)) : wq (DX9_make fu (sI c) (bI a) a3 n3 (sI sz) A L) (fun z => z.2 = L ∧ TfC z.1 (maN c sz n) (maB a n b) (maO v n o) ∧ ∀ x y, ¬ (x = 154 ∨ (156 ≤ x ∧ x ≤ 159) ∨ x = 162 + n 0 0 + 1) → z.1 x y = A x y) := by
  obtain ⟨k1, k2, k3, k4⟩ := h
  obtain ⟨m1, m2, m3, m4⟩ := @ma_1 c sz n
  have loop : ∀ a0 : mwM, a0 154 5 = sI (n 0 0 + 1) → (∀ i, i < sz → a0 a3 i = sI (v i)) → (∀ Q : mwM × mwL → Prop, (∀ a1 : mwM, (∀ i, i < sz → a1 (162 + n 0 0 + 1) i = sI (v i)) → (∀ x y, x ≠ 162 + n 0 0 + 1 → a1 x y = a0 x y) → Q (a1, L)) → wq (fX9_make_h93 fu (sI c) (bI a) a3 n3 (sI sz) fu (0, a0, L)) Q) := by
    intro a0 e5 es Q hQ
    refine wq_for (body := fun r z => fX9_make_i93 fu (sI c) (bI a) a3 n3 (sI sz) r z.1 z.2.1 z.2.2) (fun i (w : mwM) => (sI i, w, L)) (fun i w => (∀ j, j < i → w (162 + n 0 0 + 1) j = sI (v j)) ∧ ∀ x y, x ≠ 162 + n 0 0 + 1 → w x y = a0 x y) sz ?_ ?_ sz 0 a0 fu (by omega) (by omega) ⟨fun j u => by omega, fun _ _ _ => rfl⟩
    · intro i w r hi ⟨q1, q2⟩ ih
      show wq (fX9_make_i93 fu (sI c) (bI a) a3 n3 (sI sz) r (sI i) w L) _
      unfold fX9_make_i93
      rw [if_neg (by rw [sI_le (by omega) (by omega)]; omega), q2 154 5 (by omega), e5, mck_s (by omega) (by omega), mck_s (by omega) (by omega), mck_s (by omega) (by omega), sI_nn (by omega), sI_nn (by omega), q2 a3 i (by omega), es i hi]
      simp only [mlet]
      rw [sI_1]
      refine ih _ ⟨fun j u => ?_, fun x y u => ?_⟩
      · by_cases hq : j = i
        · rw [hq]
          exact mset_s
        · rw [mset_j hq]; exact q1 j (by omega)
      · rw [mset_n (by omega)]; exact q2 x y u
    · intro w r ⟨q1, q2⟩
      show wq (fX9_make_i93 fu (sI c) (bI a) a3 n3 (sI sz) r (sI sz) w L) _
      unfold fX9_make_i93
      rw [if_pos (by rw [sI_le (by omega) (by omega)]; omega)]
      exact wq_some (hQ w q1 q2)
  have fin : ∀ (a0 : mwM) (s2 : Int32), s2 = bI a → a0 = mset (mset A 154 5 (sI (n 0 0 + 1))) 156 (n 0 0 + 1) (sI c) → wq (fX9_make_b64 fu (sI c) (bI a) a3 n3 (sI sz) (sI (n 0 0 + 1)) s2 a0 L) (fun z => z.2 = L ∧ TfC z.1 (maN c sz n) (maB a n b) (maO v n o) ∧ ∀ x y, ¬ (x = 154 ∨ (156 ≤ x ∧ x ≤ 159) ∨ x = 162 + n 0 0 + 1) → z.1 x y = A x y) := by
    intro a0 s2 hs2 ha0
    unfold fX9_make_b64
    subst ha0
    simp (disch := omega) only [mset_n, mset_s, mck_s, sI_nn, nn_s, sI_lt, sI_le, sI_eq, sI_ltl, sI_lel, sI_eql, sI_llt, sI_lle, sI_1, bI_0, bI_1, bI_n, mlet, mb3_s, mb2_s]
    refine loop _ (by simp (disch := omega) only [mset_n, mset_s]) (fun i u => by simp (disch := omega) only [mset_n, hsrc]) _ ?_
    intro a1 q1 q2
    refine ⟨rfl, ⟨?_, ?_, ?_, ?_⟩, fun x y u => ?_⟩
    all_goals (try dsimp only)
    · rw [q2 154 5 (by omega), q2 154 6 (by omega), q2 154 7 (by omega), q2 154 8 (by omega), q2 154 9 (by omega), q2 154 10 (by omega), ma_0, ma_o (by omega) (by omega), ma_o (by omega) (by omega), ma_o (by omega) (by omega), ma_o (by omega) (by omega), maB_o (by omega)]
      simp (disch := omega) only [mset_n, mset_s]
      exact ⟨trivial, k1.2⟩
    · intro m u1 u2
      rw [ma_0] at u2
      rw [q2 156 m (by omega), q2 157 m (by omega), q2 158 m (by omega), q2 159 m (by omega), q2 160 m (by omega)]
      by_cases hq : m = n 0 0 + 1
      · rw [hq, m1, m2, m3, (@maB_0 a n b).1]
        simp (disch := omega) only [mset_n, mset_s]
        refine ⟨trivial, hs2, trivial, rfl, fun z => absurd rfl z, fun i u => ?_⟩
        rw [show 162 + (n 0 0 + 1) = 162 + n 0 0 + 1 by omega, q1 i u]
        unfold maO
        rw [if_pos rfl]
      · have := k2 m u1 (by omega)
        rw [ma_o (by omega) (by omega), ma_o (by omega) (by omega), ma_o (by omega) (by omega), ma_o (by omega) (by omega), maB_o (by omega)]
        simp (disch := omega) only [mset_n]
        refine ⟨this.1, this.2.1, this.2.2.1, this.2.2.2.1, this.2.2.2.2.1, fun i u => ?_⟩
        unfold maO
        rw [if_neg hq, q2 _ _ (by omega)]
        simp (disch := omega) only [mset_n]
        exact this.2.2.2.2.2 i u
    · intro r u
      have := k3 r u
      rw [q2 264 r (by omega), q2 265 r (by omega), q2 266 r (by omega), q2 267 r (by omega), q2 268 r (by omega), ma_o (by omega) (by omega), ma_o (by omega) (by omega), ma_o (by omega) (by omega), ma_o (by omega) (by omega), ma_o (by omega) (by omega)]
      simp (disch := omega) only [mset_n]
      exact this
    · intro f u
      rw [ma_o (by omega) (by omega)] at u
      have := k4 f u
      rw [q2 270 f (by omega), q2 271 f (by omega), q2 272 f (by omega), q2 273 f (by omega), ma_o (by omega) (by omega), ma_o (by omega) (by omega), ma_o (by omega) (by omega), maB_o (by omega)]
      simp (disch := omega) only [mset_n]
      exact this
    · rw [q2 x y (by omega)]
      simp (disch := omega) only [mset_n]
  unfold DX9_make
  rw [k1.1, if_neg (by rw [sI_lle (by decide) (by omega)]; omega), if_neg (by rw [sI_ltl (by omega) (by decide)]; omega), if_pos (by rw [sI_lel (by omega) (by decide)]; omega)]
  simp (disch := omega) only [mset_n, mset_s, mck_s, sI_nn, nn_s, sI_lt, sI_le, sI_eq, sI_ltl, sI_lel, sI_eql, sI_llt, sI_lle, sI_1, bI_0, bI_1, bI_n, mlet, mb3_s, mb2_s]
  cases a
  · rw [if_pos rfl]
    exact fin _ 0 rfl rfl
  · rw [if_neg (by decide)]
    exact fin _ 1 rfl rfl
