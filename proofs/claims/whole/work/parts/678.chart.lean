/-! what a step takes -/
def kyE (c : Nat → Nat → Nat) (e : Nat) : Nat := c 3 (c 4 e)
def doE (c : Nat → Nat → Nat) (e : Nat) : Nat := bst (c 1) (c 2) (c 3) (c 4) (c 5) (c 0 1) e (c 0 0)
def cnB (c : Nat → Nat → Nat) (b : Nat → Nat → Bool) (v e : Nat) : Bool := decide (c 6 e = v) && goB (c 2) (c 4) (c 5) (c 0 1) (b 0) e
def rdB (c : Nat → Nat → Nat) (b : Nat → Nat → Bool) (D : Nat → Int64) (v e : Nat) : Bool := cnB c b v e && hdB D (c 7 e)
def rlL (c : Nat → Nat → Nat) (b : Nat → Nat → Bool) (D : Nat → Int64) (v : Nat) : Nat → List Nat
  | 0 => []
  | i + 1 => rlL c b D v i ++ (if rdB c b D v (i + 1) = true then [i + 1] else [])
def seb (c : Nat → Nat → Nat) (b : Nat → Nat → Bool) (D : Nat → Int64) (v n : Nat) : Nat → Nat → Bool := fun r e => if r = 4 then b 4 e || (decide (e ≤ n) && (cnB c b v e && (decide (c 7 e ≠ 0) && hdB D (c 7 e)))) else if r = 5 then b 5 e || (decide (e ≤ n) && (cnB c b v e && (decide (c 7 e ≠ 0) && !hdB D (c 7 e)))) else b r e
def zcN (c : Nat → Nat → Nat) (b : Nat → Nat → Bool) (D : Nat → Int64) (v : Nat) (z : Int32) : Nat → Int32
  | 0 => z
  | i + 1 => if (cnB c b v (i + 1) && hzB D (c 7 (i + 1))) = true then zcN c b D v z i + 1 else zcN c b D v z i
def sex (c : Nat → Nat → Nat) (b : Nat → Nat → Bool) (D : Nat → Int64) (x : Nat → Int32) (v n : Nat) : Nat → Int32 := fun i => if i = 1 then zcN c b D v (x 1) n else x i
def clS (c : Nat → Nat → Nat) (b : Nat → Nat → Bool) (st : (Nat → Bool) × List Nat) (e : Nat) : (Nat → Bool) × List Nat := if apB (c 1) (c 3) (b 0) (c 0 0) (doE c e) st.1 = true then (fun s => st.1 s || exB (c 1) (c 3) (b 0) (doE c e) s, st.2 ++ [e]) else st
def clL (c : Nat → Nat → Nat) (b : Nat → Nat → Bool) (l : List Nat) : (Nat → Bool) × List Nat := l.foldl (clS c b) (fun _ => false, [])
def srL (c : Nat → Nat → Nat) (b : Nat → Nat → Bool) (D : Nat → Int64) (v : Nat) : List Nat := soL (kyE c) (rlL c b D v (c 0 1)) 41
def tkL (c : Nat → Nat → Nat) (b : Nat → Nat → Bool) (D : Nat → Int64) (v : Nat) : List Nat := (clL c b (srL c b D v)).2
theorem rl_mem {c : Nat → Nat → Nat} {b : Nat → Nat → Bool} {D : Nat → Int64} {v x : Nat} : ∀ n, x ∈ rlL c b D v n → 1 ≤ x ∧ x ≤ n ∧ rdB c b D v x = true := by
  intro n
  induction n with
  | zero => intro h; cases h
  | succ n ih =>
    intro h
    have h' : x ∈ rlL c b D v n ++ (if rdB c b D v (n + 1) = true then [n + 1] else []) := h
    rw [List.mem_append] at h'
    rcases h' with h' | h'
    · have := ih h'
      exact ⟨this.1, by omega, this.2.2⟩
    · split at h'
      · rename_i hr
        rw [List.mem_singleton] at h'
        subst h'
        exact ⟨by omega, by omega, hr⟩
      · cases h'
theorem rl_len {c : Nat → Nat → Nat} {b : Nat → Nat → Bool} {D : Nat → Int64} {v : Nat} : ∀ n, (rlL c b D v n).length ≤ n := by
  intro n
  induction n with
  | zero => exact Nat.le_refl _
  | succ n ih =>
    show (rlL c b D v n ++ (if rdB c b D v (n + 1) = true then [n + 1] else [])).length ≤ n + 1
    rw [List.length_append]
    split
    · rw [List.length_singleton]; omega
    · rw [List.length_nil]; omega
theorem rd_src {c : Nat → Nat → Nat} {b : Nat → Nat → Bool} {D : Nat → Int64} {v e : Nat} (h : rdB c b D v e = true) : ∃ j, 1 ≤ j ∧ j ≤ c 0 1 ∧ sS (c 2) (c 4) (c 5) e j = true ∧ b 0 (c 4 j) = true := by
  unfold rdB cnB goB wtB at h
  simp only [Bool.and_eq_true] at h
  obtain ⟨j, h1, h2, h3⟩ := (anyN_iff _).mp h.1.2.2.2.1
  refine ⟨j, h1, h2, h3, ?_⟩
  have := (allN_iff _).mp h.1.2.2.2.2 j h1 h2
  rw [h3] at this
  simpa using this
theorem ky_le {c : Nat → Nat → Nat} (hv : Cv c) {e : Nat} (h1 : 1 ≤ e) (h2 : e ≤ c 0 1) : 1 ≤ kyE c e ∧ kyE c e ≤ 40 := by
  obtain ⟨j1, j2, _⟩ := hv.2.1.2 e h1 h2
  have := hv.1.2.2.2.2 _ j1 j2
  unfold kyE
  omega
theorem sr_mem {c : Nat → Nat → Nat} {b : Nat → Nat → Bool} {D : Nat → Int64} {v x : Nat} (h : x ∈ srL c b D v) : 1 ≤ x ∧ x ≤ c 0 1 ∧ rdB c b D v x = true := rl_mem _ ((so_mem 41).mp h).1
theorem sr_len {c : Nat → Nat → Nat} {b : Nat → Nat → Bool} {D : Nat → Int64} {v n : Nat} (hv : Cv c) (hn : n ≤ c 0 1) : (soL (kyE c) (rlL c b D v n) 41).length = (rlL c b D v n).length := so_len _ _ rfl (fun x hx => by
  have h := rl_mem _ hx
  have := ky_le hv h.1 (by omega)
  omega)
theorem doE_le {c : Nat → Nat → Nat} {e : Nat} : doE c e ≤ c 0 0 := bst_le _
/-- the class selects -/
theorem c_select {fu : Nat} {A : mwM} {L : mwL} {k v : Nat} {c : Nat → Nat → Nat} {b : Nat → Nat → Bool} {va : Nat → Int32} {D : Nat → Int64} {x : Nat → Int32} (hf : 402 ≤ fu) (hv : Cv c) (h : ReC k A L c b va D x) (hD : DoC k A c) (hvv : v < 2000) : wq (DX2_select fu k (sI v) A L) (fun z => z.1 = sI (tkL c b D v).length ∧ z.2.2 = L ∧ ReC k z.2.1 L c (seb c b D v (c 0 1)) va D (sex c b D x v (c 0 1)) ∧ LiZ z.2.1 (k + 27) (tkL c b D v) ∧ ∀ a y, ¬ (a = k + 15 ∨ a = k + 16 ∨ a = k + 26 ∨ a = k + 27) → ¬ (a = k ∧ y = 15) → z.2.1 a y = A a y) := by
  have hT := hv.1
  have hE := hv.2.1
  have hN := hT.1
  have hE4 := hE.1
  obtain ⟨hC, hEC, hXC, hf4, h5, h6, h7, h8⟩ := h
  have hac : ∀ s, 1 ≤ s → s ≤ c 0 0 → A (k + 7) s = bI (b 0 s) := fun s u1 u2 => (h6 s u1 u2).1
  have hLD : L (k + 34) = D := hf4.2.2.2.2.2
  -- what holds behind the first way through
  have build : ∀ B : mwM, (∀ e, 1 ≤ e → e ≤ c 0 1 → B (k + 26) e = sI (sn (b 3 e) (seb c b D v (c 0 1) 4 e) (seb c b D v (c 0 1) 5 e))) → B k 15 = zcN c b D v (x 1) (c 0 1) → (∀ a y, ¬ (a = k + 15 ∨ a = k + 16 ∨ a = k + 26 ∨ a = k + 27) → ¬ (a = k ∧ y = 15) → B a y = A a y) → ReC k B L c (seb c b D v (c 0 1)) va D (sex c b D x v (c 0 1)) := by
    intro B g1 g2 g3
    have hb : ∀ r, r ≠ 4 → r ≠ 5 → seb c b D v (c 0 1) r = b r := by
      intro r u1 u2
      funext e
      unfold seb
      rw [if_neg u1, if_neg u2]
    have hK : ∀ s, chK c (seb c b D v (c 0 1)) s = chK c b s := by
      intro s
      unfold chK
      rw [hb 0 (by omega) (by omega)]
    unfold ReC ReC'
    rw [hb 0 (by omega) (by omega), hb 1 (by omega) (by omega), hb 2 (by omega) (by omega), hb 3 (by omega) (by omega), hb 6 (by omega) (by omega)]
    refine ⟨TrC_f hC (g3 _ _ (by omega) (by omega)) (fun a s u1 u2 => g3 _ _ (by omega) (by omega)), ?_, ?_, ?_, ?_, ?_, ?_, ?_⟩
    · refine ⟨?_, fun e u1 u2 => ?_⟩
      · simp (disch := omega) only [g3]; exact hEC.1
      · simp (disch := omega) only [g3]; exact hEC.2 e u1 u2
    · refine ⟨?_, fun e u1 => ?_⟩
      · simp (disch := omega) only [g3]; exact hXC.1
      · simp (disch := omega) only [g3]; exact hXC.2 e u1
    · simp (disch := omega) only [g3]
      exact ⟨hf4.1, hf4.2.1, hf4.2.2.1, g2, hf4.2.2.2.2⟩
    · intro s hs
      rw [hK]
      simp (disch := omega) only [g3]; exact h5 s hs
    · intro s u1 hs
      simp (disch := omega) only [g3]; exact h6 s u1 hs
    · refine ⟨fun i w hw => ?_, fun i w hw => ?_⟩
      · simp (disch := omega) only [g3]; exact h7.1 i w hw
      · simp (disch := omega) only [g3]; exact h7.2 i w hw
    · intro e u1 u2
      exact g1 e u1 u2
  -- the last way: claiming
  have claiming : ∀ B : mwM, LiZ B (k + 27) (srL c b D v) → (∀ s, 1 ≤ s → s ≤ c 0 0 → B (k + 15) s = bI false) → (∀ e, 1 ≤ e → e ≤ c 0 1 → B (k + 26) e = sI (sn (b 3 e) (seb c b D v (c 0 1) 4 e) (seb c b D v (c 0 1) 5 e))) → B k 15 = zcN c b D v (x 1) (c 0 1) → (∀ a y, ¬ (a = k + 15 ∨ a = k + 16 ∨ a = k + 26 ∨ a = k + 27) → ¬ (a = k ∧ y = 15) → B a y = A a y) → wq (fX2_select_h90 fu k (sI v) fu (sI (srL c b D v).length, 0, 0, B, L)) (fun z => z.1 = sI (tkL c b D v).length ∧ z.2.2 = L ∧ ReC k z.2.1 L c (seb c b D v (c 0 1)) va D (sex c b D x v (c 0 1)) ∧ LiZ z.2.1 (k + 27) (tkL c b D v) ∧ ∀ a y, ¬ (a = k + 15 ∨ a = k + 16 ∨ a = k + 26 ∨ a = k + 27) → ¬ (a = k ∧ y = 15) → z.2.1 a y = A a y) := by
    intro B o1 o2 o3 o4 o5
    have hsl : (srL c b D v).length ≤ c 0 1 := by
      unfold srL
      rw [sr_len hv (Nat.le_refl _)]
      exact rl_len _
    refine wq_for (body := fun r z => fX2_select_i90 fu k (sI v) r z.1 z.2.1 z.2.2.1 z.2.2.2.1 z.2.2.2.2) (fun i (a : mwM) => (sI (srL c b D v).length, sI (clL c b ((srL c b D v).take i)).2.length, sI i, a, L)) (fun i a => (clL c b ((srL c b D v).take i)).2.length ≤ i ∧ LiZ a (k + 27) (clL c b ((srL c b D v).take i)).2 ∧ (∀ j w, i ≤ j → (srL c b D v)[j]? = some w → a (k + 27) j = sI w) ∧ (∀ s, 1 ≤ s → s ≤ c 0 0 → a (k + 15) s = bI ((clL c b ((srL c b D v).take i)).1 s)) ∧ ∀ d y, d ≠ k + 15 → d ≠ k + 16 → d ≠ k + 27 → a d y = B d y) (srL c b D v).length ?_ ?_ (srL c b D v).length 0 B fu (by omega) (by omega) ⟨Nat.le_refl _, fun j w hw => absurd hw (by simp [clL]), fun j w _ hw => o1 j w hw, o2, fun _ _ _ _ _ => rfl⟩
    · intro i a r hi ⟨q1, q2, q3, q4, q5⟩ ih
      show wq (fX2_select_i90 fu k (sI v) r (sI (srL c b D v).length) (sI (clL c b ((srL c b D v).take i)).2.length) (sI i) a L) _
      have hg := List.getElem?_eq_getElem hi
      generalize hew : (srL c b D v)[i] = e at hg
      have hmem : e ∈ srL c b D v := by rw [← hew]; exact List.getElem_mem hi
      obtain ⟨e1, e2, e3⟩ := sr_mem hmem
      obtain ⟨j, j1, j2, j3, _⟩ := rd_src e3
      have f1 := q3 i e (Nat.le_refl _) hg
      have f2 : a (k + 25) e = sI (doE c e) := by
        rw [q5 _ _ (by omega) (by omega) (by omega), o5 _ _ (by omega) (by omega)]
        exact hD e e1 e2 j j1 j2 j3
      have hdl := doE_le (c := c) (e := e)
      have aC : TrC a k (c 0 0) (c 1) (c 2) (c 3) := TrC_f hC (by rw [q5 _ _ (by omega) (by omega) (by omega), o5 _ _ (by omega) (by omega)]) (fun d s u1 u2 => by rw [q5 _ _ (by omega) (by omega) (by omega), o5 _ _ (by omega) (by omega)])
      have aac : ∀ s, 1 ≤ s → s ≤ c 0 0 → a (k + 7) s = bI (b 0 s) := fun s u1 u2 => by rw [q5 _ _ (by omega) (by omega) (by omega), o5 _ _ (by omega) (by omega)]; exact hac s u1 u2
      have htake : (srL c b D v).take (i + 1) = (srL c b D v).take i ++ [e] := by
        rw [List.take_succ, hg]
        rfl
      have hst : clL c b ((srL c b D v).take (i + 1)) = clS c b (clL c b ((srL c b D v).take i)) e := by
        unfold clL
        rw [htake, List.foldl_append]
        rfl
      unfold fX2_select_i90
      simp (disch := omega) only [f1, f2, mck_s, sI_nn, nn_s, sI_lt, sI_le, sI_eq, sI_ltl, sI_lel, sI_eql, sI_llt, sI_lle, sI_1, bI_0, bI_1, bI_n, mlet, mb3_s, mb2_s]
      rw [if_neg (by omega)]
      refine wq_b3 (c_claim (by omega) hT aC hdl aac q4) ?_
      rintro r1 M1 L1 ⟨y1, y2, y3, y4⟩
      dsimp only at y1 y2 y3 y4
      subst y1 y2
      unfold fX2_select_b138
      rw [hst] at ih
      generalize hG : clL c b ((srL c b D v).take i) = G at *
      cases hap : apB (c 1) (c 3) (b 0) (c 0 0) (doE c e) G.1 with
      | false =>
        rw [if_pos bI_f]
        simp only [mlet]
        rw [sI_1]
        have hs2 : clS c b G e = G := by
          unfold clS
          rw [hap, if_neg (by decide)]
        rw [hs2] at ih
        refine ih M1 ⟨by omega, fun j w hw => ?_, fun j w hj hw => ?_, fun s u1 u2 => ?_, fun d y u1 u2 u3 => ?_⟩
        · rw [y4 _ _ (by omega) (by omega)]; exact q2 j w hw
        · rw [y4 _ _ (by omega) (by omega)]; exact q3 j w (by omega) hw
        · rw [y3 s u1 u2, hap]; simp
        · rw [y4 _ _ u1 u2]; exact q5 d y u1 u2 u3
      | true =>
        rw [if_neg (by decide)]
        simp (disch := omega) only [mck_s, sI_nn, nn_s, sI_lt, sI_le, sI_eq, sI_ltl, sI_lel, sI_eql, sI_llt, sI_lle, sI_1, bI_0, bI_1, bI_n, mlet, mb3_s, mb2_s]
        have hs2 : clS c b G e = (fun s => G.1 s || exB (c 1) (c 3) (b 0) (doE c e) s, G.2 ++ [e]) := by
          unfold clS
          rw [hap, if_pos rfl]
        rw [hs2] at ih
        dsimp only at ih
        rw [List.length_append, List.length_singleton] at ih
        refine ih _ ⟨by omega, fun j w hw => ?_, fun j w hj hw => ?_, fun s u1 u2 => ?_, fun d y u1 u2 u3 => ?_⟩
        · rcases Nat.lt_trichotomy j G.2.length with g | g | g
          · rw [List.getElem?_append_left g] at hw
            rw [mset_j (by omega), y4 _ _ (by omega) (by omega)]
            exact q2 j w hw
          · rw [List.getElem?_append_right (by omega), g, Nat.sub_self] at hw
            have : w = e := by simpa using hw.symm
            rw [g, mset_s, this]
          · rw [List.getElem?_eq_none (by rw [List.length_append, List.length_singleton]; omega)] at hw
            cases hw
        · rw [mset_j (by omega), y4 _ _ (by omega) (by omega)]; exact q3 j w (by omega) hw
        · rw [mset_k (by omega), y3 s u1 u2, hap]; simp
        · rw [mset_k (by omega), y4 _ _ u1 u2]; exact q5 d y u1 u2 u3
    · intro a r ⟨q1, q2, q3, q4, q5⟩
      show wq (fX2_select_i90 fu k (sI v) r (sI (srL c b D v).length) (sI (clL c b ((srL c b D v).take (srL c b D v).length)).2.length) (sI (srL c b D v).length) a L) _
      rw [List.take_length] at q1 q2 ⊢
      unfold fX2_select_i90
      rw [if_pos (by rw [sI_le (by omega) (by omega)]; exact Nat.le_refl _)]
      refine wq_some ⟨rfl, rfl, ?_, q2, ?_⟩
      all_goals (try dsimp only)
      · refine build a (fun e u1 u2 => ?_) ?_ (fun d y u1 u2 => ?_)
        · rw [q5 _ _ (by omega) (by omega) (by omega)]; exact o3 e u1 u2
        · rw [q5 _ _ (by omega) (by omega) (by omega)]; exact o4
        · rw [q5 _ _ (by omega) (by omega) (by omega)]; exact o5 d y u1 u2
      · intro d y u1 u2
        rw [q5 _ _ (by omega) (by omega) (by omega)]; exact o5 d y u1 u2
  -- the first way
  unfold DX2_select
  refine wq_for (body := fun r z => fX2_select_i4 fu k (sI v) r z.1 z.2.1 z.2.2.1 z.2.2.2) (fun i (a : mwM) => (sI (rlL c b D v (i - 1)).length, sI i, a, L)) (fun i a => 1 ≤ i ∧ LiZ a (k + 27) (soL (kyE c) (rlL c b D v (i - 1)) 41) ∧ (∀ e, 1 ≤ e → e ≤ c 0 1 → a (k + 26) e = sI (sn (b 3 e) (seb c b D v (i - 1) 4 e) (seb c b D v (i - 1) 5 e))) ∧ a k 15 = zcN c b D v (x 1) (i - 1) ∧ ∀ d y, ¬ (d = k + 26 ∨ d = k + 27) → ¬ (d = k ∧ y = 15) → a d y = A d y) (c 0 1 + 1) ?_ ?_ (c 0 1) 1 A fu (by omega) (by omega) ⟨Nat.le_refl _, ?_, ?_, hf4.2.2.2.1, fun _ _ _ _ => rfl⟩
  · intro i a r hi ⟨h1i, q1, q2, q3, q4⟩ ih
    obtain ⟨n, rfl⟩ : ∃ n, i = n + 1 := ⟨i - 1, by omega⟩
    rw [Nat.add_sub_cancel] at q1 q2 q3
    have ih2 := ih
    simp only [show n + 1 + 1 - 1 = n + 1 from rfl] at ih2
    show wq (fX2_select_i4 fu k (sI v) r (sI (rlL c b D v n).length) (sI (n + 1)) a L) _
    have aC : TrC a k (c 0 0) (c 1) (c 2) (c 3) := TrC_f hC (q4 _ _ (by omega) (by omega)) (fun d s u1 u2 => q4 _ _ (by omega) (by omega))
    have aE : EdC a k (c 0 1) (c 4) (c 5) (c 6) (c 7) := ⟨(q4 _ _ (by omega) (by omega)).trans hEC.1, fun j u1 u2 => by simp (disch := omega) only [q4]; exact hEC.2 j u1 u2⟩
    have aac : ∀ s, 1 ≤ s → s ≤ c 0 0 → a (k + 7) s = bI (b 0 s) := fun s u1 u2 => (q4 _ _ (by omega) (by omega)).trans (hac s u1 u2)
    obtain ⟨j1, j2, j3, j4, j5, j6, j7, j8, j9⟩ := hE.2 (n + 1) (by omega) (by omega)
    obtain ⟨a1, a2, a3, a4⟩ := aE.2 (n + 1) (by omega) (by omega)
    have hky := ky_le hv (e := n + 1) (by omega) (by omega)
    have hrl := rl_len (c := c) (b := b) (D := D) (v := v) n
    have em := c_mayGo (fu := fu) (L := L) (by omega) hT aC hE aE aac (show 1 ≤ n + 1 by omega) (show n + 1 ≤ c 0 1 by omega)
    have erl : rlL c b D v (n + 1) = rlL c b D v n ++ (if rdB c b D v (n + 1) = true then [n + 1] else []) := rfl
    have ezc : zcN c b D v (x 1) (n + 1) = if (cnB c b v (n + 1) && hzB D (c 7 (n + 1))) = true then zcN c b D v (x 1) n + 1 else zcN c b D v (x 1) n := rfl
    -- edges other than this one
    have oth : ∀ e, e ≠ n + 1 → seb c b D v (n + 1) 4 e = seb c b D v n 4 e ∧ seb c b D v (n + 1) 5 e = seb c b D v n 5 e := by
      intro e he
      have : decide (e ≤ n + 1) = decide (e ≤ n) := by
        by_cases hq : e ≤ n
        · rw [decide_eq_true hq, decide_eq_true (by omega)]
        · rw [decide_eq_false hq, decide_eq_false (by omega)]
      unfold seb
      simp only [this]
      exact ⟨trivial, trivial⟩
    have own0 : seb c b D v n 4 (n + 1) = b 4 (n + 1) ∧ seb c b D v n 5 (n + 1) = b 5 (n + 1) := by
      unfold seb
      rw [decide_eq_false (show ¬ n + 1 ≤ n by omega)]
      simp
    have own1 : seb c b D v (n + 1) 4 (n + 1) = (b 4 (n + 1) || (cnB c b v (n + 1) && (decide (c 7 (n + 1) ≠ 0) && hdB D (c 7 (n + 1))))) ∧ seb c b D v (n + 1) 5 (n + 1) = (b 5 (n + 1) || (cnB c b v (n + 1) && (decide (c 7 (n + 1) ≠ 0) && !hdB D (c 7 (n + 1))))) := by
      unfold seb
      rw [decide_eq_true (Nat.le_refl (n + 1))]
      simp
    -- nothing comes of this edge
    have skip : cnB c b v (n + 1) = false → wq (r (sI (rlL c b D v n).length, sI (n + 1 + 1), a, L)) (fun z => z.1 = sI (tkL c b D v).length ∧ z.2.2 = L ∧ ReC k z.2.1 L c (seb c b D v (c 0 1)) va D (sex c b D x v (c 0 1)) ∧ LiZ z.2.1 (k + 27) (tkL c b D v) ∧ ∀ a y, ¬ (a = k + 15 ∨ a = k + 16 ∨ a = k + 26 ∨ a = k + 27) → ¬ (a = k ∧ y = 15) → z.2.1 a y = A a y) := by
      intro hcn
      have hr0 : rdB c b D v (n + 1) = false := by unfold rdB; rw [hcn]; rfl
      have er : rlL c b D v (n + 1) = rlL c b D v n := by rw [erl, hr0, if_neg (by decide), List.append_nil]
      rw [er] at ih2
      refine ih2 a ⟨by omega, q1, fun e u1 u2 => ?_, ?_, q4⟩
      · by_cases he : e = n + 1
        · subst he
          have := q2 (n + 1) u1 u2
          rw [own0.1, own0.2] at this
          rw [own1.1, own1.2, hcn]
          simpa using this
        · rw [(oth e he).1, (oth e he).2]
          exact q2 e u1 u2
      · rw [ezc, hcn]
        exact q3
    unfold fX2_select_i4 fX2_select_b47
    simp (disch := omega) only [aE.1, a3, em, mck_s, sI_nn, nn_s, sI_lt, sI_le, sI_eq, sI_ltl, sI_lel, sI_eql, sI_llt, sI_lle, sI_1, bI_0, bI_1, bI_n, mlet, mb3_s, mb2_s]
    rw [if_neg (by omega)]
    by_cases hev : c 6 (n + 1) = v
    · rw [if_pos hev]
      cases hgo : goB (c 2) (c 4) (c 5) (c 0 1) (b 0) (n + 1) with
      | false =>
        rw [if_pos rfl]
        exact skip (by unfold cnB; rw [hgo]; simp)
      | true =>
        rw [if_neg (by decide)]
        have hcn : cnB c b v (n + 1) = true := by unfold cnB; rw [hgo]; simp [hev]
        have a26 := q2 (n + 1) (by omega) (by omega)
        rw [own0.1, own0.2] at a26
        refine wq_b3 (c_holds (g := c 7 (n + 1)) (by omega) j8 j9 a4 a26) ?_
        rintro r1 M1 L1 ⟨y1, y2, y3, y4, y5⟩
        dsimp only at y1 y2 y3 y4 y5
        subst y1 y2
        rw [hLD] at y3 y4 ⊢
        rw [hcn, Bool.true_and, Bool.true_and] at own1
        rw [hcn, Bool.true_and] at ezc
        have m26 : ∀ e, 1 ≤ e → e ≤ c 0 1 → M1 (k + 26) e = sI (sn (b 3 e) (seb c b D v (n + 1) 4 e) (seb c b D v (n + 1) 5 e)) := by
          intro e u1 u2
          by_cases he : e = n + 1
          · subst he
            rw [own1.1, own1.2]
            exact y3
          · rw [(oth e he).1, (oth e he).2, y5 _ _ (by omega) (by omega)]
            exact q2 e u1 u2
        have m15 : M1 k 15 = zcN c b D v (x 1) (n + 1) := by
          rw [y4, ezc, q3]
        have mfr : ∀ d y, ¬ (d = k + 26 ∨ d = k + 27) → ¬ (d = k ∧ y = 15) → M1 d y = A d y := by
          intro d y u1 u2
          rw [y5 _ _ (by omega) (by omega)]
          exact q4 d y u1 u2
        cases hhd : hdB D (c 7 (n + 1)) with
        | false =>
          rw [if_pos bI_f]
          have hr0 : rdB c b D v (n + 1) = false := by unfold rdB; rw [hhd]; simp
          have er : rlL c b D v (n + 1) = rlL c b D v n := by rw [erl, hr0, if_neg (by decide), List.append_nil]
          rw [er] at ih2
          refine ih2 M1 ⟨by omega, fun j w hw => ?_, m26, m15, mfr⟩
          rw [y5 _ _ (by omega) (by omega)]
          exact q1 j w hw
        | true =>
          rw [if_neg (by decide)]
          have hr1 : rdB c b D v (n + 1) = true := by unfold rdB; rw [hcn, hhd]; rfl
          have er : rlL c b D v (n + 1) = rlL c b D v n ++ [n + 1] := by rw [erl, hr1, if_pos rfl]
          obtain ⟨P, Q, i1, i2, i3, i4⟩ := so_ins (κ := kyE c) (l := rlL c b D v n) (e := n + 1) hky.1 41 (by omega)
          have mC : TrC M1 k (c 0 0) (c 1) (c 2) (c 3) := TrC_f hC (mfr _ _ (by omega) (by omega)) (fun d s u1 u2 => mfr _ _ (by omega) (by omega))
          have mE : EdC M1 k (c 0 1) (c 4) (c 5) (c 6) (c 7) := ⟨(mfr _ _ (by omega) (by omega)).trans hEC.1, fun j u1 u2 => by simp (disch := omega) only [mfr]; exact hEC.2 j u1 u2⟩
          have hln := sr_len (b := b) (D := D) (v := v) hv (show n ≤ c 0 1 by omega)
          refine wq_b3 (c_putReady (P := P) (Q := Q) hf hT mC hE mE ⟨by omega, by omega⟩ (by rw [← i1]; exact hln) (by omega) (fun w hw => ?_) ?_ i3 i4) ?_
          · rw [← i1] at hw
            have := rl_mem _ ((so_mem 41).mp hw).1
            omega
          · rw [← i1]
            intro j w hw
            rw [y5 _ _ (by omega) (by omega)]
            exact q1 j w hw
          rintro r2 M2 L2 ⟨w1, w2, w3, w4⟩
          dsimp only at w1 w2 w3 w4
          subst w1 w2
          rw [er] at ih2
          rw [List.length_append, List.length_singleton] at ih2
          refine ih2 M2 ⟨by omega, ?_, fun e u1 u2 => ?_, ?_, fun d y u1 u2 => ?_⟩
          · rw [i2]; exact w3
          · rw [w4 _ _ (by omega)]; exact m26 e u1 u2
          · rw [w4 _ _ (by omega)]; exact m15
          · rw [w4 _ _ (by omega)]; exact mfr d y u1 u2
    · rw [if_neg hev]
      exact skip (by unfold cnB; rw [decide_eq_false hev]; rfl)
  · intro a r ⟨_, q1, q2, q3, q4⟩
    rw [Nat.add_sub_cancel] at q1 q2 q3
    show wq (fX2_select_i4 fu k (sI v) r (sI (rlL c b D v (c 0 1)).length) (sI (c 0 1 + 1)) a L) _
    have hln : (srL c b D v).length = (rlL c b D v (c 0 1)).length := sr_len hv (Nat.le_refl _)
    have hrl := rl_len (c := c) (b := b) (D := D) (v := v) (c 0 1)
    have e8 : a k 8 = sI (c 0 1) := (q4 _ _ (by omega) (by omega)).trans hEC.1
    unfold fX2_select_i4
    rw [e8, if_pos (by rw [sI_lt (by omega) (by omega)]; omega)]
    by_cases h0 : (rlL c b D v (c 0 1)).length = 0
    · rw [if_pos (by rw [h0]; rfl)]
      have hsr : srL c b D v = [] := List.eq_nil_of_length_eq_zero (by omega)
      have htk : tkL c b D v = [] := by unfold tkL; rw [hsr]; rfl
      refine wq_some ⟨?_, rfl, build a q2 q3 (fun d y u1 u2 => q4 d y (by omega) u2), ?_, fun d y u1 u2 => q4 d y (by omega) u2⟩
      · rw [htk]; rfl
      · rw [htk]; intro j w hw; cases hw
    · rw [if_neg (by rw [sI_eql (by omega) (by decide)]; exact h0)]
      refine wq_for (body := fun r z => fX2_select_i61 fu k (sI v) r z.1 z.2.1 z.2.2.1 z.2.2.2) (fun i (o : mwM) => (sI (rlL c b D v (c 0 1)).length, sI i, o, L)) (fun i o => 1 ≤ i ∧ (∀ s, 1 ≤ s → s < i → o (k + 15) s = bI false) ∧ ∀ d y, d ≠ k + 15 → o d y = a d y) (c 0 0 + 1) ?_ ?_ (c 0 0) 1 a fu (by omega) (by omega) ⟨Nat.le_refl _, fun s u1 u2 => by omega, fun _ _ _ => rfl⟩
      · intro i o r hi ⟨h1i, s1, s2⟩ ih
        show wq (fX2_select_i61 fu k (sI v) r (sI (rlL c b D v (c 0 1)).length) (sI i) o L) _
        have o7 : o k 7 = sI (c 0 0) := by rw [s2 _ _ (by omega), q4 _ _ (by omega) (by omega)]; exact hC.1
        unfold fX2_select_i61
        simp (disch := omega) only [o7, mck_s, sI_nn, nn_s, sI_lt, sI_le, sI_eq, sI_ltl, sI_lel, sI_eql, sI_llt, sI_lle, sI_1, bI_0, bI_1, bI_n, mlet, mb3_s, mb2_s]
        rw [if_neg (by omega)]
        refine ih _ ⟨by omega, fun s u1 u2 => ?_, fun d y u => by rw [mset_k u]; exact s2 d y u⟩
        by_cases hs : s = i
        · rw [hs, mset_s]; rfl
        · rw [mset_j hs]; exact s1 s u1 (by omega)
      · intro o r ⟨_, s1, s2⟩
        show wq (fX2_select_i61 fu k (sI v) r (sI (rlL c b D v (c 0 1)).length) (sI (c 0 0 + 1)) o L) _
        have o7 : o k 7 = sI (c 0 0) := by rw [s2 _ _ (by omega), q4 _ _ (by omega) (by omega)]; exact hC.1
        unfold fX2_select_i61
        rw [o7, if_pos (by rw [sI_lt (by omega) (by omega)]; omega), ← hln]
        refine claiming o (fun j w hw => ?_) (fun s u1 u2 => s1 s u1 (by omega)) (fun e u1 u2 => ?_) ?_ (fun d y u1 u2 => ?_)
        · rw [s2 _ _ (by omega)]; exact q1 j w hw
        · rw [s2 _ _ (by omega)]; exact q2 e u1 u2
        · rw [s2 _ _ (by omega)]; exact q3
        · rw [s2 _ _ (by omega)]; exact q4 d y (by omega) u2
  · intro j w hw
    show A (k + 27) j = sI w
    have : soL (kyE c) (rlL c b D v 0) 41 = [] := so_nil 41
    rw [show (1 : Nat) - 1 = 0 from rfl, this] at hw
    cases hw
  · intro e u1 u2
    have := h8 e u1 u2
    unfold seb
    rw [decide_eq_false (show ¬ e ≤ 1 - 1 by omega)]
    simpa using this
