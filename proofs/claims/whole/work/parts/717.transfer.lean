/-! the reference: a frame is taken -/
theorem m_put17 {fu r f c d : Nat} {M : mwM} {L : mwL} {v : Nat → Nat} (hfu : 10 ≤ fu) (hr : r < 4) (hf : f < 1600) (hc : c ≤ 7) (hd : d ≤ 200) (h895 : M 895 (f + 1) = sI c) (h885 : M 885 r = sI d) (ho : ∀ k, k < c → M 899 (7 * (f + 1) + k) = sB (v k) ∧ v k < 256) : wq (DX17_put fu (sI r) (sI (f + 1)) M L) (fun z => z.2 = L ∧ z.1 885 r = sI (d + c) ∧ (∀ k, k < c → z.1 891 (10000 * r + d + k) = sB (v k)) ∧ (∀ a y, ¬ (a = 885 ∧ y = r) → ¬ (a = 891 ∧ 10000 * r + d ≤ y ∧ y < 10000 * r + d + c) → z.1 a y = M a y)) := by
  unfold DX17_put
  refine wq_for (body := fun r' z => fX17_put_i2 fu (sI r) (sI (f + 1)) r' z.1 z.2.1 z.2.2) (fun i (w : mwM) => (sI i, w, L)) (fun i w => w 885 r = sI (d + i) ∧ (∀ k, k < i → w 891 (10000 * r + d + k) = sB (v k)) ∧ (∀ a y, ¬ (a = 885 ∧ y = r) → ¬ (a = 891 ∧ 10000 * r + d ≤ y ∧ y < 10000 * r + d + c) → w a y = M a y)) c ?_ ?_ c 0 M fu (by omega) (by omega) ⟨h885, fun k u => by omega, fun _ _ _ _ => rfl⟩
  · intro i w r' hi ⟨q1, q2, q3⟩ ih
    show wq (fX17_put_i2 fu (sI r) (sI (f + 1)) r' (sI i) w L) _
    have hoi := ho i hi
    unfold fX17_put_i2
    rw [mck_s (by omega) (by omega), sI_nn (by omega), q3 895 _ (by omega) (by omega), h895, if_neg (by rw [sI_le (by omega) (by omega)]; omega), mck_s (by omega) (by omega), show (7 : Int32) * sI (f + 1) = sI (7 * (f + 1)) from sI_lml, sI_add, mck_s (by omega) (by omega), sI_nn (by omega), q1, show (10000 : Int32) * sI r = sI (10000 * r) from sI_lml, sI_add, mck_s (by omega) (by omega), sI_nn (by omega), sI_nn (by omega), q3 899 _ (by omega) (by omega), hoi.1, sB_n _ hoi.2]
    simp only [mlet]
    rw [mck_s (by omega) (by omega), mck_s (by omega) (by omega), mset_n (show ¬ (885 = 891 ∧ r = 10000 * r + (d + i)) by omega), q1, sI_1, sI_1]
    refine ih _ ⟨?_, fun k u => ?_, fun a y u1 u2 => ?_⟩
    · rw [mset_s, Nat.add_assoc]
    · rw [mset_n (by omega)]
      by_cases hq : k = i
      · rw [hq, show 10000 * r + d + i = 10000 * r + (d + i) by omega, mset_s]
      · rw [mset_n (by omega)]; exact q2 k (by omega)
    · rw [mset_n (by omega), mset_n (by omega)]
      exact q3 a y u1 u2
  · intro w r' ⟨q1, q2, q3⟩
    show wq (fX17_put_i2 fu (sI r) (sI (f + 1)) r' (sI c) w L) _
    unfold fX17_put_i2
    rw [mck_s (by omega) (by omega), sI_nn (by omega), q3 895 _ (by omega) (by omega), h895, if_pos (by rw [sI_le (by omega) (by omega)]; omega)]
    exact wq_some ⟨rfl, q1, q2, q3⟩
theorem m_whole17 {fu r len e0 : Nat} {M : mwM} {L : mwL} {v : Nat → Nat} (hfu : 200 ≤ fu) (hr : r < 4) (hl : len ≤ 100) (h884 : M 884 r = sI len) (h901 : M 901 0 = sI e0) (hb : ∀ k, k < len → M 891 (10000 * r + k) = sB (v k) ∧ v k < 256) : wq (DX17_whole fu (sI r) M L) (fun z => z.2 = L ∧ z.1 882 r = sI 2 ∧ z.1 901 0 = sI (e0 + 1) ∧ z.1 869 40 = sI len ∧ (∀ k, k < len → z.1 900 k = sB (v k)) ∧ (∀ a y, ¬ (a = 882 ∧ y = r) → ¬ (a = 901 ∧ y = 0) → ¬ (a = 869 ∧ y = 40) → a ≠ 900 → z.1 a y = M a y)) := by
  unfold DX17_whole
  rw [mck_s hr (by omega), sI_nn (by omega)]
  simp only [mlet]
  rw [mck_s hr (by omega)]
  have c0 : (0 : Int32).toNatClampNeg = 0 := by decide
  rw [c0, mset_n (show ¬ (901 = 882 ∧ 0 = r) by omega), h901, sI_1]
  have e884 : mset (mset M 882 r 2) 901 0 (sI (e0 + 1)) 884 r = sI len := by rw [mset_n (by omega), mset_n (by omega), h884]
  rw [e884]
  generalize hN : mset (mset (mset M 882 r 2) 901 0 (sI (e0 + 1))) 869 40 (sI len) = N
  have n40 : N 869 40 = sI len := by rw [← hN, mset_s]
  have nf : ∀ a y, ¬ (a = 882 ∧ y = r) → ¬ (a = 901 ∧ y = 0) → ¬ (a = 869 ∧ y = 40) → N a y = M a y := fun a y u1 u2 u3 => by rw [← hN, mset_n u3, mset_n u2, mset_n u1]
  refine wq_for (body := fun r' z => fX17_whole_i29 fu (sI r) r' z.1 z.2.1 z.2.2) (fun i (w : mwM) => (sI i, w, L)) (fun i w => (∀ k, k < i → w 900 k = sB (v k)) ∧ ∀ a y, a ≠ 900 → w a y = N a y) len ?_ ?_ len 0 N fu (by omega) (by omega) ⟨fun k u => by omega, fun _ _ _ => rfl⟩
  · intro i w r' hi ⟨q1, q2⟩ ih
    show wq (fX17_whole_i29 fu (sI r) r' (sI i) w L) _
    have hbi := hb i hi
    unfold fX17_whole_i29
    rw [q2 869 40 (by omega), n40, if_neg (by rw [sI_le (by omega) (by omega)]; omega), show (10000 : Int32) * sI r = sI (10000 * r) from sI_lml, sI_add, mck_s (by omega) (by omega), mck_s (by omega) (by omega), sI_nn (by omega), sI_nn (by omega), q2 891 _ (by omega), nf 891 _ (by omega) (by omega) (by omega), hbi.1, sB_n _ hbi.2]
    simp only [mlet]
    rw [sI_1]
    refine ih _ ⟨fun k u => ?_, fun a y u => by rw [mset_n (by omega)]; exact q2 a y u⟩
    by_cases hq : k = i
    · rw [hq, mset_s]
    · rw [mset_j hq]; exact q1 k (by omega)
  · intro w r' ⟨q1, q2⟩
    show wq (fX17_whole_i29 fu (sI r) r' (sI len) w L) _
    unfold fX17_whole_i29
    rw [q2 869 40 (by omega), n40, if_pos (by rw [sI_le (by omega) (by omega)]; omega)]
    refine wq_some ⟨rfl, ?_, ?_, ?_, q1, fun a y u1 u2 u3 u4 => ?_⟩
    all_goals (try dsimp only)
    · rw [q2 882 r (by omega), ← hN, mset_n (by omega), mset_n (by omega), mset_s]; rfl
    · rw [q2 901 0 (by omega), ← hN, mset_n (by omega), mset_s]
    · rw [q2 869 40 (by omega)]; exact n40
    · rw [q2 a y u4]; exact nf a y u1 u2 u3
theorem m_endReceiver17 {fu r why ew : Nat} {M : mwM} {L : mwL} (hr : r < 4) (hw : why < 8) (h : M 901 why = sI ew) : DX17_endReceiver fu (sI r) (sI why) M L = some (mset (mset M 882 r (sI 3)) 901 why (sI (ew + 1)), L) := by
  unfold DX17_endReceiver
  simp (disch := omega) only [mck_s, sI_nn, nn_s, sI_lt, sI_le, sI_eq, sI_ltl, sI_lel, sI_eql, sI_llt, sI_lle, sI_1, bI_0, bI_1, bI_n, mlet, mb3_s, mb2_s, mset_n, h]
  rfl
def eQ (k : Nat) (e : Nat → Nat) (b : Nat → Nat → Bool) (e' : Nat → Nat) (b' : Nat → Nat → Bool) : Prop := eS e ≤ eS e' ∧ eS e' ≤ eS e + k ∧ b' 2 0 = (b 2 0 || decide (eS e < eS e'))
theorem eQ_R {k : Nat} {e e' : Nat → Nat} {b b' : Nat → Nat → Bool} (h : eR k e b e' b') : eQ k e b e' b' := h.2
theorem eS_0 {e : Nat → Nat} : eS (eU e 0) = eS e := by
  unfold eS eU
  simp
/-- what a frame that is taken leaves behind -/
def rvM (z : mwM) (n o : Nat → Nat → Nat) (m : Nat) (e e' : Nat → Nat) : Prop := (m = 0 → e' 0 = e 0) ∧ (m ≠ 0 → e' 0 = e 0 + 1 ∧ z 869 40 = sI (n 2 m) ∧ ∀ j, j < n 2 m → z 900 j = sB (o m j))
abbrev rFr (M M' : mwM) : Prop := ∀ a y, ¬ (a = 869 ∨ (872 ≤ a ∧ a ≤ 879) ∨ (882 ≤ a ∧ a ≤ 901)) → M' a y = M a y
abbrev rFl (L L' : mwL) : Prop := ∀ a y, ¬ (a = 881 ∨ a = 889 ∨ a = 897) → L' a y = L a y
theorem m_takeFlow17 {fu f : Nat} {M : mwM} {L : mwL} {p : PB} {o : Nat → Nat → Nat} {e : Nat → Nat} (hv : TfV p.1 p.2) (h : TfM M L (p.1 0 3) p.1 p.2 o e) (hf : f < p.1 0 1) (hk : p.1 10 f = 3) : wq (DX17_takeFlow fu (sI (f + 1)) M L) (fun z => TfM z.2.1 z.2.2 (p.1 0 3) (rvQ f p).1.1 (rvQ f p).1.2 o e ∧ (rvQ f p).2 = 0 ∧ (rvQ f p).1.2 = p.2 ∧ rFr M z.2.1 ∧ rFl L z.2.2) := by
  have hF := Tf_F hv
  have hg := hv.2.2.2 f hf
  have hK := hv.1.1
  have tf := h.2.2.2.2.2.1 f hf
  have co0 : coO p.1 f = 0 := by
    unfold coO
    rw [if_neg (by omega), if_neg (by omega), if_pos hk]
  have nu0 : nuO p.1 f = 0 := by
    unfold nuO
    rw [if_neg (by omega)]
    exact hg.2.2.2.2.2.2.2.1 (by omega)
  unfold TmF at tf
  rw [co0] at tf
  have er : rvQ f p = ((if p.1 3 (p.1 11 f) = 1 then (mset p.1 3 (p.1 11 f) 2, p.2) else p), 0) := by
    unfold rvQ
    rw [if_pos hk]
  rw [er]
  generalize hm : p.1 11 f = m at *
  have tm := (h.2.2.1 m hg.2.1 hg.2.2.1).2
  have hM := hv.2.1 m hg.2.1 hg.2.2.1
  unfold DX17_takeFlow fX17_takeFlow_b179
  rw [mck_s (by omega) (by omega), sI_nn (by omega), tf.2.1]
  simp only [mlet]
  rw [mck_s (by omega) (by omega), sI_nn (by omega), tm.2.1]
  by_cases a1 : p.1 3 m = 1
  · rw [if_pos (show sI (p.1 3 m) = 1 by rw [a1]; rfl), mck_s (by omega) (by omega), tf.2.2.1, nu0, tf.2.2.2.2.1, mck_s (by omega) (by omega), if_pos (show sI 0 = 0 from rfl)]
    rw [mck_s (by omega) (by omega), mck_s (by omega) (by omega), mck_s (by omega) (by omega), mck_s (by omega) (by omega), mck_s (by omega) (by omega), if_neg (by decide)]
    unfold fX17_takeFlow_b107 fX17_takeFlow_b179
    simp only [mlet]
    rw [mck_s (by omega) (by omega), mck_s (by omega) (by omega), mck_s (by omega) (by omega), sI_nn (by omega)]
    simp (disch := omega) only [mset_n, tf.2.2.2.1, h.1.2.1]
    rw [if_pos a1]
    refine wq_some ⟨?_, trivial, rfl, fun a y u => ?_, fun a y u => ?_⟩
    all_goals (try dsimp only)
    · refine TfM_ch h (fun a y u => by simp (disch := omega) only [mset_n]) (by rw [mset_n (by omega)]; exact h.1.2.1) (fun i j u v => mset_n (by omega)) (fun x u v => ?_) (fun x u v => ?_) (fun r u => ?_) (fun g u => ?_) (fun k u => ?_)
      · have t := (h.2.2.1 x u v).2
        unfold TmS at t ⊢
        by_cases hq : x = m
        · subst hq
          rw [a1] at t
          simp (disch := omega) only [mset_n, mset_s]
          refine ⟨by rw [t.1]; rfl, rfl, fun _ => t.2.2.1 (Or.inl rfl), fun _ => t.2.2.2.1 (by omega), fun z => by omega, fun _ => ⟨rfl, rfl, trivial⟩⟩
        · simp (disch := omega) only [mset_n]
          exact t
      · have t := h.2.2.2.1 x u v
        simp (disch := omega) only [mset_n]
        exact t
      · have t := h.2.2.2.2.1 r u
        unfold TmR at t ⊢
        simp (disch := omega) only [mset_n]
        exact t
      · have t := (h.2.2.2.2.2.1 g u).2.2.2.2.2.1
        simp (disch := omega) only [mset_n]
        exact t
      · have t := h.2.2.2.2.2.2 k u
        simp (disch := omega) only [mset_n]
        exact t
    · simp (disch := omega) only [mset_n]
    · rw [mset_n (by omega)]
  · rw [if_neg (show ¬ sI (p.1 3 m) = 1 by rw [sI_eql (by omega) (by decide)]; exact a1), mck_s (by omega) (by omega), if_neg a1]
    exact wq_some ⟨h, trivial, rfl, fun _ _ _ => rfl, fun _ _ _ => rfl⟩
