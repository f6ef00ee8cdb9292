/-! a microsecond is used, on both sides -/
def useA (A : mwM) (x : Nat) : mwM :=
  if A 13 x = 1 then mset (mset (mset (mset (mset A 16 x (A 16 x + 1)) 13 x (A 13 x - 1)) 17 x (A 17 x + 1)) 5 5 (A 5 5 ||| (1 <<< (sI x &&& 31)))) 5 6 0
  else mset (mset A 16 x (A 16 x + 1)) 13 x (A 13 x - 1)
theorem useA_f {A : mwM} {x b y : Nat} (h1 : ¬ (y = x ∧ (b = 13 ∨ b = 16 ∨ b = 17))) (h2 : ¬ (b = 5 ∧ (y = 5 ∨ y = 6))) : useA A x b y = A b y := by
  unfold useA
  split
  · rw [mset_n (by omega), mset_n (by omega), mset_n (by omega), mset_n (by omega), mset_n (by omega)]
  · rw [mset_n (by omega), mset_n (by omega)]
theorem RC_up {A M : mwM} {L : mwL} {T C tn cn U U' : Nat} (h : RC A M L T C tn cn U) (hU : U ≤ U') : RC A M L T C tn cn U' := by
  obtain ⟨h1, h2, h3, h4, h5, h6, h7, h8, h9, h10, h11, h12, h13, h14, h15, h16, h17⟩ := h
  refine ⟨h1, h2, h3, h4, h5, h6, h7, h8, h9, h10, h11, h12, h13, h14, h15, ?_, h17⟩
  intro i hi
  obtain ⟨rk, co, pe, mi, nx, st, lf, wa, tu, us, dn, q1, q2, q3⟩ := h16 i hi
  obtain ⟨w1, w2, w3, w4, w5, w6, w7, w8, w9, w10, w11, w12, w13, w14, w15, w16⟩ := q1
  exact ⟨rk, co, pe, mi, nx, st, lf, wa, tu, us, dn, ⟨w1, w2, w3, w4, w5, w6, w7, w8, w9, w10, w11, by omega, w13, w14, w15, w16⟩, q2, q3⟩
theorem st_use {fu : Nat} {A M : mwM} {L Lc : mwL} {T C tn cn U x : Nat} (hf : 33 ≤ fu) (h : RC A M L T C tn cn U) (hU : U < 1000000) (hx : x < T) (h12 : A 12 x ≠ 0) (h13 : A 13 x ≠ 0) : DX4_use fu (sI x) A Lc = some (useA A x, Lc) ∧ ∃ M' L', DX15_pass fu (sI (x + 1)) M L = some (M', L') ∧ RC (useA A x) M' L' T C tn cn (U + 1) ∧ L' 805 (x + 1) = L 805 (x + 1) + 1 ∧ (∀ b y, ¬ (y = x + 1 ∧ (b = 799 ∨ b = 801)) → M' b y = M b y) ∧ ∀ b y, ¬ (y = x + 1 ∧ (b = 800 ∨ b = 805)) → L' b y = L b y := by
  have h0 := h
  obtain ⟨hT, hC, htn, hcn, a3, m1, m7, m0, a4, l21, m29, m35, hh, hg, m39, ht1, hch⟩ := h0
  obtain ⟨rk, co, pe, mi, nx, st, lf, wa, tu, us, dn, q1, q2, q3⟩ := ht1 x hx
  obtain ⟨w1, w2, w3, w4, w5, w6, w7, w8, w9, w10, w11, w12, w13, w14, w15, w16⟩ := q1
  obtain ⟨k1, k2, k3, k4, k5, k6, k7, k8, k9, k10, k11⟩ := q2
  obtain ⟨n1, n2, n3, n4, n5, n6, n7, n8, n9, n10, n11, n12, n13⟩ := q3
  have hst : st ≠ 0 := by
    intro q
    apply h12
    rw [k6, q]; rfl
  have hlf0 : lf ≠ 0 := by
    intro q
    apply h13
    rw [k7, q]; rfl
  obtain ⟨lf', rfl⟩ : ∃ lf', lf = lf' + 1 := ⟨lf - 1, by omega⟩
  have hsum := w16 (by omega)
  have hpart : ∀ k, k < T → M 793 k = sI (k + 1) := by
    intro k hk
    obtain ⟨_, _, _, _, _, _, _, _, _, _, _, _, _, u3⟩ := ht1 k hk
    exact u3.2.2.2.2.1
  obtain ⟨⟨M', L'⟩, hp, p1, p2, p3, p4⟩ := m_pass (fu := fu) (by omega) hT hx w5 w6 m7 hpart n7 n11 n12 (by omega) (n13 hst).2
  dsimp only at p1 p2 p3 p4
  rw [Nat.add_sub_cancel] at p1
  have eone : (A 13 x = 1) ↔ lf' = 0 := by
    rw [k7]
    constructor
    · intro q
      have := (sI_eq (a := lf' + 1) (b := 1) (by omega) (by omega)).mp q
      omega
    · intro q; rw [q]; rfl
  have eU : useA A x = (if lf' = 0 then mset (mset (mset (mset (mset A 16 x (sI (us + 1))) 13 x (sI lf')) 17 x (sI (dn + 1))) 5 5 (A 5 5 ||| (1 <<< (sI x &&& 31)))) 5 6 0 else mset (mset A 16 x (sI (us + 1))) 13 x (sI lf')) := by
    unfold useA
    rw [k10, k11, sI_1, sI_1]
    by_cases hz : lf' = 0
    · rw [if_pos (eone.mpr hz), if_pos hz, k7, sI_m1]
    · rw [if_neg (fun q => hz (eone.mp q)), if_neg hz, k7, sI_m1]
  refine ⟨?_, M', L', hp, ?_, ?_, p3, p4⟩
  · rw [c_use (by omega) (by omega) k10 k7 k11, eU]
  · have r16 : useA A x 16 x = sI (us + 1) := by
      rw [eU]
      split
      · rw [mset_k (by decide), mset_k (by decide), mset_k (by decide), mset_k (by decide), mset_s]
      · rw [mset_k (by decide), mset_s]
    have r13 : useA A x 13 x = sI lf' := by
      rw [eU]
      split
      · rw [mset_k (by decide), mset_k (by decide), mset_k (by decide), mset_s]
      · rw [mset_s]
    have r17 : useA A x 17 x = sI (if lf' = 0 then dn + 1 else dn) := by
      rw [eU]
      by_cases hz : lf' = 0
      · rw [if_pos hz, if_pos hz, mset_k (by decide), mset_k (by decide), mset_s]
      · rw [if_neg hz, if_neg hz, mset_k (by decide), mset_k (by decide)]; exact k11
    refine ⟨hT, hC, htn, hcn, ?_, ?_, ?_, ?_, ?_, ?_, ?_, ?_, ?_, ?_, ?_, ?_, ?_⟩
    · rw [useA_f (by omega) (by omega)]; exact a3
    · rw [p3 _ _ (by omega)]; exact m1
    · rw [p3 _ _ (by omega)]; exact m7
    · rw [p3 _ _ (by omega)]; exact m0
    · rw [useA_f (by omega) (by omega)]; exact a4
    · rw [p4 _ _ (by omega)]; exact l21
    · rw [p3 _ _ (by omega)]; exact m29
    · rw [p3 _ _ (by omega)]; exact m35
    · intro r q1 q2
      rw [p3 _ _ (by omega)]; exact hh r q1 q2
    · intro r q1 q2
      rw [p3 _ _ (by omega)]; exact hg r q1 q2
    · rw [p3 _ _ (by omega)]; exact m39
    · intro i hi
      by_cases hix : i = x
      · subst hix
        refine ⟨rk, co, pe, mi, nx, st, lf', wa, tu, us + 1, (if lf' = 0 then dn + 1 else dn), ⟨w1, w2, w3, w4, w5, w6, w7, w8, by omega, w10, w11, by omega, ?_, fun q => absurd q hst, ?_, ?_⟩, ⟨?_, ?_, ?_, ?_, ?_, ?_, r13, ?_, ?_, r16, r17⟩, ⟨?_, ?_, ?_, ?_, ?_, ?_, ?_, ?_, ?_, ?_, ?_, p2, fun _ => ⟨?_, p1⟩⟩⟩
        · split <;> omega
        · intro hz
          rw [if_pos hz, ← hsum, hz]
        · intro hz
          rw [if_neg (by omega), ← hsum]
          omega
        · rw [useA_f (by omega) (by omega)]; exact k1
        · rw [useA_f (by omega) (by omega)]; exact k2
        · rw [useA_f (by omega) (by omega)]; exact k3
        · rw [useA_f (by omega) (by omega)]; exact k4
        · rw [useA_f (by omega) (by omega)]; exact k5
        · rw [useA_f (by omega) (by omega)]; exact k6
        · rw [useA_f (by omega) (by omega)]; exact k8
        · rw [useA_f (by omega) (by omega)]; exact k9
        · rw [p3 _ _ (by omega)]; exact n1
        · rw [p3 _ _ (by omega)]; exact n2
        · rw [p3 _ _ (by omega)]; exact n3
        · rw [p3 _ _ (by omega)]; exact n4
        · rw [p3 _ _ (by omega)]; exact n5
        · rw [p3 _ _ (by omega)]; exact n6
        · rw [p4 _ _ (by omega)]; exact n7
        · rw [p3 _ _ (by omega)]; exact n8
        · rw [p3 _ _ (by omega)]; exact n9
        · rw [p3 _ _ (by omega)]; exact n10
        · rw [p3 _ _ (by omega)]; exact n11
        · rw [p4 _ _ (by omega)]; exact (n13 hst).1
      · obtain ⟨rk, co, pe, mi, nx, st, lf, wa, tu, us, dn, q1, q2, q3⟩ := ht1 i hi
        obtain ⟨w1, w2, w3, w4, w5, w6, w7, w8, w9, w10, w11, w12, w13, w14, w15, w16⟩ := q1
        exact ⟨rk, co, pe, mi, nx, st, lf, wa, tu, us, dn, ⟨w1, w2, w3, w4, w5, w6, w7, w8, w9, w10, w11, by omega, w13, w14, w15, w16⟩, tk_f q2 (fun b _ _ => useA_f (by omega) (by omega)), tm_f q3 (fun b _ _ _ _ _ _ _ _ _ => p3 _ _ (by omega)) (p3 _ _ (by omega)) (p3 _ _ (by omega)) (p4 _ _ (by omega)) (fun b _ _ => p4 _ _ (by omega))⟩
    · intro c hc
      obtain ⟨w, v1, v2, v3⟩ := hch c hc
      refine ⟨w, by rw [useA_f (by omega) (by omega)]; exact v1, v2, ?_⟩
      intro i hi
      rw [useA_f (by omega) (by omega), useA_f (by omega) (by omega)]
      exact v3 i hi
  · rw [p2, n12, sL_1]
