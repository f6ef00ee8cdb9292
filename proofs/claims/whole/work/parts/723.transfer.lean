/-! the reference: a message is made; all begins anew -/
theorem TfM_ma {M M' : mwM} {L : mwL} {τ c sz : Nat} {a : Bool} {n : Nat → Nat → Nat} {b : Nat → Nat → Bool} {o : Nat → Nat → Nat} {e v : Nat → Nat} (hv : TfV n b) (h : TfM M L τ n b o e) (hK : n 0 0 < 100) (hA : ∀ x y, 869 ≤ x → x ≤ 901 → ¬ (x = 869 ∧ (y = 0 ∨ y = 3)) → ¬ (x = 870 ∧ y = n 0 0 + 2) → ¬ (x = 871 ∧ suN (n 2) (n 0 0) ≤ y) → M' x y = M x y) (h3 : M' 869 3 = sI (n 0 0 + 1)) (h870 : M' 870 (n 0 0 + 2) = sI (suN (n 2) (n 0 0) + sz)) (h871 : ∀ i, i < sz → M' 871 (suN (n 2) (n 0 0) + i) = sB (v i) ∧ v i < 256) : TfM M' L τ (maN c sz n) (maB a n b) (maO v n o) e := by
  obtain ⟨k1, k2, k3, k4, k5, k6, k7⟩ := h
  obtain ⟨m1, m2, m3, m4⟩ := @ma_1 c sz n
  have su : ∀ k, k ≤ n 0 0 → suN (maN c sz n 2) k = suN (n 2) k := fun k hk => su_eq k (fun m u1 u2 => ma_o (by omega) (by omega))
  refine ⟨?_, ?_, ?_, ?_, ?_, ?_, ?_⟩
  · unfold TmG
    rw [ma_0, ma_o (by omega) (by omega), hA 869 1 (by omega) (by omega) (by omega) (by omega) (by omega), hA 869 26 (by omega) (by omega) (by omega) (by omega) (by omega), hA 869 35 (by omega) (by omega) (by omega) (by omega) (by omega), hA 869 36 (by omega) (by omega) (by omega) (by omega) (by omega), hA 869 37 (by omega) (by omega) (by omega) (by omega) (by omega), hA 869 39 (by omega) (by omega) (by omega) (by omega) (by omega)]
    exact ⟨k1.1, k1.2.1, h3, k1.2.2.2⟩
  · intro m u
    rw [ma_0] at u
    by_cases hq : m = n 0 0 + 1
    · subst hq
      rw [show n 0 0 + 1 + 1 = n 0 0 + 2 by omega, h870, su_S (g := maN c sz n 2) (m := n 0 0 + 1) (by omega), show n 0 0 + 1 - 1 = n 0 0 by omega, su _ (Nat.le_refl _), m2]
    · rw [hA 870 _ (by omega) (by omega) (by omega) (by omega) (by omega), su m (by omega)]
      exact k2 m (by omega)
  · intro m u1 u2
    rw [ma_0] at u2
    by_cases hq : m = n 0 0 + 1
    · subst hq
      have f := k4 (n 0 0 + 1) (by omega) (by omega)
      refine ⟨fun i u => ?_, ?_⟩
      · rw [m2] at u
        rw [show n 0 0 + 1 - 1 = n 0 0 by omega, su _ (Nat.le_refl _)]
        unfold maO
        rw [if_pos rfl]
        exact h871 i u
      · unfold TmS
        rw [m3, hA 872 _ (by omega) (by omega) (by omega) (by omega) (by omega), hA 873 _ (by omega) (by omega) (by omega) (by omega) (by omega), hA 875 _ (by omega) (by omega) (by omega) (by omega) (by omega), f.1, f.2.1]
        exact ⟨rfl, rfl, fun z => by omega, fun _ => f.2.2, fun z => by omega, fun z => by omega⟩
    · have t := k3 m u1 (by omega)
      have hsm : suN (n 2) (m - 1) + n 2 m ≤ suN (n 2) (n 0 0) := by
        rw [← su_S u1]
        have : ∀ k, m ≤ k → suN (n 2) m ≤ suN (n 2) k := by
          intro k hk
          induction k with
          | zero =>
            have : m = 0 := by omega
            omega
          | succ k ih =>
            by_cases hk2 : m = k + 1
            · rw [hk2]; exact Nat.le_refl _
            · have := ih (by omega)
              show _ ≤ suN (n 2) k + n 2 (k + 1)
              omega
        exact this _ (by omega)
      refine ⟨fun i u => ?_, ?_⟩
      · rw [ma_o (by omega) (by omega)] at u
        rw [su _ (by omega), hA 871 _ (by omega) (by omega) (by omega) (by omega) (by omega)]
        unfold maO
        rw [if_neg hq]
        exact t.1 i u
      · unfold TmS
        rw [ma_o (by omega) (by omega), ma_o (by omega) (by omega), hA 872 _ (by omega) (by omega) (by omega) (by omega) (by omega), hA 873 _ (by omega) (by omega) (by omega) (by omega) (by omega), hA 874 _ (by omega) (by omega) (by omega) (by omega) (by omega), hA 875 _ (by omega) (by omega) (by omega) (by omega) (by omega), hA 876 _ (by omega) (by omega) (by omega) (by omega) (by omega), hA 878 _ (by omega) (by omega) (by omega) (by omega) (by omega)]
        exact t.2
  · intro m u1 u2
    rw [ma_0] at u1
    rw [hA 872 _ (by omega) (by omega) (by omega) (by omega) (by omega), hA 873 _ (by omega) (by omega) (by omega) (by omega) (by omega), hA 875 _ (by omega) (by omega) (by omega) (by omega) (by omega)]
    exact k4 m (by omega) u2
  · intro r u
    have t := k5 r u
    have vr := (hv.2.2.1 r u).2
    unfold TmR
    rw [ma_o (i := 5) (by omega) (by omega), ma_o (i := 6) (by omega) (by omega), ma_o (i := 7) (by omega) (by omega), ma_o (i := 8) (by omega) (by omega), ma_o (i := 9) (by omega) (by omega), hA 882 _ (by omega) (by omega) (by omega) (by omega) (by omega), hA 883 _ (by omega) (by omega) (by omega) (by omega) (by omega), hA 884 _ (by omega) (by omega) (by omega) (by omega) (by omega), hA 885 _ (by omega) (by omega) (by omega) (by omega) (by omega), hA 886 _ (by omega) (by omega) (by omega) (by omega) (by omega), hA 887 _ (by omega) (by omega) (by omega) (by omega) (by omega), hA 890 _ (by omega) (by omega) (by omega) (by omega) (by omega)]
    refine ⟨t.1, fun z => ?_⟩
    have t2 := t.2 z
    have v2 := vr z
    rw [ma_o (by omega) (by omega)]
    refine ⟨t2.1, t2.2.1, t2.2.2.1, t2.2.2.2.1, t2.2.2.2.2.1, t2.2.2.2.2.2.1, t2.2.2.2.2.2.2.1, fun i w => ?_⟩
    rw [hA 891 _ (by omega) (by omega) (by omega) (by omega) (by omega)]
    unfold maO
    rw [if_neg (by omega)]
    exact t2.2.2.2.2.2.2.2 i w
  · intro f u
    rw [ma_o (by omega) (by omega)] at u
    have t := k6 f u
    have vf := hv.2.2.2 f u
    have en : nuO (maN c sz n) f = nuO n f := by
      unfold nuO
      rw [ma_o (i := 10) (by omega) (by omega), ma_o (i := 11) (by omega) (by omega), ma_o (i := 12) (by omega) (by omega), ma_o (i := 2) (by omega) (by omega)]
    have ec : coO (maN c sz n) f = coO n f := by
      unfold coO
      rw [ma_o (i := 10) (by omega) (by omega), ma_o (i := 11) (by omega) (by omega), ma_o (i := 12) (by omega) (by omega), ma_o (i := 2) (by omega) (by omega)]
    unfold TmF
    rw [en, ec, ma_o (i := 10) (by omega) (by omega), ma_o (i := 11) (by omega) (by omega), ma_o (i := 12) (by omega) (by omega), maB_o (by omega), hA 892 _ (by omega) (by omega) (by omega) (by omega) (by omega), hA 893 _ (by omega) (by omega) (by omega) (by omega) (by omega), hA 894 _ (by omega) (by omega) (by omega) (by omega) (by omega), hA 895 _ (by omega) (by omega) (by omega) (by omega) (by omega), hA 896 _ (by omega) (by omega) (by omega) (by omega) (by omega), hA 898 _ (by omega) (by omega) (by omega) (by omega) (by omega)]
    refine ⟨t.1, t.2.1, t.2.2.1, t.2.2.2.1, t.2.2.2.2.1, t.2.2.2.2.2.1, fun k w => ?_⟩
    rw [hA 899 _ (by omega) (by omega) (by omega) (by omega) (by omega)]
    unfold maO
    rw [if_neg (by omega)]
    exact t.2.2.2.2.2.2 k w
  · intro k u
    rw [hA 901 _ (by omega) (by omega) (by omega) (by omega) (by omega)]
    exact k7 k u
theorem T_ma {c sz : Nat} {n : Nat → Nat → Nat} (h : TfT n (n 0 3)) : TfT (maN c sz n) (maN c sz n 0 3) := by
  obtain ⟨m1, m2, m3, m4⟩ := @ma_1 c sz n
  rw [ma_o (by omega) (by omega)]
  refine ⟨fun m u1 u2 z => ?_, fun r u z => ?_⟩
  · rw [ma_0] at u2
    by_cases hq : m = n 0 0 + 1
    · rw [hq, m3] at z; omega
    · rw [ma_o (by omega) (by omega)] at z
      rw [ma_o (by omega) (by omega)]
      exact h.1 m u1 (by omega) z
  · rw [ma_o (by omega) (by omega)] at z
    rw [ma_o (by omega) (by omega)]
    exact h.2 r u z
theorem ob_ma {c sz : Nat} {a : Bool} {n : Nat → Nat → Nat} {b : Nat → Nat → Bool} : obL (maN c sz n) (maB a n b) = obL n b := by
  unfold obL
  rw [ma_o (by omega) (by omega)]
  refine List.filter_congr (fun g _ => ?_)
  rw [maB_o (by omega)]
theorem m_say19 {fu c sz : Nat} {a : Bool} {M : mwM} {L : mwL} {n : Nat → Nat → Nat} {b : Nat → Nat → Bool} {o : Nat → Nat → Nat} {e v : Nat → Nat} (hfu : 200 ≤ fu) (hv : TfV n b) (h : TfM M L (n 0 3) n b o e) (hN : TfN M n b e) (hs : 1 ≤ sz ∧ sz ≤ 100) (h102 : M 732 102 = sI sz) (h933 : ∀ i, i < sz → M 933 i = sI (v i) ∧ v i < 256) (hK : n 0 0 < 100) : wq (DX19_say fu (sI c) (bI a) M L) (fun z => z.2 = L ∧ TfM z.1 L (n 0 3) (maN c sz n) (maB a n b) (maO v n o) e ∧ TfN z.1 (maN c sz n) (maB a n b) e ∧ ∀ x y, ¬ ((x = 732 ∧ y = 88) ∨ (869 ≤ x ∧ x ≤ 871) ∨ x = 927 ∨ x = 928) → z.1 x y = M x y) := by
  have hsk := su_k (TfV_W.mp hv).1 (n 0 0) (Nat.le_refl _)
  have e3 := h.1.2.2.1
  have e39 := h.1.2.2.2.2.2.2.2
  have e870 := h.2.1 (n 0 0) (Nat.le_refl _)
  obtain ⟨n1, n2, n3, n4, n5, n6, n7, n8⟩ := hN
  unfold DX19_say DX17_send fX17_send_b50
  simp only [mlet]
  rw [h102, if_neg (by rw [sI_ltl (by omega) (by decide)]; omega), if_pos (by rw [sI_lel (by omega) (by decide)]; omega), mset_n (show ¬ (869 = 869 ∧ 3 = 0) by omega), e3, if_neg (by rw [sI_eql (by omega) (by decide)]; omega), if_neg (show ¬ sI sz = 0 by rw [sI_eql (by omega) (by decide)]; omega), mset_n (show ¬ (869 = 869 ∧ 39 = 0) by omega), e39, if_pos (show (0 : Int32) = 0 from rfl), sI_1, mset_s, sI_1, mck_s (by omega) (by omega), mck_s (by omega) (by omega), sI_nn (by omega), sI_nn (by omega), mset_n (show ¬ (870 = 869 ∧ n 0 0 + 1 = 3) by omega), mset_n (show ¬ (870 = 869 ∧ n 0 0 + 1 = 0) by omega), e870, sI_add, mb3_s]
  rw [mset_n (show ¬ (869 = 870 ∧ 3 = n 0 0 + 1 + 1) by omega), mset_s, if_pos (by rw [sI_lle (by decide) (by omega)]; omega), mck_s (by omega) (by omega), mck_s (by omega) (by omega), sI_nn (by omega), bI_n, mset_n (show ¬ (732 = 870 ∧ 88 = n 0 0 + 1 + 1) by omega), mset_n (show ¬ (732 = 869 ∧ 88 = 3) by omega), mset_n (show ¬ (732 = 869 ∧ 88 = 0) by omega), n1, sI_1]
  generalize hN0 : mset (mset (mset (mset (mset (mset M 869 0 0) 869 3 (sI (n 0 0 + 1))) 870 (n 0 0 + 1 + 1) (sI (suN (n 2) (n 0 0) + sz))) 732 88 (sI (n 0 0 + 1))) 927 (n 0 0 + 1) (sI c)) 928 (n 0 0 + 1) (bI a) = N
  have nf : ∀ x y, ¬ (x = 869 ∧ (y = 0 ∨ y = 3)) → ¬ (x = 870 ∧ y = n 0 0 + 2) → ¬ (x = 732 ∧ y = 88) → ¬ (y = n 0 0 + 1 ∧ (x = 927 ∨ x = 928)) → N x y = M x y := fun x y u1 u2 u3 u4 => by
    rw [← hN0, mset_n (by omega), mset_n (by omega), mset_n (by omega), mset_n (by omega), mset_n (by omega), mset_n (by omega)]
  have p3 : N 869 3 = sI (n 0 0 + 1) := by rw [← hN0, mset_n (by omega), mset_n (by omega), mset_n (by omega), mset_n (by omega), mset_s]
  have p870 : N 870 (n 0 0 + 2) = sI (suN (n 2) (n 0 0) + sz) := by rw [← hN0, mset_n (by omega), mset_n (by omega), mset_n (by omega)]; exact mset_s
  have p88 : N 732 88 = sI (n 0 0 + 1) := by rw [← hN0, mset_n (by omega), mset_n (by omega), mset_s]
  have p927 : N 927 (n 0 0 + 1) = sI c := by rw [← hN0, mset_n (by omega), mset_s]
  have p928 : N 928 (n 0 0 + 1) = bI a := by rw [← hN0, mset_s]
  refine wq_for (body := fun r z => fX19_say_i45 fu (sI c) (bI a) r z.1 z.2.1 z.2.2.1 z.2.2.2) (fun i (w : mwM) => (sI (n 0 0 + 1), sI i, w, L)) (fun i w => (∀ j, j < i → w 871 (suN (n 2) (n 0 0) + j) = sB (v j)) ∧ ∀ x y, ¬ (x = 869 ∧ y = 0) → ¬ (x = 871 ∧ suN (n 2) (n 0 0) ≤ y) → w x y = N x y) sz ?_ ?_ sz 0 N fu (by omega) (by omega) ⟨fun j u => by omega, fun _ _ _ _ => rfl⟩
  · intro i w r hi ⟨q1, q2⟩ ih
    show wq (fX19_say_i45 fu (sI c) (bI a) r (sI (n 0 0 + 1)) (sI i) w L) _
    obtain ⟨v1, v2⟩ := h933 i hi
    unfold fX19_say_i45 DX17_octet fX17_octet_b31 DX17_size
    simp only [mlet]
    rw [q2 732 102 (by omega) (by omega), nf 732 102 (by omega) (by omega) (by omega) (by omega), h102, if_neg (by rw [sI_le (by omega) (by omega)]; omega), mck_s (by omega) (by omega), sI_nn (show i < 2000000000 by omega), q2 933 i (by omega) (by omega), nf 933 i (by omega) (by omega) (by omega) (by omega), v1, if_neg (by rw [sI_ltl (by omega) (by decide)]; omega), mset_n (show ¬ (869 = 869 ∧ 3 = 0) by omega), q2 869 3 (by omega) (by omega), p3, if_neg (by rw [sI_lt (by omega) (by omega)]; omega), if_neg (by rw [sI_ltl (by omega) (by decide)]; omega), sI_1, mck_s (by omega) (by omega), mck_s (by omega) (by omega), sI_nn (by omega), sI_nn (by omega), mset_n (show ¬ (870 = 869 ∧ n 0 0 + 1 + 1 = 0) by omega), mset_n (show ¬ (870 = 869 ∧ n 0 0 + 1 = 0) by omega), q2 870 _ (by omega) (by omega), q2 870 _ (by omega) (by omega), p870, nf 870 (n 0 0 + 1) (by omega) (by omega) (by omega) (by omega), e870, sI_sub (by omega), show suN (n 2) (n 0 0) + sz - suN (n 2) (n 0 0) = sz by omega, mb3_s, if_pos (by rw [sI_lt (by omega) (by omega)]; exact hi), mck_s (by omega) (by omega), mset_n (show ¬ (870 = 869 ∧ n 0 0 + 1 = 0) by omega), q2 870 _ (by omega) (by omega), nf 870 (n 0 0 + 1) (by omega) (by omega) (by omega) (by omega), e870, sI_add, mck_s (by omega) (by omega), sI_nn (by omega), mb2_s, sI_1]
    refine ih _ ⟨fun j u => ?_, fun x y u1 u2 => by rw [mset_n (by omega), mset_n (by omega)]; exact q2 x y u1 u2⟩
    by_cases hq : j = i
    · rw [hq, mset_s]
      exact sB_n _ v2
    · rw [mset_n (by omega), mset_n (by omega)]; exact q1 j (by omega)
  · intro w r ⟨q1, q2⟩
    show wq (fX19_say_i45 fu (sI c) (bI a) r (sI (n 0 0 + 1)) (sI sz) w L) _
    unfold fX19_say_i45
    rw [q2 732 102 (by omega) (by omega), nf 732 102 (by omega) (by omega) (by omega) (by omega), h102, if_pos (by rw [sI_le (by omega) (by omega)]; omega)]
    refine wq_some ⟨rfl, ?_, ?_, fun x y u => ?_⟩
    all_goals (try dsimp only)
    · refine TfM_ma hv h hK (fun x y u1 u2 u3 u4 u5 => ?_) ?_ ?_ (fun i u => ⟨q1 i u, (h933 i u).2⟩)
      · rw [q2 x y (by omega) u5, nf x y u3 u4 (by omega) (by omega)]
      · rw [q2 869 3 (by omega) (by omega)]; exact p3
      · rw [q2 870 _ (by omega) (by omega)]; exact p870
    · obtain ⟨m1, m2, m3, m4⟩ := @ma_1 c sz n
      refine ⟨?_, fun m u1 u2 => ?_, ?_, ?_, ?_, ?_, ?_, ?_⟩
      · rw [q2 732 88 (by omega) (by omega), p88, ma_0]
      · rw [ma_0] at u2
        rw [q2 927 m (by omega) (by omega), q2 928 m (by omega) (by omega)]
        by_cases hq : m = n 0 0 + 1
        · rw [hq, p927, p928, m1, (@maB_0 a n b).1]
          exact ⟨rfl, rfl⟩
        · rw [nf 927 m (by omega) (by omega) (by omega) (by omega), nf 928 m (by omega) (by omega) (by omega) (by omega), ma_o (by omega) (by omega), maB_o (by omega)]
          exact n2 m u1 (by omega)
      · rw [q2 732 95 (by omega) (by omega), nf 732 95 (by omega) (by omega) (by omega) (by omega)]; exact n3
      · rw [q2 732 96 (by omega) (by omega), nf 732 96 (by omega) (by omega) (by omega) (by omega), maB_o (by omega)]; exact n4
      · rw [q2 732 94 (by omega) (by omega), nf 732 94 (by omega) (by omega) (by omega) (by omega), ma_o (by omega) (by omega)]; exact n5
      · rw [q2 732 91 (by omega) (by omega), nf 732 91 (by omega) (by omega) (by omega) (by omega), ob_ma]; exact n6
      · have key : ∀ k (hk : k < (obL n b).length), w 929 k = sI ((obL n b)[k] + 1) ∧ w 930 k = sI (idO (maN c sz n) (maB a n b) (obL n b)[k]) := by
          intro k hk
          have hm := ob_mem.mp (List.getElem_mem hk)
          have hf := hv.2.2.2 (obL n b)[k] (by have := hv.1.2.1; omega)
          rw [q2 929 k (by omega) (by omega), nf 929 k (by omega) (by omega) (by omega) (by omega), q2 930 k (by omega) (by omega), nf 930 k (by omega) (by omega) (by omega) (by omega)]
          have ei : idO (maN c sz n) (maB a n b) (obL n b)[k] = idO n b (obL n b)[k] := by
            unfold idO toT
            rw [ma_o (i := 11) (by omega) (by omega), ma_o (i := 10) (by omega) (by omega), ma_o (i := 1) (by omega) (by omega), maB_o (by omega)]
          rw [ei]
          exact n7 k hk
        intro k hk
        simp only [ob_ma] at hk ⊢
        exact key k hk
      · rw [ob_ma, ma_o (by omega) (by omega), ma_o (by omega) (by omega)]; exact n8
    · by_cases hx : x = 871 ∧ suN (n 2) (n 0 0) ≤ y
      · omega
      · rw [q2 x y (by omega) hx, nf x y (by omega) (by omega) (by omega) (by omega)]
/-- a hundred messages are all -/
theorem m_say19n {fu : Nat} {c a sz : Int32} {M : mwM} {L : mwL} {n : Nat → Nat → Nat} {b : Nat → Nat → Bool} {o : Nat → Nat → Nat} {e : Nat → Nat} {s : Nat} (h : TfM M L (n 0 3) n b o e) (hs : s ≤ 100) (h102 : M 732 102 = sI s) (hK : n 0 0 = 100) : DX19_say fu c a M L = some (mset M 869 0 0, L) := by
  unfold DX19_say DX17_send
  simp only [mlet]
  rw [h102, if_neg (by rw [sI_ltl (by omega) (by decide)]; omega), if_pos (by rw [sI_lel (by omega) (by decide)]; omega), mset_n (show ¬ (869 = 869 ∧ 3 = 0) by omega), h.1.2.2.1, hK, if_pos (show sI 100 = 100 from rfl), mb3_s, if_neg (by decide)]
