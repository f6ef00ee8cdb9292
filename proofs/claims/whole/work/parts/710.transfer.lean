/-! TRANSFER: the reference -/
def sB (x : Nat) : Int32 := (sI x).toInt8.toInt32
theorem sB_n : ∀ x, x < 256 → vp_nar .byte (sB x) = sB x := by decide +kernel
theorem sB_b : ∀ x, x < 256 → (sB x).toInt8.toInt32 = sB x := by decide +kernel
theorem sB_a : ∀ x, x < 256 → sB x &&& 255 = sI x := by decide +kernel
def nuO (n : Nat → Nat → Nat) (f : Nat) : Nat := if n 10 f = 1 then n 2 (n 11 f) else n 12 f
def coO (n : Nat → Nat → Nat) (f : Nat) : Nat := if n 10 f = 0 then n 2 (n 11 f) else if n 10 f = 1 then 6 else if n 10 f = 3 then 0 else if n 2 (n 11 f) - frO 2 (n 12 f) ≤ 7 then n 2 (n 11 f) - frO 2 (n 12 f) else 7
abbrev TmG (M : mwM) (L : mwL) (τ : Nat) (n : Nat → Nat → Nat) : Prop := M 869 1 = sI 4095 ∧ L 869 2 = sL τ ∧ M 869 3 = sI (n 0 0) ∧ M 869 26 = sI (n 0 1) ∧ M 869 35 = sI 0 ∧ M 869 36 = sI 0 ∧ M 869 37 = sI 0 ∧ M 869 39 = 0
abbrev TmS (M : mwM) (L : mwL) (τ : Nat) (n : Nat → Nat → Nat) (m : Nat) : Prop := M 872 m = bI (decide (n 3 m ≠ 0)) ∧ M 873 m = sI (n 3 m) ∧ (n 3 m = 1 ∨ n 3 m = 2 → M 874 m = sI 6) ∧ (n 3 m ≤ 2 → M 875 m = sI 0) ∧ (n 3 m = 1 → L 880 m = sL (n 4 m)) ∧ (n 3 m = 2 → M 876 m = 0 ∧ M 878 m = 0 ∧ L 881 m = sL τ)
abbrev TmM (M : mwM) (L : mwL) (τ : Nat) (n o : Nat → Nat → Nat) (m : Nat) : Prop := (∀ i, i < n 2 m → M 871 (suN (n 2) (m - 1) + i) = sB (o m i) ∧ o m i < 256) ∧ TmS M L τ n m
abbrev TmR (M : mwM) (L : mwL) (n o : Nat → Nat → Nat) (r : Nat) : Prop := M 882 r = sI (n 5 r) ∧ (n 5 r = 1 → M 883 r = sI (n 6 r) ∧ M 884 r = sI (n 2 (n 6 r)) ∧ M 885 r = sI (n 7 r) ∧ M 886 r = sI (n 8 r) ∧ M 887 r = 0 ∧ L 889 r = sL (n 9 r) ∧ M 890 r = 0 ∧ ∀ i, i < n 7 r → M 891 (10000 * r + i) = sB (o (n 6 r) i))
abbrev TmF (M : mwM) (n : Nat → Nat → Nat) (b : Nat → Nat → Bool) (o : Nat → Nat → Nat) (f : Nat) : Prop := M 892 (f + 1) = sI (n 10 f) ∧ M 893 (f + 1) = sI (n 11 f) ∧ M 894 (f + 1) = sI (nuO n f) ∧ M 895 (f + 1) = sI (coO n f) ∧ M 896 (f + 1) = sI 0 ∧ M 898 (f + 1) = bI (b 1 f) ∧ ∀ k, k < coO n f → M 899 (7 * (f + 1) + k) = sB (o (n 11 f) (frO (n 10 f) (n 12 f) + k))
def TfM (M : mwM) (L : mwL) (τ : Nat) (n : Nat → Nat → Nat) (b : Nat → Nat → Bool) (o : Nat → Nat → Nat) (e : Nat → Nat) : Prop :=
  TmG M L τ n ∧ (∀ m, m ≤ n 0 0 → M 870 (m + 1) = sI (suN (n 2) m)) ∧ (∀ m, 1 ≤ m → m ≤ n 0 0 → TmM M L τ n o m) ∧ (∀ m, n 0 0 < m → m ≤ 100 → M 872 m = 0 ∧ M 873 m = 0 ∧ M 875 m = sI 0) ∧ (∀ r, r < 4 → TmR M L n o r) ∧ (∀ f, f < n 0 1 → TmF M n b o f) ∧ ∀ k, k < 8 → M 901 k = sI (e k)
theorem su_k {n : Nat → Nat → Nat} {b : Nat → Nat → Bool} (hv : TfW n b) : ∀ k, k ≤ n 0 0 → suN (n 2) k ≤ 100 * k := by
  intro k hk
  have := su_le (g := n 2) (h := fun _ => 100) k (fun m u1 u2 => (hv.2.1 m u1 (by omega)).2.2.1)
  rw [su_c] at this
  exact this
theorem su_S {g : Nat → Nat} {m : Nat} (h : 1 ≤ m) : suN g m = suN g (m - 1) + g m := by
  obtain ⟨k, rfl⟩ : ∃ k, m = k + 1 := ⟨m - 1, by omega⟩
  rfl
theorem m_size17 {fu m τ : Nat} {M : mwM} {L : mwL} {n : Nat → Nat → Nat} {b : Nat → Nat → Bool} {o : Nat → Nat → Nat} {e : Nat → Nat} (hv : TfW n b) (h : TfM M L τ n b o e) (h1 : 1 ≤ m) (h2 : m ≤ n 0 0) : DX17_size fu (sI m) M L = some (sI (n 2 m), M, L) := by
  have hK := hv.1.1
  have e1 := h.2.1 m h2
  have e0 := h.2.1 (m - 1) (by omega)
  rw [show m - 1 + 1 = m by omega] at e0
  have hs := su_S (g := n 2) h1
  have := su_k hv m h2
  unfold DX17_size
  rw [sI_1, mck_s (by omega) (by omega), mck_s (by omega) (by omega), sI_nn (by omega), sI_nn (by omega), e1, e0, sI_sub (by omega), hs]
  rw [show suN (n 2) (m - 1) + n 2 m - suN (n 2) (m - 1) = n 2 m by omega]
theorem co_le {n : Nat → Nat → Nat} {b : Nat → Nat → Bool} {f : Nat} (hv : TfW n b) (hf : f < n 0 1) : coO n f ≤ 7 := by
  have hg := hv.2.2.2 f hf
  unfold coO
  split
  · exact hg.2.2.2.2.1 (by assumption)
  · split
    · omega
    · split
      · omega
      · split <;> omega
/-- a frame more -/
theorem TfM_mk {M M' : mwM} {L L' : mwL} {τ kd m sq co : Nat} {n : Nat → Nat → Nat} {b : Nat → Nat → Bool} {o : Nat → Nat → Nat} {e : Nat → Nat} (hv : ∀ f, f < n 0 1 → coO n f ≤ 7) (h : TfM M L τ n b o e) (hA : ∀ a y, ¬ (892 ≤ a ∧ a ≤ 898 ∧ y = n 0 1 + 1) → ¬ (a = 869 ∧ y = 26) → ¬ (a = 899 ∧ 7 * (n 0 1 + 1) ≤ y) → M' a y = M a y) (hL : ∀ a y, a ≠ 897 → L' a y = L a y) (h26 : M' 869 26 = sI (n 0 1 + 1)) (h892 : M' 892 (n 0 1 + 1) = sI kd) (h893 : M' 893 (n 0 1 + 1) = sI m) (h894 : M' 894 (n 0 1 + 1) = sI (if kd = 1 then n 2 m else sq)) (h895 : M' 895 (n 0 1 + 1) = sI co) (hco : co = if kd = 0 then n 2 m else if kd = 1 then 6 else if kd = 3 then 0 else if n 2 m - frO 2 sq ≤ 7 then n 2 m - frO 2 sq else 7) (h896 : M' 896 (n 0 1 + 1) = sI 0) (h898 : M' 898 (n 0 1 + 1) = 0) (h899 : ∀ k, k < co → M' 899 (7 * (n 0 1 + 1) + k) = sB (o m (frO kd sq + k))) : TfM M' L' τ (mkN n kd m sq) (mkB n b) o e := by
  obtain ⟨k1, k2, k3, k4, k5, k6, k7⟩ := h
  have fo : ∀ i j, i ≠ 0 ∨ j ≠ 1 → ¬ (10 ≤ i ∧ i ≤ 12) → mkN n kd m sq i j = n i j := fun i j u v => mk_r u v
  have f2 : mkN n kd m sq 2 = n 2 := funext (fun j => fo 2 j (by omega) (by omega))
  refine ⟨?_, ?_, ?_, ?_, ?_, ?_, ?_⟩
  · unfold TmG
    rw [fo 0 0 (by omega) (by omega), mk_F, hA 869 1 (by omega) (by omega) (by omega), hA 869 3 (by omega) (by omega) (by omega), hA 869 35 (by omega) (by omega) (by omega), hA 869 36 (by omega) (by omega) (by omega), hA 869 37 (by omega) (by omega) (by omega), hA 869 39 (by omega) (by omega) (by omega), hL 869 2 (by omega)]
    exact ⟨k1.1, k1.2.1, k1.2.2.1, h26, k1.2.2.2.2⟩
  · intro j u
    rw [fo 0 0 (by omega) (by omega)] at u
    rw [f2, hA 870 _ (by omega) (by omega) (by omega)]
    exact k2 j u
  · intro j u1 u2
    rw [fo 0 0 (by omega) (by omega)] at u2
    have := k3 j u1 u2
    unfold TmM TmS
    rw [f2, fo 3 j (by omega) (by omega), fo 4 j (by omega) (by omega), hA 872 j (by omega) (by omega) (by omega), hA 873 j (by omega) (by omega) (by omega), hA 874 j (by omega) (by omega) (by omega), hA 875 j (by omega) (by omega) (by omega), hA 876 j (by omega) (by omega) (by omega), hA 878 j (by omega) (by omega) (by omega), hL 880 j (by omega), hL 881 j (by omega)]
    refine ⟨fun i u => ?_, this.2⟩
    rw [hA 871 _ (by omega) (by omega) (by omega)]
    exact this.1 i u
  · intro j u1 u2
    rw [fo 0 0 (by omega) (by omega)] at u1
    rw [hA 872 j (by omega) (by omega) (by omega), hA 873 j (by omega) (by omega) (by omega), hA 875 j (by omega) (by omega) (by omega)]
    exact k4 j u1 u2
  · intro r u
    have := k5 r u
    unfold TmR
    rw [f2, fo 5 r (by omega) (by omega), fo 6 r (by omega) (by omega), fo 7 r (by omega) (by omega), fo 8 r (by omega) (by omega), fo 9 r (by omega) (by omega), hA 882 r (by omega) (by omega) (by omega), hA 883 r (by omega) (by omega) (by omega), hA 884 r (by omega) (by omega) (by omega), hA 885 r (by omega) (by omega) (by omega), hA 886 r (by omega) (by omega) (by omega), hA 887 r (by omega) (by omega) (by omega), hA 890 r (by omega) (by omega) (by omega), hL 889 r (by omega)]
    refine ⟨this.1, fun z => ?_⟩
    have t := this.2 z
    refine ⟨t.1, t.2.1, t.2.2.1, t.2.2.2.1, t.2.2.2.2.1, t.2.2.2.2.2.1, t.2.2.2.2.2.2.1, fun i u => ?_⟩
    rw [hA 891 _ (by omega) (by omega) (by omega)]
    exact t.2.2.2.2.2.2.2 i u
  · intro f u
    rw [mk_F] at u
    by_cases hq : f = n 0 1
    · subst hq
      have en : nuO (mkN n kd m sq) (n 0 1) = if kd = 1 then n 2 m else sq := by
        unfold nuO
        rw [mk_10, mk_11, mk_12, fo 2 m (by omega) (by omega)]
      have ec : coO (mkN n kd m sq) (n 0 1) = co := by
        unfold coO
        rw [mk_10, mk_11, mk_12, fo 2 m (by omega) (by omega), ← hco]
      unfold TmF
      rw [en, ec, mk_10, mk_11, mk_12, mkB_F]
      exact ⟨h892, h893, h894, h895, h896, h898, h899⟩
    · have := k6 f (by omega)
      have cl := hv f (show f < n 0 1 by omega)
      have en : nuO (mkN n kd m sq) f = nuO n f := by
        unfold nuO
        rw [mk_o (by omega) hq, mk_o (by omega) hq, mk_o (by omega) hq, fo 2 _ (by omega) (by omega)]
      have ec : coO (mkN n kd m sq) f = coO n f := by
        unfold coO
        rw [mk_o (by omega) hq, mk_o (by omega) hq, mk_o (by omega) hq, fo 2 _ (by omega) (by omega)]
      unfold TmF
      rw [en, ec, mk_o (by omega) hq, mk_o (by omega) hq, mk_o (by omega) hq, mkB_o hq]
      rw [hA 892 _ (by omega) (by omega) (by omega), hA 893 _ (by omega) (by omega) (by omega), hA 894 _ (by omega) (by omega) (by omega), hA 895 _ (by omega) (by omega) (by omega), hA 896 _ (by omega) (by omega) (by omega), hA 898 _ (by omega) (by omega) (by omega)]
      refine ⟨this.1, this.2.1, this.2.2.1, this.2.2.2.1, this.2.2.2.2.1, this.2.2.2.2.2.1, fun k u => ?_⟩
      rw [hA 899 _ (by omega) (by omega) (by omega)]
      exact this.2.2.2.2.2.2 k u
  · intro k u
    rw [hA 901 k (by omega) (by omega) (by omega)]
    exact k7 k u
theorem m_make17 {fu F τ : Nat} {a1 a2 a3 a4 a5 : Int32} {M : mwM} {L : mwL} (hF : F < 1600) (h26 : M 869 26 = sI F) (h2 : L 869 2 = sL τ) : wq (DX17_make fu a1 a2 a3 a4 a5 M L) (fun z => z.1 = sI (F + 1) ∧ (∀ a y, ¬ (892 ≤ a ∧ a ≤ 898 ∧ y = F + 1) → ¬ (a = 869 ∧ y = 26) → z.2.1 a y = M a y) ∧ (∀ a y, a ≠ 897 → z.2.2 a y = L a y) ∧ z.2.1 869 26 = sI (F + 1) ∧ z.2.1 892 (F + 1) = a1 ∧ z.2.1 893 (F + 1) = a2 ∧ z.2.1 894 (F + 1) = a3 ∧ z.2.1 895 (F + 1) = a4 ∧ z.2.1 896 (F + 1) = a5 ∧ z.2.1 898 (F + 1) = 0) := by
  unfold DX17_make
  rw [h26, if_neg (by rw [sI_eql (by omega) (by decide)]; omega)]
  simp (disch := omega) only [mset_n, mset_s, mck_s, sI_nn, nn_s, sI_lt, sI_le, sI_eq, sI_ltl, sI_lel, sI_eql, sI_llt, sI_lle, sI_1, bI_0, bI_1, bI_n, mlet, mb3_s, mb2_s]
  refine wq_some ⟨rfl, fun a y u v => ?_, fun a y u => ?_, ?_⟩
  all_goals (try dsimp only)
  · simp (disch := omega) only [mset_n]
  · simp (disch := omega) only [mset_n]
  · simp (disch := omega) only [mset_n, mset_s, true_and]
    rfl
theorem m_fill17 {fu F m fr c τ : Nat} {M : mwM} {L : mwL} {v : Nat → Nat} {B : Nat} (hfu : 10 ≤ fu) (hF : F < 1601) (hm : m < 102) (hc : c ≤ 7) (h870 : M 870 m = sI B) (hB : B + fr + 7 ≤ 20000) (hd : ∀ k, k < c → M 871 (B + fr + k) = sB (v k) ∧ v k < 256) : wq (DX17_fill fu (sI (F + 1)) (sI m) (sI fr) (sI c) M L) (fun z => z.2 = L ∧ (∀ k, k < c → z.1 899 (7 * (F + 1) + k) = sB (v k)) ∧ ∀ a y, ¬ (a = 899 ∧ 7 * (F + 1) ≤ y ∧ y < 7 * (F + 1) + 7) → z.1 a y = M a y) := by
  unfold DX17_fill
  refine wq_for (body := fun r z => fX17_fill_i3 fu (sI (F + 1)) (sI m) (sI fr) (sI c) r z.1 z.2.1 z.2.2) (fun i (w : mwM) => (sI i, w, L)) (fun i w => (∀ k, k < i → w 899 (7 * (F + 1) + k) = sB (v k)) ∧ ∀ a y, ¬ (a = 899 ∧ 7 * (F + 1) ≤ y ∧ y < 7 * (F + 1) + 7) → w a y = M a y) c ?_ ?_ c 0 M fu (by omega) (by omega) ⟨fun k u => by omega, fun _ _ _ => rfl⟩
  · intro i w r hi ⟨q1, q2⟩ ih
    show wq (fX17_fill_i3 fu (sI (F + 1)) (sI m) (sI fr) (sI c) r (sI i) w L) _
    have hdi := hd i hi
    unfold fX17_fill_i3
    rw [if_neg (by rw [sI_le (by omega) (by omega)]; omega), if_neg (by rw [sI_lel (by omega) (by decide)]; omega), mck_s (by omega) (by omega), sI_nn (by omega), q2 870 m (by omega), h870, sI_add, sI_add, show (7 : Int32) * sI (F + 1) = sI (7 * (F + 1)) from sI_lml, sI_add, mck_s (by omega) (by omega), mck_s (by omega) (by omega), sI_nn (by omega), sI_nn (by omega), q2 871 _ (by omega), hdi.1, sB_n _ hdi.2]
    simp only [mlet]
    rw [sI_1]
    refine ih _ ⟨fun k u => ?_, fun a y u => by rw [mset_n (by omega)]; exact q2 a y u⟩
    by_cases hq : k = i
    · rw [hq, mset_s]
    · rw [mset_n (by omega)]; exact q1 k (by omega)
  · intro w r ⟨q1, q2⟩
    show wq (fX17_fill_i3 fu (sI (F + 1)) (sI m) (sI fr) (sI c) r (sI c) w L) _
    unfold fX17_fill_i3 fX17_fill_b48
    rw [if_pos (by rw [sI_le (by omega) (by omega)]; omega)]
    exact wq_some ⟨rfl, q1, q2⟩
