/-! one bit on the bus: a node that sends -/
theorem cnt_1 {p q : Nat → Bool} {f : Nat} (hp : p f = false) (hq : q f = true) (h : ∀ i, i ≠ f → q i = p i) : ∀ F, f < F → cnt q F = cnt p F + 1 := by
  intro F
  induction F with
  | zero => intro z; omega
  | succ F ih =>
    intro hf
    have e1 : cnt q (F + 1) = cnt q F + (if q F then 1 else 0) := rfl
    have e2 : cnt p (F + 1) = cnt p F + (if p F then 1 else 0) := rfl
    rw [e1, e2]
    by_cases c : F = f
    · subst c
      rw [hp, hq, cnt_congr (q := p) (fun i u => h i (by omega))]
      rfl
    · rw [ih (by omega), h F c]
      omega
theorem wv_2 : ∀ x, x < 2 → ∀ y, y < 2 → ((sI (x + 2 * y) &&& 2 = 0) ↔ y = 0) := by decide
def lsB (f : Nat → Nat) (K b : Nat) : Bool := decide (K < (lyN f 13).1 + 1 ∧ (if K < wN f then lyF f 98 K else 0) = 0 ∧ wR f K = 1 ∧ b = 0)
theorem arb_b {f : Nat → Nat} (hf : ∀ i, f i < 2) : (lyN f 13).1 + 1 ≤ 18 ∧ (lyN f 13).1 + 1 ≤ wN f := by
  obtain ⟨i1, i2, i3, i4, i5⟩ := lyN_b hf 13
  have := i5 (by omega)
  have l := lyN_le (f := f) 13 85
  have e : wN f = (lyN f (13 + 85)).1 := rfl
  omega
theorem c_isLosing {fu n K b : Nat} {f : Nat → Nat} {A : mwM} {L : mwL} (hn : n < 7) (hb : b < 2) (hf : ∀ i, f i < 2) (hK : K < wN f + 10) (h28 : A 28 n = sI K) (h32 : A 32 n = sI (wR f K)) (hW : WvR A n f) : DX0_isLosing fu (sI n) (sI b) A L = some (bI (lsB f K b), A, L) := by
  have wb := wN_b hf
  have ab := arb_b hf
  have wl := wR_lt hf K
  unfold DX0_isLosing fX0_isLosing_b37 fX0_isLosing_b38
  simp only [mzz_0, mzz_1]
  rw [mck_s hn (by omega), sI_nn (by omega), h32, h28, mck_s hn (by omega), mck_s hn (by omega), mck_s (by omega) (by omega), sI_nn (by omega)]
  unfold lsB
  by_cases c1 : wR f K ≤ b
  · rw [if_pos (by rw [sI_le (by omega) (by omega)]; exact c1), decide_eq_false (by omega)]
    rfl
  · rw [if_neg (by rw [sI_le (by omega) (by omega)]; exact c1)]
    by_cases c2 : K < wN f
    · obtain ⟨b1, b2, b3, b4⟩ := ly_b hf 98 K c2
      rw [hW.1 K c2]
      have w2 := wv_2 _ b1 _ b3
      by_cases c3 : lyG f 98 K = 0
      · rw [if_pos (w2.mpr c3), decide_eq_false]
        · rfl
        · rw [if_pos c2]
          intro z
          have := b4.mpr ⟨z.2.1, z.1⟩
          omega
      · rw [if_neg (fun z => c3 (w2.mp z)), decide_eq_true]
        · rfl
        · rw [if_pos c2]
          have := b4.mp (by omega)
          exact ⟨this.2, this.1, by omega, by omega⟩
    · rw [hW.2.1 K (by omega) hK, if_pos (show sI 1 &&& 2 = 0 by decide), decide_eq_false (by omega)]
      rfl
theorem w_9 (w : Nat) (h : w < 1000) : sI (w + 10) - 9 = sI (w + 1) := by
  have : sI (w + 10) - 9 = sI (w + 10 - 9) := sI_sub (b := 9) (by omega)
  rw [this, show w + 10 - 9 = w + 1 by omega]
theorem w_10 (w : Nat) (h : w < 1000) : sI (w + 10) - 10 + 1 = sI (w + 1) := by
  have : sI (w + 10) - 10 = sI (w + 10 - 10) := sI_sub (b := 10) (by omega)
  rw [this, sI_1, show w + 10 - 10 = w by omega]
theorem w_1 (w : Nat) (h : w < 1000) : sI (w + 10) - 1 = sI (w + 9) := by
  have : sI (w + 10) - 1 = sI (w + 10 - 1) := sI_sub (b := 1) (by omega)
  rw [this, show w + 10 - 1 = w + 9 by omega]
theorem st_well {fu N t F n K b f wn : Nat} {fb : Nat → Nat} {ow id : Nat → Nat} {oc : Nat → Nat → Nat} {dn ec tc : Nat → Nat} {A M0 M2 : mwM} {Lc Lm : mwL} (hn : n < 7) (hwn : wn = wN fb) (wb : 98 ≤ wn ∧ wn ≤ 122) (hfb : fbF (id f) (oc f) = fb) (hG2 : BuG A M2 N t F ow id oc dn ec tc) (nM2 : ndM n M0 M2) (hT2 : ∀ a y, (839 ≤ a ∧ a ≤ 844) → M2 a y = M0 a y) (hOc : ∃ o, OcR A (47 + 2 * n) o) (hf : f < F) (how : ow f = n) (hdn : dn f = 0) (h25 : A 25 n = sI 1) (v831 : M2 831 n = sI 1) (h27 : A 27 n = sI f) (v833 : M2 833 n = sI f) (h28 : A 28 n = sI K) (v36 : M2 836 n = sI (K + 1)) (hK : K < wn + 10) (hW : WvR A n fb) (a29 : A 29 n = sI (wn + 10)) (r37 : M2 821 37 = sI (wn + 10)) (hseen : ∀ i, i < K + 1 → i < wN fb → M2 837 (1200 * n + i) = sI (wR fb i)) (pe : 8 * ec n ≤ t) (pt : 40 * tc n + K ≤ t) : StQ N t F ow id oc dn ec tc n A M0 Lc Lm (fX0_seeSending_b79 fu (sI n) (sI b) (sI t) A Lc) (fX12_sent_b143 fu (sI n) (sI b) (sI f) (sI K) M2 Lm) := by
  have hG' := hG2
  obtain ⟨g1, ⟨g2, g3, g4⟩, g5, g6, hWC2, hC2, ⟨g9, g10, g11⟩, ⟨g12, g13⟩, g14, g15, ⟨tn, g16, g17⟩, g18⟩ := hG'
  have hF200 := g5.2.1
  unfold fX0_seeSending_b79 fX0_seeSending_b115 fX12_sent_b143 fX12_sent_b202
  simp only [mlet, mb2_id]
  rw [mck_s hn (by omega), mck_s hn (by omega), sI_nn (by omega), h28, sI_1, mck_s hn (by omega), mck_s hn (by omega), mset_s, mset_n (show ¬ (29 = 28 ∧ n = n) by omega), a29, r37, w_1 wn (by omega)]
  by_cases c : K + 1 < wn + 10
  · rw [if_pos (by rw [sI_lt (by omega) (by omega)]; exact c), if_neg (by rw [sI_eq (by omega) (by omega)]; omega)]
    refine st_calm (BuG_fr hG2 (fun a y w => by simp (disch := omega) only [mset_n]) (fun _ _ _ => rfl) hWC2 hC2) (Or.inr (Or.inl ⟨f, K + 1, hf, how, hdn, by rw [mset_n (by omega)]; exact h25, v831, by rw [mset_n (by omega)]; exact h27, v833, mset_s, v36, by omega, by rw [hfb, ← hwn]; exact c, by rw [hfb]; exact WvR_fr hW (fun a y w => mset_n (by omega)), fun i u1 u2 => ?_, by omega, by omega⟩)) (fun a y w => by simp (disch := omega) only [mset_n]) nM2 (by rw [mset_n (by omega)]) hT2 (oc_own hOc (fun y => by simp (disch := omega) only [mset_n]))
    rw [hfb] at u2 ⊢
    exact hseen i u1 u2
  · have c9 : K = wn + 9 := by omega
    rw [if_neg (by rw [sI_lt (by omega) (by omega)]; exact c), if_pos (by rw [c9])]
    have dup := cnt_1 (p := fun x => decide (dn x = 1)) (q := fun x => decide (nst dn f 1 x = 1)) (f := f) (by rw [hdn]; rfl) (by rw [nst_s]; rfl) (fun i w => by rw [nst_n w]) F hf
    have wdn := cnt_1 (p := fun x => decide (ow x = n ∧ nst dn f 1 x = 0)) (q := fun x => decide (ow x = n ∧ dn x = 0)) (f := f) (by rw [nst_s]; exact decide_eq_false (by omega)) (decide_eq_true ⟨how, hdn⟩) (fun i w => by rw [nst_n w]) F hf
    have wot : ∀ m, m ≠ n → cnt (fun x => decide (ow x = m ∧ nst dn f 1 x = 0)) F = cnt (fun x => decide (ow x = m ∧ dn x = 0)) F := fun m hm => cnt_congr (fun i w => by
      by_cases z : i = f
      · rw [z, decide_eq_false (show ¬ (ow f = m ∧ nst dn f 1 f = 0) from fun v => by omega), decide_eq_false (show ¬ (ow f = m ∧ dn f = 0) from fun v => by omega)]
      · rw [nst_n z])
    have dle := cnt_le (fun x => decide (nst dn f 1 x = 1)) F
    have wle := cnt_le (fun x => decide (ow x = n ∧ dn x = 0)) F
    unfold DX0_endSending DX0_become DX12_go
    simp only [mlet, mb2_id]
    have p11 : M2 821 11 = sI (cnt (fun x => decide (dn x = 1)) F) := g13
    generalize hDC : cnt (fun x => decide (dn x = 1)) F = DC at *
    generalize hWT : cnt (fun x => decide (ow x = n ∧ nst dn f 1 x = 0)) F = WT at *
    have p30 := (g14 n hn).1
    rw [wdn] at p30
    simp (disch := omega) only [mck_s, sI_nn, mset_n, h27, p30, g12, p11, sI_m1, sI_1]
    generalize hA3 : mset (mset (mset (mset (mset (mset A 28 n (sI (K + 1))) 45 f 1) 30 n (sI WT)) 20 11 (sI (DC + 1))) 25 n 6) 26 n 3 = A3
    have fA3 : ∀ a y, ¬ ((a = 28 ∨ a = 30 ∨ a = 25 ∨ a = 26) ∧ y = n) → ¬ (a = 45 ∧ y = f) → ¬ (a = 20 ∧ y = 11) → A3 a y = A a y := fun a y w1 w2 w3 => by
      rw [← hA3]
      simp (disch := omega) only [mset_n]
    have vA3 : A3 45 f = sI 1 ∧ A3 30 n = sI WT ∧ A3 20 11 = sI (DC + 1) ∧ A3 25 n = sI 6 ∧ A3 26 n = sI 3 := by
      rw [← hA3]
      simp (disch := omega) only [mset_n, mset_s]
      exact ⟨(by first | trivial | rfl), (by first | trivial | rfl), (by first | trivial | rfl), (by first | trivial | rfl), (by first | trivial | rfl)⟩
    generalize hM3 : mset (mset (mset (mset (mset (mset M2 828 f (vp_nar .boolean 1)) 829 DC (sI f)) 830 DC (M2 821 2)) 821 11 (sI (DC + 1))) 831 n 6) 832 n 3 = M3
    have fM3 : ∀ a y, ¬ ((a = 831 ∨ a = 832) ∧ y = n) → ¬ (a = 828 ∧ y = f) → a ≠ 829 → a ≠ 830 → ¬ (a = 821 ∧ y = 11) → M3 a y = M2 a y := fun a y w1 w2 w3 w4 w5 => by
      rw [← hM3]
      simp (disch := omega) only [mset_n]
    have vM3 : M3 828 f = sI 1 ∧ M3 821 11 = sI (DC + 1) ∧ M3 831 n = sI 6 ∧ M3 832 n = sI 3 := by
      rw [← hM3]
      simp (disch := omega) only [mset_n, mset_s]
      exact ⟨(by first | trivial | rfl), (by first | trivial | rfl), (by first | trivial | rfl), (by first | trivial | rfl)⟩
    refine ⟨A3, M3, nst dn f 1, ec, tc, rfl, rfl, oc_own hOc (fun y => fA3 _ y (by omega) (by omega) (by omega)), ⟨g1, ⟨by rw [fA3 20 8 (by omega) (by omega) (by omega)]; exact g2, by rw [fM3 821 1 (by omega) (by omega) (by omega) (by omega) (by omega)]; exact hG2.2.1.2.1, by rw [fM3 821 2 (by omega) (by omega) (by omega) (by omega) (by omega)]; exact hG2.2.1.2.2⟩, ⟨by rw [fA3 20 9 (by omega) (by omega) (by omega)]; exact g5.1, g5.2.1, fun x w => ?_⟩, ⟨by rw [fM3 821 4 (by omega) (by omega) (by omega) (by omega) (by omega)]; exact hG2.2.2.2.1.1, g5.2.1, fun x w => ?_⟩, WC_fr hWC2 (fun a y w => fM3 a y (by omega) (by omega) (by omega) (by omega) (by omega)), CA_fr hC2 (fun a y w => fM3 a y (by omega) (by omega) (by omega) (by omega) (by omega)), ⟨by rw [fA3 20 10 (by omega) (by omega) (by omega)]; exact g9, by rw [fM3 821 29 (by omega) (by omega) (by omega) (by omega) (by omega)]; exact hG2.2.2.2.2.2.2.1.2.1, fun i w => ?_⟩, ⟨by rw [dup]; exact vA3.2.2.1, by rw [dup]; exact vM3.2.1⟩, fun m w => ?_, by rw [fM3 821 22 (by omega) (by omega) (by omega) (by omega) (by omega)]; exact hG2.2.2.2.2.2.2.2.2.2.1, ⟨tn, fun k w => by rw [fM3 839 k (by omega) (by omega) (by omega) (by omega) (by omega)]; exact g16 k w, g17⟩, g18⟩, Or.inr (Or.inr (Or.inr ⟨6, 3, by omega, by omega, vA3.2.2.2.1, vM3.2.2.1, fun _ => ⟨vA3.2.2.2.2, vM3.2.2.2, by omega, by omega⟩, fun z => by omega, fun z => by omega, fun _ => by omega, by omega⟩)), fun a y w => fA3 a y (by omega) (by omega) (by omega), ndM_t nM2 (fun a y w => fM3 a y (by omega) (by omega) (by omega) (by omega) (by omega)), fun x w => nst_n (fun z => w (by rw [z]; exact how)), fun _ _ => ⟨rfl, rfl⟩, Or.inl ⟨rfl, fA3 20 12 (by omega) (by omega) (by omega)⟩, fun _ a y w => by rw [fM3 a y (by omega) (by omega) (by omega) (by omega) (by omega)]; exact hT2 a y w, fun a y w => by rw [fM3 a y (by omega) (by omega) (by omega) (by omega) (by omega)]; exact hT2 a y (by omega)⟩
    · obtain ⟨z1, z2, z3, z4, z5, z6, z7⟩ := g5.2.2 x w
      refine ⟨by rw [fA3 43 x (by omega) (by omega) (by omega)]; exact z1, z2, by rw [fA3 44 x (by omega) (by omega) (by omega)]; exact z3, z4, ?_, ?_, fun i v => by rw [fA3 46 _ (by omega) (by omega) (by omega)]; exact z7 i v⟩
      · by_cases q : x = f
        · rw [q, nst_s]; exact vA3.1
        · rw [nst_n q, fA3 45 x (by omega) (by omega) (by omega)]; exact z5
      · by_cases q : x = f
        · rw [q, nst_s]; omega
        · rw [nst_n q]; exact z6
    · obtain ⟨z1, z2, z3, z4, z5, b1, b2, b3, b4⟩ := hG2.2.2.2.1.2.2 x w
      refine ⟨by rw [fM3 823 x (by omega) (by omega) (by omega) (by omega) (by omega)]; exact z1, z2, z3, ?_, ?_, by rw [fM3 824 x (by omega) (by omega) (by omega) (by omega) (by omega)]; exact b1, by rw [fM3 825 x (by omega) (by omega) (by omega) (by omega) (by omega)]; exact b2, by rw [fM3 826 x (by omega) (by omega) (by omega) (by omega) (by omega)]; exact b3, fun i v => by rw [fM3 827 _ (by omega) (by omega) (by omega) (by omega) (by omega)]; exact b4 i v⟩
      · by_cases q : x = f
        · rw [q, nst_s]; exact vM3.1
        · rw [nst_n q, fM3 828 x (by omega) (by omega) (by omega) (by omega) (by omega)]; exact z4
      · by_cases q : x = f
        · rw [q, nst_s]; omega
        · rw [nst_n q]; exact z5
    · obtain ⟨k', n', tt, z1, z2, z3, z4, z5, z6, z7⟩ := hG2.2.2.2.2.2.2.1.2.2 i w
      exact ⟨k', n', tt, z1, z2, z3, by rw [fA3 23 i (by omega) (by omega) (by omega)]; exact z4, by rw [fM3 845 i (by omega) (by omega) (by omega) (by omega) (by omega)]; exact z5, by rw [fM3 846 i (by omega) (by omega) (by omega) (by omega) (by omega)]; exact z6, by rw [fM3 847 i (by omega) (by omega) (by omega) (by omega) (by omega)]; exact z7⟩
    · obtain ⟨z1, z2, z3, z4⟩ := hG2.2.2.2.2.2.2.2.2.1 m w
      refine ⟨?_, by rw [fA3 31 m (by omega) (by omega) (by omega)]; exact z2, by rw [fM3 834 m (by omega) (by omega) (by omega) (by omega) (by omega)]; exact z3, by rw [fM3 835 m (by omega) (by omega) (by omega) (by omega) (by omega)]; exact z4⟩
      by_cases q : m = n
      · rw [q, hWT]; exact vA3.2.1
      · rw [wot m q, fA3 30 m (by omega) (by omega) (by omega)]; exact z1
theorem st_lost {fu N t F n K b : Nat} {fb : Nat → Nat} {ow id : Nat → Nat} {oc : Nat → Nat → Nat} {dn ec tc : Nat → Nat} {A M0 M2 : mwM} {Lc Lm : mwL} (hfu : 1300 ≤ fu) (hn : n < 7) (hfl : ∀ i, fb i < 2) (hf0 : fb 0 = 0) (w0 : wR fb 0 = 0) (hls : lsB fb K b = true) (hG2 : BuG A M2 N t F ow id oc dn ec tc) (nM2 : ndM n M0 M2) (hT2 : ∀ a y, (839 ≤ a ∧ a ≤ 844) → M2 a y = M0 a y) (hOc : ∃ o, OcR A (47 + 2 * n) o) (h28 : A 28 n = sI K) (v36 : M2 836 n = sI (K + 1)) (v37 : M2 837 (1200 * n + K) = sI b) (hW : WvR A n fb) (hseen : ∀ i, i < K → i < wN fb → M2 837 (1200 * n + i) = sI (wR fb i)) (pe : 8 * ec n ≤ t) (pt : 40 * tc n + K ≤ t) : StQ N t F ow id oc dn ec tc n A M0 Lc Lm (DX0_loseArbitration fu (sI n) A Lc) (some (mset M2 831 n 2, Lm)) := by
  have hG' := hG2
  obtain ⟨g1, ⟨g2, g3, g4⟩, g5, g6, hWC2, hC2, ⟨g9, g10, g11⟩, ⟨g12, g13⟩, g14, g15, ⟨tn, g16, g17⟩, g18⟩ := hG'
  have ab := arb_b hfl
  have hl := of_decide_eq_true hls
  obtain ⟨q1, q2, q3, q4⟩ := hl
  have K1 : 1 ≤ K := by
    by_cases z : K = 0
    · rw [z, w0] at q3
      omega
    · omega
  have KN : K < wN fb := by omega
  rw [if_pos KN] at q2
  obtain ⟨s, hs1, hs2⟩ : ∃ s : Nat → Nat, (∀ i, i < K → s i = wR fb i) ∧ s K = 0 := ⟨fun i => if i < K then wR fb i else 0, fun i u => if_pos u, if_neg (by omega)⟩
  obtain ⟨c1, c2, c3, c4⟩ := lose_g hfl hf0 K1 KN q1 q2 hs1 hs2
  obtain ⟨⟨A1, La⟩, ea, d1, d2, d3, ⟨o0, d4⟩, d5⟩ := c_lose0 (fu := fu) (A := A) (L := Lc) (by omega) hn hfl K1 KN h28 hW hOc hs1 hs2 c1 c2 c3
  dsimp only at d1 d2 d3 d4 d5
  rw [d1] at ea
  rw [ea]
  have li := Li_b (s := s) (K := K + 1) (by omega) c1 c2 c3
  refine st_calm (BuG_fr hG2 (fun a y w => d5 a y (by omega) (by omega) (by omega)) (fun a y w => by simp (disch := omega) only [mset_n]) (WC_fr hWC2 (fun a y w => by simp (disch := omega) only [mset_n])) (CA_fr hC2 (fun a y w => by simp (disch := omega) only [mset_n]))) (Or.inr (Or.inr (Or.inl ⟨s, K + 1, d2, by rw [mset_s]; rfl, ⟨by omega, by omega, c1, c2, c3, by rw [mset_n (by omega)]; exact v36, fun i u => ?_, d3, o0, d4⟩, by omega, ?_⟩))) (fun a y w => d5 a y (by omega) (by omega) (by omega)) (ndM_t nM2 (fun a y w => by simp (disch := omega) only [mset_n])) (d5 20 12 (by omega) (by omega) (by omega)) (fun a y w => by rw [mset_n (by omega)]; exact hT2 a y w) ⟨_, d4⟩
  · rw [mset_n (by omega)]
    by_cases z : i = K
    · rw [z, hs2, v37, q4]
    · rw [hs1 i (by omega)]
      exact hseen i (by omega) (by omega)
  · have : pgL (hq s (K + 1)) (K + 1) ≤ K + 1 := by unfold pgL; split <;> omega
    omega
theorem st_sent {fu N t F n K b f : Nat} {ow id : Nat → Nat} {oc : Nat → Nat → Nat} {dn ec tc : Nat → Nat} {A M0 M : mwM} {Lc Lm : mwL} (hfu : 1300 ≤ fu) (hn : n < 7) (hb : b < 2) (hG : BuG A M N t F ow id oc dn ec tc) (hM0 : ndM n M0 M) (hT0 : ∀ a y, (839 ≤ a ∧ a ≤ 844) → M a y = M0 a y) (hOc : ∃ o, OcR A (47 + 2 * n) o) (hf : f < F) (how : ow f = n) (hdn : dn f = 0) (h25 : A 25 n = sI 1) (h831 : M 831 n = sI 1) (h27 : A 27 n = sI f) (h833 : M 833 n = sI f) (h28 : A 28 n = sI K) (h836 : M 836 n = sI K) (h32 : A 32 n = sI (wR (fbF (id f) (oc f)) K)) (hK : K < wN (fbF (id f) (oc f)) + 10) (hW : WvR A n (fbF (id f) (oc f))) (hse : ∀ i, i < K → i < wN (fbF (id f) (oc f)) → M 837 (1200 * n + i) = sI (wR (fbF (id f) (oc f)) i)) (pe : 8 * ec n ≤ t) (pt : 40 * tc n + K ≤ t) : StQ N t F ow id oc dn ec tc n A M0 Lc Lm (DX0_see fu (sI n) (sI b) (sI t) A Lc) (DX12_sent fu (sI n) (sI b) M Lm) := by
  have hG' := hG
  obtain ⟨g1, ⟨g2, g3, g4⟩, g5, g6, hWC, hC, ⟨g9, g10, g11⟩, ⟨g12, g13⟩, g14, g15, ⟨tn, g16, g17⟩, g18⟩ := hG'
  have hfl := fbF_lt (id f) (oc f)
  have hf0 := fb_0 (id f) (oc f)
  have w0 := wR_0 (id f) (oc f)
  have hF200 := g5.2.1
  rw [c_see1 hn h25]
  obtain ⟨⟨M1, L1⟩, e1, x1, x2, x3, x4, x5⟩ := m_write (fu := fu) (L := Lm) (by omega) g6 hf hWC
  dsimp only at x1 x2 x3 x4 x5
  rw [x1] at e1
  have hC1 := x4 hC
  have hWC1 : WC M1 F id oc := Or.inr ⟨f, hf, x3, x2⟩
  generalize hfb : fbF (id f) (oc f) = fb at *
  have wb := wN_b hfl
  have ab := arb_b hfl
  have wl := wR_lt hfl K
  rw [c_isLosing hn hb hfl hK h28 h32 hW, mb3_s]
  unfold DX12_sent
  rw [mck_s (by omega) (by omega), sI_nn (by omega), h833]
  simp only [mlet]
  rw [e1, mb2_s, mck_s (by omega) (by omega), x5 836 n (by omega) (by omega) (by omega) (by omega) (by omega), h836, m_see12 hn (by rw [x5 836 n (by omega) (by omega) (by omega) (by omega) (by omega)]; exact h836) (by omega) hb, mb2_s]
  generalize hM2 : mset (mset M1 837 (1200 * n + K) (sI b)) 836 n (sI (K + 1)) = M2
  have f2 : ∀ a y, ¬ (a = 836 ∧ y = n) → ¬ (a = 837 ∧ y = 1200 * n + K) → M2 a y = M1 a y := fun a y w1 w2 => by rw [← hM2, mset_n w1, mset_n w2]
  have fM : ∀ a y, ¬ (a = 836 ∧ y = n) → ¬ (a = 837 ∧ y = 1200 * n + K) → ¬ (a = 821 ∧ (y = 34 ∨ y = 37 ∨ y = 38 ∨ y = 41 ∨ y = 48 ∨ y = 50)) → a ≠ 848 → a ≠ 849 → a ≠ 850 → a ≠ 852 → M2 a y = M a y := fun a y w1 w2 w3 w4 w5 w6 w7 => by rw [f2 a y w1 w2, x5 a y w3 w4 w5 w6 w7]
  have v36 : M2 836 n = sI (K + 1) := by rw [← hM2, mset_s]
  have v37 : M2 837 (1200 * n + K) = sI b := by rw [← hM2, mset_n (by omega), mset_s]
  have hC2 : CA M2 := CA_fr hC1 (fun a y w => f2 a y (by omega) (by omega))
  have hWC2 : WC M2 F id oc := WC_fr hWC1 (fun a y w => f2 a y (by omega) (by omega))
  obtain ⟨r37, rR, r38⟩ := WrM_fr (M' := M2) x2 (fun a y w => f2 a y (by omega) (by omega))
  obtain ⟨rRK, rFK⟩ := rR K hK
  have hG2 : BuG A M2 N t F ow id oc dn ec tc := BuG_fr hG (fun _ _ _ => rfl) (fun a y w => fM a y (by omega) (by omega) (by omega) (by omega) (by omega) (by omega) (by omega)) hWC2 hC2
  have nM2 : ndM n M0 M2 := ndM_t hM0 (fun a y w => fM a y (by omega) (by omega) (by omega) (by omega) (by omega) (by omega) (by omega))
  have hT2 : ∀ a y, (839 ≤ a ∧ a ≤ 844) → M2 a y = M0 a y := fun a y w => by rw [fM a y (by omega) (by omega) (by omega) (by omega) (by omega) (by omega) (by omega)]; exact hT0 a y w
  have v831 : M2 831 n = sI 1 := by rw [fM 831 n (by omega) (by omega) (by omega) (by omega) (by omega) (by omega) (by omega)]; exact h831
  have v833 : M2 833 n = sI f := by rw [fM 833 n (by omega) (by omega) (by omega) (by omega) (by omega) (by omega) (by omega)]; exact h833
  rw [r38, mck_s (by omega) (by omega), mck_s (by omega) (by omega), sI_nn (by omega), rRK, rFK]
  have flt2 : (if K < wN fb then lyF fb 98 K else 0) < 2 := by
    split
    · exact (ly_b hfl 98 K (by assumption)).2.1
    · omega
  have pick : ∀ (X Y : Option (mwM × mwL)), (if sI ((lyN fb 13).1 + 1) ≤ sI K then Y else if sI (if K < wN fb then lyF fb 98 K else 0) = 0 then (if sI (wR fb K) = 1 then (if sI b = 0 then X else Y) else Y) else Y) = (if lsB fb K b = true then X else Y) := by
    intro X Y
    unfold lsB
    generalize (if K < wN fb then lyF fb 98 K else 0) = q at flt2
    by_cases d1 : (lyN fb 13).1 + 1 ≤ K
    · rw [if_pos (by rw [sI_le (by omega) (by omega)]; exact d1), if_neg]
      rw [decide_eq_true_iff]
      omega
    · rw [if_neg (by rw [sI_le (by omega) (by omega)]; exact d1)]
      by_cases d2 : q = 0
      · rw [if_pos (show sI q = 0 by rw [d2]; rfl)]
        by_cases d3 : wR fb K = 1
        · rw [if_pos (show sI (wR fb K) = 1 by rw [d3]; rfl)]
          by_cases d4 : b = 0
          · rw [if_pos (show sI b = 0 by rw [d4]; rfl), if_pos]
            rw [decide_eq_true_iff]
            exact ⟨by omega, d2, d3, d4⟩
          · rw [if_neg (show ¬ sI b = 0 by rw [sI_eql (by omega) (by decide)]; exact d4), if_neg]
            rw [decide_eq_true_iff]
            exact fun z => d4 z.2.2.2
        · rw [if_neg (show ¬ sI (wR fb K) = 1 by rw [sI_eql (by omega) (by decide)]; exact d3), if_neg]
          rw [decide_eq_true_iff]
          exact fun z => d3 z.2.2.1
      · rw [if_neg (show ¬ sI q = 0 by rw [sI_eql (by omega) (by decide)]; exact d2), if_neg]
        rw [decide_eq_true_iff]
        exact fun z => d2 z.2.1
  rw [pick]
  unfold fX12_sent_b64 fX12_sent_b65
  rw [r37, w_9 (wN fb) (by omega)]
  cases hls : lsB fb K b with
  | true =>
    rw [if_neg (show ¬ bI true = 0 by decide), if_pos rfl]
    have b84 : ∀ x : Int32, fX12_sent_b84 fu (sI n) (sI b) (sI f) (sI K) 1 x M2 Lm = some (mset M2 831 n 2, Lm) := fun x => by
      unfold fX12_sent_b84 fX12_sent_b202
      rw [if_neg (show ¬ (1 : Int32) = 0 by decide), mck_s (by omega) (by omega), sI_nn (by omega)]
      rfl
    have fin : StQ N t F ow id oc dn ec tc n A M0 Lc Lm (DX0_loseArbitration fu (sI n) A Lc) (some (mset M2 831 n 2, Lm)) := by
      refine st_lost hfu hn hfl hf0 w0 hls hG2 nM2 hT2 hOc h28 v36 v37 hW (fun i u1 u2 => ?_) pe pt
      rw [f2 837 _ (by omega) (by omega), x5 837 _ (by omega) (by omega) (by omega) (by omega) (by omega)]
      exact hse i u1 u2
    rw [b84, b84]
    split
    · exact fin
    · exact fin
  | false =>
    rw [if_pos (show bI false = 0 from rfl), if_neg (by decide)]
    unfold DX0_seeSending
    have a29 := hW.2.2
    rw [mck_s hn (by omega), mck_s hn (by omega), sI_nn (by omega), h28, a29, w_10 (wN fb) (by omega)]
    -- it went well
    have well : (K < wN fb → b = wR fb K) → StQ N t F ow id oc dn ec tc n A M0 Lc Lm (fX0_seeSending_b79 fu (sI n) (sI b) (sI t) A Lc) (fX12_sent_b143 fu (sI n) (sI b) (sI f) (sI K) M2 Lm) := by
      intro hbe
      refine st_well hn rfl wb hfb hG2 nM2 hT2 hOc hf how hdn h25 v831 h27 v833 h28 v36 hK hW a29 r37 (fun i u1 u2 => ?_) pe pt
      by_cases z : i = K
      · rw [z] at u2 ⊢
        rw [v37, hbe u2]
      · rw [f2 837 _ (by omega) (by omega), x5 837 _ (by omega) (by omega) (by omega) (by omega) (by omega)]
        exact hse i (by omega) u2
    have flt : ∀ k, k < 8 → StQ N t F ow id oc dn ec tc n A M0 Lc Lm (DX0_tellFault fu (sI n) (sI k) (sI t) A Lc) (DX12_wrong fu (sI n) (sI k) M2 Lm) := fun k hk => st_fault hn hk hG2 (fun _ _ _ => rfl) nM2 pe (by omega) rfl hT2 hOc
    have z0' : (0 : Int32) = 0 := rfl
    have z1' : ¬ (1 : Int32) = 0 := by decide
    by_cases ca : K = wN fb + 1
    · have e : sI K = sI (wN fb + 1) := by rw [ca]
      rw [if_pos e, if_pos e]
      unfold fX0_seeSending_b29 fX12_sent_b84
      rw [if_neg z1', if_pos z0', if_neg z1']
      by_cases cb : b = 1
      · have eb : sI b = 1 := by rw [cb]; rfl
        unfold fX0_seeSending_b115 fX12_sent_b125
        rw [if_pos eb, if_pos eb, if_neg z1', mb2_id]
        unfold fX12_sent_b137 fX12_sent_b202
        rw [mb2_id]
        exact flt 4 (by omega)
      · have eb : ¬ sI b = 1 := by rw [sI_eql (by omega) (by decide)]; exact cb
        rw [if_neg eb, if_neg eb]
        unfold fX0_seeSending_b51
        rw [if_neg z1']
        exact well (fun z => by omega)
    · have e : ¬ sI K = sI (wN fb + 1) := by rw [sI_eq (by omega) (by omega)]; exact ca
      rw [if_neg e, if_neg e]
      unfold fX0_seeSending_b29 fX12_sent_b84
      rw [if_pos z0', if_pos z0', if_pos z0']
      unfold fX0_seeSending_b51
      rw [if_pos z0', mck_s hn (by omega), sI_nn (by omega), h32, mck_s (by omega) (by omega), sI_nn (by omega), rRK]
      by_cases cb : b = wR fb K
      · have eb : sI b = sI (wR fb K) := congrArg sI cb
        rw [if_pos eb, if_pos eb]
        exact well (fun _ => cb)
      · have eb : ¬ sI b = sI (wR fb K) := fun z => cb (sI_inj (by omega) (by omega) z)
        rw [if_neg eb, if_neg eb]
        unfold fX0_seeSending_b115 fX12_sent_b125
        rw [if_pos z0', mb2_id]
        unfold fX12_sent_b137 fX12_sent_b202
        rw [mb2_id]
        exact flt 0 (by omega)
