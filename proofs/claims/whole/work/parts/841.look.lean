/-! what a node has just taken -/
theorem TkE_f {A A' M M' : mwM} {n k : Nat} (hn : n < 7) (h : TkE A M n k) (hA : ∀ a y, 47 ≤ a → a ≤ 60 → A' a y = A a y) (hM : ∀ a y, 839 ≤ a → a ≤ 844 → M' a y = M a y) : TkE A' M' n k := by
  obtain ⟨h', o, h1, h2, h3, h4, h5, h6, h7, h8, h9, h10, h11, h12⟩ := h
  exact ⟨h', o, EaR_f h1 (fun y => hA _ y (by omega) (by omega)), OcR_f h2 (fun y => hA _ y (by omega) (by omega)), h3, h4, h5, h6, h7, h8, by rw [hM _ _ (by omega) (by omega)]; exact h9, by rw [hM _ _ (by omega) (by omega)]; exact h10, by rw [hM _ _ (by omega) (by omega)]; exact h11, fun i u => by rw [hM _ _ (by omega) (by omega)]; exact h12 i u⟩
theorem FrE_f {A A' M M' : mwM} {N mk : Nat} {tc tc' : Nat → Nat} (h : FrE A M N tc tc' mk) (hA : ∀ a y, (a = 20 ∧ y = 12) ∨ (47 ≤ a ∧ a ≤ 60) → A' a y = A a y) (hM : ∀ a y, 839 ≤ a → a ≤ 844 → M' a y = M a y) : FrE A' M' N tc tc' mk := by
  obtain ⟨h1, h2⟩ := h
  refine ⟨by rw [hA _ _ (by omega)]; exact h1, fun n hn => ?_⟩
  rcases h2 n hn with ⟨q1, q2, q3, k, q4, q5, q6, q7⟩ | q
  · exact Or.inl ⟨q1, q2, q3, k, q4, q5, by rw [hM _ _ (by omega) (by omega)]; exact q6, TkE_f hn q7 (fun a y u1 u2 => hA a y (by omega)) hM⟩
  · exact Or.inr q
theorem m_arrive0 {fu id C : Nat} {M : mwM} {L : mwL} {p : PB} {e : Nat → Nat} (hfu : 1700 ≤ fu) (hv : TfV p.1 p.2) (hN : TfN M p.1 p.2 e) (hC : ∀ m, 1 ≤ m → m ≤ p.1 0 0 → p.1 1 m < C) (hid : 1536 + 2 * C ≤ id) (hid2 : id < 2000000000) : DX19_arrive fu (sI id) M L = some (M, L) := by
  obtain ⟨k1, k2, k3, k4, k5, k6, k7, k8⟩ := hN
  have hF := Tf_F hv
  have hle := hv.1.2.1
  have hl := ob_len (n := p.1) (b := p.2)
  unfold DX19_arrive
  have key : ∀ (r k q : Nat), k + r = (obL p.1 p.2).length → r < q → fX19_arrive_h2 fu (sI id) q (sI k, M, L) = some (M, L) := by
    intro r
    induction r with
    | zero =>
      intro k q hk hq
      obtain ⟨q', rfl⟩ : ∃ y, q = y + 1 := ⟨q - 1, by omega⟩
      show fX19_arrive_i2 fu (sI id) (fX19_arrive_h2 fu (sI id) q') (sI k) M L = _
      unfold fX19_arrive_i2 fX19_arrive_b26
      rw [k6, if_pos (by rw [sI_le (by omega) (by omega)]; omega), if_pos (by rw [show k = (obL p.1 p.2).length from by omega])]
    | succ r ih =>
      intro k q hk hq
      obtain ⟨q', rfl⟩ : ∃ y, q = y + 1 := ⟨q - 1, by omega⟩
      obtain ⟨m1, m2⟩ := k7 k (by omega)
      have hm : (obL p.1 p.2)[k]'(by omega) ∈ obL p.1 p.2 := List.getElem_mem _
      obtain ⟨f1, f2⟩ := ob_mem.mp hm
      obtain ⟨_, g2, g3, _⟩ := hv.2.2.2 _ (show (obL p.1 p.2)[k]'(by omega) < p.1 0 1 by omega)
      have hc := hC _ g2 g3
      have hi : idO p.1 p.2 ((obL p.1 p.2)[k]'(by omega)) < id := by
        unfold idO
        split <;> omega
      show fX19_arrive_i2 fu (sI id) (fX19_arrive_h2 fu (sI id) q') (sI k) M L = _
      unfold fX19_arrive_i2
      rw [k6, if_neg (by rw [sI_le (by omega) (by omega)]; omega), mck_s (by omega) (by omega), sI_nn (by omega), m2, if_neg (by rw [sI_eq (by omega) (by omega)]; omega), mlet_e, sI_1]
      exact ih (k + 1) q' (by omega) (by omega)
  exact key (obL p.1 p.2).length 0 fu (by omega) (by omega)
theorem mk_bit : ∀ m, m < 128 → ∀ n, n < 7 → ((sI m >>> (sI n &&& 31)) &&& 1 = sI (m / 2 ^ n % 2)) := by decide +kernel
theorem c_kind {fu k : Nat} {h : Nat → Nat} {A : mwM} {L : mwL} (hE : EaR A k h) (h1 : h 11 < 2) (h2 : h 12 < 2) (h3 : h 13 < 2) : DX5_kind fu k A L = some (sI (kdH h), A, L) := by
  have e11 := hE 11 (by omega) (by omega)
  have e12 := hE 12 (by omega) (by omega)
  have e13 := hE 13 (by omega) (by omega)
  unfold DX5_kind fX5_kind_b29 kdH kdE
  rw [e11, e12, e13]
  by_cases c1 : h 13 = 1
  · rw [if_pos (by rw [c1]; rfl), if_pos c1, sI_adl]
  · rw [if_neg (by rw [show (1 : Int32) = sI 1 from rfl, sI_eq (by omega) (by omega)]; exact c1), if_neg c1]
    by_cases c2 : h 11 = 1
    · rw [if_pos (by rw [c2]; rfl), if_pos c2, sI_adl]
    · rw [if_neg (by rw [show (1 : Int32) = sI 1 from rfl, sI_eq (by omega) (by omega)]; exact c2), if_neg c2, show (0 : Int32) = sI 0 from rfl, sI_add]
/-- the reference reads the octets -/
theorem m_oct84 {fu n N i T k0 id co : Nat} {v2 : Int32} {tn ov : Nat → Nat} {e f r : Nat} {M : mwM} {L : mwL} (rr : (Int32 × mwM × mwL) → Option (mwM × mwL)) (hfu : 5000 ≤ fu) (h1 : M 821 1 = sI N) (hN : N ≤ 7) (hn : n < N) (h22 : M 821 22 = sI T) (hT : T ≤ 3600) (h839 : ∀ k, k < T → M 839 k = sI (tn k) ∧ tn k < 7) (hk : k0 < T) (hk1 : tn k0 = n) (hk2 : cnt (fun k => decide (tn k = n)) k0 = i) (h840 : M 840 k0 = sI id) (h841 : M 841 k0 = sI (kdE e f r)) (h842 : M 842 k0 = sI co) (he : e < 2) (hf : f < 2) (hr : r < 2) (hco : co < 16) (h8 : ocE f r co = 8) (hov : ∀ j, j < 8 → M 844 (64 * k0 + j) = bt8 (ov j) ∧ ov j < 256) : ∃ M', fX19_lookAt_h84 fu (sI n) rr fu (v2, sI i, sI id, 0, M, L) = fX19_lookAt_i84 fu (sI n) rr (fun _ => none) v2 (sI i) (sI id) 8 M' L ∧ (∀ j, j < 8 → M' 926 j = sI (ov j)) ∧ ∀ a y, a ≠ 926 → ¬ (a = 821 ∧ y = 0) → M' a y = M a y := by
  obtain ⟨Tt, hTt⟩ : ∃ Tt : mwM → Option (mwM × mwL), ∀ B, Tt B = fX19_lookAt_i84 fu (sI n) rr (fun _ => none) v2 (sI i) (sI id) 8 B L := ⟨_, fun _ => rfl⟩
  have key : ∀ (s j q : Nat) (B : mwM), j + s = 8 → s < q → (∀ x, x < j → B 926 x = sI (ov x)) → (∀ a y, a ≠ 926 → ¬ (a = 821 ∧ y = 0) → B a y = M a y) → ∃ M', fX19_lookAt_h84 fu (sI n) rr q (v2, sI i, sI id, sI j, B, L) = Tt M' ∧ (∀ j, j < 8 → M' 926 j = sI (ov j)) ∧ ∀ a y, a ≠ 926 → ¬ (a = 821 ∧ y = 0) → M' a y = M a y := by
    intro s
    induction s with
    | zero =>
      intro j q B hj hq g1 g2
      obtain ⟨q', rfl⟩ : ∃ y, q = y + 1 := ⟨q - 1, by omega⟩
      refine ⟨B, ?_, fun x hx => g1 x (by omega), g2⟩
      have ej : j = 8 := by omega
      subst ej
      rw [hTt]
      show fX19_lookAt_i84 fu (sI n) rr (fX19_lookAt_h84 fu (sI n) rr q') v2 (sI i) (sI id) 8 B L = _
      unfold fX19_lookAt_i84
      rw [if_pos (show (8 : Int32) ≤ 8 by decide), if_pos (show (8 : Int32) ≤ 8 by decide)]
    | succ s ih =>
      intro j q B hj hq g1 g2
      obtain ⟨q', rfl⟩ : ∃ y, q = y + 1 := ⟨q - 1, by omega⟩
      obtain ⟨o1, o2⟩ := hov j (by omega)
      have un : fX19_lookAt_h84 fu (sI n) rr (q' + 1) (v2, sI i, sI id, sI j, B, L) = fX19_lookAt_i84 fu (sI n) rr (fX19_lookAt_h84 fu (sI n) rr q') v2 (sI i) (sI id) (sI j) B L := rfl
      have t3 := (m_taken3 (fu := fu) (id := id) (kd := 0) (L := L) (M := B) hfu (by rw [g2 _ _ (by omega) (by omega)]; exact h1) hN hn (by rw [g2 _ _ (by omega) (by omega)]; exact h22) hT (fun k hk => by rw [g2 _ _ (by omega) (by omega)]; exact h839 k hk) hk hk1 hk2 (by rw [g2 _ _ (by omega) (by omega)]; exact h840) (by rw [g2 _ _ (by omega) (by omega)]; exact h841) (by rw [g2 _ _ (by omega) (by omega)]; exact h842) he hf hr hco).2.2.2 j (by omega) (by omega) (ov j) (by rw [g2 _ _ (by omega) (by omega)]; exact o1) o2
      rw [un]
      unfold fX19_lookAt_i84
      rw [if_neg (by rw [sI_lle (by decide) (by omega)]; omega), t3, mb3_s, mck_s (by omega) (by omega), mlet_e, mlet_e, sI_nn (by omega), sI_1]
      refine ih (j + 1) q' _ (by omega) (by omega) (fun x hx => ?_) (fun a y u1 u2 => by rw [mset_n (by omega), mset_n u2]; exact g2 a y u1 u2)
      by_cases ex : x = j
      · rw [ex, mset_s]
      · rw [mset_n (by omega), mset_n (by omega)]
        exact g1 x (by omega)
  obtain ⟨M', z1, z2, z3⟩ := key 8 0 fu M (by omega) (by omega) (fun x hx => by omega) (fun _ _ _ _ => rfl)
  rw [hTt] at z1
  exact ⟨M', z1, z2, z3⟩
