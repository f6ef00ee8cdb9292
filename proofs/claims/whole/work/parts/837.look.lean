/-! what a node has taken, as the reference finds it -/
theorem s7_cnt {tn : Nat → Nat} : ∀ T, (∀ k, k < T → tn k < 7) → s7 (fun n => cnt (fun k => decide (tn k = n)) T) = T := by
  intro T
  induction T with
  | zero => intro _; rfl
  | succ T ih =>
    intro h
    have h1 := ih (fun k hk => h k (by omega))
    have h2 := h T (by omega)
    unfold s7 at h1 ⊢
    dsimp only at h1 ⊢
    rw [cnt_sc, cnt_sc, cnt_sc, cnt_sc, cnt_sc, cnt_sc, cnt_sc]
    have : tn T = 0 ∨ tn T = 1 ∨ tn T = 2 ∨ tn T = 3 ∨ tn T = 4 ∨ tn T = 5 ∨ tn T = 6 := by omega
    rcases this with e | e | e | e | e | e | e <;> rw [e] <;> simp <;> omega
theorem tn_pre {tn tc tc' : Nat → Nat} (h7 : ∀ k, k < s7 tc' → tn k < 7) (hc : ∀ n, n < 7 → cnt (fun k => decide (tn k = n)) (s7 tc') = tc' n) (hle : s7 tc ≤ s7 tc') (hn : ∀ n, n < 7 → (tc' n = tc n + 1 ∧ ∃ k, s7 tc ≤ k ∧ k < s7 tc' ∧ tn k = n) ∨ tc' n = tc n) : ∀ n, n < 7 → ∀ k, s7 tc ≤ k → k < s7 tc' → tn k = n → tc' n = tc n + 1 → cnt (fun k => decide (tn k = n)) k = tc n := by
  have hle1 : ∀ n, n < 7 → cnt (fun k => decide (tn k = n)) (s7 tc) ≤ tc n := fun n hn7 => by
    have hm := cnt_mo (P := fun k => decide (tn k = n)) hle
    rw [hc n hn7] at hm
    rcases hn n hn7 with ⟨e, k, k1, k2, k3⟩ | e
    · have h1 := cnt_mo (P := fun k => decide (tn k = n)) k1
      have h2 := cnt_in (P := fun k => decide (tn k = n)) k2 (decide_eq_true k3)
      rw [hc n hn7] at h2
      unfold lxf at h2
      omega
    · omega
  have hsum := s7_cnt (tn := tn) (s7 tc) (fun k hk => h7 k (by omega))
  have g0 := hle1 0 (by omega)
  have g1 := hle1 1 (by omega)
  have g2 := hle1 2 (by omega)
  have g3 := hle1 3 (by omega)
  have g4 := hle1 4 (by omega)
  have g5 := hle1 5 (by omega)
  have g6 := hle1 6 (by omega)
  have heq : ∀ n, n < 7 → cnt (fun k => decide (tn k = n)) (s7 tc) = tc n := fun n hn7 => by
    generalize hT : s7 tc = T at *
    unfold s7 at hsum hT
    dsimp only at hsum
    have : n = 0 ∨ n = 1 ∨ n = 2 ∨ n = 3 ∨ n = 4 ∨ n = 5 ∨ n = 6 := by omega
    rcases this with e | e | e | e | e | e | e <;> subst e <;> omega
  intro n hn7 k k1 k2 k3 e
  have h1 := cnt_mo (P := fun k => decide (tn k = n)) k1
  have h2 := cnt_in (P := fun k => decide (tn k = n)) k2 (decide_eq_true k3)
  rw [hc n hn7] at h2
  rw [heq n hn7] at h1
  unfold lxf at h2
  omega
theorem m_took {fu n i T k0 : Nat} {tn : Nat → Nat} {M : mwM} {L : mwL} (hfu : 5000 ≤ fu) (hn : n < 7) (h22 : M 821 22 = sI T) (hT : T ≤ 3600) (h839 : ∀ k, k < T → M 839 k = sI (tn k) ∧ tn k < 7) (hk : k0 < T) (hk1 : tn k0 = n) (hk2 : cnt (fun k => decide (tn k = n)) k0 = i) : DX12_took fu (sI n) (sI i) M L = some (sI k0, M, L) := by
  have hi : i ≤ k0 := by rw [← hk2]; exact cnt_le _ _
  unfold DX12_took
  have key : ∀ (r v q : Nat), v + r = k0 → r < q → fX12_took_h5 fu (sI n) (sI i) q (sI (i - cnt (fun k => decide (tn k = n)) v), sI v, M, L) = some (sI k0, M, L) := by
    intro r
    induction r with
    | zero =>
      intro v q hv hq
      obtain ⟨q', rfl⟩ : ∃ y, q = y + 1 := ⟨q - 1, by omega⟩
      have ev : v = k0 := by omega
      subst ev
      show fX12_took_i5 fu (sI n) (sI i) (fX12_took_h5 fu (sI n) (sI i) q') (sI (i - cnt (fun k => decide (tn k = n)) v)) (sI v) M L = _
      unfold fX12_took_i5
      rw [h22, if_neg (by rw [sI_le (by omega) (by omega)]; omega), if_neg (by rw [sI_ltl (by omega) (by decide)]; omega), mck_s (by omega) (by omega), sI_nn (by omega), (h839 v hk).1, hk1, if_pos rfl, hk2, Nat.sub_self, if_pos (show sI 0 = 0 from rfl)]
    | succ r ih =>
      intro v q hv hq
      obtain ⟨q', rfl⟩ : ∃ y, q = y + 1 := ⟨q - 1, by omega⟩
      obtain ⟨m1, m2⟩ := h839 v (by omega)
      have nx := ih (v + 1) q' (by omega) (by omega)
      have un : fX12_took_h5 fu (sI n) (sI i) (q' + 1) (sI (i - cnt (fun k => decide (tn k = n)) v), sI v, M, L) = fX12_took_i5 fu (sI n) (sI i) (fX12_took_h5 fu (sI n) (sI i) q') (sI (i - cnt (fun k => decide (tn k = n)) v)) (sI v) M L := rfl
      rw [un]
      unfold fX12_took_i5 fX12_took_b39
      rw [h22, if_neg (by rw [sI_le (by omega) (by omega)]; omega), if_neg (by rw [sI_ltl (by omega) (by decide)]; omega), mck_s (by omega) (by omega), sI_nn (by omega), m1]
      rw [cnt_sc] at nx
      by_cases e : tn v = n
      · have hlt := cnt_in (P := fun k => decide (tn k = n)) (show v < k0 by omega) (decide_eq_true e)
        unfold lxf at hlt
        rw [hk2] at hlt
        rw [if_pos (by rw [e]), if_neg (by rw [show (0 : Int32) = sI 0 from rfl, sI_eq (by omega) (by omega)]; omega), mlet_e, mlet_e, sI_1]
        rw [if_pos (decide_eq_true e)] at nx
        have em : sI (i - cnt (fun k => decide (tn k = n)) v) + (-1) = sI (i - (cnt (fun k => decide (tn k = n)) v + 1)) := by
          obtain ⟨x, hx⟩ : ∃ x, i - cnt (fun k => decide (tn k = n)) v = x + 1 := ⟨i - cnt (fun k => decide (tn k = n)) v - 1, by omega⟩
          rw [hx, sI_pm, show i - (cnt (fun k => decide (tn k = n)) v + 1) = x from by omega]
        rw [em]
        exact nx
      · rw [if_neg (by rw [sI_eq (by omega) (by omega)]; exact e), mlet_e, sI_1]
        rw [if_neg (by rw [decide_eq_false e]; decide), Nat.add_zero] at nx
        exact nx
  have st := key k0 0 fu (by omega) (by omega)
  have e0 : cnt (fun k => decide (tn k = n)) 0 = 0 := rfl
  rw [e0, Nat.sub_zero] at st
  exact st
theorem m_noNode12 {fu n N : Nat} {M : mwM} {L : mwL} (h1 : M 821 1 = sI N) (hN : N ≤ 7) (hn : n < N) : DX12_noNode fu (sI n) M L = some (0, M, L) := by
  unfold DX12_noNode fX12_noNode_b17 mzz
  rw [h1, if_neg (by rw [sI_ltl (by omega) (by decide)]; omega), if_pos (by rw [sI_lt (by omega) (by omega)]; exact hn), if_pos (Or.inl rfl)]
/-- a frame that a node has taken -/
theorem m_taken3 {fu n N i T k0 id kd co : Nat} {tn : Nat → Nat} {e f r : Nat} {M : mwM} {L : mwL} (hfu : 5000 ≤ fu) (h1 : M 821 1 = sI N) (hN : N ≤ 7) (hn : n < N) (h22 : M 821 22 = sI T) (hT : T ≤ 3600) (h839 : ∀ k, k < T → M 839 k = sI (tn k) ∧ tn k < 7) (hk : k0 < T) (hk1 : tn k0 = n) (hk2 : cnt (fun k => decide (tn k = n)) k0 = i) (h840 : M 840 k0 = sI id) (h841 : M 841 k0 = sI (kdE e f r)) (h842 : M 842 k0 = sI co) (he : e < 2) (hf : f < 2) (hr : r < 2) (hco : co < 16) : DX12_taken fu (sI n) (sI i) 0 M L = some (sI id, mset M 821 0 0, L) ∧ DX12_taken fu (sI n) (sI i) 1 M L = some (sI (kdE e f r), mset M 821 0 0, L) ∧ DX12_taken fu (sI n) (sI i) 3 M L = some (sI (ocE f r co), mset M 821 0 0, L) ∧ ∀ j, j < 8 → j < ocE f r co → ∀ x, M 844 (64 * k0 + j) = bt8 x → x < 256 → DX12_takenOctet fu (sI n) (sI i) (sI j) M L = some (sI x, mset M 821 0 0, L) := by
  have hi : i ≤ k0 := by rw [← hk2]; exact cnt_le _ _
  have tk : ∀ B : mwM, (∀ a y, ¬ (a = 821 ∧ y = 0) → B a y = M a y) → DX12_took fu (sI n) (sI i) B L = some (sI k0, B, L) := fun B hB => m_took hfu (by omega) (by rw [hB _ _ (by omega)]; exact h22) hT (fun k hk => by rw [hB _ _ (by omega)]; exact h839 k hk) hk hk1 hk2
  have t0 : ∀ a y, ¬ (a = 821 ∧ y = 0) → mset M 821 0 0 a y = M a y := fun a y w => mset_n w
  have ii : mset (mset M 821 0 0) 821 0 0 = mset M 821 0 0 := mset_ii
  have ni : ¬ sI i = (-1 : Int32) := fun w => sI_m1n (show i < 2000000000 by omega) w.symm
  have nk : ¬ sI k0 = (-1 : Int32) := fun w => sI_m1n (show k0 < 2000000000 by omega) w.symm
  have c840 : mset M 821 0 0 840 k0 = sI id := by rw [t0 _ _ (by omega)]; exact h840
  have c841 : mset M 821 0 0 841 k0 = sI (kdE e f r) := by rw [t0 _ _ (by omega)]; exact h841
  have c842 : mset M 821 0 0 842 k0 = sI co := by rw [t0 _ _ (by omega)]; exact h842
  refine ⟨?_, ?_, ?_, fun j hj hj2 x hx hx2 => ?_⟩
  · unfold DX12_taken fX12_taken_b14 fX12_taken_b81 fX12_taken_b114
    rw [m_noNode12 h1 hN hn, mb3_s, if_pos (show (0 : Int32) = 0 from rfl), mlet_e, mset_s, if_pos (show (0 : Int32) ≤ 0 by decide), if_neg ni, tk _ t0, mb3_s, if_neg nk, if_neg (show ¬ (0 : Int32) < 0 by decide), if_pos (show (0 : Int32) ≤ 4 by decide), mlet_e, mset_s, if_pos (show (0 : Int32) ≤ 0 by decide), if_pos (show (0 : Int32) = 0 from rfl), mck_s (by omega) (by omega), sI_nn (by omega), ii, c840]
  · unfold DX12_taken fX12_taken_b14 fX12_taken_b81 fX12_taken_b114 fX12_taken_b200
    rw [m_noNode12 h1 hN hn, mb3_s, if_pos (show (0 : Int32) = 0 from rfl), mlet_e, mset_s, if_pos (show (0 : Int32) ≤ 0 by decide), if_neg ni, tk _ t0, mb3_s, if_neg nk, if_neg (show ¬ (1 : Int32) < 0 by decide), if_pos (show (1 : Int32) ≤ 4 by decide), mlet_e, mset_s, if_pos (show (0 : Int32) ≤ 0 by decide), if_neg (show ¬ (1 : Int32) = 0 by decide), if_pos (show (1 : Int32) = 1 from rfl), mck_s (by omega) (by omega), sI_nn (by omega), ii, c841]
  · unfold DX12_taken fX12_taken_b14 fX12_taken_b81 fX12_taken_b114 fX12_taken_b200
    rw [m_noNode12 h1 hN hn, mb3_s, if_pos (show (0 : Int32) = 0 from rfl), mlet_e, mset_s, if_pos (show (0 : Int32) ≤ 0 by decide), if_neg ni, tk _ t0, mb3_s, if_neg nk, if_neg (show ¬ (3 : Int32) < 0 by decide), if_pos (show (3 : Int32) ≤ 4 by decide), mlet_e, mset_s, if_pos (show (0 : Int32) ≤ 0 by decide), if_neg (show ¬ (3 : Int32) = 0 by decide), if_neg (show ¬ (3 : Int32) = 1 by decide), if_neg (show ¬ (3 : Int32) = 2 by decide), if_pos (show (3 : Int32) = 3 from rfl), mck_s (by omega) (by omega), mck_s (by omega) (by omega), sI_nn (by omega), ii, c841, c842, m_octetsOf he hf hr hco, mb3_s]
  · unfold DX12_takenOctet fX12_takenOctet_b18 fX12_takenOctet_b61 fX12_takenOctet_b91
    have ho : ocE f r co < 100 := by
      have : ∀ f, f < 2 → ∀ r, r < 2 → ∀ c, c < 16 → ocE f r c < 100 := by decide
      exact this f hf r hr co hco
    have b8 : ∀ x, x < 256 → bt8 x &&& 255 = sI x := by decide +kernel
    rw [m_noNode12 h1 hN hn, mb3_s, if_pos (show (0 : Int32) = 0 from rfl), tk M (fun _ _ _ => rfl), mb3_s, if_neg nk, if_pos (show (0 : Int32) ≤ sI j by rw [sI_lle (by decide) (by omega)]; omega), mck_s (by omega) (by omega), mck_s (by omega) (by omega), sI_nn (by omega), h841, h842, m_octetsOf he hf hr hco, mb3_s, if_pos (show sI j < sI (ocE f r co) by rw [sI_lt (by omega) (by omega)]; exact hj2), mlet_e, mset_s, if_pos (show (0 : Int32) ≤ 0 by decide), sI_lml, sI_add, mck_s (by omega) (by omega), sI_nn (by omega), t0 _ _ (by omega), hx, b8 x hx2]
