/-! the reference: what is left of a message is sent -/
def eS (e : Nat → Nat) : Nat := e 1 + e 2 + e 3 + e 4 + e 5 + e 6 + e 7
def eR (k : Nat) (e : Nat → Nat) (b : Nat → Nat → Bool) (e' : Nat → Nat) (b' : Nat → Nat → Bool) : Prop := e' 0 = e 0 ∧ eS e ≤ eS e' ∧ eS e' ≤ eS e + k ∧ b' 2 0 = (b 2 0 || decide (eS e < eS e'))
theorem eR_0 {k : Nat} {e : Nat → Nat} {b b' : Nat → Nat → Bool} (h : b' 2 0 = b 2 0) : eR k e b e b' := by
  refine ⟨rfl, Nat.le_refl _, by omega, ?_⟩
  rw [decide_eq_false (by omega), Bool.or_false, h]
theorem eR_t {k k' : Nat} {e e' e'' : Nat → Nat} {b b' b'' : Nat → Nat → Bool} (h1 : eR k e b e' b') (h2 : eR k' e' b' e'' b'') : eR (k + k') e b e'' b'' := by
  obtain ⟨a1, a2, a3, a4⟩ := h1
  obtain ⟨c1, c2, c3, c4⟩ := h2
  refine ⟨c1.trans a1, by omega, by omega, ?_⟩
  rw [c4, a4]
  by_cases q1 : eS e < eS e'
  · rw [decide_eq_true q1, decide_eq_true (show eS e < eS e'' by omega)]
    simp
  · by_cases q2 : eS e' < eS e''
    · rw [decide_eq_true q2, decide_eq_true (show eS e < eS e'' by omega)]
      simp
    · rw [decide_eq_false q1, decide_eq_false q2, decide_eq_false (show ¬ eS e < eS e'' by omega)]
      simp
def eU (e : Nat → Nat) (k : Nat) : Nat → Nat := fun j => if j = k then e k + 1 else e j
theorem eR_1 {k : Nat} {e : Nat → Nat} {b b' : Nat → Nat → Bool} (hk : 1 ≤ k ∧ k ≤ 7) (h : b' 2 0 = true) : eR 1 e b (eU e k) b' := by
  have hs : eS (eU e k) = eS e + 1 := by
    unfold eS eU
    rcases (show k = 1 ∨ k = 2 ∨ k = 3 ∨ k = 4 ∨ k = 5 ∨ k = 6 ∨ k = 7 by omega) with rfl | rfl | rfl | rfl | rfl | rfl | rfl <;> simp <;> omega
  refine ⟨?_, by omega, by omega, ?_⟩
  · unfold eU
    rw [if_neg (by omega)]
  · rw [h, hs, decide_eq_true (by omega), Bool.or_true]
theorem m_sz17 {fu m : Nat} {M : mwM} {L : mwL} {n : Nat → Nat → Nat} {b : Nat → Nat → Bool} (hv : TfW n b) (h : ∀ m, m ≤ n 0 0 → M 870 (m + 1) = sI (suN (n 2) m)) (h1 : 1 ≤ m) (h2 : m ≤ n 0 0) : DX17_size fu (sI m) M L = some (sI (n 2 m), M, L) := by
  have hK := hv.1.1
  have e1 := h m h2
  have e0 := h (m - 1) (by omega)
  rw [show m - 1 + 1 = m by omega] at e0
  have hs := su_S (g := n 2) h1
  have := su_k hv m h2
  unfold DX17_size
  rw [sI_1, mck_s (by omega) (by omega), mck_s (by omega) (by omega), sI_nn (by omega), sI_nn (by omega), e1, e0, sI_sub (by omega), hs]
  rw [show suN (n 2) (m - 1) + n 2 m - suN (n 2) (m - 1) = n 2 m by omega]
/-- one frame of it -/
theorem m_sendNext17 {fu m j τ : Nat} {M : mwM} {L : mwL} {p : PB} {o : Nat → Nat → Nat} {e : Nat → Nat} (hfu : 10 ≤ fu) (hW : TfW p.1 p.2) (h1 : 1 ≤ m) (h2 : m ≤ p.1 0 0) (h3 : p.1 3 m = 2) (hj : j < csN (p.1 2 m)) (hF : p.1 0 1 + j < 1600) (h : TfM (mset (mset M 874 m (sI 6)) 875 m (sI 0)) L τ (coP m j p).1 (coP m j p).2 o e) (h874 : M 874 m = sI (6 + 7 * j)) (h875 : M 875 m = sI j) : wq (DX17_sendNext fu (sI m) M L) (fun z => (if j + 1 = csN (p.1 2 m) then TfM z.1 z.2 τ (mset (coP m (j + 1) p).1 3 m 3) (coP m (j + 1) p).2 o e else TfM (mset (mset z.1 874 m (sI 6)) 875 m (sI 0)) z.2 τ (coP m (j + 1) p).1 (coP m (j + 1) p).2 o e ∧ z.1 874 m = sI (6 + 7 * (j + 1)) ∧ z.1 875 m = sI (j + 1)) ∧ (∀ a y, ¬ (a = 869 ∨ (873 ≤ a ∧ a ≤ 875) ∨ (892 ≤ a ∧ a ≤ 899)) → z.1 a y = M a y) ∧ ∀ a y, ¬ (a = 881 ∨ a = 897) → z.2 a y = L a y) := by
  have hK := hW.1.1
  have hM := hW.2.1 m h1 h2
  have h8 : 8 ≤ p.1 2 m := hM.2.2.2.2.2.1 (Or.inr h3)
  have cs14 := cs_le hM.2.2.1
  have cW := co_W j p hW h1 h2 (by omega) h8 (by omega)
  have r0 : ∀ i y, i ≠ 0 ∨ y ≠ 1 → ¬ (10 ≤ i ∧ i ≤ 12) → (coP m j p).1 i y = p.1 i y := fun i y u v => co_r u v j p
  have rF : (coP m j p).1 0 1 = p.1 0 1 + j := co_F j p
  have eco : coP m (j + 1) p = (mkN (coP m j p).1 2 m (j + 1), mkB (coP m j p).1 (coP m j p).2) := rfl
  have r00 := r0 0 0 (by omega) (by omega)
  have r2 : ∀ y, (coP m j p).1 2 y = p.1 2 y := fun y => r0 2 y (by omega) (by omega)
  have r2' : (coP m j p).1 2 = p.1 2 := funext r2
  have r3 := r0 3 m (by omega) (by omega)
  have N0 : ∀ a y, ¬ (a = 874 ∨ a = 875) → mset (mset M 874 m (sI 6)) 875 m (sI 0) a y = M a y := fun a y u => by rw [mset_n (by omega), mset_n (by omega)]
  have q870 : ∀ x, x ≤ p.1 0 0 → M 870 (x + 1) = sI (suN (p.1 2) x) := by
    intro x u
    have := h.2.1 x (by rw [r00]; exact u)
    rw [N0 _ _ (by omega), r2'] at this
    exact this
  have tm := h.2.2.1 m h1 (by rw [r00]; exact h2)
  have q26 : M 869 26 = sI (p.1 0 1 + j) := by
    have := h.1.2.2.2.1
    rw [N0 _ _ (by omega), rF] at this
    exact this
  have q2 : L 869 2 = sL τ := h.1.2.1
  have q873 : M 873 m = sI 2 := by
    have := tm.2.2.1
    rw [N0 _ _ (by omega), r3, h3] at this
    exact this
  have q6 := tm.2.2.2.2.2.2 (by rw [r3, h3])
  rw [N0 _ _ (by omega), N0 _ _ (by omega)] at q6
  obtain ⟨q876, q878, q881⟩ := q6
  have hs := su_S (g := p.1 2) h1
  have hsk := su_k hW m h2
  have e0 := q870 (m - 1) (by omega)
  rw [show m - 1 + 1 = m by omega] at e0
  have hle : 6 + 7 * j < p.1 2 m := by
    unfold csN at hj
    omega
  have fin : ∀ co rest : Nat, rest = p.1 2 m - (6 + 7 * j) → co = (if rest ≤ 7 then rest else 7) → wq (fX17_sendNext_b25 fu (sI m) (sI rest) (sI co) M L) (fun z => (if j + 1 = csN (p.1 2 m) then TfM z.1 z.2 τ (mset (coP m (j + 1) p).1 3 m 3) (coP m (j + 1) p).2 o e else TfM (mset (mset z.1 874 m (sI 6)) 875 m (sI 0)) z.2 τ (coP m (j + 1) p).1 (coP m (j + 1) p).2 o e ∧ z.1 874 m = sI (6 + 7 * (j + 1)) ∧ z.1 875 m = sI (j + 1)) ∧ (∀ a y, ¬ (a = 869 ∨ (873 ≤ a ∧ a ≤ 875) ∨ (892 ≤ a ∧ a ≤ 899)) → z.1 a y = M a y) ∧ ∀ a y, ¬ (a = 881 ∨ a = 897) → z.2 a y = L a y) := by
    intro co rest hrest hco
    have hc7 : co ≤ 7 ∧ co ≤ rest := by
      rw [hco]
      split <;> omega
    unfold fX17_sendNext_b25 fX17_sendNext_b177
    rw [mck_s (by omega) (by omega), mck_s (by omega) (by omega), sI_nn (by omega), h875, sI_1, show sI (j + 1) - sI (j + 1) / 16 * 16 = sI ((j + 1) % 16) from sI_mod (b := 16) (by omega) (by omega), Nat.mod_eq_of_lt (show j + 1 < 16 by omega)]
    simp only [mlet]
    rw [mck_s (by omega) (by omega), mset_s]
    refine wq_b3 (m_make17 (F := p.1 0 1 + j) (τ := τ) (by omega) (by rw [mset_n (by omega)]; exact q26) q2) ?_
    rintro g1 M1 L1 ⟨y0, y1, y2, y3, y4, y5, y6, y7, y8, y9⟩
    dsimp only at y0 y1 y2 y3 y4 y5 y6 y7 y8 y9
    rw [y0, if_neg (by rw [sI_eql (by omega) (by decide)]; omega), mck_s (by omega) (by omega)]
    have y1' : ∀ a y, ¬ (892 ≤ a ∧ a ≤ 898) → ¬ (a = 869 ∧ y = 26) → a ≠ 875 → M1 a y = M a y := fun a y u v w => by
      rw [y1 a y (by omega) v, mset_n (by omega)]
    rw [y1' 874 m (by omega) (by omega) (by omega), h874]
    refine wq_b2 (m_fill17 (τ := 0) (fr := 6 + 7 * j) (B := suN (p.1 2) (m - 1)) (v := fun k => o m (6 + 7 * j + k)) hfu (by omega) (by omega) hc7.1 ?_ (by omega) (fun k u => ?_)) ?_
    · rw [y1' 870 m (by omega) (by omega) (by omega)]; exact e0
    · rw [y1' 871 _ (by omega) (by omega) (by omega)]
      have := tm.1 (6 + 7 * j + k) (by rw [r2]; omega)
      rw [N0 _ _ (by omega), r2', ← Nat.add_assoc] at this
      exact this
    rintro M2 L2 ⟨w1, w2, w3⟩
    dsimp only at w1 w2 w3
    subst w1
    rw [mck_s (by omega) (by omega), mck_s (by omega) (by omega), mck_s (by omega) (by omega), mck_s (by omega) (by omega), w3 874 m (by omega), y1' 874 m (by omega) (by omega) (by omega), h874, sI_add, y2 869 2 (by omega), q2]
    have z878 : mset M2 874 m (sI (6 + 7 * j + co)) 878 m = 0 := by
      rw [mset_n (by omega), w3 878 m (by omega), y1' 878 m (by omega) (by omega) (by omega), q878]
    rw [z878, show (0 : Int32).toInt64 = 0 by decide, Int64.add_zero]
    have hFj : (coP m j p).1 0 1 + 1 = p.1 0 1 + j + 1 := by rw [rF]
    have T : ∀ M3 L3, M3 = mset M2 874 m (sI (6 + 7 * j + co)) → L3 = mset L2 881 m (sL τ) → TfM (mset (mset M3 874 m (sI 6)) 875 m (sI 0)) L3 τ (coP m (j + 1) p).1 (coP m (j + 1) p).2 o e := by
      intro M3 L3 q1 q2
      subst q1
      subst q2
      rw [eco]
      refine TfM_mk (co := co) (fun f u => co_le cW u) h (fun a y u1 u2 u3 => ?_) (fun a y u => ?_) ?_ ?_ ?_ ?_ ?_ ?_ ?_ ?_ (fun k u => ?_)
      · by_cases c1 : a = 875 ∧ y = m
        · rw [c1.1, c1.2, mset_s, mset_s]
        · rw [mset_n c1, mset_n c1]
          by_cases c2 : a = 874 ∧ y = m
          · rw [c2.1, c2.2, mset_s, mset_s]
          · rw [mset_n c2, mset_n c2, mset_n c2, w3 a y (by omega)]
            rw [y1 a y (by omega) u2, mset_n c1]
      · by_cases c1 : a = 881 ∧ y = m
        · rw [c1.1, c1.2, mset_s, q881]
        · rw [mset_n c1, y2 a y u]
      · simp (disch := omega) only [mset_n]
        rw [w3 869 26 (by omega), y3, rF]
      · simp (disch := omega) only [mset_n]
        rw [hFj, w3 892 _ (by omega), y4]
        rfl
      · simp (disch := omega) only [mset_n]
        rw [hFj, w3 893 _ (by omega), y5]
      · simp (disch := omega) only [mset_n]
        rw [hFj, w3 894 _ (by omega), y6, if_neg (by omega)]
      · simp (disch := omega) only [mset_n]
        rw [hFj, w3 895 _ (by omega), y7]
      · rw [if_neg (by omega), if_neg (by omega), if_neg (by omega), r2, hco, hrest]
        show _ = if p.1 2 m - (6 + 7 * (j + 1 - 1)) ≤ 7 then p.1 2 m - (6 + 7 * (j + 1 - 1)) else 7
        rw [Nat.add_sub_cancel]
      · simp (disch := omega) only [mset_n]
        rw [hFj, w3 896 _ (by omega), y8]
        rfl
      · simp (disch := omega) only [mset_n]
        rw [hFj, w3 898 _ (by omega), y9]
      · simp (disch := omega) only [mset_n]
        rw [hFj, w2 k u]
        rfl
    have fM : ∀ a y, ¬ (a = 869 ∨ (873 ≤ a ∧ a ≤ 875) ∨ (892 ≤ a ∧ a ≤ 899)) → M2 a y = M a y := fun a y u => by
      rw [w3 a y (by omega), y1' a y (by omega) (by omega) (by omega)]
    by_cases hl : rest ≤ 7
    · have hjl : j + 1 = csN (p.1 2 m) := by
        unfold csN at hj ⊢
        omega
      rw [if_pos hl] at hco
      rw [if_pos (by rw [hco]), mck_s (by omega) (by omega)]
      refine wq_some ⟨?_, fun a y u => ?_, fun a y u => ?_⟩
      all_goals (try dsimp only)
      · rw [if_pos hjl]
        have T1 := T _ _ rfl rfl
        have c3 : ∀ y, (coP m (j + 1) p).1 3 y = p.1 3 y := fun y => co_r (by omega) (by omega) _ _
        have c0 : (coP m (j + 1) p).1 0 0 = p.1 0 0 := co_r (by omega) (by omega) _ _
        refine TfM_ch T1 (fun a y u => by simp (disch := omega) only [mset_n]) T1.1.2.1 (fun i y u v => mset_n (by omega)) (fun x u v => ?_) (fun x u v => ?_) (fun r u => ?_) (fun f u => ?_) (fun k u => ?_)
        · have t := (T1.2.2.1 x u v).2
          unfold TmS at t ⊢
          by_cases hq : x = m
          · subst hq
            rw [c3, h3] at t
            rw [mset_s]
            simp (disch := omega) only [mset_n, mset_s] at t
            simp (disch := omega) only [mset_n, mset_s]
            refine ⟨?_, rfl, fun z => by omega, fun z => by omega, fun z => by omega, fun z => by omega⟩
            rw [t.1]
            rfl
          · rw [mset_j hq]
            simp (disch := omega) only [mset_n] at t
            simp (disch := omega) only [mset_n]
            exact t
        · have t := T1.2.2.2.1 x u v
          rw [c0] at u
          simp (disch := omega) only [mset_n] at t
          simp (disch := omega) only [mset_n]
          exact t
        · have t := T1.2.2.2.2.1 r u
          unfold TmR at t ⊢
          simp (disch := omega) only [mset_n] at t
          simp (disch := omega) only [mset_n]
          exact t
        · have t := (T1.2.2.2.2.2.1 f u).2.2.2.2.2.1
          simp (disch := omega) only [mset_n] at t
          simp (disch := omega) only [mset_n]
          exact t
        · have t := T1.2.2.2.2.2.2 k u
          simp (disch := omega) only [mset_n] at t
          simp (disch := omega) only [mset_n]
          exact t
      · rw [mset_n (by omega), mset_n (by omega)]
        exact fM a y u
      · rw [mset_n (by omega)]
        exact y2 a y (by omega)
    · have hjl : ¬ j + 1 = csN (p.1 2 m) := by
        unfold csN at hj ⊢
        omega
      rw [if_neg hl] at hco
      rw [if_neg (by rw [sI_eq (by omega) (by omega)]; omega), mck_s (by omega) (by omega)]
      rw [show mset M2 874 m (sI (6 + 7 * j + co)) 876 m = 0 by rw [mset_n (by omega), w3 876 m (by omega), y1' 876 m (by omega) (by omega) (by omega), q876], if_pos rfl]
      refine wq_some ⟨?_, fun a y u => ?_, fun a y u => ?_⟩
      all_goals (try dsimp only)
      · rw [if_neg hjl]
        refine ⟨T _ _ rfl rfl, ?_, ?_⟩
        · rw [mset_s, hco, show 6 + 7 * j + 7 = 6 + 7 * (j + 1) by omega]
        · rw [mset_n (by omega), w3 875 m (by omega), y1 875 m (by omega) (by omega), mset_s]
      · rw [mset_n (by omega)]
        exact fM a y u
      · rw [mset_n (by omega)]
        exact y2 a y (by omega)
  unfold DX17_sendNext
  have h100 := hM.2.2.1
  rw [m_sz17 hW q870 h1 h2, mb3_s, mck_s (by omega) (by omega), sI_nn (by omega), h874, sI_sub (by omega)]
  simp only [mlet]
  by_cases hl : p.1 2 m - (6 + 7 * j) ≤ 7
  · rw [if_pos (by rw [sI_lel (by omega) (by decide)]; exact hl)]
    exact fin _ _ rfl (by rw [if_pos hl])
  · rw [if_neg (by rw [sI_lel (by omega) (by decide)]; exact hl)]
    exact fin 7 _ rfl (by rw [if_neg hl])
