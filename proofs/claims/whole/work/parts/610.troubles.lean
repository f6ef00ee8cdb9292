/-! TROUBLES: status as eight bits on one side, as one number on the other -/
/-- bit b of n made v -/
def sb (n b v : Nat) : Nat := n - (n / 2^b % 2) * 2^b + v * 2^b
theorem sb_lt : ∀ n, n < 256 → ∀ b, b < 8 → ∀ v, v < 2 → sb n b v < 256 := by decide +kernel
theorem sb_dig : ∀ n, n < 256 → ∀ b, b < 8 → ∀ v, v < 2 → ∀ c, c < 8 → sb n b v / 2^c % 2 = if c = b then v else n / 2^c % 2 := by decide +kernel
def dg (M : mwM) (c n : Nat) : Prop := ∀ b, b < 8 → M 908 (8 * c + b) = sI (n / 2^b % 2)
theorem dg_set {M : mwM} {c n b v : Nat} {x : Int32} (h : dg M c n) (hn : n < 256) (hb : b < 8) (hv : v < 2) (hx : x = sI v) : dg (mset M 908 (8 * c + b) x) c (sb n b v) := by
  intro b' hb'
  rw [sb_dig n hn b hb v hv b' hb']
  by_cases e : b' = b
  · rw [if_pos e, e, mset_s, hx]
  · rw [if_neg e, mset_j (by omega)]
    exact h b' hb'
theorem dg_o {M : mwM} {c n a j : Nat} {x : Int32} (h : dg M c n) (ha : 908 ≠ a) : dg (mset M a j x) c n := by
  intro b hb
  rw [mset_k ha]
  exact h b hb
theorem dg_f {M M' : mwM} {c n : Nat} (h : dg M c n) (hf : ∀ b, b < 8 → M' 908 (8 * c + b) = M 908 (8 * c + b)) : dg M' c n := by
  intro b hb
  rw [hf b hb]
  exact h b hb
theorem bo_0 : vp_nar .boolean 0 = sI 0 := by decide +kernel
theorem bo_1 : vp_nar .boolean 1 = sI 1 := by decide +kernel
theorem bo_n {v : Nat} (h : v < 2) : vp_nar .boolean (sI v) = sI v := by
  have : v = 0 ∨ v = 1 := by omega
  rcases this with rfl | rfl
  · exact bo_0
  · exact bo_1
theorem d2 (n b : Nat) : n / 2^b % 2 < 2 := Nat.mod_lt _ (by decide)
theorem mzz_s {β : Type} {v : Nat} {x : Option β} (h : v < 2) : mzz (sI v) x = x := by
  have : v = 0 ∨ v = 1 := by omega
  rcases this with rfl | rfl
  · rfl
  · rfl
theorem m_isn {fu : Nat} {M : mwM} {L : mwL} {c n b : Nat} (hd : dg M c n) (hc : c ≤ 200) (hb : b < 8) : DX18_is fu (sI c) (sI b) M L = some (sI (n / 2^b % 2), M, L) := by
  unfold DX18_is
  rw [sI_lml, sI_add, mck_s (by omega) (by omega), sI_nn (by omega), hd b hb, mzz_s (d2 n b)]
theorem m_is {fu : Nat} {M : mwM} {L : mwL} {c n b : Nat} (hd : dg M c n) (hc : c ≤ 200) (hb : (OfNat.ofNat b : Nat) < 8) : DX18_is fu (sI c) (no_index (OfNat.ofNat b)) M L = some (sI (n / 2^(OfNat.ofNat b : Nat) % 2), M, L) := m_isn hd hc hb
theorem m_setn {fu : Nat} {M : mwM} {L : mwL} {c b : Nat} {x : Int32} (hc : c ≤ 200) (hb : b < 8) : DX18_set fu (sI c) (sI b) x M L = some (mset M 908 (8 * c + b) (vp_nar .boolean x), L) := by
  unfold DX18_set
  rw [sI_lml, sI_add, mck_s (by omega) (by omega), sI_nn (by omega)]
  rfl
theorem m_set {fu : Nat} {M : mwM} {L : mwL} {c b : Nat} {x : Int32} (hc : c ≤ 200) (hb : (OfNat.ofNat b : Nat) < 8) : DX18_set fu (sI c) (no_index (OfNat.ofNat b)) x M L = some (mset M 908 (8 * c + (OfNat.ofNat b : Nat)) (vp_nar .boolean x), L) := m_setn hc hb
theorem dig_sum : ∀ n, n < 256 → ∀ b, b < 8 → sI (n % 2^b) + (if n / 2^b % 2 = 0 then (0 : Int32) else (1 : Int32) <<< (sI b &&& 31)) = sI (n % 2^(b+1)) := by decide +kernel
/-- the status as a number -/
theorem m_statusOf {fu : Nat} {M : mwM} {L : mwL} {c n : Nat} (hd : dg M c n) (hn : n < 256) (hc : c ≤ 200) (hf : 9 ≤ fu) : DX18_statusOf fu (sI c) M L = some (sI n, M, L) := by
  have h := wq_for (body := fun r4 s => fX18_statusOf_i4 fu (sI c) r4 s.1 s.2.1 s.2.2.1 s.2.2.2) (Q := fun q => q = (sI n, M, L)) (fun i (a : Int32) => (a, sI i, M, L)) (fun i a => a = sI (n % 2^i)) 8 ?_ ?_ 8 0 0 fu (by omega) (by omega) (by show (0 : Int32) = sI (n % 1); rw [Nat.mod_one]; rfl)
  · obtain ⟨q, e, rfl⟩ := h
    exact e
  · intro i a r hi ha ih
    subst ha
    show wq (fX18_statusOf_i4 fu (sI c) r (sI (n % 2^i)) (sI i) M L) _
    unfold fX18_statusOf_i4 fX18_statusOf_b28
    have h8 : ¬ (8 : Int32) ≤ sI i := by rw [sI_lle (by omega) (by omega)]; omega
    rw [if_neg h8, m_isn hd hc hi, mb3_s]
    simp only [mlet]
    have hs := dig_sum n hn i hi
    rw [sI_1]
    have hh := ih _ rfl
    rw [← hs] at hh
    by_cases hz : n / 2^i % 2 = 0
    · rw [if_pos hz] at hh
      rw [if_pos (by rw [hz]; rfl)]
      simpa using hh
    · rw [if_neg hz] at hh
      rw [if_neg (by rw [sI_eql (by have := d2 n i; omega) (by omega)]; exact hz)]
      exact hh
  · intro a r ha
    subst ha
    show wq (fX18_statusOf_i4 fu (sI c) r (sI (n % 2^8)) (sI 8) M L) _
    unfold fX18_statusOf_i4
    rw [if_pos (by decide)]
    exact wq_some (by rw [Nat.mod_eq_of_lt (show n < 2^8 by omega)])
theorem fresh_d : ∀ b, b < 8 → 80 / 2^b % 2 = if b = 4 ∨ b = 6 then 1 else 0 := by decide +kernel
/-- a code as new -/
theorem m_freshen {fu : Nat} {M : mwM} {L : mwL} {c : Nat} (hc : c ≤ 200) (hf : 9 ≤ fu) : wq (DX18_freshen fu (sI c) M L) (fun q => q.2 = L ∧ dg q.1 c 80 ∧ q.1 907 c = 0 ∧ q.1 909 c = 0 ∧ q.1 910 c = 0 ∧ q.1 911 c = 0 ∧ ∀ a j, ¬ (a = 908 ∧ 8 * c ≤ j ∧ j < 8 * c + 8) → ¬ (j = c ∧ (a = 907 ∨ a = 909 ∨ a = 910 ∨ a = 911)) → q.1 a j = M a j) := by
  refine wq_for (body := fun r2 s => fX18_freshen_i2 fu (sI c) r2 s.1 s.2.1 s.2.2) (fun i (a : mwM) => (sI i, a, L)) (fun i a => (∀ b, b < i → a 908 (8 * c + b) = sI (80 / 2^b % 2)) ∧ ∀ e j, ¬ (e = 908 ∧ 8 * c ≤ j ∧ j < 8 * c + 8) → a e j = M e j) 8 ?_ ?_ 8 0 M fu (by omega) (by omega) ⟨fun b hb => by omega, fun _ _ _ => rfl⟩
  · intro i a r hi ⟨h1, h2⟩ ih
    show wq (fX18_freshen_i2 fu (sI c) r (sI i) a L) _
    unfold fX18_freshen_i2 fX18_freshen_b22 fX18_freshen_b27
    have h8 : ¬ (8 : Int32) ≤ sI i := by rw [sI_lle (by omega) (by omega)]; omega
    have key : ∀ x v, x = sI v → v < 2 → v = 80 / 2^i % 2 → wq (mb2 (DX18_set fu (sI c) (sI i) x a L) fun M12 L13 => mlet (sI i + 1) fun x14 => r (x14, M12, L13)) (fun q => q.2 = L ∧ dg q.1 c 80 ∧ q.1 907 c = 0 ∧ q.1 909 c = 0 ∧ q.1 910 c = 0 ∧ q.1 911 c = 0 ∧ ∀ a j, ¬ (a = 908 ∧ 8 * c ≤ j ∧ j < 8 * c + 8) → ¬ (j = c ∧ (a = 907 ∨ a = 909 ∨ a = 910 ∨ a = 911)) → q.1 a j = M a j) := by
      intro x v hx hv hv2
      rw [m_setn hc hi, mb2_s, hx, bo_n hv]
      simp only [mlet]
      rw [sI_1]
      refine ih _ ⟨?_, ?_⟩
      · intro b hb
        by_cases e : b = i
        · rw [e, mset_s, hv2]
        · rw [mset_j (by omega)]; exact h1 b (by omega)
      · intro e j hj
        rw [mset_n (fun q => hj ⟨q.1, by omega, by omega⟩)]
        exact h2 e j hj
    have fd := fresh_d i hi
    rw [if_neg h8]
    by_cases e4 : i = 4
    · rw [if_pos (by rw [e4]; rfl)]
      exact key 1 1 rfl (by omega) (by rw [fd, if_pos (Or.inl e4)])
    · rw [if_neg (by rw [sI_eql (by omega) (by omega)]; exact e4)]
      by_cases e6 : i = 6
      · rw [if_pos (by rw [e6]; rfl)]
        exact key 1 1 rfl (by omega) (by rw [fd, if_pos (Or.inr e6)])
      · rw [if_neg (by rw [sI_eql (by omega) (by omega)]; exact e6)]
        exact key 0 0 rfl (by omega) (by rw [fd, if_neg (by omega)])
  · intro a r ⟨h1, h2⟩
    show wq (fX18_freshen_i2 fu (sI c) r (sI 8) a L) _
    unfold fX18_freshen_i2
    rw [if_pos (by decide)]
    simp (disch := omega) only [mlet, mck_s, sI_nn]
    refine wq_some ⟨rfl, ?_, ?_, ?_, ?_, ?_, ?_⟩
    · exact dg_o (dg_o (dg_o (dg_o h1 (by decide)) (by decide)) (by decide)) (by decide)
    · simp [mset]
    · simp [mset]
    · simp [mset]
    · simp [mset]
    · intro e j hj hj2
      simp only []
      rw [mset_n (by omega), mset_n (by omega), mset_n (by omega), mset_n (by omega)]
      exact h2 e j hj
theorem m_keep {fu : Nat} {M : mwM} {L : mwL} {c n : Nat} (hd : dg M c n) (hc : c ≤ 200) (hf : 9 ≤ fu) : wq (DX18_keep fu (sI c) M L) (fun q => q.2 = L ∧ ∀ a j, a ≠ 912 → a ≠ 913 → a ≠ 914 → a ≠ 915 → q.1 a j = M a j) := by
  refine wq_for (body := fun r2 s => fX18_keep_i2 fu (sI c) r2 s.1 s.2.1 s.2.2) (fun i (a : mwM) => (sI i, a, L)) (fun i a => ∀ e j, e ≠ 912 → a e j = M e j) 8 ?_ ?_ 8 0 M fu (by omega) (by omega) (fun _ _ _ => rfl)
  · intro i a r hi h2 ih
    show wq (fX18_keep_i2 fu (sI c) r (sI i) a L) _
    unfold fX18_keep_i2
    have h8 : ¬ (8 : Int32) ≤ sI i := by rw [sI_lle (by omega) (by omega)]; omega
    have hd2 : dg a c n := dg_f hd (fun b _ => h2 908 _ (by decide))
    rw [if_neg h8, m_isn hd2 hc hi, mb3_s, sI_lml, sI_add, mck_s (by omega) (by omega)]
    simp only [mlet]
    rw [sI_1]
    refine ih _ ?_
    intro e j he
    rw [mset_k he]
    exact h2 e j he
  · intro a r h2
    show wq (fX18_keep_i2 fu (sI c) r (sI 8) a L) _
    unfold fX18_keep_i2
    rw [if_pos (by decide)]
    simp (disch := omega) only [mlet, mck_s, sI_nn]
    refine wq_some ⟨rfl, ?_⟩
    intro e j e1 e2 e3 e4
    simp only []
    rw [mset_k e4, mset_k e3, mset_k e2]
    exact h2 e j e1
