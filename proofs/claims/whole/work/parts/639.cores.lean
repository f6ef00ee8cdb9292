/-! steps until nothing is to be done on a core -/
theorem m_atHand {fu : Nat} {M : mwM} {L : mwL} (hf : 1 ≤ fu) (h : M 787 35 = 0) : DX15_atHand fu M L = some (-1, M, L) := by
  obtain ⟨f, rfl⟩ : ∃ f, fu = f + 1 := ⟨fu - 1, by omega⟩
  unfold DX15_atHand fX15_atHand_h4
  rw [mloop_S]
  show fX15_atHand_i4 (f + 1) _ (-1) 0 M L = _
  unfold fX15_atHand_i4
  rw [h, if_pos (by decide)]
/-- what one step does behind the choice (A1, M1: the memories behind it) -/
theorem m_step {fu : Nat} {M M1 A1 : mwM} {L : mwL} {T C tn cn U c : Nat} {b : Option Nat} (hf : 33 ≤ fu) (hc : c < 6) (h35 : M 787 35 = 0) (hch : DX15_choose fu (sI c) M L = some (oM b, M1, L)) (h : RC A1 M1 L T C tn cn U) (hb : ∀ x, b = some x → x < T ∧ A1 12 x = 2) : (b = none → DX15_step fu (sI c) M L = some (0, M1, L)) ∧ (∀ x, b = some x → A1 13 x ≠ 0 → DX15_step fu (sI c) M L = some (0, M1, L)) ∧ (∀ x, b = some x → A1 13 x = 0 → DX15_step fu (sI c) M L = mb2 (DX15_ends fu (sI (x + 1)) M1 L) (fun M20 L21 => some (1, M20, L21))) := by
  have h13 : DX15_step fu (sI c) M L = fX15_step_b13 fu (sI c) M L := by
    unfold DX15_step
    by_cases h0 : c = 0
    · rw [if_pos (by rw [h0]; rfl), m_atHand (by omega) h35, mb3_s, if_pos (by decide)]
    · rw [if_neg (by rw [sI_eql (by omega) (by decide)]; exact h0)]
  rw [h13]
  unfold fX15_step_b13 fX15_step_b41 fX15_step_b64 fX15_step_b93
  rw [hch, mb3_s]
  obtain ⟨hT, hC, _, hcn, a3, m1, m7, m0, a4, l21, m29, m35, hh, hg, m39, ht1, hchn⟩ := h
  refine ⟨?_, ?_, ?_⟩
  · intro hn
    rw [hn, if_pos (show oM none = 0 from rfl)]
  · intro x hx hlf0
    obtain ⟨hxT, h12⟩ := hb x hx
    obtain ⟨rk, co, pe, mi, nx, st, lf, wa, tu, us, dn, q1, q2, q3⟩ := ht1 x hxT
    have hst : st = 2 := by
      rw [q2.2.2.2.2.2.1] at h12
      exact (sI_eq (a := st) (b := 2) (by have := q1.2.2.2.2.2.2.2.1; omega) (by omega)).mp h12
    have hlf : lf ≠ 0 := by
      intro q
      apply hlf0
      rw [q2.2.2.2.2.2.2.1, q]; rfl
    have hlr := (q3.2.2.2.2.2.2.2.2.2.2.2.2 (by omega)).2
    rw [hx]
    rw [show oM (some x) = sI (x + 1) from rfl]
    rw [if_neg (by rw [sI_eql (by omega) (by decide)]; exact Nat.succ_ne_zero _), mck_s (by omega) (by omega), sI_nn (by omega)]
    have hpart : ∀ k, k < T → M1 793 k = sI (k + 1) := by
      intro k hk
      obtain ⟨_, _, _, _, _, _, _, _, _, _, _, _, _, u3⟩ := ht1 k hk
      exact u3.2.2.2.2.1
    rcases hlr with ⟨u1, u2, u3⟩ | ⟨u1, u2, u3, u4⟩ | ⟨u1, u2, u3, u4, u5⟩ | ⟨u1, u2, u3⟩
    · rw [u1, if_neg (by decide)]
    · rw [u1, if_pos rfl, mck_s (by omega) (by omega), q3.2.2.2.2.2.2.2.2.2.2.1, if_pos (by decide), m_nextPart (nx := 0) (by omega) hT hxT m7 hpart u2 (by decide), mb3_s]
      first | rw [if_pos rfl] | skip
      rw [if_neg (by rw [sI_ltl (by omega) (by decide)]; exact Nat.not_lt_zero _), mck_s (by omega) (by omega), sI_nn (by omega), q3.2.2.2.2.2.1, if_pos rfl]
    · rw [u1, if_pos rfl, mck_s (by omega) (by omega), q3.2.2.2.2.2.2.2.2.2.2.1, if_pos (by decide), m_nextPart (nx := 0) (by omega) hT hxT m7 hpart u2 (by decide), mb3_s]
      first | rw [if_pos rfl] | skip
      rw [if_neg (by rw [sI_ltl (by omega) (by decide)]; exact Nat.not_lt_zero _), mck_s (by omega) (by omega), sI_nn (by omega), q3.2.2.2.2.2.1, if_pos rfl]
    · exact absurd u3 hlf
  · intro x hx hlf0
    obtain ⟨hxT, h12⟩ := hb x hx
    obtain ⟨rk, co, pe, mi, nx, st, lf, wa, tu, us, dn, q1, q2, q3⟩ := ht1 x hxT
    have hst : st = 2 := by
      rw [q2.2.2.2.2.2.1] at h12
      exact (sI_eq (a := st) (b := 2) (by have := q1.2.2.2.2.2.2.2.1; omega) (by omega)).mp h12
    have hlf : lf = 0 := by
      rw [q2.2.2.2.2.2.2.1] at hlf0
      exact (sI_eq (a := lf) (b := 0) (by have := q1.2.2.2.2.2.2.2.2.1; have := q1.2.2.2.2.2.1; omega) (by omega)).mp hlf0
    have hmi := q1.2.2.2.2.1
    have hlr := (q3.2.2.2.2.2.2.2.2.2.2.2.2 (by omega)).2
    rw [hx]
    rw [show oM (some x) = sI (x + 1) from rfl]
    rw [if_neg (by rw [sI_eql (by omega) (by decide)]; exact Nat.succ_ne_zero _), mck_s (by omega) (by omega), sI_nn (by omega)]
    have hpart : ∀ k, k < T → M1 793 k = sI (k + 1) := by
      intro k hk
      obtain ⟨_, _, _, _, _, _, _, _, _, _, _, _, _, u3⟩ := ht1 k hk
      exact u3.2.2.2.2.1
    rcases hlr with ⟨u1, u2, u3⟩ | ⟨u1, u2, u3, u4⟩ | ⟨u1, u2, u3, u4, u5⟩ | ⟨u1, u2, u3⟩
    · omega
    · omega
    · omega
    · rw [u1, if_pos rfl, mck_s (by omega) (by omega), q3.2.2.2.2.2.2.2.2.2.2.1, if_pos (by decide), m_nextPart (nx := 1) (by omega) hT hxT m7 hpart u2 (by decide), mb3_s]
      rw [show (if (1 : Nat) = 0 then sI x else -1) = (-1 : Int32) from rfl, if_pos (by decide), if_neg (by decide)]
/-- the jobs on a core that have nothing left -/
def nend (A : mwM) (c T : Nat) : Nat := cnt (fun i => decide (A 8 i = sI c ∧ A 12 i ≠ 0 ∧ A 13 i = 0)) T
theorem cnt_lt {p q : Nat → Bool} {n x : Nat} (hx : x < n) (h1 : p x = false) (h2 : q x = true) (h : ∀ i, i < n → p i = true → q i = true) : cnt p n < cnt q n := by
  induction n with
  | zero => omega
  | succ n ih =>
    have mono : ∀ m, m ≤ n → cnt p m ≤ cnt q m := by
      intro m
      induction m with
      | zero => intro _; exact Nat.le_refl _
      | succ m ihm =>
        intro hm
        have := ihm (by omega)
        show cnt p m + (if p m then 1 else 0) ≤ cnt q m + (if q m then 1 else 0)
        by_cases hp : p m = true
        · rw [if_pos hp, if_pos (h m (by omega) hp)]; omega
        · rw [if_neg hp]; split <;> omega
    show cnt p n + (if p n then 1 else 0) < cnt q n + (if q n then 1 else 0)
    by_cases hxn : x = n
    · subst hxn
      have := mono x (Nat.le_refl _)
      rw [h1, h2]
      simp
      omega
    · have := ih (by omega) (fun i hi => h i (by omega))
      by_cases hp : p n = true
      · rw [if_pos hp, if_pos (h n (by omega) hp)]; omega
      · rw [if_neg hp]; split <;> omega
theorem nend_ch {A : mwM} {c T : Nat} {w b : Option Nat} (hw : ∀ x, w = some x → A 12 x ≠ 0) (hb : ∀ x, b = some x → A 12 x ≠ 0) : nend (chA A c w b) c T = nend A c T := by
  apply cnt_congr
  intro i _
  rw [chA_f (a := 8) (by decide) (by omega), chA_f (a := 13) (by decide) (by omega), chA_12]
  by_cases e1 : b = some i
  · rw [if_pos e1]
    have := hb i e1
    simp [this]
  · rw [if_neg e1]
    by_cases e2 : w = some i
    · rw [if_pos e2]
      have := hw i e2
      simp [this]
    · rw [if_neg e2]
theorem nend_end {A : mwM} {c T i mi wa : Nat} (hi : i < T) (h8 : A 8 i = sI c) (h12 : A 12 i ≠ 0) (h13 : A 13 i = 0) (h10 : A 10 i = sI mi) (hmi : mi ≤ 1000) (h14 : A 14 i = sI wa) (hwa : wa < 2) : nend (endA A c i) c T < nend A c T := by
  apply cnt_lt hi
  · -- it has ended
    have hw01 : wa = 0 ∨ wa = 1 := by omega
    rcases hw01 with hw | hw
    · have : endA A c i 12 i = 0 := by
        unfold endA
        rw [if_pos (by rw [h14, hw]; rfl), mset_k (by decide), mset_s]
      simp [this]
    · have : ¬ endA A c i 13 i = 0 := by
        unfold endA
        rw [if_neg (by rw [h14, hw]; decide), mset_s, h10, sI_1, sI_eql (by omega) (by decide)]
        exact Nat.succ_ne_zero _
      simp [this]
  · simp [h8, h12, h13]
  · intro x _ hx
    by_cases hxi : x = i
    · subst hxi; simp [h8, h12, h13]
    · rw [endA_f (by omega) (by omega) (by omega), endA_f (by omega) (by omega) (by omega), endA_f (by omega) (by omega) (by omega)] at hx
      exact hx
