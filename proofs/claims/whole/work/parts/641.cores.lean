/-! a core on which nothing is to be done -/
theorem mset_id {M : mwM} {a j : Nat} {x : Int32} (h : M a j = x) : mset M a j x = M := by
  funext b y
  by_cases hq : b = a ∧ y = j
  · rw [hq.1, hq.2, mset_s, h]
  · rw [mset_n hq]
theorem mset_mset {M : mwM} {a j : Nat} {x z : Int32} : mset (mset M a j x) a j z = mset M a j z := by
  funext b y
  by_cases hq : b = a ∧ y = j
  · rw [hq.1, hq.2, mset_s, mset_s]
  · rw [mset_n hq, mset_n hq, mset_n hq]
theorem chM_id {M : mwM} {b : Option Nat} (h : ∀ x, b = some x → M 796 (x + 1) = 2 ∧ M 804 (x + 1) = 0) : chM M b b = M := by
  unfold chM
  cases b with
  | none => rfl
  | some x =>
    obtain ⟨h1, h2⟩ := h x rfl
    have hb : vp_nar .boolean 0 = (0 : Int32) := bo_0
    simp only []
    rw [mset_mset, hb, mset_id h2, mset_id h1]
theorem chA_id {A : mwM} {c : Nat} {b : Option Nat} (h18 : A 18 c = oI b) (h : ∀ x, b = some x → A 12 x = 2) : chA A c b b = A := by
  unfold chA
  cases b with
  | none => exact mset_id h18
  | some x =>
    simp only []
    rw [mset_mset, mset_id (h x rfl), mset_id h18]
theorem m_idle {fu : Nat} {A M : mwM} {L : mwL} {T C tn cn U c : Nat} {b : Option Nat} (hf : 33 ≤ fu) (h : RC A M L T C tn cn U) (hc : c < 6) (hs : stl A c T b) (hb : ∀ x, b = some x → x < T) : (∀ x, b = some x → A 8 x = sI c ∧ A 12 x = 2) ∧ DX15_choose fu (sI c) M L = some (oM b, M, L) ∧ ((∀ x, b = some x → A 13 x ≠ 0) → DX15_step fu (sI c) M L = some (0, M, L)) := by
  obtain ⟨w, b', v1, v2, v3, hb', hbc, hcA, hcM, hR⟩ := st_choose (Lc := L) hf h hc
  have hT := h.1
  have hwb : w = b := oI_inj hT v2 hb (by rw [← v1, hs.1])
  subst hwb
  have hbb : b' = w := by rw [hb']; exact stl_bsN hs T (Nat.le_refl _)
  subst hbb
  have h12 : ∀ x, b' = some x → A 8 x = sI c ∧ A 12 x = 2 := fun x hx => (v3 x (v2 x hx)).mpr hx
  have hM2 : chM M b' b' = M := by
    apply chM_id
    intro x hx
    obtain ⟨_, _, _, _, _, _, _, _, _, _, _, _, _, _, _, ht1, _⟩ := h
    obtain ⟨rk, co, pe, mi, nx, st, lf, wa, tu, us, dn, q1, q2, q3⟩ := ht1 x (v2 x hx)
    have := (h12 x hx).2
    rw [q2.2.2.2.2.2.1] at this
    exact ⟨q3.2.2.2.2.2.2.2.1.trans this, q3.2.2.2.2.2.2.2.2.2.1⟩
  have hA2 : chA A c b' b' = A := chA_id v1 (fun x hx => (h12 x hx).2)
  rw [hM2] at hcM
  refine ⟨h12, hcM, ?_⟩
  intro hlf
  have h35 : M 787 35 = 0 := h.2.2.2.2.2.2.2.2.2.2.2.1
  obtain ⟨s1, s2, _⟩ := m_step hf hc h35 hcM h (fun x hx => ⟨v2 x hx, (h12 x hx).2⟩)
  cases hbb : b' with
  | none => exact s1 hbb
  | some x => exact s2 x hbb (hlf x hbb)
theorem stl_loc {A A' : mwM} {c c' T : Nat} {b : Option Nat} (hc : c < 6) (hc' : c' < 6) (hne : c ≠ c') (hl : locA A A' c') (hs : stl A c T b) (hb : ∀ x, b = some x → A 8 x = sI c) : stl A' c T b ∧ ∀ x, b = some x → A' 13 x = A 13 x := by
  obtain ⟨l1, l2, l3⟩ := hl
  have hn : ∀ x, A 8 x = sI c → ¬ A 8 x = sI c' := by
    intro x q1 q2
    rw [q1] at q2
    exact hne ((sI_eq (by omega) (by omega)).mp q2)
  refine ⟨⟨by rw [l1 _ _ (by omega) (by omega) (by omega)]; exact hs.1, ?_⟩, ?_⟩
  · intro x hx h8 h12
    rw [l1 8 x (by omega) (by omega) (by omega)] at h8
    rw [l3 12 x (hn x h8) (by omega) (by omega)] at h12
    obtain ⟨y, hy, hy2, hle⟩ := hs.2 x hx h8 h12
    refine ⟨y, hy, ?_, ?_⟩
    · rw [l3 12 y (hn y (hb y hy)) (by omega) (by omega)]; exact hy2
    · rw [l1 7 x (by omega) (by omega) (by omega), l1 7 y (by omega) (by omega) (by omega)]; exact hle
  · intro x hx
    exact l3 13 x (hn x (hb x hx)) (by omega) (by omega)
