theorem p_pure : wPure := fun M L h n hn xs => by
  obtain ⟨F1, M1, L1, F2, L2, e1, e2, e3⟩ := h
  exact law_ok hn (start_ok e1 e2 e3)
theorem i_vc : Claimed_1_1 ∧ Claimed_1_2 := i_of p_pure
