/-! READING: the line of an act, whole -/
theorem nm_b33 {fu : Nat} {a1 v2 : Int32} {M : mwM} {L : mwL} : fX19_addAct_b33 fu a1 v2 (-1) M L = some (0, M, L) := by
  unfold fX19_addAct_b33
  rw [if_neg (show ¬ (0 : Int32) ≤ -1 by decide)]
  unfold fX19_addAct_b47
  rw [if_pos (show (-1 : Int32) < 0 by decide)]
  rfl
theorem nf_actG {fu : Nat} {a1 z : Int32} {A : mwM} {L : mwL} (h : ¬ A 1 12 = 0) : mck 0 12 (fX8_readAct_b36 fu a1 0 z A L) = some (A, L) := by
  rw [nf_b36 h, show (0 : Int32) = sI 0 from rfl, mck_s (by omega) (by omega)]
theorem nf_actH {fu : Nat} {a1 : Int32} {A : mwM} {L : mwL} (h : ¬ A 1 12 = 0) : mb3 (DX8_statesOf fu 0 A L) (fun r28 M26 L27 => mb3 (DX8_toldName fu r28 4 M26 L27) (fun r31 M29 L30 => fX8_readAct_b36 fu a1 0 r31 M29 L30)) = some (A, L) := by
  unfold DX8_statesOf
  rw [mb3_s, nf_told h, mb3_s, nf_b36 h]
