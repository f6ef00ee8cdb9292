/-! SYSTEM on one memory -/
theorem hz_C {z : Int32} : CPc2 (fun M _ => M 1 12 = 0 → M 1 13 = z) := by
  refine ⟨fun M L a y v ho h q => ?_, fun M L a y v ho h => h, fun fu a b M L ha h => ?_⟩
  · rw [mset_n (by omega)] at q
    rw [mset_n (by omega)]
    exact h q
  · unfold DX8_fail fX8_fail_b17
    refine kqI2 (show kq2 _ (some (_, L)) from kqS2 (fun q => ?_)) (kqS2 h)
    rw [mset_n (by omega), mset_s] at q
    exact absurd q ha
theorem hz_read {fu : Nat} : ∀ (A0 : mwM) (L0 : mwL) (A' : mwM) (L' : mwL), fX8_readText_h19 fu fu (0, 0, A0, L0) = some (A', L') → A' 1 12 = 0 → A' 1 13 = A0 1 13 := fun A0 L0 A' L' e h12 => y_fX8_readText_h19 (P := fun M _ => M 1 12 = 0 → M 1 13 = A0 1 13) hz_C fu (0, 0, A0, L0) (fun _ => rfl) _ e h12
theorem lw_system {fu : Nat} {M : mwM} {L : mwL} {Sb : Nat → Nat} (hfu : 150000 ≤ fu) (h : JJ Sb M L) : DQ (fun r => r.toInt64) Sb (DL_system fu) (DX19_system fu) M L := by
  obtain ⟨hS, hY, h5⟩ := h
  obtain ⟨w, r, M1, M', L1, Lm', e1, _⟩ := st_system hz_read hfu hS
  have f1 : PcG M L M1 L1 := y_DX11_system PcG_1 PcG_0 _ e1
  have h51 : H54 M1 := H54_c h5 (PrH_f f1.1)
  have key : ∀ Lx : mwL, (∀ a, a ≠ 1577 → Lx a = L1 a) → ∃ M2 L2, DX19_system fu M1 Lx = some (r, M2, L2) ∧ M2 732 0 = sI w ∧ JJ Sb M2 L2 ∧ L2 1577 = Lx 1577 := fun Lx hx => by
    obtain ⟨w', r', A', M2, Lc', L2, e2, e3, _, e4, e5, e6⟩ := st_system hz_read hfu (HS_r hS f1.1 hx)
    rw [e1] at e2
    injection e2 with e2
    injection e2 with e7 e8
    injection e7 with e10 e11
    injection e8 with e9 e12
    subst e9 e10 e11 e12
    have f3 : PrG M1 Lx M2 L2 := y_DX19_system PrG_a PrG_0 _ e3
    refine ⟨M2, L2, e3, e4, ⟨HS_l e5 f3.1 hx, ?_, e6 h51⟩, f3.1.2.2 _ (by omega)⟩
    obtain ⟨n, v, n1, n2, n3, n4⟩ := hY
    exact ⟨n, v, n1, by rw [f3.1.1 _ _ (by omega), f1.2.2]; exact n2, by rw [f3.2.2, f1.1.1 _ _ (by omega)]; exact n3, fun j hj => by rw [f3.1.1 _ _ (by omega), f1.2.1, f3.2.1, f1.1.1 _ _ (by omega)]; exact n4 j hj⟩
  have hw := v_DX11_system _ e1
  dsimp only at hw
  rcases hw with rfl | rfl
  · obtain ⟨M2, L2, x1, x2, x3, x4⟩ := key (mset L1 1577 0 r.toInt64) (fun a u => ms_f u)
    exact ⟨0, r, M1, _, M2, L2, by unfold DL_system; rw [e1]; rfl, x1, x2, fun _ => by rw [x4]; exact mset_s, x3⟩
  · obtain ⟨M2, L2, x1, x2, x3, x4⟩ := key L1 (fun _ _ => rfl)
    exact ⟨1, r, M1, L1, M2, L2, by unfold DL_system; rw [e1]; rfl, x1, x2, fun q => absurd q (by decide), x3⟩
