/-! one pack on both sides -/
theorem lk_packOf0 {fu S c : Nat} {lk : Bool} {A : mwM} {L : mwL} {bt pe co ky : Nat → Nat} (hfu : 50 ≤ fu) (hS : SgC A S bt pe co ky) (hc : c < 6) (h0 : ∀ s, s < S → isO co ky c lk s = false) : DX6_packOf fu (sI c) (bI lk) A L = some (A, L) := by
  obtain ⟨r, y1, y2, y3⟩ := c_nextPeriod (fu := fu) (L := L) (last := 0) (lk := lk) hfu hS hc (by omega)
  have y2' : DX6_nextPeriod fu (sI c) (bI lk) 0 A L = some (sI r, A, L) := y2
  unfold DX6_packOf
  rw [y2', mb3_s]
  obtain ⟨q, rfl⟩ : ∃ y, fu = y + 1 := ⟨fu - 1, by omega⟩
  rcases y3 with ⟨n1, n2⟩ | ⟨⟨s, n1, n2, n3⟩, n4, n5⟩
  · show fX6_packOf_i11 (q + 1) (sI c) (bI lk) (fX6_packOf_h11 (q + 1) (sI c) (bI lk) q) (sI r) 0 A L = _
    unfold fX6_packOf_i11 fX6_packOf_b59
    rw [if_neg (by decide), if_pos (by rw [n2]; decide)]
  · rw [h0 s n1] at n2; cases n2
theorem lk_pack1 {fu k n cap S c F0 : Nat} {lk : Bool} {A M : mwM} {L L2 : mwL} {bt pe co ky pl btl : Nat → Nat} {tu : Nat → Bool} (hfu : 90000 ≤ fu) (hS : SgC A S bt pe co ky) (hc : c < 6) (hB : LkB S n cap (isO co ky c lk) bt pe co ky pl (fun l => (btl l + 7) / 8) c) (h40 : F0 + n ≤ 40) (hcap : cap = if lk = true then 3 else 8) (hF : A 61 11 = sI F0) (hP : PsM M k n cap btl pl tu) (h15 : M k 15 = 0) : ∃ A' M' fr oc G, DX6_packOf fu (sI c) (bI lk) A L = some (A', L) ∧ DX16_pack fu k 5040 M L2 = some (sI G, M', L2) ∧ LkS A A' F0 G S (isO co ky c lk) fr oc ∧ (∀ l, 1 ≤ l → l ≤ n → M' (k + 12) (129 + l) = sI (fr l) ∧ M' (k + 13) (129 + l) = sI (8 * oc l) ∧ 1 ≤ fr l ∧ fr l ≤ G ∧ oc l ≤ 8) ∧ (∀ f, 1 ≤ f → f ≤ G → ∃ l, 1 ≤ l ∧ l ≤ n ∧ fr l = f) ∧ G ≤ n ∧ LkD n cap (fun l => (btl l + 7) / 8) fr oc ∧ M' k 15 = 1 ∧ (∀ f, 1 ≤ f → f ≤ G → M' (k + 14) f = sI ((f - 1) * cap)) ∧ (∀ y, y < G * cap → M' (k + 15) y = 0) ∧ ∀ a y, ¬ (k + 9 ≤ a ∧ a ≤ k + 22) → ¬ (a = k ∧ (y = 0 ∨ y = 14 ∨ y = 15)) → M' a y = M a y := by
  have hn : n ≤ 40 := hP.2.2.1.2.1
  have t0 : ∀ a y, ¬ (a = k ∧ (y = 0 ∨ y = 14)) → mset (mset M k 0 0) k 14 1 a y = M a y := fun a y w => by rw [mset_n (by omega), mset_n (by omega)]
  obtain ⟨A', M1, fr, oc, G, e1, e2, e3, e4, e5, e6, e7, e8, e9⟩ := lk_packOf (fu := fu) (k := k) (L := L) (L2 := L2) (M := mset (mset M k 0 0) k 14 1) hfu hS hc hB h40 hcap hF (PsM_f hP (fun a y w => t0 a y (by omega)))
  have k15 : M1 k 15 = 0 := by rw [e9 _ _ (by omega) (by omega), t0 _ _ (by omega)]; exact h15
  have hG1 : PsG (mset M1 k 15 1) k n btl tu := PsG_f hP.2.2.1 (fun a y w => by rw [mset_n (by omega), e9 _ _ (by omega) (by omega), t0 _ _ (by omega)])
  obtain ⟨M', g1, g2, g3, g4, g5⟩ := m_packT (fu := fu) (L := L2) (G := G) (by omega) (PvM_f (M' := mset M1 k 15 1) e4 (fun a y w => by rw [mset_n (by omega)])) hG1 (by rw [mset_s]) (by omega) (fun l l1 l2 => (e5 l l1 l2).2) e6
  refine ⟨A', M', fr, oc, G, e1, ?_, e3, fun l l1 l2 => ?_, e6, e7, e8, by rw [g5 _ _ (by omega), mset_s], g2, g3, fun a y w1 w2 => ?_⟩
  · unfold DX16_pack
    simp only [mlet]
    rw [if_pos (by decide), show (mset M k 0 0) k 15 = 0 from by rw [mset_n (by omega)]; exact h15, if_neg (by decide), e2, mb3_s, if_neg (show ¬ (1 : Int32) = 0 by decide), k15]
    exact g1
  · obtain ⟨q1, q2⟩ := g4 l l1 l2
    obtain ⟨q3, q4⟩ := e5 l l1 l2
    obtain ⟨a1, a2, a3, a4, a5, a6, a7, a8, a9, a10⟩ := e4.2.2.2.2 l l1 l2
    exact ⟨q1, q2, by omega, q4, a10⟩
  · rw [g5 a y (by omega), mset_n (by omega), e9 a y (by omega) (by omega), t0 a y (by omega)]
