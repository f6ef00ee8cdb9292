/-! a frame of the transfer goes on the bus -/
theorem ob_nx {n : Nat → Nat → Nat} {b : Nat → Nat → Bool} {h : Nat} : obL (mset n 0 2 (h + 1)) b = if b 1 h = false then obL (mset n 0 2 h) b ++ [h] else obL (mset n 0 2 h) b := by
  unfold obL
  rw [mset_s, mset_s, List.range_succ, List.filter_append]
  cases hb : b 1 h with
  | false => rw [if_pos rfl]; congr 1; simp [hb]
  | true => rw [if_neg (by decide)]; simp [hb]
theorem id_h {n : Nat → Nat → Nat} {b : Nat → Nat → Bool} {h f : Nat} : idO (mset n 0 2 h) b f = idO n b f := by
  unfold idO toT
  rw [mset_n (by omega), mset_n (by omega), mset_n (by omega)]
theorem wr_lt {n o : Nat → Nat → Nat} {f i : Nat} (hk : n 10 f ≤ 3) (ho : ∀ j, j < n 2 (n 11 f) → o (n 11 f) j < 256) : wrO n o f i < 256 := by
  cases i with
  | zero =>
    show 16 * n 10 f + (if n 10 f = 1 then n 2 (n 11 f) else n 12 f) % 16 < 256
    have : (if n 10 f = 1 then n 2 (n 11 f) else n 12 f) % 16 < 16 := Nat.mod_lt _ (by omega)
    omega
  | succ i =>
    show (if i < moO (n 10 f) ∧ frO (n 10 f) (n 12 f) + i < n 2 (n 11 f) then o (n 11 f) (frO (n 10 f) (n 12 f) + i) else 0) < 256
    split
    · next h => exact ho _ h.2
    · omega
/-- the reference writes the octets of a frame -/
theorem m_oct97 {fu f h C : Nat} {v2 : Int32} {M : mwM} {L : mwL} {τ : Nat} {n : Nat → Nat → Nat} {b : Nat → Nat → Bool} {o : Nat → Nat → Nat} {e : Nat → Nat} (r23 : (Int32 × mwM × mwL) → Option (mwM × mwL)) (hfu : 20 ≤ fu) (hv : TfV n b) (hM : TfM M L τ n b o e) (hf : f < n 0 1) (h94 : M 732 94 = sI (f + 1)) (h0 : M 926 0 = sI (wrO n o f 0)) : ∃ M', fX19_transferred_h97 fu r23 fu (v2, sI (n 10 f), sI (n 11 f), 1, M, L) = fX19_transferred_i97 fu r23 (fun _ => none) v2 (sI (n 10 f)) (sI (n 11 f)) 8 M' L ∧ (∀ i, i < 8 → M' 926 i = sI (wrO n o f i)) ∧ ∀ a y, a ≠ 926 → ¬ (a = 869 ∧ y = 0) → M' a y = M a y := by
  obtain ⟨T, hT⟩ : ∃ T : mwM → Option (mwM × mwL), ∀ B, T B = fX19_transferred_i97 fu r23 (fun _ => none) v2 (sI (n 10 f)) (sI (n 11 f)) 8 B L := ⟨_, fun _ => rfl⟩
  obtain ⟨g1, g2, g3, _⟩ := hv.2.2.2 f hf
  have key : ∀ (r j q : Nat) (B : mwM), j + r = 8 → r < q → 1 ≤ j → (∀ i, i < j → B 926 i = sI (wrO n o f i)) → (∀ a y, a ≠ 926 → ¬ (a = 869 ∧ y = 0) → B a y = M a y) → ∃ M', fX19_transferred_h97 fu r23 q (v2, sI (n 10 f), sI (n 11 f), sI j, B, L) = T M' ∧ (∀ i, i < 8 → M' 926 i = sI (wrO n o f i)) ∧ ∀ a y, a ≠ 926 → ¬ (a = 869 ∧ y = 0) → M' a y = M a y := by
    intro r
    induction r with
    | zero =>
      intro j q B hj hq j1 k1 k2
      obtain ⟨q', rfl⟩ : ∃ y, q = y + 1 := ⟨q - 1, by omega⟩
      refine ⟨B, ?_, fun i hi => k1 i (by omega), k2⟩
      have ej : j = 8 := by omega
      subst ej
      rw [hT]
      show fX19_transferred_i97 fu r23 (fX19_transferred_h97 fu r23 q') v2 (sI (n 10 f)) (sI (n 11 f)) 8 B L = _
      unfold fX19_transferred_i97
      rw [if_pos (show (8 : Int32) ≤ 8 by decide), if_pos (show (8 : Int32) ≤ 8 by decide)]
    | succ r ih =>
      intro j q B hj hq j1 k1 k2
      obtain ⟨q', rfl⟩ : ∃ y, q = y + 1 := ⟨q - 1, by omega⟩
      have un : fX19_transferred_h97 fu r23 (q' + 1) (v2, sI (n 10 f), sI (n 11 f), sI j, B, L) = fX19_transferred_i97 fu r23 (fX19_transferred_h97 fu r23 q') v2 (sI (n 10 f)) (sI (n 11 f)) (sI j) B L := rfl
      have hMB : TfM B L τ n b o e := TfM_fr hM (fun a y u1 u2 u3 u4 => k2 a y (by omega) (by omega)) (fun _ _ _ _ => rfl)
      have b94 : B 732 94 = sI (f + 1) := by rw [k2 _ _ (by omega) (by omega)]; exact h94
      have fin : ∀ B1 : mwM, (∀ a y, ¬ (a = 869 ∧ y = 0) → B1 a y = B a y) → ∃ M', fX19_transferred_b177 fu r23 (fX19_transferred_h97 fu r23 q') v2 (sI (n 10 f)) (sI (n 11 f)) (sI j) (sI j) (sI (wrO n o f j)) B1 L = T M' ∧ (∀ i, i < 8 → M' 926 i = sI (wrO n o f i)) ∧ ∀ a y, a ≠ 926 → ¬ (a = 869 ∧ y = 0) → M' a y = M a y := by
        intro B1 hB1
        unfold fX19_transferred_b177
        rw [mck_s (by omega) (by omega), mlet_e, mlet_e, sI_nn (by omega), sI_1]
        refine ih (j + 1) q' _ (by omega) (by omega) (by omega) (fun i hi => ?_) (fun a y u1 u2 => by rw [mset_n (by omega), hB1 a y u2]; exact k2 a y u1 u2)
        by_cases ei : i = j
        · rw [ei, mset_s]
        · rw [mset_n (by omega), hB1 _ _ (by omega)]
          exact k1 i (by omega)
      rw [un]
      unfold fX19_transferred_i97
      rw [if_neg (show ¬ (8 : Int32) ≤ sI j by rw [sI_lle (by decide) (by omega)]; omega), b94]
      by_cases k3 : n 10 f = 3
      · have w0 : wrO n o f j = 0 := by
          obtain ⟨i, rfl⟩ : ∃ i, j = i + 1 := ⟨j - 1, by omega⟩
          show (if i < moO (n 10 f) ∧ frO (n 10 f) (n 12 f) + i < n 2 (n 11 f) then o (n 11 f) (frO (n 10 f) (n 12 f) + i) else 0) = 0
          rw [if_neg]
          intro w
          have := w.1
          rw [k3] at this
          unfold moO at this
          rw [if_pos rfl] at this
          omega
        rw [w0] at fin
        rw [if_pos (show sI (n 10 f) = 3 by rw [k3]; rfl)]
        by_cases c1 : j = 1
        · have fa := m_frameA (fu := fu) (w := 3) hv hMB hf (by omega) (by omega)
          have co0 : coO n f = 0 := by unfold coO; rw [if_neg (by omega), if_neg (by omega), if_pos k3]
          rw [if_neg (by omega), if_neg (by omega), if_neg (by omega), if_pos rfl, co0] at fa
          have fa' : DX17_frame fu (sI (f + 1)) 3 B L = some (sI 0, mset B 869 0 0, L) := fa
          rw [if_pos (show sI j = 1 by rw [c1]; rfl), fa', mb3_s]
          exact fin _ (fun a y u => mset_n u)
        · rw [if_neg (show ¬ sI j = 1 by rw [show (1 : Int32) = sI 1 from rfl, sI_eq (by omega) (by omega)]; exact c1)]
          by_cases c2 : j = 2
          · have fa := m_frameA (fu := fu) (w := 5) hv hMB hf (by omega) (by omega)
            rw [if_neg (by omega), if_neg (by omega), if_neg (by omega), if_neg (by omega)] at fa
            have fa' : DX17_frame fu (sI (f + 1)) 5 B L = some (sI 0, mset B 869 0 0, L) := fa
            rw [if_pos (show sI j = 2 by rw [c2]; rfl), fa', mb3_s]
            exact fin _ (fun a y u => mset_n u)
          · rw [if_neg (show ¬ sI j = 2 by rw [show (2 : Int32) = sI 2 from rfl, sI_eq (by omega) (by omega)]; exact c2)]
            exact fin B (fun _ _ _ => rfl)
      · rw [if_neg (show ¬ sI (n 10 f) = 3 by rw [show (3 : Int32) = sI 3 from rfl, sI_eq (by omega) (by omega)]; exact k3)]
        have fo := m_frameO (fu := fu) (i := j - 1) hv hMB hf (by omega) k3
        rw [show 8 + (j - 1) = 7 + j from by omega, show j - 1 + 1 = j from by omega] at fo
        rw [sI_lad, fo, mb3_s]
        exact fin _ (fun a y u => mset_n u)
  obtain ⟨M', z1, z2, z3⟩ := key 7 1 fu M (by omega) (by omega) (by omega) (fun i hi => by rw [show i = 0 from by omega]; exact h0) (fun _ _ _ _ => rfl)
  rw [hT] at z1
  exact ⟨M', z1, z2, z3⟩
