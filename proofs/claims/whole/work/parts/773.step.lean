/-! one bit on the bus: quiet nodes, and pauses -/
theorem c_beginL {fu n : Nat} {A : mwM} {L : mwL} (hn : n < 7) : wq (DX0_beginListening fu (sI n) A L) (fun z => z.2 = L ∧ z.1 25 n = sI 2 ∧ EaR z.1 (47 + 2 * n) h00 ∧ ∀ a y, a ≠ 47 + 2 * n → ¬ (a = 25 ∧ y = n) → z.1 a y = A a y) := by
  unfold DX0_beginListening
  rw [mck_s hn (by omega)]
  simp only [mlet, mb2_id]
  rw [mck_s hn (by omega), sI_nn (by omega)]
  refine wq_mono (c_begin5 (L := L)) ?_
  rintro z ⟨z1, z2, z3⟩
  refine ⟨z1, ?_, z2, fun a y u1 u2 => by rw [z3 a y u1, mset_n u2]⟩
  rw [z3 25 n (by omega), mset_s]
  rfl
theorem m_see12 {fu n K b : Nat} {M : mwM} {L : mwL} (hn : n < 7) (hK : M 836 n = sI K) (hK2 : K < 1200) (hb : b < 2) : DX12_see fu (sI n) (sI b) M L = some (mset (mset M 837 (1200 * n + K) (sI b)) 836 n (sI (K + 1)), L) := by
  unfold DX12_see
  simp only [mlet]
  rw [mck_s (by omega) (by omega), sI_nn (by omega), hK, sI_lml, sI_add, mck_s (by omega) (by omega), sI_nn (by omega), mck_s (by omega) (by omega), mck_s (by omega) (by omega), nb2 b hb, mset_n (by omega), hK, sI_1]
theorem fs_cnt {ow id dn : Nat → Nat} {oc : Nat → Nat → Nat} {n : Nat} : ∀ F, (fsF ow id oc dn n F = 0 ↔ cnt (fun f => decide (ow f = n ∧ dn f = 0)) F = 0) := by
  intro F
  induction F with
  | zero => exact ⟨fun _ => rfl, fun _ => rfl⟩
  | succ F ih =>
    rw [fsF_s]
    have cs : cnt (fun f => decide (ow f = n ∧ dn f = 0)) (F + 1) = cnt (fun f => decide (ow f = n ∧ dn f = 0)) F + (if (decide (ow F = n ∧ dn F = 0)) = true then 1 else 0) := rfl
    rw [cs]
    by_cases c : ow F = n ∧ dn F = 0
    · rw [if_pos c, decide_eq_true c, if_pos rfl]
      constructor
      · intro z
        exfalso
        split at z
        · omega
        · split at z
          · omega
          · contradiction
      · intro z
        omega
    · rw [if_neg c, decide_eq_false c, if_neg (by decide), Nat.add_zero]
      exact ih
/-- a node begins to listen: the first bit, 0, is heard -/
theorem Li_1 {A M : mwM} {n : Nat} (hE : EaR A (47 + 2 * n) h00) (hO : ∃ o, OcR A (47 + 2 * n) o) (h836 : M 836 n = sI 1) (h837 : M 837 (1200 * n) = sI 0) : LiR A M n 1 z0 := by
  obtain ⟨o, ho⟩ := hO
  refine ⟨by omega, by omega, rfl, fun i u => by show 0 < 2; omega, fun j u1 u2 => by omega, h836, fun i u => ?_, hE, o, ho⟩
  have : i = 0 := by omega
  rw [this]
  exact h837
theorem pg_1 : pgL (hq z0 1) 1 = 1 := by
  unfold pgL
  rw [if_neg]
  intro z
  have := z.1
  have e : hq z0 1 1 = 0 := rfl
  omega
theorem CaV_ex {s : Nat → Nat} {K : Nat} (hK : 1 ≤ K) (hK2 : K ≤ 1000) (h0 : s 0 = 0) (hs : ∀ i, i < K → s i < 2) (hg : Gd s (K - 1)) : ∃ E, CaV s K E := by
  obtain ⟨E, hE⟩ := HV_ex hK h0 hs hg
  exact ⟨E, hK, hK2, hs, hE⟩
theorem st_Q {fu N t F n b : Nat} {ow id : Nat → Nat} {oc : Nat → Nat → Nat} {dn ec tc : Nat → Nat} {A M : mwM} {Lc Lm : mwL} (hfu : 1300 ≤ fu) (hn : n < 7) (hb : b < 2) (hG : BuG A M N t F ow id oc dn ec tc) (hOc : ∃ o, OcR A (47 + 2 * n) o) (h25 : A 25 n = sI 0) (h831 : M 831 n = sI 0) (hfs : fsF ow id oc dn n F = 0) (pe : 8 * ec n ≤ t) (pt : 40 * tc n ≤ t) : StQ N t F ow id oc dn ec tc n A M Lc Lm (DX0_see fu (sI n) (sI b) (sI t) A Lc) (DX12_sees fu (sI n) (sI b) M Lm) := by
  have hG' := hG
  obtain ⟨_, _, _, hFM, hW, hC, _⟩ := hG'
  rw [c_see0 hn h25]
  unfold DX12_sees
  rw [mck_s (by omega) (by omega), sI_nn (by omega), h831, if_pos (show sI 0 = 0 from rfl), mck_s (by omega) (by omega)]
  simp only [mlet]
  obtain ⟨⟨r, M1, L1⟩, e1, y1, y2, y3, y4⟩ := m_first (fu := fu) (M := mset M 836 n 0) (L := Lm) (by omega) hn (FrM_fr hFM (fun a y u => by simp (disch := omega) only [mset_n]))
  dsimp only at y1 y2 y3 y4
  rw [hfs] at y1
  rw [y1] at e1
  rw [y2] at e1
  have hC1 : CA M1 := y4 (CA_fr hC (fun a y u => by simp (disch := omega) only [mset_n]))
  have fM : ∀ a y, ¬ (a = 836 ∧ y = n) → ¬ (a = 821 ∧ (y = 34 ∨ y = 48)) → a ≠ 848 → a ≠ 851 → M1 a y = M a y := fun a y u1 u2 u3 u4 => by rw [y3 a y u2 u3 u4, mset_n u1]
  have hW1 : WC M1 F id oc := WC_fr hW (fun a y u => fM a y (by omega) (by omega) (by omega) (by omega))
  rw [e1, mb3_s, if_pos (show fI 0 = -1 from rfl)]
  by_cases c : b = 1
  · have e : sI b = 1 := by rw [c]; rfl
    rw [if_neg (show ¬ sI b = 0 by rw [e]; decide), if_pos e]
    refine st_own hn hG (Or.inl ⟨h25, by rw [fM 831 n (by omega) (by omega) (by omega) (by omega)]; exact h831, by omega, by omega⟩) (fun _ _ _ _ _ _ => rfl) (fun a y u1 u2 u3 u4 => fM a y (by omega) (by omega) (by omega) (by omega)) hW1 hC1 hOc
  · have b0 : b = 0 := by omega
    subst b0
    rw [if_pos (show sI 0 = 0 from rfl), if_neg (show ¬ sI 0 = 1 by decide)]
    unfold fX12_sees_b33 fX12_sees_b48
    rw [if_pos (show fI 0 = -1 from rfl), mck_s (by omega) (by omega), sI_nn (by omega)]
    simp only [mlet]
    rw [mck_s (by omega) (by omega)]
    generalize hM2 : mset (mset M1 831 n 2) 833 n (fI 0) = M2
    have f2 : ∀ a y, ¬ ((a = 831 ∨ a = 833) ∧ y = n) → M2 a y = M1 a y := fun a y u => by rw [← hM2, mset_n (by omega), mset_n (by omega)]
    have v2 : M2 831 n = sI 2 := by rw [← hM2, mset_n (by omega), mset_s]; rfl
    have k0 : M2 836 n = sI 0 := by rw [f2 836 n (by omega), y3 836 n (by omega) (by omega) (by omega), mset_s]; rfl
    rw [m_b562 hn v2, m_see12 hn k0 (by omega) (by omega), mb2_s]
    generalize hM3 : mset (mset M2 837 (1200 * n + 0) (sI 0)) 836 n (sI (0 + 1)) = M3
    have f3 : ∀ a y, ¬ (a = 836 ∧ y = n) → ¬ (a = 837 ∧ y = 1200 * n) → M3 a y = M2 a y := fun a y u1 u2 => by rw [← hM3, mset_n u1, mset_n (by omega)]
    have v36 : M3 836 n = sI 1 := by rw [← hM3, mset_s]
    have v37 : M3 837 (1200 * n) = sI 0 := by rw [← hM3, mset_n (by omega)]; exact mset_s
    obtain ⟨E, hV⟩ := CaV_ex (s := z0) (K := 1) (by omega) (by omega) rfl (fun i u => by show 0 < 2; omega) (fun j u1 u2 => by omega)
    obtain ⟨⟨r2, M4, L4⟩, e4, w1, w2, w3, w4⟩ := m_read (fu := fu) (M := M3) (L := Lm) (s := z0) hfu hn v36 (fun i u => by rw [show i = 0 by omega, Nat.add_zero]; exact v37) rfl hV (fun j u1 u2 => by omega) (CA_fr hC1 (fun a y u => by rw [f3 a y (by omega) (by omega), f2 a y (by omega)]))
    dsimp only at w1 w2 w3 w4
    have rl : rLast z0 1 = 0 := rfl
    rw [rl] at w1
    rw [w1, w2] at e4
    rw [e4, mb3_s, if_neg (show ¬ rmI 0 = 10 by decide), if_neg (show ¬ rmI 0 = 11 by decide), if_pos (show rmI 0 = -1 from rfl)]
    obtain ⟨⟨A1, La⟩, ea, b1, b2, b3, b4⟩ := c_beginL (fu := fu) (A := A) (L := Lc) hn
    dsimp only at b1 b2 b3 b4
    rw [b1] at ea
    rw [ea]
    have g4 : ∀ a y, ¬ ((a = 831 ∨ a = 833 ∨ a = 836) ∧ y = n) → ¬ (a = 837 ∧ y = 1200 * n) → ¬ (a = 821 ∧ (y = 34 ∨ (41 ≤ y ∧ y ≤ 46) ∨ y = 48 ∨ y = 49)) → a ≠ 848 → a ≠ 851 → a ≠ 852 → a ≠ 853 → M4 a y = M a y := fun a y u1 u2 u3 u4 u5 u6 u7 => by
      rw [w3 a y (by omega) u4 u6 u7, f3 a y (by omega) u2, f2 a y (by omega), fM a y (by omega) (by omega) u4 u5]
    have hOc1 : ∃ o, OcR A1 (47 + 2 * n) o := oc_own hOc (fun y => b4 _ y (by omega) (by omega))
    refine st_own hn hG (Or.inr (Or.inr (Or.inl ⟨z0, 1, b2, ?_, Li_1 b3 hOc1 ?_ ?_, by omega, by rw [pg_1]; omega⟩))) (fun a y u1 u2 u3 u4 => b4 a y u3 (by omega)) (fun a y u1 u2 u3 u4 => g4 a y (by omega) (by omega) (by omega) (by omega) (by omega) (by omega) (by omega)) (WC_fr hW (fun a y u => g4 a y (by omega) (by omega) (by omega) (by omega) (by omega) (by omega) (by omega))) w4 hOc1
    · rw [w3 831 n (by omega) (by omega) (by omega) (by omega), f3 831 n (by omega) (by omega)]; exact v2
    · rw [w3 836 n (by omega) (by omega) (by omega) (by omega)]; exact v36
    · rw [w3 837 _ (by omega) (by omega) (by omega) (by omega)]; exact v37
theorem fb_0 (id : Nat) (oc : Nat → Nat) : fbF id oc 0 = 0 := rfl
theorem wR_0 (id : Nat) (oc : Nat → Nat) : wR (fbF id oc) 0 = 0 := by
  have wb := wN_b (f := fbF id oc) (fbF_lt _ _)
  unfold wR
  rw [if_pos (by omega)]
  have h1 : ¬ lyS (fbF id oc) 0 = 5 := by
    unfold lyS
    rw [fb_0]
    show ¬ (if 0 = 1 then 0 + 1 else 1) = 5
    simp
  have n1 := lyN_n h1
  have s := (ly_st (f := fbF id oc) 1 97 0 (by rw [n1]; show 0 < 0 + 1; omega)).1
  rw [show 1 + 97 = 98 by rfl] at s
  rw [s, (lyR_n h1).1]
  show nst z0 0 (fbF id oc 0) 0 = 0
  rw [nst_s, fb_0]
theorem st_X6 {fu N t F n lf b : Nat} {ow id : Nat → Nat} {oc : Nat → Nat → Nat} {dn ec tc : Nat → Nat} {A M : mwM} {Lc Lm : mwL} (hfu : 1300 ≤ fu) (hn : n < 7) (hb : b < 2) (hG : BuG A M N t F ow id oc dn ec tc) (hOc : ∃ o, OcR A (47 + 2 * n) o) (h25 : A 25 n = sI 6) (h831 : M 831 n = sI 6) (h26 : A 26 n = sI lf) (h832 : M 832 n = sI lf) (l1 : 1 ≤ lf) (l7 : lf ≤ 7) (pe : 8 * ec n ≤ t) (pt : 40 * tc n ≤ t) : StQ N t F ow id oc dn ec tc n A M Lc Lm (DX0_see fu (sI n) (sI b) (sI t) A Lc) (DX12_sees fu (sI n) (sI b) M Lm) := by
  have hG' := hG
  obtain ⟨_, _, hFC, hFM, hW, hC, _, _, h14, _⟩ := hG'
  rw [c_see6 hn h25, m_seesn hn h831 (by omega) (by omega), m_b56x hn h831 (by omega) (by omega), if_neg (show ¬ 6 = 4 by decide), if_neg (show ¬ 6 = 5 by decide), h832, sI_dec l1]
  unfold DX0_seePausing DX12_pauses fX0_seePausing_b37 fX0_seePausing_b69 fX0_seePausing_b101 fX12_pauses_b22 fX12_pauses_b90
  simp only [mlet, mb2_id]
  have waits := (h14 n hn).1
  rw [mck_s hn (by omega), mck_s hn (by omega), sI_nn (by omega), h26, sI_dec l1, mck_s hn (by omega), mset_s, mck_s (by omega) (by omega), mset_s]
  have g2 : BuG (mset A 26 n (sI (lf - 1))) (mset M 832 n (sI (lf - 1))) N t F ow id oc dn ec tc := BuG_fr hG (fun a y u => by simp (disch := omega) only [mset_n]) (fun a y u => by simp (disch := omega) only [mset_n]) (WC_fr hW (fun a y u => by simp (disch := omega) only [mset_n])) (CA_fr hC (fun a y u => by simp (disch := omega) only [mset_n]))
  by_cases c : b = 0
  · subst c
    rw [if_pos (show sI 0 = 0 from rfl), if_pos (show sI 0 = 0 from rfl), if_pos (show sI 0 = 0 from rfl), if_pos (show sI 0 = 0 from rfl), if_pos (show sI 0 = 0 from rfl)]
    by_cases d : lf = 1
    · subst d
      rw [if_pos (show sI (1 - 1) ≤ 0 by decide), if_pos (show sI (1 - 1) ≤ 0 by decide), mset_n (show ¬ (30 = 26 ∧ n = n) by omega), waits, mck_s (by omega) (by omega), mck_s (by omega) (by omega)]
      generalize hM1 : mset (mset M 832 n (sI (1 - 1))) 836 n 0 = M1
      have f1 : ∀ a y, ¬ ((a = 832 ∨ a = 836) ∧ y = n) → M1 a y = M a y := fun a y u => by rw [← hM1, mset_n (by omega), mset_n (by omega)]
      have k0 : M1 836 n = sI 0 := by rw [← hM1, mset_s]; rfl
      have se : DX12_see fu (sI n) 0 M1 Lm = some (mset (mset M1 837 (1200 * n + 0) (sI 0)) 836 n (sI (0 + 1)), Lm) := m_see12 (b := 0) hn k0 (by omega) (by omega)
      rw [se, mb2_s]
      generalize hM3 : mset (mset M1 837 (1200 * n + 0) (sI 0)) 836 n (sI (0 + 1)) = M3
      have f3 : ∀ a y, ¬ (a = 836 ∧ y = n) → ¬ (a = 837 ∧ y = 1200 * n) → M3 a y = M1 a y := fun a y u1 u2 => by rw [← hM3, mset_n u1, mset_n (by omega)]
      have v36 : M3 836 n = sI 1 := by rw [← hM3, mset_s]
      have v37 : M3 837 (1200 * n) = sI 0 := by rw [← hM3, mset_n (by omega)]; exact mset_s
      obtain ⟨⟨r, M4, L4⟩, e1, y1, y2, y3, y4⟩ := m_first (fu := fu) (M := M3) (L := Lm) (by omega) hn (FrM_fr hFM (fun a y u => by rw [f3 a y (by omega) (by omega), f1 a y (by omega)]))
      dsimp only at y1 y2 y3 y4
      rw [y1, y2] at e1
      rw [e1, mb3_s, mck_s (by omega) (by omega), mck_s (by omega) (by omega), mset_s]
      have hC4 : CA M4 := y4 (CA_fr hC (fun a y u => by rw [f3 a y (by omega) (by omega), f1 a y (by omega)]))
      have f4 : ∀ a y, ¬ ((a = 832 ∨ a = 836) ∧ y = n) → ¬ (a = 837 ∧ y = 1200 * n) → ¬ (a = 821 ∧ (y = 34 ∨ y = 48)) → a ≠ 848 → a ≠ 851 → M4 a y = M a y := fun a y u1 u2 u3 u4 u5 => by rw [y3 a y u3 u4 u5, f3 a y (by omega) u2, f1 a y (by omega)]
      have w36 : M4 836 n = sI 1 := by rw [y3 836 n (by omega) (by omega) (by omega)]; exact v36
      have w37 : M4 837 (1200 * n) = sI 0 := by rw [y3 837 _ (by omega) (by omega) (by omega)]; exact v37
      have le := (fsF_le (ow := ow) (id := id) (dn := dn) (oc := oc) (n := n) F)
      have hF := hFC.2.1
      have cle := cnt_le (fun f => decide (ow f = n ∧ dn f = 0)) F
      unfold fX12_pauses_b70 fX12_pauses_b90
      simp only [mlet]
      by_cases q : fsF ow id oc dn n F = 0
      · rw [(fs_cnt F).mp q, if_pos (show sI 0 ≤ 0 by decide), q, if_pos (show fI 0 = -1 from rfl), mck_s (by omega) (by omega), sI_nn (by omega)]
        obtain ⟨⟨A1, La⟩, ea, b1, b2, b3, b4⟩ := c_beginL (fu := fu) (A := mset A 26 n (sI (1 - 1))) (L := Lc) hn
        dsimp only at b1 b2 b3 b4
        rw [b1] at ea
        rw [ea]
        have hOc1 : ∃ o, OcR A1 (47 + 2 * n) o := oc_own hOc (fun y => by rw [b4 _ y (by omega) (by omega), mset_n (by omega)])
        refine st_own hn hG (Or.inr (Or.inr (Or.inl ⟨z0, 1, b2, by rw [mset_s]; rfl, Li_1 b3 hOc1 (by rw [mset_n (by omega), mset_n (by omega)]; exact w36) (by rw [mset_n (by omega), mset_n (by omega)]; exact w37), by omega, by rw [pg_1]; omega⟩))) (fun a y u1 u2 u3 u4 => by rw [b4 a y u3 (by omega), mset_n (by omega)]) (fun a y u1 u2 u3 u4 => by rw [mset_n (by omega), mset_n (by omega)]; exact f4 a y (by omega) (by omega) (by omega) (by omega) (by omega)) (WC_fr hW (fun a y u => by rw [mset_n (by omega), mset_n (by omega)]; exact f4 a y (by omega) (by omega) (by omega) (by omega) (by omega))) (CA_fr hC4 (fun a y u => by rw [mset_n (by omega), mset_n (by omega)])) hOc1
      · have cn : cnt (fun f => decide (ow f = n ∧ dn f = 0)) F ≠ 0 := fun z => q ((fs_cnt F).mpr z)
        obtain ⟨⟨A1, La⟩, ea, b1, b2, b3, b4, b5, b6⟩ := c_beginSending (fu := fu) (A := mset A 26 n (sI (1 - 1))) (L := Lc) (by omega) hn (FrC_fr hFC (fun a y u => by simp (disch := omega) only [mset_n])) q
        dsimp only at b1 b2 b3 b4 b5 b6
        rw [b1] at ea
        have ef : fI (fsF ow id oc dn n F) = sI (fsF ow id oc dn n F - 1) := if_neg q
        have em : ¬ sI (fsF ow id oc dn n F - 1) = -1 := fun z => sI_m1n (by omega) z.symm
        rw [if_neg (show ¬ sI (cnt (fun f => decide (ow f = n ∧ dn f = 0)) F) ≤ 0 by rw [sI_lel (by omega) (by decide)]; omega), ea, mb2_s, mck_s hn (by omega), ef, if_neg em, mck_s (by omega) (by omega), sI_nn (by omega)]
        have own := le.2 q
        generalize hg : fsF ow id oc dn n F - 1 = g at *
        have wb := wN_b (f := fbF (id g) (oc g)) (fbF_lt _ _)
        have hOc1 : ∃ o, OcR (mset A1 28 n 1) (47 + 2 * n) o := oc_own hOc (fun y => by rw [mset_n (by omega), b6 _ y (by omega) (by omega), mset_n (by omega)])
        refine st_own hn hG (Or.inr (Or.inl ⟨g, 1, by omega, own.1, own.2, by rw [mset_n (by omega)]; exact b2, by rw [mset_s]; rfl, by rw [mset_n (by omega)]; exact b3, by rw [mset_n (by omega), mset_s], by rw [mset_s]; rfl, by rw [mset_n (by omega), mset_n (by omega)]; exact w36, by omega, by omega, WvR_fr b5 (fun a y u => mset_n (by omega)), fun i u1 u2 => ?_, by omega, by omega⟩)) (fun a y u1 u2 u3 u4 => by rw [mset_n (by omega), b6 a y u2 (by omega), mset_n (by omega)]) (fun a y u1 u2 u3 u4 => by rw [mset_n (by omega), mset_n (by omega)]; exact f4 a y (by omega) (by omega) (by omega) (by omega) (by omega)) (WC_fr hW (fun a y u => by rw [mset_n (by omega), mset_n (by omega)]; exact f4 a y (by omega) (by omega) (by omega) (by omega) (by omega))) (CA_fr hC4 (fun a y u => by rw [mset_n (by omega), mset_n (by omega)])) hOc1
        have : i = 0 := by omega
        rw [this, Nat.add_zero, mset_n (by omega), mset_n (by omega), wR_0]
        exact w37
    · have nz : ¬ sI (lf - 1) ≤ 0 := by rw [sI_lel (by omega) (by decide)]; omega
      rw [if_neg nz, if_neg nz]
      have flt : StQ N t F ow id oc dn ec tc n A M Lc Lm (DX0_tellFault fu (sI n) (sI 5) (sI t) (mset A 26 n (sI (lf - 1))) Lc) (DX12_wrong fu (sI n) (sI 5) (mset M 832 n (sI (lf - 1))) Lm) := st_fault (k := 5) hn (by omega) g2 (fun a y u => by simp (disch := omega) only [mset_n]) (fun a y u => by simp (disch := omega) only [mset_n]) pe (by omega) (by simp (disch := omega) only [mset_n]) (fun a y u => by simp (disch := omega) only [mset_n]) (oc_own hOc (fun y => by simp (disch := omega) only [mset_n]))
      rw [mck_s (by omega) (by omega)]
      exact flt
  · have e : ¬ sI b = 0 := by rw [sI_eql (by omega) (by decide)]; exact c
    rw [if_neg e, if_neg e, if_neg e, if_neg e, if_neg e]
    simp (disch := omega) only [mck_s]
    by_cases d : lf = 1
    · subst d
      rw [if_pos (show sI (1 - 1) = 0 from rfl), if_pos (show sI (1 - 1) = 0 from rfl)]
      refine st_own hn hG (Or.inl ⟨by rw [mset_s]; rfl, by rw [mset_s]; rfl, by omega, by omega⟩) (fun a y u1 u2 u3 u4 => by simp (disch := omega) only [mset_n]) (fun a y u1 u2 u3 u4 => by simp (disch := omega) only [mset_n]) (WC_fr hW (fun a y u => by simp (disch := omega) only [mset_n])) (CA_fr hC (fun a y u => by simp (disch := omega) only [mset_n])) (oc_own hOc (fun y => by simp (disch := omega) only [mset_n]))
    · have nz : ¬ sI (lf - 1) = 0 := by rw [sI_eql (by omega) (by decide)]; omega
      rw [if_neg nz, if_neg nz]
      refine st_own hn hG (Or.inr (Or.inr (Or.inr ⟨6, lf - 1, by omega, by omega, by rw [mset_n (by omega)]; exact h25, by rw [mset_n (by omega)]; exact h831, fun _ => ⟨mset_s, mset_s, by omega, by omega⟩, fun z => by omega, fun z => by omega, fun _ => by omega, by omega⟩))) (fun a y u1 u2 u3 u4 => by simp (disch := omega) only [mset_n]) (fun a y u1 u2 u3 u4 => by simp (disch := omega) only [mset_n]) (WC_fr hW (fun a y u => by simp (disch := omega) only [mset_n])) (CA_fr hC (fun a y u => by simp (disch := omega) only [mset_n])) (oc_own hOc (fun y => by simp (disch := omega) only [mset_n]))
