/-! all packs, one behind the other -/
def JE (A M : mwM) (S : Nat) (bt pe co ky : Nat → Nat) (tu : Nat → Bool) (p : Nat) : Prop := ∃ F fs os ls ns ow ev lo fi, JR A M S bt pe co ky tu p F fs os ls ns ow ev lo fi
abbrev fnA (A A' : mwM) : Prop := ∀ a y, a ≠ 71 → a ≠ 72 → ¬ (92 ≤ a ∧ a ≤ 94) → ¬ (a = 61 ∧ (y = 11 ∨ y = 13)) → ¬ (74 ≤ a ∧ a ≤ 77 ∨ a = 79 ∨ 86 ≤ a ∧ a ≤ 91) → A' a y = A a y
abbrev fnM (M M' : mwM) : Prop := ∀ a y, (a < 941 ∨ 23 ≤ (a - 941) % 53 ∨ 1577 ≤ a) → ¬ (766 ≤ a ∧ a ≤ 768) → ¬ (a = 732 ∧ (y = 67 ∨ y = 11 ∨ y = 12)) → ¬ (779 ≤ a ∧ a ≤ 783 ∨ a = 785) → M' a y = M a y
theorem fnM_t {M M' M'' : mwM} (h : fnM M M') (h' : fnM M' M'') : fnM M M'' := fun a y w1 w2 w3 w4 => by rw [h' a y w1 w2 w3 w4]; exact h a y w1 w2 w3 w4
theorem fnA_t {A A' A'' : mwM} (h : fnA A A') (h' : fnA A' A'') : fnA A A'' := fun a y w1 w2 w3 w4 w5 => by rw [h' a y w1 w2 w3 w4 w5]; exact h a y w1 w2 w3 w4 w5
theorem lk_one {fu S c p K : Nat} {lk : Bool} {A M : mwM} {L L2 : mwL} {bt pe co ky ka kp kn : Nat → Nat} {tu : Nat → Bool} (hfu : 90000 ≤ fu) (hc : c < 6) (hp : p = 2 * c + (if lk = true then 1 else 0)) (hSC : SgC A S bt pe co ky) (hS : SgM M S bt pe co tu) (hK : KyM M K ka kp kn) (hky : ∀ s, s < S → ky s = kyf ka kp kn (co s) (pe s) K 0) (hfit : ∀ s, s < S → isO co ky c lk s = true → ocs bt s ≤ (if lk = true then 3 else 8)) (hJ : JE A M S bt pe co ky tu p) : ∃ A' M', DX6_packOf fu (sI c) (bI lk) A L = some (A', L) ∧ DX19_packOne fu (sI c) (bI lk) (sI p) M L2 = some (1, M', L2) ∧ JE A' M' S bt pe co ky tu (p + 1) ∧ fnA A A' ∧ fnM M M' := by
  obtain ⟨F, fs, os, ls, ns, ow, ev, lo, fi, hR⟩ := hJ
  have p12 : p < 12 := by rw [hp]; split <;> omega
  have hS40 := hS.2.1
  have hcn : cnt (isO co ky c lk) S ≤ cnt (fun s => decide (p ≤ pkn (co s) (ky s))) S := by
    have h := cnt_or (a := fun s => decide (p ≤ pkn (co s) (ky s))) (b := isO co ky c lk) (c := fun s => decide (p + 1 ≤ pkn (co s) (ky s))) (n := S) (fun s hs => by
      rw [isO_pk, ← hp]
      by_cases e1 : pkn (co s) (ky s) = p
      · rw [decide_eq_true e1, decide_eq_true (by omega), decide_eq_false (by omega)]
        exact ⟨rfl, rfl⟩
      · rw [decide_eq_false e1]
        by_cases e2 : p + 1 ≤ pkn (co s) (ky s)
        · rw [decide_eq_true e2, decide_eq_true (by omega)]
          exact ⟨rfl, rfl⟩
        · rw [decide_eq_false e2, decide_eq_false (by omega)]
          exact ⟨rfl, rfl⟩)
    omega
  obtain ⟨A', M', fr, oc, G, e1, e2, e3⟩ := lk_one0 (fu := fu) (k := 941 + 53 * p) (L := L) (L2 := L2) hfu hc p12 rfl rfl hSC hS hK hky (hR.2.2.2.2.2.2.2 p p12) hfit hR.1 hR.2.1 (by have := hR.2.2.1; omega)
  obtain ⟨fs', os', ls', ns', ow', ev', lo', fi', hR'⟩ := lk_JR hc hp hSC hR e3
  refine ⟨A', M', e1, e2, ⟨F + G, fs', os', ls', ns', ow', ev', lo', fi', hR'⟩, fun a y w1 w2 w3 w4 w5 => ?_, fun a y w1 w2 w3 w4 => ?_⟩
  · exact e3.1.2.2.2 a y w1 w2 w3 w4 (by omega)
  · obtain ⟨_, _, _, _, _, _, _, _, _, _, q11⟩ := e3
    exact q11 a y (by omega) w2 (by omega) (by omega)
/-- a signal that no frame holds -/
abbrev TLg (bt ky : Nat → Nat) (s : Nat) : Prop := ky s ≠ 0 ∧ 3 < ocs bt s
theorem fj_e {c : Nat} (h : c < 6) : sI (2 * c) / 2 = sI c ∧ ¬ (sI (2 * c) - sI (2 * c) / 2 * 2 = 1) ∧ sI (2 * c + 1) / 2 = sI c ∧ sI (2 * c + 1) - sI (2 * c + 1) / 2 * 2 = 1 := by
  have : ∀ c, c < 6 → sI (2 * c) / 2 = sI c ∧ ¬ (sI (2 * c) - sI (2 * c) / 2 * 2 = 1) ∧ sI (2 * c + 1) / 2 = sI c ∧ sI (2 * c + 1) - sI (2 * c + 1) / 2 * 2 = 1 := by decide
  exact this c h
/-- what comes of the joining -/
def JQ (fu : Nat) (C : Nat) (A M : mwM) (L L2 : mwL) (S : Nat) (bt pe co ky : Nat → Nat) (tu : Nat → Bool) (X : Option (mwM × mwL)) (Y : Option (Int32 × mwM × mwL)) : Prop :=
  ((∀ s, s < S → ¬ TLg bt ky s) ∧ ∃ A' M', X = mb2 (DX6_findPositions fu A' L) (fun M14 L15 => mb2 (DX6_findSoonest fu M14 L15) (fun M16 L17 => some (M16, L17))) ∧ Y = fX19_join_h45 fu fu (0, M', L2) ∧ JE A' M' S bt pe co ky tu (2 * C) ∧ fnA A A' ∧ fnM M M') ∨ (∃ t M', t < S ∧ TLg bt ky t ∧ (∀ u, u < S → TLg bt ky u → co t < co u ∨ (co t = co u ∧ t ≤ u)) ∧ Y = some (0, M', L2) ∧ M' 732 11 = 8 ∧ M' 732 12 = M 760 t ∧ fnM M M' ∧ ∀ q, q < 12 → ∀ y, y ≤ 40 → M' (941 + 53 * q + 8) y = 0)
theorem lk_join {fu S C K : Nat} {L L2 : mwL} {bt pe co ky ka kp kn : Nat → Nat} {tu : Nat → Bool} (hfu : 90000 ≤ fu) (hC : C ≤ 6) (hky : ∀ s, s < S → ky s = kyf ka kp kn (co s) (pe s) K 0) (hco : ∀ s, s < S → co s < C) : ∀ (r c q q' : Nat) (A M : mwM), c + r = C → r < q → 2 * r < q' → SgC A S bt pe co ky → SgM M S bt pe co tu → KyM M K ka kp kn → M 732 19 = sI C → JE A M S bt pe co ky tu (2 * c) → (∀ s, s < S → co s < c → ¬ TLg bt ky s) → JQ fu C A M L L2 S bt pe co ky tu (fX6_pack_h47 fu (sI C) q (sI c, A, L)) (fX19_join_h2 fu q' (sI (2 * c), M, L2)) := by
  intro r
  induction r with
  | zero =>
    intro c q q' A M hc hq hq' hSC hS hK h19 hJ hno
    obtain ⟨w, rfl⟩ : ∃ y, q = y + 1 := ⟨q - 1, by omega⟩
    obtain ⟨w', rfl⟩ : ∃ y, q' = y + 1 := ⟨q' - 1, by omega⟩
    have ec : c = C := by omega
    subst ec
    refine Or.inl ⟨fun s hs => hno s hs (hco s hs), A, M, ?_, ?_, hJ, fun _ _ _ _ _ _ _ => rfl, fun _ _ _ _ _ _ => rfl⟩
    · show fX6_pack_i47 fu (sI c) (fX6_pack_h47 fu (sI c) w) (sI c) A L = _
      unfold fX6_pack_i47
      rw [if_pos (by rw [sI_le (by omega) (by omega)]; omega)]
    · show fX19_join_i2 fu (fX19_join_h2 fu w') (sI (2 * c)) M L2 = _
      unfold fX19_join_i2
      rw [h19, sI_lml, if_pos (by rw [sI_le (by omega) (by omega)]; omega)]
  | succ r ih =>
    intro c q q' A M hc hq hq' hSC hS hK h19 hJ hno
    obtain ⟨w, rfl⟩ : ∃ y, q = y + 1 := ⟨q - 1, by omega⟩
    obtain ⟨w', rfl⟩ : ∃ y, q' = y + 1 + 1 := ⟨q' - 2, by omega⟩
    have hS40 := hS.2.1
    obtain ⟨j1, j2, j3, j4⟩ := fj_e (show c < 6 by omega)
    have unC : fX6_pack_h47 fu (sI C) (w + 1) (sI c, A, L) = fX6_pack_i47 fu (sI C) (fX6_pack_h47 fu (sI C) w) (sI c) A L := rfl
    have unM : fX19_join_h2 fu (w' + 1 + 1) (sI (2 * c), M, L2) = fX19_join_i2 fu (fX19_join_h2 fu (w' + 1)) (sI (2 * c)) M L2 := rfl
    rw [unC, unM]
    unfold fX6_pack_i47 fX19_join_i2 fX19_join_b28
    rw [if_neg (by rw [sI_le (by omega) (by omega)]; omega), h19, sI_lml, if_neg (by rw [sI_le (by omega) (by omega)]; omega), if_neg j2, j1]
    -- without key
    obtain ⟨A1, M1, e1, e2, e3, e4, e5⟩ := lk_one (fu := fu) (c := c) (p := 2 * c) (lk := false) (L := L) (L2 := L2) hfu (by omega) (by rw [if_neg (by decide)]; rfl) hSC hS hK hky (fun s hs _ => by
      have := (hS.2.2 s hs).2.2.1
      rw [if_neg (by decide)]
      show (bt s + 7) / 8 ≤ 8
      omega) hJ
    have e1' : DX6_packOf fu (sI c) 0 A L = some (A1, L) := e1
    have e2' : DX19_packOne fu (sI c) 0 (sI (2 * c)) M L2 = some (1, M1, L2) := e2
    rw [e1', mb2_s, e2', mb3_s, if_neg (show ¬ (1 : Int32) = 0 by decide)]
    simp only [mlet]
    rw [sI_1 (a := 2 * c), sI_1 (a := c)]
    have hSC1 : SgC A1 S bt pe co ky := SgC_f hSC (fun a y u => e4 a y (by omega) (by omega) (by omega) (by omega) (by omega))
    have hS1 : SgM M1 S bt pe co tu := SgM_f hS (fun a y u => e5 a y (by omega) (by omega) (by omega) (by omega))
    have hK1 : KyM M1 K ka kp kn := KyM_f hK (fun a y u => e5 a y (by omega) (by omega) (by omega) (by omega))
    have h191 : M1 732 19 = sI C := by rw [e5 _ _ (by omega) (by omega) (by omega) (by omega)]; exact h19
    have unM1 : fX19_join_h2 fu (w' + 1) (sI (2 * c + 1), M1, L2) = fX19_join_i2 fu (fX19_join_h2 fu w') (sI (2 * c + 1)) M1 L2 := rfl
    rw [unM1]
    unfold fX19_join_i2 fX19_join_b28
    rw [h191, sI_lml, if_neg (by rw [sI_le (by omega) (by omega)]; omega), if_pos j4, j3]
    -- with key
    obtain ⟨F, fs, os, ls, ns, ow, ev, lo, fi, hR1⟩ := id e3
    have h8 := hR1.2.2.2.2.2.2.2
    have isT : ∀ s, isO co ky c true s = true ↔ co s = c ∧ ky s ≠ 0 := fun s => by
      unfold isO
      rw [Bool.and_eq_true]
      constructor
      · rintro ⟨u1, u2⟩
        refine ⟨of_decide_eq_true u1, fun z => ?_⟩
        rw [show decide (ky s ≠ 0) = false from decide_eq_false (fun u => u z)] at u2
        exact absurd u2 (by decide)
      · rintro ⟨u1, u2⟩
        rw [show decide (ky s ≠ 0) = true from decide_eq_true u2]
        exact ⟨decide_eq_true u1, by decide⟩
    have hpo := m_pO1 (fu := fu) (c := c) (p := 2 * c + 1) (lk := true) (L := L2) (by omega) (by omega) (by omega) rfl rfl hS1 hK1 hky (h8 (2 * c + 1) (by omega))
    have bt1 : (bI true : Int32) = 1 := rfl
    rcases hpo with ⟨B, hB, hle, hX⟩ | ⟨t, B, t1, t2, t3, t4, t5, t6, t7, t8, t9⟩
    · obtain ⟨A2, M2, g1, g2, g3, g4, g5⟩ := lk_one (fu := fu) (c := c) (p := 2 * c + 1) (lk := true) (L := L) (L2 := L2) hfu (by omega) (by rw [if_pos rfl]) hSC1 hS1 hK1 hky hle e3
      have g1' : DX6_packOf fu (sI c) 1 A1 L = some (A2, L) := g1
      have g2' : DX19_packOne fu (sI c) 1 (sI (2 * c + 1)) M1 L2 = some (1, M2, L2) := g2
      rw [g1', mb2_s, g2', mb3_s, if_neg (show ¬ (1 : Int32) = 0 by decide)]
      simp only [mlet]
      rw [sI_1 (a := 2 * c + 1)]
      have hSC2 : SgC A2 S bt pe co ky := SgC_f hSC1 (fun a y u => g4 a y (by omega) (by omega) (by omega) (by omega) (by omega))
      have hS2 : SgM M2 S bt pe co tu := SgM_f hS1 (fun a y u => g5 a y (by omega) (by omega) (by omega) (by omega))
      have hK2 : KyM M2 K ka kp kn := KyM_f hK1 (fun a y u => g5 a y (by omega) (by omega) (by omega) (by omega))
      have nx := ih (c + 1) w w' A2 M2 (by omega) (by omega) (by omega) hSC2 hS2 hK2 (by rw [g5 _ _ (by omega) (by omega) (by omega) (by omega)]; exact h191) g3 (fun s hs u => by
        by_cases e : co s = c
        · rintro ⟨v1, v2⟩
          have := hle s hs ((isT s).mpr ⟨e, v1⟩)
          rw [if_pos rfl] at this
          omega
        · exact hno s hs (by omega))
      have e760 : ∀ t, M2 760 t = M 760 t := fun t => by rw [g5 _ _ (by omega) (by omega) (by omega) (by omega), e5 _ _ (by omega) (by omega) (by omega) (by omega)]
      rcases nx with ⟨n1, A3, M3, n2, n3, n4, n5, n6⟩ | ⟨t, M3, n1, n2, n3, n4, n5, n6, n7, n8⟩
      · exact Or.inl ⟨n1, A3, M3, n2, n3, n4, fnA_t (fnA_t e4 g4) n5, fnM_t (fnM_t e5 g5) n6⟩
      · exact Or.inr ⟨t, M3, n1, n2, n3, n4, n5, by rw [n6]; exact e760 t, fnM_t (fnM_t e5 g5) n7, n8⟩
    · rw [bt1] at t5
      rw [t5, mb3_s, if_pos (show (0 : Int32) = 0 from rfl)]
      rw [if_pos rfl] at t3
      obtain ⟨v1, v2⟩ := (isT t).mp t2
      refine Or.inr ⟨t, B, t1, ⟨v2, t3⟩, fun u u1 u2 => ?_, rfl, t6, ?_, fnM_t e5 (fun a y u1 u2 u3 u4 => t8 a y (by omega) (by omega) (by omega)), fun q hq y hy => ?_⟩
      · by_cases z1 : co u < c
        · exact absurd u2 (hno u u1 z1)
        · by_cases z2 : co u = c
          · refine Or.inr ⟨by omega, ?_⟩
            apply Nat.le_of_not_lt
            intro z3
            have := t4 u z3 ((isT u).mpr ⟨z2, u2.1⟩)
            rw [if_pos rfl] at this
            have := u2.2
            omega
          · exact Or.inl (by omega)
      · rw [t7, e5 _ _ (by omega) (by omega) (by omega) (by omega)]
      · by_cases e : q = 2 * c + 1
        · rw [e, t9]; exact h8 _ (by omega) y hy
        · rw [t8 _ _ (by omega) (by omega) (by omega)]
          exact h8 q hq y hy
