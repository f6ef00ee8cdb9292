/-! a frame of the transfer goes on the bus: both sides -/
theorem st_putf {fu f C t : Nat} {τ : Nat} {p : PB} {o : Nat → Nat → Nat} {e ec tc fl : Nat → Nat} {A M : mwM} {Lc Lm : mwL} (r23 : (Int32 × mwM × mwL) → Option (mwM × mwL)) (hfu : 300 ≤ fu) (hv : TfV p.1 p.2) (hC : TfC A p.1 p.2 o) (hM : TfM M Lm τ p.1 p.2 o e) (hN : TfN M (mset p.1 0 2 f) p.2 e) (hf : f < p.1 0 1) (hg : p.2 1 f = false) (hB : BusE A M (C + 1) t ec tc fl) (h13 : A 3 13 = sI C) (h19 : M 732 19 = sI C) (hC6 : C ≤ 6) (hC1 : ∀ m, 1 ≤ m → m ≤ p.1 0 0 → p.1 1 m < C) (h0 : A 292 0 = M 939 0) : ∃ (A' M' : mwM) (b' : Nat → Nat → Bool), DX1_putOnBus fu (sI f) A Lc = some (A', Lc) ∧ fX19_transferred_i23 fu r23 (sI (p.1 0 1)) M Lm = r23 (sI (p.1 0 1), M', Lm) ∧ TfV p.1 b' ∧ TfC A' p.1 b' o ∧ TfM M' Lm τ p.1 b' o e ∧ TfN M' (mset p.1 0 2 (f + 1)) b' e ∧ (b' = p.2 ∨ b' = mset p.2 1 f true) ∧ BusE A' M' (C + 1) t ec tc fl ∧ A' 292 0 = M' 939 0 ∧ (∀ a y, ¬ (20 ≤ a ∧ a ≤ 60) → ¬ (273 ≤ a ∧ a ≤ 274) → ¬ (a = 292 ∧ y = 0) → A' a y = A a y) ∧ ∀ a y, ¬ (a = 732 ∧ (y = 91 ∨ y = 94)) → ¬ (821 ≤ a ∧ a ≤ 853) → a ≠ 869 → a ≠ 898 → a ≠ 926 → ¬ (929 ≤ a ∧ a ≤ 930) → ¬ (a = 939 ∧ y = 0) → M' a y = M a y := by
  have hF := Tf_F hv
  have hK := hv.1.1
  obtain ⟨n1, n2, n3, n4, n5, n6, n7, n8⟩ := id hN
  rw [mset_s] at n5
  obtain ⟨g1, g2, g3, _⟩ := hv.2.2.2 f hf
  have hc := hC1 _ g2 g3
  have hm2 : ∀ j, j < p.1 2 (p.1 11 f) → o (p.1 11 f) j < 256 := fun j hj => by
    obtain ⟨q2, _⟩ := hM.2.2.1 _ g2 g3
    exact (q2 j hj).2
  obtain ⟨m927, m928⟩ := n2 (p.1 11 f) g2 (by rw [mset_n (by omega)]; exact g3)
  rw [mset_n (by omega)] at m927
  have hol : (obL (mset p.1 0 2 f) p.2).length ≤ 1600 := by
    have := ob_len (n := mset p.1 0 2 f) (b := p.2)
    rw [mset_s] at this
    omega
  -- the class writes
  obtain ⟨⟨A1, L1⟩, w1, w2, w3, w4⟩ := c_writeOctets (fu := fu) (L := Lc) (by omega) hv hC hf
  dsimp only at w2 w3 w4
  subst w2
  -- the reference writes
  generalize hP0 : mset M 732 94 (sI (f + 1)) = P0
  have tP0 : ∀ a y, ¬ (a = 732 ∧ y = 94) → P0 a y = M a y := fun a y u => by rw [← hP0, mset_n u]
  have p94 : P0 732 94 = sI (f + 1) := by rw [← hP0, mset_s]
  have M0 : TfM P0 Lm τ p.1 p.2 o e := TfM_fr hM (fun a y u1 u2 u3 u4 => tP0 a y (by omega)) (fun _ _ _ _ => rfl)
  generalize hP1 : mset P0 869 0 0 = P1
  have tP1 : ∀ a y, ¬ (a = 869 ∧ y = 0) → P1 a y = P0 a y := fun a y u => by rw [← hP1, mset_n u]
  have M1 : TfM P1 Lm τ p.1 p.2 o e := TfM_fr M0 (fun a y u1 u2 u3 u4 => tP1 a y (by omega)) (fun _ _ _ _ => rfl)
  have p1i : mset P1 869 0 0 = P1 := by rw [← hP1, mset_ii]
  have p94' : P1 732 94 = sI (f + 1) := by rw [tP1 _ _ (by omega)]; exact p94
  have f0 := m_frameA (fu := fu) (w := 0) hv M0 hf (by omega) (by omega)
  have f1 := m_frameA (fu := fu) (w := 1) hv M1 hf (by omega) (by omega)
  have f2 := m_frameA (fu := fu) (w := 2) hv M1 hf (by omega) (by omega)
  rw [if_pos rfl, hP1] at f0
  rw [if_neg (by omega), if_pos rfl, p1i] at f1
  rw [if_neg (by omega), if_neg (by omega), if_pos rfl, p1i] at f2
  have f0' : DX17_frame fu (sI (f + 1)) 0 P0 Lm = some (sI (p.1 10 f), P1, Lm) := f0
  have f1' : DX17_frame fu (sI (f + 1)) 1 P1 Lm = some (sI (p.1 11 f), P1, Lm) := f1
  have f2' : DX17_frame fu (sI (f + 1)) 2 P1 Lm = some (sI (nuO p.1 f), P1, Lm) := f2
  have hnu : nuO p.1 f < 2000000000 := by
    unfold nuO
    split
    · have := (hv.2.1 _ g2 g3).2.2.1; omega
    · obtain ⟨_, _, _, _, _, _, z1, z2, _⟩ := hv.2.2.2 f hf
      by_cases c : p.1 10 f = 2
      · have := z1 c; have := (hv.2.1 _ g2 g3).2.2.1; omega
      · have := z2 c; omega
  have e0 : (0 : Int32).toNatClampNeg = 0 := rfl
  have oct0 : sI (p.1 10 f) * 16 + (sI (nuO p.1 f) - sI (nuO p.1 f) / 16 * 16) = sI (wrO p.1 o f 0) := by
    have e1 : sI (p.1 10 f) * 16 = sI (p.1 10 f * 16) := sI_mul (b := 16)
    have e2 : sI (nuO p.1 f) - sI (nuO p.1 f) / 16 * 16 = sI (nuO p.1 f % 16) := sI_mod (b := 16) hnu (by omega)
    rw [e1, e2, sI_add, Nat.mul_comm]
    rfl
  generalize hP2 : mset P1 926 0 (sI (wrO p.1 o f 0)) = P2
  have tP2 : ∀ a y, ¬ (a = 926 ∧ y = 0) → P2 a y = P1 a y := fun a y u => by rw [← hP2, mset_n u]
  have M2 : TfM P2 Lm τ p.1 p.2 o e := TfM_fr M1 (fun a y u1 u2 u3 u4 => tP2 a y (by omega)) (fun _ _ _ _ => rfl)
  obtain ⟨P3, x1, x2, x3⟩ := m_oct97 (fu := fu) (h := 0) (C := 0) (v2 := sI (p.1 0 1)) (L := Lm) r23 (by omega) hv M2 hf (by rw [tP2 _ _ (by omega)]; exact p94') (by rw [← hP2, mset_s])
  have M3 : TfM P3 Lm τ p.1 p.2 o e := TfM_fr M2 (fun a y u1 u2 u3 u4 => x3 a y (by omega) (by omega)) (fun _ _ _ _ => rfl)
  have tP3 : ∀ a y, ¬ (a = 732 ∧ y = 94) → ¬ (a = 869 ∧ y = 0) → a ≠ 926 → P3 a y = M a y := fun a y u1 u2 u3 => by rw [x3 a y u3 u2, tP2 a y (by omega), tP1 a y u2, tP0 a y u1]
  have q94 : P3 732 94 = sI (f + 1) := by rw [x3 _ _ (by omega) (by omega), tP2 _ _ (by omega)]; exact p94'
  have eR1 : fX19_transferred_i23 fu r23 (sI (p.1 0 1)) M Lm = fX19_transferred_i97 fu r23 (fun _ => none) (sI (p.1 0 1)) (sI (p.1 10 f)) (sI (p.1 11 f)) 8 P3 Lm := by
    unfold fX19_transferred_i23
    rw [n5, if_neg (show ¬ sI (p.1 0 1) ≤ sI f by rw [sI_le (by omega) (by omega)]; omega), mlet_e, sI_1, hP0, p94, f0', mb3_s, p94', f1', mb3_s, p94', f2', mb3_s, mlet_e, e0, oct0, hP2]
    exact x1
  -- who sends, to whom
  have hid : idO p.1 p.2 f = 1536 + 2 * p.1 1 (p.1 11 f) + (if toT p.1 p.2 f = true then 1 else 0) := rfl
  have eR2 : fX19_transferred_i97 fu r23 (fun _ => none) (sI (p.1 0 1)) (sI (p.1 10 f)) (sI (p.1 11 f)) 8 P3 Lm = mb3 (DX19_put fu (sI (if toT p.1 p.2 f = true then p.1 1 (p.1 11 f) else C)) (sI (idO p.1 p.2 f)) (sI (f + 1)) P3 Lm) (fun r42 M40 L41 => (if r42 = 0 then mb3 (DX17_lose fu (M40 732 94) M40 L41) (fun r46 M44 L45 => r23 (sI (p.1 0 1), M44, L45)) else r23 (sI (p.1 0 1), M40, L41))) := by
    have q928 : P3 928 (p.1 11 f) = bI (p.2 0 (p.1 11 f)) := by rw [tP3 _ _ (by omega) (by omega) (by omega)]; exact m928
    have q927 : P3 927 (p.1 11 f) = sI (p.1 1 (p.1 11 f)) := by rw [tP3 _ _ (by omega) (by omega) (by omega)]; exact m927
    have q19 : P3 732 19 = sI C := by rw [tP3 _ _ (by omega) (by omega) (by omega)]; exact h19
    have b214 : ∀ s : Bool, s = !toT p.1 p.2 f → fX19_transferred_b214 fu r23 (sI (p.1 0 1)) (sI (p.1 11 f)) (bI s) P3 Lm = mb3 (DX19_put fu (sI (if toT p.1 p.2 f = true then p.1 1 (p.1 11 f) else C)) (sI (idO p.1 p.2 f)) (sI (f + 1)) P3 Lm) (fun r42 M40 L41 => (if r42 = 0 then mb3 (DX17_lose fu (M40 732 94) M40 L41) (fun r46 M44 L45 => r23 (sI (p.1 0 1), M44, L45)) else r23 (sI (p.1 0 1), M40, L41))) := by
      intro s hs
      unfold fX19_transferred_b214 fX19_transferred_b235 fX19_transferred_b263 fX19_transferred_b287
      rw [mck_s (show p.1 11 f < 101 by omega) (by omega), mck_s (show p.1 11 f < 101 by omega) (by omega), sI_nn (show p.1 11 f < 2000000000 by omega), q927, q19, q94, sI_lml, sI_lad, hid]
      cases htt : toT p.1 p.2 f with
      | true =>
        rw [htt] at hs
        rw [hs]
        rw [show bI (!true) = 0 from rfl, if_pos (show (0 : Int32) = 0 from rfl), if_pos (show (0 : Int32) = 0 from rfl), if_pos (show true = true from rfl), if_pos (show true = true from rfl), sI_1]
      | false =>
        rw [htt] at hs
        rw [hs]
        rw [show bI (!false) = 1 from rfl, if_neg (show ¬ (1 : Int32) = 0 by decide), if_neg (show ¬ (1 : Int32) = 0 by decide), if_neg (show ¬ false = true by decide), if_neg (show ¬ false = true by decide), show (0 : Int32) = sI 0 from rfl, sI_add, mck_s (show p.1 11 f < 101 by omega) (by omega)]
    unfold fX19_transferred_i97
    rw [if_pos (show (8 : Int32) ≤ 8 by decide), mck_s (show p.1 11 f < 101 by omega) (by omega), mck_s (show p.1 11 f < 101 by omega) (by omega), sI_nn (show p.1 11 f < 2000000000 by omega), q928]
    by_cases k3 : p.1 10 f = 3
    · rw [if_pos (show sI (p.1 10 f) = 3 by rw [k3]; rfl)]
      have et : toT p.1 p.2 f = p.2 0 (p.1 11 f) := by
        unfold toT
        rw [decide_eq_true k3]
        cases p.2 0 (p.1 11 f) <;> rfl
      cases hb0 : p.2 0 (p.1 11 f) with
      | false =>
        rw [bI_f, if_pos (show (0 : Int32) = 0 from rfl)]
        exact b214 true (by rw [et, hb0]; rfl)
      | true =>
        rw [bI_t, if_neg (show ¬ (1 : Int32) = 0 by decide)]
        exact b214 false (by rw [et, hb0]; rfl)
    · rw [if_neg (show ¬ sI (p.1 10 f) = 3 by rw [show (3 : Int32) = sI 3 from rfl, sI_eq (by omega) (by omega)]; exact k3)]
      refine b214 _ ?_
      unfold toT
      rw [decide_eq_false k3]
      cases p.2 0 (p.1 11 f) <;> rfl
  have eC : DX1_putOnBus fu (sI f) A L1 = mb3 (DX0_send fu (sI (if toT p.1 p.2 f = true then p.1 1 (p.1 11 f) else C)) (sI (idO p.1 p.2 f)) 274 8 A1 L1) (fun r11 M9 L10 => (if r11 = 0 then mlet (mset M9 292 0 ((M9 292 0) + 1)) (fun M15 => mb2 (DX9_lose fu (sI f) M15 L10) (fun M16 L17 => some (M16, L17))) else some (M9, L10))) := by
    have a13 : A1 3 13 = sI C := by rw [w4 _ _ (by omega)]; exact h13
    unfold DX1_putOnBus fX1_putOnBus_b16 fX1_putOnBus_b42 fX1_putOnBus_b69 fX1_putOnBus_b102
    rw [c_isToTester hC hv hf, mb3_s, c_controllerOf hC hv hf, mb3_s, mb3_s, sI_lml, sI_lad, e0, hid]
    cases htt : toT p.1 p.2 f with
    | true =>
      rw [bI_t, if_neg (show ¬ (1 : Int32) = 0 by decide), if_pos (show (0 : Int32) = 0 from rfl), mlet_e, w1, mb2_s, if_pos (show (0 : Int32) = 0 from rfl), if_pos (show true = true from rfl), if_pos (show true = true from rfl), sI_1]
    | false =>
      rw [bI_f, if_pos (show (0 : Int32) = 0 from rfl), if_neg (show ¬ (1 : Int32) = 0 by decide), mlet_e, w1, mb2_s, if_neg (show ¬ (1 : Int32) = 0 by decide), if_neg (show ¬ false = true by decide), if_neg (show ¬ false = true by decide), a13]
      congr 2
      rw [show (0 : Int32) = sI 0 from rfl, sI_add]
  have hBE := hB
  obtain ⟨F, ow, id', oc, dn, asl, hB'⟩ := hB
  have hB1 : BusR A1 P3 (C + 1) t F ow id' oc dn ec tc fl asl := BusR_fr hB' (fun a y u1 u2 => w4 a y (by omega)) (fun a y u1 u2 u3 => tP3 a y (by omega) (by omega) (by omega))
  have q91 : P3 732 91 = sI (obL (mset p.1 0 2 f) p.2).length := by rw [tP3 _ _ (by omega) (by omega) (by omega)]; exact n6
  have idb : idO p.1 p.2 f < 2048 := by rw [hid]; split <;> omega
  obtain ⟨r, A2, M2', s1, s2, s3, s4, s5⟩ := st_send (fu := fu) (n := if toT p.1 p.2 f = true then p.1 1 (p.1 11 f) else C) (ident := idO p.1 p.2 f) (row := 274) (n3 := 8) (fr := f + 1) (ob := (obL (mset p.1 0 2 f) p.2).length) (q := wrO p.1 o f) (Lc := L1) (Lm := Lm) (by omega) hB1 (by split <;> omega) idb (fun i hi => ⟨wr_lt g1 hm2, w3 i hi, x2 i hi⟩) (by omega) (by omega) (by omega) (by omega) q91 (by omega)
  obtain ⟨en, n4a, n4b, n4c⟩ := n4
  rw [eC, s1, mb3_s, eR1, eR2, s2, mb3_s]
  have h02 : ∀ h : Nat, mset p.1 0 2 h 0 0 = p.1 0 0 := fun h => mset_n (by omega)
  have h03 : ∀ h : Nat, mset p.1 0 2 h 0 3 = p.1 0 3 := fun h => mset_n (by omega)
  rw [mset_s, h03] at n8
  cases r with
  | true =>
    obtain ⟨B2, v1, v2, v3⟩ := s5 rfl
    obtain ⟨v4, v5, v6, v7⟩ := v3 (by omega)
    have fA : ∀ a y, ¬ (20 ≤ a ∧ a ≤ 60) → ¬ (273 ≤ a ∧ a ≤ 274) → ¬ (a = 292 ∧ y = 0) → A2 a y = A a y := fun a y u1 u2 u3 => by rw [v1 a y (by omega) (by omega) (by omega), w4 a y (by omega)]
    have fM : ∀ a y, ¬ (a = 732 ∧ (y = 91 ∨ y = 94)) → ¬ (821 ≤ a ∧ a ≤ 853) → a ≠ 869 → a ≠ 898 → a ≠ 926 → ¬ (929 ≤ a ∧ a ≤ 930) → ¬ (a = 939 ∧ y = 0) → M2' a y = M a y := fun a y u1 u2 u3 u4 u5 u6 u7 => by rw [v2 a y (by omega) (by omega), tP3 a y (by omega) (by omega) (by omega)]
    have hl : obL (mset p.1 0 2 (f + 1)) p.2 = obL (mset p.1 0 2 f) p.2 ++ [f] := by rw [ob_nx, if_pos hg]
    rw [bI_t, if_neg (show ¬ (1 : Int32) = 0 by decide), if_neg (show ¬ (1 : Int32) = 0 by decide)]
    refine ⟨A2, M2', p.2, rfl, rfl, hv, TfC_w hC hK (fun a y u1 u2 => by rw [v1 a y (by omega) (by omega) (by omega), w4 a y (by omega)]), TfM_fr M3 (fun a y u1 u2 u3 u4 => v2 a y (by omega) (by omega)) (fun _ _ _ _ => rfl), ⟨?_, ?_, ?_, ?_, ?_, ?_, ?_, ?_⟩, Or.inl rfl, ⟨_, _, _, _, _, _, B2⟩, ?_, fA, fM⟩
    · rw [fM _ _ (by omega) (by omega) (by omega) (by omega) (by omega) (by omega) (by omega), n1, h02, h02]
    · intro m u1 u2
      rw [h02] at u2
      obtain ⟨z1, z2⟩ := n2 m u1 (by rw [h02]; exact u2)
      rw [mset_n (by omega)] at z1
      rw [fM _ _ (by omega) (by omega) (by omega) (by omega) (by omega) (by omega) (by omega), fM _ _ (by omega) (by omega) (by omega) (by omega) (by omega) (by omega) (by omega), mset_n (by omega)]
      exact ⟨z1, z2⟩
    · rw [fM _ _ (by omega) (by omega) (by omega) (by omega) (by omega) (by omega) (by omega)]
      exact n3
    · exact ⟨en, by rw [fM _ _ (by omega) (by omega) (by omega) (by omega) (by omega) (by omega) (by omega)]; exact n4a, n4b, n4c⟩
    · rw [v2 _ _ (by omega) (by omega), mset_s]
      exact q94
    · rw [v4, hl, List.length_append]
      rfl
    · rw [hl]
      intro k hk
      rw [List.length_append, List.length_singleton] at hk
      rw [id_h]
      by_cases ck : k < (obL (mset p.1 0 2 f) p.2).length
      · rw [List.getElem_append_left ck, v7 _ _ (Or.inl rfl) (by omega), v7 _ _ (Or.inr rfl) (by omega), tP3 _ _ (by omega) (by omega) (by omega), tP3 _ _ (by omega) (by omega) (by omega)]
        have := n7 k ck
        rw [id_h] at this
        exact this
      · have ek : k = (obL (mset p.1 0 2 f) p.2).length := by omega
        subst ek
        rw [List.getElem_append_right (by omega)]
        simp only [Nat.sub_self, List.getElem_singleton]
        exact ⟨v5, v6⟩
    · rw [hl, List.length_append, List.length_singleton, mset_s, h03]
      omega
    · rw [v1 _ _ (by omega) (by omega) (by omega), w4 _ _ (by omega), v2 _ _ (by omega) (by omega), tP3 _ _ (by omega) (by omega) (by omega)]
      exact h0
  | false =>
    obtain ⟨z1, z2⟩ := s4 rfl
    subst z1
    subst z2
    rw [bI_f, if_pos (show (0 : Int32) = 0 from rfl), if_pos (show (0 : Int32) = 0 from rfl), mlet_e]
    have hCx : TfC (mset A2 292 0 (A2 292 0 + 1)) p.1 p.2 o := TfC_w hC hK (fun a y u1 u2 => by rw [mset_n (by omega), w4 a y (by omega)])
    obtain ⟨⟨A4, L4⟩, c1, c2, c3, c4⟩ := c_lose (fu := fu) (L := L1) hv hCx hf
    dsimp only at c2 c3 c4
    subst c2
    have hMx : TfM (mset (mset P3 821 0 3) 939 0 (P3 939 0 + 1)) Lm τ p.1 p.2 o e := TfM_fr M3 (fun a y u1 u2 u3 u4 => by rw [mset_n (by omega), mset_n (by omega)]) (fun _ _ _ _ => rfl)
    obtain ⟨⟨r5, M5, L5⟩, d1, d2, d3, d4⟩ := m_lose17 (fu := fu) hv hMx hf hg
    dsimp only at d2 d3 d4
    subst d3
    rw [c1, mb2_s, show (mset (mset P3 821 0 3) 939 0 (P3 939 0 + 1)) 732 94 = sI (f + 1) by rw [mset_n (by omega), mset_n (by omega)]; exact q94, d1, mb3_s]
    have fA : ∀ a y, ¬ (20 ≤ a ∧ a ≤ 60) → ¬ (273 ≤ a ∧ a ≤ 274) → ¬ (a = 292 ∧ y = 0) → A4 a y = A a y := fun a y u1 u2 u3 => by rw [c4 a y (by omega), mset_n (by omega), w4 a y (by omega)]
    have fM : ∀ a y, ¬ (a = 732 ∧ (y = 91 ∨ y = 94)) → ¬ (821 ≤ a ∧ a ≤ 853) → a ≠ 869 → a ≠ 898 → a ≠ 926 → ¬ (929 ≤ a ∧ a ≤ 930) → ¬ (a = 939 ∧ y = 0) → M5 a y = M a y := fun a y u1 u2 u3 u4 u5 u6 u7 => by rw [d4 a y (by omega), mset_n (by omega), mset_n (by omega), tP3 a y (by omega) (by omega) (by omega)]
    have fM2 : ∀ a y, (a = 732 ∧ y = 91) ∨ (929 ≤ a ∧ a ≤ 930) → M5 a y = M a y := fun a y u => by rw [d4 a y (by omega), mset_n (by omega), mset_n (by omega), tP3 a y (by omega) (by omega) (by omega)]
    have hl : obL (mset p.1 0 2 (f + 1)) (mset p.2 1 f true) = obL (mset p.1 0 2 f) p.2 := by
      rw [ob_nx, mset_s, if_neg (by decide)]
      unfold obL
      rw [mset_s]
      refine List.filter_congr (fun x hx => ?_)
      rw [List.mem_range] at hx
      rw [mset_n (by omega)]
    have hid2 : ∀ x, idO (mset p.1 0 2 (f + 1)) (mset p.2 1 f true) x = idO (mset p.1 0 2 f) p.2 x := fun x => by
      rw [id_h, id_h]
      unfold idO toT
      rw [mset_n (by omega)]
    refine ⟨A4, M5, mset p.2 1 f true, rfl, rfl, V_gone hv, c3, d2, ⟨?_, ?_, ?_, ?_, ?_, ?_, ?_, ?_⟩, Or.inr rfl, BusE_fr hBE (fun a y u1 u2 => by rw [c4 a y (by omega), mset_n (by omega), w4 a y (by omega)]) (fun a y u1 u2 u3 => by rw [d4 a y (by omega), mset_n (by omega), mset_n (by omega), tP3 a y (by omega) (by omega) (by omega)]), ?_, fA, fM⟩
    · rw [fM _ _ (by omega) (by omega) (by omega) (by omega) (by omega) (by omega) (by omega), n1, h02, h02]
    · intro m u1 u2
      rw [h02] at u2
      obtain ⟨z1, z2⟩ := n2 m u1 (by rw [h02]; exact u2)
      rw [mset_n (by omega)] at z1
      rw [fM _ _ (by omega) (by omega) (by omega) (by omega) (by omega) (by omega) (by omega), fM _ _ (by omega) (by omega) (by omega) (by omega) (by omega) (by omega) (by omega), mset_n (by omega), mset_n (by omega)]
      exact ⟨z1, z2⟩
    · rw [fM _ _ (by omega) (by omega) (by omega) (by omega) (by omega) (by omega) (by omega)]
      exact n3
    · exact ⟨en, by rw [fM _ _ (by omega) (by omega) (by omega) (by omega) (by omega) (by omega) (by omega)]; exact n4a, n4b, by rw [mset_n (by omega)]; exact n4c⟩
    · rw [d4 _ _ (by omega), mset_n (by omega), mset_n (by omega), mset_s]
      exact q94
    · rw [fM2 _ _ (by omega), hl]
      exact n6
    · rw [hl]
      intro k hk
      rw [hid2, fM2 _ _ (by omega), fM2 _ _ (by omega)]
      exact n7 k hk
    · rw [hl, mset_s, h03]
      omega
    · rw [c4 _ _ (by omega), mset_s, w4 _ _ (by omega), d4 _ _ (by omega), mset_s, tP3 _ _ (by omega) (by omega) (by omega), h0]
