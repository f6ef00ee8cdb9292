/-! one bit on the bus: nodes without a frame -/
theorem st_calm {N t F n : Nat} {ow id : Nat → Nat} {oc : Nat → Nat → Nat} {dn ec tc : Nat → Nat} {A0 M0 A M : mwM} {Lc Lm : mwL} (hG : BuG A M N t F ow id oc dn ec tc) (hN : NdR A M F ow id oc dn n (t + 1) (ec n) (tc n)) (hA : ndA n A0 A) (hM : ndM n M0 M) (h12 : A 20 12 = A0 20 12) (hT : ∀ a y, (839 ≤ a ∧ a ≤ 844) → M a y = M0 a y) (hOc : ∃ o, OcR A (47 + 2 * n) o) : StQ N t F ow id oc dn ec tc n A0 M0 Lc Lm (some (A, Lc)) (some (M, Lm)) :=
  ⟨A, M, dn, ec, tc, rfl, rfl, hOc, hG, hN, hA, hM, fun _ _ => rfl, fun _ _ => ⟨rfl, rfl⟩, Or.inl ⟨rfl, h12⟩, fun _ a y u => hT a y u, fun a y u => hT a y (by omega)⟩
/-- own cells alone -/
def owA (n : Nat) (A A' : mwM) : Prop := ∀ a y, ¬ ((25 ≤ a ∧ a ≤ 29 ∨ a = 32) ∧ y = n) → a ≠ 34 + n → a ≠ 47 + 2 * n → a ≠ 48 + 2 * n → A' a y = A a y
def owM (n : Nat) (M M' : mwM) : Prop := ∀ a y, ¬ ((831 ≤ a ∧ a ≤ 833 ∨ a = 836) ∧ y = n) → ¬ (a = 837 ∧ 1200 * n ≤ y ∧ y < 1200 * n + 1200) → ¬ (a = 821 ∧ (y = 34 ∨ y = 37 ∨ y = 38 ∨ (41 ≤ y ∧ y ≤ 46) ∨ (48 ≤ y ∧ y ≤ 50))) → ¬ (848 ≤ a ∧ a ≤ 853) → M' a y = M a y
theorem st_own {N t F n : Nat} {ow id : Nat → Nat} {oc : Nat → Nat → Nat} {dn ec tc : Nat → Nat} {A0 M0 A M : mwM} {Lc Lm : mwL} (hn : n < 7) (hG : BuG A0 M0 N t F ow id oc dn ec tc) (hN : NdR A M F ow id oc dn n (t + 1) (ec n) (tc n)) (hA : owA n A0 A) (hM : owM n M0 M) (hW : WC M F id oc) (hC : CA M) (hOc : ∃ o, OcR A (47 + 2 * n) o) : StQ N t F ow id oc dn ec tc n A0 M0 Lc Lm (some (A, Lc)) (some (M, Lm)) := by
  refine st_calm (BuG_fr hG (fun a y u => hA a y (by omega) (by omega) (by omega) (by omega)) (fun a y u => hM a y (by omega) (by omega) (by omega) (by omega)) hW hC) hN (fun a y u => hA a y (by omega) (by omega) (by omega) (by omega)) (fun a y u => hM a y (by omega) (by omega) (by omega) (by omega)) (hA 20 12 (by omega) (by omega) (by omega) (by omega)) (fun a y u => hM a y (by omega) (by omega) (by omega) (by omega)) hOc
theorem oc_own {A A' : mwM} {n : Nat} (h : ∃ o, OcR A (47 + 2 * n) o) (u : ∀ y, A' (48 + 2 * n) y = A (48 + 2 * n) y) : ∃ o, OcR A' (47 + 2 * n) o := by
  obtain ⟨o, ho⟩ := h
  refine ⟨o, OcR_f ho (fun y => ?_)⟩
  have := u y
  rw [show 48 + 2 * n = 47 + 2 * n + 1 by omega] at this
  exact this
theorem sI_dec {lf : Nat} (h : 1 ≤ lf) : sI lf - 1 = sI (lf - 1) := sI_sub (b := 1) h
/-- flags: the class and the reference -/
theorem st_X3 {fu N t F n lf b : Nat} {ow id : Nat → Nat} {oc : Nat → Nat → Nat} {dn ec tc : Nat → Nat} {A M : mwM} {Lc Lm : mwL} (hn : n < 7) (hG : BuG A M N t F ow id oc dn ec tc) (hOc : ∃ o, OcR A (47 + 2 * n) o) (h25 : A 25 n = sI 3) (h831 : M 831 n = sI 3) (h26 : A 26 n = sI lf) (h832 : M 832 n = sI lf) (l1 : 1 ≤ lf) (l7 : lf ≤ 7) (pe : 8 * ec n ≤ t + 1 + lf) (pt : 40 * tc n ≤ t) : StQ N t F ow id oc dn ec tc n A M Lc Lm (DX0_see fu (sI n) (sI b) (sI t) A Lc) (DX12_sees fu (sI n) (sI b) M Lm) := by
  have hG' := hG
  obtain ⟨_, _, _, _, hW, hC, _⟩ := hG'
  unfold DX0_see fX0_see_b165 DX12_sees fX12_sees_b56 fX12_sees_b181 fX12_sees_b294
  simp only [mlet]
  simp (disch := omega) only [mck_s, sI_nn, h25, h831, h26, h832, mset_n, mset_s, sI_dec]
  simp (decide := true) only [ite_true, ite_false]
  by_cases c : lf = 1
  · rw [c]
    rw [if_pos (show sI (1 - 1) = 0 from rfl), if_pos (show sI (1 - 1) = 0 from rfl)]
    refine st_own hn hG (Or.inr (Or.inr (Or.inr ⟨4, 0, by omega, by omega, by rw [mset_s]; rfl, by rw [mset_s]; rfl, fun z => absurd rfl z, fun z => by omega, fun _ => by omega, fun z => by omega, by omega⟩))) (fun a y u1 u2 u3 u4 => by simp (disch := omega) only [mset_n]) (fun a y u1 u2 u3 u4 => by simp (disch := omega) only [mset_n]) (WC_fr hW (fun a y u => by simp (disch := omega) only [mset_n])) (CA_fr hC (fun a y u => by simp (disch := omega) only [mset_n])) (oc_own hOc (fun y => by simp (disch := omega) only [mset_n]))
  · have nz : ¬ sI (lf - 1) = 0 := by rw [sI_eql (by omega) (by decide)]; omega
    rw [if_neg nz, if_neg nz]
    refine st_own hn hG (Or.inr (Or.inr (Or.inr ⟨3, lf - 1, by omega, by omega, by rw [mset_n (by omega)]; exact h25, by rw [mset_s]; rfl, fun _ => ⟨mset_s, by rw [mset_n (by omega), mset_s], by omega, by omega⟩, fun _ => by omega, fun z => by omega, fun z => by omega, by omega⟩))) (fun a y u1 u2 u3 u4 => by simp (disch := omega) only [mset_n]) (fun a y u1 u2 u3 u4 => by simp (disch := omega) only [mset_n]) (WC_fr hW (fun a y u => by simp (disch := omega) only [mset_n])) (CA_fr hC (fun a y u => by simp (disch := omega) only [mset_n])) (oc_own hOc (fun y => by simp (disch := omega) only [mset_n]))
/-- which state -/
theorem c_see4 {fu n : Nat} {x y : Int32} {A : mwM} {L : mwL} (hn : n < 7) (h : A 25 n = sI 4) : DX0_see fu (sI n) x y A L = if x = 1 then DX0_become fu (sI n) 5 7 A L else some (A, L) := by
  unfold DX0_see fX0_see_b165
  rw [mck_s hn (by omega), sI_nn (by omega), h]
  simp only [mlet, mb2_id]
  rw [if_neg (show ¬ sI 4 = 0 by decide), if_neg (show ¬ sI 4 = 1 by decide), if_neg (show ¬ sI 4 = 2 by decide), if_neg (show ¬ sI 4 = 3 by decide), if_pos (show sI 4 = 4 from rfl)]
theorem c_see5 {fu n : Nat} {x y : Int32} {A : mwM} {L : mwL} (hn : n < 7) (h : A 25 n = sI 5) : DX0_see fu (sI n) x y A L = DX0_seeClearing fu (sI n) x y A L := by
  unfold DX0_see fX0_see_b165
  rw [mck_s hn (by omega), sI_nn (by omega), h]
  simp only [mlet, mb2_id]
  rw [if_neg (show ¬ sI 5 = 0 by decide), if_neg (show ¬ sI 5 = 1 by decide), if_neg (show ¬ sI 5 = 2 by decide), if_neg (show ¬ sI 5 = 3 by decide), if_neg (show ¬ sI 5 = 4 by decide), if_pos (show sI 5 = 5 from rfl)]
theorem c_see6 {fu n : Nat} {x y : Int32} {A : mwM} {L : mwL} (hn : n < 7) (h : A 25 n = sI 6) : DX0_see fu (sI n) x y A L = DX0_seePausing fu (sI n) x y A L := by
  unfold DX0_see fX0_see_b165
  rw [mck_s hn (by omega), sI_nn (by omega), h]
  simp only [mlet, mb2_id]
  rw [if_neg (show ¬ sI 6 = 0 by decide), if_neg (show ¬ sI 6 = 1 by decide), if_neg (show ¬ sI 6 = 2 by decide), if_neg (show ¬ sI 6 = 3 by decide), if_neg (show ¬ sI 6 = 4 by decide), if_neg (show ¬ sI 6 = 5 by decide)]
theorem c_see2 {fu n : Nat} {x y : Int32} {A : mwM} {L : mwL} (hn : n < 7) (h : A 25 n = sI 2) : DX0_see fu (sI n) x y A L = DX0_seeListening fu (sI n) x y A L := by
  unfold DX0_see fX0_see_b165
  rw [mck_s hn (by omega), sI_nn (by omega), h]
  simp only [mlet, mb2_id]
  rw [if_neg (show ¬ sI 2 = 0 by decide), if_neg (show ¬ sI 2 = 1 by decide), if_pos (show sI 2 = 2 from rfl)]
theorem c_see1 {fu n : Nat} {x y : Int32} {A : mwM} {L : mwL} (hn : n < 7) (h : A 25 n = sI 1) : DX0_see fu (sI n) x y A L = mb3 (DX0_isLosing fu (sI n) x A L) (fun r11 M9 L10 => if r11 = 0 then DX0_seeSending fu (sI n) x y M9 L10 else DX0_loseArbitration fu (sI n) M9 L10) := by
  unfold DX0_see fX0_see_b165
  rw [mck_s hn (by omega), sI_nn (by omega), h]
  simp only [mlet, mb2_id]
  rw [if_neg (show ¬ sI 1 = 0 by decide), if_pos (show sI 1 = 1 from rfl)]
theorem c_see0 {fu n : Nat} {x y : Int32} {A : mwM} {L : mwL} (hn : n < 7) (h : A 25 n = sI 0) : DX0_see fu (sI n) x y A L = if x = 0 then DX0_beginListening fu (sI n) A L else some (A, L) := by
  unfold DX0_see fX0_see_b165
  rw [mck_s hn (by omega), sI_nn (by omega), h]
  simp only [mlet, mb2_id]
  rw [if_pos (show sI 0 = 0 from rfl)]
theorem m_seesn {fu n st : Nat} {x : Int32} {M : mwM} {L : mwL} (hn : n < 7) (h : M 831 n = sI st) (h0 : st ≠ 0) (h9 : st < 100) : DX12_sees fu (sI n) x M L = fX12_sees_b56 fu (sI n) x M L := by
  unfold DX12_sees
  rw [mck_s (by omega) (by omega), sI_nn (by omega), h, if_neg (by rw [sI_eql (by omega) (by decide)]; exact h0)]
theorem m_b561 {fu n : Nat} {x : Int32} {M : mwM} {L : mwL} (hn : n < 7) (h : M 831 n = sI 1) : fX12_sees_b56 fu (sI n) x M L = DX12_sent fu (sI n) x M L := by
  unfold fX12_sees_b56 fX12_sees_b294
  rw [mck_s (by omega) (by omega), sI_nn (by omega), h, if_pos (show sI 1 = 1 from rfl), mb2_id]
theorem m_b562 {fu n : Nat} {x : Int32} {M : mwM} {L : mwL} (hn : n < 7) (h : M 831 n = sI 2) : fX12_sees_b56 fu (sI n) x M L = mb2 (DX12_see fu (sI n) x M L) (fun M22 L23 => mb3 (DX12_read fu (sI n) M22 L23) (fun r26 M24 L25 => if r26 = 10 then DX12_take fu (sI n) M24 L25 else if r26 = 11 then DX12_go fu (sI n) 6 3 M24 L25 else if r26 = -1 then some (M24, L25) else DX12_wrong fu (sI n) r26 M24 L25)) := by
  unfold fX12_sees_b56 fX12_sees_b139 fX12_sees_b294
  rw [mck_s (by omega) (by omega), sI_nn (by omega), h, if_neg (show ¬ sI 2 = 1 by decide), mck_s (by omega) (by omega), if_pos (show sI 2 = 2 from rfl)]
  simp only [mb2_id]
theorem m_b56x {fu n st : Nat} {x : Int32} {M : mwM} {L : mwL} (hn : n < 7) (h : M 831 n = sI st) (h3 : 4 ≤ st) (h6 : st ≤ 6) : fX12_sees_b56 fu (sI n) x M L = (if st = 4 then (if x = 1 then DX12_go fu (sI n) 5 7 (mset M 832 n (M 832 n - 1)) L else some (mset M 832 n (M 832 n - 1), L)) else if st = 5 then (if x = 0 then (if M 832 n - 1 = 0 then DX12_wrong fu (sI n) 5 (mset M 832 n (M 832 n - 1)) L else DX12_wrong fu (sI n) 2 (mset M 832 n (M 832 n - 1)) L) else (if M 832 n - 1 = 0 then DX12_go fu (sI n) 6 3 (mset M 832 n (M 832 n - 1)) L else some (mset M 832 n (M 832 n - 1), L))) else DX12_pauses fu (sI n) x (mset M 832 n (M 832 n - 1)) L) := by
  unfold fX12_sees_b56
  rw [mck_s (by omega) (by omega), sI_nn (by omega), h, if_neg (by rw [sI_eql (by omega) (by decide)]; omega), mck_s (by omega) (by omega), if_neg (by rw [sI_eql (by omega) (by decide)]; omega), mck_s (by omega) (by omega), mck_s (by omega) (by omega)]
  simp only [mlet]
  have hx : (mset M 832 n (M 832 n - 1)) 831 n = sI st := by rw [mset_n (by omega)]; exact h
  have hy : (mset M 832 n (M 832 n - 1)) 832 n = M 832 n - 1 := mset_s
  rw [mck_s (by omega) (by omega), hx, if_neg (by rw [sI_eql (by omega) (by decide)]; omega), mck_s (by omega) (by omega)]
  generalize mset M 832 n (M 832 n - 1) = X at *
  generalize M 832 n - 1 = v at *
  have b247 : fX12_sees_b247 fu (sI n) x X L = (if st = 5 then (if v = 0 then DX12_go fu (sI n) 6 3 X L else some (X, L)) else if st = 6 then DX12_pauses fu (sI n) x X L else some (X, L)) := by
    have b277 : fX12_sees_b277 fu (sI n) x X L = (if st = 6 then DX12_pauses fu (sI n) x X L else some (X, L)) := by
      unfold fX12_sees_b277 fX12_sees_b294
      rw [mck_s (by omega) (by omega), sI_nn (by omega), hx, mb2_id]
      by_cases c : st = 6
      · rw [if_pos (show sI st = 6 by rw [c]; rfl), if_pos c]
      · rw [if_neg (show ¬ sI st = 6 by rw [sI_eql (by omega) (by decide)]; exact c), if_neg c]
    unfold fX12_sees_b247 fX12_sees_b294
    rw [mck_s (by omega) (by omega), sI_nn (by omega), hx, mck_s (by omega) (by omega), hy, b277, mb2_id]
    by_cases c : st = 5
    · rw [if_pos (show sI st = 5 by rw [c]; rfl), if_pos c, if_neg (show ¬ st = 6 by omega)]
    · rw [if_neg (show ¬ sI st = 5 by rw [sI_eql (by omega) (by decide)]; exact c), if_neg c]
  have b211 : fX12_sees_b211 fu (sI n) x X L = (if st = 5 then (if x = 0 then (if v = 0 then DX12_wrong fu (sI n) 5 X L else DX12_wrong fu (sI n) 2 X L) else (if v = 0 then DX12_go fu (sI n) 6 3 X L else some (X, L))) else if st = 6 then DX12_pauses fu (sI n) x X L else some (X, L)) := by
    unfold fX12_sees_b211 fX12_sees_b241 fX12_sees_b294
    rw [mck_s (by omega) (by omega), sI_nn (by omega), hx, mck_s (by omega) (by omega), hy, b247, mb2_id, mb2_id]
    by_cases c : st = 5
    · rw [if_pos (show sI st = 5 by rw [c]; rfl), if_pos c, if_pos c]
    · rw [if_neg (show ¬ sI st = 5 by rw [sI_eql (by omega) (by decide)]; exact c), if_neg c, if_neg c]
  unfold fX12_sees_b294
  rw [b211, mb2_id]
  by_cases c4 : st = 4
  · rw [if_pos (show sI st = 4 by rw [c4]; rfl), if_pos c4, if_neg (show ¬ st = 5 by omega), if_neg (show ¬ st = 6 by omega)]
  · rw [if_neg (show ¬ sI st = 4 by rw [sI_eql (by omega) (by decide)]; exact c4), if_neg c4]
    by_cases c5 : st = 5
    · rw [if_pos c5, if_pos c5]
    · rw [if_neg c5, if_neg c5, if_pos (show st = 6 by omega)]
theorem st_X4 {fu N t F n b : Nat} {ow id : Nat → Nat} {oc : Nat → Nat → Nat} {dn ec tc : Nat → Nat} {A M : mwM} {Lc Lm : mwL} (hn : n < 7) (hb : b < 2) (hG : BuG A M N t F ow id oc dn ec tc) (hOc : ∃ o, OcR A (47 + 2 * n) o) (h25 : A 25 n = sI 4) (h831 : M 831 n = sI 4) (pe : 8 * ec n ≤ t + 1) (pt : 40 * tc n ≤ t) : StQ N t F ow id oc dn ec tc n A M Lc Lm (DX0_see fu (sI n) (sI b) (sI t) A Lc) (DX12_sees fu (sI n) (sI b) M Lm) := by
  have hG' := hG
  obtain ⟨_, _, _, _, hW, hC, _⟩ := hG'
  rw [c_see4 hn h25, m_seesn hn h831 (by omega) (by omega), m_b56x hn h831 (by omega) (by omega), if_pos rfl]
  unfold DX0_become DX12_go
  simp only [mlet]
  simp (disch := omega) only [mck_s, sI_nn]
  by_cases c : b = 1
  · have e : sI b = 1 := by rw [c]; rfl
    rw [if_pos e, if_pos e]
    refine st_own hn hG (Or.inr (Or.inr (Or.inr ⟨5, 7, by omega, by omega, by rw [mset_n (by omega), mset_s]; rfl, by rw [mset_n (by omega), mset_s]; rfl, fun _ => ⟨by rw [mset_s]; rfl, by rw [mset_s]; rfl, by omega, by omega⟩, fun z => by omega, fun z => by omega, fun _ => by omega, by omega⟩))) (fun a y u1 u2 u3 u4 => by simp (disch := omega) only [mset_n]) (fun a y u1 u2 u3 u4 => by simp (disch := omega) only [mset_n]) (WC_fr hW (fun a y u => by simp (disch := omega) only [mset_n])) (CA_fr hC (fun a y u => by simp (disch := omega) only [mset_n])) (oc_own hOc (fun y => by simp (disch := omega) only [mset_n]))
  · have e : ¬ sI b = 1 := by rw [sI_eql (by omega) (by decide)]; exact c
    rw [if_neg e, if_neg e]
    refine st_own hn hG (Or.inr (Or.inr (Or.inr ⟨4, 0, by omega, by omega, h25, by rw [mset_n (by omega)]; exact h831, fun z => absurd rfl z, fun z => by omega, fun _ => by omega, fun z => by omega, by omega⟩))) (fun a y u1 u2 u3 u4 => rfl) (fun a y u1 u2 u3 u4 => by simp (disch := omega) only [mset_n]) (WC_fr hW (fun a y u => by simp (disch := omega) only [mset_n])) (CA_fr hC (fun a y u => by simp (disch := omega) only [mset_n])) hOc
theorem st_X5 {fu N t F n lf b : Nat} {ow id : Nat → Nat} {oc : Nat → Nat → Nat} {dn ec tc : Nat → Nat} {A M : mwM} {Lc Lm : mwL} (hn : n < 7) (hb : b < 2) (hG : BuG A M N t F ow id oc dn ec tc) (hOc : ∃ o, OcR A (47 + 2 * n) o) (h25 : A 25 n = sI 5) (h831 : M 831 n = sI 5) (h26 : A 26 n = sI lf) (h832 : M 832 n = sI lf) (l1 : 1 ≤ lf) (l7 : lf ≤ 7) (pe : 8 * ec n ≤ t) (pt : 40 * tc n ≤ t) : StQ N t F ow id oc dn ec tc n A M Lc Lm (DX0_see fu (sI n) (sI b) (sI t) A Lc) (DX12_sees fu (sI n) (sI b) M Lm) := by
  have hG' := hG
  obtain ⟨_, _, _, _, hW, hC, _⟩ := hG'
  rw [c_see5 hn h25, m_seesn hn h831 (by omega) (by omega), m_b56x hn h831 (by omega) (by omega), if_neg (show ¬ 5 = 4 by decide), if_pos rfl, h832, sI_dec l1]
  unfold DX0_seeClearing fX0_seeClearing_b34 fX0_seeClearing_b60
  simp only [mlet, mb2_id]
  simp (disch := omega) only [mck_s, sI_nn, h26, mset_s, sI_dec]
  have g2 : BuG (mset A 26 n (sI (lf - 1))) (mset M 832 n (sI (lf - 1))) N t F ow id oc dn ec tc := BuG_fr hG (fun a y u => by simp (disch := omega) only [mset_n]) (fun a y u => by simp (disch := omega) only [mset_n]) (WC_fr hW (fun a y u => by simp (disch := omega) only [mset_n])) (CA_fr hC (fun a y u => by simp (disch := omega) only [mset_n]))
  by_cases c : b = 0
  · have e : sI b = 0 := by rw [c]; rfl
    rw [if_pos e, if_pos e]
    have flt : ∀ k, k < 8 → StQ N t F ow id oc dn ec tc n A M Lc Lm (DX0_tellFault fu (sI n) (sI k) (sI t) (mset A 26 n (sI (lf - 1))) Lc) (DX12_wrong fu (sI n) (sI k) (mset M 832 n (sI (lf - 1))) Lm) := fun k hk => st_fault hn hk g2 (fun a y u => by simp (disch := omega) only [mset_n]) (fun a y u => by simp (disch := omega) only [mset_n]) pe (by omega) (by simp (disch := omega) only [mset_n]) (fun a y u => by simp (disch := omega) only [mset_n]) (oc_own hOc (fun y => by simp (disch := omega) only [mset_n]))
    by_cases d : lf = 1
    · rw [d] at flt ⊢
      rw [if_pos (show sI (1 - 1) = 0 from rfl), if_pos (show sI (1 - 1) = 0 from rfl)]
      exact flt 5 (by omega)
    · have nz : ¬ sI (lf - 1) = 0 := by rw [sI_eql (by omega) (by decide)]; omega
      rw [if_neg nz, if_neg nz]
      exact flt 2 (by omega)
  · have e : ¬ sI b = 0 := by rw [sI_eql (by omega) (by decide)]; exact c
    rw [if_neg e, if_neg e]
    unfold DX0_become DX12_go
    simp only [mlet]
    simp (disch := omega) only [mck_s, sI_nn]
    by_cases d : lf = 1
    · rw [d]
      rw [if_pos (show sI (1 - 1) = 0 from rfl), if_pos (show sI (1 - 1) = 0 from rfl)]
      refine st_own hn hG (Or.inr (Or.inr (Or.inr ⟨6, 3, by omega, by omega, by rw [mset_n (by omega), mset_s]; rfl, by rw [mset_n (by omega), mset_s]; rfl, fun _ => ⟨by rw [mset_s]; rfl, by rw [mset_s]; rfl, by omega, by omega⟩, fun z => by omega, fun z => by omega, fun _ => by omega, by omega⟩))) (fun a y u1 u2 u3 u4 => by simp (disch := omega) only [mset_n]) (fun a y u1 u2 u3 u4 => by simp (disch := omega) only [mset_n]) (WC_fr hW (fun a y u => by simp (disch := omega) only [mset_n])) (CA_fr hC (fun a y u => by simp (disch := omega) only [mset_n])) (oc_own hOc (fun y => by simp (disch := omega) only [mset_n]))
    · have nz : ¬ sI (lf - 1) = 0 := by rw [sI_eql (by omega) (by decide)]; omega
      rw [if_neg nz, if_neg nz]
      refine st_own hn hG (Or.inr (Or.inr (Or.inr ⟨5, lf - 1, by omega, by omega, by rw [mset_n (by omega)]; exact h25, by rw [mset_n (by omega)]; exact h831, fun _ => ⟨mset_s, mset_s, by omega, by omega⟩, fun z => by omega, fun z => by omega, fun _ => by omega, by omega⟩))) (fun a y u1 u2 u3 u4 => by simp (disch := omega) only [mset_n]) (fun a y u1 u2 u3 u4 => by simp (disch := omega) only [mset_n]) (WC_fr hW (fun a y u => by simp (disch := omega) only [mset_n])) (CA_fr hC (fun a y u => by simp (disch := omega) only [mset_n])) (oc_own hOc (fun y => by simp (disch := omega) only [mset_n]))
