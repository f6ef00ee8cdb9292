/-! one bit on the bus: a node that listens -/
theorem PI_id {p h : Nat → Nat} (hI : PI p h) : h 10 < 536870912 := by
  obtain ⟨i1, i2, i3, i4, i5, i6, i7, i8, i9, i10, _⟩ := PI_x.mp hI
  rw [i10]
  have n1 := num_lt (p := p) (a := 1) (min (h 5) 12 - 1) (fun i u1 u2 => i1 i (by omega))
  have l1 : 2 ^ (min (h 5) 12 - 1) ≤ 2 ^ 11 := Nat.pow_le_pow_right (by omega) (by omega)
  have j18 : jE (h 12) (h 5) ≤ 18 := by unfold jE; split <;> omega
  have n2 : num p 14 (jE (h 12) (h 5)) < 2 ^ jE (h 12) (h 5) := num_lt _ (fun i u1 u2 => i1 i (by unfold jE at u2; split at u2 <;> omega))
  have l2 : 2 ^ jE (h 12) (h 5) ≤ 2 ^ 18 := Nat.pow_le_pow_right (by omega) j18
  have l3 : num p 1 (min (h 5) 12 - 1) * 2 ^ jE (h 12) (h 5) ≤ 2047 * 2 ^ 18 := Nat.mul_le_mul (by omega) l2
  omega
theorem ED_e {s p h o : Nat → Nat} {e : Nat} (hD : ED s e p h o) : 34 ≤ e + (if h 13 = 1 then 27 else 0) ∧ e ≤ 720 ∧ h 17 < 100000 ∧ h 17 = h 15 + 4 + 8 * h 16 ∧ h 17 ≤ h 5 ∧ 22 ≤ e := by
  obtain ⟨⟨e1, e2, e3, e4, e5, e6, _⟩, hd⟩ := hD
  obtain ⟨_, _, _, _, _, _, _, _, _, _, b2, b3, b4, b5⟩ := PI_b e1
  have k17 : h 17 < 100000 := by
    by_cases y : h 17 < 100000
    · exact y
    · have := b3 (by omega)
      omega
  have kk := b2 k17
  have k15 := b5 (by omega)
  have f15 : h 13 = 1 → 18 ≤ h 15 := by
    intro z
    obtain ⟨i1, i2, i3, i4, i5, _⟩ := PI_x.mp e1
    by_cases w : atE (h 12) < h 5
    · rw [if_pos w] at i5
      unfold caE at i5
      have : 14 ≤ atE (h 12) := by unfold atE; split <;> omega
      rw [z] at i5
      omega
    · rw [if_neg w] at i5
      omega
  rcases hd with z | z
  · rw [if_pos z.1]
    have := f15 z.1
    omega
  · rw [if_neg (by omega)]
    omega
theorem Li_b {s : Nat → Nat} {K : Nat} (hK : 1 ≤ K) (h0 : s 0 = 0) (hs : ∀ i, i < K → s i < 2) (hg : Gd s K) : K ≤ 800 := by
  obtain ⟨e, b1, b2, b3, b4⟩ := BE_K z0 K hK h0 hs hg
  by_cases c : K < e
  · have := ES_5 (b3 K hK (by omega) c)
    omega
  · obtain ⟨i, rfl⟩ : ∃ i, K = e + i := ⟨K - e, by omega⟩
    have t := (b4 i (by omega)).1
    have := ED_e t.1
    have wb := Wd_b (hq s e)
    rcases t.2 with ⟨c1, c2, c3⟩ | ⟨c1, c2, c3, c4, c5⟩ | ⟨c1, g, c2, c3, c4, c5, c6⟩ <;> omega
/-- where a frame is taken -/
theorem tk_at {s : Nat → Nat} {K : Nat} (hK : 1 ≤ K) (h0 : s 0 = 0) (hs : ∀ i, i < K → s i < 2) (hg : Gd s K) (hr : rAll (s K) (hq s K) = 6) : 39 ≤ K ∧ hq s K 6 = 8 ∧ hq s K 1 = 2 ∧ ∀ o0 E, BE s o0 K E → E ≤ K := by
  have st : hq s K 1 ≠ 0 := fun z => by
    rw [(rAll_0 z).1] at hr
    exact rBody_6 hr
  have key : ∀ o0 E, BE s o0 K E → E ≤ K := fun o0 E hB => by
    by_cases c : E ≤ K
    · exact c
    · exact absurd (hB.2.2.1 K hK (by omega) (by omega)).2.1 st
  obtain ⟨e, hB⟩ := BE_K z0 K hK h0 hs hg
  have ek := key z0 e hB
  obtain ⟨i, hi⟩ : ∃ i, K = e + i := ⟨K - e, by omega⟩
  have t := (hB.2.2.2 i (by omega)).1
  rw [← hi] at t
  have ee := ED_e t.1
  have wb := Wd_b (hq s e)
  have r8 : ∀ h : Nat → Nat, h 1 = 2 → rAll (s K) h = 6 → h 6 = 8 := fun h h1 hr => by
    unfold rAll rTail at hr
    rw [if_neg (by omega), if_pos h1] at hr
    by_cases c1 : h 6 = 1
    · rw [if_pos c1] at hr; omega
    · rw [if_neg c1] at hr
      by_cases c2 : s K = 0
      · rw [if_pos c2] at hr
        split at hr <;> omega
      · rw [if_neg c2] at hr
        by_cases c3 : h 6 = 2 ∧ hRight h = false
        · rw [if_pos c3] at hr; omega
        · rw [if_neg c3] at hr
          by_cases c4 : h 6 = 8
          · exact c4
          · rw [if_neg c4] at hr
            split at hr <;> omega
  rcases t.2 with ⟨c1, c2, c3⟩ | ⟨c1, c2, c3, c4, c5⟩ | ⟨c1, g, c2, c3, c4, c5, c6⟩
  · have h1 : hq s K 1 = 2 := by
      rw [c2]
      show hq s e 1 = 2
      have := t.1.2
      omega
    have h8 := r8 _ h1 hr
    have h6 : hq s K 6 = i := by rw [c2, nst_s]
    rw [if_neg (by omega)] at ee
    exact ⟨by omega, h8, h1, key⟩
  · exfalso
    have e1 : rAll (s K) (hq s K) = rFix (s K) (hq s K) := if_pos c4
    rw [e1] at hr
    unfold rFix at hr
    split at hr
    · split at hr <;> omega
    · split at hr <;> omega
  · have h1 : hq s K 1 = 2 := by rw [c6]; exact c3
    have h8 := r8 _ h1 hr
    have h6 : hq s K 6 = i - Wd (hq s e) := by rw [c6, nst_s]
    exact ⟨by omega, h8, h1, key⟩
/-- behind the body its numbers stay -/
theorem ET_c {s p he h o : Nat → Nat} {e i : Nat} (hT : ET s e i p he h o) : h 10 = he 10 ∧ h 11 = he 11 ∧ h 12 = he 12 ∧ h 13 = he 13 ∧ h 14 = he 14 ∧ h 15 = he 15 ∧ h 16 = he 16 := by
  have fx : ∀ (g : Nat → Nat) (j : Nat), FX s e he g j → g 10 = he 10 ∧ g 11 = he 11 ∧ g 12 = he 12 ∧ g 13 = he 13 ∧ g 14 = he 14 ∧ g 15 = he 15 ∧ g 16 = he 16 := fun g j hF => by
    have f := hF.2.2.2.2.2.2.2
    exact ⟨f 10 (by omega) (by omega) (by omega) (by omega) (by omega) (by omega) (by omega), f 11 (by omega) (by omega) (by omega) (by omega) (by omega) (by omega) (by omega), f 12 (by omega) (by omega) (by omega) (by omega) (by omega) (by omega) (by omega), f 13 (by omega) (by omega) (by omega) (by omega) (by omega) (by omega) (by omega), f 14 (by omega) (by omega) (by omega) (by omega) (by omega) (by omega) (by omega), f 15 (by omega) (by omega) (by omega) (by omega) (by omega) (by omega) (by omega), f 16 (by omega) (by omega) (by omega) (by omega) (by omega) (by omega) (by omega)⟩
  rcases hT.2 with ⟨c1, c2, c3⟩ | ⟨c1, c2, c3, c4, c5⟩ | ⟨c1, g, c2, c3, c4, c5, c6⟩
  · rw [c2]
    exact ⟨rfl, rfl, rfl, rfl, rfl, rfl, rfl⟩
  · exact fx h i c3
  · rw [c6]
    exact fx g _ c2
theorem cnt_s1 {tn : Nat → Nat} {T n m : Nat} : cnt (fun k => decide (nst tn T n k = m)) (T + 1) = cnt (fun k => decide (tn k = m)) T + (if n = m then 1 else 0) := by
  have e : cnt (fun k => decide (nst tn T n k = m)) (T + 1) = cnt (fun k => decide (nst tn T n k = m)) T + (if decide (nst tn T n T = m) = true then 1 else 0) := rfl
  rw [e, nst_s, cnt_congr (q := fun k => decide (tn k = m)) (fun i u => by rw [nst_n (by omega)])]
  by_cases c : n = m
  · rw [if_pos c, decide_eq_true c, if_pos rfl]
  · rw [if_neg c, decide_eq_false c, if_neg (by decide)]
theorem st_L {fu N t F n K b : Nat} {s : Nat → Nat} {ow id : Nat → Nat} {oc : Nat → Nat → Nat} {dn ec tc : Nat → Nat} {A M : mwM} {Lc Lm : mwL} (hfu : 1300 ≤ fu) (hn : n < 7) (hb : b < 2) (hG : BuG A M N t F ow id oc dn ec tc) (h25 : A 25 n = sI 2) (h831 : M 831 n = sI 2) (hL : LiR A M n K s) (pe : 8 * ec n ≤ t) (pt : 40 * tc n + pgL (hq s K) K ≤ t) : StQ N t F ow id oc dn ec tc n A M Lc Lm (DX0_see fu (sI n) (sI b) (sI t) A Lc) (DX12_sees fu (sI n) (sI b) M Lm) := by
  have hG' := hG
  obtain ⟨g1, ⟨g2, g3, g4⟩, g5, g6, hW, hC, ⟨g9, g10, g11⟩, ⟨g12, g13⟩, g14, g15, ⟨tn, g16, g17⟩, g18⟩ := hG'
  obtain ⟨k1, k2, k3, k4, k5, k6, k7, k8, o0, k9⟩ := hL
  -- the row with the new bit
  obtain ⟨u, hu⟩ : ∃ u, u = nst s K b := ⟨_, rfl⟩
  have uK : u K = b := by rw [hu, nst_s]
  have ui : ∀ i, i < K → u i = s i := fun i w => by rw [hu, nst_n (by omega)]
  have uc : ∀ j, j ≤ K → hq u j = hq s j ∧ pq u j = pq s j ∧ oq u o0 j = oq s o0 j := fun j w => hq_c j (fun i v => ui i (by omega))
  have uq := uc K (Nat.le_refl K)
  have u0 : u 0 = 0 := by rw [ui 0 (by omega)]; exact k3
  have ub : ∀ i, i ≤ K → u i < 2 := fun i w => by
    by_cases z : i = K
    · rw [z, uK]; exact hb
    · rw [ui i (by omega)]; exact k4 i (by omega)
  have ug : Gd u K := fun j w1 w2 => by rw [ui j w2, (uc j (by omega)).1]; exact k5 j w1 w2
  rw [← uq.1] at k8 pt
  rw [← uq.2.2] at k9
  have k800 := Li_b k1 u0 (fun i w => ub i (by omega)) ug
  rw [← uK]
  -- the class
  rw [c_see2 hn h25, m_seesn hn h831 (by omega) (by omega), m_b562 hn h831]
  unfold DX0_seeListening fX0_seeListening_b79
  rw [mck_s hn (by omega), sI_nn (by omega)]
  simp only [mb2_id]
  obtain ⟨⟨r1, A1, L1⟩, ea, a1, a2, a3, a4, a5⟩ := c_hearK (fu := fu) (L := Lc) k8 k9 k1 u0 ub ug
  dsimp only at a1 a2 a3 a4 a5
  rw [a1, a2] at ea
  rw [ea, mb3_s]
  -- the reference
  rw [m_see12 hn k6 (by omega) (ub K (Nat.le_refl K)), mb2_s]
  generalize hM1 : mset (mset M 837 (1200 * n + K) (sI (u K))) 836 n (sI (K + 1)) = M1
  have f1 : ∀ a y, ¬ (a = 836 ∧ y = n) → ¬ (a = 837 ∧ y = 1200 * n + K) → M1 a y = M a y := fun a y w1 w2 => by rw [← hM1, mset_n w1, mset_n w2]
  have v36 : M1 836 n = sI (K + 1) := by rw [← hM1, mset_s]
  have v37 : ∀ i, i < K + 1 → M1 837 (1200 * n + i) = sI (u i) := fun i w => by
    by_cases z : i = K
    · rw [z, ← hM1, mset_n (by omega), mset_s]
    · rw [f1 837 _ (by omega) (by omega), ui i (by omega)]
      exact k7 i (by omega)
  obtain ⟨E, hV⟩ := CaV_ex (s := u) (K := K + 1) (by omega) (by omega) u0 (fun i w => ub i (by omega)) ug
  obtain ⟨⟨r2, M2, L2⟩, em, b1, b2, b3, b4⟩ := m_read (fu := fu) (M := M1) (L := Lm) (s := u) hfu hn v36 v37 u0 hV ug (CA_fr hC (fun a y w => f1 a y (by omega) (by omega)))
  dsimp only at b1 b2 b3 b4
  have rl : rLast u (K + 1) = rAll (u K) (hq u K) := by
    unfold rLast
    rw [if_neg (by omega), Nat.add_sub_cancel]
  rw [rl] at b1
  rw [b1, b2] at em
  rw [em, mb3_s]
  generalize hr : rAll (u K) (hq u K) = r at *
  have fM2 : ∀ a y, ¬ (a = 836 ∧ y = n) → ¬ (a = 837 ∧ y = 1200 * n + K) → ¬ (a = 821 ∧ (y = 34 ∨ (41 ≤ y ∧ y ≤ 46) ∨ y = 48 ∨ y = 49)) → a ≠ 848 → a ≠ 852 → a ≠ 853 → M2 a y = M a y := fun a y w1 w2 w3 w4 w5 w6 => by rw [b3 a y w3 w4 w5 w6, f1 a y w1 w2]
  have v36' : M2 836 n = sI (K + 1) := by rw [b3 836 n (by omega) (by omega) (by omega) (by omega)]; exact v36
  have v37' : ∀ i, i < K + 1 → M2 837 (1200 * n + i) = sI (u i) := fun i w => by rw [b3 837 _ (by omega) (by omega) (by omega) (by omega)]; exact v37 i w
  have hW2 : WC M2 F id oc := WC_fr hW (fun a y w => fM2 a y (by omega) (by omega) (by omega) (by omega) (by omega) (by omega))
  have hG2 : BuG A1 M2 N t F ow id oc dn ec tc := BuG_fr hG (fun a y w => a5 a y (by omega) (by omega)) (fun a y w => fM2 a y (by omega) (by omega) (by omega) (by omega) (by omega) (by omega)) hW2 b4
  have hA1 : ndA n A A1 := fun a y w => a5 a y (by omega) (by omega)
  have hM2 : ndM n M M2 := fun a y w => fM2 a y (by omega) (by omega) (by omega) (by omega) (by omega) (by omega)
  have rb : r < 8 := by
    rw [← hr]
    unfold rAll
    split
    · unfold rFix
      split
      · split <;> omega
      · split <;> omega
    · split
      · unfold rTail
        split
        · omega
        · split
          · split <;> omega
          · split
            · omega
            · split
              · omega
              · split <;> omega
      · unfold rBody
        split
        · split <;> omega
        · by_cases z : u K = 1 ∧ hPl0 (u K) (hq u K) 13 = 1 ∧ hq u K 5 = (if hPl0 (u K) (hq u K) 12 = 1 then 34 else 15)
          · rw [if_pos z]; omega
          · rw [if_neg z]; omega
  have li : r = 0 ∨ r = 6 → LiR A1 M2 n (K + 1) u := fun z => by
    obtain ⟨e1, e2⟩ := a3 z
    refine ⟨by omega, ?_, u0, fun i w => ub i (by omega), fun j w1 w2 => ?_, v36', v37', e1, o0, e2⟩
    · omega
    · by_cases y : j = K
      · rw [y, hr]; exact z
      · exact ug j w1 (by omega)
  have pgK : r = 0 ∨ r = 6 → pgL (hq u K) K = K := fun z => by
    unfold pgL
    rw [if_neg]
    intro y
    have : rAll (u K) (hq u K) = 5 ∨ rAll (u K) (hq u K) = 7 := by
      unfold rAll
      rw [if_neg (by omega), if_pos y.1]
      exact rTail_9 y.2
    omega
  have ptc : 40 * tc n ≤ t := by omega
  by_cases c6 : r = 6
  · -- taken
    rw [c6] at hr
    obtain ⟨t1, t2, t3, t4⟩ := tk_at k1 u0 (fun i w => ub i (by omega)) ug hr
    have pk := pgK (Or.inr c6)
    have li6 := li (Or.inr c6)
    obtain ⟨EA, OA⟩ := a3 (Or.inr c6)
    subst c6
    rw [if_pos (show rI 6 = -2 from rfl), if_pos (show rmI 6 = 10 from rfl), mck_s hn (by omega), mck_s hn (by omega)]
    simp only [mlet]
    rw [mset_n (show ¬ (20 = 31 ∧ 12 = n) by omega), a5 31 n (by omega) (by omega), (g14 n hn).2.1, sI_1, a5 20 12 (by omega) (by omega)]
    have EK : E ≤ K := by
      have hHV := hV.2.2.2
      by_cases c : E ≤ K
      · exact c
      · exfalso
        have := (hHV.2.2.1 K k1 (by omega) (by omega)).2.1
        omega
    obtain ⟨⟨M3, L3⟩, et, d1, d2, d3⟩ := m_take12 (fu := fu) (M := M2) (L := Lm) (s := u) hfu hn v36' v37' u0 hV (by omega) ug b4 (by rw [fM2 834 n (by omega) (by omega) (by omega) (by omega) (by omega) (by omega)]; exact (g14 n hn).2.2.1) (by rw [fM2 835 n (by omega) (by omega) (by omega) (by omega) (by omega) (by omega)]; exact (g14 n hn).2.2.2) (show M2 821 22 = sI (s7 tc) by rw [fM2 821 22 (by omega) (by omega) (by omega) (by omega) (by omega) (by omega)]; exact g15) (by
      have := s7_le (f := tc) (b := 500) (fun m w => by have := (g18 m w).2; omega)
      omega)
    dsimp only at d1 d2 d3
    rw [d1] at et
    rw [et]
    obtain ⟨p1, p2, p3, p4, p5, p6, p7, p8⟩ := d2
    have fA : ∀ a y, ¬ (a = 31 ∧ y = n) → ¬ (a = 20 ∧ y = 12) → mset (mset A1 31 n (sI (tc n + 1))) 20 12 (A 20 12 ||| (1 <<< (sI n &&& 31))) a y = A1 a y := fun a y w1 w2 => by rw [mset_n w2, mset_n w1]
    have ts := s7_s (f := tc) hn
    -- what both know of it
    obtain ⟨e, hB⟩ := BE_K o0 K k1 u0 (fun i w => ub i (by omega)) ug
    have ek := t4 o0 e hB
    have eE : e = E := by
      have hv1 : HV u (K + 1) e := by
        refine ⟨hB.1, by omega, fun j w1 w2 w3 => ?_, fun j w1 w2 w3 => ?_, fun _ _ => ?_⟩
        · have := hB.2.2.1 j w1 (by omega) w2
          have hz := BE_K z0 K k1 u0 (fun i w => ub i (by omega)) ug
          obtain ⟨e', hB'⟩ := hz
          have ek' := t4 z0 e' hB'
          -- the same end
          by_cases q : j < e'
          · exact hB'.2.2.1 j w1 (by omega) q
          · exfalso
            have s1 := this.2.1
            obtain ⟨i, hi⟩ : ∃ i, j = e' + i := ⟨j - e', by omega⟩
            have s2 := (hB'.2.2.2 i (by omega)).1
            rw [← hi] at s2
            have s3 := (ET_b s2 (fun x w => ub x (by omega))).2.2.1
            omega
        · have := hB.2.2.1 j w1 (by omega) (by omega)
          have g := ug j w1 (by omega)
          rw [(rAll_0 this.2.1).1] at g
          rcases g with z | z
          · exact z
          · exact absurd z rBody_6
        · have := (hB.2.2.2 0 (by omega)).1
          have hd := this.1.2
          intro z
          omega
      exact HV_u hv1 hV.2.2.2
    subst eE
    obtain ⟨iK, hiK⟩ : ∃ iK, K = e + iK := ⟨K - e, by omega⟩
    obtain ⟨hT, _, ho⟩ := hB.2.2.2 iK (by omega)
    rw [← hiK] at hT ho
    obtain ⟨hT', _⟩ := ET_s hT (show u (e + iK) = u K by rw [← hiK]) (by rw [hr]; exact Or.inr rfl)
    rw [← hq_s k1] at hT'
    obtain ⟨x10, x11, x12, x13, x14, x15, x16⟩ := ET_c hT'
    have hD := hT.1
    obtain ⟨e1', e2', e3', e4', e5', e6'⟩ := ED_e hD
    obtain ⟨⟨q1, _, _, _, _, _, _, _, _, _, _, q12⟩, _⟩ := hD
    obtain ⟨w11, w12, w13, _, _, w16, _, w14, _⟩ := PI_b q1
    have ooK : oq u o0 (K + 1) = oq u o0 e := by
      rw [oq_s k1, ← ho]
      exact if_neg (by omega)
    refine ⟨_, M3, dn, ec, nst tc n (tc n + 1), rfl, rfl, ⟨_, OcR_f OA (fun y => fA _ y (by omega) (by omega))⟩, ⟨g1, ⟨by rw [fA 20 8 (by omega) (by omega), a5 20 8 (by omega) (by omega)]; exact g2, by rw [p8 821 1 (by omega) (by omega) (by omega) (by omega) (by omega) (by omega), fM2 821 1 (by omega) (by omega) (by omega) (by omega) (by omega) (by omega)]; exact g3, by rw [p8 821 2 (by omega) (by omega) (by omega) (by omega) (by omega) (by omega), fM2 821 2 (by omega) (by omega) (by omega) (by omega) (by omega) (by omega)]; exact g4⟩, FrC_fr g5 (fun a y w => by rw [fA a y (by omega) (by omega), a5 a y (by omega) (by omega)]), FrM_fr g6 (fun a y w => by rw [p8 a y (by omega) (by omega) (by omega) (by omega) (by omega) (by omega), fM2 a y (by omega) (by omega) (by omega) (by omega) (by omega) (by omega)]), WC_fr hW2 (fun a y w => p8 a y (by omega) (by omega) (by omega) (by omega) (by omega) (by omega)), d3, ⟨by rw [fA 20 10 (by omega) (by omega), a5 20 10 (by omega) (by omega)]; exact g9, by rw [p8 821 29 (by omega) (by omega) (by omega) (by omega) (by omega) (by omega), fM2 821 29 (by omega) (by omega) (by omega) (by omega) (by omega) (by omega)]; exact g10, fun i w => ?_⟩, ⟨by rw [fA 20 11 (by omega) (by omega), a5 20 11 (by omega) (by omega)]; exact g12, by rw [p8 821 11 (by omega) (by omega) (by omega) (by omega) (by omega) (by omega), fM2 821 11 (by omega) (by omega) (by omega) (by omega) (by omega) (by omega)]; exact g13⟩, fun m w => ?_, by rw [ts]; exact p7, ⟨nst tn (s7 tc) n, fun k w => ?_, fun m w => ?_⟩, fun m w => ?_⟩, Or.inr (Or.inr (Or.inl ⟨u, K + 1, ?_, ?_, ?_, by omega, ?_⟩)), ?_, ?_, fun _ _ => rfl, fun m w => ⟨rfl, nst_n w⟩, Or.inr ⟨nst_s, mset_s, ts, p1, hq u (K + 1), oq u o0 (K + 1), EaR_f EA (fun y => fA _ y (by omega) (by omega)), OcR_f OA (fun y => fA _ y (by omega) (by omega)), by rw [x11]; exact w11, by rw [x12]; exact w12, by rw [x13]; exact w13, by rw [x14]; exact w14, by rw [x16, x13, x11, x14]; exact PI_16 q1 e3', by rw [x10]; exact PI_id q1, by rw [x10]; exact p2, by unfold kdH; rw [x11, x12, x13]; exact p3, by rw [x14]; exact p4, fun i w => ?_⟩, fun z => by rw [ts] at z; omega, fun a y w => ?_⟩
    · obtain ⟨k', n', tt, z1, z2, z3, z4, z5, z6, z7⟩ := g11 i w
      exact ⟨k', n', tt, z1, z2, z3, by rw [fA 23 i (by omega) (by omega), a5 23 i (by omega) (by omega)]; exact z4, by rw [p8 845 i (by omega) (by omega) (by omega) (by omega) (by omega) (by omega), fM2 845 i (by omega) (by omega) (by omega) (by omega) (by omega) (by omega)]; exact z5, by rw [p8 846 i (by omega) (by omega) (by omega) (by omega) (by omega) (by omega), fM2 846 i (by omega) (by omega) (by omega) (by omega) (by omega) (by omega)]; exact z6, by rw [p8 847 i (by omega) (by omega) (by omega) (by omega) (by omega) (by omega), fM2 847 i (by omega) (by omega) (by omega) (by omega) (by omega) (by omega)]; exact z7⟩
    · obtain ⟨z1, z2, z3, z4⟩ := g14 m w
      refine ⟨by rw [fA 30 m (by omega) (by omega), a5 30 m (by omega) (by omega)]; exact z1, ?_, by rw [p8 834 m (by omega) (by omega) (by omega) (by omega) (by omega) (by omega), fM2 834 m (by omega) (by omega) (by omega) (by omega) (by omega) (by omega)]; exact z3, by rw [p8 835 m (by omega) (by omega) (by omega) (by omega) (by omega) (by omega), fM2 835 m (by omega) (by omega) (by omega) (by omega) (by omega) (by omega)]; exact z4⟩
      by_cases q : m = n
      · rw [q, nst_s, mset_n (by omega), mset_s]
      · rw [nst_n q, fA 31 m (by omega) (by omega), a5 31 m (by omega) (by omega)]
        exact z2
    · rw [ts] at w
      by_cases q : k = s7 tc
      · rw [q, nst_s]
        exact ⟨p1, hn⟩
      · rw [nst_n q, p8 839 k (by omega) (by omega) (by omega) (by omega) (by omega) (by omega), fM2 839 k (by omega) (by omega) (by omega) (by omega) (by omega) (by omega)]
        exact g16 k (by omega)
    · rw [ts, cnt_s1, g17 m w]
      by_cases q : n = m
      · rw [if_pos q, ← q, nst_s]
      · rw [if_neg q, nst_n (fun z => q z.symm), Nat.add_zero]
    · by_cases q : m = n
      · rw [q, nst_s]
        exact ⟨(g18 n hn).1, by omega⟩
      · rw [nst_n q]
        exact g18 m w
    · rw [fA 25 n (by omega) (by omega), a5 25 n (by omega) (by omega)]
      exact h25
    · rw [p8 831 n (by omega) (by omega) (by omega) (by omega) (by omega) (by omega), fM2 831 n (by omega) (by omega) (by omega) (by omega) (by omega) (by omega)]
      exact h831
    · exact LiR_fr li6 (fun a y w => fA a y (by omega) (by omega)) (fun a y w => p8 a y (by omega) (by omega) (by omega) (by omega) (by omega) (by omega))
    · rw [nst_s]
      have : pgL (hq u (K + 1)) (K + 1) = 0 := by
        have hn9 : hq u (K + 1) = nst (hq u K) 6 (hq u K 6 + 1) := by
          rw [hq_s k1]
          unfold hAll
          rw [if_neg (show ¬ hq u K 1 = 1 by omega), if_pos t3]
        unfold pgL
        rw [hn9, if_pos (show nst (hq u K) 6 (hq u K 6 + 1) 1 = 2 ∧ nst (hq u K) 6 (hq u K 6 + 1) 6 = 9 from ⟨t3, by rw [nst_s, t2]⟩)]
      omega
    · exact ndA_t hA1 (fun a y w => fA a y (by omega) (by omega))
    · exact ndM_t hM2 (fun a y w => p8 a y (by omega) (by omega) (by omega) (by omega) (by omega) (by omega))
    · rw [x16] at w
      rw [p6 i w, ooK]
      have oi := q12 i w (by omega)
      rw [show min 8 (hq u e 5 - (hq u e 15 + 4 + 8 * i)) = 8 by omega] at oi
      have o256 := (OA i (by omega)).2
      rw [ooK] at o256
      rw [Nat.mod_eq_of_lt o256] at oi
      rw [oi]
    · rw [p8 a y (by omega) (by omega) (by omega) (by omega) (by omega) (by omega), fM2 a y (by omega) (by omega) (by omega) (by omega) (by omega) (by omega)]
  · by_cases c7 : r = 7
    · subst c7
      rw [if_neg (show ¬ rI 7 = -2 by decide), if_pos (show rI 7 = -3 from rfl), if_neg (show ¬ rmI 7 = 10 by decide), if_pos (show rmI 7 = 11 from rfl)]
      unfold DX0_become DX12_go
      simp only [mlet]
      simp (disch := omega) only [mck_s, sI_nn]
      refine st_calm (BuG_fr hG2 (fun a y w => by simp (disch := omega) only [mset_n]) (fun a y w => by simp (disch := omega) only [mset_n]) (WC_fr hW2 (fun a y w => by simp (disch := omega) only [mset_n])) (CA_fr b4 (fun a y w => by simp (disch := omega) only [mset_n]))) (Or.inr (Or.inr (Or.inr ⟨6, 3, by omega, by omega, by rw [mset_n (by omega), mset_s]; rfl, by rw [mset_n (by omega), mset_s]; rfl, fun _ => ⟨by rw [mset_s]; rfl, by rw [mset_s]; rfl, by omega, by omega⟩, fun z => by omega, fun z => by omega, fun _ => by omega, by omega⟩))) (ndA_t hA1 (fun a y w => by simp (disch := omega) only [mset_n])) (ndM_t hM2 (fun a y w => by simp (disch := omega) only [mset_n])) (by rw [mset_n (by omega), mset_n (by omega), a5 20 12 (by omega) (by omega)]) (fun a y w => by rw [mset_n (by omega), mset_n (by omega), fM2 a y (by omega) (by omega) (by omega) (by omega) (by omega) (by omega)]) (oc_own a4 (fun y => by simp (disch := omega) only [mset_n]))
    · by_cases c0 : r = 0
      · subst c0
        rw [if_neg (show ¬ rI 0 = -2 by decide), if_neg (show ¬ rI 0 = -3 by decide), if_pos (show rI 0 = -1 from rfl), if_neg (show ¬ rmI 0 = 10 by decide), if_neg (show ¬ rmI 0 = 11 by decide), if_pos (show rmI 0 = -1 from rfl)]
        have pk := pgK (Or.inl rfl)
        refine st_calm hG2 (Or.inr (Or.inr (Or.inl ⟨u, K + 1, by rw [a5 25 n (by omega) (by omega)]; exact h25, by rw [fM2 831 n (by omega) (by omega) (by omega) (by omega) (by omega) (by omega)]; exact h831, li (Or.inl rfl), by omega, ?_⟩))) hA1 hM2 (a5 20 12 (by omega) (by omega)) (fun a y w => fM2 a y (by omega) (by omega) (by omega) (by omega) (by omega) (by omega)) a4
        have : pgL (hq u (K + 1)) (K + 1) ≤ K + 1 := by unfold pgL; split <;> omega
        omega
      · have er : rI r = sI r := by
          unfold rI
          rw [if_neg c0, if_neg c6, if_neg c7]
        have em' : rmI r = sI r := by
          unfold rmI
          rw [if_neg c0, if_neg c6, if_neg c7]
        have neq : ∀ v : Int32, v = -2 ∨ v = -3 ∨ v = -1 → ¬ sI r = v := by
          have : ∀ r, r < 8 → ∀ v : Int32, v = -2 ∨ v = -3 ∨ v = -1 → ¬ sI r = v := by
            intro r hr8 v hv
            rcases (show r = 0 ∨ r = 1 ∨ r = 2 ∨ r = 3 ∨ r = 4 ∨ r = 5 ∨ r = 6 ∨ r = 7 by omega) with rfl | rfl | rfl | rfl | rfl | rfl | rfl | rfl <;> rcases hv with rfl | rfl | rfl <;> decide
          exact this r rb
        rw [er, em', if_neg (neq _ (Or.inl rfl)), if_neg (neq _ (Or.inr (Or.inl rfl))), if_neg (neq _ (Or.inr (Or.inr rfl))), if_neg (show ¬ sI r = 10 by rw [sI_eql (by omega) (by decide)]; omega), if_neg (show ¬ sI r = 11 by rw [sI_eql (by omega) (by decide)]; omega), if_neg (neq _ (Or.inr (Or.inr rfl)))]
        exact st_fault hn rb hG2 hA1 hM2 pe (by omega) (a5 20 12 (by omega) (by omega)) (fun a y w => fM2 a y (by omega) (by omega) (by omega) (by omega) (by omega) (by omega)) a4
