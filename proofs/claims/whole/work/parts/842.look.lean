/-! one node looks at what it has taken -/
abbrev lkA (A A' : mwM) : Prop := ∀ a y, ¬ (86 ≤ a ∧ a ≤ 91) → a ≠ 96 → ¬ (137 ≤ a ∧ a ≤ 138) → ¬ (a = 139 ∧ (y = 3 ∨ y = 5)) → ¬ (144 ≤ a ∧ a ≤ 150) → ¬ (154 ≤ a ∧ a ≤ 273) → ¬ (275 ≤ a ∧ a ≤ 282) → a ≠ 290 → ¬ (a = 292 ∧ (y = 1 ∨ y = 2 ∨ y = 3)) → ¬ (a = 3 ∧ (y = 17 ∨ y = 18)) → ¬ (293 ≤ a ∧ (((a - 293) % 36 = 0 ∧ y = 11) ∨ (a - 293) % 36 = 35)) → A' a y = A a y
abbrev lkM (M M' : mwM) : Prop := ∀ a y, ¬ (a = 732 ∧ (y = 88 ∨ y = 91 ∨ y = 95 ∨ y = 97 ∨ y = 98 ∨ y = 102 ∨ y = 108)) → ¬ (a = 821 ∧ y = 0) → a ≠ 752 → a ≠ 753 → a ≠ 773 → a ≠ 854 → a ≠ 858 → a ≠ 859 → ¬ (863 ≤ a ∧ a ≤ 920) → a ≠ 924 → ¬ (926 ≤ a ∧ a ≤ 938) → ¬ (a = 939 ∧ (y = 1 ∨ y = 2 ∨ y = 3)) → ¬ (964 ≤ a ∧ (a - 964) % 53 = 0 ∧ y = 0) → M' a y = M a y
abbrev lkC (L L' : mwL) : Prop := ∀ a y, a ≠ 291 → ¬ (293 ≤ a ∧ (a - 293) % 36 = 34 ∧ y < 32) → L' a y = L a y
abbrev lkL (L L' : mwL) : Prop := ∀ a y, a ≠ 774 → a ≠ 778 → a ≠ 786 → ¬ (a = 881 ∨ a = 889 ∨ a = 897) → ¬ (964 ≤ a ∧ (a - 964) % 53 = 21 ∧ y < 32) → L' a y = L a y
theorem TkB_M {A M M' : mwM} {Lc Lm : mwL} {S F W R X t E : Nat} {d : Nat → Nat → Nat} {tu : Nat → Bool} {g : Nat → Nat → Nat} {own Sb bd : Nat → Nat} (h : TkB A M Lc Lm S F W R X t E d tu g own Sb bd) (hM : ∀ a y, a ≠ 924 → a ≠ 926 → ¬ (a = 821 ∧ y = 0) → M' a y = M a y) : TkB A M' Lc Lm S F W R X t E d tu g own Sb bd := by
  obtain ⟨kS, kO, kR, kQ, kW, kT, kC, kK, kN, k1, k2, k16, k83, kt⟩ := h
  refine ⟨FrS_f kS (fun _ _ _ => rfl) (fun a y u => hM a y (by omega) (by omega) (by omega)), ChO_f kO (fun _ _ => rfl) (fun a y u => hM a y (by omega) (by omega) (by omega)), RdR_f kR (fun _ _ _ => rfl) (fun a y u => hM a y (by omega) (by omega) (by omega)) (fun _ => rfl) (fun _ => rfl), fun x hx => QdR_f (kQ x hx) (fun _ _ _ => rfl) (fun a y u => hM a y (by omega) (by omega) (by omega)) (fun _ => rfl) (fun _ => rfl), WtR_f kW (fun _ _ _ => rfl) (fun a y u => hM a y (by omega) (by omega) (by omega)) (fun _ => rfl), RTr_fr kT (fun _ _ _ _ => rfl) (fun a y u1 u2 u3 => hM a y (by omega) (by omega) (by omega)), RCd_fr kC (fun _ _ _ _ => rfl) (fun a y u => hM a y (by omega) (by omega) (by omega)), kK, kN, ?_, ?_, k16, ?_, kt⟩
  · rw [hM _ _ (by omega) (by omega) (by omega)]; exact k1
  · rw [hM _ _ (by omega) (by omega) (by omega)]; exact k2
  · rw [hM _ _ (by omega) (by omega) (by omega)]; exact k83
theorem TrB_f {A A' M M' : mwM} {Lm Lm' : mwL} {C : Nat} {Sb : Nat → Nat} {p : PB} {o : Nat → Nat → Nat} {e : Nat → Nat} (h : TrB A M Lm C Sb p o e) (hA : ∀ a y, (a = 3 ∧ (y = 17 ∨ y = 18)) ∨ (101 ≤ a ∧ a ≤ 136) ∨ (154 ≤ a ∧ a ≤ 273) ∨ (275 ≤ a ∧ a ≤ 280) ∨ (a = 292 ∧ y = 3) → A' a y = A a y) (hM : ∀ a y, (a = 732 ∧ (y = 88 ∨ (91 ≤ y ∧ y ≤ 98) ∨ y = 108)) ∨ (869 ≤ a ∧ a ≤ 901) ∨ (927 ≤ a ∧ a ≤ 931) ∨ (934 ≤ a ∧ a ≤ 938) ∨ (a = 939 ∧ y = 3) → M' a y = M a y) (hL : ∀ a y, 869 ≤ a → a ≤ 901 → Lm' a y = Lm a y) : TrB A' M' Lm' C Sb p o e := by
  obtain ⟨hv, hC, hM1, hN, hT, hC1, h17, h3, hAn, hQu, hK16, hG⟩ := h
  refine ⟨hv, TfC_w hC hv.1.1 (fun a y u1 u2 => hA a y (by omega)), TfM_fr hM1 (fun a y u1 u2 u3 u4 => hM a y (by omega)) hL, TfN_fr hN (fun a y u => hM a y (by omega)), hT, hC1, ?_, ?_, ?_, QuR_fr hQu (fun a y u => hA a y (by omega)) (fun a y u => hM a y (by omega)), KnC_f hK16 (by omega) (fun a y u1 u2 => hA a y (by omega)), hG⟩
  · rw [hA _ _ (by omega), hM _ _ (by omega)]; exact h17
  · rw [hA _ _ (by omega), hM _ _ (by omega)]; exact h3
  · rcases hAn with ⟨y1, y2⟩ | ⟨x, m1, m2, m3, m4, m5⟩
    · exact Or.inl ⟨by rw [hA _ _ (by omega)]; exact y1, by rw [hM _ _ (by omega)]; exact y2⟩
    · exact Or.inr ⟨x, m1, m2, by rw [hA _ _ (by omega)]; exact m3, by rw [hM _ _ (by omega)]; exact m4, fun j hj => by rw [hM _ _ (by omega)]; exact m5 j hj⟩
theorem TkB_bd {A M : mwM} {Lc Lm : mwL} {S F W R X t E : Nat} {d : Nat → Nat → Nat} {tu : Nat → Bool} {g : Nat → Nat → Nat} {own Sb bd bd' : Nat → Nat} (h : TkB A M Lc Lm S F W R X t E d tu g own Sb bd) (hb : ∀ x, x < 6 → bd x ≤ bd' x) : TkB A M Lc Lm S F W R X t E d tu g own Sb bd' := by
  obtain ⟨kS, kO, kR, kQ, kW, kT, kC, kK, kN, k1, k2, k16, k83, kt⟩ := h
  exact ⟨kS, kO, kR, kQ, kW, kT, kC, kK, fun f hf c hc => by
    obtain ⟨cn, n1, n2, n3⟩ := kN f hf c hc
    exact ⟨cn, Nat.le_trans n1 (hb c hc), n2, n3⟩, k1, k2, k16, k83, kt⟩
/-- what holds while the nodes look, those below n have looked -/
def LkZ (A M : mwM) (Lc Lm : mwL) (C S F W R X t E : Nat) (d : Nat → Nat → Nat) (tu : Nat → Bool) (g : Nat → Nat → Nat) (own Sb bd : Nat → Nat) (p : PB) (o : Nat → Nat → Nat) (e ec tc tc' fl : Nat → Nat) (mk n : Nat) : Prop :=
  TkB A M Lc Lm S F W R X t E d tu g own Sb bd ∧ TrB A M Lm C Sb p o e ∧ BusE A M (C + 1) t ec tc' fl ∧ FrE A M (C + 1) tc tc' mk ∧ M 732 19 = sI C ∧ A 3 13 = sI C ∧ ∀ k, k ≤ C → M 924 k = sI (if k < n then tc' k else tc k)
/-- what a node's look comes to -/
def LnQ (A M : mwM) (Lc Lm : mwL) (C S F W R X t E : Nat) (d : Nat → Nat → Nat) (tu : Nat → Bool) (g : Nat → Nat → Nat) (own Sb bd : Nat → Nat) (τ : Nat) (ec tc tc' fl : Nat → Nat) (mk n : Nat) (rrC : (Int32 × mwM × mwL) → Option (mwM × mwL)) (oc om : Option (mwM × mwL)) : Prop :=
  ∃ (A' : mwM) (Lc' : mwL) (M' : mwM) (Lm' : mwL) (E' : Nat) (p' : PB) (o' : Nat → Nat → Nat) (e' : Nat → Nat), oc = rrC (sI (n + 1), A', Lc') ∧ om = some (M', Lm') ∧ LkZ A' M' Lc' Lm' C S F W R X t E' d tu g own Sb (fun x => if x = n then bd x + 64 else bd x) p' o' e' ec tc tc' fl mk (n + 1) ∧ E ≤ E' ∧ E' ≤ E + 30 ∧ p'.1 0 3 = τ ∧ lkA A A' ∧ lkM M M' ∧ lkC Lc Lc' ∧ lkL Lm Lm'
theorem st_lookn {fu n C S F W R X t E mk : Nat} {d : Nat → Nat → Nat} {tu : Nat → Bool} {g : Nat → Nat → Nat} {own Sb bd : Nat → Nat} {A M : mwM} {Lc Lm : mwL} {p : PB} {o : Nat → Nat → Nat} {e ec tc tc' fl : Nat → Nat} (rrC : (Int32 × mwM × mwL) → Option (mwM × mwL)) (hfu : 5000 ≤ fu) (hn : n ≤ C) (hC6 : C ≤ 6) (hmk : mk < 128) (hE : E < 800000000) (hbd : ∀ c, c < 6 → bd c < 1000000000) (hZ : LkZ A M Lc Lm C S F W R X t E d tu g own Sb bd p o e ec tc tc' fl mk n) : LnQ A M Lc Lm C S F W R X t E d tu g own Sb bd (p.1 0 3) ec tc tc' fl mk n rrC (fX1_takeFrames_i2 fu rrC (sI n) A Lc) (DX19_lookAt fu (sI n) M Lm) := by
  obtain ⟨hTk, hTr, hBu, hFr, h19, h13, h924⟩ := hZ
  obtain ⟨Fb, ow, idb, ocb, dn, asl, hBR⟩ := id hBu
  obtain ⟨⟨b1, ⟨b2, b3, b4⟩, b5, b6, b7, b8, b9, b10, b11, b12, ⟨tn, b13, b14⟩, b15⟩, _⟩ := hBR
  have bdle : ∀ x, x < 6 → bd x ≤ (fun x => if x = n then bd x + 64 else bd x) x := fun x _ => by dsimp only; split <;> omega
  have tc0 := (b15 0 (by omega)).2
  have tc1 := (b15 1 (by omega)).2
  have tc2 := (b15 2 (by omega)).2
  have tc3 := (b15 3 (by omega)).2
  have tc4 := (b15 4 (by omega)).2
  have tc5 := (b15 5 (by omega)).2
  have tc6 := (b15 6 (by omega)).2
  have hT36 : s7 tc' ≤ 3600 := by unfold s7; omega
  have hTn : TnR M (s7 tc') tc' := ⟨tn, b13, b14⟩
  have many := m_takenC (fu := fu) (n := n) (L := Lm) hfu b3 (by omega) (show n < C + 1 by omega) b12 hT36 hTn
  have htcn : tc' n < 2000 := by
    have := (b15 n (by omega)).2
    omega
  obtain ⟨f20, fr⟩ := id hFr
  -- nothing more for this node
  have endM : ∀ (q : Nat) (B : mwM) (Q : mwL), B 924 n = sI (tc' n) → fX19_lookAt_h11 fu (sI n) (q + 1) (sI (tc' n), B, Q) = some (B, Q) := fun q B Q hB => by
    show fX19_lookAt_i11 fu (sI n) (fX19_lookAt_h11 fu (sI n) q) (sI (tc' n)) B Q = _
    unfold fX19_lookAt_i11
    rw [mck_s (by omega) (by omega), sI_nn (by omega), hB, if_pos (by rw [sI_le (by omega) (by omega)]; omega)]
  unfold DX19_lookAt fX1_takeFrames_i2 fX1_takeFrames_b107
  rw [many, mb3_s, h13, if_neg (show ¬ sI C < sI n by rw [sI_lt (by omega) (by omega)]; omega), mck_s (show n < 7 by omega) (by omega), f20, mk_bit mk hmk n (by omega)]
  have h924n := h924 n hn
  rw [if_neg (by omega)] at h924n
  obtain ⟨q0, hq0⟩ : ∃ q, fu = q + 1 + 1 := ⟨fu - 2, by omega⟩
  -- the class goes on, and the reference's look is over
  have over : ∀ (B : mwM), B 924 n = sI (tc' n) → (∀ a y, ¬ (a = 821 ∧ y = 0) → ¬ (a = 924 ∧ y = n) → a ≠ 926 → B a y = M a y) → LnQ A M Lc Lm C S F W R X t E d tu g own Sb bd (p.1 0 3) ec tc tc' fl mk n rrC (rrC (sI (n + 1), A, Lc)) (some (B, Lm)) := by
    intro B hB fB
    refine ⟨A, Lc, B, Lm, E, p, o, e, rfl, rfl, ⟨TkB_bd (TkB_M hTk (fun a y u1 u2 u3 => fB a y u3 (by omega) u2)) bdle, TrB_f hTr (fun _ _ _ => rfl) (fun a y u => fB a y (by omega) (by omega) (by omega)) (fun _ _ _ _ => rfl), BusE_fr hBu (fun _ _ _ _ => rfl) (fun a y u1 u2 u3 => fB a y u3 (by omega) (by omega)), FrE_f hFr (fun _ _ _ => rfl) (fun a y u1 u2 => fB a y (by omega) (by omega) (by omega)), by rw [fB _ _ (by omega) (by omega) (by omega)]; exact h19, h13, fun k hk => ?_⟩, by omega, by omega, rfl, fun _ _ _ _ _ _ _ _ _ _ _ _ _ => rfl, fun a y u1 u2 u3 u4 u5 u6 u7 u8 u9 u10 u11 u12 u13 => fB a y u2 (by omega) (by omega), fun _ _ _ _ => rfl, fun _ _ _ _ _ _ _ => rfl⟩
    by_cases ek : k = n
    · rw [ek, if_pos (by omega)]; exact hB
    · rw [fB _ _ (by omega) (by omega) (by omega)]
      have := h924 k hk
      by_cases lt : k < n
      · rw [if_pos lt] at this; rw [if_pos (by omega)]; exact this
      · rw [if_neg lt] at this; rw [if_neg (by omega)]; exact this
  rcases fr n (by omega) with ⟨g1, g2, g3, k0, g4, g5, g6, h, ov, e1, e2, e3, e4, e5, e6, e7, e8, e9, e10, e11, e12⟩ | ⟨g1, g2⟩
  · -- it has taken a frame
    rw [if_neg (by rw [g1]; decide), sI_nn (show n < 2000000000 by omega), c_kind e1 e3 e4 e5, mb3_s]
    have hk0 : tn k0 = n := by
      obtain ⟨t1, t2⟩ := b13 k0 g5
      exact sI_inj (by omega) (by omega) (by rw [← t1, g6])
    have hle : ∀ m, m < 7 → tc m ≤ tc' m := fun m hm => by
      rcases fr m hm with ⟨_, _, z, _⟩ | ⟨_, z⟩ <;> omega
    have hcnt : cnt (fun k => decide (tn k = n)) k0 = tc n := by
      refine tn_pre (tc := tc) (tc' := tc') (fun k hk => (b13 k hk).2) b14 ?_ (fun m hm => ?_) n (by omega) k0 g4 g5 hk0 g3
      · have z0 := hle 0 (by omega)
        have z1 := hle 1 (by omega)
        have z2 := hle 2 (by omega)
        have z3 := hle 3 (by omega)
        have z4 := hle 4 (by omega)
        have z5 := hle 5 (by omega)
        have z6 := hle 6 (by omega)
        unfold s7
        omega
      · rcases fr m hm with ⟨_, _, z, x, x1, x2, x3, _⟩ | ⟨_, z⟩
        · refine Or.inl ⟨z, x, x1, x2, ?_⟩
          obtain ⟨t1, t2⟩ := b13 x x2
          exact sI_inj (by omega) (by omega) (by rw [← t1, x3])
        · exact Or.inr z
    generalize hP0 : mset (mset M 821 0 0) 924 n (sI (tc n + 1)) = P0
    have tP0 : ∀ a y, ¬ (a = 821 ∧ y = 0) → ¬ (a = 924 ∧ y = n) → P0 a y = M a y := fun a y u1 u2 => by rw [← hP0, mset_n u2, mset_n u1]
    have p924 : P0 924 n = sI (tc' n) := by rw [← hP0, mset_s, g3]
    have tk3 : ∀ B : mwM, (∀ a y, ¬ (a = 821 ∧ y = 0) → B a y = P0 a y) → _ := fun B hB => m_taken3 (fu := fu) (n := n) (N := C + 1) (i := tc n) (T := s7 tc') (k0 := k0) (id := h 10) (kd := 0) (co := h 14) (tn := tn) (e := h 12) (f := h 13) (r := h 11) (M := B) (L := Lm) hfu (by rw [hB _ _ (by omega), tP0 _ _ (by omega) (by omega)]; exact b3) (by omega) (by omega) (by rw [hB _ _ (by omega), tP0 _ _ (by omega) (by omega)]; exact b12) hT36 (fun k hk => by rw [hB _ _ (by omega), tP0 _ _ (by omega) (by omega)]; exact b13 k hk) g5 hk0 hcnt (by rw [hB _ _ (by omega), tP0 _ _ (by omega) (by omega)]; exact e9) (by rw [hB _ _ (by omega), tP0 _ _ (by omega) (by omega)]; exact e10) (by rw [hB _ _ (by omega), tP0 _ _ (by omega) (by omega)]; exact e11) e4 e5 e3 e6
    generalize hP1 : mset P0 821 0 0 = P1
    have tP1 : ∀ a y, ¬ (a = 821 ∧ y = 0) → P1 a y = P0 a y := fun a y u => by rw [← hP1, mset_n u]
    have p1 : mset P1 821 0 0 = P1 := by rw [← hP1, mset_ii]
    have q1 := tk3 P0 (fun _ _ _ => rfl)
    have q2 := tk3 P1 tP1
    rw [hP1] at q1
    rw [p1] at q2
    have b924 : P1 924 n = sI (tc' n) := by rw [tP1 _ _ (by omega)]; exact p924
    have fP1 : ∀ a y, ¬ (a = 821 ∧ y = 0) → ¬ (a = 924 ∧ y = n) → a ≠ 926 → P1 a y = M a y := fun a y u1 u2 _ => by rw [tP1 a y u1]; exact tP0 a y u1 u2
    have st : fX19_lookAt_h11 fu (sI n) fu (sI (tc' n), mset M 821 0 0, Lm) = (if sI (kdE (h 12) (h 13) (h 11)) = 0 then (if sI (ocE (h 13) (h 11) (h 14)) = 8 then fX19_lookAt_h84 fu (sI n) (fX19_lookAt_h11 fu (sI n) (q0 + 1)) fu (sI (tc' n), sI (tc n), sI (h 10), 0, P1, Lm) else fX19_lookAt_h11 fu (sI n) (q0 + 1) (sI (tc' n), P1, Lm)) else fX19_lookAt_h11 fu (sI n) (q0 + 1) (sI (tc' n), P1, Lm)) := by
      have un : fX19_lookAt_h11 fu (sI n) fu (sI (tc' n), mset M 821 0 0, Lm) = fX19_lookAt_i11 fu (sI n) (fX19_lookAt_h11 fu (sI n) (q0 + 1)) (sI (tc' n)) (mset M 821 0 0) Lm := by
        conv => lhs; arg 3; rw [hq0]
        rfl
      rw [un]
      unfold fX19_lookAt_i11
      rw [mck_s (show n < 7 by omega) (by omega), sI_nn (show n < 2000000000 by omega), mset_n (show ¬ (924 = 821 ∧ n = 0) by omega), h924n, if_neg (show ¬ sI (tc' n) ≤ sI (tc n) by rw [sI_le (by omega) (by omega)]; omega), mck_s (show n < 7 by omega) (by omega), mlet_e, mck_s (show n < 7 by omega) (by omega), mck_s (show n < 7 by omega) (by omega), mlet_e, sI_1, hP0, q1.1, mb3_s, q2.2.1, mb3_s, q2.2.2.1, mb3_s]
    rw [st]
    have ekd : kdH h = kdE (h 12) (h 13) (h 11) := rfl
    rw [ekd]
    have hkb : kdE (h 12) (h 13) (h 11) < 100 := by unfold kdE; split <;> (try split) <;> omega
    by_cases kz : kdE (h 12) (h 13) (h 11) = 0
    · rw [if_pos (show sI (kdE (h 12) (h 13) (h 11)) = 0 by rw [kz]; rfl), if_pos (show sI (kdE (h 12) (h 13) (h 11)) = 0 by rw [kz]; rfl), Nat.add_zero, e1 16 (by omega) (by omega), e7]
      have hob : ocE (h 13) (h 11) (h 14) < 100 := by
        have : ∀ f, f < 2 → ∀ r, r < 2 → ∀ c, c < 16 → ocE f r c < 100 := by decide
        exact this _ e5 _ e3 _ e6
      by_cases o8 : ocE (h 13) (h 11) (h 14) = 8
      · rw [if_pos (show sI (ocE (h 13) (h 11) (h 14)) = 8 by rw [o8]; rfl), if_pos (show sI (ocE (h 13) (h 11) (h 14)) = 8 by rw [o8]; rfl), e1 10 (by omega) (by omega)]
        obtain ⟨P2, z1, z2, z3⟩ := m_oct84 (fu := fu) (n := n) (N := C + 1) (i := tc n) (T := s7 tc') (k0 := k0) (id := h 10) (co := h 14) (v2 := sI (tc' n)) (tn := tn) (ov := ov) (e := h 12) (f := h 13) (r := h 11) (M := P1) (L := Lm) (fX19_lookAt_h11 fu (sI n) (q0 + 1)) hfu (by rw [fP1 _ _ (by omega) (by omega) (by omega)]; exact b3) (by omega) (by omega) (by rw [fP1 _ _ (by omega) (by omega) (by omega)]; exact b12) hT36 (fun k hk => by rw [fP1 _ _ (by omega) (by omega) (by omega)]; exact b13 k hk) g5 hk0 hcnt (by rw [fP1 _ _ (by omega) (by omega) (by omega)]; exact e9) (by rw [fP1 _ _ (by omega) (by omega) (by omega)]; exact e10) (by rw [fP1 _ _ (by omega) (by omega) (by omega)]; exact e11) e4 e5 e3 e6 o8 (fun j hj => ⟨by rw [fP1 _ _ (by omega) (by omega) (by omega)]; exact e12 j (by omega), (e2 j (by omega)).2⟩)
        rw [z1]
        have fP2 : ∀ a y, ¬ (a = 821 ∧ y = 0) → ¬ (a = 924 ∧ y = n) → a ≠ 926 → P2 a y = M a y := fun a y u1 u2 u3 => by rw [z3 a y u3 u1]; exact fP1 a y u1 u2 u3
        have p2924 : P2 924 n = sI (tc' n) := by rw [z3 _ _ (by omega) (by omega)]; exact b924
        have kTk : TkB A P2 Lc Lm S F W R X t E d tu g own Sb bd := TkB_M hTk (fun a y u1 u2 u3 => fP2 a y u3 (by omega) u2)
        have kTr : TrB A P2 Lm C Sb p o e := TrB_f hTr (fun _ _ _ => rfl) (fun a y u => fP2 a y (by omega) (by omega) (by omega)) (fun _ _ _ _ => rfl)
        have p19 : P2 732 19 = sI C := by rw [fP2 _ _ (by omega) (by omega) (by omega)]; exact h19
        unfold fX19_lookAt_i84
        rw [if_pos (show (8 : Int32) ≤ 8 by decide)]
        by_cases id1 : h 10 < 1536
        · rw [if_pos (show sI (h 10) < 1536 by rw [sI_ltl (by omega) (by decide)]; exact id1), if_neg (show ¬ (1536 : Int32) ≤ sI (h 10) by rw [sI_lle (by decide) (by omega)]; omega), h13]
          by_cases nC : n = C
          · -- the tester takes no signals
            rw [if_pos (show sI C ≤ sI n by rw [sI_le (by omega) (by omega)]; omega), mlet_e, sI_1]
            have es : fX19_lookAt_h126 fu (sI n) (fX19_lookAt_h11 fu (sI n) (q0 + 1)) fu (sI (tc' n), sI (h 10), 0, P2, Lm) = some (P2, Lm) := by
              have un : fX19_lookAt_h126 fu (sI n) (fX19_lookAt_h11 fu (sI n) (q0 + 1)) fu (sI (tc' n), sI (h 10), 0, P2, Lm) = fX19_lookAt_i126 fu (sI n) (fX19_lookAt_h11 fu (sI n) (q0 + 1)) (fX19_lookAt_h126 fu (sI n) (fX19_lookAt_h11 fu (sI n) (q0 + 1)) (q0 + 1)) (sI (tc' n)) (sI (h 10)) 0 P2 Lm := by
                conv => lhs; arg 4; rw [hq0]
                rfl
              rw [un]
              unfold fX19_lookAt_i126 fX19_lookAt_b174 fX19_lookAt_b214
              rw [p19, if_pos (show sI C ≤ sI n by rw [sI_le (by omega) (by omega)]; omega), endM q0 P2 Lm p2924]
              split <;> rfl
            rw [es]
            exact over P2 p2924 fP2
          · rw [if_neg (show ¬ sI C ≤ sI n by rw [sI_le (by omega) (by omega)]; omega)]
            obtain ⟨A2, Lc2, M2, Lm2, E2, y1, y2, y3, y4, y5, y6, y7, y8, y9⟩ := st_signals (fu := fu) (c := n) (C := C) (id := h 10) (row := 47 + 2 * n + 1) (n3 := 64) (v2 := sI (tc' n)) (ov := ov) (fX19_lookAt_h11 fu (sI n) (q0 + 1)) (by omega) p19 hC6 (by omega) (by omega) (by omega) (by omega) (by omega) hE (hbd n (by omega)) kTk (fun y hy => ⟨(e2 y (by omega)).1, z2 y hy, (e2 y (by omega)).2⟩)
            have eC : mb3 (DX6_frameOf fu (sI (h 10)) A Lc) (fun r13 M11 L12 => mb2 (DX1_takeSignals fu (sI n) r13 (47 + 2 * n + 1) 64 M11 L12) (fun M14 L15 => mlet (sI n + 1) (fun x18 => rrC (x18, M14, L15)))) = rrC (sI (n + 1), A2, Lc2) := by
              rcases c_frameOf (fu := fu) (L := Lc) kTk.1 (show h 10 < 2048 by omega) with ⟨f, _, _, f3⟩ | ⟨_, f3⟩
              · rw [f3, mb3_s] at y1 ⊢
                rw [y1, mb2_s, mlet_e, sI_1]
              · rw [f3, mb3_s] at y1 ⊢
                rw [y1, mb2_s, mlet_e, sI_1]
            rw [eC, y2]
            have m924 : M2 924 n = sI (tc' n) := by rw [y7 _ _ (by omega) (by omega) (by omega) (by omega) (by omega) (by omega) (by omega) (by omega) (by omega)]; exact p2924
            rw [endM q0 M2 Lm2 m924]
            have tM : ∀ a y, ¬ (a = 854 ∧ (y = 0 ∨ y = 6 ∨ y = 7)) → a ≠ 858 → a ≠ 859 → ¬ (863 ≤ a ∧ a ≤ 867) → ¬ (902 ≤ a ∧ a ≤ 920) → a ≠ 773 → ¬ (a = 939 ∧ (y = 1 ∨ y = 2)) → a ≠ 752 → a ≠ 753 → ¬ (a = 821 ∧ y = 0) → ¬ (a = 924 ∧ y = n) → a ≠ 926 → M2 a y = M a y := fun a y u1 u2 u3 u4 u5 u6 u7 u8 u9 u10 u11 u12 => by rw [y7 a y u1 u2 u3 u4 u5 u6 u7 u8 u9]; exact fP2 a y u10 u11 u12
            refine ⟨A2, Lc2, M2, Lm2, E2, p, o, e, rfl, rfl, ⟨y3, TrB_f kTr (fun a y u => y6 a y (by omega) (by omega) (by omega) (by omega) (by omega) (by omega) (by omega) (by omega)) (fun a y u => y7 a y (by omega) (by omega) (by omega) (by omega) (by omega) (by omega) (by omega) (by omega) (by omega)) (fun a y u1 u2 => y9 a y (by omega) (by omega) (by omega) (by omega)), BusE_fr hBu (fun a y u1 u2 => y6 a y (by omega) (by omega) (by omega) (by omega) (by omega) (by omega) (by omega) (by omega)) (fun a y u1 u2 u3 => tM a y (by omega) (by omega) (by omega) (by omega) (by omega) (by omega) (by omega) (by omega) (by omega) u3 (by omega) (by omega)), FrE_f hFr (fun a y u => y6 a y (by omega) (by omega) (by omega) (by omega) (by omega) (by omega) (by omega) (by omega)) (fun a y u1 u2 => tM a y (by omega) (by omega) (by omega) (by omega) (by omega) (by omega) (by omega) (by omega) (by omega) (by omega) (by omega) (by omega)), ?_, ?_, fun k hk => ?_⟩, y4, y5, rfl, fun a y u1 u2 u3 u4 u5 u6 u7 u8 u9 u10 u11 => y6 a y u1 u2 u3 (by omega) (by omega) u8 (by omega) u11, fun a y u1 u2 u3 u4 u5 u6 u7 u8 u9 u10 u11 u12 u13 => tM a y (by omega) u7 u8 (by omega) (by omega) u5 (by omega) u3 u4 u2 (by omega) (by omega), y8, fun a y u1 u2 u3 u4 u5 => y9 a y u1 u2 u3 u5⟩
            · rw [tM _ _ (by omega) (by omega) (by omega) (by omega) (by omega) (by omega) (by omega) (by omega) (by omega) (by omega) (by omega) (by omega)]; exact h19
            · rw [y6 _ _ (by omega) (by omega) (by omega) (by omega) (by omega) (by omega) (by omega) (by omega)]; exact h13
            · by_cases ek : k = n
              · rw [ek, if_pos (by omega)]; exact m924
              · rw [tM _ _ (by omega) (by omega) (by omega) (by omega) (by omega) (by omega) (by omega) (by omega) (by omega) (by omega) (by omega) (by omega)]
                have := h924 k hk
                by_cases lt : k < n
                · rw [if_pos lt] at this; rw [if_pos (by omega)]; exact this
                · rw [if_neg lt] at this; rw [if_neg (by omega)]; exact this
        · rw [if_neg (show ¬ sI (h 10) < 1536 by rw [sI_ltl (by omega) (by decide)]; exact id1), if_pos (show (1536 : Int32) ≤ sI (h 10) by rw [sI_lle (by decide) (by omega)]; omega)]
          -- a frame of the transfer
          have nothing : LnQ A M Lc Lm C S F W R X t E d tu g own Sb bd (p.1 0 3) ec tc tc' fl mk n rrC (rrC (sI (n + 1), A, Lc)) (fX19_lookAt_b214 fu (sI n) (fX19_lookAt_h11 fu (sI n) (q0 + 1)) (sI (tc' n)) P2 Lm) := by
            unfold fX19_lookAt_b214
            rw [endM q0 P2 Lm p2924]
            exact over P2 p2924 fP2
          have come : ∀ (c : Nat) (tt : Bool) (a2 : Int32), c < C → h 10 = 1536 + 2 * c + (if tt = true then 1 else 0) → LnQ A M Lc Lm C S F W R X t E d tu g own Sb bd (p.1 0 3) ec tc tc' fl mk n rrC (mb2 (fX1_takeOfTransfer_b40 fu (sI n) a2 (sI c) (bI tt) (sI n) A Lc) (fun M16 L17 => mlet (sI n + 1) (fun x18 => rrC (x18, M16, L17)))) (fX19_lookAt_b208 fu (sI n) (fX19_lookAt_h11 fu (sI n) (q0 + 1)) (sI (tc' n)) (sI (h 10)) P2 Lm) := by
            intro c tt a2 hc hid
            obtain ⟨⟨M2, Lm2⟩, y1, A2, Lc2, p', o', e', y2, y3, y4, y5, y6, y7, y8, y9⟩ := st_arrive (fu := fu) (c := c) (C := C) (tt := tt) (a1 := sI n) (a2 := a2) (by omega) hc hC6 hE kTk kTr
            dsimp only at y3 y4 y7 y9
            unfold fX19_lookAt_b208 fX19_lookAt_b214
            rw [hid, y1, mb2_s, y2, mb2_s, mlet_e, sI_1]
            have m924 : M2 924 n = sI (tc' n) := by rw [y7 _ _ (by omega) (by omega) (by omega) (by omega) (by omega) (by omega) (by omega) (by omega) (by omega)]; exact p2924
            rw [endM q0 M2 Lm2 m924]
            have tM : ∀ a y, ¬ (a = 732 ∧ (y = 88 ∨ y = 91 ∨ y = 95 ∨ y = 97 ∨ y = 98 ∨ y = 102 ∨ y = 108)) → ¬ (869 ≤ a ∧ a ≤ 920) → ¬ (927 ≤ a ∧ a ≤ 938) → ¬ (a = 939 ∧ y = 3) → a ≠ 854 → a ≠ 858 → a ≠ 859 → ¬ (863 ≤ a ∧ a ≤ 867) → ¬ (964 ≤ a ∧ (a - 964) % 53 = 0 ∧ y = 0) → ¬ (a = 821 ∧ y = 0) → ¬ (a = 924 ∧ y = n) → a ≠ 926 → M2 a y = M a y := fun a y u1 u2 u3 u4 u5 u6 u7 u8 u9 u10 u11 u12 => by rw [y7 a y u1 u2 u3 u4 u5 u6 u7 u8 u9]; exact fP2 a y u10 u11 u12
            refine ⟨A2, Lc2, M2, Lm2, E, p', o', e', rfl, rfl, ⟨TkB_bd y3 bdle, y4, BusE_fr hBu (fun a y u1 u2 => y6 a y (by omega) (by omega) (by omega) (by omega) (by omega) (by omega) (by omega)) (fun a y u1 u2 u3 => tM a y (by omega) (by omega) (by omega) (by omega) (by omega) (by omega) (by omega) (by omega) (by omega) u3 (by omega) (by omega)), FrE_f hFr (fun a y u => y6 a y (by omega) (by omega) (by omega) (by omega) (by omega) (by omega) (by omega)) (fun a y u1 u2 => tM a y (by omega) (by omega) (by omega) (by omega) (by omega) (by omega) (by omega) (by omega) (by omega) (by omega) (by omega) (by omega)), ?_, ?_, fun k hk => ?_⟩, by omega, by omega, y5, fun a y u1 u2 u3 u4 u5 u6 u7 u8 u9 u10 u11 => y6 a y u6 u7 u3 (by omega) (by omega) u10 (by omega), fun a y u1 u2 u3 u4 u5 u6 u7 u8 u9 u10 u11 u12 u13 => tM a y u1 (by omega) (by omega) (by omega) u6 u7 u8 (by omega) u13 u2 (by omega) (by omega), fun a y u1 u2 => y8 a y u2, fun a y u1 u2 u3 u4 u5 => y9 a y u4 u5⟩
            · rw [tM _ _ (by omega) (by omega) (by omega) (by omega) (by omega) (by omega) (by omega) (by omega) (by omega) (by omega) (by omega) (by omega)]; exact h19
            · rw [y6 _ _ (by omega) (by omega) (by omega) (by omega) (by omega) (by omega) (by omega)]; exact h13
            · by_cases ek : k = n
              · rw [ek, if_pos (by omega)]; exact m924
              · rw [tM _ _ (by omega) (by omega) (by omega) (by omega) (by omega) (by omega) (by omega) (by omega) (by omega) (by omega) (by omega) (by omega)]
                have := h924 k hk
                by_cases lt : k < n
                · rw [if_pos lt] at this; rw [if_pos (by omega)]; exact this
                · rw [if_neg lt] at this; rw [if_neg (by omega)]; exact this
          obtain ⟨wy, hwy⟩ : ∃ wy, h 10 = 1536 + wy := ⟨h 10 - 1536, by omega⟩
          have es : sI (h 10) - 1536 = sI wy := by
            rw [hwy]
            have := sI_sub (a := 1536 + wy) (b := 1536) (by omega)
            rw [show 1536 + wy - 1536 = wy from by omega] at this
            exact this
          have ed : sI wy / 2 = sI (wy / 2) := sI_div (b := 2) (by omega) (by omega)
          have em : sI wy - sI wy / 2 * 2 = sI (wy % 2) := sI_mod (b := 2) (by omega) (by omega)
          have em2 : sI (h 10) - sI (h 10) / 2 * 2 = sI (wy % 2) := by
            have := sI_mod (a := h 10) (b := 2) (by omega) (by omega)
            rw [show h 10 % 2 = wy % 2 from by omega] at this
            exact this
          have en : sI (h 10) = 1536 + 2 * sI n ↔ wy = 2 * n := by
            rw [sI_lml, sI_lad, sI_eq (by omega) (by omega)]
            omega
          have nC : sI n = sI C ↔ n = C := sI_eq (by omega) (by omega)
          rw [es, p19]
          unfold DX1_takeOfTransfer fX1_takeOfTransfer_b16 fX1_takeOfTransfer_b43
          rw [mlet_e, em, ed, h13, em2]
          by_cases cw : C ≤ wy / 2
          · have skip : mb2 (some (A, Lc)) (fun M16 L17 => mlet (sI n + 1) (fun x18 => rrC (x18, M16, L17))) = rrC (sI (n + 1), A, Lc) := by rw [mb2_s, mlet_e, sI_1]
            rw [if_pos (show sI C ≤ sI (wy / 2) by rw [sI_le (by omega) (by omega)]; exact cw), if_pos (show sI C ≤ sI (wy / 2) by rw [sI_le (by omega) (by omega)]; exact cw)]
            have eif : (if sI (wy % 2) = 1 then (some (A, Lc) : Option (mwM × mwL)) else some (A, Lc)) = some (A, Lc) := by split <;> rfl
            rw [eif, skip]
            by_cases nc : n = C
            · rw [if_pos (nC.mpr nc)]
              by_cases odd : wy % 2 = 1
              · rw [if_pos (show sI (wy % 2) = 1 by rw [odd]; rfl)]
                have a0 := m_arrive0 (fu := fu) (id := h 10) (C := C) (L := Lm) (by omega) kTr.1 kTr.2.2.2.1 kTr.2.2.2.2.2.1 (by omega) (by omega)
                unfold fX19_lookAt_b208
                rw [a0, mb2_s]
                exact nothing
              · rw [if_neg (show ¬ sI (wy % 2) = 1 by rw [show (1 : Int32) = sI 1 from rfl, sI_eq (by omega) (by omega)]; exact odd)]
                exact nothing
            · rw [if_neg (fun w => nc (nC.mp w)), if_neg (fun w => by have := en.mp w; omega)]
              exact nothing
          · rw [if_neg (show ¬ sI C ≤ sI (wy / 2) by rw [sI_le (by omega) (by omega)]; exact cw), if_neg (show ¬ sI C ≤ sI (wy / 2) by rw [sI_le (by omega) (by omega)]; exact cw)]
            by_cases odd : wy % 2 = 1
            · rw [if_pos (show sI (wy % 2) = 1 by rw [odd]; rfl), if_neg (show ¬ (1 : Int32) = 0 by decide), if_pos (show sI (wy % 2) = 1 by rw [odd]; rfl)]
              by_cases nc : n = C
              · rw [if_pos (nC.mpr nc)]
                have := come (wy / 2) true (sI wy) (by omega) (by rw [if_pos rfl]; omega)
                rw [nc] at this ⊢
                exact this
              · rw [if_neg (fun w => nc (nC.mp w)), if_neg (fun w => by have := en.mp w; omega)]
                have sk : fX1_takeOfTransfer_b40 fu (sI n) (sI wy) (sI (wy / 2)) 1 (sI C) A Lc = some (A, Lc) := by
                  unfold fX1_takeOfTransfer_b40 fX1_takeOfTransfer_b43
                  rw [if_neg (fun w => nc (nC.mp w))]
                rw [sk, mb2_s, mlet_e, sI_1]
                exact nothing
            · rw [if_neg (show ¬ sI (wy % 2) = 1 by rw [show (1 : Int32) = sI 1 from rfl, sI_eq (by omega) (by omega)]; exact odd), if_pos (show (0 : Int32) = 0 from rfl), if_neg (show ¬ sI (wy % 2) = 1 by rw [show (1 : Int32) = sI 1 from rfl, sI_eq (by omega) (by omega)]; exact odd)]
              by_cases nw : n = wy / 2
              · rw [if_neg (fun w => by have := nC.mp w; omega), if_pos (en.mpr (by omega))]
                have := come (wy / 2) false (sI wy) (by omega) (by rw [if_neg (by decide)]; omega)
                rw [← nw] at this ⊢
                exact this
              · have sk : fX1_takeOfTransfer_b40 fu (sI n) (sI wy) (sI (wy / 2)) 0 (sI (wy / 2)) A Lc = some (A, Lc) := by
                  unfold fX1_takeOfTransfer_b40 fX1_takeOfTransfer_b43
                  rw [if_neg (by rw [sI_eq (by omega) (by omega)]; exact nw)]
                rw [sk, mb2_s, mlet_e, sI_1]
                by_cases nc : n = C
                · rw [if_pos (nC.mpr nc)]
                  exact nothing
                · rw [if_neg (fun w => nc (nC.mp w)), if_neg (fun w => by have := en.mp w; omega)]
                  exact nothing
      · rw [if_neg (show ¬ sI (ocE (h 13) (h 11) (h 14)) = 8 by rw [sI_eql (by omega) (by decide)]; exact o8), if_neg (show ¬ sI (ocE (h 13) (h 11) (h 14)) = 8 by rw [sI_eql (by omega) (by decide)]; exact o8), mlet_e, sI_1, endM q0 P1 Lm b924]
        exact over P1 b924 fP1
    · rw [if_neg (show ¬ sI (kdE (h 12) (h 13) (h 11)) = 0 by rw [show (0 : Int32) = sI 0 from rfl, sI_eq (by omega) (by omega)]; exact kz), if_neg (show ¬ sI (kdE (h 12) (h 13) (h 11)) = 0 by rw [show (0 : Int32) = sI 0 from rfl, sI_eq (by omega) (by omega)]; exact kz), mlet_e, sI_1, endM q0 P1 Lm b924]
      exact over P1 b924 fP1
  · -- it has taken none
    have b924 : mset M 821 0 0 924 n = sI (tc' n) := by rw [mset_n (by omega), h924n, g2]
    rw [if_pos (by rw [g1]; rfl), mlet_e, sI_1]
    have eE := endM (fu - 1) (mset M 821 0 0) Lm b924
    rw [show fu - 1 + 1 = fu from by omega] at eE
    rw [eE]
    exact over _ b924 (fun a y u1 u2 u3 => by rw [mset_n u1])
