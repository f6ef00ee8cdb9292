/-! all nodes look -/
theorem m_look0 {fu n C t : Nat} {A M : mwM} {L : mwL} {ec tc' fl : Nat → Nat} (hfu : 5000 ≤ fu) (hn : n ≤ C) (hC6 : C ≤ 6) (hB : BusE A M (C + 1) t ec tc' fl) (h924 : M 924 n = sI (tc' n)) : DX19_lookAt fu (sI n) M L = some (mset M 821 0 0, L) := by
  obtain ⟨Fb, ow, idb, ocb, dn, asl, hBR⟩ := hB
  obtain ⟨⟨b1, ⟨b2, b3, b4⟩, b5, b6, b7, b8, b9, b10, b11, b12, hTn, b15⟩, _⟩ := hBR
  have tc0 := (b15 0 (by omega)).2
  have tc1 := (b15 1 (by omega)).2
  have tc2 := (b15 2 (by omega)).2
  have tc3 := (b15 3 (by omega)).2
  have tc4 := (b15 4 (by omega)).2
  have tc5 := (b15 5 (by omega)).2
  have tc6 := (b15 6 (by omega)).2
  have hT36 : s7 tc' ≤ 3600 := by unfold s7; omega
  have htcn : tc' n < 2000 := by
    have := (b15 n (by omega)).2
    omega
  have many := m_takenC (fu := fu) (n := n) (L := L) hfu b3 (by omega) (show n < C + 1 by omega) b12 hT36 hTn
  obtain ⟨q, rfl⟩ : ∃ q, fu = q + 1 := ⟨fu - 1, by omega⟩
  unfold DX19_lookAt
  rw [many, mb3_s]
  show fX19_lookAt_i11 (q + 1) (sI n) (fX19_lookAt_h11 (q + 1) (sI n) q) (sI (tc' n)) (mset M 821 0 0) L = _
  unfold fX19_lookAt_i11
  rw [mck_s (by omega) (by omega), sI_nn (by omega), mset_n (by omega), h924, if_pos (by rw [sI_le (by omega) (by omega)]; omega)]
theorem lkA_t {A B C : mwM} (h1 : lkA A B) (h2 : lkA B C) : lkA A C := fun a y u1 u2 u3 u4 u5 u6 u7 u8 u9 u10 u11 => by rw [h2 a y u1 u2 u3 u4 u5 u6 u7 u8 u9 u10 u11]; exact h1 a y u1 u2 u3 u4 u5 u6 u7 u8 u9 u10 u11
theorem lkM_t {A B C : mwM} (h1 : lkM A B) (h2 : lkM B C) : lkM A C := fun a y u1 u2 u3 u4 u5 u6 u7 u8 u9 u10 u11 u12 u13 => by rw [h2 a y u1 u2 u3 u4 u5 u6 u7 u8 u9 u10 u11 u12 u13]; exact h1 a y u1 u2 u3 u4 u5 u6 u7 u8 u9 u10 u11 u12 u13
theorem lkC_t {A B C : mwL} (h1 : lkC A B) (h2 : lkC B C) : lkC A C := fun a y u1 u2 => by rw [h2 a y u1 u2]; exact h1 a y u1 u2
theorem lkL_t {A B C : mwL} (h1 : lkL A B) (h2 : lkL B C) : lkL A C := fun a y u1 u2 u3 u4 u5 => by rw [h2 a y u1 u2 u3 u4 u5]; exact h1 a y u1 u2 u3 u4 u5
theorem st_looks {fu C S F W R X t E mk : Nat} {d : Nat → Nat → Nat} {tu : Nat → Bool} {g : Nat → Nat → Nat} {own Sb bd : Nat → Nat} {A M : mwM} {Lc Lm : mwL} {p : PB} {o : Nat → Nat → Nat} {e ec tc tc' fl : Nat → Nat} (hfu : 5000 ≤ fu) (hC6 : C ≤ 6) (hmk : mk < 128) (hE : E < 700000000) (hbd : ∀ c, c < 6 → bd c < 900000000) (hZ : LkZ A M Lc Lm C S F W R X t E d tu g own Sb bd p o e ec tc tc' fl mk 0) : ∃ (A' : mwM) (Lc' : mwL) (M' : mwM) (Lm' : mwL) (E' : Nat) (p' : PB) (o' : Nat → Nat → Nat) (e' : Nat → Nat), (if (A 20 12) = 0 then fX1_passMicrosecond_b54 fu A Lc else mb2 (DX1_takeFrames fu A Lc) (fun M23 L24 => fX1_passMicrosecond_b54 fu M23 L24)) = fX1_passMicrosecond_b54 fu A' Lc' ∧ fX19_microsecond_h118 fu fu (0, M, Lm) = fX19_microsecond_h139 fu fu (0, M', Lm') ∧ LkZ A' M' Lc' Lm' C S F W R X t E' d tu g own Sb (fun x => bd x + 64) p' o' e' ec tc tc' fl mk (C + 1) ∧ E ≤ E' ∧ E' ≤ E + 210 ∧ p'.1 0 3 = p.1 0 3 ∧ lkA A A' ∧ lkM M M' ∧ lkC Lc Lc' ∧ lkL Lm Lm' := by
  by_cases m0 : mk = 0
  · obtain ⟨hTk, hTr, hBu, hFr, h19, h13, h924⟩ := hZ
    obtain ⟨f20, fr⟩ := id hFr
    have same : ∀ n, n < 7 → tc' n = tc n := fun n hn => by
      rcases fr n hn with ⟨g1, _⟩ | ⟨_, g2⟩
      · rw [m0, Nat.zero_div] at g1
        omega
      · exact g2
    have h924' : ∀ k, k ≤ C → M 924 k = sI (tc' k) := fun k hk => by
      have := h924 k hk
      rw [if_neg (by omega)] at this
      rw [this, same k (by omega)]
    have key : ∀ (r n q : Nat) (B : mwM), n + r = C + 1 → r < q → (∀ a y, ¬ (a = 821 ∧ y = 0) → B a y = M a y) → ∃ B', fX19_microsecond_h118 fu q (sI n, B, Lm) = fX19_microsecond_h139 fu fu (0, B', Lm) ∧ ∀ a y, ¬ (a = 821 ∧ y = 0) → B' a y = M a y := by
      intro r
      induction r with
      | zero =>
        intro n q B hn hq hB
        obtain ⟨q', rfl⟩ : ∃ y, q = y + 1 := ⟨q - 1, by omega⟩
        refine ⟨B, ?_, hB⟩
        show fX19_microsecond_i118 fu (fX19_microsecond_h118 fu q') (sI n) B Lm = _
        unfold fX19_microsecond_i118
        rw [hB _ _ (by omega), h19, if_pos (by rw [sI_lt (by omega) (by omega)]; omega)]
      | succ r ih =>
        intro n q B hn hq hB
        obtain ⟨q', rfl⟩ : ∃ y, q = y + 1 := ⟨q - 1, by omega⟩
        have un : fX19_microsecond_h118 fu (q' + 1) (sI n, B, Lm) = fX19_microsecond_i118 fu (fX19_microsecond_h118 fu q') (sI n) B Lm := rfl
        rw [un]
        unfold fX19_microsecond_i118
        rw [hB _ _ (by omega), h19, if_neg (by rw [sI_lt (by omega) (by omega)]; omega), m_look0 (A := A) (tc' := tc') (ec := ec) (fl := fl) (t := t) hfu (by omega) hC6 (BusE_fr hBu (fun _ _ _ _ => rfl) (fun a y u1 u2 u3 => hB a y u3)) (by rw [hB _ _ (by omega)]; exact h924' n (by omega)), mb2_s, mlet_e, sI_1]
        exact ih (n + 1) q' _ (by omega) (by omega) (fun a y u => by rw [mset_n u]; exact hB a y u)
    obtain ⟨B', k1, k2⟩ := key (C + 1) 0 fu M (by omega) (by omega) (fun _ _ _ => rfl)
    refine ⟨A, Lc, B', Lm, E, p, o, e, by rw [f20, m0, if_pos (show sI 0 = 0 from rfl)], k1, ⟨TkB_bd (TkB_M hTk (fun a y u1 u2 u3 => k2 a y u3)) (fun x _ => Nat.le_add_right _ _), TrB_f hTr (fun _ _ _ => rfl) (fun a y u => k2 a y (by omega)) (fun _ _ _ _ => rfl), BusE_fr hBu (fun _ _ _ _ => rfl) (fun a y u1 u2 u3 => k2 a y u3), FrE_f hFr (fun _ _ _ => rfl) (fun a y u1 u2 => k2 a y (by omega)), by rw [k2 _ _ (by omega)]; exact h19, h13, fun k hk => by rw [if_pos (by omega), k2 _ _ (by omega)]; exact h924' k hk⟩, by omega, by omega, rfl, fun _ _ _ _ _ _ _ _ _ _ _ _ _ => rfl, fun a y u1 u2 u3 u4 u5 u6 u7 u8 u9 u10 u11 u12 u13 => k2 a y u2, fun _ _ _ _ => rfl, fun _ _ _ _ _ _ _ => rfl⟩
  · have f20 : A 20 12 = sI mk := hZ.2.2.2.1.1
    have key : ∀ (r n q q' : Nat) (B : mwM) (Bc : mwL) (P : mwM) (Pm : mwL) (E1 : Nat) (bd1 : Nat → Nat) (p1 : PB) (o1 : Nat → Nat → Nat) (e1 : Nat → Nat), n + r = C + 1 → r < q → r < q' → LkZ B P Bc Pm C S F W R X t E1 d tu g own Sb bd1 p1 o1 e1 ec tc tc' fl mk n → E ≤ E1 → E1 ≤ E + 30 * n → (∀ x, x < 6 → bd1 x ≤ (if x < n then bd x + 64 else bd x)) → p1.1 0 3 = p.1 0 3 → lkA A B → lkM M P → lkC Lc Bc → lkL Lm Pm → ∃ (A' : mwM) (Lc' : mwL) (M' : mwM) (Lm' : mwL) (E' : Nat) (p' : PB) (o' : Nat → Nat → Nat) (e' : Nat → Nat), fX1_takeFrames_h2 fu q (sI n, B, Bc) = some (A', Lc') ∧ fX19_microsecond_h118 fu q' (sI n, P, Pm) = fX19_microsecond_h139 fu fu (0, M', Lm') ∧ LkZ A' M' Lc' Lm' C S F W R X t E' d tu g own Sb (fun x => bd x + 64) p' o' e' ec tc tc' fl mk (C + 1) ∧ E ≤ E' ∧ E' ≤ E + 210 ∧ p'.1 0 3 = p.1 0 3 ∧ lkA A A' ∧ lkM M M' ∧ lkC Lc Lc' ∧ lkL Lm Lm' := by
      intro r
      induction r with
      | zero =>
        intro n q q' B Bc P Pm E1 bd1 p1 o1 e1 hn hq hq' kZ k1 k2 k3 k4 f1 f2 f3 f4
        obtain ⟨x, rfl⟩ : ∃ y, q = y + 1 := ⟨q - 1, by omega⟩
        obtain ⟨x', rfl⟩ : ∃ y, q' = y + 1 := ⟨q' - 1, by omega⟩
        have en : n = C + 1 := by omega
        subst en
        obtain ⟨z1, z2, z3, z4, z5, z6, z7⟩ := id kZ
        refine ⟨B, Bc, P, Pm, E1, p1, o1, e1, ?_, ?_, ⟨TkB_bd z1 (fun x hx => by
          have := k3 x hx
          try dsimp only
          split at this <;> omega), z2, z3, z4, z5, z6, z7⟩, k1, by omega, k4, f1, f2, f3, f4⟩
        · show fX1_takeFrames_i2 fu (fX1_takeFrames_h2 fu x) (sI (C + 1)) B Bc = _
          unfold fX1_takeFrames_i2
          rw [z6, if_pos (by rw [sI_lt (by omega) (by omega)]; omega)]
        · show fX19_microsecond_i118 fu (fX19_microsecond_h118 fu x') (sI (C + 1)) P Pm = _
          unfold fX19_microsecond_i118
          rw [z5, if_pos (by rw [sI_lt (by omega) (by omega)]; omega)]
      | succ r ih =>
        intro n q q' B Bc P Pm E1 bd1 p1 o1 e1 hn hq hq' kZ k1 k2 k3 k4 f1 f2 f3 f4
        obtain ⟨x, rfl⟩ : ∃ y, q = y + 1 := ⟨q - 1, by omega⟩
        obtain ⟨x', rfl⟩ : ∃ y, q' = y + 1 := ⟨q' - 1, by omega⟩
        obtain ⟨z1, z2, z3, z4, z5, z6, z7⟩ := id kZ
        obtain ⟨A2, Lc2, M2, Lm2, E2, p2, o2, e2, y1, y2, y3, y4, y5, y6, y7, y8, y9, y10⟩ := st_lookn (fu := fu) (n := n) (fX1_takeFrames_h2 fu x) hfu (by omega) hC6 hmk (by omega) (fun c hc => by
          have := k3 c hc
          have := hbd c hc
          split at * <;> omega) kZ
        have unA : fX1_takeFrames_h2 fu (x + 1) (sI n, B, Bc) = fX1_takeFrames_i2 fu (fX1_takeFrames_h2 fu x) (sI n) B Bc := rfl
        have unM : fX19_microsecond_h118 fu (x' + 1) (sI n, P, Pm) = fX19_microsecond_i118 fu (fX19_microsecond_h118 fu x') (sI n) P Pm := rfl
        rw [unA, unM, y1]
        unfold fX19_microsecond_i118
        rw [z5, if_neg (by rw [sI_lt (by omega) (by omega)]; omega), y2, mb2_s, mlet_e, sI_1]
        refine ih (n + 1) x x' A2 Lc2 M2 Lm2 E2 _ p2 o2 e2 (by omega) (by omega) (by omega) y3 (by omega) (by omega) (fun c hc => ?_) (by rw [y6, k4]) (lkA_t f1 y7) (lkM_t f2 y8) (lkC_t f3 y9) (lkL_t f4 y10)
        have := k3 c hc
        try dsimp only
        by_cases ec' : c = n
        · rw [if_pos ec', if_pos (by omega)]
          rw [if_neg (by omega)] at this
          omega
        · rw [if_neg ec']
          by_cases lt : c < n
          · rw [if_pos lt] at this; rw [if_pos (by omega)]; exact this
          · rw [if_neg lt] at this; rw [if_neg (by omega)]; exact this
    obtain ⟨A', Lc', M', Lm', E', p', o', e', y1, y2, y3⟩ := key (C + 1) 0 fu fu A Lc M Lm E bd p o e (by omega) (by omega) (by omega) hZ (by omega) (by omega) (fun x _ => by rw [if_neg (by omega)]; exact Nat.le_refl _) rfl (fun _ _ _ _ _ _ _ _ _ _ _ _ _ => rfl) (fun _ _ _ _ _ _ _ _ _ _ _ _ _ _ _ => rfl) (fun _ _ _ _ => rfl) (fun _ _ _ _ _ _ _ => rfl)
    have y1' : DX1_takeFrames fu A Lc = some (A', Lc') := y1
    refine ⟨A', Lc', M', Lm', E', p', o', e', ?_, y2, y3⟩
    rw [f20, if_neg (by rw [show (0 : Int32) = sI 0 from rfl, sI_eq (by omega) (by omega)]; exact m0), y1', mb2_s]
