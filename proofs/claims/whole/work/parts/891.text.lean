/-! READING: the whole text, line by line -/
def leF (tx : Nat → Nat) : Nat → Nat → Nat
  | 0, a => a
  | r + 1, a => if tx a = 10 then a else leF tx r (a + 1)
theorem le_b {tx : Nat → Nat} : ∀ r a, a ≤ leF tx r a ∧ leF tx r a ≤ a + r := by
  intro r
  induction r with
  | zero => intro a; exact ⟨Nat.le_refl _, Nat.le_refl _⟩
  | succ r ih =>
    intro a
    unfold leF
    by_cases c : tx a = 10
    · rw [if_pos c]
      omega
    · rw [if_neg c]
      have := ih (a + 1)
      omega
theorem sI_10 {x : Nat} (h : x < 256) : (sI x = 10) ↔ x = 10 := by rw [show (10 : Int32) = sI 10 from rfl, sI_eq (by omega) (by omega)]
theorem c_fle {fu n : Nat} {z : Int32} {A : mwM} {L : mwL} {tx : Nat → Nat} (hT : TxC A n tx) : ∀ (r q a : Nat) (B : mwM), a + r = n → r < q → B 1 6 = sI a → (∀ x y, ¬ (x = 1 ∧ y = 6) → B x y = A x y) → fX8_findLineEnd_h5 fu z q (B, L) = some (mset B 1 6 (sI (leF tx r a)), L) := by
  intro r
  have hn := hT.2.1
  induction r with
  | zero =>
    intro q a B ha hq h5 hB
    obtain ⟨q, rfl⟩ : ∃ y, q = y + 1 := ⟨q - 1, by omega⟩
    show fX8_findLineEnd_i5 fu z (fX8_findLineEnd_h5 fu z q) B L = _
    unfold fX8_findLineEnd_i5 fX8_findLineEnd_b43
    rw [h5, hB 1 4 (by omega), hT.1, if_pos (show sI n ≤ sI a by rw [sI_le (by omega) (by omega)]; omega)]
    unfold leF
    rw [mset_id h5]
  | succ r ih =>
    intro q a B ha hq h5 hB
    obtain ⟨q, rfl⟩ : ∃ y, q = y + 1 := ⟨q - 1, by omega⟩
    obtain ⟨t1, t2, t3⟩ := hT.2.2 a (by omega)
    show fX8_findLineEnd_i5 fu z (fX8_findLineEnd_h5 fu z q) B L = _
    unfold fX8_findLineEnd_i5 fX8_findLineEnd_b43
    rw [h5, hB 1 4 (by omega), hT.1, if_neg (show ¬ sI n ≤ sI a by rw [sI_le (by omega) (by omega)]; omega), mck_s (by omega) (by omega), sI_nn (by omega), hB 2 a (by omega), t1]
    unfold leF
    by_cases c : tx a = 10
    · rw [if_pos c, if_pos (show sI (tx a) = 10 by rw [c]; rfl), mset_id h5]
    · rw [if_neg c, if_neg (show ¬ sI (tx a) = 10 by rw [sI_10 t3]; exact c), mlet_e, sI_1, ih q (a + 1) (mset B 1 6 (sI (a + 1))) (by omega) (by omega) mset_s (fun x y u => by rw [mset_n u]; exact hB x y u), mset_ii]
theorem m_fle {fu n : Nat} {z : Int32} {A : mwM} {L : mwL} {tx : Nat → Nat} {r2 : (Int32 × mwM × mwL) → Option (Int32 × mwM × mwL)} (hT : TxM A n tx) : ∀ (r q a : Nat) (B : mwM), a + r = n → r < q → B 732 7 = sI a → (∀ x y, ¬ (x = 732 ∧ y = 7) → B x y = A x y) → fX19_read_h15 fu r2 q (z, B, L) = fX19_read_b53 fu r2 z (mset B 732 7 (sI (leF tx r a))) L := by
  intro r
  have hn := hT.2.1
  induction r with
  | zero =>
    intro q a B ha hq h5 hB
    obtain ⟨q, rfl⟩ : ∃ y, q = y + 1 := ⟨q - 1, by omega⟩
    show fX19_read_i15 fu r2 (fX19_read_h15 fu r2 q) z B L = _
    unfold fX19_read_i15
    rw [h5, hB 732 2 (by omega), hT.1, if_pos (show sI n ≤ sI a by rw [sI_le (by omega) (by omega)]; omega)]
    unfold leF
    rw [mset_id h5]
  | succ r ih =>
    intro q a B ha hq h5 hB
    obtain ⟨q, rfl⟩ : ∃ y, q = y + 1 := ⟨q - 1, by omega⟩
    obtain ⟨t1, t2, t3⟩ := hT.2.2 a (by omega)
    show fX19_read_i15 fu r2 (fX19_read_h15 fu r2 q) z B L = _
    unfold fX19_read_i15
    rw [h5, hB 732 2 (by omega), hT.1, if_neg (show ¬ sI n ≤ sI a by rw [sI_le (by omega) (by omega)]; omega), mck_s (by omega) (by omega), sI_nn (by omega), hB 733 a (by omega), t1]
    unfold leF
    by_cases c : tx a = 10
    · rw [if_pos c, if_pos (show sI (tx a) = 10 by rw [c]; rfl), mset_id h5]
    · rw [if_neg c, if_neg (show ¬ sI (tx a) = 10 by rw [sI_10 t3]; exact c), mlet_e, sI_1, ih q (a + 1) (mset B 732 7 (sI (a + 1))) (by omega) (by omega) mset_s (fun x y u => by rw [mset_n u]; exact hB x y u), mset_ii]
/-- what both have read, somewhere in the text -/
def PE (A M : mwM) (Lc Lm : mwL) (n p : Nat) : Prop := ∃ C T X S K R W nl ow ct sg tu ky rd wt, PR A M Lc Lm n C T X S K R W nl ow ct sg tu ky rd wt ∧ 12 * nl.length ≤ p ∧ 15 * K ≤ p
theorem PE_f {A A' M M' : mwM} {Lc Lm : mwL} {n p p' : Nat} (h : PE A M Lc Lm n p) (hp : p ≤ p') (hA : ∀ a y, a ≠ 1 ∨ y = 3 → A' a y = A a y) (hM : ∀ a y, ¬ (a = 732 ∧ 6 ≤ y ∧ y ≤ 13) → M' a y = M a y) : PE A' M' Lc Lm n p' := by
  obtain ⟨C, T, X, S, K, R, W, nl, ow, ct, sg, tu, ky, rd, wt, h1, h2, h3⟩ := h
  exact ⟨C, T, X, S, K, R, W, nl, ow, ct, sg, tu, ky, rd, wt, PR_f h1 hA (fun a y u1 _ _ => hM a y u1), by omega, by omega⟩
/-- the reference at the end of the text -/
noncomputable abbrev eoM (fu : Nat) (M : mwM) (L : mwL) : Option (Int32 × mwM × mwL) :=
  (if 0 < (M 732 19) then fX19_read_b103 fu M L else mb3 (DX19_fail fu 4 (M 732 2) M L) (fun r5 M3 L4 => (if r5 = 0 then fX19_read_b108 fu 0 M3 L4 else fX19_read_b103 fu M3 L4)))
abbrev fT (A A' M M' : mwM) (Lc Lc' Lm Lm' : mwL) : Prop := (∀ a y, rA a y → ¬ (a = 1 ∧ y = 6) → A' a y = A a y) ∧ (∀ a y, rM a y → ¬ (a = 732 ∧ y = 7) → M' a y = M a y) ∧ (∀ a, ¬ (293 ≤ a ∧ a ≤ 724) → Lc' a = Lc a) ∧ ∀ a, a < 964 → a ≠ 778 → Lm' a = Lm a
theorem fT_t {A A1 A2 M M1 M2 : mwM} {Lc Lc1 Lc2 Lm Lm1 Lm2 : mwL} (h : fT A A1 M M1 Lc Lc1 Lm Lm1) (k : fT A1 A2 M1 M2 Lc1 Lc2 Lm1 Lm2) : fT A A2 M M2 Lc Lc2 Lm Lm2 :=
  ⟨fun a y u1 u2 => by rw [k.1 a y u1 u2, h.1 a y u1 u2], fun a y u1 u2 => by rw [k.2.1 a y u1 u2, h.2.1 a y u1 u2], fun a u => by rw [k.2.2.1 a u, h.2.2.1 a u], fun a u1 u2 => by rw [k.2.2.2 a u1 u2, h.2.2.2 a u1 u2]⟩
theorem fT_0 {A M : mwM} {Lc Lm : mwL} : fT A A M M Lc Lc Lm Lm := ⟨fun _ _ _ _ => rfl, fun _ _ _ _ => rfl, fun _ _ => rfl, fun _ _ _ => rfl⟩
theorem rt_end {fu q : Nat} {p v : Int32} {A : mwM} {L : mwL} (h : ¬ A 1 12 = 0) : fX8_readText_h19 fu (q + 1) (p, v, A, L) = fX8_readText_b87 fu A L := by
  show fX8_readText_i19 fu (fX8_readText_h19 fu q) p v A L = _
  unfold fX8_readText_i19
  by_cases c1 : 6000 ≤ v
  · rw [if_pos c1]
  · rw [if_neg c1]
    by_cases c2 : (A 1 4) ≤ p
    · rw [if_pos c2]
    · rw [if_neg c2, if_neg h]
theorem st_lines2 {fu n : Nat} {tx : Nat → Nat} (hfu : 6100 ≤ fu) : ∀ (m p v q q' : Nat) (A M : mwM) (Lc Lm : mwL), n ≤ p + m → p ≤ n + 1 → m < q → m < q' → v ≤ p → TxC A n tx → TxM M n tx → PE A M Lc Lm n p → A 1 12 = 0 → ∃ A' M' Lc' Lm', fX8_readText_h19 fu q (sI p, sI v, A, Lc) = fX8_readText_b87 fu A' Lc' ∧ ((A' 1 12 = 0 ∧ fX19_read_h2 fu q' (sI p, M, Lm) = eoM fu M' Lm') ∨ (Fx A' M' ∧ fX19_read_h2 fu q' (sI p, M, Lm) = some (0, M', Lm'))) ∧ TxC A' n tx ∧ TxM M' n tx ∧ PE A' M' Lc' Lm' n (n + 1) ∧ fT A A' M M' Lc Lc' Lm Lm' := by
  intro m
  induction m with
  | zero =>
    intro p v q q' A M Lc Lm h1 h2 h3 h4 h5 hC hM hP h12
    have hn := hC.2.1
    obtain ⟨q, rfl⟩ : ∃ y, q = y + 1 := ⟨q - 1, by omega⟩
    obtain ⟨q', rfl⟩ : ∃ y, q' = y + 1 := ⟨q' - 1, by omega⟩
    refine ⟨A, M, Lc, Lm, ?_, Or.inl ⟨h12, ?_⟩, hC, hM, PE_f hP (by omega) (fun _ _ _ => rfl) (fun _ _ _ => rfl), fT_0⟩
    · show fX8_readText_i19 fu (fX8_readText_h19 fu q) (sI p) (sI v) A Lc = _
      unfold fX8_readText_i19
      by_cases c1 : (6000 : Int32) ≤ sI v
      · rw [if_pos c1]
      · rw [if_neg c1, hC.1, if_pos (show sI n ≤ sI p by rw [sI_le (by omega) (by omega)]; omega)]
    · show fX19_read_i2 fu (fX19_read_h2 fu q') (sI p) M Lm = _
      unfold fX19_read_i2
      rw [if_pos (show M 732 2 ≤ sI p by rw [hM.1, sI_le (by omega) (by omega)]; omega)]
  | succ m ih =>
    intro p v q q' A M Lc Lm h1 h2 h3 h4 h5 hC hM hP h12
    have hn := hC.2.1
    obtain ⟨q, rfl⟩ : ∃ y, q = y + 1 := ⟨q - 1, by omega⟩
    obtain ⟨q', rfl⟩ : ∃ y, q' = y + 1 := ⟨q' - 1, by omega⟩
    by_cases cp : n ≤ p
    · refine ⟨A, M, Lc, Lm, ?_, Or.inl ⟨h12, ?_⟩, hC, hM, PE_f hP (by omega) (fun _ _ _ => rfl) (fun _ _ _ => rfl), fT_0⟩
      · show fX8_readText_i19 fu (fX8_readText_h19 fu q) (sI p) (sI v) A Lc = _
        unfold fX8_readText_i19
        by_cases c1 : (6000 : Int32) ≤ sI v
        · rw [if_pos c1]
        · rw [if_neg c1, hC.1, if_pos (show sI n ≤ sI p by rw [sI_le (by omega) (by omega)]; omega)]
      · show fX19_read_i2 fu (fX19_read_h2 fu q') (sI p) M Lm = _
        unfold fX19_read_i2
        rw [if_pos (show M 732 2 ≤ sI p by rw [hM.1, sI_le (by omega) (by omega)]; omega)]
    obtain ⟨lb1, lb2⟩ := le_b (tx := tx) (n - p) p
    generalize hle : leF tx (n - p) p = le at lb1 lb2
    -- the class: to the first word
    have cF : DX8_findLineEnd fu (sI p) A Lc = some (mset A 1 6 (sI le), Lc) := by
      unfold DX8_findLineEnd
      rw [mlet_e, c_fle (A := A) (tx := tx) hC (n - p) fu p (mset A 1 6 (sI p)) (by omega) (by omega) mset_s (fun x y u => mset_n u), hle, mset_ii]
    generalize hA2 : mset (mset A 1 6 (sI le)) 1 5 (sI p) = A2
    have fa2 : ∀ x y, ¬ (x = 1 ∧ (y = 5 ∨ y = 6)) → A2 x y = A x y := fun x y u => by rw [← hA2, mset_n (by omega), mset_n (by omega)]
    have a5 : A2 1 5 = sI p := by rw [← hA2, mset_s]
    have a6 : A2 1 6 = sI le := by rw [← hA2, mset_n (by omega), mset_s]
    have hC2 : TxC A2 n tx := TxC_f hC (fun x y u => fa2 x y (by omega))
    obtain ⟨A3, n1, n2, n3, n4⟩ := c_next (fu := fu) (L := Lc) hfu hC2 a5 a6 lb1 (by omega)
    generalize hA4 : mset A3 1 7 (A3 1 8) = A4
    have fa4 : ∀ x y, ¬ (x = 1 ∧ 5 ≤ y ∧ y ≤ 9) → A4 x y = A x y := fun x y u => by rw [← hA4, mset_n (by omega), n4 x y (by omega), fa2 x y (by omega)]
    have fa34 : ∀ x y, ¬ (x = 1 ∧ y = 7) → A4 x y = A3 x y := fun x y u => by rw [← hA4, mset_n (by omega)]
    have c7 : A4 1 7 = A3 1 8 := by rw [← hA4, mset_s]
    -- the reference
    generalize hM2 : mset (mset M 732 7 (sI le)) 732 6 (sI p) = M2
    have fm2 : ∀ x y, ¬ (x = 732 ∧ (y = 6 ∨ y = 7)) → M2 x y = M x y := fun x y u => by rw [← hM2, mset_n (by omega), mset_n (by omega)]
    have b6 : M2 732 6 = sI p := by rw [← hM2, mset_s]
    have b7 : M2 732 7 = sI le := by rw [← hM2, mset_n (by omega), mset_s]
    have hT2 : TxM M2 n tx := TxM_f hM (fun x y u => fm2 x y (by omega))
    obtain ⟨M3, o1, o2, o3, o4⟩ := m_next (fu := fu) (L := Lm) hfu hT2 b6 b7 lb1 (by omega)
    have fm3 : ∀ x y, ¬ (x = 732 ∧ (y = 6 ∨ y = 7 ∨ y = 9 ∨ y = 10)) → M3 x y = M x y := fun x y u => by rw [o4 x y (by omega), fm2 x y (by omega)]
    have hC4 : TxC A4 n tx := TxC_f hC (fun x y u => fa4 x y (by omega))
    have hT3 : TxM M3 n tx := TxM_f hM (fun x y u => fm3 x y (by omega))
    have d6 : A4 1 6 = sI le := by rw [fa34 _ _ (by omega), n4 _ _ (by omega)]; exact a6
    have d12 : A4 1 12 = 0 := by rw [fa4 _ _ (by omega)]; exact h12
    have g7 : M3 732 7 = sI le := by rw [o4 _ _ (by omega)]; exact b7
    have hP4 : PE A4 M3 Lc Lm n p := PE_f hP (Nat.le_refl _) (fun x y u => fa4 x y (by omega)) (fun x y u => fm3 x y (by omega))
    obtain ⟨bb1, bb2, bb3, bb4, bb5, bb6, bb7, _⟩ := nw_b (tx := tx) lb1
    have unC : fX8_readText_h19 fu (q + 1) (sI p, sI v, A, Lc) = (if (A4 1 9) ≤ 0 then fX8_readText_b74 fu (fX8_readText_h19 fu q) (sI v) A4 Lc else mb2 (DX8_readLine fu A4 Lc) (fun M11 L12 => fX8_readText_b74 fu (fX8_readText_h19 fu q) (sI v) M11 L12)) := by
      show fX8_readText_i19 fu (fX8_readText_h19 fu q) (sI p) (sI v) A Lc = _
      unfold fX8_readText_i19
      rw [if_neg (show ¬ (6000 : Int32) ≤ sI v by rw [show (6000 : Int32) = sI 6000 from rfl, sI_le (by omega) (by omega)]; omega), hC.1, if_neg (show ¬ sI n ≤ sI p by rw [sI_le (by omega) (by omega)]; omega), if_pos h12, cF, mb2_s, mlet_e, hA2, n1, mb2_s, mlet_e, hA4]
    have unM : fX19_read_h2 fu (q' + 1) (sI p, M, Lm) = (if bI (nwK tx le p) = (0 : Int32) then fX19_read_b74 fu (fX19_read_h2 fu q') M3 Lm else mb3 (DX19_line fu M3 Lm) (fun r20 M18 L19 => (if r20 = 0 then some (0, M18, L19) else fX19_read_b74 fu (fX19_read_h2 fu q') M18 L19))) := by
      show fX19_read_i2 fu (fX19_read_h2 fu q') (sI p) M Lm = _
      unfold fX19_read_i2
      rw [hM.1, if_neg (show ¬ sI n ≤ sI p by rw [sI_le (by omega) (by omega)]; omega), mlet_e, m_fle (A := M) (tx := tx) hM (n - p) fu p (mset M 732 7 (sI p)) (by omega) (by omega) mset_s (fun x y u => mset_n u), hle, mset_ii]
      unfold fX19_read_b53
      rw [mlet_e, hM2, o1, mb3_s]
    -- the next line
    have go : ∀ (A5 M5 : mwM) (Lc5 Lm5 : mwL), A5 1 6 = sI le → M5 732 7 = sI le → TxC A5 n tx → TxM M5 n tx → PE A5 M5 Lc5 Lm5 n (le + 1) → A5 1 12 = 0 → ∃ A' M' Lc' Lm', fX8_readText_b74 fu (fX8_readText_h19 fu q) (sI v) A5 Lc5 = fX8_readText_b87 fu A' Lc' ∧ ((A' 1 12 = 0 ∧ fX19_read_b74 fu (fX19_read_h2 fu q') M5 Lm5 = eoM fu M' Lm') ∨ (Fx A' M' ∧ fX19_read_b74 fu (fX19_read_h2 fu q') M5 Lm5 = some (0, M', Lm'))) ∧ TxC A' n tx ∧ TxM M' n tx ∧ PE A' M' Lc' Lm' n (n + 1) ∧ fT A5 A' M5 M' Lc5 Lc' Lm5 Lm' := fun A5 M5 Lc5 Lm5 y1 y2 y3 y4 y5 y6 => by
      unfold fX8_readText_b74 fX19_read_b74
      rw [y1, y2, mlet_e, mlet_e, mlet_e, sI_1, sI_1]
      exact ih (le + 1) (v + 1) q q' A5 M5 Lc5 Lm5 (by omega) (by omega) (by omega) (by omega) (by omega) y3 y4 y5 y6
    have f04 : fT A A4 M M3 Lc Lc Lm Lm := ⟨fun a y u1 u2 => fa4 a y (by omega), fun a y u1 u2 => fm3 a y (by omega), fun _ _ => rfl, fun _ _ _ => rfl⟩
    rw [unC, unM]
    cases hk : nwK tx le p with
    | false =>
      obtain ⟨r1, r2, r3⟩ := n3 hk
      rw [bI_f, if_pos (show (0 : Int32) = 0 from rfl), if_pos (show A4 1 9 ≤ 0 by rw [fa34 _ _ (by omega), r3]; decide)]
      obtain ⟨A', M', Lc', Lm', x1, x2, x3, x4, x5, x6⟩ := go A4 M3 Lc Lm d6 g7 hC4 hT3 (PE_f hP4 (by omega) (fun _ _ _ => rfl) (fun _ _ _ => rfl)) d12
      exact ⟨A', M', Lc', Lm', x1, x2, x3, x4, x5, fT_t f04 x6⟩
    | true =>
      obtain ⟨r1, r2, r3⟩ := n2 hk
      obtain ⟨t1, t2, t3⟩ := o2 hk
      have hlt := bb5 hk
      rw [bI_t, if_neg (show ¬ (1 : Int32) = 0 by decide), if_neg (show ¬ A4 1 9 ≤ 0 by rw [fa34 _ _ (by omega), r3, show (0 : Int32) = sI 0 from rfl, sI_le (by omega) (by omega)]; omega)]
      obtain ⟨C, T, X, S, K, R, W, nl, ow, ct, sg, tu, ky, rd, wt, pr, pl, pk⟩ := hP4
      obtain ⟨A5, M5, Lc5, Lm5, gd, e1, e2, ⟨uA, uM, uC, uL⟩, e3, e4⟩ := st_line (fu := fu) (w := nwB tx le p) (e := nwE tx le p) (p := p) hfu ⟨hC4, hT3, d6, g7, by omega, by rw [fa34 _ _ (by omega)]; exact r1, t1, bb4, d12⟩ ⟨by rw [fa34 _ _ (by omega)]; exact r2, by rw [fa34 _ _ (by omega)]; exact r3, t2, t3, hlt⟩ pr (by rw [c7]; exact r2) bb6 bb1 pl pk
      have hC5 : TxC A5 n tx := TxC_f hC4 (fun x y u => by
        rcases u with ⟨rfl, rfl⟩ | rfl
        · exact uA _ _ (by omega)
        · exact uA _ _ (by omega))
      have hT5 : TxM M5 n tx := TxM_f hT3 (fun x y u => by
        rcases u with ⟨rfl, rfl⟩ | rfl
        · exact uM _ _ (by omega)
        · exact uM _ _ (by omega))
      have f45 : fT A4 A5 M3 M5 Lc Lc5 Lm Lm5 := ⟨fun a y u1 _ => uA a y u1, fun a y u1 _ => uM a y u1, uC, uL⟩
      rw [e1, mb2_s, e2, mb3_s]
      cases gd with
      | true =>
        rw [if_pos rfl] at e3
        rw [bI_t, if_neg (show ¬ (1 : Int32) = 0 by decide)]
        obtain ⟨A', M', Lc', Lm', x1, x2, x3, x4, x5, x6⟩ := go A5 M5 Lc5 Lm5 (by rw [uA _ _ (by omega)]; exact d6) (by rw [uM _ _ (by omega)]; exact g7) hC5 hT5 e4 e3
        exact ⟨A', M', Lc', Lm', x1, x2, x3, x4, x5, fT_t f04 (fT_t f45 x6)⟩
      | false =>
        rw [if_neg (by decide)] at e3
        rw [bI_f, if_pos (show (0 : Int32) = 0 from rfl)]
        obtain ⟨C', T', X', S', K', R', W', nl', ow', ct', sg', tu', ky', rd', wt', p1, p2, p3⟩ := e4
        refine ⟨A5, M5, Lc5, Lm5, ?_, Or.inr ⟨e3, rfl⟩, hC5, hT5, ⟨C', T', X', S', K', R', W', nl', ow', ct', sg', tu', ky', rd', wt', p1, by omega, by omega⟩, fT_t f04 f45⟩
        unfold fX8_readText_b74
        rw [mlet_e, mlet_e]
        obtain ⟨q, rfl⟩ : ∃ y, q = y + 1 := ⟨q - 1, by omega⟩
        exact rt_end (Fx_n e3)
