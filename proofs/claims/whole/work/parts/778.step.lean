/-! one bit on the bus: a node puts -/
/-- what a put changes -/
def puA (n : Nat) (A A' : mwM) : Prop := ∀ a y, ¬ ((a = 25 ∨ a = 27 ∨ a = 28 ∨ a = 29 ∨ a = 32) ∧ y = n) → a ≠ 34 + n → A' a y = A a y
def puM (M M' : mwM) : Prop := ∀ a y, ¬ (a = 821 ∧ (y = 34 ∨ y = 37 ∨ y = 38 ∨ (41 ≤ y ∧ y ≤ 46) ∨ (48 ≤ y ∧ y ≤ 50))) → ¬ (848 ≤ a ∧ a ≤ 853) → M' a y = M a y
theorem st_put {fu N t F n : Nat} {ow id : Nat → Nat} {oc : Nat → Nat → Nat} {dn ec tc : Nat → Nat} {A M : mwM} {Lc Lm : mwL} (hfu : 1300 ≤ fu) (hn : n < 7) (hG : BuG A M N t F ow id oc dn ec tc) (hN : NdR A M F ow id oc dn n t (ec n) (tc n)) : ∃ (A' M' : mwM) (pb : Nat), pb < 2 ∧ DX0_putOf fu (sI n) A Lc = some (sI pb, A', Lc) ∧ DX12_puts fu (sI n) M Lm = some (sI pb, M', Lm) ∧ BuG (mset A' 32 n (sI pb)) M' N t F ow id oc dn ec tc ∧ NmR (mset A' 32 n (sI pb)) M' F ow id oc dn n t (ec n) (tc n) pb ∧ puA n A (mset A' 32 n (sI pb)) ∧ puM M M' := by
  have hG' := hG
  obtain ⟨_, _, hFC, hFM, hW, hC, _, _, h14, _⟩ := hG'
  have waits := (h14 n hn).1
  have cle := cnt_le (fun f => decide (ow f = n ∧ dn f = 0)) F
  have hF := hFC.2.1
  have le := (fsF_le (ow := ow) (id := id) (dn := dn) (oc := oc) (n := n) F)
  unfold DX0_putOf DX12_puts fX12_puts_b23 fX12_puts_b79 fX12_puts_b95
  rw [mck_s hn (by omega), sI_nn (by omega), mck_s (show n < 32 by omega) (by omega)]
  simp only [mlet, mb3_id3]
  rcases hN with ⟨h1, h2, h3, h4⟩ | ⟨f, K, f1, f2, f3, f4, f5, f6, f7, f8, f9, f10, f11, f12, f13, f14, f15⟩ | ⟨s, K, k1, k2, k3, k4, k5⟩ | ⟨st, lf, g1, g2, g3, g4, g5, g6, g7, g8, g9⟩
  · rw [h1, h2, if_pos (show sI 0 = 0 from rfl), if_pos (show sI 0 = 0 from rfl), mck_s hn (by omega), waits]
    obtain ⟨⟨r, M1, L1⟩, e1, y1, y2, y3, y4⟩ := m_first (fu := fu) (L := Lm) (by omega) hn hFM
    dsimp only at y1 y2 y3 y4
    rw [y1, y2] at e1
    rw [e1, mb3_s]
    have pM : puM M M1 := fun a y u1 u2 => y3 a y (by omega) (by omega) (by omega)
    have hW1 : WC M1 F id oc := WC_fr hW (fun a y u => y3 a y (by omega) (by omega) (by omega))
    by_cases q : fsF ow id oc dn n F = 0
    · rw [(fs_cnt F).mp q, if_pos (show sI 0 = 0 from rfl), q, if_pos (show fI 0 = -1 from rfl)]
      refine ⟨A, M1, 1, by omega, rfl, rfl, BuG_fr hG (fun a y u => by simp (disch := omega) only [mset_n]) (fun a y u => y3 a y (by omega) (by omega) (by omega)) hW1 (y4 hC), ⟨mset_s, Or.inl ⟨by rw [mset_n (by omega)]; exact h1, by rw [y3 831 n (by omega) (by omega) (by omega)]; exact h2, q, rfl, h3, h4⟩⟩, fun a y u1 u2 => mset_n (by omega), pM⟩
    · have cn : cnt (fun f => decide (ow f = n ∧ dn f = 0)) F ≠ 0 := fun z => q ((fs_cnt F).mpr z)
      have ef : fI (fsF ow id oc dn n F) = sI (fsF ow id oc dn n F - 1) := if_neg q
      have em : ¬ sI (fsF ow id oc dn n F - 1) = -1 := fun z => sI_m1n (by omega) z.symm
      obtain ⟨⟨A1, La⟩, ea, b1, b2, b3, b4, b5, b6⟩ := c_beginSending (fu := fu) (A := A) (L := Lc) (by omega) hn hFC q
      dsimp only at b1 b2 b3 b4 b5 b6
      rw [b1] at ea
      rw [if_neg (show ¬ sI (cnt (fun f => decide (ow f = n ∧ dn f = 0)) F) = 0 by rw [sI_eql (by omega) (by decide)]; exact cn), ea, mb2_s, ef, if_neg em]
      refine ⟨A1, M1, 0, by omega, rfl, rfl, BuG_fr hG (fun a y u => by rw [mset_n (by omega), b6 a y (by omega) (by omega)]) (fun a y u => y3 a y (by omega) (by omega) (by omega)) hW1 (y4 hC), ⟨mset_s, Or.inr (Or.inl ⟨fsF ow id oc dn n F - 1, by omega, by rw [mset_n (by omega)]; exact b2, by rw [y3 831 n (by omega) (by omega) (by omega)]; exact h2, by rw [mset_n (by omega)]; exact b3, by rw [mset_n (by omega)]; exact b4, WvR_fr b5 (fun a y u => mset_n (by omega)), rfl, h3, h4⟩)⟩, fun a y u1 u2 => by rw [mset_n (by omega), b6 a y u2 (by omega)], pM⟩
  · have wb := wN_b (f := fbF (id f) (oc f)) (fbF_lt _ _)
    have wl := wR_lt (f := fbF (id f) (oc f)) (fbF_lt _ _) K
    have wire : A (34 + n) K &&& 1 = sI (wR (fbF (id f) (oc f)) K) := by
      by_cases c : K < wN (fbF (id f) (oc f))
      · rw [f12.1 K c, wv_1 (ly_b (fbF_lt _ _) 98 K c).1]
        unfold wR
        rw [if_pos c]
      · rw [f12.2.1 K (by omega) f11]
        unfold wR
        rw [if_neg c]
        rfl
    rw [f4, f5, if_neg (show ¬ sI 1 = 0 by decide), if_pos (show sI 1 = 1 from rfl), if_neg (show ¬ sI 1 = 0 by decide), mck_s hn (by omega), mck_s hn (by omega), f8, mck_s (by omega) (by omega), sI_nn (by omega), wire, mck_s (show n < 32 by omega) (by omega), if_pos (show sI 1 = 1 from rfl), mck_s (show n < 32 by omega) (by omega), f7]
    obtain ⟨⟨M1, L1⟩, e1, x1, x2, x3, x4, x5⟩ := m_write (fu := fu) (L := Lm) (by omega) hFM f1 hW
    dsimp only at x1 x2 x3 x4 x5
    rw [x1] at e1
    have pM : puM M M1 := fun a y u1 u2 => x5 a y (by omega) (by omega) (by omega) (by omega) (by omega)
    rw [e1, mb2_s, mck_s (show n < 32 by omega) (by omega), x5 836 n (by omega) (by omega) (by omega) (by omega) (by omega), f9, mck_s (by omega) (by omega), sI_nn (by omega), (x2.2.1 K f11).1]
    refine ⟨A, M1, _, wl, rfl, rfl, BuG_fr hG (fun a y u => by simp (disch := omega) only [mset_n]) (fun a y u => x5 a y (by omega) (by omega) (by omega) (by omega) (by omega)) (Or.inr ⟨f, f1, x3, x2⟩) (x4 hC), ⟨mset_s, Or.inr (Or.inr (Or.inl ⟨f, K, f1, f2, f3, by rw [mset_n (by omega)]; exact f4, by rw [x5 831 n (by omega) (by omega) (by omega) (by omega) (by omega)]; exact f5, by rw [mset_n (by omega)]; exact f6, by rw [x5 833 n (by omega) (by omega) (by omega) (by omega) (by omega)]; exact f7, by rw [mset_n (by omega)]; exact f8, by rw [x5 836 n (by omega) (by omega) (by omega) (by omega) (by omega)]; exact f9, f10, f11, WvR_fr f12 (fun a y u => mset_n (by omega)), fun i u1 u2 => by rw [x5 837 _ (by omega) (by omega) (by omega) (by omega) (by omega)]; exact f13 i u1 u2, rfl, f14, f15⟩))⟩, fun a y u1 u2 => mset_n (by omega), pM⟩
  · obtain ⟨l1, l2, l3, l4, l5, l6, l7, l8, o0, l9⟩ := k3
    rw [k1, k2, if_neg (show ¬ sI 2 = 0 by decide), if_neg (show ¬ sI 2 = 1 by decide), if_pos (show sI 2 = 2 from rfl), if_neg (show ¬ sI 2 = 0 by decide), mck_s hn (by omega), c_putK (fu := fu) (L := Lc) l8 l1 l3 l4 l5, mck_s (show n < 32 by omega) (by omega), if_neg (show ¬ sI 2 = 1 by decide), mck_s (show n < 32 by omega) (by omega), if_pos (show sI 2 = 2 from rfl)]
    obtain ⟨E, hV⟩ := CaV_ex (s := s) (K := K) l1 (by omega) l3 l4 (fun j u1 u2 => l5 j u1 (by omega))
    obtain ⟨⟨r, M1, L1⟩, e1, y1, y2, y3, y4⟩ := m_answers (fu := fu) (L := Lm) hfu hn l6 l7 l3 hV l5 hC
    dsimp only at y1 y2 y3 y4
    rw [y1, y2] at e1
    rw [e1, mb3_s]
    have pM : puM M M1 := fun a y u1 u2 => y3 a y (by omega) (by omega) (by omega) (by omega)
    have pl : putK (hq s K) < 2 := by unfold putK; split <;> omega
    have eq : (if bI (decide (putK (hq s K) = 0)) = 0 then some ((1 : Int32), M1, Lm) else some (0, M1, Lm)) = some (sI (putK (hq s K)), M1, Lm) := by
      by_cases c : putK (hq s K) = 0
      · rw [decide_eq_true c, if_neg (show ¬ bI true = 0 by decide), c]
        rfl
      · rw [decide_eq_false c, if_pos (show bI false = 0 from rfl), show putK (hq s K) = 1 by omega]
        rfl
    rw [eq]
    refine ⟨A, M1, _, pl, rfl, rfl, BuG_fr hG (fun a y u => by simp (disch := omega) only [mset_n]) (fun a y u => y3 a y (by omega) (by omega) (by omega) (by omega)) (WC_fr hW (fun a y u => y3 a y (by omega) (by omega) (by omega) (by omega))) y4, ⟨mset_s, Or.inr (Or.inr (Or.inr (Or.inl ⟨s, K, by rw [mset_n (by omega)]; exact k1, by rw [y3 831 n (by omega) (by omega) (by omega) (by omega)]; exact k2, LiR_fr ⟨l1, l2, l3, l4, l5, l6, l7, l8, o0, l9⟩ (fun a y u => mset_n (by omega)) (fun a y u => y3 a y (by omega) (by omega) (by omega) (by omega)), k4, k5⟩)))⟩, fun a y u1 u2 => mset_n (by omega), pM⟩
  · have fin : ∀ pb, pb < 2 → BuG (mset A 32 n (sI pb)) M N t F ow id oc dn ec tc ∧ NmR (mset A 32 n (sI pb)) M F ow id oc dn n t (ec n) (tc n) pb ∧ puA n A (mset A 32 n (sI pb)) ∧ puM M M := fun pb _ => ⟨BuG_fr hG (fun a y u => by simp (disch := omega) only [mset_n]) (fun _ _ _ => rfl) hW hC, ⟨mset_s, Or.inr (Or.inr (Or.inr (Or.inr ⟨st, lf, g1, g2, by rw [mset_n (by omega)]; exact g3, g4, fun z => by rw [mset_n (by omega)]; exact g5 z, g6, g7, g8, g9⟩)))⟩, fun a y u1 u2 => mset_n (by omega), fun _ _ _ _ => rfl⟩
    have n0 : ¬ sI st = 0 := by rw [sI_eql (by omega) (by decide)]; omega
    have n1 : ¬ sI st = 1 := by rw [sI_eql (by omega) (by decide)]; omega
    have n2 : ¬ sI st = 2 := by rw [sI_eql (by omega) (by decide)]; omega
    rw [g3, g4, if_neg n0, if_neg n1, if_neg n2, if_neg n0, mck_s (show n < 32 by omega) (by omega), if_neg n1, mck_s (show n < 32 by omega) (by omega), if_neg n2, mck_s (show n < 32 by omega) (by omega)]
    by_cases c : st = 3
    · have e3 : sI st = 3 := by rw [c]; rfl
      rw [if_pos e3, if_pos e3]
      exact ⟨A, M, 0, by omega, rfl, rfl, fin 0 (by omega)⟩
    · have e3 : ¬ sI st = 3 := by rw [sI_eql (by omega) (by decide)]; exact c
      rw [if_neg e3, if_neg e3]
      exact ⟨A, M, 1, by omega, rfl, rfl, fin 1 (by omega)⟩
