/-! READING: the whole is judged -/
/-- nothing is packed yet -/
def JZ (A M : mwM) : Prop := A 61 11 = sI 0 ∧ M 732 67 = sI 0 ∧ ∀ q, q < 12 → ∀ y, y ≤ 40 → M (941 + 53 * q + 8) y = 0
theorem pr_sg {A M : mwM} {Lc Lm : mwL} {n C T X S K R W : Nat} {nl : List Nm} {ow ct : Nat → Nat} {sg : Nat → Nat → Nat} {tu : Nat → Bool} {ky rd wt : Nat → Nat → Nat} (hP : PR A M Lc Lm n C T X S K R W nl ow ct sg tu ky rd wt) : SgB A S (sg 0) (sg 1) (fun s => ow (ct (sg 2 s))) ∧ SgM M S (sg 0) (sg 1) (fun s => ow (ct (sg 2 s))) tu ∧ ∀ s, s < S → ow (ct (sg 2 s)) < C := by
  obtain ⟨⟨c1, c2, c3⟩, pT, pX, pB, ⟨s1, s2, s3, s4⟩, pK, pR, pW, pN, nB⟩ := hP
  have own : ∀ s, s < S → ow (ct (sg 2 s)) < C := fun s hs => by
    obtain ⟨_, _, ⟨_, _, g5⟩, _⟩ := s4 s hs
    exact (pT.2.2.2.1 _ (pX.2.2.2.1 _ g5).2.1).2.2.1
  refine ⟨⟨s1, s3, fun s hs => ?_⟩, ⟨s2, s3, fun s hs => ?_⟩, own⟩
  · obtain ⟨⟨a1, a2, a3, a4⟩, ⟨b1, b2, b3, b4⟩, ⟨g3, g4, g5⟩, _, _, g8, _⟩ := s4 s hs
    have := own s hs
    exact ⟨a1, a3, a4, b1, b3, b4, g8, by dsimp only; omega⟩
  · obtain ⟨⟨a1, a2, a3, a4⟩, ⟨b1, b2, b3, b4⟩, ⟨g3, g4, g5⟩, _, ⟨h1, h2⟩, g8, _⟩ := s4 s hs
    have := own s hs
    obtain ⟨x1, x2, _⟩ := pX.2.2.2.1 _ g5
    have hX := pX.2.2.1
    have hT := pT.2.2.1
    exact ⟨a2, a3, a4, b2, b3, b4, h2, by dsimp only; omega, sg 2 s, ct (sg 2 s), g4, by omega, x1, by omega, (pT.2.2.2.1 _ x2).2.1⟩
theorem je_0 {A M : mwM} {S : Nat} {bt pe co ky : Nat → Nat} {tu : Nat → Bool} (h : JZ A M) : JE A M S bt pe co ky tu 0 := by
  refine ⟨0, fun _ => 0, fun _ => 0, fun _ => 0, fun _ => 0, fun _ => 0, fun _ => 0, fun _ => 0, fun _ => 0, h.1, h.2.1, ?_, fun f hf => absurd hf (by omega), fun s hs hp => absurd hp (by omega), fun s t hs ht hp => absurd hp (by omega), fun f g hf => absurd hf (by omega), h.2.2⟩
  have := cnt_le (fun s => decide (0 ≤ pkn (co s) (ky s))) S
  omega
theorem st_judge {fu n C T X S K R W : Nat} {A M : mwM} {Lc Lm : mwL} {tx : Nat → Nat} {nl : List Nm} {ow ct : Nat → Nat} {sg : Nat → Nat → Nat} {tu : Nat → Bool} {ky rd wt : Nat → Nat → Nat} (F0 G : mwM → mwL → Option (Int32 × mwM × mwL)) (hfu : 90000 ≤ fu) (hP : PR A M Lc Lm n C T X S K R W nl ow ct sg tu ky rd wt) (hC : TxC A n tx) (hM : TxM M n tx) (h12 : A 1 12 = 0) (hZ : JZ A M) :
    (∃ A' M', fX8_readText_b87 fu A Lc = some (A', Lc) ∧ mb3 (eoM fu M Lm) (fun r19 M17 L18 => (if r19 = 0 then F0 M17 L18 else mb3 (DX19_join fu M17 L18) (fun r23 M21 L22 => (if r23 = 0 then F0 M21 L22 else G M21 L22)))) = F0 M' Lm ∧ Fx A' M' ∧ (∀ a y, ¬ (a = 1 ∧ (y = 12 ∨ y = 13)) → A' a y = A a y) ∧ fnM M M' ∧ ∀ q, q < 12 → ∀ y, y ≤ 40 → M' (941 + 53 * q + 8) y = 0) ∨ (0 < C ∧ (∀ s, s < S → ¬ TLg (sg 0) (fun s => kyf (ky 0) (ky 1) (ky 2) (ow (ct (sg 2 s))) (sg 1 s) K 0) s) ∧ fX8_readText_b87 fu A Lc = some (A, Lc) ∧ mb3 (eoM fu M Lm) (fun r19 M17 L18 => (if r19 = 0 then F0 M17 L18 else mb3 (DX19_join fu M17 L18) (fun r23 M21 L22 => (if r23 = 0 then F0 M21 L22 else G M21 L22)))) = mb3 (DX19_join fu M Lm) (fun r23 M21 L22 => (if r23 = 0 then F0 M21 L22 else G M21 L22))) := by
  obtain ⟨sB, sM, own⟩ := pr_sg hP
  obtain ⟨⟨c1, c2, c3⟩, pT, pX, pB, ⟨s1, s2, s3, s4⟩, ⟨kC, kM, kk⟩, pR, pW, pN, nB⟩ := id hP
  have hn := hC.2.1
  unfold fX8_readText_b87 DX8_judgeWhole fX8_readText_b98 fX8_judgeWhole_b63 eoM
  rw [if_pos h12, c1, c2]
  by_cases c0 : C = 0
  · subst c0
    rw [if_pos (show sI 0 = (0 : Int32) from rfl), c_fail h12, mb2_s, mb2_s, if_neg (show ¬ (0 : Int32) < sI 0 by decide), m_fail, mb3_s, if_pos (show (0 : Int32) = 0 from rfl), hC.1, hM.1]
    unfold fX19_read_b108
    refine Or.inl ⟨_, _, rfl, ?_, Fx_i (k := 4) (A := A) (M := M) (w := n) (by omega) (by omega) (by omega), fun a y u => by rw [mset_n (by omega), mset_n (by omega)], fun a y u1 u2 u3 u4 => by rw [mset_n (by omega), mset_n (by omega)], fun q hq y hy => by rw [mset_n (by omega), mset_n (by omega)]; exact hZ.2.2 q hq y hy⟩
    rfl
  rw [if_neg (show ¬ sI C = (0 : Int32) by rw [show (0 : Int32) = sI 0 from rfl, sI_eq (by omega) (by omega)]; exact c0), if_pos (show (0 : Int32) < sI C by rw [show (0 : Int32) = sI 0 from rfl, sI_lt (by omega) (by omega)]; omega)]
  unfold fX19_read_b103 fX19_read_b108
  have e1 : mzz (1 : Int32) (some ((1 : Int32), M, Lm)) = some (1, M, Lm) := rfl
  rw [e1, mb3_s, if_neg (show ¬ (1 : Int32) = 0 by decide)]
  rcases c_findTooLarge (fu := fu) (C := C) (L := Lc) (by omega) c3 sB kC own with ⟨no, eF⟩ | ⟨t, ht, tl, mn, eF⟩
  · rw [eF, mb3_s, if_pos (show (-1 : Int32) < 0 by decide), mb2_s]
    exact Or.inr ⟨by omega, no, rfl, rfl⟩
  · rw [eF, mb3_s, if_neg (ns_s (by omega)), mck_s (show t < 40 by omega) (by omega), sI_nn (by omega), c_fail h12, mb2_s, mb2_s]
    obtain ⟨A1, k1, k2, k3⟩ := c_keys (fu := fu) (C := C) (L := Lc) (by omega) sB kC
    have jz : JZ A1 M := ⟨by rw [k3 _ _ (by omega)]; exact hZ.1, hZ.2.1, hZ.2.2⟩
    have lj := lk_join (fu := fu) (L := Lc) (L2 := Lm) (tu := tu) hfu c3 (ky := fun s => kyf (ky 0) (ky 1) (ky 2) (ow (ct (sg 2 s))) (sg 1 s) K 0) (fun s hs => rfl) own C 0 fu fu A1 M (by omega) (by omega) (by omega) k2 sM kM c2 (je_0 jz) (fun s hs hh => absurd hh (by omega))
    rcases lj with ⟨no, _⟩ | ⟨t', M', ht', tl', mn', eY, m11, m12, fn, i3⟩
    · exact absurd tl (no t ht)
    · have et : t' = t := by
        have q1 := mn t' ht' tl'
        have q2 := mn' t ht tl
        dsimp only at q1 q2
        omega
      subst et
      obtain ⟨_, _, _, _, _, _, g1, g2, g3⟩ := s4 t' ht
      rw [show DX19_join fu M Lm = some (0, M', Lm) from eY, mb3_s, if_pos (show (0 : Int32) = 0 from rfl), g1]
      refine Or.inl ⟨_, M', rfl, rfl, ⟨8, sg 4 t', by omega, by omega, by omega, by rw [mset_n (by omega), mset_s]; rfl, m11, mset_s, by rw [m12, g2]⟩, fun a y u => by rw [mset_n (by omega), mset_n (by omega)], fn, i3⟩
