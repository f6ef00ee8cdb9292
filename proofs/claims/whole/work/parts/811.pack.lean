/-! both sides step through the same periods -/
theorem cnt_z {p : Nat → Bool} (h : p 0 = false) : ∀ n, cnt p (n + 1) ≤ n := by
  intro n
  induction n with
  | zero => rw [cnt_sc, h, if_neg (by decide)]; exact Nat.le_refl _
  | succ n ih =>
    rw [cnt_sc]
    split <;> omega
theorem lk_loop {fu k n cap S c F0 : Nat} {lk : Bool} {A0 M0 : mwM} {L L2 : mwL} {bt pe co ky pl zl : Nat → Nat} (hfu : 90000 ≤ fu) (hS : SgC A0 S bt pe co ky) (hc : c < 6) (hB : LkB S n cap (isO co ky c lk) bt pe co ky pl zl c) (h40 : F0 + n ≤ 40) (hcap : cap = if lk = true then 3 else 8) : ∀ (x i q q' : Nat) (A M : mwM) (fr oc : Nat → Nat) (G last r : Nat), cnt (fun l => decide (1 ≤ l ∧ last < pl l)) (n + 1) ≤ x → i + x ≤ 40 → x < q → x + 1 < q' → last ≤ 20000 → r ≤ 1000000 → Nxp (isO co ky c lk) pe S last r → LkS A0 A F0 G S (isO co ky c lk) fr oc → LkM M0 M k n cap G last pl zl fr oc → ∃ A' M' fr' oc' G' last', fX6_packOf_h11 fu (sI c) (bI lk) q (sI r, sI i, A, L) = some (A', L) ∧ fX16_packs_h196 fu k 5040 q' (sI last, M, L2) = some (1, M', L2) ∧ LkS A0 A' F0 G' S (isO co ky c lk) fr' oc' ∧ LkM M0 M' k n cap G' last' pl zl fr' oc' ∧ ∀ l, 1 ≤ l → l ≤ n → fr' l ≠ 0 := by
  obtain ⟨b1, b2, b3⟩ := id hB
  intro x
  induction x with
  | zero =>
    intro i q q' A M fr oc G last r hx hi hq hq' hl hr hN hA hM
    obtain ⟨w, rfl⟩ : ∃ y, q = y + 1 := ⟨q - 1, by omega⟩
    obtain ⟨w', rfl⟩ : ∃ y, q' = y + 1 + 1 := ⟨q' - 2, by omega⟩
    have hn := hM.1.2.2.1
    have none : ∀ l, 1 ≤ l → l ≤ n → ¬ last < pl l := fun l l1 l2 w => by
      have := cnt_in (P := fun l => decide (1 ≤ l ∧ last < pl l)) (show l < n + 1 by omega) (decide_eq_true ⟨l1, w⟩)
      have := lxf_1 (P := fun l => decide (1 ≤ l ∧ last < pl l)) (s := l)
      omega
    rcases hN with ⟨n1, n2⟩ | ⟨⟨s, n1, n2, n3⟩, n4, n5⟩
    · rcases m_packsN (fu := fu) (L := L2) (q := w' + 1) (by omega) hM.1 hl hM.2.1 with ⟨p1, p2⟩ | ⟨p, p1, p2, ⟨l, l1, l2, l3⟩, p4⟩
      · refine ⟨A, M, fr, oc, G, last, ?_, ?_, hA, hM, fun l l1 l2 => fun u => none l l1 l2 ((hM.2.1 l l1 l2).mp u)⟩
        · show fX6_packOf_i11 fu (sI c) (bI lk) (fX6_packOf_h11 fu (sI c) (bI lk) w) (sI r) (sI i) A L = _
          unfold fX6_packOf_i11 fX6_packOf_b59
          by_cases c40 : (40 : Int32) ≤ sI i
          · rw [if_pos c40]
          · rw [if_neg c40, if_pos (by rw [n2]; decide)]
        · rw [p2, m_packsE (by omega) hM.1 (by have := hM.2.2.2.2.1; omega) hM.2.2.1 hM.2.2.2.1]
      · exact absurd (by omega : last < pl l) (none l l1 l2)
    · have h1 := (b2 s n1 n2).1
      have h2 := cnt_in n1 n2
      exact absurd (by rw [h1]; omega) (none _ lxf_1 (by omega))
  | succ x ih =>
    intro i q q' A M fr oc G last r hx hi hq hq' hl hr hN hA hM
    obtain ⟨w, rfl⟩ : ∃ y, q = y + 1 := ⟨q - 1, by omega⟩
    obtain ⟨w', rfl⟩ : ∃ y, q' = y + 1 + 1 := ⟨q' - 2, by omega⟩
    have hn := hM.1.2.2.1
    rcases hN with ⟨n1, n2⟩ | ⟨⟨s, n1, n2, n3⟩, n4, n5⟩
    · have none : ∀ l, 1 ≤ l → l ≤ n → ¬ last < pl l := fun l l1 l2 w => by
        obtain ⟨s, s1, s2, s3⟩ := lxf_ex (P := isO co ky c lk) (S := S) l1 (by omega)
        have := n1 s s1 s2
        rw [← s3, (b2 s s1 s2).1] at w
        omega
      rcases m_packsN (fu := fu) (L := L2) (q := w' + 1) (by omega) hM.1 hl hM.2.1 with ⟨p1, p2⟩ | ⟨p, p1, p2, ⟨l, l1, l2, l3⟩, p4⟩
      · refine ⟨A, M, fr, oc, G, last, ?_, ?_, hA, hM, fun l l1 l2 => fun u => none l l1 l2 ((hM.2.1 l l1 l2).mp u)⟩
        · show fX6_packOf_i11 fu (sI c) (bI lk) (fX6_packOf_h11 fu (sI c) (bI lk) w) (sI r) (sI i) A L = _
          unfold fX6_packOf_i11 fX6_packOf_b59
          by_cases c40 : (40 : Int32) ≤ sI i
          · rw [if_pos c40]
          · rw [if_neg c40, if_pos (by rw [n2]; decide)]
        · rw [p2, m_packsE (by omega) hM.1 (by have := hM.2.2.2.2.1; omega) hM.2.2.1 hM.2.2.2.1]
      · exact absurd (by omega : last < pl l) (none l l1 l2)
    · have hps := (b2 s n1 n2).1
      have hls := cnt_in n1 n2
      rcases m_packsN (fu := fu) (L := L2) (q := w' + 1) (by omega) hM.1 hl hM.2.1 with ⟨p1, p2⟩ | ⟨p, p1, p2, ⟨l, l1, l2, l3⟩, p4, p5⟩
      · have := p1 _ (lxf_1 (P := isO co ky c lk) (s := s)) (by omega)
        omega
      · have er : r = p := by
          apply Nat.le_antisymm
          · obtain ⟨t, t1, t2, t3⟩ := lxf_ex (P := isO co ky c lk) (S := S) l1 (by omega)
            have := n5 t t1 t2 (by rw [← (b2 t t1 t2).1, t3]; omega)
            rw [← (b2 t t1 t2).1, t3] at this
            omega
          · have := p4 _ (lxf_1 (P := isO co ky c lk) (s := s)) (by omega) (by omega)
            omega
        subst er
        obtain ⟨A1, A', M', fr', oc', G', k1, k2, k3, k4, k5⟩ := lk_step (fu := fu) (L := L) (L2 := L2) hfu hS hc hB h40 hA hM p1 p2 ⟨l, l1, l2, l3⟩ p4
        have hS' : SgC A' S bt pe co ky := SgC_f hS (fun a y u => k4.2.2.2 a y (by omega) (by omega) (by omega) (by omega) (by omega))
        obtain ⟨r', y1, y2, y3⟩ := c_nextPeriod (fu := fu) (L := L) (last := r) (lk := lk) (by omega) hS' hc p2
        have hlt : cnt (fun l => decide (1 ≤ l ∧ r < pl l)) (n + 1) < cnt (fun l => decide (1 ≤ l ∧ last < pl l)) (n + 1) := by
          refine cnt_lt (x := l) (by omega) (decide_eq_false (by omega)) (decide_eq_true (by omega)) (fun j _ hj => ?_)
          have := of_decide_eq_true hj
          exact decide_eq_true (by omega)
        obtain ⟨A2, M2, fr2, oc2, G2, last2, z1, z2, z3, z4, z5⟩ := ih (i + 1) w (w' + 1) A' M' fr' oc' G' r r' (by omega) (by omega) (by omega) (by omega) p2 y1 y3 k4 k5
        refine ⟨A2, M2, fr2, oc2, G2, last2, ?_, ?_, z3, z4, z5⟩
        · show fX6_packOf_i11 fu (sI c) (bI lk) (fX6_packOf_h11 fu (sI c) (bI lk) w) (sI r) (sI i) A L = _
          unfold fX6_packOf_i11
          rw [if_neg (by rw [sI_lle (by decide) (by omega)]; omega), if_neg (by rw [sI_lle (by decide) (by omega)]; omega), k1, mb2_s]
          have e42 : fX6_packOf_b42 fu (sI c) (bI lk) (fX6_packOf_h11 fu (sI c) (bI lk) w) (sI r) (sI i) (sI cap) A1 L = some (A2, L) := by
            unfold fX6_packOf_b42
            rw [k2, mb2_s, y2, mb3_s]
            simp only [mlet]
            rw [sI_1]
            exact z1
          cases lk with
          | false =>
            rw [bI_f, if_pos (show (0 : Int32) = 0 from rfl)]
            rw [if_neg (by decide)] at hcap
            rw [hcap] at e42
            exact e42
          | true =>
            rw [bI_t, if_neg (show ¬ (1 : Int32) = 0 by decide)]
            rw [if_pos rfl] at hcap
            rw [hcap] at e42
            exact e42
        · rw [p5, k3, mb3_s, if_neg (show ¬ (1 : Int32) = 0 by decide)]
          exact z2
/-- one controller's signals with or without key -/
theorem lk_packOf {fu k n cap S c F0 : Nat} {lk : Bool} {A M : mwM} {L L2 : mwL} {bt pe co ky pl btl : Nat → Nat} {tu : Nat → Bool} (hfu : 90000 ≤ fu) (hS : SgC A S bt pe co ky) (hc : c < 6) (hB : LkB S n cap (isO co ky c lk) bt pe co ky pl (fun l => (btl l + 7) / 8) c) (h40 : F0 + n ≤ 40) (hcap : cap = if lk = true then 3 else 8) (hF : A 61 11 = sI F0) (hP : PsM M k n cap btl pl tu) : ∃ A' M' fr oc G, DX6_packOf fu (sI c) (bI lk) A L = some (A', L) ∧ DX16_packs fu k 5040 M L2 = some (1, M', L2) ∧ LkS A A' F0 G S (isO co ky c lk) fr oc ∧ PvM M' k n cap pl (fun l => (btl l + 7) / 8) fr oc ∧ (∀ l, 1 ≤ l → l ≤ n → fr l ≠ 0 ∧ fr l ≤ G) ∧ (∀ f, 1 ≤ f → f ≤ G → ∃ l, 1 ≤ l ∧ l ≤ n ∧ fr l = f) ∧ G ≤ n ∧ LkD n cap (fun l => (btl l + 7) / 8) fr oc ∧ ∀ a y, ¬ (k + 16 ≤ a ∧ a ≤ k + 22) → ¬ (a = k ∧ y = 14) → M' a y = M a y := by
  have hn : n ≤ 40 := hP.2.2.1.2.1
  obtain ⟨M1, e1, e2, e3⟩ := m_packs0 (fu := fu) (L := L2) (by omega) hP
  obtain ⟨r, y1, y2, y3⟩ := c_nextPeriod (fu := fu) (L := L) (last := 0) (lk := lk) (by omega) hS hc (by omega)
  have hA : LkS A A F0 0 S (isO co ky c lk) (fun _ => 0) (fun _ => 0) := ⟨hF, fun s _ _ w => absurd rfl w, fun _ _ => ⟨rfl, rfl⟩, fun _ _ _ _ _ _ _ => rfl⟩
  have hcz := cnt_z (p := fun l => decide (1 ≤ l ∧ 0 < pl l)) (decide_eq_false (by omega)) n
  have hM : LkM M1 M1 k n cap 0 0 pl (fun l => (btl l + 7) / 8) (fun _ => 0) (fun _ => 0) := ⟨e2, fun l l1 l2 => ⟨fun _ => (hP.2.2.2 l l1 l2).2.1, fun _ => rfl⟩, fun _ _ _ => Nat.le_refl _, fun f f1 f2 => by omega, by omega, ⟨fun l l1 l2 w => absurd rfl w, fun l t l1 l2 t1 t2 ne ef w => absurd rfl w⟩, fun _ _ _ _ => rfl⟩
  obtain ⟨A', M', fr, oc, G, last, z1, z2, z3, z4, z5⟩ := lk_loop (fu := fu) (L := L) (L2 := L2) hfu hS hc hB h40 hcap n 0 fu fu A M1 _ _ 0 0 r hcz (by omega) (by omega) (by omega) (by omega) y1 y3 hA hM
  refine ⟨A', M', fr, oc, G, ?_, ?_, z3, z4.1, fun l l1 l2 => ⟨z5 l l1 l2, z4.2.2.1 l l1 l2⟩, z4.2.2.2.1, by have := z4.2.2.2.2.1; omega, z4.2.2.2.2.2.1, fun a y w1 w2 => ?_⟩
  · unfold DX6_packOf
    have y2' : DX6_nextPeriod fu (sI c) (bI lk) 0 A L = some (sI r, A, L) := y2
    rw [y2', mb3_s]
    exact z1
  · rw [e1]
    exact z2
  · rw [z4.2.2.2.2.2.2 a y (by omega) w2]
    exact e3 a y (by omega) (by omega) (by omega)
