/-! questions: the list of troubles, seeds -/
theorem st_list {fu X N E : Nat} {S : Nat → Nat} {A M : mwM} {Lc Lm : mwL} (hf : 31 ≤ fu) (hE : E < 900000000) (hQ : QuR A M) (hT : RTr A M N E) (hC : RCd A M S) (h7 : A 275 7 = sI 0) : SvQ X N E S A Lc M Lm (DX7_listTroubles fu A Lc) (DX19_serveTroubles fu M Lm) := by
  have hT0 := hT
  obtain ⟨hN, a1, a2, a3, a4, a5, a6, a7, a8, _, a10, l, sd, ⟨b1, b2, b3, b4⟩, ⟨e1, e2, e3, t0, e4, e5, e6⟩, hF⟩ := hT
  obtain ⟨lk, hlk⟩ : ∃ lk : Nat → Nat, ∀ j (h : j < l.length), lk j = l[j] := ⟨fun j => if h : j < l.length then l[j] else 0, fun j h => dif_pos h⟩
  obtain ⟨n, hn⟩ : ∃ n, n = l.length := ⟨_, rfl⟩
  have hn8 : n ≤ 8 := by omega
  have lN : ∀ j, j < n → lk j < N := fun j h => by rw [hlk j (by omega)]; exact b2 _ (List.getElem_mem (by omega))
  have b5 : ∀ j, j < n → A 153 j = sI (lk j) := fun j h => by rw [hlk j (by omega)]; exact b4 j (by omega)
  rw [← hn] at b3
  obtain ⟨st, hst⟩ : ∃ st : Nat → Nat, ∀ i, i < N → st i < 256 ∧ A 146 i = sI (st i) := ⟨fun i => (A 146 i).toNatClampNeg, fun i hi => by
    obtain ⟨k, q1, q2, _⟩ := st_status (fu := fu) (L := Lc) (L2 := Lm) hf hi hT0
    dsimp only
    rw [q2, sI_nn (by omega)]
    exact ⟨q1, rfl⟩⟩
  have hsd : ∀ x, x < N → sd x < 2000000000 := fun x hx => by have := e6 x hx; omega
  have sto : ∀ (x : mwM), (∀ a y, 902 ≤ a → a ≤ 920 → ¬ (a = 902 ∧ y = 0) → x a y = M a y) → ∀ j, j < n → DX18_stored fu (sI j) 0 x Lm = some (sI (lk j + 1), mset x 902 0 0, Lm) := fun x hx j hj => by
    rw [m_stored (N := N) (l := l) (sd := sd) hf hN (by omega) b1 hsd b2 e3 (by rw [hx 902 2 (by omega) (by omega) (by omega)]; exact a2) (fun i u => by rw [hx 916 _ (by omega) (by omega) (by omega)]; exact e1 i u) e2, dif_pos (show j < l.length by omega), hlk j (by omega)]
  have sta : ∀ (x : mwM), (∀ a y, 902 ≤ a → a ≤ 920 → ¬ (a = 902 ∧ y = 0) → x a y = M a y) → ∀ i, i < N → DX18_status fu (sI (i + 1)) x Lm = some (sI (st i), mset x 902 0 0, Lm) := fun x hx i hi => by
    obtain ⟨k, q1, q2, _, q3⟩ := st_status (fu := fu) (L := Lc) (L2 := Lm) hf hi (RTr_fr hT0 (fun _ _ _ _ => rfl) hx)
    rw [q3, ← q2, (hst i hi).2]
  unfold DX7_listTroubles DX19_serveTroubles
  rw [c_put7 h7 (by omega), mb2_s]
  have g3 : mset (mset A 282 0 89) 275 7 (sI (0 + 1)) 139 3 = sI n := by
    rw [mset_n (by omega), mset_n (by omega)]; exact b3
  rw [g3, c_put7 (n := 1) mset_s (by omega), mb2_s]
  generalize hA1 : mset (mset (mset (mset A 282 0 89) 275 7 (sI (0 + 1))) 282 1 (sI n)) 275 7 (sI (1 + 1)) = A1
  have f1 : ∀ a y, a ≠ 282 → ¬ (a = 275 ∧ y = 7) → A1 a y = A a y := fun a y u1 u2 => by
    rw [← hA1]
    simp (disch := omega) only [mset_n]
  have g1 : A1 275 7 = sI 2 ∧ A1 282 0 = sI 89 ∧ A1 282 1 = sI n := by
    rw [← hA1]
    simp (disch := omega) only [mset_n, mset_s]
    exact ⟨(by first | trivial | rfl), (by first | trivial | rfl), (by first | trivial | rfl)⟩
  have em : DX18_stored fu (-1) 0 M Lm = some (sI n, mset M 902 0 0, Lm) := by
    unfold DX18_stored
    unfold mlet
    dsimp only
    rw [if_pos rfl, if_pos rfl, m_entries (N := N) (l := l) (sd := sd) hf hN hsd b2 (oke_nodup e3) (by rw [mset_n (by omega)]; exact a2) (fun i u => by rw [mset_n (by omega)]; exact e1 i u) e2, mb3_s, ← hn]
  rw [em, mb3_s, show (0 : Int32).toNatClampNeg = 0 by decide, show (1 : Int32).toNatClampNeg = 1 by decide]
  simp only [mlet]
  generalize hM1 : mset (mset (mset M 902 0 0) 933 0 89) 933 1 (sI n) = M1
  have f2 : ∀ a y, a ≠ 933 → ¬ (a = 902 ∧ y = 0) → M1 a y = M a y := fun a y u1 u2 => by
    rw [← hM1]
    simp (disch := omega) only [mset_n]
  have g2 : M1 933 0 = sI 89 ∧ M1 933 1 = sI n := by
    rw [← hM1]
    simp (disch := omega) only [mset_n, mset_s]
    exact ⟨rfl, trivial⟩
  have cl : wq (fX7_listTroubles_h16 fu fu (0, A1, Lc)) (fun z => z.2 = Lc ∧ z.1 275 7 = sI (2 + 2 * n) ∧ (∀ j, j < n → z.1 282 (2 + 2 * j) = sI (lk j + 1) ∧ z.1 282 (3 + 2 * j) = sI (st (lk j))) ∧ (∀ j, j < 2 → z.1 282 j = A1 282 j) ∧ ∀ a y, a ≠ 282 → ¬ (a = 275 ∧ y = 7) → z.1 a y = A1 a y) := by
    refine wq_for (body := fun r z => fX7_listTroubles_i16 fu r z.1 z.2.1 z.2.2) (fun i (x : mwM) => (sI i, x, Lc)) (fun i x => x 275 7 = sI (2 + 2 * i) ∧ (∀ j, j < i → x 282 (2 + 2 * j) = sI (lk j + 1) ∧ x 282 (3 + 2 * j) = sI (st (lk j))) ∧ (∀ j, j < 2 → x 282 j = A1 282 j) ∧ ∀ a y, a ≠ 282 → ¬ (a = 275 ∧ y = 7) → x a y = A1 a y) n ?_ ?_ n 0 A1 fu (by omega) (by omega) ⟨g1.1, fun j u => by omega, fun _ _ => rfl, fun _ _ _ _ => rfl⟩
    · intro i x r hi ⟨x1, x2, x3, x4⟩ ih
      show wq (fX7_listTroubles_i16 fu r (sI i) x Lc) _
      have hlt := lN i hi
      obtain ⟨s1, s2⟩ := hst (lk i) hlt
      unfold fX7_listTroubles_i16 DX10_statusOf
      rw [x4 139 3 (by omega) (by omega), f1 139 3 (by omega) (by omega), b3, if_neg (by rw [sI_le (by omega) (by omega)]; omega), mck_s (by omega) (by omega), sI_nn (by omega), x4 153 i (by omega) (by omega), f1 153 i (by omega) (by omega), b5 i hi, sI_1, c_put7 x1 (by omega), mb2_s, mck_s (by omega) (by omega), mset_n (show ¬ (153 = 275 ∧ i = 7) by omega), mset_n (show ¬ (153 = 282 ∧ i = 2 + 2 * i) by omega), x4 153 i (by omega) (by omega), f1 153 i (by omega) (by omega), b5 i hi, mck_s (by omega) (by omega), mb3_s, sI_nn (by omega), mset_n (show ¬ (146 = 275 ∧ lk i = 7) by omega), mset_n (show ¬ (146 = 282 ∧ lk i = 2 + 2 * i) by omega), x4 146 _ (by omega) (by omega), f1 146 _ (by omega) (by omega), s2, c_put7 (n := 2 + 2 * i + 1) mset_s (by omega), mb2_s]
      simp only [mlet]
      rw [sI_1]
      refine ih _ ⟨by rw [mset_s]; rfl, fun j u => ?_, fun j u => ?_, fun a y u1 u2 => ?_⟩
      · by_cases hq : j = i
        · subst hq
          simp (disch := omega) only [mset_n]
          rw [mset_s, show 3 + 2 * j = 2 + 2 * j + 1 by omega, mset_s]
          exact ⟨rfl, rfl⟩
        · simp (disch := omega) only [mset_n]
          exact x2 j (by omega)
      · simp (disch := omega) only [mset_n]
        exact x3 j u
      · simp (disch := omega) only [mset_n]
        exact x4 a y u1 u2
    · intro x r ⟨x1, x2, x3, x4⟩
      show wq (fX7_listTroubles_i16 fu r (sI n) x Lc) _
      unfold fX7_listTroubles_i16
      rw [x4 139 3 (by omega) (by omega), f1 139 3 (by omega) (by omega), b3, if_pos (by rw [sI_le (by omega) (by omega)]; omega)]
      exact wq_some ⟨rfl, x1, x2, x3, x4⟩
  have mo : wq (fX19_serveTroubles_h27 fu fu (sI n, 0, M1, Lm)) (fun z => z.2 = Lm ∧ z.1 732 102 = sI (2 + 2 * n) ∧ (∀ j, j < n → z.1 933 (2 + 2 * j) = sI (lk j + 1) ∧ z.1 933 (3 + 2 * j) = sI (st (lk j))) ∧ (∀ j, j < 2 → z.1 933 j = M1 933 j) ∧ ∀ a y, a ≠ 933 → ¬ (a = 732 ∧ y = 102) → ¬ (a = 902 ∧ y = 0) → z.1 a y = M1 a y) := by
    refine wq_for (body := fun r z => fX19_serveTroubles_i27 fu r z.1 z.2.1 z.2.2.1 z.2.2.2) (fun i (x : mwM) => (sI n, sI i, x, Lm)) (fun i x => (∀ j, j < i → x 933 (2 + 2 * j) = sI (lk j + 1) ∧ x 933 (3 + 2 * j) = sI (st (lk j))) ∧ (∀ j, j < 2 → x 933 j = M1 933 j) ∧ ∀ a y, a ≠ 933 → ¬ (a = 902 ∧ y = 0) → x a y = M1 a y) n ?_ ?_ n 0 M1 fu (by omega) (by omega) ⟨fun j u => by omega, fun _ _ => rfl, fun _ _ _ _ => rfl⟩
    · intro i x r hi ⟨x2, x3, x4⟩ ih
      show wq (fX19_serveTroubles_i27 fu r (sI n) (sI i) x Lm) _
      have hlt := lN i hi
      have hx : ∀ a y, 902 ≤ a → a ≤ 920 → ¬ (a = 902 ∧ y = 0) → x a y = M a y := fun a y u1 u2 u3 => by
        rw [x4 a y (by omega) u3, f2 a y (by omega) u3]
      unfold fX19_serveTroubles_i27
      rw [if_neg (by rw [sI_le (by omega) (by omega)]; omega), sto x hx i hi, mb3_s, sI_lml, sI_lad, mck_s (by omega) (by omega), sI_nn (by omega)]
      simp only [mlet]
      rw [sto _ (fun a y u1 u2 u3 => by rw [mset_n (by omega), mset_n (by omega)]; exact hx a y u1 u2 u3) i hi, mb3_s, sta _ (fun a y u1 u2 u3 => by rw [mset_n (by omega), mset_n (by omega), mset_n (by omega)]; exact hx a y u1 u2 u3) (lk i) hlt, mb3_s, sI_lad, mck_s (by omega) (by omega), sI_nn (by omega), sI_1]
      refine ih _ ⟨fun j u => ?_, fun j u => ?_, fun a y u1 u2 => ?_⟩
      · by_cases hq : j = i
        · subst hq
          simp (disch := omega) only [mset_n]
          rw [mset_s, mset_s]
          exact ⟨rfl, rfl⟩
        · simp (disch := omega) only [mset_n]
          exact x2 j (by omega)
      · simp (disch := omega) only [mset_n]
        exact x3 j u
      · simp (disch := omega) only [mset_n]
        exact x4 a y u1 u2
    · intro x r ⟨x2, x3, x4⟩
      show wq (fX19_serveTroubles_i27 fu r (sI n) (sI n) x Lm) _
      unfold fX19_serveTroubles_i27
      rw [if_pos (by rw [sI_le (by omega) (by omega)]; omega), sI_lml, sI_lad]
      simp only [mlet]
      refine wq_some ⟨rfl, by dsimp only; rw [mset_s]; try rfl, fun j u => ?_, fun i u => ?_, fun a y u1 u2 u3 => ?_⟩
      · simp (disch := omega) only [mset_n]
        exact x2 j u
      · simp (disch := omega) only [mset_n]
        exact x3 i u
      · dsimp only
        rw [mset_n u2]; exact x4 a y u1 u3
  obtain ⟨A2, L2, ea, p1, p2, p3, p4, p5⟩ := wq_ex cl
  obtain ⟨M2, L3, eb, d1, d2, d3, d4, d5⟩ := wq_ex mo
  dsimp only at p1 p2 p3 p4 p5 d1 d2 d3 d4 d5
  subst p1
  subst d1
  rw [ea, eb]
  refine sv_end (A := A) (M := M) (sz := 2 + 2 * n) (v := fun i => if i = 0 then 89 else if i = 1 then n else if i % 2 = 0 then lk ((i - 2) / 2) + 1 else st (lk ((i - 3) / 2))) SvB_0 hQ hT0 hC (fun a y u1 u2 => by rw [p5 a y u1 u2]; exact f1 a y u1 u2) (fun a y u1 u2 u3 u4 => by rw [d5 a y u1 u2 u3]; exact f2 a y u1 u3) (by omega) p2 d2 (fun i u => ?_)
  by_cases i0 : i = 0
  · subst i0
    rw [p4 0 (by omega), d4 0 (by omega), g1.2.1, g2.1]
    exact ⟨show 89 < 256 by decide, rfl, rfl⟩
  · by_cases i1 : i = 1
    · subst i1
      rw [p4 1 (by omega), d4 1 (by omega), g1.2.2, g2.2]
      exact ⟨show n < 256 by omega, rfl, rfl⟩
    · rw [if_neg i0, if_neg i1]
      by_cases i2 : i % 2 = 0
      · rw [if_pos i2]
        have q1 := p3 ((i - 2) / 2) (by omega)
        have q2 := d3 ((i - 2) / 2) (by omega)
        have q3 := lN ((i - 2) / 2) (by omega)
        rw [show 2 + 2 * ((i - 2) / 2) = i by omega] at q1 q2
        exact ⟨by omega, q1.1, q2.1⟩
      · rw [if_neg i2]
        have q1 := p3 ((i - 3) / 2) (by omega)
        have q2 := d3 ((i - 3) / 2) (by omega)
        have q3 := lN ((i - 3) / 2) (by omega)
        rw [show 3 + 2 * ((i - 3) / 2) = i by omega] at q1 q2
        exact ⟨(hst _ q3).1, q1.2, q2.2⟩
def k24 (i : Nat) : Int32 := 24 - 8 * sI i
theorem k24_1 : ∀ i, i < 4 → k24 i = sI (24 - 8 * i) ∧ k24 i + (-8) = k24 (i + 1) ∧ ¬ k24 i < 0 := by decide +kernel
theorem k24_4 : k24 4 < 0 := by decide +kernel
theorem k3_1 : ∀ i, i < 4 → (8 : Int32) * (3 - sI i) = sI (24 - 8 * i) := by decide +kernel
theorem by32_s (x : Int32) (i : Nat) (h : i < 4) : x.toUInt32.toNat / 2 ^ (24 - 8 * i) % 256 = by32 x i := by
  unfold by32
  rw [show 8 * (3 - i) = 24 - 8 * i by omega]
theorem st_seed {fu X N E c : Nat} {S : Nat → Nat} {A M : mwM} {Lc Lm : mwL} (hf : 31 ≤ fu) (hc : c < 6) (hQ : QuR A M) (hT : RTr A M N E) (hC : RCd A M S) (h7 : A 275 7 = sI 0) (m0 : M 932 0 = sI 39) : SvQ X N E S A Lc M Lm (DX7_openSeed fu (sI c) A Lc) (DX19_serveSeed fu (sI c) M Lm) := by
  obtain ⟨ses, w, rig, sdd, k1, k2, k3, k4, k5, k6, k7, k8, k9, k10, k11, k12⟩ := hQ.2 c hc
  unfold DX7_openSeed DX19_serveSeed fX19_serveSeed_b20 fX19_serveSeed_b38
  simp only [mb2_id]
  rw [show (0 : Int32).toNatClampNeg = 0 by decide, show (1 : Int32).toNatClampNeg = 1 by decide]
  simp (disch := omega) only [mck_s, sI_nn, k4, k5, k11, k12]
  by_cases a1 : ses = 1
  · have b1 : sI ses = 1 := by rw [a1]; rfl
    simp only [if_pos b1]
    exact st_no (x := 39) (w := 34) SvB_0 hQ hT hC h7 (by omega) (by omega) m0
  · have b1 : ¬ sI ses = 1 := by rw [sI_eql (by omega) (by decide)]; exact a1
    simp only [if_neg b1]
    by_cases a2 : w = 3
    · have b2 : ¬ sI w < 3 := by rw [sI_ltl (by omega) (by decide)]; omega
      have b3 : sI w = 3 := by rw [a2]; rfl
      rw [if_neg b2, if_pos b3]
      exact st_no (x := 39) (w := 54) SvB_0 hQ hT hC h7 (by omega) (by omega) m0
    · have b2 : sI w < 3 := by rw [sI_ltl (by omega) (by decide)]; omega
      have b3 : ¬ sI w = 3 := by rw [sI_eql (by omega) (by decide)]; exact a2
      rw [if_pos b2, if_neg b3, hQ.1]
      generalize hs : M 732 108 + 1 = s
      simp only [mlet]
      simp (disch := omega) only [mset_n, mset_s]
      rw [seed_eq s]
      generalize hsd : (-1640531535) * s = sd
      generalize hA1 : mset (mset (mset A 275 8 s) 279 c sd) 278 c (vp_nar .boolean 1) = A1
      have f1 : ∀ a y, ¬ (a = 275 ∧ y = 8) → ¬ (a = 279 ∧ y = c) → ¬ (a = 278 ∧ y = c) → A1 a y = A a y := fun a y u1 u2 u3 => by rw [← hA1, mset_n u3, mset_n u2, mset_n u1]
      have q1 : A1 275 8 = s ∧ A1 279 c = sd ∧ A1 278 c = bI true := by
        rw [← hA1]
        simp (disch := omega) only [mset_n, mset_s]
        exact ⟨(by first | trivial | rfl), (by first | trivial | rfl), (by first | trivial | rfl)⟩
      rw [c_put7 (n := 0) (by rw [f1 275 7 (by omega) (by omega) (by omega)]; exact h7) (by omega), mb2_s, c_put7 (n := 1) mset_s (by omega), mb2_s]
      generalize hA2 : mset (mset (mset (mset A1 282 0 103) 275 7 (sI (0 + 1))) 282 1 1) 275 7 (sI (1 + 1)) = A2
      have f3 : ∀ a y, a ≠ 282 → ¬ (a = 275 ∧ y = 7) → A2 a y = A1 a y := fun a y u1 u2 => by
        rw [← hA2]
        simp (disch := omega) only [mset_n]
      have g1 : A2 275 7 = sI 2 ∧ A2 282 0 = sI 103 ∧ A2 282 1 = sI 1 := by
        rw [← hA2]
        simp (disch := omega) only [mset_n, mset_s]
        exact ⟨(by first | trivial | rfl), (by first | trivial | rfl), (by first | trivial | rfl)⟩
      generalize hM1 : mset (mset (mset M 732 108 s) 936 c (vp_nar .boolean 1)) 937 c sd = M1
      have f2 : ∀ a y, ¬ (a = 732 ∧ y = 108) → ¬ (a = 936 ∧ y = c) → ¬ (a = 937 ∧ y = c) → M1 a y = M a y := fun a y u1 u2 u3 => by rw [← hM1, mset_n u3, mset_n u2, mset_n u1]
      have q2 : M1 732 108 = s ∧ M1 937 c = sd ∧ M1 936 c = bI true := by
        rw [← hM1]
        simp (disch := omega) only [mset_n, mset_s]
        exact ⟨(by first | trivial | rfl), (by first | trivial | rfl), (by first | trivial | rfl)⟩
      generalize hM2 : mset (mset M1 933 0 103) 933 1 1 = M2
      have f4 : ∀ a y, a ≠ 933 → M2 a y = M1 a y := fun a y u1 => by
        rw [← hM2]
        simp (disch := omega) only [mset_n]
      have g2 : M2 933 0 = sI 103 ∧ M2 933 1 = sI 1 := by
        rw [← hM2]
        simp (disch := omega) only [mset_n, mset_s]
        exact ⟨rfl, rfl⟩
      have cl : wq (fX7_openSeed_h82 fu (sI c) fu (24, A2, Lc)) (fun z => z.2 = Lc ∧ z.1 275 7 = sI 6 ∧ (∀ j, j < 4 → z.1 282 (2 + j) = sI (by32 sd j)) ∧ (∀ j, j < 2 → z.1 282 j = A2 282 j) ∧ ∀ a y, a ≠ 282 → ¬ (a = 275 ∧ y = 7) → z.1 a y = A2 a y) := by
        refine wq_for (body := fun r z => fX7_openSeed_i82 fu (sI c) r z.1 z.2.1 z.2.2) (fun i (x : mwM) => (k24 i, x, Lc)) (fun i x => x 275 7 = sI (2 + i) ∧ (∀ j, j < i → x 282 (2 + j) = sI (by32 sd j)) ∧ (∀ j, j < 2 → x 282 j = A2 282 j) ∧ ∀ a y, a ≠ 282 → ¬ (a = 275 ∧ y = 7) → x a y = A2 a y) 4 ?_ ?_ 4 0 A2 fu (by omega) (by omega) ⟨g1.1, fun j u => by omega, fun _ _ => rfl, fun _ _ _ _ => rfl⟩
        · intro i x r hi ⟨x1, x2, x3, x4⟩ ih
          show wq (fX7_openSeed_i82 fu (sI c) r (k24 i) x Lc) _
          obtain ⟨n1, n2, n3⟩ := k24_1 i hi
          unfold fX7_openSeed_i82
          rw [if_neg n3, mck_s (by omega) (by omega), sI_nn (by omega), x4 279 c (by omega) (by omega), f3 279 c (by omega) (by omega), q1.2.1, n2, n1, ush32 sd _ (by omega), by32_s sd i hi, c_put7 x1 (by omega), mb2_s]
          simp only [mlet]
          refine ih _ ⟨by rw [mset_s]; rfl, fun j u => ?_, fun j u => ?_, fun a y u1 u2 => ?_⟩
          · rw [mset_n (by omega)]
            by_cases hq : j = i
            · rw [hq, mset_s]
            · rw [mset_n (by omega)]; exact x2 j (by omega)
          · simp (disch := omega) only [mset_n]
            exact x3 j u
          · simp (disch := omega) only [mset_n]
            exact x4 a y u1 u2
        · intro x r ⟨x1, x2, x3, x4⟩
          show wq (fX7_openSeed_i82 fu (sI c) r (k24 4) x Lc) _
          unfold fX7_openSeed_i82
          rw [if_pos k24_4]
          exact wq_some ⟨rfl, x1, x2, x3, x4⟩
      have mo : wq (fX19_serveSeed_h96 fu (sI c) fu (0, M2, Lm)) (fun z => z.2 = Lm ∧ z.1 732 102 = sI 6 ∧ (∀ j, j < 4 → z.1 933 (2 + j) = sI (by32 sd j)) ∧ (∀ j, j < 2 → z.1 933 j = M2 933 j) ∧ ∀ a y, a ≠ 933 → ¬ (a = 732 ∧ y = 102) → z.1 a y = M2 a y) := by
        refine wq_for (body := fun r z => fX19_serveSeed_i96 fu (sI c) r z.1 z.2.1 z.2.2) (fun i (x : mwM) => (sI i, x, Lm)) (fun i x => (∀ j, j < i → x 933 (2 + j) = sI (by32 sd j)) ∧ (∀ j, j < 2 → x 933 j = M2 933 j) ∧ ∀ a y, a ≠ 933 → x a y = M2 a y) 4 ?_ ?_ 4 0 M2 fu (by omega) (by omega) ⟨fun j u => by omega, fun _ _ => rfl, fun _ _ _ => rfl⟩
        · intro i x r hi ⟨x2, x3, x4⟩ ih
          show wq (fX19_serveSeed_i96 fu (sI c) r (sI i) x Lm) _
          unfold fX19_serveSeed_i96
          rw [if_neg (by rw [sI_lle (by decide) (by omega)]; omega), mck_s (by omega) (by omega), sI_lad, mck_s (by omega) (by omega), sI_nn (by omega), sI_nn (by omega), x4 937 c (by omega), f4 937 c (by omega), q2.2.1, k3_1 i hi, ssh32 sd _ (by omega), by32_s sd i hi]
          simp only [mlet]
          rw [sI_1]
          refine ih _ ⟨fun j u => ?_, fun j u => ?_, fun a y u1 => ?_⟩
          · by_cases hq : j = i
            · rw [hq, mset_s]
            · rw [mset_n (by omega)]; exact x2 j (by omega)
          · rw [mset_n (by omega)]; exact x3 j u
          · rw [mset_n (by omega)]; exact x4 a y u1
        · intro x r ⟨x2, x3, x4⟩
          show wq (fX19_serveSeed_i96 fu (sI c) r (sI 4) x Lm) _
          unfold fX19_serveSeed_i96
          rw [if_pos (by decide)]
          simp only [mlet]
          refine wq_some ⟨rfl, by dsimp only; rw [mset_s]; try rfl, fun i u => ?_, fun i u => ?_, fun a y u1 u2 => ?_⟩
          · dsimp only
            rw [mset_n (by omega)]; exact x2 i u
          · dsimp only
            rw [mset_n (by omega)]; exact x3 i u
          · dsimp only
            rw [mset_n u2]; exact x4 a y u1
      obtain ⟨A3, L2, ea, p1, p2, p3, p4, p5⟩ := wq_ex cl
      obtain ⟨M3, L3, eb, d1, d2, d3, d4, d5⟩ := wq_ex mo
      dsimp only at p1 p2 p3 p4 p5 d1 d2 d3 d4 d5
      subst p1
      subst d1
      rw [ea, eb]
      refine sv_end (A := A1) (M := M1) (sz := 6) (v := fun i => if i = 0 then 103 else if i = 1 then 1 else by32 sd (i - 2)) ⟨fun a y u => f1 a y (by omega) (by omega) (by omega), fun a y u _ => f2 a y (by omega) (by omega) (by omega), Or.inl ⟨rfl, rfl⟩⟩ ?_ ?_ ?_ (fun a y u1 u2 => by rw [p5 a y u1 u2]; exact f3 a y u1 u2) (fun a y u1 u2 u3 u4 => by rw [d5 a y u1 u2]; exact f4 a y u1) (by omega) p2 d2 (fun i u => ?_)
      · refine QuR_1 (c := c) hQ (by rw [q1.1, q2.1]) (fun a y u1 u2 u3 => f1 a y (by omega) (by omega) (by omega)) (fun a y u1 u2 u3 => f2 a y (by omega) (by omega) (by omega)) ?_
        refine ⟨ses, w, rig, true, k1, k2, k3, ?_, ?_, ?_, ?_, q1.2.2, q2.2.2, (fun _ => by rw [q1.2.1, q2.2.1]), ?_, ?_⟩
        · rw [f1 276 c (by omega) (by omega) (by omega)]; exact k4
        · rw [f2 934 c (by omega) (by omega) (by omega)]; exact k5
        · rw [f1 277 c (by omega) (by omega) (by omega)]; exact k6
        · rw [f2 935 c (by omega) (by omega) (by omega)]; exact k7
        · rw [f1 280 c (by omega) (by omega) (by omega)]; exact k11
        · rw [f2 938 c (by omega) (by omega) (by omega)]; exact k12
      · exact RTr_fr hT (fun a y u1 u2 => f1 a y (by omega) (by omega) (by omega)) (fun a y u1 u2 u3 => f2 a y (by omega) (by omega) (by omega))
      · exact RCd_fr hC (fun a y u1 u2 => f1 a y (by omega) (by omega) (by omega)) (fun a y u => f2 a y (by omega) (by omega) (by omega))
      · by_cases i0 : i = 0
        · subst i0
          rw [p4 0 (by omega), d4 0 (by omega), g1.2.1, g2.1]
          exact ⟨show 103 < 256 by decide, rfl, rfl⟩
        · by_cases i1 : i = 1
          · subst i1
            rw [p4 1 (by omega), d4 1 (by omega), g1.2.2, g2.2]
            exact ⟨show 1 < 256 by decide, rfl, rfl⟩
          · rw [if_neg i0, if_neg i1]
            have z1 := p3 (i - 2) (by omega)
            have z2 := d3 (i - 2) (by omega)
            rw [show 2 + (i - 2) = i by omega] at z1 z2
            exact ⟨by32_lt _ _, z1, z2⟩
