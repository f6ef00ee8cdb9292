/-! questions: a key -/
theorem i8a (y : Int32) : (y.toInt8.toInt32) &&& 255 = y &&& 255 := by
  apply Int32.toBitVec_inj.mp
  show (y.toInt8.toInt32).toBitVec &&& (255 : Int32).toBitVec = y.toBitVec &&& (255 : Int32).toBitVec
  rw [Int8.toBitVec_toInt32, Int32.toBitVec_toInt8]
  apply BitVec.eq_of_getLsbD_eq
  intro i hi
  rw [BitVec.getLsbD_and, BitVec.getLsbD_and]
  by_cases h : i < 8
  · congr 1
    rw [BitVec.getLsbD_signExtend, BitVec.getLsbD_signExtend]
    simp [h, hi]
    try omega
  · have h2 : ∀ i, i < 32 → 8 ≤ i → ((255 : Int32).toBitVec).getLsbD i = false := by decide +kernel
    rw [h2 i hi (by omega), Bool.and_false, Bool.and_false]
theorem SvQ_c {X N E : Nat} {S : Nat → Nat} {A0 : mwM} {Lc0 : mwL} {M0 : mwM} {Lm0 : mwL} {oc om : Option (mwM × mwL)} : wq oc (fun z => SvQ X N E S A0 Lc0 M0 Lm0 (some z) om) ↔ SvQ X N E S A0 Lc0 M0 Lm0 oc om := by
  constructor
  · rintro ⟨z, e, h⟩
    rw [e]; exact h
  · intro h
    have h2 := h
    obtain ⟨A, Lc, M, Lm, sz, v, e1, e2⟩ := h
    rw [e1] at h2 ⊢
    exact wq_some h2
theorem SvQ_m {X N E : Nat} {S : Nat → Nat} {A0 : mwM} {Lc0 : mwL} {M0 : mwM} {Lm0 : mwL} {oc om : Option (mwM × mwL)} : wq om (fun z => SvQ X N E S A0 Lc0 M0 Lm0 oc (some z)) ↔ SvQ X N E S A0 Lc0 M0 Lm0 oc om := by
  constructor
  · rintro ⟨z, e, h⟩
    rw [e]; exact h
  · intro h
    have h2 := h
    obtain ⟨A, Lc, M, Lm, sz, v, e1, e2, e3⟩ := h
    rw [e2] at h2 ⊢
    exact wq_some h2
def pr4 (x w : Nat → Nat) : Nat → Bool
  | 0 => true
  | i + 1 => pr4 x w i && (x i == w i)
theorem pr4_4 (x w : Nat → Nat) : pr4 x w 4 = sam4 x w := by
  simp [pr4, sam4, Bool.and_assoc]
theorem k24_2 : ∀ i, i < 4 → (24 : Int32) - 8 * sI i = sI (24 - 8 * i) := by decide +kernel
theorem st_key {fu X N E c row : Nat} {S : Nat → Nat} {A M : mwM} {Lc Lm : mwL} {o : Nat → Nat} (hf : 200 ≤ fu) (hc : c < 6) (hQ : QuR A M) (hT : RTr A M N E) (hC : RCd A M S) (hK : KnC A S 16) (h7 : A 275 7 = sI 0) (hrow : row < 275) (hrow2 : 153 < row) (ho : ∀ i, i < 6 → A row i = sI (o i) ∧ M 932 i = sI (o i) ∧ o i < 256) (o0 : o 0 = 39) : SvQ X N E S A Lc M Lm (DX7_tryKey fu (sI c) row 100 A Lc) (DX19_serveKey fu (sI c) M Lm) := by
  have m0 := (ho 0 (by omega)).2.1
  rw [o0] at m0
  obtain ⟨ses, w, rig, sdd, k1, k2, k3, k4, k5, k6, k7, k8, k9, k10, k11, k12⟩ := hQ.2 c hc
  have hC0 := hC
  obtain ⟨c1, c2, c3, c4, c5, c6, c7⟩ := hC0
  unfold DX7_tryKey DX19_serveKey fX19_serveKey_b19 fX19_serveKey_b37
  simp only [mb2_id]
  simp (disch := omega) only [mck_s, sI_nn, k8, k9, k11, k12]
  by_cases a2 : w = 3
  · have b2 : ¬ sI w < 3 := by rw [sI_ltl (by omega) (by decide)]; omega
    have b3 : sI w = 3 := by rw [a2]; rfl
    simp only [if_neg b2, if_pos b3]
    exact st_no (x := 39) (w := 54) SvB_0 hQ hT hC h7 (by omega) (by omega) m0
  · have b2 : sI w < 3 := by rw [sI_ltl (by omega) (by decide)]; omega
    have b3 : ¬ sI w = 3 := by rw [sI_eql (by omega) (by decide)]; exact a2
    simp only [if_pos b2, if_neg b3]
    cases hs : sdd with
    | false =>
      simp only [if_pos (show bI false = 0 from rfl)]
      exact st_no (x := 39) (w := 36) SvB_0 hQ hT hC h7 (by omega) (by omega) m0
    | true =>
      simp only [if_neg (show ¬ bI true = 0 by decide), mlet]
      have hseed := k10 hs
      generalize hsd : A 279 c = sd at hseed
      generalize hx : (fun i => o (2 + i)) = x
      generalize hw : cmac S (scN S 16) 4 (fun i => by32 sd i) = cm
      generalize hA0 : mset A 278 c (vp_nar .boolean 0) = A0
      have f0 : ∀ a y, ¬ (a = 278 ∧ y = c) → A0 a y = A a y := fun a y u => by rw [← hA0, mset_n u]
      generalize hM0 : mset M 936 c (vp_nar .boolean 0) = M0
      have e0 : ∀ a y, ¬ (a = 936 ∧ y = c) → M0 a y = M a y := fun a y u => by rw [← hM0, mset_n u]
      rw [← SvQ_c]
      refine wq_for (body := fun r z => fX7_tryKey_i47 fu (sI c) row 100 r z.1 z.2.1 z.2.2) (fun i (x : mwM) => (sI i, x, Lc)) (fun i x => (∀ j, j < i → x 281 j = sI (by32 sd j)) ∧ ∀ a y, a ≠ 281 → x a y = A0 a y) 4 ?_ ?_ 4 0 A0 fu (by omega) (by omega) ⟨fun j u => by omega, fun _ _ _ => rfl⟩
      · intro i y r hi ⟨x2, x4⟩ ih
        show wq (fX7_tryKey_i47 fu (sI c) row 100 r (sI i) y Lc) _
        unfold fX7_tryKey_i47
        rw [if_neg (by rw [sI_lle (by decide) (by omega)]; omega), mck_s hc (by omega), mck_s (by omega) (by omega), sI_nn (by omega), sI_nn (by omega), x4 279 c (by omega), f0 279 c (by omega), hsd, k24_2 i hi, ush32 sd _ (by omega), by32_s sd i hi]
        simp only [mlet]
        rw [sI_1]
        refine ih _ ⟨fun j u => ?_, fun a b u1 => ?_⟩
        · by_cases hq : j = i
          · rw [hq, mset_s]
          · rw [mset_n (by omega)]; exact x2 j (by omega)
        · rw [mset_n (by omega)]; exact x4 a b u1
      · intro y r ⟨x2, x4⟩
        show wq (fX7_tryKey_i47 fu (sI c) row 100 r (sI 4) y Lc) _
        unfold fX7_tryKey_i47 fX7_tryKey_b159
        rw [if_pos (by decide)]
        refine wq_b2 (c_make (key := 16) (row := 281) (len := 4) (n := 4) (S := S) (rk := scN S 16) (v := fun i => by32 sd i) (by omega) (by omega) (fun i u => by rw [x4 98 i (by omega), f0 98 i (by omega)]; exact c1 i u) (fun i u => by rw [x4 99 i (by omega), f0 99 i (by omega)]; exact c2 i u) (fun i u => by rw [x4 _ i (by omega), f0 _ i (by omega)]; exact hK.2.1 i u) (fun i u => by rw [x4 _ i (by omega), f0 _ i (by omega)]; exact hK.2.2 i u) (by omega) (by omega) (by omega) (fun i u => ⟨x2 i u, by32_lt _ _⟩)) ?_
        rintro A1 L1 ⟨y1, y2, y3⟩
        dsimp only at y1 y2 y3
        subst y1
        rw [hw] at y2
        have f1 : ∀ a b, ¬ (a = 278 ∧ b = c) → a ≠ 281 → a ≠ 137 → a ≠ 138 → A1 a b = A a b := fun a b u1 u2 u3 u4 => by
          rw [y3 a b u3 u4, x4 a b u2, f0 a b u1]
        have iso : DX3_isOut fu row 100 2 A1 L1 = some (bI (sam4 x cm), A1, L1) := c_isOut3 (fr := 2) (by omega) (by omega) (by omega) (fun i u => by rw [f1 row _ (by omega) (by omega) (by omega) (by omega), ← hx]; exact ⟨(ho (2 + i) (by omega)).1, (ho (2 + i) (by omega)).2.2⟩) (fun i u => y2 i (by omega))
        have n1 : ∀ b : Bool, vp_nar .boolean (bI b) = bI b := by decide
        rw [iso, mb3_s, mck_s hc (by omega), sI_nn (by omega)]
        simp only [mlet]
        rw [mck_s hc (by omega), mset_s, n1]
        generalize hr : sam4 x cm = rr
        generalize hA2 : mset A1 277 c (bI rr) = A2
        have f2 : ∀ a b, ¬ (a = 277 ∧ b = c) → ¬ (a = 278 ∧ b = c) → a ≠ 281 → a ≠ 137 → a ≠ 138 → A2 a b = A a b := fun a b u0 u1 u2 u3 u4 => by
          rw [← hA2, mset_n u0, f1 a b u1 u2 u3 u4]
        have g2 : A2 277 c = bI rr ∧ A2 278 c = bI false := by
          rw [← hA2]
          refine ⟨mset_s, ?_⟩
          rw [mset_n (by omega), y3 278 c (by omega) (by omega), x4 278 c (by omega), ← hA0, mset_s]
          rfl
        rw [SvQ_c, ← SvQ_m]
        refine wq_for (body := fun r z => fX19_serveKey_i50 fu (sI c) r z.1 z.2.1 z.2.2) (fun i (x : mwM) => (sI i, x, Lm)) (fun i x => x 854 6 = sI i ∧ (∀ j, j < i → x 858 j = sI (by32 sd j)) ∧ ∀ a y, a ≠ 858 → ¬ (a = 854 ∧ (y = 0 ∨ y = 6)) → x a y = M0 a y) 4 ?_ ?_ 4 0 M0 fu (by omega) (by omega) ⟨by rw [e0 854 6 (by omega), c5]; rfl, fun j u => by omega, fun _ _ _ _ => rfl⟩
        · intro i y r hi ⟨z1, z2, z4⟩ ih
          show wq (fX19_serveKey_i50 fu (sI c) r (sI i) y Lm) _
          unfold fX19_serveKey_i50
          rw [if_neg (by rw [sI_lle (by decide) (by omega)]; omega), mck_s hc (by omega), sI_nn (by omega), z4 937 c (by omega) (by omega), e0 937 c (by omega), ← hseed, k3_1 i hi, m_octet (n := i) (x := by32 sd i) (by omega) z1 (by32_lt _ _) _ (by rw [i8a, ssh32 sd _ (by omega), by32_s sd i hi]), mb2_s]
          simp only [mlet]
          rw [sI_1]
          refine ih _ ⟨mset_s, fun j u => ?_, fun a b u1 u2 => ?_⟩
          · rw [mset_n (by omega)]
            by_cases hq : j = i
            · rw [hq, mset_s]
            · rw [mset_n (by omega), mset_n (by omega)]; exact z2 j (by omega)
          · rw [mset_n (by omega), mset_n (by omega), mset_n (by omega)]; exact z4 a b u1 u2
        · intro y r ⟨z1, z2, z4⟩
          show wq (fX19_serveKey_i50 fu (sI c) r (sI 4) y Lm) _
          unfold fX19_serveKey_i50
          rw [if_pos (by decide)]
          refine wq_b3 (m_code (k := 16) (n := 4) (S := S) (k0 := fun i => 16 + i) (v := fun i => by32 sd i) (by omega) (by omega) (by omega) (by omega) (by omega) (by rw [z4 854 1 (by omega) (by omega), e0 854 1 (by omega)]; exact c4) z1 (fun i u => by rw [z4 868 i (by omega) (by omega), e0 868 i (by omega)]; exact c3 i u) (fun i u => by rw [z4 855 _ (by omega) (by omega), e0 855 _ (by omega)]; exact ⟨c6 16 (by omega) (by omega) i u, by omega⟩) (fun i u => ⟨z2 i u, by32_lt _ _⟩)) ?_
          rintro rr1 M1 L2 ⟨t1, t2, t3, t4, t5⟩
          dsimp only at t1 t2 t3 t4 t5
          subst t1
          have hw2 : cmac S (schL S (fun i => 16 + i) 160) 4 (fun i => by32 sd i) = cm := hw
          rw [hw2] at t2
          rw [mck_s hc (by omega), sI_nn (by omega)]
          simp only [mlet]
          have e1 : ∀ a b, ¬ (a = 936 ∧ b = c) → a ≠ 858 → ¬ (a = 854 ∧ (b = 0 ∨ b = 6 ∨ b = 7)) → a ≠ 859 → ¬ (863 ≤ a ∧ a ≤ 867) → M1 a b = M a b := fun a b u1 u2 u3 u4 u5 => by
            rw [t5 a b u3 u4 u5, z4 a b u2 (by omega), e0 a b u1]
          refine wq_for (body := fun r z => fX19_serveKey_i103 fu (sI c) r z.1 z.2.1 z.2.2) (fun i (x : mwM) => (sI i, x, L2)) (fun i y => y 935 c = bI (pr4 x cm i) ∧ ∀ a b, ¬ (a = 935 ∧ b = c) → ¬ (a = 854 ∧ b = 0) → y a b = M1 a b) 4 ?_ ?_ 4 0 (mset M1 935 c (vp_nar .boolean 1)) fu (by omega) (by omega) ⟨by rw [mset_s]; rfl, fun a b u1 u2 => by rw [mset_n u1]⟩
          · intro i y r hi ⟨w1, w2⟩ ih
            show wq (fX19_serveKey_i103 fu (sI c) r (sI i) y L2) _
            unfold fX19_serveKey_i103 fX19_serveKey_b149 fX19_serveKey_b150
            rw [if_neg (by rw [sI_lle (by decide) (by omega)]; omega), mck_s hc (by omega), sI_nn (by omega), w1]
            cases hp : pr4 x cm i with
            | false =>
              rw [if_pos (show bI false = 0 from rfl), mck_s hc (by omega)]
              simp only [mlet]
              rw [sI_1]
              refine ih _ ⟨?_, fun a b u1 u2 => ?_⟩
              · rw [mset_s]
                unfold pr4
                rw [hp]
                rfl
              · rw [mset_n u1]; exact w2 a b u1 u2
            | true =>
              obtain ⟨z, q1, q2⟩ := m_out (fu := fu) (M := y) (L := L2) (i := i) (x := cm i) hi (by rw [w2 854 7 (by omega) (by omega)]; exact t4) (by rw [w2 859 i (by omega) (by omega)]; exact (t2 i hi).1) (t2 i hi).2
              have xi : M 932 (2 + i) = sI (x i) ∧ x i < 256 := by
                rw [← hx]
                exact (ho (2 + i) (by omega)).2
              rw [if_neg (show ¬ bI true = 0 by decide), q1, mb3_s, sI_lad, mck_s (by omega) (by omega), sI_nn (by omega), mset_n (show ¬ (932 = 854 ∧ 2 + i = 0) by omega), w2 932 _ (by omega) (by omega), e1 932 _ (by omega) (by omega) (by omega) (by omega) (by omega), xi.1, q2, mck_s hc (by omega)]
              simp only [mlet]
              rw [mck_s hc (by omega), sI_1]
              by_cases hq : x i = cm i
              · rw [if_pos (by rw [hq])]
                refine ih _ ⟨?_, fun a b u1 u2 => ?_⟩
                · rw [mset_s]
                  unfold pr4
                  rw [hp, hq, beq_self_eq_true]
                  rfl
                · rw [mset_n u1, mset_n u2]; exact w2 a b u1 u2
              · rw [if_neg (by rw [sI_eq (by have := (t2 i hi).2; omega) (by omega)]; omega)]
                refine ih _ ⟨?_, fun a b u1 u2 => ?_⟩
                · rw [mset_s]
                  unfold pr4
                  rw [hp, beq_false_of_ne hq]
                  rfl
                · rw [mset_n u1, mset_n u2]; exact w2 a b u1 u2
          · intro M2 r ⟨w1, w2⟩
            show wq (fX19_serveKey_i103 fu (sI c) r (sI 4) M2 L2) _
            unfold fX19_serveKey_i103 fX19_serveKey_b215
            rw [pr4_4, hr] at w1
            rw [if_pos (by decide), mck_s hc (by omega), sI_nn (by omega), w1, SvQ_m, show (0 : Int32).toNatClampNeg = 0 by decide, show (1 : Int32).toNatClampNeg = 1 by decide]
            have e2 : ∀ a b, ¬ (a = 935 ∧ b = c) → ¬ (a = 936 ∧ b = c) → a ≠ 858 → ¬ (a = 854 ∧ (b = 0 ∨ b = 6 ∨ b = 7)) → a ≠ 859 → ¬ (863 ≤ a ∧ a ≤ 867) → M2 a b = M a b := fun a b u0 u1 u2 u3 u4 u5 => by
              rw [w2 a b u0 (by omega), e1 a b u1 u2 u3 u4 u5]
            have g3 : M2 936 c = bI false := by
              rw [w2 936 c (by omega) (by omega), t5 936 c (by omega) (by omega) (by omega), z4 936 c (by omega) (by omega), ← hM0, mset_s]
              rfl
            have hC2 : RCd A2 M2 S := RCd_fr hC (fun a b u1 u2 => f2 a b (by omega) (by omega) (by omega) (by omega) (by omega)) (fun a b u => by
              by_cases hq : a = 854 ∧ b = 6
              · rw [hq.1, hq.2, w2 854 6 (by omega) (by omega), t3, c5]
              · exact e2 a b (by omega) (by omega) (by omega) (by omega) (by omega) (by omega))
            have hT2 : RTr A2 M2 N E := RTr_fr hT (fun a b u1 u2 => f2 a b (by omega) (by omega) (by omega) (by omega) (by omega)) (fun a b u1 u2 u3 => e2 a b (by omega) (by omega) (by omega) (by omega) (by omega) (by omega))
            have hB : ∀ A3 M3 : mwM, (∀ a b, ¬ (a = 280 ∧ b = c) → A3 a b = A2 a b) → (∀ a b, ¬ (a = 938 ∧ b = c) → M3 a b = M2 a b) → SvB X A L1 M L2 A3 L1 M3 L2 := fun A3 M3 i1 i2 => ⟨fun a b u => by rw [i1 a b (by omega)]; exact f2 a b (by omega) (by omega) (by omega) (by omega) (by omega), fun a b u u' => by rw [i2 a b (by omega)]; exact e2 a b (by omega) (by omega) (by omega) (by omega) (by omega) (by omega), Or.inl ⟨rfl, rfl⟩⟩
            have hQ2 : ∀ (A3 M3 : mwM) (w' : Nat), w' ≤ 3 → (∀ a b, ¬ (a = 280 ∧ b = c) → A3 a b = A2 a b) → (∀ a b, ¬ (a = 938 ∧ b = c) → M3 a b = M2 a b) → A3 280 c = sI w' → M3 938 c = sI w' → QuR A3 M3 := fun A3 M3 w' hw' i1 i2 i3 i4 => by
              refine QuR_1 (c := c) hQ ?_ (fun a y u1 u2 u3 => by rw [i1 a y (by omega)]; exact f2 a y (by omega) (by omega) (by omega) (by omega) (by omega)) (fun a y u1 u2 u3 => by rw [i2 a y (by omega)]; exact e2 a y (by omega) (by omega) (by omega) (by omega) (by omega) (by omega)) ⟨ses, w', rr, false, k1, k2, hw', ?_, ?_, ?_, ?_, ?_, ?_, (fun z => by cases z), i3, i4⟩
              · rw [i1 275 8 (by omega), f2 275 8 (by omega) (by omega) (by omega) (by omega) (by omega), i2 732 108 (by omega), e2 732 108 (by omega) (by omega) (by omega) (by omega) (by omega) (by omega)]
                exact hQ.1
              · rw [i1 276 c (by omega), f2 276 c (by omega) (by omega) (by omega) (by omega) (by omega)]; exact k4
              · rw [i2 934 c (by omega), e2 934 c (by omega) (by omega) (by omega) (by omega) (by omega) (by omega)]; exact k5
              · rw [i1 277 c (by omega)]; exact g2.1
              · rw [i2 935 c (by omega)]; exact w1
              · rw [i1 278 c (by omega)]; exact g2.2
              · rw [i2 936 c (by omega)]; exact g3
            have h72 : A2 275 7 = sI 0 := by rw [f2 275 7 (by omega) (by omega) (by omega) (by omega) (by omega)]; exact h7
            have m02 : M2 932 0 = sI 39 := by rw [e2 932 0 (by omega) (by omega) (by omega) (by omega) (by omega) (by omega)]; exact m0
            have k11' : A2 280 c = sI w := by rw [f2 280 c (by omega) (by omega) (by omega) (by omega) (by omega)]; exact k11
            have k12' : M2 938 c = sI w := by rw [e2 938 c (by omega) (by omega) (by omega) (by omega) (by omega) (by omega)]; exact k12
            cases rr with
            | true =>
              rw [if_neg (show ¬ bI true = 0 by decide), if_neg (show ¬ bI true = 0 by decide), c_put7 (n := 0) h72 (by omega), mb2_s, c_put7 (n := 1) mset_s (by omega), mb2_s]
              simp only [mlet]
              refine sv_end (A := A2) (M := M2) (sz := 2) (v := fun i => if i = 0 then 103 else 2) (hB A2 M2 (fun _ _ _ => rfl) (fun _ _ _ => rfl)) (hQ2 A2 M2 w k3 (fun _ _ _ => rfl) (fun _ _ _ => rfl) k11' k12') hT2 hC2 (fun a b u1 u2 => ?_) (fun a b u1 u2 u3 u4 => ?_) (by omega) mset_s (by rw [mset_s]; rfl) (fun i u => ?_)
              · simp (disch := omega) only [mset_n]
              · simp (disch := omega) only [mset_n]
              · rcases (show i = 0 ∨ i = 1 by omega) with rfl | rfl
                · simp (disch := omega) only [mset_n, mset_s]
                  exact ⟨show 103 < 256 by decide, rfl, rfl⟩
                · simp (disch := omega) only [mset_n, mset_s]
                  exact ⟨show 2 < 256 by decide, rfl, rfl⟩
            | false =>
              rw [if_pos (show bI false = 0 from rfl), if_pos (show bI false = 0 from rfl)]
              simp (disch := omega) only [mck_s, sI_nn, k11', k12', mset_s, sI_1, mb2_id, mlet]
              have hT3 : RTr (mset A2 280 c (sI (w + 1))) (mset M2 938 c (sI (w + 1))) N E := RTr_fr hT2 (fun a b u1 u2 => mset_n (by omega)) (fun a b u1 u2 u3 => mset_n (by omega))
              have hC3 : RCd (mset A2 280 c (sI (w + 1))) (mset M2 938 c (sI (w + 1))) S := RCd_fr hC2 (fun a b u1 u2 => mset_n (by omega)) (fun a b u => mset_n (by omega))
              have hB3 := hB (mset A2 280 c (sI (w + 1))) (mset M2 938 c (sI (w + 1))) (fun a b u => mset_n u) (fun a b u => mset_n u)
              have hQ3 := hQ2 (mset A2 280 c (sI (w + 1))) (mset M2 938 c (sI (w + 1))) (w + 1) (by omega) (fun a b u => mset_n u) (fun a b u => mset_n u) mset_s mset_s
              by_cases hq : w = 2
              · rw [if_neg (show ¬ sI (w + 1) < 3 by rw [sI_ltl (by omega) (by decide)]; omega), if_pos (show sI (w + 1) = 3 by rw [hq]; rfl)]
                exact st_no (x := 39) (w := 54) hB3 hQ3 hT3 hC3 (by rw [mset_n (by omega)]; exact h72) (by omega) (by omega) (by rw [mset_n (by omega)]; exact m02)
              · rw [if_pos (show sI (w + 1) < 3 by rw [sI_ltl (by omega) (by decide)]; omega), if_neg (show ¬ sI (w + 1) = 3 by rw [sI_eql (by omega) (by decide)]; omega)]
                exact st_no (x := 39) (w := 53) hB3 hQ3 hT3 hC3 (by rw [mset_n (by omega)]; exact h72) (by omega) (by omega) (by rw [mset_n (by omega)]; exact m02)
