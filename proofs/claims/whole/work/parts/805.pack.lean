/-! the reference: many groups, one behind another -/
theorem ffi_SG {cap i : Nat} {zr ch : Nat → Nat} (hz : ∀ j, j < i → zr j ≤ cap) (h : ∀ j, j < i → ffi zr cap ch j) : SG cap i zr ch := by
  intro j hj
  obtain ⟨h1, h2, h3⟩ := h j hj
  refine ⟨h1, ?_⟩
  by_cases q : ch j < opn ch j
  · exact h3 q
  · rw [fil_0 (by omega)]
    have := hz j hj
    omega
theorem SG_fil {cap i c : Nat} {zr ch : Nat → Nat} (hg : SG cap i zr ch) : fil ch zr i c ≤ cap := by
  have : ∀ x, x ≤ i → fil ch zr x c ≤ cap := by
    intro x
    induction x with
    | zero => intro _; exact Nat.zero_le _
    | succ x ihx =>
      intro hx
      have a := ihx (by omega)
      show fil ch zr x c + (if ch x = c then zr x else 0) ≤ cap
      by_cases w : ch x = c
      · rw [if_pos w]
        have := (hg x (by omega)).2
        rw [w] at this
        exact this
      · rw [if_neg w]; omega
  exact this i (Nat.le_refl _)
theorem m_inTurn {fu k n cap F0 m : Nat} {M0 M : mwM} {L : mwL} {pl zl fr oc gl : Nat → Nat} (hfu : 70 ≤ fu) (hB : SB M0 k n cap F0 m pl zl fr oc gl) (hz : ∀ j, j < m → zl (gl j) ≤ cap) (hR : SR M0 M k F0 m gl (fun j => zl (gl j)) (fun _ => 0) 0 0) : ∃ ch M', DX16_inTurn fu k (sI m) 0 M L = some (1, M', L) ∧ SR M0 M' k F0 m gl (fun j => zl (gl j)) ch m 0 ∧ ∀ j, j < m → ffi (fun j => zl (gl j)) cap ch j := by
  have h40 := hB.2.1
  unfold DX16_inTurn
  have key : ∀ (q i f : Nat) (ch : Nat → Nat) (M : mwM), i + q = m → q < f → SR M0 M k F0 m gl (fun j => zl (gl j)) ch i 0 → (∀ j, j < i → ffi (fun j => zl (gl j)) cap ch j) → ∃ ch' M', fX16_inTurn_h5 fu k (sI m) 0 f (sI (opn ch i), sI i, M, L) = some (1, M', L) ∧ SR M0 M' k F0 m gl (fun j => zl (gl j)) ch' m 0 ∧ ∀ j, j < m → ffi (fun j => zl (gl j)) cap ch' j := by
    intro q
    induction q with
    | zero =>
      intro i f ch M hi hf hR hw
      obtain ⟨f', rfl⟩ : ∃ x, f = x + 1 := ⟨f - 1, by omega⟩
      have : i = m := by omega
      subst this
      refine ⟨ch, M, ?_, hR, hw⟩
      show fX16_inTurn_i5 fu k (sI i) 0 (fX16_inTurn_h5 fu k (sI i) 0 f') (sI (opn ch i)) (sI i) M L = _
      unfold fX16_inTurn_i5
      rw [if_pos (by rw [sI_le (by omega) (by omega)]; omega)]
    | succ q ih =>
      intro i f ch M hi hf hR hw
      obtain ⟨f', rfl⟩ : ∃ x, f = x + 1 := ⟨f - 1, by omega⟩
      have hg := ffi_SG (zr := fun j => zl (gl j)) (fun j hj => hz j (by omega)) hw
      have ht : tgt ch i := fun j hj => (hg j hj).1
      have hopi := tgt_le ht
      obtain ⟨⟨p1, p2, p3, p4, p5⟩, b2, b3, b4, b5, b6, b7⟩ := id hB
      obtain ⟨g1, g2, g3, g4⟩ := b5 i (by omega)
      obtain ⟨z1, z2, z3, z4, z5, z6, z7, z8, z9, z10⟩ := p5 (gl i) g1 g2
      have hszi := hz i (by omega)
      show ∃ ch' M', fX16_inTurn_i5 fu k (sI m) 0 (fX16_inTurn_h5 fu k (sI m) 0 f') (sI (opn ch i)) (sI i) M L = some (1, M', L) ∧ SR M0 M' k F0 m gl (fun j => zl (gl j)) ch' m 0 ∧ ∀ j, j < m → ffi (fun j => zl (gl j)) cap ch' j
      unfold fX16_inTurn_i5
      rw [if_neg (by rw [sI_le (by omega) (by omega)]; omega), mck_s (by omega) (by omega), sI_nn (by omega), hR.1 (k + 18) i (by omega) (by omega) (by omega) (by omega) (by omega), g4]
      simp only [mlet]
      -- put into frame c
      have put : ∀ (c : Nat) (B : mwM) (v : Int32), c ≤ opn ch i → (∀ x, x < c → cap < fil ch (fun j => zl (gl j)) i x + zl (gl i)) → fil ch (fun j => zl (gl j)) i c + zl (gl i) ≤ cap → v = sI (opn (upd1 ch i c) (i + 1)) → (c = opn ch i → B (k + 19) c = sI (F0 + 1 + c)) → (∀ a y, ¬ (a = k + 19 ∧ y = opn ch i) → B a y = M a y) → ∃ ch' M', fX16_inTurn_b104 fu k (sI m) 0 (fX16_inTurn_h5 fu k (sI m) 0 f') v (sI i) (sI (gl i)) (sI (fil ch (fun j => zl (gl j)) i c)) (sI (F0 + 1 + c)) B L = some (1, M', L) ∧ SR M0 M' k F0 m gl (fun j => zl (gl j)) ch' m 0 ∧ ∀ j, j < m → ffi (fun j => zl (gl j)) cap ch' j := by
        intro c B v hc hb hfit hv h19 hx
        unfold fX16_inTurn_b104
        simp only [mlet]
        rw [mck_s (by omega) (by omega), mck_s (by omega) (by omega), sI_nn (show gl i < 2000000000 by omega)]
        rw [sI_1, hv]
        have pt := SR_put (M' := mset (mset B (k + 16) (gl i) (sI (F0 + 1 + c))) (k + 17) (gl i) (sI (fil ch (fun j => zl (gl j)) i c))) hB hR (by omega) hg hc hfit (by rw [mset_n (by omega), mset_s]) (by rw [mset_s]) (fun w => by rw [mset_n (by omega), mset_n (by omega)]; exact h19 w) (fun a y q1 q2 q3 q4 => by rw [mset_n (by omega), mset_n (by omega)]; exact hx a y q2)
        refine ih (i + 1) f' (upd1 ch i c) _ (by omega) (by omega) pt.1 (fun j hj => ?_)
        by_cases e : j = i
        · subst e
          refine ⟨by rw [upd1_s, opn_u]; exact hc, fun x hx => ?_, fun _ => ?_⟩
          · rw [upd1_s] at hx
            rw [fil_u]; exact hb x hx
          · rw [upd1_s, fil_u]; exact hfit
        · exact ffi_c (ch := ch) (fun x hx => (upd1_n (by omega)).symm) (hw j (by omega))
      -- the frames, one behind another
      have inner : ∀ (r c fq : Nat) (v7 : Int32), c + r = opn ch i → r + 1 < fq → (∀ x, x < c → cap < fil ch (fun j => zl (gl j)) i x + zl (gl i)) → ∃ ch' M', fX16_inTurn_h29 fu k (sI m) 0 (fX16_inTurn_h5 fu k (sI m) 0 f') fq (sI (opn ch i), sI i, sI (gl i), -1, v7, sI c, M, L) = some (1, M', L) ∧ SR M0 M' k F0 m gl (fun j => zl (gl j)) ch' m 0 ∧ ∀ j, j < m → ffi (fun j => zl (gl j)) cap ch' j := by
        intro r
        induction r with
        | zero =>
          intro c fq v7 hc hfq hb
          obtain ⟨fq', rfl⟩ : ∃ x, fq = x + 1 := ⟨fq - 1, by omega⟩
          show ∃ ch' M', fX16_inTurn_i29 fu k (sI m) 0 (fX16_inTurn_h5 fu k (sI m) 0 f') (fX16_inTurn_h29 fu k (sI m) 0 (fX16_inTurn_h5 fu k (sI m) 0 f') fq') (sI (opn ch i)) (sI i) (sI (gl i)) (-1) v7 (sI c) M L = some (1, M', L) ∧ SR M0 M' k F0 m gl (fun j => zl (gl j)) ch' m 0 ∧ ∀ j, j < m → ffi (fun j => zl (gl j)) cap ch' j
          unfold fX16_inTurn_i29 fX16_inTurn_b70
          rw [if_pos (by rw [sI_le (by omega) (by omega)]; omega), if_neg (by decide), SR_new hfu hB hR (by omega) hg, mb3_s, if_neg (by rw [sI_eql (by omega) (by decide)]; omega), mck_s (by omega) (by omega), sI_nn (by omega)]
          simp only [mlet]
          have ec : c = opn ch i := by omega
          have hfil : fil ch (fun j => zl (gl j)) i c = 0 := fil_0 (by omega)
          have pp := put c (mset M (k + 19) (opn ch i) (sI (F0 + 1 + opn ch i))) (sI (opn ch i) + 1) (by omega) hb (by rw [hfil]; omega) (by rw [opn_u1, if_pos (by omega), sI_1, ec]) (fun _ => by rw [ec, mset_s]) (fun a y q => by rw [mset_n q])
          rw [hfil, ec] at pp
          exact pp
        | succ r ihr =>
          intro c fq v7 hc hfq hb
          obtain ⟨fq', rfl⟩ : ∃ x, fq = x + 1 := ⟨fq - 1, by omega⟩
          show ∃ ch' M', fX16_inTurn_i29 fu k (sI m) 0 (fX16_inTurn_h5 fu k (sI m) 0 f') (fX16_inTurn_h29 fu k (sI m) 0 (fX16_inTurn_h5 fu k (sI m) 0 f') fq') (sI (opn ch i)) (sI i) (sI (gl i)) (-1) v7 (sI c) M L = some (1, M', L) ∧ SR M0 M' k F0 m gl (fun j => zl (gl j)) ch' m 0 ∧ ∀ j, j < m → ffi (fun j => zl (gl j)) cap ch' j
          unfold fX16_inTurn_i29
          have hfl := SG_fil (c := c) hg
          rw [if_neg (by rw [sI_le (by omega) (by omega)]; omega), if_neg (by decide), mck_s (show c < 65 by omega) (by omega), sI_nn (show c < 2000000000 by omega), hR.2.2.2.2.2.1 c (by omega)]
          simp only [mlet]
          rw [mck_s (show gl i < 129 by omega) (by omega), sI_nn (show gl i < 2000000000 by omega), hR.1 (k + 22) (gl i) (by omega) (by omega) (by omega) (by omega) (by omega), z4, m_room (by omega) (SR_pv hB hR (by omega) hg) (by omega) z5 z6 (by omega) (SR_cov hB hR (by omega) hg), mb3_s, sI_1]
          by_cases fits : fil ch (fun j => zl (gl j)) i c + zl (gl i) ≤ cap
          · rw [if_pos fits]
            obtain ⟨fq2, rfl⟩ : ∃ x, fq' = x + 1 := ⟨fq' - 1, by omega⟩
            show ∃ ch' M', fX16_inTurn_i29 fu k (sI m) 0 (fX16_inTurn_h5 fu k (sI m) 0 f') (fX16_inTurn_h29 fu k (sI m) 0 (fX16_inTurn_h5 fu k (sI m) 0 f') fq2) (sI (opn ch i)) (sI i) (sI (gl i)) (sI (fil ch (fun j => zl (gl j)) i c)) (sI (F0 + 1 + c)) (sI (c + 1)) M L = some (1, M', L) ∧ SR M0 M' k F0 m gl (fun j => zl (gl j)) ch' m 0 ∧ ∀ j, j < m → ffi (fun j => zl (gl j)) cap ch' j
            unfold fX16_inTurn_i29 fX16_inTurn_b70
            have h0 : (0 : Int32) ≤ sI (fil ch (fun j => zl (gl j)) i c) := by rw [sI_lle (by decide) (by omega)]; omega
            rw [if_pos h0, if_pos h0]
            have pp := put c M (sI (opn ch i)) (by omega) hb fits (by rw [opn_u1, if_neg (by omega)]) (fun w => by omega) (fun _ _ _ => rfl)
            split <;> exact pp
          · rw [if_neg fits]
            refine ihr (c + 1) fq' _ (by omega) (by omega) (fun x hx => ?_)
            by_cases e : x = c
            · subst e; omega
            · exact hb x (by omega)
      exact inner (opn ch i) 0 fu 0 (by omega) (by omega) (fun x hx => by omega)
  exact key m 0 fu (fun _ => 0) M (by omega) (by omega) hR (fun j hj => by omega)
