/-! the reference tells a pack its signals -/
def sof (P : Nat → Bool) (l : Nat) : Nat → Nat
  | 0 => 0
  | S + 1 => if P S = true ∧ lxf P S = l then S else sof P l S
theorem sof_lx {P : Nat → Bool} {s : Nat} (hp : P s = true) : ∀ S, s < S → sof P (lxf P s) S = s := by
  intro S
  induction S with
  | zero => intro w; omega
  | succ S ih =>
    intro w
    show (if P S = true ∧ lxf P S = lxf P s then S else sof P (lxf P s) S) = s
    by_cases e : s = S
    · rw [if_pos ⟨by rw [← e]; exact hp, by rw [e]⟩, e]
    · rw [if_neg (fun q => e (lxf_inj hp q.1 q.2.symm)), ih (by omega)]
theorem PsM_add {M M' : mwM} {k n cap b p : Nat} {t : Bool} {bt pl : Nat → Nat} {tu : Nat → Bool} (h : PsM M k n cap bt pl tu) (hn : n < 40) (h2 : M' k 2 = sI (n + 1)) (a1 : M' (k + 1) (n + 1) = sI b) (a2 : M' (k + 2) (n + 1) = sI p) (a3 : M' (k + 3) (n + 1) = bI t) (a4 : M' (k + 4) (n + 1) = -1) (a5 : M' (k + 5) (n + 1) = sI (n + 1)) (a7 : M' (k + 7) (n + 1) = 0) (a8 : M (k + 8) (n + 1) = 0) (a11 : M' (k + 11) (n + 1) = 0) (hf : ∀ a y, ¬ (a = k ∧ (y = 0 ∨ y = 2)) → ¬ ((k + 1 ≤ a ∧ a ≤ k + 7 ∨ a = k + 9 ∨ a = k + 11) ∧ y = n + 1) → M' a y = M a y) (b1 : 1 ≤ b) (b2 : b ≤ 64) (p1 : 1 ≤ p) (p2 : p ≤ 20000) (hb : (b + 7) / 8 ≤ cap) (e1 : bt (n + 1) = b) (e2 : pl (n + 1) = p) (e3 : tu (n + 1) = t) : PsM M' k (n + 1) cap bt pl tu := by
  obtain ⟨h1, hc, ⟨g1, g2, g3⟩, h4⟩ := h
  refine ⟨by rw [hf _ _ (by omega) (by omega)]; exact h1, hc, ⟨h2, by omega, fun l l1 l2 => ?_⟩, fun l l1 l2 => ?_⟩
  · by_cases e : l = n + 1
    · subst e
      rw [e1, e3]
      exact ⟨a5, a4, a1, b1, b2, a3⟩
    · obtain ⟨q1, q2, q3, q4, q5, q6⟩ := g3 l l1 (by omega)
      exact ⟨by rw [hf _ _ (by omega) (by omega)]; exact q1, by rw [hf _ _ (by omega) (by omega)]; exact q2, by rw [hf _ _ (by omega) (by omega)]; exact q3, q4, q5, by rw [hf _ _ (by omega) (by omega)]; exact q6⟩
  · by_cases e : l = n + 1
    · subst e
      rw [e1, e2]
      exact ⟨a2, p1, p2, hb, a7, by rw [hf _ _ (by omega) (by omega)]; exact a8, a11⟩
    · obtain ⟨q1, q2, q3, q4, q5, q6, q7⟩ := h4 l l1 (by omega)
      exact ⟨by rw [hf _ _ (by omega) (by omega)]; exact q1, q2, q3, q4, by rw [hf _ _ (by omega) (by omega)]; exact q5, by rw [hf _ _ (by omega) (by omega)]; exact q6, by rw [hf _ _ (by omega) (by omega)]; exact q7⟩
abbrev SgM (M : mwM) (S : Nat) (bt pe co : Nat → Nat) (tu : Nat → Bool) : Prop := M 732 45 = sI S ∧ S ≤ 40 ∧ ∀ s, s < S → M 761 s = sI (bt s) ∧ 1 ≤ bt s ∧ bt s ≤ 64 ∧ M 764 s = sI (pe s) ∧ 500 ≤ pe s ∧ pe s ≤ 20000 ∧ M 765 s = bI (tu s) ∧ co s < 6 ∧ ∃ ct tk, M 762 s = sI ct ∧ ct < 12 ∧ M 749 ct = sI tk ∧ tk < 12 ∧ M 742 tk = sI (co s)
theorem SgM_f {M M' : mwM} {S : Nat} {bt pe co : Nat → Nat} {tu : Nat → Bool} (h : SgM M S bt pe co tu) (hf : ∀ a y, (a = 732 ∧ y = 45) ∨ a = 742 ∨ a = 749 ∨ a = 761 ∨ a = 762 ∨ a = 764 ∨ a = 765 → M' a y = M a y) : SgM M' S bt pe co tu := by
  obtain ⟨h1, h2, h3⟩ := h
  refine ⟨by rw [hf _ _ (by omega)]; exact h1, h2, fun s hs => ?_⟩
  obtain ⟨a1, a2, a3, a4, a5, a6, a7, a8, ct, tk, a9, a10, a11, a12, a13⟩ := h3 s hs
  exact ⟨by rw [hf _ _ (by omega)]; exact a1, a2, a3, by rw [hf _ _ (by omega)]; exact a4, a5, a6, by rw [hf _ _ (by omega)]; exact a7, a8, ct, tk, by rw [hf _ _ (by omega)]; exact a9, a10, by rw [hf _ _ (by omega)]; exact a11, a12, by rw [hf _ _ (by omega)]; exact a13⟩
theorem KyM_f {M M' : mwM} {K : Nat} {ka kp kn : Nat → Nat} (h : KyM M K ka kp kn) (hf : ∀ a y, (a = 732 ∧ y = 20) ∨ a = 738 ∨ a = 739 ∨ a = 740 → M' a y = M a y) : KyM M' K ka kp kn := by
  obtain ⟨h1, h2, h3⟩ := h
  refine ⟨by rw [hf _ _ (by omega)]; exact h1, h2, fun i hi => ?_⟩
  obtain ⟨a1, a2, a3, a4, a5, a6⟩ := h3 i hi
  exact ⟨by rw [hf _ _ (by omega)]; exact a1, by rw [hf _ _ (by omega)]; exact a2, by rw [hf _ _ (by omega)]; exact a3, a4, a5, a6⟩
theorem m_senderOf {fu S s : Nat} {bt pe co : Nat → Nat} {tu : Nat → Bool} {M : mwM} {L : mwL} (h : SgM M S bt pe co tu) (hs : s < S) : DX19_senderOf fu (sI s) M L = some (sI (co s), M, L) := by
  obtain ⟨h1, h2, h3⟩ := h
  obtain ⟨a1, a2, a3, a4, a5, a6, a7, a8, ct, tk, a9, a10, a11, a12, a13⟩ := h3 s hs
  unfold DX19_senderOf
  rw [mck_s (by omega) (by omega), sI_nn (by omega), a9, mck_s (by omega) (by omega), sI_nn (by omega), a11, mck_s (by omega) (by omega), sI_nn (by omega), a13]
/-- what stands while signals are told -/
def POs (M B : mwM) (k s cap S : Nat) (P : Nat → Bool) (bt pe : Nat → Nat) (tu : Nat → Bool) : Prop :=
  (0 < cnt P s → PsM B k (cnt P s) cap (fun l => bt (sof P l S)) (fun l => pe (sof P l S)) (fun l => tu (sof P l S)) ∧ B k 15 = 0) ∧ (∀ t, t < s → P t = true → B 766 t = sI (lxf P t)) ∧ (∀ y, P y = false → B 766 y = M 766 y) ∧ (∀ a y, ¬ (k ≤ a ∧ a ≤ k + 14) → a ≠ 766 → B a y = M a y) ∧ ∀ y, B (k + 8) y = M (k + 8) y
/-- what comes of it -/
def POq (fu c p : Nat) (lk : Bool) (M : mwM) (L : mwL) (k cap S : Nat) (P : Nat → Bool) (bt pe : Nat → Nat) (tu : Nat → Bool) (X : Option (Int32 × mwM × mwL)) : Prop :=
  (∃ B', POs M B' k S cap S P bt pe tu ∧ (∀ t, t < S → P t = true → ocs bt t ≤ cap) ∧ X = if 0 < cnt P S then mb3 (DX16_pack fu k 5040 B' L) (fun r7 M4 L5 => fX19_packOne_b176 fu (sI c) (bI lk) (sI p) r7 M4 L5) else fX19_packOne_b176 fu (sI c) (bI lk) (sI p) 0 B' L) ∨ (∃ t B', t < S ∧ P t = true ∧ cap < ocs bt t ∧ (∀ u, u < t → P u = true → ocs bt u ≤ cap) ∧ X = some (0, B', L) ∧ B' 732 11 = 8 ∧ B' 732 12 = M 760 t ∧ (∀ a y, ¬ (k ≤ a ∧ a ≤ k + 14) → a ≠ 766 → ¬ (a = 732 ∧ (y = 11 ∨ y = 12)) → B' a y = M a y) ∧ ∀ y, B' (k + 8) y = M (k + 8) y)
theorem m_pO1 {fu c p k cap S K : Nat} {lk : Bool} {M : mwM} {L : mwL} {bt pe co ky ka kp kn : Nat → Nat} {tu : Nat → Bool} (hfu : 600 ≤ fu) (hc : c < 6) (hp : p < 12) (hk : k = 941 + 53 * p) (hcap : cap = if lk = true then 3 else 8) (hS : SgM M S bt pe co tu) (hK : KyM M K ka kp kn) (hky : ∀ s, s < S → ky s = kyf ka kp kn (co s) (pe s) K 0) (h8 : ∀ y, y ≤ 40 → M (k + 8) y = 0) : POq fu c p lk M L k cap S (isO co ky c lk) bt pe tu (DX19_packOne fu (sI c) (bI lk) (sI p) M L) := by
  have hS40 := hS.2.1
  have hcap8 : cap ≤ 8 := by rw [hcap]; split <;> omega
  have hky16 : ∀ s, s < S → ky s ≤ 16 := fun s hs => by rw [hky s hs]; exact kyf_le _ _ (fun j hj => (hK.2.2 j (by omega)).2.2.2.2.2)
  unfold DX19_packOne
  have key : ∀ (r s q : Nat) (B : mwM), s + r = S → r < q → POs M B k s cap S (isO co ky c lk) bt pe tu → (∀ t, t < s → isO co ky c lk t = true → ocs bt t ≤ cap) → POq fu c p lk M L k cap S (isO co ky c lk) bt pe tu (fX19_packOne_h6 fu (sI c) (bI lk) (sI p) q (bI (decide (0 < cnt (isO co ky c lk) s)), sI s, B, L)) := by
    intro r
    induction r with
    | zero =>
      intro s q B hs hq hB hle
      obtain ⟨q', rfl⟩ : ∃ y, q = y + 1 := ⟨q - 1, by omega⟩
      have es : s = S := by omega
      subst es
      refine Or.inl ⟨B, hB, hle, ?_⟩
      show fX19_packOne_i6 fu (sI c) (bI lk) (sI p) (fX19_packOne_h6 fu (sI c) (bI lk) (sI p) q') (bI (decide (0 < cnt (isO co ky c lk) s))) (sI s) B L = _
      have e45 : B 732 45 = sI s := by rw [hB.2.2.2.1 _ _ (by omega) (by omega)]; exact hS.1
      unfold fX19_packOne_i6
      rw [e45, if_pos (by rw [sI_le (by omega) (by omega)]; omega)]
      by_cases z : 0 < cnt (isO co ky c lk) s
      · rw [decide_eq_true z, bI_t, if_neg (show ¬ (1 : Int32) = 0 by decide), if_pos z, mck_s hp (by omega), sI_nn (by omega), ← hk]
      · rw [decide_eq_false z, bI_f, if_pos (show (0 : Int32) = 0 from rfl), if_neg z]
    | succ r ih =>
      intro s q B hs hq hB hle
      obtain ⟨q', rfl⟩ : ∃ y, q = y + 1 := ⟨q - 1, by omega⟩
      have un : fX19_packOne_h6 fu (sI c) (bI lk) (sI p) (q' + 1) (bI (decide (0 < cnt (isO co ky c lk) s)), sI s, B, L) = fX19_packOne_i6 fu (sI c) (bI lk) (sI p) (fX19_packOne_h6 fu (sI c) (bI lk) (sI p) q') (bI (decide (0 < cnt (isO co ky c lk) s))) (sI s) B L := rfl
      rw [un]
      obtain ⟨p1, p2, p3, p4, p5⟩ := id hB
      have hSB : SgM B S bt pe co tu := SgM_f hS (fun a y w => p4 a y (by omega) (by omega))
      have hKB : KyM B K ka kp kn := KyM_f hK (fun a y w => p4 a y (by omega) (by omega))
      obtain ⟨a1, a2, a3, a4, a5, a6, a7, a8, ct, tk, a9, a10, a11, a12, a13⟩ := hSB.2.2 s (by omega)
      have hn40 := cnt_le (isO co ky c lk) s
      -- it doesn't belong here
      have skip : isO co ky c lk s = false → POq fu c p lk M L k cap S (isO co ky c lk) bt pe tu (fX19_packOne_b149 fu (sI c) (bI lk) (sI p) (fX19_packOne_h6 fu (sI c) (bI lk) (sI p) q') (bI (decide (0 < cnt (isO co ky c lk) s))) (sI s) B L) := by
        intro hf
        have ec : cnt (isO co ky c lk) (s + 1) = cnt (isO co ky c lk) s := by rw [cnt_sc, hf, if_neg (by decide), Nat.add_zero]
        have nx := ih (s + 1) q' B (by omega) (by omega) ⟨by rw [ec]; exact p1, fun t ht pt => by
          by_cases e : t = s
          · rw [e, hf] at pt; cases pt
          · exact p2 t (by omega) pt, p3, p4, p5⟩ (fun t ht pt => by
          by_cases e : t = s
          · rw [e, hf] at pt; cases pt
          · exact hle t (by omega) pt)
        unfold fX19_packOne_b149
        simp only [mlet]
        rw [sI_1]
        rw [ec] at nx
        exact nx
      -- it is told
      have tell : isO co ky c lk s = true → ∀ C : mwM, PsM C k (cnt (isO co ky c lk) s) cap (fun l => bt (sof (isO co ky c lk) l S)) (fun l => pe (sof (isO co ky c lk) l S)) (fun l => tu (sof (isO co ky c lk) l S)) → C k 15 = 0 → (∀ a y, ¬ (k ≤ a ∧ a ≤ k + 14) → C a y = B a y) → (∀ y, C (k + 8) y = B (k + 8) y) → POq fu c p lk M L k cap S (isO co ky c lk) bt pe tu (fX19_packOne_b85 fu (sI c) (bI lk) (sI p) (fX19_packOne_h6 fu (sI c) (bI lk) (sI p) q') (sI s) C L) := by
        intro ht C hC c15 cf c8
        unfold fX19_packOne_b85
        simp only [mlet]
        rw [mck_s hp (by omega), mck_s (show s < 40 by omega) (by omega), mck_s (show s < 40 by omega) (by omega), mck_s (show s < 40 by omega) (by omega), sI_nn (show p < 2000000000 by omega), sI_nn (show s < 2000000000 by omega), ← hk, cf 761 s (by omega), cf 764 s (by omega), cf 765 s (by omega), a1, a4, a7]
        obtain ⟨w1, w2⟩ := m_signal (fu := fu) (k := k) (n := cnt (isO co ky c lk) s) (b := bt s) (p := pe s) (cap := cap) (t := tu s) (M := C) (L := L) hC.1 hcap8 hC.2.2.1.1 (by omega) a2 a3 (by omega) a6
        by_cases big : cap < (bt s + 7) / 8
        · rw [w1 big, mb3_s, mck_s (show s < 40 by omega) (by omega), mck_s (show s < 40 by omega) (by omega), mset_s, if_pos (show (0 : Int32) = 0 from rfl), mck_s (show s < 40 by omega) (by omega)]
          unfold DX19_fail
          simp only [mlet]
          rw [mb3_s]
          unfold mzz
          rw [if_pos (Or.inl rfl)]
          refine Or.inr ⟨s, _, by omega, ht, big, hle, rfl, by rw [mset_n (by omega), mset_s], by rw [mset_s, mset_n (by omega), mset_n (by omega), cf 760 s (by omega)]; exact p4 _ _ (by omega) (by omega), fun a y q1 q2 q3 => ?_, fun y => ?_⟩
          · rw [mset_n (by omega), mset_n (by omega), mset_n (by omega), mset_n (by omega), cf a y q1]
            exact p4 a y q1 q2
          · rw [mset_n (by omega), mset_n (by omega), mset_n (by omega), mset_n (by omega), c8 y]
            exact p5 y
        · obtain ⟨C', v0, v2, v3, v4, v5, v6, v7, v8, v9, v10, v11, v12⟩ := w2 (by omega)
          rw [v0, mb3_s, mck_s (show s < 40 by omega) (by omega), mck_s (show s < 40 by omega) (by omega), mset_s, if_neg (by rw [show (0 : Int32) = sI 0 from rfl, sI_eq (by omega) (by omega)]; omega)]
          have ec : cnt (isO co ky c lk) (s + 1) = cnt (isO co ky c lk) s + 1 := by rw [cnt_sc, ht, if_pos rfl]
          have esf : sof (isO co ky c lk) (cnt (isO co ky c lk) s + 1) S = s := sof_lx ht S (by omega)
          have c80 : C (k + 8) (cnt (isO co ky c lk) s + 1) = 0 := by rw [c8, p5]; exact h8 _ (by omega)
          have hC' := PsM_add hC (by omega) v2 v3 v4 v5 v6 v7 v9 c80 v11 v12 a2 a3 (by omega) a6 (by omega) (by first | rw [esf] | (dsimp only; rw [esf])) (by first | rw [esf] | (dsimp only; rw [esf])) (by first | rw [esf] | (dsimp only; rw [esf]))
          have nx := ih (s + 1) q' (mset C' 766 s (sI (cnt (isO co ky c lk) s + 1))) (by omega) (by omega) ⟨fun _ => by
              rw [ec]
              refine ⟨PsM_f hC' (fun a y w => by rw [mset_n (by omega)]), by rw [mset_n (by omega), v12 _ _ (by omega) (by omega)]; exact c15⟩, fun t ht' pt => by
              by_cases e : t = s
              · rw [e, mset_s]; rfl
              · rw [mset_n (by omega), v12 _ _ (by omega) (by omega), cf _ _ (by omega)]; exact p2 t (by omega) pt, fun y hy => by
              have e : y ≠ s := fun w => by rw [w, ht] at hy; cases hy
              rw [mset_n (by omega), v12 _ _ (by omega) (by omega), cf _ _ (by omega)]; exact p3 y hy, fun a y q1 q2 => by
              rw [mset_n (by omega), v12 _ _ (by omega) (by omega), cf _ _ q1]; exact p4 a y q1 q2, fun y => by
              rw [mset_n (by omega), v12 _ _ (by omega) (by omega), c8]; exact p5 y⟩ (fun t ht' pt => by
              by_cases e : t = s
              · rw [e]; show (bt s + 7) / 8 ≤ cap; omega
              · exact hle t (by omega) pt)
          unfold fX19_packOne_b149
          simp only [mlet]
          rw [sI_1]
          rw [ec, decide_eq_true (show 0 < cnt (isO co ky c lk) s + 1 by omega), bI_t] at nx
          exact nx
      -- its turn
      have turn : isO co ky c lk s = true → POq fu c p lk M L k cap S (isO co ky c lk) bt pe tu (fX19_packOne_b54 fu (sI c) (bI lk) (sI p) (fX19_packOne_h6 fu (sI c) (bI lk) (sI p) q') (bI (decide (0 < cnt (isO co ky c lk) s))) (sI s) (bI lk) B L) := by
        intro ht
        unfold fX19_packOne_b54
        rw [if_pos rfl]
        by_cases z : 0 < cnt (isO co ky c lk) s
        · rw [decide_eq_true z, bI_t, if_neg (show ¬ (1 : Int32) = 0 by decide)]
          exact tell ht B (p1 z).1 (p1 z).2 (fun _ _ _ => rfl) (fun _ => rfl)
        · rw [decide_eq_false z, bI_f, if_pos (show (0 : Int32) = 0 from rfl), mck_s hp (by omega), sI_nn (by omega), ← hk, Nat.add_zero]
          have b82 : POq fu c p lk M L k cap S (isO co ky c lk) bt pe tu (fX19_packOne_b82 fu (sI c) (bI lk) (sI p) (fX19_packOne_h6 fu (sI c) (bI lk) (sI p) q') (sI s) k (sI cap) B L) := by
            obtain ⟨C, x1, x2, x3, x4, x5⟩ := m_anewP (fu := fu) (k := k) (x := sI cap) (M := B) (L := L) (by omega)
            unfold fX19_packOne_b82
            rw [x1, mb2_s]
            have e0 : cnt (isO co ky c lk) s = 0 := by omega
            refine tell ht C ?_ x4 (fun a y w => x5 a y (by omega) (by omega)) (fun y => x5 _ _ (by omega) (by omega))
            rw [e0]
            exact ⟨x2, hcap8, ⟨x3, by omega, fun l l1 l2 => by omega⟩, fun l l1 l2 => by omega⟩
          cases lk with
          | false =>
            rw [if_neg (by decide)] at hcap
            rw [hcap] at b82
            rw [bI_f, if_pos (show (0 : Int32) = 0 from rfl)]
            rw [hcap]
            exact b82
          | true =>
            rw [if_pos rfl] at hcap
            rw [hcap] at b82
            rw [bI_t, if_neg (show ¬ (1 : Int32) = 0 by decide)]
            rw [hcap]
            exact b82
      unfold fX19_packOne_i6
      rw [hSB.1, if_neg (by rw [sI_le (by omega) (by omega)]; omega), m_senderOf hSB (by omega), mb3_s, mck_s (show s < 40 by omega) (by omega), sI_nn (show s < 2000000000 by omega), a4, m_keyOf (by omega) hKB a8 a6, mb3_s, m_senderOf hSB (by omega), mb3_s, ← hky s (by omega)]
      have h16 := hky16 s (by omega)
      by_cases e1 : co s = c
      · rw [if_pos (by rw [e1])]
        by_cases e2 : ky s = 0
        · rw [if_pos (by rw [e2]; decide)]
          cases hlk : lk with
          | false =>
            have ht : isO co ky c lk s = true := by unfold isO; rw [decide_eq_true e1, decide_eq_false (fun w => w e2), hlk]; rfl
            have := turn ht
            rw [hlk] at this
            exact this
          | true =>
            have ht : isO co ky c lk s = false := by unfold isO; rw [decide_eq_true e1, decide_eq_false (fun w => w e2), hlk]; rfl
            have := skip ht
            rw [hlk] at this
            unfold fX19_packOne_b54
            rw [if_neg (by decide)]
            exact this
        · rw [if_neg (by rw [sI_lel (by omega) (by decide)]; omega)]
          cases hlk : lk with
          | true =>
            have ht : isO co ky c lk s = true := by unfold isO; rw [decide_eq_true e1, decide_eq_true e2, hlk]; rfl
            have := turn ht
            rw [hlk] at this
            exact this
          | false =>
            have ht : isO co ky c lk s = false := by unfold isO; rw [decide_eq_true e1, decide_eq_true e2, hlk]; rfl
            have := skip ht
            rw [hlk] at this
            unfold fX19_packOne_b54
            rw [if_neg (by decide)]
            exact this
      · rw [if_neg (by rw [sI_eq (by omega) (by omega)]; exact e1)]
        exact skip (by unfold isO; rw [decide_eq_false e1]; rfl)
  have st := key S 0 fu M (by omega) (by omega) ⟨fun w => by have e : cnt (isO co ky c lk) 0 = 0 := rfl; omega, fun t w => by omega, fun _ _ => rfl, fun _ _ _ _ => rfl, fun _ => rfl⟩ (fun t w => by omega)
  exact st
/-! the reference lists a pack's frames -/
theorem mlet_e {α β : Type} {x : α} {f : α → Option β} : mlet x f = f x := rfl
theorem m_noneP {fu k n l : Nat} {M : mwM} {L : mwL} (h2 : M k 2 = sI n) (hn : n ≤ 40) (l1 : 1 ≤ l) (l2 : l ≤ n) : DX16_none fu k (sI l) M L = some (0, M, L) := by
  unfold DX16_none fX16_none_b18
  rw [h2, if_neg (by rw [sI_ltl (by omega) (by decide)]; omega), if_pos (by rw [sI_le (by omega) (by omega)]; omega)]
  unfold mzz
  rw [if_pos (Or.inl rfl)]
theorem m_isNowhere {fu k n l f : Nat} {M : mwM} {L : mwL} (h2 : M k 2 = sI n) (h15 : M k 15 = 1) (hn : n ≤ 40) (l1 : 1 ≤ l) (l2 : l ≤ n) (hf : M (k + 12) (129 + l) = sI f) (f1 : 1 ≤ f) (f2 : f ≤ 64) : DX16_isNowhere fu k (sI l) M L = some (0, M, L) := by
  unfold DX16_isNowhere fX16_isNowhere_b31
  rw [m_noneP h2 hn l1 l2, mb3_s, if_pos (show (0 : Int32) = 0 from rfl), h15, s129, mck_s (by omega) (by omega), sI_nn (by omega), hf, if_neg (by rw [show (0 : Int32) = sI 0 from rfl, sI_eq (by omega) (by omega)]; omega)]
  unfold mzz
  rw [if_pos (Or.inl rfl)]
theorem m_place {fu k n l f b : Nat} {M : mwM} {L : mwL} (h2 : M k 2 = sI n) (h15 : M k 15 = 1) (hn : n ≤ 40) (l1 : 1 ≤ l) (l2 : l ≤ n) (hf : M (k + 12) (129 + l) = sI f) (f1 : 1 ≤ f) (f2 : f ≤ 64) (hb : M (k + 13) (129 + l) = sI b) : DX16_place fu k (sI l) 0 M L = some (sI f, mset M k 0 0, L) ∧ DX16_place fu k (sI l) 1 M L = some (sI b, mset M k 0 0, L) := by
  have r0 : ∀ a y, ¬ (a = k ∧ y = 0) → mset M k 0 0 a y = M a y := fun a y w => mset_n w
  have c2 : mset M k 0 0 k 2 = sI n := by rw [r0 _ _ (by omega)]; exact h2
  have c15 : mset M k 0 0 k 15 = 1 := by rw [r0 _ _ (by omega)]; exact h15
  have cf : mset M k 0 0 (k + 12) (129 + l) = sI f := by rw [r0 _ _ (by omega)]; exact hf
  have cb : mset M k 0 0 (k + 13) (129 + l) = sI b := by rw [r0 _ _ (by omega)]; exact hb
  constructor
  · unfold DX16_place fX16_place_b92
    rw [mlet_e, m_noneP c2 hn l1 l2, mb3_s, if_pos (show (0 : Int32) = 0 from rfl), if_neg (show ¬ (0 : Int32) < 0 by decide), if_pos (show (0 : Int32) ≤ 2 by decide), m_isNowhere c2 c15 hn l1 l2 cf f1 f2, mb3_s, if_pos (show (0 : Int32) = 0 from rfl), if_pos (show (0 : Int32) = 0 from rfl), c15, s129, mck_s (by omega) (by omega), sI_nn (by omega), cf]
  · unfold DX16_place fX16_place_b92
    rw [mlet_e, m_noneP c2 hn l1 l2, mb3_s, if_pos (show (0 : Int32) = 0 from rfl), if_neg (show ¬ (1 : Int32) < 0 by decide), if_pos (show (1 : Int32) ≤ 2 by decide), m_isNowhere c2 c15 hn l1 l2 cf f1 f2, mb3_s, if_pos (show (0 : Int32) = 0 from rfl), if_neg (show ¬ (1 : Int32) = 0 by decide), if_pos (show (1 : Int32) = 1 from rfl), c15, s129, mck_s (by omega) (by omega), sI_nn (by omega), cb]
/-- frames 1 .. f of a pack are listed; of frame f + 1 the signals below s -/
def PFs (M B : mwM) (k c p F0 S : Nat) (P : Nat → Bool) (pe ky fr oc : Nat → Nat) (f s : Nat) : Prop :=
  (∀ t, t < S → P t = true → (fr (lxf P t) ≤ f ∨ (fr (lxf P t) = f + 1 ∧ t < s)) → B 767 t = sI (F0 + fr (lxf P t) - 1) ∧ B 768 t = sI (8 * oc (lxf P t)) ∧ B 782 (F0 + fr (lxf P t) - 1) = sI (pe t) ∧ B 783 (F0 + fr (lxf P t) - 1) = sI (ky t)) ∧ (∀ t, P t = false → B 767 t = M 767 t ∧ B 768 t = M 768 t) ∧ ∀ a y, ¬ (a = k ∧ y = 0) → ¬ (a = 732 ∧ y = 67) → a ≠ 767 → a ≠ 768 → ¬ ((779 ≤ a ∧ a ≤ 783 ∨ a = 785) ∧ F0 ≤ y) → B a y = M a y
def PFx (B : mwM) (c p F0 : Nat) (f : Nat) : Prop := ∀ x, x < f → B 779 (F0 + x) = sI c ∧ B 780 (F0 + x) = sI p ∧ B 781 (F0 + x) = sI (x + 1) ∧ B 785 (F0 + x) = 0
theorem m_pO2 {fu c p k cap S K n F0 G : Nat} {lk : Bool} {M : mwM} {L : mwL} {bt pe co ky ka kp kn fr oc : Nat → Nat} {tu : Nat → Bool} (hfu : 600 ≤ fu) (hc : c < 6) (hp : p < 12) (hk : k = 941 + 53 * p) (hS : SgM M S bt pe co tu) (hK : KyM M K ka kp kn) (hky : ∀ s, s < S → ky s = kyf ka kp kn (co s) (pe s) K 0) (hn : n = cnt (isO co ky c lk) S) (hG0 : G = 0 → n = 0) (h2 : 0 < G → M k 2 = sI n) (h15 : 0 < G → M k 15 = 1) (hat : 0 < G → ∀ l, 1 ≤ l → l ≤ n → M (k + 12) (129 + l) = sI (fr l) ∧ M (k + 13) (129 + l) = sI (8 * oc l) ∧ 1 ≤ fr l ∧ fr l ≤ G ∧ oc l ≤ 8) (h766 : ∀ t, t < S → isO co ky c lk t = true → M 766 t = sI (lxf (isO co ky c lk) t)) (hsame : ∀ s t, s < S → t < S → isO co ky c lk s = true → isO co ky c lk t = true → fr (lxf (isO co ky c lk) s) = fr (lxf (isO co ky c lk) t) → pe s = pe t ∧ ky s = ky t) (hF : M 732 67 = sI F0) (h40 : F0 + G ≤ 40) : ∃ M', fX19_packOne_b176 fu (sI c) (bI lk) (sI p) (sI G) M L = some (1, M', L) ∧ M' 732 67 = sI (F0 + G) ∧ PFx M' c p F0 G ∧ PFs M M' k c p F0 S (isO co ky c lk) pe ky fr oc G 0 := by
  have hS40 := hS.2.1
  have hky16 : ∀ s, s < S → ky s ≤ 16 := fun s hs => by rw [hky s hs]; exact kyf_le _ _ (fun j hj => (hK.2.2 j (by omega)).2.2.2.2.2)
  unfold fX19_packOne_b176
  -- the signals of one frame
  have inner : ∀ (f : Nat), f < G → ∀ (rr : (Int32 × Int32 × mwM × mwL) → Option (Int32 × mwM × mwL)) (r s q : Nat) (B : mwM), s + r = S → r < q → B 732 67 = sI (F0 + f) → PFx B c p F0 (f + 1) → PFs M B k c p F0 S (isO co ky c lk) pe ky fr oc f s → ∃ B', fX19_packOne_h232 fu (sI c) (bI lk) (sI p) rr q (sI G, sI (f + 1), sI s, B, L) = rr (sI G, sI (f + 1 + 1), B', L) ∧ B' 732 67 = sI (F0 + (f + 1)) ∧ PFx B' c p F0 (f + 1) ∧ PFs M B' k c p F0 S (isO co ky c lk) pe ky fr oc (f + 1) 0 := by
    intro f hf rr r
    induction r with
    | zero =>
      intro s q B hs hq b67 bx bs
      obtain ⟨q', rfl⟩ : ∃ y, q = y + 1 := ⟨q - 1, by omega⟩
      have es : s = S := by omega
      subst es
      have un : fX19_packOne_h232 fu (sI c) (bI lk) (sI p) rr (q' + 1) (sI G, sI (f + 1), sI s, B, L) = fX19_packOne_i232 fu (sI c) (bI lk) (sI p) rr (fX19_packOne_h232 fu (sI c) (bI lk) (sI p) rr q') (sI G) (sI (f + 1)) (sI s) B L := rfl
      obtain ⟨p1, p2, p3⟩ := bs
      refine ⟨mset B 732 67 (sI (F0 + f + 1)), ?_, by rw [mset_s, Nat.add_assoc], fun x hx => ?_, fun t t1 t2 t3 => ?_, fun t t1 => ?_, fun a y w1 w2 w3 w4 w5 => ?_⟩
      · rw [un]
        unfold fX19_packOne_i232
        simp only [mlet]
        rw [p3 732 45 (by omega) (by omega) (by omega) (by omega) (by omega), hS.1, if_pos (by rw [sI_le (by omega) (by omega)]; omega), b67, sI_1, sI_1]
      · rw [mset_n (by omega), mset_n (by omega), mset_n (by omega), mset_n (by omega)]
        exact bx x hx
      · rw [mset_n (by omega), mset_n (by omega), mset_n (by omega), mset_n (by omega)]
        exact p1 t t1 t2 (by omega)
      · rw [mset_n (by omega), mset_n (by omega)]
        exact p2 t t1
      · rw [mset_n (by omega)]
        exact p3 a y w1 w2 w3 w4 w5
    | succ r ih =>
      intro s q B hs hq b67 bx bs
      obtain ⟨q', rfl⟩ : ∃ y, q = y + 1 := ⟨q - 1, by omega⟩
      have un : fX19_packOne_h232 fu (sI c) (bI lk) (sI p) rr (q' + 1) (sI G, sI (f + 1), sI s, B, L) = fX19_packOne_i232 fu (sI c) (bI lk) (sI p) rr (fX19_packOne_h232 fu (sI c) (bI lk) (sI p) rr q') (sI G) (sI (f + 1)) (sI s) B L := rfl
      rw [un]
      obtain ⟨p1, p2, p3⟩ := id bs
      have hSB : SgM B S bt pe co tu := SgM_f hS (fun a y w => p3 a y (by omega) (by omega) (by omega) (by omega) (by omega))
      have hKB : KyM B K ka kp kn := KyM_f hK (fun a y w => p3 a y (by omega) (by omega) (by omega) (by omega) (by omega))
      obtain ⟨a1, a2, a3, a4, a5, a6, a7, a8, ct, tk, a9, a10, a11, a12, a13⟩ := hSB.2.2 s (by omega)
      -- the next signal
      have step : ∀ C : mwM, C 732 67 = sI (F0 + f) → PFx C c p F0 (f + 1) → PFs M C k c p F0 S (isO co ky c lk) pe ky fr oc f (s + 1) → ∃ B', fX19_packOne_b371 fu (sI c) (bI lk) (sI p) rr (fX19_packOne_h232 fu (sI c) (bI lk) (sI p) rr q') (sI G) (sI (f + 1)) (sI s) C L = rr (sI G, sI (f + 1 + 1), B', L) ∧ B' 732 67 = sI (F0 + (f + 1)) ∧ PFx B' c p F0 (f + 1) ∧ PFs M B' k c p F0 S (isO co ky c lk) pe ky fr oc (f + 1) 0 := by
        intro C c67 cx cs
        unfold fX19_packOne_b371
        simp only [mlet]
        rw [sI_1]
        exact ih (s + 1) q' C (by omega) (by omega) c67 cx cs
      have skip : isO co ky c lk s = false → ∃ B', fX19_packOne_b371 fu (sI c) (bI lk) (sI p) rr (fX19_packOne_h232 fu (sI c) (bI lk) (sI p) rr q') (sI G) (sI (f + 1)) (sI s) B L = rr (sI G, sI (f + 1 + 1), B', L) ∧ B' 732 67 = sI (F0 + (f + 1)) ∧ PFx B' c p F0 (f + 1) ∧ PFs M B' k c p F0 S (isO co ky c lk) pe ky fr oc (f + 1) 0 := by
        intro hf0
        refine step B b67 bx ⟨fun t t1 t2 t3 => ?_, p2, p3⟩
        have e : t ≠ s := fun w => by rw [w, hf0] at t2; cases t2
        exact p1 t t1 t2 (by omega)
      have turn : isO co ky c lk s = true → ∃ B', fX19_packOne_b280 fu (sI c) (bI lk) (sI p) rr (fX19_packOne_h232 fu (sI c) (bI lk) (sI p) rr q') (sI G) (sI (f + 1)) (sI s) (sI (ky s)) (bI lk) B L = rr (sI G, sI (f + 1 + 1), B', L) ∧ B' 732 67 = sI (F0 + (f + 1)) ∧ PFx B' c p F0 (f + 1) ∧ PFs M B' k c p F0 S (isO co ky c lk) pe ky fr oc (f + 1) 0 := by
        intro ht
        have hl := cnt_in (show s < S by omega) ht
        rw [← hn] at hl
        have hl1 := lxf_1 (P := isO co ky c lk) (s := s)
        have hn40 := cnt_le (isO co ky c lk) S
        obtain ⟨d1, d2, d3, d4, d5⟩ := hat (by omega) _ hl1 hl
        have c766 : B 766 s = sI (lxf (isO co ky c lk) s) := by rw [p3 _ _ (by omega) (by omega) (by omega) (by omega) (by omega)]; exact h766 s (by omega) ht
        have rk : ∀ a y, (k + 1 ≤ a ∧ a ≤ k + 40) ∨ (a = k ∧ y ≠ 0) → B a y = M a y := fun a y w => p3 a y (by omega) (by omega) (by omega) (by omega) (by omega)
        have pl := m_place (fu := fu) (k := k) (n := n) (l := lxf (isO co ky c lk) s) (M := B) (L := L) (by rw [rk _ _ (by omega)]; exact h2 (by omega)) (by rw [rk _ _ (by omega)]; exact h15 (by omega)) (by omega) hl1 hl (by rw [rk _ _ (by omega)]; exact d1) d3 (by omega) (by rw [rk _ _ (by omega)]; exact d2)
        unfold fX19_packOne_b280
        rw [if_pos rfl, mck_s hp (by omega), mck_s (show s < 40 by omega) (by omega), sI_nn (show p < 2000000000 by omega), sI_nn (show s < 2000000000 by omega), ← hk, c766, pl.1, mb3_s]
        generalize hC : mset B k 0 0 = C
        have tC : ∀ a y, ¬ (a = k ∧ y = 0) → C a y = B a y := fun a y w => by rw [← hC, mset_n w]
        have C67 : C 732 67 = sI (F0 + f) := by rw [tC _ _ (by omega)]; exact b67
        by_cases ef : fr (lxf (isO co ky c lk) s) = f + 1
        · rw [if_pos (by rw [ef]), mck_s (show s < 40 by omega) (by omega), C67, mck_s (show F0 + f < 40 by omega) (by omega), sI_nn (show F0 + f < 2000000000 by omega), tC 764 s (by omega), a4]
          simp only [mlet]
          generalize hD : mset C 782 (F0 + f) (sI (pe s)) = D
          have D67 : D 732 67 = sI (F0 + f) := by rw [← hD, mset_n (by omega)]; exact C67
          rw [D67, mck_s (show F0 + f < 40 by omega) (by omega), sI_nn (show F0 + f < 2000000000 by omega)]
          generalize hE : mset D 783 (F0 + f) (sI (ky s)) = E
          have E67 : E 732 67 = sI (F0 + f) := by rw [← hE, mset_n (by omega)]; exact D67
          rw [E67, mck_s (show s < 40 by omega) (by omega), mck_s hp (by omega), mck_s (show s < 40 by omega) (by omega)]
          generalize hH : mset E 767 s (sI (F0 + f)) = H
          have tH : ∀ a y, ¬ (a = k ∧ y = 0) → ¬ (a = 782 ∧ y = F0 + f) → ¬ (a = 783 ∧ y = F0 + f) → ¬ (a = 767 ∧ y = s) → H a y = B a y := fun a y w1 w2 w3 w4 => by rw [← hH, mset_n (by omega), ← hE, mset_n (by omega), ← hD, mset_n (by omega), tC a y w1]
          have rH : ∀ a y, (k + 1 ≤ a ∧ a ≤ k + 40) ∨ (a = k ∧ y ≠ 0) → H a y = M a y := fun a y w => by rw [tH a y (by omega) (by omega) (by omega) (by omega)]; exact rk a y w
          have pl2 := m_place (fu := fu) (k := k) (n := n) (l := lxf (isO co ky c lk) s) (M := H) (L := L) (by rw [rH _ _ (by omega)]; exact h2 (by omega)) (by rw [rH _ _ (by omega)]; exact h15 (by omega)) (by omega) hl1 hl (by rw [rH _ _ (by omega)]; exact d1) d3 (by omega) (by rw [rH _ _ (by omega)]; exact d2)
          rw [tH 766 s (by omega) (by omega) (by omega) (by omega), c766, pl2.2, mb3_s, mck_s (show s < 40 by omega) (by omega)]
          generalize hJ : mset (mset H k 0 0) 768 s (sI (8 * oc (lxf (isO co ky c lk) s))) = J
          have tJ : ∀ a y, ¬ (a = k ∧ y = 0) → ¬ (a = 782 ∧ y = F0 + f) → ¬ (a = 783 ∧ y = F0 + f) → ¬ (a = 767 ∧ y = s) → ¬ (a = 768 ∧ y = s) → J a y = B a y := fun a y w1 w2 w3 w4 w5 => by rw [← hJ, mset_n w5, mset_n w1]; exact tH a y w1 w2 w3 w4
          have j767 : J 767 s = sI (F0 + f) := by rw [← hJ, mset_n (by omega), mset_n (by omega), ← hH, mset_s]
          have j768 : J 768 s = sI (8 * oc (lxf (isO co ky c lk) s)) := by rw [← hJ, mset_s]
          have j782 : J 782 (F0 + f) = sI (pe s) := by rw [← hJ, mset_n (by omega), mset_n (by omega), ← hH, mset_n (by omega), ← hE, mset_n (by omega), ← hD, mset_s]
          have j783 : J 783 (F0 + f) = sI (ky s) := by rw [← hJ, mset_n (by omega), mset_n (by omega), ← hH, mset_n (by omega), ← hE, mset_s]
          refine step J (by rw [tJ _ _ (by omega) (by omega) (by omega) (by omega) (by omega)]; exact b67) (fun x hx => ?_) ⟨fun t t1 t2 t3 => ?_, fun t t1 => ?_, fun a y w1 w2 w3 w4 w5 => ?_⟩
          · rw [tJ _ _ (by omega) (by omega) (by omega) (by omega) (by omega), tJ _ _ (by omega) (by omega) (by omega) (by omega) (by omega), tJ _ _ (by omega) (by omega) (by omega) (by omega) (by omega), tJ _ _ (by omega) (by omega) (by omega) (by omega) (by omega)]
            exact bx x hx
          · by_cases e : t = s
            · subst e
              rw [ef, show F0 + (f + 1) - 1 = F0 + f from by omega]
              exact ⟨j767, j768, j782, j783⟩
            · have hl' := cnt_in (show t < S by omega) t2
              rw [← hn] at hl'
              obtain ⟨d1', d2', d3', d4', d5'⟩ := hat (by omega) _ (lxf_1 (P := isO co ky c lk) (s := t)) hl'
              obtain ⟨u1, u2, u3, u4⟩ := p1 t t1 t2 (by omega)
              refine ⟨by rw [tJ _ _ (by omega) (by omega) (by omega) (by omega) (by omega)]; exact u1, by rw [tJ _ _ (by omega) (by omega) (by omega) (by omega) (by omega)]; exact u2, ?_, ?_⟩
              · by_cases e2 : fr (lxf (isO co ky c lk) t) = f + 1
                · rw [e2, show F0 + (f + 1) - 1 = F0 + f from by omega, j782, (hsame s t (by omega) t1 ht t2 (by rw [ef, e2])).1]
                · rw [tJ _ _ (by omega) (by omega) (by omega) (by omega) (by omega)]; exact u3
              · by_cases e2 : fr (lxf (isO co ky c lk) t) = f + 1
                · rw [e2, show F0 + (f + 1) - 1 = F0 + f from by omega, j783, (hsame s t (by omega) t1 ht t2 (by rw [ef, e2])).2]
                · rw [tJ _ _ (by omega) (by omega) (by omega) (by omega) (by omega)]; exact u4
          · have e : t ≠ s := fun w => by rw [w, ht] at t1; cases t1
            rw [tJ _ _ (by omega) (by omega) (by omega) (by omega) (by omega), tJ _ _ (by omega) (by omega) (by omega) (by omega) (by omega)]
            exact p2 t t1
          · rw [tJ a y w1 (by omega) (by omega) (by omega) (by omega)]
            exact p3 a y w1 w2 w3 w4 w5
        · rw [if_neg (by rw [sI_eq (by omega) (by omega)]; exact ef)]
          refine step C C67 (fun x hx => ?_) ⟨fun t t1 t2 t3 => ?_, fun t t1 => ?_, fun a y w1 w2 w3 w4 w5 => ?_⟩
          · rw [tC _ _ (by omega), tC _ _ (by omega), tC _ _ (by omega), tC _ _ (by omega)]
            exact bx x hx
          · rw [tC _ _ (by omega), tC _ _ (by omega), tC _ _ (by omega), tC _ _ (by omega)]
            refine p1 t t1 t2 ?_
            by_cases e : t = s
            · rw [e] at t3 ⊢; omega
            · omega
          · rw [tC _ _ (by omega), tC _ _ (by omega)]
            exact p2 t t1
          · rw [tC a y w1]
            exact p3 a y w1 w2 w3 w4 w5
      unfold fX19_packOne_i232
      rw [hSB.1, if_neg (by rw [sI_le (by omega) (by omega)]; omega), m_senderOf hSB (by omega), mb3_s, mck_s (show s < 40 by omega) (by omega), sI_nn (show s < 2000000000 by omega), a4, m_keyOf (by omega) hKB a8 a6, mb3_s, m_senderOf hSB (by omega), mb3_s, ← hky s (by omega)]
      have h16 := hky16 s (by omega)
      by_cases e1 : co s = c
      · rw [if_pos (by rw [e1])]
        by_cases e2 : ky s = 0
        · rw [if_pos (by rw [e2]; decide)]
          cases hlk : lk with
          | false =>
            have ht : isO co ky c lk s = true := by unfold isO; rw [decide_eq_true e1, decide_eq_false (fun w => w e2), hlk]; rfl
            have := turn ht
            rw [hlk] at this
            exact this
          | true =>
            have ht : isO co ky c lk s = false := by unfold isO; rw [decide_eq_true e1, decide_eq_false (fun w => w e2), hlk]; rfl
            have := skip ht
            rw [hlk] at this
            unfold fX19_packOne_b280
            rw [if_neg (by decide)]
            exact this
        · rw [if_neg (by rw [sI_lel (by omega) (by decide)]; omega)]
          cases hlk : lk with
          | true =>
            have ht : isO co ky c lk s = true := by unfold isO; rw [decide_eq_true e1, decide_eq_true e2, hlk]; rfl
            have := turn ht
            rw [hlk] at this
            exact this
          | false =>
            have ht : isO co ky c lk s = false := by unfold isO; rw [decide_eq_true e1, decide_eq_true e2, hlk]; rfl
            have := skip ht
            rw [hlk] at this
            unfold fX19_packOne_b280
            rw [if_neg (by decide)]
            exact this
      · rw [if_neg (by rw [sI_eq (by omega) (by omega)]; exact e1)]
        exact skip (by unfold isO; rw [decide_eq_false e1]; rfl)
  -- the frames
  have outer : ∀ (r f q : Nat) (B : mwM), f + r = G → r < q → B 732 67 = sI (F0 + f) → PFx B c p F0 f → PFs M B k c p F0 S (isO co ky c lk) pe ky fr oc f 0 → ∃ M', fX19_packOne_h181 fu (sI c) (bI lk) (sI p) q (sI G, sI (f + 1), B, L) = some (1, M', L) ∧ M' 732 67 = sI (F0 + G) ∧ PFx M' c p F0 G ∧ PFs M M' k c p F0 S (isO co ky c lk) pe ky fr oc G 0 := by
    intro r
    induction r with
    | zero =>
      intro f q B hf hq b67 bx bs
      obtain ⟨q', rfl⟩ : ∃ y, q = y + 1 := ⟨q - 1, by omega⟩
      have ef : f = G := by omega
      subst ef
      refine ⟨B, ?_, b67, bx, bs⟩
      show fX19_packOne_i181 fu (sI c) (bI lk) (sI p) (fX19_packOne_h181 fu (sI c) (bI lk) (sI p) q') (sI f) (sI (f + 1)) B L = _
      unfold fX19_packOne_i181
      rw [if_pos (by rw [sI_lt (by omega) (by omega)]; omega)]
    | succ r ih =>
      intro f q B hf hq b67 bx bs
      obtain ⟨q', rfl⟩ : ∃ y, q = y + 1 := ⟨q - 1, by omega⟩
      have un : fX19_packOne_h181 fu (sI c) (bI lk) (sI p) (q' + 1) (sI G, sI (f + 1), B, L) = fX19_packOne_i181 fu (sI c) (bI lk) (sI p) (fX19_packOne_h181 fu (sI c) (bI lk) (sI p) q') (sI G) (sI (f + 1)) B L := rfl
      rw [un]
      unfold fX19_packOne_i181
      simp only [mlet]
      rw [if_neg (by rw [sI_lt (by omega) (by omega)]; omega), b67, mck_s (show F0 + f < 40 by omega) (by omega), sI_nn (show F0 + f < 2000000000 by omega)]
      generalize hC : mset B 779 (F0 + f) (sI c) = C
      have C67 : C 732 67 = sI (F0 + f) := by rw [← hC, mset_n (by omega)]; exact b67
      rw [C67, mck_s (show F0 + f < 40 by omega) (by omega), sI_nn (show F0 + f < 2000000000 by omega)]
      generalize hD : mset C 780 (F0 + f) (sI p) = D
      have D67 : D 732 67 = sI (F0 + f) := by rw [← hD, mset_n (by omega)]; exact C67
      rw [D67, mck_s (show F0 + f < 40 by omega) (by omega), sI_nn (show F0 + f < 2000000000 by omega)]
      generalize hE : mset D 781 (F0 + f) (sI (f + 1)) = E
      have E67 : E 732 67 = sI (F0 + f) := by rw [← hE, mset_n (by omega)]; exact D67
      rw [E67, mck_s (show F0 + f < 40 by omega) (by omega), sI_nn (show F0 + f < 2000000000 by omega)]
      generalize hH : mset E 785 (F0 + f) 0 = H
      have tH : ∀ a y, ¬ ((779 ≤ a ∧ a ≤ 781 ∨ a = 785) ∧ y = F0 + f) → H a y = B a y := fun a y w => by rw [← hH, mset_n (by omega), ← hE, mset_n (by omega), ← hD, mset_n (by omega), ← hC, mset_n (by omega)]
      obtain ⟨p1, p2, p3⟩ := bs
      obtain ⟨B', i1, i2, i3, i4⟩ := inner f (by omega) (fX19_packOne_h181 fu (sI c) (bI lk) (sI p) q') S 0 fu H (by omega) (by omega) (by rw [tH _ _ (by omega)]; exact b67) (fun x hx => by
        by_cases e : x = f
        · subst e
          refine ⟨by rw [← hH, mset_n (by omega), ← hE, mset_n (by omega), ← hD, mset_n (by omega), ← hC, mset_s], by rw [← hH, mset_n (by omega), ← hE, mset_n (by omega), ← hD, mset_s], by rw [← hH, mset_n (by omega), ← hE, mset_s], by rw [← hH, mset_s]⟩
        · rw [tH _ _ (by omega), tH _ _ (by omega), tH _ _ (by omega), tH _ _ (by omega)]
          exact bx x (by omega)) ⟨fun t t1 t2 t3 => by
          rw [tH _ _ (by omega), tH _ _ (by omega), tH _ _ (by omega), tH _ _ (by omega)]
          exact p1 t t1 t2 t3, fun t t1 => by
          rw [tH _ _ (by omega), tH _ _ (by omega)]
          exact p2 t t1, fun a y w1 w2 w3 w4 w5 => by
          rw [tH a y (by omega)]
          exact p3 a y w1 w2 w3 w4 w5⟩
      have i1' : fX19_packOne_h232 fu (sI c) (bI lk) (sI p) (fX19_packOne_h181 fu (sI c) (bI lk) (sI p) q') fu (sI G, sI (f + 1), 0, H, L) = fX19_packOne_h181 fu (sI c) (bI lk) (sI p) q' (sI G, sI (f + 1 + 1), B', L) := i1
      rw [i1']
      exact ih (f + 1) q' B' (by omega) (by omega) i2 i3 i4
  refine outer G 0 fu M (by omega) (by omega) hF (fun x hx => by omega) ⟨fun t t1 t2 t3 => ?_, fun _ _ => ⟨rfl, rfl⟩, fun _ _ _ _ _ _ _ => rfl⟩
  exfalso
  have hl := cnt_in (show t < S by omega) t2
  rw [← hn] at hl
  by_cases g0 : 0 < G
  · obtain ⟨d1, d2, d3, d4, d5⟩ := hat g0 _ (lxf_1 (P := isO co ky c lk) (s := t)) hl
    omega
  · have w := hG0 (by omega)
    have := lxf_1 (P := isO co ky c lk) (s := t)
    omega
/-! one pack on both sides -/
theorem lk_packOf0 {fu S c : Nat} {lk : Bool} {A : mwM} {L : mwL} {bt pe co ky : Nat → Nat} (hfu : 50 ≤ fu) (hS : SgC A S bt pe co ky) (hc : c < 6) (h0 : ∀ s, s < S → isO co ky c lk s = false) : DX6_packOf fu (sI c) (bI lk) A L = some (A, L) := by
  obtain ⟨r, y1, y2, y3⟩ := c_nextPeriod (fu := fu) (L := L) (last := 0) (lk := lk) hfu hS hc (by omega)
  have y2' : DX6_nextPeriod fu (sI c) (bI lk) 0 A L = some (sI r, A, L) := y2
  unfold DX6_packOf
  rw [y2', mb3_s]
  obtain ⟨q, rfl⟩ : ∃ y, fu = y + 1 := ⟨fu - 1, by omega⟩
  rcases y3 with ⟨n1, n2⟩ | ⟨⟨s, n1, n2, n3⟩, n4, n5⟩
  · show fX6_packOf_i11 (q + 1) (sI c) (bI lk) (fX6_packOf_h11 (q + 1) (sI c) (bI lk) q) (sI r) 0 A L = _
    unfold fX6_packOf_i11 fX6_packOf_b59
    rw [if_neg (by decide), if_pos (by rw [n2]; decide)]
  · rw [h0 s n1] at n2; cases n2
theorem lk_pack1 {fu k n cap S c F0 : Nat} {lk : Bool} {A M : mwM} {L L2 : mwL} {bt pe co ky pl btl : Nat → Nat} {tu : Nat → Bool} (hfu : 90000 ≤ fu) (hS : SgC A S bt pe co ky) (hc : c < 6) (hB : LkB S n cap (isO co ky c lk) bt pe co ky pl (fun l => (btl l + 7) / 8) c) (h40 : F0 + n ≤ 40) (hcap : cap = if lk = true then 3 else 8) (hF : A 61 11 = sI F0) (hP : PsM M k n cap btl pl tu) (h15 : M k 15 = 0) : ∃ A' M' fr oc G, DX6_packOf fu (sI c) (bI lk) A L = some (A', L) ∧ DX16_pack fu k 5040 M L2 = some (sI G, M', L2) ∧ LkS A A' F0 G S (isO co ky c lk) fr oc ∧ (∀ l, 1 ≤ l → l ≤ n → M' (k + 12) (129 + l) = sI (fr l) ∧ M' (k + 13) (129 + l) = sI (8 * oc l) ∧ 1 ≤ fr l ∧ fr l ≤ G ∧ oc l ≤ 8) ∧ (∀ f, 1 ≤ f → f ≤ G → ∃ l, 1 ≤ l ∧ l ≤ n ∧ fr l = f) ∧ G ≤ n ∧ LkD n cap (fun l => (btl l + 7) / 8) fr oc ∧ M' k 15 = 1 ∧ (∀ f, 1 ≤ f → f ≤ G → M' (k + 14) f = sI ((f - 1) * cap)) ∧ (∀ y, y < G * cap → M' (k + 15) y = 0) ∧ ∀ a y, ¬ (k + 9 ≤ a ∧ a ≤ k + 22) → ¬ (a = k ∧ (y = 0 ∨ y = 14 ∨ y = 15)) → M' a y = M a y := by
  have hn : n ≤ 40 := hP.2.2.1.2.1
  have t0 : ∀ a y, ¬ (a = k ∧ (y = 0 ∨ y = 14)) → mset (mset M k 0 0) k 14 1 a y = M a y := fun a y w => by rw [mset_n (by omega), mset_n (by omega)]
  obtain ⟨A', M1, fr, oc, G, e1, e2, e3, e4, e5, e6, e7, e8, e9⟩ := lk_packOf (fu := fu) (k := k) (L := L) (L2 := L2) (M := mset (mset M k 0 0) k 14 1) hfu hS hc hB h40 hcap hF (PsM_f hP (fun a y w => t0 a y (by omega)))
  have k15 : M1 k 15 = 0 := by rw [e9 _ _ (by omega) (by omega), t0 _ _ (by omega)]; exact h15
  have hG1 : PsG (mset M1 k 15 1) k n btl tu := PsG_f hP.2.2.1 (fun a y w => by rw [mset_n (by omega), e9 _ _ (by omega) (by omega), t0 _ _ (by omega)])
  obtain ⟨M', g1, g2, g3, g4, g5⟩ := m_packT (fu := fu) (L := L2) (G := G) (by omega) (PvM_f (M' := mset M1 k 15 1) e4 (fun a y w => by rw [mset_n (by omega)])) hG1 (by rw [mset_s]) (by omega) (fun l l1 l2 => (e5 l l1 l2).2) e6
  refine ⟨A', M', fr, oc, G, e1, ?_, e3, fun l l1 l2 => ?_, e6, e7, e8, by rw [g5 _ _ (by omega), mset_s], g2, g3, fun a y w1 w2 => ?_⟩
  · unfold DX16_pack
    simp only [mlet]
    rw [if_pos (by decide), show (mset M k 0 0) k 15 = 0 from by rw [mset_n (by omega)]; exact h15, if_neg (by decide), e2, mb3_s, if_neg (show ¬ (1 : Int32) = 0 by decide), k15]
    exact g1
  · obtain ⟨q1, q2⟩ := g4 l l1 l2
    obtain ⟨q3, q4⟩ := e5 l l1 l2
    obtain ⟨a1, a2, a3, a4, a5, a6, a7, a8, a9, a10⟩ := e4.2.2.2.2 l l1 l2
    exact ⟨q1, q2, by omega, q4, a10⟩
  · rw [g5 a y (by omega), mset_n (by omega), e9 a y (by omega) (by omega), t0 a y (by omega)]
/-! what one pack leaves on both sides -/
def PKq (A A' M M' : mwM) (k c p F G n cap S : Nat) (P : Nat → Bool) (bt pe ky fr oc : Nat → Nat) (tu : Nat → Bool) : Prop :=
  LkS A A' F G S P fr oc ∧ G ≤ n ∧ M' 732 67 = sI (F + G) ∧ PFx M' c p F G ∧
  (∀ s, s < S → P s = true → M' 766 s = sI (lxf P s) ∧ lxf P s ≤ n ∧ 1 ≤ fr (lxf P s) ∧ fr (lxf P s) ≤ G ∧ oc (lxf P s) + ocs bt s ≤ cap ∧ M' 767 s = sI (F + fr (lxf P s) - 1) ∧ M' 768 s = sI (8 * oc (lxf P s)) ∧ M' 782 (F + fr (lxf P s) - 1) = sI (pe s) ∧ M' 783 (F + fr (lxf P s) - 1) = sI (ky s) ∧ M' k 1 = sI cap ∧ M' k 2 = sI n ∧ M' k 15 = 1 ∧ M' (k + 1) (lxf P s) = sI (bt s) ∧ M' (k + 3) (lxf P s) = bI (tu s) ∧ M' (k + 4) (lxf P s) = -1 ∧ M' (k + 5) (lxf P s) = sI (lxf P s) ∧ M' (k + 12) (129 + lxf P s) = sI (fr (lxf P s)) ∧ M' (k + 13) (129 + lxf P s) = sI (8 * oc (lxf P s)) ∧ M' (k + 14) (fr (lxf P s)) = sI ((fr (lxf P s) - 1) * cap)) ∧
  (∀ y, y < G * cap → M' (k + 15) y = 0) ∧ (∀ f, 1 ≤ f → f ≤ G → ∃ s, s < S ∧ P s = true ∧ fr (lxf P s) = f) ∧
  (∀ s t, s < S → t < S → P s = true → P t = true → s ≠ t → fr (lxf P s) = fr (lxf P t) → oc (lxf P s) + ocs bt s ≤ oc (lxf P t) ∨ oc (lxf P t) + ocs bt t ≤ oc (lxf P s)) ∧
  (∀ y, P y = false → M' 766 y = M 766 y ∧ M' 767 y = M 767 y ∧ M' 768 y = M 768 y) ∧ (∀ y, M' (k + 8) y = M (k + 8) y) ∧
  ∀ a y, ¬ (k ≤ a ∧ a ≤ k + 22) → ¬ (766 ≤ a ∧ a ≤ 768) → ¬ (a = 732 ∧ y = 67) → ¬ ((779 ≤ a ∧ a ≤ 783 ∨ a = 785) ∧ F ≤ y) → M' a y = M a y
theorem lk_one0 {fu k cap S c p F K : Nat} {lk : Bool} {A M : mwM} {L L2 : mwL} {bt pe co ky ka kp kn : Nat → Nat} {tu : Nat → Bool} (hfu : 90000 ≤ fu) (hc : c < 6) (hp : p < 12) (hk : k = 941 + 53 * p) (hcap : cap = if lk = true then 3 else 8) (hSC : SgC A S bt pe co ky) (hS : SgM M S bt pe co tu) (hK : KyM M K ka kp kn) (hky : ∀ s, s < S → ky s = kyf ka kp kn (co s) (pe s) K 0) (h8 : ∀ y, y ≤ 40 → M (k + 8) y = 0) (hfit : ∀ s, s < S → isO co ky c lk s = true → ocs bt s ≤ cap) (hFA : A 61 11 = sI F) (hFM : M 732 67 = sI F) (h40 : F + cnt (isO co ky c lk) S ≤ 40) : ∃ A' M' fr oc G, DX6_packOf fu (sI c) (bI lk) A L = some (A', L) ∧ DX19_packOne fu (sI c) (bI lk) (sI p) M L2 = some (1, M', L2) ∧ PKq A A' M M' k c p F G (cnt (isO co ky c lk) S) cap S (isO co ky c lk) bt pe ky fr oc tu := by
  have hS40 := hS.2.1
  have hcap8 : cap ≤ 8 := by rw [hcap]; split <;> omega
  have hpo := m_pO1 (fu := fu) (L := L2) (by omega) hc hp hk hcap hS hK hky h8
  rcases hpo with ⟨B, hB, hle, hX⟩ | ⟨t, B, t1, t2, t3, _⟩
  · obtain ⟨b1, b2, b3, b4, b5⟩ := hB
    have hSB : SgM B S bt pe co tu := SgM_f hS (fun a y w => b4 a y (by omega) (by omega))
    have hKB : KyM B K ka kp kn := KyM_f hK (fun a y w => b4 a y (by omega) (by omega))
    rw [hX]
    by_cases n0 : 0 < cnt (isO co ky c lk) S
    · rw [if_pos n0]
      obtain ⟨hPs, h15⟩ := b1 n0
      have esof : ∀ s, s < S → isO co ky c lk s = true → sof (isO co ky c lk) (lxf (isO co ky c lk) s) S = s := fun s q1 q2 => sof_lx q2 S q1
      have hLB : LkB S (cnt (isO co ky c lk) S) cap (isO co ky c lk) bt pe co ky (fun l => pe (sof (isO co ky c lk) l S)) (fun l => ((fun l => bt (sof (isO co ky c lk) l S)) l + 7) / 8) c := by
        refine ⟨rfl, fun s q1 q2 => ?_, fun s t q1 q2 q3 q4 q5 => ?_⟩
        · dsimp only
          rw [esof s q1 q2]
          have hco : co s = c := by
            unfold isO at q2
            rw [Bool.and_eq_true] at q2
            exact of_decide_eq_true q2.1
          exact ⟨rfl, rfl, hfit s q1 q2, hco⟩
        · unfold isO at q3 q4
          rw [Bool.and_eq_true] at q3 q4
          rw [hky s q1, hky t q2, of_decide_eq_true q3.1, of_decide_eq_true q4.1, q5]
      obtain ⟨A', M1, fr, oc, G, e1, e2, e3, e4, e5, e6, e7, e8, e9, e10, e11⟩ := lk_pack1 (fu := fu) (k := k) (L := L) (L2 := L2) hfu hSC hc hLB h40 hcap hFA hPs h15
      rw [e2, mb3_s]
      have hS1 : SgM M1 S bt pe co tu := SgM_f hSB (fun a y w => e11 a y (by omega) (by omega))
      have hK1 : KyM M1 K ka kp kn := KyM_f hKB (fun a y w => e11 a y (by omega) (by omega))
      have hl : ∀ s, s < S → isO co ky c lk s = true → 1 ≤ lxf (isO co ky c lk) s ∧ lxf (isO co ky c lk) s ≤ cnt (isO co ky c lk) S := fun s q1 q2 => ⟨lxf_1, cnt_in q1 q2⟩
      have hsame : ∀ s t, s < S → t < S → isO co ky c lk s = true → isO co ky c lk t = true → fr (lxf (isO co ky c lk) s) = fr (lxf (isO co ky c lk) t) → pe s = pe t ∧ ky s = ky t := by
        intro s t q1 q2 q3 q4 q5
        obtain ⟨w1, w2⟩ := hl s q1 q3
        obtain ⟨w3, w4⟩ := hl t q2 q4
        obtain ⟨_, _, f1, _, _⟩ := e4 _ w1 w2
        obtain ⟨_, _, f2, _, _⟩ := e4 _ w3 w4
        obtain ⟨_, _, o1, o2, o3, _⟩ := e3.2.1 s q1 q3 (by omega)
        obtain ⟨_, _, o1', o2', o3', _⟩ := e3.2.1 t q2 q4 (by omega)
        rw [← q5] at o2' o3'
        obtain ⟨a1, a2, a3, a4, a5, a6, a7, a8, a9, a10⟩ := hSC.2.2 s q1
        obtain ⟨d1, d2, d3, d4, d5, d6, d7, d8, d9, d10⟩ := hSC.2.2 t q2
        exact ⟨sI_inj (by omega) (by omega) (by rw [← a4, ← d4, ← o2, ← o2']), sI_inj (by omega) (by omega) (by rw [← a9, ← d9, ← o3, ← o3'])⟩
      obtain ⟨M2, g1, g2, g3, g4, g5, g6⟩ := m_pO2 (cap := cap) (fu := fu) (L := L2) (M := M1) (lk := lk) (G := G) (fr := fr) (oc := oc) (F0 := F) (by omega) hc hp hk hS1 hK1 hky rfl (fun w => by
          obtain ⟨l, l1, l2⟩ := lxf_ex (P := isO co ky c lk) (S := S) (l := 1) (by omega) (by omega)
          have := e4 1 (by omega) (by omega)
          omega) (fun _ => by rw [e11 _ _ (by omega) (by omega)]; exact hPs.2.2.1.1) (fun _ => e8) (fun _ => e4) (fun t q1 q2 => by rw [e11 _ _ (by omega) (by omega)]; exact b2 t q1 q2) hsame (by rw [e11 _ _ (by omega) (by omega), b4 _ _ (by omega) (by omega)]; exact hFM) (by omega)
      have rk : ∀ a y, (k + 1 ≤ a ∧ a ≤ k + 40) ∨ (a = k ∧ y ≠ 0) → M2 a y = M1 a y := fun a y w => g6 a y (by omega) (by omega) (by omega) (by omega) (by omega)
      refine ⟨A', M2, fr, oc, G, e1, g1, e3, e6, g2, g3, fun s q1 q2 => ?_, fun y hy => by rw [rk _ _ (by omega)]; exact e10 y hy, fun f f1 f2 => ?_, fun s t q1 q2 q3 q4 q5 q6 => ?_, fun y hy => ?_, fun y => ?_, fun a y w1 w2 w3 w4 => ?_⟩
      · obtain ⟨w1, w2⟩ := hl s q1 q2
        obtain ⟨c1, c2, c3, c4, c5⟩ := e4 _ w1 w2
        obtain ⟨i1, i2, i3, i4⟩ := g4 s q1 q2 (Or.inl c4)
        obtain ⟨x1, x2, x3, x4, x5, x6⟩ := hPs.2.2.1.2.2 _ w1 w2
        have od := e7.1 _ w1 w2 (by omega)
        dsimp only at x3 x6 od
        rw [esof s q1 q2] at x3 x6 od
        refine ⟨?_, w2, c3, c4, od, i1, i2, i3, i4, ?_, ?_, ?_, ?_, ?_, ?_, ?_, by rw [rk _ _ (by omega)]; exact c1, by rw [rk _ _ (by omega)]; exact c2, by rw [rk _ _ (by omega)]; exact e9 _ c3 c4⟩
        · rw [g6 _ _ (by omega) (by omega) (by omega) (by omega) (by omega), e11 _ _ (by omega) (by omega)]
          exact b2 s q1 q2
        · rw [rk _ _ (by omega), e11 _ _ (by omega) (by omega)]; exact hPs.1
        · rw [rk _ _ (by omega), e11 _ _ (by omega) (by omega)]; exact hPs.2.2.1.1
        · rw [rk _ _ (by omega)]; exact e8
        · rw [rk _ _ (by omega), e11 _ _ (by omega) (by omega)]; exact x3
        · rw [rk _ _ (by omega), e11 _ _ (by omega) (by omega)]; exact x6
        · rw [rk _ _ (by omega), e11 _ _ (by omega) (by omega)]; exact x2
        · rw [rk _ _ (by omega), e11 _ _ (by omega) (by omega)]; exact x1
      · obtain ⟨l, l1, l2, l3⟩ := e5 f f1 f2
        obtain ⟨s, s1, s2, s3⟩ := lxf_ex (P := isO co ky c lk) (S := S) l1 l2
        exact ⟨s, s1, s2, by rw [s3]; exact l3⟩
      · obtain ⟨w1, w2⟩ := hl s q1 q3
        obtain ⟨w3, w4⟩ := hl t q2 q4
        have := e7.2 _ _ w1 w2 w3 w4 (fun w => q5 (lxf_inj q3 q4 w)) q6 (by have := (e4 _ w1 w2).2.2.1; omega)
        dsimp only at this
        rw [esof s q1 q3, esof t q2 q4] at this
        exact this
      · obtain ⟨u1, u2⟩ := g5 y hy
        rw [u1, u2, g6 _ _ (by omega) (by omega) (by omega) (by omega) (by omega), e11 _ _ (by omega) (by omega), e11 _ _ (by omega) (by omega), e11 _ _ (by omega) (by omega), b4 767 y (by omega) (by omega), b4 768 y (by omega) (by omega)]
        exact ⟨b3 y hy, rfl, rfl⟩
      · rw [rk _ _ (by omega), e11 _ _ (by omega) (by omega)]
        exact b5 y
      · rw [g6 a y (by omega) w3 (by omega) (by omega) w4, e11 a y (by omega) (by omega)]
        exact b4 a y (by omega) (by omega)
    · rw [if_neg n0]
      have hno : ∀ s, s < S → isO co ky c lk s = false := fun s q1 => by
        cases hb : isO co ky c lk s with
        | false => rfl
        | true =>
          have := cnt_in q1 hb
          have := lxf_1 (P := isO co ky c lk) (s := s)
          omega
      have g := m_pO2 (cap := cap) (fu := fu) (L := L2) (M := B) (lk := lk) (G := 0) (fr := fun _ => 0) (oc := fun _ => 0) (F0 := F) (by omega) hc hp hk hSB hKB hky rfl (fun _ => by omega) (fun w => absurd w (by omega)) (fun w => absurd w (by omega)) (fun w => absurd w (by omega)) b2 (fun s t q1 q2 q3 => by rw [hno s q1] at q3; cases q3) (by rw [b4 _ _ (by omega) (by omega)]; exact hFM) (by omega)
      obtain ⟨M2, g1, g2, g3, g4, g5, g6⟩ := g
      refine ⟨A, M2, fun _ => 0, fun _ => 0, 0, lk_packOf0 (by omega) hSC hc hno, g1, ⟨hFA, fun s _ _ w => absurd rfl w, fun _ _ => ⟨rfl, rfl⟩, fun _ _ _ _ _ _ _ => rfl⟩, by omega, g2, g3, fun s q1 q2 => (by rw [hno s q1] at q2; cases q2), fun y hy => by omega, fun f f1 f2 => by omega, fun s t q1 q2 q3 => (by rw [hno s q1] at q3; cases q3), fun y hy => ?_, fun y => ?_, fun a y w1 w2 w3 w4 => ?_⟩
      · obtain ⟨u1, u2⟩ := g5 y hy
        rw [u1, u2, g6 _ _ (by omega) (by omega) (by omega) (by omega) (by omega), b4 767 y (by omega) (by omega), b4 768 y (by omega) (by omega)]
        exact ⟨b3 y hy, rfl, rfl⟩
      · rw [g6 _ _ (by omega) (by omega) (by omega) (by omega) (by omega)]
        exact b5 y
      · rw [g6 a y (by omega) w3 (by omega) (by omega) w4]
        exact b4 a y (by omega) (by omega)
  · have := hfit t t1 t2
    omega
/-! frames and signals as both sides keep them -/
def pkn (c y : Nat) : Nat := 2 * c + (if y = 0 then 0 else 1)
def cpk (y : Nat) : Nat := if y = 0 then 8 else 3
theorem cpk_8 {y : Nat} : cpk y ≤ 8 ∧ 3 ≤ cpk y := by unfold cpk; split <;> omega
theorem isO_pk {co ky : Nat → Nat} {c s : Nat} {lk : Bool} : isO co ky c lk s = decide (pkn (co s) (ky s) = 2 * c + (if lk = true then 1 else 0)) := by
  unfold isO pkn
  by_cases e1 : co s = c
  · rw [decide_eq_true e1]
    by_cases e2 : ky s = 0
    · rw [decide_eq_false (fun w => w e2), if_pos e2]
      cases lk
      · rw [if_neg (by decide), decide_eq_true (by omega)]; rfl
      · rw [if_pos rfl, decide_eq_false (by omega)]; rfl
    · rw [decide_eq_true e2, if_neg e2]
      cases lk
      · rw [if_neg (by decide), decide_eq_false (by omega)]; rfl
      · rw [if_pos rfl, decide_eq_true (by omega)]; rfl
  · have e3 : ¬ (2 * co s + (if ky s = 0 then 0 else 1) = 2 * c + (if lk = true then 1 else 0)) := by split <;> split <;> omega
    rw [decide_eq_false e1, decide_eq_false e3, Bool.false_and]
abbrev FrT (A M : mwM) (f ow ev lo i : Nat) : Prop := A 74 f = sI ow ∧ A 75 f = sI ev ∧ A 76 f = sI lo ∧ M 779 f = sI ow ∧ M 780 f = sI (pkn ow lo) ∧ M 781 f = sI i ∧ M 782 f = sI ev ∧ M 783 f = sI lo ∧ 1 ≤ i ∧ i ≤ 40 ∧ ow < 6 ∧ lo ≤ 16 ∧ 500 ≤ ev ∧ ev ≤ 20000 ∧ M (941 + 53 * pkn ow lo) 1 = sI (cpk lo) ∧ M (941 + 53 * pkn ow lo) 15 = 1 ∧ M (941 + 53 * pkn ow lo + 14) i = sI ((i - 1) * cpk lo)
abbrev FrZ (A M : mwM) (f ow ev lo i : Nat) : Prop := A 79 f = sI ev ∧ A 77 f = 0 ∧ (∀ x, x < 6 → A (86 + x) f = 0) ∧ M 785 f = 0 ∧ ∀ y, y < cpk lo → M (941 + 53 * pkn ow lo + 15) ((i - 1) * cpk lo + y) = 0
abbrev SgT (A M : mwM) (s f o l n b : Nat) (t : Bool) (c y i : Nat) : Prop := A 71 s = sI f ∧ A 72 s = sI o ∧ M 767 s = sI f ∧ M 768 s = sI (8 * o) ∧ M 766 s = sI l ∧ 1 ≤ l ∧ l ≤ n ∧ n ≤ 40 ∧ o + (b + 7) / 8 ≤ cpk y ∧ M (941 + 53 * pkn c y) 2 = sI n ∧ M (941 + 53 * pkn c y + 1) l = sI b ∧ M (941 + 53 * pkn c y + 3) l = bI t ∧ M (941 + 53 * pkn c y + 4) l = -1 ∧ M (941 + 53 * pkn c y + 5) l = sI l ∧ M (941 + 53 * pkn c y + 12) (129 + l) = sI i ∧ M (941 + 53 * pkn c y + 13) (129 + l) = sI (8 * o)
def JR (A M : mwM) (S : Nat) (bt pe co ky : Nat → Nat) (tu : Nat → Bool) (p F : Nat) (fs os ls ns ow ev lo fi : Nat → Nat) : Prop :=
  A 61 11 = sI F ∧ M 732 67 = sI F ∧ F + cnt (fun s => decide (p ≤ pkn (co s) (ky s))) S ≤ S ∧
  (∀ f, f < F → FrT A M f (ow f) (ev f) (lo f) (fi f) ∧ FrZ A M f (ow f) (ev f) (lo f) (fi f) ∧ pkn (ow f) (lo f) < p ∧ ∃ s, s < S ∧ pkn (co s) (ky s) < p ∧ fs s = f) ∧
  (∀ s, s < S → pkn (co s) (ky s) < p → fs s < F ∧ ow (fs s) = co s ∧ ev (fs s) = pe s ∧ lo (fs s) = ky s ∧ SgT A M s (fs s) (os s) (ls s) (ns s) (bt s) (tu s) (co s) (ky s) (fi (fs s))) ∧
  (∀ s t, s < S → t < S → pkn (co s) (ky s) < p → pkn (co t) (ky t) < p → s ≠ t → fs s = fs t → os s + ocs bt s ≤ os t ∨ os t + ocs bt t ≤ os s) ∧
  (∀ f g, f < F → g < F → pkn (ow f) (lo f) = pkn (ow g) (lo g) → fi f = fi g → f = g) ∧
  ∀ q, q < 12 → ∀ y, y ≤ 40 → M (941 + 53 * q + 8) y = 0
theorem lk_JR {A A' M M' : mwM} {c p F G S : Nat} {lk : Bool} {bt pe co ky fr oc fs os ls ns ow ev lo fi : Nat → Nat} {tu : Nat → Bool} (hc : c < 6) (hp : p = 2 * c + (if lk = true then 1 else 0)) (hSC : SgC A S bt pe co ky) (hJ : JR A M S bt pe co ky tu p F fs os ls ns ow ev lo fi) (hQ : PKq A A' M M' (941 + 53 * p) c p F G (cnt (isO co ky c lk) S) (if lk = true then 3 else 8) S (isO co ky c lk) bt pe ky fr oc tu) : ∃ fs' os' ls' ns' ow' ev' lo' fi', JR A' M' S bt pe co ky tu (p + 1) (F + G) fs' os' ls' ns' ow' ev' lo' fi' := by
  obtain ⟨j1, j2, j3, j4, j5, j6, j7, j8⟩ := hJ
  obtain ⟨⟨l1, l2, l3, l4⟩, q2, q3, q4, q5, q6, q7, q8, q9, q10, q11⟩ := hQ
  have hS40 := hSC.2.1
  have eP : ∀ s, isO co ky c lk s = decide (pkn (co s) (ky s) = p) := fun s => by rw [hp]; exact isO_pk
  have eT : ∀ s, pkn (co s) (ky s) = p → isO co ky c lk s = true := fun s w => by rw [eP]; exact decide_eq_true w
  have eF : ∀ s, pkn (co s) (ky s) ≠ p → isO co ky c lk s = false := fun s w => by rw [eP]; exact decide_eq_false w
  have p12 : p < 12 := by rw [hp]; split <;> omega
  have hcnt : cnt (fun s => decide (p ≤ pkn (co s) (ky s))) S = cnt (isO co ky c lk) S + cnt (fun s => decide (p + 1 ≤ pkn (co s) (ky s))) S := by
    apply cnt_or
    intro s hs
    rw [eP]
    by_cases e1 : pkn (co s) (ky s) = p
    · rw [decide_eq_true e1, decide_eq_true (by omega), decide_eq_false (by omega)]
      exact ⟨rfl, rfl⟩
    · rw [decide_eq_false e1]
      by_cases e2 : p + 1 ≤ pkn (co s) (ky s)
      · rw [decide_eq_true e2, decide_eq_true (by omega)]
        exact ⟨rfl, rfl⟩
      · rw [decide_eq_false e2, decide_eq_false (by omega)]
        exact ⟨rfl, rfl⟩
  have hn40 := cnt_le (isO co ky c lk) S
  -- of this pack: what a signal's key says
  have own : ∀ s, s < S → pkn (co s) (ky s) = p → co s = c ∧ cpk (ky s) = (if lk = true then 3 else 8) := fun s hs w => by
    have h := eT s w
    unfold isO at h
    rw [Bool.and_eq_true] at h
    refine ⟨of_decide_eq_true h.1, ?_⟩
    unfold cpk
    by_cases z : ky s = 0
    · rw [if_pos z]
      have h2 := h.2
      rw [show decide (ky s ≠ 0) = false from decide_eq_false (fun u => u z)] at h2
      cases lk
      · rfl
      · exact absurd h2 (by decide)
    · rw [if_neg z]
      have h2 := h.2
      rw [show decide (ky s ≠ 0) = true from decide_eq_true z] at h2
      cases lk
      · exact absurd h2 (by decide)
      · rfl
  -- the class's new frames
  have newf : ∀ f, F ≤ f → f < F + G → ∃ s, s < S ∧ pkn (co s) (ky s) = p ∧ isO co ky c lk s = true ∧ fr (lxf (isO co ky c lk) s) = f - F + 1 ∧ F + fr (lxf (isO co ky c lk) s) - 1 = f ∧ OpF A A' f s := fun f w1 w2 => by
    obtain ⟨s, s1, s2, s3⟩ := q7 (f - F + 1) (by omega) (by omega)
    have e : F + fr (lxf (isO co ky c lk) s) - 1 = f := by omega
    obtain ⟨o1, o2, o3⟩ := l2 s s1 s2 (by omega)
    rw [e] at o3
    have s2' := s2
    rw [eP] at s2'
    exact ⟨s, s1, of_decide_eq_true s2', s2, s3, e, o3⟩
  have nnew : ∀ s, s < S → pkn (co s) (ky s) = p → nn (A' 75 (F + fr (lxf (isO co ky c lk) s) - 1)) = pe s ∧ nn (A' 76 (F + fr (lxf (isO co ky c lk) s) - 1)) = ky s := fun s s1 s2 => by
    obtain ⟨w1, w2, w3, w4, _⟩ := q5 s s1 (eT s s2)
    obtain ⟨o1, o2, p1, p2, p3, _⟩ := l2 s s1 (eT s s2) (by omega)
    obtain ⟨a1, a2, a3, a4, a5, a6, a7, a8, a9, a10⟩ := hSC.2.2 s s1
    rw [p2, p3, a4, a9, nn_s (by omega), nn_s (by omega)]
    exact ⟨rfl, rfl⟩
  have oldM : ∀ a y q, q < p → (941 + 53 * q ≤ a ∧ a ≤ 941 + 53 * q + 22) → M' a y = M a y := fun a y q w1 w2 => q11 a y (by omega) (by omega) (by omega) (by omega)
  refine ⟨fun s => if pkn (co s) (ky s) = p then F + fr (lxf (isO co ky c lk) s) - 1 else fs s, fun s => if pkn (co s) (ky s) = p then oc (lxf (isO co ky c lk) s) else os s, fun s => if pkn (co s) (ky s) = p then lxf (isO co ky c lk) s else ls s, fun s => if pkn (co s) (ky s) = p then cnt (isO co ky c lk) S else ns s, fun f => if f < F then ow f else c, fun f => if f < F then ev f else nn (A' 75 f), fun f => if f < F then lo f else nn (A' 76 f), fun f => if f < F then fi f else f - F + 1, l1, q3, by omega, fun f hf => ?_, fun s s1 s2 => ?_, fun s t s1 t1 s2 t2 ne e => ?_, fun f g f1 g1 e1 e2 => ?_, fun q q1 y y1 => ?_⟩
  · dsimp only
    by_cases of : f < F
    · rw [if_pos of, if_pos of, if_pos of, if_pos of]
      obtain ⟨⟨a1, a2, a3, a4, a5, a6, a7, a8, a9, a10, a11, a12, a13, a14, a15, a16, a17⟩, ⟨z1, z2, z3, z4, z5⟩, b, ⟨s, s1, s2, s3⟩⟩ := j4 f of
      have tA : ∀ a, 74 ≤ a ∧ a ≤ 91 → A' a f = A a f := fun a w => l4 a f (by omega) (by omega) (by omega) (by omega) (by omega)
      have tM : ∀ a, 779 ≤ a ∧ a ≤ 785 → M' a f = M a f := fun a w => q11 a f (by omega) (by omega) (by omega) (by omega)
      refine ⟨⟨by rw [tA _ (by omega)]; exact a1, by rw [tA _ (by omega)]; exact a2, by rw [tA _ (by omega)]; exact a3, by rw [tM _ (by omega)]; exact a4, by rw [tM _ (by omega)]; exact a5, by rw [tM _ (by omega)]; exact a6, by rw [tM _ (by omega)]; exact a7, by rw [tM _ (by omega)]; exact a8, a9, a10, a11, a12, a13, a14, by rw [oldM _ _ _ b (by omega)]; exact a15, by rw [oldM _ _ _ b (by omega)]; exact a16, by rw [oldM _ _ _ b (by omega)]; exact a17⟩, ⟨by rw [tA _ (by omega)]; exact z1, by rw [tA _ (by omega)]; exact z2, fun x hx => by rw [tA _ (by omega)]; exact z3 x hx, by rw [tM _ (by omega)]; exact z4, fun y hy => by rw [oldM _ _ _ b (by omega)]; exact z5 y hy⟩, by omega, s, s1, by omega, by rw [if_neg (by omega)]; exact s3⟩
    · rw [if_neg of, if_neg of, if_neg of, if_neg of]
      obtain ⟨s, s1, s2, s3, s4, s5, o1, o2, o3, o4, o5, o6⟩ := newf f (by omega) hf
      obtain ⟨v1, v2⟩ := nnew s s1 s2
      rw [s5] at v1 v2
      rw [v1, v2]
      obtain ⟨a1, a2, a3, a4, a5, a6, a7, a8, a9, a10⟩ := hSC.2.2 s s1
      obtain ⟨w1, w2⟩ := own s s1 s2
      obtain ⟨x1, x2, x3, x4, x5, x6, x7, x8, x9, x10, x11, x12, x13, x14, x15, x16, x17, x18, x19⟩ := q5 s s1 s3
      rw [s5] at x8 x9
      rw [s4] at x19
      obtain ⟨y1, y2, y3, y4⟩ := q4 (f - F) (by omega)
      rw [show F + (f - F) = f from by omega] at y1 y2 y3 y4
      have epk : pkn c (ky s) = p := by rw [← w1]; exact s2
      unfold FrT FrZ
      rw [epk, w2]
      refine ⟨⟨by rw [o1, a7, w1], by rw [o2]; exact a4, by rw [o3]; exact a9, y1, y2, y3, x8, x9, by omega, by omega, hc, a10, a5, a6, x10, x12, x19⟩, ⟨by rw [o4]; exact a4, o5, o6, y4, fun y hy => q6 _ ?_⟩, by omega, s, s1, by omega, by rw [if_pos s2]; exact s5⟩
      have h1 : (f - F + 1 - 1 + 1) * (if lk = true then 3 else 8) ≤ G * (if lk = true then 3 else 8) := Nat.mul_le_mul_right _ (by omega)
      rw [Nat.add_mul] at h1
      omega
  · dsimp only
    by_cases e : pkn (co s) (ky s) = p
    · rw [if_pos e, if_pos e, if_pos e, if_pos e]
      obtain ⟨x1, x2, x3, x4, x5, x6, x7, x8, x9, x10, x11, x12, x13, x14, x15, x16, x17, x18, x19⟩ := q5 s s1 (eT s e)
      obtain ⟨w1, w2⟩ := own s s1 e
      obtain ⟨v1, v2⟩ := nnew s s1 e
      obtain ⟨o1, o2, o3⟩ := l2 s s1 (eT s e) (by omega)
      have nf : ¬ F + fr (lxf (isO co ky c lk) s) - 1 < F := by omega
      rw [if_neg nf, if_neg nf, if_neg nf, if_neg nf, v1, v2]
      unfold SgT
      rw [e, w2]
      refine ⟨by omega, w1.symm, rfl, rfl, o1, o2, x6, x7, x1, lxf_1, x2, by omega, x5, x11, x13, x14, x15, x16, ?_, x18⟩
      rw [x17, show F + fr (lxf (isO co ky c lk) s) - 1 - F + 1 = fr (lxf (isO co ky c lk) s) from by omega]
    · rw [if_neg e, if_neg e, if_neg e, if_neg e]
      have lt : pkn (co s) (ky s) < p := by omega
      obtain ⟨a1, a2, a3, a4, b1, b2, b3, b4, b5, b6, b7, b8, b9, b10, b11, b12, b13, b14, b15, b16⟩ := j5 s s1 lt
      rw [if_pos a1, if_pos a1, if_pos a1, if_pos a1]
      obtain ⟨u1, u2⟩ := l3 s (Or.inl (eF s e))
      obtain ⟨u3, u4, u5⟩ := q9 s (eF s e)
      refine ⟨by omega, a2, a3, a4, by rw [u1]; exact b1, by rw [u2]; exact b2, by rw [u4]; exact b3, by rw [u5]; exact b4, by rw [u3]; exact b5, b6, b7, b8, b9, by rw [oldM _ _ _ lt (by omega)]; exact b10, by rw [oldM _ _ _ lt (by omega)]; exact b11, by rw [oldM _ _ _ lt (by omega)]; exact b12, by rw [oldM _ _ _ lt (by omega)]; exact b13, by rw [oldM _ _ _ lt (by omega)]; exact b14, by rw [oldM _ _ _ lt (by omega)]; exact b15, by rw [oldM _ _ _ lt (by omega)]; exact b16⟩
  · dsimp only at e ⊢
    by_cases e1 : pkn (co s) (ky s) = p
    · by_cases e2 : pkn (co t) (ky t) = p
      · rw [if_pos e1, if_pos e2] at e ⊢
        obtain ⟨_, _, w3, _⟩ := q5 s s1 (eT s e1)
        obtain ⟨_, _, w3', _⟩ := q5 t t1 (eT t e2)
        exact q8 s t s1 t1 (eT s e1) (eT t e2) ne (by omega)
      · rw [if_pos e1, if_neg e2] at e
        have := (j5 t t1 (by omega)).1
        obtain ⟨_, _, w3, _⟩ := q5 s s1 (eT s e1)
        omega
    · by_cases e2 : pkn (co t) (ky t) = p
      · rw [if_neg e1, if_pos e2] at e
        have := (j5 s s1 (by omega)).1
        obtain ⟨_, _, w3, _⟩ := q5 t t1 (eT t e2)
        omega
      · rw [if_neg e1, if_neg e2] at e ⊢
        exact j6 s t s1 t1 (by omega) (by omega) ne e
  · dsimp only at e1 e2
    by_cases of : f < F
    · rw [if_pos of, if_pos of] at e1
      rw [if_pos of] at e2
      have bf := (j4 f of).2.2.1
      by_cases og : g < F
      · rw [if_pos og, if_pos og] at e1
        rw [if_pos og] at e2
        exact j7 f g of og e1 e2
      · rw [if_neg og, if_neg og] at e1
        obtain ⟨s, s1, s2, s3, s4, s5, o⟩ := newf g (by omega) g1
        obtain ⟨v1, v2⟩ := nnew s s1 s2
        rw [s5] at v2
        rw [v2, ← (own s s1 s2).1] at e1
        omega
    · rw [if_neg of, if_neg of] at e1
      rw [if_neg of] at e2
      obtain ⟨s, s1, s2, s3, s4, s5, o⟩ := newf f (by omega) f1
      obtain ⟨v1, v2⟩ := nnew s s1 s2
      rw [s5] at v2
      rw [v2, ← (own s s1 s2).1] at e1
      by_cases og : g < F
      · rw [if_pos og, if_pos og] at e1
        have bg := (j4 g og).2.2.1
        omega
      · rw [if_neg og] at e2
        omega
  · by_cases e : q = p
    · rw [e, q10]; exact j8 p p12 y y1
    · rw [q11 _ _ (by omega) (by omega) (by omega) (by omega)]
      exact j8 q q1 y y1
/-! all packs, one behind the other -/
def JE (A M : mwM) (S : Nat) (bt pe co ky : Nat → Nat) (tu : Nat → Bool) (p : Nat) : Prop := ∃ F fs os ls ns ow ev lo fi, JR A M S bt pe co ky tu p F fs os ls ns ow ev lo fi
abbrev fnA (A A' : mwM) : Prop := ∀ a y, a ≠ 71 → a ≠ 72 → ¬ (92 ≤ a ∧ a ≤ 94) → ¬ (a = 61 ∧ (y = 11 ∨ y = 13)) → ¬ (74 ≤ a ∧ a ≤ 77 ∨ a = 79 ∨ 86 ≤ a ∧ a ≤ 91) → A' a y = A a y
abbrev fnM (M M' : mwM) : Prop := ∀ a y, (a < 941 ∨ 23 ≤ (a - 941) % 53 ∨ 1577 ≤ a) → ¬ (766 ≤ a ∧ a ≤ 768) → ¬ (a = 732 ∧ (y = 67 ∨ y = 11 ∨ y = 12)) → ¬ (779 ≤ a ∧ a ≤ 783 ∨ a = 785) → M' a y = M a y
theorem fnM_t {M M' M'' : mwM} (h : fnM M M') (h' : fnM M' M'') : fnM M M'' := fun a y w1 w2 w3 w4 => by rw [h' a y w1 w2 w3 w4]; exact h a y w1 w2 w3 w4
theorem fnA_t {A A' A'' : mwM} (h : fnA A A') (h' : fnA A' A'') : fnA A A'' := fun a y w1 w2 w3 w4 w5 => by rw [h' a y w1 w2 w3 w4 w5]; exact h a y w1 w2 w3 w4 w5
theorem lk_one {fu S c p K : Nat} {lk : Bool} {A M : mwM} {L L2 : mwL} {bt pe co ky ka kp kn : Nat → Nat} {tu : Nat → Bool} (hfu : 90000 ≤ fu) (hc : c < 6) (hp : p = 2 * c + (if lk = true then 1 else 0)) (hSC : SgC A S bt pe co ky) (hS : SgM M S bt pe co tu) (hK : KyM M K ka kp kn) (hky : ∀ s, s < S → ky s = kyf ka kp kn (co s) (pe s) K 0) (hfit : ∀ s, s < S → isO co ky c lk s = true → ocs bt s ≤ (if lk = true then 3 else 8)) (hJ : JE A M S bt pe co ky tu p) : ∃ A' M', DX6_packOf fu (sI c) (bI lk) A L = some (A', L) ∧ DX19_packOne fu (sI c) (bI lk) (sI p) M L2 = some (1, M', L2) ∧ JE A' M' S bt pe co ky tu (p + 1) ∧ fnA A A' ∧ fnM M M' := by
  obtain ⟨F, fs, os, ls, ns, ow, ev, lo, fi, hR⟩ := hJ
  have p12 : p < 12 := by rw [hp]; split <;> omega
  have hS40 := hS.2.1
  have hcn : cnt (isO co ky c lk) S ≤ cnt (fun s => decide (p ≤ pkn (co s) (ky s))) S := by
    have h := cnt_or (a := fun s => decide (p ≤ pkn (co s) (ky s))) (b := isO co ky c lk) (c := fun s => decide (p + 1 ≤ pkn (co s) (ky s))) (n := S) (fun s hs => by
      rw [isO_pk, ← hp]
      by_cases e1 : pkn (co s) (ky s) = p
      · rw [decide_eq_true e1, decide_eq_true (by omega), decide_eq_false (by omega)]
        exact ⟨rfl, rfl⟩
      · rw [decide_eq_false e1]
        by_cases e2 : p + 1 ≤ pkn (co s) (ky s)
        · rw [decide_eq_true e2, decide_eq_true (by omega)]
          exact ⟨rfl, rfl⟩
        · rw [decide_eq_false e2, decide_eq_false (by omega)]
          exact ⟨rfl, rfl⟩)
    omega
  obtain ⟨A', M', fr, oc, G, e1, e2, e3⟩ := lk_one0 (fu := fu) (k := 941 + 53 * p) (L := L) (L2 := L2) hfu hc p12 rfl rfl hSC hS hK hky (hR.2.2.2.2.2.2.2 p p12) hfit hR.1 hR.2.1 (by have := hR.2.2.1; omega)
  obtain ⟨fs', os', ls', ns', ow', ev', lo', fi', hR'⟩ := lk_JR hc hp hSC hR e3
  refine ⟨A', M', e1, e2, ⟨F + G, fs', os', ls', ns', ow', ev', lo', fi', hR'⟩, fun a y w1 w2 w3 w4 w5 => ?_, fun a y w1 w2 w3 w4 => ?_⟩
  · exact e3.1.2.2.2 a y w1 w2 w3 w4 (by omega)
  · obtain ⟨_, _, _, _, _, _, _, _, _, _, q11⟩ := e3
    exact q11 a y (by omega) w2 (by omega) (by omega)
/-- a signal that no frame holds -/
abbrev TLg (bt ky : Nat → Nat) (s : Nat) : Prop := ky s ≠ 0 ∧ 3 < ocs bt s
theorem fj_e {c : Nat} (h : c < 6) : sI (2 * c) / 2 = sI c ∧ ¬ (sI (2 * c) - sI (2 * c) / 2 * 2 = 1) ∧ sI (2 * c + 1) / 2 = sI c ∧ sI (2 * c + 1) - sI (2 * c + 1) / 2 * 2 = 1 := by
  have : ∀ c, c < 6 → sI (2 * c) / 2 = sI c ∧ ¬ (sI (2 * c) - sI (2 * c) / 2 * 2 = 1) ∧ sI (2 * c + 1) / 2 = sI c ∧ sI (2 * c + 1) - sI (2 * c + 1) / 2 * 2 = 1 := by decide
  exact this c h
/-- what comes of the joining -/
def JQ (fu : Nat) (C : Nat) (A M : mwM) (L L2 : mwL) (S : Nat) (bt pe co ky : Nat → Nat) (tu : Nat → Bool) (X : Option (mwM × mwL)) (Y : Option (Int32 × mwM × mwL)) : Prop :=
  ((∀ s, s < S → ¬ TLg bt ky s) ∧ ∃ A' M', X = mb2 (DX6_findPositions fu A' L) (fun M14 L15 => mb2 (DX6_findSoonest fu M14 L15) (fun M16 L17 => some (M16, L17))) ∧ Y = fX19_join_h45 fu fu (0, M', L2) ∧ JE A' M' S bt pe co ky tu (2 * C) ∧ fnA A A' ∧ fnM M M') ∨ (∃ t M', t < S ∧ TLg bt ky t ∧ (∀ u, u < S → TLg bt ky u → co t < co u ∨ (co t = co u ∧ t ≤ u)) ∧ Y = some (0, M', L2) ∧ M' 732 11 = 8 ∧ M' 732 12 = M 760 t ∧ fnM M M' ∧ ∀ q, q < 12 → ∀ y, y ≤ 40 → M' (941 + 53 * q + 8) y = 0)
theorem lk_join {fu S C K : Nat} {L L2 : mwL} {bt pe co ky ka kp kn : Nat → Nat} {tu : Nat → Bool} (hfu : 90000 ≤ fu) (hC : C ≤ 6) (hky : ∀ s, s < S → ky s = kyf ka kp kn (co s) (pe s) K 0) (hco : ∀ s, s < S → co s < C) : ∀ (r c q q' : Nat) (A M : mwM), c + r = C → r < q → 2 * r < q' → SgC A S bt pe co ky → SgM M S bt pe co tu → KyM M K ka kp kn → M 732 19 = sI C → JE A M S bt pe co ky tu (2 * c) → (∀ s, s < S → co s < c → ¬ TLg bt ky s) → JQ fu C A M L L2 S bt pe co ky tu (fX6_pack_h47 fu (sI C) q (sI c, A, L)) (fX19_join_h2 fu q' (sI (2 * c), M, L2)) := by
  intro r
  induction r with
  | zero =>
    intro c q q' A M hc hq hq' hSC hS hK h19 hJ hno
    obtain ⟨w, rfl⟩ : ∃ y, q = y + 1 := ⟨q - 1, by omega⟩
    obtain ⟨w', rfl⟩ : ∃ y, q' = y + 1 := ⟨q' - 1, by omega⟩
    have ec : c = C := by omega
    subst ec
    refine Or.inl ⟨fun s hs => hno s hs (hco s hs), A, M, ?_, ?_, hJ, fun _ _ _ _ _ _ _ => rfl, fun _ _ _ _ _ _ => rfl⟩
    · show fX6_pack_i47 fu (sI c) (fX6_pack_h47 fu (sI c) w) (sI c) A L = _
      unfold fX6_pack_i47
      rw [if_pos (by rw [sI_le (by omega) (by omega)]; omega)]
    · show fX19_join_i2 fu (fX19_join_h2 fu w') (sI (2 * c)) M L2 = _
      unfold fX19_join_i2
      rw [h19, sI_lml, if_pos (by rw [sI_le (by omega) (by omega)]; omega)]
  | succ r ih =>
    intro c q q' A M hc hq hq' hSC hS hK h19 hJ hno
    obtain ⟨w, rfl⟩ : ∃ y, q = y + 1 := ⟨q - 1, by omega⟩
    obtain ⟨w', rfl⟩ : ∃ y, q' = y + 1 + 1 := ⟨q' - 2, by omega⟩
    have hS40 := hS.2.1
    obtain ⟨j1, j2, j3, j4⟩ := fj_e (show c < 6 by omega)
    have unC : fX6_pack_h47 fu (sI C) (w + 1) (sI c, A, L) = fX6_pack_i47 fu (sI C) (fX6_pack_h47 fu (sI C) w) (sI c) A L := rfl
    have unM : fX19_join_h2 fu (w' + 1 + 1) (sI (2 * c), M, L2) = fX19_join_i2 fu (fX19_join_h2 fu (w' + 1)) (sI (2 * c)) M L2 := rfl
    rw [unC, unM]
    unfold fX6_pack_i47 fX19_join_i2 fX19_join_b28
    rw [if_neg (by rw [sI_le (by omega) (by omega)]; omega), h19, sI_lml, if_neg (by rw [sI_le (by omega) (by omega)]; omega), if_neg j2, j1]
    -- without key
    obtain ⟨A1, M1, e1, e2, e3, e4, e5⟩ := lk_one (fu := fu) (c := c) (p := 2 * c) (lk := false) (L := L) (L2 := L2) hfu (by omega) (by rw [if_neg (by decide)]; rfl) hSC hS hK hky (fun s hs _ => by
      have := (hS.2.2 s hs).2.2.1
      rw [if_neg (by decide)]
      show (bt s + 7) / 8 ≤ 8
      omega) hJ
    have e1' : DX6_packOf fu (sI c) 0 A L = some (A1, L) := e1
    have e2' : DX19_packOne fu (sI c) 0 (sI (2 * c)) M L2 = some (1, M1, L2) := e2
    rw [e1', mb2_s, e2', mb3_s, if_neg (show ¬ (1 : Int32) = 0 by decide)]
    simp only [mlet]
    rw [sI_1 (a := 2 * c), sI_1 (a := c)]
    have hSC1 : SgC A1 S bt pe co ky := SgC_f hSC (fun a y u => e4 a y (by omega) (by omega) (by omega) (by omega) (by omega))
    have hS1 : SgM M1 S bt pe co tu := SgM_f hS (fun a y u => e5 a y (by omega) (by omega) (by omega) (by omega))
    have hK1 : KyM M1 K ka kp kn := KyM_f hK (fun a y u => e5 a y (by omega) (by omega) (by omega) (by omega))
    have h191 : M1 732 19 = sI C := by rw [e5 _ _ (by omega) (by omega) (by omega) (by omega)]; exact h19
    have unM1 : fX19_join_h2 fu (w' + 1) (sI (2 * c + 1), M1, L2) = fX19_join_i2 fu (fX19_join_h2 fu w') (sI (2 * c + 1)) M1 L2 := rfl
    rw [unM1]
    unfold fX19_join_i2 fX19_join_b28
    rw [h191, sI_lml, if_neg (by rw [sI_le (by omega) (by omega)]; omega), if_pos j4, j3]
    -- with key
    obtain ⟨F, fs, os, ls, ns, ow, ev, lo, fi, hR1⟩ := id e3
    have h8 := hR1.2.2.2.2.2.2.2
    have isT : ∀ s, isO co ky c true s = true ↔ co s = c ∧ ky s ≠ 0 := fun s => by
      unfold isO
      rw [Bool.and_eq_true]
      constructor
      · rintro ⟨u1, u2⟩
        refine ⟨of_decide_eq_true u1, fun z => ?_⟩
        rw [show decide (ky s ≠ 0) = false from decide_eq_false (fun u => u z)] at u2
        exact absurd u2 (by decide)
      · rintro ⟨u1, u2⟩
        rw [show decide (ky s ≠ 0) = true from decide_eq_true u2]
        exact ⟨decide_eq_true u1, by decide⟩
    have hpo := m_pO1 (fu := fu) (c := c) (p := 2 * c + 1) (lk := true) (L := L2) (by omega) (by omega) (by omega) rfl rfl hS1 hK1 hky (h8 (2 * c + 1) (by omega))
    have bt1 : (bI true : Int32) = 1 := rfl
    rcases hpo with ⟨B, hB, hle, hX⟩ | ⟨t, B, t1, t2, t3, t4, t5, t6, t7, t8, t9⟩
    · obtain ⟨A2, M2, g1, g2, g3, g4, g5⟩ := lk_one (fu := fu) (c := c) (p := 2 * c + 1) (lk := true) (L := L) (L2 := L2) hfu (by omega) (by rw [if_pos rfl]) hSC1 hS1 hK1 hky hle e3
      have g1' : DX6_packOf fu (sI c) 1 A1 L = some (A2, L) := g1
      have g2' : DX19_packOne fu (sI c) 1 (sI (2 * c + 1)) M1 L2 = some (1, M2, L2) := g2
      rw [g1', mb2_s, g2', mb3_s, if_neg (show ¬ (1 : Int32) = 0 by decide)]
      simp only [mlet]
      rw [sI_1 (a := 2 * c + 1)]
      have hSC2 : SgC A2 S bt pe co ky := SgC_f hSC1 (fun a y u => g4 a y (by omega) (by omega) (by omega) (by omega) (by omega))
      have hS2 : SgM M2 S bt pe co tu := SgM_f hS1 (fun a y u => g5 a y (by omega) (by omega) (by omega) (by omega))
      have hK2 : KyM M2 K ka kp kn := KyM_f hK1 (fun a y u => g5 a y (by omega) (by omega) (by omega) (by omega))
      have nx := ih (c + 1) w w' A2 M2 (by omega) (by omega) (by omega) hSC2 hS2 hK2 (by rw [g5 _ _ (by omega) (by omega) (by omega) (by omega)]; exact h191) g3 (fun s hs u => by
        by_cases e : co s = c
        · rintro ⟨v1, v2⟩
          have := hle s hs ((isT s).mpr ⟨e, v1⟩)
          rw [if_pos rfl] at this
          omega
        · exact hno s hs (by omega))
      have e760 : ∀ t, M2 760 t = M 760 t := fun t => by rw [g5 _ _ (by omega) (by omega) (by omega) (by omega), e5 _ _ (by omega) (by omega) (by omega) (by omega)]
      rcases nx with ⟨n1, A3, M3, n2, n3, n4, n5, n6⟩ | ⟨t, M3, n1, n2, n3, n4, n5, n6, n7, n8⟩
      · exact Or.inl ⟨n1, A3, M3, n2, n3, n4, fnA_t (fnA_t e4 g4) n5, fnM_t (fnM_t e5 g5) n6⟩
      · exact Or.inr ⟨t, M3, n1, n2, n3, n4, n5, by rw [n6]; exact e760 t, fnM_t (fnM_t e5 g5) n7, n8⟩
    · rw [bt1] at t5
      rw [t5, mb3_s, if_pos (show (0 : Int32) = 0 from rfl)]
      rw [if_pos rfl] at t3
      obtain ⟨v1, v2⟩ := (isT t).mp t2
      refine Or.inr ⟨t, B, t1, ⟨v2, t3⟩, fun u u1 u2 => ?_, rfl, t6, ?_, fnM_t e5 (fun a y u1 u2 u3 u4 => t8 a y (by omega) (by omega) (by omega)), fun q hq y hy => ?_⟩
      · by_cases z1 : co u < c
        · exact absurd u2 (hno u u1 z1)
        · by_cases z2 : co u = c
          · refine Or.inr ⟨by omega, ?_⟩
            apply Nat.le_of_not_lt
            intro z3
            have := t4 u z3 ((isT u).mpr ⟨z2, u2.1⟩)
            rw [if_pos rfl] at this
            have := u2.2
            omega
          · exact Or.inl (by omega)
      · rw [t7, e5 _ _ (by omega) (by omega) (by omega) (by omega)]
      · by_cases e : q = 2 * c + 1
        · rw [e, t9]; exact h8 _ (by omega) y hy
        · rw [t8 _ _ (by omega) (by omega) (by omega)]
          exact h8 q hq y hy
/-! the class: keys, too large ones; positions on both sides -/
abbrev SgB (A : mwM) (S : Nat) (bt pe co : Nat → Nat) : Prop := A 61 10 = sI S ∧ S ≤ 40 ∧ ∀ s, s < S → A 63 s = sI (bt s) ∧ 1 ≤ bt s ∧ bt s ≤ 64 ∧ A 66 s = sI (pe s) ∧ 500 ≤ pe s ∧ pe s ≤ 20000 ∧ A 68 s = sI (co s) ∧ co s < 6
theorem KyC_f {A A' : mwM} {K : Nat} {ka kp kn : Nat → Nat} (h : KyC A K ka kp kn) (hf : ∀ a y, (a = 61 ∧ y = 12) ∨ a = 82 ∨ a = 83 ∨ a = 84 → A' a y = A a y) : KyC A' K ka kp kn := by
  obtain ⟨h1, h2, h3⟩ := h
  refine ⟨by rw [hf _ _ (by omega)]; exact h1, h2, fun i hi => ?_⟩
  obtain ⟨a1, a2, a3, a4, a5, a6⟩ := h3 i hi
  exact ⟨by rw [hf _ _ (by omega)]; exact a1, by rw [hf _ _ (by omega)]; exact a2, by rw [hf _ _ (by omega)]; exact a3, a4, a5, a6⟩
theorem c_keys {fu S C K : Nat} {A : mwM} {L : mwL} {bt pe co ka kp kn : Nat → Nat} (hfu : 500 ≤ fu) (hS : SgB A S bt pe co) (hK : KyC A K ka kp kn) : ∃ A', DX6_pack fu (sI C) A L = fX6_pack_h47 fu (sI C) fu (0, A', L) ∧ SgC A' S bt pe co (fun s => kyf ka kp kn (co s) (pe s) K 0) ∧ ∀ a y, a ≠ 70 → A' a y = A a y := by
  obtain ⟨h1, h2, h3⟩ := hS
  unfold DX6_pack
  have key : ∀ (r s q : Nat) (B : mwM), s + r = S → r < q → (∀ t, t < s → B 70 t = sI (kyf ka kp kn (co t) (pe t) K 0)) → (∀ a y, a ≠ 70 → B a y = A a y) → ∃ A', fX6_pack_h2 fu (sI C) q (sI s, B, L) = fX6_pack_h47 fu (sI C) fu (0, A', L) ∧ SgC A' S bt pe co (fun s => kyf ka kp kn (co s) (pe s) K 0) ∧ ∀ a y, a ≠ 70 → A' a y = A a y := by
    intro r
    induction r with
    | zero =>
      intro s q B hs hq h70 hf
      obtain ⟨q', rfl⟩ : ∃ y, q = y + 1 := ⟨q - 1, by omega⟩
      refine ⟨B, ?_, ⟨by rw [hf _ _ (by omega)]; exact h1, h2, fun t ht => ?_⟩, hf⟩
      · show fX6_pack_i2 fu (sI C) (fX6_pack_h2 fu (sI C) q') (sI s) B L = _
        unfold fX6_pack_i2
        rw [hf _ _ (by omega), h1, if_pos (by rw [sI_le (by omega) (by omega)]; omega)]
      · obtain ⟨a1, a2, a3, a4, a5, a6, a7, a8⟩ := h3 t ht
        exact ⟨by rw [hf _ _ (by omega)]; exact a1, a2, a3, by rw [hf _ _ (by omega)]; exact a4, a5, a6, by rw [hf _ _ (by omega)]; exact a7, a8, h70 t (by omega), kyf_le _ _ (fun j hj => (hK.2.2 j (by omega)).2.2.2.2.2)⟩
    | succ r ih =>
      intro s q B hs hq h70 hf
      obtain ⟨q', rfl⟩ : ∃ y, q = y + 1 := ⟨q - 1, by omega⟩
      obtain ⟨a1, a2, a3, a4, a5, a6, a7, a8⟩ := h3 s (by omega)
      have un : fX6_pack_h2 fu (sI C) (q' + 1) (sI s, B, L) = fX6_pack_i2 fu (sI C) (fX6_pack_h2 fu (sI C) q') (sI s) B L := rfl
      rw [un]
      unfold fX6_pack_i2
      rw [hf 61 10 (by omega), h1, if_neg (by rw [sI_le (by omega) (by omega)]; omega), mck_s (by omega) (by omega), mck_s (by omega) (by omega), sI_nn (by omega), hf 68 s (by omega), hf 66 s (by omega), a7, a4, c_keyOf hfu (KyC_f hK (fun a y w => hf a y (by omega))) a8 a6, mb3_s, mck_s (by omega) (by omega)]
      simp only [mlet]
      rw [sI_1]
      refine ih (s + 1) q' _ (by omega) (by omega) (fun t ht => ?_) (fun a y w => by rw [mset_n (by omega)]; exact hf a y w)
      by_cases e : t = s
      · rw [e, mset_s]
      · rw [mset_n (by omega)]; exact h70 t (by omega)
  exact key S 0 fu A (by omega) (by omega) (fun t w => by omega) (fun _ _ _ => rfl)
theorem c_findTooLarge {fu S C K : Nat} {A : mwM} {L : mwL} {bt pe co ka kp kn : Nat → Nat} (hfu : 500 ≤ fu) (hC : C ≤ 6) (hS : SgB A S bt pe co) (hK : KyC A K ka kp kn) (hco : ∀ s, s < S → co s < C) : ((∀ s, s < S → ¬ TLg bt (fun s => kyf ka kp kn (co s) (pe s) K 0) s) ∧ DX6_findTooLarge fu (sI C) A L = some (-1, A, L)) ∨ ∃ t, t < S ∧ TLg bt (fun s => kyf ka kp kn (co s) (pe s) K 0) t ∧ (∀ u, u < S → TLg bt (fun s => kyf ka kp kn (co s) (pe s) K 0) u → co t < co u ∨ (co t = co u ∧ t ≤ u)) ∧ DX6_findTooLarge fu (sI C) A L = some (sI t, A, L) := by
  obtain ⟨h1, h2, h3⟩ := hS
  have h16 : ∀ s, s < S → kyf ka kp kn (co s) (pe s) K 0 ≤ 16 := fun s _ => kyf_le _ _ (fun j hj => (hK.2.2 j (by omega)).2.2.2.2.2)
  generalize hky : (fun s => kyf ka kp kn (co s) (pe s) K 0) = ky
  have eky : ∀ s, kyf ka kp kn (co s) (pe s) K 0 = ky s := fun s => by rw [← hky]
  unfold DX6_findTooLarge
  have inner : ∀ (c : Nat), c < C → ∀ (rr : (Int32 × mwM × mwL) → Option (Int32 × mwM × mwL)) (r s q : Nat), s + r = S → r < q → (∀ u, u < s → co u = c → ¬ TLg bt ky u) → ((∀ u, u < S → co u = c → ¬ TLg bt ky u) ∧ fX6_findTooLarge_h9 fu (sI C) rr q (sI c, sI s, A, L) = rr (sI (c + 1), A, L)) ∨ ∃ t, t < S ∧ co t = c ∧ TLg bt ky t ∧ (∀ u, u < t → co u = c → ¬ TLg bt ky u) ∧ fX6_findTooLarge_h9 fu (sI C) rr q (sI c, sI s, A, L) = some (sI t, A, L) := by
    intro c hc rr r
    induction r with
    | zero =>
      intro s q hs hq hno
      obtain ⟨q', rfl⟩ : ∃ y, q = y + 1 := ⟨q - 1, by omega⟩
      refine Or.inl ⟨fun u hu => hno u (by omega), ?_⟩
      show fX6_findTooLarge_i9 fu (sI C) rr (fX6_findTooLarge_h9 fu (sI C) rr q') (sI c) (sI s) A L = _
      unfold fX6_findTooLarge_i9
      simp only [mlet]
      rw [h1, if_pos (by rw [sI_le (by omega) (by omega)]; omega), sI_1]
    | succ r ih =>
      intro s q hs hq hno
      obtain ⟨q', rfl⟩ : ∃ y, q = y + 1 := ⟨q - 1, by omega⟩
      obtain ⟨a1, a2, a3, a4, a5, a6, a7, a8⟩ := h3 s (by omega)
      have un : fX6_findTooLarge_h9 fu (sI C) rr (q' + 1) (sI c, sI s, A, L) = fX6_findTooLarge_i9 fu (sI C) rr (fX6_findTooLarge_h9 fu (sI C) rr q') (sI c) (sI s) A L := rfl
      rw [un]
      have nx : (co s = c → ¬ TLg bt ky s) → ((∀ u, u < S → co u = c → ¬ TLg bt ky u) ∧ fX6_findTooLarge_b68 fu (sI C) rr (fX6_findTooLarge_h9 fu (sI C) rr q') (sI c) (sI s) A L = rr (sI (c + 1), A, L)) ∨ ∃ t, t < S ∧ co t = c ∧ TLg bt ky t ∧ (∀ u, u < t → co u = c → ¬ TLg bt ky u) ∧ fX6_findTooLarge_b68 fu (sI C) rr (fX6_findTooLarge_h9 fu (sI C) rr q') (sI c) (sI s) A L = some (sI t, A, L) := by
        intro hn
        unfold fX6_findTooLarge_b68
        simp only [mlet]
        rw [sI_1]
        exact ih (s + 1) q' (by omega) (by omega) (fun u hu cu => by
          by_cases e : u = s
          · rw [e] at cu ⊢; exact hn cu
          · exact hno u (by omega) cu)
      unfold fX6_findTooLarge_i9 fX6_findTooLarge_b49 fX6_findTooLarge_b50
      rw [h1, if_neg (by rw [sI_le (by omega) (by omega)]; omega), mck_s (by omega) (by omega), sI_nn (by omega), a7, a4]
      by_cases e1 : co s = c
      · rw [if_pos (by rw [e1]), mck_s (by omega) (by omega), c_keyOf hfu hK (by omega) a6, mb3_s, ← e1, eky s]
        have h16' := h16 s (by omega)
        rw [eky] at h16'
        by_cases e2 : ky s = 0
        · rw [if_pos (by rw [e2]; rfl), if_pos (show (0 : Int32) = 0 from rfl), e1]
          exact nx (fun _ w => w.1 e2)
        · rw [if_neg (by rw [show (0 : Int32) = sI 0 from rfl, sI_eq (by omega) (by omega)]; exact e2), if_neg (show ¬ (1 : Int32) = 0 by decide), c_octetsOf (by omega) a1 a3, mb3_s]
          by_cases e3 : (bt s + 7) / 8 ≤ 3
          · rw [if_pos (by rw [sI_lel (by omega) (by decide)]; exact e3), e1]
            exact nx (fun _ w => by have : 3 < (bt s + 7) / 8 := w.2; omega)
          · rw [if_neg (by rw [sI_lel (by omega) (by decide)]; exact e3)]
            exact Or.inr ⟨s, by omega, rfl, ⟨e2, by show 3 < (bt s + 7) / 8; omega⟩, fun u hu cu => hno u hu (by omega), rfl⟩
      · rw [if_neg (by rw [sI_eq (by omega) (by omega)]; exact e1), if_pos (show (0 : Int32) = 0 from rfl)]
        exact nx (fun w => absurd w e1)
  have outer : ∀ (r c q : Nat), c + r = C → r < q → (∀ u, u < S → co u < c → ¬ TLg bt ky u) → ((∀ s, s < S → ¬ TLg bt ky s) ∧ fX6_findTooLarge_h2 fu (sI C) q (sI c, A, L) = some (-1, A, L)) ∨ ∃ t, t < S ∧ TLg bt ky t ∧ (∀ u, u < S → TLg bt ky u → co t < co u ∨ (co t = co u ∧ t ≤ u)) ∧ fX6_findTooLarge_h2 fu (sI C) q (sI c, A, L) = some (sI t, A, L) := by
    intro r
    induction r with
    | zero =>
      intro c q hc hq hno
      obtain ⟨q', rfl⟩ : ∃ y, q = y + 1 := ⟨q - 1, by omega⟩
      refine Or.inl ⟨fun u hu => hno u hu (by have := hco u hu; omega), ?_⟩
      show fX6_findTooLarge_i2 fu (sI C) (fX6_findTooLarge_h2 fu (sI C) q') (sI c) A L = _
      unfold fX6_findTooLarge_i2
      rw [if_pos (by rw [sI_le (by omega) (by omega)]; omega)]
    | succ r ih =>
      intro c q hc hq hno
      obtain ⟨q', rfl⟩ : ∃ y, q = y + 1 := ⟨q - 1, by omega⟩
      have un : fX6_findTooLarge_h2 fu (sI C) (q' + 1) (sI c, A, L) = fX6_findTooLarge_i2 fu (sI C) (fX6_findTooLarge_h2 fu (sI C) q') (sI c) A L := rfl
      rw [un]
      unfold fX6_findTooLarge_i2
      rw [if_neg (by rw [sI_le (by omega) (by omega)]; omega)]
      rcases inner c (by omega) (fX6_findTooLarge_h2 fu (sI C) q') S 0 fu (by omega) (by omega) (fun u hu => by omega) with ⟨i1, i2⟩ | ⟨t, t1, t2, t3, t4, t5⟩
      · have i2' : fX6_findTooLarge_h9 fu (sI C) (fX6_findTooLarge_h2 fu (sI C) q') fu (sI c, 0, A, L) = fX6_findTooLarge_h2 fu (sI C) q' (sI (c + 1), A, L) := i2
        rw [i2']
        exact ih (c + 1) q' (by omega) (by omega) (fun u hu cu => by
          by_cases e : co u = c
          · exact i1 u hu e
          · exact hno u hu (by omega))
      · have t5' : fX6_findTooLarge_h9 fu (sI C) (fX6_findTooLarge_h2 fu (sI C) q') fu (sI c, 0, A, L) = some (sI t, A, L) := t5
        rw [t5']
        refine Or.inr ⟨t, t1, t3, fun u hu tu => ?_, rfl⟩
        by_cases e : co u < c
        · exact absurd tu (hno u hu e)
        · by_cases e2 : co u = c
          · refine Or.inr ⟨by omega, ?_⟩
            apply Nat.le_of_not_lt
            intro w
            exact t4 u w e2 tu
          · exact Or.inl (by omega)
  exact outer C 0 fu (by omega) (by omega) (fun u hu w => by omega)
/-- where a frame stands among all -/
def posf (ev : Nat → Nat) (F f : Nat) : Nat := cnt (fun g => decide (ev g < ev f ∨ (ev g = ev f ∧ g < f))) F
theorem cnt_all {F : Nat} : cnt (fun _ => true) F = F := by
  induction F with
  | zero => rfl
  | succ F ih => rw [cnt_sc, ih, if_pos rfl]
theorem posf_lt {ev : Nat → Nat} {F f : Nat} (h : f < F) : posf ev F f < F := by
  have := cnt_lt (p := fun g => decide (ev g < ev f ∨ (ev g = ev f ∧ g < f))) (q := fun _ => true) h (decide_eq_false (by omega)) rfl (fun _ _ _ => rfl)
  rw [cnt_all] at this
  exact this
theorem posf_in {ev : Nat → Nat} {F f g : Nat} (hf : f < F) (hg : g < F) (h : posf ev F f = posf ev F g) : f = g := by
  have mono : ∀ f g, f < F → (ev f < ev g ∨ (ev f = ev g ∧ f < g)) → posf ev F f < posf ev F g := by
    intro f g hf w
    refine cnt_lt hf (decide_eq_false (by omega)) (decide_eq_true w) (fun x _ hx => ?_)
    have := of_decide_eq_true hx
    exact decide_eq_true (by omega)
  rcases Nat.lt_trichotomy f g with q | q | q
  · by_cases e : ev f ≤ ev g
    · have := mono f g hf (by omega); omega
    · have := mono g f hg (by omega); omega
  · exact q
  · by_cases e : ev g ≤ ev f
    · have := mono g f hg (by omega); omega
    · have := mono f g hf (by omega); omega
theorem pigeon : ∀ (n : Nat) (g : Nat → Nat), (∀ i, i < n + 1 → g i < n) → ∃ i j, i < j ∧ j < n + 1 ∧ g i = g j := by
  intro n
  induction n with
  | zero => intro g h; have := h 0 (by omega); omega
  | succ n ih =>
    intro g h
    by_cases e : ∃ i, i < n + 1 ∧ g i = g (n + 1)
    · obtain ⟨i, i1, i2⟩ := e
      exact ⟨i, n + 1, i1, by omega, i2⟩
    · have ne : ∀ i, i < n + 1 → g i ≠ g (n + 1) := fun i hi w => e ⟨i, hi, w⟩
      obtain ⟨i, j, h1, h2, h3⟩ := ih (fun i => if g (n + 1) < g i then g i - 1 else g i) (fun i hi => by
        have := h i (by omega)
        have := h (n + 1) (by omega)
        have := ne i hi
        try dsimp only
        split <;> omega)
      try dsimp only at h3
      have := ne i (by omega)
      have := ne j (by omega)
      refine ⟨i, j, h1, by omega, ?_⟩
      split at h3 <;> split at h3 <;> omega
theorem posf_sur {ev : Nat → Nat} {F q : Nat} (hq : q < F) : ∃ f, f < F ∧ posf ev F f = q := by
  apply Classical.byContradiction
  intro no
  have ne : ∀ f, f < F → posf ev F f ≠ q := fun f hf w => no ⟨f, hf, w⟩
  obtain ⟨n, rfl⟩ : ∃ n, F = n + 1 := ⟨F - 1, by omega⟩
  obtain ⟨i, j, h1, h2, h3⟩ := pigeon n (fun i => if q < posf ev (n + 1) i then posf ev (n + 1) i - 1 else posf ev (n + 1) i) (fun i hi => by
    have := posf_lt (ev := ev) hi
    have := ne i hi
    try dsimp only
    split <;> omega)
  try dsimp only at h3
  have := ne i (by omega)
  have := ne j h2
  have e : posf ev (n + 1) i = posf ev (n + 1) j := by split at h3 <;> split at h3 <;> omega
  have := posf_in (by omega) h2 e
  omega
/-! positions of the frames, the soonest frame -/
theorem posf_s {ev : Nat → Nat} {f g : Nat} : posf ev (g + 1) f = posf ev g f + (if ev g < ev f ∨ (ev g = ev f ∧ g < f) then 1 else 0) := by
  unfold posf
  rw [cnt_sc]
  by_cases w : ev g < ev f ∨ (ev g = ev f ∧ g < f)
  · rw [if_pos w, if_pos (decide_eq_true w)]
  · rw [if_neg w, if_neg (by rw [decide_eq_false w]; decide)]
theorem posf_le {ev : Nat → Nat} {f g : Nat} : posf ev g f ≤ g := cnt_le _ _
theorem c_findPositions {fu F : Nat} {A : mwM} {L : mwL} {ev : Nat → Nat} (hfu : 50 ≤ fu) (hF : A 61 11 = sI F) (h40 : F ≤ 40) (hev : ∀ f, f < F → A 75 f = sI (ev f) ∧ ev f ≤ 20000) : ∃ A', DX6_findPositions fu A L = some (A', L) ∧ (∀ f, f < F → A' 78 f = sI (posf ev F f) ∧ A' 80 (posf ev F f) = sI f) ∧ ∀ a y, a ≠ 78 → a ≠ 80 → A' a y = A a y := by
  unfold DX6_findPositions
  have inner : ∀ (f : Nat), f < F → ∀ (rr : (Int32 × mwM × mwL) → Option (mwM × mwL)) (B : mwM), (∀ a y, a ≠ 78 → a ≠ 80 → B a y = A a y) → ∀ (r g q : Nat), g + r = F → r < q → fX6_findPositions_h14 fu rr q (sI f, sI (posf ev g f), sI g, B, L) = rr (sI (f + 1), mset (mset B 78 f (sI (posf ev F f))) 80 (posf ev F f) (sI f), L) := by
    intro f hf rr B hB r
    have b11 : B 61 11 = sI F := by rw [hB _ _ (by omega) (by omega)]; exact hF
    have be : ∀ g, g < F → B 75 g = sI (ev g) := fun g hg => by rw [hB _ _ (by omega) (by omega)]; exact (hev g hg).1
    have hp := posf_lt (ev := ev) hf
    induction r with
    | zero =>
      intro g q hg hq
      obtain ⟨q', rfl⟩ : ∃ y, q = y + 1 := ⟨q - 1, by omega⟩
      have eg : g = F := by omega
      subst eg
      show fX6_findPositions_i14 fu rr (fX6_findPositions_h14 fu rr q') (sI f) (sI (posf ev g f)) (sI g) B L = _
      unfold fX6_findPositions_i14
      simp only [mlet]
      rw [b11, if_pos (by rw [sI_le (by omega) (by omega)]; omega), mck_s (by omega) (by omega), mck_s (by omega) (by omega), sI_nn (by omega), sI_nn (by omega), sI_1]
    | succ r ih =>
      intro g q hg hq
      obtain ⟨q', rfl⟩ : ∃ y, q = y + 1 := ⟨q - 1, by omega⟩
      have nx := ih (g + 1) q' (by omega) (by omega)
      have hpl := posf_le (ev := ev) (g := g) (f := f)
      have ef := (hev f hf).2
      have eg := (hev g (by omega)).2
      show fX6_findPositions_i14 fu rr (fX6_findPositions_h14 fu rr q') (sI f) (sI (posf ev g f)) (sI g) B L = _
      rw [posf_s] at nx
      have y1 : (ev g < ev f ∨ (ev g = ev f ∧ g < f)) → fX6_findPositions_b78 fu rr (fX6_findPositions_h14 fu rr q') (sI f) (sI g) (sI (posf ev g f)) B L = rr (sI (f + 1), mset (mset B 78 f (sI (posf ev F f))) 80 (posf ev F f) (sI f), L) := fun w => by
        rw [if_pos w] at nx
        unfold fX6_findPositions_b78 fX6_findPositions_b83
        simp only [mlet]
        rw [sI_1, sI_1]
        exact nx
      have y0 : ¬ (ev g < ev f ∨ (ev g = ev f ∧ g < f)) → fX6_findPositions_b83 fu rr (fX6_findPositions_h14 fu rr q') (sI f) (sI g) (sI (posf ev g f)) 0 B L = rr (sI (f + 1), mset (mset B 78 f (sI (posf ev F f))) 80 (posf ev F f) (sI f), L) := fun w => by
        rw [if_neg w] at nx
        unfold fX6_findPositions_b83
        simp only [mlet]
        rw [sI_1, show (0 : Int32) = sI 0 from rfl, sI_add]
        exact nx
      unfold fX6_findPositions_i14 fX6_findPositions_b50 fX6_findPositions_b51
      rw [b11, if_neg (by rw [sI_le (by omega) (by omega)]; omega), mck_s (by omega) (by omega), mck_s (by omega) (by omega), mck_s (by omega) (by omega), mck_s (by omega) (by omega), sI_nn (by omega), sI_nn (by omega), be g (by omega), be f hf, if_pos (show (0 : Int32) = 0 from rfl), if_neg (show ¬ (1 : Int32) = 0 by decide)]
      by_cases c1 : ev g = ev f
      · rw [if_pos (by rw [c1])]
        by_cases c2 : f ≤ g
        · rw [if_pos (by rw [sI_le (by omega) (by omega)]; exact c2), if_pos (by rw [sI_le (by omega) (by omega)]; omega)]
          exact y0 (by omega)
        · rw [if_neg (by rw [sI_le (by omega) (by omega)]; exact c2)]
          exact y1 (by omega)
      · rw [if_neg (by rw [sI_eq (by omega) (by omega)]; exact c1)]
        by_cases c2 : ev f ≤ ev g
        · rw [if_pos (by rw [sI_le (by omega) (by omega)]; exact c2)]
          exact y0 (by omega)
        · rw [if_neg (by rw [sI_le (by omega) (by omega)]; exact c2)]
          exact y1 (by omega)
  have outer : ∀ (r f q : Nat) (B : mwM), f + r = F → r < q → (∀ x, x < f → B 78 x = sI (posf ev F x) ∧ B 80 (posf ev F x) = sI x) → (∀ a y, a ≠ 78 → a ≠ 80 → B a y = A a y) → ∃ A', fX6_findPositions_h2 fu q (sI f, B, L) = some (A', L) ∧ (∀ f, f < F → A' 78 f = sI (posf ev F f) ∧ A' 80 (posf ev F f) = sI f) ∧ ∀ a y, a ≠ 78 → a ≠ 80 → A' a y = A a y := by
    intro r
    induction r with
    | zero =>
      intro f q B hf hq h1 h2
      obtain ⟨q', rfl⟩ : ∃ y, q = y + 1 := ⟨q - 1, by omega⟩
      refine ⟨B, ?_, fun x hx => h1 x (by omega), h2⟩
      show fX6_findPositions_i2 fu (fX6_findPositions_h2 fu q') (sI f) B L = _
      unfold fX6_findPositions_i2
      rw [h2 _ _ (by omega) (by omega), hF, if_pos (by rw [sI_le (by omega) (by omega)]; omega)]
    | succ r ih =>
      intro f q B hf hq h1 h2
      obtain ⟨q', rfl⟩ : ∃ y, q = y + 1 := ⟨q - 1, by omega⟩
      have un : fX6_findPositions_h2 fu (q' + 1) (sI f, B, L) = fX6_findPositions_i2 fu (fX6_findPositions_h2 fu q') (sI f) B L := rfl
      rw [un]
      unfold fX6_findPositions_i2
      have i1 := inner f (by omega) (fX6_findPositions_h2 fu q') B h2 F 0 fu (by omega) (by omega)
      have i1' : fX6_findPositions_h14 fu (fX6_findPositions_h2 fu q') fu (sI f, 0, 0, B, L) = _ := i1
      rw [h2 61 11 (by omega) (by omega), hF, if_neg (by rw [sI_le (by omega) (by omega)]; omega), i1']
      refine ih (f + 1) q' _ (by omega) (by omega) (fun x hx => ?_) (fun a y w1 w2 => by rw [mset_n (by omega), mset_n (by omega)]; exact h2 a y w1 w2)
      by_cases e : x = f
      · rw [e]
        exact ⟨by rw [mset_n (by omega), mset_s], by rw [mset_s]⟩
      · obtain ⟨u1, u2⟩ := h1 x (by omega)
        have ne : posf ev F x ≠ posf ev F f := fun w => e (posf_in (by omega) (by omega) w)
        exact ⟨by rw [mset_n (by omega), mset_n (by omega)]; exact u1, by rw [mset_n (by omega), mset_n (by omega)]; exact u2⟩
  exact outer F 0 fu A (by omega) (by omega) (fun x hx => by omega) (fun _ _ _ _ => rfl)
theorem m_positions {fu F : Nat} {M : mwM} {L : mwL} {ev : Nat → Nat} (hfu : 50 ≤ fu) (hF : M 732 67 = sI F) (h40 : F ≤ 40) (hev : ∀ f, f < F → M 782 f = sI (ev f) ∧ ev f ≤ 20000) : ∃ M', fX19_join_h45 fu fu (0, M, L) = some (1, M', L) ∧ (∀ f, f < F → M' 784 f = sI (posf ev F f)) ∧ ∀ a y, a ≠ 784 → M' a y = M a y := by
  have inner : ∀ (f : Nat), f < F → ∀ (rr : (Int32 × mwM × mwL) → Option (Int32 × mwM × mwL)) (r g q : Nat) (B : mwM), g + r = F → r < q → B 784 f = sI (posf ev g f) → (∀ a y, a ≠ 784 → B a y = M a y) → ∃ B', fX19_join_h62 fu rr q (sI f, sI g, B, L) = rr (sI (f + 1), B', L) ∧ B' 784 f = sI (posf ev F f) ∧ ∀ a y, ¬ (a = 784 ∧ y = f) → B' a y = B a y := by
    intro f hf rr r
    induction r with
    | zero =>
      intro g q B hg hq h1 h2
      obtain ⟨q', rfl⟩ : ∃ y, q = y + 1 := ⟨q - 1, by omega⟩
      have eg : g = F := by omega
      subst eg
      refine ⟨B, ?_, h1, fun _ _ _ => rfl⟩
      show fX19_join_i62 fu rr (fX19_join_h62 fu rr q') (sI f) (sI g) B L = _
      unfold fX19_join_i62
      simp only [mlet]
      rw [h2 _ _ (by omega), hF, if_pos (by rw [sI_le (by omega) (by omega)]; omega), sI_1]
    | succ r ih =>
      intro g q B hg hq h1 h2
      obtain ⟨q', rfl⟩ : ∃ y, q = y + 1 := ⟨q - 1, by omega⟩
      have hpl := posf_le (ev := ev) (g := g) (f := f)
      have ef := hev f hf
      have eg := hev g (by omega)
      have un : fX19_join_h62 fu rr (q' + 1) (sI f, sI g, B, L) = fX19_join_i62 fu rr (fX19_join_h62 fu rr q') (sI f) (sI g) B L := rfl
      rw [un]
      have fin : ∀ v, v = posf ev (g + 1) f → ∃ B', fX19_join_b137 fu rr (fX19_join_h62 fu rr q') (sI f) (sI g) (sI f) (sI v) B L = rr (sI (f + 1), B', L) ∧ B' 784 f = sI (posf ev F f) ∧ ∀ a y, ¬ (a = 784 ∧ y = f) → B' a y = B a y := by
        intro v hv
        unfold fX19_join_b137
        simp only [mlet]
        rw [mck_s (by omega) (by omega), sI_nn (by omega), sI_1]
        obtain ⟨B', k1, k2, k3⟩ := ih (g + 1) q' (mset B 784 f (sI v)) (by omega) (by omega) (by rw [mset_s, hv]) (fun a y w => by rw [mset_n (by omega)]; exact h2 a y w)
        exact ⟨B', k1, k2, fun a y w => by rw [k3 a y w, mset_n w]⟩
      have y1 : (ev g < ev f ∨ (ev g = ev f ∧ g < f)) → ∃ B', fX19_join_b105 fu rr (fX19_join_h62 fu rr q') (sI f) (sI g) B L = rr (sI (f + 1), B', L) ∧ B' 784 f = sI (posf ev F f) ∧ ∀ a y, ¬ (a = 784 ∧ y = f) → B' a y = B a y := fun w => by
        unfold fX19_join_b105 fX19_join_b110
        rw [if_neg (show ¬ (1 : Int32) = 0 by decide), mck_s (by omega) (by omega), sI_nn (by omega), h1, sI_1]
        exact fin _ (by rw [posf_s, if_pos w])
      have y0 : ¬ (ev g < ev f ∨ (ev g = ev f ∧ g < f)) → ∃ B', fX19_join_b109 fu rr (fX19_join_h62 fu rr q') (sI f) (sI g) B L = rr (sI (f + 1), B', L) ∧ B' 784 f = sI (posf ev F f) ∧ ∀ a y, ¬ (a = 784 ∧ y = f) → B' a y = B a y := fun w => by
        unfold fX19_join_b109 fX19_join_b110
        rw [if_pos (show (0 : Int32) = 0 from rfl), mck_s (by omega) (by omega), sI_nn (by omega), h1]
        exact fin _ (by rw [posf_s, if_neg w, Nat.add_zero])
      unfold fX19_join_i62
      rw [h2 732 67 (by omega), hF, if_neg (by rw [sI_le (by omega) (by omega)]; omega), mck_s (by omega) (by omega), mck_s (by omega) (by omega), mck_s (by omega) (by omega), mck_s (by omega) (by omega), sI_nn (by omega), sI_nn (by omega), h2 782 g (by omega), h2 782 f (by omega), ef.1, eg.1]
      by_cases c1 : ev g < ev f
      · rw [if_pos (by rw [sI_lt (by omega) (by omega)]; exact c1)]
        exact y1 (Or.inl c1)
      · rw [if_neg (by rw [sI_lt (by omega) (by omega)]; exact c1)]
        by_cases c2 : ev g = ev f
        · rw [if_pos (by rw [c2])]
          by_cases c3 : f ≤ g
          · rw [if_pos (by rw [sI_le (by omega) (by omega)]; exact c3)]
            exact y0 (by omega)
          · rw [if_neg (by rw [sI_le (by omega) (by omega)]; exact c3)]
            exact y1 (by omega)
        · rw [if_neg (by rw [sI_eq (by omega) (by omega)]; exact c2)]
          exact y0 (by omega)
  have outer : ∀ (r f q : Nat) (B : mwM), f + r = F → r < q → (∀ x, x < f → B 784 x = sI (posf ev F x)) → (∀ a y, a ≠ 784 → B a y = M a y) → ∃ M', fX19_join_h45 fu q (sI f, B, L) = some (1, M', L) ∧ (∀ f, f < F → M' 784 f = sI (posf ev F f)) ∧ ∀ a y, a ≠ 784 → M' a y = M a y := by
    intro r
    induction r with
    | zero =>
      intro f q B hf hq h1 h2
      obtain ⟨q', rfl⟩ : ∃ y, q = y + 1 := ⟨q - 1, by omega⟩
      refine ⟨B, ?_, fun x hx => h1 x (by omega), h2⟩
      show fX19_join_i45 fu (fX19_join_h45 fu q') (sI f) B L = _
      unfold fX19_join_i45
      rw [h2 _ _ (by omega), hF, if_pos (by rw [sI_le (by omega) (by omega)]; omega)]
    | succ r ih =>
      intro f q B hf hq h1 h2
      obtain ⟨q', rfl⟩ : ∃ y, q = y + 1 := ⟨q - 1, by omega⟩
      have un : fX19_join_h45 fu (q' + 1) (sI f, B, L) = fX19_join_i45 fu (fX19_join_h45 fu q') (sI f) B L := rfl
      rw [un]
      unfold fX19_join_i45
      simp only [mlet]
      rw [h2 732 67 (by omega), hF, if_neg (by rw [sI_le (by omega) (by omega)]; omega), mck_s (by omega) (by omega), sI_nn (by omega)]
      obtain ⟨B', k1, k2, k3⟩ := inner f (by omega) (fX19_join_h45 fu q') F 0 fu (mset B 784 f 0) (by omega) (by omega) (by rw [mset_s]; rfl) (fun a y w => by rw [mset_n (by omega)]; exact h2 a y w)
      have k1' : fX19_join_h62 fu (fX19_join_h45 fu q') fu (sI f, 0, mset B 784 f 0, L) = _ := k1
      rw [k1']
      refine ih (f + 1) q' B' (by omega) (by omega) (fun x hx => ?_) (fun a y w => by rw [k3 a y (by omega), mset_n (by omega)]; exact h2 a y w)
      by_cases e : x = f
      · rw [e]; exact k2
      · rw [k3 _ _ (by omega), mset_n (by omega)]
        exact h1 x (by omega)
  exact outer F 0 fu M (by omega) (by omega) (fun x hx => by omega) (fun _ _ _ => rfl)
/-- the soonest of all frames -/
def SoN (nx : Nat → Nat) (F m : Nat) : Prop := (∀ f, f < F → m ≤ nx f) ∧ m ≤ 1000000 ∧ (m = 1000000 ∨ ∃ f, f < F ∧ nx f = m)
theorem c_findSoonest {fu F : Nat} {A : mwM} {L : mwL} {nx : Nat → Nat} (hfu : 50 ≤ fu) (hF : A 61 11 = sI F) (h40 : F ≤ 40) (hnx : ∀ f, f < F → A 79 f = sI (nx f) ∧ nx f ≤ 1000000) : ∃ m, DX6_findSoonest fu A L = some (mset A 61 14 (sI m), L) ∧ SoN nx F m := by
  unfold DX6_findSoonest
  simp only [mlet]
  have key : ∀ (r f q m : Nat), f + r = F → r < q → SoN nx f m → ∃ m', fX6_findSoonest_h8 fu q (sI f, mset A 61 14 (sI m), L) = some (mset A 61 14 (sI m'), L) ∧ SoN nx F m' := by
    intro r
    induction r with
    | zero =>
      intro f q m hf hq h
      obtain ⟨q', rfl⟩ : ∃ y, q = y + 1 := ⟨q - 1, by omega⟩
      have ef : f = F := by omega
      subst ef
      refine ⟨m, ?_, h⟩
      show fX6_findSoonest_i8 fu (fX6_findSoonest_h8 fu q') (sI f) (mset A 61 14 (sI m)) L = _
      unfold fX6_findSoonest_i8
      rw [mset_n (by omega), hF, if_pos (by rw [sI_le (by omega) (by omega)]; omega)]
    | succ r ih =>
      intro f q m hf hq h
      obtain ⟨q', rfl⟩ : ∃ y, q = y + 1 := ⟨q - 1, by omega⟩
      obtain ⟨n1, n2⟩ := hnx f (by omega)
      obtain ⟨h1, h2, h3⟩ := h
      have un : fX6_findSoonest_h8 fu (q' + 1) (sI f, mset A 61 14 (sI m), L) = fX6_findSoonest_i8 fu (fX6_findSoonest_h8 fu q') (sI f) (mset A 61 14 (sI m)) L := rfl
      rw [un]
      unfold fX6_findSoonest_i8
      simp only [mlet]
      rw [mset_n (show ¬ (61 = 61 ∧ 11 = 14) by omega), hF, if_neg (by rw [sI_le (by omega) (by omega)]; omega), mck_s (by omega) (by omega), sI_nn (by omega), mset_n (show ¬ (79 = 61 ∧ f = 14) by omega), n1, mset_s, mset_ii, sI_1]
      by_cases c : nx f < m
      · rw [if_pos (by rw [sI_lt (by omega) (by omega)]; exact c)]
        refine ih (f + 1) q' (nx f) (by omega) (by omega) ⟨fun x hx => ?_, n2, Or.inr ⟨f, by omega, rfl⟩⟩
        by_cases e : x = f
        · rw [e]; exact Nat.le_refl _
        · have := h1 x (by omega); omega
      · rw [if_neg (by rw [sI_lt (by omega) (by omega)]; exact c)]
        refine ih (f + 1) q' m (by omega) (by omega) ⟨fun x hx => ?_, h2, ?_⟩
        · by_cases e : x = f
          · rw [e]; omega
          · exact h1 x (by omega)
        · rcases h3 with h3 | ⟨x, x1, x2⟩
          · exact Or.inl h3
          · exact Or.inr ⟨x, by omega, x2⟩
  exact key F 0 fu 1000000 (by omega) (by omega) ⟨fun f hf => by omega, by omega, Or.inl rfl⟩
/-! the octets of a signal's value -/
abbrev uL (v : Int64) : Nat := v.toUInt64.toNat
theorem cut64 (v : Int64) {b : Nat} (h1 : 1 ≤ b) (h2 : b < 64) : uL (v &&& ((1 <<< ((sI b).toInt64 &&& 63)) - 1)) = uL v % 2 ^ b := by
  have e : ∀ b, b < 64 → ((1 : Int64) <<< ((sI b).toInt64 &&& 63)) - 1 = Int64.ofNat (2 ^ b - 1) := by decide +kernel
  rw [e b h2]
  show (v.toBitVec &&& BitVec.ofNat 64 (2 ^ b - 1)).toNat = v.toBitVec.toNat % 2 ^ b
  have hb : 2 ^ b ≤ 2 ^ 63 := Nat.pow_le_pow_right (by omega) (by omega)
  rw [BitVec.toNat_and, BitVec.toNat_ofNat, Nat.mod_eq_of_lt (by omega), Nat.and_two_pow_sub_one_eq_mod]
theorem uL_lt (v : Int64) : uL v < 2 ^ 64 := v.toBitVec.isLt
theorem c_cutTo {fu b : Nat} {v : Int64} {M : mwM} {L : mwL} (h1 : 1 ≤ b) (h2 : b ≤ 64) : ∃ w, DX6_cutTo fu (sI b) v M L = some (w, M, L) ∧ uL w = uL v % 2 ^ b := by
  unfold DX6_cutTo fX6_cutTo_b17
  by_cases c : 64 ≤ b
  · refine ⟨v, by rw [if_pos (by rw [sI_lle (by decide) (by omega)]; exact c)], ?_⟩
    rw [show b = 64 from by omega, Nat.mod_eq_of_lt (uL_lt v)]
  · refine ⟨_, by rw [if_neg (by rw [sI_lle (by decide) (by omega)]; exact c)], cut64 v h1 (by omega)⟩
/-- octet q of a value of b bits -/
def vq (v : Int64) (b q : Nat) : Nat := uL v / 2 ^ (8 * q) % 2 ^ (if b - 8 * q < 8 then b - 8 * q else 8)
theorem vq_lt {v : Int64} {b q : Nat} : vq v b q < 256 := by
  unfold vq
  have h1 : uL v / 2 ^ (8 * q) % 2 ^ (if b - 8 * q < 8 then b - 8 * q else 8) < 2 ^ (if b - 8 * q < 8 then b - 8 * q else 8) := Nat.mod_lt _ (Nat.pow_pos (by omega))
  have h2 : 2 ^ (if b - 8 * q < 8 then b - 8 * q else 8) ≤ 2 ^ 8 := Nat.pow_le_pow_right (by omega) (by split <;> omega)
  omega
theorem vq_e {V b q : Nat} : V % 2 ^ b / 2 ^ (8 * q) % 256 = V / 2 ^ (8 * q) % 2 ^ (if b - 8 * q < 8 then b - 8 * q else 8) := by
  apply Nat.eq_of_testBit_eq
  intro i
  rw [show (256 : Nat) = 2 ^ 8 by decide, Nat.testBit_mod_two_pow, Nat.testBit_mod_two_pow, Nat.testBit_div_two_pow, Nat.testBit_div_two_pow, Nat.testBit_mod_two_pow]
  by_cases h1 : i < 8
  · by_cases h2 : i + 8 * q < b
    · rw [decide_eq_true h1, decide_eq_true h2, decide_eq_true (by split <;> omega)]
      rfl
    · rw [decide_eq_true h1, decide_eq_false h2, decide_eq_false (by split <;> omega)]
      rfl
  · have h3 : ¬ i < (if b - 8 * q < 8 then b - 8 * q else 8) := by split <;> omega
    rw [decide_eq_false h1, decide_eq_false h3, Bool.false_and, Bool.false_and]
theorem bit64 (v : Int64) {k : Nat} (h : k < 64) : (lg_cmp ((v >>> ((sI k).toInt64 &&& 63)) &&& 1) 1 = 0) ↔ uL v / 2 ^ k % 2 = 1 := by
  have h1 : (v >>> ((sI k).toInt64 &&& 63)).toBitVec = v.toBitVec.sshiftRight k := by
    have h0 : ∀ s, s < 64 → (sI s).toInt64 &&& 63 = sL s := by decide +kernel
    rw [h0 k h, Int64.toBitVec_shiftRight]
    have h5 : ∀ s, s < 64 → ((sL s).toBitVec.smod 64) = BitVec.ofNat 64 s := by decide +kernel
    rw [h5 k h, BitVec.sshiftRight_eq', BitVec.toNat_ofNat, Nat.mod_eq_of_lt (by omega)]
  have h2 : (((v >>> ((sI k).toInt64 &&& 63)) &&& 1) = 1) ↔ uL v / 2 ^ k % 2 = 1 := by
    have e1 : (((v >>> ((sI k).toInt64 &&& 63)) &&& 1).toBitVec).toNat = (v.toBitVec.sshiftRight k).toNat % 2 := by
      show ((v >>> ((sI k).toInt64 &&& 63)).toBitVec &&& (1 : Int64).toBitVec).toNat = _
      rw [h1, BitVec.toNat_and, show (1 : Int64).toBitVec.toNat = 2 ^ 1 - 1 by decide, Nat.and_two_pow_sub_one_eq_mod]
    have e2 : (v.toBitVec.sshiftRight k).toNat % 2 = uL v / 2 ^ k % 2 := by
      show _ = v.toBitVec.toNat / 2 ^ k % 2
      have t1 : (v.toBitVec.sshiftRight k).toNat.testBit 0 = v.toBitVec.toNat.testBit k := by
        have h7 : (v.toBitVec.sshiftRight k).toNat.testBit 0 = (v.toBitVec.sshiftRight k).getLsbD 0 := rfl
        rw [h7, BitVec.getLsbD_sshiftRight, if_pos (show k + 0 < 64 by omega), decide_eq_false (show ¬ 64 ≤ 0 by omega)]
        have h8 : v.toBitVec.toNat.testBit k = v.toBitVec.getLsbD k := rfl
        first | rw [h8] | skip
        simp
      have t2 : (v.toBitVec.toNat / 2 ^ k).testBit 0 = v.toBitVec.toNat.testBit k := by rw [Nat.testBit_div_two_pow, Nat.zero_add]
      rw [← t2, Nat.testBit_zero, Nat.testBit_zero] at t1
      have := decide_eq_decide.mp t1
      omega
    constructor
    · intro w
      rw [w] at e1
      rw [← e2, ← e1]
      rfl
    · intro w
      apply Int64.toBitVec_inj.mp
      apply BitVec.eq_of_toNat_eq
      rw [e1, e2, w]
      rfl
  rw [← h2]
  exact lg_cmp_eq _ _
/-- low r bits of x, the others of o -/
def mx (x o r : Nat) : Nat := x % 2 ^ r + 2 ^ r * (o / 2 ^ r)
def stp (h r : Nat) (t : Bool) : Nat := h - h / 2 ^ r % 2 * 2 ^ r + (if t = true then 2 ^ r else 0)
theorem r8 {r : Nat} (h : r < 8) : r = 0 ∨ r = 1 ∨ r = 2 ∨ r = 3 ∨ r = 4 ∨ r = 5 ∨ r = 6 ∨ r = 7 := by omega
theorem mx_st {x o r : Nat} {t : Bool} (hr : r < 8) (ho : o < 256) (ht : (x / 2 ^ r % 2 = 1) = (t = true)) : stp (mx x o r) r t = mx x o (r + 1) := by
  unfold stp mx
  have hx : x / 2 ^ r % 2 = if t = true then 1 else 0 := by
    cases t
    · rw [if_neg (by decide)]
      have : ¬ x / 2 ^ r % 2 = 1 := by rw [ht]; decide
      omega
    · rw [if_pos rfl, ht]
  rcases r8 hr with e | e | e | e | e | e | e | e <;> subst e <;> cases t <;> simp only [Nat.reducePow, Nat.reduceAdd] at hx ⊢ <;> simp at hx ⊢ <;> omega
theorem mx_0 {x o : Nat} : mx x o 0 = o := by unfold mx; rw [Nat.pow_zero, Nat.mod_one, Nat.div_one]; omega
theorem mx_w {x o r : Nat} (h : o < 2 ^ r) : mx x o r = x % 2 ^ r := by unfold mx; rw [Nat.div_eq_of_lt h]; omega
theorem mx_lt {x o r : Nat} (hr : r ≤ 8) (ho : o < 256) : mx x o r < 256 := by
  unfold mx
  have : r = 0 ∨ r = 1 ∨ r = 2 ∨ r = 3 ∨ r = 4 ∨ r = 5 ∨ r = 6 ∨ r = 7 ∨ r = 8 := by omega
  rcases this with e | e | e | e | e | e | e | e | e <;> subst e <;> simp only [Nat.reducePow] <;> omega
theorem st_1 : ∀ r, r < 8 → ∀ h, h < 256 → sI h ||| ((1 : Int32) <<< (sI r &&& 31)) = sI (stp h r true) := by decide +kernel
theorem st_0 : ∀ r, r < 8 → ∀ h, h < 256 → sI h &&& (((1 : Int32) <<< (sI r &&& 31)) ^^^ (-1)) = sI (stp h r false) := by decide +kernel
/-! the reference puts a value into a frame -/
def pqf (t : Bool) (n q : Nat) : Nat := if t = true then n - 1 - q else q
theorem pqf_lt {t : Bool} {n q : Nat} (h : q < n) : pqf t n q < n := by unfold pqf; split <;> omega
theorem pqf_in {t : Bool} {n q r : Nat} (h : q < n) (h' : r < n) (e : pqf t n q = pqf t n r) : q = r := by
  unfold pqf at e
  split at e <;> omega
theorem pqf_sur {t : Bool} {n y : Nat} (h : y < n) : ∃ q, q < n ∧ pqf t n q = y := by
  cases t
  · exact ⟨y, h, by unfold pqf; rw [if_neg (by decide)]⟩
  · exact ⟨n - 1 - y, by omega, by unfold pqf; rw [if_pos rfl]; omega⟩
abbrev PuM (M : mwM) (k l n b : Nat) (t : Bool) (i e o : Nat) : Prop := M k 2 = sI n ∧ n ≤ 40 ∧ 1 ≤ l ∧ l ≤ n ∧ M k 15 = 1 ∧ M (k + 1) l = sI b ∧ 1 ≤ b ∧ b ≤ 64 ∧ M (k + 3) l = bI t ∧ M (k + 4) l = -1 ∧ M (k + 5) l = sI l ∧ M (k + 12) (129 + l) = sI i ∧ 1 ≤ i ∧ i ≤ 40 ∧ M (k + 13) (129 + l) = sI (8 * o) ∧ M (k + 14) i = sI e ∧ e ≤ 320 ∧ o + (b + 7) / 8 ≤ 8
theorem PuM_f {M M' : mwM} {k l n b i e o : Nat} {t : Bool} (h : PuM M k l n b t i e o) (hf : ∀ a y, (a = k ∧ (y = 2 ∨ y = 15)) ∨ (k + 1 ≤ a ∧ a ≤ k + 5) ∨ (k + 12 ≤ a ∧ a ≤ k + 14) → M' a y = M a y) : PuM M' k l n b t i e o := by
  obtain ⟨h1, h2, h3, h4, h5, h6, h7, h8, h9, h10, h11, h12, h13, h14, h15, h16, h17, h18⟩ := h
  exact ⟨by rw [hf _ _ (by omega)]; exact h1, h2, h3, h4, by rw [hf _ _ (by omega)]; exact h5, by rw [hf _ _ (by omega)]; exact h6, h7, h8, by rw [hf _ _ (by omega)]; exact h9, by rw [hf _ _ (by omega)]; exact h10, by rw [hf _ _ (by omega)]; exact h11, by rw [hf _ _ (by omega)]; exact h12, h13, h14, by rw [hf _ _ (by omega)]; exact h15, by rw [hf _ _ (by omega)]; exact h16, h17, h18⟩
theorem m_where {fu k l n b i e o j : Nat} {t : Bool} {M : mwM} {L : mwL} (h : PuM M k l n b t i e o) (hj : j < b) : DX16_where fu k (sI l) (sI j) M L = some (sI (8 * (e + o + pqf t ((b + 7) / 8) (j / 8)) + j % 8), M, L) := by
  obtain ⟨h1, h2, h3, h4, h5, h6, h7, h8, h9, h10, h11, h12, h13, h14, h15, h16, h17, h18⟩ := h
  unfold DX16_where fX16_where_b80
  simp only [mlet]
  rw [h5, s129, mck_s (by omega) (by omega), sI_nn (show 129 + l < 2000000000 by omega), h12, mck_s (by omega) (by omega), mck_s (by omega) (by omega), sI_nn (show i < 2000000000 by omega), h16, h15, sI_lml, sI_add, mck_s (by omega) (by omega), sI_nn (show l < 2000000000 by omega), h9]
  cases t with
  | false =>
    rw [bI_f, if_pos (show (0 : Int32) = 0 from rfl), sI_add]
    unfold pqf
    rw [if_neg (by decide)]
    congr 3
    omega
  | true =>
    rw [bI_t, if_neg (show ¬ (1 : Int32) = 0 by decide)]
    have e8 : (sI b + 7) / 8 = sI ((b + 7) / 8) := by
      rw [sI_adl]
      exact sI_div (b := 8) (by omega) (by omega)
    have ej : sI j / 8 = sI (j / 8) := sI_div (b := 8) (by omega) (by omega)
    have em : sI j - sI j / 8 * 8 = sI (j % 8) := sI_mod (b := 8) (by omega) (by omega)
    unfold DX16_octetsOf
    rw [mck_s (by omega) (by omega), mb3_s, sI_nn (show l < 2000000000 by omega), h6, e8, em, ej, sI_dec (by omega), sI_lml, sI_lml, sI_add, sI_sub (by omega), sI_add]
    unfold pqf
    rw [if_pos rfl]
    congr 3
    omega
/-- how many bits of octet q stand once j bits are put -/
def rrj (j q : Nat) : Nat := if j ≤ 8 * q then 0 else if 8 * q + 8 ≤ j then 8 else j - 8 * q
theorem xb {V j : Nat} : (V / 2 ^ (8 * (j / 8)) % 256) / 2 ^ (j % 8) % 2 = V / 2 ^ j % 2 := by
  have e : V / 2 ^ j = V / 2 ^ (8 * (j / 8)) / 2 ^ (j % 8) := by
    rw [Nat.div_div_eq_div_mul, ← Nat.pow_add, show 8 * (j / 8) + j % 8 = j from by omega]
  rw [e]
  generalize V / 2 ^ (8 * (j / 8)) = W
  have hr : j % 8 < 8 := Nat.mod_lt _ (by omega)
  generalize j % 8 = r at hr
  rcases r8 hr with e | e | e | e | e | e | e | e <;> subst e <;> simp only [Nat.reducePow] <;> omega
theorem m_writeP {fu k l n b i e o : Nat} {t : Bool} {v : Int64} {M : mwM} {L : mwL} {od : Nat → Nat} (hfu : 100 ≤ fu) (h : PuM M k l n b t i e o) (hod : ∀ q, q < (b + 7) / 8 → M (k + 15) (e + o + pqf t ((b + 7) / 8) q) = sI (od q) ∧ od q < 2 ^ (if b - 8 * q < 8 then b - 8 * q else 8)) : ∃ M', DX16_write fu k (sI l) v M L = some (M', L) ∧ (∀ q, q < (b + 7) / 8 → M' (k + 15) (e + o + pqf t ((b + 7) / 8) q) = sI (vq v b q)) ∧ ∀ a y, ¬ (a = k + 15 ∧ e + o ≤ y ∧ y < e + o + (b + 7) / 8) → M' a y = M a y := by
  have hb1 := h.2.2.2.2.2.2.1
  have hb2 := h.2.2.2.2.2.2.2.1
  have he : e ≤ 320 := h.2.2.2.2.2.2.2.2.2.2.2.2.2.2.2.2.1
  have ho : o + (b + 7) / 8 ≤ 8 := h.2.2.2.2.2.2.2.2.2.2.2.2.2.2.2.2.2
  have hl : l ≤ 40 := by have := h.2.1; have := h.2.2.2.1; omega
  have od8 : ∀ q, q < (b + 7) / 8 → od q < 256 := fun q hq => by
    have h1 := (hod q hq).2
    have h2 : 2 ^ (if b - 8 * q < 8 then b - 8 * q else 8) ≤ 2 ^ 8 := Nat.pow_le_pow_right (by omega) (by split <;> omega)
    omega
  unfold DX16_write
  have key : ∀ (r j w : Nat) (B : mwM), j + r = b → r < w → (∀ q, q < (b + 7) / 8 → B (k + 15) (e + o + pqf t ((b + 7) / 8) q) = sI (mx (uL v / 2 ^ (8 * q) % 256) (od q) (rrj j q))) → (∀ a y, ¬ (a = k + 15 ∧ e + o ≤ y ∧ y < e + o + (b + 7) / 8) → B a y = M a y) → ∃ M', fX16_write_h3 fu k (sI l) v w (sI j, B, L) = some (M', L) ∧ (∀ q, q < (b + 7) / 8 → M' (k + 15) (e + o + pqf t ((b + 7) / 8) q) = sI (vq v b q)) ∧ ∀ a y, ¬ (a = k + 15 ∧ e + o ≤ y ∧ y < e + o + (b + 7) / 8) → M' a y = M a y := by
    intro r
    induction r with
    | zero =>
      intro j w B hj hw h1 h2
      obtain ⟨w', rfl⟩ : ∃ y, w = y + 1 := ⟨w - 1, by omega⟩
      have ej : j = b := by omega
      subst ej
      refine ⟨B, ?_, fun q hq => ?_, h2⟩
      · show fX16_write_i3 fu k (sI l) v (fX16_write_h3 fu k (sI l) v w') (sI j) B L = _
        unfold fX16_write_i3
        rw [mck_s (by omega) (by omega), sI_nn (by omega), h2 _ _ (by omega), h.2.2.2.2.2.1, if_pos (by rw [sI_le (by omega) (by omega)]; omega)]
      · rw [h1 q hq]
        have er : rrj j q = if j - 8 * q < 8 then j - 8 * q else 8 := by unfold rrj; split <;> split <;> (try split) <;> omega
        rw [er, mx_w (hod q hq).2]
        unfold vq
        rw [Nat.mod_mod_of_dvd _ (show 2 ^ (if j - 8 * q < 8 then j - 8 * q else 8) ∣ 256 from ⟨2 ^ (8 - (if j - 8 * q < 8 then j - 8 * q else 8)), by rw [← Nat.pow_add, show (if j - 8 * q < 8 then j - 8 * q else 8) + (8 - (if j - 8 * q < 8 then j - 8 * q else 8)) = 8 from by split <;> omega]⟩)]
    | succ r ih =>
      intro j w B hj hw h1 h2
      obtain ⟨w', rfl⟩ : ∃ y, w = y + 1 := ⟨w - 1, by omega⟩
      have un : fX16_write_h3 fu k (sI l) v (w' + 1) (sI j, B, L) = fX16_write_i3 fu k (sI l) v (fX16_write_h3 fu k (sI l) v w') (sI j) B L := rfl
      rw [un]
      have hB : PuM B k l n b t i e o := PuM_f h (fun a y w => h2 a y (by omega))
      have hq0 : j / 8 < (b + 7) / 8 := by omega
      have hpq := pqf_lt (t := t) hq0
      have hr : j % 8 < 8 := Nat.mod_lt _ (by omega)
      have d8 : sI (8 * (e + o + pqf t ((b + 7) / 8) (j / 8)) + j % 8) / 8 = sI (e + o + pqf t ((b + 7) / 8) (j / 8)) := by
        have := sI_div (a := 8 * (e + o + pqf t ((b + 7) / 8) (j / 8)) + j % 8) (b := 8) (by omega) (by omega)
        rw [show (8 * (e + o + pqf t ((b + 7) / 8) (j / 8)) + j % 8) / 8 = e + o + pqf t ((b + 7) / 8) (j / 8) from by omega] at this
        exact this
      have m8 : sI (8 * (e + o + pqf t ((b + 7) / 8) (j / 8)) + j % 8) &&& 7 = sI (j % 8) := by
        rw [sI_a7, show (8 * (e + o + pqf t ((b + 7) / 8) (j / 8)) + j % 8) % 8 = j % 8 from by omega]
      have hv := h1 (j / 8) hq0
      have er : rrj j (j / 8) = j % 8 := by unfold rrj; split <;> (try split) <;> omega
      rw [er] at hv
      have er1 : rrj (j + 1) (j / 8) = j % 8 + 1 := by unfold rrj; split <;> (try split) <;> omega
      have hm := mx_lt (x := uL v / 2 ^ (8 * (j / 8)) % 256) (r := j % 8) (by omega) (od8 _ hq0)
      unfold fX16_write_i3 fX16_write_b83
      simp only [mlet]
      rw [mck_s (by omega) (by omega), sI_nn (show l < 2000000000 by omega), hB.2.2.2.2.2.1, if_neg (by rw [sI_le (by omega) (by omega)]; omega), m_where hB (by omega), mb3_s, d8, m8, mck_s (by omega) (by omega), mck_s (by omega) (by omega), mck_s (by omega) (by omega), mck_s (by omega) (by omega), sI_nn (by omega), hv, sI_1]
      have nxt : ∀ tb : Bool, (uL v / 2 ^ (8 * (j / 8)) % 256 / 2 ^ (j % 8) % 2 = 1) = (tb = true) → ∃ M', fX16_write_h3 fu k (sI l) v w' (sI (j + 1), mset B (k + 15) (e + o + pqf t ((b + 7) / 8) (j / 8)) (sI (stp (mx (uL v / 2 ^ (8 * (j / 8)) % 256) (od (j / 8)) (j % 8)) (j % 8) tb)), L) = some (M', L) ∧ (∀ q, q < (b + 7) / 8 → M' (k + 15) (e + o + pqf t ((b + 7) / 8) q) = sI (vq v b q)) ∧ ∀ a y, ¬ (a = k + 15 ∧ e + o ≤ y ∧ y < e + o + (b + 7) / 8) → M' a y = M a y := by
        intro tb htb
        rw [mx_st hr (od8 _ hq0) htb]
        refine ih (j + 1) w' _ (by omega) (by omega) (fun q hq => ?_) (fun a y w => by rw [mset_n (by omega)]; exact h2 a y w)
        by_cases eq : q = j / 8
        · subst eq
          rw [mset_s, er1]
        · have ne : pqf t ((b + 7) / 8) q ≠ pqf t ((b + 7) / 8) (j / 8) := fun w => eq (pqf_in hq hq0 w)
          rw [mset_n (by omega), h1 q hq]
          have : rrj (j + 1) q = rrj j q := by unfold rrj; split <;> split <;> (try split) <;> (try split) <;> omega
          rw [this]
      by_cases c : uL v / 2 ^ j % 2 = 1
      · rw [if_pos ((bit64 v (by omega)).mpr c), st_1 _ hr _ hm]
        exact nxt true (by rw [xb, c]; simp)
      · rw [if_neg (fun w => c ((bit64 v (by omega)).mp w)), st_0 _ hr _ hm]
        exact nxt false (by rw [xb]; simp [c])
  refine key b 0 fu M (by omega) (by omega) (fun q hq => ?_) (fun _ _ _ => rfl)
  rw [(hod q hq).1]
  have : rrj 0 q = 0 := by unfold rrj; rw [if_pos (by omega)]
  rw [this, mx_0]
theorem m_putP {fu k l n b i e o : Nat} {t : Bool} {v : Int64} {M : mwM} {L : mwL} {od : Nat → Nat} (hfu : 100 ≤ fu) (h : PuM M k l n b t i e o) (hod : ∀ q, q < (b + 7) / 8 → M (k + 15) (e + o + pqf t ((b + 7) / 8) q) = sI (od q) ∧ od q < 2 ^ (if b - 8 * q < 8 then b - 8 * q else 8)) : ∃ M', DX16_put fu k (sI l) v M L = some (M', L) ∧ (∀ q, q < (b + 7) / 8 → M' (k + 15) (e + o + pqf t ((b + 7) / 8) q) = sI (vq v b q)) ∧ ∀ a y, ¬ (a = k ∧ y = 0) → ¬ (a = k + 15 ∧ e + o ≤ y ∧ y < e + o + (b + 7) / 8) → M' a y = M a y := by
  have hB : PuM (mset M k 0 0) k l n b t i e o := PuM_f h (fun a y w => by rw [mset_n (by omega)])
  obtain ⟨M', k1, k2, k3⟩ := m_writeP (fu := fu) (v := v) (L := L) hfu hB (od := od) (fun q hq => by rw [mset_n (by omega)]; exact hod q hq)
  obtain ⟨h1, h2, h3, h4, h5, h6, h7, h8, h9, h10, h11, h12, h13, h14, h15, h16, h17, h18⟩ := hB
  refine ⟨M', ?_, k2, fun a y w1 w2 => by rw [k3 a y w2, mset_n w1]⟩
  unfold DX16_put fX16_put_b58
  rw [mlet_e, m_isNowhere h1 h5 h2 h3 h4 h12 h13 (by omega), mb3_s, if_pos (show (0 : Int32) = 0 from rfl), mck_s (by omega) (by omega), sI_nn (by omega), h11, mck_s (by omega) (by omega), mlet_e, mck_s (by omega) (by omega), h10, if_pos (show (-1 : Int32) < 0 by decide), k1, mb2_s]
/-! the class fills a frame -/
theorem c_placeOf {fu s o b q : Nat} {t : Bool} {A : mwM} {L : mwL} (hs : s < 40) (h67 : A 67 s = bI t) (h72 : A 72 s = sI o) (h63 : A 63 s = sI b) (hb : b ≤ 64) (hq : q < (b + 7) / 8) : DX6_placeOf fu (sI s) (sI q) A L = some (sI (o + pqf t ((b + 7) / 8) q), A, L) := by
  unfold DX6_placeOf fX6_placeOf_b34
  rw [mck_s hs (by omega), mck_s hs (by omega), sI_nn (by omega), h67, h72]
  cases t with
  | false =>
    rw [bI_f, if_neg (show ¬ (0 : Int32) = 1 by decide), sI_add]
    unfold pqf
    rw [if_neg (by decide)]
  | true =>
    rw [bI_t, if_pos (show (1 : Int32) = 1 from rfl), c_octetsOf hs h63 hb, mb3_s, sI_dec (by omega), sI_sub (by omega), sI_add]
    unfold pqf
    rw [if_pos rfl]
abbrev FiC (A : mwM) (S : Nat) (bt fs os ct dt : Nat → Nat) (tu : Nat → Bool) : Prop := A 61 10 = sI S ∧ S ≤ 40 ∧ ∀ s, s < S → A 63 s = sI (bt s) ∧ 1 ≤ bt s ∧ bt s ≤ 64 ∧ A 67 s = bI (tu s) ∧ A 71 s = sI (fs s) ∧ fs s < 40 ∧ A 72 s = sI (os s) ∧ os s + ocs bt s ≤ 8 ∧ A 64 s = sI (ct s) ∧ ct s < 12 ∧ A 65 s = sI (dt s) ∧ dt s < 32
theorem FiC_f {A A' : mwM} {S : Nat} {bt fs os ct dt : Nat → Nat} {tu : Nat → Bool} (h : FiC A S bt fs os ct dt tu) (hf : ∀ a y, (a = 61 ∧ y = 10) ∨ (63 ≤ a ∧ a ≤ 67) ∨ a = 71 ∨ a = 72 → A' a y = A a y) : FiC A' S bt fs os ct dt tu := by
  obtain ⟨h1, h2, h3⟩ := h
  refine ⟨by rw [hf _ _ (by omega)]; exact h1, h2, fun s hs => ?_⟩
  obtain ⟨a1, a2, a3, a4, a5, a6, a7, a8, a9, a10, a11, a12⟩ := h3 s hs
  exact ⟨by rw [hf _ _ (by omega)]; exact a1, a2, a3, by rw [hf _ _ (by omega)]; exact a4, by rw [hf _ _ (by omega)]; exact a5, a6, by rw [hf _ _ (by omega)]; exact a7, a8, by rw [hf _ _ (by omega)]; exact a9, a10, by rw [hf _ _ (by omega)]; exact a11, a12⟩
/-- what stands apart in a frame -/
abbrev FiD (S : Nat) (bt fs os : Nat → Nat) : Prop := ∀ s t, s < S → t < S → s ≠ t → fs s = fs t → os s + ocs bt s ≤ os t ∨ os t + ocs bt t ≤ os s
theorem c_fillS {fu f S s : Nat} {bt fs os ct dt : Nat → Nat} {tu : Nat → Bool} {v w : Int64} {L : mwL} (hfu : 100 ≤ fu) (hs : s < S) (hw : uL w = uL v % 2 ^ bt s) (rr : (Int32 × mwM × mwL) → Option (mwM × mwL)) : ∀ (r q p : Nat) (A : mwM), q + r = ocs bt s → r < p → FiC A S bt fs os ct dt tu → (∀ x, x < q → A 95 (os s + pqf (tu s) (ocs bt s) x) = sI (vq v (bt s) x)) → ∃ A', fX6_fill_h98 fu (sI f) rr p (sI s, w, sI q, A, L) = rr (sI (s + 1), A', L) ∧ (∀ x, x < ocs bt s → A' 95 (os s + pqf (tu s) (ocs bt s) x) = sI (vq v (bt s) x)) ∧ ∀ a y, ¬ (a = 95 ∧ os s ≤ y ∧ y < os s + ocs bt s) → A' a y = A a y := by
  intro r
  induction r with
  | zero =>
    intro q p A hq hp hF hd
    obtain ⟨p', rfl⟩ : ∃ y, p = y + 1 := ⟨p - 1, by omega⟩
    obtain ⟨h1, h2, h3⟩ := hF
    obtain ⟨a1, a2, a3, a4, a5, a6, a7, a8, a9, a10, a11, a12⟩ := h3 s hs
    refine ⟨A, ?_, fun x hx => hd x (by omega), fun _ _ _ => rfl⟩
    show fX6_fill_i98 fu (sI f) rr (fX6_fill_h98 fu (sI f) rr p') (sI s) w (sI q) A L = _
    unfold fX6_fill_i98 fX6_fill_b139
    simp only [mlet]
    have : q = (bt s + 7) / 8 := by have e : ocs bt s = (bt s + 7) / 8 := rfl; omega
    rw [c_octetsOf (by omega) a1 a3, mb3_s, if_pos (by rw [sI_le (by omega) (by omega)]; omega), sI_1]
  | succ r ih =>
    intro q p A hq hp hF hd
    obtain ⟨p', rfl⟩ : ∃ y, p = y + 1 := ⟨p - 1, by omega⟩
    obtain ⟨h1, h2, h3⟩ := id hF
    obtain ⟨a1, a2, a3, a4, a5, a6, a7, a8, a9, a10, a11, a12⟩ := h3 s hs
    have eo : ocs bt s = (bt s + 7) / 8 := rfl
    rw [eo] at a8 hq
    have hpq := pqf_lt (t := tu s) (show q < (bt s + 7) / 8 by omega)
    have un : fX6_fill_h98 fu (sI f) rr (p' + 1) (sI s, w, sI q, A, L) = fX6_fill_i98 fu (sI f) rr (fX6_fill_h98 fu (sI f) rr p') (sI s) w (sI q) A L := rfl
    have ev : (((w.toUInt64 >>> ((8 * sI q).toInt64.toUInt64 &&& Int64.toUInt64 63)).toInt64).toInt32) &&& 255 = sI (vq v (bt s) q) := by
      rw [sI_lml, ush64 w (8 * q) (by omega)]
      have e2 : w.toUInt64.toNat = uL v % 2 ^ bt s := hw
      rw [e2, vq_e]
      rfl
    obtain ⟨A', k1, k2, k3⟩ := ih (q + 1) p' (mset A 95 (os s + pqf (tu s) ((bt s + 7) / 8) q) (sI (vq v (bt s) q))) (by rw [eo]; omega) (by omega) (FiC_f hF (fun a y u => by rw [mset_n (by omega)])) (fun x hx => by
      rw [eo]
      by_cases e : x = q
      · rw [e, mset_s]
      · have ne : pqf (tu s) ((bt s + 7) / 8) x ≠ pqf (tu s) ((bt s + 7) / 8) q := fun u => e (pqf_in (by omega) (by omega) u)
        rw [mset_n (by omega)]
        exact hd x (by omega))
    refine ⟨A', ?_, k2, fun a y u => by rw [k3 a y u, mset_n (by rw [eo] at u; omega)]⟩
    rw [un]
    unfold fX6_fill_i98
    simp only [mlet]
    rw [c_octetsOf (by omega) a1 a3, mb3_s, if_neg (by rw [sI_le (by omega) (by omega)]; omega), c_placeOf (by omega) a4 a7 a1 a3 (by omega), mb3_s, mck_s (by omega) (by omega), sI_nn (by omega), ev, sI_1]
    exact k1
theorem c_fill {fu f S : Nat} {bt fs os ct dt : Nat → Nat} {tu : Nat → Bool} {V : Nat → Int64} {A : mwM} {L : mwL} (hfu : 100 ≤ fu) (hf : f < 40) (hF : FiC A S bt fs os ct dt tu) (hD : FiD S bt fs os) (hV : ∀ s, s < S → L (293 + 36 * ct s + 34) (dt s) = V s) : ∃ A', DX6_fill fu (sI f) A L = some (A', L) ∧ A' 77 f = A 77 f + 1 ∧ (∀ s, s < S → fs s = f → ∀ q, q < ocs bt s → A' 95 (os s + pqf (tu s) (ocs bt s) q) = sI (vq (V s) (bt s) q)) ∧ (∀ y, y < 8 → (∀ s, s < S → fs s = f → ¬ (os s ≤ y ∧ y < os s + ocs bt s)) → A' 95 y = 0) ∧ ∀ a y, ¬ (a = 77 ∧ y = f) → ¬ (a = 95 ∧ y < 8) → A' a y = A a y := by
  have hS40 := hF.2.1
  -- the signals
  have key : ∀ (r s p : Nat) (B : mwM), s + r = S → r < p → FiC B S bt fs os ct dt tu → (∀ t, t < s → fs t = f → ∀ q, q < ocs bt t → B 95 (os t + pqf (tu t) (ocs bt t) q) = sI (vq (V t) (bt t) q)) → (∀ y, y < 8 → (∀ t, t < s → fs t = f → ¬ (os t ≤ y ∧ y < os t + ocs bt t)) → B 95 y = 0) → ∃ A', fX6_fill_h38 fu (sI f) p (sI s, B, L) = some (A', L) ∧ (∀ s, s < S → fs s = f → ∀ q, q < ocs bt s → A' 95 (os s + pqf (tu s) (ocs bt s) q) = sI (vq (V s) (bt s) q)) ∧ (∀ y, y < 8 → (∀ s, s < S → fs s = f → ¬ (os s ≤ y ∧ y < os s + ocs bt s)) → A' 95 y = 0) ∧ ∀ a y, ¬ (a = 95 ∧ y < 8) → A' a y = B a y := by
    intro r
    induction r with
    | zero =>
      intro s p B hs hp hB h1 h2
      obtain ⟨p', rfl⟩ : ∃ y, p = y + 1 := ⟨p - 1, by omega⟩
      have es : s = S := by omega
      subst es
      refine ⟨B, ?_, h1, h2, fun _ _ _ => rfl⟩
      show fX6_fill_i38 fu (sI f) (fX6_fill_h38 fu (sI f) p') (sI s) B L = _
      unfold fX6_fill_i38
      rw [hB.1, if_pos (by rw [sI_le (by omega) (by omega)]; omega)]
    | succ r ih =>
      intro s p B hs hp hB h1 h2
      obtain ⟨p', rfl⟩ : ∃ y, p = y + 1 := ⟨p - 1, by omega⟩
      obtain ⟨a1, a2, a3, a4, a5, a6, a7, a8, a9, a10, a11, a12⟩ := hB.2.2 s (by omega)
      have un : fX6_fill_h38 fu (sI f) (p' + 1) (sI s, B, L) = fX6_fill_i38 fu (sI f) (fX6_fill_h38 fu (sI f) p') (sI s) B L := rfl
      rw [un]
      unfold fX6_fill_i38
      rw [hB.1, if_neg (by rw [sI_le (by omega) (by omega)]; omega), mck_s (by omega) (by omega), sI_nn (show s < 2000000000 by omega), a5]
      by_cases e : fs s = f
      · rw [if_pos (by rw [e]), mck_s (by omega) (by omega), mck_s (by omega) (by omega), a9, mck_s (by omega) (by omega), mck_s (by omega) (by omega), a11, mck_s (by omega) (by omega), sI_nn (by omega), sI_nn (by omega), a1, hV s (by omega)]
        obtain ⟨w, w1, w2⟩ := c_cutTo (fu := fu) (v := V s) (M := B) (L := L) a2 a3
        rw [w1, mb3_s]
        obtain ⟨C, c1, c2, c3⟩ := c_fillS (fu := fu) (f := f) (L := L) hfu (show s < S by omega) w2 (fX6_fill_h38 fu (sI f) p') (ocs bt s) 0 fu B (by omega) (by have e2 : ocs bt s = (bt s + 7) / 8 := rfl; omega) hB (fun x hx => by omega)
        have c1' : fX6_fill_h98 fu (sI f) (fX6_fill_h38 fu (sI f) p') fu (sI s, w, 0, B, L) = _ := c1
        rw [c1']
        obtain ⟨A', k1, k2, k3, k4⟩ := ih (s + 1) p' C (by omega) (by omega) (FiC_f hB (fun a y u => c3 a y (by omega))) (fun t ht ft q hq => by
          by_cases et : t = s
          · subst et
            exact c2 q hq
          · have hpq := pqf_lt (t := tu t) hq
            have := hD s t (by omega) (by omega) (fun u => et u.symm) (by rw [e, ft])
            rw [c3 _ _ (by omega)]
            exact h1 t (by omega) ft q hq) (fun y hy hn => by
          have := hn s (by omega) e
          rw [c3 _ _ (by omega)]
          exact h2 y hy (fun t ht => hn t (by omega)))
        refine ⟨A', k1, k2, k3, fun a y u => by rw [k4 a y u, c3 a y (by omega)]⟩
      · rw [if_neg (by rw [sI_eq (by omega) (by omega)]; exact e)]
        unfold fX6_fill_b139
        simp only [mlet]
        rw [sI_1]
        exact ih (s + 1) p' B (by omega) (by omega) hB (fun t ht ft => by
          by_cases et : t = s
          · rw [et] at ft; exact absurd ft e
          · exact h1 t (by omega) ft) (fun y hy hn => h2 y hy (fun t ht => hn t (by omega)))
  -- the empty row
  have zero : ∀ (r x p : Nat) (B : mwM), x + r = 8 → r < p → FiC B S bt fs os ct dt tu → (∀ y, y < x → B 95 y = 0) → ∃ A', fX6_fill_h14 fu (sI f) p (sI x, B, L) = some (A', L) ∧ (∀ s, s < S → fs s = f → ∀ q, q < ocs bt s → A' 95 (os s + pqf (tu s) (ocs bt s) q) = sI (vq (V s) (bt s) q)) ∧ (∀ y, y < 8 → (∀ s, s < S → fs s = f → ¬ (os s ≤ y ∧ y < os s + ocs bt s)) → A' 95 y = 0) ∧ ∀ a y, ¬ (a = 95 ∧ y < 8) → A' a y = B a y := by
    intro r
    induction r with
    | zero =>
      intro x p B hx hp hB h0
      obtain ⟨p', rfl⟩ : ∃ y, p = y + 1 := ⟨p - 1, by omega⟩
      have un : fX6_fill_h14 fu (sI f) (p' + 1) (sI x, B, L) = fX6_fill_i14 fu (sI f) (fX6_fill_h14 fu (sI f) p') (sI x) B L := rfl
      rw [un]
      unfold fX6_fill_i14
      rw [if_pos (by rw [sI_lle (by decide) (by omega)]; omega)]
      exact key S 0 fu B (by omega) (by omega) hB (fun t ht => by omega) (fun y hy _ => h0 y (by omega))
    | succ r ih =>
      intro x p B hx hp hB h0
      obtain ⟨p', rfl⟩ : ∃ y, p = y + 1 := ⟨p - 1, by omega⟩
      have un : fX6_fill_h14 fu (sI f) (p' + 1) (sI x, B, L) = fX6_fill_i14 fu (sI f) (fX6_fill_h14 fu (sI f) p') (sI x) B L := rfl
      rw [un]
      unfold fX6_fill_i14
      simp only [mlet]
      rw [if_neg (by rw [sI_lle (by decide) (by omega)]; omega), mck_s (by omega) (by omega), sI_nn (by omega), sI_1]
      obtain ⟨A', k1, k2, k3, k4⟩ := ih (x + 1) p' (mset B 95 x 0) (by omega) (by omega) (FiC_f hB (fun a y u => by rw [mset_n (by omega)])) (fun y hy => by
        by_cases e : y = x
        · rw [e, mset_s]
        · rw [mset_n (by omega)]; exact h0 y (by omega))
      exact ⟨A', k1, k2, k3, fun a y u => by rw [k4 a y u, mset_n (by omega)]⟩
  unfold DX6_fill
  simp only [mlet]
  rw [mck_s hf (by omega), mck_s hf (by omega), sI_nn (by omega)]
  obtain ⟨A', k1, k2, k3, k4⟩ := zero 8 0 fu (mset A 77 f (A 77 f + 1)) (by omega) (by omega) (FiC_f hF (fun a y u => by rw [mset_n (by omega)])) (fun y hy => by omega)
  exact ⟨A', k1, by rw [k4 _ _ (by omega), mset_s], k2, k3, fun a y u1 u2 => by rw [k4 a y u2, mset_n u1]⟩
/-! the reference fills a frame -/
theorem by_u : ∀ h, h < 256 → ((sI h).toInt8.toInt32).toInt8.toInt32 = (sI h).toInt8.toInt32 ∧ (sI h).toInt8.toInt32 &&& 255 = sI h := by decide +kernel
theorem m_octetP {fu k i e y h cap : Nat} {M : mwM} {L : mwL} (h1 : M k 1 = sI cap) (hc : cap ≤ 8) (h14 : M (k + 14) i = sI e) (i1 : 1 ≤ i) (i2 : i ≤ 40) (he : e ≤ 320) (hy : y < cap) (h15 : M (k + 15) (e + y) = sI h) (hh : h < 256) : ∃ r, DX16_octet fu k (sI i) (sI y) M L = some (r, mset M k 0 0, L) ∧ r &&& 255 = sI h := by
  refine ⟨(sI h).toInt8.toInt32, ?_, (by_u h hh).2⟩
  have c1 : mset M k 0 0 k 1 = sI cap := by rw [mset_n (by omega)]; exact h1
  have c14 : mset M k 0 0 (k + 14) i = sI e := by rw [mset_n (by omega)]; exact h14
  have c15 : mset M k 0 0 (k + 15) (e + y) = sI h := by rw [mset_n (by omega)]; exact h15
  unfold DX16_octet DX16_noFrame fX16_noFrame_b25 fX16_octet_b43
  rw [mlet_e, if_neg (by rw [sI_ltl (by omega) (by decide)]; omega), if_neg (by rw [sI_llt (by decide) (by omega)]; omega), mck_s (by omega) (by omega), sI_nn (show i < 2000000000 by omega), c14, if_pos (by rw [sI_lle (by decide) (by omega)]; omega)]
  unfold mzz mbb
  rw [if_pos (Or.inl rfl), mb3_s, if_pos (show (0 : Int32) = 0 from rfl), if_neg (by rw [sI_ltl (by omega) (by decide)]; omega), c1, if_pos (by rw [sI_lt (by omega) (by omega)]; exact hy), mck_s (by omega) (by omega), c14, sI_add, mck_s (by omega) (by omega), sI_nn (by omega), c15, if_pos (by_u h hh).1]
abbrev FiM (M : mwM) (S : Nat) (bt fs os ct dt ls ns : Nat → Nat) (tu : Nat → Bool) (f p i e cap lo : Nat) : Prop := M 732 45 = sI S ∧ S ≤ 40 ∧ M 780 f = sI p ∧ p < 12 ∧ M 781 f = sI i ∧ 1 ≤ i ∧ i ≤ 40 ∧ M (941 + 53 * p) 1 = sI cap ∧ cap = cpk lo ∧ M 783 f = sI lo ∧ lo ≤ 16 ∧ M (941 + 53 * p + 14) i = sI e ∧ e ≤ 320 ∧ ∀ s, s < S → M 767 s = sI (fs s) ∧ fs s < 40 ∧ M 762 s = sI (ct s) ∧ ct s < 12 ∧ M 763 s = sI (dt s) ∧ dt s < 32 ∧ M 766 s = sI (ls s) ∧ (fs s = f → os s + ocs bt s ≤ cap ∧ PuM M (941 + 53 * p) (ls s) (ns s) (bt s) (tu s) i e (os s))
theorem FiM_f {M M' : mwM} {S f p i e cap lo : Nat} {bt fs os ct dt ls ns : Nat → Nat} {tu : Nat → Bool} (h : FiM M S bt fs os ct dt ls ns tu f p i e cap lo) (hf : ∀ a y, (a = 732 ∧ y = 45) ∨ (780 ≤ a ∧ a ≤ 783) ∨ a = 762 ∨ a = 763 ∨ a = 766 ∨ a = 767 ∨ (a = 941 + 53 * p ∧ 1 ≤ y) ∨ (941 + 53 * p + 1 ≤ a ∧ a ≤ 941 + 53 * p + 14) → M' a y = M a y) : FiM M' S bt fs os ct dt ls ns tu f p i e cap lo := by
  obtain ⟨h1, h2, h3, h4, h5, h6, h7, h8, h9, h10, h11, h12, h13, h14⟩ := h
  refine ⟨by rw [hf _ _ (by omega)]; exact h1, h2, by rw [hf _ _ (by omega)]; exact h3, h4, by rw [hf _ _ (by omega)]; exact h5, h6, h7, by rw [hf _ _ (by omega)]; exact h8, h9, by rw [hf _ _ (by omega)]; exact h10, h11, by rw [hf _ _ (by omega)]; exact h12, h13, fun s hs => ?_⟩
  obtain ⟨a1, a2, a3, a4, a5, a6, a7, a8⟩ := h14 s hs
  exact ⟨by rw [hf _ _ (by omega)]; exact a1, a2, by rw [hf _ _ (by omega)]; exact a3, a4, by rw [hf _ _ (by omega)]; exact a5, a6, by rw [hf _ _ (by omega)]; exact a7, fun w => ⟨(a8 w).1, PuM_f (a8 w).2 (fun a y u => hf a y (by omega))⟩⟩
/-- what a frame's octets hold between two sendings -/
def HdI (M : mwM) (S : Nat) (bt fs os : Nat → Nat) (tu : Nat → Bool) (f k e cap : Nat) : Prop := (∀ s, s < S → fs s = f → ∀ q, q < ocs bt s → ∃ od, M (k + 15) (e + os s + pqf (tu s) (ocs bt s) q) = sI od ∧ od < 2 ^ (if bt s - 8 * q < 8 then bt s - 8 * q else 8)) ∧ ∀ y, y < cap → (∀ s, s < S → fs s = f → ¬ (os s ≤ y ∧ y < os s + ocs bt s)) → M (k + 15) (e + y) = 0
theorem vq_w {v : Int64} {b q : Nat} : vq v b q < 2 ^ (if b - 8 * q < 8 then b - 8 * q else 8) := by
  unfold vq
  exact Nat.mod_lt _ (Nat.pow_pos (by omega))
/-- an octet of a frame: what stands there -/
theorem cover {S f y : Nat} {bt fs os : Nat → Nat} {tu : Nat → Bool} : (∀ s, s < S → fs s = f → ¬ (os s ≤ y ∧ y < os s + ocs bt s)) ∨ ∃ s q, s < S ∧ fs s = f ∧ q < ocs bt s ∧ os s + pqf (tu s) (ocs bt s) q = y := by
  by_cases h : ∃ s, s < S ∧ fs s = f ∧ os s ≤ y ∧ y < os s + ocs bt s
  · obtain ⟨s, s1, s2, s3, s4⟩ := h
    obtain ⟨q, q1, q2⟩ := pqf_sur (t := tu s) (show y - os s < ocs bt s by omega)
    exact Or.inr ⟨s, q, s1, s2, q1, by omega⟩
  · refine Or.inl (fun s s1 s2 w => h ⟨s, s1, s2, w.1, w.2⟩)
theorem m_sendO {fu S f p i e cap lo : Nat} {bt fs os ct dt ls ns : Nat → Nat} {tu : Nat → Bool} {V : Nat → Int64} {M : mwM} {L : mwL} (hfu : 100 ≤ fu) (hf : f < 40) (h : FiM M S bt fs os ct dt ls ns tu f p i e cap lo) (hD : FiD S bt fs os) (hH : HdI M S bt fs os tu f (941 + 53 * p) e cap) (hV : ∀ s, s < S → L (964 + 53 * ct s + 21) (dt s) = V s) : ∃ M', DX19_send fu (sI f) M L = fX19_send_i87 fu (sI f) (fun _ => none) (941 + 53 * p) (sI cap) 8 M' L ∧ (∀ s, s < S → fs s = f → ∀ q, q < ocs bt s → M' 926 (os s + pqf (tu s) (ocs bt s) q) = sI (vq (V s) (bt s) q)) ∧ (∀ y, y < 8 → (∀ s, s < S → fs s = f → ¬ (os s ≤ y ∧ y < os s + ocs bt s)) → M' 926 y = 0) ∧ HdI M' S bt fs os tu f (941 + 53 * p) e cap ∧ ∀ a y, ¬ (a = 941 + 53 * p ∧ y = 0) → ¬ (a = 941 + 53 * p + 15 ∧ e ≤ y ∧ y < e + cap) → ¬ (964 ≤ a ∧ (a - 964) % 53 = 0 ∧ y = 0) → ¬ (a = 926 ∧ y < 8) → M' a y = M a y := by
  have hS40 := h.2.1
  have hp := h.2.2.2.1
  have hi1 := h.2.2.2.2.2.1
  have hi2 := h.2.2.2.2.2.2.1
  have hcap : cap = cpk lo := h.2.2.2.2.2.2.2.2.1
  have hlo : lo ≤ 16 := h.2.2.2.2.2.2.2.2.2.2.1
  have he : e ≤ 320 := h.2.2.2.2.2.2.2.2.2.2.2.2.1
  have hc8 := cpk_8 (y := lo)
  obtain ⟨T, hT⟩ : ∃ T : mwM → Option (mwM × mwL), ∀ X, T X = fX19_send_i87 fu (sI f) (fun _ => none) (941 + 53 * p) (sI cap) 8 X L := ⟨_, fun _ => rfl⟩
  -- the octets are read
  have rd : ∀ (r x w : Nat) (B : mwM), x + r = 8 → r < w → FiM B S bt fs os ct dt ls ns tu f p i e cap lo → (∀ s, s < S → fs s = f → ∀ q, q < ocs bt s → B (941 + 53 * p + 15) (e + os s + pqf (tu s) (ocs bt s) q) = sI (vq (V s) (bt s) q)) → (∀ y, y < cap → (∀ s, s < S → fs s = f → ¬ (os s ≤ y ∧ y < os s + ocs bt s)) → B (941 + 53 * p + 15) (e + y) = 0) → (∀ y, y < x → (y < cap → B 926 y = B (941 + 53 * p + 15) (e + y)) ∧ (cap ≤ y → B 926 y = 0)) → ∃ M', fX19_send_h87 fu (sI f) w (941 + 53 * p, sI cap, sI x, B, L) = T M' ∧ (∀ y, y < 8 → (y < cap → M' 926 y = M' (941 + 53 * p + 15) (e + y)) ∧ (cap ≤ y → M' 926 y = 0)) ∧ ∀ a y, ¬ (a = 941 + 53 * p ∧ y = 0) → ¬ (a = 926 ∧ y < 8) → M' a y = B a y := by
    intro r
    induction r with
    | zero =>
      intro x w B hx hw hB h1 h2 h3
      obtain ⟨w', rfl⟩ : ∃ y, w = y + 1 := ⟨w - 1, by omega⟩
      refine ⟨B, ?_, fun y hy => h3 y (by omega), fun _ _ _ _ => rfl⟩
      have ex : x = 8 := by omega
      subst ex
      show fX19_send_i87 fu (sI f) (fX19_send_h87 fu (sI f) w') (941 + 53 * p) (sI cap) 8 B L = _
      rw [hT]
      unfold fX19_send_i87
      rw [if_pos (by decide), if_pos (by decide)]
    | succ r ih =>
      intro x w B hx hw hB h1 h2 h3
      obtain ⟨w', rfl⟩ : ∃ y, w = y + 1 := ⟨w - 1, by omega⟩
      have un : fX19_send_h87 fu (sI f) (w' + 1) (941 + 53 * p, sI cap, sI x, B, L) = fX19_send_i87 fu (sI f) (fX19_send_h87 fu (sI f) w') (941 + 53 * p) (sI cap) (sI x) B L := rfl
      rw [un]
      unfold fX19_send_i87 fX19_send_b126
      rw [if_neg (by rw [sI_lle (by decide) (by omega)]; omega)]
      have fin : ∀ (C : mwM) (v : Int32), (∀ a y, ¬ (a = 941 + 53 * p ∧ y = 0) → C a y = B a y) → ((x < cap → v = B (941 + 53 * p + 15) (e + x)) ∧ (cap ≤ x → v = 0)) → ∃ M', (mck (sI x) 8 (mlet (mset C 926 ((sI x).toNatClampNeg) v) (fun M34 => mlet (sI x + 1) (fun x35 => fX19_send_h87 fu (sI f) w' (941 + 53 * p, sI cap, x35, M34, L)))) : Option (mwM × mwL)) = T M' ∧ (∀ y, y < 8 → (y < cap → M' 926 y = M' (941 + 53 * p + 15) (e + y)) ∧ (cap ≤ y → M' 926 y = 0)) ∧ ∀ a y, ¬ (a = 941 + 53 * p ∧ y = 0) → ¬ (a = 926 ∧ y < 8) → M' a y = B a y := by
        intro C v hC hv
        rw [mck_s (by omega) (by omega), sI_nn (by omega), mlet_e, mlet_e, sI_1]
        have tC : ∀ a y, ¬ (a = 941 + 53 * p ∧ y = 0) → ¬ (a = 926 ∧ y = x) → mset C 926 x v a y = B a y := fun a y w1 w2 => by rw [mset_n w2]; exact hC a y w1
        obtain ⟨M', k1, k2, k3⟩ := ih (x + 1) w' (mset C 926 x v) (by omega) (by omega) (FiM_f hB (fun a y u => tC a y (by omega) (by omega))) (fun s q1 q2 q q3 => by rw [tC _ _ (by omega) (by omega)]; exact h1 s q1 q2 q q3) (fun y hy hn => by rw [tC _ _ (by omega) (by omega)]; exact h2 y hy hn) (fun y hy => by
          by_cases ey : y = x
          · subst ey
            rw [mset_s]
            exact ⟨fun u => by rw [tC _ _ (by omega) (by omega)]; exact hv.1 u, hv.2⟩
          · rw [tC 926 y (by omega) (by omega), tC (941 + 53 * p + 15) (e + y) (by omega) (by omega)]
            exact h3 y (by omega))
        exact ⟨M', k1, k2, fun a y w1 w2 => by rw [k3 a y w1 w2]; exact tC a y w1 (by omega)⟩
      by_cases cx : cap ≤ x
      · rw [if_pos (by rw [sI_le (by omega) (by omega)]; exact cx)]
        exact fin B 0 (fun _ _ _ => rfl) ⟨fun u => by omega, fun _ => rfl⟩
      · rw [if_neg (by rw [sI_le (by omega) (by omega)]; exact cx)]
        have hx0 : ∃ hh, B (941 + 53 * p + 15) (e + x) = sI hh ∧ hh < 256 := by
          rcases cover (S := S) (f := f) (y := x) (bt := bt) (fs := fs) (os := os) (tu := tu) with u | ⟨s, q, s1, s2, s3, s4⟩
          · exact ⟨0, h2 x (by omega) u, by omega⟩
          · refine ⟨vq (V s) (bt s) q, ?_, vq_lt⟩
            have e2 : e + x = e + os s + pqf (tu s) (ocs bt s) q := by omega
            rw [e2]
            exact h1 s s1 s2 q s3
        obtain ⟨hh, hh1, hh2⟩ := hx0
        obtain ⟨r, r1, r2⟩ := m_octetP (fu := fu) (k := 941 + 53 * p) (L := L) hB.2.2.2.2.2.2.2.1 (by omega) hB.2.2.2.2.2.2.2.2.2.2.2.1 hi1 hi2 he (by omega) hh1 hh2
        rw [mck_s (by omega) (by omega), sI_nn (show f < 2000000000 by omega), hB.2.2.2.2.1, r1, mb3_s, r2, ← hh1]
        exact fin _ _ (fun a y u => by rw [mset_n u]) ⟨fun _ => rfl, fun u => by omega⟩
  -- the signals are put
  have key : ∀ (r s w : Nat) (B : mwM), s + r = S → r < w → FiM B S bt fs os ct dt ls ns tu f p i e cap lo → (∀ t, t < s → fs t = f → ∀ q, q < ocs bt t → B (941 + 53 * p + 15) (e + os t + pqf (tu t) (ocs bt t) q) = sI (vq (V t) (bt t) q)) → HdI B S bt fs os tu f (941 + 53 * p) e cap → ∃ B', fX19_send_h14 fu (sI f) w (941 + 53 * p, sI s, B, L) = fX19_send_h87 fu (sI f) fu (941 + 53 * p, sI cap, 0, B', L) ∧ FiM B' S bt fs os ct dt ls ns tu f p i e cap lo ∧ (∀ t, t < S → fs t = f → ∀ q, q < ocs bt t → B' (941 + 53 * p + 15) (e + os t + pqf (tu t) (ocs bt t) q) = sI (vq (V t) (bt t) q)) ∧ HdI B' S bt fs os tu f (941 + 53 * p) e cap ∧ ∀ a y, ¬ (a = 941 + 53 * p ∧ y = 0) → ¬ (a = 941 + 53 * p + 15 ∧ e ≤ y ∧ y < e + cap) → ¬ (964 ≤ a ∧ (a - 964) % 53 = 0 ∧ y = 0) → B' a y = B a y := by
    intro r
    induction r with
    | zero =>
      intro s w B hs hw hB h1 h2
      obtain ⟨w', rfl⟩ : ∃ y, w = y + 1 := ⟨w - 1, by omega⟩
      refine ⟨B, ?_, hB, fun t ht => h1 t (by omega), h2, fun _ _ _ _ _ => rfl⟩
      show fX19_send_i14 fu (sI f) (fX19_send_h14 fu (sI f) w') (941 + 53 * p) (sI s) B L = _
      unfold fX19_send_i14 fX19_send_b83
      rw [hB.1, if_pos (by rw [sI_le (by omega) (by omega)]; omega), mck_s (by omega) (by omega), sI_nn (by omega), hB.2.2.2.2.2.2.2.2.2.1, hcap]
      unfold cpk
      by_cases z : lo = 0
      · rw [if_pos (by rw [z]; decide), if_pos z]
        rfl
      · rw [if_neg (by rw [sI_lel (by omega) (by decide)]; omega), if_neg z]
        rfl
    | succ r ih =>
      intro s w B hs hw hB h1 h2
      obtain ⟨w', rfl⟩ : ∃ y, w = y + 1 := ⟨w - 1, by omega⟩
      obtain ⟨a1, a2, a3, a4, a5, a6, a7, a8⟩ := hB.2.2.2.2.2.2.2.2.2.2.2.2.2 s (by omega)
      have un : fX19_send_h14 fu (sI f) (w' + 1) (941 + 53 * p, sI s, B, L) = fX19_send_i14 fu (sI f) (fX19_send_h14 fu (sI f) w') (941 + 53 * p) (sI s) B L := rfl
      rw [un]
      unfold fX19_send_i14 fX19_send_b62
      rw [hB.1, if_neg (by rw [sI_le (by omega) (by omega)]; omega), mck_s (by omega) (by omega), sI_nn (show s < 2000000000 by omega), a1]
      by_cases ef : fs s = f
      · rw [if_pos (by rw [ef]), mck_s (by omega) (by omega), mck_s (by omega) (by omega), a3, mck_s (by omega) (by omega), mck_s (by omega) (by omega), sI_nn (show ct s < 2000000000 by omega), a5]
        unfold DX13_value fX13_value_b25
        rw [mlet_e, if_neg (by rw [sI_ltl (by omega) (by decide)]; omega), if_pos (by rw [sI_lel (by omega) (by decide)]; omega), mck_s (by omega) (by omega), sI_nn (show dt s < 2000000000 by omega), hV s (by omega), mb3_s]
        have tC : ∀ a y, ¬ (964 ≤ a ∧ (a - 964) % 53 = 0 ∧ y = 0) → mset B (964 + 53 * ct s) 0 0 a y = B a y := fun a y u => by rw [mset_n (by omega)]
        obtain ⟨c8, hPu⟩ := a8 ef
        have hPu2 : PuM (mset B (964 + 53 * ct s) 0 0) (941 + 53 * p) (ls s) (ns s) (bt s) (tu s) i e (os s) := PuM_f hPu (fun a y u => tC a y (by omega))
        obtain ⟨g1, g2⟩ := h2
        obtain ⟨D, d1, d2, d3⟩ := m_putP (fu := fu) (v := V s) (L := L) (M := mset B (964 + 53 * ct s) 0 0) hfu hPu2 (od := fun q => nn (B (941 + 53 * p + 15) (e + os s + pqf (tu s) (ocs bt s) q))) (fun q hq => by
          obtain ⟨od, o1, o2⟩ := g1 s (by omega) ef q hq
          have o3 : od < 2000000000 := by
            have : 2 ^ (if bt s - 8 * q < 8 then bt s - 8 * q else 8) ≤ 2 ^ 8 := Nat.pow_le_pow_right (by omega) (by split <;> omega)
            omega
          rw [tC _ _ (by omega)]
          try dsimp only
          rw [o1, nn_s o3]
          exact ⟨rfl, o2⟩)
        rw [a7, d1, mb2_s, mlet_e, sI_1]
        have eo : ocs bt s = (bt s + 7) / 8 := rfl
        have tD : ∀ a y, ¬ (a = 941 + 53 * p ∧ y = 0) → ¬ (a = 941 + 53 * p + 15 ∧ e + os s ≤ y ∧ y < e + os s + ocs bt s) → ¬ (964 ≤ a ∧ (a - 964) % 53 = 0 ∧ y = 0) → D a y = B a y := fun a y w1 w2 w3 => by rw [d3 a y w1 w2]; exact tC a y w3
        obtain ⟨B', k1, k2, k3, k4, k5⟩ := ih (s + 1) w' D (by omega) (by omega) (FiM_f hB (fun a y u => tD a y (by omega) (by omega) (by omega))) (fun t ht ft q hq => by
          by_cases et : t = s
          · subst et
            exact d2 q hq
          · have hpq := pqf_lt (t := tu t) hq
            have := hD s t (by omega) (by omega) (fun u => et u.symm) (by rw [ef, ft])
            rw [tD _ _ (by omega) (by omega) (by omega)]
            exact h1 t (by omega) ft q hq) ⟨fun t ht ft q hq => by
          by_cases et : t = s
          · subst et
            exact ⟨_, d2 q hq, vq_w⟩
          · have hpq := pqf_lt (t := tu t) hq
            have := hD s t (by omega) (by omega) (fun u => et u.symm) (by rw [ef, ft])
            rw [tD _ _ (by omega) (by omega) (by omega)]
            exact g1 t ht ft q hq, fun y hy hn => by
          have := hn s (by omega) ef
          rw [tD _ _ (by omega) (by omega) (by omega)]
          exact g2 y hy hn⟩
        exact ⟨B', k1, k2, k3, k4, fun a y w1 w2 w3 => by rw [k5 a y w1 w2 w3]; exact tD a y w1 (by omega) w3⟩
      · rw [if_neg (by rw [sI_eq (by omega) (by omega)]; exact ef), mlet_e, sI_1]
        exact ih (s + 1) w' B (by omega) (by omega) hB (fun t ht ft => by
          by_cases et : t = s
          · rw [et] at ft; exact absurd ft ef
          · exact h1 t (by omega) ft) h2
  obtain ⟨B, k1, k2, k3, k4, k5⟩ := key S 0 fu M (by omega) (by omega) h (fun t ht => by omega) hH
  obtain ⟨M', g1, g2, g3⟩ := rd 8 0 fu B (by omega) (by omega) k2 k3 k4.2 (fun y hy => by omega)
  have tM : ∀ y, M' (941 + 53 * p + 15) y = B (941 + 53 * p + 15) y := fun y => g3 _ _ (by omega) (by omega)
  refine ⟨M', ?_, fun s s1 s2 q s3 => ?_, fun y hy hn => ?_, ⟨fun s s1 s2 q s3 => ?_, fun y hy hn => ?_⟩, fun a y w1 w2 w3 w4 => ?_⟩
  · unfold DX19_send
    have k1' : fX19_send_h14 fu (sI f) fu (941 + 53 * p, 0, M, L) = _ := k1
    have g1' : fX19_send_h87 fu (sI f) fu (941 + 53 * p, sI cap, 0, B, L) = _ := g1
    rw [mck_s (by omega) (by omega), sI_nn (show f < 2000000000 by omega), h.2.2.1, mck_s (by omega) (by omega), sI_nn (show p < 2000000000 by omega), Nat.add_zero, k1', g1', hT]
  · have hle := (h.2.2.2.2.2.2.2.2.2.2.2.2.2 s s1).2.2.2.2.2.2.2 s2
    have hpq := pqf_lt (t := tu s) s3
    have := hle.1
    rw [(g2 _ (by omega)).1 (by omega), tM, ← Nat.add_assoc]
    exact k3 s s1 s2 q s3
  · by_cases c : y < cap
    · rw [(g2 y hy).1 c, tM]
      exact k4.2 y c hn
    · exact (g2 y hy).2 (by omega)
  · rw [tM]; exact k4.1 s s1 s2 q s3
  · rw [tM]; exact k4.2 y hy hn
  · rw [g3 a y w1 w4]
    exact k5 a y w1 w2 w3
/-! codes of frames -/
def vS (P n : Nat) (oc : Nat → Nat) (i : Nat) : Nat := if i = 0 then P else if i < 9 then n / 2 ^ (8 * (8 - i)) % 256 else oc (i - 9)
theorem vS_lt {P n : Nat} {oc : Nat → Nat} (hP : P < 256) (ho : ∀ i, i < 3 → oc i < 256) : ∀ i, i < 12 → vS P n oc i < 256 := by
  intro i hi
  unfold vS
  split
  · exact hP
  · split
    · exact Nat.mod_lt _ (by omega)
    · exact ho _ (by omega)
theorem uI_s {n : Nat} (h : n < 2000000000) : (sI n).toUInt32.toNat = n := by
  show (BitVec.ofNat 32 n).toNat = n
  rw [BitVec.toNat_ofNat]
  exact Nat.mod_eq_of_lt (by omega)
theorem uL_s {n : Nat} (h : n < 2000000000) : (sL n).toUInt64.toNat = n := by
  show (BitVec.ofNat 64 n).toNat = n
  rw [BitVec.toNat_ofNat]
  exact Nat.mod_eq_of_lt (by omega)
theorem e24 : ∀ j, j < 4 → (24 : Int32) - 8 * sI j = sI (24 - 8 * j) := by decide +kernel
theorem e56 : ∀ j, j < 8 → (56 : Int32) - 8 * sI j = sI (56 - 8 * j) := by decide +kernel
theorem c_makeCode {fu f n P key row n3 : Nat} {A M : mwM} {L : mwL} {S oc : Nat → Nat} (hfu : 200 ≤ fu) (hf : f < 40) (hn : n < 2000000000) (hP : P < 40) (h78 : A 78 f = sI P) (h76 : A 76 f = sI key) (hk2 : key < 17) (hC : RCd A M S) (hK : KnC A S key) (hr1 : row ≠ 96) (hr2 : row ≠ 137) (hr3 : row ≠ 138) (hn3 : 8 ≤ n3) (ho : ∀ i, i < 3 → A row i = sI (oc i) ∧ oc i < 256) : ∃ A', DX6_makeCode fu (sI f) (sI n) row n3 A L = some (A', L) ∧ bytes A' 138 16 (cmac S (scN S key) 12 (vS P n oc)) ∧ ∀ a y, a ≠ 96 → a ≠ 137 → a ≠ 138 → A' a y = A a y := by
  obtain ⟨c1, c2, c3, c4, c5, c6, c7⟩ := hC
  unfold DX6_makeCode
  rw [mck_s hf (by omega), mlet_e, sI_nn (show f < 2000000000 by omega), h78, show (0 : Int32).toNatClampNeg = 0 from rfl]
  -- the three octets
  have last : ∀ (r i q : Nat) (B : mwM), i + r = 3 → r < q → (∀ x, x < 9 → B 96 x = sI (vS P n oc x)) → (∀ x, x < i → B 96 (9 + x) = sI (oc x)) → (∀ a y, a ≠ 96 → B a y = A a y) → ∃ A', fX6_makeCode_h65 fu (sI f) (sI n) row n3 q (sI i, B, L) = some (A', L) ∧ bytes A' 138 16 (cmac S (scN S key) 12 (vS P n oc)) ∧ ∀ a y, a ≠ 96 → a ≠ 137 → a ≠ 138 → A' a y = A a y := by
    intro r
    induction r with
    | zero =>
      intro i q B hi hq h1 h2 h3
      obtain ⟨q', rfl⟩ : ∃ y, q = y + 1 := ⟨q - 1, by omega⟩
      have un : fX6_makeCode_h65 fu (sI f) (sI n) row n3 (q' + 1) (sI i, B, L) = fX6_makeCode_i65 fu (sI f) (sI n) row n3 (fX6_makeCode_h65 fu (sI f) (sI n) row n3 q') (sI i) B L := rfl
      have hb : bytes B 96 12 (vS P n oc) := fun x hx => by
        refine ⟨?_, vS_lt (by omega) (fun i hi => (ho i hi).2) x hx⟩
        by_cases e : x < 9
        · exact h1 x e
        · have := h2 (x - 9) (by omega)
          rw [show 9 + (x - 9) = x from by omega] at this
          rw [this]
          unfold vS
          rw [if_neg (by omega), if_neg e]
      have hm := c_make (fu := fu) (L := L) (key := key) (row := 96) (len := 12) (n := 12) (S := S) (rk := scN S key) (v := vS P n oc) (A := B) (by omega) hk2 (fun i u => by rw [h3 _ _ (by omega)]; exact c1 i u) (fun i u => by rw [h3 _ _ (by omega)]; exact c2 i u) (fun i u => by rw [h3 _ _ (by omega)]; exact hK.2.1 i u) (fun i u => by rw [h3 _ _ (by omega)]; exact hK.2.2 i u) (by omega) (by omega) (by omega) hb
      obtain ⟨⟨A', L'⟩, z1, z2, z3, z4⟩ := hm
      dsimp only at z2 z3 z4
      subst z2
      refine ⟨A', ?_, z3, fun a y w1 w2 w3 => by rw [z4 a y w2 w3]; exact h3 a y w1⟩
      rw [un]
      unfold fX6_makeCode_i65
      have z1' : DX3_make fu (sI key) 96 12 12 B L' = some (A', L') := z1
      rw [if_pos (by rw [sI_lle (by decide) (by omega)]; omega), mck_s hf (by omega), sI_nn (by omega), h3 76 f (by omega), h76, z1', mb2_s]
    | succ r ih =>
      intro i q B hi hq h1 h2 h3
      obtain ⟨q', rfl⟩ : ∃ y, q = y + 1 := ⟨q - 1, by omega⟩
      have un : fX6_makeCode_h65 fu (sI f) (sI n) row n3 (q' + 1) (sI i, B, L) = fX6_makeCode_i65 fu (sI f) (sI n) row n3 (fX6_makeCode_h65 fu (sI f) (sI n) row n3 q') (sI i) B L := rfl
      rw [un]
      unfold fX6_makeCode_i65
      simp only [mlet]
      rw [if_neg (by rw [sI_lle (by decide) (by omega)]; omega), mck_s (by omega) (by omega), sI_lad, mck_s (by omega) (by omega), sI_nn (by omega), sI_nn (by omega), h3 row i hr1, (ho i (by omega)).1, sI_1]
      refine ih (i + 1) q' _ (by omega) (by omega) (fun x hx => by rw [mset_n (by omega)]; exact h1 x hx) (fun x hx => ?_) (fun a y w => by rw [mset_n (by omega)]; exact h3 a y w)
      by_cases e : x = i
      · rw [e, mset_s]
      · rw [mset_n (by omega)]; exact h2 x (by omega)
  -- the count
  have first : ∀ (r j q : Nat) (B : mwM), j + r = 4 → r < q → (∀ x, x < 9 → (x < 1 + j ∨ (5 ≤ x ∧ x < 5 + j)) → B 96 x = sI (vS P n oc x)) → (∀ a y, a ≠ 96 → B a y = A a y) → ∃ A', fX6_makeCode_h17 fu (sI f) (sI n) row n3 q (sI j, B, L) = some (A', L) ∧ bytes A' 138 16 (cmac S (scN S key) 12 (vS P n oc)) ∧ ∀ a y, a ≠ 96 → a ≠ 137 → a ≠ 138 → A' a y = A a y := by
    intro r
    induction r with
    | zero =>
      intro j q B hj hq h1 h3
      obtain ⟨q', rfl⟩ : ∃ y, q = y + 1 := ⟨q - 1, by omega⟩
      have un : fX6_makeCode_h17 fu (sI f) (sI n) row n3 (q' + 1) (sI j, B, L) = fX6_makeCode_i17 fu (sI f) (sI n) row n3 (fX6_makeCode_h17 fu (sI f) (sI n) row n3 q') (sI j) B L := rfl
      rw [un]
      unfold fX6_makeCode_i17
      rw [if_pos (by rw [sI_lle (by decide) (by omega)]; omega)]
      exact last 3 0 fu B (by omega) (by omega) (fun x hx => h1 x hx (by omega)) (fun x hx => by omega) h3
    | succ r ih =>
      intro j q B hj hq h1 h3
      obtain ⟨q', rfl⟩ : ∃ y, q = y + 1 := ⟨q - 1, by omega⟩
      have un : fX6_makeCode_h17 fu (sI f) (sI n) row n3 (q' + 1) (sI j, B, L) = fX6_makeCode_i17 fu (sI f) (sI n) row n3 (fX6_makeCode_h17 fu (sI f) (sI n) row n3 q') (sI j) B L := rfl
      rw [un]
      have ev : (((sI n).toUInt32 >>> ((24 - (8 * sI j)).toUInt32 &&& Int32.toUInt32 31)).toInt32) &&& 255 = sI (vS P n oc (5 + j)) := by
        rw [e24 j (by omega), ush32 (sI n) _ (by omega), uI_s hn]
        unfold vS
        rw [if_neg (by omega), if_pos (by omega), show 8 * (8 - (5 + j)) = 24 - 8 * j from by omega]
      have e0 : (0 : Int32) = sI (vS P n oc (1 + j)) := by
        unfold vS
        rw [if_neg (by omega), if_pos (by omega)]
        have hb : n / 2 ^ (8 * (8 - (1 + j))) = 0 := by
          apply Nat.div_eq_of_lt
          have : 2 ^ 32 ≤ 2 ^ (8 * (8 - (1 + j))) := Nat.pow_le_pow_right (by omega) (by omega)
          omega
        rw [hb]
        rfl
      unfold fX6_makeCode_i17
      rw [if_neg (by rw [sI_lle (by decide) (by omega)]; omega), sI_lad, sI_lad, mck_s (by omega) (by omega), mlet_e, mck_s (by omega) (by omega), mlet_e, mlet_e, sI_nn (by omega), sI_nn (by omega), ev, sI_1, e0]
      refine ih (j + 1) q' _ (by omega) (by omega) (fun x hx hc => ?_) (fun a y w => by rw [mset_n (by omega), mset_n (by omega)]; exact h3 a y w)
      by_cases x1 : x = 5 + j
      · rw [x1, mset_s]
      · rw [mset_n (by omega)]
        by_cases x2 : x = 1 + j
        · rw [x2, mset_s]
        · rw [mset_n (by omega)]
          exact h1 x hx (by omega)
  refine first 4 0 fu (mset A 96 0 (sI P)) (by omega) (by omega) (fun x hx hc => ?_) (fun a y w => by rw [mset_n (by omega)])
  have : x = 0 := by omega
  subst this
  rw [mset_s]
  rfl
theorem by_n {x : Nat} (h : x < 256) : (sI x).toInt8.toInt32 &&& 255 = sI x := (by_u x h).2
theorem i8_255 (x : Int32) : x.toInt8.toInt32 &&& 255 = x &&& 255 := by
  apply Int32.toBitVec_inj.mp
  apply BitVec.eq_of_getLsbD_eq
  intro i hi
  show ((x.toInt8.toInt32).toBitVec &&& (255 : Int32).toBitVec).getLsbD i = (x.toBitVec &&& (255 : Int32).toBitVec).getLsbD i
  rw [BitVec.getLsbD_and, BitVec.getLsbD_and]
  by_cases h : i < 8
  · congr 1
    rw [Int8.toBitVec_toInt32, BitVec.getLsbD_signExtend, if_pos h, Int32.toBitVec_toInt8, BitVec.getLsbD_signExtend, if_pos (by omega)]
    simp [h, hi]
  · have : ((255 : Int32).toBitVec).getLsbD i = false := by
      have : ∀ i, i < 32 → ¬ i < 8 → ((255 : Int32).toBitVec).getLsbD i = false := by decide +kernel
      exact this i hi h
    rw [this, Bool.and_false, Bool.and_false]
