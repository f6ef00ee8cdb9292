/-! the reference tells a pack its signals -/
def sof (P : Nat → Bool) (l : Nat) : Nat → Nat
  | 0 => 0
  | S + 1 => if P S = true ∧ lxf P S = l then S else sof P l S
theorem sof_lx {P : Nat → Bool} {s : Nat} (hp : P s = true) : ∀ S, s < S → sof P (lxf P s) S = s := by
  intro S
  induction S with
  | zero => intro w; omega
  | succ S ih =>
    intro w
    show (if P S = true ∧ lxf P S = lxf P s then S else sof P (lxf P s) S) = s
    by_cases e : s = S
    · rw [if_pos ⟨by rw [← e]; exact hp, by rw [e]⟩, e]
    · rw [if_neg (fun q => e (lxf_inj hp q.1 q.2.symm)), ih (by omega)]
theorem PsM_add {M M' : mwM} {k n cap b p : Nat} {t : Bool} {bt pl : Nat → Nat} {tu : Nat → Bool} (h : PsM M k n cap bt pl tu) (hn : n < 40) (h2 : M' k 2 = sI (n + 1)) (a1 : M' (k + 1) (n + 1) = sI b) (a2 : M' (k + 2) (n + 1) = sI p) (a3 : M' (k + 3) (n + 1) = bI t) (a4 : M' (k + 4) (n + 1) = -1) (a5 : M' (k + 5) (n + 1) = sI (n + 1)) (a7 : M' (k + 7) (n + 1) = 0) (a8 : M (k + 8) (n + 1) = 0) (a11 : M' (k + 11) (n + 1) = 0) (hf : ∀ a y, ¬ (a = k ∧ (y = 0 ∨ y = 2)) → ¬ ((k + 1 ≤ a ∧ a ≤ k + 7 ∨ a = k + 9 ∨ a = k + 11) ∧ y = n + 1) → M' a y = M a y) (b1 : 1 ≤ b) (b2 : b ≤ 64) (p1 : 1 ≤ p) (p2 : p ≤ 20000) (hb : (b + 7) / 8 ≤ cap) (e1 : bt (n + 1) = b) (e2 : pl (n + 1) = p) (e3 : tu (n + 1) = t) : PsM M' k (n + 1) cap bt pl tu := by
  obtain ⟨h1, hc, ⟨g1, g2, g3⟩, h4⟩ := h
  refine ⟨by rw [hf _ _ (by omega) (by omega)]; exact h1, hc, ⟨h2, by omega, fun l l1 l2 => ?_⟩, fun l l1 l2 => ?_⟩
  · by_cases e : l = n + 1
    · subst e
      rw [e1, e3]
      exact ⟨a5, a4, a1, b1, b2, a3⟩
    · obtain ⟨q1, q2, q3, q4, q5, q6⟩ := g3 l l1 (by omega)
      exact ⟨by rw [hf _ _ (by omega) (by omega)]; exact q1, by rw [hf _ _ (by omega) (by omega)]; exact q2, by rw [hf _ _ (by omega) (by omega)]; exact q3, q4, q5, by rw [hf _ _ (by omega) (by omega)]; exact q6⟩
  · by_cases e : l = n + 1
    · subst e
      rw [e1, e2]
      exact ⟨a2, p1, p2, hb, a7, by rw [hf _ _ (by omega) (by omega)]; exact a8, a11⟩
    · obtain ⟨q1, q2, q3, q4, q5, q6, q7⟩ := h4 l l1 (by omega)
      exact ⟨by rw [hf _ _ (by omega) (by omega)]; exact q1, q2, q3, q4, by rw [hf _ _ (by omega) (by omega)]; exact q5, by rw [hf _ _ (by omega) (by omega)]; exact q6, by rw [hf _ _ (by omega) (by omega)]; exact q7⟩
abbrev SgM (M : mwM) (S : Nat) (bt pe co : Nat → Nat) (tu : Nat → Bool) : Prop := M 732 45 = sI S ∧ S ≤ 40 ∧ ∀ s, s < S → M 761 s = sI (bt s) ∧ 1 ≤ bt s ∧ bt s ≤ 64 ∧ M 764 s = sI (pe s) ∧ 500 ≤ pe s ∧ pe s ≤ 20000 ∧ M 765 s = bI (tu s) ∧ co s < 6 ∧ ∃ ct tk, M 762 s = sI ct ∧ ct < 12 ∧ M 749 ct = sI tk ∧ tk < 12 ∧ M 742 tk = sI (co s)
theorem SgM_f {M M' : mwM} {S : Nat} {bt pe co : Nat → Nat} {tu : Nat → Bool} (h : SgM M S bt pe co tu) (hf : ∀ a y, (a = 732 ∧ y = 45) ∨ a = 742 ∨ a = 749 ∨ a = 761 ∨ a = 762 ∨ a = 764 ∨ a = 765 → M' a y = M a y) : SgM M' S bt pe co tu := by
  obtain ⟨h1, h2, h3⟩ := h
  refine ⟨by rw [hf _ _ (by omega)]; exact h1, h2, fun s hs => ?_⟩
  obtain ⟨a1, a2, a3, a4, a5, a6, a7, a8, ct, tk, a9, a10, a11, a12, a13⟩ := h3 s hs
  exact ⟨by rw [hf _ _ (by omega)]; exact a1, a2, a3, by rw [hf _ _ (by omega)]; exact a4, a5, a6, by rw [hf _ _ (by omega)]; exact a7, a8, ct, tk, by rw [hf _ _ (by omega)]; exact a9, a10, by rw [hf _ _ (by omega)]; exact a11, a12, by rw [hf _ _ (by omega)]; exact a13⟩
theorem KyM_f {M M' : mwM} {K : Nat} {ka kp kn : Nat → Nat} (h : KyM M K ka kp kn) (hf : ∀ a y, (a = 732 ∧ y = 20) ∨ a = 738 ∨ a = 739 ∨ a = 740 → M' a y = M a y) : KyM M' K ka kp kn := by
  obtain ⟨h1, h2, h3⟩ := h
  refine ⟨by rw [hf _ _ (by omega)]; exact h1, h2, fun i hi => ?_⟩
  obtain ⟨a1, a2, a3, a4, a5, a6⟩ := h3 i hi
  exact ⟨by rw [hf _ _ (by omega)]; exact a1, by rw [hf _ _ (by omega)]; exact a2, by rw [hf _ _ (by omega)]; exact a3, a4, a5, a6⟩
theorem m_senderOf {fu S s : Nat} {bt pe co : Nat → Nat} {tu : Nat → Bool} {M : mwM} {L : mwL} (h : SgM M S bt pe co tu) (hs : s < S) : DX19_senderOf fu (sI s) M L = some (sI (co s), M, L) := by
  obtain ⟨h1, h2, h3⟩ := h
  obtain ⟨a1, a2, a3, a4, a5, a6, a7, a8, ct, tk, a9, a10, a11, a12, a13⟩ := h3 s hs
  unfold DX19_senderOf
  rw [mck_s (by omega) (by omega), sI_nn (by omega), a9, mck_s (by omega) (by omega), sI_nn (by omega), a11, mck_s (by omega) (by omega), sI_nn (by omega), a13]
/-- what stands while signals are told -/
def POs (M B : mwM) (k s cap S : Nat) (P : Nat → Bool) (bt pe : Nat → Nat) (tu : Nat → Bool) : Prop :=
  (0 < cnt P s → PsM B k (cnt P s) cap (fun l => bt (sof P l S)) (fun l => pe (sof P l S)) (fun l => tu (sof P l S)) ∧ B k 15 = 0) ∧ (∀ t, t < s → P t = true → B 766 t = sI (lxf P t)) ∧ (∀ y, P y = false → B 766 y = M 766 y) ∧ (∀ a y, ¬ (k ≤ a ∧ a ≤ k + 14) → a ≠ 766 → B a y = M a y) ∧ ∀ y, B (k + 8) y = M (k + 8) y
/-- what comes of it -/
def POq (fu c p : Nat) (lk : Bool) (M : mwM) (L : mwL) (k cap S : Nat) (P : Nat → Bool) (bt pe : Nat → Nat) (tu : Nat → Bool) (X : Option (Int32 × mwM × mwL)) : Prop :=
  (∃ B', POs M B' k S cap S P bt pe tu ∧ (∀ t, t < S → P t = true → ocs bt t ≤ cap) ∧ X = if 0 < cnt P S then mb3 (DX16_pack fu k 5040 B' L) (fun r7 M4 L5 => fX19_packOne_b176 fu (sI c) (bI lk) (sI p) r7 M4 L5) else fX19_packOne_b176 fu (sI c) (bI lk) (sI p) 0 B' L) ∨ (∃ t B', t < S ∧ P t = true ∧ cap < ocs bt t ∧ (∀ u, u < t → P u = true → ocs bt u ≤ cap) ∧ X = some (0, B', L) ∧ B' 732 11 = 8 ∧ B' 732 12 = M 760 t ∧ (∀ a y, ¬ (k ≤ a ∧ a ≤ k + 14) → a ≠ 766 → ¬ (a = 732 ∧ (y = 11 ∨ y = 12)) → B' a y = M a y) ∧ ∀ y, B' (k + 8) y = M (k + 8) y)
theorem m_pO1 {fu c p k cap S K : Nat} {lk : Bool} {M : mwM} {L : mwL} {bt pe co ky ka kp kn : Nat → Nat} {tu : Nat → Bool} (hfu : 600 ≤ fu) (hc : c < 6) (hp : p < 12) (hk : k = 941 + 53 * p) (hcap : cap = if lk = true then 3 else 8) (hS : SgM M S bt pe co tu) (hK : KyM M K ka kp kn) (hky : ∀ s, s < S → ky s = kyf ka kp kn (co s) (pe s) K 0) (h8 : ∀ y, y ≤ 40 → M (k + 8) y = 0) : POq fu c p lk M L k cap S (isO co ky c lk) bt pe tu (DX19_packOne fu (sI c) (bI lk) (sI p) M L) := by
  have hS40 := hS.2.1
  have hcap8 : cap ≤ 8 := by rw [hcap]; split <;> omega
  have hky16 : ∀ s, s < S → ky s ≤ 16 := fun s hs => by rw [hky s hs]; exact kyf_le _ _ (fun j hj => (hK.2.2 j (by omega)).2.2.2.2.2)
  unfold DX19_packOne
  have key : ∀ (r s q : Nat) (B : mwM), s + r = S → r < q → POs M B k s cap S (isO co ky c lk) bt pe tu → (∀ t, t < s → isO co ky c lk t = true → ocs bt t ≤ cap) → POq fu c p lk M L k cap S (isO co ky c lk) bt pe tu (fX19_packOne_h6 fu (sI c) (bI lk) (sI p) q (bI (decide (0 < cnt (isO co ky c lk) s)), sI s, B, L)) := by
    intro r
    induction r with
    | zero =>
      intro s q B hs hq hB hle
      obtain ⟨q', rfl⟩ : ∃ y, q = y + 1 := ⟨q - 1, by omega⟩
      have es : s = S := by omega
      subst es
      refine Or.inl ⟨B, hB, hle, ?_⟩
      show fX19_packOne_i6 fu (sI c) (bI lk) (sI p) (fX19_packOne_h6 fu (sI c) (bI lk) (sI p) q') (bI (decide (0 < cnt (isO co ky c lk) s))) (sI s) B L = _
      have e45 : B 732 45 = sI s := by rw [hB.2.2.2.1 _ _ (by omega) (by omega)]; exact hS.1
      unfold fX19_packOne_i6
      rw [e45, if_pos (by rw [sI_le (by omega) (by omega)]; omega)]
      by_cases z : 0 < cnt (isO co ky c lk) s
      · rw [decide_eq_true z, bI_t, if_neg (show ¬ (1 : Int32) = 0 by decide), if_pos z, mck_s hp (by omega), sI_nn (by omega), ← hk]
      · rw [decide_eq_false z, bI_f, if_pos (show (0 : Int32) = 0 from rfl), if_neg z]
    | succ r ih =>
      intro s q B hs hq hB hle
      obtain ⟨q', rfl⟩ : ∃ y, q = y + 1 := ⟨q - 1, by omega⟩
      have un : fX19_packOne_h6 fu (sI c) (bI lk) (sI p) (q' + 1) (bI (decide (0 < cnt (isO co ky c lk) s)), sI s, B, L) = fX19_packOne_i6 fu (sI c) (bI lk) (sI p) (fX19_packOne_h6 fu (sI c) (bI lk) (sI p) q') (bI (decide (0 < cnt (isO co ky c lk) s))) (sI s) B L := rfl
      rw [un]
      obtain ⟨p1, p2, p3, p4, p5⟩ := id hB
      have hSB : SgM B S bt pe co tu := SgM_f hS (fun a y w => p4 a y (by omega) (by omega))
      have hKB : KyM B K ka kp kn := KyM_f hK (fun a y w => p4 a y (by omega) (by omega))
      obtain ⟨a1, a2, a3, a4, a5, a6, a7, a8, ct, tk, a9, a10, a11, a12, a13⟩ := hSB.2.2 s (by omega)
      have hn40 := cnt_le (isO co ky c lk) s
      -- it doesn't belong here
      have skip : isO co ky c lk s = false → POq fu c p lk M L k cap S (isO co ky c lk) bt pe tu (fX19_packOne_b149 fu (sI c) (bI lk) (sI p) (fX19_packOne_h6 fu (sI c) (bI lk) (sI p) q') (bI (decide (0 < cnt (isO co ky c lk) s))) (sI s) B L) := by
        intro hf
        have ec : cnt (isO co ky c lk) (s + 1) = cnt (isO co ky c lk) s := by rw [cnt_sc, hf, if_neg (by decide), Nat.add_zero]
        have nx := ih (s + 1) q' B (by omega) (by omega) ⟨by rw [ec]; exact p1, fun t ht pt => by
          by_cases e : t = s
          · rw [e, hf] at pt; cases pt
          · exact p2 t (by omega) pt, p3, p4, p5⟩ (fun t ht pt => by
          by_cases e : t = s
          · rw [e, hf] at pt; cases pt
          · exact hle t (by omega) pt)
        unfold fX19_packOne_b149
        simp only [mlet]
        rw [sI_1]
        rw [ec] at nx
        exact nx
      -- it is told
      have tell : isO co ky c lk s = true → ∀ C : mwM, PsM C k (cnt (isO co ky c lk) s) cap (fun l => bt (sof (isO co ky c lk) l S)) (fun l => pe (sof (isO co ky c lk) l S)) (fun l => tu (sof (isO co ky c lk) l S)) → C k 15 = 0 → (∀ a y, ¬ (k ≤ a ∧ a ≤ k + 14) → C a y = B a y) → (∀ y, C (k + 8) y = B (k + 8) y) → POq fu c p lk M L k cap S (isO co ky c lk) bt pe tu (fX19_packOne_b85 fu (sI c) (bI lk) (sI p) (fX19_packOne_h6 fu (sI c) (bI lk) (sI p) q') (sI s) C L) := by
        intro ht C hC c15 cf c8
        unfold fX19_packOne_b85
        simp only [mlet]
        rw [mck_s hp (by omega), mck_s (show s < 40 by omega) (by omega), mck_s (show s < 40 by omega) (by omega), mck_s (show s < 40 by omega) (by omega), sI_nn (show p < 2000000000 by omega), sI_nn (show s < 2000000000 by omega), ← hk, cf 761 s (by omega), cf 764 s (by omega), cf 765 s (by omega), a1, a4, a7]
        obtain ⟨w1, w2⟩ := m_signal (fu := fu) (k := k) (n := cnt (isO co ky c lk) s) (b := bt s) (p := pe s) (cap := cap) (t := tu s) (M := C) (L := L) hC.1 hcap8 hC.2.2.1.1 (by omega) a2 a3 (by omega) a6
        by_cases big : cap < (bt s + 7) / 8
        · rw [w1 big, mb3_s, mck_s (show s < 40 by omega) (by omega), mck_s (show s < 40 by omega) (by omega), mset_s, if_pos (show (0 : Int32) = 0 from rfl), mck_s (show s < 40 by omega) (by omega)]
          unfold DX19_fail
          simp only [mlet]
          rw [mb3_s]
          unfold mzz
          rw [if_pos (Or.inl rfl)]
          refine Or.inr ⟨s, _, by omega, ht, big, hle, rfl, by rw [mset_n (by omega), mset_s], by rw [mset_s, mset_n (by omega), mset_n (by omega), cf 760 s (by omega)]; exact p4 _ _ (by omega) (by omega), fun a y q1 q2 q3 => ?_, fun y => ?_⟩
          · rw [mset_n (by omega), mset_n (by omega), mset_n (by omega), mset_n (by omega), cf a y q1]
            exact p4 a y q1 q2
          · rw [mset_n (by omega), mset_n (by omega), mset_n (by omega), mset_n (by omega), c8 y]
            exact p5 y
        · obtain ⟨C', v0, v2, v3, v4, v5, v6, v7, v8, v9, v10, v11, v12⟩ := w2 (by omega)
          rw [v0, mb3_s, mck_s (show s < 40 by omega) (by omega), mck_s (show s < 40 by omega) (by omega), mset_s, if_neg (by rw [show (0 : Int32) = sI 0 from rfl, sI_eq (by omega) (by omega)]; omega)]
          have ec : cnt (isO co ky c lk) (s + 1) = cnt (isO co ky c lk) s + 1 := by rw [cnt_sc, ht, if_pos rfl]
          have esf : sof (isO co ky c lk) (cnt (isO co ky c lk) s + 1) S = s := sof_lx ht S (by omega)
          have c80 : C (k + 8) (cnt (isO co ky c lk) s + 1) = 0 := by rw [c8, p5]; exact h8 _ (by omega)
          have hC' := PsM_add hC (by omega) v2 v3 v4 v5 v6 v7 v9 c80 v11 v12 a2 a3 (by omega) a6 (by omega) (by first | rw [esf] | (dsimp only; rw [esf])) (by first | rw [esf] | (dsimp only; rw [esf])) (by first | rw [esf] | (dsimp only; rw [esf]))
          have nx := ih (s + 1) q' (mset C' 766 s (sI (cnt (isO co ky c lk) s + 1))) (by omega) (by omega) ⟨fun _ => by
              rw [ec]
              refine ⟨PsM_f hC' (fun a y w => by rw [mset_n (by omega)]), by rw [mset_n (by omega), v12 _ _ (by omega) (by omega)]; exact c15⟩, fun t ht' pt => by
              by_cases e : t = s
              · rw [e, mset_s]; rfl
              · rw [mset_n (by omega), v12 _ _ (by omega) (by omega), cf _ _ (by omega)]; exact p2 t (by omega) pt, fun y hy => by
              have e : y ≠ s := fun w => by rw [w, ht] at hy; cases hy
              rw [mset_n (by omega), v12 _ _ (by omega) (by omega), cf _ _ (by omega)]; exact p3 y hy, fun a y q1 q2 => by
              rw [mset_n (by omega), v12 _ _ (by omega) (by omega), cf _ _ q1]; exact p4 a y q1 q2, fun y => by
              rw [mset_n (by omega), v12 _ _ (by omega) (by omega), c8]; exact p5 y⟩ (fun t ht' pt => by
              by_cases e : t = s
              · rw [e]; show (bt s + 7) / 8 ≤ cap; omega
              · exact hle t (by omega) pt)
          unfold fX19_packOne_b149
          simp only [mlet]
          rw [sI_1]
          rw [ec, decide_eq_true (show 0 < cnt (isO co ky c lk) s + 1 by omega), bI_t] at nx
          exact nx
      -- its turn
      have turn : isO co ky c lk s = true → POq fu c p lk M L k cap S (isO co ky c lk) bt pe tu (fX19_packOne_b54 fu (sI c) (bI lk) (sI p) (fX19_packOne_h6 fu (sI c) (bI lk) (sI p) q') (bI (decide (0 < cnt (isO co ky c lk) s))) (sI s) (bI lk) B L) := by
        intro ht
        unfold fX19_packOne_b54
        rw [if_pos rfl]
        by_cases z : 0 < cnt (isO co ky c lk) s
        · rw [decide_eq_true z, bI_t, if_neg (show ¬ (1 : Int32) = 0 by decide)]
          exact tell ht B (p1 z).1 (p1 z).2 (fun _ _ _ => rfl) (fun _ => rfl)
        · rw [decide_eq_false z, bI_f, if_pos (show (0 : Int32) = 0 from rfl), mck_s hp (by omega), sI_nn (by omega), ← hk, Nat.add_zero]
          have b82 : POq fu c p lk M L k cap S (isO co ky c lk) bt pe tu (fX19_packOne_b82 fu (sI c) (bI lk) (sI p) (fX19_packOne_h6 fu (sI c) (bI lk) (sI p) q') (sI s) k (sI cap) B L) := by
            obtain ⟨C, x1, x2, x3, x4, x5⟩ := m_anewP (fu := fu) (k := k) (x := sI cap) (M := B) (L := L) (by omega)
            unfold fX19_packOne_b82
            rw [x1, mb2_s]
            have e0 : cnt (isO co ky c lk) s = 0 := by omega
            refine tell ht C ?_ x4 (fun a y w => x5 a y (by omega) (by omega)) (fun y => x5 _ _ (by omega) (by omega))
            rw [e0]
            exact ⟨x2, hcap8, ⟨x3, by omega, fun l l1 l2 => by omega⟩, fun l l1 l2 => by omega⟩
          cases lk with
          | false =>
            rw [if_neg (by decide)] at hcap
            rw [hcap] at b82
            rw [bI_f, if_pos (show (0 : Int32) = 0 from rfl)]
            rw [hcap]
            exact b82
          | true =>
            rw [if_pos rfl] at hcap
            rw [hcap] at b82
            rw [bI_t, if_neg (show ¬ (1 : Int32) = 0 by decide)]
            rw [hcap]
            exact b82
      unfold fX19_packOne_i6
      rw [hSB.1, if_neg (by rw [sI_le (by omega) (by omega)]; omega), m_senderOf hSB (by omega), mb3_s, mck_s (show s < 40 by omega) (by omega), sI_nn (show s < 2000000000 by omega), a4, m_keyOf (by omega) hKB a8 a6, mb3_s, m_senderOf hSB (by omega), mb3_s, ← hky s (by omega)]
      have h16 := hky16 s (by omega)
      by_cases e1 : co s = c
      · rw [if_pos (by rw [e1])]
        by_cases e2 : ky s = 0
        · rw [if_pos (by rw [e2]; decide)]
          cases hlk : lk with
          | false =>
            have ht : isO co ky c lk s = true := by unfold isO; rw [decide_eq_true e1, decide_eq_false (fun w => w e2), hlk]; rfl
            have := turn ht
            rw [hlk] at this
            exact this
          | true =>
            have ht : isO co ky c lk s = false := by unfold isO; rw [decide_eq_true e1, decide_eq_false (fun w => w e2), hlk]; rfl
            have := skip ht
            rw [hlk] at this
            unfold fX19_packOne_b54
            rw [if_neg (by decide)]
            exact this
        · rw [if_neg (by rw [sI_lel (by omega) (by decide)]; omega)]
          cases hlk : lk with
          | true =>
            have ht : isO co ky c lk s = true := by unfold isO; rw [decide_eq_true e1, decide_eq_true e2, hlk]; rfl
            have := turn ht
            rw [hlk] at this
            exact this
          | false =>
            have ht : isO co ky c lk s = false := by unfold isO; rw [decide_eq_true e1, decide_eq_true e2, hlk]; rfl
            have := skip ht
            rw [hlk] at this
            unfold fX19_packOne_b54
            rw [if_neg (by decide)]
            exact this
      · rw [if_neg (by rw [sI_eq (by omega) (by omega)]; exact e1)]
        exact skip (by unfold isO; rw [decide_eq_false e1]; rfl)
  have st := key S 0 fu M (by omega) (by omega) ⟨fun w => by have e : cnt (isO co ky c lk) 0 = 0 := rfl; omega, fun t w => by omega, fun _ _ => rfl, fun _ _ _ _ => rfl, fun _ => rfl⟩ (fun t w => by omega)
  exact st
