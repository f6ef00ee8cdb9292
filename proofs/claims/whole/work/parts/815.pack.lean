/-! the reference lists a pack's frames -/
theorem mlet_e {α β : Type} {x : α} {f : α → Option β} : mlet x f = f x := rfl
theorem m_noneP {fu k n l : Nat} {M : mwM} {L : mwL} (h2 : M k 2 = sI n) (hn : n ≤ 40) (l1 : 1 ≤ l) (l2 : l ≤ n) : DX16_none fu k (sI l) M L = some (0, M, L) := by
  unfold DX16_none fX16_none_b18
  rw [h2, if_neg (by rw [sI_ltl (by omega) (by decide)]; omega), if_pos (by rw [sI_le (by omega) (by omega)]; omega)]
  unfold mzz
  rw [if_pos (Or.inl rfl)]
theorem m_isNowhere {fu k n l f : Nat} {M : mwM} {L : mwL} (h2 : M k 2 = sI n) (h15 : M k 15 = 1) (hn : n ≤ 40) (l1 : 1 ≤ l) (l2 : l ≤ n) (hf : M (k + 12) (129 + l) = sI f) (f1 : 1 ≤ f) (f2 : f ≤ 64) : DX16_isNowhere fu k (sI l) M L = some (0, M, L) := by
  unfold DX16_isNowhere fX16_isNowhere_b31
  rw [m_noneP h2 hn l1 l2, mb3_s, if_pos (show (0 : Int32) = 0 from rfl), h15, s129, mck_s (by omega) (by omega), sI_nn (by omega), hf, if_neg (by rw [show (0 : Int32) = sI 0 from rfl, sI_eq (by omega) (by omega)]; omega)]
  unfold mzz
  rw [if_pos (Or.inl rfl)]
theorem m_place {fu k n l f b : Nat} {M : mwM} {L : mwL} (h2 : M k 2 = sI n) (h15 : M k 15 = 1) (hn : n ≤ 40) (l1 : 1 ≤ l) (l2 : l ≤ n) (hf : M (k + 12) (129 + l) = sI f) (f1 : 1 ≤ f) (f2 : f ≤ 64) (hb : M (k + 13) (129 + l) = sI b) : DX16_place fu k (sI l) 0 M L = some (sI f, mset M k 0 0, L) ∧ DX16_place fu k (sI l) 1 M L = some (sI b, mset M k 0 0, L) := by
  have r0 : ∀ a y, ¬ (a = k ∧ y = 0) → mset M k 0 0 a y = M a y := fun a y w => mset_n w
  have c2 : mset M k 0 0 k 2 = sI n := by rw [r0 _ _ (by omega)]; exact h2
  have c15 : mset M k 0 0 k 15 = 1 := by rw [r0 _ _ (by omega)]; exact h15
  have cf : mset M k 0 0 (k + 12) (129 + l) = sI f := by rw [r0 _ _ (by omega)]; exact hf
  have cb : mset M k 0 0 (k + 13) (129 + l) = sI b := by rw [r0 _ _ (by omega)]; exact hb
  constructor
  · unfold DX16_place fX16_place_b92
    rw [mlet_e, m_noneP c2 hn l1 l2, mb3_s, if_pos (show (0 : Int32) = 0 from rfl), if_neg (show ¬ (0 : Int32) < 0 by decide), if_pos (show (0 : Int32) ≤ 2 by decide), m_isNowhere c2 c15 hn l1 l2 cf f1 f2, mb3_s, if_pos (show (0 : Int32) = 0 from rfl), if_pos (show (0 : Int32) = 0 from rfl), c15, s129, mck_s (by omega) (by omega), sI_nn (by omega), cf]
  · unfold DX16_place fX16_place_b92
    rw [mlet_e, m_noneP c2 hn l1 l2, mb3_s, if_pos (show (0 : Int32) = 0 from rfl), if_neg (show ¬ (1 : Int32) < 0 by decide), if_pos (show (1 : Int32) ≤ 2 by decide), m_isNowhere c2 c15 hn l1 l2 cf f1 f2, mb3_s, if_pos (show (0 : Int32) = 0 from rfl), if_neg (show ¬ (1 : Int32) = 0 by decide), if_pos (show (1 : Int32) = 1 from rfl), c15, s129, mck_s (by omega) (by omega), sI_nn (by omega), cb]
/-- frames 1 .. f of a pack are listed; of frame f + 1 the signals below s -/
def PFs (M B : mwM) (k c p F0 S : Nat) (P : Nat → Bool) (pe ky fr oc : Nat → Nat) (f s : Nat) : Prop :=
  (∀ t, t < S → P t = true → (fr (lxf P t) ≤ f ∨ (fr (lxf P t) = f + 1 ∧ t < s)) → B 767 t = sI (F0 + fr (lxf P t) - 1) ∧ B 768 t = sI (8 * oc (lxf P t)) ∧ B 782 (F0 + fr (lxf P t) - 1) = sI (pe t) ∧ B 783 (F0 + fr (lxf P t) - 1) = sI (ky t)) ∧ (∀ t, P t = false → B 767 t = M 767 t ∧ B 768 t = M 768 t) ∧ ∀ a y, ¬ (a = k ∧ y = 0) → ¬ (a = 732 ∧ y = 67) → a ≠ 767 → a ≠ 768 → ¬ ((779 ≤ a ∧ a ≤ 783 ∨ a = 785) ∧ F0 ≤ y) → B a y = M a y
def PFx (B : mwM) (c p F0 : Nat) (f : Nat) : Prop := ∀ x, x < f → B 779 (F0 + x) = sI c ∧ B 780 (F0 + x) = sI p ∧ B 781 (F0 + x) = sI (x + 1) ∧ B 785 (F0 + x) = 0
theorem m_pO2 {fu c p k cap S K n F0 G : Nat} {lk : Bool} {M : mwM} {L : mwL} {bt pe co ky ka kp kn fr oc : Nat → Nat} {tu : Nat → Bool} (hfu : 600 ≤ fu) (hc : c < 6) (hp : p < 12) (hk : k = 941 + 53 * p) (hS : SgM M S bt pe co tu) (hK : KyM M K ka kp kn) (hky : ∀ s, s < S → ky s = kyf ka kp kn (co s) (pe s) K 0) (hn : n = cnt (isO co ky c lk) S) (hG0 : G = 0 → n = 0) (h2 : 0 < G → M k 2 = sI n) (h15 : 0 < G → M k 15 = 1) (hat : 0 < G → ∀ l, 1 ≤ l → l ≤ n → M (k + 12) (129 + l) = sI (fr l) ∧ M (k + 13) (129 + l) = sI (8 * oc l) ∧ 1 ≤ fr l ∧ fr l ≤ G ∧ oc l ≤ 8) (h766 : ∀ t, t < S → isO co ky c lk t = true → M 766 t = sI (lxf (isO co ky c lk) t)) (hsame : ∀ s t, s < S → t < S → isO co ky c lk s = true → isO co ky c lk t = true → fr (lxf (isO co ky c lk) s) = fr (lxf (isO co ky c lk) t) → pe s = pe t ∧ ky s = ky t) (hF : M 732 67 = sI F0) (h40 : F0 + G ≤ 40) : ∃ M', fX19_packOne_b176 fu (sI c) (bI lk) (sI p) (sI G) M L = some (1, M', L) ∧ M' 732 67 = sI (F0 + G) ∧ PFx M' c p F0 G ∧ PFs M M' k c p F0 S (isO co ky c lk) pe ky fr oc G 0 := by
  have hS40 := hS.2.1
  have hky16 : ∀ s, s < S → ky s ≤ 16 := fun s hs => by rw [hky s hs]; exact kyf_le _ _ (fun j hj => (hK.2.2 j (by omega)).2.2.2.2.2)
  unfold fX19_packOne_b176
  -- the signals of one frame
  have inner : ∀ (f : Nat), f < G → ∀ (rr : (Int32 × Int32 × mwM × mwL) → Option (Int32 × mwM × mwL)) (r s q : Nat) (B : mwM), s + r = S → r < q → B 732 67 = sI (F0 + f) → PFx B c p F0 (f + 1) → PFs M B k c p F0 S (isO co ky c lk) pe ky fr oc f s → ∃ B', fX19_packOne_h232 fu (sI c) (bI lk) (sI p) rr q (sI G, sI (f + 1), sI s, B, L) = rr (sI G, sI (f + 1 + 1), B', L) ∧ B' 732 67 = sI (F0 + (f + 1)) ∧ PFx B' c p F0 (f + 1) ∧ PFs M B' k c p F0 S (isO co ky c lk) pe ky fr oc (f + 1) 0 := by
    intro f hf rr r
    induction r with
    | zero =>
      intro s q B hs hq b67 bx bs
      obtain ⟨q', rfl⟩ : ∃ y, q = y + 1 := ⟨q - 1, by omega⟩
      have es : s = S := by omega
      subst es
      have un : fX19_packOne_h232 fu (sI c) (bI lk) (sI p) rr (q' + 1) (sI G, sI (f + 1), sI s, B, L) = fX19_packOne_i232 fu (sI c) (bI lk) (sI p) rr (fX19_packOne_h232 fu (sI c) (bI lk) (sI p) rr q') (sI G) (sI (f + 1)) (sI s) B L := rfl
      obtain ⟨p1, p2, p3⟩ := bs
      refine ⟨mset B 732 67 (sI (F0 + f + 1)), ?_, by rw [mset_s, Nat.add_assoc], fun x hx => ?_, fun t t1 t2 t3 => ?_, fun t t1 => ?_, fun a y w1 w2 w3 w4 w5 => ?_⟩
      · rw [un]
        unfold fX19_packOne_i232
        simp only [mlet]
        rw [p3 732 45 (by omega) (by omega) (by omega) (by omega) (by omega), hS.1, if_pos (by rw [sI_le (by omega) (by omega)]; omega), b67, sI_1, sI_1]
      · rw [mset_n (by omega), mset_n (by omega), mset_n (by omega), mset_n (by omega)]
        exact bx x hx
      · rw [mset_n (by omega), mset_n (by omega), mset_n (by omega), mset_n (by omega)]
        exact p1 t t1 t2 (by omega)
      · rw [mset_n (by omega), mset_n (by omega)]
        exact p2 t t1
      · rw [mset_n (by omega)]
        exact p3 a y w1 w2 w3 w4 w5
    | succ r ih =>
      intro s q B hs hq b67 bx bs
      obtain ⟨q', rfl⟩ : ∃ y, q = y + 1 := ⟨q - 1, by omega⟩
      have un : fX19_packOne_h232 fu (sI c) (bI lk) (sI p) rr (q' + 1) (sI G, sI (f + 1), sI s, B, L) = fX19_packOne_i232 fu (sI c) (bI lk) (sI p) rr (fX19_packOne_h232 fu (sI c) (bI lk) (sI p) rr q') (sI G) (sI (f + 1)) (sI s) B L := rfl
      rw [un]
      obtain ⟨p1, p2, p3⟩ := id bs
      have hSB : SgM B S bt pe co tu := SgM_f hS (fun a y w => p3 a y (by omega) (by omega) (by omega) (by omega) (by omega))
      have hKB : KyM B K ka kp kn := KyM_f hK (fun a y w => p3 a y (by omega) (by omega) (by omega) (by omega) (by omega))
      obtain ⟨a1, a2, a3, a4, a5, a6, a7, a8, ct, tk, a9, a10, a11, a12, a13⟩ := hSB.2.2 s (by omega)
      -- the next signal
      have step : ∀ C : mwM, C 732 67 = sI (F0 + f) → PFx C c p F0 (f + 1) → PFs M C k c p F0 S (isO co ky c lk) pe ky fr oc f (s + 1) → ∃ B', fX19_packOne_b371 fu (sI c) (bI lk) (sI p) rr (fX19_packOne_h232 fu (sI c) (bI lk) (sI p) rr q') (sI G) (sI (f + 1)) (sI s) C L = rr (sI G, sI (f + 1 + 1), B', L) ∧ B' 732 67 = sI (F0 + (f + 1)) ∧ PFx B' c p F0 (f + 1) ∧ PFs M B' k c p F0 S (isO co ky c lk) pe ky fr oc (f + 1) 0 := by
        intro C c67 cx cs
        unfold fX19_packOne_b371
        simp only [mlet]
        rw [sI_1]
        exact ih (s + 1) q' C (by omega) (by omega) c67 cx cs
      have skip : isO co ky c lk s = false → ∃ B', fX19_packOne_b371 fu (sI c) (bI lk) (sI p) rr (fX19_packOne_h232 fu (sI c) (bI lk) (sI p) rr q') (sI G) (sI (f + 1)) (sI s) B L = rr (sI G, sI (f + 1 + 1), B', L) ∧ B' 732 67 = sI (F0 + (f + 1)) ∧ PFx B' c p F0 (f + 1) ∧ PFs M B' k c p F0 S (isO co ky c lk) pe ky fr oc (f + 1) 0 := by
        intro hf0
        refine step B b67 bx ⟨fun t t1 t2 t3 => ?_, p2, p3⟩
        have e : t ≠ s := fun w => by rw [w, hf0] at t2; cases t2
        exact p1 t t1 t2 (by omega)
      have turn : isO co ky c lk s = true → ∃ B', fX19_packOne_b280 fu (sI c) (bI lk) (sI p) rr (fX19_packOne_h232 fu (sI c) (bI lk) (sI p) rr q') (sI G) (sI (f + 1)) (sI s) (sI (ky s)) (bI lk) B L = rr (sI G, sI (f + 1 + 1), B', L) ∧ B' 732 67 = sI (F0 + (f + 1)) ∧ PFx B' c p F0 (f + 1) ∧ PFs M B' k c p F0 S (isO co ky c lk) pe ky fr oc (f + 1) 0 := by
        intro ht
        have hl := cnt_in (show s < S by omega) ht
        rw [← hn] at hl
        have hl1 := lxf_1 (P := isO co ky c lk) (s := s)
        have hn40 := cnt_le (isO co ky c lk) S
        obtain ⟨d1, d2, d3, d4, d5⟩ := hat (by omega) _ hl1 hl
        have c766 : B 766 s = sI (lxf (isO co ky c lk) s) := by rw [p3 _ _ (by omega) (by omega) (by omega) (by omega) (by omega)]; exact h766 s (by omega) ht
        have rk : ∀ a y, (k + 1 ≤ a ∧ a ≤ k + 40) ∨ (a = k ∧ y ≠ 0) → B a y = M a y := fun a y w => p3 a y (by omega) (by omega) (by omega) (by omega) (by omega)
        have pl := m_place (fu := fu) (k := k) (n := n) (l := lxf (isO co ky c lk) s) (M := B) (L := L) (by rw [rk _ _ (by omega)]; exact h2 (by omega)) (by rw [rk _ _ (by omega)]; exact h15 (by omega)) (by omega) hl1 hl (by rw [rk _ _ (by omega)]; exact d1) d3 (by omega) (by rw [rk _ _ (by omega)]; exact d2)
        unfold fX19_packOne_b280
        rw [if_pos rfl, mck_s hp (by omega), mck_s (show s < 40 by omega) (by omega), sI_nn (show p < 2000000000 by omega), sI_nn (show s < 2000000000 by omega), ← hk, c766, pl.1, mb3_s]
        generalize hC : mset B k 0 0 = C
        have tC : ∀ a y, ¬ (a = k ∧ y = 0) → C a y = B a y := fun a y w => by rw [← hC, mset_n w]
        have C67 : C 732 67 = sI (F0 + f) := by rw [tC _ _ (by omega)]; exact b67
        by_cases ef : fr (lxf (isO co ky c lk) s) = f + 1
        · rw [if_pos (by rw [ef]), mck_s (show s < 40 by omega) (by omega), C67, mck_s (show F0 + f < 40 by omega) (by omega), sI_nn (show F0 + f < 2000000000 by omega), tC 764 s (by omega), a4]
          simp only [mlet]
          generalize hD : mset C 782 (F0 + f) (sI (pe s)) = D
          have D67 : D 732 67 = sI (F0 + f) := by rw [← hD, mset_n (by omega)]; exact C67
          rw [D67, mck_s (show F0 + f < 40 by omega) (by omega), sI_nn (show F0 + f < 2000000000 by omega)]
          generalize hE : mset D 783 (F0 + f) (sI (ky s)) = E
          have E67 : E 732 67 = sI (F0 + f) := by rw [← hE, mset_n (by omega)]; exact D67
          rw [E67, mck_s (show s < 40 by omega) (by omega), mck_s hp (by omega), mck_s (show s < 40 by omega) (by omega)]
          generalize hH : mset E 767 s (sI (F0 + f)) = H
          have tH : ∀ a y, ¬ (a = k ∧ y = 0) → ¬ (a = 782 ∧ y = F0 + f) → ¬ (a = 783 ∧ y = F0 + f) → ¬ (a = 767 ∧ y = s) → H a y = B a y := fun a y w1 w2 w3 w4 => by rw [← hH, mset_n (by omega), ← hE, mset_n (by omega), ← hD, mset_n (by omega), tC a y w1]
          have rH : ∀ a y, (k + 1 ≤ a ∧ a ≤ k + 40) ∨ (a = k ∧ y ≠ 0) → H a y = M a y := fun a y w => by rw [tH a y (by omega) (by omega) (by omega) (by omega)]; exact rk a y w
          have pl2 := m_place (fu := fu) (k := k) (n := n) (l := lxf (isO co ky c lk) s) (M := H) (L := L) (by rw [rH _ _ (by omega)]; exact h2 (by omega)) (by rw [rH _ _ (by omega)]; exact h15 (by omega)) (by omega) hl1 hl (by rw [rH _ _ (by omega)]; exact d1) d3 (by omega) (by rw [rH _ _ (by omega)]; exact d2)
          rw [tH 766 s (by omega) (by omega) (by omega) (by omega), c766, pl2.2, mb3_s, mck_s (show s < 40 by omega) (by omega)]
          generalize hJ : mset (mset H k 0 0) 768 s (sI (8 * oc (lxf (isO co ky c lk) s))) = J
          have tJ : ∀ a y, ¬ (a = k ∧ y = 0) → ¬ (a = 782 ∧ y = F0 + f) → ¬ (a = 783 ∧ y = F0 + f) → ¬ (a = 767 ∧ y = s) → ¬ (a = 768 ∧ y = s) → J a y = B a y := fun a y w1 w2 w3 w4 w5 => by rw [← hJ, mset_n w5, mset_n w1]; exact tH a y w1 w2 w3 w4
          have j767 : J 767 s = sI (F0 + f) := by rw [← hJ, mset_n (by omega), mset_n (by omega), ← hH, mset_s]
          have j768 : J 768 s = sI (8 * oc (lxf (isO co ky c lk) s)) := by rw [← hJ, mset_s]
          have j782 : J 782 (F0 + f) = sI (pe s) := by rw [← hJ, mset_n (by omega), mset_n (by omega), ← hH, mset_n (by omega), ← hE, mset_n (by omega), ← hD, mset_s]
          have j783 : J 783 (F0 + f) = sI (ky s) := by rw [← hJ, mset_n (by omega), mset_n (by omega), ← hH, mset_n (by omega), ← hE, mset_s]
          refine step J (by rw [tJ _ _ (by omega) (by omega) (by omega) (by omega) (by omega)]; exact b67) (fun x hx => ?_) ⟨fun t t1 t2 t3 => ?_, fun t t1 => ?_, fun a y w1 w2 w3 w4 w5 => ?_⟩
          · rw [tJ _ _ (by omega) (by omega) (by omega) (by omega) (by omega), tJ _ _ (by omega) (by omega) (by omega) (by omega) (by omega), tJ _ _ (by omega) (by omega) (by omega) (by omega) (by omega), tJ _ _ (by omega) (by omega) (by omega) (by omega) (by omega)]
            exact bx x hx
          · by_cases e : t = s
            · subst e
              rw [ef, show F0 + (f + 1) - 1 = F0 + f from by omega]
              exact ⟨j767, j768, j782, j783⟩
            · have hl' := cnt_in (show t < S by omega) t2
              rw [← hn] at hl'
              obtain ⟨d1', d2', d3', d4', d5'⟩ := hat (by omega) _ (lxf_1 (P := isO co ky c lk) (s := t)) hl'
              obtain ⟨u1, u2, u3, u4⟩ := p1 t t1 t2 (by omega)
              refine ⟨by rw [tJ _ _ (by omega) (by omega) (by omega) (by omega) (by omega)]; exact u1, by rw [tJ _ _ (by omega) (by omega) (by omega) (by omega) (by omega)]; exact u2, ?_, ?_⟩
              · by_cases e2 : fr (lxf (isO co ky c lk) t) = f + 1
                · rw [e2, show F0 + (f + 1) - 1 = F0 + f from by omega, j782, (hsame s t (by omega) t1 ht t2 (by rw [ef, e2])).1]
                · rw [tJ _ _ (by omega) (by omega) (by omega) (by omega) (by omega)]; exact u3
              · by_cases e2 : fr (lxf (isO co ky c lk) t) = f + 1
                · rw [e2, show F0 + (f + 1) - 1 = F0 + f from by omega, j783, (hsame s t (by omega) t1 ht t2 (by rw [ef, e2])).2]
                · rw [tJ _ _ (by omega) (by omega) (by omega) (by omega) (by omega)]; exact u4
          · have e : t ≠ s := fun w => by rw [w, ht] at t1; cases t1
            rw [tJ _ _ (by omega) (by omega) (by omega) (by omega) (by omega), tJ _ _ (by omega) (by omega) (by omega) (by omega) (by omega)]
            exact p2 t t1
          · rw [tJ a y w1 (by omega) (by omega) (by omega) (by omega)]
            exact p3 a y w1 w2 w3 w4 w5
        · rw [if_neg (by rw [sI_eq (by omega) (by omega)]; exact ef)]
          refine step C C67 (fun x hx => ?_) ⟨fun t t1 t2 t3 => ?_, fun t t1 => ?_, fun a y w1 w2 w3 w4 w5 => ?_⟩
          · rw [tC _ _ (by omega), tC _ _ (by omega), tC _ _ (by omega), tC _ _ (by omega)]
            exact bx x hx
          · rw [tC _ _ (by omega), tC _ _ (by omega), tC _ _ (by omega), tC _ _ (by omega)]
            refine p1 t t1 t2 ?_
            by_cases e : t = s
            · rw [e] at t3 ⊢; omega
            · omega
          · rw [tC _ _ (by omega), tC _ _ (by omega)]
            exact p2 t t1
          · rw [tC a y w1]
            exact p3 a y w1 w2 w3 w4 w5
      unfold fX19_packOne_i232
      rw [hSB.1, if_neg (by rw [sI_le (by omega) (by omega)]; omega), m_senderOf hSB (by omega), mb3_s, mck_s (show s < 40 by omega) (by omega), sI_nn (show s < 2000000000 by omega), a4, m_keyOf (by omega) hKB a8 a6, mb3_s, m_senderOf hSB (by omega), mb3_s, ← hky s (by omega)]
      have h16 := hky16 s (by omega)
      by_cases e1 : co s = c
      · rw [if_pos (by rw [e1])]
        by_cases e2 : ky s = 0
        · rw [if_pos (by rw [e2]; decide)]
          cases hlk : lk with
          | false =>
            have ht : isO co ky c lk s = true := by unfold isO; rw [decide_eq_true e1, decide_eq_false (fun w => w e2), hlk]; rfl
            have := turn ht
            rw [hlk] at this
            exact this
          | true =>
            have ht : isO co ky c lk s = false := by unfold isO; rw [decide_eq_true e1, decide_eq_false (fun w => w e2), hlk]; rfl
            have := skip ht
            rw [hlk] at this
            unfold fX19_packOne_b280
            rw [if_neg (by decide)]
            exact this
        · rw [if_neg (by rw [sI_lel (by omega) (by decide)]; omega)]
          cases hlk : lk with
          | true =>
            have ht : isO co ky c lk s = true := by unfold isO; rw [decide_eq_true e1, decide_eq_true e2, hlk]; rfl
            have := turn ht
            rw [hlk] at this
            exact this
          | false =>
            have ht : isO co ky c lk s = false := by unfold isO; rw [decide_eq_true e1, decide_eq_true e2, hlk]; rfl
            have := skip ht
            rw [hlk] at this
            unfold fX19_packOne_b280
            rw [if_neg (by decide)]
            exact this
      · rw [if_neg (by rw [sI_eq (by omega) (by omega)]; exact e1)]
        exact skip (by unfold isO; rw [decide_eq_false e1]; rfl)
  -- the frames
  have outer : ∀ (r f q : Nat) (B : mwM), f + r = G → r < q → B 732 67 = sI (F0 + f) → PFx B c p F0 f → PFs M B k c p F0 S (isO co ky c lk) pe ky fr oc f 0 → ∃ M', fX19_packOne_h181 fu (sI c) (bI lk) (sI p) q (sI G, sI (f + 1), B, L) = some (1, M', L) ∧ M' 732 67 = sI (F0 + G) ∧ PFx M' c p F0 G ∧ PFs M M' k c p F0 S (isO co ky c lk) pe ky fr oc G 0 := by
    intro r
    induction r with
    | zero =>
      intro f q B hf hq b67 bx bs
      obtain ⟨q', rfl⟩ : ∃ y, q = y + 1 := ⟨q - 1, by omega⟩
      have ef : f = G := by omega
      subst ef
      refine ⟨B, ?_, b67, bx, bs⟩
      show fX19_packOne_i181 fu (sI c) (bI lk) (sI p) (fX19_packOne_h181 fu (sI c) (bI lk) (sI p) q') (sI f) (sI (f + 1)) B L = _
      unfold fX19_packOne_i181
      rw [if_pos (by rw [sI_lt (by omega) (by omega)]; omega)]
    | succ r ih =>
      intro f q B hf hq b67 bx bs
      obtain ⟨q', rfl⟩ : ∃ y, q = y + 1 := ⟨q - 1, by omega⟩
      have un : fX19_packOne_h181 fu (sI c) (bI lk) (sI p) (q' + 1) (sI G, sI (f + 1), B, L) = fX19_packOne_i181 fu (sI c) (bI lk) (sI p) (fX19_packOne_h181 fu (sI c) (bI lk) (sI p) q') (sI G) (sI (f + 1)) B L := rfl
      rw [un]
      unfold fX19_packOne_i181
      simp only [mlet]
      rw [if_neg (by rw [sI_lt (by omega) (by omega)]; omega), b67, mck_s (show F0 + f < 40 by omega) (by omega), sI_nn (show F0 + f < 2000000000 by omega)]
      generalize hC : mset B 779 (F0 + f) (sI c) = C
      have C67 : C 732 67 = sI (F0 + f) := by rw [← hC, mset_n (by omega)]; exact b67
      rw [C67, mck_s (show F0 + f < 40 by omega) (by omega), sI_nn (show F0 + f < 2000000000 by omega)]
      generalize hD : mset C 780 (F0 + f) (sI p) = D
      have D67 : D 732 67 = sI (F0 + f) := by rw [← hD, mset_n (by omega)]; exact C67
      rw [D67, mck_s (show F0 + f < 40 by omega) (by omega), sI_nn (show F0 + f < 2000000000 by omega)]
      generalize hE : mset D 781 (F0 + f) (sI (f + 1)) = E
      have E67 : E 732 67 = sI (F0 + f) := by rw [← hE, mset_n (by omega)]; exact D67
      rw [E67, mck_s (show F0 + f < 40 by omega) (by omega), sI_nn (show F0 + f < 2000000000 by omega)]
      generalize hH : mset E 785 (F0 + f) 0 = H
      have tH : ∀ a y, ¬ ((779 ≤ a ∧ a ≤ 781 ∨ a = 785) ∧ y = F0 + f) → H a y = B a y := fun a y w => by rw [← hH, mset_n (by omega), ← hE, mset_n (by omega), ← hD, mset_n (by omega), ← hC, mset_n (by omega)]
      obtain ⟨p1, p2, p3⟩ := bs
      obtain ⟨B', i1, i2, i3, i4⟩ := inner f (by omega) (fX19_packOne_h181 fu (sI c) (bI lk) (sI p) q') S 0 fu H (by omega) (by omega) (by rw [tH _ _ (by omega)]; exact b67) (fun x hx => by
        by_cases e : x = f
        · subst e
          refine ⟨by rw [← hH, mset_n (by omega), ← hE, mset_n (by omega), ← hD, mset_n (by omega), ← hC, mset_s], by rw [← hH, mset_n (by omega), ← hE, mset_n (by omega), ← hD, mset_s], by rw [← hH, mset_n (by omega), ← hE, mset_s], by rw [← hH, mset_s]⟩
        · rw [tH _ _ (by omega), tH _ _ (by omega), tH _ _ (by omega), tH _ _ (by omega)]
          exact bx x (by omega)) ⟨fun t t1 t2 t3 => by
          rw [tH _ _ (by omega), tH _ _ (by omega), tH _ _ (by omega), tH _ _ (by omega)]
          exact p1 t t1 t2 t3, fun t t1 => by
          rw [tH _ _ (by omega), tH _ _ (by omega)]
          exact p2 t t1, fun a y w1 w2 w3 w4 w5 => by
          rw [tH a y (by omega)]
          exact p3 a y w1 w2 w3 w4 w5⟩
      have i1' : fX19_packOne_h232 fu (sI c) (bI lk) (sI p) (fX19_packOne_h181 fu (sI c) (bI lk) (sI p) q') fu (sI G, sI (f + 1), 0, H, L) = fX19_packOne_h181 fu (sI c) (bI lk) (sI p) q' (sI G, sI (f + 1 + 1), B', L) := i1
      rw [i1']
      exact ih (f + 1) q' B' (by omega) (by omega) i2 i3 i4
  refine outer G 0 fu M (by omega) (by omega) hF (fun x hx => by omega) ⟨fun t t1 t2 t3 => ?_, fun _ _ => ⟨rfl, rfl⟩, fun _ _ _ _ _ _ _ => rfl⟩
  exfalso
  have hl := cnt_in (show t < S by omega) t2
  rw [← hn] at hl
  by_cases g0 : 0 < G
  · obtain ⟨d1, d2, d3, d4, d5⟩ := hat g0 _ (lxf_1 (P := isO co ky c lk) (s := t)) hl
    omega
  · have w := hG0 (by omega)
    have := lxf_1 (P := isO co ky c lk) (s := t)
    omega
