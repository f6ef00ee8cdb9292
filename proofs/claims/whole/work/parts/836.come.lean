/-! a frame has come: the class's takeSignals against the reference's come -/
def CnR (A : mwM) (Lm : mwL) (F : Nat) (bd : Nat → Nat) : Prop := ∀ f, f < F → ∀ c, c < 6 → ∃ cn, cn ≤ bd c ∧ A (86 + c) f = sI cn ∧ Lm 786 (6 * f + c) = sL cn
/-- what both keep while frames come -/
def TkB (A M : mwM) (Lc Lm : mwL) (S F W R X t E : Nat) (d : Nat → Nat → Nat) (tu : Nat → Bool) (g : Nat → Nat → Nat) (own Sb bd : Nat → Nat) : Prop :=
  FrS A M S F d tu ∧ ChO A M X own ∧ RdR A M Lc Lm R S X (g 0) (g 1) (g 2) (g 3) ∧ (∀ x, x < X → QdR A M Lc Lm x) ∧ WtR A M Lm W S (g 4) (g 5) ∧ RTr A M W E ∧ RCd A M Sb ∧ (∀ f, f < F → d 12 f ≠ 0 → KnC A Sb (d 12 f)) ∧ CnR A Lm F bd ∧ A 292 1 = M 939 1 ∧ A 292 2 = M 939 2 ∧ A 3 16 = sI t ∧ M 732 83 = sI t ∧ t ≤ 20000
abbrev cmA (A A' : mwM) : Prop := ∀ a y, ¬ (86 ≤ a ∧ a ≤ 91) → a ≠ 96 → ¬ (137 ≤ a ∧ a ≤ 138) → ¬ (a = 139 ∧ y = 5) → ¬ (144 ≤ a ∧ a ≤ 147) → a ≠ 290 → ¬ (a = 292 ∧ (y = 1 ∨ y = 2)) → ¬ (293 ≤ a ∧ (((a - 293) % 36 = 0 ∧ y = 11) ∨ (a - 293) % 36 = 35)) → A' a y = A a y
abbrev cmM (M M' : mwM) : Prop := ∀ a y, ¬ (a = 854 ∧ (y = 0 ∨ y = 6 ∨ y = 7)) → a ≠ 858 → a ≠ 859 → ¬ (863 ≤ a ∧ a ≤ 867) → ¬ (902 ≤ a ∧ a ≤ 920) → a ≠ 773 → ¬ (a = 939 ∧ (y = 1 ∨ y = 2)) → a ≠ 752 → a ≠ 753 → M' a y = M a y
abbrev cmL (L L' : mwL) : Prop := ∀ a y, a ≠ 774 → a ≠ 778 → a ≠ 786 → ¬ (964 ≤ a ∧ (a - 964) % 53 = 21 ∧ y < 32) → L' a y = L a y
theorem KnC_f {A A' : mwM} {Sb : Nat → Nat} {key : Nat} (h : KnC A Sb key) (hk : key ≤ 16) (hA : ∀ a y, 101 ≤ a → a ≤ 136 → A' a y = A a y) : KnC A' Sb key := by
  obtain ⟨k1, k2, k3⟩ := h
  exact ⟨by rw [hA _ _ (by omega) (by omega)]; exact k1, fun i u => by rw [hA _ _ (by omega) (by omega)]; exact k2 i u, fun i u => by rw [hA _ _ (by omega) (by omega)]; exact k3 i u⟩
theorem FrS_lo {A M : mwM} {S F f : Nat} {d : Nat → Nat → Nat} {tu : Nat → Bool} (h : FrS A M S F d tu) (hf : f < F) : d 12 f ≤ 16 := by
  obtain ⟨⟨_, _, _, _, _, _, _, _, _, _, _, f12, _⟩, _⟩ := h.2.2.2.2.2.2.1 f hf
  exact f12
theorem WtR_f {A A' M M' : mwM} {Lm Lm' : mwL} {W S : Nat} {ws wc : Nat → Nat} (h : WtR A M Lm W S ws wc) (hA : ∀ a y, (a = 139 ∧ y = 2) ∨ a = 141 ∨ a = 142 ∨ a = 144 → A' a y = A a y) (hM : ∀ a y, (a = 732 ∧ y = 62) ∨ (775 ≤ a ∧ a ≤ 777) → M' a y = M a y) (hL : ∀ y, Lm' 778 y = Lm 778 y) : WtR A' M' Lm' W S ws wc := by
  obtain ⟨w1, w2, w3, w4⟩ := h
  refine ⟨by rw [hA _ _ (by omega)]; exact w1, by rw [hM _ _ (by omega)]; exact w2, w3, fun w hw => ?_⟩
  obtain ⟨a1, a2, a3, a4, a5, a6, a7, nt, a8, a9, a10⟩ := w4 w hw
  exact ⟨by rw [hA _ _ (by omega)]; exact a1, by rw [hM _ _ (by omega)]; exact a2, a3, by rw [hA _ _ (by omega)]; exact a4, by rw [hM _ _ (by omega)]; exact a5, a6, by rw [hM _ _ (by omega)]; exact a7, nt, a8, by rw [hA _ _ (by omega)]; exact a9, by rw [hL]; exact a10⟩
theorem RdR_f {A A' M M' : mwM} {Lc Lc' Lm Lm' : mwL} {R S X : Nat} {rs rc rd re : Nat → Nat} (h : RdR A M Lc Lm R S X rs rc rd re) (hA : ∀ a y, (a = 3 ∧ y = 15) ∨ (286 ≤ a ∧ a ≤ 290) → A' a y = A a y) (hM : ∀ a y, (a = 732 ∧ y = 55) ∨ (769 ≤ a ∧ a ≤ 773) → M' a y = M a y) (hC : ∀ y, Lc' 291 y = Lc 291 y) (hL : ∀ y, Lm' 774 y = Lm 774 y) : RdR A' M' Lc' Lm' R S X rs rc rd re := by
  obtain ⟨w1, w2, w3, w4⟩ := h
  refine ⟨by rw [hA _ _ (by omega)]; exact w1, by rw [hM _ _ (by omega)]; exact w2, w3, fun r hr => ?_⟩
  obtain ⟨a1, a2, a3, a4, a5, a6, a7, a8, a9, a10, a11, a12, hh, a13, a14, a15⟩ := w4 r hr
  exact ⟨by rw [hA _ _ (by omega)]; exact a1, by rw [hM _ _ (by omega)]; exact a2, a3, by rw [hA _ _ (by omega)]; exact a4, by rw [hM _ _ (by omega)]; exact a5, a6, by rw [hA _ _ (by omega)]; exact a7, by rw [hM _ _ (by omega)]; exact a8, a9, by rw [hA _ _ (by omega)]; exact a10, by rw [hM _ _ (by omega)]; exact a11, a12, hh, by rw [hA _ _ (by omega)]; exact a13, by rw [hM _ _ (by omega)]; exact a14, fun w => by rw [hC, hL]; exact a15 w⟩
theorem QdR_f {A A' M M' : mwM} {Lc Lc' Lm Lm' : mwL} {x : Nat} (h : QdR A M Lc Lm x) (hA : ∀ a y, (a = 293 + 36 * x ∧ y = 11) ∨ a = 293 + 36 * x + 35 → A' a y = A a y) (hM : ∀ a y, a = 752 ∨ a = 753 → M' a y = M a y) (hC : ∀ y, Lc' (293 + 36 * x + 34) y = Lc (293 + 36 * x + 34) y) (hL : ∀ y, Lm' (964 + 53 * x + 21) y = Lm (964 + 53 * x + 21) y) : QdR A' M' Lc' Lm' x := by
  obtain ⟨qn, q1, q2, q3, q4, q5⟩ := h
  exact ⟨qn, q1, by rw [hA _ _ (by omega)]; exact q2, by rw [hM _ _ (by omega)]; exact q3, fun i hi => by rw [hA _ _ (by omega), hM _ _ (by omega)]; exact q4 i hi, by rw [funext hC, funext hL]; exact q5⟩
theorem st_come {fu c f row n3 S F W R X t E : Nat} {d : Nat → Nat → Nat} {tu : Nat → Bool} {g : Nat → Nat → Nat} {own Sb bd ov : Nat → Nat} {A M : mwM} {Lc Lm : mwL} (hfu : 300 ≤ fu) (hc : c < 6) (hf : f < F) (hrow : row < 61) (hn3 : 8 ≤ n3) (hn4 : n3 < 1000) (hE : E < 800000000) (hbd : bd c < 1000000000) (hB : TkB A M Lc Lm S F W R X t E d tu g own Sb bd) (hov : ∀ y, y < 8 → A row y = sI (ov y) ∧ M 926 y = sI (ov y) ∧ ov y < 256) : ∃ A' Lc' M' Lm' E', DX1_takeSignals fu (sI c) (sI f) row n3 A Lc = some (A', Lc') ∧ DX19_come fu (sI c) (sI f) M Lm = some (M', Lm') ∧ TkB A' M' Lc' Lm' S F W R X t E' d tu g own Sb (fun x => if x = c then bd x + 64 else bd x) ∧ E ≤ E' ∧ E' ≤ E + 30 ∧ cmA A A' ∧ cmM M M' ∧ tkLc Lc Lc' ∧ cmL Lm Lm' := by
  obtain ⟨hS, hO, hR, hQ, hW, hT, hC, hK, hN, h1, h2, h16, h83, ht⟩ := hB
  have hF40 := hS.2.2.2.2.2.1
  have hS40 := hS.2.2.1
  obtain ⟨⟨a1, a2, a3, a4, a5, a6, a7, a8, a9, a10, a11, a12, a13, a14, a15, a16, a17⟩, b1, b2, b3⟩ := hS.2.2.2.2.2.2.1 f hf
  have hpos := posf_lt (ev := d 11) hf
  have bdle : ∀ x, bd x ≤ (fun x => if x = c then bd x + 64 else bd x) x := fun x => by dsimp only; split <;> omega
  -- behind the code
  have go : ∀ (A1 M1 : mwM) (Lm1 : mwL), RCd A1 M1 Sb → CnR A1 Lm1 F (fun x => if x = c then bd x + 64 else bd x) → (∀ a y, a ≠ 96 → ¬ (137 ≤ a ∧ a ≤ 138) → ¬ (86 ≤ a ∧ a ≤ 91) → A1 a y = A a y) → (∀ a y, ¬ (a = 854 ∧ (y = 0 ∨ y = 6 ∨ y = 7)) → a ≠ 858 → a ≠ 859 → ¬ (863 ≤ a ∧ a ≤ 867) → M1 a y = M a y) → (∀ a y, a ≠ 786 → Lm1 a y = Lm a y) → ∃ A' Lc' M' Lm' E', fX1_takeSignals_b47 fu (sI c) (sI f) row n3 A1 Lc = some (A', Lc') ∧ fX19_come_h22 fu (sI c) (sI f) fu (0, M1, Lm1) = some (M', Lm') ∧ TkB A' M' Lc' Lm' S F W R X t E' d tu g own Sb (fun x => if x = c then bd x + 64 else bd x) ∧ E ≤ E' ∧ E' ≤ E + 30 ∧ cmA A A' ∧ cmM M M' ∧ tkLc Lc Lc' ∧ cmL Lm Lm' := by
    intro A1 M1 Lm1 kC kN fA fM fL
    have kS : FrS A1 M1 S F d tu := FrS_f hS (fun a y u => fA a y (by omega) (by omega) (by omega)) (fun a y u => fM a y (by omega) (by omega) (by omega) (by omega))
    have kO : ChO A1 M1 X own := ChO_f hO (fun x hx => fA _ _ (by omega) (by omega) (by omega)) (fun a y u => fM a y (by omega) (by omega) (by omega) (by omega))
    have kR : RdR A1 M1 Lc Lm1 R S X (g 0) (g 1) (g 2) (g 3) := RdR_f hR (fun a y u => fA a y (by omega) (by omega) (by omega)) (fun a y u => fM a y (by omega) (by omega) (by omega) (by omega)) (fun _ => rfl) (fun y => fL _ _ (by omega))
    have kQ : ∀ x, x < X → QdR A1 M1 Lc Lm1 x := fun x hx => QdR_f (hQ x hx) (fun a y u => fA a y (by omega) (by omega) (by omega)) (fun a y u => fM a y (by omega) (by omega) (by omega) (by omega)) (fun _ => rfl) (fun y => fL _ _ (by omega))
    have kW : WtR A1 M1 Lm1 W S (g 4) (g 5) := WtR_f hW (fun a y u => fA a y (by omega) (by omega) (by omega)) (fun a y u => fM a y (by omega) (by omega) (by omega) (by omega)) (fun y => fL _ _ (by omega))
    have kT : RTr A1 M1 W E := RTr_fr hT (fun a y u1 u2 => fA a y (by omega) (by omega) (by omega)) (fun a y u1 u2 u3 => fM a y (by omega) (by omega) (by omega) (by omega))
    obtain ⟨A2, M2, Lm2, E2, z1, z2, z3, z4, z5, z6, z7, z8, z9⟩ := st_watch (N := 0) (fu := fu) (c := c) (f := f) (row := row) (n3 := n3) (S := S) (fs := d 6) (Lc := Lc) (t := t) (by omega) hc (by omega) hS40 (fun s hs => by
      obtain ⟨k1, _, _, _, ⟨b1, b2, b3, _⟩, _⟩ := kS.2.2.2.2.2.2.2.1 s hs
      exact ⟨b1, b3, by omega⟩) kW kT hE ht (by rw [fA _ _ (by omega) (by omega) (by omega)]; exact h16) (by rw [fM _ _ (by omega) (by omega) (by omega) (by omega)]; exact h83)
    have lS : FrS A2 M2 S F d tu := FrS_f kS (fun a y u => z7 a y (by omega) (by omega)) (fun a y u => z8 a y (by omega))
    have lO : ChO A2 M2 X own := ChO_f kO (fun x hx => z7 _ _ (by omega) (by omega)) (fun a y u => z8 a y (by omega))
    have lR : RdR A2 M2 Lc Lm2 R S X (g 0) (g 1) (g 2) (g 3) := RdR_f kR (fun a y u => z7 a y (by omega) (by omega)) (fun a y u => z8 a y (by omega)) (fun _ => rfl) (fun y => z9 _ _ (by omega))
    have lQ : ∀ x, x < X → QdR A2 M2 Lc Lm2 x := fun x hx => QdR_f (kQ x hx) (fun a y u => z7 a y (by omega) (by omega)) (fun a y u => z8 a y (by omega)) (fun _ => rfl) (fun y => z9 _ _ (by omega))
    have l2 : A2 292 2 = M2 939 2 := by rw [z7 _ _ (by omega) (by omega), z8 _ _ (by omega), fA _ _ (by omega) (by omega) (by omega), fM _ _ (by omega) (by omega) (by omega) (by omega)]; exact h2
    obtain ⟨A3, Lc3, M3, Lm3, y1, y2, y3, y4, y5, y6, y7, y8, y9, y10, y11⟩ := st_reads (fu := fu) (c := c) (f := f) (row := row) (n3 := n3) (ov := ov) (by omega) hc (by omega) hrow hn3 hn4 R 0 fu fu A2 M2 Lc Lm2 (by omega) (by have := hR.2.2.1; omega) (by have := hR.2.2.1; omega) lS lO lR lQ l2 (fun y hy => by rw [z7 _ _ (by omega) (by omega), z8 _ _ (by omega), fA _ _ (by omega) (by omega) (by omega), fM _ _ (by omega) (by omega) (by omega) (by omega)]; exact hov y hy)
    have y1' : fX1_takeSignals_h117 fu (sI c) (sI f) row n3 fu (0, A2, Lc) = some (A3, Lc3) := y1
    have y2' : fX19_come_h90 fu (sI c) (sI f) fu (0, M2, Lm2) = some (M3, Lm3) := y2
    have gA : ∀ a y, ¬ (86 ≤ a ∧ a ≤ 91) → a ≠ 96 → ¬ (137 ≤ a ∧ a ≤ 138) → ¬ (a = 139 ∧ y = 5) → ¬ (144 ≤ a ∧ a ≤ 147) → a ≠ 290 → ¬ (a = 292 ∧ y = 2) → ¬ (293 ≤ a ∧ (((a - 293) % 36 = 0 ∧ y = 11) ∨ (a - 293) % 36 = 35)) → A3 a y = A a y := fun a y u1 u2 u3 u4 u5 u6 u7 u8 => by rw [y8 a y u6 u7 u8, z7 a y u4 u5]; exact fA a y u2 u3 u1
    have gM : ∀ a y, ¬ (a = 854 ∧ (y = 0 ∨ y = 6 ∨ y = 7)) → a ≠ 858 → a ≠ 859 → ¬ (863 ≤ a ∧ a ≤ 867) → ¬ (902 ≤ a ∧ a ≤ 920) → a ≠ 773 → ¬ (a = 939 ∧ y = 2) → a ≠ 752 → a ≠ 753 → M3 a y = M a y := fun a y u1 u2 u3 u4 u5 u6 u7 u8 u9 => by rw [y9 a y u6 u7 u8 u9, z8 a y u5]; exact fM a y u1 u2 u3 u4
    refine ⟨A3, Lc3, M3, Lm3, E2, by rw [z1, y1'], by rw [z2, y2'], ⟨y3, y4, y5, y6, WtR_f z3 (fun a y u => y8 a y (by omega) (by omega) (by omega)) (fun a y u => y9 a y (by omega) (by omega) (by omega) (by omega)) (fun y => y11 _ _ (by omega) (by omega)), RTr_fr z4 (fun a y u1 u2 => y8 a y (by omega) (by omega) (by omega)) (fun a y u1 u2 u3 => y9 a y (by omega) (by omega) (by omega) (by omega)), RCd_fr kC (fun a y u1 u2 => by rw [y8 a y (by omega) (by omega) (by omega), z7 a y (by omega) (by omega)]) (fun a y u => by rw [y9 a y (by omega) (by omega) (by omega) (by omega), z8 a y (by omega)]), fun e he hz => KnC_f (hK e he hz) (FrS_lo hS he) (fun a y u1 u2 => gA a y (by omega) (by omega) (by omega) (by omega) (by omega) (by omega) (by omega) (by omega)), fun e he x hx => ?_, ?_, y7, ?_, ?_, ht⟩, z5, z6, fun a y u1 u2 u3 u4 u5 u6 u7 u8 => gA a y u1 u2 u3 u4 u5 u6 (by omega) u8, fun a y u1 u2 u3 u4 u5 u6 u7 u8 u9 => gM a y u1 u2 u3 u4 u5 u6 (by omega) u8 u9, y10, fun a y u1 u2 u3 u4 => by rw [y11 a y u1 u4, z9 a y u2]; exact fL a y u3⟩
    · obtain ⟨cn, n1, n2, n3'⟩ := kN e he x hx
      exact ⟨cn, n1, by rw [y8 _ _ (by omega) (by omega) (by omega), z7 _ _ (by omega) (by omega)]; exact n2, by rw [y11 _ _ (by omega) (by omega), z9 _ _ (by omega)]; exact n3'⟩
    · rw [gA _ _ (by omega) (by omega) (by omega) (by omega) (by omega) (by omega) (by omega) (by omega), gM _ _ (by omega) (by omega) (by omega) (by omega) (by omega) (by omega) (by omega) (by omega) (by omega)]; exact h1
    · rw [gA _ _ (by omega) (by omega) (by omega) (by omega) (by omega) (by omega) (by omega) (by omega)]; exact h16
    · rw [gM _ _ (by omega) (by omega) (by omega) (by omega) (by omega) (by omega) (by omega) (by omega) (by omega)]; exact h83
  unfold DX1_takeSignals DX19_come
  rw [if_pos (by rw [sI_lle (by decide) (by omega)]; omega), mck_s (show f < 40 by omega) (by omega), sI_nn (by omega), a3]
  by_cases z : d 12 f = 0
  · have r0 : DX19_right fu (sI c) (sI f) M Lm = some (1, M, Lm) := by
      unfold DX19_right
      rw [mck_s (show f < 40 by omega) (by omega), sI_nn (by omega), a8, if_pos (by rw [z]; rfl)]
    rw [if_pos (by rw [z]; rfl), r0, mb3_s, if_neg (show ¬ (1 : Int32) = 0 by decide)]
    exact go A M Lm hC (fun e he x hx => by
      obtain ⟨cn, n1, n2, n3'⟩ := hN e he x hx
      exact ⟨cn, Nat.le_trans n1 (bdle x), n2, n3'⟩) (fun _ _ _ _ _ => rfl) (fun _ _ _ _ _ _ => rfl) (fun _ _ _ => rfl)
  · obtain ⟨cn, n1, n2, n3'⟩ := hN f hf c hc
    obtain ⟨r, A1, M1, Lm1, y1, y2, y3, ⟨cn', y4, y5, y6, y7⟩, y8, y9, y10⟩ := st_accept (fu := fu) (c := c) (f := f) (P := posf (d 11) F f) (key := d 12 f) (row := row) (n3 := n3) (cn := cn) (Lc := Lc) (Lm := Lm) (oc := ov) hfu (by omega) hc (by omega) (by omega) b1 b3 a3 a8 (by omega) a12 hC (hK f hf z) (by omega) (by omega) hn3 hn4 hov n2 n3'
    have kN : CnR A1 Lm1 F (fun x => if x = c then bd x + 64 else bd x) := fun e he x hx => by
      by_cases ex : e = f ∧ x = c
      · rw [ex.1, ex.2]
        refine ⟨cn', ?_, y6, y7⟩
        dsimp only
        rw [if_pos rfl]
        omega
      · obtain ⟨cm, m1, m2, m3⟩ := hN e he x hx
        exact ⟨cm, Nat.le_trans m1 (bdle x), by rw [y8 _ _ (by omega) (by omega) (by omega)]; exact m2, by rw [y10 _ _ (by omega)]; exact m3⟩
    have fA : ∀ a y, a ≠ 96 → ¬ (137 ≤ a ∧ a ≤ 138) → ¬ (86 ≤ a ∧ a ≤ 91) → A1 a y = A a y := fun a y u1 u2 u3 => y8 a y u1 u2 (by omega)
    rw [if_neg (by rw [show (0 : Int32) = sI 0 from rfl, sI_eq (by omega) (by omega)]; exact z), y1, mb3_s, y2, mb3_s]
    cases hr : r with
    | true =>
      rw [bI_t, if_neg (show ¬ (1 : Int32) = 0 by decide), if_neg (show ¬ (1 : Int32) = 0 by decide)]
      exact go A1 M1 Lm1 y3 kN fA y9 (fun a y u => y10 a y (by omega))
    | false =>
      have e1 : (1 : Int32).toNatClampNeg = 1 := rfl
      rw [bI_f, if_pos (show (0 : Int32) = 0 from rfl), if_pos (show (0 : Int32) = 0 from rfl), mlet_e, mlet_e, e1]
      have tA : ∀ a y, a ≠ 96 → ¬ (137 ≤ a ∧ a ≤ 138) → ¬ (86 ≤ a ∧ a ≤ 91) → ¬ (a = 292 ∧ y = 1) → mset A1 292 1 (A1 292 1 + 1) a y = A a y := fun a y u1 u2 u3 u4 => by rw [mset_n u4]; exact fA a y u1 u2 u3
      have tM : ∀ a y, ¬ (a = 854 ∧ (y = 0 ∨ y = 6 ∨ y = 7)) → a ≠ 858 → a ≠ 859 → ¬ (863 ≤ a ∧ a ≤ 867) → ¬ (a = 939 ∧ y = 1) → mset M1 939 1 (M1 939 1 + 1) a y = M a y := fun a y u1 u2 u3 u4 u5 => by rw [mset_n u5]; exact y9 a y u1 u2 u3 u4
      refine ⟨_, Lc, _, Lm1, E, rfl, rfl, ⟨FrS_f hS (fun a y u => tA a y (by omega) (by omega) (by omega) (by omega)) (fun a y u => tM a y (by omega) (by omega) (by omega) (by omega) (by omega)), ChO_f hO (fun x hx => tA _ _ (by omega) (by omega) (by omega) (by omega)) (fun a y u => tM a y (by omega) (by omega) (by omega) (by omega) (by omega)), RdR_f hR (fun a y u => tA a y (by omega) (by omega) (by omega) (by omega)) (fun a y u => tM a y (by omega) (by omega) (by omega) (by omega) (by omega)) (fun _ => rfl) (fun y => y10 _ _ (by omega)), fun x hx => QdR_f (hQ x hx) (fun a y u => tA a y (by omega) (by omega) (by omega) (by omega)) (fun a y u => tM a y (by omega) (by omega) (by omega) (by omega) (by omega)) (fun _ => rfl) (fun y => y10 _ _ (by omega)), WtR_f hW (fun a y u => tA a y (by omega) (by omega) (by omega) (by omega)) (fun a y u => tM a y (by omega) (by omega) (by omega) (by omega) (by omega)) (fun y => y10 _ _ (by omega)), RTr_fr hT (fun a y u1 u2 => tA a y (by omega) (by omega) (by omega) (by omega)) (fun a y u1 u2 u3 => tM a y (by omega) (by omega) (by omega) (by omega) (by omega)), RCd_fr y3 (fun a y u1 u2 => by rw [mset_n (by omega)]) (fun a y u => by rw [mset_n (by omega)]), fun e he hz => KnC_f (hK e he hz) (FrS_lo hS he) (fun a y u1 u2 => tA a y (by omega) (by omega) (by omega) (by omega)), fun e he x hx => ?_, ?_, ?_, ?_, ?_, ht⟩, by omega, by omega, fun a y u1 u2 u3 u4 u5 u6 u7 u8 => tA a y u2 u3 u1 (by omega), fun a y u1 u2 u3 u4 u5 u6 u7 u8 u9 => tM a y u1 u2 u3 u4 (by omega), fun _ _ _ _ => rfl, fun a y u1 u2 u3 u4 => y10 a y (by omega)⟩
      · obtain ⟨cm, m1, m2, m3⟩ := kN e he x hx
        exact ⟨cm, m1, by rw [mset_n (by omega)]; exact m2, m3⟩
      · rw [mset_s, mset_s, fA _ _ (by omega) (by omega) (by omega), y9 _ _ (by omega) (by omega) (by omega) (by omega), h1]
      · rw [tA _ _ (by omega) (by omega) (by omega) (by omega), tM _ _ (by omega) (by omega) (by omega) (by omega) (by omega)]; exact h2
      · rw [tA _ _ (by omega) (by omega) (by omega) (by omega)]; exact h16
      · rw [tM _ _ (by omega) (by omega) (by omega) (by omega) (by omega)]; exact h83
