/-! all frames that are due -/
def nxf (ev t : Nat) : Nat := ev * ((t - 1) / ev + 1)
theorem nxf_due {ev t : Nat} (h : 0 < ev) : (nxf ev t = t ∧ 0 < t ∧ t % ev = 0 ∧ nxf ev t + ev = nxf ev (t + 1)) ∨ (nxf ev t ≠ t ∧ ¬ (0 < t ∧ t % ev = 0) ∧ nxf ev (t + 1) = nxf ev t) := by
  unfold nxf
  by_cases t0 : t = 0
  · right
    subst t0
    rw [Nat.zero_sub, Nat.zero_div]
    exact ⟨by omega, by omega, rfl⟩
  · have e1 := Nat.div_add_mod (t - 1) ev
    have e2 := Nat.mod_lt (t - 1) h
    generalize hq : (t - 1) / ev = q at e1
    generalize (t - 1) % ev = r at e1 e2
    rw [show t + 1 - 1 = t from by omega]
    have em : ev * (q + 1) = ev * q + ev := by rw [Nat.mul_add, Nat.mul_one]
    by_cases c : r + 1 = ev
    · left
      have et : t = ev * (q + 1) := by omega
      have ed : t / ev = q + 1 := by rw [et, Nat.mul_div_cancel_left _ h]
      refine ⟨et.symm, by omega, by rw [et, Nat.mul_mod_right], ?_⟩
      rw [ed, Nat.mul_add ev (q + 1) 1, Nat.mul_one]
    · right
      have et : t = ev * q + (r + 1) := by omega
      have ed : t / ev = q := by rw [et, Nat.mul_add_div h, Nat.div_eq_of_lt (by omega), Nat.add_zero]
      have em2 : t % ev = r + 1 := by rw [et, Nat.mul_add_mod, Nat.mod_eq_of_lt (by omega)]
      exact ⟨by omega, by omega, by rw [ed]⟩
theorem nxf_b {ev t : Nat} (h : 0 < ev) : nxf ev t ≤ t + ev ∧ t ≤ nxf ev t := by
  unfold nxf
  have e1 := Nat.div_add_mod (t - 1) ev
  have e2 := Nat.mod_lt (t - 1) h
  rw [Nat.mul_add, Nat.mul_one]
  omega
/-- what both keep of frames while the car runs, those below i one microsecond ahead -/
def DyS (A M : mwM) (F : Nat) (d : Nat → Nat → Nat) (t i : Nat) : Prop := ∀ f, f < F → (∃ n, A 77 f = sI n ∧ M 785 f = sI n ∧ n ≤ (if f < i then t + 1 else t)) ∧ A 79 f = sI (nxf (d 11 f) (if f < i then t + 1 else t))
def SoR (A : mwM) (F : Nat) (d : Nat → Nat → Nat) (t : Nat) : Prop := ∃ m, A 61 14 = sI m ∧ SoN (fun f => nxf (d 11 f) t) F m
theorem HdF_o {M M' : mwM} {A : mwM} {S F f g : Nat} {d : Nat → Nat → Nat} {tu : Nat → Bool} (hS : FrS A M S F d tu) (hf : f < F) (hg : g < F) (ne : g ≠ f) (h : HdF M S d tu g) (hM : ∀ a y, ¬ (a = kFr d f ∧ y = 0) → ¬ (a = kFr d f + 15 ∧ eF d f ≤ y ∧ y < eF d f + cpk (d 12 f)) → 941 ≤ a → a < 1577 → ¬ (964 ≤ a ∧ (a - 964) % 53 = 0 ∧ y = 0) → M' a y = M a y) : HdF M' S d tu g := by
  obtain ⟨h1, h2, h3, h4, h5, h6, h7, h8, h9, h10⟩ := hS
  obtain ⟨⟨_, _, _, _, _, _, _, _, f9, f10, f11, _⟩, _⟩ := h7 f hf
  obtain ⟨⟨_, _, _, _, _, _, _, _, g9, g10, g11, _⟩, _⟩ := h7 g hg
  have pf := pkn_12 (y := d 12 f) f11
  have pg := pkn_12 (y := d 12 g) g11
  have kf : kFr d f = 941 + 53 * pkn (d 10 f) (d 12 f) := rfl
  have kg : kFr d g = 941 + 53 * pkn (d 10 g) (d 12 g) := rfl
  have rg : ∀ y, y < cpk (d 12 g) → M' (kFr d g + 15) (eF d g + y) = M (kFr d g + 15) (eF d g + y) := fun y hy => by
    by_cases e : pkn (d 10 f) (d 12 f) = pkn (d 10 g) (d 12 g)
    · have ni : d 13 g ≠ d 13 f := fun w => ne (h10 g f hg hf e.symm w)
      have ec : cpk (d 12 f) = cpk (d 12 g) := by
        unfold pkn at e
        unfold cpk
        split at e <;> split at e <;> (try split) <;> (try split) <;> omega
      have ef : eF d f = (d 13 f - 1) * cpk (d 12 g) := by rw [← ec]
      have eg : eF d g = (d 13 g - 1) * cpk (d 12 g) := rfl
      refine hM _ _ (by omega) ?_ (by omega) (by omega) (by omega)
      rw [ec]
      rintro ⟨_, w2, w3⟩
      rw [ef] at w2 w3
      rw [eg] at w2 w3
      rcases Nat.lt_or_gt_of_ne ni with q | q
      · have := Nat.mul_le_mul_right (cpk (d 12 g)) (show d 13 g - 1 + 1 ≤ d 13 f - 1 by omega)
        rw [Nat.add_mul, Nat.one_mul] at this
        omega
      · have := Nat.mul_le_mul_right (cpk (d 12 g)) (show d 13 f - 1 + 1 ≤ d 13 g - 1 by omega)
        rw [Nat.add_mul, Nat.one_mul] at this
        omega
    · exact hM _ _ (by omega) (by omega) (by omega) (by omega) (by omega)
  obtain ⟨u1, u2⟩ := h
  refine ⟨fun s q1 q2 q q3 => ?_, fun y hy hn => by rw [rg y hy]; exact u2 y hy hn⟩
  obtain ⟨od, o1, o2⟩ := u1 s q1 q2 q q3
  obtain ⟨k1, k2, k3, k4, ⟨b1, b2, b3, b4, b5, b6, b7, b8, b9, _⟩, _⟩ := h8 s q1
  rw [← k4, q2] at b9
  have hpq := pqf_lt (t := tu s) q3
  have eo : ocs (d 0) s = (d 0 s + 7) / 8 := rfl
  refine ⟨od, ?_, o2⟩
  have eq : eF d g + d 7 s + pqf (tu s) (ocs (d 0) s) q = eF d g + (d 7 s + pqf (tu s) (ocs (d 0) s) q) := by omega
  rw [eq] at o1 ⊢
  rw [rg _ (by omega)]
  exact o1
/-- what the frames' turn leaves alone -/
abbrev sfA (A A' : mwM) : Prop := ∀ a y, a ≠ 77 → a ≠ 79 → ¬ (95 ≤ a ∧ a ≤ 96) → ¬ (137 ≤ a ∧ a ≤ 138) → ¬ (20 ≤ a ∧ a ≤ 60) → ¬ (a = 292 ∧ y = 0) → ¬ (a = 61 ∧ y = 14) → A' a y = A a y
abbrev sfM (M M' : mwM) : Prop := ∀ a y, a ≠ 785 → a ≠ 926 → ¬ (a = 854 ∧ (y = 0 ∨ y = 6 ∨ y = 7)) → a ≠ 858 → a ≠ 859 → ¬ (863 ≤ a ∧ a ≤ 867) → ¬ (821 ≤ a ∧ a ≤ 853) → ¬ (a = 939 ∧ y = 0) → ¬ (941 ≤ a ∧ (((a - 941) % 53 = 0 ∧ y = 0) ∨ (a - 941) % 53 = 15 ∨ ((a - 941) % 53 = 23 ∧ y = 0))) → M' a y = M a y
theorem st_sendFrames {fu S F N t ob : Nat} {d : Nat → Nat → Nat} {tu si : Nat → Bool} {Sb ec tc fl : Nat → Nat} {A M : mwM} {Lc Lm : mwL} (hfu : 300 ≤ fu) (ht : t < 20000) (hS : FrS A M S F d tu) (hH : ∀ f, f < F → HdF M S d tu f) (hV : ∀ s, s < S → Lc (293 + 36 * d 4 s + 34) (d 5 s) = Lm (964 + 53 * d 4 s + 21) (d 5 s)) (hD : DyS A M F d t 0) (hSo : SoR A F d t) (hC : RCd A M Sb) (hK : ∀ f, f < F → d 12 f ≠ 0 → KnC A Sb (d 12 f)) (hB : BusE A M N t ec tc fl) (hN : ∀ f, f < F → d 10 f < N) (h292 : A 292 0 = M 939 0) (hob : M 732 91 = sI ob) (hob2 : ob < 6001) (hsi : ∀ c, c < 6 → A 284 c = bI (si c) ∧ M 923 c = bI (si c)) (h83 : M 732 83 = sI t) : ∃ A' M', DX1_sendFrames fu (sI t) A Lc = some (A', Lc) ∧ fX19_microsecond_h2 fu fu (0, M, Lm) = fX19_microsecond_b56 fu M' Lm ∧ FrS A' M' S F d tu ∧ (∀ f, f < F → HdF M' S d tu f) ∧ DyS A' M' F d (t + 1) 0 ∧ SoR A' F d (t + 1) ∧ RCd A' M' Sb ∧ BusE A' M' N t ec tc fl ∧ A' 292 0 = M' 939 0 ∧ sfA A A' ∧ sfM M M' := by
  have hF40 := hS.2.2.2.2.2.1
  have hev : ∀ f, f < F → 500 ≤ d 11 f ∧ d 11 f ≤ 20000 ∧ d 10 f < 6 := fun f hf => by
    obtain ⟨⟨_, _, _, _, _, _, _, _, f9, f10, f11, f12, f13, f14, _⟩, _⟩ := hS.2.2.2.2.2.2.1 f hf
    exact ⟨f13, f14, f11⟩
  -- the reference where nothing is due
  have none : (∀ f, f < F → ¬ (0 < t ∧ t % d 11 f = 0)) → ∀ (r i q : Nat), i + r = F → r < q → fX19_microsecond_h2 fu q (sI i, M, Lm) = fX19_microsecond_b56 fu M Lm := by
    intro hno r
    induction r with
    | zero =>
      intro i q hi hq
      obtain ⟨q', rfl⟩ : ∃ y, q = y + 1 := ⟨q - 1, by omega⟩
      show fX19_microsecond_i2 fu (fX19_microsecond_h2 fu q') (sI i) M Lm = _
      unfold fX19_microsecond_i2
      rw [hS.2.2.2.2.1, if_pos (by rw [sI_le (by omega) (by omega)]; omega)]
    | succ r ih =>
      intro i q hi hq
      obtain ⟨q', rfl⟩ : ∃ y, q = y + 1 := ⟨q - 1, by omega⟩
      show fX19_microsecond_i2 fu (fX19_microsecond_h2 fu q') (sI i) M Lm = _
      unfold fX19_microsecond_i2 fX19_microsecond_b50
      rw [hS.2.2.2.2.1, if_neg (by rw [sI_le (by omega) (by omega)]; omega), h83]
      by_cases t0 : t = 0
      · rw [if_pos (by rw [t0]; decide)]
      · obtain ⟨⟨_, _, _, _, _, _, a7, _⟩, _⟩ := hS.2.2.2.2.2.2.1 i (by omega)
        have e := hev i (by omega)
        have em : sI t - sI t / sI (d 11 i) * sI (d 11 i) = sI (t % d 11 i) := sI_mod (by omega) (by omega)
        have hlt := Nat.mod_lt t (show 0 < d 11 i by omega)
        rw [if_neg (by rw [sI_lel (by omega) (by decide)]; omega), mck_s (by omega) (by omega), sI_nn (by omega), a7]
        unfold mnz
        rw [if_neg (by rw [show (0 : Int32) = sI 0 from rfl, sI_eq (by omega) (by omega)]; omega), em, if_neg (by rw [show (0 : Int32) = sI 0 from rfl, sI_eq (by omega) (by omega)]; have := hno i (by omega); omega), mlet_e, sI_1]
        exact ih (i + 1) q' (by omega) (by omega)
  obtain ⟨m, m1, m2, m3, m4⟩ := hSo
  unfold DX1_sendFrames
  by_cases due : m ≤ t
  · rw [m1, if_pos (by rw [sI_le (by omega) (by omega)]; exact due)]
    have t0 : 0 < t := by
      rcases m4 with m4 | ⟨f, f1, f2⟩
      · omega
      · have := hev f f1
        have e : nxf (d 11 f) t = m := f2
        unfold nxf at e
        have : d 11 f * 1 ≤ d 11 f * ((t - 1) / d 11 f + 1) := Nat.mul_le_mul_left _ (Nat.le_add_left 1 _)
        omega
    have key : ∀ (r i q q' : Nat) (B P : mwM), i + r = F → r < q → r < q' → FrS B P S F d tu → (∀ f, f < F → HdF P S d tu f) → DyS B P F d t i → RCd B P Sb → (∀ f, f < F → d 12 f ≠ 0 → KnC B Sb (d 12 f)) → BusE B P N t ec tc fl → B 292 0 = P 939 0 → sfA A B → sfM M P → ∃ A' M', fX1_sendFrames_h14 fu (sI t) q (sI i, B, Lc) = some (A', Lc) ∧ fX19_microsecond_h2 fu q' (sI i, P, Lm) = fX19_microsecond_b56 fu M' Lm ∧ FrS A' M' S F d tu ∧ (∀ f, f < F → HdF M' S d tu f) ∧ DyS A' M' F d (t + 1) 0 ∧ SoR A' F d (t + 1) ∧ RCd A' M' Sb ∧ BusE A' M' N t ec tc fl ∧ A' 292 0 = M' 939 0 ∧ sfA A A' ∧ sfM M M' := by
      intro r
      induction r with
      | zero =>
        intro i q q' B P hi hq hq' kS kH kD kC kK kB k0 fA fM
        obtain ⟨w, rfl⟩ : ∃ y, q = y + 1 := ⟨q - 1, by omega⟩
        obtain ⟨w', rfl⟩ : ∃ y, q' = y + 1 := ⟨q' - 1, by omega⟩
        have ei : i = F := by omega
        subst ei
        have kD' : ∀ f, f < i → (∃ n, B 77 f = sI n ∧ P 785 f = sI n ∧ n ≤ t + 1) ∧ B 79 f = sI (nxf (d 11 f) (t + 1)) := fun f hf => by
          have := kD f hf
          rw [if_pos hf] at this
          exact this
        obtain ⟨m', n1, n2⟩ := c_findSoonest (fu := fu) (A := B) (L := Lc) (nx := fun f => nxf (d 11 f) (t + 1)) (by omega) kS.2.2.2.1 hF40 (fun f hf => ⟨(kD' f hf).2, by
          have := hev f hf
          have := nxf_b (t := t + 1) (show 0 < d 11 f by omega)
          try dsimp only
          omega⟩)
        have tB : ∀ a y, ¬ (a = 61 ∧ y = 14) → mset B 61 14 (sI m') a y = B a y := fun a y u => mset_n u
        refine ⟨mset B 61 14 (sI m'), P, ?_, ?_, FrS_f kS (fun a y u => tB a y (by omega)) (fun _ _ _ => rfl), kH, fun f hf => ?_, ⟨m', by rw [mset_s], n2⟩, RCd_fr kC (fun a y u1 u2 => tB a y (by omega)) (fun _ _ _ => rfl), BusE_fr kB (fun a y u1 u2 => tB a y (by omega)) (fun _ _ _ _ _ => rfl), by rw [tB _ _ (by omega)]; exact k0, fun a y u1 u2 u3 u4 u5 u6 u7 => by rw [tB a y u7]; exact fA a y u1 u2 u3 u4 u5 u6 u7, fM⟩
        · show fX1_sendFrames_i14 fu (sI t) (fX1_sendFrames_h14 fu (sI t) w) (sI i) B Lc = _
          unfold fX1_sendFrames_i14
          rw [kS.2.2.2.1, if_pos (by rw [sI_le (by omega) (by omega)]; omega), n1, mb2_s]
        · show fX19_microsecond_i2 fu (fX19_microsecond_h2 fu w') (sI i) P Lm = _
          unfold fX19_microsecond_i2
          rw [kS.2.2.2.2.1, if_pos (by rw [sI_le (by omega) (by omega)]; omega)]
        · rw [if_neg (by omega), tB _ _ (by omega), tB _ _ (by omega)]
          exact kD' f hf
      | succ r ih =>
        intro i q q' B P hi hq hq' kS kH kD kC kK kB k0 fA fM
        obtain ⟨w, rfl⟩ : ∃ y, q = y + 1 := ⟨q - 1, by omega⟩
        obtain ⟨w', rfl⟩ : ∃ y, q' = y + 1 := ⟨q' - 1, by omega⟩
        have hiF : i < F := by omega
        have unA : fX1_sendFrames_h14 fu (sI t) (w + 1) (sI i, B, Lc) = fX1_sendFrames_i14 fu (sI t) (fX1_sendFrames_h14 fu (sI t) w) (sI i) B Lc := rfl
        have unM : fX19_microsecond_h2 fu (w' + 1) (sI i, P, Lm) = fX19_microsecond_i2 fu (fX19_microsecond_h2 fu w') (sI i) P Lm := rfl
        rw [unA, unM]
        obtain ⟨⟨a1, a2, a3, a4, a5, a6, a7, a8, a9, a10, a11, a12, a13, a14, a15, a16, a17⟩, b1, b2, b3⟩ := kS.2.2.2.2.2.2.1 i hiF
        obtain ⟨⟨n, n1, n2, n3⟩, n4⟩ := kD i hiF
        rw [if_neg (by omega)] at n3 n4
        have e := hev i hiF
        have nb := nxf_b (t := t) (show 0 < d 11 i by omega)
        have em : sI t - sI t / sI (d 11 i) * sI (d 11 i) = sI (t % d 11 i) := sI_mod (by omega) (by omega)
        have hlt := Nat.mod_lt t (show 0 < d 11 i by omega)
        have p83 : P 732 83 = sI t := by rw [fM _ _ (by omega) (by omega) (by omega) (by omega) (by omega) (by omega) (by omega) (by omega) (by omega)]; exact h83
        unfold fX1_sendFrames_i14 fX1_sendFrames_b61 fX19_microsecond_i2 fX19_microsecond_b50 DX6_takeTurn
        rw [kS.2.2.2.1, kS.2.2.2.2.1, if_neg (show ¬ sI F ≤ sI i by rw [sI_le (by omega) (by omega)]; omega), if_neg (show ¬ sI F ≤ sI i by rw [sI_le (by omega) (by omega)]; omega), p83, if_neg (show ¬ sI t ≤ 0 by rw [sI_lel (by omega) (by decide)]; omega), mck_s (by omega) (by omega), sI_nn (show i < 2000000000 by omega), n4, mck_s (by omega) (by omega), a7]
        unfold mnz
        rw [if_neg (show ¬ sI (d 11 i) = 0 by rw [show (0 : Int32) = sI 0 from rfl, sI_eq (by omega) (by omega)]; omega), em]
        rcases nxf_due (t := t) (show 0 < d 11 i by omega) with ⟨u1, u2, u3, u4⟩ | ⟨u1, u2, u3⟩
        · -- it is due
          rw [if_pos (by rw [u1]), if_pos (by rw [u3]; rfl), mck_s (by omega) (by omega), mck_s (by omega) (by omega), mck_s (by omega) (by omega), mlet_e, mb3_s, if_neg (show ¬ (1 : Int32) = 0 by decide), a2, sI_add, mck_s (by omega) (by omega), mset_n (show ¬ (74 = 79 ∧ i = i) by omega), a1, mck_s (by omega) (by omega), sI_nn (show d 10 i < 2000000000 by omega), mck_s (by omega) (by omega), a4, mck_s (by omega) (by omega), sI_nn (show d 10 i < 2000000000 by omega)]
          generalize hB1 : mset B 79 i (sI (nxf (d 11 i) t + d 11 i)) = B1
          have t1 : ∀ a y, ¬ (a = 79 ∧ y = i) → B1 a y = B a y := fun a y u => by rw [← hB1, mset_n u]
          have b79 : B1 79 i = sI (nxf (d 11 i) (t + 1)) := by rw [← hB1, mset_s, u4]
          obtain ⟨s1, s2⟩ := hsi (d 10 i) a11
          have p923 : P 923 (d 10 i) = bI (si (d 10 i)) := by rw [fM _ _ (by omega) (by omega) (by omega) (by omega) (by omega) (by omega) (by omega) (by omega) (by omega)]; exact s2
          have b284 : B1 284 (d 10 i) = bI (si (d 10 i)) := by rw [t1 _ _ (by omega), fA _ _ (by omega) (by omega) (by omega) (by omega) (by omega) (by omega) (by omega)]; exact s1
          have kS1 : FrS B1 P S F d tu := FrS_f kS (fun a y u => t1 a y (by omega)) (fun _ _ _ => rfl)
          have kC1 : RCd B1 P Sb := RCd_fr kC (fun a y u1 u2 => t1 a y (by omega)) (fun _ _ _ => rfl)
          have kK1 : ∀ f, f < F → d 12 f ≠ 0 → KnC B1 Sb (d 12 f) := fun f hf hz => by
            obtain ⟨⟨_, _, _, _, _, _, _, _, _, _, _, f12, _⟩, _⟩ := kS.2.2.2.2.2.2.1 f hf
            obtain ⟨z1, z2, z3⟩ := kK f hf hz
            exact ⟨by rw [t1 _ _ (by omega)]; exact z1, fun i u => by rw [t1 _ _ (by omega)]; exact z2 i u, fun i u => by rw [t1 _ _ (by omega)]; exact z3 i u⟩
          have kB1 : BusE B1 P N t ec tc fl := BusE_fr kB (fun a y u1 u2 => t1 a y (by omega)) (fun _ _ _ _ _ => rfl)
          rw [b284, p923]
          cases hsl : si (d 10 i) with
          | true =>
            rw [bI_t, if_neg (show ¬ (1 : Int32) = 0 by decide), if_neg (show ¬ (1 : Int32) = 0 by decide), mlet_e, mlet_e, sI_1]
            refine ih (i + 1) w w' B1 P (by omega) (by omega) (by omega) kS1 kH (fun f hf => ?_) kC1 kK1 kB1 (by rw [t1 _ _ (by omega)]; exact k0) (fun a y v1 v2 v3 v4 v5 v6 v7 => by rw [t1 a y (by omega)]; exact fA a y v1 v2 v3 v4 v5 v6 v7) fM
            by_cases ef : f = i
            · subst ef
              rw [if_pos (by omega), t1 77 f (by omega)]
              exact ⟨⟨n, n1, n2, by omega⟩, b79⟩
            · obtain ⟨⟨n', x1, x2, x3⟩, x4⟩ := kD f hf
              by_cases lt : f < i
              · rw [if_pos lt] at x3 x4
                rw [if_pos (by omega), t1 77 f (by omega), t1 79 f (by omega)]
                exact ⟨⟨n', x1, x2, x3⟩, x4⟩
              · rw [if_neg lt] at x3 x4
                rw [if_neg (by omega), t1 77 f (by omega), t1 79 f (by omega)]
                exact ⟨⟨n', x1, x2, x3⟩, x4⟩
          | false =>
            rw [bI_f, if_pos (show (0 : Int32) = 0 from rfl), if_pos (show (0 : Int32) = 0 from rfl)]
            obtain ⟨B2, P2, z1, z2, z3, z4, z5, z6, z7, z8, z9, z10⟩ := st_sendFrame (fu := fu) (Lc := Lc) (Lm := Lm) (ob := ob) hfu kS1 hiF (kH i hiF) hV (by rw [t1 _ _ (by omega)]; exact n1) n2 (by omega) kC1 (kK1 i hiF) kB1 (hN i hiF) (by rw [t1 _ _ (by omega)]; exact k0) (by rw [fM _ _ (by omega) (by omega) (by omega) (by omega) (by omega) (by omega) (by omega) (by omega) (by omega)]; exact hob) hob2
            rw [z1, z2, mb2_s, mb2_s, mlet_e, mlet_e, sI_1]
            have hkF : kFr d i = 941 + 53 * pkn (d 10 i) (d 12 i) := rfl
            have hpk := pkn_12 (y := d 12 i) a11
            have tA : ∀ a y, a ≠ 77 → a ≠ 79 → ¬ (95 ≤ a ∧ a ≤ 96) → ¬ (137 ≤ a ∧ a ≤ 138) → ¬ (20 ≤ a ∧ a ≤ 60) → ¬ (a = 292 ∧ y = 0) → B2 a y = B a y := fun a y v1 v2 v3 v4 v5 v6 => by rw [z9 a y (by omega) v3 v4 v5 v6]; exact t1 a y (by omega)
            have tM : ∀ a y, a ≠ 785 → a ≠ 926 → ¬ (a = 854 ∧ (y = 0 ∨ y = 6 ∨ y = 7)) → a ≠ 858 → a ≠ 859 → ¬ (863 ≤ a ∧ a ≤ 867) → ¬ (821 ≤ a ∧ a ≤ 853) → ¬ (a = 939 ∧ y = 0) → ¬ (941 ≤ a ∧ (((a - 941) % 53 = 0 ∧ y = 0) ∨ (a - 941) % 53 = 15 ∨ ((a - 941) % 53 = 23 ∧ y = 0))) → P2 a y = P a y := fun a y v1 v2 v3 v4 v5 v6 v7 v8 v9 => z10 a y (by omega) v2 v3 v4 v5 v6 v7 v8 (by omega) (by omega) (by omega)
            refine ih (i + 1) w w' B2 P2 (by omega) (by omega) (by omega) (FrS_f kS (fun a y u => tA a y (by omega) (by omega) (by omega) (by omega) (by omega) (by omega)) (fun a y u => tM a y (by omega) (by omega) (by omega) (by omega) (by omega) (by omega) (by omega) (by omega) (by omega))) (fun f hf => ?_) (fun f hf => ?_) z5 (fun f hf hz => ?_) z6 z7 (fun a y v1 v2 v3 v4 v5 v6 v7 => by rw [tA a y v1 v2 v3 v4 v5 v6]; exact fA a y v1 v2 v3 v4 v5 v6 v7) (fun a y v1 v2 v3 v4 v5 v6 v7 v8 v9 => by rw [tM a y v1 v2 v3 v4 v5 v6 v7 v8 v9]; exact fM a y v1 v2 v3 v4 v5 v6 v7 v8 v9)
            · by_cases ef : f = i
              · rw [ef]; exact z8
              · exact HdF_o kS hiF hf ef (kH f hf) (fun a y v1 v2 v3 v4 v5 => z10 a y (by omega) (by omega) (by omega) (by omega) (by omega) (by omega) (by omega) (by omega) v1 v2 v5)
            · by_cases ef : f = i
              · subst ef
                rw [if_pos (by omega)]
                exact ⟨⟨n + 1, z3, z4, by omega⟩, by rw [z9 _ _ (by omega) (by omega) (by omega) (by omega) (by omega)]; exact b79⟩
              · obtain ⟨⟨n', x1, x2, x3⟩, x4⟩ := kD f hf
                have y1 : B2 77 f = B 77 f := by rw [z9 _ _ (by omega) (by omega) (by omega) (by omega) (by omega)]; exact t1 _ _ (by omega)
                have y2 : B2 79 f = B 79 f := by rw [z9 _ _ (by omega) (by omega) (by omega) (by omega) (by omega)]; exact t1 _ _ (by omega)
                have y3 : P2 785 f = P 785 f := z10 _ _ (by omega) (by omega) (by omega) (by omega) (by omega) (by omega) (by omega) (by omega) (by omega) (by omega) (by omega)
                rw [y1, y2, y3]
                by_cases lt : f < i
                · rw [if_pos lt] at x3 x4
                  rw [if_pos (by omega)]
                  exact ⟨⟨n', x1, x2, x3⟩, x4⟩
                · rw [if_neg lt] at x3 x4
                  rw [if_neg (by omega)]
                  exact ⟨⟨n', x1, x2, x3⟩, x4⟩
            · obtain ⟨⟨_, _, _, _, _, _, _, _, _, _, _, f12, _⟩, _⟩ := kS.2.2.2.2.2.2.1 f hf
              obtain ⟨x1, x2, x3⟩ := kK f hf hz
              exact ⟨by rw [tA _ _ (by omega) (by omega) (by omega) (by omega) (by omega) (by omega)]; exact x1, fun i u => by rw [tA _ _ (by omega) (by omega) (by omega) (by omega) (by omega) (by omega)]; exact x2 i u, fun i u => by rw [tA _ _ (by omega) (by omega) (by omega) (by omega) (by omega) (by omega)]; exact x3 i u⟩
        · -- it isn't
          rw [if_neg (by rw [sI_eq (by omega) (by omega)]; exact u1), mb3_s, if_pos (show (0 : Int32) = 0 from rfl), if_neg (by rw [show (0 : Int32) = sI 0 from rfl, sI_eq (by omega) (by omega)]; omega), mlet_e, mlet_e, sI_1, mck_s (show i < 40 by omega) (by omega)]
          refine ih (i + 1) w w' B P (by omega) (by omega) (by omega) kS kH (fun f hf => ?_) kC kK kB k0 fA fM
          obtain ⟨⟨n', x1, x2, x3⟩, x4⟩ := kD f hf
          by_cases ef : f = i
          · subst ef
            rw [if_neg (by omega)] at x3 x4
            rw [if_pos (by omega), u3]
            exact ⟨⟨n', x1, x2, by omega⟩, x4⟩
          · by_cases lt : f < i
            · rw [if_pos lt] at x3 x4
              rw [if_pos (by omega)]
              exact ⟨⟨n', x1, x2, x3⟩, x4⟩
            · rw [if_neg lt] at x3 x4
              rw [if_neg (by omega)]
              exact ⟨⟨n', x1, x2, x3⟩, x4⟩
    exact key F 0 fu fu A M (by omega) (by omega) (by omega) hS hH hD hC hK hB h292 (fun _ _ _ _ _ _ _ _ _ => rfl) (fun _ _ _ _ _ _ _ _ _ _ _ => rfl)
  · rw [m1, if_neg (by rw [sI_le (by omega) (by omega)]; exact due)]
    have nd : ∀ f, f < F → ¬ (0 < t ∧ t % d 11 f = 0) ∧ nxf (d 11 f) (t + 1) = nxf (d 11 f) t := fun f hf => by
      have e := hev f hf
      have := m2 f hf
      rcases nxf_due (t := t) (show 0 < d 11 f by omega) with ⟨u1, u2, u3, u4⟩ | ⟨u1, u2, u3⟩
      · dsimp only at this
        omega
      · exact ⟨u2, u3⟩
    refine ⟨A, M, rfl, none (fun f hf => (nd f hf).1) F 0 fu (by omega) (by omega), hS, hH, fun f hf => ?_, ⟨m, m1, ?_, m3, ?_⟩, hC, hB, h292, fun _ _ _ _ _ _ _ _ _ => rfl, fun _ _ _ _ _ _ _ _ _ _ _ => rfl⟩
    · obtain ⟨⟨n', x1, x2, x3⟩, x4⟩ := hD f hf
      rw [if_neg (by omega)] at x3 x4 ⊢
      rw [(nd f hf).2]
      exact ⟨⟨n', x1, x2, by omega⟩, x4⟩
    · intro f hf
      dsimp only
      rw [(nd f hf).2]
      exact m2 f hf
    · rcases m4 with m4 | ⟨f, f1, f2⟩
      · exact Or.inl m4
      · exact Or.inr ⟨f, f1, by dsimp only; rw [(nd f f1).2]; exact f2⟩
