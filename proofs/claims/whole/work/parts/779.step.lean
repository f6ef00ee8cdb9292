/-! one bit on the bus: all nodes see -/
theorem NdR_e {A A' M M' : mwM} {F : Nat} {ow id : Nat → Nat} {oc : Nat → Nat → Nat} {dn : Nat → Nat} {m t ecn tcn : Nat} (h : NdR A M F ow id oc dn m t ecn tcn) (hA : ∀ a y, a ≠ 20 → a ≠ 21 → A' a y = A a y) (hM : ∀ a y, a ≠ 821 → a ≠ 822 → M' a y = M a y) : NdR A' M' F ow id oc dn m t ecn tcn := by
  rcases h with ⟨h1, h2, h3, h4⟩ | ⟨f, K, f1, f2, f3, f4, f5, f6, f7, f8, f9, f10, f11, f12, f13, f14, f15⟩ | ⟨s, K, k1, k2, k3, k4, k5⟩ | ⟨st, lf, g1, g2, g3, g4, g5, g6, g7, g8, g9⟩
  · exact Or.inl ⟨by rw [hA 25 m (by omega) (by omega)]; exact h1, by rw [hM 831 m (by omega) (by omega)]; exact h2, h3, h4⟩
  · exact Or.inr (Or.inl ⟨f, K, f1, f2, f3, by rw [hA 25 m (by omega) (by omega)]; exact f4, by rw [hM 831 m (by omega) (by omega)]; exact f5, by rw [hA 27 m (by omega) (by omega)]; exact f6, by rw [hM 833 m (by omega) (by omega)]; exact f7, by rw [hA 28 m (by omega) (by omega)]; exact f8, by rw [hM 836 m (by omega) (by omega)]; exact f9, f10, f11, WvR_fr f12 (fun x y u => hA x y (by omega) (by omega)), fun i u1 u2 => by rw [hM 837 _ (by omega) (by omega)]; exact f13 i u1 u2, f14, f15⟩)
  · exact Or.inr (Or.inr (Or.inl ⟨s, K, by rw [hA 25 m (by omega) (by omega)]; exact k1, by rw [hM 831 m (by omega) (by omega)]; exact k2, LiR_fr k3 (fun x y u => hA x y (by omega) (by omega)) (fun x y u => hM x y (by omega) (by omega)), k4, k5⟩))
  · exact Or.inr (Or.inr (Or.inr ⟨st, lf, g1, g2, by rw [hA 25 m (by omega) (by omega)]; exact g3, by rw [hM 831 m (by omega) (by omega)]; exact g4, fun z => by rw [hA 26 m (by omega) (by omega), hM 832 m (by omega) (by omega)]; exact g5 z, g6, g7, g8, g9⟩))
theorem NmR_e {A A' M M' : mwM} {F : Nat} {ow id : Nat → Nat} {oc : Nat → Nat → Nat} {dn : Nat → Nat} {m t ecn tcn pb : Nat} (h : NmR A M F ow id oc dn m t ecn tcn pb) (hA : ∀ a y, a ≠ 20 → a ≠ 21 → A' a y = A a y) (hM : ∀ a y, a ≠ 821 → a ≠ 822 → M' a y = M a y) : NmR A' M' F ow id oc dn m t ecn tcn pb := by
  refine ⟨by rw [hA 32 m (by omega) (by omega)]; exact h.1, ?_⟩
  rcases h.2 with ⟨h1, h2, h3, h4, h5, h6⟩ | ⟨f, f1, f2, f3, f4, f5, f6, f7, f8, f9⟩ | ⟨f, K, f1, f2, f3, f4, f5, f6, f7, f8, f9, f10, f11, f12, f13, f14, f15, f16⟩ | ⟨s, K, k1, k2, k3, k4, k5⟩ | ⟨st, lf, g1, g2, g3, g4, g5, g6, g7, g8, g9⟩
  · exact Or.inl ⟨by rw [hA 25 m (by omega) (by omega)]; exact h1, by rw [hM 831 m (by omega) (by omega)]; exact h2, h3, h4, h5, h6⟩
  · exact Or.inr (Or.inl ⟨f, f1, by rw [hA 25 m (by omega) (by omega)]; exact f2, by rw [hM 831 m (by omega) (by omega)]; exact f3, by rw [hA 27 m (by omega) (by omega)]; exact f4, by rw [hA 28 m (by omega) (by omega)]; exact f5, WvR_fr f6 (fun x y u => hA x y (by omega) (by omega)), f7, f8, f9⟩)
  · exact Or.inr (Or.inr (Or.inl ⟨f, K, f1, f2, f3, by rw [hA 25 m (by omega) (by omega)]; exact f4, by rw [hM 831 m (by omega) (by omega)]; exact f5, by rw [hA 27 m (by omega) (by omega)]; exact f6, by rw [hM 833 m (by omega) (by omega)]; exact f7, by rw [hA 28 m (by omega) (by omega)]; exact f8, by rw [hM 836 m (by omega) (by omega)]; exact f9, f10, f11, WvR_fr f12 (fun x y u => hA x y (by omega) (by omega)), fun i u1 u2 => by rw [hM 837 _ (by omega) (by omega)]; exact f13 i u1 u2, f14, f15, f16⟩))
  · exact Or.inr (Or.inr (Or.inr (Or.inl ⟨s, K, by rw [hA 25 m (by omega) (by omega)]; exact k1, by rw [hM 831 m (by omega) (by omega)]; exact k2, LiR_fr k3 (fun x y u => hA x y (by omega) (by omega)) (fun x y u => hM x y (by omega) (by omega)), k4, k5⟩)))
  · exact Or.inr (Or.inr (Or.inr (Or.inr ⟨st, lf, g1, g2, by rw [hA 25 m (by omega) (by omega)]; exact g3, by rw [hM 831 m (by omega) (by omega)]; exact g4, fun z => by rw [hA 26 m (by omega) (by omega), hM 832 m (by omega) (by omega)]; exact g5 z, g6, g7, g8, g9⟩)))
def FlR (A M : mwM) (fl : Nat → Nat) : Prop := ∀ t, t < 20000 → A 22 t = sI (fl t) ∧ fl t < 128 ∧ ∀ n, n < 7 → M 838 (20000 * n + t) = sI (fl t / 2 ^ n % 2)
def OcA (A : mwM) : Prop := ∀ n, n < 7 → ∃ o, OcR A (47 + 2 * n) o
/-- the nodes whose bit is set have just taken a frame -/
def FrE (A M : mwM) (N : Nat) (tc tc' : Nat → Nat) (mk : Nat) : Prop := A 20 12 = sI mk ∧ ∀ n, n < 7 → (mk / 2 ^ n % 2 = 1 ∧ n < N ∧ tc' n = tc n + 1 ∧ ∃ k, s7 tc ≤ k ∧ k < s7 tc' ∧ M 839 k = sI n ∧ TkE A M n k) ∨ (mk / 2 ^ n % 2 = 0 ∧ tc' n = tc n)
def bitF (A0 M0 A M : mwM) : Prop := (∀ a y, ¬ (20 ≤ a ∧ a ≤ 60) → A a y = A0 a y) ∧ (∀ a y, ¬ (821 ≤ a ∧ a ≤ 853) → M a y = M0 a y) ∧ (∀ a y, a = 22 → A a y = A0 a y) ∧ (∀ a y, a = 838 → M a y = M0 a y) ∧ (∀ y, y ≠ 13 → y ≠ 12 → y ≠ 10 → y ≠ 11 → A 20 y = A0 20 y)
def JP (N t F : Nat) (ow id : Nat → Nat) (oc : Nat → Nat → Nat) (tc : Nat → Nat) (A0 M0 : mwM) (Lc Lm : mwL) (bb : Nat) (oC : Option (mwM × mwL)) (oM : Option (Int32 × mwM × mwL)) : Prop :=
  ∃ (A M : mwM) (x : Int32) (dn' ec' tc' : Nat → Nat) (mk : Nat) (asl : Bool), oC = some (A, Lc) ∧ oM = some (x, mset M 821 2 (sI (t + 1)), Lm) ∧ BuG A M N t F ow id oc dn' ec' tc' ∧ (∀ n, n < N → NdR A M F ow id oc dn' n (t + 1) (ec' n) (tc' n)) ∧ OcA A ∧ mk < 128 ∧ FrE A M N tc tc' mk ∧ A 20 13 = bI asl ∧ (asl = true → ∀ n, n < N → A 25 n = sI 0 ∧ A 30 n = sI 0) ∧ bitF A0 M0 A M ∧ (∀ i, i ≠ t → A 21 i = A0 21 i ∧ M 822 i = M0 822 i) ∧ A 21 t = sI bb ∧ M 822 t = sI bb ∧ (∀ n, N ≤ n → ec' n = ec' n)
theorem mk_or {mk n : Nat} (hn : n < 7) (hm : mk < 2 ^ n) : sI mk ||| (1 <<< (sI n &&& 31)) = sI (mk + 2 ^ n) := by
  have := or_sh (k := mk) (v := 1) (s := n) (by omega) hm
  rw [Nat.one_mul] at this
  exact this
theorem mk_hi {mk n m : Nat} (hm : mk < 2 ^ n) (h : n ≤ m) : mk / 2 ^ m % 2 = 0 := by
  have : 2 ^ n ≤ 2 ^ m := Nat.pow_le_pow_right (by omega) h
  rw [Nat.div_eq_of_lt (by omega)]
theorem mk_lo {mk n m : Nat} (hm : m < n) : (mk + 2 ^ n) / 2 ^ m % 2 = mk / 2 ^ m % 2 := by
  have e : 2 ^ n = 2 ^ m * (2 * 2 ^ (n - m - 1)) := by
    rw [← Nat.pow_succ', ← Nat.pow_add]
    congr 1
    omega
  rw [e, Nat.add_mul_div_left _ _ (Nat.two_pow_pos m)]
  omega
theorem mk_at {mk n : Nat} (hm : mk < 2 ^ n) : (mk + 2 ^ n) / 2 ^ n % 2 = 1 := by
  rw [Nat.add_div_right _ (Nat.two_pow_pos n), Nat.div_eq_of_lt hm]
theorem xor_b : ∀ b, b < 2 → ∀ f, f < 2 → sI b ^^^ sI f = sI (if f = 0 then b else 1 - b) ∧ (f = 1 → (1 : Int32) - sI b = sI (1 - b)) := by decide
theorem TkE_fr {A A' M M' : mwM} {n k : Nat} (h : TkE A M n k) (hA : ∀ a y, a = 47 + 2 * n ∨ a = 48 + 2 * n → A' a y = A a y) (hM : ∀ a y, (840 ≤ a ∧ a ≤ 842 ∧ y = k) ∨ (a = 844 ∧ y < 64 * k + 64) → M' a y = M a y) : TkE A' M' n k := by
  obtain ⟨h', o, a1, a2, a3, a4, a5, a6, a7, a8, a9, a10, a11, a12⟩ := h
  have o64 := ocE_le (h' 13) (h' 11) (h' 14)
  exact ⟨h', o, EaR_f a1 (fun y => hA _ y (by omega)), OcR_f a2 (fun y => hA _ y (by omega)), a3, a4, a5, a6, a7, a8, by rw [hM 840 k (by omega)]; exact a9, by rw [hM 841 k (by omega)]; exact a10, by rw [hM 842 k (by omega)]; exact a11, fun i u => by rw [hM 844 _ (by omega)]; exact a12 i u⟩
theorem and_b : ∀ a b : Bool, (bI a &&& bI b) = bI (a && b) ∧ (bI a = 0 ∨ bI a = 1) := by decide
theorem mzz_bb {β : Type} {a : Bool} {x : Option β} : mzz (bI a) x = x := by
  cases a
  · exact mzz_0
  · exact mzz_1
theorem all_see {fu N t F bb : Nat} {v2 : Int32} {ow id : Nat → Nat} {oc : Nat → Nat → Nat} {tc fl : Nat → Nat} {A0 M0 : mwM} {Lc Lm : mwL} (hfu : 1300 ≤ fu) (hN : N ≤ 7) (hbb : bb < 2) : ∀ (m n f g : Nat) (A M : mwM) (dn2 ec2 tc2 : Nat → Nat) (mk : Nat) (asl : Bool), n + m = N → m < f → m < g → BuG A M N t F ow id oc dn2 ec2 tc2 → (∀ k, k < n → NdR A M F ow id oc dn2 k (t + 1) (ec2 k) (tc2 k)) → (∀ k, n ≤ k → k < N → ∃ pb, NmR A M F ow id oc dn2 k t (ec2 k) (tc2 k) pb) → OcA A → FlR A M fl → mk < 2 ^ n → FrE A M N tc tc2 mk → s7 tc ≤ s7 tc2 → A 20 13 = bI asl → (asl = true → ∀ k, k < n → A 25 k = sI 0 ∧ A 30 k = sI 0) → bitF A0 M0 A M → (∀ i, i ≠ t → A 21 i = A0 21 i ∧ M 822 i = M0 822 i) → A 21 t = sI bb → M 822 t = sI bb → JP N t F ow id oc tc A0 M0 Lc Lm bb (fX0_passBit_h88 fu (sI t) f (sI bb, sI n, A, Lc)) (fX12_run_h103 fu 1 (fX12_run_h45 fu 1 (fu - 1)) g (v2, 0, sI bb, sI n, M, Lm)) := by
  intro m
  induction m with
  | zero =>
    intro n f g A M dn2 ec2 tc2 mk asl hn hf hg hG hd hm hO hF hmk hE hs h13 has hB hbit hA21 hM22
    obtain ⟨f', rfl⟩ : ∃ f', f = f' + 1 := ⟨f - 1, by omega⟩
    obtain ⟨g', rfl⟩ : ∃ g', g = g' + 1 := ⟨g - 1, by omega⟩
    have nN : n = N := by omega
    subst nN
    have hG' := hG
    obtain ⟨_, ⟨g2, g3, g4⟩, _⟩ := hG'
    unfold fX0_passBit_h88 fX12_run_h103
    rw [mloop_S, mloop_S]
    show JP n t F ow id oc tc A0 M0 Lc Lm bb (fX0_passBit_i88 fu (sI t) _ (sI bb) (sI n) A Lc) (fX12_run_i103 fu 1 _ _ v2 0 (sI bb) (sI n) M Lm)
    unfold fX0_passBit_i88 fX12_run_i103
    have nn : sI n ≤ sI n := by rw [sI_le (by omega) (by omega)]; omega
    rw [g2, if_pos nn, g3, if_pos nn, g4, sI_1]
    simp only [mlet]
    obtain ⟨q, hq⟩ : ∃ q, fu - 1 = q + 1 := ⟨fu - 2, by omega⟩
    rw [hq]
    unfold fX12_run_h45
    rw [mloop_S]
    have e45 : (fX12_run_i45 fu 1 (mloop (fun r45 s => fX12_run_i45 fu 1 r45 s.1 s.2.1 s.2.2.1 s.2.2.2) q) v2 (0 + 1) (mset M 821 2 (sI (t + 1))) Lm) = some ((mset M 821 2 (sI (t + 1))) 821 11 - v2, mset M 821 2 (sI (t + 1)), Lm) := by
      unfold fX12_run_i45
      rw [if_pos (by decide)]
    have m128 : mk < 128 := Nat.lt_of_lt_of_le hmk (Nat.le_trans (Nat.pow_le_pow_right (by omega) (show n ≤ 7 by omega)) (by decide))
    exact ⟨A, M, _, dn2, ec2, tc2, mk, asl, rfl, e45, hG, fun k u => hd k u, hO, m128, hE, h13, fun z k u => has z k u, hB, hbit, hA21, hM22, fun _ _ => rfl⟩
  | succ m ih =>
    intro n f g A M dn2 ec2 tc2 mk asl hn hf hg hG hd hm hO hF hmk hE hs h13 has hB hbit hA21 hM22
    obtain ⟨f', rfl⟩ : ∃ f', f = f' + 1 := ⟨f - 1, by omega⟩
    obtain ⟨g', rfl⟩ : ∃ g', g = g' + 1 := ⟨g - 1, by omega⟩
    have hG' := hG
    obtain ⟨g1, ⟨g2, g3, g4⟩, _⟩ := hG'
    unfold fX0_passBit_h88 fX12_run_h103
    rw [mloop_S, mloop_S]
    show JP N t F ow id oc tc A0 M0 Lc Lm bb (fX0_passBit_i88 fu (sI t) (fX0_passBit_h88 fu (sI t) f') (sI bb) (sI n) A Lc) (fX12_run_i103 fu 1 (fX12_run_h45 fu 1 (fu - 1)) (fX12_run_h103 fu 1 (fX12_run_h45 fu 1 (fu - 1)) g') v2 0 (sI bb) (sI n) M Lm)
    unfold fX0_passBit_i88 fX12_run_i103 fX12_run_b143
    have nn : ¬ sI N ≤ sI n := by rw [sI_le (by omega) (by omega)]; omega
    obtain ⟨l1, l2, l3⟩ := hF t g1.2.2
    have l4 := l3 n (by omega)
    have fb2 : fl t / 2 ^ n % 2 < 2 := Nat.mod_lt _ (by decide)
    obtain ⟨xb1, xb2⟩ := xor_b bb hbb _ fb2
    rw [g2, if_neg nn, mck_s g1.2.2 (by omega), sI_nn (by omega), l1, bitx (by omega) (by omega), xb1, g3, if_neg nn, g4, sI_lml, sI_add, mck_s (by omega) (by omega), sI_nn (show 20000 * n + t < 2000000000 by omega), l4]
    generalize hbn : (if fl t / 2 ^ n % 2 = 0 then bb else 1 - bb) = bn at *
    have bn2 : bn < 2 := by rw [← hbn]; split <;> omega
    obtain ⟨pb, hpb⟩ := hm n (Nat.le_refl n) (by omega)
    obtain ⟨A1, M1, dn', ec', tc', e1, e2, oc1, G1, N1, a1, m1, d1, c1, fr1, t1, t2⟩ := st_node (fu := fu) (b := bn) (Lc := Lc) (Lm := Lm) hfu (show n < 7 by omega) bn2 hG (hO n (by omega)) hpb
    have ref : (if sI (fl t / 2 ^ n % 2) = 0 then mb2 (DX12_sees fu (sI n) (sI bb) M Lm) (fun M18 L19 => mlet (sI n + 1) (fun x20 => fX12_run_h103 fu 1 (fX12_run_h45 fu 1 (fu - 1)) g' (v2, 0, sI bb, x20, M18, L19))) else mb2 (DX12_sees fu (sI n) (1 - sI bb) M Lm) (fun M18 L19 => mlet (sI n + 1) (fun x20 => fX12_run_h103 fu 1 (fX12_run_h45 fu 1 (fu - 1)) g' (v2, 0, sI bb, x20, M18, L19)))) = fX12_run_h103 fu 1 (fX12_run_h45 fu 1 (fu - 1)) g' (v2, 0, sI bb, sI (n + 1), M1, Lm) := by
      by_cases c : fl t / 2 ^ n % 2 = 0
      · rw [if_pos c] at hbn
        rw [if_pos (show sI (fl t / 2 ^ n % 2) = 0 by rw [c]; rfl), hbn, e2, mb2_s]
        simp only [mlet]
        rw [sI_1]
      · rw [if_neg c] at hbn
        rw [if_neg (show ¬ sI (fl t / 2 ^ n % 2) = 0 by rw [sI_eql (by omega) (by decide)]; exact c), xb2 (by omega), hbn, e2, mb2_s]
        simp only [mlet]
        rw [sI_1]
    rw [ref, e1, mb2_s, mck_s (show n < 7 by omega) (by omega), mck_s (show n < 7 by omega) (by omega)]
    have h13' : A1 20 13 = bI asl := by rw [a1 20 13 (by omega)]; exact h13
    have h30 := (G1.2.2.2.2.2.2.2.2.1 n (by omega)).1
    have cle := cnt_le (fun f => decide (ow f = n ∧ dn' f = 0)) F
    have hF200 := G1.2.2.1.2.1
    -- asleep or not
    have fin : ∀ x : Bool, (x = true → A1 25 n = sI 0 ∧ A1 30 n = sI 0) → JP N t F ow id oc tc A0 M0 Lc Lm bb (fX0_passBit_b146 fu (sI t) (fX0_passBit_h88 fu (sI t) f') (sI bb) (sI n) (A1 20 13) (bI x) A1 Lc) (fX12_run_h103 fu 1 (fX12_run_h45 fu 1 (fu - 1)) g' (v2, 0, sI bb, sI (n + 1), M1, Lm)) := by
      intro x hx
      unfold fX0_passBit_b146
      rw [h13', (and_b asl x).1, mzz_bb]
      simp only [mlet]
      rw [sI_1]
      have sx : ∀ a y, ¬ (a = 20 ∧ y = 13) → mset A1 20 13 (bI (asl && x)) a y = A1 a y := fun a y u => mset_n u
      have p2 : 2 ^ (n + 1) = 2 ^ n + 2 ^ n := by rw [Nat.pow_succ]; omega
      have sge : s7 tc2 ≤ s7 tc' := by
        rcases fr1 with z | z
        · have : tc' = tc2 := by
            funext k
            by_cases q : k = n
            · rw [q]; exact z.1
            · exact (c1 k q).2
          rw [this]
          exact Nat.le_refl _
        · omega
      have old : ∀ k, k < n → ((mk / 2 ^ k % 2 = 1 ∧ k < N ∧ tc' k = tc k + 1 ∧ ∃ j, s7 tc ≤ j ∧ j < s7 tc' ∧ M1 839 j = sI k ∧ TkE (mset A1 20 13 (bI (asl && x))) M1 k j) ∨ (mk / 2 ^ k % 2 = 0 ∧ tc' k = tc k)) := fun k hk => by
        rcases hE.2 k (by omega) with ⟨z1, z2, z3, j, z4, z5, z6, z7⟩ | ⟨z1, z2⟩
        · refine Or.inl ⟨z1, z2, by rw [(c1 k (by omega)).2]; exact z3, j, z4, by omega, ?_, ?_⟩
          · rw [t2 839 j (by omega)]; exact z6
          · refine TkE_fr z7 (fun a y u => ?_) (fun a y u => t2 a y (by omega))
            rw [sx a y (by omega), a1 a y (by omega)]
        · exact Or.inr ⟨z1, by rw [(c1 k (by omega)).2]; exact z2⟩
      have new : ∃ mk', mk' < 2 ^ (n + 1) ∧ FrE (mset A1 20 13 (bI (asl && x))) M1 N tc tc' mk' := by
        rcases fr1 with ⟨z1, z2⟩ | ⟨z1, z2, z3, z4, z5⟩
        · refine ⟨mk, by omega, by rw [sx 20 12 (by omega), z2]; exact hE.1, fun k hk => ?_⟩
          by_cases q : k < n
          · exact old k q
          · right
            refine ⟨mk_hi hmk (by omega), ?_⟩
            rcases hE.2 k hk with w | w
            · have := mk_hi hmk (show n ≤ k by omega)
              omega
            · by_cases r : k = n
              · rw [r, z1, ← r]; exact w.2
              · rw [(c1 k r).2]; exact w.2
        · refine ⟨mk + 2 ^ n, by omega, by rw [sx 20 12 (by omega), z2, hE.1, mk_or (by omega) hmk], fun k hk => ?_⟩
          have w0 : ∀ k, n ≤ k → k < 7 → tc2 k = tc k := fun k u1 u2 => by
            rcases hE.2 k u2 with w | w
            · have := mk_hi hmk u1
              omega
            · exact w.2
          by_cases q : k < n
          · rw [mk_lo q]
            exact old k q
          · by_cases r : k = n
            · rw [r]
              refine Or.inl ⟨mk_at hmk, by omega, by rw [z1, w0 n (by omega) (by omega)], s7 tc2, hs, by omega, z4, TkE_fr z5 (fun a y u => sx a y (by omega)) (fun _ _ _ => rfl)⟩
            · exact Or.inr ⟨mk_hi (n := n + 1) (by omega) (by omega), by rw [(c1 k r).2]; exact w0 k (by omega) hk⟩
      obtain ⟨mk', hmk', hE'⟩ := new
      refine ih (n + 1) f' g' (mset A1 20 13 (bI (asl && x))) M1 dn' ec' tc' mk' (asl && x) (by omega) (by omega) (by omega) (BuG_fr G1 (fun a y u => sx a y (by omega)) (fun _ _ _ => rfl) G1.2.2.2.2.1 G1.2.2.2.2.2.1) (fun k hk => ?_) (fun k h1 h2 => ?_) (fun k hk => ?_) (fun t' ht' => ?_) hmk' hE' (by omega) mset_s (fun z k hk => ?_) ⟨fun a y u => ?_, fun a y u => ?_, fun a y u => ?_, fun a y u => ?_, fun y u1 u2 u3 u4 => ?_⟩ (fun i u => ?_) ?_ ?_
      · refine NdR_e ?_ (fun a y u1 u2 => sx a y (by omega)) (fun _ _ _ _ => rfl)
        by_cases q : k = n
        · rw [q]; exact N1
        · rw [(c1 k q).1, (c1 k q).2]
          exact NdR_o q (by omega) (by omega) (hd k (by omega)) a1 m1 d1
      · obtain ⟨pk, hpk⟩ := hm k (by omega) h2
        refine ⟨pk, NmR_e ?_ (fun a y u1 u2 => sx a y (by omega)) (fun _ _ _ _ => rfl)⟩
        rw [(c1 k (by omega)).1, (c1 k (by omega)).2]
        exact NmR_o (by omega) (by omega) (by omega) hpk a1 m1 d1
      · by_cases q : k = n
        · rw [q]
          obtain ⟨o, ho⟩ := oc1
          exact ⟨o, OcR_f ho (fun y => sx _ y (by omega))⟩
        · obtain ⟨o, ho⟩ := hO k hk
          exact ⟨o, OcR_f ho (fun y => by rw [sx _ y (by omega), a1 _ y (by omega)])⟩
      · obtain ⟨q1, q2, q3⟩ := hF t' ht'
        exact ⟨by rw [sx 22 t' (by omega), a1 22 t' (by omega)]; exact q1, q2, fun k hk => by rw [m1 838 _ (by omega)]; exact q3 k hk⟩
      · have zz : asl = true ∧ x = true := by
          cases asl <;> cases x <;> simp_all
        rw [sx 25 k (by omega), sx 30 k (by omega)]
        by_cases q : k = n
        · rw [q]; exact hx zz.2
        · rw [a1 25 k (by omega), a1 30 k (by omega)]
          exact has zz.1 k (by omega)
      · rw [sx a y (by omega), a1 a y (by omega)]; exact hB.1 a y u
      · rw [m1 a y (by omega)]; exact hB.2.1 a y u
      · rw [sx a y (by omega), a1 a y (by omega)]; exact hB.2.2.1 a y u
      · rw [m1 a y (by omega)]; exact hB.2.2.2.1 a y u
      · rw [sx 20 y (by omega), a1 20 y (by omega)]; exact hB.2.2.2.2 y u1 u2 u3 u4
      · rw [sx 21 i (by omega), a1 21 i (by omega), m1 822 i (by omega)]; exact hbit i u
      · rw [sx 21 t (by omega), a1 21 t (by omega)]; exact hA21
      · rw [m1 822 t (by omega)]; exact hM22
    unfold fX0_passBit_b145
    rw [sI_nn (show n < 2000000000 by omega)]
    by_cases c1' : A1 25 n = 0
    · rw [if_pos c1']
      by_cases c2' : A1 30 n = 0
      · rw [if_pos c2']
        exact fin true (fun _ => ⟨c1', c2'⟩)
      · rw [if_neg c2']
        exact fin false (fun z => by cases z)
    · rw [if_neg c1']
      exact fin false (fun z => by cases z)
