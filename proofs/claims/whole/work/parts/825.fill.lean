/-! the reference fills a frame -/
theorem by_u : ∀ h, h < 256 → ((sI h).toInt8.toInt32).toInt8.toInt32 = (sI h).toInt8.toInt32 ∧ (sI h).toInt8.toInt32 &&& 255 = sI h := by decide +kernel
theorem m_octetP {fu k i e y h cap : Nat} {M : mwM} {L : mwL} (h1 : M k 1 = sI cap) (hc : cap ≤ 8) (h14 : M (k + 14) i = sI e) (i1 : 1 ≤ i) (i2 : i ≤ 40) (he : e ≤ 320) (hy : y < cap) (h15 : M (k + 15) (e + y) = sI h) (hh : h < 256) : ∃ r, DX16_octet fu k (sI i) (sI y) M L = some (r, mset M k 0 0, L) ∧ r &&& 255 = sI h := by
  refine ⟨(sI h).toInt8.toInt32, ?_, (by_u h hh).2⟩
  have c1 : mset M k 0 0 k 1 = sI cap := by rw [mset_n (by omega)]; exact h1
  have c14 : mset M k 0 0 (k + 14) i = sI e := by rw [mset_n (by omega)]; exact h14
  have c15 : mset M k 0 0 (k + 15) (e + y) = sI h := by rw [mset_n (by omega)]; exact h15
  unfold DX16_octet DX16_noFrame fX16_noFrame_b25 fX16_octet_b43
  rw [mlet_e, if_neg (by rw [sI_ltl (by omega) (by decide)]; omega), if_neg (by rw [sI_llt (by decide) (by omega)]; omega), mck_s (by omega) (by omega), sI_nn (show i < 2000000000 by omega), c14, if_pos (by rw [sI_lle (by decide) (by omega)]; omega)]
  unfold mzz mbb
  rw [if_pos (Or.inl rfl), mb3_s, if_pos (show (0 : Int32) = 0 from rfl), if_neg (by rw [sI_ltl (by omega) (by decide)]; omega), c1, if_pos (by rw [sI_lt (by omega) (by omega)]; exact hy), mck_s (by omega) (by omega), c14, sI_add, mck_s (by omega) (by omega), sI_nn (by omega), c15, if_pos (by_u h hh).1]
abbrev FiM (M : mwM) (S : Nat) (bt fs os ct dt ls ns : Nat → Nat) (tu : Nat → Bool) (f p i e cap lo : Nat) : Prop := M 732 45 = sI S ∧ S ≤ 40 ∧ M 780 f = sI p ∧ p < 12 ∧ M 781 f = sI i ∧ 1 ≤ i ∧ i ≤ 40 ∧ M (941 + 53 * p) 1 = sI cap ∧ cap = cpk lo ∧ M 783 f = sI lo ∧ lo ≤ 16 ∧ M (941 + 53 * p + 14) i = sI e ∧ e ≤ 320 ∧ ∀ s, s < S → M 767 s = sI (fs s) ∧ fs s < 40 ∧ M 762 s = sI (ct s) ∧ ct s < 12 ∧ M 763 s = sI (dt s) ∧ dt s < 32 ∧ M 766 s = sI (ls s) ∧ (fs s = f → os s + ocs bt s ≤ cap ∧ PuM M (941 + 53 * p) (ls s) (ns s) (bt s) (tu s) i e (os s))
theorem FiM_f {M M' : mwM} {S f p i e cap lo : Nat} {bt fs os ct dt ls ns : Nat → Nat} {tu : Nat → Bool} (h : FiM M S bt fs os ct dt ls ns tu f p i e cap lo) (hf : ∀ a y, (a = 732 ∧ y = 45) ∨ (780 ≤ a ∧ a ≤ 783) ∨ a = 762 ∨ a = 763 ∨ a = 766 ∨ a = 767 ∨ (a = 941 + 53 * p ∧ 1 ≤ y) ∨ (941 + 53 * p + 1 ≤ a ∧ a ≤ 941 + 53 * p + 14) → M' a y = M a y) : FiM M' S bt fs os ct dt ls ns tu f p i e cap lo := by
  obtain ⟨h1, h2, h3, h4, h5, h6, h7, h8, h9, h10, h11, h12, h13, h14⟩ := h
  refine ⟨by rw [hf _ _ (by omega)]; exact h1, h2, by rw [hf _ _ (by omega)]; exact h3, h4, by rw [hf _ _ (by omega)]; exact h5, h6, h7, by rw [hf _ _ (by omega)]; exact h8, h9, by rw [hf _ _ (by omega)]; exact h10, h11, by rw [hf _ _ (by omega)]; exact h12, h13, fun s hs => ?_⟩
  obtain ⟨a1, a2, a3, a4, a5, a6, a7, a8⟩ := h14 s hs
  exact ⟨by rw [hf _ _ (by omega)]; exact a1, a2, by rw [hf _ _ (by omega)]; exact a3, a4, by rw [hf _ _ (by omega)]; exact a5, a6, by rw [hf _ _ (by omega)]; exact a7, fun w => ⟨(a8 w).1, PuM_f (a8 w).2 (fun a y u => hf a y (by omega))⟩⟩
/-- what a frame's octets hold between two sendings -/
def HdI (M : mwM) (S : Nat) (bt fs os : Nat → Nat) (tu : Nat → Bool) (f k e cap : Nat) : Prop := (∀ s, s < S → fs s = f → ∀ q, q < ocs bt s → ∃ od, M (k + 15) (e + os s + pqf (tu s) (ocs bt s) q) = sI od ∧ od < 2 ^ (if bt s - 8 * q < 8 then bt s - 8 * q else 8)) ∧ ∀ y, y < cap → (∀ s, s < S → fs s = f → ¬ (os s ≤ y ∧ y < os s + ocs bt s)) → M (k + 15) (e + y) = 0
theorem vq_w {v : Int64} {b q : Nat} : vq v b q < 2 ^ (if b - 8 * q < 8 then b - 8 * q else 8) := by
  unfold vq
  exact Nat.mod_lt _ (Nat.pow_pos (by omega))
/-- an octet of a frame: what stands there -/
theorem cover {S f y : Nat} {bt fs os : Nat → Nat} {tu : Nat → Bool} : (∀ s, s < S → fs s = f → ¬ (os s ≤ y ∧ y < os s + ocs bt s)) ∨ ∃ s q, s < S ∧ fs s = f ∧ q < ocs bt s ∧ os s + pqf (tu s) (ocs bt s) q = y := by
  by_cases h : ∃ s, s < S ∧ fs s = f ∧ os s ≤ y ∧ y < os s + ocs bt s
  · obtain ⟨s, s1, s2, s3, s4⟩ := h
    obtain ⟨q, q1, q2⟩ := pqf_sur (t := tu s) (show y - os s < ocs bt s by omega)
    exact Or.inr ⟨s, q, s1, s2, q1, by omega⟩
  · refine Or.inl (fun s s1 s2 w => h ⟨s, s1, s2, w.1, w.2⟩)
theorem m_sendO {fu S f p i e cap lo : Nat} {bt fs os ct dt ls ns : Nat → Nat} {tu : Nat → Bool} {V : Nat → Int64} {M : mwM} {L : mwL} (hfu : 100 ≤ fu) (hf : f < 40) (h : FiM M S bt fs os ct dt ls ns tu f p i e cap lo) (hD : FiD S bt fs os) (hH : HdI M S bt fs os tu f (941 + 53 * p) e cap) (hV : ∀ s, s < S → L (964 + 53 * ct s + 21) (dt s) = V s) : ∃ M', DX19_send fu (sI f) M L = fX19_send_i87 fu (sI f) (fun _ => none) (941 + 53 * p) (sI cap) 8 M' L ∧ (∀ s, s < S → fs s = f → ∀ q, q < ocs bt s → M' 926 (os s + pqf (tu s) (ocs bt s) q) = sI (vq (V s) (bt s) q)) ∧ (∀ y, y < 8 → (∀ s, s < S → fs s = f → ¬ (os s ≤ y ∧ y < os s + ocs bt s)) → M' 926 y = 0) ∧ HdI M' S bt fs os tu f (941 + 53 * p) e cap ∧ ∀ a y, ¬ (a = 941 + 53 * p ∧ y = 0) → ¬ (a = 941 + 53 * p + 15 ∧ e ≤ y ∧ y < e + cap) → ¬ (964 ≤ a ∧ (a - 964) % 53 = 0 ∧ y = 0) → ¬ (a = 926 ∧ y < 8) → M' a y = M a y := by
  have hS40 := h.2.1
  have hp := h.2.2.2.1
  have hi1 := h.2.2.2.2.2.1
  have hi2 := h.2.2.2.2.2.2.1
  have hcap : cap = cpk lo := h.2.2.2.2.2.2.2.2.1
  have hlo : lo ≤ 16 := h.2.2.2.2.2.2.2.2.2.2.1
  have he : e ≤ 320 := h.2.2.2.2.2.2.2.2.2.2.2.2.1
  have hc8 := cpk_8 (y := lo)
  obtain ⟨T, hT⟩ : ∃ T : mwM → Option (mwM × mwL), ∀ X, T X = fX19_send_i87 fu (sI f) (fun _ => none) (941 + 53 * p) (sI cap) 8 X L := ⟨_, fun _ => rfl⟩
  -- the octets are read
  have rd : ∀ (r x w : Nat) (B : mwM), x + r = 8 → r < w → FiM B S bt fs os ct dt ls ns tu f p i e cap lo → (∀ s, s < S → fs s = f → ∀ q, q < ocs bt s → B (941 + 53 * p + 15) (e + os s + pqf (tu s) (ocs bt s) q) = sI (vq (V s) (bt s) q)) → (∀ y, y < cap → (∀ s, s < S → fs s = f → ¬ (os s ≤ y ∧ y < os s + ocs bt s)) → B (941 + 53 * p + 15) (e + y) = 0) → (∀ y, y < x → (y < cap → B 926 y = B (941 + 53 * p + 15) (e + y)) ∧ (cap ≤ y → B 926 y = 0)) → ∃ M', fX19_send_h87 fu (sI f) w (941 + 53 * p, sI cap, sI x, B, L) = T M' ∧ (∀ y, y < 8 → (y < cap → M' 926 y = M' (941 + 53 * p + 15) (e + y)) ∧ (cap ≤ y → M' 926 y = 0)) ∧ ∀ a y, ¬ (a = 941 + 53 * p ∧ y = 0) → ¬ (a = 926 ∧ y < 8) → M' a y = B a y := by
    intro r
    induction r with
    | zero =>
      intro x w B hx hw hB h1 h2 h3
      obtain ⟨w', rfl⟩ : ∃ y, w = y + 1 := ⟨w - 1, by omega⟩
      refine ⟨B, ?_, fun y hy => h3 y (by omega), fun _ _ _ _ => rfl⟩
      have ex : x = 8 := by omega
      subst ex
      show fX19_send_i87 fu (sI f) (fX19_send_h87 fu (sI f) w') (941 + 53 * p) (sI cap) 8 B L = _
      rw [hT]
      unfold fX19_send_i87
      rw [if_pos (by decide), if_pos (by decide)]
    | succ r ih =>
      intro x w B hx hw hB h1 h2 h3
      obtain ⟨w', rfl⟩ : ∃ y, w = y + 1 := ⟨w - 1, by omega⟩
      have un : fX19_send_h87 fu (sI f) (w' + 1) (941 + 53 * p, sI cap, sI x, B, L) = fX19_send_i87 fu (sI f) (fX19_send_h87 fu (sI f) w') (941 + 53 * p) (sI cap) (sI x) B L := rfl
      rw [un]
      unfold fX19_send_i87 fX19_send_b126
      rw [if_neg (by rw [sI_lle (by decide) (by omega)]; omega)]
      have fin : ∀ (C : mwM) (v : Int32), (∀ a y, ¬ (a = 941 + 53 * p ∧ y = 0) → C a y = B a y) → ((x < cap → v = B (941 + 53 * p + 15) (e + x)) ∧ (cap ≤ x → v = 0)) → ∃ M', (mck (sI x) 8 (mlet (mset C 926 ((sI x).toNatClampNeg) v) (fun M34 => mlet (sI x + 1) (fun x35 => fX19_send_h87 fu (sI f) w' (941 + 53 * p, sI cap, x35, M34, L)))) : Option (mwM × mwL)) = T M' ∧ (∀ y, y < 8 → (y < cap → M' 926 y = M' (941 + 53 * p + 15) (e + y)) ∧ (cap ≤ y → M' 926 y = 0)) ∧ ∀ a y, ¬ (a = 941 + 53 * p ∧ y = 0) → ¬ (a = 926 ∧ y < 8) → M' a y = B a y := by
        intro C v hC hv
        rw [mck_s (by omega) (by omega), sI_nn (by omega), mlet_e, mlet_e, sI_1]
        have tC : ∀ a y, ¬ (a = 941 + 53 * p ∧ y = 0) → ¬ (a = 926 ∧ y = x) → mset C 926 x v a y = B a y := fun a y w1 w2 => by rw [mset_n w2]; exact hC a y w1
        obtain ⟨M', k1, k2, k3⟩ := ih (x + 1) w' (mset C 926 x v) (by omega) (by omega) (FiM_f hB (fun a y u => tC a y (by omega) (by omega))) (fun s q1 q2 q q3 => by rw [tC _ _ (by omega) (by omega)]; exact h1 s q1 q2 q q3) (fun y hy hn => by rw [tC _ _ (by omega) (by omega)]; exact h2 y hy hn) (fun y hy => by
          by_cases ey : y = x
          · subst ey
            rw [mset_s]
            exact ⟨fun u => by rw [tC _ _ (by omega) (by omega)]; exact hv.1 u, hv.2⟩
          · rw [tC 926 y (by omega) (by omega), tC (941 + 53 * p + 15) (e + y) (by omega) (by omega)]
            exact h3 y (by omega))
        exact ⟨M', k1, k2, fun a y w1 w2 => by rw [k3 a y w1 w2]; exact tC a y w1 (by omega)⟩
      by_cases cx : cap ≤ x
      · rw [if_pos (by rw [sI_le (by omega) (by omega)]; exact cx)]
        exact fin B 0 (fun _ _ _ => rfl) ⟨fun u => by omega, fun _ => rfl⟩
      · rw [if_neg (by rw [sI_le (by omega) (by omega)]; exact cx)]
        have hx0 : ∃ hh, B (941 + 53 * p + 15) (e + x) = sI hh ∧ hh < 256 := by
          rcases cover (S := S) (f := f) (y := x) (bt := bt) (fs := fs) (os := os) (tu := tu) with u | ⟨s, q, s1, s2, s3, s4⟩
          · exact ⟨0, h2 x (by omega) u, by omega⟩
          · refine ⟨vq (V s) (bt s) q, ?_, vq_lt⟩
            have e2 : e + x = e + os s + pqf (tu s) (ocs bt s) q := by omega
            rw [e2]
            exact h1 s s1 s2 q s3
        obtain ⟨hh, hh1, hh2⟩ := hx0
        obtain ⟨r, r1, r2⟩ := m_octetP (fu := fu) (k := 941 + 53 * p) (L := L) hB.2.2.2.2.2.2.2.1 (by omega) hB.2.2.2.2.2.2.2.2.2.2.2.1 hi1 hi2 he (by omega) hh1 hh2
        rw [mck_s (by omega) (by omega), sI_nn (show f < 2000000000 by omega), hB.2.2.2.2.1, r1, mb3_s, r2, ← hh1]
        exact fin _ _ (fun a y u => by rw [mset_n u]) ⟨fun _ => rfl, fun u => by omega⟩
  -- the signals are put
  have key : ∀ (r s w : Nat) (B : mwM), s + r = S → r < w → FiM B S bt fs os ct dt ls ns tu f p i e cap lo → (∀ t, t < s → fs t = f → ∀ q, q < ocs bt t → B (941 + 53 * p + 15) (e + os t + pqf (tu t) (ocs bt t) q) = sI (vq (V t) (bt t) q)) → HdI B S bt fs os tu f (941 + 53 * p) e cap → ∃ B', fX19_send_h14 fu (sI f) w (941 + 53 * p, sI s, B, L) = fX19_send_h87 fu (sI f) fu (941 + 53 * p, sI cap, 0, B', L) ∧ FiM B' S bt fs os ct dt ls ns tu f p i e cap lo ∧ (∀ t, t < S → fs t = f → ∀ q, q < ocs bt t → B' (941 + 53 * p + 15) (e + os t + pqf (tu t) (ocs bt t) q) = sI (vq (V t) (bt t) q)) ∧ HdI B' S bt fs os tu f (941 + 53 * p) e cap ∧ ∀ a y, ¬ (a = 941 + 53 * p ∧ y = 0) → ¬ (a = 941 + 53 * p + 15 ∧ e ≤ y ∧ y < e + cap) → ¬ (964 ≤ a ∧ (a - 964) % 53 = 0 ∧ y = 0) → B' a y = B a y := by
    intro r
    induction r with
    | zero =>
      intro s w B hs hw hB h1 h2
      obtain ⟨w', rfl⟩ : ∃ y, w = y + 1 := ⟨w - 1, by omega⟩
      refine ⟨B, ?_, hB, fun t ht => h1 t (by omega), h2, fun _ _ _ _ _ => rfl⟩
      show fX19_send_i14 fu (sI f) (fX19_send_h14 fu (sI f) w') (941 + 53 * p) (sI s) B L = _
      unfold fX19_send_i14 fX19_send_b83
      rw [hB.1, if_pos (by rw [sI_le (by omega) (by omega)]; omega), mck_s (by omega) (by omega), sI_nn (by omega), hB.2.2.2.2.2.2.2.2.2.1, hcap]
      unfold cpk
      by_cases z : lo = 0
      · rw [if_pos (by rw [z]; decide), if_pos z]
        rfl
      · rw [if_neg (by rw [sI_lel (by omega) (by decide)]; omega), if_neg z]
        rfl
    | succ r ih =>
      intro s w B hs hw hB h1 h2
      obtain ⟨w', rfl⟩ : ∃ y, w = y + 1 := ⟨w - 1, by omega⟩
      obtain ⟨a1, a2, a3, a4, a5, a6, a7, a8⟩ := hB.2.2.2.2.2.2.2.2.2.2.2.2.2 s (by omega)
      have un : fX19_send_h14 fu (sI f) (w' + 1) (941 + 53 * p, sI s, B, L) = fX19_send_i14 fu (sI f) (fX19_send_h14 fu (sI f) w') (941 + 53 * p) (sI s) B L := rfl
      rw [un]
      unfold fX19_send_i14 fX19_send_b62
      rw [hB.1, if_neg (by rw [sI_le (by omega) (by omega)]; omega), mck_s (by omega) (by omega), sI_nn (show s < 2000000000 by omega), a1]
      by_cases ef : fs s = f
      · rw [if_pos (by rw [ef]), mck_s (by omega) (by omega), mck_s (by omega) (by omega), a3, mck_s (by omega) (by omega), mck_s (by omega) (by omega), sI_nn (show ct s < 2000000000 by omega), a5]
        unfold DX13_value fX13_value_b25
        rw [mlet_e, if_neg (by rw [sI_ltl (by omega) (by decide)]; omega), if_pos (by rw [sI_lel (by omega) (by decide)]; omega), mck_s (by omega) (by omega), sI_nn (show dt s < 2000000000 by omega), hV s (by omega), mb3_s]
        have tC : ∀ a y, ¬ (964 ≤ a ∧ (a - 964) % 53 = 0 ∧ y = 0) → mset B (964 + 53 * ct s) 0 0 a y = B a y := fun a y u => by rw [mset_n (by omega)]
        obtain ⟨c8, hPu⟩ := a8 ef
        have hPu2 : PuM (mset B (964 + 53 * ct s) 0 0) (941 + 53 * p) (ls s) (ns s) (bt s) (tu s) i e (os s) := PuM_f hPu (fun a y u => tC a y (by omega))
        obtain ⟨g1, g2⟩ := h2
        obtain ⟨D, d1, d2, d3⟩ := m_putP (fu := fu) (v := V s) (L := L) (M := mset B (964 + 53 * ct s) 0 0) hfu hPu2 (od := fun q => nn (B (941 + 53 * p + 15) (e + os s + pqf (tu s) (ocs bt s) q))) (fun q hq => by
          obtain ⟨od, o1, o2⟩ := g1 s (by omega) ef q hq
          have o3 : od < 2000000000 := by
            have : 2 ^ (if bt s - 8 * q < 8 then bt s - 8 * q else 8) ≤ 2 ^ 8 := Nat.pow_le_pow_right (by omega) (by split <;> omega)
            omega
          rw [tC _ _ (by omega)]
          try dsimp only
          rw [o1, nn_s o3]
          exact ⟨rfl, o2⟩)
        rw [a7, d1, mb2_s, mlet_e, sI_1]
        have eo : ocs bt s = (bt s + 7) / 8 := rfl
        have tD : ∀ a y, ¬ (a = 941 + 53 * p ∧ y = 0) → ¬ (a = 941 + 53 * p + 15 ∧ e + os s ≤ y ∧ y < e + os s + ocs bt s) → ¬ (964 ≤ a ∧ (a - 964) % 53 = 0 ∧ y = 0) → D a y = B a y := fun a y w1 w2 w3 => by rw [d3 a y w1 w2]; exact tC a y w3
        obtain ⟨B', k1, k2, k3, k4, k5⟩ := ih (s + 1) w' D (by omega) (by omega) (FiM_f hB (fun a y u => tD a y (by omega) (by omega) (by omega))) (fun t ht ft q hq => by
          by_cases et : t = s
          · subst et
            exact d2 q hq
          · have hpq := pqf_lt (t := tu t) hq
            have := hD s t (by omega) (by omega) (fun u => et u.symm) (by rw [ef, ft])
            rw [tD _ _ (by omega) (by omega) (by omega)]
            exact h1 t (by omega) ft q hq) ⟨fun t ht ft q hq => by
          by_cases et : t = s
          · subst et
            exact ⟨_, d2 q hq, vq_w⟩
          · have hpq := pqf_lt (t := tu t) hq
            have := hD s t (by omega) (by omega) (fun u => et u.symm) (by rw [ef, ft])
            rw [tD _ _ (by omega) (by omega) (by omega)]
            exact g1 t ht ft q hq, fun y hy hn => by
          have := hn s (by omega) ef
          rw [tD _ _ (by omega) (by omega) (by omega)]
          exact g2 y hy hn⟩
        exact ⟨B', k1, k2, k3, k4, fun a y w1 w2 w3 => by rw [k5 a y w1 w2 w3]; exact tD a y w1 (by omega) w3⟩
      · rw [if_neg (by rw [sI_eq (by omega) (by omega)]; exact ef), mlet_e, sI_1]
        exact ih (s + 1) w' B (by omega) (by omega) hB (fun t ht ft => by
          by_cases et : t = s
          · rw [et] at ft; exact absurd ft ef
          · exact h1 t (by omega) ft) h2
  obtain ⟨B, k1, k2, k3, k4, k5⟩ := key S 0 fu M (by omega) (by omega) h (fun t ht => by omega) hH
  obtain ⟨M', g1, g2, g3⟩ := rd 8 0 fu B (by omega) (by omega) k2 k3 k4.2 (fun y hy => by omega)
  have tM : ∀ y, M' (941 + 53 * p + 15) y = B (941 + 53 * p + 15) y := fun y => g3 _ _ (by omega) (by omega)
  refine ⟨M', ?_, fun s s1 s2 q s3 => ?_, fun y hy hn => ?_, ⟨fun s s1 s2 q s3 => ?_, fun y hy hn => ?_⟩, fun a y w1 w2 w3 w4 => ?_⟩
  · unfold DX19_send
    have k1' : fX19_send_h14 fu (sI f) fu (941 + 53 * p, 0, M, L) = _ := k1
    have g1' : fX19_send_h87 fu (sI f) fu (941 + 53 * p, sI cap, 0, B, L) = _ := g1
    rw [mck_s (by omega) (by omega), sI_nn (show f < 2000000000 by omega), h.2.2.1, mck_s (by omega) (by omega), sI_nn (show p < 2000000000 by omega), Nat.add_zero, k1', g1', hT]
  · have hle := (h.2.2.2.2.2.2.2.2.2.2.2.2.2 s s1).2.2.2.2.2.2.2 s2
    have hpq := pqf_lt (t := tu s) s3
    have := hle.1
    rw [(g2 _ (by omega)).1 (by omega), tM, ← Nat.add_assoc]
    exact k3 s s1 s2 q s3
  · by_cases c : y < cap
    · rw [(g2 y hy).1 c, tM]
      exact k4.2 y c hn
    · exact (g2 y hy).2 (by omega)
  · rw [tM]; exact k4.1 s s1 s2 q s3
  · rw [tM]; exact k4.2 y hy hn
  · rw [g3 a y w1 w4]
    exact k5 a y w1 w2 w3
