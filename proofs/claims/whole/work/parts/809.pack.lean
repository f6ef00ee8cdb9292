/-! the reference: before the periods, the next period, how many frames -/
abbrev PsM (M : mwM) (k n cap : Nat) (bt pl : Nat → Nat) (tu : Nat → Bool) : Prop := M k 1 = sI cap ∧ cap ≤ 8 ∧ PsG M k n bt tu ∧ ∀ l, 1 ≤ l → l ≤ n → M (k + 2) l = sI (pl l) ∧ 1 ≤ pl l ∧ pl l ≤ 20000 ∧ (bt l + 7) / 8 ≤ cap ∧ M (k + 7) l = 0 ∧ M (k + 8) l = 0 ∧ M (k + 11) l = 0
theorem PsG_f {M M' : mwM} {k n : Nat} {bt : Nat → Nat} {tu : Nat → Bool} (h : PsG M k n bt tu) (hf : ∀ a y, (a = k ∧ y = 2) ∨ a = k + 1 ∨ a = k + 3 ∨ a = k + 4 ∨ a = k + 5 → M' a y = M a y) : PsG M' k n bt tu := by
  obtain ⟨h1, h2, h3⟩ := h
  refine ⟨by rw [hf _ _ (by omega)]; exact h1, h2, fun l l1 l2 => ?_⟩
  obtain ⟨a1, a2, a3, a4, a5, a6⟩ := h3 l l1 l2
  exact ⟨by rw [hf _ _ (by omega)]; exact a1, by rw [hf _ _ (by omega)]; exact a2, by rw [hf _ _ (by omega)]; exact a3, a4, a5, by rw [hf _ _ (by omega)]; exact a6⟩
theorem PsM_f {M M' : mwM} {k n cap : Nat} {bt pl : Nat → Nat} {tu : Nat → Bool} (h : PsM M k n cap bt pl tu) (hf : ∀ a y, (a = k ∧ (y = 1 ∨ y = 2)) ∨ (k + 1 ≤ a ∧ a ≤ k + 5) ∨ a = k + 7 ∨ a = k + 8 ∨ a = k + 11 → M' a y = M a y) : PsM M' k n cap bt pl tu := by
  obtain ⟨h1, h2, h3, h4⟩ := h
  refine ⟨by rw [hf _ _ (by omega)]; exact h1, h2, PsG_f h3 (fun a y w => hf a y (by omega)), fun l l1 l2 => ?_⟩
  obtain ⟨a1, a2, a3, a4, a5, a6, a7⟩ := h4 l l1 l2
  exact ⟨by rw [hf _ _ (by omega)]; exact a1, a2, a3, a4, by rw [hf _ _ (by omega)]; exact a5, by rw [hf _ _ (by omega)]; exact a6, by rw [hf _ _ (by omega)]; exact a7⟩
theorem m_packs0 {fu k n cap : Nat} {bt pl : Nat → Nat} {tu : Nat → Bool} {M : mwM} {L : mwL} (hfu : 50 ≤ fu) (h : PsM M k n cap bt pl tu) : ∃ M', DX16_packs fu k 5040 M L = fX16_packs_h196 fu k 5040 fu (0, M', L) ∧ PvM M' k n cap pl (fun l => (bt l + 7) / 8) (fun _ => 0) (fun _ => 0) ∧ ∀ a y, a ≠ k + 16 → a ≠ k + 17 → a ≠ k + 22 → M' a y = M a y := by
  have hn : n ≤ 40 := h.2.2.1.2.1
  have key2 : ∀ (r s q : Nat) (B : mwM), s + r = n + 1 → r < q → 1 ≤ s → PsM B k n cap bt pl tu → fX16_packs_h77 fu k 5040 q (sI s, B, L) = fX16_packs_h196 fu k 5040 fu (0, B, L) := by
    intro r
    induction r with
    | zero =>
      intro s q B hs hq s1 hB
      obtain ⟨q', rfl⟩ : ∃ y, q = y + 1 := ⟨q - 1, by omega⟩
      obtain ⟨h1, h2, ⟨g1, g2, g3⟩, h4⟩ := hB
      show fX16_packs_i77 fu k 5040 (fX16_packs_h77 fu k 5040 q') (sI s) B L = _
      unfold fX16_packs_i77
      rw [g1, if_pos (by rw [sI_lt (by omega) (by omega)]; omega)]
    | succ r ih =>
      intro s q B hs hq s1 hB
      obtain ⟨q', rfl⟩ : ∃ y, q = y + 1 := ⟨q - 1, by omega⟩
      have nx := ih (s + 1) q' B (by omega) (by omega) (by omega) hB
      obtain ⟨h1, h2, ⟨g1, g2, g3⟩, h4⟩ := hB
      obtain ⟨a1, a2, a3, a4, a5, a6⟩ := g3 s s1 (by omega)
      obtain ⟨b1, b2, b3, b4, b5, b6, b7⟩ := h4 s s1 (by omega)
      show fX16_packs_i77 fu k 5040 (fX16_packs_h77 fu k 5040 q') (sI s) B L = _
      unfold fX16_packs_i77
      rw [g1, if_neg (by rw [sI_lt (by omega) (by omega)]; omega), m_isGroup a1 (by omega), mb3_s, if_neg (show ¬ (1 : Int32) = 0 by decide), mck_s (by omega) (by omega), sI_nn (by omega), b5, if_pos (show (0 : Int32) = 0 from rfl), mck_s (by omega) (by omega), b7, if_pos (show (0 : Int32) = 0 from rfl)]
      unfold fX16_packs_b188
      simp only [mlet]
      rw [sI_1]
      exact nx
  have key1 : ∀ (r s q : Nat) (B : mwM), s + r = n + 1 → r < q → 1 ≤ s → PsM B k n cap bt pl tu → (∀ l, 1 ≤ l → l < s → B (k + 16) l = 0 ∧ B (k + 17) l = 0 ∧ B (k + 22) l = sI ((bt l + 7) / 8)) → (∀ a y, a ≠ k + 16 → a ≠ k + 17 → a ≠ k + 22 → B a y = M a y) → ∃ M', fX16_packs_h2 fu k 5040 q (sI s, B, L) = fX16_packs_h196 fu k 5040 fu (0, M', L) ∧ PvM M' k n cap pl (fun l => (bt l + 7) / 8) (fun _ => 0) (fun _ => 0) ∧ ∀ a y, a ≠ k + 16 → a ≠ k + 17 → a ≠ k + 22 → M' a y = M a y := by
    intro r
    induction r with
    | zero =>
      intro s q B hs hq s1 hB hd hf
      obtain ⟨q', rfl⟩ : ∃ y, q = y + 1 := ⟨q - 1, by omega⟩
      refine ⟨B, ?_, ?_, hf⟩
      · have nx := key2 n 1 fu B (by omega) (by omega) (by omega) hB
        obtain ⟨h1, h2, ⟨g1, g2, g3⟩, h4⟩ := hB
        show fX16_packs_i2 fu k 5040 (fX16_packs_h2 fu k 5040 q') (sI s) B L = _
        unfold fX16_packs_i2
        rw [g1, if_pos (by rw [sI_lt (by omega) (by omega)]; omega)]
        exact nx
      · obtain ⟨h1, h2, ⟨g1, g2, g3⟩, h4⟩ := hB
        refine ⟨h1, g1, g2, h2, fun l l1 l2 => ?_⟩
        obtain ⟨a1, a2, a3, a4, a5, a6⟩ := g3 l l1 l2
        obtain ⟨b1, b2, b3, b4, b5, b6, b7⟩ := h4 l l1 l2
        obtain ⟨d1, d2, d3⟩ := hd l l1 (by omega)
        exact ⟨a1, b1, b3, d3, by dsimp only; omega, by dsimp only; omega, d1, by dsimp only; omega, d2, by dsimp only; omega⟩
    | succ r ih =>
      intro s q B hs hq s1 hB hd hf
      obtain ⟨q', rfl⟩ : ∃ y, q = y + 1 := ⟨q - 1, by omega⟩
      have hB' := hB
      obtain ⟨h1, h2, hG, h4⟩ := hB
      have hG' := hG
      obtain ⟨g1, g2, g3⟩ := hG
      obtain ⟨a1, a2, a3, a4, a5, a6⟩ := g3 s s1 (by omega)
      obtain ⟨b1, b2, b3, b4, b5, b6, b7⟩ := h4 s s1 (by omega)
      have nx := ih (s + 1) q' (mset (mset (mset B (k + 22) s (sI ((bt s + 7) / 8))) (k + 16) s 0) (k + 17) s 0) (by omega) (by omega) (by omega) (PsM_f hB' (fun a y w => by rw [mset_n (by omega), mset_n (by omega), mset_n (by omega)])) (fun l l1 l2 => ?_) (fun a y w1 w2 w3 => by rw [mset_n (by omega), mset_n (by omega), mset_n (by omega)]; exact hf a y w1 w2 w3)
      · show ∃ M', fX16_packs_i2 fu k 5040 (fX16_packs_h2 fu k 5040 q') (sI s) B L = _ ∧ _
        unfold fX16_packs_i2
        rw [g1, if_neg (by rw [sI_lt (by omega) (by omega)]; omega), m_isGroup a1 (by omega), mb3_s, if_neg (show ¬ (1 : Int32) = 0 by decide), m_size hfu hG' s1 (by omega), mb3_s]
        unfold fX16_packs_b32 fX16_packs_b56
        simp only [mlet]
        rw [mck_s (by omega) (by omega), m_isGroup (by rw [mset_n (by omega)]; exact a1) (by omega), mb3_s, if_neg (show ¬ (1 : Int32) = 0 by decide), mck_s (by omega) (by omega), mck_s (by omega) (by omega), mck_s (by omega) (by omega), mck_s (by omega) (by omega), sI_nn (by omega), sI_1]
        rw [mset_n (show ¬ (k + 7 = k + 22 ∧ s = s) by omega), b5, mset_n (show ¬ (k + 8 = k + 16 ∧ s = s) by omega), mset_n (show ¬ (k + 8 = k + 22 ∧ s = s) by omega), b6]
        exact nx
      · by_cases e : l = s
        · subst e
          refine ⟨by rw [mset_n (by omega), mset_s], by rw [mset_s], by rw [mset_n (by omega), mset_n (by omega), mset_s]⟩
        · obtain ⟨d1, d2, d3⟩ := hd l l1 (by omega)
          refine ⟨by rw [mset_n (by omega), mset_n (by omega), mset_n (by omega)]; exact d1, by rw [mset_n (by omega), mset_n (by omega), mset_n (by omega)]; exact d2, by rw [mset_n (by omega), mset_n (by omega), mset_n (by omega)]; exact d3⟩
  unfold DX16_packs
  exact key1 n 1 fu M (by omega) (by omega) (by omega) h (fun l l1 l2 => by omega) (fun _ _ _ _ _ => rfl)
/-- the next period, or the end -/
def nxv (v : Nat) : Int32 := if v = 0 then 1000001 else sI v
theorem nxv_0 : nxv 0 = 1000001 := rfl
theorem nxv_s {v : Nat} (h : v ≠ 0) : nxv v = sI v := if_neg h
def nxl (pl : Nat → Nat) (last s v : Nat) : Prop := (v = 0 ∧ ∀ l, 1 ≤ l → l < s → pl l ≤ last) ∨ (last < v ∧ v ≤ 20000 ∧ (∃ l, 1 ≤ l ∧ l < s ∧ pl l = v) ∧ ∀ l, 1 ≤ l → l < s → last < pl l → v ≤ pl l)
theorem m_packsN {fu k n cap last q : Nat} {pl zl fr oc : Nat → Nat} {M : mwM} {L : mwL} (hfu : 50 ≤ fu) (h : PvM M k n cap pl zl fr oc) (hl : last ≤ 20000) (hfr : ∀ l, 1 ≤ l → l ≤ n → (fr l = 0 ↔ last < pl l)) : (∀ l, 1 ≤ l → l ≤ n → pl l ≤ last) ∧ fX16_packs_h196 fu k 5040 (q + 1) (sI last, M, L) = fX16_packs_h196 fu k 5040 q (1000001, M, L) ∨ ∃ p, last < p ∧ p ≤ 20000 ∧ (∃ l, 1 ≤ l ∧ l ≤ n ∧ pl l = p) ∧ (∀ l, 1 ≤ l → l ≤ n → last < pl l → p ≤ pl l) ∧ fX16_packs_h196 fu k 5040 (q + 1) (sI last, M, L) = mb3 (DX16_packPeriod fu k (sI p) 5040 M L) (fun r62 M60 L61 => (if r62 = 0 then some (0, M60, L61) else fX16_packs_h196 fu k 5040 q (sI p, M60, L61))) := by
  obtain ⟨h1, h2, h3, h4, h5⟩ := h
  have key : ∀ (r s w v : Nat), s + r = n + 1 → r < w → 1 ≤ s → nxl pl last s v → (∀ l, 1 ≤ l → l ≤ n → pl l ≤ last) ∧ fX16_packs_h209 fu k 5040 (fX16_packs_h196 fu k 5040 q) w (sI last, nxv v, sI s, M, L) = fX16_packs_h196 fu k 5040 q (1000001, M, L) ∨ ∃ p, last < p ∧ p ≤ 20000 ∧ (∃ l, 1 ≤ l ∧ l ≤ n ∧ pl l = p) ∧ (∀ l, 1 ≤ l → l ≤ n → last < pl l → p ≤ pl l) ∧ fX16_packs_h209 fu k 5040 (fX16_packs_h196 fu k 5040 q) w (sI last, nxv v, sI s, M, L) = mb3 (DX16_packPeriod fu k (sI p) 5040 M L) (fun r62 M60 L61 => (if r62 = 0 then some (0, M60, L61) else fX16_packs_h196 fu k 5040 q (sI p, M60, L61))) := by
    intro r
    induction r with
    | zero =>
      intro s w v hs hw s1 hv
      obtain ⟨w', rfl⟩ : ∃ y, w = y + 1 := ⟨w - 1, by omega⟩
      have un : fX16_packs_h209 fu k 5040 (fX16_packs_h196 fu k 5040 q) (w' + 1) (sI last, nxv v, sI s, M, L) = fX16_packs_i209 fu k 5040 (fX16_packs_h196 fu k 5040 q) (fX16_packs_h209 fu k 5040 (fX16_packs_h196 fu k 5040 q) w') (sI last) (nxv v) (sI s) M L := rfl
      rw [un]
      unfold fX16_packs_i209
      rw [h2, if_pos (by rw [sI_lt (by omega) (by omega)]; omega)]
      rcases hv with ⟨v0, va⟩ | ⟨v1, v2, ⟨l, l1, l2, l3⟩, v4⟩
      · left
        refine ⟨fun l l1 l2 => va l l1 (by omega), ?_⟩
        subst v0
        rw [nxv_0, if_pos (by decide)]
        rfl
      · right
        refine ⟨v, v1, v2, ⟨l, l1, by omega, l3⟩, fun l l1 l2 => v4 l l1 (by omega), ?_⟩
        rw [nxv_s (by omega), if_neg (by rw [sI_lle (by decide) (by omega)]; omega)]
        rfl
    | succ r ih =>
      intro s w v hs hw s1 hv
      obtain ⟨w', rfl⟩ : ∃ y, w = y + 1 := ⟨w - 1, by omega⟩
      obtain ⟨a1, a2, a3, a4, a5, a6, a7, a8, a9, a10⟩ := h5 s s1 (by omega)
      have hfs := hfr s s1 (by omega)
      have un : fX16_packs_h209 fu k 5040 (fX16_packs_h196 fu k 5040 q) (w' + 1) (sI last, nxv v, sI s, M, L) = fX16_packs_i209 fu k 5040 (fX16_packs_h196 fu k 5040 q) (fX16_packs_h209 fu k 5040 (fX16_packs_h196 fu k 5040 q) w') (sI last) (nxv v) (sI s) M L := rfl
      rw [un]
      unfold fX16_packs_i209 fX16_packs_b270 fX16_packs_b272
      simp only [mlet]
      rw [h2, if_neg (by rw [sI_lt (by omega) (by omega)]; omega), m_isGroup a1 (by omega), mb3_s, if_neg (show ¬ (1 : Int32) = 0 by decide), mck_s (by omega) (by omega), sI_nn (by omega), a7, sI_1]
      have stay : nxl pl last (s + 1) v → _ := fun hh => ih (s + 1) w' v (by omega) (by omega) (by omega) hh
      by_cases c : fr s = 0
      · have c2 := hfs.mp c
        rw [if_pos (by rw [c]; rfl), mck_s (by omega) (by omega), a2, if_neg (by rw [sI_le (by omega) (by omega)]; omega), mck_s (by omega) (by omega)]
        have hge : ∀ u : Nat, v ≠ 0 → v ≤ 20000 → ((nxv v ≤ sI (pl s)) ↔ v ≤ pl s) := fun _ w1 w2 => by rw [nxv_s w1, sI_le (by omega) (by omega)]
        rcases hv with ⟨v0, va⟩ | ⟨v1, v2, ⟨l, l1, l2, l3⟩, v4⟩
        · subst v0
          rw [if_neg (by rw [nxv_0, sI_lle (by decide) (by omega)]; omega), mck_s (by omega) (by omega)]
          have nx := ih (s + 1) w' (pl s) (by omega) (by omega) (by omega) (Or.inr ⟨c2, a3, ⟨s, s1, by omega, rfl⟩, fun l l1 l2 l3 => by
            by_cases e : l = s
            · rw [e]; exact Nat.le_refl _
            · have := va l l1 (by omega); omega⟩)
          rw [nxv_s (show pl s ≠ 0 by omega)] at nx
          exact nx
        · by_cases d : v ≤ pl s
          · rw [if_pos ((hge 0 (by omega) v2).mpr d)]
            refine stay (Or.inr ⟨v1, v2, ⟨l, l1, by omega, l3⟩, fun x x1 x2 x3 => ?_⟩)
            by_cases e : x = s
            · rw [e]; exact d
            · exact v4 x x1 (by omega) x3
          · rw [if_neg (fun w => d ((hge 0 (by omega) v2).mp w)), mck_s (by omega) (by omega)]
            have nx := ih (s + 1) w' (pl s) (by omega) (by omega) (by omega) (Or.inr ⟨c2, a3, ⟨s, s1, by omega, rfl⟩, fun x x1 x2 x3 => by
              by_cases e : x = s
              · rw [e]; exact Nat.le_refl _
              · have := v4 x x1 (by omega) x3; omega⟩)
            rw [nxv_s (show pl s ≠ 0 by omega)] at nx
            exact nx
      · rw [if_neg (by rw [show (0 : Int32) = sI 0 from rfl, sI_eq (by omega) (by omega)]; exact c)]
        have c2 : ¬ last < pl s := fun w => c (hfs.mpr w)
        refine stay ?_
        rcases hv with ⟨v0, va⟩ | ⟨v1, v2, ⟨l, l1, l2, l3⟩, v4⟩
        · refine Or.inl ⟨v0, fun l l1 l2 => ?_⟩
          by_cases e : l = s
          · rw [e]; omega
          · exact va l l1 (by omega)
        · refine Or.inr ⟨v1, v2, ⟨l, l1, by omega, l3⟩, fun x x1 x2 x3 => ?_⟩
          by_cases e : x = s
          · rw [e] at x3; omega
          · exact v4 x x1 (by omega) x3
  have un : fX16_packs_h196 fu k 5040 (q + 1) (sI last, M, L) = fX16_packs_i196 fu k 5040 (fX16_packs_h196 fu k 5040 q) (sI last) M L := rfl
  rw [un]
  unfold fX16_packs_i196
  rw [if_neg (by rw [sI_lle (by decide) (by omega)]; omega)]
  exact key n 1 fu 0 (by omega) (by omega) (by omega) (Or.inl ⟨rfl, fun l l1 l2 => by omega⟩)
/-- frames 1 .. G are used, and no other -/
theorem m_frames {fu k n cap G : Nat} {pl zl fr oc : Nat → Nat} {M : mwM} {L : mwL} (hfu : 70 ≤ fu) (h : PvM M k n cap pl zl fr oc) (hG : G ≤ 40) (h0 : ∀ l, 1 ≤ l → l ≤ n → fr l ≤ G) (hu : ∀ f, 1 ≤ f → f ≤ G → ∃ l, 1 ≤ l ∧ l ≤ n ∧ fr l = f) : DX16_frames fu k M L = some (sI G, M, L) := by
  unfold DX16_frames
  have key : ∀ (r f q : Nat), f + r = 65 → r < q → 1 ≤ f → fX16_frames_h4 fu k q (sI (if f ≤ G then f - 1 else G), sI f, M, L) = some (sI G, M, L) := by
    intro r
    induction r with
    | zero =>
      intro f q hf hq f1
      obtain ⟨q', rfl⟩ : ∃ y, q = y + 1 := ⟨q - 1, by omega⟩
      show fX16_frames_i4 fu k (fX16_frames_h4 fu k q') _ (sI f) M L = _
      unfold fX16_frames_i4
      rw [if_pos (by rw [sI_lle (by decide) (by omega)]; omega), if_neg (by omega)]
    | succ r ih =>
      intro f q hf hq f1
      obtain ⟨q', rfl⟩ : ∃ y, q = y + 1 := ⟨q - 1, by omega⟩
      have nx := ih (f + 1) q' (by omega) (by omega) (by omega)
      show fX16_frames_i4 fu k (fX16_frames_h4 fu k q') _ (sI f) M L = _
      unfold fX16_frames_i4 fX16_frames_b25
      simp only [mlet]
      rw [if_neg (by rw [sI_lle (by decide) (by omega)]; omega), m_isUsed (by omega) h (by omega), mb3_s, sI_1]
      by_cases c : f ≤ G
      · obtain ⟨l, l1, l2, l3⟩ := hu f f1 c
        rw [ex1_t.mpr ⟨l, l1, l2, decide_eq_true l3⟩, bI_t, if_neg (show ¬ (1 : Int32) = 0 by decide), if_pos c, sI_1]
        rw [show f - 1 + 1 = f from by omega]
        by_cases d : f + 1 ≤ G
        · rw [if_pos d] at nx; exact nx
        · rw [if_neg d, show G = f from by omega] at nx
          rw [show G = f from by omega]; exact nx
      · rw [ex1_f.mpr (fun l l1 l2 => decide_eq_false (fun w => by have := h0 l l1 l2; omega)), bI_f, if_pos (show (0 : Int32) = 0 from rfl), if_neg c]
        rw [if_neg (by omega)] at nx
        exact nx
  have st := key 64 1 fu (by omega) (by omega) (by omega)
  by_cases c : 1 ≤ G
  · rw [if_pos c] at st; exact st
  · rw [if_neg c, show G = 0 from by omega] at st
    rw [show G = 0 from by omega]; exact st
theorem m_packsE {fu k n cap G q : Nat} {pl zl fr oc : Nat → Nat} {M : mwM} {L : mwL} (hfu : 70 ≤ fu) (h : PvM M k n cap pl zl fr oc) (hG : G ≤ 40) (h0 : ∀ l, 1 ≤ l → l ≤ n → fr l ≤ G) (hu : ∀ f, 1 ≤ f → f ≤ G → ∃ l, 1 ≤ l ∧ l ≤ n ∧ fr l = f) : fX16_packs_h196 fu k 5040 (q + 1) (1000001, M, L) = some (1, M, L) := by
  have un : fX16_packs_h196 fu k 5040 (q + 1) (1000001, M, L) = fX16_packs_i196 fu k 5040 (fX16_packs_h196 fu k 5040 q) 1000001 M L := rfl
  have hc := h.2.2.2.1
  rw [un]
  unfold fX16_packs_i196 fX16_packs_b328
  rw [if_pos (by decide), m_frames hfu h hG h0 hu, mb3_s, h.1, sI_L (by omega), sI_L (by omega), sL_mul]
  have hb : G * cap ≤ 320 := Nat.le_trans (Nat.mul_le_mul hG hc) (by omega)
  have hle : ¬ 0 < lg_cmp (sL (G * cap)) 65536 := by
    have e : lg_cmp (sL (G * cap)) 65536 ≤ 0 := by
      rw [lg_cmp_le]
      have h2 : sL (G * cap) ≤ sL 65536 := by rw [sL_le (by omega) (by omega)]; omega
      exact h2
    exact Int32.not_lt.mpr e
  rw [if_neg hle]
  unfold mzz
  rw [if_pos (Or.inr rfl)]
