/-! the reference: which frame goes first, and its row -/
theorem nbp (id : Nat) (o : Nat → Nat) (i : Nat) : vp_nar .byte (sI (pbF id o i)) = sI (pbF id o i) := nb2' _ (pbF_lt _ _ _)
def fF (M M' : mwM) : Prop := ∀ a y, ¬ (a = 821 ∧ (y = 34 ∨ y = 48)) → a ≠ 848 → a ≠ 851 → M' a y = M a y
theorem fI_m1 {x : Nat} (h : x < 1000) : fI x = -1 ↔ x = 0 := by
  unfold fI
  constructor
  · intro z
    by_cases c : x = 0
    · exact c
    · rw [if_neg c] at z
      exact absurd z.symm (sI_m1n (by omega))
  · intro z
    rw [if_pos z]
theorem m_first {fu F n : Nat} {ow id dn : Nat → Nat} {oc : Nat → Nat → Nat} {M : mwM} {L : mwL} (hfu : 300 ≤ fu) (hn : n < 7) (hM : FrM M F ow id oc dn) : wq (DX12_first fu (sI n) M L) (fun z => z.1 = fI (fsF ow id oc dn n F) ∧ z.2.2 = L ∧ fF M z.2.1 ∧ (CA M → CA z.2.1)) := by
  have hM' := hM
  obtain ⟨h4, hF, hA⟩ := hM'
  unfold DX12_first
  refine wq_for (body := fun r z => fX12_first_i7 fu (sI n) r z.1 z.2.1 z.2.2.1 z.2.2.2.1 z.2.2.2.2) (fun f (x : mwM) => (fI (fsF ow id oc dn n f), (if fsF ow id oc dn n f = 0 then 0 else 83), sI f, x, L)) (fun f x => fF M x ∧ (x = M ∨ x 821 48 = -1) ∧ (fsF ow id oc dn n f ≠ 0 → ∀ i, i < 83 → x 851 i = sI (pbF (id (fsF ow id oc dn n f - 1)) (oc (fsF ow id oc dn n f - 1)) i))) F ?_ ?_ F 0 M fu (by omega) (by omega) ⟨fun _ _ _ _ _ => rfl, Or.inl rfl, fun h => absurd rfl h⟩
  · intro f x r hf ⟨x1, x2, x3⟩ ih
    show wq (fX12_first_i7 fu (sI n) r (fI (fsF ow id oc dn n f)) (if fsF ow id oc dn n f = 0 then 0 else 83) (sI f) x L) _
    obtain ⟨a1, a2, a3, a4, a5, a6⟩ := hA f hf
    have le := (fsF_le (ow := ow) (id := id) (dn := dn) (oc := oc) (n := n) f).1
    generalize hg : fsF ow id oc dn n f = g at *
    have nx := fun X => ih X
    rw [fsF_s, hg] at nx
    unfold fX12_first_i7
    rw [x1 821 4 (by omega) (by omega) (by omega), h4, if_neg (by rw [sI_le (by omega) (by omega)]; omega), mck_s (by omega) (by omega), mck_s (by omega) (by omega), sI_nn (by omega), x1 823 f (by omega) (by omega) (by omega), a1, x1 828 f (by omega) (by omega) (by omega), a4]
    have skip : (∀ X, (if ow f = n ∧ dn f = 0 then (if g = 0 then f + 1 else if bef (id f) (id (g - 1)) (oc f) (oc (g - 1)) = true then f + 1 else g) else g) = g → (fF M X ∧ (X = M ∨ X 821 48 = -1) ∧ (g ≠ 0 → ∀ i, i < 83 → X 851 i = sI (pbF (id (g - 1)) (oc (g - 1)) i))) → wq (fX12_first_b184 fu (sI n) r (fI g) (if g = 0 then 0 else 83) (sI f) X L) (fun z => z.1 = fI (fsF ow id oc dn n F) ∧ z.2.2 = L ∧ fF M z.2.1 ∧ (CA M → CA z.2.1))) := by
      intro X he hX
      unfold fX12_first_b184
      simp only [mlet]
      rw [sI_1]
      have := nx X
      rw [he] at this
      exact this hX
    by_cases c1 : ow f = n
    · rw [if_pos (by rw [c1])]
      by_cases c2 : dn f = 0
      · rw [if_pos (show sI (dn f) = 0 by rw [c2]; rfl)]
        have hfr : FrM1 x f (id f) (oc f) := by
          obtain ⟨b1, b2, b3, b4⟩ := a6
          refine ⟨by rw [x1 824 f (by omega) (by omega) (by omega)]; exact b1, by rw [x1 825 f (by omega) (by omega) (by omega)]; exact b2, by rw [x1 826 f (by omega) (by omega) (by omega)]; exact b3, fun i u => by rw [x1 827 _ (by omega) (by omega) (by omega)]; exact b4 i u⟩
        refine wq_b2 (m_writePlain (L := L) (by omega) (by omega) a3 hfr) ?_
        rintro Y L1 ⟨y1, y2, y3, y4, y5⟩
        dsimp only at y1 y2 y3 y4 y5
        subst y1
        have fY : fF M Y := fun a y u1 u2 u3 => by rw [y5 a y u1 u2]; exact x1 a y u1 u2 u3
        -- the new one is before
        have yes : (if g = 0 then f + 1 else if bef (id f) (id (g - 1)) (oc f) (oc (g - 1)) = true then f + 1 else g) = f + 1 → ∀ (v2 v3 : Int32), wq (fX12_first_b134 fu (sI n) r v2 v3 (sI f) 1 Y L1) (fun z => z.1 = fI (fsF ow id oc dn n F) ∧ z.2.2 = L1 ∧ fF M z.2.1 ∧ (CA M → CA z.2.1)) := by
          intro he v2 v3
          unfold fX12_first_b134
          rw [if_neg (show ¬ (1 : Int32) = 0 by decide), y2]
          simp only [mlet]
          refine wq_for (body := fun q z => fX12_first_i155 fu (sI n) r q z.1 z.2.1 z.2.2.1 z.2.2.2.1 z.2.2.2.2.1 z.2.2.2.2.2) (fun j (w : mwM) => (sI f, sI 83, sI f, sI j, w, L1)) (fun j w => (∀ i, i < j → w 851 i = sI (pbF (id f) (oc f) i)) ∧ ∀ a y, a ≠ 851 → w a y = Y a y) 83 ?_ ?_ 83 0 Y fu (by omega) (by omega) ⟨fun i u => by omega, fun _ _ _ => rfl⟩
          · intro j w q hj ⟨w1, w2⟩ ihw
            show wq (fX12_first_i155 fu (sI n) r q (sI f) (sI 83) (sI f) (sI j) w L1) _
            unfold fX12_first_i155
            rw [w2 821 34 (by omega), y2, if_neg (by rw [sI_le (by omega) (by omega)]; omega), mck_s (by omega) (by omega), mck_s (by omega) (by omega), sI_nn (by omega), w2 848 j (by omega), y3 j hj, nbp]
            simp only [mlet]
            rw [sI_1]
            refine ihw _ ⟨fun i u => ?_, fun a y u => by rw [mset_n (by omega)]; exact w2 a y u⟩
            by_cases z : i = j
            · rw [z, mset_s]
            · rw [mset_n (by omega)]
              exact w1 i (by omega)
          · intro w q ⟨w1, w2⟩
            show wq (fX12_first_i155 fu (sI n) r q (sI f) (sI 83) (sI f) (sI 83) w L1) _
            unfold fX12_first_i155 fX12_first_b184
            rw [w2 821 34 (by omega), y2, if_pos (by decide)]
            simp only [mlet]
            rw [sI_1]
            have := nx w
            rw [if_pos ⟨c1, c2⟩, he] at this
            have ef : fI (f + 1) = sI f := by
              unfold fI
              rw [if_neg (by omega), Nat.add_sub_cancel]
            rw [ef, if_neg (show ¬ f + 1 = 0 by omega), Nat.add_sub_cancel] at this
            exact this ⟨fun a y u1 u2 u3 => by rw [w2 a y u3]; exact fY a y u1 u2 u3, Or.inr (by rw [w2 821 48 (by omega)]; exact y4), fun _ => w1⟩
        by_cases c3 : g = 0
        · obtain ⟨q, rfl⟩ : ∃ q, fu = q + 1 := ⟨fu - 1, by omega⟩
          unfold fX12_first_h49
          rw [mloop_S]
          show wq (fX12_first_i49 (q + 1) (sI n) r _ (fI g) (if g = 0 then 0 else 83) (sI f) 0 Y L1) _
          unfold fX12_first_i49 fX12_first_b92 fX12_first_b129
          have em : fI g = -1 := (fI_m1 (by omega)).mpr c3
          rw [if_pos em, if_pos em]
          exact yes (if_pos c3) _ _
        · have em : ¬ fI g = -1 := fun z => c3 ((fI_m1 (by omega)).mp z)
          have hg1 := hA (g - 1) (by omega)
          have h851 := x3 c3
          have o1 : ∀ i, i < 8 → oc f i < 256 := fun i u => (a6.2.2.2 i u).2
          have o2 : ∀ i, i < 8 → oc (g - 1) i < 256 := fun i u => (hg1.2.2.2.2.2.2.2.2 i u).2
          have no : bef (id f) (id (g - 1)) (oc f) (oc (g - 1)) = false → wq (fX12_first_b134 fu (sI n) r (fI g) (if g = 0 then 0 else 83) (sI f) 0 Y L1) (fun z => z.1 = fI (fsF ow id oc dn n F) ∧ z.2.2 = L1 ∧ fF M z.2.1 ∧ (CA M → CA z.2.1)) := by
            intro hb
            unfold fX12_first_b134
            rw [if_pos (show (0 : Int32) = 0 from rfl)]
            refine skip Y (by rw [if_pos ⟨c1, c2⟩, if_neg c3, hb, if_neg (by decide)]) ⟨fY, Or.inr y4, fun _ i u => ?_⟩
            rw [y5 851 i (by omega) (by omega)]
            exact h851 i u
          have key : ∀ (m k q : Nat), k + m = 83 → m < q → (∀ i, i < k → pbF (id f) (oc f) i = pbF (id (g - 1)) (oc (g - 1)) i) → wq (fX12_first_h49 fu (sI n) r q (fI g, (if g = 0 then 0 else 83), sI f, sI k, Y, L1)) (fun z => z.1 = fI (fsF ow id oc dn n F) ∧ z.2.2 = L1 ∧ fF M z.2.1 ∧ (CA M → CA z.2.1)) := by
            intro m
            induction m with
            | zero =>
              intro k q hk hq1 he
              obtain ⟨q', rfl⟩ : ∃ q', q = q' + 1 := ⟨q - 1, by omega⟩
              have : k = 83 := by omega
              subst this
              unfold fX12_first_h49
              rw [mloop_S]
              show wq (fX12_first_i49 fu (sI n) r _ (fI g) (if g = 0 then 0 else 83) (sI f) (sI 83) Y L1) _
              unfold fX12_first_i49 fX12_first_b92 fX12_first_b133
              rw [if_neg em, y2, if_pos (show sI 83 ≤ sI 83 by decide), if_neg em, if_pos (show sI 83 ≤ sI 83 by decide)]
              exact no (bef_e a3 hg1.2.2.1 o1 o2 he)
            | succ m ihm =>
              intro k q hk hq1 he
              obtain ⟨q', rfl⟩ : ∃ q', q = q' + 1 := ⟨q - 1, by omega⟩
              unfold fX12_first_h49
              rw [mloop_S]
              show wq (fX12_first_i49 fu (sI n) r (fX12_first_h49 fu (sI n) r q') (fI g) (if g = 0 then 0 else 83) (sI f) (sI k) Y L1) _
              unfold fX12_first_i49 fX12_first_b92 fX12_first_b133 fX12_first_b129
              have e83 : (if g = 0 then (0 : Int32) else 83) = sI 83 := if_neg c3
              have n83 : ¬ sI 83 ≤ sI k := by rw [sI_le (by omega) (by omega)]; omega
              have p1 := pbF_lt (id f) (oc f) k
              have p2 := pbF_lt (id (g - 1)) (oc (g - 1)) k
              rw [if_neg em, y2, e83, if_neg n83, if_neg n83, mck_s (by omega) (by omega), mck_s (by omega) (by omega), sI_nn (by omega), y3 k (by omega), y5 851 k (by omega) (by omega), h851 k (by omega)]
              by_cases d : pbF (id f) (oc f) k = pbF (id (g - 1)) (oc (g - 1)) k
              · rw [if_pos (by rw [d])]
                simp only [mlet]
                rw [sI_1]
                have := ihm (k + 1) q' (by omega) (by omega) (fun i u => by
                  by_cases z : i = k
                  · rw [z]; exact d
                  · exact he i (by omega))
                rw [e83] at this
                exact this
              · have bk := bef_k a3 hg1.2.2.1 o1 o2 (show k < 83 by omega) he d
                rw [if_neg (by rw [sI_eq (by omega) (by omega)]; exact d), if_neg em, if_neg n83, if_neg n83, mck_s (by omega) (by omega), mck_s (by omega) (by omega)]
                by_cases e : pbF (id f) (oc f) k < pbF (id (g - 1)) (oc (g - 1)) k
                · rw [if_neg (by rw [sI_le (by omega) (by omega)]; omega)]
                  rw [decide_eq_true e] at bk
                  exact yes (by rw [if_neg c3, bk, if_pos rfl]) _ _
                · rw [if_pos (by rw [sI_le (by omega) (by omega)]; omega)]
                  rw [decide_eq_false e] at bk
                  have := no bk
                  rw [e83] at this
                  exact this
          exact key 83 0 fu (by omega) (by omega) (fun i u => by omega)
      · rw [if_neg (show ¬ sI (dn f) = 0 by rw [sI_eql (by omega) (by decide)]; exact c2)]
        exact skip x (if_neg (fun z => c2 z.2)) ⟨x1, x2, x3⟩
    · rw [if_neg (show ¬ sI (ow f) = sI n by rw [sI_eq (by omega) (by omega)]; exact c1)]
      exact skip x (if_neg (fun z => c1 z.1)) ⟨x1, x2, x3⟩
  · intro x r ⟨x1, x2, x3⟩
    show wq (fX12_first_i7 fu (sI n) r (fI (fsF ow id oc dn n F)) (if fsF ow id oc dn n F = 0 then 0 else 83) (sI F) x L) _
    unfold fX12_first_i7
    rw [x1 821 4 (by omega) (by omega) (by omega), h4, if_pos (by rw [sI_le (by omega) (by omega)]; omega)]
    refine wq_some ⟨rfl, rfl, x1, fun hC => ?_⟩
    dsimp only
    rcases x2 with z | z
    · rw [z]; exact hC
    · exact Or.inl z
/-- the row that was written last -/
def WC (M : mwM) (F : Nat) (id : Nat → Nat) (oc : Nat → Nat → Nat) : Prop := M 821 50 = -1 ∨ ∃ g, g < F ∧ M 821 50 = sI g ∧ WrM M (fbF (id g) (oc g))
theorem WrM_fr {M M' : mwM} {f : Nat → Nat} (h : WrM M f) (hf : ∀ a y, (a = 821 ∧ (y = 37 ∨ y = 38)) ∨ a = 849 ∨ a = 850 → M' a y = M a y) : WrM M' f := by
  obtain ⟨h1, h2, h3⟩ := h
  refine ⟨by rw [hf 821 37 (by omega)]; exact h1, fun i u => ?_, by rw [hf 821 38 (by omega)]; exact h3⟩
  rw [hf 849 i (by omega), hf 850 i (by omega)]
  exact h2 i u
theorem m_write {fu F f : Nat} {ow id dn : Nat → Nat} {oc : Nat → Nat → Nat} {M : mwM} {L : mwL} (hfu : 200 ≤ fu) (hM : FrM M F ow id oc dn) (hf : f < F) (hW : WC M F id oc) : wq (DX12_write fu (sI f) M L) (fun z => z.2 = L ∧ WrM z.1 (fbF (id f) (oc f)) ∧ z.1 821 50 = sI f ∧ (CA M → CA z.1) ∧ ∀ a y, ¬ (a = 821 ∧ (y = 34 ∨ y = 37 ∨ y = 38 ∨ y = 41 ∨ y = 48 ∨ y = 50)) → a ≠ 848 → a ≠ 849 → a ≠ 850 → a ≠ 852 → z.1 a y = M a y) := by
  obtain ⟨h4, hF, hA⟩ := hM
  obtain ⟨a1, a2, a3, a4, a5, a6⟩ := hA f hf
  unfold DX12_write fX12_write_b13
  simp only [mlet]
  have anew : wq (mb2 (DX12_writeAnew fu (sI f) M L) (fun M3 L4 => some (mset M3 821 50 (sI f), L4))) (fun z => z.2 = L ∧ WrM z.1 (fbF (id f) (oc f)) ∧ z.1 821 50 = sI f ∧ (CA M → CA z.1) ∧ ∀ a y, ¬ (a = 821 ∧ (y = 34 ∨ y = 37 ∨ y = 38 ∨ y = 41 ∨ y = 48 ∨ y = 50)) → a ≠ 848 → a ≠ 849 → a ≠ 850 → a ≠ 852 → z.1 a y = M a y) := by
    refine wq_b2 (m_writeAnew (L := L) hfu (by omega) a3 a6) ?_
    rintro X L1 ⟨x1, x2, x3, x4⟩
    dsimp only at x1 x2 x3 x4
    refine wq_some ⟨x1, WrM_fr x2 (fun a y u => mset_n (by omega)), by dsimp only; rw [mset_s], fun _ => Or.inl ?_, fun a y u1 u2 u3 u4 u5 => ?_⟩
    · dsimp only
      rw [mset_n (by omega)]
      exact x3
    · dsimp only
      rw [mset_n (by omega)]
      exact x4 a y (by omega) u2 u3 u4 u5
  rcases hW with h | ⟨g, hg, h1, h2⟩
  · rw [h, if_neg (sI_m1n (by omega))]
    exact anew
  · rw [h1]
    by_cases c : g = f
    · subst c
      rw [if_pos rfl]
      refine wq_some ⟨rfl, WrM_fr h2 (fun a y u => mset_n (by omega)), by dsimp only; rw [mset_s], fun hC => CA_fr hC (fun a y u => mset_n (by omega)), fun a y u1 u2 u3 u4 u5 => ?_⟩
      dsimp only
      rw [mset_n (by omega)]
    · rw [if_neg (by rw [sI_eq (by omega) (by omega)]; exact c)]
      exact anew
