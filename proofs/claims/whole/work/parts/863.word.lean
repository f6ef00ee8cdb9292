/-! READING: the class's words -/
abbrev sln (a1 : Nat) : Nat := mw_slen.getD a1 0
theorem c_stands {fu n w s f a1 : Nat} {tx : Nat → Nat} {A : mwM} {L : mwL} (hfu : 200 ≤ fu) (hT : TxC A n tx) (h8 : A 1 8 = sI w) (h9 : A 1 9 = sI s) (hw : w + s ≤ n) (hf : f + s ≤ sln a1) (hl : sln a1 ≤ 100) : DX8_standsAt fu a1 (sI f) A L = some (bI (decide (∀ i, i < s → mw_sch a1 (sI (f + i)) = sI (tx (w + i)))), A, L) := by
  have hn := hT.2.1
  have key : ∀ (r q j : Nat), j + r = s → r < q → (∀ i, i < j → mw_sch a1 (sI (f + i)) = sI (tx (w + i))) → fX8_standsAt_h2 fu a1 (sI f) q (sI j, A, L) = some (bI (decide (∀ i, i < s → mw_sch a1 (sI (f + i)) = sI (tx (w + i)))), A, L) := by
    intro r
    induction r with
    | zero =>
      intro q j hj hq hp
      obtain ⟨q, rfl⟩ : ∃ y, q = y + 1 := ⟨q - 1, by omega⟩
      show fX8_standsAt_i2 fu a1 (sI f) (fX8_standsAt_h2 fu a1 (sI f) q) (sI j) A L = _
      unfold fX8_standsAt_i2
      rw [h9, if_pos (show sI s ≤ sI j by rw [sI_le (by omega) (by omega)]; omega), decide_eq_true (fun i hi => hp i (by omega))]
      rfl
    | succ r ih =>
      intro q j hj hq hp
      obtain ⟨q, rfl⟩ : ∃ y, q = y + 1 := ⟨q - 1, by omega⟩
      obtain ⟨t1, t2, t3⟩ := hT.2.2 (w + j) (by omega)
      show fX8_standsAt_i2 fu a1 (sI f) (fX8_standsAt_h2 fu a1 (sI f) q) (sI j) A L = _
      unfold fX8_standsAt_i2 fX8_standsAt_b41
      rw [h9, if_neg (show ¬ sI s ≤ sI j by rw [sI_le (by omega) (by omega)]; omega), sI_add, if_neg (show ¬ Int32.ofNat (mw_slen.getD a1 0) ≤ sI (f + j) by
        show ¬ sI (sln a1) ≤ sI (f + j)
        rw [sI_le (by omega) (by omega)]; omega), mck_s (n := mw_slen.getD a1 0) ((by omega : f + j < sln a1)) (by omega), h8, sI_add, mck_s (show w + j < 6000 by omega) (by omega), sI_nn (by omega), t1]
      by_cases c : mw_sch a1 (sI (f + j)) = sI (tx (w + j))
      · rw [if_pos c, mlet_e, sI_1]
        refine ih q (j + 1) (by omega) (by omega) (fun i hi => ?_)
        by_cases e : i = j
        · rw [e]; exact c
        · exact hp i (by omega)
      · rw [if_neg c, decide_eq_false (fun z => c (z j (by omega)))]
        rfl
  exact key s fu 0 (by omega) (by omega) (fun i hi => by omega)
def chB (a1 f : Nat) (W : List Nat) : Bool := decide (∀ i, i < W.length → mw_sch a1 (sI (f + i)) = sI (W.getD i 0) ∧ W.getD i 0 < 256 ∧ mw_sch a1 (sI (f + i)) ≠ 32)
theorem c_stW {fu n w f a1 : Nat} {W : List Nat} {tx : Nat → Nat} {A : mwM} {L : mwL} (hfu : 200 ≤ fu) (hT : TxC A n tx) (h8 : A 1 8 = sI w) (h9 : A 1 9 = sI W.length) (hw : w + W.length ≤ n) (hf : f + W.length ≤ sln a1) (hl : sln a1 ≤ 100) (hc : chB a1 f W = true) : DX8_standsAt fu a1 (sI f) A L = some (bI (isW tx w W.length W), A, L) := by
  have hc' := of_decide_eq_true hc
  have hn := hT.2.1
  rw [c_stands hfu hT h8 h9 hw hf hl]
  congr 3
  unfold isW
  refine decide_eq_decide.mpr ⟨fun z => ⟨rfl, fun i hi => ?_⟩, fun z i hi => ?_⟩
  · have z1 := z i hi
    obtain ⟨c1, c2, c3⟩ := hc' i hi
    obtain ⟨t1, t2, t3⟩ := hT.2.2 (w + i) (by omega)
    rw [c1, sI_eq (by omega) (by omega)] at z1
    exact z1.symm
  · obtain ⟨c1, c2, c3⟩ := hc' i hi
    rw [c1, z.2 i hi]
theorem c_isWord {fu n w s a1 : Nat} {W : List Nat} {tx : Nat → Nat} {A : mwM} {L : mwL} (hfu : 200 ≤ fu) (hT : TxC A n tx) (h8 : A 1 8 = sI w) (h9 : A 1 9 = sI s) (hw : w + s ≤ n) (hf : W.length = sln a1) (hl : sln a1 ≤ 100) (hc : chB a1 0 W = true) : DX8_isWord fu a1 A L = some (bI (isW tx w s W), A, L) := by
  have hn := hT.2.1
  unfold DX8_isWord fX8_isWord_b24 fX8_isWord_b25
  rw [h9]
  by_cases c : s = W.length
  · subst c
    have e0 := c_stW (f := 0) (L := L) hfu hT h8 h9 hw (by omega) hl hc
    rw [if_pos (show Int32.ofNat (mw_slen.getD a1 0) = sI W.length by rw [hf]; rfl), show (0 : Int32) = sI 0 from rfl, e0, mb3_s]
    cases isW tx w W.length W with
    | true => rw [bI_t, if_neg (by decide)]; rfl
    | false => rw [bI_f, if_pos (by rfl)]; rfl
  · rw [if_neg (show ¬ Int32.ofNat (mw_slen.getD a1 0) = sI s by
      show ¬ sI (sln a1) = sI s
      rw [sI_eq (by omega) (by omega)]; omega)]
    have : isW tx w s W = false := decide_eq_false (fun z => c z.1)
    rw [this]
    rfl
/-- one of the words of a row of words -/
theorem c_idx1 {fu n w s f j a1 : Nat} {W : List Nat} {tx : Nat → Nat} {A : mwM} {L : mwL} (hfu : 200 ≤ fu) (hT : TxC A n tx) (h8 : A 1 8 = sI w) (h9 : A 1 9 = sI s) (hw : w + s ≤ n) (hf : f + W.length = sln a1 ∨ (f + W.length < sln a1 ∧ mw_sch a1 (sI (f + W.length)) = 32)) (hl : sln a1 ≤ 100) (hc : chB a1 f W = true) : ∀ (r q i : Nat), i + r = W.length → fX8_indexIn_h7 fu a1 (q + 1 + r) (sI j, sI f, sI (f + i), A, L) = if isW tx w s W = true then some (sI j, A, L) else fX8_indexIn_h7 fu a1 q (sI (j + 1), sI (f + W.length + 1), sI (f + W.length + 1), A, L) := by
  have hn := hT.2.1
  have hc' := of_decide_eq_true hc
  intro r
  induction r with
  | zero =>
    intro q i hi
    have ei : i = W.length := by omega
    subst ei
    show fX8_indexIn_i7 fu a1 (fX8_indexIn_h7 fu a1 q) (sI j) (sI f) (sI (f + W.length)) A L = _
    generalize fX8_indexIn_h7 fu a1 q = H
    unfold fX8_indexIn_i7
    rw [if_neg (show ¬ Int32.ofNat (mw_slen.getD a1 0) < sI (f + W.length) by
      show ¬ sI (sln a1) < sI (f + W.length)
      rw [sI_lt (by omega) (by omega)]; omega)]
    have b36 : fX8_indexIn_b36 fu a1 H (sI j) (sI f) (sI (f + W.length)) A L = if isW tx w s W = true then some (sI j, A, L) else H (sI (j + 1), sI (f + W.length + 1), sI (f + W.length + 1), A, L) := by
      unfold fX8_indexIn_b36 fX8_indexIn_b58 fX8_indexIn_b66
      rw [sI_sub (by omega), show f + W.length - f = W.length from by omega, h9]
      by_cases cs : s = W.length
      · subst cs
        rw [if_pos rfl, c_stW hfu hT h8 h9 hw (by omega) hl hc, mb3_s]
        cases isW tx w W.length W with
        | true => rw [bI_t, if_neg (by decide), if_pos rfl]
        | false => rw [bI_f, if_pos (by rfl), if_neg (by decide), mlet_e, mlet_e, mlet_e, sI_1, sI_1]
      · have : isW tx w s W = false := decide_eq_false (fun z => cs z.1)
        rw [if_neg (show ¬ sI W.length = sI s by rw [sI_eq (by omega) (by omega)]; omega), this, if_neg (by decide), mlet_e, mlet_e, mlet_e, sI_1, sI_1]
    rcases hf with h1 | ⟨h1, h2⟩
    · rw [if_pos (show sI (f + W.length) = Int32.ofNat (mw_slen.getD a1 0) by rw [h1]; rfl)]
      exact b36
    · rw [if_neg (show ¬ sI (f + W.length) = Int32.ofNat (mw_slen.getD a1 0) by
        show ¬ sI (f + W.length) = sI (sln a1)
        rw [sI_eq (by omega) (by omega)]; omega), mck_s (n := mw_slen.getD a1 0) ((by omega : f + W.length < sln a1)) (by omega), h2, if_pos rfl]
      exact b36
  | succ r ih =>
    intro q i hi
    obtain ⟨c1, c2, c3⟩ := hc' i (by omega)
    have hlt : f + i < sln a1 := by omega
    show fX8_indexIn_i7 fu a1 (fX8_indexIn_h7 fu a1 (q + 1 + r)) (sI j) (sI f) (sI (f + i)) A L = _
    rw [← ih q (i + 1) (by omega)]
    generalize fX8_indexIn_h7 fu a1 (q + 1 + r) = H
    unfold fX8_indexIn_i7 fX8_indexIn_b66
    rw [if_neg (show ¬ Int32.ofNat (mw_slen.getD a1 0) < sI (f + i) by
      show ¬ sI (sln a1) < sI (f + i)
      rw [sI_lt (by omega) (by omega)]; omega), if_neg (show ¬ sI (f + i) = Int32.ofNat (mw_slen.getD a1 0) by
      show ¬ sI (f + i) = sI (sln a1)
      rw [sI_eq (by omega) (by omega)]; omega), mck_s (n := mw_slen.getD a1 0) ((by omega : f + i < sln a1)) (by omega), if_neg c3, mlet_e, sI_1]
    rfl
def wsB (a1 : Nat) : Nat → List (List Nat) → Bool
  | f, [] => decide (f = sln a1 + 1)
  | f, W :: R => chB a1 f W && (decide (f + W.length = sln a1) || (decide (f + W.length < sln a1) && decide (mw_sch a1 (sI (f + W.length)) = 32))) && wsB a1 (f + W.length + 1) R
def idxW (tx : Nat → Nat) (w s : Nat) : List (List Nat) → Nat → Int32
  | [], _ => -1
  | W :: R, j => if isW tx w s W = true then sI j else idxW tx w s R (j + 1)
theorem c_idxL {fu n w s a1 : Nat} {tx : Nat → Nat} {A : mwM} {L : mwL} (hfu : 200 ≤ fu) (hT : TxC A n tx) (h8 : A 1 8 = sI w) (h9 : A 1 9 = sI s) (hw : w + s ≤ n) (hl : sln a1 ≤ 100) : ∀ (Ws : List (List Nat)) (f j q : Nat), wsB a1 f Ws = true → sln a1 + 2 < q + f → fX8_indexIn_h7 fu a1 q (sI j, sI f, sI f, A, L) = some (idxW tx w s Ws j, A, L) := by
  intro Ws
  induction Ws with
  | nil =>
    intro f j q hs hq
    have ef : f = sln a1 + 1 := of_decide_eq_true hs
    obtain ⟨q, rfl⟩ : ∃ y, q = y + 1 := ⟨q - 1, by omega⟩
    show fX8_indexIn_i7 fu a1 (fX8_indexIn_h7 fu a1 q) (sI j) (sI f) (sI f) A L = _
    unfold fX8_indexIn_i7
    rw [if_pos (show Int32.ofNat (mw_slen.getD a1 0) < sI f by
      show sI (sln a1) < sI f
      rw [sI_lt (by omega) (by omega)]; omega)]
    rfl
  | cons W R ih =>
    intro f j q hs hq
    unfold wsB at hs
    rw [Bool.and_eq_true, Bool.and_eq_true, Bool.or_eq_true, Bool.and_eq_true] at hs
    obtain ⟨⟨s1, s2⟩, s3⟩ := hs
    have s2' : f + W.length = sln a1 ∨ (f + W.length < sln a1 ∧ mw_sch a1 (sI (f + W.length)) = 32) := by
      rcases s2 with u | ⟨u1, u2⟩
      · exact Or.inl (of_decide_eq_true u)
      · exact Or.inr ⟨of_decide_eq_true u1, of_decide_eq_true u2⟩
    obtain ⟨q', hq'⟩ : ∃ q', q = q' + 1 + W.length := ⟨q - 1 - W.length, by omega⟩
    have st := c_idx1 (fu := fu) (j := j) (L := L) hfu hT h8 h9 hw s2' hl s1 W.length q' 0 (by omega)
    rw [show f + 0 = f from rfl] at st
    rw [hq', st]
    show _ = some (if isW tx w s W = true then sI j else idxW tx w s R (j + 1), A, L)
    cases isW tx w s W with
    | true => rw [if_pos rfl, if_pos rfl]
    | false => rw [if_neg (by decide), if_neg (by decide)]; exact ih (f + W.length + 1) (j + 1) q' s3 (by omega)
theorem c_indexIn {fu n w s a1 : Nat} {tx : Nat → Nat} {A : mwM} {L : mwL} (Ws : List (List Nat)) (hfu : 200 ≤ fu) (hT : TxC A n tx) (h8 : A 1 8 = sI w) (h9 : A 1 9 = sI s) (hw : w + s ≤ n) (hl : sln a1 ≤ 100) (hs : wsB a1 0 Ws = true) : DX8_indexIn fu a1 A L = some (idxW tx w s Ws 0, A, L) := by
  have := c_idxL (L := L) hfu hT h8 h9 hw hl Ws 0 0 fu hs (by omega)
  exact this
def wLines : List (List Nat) := [[99, 111, 110, 116, 114, 111, 108, 108, 101, 114], [116, 97, 115, 107], [99, 104, 97, 114, 116], [115, 116, 97, 116, 101], [101, 100, 103, 101], [97, 102, 116, 101, 114], [100, 97, 116, 117, 109], [101, 110, 116, 101, 114], [108, 101, 97, 118, 101], [116, 97, 107, 101], [115, 105, 103, 110, 97, 108], [112, 114, 111, 116, 101, 99, 116], [114, 101, 97, 100], [119, 97, 116, 99, 104]]
def wKinds : List (List Nat) := [[112, 108, 97, 105, 110], [115, 112, 108, 105, 116], [104, 105, 115, 116, 111, 114, 121], [100, 101, 101, 112], [102, 111, 114, 107], [106, 111, 105, 110]]
def wOps : List (List Nat) := [[101, 113], [110, 101], [108, 116], [103, 101], [100, 105, 118], [109, 111, 100]]
theorem st_lines : wsB 0 0 wLines = true := by decide +kernel
theorem st_kinds : wsB 1 0 wKinds = true := by decide +kernel
theorem st_ops : wsB 3 0 wOps = true := by decide +kernel
theorem ch_if : chB 2 0 [105, 102] = true := by decide +kernel
theorem ch_more : chB 4 0 [109, 111, 114, 101] = true := by decide +kernel
theorem ch_turned : chB 5 0 [116, 117, 114, 110, 101, 100] = true := by decide +kernel
theorem ch_top : chB 6 0 [116, 111, 112] = true := by decide +kernel
theorem ch_time : chB 7 0 [116, 105, 109, 101] = true := by decide +kernel
