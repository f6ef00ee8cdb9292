/-! THE NUMBERS ALONE: loops come to their ends; the tables of the codes -/
/-- a loop comes to its end -/
theorem mloop_ex {σ β : Type} {body : (σ → Option β) → σ → Option β} (P : σ → Prop) (Qr : β → Prop) (μ : σ → Nat) (h : ∀ (s : σ) (r : σ → Option β), P s → (∀ s', P s' → μ s' < μ s → ∃ b, r s' = some b ∧ Qr b) → ∃ b, body r s = some b ∧ Qr b) : ∀ (f : Nat) (s : σ), μ s < f → P s → ∃ b, mloop body f s = some b ∧ Qr b := by
  intro f
  induction f with
  | zero => intro s hs; omega
  | succ f ih =>
    intro s hs hP
    exact h s (mloop body f) hP (fun s' hP' hm => ih s' (by omega) hP')
theorem mck_ok {β : Type} {i : Int32} {n : Nat} {x : Option β} (h : vp_in i n) : mck i n x = x := if_neg h
/-- small numbers -/
def pI (k : Nat) : Int32 := Int32.ofNat k
theorem pI_in {k n : Nat} (h : k < n) (hn : n ≤ 1000000) : vp_in (pI k) n := by
  have h2 : (Int32.ofNat k).toInt = k := Int32.toInt_ofNat_of_lt (by omega)
  intro q
  rcases q with q | q
  · have := Int32.lt_iff_toInt_lt.mp q
    simp only [pI, h2] at this
    have h0 : (0 : Int32).toInt = 0 := rfl
    omega
  · have : (pI k).toNatClampNeg = k := by simp [Int32.toNatClampNeg, pI, h2]
    omega
theorem pI_nat {k : Nat} (h : k < 1000000) : (pI k).toNatClampNeg = k := by
  have h2 : (Int32.ofNat k).toInt = k := Int32.toInt_ofNat_of_lt (by omega)
  simp [Int32.toNatClampNeg, pI, h2]
theorem pI_succ {k : Nat} : pI k + 1 = pI (k + 1) := by
  simp [pI, Int32.ofNat_add]
theorem pI_le {a b : Nat} (ha : a < 1000000) (hb : b < 1000000) : (pI a ≤ pI b) ↔ a ≤ b := by
  have h1 : (Int32.ofNat a).toInt = a := Int32.toInt_ofNat_of_lt (by omega)
  have h2 : (Int32.ofNat b).toInt = b := Int32.toInt_ofNat_of_lt (by omega)
  rw [Int32.le_iff_toInt_le]
  simp only [pI, h1, h2]
  omega
theorem pI_lt {a b : Nat} (ha : a < 1000000) (hb : b < 1000000) : (pI a < pI b) ↔ a < b := by
  have h1 : (Int32.ofNat a).toInt = a := Int32.toInt_ofNat_of_lt (by omega)
  have h2 : (Int32.ofNat b).toInt = b := Int32.toInt_ofNat_of_lt (by omega)
  rw [Int32.lt_iff_toInt_lt]
  simp only [pI, h1, h2]
  omega

def xtN (k : Nat) : Int32 := ((pI k <<< (1 &&& 31)) &&& 255) ^^^ (if k < 128 then 0 else 27)
def cgN : Nat → Nat × Int32
  | 0 => (0, 1)
  | n + 1 => let q := (cgN n).2; (n + 1, q ^^^ xtN q.toNatClampNeg)
def cgl : List Int32 := (List.range 256).foldl (fun l _ => match l with | [] => [1] | q :: r => (q ^^^ xtN q.toNatClampNeg) :: q :: r) []
def cga : List Int32 := cgl.reverse
theorem cga_len : cga.length = 256 := by decide +kernel
theorem cga_0 : cga[0]? = some 1 := by decide +kernel
theorem cga_in : cga.all (fun v => decide (¬ (v < 0 ∨ 256 ≤ v.toNatClampNeg))) = true := by decide +kernel
theorem cga_st : (List.range 255).all (fun i => decide (cga[i + 1]? = (cga[i]?).map (fun v => v ^^^ xtN v.toNatClampNeg))) = true := by decide +kernel
def kpt (lo hi : Nat) (M0 M : mwM) : Prop := ∀ a j, (a < lo ∨ hi ≤ a) → M a j = M0 a j
theorem kpt.rf {lo hi : Nat} {M : mwM} : kpt lo hi M M := fun _ _ _ => rfl
theorem kpt.set {lo hi k j : Nat} {x : Int32} {M0 M : mwM} (h : kpt lo hi M0 M) (h1 : lo ≤ k) (h2 : k < hi) : kpt lo hi M0 (mset M k j x) := fun a b hab => by
  rw [mset_k (by omega)]
  exact h a b hab
theorem kpt.tr {lo hi : Nat} {M0 M M1 : mwM} (h : kpt lo hi M0 M) (h1 : kpt lo hi M M1) : kpt lo hi M0 M1 := fun a b hab => (h1 a b hab).trans (h a b hab)
theorem DX3_mix (fu : Nat) (v : Int32) (M : mwM) (L : mwL) : ∃ r, DX3_mixBits fu v M L = some (r, M, L) := ⟨_, rfl⟩
theorem DX3_inv3 (fu : Nat) (v : Int32) (M : mwM) (L : mwL) : ∃ r, DX3_timesInverseOfThree fu v M L = some (r, M, L) := by
  unfold DX3_timesInverseOfThree fX3_timesInverseOfThree_b37
  simp only [mlet]
  split <;> exact ⟨_, rfl⟩
theorem cga_step {i : Nat} {v : Int32} (hi : i < 255) (hv : cga[i]? = some v) : cga[i + 1]? = some (v ^^^ xtN v.toNatClampNeg) := by
  have h := List.all_eq_true.mp cga_st i (List.mem_range.mpr hi)
  rw [of_decide_eq_true h, hv]
  rfl
theorem cga_vin {i : Nat} {v : Int32} (hv : cga[i]? = some v) : vp_in v 256 := by
  have h := List.all_eq_true.mp cga_in v (List.mem_of_getElem? hv)
  exact (of_decide_eq_true h : ¬ (v < 0 ∨ 256 ≤ v.toNatClampNeg))
theorem DX3_h127 (fu : Nat) (M0 : mwM) (L0 : mwL) : ∀ (f : Nat) (i : Nat) (v1 v2 : Int32) (M : mwM), i ≤ 255 → 255 - i < f → cga[i]? = some v1 → (∀ k, k < 256 → M 99 k = xtN k) → kpt 98 139 M0 M → ∃ b, fX3_tail_h127 fu f (v1, v2, pI i, M, L0) = some b ∧ kpt 98 139 M0 b.1 ∧ b.2 = L0 := by
  intro f i v1 v2 M hi hf hv hM hk
  refine mloop_ex (P := fun (s : Int32 × Int32 × Int32 × mwM × mwL) => ∃ i, i ≤ 255 ∧ cga[i]? = some s.1 ∧ s.2.2.1 = pI i ∧ (∀ k, k < 256 → s.2.2.2.1 99 k = xtN k) ∧ kpt 98 139 M0 s.2.2.2.1 ∧ s.2.2.2.2 = L0) (Qr := fun (b : mwM × mwL) => kpt 98 139 M0 b.1 ∧ b.2 = L0) (μ := fun (s : Int32 × Int32 × Int32 × mwM × mwL) => 255 - s.2.2.1.toNatClampNeg) ?_ f _ (by show 255 - (pI i).toNatClampNeg < f; rw [pI_nat (by omega)]; exact hf) ⟨i, hi, hv, rfl, hM, hk, rfl⟩
  rintro ⟨v1, v2, v3, M, L⟩ r ⟨i, hi, hv, h3, hM, hk, hL⟩ ih
  dsimp only at hv h3 hM hk hL ih
  subst h3 hL
  show ∃ b, fX3_tail_i127 fu r v1 v2 (pI i) M L = some b ∧ _
  unfold fX3_tail_i127
  by_cases h : i = 255
  · subst h
    rw [if_pos (show (255 : Int32) ≤ pI 255 from (pI_le (a := 255) (b := 255) (by omega) (by omega)).mpr (by omega))]
    exact ⟨_, rfl, hk, rfl⟩
  · rw [if_neg (fun q : (255 : Int32) ≤ pI i => by have := (pI_le (a := 255) (b := i) (by omega) (by omega)).mp q; omega)]
    obtain ⟨r1, e1⟩ := DX3_mix fu v2 M L
    rw [e1, mb3_s, mck_ok (cga_vin hv)]
    simp only [mlet]
    rw [mck_ok (cga_vin hv)]
    obtain ⟨r2, e2⟩ := DX3_inv3 fu v2 (mset M 98 v1.toNatClampNeg r1) L
    rw [e2, mb3_s, mset_k (by omega), hM _ (Nat.not_le.mp (fun q => cga_vin hv (Or.inr q))), pI_succ]
    refine ih _ ⟨i + 1, by omega, cga_step (by omega) hv, rfl, fun k hk => ?_, hk.set (by omega) (by omega), rfl⟩ ?_
    · exact (mset_k (M := M) (k := 98) (j := v1.toNatClampNeg) (x := r1) (by decide)).trans (hM k hk)
    · show 255 - (pI (i + 1)).toNatClampNeg < 255 - (pI i).toNatClampNeg
      rw [pI_nat (by omega), pI_nat (by omega)]; omega
theorem xt_eq {i : Nat} (hi : i < 256) : (if pI i < 128 then ((pI i <<< (1 &&& 31)) &&& 255) ^^^ 0 else ((pI i <<< (1 &&& 31)) &&& 255) ^^^ 27) = xtN i := by
  have h : (pI i < 128) ↔ i < 128 := pI_lt (b := 128) (by omega) (by omega)
  unfold xtN
  by_cases h1 : i < 128
  · rw [if_pos (h.mpr h1), if_pos h1]
  · rw [if_neg (fun q => h1 (h.mp q)), if_neg h1]
theorem DX3_h85 (fu : Nat) (hfu : 300 ≤ fu) (M0 : mwM) (L0 : mwL) : ∀ (f : Nat) (i : Nat) (M : mwM), i ≤ 256 → 256 - i < f → (∀ k, k < i → M 99 k = xtN k) → kpt 98 139 M0 M → ∃ b, fX3_tail_h85 fu f (1, 1, pI i, M, L0) = some b ∧ kpt 98 139 M0 b.1 ∧ b.2 = L0 := by
  intro f i M hi hf hM hk
  refine mloop_ex (P := fun (s : Int32 × Int32 × Int32 × mwM × mwL) => ∃ i, i ≤ 256 ∧ s.1 = 1 ∧ s.2.1 = 1 ∧ s.2.2.1 = pI i ∧ (∀ k, k < i → s.2.2.2.1 99 k = xtN k) ∧ kpt 98 139 M0 s.2.2.2.1 ∧ s.2.2.2.2 = L0) (Qr := fun (b : mwM × mwL) => kpt 98 139 M0 b.1 ∧ b.2 = L0) (μ := fun (s : Int32 × Int32 × Int32 × mwM × mwL) => 256 - s.2.2.1.toNatClampNeg) ?_ f _ (by show 256 - (pI i).toNatClampNeg < f; rw [pI_nat (by omega)]; exact hf) ⟨i, hi, rfl, rfl, rfl, hM, hk, rfl⟩
  rintro ⟨v1, v2, v3, M, L⟩ r ⟨i, hi, h1, h2, h3, hM, hk, hL⟩ ih
  dsimp only at h1 h2 h3 hM hk hL ih
  subst h1 h2 h3 hL
  show ∃ b, fX3_tail_i85 fu r 1 1 (pI i) M L = some b ∧ _
  unfold fX3_tail_i85
  by_cases h : i = 256
  · subst h
    rw [if_pos (show (256 : Int32) ≤ pI 256 from (pI_le (a := 256) (b := 256) (by omega) (by omega)).mpr (by omega))]
    exact DX3_h127 fu M0 L fu 0 1 1 M (by omega) (by omega) cga_0 hM hk
  · rw [if_neg (fun q : (256 : Int32) ≤ pI i => by have := (pI_le (a := 256) (b := i) (by omega) (by omega)).mp q; omega)]
    have hlt : (pI i < 128) ↔ i < 128 := pI_lt (b := 128) (by omega) (by omega)
    have key : ∀ x : Int32, ((pI i <<< (1 &&& 31)) &&& 255) ^^^ x = xtN i → ∃ b, fX3_tail_b117 fu r 1 1 (pI i) (pI i) ((pI i <<< (1 &&& 31)) &&& 255) x M L = some b ∧ kpt 98 139 M0 b.1 ∧ b.2 = L := fun x hx => by
      unfold fX3_tail_b117
      rw [mck_ok (pI_in (by omega) (by omega))]
      simp only [mlet]
      rw [pI_succ, hx, pI_nat (by omega)]
      refine ih _ ⟨i + 1, by omega, rfl, rfl, rfl, fun k hk9 => ?_, hk.set (by omega) (by omega), rfl⟩ ?_
      · by_cases hki : k = i
        · subst hki; exact mset_s
        · exact (mset_j (M := M) (k := 99) (x := xtN i) hki).trans (hM k (by omega))
      · show 256 - (pI (i + 1)).toNatClampNeg < 256 - (pI i).toNatClampNeg
        rw [pI_nat (by omega), pI_nat (by omega)]; omega
    by_cases h1 : i < 128
    · rw [if_pos (hlt.mpr h1)]
      exact key 0 (by simp [xtN, h1])
    · rw [if_neg (fun q => h1 (hlt.mp q))]
      exact key 27 (by simp [xtN, h1])
theorem DX3_tail_ex (fu : Nat) (hfu : 300 ≤ fu) (M : mwM) (L : mwL) : ∃ b, DX3_tail fu M L = some b ∧ kpt 98 139 M b.1 ∧ b.2 = L := by
  unfold DX3_tail
  exact DX3_h85 fu hfu M L fu 0 _ (by omega) (by omega) (fun k hk => by omega) (kpt.rf.set (by omega) (by omega))

def prS (a2 : Int32) : Nat → Nat → Int32 → Int32 → Int32
  | 0, _, v2, _ => v2
  | n + 1, i, v2, v3 => prS a2 n (i + 1) (if ((a2 >>> (pI i &&& 31)) &&& 1) = 1 then v2 ^^^ v3 else v2) (if v3 ≤ 127 then 2 * v3 else ((2 * v3) - 256) ^^^ 27)
def invl : List Nat := [0, 1, 141, 246, 203, 82, 123, 209, 232, 79, 41, 192, 176, 225, 229, 199, 116, 180, 170, 75, 153, 43, 96, 95, 88, 63, 253, 204, 255, 64, 238, 178, 58, 110, 90, 241, 85, 77, 168, 201, 193, 10, 152, 21, 48, 68, 162, 194, 44, 69, 146, 108, 243, 57, 102, 66, 242, 53, 32, 111, 119, 187, 89, 25, 29, 254, 55, 103, 45, 49, 245, 105, 167, 100, 171, 19, 84, 37, 233, 9, 237, 92, 5, 202, 76, 36, 135, 191, 24, 62, 34, 240, 81, 236, 97, 23, 22, 94, 175, 211, 73, 166, 54, 67, 244, 71, 145, 223, 51, 147, 33, 59, 121, 183, 151, 133, 16, 181, 186, 60, 182, 112, 208, 6, 161, 250, 129, 130, 131, 126, 127, 128, 150, 115, 190, 86, 155, 158, 149, 217, 247, 2, 185, 164, 222, 106, 50, 109, 216, 138, 132, 114, 42, 20, 159, 136, 249, 220, 137, 154, 251, 124, 46, 195, 143, 184, 101, 72, 38, 200, 18, 74, 206, 231, 210, 98, 12, 224, 31, 239, 17, 117, 120, 113, 165, 142, 118, 61, 189, 188, 134, 87, 11, 40, 47, 163, 218, 212, 228, 15, 169, 39, 83, 4, 27, 252, 172, 230, 122, 7, 174, 99, 197, 219, 226, 234, 148, 139, 196, 213, 157, 248, 144, 107, 177, 13, 214, 235, 198, 14, 207, 173, 8, 78, 215, 227, 93, 80, 30, 179, 91, 35, 56, 52, 104, 70, 3, 140, 221, 156, 125, 160, 205, 26, 65, 28]
theorem invl_ok : (List.range 256).all (fun a => a == 0 || (decide (prS (pI (invl.getD a 0)) 8 0 0 (pI a) = 1) && decide (invl.getD a 0 < 256))) = true := by decide +kernel
theorem DX14_h7 (fu : Nat) (a1 a2 : Int32) (M : mwM) (L : mwL) : ∀ (n i f : Nat) (v2 v3 : Int32), i + n = 8 → n < f → fX14_product_h7 fu a1 a2 f (v2, v3, pI i, M, L) = some (prS a2 n i v2 v3, M, L) := by
  intro n
  induction n with
  | zero =>
    intro i f v2 v3 hi hf
    obtain ⟨f, rfl⟩ : ∃ g, f = g + 1 := ⟨f - 1, by omega⟩
    show fX14_product_i7 fu a1 a2 _ v2 v3 (pI i) M L = _
    unfold fX14_product_i7
    rw [if_pos (show (8 : Int32) ≤ pI i from (pI_le (a := 8) (b := i) (by omega) (by omega)).mpr (by omega))]
    rfl
  | succ n ih =>
    intro i f v2 v3 hi hf
    obtain ⟨f, rfl⟩ : ∃ g, f = g + 1 := ⟨f - 1, by omega⟩
    show fX14_product_i7 fu a1 a2 (fX14_product_h7 fu a1 a2 f) v2 v3 (pI i) M L = _
    unfold fX14_product_i7
    rw [if_neg (fun q : (8 : Int32) ≤ pI i => by have := (pI_le (a := 8) (b := i) (by omega) (by omega)).mp q; omega)]
    unfold fX14_product_b31 fX14_product_b54
    simp only [mlet, pI_succ, prS]
    have hq := fun x y => ih (i + 1) f x y (by omega) (by omega)
    by_cases c1 : ((a2 >>> (pI i &&& 31)) &&& 1) = 1
    · rw [if_pos c1, if_pos c1]
      by_cases c2 : v3 ≤ 127
      · rw [if_pos c2, if_pos c2]; exact hq _ _
      · rw [if_neg c2, if_neg c2]; exact hq _ _
    · rw [if_neg c1, if_neg c1]
      by_cases c2 : v3 ≤ 127
      · rw [if_pos c2, if_pos c2]; exact hq _ _
      · rw [if_neg c2, if_neg c2]; exact hq _ _
theorem DX14_pr (fu : Nat) (hfu : 300 ≤ fu) (a1 a2 : Int32) (M : mwM) (L : mwL) : DX14_product fu a1 a2 M L = some (prS a2 8 0 0 a1, M, L) := DX14_h7 fu a1 a2 M L 8 0 fu 0 a1 (by omega) (by omega)
theorem DX14_h26 (fu : Nat) (a1 : Int32) (M : mwM) (L : mwL) : ∀ (n i f : Nat) (v1 v2 : Int32), i + n = 5 → n < f → ∃ r, fX14_substituteOf_h26 fu a1 f (v1, v2, pI i, M, L) = some (r, M, L) := by
  intro n
  induction n with
  | zero =>
    intro i f v1 v2 hi hf
    obtain ⟨f, rfl⟩ : ∃ g, f = g + 1 := ⟨f - 1, by omega⟩
    refine ⟨v2, ?_⟩
    show fX14_substituteOf_i26 fu a1 _ v1 v2 (pI i) M L = _
    unfold fX14_substituteOf_i26
    rw [if_pos (show (5 : Int32) ≤ pI i from (pI_le (a := 5) (b := i) (by omega) (by omega)).mpr (by omega))]
  | succ n ih =>
    intro i f v1 v2 hi hf
    obtain ⟨f, rfl⟩ : ∃ g, f = g + 1 := ⟨f - 1, by omega⟩
    show ∃ r, fX14_substituteOf_i26 fu a1 (fX14_substituteOf_h26 fu a1 f) v1 v2 (pI i) M L = _
    unfold fX14_substituteOf_i26
    rw [if_neg (fun q : (5 : Int32) ≤ pI i => by have := (pI_le (a := 5) (b := i) (by omega) (by omega)).mp q; omega)]
    simp only [mlet, pI_succ]
    exact ih (i + 1) f _ _ (by omega) (by omega)
theorem DX14_h2 (fu : Nat) (hfu : 300 ≤ fu) (a : Nat) (ha : 0 < a ∧ a < 256) (M : mwM) (L : mwL) : ∀ (n k f : Nat), k + n = invl.getD a 0 → n < f → ∃ r, fX14_substituteOf_h2 fu (pI a) f (pI k, M, L) = some (r, M, L) := by
  have hok := List.all_eq_true.mp invl_ok a (List.mem_range.mpr ha.2)
  have hok2 : prS (pI (invl.getD a 0)) 8 0 0 (pI a) = 1 := by
    simp only [Bool.or_eq_true, beq_iff_eq, Bool.and_eq_true, decide_eq_true_eq] at hok
    rcases hok with h | h
    · omega
    · exact h.1
  intro n
  induction n with
  | zero =>
    intro k f hk hf
    obtain ⟨f, rfl⟩ : ∃ g, f = g + 1 := ⟨f - 1, by omega⟩
    show ∃ r, fX14_substituteOf_i2 fu (pI a) _ (pI k) M L = _
    unfold fX14_substituteOf_i2
    rw [if_neg (fun q : pI a ≤ (0 : Int32) => by have := (pI_le (a := a) (b := 0) (by omega) (by omega)).mp q; omega), DX14_pr fu hfu, mb3_s]
    rw [show k = invl.getD a 0 by omega, if_pos hok2]
    exact DX14_h26 fu (pI a) M L 5 0 fu _ 99 (by omega) (by omega)
  | succ n ih =>
    intro k f hk hf
    obtain ⟨f, rfl⟩ : ∃ g, f = g + 1 := ⟨f - 1, by omega⟩
    show ∃ r, fX14_substituteOf_i2 fu (pI a) (fX14_substituteOf_h2 fu (pI a) f) (pI k) M L = _
    unfold fX14_substituteOf_i2
    rw [if_neg (fun q : pI a ≤ (0 : Int32) => by have := (pI_le (a := a) (b := 0) (by omega) (by omega)).mp q; omega), DX14_pr fu hfu, mb3_s]
    by_cases c : prS (pI k) 8 0 0 (pI a) = 1
    · rw [if_pos c]
      exact DX14_h26 fu (pI a) M L 5 0 fu _ 99 (by omega) (by omega)
    · rw [if_neg c]
      simp only [mlet, pI_succ]
      exact ih (k + 1) f (by omega) (by omega)
theorem DX14_sub (fu : Nat) (hfu : 300 ≤ fu) (a : Nat) (ha : a < 256) (M : mwM) (L : mwL) : ∃ r, DX14_substituteOf fu (pI a) M L = some (r, M, L) := by
  unfold DX14_substituteOf
  by_cases h0 : a = 0
  · subst h0
    obtain ⟨f, rfl⟩ : ∃ g, fu = g + 1 := ⟨fu - 1, by omega⟩
    show ∃ r, fX14_substituteOf_i2 (f + 1) (pI 0) (fX14_substituteOf_h2 (f + 1) (pI 0) f) (0 : Int32) M L = some (r, M, L)
    unfold fX14_substituteOf_i2
    rw [if_pos (show pI 0 ≤ (0 : Int32) from (pI_le (a := 0) (b := 0) (by omega) (by omega)).mpr (by omega))]
    exact DX14_h26 (f + 1) (pI 0) M L 5 0 (f + 1) _ 99 (by omega) (by omega)
  · have hok := List.all_eq_true.mp invl_ok a (List.mem_range.mpr ha)
    have hlt : invl.getD a 0 < 256 := by
      simp only [Bool.or_eq_true, beq_iff_eq, Bool.and_eq_true, decide_eq_true_eq] at hok
      rcases hok with h | h
      · omega
      · exact h.2
    exact DX14_h2 fu hfu a ⟨by omega, ha⟩ M L (invl.getD a 0) 0 fu (by omega) (by omega)
theorem DX14_h124 (fu : Nat) (hfu : 300 ≤ fu) (M0 : mwM) (L : mwL) : ∀ (n i f : Nat) (M : mwM), i + n = 256 → n < f → kpt 854 869 M0 M → (∀ j, M 854 j = M0 854 j) → (∀ j, M 856 j = M0 856 j) → ∃ b, fX14_tail_h124 fu f (pI i, M, L) = some b ∧ kpt 854 869 M0 b.1 ∧ (∀ j, b.1 854 j = M0 854 j) ∧ (∀ j, b.1 856 j = M0 856 j) ∧ b.2 = L := by
  intro n
  induction n with
  | zero =>
    intro i f M hi hf hk h4 h6
    obtain ⟨f, rfl⟩ : ∃ g, f = g + 1 := ⟨f - 1, by omega⟩
    show ∃ b, fX14_tail_i124 fu _ (pI i) M L = some b ∧ _
    unfold fX14_tail_i124
    rw [if_pos (show (256 : Int32) ≤ pI i from (pI_le (a := 256) (b := i) (by omega) (by omega)).mpr (by omega))]
    exact ⟨_, rfl, hk, h4, h6, rfl⟩
  | succ n ih =>
    intro i f M hi hf hk h4 h6
    obtain ⟨f, rfl⟩ : ∃ g, f = g + 1 := ⟨f - 1, by omega⟩
    show ∃ b, fX14_tail_i124 fu (fX14_tail_h124 fu f) (pI i) M L = some b ∧ _
    unfold fX14_tail_i124
    rw [if_neg (fun q : (256 : Int32) ≤ pI i => by have := (pI_le (a := 256) (b := i) (by omega) (by omega)).mp q; omega)]
    obtain ⟨r, e⟩ := DX14_sub fu hfu i (by omega) M L
    rw [e, mb3_s, mck_ok (pI_in (by omega) (by omega))]
    simp only [mlet, pI_succ]
    exact ih (i + 1) f _ (by omega) (by omega) (hk.set (by omega) (by omega)) (fun j => (mset_k (by decide)).trans (h4 j)) (fun j => (mset_k (by decide)).trans (h6 j))
theorem DX14_tail_ex (fu : Nat) (hfu : 300 ≤ fu) (M : mwM) (L : mwL) : ∃ b, DX14_tail fu M L = some b ∧ kpt 854 869 M b.1 ∧ (∀ j, b.1 854 j = M 854 j) ∧ (∀ j, b.1 856 j = M 856 j) ∧ b.2 = L :=
  DX14_h124 fu hfu M L 256 0 fu M (by omega) (by omega) kpt.rf (fun _ => rfl) (fun _ => rfl)

def kinv (M0 : mwM) (c i : Nat) (M : mwM) : Prop := M 854 1 = pI c ∧ M 856 c = pI (i % 16) ∧ (∀ k, c < k → M 856 k = 0) ∧ kpt 854 869 M0 M
theorem mod16 : ∀ i, i < 16 → (pI i + 1) - (pI i + 1) / 16 * 16 = pI ((i + 1) % 16) := by decide +kernel
theorem pI_16 {c i : Nat} : (16 : Int32) * pI c + pI i = pI (16 * c + i) := by
  simp [pI, Int32.ofNat_mul, Int32.ofNat_add]
theorem DX14_key_ex (fu : Nat) (M0 : mwM) (c : Nat) (hc : c < 16) (M : mwM) (L : mwL) (h1 : M 854 1 = pI c) (h6 : ∀ k, c < k → M 856 k = 0) (hk : kpt 854 869 M0 M) : ∃ M', DX14_key fu M L = some (pI (c + 1), M', L) ∧ kinv M0 (c + 1) 0 M' := by
  unfold DX14_key
  simp only [mlet]
  have e1 : mset M 854 0 0 854 1 = pI c := (mset_j (by decide)).trans h1
  rw [e1, if_neg (fun q : pI c = (16 : Int32) => by
    have h : (pI c).toNatClampNeg = (pI 16).toNatClampNeg := congrArg _ q
    rw [pI_nat (by omega), pI_nat (by omega)] at h
    omega)]
  rw [pI_succ]
  refine ⟨_, by rw [mset_s], mset_s, ?_, fun k hk9 => ?_, (hk.set (by omega) (by omega)).set (by omega) (by omega)⟩
  · rw [mset_k (by decide), mset_k (by decide)]; exact h6 _ (by omega)
  · rw [mset_k (by decide), mset_k (by decide)]; exact h6 _ (by omega)
theorem DX14_byte_ex (fu : Nat) (M0 : mwM) (c i : Nat) (x : Int32) (hc : 1 ≤ c ∧ c ≤ 16) (hi : i < 16) (M : mwM) (L : mwL) (h : kinv M0 c i M) : ∃ M', DX14_keyByte fu (pI c) x M L = some (M', L) ∧ kinv M0 c (i + 1) M' := by
  obtain ⟨h1, h2, h3, hk⟩ := h
  unfold DX14_keyByte DX14_noKey fX14_noKey_b23
  simp only [mlet]
  have e1 : mset M 854 0 0 854 1 = pI c := (mset_j (by decide)).trans h1
  rw [e1, if_neg (fun q : pI c < (1 : Int32) => by have := (pI_lt (a := c) (b := 1) (by omega) (by omega)).mp q; omega), if_pos ((pI_le (by omega) (by omega)).mpr (Nat.le_refl c))]
  have ez : mzz (0 : Int32) (some ((0 : Int32), mset M 854 0 0, L)) = some (0, mset M 854 0 0, L) := if_pos (Or.inl rfl)
  rw [ez, mb3_s, if_pos rfl, mck_ok (pI_in (by omega) (by omega)), pI_nat (by omega)]
  have e2 : mset M 854 0 0 856 c = pI i := (mset_k (by decide)).trans (by rw [h2, Nat.mod_eq_of_lt hi])
  rw [e2, pI_16, mck_ok (pI_in (by omega) (by omega)), mck_ok (pI_in (by omega) (by omega)), mck_ok (pI_in (by omega) (by omega)), pI_nat (by omega)]
  have e3 : mset (mset M 854 0 0) 855 (16 * c + i) (x &&& 255) 856 c = pI i := (mset_k (by decide)).trans e2
  rw [e3, mod16 i hi]
  refine ⟨_, rfl, ?_, mset_s, fun k hk9 => ?_, ((hk.set (by omega) (by omega)).set (by omega) (by omega)).set (by omega) (by omega)⟩
  · rw [mset_k (by decide), mset_k (by decide)]; exact e1
  · rw [mset_j (by omega), mset_k (by decide), mset_k (by decide)]; exact h3 k hk9
theorem DX19_h730 (fu : Nat) (M0 : mwM) (L : mwL) (Q : mwM × mwL → Prop) (c : Nat) (hc : 1 ≤ c ∧ c ≤ 16) (r714 : (Int32 × mwM × mwL) → Option (mwM × mwL)) (hr : ∀ M', M' 854 1 = pI c → (∀ k, c < k → M' 856 k = 0) → kpt 854 869 M0 M' → ∃ b, r714 (pI (c + 1), M', L) = some b ∧ Q b) :
    ∀ (n i f : Nat) (M : mwM), i + n = 16 → n < f → kinv M0 c i M → ∃ b, fX19_tail_h730 fu r714 f (pI c, pI c, pI i, M, L) = some b ∧ Q b := by
  intro n
  induction n with
  | zero =>
    intro i f M hi hf hk
    obtain ⟨f, rfl⟩ : ∃ g, f = g + 1 := ⟨f - 1, by omega⟩
    show ∃ b, fX19_tail_i730 fu r714 (fX19_tail_h730 fu r714 f) (pI c) (pI c) (pI i) M L = some b ∧ Q b
    unfold fX19_tail_i730
    rw [if_pos (show (16 : Int32) ≤ pI i from (pI_le (a := 16) (b := i) (by omega) (by omega)).mpr (by omega))]
    simp only [mlet, pI_succ]
    exact hr M hk.1 hk.2.2.1 hk.2.2.2
  | succ n ih =>
    intro i f M hi hf hk
    obtain ⟨f, rfl⟩ : ∃ g, f = g + 1 := ⟨f - 1, by omega⟩
    show ∃ b, fX19_tail_i730 fu r714 (fX19_tail_h730 fu r714 f) (pI c) (pI c) (pI i) M L = some b ∧ Q b
    unfold fX19_tail_i730
    rw [if_neg (fun q : (16 : Int32) ≤ pI i => by have := (pI_le (a := 16) (b := i) (by omega) (by omega)).mp q; omega)]
    obtain ⟨M', e, hk'⟩ := DX14_byte_ex fu M0 c i ((pI c + pI i).toInt8.toInt32) hc (by omega) M L hk
    rw [e, mb2_s]
    simp only [mlet, pI_succ]
    exact ih (i + 1) f M' (by omega) (by omega) hk'
theorem DX19_h714 (fu : Nat) (hfu : 300 ≤ fu) (M0 : mwM) (L : mwL) : ∀ (n c f : Nat) (M : mwM), c + n = 16 → n < f → M 854 1 = pI c → (∀ k, c < k → M 856 k = 0) → kpt 854 869 M0 M → ∃ b, fX19_tail_h714 fu f (pI (c + 1), M, L) = some b ∧ kpt 854 869 M0 b.1 ∧ b.2 = L := by
  intro n
  induction n with
  | zero =>
    intro c f M hc hf h1 h6 hk
    obtain ⟨f, rfl⟩ : ∃ g, f = g + 1 := ⟨f - 1, by omega⟩
    show ∃ b, fX19_tail_i714 fu (fX19_tail_h714 fu f) (pI (c + 1)) M L = some b ∧ _
    unfold fX19_tail_i714
    rw [if_pos (show (16 : Int32) < pI (c + 1) from (pI_lt (a := 16) (b := c + 1) (by omega) (by omega)).mpr (by omega))]
    exact ⟨_, rfl, hk, rfl⟩
  | succ n ih =>
    intro c f M hc hf h1 h6 hk
    obtain ⟨f, rfl⟩ : ∃ g, f = g + 1 := ⟨f - 1, by omega⟩
    show ∃ b, fX19_tail_i714 fu (fX19_tail_h714 fu f) (pI (c + 1)) M L = some b ∧ _
    unfold fX19_tail_i714
    rw [if_neg (fun q : (16 : Int32) < pI (c + 1) => by have := (pI_lt (a := 16) (b := c + 1) (by omega) (by omega)).mp q; omega)]
    obtain ⟨M', e, hk'⟩ := DX14_key_ex fu M0 c (by omega) M L h1 h6 hk
    rw [e, mb3_s]
    exact DX19_h730 fu M0 L (fun b => kpt 854 869 M0 b.1 ∧ b.2 = L) (c + 1) (by omega) (fX19_tail_h714 fu f) (fun M' a1 a2 a3 => ih (c + 1) f M' (by omega) (by omega) a1 a2 a3) 16 0 fu M' (by omega) (by omega) hk'
theorem DX19_tail_ex (fu : Nat) (hfu : 300 ≤ fu) (M : mwM) (L : mwL) (h1 : M 854 1 = 0) (h6 : ∀ k, M 856 k = 0) : ∃ b, DX19_tail fu M L = some b ∧ kpt 854 869 M b.1 ∧ b.2 = L :=
  DX19_h714 fu hfu M L 16 0 fu M (by omega) (by omega) h1 (fun k _ => h6 k) kpt.rf
