/-! the reference's bus: numbers, checks -/
theorem nb2 : ∀ b, b < 2 → vp_nar .byte (sI b).toInt8.toInt32 = sI b := by decide
theorem nb2' : ∀ b, b < 2 → vp_nar .byte (sI b) = sI b := by decide
theorem m_number {fu a n : Nat} {p : Nat → Nat} {M : mwM} {L : mwL} (hf : n < fu) (ha : a + n ≤ 700) (hp : ∀ i, a ≤ i → i < a + n → M 848 i = sI (p i)) : DX12_number fu (sI a) (sI n) M L = some (sI (num p a n), M, L) := by
  unfold DX12_number
  have key : ∀ (m j f : Nat), j + m = n → m < f → fX12_number_h5 fu (sI a) (sI n) f (sI (num p a j), sI (a + j), M, L) = some (sI (num p a n), M, L) := by
    intro m
    induction m with
    | zero =>
      intro j f hj hf1
      obtain ⟨g, rfl⟩ : ∃ g, f = g + 1 := ⟨f - 1, by omega⟩
      have : j = n := by omega
      subst this
      unfold fX12_number_h5
      rw [mloop_S]
      show fX12_number_i5 fu (sI a) (sI j) _ (sI (num p a j)) (sI (a + j)) M L = _
      unfold fX12_number_i5
      rw [sI_add, if_pos (by rw [sI_le (by omega) (by omega)]; omega)]
    | succ m ih =>
      intro j f hj hf1
      obtain ⟨g, rfl⟩ : ∃ g, f = g + 1 := ⟨f - 1, by omega⟩
      unfold fX12_number_h5
      rw [mloop_S]
      show fX12_number_i5 fu (sI a) (sI n) (fX12_number_h5 fu (sI a) (sI n) g) (sI (num p a j)) (sI (a + j)) M L = _
      unfold fX12_number_i5
      rw [sI_add, if_neg (by rw [sI_le (by omega) (by omega)]; omega), mck_s (by omega) (by omega), sI_nn (by omega), hp _ (by omega) (by omega), sI_lml, sI_add, sI_1]
      simp only [mlet]
      exact ih (j + 1) g (by omega) (by omega)
  exact key n 0 fu (by omega) hf
theorem m_check {fu c b : Nat} {M : mwM} {L : mwL} (hc : M 821 41 = sI c) (hc2 : c < 1200) (hb : b < 2) : DX12_check fu (sI b) M L = some (mset (mset M 852 c (sI b)) 821 41 (sI (c + 1)), L) := by
  unfold DX12_check
  simp only [mlet]
  rw [hc, mck_s hc2 (by omega), sI_nn (by omega), nb2 b hb, mset_n (by omega), hc, sI_1]
def wTop (w : Nat) : Nat := if w = 15 then 14 else if w = 17 then 16 else 20
def wSh (w : Nat) : Nat := if w = 15 then 17817 else if w = 17 then 92251 else 1058969
def wV0 (w : Nat) : Nat := if w = 15 then 0 else 2 ^ wTop w
theorem m_checkOf {fu w c : Nat} {s : Nat → Nat} {M : mwM} {L : mwL} (hf : c < fu) (hw : w = 15 ∨ w = 17 ∨ w = 21) (hc : M 821 41 = sI c) (hc2 : c ≤ 1200) (hs : ∀ i, i < c → M 852 i = sI (s i) ∧ s i < 2) : DX12_checkOf fu (sI w) M L = some (sI (crcF (2 ^ wTop w) (wSh w) (wV0 w) s c), M, L) := by
  have main : ∀ (m sh v0 : Nat) (x : Int32), m ≤ 20 → sh < 2 ^ (m + 1) → v0 < 2 ^ (m + 1) → fX12_checkOf_h48 fu x fu (sI sh, sI (2 ^ m), sI v0, 0, M, L) = some (sI (crcF (2 ^ m) sh v0 s c), M, L) := by
    intro m sh v0 x hm hsh hv0
    have pl : 2 ^ (m + 1) ≤ 2 ^ 21 := Nat.pow_le_pow_right (by omega) (by omega)
    have pl0 : 2 ^ m ≤ 2 ^ 20 := Nat.pow_le_pow_right (by omega) (by omega)
    have pp : 0 < 2 ^ m := Nat.two_pow_pos m
    have lt : ∀ j, crcF (2 ^ m) sh v0 s j < 2 ^ (m + 1) := by
      intro j
      cases j with
      | zero => exact hv0
      | succ j => exact crcS_lt hsh
    have key : ∀ (r j f : Nat), j + r = c → r < f → fX12_checkOf_h48 fu x f (sI sh, sI (2 ^ m), sI (crcF (2 ^ m) sh v0 s j), sI j, M, L) = some (sI (crcF (2 ^ m) sh v0 s c), M, L) := by
      intro r
      induction r with
      | zero =>
        intro j f hj hf1
        obtain ⟨g, rfl⟩ : ∃ g, f = g + 1 := ⟨f - 1, by omega⟩
        have : j = c := by omega
        subst this
        unfold fX12_checkOf_h48
        rw [mloop_S]
        show fX12_checkOf_i48 fu x _ (sI sh) (sI (2 ^ m)) (sI (crcF (2 ^ m) sh v0 s j)) (sI j) M L = _
        unfold fX12_checkOf_i48
        rw [hc, if_pos (by rw [sI_le (by omega) (by omega)]; omega)]
      | succ r ih =>
        intro j f hj hf1
        obtain ⟨g, rfl⟩ : ∃ g, f = g + 1 := ⟨f - 1, by omega⟩
        unfold fX12_checkOf_h48
        rw [mloop_S]
        show fX12_checkOf_i48 fu x (fX12_checkOf_h48 fu x g) (sI sh) (sI (2 ^ m)) (sI (crcF (2 ^ m) sh v0 s j)) (sI j) M L = _
        unfold fX12_checkOf_i48 fX12_checkOf_b89
        obtain ⟨s1, s2⟩ := hs j (by omega)
        have lj := lt j
        have nz : ∀ {β : Type} {y : Option β}, mnz (sI (2 ^ m)) y = y := by
          intro β y
          unfold mnz
          rw [if_neg (by rw [sI_eql (by omega) (by decide)]; exact Nat.pos_iff_ne_zero.mp pp)]
        rw [hc, if_neg (by rw [sI_le (by omega) (by omega)]; omega), nz]
        simp only [mlet]
        rw [nz, sI_mod (by omega) (by omega), sI_div (by omega) (by omega), sI_lml, mck_s (by omega) (by omega), sI_nn (by omega), s1, sI_xor, sI_1]
        have nx : crcF (2 ^ m) sh v0 s (j + 1) = crcS (2 ^ m) sh (crcF (2 ^ m) sh v0 s j) (s j) := rfl
        have ihj := ih (j + 1) g (by omega) (by omega)
        have dl : crcF (2 ^ m) sh v0 s j / 2 ^ m < 2000000000 := Nat.lt_of_le_of_lt (Nat.div_le_self _ _) (by omega)
        rw [nx] at ihj
        unfold crcS at ihj
        by_cases q : crcF (2 ^ m) sh v0 s j / 2 ^ m = s j
        · rw [if_pos (by rw [q])]
          rw [if_pos q] at ihj
          exact ihj
        · rw [if_neg (by rw [sI_eq dl (by omega)]; exact q)]
          rw [if_neg q] at ihj
          exact ihj
    exact key c 0 fu (by omega) hf
  unfold DX12_checkOf fX12_checkOf_b25 fX12_checkOf_b43
  simp only [mlet]
  rcases hw with rfl | rfl | rfl
  · rw [if_pos (show sI 15 = 15 from rfl), if_pos (show sI 15 = 15 from rfl), show (1 : Int32) <<< ((sI 15 - 1) &&& 31) = sI (2 ^ 14) by decide]
    exact main 14 17817 0 (sI 15) (by omega) (by decide) (by decide)
  · rw [if_neg (show ¬ sI 17 = 15 by decide), if_pos (show sI 17 = 17 from rfl), if_neg (show ¬ sI 17 = 15 by decide), show (1 : Int32) <<< ((sI 17 - 1) &&& 31) = sI (2 ^ 16) by decide]
    exact main 16 92251 (2 ^ 16) (sI 17) (by omega) (by decide) (by decide)
  · rw [if_neg (show ¬ sI 21 = 15 by decide), if_neg (show ¬ sI 21 = 17 by decide), if_neg (show ¬ sI 21 = 15 by decide), show (1 : Int32) <<< ((sI 21 - 1) &&& 31) = sI (2 ^ 20) by decide]
    exact main 20 1058969 (2 ^ 20) (sI 21) (by omega) (by decide) (by decide)
def kdE (e f r : Nat) : Nat := e + (if f = 1 then 2 else if r = 1 then 4 else 0)
theorem m_octetsOf {fu e f r c : Nat} {M : mwM} {L : mwL} (he : e < 2) (hf : f < 2) (hr : r < 2) (hc : c < 16) : DX12_octetsOf fu (sI (kdE e f r)) (sI c) M L = some (sI (ocE f r c), M, L) := by
  have all : ∀ e, e < 2 → ∀ f, f < 2 → ∀ r, r < 2 → ∀ c, c < 16 → (if sI (kdE e f r) ≤ 3 then (if 2 ≤ sI (kdE e f r) then (if 9 ≤ sI c then (if sI c = 9 then (12 : Int32) else (if sI c = 10 then 16 else (if sI c = 11 then 20 else (if sI c = 12 then 24 else (if sI c = 13 then 32 else (if sI c = 14 then 48 else 64)))))) else sI c) else (if sI c ≤ 8 then sI c else 8)) else 0) = sI (ocE f r c) := by decide +kernel
  rw [← all e he f hf r hr c hc]
  unfold DX12_octetsOf fX12_octetsOf_b24 fX12_octetsOf_b103
  generalize sI (kdE e f r) = x
  generalize sI c = y
  by_cases a1 : x ≤ 3
  · simp only [if_pos a1]
    by_cases a2 : 2 ≤ x
    · simp only [if_pos a2]
      by_cases a3 : 9 ≤ y
      · simp only [if_pos a3]
        by_cases b1 : y = 9
        · simp only [if_pos b1]
        · simp only [if_neg b1]
          by_cases b2 : y = 10
          · simp only [if_pos b2]
          · simp only [if_neg b2]
            by_cases b3 : y = 11
            · simp only [if_pos b3]
            · simp only [if_neg b3]
              by_cases b4 : y = 12
              · simp only [if_pos b4]
              · simp only [if_neg b4]
                by_cases b5 : y = 13
                · simp only [if_pos b5]
                · simp only [if_neg b5]
                  by_cases b6 : y = 14
                  · simp only [if_pos b6]
                  · simp only [if_neg b6]
      · simp only [if_neg a3]
    · simp only [if_neg a2]
      by_cases a3 : y ≤ 8
      · simp only [if_pos a3]
      · simp only [if_neg a3]
  · simp only [if_neg a1]
def idE (e : Nat) (q : Nat → Nat) : Nat := if e = 1 then num q 1 11 * 262144 + num q 14 18 else num q 1 11
theorem m_find {fu e f ce : Nat} {q : Nat → Nat} {M : mwM} {L : mwL} (hfu : 20 ≤ fu) (he : e < 2) (hf : f < 2) (hce : 19 ≤ ce) (hce2 : ce ≤ 41) (he1 : e = 1 → 33 ≤ ce) (hq : ∀ i, i < ce → M 848 i = sI (q i) ∧ q i < 2) : wq (DX12_find fu (sI e) (sI f) (sI ce) M L) (fun z => z.2 = L ∧ z.1 821 42 = sI (kdE e f (q (if e = 1 then 32 else 12))) ∧ z.1 821 43 = sI (num q (ce - 4) 4) ∧ z.1 821 44 = sI (idE e q) ∧ ∀ a y, ¬ (a = 821 ∧ 42 ≤ y ∧ y ≤ 44) → z.1 a y = M a y) := by
  unfold DX12_find fX12_find_b15 fX12_find_b25 fX12_find_b37
  -- from the kind on
  have b55 : ∀ x : Nat, wq (fX12_find_b55 fu (sI e) (sI f) (sI ce) (sI e) (sI x) M L) (fun z => z.2 = L ∧ z.1 821 42 = sI (e + x) ∧ z.1 821 43 = sI (num q (ce - 4) 4) ∧ z.1 821 44 = sI (idE e q) ∧ ∀ a y, ¬ (a = 821 ∧ 42 ≤ y ∧ y ≤ 44) → z.1 a y = M a y) := by
    intro x
    unfold fX12_find_b55 fX12_find_b106
    simp only [mlet]
    rw [sI_add, show sI ce - 4 = sI (ce - 4) from sI_sub (b := 4) (by omega)]
    have n1 : ∀ (X : mwM), (∀ i, X 848 i = M 848 i) → DX12_number fu (sI (ce - 4)) 4 X L = some (sI (num q (ce - 4) 4), X, L) := fun X hX => m_number (n := 4) (by omega) (by omega) (fun i u1 u2 => by rw [hX]; exact (hq i (by omega)).1)
    have n2 : ∀ (X : mwM), (∀ i, X 848 i = M 848 i) → DX12_number fu 1 11 X L = some (sI (num q 1 11), X, L) := fun X hX => m_number (a := 1) (n := 11) (by omega) (by omega) (fun i u1 u2 => by rw [hX]; exact (hq i (by omega)).1)
    rw [n1 _ (fun i => mset_n (by omega)), mb3_s, n2 _ (fun i => by rw [mset_n (by omega), mset_n (by omega)]), mb3_s]
    unfold idE
    by_cases c1 : e = 1
    · have n3 : ∀ (X : mwM), (∀ i, X 848 i = M 848 i) → DX12_number fu 14 18 X L = some (sI (num q 14 18), X, L) := fun X hX => m_number (a := 14) (n := 18) (by omega) (by omega) (fun i u1 u2 => by rw [hX]; exact (hq i (by have := he1 c1; omega)).1)
      rw [if_neg (by rw [sI_eql (by omega) (by decide)]; omega), n3 _ (fun i => by rw [mset_n (by omega), mset_n (by omega), mset_n (by omega)]), mb3_s, if_pos c1, mset_s, show sI (num q 1 11) * 262144 = sI (num q 1 11 * 262144) from sI_mul, sI_add]
      refine wq_some ⟨rfl, ?_, ?_, ?_, fun a y u => ?_⟩
      · dsimp only
        simp (disch := omega) only [mset_n]
        rw [mset_s]
      · dsimp only
        simp (disch := omega) only [mset_n]
        rw [mset_s]
      · dsimp only
        rw [mset_s]
      · dsimp only
        simp (disch := omega) only [mset_n]
    · rw [if_pos (by rw [show e = 0 by omega]; rfl), if_neg c1]
      refine wq_some ⟨rfl, ?_, ?_, ?_, fun a y u => ?_⟩
      · dsimp only
        simp (disch := omega) only [mset_n]
        rw [mset_s]
      · dsimp only
        simp (disch := omega) only [mset_n]
        rw [mset_s]
      · dsimp only
        rw [mset_s]
      · dsimp only
        simp (disch := omega) only [mset_n]
  have main : ∀ r, r < 2 → wq (if sI f = 0 then (if sI r = 0 then fX12_find_b55 fu (sI e) (sI f) (sI ce) (sI e) 0 M L else fX12_find_b55 fu (sI e) (sI f) (sI ce) (sI e) 4 M L) else fX12_find_b55 fu (sI e) (sI f) (sI ce) (sI e) 2 M L) (fun z => z.2 = L ∧ z.1 821 42 = sI (kdE e f r) ∧ z.1 821 43 = sI (num q (ce - 4) 4) ∧ z.1 821 44 = sI (idE e q) ∧ ∀ a y, ¬ (a = 821 ∧ 42 ≤ y ∧ y ≤ 44) → z.1 a y = M a y) := by
    intro r hr
    unfold kdE
    by_cases c1 : f = 1
    · rw [if_neg (by rw [sI_eql (by omega) (by decide)]; omega), if_pos c1]
      exact b55 2
    · rw [if_pos (by rw [show f = 0 by omega]; rfl), if_neg c1]
      by_cases c2 : r = 1
      · rw [if_neg (by rw [sI_eql (by omega) (by decide)]; omega), if_pos c2]
        exact b55 4
      · rw [if_pos (by rw [show r = 0 by omega]; rfl), if_neg c2]
        exact b55 0
  by_cases c1 : e = 1
  · have h32 := hq 32 (by have := he1 c1; omega)
    rw [if_neg (show ¬ sI e = 0 by rw [sI_eql (by omega) (by decide)]; omega), if_pos c1, mck_in (show vp_in 32 700 from sI_in (k := 32) (by omega) (by omega)), show (32 : Int32).toNatClampNeg = 32 by decide, h32.1]
    simp only [if_neg (show ¬ sI e = 0 by rw [sI_eql (by omega) (by decide)]; omega)]
    have hm := main (q 32) h32.2
    rw [show sI e = 1 by rw [c1]; rfl] at hm ⊢
    by_cases c2 : q 32 = 1
    · rw [if_pos (show sI (q 32) = 1 by rw [c2]; rfl)]
      rw [c2] at hm ⊢
      exact hm
    · rw [if_neg (show ¬ sI (q 32) = 1 by rw [sI_eql (by omega) (by decide)]; exact c2)]
      rw [show q 32 = 0 by omega] at hm ⊢
      exact hm
  · have h12 := hq 12 (by omega)
    have e0 : sI e = 0 := by rw [show e = 0 by omega]; rfl
    rw [if_pos e0, if_neg c1, mck_in (show vp_in 12 700 from sI_in (k := 12) (by omega) (by omega)), show (12 : Int32).toNatClampNeg = 12 by decide, h12.1]
    simp only [if_pos e0]
    have hm := main (q 12) h12.2
    rw [e0] at hm ⊢
    by_cases c2 : q 12 = 1
    · rw [if_pos (show sI (q 12) = 1 by rw [c2]; rfl)]
      rw [c2] at hm ⊢
      exact hm
    · rw [if_neg (show ¬ sI (q 12) = 1 by rw [sI_eql (by omega) (by decide)]; exact c2)]
      rw [show q 12 = 0 by omega] at hm ⊢
      exact hm
