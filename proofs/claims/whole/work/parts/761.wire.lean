/-! the class lays a frame out -/
theorem bitx {x k : Nat} (hx : x < 2000000000) (hk : k < 32) : (sI x >>> (sI k &&& 31)) &&& 1 = sI (x / 2 ^ k % 2) := by
  rw [show sI k &&& 31 = sI k by have := sI_and (a := k) (m := 5); rw [Nat.mod_eq_of_lt (show k < 2 ^ 5 by omega)] at this; exact this, sI_shr hx hk]
  exact sI_and (m := 1)
theorem c_plainBit {fu f i id : Nat} {oc : Nat → Nat} {A : mwM} {L : mwL} (hf : f < 200) (hi : i < 83) (h44 : A 44 f = sI id) (hid : id < 2048) (h46 : ∀ j, j < 8 → A 46 (8 * f + j) = sI (oc j) ∧ oc j < 256) : DX0_plainBit fu (sI f) (sI i) A L = some (sI (pbF id oc i), A, L) := by
  unfold DX0_plainBit fX0_plainBit_b64 fX0_plainBit_b75 pbF
  by_cases c1 : i < 19
  · rw [if_pos (show sI i < 19 by rw [sI_ltl (by omega) (by decide)]; exact c1), if_pos c1]
    have b64 : ¬ (1 ≤ i ∧ i ≤ 11) → (if sI i = 15 then some ((1 : Int32), A, L) else some (0, A, L)) = some (sI (if 1 ≤ i ∧ i ≤ 11 then id / 2 ^ (11 - i) % 2 else if i = 15 then 1 else 0), A, L) := fun z => by
      rw [if_neg z]
      by_cases c : i = 15
      · rw [if_pos (show sI i = 15 by rw [c]; rfl), if_pos c]
        rfl
      · rw [if_neg (show ¬ sI i = 15 by rw [sI_eql (by omega) (by decide)]; exact c), if_neg c]
        rfl
    by_cases c2 : i < 1
    · rw [if_pos (show sI i < 1 by rw [sI_ltl (by omega) (by decide)]; exact c2)]
      exact b64 (by omega)
    · rw [if_neg (show ¬ sI i < 1 by rw [sI_ltl (by omega) (by decide)]; exact c2)]
      by_cases c3 : 11 < i
      · rw [if_pos (show 11 < sI i by rw [sI_llt (by decide) (by omega)]; exact c3)]
        exact b64 (by omega)
      · rw [if_neg (show ¬ 11 < sI i by rw [sI_llt (by decide) (by omega)]; exact c3), mck_s hf (by omega), sI_nn (by omega), h44, show (11 : Int32) - sI i = sI (11 - i) from sI_sub (a := 11) (by omega), bitx (by omega) (by omega), if_pos (by omega)]
  · obtain ⟨o1, o2⟩ := h46 ((i - 19) / 8) (by omega)
    rw [if_neg (show ¬ sI i < 19 by rw [sI_ltl (by omega) (by decide)]; exact c1), if_neg c1, show sI i - 19 = sI (i - 19) from sI_sub (b := 19) (by omega), show sI (i - 19) - sI (i - 19) / 8 * 8 = sI ((i - 19) % 8) from sI_mod (b := 8) (by omega) (by omega), show sI (i - 19) / 8 = sI ((i - 19) / 8) from sI_div (b := 8) (by omega) (by omega), sI_lml, sI_add, mck_s (by omega) (by omega), sI_nn (by omega), o1, show (7 : Int32) - sI ((i - 19) % 8) = sI (7 - (i - 19) % 8) from sI_sub (a := 7) (by omega), bitx (by omega) (by omega)]
def WvR (A : mwM) (n : Nat) (f : Nat → Nat) : Prop := (∀ i, i < wN f → A (34 + n) i = sI (lyR f 98 i + 2 * lyG f 98 i)) ∧ (∀ i, wN f ≤ i → i < wN f + 10 → A (34 + n) i = sI 1) ∧ A 29 n = sI (wN f + 10)
theorem or2 : ∀ b, b < 2 → sI b ||| 0 = sI (b + 2 * 0) ∧ sI b ||| 2 = sI (b + 2 * 1) := by decide
theorem c_layOut {fu n f id : Nat} {oc : Nat → Nat} {A : mwM} {L : mwL} (hfu : 200 ≤ fu) (hn : n < 7) (hf : f < 200) (h44 : A 44 f = sI id) (hid : id < 2048) (h46 : ∀ j, j < 8 → A 46 (8 * f + j) = sI (oc j) ∧ oc j < 256) : wq (DX0_layOut fu (sI n) (sI f) A L) (fun z => z.2 = L ∧ WvR z.1 n (fbF id oc) ∧ ∀ a y, a ≠ 34 + n → ¬ (a = 29 ∧ y = n) → z.1 a y = A a y) := by
  have wb := wN_b (f := fbF id oc) (fbF_lt id oc)
  unfold DX0_layOut
  refine wq_for (body := fun r z => fX0_layOut_i14 fu (sI n) (sI f) r z.1 z.2.1 z.2.2.1 z.2.2.2.1 z.2.2.2.2.1 z.2.2.2.2.2.1 z.2.2.2.2.2.2) (fun j (x : mwM) => (sI (lyN (fbF id oc) j).1, sI (crcF (2 ^ 14) 17817 0 (pbF id oc) (min j 83)), sI (lyN (fbF id oc) j).2.1, sI (lyN (fbF id oc) j).2.2, sI j, x, L)) (fun j x => (∀ i, i < (lyN (fbF id oc) j).1 → x (34 + n) i = sI (lyR (fbF id oc) j i + 2 * lyG (fbF id oc) j i)) ∧ ∀ a y, a ≠ 34 + n → x a y = A a y) 98 ?_ ?_ 98 0 A fu (by omega) (by omega) ⟨fun i u => absurd u (by show ¬ i < 0; omega), fun _ _ _ => rfl⟩
  · intro j x r hj ⟨x1, x2⟩ ih
    show wq (fX0_layOut_i14 fu (sI n) (sI f) r (sI (lyN (fbF id oc) j).1) (sI (crcF (2 ^ 14) 17817 0 (pbF id oc) (min j 83))) (sI (lyN (fbF id oc) j).2.1) (sI (lyN (fbF id oc) j).2.2) (sI j) x L) _
    obtain ⟨i1, i2, i3, i4, i5⟩ := lyN_b (f := fbF id oc) (fbF_lt id oc) j
    have hb := fbF_lt id oc j
    have cl := crcF15_lt (s := pbF id oc) (min j 83)
    -- the bit, and the check behind it
    have b74 : wq (fX0_layOut_b74 fu (sI n) (sI f) r (sI (lyN (fbF id oc) j).1) (sI (crcF (2 ^ 14) 17817 0 (pbF id oc) (min (j + 1) 83))) (sI (lyN (fbF id oc) j).2.1) (sI (lyN (fbF id oc) j).2.2) (sI j) (sI (fbF id oc j)) x L) (fun z => z.2 = L ∧ WvR z.1 n (fbF id oc) ∧ ∀ a y, a ≠ 34 + n → ¬ (a = 29 ∧ y = n) → z.1 a y = A a y) := by
      generalize hcc : crcF (2 ^ 14) 17817 0 (pbF id oc) (min (j + 1) 83) = cc at *
      generalize hfb : fbF id oc = fb at *
      generalize hlen : (lyN fb j).1 = len at *
      unfold fX0_layOut_b74
      have b95 : ∀ y, (if j ≤ 13 then 1 else 0) = y → wq (fX0_layOut_b95 fu (sI n) (sI f) r (sI len) (sI cc) (sI (lyN fb j).2.1) (sI (lyN fb j).2.2) (sI j) (sI (fb j)) (34 + n) (sI len) (sI (fb j)) (sI (2 * y)) x L) (fun z => z.2 = L ∧ WvR z.1 n fb ∧ ∀ a y, a ≠ 34 + n → ¬ (a = 29 ∧ y = n) → z.1 a y = A a y) := by
        intro y hy
        have hy2 : y < 2 := by rw [← hy]; split <;> omega
        have ob : sI (fb j) ||| sI (2 * y) = sI (fb j + 2 * y) := by
          have := or2 (fb j) hb
          rcases (show y = 0 ∨ y = 1 by omega) with rfl | rfl
          · exact this.1
          · exact this.2
        unfold fX0_layOut_b95
        rw [mck_s (by omega) (by omega), sI_nn (by omega), ob]
        simp only [mlet]
        rw [sI_1, sI_1]
        have b115 : wq (fX0_layOut_b115 fu (sI n) (sI f) r (sI (len + 1)) (sI cc) (sI j) (sI (fb j)) (sI (lyS fb j)) (mset x (34 + n) len (sI (fb j + 2 * y))) L) (fun z => z.2 = L ∧ WvR z.1 n fb ∧ ∀ a y, a ≠ 34 + n → ¬ (a = 29 ∧ y = n) → z.1 a y = A a y) := by
          have sl : lyS fb j ≤ 5 := by unfold lyS; split <;> omega
          unfold fX0_layOut_b115 fX0_layOut_b149
          simp only [mlet]
          by_cases c : lyS fb j = 5
          · obtain ⟨r1, r2, r3⟩ := lyR_5 c
            have rn := lyN_5 c
            rw [hlen] at r1 r2 r3 rn
            rw [if_pos (show sI (lyS fb j) = 5 by rw [c]; rfl), mck_s hn (by omega), mck_s (by omega) (by omega), sI_nn (by omega), sI_nn (by omega), show (1 : Int32) - sI (fb j) = sI (1 - fb j) from sI_sub (a := 1) (by omega), sI_1, sI_1]
            have := ih (mset (mset x (34 + n) len (sI (fb j + 2 * y))) (34 + n) (len + 1) (sI (1 - fb j))) ?_
            · rw [rn] at this
              exact this
            · rw [rn, r1, r3]
              refine ⟨fun i u => ?_, fun a b u => by rw [mset_n (by omega), mset_n (by omega)]; exact x2 a b u⟩
              have u' : i < len + 2 := u
              by_cases d : i = len + 1
              · rw [d, mset_s, nst_s, nst_s]
                rfl
              · rw [mset_n (by omega)]
                by_cases e : i = len
                · rw [e, mset_s, nst_a, nst_a, hy]
                · rw [mset_n (by omega), nst_n (by omega), nst_n (by omega), nst_n (by omega), nst_n (by omega)]
                  exact x1 i (by omega)
          · obtain ⟨r1, r2, r3⟩ := lyR_n c
            have rn := lyN_n c
            rw [hlen] at r1 r2 r3 rn
            rw [if_neg (show ¬ sI (lyS fb j) = 5 by rw [sI_eql (by omega) (by decide)]; exact c), sI_1]
            have := ih (mset x (34 + n) len (sI (fb j + 2 * y))) ?_
            · rw [rn] at this
              exact this
            · rw [rn, r1, r3]
              refine ⟨fun i u => ?_, fun a b u => by rw [mset_n (by omega)]; exact x2 a b u⟩
              have u' : i < len + 1 := u
              by_cases e : i = len
              · rw [e, mset_s, nst_s, nst_s, hy]
              · rw [mset_n (by omega), nst_n (by omega), nst_n (by omega)]
                exact x1 i (by omega)
        unfold lyS at b115
        by_cases c : fb j = (lyN fb j).2.2
        · rw [if_pos (show sI (fb j) = sI (lyN fb j).2.2 by rw [← c])]
          rw [if_pos c] at b115
          exact b115
        · rw [if_neg (show ¬ sI (fb j) = sI (lyN fb j).2.2 by rw [sI_eq (by omega) (by omega)]; exact c)]
          rw [if_neg c] at b115
          exact b115
      rw [mck_s hn (by omega), sI_nn (by omega)]
      by_cases c : j ≤ 13
      · rw [if_neg (show ¬ 13 < sI j by rw [sI_llt (by decide) (by omega)]; omega)]
        exact b95 1 (if_pos c)
      · rw [if_pos (show 13 < sI j by rw [sI_llt (by decide) (by omega)]; omega)]
        exact b95 0 (if_neg c)
    unfold fX0_layOut_i14 fX0_layOut_b51
    rw [if_neg (show ¬ 98 ≤ sI j by rw [sI_lle (by decide) (by omega)]; omega)]
    by_cases c : 83 ≤ j
    · rw [if_pos (show 83 ≤ sI j by rw [sI_lle (by decide) (by omega)]; exact c), if_pos (show 83 ≤ sI j by rw [sI_lle (by decide) (by omega)]; exact c), show sI j - 83 = sI (j - 83) from sI_sub (b := 83) (by omega), show (14 : Int32) - sI (j - 83) = sI (14 - (j - 83)) from sI_sub (a := 14) (by omega), bitx (by omega) (by omega)]
      rw [show min j 83 = 83 by omega]
      rw [show min (j + 1) 83 = 83 by omega] at b74
      have e : fbF id oc j = crcF (2 ^ 14) 17817 0 (pbF id oc) 83 / 2 ^ (14 - (j - 83)) % 2 := by
        unfold fbF
        rw [if_neg (by omega)]
        rfl
      rw [e] at b74
      exact b74
    · have e : fbF id oc j = pbF id oc j := by
        unfold fbF
        rw [if_pos (by omega)]
      have pb := c_plainBit (fu := fu) (A := x) (L := L) (id := id) (oc := oc) hf (show j < 83 by omega) (by rw [x2 44 f (by omega)]; exact h44) hid (fun i u => by rw [x2 46 _ (by omega)]; exact h46 i u)
      have n83 : ¬ 83 ≤ sI j := by rw [sI_lle (by decide) (by omega)]; exact c
      rw [if_neg n83, pb, mb3_s, if_neg n83, c_crc15 cl (pbF_lt id oc j), mb3_s]
      rw [show min (j + 1) 83 = min j 83 + 1 by omega] at b74
      have e2 : crcF (2 ^ 14) 17817 0 (pbF id oc) (min j 83 + 1) = c15 (crcF (2 ^ 14) 17817 0 (pbF id oc) (min j 83)) (pbF id oc j) := by
        show crcS (2 ^ 14) 17817 (crcF (2 ^ 14) 17817 0 (pbF id oc) (min j 83)) (pbF id oc (min j 83)) = _
        rw [show min j 83 = j by omega]
        rfl
      rw [e2, e] at b74
      exact b74
  · intro x r ⟨x1, x2⟩
    show wq (fX0_layOut_i14 fu (sI n) (sI f) r (sI (lyN (fbF id oc) 98).1) (sI (crcF (2 ^ 14) 17817 0 (pbF id oc) (min 98 83))) (sI (lyN (fbF id oc) 98).2.1) (sI (lyN (fbF id oc) 98).2.2) (sI 98) x L) _
    unfold fX0_layOut_i14
    rw [if_pos (by decide)]
    show wq (fX0_layOut_h158 fu (sI n) (sI f) fu (sI (wN (fbF id oc)), 0, x, L)) _
    generalize hfb : fbF id oc = fb at *
    have x1' : ∀ i, i < wN fb → x (34 + n) i = sI (lyR fb 98 i + 2 * lyG fb 98 i) := x1
    generalize hlen : wN fb = len at *
    refine wq_for (body := fun r z => fX0_layOut_i158 fu (sI n) (sI f) r z.1 z.2.1 z.2.2.1 z.2.2.2) (fun j (y : mwM) => (sI len, sI j, y, L)) (fun j y => (∀ i, i < len → y (34 + n) i = sI (lyR fb 98 i + 2 * lyG fb 98 i)) ∧ (∀ i, len ≤ i → i < len + j → y (34 + n) i = sI 1) ∧ ∀ a b, a ≠ 34 + n → y a b = A a b) 10 ?_ ?_ 10 0 x fu (by omega) (by omega) ⟨x1', fun i u1 u2 => by omega, x2⟩
    · intro j y r hj ⟨y1, y2, y3⟩ ih
      show wq (fX0_layOut_i158 fu (sI n) (sI f) r (sI len) (sI j) y L) _
      unfold fX0_layOut_i158
      rw [if_neg (by rw [sI_lle (by decide) (by omega)]; omega), mck_s hn (by omega), sI_add, mck_s (by omega) (by omega), sI_nn (by omega), sI_nn (by omega)]
      simp only [mlet]
      rw [sI_1]
      refine ih _ ⟨fun i u => by rw [mset_n (by omega)]; exact y1 i u, fun i u1 u2 => ?_, fun a b u => by rw [mset_n (by omega)]; exact y3 a b u⟩
      by_cases d : i = len + j
      · rw [d, mset_s]
        rfl
      · rw [mset_n (by omega)]
        exact y2 i u1 (by omega)
    · intro y r ⟨y1, y2, y3⟩
      show wq (fX0_layOut_i158 fu (sI n) (sI f) r (sI len) (sI 10) y L) _
      unfold fX0_layOut_i158
      rw [if_pos (by decide), mck_s hn (by omega), sI_nn (by omega), show sI len + 10 = sI (len + 10) from sI_add (b := 10)]
      simp only [mlet]
      refine wq_some ⟨rfl, ⟨fun i u => ?_, fun i u1 u2 => ?_, ?_⟩, fun a b u1 u2 => ?_⟩
      · dsimp only
        rw [mset_n (by omega)]
        exact y1 i (by omega)
      · dsimp only
        rw [mset_n (by omega)]
        exact y2 i (by omega) (by omega)
      · dsimp only
        rw [mset_s, hlen]
      · dsimp only
        rw [mset_n u2]
        exact y3 a b u1
