/-! READING: a line -/
theorem ok_l0 : okW [99, 111, 110, 116, 114, 111, 108, 108, 101, 114] 7812741990951317347 29285 = true := by decide +kernel
theorem ok_l1 : okW [116, 97, 115, 107] 1802723700 0 = true := by decide +kernel
theorem ok_l2 : okW [99, 104, 97, 114, 116] 500135192675 0 = true := by decide +kernel
theorem ok_l3 : okW [115, 116, 97, 116, 101] 435744240755 0 = true := by decide +kernel
theorem ok_l4 : okW [101, 100, 103, 101] 1701274725 0 = true := by decide +kernel
theorem ok_l5 : okW [97, 102, 116, 101, 114] 491328398945 0 = true := by decide +kernel
theorem ok_l6 : okW [100, 97, 116, 117, 109] 470121996644 0 = true := by decide +kernel
theorem ok_l7 : okW [101, 110, 116, 101, 114] 491328400997 0 = true := by decide +kernel
theorem ok_l8 : okW [108, 101, 97, 118, 101] 435777791340 0 = true := by decide +kernel
theorem ok_l9 : okW [116, 97, 107, 101] 1701536116 0 = true := by decide +kernel
theorem ok_l10 : okW [115, 105, 103, 110, 97, 108] 119165719898483 0 = true := by decide +kernel
theorem ok_l11 : okW [112, 114, 111, 116, 101, 99, 116] 32760384694743664 0 = true := by decide +kernel
theorem ok_l12 : okW [114, 101, 97, 100] 1684104562 0 = true := by decide +kernel
theorem ok_l13 : okW [119, 97, 116, 99, 104] 448345170295 0 = true := by decide +kernel
theorem rl_wrap {A M M1 : mwM} {Lc Lm : mwL} {n le : Nat} {P : Option (mwM × mwL)} {Q : Option (Int32 × mwM × mwL)} (h : RlQ A M1 Lc Lm n le P Q) (hM : ∀ x y, ¬ (x = 732 ∧ y = 8) → M1 x y = M x y) : RlQ A M Lc Lm n le (mb2 P (fun M6 L7 => some (M6, L7))) (mb3 Q (fun r M L => mzz r (some (r, M, L)))) := by
  obtain ⟨A', M', Lc', Lm', gd, e1, e2, ⟨f1, f2, f3, f4⟩, h3, h4⟩ := h
  refine ⟨A', M', Lc', Lm', gd, by rw [e1, mb2_s], ?_, ⟨f1, fun p y u => by rw [f2 p y u, hM p y (by omega)], f3, f4⟩, h3, h4⟩
  rw [e2, mb3_s]
  cases gd <;> rfl
theorem st_line {fu n le w p C T X S K R W : Nat} {A M : mwM} {Lc Lm : mwL} {tx : Nat → Nat} {nl : List Nm} {ow ct : Nat → Nat} {sg : Nat → Nat → Nat} {tu : Nat → Bool} {ky rd wt : Nat → Nat → Nat} {e : Nat} (hfu : 6100 ≤ fu) (h : Ld A M n tx le e) (hH : Hw A M w e) (hP : PR A M Lc Lm n C T X S K R W nl ow ct sg tu ky rd wt) (h7 : A 1 7 = sI w) (hb : e < le → tx e = 32) (hp : p ≤ w) (hl : 12 * nl.length ≤ p) (hk : 15 * K ≤ p) : RlQ A M Lc Lm n le (DX8_readLine fu A Lc) (DX19_line fu M Lm) := by
  obtain ⟨w8, w9, m9, m10, hlt⟩ := id hH
  obtain ⟨l1, l2, l3, l4, l5, l6, l7, l8, l9⟩ := id h
  have hn := l1.2.1
  have hbn : w ≤ 6000 := by omega
  have ci := c_indexIn (fu := fu) (a1 := 0) (L := Lc) wLines (by omega) l1 w8 w9 (by omega) (by decide) st_lines
  unfold DX8_readLine DX19_line fX8_readLine_b186
  rw [ci, mb3_s, mlet_e, mlet_e, m9]
  generalize hM1 : mset M 732 8 (sI w) = M1
  have fm : ∀ x y, ¬ (x = 732 ∧ y = 8) → M1 x y = M x y := fun x y u => by rw [← hM1, mset_n (by omega)]
  have s8 : M1 732 8 = sI w := by rw [← hM1, mset_s]
  have hL : Ld A M1 n tx le e := Ld_n h (fun x y u => fm x y (by omega))
  have t2 : TxM M1 n tx := hL.2.1
  have n9 : M1 732 9 = sI w := by rw [fm _ _ (by omega)]; exact m9
  have n10 : M1 732 10 = sI e := by rw [fm _ _ (by omega)]; exact m10
  have hP1 := PR_f hP (A' := A) (M' := M1) (fun _ _ _ => rfl) (fun x y u1 u2 u3 => fm x y (by omega))
  generalize hix : idxW tx w (e - w) wLines 0 = ix
  unfold wLines at hix
  simp only [idxW] at hix
  rw [m_is9 (by omega) t2 n9 n10 hlt (by omega) ok_l0, mb3_s]
  by_cases c0 : isW tx w (e - w) [99, 111, 110, 116, 114, 111, 108, 108, 101, 114] = true
  · have hlen : e - w = 10 := (of_decide_eq_true c0).1
    rw [if_pos c0] at hix
    rw [c0, bI_t, if_neg (show ¬ (1 : Int32) = 0 by decide), ← hix, if_pos (show sI 0 = (0 : Int32) from rfl)]
    exact rl_wrap (st_ctl hfu hL hP1 hb (by omega) (by omega)) fm
  rw [if_neg c0] at hix
  rw [Bool.not_eq_true] at c0
  rw [c0, bI_f, if_pos (show (0 : Int32) = 0 from rfl)]
  rw [m_is9 (by omega) t2 n9 n10 hlt (by omega) ok_l1, mb3_s]
  by_cases c1 : isW tx w (e - w) [116, 97, 115, 107] = true
  · have hlen : e - w = 4 := (of_decide_eq_true c1).1
    rw [if_pos c1] at hix
    rw [c1, bI_t, if_neg (show ¬ (1 : Int32) = 0 by decide), ← hix, if_neg (show ¬ sI 1 = (0 : Int32) by decide), if_pos (show sI 1 = (1 : Int32) from rfl)]
    exact rl_wrap (st_task hfu hL hP1 hb (by omega) (by omega)) fm
  rw [if_neg c1] at hix
  rw [Bool.not_eq_true] at c1
  rw [c1, bI_f, if_pos (show (0 : Int32) = 0 from rfl)]
  rw [m_is9 (by omega) t2 n9 n10 hlt (by omega) ok_l2, mb3_s]
  by_cases c2 : isW tx w (e - w) [99, 104, 97, 114, 116] = true
  · have hlen : e - w = 5 := (of_decide_eq_true c2).1
    rw [if_pos c2] at hix
    rw [c2, bI_t, if_neg (show ¬ (1 : Int32) = 0 by decide), ← hix, if_neg (show ¬ sI 2 = (0 : Int32) by decide), if_neg (show ¬ sI 2 = (1 : Int32) by decide), if_pos (show sI 2 = (2 : Int32) from rfl)]
    exact rl_wrap (st_chart hfu hL hP1 hb (by omega) (by omega)) fm
  rw [if_neg c2] at hix
  rw [Bool.not_eq_true] at c2
  rw [c2, bI_f, if_pos (show (0 : Int32) = 0 from rfl)]
  rw [m_is9 (by omega) t2 n9 n10 hlt (by omega) ok_l3, mb3_s]
  by_cases c3 : isW tx w (e - w) [115, 116, 97, 116, 101] = true
  · have hlen : e - w = 5 := (of_decide_eq_true c3).1
    rw [if_pos c3] at hix
    rw [c3, bI_t, if_neg (show ¬ (1 : Int32) = 0 by decide), ← hix, if_neg (show ¬ sI 3 = (0 : Int32) by decide), if_neg (show ¬ sI 3 = (1 : Int32) by decide), if_neg (show ¬ sI 3 = (2 : Int32) by decide), if_pos (show sI 3 = (3 : Int32) from rfl)]
    exact rl_wrap (st_state hfu hL hP1 h7 s8 hbn hb (by omega) (by omega)) fm
  rw [if_neg c3] at hix
  rw [Bool.not_eq_true] at c3
  rw [c3, bI_f, if_pos (show (0 : Int32) = 0 from rfl)]
  rw [m_is9 (by omega) t2 n9 n10 hlt (by omega) ok_l4, mb3_s]
  by_cases c4 : isW tx w (e - w) [101, 100, 103, 101] = true
  · have hlen : e - w = 4 := (of_decide_eq_true c4).1
    rw [if_pos c4] at hix
    rw [c4, bI_t, if_neg (show ¬ (1 : Int32) = 0 by decide), ← hix, if_neg (show ¬ sI 4 = (0 : Int32) by decide), if_neg (show ¬ sI 4 = (1 : Int32) by decide), if_neg (show ¬ sI 4 = (2 : Int32) by decide), if_neg (show ¬ sI 4 = (3 : Int32) by decide), if_pos (show sI 4 = (4 : Int32) from rfl)]
    exact rl_wrap (st_edge hfu hL hP1 h7 s8 hbn (by omega) (by omega)) fm
  rw [if_neg c4] at hix
  rw [Bool.not_eq_true] at c4
  rw [c4, bI_f, if_pos (show (0 : Int32) = 0 from rfl)]
  rw [m_is9 (by omega) t2 n9 n10 hlt (by omega) ok_l5, mb3_s]
  by_cases c5 : isW tx w (e - w) [97, 102, 116, 101, 114] = true
  · have hlen : e - w = 5 := (of_decide_eq_true c5).1
    rw [if_pos c5] at hix
    rw [c5, bI_t, if_neg (show ¬ (1 : Int32) = 0 by decide), ← hix, if_neg (show ¬ sI 5 = (0 : Int32) by decide), if_neg (show ¬ sI 5 = (1 : Int32) by decide), if_neg (show ¬ sI 5 = (2 : Int32) by decide), if_neg (show ¬ sI 5 = (3 : Int32) by decide), if_neg (show ¬ sI 5 = (4 : Int32) by decide), if_pos (show sI 5 = (5 : Int32) from rfl)]
    exact rl_wrap (st_after hfu hL hP1 h7 s8 hbn (by omega) (by omega)) fm
  rw [if_neg c5] at hix
  rw [Bool.not_eq_true] at c5
  rw [c5, bI_f, if_pos (show (0 : Int32) = 0 from rfl)]
  rw [m_is9 (by omega) t2 n9 n10 hlt (by omega) ok_l6, mb3_s]
  by_cases c6 : isW tx w (e - w) [100, 97, 116, 117, 109] = true
  · have hlen : e - w = 5 := (of_decide_eq_true c6).1
    rw [if_pos c6] at hix
    rw [c6, bI_t, if_neg (show ¬ (1 : Int32) = 0 by decide), ← hix, if_neg (show ¬ sI 6 = (0 : Int32) by decide), if_neg (show ¬ sI 6 = (1 : Int32) by decide), if_neg (show ¬ sI 6 = (2 : Int32) by decide), if_neg (show ¬ sI 6 = (3 : Int32) by decide), if_neg (show ¬ sI 6 = (4 : Int32) by decide), if_neg (show ¬ sI 6 = (5 : Int32) by decide), if_pos (show sI 6 = (6 : Int32) from rfl)]
    exact rl_wrap (st_datum hfu hL hP1 h7 s8 hbn hb (by omega) (by omega)) fm
  rw [if_neg c6] at hix
  rw [Bool.not_eq_true] at c6
  rw [c6, bI_f, if_pos (show (0 : Int32) = 0 from rfl)]
  rw [m_is9 (by omega) t2 n9 n10 hlt (by omega) ok_l7, mb3_s]
  by_cases c7 : isW tx w (e - w) [101, 110, 116, 101, 114] = true
  · have hlen : e - w = 5 := (of_decide_eq_true c7).1
    rw [if_pos c7] at hix
    rw [c7, bI_t, if_neg (show ¬ (1 : Int32) = 0 by decide), ← hix, if_neg (show ¬ sI 7 = (0 : Int32) by decide), if_neg (show ¬ sI 7 = (1 : Int32) by decide), if_neg (show ¬ sI 7 = (2 : Int32) by decide), if_neg (show ¬ sI 7 = (3 : Int32) by decide), if_neg (show ¬ sI 7 = (4 : Int32) by decide), if_neg (show ¬ sI 7 = (5 : Int32) by decide), if_neg (show ¬ sI 7 = (6 : Int32) by decide), if_pos (show sI 7 = (7 : Int32) from rfl)]
    exact rl_wrap (st_act (w := 0) hfu hL hP1 h7 s8 hbn (by omega) (by omega) (by omega)) fm
  rw [if_neg c7] at hix
  rw [Bool.not_eq_true] at c7
  rw [c7, bI_f, if_pos (show (0 : Int32) = 0 from rfl)]
  rw [m_is9 (by omega) t2 n9 n10 hlt (by omega) ok_l8, mb3_s]
  by_cases c8 : isW tx w (e - w) [108, 101, 97, 118, 101] = true
  · have hlen : e - w = 5 := (of_decide_eq_true c8).1
    rw [if_pos c8] at hix
    rw [c8, bI_t, if_neg (show ¬ (1 : Int32) = 0 by decide), ← hix, if_neg (show ¬ sI 8 = (0 : Int32) by decide), if_neg (show ¬ sI 8 = (1 : Int32) by decide), if_neg (show ¬ sI 8 = (2 : Int32) by decide), if_neg (show ¬ sI 8 = (3 : Int32) by decide), if_neg (show ¬ sI 8 = (4 : Int32) by decide), if_neg (show ¬ sI 8 = (5 : Int32) by decide), if_neg (show ¬ sI 8 = (6 : Int32) by decide), if_neg (show ¬ sI 8 = (7 : Int32) by decide), if_pos (show sI 8 = (8 : Int32) from rfl)]
    exact rl_wrap (st_act (w := 1) hfu hL hP1 h7 s8 hbn (by omega) (by omega) (by omega)) fm
  rw [if_neg c8] at hix
  rw [Bool.not_eq_true] at c8
  rw [c8, bI_f, if_pos (show (0 : Int32) = 0 from rfl)]
  rw [m_is9 (by omega) t2 n9 n10 hlt (by omega) ok_l9, mb3_s]
  by_cases c9 : isW tx w (e - w) [116, 97, 107, 101] = true
  · have hlen : e - w = 4 := (of_decide_eq_true c9).1
    rw [if_pos c9] at hix
    rw [c9, bI_t, if_neg (show ¬ (1 : Int32) = 0 by decide), ← hix, if_neg (show ¬ sI 9 = (0 : Int32) by decide), if_neg (show ¬ sI 9 = (1 : Int32) by decide), if_neg (show ¬ sI 9 = (2 : Int32) by decide), if_neg (show ¬ sI 9 = (3 : Int32) by decide), if_neg (show ¬ sI 9 = (4 : Int32) by decide), if_neg (show ¬ sI 9 = (5 : Int32) by decide), if_neg (show ¬ sI 9 = (6 : Int32) by decide), if_neg (show ¬ sI 9 = (7 : Int32) by decide), if_neg (show ¬ sI 9 = (8 : Int32) by decide), if_pos (show sI 9 = (9 : Int32) from rfl)]
    exact rl_wrap (st_act (w := 2) hfu hL hP1 h7 s8 hbn (by omega) (by omega) (by omega)) fm
  rw [if_neg c9] at hix
  rw [Bool.not_eq_true] at c9
  rw [c9, bI_f, if_pos (show (0 : Int32) = 0 from rfl)]
  rw [m_is9 (by omega) t2 n9 n10 hlt (by omega) ok_l10, mb3_s]
  by_cases c10 : isW tx w (e - w) [115, 105, 103, 110, 97, 108] = true
  · have hlen : e - w = 6 := (of_decide_eq_true c10).1
    rw [if_pos c10] at hix
    rw [c10, bI_t, if_neg (show ¬ (1 : Int32) = 0 by decide), ← hix, if_neg (show ¬ sI 10 = (0 : Int32) by decide), if_neg (show ¬ sI 10 = (1 : Int32) by decide), if_neg (show ¬ sI 10 = (2 : Int32) by decide), if_neg (show ¬ sI 10 = (3 : Int32) by decide), if_neg (show ¬ sI 10 = (4 : Int32) by decide), if_neg (show ¬ sI 10 = (5 : Int32) by decide), if_neg (show ¬ sI 10 = (6 : Int32) by decide), if_neg (show ¬ sI 10 = (7 : Int32) by decide), if_neg (show ¬ sI 10 = (8 : Int32) by decide), if_neg (show ¬ sI 10 = (9 : Int32) by decide), if_pos (show sI 10 = (10 : Int32) from rfl)]
    exact rl_wrap (st_signal (b := 0) hfu hL hP1 hb (by omega) (by omega)) fm
  rw [if_neg c10] at hix
  rw [Bool.not_eq_true] at c10
  rw [c10, bI_f, if_pos (show (0 : Int32) = 0 from rfl)]
  rw [m_is9 (by omega) t2 n9 n10 hlt (by omega) ok_l11, mb3_s]
  by_cases c11 : isW tx w (e - w) [112, 114, 111, 116, 101, 99, 116] = true
  · have hlen : e - w = 7 := (of_decide_eq_true c11).1
    rw [if_pos c11] at hix
    rw [c11, bI_t, if_neg (show ¬ (1 : Int32) = 0 by decide), ← hix, if_neg (show ¬ sI 11 = (0 : Int32) by decide), if_neg (show ¬ sI 11 = (1 : Int32) by decide), if_neg (show ¬ sI 11 = (2 : Int32) by decide), if_neg (show ¬ sI 11 = (3 : Int32) by decide), if_neg (show ¬ sI 11 = (4 : Int32) by decide), if_neg (show ¬ sI 11 = (5 : Int32) by decide), if_neg (show ¬ sI 11 = (6 : Int32) by decide), if_neg (show ¬ sI 11 = (7 : Int32) by decide), if_neg (show ¬ sI 11 = (8 : Int32) by decide), if_neg (show ¬ sI 11 = (9 : Int32) by decide), if_neg (show ¬ sI 11 = (10 : Int32) by decide), if_pos (show sI 11 = (11 : Int32) from rfl)]
    exact rl_wrap (st_protect (b := 0) hfu hL hP1 hb (by omega) (by omega)) fm
  rw [if_neg c11] at hix
  rw [Bool.not_eq_true] at c11
  rw [c11, bI_f, if_pos (show (0 : Int32) = 0 from rfl)]
  rw [m_is9 (by omega) t2 n9 n10 hlt (by omega) ok_l12, mb3_s]
  by_cases c12 : isW tx w (e - w) [114, 101, 97, 100] = true
  · have hlen : e - w = 4 := (of_decide_eq_true c12).1
    rw [if_pos c12] at hix
    rw [c12, bI_t, if_neg (show ¬ (1 : Int32) = 0 by decide), ← hix, if_neg (show ¬ sI 12 = (0 : Int32) by decide), if_neg (show ¬ sI 12 = (1 : Int32) by decide), if_neg (show ¬ sI 12 = (2 : Int32) by decide), if_neg (show ¬ sI 12 = (3 : Int32) by decide), if_neg (show ¬ sI 12 = (4 : Int32) by decide), if_neg (show ¬ sI 12 = (5 : Int32) by decide), if_neg (show ¬ sI 12 = (6 : Int32) by decide), if_neg (show ¬ sI 12 = (7 : Int32) by decide), if_neg (show ¬ sI 12 = (8 : Int32) by decide), if_neg (show ¬ sI 12 = (9 : Int32) by decide), if_neg (show ¬ sI 12 = (10 : Int32) by decide), if_neg (show ¬ sI 12 = (11 : Int32) by decide), if_pos (show sI 12 = (12 : Int32) from rfl)]
    exact rl_wrap (st_lread hfu hL hP1 h7 s8 hbn (by omega) (by omega)) fm
  rw [if_neg c12] at hix
  rw [Bool.not_eq_true] at c12
  rw [c12, bI_f, if_pos (show (0 : Int32) = 0 from rfl)]
  rw [m_is9 (by omega) t2 n9 n10 hlt (by omega) ok_l13, mb3_s]
  by_cases c13 : isW tx w (e - w) [119, 97, 116, 99, 104] = true
  · have hlen : e - w = 5 := (of_decide_eq_true c13).1
    rw [if_pos c13] at hix
    rw [c13, bI_t, if_neg (show ¬ (1 : Int32) = 0 by decide), ← hix, if_neg (show ¬ sI 13 = (0 : Int32) by decide), if_neg (show ¬ sI 13 = (1 : Int32) by decide), if_neg (show ¬ sI 13 = (2 : Int32) by decide), if_neg (show ¬ sI 13 = (3 : Int32) by decide), if_neg (show ¬ sI 13 = (4 : Int32) by decide), if_neg (show ¬ sI 13 = (5 : Int32) by decide), if_neg (show ¬ sI 13 = (6 : Int32) by decide), if_neg (show ¬ sI 13 = (7 : Int32) by decide), if_neg (show ¬ sI 13 = (8 : Int32) by decide), if_neg (show ¬ sI 13 = (9 : Int32) by decide), if_neg (show ¬ sI 13 = (10 : Int32) by decide), if_neg (show ¬ sI 13 = (11 : Int32) by decide), if_neg (show ¬ sI 13 = (12 : Int32) by decide), if_pos (show sI 13 = (13 : Int32) from rfl)]
    exact rl_wrap (st_lwatch hfu hL hP1 h7 s8 hbn (by omega) (by omega)) fm
  rw [if_neg c13] at hix
  rw [Bool.not_eq_true] at c13
  rw [c13, bI_f, if_pos (show (0 : Int32) = 0 from rfl)]
  rw [← hix, if_neg (show ¬ (-1 : Int32) = 0 by decide), if_neg (show ¬ (-1 : Int32) = 1 by decide), if_neg (show ¬ (-1 : Int32) = 2 by decide), if_neg (show ¬ (-1 : Int32) = 3 by decide), if_neg (show ¬ (-1 : Int32) = 4 by decide), if_neg (show ¬ (-1 : Int32) = 5 by decide), if_neg (show ¬ (-1 : Int32) = 6 by decide), if_neg (show ¬ (-1 : Int32) = 7 by decide), if_neg (show ¬ (-1 : Int32) = 8 by decide), if_neg (show ¬ (-1 : Int32) = 9 by decide), if_neg (show ¬ (-1 : Int32) = 10 by decide), if_neg (show ¬ (-1 : Int32) = 11 by decide), if_neg (show ¬ (-1 : Int32) = 12 by decide), if_neg (show ¬ (-1 : Int32) = 13 by decide), c_fail l9, mb2_s, w8, m_fail, mb3_s, n9]
  have hX : Fx (mset (mset A 1 12 1) 1 13 (sI w)) (mset (mset M1 732 11 1) 732 12 (sI w)) := Fx_i (k := 1) (by omega) (by omega) hbn
  have := rl_bad (le := le) hP1 (A' := mset (mset A 1 12 1) 1 13 (sI w)) (M' := mset (mset M1 732 11 1) 732 12 (sI w)) (by omega) (by omega) (fun x y u => by rw [mset_n (by omega), mset_n (by omega)]) (fun x y u1 u2 u3 => by rw [mset_n (by omega), mset_n (by omega)]) hX rfl rfl
  exact rl_wrap this fm
