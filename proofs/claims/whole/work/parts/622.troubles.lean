/-! the end of a cycle -/
/-- what a good cycle makes of status, trips, age and good cycles; whether the entry goes -/
def gy (ts n t a g : Nat) : Nat × Nat × Nat × Nat × Bool :=
  if ts = 0 ∨ n / 8 % 2 = 0 ∨ n % 2 = 1 then (if (if g < 255 then g + 1 else 255) < 3 then sb n 2 0 else sb (sb n 2 0) 7 0, if n / 8 % 2 = 0 then 0 else t, a, if g < 255 then g + 1 else 255, false)
  else if a + 1 < 40 then (if (if g < 255 then g + 1 else 255) < 3 then sb n 2 0 else sb (sb n 2 0) 7 0, t, a + 1, if g < 255 then g + 1 else 255, false)
  else (sb (if (if g < 255 then g + 1 else 255) < 3 then sb n 2 0 else sb (sb n 2 0) 7 0) 3 0, 0, 0, 0, true)
theorem cy_5 : ∀ n, n < 256 → sI n &&& (-5) = sI (sb n 2 0) := by decide +kernel
theorem cy_8 : ∀ n, n < 256 → sI n &&& 8 = sI (n / 8 % 2 * 8) := by decide +kernel
theorem cy_129 : ∀ n, n < 256 → sI n &&& (-129) = sI (sb n 7 0) := by decide +kernel
theorem cy_9 : ∀ n, n < 256 → sI n &&& 9 = sI (n / 8 % 2 * 8 + n % 2) := by decide +kernel
theorem cy_n9 : ∀ n, n < 256 → sI n &&& (-9) = sI (sb n 3 0) := by decide +kernel
theorem cy_66 : ∀ n, n < 256 → sI n &&& 66 = sI (n / 2 % 2 * 2 + n / 64 % 2 * 64) := by decide +kernel
theorem cy_e : ∀ n, n < 256 → (sI n &&& (-3)) ||| 64 = sI (sb (sb n 1 0) 6 1) := by decide +kernel
theorem cy_b1 : ∀ n, n < 256 → sI (sb n 2 0) &&& 8 = sI (n / 8 % 2 * 8) := by decide +kernel
theorem cy_b2 : ∀ n, n < 256 → sI (sb n 2 0) &&& 9 = sI (n / 8 % 2 * 8 + n % 2) ∧ sI (sb (sb n 2 0) 7 0) &&& 9 = sI (n / 8 % 2 * 8 + n % 2) := by decide +kernel
theorem cy_b4 : ∀ n, n < 256 → sI (sb n 2 0) &&& (-129) = sI (sb (sb n 2 0) 7 0) := by decide +kernel
theorem cy_b5 : ∀ n, n < 256 → sI (sb n 2 0) &&& (-9) = sI (sb (sb n 2 0) 3 0) ∧ sI (sb (sb n 2 0) 7 0) &&& (-9) = sI (sb (sb (sb n 2 0) 7 0) 3 0) := by decide +kernel
theorem er_filter {l : List Nat} (hd : l.Nodup) : ∀ (e : Nat) (h : e < l.length), l.eraseIdx e = l.filter (fun x => decide (x ≠ l[e]'h)) := by
  induction l with
  | nil => intro e h; simp at h
  | cons a l ih =>
    rw [List.nodup_cons] at hd
    intro e h
    cases e with
    | zero =>
      show l = _
      rw [List.filter_cons_of_neg (by simp)]
      symm
      rw [List.filter_eq_self]
      intro x hx
      have : x ≠ a := fun q => hd.1 (q ▸ hx)
      simpa using this
    | succ e =>
      have he : e < l.length := by simpa using h
      have hne : a ≠ l[e] := fun q => hd.1 (q ▸ List.getElem_mem he)
      show a :: l.eraseIdx e = _
      rw [ih hd.2 e he, List.filter_cons_of_pos (by simpa using hne)]
      rfl
theorem c_good0 {fu : Nat} {A : mwM} {L : mwL} {N i n p t a g k ts e8 e0 n1 n7 n2 n3 g1 : Nat} {w : Nat × Nat × Nat × Nat × Bool} {l : List Nat} (hf : 9 ≤ fu) (hN : N ≤ 30) (hi : i < N) (hts : ts < 2) (hg : g < 256) (ha40 : a < 40) (he8 : e8 < 2) (he0 : e0 < 2) (y1 : sI n &&& (-5) = sI n1) (y2 : sI n1 &&& 8 = sI (e8 * 8)) (y3 : sI n1 &&& (-129) = sI n7) (hn2 : (if g1 < 3 then n1 else n7) = n2) (y4 : sI n2 &&& 9 = sI (e8 * 8 + e0)) (y5 : sI n2 &&& (-9) = sI n3) (hg1 : (if g < 255 then g + 1 else 255) = g1) (hg2 : g1 < 256) (hgy : w = if ts = 0 ∨ e8 = 0 ∨ e0 = 1 then (n2, if e8 = 0 then 0 else t, a, g1, false) else if a + 1 < 40 then (n2, t, a + 1, g1, false) else (n3, 0, 0, 0, true)) (hc : cc A i n p t a g k) (hnd : l.Nodup) (ho : okeC A N l) : wq (DX10_endGoodCycle fu (sI i) (sI ts) A L) (fun q => q.2 = L ∧ cc q.1 i w.1 p w.2.1 w.2.2.1 w.2.2.2.1 k ∧ okeC q.1 N (if w.2.2.2.2 = true then l.filter (fun x => decide (x ≠ i)) else l) ∧ ∀ b j, ¬ (b = 139 ∧ j = 3) → ¬ (j = i ∧ (b = 146 ∨ b = 148 ∨ b = 149 ∨ b = 150)) → b ≠ 153 → q.1 b j = A b j) := by
  obtain ⟨c1, c2, c3, c4, c5, c6⟩ := hc
  obtain ⟨o1, o2, o3, o4⟩ := ho
  -- from the age on
  have last : ∀ (A1 : mwM), A1 146 i = sI n2 → A1 148 i = sI (if e8 = 0 then 0 else t) → A1 150 i = sI g1 → (∀ b j, ¬ (j = i ∧ (b = 146 ∨ b = 148 ∨ b = 150)) → A1 b j = A b j) → wq (fX10_endGoodCycle_b90 fu (sI i) (sI ts) A1 L) (fun q => q.2 = L ∧ cc q.1 i w.1 p w.2.1 w.2.2.1 w.2.2.2.1 k ∧ okeC q.1 N (if w.2.2.2.2 = true then l.filter (fun x => decide (x ≠ i)) else l) ∧ ∀ b j, ¬ (b = 139 ∧ j = 3) → ¬ (j = i ∧ (b = 146 ∨ b = 148 ∨ b = 149 ∨ b = 150)) → b ≠ 153 → q.1 b j = A b j) := by
    intro A1 h146 h148 h150 hfr
    have h149 : A1 149 i = sI a := by rw [hfr _ _ (by omega)]; exact c5
    unfold fX10_endGoodCycle_b90 fX10_endGoodCycle_b110 fX10_endGoodCycle_b190
    have stay : (ts = 0 ∨ e8 = 0 ∨ e0 = 1) → wq (some (A1, L)) (fun q => q.2 = L ∧ cc q.1 i w.1 p w.2.1 w.2.2.1 w.2.2.2.1 k ∧ okeC q.1 N (if w.2.2.2.2 = true then l.filter (fun x => decide (x ≠ i)) else l) ∧ ∀ b j, ¬ (b = 139 ∧ j = 3) → ¬ (j = i ∧ (b = 146 ∨ b = 148 ∨ b = 149 ∨ b = 150)) → b ≠ 153 → q.1 b j = A b j) := by
      intro hs
      rw [hgy, if_pos hs]
      refine wq_some ⟨rfl, ⟨?_, h146, ?_, h148, h149, h150⟩, ⟨o1, o2, ?_, ?_⟩, ?_⟩
      all_goals (try dsimp only)
      · rw [hfr _ _ (by omega)]; exact c1
      · rw [hfr _ _ (by omega)]; exact c3
      · rw [hfr _ _ (by omega)]; exact o3
      · intro e he
        rw [hfr _ _ (by omega)]; exact o4 e he
      · intro b j h1 h2 h3
        exact hfr b j (by omega)
    by_cases ht0 : ts = 0
    · rw [if_pos (by rw [ht0]; rfl)]
      exact stay (Or.inl ht0)
    · rw [if_neg (by rw [sI_eql (by omega) (by omega)]; exact ht0), mck_s (by omega) (by omega), sI_nn (by omega), h146, y4]
      by_cases h8 : e8 = 1 ∧ e0 = 0
      · have hs : ¬ (ts = 0 ∨ e8 = 0 ∨ e0 = 1) := by omega
        rw [if_pos (by rw [h8.1, h8.2]; rfl)]
        simp (disch := omega) only [mlet, mck_s, sI_nn, mset_s, h149, sI_1]
        have t148 : A1 148 i = sI t := by rw [h148, if_neg (by omega)]
        by_cases ha : a + 1 < 40
        · rw [if_pos (by rw [sI_ltl (by omega) (by omega)]; exact ha), hgy, if_neg hs, if_pos ha]
          refine wq_some ⟨rfl, ⟨?_, ?_, ?_, ?_, ?_, ?_⟩, ⟨o1, o2, ?_, ?_⟩, ?_⟩
          all_goals (try dsimp only)
          · rw [mset_k (by decide), hfr _ _ (by omega)]; exact c1
          · rw [mset_k (by decide)]; exact h146
          · rw [mset_k (by decide), hfr _ _ (by omega)]; exact c3
          · rw [mset_k (by decide)]; exact t148
          · rw [mset_s]
          · rw [mset_k (by decide)]; exact h150
          · rw [mset_k (by decide), hfr _ _ (by omega)]; exact o3
          · intro e he
            rw [mset_k (by decide), hfr _ _ (by omega)]; exact o4 e he
          · intro b j h1 h2 h3
            rw [mset_n (by omega)]
            exact hfr b j (by omega)
        · rw [if_neg (by rw [sI_ltl (by omega) (by omega)]; exact ha), hgy, if_neg hs, if_neg ha]
          rw [mset_k (a := 146) (by decide), h146, y5]
          generalize hA2 : mset (mset (mset (mset (mset A1 149 i (sI (a + 1))) 146 i (sI (n3))) 148 i 0) 149 i 0) 150 i 0 = A2
          have f0 : ∀ b j, ¬ (j = i ∧ (b = 146 ∨ b = 148 ∨ b = 149 ∨ b = 150)) → A2 b j = A b j := by
            intro b j h
            rw [← hA2, mset_n (by omega), mset_n (by omega), mset_n (by omega), mset_n (by omega), mset_n (by omega), hfr b j (by omega)]
          have cc2 : cc A2 i (n3) p 0 0 0 k := by
            refine ⟨?_, ?_, ?_, ?_, ?_, ?_⟩
            · rw [f0 _ _ (by omega)]; exact c1
            · rw [← hA2]; simp [mset]
            · rw [f0 _ _ (by omega)]; exact c3
            · rw [← hA2]; simp [mset]; rfl
            · rw [← hA2]; simp [mset]; rfl
            · rw [← hA2]; simp [mset]; rfl
          have E3 : A2 139 3 = sI l.length := by rw [f0 _ _ (by omega)]; exact o3
          have E4 : ∀ e (h : e < l.length), A2 153 e = sI (l[e]'h) := fun e he => by rw [f0 _ _ (by omega)]; exact o4 e he
          refine wq_b3 (c_entryOf hf (by omega) o1 (fun x hx => by have := o2 x hx; omega) E3 E4) ?_
          rintro r M1 L1 ⟨hq, hrr⟩
          obtain ⟨rfl, rfl⟩ : M1 = A2 ∧ L1 = L := by simpa using hq
          dsimp only at hrr
          rcases hrr with ⟨rfl, hil⟩ | ⟨e, he, rfl, hel⟩
          · have hrem : DX10_removeEntry fu (-1) M1 L1 = some (M1, L1) := by
              unfold DX10_removeEntry
              rw [if_neg (by decide)]
            rw [hrem, mb2_s]
            have hfl : l.filter (fun x => decide (x ≠ i)) = l := by
              rw [List.filter_eq_self]
              intro x hx
              have : x ≠ i := fun q => hil (q ▸ hx)
              simpa using this
            refine wq_some ⟨rfl, cc2, ?_, fun b j h1 h2 h3 => f0 b j h2⟩
            rw [if_pos rfl, hfl]
            exact ⟨o1, o2, E3, E4⟩
          · refine wq_b2 (c_remove hf o1 he E3 E4) ?_
            rintro M3 L3 ⟨hL3, hE3, hM3, hfr3⟩
            dsimp only at hL3 hE3 hM3 hfr3
            subst hL3
            refine wq_some ⟨rfl, cc_f cc2 (fun b h1 h2 => hfr3 _ _ (by omega) (by omega)), ?_, ?_⟩
            · rw [if_pos rfl, ← hel, ← er_filter hnd e he]
              have hlen := List.length_eraseIdx_of_lt he
              exact ⟨by omega, fun x hx => o2 x (List.mem_of_mem_eraseIdx hx), hE3, hM3⟩
            · intro b j h1 h2 h3
              dsimp only
              rw [hfr3 b j h3 h1, f0 b j h2]
      · rw [if_neg (by rw [sI_eql (by omega) (by omega)]; omega)]
        exact stay (by omega)
  have mid : ∀ (A1 : mwM), A1 146 i = sI n1 → A1 148 i = sI (if e8 = 0 then 0 else t) → (∀ b j, ¬ (j = i ∧ (b = 146 ∨ b = 148)) → A1 b j = A b j) → wq (fX10_endGoodCycle_b37 fu (sI i) (sI ts) A1 L) (fun q => q.2 = L ∧ cc q.1 i w.1 p w.2.1 w.2.2.1 w.2.2.2.1 k ∧ okeC q.1 N (if w.2.2.2.2 = true then l.filter (fun x => decide (x ≠ i)) else l) ∧ ∀ b j, ¬ (b = 139 ∧ j = 3) → ¬ (j = i ∧ (b = 146 ∨ b = 148 ∨ b = 149 ∨ b = 150)) → b ≠ 153 → q.1 b j = A b j) := by
    intro A1 h146 h148 hfr
    have h150 : A1 150 i = sI g := by rw [hfr _ _ (by omega)]; exact c6
    unfold fX10_endGoodCycle_b37
    simp (disch := omega) only [mlet, mck_s, sI_nn, mset_s, h150, sI_1]
    have hm : (if 255 < sI (g + 1) then (255 : Int32) else sI (g + 1)) = sI g1 := by
      rw [← hg1]
      by_cases h : g < 255
      · rw [if_pos h, if_neg (by rw [sI_llt (by omega) (by omega)]; omega)]
      · rw [if_neg h, if_pos (by rw [sI_llt (by omega) (by omega)]; omega)]; rfl
    rw [hm]
    by_cases h3 : g1 < 3
    · rw [if_pos (by rw [sI_ltl (by omega) (by omega)]; exact h3)]
      refine last _ ?_ ?_ mset_s ?_
      · rw [mset_k (by decide), h146, ← hn2, if_pos h3]
      · rw [mset_k (by decide)]; exact h148
      · intro b j h
        rw [mset_n (by omega)]
        exact hfr b j (by omega)
    · rw [if_neg (by rw [sI_ltl (by omega) (by omega)]; exact h3), mset_k (a := 146) (by decide), h146, y3]
      refine last _ ?_ ?_ ?_ ?_
      · rw [mset_s, ← hn2, if_neg h3]
      · rw [mset_k (by decide), mset_k (by decide)]; exact h148
      · rw [mset_k (by decide), mset_s]
      · intro b j h
        rw [mset_n (by omega), mset_n (by omega)]
        exact hfr b j (by omega)
  unfold DX10_endGoodCycle
  simp (disch := omega) only [mlet, mck_s, sI_nn, mset_s, c2, y1]
  rw [y2]
  by_cases h8 : e8 = 0
  · rw [if_pos (by rw [h8]; rfl)]
    refine mid _ ?_ ?_ ?_
    · rw [mset_k (by decide), mset_s]
    · rw [mset_s, if_pos h8]; rfl
    · intro b j h
      rw [mset_n (by omega), mset_n (by omega)]
  · rw [if_neg (by rw [sI_eql (by omega) (by omega)]; omega)]
    refine mid _ mset_s ?_ ?_
    · rw [mset_k (by decide), if_neg h8]; exact c4
    · intro b j h
      rw [mset_n (by omega)]
theorem c_good {fu : Nat} {A : mwM} {L : mwL} {N i n p t a g k ts : Nat} {l : List Nat} (hf : 9 ≤ fu) (hN : N ≤ 30) (hi : i < N) (hts : ts < 2) (hr : rg n p t a g k) (hc : cc A i n p t a g k) (hnd : l.Nodup) (ho : okeC A N l) : wq (DX10_endGoodCycle fu (sI i) (sI ts) A L) (fun q => q.2 = L ∧ cc q.1 i (gy ts n t a g).1 p (gy ts n t a g).2.1 (gy ts n t a g).2.2.1 (gy ts n t a g).2.2.2.1 k ∧ okeC q.1 N (if (gy ts n t a g).2.2.2.2 = true then l.filter (fun x => decide (x ≠ i)) else l) ∧ ∀ b j, ¬ (b = 139 ∧ j = 3) → ¬ (j = i ∧ (b = 146 ∨ b = 148 ∨ b = 149 ∨ b = 150)) → b ≠ 153 → q.1 b j = A b j) := by
  have r1 := hr.1
  have hg1 : (if g < 255 then g + 1 else 255) < 256 := by split <;> omega
  have h6 := hr.2.2.2.2.2.1
  have h5 := hr.2.2.2.2.1
  refine c_good0 (e8 := n / 8 % 2) (e0 := n % 2) (w := gy ts n t a g) hf hN hi hts h6 h5 (by omega) (by omega) (cy_5 n r1) (cy_b1 n r1) (cy_b4 n r1) rfl ?_ (n3 := sb (if (if g < 255 then g + 1 else 255) < 3 then sb n 2 0 else sb (sb n 2 0) 7 0) 3 0) ?_ rfl hg1 rfl hc hnd ho
  · by_cases h3 : (if g < 255 then g + 1 else 255) < 3
    · rw [if_pos h3]; exact (cy_b2 n r1).1
    · rw [if_neg h3]; exact (cy_b2 n r1).2
  · by_cases h3 : (if g < 255 then g + 1 else 255) < 3
    · rw [if_pos h3]; exact (cy_b5 n r1).1
    · rw [if_neg h3]; exact (cy_b5 n r1).2
