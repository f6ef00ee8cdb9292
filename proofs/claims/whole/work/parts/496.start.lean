/-! THE START: what the tables and the premises give at the law's entry -/
theorem tb_1 {w : Cond} (h : w ∈ tables_1_1) : w ∈ lw_tbl := List.mem_append_right _ (List.mem_append_left _ h)
theorem tb_2 {w : Cond} (h : w ∈ tables_1_2) : w ∈ lw_tbl := List.mem_append_right _ (List.mem_append_right _ (List.mem_append_left _ h))
theorem tb_3 {w : Cond} (h : w ∈ tables_1_3) : w ∈ lw_tbl := List.mem_append_right _ (List.mem_append_right _ (List.mem_append_right _ (List.mem_append_left _ h)))
theorem tb_4 {w : Cond} (h : w ∈ tables_1_4) : w ∈ lw_tbl := List.mem_append_right _ (List.mem_append_right _ (List.mem_append_right _ (List.mem_append_right _ (List.mem_append_left _ h))))
theorem tb_5 {w : Cond} (h : w ∈ tables_1_5) : w ∈ lw_tbl := List.mem_append_right _ (List.mem_append_right _ (List.mem_append_right _ (List.mem_append_right _ (List.mem_append_right _ (List.mem_append_left _ h)))))
theorem tb_6 {w : Cond} (h : w ∈ tables_1_6) : w ∈ lw_tbl := List.mem_append_right _ (List.mem_append_right _ (List.mem_append_right _ (List.mem_append_right _ (List.mem_append_right _ (List.mem_append_right _ (List.mem_append_left _ h))))))
theorem tb_7 {w : Cond} (h : w ∈ tables_1_7) : w ∈ lw_tbl := List.mem_append_right _ (List.mem_append_right _ (List.mem_append_right _ (List.mem_append_right _ (List.mem_append_right _ (List.mem_append_right _ (List.mem_append_right _ (List.mem_append_left _ h)))))))
theorem tb_8 {w : Cond} (h : w ∈ tables_1_8) : w ∈ lw_tbl := List.mem_append_right _ (List.mem_append_right _ (List.mem_append_right _ (List.mem_append_right _ (List.mem_append_right _ (List.mem_append_right _ (List.mem_append_right _ (List.mem_append_right _ (List.mem_append_left _ h))))))))
theorem tb_9 {w : Cond} (h : w ∈ tables_1_9) : w ∈ lw_tbl := List.mem_append_right _ (List.mem_append_right _ (List.mem_append_right _ (List.mem_append_right _ (List.mem_append_right _ (List.mem_append_right _ (List.mem_append_right _ (List.mem_append_right _ (List.mem_append_right _ (List.mem_append_left _ h)))))))))
theorem tb_10 {w : Cond} (h : w ∈ tables_1_10) : w ∈ lw_tbl := List.mem_append_right _ (List.mem_append_right _ (List.mem_append_right _ (List.mem_append_right _ (List.mem_append_right _ (List.mem_append_right _ (List.mem_append_right _ (List.mem_append_right _ (List.mem_append_right _ (List.mem_append_right _ (List.mem_append_left _ h))))))))))
theorem tb_11 {w : Cond} (h : w ∈ tables_1_11) : w ∈ lw_tbl := List.mem_append_right _ (List.mem_append_right _ (List.mem_append_right _ (List.mem_append_right _ (List.mem_append_right _ (List.mem_append_right _ (List.mem_append_right _ (List.mem_append_right _ (List.mem_append_right _ (List.mem_append_right _ (List.mem_append_right _ (List.mem_append_left _ h)))))))))))
theorem tb_12 {w : Cond} (h : w ∈ tables_1_12) : w ∈ lw_tbl := List.mem_append_right _ (List.mem_append_right _ (List.mem_append_right _ (List.mem_append_right _ (List.mem_append_right _ (List.mem_append_right _ (List.mem_append_right _ (List.mem_append_right _ (List.mem_append_right _ (List.mem_append_right _ (List.mem_append_right _ (List.mem_append_right _ (List.mem_append_left _ h))))))))))))
theorem tb_13 {w : Cond} (h : w ∈ tables_1_13) : w ∈ lw_tbl := List.mem_append_right _ (List.mem_append_right _ (List.mem_append_right _ (List.mem_append_right _ (List.mem_append_right _ (List.mem_append_right _ (List.mem_append_right _ (List.mem_append_right _ (List.mem_append_right _ (List.mem_append_right _ (List.mem_append_right _ (List.mem_append_right _ (List.mem_append_right _ (List.mem_append_left _ h)))))))))))))
theorem tb_14 {w : Cond} (h : w ∈ tables_1_14) : w ∈ lw_tbl := List.mem_append_right _ (List.mem_append_right _ (List.mem_append_right _ (List.mem_append_right _ (List.mem_append_right _ (List.mem_append_right _ (List.mem_append_right _ (List.mem_append_right _ (List.mem_append_right _ (List.mem_append_right _ (List.mem_append_right _ (List.mem_append_right _ (List.mem_append_right _ (List.mem_append_right _ (List.mem_append_left _ h))))))))))))))
theorem tb_15 {w : Cond} (h : w ∈ tables_1_15) : w ∈ lw_tbl := List.mem_append_right _ (List.mem_append_right _ (List.mem_append_right _ (List.mem_append_right _ (List.mem_append_right _ (List.mem_append_right _ (List.mem_append_right _ (List.mem_append_right _ (List.mem_append_right _ (List.mem_append_right _ (List.mem_append_right _ (List.mem_append_right _ (List.mem_append_right _ (List.mem_append_right _ (List.mem_append_right _ (List.mem_append_left _ h)))))))))))))))
theorem tb_16 {w : Cond} (h : w ∈ tables_1_16) : w ∈ lw_tbl := List.mem_append_right _ (List.mem_append_right _ (List.mem_append_right _ (List.mem_append_right _ (List.mem_append_right _ (List.mem_append_right _ (List.mem_append_right _ (List.mem_append_right _ (List.mem_append_right _ (List.mem_append_right _ (List.mem_append_right _ (List.mem_append_right _ (List.mem_append_right _ (List.mem_append_right _ (List.mem_append_right _ (List.mem_append_right _ (List.mem_append_left _ h))))))))))))))))
theorem tb_17 {w : Cond} (h : w ∈ tables_1_17) : w ∈ lw_tbl := List.mem_append_right _ (List.mem_append_right _ (List.mem_append_right _ (List.mem_append_right _ (List.mem_append_right _ (List.mem_append_right _ (List.mem_append_right _ (List.mem_append_right _ (List.mem_append_right _ (List.mem_append_right _ (List.mem_append_right _ (List.mem_append_right _ (List.mem_append_right _ (List.mem_append_right _ (List.mem_append_right _ (List.mem_append_right _ (List.mem_append_right _ (List.mem_append_left _ h)))))))))))))))))
theorem tb_18 {w : Cond} (h : w ∈ tables_1_18) : w ∈ lw_tbl := List.mem_append_right _ (List.mem_append_right _ (List.mem_append_right _ (List.mem_append_right _ (List.mem_append_right _ (List.mem_append_right _ (List.mem_append_right _ (List.mem_append_right _ (List.mem_append_right _ (List.mem_append_right _ (List.mem_append_right _ (List.mem_append_right _ (List.mem_append_right _ (List.mem_append_right _ (List.mem_append_right _ (List.mem_append_right _ (List.mem_append_right _ (List.mem_append_right _ (List.mem_append_left _ h))))))))))))))))))
theorem tb_19 {w : Cond} (h : w ∈ tables_1_19) : w ∈ lw_tbl := List.mem_append_right _ (List.mem_append_right _ (List.mem_append_right _ (List.mem_append_right _ (List.mem_append_right _ (List.mem_append_right _ (List.mem_append_right _ (List.mem_append_right _ (List.mem_append_right _ (List.mem_append_right _ (List.mem_append_right _ (List.mem_append_right _ (List.mem_append_right _ (List.mem_append_right _ (List.mem_append_right _ (List.mem_append_right _ (List.mem_append_right _ (List.mem_append_right _ (List.mem_append_right _ (h)))))))))))))))))))
theorem st_prim {s : State} {A : Array Value} {ty : FieldType} (h : (Cond.arrayClass ty).before A s = true) (hra : ∀ c : ClassId, va_RA s c ty = (s.vm.findClass ("[" ++ ty.toString) = some c)) : ∃ c : ClassId, ArrOfT s c ty ∧ va_RA s c ty := by
  obtain ⟨c, k, comp, h1, h2, h3⟩ := Cond.arrayClass_spec h
  exact ⟨c, fun n z => ⟨fun k h => (by cases h), k, h2, comp, h3⟩, by rw [hra]; exact h1⟩
theorem st_obj {s : State} {A : Array Value} {C : String} (h : (Cond.arrayOver (.object C)).before A s = true) : ∃ c : ClassId, ArrOfT s c (.object C) ∧ va_RA s c (.object C) := by
  obtain ⟨comp, c, k, h1, h2, h3, h4, h5⟩ := Cond.arrayOver_spec h
  exact ⟨c, fun n z => ⟨fun k h => (by cases h), k, h3, comp, h4⟩, k, comp, h3, h4, h1, h5⟩
theorem st_arr {s : State} {A : Array Value} (h : (Cond.arrayOver (.array .int)).before A s = true) : ∃ c : ClassId, ArrOfT s c (.array .int) ∧ va_RA s c (.array .int) := by
  obtain ⟨comp, c, k, h1, h2, h3, h4, h5⟩ := arrayOverA_spec h
  exact ⟨c, fun n z => ⟨fun k h => (by cases h), k, h3, comp, h4⟩, h5⟩
theorem st_str {s : State} {A : Array Value} {own tx : String} {k : Nat} (h1 : (Cond.stringRef own k tx).before A s = true) (h2 : (Cond.exactly (Term.string own k) "java/lang/String").before A s = true) : ∃ sa, vk_R own k tx sa s := by
  obtain ⟨a, c, cell, k9, e, -⟩ := Cond.exactly_spec h2
  exact ⟨a, vk_R.of h1 e⟩
theorem st_cl {s : State} {b : Nat} (hgt : ∀ w ∈ GT, w.before #[Value.ref b] s = true) : ∀ c : Nat, ∃ p : ClassId × (Nat → Nat), ∀ q : vw_C, mw_cl[c]? = some q → u_Kn s q.1 q.2.1 q.2.2 p.1 p.2
  | 0 => by
    obtain ⟨cC, iS, h⟩ := u_known (n := 14) hgt kc_0.2.1 (hgt _ wd_93)
    exact ⟨(cC, iS), fun q hq => by cases kc_0.1.symm.trans hq; exact h⟩
  | 1 => by
    obtain ⟨cC, iS, h⟩ := u_known (n := 19) hgt kc_1.2.1 (hgt _ wd_48)
    exact ⟨(cC, iS), fun q hq => by cases kc_1.1.symm.trans hq; exact h⟩
  | 2 => by
    obtain ⟨cC, iS, h⟩ := u_known (n := 17) hgt kc_2.2.1 (hgt _ wd_438)
    exact ⟨(cC, iS), fun q hq => by cases kc_2.1.symm.trans hq; exact h⟩
  | 3 => by
    obtain ⟨cC, iS, h⟩ := u_known (n := 7) hgt kc_3.2.1 (hgt _ wd_285)
    exact ⟨(cC, iS), fun q hq => by cases kc_3.1.symm.trans hq; exact h⟩
  | 4 => by
    obtain ⟨cC, iS, h⟩ := u_known (n := 7) hgt kc_4.2.1 (hgt _ wd_56)
    exact ⟨(cC, iS), fun q hq => by cases kc_4.1.symm.trans hq; exact h⟩
  | 5 => by
    obtain ⟨cC, iS, h⟩ := u_known (n := 20) hgt kc_5.2.1 (hgt _ wd_101)
    exact ⟨(cC, iS), fun q hq => by cases kc_5.1.symm.trans hq; exact h⟩
  | 6 => by
    obtain ⟨cC, iS, h⟩ := u_known (n := 15) hgt kc_6.2.1 (hgt _ wd_222)
    exact ⟨(cC, iS), fun q hq => by cases kc_6.1.symm.trans hq; exact h⟩
  | 7 => by
    obtain ⟨cC, iS, h⟩ := u_known (n := 9) hgt kc_7.2.1 (hgt _ wd_402)
    exact ⟨(cC, iS), fun q hq => by cases kc_7.1.symm.trans hq; exact h⟩
  | 8 => by
    obtain ⟨cC, iS, h⟩ := u_known (n := 14) hgt kc_8.2.1 (hgt _ wd_42)
    exact ⟨(cC, iS), fun q hq => by cases kc_8.1.symm.trans hq; exact h⟩
  | 9 => by
    obtain ⟨cC, iS, h⟩ := u_known (n := 11) hgt kc_9.2.1 (hgt _ wd_352)
    exact ⟨(cC, iS), fun q hq => by cases kc_9.1.symm.trans hq; exact h⟩
  | 10 => by
    obtain ⟨cC, iS, h⟩ := u_known (n := 6) hgt kc_10.2.1 (hgt _ wd_322)
    exact ⟨(cC, iS), fun q hq => by cases kc_10.1.symm.trans hq; exact h⟩
  | 11 => by
    obtain ⟨cC, iS, h⟩ := u_known (n := 6) hgt kc_11.2.1 (hgt _ wd_34)
    exact ⟨(cC, iS), fun q hq => by cases kc_11.1.symm.trans hq; exact h⟩
  | 12 => by
    obtain ⟨cC, iS, h⟩ := u_known (n := 51) hgt kc_12.2.1 (hgt _ wd_2093)
    exact ⟨(cC, iS), fun q hq => by cases kc_12.1.symm.trans hq; exact h⟩
  | 13 => by
    obtain ⟨cC, iS, h⟩ := u_known (n := 42) hgt kc_13.2.1 (hgt _ wd_2637)
    exact ⟨(cC, iS), fun q hq => by cases kc_13.1.symm.trans hq; exact h⟩
  | 14 => by
    obtain ⟨cC, iS, h⟩ := u_known (n := 19) hgt kc_14.2.1 (hgt _ wd_2255)
    exact ⟨(cC, iS), fun q hq => by cases kc_14.1.symm.trans hq; exact h⟩
  | 15 => by
    obtain ⟨cC, iS, h⟩ := u_known (n := 45) hgt kc_15.2.1 (hgt _ wd_1949)
    exact ⟨(cC, iS), fun q hq => by cases kc_15.1.symm.trans hq; exact h⟩
  | 16 => by
    obtain ⟨cC, iS, h⟩ := u_known (n := 27) hgt kc_16.2.1 (hgt _ wd_2550)
    exact ⟨(cC, iS), fun q hq => by cases kc_16.1.symm.trans hq; exact h⟩
  | 17 => by
    obtain ⟨cC, iS, h⟩ := u_known (n := 43) hgt kc_17.2.1 (hgt _ wd_2324)
    exact ⟨(cC, iS), fun q hq => by cases kc_17.1.symm.trans hq; exact h⟩
  | 18 => by
    obtain ⟨cC, iS, h⟩ := u_known (n := 26) hgt kc_18.2.1 (hgt _ wd_2462)
    exact ⟨(cC, iS), fun q hq => by cases kc_18.1.symm.trans hq; exact h⟩
  | 19 => by
    obtain ⟨cC, iS, h⟩ := u_known (n := 112) hgt kc_19.2.1 (hgt _ wd_1943)
    exact ⟨(cC, iS), fun q hq => by cases kc_19.1.symm.trans hq; exact h⟩
  | n + 20 => ⟨(0, fun _ => 0), fun q hq => absurd hq (by rw [List.getElem?_eq_none (show mw_cl.length ≤ n + 20 from by show 20 ≤ n + 20; omega)]; exact fun z => by cases z)⟩
theorem st_S1 {args : Array Value} {s : State} {own tx : String} {k len : Nat} {byt : List Int32} {A : Nat → Prop} (hN : len < 2 ^ 31) (hsr : (Cond.stringRef own k tx).before args s = true) (hex : (Cond.exactly (Term.string own k) "java/lang/String").before args s = true) (hco : (Cond.eq (.field (Term.string own k) "java/lang/String" "coder" "B") (.int 0)).before args s = true)
    (har : (Cond.arrayOf (.field (Term.string own k) "java/lang/String" "value" "[B") .byte).before args s = true) (hle : (Cond.eq (.length (.field (Term.string own k) "java/lang/String" "value" "[B")) (.int (Int32.ofNat len))).before args s = true)
    (hel : ∀ j : Nat, j < len → (Cond.eq (.elem (.field (Term.string own k) "java/lang/String" "value" "[B") (.int (Int32.ofNat j))) (.int (byt.getD j 0))).before args s = true) (hA : ∀ a : Nat, a < s.heap.size → ¬ A a) :
    ∃ q : Nat × Nat, vk_R own k tx q.1 s ∧ va_O "java/lang/String" q.1 A s s.heap ∧ va_OF "java/lang/String" "coder" "B" (.int 0) q.1 A s s.heap ∧ va_OF "java/lang/String" "value" "[B" (.ref q.2) q.1 A s s.heap ∧ va_T .byte q.2 len (fun j => .int (byt.getD j 0)) A s s.heap := by
  obtain ⟨a, c, cA, kA, q1, q2, q3, q4, q5, q6, -⟩ := Cond.exactly_spec (args := args) (first := s) (o := none) (s := s) (idx := []) (t := Term.string own k) (cls := "java/lang/String") hex
  obtain ⟨t, ht, hT⟩ := va_Tof (f := fun j => .int (byt.getD j 0)) (A := A) hN har (va_eqt hle) (fun j hj => va_eqt (hel j hj)) hA
  exact ⟨(a, t), vk_R.of hsr q1, ⟨cA, q3, q5, by rw [q6]; exact q2, hA a (Array.getElem?_eq_some_iff.mp q3).1⟩, vk_OFof q1 (va_eqt hco) hA, vk_OFof q1 ht hA, hT⟩
set_option maxHeartbeats 4000000 in
set_option maxRecDepth 100000 in
theorem st_Ss {s : State} {b : Nat} {A : Nat → Prop} (hts : ∀ w ∈ lw_tbl, w.before #[Value.ref b] s = true) (hgv : (Jvm.Cond.and given_1 narrow_1).before #[Value.ref b] s = true) (hA : ∀ a : Nat, a < s.heap.size → ¬ A a) : ∃ q : Nat → Nat × Nat, ∀ i, i < 8 → vk_R "CarHouse$Reader" (mw_stx.getD i (0, "")).1 (mw_stx.getD i (0, "")).2 (q i).1 s ∧ va_O "java/lang/String" (q i).1 A s s.heap ∧ va_OF "java/lang/String" "coder" "B" (.int 0) (q i).1 A s s.heap ∧ va_OF "java/lang/String" "value" "[B" (.ref (q i).2) (q i).1 A s s.heap ∧ va_T .byte (q i).2 (mw_slen.getD i 0) (fun j => .int ((mw_sbyt.getD i []).getD j 0)) A s s.heap := by
  have hs := flat_of_before _ hgv
  have h0 : ∀ i : Nat, ∃ q : Nat × Nat, i < 8 → vk_R "CarHouse$Reader" (mw_stx.getD i (0, "")).1 (mw_stx.getD i (0, "")).2 q.1 s ∧ va_O "java/lang/String" q.1 A s s.heap ∧ va_OF "java/lang/String" "coder" "B" (.int 0) q.1 A s s.heap ∧ va_OF "java/lang/String" "value" "[B" (.ref q.2) q.1 A s s.heap ∧ va_T .byte q.2 (mw_slen.getD i 0) (fun j => .int ((mw_sbyt.getD i []).getD j 0)) A s s.heap := fun i => match i with
    | 0 => (st_S1 (own := "CarHouse$Reader") (tx := "controller task chart state edge after datum enter leave take signal protect read watch") (k := 88) (len := 87) (byt := [99, 111, 110, 116, 114, 111, 108, 108, 101, 114, 32, 116, 97, 115, 107, 32, 99, 104, 97, 114, 116, 32, 115, 116, 97, 116, 101, 32, 101, 100, 103, 101, 32, 97, 102, 116, 101, 114, 32, 100, 97, 116, 117, 109, 32, 101, 110, 116, 101, 114, 32, 108, 101, 97, 118, 101, 32, 116, 97, 107, 101, 32, 115, 105, 103, 110, 97, 108, 32, 112, 114, 111, 116, 101, 99, 116, 32, 114, 101, 97, 100, 32, 119, 97, 116, 99, 104]) (by decide) (hts _ (tb_4 (List.mem_of_getElem? (i := 118) rfl))) (hs _ (by decide +kernel)) (hs _ (by decide +kernel)) (hs _ (by decide +kernel)) (hs _ (by decide +kernel)) (fun j hj => hs _ (List.mem_of_getElem? (i := 216 + j) (by revert j; decide +kernel))) hA).imp (fun q h _ => h)
    | 1 => (st_S1 (own := "CarHouse$Reader") (tx := "plain split history deep fork join") (k := 178) (len := 34) (byt := [112, 108, 97, 105, 110, 32, 115, 112, 108, 105, 116, 32, 104, 105, 115, 116, 111, 114, 121, 32, 100, 101, 101, 112, 32, 102, 111, 114, 107, 32, 106, 111, 105, 110]) (by decide) (hts _ (tb_5 (List.mem_of_getElem? (i := 37) rfl))) (hs _ (by decide +kernel)) (hs _ (by decide +kernel)) (hs _ (by decide +kernel)) (hs _ (by decide +kernel)) (fun j hj => hs _ (List.mem_of_getElem? (i := 314 + j) (by revert j; decide +kernel))) hA).imp (fun q h _ => h)
    | 2 => (st_S1 (own := "CarHouse$Reader") (tx := "if") (k := 196) (len := 2) (byt := [105, 102]) (by decide) (hts _ (tb_5 (List.mem_of_getElem? (i := 67) rfl))) (hs _ (by decide +kernel)) (hs _ (by decide +kernel)) (hs _ (by decide +kernel)) (hs _ (by decide +kernel)) (fun j hj => hs _ (List.mem_of_getElem? (i := 360 + j) (by revert j; decide +kernel))) hA).imp (fun q h _ => h)
    | 3 => (st_S1 (own := "CarHouse$Reader") (tx := "eq ne lt ge div mod") (k := 205) (len := 19) (byt := [101, 113, 32, 110, 101, 32, 108, 116, 32, 103, 101, 32, 100, 105, 118, 32, 109, 111, 100]) (by decide) (hts _ (tb_5 (List.mem_of_getElem? (i := 75) rfl))) (hs _ (by decide +kernel)) (hs _ (by decide +kernel)) (hs _ (by decide +kernel)) (hs _ (by decide +kernel)) (fun j hj => hs _ (List.mem_of_getElem? (i := 366 + j) (by revert j; decide +kernel))) hA).imp (fun q h _ => h)
    | 4 => (st_S1 (own := "CarHouse$Reader") (tx := "more") (k := 225) (len := 4) (byt := [109, 111, 114, 101]) (by decide) (hts _ (tb_5 (List.mem_of_getElem? (i := 106) rfl))) (hs _ (by decide +kernel)) (hs _ (by decide +kernel)) (hs _ (by decide +kernel)) (hs _ (by decide +kernel)) (fun j hj => hs _ (List.mem_of_getElem? (i := 389 + j) (by revert j; decide +kernel))) hA).imp (fun q h _ => h)
    | 5 => (st_S1 (own := "CarHouse$Reader") (tx := "turned") (k := 234) (len := 6) (byt := [116, 117, 114, 110, 101, 100]) (by decide) (hts _ (tb_5 (List.mem_of_getElem? (i := 115) rfl))) (hs _ (by decide +kernel)) (hs _ (by decide +kernel)) (hs _ (by decide +kernel)) (hs _ (by decide +kernel)) (fun j hj => hs _ (List.mem_of_getElem? (i := 397 + j) (by revert j; decide +kernel))) hA).imp (fun q h _ => h)
    | 6 => (st_S1 (own := "CarHouse$Reader") (tx := "top") (k := 274) (len := 3) (byt := [116, 111, 112]) (by decide) (hts _ (tb_4 (List.mem_of_getElem? (i := 193) rfl))) (hs _ (by decide +kernel)) (hs _ (by decide +kernel)) (hs _ (by decide +kernel)) (hs _ (by decide +kernel)) (fun j hj => hs _ (List.mem_of_getElem? (i := 307 + j) (by revert j; decide +kernel))) hA).imp (fun q h _ => h)
    | 7 => (st_S1 (own := "CarHouse$Reader") (tx := "time") (k := 285) (len := 4) (byt := [116, 105, 109, 101]) (by decide) (hts _ (tb_5 (List.mem_of_getElem? (i := 66) rfl))) (hs _ (by decide +kernel)) (hs _ (by decide +kernel)) (hs _ (by decide +kernel)) (hs _ (by decide +kernel)) (fun j hj => hs _ (List.mem_of_getElem? (i := 352 + j) (by revert j; decide +kernel))) hA).imp (fun q h _ => h)
    | n + 8 => ⟨(0, 0), fun h => absurd h (by omega)⟩
  exact Classical.axiomOfChoice h0
set_option maxHeartbeats 4000000 in
set_option maxRecDepth 100000 in
theorem st_flex {s : State} {b : Nat} {A : Nat → Prop} (hts : ∀ w ∈ lw_tbl, w.before #[Value.ref b] s = true) (hgv : (Jvm.Cond.and given_1 narrow_1).before #[Value.ref b] s = true) (hA : ∀ a : Nat, a < s.heap.size → ¬ A a) : (∃ t : Nat, va_Z "CarHouse$Ear" "FLEXIBLE_OCTETS" "[I" (.ref t) A s s.heap ∧ va_T .int t 16 (fun j => .int (mw_flex.getD j 0)) A s s.heap) ∧ va_Z "java/lang/String" "COMPACT_STRINGS" "Z" (.int 1) A s s.heap ∧ va_Zq "jdk/internal/util/Preconditions" "SIOOBE_FORMATTER" "Ljava/util/function/BiFunction;" A s s.heap := by
  have hs := flat_of_before _ hgv
  obtain ⟨t, ht, hT⟩ := va_Tof (s := s) (args := #[Value.ref b]) (tm := Term.static "CarHouse$Ear" "FLEXIBLE_OCTETS" "[I") (ty := .int) (N := 16) (f := fun j => .int (mw_flex.getD j 0)) (A := A) (by decide) (hs _ (by decide +kernel)) (va_eqt (hs _ (by decide +kernel))) (fun j hj => va_eqt (hs _ (List.mem_of_getElem? (i := 14 + j) (by revert j; decide +kernel)))) hA
  exact ⟨⟨t, va_Zref (hts _ (tb_7 (List.mem_of_getElem? (i := 2) rfl))) (hts _ (tb_1 (List.mem_of_getElem? (i := 6) rfl))) ht hA, hT⟩, va_Zof (hts _ (tb_4 (List.mem_of_getElem? (i := 132) rfl))) (hts _ (tb_1 (List.mem_of_getElem? (i := 26) rfl))) (va_eqt (hs _ (by decide +kernel))) hA, va_Zqof (hts _ (tb_4 (List.mem_of_getElem? (i := 148) rfl))) (hts _ (tb_1 (List.mem_of_getElem? (i := 28) rfl))) (hs _ (by decide +kernel)) hA⟩
theorem st_K {s : State} {b : Nat} (hts : ∀ w ∈ lw_tbl, w.before #[Value.ref b] s = true) (hgv : (Jvm.Cond.and given_1 narrow_1).before #[Value.ref b] s = true) : ∃ G : mwG, G.2.2.2 = s.heap ∧ mw_K G s ∧ mw_KA s := by
  have hA : ∀ a : Nat, a < s.heap.size → ¬ s.heap.size ≤ a := fun a h q => by omega
  obtain ⟨⟨ft, hft1, hft2⟩, hcs, hsf⟩ := st_flex (A := fun q => s.heap.size ≤ q) hts hgv hA
  obtain ⟨sq, hsq⟩ := st_Ss (A := fun q => s.heap.size ≤ q) hts hgv hA
  have hgt : ∀ w ∈ GT, w.before #[Value.ref b] s = true := fun w h => hts w (List.mem_filter.mp h).1
  obtain ⟨f, hf⟩ := Classical.axiomOfChoice (st_cl hgt)
  obtain ⟨a0, h0⟩ := st_prim (ty := .int) (hgt _ wd_91) (fun _ => rfl)
  obtain ⟨a1, h1⟩ := st_prim (ty := .byte) (hgt _ wd_170) (fun _ => rfl)
  obtain ⟨a2, h2⟩ := st_prim (ty := .boolean) (hgt _ wd_320) (fun _ => rfl)
  obtain ⟨a3, h3⟩ := st_prim (ty := .char) (hgt _ wd_90) (fun _ => rfl)
  obtain ⟨a4, h4⟩ := st_prim (ty := .short) (hgt _ wd_2091) (fun _ => rfl)
  obtain ⟨a5, h5⟩ := st_prim (ty := .long) (hgt _ wd_509) (fun _ => rfl)
  have q6 := hts _ (tb_1 (List.mem_of_getElem? (i := 62) rfl))
  obtain ⟨a6, h6⟩ := st_arr q6
  have q7 := hts _ (tb_1 (List.mem_of_getElem? (i := 54) rfl))
  obtain ⟨a7, h7⟩ := st_obj q7
  have q8 := hts _ (tb_1 (List.mem_of_getElem? (i := 100) rfl))
  obtain ⟨a8, h8⟩ := st_obj q8
  have q9 := hts _ (tb_11 (List.mem_of_getElem? (i := 147) rfl))
  obtain ⟨a9, h9⟩ := st_obj q9
  have q10 := hts _ (tb_11 (List.mem_of_getElem? (i := 149) rfl))
  obtain ⟨a10, h10⟩ := st_obj q10
  refine ⟨(fun c => (f c).1, fun c j => if c = 1000 then (sq j).1 else if c = 1001 then (sq j).2 else if c = 1002 then ft else (f c).2 j, fun t => match t with | 0 => a0 | 1 => a1 | 2 => a2 | 3 => a3 | 4 => a4 | 5 => a5 | 6 => a6 | 7 => a7 | 8 => a8 | 9 => a9 | _ => a10, s.heap), rfl, ⟨⟨fun c q hq => ?_, fun k q hk => ?_⟩, fun w hw => ?_, hft1, hft2, hcs, hsf, fun i hi => hsq i hi⟩, fun ty hty => ?_⟩
  · have hc : c < 20 := (List.getElem?_eq_some_iff.mp hq).1
    have e : (fun j => if c = 1000 then (sq j).1 else if c = 1001 then (sq j).2 else if c = 1002 then ft else (f c).2 j) = (f c).2 := by
      funext j
      rw [if_neg (by omega), if_neg (by omega), if_neg (by omega)]
    have h9 := hf c q hq
    rw [← e] at h9
    exact h9
  · match k, hk with
    | 0, hk => cases hk; exact h0
    | 1, hk => cases hk; exact h1
    | 2, hk => cases hk; exact h2
    | 3, hk => cases hk; exact h3
    | 4, hk => cases hk; exact h4
    | 5, hk => cases hk; exact h5
    | 6, hk => cases hk; exact h6
    | 7, hk => cases hk; exact h7
    | 8, hk => cases hk; exact h8
    | 9, hk => cases hk; exact h9
    | 10, hk => cases hk; exact h10
    | n + 11, hk => exact absurd hk (by simp [mw_ty])
  · have h1 := hts w (List.mem_append_right _ (List.mem_filter.mp hw).1)
    have h2 := (List.mem_filter.mp hw).2
    exact va_Nw.of (by cases w <;> first | rfl | (simp [nestWord] at h2; done)) h1
  · simp only [mw_aos, List.mem_cons, List.not_mem_nil, or_false] at hty
    rcases hty with rfl | rfl | rfl | rfl | rfl
    · exact q7
    · exact q8
    · exact q9
    · exact q10
    · exact q6
set_option maxHeartbeats 4000000 in
set_option maxRecDepth 100000 in
theorem st_KX {s : State} {b : Nat} {G : mwG} (hG : G.2.2.2 = s.heap) (hts : ∀ w ∈ lw_tbl, w.before #[Value.ref b] s = true) (hgv : (Jvm.Cond.and given_1 narrow_1).before #[Value.ref b] s = true) : mw_KX G s := by
  have hs := flat_of_before _ hgv
  have hA : ∀ a : Nat, a < s.heap.size → ¬ mw_fr G a := fun a h q => by
    have q9 : G.2.2.2.size ≤ a := q
    rw [hG] at q9
    omega
  have hini := hts _ (tb_1 (List.mem_of_getElem? (i := 21) rfl))
  have hc : ∀ k, (Cond.castable (mx_E k) (mx_E k)).before #[] s = true
    | 0 => va_tabs rfl rfl (hts _ (tb_6 (List.mem_of_getElem? (i := 55) rfl)))
    | 1 => va_tabs rfl rfl (hts _ (tb_3 (List.mem_of_getElem? (i := 216) rfl)))
    | 2 => va_tabs rfl rfl (hts _ (tb_4 (List.mem_of_getElem? (i := 55) rfl)))
    | n + 3 => va_tabs rfl rfl (hts _ (tb_6 (List.mem_of_getElem? (i := 55) rfl)))
  refine ⟨by rw [hG]; exact vx_Zqof (hts _ (tb_4 (List.mem_of_getElem? (i := 1) rfl))) hini (hs _ (by decide +kernel)) hA, by rw [hG]; exact vx_Zqof (hts _ (tb_4 (List.mem_of_getElem? (i := 3) rfl))) hini (hs _ (by decide +kernel)) hA, ?_, fun k w hw => ?_, va_Nc.of (hs _ (by decide +kernel)), va_Nc.of (hs _ (by decide +kernel)), va_Nc.of (hs _ (by decide +kernel))⟩
  · exact List.forall_mem_cons.mpr ⟨st_str (hts _ (tb_4 (List.mem_of_getElem? (i := 15) rfl))) (hs _ (by decide +kernel)), List.forall_mem_cons.mpr ⟨st_str (hts _ (tb_4 (List.mem_of_getElem? (i := 62) rfl))) (hs _ (by decide +kernel)), List.forall_mem_cons.mpr ⟨st_str (hts _ (tb_4 (List.mem_of_getElem? (i := 76) rfl))) (hs _ (by decide +kernel)), List.forall_mem_cons.mpr ⟨st_str (hts _ (tb_6 (List.mem_of_getElem? (i := 43) rfl))) (hs _ (by decide +kernel)), List.forall_mem_cons.mpr ⟨st_str (hts _ (tb_6 (List.mem_of_getElem? (i := 44) rfl))) (hs _ (by decide +kernel)), List.forall_mem_cons.mpr ⟨st_str (hts _ (tb_6 (List.mem_of_getElem? (i := 62) rfl))) (hs _ (by decide +kernel)), List.forall_mem_cons.mpr ⟨st_str (hts _ (tb_6 (List.mem_of_getElem? (i := 69) rfl))) (hs _ (by decide +kernel)), List.forall_mem_cons.mpr ⟨st_str (hts _ (tb_6 (List.mem_of_getElem? (i := 81) rfl))) (hs _ (by decide +kernel)), List.forall_mem_cons.mpr ⟨st_str (hts _ (tb_6 (List.mem_of_getElem? (i := 89) rfl))) (hs _ (by decide +kernel)), List.forall_mem_cons.mpr ⟨st_str (hts _ (tb_6 (List.mem_of_getElem? (i := 90) rfl))) (hs _ (by decide +kernel)), List.forall_mem_cons.mpr ⟨st_str (hts _ (tb_8 (List.mem_of_getElem? (i := 112) rfl))) (hs _ (by decide +kernel)), List.forall_mem_cons.mpr ⟨st_str (hts _ (tb_8 (List.mem_of_getElem? (i := 120) rfl))) (hs _ (by decide +kernel)), List.forall_mem_cons.mpr ⟨st_str (hts _ (tb_8 (List.mem_of_getElem? (i := 121) rfl))) (hs _ (by decide +kernel)), List.forall_mem_cons.mpr ⟨st_str (hts _ (tb_8 (List.mem_of_getElem? (i := 129) rfl))) (hs _ (by decide +kernel)), List.forall_mem_cons.mpr ⟨st_str (hts _ (tb_8 (List.mem_of_getElem? (i := 130) rfl))) (hs _ (by decide +kernel)), List.forall_mem_cons.mpr ⟨st_str (hts _ (tb_8 (List.mem_of_getElem? (i := 142) rfl))) (hs _ (by decide +kernel)), List.forall_mem_cons.mpr ⟨st_str (hts _ (tb_8 (List.mem_of_getElem? (i := 150) rfl))) (hs _ (by decide +kernel)), List.forall_mem_cons.mpr ⟨st_str (hts _ (tb_8 (List.mem_of_getElem? (i := 158) rfl))) (hs _ (by decide +kernel)), List.forall_mem_cons.mpr ⟨st_str (hts _ (tb_8 (List.mem_of_getElem? (i := 170) rfl))) (hs _ (by decide +kernel)), List.forall_mem_cons.mpr ⟨st_str (hts _ (tb_8 (List.mem_of_getElem? (i := 171) rfl))) (hs _ (by decide +kernel)), List.forall_mem_cons.mpr ⟨st_str (hts _ (tb_8 (List.mem_of_getElem? (i := 183) rfl))) (hs _ (by decide +kernel)), List.forall_mem_cons.mpr ⟨st_str (hts _ (tb_8 (List.mem_of_getElem? (i := 195) rfl))) (hs _ (by decide +kernel)), List.forall_mem_cons.mpr ⟨st_str (hts _ (tb_8 (List.mem_of_getElem? (i := 203) rfl))) (hs _ (by decide +kernel)), List.forall_mem_cons.mpr ⟨st_str (hts _ (tb_8 (List.mem_of_getElem? (i := 204) rfl))) (hs _ (by decide +kernel)), List.forall_mem_cons.mpr ⟨st_str (hts _ (tb_8 (List.mem_of_getElem? (i := 216) rfl))) (hs _ (by decide +kernel)), List.forall_mem_cons.mpr ⟨st_str (hts _ (tb_8 (List.mem_of_getElem? (i := 217) rfl))) (hs _ (by decide +kernel)), List.forall_mem_cons.mpr ⟨st_str (hts _ (tb_9 (List.mem_of_getElem? (i := 4) rfl))) (hs _ (by decide +kernel)), List.forall_mem_cons.mpr ⟨st_str (hts _ (tb_9 (List.mem_of_getElem? (i := 12) rfl))) (hs _ (by decide +kernel)), List.forall_mem_cons.mpr ⟨st_str (hts _ (tb_9 (List.mem_of_getElem? (i := 21) rfl))) (hs _ (by decide +kernel)), fun _ h => absurd h List.not_mem_nil⟩⟩⟩⟩⟩⟩⟩⟩⟩⟩⟩⟩⟩⟩⟩⟩⟩⟩⟩⟩⟩⟩⟩⟩⟩⟩⟩⟩⟩
  · simp only [mx_bad, List.mem_cons, List.not_mem_nil, or_false] at hw
    rcases hw with rfl | rfl | rfl | rfl
    · exact hc k
    · exact va_tabs rfl rfl (hts _ (tb_3 (List.mem_of_getElem? (i := 218) rfl)))
    · exact va_tabs rfl rfl (hts _ (tb_3 (List.mem_of_getElem? (i := 220) rfl)))
    · exact va_tabs rfl rfl (hts _ (tb_3 (List.mem_of_getElem? (i := 222) rfl)))
theorem getD_all {α : Type} {p : α → Prop} {l : List α} {d : α} (h : ∀ x ∈ l, p x) (hd : p d) (i : Nat) : p (l.getD i d) := by
  rw [List.getD_eq_getElem?_getD]
  cases hx : l[i]? with
  | none => exact hd
  | some x => exact h x (List.mem_of_getElem? hx)
theorem mw_fk3 (ci j : Nat) : mw_fk ci j ≤ 2 := getD_all (p := fun x => x ≤ 2) (getD_all (p := fun l => ∀ x ∈ l, x ≤ 2) (l := mw_fkl) (by decide +kernel) (fun _ h => absurd h List.not_mem_nil) ci) (by decide) j
theorem arrV_congr {c : ClassId} {n : Nat} {f g : Nat → Value} (h : ∀ j, j < n → f j = g j) : arrV c n f = arrV c n g := by
  unfold arrV
  have e : (fun j : Fin n => f j.val) = (fun j : Fin n => g j.val) := funext fun j => h j.val j.isLt
  rw [e]
/-- the world with the table's references in place of those that the constructors left -/
theorem mw_refF {G : mwG} {ad : Nat → Nat} {N : Nat} {F : mwF} {M : mwM} {L : mwL} {H : Heap} {locs : List Loc} (h : mw_W G ad N TF F M L H locs) (hF : ∀ a, a < N → cpx F a) : mw_W G ad N TF FF M L H locs := by
  have hin : ∀ (F : mwF) (k : Nat) (q : Nat × va_E), (mw_l mw_fk G.2.2.1 ad TF M L F N)[k]? = some q → k < N ∧ q = (ad k, mw_ce mw_fk G.2.2.1 ad TF M L F k) := fun F k q hk => by
    have hk2 : k < N := by
      have := (List.getElem?_eq_some_iff.mp hk).1
      rwa [mw_len] at this
    rw [mw_at hk2] at hk
    exact ⟨hk2, (Option.some.inj hk).symm⟩
  refine ⟨fun k q hk => ?_, ⟨fun i j p q hi hj hpq => ?_, fun k q hk => ?_⟩, h.2.2⟩
  · obtain ⟨hk2, rfl⟩ := hin FF k q hk
    have h0 := h.1 k _ (mw_at hk2)
    have hc := hF k hk2
    obtain ⟨t, n, hT⟩ : ∃ t n, TF k = (t, n) := ⟨_, _, rfl⟩
    by_cases h5 : t < 5
    · rw [mw_ceA hT h5] at h0 ⊢
      exact h0
    · by_cases h6 : t = 5
      · subst h6
        rw [mw_ceL hT] at h0 ⊢
        exact h0
      · by_cases h11 : t < 11
        · rw [mw_ceR hT (by omega) h11] at h0 ⊢
          have e : vp_cell (G.2.2.1 t) (n, .inr (.inr (.inr (.inr (fun j => (FF k j).map ad))))) = vp_cell (G.2.2.1 t) (n, .inr (.inr (.inr (.inr (fun j => (F k j).map ad))))) := by
            rw [vp_cell_q, vp_cell_q]
            refine arrV_congr (fun j hj => ?_)
            rw [hc j (by rw [hT]; exact hj) (by unfold need; rw [hT]; simp only [show ¬ t < 6 by omega, h11, if_false, if_true])]
          show H[ad k]? = some (vp_cell _ _)
          rw [e]
          exact h0
        · obtain ⟨ci, rfl⟩ : ∃ ci, t = 11 + ci := ⟨t - 11, by omega⟩
          rw [mw_ceO hT] at h0 ⊢
          have e : (List.range n).map (mw_fv mw_fk ad M L FF ci k) = (List.range n).map (mw_fv mw_fk ad M L F ci k) := by
            refine List.map_congr_left (fun j hj => ?_)
            unfold mw_fv
            by_cases hf2 : mw_fk ci j = 2
            · rw [hc j (by rw [hT]; exact List.mem_range.mp hj) (by rw [need_O hT]; exact decide_eq_true hf2)]
            · by_cases f0 : mw_fk ci j = 0
              · rw [if_pos f0, if_pos f0]
              · by_cases f1 : mw_fk ci j = 1
                · rw [if_neg f0, if_neg f0, if_pos f1, if_pos f1]
                · exact absurd (mw_fk3 ci j) (by omega)
          rw [e]
          exact h0
  · obtain ⟨i2, rfl⟩ := hin FF i p hi
    obtain ⟨j2, rfl⟩ := hin FF j q hj
    exact h.2.1.1 i j _ _ (mw_at i2) (mw_at j2) hpq
  · obtain ⟨k2, rfl⟩ := hin FF k q hk
    exact h.2.1.2 k (ad k, mw_ce mw_fk G.2.2.1 ad TF M L F k) (mw_at k2)
/-- what the two constructors leave -/
def wInit (M : mwM) (L : mwL) : Prop := ∃ (F1 : mwF) (M1 : mwM) (L1 : mwL) (F2 : mwF) (L2 : mwL), DX11_init 300 (mz none (fun _ _ => none) 0) (mz 0 (fun _ _ => 0) 0) (mz 0 (fun _ _ => 0) 0) = some (F1, M1, L1) ∧ DX19_init 300 (mz none F1 732) (mz 0 M1 732) (mz 0 L1 732) = some (F2, M, L2) ∧ L = mz 0 L2 1577
/-- what is left when the machine is gone: from what the constructors leave the law's loop comes to its end, and answers 1 -/
def wPure : Prop := ∀ (M : mwM) (L : mwL), wInit M L → ∀ n : Nat, n ≤ 2560 → ∀ xs : Nat → Int32, ∃ (M0 : mwM) (L0 : mwL), DL_law 200000 513 n xs M L = some (1, M0, L0)
theorem dL_law_0 : decode cL_law 0 = .ok (.new 8, 3) := by decide +kernel
theorem dL_law_3 : decode cL_law 3 = .ok (.dup, 1) := by decide +kernel
theorem dL_law_4 : decode cL_law 4 = .ok (.invokespecial 89, 3) := by decide +kernel
theorem dL_law_7 : decode cL_law 7 = .ok (.astore_n 1, 1) := by decide +kernel
theorem dL_law_8 : decode cL_law 8 = .ok (.new 90, 3) := by decide +kernel
theorem dL_law_11 : decode cL_law 11 = .ok (.dup, 1) := by decide +kernel
theorem dL_law_12 : decode cL_law 12 = .ok (.invokespecial 92, 3) := by decide +kernel
theorem dL_law_15 : decode cL_law 15 = .ok (.astore_n 2, 1) := by decide +kernel
theorem dL_law_16 : decode cL_law 16 = .ok (.iconst 1, 1) := by decide +kernel
theorem dL_law_17 : decode cL_law 17 = .ok (.newarray .long, 2) := by decide +kernel
theorem dL_law_19 : decode cL_law 19 = .ok (.astore_n 3, 1) := by decide +kernel
set_option maxHeartbeats 4000000 in
set_option maxRecDepth 100000 in
theorem whole_start (hp : wPure) {p : Program} {e : Env} {s : State} {m : MethodId} {below : List Frame} {meth : Method} {c : Code} (l : Launch) (hst : l.stackTraces = false) {b L : Nat} {xs : Nat → Int32} (hL : L ≤ 2560) (C0 : lw_At p s m meth c b L xs) : W p l e room_1 s m #[Value.ref b] below meth c s.heap [] 0 0 (lw_Z below #[Value.ref b] s) (entryFrame m ([Value.ref b] : List Value).toArray 8) := by
  obtain ⟨hx, hb, hr, hml, hown, hts, hX, hbl, hlocks, hgv⟩ := id C0
  obtain ⟨G, hG, hK, A⟩ := st_K hts hgv
  have hGs : G.2.2.2.size = s.heap.size := by rw [hG]
  have KX : mw_KX G s := st_KX hG hts hgv
  have C : mw_C p m c cL_law 8 s #[Value.ref b] "CarHouseLaw" G := ⟨⟨hx, hb, hml, hown, fun w h => hts w (List.mem_filter.mp h).1⟩, hK⟩
  have hw : mw_W G (mw_ad G) 0 TF (fun _ _ => none) (fun _ _ => 0) (fun _ _ => 0) s.heap [] := ⟨fun k q h => by simp [mw_l] at h, ⟨fun i j p q h => by simp [mw_l] at h, fun k q h => by simp [mw_l] at h⟩, by rw [hG]; exact va_S.rf⟩
  have hl := lv_entry ([.ref b]) (n := 8) (Nat.le_of_ble_eq_true rfl)
  rw [lg_entry_eq]
  generalize (lg_sl ([.ref b]) ++ List.replicate (8 - (lg_sl ([.ref b])).length) Slot.unset).toArray = ls at hl ⊢
  have hl : lv_has ls 8 [(0, .ref b)] := hl
  obtain ⟨⟨F1, M1, L1⟩, hc1, k1, r1⟩ := xX11_init 300 (by omega) (mz none (fun _ _ => none) 0) (mz 0 (fun _ _ => 0) 0) (mz 0 (fun _ _ => 0) 0)
  obtain ⟨⟨F2, M2, L2⟩, hc2, k2⟩ := xX19_init 300 (by omega) (mz none F1 732) (mz 0 M1 732) (mz 0 L1 732)
  obtain ⟨M0, L0, hD⟩ := hp M2 (mz 0 L2 1577) ⟨F1, M1, L1, F2, L2, hc1, hc2, rfl⟩ L hL xs
  have hcp : ∀ a, a < NF → cpx F2 a := by
    intro a ha j hj hn
    rcases need_rc ha hn with h | ⟨o, ho, rfl⟩
    · have hlt : a < 732 := List.all_eq_true.mp (show RCc.all (fun a => decide (a < 732)) = true by decide +kernel) a h |> of_decide_eq_true
      have h1 := gX11_init hc1 a h
      rw [Nat.zero_add] at h1
      rw [← h1 j hj hn, kX19_init hc2 a j (Or.inl hlt), mz_n (Nat.ne_of_lt hlt)]
    · exact gX19_init hc2 o ho j hj hn
  refine mw_size hw (by omega) (fun hs => ?_)
  refine mr_new C hw hs kc_11 tf_0 wd_33 wd_34 wd_1 (by decide +kernel) (Nat.le_of_ble_eq_true rfl) (Nat.le_of_ble_eq_true rfl) dL_law_0 (fun H hw _ => ?_)
  refine W.widen (k := 1) (n := 6) (Nat.le_of_ble_eq_true rfl) (Nat.le_of_ble_eq_true rfl) ?_
  refine lv_dup C.1.1 C.1.2.1 dL_law_3 rfl ?_
  refine mw_size hw (by omega) (fun hs => ?_)
  refine mc_init (k := 0) (rest := [.ref (mw_ad G 0)]) C A hw hs (tX11_init l G 300 _ _ _ hc1) wd_35 wd_36 cwX11_init rfl rfl rfl ⟨Nat.le_of_ble_eq_true rfl, Nat.le_of_ble_eq_true rfl⟩ hl.1 (Nat.le_of_ble_eq_true rfl) dL_law_4 ⟨Nat.le_of_ble_eq_true rfl, Nat.le_of_ble_eq_true rfl⟩ (fun H locs hw _ => ?_)
  refine W.widen (k := 732) (n := 229084) (Nat.le_of_ble_eq_true rfl) (Nat.le_of_ble_eq_true rfl) ?_
  refine lv_astore_n (lv' := [(1, .ref (mw_ad G 0)), (0, .ref b)]) C.1.1 C.1.2.1 dL_law_7 rfl hl (by decide) rfl (fun ls hl => ?_)
  refine mw_size hw (by omega) (fun hs => ?_)
  refine mr_new C hw hs kc_19 tf_732 wd_1942 wd_1943 wd_13 (by decide +kernel) (Nat.le_of_ble_eq_true rfl) (Nat.le_of_ble_eq_true rfl) dL_law_8 (fun H hw _ => ?_)
  refine W.widen (k := 733) (n := 229196) (Nat.le_of_ble_eq_true rfl) (Nat.le_of_ble_eq_true rfl) ?_
  refine lv_dup C.1.1 C.1.2.1 dL_law_11 rfl ?_
  refine mw_size hw (by omega) (fun hs => ?_)
  refine mc_init (k := 732) (rest := [.ref (mw_ad G 732)]) C A hw hs (tX19_init l G 300 _ _ _ hc2) wd_1944 wd_1945 cwX19_init rfl rfl rfl ⟨Nat.le_of_ble_eq_true rfl, Nat.le_of_ble_eq_true rfl⟩ hl.1 (Nat.le_of_ble_eq_true rfl) dL_law_12 ⟨Nat.le_of_ble_eq_true rfl, Nat.le_of_ble_eq_true rfl⟩ (fun H locs hw _ => ?_)
  refine W.widen (k := 1577) (n := 1281689) (Nat.le_of_ble_eq_true rfl) (Nat.le_of_ble_eq_true rfl) ?_
  refine lv_astore_n (lv' := [(2, .ref (mw_ad G 732)), (1, .ref (mw_ad G 0)), (0, .ref b)]) C.1.1 C.1.2.1 dL_law_15 rfl hl (by decide) rfl (fun ls hl => ?_)
  refine lv_iconst (v := 1) C.1.1 C.1.2.1 dL_law_16 (by decide) ?_
  refine mw_size hw (by omega) (fun hs => ?_)
  refine mr_newL (n := 1) C hw hs tf_1577 wd_509 (by decide) (by decide) (by decide) (Nat.le_of_ble_eq_true rfl) (Nat.le_of_ble_eq_true rfl) dL_law_17 (fun H hw _ => ?_)
  refine W.widen (k := 1578) (n := 1281690) (Nat.le_of_ble_eq_true rfl) (Nat.le_of_ble_eq_true rfl) ?_
  refine lv_astore_n (lv' := [(3, .ref (mw_ad G 1577)), (2, .ref (mw_ad G 732)), (1, .ref (mw_ad G 0)), (0, .ref b)]) C.1.1 C.1.2.1 dL_law_19 rfl hl (by decide) rfl (fun ls hl => ?_)
  have hw : mw_W G (mw_ad G) NF TF FF M2 (mz 0 L2 1577) H locs := mw_refF hw hcp
  exact twL_law G 200000 513 L xs M2 (mz 0 L2 1577) hst hD C KX hr hlocks (by rw [hG]; exact hX) (by rw [hG]; exact hbl) hG 1578 1281690 (by decide) (by decide) H locs ls hw (lv_sub hl [3, 2, 1, 0] rfl)
