/-! METHODS THAT THROW, over the world of numbered cells: what they need of the machine, how they end, how they are called and caught -/
section
theorem mx_bad_mv {k : Nat} {w : Cond} {u U : State} (hw : w ∈ mx_bad k) (hvm : u.vm.Alike U.vm) (h : w.before #[] u = true) {a : Array Value} : w.before a U = true := by
  have hd : ∀ x : MethodName, (Cond.declares x).before #[] u = true → (Cond.declares x).before a U = true := fun x h9 => by
    have h2 : (Cond.declares x).before #[] (u.setVm U.vm) = true := by
      have h3 := Cond.declares_setVm (args := #[]) (s := u) (vm' := U.vm) hvm (x := x)
      exact h3.trans h9
    exact va_tabs (u := u.setVm U.vm) rfl rfl h2
  simp only [mx_bad, List.mem_cons, List.not_mem_nil, or_false] at hw
  rcases hw with rfl | rfl | rfl | rfl
  · simp only [Cond.before, Cond.holds, Cond.value] at h ⊢
    simp only [hvm.findClass, hvm.assignable]
    exact h
  · exact hd _ h
  · exact hd _ h
  · exact hd _ h
def mw_KX (G : mwG) (U : State) : Prop := vx_Zq Bundle.tN "UNASSIGNED_STACK" Bundle.steD (mw_fr G) U G.2.2.2 ∧ vx_Zq Bundle.tN "SUPPRESSED_SENTINEL" Bundle.listD (mw_fr G) U G.2.2.2 ∧ (∀ x ∈ mx_strs, ∃ sa, vk_R "CarHouse" x.1 x.2 sa U) ∧ (∀ k, ∀ w ∈ mx_bad k, w.before #[] U = true) ∧ va_Nc (mx_E 1) (mx_E 2) U ∧ va_Nc (mx_E 2) (mx_E 3) U ∧ va_Nc (mx_E 1) (mx_E 3) U
theorem mw_KX.warm {G : mwG} {s U : State} (hW : s.WarmedH U.vm) (h : mw_KX G s) : mw_KX G U :=
  ⟨vx_Zq.moved hW.alike h.1, vx_Zq.moved hW.alike h.2.1, fun x hx => (h.2.2.1 x hx).imp (fun _ q => vk_R.warm hW q), fun k w hw => mx_bad_mv hw hW.alike (h.2.2.2.1 k w hw), va_Nc.moved hW.alike h.2.2.2.2.1, va_Nc.moved hW.alike h.2.2.2.2.2.1, va_Nc.moved hW.alike h.2.2.2.2.2.2⟩
theorem mw_KX.same {G : mwG} {u U : State} (hv : u.vm = U.vm) (h : mw_KX G u) : mw_KX G U := by
  have ha : u.vm.Alike U.vm := by rw [hv]; exact Vm.Alike.refl _
  exact ⟨vx_Zq.moved ha h.1, vx_Zq.moved ha h.2.1, fun x hx => (h.2.2.1 x hx).imp (fun _ q => vk_R.same hv.symm q), fun k w hw => mx_bad_mv hw ha (h.2.2.2.1 k w hw), va_Nc.moved ha h.2.2.2.2.1, va_Nc.moved ha h.2.2.2.2.2.1, va_Nc.moved ha h.2.2.2.2.2.2⟩
theorem mx_cast {G : mwG} {s : State} {args : Array Value} (KX : mw_KX G s) (k : Nat) : (Cond.castable (mx_E k) (mx_E k)).before args s = true := mx_bad_mv List.mem_cons_self (Vm.Alike.refl _) (KX.2.2.2.1 k _ List.mem_cons_self)
theorem mx_zI {α : Type} {k : Nat} {r : α} {M M0 : mwM} {L L0 : mwL} {z0 : Nat × α} (h : some ((k, r), M, L) = some (z0, M0, L0)) (hk : k ≠ 0) : z0.1 ≠ 0 ∧ mx_E k = mx_E z0.1 ∧ M = M0 ∧ L = L0 := by
  cases h
  exact ⟨hk, rfl, rfl, rfl⟩
theorem mx_zV {k : Nat} {M M0 : mwM} {L L0 : mwL} {z0 : Nat} (h : some (k, M, L) = some (z0, M0, L0)) (hk : k ≠ 0) : z0 ≠ 0 ∧ mx_E k = mx_E z0 ∧ M = M0 ∧ L = L0 := by
  cases h
  exact ⟨hk, rfl, rfl, rfl⟩
def mx_Pre (G : mwG) (ad : Nat → Nat) (N : Nat) (T : mwT) (F : mwF) (M : mwM) (L : mwL) (av : List Value) : Array Value → State → Prop := fun v U => v = av.toArray ∧ mw_W G ad N T F M L U.heap [] ∧ mw_K G U ∧ mw_KX G U
def mx_eqI (z0 : Nat × Int32) (M0 : mwM) (L0 : mwL) : Int32 → mwM → mwL → Prop := fun r M L => ((0, r), M, L) = (z0, M0, L0)
def mx_eqL (z0 : Nat × Int64) (M0 : mwM) (L0 : mwL) : Int64 → mwM → mwL → Prop := fun r M L => ((0, r), M, L) = (z0, M0, L0)
def mx_eqV (z0 : Nat) (M0 : mwM) (L0 : mwL) : mwM → mwL → Prop := fun M L => (0, M, L) = (z0, M0, L0)
def mx_XC (G : mwG) (ad : Nat → Nat) (N : Nat) (T : mwT) (F : mwF) (z : Nat) (M0 : mwM) (L0 : mwL) : String → State → State → Prop := fun E _ t => z ≠ 0 ∧ E = mx_E z ∧ mw_W G ad N T F M0 L0 t.heap []
section MX
variable {p : Program} {l : Launch} {e : Env} {R : Room} {s : State} {m : MethodId} {args : Array Value} {below : List Frame} {meth : Method} {c : Code} {H : Heap} {locs : List Loc} {cells slots : Nat} {Q : State → Prop}
variable {cc : ByteArray} {pc nL : Nat} {ls : Array Slot} {rest : List Value} {own : String}
variable {G : mwG} {ad : Nat → Nat} {N : Nat} {T : mwT} {F : mwF} {M : mwM} {L : mwL}
variable {ci n idx : Nat} {Tt : u_T} {ty : Nat → FieldType}
variable {y : MethodName} {bytes : ByteArray} {maxL na : Nat} {ret : Option FieldType} {rm : Room} {As : List Value}
theorem mx_blind {av : List Value} : FrameBlind (mx_Pre G ad N T F M L av) := fun a U g mk h => ⟨h.1, h.2.1, mw_K.same (u := U) (U := U.calling g mk a) rfl h.2.2.1, mw_KX.same (u := U) (U := U.calling g mk a) rfl h.2.2.2⟩
theorem mx_enter {mc ms : Nat} {av : List Value} {Qc : Array Value → State → Outcome → State → Prop} {XC : String → State → State → Prop} (hy : plainName y.cls = true) (hav : (lg_sl av).length ≤ maxL)
    (body : ∀ (p : Program) (e : Env) (s : State) (m : MethodId) (below : List Frame) (meth : Method) (c : Code) (ls : Array Slot), mw_C p m c cc maxL s av.toArray y.cls G → mw_KX G s → meth.sig.returnType = ret → meth.locks = false → (∀ x ∈ c.exceptionTable.toList, False) → mw_W G ad N T F M L s.heap [] → lv_has ls maxL (lv_args 0 av) →
      W p l e rm s m av.toArray below meth c s.heap [] 0 0 (vx_MQ below Qc XC av.toArray s mc ms (mw_fr G)) (F0 m 0 ls [])) : vx_Met l y (Cond.code y cc maxL ret :: GT) rm (mx_Pre G ad N T F M L av) Qc XC mc ms (mw_fr G) := by
  refine vx_ofW (cc := cc) (maxL := maxL) (ret := ret) hy rfl ?_
  intro p e s m args below meth c s₁ B hml ht hv
  obtain ⟨rfl, hw, hK, hX⟩ := hv
  have hts := atoms_spec (ws := Cond.code y cc maxL ret :: GT) B.pre
  have hl := lv_entry av (n := maxL) hav
  rw [lg_entry_eq]
  exact body p e s m below meth c _ ⟨⟨B.exec, B.bytes, hml, findClass_of_methodNamed B.named, fun w h => hts w (List.mem_cons_of_mem _ h)⟩, hK⟩ hX B.returns B.notSynchronized ht hw hl
theorem mx_enterW {mc ms : Nat} {hh : List (Nat × Nat × Nat × Nat)} {av : List Value} {Qc : Array Value → State → Outcome → State → Prop} (hy : plainName y.cls = true) (hav : (lg_sl av).length ≤ maxL)
    (body : ∀ (p : Program) (e : Env) (s : State) (m : MethodId) (below : List Frame) (meth : Method) (c : Code) (ls : Array Slot), mw_C p m c cc maxL s av.toArray y.cls G → mw_KX G s → meth.sig.returnType = ret → meth.locks = false → c.exceptionTable.toList = tableOf hh → mw_W G ad N T F M L s.heap [] → lv_has ls maxL (lv_args 0 av) →
      W p l e rm s m av.toArray below meth c s.heap [] 0 0 (MQ below Qc av.toArray s mc ms (mw_fr G)) (F0 m 0 ls [])) : Met l y (Cond.codeWith y cc maxL ret hh :: GT) rm (mx_Pre G ad N T F M L av) Qc mc ms (mw_fr G) := by
  refine va_MetW (cc := cc) (maxL := maxL) (ret := ret) (hh := hh) hy rfl ?_
  intro p e s m args below meth c s₁ B hml hv
  obtain ⟨rfl, hw, hK, hX⟩ := hv
  have hts := atoms_spec (ws := Cond.codeWith y cc maxL ret hh :: GT) B.pre
  have hl := lv_entry av (n := maxL) hav
  rw [lg_entry_eq]
  exact body p e s m below meth c _ ⟨⟨B.exec, B.bytes, hml, findClass_of_methodNamed B.named, fun w h => hts w (List.mem_cons_of_mem _ h)⟩, hK⟩ hX B.returns B.notSynchronized (vx_table (x := y) B (hts _ List.mem_cons_self)) hw hl
theorem mx_Zq {C n d : String} (h0 : mw_W G ad N T F M L s.heap []) (hU : vx_Zq C n d (mw_fr G) s G.2.2.2) : vx_Zq C n d (mw_fr G) s s.heap := hU.kept (fun a h1 h2 => h0.2.2.2.1 a h1 h2)
theorem mx_grow (h : mw_W G ad N T F M L H locs) {H1 : Heap} (hz : H.size ≤ H1.size) (hq : ∀ q : Nat, q < H.size → H1[q]? = H[q]?) : mw_W G ad N T F M L H1 [] :=
  ⟨h.1.kept (fun _ q hk => hq q.1 (vx_lt h.1 hk)), h.2.1, Nat.le_trans h.2.2.1 hz, fun q h1 h2 => (hq q (Nat.lt_of_lt_of_le h1 h.2.2.1)).trans (h.2.2.2.1 q h1 h2), fun _ q => by cases q⟩
theorem mx_throwS {M1 : mwM} {L1 : mwL} {text : String} {ik is ic k mc ms : Nat} {Qc : Array Value → State → Outcome → State → Prop} {z0 : Nat} {M0 : mwM} {L0 : mwL} (hst : l.stackTraces = false) (C : mw_C p m c cc nL s args "CarHouse" G) (KX : mw_KX G s) (h0 : mw_W G ad N T F M1 L1 s.heap []) (h : mw_W G ad N T F M L H locs) (hex : ∀ x ∈ c.exceptionTable.toList, False) (hlocks : meth.locks = false)
    (hcls : Bundle.fit (mx_E k) = true) (hk : Cond.classLink "CarHouse" ik (mx_E k) ∈ GT) (hini : Cond.initialized (mx_E k) ∈ GT) (htx : (is, text) ∈ mx_strs) (hat : ∀ w ∈ vx_atS "CarHouse" ic (mx_E k) mx_up, w ∈ GT ∨ w ∈ mx_bad k) (hsz : ls.size = nL)
    (d0 : decode cc pc = .ok (.new ik, 3)) (d3 : decode cc (pc + 3) = .ok (.dup, 1)) (d4 : decode cc (pc + 4) = .ok (.ldc is, 2)) (d6 : decode cc (pc + 6) = .ok (.invokespecial ic, 3)) (d9 : decode cc (pc + 9) = .ok (.athrow, 1))
    (hRf : 8 ≤ R.frames) (hRl : 100 ≤ R.locals) (hRc : cells + 1 ≤ R.cells) (hRs : slots + 6 ≤ R.slots) (hz : z0 ≠ 0 ∧ mx_E k = mx_E z0 ∧ M = M0 ∧ L = L0) (hc : cells + 1 ≤ mc) (hs : slots + 6 ≤ ms) :
    W p l e R s m args below meth c H locs cells slots (vx_MQ below Qc (mx_XC G ad N T F z0 M0 L0) args s mc ms (mw_fr G)) (F0 m pc ls []) := by
  obtain ⟨sa, hsa⟩ := KX.2.2.1 _ htx
  intro T9 hT9 X9
  have hS := mx_S X9 hT9 h0 h
  obtain ⟨z1, z2, rfl, rfl⟩ := hz
  have hw : ∀ w ∈ vx_atS "CarHouse" ic (mx_E k) mx_up, w.before args s = true := fun w hw => (hat w hw).elim (C.1.2.2.2.2 w) (fun q => mx_bad_mv q (Vm.Alike.refl _) (KX.2.2.2.1 k w q))
  refine vx_throwS (names := mx_up) (own := "CarHouse") (cls := mx_E k) (text := text) C.1.1 C.1.2.1 hst C.1.2.2.2.1 hcls (by decide) (C.1.2.2.2.2 _ hk) (C.1.2.2.2.2 _ hini) hsa hw ?_ (mx_Zq h0 KX.1) (mx_Zq h0 KX.2.1) hS (hsz.trans C.1.2.2.1.symm) d0 d3 d4 d6 d9 (fun x hx => (hex x hx).elim) (Nat.lt_of_lt_of_le (by decide) hRf) (Nat.le_trans (by decide) hRl) hRc hRs hlocks (fun t ht hz9 hq => ?_) h.locs hc hs T9 hT9 X9
  · intro w hw9
    rcases List.mem_cons.mp hw9 with rfl | hw9
    · rfl
    rcases List.mem_cons.mp hw9 with rfl | hw9
    · rfl
    rcases hat w hw9 with q | q
    · have := (List.mem_filter.mp q).2
      simp only [vx_ot, this, Bool.or_true]
    · simp only [mx_bad, List.mem_cons, List.not_mem_nil, or_false] at q
      rcases q with rfl | rfl | rfl | rfl <;> rfl
  · refine ⟨z1, z2, ?_⟩
    exact mx_grow h hz9 hq
theorem mx_throwSW {M1 : mwM} {L1 : mwL} {text : String} {ik is ic k mc ms : Nat} {Qc : Array Value → State → Outcome → State → Prop} {z0 : Nat} {M0 : mwM} {L0 : mwL} (hst : l.stackTraces = false) (C : mw_C p m c cc nL s args "CarHouse" G) (KX : mw_KX G s) (h0 : mw_W G ad N T F M1 L1 s.heap []) (h : mw_W G ad N T F M L H locs) (hex : ∀ x ∈ c.exceptionTable.toList, False) (hlocks : meth.locks = false)
    (hcls : Bundle.fit (mx_E k) = true) (hk : Cond.classLink "CarHouse" ik (mx_E k) ∈ GT) (hini : Cond.initialized (mx_E k) ∈ GT) (htx : (is, text) ∈ mx_strs) (hat : ∀ w ∈ vx_atS "CarHouse" ic (mx_E k) mx_up, w ∈ GT ∨ w ∈ mx_bad k) (hsz : ls.size = nL)
    (d0 : decode cc pc = .ok (.new ik, 3)) (d3 : decode cc (pc + 3) = .ok (.dup, 1)) (d4 : decode cc (pc + 4) = .ok (.ldc_w is, 3)) (d6 : decode cc (pc + 7) = .ok (.invokespecial ic, 3)) (d9 : decode cc (pc + 10) = .ok (.athrow, 1))
    (hRf : 8 ≤ R.frames) (hRl : 100 ≤ R.locals) (hRc : cells + 1 ≤ R.cells) (hRs : slots + 6 ≤ R.slots) (hz : z0 ≠ 0 ∧ mx_E k = mx_E z0 ∧ M = M0 ∧ L = L0) (hc : cells + 1 ≤ mc) (hs : slots + 6 ≤ ms) :
    W p l e R s m args below meth c H locs cells slots (vx_MQ below Qc (mx_XC G ad N T F z0 M0 L0) args s mc ms (mw_fr G)) (F0 m pc ls []) := by
  obtain ⟨sa, hsa⟩ := KX.2.2.1 _ htx
  intro T9 hT9 X9
  have hS := mx_S X9 hT9 h0 h
  obtain ⟨z1, z2, rfl, rfl⟩ := hz
  have hw : ∀ w ∈ vx_atS "CarHouse" ic (mx_E k) mx_up, w.before args s = true := fun w hw => (hat w hw).elim (C.1.2.2.2.2 w) (fun q => mx_bad_mv q (Vm.Alike.refl _) (KX.2.2.2.1 k w q))
  refine vx_throwSW (names := mx_up) (own := "CarHouse") (cls := mx_E k) (text := text) C.1.1 C.1.2.1 hst C.1.2.2.2.1 hcls (by decide) (C.1.2.2.2.2 _ hk) (C.1.2.2.2.2 _ hini) hsa hw ?_ (mx_Zq h0 KX.1) (mx_Zq h0 KX.2.1) hS (hsz.trans C.1.2.2.1.symm) d0 d3 d4 d6 d9 (fun x hx => (hex x hx).elim) (Nat.lt_of_lt_of_le (by decide) hRf) (Nat.le_trans (by decide) hRl) hRc hRs hlocks (fun t ht hz9 hq => ?_) h.locs hc hs T9 hT9 X9
  · intro w hw9
    rcases List.mem_cons.mp hw9 with rfl | hw9
    · rfl
    rcases List.mem_cons.mp hw9 with rfl | hw9
    · rfl
    rcases hat w hw9 with q | q
    · have := (List.mem_filter.mp q).2
      simp only [vx_ot, this, Bool.or_true]
    · simp only [mx_bad, List.mem_cons, List.not_mem_nil, or_false] at q
      rcases q with rfl | rfl | rfl | rfl <;> rfl
  · refine ⟨z1, z2, ?_⟩
    exact mx_grow h hz9 hq
-- a method that may throw is called
theorem mx_preV {k : Nat} (C : mw_C p m c cc nL s args own G) (KX : mw_KX G s) (h : mw_W G ad N T F M L H locs) (kc : mw_kc ci y.cls Tt ty n) (hk : k < N) (hT : T k = (11 + ci, n)) : PreV s H y.cls (ad k) (mx_Pre G ad N T F M L (.ref (ad k) :: As)) As := by
  refine ⟨mx_blind, ?_, fun U hU hW => ⟨rfl, by rw [hU]; exact h.drop, C.2.warm hW, KX.warm hW⟩⟩
  have he : (mw_l mw_fk G.2.2.1 ad T M L F N)[k]? = some (ad k, .inr (ci, (List.range n).map (mw_fv mw_fk ad M L F ci k))) := by rw [mw_at hk, mw_ceO hT]
  exact va_recv C.2.1 h.1 kc.1 he
theorem mx_run {k : Nat} {Qc : Array Value → State → Outcome → State → Prop} {XC : String → State → State → Prop} {mc ms : Nat} (C : mw_C p m c cc nL s args own G) (KX : mw_KX G s) (h : mw_W G ad N T F M L H locs) (hM : vx_Met l y (Cond.code y bytes maxL ret :: GT) rm (mx_Pre G ad N T F M L (.ref (ad k) :: As)) Qc XC mc ms (mw_fr G))
    (kc : mw_kc ci y.cls Tt ty n) (hk : k < N) (hT : T k = (11 + ci, n)) (ml : Cond.methodLink own idx y ∈ GT) (cw : mw_cwV y bytes maxL ret na) (hR : rm.frames + 1 ≤ R.frames ∧ 8 + (maxL + 11) + rm.locals ≤ R.locals)
    (hn : As.length = na) (hl : ls.size = nL) (hc : (rest.map fun v => v.category).sum ≤ 8) (hdg : decode cc pc = .ok (.invokevirtual idx, 3)) (hrc : rm.cells = mc) (hrs : rm.slots = ms) (hf : cells + mc ≤ R.cells ∧ slots + ms ≤ R.slots)
    (kx : ∀ (E : String) (ce : Cell) (q9 : Addr) (st₀ t : State) (locs1 : List Loc), (∀ q ∈ locs1, mw_fr G q.base) → XC E st₀ t → t.heap[q9]? = some ce → ce.vm = .none → s.vm.findClass E = some ce.cls → vx_W p l e R s m args below meth c t.heap locs1 (cells + mc) (slots + ms) Q (F0 m pc ls rest) q9)
    (kk : ∀ (v : Option Value) (st₀ t : State) (locs1 : List Loc), (∀ q ∈ locs1, mw_fr G q.base) → Qc (Value.ref (ad k) :: As).toArray st₀ (.returned v) t → W p l e R s m args below meth c t.heap locs1 (cells + mc) (slots + ms) Q (F0 m (pc + 3) ls (v.toList ++ rest))) : W p l e R s m args below meth c H locs cells slots Q (F0 m pc ls (As.reverse ++ .ref (ad k) :: rest)) := by
  have hr := vx_runV (C := y.cls) (g := F0 m pc ls (As.reverse ++ .ref (ad k) :: rest)) (rest := rest) (e := e) (below := below) (meth := meth) (locs := locs) C.1 hM ⟨mw_callB C ml cw.1.1 cw.1.2.1 hrc hrs cw.1.2.2 hR, C.1.2.2.2.2 _ cw.2.1, C.1.2.2.2.2 _ cw.2.2⟩ (mx_preV C KX h kc hk hT) rfl hn hl rfl (lv_room hc) hdg hf
  intro T9 hT9 X9
  rcases hr T9 hT9 X9 with ⟨v, st₀, t, T', Lc, h0, X', hL, e1, e2, hq, st⟩ | ⟨q, st₀, t, T', Lc, E, ce, h0, X', hL, e1, e2, hq, hce, hcv, hcl, st⟩
  · obtain ⟨t2, a1, b1⟩ := kk v st₀ t (locs ++ Lc) (fun q h9 => (List.mem_append.mp h9).elim (h.locs q) (hL q)) hq T' e1 X'
    exact ⟨t2, st t2 a1, b1⟩
  · obtain ⟨t2, a1, b1⟩ := kx E ce q st₀ t (locs ++ Lc) (fun q h9 => (List.mem_append.mp h9).elim (h.locs q) (hL q)) hq hce hcv hcl T' e1 X'
    exact ⟨t2, st.trans a1, b1⟩
theorem mx_cvI {k : Nat} {z0 : Nat × Int32} {M0 : mwM} {L0 : mwL} (C : mw_C p m c cc nL s args own G) (KX : mw_KX G s) (h : mw_W G ad N T F M L H locs) (hM : vx_Met l y (Cond.code y bytes maxL ret :: GT) rm (mx_Pre G ad N T F M L (.ref (ad k) :: As)) (mw_Qi G ad N T F (mx_eqI z0 M0 L0)) (mx_XC G ad N T F z0.1 M0 L0) 1 6 (mw_fr G))
    (kc : mw_kc ci y.cls Tt ty n) (hk : k < N) (hT : T k = (11 + ci, n)) (ml : Cond.methodLink own idx y ∈ GT) (cw : mw_cwV y bytes maxL ret na) (hR : rm.frames + 1 ≤ R.frames ∧ 8 + (maxL + 11) + rm.locals ≤ R.locals)
    (hn : As.length = na) (hl : ls.size = nL) (hc : (rest.map fun v => v.category).sum ≤ 8) (hdg : decode cc pc = .ok (.invokevirtual idx, 3)) (hrc : rm.cells = 1) (hrs : rm.slots = 6) (hf : cells + 1 ≤ R.cells ∧ slots + 6 ≤ R.slots) {st0 : List Value} (hst : st0 = As.reverse ++ .ref (ad k) :: rest)
    (kx : ∀ (H1 : Heap) (locs1 : List Loc) (ce : Cell) (q9 : Addr), z0.1 ≠ 0 → mw_W G ad N T F M0 L0 H1 locs1 → H1[q9]? = some ce → ce.vm = .none → s.vm.findClass (mx_E z0.1) = some ce.cls → vx_W p l e R s m args below meth c H1 locs1 (cells + 1) (slots + 6) Q (F0 m pc ls rest) q9)
    (kk : ∀ (H1 : Heap) (locs1 : List Loc), z0.1 = 0 → mw_W G ad N T F M0 L0 H1 locs1 → W p l e R s m args below meth c H1 locs1 (cells + 1) (slots + 6) Q (F0 m (pc + 3) ls (.int z0.2 :: rest))) : W p l e R s m args below meth c H locs cells slots Q (F0 m pc ls st0) := by
  subst hst
  refine mx_run C KX h hM kc hk hT ml cw hR hn hl hc hdg hrc hrs hf (fun E ce q9 st₀ t locs1 hl1 hq hce hcv hcl => ?_) (fun v st₀ t locs1 hl1 hq => ?_)
  · obtain ⟨hz, rfl, hw⟩ := hq
    exact kx t.heap locs1 ce q9 hz (hw.with hl1) hce hcv hcl
  · obtain ⟨r, M1, L1, ho, hp, hw⟩ := hq
    cases ho
    cases hp
    exact kk t.heap locs1 rfl (hw.with hl1)
theorem mx_cvL {k : Nat} {z0 : Nat × Int64} {M0 : mwM} {L0 : mwL} (C : mw_C p m c cc nL s args own G) (KX : mw_KX G s) (h : mw_W G ad N T F M L H locs) (hM : vx_Met l y (Cond.code y bytes maxL ret :: GT) rm (mx_Pre G ad N T F M L (.ref (ad k) :: As)) (mw_Ql G ad N T F (mx_eqL z0 M0 L0)) (mx_XC G ad N T F z0.1 M0 L0) 1 6 (mw_fr G))
    (kc : mw_kc ci y.cls Tt ty n) (hk : k < N) (hT : T k = (11 + ci, n)) (ml : Cond.methodLink own idx y ∈ GT) (cw : mw_cwV y bytes maxL ret na) (hR : rm.frames + 1 ≤ R.frames ∧ 8 + (maxL + 11) + rm.locals ≤ R.locals)
    (hn : As.length = na) (hl : ls.size = nL) (hc : (rest.map fun v => v.category).sum ≤ 8) (hdg : decode cc pc = .ok (.invokevirtual idx, 3)) (hrc : rm.cells = 1) (hrs : rm.slots = 6) (hf : cells + 1 ≤ R.cells ∧ slots + 6 ≤ R.slots) {st0 : List Value} (hst : st0 = As.reverse ++ .ref (ad k) :: rest)
    (kx : ∀ (H1 : Heap) (locs1 : List Loc) (ce : Cell) (q9 : Addr), z0.1 ≠ 0 → mw_W G ad N T F M0 L0 H1 locs1 → H1[q9]? = some ce → ce.vm = .none → s.vm.findClass (mx_E z0.1) = some ce.cls → vx_W p l e R s m args below meth c H1 locs1 (cells + 1) (slots + 6) Q (F0 m pc ls rest) q9)
    (kk : ∀ (H1 : Heap) (locs1 : List Loc), z0.1 = 0 → mw_W G ad N T F M0 L0 H1 locs1 → W p l e R s m args below meth c H1 locs1 (cells + 1) (slots + 6) Q (F0 m (pc + 3) ls (.long z0.2 :: rest))) : W p l e R s m args below meth c H locs cells slots Q (F0 m pc ls st0) := by
  subst hst
  refine mx_run C KX h hM kc hk hT ml cw hR hn hl hc hdg hrc hrs hf (fun E ce q9 st₀ t locs1 hl1 hq hce hcv hcl => ?_) (fun v st₀ t locs1 hl1 hq => ?_)
  · obtain ⟨hz, rfl, hw⟩ := hq
    exact kx t.heap locs1 ce q9 hz (hw.with hl1) hce hcv hcl
  · obtain ⟨r, M1, L1, ho, hp, hw⟩ := hq
    cases ho
    cases hp
    exact kk t.heap locs1 rfl (hw.with hl1)
theorem mx_cvV {k : Nat} {z0 : Nat} {M0 : mwM} {L0 : mwL} (C : mw_C p m c cc nL s args own G) (KX : mw_KX G s) (h : mw_W G ad N T F M L H locs) (hM : vx_Met l y (Cond.code y bytes maxL ret :: GT) rm (mx_Pre G ad N T F M L (.ref (ad k) :: As)) (mw_Qv G ad N T F (mx_eqV z0 M0 L0)) (mx_XC G ad N T F z0 M0 L0) 1 6 (mw_fr G))
    (kc : mw_kc ci y.cls Tt ty n) (hk : k < N) (hT : T k = (11 + ci, n)) (ml : Cond.methodLink own idx y ∈ GT) (cw : mw_cwV y bytes maxL ret na) (hR : rm.frames + 1 ≤ R.frames ∧ 8 + (maxL + 11) + rm.locals ≤ R.locals)
    (hn : As.length = na) (hl : ls.size = nL) (hc : (rest.map fun v => v.category).sum ≤ 8) (hdg : decode cc pc = .ok (.invokevirtual idx, 3)) (hrc : rm.cells = 1) (hrs : rm.slots = 6) (hf : cells + 1 ≤ R.cells ∧ slots + 6 ≤ R.slots) {st0 : List Value} (hst : st0 = As.reverse ++ .ref (ad k) :: rest)
    (kx : ∀ (H1 : Heap) (locs1 : List Loc) (ce : Cell) (q9 : Addr), z0 ≠ 0 → mw_W G ad N T F M0 L0 H1 locs1 → H1[q9]? = some ce → ce.vm = .none → s.vm.findClass (mx_E z0) = some ce.cls → vx_W p l e R s m args below meth c H1 locs1 (cells + 1) (slots + 6) Q (F0 m pc ls rest) q9)
    (kk : ∀ (H1 : Heap) (locs1 : List Loc), z0 = 0 → mw_W G ad N T F M0 L0 H1 locs1 → W p l e R s m args below meth c H1 locs1 (cells + 1) (slots + 6) Q (F0 m (pc + 3) ls rest)) : W p l e R s m args below meth c H locs cells slots Q (F0 m pc ls st0) := by
  subst hst
  refine mx_run C KX h hM kc hk hT ml cw hR hn hl hc hdg hrc hrs hf (fun E ce q9 st₀ t locs1 hl1 hq hce hcv hcl => ?_) (fun v st₀ t locs1 hl1 hq => ?_)
  · obtain ⟨hz, rfl, hw⟩ := hq
    exact kx t.heap locs1 ce q9 hz (hw.with hl1) hce hcv hcl
  · obtain ⟨M1, L1, ho, hp, hw⟩ := hq
    cases ho
    cases hp
    exact kk t.heap locs1 rfl (hw.with hl1)
/-- a wrapper of the law is called: a static method with a table of its own -/
def mx_cwS (y : MethodName) (bytes : ByteArray) (maxL : Nat) (ret : Option FieldType) (hh : List (Nat × Nat × Nat × Nat)) (na : Nat) : Prop := Cond.initialized y.cls ∈ GT ∧ Cond.codeWith y bytes maxL ret hh ∈ GT ∧ (y.cls ≠ "java/lang/invoke/MethodHandle" ∧ y.cls ≠ "java/lang/invoke/VarHandle" ∧ (parseMethodDescriptor y.desc).map (fun d => d.parameters.length) = some na) ∧ Cond.static y ∈ GT
theorem mx_csI {hh : List (Nat × Nat × Nat × Nat)} {r0 : Int32} {M0 : mwM} {L0 : mwL} (C : mw_C p m c cc nL s args own G) (KX : mw_KX G s) (h : mw_W G ad N T F M L H locs) (hM : Met l y (Cond.codeWith y bytes maxL ret hh :: GT) rm (mx_Pre G ad N T F M L As) (mw_Qi G ad N T F (mw_eqI r0 M0 L0)) 1 6 (mw_fr G))
    (ml : Cond.methodLink own idx y ∈ GT) (cw : mx_cwS y bytes maxL ret hh na) (hR : rm.frames + 1 ≤ R.frames ∧ 8 + (maxL + 11) + rm.locals ≤ R.locals)
    (hn : As.length = na) (hl : ls.size = nL) (hc : (rest.map fun v => v.category).sum ≤ 8) (hdg : decode cc pc = .ok (.invokestatic idx, 3)) (hrc : rm.cells = 1) (hrs : rm.slots = 6) (hf : cells + 1 ≤ R.cells ∧ slots + 6 ≤ R.slots) {st0 : List Value} (hst : st0 = As.reverse ++ rest)
    (kk : ∀ (H1 : Heap) (locs1 : List Loc), mw_W G ad N T F M0 L0 H1 locs1 → W p l e R s m args below meth c H1 locs1 (cells + 1) (slots + 6) Q (F0 m (pc + 3) ls (.int r0 :: rest))) : W p l e R s m args below meth c H locs cells slots Q (F0 m pc ls st0) := by
  subst hst
  refine mr_call (va_Run.run (vx_runSW (hh := hh) (As := As) (rest := rest) C.1 hM ⟨⟨hrc, hrs, hR.1, hR.2, pay_in C.1.2.2.2.2 (mw_goodc cw.2.1), List.mem_cons_self⟩, C.1.2.2.2.2 _ cw.2.1, C.1.2.2.2.2 _ cw.1, ⟨cw.2.2.1.1, cw.2.2.1.2.1⟩, fun sig h9 => ?_, C.1.2.2.2.2 _ ml, C.1.2.2.2.2 _ cw.2.2.2⟩ ⟨mx_blind, fun U hU hW => ⟨rfl, by rw [hU]; exact h.drop, C.2.warm hW, KX.warm hW⟩⟩ rfl hn hl rfl (lv_room hc) hdg hf)) h.locs (fun v st₀ t locs1 hl1 hq => ?_)
  · have h2 := cw.2.2.1.2.2
    rw [h9] at h2
    exact (Option.some.inj h2).symm
  · obtain ⟨r, M1, L1, ho, hp, hw⟩ := hq
    cases ho
    cases hp
    exact kk t.heap locs1 (hw.with hl1)
end MX
end
