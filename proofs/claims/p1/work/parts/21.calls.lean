/-! CALLS over the world of numbered cells -/
section MCALL
variable {p : Program} {l : Launch} {e : Env} {R : Room} {s : State} {m : MethodId} {args : Array Value} {below : List Frame} {meth : Method} {c : Code} {H : Heap} {locs : List Loc} {cells slots : Nat} {Q : State → Prop}
variable {cc : ByteArray} {pc nL : Nat} {ls : Array Slot} {rest : List Value} {own : String}
variable {G : mwG} {ad : Nat → Nat} {N : Nat} {T : mwT} {F : mwF} {M : mwM} {L : mwL}
variable {ci n idx : Nat} {Cs : String} {Tt : u_T} {ty : Nat → FieldType}
variable {y : MethodName} {bytes : ByteArray} {maxL na : Nat} {ret : Option FieldType} {rm : Room} {As : List Value}
theorem mr_call {Qa : State → Outcome → State → Prop} {st0 : List Value} {mc ms : Nat} (hr : CallRun p l e R s m args below meth c H locs cells slots mc ms (F0 m pc ls st0) rest Qa (mw_fr G)) (hl : ∀ q ∈ locs, mw_fr G q.base)
    (kk : ∀ (v : Option Value) (st₀ t : State) (locs1 : List Loc), (∀ q ∈ locs1, mw_fr G q.base) → Qa st₀ (.returned v) t → W p l e R s m args below meth c t.heap locs1 (cells + mc) (slots + ms) Q (F0 m (pc + 3) ls (v.toList ++ rest))) : W p l e R s m args below meth c H locs cells slots Q (F0 m pc ls st0) := by
  intro T hT X
  obtain ⟨v, st₀, t, T', Lc, h0, X', hL, e1, hq, st⟩ := hr T hT X
  obtain ⟨t2, a1, b1⟩ := kk v st₀ t (locs ++ Lc) (fun q h => (List.mem_append.mp h).elim (hl q) (hL q)) hq T' e1 X'
  exact ⟨t2, st t2 a1, b1⟩
/-- the words of GT, for a callee that has them too -/
theorem mw_good : GoodIn GT GT := fun w h => ⟨h, good_of_word (List.mem_filter.mp h).2⟩
theorem mw_goodc {w0 : Cond} (h0 : w0 ∈ GT) : GoodIn GT (w0 :: GT) := fun w h => (List.mem_cons.mp h).elim (fun q => q ▸ mw_good _ h0) (mw_good w)
theorem mw_callB {mc ms : Nat} (C : mw_C p m c cc nL s args own G) (ml : Cond.methodLink own idx y ∈ GT) (ini : Cond.initialized y.cls ∈ GT) (co : Cond.code y bytes maxL ret ∈ GT) (hrc : rm.cells = mc) (hrs : rm.slots = ms)
    (hd : y.cls ≠ "java/lang/invoke/MethodHandle" ∧ y.cls ≠ "java/lang/invoke/VarHandle" ∧ (parseMethodDescriptor y.desc).map (fun d => d.parameters.length) = some na) (hR : rm.frames + 1 ≤ R.frames ∧ 8 + (maxL + 11) + rm.locals ≤ R.locals) :
    CallB R s args own idx y bytes maxL ret (Cond.code y bytes maxL ret :: GT) rm mc ms na :=
  callB_of na C.1.2.2.2.2 (mw_goodc co) rfl hrc hrs (C.1.2.2.2.2 _ ini) (C.1.2.2.2.2 _ ml) hd hR
theorem mw_pre {As : List Value} (C : mw_C p m c cc nL s args own G) (h : mw_W G ad N T F M L H locs) : PreS s H (mw_Pre G ad N T F M L As) As :=
  ⟨mw_blind, fun U hU hW => ⟨rfl, by rw [hU]; exact h.drop, C.2.warm hW⟩⟩
theorem mw_preV {k : Nat} (C : mw_C p m c cc nL s args own G) (h : mw_W G ad N T F M L H locs) (kc : mw_kc ci Cs Tt ty n) (hk : k < N) (hT : T k = (11 + ci, n)) : PreV s H Cs (ad k) (mw_Pre G ad N T F M L (.ref (ad k) :: As)) As := by
  refine ⟨mw_blind, ?_, fun U hU hW => ⟨rfl, by rw [hU]; exact h.drop, C.2.warm hW⟩⟩
  have he : (mw_l mw_fk G.2.2.1 ad T M L F N)[k]? = some (ad k, .inr (ci, (List.range n).map (mw_fv mw_fk ad M L F ci k))) := by rw [mw_at hk, mw_ceO hT]
  exact va_recv C.2.1 h.1 kc.1 he
-- a method of an object: invokevirtual
theorem mr_runV {k : Nat} {Qc : Array Value → State → Outcome → State → Prop} {mc ms : Nat} (C : mw_C p m c cc nL s args own G) (h : mw_W G ad N T F M L H locs) (hM : Met l y (Cond.code y bytes maxL ret :: GT) rm (mw_Pre G ad N T F M L (.ref (ad k) :: As)) Qc mc ms (mw_fr G))
    (kc : mw_kc ci y.cls Tt ty n) (hk : k < N) (hT : T k = (11 + ci, n)) (ml : Cond.methodLink own idx y ∈ GT) (im : Cond.instanceMethod y ∈ GT) (se : Cond.selects y.cls y y ∈ GT) (ini : Cond.initialized y.cls ∈ GT) (co : Cond.code y bytes maxL ret ∈ GT)
    (hd : y.cls ≠ "java/lang/invoke/MethodHandle" ∧ y.cls ≠ "java/lang/invoke/VarHandle" ∧ (parseMethodDescriptor y.desc).map (fun d => d.parameters.length) = some na) (hrc : rm.cells = mc) (hrs : rm.slots = ms) (hR : rm.frames + 1 ≤ R.frames ∧ 8 + (maxL + 11) + rm.locals ≤ R.locals)
    (hn : As.length = na) (hl : ls.size = nL) (hc : (rest.map fun v => v.category).sum ≤ 8) (hdg : decode cc pc = .ok (.invokevirtual idx, 3)) (hf : cells + mc ≤ R.cells ∧ slots + ms ≤ R.slots) :
    CallRun p l e R s m args below meth c H locs cells slots mc ms (F0 m pc ls (As.reverse ++ .ref (ad k) :: rest)) rest (Qc (Value.ref (ad k) :: As).toArray) (mw_fr G) :=
  W.runV (C := y.cls) C.1 hM ⟨mw_callB C ml ini co hrc hrs hd hR, C.1.2.2.2.2 _ im, C.1.2.2.2.2 _ se⟩ (mw_preV C h kc hk hT) rfl hn hl rfl (lv_room hc) hdg hf
theorem mr_cvI {k : Nat} {post : Int32 → mwM → mwL → Prop} (C : mw_C p m c cc nL s args own G) (h : mw_W G ad N T F M L H locs) (hM : Met l y (Cond.code y bytes maxL ret :: GT) rm (mw_Pre G ad N T F M L (.ref (ad k) :: As)) (mw_Qi G ad N T F post) 0 0 (mw_fr G))
    (kc : mw_kc ci y.cls Tt ty n) (hk : k < N) (hT : T k = (11 + ci, n)) (ml : Cond.methodLink own idx y ∈ GT) (im : Cond.instanceMethod y ∈ GT) (se : Cond.selects y.cls y y ∈ GT) (ini : Cond.initialized y.cls ∈ GT) (co : Cond.code y bytes maxL ret ∈ GT)
    (hd : y.cls ≠ "java/lang/invoke/MethodHandle" ∧ y.cls ≠ "java/lang/invoke/VarHandle" ∧ (parseMethodDescriptor y.desc).map (fun d => d.parameters.length) = some na) (hR : rm.frames + 1 ≤ R.frames ∧ 8 + (maxL + 11) + rm.locals ≤ R.locals)
    (hn : As.length = na) (hl : ls.size = nL) (hc : (rest.map fun v => v.category).sum ≤ 8) (hdg : decode cc pc = .ok (.invokevirtual idx, 3)) (hrc : rm.cells = 0) (hrs : rm.slots = 0) (hf : cells ≤ R.cells ∧ slots ≤ R.slots) {st0 : List Value} (hst : st0 = As.reverse ++ .ref (ad k) :: rest)
    (kk : ∀ (r : Int32) (M1 : mwM) (L1 : mwL) (H1 : Heap) (locs1 : List Loc), post r M1 L1 → mw_W G ad N T F M1 L1 H1 locs1 → W p l e R s m args below meth c H1 locs1 cells slots Q (F0 m (pc + 3) ls (.int r :: rest))) : W p l e R s m args below meth c H locs cells slots Q (F0 m pc ls st0) := by
  subst hst
  refine mr_call (mr_runV C h hM kc hk hT ml im se ini co hd hrc hrs hR hn hl hc hdg hf) h.locs (fun v st₀ t locs1 hl1 hq => ?_)
  obtain ⟨r, M1, L1, ho, hp, hw⟩ := hq
  cases ho
  exact kk r M1 L1 t.heap locs1 hp (hw.with hl1)
theorem mr_cvL {k : Nat} {post : Int64 → mwM → mwL → Prop} (C : mw_C p m c cc nL s args own G) (h : mw_W G ad N T F M L H locs) (hM : Met l y (Cond.code y bytes maxL ret :: GT) rm (mw_Pre G ad N T F M L (.ref (ad k) :: As)) (mw_Ql G ad N T F post) 0 0 (mw_fr G))
    (kc : mw_kc ci y.cls Tt ty n) (hk : k < N) (hT : T k = (11 + ci, n)) (ml : Cond.methodLink own idx y ∈ GT) (im : Cond.instanceMethod y ∈ GT) (se : Cond.selects y.cls y y ∈ GT) (ini : Cond.initialized y.cls ∈ GT) (co : Cond.code y bytes maxL ret ∈ GT)
    (hd : y.cls ≠ "java/lang/invoke/MethodHandle" ∧ y.cls ≠ "java/lang/invoke/VarHandle" ∧ (parseMethodDescriptor y.desc).map (fun d => d.parameters.length) = some na) (hR : rm.frames + 1 ≤ R.frames ∧ 8 + (maxL + 11) + rm.locals ≤ R.locals)
    (hn : As.length = na) (hl : ls.size = nL) (hc : (rest.map fun v => v.category).sum ≤ 8) (hdg : decode cc pc = .ok (.invokevirtual idx, 3)) (hrc : rm.cells = 0) (hrs : rm.slots = 0) (hf : cells ≤ R.cells ∧ slots ≤ R.slots) {st0 : List Value} (hst : st0 = As.reverse ++ .ref (ad k) :: rest)
    (kk : ∀ (r : Int64) (M1 : mwM) (L1 : mwL) (H1 : Heap) (locs1 : List Loc), post r M1 L1 → mw_W G ad N T F M1 L1 H1 locs1 → W p l e R s m args below meth c H1 locs1 cells slots Q (F0 m (pc + 3) ls (.long r :: rest))) : W p l e R s m args below meth c H locs cells slots Q (F0 m pc ls st0) := by
  subst hst
  refine mr_call (mr_runV C h hM kc hk hT ml im se ini co hd hrc hrs hR hn hl hc hdg hf) h.locs (fun v st₀ t locs1 hl1 hq => ?_)
  obtain ⟨r, M1, L1, ho, hp, hw⟩ := hq
  cases ho
  exact kk r M1 L1 t.heap locs1 hp (hw.with hl1)
theorem mr_cvV {k : Nat} {post : mwM → mwL → Prop} (C : mw_C p m c cc nL s args own G) (h : mw_W G ad N T F M L H locs) (hM : Met l y (Cond.code y bytes maxL ret :: GT) rm (mw_Pre G ad N T F M L (.ref (ad k) :: As)) (mw_Qv G ad N T F post) 0 0 (mw_fr G))
    (kc : mw_kc ci y.cls Tt ty n) (hk : k < N) (hT : T k = (11 + ci, n)) (ml : Cond.methodLink own idx y ∈ GT) (im : Cond.instanceMethod y ∈ GT) (se : Cond.selects y.cls y y ∈ GT) (ini : Cond.initialized y.cls ∈ GT) (co : Cond.code y bytes maxL ret ∈ GT)
    (hd : y.cls ≠ "java/lang/invoke/MethodHandle" ∧ y.cls ≠ "java/lang/invoke/VarHandle" ∧ (parseMethodDescriptor y.desc).map (fun d => d.parameters.length) = some na) (hR : rm.frames + 1 ≤ R.frames ∧ 8 + (maxL + 11) + rm.locals ≤ R.locals)
    (hn : As.length = na) (hl : ls.size = nL) (hc : (rest.map fun v => v.category).sum ≤ 8) (hdg : decode cc pc = .ok (.invokevirtual idx, 3)) (hrc : rm.cells = 0) (hrs : rm.slots = 0) (hf : cells ≤ R.cells ∧ slots ≤ R.slots) {st0 : List Value} (hst : st0 = As.reverse ++ .ref (ad k) :: rest)
    (kk : ∀ (M1 : mwM) (L1 : mwL) (H1 : Heap) (locs1 : List Loc), post M1 L1 → mw_W G ad N T F M1 L1 H1 locs1 → W p l e R s m args below meth c H1 locs1 cells slots Q (F0 m (pc + 3) ls rest)) : W p l e R s m args below meth c H locs cells slots Q (F0 m pc ls st0) := by
  subst hst
  refine mr_call (mr_runV C h hM kc hk hT ml im se ini co hd hrc hrs hR hn hl hc hdg hf) h.locs (fun v st₀ t locs1 hl1 hq => ?_)
  obtain ⟨M1, L1, ho, hp, hw⟩ := hq
  cases ho
  exact kk M1 L1 t.heap locs1 hp (hw.with hl1)
-- a static method
theorem mr_csI {post : Int32 → mwM → mwL → Prop} (C : mw_C p m c cc nL s args own G) (h : mw_W G ad N T F M L H locs) (hM : Met l y (Cond.code y bytes maxL ret :: GT) rm (mw_Pre G ad N T F M L As) (mw_Qi G ad N T F post) 0 0 (mw_fr G))
    (ml : Cond.methodLink own idx y ∈ GT) (sm : Cond.static y ∈ GT) (ini : Cond.initialized y.cls ∈ GT) (co : Cond.code y bytes maxL ret ∈ GT)
    (hd : y.cls ≠ "java/lang/invoke/MethodHandle" ∧ y.cls ≠ "java/lang/invoke/VarHandle" ∧ (parseMethodDescriptor y.desc).map (fun d => d.parameters.length) = some na) (hR : rm.frames + 1 ≤ R.frames ∧ 8 + (maxL + 11) + rm.locals ≤ R.locals)
    (hn : As.length = na) (hl : ls.size = nL) (hc : (rest.map fun v => v.category).sum ≤ 8) (hdg : decode cc pc = .ok (.invokestatic idx, 3)) (hrc : rm.cells = 0) (hrs : rm.slots = 0) (hf : cells ≤ R.cells ∧ slots ≤ R.slots) {st0 : List Value} (hst : st0 = As.reverse ++ rest)
    (kk : ∀ (r : Int32) (M1 : mwM) (L1 : mwL) (H1 : Heap) (locs1 : List Loc), post r M1 L1 → mw_W G ad N T F M1 L1 H1 locs1 → W p l e R s m args below meth c H1 locs1 cells slots Q (F0 m (pc + 3) ls (.int r :: rest))) : W p l e R s m args below meth c H locs cells slots Q (F0 m pc ls st0) := by
  subst hst
  refine mr_call (W.runS C.1 hM ⟨mw_callB C ml ini co hrc hrs hd hR, C.1.2.2.2.2 _ sm⟩ (mw_pre C h) rfl hn hl rfl (lv_room hc) hdg hf) h.locs (fun v st₀ t locs1 hl1 hq => ?_)
  obtain ⟨r, M1, L1, ho, hp, hw⟩ := hq
  cases ho
  exact kk r M1 L1 t.heap locs1 hp (hw.with hl1)
theorem mr_csL {post : Int64 → mwM → mwL → Prop} (C : mw_C p m c cc nL s args own G) (h : mw_W G ad N T F M L H locs) (hM : Met l y (Cond.code y bytes maxL ret :: GT) rm (mw_Pre G ad N T F M L As) (mw_Ql G ad N T F post) 0 0 (mw_fr G))
    (ml : Cond.methodLink own idx y ∈ GT) (sm : Cond.static y ∈ GT) (ini : Cond.initialized y.cls ∈ GT) (co : Cond.code y bytes maxL ret ∈ GT)
    (hd : y.cls ≠ "java/lang/invoke/MethodHandle" ∧ y.cls ≠ "java/lang/invoke/VarHandle" ∧ (parseMethodDescriptor y.desc).map (fun d => d.parameters.length) = some na) (hR : rm.frames + 1 ≤ R.frames ∧ 8 + (maxL + 11) + rm.locals ≤ R.locals)
    (hn : As.length = na) (hl : ls.size = nL) (hc : (rest.map fun v => v.category).sum ≤ 8) (hdg : decode cc pc = .ok (.invokestatic idx, 3)) (hrc : rm.cells = 0) (hrs : rm.slots = 0) (hf : cells ≤ R.cells ∧ slots ≤ R.slots) {st0 : List Value} (hst : st0 = As.reverse ++ rest)
    (kk : ∀ (r : Int64) (M1 : mwM) (L1 : mwL) (H1 : Heap) (locs1 : List Loc), post r M1 L1 → mw_W G ad N T F M1 L1 H1 locs1 → W p l e R s m args below meth c H1 locs1 cells slots Q (F0 m (pc + 3) ls (.long r :: rest))) : W p l e R s m args below meth c H locs cells slots Q (F0 m pc ls st0) := by
  subst hst
  refine mr_call (W.runS C.1 hM ⟨mw_callB C ml ini co hrc hrs hd hR, C.1.2.2.2.2 _ sm⟩ (mw_pre C h) rfl hn hl rfl (lv_room hc) hdg hf) h.locs (fun v st₀ t locs1 hl1 hq => ?_)
  obtain ⟨r, M1, L1, ho, hp, hw⟩ := hq
  cases ho
  exact kk r M1 L1 t.heap locs1 hp (hw.with hl1)
end MCALL
