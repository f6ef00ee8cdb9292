/-! CONSTRUCTORS over the world of numbered cells: what holds at their beginning and end, and calls of them -/
def mw_aos : List FieldType := [.object "CarHouse$Chart", .object "CarHouse$Ear", .object "CarHouseModel$Pack", .object "CarHouseModel$Chart", .array .int]
def mw_KA (U : State) : Prop := ∀ ty ∈ mw_aos, (Cond.arrayOver ty).before #[] U = true
theorem mw_KA.al {s U : State} (hW : s.vm.Alike U.vm) (h : mw_KA s) : mw_KA U := fun ty ht => by
  have h2 := Cond.arrayOver_setVmC (args := #[]) (s := s) (vm' := U.vm) hW ty
  rw [h ty ht] at h2
  exact h2
theorem mw_KA.warm {s U : State} (hW : s.WarmedH U.vm) (h : mw_KA s) : mw_KA U := h.al hW.alike
theorem mw_KA.same {u U : State} (hv : u.vm = U.vm) (h : mw_KA u) : mw_KA U := h.al (by rw [hv]; exact Vm.Alike.refl _)
def mw_PreC (G : mwG) (N : Nat) (F : mwF) (M : mwM) (L : mwL) (av : List Value) : Array Value → State → Prop := fun v U => v = av.toArray ∧ mw_W G (mw_ad G) N TF F M L U.heap [] ∧ mw_K G U ∧ mw_KA U ∧ U.heap.size = G.2.2.2.size + N
def mw_QC (G : mwG) (N : Nat) (F : mwF) (M : mwM) (L : mwL) : Array Value → State → Outcome → State → Prop := fun _ _ oc t => oc = .returned none ∧ mw_W G (mw_ad G) N TF F M L t.heap [] ∧ t.heap.size = G.2.2.2.size + N
section MCC
variable {p : Program} {l : Launch} {e : Env} {R : Room} {s : State} {m : MethodId} {args : Array Value} {below : List Frame} {meth : Method} {c : Code} {H : Heap} {locs : List Loc} {cells slots : Nat} {Q : State → Prop}
variable {cc : ByteArray} {pc nL : Nat} {ls : Array Slot} {rest : List Value} {own : String}
variable {G : mwG} {N N2 : Nat} {F F9 : mwF} {M M9 : mwM} {L L9 : mwL}
variable {y : MethodName} {bytes : ByteArray} {maxL idx mc ms : Nat} {rm : Room}
theorem mw_blindC {av : List Value} : FrameBlind (mw_PreC G N F M L av) := fun a U g mk h => ⟨h.1, h.2.1, mw_K.same (u := U) (U := U.calling g mk a) rfl h.2.2.1, mw_KA.same (u := U) (U := U.calling g mk a) rfl h.2.2.2.1, h.2.2.2.2⟩
theorem mw_enterC {av : List Value} {Qc : Array Value → State → Outcome → State → Prop} (hy : plainName y.cls = true) (hav : (lg_sl av).length ≤ maxL)
    (body : ∀ (p : Program) (e : Env) (s : State) (m : MethodId) (below : List Frame) (meth : Method) (c : Code) (ls : Array Slot), mw_C p m c cc maxL s av.toArray y.cls G → mw_KA s → meth.sig.returnType = none → meth.locks = false → meth.name = y.name → mw_W G (mw_ad G) N TF F M L s.heap [] → s.heap.size = G.2.2.2.size + N → lv_has ls maxL (lv_args 0 av) →
      W p l e rm s m av.toArray below meth c s.heap [] 0 0 (MQ below Qc av.toArray s mc ms (mw_fr G)) (F0 m 0 ls [])) : Met l y (Cond.code y cc maxL none :: GT) rm (mw_PreC G N F M L av) Qc mc ms (mw_fr G) := by
  refine Met.ofW (cc := cc) (maxL := maxL) (ret := none) hy rfl ?_
  intro p e s m args below meth c s₁ B hml hv
  obtain ⟨rfl, hw, hK, hKA, hs⟩ := hv
  have hts := atoms_spec (ws := Cond.code y cc maxL none :: GT) B.pre
  have hl := lv_entry av (n := maxL) hav
  rw [lg_entry_eq]
  exact body p e s m below meth c _ ⟨⟨B.exec, B.bytes, hml, findClass_of_methodNamed B.named, fun w h => hts w (List.mem_cons_of_mem _ h)⟩, hK⟩ hKA B.returns B.notSynchronized (name_of_methodNamed B.named B.method).1 hw hs hl
theorem mr_cret (C : mw_C p m c cc nL s args own G) (hr : meth.sig.returnType = none) (hlocks : meth.locks = false) (h : mw_W G (mw_ad G) N TF F M L H locs) (hs : H.size = G.2.2.2.size + N) (hq : (F, M, L) = (F9, M9, L9)) (hdg : decode cc pc = .ok (.return_, 1)) : W p l e R s m args below meth c H locs cells slots (MQ below (mw_QC G N F9 M9 L9) args s cells slots (mw_fr G)) (F0 m pc ls []) := by
  cases hq
  exact W.vret C.1.1 C.1.2.1 hr (fun t ht _ => ⟨rfl, by rw [ht]; exact h.drop, by rw [ht]; exact hs⟩) h.locs hdg hlocks
theorem mw_preC {k : Nat} (C : mw_C p m c cc nL s args own G) (A : mw_KA s) (h : mw_W G (mw_ad G) N TF F M L H locs) (hs : H.size = G.2.2.2.size + N) : PreS s H (mw_PreC G N F M L [.ref (mw_ad G k)]) [.ref (mw_ad G k)] :=
  ⟨mw_blindC, fun U hU hW => ⟨rfl, by rw [hU]; exact h.drop, C.2.warm hW, A.warm hW, by rw [hU]; exact hs⟩⟩
/-- a constructor is called -/
theorem mc_init {k : Nat} (C : mw_C p m c cc nL s args own G) (A : mw_KA s) (h : mw_W G (mw_ad G) N TF F M L H locs) (hs : H.size = G.2.2.2.size + N) (hM : Met l y (Cond.code y bytes maxL none :: GT) rm (mw_PreC G N F M L [.ref (mw_ad G k)]) (mw_QC G N2 F9 M9 L9) mc ms (mw_fr G))
    (ml : Cond.methodLink own idx y ∈ GT) (im : Cond.instanceMethod y ∈ GT) (cw : mw_cw y bytes maxL none 0) (hy : y.name = "<init>") (hrc : rm.cells = mc) (hrs : rm.slots = ms) (hR : rm.frames + 1 ≤ R.frames ∧ 8 + (maxL + 11) + rm.locals ≤ R.locals) (hl : ls.size = nL) (hc : (rest.map fun v => v.category).sum ≤ 8) (hdg : decode cc pc = .ok (.invokespecial idx, 3)) (hf : cells + mc ≤ R.cells ∧ slots + ms ≤ R.slots)
    (kk : ∀ (H1 : Heap) (locs1 : List Loc), mw_W G (mw_ad G) N2 TF F9 M9 L9 H1 locs1 → H1.size = G.2.2.2.size + N2 → W p l e R s m args below meth c H1 locs1 (cells + mc) (slots + ms) Q (F0 m (pc + 3) ls rest)) : W p l e R s m args below meth c H locs cells slots Q (F0 m pc ls (.ref (mw_ad G k) :: rest)) := by
  refine mr_call (W.runI (As := []) (rest := rest) C.1 hM ⟨mw_callB C ml cw.1 cw.2.1 hrc hrs cw.2.2 hR, hy, C.1.2.2.2.2 _ im⟩ (mw_preC C A h hs) rfl rfl hl rfl (lv_room hc) hdg hf) h.locs (fun v st₀ t locs1 hl1 hq => ?_)
  obtain ⟨ho, hw, hz⟩ := hq
  cases ho
  exact kk t.heap locs1 (hw.with hl1) hz
/-- a nest mate's private one -/
theorem mc_initN {k : Nat} {host : String} (C : mw_C p m c cc nL s args own G) (A : mw_KA s) (h : mw_W G (mw_ad G) N TF F M L H locs) (hs : H.size = G.2.2.2.size + N) (hM : Met l y (Cond.code y bytes maxL none :: GT) rm (mw_PreC G N F M L [.ref (mw_ad G k)]) (mw_QC G N2 F9 M9 L9) mc ms (mw_fr G))
    (ml : Cond.methodLinkNest own idx y host ∈ NT) (im : Cond.instanceMethod y ∈ GT) (cw : mw_cw y bytes maxL none 0) (hy : y.name = "<init>") (hrc : rm.cells = mc) (hrs : rm.slots = ms) (hR : rm.frames + 1 ≤ R.frames ∧ 8 + (maxL + 11) + rm.locals ≤ R.locals) (hl : ls.size = nL) (hc : (rest.map fun v => v.category).sum ≤ 8) (hdg : decode cc pc = .ok (.invokespecial idx, 3)) (hf : cells + mc ≤ R.cells ∧ slots + ms ≤ R.slots)
    (kk : ∀ (H1 : Heap) (locs1 : List Loc), mw_W G (mw_ad G) N2 TF F9 M9 L9 H1 locs1 → H1.size = G.2.2.2.size + N2 → W p l e R s m args below meth c H1 locs1 (cells + mc) (slots + ms) Q (F0 m (pc + 3) ls rest)) : W p l e R s m args below meth c H locs cells slots Q (F0 m pc ls (.ref (mw_ad G k) :: rest)) := by
  refine mr_call (va_Run.run (va_runIN (As := []) (rest := rest) C.1 hM ⟨va_cnB 0 C.1.2.2.2.2 (mw_goodc cw.2.1) rfl hrc hrs (C.2.2.1 _ ml) (C.1.2.2.2.2 _ cw.1) cw.2.2 hR, hy, C.1.2.2.2.2 _ im⟩ (mw_preC C A h hs) rfl rfl hl rfl (lv_room hc) hdg hf)) h.locs (fun v st₀ t locs1 hl1 hq => ?_)
  obtain ⟨ho, hw, hz⟩ := hq
  cases ho
  exact kk t.heap locs1 (hw.with hl1) hz
/-- a reference is put into an array -/
theorem mr_aast {t n k r ci nf : Nat} {i : Int32} {Cs : String} {Tt : u_T} {ty : Nat → FieldType} (C : mw_C p m c cc nL s args own G) (h : mw_W G (mw_ad G) N TF F M L H locs) (hk : k < N) (hT : TF k = (t, n)) (h5 : 5 < t) (h9 : t < 11) (hmt : (mw_ty G.2.2.1)[t]? = some (G.2.2.1 t, .object Cs)) (kc : mw_kc ci Cs Tt ty nf) (hr : r < N) (hTr : TF r = (11 + ci, nf)) (hin : vp_in i n) (hdg : decode cc pc = .ok (.aastore, 1))
    (kk : ∀ (H1 : Heap) (locs1 : List Loc), mw_W G (mw_ad G) N TF (mset F k i.toNatClampNeg (some r)) M L H1 locs1 → W p l e R s m args below meth c H1 locs1 cells slots Q (F0 m (pc + 1) ls rest)) : W p l e R s m args below meth c H locs cells slots Q (F0 m pc ls (.ref (mw_ad G r) :: .int i :: .ref (mw_ad G k) :: rest)) := by
  obtain ⟨⟨hx, hb, hml, hown, hts⟩, hK⟩ := C
  have ha : (mw_l mw_fk G.2.2.1 (mw_ad G) TF M L F N)[k]? = some (mw_ad G k, .inl (G.2.2.1 t, n, .inr (.inr (.inr (.inr (fun j => (F k j).map (mw_ad G))))))) := by rw [mw_at hk, mw_ceR hT h5 h9]
  have hv : (mw_l mw_fk G.2.2.1 (mw_ad G) TF M L F N)[r]? = some (mw_ad G r, .inr (ci, (List.range nf).map (mw_fv mw_fk (mw_ad G) M L F ci r))) := by rw [mw_at hr, mw_ceO hTr]
  intro T9 hT9 X9
  have X8 := X9
  refine va_astq (cells := cells) (slots := slots) (Q := Q) hx hb hK.1 h.1 h.2.1 h.2.2 k t r ci ha hmt hv kc.1 hin hdg (fun H1 locs1 a1 a2 a3 => ?_) T9 hT9 X9
  rw [mw_setR hk hT h5 h9] at a1 a2
  exact kk H1 locs1 ⟨a1, a2, a3⟩
/-- how large the heap is, by the cells that are new -/
theorem mw_size {g : JFrame} (h : mw_W G (mw_ad G) N TF F M L H locs) (hc : s.heap.size + cells = G.2.2.2.size + N) (kk : H.size = G.2.2.2.size + N → W p l e R s m args below meth c H locs cells slots Q g) : W p l e R s m args below meth c H locs cells slots Q g := by
  intro T9 hT9 X9
  have h1 : T9.heap.size ≤ s.heap.size + cells := X9.heapSize
  rw [hT9] at h1
  have h2 : G.2.2.2.size + N ≤ H.size := by
    rcases Nat.eq_zero_or_pos N with h0 | h0
    · subst h0
      exact h.2.2.1
    · have h3 : G.2.2.2.size + (N - 1) < H.size := (h.1 (N - 1) _ (mw_at (by omega))).lt
      omega
  exact kk (by omega) T9 hT9 X9
end MCC
theorem mrow_n {F : mwF} {N n a : Nat} (h : a ≠ N) : mrow F N n a = F a := by funext j; simp [mrow, h]
