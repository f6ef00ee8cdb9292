/-! WORDS OF THE DECOMPILED METHODS: what a method does to the numbers of the world, as a function that answers none where an index, a divisor or a kind isn't as it must be -/
def mck {β : Type} (i : Int32) (n : Nat) (x : Option β) : Option β := if i < 0 ∨ n ≤ i.toNatClampNeg then none else x
theorem g_ck {β : Type} {i : Int32} {n : Nat} {x : Option β} {r : β} (h : mck i n x = some r) : vp_in i n ∧ x = some r := by
  unfold mck at h
  by_cases hc : i < 0 ∨ n ≤ i.toNatClampNeg
  · rw [if_pos hc] at h; cases h
  · rw [if_neg hc] at h; exact ⟨hc, h⟩
theorem mck_in {β : Type} {i : Int32} {n : Nat} {x : Option β} (h : vp_in i n) : mck i n x = x := if_neg h
def mnz {β : Type} (y : Int32) (x : Option β) : Option β := if y = 0 then none else x
theorem g_nz {β : Type} {y : Int32} {x : Option β} {r : β} (h : mnz y x = some r) : ¬ y = 0 ∧ x = some r := by
  unfold mnz at h
  by_cases hc : y = 0
  · rw [if_pos hc] at h; cases h
  · rw [if_neg hc] at h; exact ⟨hc, h⟩
def mnzL {β : Type} (y : Int64) (x : Option β) : Option β := if y = 0 then none else x
theorem g_nzL {β : Type} {y : Int64} {x : Option β} {r : β} (h : mnzL y x = some r) : ¬ y = 0 ∧ x = some r := by
  unfold mnzL at h
  by_cases hc : y = 0
  · rw [if_pos hc] at h; cases h
  · rw [if_neg hc] at h; exact ⟨hc, h⟩
/-- a number that a boolean may have -/
def mzz {β : Type} (v : Int32) (x : Option β) : Option β := if v = 0 ∨ v = 1 then x else none
theorem g_zz {β : Type} {v : Int32} {x : Option β} {r : β} (h : mzz v x = some r) : (v = 0 ∨ v = 1) ∧ x = some r := by
  unfold mzz at h
  by_cases hc : v = 0 ∨ v = 1
  · rw [if_pos hc] at h; exact ⟨hc, h⟩
  · rw [if_neg hc] at h; cases h
theorem nz_zz {v : Int32} (h : v = 0 ∨ v = 1) : narrow .boolean (.int v) = .int v := by rcases h with rfl | rfl <;> decide +kernel
theorem ft_zz {v : Int32} (h : v = 0 ∨ v = 1) : fits .boolean (.int v) = true := by rcases h with rfl | rfl <;> decide +kernel
def mbb {β : Type} (v : Int32) (x : Option β) : Option β := if v.toInt8.toInt32 = v then x else none
theorem g_bb {β : Type} {v : Int32} {x : Option β} {r : β} (h : mbb v x = some r) : v.toInt8.toInt32 = v ∧ x = some r := by
  unfold mbb at h
  by_cases hc : v.toInt8.toInt32 = v
  · rw [if_pos hc] at h; exact ⟨hc, h⟩
  · rw [if_neg hc] at h; cases h
theorem nb_bb {v : Int32} (h : v.toInt8.toInt32 = v) : narrow .byte (.int v) = .int v := by rw [← h]; exact pk_nb v
def mlet {α β : Type} (v : α) (b : α → β) : β := b v
theorem g_let {α β : Type} {v : α} {b : α → β} {r : β} (h : mlet v b = r) : ∃ x, x = v ∧ b x = r := ⟨v, rfl, h⟩
def mb3 {α β : Type} (o : Option (α × mwM × mwL)) (b : α → mwM → mwL → Option β) : Option β := o.bind (fun q => b q.1 q.2.1 q.2.2)
theorem g_b3 {α β : Type} {o : Option (α × mwM × mwL)} {b : α → mwM → mwL → Option β} {r : β} (h : mb3 o b = some r) : ∃ (x : α) (M : mwM) (L : mwL), o = some (x, M, L) ∧ b x M L = some r := by
  unfold mb3 at h
  cases o with
  | none => cases h
  | some q => exact ⟨q.1, q.2.1, q.2.2, rfl, h⟩
theorem mb3_s {α β : Type} {x : α} {M : mwM} {L : mwL} {b : α → mwM → mwL → Option β} : mb3 (some (x, M, L)) b = b x M L := rfl
def mb2 {β : Type} (o : Option (mwM × mwL)) (b : mwM → mwL → Option β) : Option β := o.bind (fun q => b q.1 q.2)
theorem g_b2 {β : Type} {o : Option (mwM × mwL)} {b : mwM → mwL → Option β} {r : β} (h : mb2 o b = some r) : ∃ (M : mwM) (L : mwL), o = some (M, L) ∧ b M L = some r := by
  unfold mb2 at h
  cases o with
  | none => cases h
  | some q => exact ⟨q.1, q.2, rfl, h⟩
theorem mb2_s {β : Type} {M : mwM} {L : mwL} {b : mwM → mwL → Option β} : mb2 (some (M, L)) b = b M L := rfl
def mloop {σ β : Type} (body : (σ → Option β) → σ → Option β) : Nat → σ → Option β
  | 0, _ => none
  | f + 1, s => body (mloop body f) s
theorem g_pos {c : Prop} [Decidable c] {β : Type} {a b r : β} (hc : c) (h : (if c then a else b) = r) : a = r := by rw [if_pos hc] at h; exact h
theorem g_neg {c : Prop} [Decidable c] {β : Type} {a b r : β} (hc : ¬ c) (h : (if c then a else b) = r) : b = r := by rw [if_neg hc] at h; exact h
theorem g_lt {i : Int32} {n : Nat} (h : vp_in i n) : i.toNatClampNeg < n := Nat.not_le.mp fun q => h (Or.inr q)
def mw_eqI (r0 : Int32) (M0 : mwM) (L0 : mwL) : Int32 → mwM → mwL → Prop := fun r M L => (r, M, L) = (r0, M0, L0)
def mw_eqL (r0 : Int64) (M0 : mwM) (L0 : mwL) : Int64 → mwM → mwL → Prop := fun r M L => (r, M, L) = (r0, M0, L0)
def mw_eqV (M0 : mwM) (L0 : mwL) : mwM → mwL → Prop := fun M L => (M, L) = (M0, L0)
section MD
variable {p : Program} {l : Launch} {e : Env} {R : Room} {s : State} {m : MethodId} {args : Array Value} {below : List Frame} {meth : Method} {c : Code} {H : Heap} {locs : List Loc} {cells slots : Nat} {Q : State → Prop}
variable {cc : ByteArray} {pc nL : Nat} {ls : Array Slot} {rest : List Value} {own : String}
variable {G : mwG} {ad : Nat → Nat} {N : Nat} {T : mwT} {F : mwF} {M : mwM} {L : mwL}
variable {ci n idx : Nat} {Tt : u_T} {ty : Nat → FieldType}
variable {y : MethodName} {bytes : ByteArray} {maxL na : Nat} {ret : Option FieldType} {rm : Room} {As : List Value}
/-- what a call needs of the words, of the callee alone -/
def mw_cw (y : MethodName) (bytes : ByteArray) (maxL : Nat) (ret : Option FieldType) (na : Nat) : Prop := Cond.initialized y.cls ∈ GT ∧ Cond.code y bytes maxL ret ∈ GT ∧ (y.cls ≠ "java/lang/invoke/MethodHandle" ∧ y.cls ≠ "java/lang/invoke/VarHandle" ∧ (parseMethodDescriptor y.desc).map (fun d => d.parameters.length) = some na)
def mw_cwV (y : MethodName) (bytes : ByteArray) (maxL : Nat) (ret : Option FieldType) (na : Nat) : Prop := mw_cw y bytes maxL ret na ∧ Cond.instanceMethod y ∈ GT ∧ Cond.selects y.cls y y ∈ GT
def mw_cwS (y : MethodName) (bytes : ByteArray) (maxL : Nat) (ret : Option FieldType) (na : Nat) : Prop := mw_cw y bytes maxL ret na ∧ Cond.static y ∈ GT
theorem md_cvI {k : Nat} {r0 : Int32} {M0 : mwM} {L0 : mwL} (C : mw_C p m c cc nL s args own G) (h : mw_W G ad N T F M L H locs) (hM : Met l y (Cond.code y bytes maxL ret :: GT) rm (mw_Pre G ad N T F M L (.ref (ad k) :: As)) (mw_Qi G ad N T F (mw_eqI r0 M0 L0)) 0 0 (mw_fr G))
    (kc : mw_kc ci y.cls Tt ty n) (hk : k < N) (hT : T k = (11 + ci, n)) (ml : Cond.methodLink own idx y ∈ GT) (cw : mw_cwV y bytes maxL ret na) (hR : rm.frames + 1 ≤ R.frames ∧ 8 + (maxL + 11) + rm.locals ≤ R.locals)
    (hn : As.length = na) (hl : ls.size = nL) (hc : (rest.map fun v => v.category).sum ≤ 8) (hdg : decode cc pc = .ok (.invokevirtual idx, 3)) (hrc : rm.cells = 0) (hrs : rm.slots = 0) (hf : cells ≤ R.cells ∧ slots ≤ R.slots) {st0 : List Value} (hst : st0 = As.reverse ++ .ref (ad k) :: rest)
    (kk : ∀ (H1 : Heap) (locs1 : List Loc), mw_W G ad N T F M0 L0 H1 locs1 → W p l e R s m args below meth c H1 locs1 cells slots Q (F0 m (pc + 3) ls (.int r0 :: rest))) : W p l e R s m args below meth c H locs cells slots Q (F0 m pc ls st0) :=
  mr_cvI C h hM kc hk hT ml cw.2.1 cw.2.2 cw.1.1 cw.1.2.1 cw.1.2.2 hR hn hl hc hdg hrc hrs hf hst (fun r M1 L1 H1 locs1 hp hw => by cases hp; exact kk H1 locs1 hw)
theorem md_cvL {k : Nat} {r0 : Int64} {M0 : mwM} {L0 : mwL} (C : mw_C p m c cc nL s args own G) (h : mw_W G ad N T F M L H locs) (hM : Met l y (Cond.code y bytes maxL ret :: GT) rm (mw_Pre G ad N T F M L (.ref (ad k) :: As)) (mw_Ql G ad N T F (mw_eqL r0 M0 L0)) 0 0 (mw_fr G))
    (kc : mw_kc ci y.cls Tt ty n) (hk : k < N) (hT : T k = (11 + ci, n)) (ml : Cond.methodLink own idx y ∈ GT) (cw : mw_cwV y bytes maxL ret na) (hR : rm.frames + 1 ≤ R.frames ∧ 8 + (maxL + 11) + rm.locals ≤ R.locals)
    (hn : As.length = na) (hl : ls.size = nL) (hc : (rest.map fun v => v.category).sum ≤ 8) (hdg : decode cc pc = .ok (.invokevirtual idx, 3)) (hrc : rm.cells = 0) (hrs : rm.slots = 0) (hf : cells ≤ R.cells ∧ slots ≤ R.slots) {st0 : List Value} (hst : st0 = As.reverse ++ .ref (ad k) :: rest)
    (kk : ∀ (H1 : Heap) (locs1 : List Loc), mw_W G ad N T F M0 L0 H1 locs1 → W p l e R s m args below meth c H1 locs1 cells slots Q (F0 m (pc + 3) ls (.long r0 :: rest))) : W p l e R s m args below meth c H locs cells slots Q (F0 m pc ls st0) :=
  mr_cvL C h hM kc hk hT ml cw.2.1 cw.2.2 cw.1.1 cw.1.2.1 cw.1.2.2 hR hn hl hc hdg hrc hrs hf hst (fun r M1 L1 H1 locs1 hp hw => by cases hp; exact kk H1 locs1 hw)
theorem md_cvV {k : Nat} {M0 : mwM} {L0 : mwL} (C : mw_C p m c cc nL s args own G) (h : mw_W G ad N T F M L H locs) (hM : Met l y (Cond.code y bytes maxL ret :: GT) rm (mw_Pre G ad N T F M L (.ref (ad k) :: As)) (mw_Qv G ad N T F (mw_eqV M0 L0)) 0 0 (mw_fr G))
    (kc : mw_kc ci y.cls Tt ty n) (hk : k < N) (hT : T k = (11 + ci, n)) (ml : Cond.methodLink own idx y ∈ GT) (cw : mw_cwV y bytes maxL ret na) (hR : rm.frames + 1 ≤ R.frames ∧ 8 + (maxL + 11) + rm.locals ≤ R.locals)
    (hn : As.length = na) (hl : ls.size = nL) (hc : (rest.map fun v => v.category).sum ≤ 8) (hdg : decode cc pc = .ok (.invokevirtual idx, 3)) (hrc : rm.cells = 0) (hrs : rm.slots = 0) (hf : cells ≤ R.cells ∧ slots ≤ R.slots) {st0 : List Value} (hst : st0 = As.reverse ++ .ref (ad k) :: rest)
    (kk : ∀ (H1 : Heap) (locs1 : List Loc), mw_W G ad N T F M0 L0 H1 locs1 → W p l e R s m args below meth c H1 locs1 cells slots Q (F0 m (pc + 3) ls rest)) : W p l e R s m args below meth c H locs cells slots Q (F0 m pc ls st0) :=
  mr_cvV C h hM kc hk hT ml cw.2.1 cw.2.2 cw.1.1 cw.1.2.1 cw.1.2.2 hR hn hl hc hdg hrc hrs hf hst (fun M1 L1 H1 locs1 hp hw => by cases hp; exact kk H1 locs1 hw)
theorem md_csI {r0 : Int32} {M0 : mwM} {L0 : mwL} (C : mw_C p m c cc nL s args own G) (h : mw_W G ad N T F M L H locs) (hM : Met l y (Cond.code y bytes maxL ret :: GT) rm (mw_Pre G ad N T F M L As) (mw_Qi G ad N T F (mw_eqI r0 M0 L0)) 0 0 (mw_fr G))
    (ml : Cond.methodLink own idx y ∈ GT) (cw : mw_cwS y bytes maxL ret na) (hR : rm.frames + 1 ≤ R.frames ∧ 8 + (maxL + 11) + rm.locals ≤ R.locals)
    (hn : As.length = na) (hl : ls.size = nL) (hc : (rest.map fun v => v.category).sum ≤ 8) (hdg : decode cc pc = .ok (.invokestatic idx, 3)) (hrc : rm.cells = 0) (hrs : rm.slots = 0) (hf : cells ≤ R.cells ∧ slots ≤ R.slots) {st0 : List Value} (hst : st0 = As.reverse ++ rest)
    (kk : ∀ (H1 : Heap) (locs1 : List Loc), mw_W G ad N T F M0 L0 H1 locs1 → W p l e R s m args below meth c H1 locs1 cells slots Q (F0 m (pc + 3) ls (.int r0 :: rest))) : W p l e R s m args below meth c H locs cells slots Q (F0 m pc ls st0) :=
  mr_csI C h hM ml cw.2 cw.1.1 cw.1.2.1 cw.1.2.2 hR hn hl hc hdg hrc hrs hf hst (fun r M1 L1 H1 locs1 hp hw => by cases hp; exact kk H1 locs1 hw)
theorem md_csL {r0 : Int64} {M0 : mwM} {L0 : mwL} (C : mw_C p m c cc nL s args own G) (h : mw_W G ad N T F M L H locs) (hM : Met l y (Cond.code y bytes maxL ret :: GT) rm (mw_Pre G ad N T F M L As) (mw_Ql G ad N T F (mw_eqL r0 M0 L0)) 0 0 (mw_fr G))
    (ml : Cond.methodLink own idx y ∈ GT) (cw : mw_cwS y bytes maxL ret na) (hR : rm.frames + 1 ≤ R.frames ∧ 8 + (maxL + 11) + rm.locals ≤ R.locals)
    (hn : As.length = na) (hl : ls.size = nL) (hc : (rest.map fun v => v.category).sum ≤ 8) (hdg : decode cc pc = .ok (.invokestatic idx, 3)) (hrc : rm.cells = 0) (hrs : rm.slots = 0) (hf : cells ≤ R.cells ∧ slots ≤ R.slots) {st0 : List Value} (hst : st0 = As.reverse ++ rest)
    (kk : ∀ (H1 : Heap) (locs1 : List Loc), mw_W G ad N T F M0 L0 H1 locs1 → W p l e R s m args below meth c H1 locs1 cells slots Q (F0 m (pc + 3) ls (.long r0 :: rest))) : W p l e R s m args below meth c H locs cells slots Q (F0 m pc ls st0) :=
  mr_csL C h hM ml cw.2 cw.1.1 cw.1.2.1 cw.1.2.2 hR hn hl hc hdg hrc hrs hf hst (fun r M1 L1 H1 locs1 hp hw => by cases hp; exact kk H1 locs1 hw)
end MD
