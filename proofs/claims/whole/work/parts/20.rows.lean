/-! ROWS over the world of numbered cells: fields, arrays, entry and end of a method, calls -/
abbrev mwG : Type := (Nat → ClassId) × (Nat → Nat → Nat) × (Nat → ClassId) × Heap
def mw_ty (ac : Nat → ClassId) : List (ClassId × FieldType) := [(ac 0, .int), (ac 1, .byte), (ac 2, .boolean), (ac 3, .char), (ac 4, .short), (ac 5, .long), (ac 6, .array .int), (ac 7, .object "CarHouse$Chart"), (ac 8, .object "CarHouse$Ear"), (ac 9, .object "CarHouseModel$Pack"), (ac 10, .object "CarHouseModel$Chart")]
abbrev mw_fr (G : mwG) : Nat → Prop := fun q => G.2.2.2.size ≤ q
/-! WHAT LIES IN THE HEAP BEFORE THE START and never changes: a table in a static field, and the String constants of the reader; their addresses stand in G (its second part has no use of class numbers above 19) -/
def mw_flex : List Int32 := [0, 1, 2, 3, 4, 5, 6, 7, 8, 12, 16, 20, 24, 32, 48, 64]
def mw_stx : List (Nat × String) := [(88, "controller task chart state edge after datum enter leave take signal protect read watch"), (178, "plain split history deep fork join"), (196, "if"), (205, "eq ne lt ge div mod"), (225, "more"), (234, "turned"), (274, "top"), (285, "time")]
def mw_sbyt : List (List Int32) := [[99, 111, 110, 116, 114, 111, 108, 108, 101, 114, 32, 116, 97, 115, 107, 32, 99, 104, 97, 114, 116, 32, 115, 116, 97, 116, 101, 32, 101, 100, 103, 101, 32, 97, 102, 116, 101, 114, 32, 100, 97, 116, 117, 109, 32, 101, 110, 116, 101, 114, 32, 108, 101, 97, 118, 101, 32, 116, 97, 107, 101, 32, 115, 105, 103, 110, 97, 108, 32, 112, 114, 111, 116, 101, 99, 116, 32, 114, 101, 97, 100, 32, 119, 97, 116, 99, 104], [112, 108, 97, 105, 110, 32, 115, 112, 108, 105, 116, 32, 104, 105, 115, 116, 111, 114, 121, 32, 100, 101, 101, 112, 32, 102, 111, 114, 107, 32, 106, 111, 105, 110], [105, 102], [101, 113, 32, 110, 101, 32, 108, 116, 32, 103, 101, 32, 100, 105, 118, 32, 109, 111, 100], [109, 111, 114, 101], [116, 117, 114, 110, 101, 100], [116, 111, 112], [116, 105, 109, 101]]
def mw_slen : List Nat := [87, 34, 2, 19, 4, 6, 3, 4]
def mw_sch (i : Nat) (k : Int32) : Int32 := (mw_sbyt.getD i []).getD k.toNatClampNeg 0 &&& 255
def mw_KS (G : mwG) (U : State) : Prop :=
  va_Z "CarHouse$Ear" "FLEXIBLE_OCTETS" "[I" (.ref (G.2.1 1002 0)) (mw_fr G) U G.2.2.2 ∧ va_T .int (G.2.1 1002 0) 16 (fun j => .int (mw_flex.getD j 0)) (mw_fr G) U G.2.2.2 ∧
  va_Z "java/lang/String" "COMPACT_STRINGS" "Z" (.int 1) (mw_fr G) U G.2.2.2 ∧ va_Zq "jdk/internal/util/Preconditions" "SIOOBE_FORMATTER" "Ljava/util/function/BiFunction;" (mw_fr G) U G.2.2.2 ∧
  ∀ i, i < 8 → vk_R "CarHouse$Reader" (mw_stx.getD i (0, "")).1 (mw_stx.getD i (0, "")).2 (G.2.1 1000 i) U ∧ va_O "java/lang/String" (G.2.1 1000 i) (mw_fr G) U G.2.2.2 ∧ va_OF "java/lang/String" "coder" "B" (.int 0) (G.2.1 1000 i) (mw_fr G) U G.2.2.2 ∧ va_OF "java/lang/String" "value" "[B" (.ref (G.2.1 1001 i)) (G.2.1 1000 i) (mw_fr G) U G.2.2.2 ∧ va_T .byte (G.2.1 1001 i) (mw_slen.getD i 0) (fun j => .int ((mw_sbyt.getD i []).getD j 0)) (mw_fr G) U G.2.2.2
theorem mw_KS.warm {G : mwG} {s U : State} (hW : s.WarmedH U.vm) (h : mw_KS G s) : mw_KS G U :=
  ⟨va_Z.moved hW.alike h.1, va_T.moved hW.alike h.2.1, va_Z.moved hW.alike h.2.2.1, va_Zq.moved hW.alike h.2.2.2.1, fun i hi => ⟨vk_R.warm hW (h.2.2.2.2 i hi).1, va_O.moved hW.alike (h.2.2.2.2 i hi).2.1, va_OF.moved hW.alike (h.2.2.2.2 i hi).2.2.1, va_OF.moved hW.alike (h.2.2.2.2 i hi).2.2.2.1, va_T.moved hW.alike (h.2.2.2.2 i hi).2.2.2.2⟩⟩
theorem mw_KS.same {G : mwG} {u U : State} (hv : u.vm = U.vm) (h : mw_KS G u) : mw_KS G U := by
  have ha : u.vm.Alike U.vm := by rw [hv]; exact Vm.Alike.refl _
  exact ⟨va_Z.moved ha h.1, va_T.moved ha h.2.1, va_Z.moved ha h.2.2.1, va_Zq.moved ha h.2.2.2.1, fun i hi => ⟨vk_R.same hv.symm (h.2.2.2.2 i hi).1, va_O.moved ha (h.2.2.2.2 i hi).2.1, va_OF.moved ha (h.2.2.2.2 i hi).2.2.1, va_OF.moved ha (h.2.2.2.2 i hi).2.2.2.1, va_T.moved ha (h.2.2.2.2 i hi).2.2.2.2⟩⟩
def mw_K (G : mwG) (U : State) : Prop := va_K (G.1, G.2.1) mw_cl (mw_ty G.2.2.1) U ∧ mw_KN U ∧ mw_KS G U
theorem mw_K.warm {G : mwG} {s U : State} (hW : s.WarmedH U.vm) (h : mw_K G s) : mw_K G U := ⟨va_K.moved hW.alike h.1, h.2.1.warm hW, h.2.2.warm hW⟩
theorem mw_K.same {G : mwG} {u U : State} (hv : u.vm = U.vm) (h : mw_K G u) : mw_K G U := ⟨va_K.moved (by rw [hv]; exact Vm.Alike.refl _) h.1, h.2.1.same hv, h.2.2.same hv⟩
abbrev mwF : Type := Nat → Nat → Option Nat
abbrev mwT : Type := Nat → Nat × Nat
abbrev mwM : Type := Nat → Nat → Int32
abbrev mwL : Type := Nat → Nat → Int64
def mw_W (G : mwG) (ad : Nat → Nat) (N : Nat) (T : mwT) (F : mwF) (M : mwM) (L : mwL) (H : Heap) (locs : List Loc) : Prop :=
  va_P (G.1, G.2.1) mw_cl (mw_l mw_fk G.2.2.1 ad T M L F N) H ∧ va_D (mw_fr G) (mw_l mw_fk G.2.2.1 ad T M L F N) ∧ va_S (mw_fr G) G.2.2.2 H locs
theorem mw_W.drop {G : mwG} {ad : Nat → Nat} {N : Nat} {T : mwT} {F : mwF} {M : mwM} {L : mwL} {H : Heap} {locs : List Loc} (h : mw_W G ad N T F M L H locs) : mw_W G ad N T F M L H [] := ⟨h.1, h.2.1, h.2.2.1, h.2.2.2.1, fun _ q => by cases q⟩
theorem mw_W.locs {G : mwG} {ad : Nat → Nat} {N : Nat} {T : mwT} {F : mwF} {M : mwM} {L : mwL} {H : Heap} {locs : List Loc} (h : mw_W G ad N T F M L H locs) : ∀ q ∈ locs, mw_fr G q.base := h.2.2.2.2
theorem mw_W.with {G : mwG} {ad : Nat → Nat} {N : Nat} {T : mwT} {F : mwF} {M : mwM} {L : mwL} {H : Heap} {locs locs' : List Loc} (h : mw_W G ad N T F M L H locs) (hl : ∀ q ∈ locs', mw_fr G q.base) : mw_W G ad N T F M L H locs' := ⟨h.1, h.2.1, h.2.2.1, h.2.2.2.1, hl⟩
def mw_C (p : Program) (m : MethodId) (c : Code) (cc : ByteArray) (nL : Nat) (s : State) (args : Array Value) (own : String) (G : mwG) : Prop := CallFix p m c cc nL s args GT own ∧ mw_K G s
section MR
variable {p : Program} {l : Launch} {e : Env} {R : Room} {s : State} {m : MethodId} {args : Array Value} {below : List Frame} {meth : Method} {c : Code} {H : Heap} {locs : List Loc} {cells slots : Nat} {Q : State → Prop}
variable {cc : ByteArray} {pc nL : Nat} {ls : Array Slot} {rest : List Value} {own : String}
variable {G : mwG} {ad : Nat → Nat} {N : Nat} {T : mwT} {F : mwF} {M : mwM} {L : mwL}
variable {ci n idx : Nat} {Cs : String} {Tt : u_T} {ty : Nat → FieldType}
theorem mr_getI (C : mw_C p m c cc nL s args own G) (h : mw_W G ad N T F M L H locs) (kc : mw_kc ci Cs Tt ty n) {k : Nat} (j : Nat) (hk : k < N) (hT : T k = (11 + ci, n)) (lk : Cond.fieldLink own idx (Tt j).1 (Tt j).2.1 (Tt j).2.2.1 ∈ GT) (hdg : decode cc pc = .ok (.getfield idx, 3)) (hj : j < n) (hf : mw_fk ci j = 0)
    (kk : W p l e R s m args below meth c H locs cells slots Q (F0 m (pc + 3) ls (.int (M k j) :: rest))) : W p l e R s m args below meth c H locs cells slots Q (F0 m pc ls (.ref (ad k) :: rest)) := by
  obtain ⟨⟨hx, hb, hml, hown, hts⟩, hK⟩ := C
  exact va_get hx hb hts kc.2.1 hown hK.1 h.1 k (by rw [mw_at hk, mw_ceO hT]) kc.1 j hj (hts _ lk) (fun _ q => q) (by rw [mw_fld hj, mw_fvI hf]) hdg kk
theorem mr_getL (C : mw_C p m c cc nL s args own G) (h : mw_W G ad N T F M L H locs) (kc : mw_kc ci Cs Tt ty n) {k : Nat} (j : Nat) (hk : k < N) (hT : T k = (11 + ci, n)) (lk : Cond.fieldLink own idx (Tt j).1 (Tt j).2.1 (Tt j).2.2.1 ∈ GT) (hdg : decode cc pc = .ok (.getfield idx, 3)) (hj : j < n) (hf : mw_fk ci j = 1)
    (kk : W p l e R s m args below meth c H locs cells slots Q (F0 m (pc + 3) ls (.long (L k j) :: rest))) : W p l e R s m args below meth c H locs cells slots Q (F0 m pc ls (.ref (ad k) :: rest)) := by
  obtain ⟨⟨hx, hb, hml, hown, hts⟩, hK⟩ := C
  exact va_get hx hb hts kc.2.1 hown hK.1 h.1 k (by rw [mw_at hk, mw_ceO hT]) kc.1 j hj (hts _ lk) (fun _ q => q) (by rw [mw_fld hj, mw_fvL hf]) hdg kk
theorem mr_getR (C : mw_C p m c cc nL s args own G) (h : mw_W G ad N T F M L H locs) (kc : mw_kc ci Cs Tt ty n) {k : Nat} (j : Nat) {r : Nat} (hk : k < N) (hT : T k = (11 + ci, n)) (hF : F k j = some r) (lk : Cond.fieldLink own idx (Tt j).1 (Tt j).2.1 (Tt j).2.2.1 ∈ GT) (hdg : decode cc pc = .ok (.getfield idx, 3)) (hj : j < n) (hf : mw_fk ci j = 2)
    (kk : W p l e R s m args below meth c H locs cells slots Q (F0 m (pc + 3) ls (.ref (ad r) :: rest))) : W p l e R s m args below meth c H locs cells slots Q (F0 m pc ls (.ref (ad k) :: rest)) := by
  obtain ⟨⟨hx, hb, hml, hown, hts⟩, hK⟩ := C
  exact va_get hx hb hts kc.2.1 hown hK.1 h.1 k (by rw [mw_at hk, mw_ceO hT]) kc.1 j hj (hts _ lk) (fun _ q => q) (by rw [mw_fld hj, mw_fvR hf hF]) hdg kk
theorem mr_getNI {host : String} (C : mw_C p m c cc nL s args own G) (h : mw_W G ad N T F M L H locs) (kc : mw_kc ci Cs Tt ty n) {k : Nat} (j : Nat) (hk : k < N) (hT : T k = (11 + ci, n)) (lk : Cond.fieldLinkNest own idx (Tt j).1 (Tt j).2.1 (Tt j).2.2.1 host ∈ NT) (hdg : decode cc pc = .ok (.getfield idx, 3)) (hj : j < n) (hf : mw_fk ci j = 0)
    (kk : W p l e R s m args below meth c H locs cells slots Q (F0 m (pc + 3) ls (.int (M k j) :: rest))) : W p l e R s m args below meth c H locs cells slots Q (F0 m pc ls (.ref (ad k) :: rest)) := by
  obtain ⟨⟨hx, hb, hml, hown, hts⟩, hK⟩ := C
  exact va_getN hx hb hts kc.2.1 hown hK.1 h.1 k (by rw [mw_at hk, mw_ceO hT]) kc.1 j hj (va_Nw.use rfl (hK.2.1 _ lk)) (fun _ q => q) (by rw [mw_fld hj, mw_fvI hf]) hdg kk
theorem mr_getNR {host : String} (C : mw_C p m c cc nL s args own G) (h : mw_W G ad N T F M L H locs) (kc : mw_kc ci Cs Tt ty n) {k : Nat} (j : Nat) {r : Nat} (hk : k < N) (hT : T k = (11 + ci, n)) (hF : F k j = some r) (lk : Cond.fieldLinkNest own idx (Tt j).1 (Tt j).2.1 (Tt j).2.2.1 host ∈ NT) (hdg : decode cc pc = .ok (.getfield idx, 3)) (hj : j < n) (hf : mw_fk ci j = 2)
    (kk : W p l e R s m args below meth c H locs cells slots Q (F0 m (pc + 3) ls (.ref (ad r) :: rest))) : W p l e R s m args below meth c H locs cells slots Q (F0 m pc ls (.ref (ad k) :: rest)) := by
  obtain ⟨⟨hx, hb, hml, hown, hts⟩, hK⟩ := C
  exact va_getN hx hb hts kc.2.1 hown hK.1 h.1 k (by rw [mw_at hk, mw_ceO hT]) kc.1 j hj (va_Nw.use rfl (hK.2.1 _ lk)) (fun _ q => q) (by rw [mw_fld hj, mw_fvR hf hF]) hdg kk
theorem mr_putI (C : mw_C p m c cc nL s args own G) (h : mw_W G ad N T F M L H locs) (kc : mw_kc ci Cs Tt ty n) {k : Nat} (j : Nat) (hk : k < N) (hT : T k = (11 + ci, n)) (lk : Cond.fieldLink own idx (Tt j).1 (Tt j).2.1 (Tt j).2.2.1 ∈ GT) (hdg : decode cc pc = .ok (.putfield idx, 3)) (hj : j < n) (hf : mw_fk ci j = 0) (hfin : (Tt j).2.2.2 = false) {x : Int32} (hn : narrow (ty j) (.int x) = .int x) (hfit : fits (ty j) (.int x) = true)
    (kk : ∀ (H1 : Heap) (locs1 : List Loc), mw_W G ad N T F (mset M k j x) L H1 locs1 → W p l e R s m args below meth c H1 locs1 cells slots Q (F0 m (pc + 3) ls rest)) : W p l e R s m args below meth c H locs cells slots Q (F0 m pc ls (.int x :: .ref (ad k) :: rest)) := by
  obtain ⟨⟨hx, hb, hml, hown, hts⟩, hK⟩ := C
  refine va_put hx hb hts kc.2.1 ty kc.2.2.1 kc.2.2.2 hown hK.1 h.1 h.2.1 h.2.2 k (by rw [mw_at hk, mw_ceO hT]) kc.1 j hj (hts _ lk) (fun _ q => q) hfin (kc.2.2.1 j hj) hn hfit (by simpa using hj) hdg (fun H1 locs1 a1 a2 a3 => kk H1 locs1 ?_)
  rw [mw_setOI hk hT hf] at a1 a2
  exact ⟨a1, a2, a3⟩
theorem mr_putL (C : mw_C p m c cc nL s args own G) (h : mw_W G ad N T F M L H locs) (kc : mw_kc ci Cs Tt ty n) {k : Nat} (j : Nat) (hk : k < N) (hT : T k = (11 + ci, n)) (lk : Cond.fieldLink own idx (Tt j).1 (Tt j).2.1 (Tt j).2.2.1 ∈ GT) (hdg : decode cc pc = .ok (.putfield idx, 3)) (hj : j < n) (hf : mw_fk ci j = 1) (hfin : (Tt j).2.2.2 = false) {x : Int64} (hn : narrow (ty j) (.long x) = .long x) (hfit : fits (ty j) (.long x) = true)
    (kk : ∀ (H1 : Heap) (locs1 : List Loc), mw_W G ad N T F M (mset L k j x) H1 locs1 → W p l e R s m args below meth c H1 locs1 cells slots Q (F0 m (pc + 3) ls rest)) : W p l e R s m args below meth c H locs cells slots Q (F0 m pc ls (.long x :: .ref (ad k) :: rest)) := by
  obtain ⟨⟨hx, hb, hml, hown, hts⟩, hK⟩ := C
  refine va_put hx hb hts kc.2.1 ty kc.2.2.1 kc.2.2.2 hown hK.1 h.1 h.2.1 h.2.2 k (by rw [mw_at hk, mw_ceO hT]) kc.1 j hj (hts _ lk) (fun _ q => q) hfin (kc.2.2.1 j hj) hn hfit (by simpa using hj) hdg (fun H1 locs1 a1 a2 a3 => kk H1 locs1 ?_)
  rw [mw_setOL hk hT hf] at a1 a2
  exact ⟨a1, a2, a3⟩
theorem mr_putNI {host : String} (C : mw_C p m c cc nL s args own G) (h : mw_W G ad N T F M L H locs) (kc : mw_kc ci Cs Tt ty n) {k : Nat} (j : Nat) (hk : k < N) (hT : T k = (11 + ci, n)) (lk : Cond.fieldLinkNest own idx (Tt j).1 (Tt j).2.1 (Tt j).2.2.1 host ∈ NT) (hdg : decode cc pc = .ok (.putfield idx, 3)) (hj : j < n) (hf : mw_fk ci j = 0) (hfin : (Tt j).2.2.2 = false) {x : Int32} (hn : narrow (ty j) (.int x) = .int x) (hfit : fits (ty j) (.int x) = true)
    (kk : ∀ (H1 : Heap) (locs1 : List Loc), mw_W G ad N T F (mset M k j x) L H1 locs1 → W p l e R s m args below meth c H1 locs1 cells slots Q (F0 m (pc + 3) ls rest)) : W p l e R s m args below meth c H locs cells slots Q (F0 m pc ls (.int x :: .ref (ad k) :: rest)) := by
  obtain ⟨⟨hx, hb, hml, hown, hts⟩, hK⟩ := C
  refine va_putN hx hb hts kc.2.1 ty kc.2.2.1 kc.2.2.2 hown hK.1 h.1 h.2.1 h.2.2 k (by rw [mw_at hk, mw_ceO hT]) kc.1 j hj (va_Nw.use rfl (hK.2.1 _ lk)) (fun _ q => q) hfin (kc.2.2.1 j hj) hn hfit (by simpa using hj) hdg (fun H1 locs1 a1 a2 a3 => kk H1 locs1 ?_)
  rw [mw_setOI hk hT hf] at a1 a2
  exact ⟨a1, a2, a3⟩
/-- a final reference, in a constructor -/
theorem mr_putFR (C : mw_C p m c cc nL s args own G) (h : mw_W G ad N T F M L H locs) (kc : mw_kc ci Cs Tt ty n) {k : Nat} (j : Nat) {r : Nat} (hk : k < N) (hT : T k = (11 + ci, n)) (lk : Cond.fieldLink own idx (Tt j).1 (Tt j).2.1 (Tt j).2.2.1 ∈ GT) (hdg : decode cc pc = .ok (.putfield idx, 3)) (hj : j < n) (hf : mw_fk ci j = 2) (hfin : (Tt j).2.2.2 = true) (hin2 : meth.name = "<init>") (hdecl : (Tt j).1 = own) (hn : narrow (ty j) (.ref (ad r)) = .ref (ad r)) (hfit : fits (ty j) (.ref (ad r)) = true)
    (kk : ∀ (H1 : Heap) (locs1 : List Loc), mw_W G ad N T (mset F k j (some r)) M L H1 locs1 → W p l e R s m args below meth c H1 locs1 cells slots Q (F0 m (pc + 3) ls rest)) : W p l e R s m args below meth c H locs cells slots Q (F0 m pc ls (.ref (ad r) :: .ref (ad k) :: rest)) := by
  obtain ⟨⟨hx, hb, hml, hown, hts⟩, hK⟩ := C
  refine va_putF hx hb hts kc.2.1 ty kc.2.2.1 kc.2.2.2 hown hK.1 h.1 h.2.1 h.2.2 k (by rw [mw_at hk, mw_ceO hT]) kc.1 j hj (hts _ lk) (fun _ q => q) hfin hin2 hdecl (kc.2.2.1 j hj) hn hfit (by simpa using hj) hdg (fun H1 locs1 a1 a2 a3 => kk H1 locs1 ?_)
  rw [mw_setOR hk hT hf] at a1 a2
  exact ⟨a1, a2, a3⟩
-- arrays of numbers
theorem mr_iald (C : mw_C p m c cc nL s args own G) (h : mw_W G ad N T F M L H locs) {k : Nat} (hk : k < N) (hT : T k = (0, n)) {i : Int32} (hin : vp_in i n) (hdg : decode cc pc = .ok (.iaload, 1))
    (kk : W p l e R s m args below meth c H locs cells slots Q (F0 m (pc + 1) ls (.int (M k i.toNatClampNeg) :: rest))) : W p l e R s m args below meth c H locs cells slots Q (F0 m pc ls (.int i :: .ref (ad k) :: rest)) := by
  obtain ⟨⟨hx, hb, hml, hown, hts⟩, hK⟩ := C
  exact va_iald hx hb hK.1 h.1 k 0 (by rw [mw_at hk, mw_ceA hT (by decide)]) rfl hin hdg kk
theorem mr_bald (C : mw_C p m c cc nL s args own G) (h : mw_W G ad N T F M L H locs) {k : Nat} (hk : k < N) (hT : T k = (1, n)) {i : Int32} (hin : vp_in i n) (hdg : decode cc pc = .ok (.baload, 1))
    (kk : W p l e R s m args below meth c H locs cells slots Q (F0 m (pc + 1) ls (.int (M k i.toNatClampNeg) :: rest))) : W p l e R s m args below meth c H locs cells slots Q (F0 m pc ls (.int i :: .ref (ad k) :: rest)) := by
  obtain ⟨⟨hx, hb, hml, hown, hts⟩, hK⟩ := C
  exact va_bald hx hb hK.1 h.1 k 1 (by rw [mw_at hk, mw_ceA hT (by decide)]) rfl hin hdg kk
theorem mr_zald (C : mw_C p m c cc nL s args own G) (h : mw_W G ad N T F M L H locs) {k : Nat} (hk : k < N) (hT : T k = (2, n)) {i : Int32} (hin : vp_in i n) (hdg : decode cc pc = .ok (.baload, 1))
    (kk : W p l e R s m args below meth c H locs cells slots Q (F0 m (pc + 1) ls (.int (M k i.toNatClampNeg) :: rest))) : W p l e R s m args below meth c H locs cells slots Q (F0 m pc ls (.int i :: .ref (ad k) :: rest)) := by
  obtain ⟨⟨hx, hb, hml, hown, hts⟩, hK⟩ := C
  exact va_zald hx hb hK.1 h.1 k 2 (by rw [mw_at hk, mw_ceA hT (by decide)]) rfl hin hdg kk
theorem mr_cald (C : mw_C p m c cc nL s args own G) (h : mw_W G ad N T F M L H locs) {k : Nat} (hk : k < N) (hT : T k = (3, n)) {i : Int32} (hin : vp_in i n) (hdg : decode cc pc = .ok (.caload, 1))
    (kk : W p l e R s m args below meth c H locs cells slots Q (F0 m (pc + 1) ls (.int (M k i.toNatClampNeg) :: rest))) : W p l e R s m args below meth c H locs cells slots Q (F0 m pc ls (.int i :: .ref (ad k) :: rest)) := by
  obtain ⟨⟨hx, hb, hml, hown, hts⟩, hK⟩ := C
  exact va_cald hx hb hK.1 h.1 k 3 (by rw [mw_at hk, mw_ceA hT (by decide)]) rfl hin hdg kk
theorem mr_sald (C : mw_C p m c cc nL s args own G) (h : mw_W G ad N T F M L H locs) {k : Nat} (hk : k < N) (hT : T k = (4, n)) {i : Int32} (hin : vp_in i n) (hdg : decode cc pc = .ok (.saload, 1))
    (kk : W p l e R s m args below meth c H locs cells slots Q (F0 m (pc + 1) ls (.int (M k i.toNatClampNeg) :: rest))) : W p l e R s m args below meth c H locs cells slots Q (F0 m pc ls (.int i :: .ref (ad k) :: rest)) := by
  obtain ⟨⟨hx, hb, hml, hown, hts⟩, hK⟩ := C
  exact va_sald hx hb hK.1 h.1 k 4 (by rw [mw_at hk, mw_ceA hT (by decide)]) rfl hin hdg kk
theorem mr_lald (C : mw_C p m c cc nL s args own G) (h : mw_W G ad N T F M L H locs) {k : Nat} (hk : k < N) (hT : T k = (5, n)) {i : Int32} (hin : vp_in i n) (hdg : decode cc pc = .ok (.laload, 1))
    (kk : W p l e R s m args below meth c H locs cells slots Q (F0 m (pc + 1) ls (.long (L k i.toNatClampNeg) :: rest))) : W p l e R s m args below meth c H locs cells slots Q (F0 m pc ls (.int i :: .ref (ad k) :: rest)) := by
  obtain ⟨⟨hx, hb, hml, hown, hts⟩, hK⟩ := C
  exact va_lald hx hb hK.1 h.1 k 5 (by rw [mw_at hk, mw_ceL hT]) rfl hin hdg kk
theorem mr_iast (C : mw_C p m c cc nL s args own G) (h : mw_W G ad N T F M L H locs) {k : Nat} (hk : k < N) (hT : T k = (0, n)) {i x : Int32} (hin : vp_in i n) (hdg : decode cc pc = .ok (.iastore, 1))
    (kk : ∀ (H1 : Heap) (locs1 : List Loc), mw_W G ad N T F (mset M k i.toNatClampNeg x) L H1 locs1 → W p l e R s m args below meth c H1 locs1 cells slots Q (F0 m (pc + 1) ls rest)) : W p l e R s m args below meth c H locs cells slots Q (F0 m pc ls (.int x :: .int i :: .ref (ad k) :: rest)) := by
  obtain ⟨⟨hx, hb, hml, hown, hts⟩, hK⟩ := C
  refine va_iast hx hb hK.1 h.1 h.2.1 h.2.2 k 0 (by rw [mw_at hk, mw_ceA hT (by decide)]) rfl hin hdg (fun H1 locs1 a1 a2 a3 => kk H1 locs1 ?_)
  rw [mw_setA hk hT (by decide)] at a1 a2
  exact ⟨a1, a2, a3⟩
theorem mr_bast (C : mw_C p m c cc nL s args own G) (h : mw_W G ad N T F M L H locs) {k : Nat} (hk : k < N) (hT : T k = (1, n)) {i x : Int32} (hin : vp_in i n) (hdg : decode cc pc = .ok (.bastore, 1))
    (kk : ∀ (H1 : Heap) (locs1 : List Loc), mw_W G ad N T F (mset M k i.toNatClampNeg (vp_nar .byte x)) L H1 locs1 → W p l e R s m args below meth c H1 locs1 cells slots Q (F0 m (pc + 1) ls rest)) : W p l e R s m args below meth c H locs cells slots Q (F0 m pc ls (.int x :: .int i :: .ref (ad k) :: rest)) := by
  obtain ⟨⟨hx, hb, hml, hown, hts⟩, hK⟩ := C
  refine va_bast hx hb hK.1 h.1 h.2.1 h.2.2 k 1 (by rw [mw_at hk, mw_ceA hT (by decide)]) rfl hin hdg (fun H1 locs1 a1 a2 a3 => kk H1 locs1 ?_)
  rw [mw_setA hk hT (by decide)] at a1 a2
  exact ⟨a1, a2, a3⟩
theorem mr_zast (C : mw_C p m c cc nL s args own G) (h : mw_W G ad N T F M L H locs) {k : Nat} (hk : k < N) (hT : T k = (2, n)) {i x : Int32} (hin : vp_in i n) (hdg : decode cc pc = .ok (.bastore, 1))
    (kk : ∀ (H1 : Heap) (locs1 : List Loc), mw_W G ad N T F (mset M k i.toNatClampNeg (vp_nar .boolean x)) L H1 locs1 → W p l e R s m args below meth c H1 locs1 cells slots Q (F0 m (pc + 1) ls rest)) : W p l e R s m args below meth c H locs cells slots Q (F0 m pc ls (.int x :: .int i :: .ref (ad k) :: rest)) := by
  obtain ⟨⟨hx, hb, hml, hown, hts⟩, hK⟩ := C
  refine va_zast hx hb hK.1 h.1 h.2.1 h.2.2 k 2 (by rw [mw_at hk, mw_ceA hT (by decide)]) rfl hin hdg (fun H1 locs1 a1 a2 a3 => kk H1 locs1 ?_)
  rw [mw_setA hk hT (by decide)] at a1 a2
  exact ⟨a1, a2, a3⟩
theorem mr_cast (C : mw_C p m c cc nL s args own G) (h : mw_W G ad N T F M L H locs) {k : Nat} (hk : k < N) (hT : T k = (3, n)) {i x : Int32} (hin : vp_in i n) (hdg : decode cc pc = .ok (.castore, 1))
    (kk : ∀ (H1 : Heap) (locs1 : List Loc), mw_W G ad N T F (mset M k i.toNatClampNeg (vp_nar .char x)) L H1 locs1 → W p l e R s m args below meth c H1 locs1 cells slots Q (F0 m (pc + 1) ls rest)) : W p l e R s m args below meth c H locs cells slots Q (F0 m pc ls (.int x :: .int i :: .ref (ad k) :: rest)) := by
  obtain ⟨⟨hx, hb, hml, hown, hts⟩, hK⟩ := C
  refine va_cast hx hb hK.1 h.1 h.2.1 h.2.2 k 3 (by rw [mw_at hk, mw_ceA hT (by decide)]) rfl hin hdg (fun H1 locs1 a1 a2 a3 => kk H1 locs1 ?_)
  rw [mw_setA hk hT (by decide)] at a1 a2
  exact ⟨a1, a2, a3⟩
theorem mr_sast (C : mw_C p m c cc nL s args own G) (h : mw_W G ad N T F M L H locs) {k : Nat} (hk : k < N) (hT : T k = (4, n)) {i x : Int32} (hin : vp_in i n) (hdg : decode cc pc = .ok (.sastore, 1))
    (kk : ∀ (H1 : Heap) (locs1 : List Loc), mw_W G ad N T F (mset M k i.toNatClampNeg (vp_nar .short x)) L H1 locs1 → W p l e R s m args below meth c H1 locs1 cells slots Q (F0 m (pc + 1) ls rest)) : W p l e R s m args below meth c H locs cells slots Q (F0 m pc ls (.int x :: .int i :: .ref (ad k) :: rest)) := by
  obtain ⟨⟨hx, hb, hml, hown, hts⟩, hK⟩ := C
  refine va_sast hx hb hK.1 h.1 h.2.1 h.2.2 k 4 (by rw [mw_at hk, mw_ceA hT (by decide)]) rfl hin hdg (fun H1 locs1 a1 a2 a3 => kk H1 locs1 ?_)
  rw [mw_setA hk hT (by decide)] at a1 a2
  exact ⟨a1, a2, a3⟩
theorem mr_last (C : mw_C p m c cc nL s args own G) (h : mw_W G ad N T F M L H locs) {k : Nat} (hk : k < N) (hT : T k = (5, n)) {i : Int32} {x : Int64} (hin : vp_in i n) (hdg : decode cc pc = .ok (.lastore, 1))
    (kk : ∀ (H1 : Heap) (locs1 : List Loc), mw_W G ad N T F M (mset L k i.toNatClampNeg x) H1 locs1 → W p l e R s m args below meth c H1 locs1 cells slots Q (F0 m (pc + 1) ls rest)) : W p l e R s m args below meth c H locs cells slots Q (F0 m pc ls (.long x :: .int i :: .ref (ad k) :: rest)) := by
  obtain ⟨⟨hx, hb, hml, hown, hts⟩, hK⟩ := C
  refine va_last hx hb hK.1 h.1 h.2.1 h.2.2 k 5 (by rw [mw_at hk, mw_ceL hT]) rfl hin hdg (fun H1 locs1 a1 a2 a3 => kk H1 locs1 ?_)
  rw [mw_setL hk hT] at a1 a2
  exact ⟨a1, a2, a3⟩
theorem mr_aald (C : mw_C p m c cc nL s args own G) (h : mw_W G ad N T F M L H locs) {k t r : Nat} (hk : k < N) (hT : T k = (t, n)) (h5 : 5 < t) (h9 : t < 11) {fty : FieldType} (ht : (mw_ty G.2.2.1)[t]? = some (G.2.2.1 t, fty)) (hr : fty.isReference = true) {i : Int32} (hin : vp_in i n) (hF : F k i.toNatClampNeg = some r) (hdg : decode cc pc = .ok (.aaload, 1))
    (kk : W p l e R s m args below meth c H locs cells slots Q (F0 m (pc + 1) ls (.ref (ad r) :: rest))) : W p l e R s m args below meth c H locs cells slots Q (F0 m pc ls (.int i :: .ref (ad k) :: rest)) := by
  obtain ⟨⟨hx, hb, hml, hown, hts⟩, hK⟩ := C
  have hlt : i.toNatClampNeg < n := Nat.not_le.mp fun q => hin (Or.inr q)
  have ha : (mw_l mw_fk G.2.2.1 ad T M L F N)[k]? = some (ad k, .inl (G.2.2.1 t, n, .inr (.inr (.inr (.inr (fun j => (F k j).map ad)))))) := by rw [mw_at hk, mw_ceR hT h5 h9]
  exact W.aald (v := .ref (ad r)) (ty := fty) hx hb (h.1 k _ ha) ((hK.1.2 t _ ht).1 n (fun j => va_rf ((F k j).map ad))) hr (fun q => by cases q) (by show ¬ (i < 0 ∨ (arrV _ _ _).slots.size ≤ _); rw [arrV_size]; exact hin) (by show (arrV _ _ _).slots[_]? = _; rw [arrV_read _ _ hlt]; show some (va_rf (Option.map ad (F k i.toNatClampNeg))) = _; rw [hF]; rfl) rfl rfl hdg kk
-- the end of a method
def mw_Qi (G : mwG) (ad : Nat → Nat) (N : Nat) (T : mwT) (F : mwF) (post : Int32 → mwM → mwL → Prop) : Array Value → State → Outcome → State → Prop := fun _ _ oc t => ∃ (r : Int32) (M' : mwM) (L' : mwL), oc = .returned (some (.int r)) ∧ post r M' L' ∧ mw_W G ad N T F M' L' t.heap []
def mw_Ql (G : mwG) (ad : Nat → Nat) (N : Nat) (T : mwT) (F : mwF) (post : Int64 → mwM → mwL → Prop) : Array Value → State → Outcome → State → Prop := fun _ _ oc t => ∃ (r : Int64) (M' : mwM) (L' : mwL), oc = .returned (some (.long r)) ∧ post r M' L' ∧ mw_W G ad N T F M' L' t.heap []
def mw_Qv (G : mwG) (ad : Nat → Nat) (N : Nat) (T : mwT) (F : mwF) (post : mwM → mwL → Prop) : Array Value → State → Outcome → State → Prop := fun _ _ oc t => ∃ (M' : mwM) (L' : mwL), oc = .returned none ∧ post M' L' ∧ mw_W G ad N T F M' L' t.heap []
def mw_Pre (G : mwG) (ad : Nat → Nat) (N : Nat) (T : mwT) (F : mwF) (M : mwM) (L : mwL) (av : List Value) : Array Value → State → Prop := fun v U => v = av.toArray ∧ mw_W G ad N T F M L U.heap [] ∧ mw_K G U
theorem mr_iret {post : Int32 → mwM → mwL → Prop} {v : Int32} {rt : FieldType} (C : mw_C p m c cc nL s args own G) (hr : meth.sig.returnType = some rt) (hlocks : meth.locks = false) (h : mw_W G ad N T F M L H locs) (hn : narrow rt (.int v) = .int v) (hp : post v M L) (hdg : decode cc pc = .ok (.ireturn, 1)) : W p l e R s m args below meth c H locs cells slots (MQ below (mw_Qi G ad N T F post) args s cells slots (mw_fr G)) (F0 m pc ls [.int v]) :=
  W.zret C.1.1 C.1.2.1 hr hn (fun t ht _ => ⟨v, M, L, rfl, hp, by rw [ht]; exact h.drop⟩) h.locs hdg hlocks
theorem mr_lret {post : Int64 → mwM → mwL → Prop} {v : Int64} (C : mw_C p m c cc nL s args own G) (hr : meth.sig.returnType = some .long) (hlocks : meth.locks = false) (h : mw_W G ad N T F M L H locs) (hp : post v M L) (hdg : decode cc pc = .ok (.lreturn, 1)) : W p l e R s m args below meth c H locs cells slots (MQ below (mw_Ql G ad N T F post) args s cells slots (mw_fr G)) (F0 m pc ls [.long v]) :=
  W.lret C.1.1 C.1.2.1 hr (fun t ht _ => ⟨v, M, L, rfl, hp, by rw [ht]; exact h.drop⟩) h.locs hdg hlocks
theorem mr_vret {post : mwM → mwL → Prop} (C : mw_C p m c cc nL s args own G) (hr : meth.sig.returnType = none) (hlocks : meth.locks = false) (h : mw_W G ad N T F M L H locs) (hp : post M L) (hdg : decode cc pc = .ok (.return_, 1)) : W p l e R s m args below meth c H locs cells slots (MQ below (mw_Qv G ad N T F post) args s cells slots (mw_fr G)) (F0 m pc ls []) :=
  W.vret C.1.1 C.1.2.1 hr (fun t ht _ => ⟨M, L, rfl, hp, by rw [ht]; exact h.drop⟩) h.locs hdg hlocks
-- the beginning of a method
theorem mw_blind {av : List Value} : FrameBlind (mw_Pre G ad N T F M L av) := fun a U g mk h => ⟨h.1, h.2.1, mw_K.same (u := U) (U := U.calling g mk a) rfl h.2.2⟩
theorem mw_enter {y : MethodName} {ret : Option FieldType} {maxL mc ms : Nat} {rm : Room} {av : List Value} {Qc : Array Value → State → Outcome → State → Prop} (hy : plainName y.cls = true) (hav : (lg_sl av).length ≤ maxL)
    (body : ∀ (p : Program) (e : Env) (s : State) (m : MethodId) (below : List Frame) (meth : Method) (c : Code) (ls : Array Slot), mw_C p m c cc maxL s av.toArray y.cls G → meth.sig.returnType = ret → meth.locks = false → meth.name = y.name → mw_W G ad N T F M L s.heap [] → lv_has ls maxL (lv_args 0 av) →
      W p l e rm s m av.toArray below meth c s.heap [] 0 0 (MQ below Qc av.toArray s mc ms (mw_fr G)) (F0 m 0 ls [])) : Met l y (Cond.code y cc maxL ret :: GT) rm (mw_Pre G ad N T F M L av) Qc mc ms (mw_fr G) := by
  refine Met.ofW (cc := cc) (maxL := maxL) (ret := ret) hy rfl ?_
  intro p e s m args below meth c s₁ B hml hv
  obtain ⟨rfl, hw, hK⟩ := hv
  have hts := atoms_spec (ws := Cond.code y cc maxL ret :: GT) B.pre
  have hl := lv_entry av (n := maxL) hav
  rw [lg_entry_eq]
  exact body p e s m below meth c _ ⟨⟨B.exec, B.bytes, hml, findClass_of_methodNamed B.named, fun w h => hts w (List.mem_cons_of_mem _ h)⟩, hK⟩ B.returns B.notSynchronized (name_of_methodNamed B.named B.method).1 hw hl
end MR
