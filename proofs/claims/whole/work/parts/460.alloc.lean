/-! NEW CELLS: cells are pushed one behind another, so cell k of the world stands at HB.size + k -/
def mw_ad (G : mwG) : Nat → Nat := fun k => G.2.2.2.size + k
def mz {α : Type} (d : α) (M : Nat → Nat → α) (N : Nat) : Nat → Nat → α := fun k j => if k = N then d else M k j
theorem mz_s {α : Type} {d : α} {M : Nat → Nat → α} {N : Nat} : mz d M N N = fun _ => d := by funext j; simp [mz]
theorem mz_n {α : Type} {d : α} {M : Nat → Nat → α} {N k : Nat} (h : k ≠ N) : mz d M N k = M k := by funext j; simp [mz, h]
section MA
variable {fk : Nat → Nat → Nat} {ac : Nat → ClassId} {ad : Nat → Nat} {T : Nat → Nat × Nat} {M M' : Nat → Nat → Int32} {L L' : Nat → Nat → Int64} {F F' : Nat → Nat → Option Nat} {N : Nat}
theorem mw_ce_all {k : Nat} (hM : M k = M' k) (hL : L k = L' k) (hF : F k = F' k) : mw_ce fk ac ad T M L F k = mw_ce fk ac ad T M' L' F' k := by
  rw [mw_ce_M hM, mw_ce_L hL, mw_ce_F hF]
theorem mw_l_ext (hM : ∀ k, k < N → M k = M' k) (hL : ∀ k, k < N → L k = L' k) (hF : ∀ k, k < N → F k = F' k) : mw_l fk ac ad T M L F N = mw_l fk ac ad T M' L' F' N := by
  unfold mw_l
  apply List.map_congr_left
  intro k hk
  have hk := List.mem_range.mp hk
  rw [mw_ce_all (hM k hk) (hL k hk) (hF k hk)]
theorem mw_l_succ : mw_l fk ac ad T M L F (N + 1) = mw_l fk ac ad T M L F N ++ [(ad N, mw_ce fk ac ad T M L F N)] := by
  unfold mw_l
  rw [List.range_succ, List.map_append]
  rfl
end MA
section MB
variable {p : Program} {l : Launch} {e : Env} {R : Room} {s : State} {m : MethodId} {args : Array Value} {below : List Frame} {meth : Method} {c : Code} {H : Heap} {locs : List Loc} {cells slots : Nat} {Q : State → Prop}
variable {cc : ByteArray} {pc nL : Nat} {ls : Array Slot} {rest : List Value} {own : String}
variable {G : mwG} {N : Nat} {T : mwT} {F F' : mwF} {M M' : mwM} {L L' : mwL}
/-- a cell more -/
theorem mw_W.grow {H1 : Heap} (h : mw_W G (mw_ad G) N T F M L H locs) (hs : H.size = G.2.2.2.size + N) (hM : ∀ k, k < N → M k = M' k) (hL : ∀ k, k < N → L k = L' k) (hF : ∀ k, k < N → F k = F' k)
    (ho : ∀ q : Nat, q < H.size → H1[q]? = H[q]?) (hz : H1.size = H.size + 1) (hn : va_at (G.1, G.2.1) mw_cl (mw_ad G N, mw_ce mw_fk G.2.2.1 (mw_ad G) T M' L' F' N) H1) : mw_W G (mw_ad G) (N + 1) T F' M' L' H1 locs := by
  obtain ⟨hP, hD, hS⟩ := h
  rw [mw_l_ext hM hL hF] at hP hD
  have hP1 : va_P (G.1, G.2.1) mw_cl (mw_l mw_fk G.2.2.1 (mw_ad G) T M' L' F' N) H1 := hP.kept (fun k q hk => ho q.1 ((hP k q hk).lt))
  refine ⟨?_, ?_, ?_⟩
  · rw [mw_l_succ]
    refine hP1.app (fun k q hk => ?_)
    have h0 : k < 1 := (List.getElem?_eq_some_iff.mp hk).1
    rw [show k = 0 by omega] at hk
    cases hk
    exact hn
  · rw [mw_l_succ]
    exact hD.push hP hs.symm (Nat.le_add_right _ _)
  · exact ⟨by have := hS.1; omega, fun q h1 h2 => (ho q (by have := hS.1; omega)).trans (hS.2.1 q h1 h2), hS.2.2⟩
theorem mr_newI {t n : Nat} {atype : ArrayType} {x : Int32} (C : mw_C p m c cc nL s args own G) (h : mw_W G (mw_ad G) N T F M L H locs) (hs : H.size = G.2.2.2.size + N) (hT : T N = (t, n)) (ht : t < 5) (hmt : (mw_ty G.2.2.1)[t]? = some (G.2.2.1 t, newarray.typeOf atype)) (harr : Cond.arrayClass (newarray.typeOf atype) ∈ GT)
    (hd : defaultValue (newarray.typeOf atype) = .int 0) (hra : ∀ U : State, va_RA U (G.2.2.1 t) (newarray.typeOf atype) = (U.vm.findClass ("[" ++ (newarray.typeOf atype).toString) = some (G.2.2.1 t))) (hx0 : ¬ x < 0) (hx : x.toNatClampNeg = n) (hb : n * componentBytes (newarray.typeOf atype) ≤ 536870912) (hcells : cells + 1 ≤ R.cells) (hslots : slots + n ≤ R.slots) (hdg : decode cc pc = .ok (.newarray atype, 2))
    (kk : ∀ H1 : Heap, mw_W G (mw_ad G) (N + 1) T F (mz 0 M N) L H1 locs → H1.size = G.2.2.2.size + (N + 1) → W p l e R s m args below meth c H1 locs (cells + 1) (slots + n) Q (F0 m (pc + 2) ls (.ref (mw_ad G N) :: rest))) : W p l e R s m args below meth c H locs cells slots Q (F0 m pc ls (.int x :: rest)) := by
  obtain ⟨⟨hx', hb', hml, hown, hts⟩, hK⟩ := C
  refine va_newaK (h := mw_ad G N) hx' hb' (hts _ harr) rfl hdg rfl hx0 hx hb hcells hslots hs (fun H1 cA e1 z1 o1 hA hNm => ?_)
  have hcA : cA = G.2.2.1 t := by
    have h2 := (hK.1.2 t _ hmt).2
    rw [hra] at h2
    exact Option.some.inj (hNm.symm.trans h2)
  subst hcA
  refine kk H1 (h.grow hs (fun k hk => (mz_n (Nat.ne_of_lt hk)).symm) (fun _ _ => rfl) (fun _ _ => rfl) (fun q hq => o1 q (by rw [hs] at hq; exact hq)) (by rw [z1, hs]; rfl) ?_) (by rw [z1]; rfl)
  rw [mw_ceA hT ht, mz_s]
  show H1[mw_ad G N]? = some (vp_cell _ _)
  rw [e1, vp_cell_i, hd]
theorem mr_newL {n : Nat} {x : Int32} (C : mw_C p m c cc nL s args own G) (h : mw_W G (mw_ad G) N T F M L H locs) (hs : H.size = G.2.2.2.size + N) (hT : T N = (5, n)) (harr : Cond.arrayClass .long ∈ GT)
    (hx0 : ¬ x < 0) (hx : x.toNatClampNeg = n) (hb : n * 8 ≤ 536870912) (hcells : cells + 1 ≤ R.cells) (hslots : slots + n ≤ R.slots) (hdg : decode cc pc = .ok (.newarray .long, 2))
    (kk : ∀ H1 : Heap, mw_W G (mw_ad G) (N + 1) T F M (mz 0 L N) H1 locs → H1.size = G.2.2.2.size + (N + 1) → W p l e R s m args below meth c H1 locs (cells + 1) (slots + n) Q (F0 m (pc + 2) ls (.ref (mw_ad G N) :: rest))) : W p l e R s m args below meth c H locs cells slots Q (F0 m pc ls (.int x :: rest)) := by
  obtain ⟨⟨hx', hb', hml, hown, hts⟩, hK⟩ := C
  refine va_newaK (atype := .long) (h := mw_ad G N) hx' hb' (hts _ harr) rfl hdg rfl hx0 hx hb hcells hslots hs (fun H1 cA e1 z1 o1 hA hNm => ?_)
  have hcA : cA = G.2.2.1 5 := by
    have h2 := (hK.1.2 5 _ rfl).2
    exact Option.some.inj (hNm.symm.trans h2)
  subst hcA
  refine kk H1 (h.grow hs (fun _ _ => rfl) (fun k hk => (mz_n (Nat.ne_of_lt hk)).symm) (fun _ _ => rfl) (fun q hq => o1 q (by rw [hs] at hq; exact hq)) (by rw [z1, hs]; rfl) ?_) (by rw [z1]; rfl)
  rw [mw_ceL hT, mz_s]
  show H1[mw_ad G N]? = some (vp_cell _ _)
  rw [e1, vp_cell_l]
  rfl
/-- an array of references -/
theorem mr_anew {t n idx : Nat} {x : Int32} {C9 : String} (C : mw_C p m c cc nL s args own G) (h : mw_W G (mw_ad G) N T F M L H locs) (hs : H.size = G.2.2.2.size + N) (hT : T N = (t, n)) (h5 : 5 < t) (h9 : t < 11) (hmt : (mw_ty G.2.2.1)[t]? = some (G.2.2.1 t, .object C9)) (cl : Cond.classLink own idx C9 ∈ GT) (hover : va_AO C9 s)
    (hx0 : ¬ x < 0) (hx : x.toNatClampNeg = n) (hb : n * 4 ≤ 536870912) (hcells : cells + 1 ≤ R.cells) (hslots : slots + n ≤ R.slots) (hdg : decode cc pc = .ok (.anewarray idx, 3))
    (kk : ∀ H1 : Heap, mw_W G (mw_ad G) (N + 1) T (mz none F N) M L H1 locs → H1.size = G.2.2.2.size + (N + 1) → W p l e R s m args below meth c H1 locs (cells + 1) (slots + n) Q (F0 m (pc + 3) ls (.ref (mw_ad G N) :: rest))) : W p l e R s m args below meth c H locs cells slots Q (F0 m pc ls (.int x :: rest)) := by
  obtain ⟨⟨hx', hb', hml, hown, hts⟩, hK⟩ := C
  subst hx
  refine W.anew hx' hb' hown (hts _ cl) (va_AO.use hover) rfl hdg rfl hx0 hb hcells hslots fun cA kA comp f1 f2 f3 f4 => ?_
  have hcA : cA = G.2.2.1 t := by
    obtain ⟨_, _, _, _, _, h2⟩ := (hK.1.2 t _ hmt).2
    exact Option.some.inj (f1.symm.trans h2)
  subst hcA
  generalize hH1 : H.push ({ cls := G.2.2.1 t, slots := Array.replicate x.toNatClampNeg .null, vm := .none } : Cell) = H1
  have z1 : H1.size = H.size + 1 := by rw [← hH1, Array.size_push]
  have e1 : H1[H.size]? = some (arrV (G.2.2.1 t) x.toNatClampNeg (fun _ => .null)) := by rw [← hH1, Array.getElem?_push_size, ← arrV_new]
  have o1 : ∀ q : Nat, q < H.size → H1[q]? = H[q]? := fun q hq => by rw [← hH1, Array.getElem?_push, if_neg (Nat.ne_of_lt hq)]
  have ea : H.size = mw_ad G N := hs
  have hk := kk H1 (h.grow hs (fun _ _ => rfl) (fun _ _ => rfl) (fun k hk => (mz_n (Nat.ne_of_lt hk)).symm) o1 z1 (by
    rw [mw_ceR hT h5 h9, mz_s]
    show H1[mw_ad G N]? = some (vp_cell _ _)
    rw [← ea, e1, vp_cell_q]
    rfl)) (by rw [z1, hs]; omega)
  rw [← ea] at hk
  exact hk
/-- an object -/
theorem mr_new {ci n idx : Nat} {Cs : String} {Tt : u_T} {ty : Nat → FieldType} (C : mw_C p m c cc nL s args own G) (h : mw_W G (mw_ad G) N T F M L H locs) (hs : H.size = G.2.2.2.size + N) (kc : mw_kc ci Cs Tt ty n) (hT : T N = (11 + ci, n)) (cl : Cond.classLink own idx Cs ∈ GT) (ins : Cond.instantiable Cs n ∈ GT) (ini : Cond.initialized Cs ∈ GT)
    (hdf : ∀ j, j < n → defaultValue (ty j) = if mw_fk ci j = 0 then .int 0 else if mw_fk ci j = 1 then .long 0 else .null) (hcells : cells + 1 ≤ R.cells) (hslots : slots + n ≤ R.slots) (hdg : decode cc pc = .ok (.new idx, 3))
    (kk : ∀ H1 : Heap, mw_W G (mw_ad G) (N + 1) T (mz none F N) (mz 0 M N) (mz 0 L N) H1 locs → H1.size = G.2.2.2.size + (N + 1) → W p l e R s m args below meth c H1 locs (cells + 1) (slots + n) Q (F0 m (pc + 3) ls (.ref (mw_ad G N) :: rest))) : W p l e R s m args below meth c H locs cells slots Q (F0 m pc ls rest) := by
  obtain ⟨⟨hx', hb', hml, hown, hts⟩, hK⟩ := C
  have hKn := hK.1.1 ci _ kc.1
  refine W.newcK (h := mw_ad G N) hx' hb' hown (hts _ cl) (hts _ ins) (hts _ ini) rfl hdg hcells hslots hKn.2.1 hs fun H1 kC hkC e1 z1 o1 => ?_
  refine kk H1 (h.grow hs (fun k hk => (mz_n (Nat.ne_of_lt hk)).symm) (fun k hk => (mz_n (Nat.ne_of_lt hk)).symm) (fun k hk => (mz_n (Nat.ne_of_lt hk)).symm) (fun q hq => o1 q (by rw [hs] at hq; exact hq)) (by rw [z1, hs]; rfl) ?_) (by rw [z1]; rfl)
  rw [mw_ceO hT]
  refine ⟨_, kc.1, (u_born ty hts kc.2.1 hKn hkC e1 kc.2.2.1).to (fun j hj => ?_)⟩
  rw [hdf j hj]
  have e1 : mz (none : Option Nat) F N N j = none := by simp [mz]
  have e2 : mz (0 : Int32) M N N j = 0 := by simp [mz]
  have e3 : mz (0 : Int64) L N N j = 0 := by simp [mz]
  show _ = ((List.range n).map (mw_fv mw_fk (mw_ad G) (mz 0 M N) (mz 0 L N) (mz none F N) ci N)).getD j .null
  rw [List.getD_eq_getElem?_getD, mw_fld hj, Option.getD_some, mw_fv, e1, e2, e3]
  rfl
/-- some cells more -/
theorem mw_W.growN {N2 : Nat} {H1 : Heap} (h : mw_W G (mw_ad G) N T F M L H locs) (hs : H.size = G.2.2.2.size + N) (hNN : N ≤ N2) (hM : ∀ k, k < N → M k = M' k) (hL : ∀ k, k < N → L k = L' k) (hF : ∀ k, k < N → F k = F' k)
    (ho : ∀ q : Nat, q < H.size → H1[q]? = H[q]?) (hz : H1.size = G.2.2.2.size + N2) (hn : ∀ k, N ≤ k → k < N2 → va_at (G.1, G.2.1) mw_cl (mw_ad G k, mw_ce mw_fk G.2.2.1 (mw_ad G) T M' L' F' k) H1) : mw_W G (mw_ad G) N2 T F' M' L' H1 locs := by
  obtain ⟨hP, hD, hS⟩ := h
  rw [mw_l_ext hM hL hF] at hP hD
  have hin : ∀ (k : Nat) (q : Nat × va_E), (mw_l mw_fk G.2.2.1 (mw_ad G) T M' L' F' N2)[k]? = some q → k < N2 ∧ q = (mw_ad G k, mw_ce mw_fk G.2.2.1 (mw_ad G) T M' L' F' k) := fun k q hk => by
    have hk2 : k < N2 := by
      have := (List.getElem?_eq_some_iff.mp hk).1
      rwa [mw_len] at this
    rw [mw_at hk2] at hk
    exact ⟨hk2, (Option.some.inj hk).symm⟩
  refine ⟨fun k q hk => ?_, ⟨fun i j a b hi hj hab => ?_, fun k q hk => ?_⟩, ?_⟩
  · obtain ⟨h1, rfl⟩ := hin k q hk
    by_cases hkN : k < N
    · exact (hP k _ (mw_at hkN)).kept (ho _ (by show G.2.2.2.size + k < _; omega))
    · exact hn k (by omega) h1
  · obtain ⟨-, rfl⟩ := hin i a hi
    obtain ⟨-, rfl⟩ := hin j b hj
    have : G.2.2.2.size + i = G.2.2.2.size + j := hab
    omega
  · obtain ⟨-, rfl⟩ := hin k q hk
    exact Nat.le_add_right _ _
  · exact ⟨by omega, fun q h1 h2 => (ho q (by omega)).trans (hS.2.1 q h1 h2), hS.2.2⟩
def mrow (F : mwF) (N n : Nat) : mwF := fun a j => if a = N then (if j < n then some (N + 1 + j) else none) else F a j
def mzr (M : mwM) (N n : Nat) : mwM := fun a j => if N < a ∧ a < N + 1 + n then 0 else M a j
theorem mw_outer (c : ClassId) (n h0 : Nat) : ∀ i : Nat, Jvm.Free.Multi.outerC c n h0 i = arrV c n (fun j => va_rf (if j < i then some (h0 + 1 + j) else none))
  | 0 => by
    show ({ cls := c, slots := Array.replicate n .null, vm := .none } : Cell) = _
    rw [arrV_new]
    refine congrArg (arrV c n) (funext fun j => ?_)
    simp [va_rf]
  | i + 1 => by
    show (Jvm.Free.Multi.outerC c n h0 i).setSlot i (.ref (h0 + 1 + i)) = _
    rw [mw_outer c n h0 i, arrV_store]
    refine congrArg (arrV c n) (funext fun j => ?_)
    by_cases e : j = i
    · subst e
      simp [updV, va_rf]
    · by_cases h : j < i
      · simp [updV, e, h, Nat.lt_succ_of_lt h]
      · simp [updV, e, h, show ¬ j < i + 1 by omega]
/-- new int[n][k] -/
theorem mr_mna {n k idx : Nat} {x y : Int32} (C : mw_C p m c cc nL s args own G) (h : mw_W G (mw_ad G) N T F M L H locs) (hs : H.size = G.2.2.2.size + N) (hT : T N = (6, n)) (hTr : ∀ i, i < n → T (N + 1 + i) = (0, k)) (cl : Cond.classLink own idx "[[I" ∈ GT) (hover : (Cond.arrayOver (.array .int)).before args s = true) (harr : Cond.arrayClass .int ∈ GT)
    (hx0 : ¬ x < 0) (hy0 : ¬ y < 0) (hx : x.toNatClampNeg = n) (hy : y.toNatClampNeg = k) (hb1 : n * 4 ≤ 536870912) (hb2 : k * 4 ≤ 536870912) (hcells : cells + (1 + n) ≤ R.cells) (hslots : slots + (n + n * k) ≤ R.slots) (hdg : decode cc pc = .ok (.multianewarray idx 2, 4))
    (kk : ∀ H1 : Heap, mw_W G (mw_ad G) (N + 1 + n) T (mrow F N n) (mzr M N n) L H1 locs → H1.size = G.2.2.2.size + (N + 1 + n) → W p l e R s m args below meth c H1 locs (cells + 1 + n) (slots + n + n * k) Q (F0 m (pc + 4) ls (.ref (mw_ad G N) :: rest))) : W p l e R s m args below meth c H locs cells slots Q (F0 m pc ls (.int y :: .int x :: rest)) := by
  obtain ⟨⟨hx', hb', hml, hown, hts⟩, hK⟩ := C
  subst hx
  subst hy
  intro T9 hT9 Xs
  obtain ⟨vm₁, cA, comp, -, fA, fC, hO, -, X', step⟩ := Xs.multianewarray2F (ty := .int) hx' hown (hts _ cl) hover (hts _ harr) (g := F0 m pc ls (.int y :: .int x :: rest)) rfl (by rw [hb']; exact hdg) rfl hx0 hy0 hb1 hb2 (by omega) rfl rfl hcells hslots
  have h6 : cA = G.2.2.1 6 := Option.some.inj (fA.symm.trans (hK.1.2 6 _ rfl).2)
  have h0 : comp = G.2.2.1 0 := Option.some.inj (fC.symm.trans (hK.1.2 0 _ rfl).2)
  subst h6
  subst h0
  generalize hF9 : Jvm.Free.Multi.fill (T9.setVm vm₁) (G.2.2.1 6) (G.2.2.1 0) x.toNatClampNeg y.toNatClampNeg (defaultValue .int) x.toNatClampNeg = F9 at X' step
  have hTh : (T9.setVm vm₁).heap = H := hT9
  obtain ⟨f1, f2, -, -⟩ := Jvm.Free.Multi.fill_facts (T9.setVm vm₁) (G.2.2.1 6) (G.2.2.1 0) x.toNatClampNeg y.toNatClampNeg (defaultValue .int) x.toNatClampNeg
  rw [hF9, hTh] at f1 f2
  have hold : ∀ q : Nat, q < H.size → F9.heap[q]? = H[q]? := fun q hq => by
    have := Jvm.Free.Multi.fill_old (T9.setVm vm₁) (G.2.2.1 6) (G.2.2.1 0) x.toNatClampNeg y.toNatClampNeg (defaultValue .int) (a := q) (by rw [hTh]; exact hq) x.toNatClampNeg
    rw [hF9, hTh] at this
    exact this
  have hrow : ∀ j : Nat, j < x.toNatClampNeg → F9.heap[H.size + 1 + j]? = some (Jvm.Free.Multi.innerC (G.2.2.1 0) y.toNatClampNeg (defaultValue .int)) := fun j hj => by
    have := Jvm.Free.Multi.fill_inner (T9.setVm vm₁) (G.2.2.1 6) (G.2.2.1 0) x.toNatClampNeg y.toNatClampNeg (defaultValue .int) x.toNatClampNeg j hj
    rw [hF9, hTh] at this
    exact this
  have hz : F9.heap.size = G.2.2.2.size + (N + 1 + x.toNatClampNeg) := by rw [f1, hs]; omega
  have hw : mw_W G (mw_ad G) (N + 1 + x.toNatClampNeg) T (mrow F N x.toNatClampNeg) (mzr M N x.toNatClampNeg) L F9.heap locs := by
    refine h.growN hs (by omega) (fun a ha => ?_) (fun _ _ => rfl) (fun a ha => ?_) hold hz (fun a h1 h2 => ?_)
    · funext j
      simp [mzr, show ¬ (N < a ∧ a < N + 1 + x.toNatClampNeg) by omega]
    · funext j
      simp [mrow, show ¬ a = N by omega]
    · by_cases haN : a = N
      · subst haN
        rw [mw_ceR hT (by decide) (by decide)]
        show F9.heap[mw_ad G a]? = some (vp_cell _ _)
        rw [show mw_ad G a = H.size from hs.symm, f2, vp_cell_q, mw_outer]
        refine congrArg (fun z => some (arrV _ _ z)) (funext fun j => congrArg va_rf ?_)
        by_cases hj : j < x.toNatClampNeg
        · simp [mrow, hj, mw_ad, hs]
          omega
        · simp [mrow, hj]
      · obtain ⟨i, rfl⟩ : ∃ i, a = N + 1 + i := ⟨a - (N + 1), by omega⟩
        rw [mw_ceA (hTr i (by omega)) (by decide)]
        show F9.heap[mw_ad G (N + 1 + i)]? = some (vp_cell _ _)
        rw [show mw_ad G (N + 1 + i) = H.size + 1 + i by show G.2.2.2.size + _ = _; omega, hrow i (by omega), vp_cell_i]
        have e : mzr M N x.toNatClampNeg (N + 1 + i) = fun _ => 0 := by
          funext j
          simp [mzr, show N < N + 1 + i by omega, show N + 1 + i < N + 1 + x.toNatClampNeg by omega]
        rw [e]
        show some ({ cls := _, slots := Array.replicate _ _, vm := .none } : Cell) = _
        rw [arrV_new]
        rfl
  obtain ⟨t, a1, b1⟩ := kk F9.heap hw hz F9 rfl X'
  refine ⟨t, step t ?_, b1⟩
  rw [show T9.heap.size = mw_ad G N by rw [hT9]; exact hs]
  exact a1
end MB
