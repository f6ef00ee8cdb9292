/-! ROWS over what lies in the heap before the start: statics, tables, String constants; String's own members over these constants -/
section MK
variable {p : Program} {l : Launch} {e : Env} {R : Room} {s : State} {m : MethodId} {args : Array Value} {below : List Frame} {meth : Method} {c : Code} {H : Heap} {locs : List Loc} {cells slots : Nat} {Q : State → Prop}
variable {cc : ByteArray} {pc nL : Nat} {ls : Array Slot} {rest : List Value} {own : String}
variable {G : mwG} {ad : Nat → Nat} {N : Nat} {T : mwT} {F : mwF} {M M1 : mwM} {L L1 : mwL}
variable {idx : Nat} {y : MethodName} {bytes : ByteArray} {maxL na : Nat} {ret : Option FieldType} {rm : Room} {As : List Value}
/-- the heap is as it was at the beginning, outside of the world -/
theorem mx_S {T9 : State} (X : Stand p l e R s m args below meth c T9 locs cells slots) (hT : T9.heap = H) (h0 : mw_W G ad N T F M1 L1 s.heap []) (h : mw_W G ad N T F M L H locs) : va_S (mw_fr G) s.heap H locs := by
  have hz := (vx_frame X.same).1
  rw [← hT] at h ⊢
  refine ⟨hz, fun q h1 h2 => ?_, h.2.2.2.2⟩
  have hq : q < G.2.2.2.size := Nat.not_le.mp h2
  rw [h.2.2.2.1 q hq h2, h0.2.2.2.1 q hq h2]
theorem mk_kept (h0 : mw_W G ad N T F M1 L1 s.heap []) : ∀ a : Nat, a < G.2.2.2.size → ¬ mw_fr G a → s.heap[a]? = G.2.2.2[a]? := fun a h1 h2 => h0.2.2.2.1 a h1 h2
/-- a static field that never changes -/
theorem mr_gets {C n d ref : String} {v : Value} {index : Nat} (K : mw_C p m c cc nL s args own G) (h0 : mw_W G ad N T F M1 L1 s.heap []) (h : mw_W G ad N T F M L H locs) (hZ : va_Z C n d v (mw_fr G) s G.2.2.2) (lk : Cond.fieldLink own index ref n d ∈ GT) (hsame : ∀ x, s.fieldFound? C n d = some x → s.fieldFound? ref n d = some x) (hdg : decode cc pc = .ok (.getstatic index, 3))
    (kk : W p l e R s m args below meth c H locs cells slots Q (F0 m (pc + 3) ls (v :: rest))) : W p l e R s m args below meth c H locs cells slots Q (F0 m pc ls rest) := by
  intro T9 hT9 X9
  exact va_gets K.1.1 K.1.2.1 (hZ.kept (mk_kept h0)) (mx_S X9 hT9 h0 h) K.1.2.2.2.1 (K.1.2.2.2.2 _ lk) hsame hdg kk T9 hT9 X9
/-- a field of an object that never changes -/
theorem mr_getk {o n d ref : String} {v : Value} {index q : Nat} (K : mw_C p m c cc nL s args own G) (h0 : mw_W G ad N T F M1 L1 s.heap []) (h : mw_W G ad N T F M L H locs) (hE : va_OF o n d v q (mw_fr G) s G.2.2.2) (lk : Cond.fieldLink own index ref n d ∈ GT) (hsame : ∀ x, s.fieldFound? o n d = some x → s.fieldFound? ref n d = some x) (hdg : decode cc pc = .ok (.getfield index, 3))
    (kk : W p l e R s m args below meth c H locs cells slots Q (F0 m (pc + 3) ls (v :: rest))) : W p l e R s m args below meth c H locs cells slots Q (F0 m pc ls (.ref q :: rest)) := by
  intro T9 hT9 X9
  exact vk_getf K.1.1 K.1.2.1 (hE.kept (mk_kept h0)) (mx_S X9 hT9 h0 h) K.1.2.2.2.1 (K.1.2.2.2.2 _ lk) hsame hdg kk T9 hT9 X9
/-- an element of a table of ints, of bytes; a table's length -/
theorem mr_tint {t n : Nat} {f : Nat → Value} {i : Int32} {v : Value} (K : mw_C p m c cc nL s args own G) (h0 : mw_W G ad N T F M1 L1 s.heap []) (h : mw_W G ad N T F M L H locs) (hT : va_T .int t n f (mw_fr G) s G.2.2.2) (hin : vp_in i n) (hv : f i.toNatClampNeg = v) (hdg : decode cc pc = .ok (.iaload, 1))
    (kk : W p l e R s m args below meth c H locs cells slots Q (F0 m (pc + 1) ls (v :: rest))) : W p l e R s m args below meth c H locs cells slots Q (F0 m pc ls (.int i :: .ref t :: rest)) := by
  intro T9 hT9 X9
  exact va_ti K.1.1 K.1.2.1 (hT.kept (mk_kept h0)) (mx_S X9 hT9 h0 h) hin hv hdg kk T9 hT9 X9
theorem mr_tbyte {t n : Nat} {f : Nat → Value} {i : Int32} {v : Value} (K : mw_C p m c cc nL s args own G) (h0 : mw_W G ad N T F M1 L1 s.heap []) (h : mw_W G ad N T F M L H locs) (hT : va_T .byte t n f (mw_fr G) s G.2.2.2) (hin : vp_in i n) (hv : f i.toNatClampNeg = v) (hdg : decode cc pc = .ok (.baload, 1))
    (kk : W p l e R s m args below meth c H locs cells slots Q (F0 m (pc + 1) ls (v :: rest))) : W p l e R s m args below meth c H locs cells slots Q (F0 m pc ls (.int i :: .ref t :: rest)) := by
  intro T9 hT9 X9
  exact va_tb K.1.1 K.1.2.1 (hT.kept (mk_kept h0)) (mx_S X9 hT9 h0 h) hin hv hdg kk T9 hT9 X9
theorem mr_tlen {ty : FieldType} {t n : Nat} {f : Nat → Value} {v : Int32} (K : mw_C p m c cc nL s args own G) (h0 : mw_W G ad N T F M1 L1 s.heap []) (h : mw_W G ad N T F M L H locs) (hT : va_T ty t n f (mw_fr G) s G.2.2.2) (hv : Int32.ofNat n = v) (hdg : decode cc pc = .ok (.arraylength, 1))
    (kk : W p l e R s m args below meth c H locs cells slots Q (F0 m (pc + 1) ls (.int v :: rest))) : W p l e R s m args below meth c H locs cells slots Q (F0 m pc ls (.ref t :: rest)) := by
  intro T9 hT9 X9
  exact va_tlen K.1.1 K.1.2.1 (hT.kept (mk_kept h0)) (mx_S X9 hT9 h0 h) hv hdg kk T9 hT9 X9
/-- a String constant -/
theorem mr_ldcS {i k : Nat} (K : mw_C p m c cc nL s args "CarHouse$Reader" G) (hi : i < 8) (hk : (mw_stx.getD i (0, "")).1 = k) (hdg : decode cc pc = .ok (.ldc k, 2))
    (kk : W p l e R s m args below meth c H locs cells slots Q (F0 m (pc + 2) ls (.ref (G.2.1 1000 i) :: rest))) : W p l e R s m args below meth c H locs cells slots Q (F0 m pc ls rest) := by
  subst hk
  exact va_ldcS K.1.1 K.1.2.1 K.1.2.2.2.1 (K.2.2.2.2.2.2.2 i hi).1 hdg kk
theorem mr_ldcSW {i k : Nat} (K : mw_C p m c cc nL s args "CarHouse$Reader" G) (hi : i < 8) (hk : (mw_stx.getD i (0, "")).1 = k) (hdg : decode cc pc = .ok (.ldc_w k, 3))
    (kk : W p l e R s m args below meth c H locs cells slots Q (F0 m (pc + 3) ls (.ref (G.2.1 1000 i) :: rest))) : W p l e R s m args below meth c H locs cells slots Q (F0 m pc ls rest) := by
  subst hk
  have hZ := (K.2.2.2.2.2.2.2 i hi).1
  intro T9 hT9 X9
  obtain ⟨t, a1, b1⟩ := kk T9 hT9 X9
  exact ⟨t, X9.ldcStringW K.1.1 K.1.2.2.2.1 (text := (mw_stx.getD i (0, "")).2) (a := G.2.1 1000 i) hZ.1 hZ.2 (g := F0 m pc ls rest) rfl (by rw [K.1.2.1]; exact hdg) t a1, b1⟩
/-- a method of a String constant is called -/
theorem md_kvI {i : Nat} {r0 : Int32} {M0 : mwM} {L0 : mwL} (C : mw_C p m c cc nL s args own G) (h : mw_W G ad N T F M L H locs) (hM : Met l y (Cond.code y bytes maxL ret :: GT) rm (mw_Pre G ad N T F M L (.ref (G.2.1 1000 i) :: As)) (mw_Qi G ad N T F (mw_eqI r0 M0 L0)) 0 0 (mw_fr G))
    (hyc : y.cls = "java/lang/String") (hi : i < 8) (ml : Cond.methodLink own idx y ∈ GT) (cw : mw_cwV y bytes maxL ret na) (hR : rm.frames + 1 ≤ R.frames ∧ 8 + (maxL + 11) + rm.locals ≤ R.locals)
    (hn : As.length = na) (hl : ls.size = nL) (hc : (rest.map fun v => v.category).sum ≤ 8) (hdg : decode cc pc = .ok (.invokevirtual idx, 3)) (hrc : rm.cells = 0) (hrs : rm.slots = 0) (hf : cells ≤ R.cells ∧ slots ≤ R.slots) {st0 : List Value} (hst : st0 = As.reverse ++ .ref (G.2.1 1000 i) :: rest)
    (kk : ∀ (H1 : Heap) (locs1 : List Loc), mw_W G ad N T F M0 L0 H1 locs1 → W p l e R s m args below meth c H1 locs1 cells slots Q (F0 m (pc + 3) ls (.int r0 :: rest))) : W p l e R s m args below meth c H locs cells slots Q (F0 m pc ls st0) := by
  subst hst
  have hp : PreV s H y.cls (G.2.1 1000 i) (mw_Pre G ad N T F M L (.ref (G.2.1 1000 i) :: As)) As := by
    refine ⟨mw_blind, ?_, fun U hU hW => ⟨rfl, by rw [hU]; exact h.drop, C.2.warm hW⟩⟩
    obtain ⟨cell, h1, h2, h3, -⟩ := (C.2.2.2.2.2.2.2 i hi).2.1.kept h.2.2.2.1
    rw [hyc]
    exact ⟨cell, h1, h2, h3⟩
  refine mr_call (W.runV (C := y.cls) C.1 hM ⟨mw_callB C ml cw.1.1 cw.1.2.1 hrc hrs cw.1.2.2 hR, C.1.2.2.2.2 _ cw.2.1, C.1.2.2.2.2 _ cw.2.2⟩ hp rfl hn hl rfl (lv_room hc) hdg hf) h.locs (fun v st₀ t locs1 hl1 hq => ?_)
  obtain ⟨r, M1, L1, ho, hp, hw⟩ := hq
  cases ho
  cases hp
  exact kk t.heap locs1 (hw.with hl1)
/-- a static method that answers nothing -/
theorem md_csV {M0 : mwM} {L0 : mwL} (C : mw_C p m c cc nL s args own G) (h : mw_W G ad N T F M L H locs) (hM : Met l y (Cond.code y bytes maxL ret :: GT) rm (mw_Pre G ad N T F M L As) (mw_Qv G ad N T F (mw_eqV M0 L0)) 0 0 (mw_fr G))
    (ml : Cond.methodLink own idx y ∈ GT) (cw : mw_cwS y bytes maxL ret na) (hR : rm.frames + 1 ≤ R.frames ∧ 8 + (maxL + 11) + rm.locals ≤ R.locals)
    (hn : As.length = na) (hl : ls.size = nL) (hc : (rest.map fun v => v.category).sum ≤ 8) (hdg : decode cc pc = .ok (.invokestatic idx, 3)) (hrc : rm.cells = 0) (hrs : rm.slots = 0) (hf : cells ≤ R.cells ∧ slots ≤ R.slots) {st0 : List Value} (hst : st0 = As.reverse ++ rest)
    (kk : ∀ (H1 : Heap) (locs1 : List Loc), mw_W G ad N T F M0 L0 H1 locs1 → W p l e R s m args below meth c H1 locs1 cells slots Q (F0 m (pc + 3) ls rest)) : W p l e R s m args below meth c H locs cells slots Q (F0 m pc ls st0) := by
  subst hst
  refine mr_call (W.runS C.1 hM ⟨mw_callB C ml cw.1.1 cw.1.2.1 hrc hrs cw.1.2.2 hR, C.1.2.2.2.2 _ cw.2⟩ (mw_pre C h) rfl hn hl rfl (lv_room hc) hdg hf) h.locs (fun v st₀ t locs1 hl1 hq => ?_)
  obtain ⟨M1, L1, ho, hp, hw⟩ := hq
  cases ho
  cases hp
  exact kk t.heap locs1 (hw.with hl1)
end MK
/-- the char at place k of the constant i -/
abbrev cJ_coder : ByteArray := prog_29_method_152_code
def yJ_coder : MethodName := ⟨"java/lang/String", "coder", "()B"⟩
theorem dJ_coder_0 : decode cJ_coder 0 = .ok (.getstatic 38, 3) := by decide +kernel
theorem dJ_coder_3 : decode cJ_coder 3 = .ok (.ifCond .eq 10, 3) := by decide +kernel
theorem dJ_coder_6 : decode cJ_coder 6 = .ok (.aload_n 0, 1) := by decide +kernel
theorem dJ_coder_7 : decode cJ_coder 7 = .ok (.getfield 15, 3) := by decide +kernel
theorem dJ_coder_10 : decode cJ_coder 10 = .ok (.goto 4, 3) := by decide +kernel
theorem dJ_coder_14 : decode cJ_coder 14 = .ok (.ireturn, 1) := by decide +kernel
theorem cwJ_coder : mw_cwV yJ_coder cJ_coder 1 (some .byte) 0 := ⟨⟨wd_26, wd_850, by decide +kernel⟩, wd_848, wd_849⟩
abbrev cJ_isl : ByteArray := prog_29_method_154_code
def yJ_isl : MethodName := ⟨"java/lang/String", "isLatin1", "()Z"⟩
theorem dJ_isl_0 : decode cJ_isl 0 = .ok (.getstatic 38, 3) := by decide +kernel
theorem dJ_isl_3 : decode cJ_isl 3 = .ok (.ifCond .eq 14, 3) := by decide +kernel
theorem dJ_isl_6 : decode cJ_isl 6 = .ok (.aload_n 0, 1) := by decide +kernel
theorem dJ_isl_7 : decode cJ_isl 7 = .ok (.getfield 15, 3) := by decide +kernel
theorem dJ_isl_10 : decode cJ_isl 10 = .ok (.ifCond .ne 7, 3) := by decide +kernel
theorem dJ_isl_13 : decode cJ_isl 13 = .ok (.iconst 1, 1) := by decide +kernel
theorem dJ_isl_14 : decode cJ_isl 14 = .ok (.goto 4, 3) := by decide +kernel
theorem dJ_isl_18 : decode cJ_isl 18 = .ok (.ireturn, 1) := by decide +kernel
theorem cwJ_isl : mw_cwV yJ_isl cJ_isl 1 (some .boolean) 0 := ⟨⟨wd_26, wd_860, by decide +kernel⟩, wd_858, wd_859⟩
abbrev cJ_len : ByteArray := prog_29_method_54_code
def yJ_len : MethodName := ⟨"java/lang/String", "length", "()I"⟩
theorem dJ_len_0 : decode cJ_len 0 = .ok (.aload_n 0, 1) := by decide +kernel
theorem dJ_len_1 : decode cJ_len 1 = .ok (.getfield 9, 3) := by decide +kernel
theorem dJ_len_4 : decode cJ_len 4 = .ok (.arraylength, 1) := by decide +kernel
theorem dJ_len_5 : decode cJ_len 5 = .ok (.aload_n 0, 1) := by decide +kernel
theorem dJ_len_6 : decode cJ_len 6 = .ok (.invokevirtual 335, 3) := by decide +kernel
theorem dJ_len_9 : decode cJ_len 9 = .ok (.ishr, 1) := by decide +kernel
theorem dJ_len_10 : decode cJ_len 10 = .ok (.ireturn, 1) := by decide +kernel
theorem cwJ_len : mw_cwV yJ_len cJ_len 1 (some .int) 0 := ⟨⟨wd_26, wd_846, by decide +kernel⟩, wd_844, wd_845⟩
abbrev cJ_pch : ByteArray := prog_33_method_11_code
def yJ_pch : MethodName := ⟨"jdk/internal/util/Preconditions", "checkIndex", "(IILjava/util/function/BiFunction;)I"⟩
theorem dJ_pch_0 : decode cJ_pch 0 = .ok (.iload_n 0, 1) := by decide +kernel
theorem dJ_pch_1 : decode cJ_pch 1 = .ok (.ifCond .lt 8, 3) := by decide +kernel
theorem dJ_pch_4 : decode cJ_pch 4 = .ok (.iload_n 0, 1) := by decide +kernel
theorem dJ_pch_5 : decode cJ_pch 5 = .ok (.iload_n 1, 1) := by decide +kernel
theorem dJ_pch_6 : decode cJ_pch 6 = .ok (.if_icmp .lt 10, 3) := by decide +kernel
theorem dJ_pch_16 : decode cJ_pch 16 = .ok (.iload_n 0, 1) := by decide +kernel
theorem dJ_pch_17 : decode cJ_pch 17 = .ok (.ireturn, 1) := by decide +kernel
theorem cwJ_pch : mw_cwS yJ_pch cJ_pch 3 (some .int) 3 := ⟨⟨wd_28, wd_871, by decide +kernel⟩, wd_870⟩
abbrev cJ_sch : ByteArray := prog_29_method_155_code
def yJ_sch : MethodName := ⟨"java/lang/String", "checkIndex", "(II)V"⟩
theorem dJ_sch_0 : decode cJ_sch 0 = .ok (.iload_n 0, 1) := by decide +kernel
theorem dJ_sch_1 : decode cJ_sch 1 = .ok (.iload_n 1, 1) := by decide +kernel
theorem dJ_sch_2 : decode cJ_sch 2 = .ok (.getstatic 1053, 3) := by decide +kernel
theorem dJ_sch_5 : decode cJ_sch 5 = .ok (.invokestatic 1059, 3) := by decide +kernel
theorem dJ_sch_8 : decode cJ_sch 8 = .ok (.pop, 1) := by decide +kernel
theorem dJ_sch_9 : decode cJ_sch 9 = .ok (.return_, 1) := by decide +kernel
theorem cwJ_sch : mw_cwS yJ_sch cJ_sch 2 (none) 2 := ⟨⟨wd_26, wd_866, by decide +kernel⟩, wd_865⟩
abbrev cJ_lat : ByteArray := prog_30_method_2_code
def yJ_lat : MethodName := ⟨"java/lang/StringLatin1", "charAt", "([BI)C"⟩
theorem dJ_lat_0 : decode cJ_lat 0 = .ok (.iload_n 1, 1) := by decide +kernel
theorem dJ_lat_1 : decode cJ_lat 1 = .ok (.aload_n 0, 1) := by decide +kernel
theorem dJ_lat_2 : decode cJ_lat 2 = .ok (.arraylength, 1) := by decide +kernel
theorem dJ_lat_3 : decode cJ_lat 3 = .ok (.invokestatic 9, 3) := by decide +kernel
theorem dJ_lat_6 : decode cJ_lat 6 = .ok (.aload_n 0, 1) := by decide +kernel
theorem dJ_lat_7 : decode cJ_lat 7 = .ok (.iload_n 1, 1) := by decide +kernel
theorem dJ_lat_8 : decode cJ_lat 8 = .ok (.baload, 1) := by decide +kernel
theorem dJ_lat_9 : decode cJ_lat 9 = .ok (.sipush 255, 3) := by decide +kernel
theorem dJ_lat_12 : decode cJ_lat 12 = .ok (.iand, 1) := by decide +kernel
theorem dJ_lat_13 : decode cJ_lat 13 = .ok (.i2c, 1) := by decide +kernel
theorem dJ_lat_14 : decode cJ_lat 14 = .ok (.ireturn, 1) := by decide +kernel
theorem cwJ_lat : mw_cwS yJ_lat cJ_lat 2 (some .char) 2 := ⟨⟨wd_27, wd_863, by decide +kernel⟩, wd_862⟩
abbrev cJ_cha : ByteArray := prog_29_method_56_code
def yJ_cha : MethodName := ⟨"java/lang/String", "charAt", "(I)C"⟩
theorem dJ_cha_0 : decode cJ_cha 0 = .ok (.aload_n 0, 1) := by decide +kernel
theorem dJ_cha_1 : decode cJ_cha 1 = .ok (.invokevirtual 492, 3) := by decide +kernel
theorem dJ_cha_4 : decode cJ_cha 4 = .ok (.ifCond .eq 12, 3) := by decide +kernel
theorem dJ_cha_7 : decode cJ_cha 7 = .ok (.aload_n 0, 1) := by decide +kernel
theorem dJ_cha_8 : decode cJ_cha 8 = .ok (.getfield 9, 3) := by decide +kernel
theorem dJ_cha_11 : decode cJ_cha 11 = .ok (.iload_n 1, 1) := by decide +kernel
theorem dJ_cha_12 : decode cJ_cha 12 = .ok (.invokestatic 495, 3) := by decide +kernel
theorem dJ_cha_15 : decode cJ_cha 15 = .ok (.ireturn, 1) := by decide +kernel
theorem cwJ_cha : mw_cwV yJ_cha cJ_cha 2 (some .char) 1 := ⟨⟨wd_26, wd_856, by decide +kernel⟩, wd_854, wd_855⟩
theorem tJ_coder (l : Launch) (G : mwG) (ad : Nat → Nat) (N : Nat) (T : mwT) (F : mwF) (M : mwM) (L : mwL) {i : Nat} (hi : i < 8) : Met l yJ_coder (Cond.code yJ_coder cJ_coder 1 (some .byte) :: GT) ({ frames := 0, cells := 0, slots := 0, locals := 0 }) (mw_Pre G ad N T F M L [.ref (G.2.1 1000 i)]) (mw_Qi G ad N T F (mw_eqI (0) M L)) 0 0 (mw_fr G) := by
  refine mw_enter (by decide) (Nat.le_of_ble_eq_true rfl) ?_
  intro p e s m below meth c ls C hr hlocks hnm hw hl
  have hw0 := hw
  have hl : lv_has ls 1 [(0, .ref (G.2.1 1000 i))] := hl
  refine mr_gets C hw0 hw C.2.2.2.2.2.1 wd_851 (fun _ q => q) dJ_coder_0 ?_
  refine lv_if_eq (tgt := 13) C.1.1 C.1.2.1 dJ_coder_3 (by decide) (fun c => absurd c (by decide)) (fun c => ?_)
  refine lv_aload_n C.1.1 C.1.2.1 dJ_coder_6 rfl (lv_at hl 0 rfl) ?_
  refine mr_getk C hw0 hw (C.2.2.2.2.2.2.2 i hi).2.2.1 wd_4340 (fun _ q => q) dJ_coder_7 ?_
  refine lv_goto (tgt := 14) C.1.1 C.1.2.1 dJ_coder_10 (by decide) ?_
  exact mr_iret C hr hlocks hw (by decide +kernel) rfl dJ_coder_14
theorem tJ_isl (l : Launch) (G : mwG) (ad : Nat → Nat) (N : Nat) (T : mwT) (F : mwF) (M : mwM) (L : mwL) {i : Nat} (hi : i < 8) : Met l yJ_isl (Cond.code yJ_isl cJ_isl 1 (some .boolean) :: GT) ({ frames := 0, cells := 0, slots := 0, locals := 0 }) (mw_Pre G ad N T F M L [.ref (G.2.1 1000 i)]) (mw_Qi G ad N T F (mw_eqI (1) M L)) 0 0 (mw_fr G) := by
  refine mw_enter (by decide) (Nat.le_of_ble_eq_true rfl) ?_
  intro p e s m below meth c ls C hr hlocks hnm hw hl
  have hw0 := hw
  have hl : lv_has ls 1 [(0, .ref (G.2.1 1000 i))] := hl
  refine mr_gets C hw0 hw C.2.2.2.2.2.1 wd_851 (fun _ q => q) dJ_isl_0 ?_
  refine lv_if_eq (tgt := 17) C.1.1 C.1.2.1 dJ_isl_3 (by decide) (fun c => absurd c (by decide)) (fun c => ?_)
  refine lv_aload_n C.1.1 C.1.2.1 dJ_isl_6 rfl (lv_at hl 0 rfl) ?_
  refine mr_getk C hw0 hw (C.2.2.2.2.2.2.2 i hi).2.2.1 wd_4340 (fun _ q => q) dJ_isl_7 ?_
  refine lv_if_ne (tgt := 17) C.1.1 C.1.2.1 dJ_isl_10 (by decide) (fun c => absurd rfl c) (fun c => ?_)
  refine lv_iconst (v := 1) C.1.1 C.1.2.1 dJ_isl_13 (by decide) ?_
  refine lv_goto (tgt := 18) C.1.1 C.1.2.1 dJ_isl_14 (by decide) ?_
  exact mr_iret C hr hlocks hw (by decide +kernel) rfl dJ_isl_18
theorem tJ_len (l : Launch) (G : mwG) (ad : Nat → Nat) (N : Nat) (T : mwT) (F : mwF) (M : mwM) (L : mwL) {i : Nat} (hi : i < 8) : Met l yJ_len (Cond.code yJ_len cJ_len 1 (some .int) :: GT) ({ frames := 1, cells := 0, slots := 0, locals := 20 }) (mw_Pre G ad N T F M L [.ref (G.2.1 1000 i)]) (mw_Qi G ad N T F (mw_eqI (Int32.ofNat (mw_slen.getD i 0)) M L)) 0 0 (mw_fr G) := by
  refine mw_enter (by decide) (Nat.le_of_ble_eq_true rfl) ?_
  intro p e s m below meth c ls C hr hlocks hnm hw hl
  have hw0 := hw
  have hl : lv_has ls 1 [(0, .ref (G.2.1 1000 i))] := hl
  refine lv_aload_n C.1.1 C.1.2.1 dJ_len_0 rfl (lv_at hl 0 rfl) ?_
  refine mr_getk C hw0 hw (C.2.2.2.2.2.2.2 i hi).2.2.2.1 wd_4339 (fun _ q => q) dJ_len_1 ?_
  refine mr_tlen C hw0 hw (C.2.2.2.2.2.2.2 i hi).2.2.2.2 rfl dJ_len_4 ?_
  refine lv_aload_n C.1.1 C.1.2.1 dJ_len_5 rfl (lv_at hl 0 rfl) ?_
  refine md_kvI (As := []) (rest := [.int (Int32.ofNat (mw_slen.getD i 0))]) C hw (tJ_coder l G ad N T F M L hi) rfl hi wd_847 cwJ_coder ⟨Nat.le_of_ble_eq_true rfl, Nat.le_of_ble_eq_true rfl⟩ rfl hl.1 (Nat.le_of_ble_eq_true rfl) dJ_len_6 rfl rfl ⟨Nat.zero_le _, Nat.zero_le _⟩ rfl (fun H locs hw => ?_)
  refine lv_ishr C.1.1 C.1.2.1 dJ_len_9 ?_
  refine mr_iret C hr hlocks hw rfl ?_ dJ_len_10
  show (_, M, L) = (_, M, L)
  rw [show ((0 : Int32) &&& 31) = 0 from by decide, Int32.shiftRight_zero]
theorem tJ_pch (l : Launch) (G : mwG) (ad : Nat → Nat) (N : Nat) (T : mwT) (F : mwF) (M : mwM) (L : mwL) {a b : Int32} {v : Value} (hv : v = .null ∨ ∃ t, v = .ref t) (h0 : ¬ a < 0) (h1 : a < b) : Met l yJ_pch (Cond.code yJ_pch cJ_pch 3 (some .int) :: GT) ({ frames := 0, cells := 0, slots := 0, locals := 0 }) (mw_Pre G ad N T F M L [.int a, .int b, v]) (mw_Qi G ad N T F (mw_eqI (a) M L)) 0 0 (mw_fr G) := by
  rcases hv with rfl | ⟨t, rfl⟩
  all_goals
    refine mw_enter (by decide) (Nat.le_of_ble_eq_true rfl) ?_
    intro p e s m below meth c ls C hr hlocks hnm hw hl
    refine lv_iload_n C.1.1 C.1.2.1 dJ_pch_0 rfl (lv_at hl 0 rfl) ?_
    refine lv_if_lt (tgt := 9) C.1.1 C.1.2.1 dJ_pch_1 (by decide) (fun c => absurd c h0) (fun c => ?_)
    refine lv_iload_n C.1.1 C.1.2.1 dJ_pch_4 rfl (lv_at hl 0 rfl) ?_
    refine lv_iload_n C.1.1 C.1.2.1 dJ_pch_5 rfl (lv_at hl 1 rfl) ?_
    refine lv_icmp_lt (tgt := 16) C.1.1 C.1.2.1 dJ_pch_6 (by decide) (fun c => ?_) (fun c => absurd h1 c)
    refine lv_iload_n C.1.1 C.1.2.1 dJ_pch_16 rfl (lv_at hl 0 rfl) ?_
    exact mr_iret C hr hlocks hw rfl rfl dJ_pch_17
theorem tJ_sch (l : Launch) (G : mwG) (ad : Nat → Nat) (N : Nat) (T : mwT) (F : mwF) (M : mwM) (L : mwL) {a b : Int32} (h0 : ¬ a < 0) (h1 : a < b) : Met l yJ_sch (Cond.code yJ_sch cJ_sch 2 (none) :: GT) ({ frames := 1, cells := 0, slots := 0, locals := 22 }) (mw_Pre G ad N T F M L [.int a, .int b]) (mw_Qv G ad N T F (mw_eqV M L)) 0 0 (mw_fr G) := by
  refine mw_enter (by decide) (Nat.le_of_ble_eq_true rfl) ?_
  intro p e s m below meth c ls C hr hlocks hnm hw hl
  have hw0 := hw
  refine lv_iload_n C.1.1 C.1.2.1 dJ_sch_0 rfl (lv_at hl 0 rfl) ?_
  refine lv_iload_n C.1.1 C.1.2.1 dJ_sch_1 rfl (lv_at hl 1 rfl) ?_
  have hz : ∃ v : Value, (v = .null ∨ ∃ t, v = .ref t) ∧ v.category = 1 ∧ va_Z "jdk/internal/util/Preconditions" "SIOOBE_FORMATTER" "Ljava/util/function/BiFunction;" v (mw_fr G) s G.2.2.2 := by
    rcases C.2.2.2.2.2.2.1 with h | ⟨t, h⟩
    · exact ⟨_, Or.inl rfl, rfl, h⟩
    · exact ⟨_, Or.inr ⟨t, rfl⟩, rfl, h⟩
  obtain ⟨v, hv, hcat, hz⟩ := hz
  refine mr_gets C hw0 hw hz wd_867 (fun _ q => q) dJ_sch_2 ?_
  refine md_csI (As := [.int a, .int b, v]) (rest := []) C hw (tJ_pch l G ad N T F M L hv h0 h1) wd_869 cwJ_pch ⟨Nat.le_of_ble_eq_true rfl, Nat.le_of_ble_eq_true rfl⟩ rfl hl.1 (Nat.le_of_ble_eq_true rfl) dJ_sch_5 rfl rfl ⟨Nat.zero_le _, Nat.zero_le _⟩ rfl (fun H locs hw => ?_)
  refine lv_pop C.1.1 C.1.2.1 dJ_sch_8 rfl ?_
  exact mr_vret C hr hlocks hw rfl dJ_sch_9
theorem tJ_lat (l : Launch) (G : mwG) (ad : Nat → Nat) (N : Nat) (T : mwT) (F : mwF) (M : mwM) (L : mwL) {i : Nat} {a : Int32} (hi : i < 8) (hin : vp_in a (mw_slen.getD i 0)) (h1 : a < Int32.ofNat (mw_slen.getD i 0)) : Met l yJ_lat (Cond.code yJ_lat cJ_lat 2 (some .char) :: GT) ({ frames := 2, cells := 0, slots := 0, locals := 43 }) (mw_Pre G ad N T F M L [.ref (G.2.1 1001 i), .int a]) (mw_Qi G ad N T F (mw_eqI (mw_sch i a) M L)) 0 0 (mw_fr G) := by
  refine mw_enter (by decide) (Nat.le_of_ble_eq_true rfl) ?_
  intro p e s m below meth c ls C hr hlocks hnm hw hl
  have hw0 := hw
  have h0 : ¬ a < 0 := fun q => hin (Or.inl q)
  have hl : lv_has ls 2 [(0, .ref (G.2.1 1001 i)), (1, .int a)] := hl
  refine lv_iload_n C.1.1 C.1.2.1 dJ_lat_0 rfl (lv_at hl 1 rfl) ?_
  refine lv_aload_n C.1.1 C.1.2.1 dJ_lat_1 rfl (lv_at hl 0 rfl) ?_
  refine mr_tlen C hw0 hw (C.2.2.2.2.2.2.2 i hi).2.2.2.2 rfl dJ_lat_2 ?_
  refine md_csV (As := [.int a, .int (Int32.ofNat (mw_slen.getD i 0))]) (rest := []) C hw (tJ_sch l G ad N T F M L h0 h1) wd_864 cwJ_sch ⟨Nat.le_of_ble_eq_true rfl, Nat.le_of_ble_eq_true rfl⟩ rfl hl.1 (Nat.le_of_ble_eq_true rfl) dJ_lat_3 rfl rfl ⟨Nat.zero_le _, Nat.zero_le _⟩ rfl (fun H locs hw => ?_)
  refine lv_aload_n C.1.1 C.1.2.1 dJ_lat_6 rfl (lv_at hl 0 rfl) ?_
  refine lv_iload_n C.1.1 C.1.2.1 dJ_lat_7 rfl (lv_at hl 1 rfl) ?_
  refine mr_tbyte C hw0 hw (C.2.2.2.2.2.2.2 i hi).2.2.2.2 hin rfl dJ_lat_8 ?_
  refine lv_sipush (v := 255) C.1.1 C.1.2.1 dJ_lat_9 (by decide) ?_
  refine lv_iand C.1.1 C.1.2.1 dJ_lat_12 ?_
  refine lv_i2c C.1.1 C.1.2.1 dJ_lat_13 rfl ?_
  exact mr_iret C hr hlocks hw (pk_nc _) (by show (_, M, L) = (mw_sch i a, M, L); rw [sc_c2]; rfl) dJ_lat_14
theorem tJ_cha (l : Launch) (G : mwG) (ad : Nat → Nat) (N : Nat) (T : mwT) (F : mwF) (M : mwM) (L : mwL) {i : Nat} {a : Int32} (hi : i < 8) (hin : vp_in a (mw_slen.getD i 0)) (h1 : a < Int32.ofNat (mw_slen.getD i 0)) : Met l yJ_cha (Cond.code yJ_cha cJ_cha 2 (some .char) :: GT) ({ frames := 3, cells := 0, slots := 0, locals := 64 }) (mw_Pre G ad N T F M L [.ref (G.2.1 1000 i), .int a]) (mw_Qi G ad N T F (mw_eqI (mw_sch i a) M L)) 0 0 (mw_fr G) := by
  refine mw_enter (by decide) (Nat.le_of_ble_eq_true rfl) ?_
  intro p e s m below meth c ls C hr hlocks hnm hw hl
  have hw0 := hw
  have hl : lv_has ls 2 [(0, .ref (G.2.1 1000 i)), (1, .int a)] := hl
  refine lv_aload_n C.1.1 C.1.2.1 dJ_cha_0 rfl (lv_at hl 0 rfl) ?_
  refine md_kvI (As := []) (rest := []) C hw (tJ_isl l G ad N T F M L hi) rfl hi wd_857 cwJ_isl ⟨Nat.le_of_ble_eq_true rfl, Nat.le_of_ble_eq_true rfl⟩ rfl hl.1 (Nat.le_of_ble_eq_true rfl) dJ_cha_1 rfl rfl ⟨Nat.zero_le _, Nat.zero_le _⟩ rfl (fun H locs hw => ?_)
  refine lv_if_eq (tgt := 16) C.1.1 C.1.2.1 dJ_cha_4 (by decide) (fun c => absurd c (by decide)) (fun c => ?_)
  refine lv_aload_n C.1.1 C.1.2.1 dJ_cha_7 rfl (lv_at hl 0 rfl) ?_
  refine mr_getk C hw0 hw (C.2.2.2.2.2.2.2 i hi).2.2.2.1 wd_4339 (fun _ q => q) dJ_cha_8 ?_
  refine lv_iload_n C.1.1 C.1.2.1 dJ_cha_11 rfl (lv_at hl 1 rfl) ?_
  refine md_csI (As := [.ref (G.2.1 1001 i), .int a]) (rest := []) C hw (tJ_lat l G ad N T F M L hi hin h1) wd_861 cwJ_lat ⟨Nat.le_of_ble_eq_true rfl, Nat.le_of_ble_eq_true rfl⟩ rfl hl.1 (Nat.le_of_ble_eq_true rfl) dJ_cha_12 rfl rfl ⟨Nat.zero_le _, Nat.zero_le _⟩ rfl (fun H locs hw => ?_)
  exact mr_iret C hr hlocks hw (sc_nar _) rfl dJ_cha_15
/-- an index that is in has its length above it -/
theorem mw_slt {i : Nat} (hi : i < 8) {a : Int32} (hin : vp_in a (mw_slen.getD i 0)) : a < Int32.ofNat (mw_slen.getD i 0) := by
  have hb : ∀ j, j < 8 → mw_slen.getD j 0 < 1000 := by decide +kernel
  have h8 := hb i hi
  have h1 : ¬ a < 0 := fun q => hin (Or.inl q)
  have h2 : a.toNatClampNeg < mw_slen.getD i 0 := Nat.not_le.mp fun q => hin (Or.inr q)
  obtain ⟨n, hn, rfl⟩ := nI_of h1
  rw [nI_clamp hn] at h2
  exact nI_lt h2 (by omega)
