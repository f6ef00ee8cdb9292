/-! more rows -/
section MR2
variable {p : Program} {l : Launch} {e : Env} {R : Room} {s : State} {m : MethodId} {args : Array Value} {below : List Frame} {meth : Method} {c : Code} {H : Heap} {locs : List Loc} {cells slots : Nat} {Q : State → Prop}
variable {cc : ByteArray} {pc nL : Nat} {ls : Array Slot} {rest : List Value} {own : String}
variable {G : mwG} {ad : Nat → Nat} {N : Nat} {T : mwT} {F : mwF} {M : mwM} {L : mwL}
theorem mr_alen {k t n : Nat} {v : Int32} (C : mw_C p m c cc nL s args own G) (h : mw_W G ad N T F M L H locs) (hk : k < N) (hT : T k = (t, n)) (ht : t < 5) {fty : FieldType} (hty : (mw_ty G.2.2.1)[t]? = some (G.2.2.1 t, fty)) (hv : Int32.ofNat n = v) (hdg : decode cc pc = .ok (.arraylength, 1))
    (kk : W p l e R s m args below meth c H locs cells slots Q (F0 m (pc + 1) ls (.int v :: rest))) : W p l e R s m args below meth c H locs cells slots Q (F0 m pc ls (.ref (ad k) :: rest)) :=
  va_alen C.1.1 C.1.2.1 C.2.1 h.1 k t (by rw [mw_at hk, mw_ceA hT ht]) hty hv hdg kk
end MR2
