/-! QUESTIONS: what both sides keep of them -/
theorem RTr_fr {A A' M M' : mwM} {N E : Nat} (h : RTr A M N E) (hA : ∀ a y, 139 ≤ a → a ≤ 153 → A' a y = A a y) (hM : ∀ a y, 902 ≤ a → a ≤ 920 → ¬ (a = 902 ∧ y = 0) → M' a y = M a y) : RTr A' M' N E := by
  obtain ⟨hN, a1, a2, a3, a4, a5, a6, a7, a8, a9, a10, l, sd, ⟨b1, b2, b3, b4⟩, ⟨e1, e2, e3, t0, e4, e5, e6⟩, hF⟩ := h
  refine ⟨hN, ?_, ?_, ?_, ?_, ?_, ?_, ?_, fun k u => ?_, ?_, fun i u => ?_, l, sd, ⟨b1, b2, ?_, fun e he => ?_⟩, ⟨fun i u => ?_, e2, e3, t0, e4, ?_, e6⟩, fun i hi => ?_⟩
  · rw [hA 139 2 (by omega) (by omega)]; exact a1
  · rw [hM 902 2 (by omega) (by omega) (by omega)]; exact a2
  · rw [hM 902 1 (by omega) (by omega) (by omega)]; exact a3
  · rw [hM 902 23 (by omega) (by omega) (by omega)]; exact a4
  · rw [hA 139 4 (by omega) (by omega), hM 902 24 (by omega) (by omega) (by omega)]; exact a5
  · rw [hA 139 5 (by omega) (by omega)]; exact a6
  · rw [hM 902 25 (by omega) (by omega) (by omega)]; exact a7
  · rw [hM 920 k (by omega) (by omega) (by omega)]; exact a8 k u
  · rw [hM 902 20 (by omega) (by omega) (by omega)]; exact a9
  · obtain ⟨n, p, t, a, g, k, r, c, m⟩ := a10 i u
    exact ⟨n, p, t, a, g, k, r, cc_f c (fun b u1 u2 => hA b i (by omega) (by omega)), cm_f m (fun b u1 => hM b (i + 1) (by omega) (by omega) (by omega)) (fun b u1 => hM 908 _ (by omega) (by omega) (by omega))⟩
  · rw [hA 139 3 (by omega) (by omega)]; exact b3
  · rw [hA 153 e (by omega) (by omega)]; exact b4 e he
  · rw [hM 916 _ (by omega) (by omega) (by omega)]; exact e1 i u
  · rw [hM 902 19 (by omega) (by omega) (by omega)]; exact e5
  · rw [hA 151 i (by omega) (by omega), hA 152 i (by omega) (by omega), hM 918 _ (by omega) (by omega) (by omega), hM 918 _ (by omega) (by omega) (by omega)]
    exact hF i hi
abbrev QuC (A M : mwM) (c : Nat) : Prop := ∃ (ses w : Nat) (rig sdd : Bool), 1 ≤ ses ∧ ses < 4 ∧ w ≤ 3 ∧ A 276 c = sI ses ∧ M 934 c = sI ses ∧ A 277 c = bI rig ∧ M 935 c = bI rig ∧ A 278 c = bI sdd ∧ M 936 c = bI sdd ∧ (sdd = true → A 279 c = M 937 c) ∧ A 280 c = sI w ∧ M 938 c = sI w
def QuR (A M : mwM) : Prop := A 275 8 = M 732 108 ∧ ∀ c, c < 6 → QuC A M c
theorem QuR_fr {A A' M M' : mwM} (h : QuR A M) (hA : ∀ a y, (a = 275 ∧ y = 8) ∨ (276 ≤ a ∧ a ≤ 280) → A' a y = A a y) (hM : ∀ a y, (a = 732 ∧ y = 108) ∨ (934 ≤ a ∧ a ≤ 938) → M' a y = M a y) : QuR A' M' := by
  refine ⟨by rw [hA 275 8 (by omega), hM 732 108 (by omega)]; exact h.1, fun c u => ?_⟩
  unfold QuC
  rw [hA 276 c (by omega), hA 277 c (by omega), hA 278 c (by omega), hA 279 c (by omega), hA 280 c (by omega), hM 934 c (by omega), hM 935 c (by omega), hM 936 c (by omega), hM 937 c (by omega), hM 938 c (by omega)]
  exact h.2 c u
/-- one controller's changes -/
theorem QuR_1 {A A' M M' : mwM} {c : Nat} (h : QuR A M) (h8 : A' 275 8 = M' 732 108) (hA : ∀ a y, 276 ≤ a → a ≤ 280 → y ≠ c → A' a y = A a y) (hM : ∀ a y, 934 ≤ a → a ≤ 938 → y ≠ c → M' a y = M a y) (hc : QuC A' M' c) : QuR A' M' := by
  refine ⟨h8, fun x u => ?_⟩
  by_cases hq : x = c
  · rw [hq]; exact hc
  · unfold QuC
    rw [hA 276 x (by omega) (by omega) hq, hA 277 x (by omega) (by omega) hq, hA 278 x (by omega) (by omega) hq, hA 279 x (by omega) (by omega) hq, hA 280 x (by omega) (by omega) hq, hM 934 x (by omega) (by omega) hq, hM 935 x (by omega) (by omega) hq, hM 936 x (by omega) (by omega) hq, hM 937 x (by omega) (by omega) hq, hM 938 x (by omega) (by omega) hq]
    exact h.2 x u
def svA (A A' : mwM) : Prop := ∀ a y, ¬ ((275 ≤ a ∧ a ≤ 282) ∨ a = 137 ∨ a = 138 ∨ (a = 139 ∧ y = 3) ∨ (146 ≤ a ∧ a ≤ 150)) → A' a y = A a y
def svM (M M' : mwM) : Prop := ∀ a y, ¬ ((a = 732 ∧ (y = 102 ∨ y = 108)) ∨ (933 ≤ a ∧ a ≤ 938) ∨ a = 854 ∨ a = 858 ∨ a = 859 ∨ (863 ≤ a ∧ a ≤ 867) ∨ (902 ≤ a ∧ a ≤ 920)) → (∀ x, x < 12 → ¬ (a = 964 + 53 * x ∧ y = 0)) → M' a y = M a y
def svL (X : Nat) (Lc Lc' Lm Lm' : mwL) : Prop := (Lc' = Lc ∧ Lm' = Lm) ∨ ∃ x d w, x < X ∧ d < 32 ∧ Lc' = mset Lc (293 + 36 * x + 34) d w ∧ Lm' = mset Lm (964 + 53 * x + 21) d w
def SvB (X : Nat) (A0 : mwM) (Lc0 : mwL) (M0 : mwM) (Lm0 : mwL) (A : mwM) (Lc : mwL) (M : mwM) (Lm : mwL) : Prop := svA A0 A ∧ svM M0 M ∧ svL X Lc0 Lc Lm0 Lm
theorem svA_t {A B C : mwM} (h1 : svA A B) (h2 : svA B C) : svA A C := fun a y u => (h2 a y u).trans (h1 a y u)
theorem svM_t {A B C : mwM} (h1 : svM A B) (h2 : svM B C) : svM A C := fun a y u v => (h2 a y u v).trans (h1 a y u v)
def SvQ (X N E : Nat) (S : Nat → Nat) (A0 : mwM) (Lc0 : mwL) (M0 : mwM) (Lm0 : mwL) (oc om : Option (mwM × mwL)) : Prop :=
  ∃ (A : mwM) (Lc : mwL) (M : mwM) (Lm : mwL) (sz : Nat) (v : Nat → Nat), oc = some (A, Lc) ∧ om = some (M, Lm) ∧ SvB X A0 Lc0 M0 Lm0 A Lc M Lm ∧ QuR A M ∧ RTr A M N E ∧ RCd A M S ∧ 1 ≤ sz ∧ sz ≤ 20 ∧ A 275 7 = sI sz ∧ M 732 102 = sI sz ∧ ∀ i, i < sz → v i < 256 ∧ A 282 i = sI (v i) ∧ M 933 i = sI (v i)
theorem c_put7 {fu n : Nat} {x : Int32} {A : mwM} {L : mwL} (h : A 275 7 = sI n) (hn : n < 20) : DX7_put fu x A L = some (mset (mset A 282 n x) 275 7 (sI (n + 1)), L) := by
  unfold DX7_put fX7_put_b29
  rw [h, if_neg (by rw [sI_lle (by decide) (by omega)]; omega), mck_s hn (by omega), sI_nn (by omega)]
  simp only [mlet]
  rw [mset_n (by omega), h, sI_1]
/-- the end of an answer: no more changes -/
theorem sv_end {X N E sz : Nat} {S v : Nat → Nat} {A0 A A' M0 M M' : mwM} {Lc0 Lc Lm0 Lm : mwL} (hb : SvB X A0 Lc0 M0 Lm0 A Lc M Lm) (hQ : QuR A M) (hT : RTr A M N E) (hC : RCd A M S) (hA : ∀ a y, a ≠ 282 → ¬ (a = 275 ∧ y = 7) → A' a y = A a y) (hM : ∀ a y, a ≠ 933 → ¬ (a = 732 ∧ y = 102) → ¬ (a = 902 ∧ y = 0) → (∀ x, x < 12 → ¬ (a = 964 + 53 * x ∧ y = 0)) → M' a y = M a y) (hs : 1 ≤ sz ∧ sz ≤ 20) (h7 : A' 275 7 = sI sz) (h102 : M' 732 102 = sI sz) (hv : ∀ i, i < sz → v i < 256 ∧ A' 282 i = sI (v i) ∧ M' 933 i = sI (v i)) : SvQ X N E S A0 Lc0 M0 Lm0 (some (A', Lc)) (some (M', Lm)) := by
  refine ⟨A', Lc, M', Lm, sz, v, rfl, rfl, ⟨fun a y u => ?_, fun a y u w => ?_, hb.2.2⟩, ?_, ?_, ?_, hs.1, hs.2, h7, h102, hv⟩
  · rw [hA a y (by omega) (by omega)]; exact hb.1 a y u
  · rw [hM a y (by omega) (by omega) (by omega) w]; exact hb.2.1 a y u w
  · exact QuR_fr hQ (fun a y u => hA a y (by omega) (by omega)) (fun a y u => hM a y (by omega) (by omega) (by omega) (fun x w => by omega))
  · exact RTr_fr hT (fun a y u1 u2 => hA a y (by omega) (by omega)) (fun a y u1 u2 u3 => hM a y (by omega) (by omega) u3 (fun x w => by omega))
  · exact RCd_fr hC (fun a y u1 u2 => hA a y (by omega) (by omega)) (fun a y u => hM a y (by omega) (by omega) (by omega) (fun x w => by omega))
/-- a refusal -/
theorem st_no {fu X N E x w : Nat} {S : Nat → Nat} {A0 A M0 M : mwM} {Lc0 Lc Lm0 Lm : mwL} (hb : SvB X A0 Lc0 M0 Lm0 A Lc M Lm) (hQ : QuR A M) (hT : RTr A M N E) (hC : RCd A M S) (h7 : A 275 7 = sI 0) (hx : x < 256) (hw : w < 256) (h932 : M 932 0 = sI x) : SvQ X N E S A0 Lc0 M0 Lm0 (DX7_refuse fu (sI x) (sI w) A Lc) (DX19_no fu (sI w) M Lm) := by
  have e1 : DX7_refuse fu (sI x) (sI w) A Lc = some (mset (mset (mset (mset (mset (mset A 282 0 127) 275 7 (sI 1)) 282 1 (sI x)) 275 7 (sI 2)) 282 2 (sI w)) 275 7 (sI 3), Lc) := by
    unfold DX7_refuse
    rw [c_put7 h7 (by omega), mb2_s, c_put7 (n := 1) mset_s (by omega), mb2_s, c_put7 (n := 2) mset_s (by omega), mb2_s]
  have e2 : DX19_no fu (sI w) M Lm = some (mset (mset (mset (mset M 933 0 127) 933 1 (sI x)) 933 2 (sI w)) 732 102 3, Lm) := by
    unfold DX19_no
    simp only [mlet]
    rw [show (0 : Int32).toNatClampNeg = 0 by decide, show (1 : Int32).toNatClampNeg = 1 by decide, show (2 : Int32).toNatClampNeg = 2 by decide, mset_n (show ¬ (932 = 933 ∧ 0 = 0) by omega), h932]
  rw [e1, e2]
  refine sv_end (sz := 3) (v := fun i => if i = 0 then 127 else if i = 1 then x else w) hb hQ hT hC (fun a y u1 u2 => ?_) (fun a y u1 u2 u3 u4 => ?_) (by omega) mset_s (by rw [mset_s]; rfl) (fun i u => ?_)
  · rw [mset_n (by omega), mset_n (by omega), mset_n (by omega), mset_n (by omega), mset_n (by omega), mset_n (by omega)]
  · rw [mset_n (by omega), mset_n (by omega), mset_n (by omega), mset_n (by omega)]
  · rcases (show i = 0 ∨ i = 1 ∨ i = 2 by omega) with rfl | rfl | rfl
    · simp (disch := omega) only [mset_n, mset_s]
      exact ⟨show 127 < 256 by decide, rfl, rfl⟩
    · simp (disch := omega) only [mset_n, mset_s]
      exact ⟨hx, rfl, rfl⟩
    · simp (disch := omega) only [mset_n, mset_s]
      exact ⟨hw, rfl, rfl⟩
theorem mb2_id {o : Option (mwM × mwL)} : mb2 o (fun M L => some (M, L)) = o := by
  cases o with
  | none => rfl
  | some p => rfl
theorem SvB_0 {X : Nat} {A M : mwM} {Lc Lm : mwL} : SvB X A Lc M Lm A Lc M Lm := ⟨fun _ _ _ => rfl, fun _ _ _ _ => rfl, Or.inl ⟨rfl, rfl⟩⟩
/-- a session -/
theorem st_session {fu X N E c s : Nat} {S : Nat → Nat} {A M : mwM} {Lc Lm : mwL} (hc : c < 6) (hQ : QuR A M) (hT : RTr A M N E) (hC : RCd A M S) (h7 : A 275 7 = sI 0) (hs : s < 256) (h0 : M 932 0 = sI 16) (h1 : M 932 1 = sI s) : SvQ X N E S A Lc M Lm (DX7_openSession fu (sI c) (sI s) A Lc) (DX19_serveSession fu (sI c) M Lm) := by
  unfold DX7_openSession fX7_openSession_b10 DX19_serveSession fX19_serveSession_b20
  rw [mb2_id, mb2_id, show (1 : Int32).toNatClampNeg = 1 by decide, h1]
  by_cases a1 : s < 1
  · have b1 : sI s < 1 := by rw [sI_ltl (by omega) (by decide)]; exact a1
    rw [if_pos b1, if_pos b1]
    exact st_no (x := 16) (w := 18) SvB_0 hQ hT hC h7 (by omega) (by omega) h0
  · have b1 : ¬ sI s < 1 := by rw [sI_ltl (by omega) (by decide)]; exact a1
    rw [if_neg b1, if_neg b1]
    by_cases a2 : s ≤ 3
    · have b2 : sI s ≤ 3 := by rw [sI_lel (by omega) (by decide)]; exact a2
      rw [if_pos b2, if_pos b2]
      rw [show (0 : Int32).toNatClampNeg = 0 by decide]
      simp (disch := omega) only [mck_s, sI_nn, mlet, mset_n, h1]
      generalize hA1 : mset (mset (mset A 276 c (sI s)) 277 c (vp_nar .boolean 0)) 278 c (vp_nar .boolean 0) = A1
      have f1 : ∀ a y, ¬ (276 ≤ a ∧ a ≤ 278 ∧ y = c) → A1 a y = A a y := fun a y u => by rw [← hA1, mset_n (by omega), mset_n (by omega), mset_n (by omega)]
      have q1 : A1 276 c = sI s ∧ A1 277 c = bI false ∧ A1 278 c = bI false := by
        rw [← hA1]
        simp (disch := omega) only [mset_n, mset_s]
        exact ⟨trivial, rfl, rfl⟩
      generalize hM1 : mset (mset (mset M 934 c (sI s)) 935 c (vp_nar .boolean 0)) 936 c (vp_nar .boolean 0) = M1
      have f2 : ∀ a y, ¬ (934 ≤ a ∧ a ≤ 936 ∧ y = c) → M1 a y = M a y := fun a y u => by rw [← hM1, mset_n (by omega), mset_n (by omega), mset_n (by omega)]
      have q2 : M1 934 c = sI s ∧ M1 935 c = bI false ∧ M1 936 c = bI false := by
        rw [← hM1]
        simp (disch := omega) only [mset_n, mset_s]
        exact ⟨trivial, rfl, rfl⟩
      rw [c_put7 (n := 0) (by rw [f1 275 7 (by omega)]; exact h7) (by omega), mb2_s, c_put7 (n := 1) mset_s (by omega), mb2_s]
      refine sv_end (A := A1) (M := M1) (sz := 2) (v := fun i => if i = 0 then 80 else s) ⟨fun a y u => f1 a y (by omega), fun a y u _ => f2 a y (by omega), Or.inl ⟨rfl, rfl⟩⟩ ?_ ?_ ?_ (fun a y u1 u2 => ?_) (fun a y u1 u2 u3 u4 => ?_) (by omega) mset_s (by rw [mset_s]; rfl) (fun i u => ?_)
      · refine QuR_1 (c := c) hQ (by rw [f1 275 8 (by omega), f2 732 108 (by omega)]; exact hQ.1) (fun a y u1 u2 u3 => f1 a y (by omega)) (fun a y u1 u2 u3 => f2 a y (by omega)) ?_
        obtain ⟨ses, w, rig, sdd, k1, k2, k3, k4, k5, k6, k7, k8, k9, k10, k11, k12⟩ := hQ.2 c hc
        refine ⟨s, w, false, false, by omega, by omega, k3, q1.1, q2.1, q1.2.1, q2.2.1, q1.2.2, q2.2.2, (fun z => by cases z), ?_, ?_⟩
        · rw [f1 280 c (by omega)]; exact k11
        · rw [f2 938 c (by omega)]; exact k12
      · exact RTr_fr hT (fun a y u1 u2 => f1 a y (by omega)) (fun a y u1 u2 u3 => f2 a y (by omega))
      · exact RCd_fr hC (fun a y u1 u2 => f1 a y (by omega)) (fun a y u => f2 a y (by omega))
      · rw [mset_n (by omega), mset_n (by omega), mset_n (by omega), mset_n (by omega)]
      · rw [mset_n (by omega), mset_n (by omega), mset_n (by omega)]
      · rcases (show i = 0 ∨ i = 1 by omega) with rfl | rfl
        · simp (disch := omega) only [mset_n, mset_s]
          exact ⟨show 80 < 256 by decide, rfl, rfl⟩
        · simp (disch := omega) only [mset_n, mset_s]
          exact ⟨hs, rfl, rfl⟩
    · have b2 : ¬ sI s ≤ 3 := by rw [sI_lel (by omega) (by decide)]; exact a2
      rw [if_neg b2, if_neg b2]
      exact st_no (x := 16) (w := 18) SvB_0 hQ hT hC h7 (by omega) (by omega) h0
/-- all troubles forgotten -/
theorem st_forget {fu X N E : Nat} {S : Nat → Nat} {A M : mwM} {Lc Lm : mwL} (hf : 31 ≤ fu) (hQ : QuR A M) (hT : RTr A M N E) (hC : RCd A M S) (h7 : A 275 7 = sI 0) : SvQ X N E S A Lc M Lm (mb2 (DX10_forgetAll fu A Lc) (fun M3 L4 => mb2 (DX7_put fu 84 M3 L4) (fun M5 L6 => some (M5, L6)))) (DX19_serveClear fu M Lm) := by
  obtain ⟨A1, r, M1, e1, e2, hT1, f1, f2⟩ := st_clear (fu := fu) (L := Lc) (L2 := Lm) hf hT
  unfold DX19_serveClear
  rw [e1, e2, mb2_s, mb3_s, c_put7 (n := 0) (by rw [f1 275 7 (by omega) (by omega)]; exact h7) (by omega), mb2_s, show (0 : Int32).toNatClampNeg = 0 by decide]
  simp only [mlet]
  refine sv_end (A := A1) (M := M1) (sz := 1) (v := fun _ => 84) ⟨fun a y u => f1 a y (by omega) (by omega), fun a y u _ => f2 a y (by omega), Or.inl ⟨rfl, rfl⟩⟩ ?_ hT1 ?_ (fun a y u1 u2 => ?_) (fun a y u1 u2 u3 u4 => ?_) (by omega) mset_s (by rw [mset_s]; rfl) (fun i u => ?_)
  · exact QuR_fr hQ (fun a y u => f1 a y (by omega) (by omega)) (fun a y u => f2 a y (by omega))
  · exact RCd_fr hC (fun a y u1 u2 => f1 a y (by omega) (by omega)) (fun a y u => f2 a y (by omega))
  · rw [mset_n (by omega), mset_n (by omega)]
  · rw [mset_n (by omega), mset_n (by omega)]
  · have : i = 0 := by omega
    subst this
    simp (disch := omega) only [mset_n, mset_s]
    exact ⟨by decide, rfl, rfl⟩
