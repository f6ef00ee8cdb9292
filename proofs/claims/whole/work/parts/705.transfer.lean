/-! the class: a frame reaches its aim -/
theorem TfC_ch {A A' : mwM} {n n' : Nat → Nat → Nat} {b b' : Nat → Nat → Bool} {o : Nat → Nat → Nat} (h : TfC A n b o) (hK : n 0 0 ≤ 100) (hA : ∀ a y, ¬ (a = 159 ∨ (264 ≤ a ∧ a ≤ 268) ∨ a = 273 ∨ (a = 154 ∧ y = 10)) → A' a y = A a y) (h0 : ∀ i j, i ≠ 3 → ¬ (5 ≤ i ∧ i ≤ 9) → n' i j = n i j) (hb0 : ∀ j, b' 0 j = b 0 j) (h10 : A' 154 10 = bI (b' 2 0)) (h159 : ∀ m, 1 ≤ m → m ≤ n 0 0 → A' 159 m = sI (n' 3 m)) (h3 : ∀ m, n' 3 m ≠ 0 → n 3 m ≠ 0) (hr : ∀ r, r < 4 → A' 264 r = sI (cmo (n' 5 r)) ∧ (n' 5 r = 1 → A' 265 r = sI (n' 6 r) ∧ A' 266 r = sI (n' 7 r) ∧ A' 267 r = sI (n' 8 r) ∧ A' 268 r = sI (n' 9 r))) (h273 : ∀ f, f < n 0 1 → A' 273 f = bI (b' 1 f)) : TfC A' n' b' o := by
  obtain ⟨k1, k2, k3, k4⟩ := h
  refine ⟨?_, ?_, hr, ?_⟩
  · rw [h0 0 0 (by omega) (by omega), h0 0 1 (by omega) (by omega), h0 0 2 (by omega) (by omega), h0 0 3 (by omega) (by omega), h0 0 4 (by omega) (by omega)]
    rw [hA 154 5 (by omega), hA 154 6 (by omega), hA 154 7 (by omega), hA 154 8 (by omega), hA 154 9 (by omega)]
    exact ⟨k1.1, k1.2.1, k1.2.2.1, k1.2.2.2.1, k1.2.2.2.2.1, h10⟩
  · intro m u1 u2
    rw [h0 0 0 (by omega) (by omega)] at u2
    have := k2 m u1 u2
    rw [h0 1 m (by omega) (by omega), h0 2 m (by omega) (by omega), h0 4 m (by omega) (by omega), hb0, hA 156 m (by omega), hA 157 m (by omega), hA 158 m (by omega), hA 160 m (by omega)]
    refine ⟨this.1, this.2.1, this.2.2.1, h159 m u1 u2, fun z => this.2.2.2.2.1 (h3 m z), fun i u => ?_⟩
    rw [hA (162 + m) i (by omega)]
    exact this.2.2.2.2.2 i u
  · intro f u
    rw [h0 0 1 (by omega) (by omega)] at u
    have := k4 f u
    rw [h0 10 f (by omega) (by omega), h0 11 f (by omega) (by omega), h0 12 f (by omega) (by omega), hA 270 f (by omega), hA 271 f (by omega), hA 272 f (by omega)]
    exact ⟨this.1, this.2.1, this.2.2.1, h273 f u⟩
abbrev RvC (A : mwM) (n : Nat → Nat → Nat) (r : Nat) : Prop := A 264 r = sI (cmo (n 5 r)) ∧ (n 5 r = 1 → A 265 r = sI (n 6 r) ∧ A 266 r = sI (n 7 r) ∧ A 267 r = sI (n 8 r) ∧ A 268 r = sI (n 9 r))
theorem rc_1 {A A' : mwM} {n n' : Nat → Nat → Nat} {r : Nat} (h : ∀ x, x < 4 → RvC A n x) (h0 : ∀ i j, ¬ (5 ≤ i ∧ i ≤ 9 ∧ j = r) → n' i j = n i j) (hA : ∀ a y, 264 ≤ a → a ≤ 268 → y ≠ r → A' a y = A a y) (h1 : RvC A' n' r) : ∀ x, x < 4 → RvC A' n' x := by
  intro x u
  by_cases hq : x = r
  · rw [hq]; exact h1
  · unfold RvC
    rw [h0 5 x (by omega), h0 6 x (by omega), h0 7 x (by omega), h0 8 x (by omega), h0 9 x (by omega), hA 264 x (by omega) (by omega) hq, hA 265 x (by omega) (by omega) hq, hA 266 x (by omega) (by omega) hq, hA 267 x (by omega) (by omega) hq, hA 268 x (by omega) (by omega) hq]
    exact h x u
theorem TfC_st2 {A : mwM} {n : Nat → Nat → Nat} {b : Nat → Nat → Bool} {o : Nat → Nat → Nat} (h : TfC A n b o) : ∀ m, 1 ≤ m → m ≤ n 0 0 → A 159 m = sI (n 3 m) := fun m u1 u2 => (h.2.1 m u1 u2).2.2.2.1
theorem TfC_gn {A : mwM} {n : Nat → Nat → Nat} {b : Nat → Nat → Bool} {o : Nat → Nat → Nat} (h : TfC A n b o) : ∀ f, f < n 0 1 → A 273 f = bI (b 1 f) := fun f u => (h.2.2.2 f u).2.2.2
theorem c_receiveNext {fu m sq : Nat} {A : mwM} {L : mwL} {p : PB} {o : Nat → Nat → Nat} (hv : TfV p.1 p.2) (h : TfC A p.1 p.2 o) (h1 : 1 ≤ m) (h2 : m ≤ p.1 0 0) (hs : sq ≤ 14) : wq (DX9_receiveNext fu (sI m) (sI sq) A L) (fun z => z.1 = sI (nxQ m sq p).2 ∧ z.2.2 = L ∧ TfC z.2.1 (nxQ m sq p).1.1 (nxQ m sq p).1.2 o ∧ ∀ a y, ¬ (264 ≤ a ∧ a ≤ 268) → ¬ (a = 154 ∧ y = 10) → z.2.1 a y = A a y) := by
  have hK := hv.1.1
  have hM := hv.2.1 m h1 h2
  have hr4 : m % 4 < 4 := Nat.mod_lt _ (by omega)
  have hR := hv.2.2.1 (m % 4) hr4
  have e158 := (h.2.1 m h1 h2).2.2.1
  have hC := h.2.2.1 (m % 4) hr4
  have k9 := h.1.2.2.2.2.1
  have hcl := cmo_le hR.1
  unfold DX9_receiveNext fX9_receiveNext_b28 nxQ
  simp only [mlet]
  rw [show sI m - sI m / 4 * 4 = sI (m % 4) from sI_mod (b := 4) (by omega) (by omega)]
  generalize hr : m % 4 = r at *
  rw [mck_s hr4 (by omega), sI_nn (by omega), hC.1]
  by_cases a1 : p.1 5 r = 1
  · have hV := hR.2 a1
    obtain ⟨c1, c2, c3, c4⟩ := hC.2 a1
    rw [if_pos (by rw [a1]; rfl), mck_s hr4 (by omega), c1]
    by_cases a2 : p.1 6 r = m
    · rw [if_pos (show sI (p.1 6 r) = sI m by rw [a2]), if_pos (show p.1 5 r = 1 ∧ p.1 6 r = m from ⟨a1, a2⟩), mck_s hr4 (by omega), c3]
      by_cases a3 : p.1 8 r = sq
      · rw [if_pos (show sI (p.1 8 r) = sI sq by rw [a3]), if_pos a3, mck_s hr4 (by omega), mck_s hr4 (by omega), mck_s hr4 (by omega), mck_s hr4 (by omega), mck_s hr4 (by omega), mck_s (by omega) (by omega), mck_s hr4 (by omega), sI_nn (by omega), c2, sI_1, show sI (sq + 1) - sI (sq + 1) / 16 * 16 = sI ((sq + 1) % 16) from sI_mod (b := 16) (by omega) (by omega), Nat.mod_eq_of_lt (show sq + 1 < 16 by omega)]
        have hsz : p.1 7 r < 200 := by have := hM.2.2.1; rw [a2] at hV; omega
        rw [show sI (p.1 7 r) + 7 = sI (p.1 7 r + 7) from sI_adl]
        simp (disch := omega) only [mset_n, mset_s, e158, k9]
        by_cases a4 : p.1 7 r + 7 < p.1 2 m
        · rw [if_pos a4, if_neg (by rw [sI_le (by omega) (by omega)]; omega)]
          refine wq_some ⟨rfl, rfl, ?_, fun a y u1 u2 => ?_⟩
          all_goals (try dsimp only)
          · refine TfC_ch h hK (fun a y u => by simp (disch := omega) only [mset_n]) (fun i j u v => ?_) (fun _ => rfl) ?_ (fun j u v => ?_) (fun j z => ?_) (rc_1 (r := r) h.2.2.1 (fun i j u => ?_) (fun a y u v w => by simp (disch := omega) only [mset_n]) ?_) (fun g u => ?_)
            · unfold gtN
              simp (disch := omega) only [mset_n]
            · simp (disch := omega) only [mset_n]
              exact h.1.2.2.2.2.2
            · unfold gtN
              simp (disch := omega) only [mset_n]
              exact TfC_st2 h j u v
            · unfold gtN at z
              revert z
              simp (disch := omega) only [mset_n]
              exact id
            · unfold gtN
              simp (disch := omega) only [mset_n]
            · unfold RvC gtN
              simp (disch := omega) only [mset_n, mset_s]
              exact ⟨hC.1, fun _ => ⟨c1, trivial, trivial, trivial⟩⟩
            · simp (disch := omega) only [mset_n]
              exact TfC_gn h g u
          · simp (disch := omega) only [mset_n]
        · rw [if_neg a4, if_pos (by rw [sI_le (by omega) (by omega)]; omega)]
          refine wq_some ⟨rfl, rfl, ?_, fun a y u1 u2 => ?_⟩
          all_goals (try dsimp only)
          · refine TfC_ch h hK (fun a y u => by simp (disch := omega) only [mset_n]) (fun i j u v => mset_n (by omega)) (fun _ => rfl) ?_ (fun j u v => ?_) (fun j z => ?_) (rc_1 (r := r) h.2.2.1 (fun i j u => mset_n (by omega)) (fun a y u v w => by simp (disch := omega) only [mset_n]) ?_) (fun g u => ?_)
            · simp (disch := omega) only [mset_n]
              exact h.1.2.2.2.2.2
            · simp (disch := omega) only [mset_n]
              exact TfC_st2 h j u v
            · rw [mset_n (by omega)] at z; exact z
            · unfold RvC
              rw [mset_s, mset_s]
              exact ⟨rfl, fun z => by omega⟩
            · simp (disch := omega) only [mset_n]
              exact TfC_gn h g u
          · simp (disch := omega) only [mset_n]
      · rw [if_neg (by rw [sI_eq (by omega) (by omega)]; exact a3), if_neg a3, mck_s hr4 (by omega)]
        refine wq_some ⟨rfl, rfl, ?_, fun a y u1 u2 => ?_⟩
        all_goals (try dsimp only)
        · refine TfC_ch h hK (fun a y u => by simp (disch := omega) only [mset_n]) (fun i j u v => mset_n (by omega)) (fun j => mset_n (by omega)) ?_ (fun j u v => ?_) (fun j z => ?_) (rc_1 (r := r) h.2.2.1 (fun i j u => mset_n (by omega)) (fun a y u v w => by simp (disch := omega) only [mset_n]) ?_) (fun g u => ?_)
          · rw [mset_s, mset_s]; rfl
          · simp (disch := omega) only [mset_n]
            exact TfC_st2 h j u v
          · rw [mset_n (by omega)] at z; exact z
          · unfold RvC
            rw [mset_n (show ¬ (264 = 154 ∧ r = 10) by omega), mset_s, mset_s]
            exact ⟨rfl, fun z => by omega⟩
          · simp (disch := omega) only [mset_n]
            exact TfC_gn h g u
        · simp (disch := omega) only [mset_n]
    · rw [if_neg (by rw [sI_eq (by omega) (by omega)]; exact a2), if_neg (fun z => a2 z.2)]
      exact wq_some ⟨rfl, rfl, h, fun _ _ _ _ => rfl⟩
  · rw [if_neg (by rw [sI_eql (by omega) (by decide)]; exact fun z => a1 (cmo_1.mp z)), if_neg (fun z => a1 z.1)]
    exact wq_some ⟨rfl, rfl, h, fun _ _ _ _ => rfl⟩
theorem nx_le {m sq K : Nat} {p : PB} (h : m ≤ K) : (nxQ m sq p).2 ≤ K := by
  unfold nxQ
  split
  · split
    · split
      · exact Nat.zero_le _
      · exact h
    · exact Nat.zero_le _
  · exact Nat.zero_le _
theorem c_receive {fu f : Nat} {A : mwM} {L : mwL} {p : PB} {o : Nat → Nat → Nat} (hv : TfV p.1 p.2) (hF1 : p.1 0 1 < 1600 ∨ p.1 10 f ≠ 1) (h : TfC A p.1 p.2 o) (hf : f < p.1 0 1) : wq (DX9_receive fu (sI f) A L) (fun z => z.1 = sI (rvQ f p).2 ∧ z.2.2 = L ∧ TfC z.2.1 (rvQ f p).1.1 (rvQ f p).1.2 o ∧ ∀ a y, ¬ (a = 154 ∨ a = 159 ∨ (264 ≤ a ∧ a ≤ 268) ∨ (270 ≤ a ∧ a ≤ 273)) → z.2.1 a y = A a y) := by
  have hK := hv.1.1
  have hF0 := Tf_F hv
  have hF := hv.2.2.2 f hf
  obtain ⟨q270, q271, q272, q273⟩ := h.2.2.2 f hf
  unfold DX9_receive fX9_receive_b42 rvQ
  simp only [mlet]
  rw [mck_s (by omega) (by omega), sI_nn (by omega), q271, mck_s (by omega) (by omega), q270]
  generalize hm : p.1 11 f = m at *
  have hr4 : m % 4 < 4 := Nat.mod_lt _ (by omega)
  have hM := hv.2.1 m hF.2.1 hF.2.2.1
  have hR := hv.2.2.1 (m % 4) hr4
  have hC := h.2.2.1 (m % 4) hr4
  have k9 := h.1.2.2.2.2.1
  have hcl := cmo_le hR.1
  have e159 := (h.2.1 m hF.2.1 hF.2.2.1).2.2.2.1
  by_cases k3 : p.1 10 f = 3
  · rw [if_pos (by rw [k3]; rfl), if_pos k3, mck_s (by omega) (by omega), sI_nn (by omega), e159]
    by_cases a1 : p.1 3 m = 1
    · rw [if_pos (by rw [a1]; rfl), if_pos a1, mck_s (by omega) (by omega)]
      refine wq_some ⟨rfl, rfl, ?_, fun a y u => ?_⟩
      all_goals (try dsimp only)
      · refine TfC_ch h hK (fun a y u => by simp (disch := omega) only [mset_n]) (fun i j u v => mset_n (by omega)) (fun _ => rfl) ?_ (fun j u v => ?_) (fun j z => ?_) (fun r u => ?_) (fun g u => ?_)
        · simp (disch := omega) only [mset_n]
          exact h.1.2.2.2.2.2
        · by_cases hq : j = m
          · rw [hq, mset_s, mset_s]; rfl
          · rw [mset_j hq, mset_j hq]
            exact TfC_st2 h j u v
        · by_cases hq : j = m
          · rw [hq]; omega
          · rw [mset_j hq] at z; exact z
        · simp (disch := omega) only [mset_n]
          exact h.2.2.1 r u
        · simp (disch := omega) only [mset_n]
          exact TfC_gn h g u
      · simp (disch := omega) only [mset_n]
    · rw [if_neg (by rw [sI_eql (by omega) (by decide)]; exact a1), if_neg a1]
      exact wq_some ⟨rfl, rfl, h, fun _ _ _ => rfl⟩
  · rw [if_neg (by rw [sI_eql (by omega) (by decide)]; exact k3), if_neg k3, mck_s (by omega) (by omega)]
    by_cases k2 : p.1 10 f = 2
    · have hs := hF.2.2.2.2.2.2.1 k2
      have h100 := hM.2.2.1
      rw [if_pos (by rw [k2]; rfl), if_pos k2, mck_s (by omega) (by omega), q272]
      refine wq_b3 (c_receiveNext hv h hF.2.1 hF.2.2.1 (by omega)) ?_
      rintro r1 M1 L1 ⟨y0, y1, y2, y3⟩
      dsimp only at y0 y1 y2 y3
      exact wq_some ⟨y0, y1, y2, fun a y u => y3 a y (by omega) (by omega)⟩
    · rw [if_neg (by rw [sI_eql (by omega) (by decide)]; exact k2), if_neg k2]
      rw [show sI m - sI m / 4 * 4 = sI (m % 4) from sI_mod (b := 4) (by omega) (by omega)]
      generalize hr : m % 4 = r at *
      rw [mck_s hr4 (by omega), sI_nn (by omega), hC.1]
      -- a receiver begins
      have fin : ∀ a : mwM, TfC a p.1 (reB r p) o → (∀ x y, ¬ (x = 154 ∧ y = 10) → a x y = A x y) → wq (fX9_receive_b91 fu (sI f) (sI m) (sI r) a L) (fun z => z.1 = sI (if p.1 10 f = 0 then ((mset p.1 5 r 2, reB r p), m) else (fsP m p, 0)).2 ∧ z.2.2 = L ∧ TfC z.2.1 (if p.1 10 f = 0 then ((mset p.1 5 r 2, reB r p), m) else (fsP m p, 0)).1.1 (if p.1 10 f = 0 then ((mset p.1 5 r 2, reB r p), m) else (fsP m p, 0)).1.2 o ∧ ∀ a y, ¬ (a = 154 ∨ a = 159 ∨ (264 ≤ a ∧ a ≤ 268) ∨ (270 ≤ a ∧ a ≤ 273)) → z.2.1 a y = A a y) := by
        intro a ha pa
        unfold fX9_receive_b91
        rw [mck_s (by omega) (by omega), sI_nn (by omega), pa 270 f (by omega), q270]
        by_cases k0 : p.1 10 f = 0
        · rw [if_pos (by rw [k0]; rfl), if_pos k0, mck_s hr4 (by omega), sI_nn (by omega)]
          simp only [mlet]
          refine wq_some ⟨rfl, rfl, ?_, fun x y u => ?_⟩
          all_goals (try dsimp only)
          · refine TfC_ch ha hK (fun a y u => by simp (disch := omega) only [mset_n]) (fun i j u v => mset_n (by omega)) (fun _ => rfl) ?_ (fun j u v => ?_) (fun j z => ?_) (rc_1 (r := r) ha.2.2.1 (fun i j u => mset_n (by omega)) (fun a y u v w => by simp (disch := omega) only [mset_n]) ?_) (fun g u => ?_)
            · simp (disch := omega) only [mset_n]
              exact ha.1.2.2.2.2.2
            · simp (disch := omega) only [mset_n]
              exact TfC_st2 ha j u v
            · rw [mset_n (by omega)] at z; exact z
            · unfold RvC
              rw [mset_s, mset_s]
              exact ⟨rfl, fun z => by omega⟩
            · simp (disch := omega) only [mset_n]
              exact TfC_gn ha g u
          · rw [mset_n (by omega)]; exact pa x y (by omega)
        · have k1 : p.1 10 f = 1 := by omega
          rw [if_neg (by rw [sI_eql (by omega) (by decide)]; exact k0), if_neg k0]
          simp (disch := omega) only [mck_s, sI_nn, nn_s, sI_lt, sI_le, sI_eq, sI_ltl, sI_lel, sI_eql, sI_llt, sI_lle, sI_1, bI_0, bI_1, bI_n, mlet, mb3_s, mb2_s]
          simp (disch := omega) only [mset_n, pa 154 9, k9]
          have hT : TfC (mset (mset (mset (mset (mset a 264 r 1) 265 r (sI m)) 266 r 6) 267 r 1) 268 r (sI (p.1 0 3))) (fsN m p.1) (mset (reB r p) 3 m true) o := by
            refine TfC_ch ha hK (fun a y u => by simp (disch := omega) only [mset_n]) (fun i j u v => ?_) (fun j => mset_n (by omega)) ?_ (fun j u v => ?_) (fun j z => ?_) (rc_1 (r := r) ha.2.2.1 (fun i j u => ?_) (fun a y u v w => by simp (disch := omega) only [mset_n]) ?_) (fun g u => ?_)
            · unfold fsN
              rw [hr]
              simp (disch := omega) only [mset_n]
            · simp (disch := omega) only [mset_n]
              exact ha.1.2.2.2.2.2
            · unfold fsN
              rw [hr]
              simp (disch := omega) only [mset_n]
              exact TfC_st2 ha j u v
            · unfold fsN at z
              rw [hr] at z
              revert z
              simp (disch := omega) only [mset_n]
              exact id
            · unfold fsN
              rw [hr]
              simp (disch := omega) only [mset_n]
            · unfold RvC fsN
              rw [hr]
              simp (disch := omega) only [mset_n, mset_s]
              exact ⟨rfl, fun _ => ⟨trivial, rfl, rfl, trivial⟩⟩
            · simp (disch := omega) only [mset_n]
              exact TfC_gn ha g u
          have fo : ∀ i j, ¬ (5 ≤ i ∧ i ≤ 9 ∧ j = r) → fsN m p.1 i j = p.1 i j := by
            intro i j u
            unfold fsN
            rw [hr, mset_n (by omega), mset_n (by omega), mset_n (by omega), mset_n (by omega), mset_n (by omega)]
          refine wq_b2 (show wq (DX9_makeFrame fu 3 (sI m) 0 _ L) _ from c_makeFrame (kd := 3) (sq := 0) hT (by rw [fo 0 0 (by omega)]; exact hK) (by rw [fo 0 1 (by omega)]; omega)) ?_
          rintro M1 L1 ⟨y1, y2, y3⟩
          dsimp only at y1 y2 y3
          subst y1
          refine wq_some ⟨rfl, rfl, ?_, fun x y u => ?_⟩
          all_goals (try dsimp only)
          · unfold fsP
            rw [hr]
            exact y2
          · rw [y3 x y (by omega) (by omega)]
            simp (disch := omega) only [mset_n]
            exact pa x y (by omega)
      by_cases a1 : p.1 5 r = 1
      · rw [if_pos (by rw [a1]; rfl)]
        refine fin _ ?_ (fun x y u => mset_n u)
        have eb : reB r p = mset p.2 2 0 true := by unfold reB; rw [if_pos a1]
        rw [eb]
        refine TfC_ch h hK (fun a y u => by simp (disch := omega) only [mset_n]) (fun i j u v => rfl) (fun j => mset_n (by omega)) ?_ (fun j u v => ?_) (fun j z => z) (fun r u => ?_) (fun g u => ?_)
        · rw [mset_s, mset_s]; rfl
        · simp (disch := omega) only [mset_n]
          exact TfC_st2 h j u v
        · simp (disch := omega) only [mset_n]
          exact h.2.2.1 r u
        · simp (disch := omega) only [mset_n]
          exact TfC_gn h g u
      · rw [if_neg (by rw [sI_eql (by omega) (by decide)]; exact fun z => a1 (cmo_1.mp z))]
        refine fin _ ?_ (fun x y u => rfl)
        have eb : reB r p = p.2 := by unfold reB; rw [if_neg a1]
        rw [eb]
        exact h
