/-! what the transfer's tick leaves of frames made before -/
def Kp (p p' : PB) : Prop := p.1 0 1 ≤ p'.1 0 1 ∧ (∀ i f, 10 ≤ i → i ≤ 12 → f < p.1 0 1 → p'.1 i f = p.1 i f) ∧ (∀ f, f < p.1 0 1 → p'.2 1 f = p.2 1 f) ∧ (∀ f, p.1 0 1 ≤ f → f < p'.1 0 1 → p'.2 1 f = false) ∧ ∀ m, p'.2 0 m = p.2 0 m
theorem Kp_0 {p : PB} : Kp p p := ⟨Nat.le_refl _, fun _ _ _ _ _ => rfl, fun _ _ => rfl, fun f h1 h2 => by omega, fun _ => rfl⟩
theorem Kp_t {p q r : PB} (h1 : Kp p q) (h2 : Kp q r) : Kp p r := by
  obtain ⟨a1, a2, a3, a4, a5⟩ := h1
  obtain ⟨b1, b2, b3, b4, b5⟩ := h2
  refine ⟨by omega, fun i f u1 u2 u3 => by rw [b2 i f u1 u2 (by omega)]; exact a2 i f u1 u2 u3, fun f u => by rw [b3 f (by omega)]; exact a3 f u, fun f u1 u2 => ?_, fun m => by rw [b5]; exact a5 m⟩
  by_cases c : f < q.1 0 1
  · rw [b3 f c]; exact a4 f u1 c
  · exact b4 f (by omega) u2
theorem Kp_mk {p : PB} {kd m sq : Nat} : Kp p (mkN p.1 kd m sq, mkB p.1 p.2) := by
  have e : mkN p.1 kd m sq 0 1 = p.1 0 1 + 1 := by unfold mkN; rw [mset_s]
  refine ⟨by dsimp only; omega, fun i f u1 u2 u3 => ?_, fun f u => ?_, fun f u1 u2 => ?_, fun m => ?_⟩
  · dsimp only
    unfold mkN
    rw [mset_n (by omega), mset_n (by omega), mset_n (by omega), mset_n (by omega)]
  · dsimp only
    unfold mkB
    rw [mset_n (by omega)]
  · dsimp only at u2 ⊢
    rw [e] at u2
    unfold mkB
    rw [show f = p.1 0 1 from by omega, mset_s]
  · dsimp only
    unfold mkB
    rw [mset_n (by omega)]
theorem Kp_s {p q : PB} (h : Kp p q) {n : Nat → Nat → Nat} {b : Nat → Nat → Bool} (hn : ∀ i j, ¬ (3 ≤ i ∧ i ≤ 9) → ¬ (i = 0 ∧ j ≠ 1) → n i j = q.1 i j) (hb : ∀ i j, i ≤ 1 → b i j = q.2 i j) : Kp p (n, b) := by
  obtain ⟨a1, a2, a3, a4, a5⟩ := h
  have e := hn 0 1 (by omega) (by omega)
  exact ⟨by dsimp only; omega, fun i f u1 u2 u3 => by dsimp only; rw [hn i f (by omega) (by omega)]; exact a2 i f u1 u2 u3, fun f u => by dsimp only; rw [hb 1 f (by omega)]; exact a3 f u, fun f u1 u2 => by dsimp only at u2 ⊢; rw [hb 1 f (by omega)]; exact a4 f u1 (by omega), fun m => by dsimp only; rw [hb 0 m (by omega)]; exact a5 m⟩
theorem Kp_bg : ∀ k (p : PB), Kp p (bgA k p) := by
  intro k
  induction k with
  | zero => intro p; exact Kp_0
  | succ k ih =>
    intro p
    show Kp p (if (bgA k p).1 3 (k + 1) = 0 then (bgN (bgA k p).1 (k + 1), mkB (bgA k p).1 (bgA k p).2) else bgA k p)
    split
    · refine Kp_s (Kp_t (ih p) (Kp_mk (p := bgA k p) (kd := if (bgA k p).1 2 (k + 1) ≤ 7 then 0 else 1) (m := k + 1) (sq := 0))) (fun i j u1 u2 => ?_) (fun _ _ _ => rfl)
      unfold bgN
      rw [mset_n (by omega), mset_n (by omega)]
    · exact ih p
theorem Kp_co {m : Nat} : ∀ k (p : PB), Kp p (coP m k p) := by
  intro k
  induction k with
  | zero => intro p; exact Kp_0
  | succ k ih => intro p; exact Kp_t (ih p) Kp_mk
theorem Kp_go {m t : Nat} {p : PB} : Kp p (goP m t p) := by
  unfold goP
  split
  · exact Kp_s (Kp_co _ p) (fun i j u1 u2 => by rw [mset_n (by omega)]) (fun _ _ _ => rfl)
  · split
    · exact Kp_s Kp_0 (fun i j u1 u2 => by rw [mset_n (by omega)]) (fun i j u => by rw [mset_n (by omega)])
    · exact Kp_0
theorem Kp_gA {t : Nat} : ∀ k (p : PB), Kp p (goA t k p) := by
  intro k
  induction k with
  | zero => intro p; exact Kp_0
  | succ k ih => intro p; exact Kp_t (ih p) Kp_go
theorem Kp_rc {t : Nat} : ∀ k (p : PB), Kp p (rcA t k p) := by
  intro k
  induction k with
  | zero => intro p; exact Kp_0
  | succ k ih =>
    intro p
    refine Kp_t (ih p) ?_
    show Kp (rcA t k p) (rcS t k (rcA t k p))
    unfold rcS
    split
    · exact Kp_s Kp_0 (fun i j u1 u2 => by rw [mset_n (by omega)]) (fun i j u => by rw [mset_n (by omega)])
    · exact Kp_0
theorem Kp_tk {t : Nat} {p : PB} : Kp p (tkP t p) := by
  unfold tkP clP
  refine Kp_s (Kp_t (Kp_t (Kp_t (Kp_bg (p.1 0 0) p) (Kp_gA (t := t) (p.1 0 0) _)) ?_) (Kp_rc (t := t) 4 _)) (fun i j u1 u2 => by rw [mset_n (by omega)]) (fun _ _ _ => rfl)
  exact Kp_s Kp_0 (fun i j u1 u2 => by rw [mset_n (by omega)]) (fun _ _ _ => rfl)
theorem Kp_rv {f : Nat} {p : PB} : Kp p (rvQ f p).1 := by
  unfold rvQ
  split
  · dsimp only
    split
    · exact Kp_s Kp_0 (fun i j u1 u2 => by rw [mset_n (by omega)]) (fun _ _ _ => rfl)
    · exact Kp_0
  · split
    · unfold nxQ
      split
      · split
        · split
          · refine Kp_s Kp_0 (fun i j u1 u2 => ?_) (fun _ _ _ => rfl)
            unfold gtN
            rw [mset_n (by omega), mset_n (by omega), mset_n (by omega)]
          · exact Kp_s Kp_0 (fun i j u1 u2 => by rw [mset_n (by omega)]) (fun _ _ _ => rfl)
        · exact Kp_s Kp_0 (fun i j u1 u2 => by rw [mset_n (by omega)]) (fun i j u => by rw [mset_n (by omega)])
      · exact Kp_0
    · split
      · refine Kp_s Kp_0 (fun i j u1 u2 => by rw [mset_n (by omega)]) (fun i j u => ?_)
        unfold reB
        split
        · rw [mset_n (by omega)]
        · rfl
      · dsimp only
        unfold fsP
        refine Kp_t (q := (fsN (p.1 11 f) p.1, mset (reB (p.1 11 f % 4) p) 3 (p.1 11 f) true)) (Kp_s Kp_0 (fun i j u1 u2 => ?_) (fun i j u => ?_)) Kp_mk
        · unfold fsN
          rw [mset_n (by omega), mset_n (by omega), mset_n (by omega), mset_n (by omega), mset_n (by omega)]
        · rw [mset_n (by omega)]
          unfold reB
          split
          · rw [mset_n (by omega)]
          · rfl
theorem rch_g {c : Nat} {tt : Bool} {p : PB} (hG : ∀ f, p.1 0 2 ≤ f → f < p.1 0 1 → p.2 1 f = false) : ∀ f, (rchP c tt p).1.1 0 2 ≤ f → f < (rchP c tt p).1.1 0 1 → (rchP c tt p).1.2 1 f = false := by
  unfold rchP
  cases hf : (List.range (p.1 0 2)).find? (onW p.1 p.2 c tt) with
  | none => exact hG
  | some f0 =>
    dsimp only
    have hm := List.mem_range.mp (List.mem_of_find?_eq_some hf)
    intro f u1 u2
    rw [rv_n (by omega)] at u1
    dsimp only at u1
    obtain ⟨a1, a2, a3, a4, a5⟩ := Kp_rv (f := f0) (p := (p.1, mset p.2 1 f0 true))
    dsimp only at a1 a3 a4
    by_cases c1 : f < p.1 0 1
    · rw [a3 f c1, mset_n (by omega)]
      exact hG f u1 c1
    · exact a4 f (by omega) u2
