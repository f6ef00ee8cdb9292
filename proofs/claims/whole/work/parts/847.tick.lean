/-! what the transfer's tick leaves of frames made before -/
def Kp (p p' : PB) : Prop := p.1 0 1 ≤ p'.1 0 1 ∧ (∀ i f, 10 ≤ i → i ≤ 12 → f < p.1 0 1 → p'.1 i f = p.1 i f) ∧ (∀ f, f < p.1 0 1 → p'.2 1 f = p.2 1 f) ∧ (∀ f, p.1 0 1 ≤ f → f < p'.1 0 1 → p'.2 1 f = false) ∧ ∀ m, p'.2 0 m = p.2 0 m
theorem Kp_0 {p : PB} : Kp p p := ⟨Nat.le_refl _, fun _ _ _ _ _ => rfl, fun _ _ => rfl, fun f h1 h2 => by omega, fun _ => rfl⟩
theorem Kp_t {p q r : PB} (h1 : Kp p q) (h2 : Kp q r) : Kp p r := by
  obtain ⟨a1, a2, a3, a4, a5⟩ := h1
  obtain ⟨b1, b2, b3, b4, b5⟩ := h2
  refine ⟨by omega, fun i f u1 u2 u3 => by rw [b2 i f u1 u2 (by omega)]; exact a2 i f u1 u2 u3, fun f u => by rw [b3 f (by omega)]; exact a3 f u, fun f u1 u2 => ?_, fun m => by rw [b5]; exact a5 m⟩
  by_cases c : f < q.1 0 1
  · rw [b3 f c]; exact a4 f u1 c
  · exact b4 f (by omega) u2
theorem Kp_mk {p : PB} {kd m sq : Nat} : Kp p (mkN p.1 kd m sq, mkB p.1 p.2) := by
  have e : mkN p.1 kd m sq 0 1 = p.1 0 1 + 1 := by unfold mkN; rw [mset_s]
  refine ⟨by dsimp only; omega, fun i f u1 u2 u3 => ?_, fun f u => ?_, fun f u1 u2 => ?_, fun m => ?_⟩
  · dsimp only
    unfold mkN
    rw [mset_n (by omega), mset_n (by omega), mset_n (by omega), mset_n (by omega)]
  · dsimp only
    unfold mkB
    rw [mset_n (by omega)]
  · dsimp only at u2 ⊢
    rw [e] at u2
    unfold mkB
    rw [show f = p.1 0 1 from by omega, mset_s]
  · dsimp only
    unfold mkB
    rw [mset_n (by omega)]
theorem Kp_s {p q : PB} (h : Kp p q) {n : Nat → Nat → Nat} {b : Nat → Nat → Bool} (hn : ∀ i j, ¬ (3 ≤ i ∧ i ≤ 9) → ¬ (i = 0 ∧ j ≠ 1) → n i j = q.1 i j) (hb : ∀ i j, i ≠ 2 → b i j = q.2 i j) : Kp p (n, b) := by
  obtain ⟨a1, a2, a3, a4, a5⟩ := h
  have e := hn 0 1 (by omega) (by omega)
  exact ⟨by dsimp only; omega, fun i f u1 u2 u3 => by dsimp only; rw [hn i f (by omega) (by omega)]; exact a2 i f u1 u2 u3, fun f u => by dsimp only; rw [hb 1 f (by omega)]; exact a3 f u, fun f u1 u2 => by dsimp only at u2 ⊢; rw [hb 1 f (by omega)]; exact a4 f u1 (by omega), fun m => by dsimp only; rw [hb 0 m (by omega)]; exact a5 m⟩
theorem Kp_bg : ∀ k (p : PB), Kp p (bgA k p) := by
  intro k
  induction k with
  | zero => intro p; exact Kp_0
  | succ k ih =>
    intro p
    show Kp p (if (bgA k p).1 3 (k + 1) = 0 then (bgN (bgA k p).1 (k + 1), mkB (bgA k p).1 (bgA k p).2) else bgA k p)
    split
    · refine Kp_s (Kp_t (ih p) (Kp_mk (p := bgA k p) (kd := if (bgA k p).1 2 (k + 1) ≤ 7 then 0 else 1) (m := k + 1) (sq := 0))) (fun i j u1 u2 => ?_) (fun _ _ _ => rfl)
      unfold bgN
      rw [mset_n (by omega), mset_n (by omega)]
    · exact ih p
theorem Kp_co {m : Nat} : ∀ k (p : PB), Kp p (coP m k p) := by
  intro k
  induction k with
  | zero => intro p; exact Kp_0
  | succ k ih => intro p; exact Kp_t (ih p) Kp_mk
theorem Kp_go {m t : Nat} {p : PB} : Kp p (goP m t p) := by
  unfold goP
  split
  · exact Kp_s (Kp_co _ p) (fun i j u1 u2 => by rw [mset_n (by omega)]) (fun _ _ _ => rfl)
  · split
    · exact Kp_s Kp_0 (fun i j u1 u2 => by rw [mset_n (by omega)]) (fun i j u => by rw [mset_n (by omega)])
    · exact Kp_0
theorem Kp_gA {t : Nat} : ∀ k (p : PB), Kp p (goA t k p) := by
  intro k
  induction k with
  | zero => intro p; exact Kp_0
  | succ k ih => intro p; exact Kp_t (ih p) Kp_go
theorem Kp_rc {t : Nat} : ∀ k (p : PB), Kp p (rcA t k p) := by
  intro k
  induction k with
  | zero => intro p; exact Kp_0
  | succ k ih =>
    intro p
    refine Kp_t (ih p) ?_
    show Kp (rcA t k p) (rcS t k (rcA t k p))
    unfold rcS
    split
    · exact Kp_s Kp_0 (fun i j u1 u2 => by rw [mset_n (by omega)]) (fun i j u => by rw [mset_n (by omega)])
    · exact Kp_0
theorem Kp_tk {t : Nat} {p : PB} : Kp p (tkP t p) := by
  unfold tkP clP
  refine Kp_s (Kp_t (Kp_t (Kp_t (Kp_bg (p.1 0 0) p) (Kp_gA (t := t) (p.1 0 0) _)) ?_) (Kp_rc (t := t) 4 _)) (fun i j u1 u2 => by rw [mset_n (by omega)]) (fun _ _ _ => rfl)
  exact Kp_s Kp_0 (fun i j u1 u2 => by rw [mset_n (by omega)]) (fun _ _ _ => rfl)
theorem tk_n {t i j : Nat} {p : PB} (h : (i = 0 ∧ (j = 0 ∨ j = 2)) ∨ i = 1 ∨ i = 2) : (tkP t p).1 i j = p.1 i j := by
  rw [tk_r (by omega) (by omega), gA_r (by omega) (by omega) (by omega), bA_r (by omega) (by omega) (by omega) (by omega)]
/-- what is on its way stays so -/
theorem ob_k {p p' : PB} (h : Kp p p') (h2 : p'.1 0 2 = p.1 0 2) (hle : p.1 0 2 ≤ p.1 0 1) (h1 : ∀ m, p'.1 1 m = p.1 1 m) : obL p'.1 p'.2 = obL p.1 p.2 ∧ ∀ f, f < p.1 0 1 → idO p'.1 p'.2 f = idO p.1 p.2 f := by
  obtain ⟨a1, a2, a3, a4, a5⟩ := h
  constructor
  · unfold obL
    rw [h2]
    refine List.filter_congr (fun g hg => ?_)
    rw [a3 g (by have := List.mem_range.mp hg; omega)]
  · intro f hf
    unfold idO toT
    rw [a2 11 f (by omega) (by omega) hf, a2 10 f (by omega) (by omega) hf, h1, a5]
/-- behind the tick -/
theorem TfN_tk {M M' : mwM} {t : Nat} {p : PB} {e e' : Nat → Nat} (hv : TfV p.1 p.2) (h : TfN M p.1 p.2 e) (ht : t = p.1 0 3 + 1) (h03 : (tkP t p).1 0 3 = t) (hR : eR 208 e p.2 e' (tkP t p).2) (hM : ∀ a y, (a = 732 ∧ (y = 88 ∨ (91 ≤ y ∧ y ≤ 96))) ∨ (927 ≤ a ∧ a ≤ 930) → M' a y = M a y) : TfN M' (tkP t p).1 (tkP t p).2 e' := by
  have h' := TfN_fr h hM
  obtain ⟨k1, k2, k3, ⟨en, k4, k5, k6⟩, k7, k8, k9, k10⟩ := h'
  obtain ⟨r1, r2, r3, r4⟩ := hR
  have hk := Kp_tk (t := t) (p := p)
  obtain ⟨o1, o2⟩ := ob_k hk (tk_n (by omega)) hv.1.2.1 (fun m => tk_n (by omega))
  have n0 : (tkP t p).1 0 0 = p.1 0 0 := tk_n (by omega)
  have n2 : (tkP t p).1 0 2 = p.1 0 2 := tk_n (by omega)
  refine ⟨by rw [n0]; exact k1, fun m m1 m2 => ?_, by rw [r1]; exact k3, ⟨en, k4, by omega, ?_⟩, by rw [n2]; exact k7, by rw [o1]; exact k8, ?_, ?_⟩
  · rw [n0] at m2
    rw [tk_n (by omega), hk.2.2.2.2 m]
    exact k2 m m1 m2
  · rw [r4, k6]
    by_cases c1 : en < eS e
    · rw [decide_eq_true c1, decide_eq_true (by omega : en < eS e')]
      rfl
    · rw [decide_eq_false c1]
      by_cases c2 : eS e < eS e'
      · rw [decide_eq_true c2, decide_eq_true (by omega : en < eS e')]
        rfl
      · rw [decide_eq_false c2, decide_eq_false (by omega : ¬ en < eS e')]
        rfl
  · rw [o1]
    intro k hk'
    have hmem : (obL p.1 p.2)[k] ∈ obL p.1 p.2 := List.getElem_mem _
    obtain ⟨f1, f2⟩ := ob_mem.mp hmem
    rw [o2 _ (by have := hv.1.2.1; omega)]
    exact k9 k hk'
  · rw [o1, n2, h03, r1]
    omega
