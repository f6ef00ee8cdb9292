/-! behind the transfer's tick -/
theorem tk_n {t i j : Nat} {p : PB} (h : (i = 0 ∧ (j = 0 ∨ j = 2)) ∨ i = 1 ∨ i = 2) : (tkP t p).1 i j = p.1 i j := by
  rw [tk_r (by omega) (by omega), gA_r (by omega) (by omega) (by omega), bA_r (by omega) (by omega) (by omega) (by omega)]
/-- what is on its way stays so -/
theorem ob_k {p p' : PB} (h : Kp p p') (h2 : p'.1 0 2 = p.1 0 2) (hle : p.1 0 2 ≤ p.1 0 1) (h1 : ∀ m, p'.1 1 m = p.1 1 m) : obL p'.1 p'.2 = obL p.1 p.2 ∧ ∀ f, f < p.1 0 1 → idO p'.1 p'.2 f = idO p.1 p.2 f := by
  obtain ⟨a1, a2, a3, a4, a5⟩ := h
  constructor
  · unfold obL
    rw [h2]
    refine List.filter_congr (fun g hg => ?_)
    rw [a3 g (by have := List.mem_range.mp hg; omega)]
  · intro f hf
    unfold idO toT
    rw [a2 11 f (by omega) (by omega) hf, a2 10 f (by omega) (by omega) hf, h1, a5]
/-- behind the tick -/
theorem TfN_tk {M M' : mwM} {t : Nat} {p : PB} {e e' : Nat → Nat} (hv : TfV p.1 p.2) (h : TfN M p.1 p.2 e) (ht : t = p.1 0 3 + 1) (h03 : (tkP t p).1 0 3 = t) (hR : eR 208 e p.2 e' (tkP t p).2) (hM : ∀ a y, (a = 732 ∧ (y = 88 ∨ (91 ≤ y ∧ y ≤ 96))) ∨ (927 ≤ a ∧ a ≤ 930) → M' a y = M a y) : TfN M' (tkP t p).1 (tkP t p).2 e' := by
  have h' := TfN_fr h hM
  obtain ⟨k1, k2, k3, ⟨en, k4, k5, k6⟩, k7, k8, k9, k10⟩ := h'
  obtain ⟨r1, r2, r3, r4⟩ := hR
  have hk := Kp_tk (t := t) (p := p)
  obtain ⟨o1, o2⟩ := ob_k hk (tk_n (by omega)) hv.1.2.1 (fun m => tk_n (by omega))
  have n0 : (tkP t p).1 0 0 = p.1 0 0 := tk_n (by omega)
  have n2 : (tkP t p).1 0 2 = p.1 0 2 := tk_n (by omega)
  refine ⟨by rw [n0]; exact k1, fun m m1 m2 => ?_, by rw [r1]; exact k3, ⟨en, k4, by omega, ?_⟩, by rw [n2]; exact k7, by rw [o1]; exact k8, ?_, ?_⟩
  · rw [n0] at m2
    rw [tk_n (by omega), hk.2.2.2.2 m]
    exact k2 m m1 m2
  · rw [r4, k6]
    by_cases c1 : en < eS e
    · rw [decide_eq_true c1, decide_eq_true (by omega : en < eS e')]
      rfl
    · rw [decide_eq_false c1]
      by_cases c2 : eS e < eS e'
      · rw [decide_eq_true c2, decide_eq_true (by omega : en < eS e')]
        rfl
      · rw [decide_eq_false c2, decide_eq_false (by omega : ¬ en < eS e')]
        rfl
  · rw [o1]
    intro k hk'
    have hmem : (obL p.1 p.2)[k] ∈ obL p.1 p.2 := List.getElem_mem _
    obtain ⟨f1, f2⟩ := ob_mem.mp hmem
    rw [o2 _ (by have := hv.1.2.1; omega)]
    exact k9 k hk'
  · rw [o1, n2, h03, r1]
    omega
