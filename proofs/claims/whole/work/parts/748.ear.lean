/-! the ear: behind the stuffed bits -/
def tld (s : Nat → Nat) (e : Nat) : Nat → Nat
  | 0 => 0
  | j + 1 => if j % 5 = 0 ∨ j < 5 then tld s e j else 2 * tld s e j + s (e + j)
def scS (s : Nat → Nat) (e : Nat) : Nat → Nat := fun i => if i < e then s i else s (i + 1)
def Wd (h : Nat → Nat) : Nat := if 16 < h 16 then 32 else 27
theorem Wd_b (h : Nat → Nat) : 27 ≤ Wd h ∧ Wd h ≤ 32 := by unfold Wd; split <;> omega
theorem tld_lt {s : Nat → Nat} {e : Nat} : ∀ j, (∀ i, i < e + j → s i < 2) → tld s e j < 2 ^ (j - (j + 4) / 5 - 4) := by
  intro j
  induction j with
  | zero => intro _; exact Nat.two_pow_pos _
  | succ j ih =>
    intro hs
    have h1 := ih (fun i u => hs i (by omega))
    unfold tld
    by_cases c : j % 5 = 0 ∨ j < 5
    · rw [if_pos c]
      exact Nat.lt_of_lt_of_le h1 (Nat.pow_le_pow_right (by omega) (by omega))
    · rw [if_neg c, show j + 1 - (j + 1 + 4) / 5 - 4 = (j - (j + 4) / 5 - 4) + 1 by omega, Nat.pow_succ]
      have := hs (e + j) (by omega)
      omega
def FX (s : Nat → Nat) (e : Nat) (he h : Nat → Nat) (i : Nat) : Prop :=
  h 2 = s (e + i - 1) ∧ h 19 = num (fun j => s (e + j)) 1 (min i 5 - 1) ∧ h 18 = tld s e i ∧ h 8 = crcF (2 ^ 16) 92251 65536 (scS s e) (e + (min i 5 - 1)) ∧ h 9 = crcF (2 ^ 20) 1058969 1048576 (scS s e) (e + (min i 5 - 1)) ∧ h 8 < 131072 ∧ h 9 < 2097152 ∧ ∀ c, c ≠ 1 → c ≠ 2 → c ≠ 6 → c ≠ 8 → c ≠ 9 → c ≠ 18 → c ≠ 19 → h c = he c
theorem FX_0 {s p h o : Nat → Nat} {e : Nat} (hD : ED s e p h o) (h13 : h 13 = 1) : FX s e h h 0 := by
  obtain ⟨⟨e1, e2, e3, e4, e5, e6, e7, e8, e9, e10, e11, e12⟩, hd⟩ := hD
  obtain ⟨m1, m2⟩ := e9 (Or.inl h13)
  have k18 : h 18 = 0 := by
    have := (PI_x.mp e1).2.2.2.2.2.2.2.2.2.2.1
    rcases hd with z | z
    · rw [this, z.2.2, Nat.sub_self]
      rfl
    · omega
  have cc : ∀ top sh v, crcF top sh v (scS s e) e = crcF top sh v s e := fun top sh v => crcF_c e (fun i u => if_pos u)
  refine ⟨e2, e8, k18, ?_, ?_, e10, e11, fun _ _ _ _ _ _ _ _ => rfl⟩
  · show h 8 = crcF (2 ^ 16) 92251 65536 (scS s e) e
    rw [cc]; exact m1
  · show h 9 = crcF (2 ^ 20) 1058969 1048576 (scS s e) e
    rw [cc]; exact m2
theorem FX_s {s he h : Nat → Nat} {e i b : Nat} (hF : FX s e he h i) (h6 : h 6 = i) (h1 : h 1 = 1) (hi : i < Wd he) (hs : s (e + i) = b) : FX s e he (hFix b h) (i + 1) ∧ (i + 1 < Wd he → hFix b h 1 = 1 ∧ hFix b h 6 = i + 1) ∧ (i + 1 = Wd he → hFix b h 1 = 2 ∧ hFix b h 6 = 0) := by
  obtain ⟨f2, f19, f18, f8, f9, l8, l9, fr⟩ := hF
  have f16 : h 16 = he 16 := fr 16 (by omega) (by omega) (by omega) (by omega) (by omega) (by omega) (by omega)
  have wb := Wd_b he
  have w1 : 3 + (if 16 < h 16 then 21 else 17) = (if Wd he = 32 then 24 else 20) := by
    unfold Wd
    rw [f16]
    by_cases c : 16 < he 16
    · rw [if_pos c, if_pos c, if_pos rfl]
    · rw [if_neg c, if_neg c, if_neg (by omega)]
  have w2 : Wd he = 27 ∨ Wd he = 32 := by unfold Wd; split <;> omega
  unfold hFix
  rw [h6, w1]
  by_cases c1 : i % 5 = 0
  · rw [if_pos c1]
    refine ⟨⟨?_, ?_, ?_, ?_, ?_, l8, l9, fun c u1 u2 u3 u4 u5 u6 u7 => ?_⟩, fun _ => ⟨h1, nst_n (by omega)⟩, fun z => by omega⟩
    · rw [nst_s]; exact hs.symm
    · show h 19 = _
      rw [f19]
      by_cases z : i = 0
      · rw [z]; rfl
      · rw [show min (i + 1) 5 - 1 = min i 5 - 1 by omega]
    · show h 18 = tld s e (i + 1)
      unfold tld
      rw [if_pos (Or.inl c1)]
      exact f18
    · show h 8 = _
      rw [f8]
      by_cases z : i = 0
      · rw [z]; rfl
      · rw [show min (i + 1) 5 - 1 = min i 5 - 1 by omega]
    · show h 9 = _
      rw [f9]
      by_cases z : i = 0
      · rw [z]; rfl
      · rw [show min (i + 1) 5 - 1 = min i 5 - 1 by omega]
    · rw [nst_n (by omega), nst_n (by omega)]
      exact fr c u1 u2 u3 u4 u5 u6 u7
  · rw [if_neg c1]
    by_cases c2 : 4 ≤ i - i / 5 - 1
    · rw [if_pos c2]
      have base : FX s e he (nst (nst (nst h 6 (i + 1)) 2 b) 18 (2 * h 18 + b)) (i + 1) := by
        refine ⟨hs.symm, ?_, ?_, ?_, ?_, l8, l9, fun c u1 u2 u3 u4 u5 u6 u7 => ?_⟩
        · show h 19 = _
          rw [f19, show min (i + 1) 5 - 1 = min i 5 - 1 by omega]
        · rw [nst_s]
          unfold tld
          rw [if_neg (by omega), f18, hs]
        · show h 8 = _
          rw [f8, show min (i + 1) 5 - 1 = min i 5 - 1 by omega]
        · show h 9 = _
          rw [f9, show min (i + 1) 5 - 1 = min i 5 - 1 by omega]
        · rw [nst_n (by omega), nst_n (by omega), nst_n (by omega)]
          exact fr c u1 u2 u3 u4 u5 u6 u7
      by_cases c3 : i - i / 5 - 1 = (if Wd he = 32 then 24 else 20)
      · rw [if_pos c3]
        have c4 : i + 1 = Wd he := by
          rcases w2 with w | w
          · rw [w, if_neg (by decide)] at c3; omega
          · rw [w, if_pos rfl] at c3; omega
        refine ⟨?_, fun z => by omega, fun _ => ⟨rfl, nst_s⟩⟩
        obtain ⟨g2, g19, g18, g8, g9, gl8, gl9, gf⟩ := base
        refine ⟨g2, g19, g18, g8, g9, gl8, gl9, fun c u1 u2 u3 u4 u5 u6 u7 => ?_⟩
        rw [nst_n (by omega), nst_n (by omega)]
        exact gf c u1 u2 u3 u4 u5 u6 u7
      · rw [if_neg c3]
        refine ⟨base, fun _ => ⟨h1, rfl⟩, fun z => ?_⟩
        exfalso
        apply c3
        rcases w2 with w | w
        · rw [w, if_neg (by decide)]; omega
        · rw [w, if_pos rfl]; omega
    · rw [if_neg c2]
      have ii : 1 ≤ i ∧ i ≤ 4 := by omega
      refine ⟨⟨hs.symm, ?_, ?_, ?_, ?_, c17_lt _ _, c21_lt _ _, fun c u1 u2 u3 u4 u5 u6 u7 => ?_⟩, fun _ => ⟨h1, rfl⟩, fun z => by omega⟩
      · show 2 * h 19 + b = _
        rw [f19, show min i 5 - 1 = i - 1 by omega, show min (i + 1) 5 - 1 = (i - 1) + 1 by omega]
        show _ = 2 * num (fun j => s (e + j)) 1 (i - 1) + s (e + (1 + (i - 1)))
        rw [show 1 + (i - 1) = i by omega, hs]
      · show h 18 = tld s e (i + 1)
        unfold tld
        rw [if_pos (by omega)]
        exact f18
      · show c17 (h 8) b = _
        rw [f8, show min i 5 - 1 = i - 1 by omega, show e + (min (i + 1) 5 - 1) = (e + (i - 1)) + 1 by omega]
        show _ = crcS (2 ^ 16) 92251 (crcF (2 ^ 16) 92251 65536 (scS s e) (e + (i - 1))) (scS s e (e + (i - 1)))
        rw [show scS s e (e + (i - 1)) = b by unfold scS; rw [if_neg (by omega), show e + (i - 1) + 1 = e + i by omega]; exact hs]
        rfl
      · show c21 (h 9) b = _
        rw [f9, show min i 5 - 1 = i - 1 by omega, show e + (min (i + 1) 5 - 1) = (e + (i - 1)) + 1 by omega]
        show _ = crcS (2 ^ 20) 1058969 (crcF (2 ^ 20) 1058969 1048576 (scS s e) (e + (i - 1))) (scS s e (e + (i - 1)))
        rw [show scS s e (e + (i - 1)) = b by unfold scS; rw [if_neg (by omega), show e + (i - 1) + 1 = e + i by omega]; exact hs]
        rfl
      · rw [nst_n (by omega), nst_n (by omega), nst_n (by omega), nst_n (by omega), nst_n (by omega)]
        exact fr c u1 u2 u3 u4 u5 u6 u7
/-- the whole of it -/
def hAll (b : Nat) (h : Nat → Nat) : Nat → Nat := if h 1 = 1 then hFix b h else if h 1 = 2 then nst h 6 (h 6 + 1) else hBody b h
def rAll (b : Nat) (h : Nat → Nat) : Nat := if h 1 = 1 then rFix b h else if h 1 = 2 then rTail b h else rBody b h
def oAll (b : Nat) (h o : Nat → Nat) : Nat → Nat := if h 1 = 0 then oBody b h o else o
def pAll (b : Nat) (p h : Nat → Nat) : Nat → Nat := if h 1 = 0 then pBody b p h else p
/-- behind the body: e bits of it, i bits more -/
def ET (s : Nat → Nat) (e i : Nat) (p he h o : Nat → Nat) : Prop := ED s e p he o ∧
  ((he 13 = 0 ∧ h = nst he 6 i ∧ i ≤ 9) ∨
   (he 13 = 1 ∧ i < Wd he ∧ FX s e he h i ∧ h 1 = 1 ∧ h 6 = i) ∨
   (he 13 = 1 ∧ ∃ g, FX s e he g (Wd he) ∧ g 1 = 2 ∧ Wd he ≤ i ∧ i - Wd he ≤ 9 ∧ h = nst g 6 (i - Wd he)))
theorem nst_nst {h : Nat → Nat} {i x y : Nat} : nst (nst h i x) i y = nst h i y := by
  funext j
  unfold nst
  by_cases q : j = i
  · rw [if_pos q, if_pos q]
  · rw [if_neg q, if_neg q, if_neg q]
theorem nst_id {h : Nat → Nat} {i x : Nat} (e : h i = x) : nst h i x = h := by
  funext j
  unfold nst
  by_cases q : j = i
  · rw [if_pos q, q, e]
  · rw [if_neg q]
theorem ET_0 {s p h o : Nat → Nat} {e : Nat} (hD : ED s e p h o) : ET s e 0 p h h o := by
  refine ⟨hD, ?_⟩
  have wb := Wd_b h
  have h6 := hD.1.2.2.2.2.2.2.1
  rcases hD.2 with z | z
  · exact Or.inr (Or.inl ⟨z.1, by omega, FX_0 hD z.1, z.2.1, h6⟩)
  · exact Or.inl ⟨z.1, (nst_id h6).symm, by omega⟩
theorem rTail_9 {b : Nat} {h : Nat → Nat} (h6 : h 6 = 9) : rTail b h = 5 ∨ rTail b h = 7 := by
  unfold rTail
  rw [h6, if_neg (show ¬ 9 = 1 by decide)]
  by_cases z : b = 0
  · rw [if_pos z, if_pos rfl]
    exact Or.inl rfl
  · rw [if_neg z, if_neg (show ¬ (9 = 2 ∧ hRight h = false) from fun y => by omega), if_neg (show ¬ 9 = 8 by decide), if_neg (show ¬ 9 < 9 by decide)]
    exact Or.inr rfl
theorem ET_s {s p he h o : Nat → Nat} {e i b : Nat} (hT : ET s e i p he h o) (hs : s (e + i) = b) (hr : rAll b h = 0 ∨ rAll b h = 6) : ET s e (i + 1) p he (hAll b h) o ∧ h 1 ≠ 0 := by
  obtain ⟨hD, hc⟩ := hT
  have wb := Wd_b he
  rcases hc with ⟨c1, c2, c3⟩ | ⟨c1, c2, c3, c4, c5⟩ | ⟨c1, g, c2, c3, c4, c5, c6⟩
  · have h1 : h 1 = 2 := by
      rw [c2]
      rcases hD.2 with z | z
      · omega
      · exact z.2.1
    have h6 : h 6 = i := by rw [c2, nst_s]
    have n9 : i ≠ 9 := by
      intro z
      have : rAll b h = 5 ∨ rAll b h = 7 := by
        unfold rAll
        rw [if_neg (by omega), if_pos h1]
        exact rTail_9 (by omega)
      omega
    refine ⟨⟨hD, Or.inl ⟨c1, ?_, by omega⟩⟩, by omega⟩
    unfold hAll
    rw [if_neg (by omega), if_pos h1, h6, c2, nst_nst]
  · refine ⟨⟨hD, ?_⟩, by omega⟩
    obtain ⟨a1, a2, a3⟩ := FX_s c3 c5 c4 c2 hs
    have e1 : hAll b h = hFix b h := if_pos c4
    rw [e1]
    by_cases z : i + 1 < Wd he
    · exact Or.inr (Or.inl ⟨c1, z, a1, a2 z⟩)
    · have z2 : i + 1 = Wd he := by omega
      rw [z2] at a1
      obtain ⟨a4, a5⟩ := a3 z2
      refine Or.inr (Or.inr ⟨c1, _, a1, a4, by omega, by omega, ?_⟩)
      rw [show i + 1 - Wd he = 0 by omega]
      exact (nst_id a5).symm
  · have h1 : h 1 = 2 := by rw [c6]; exact c3
    have h6 : h 6 = i - Wd he := by rw [c6, nst_s]
    have n9 : i - Wd he ≠ 9 := by
      intro z
      have : rAll b h = 5 ∨ rAll b h = 7 := by
        unfold rAll
        rw [if_neg (by omega), if_pos h1]
        exact rTail_9 (by omega)
      omega
    refine ⟨⟨hD, Or.inr (Or.inr ⟨c1, g, c2, c3, by omega, by omega, ?_⟩)⟩, by omega⟩
    unfold hAll
    rw [if_neg (by omega), if_pos h1, h6, c6, nst_nst, show i + 1 - Wd he = i - Wd he + 1 by omega]
