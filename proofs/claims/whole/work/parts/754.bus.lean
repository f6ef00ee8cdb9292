/-! the reference's body, as it is remembered -/
def z0 : Nat → Nat := fun _ => 0
def HV (s : Nat → Nat) (K E : Nat) : Prop := 2 ≤ E ∧ E ≤ K + 1 ∧ (∀ j, 1 ≤ j → j < E → j ≤ K → ES s j (pq s j) (hq s j) (oq s z0 j)) ∧ (∀ j, 1 ≤ j → j + 1 < E → j < K → rBody (s j) (hq s j) = 0) ∧ (E ≤ K → rBody (s (E - 1)) (hq s (E - 1)) = 0 → hq s E 1 ≠ 0)
theorem rAll_0 {b : Nat} {h : Nat → Nat} (h1 : h 1 = 0) : rAll b h = rBody b h ∧ hAll b h = hBody b h := by
  unfold rAll hAll
  rw [if_neg (by omega), if_neg (by omega), if_neg (by omega), if_neg (by omega)]
  exact ⟨rfl, rfl⟩
theorem HV_ex {s : Nat → Nat} {K : Nat} (hK : 1 ≤ K) (h0 : s 0 = 0) (hs : ∀ i, i < K → s i < 2) (hg : Gd s (K - 1)) : ∃ E, HV s K E := by
  by_cases k1 : K = 1
  · subst k1
    refine ⟨2, by omega, by omega, fun j u1 u2 u3 => ?_, fun j u1 u2 u3 => by omega, fun u => by omega⟩
    have : j = 1 := by omega
    subst this
    exact ES_0 h0 rfl
  · obtain ⟨e, b1, b2, b3, b4⟩ := BE_K z0 (K - 1) (by omega) h0 (fun i u => hs i (by omega)) hg
    have rz : ∀ j, 1 ≤ j → j < K - 1 → j < e → rBody (s j) (hq s j) = 0 := fun j u1 u2 u3 => by
      have e1 := b3 j u1 (by omega) u3
      have := hg j u1 u2
      rw [(rAll_0 e1.2.1).1] at this
      rcases this with z | z
      · exact z
      · exact absurd z rBody_6
    by_cases ce : e ≤ K - 1
    · refine ⟨e, b1, by omega, fun j u1 u2 u3 => b3 j u1 (by omega) u2, fun j u1 u2 u3 => rz j u1 (by omega) (by omega), fun _ _ => ?_⟩
      have := (b4 0 (by omega)).1
      have hd := this.1.2
      intro z
      omega
    · have e1 := b3 (K - 1) (by omega) (by omega) (by omega)
      have ek : e = K := by omega
      by_cases cr : rBody (s (K - 1)) (hq s (K - 1)) = 0
      · obtain ⟨q1, q2⟩ := ES_step e1 (by omega) (hs (K - 1) (by omega)) rfl cr
        have hh : hq s K = hBody (s (K - 1)) (hq s (K - 1)) := by
          have := hq_s (s := s) (K := K - 1) (by omega)
          rw [show K - 1 + 1 = K by omega] at this
          rw [this, (rAll_0 e1.2.1).2]
        have pp : pq s K = pBody (s (K - 1)) (pq s (K - 1)) (hq s (K - 1)) := by
          have := pq_s (s := s) (K := K - 1) (by omega)
          rw [show K - 1 + 1 = K by omega] at this
          rw [this]
          exact if_pos e1.2.1
        have oo : oq s z0 K = oBody (s (K - 1)) (hq s (K - 1)) (oq s z0 (K - 1)) := by
          have := oq_s (s := s) (o0 := z0) (K := K - 1) (by omega)
          rw [show K - 1 + 1 = K by omega] at this
          rw [this]
          exact if_pos e1.2.1
        rw [← hh, ← pp, ← oo, show K - 1 + 1 = K by omega] at q1 q2
        by_cases cs : hq s K 1 = 0
        · refine ⟨K + 1, by omega, by omega, fun j u1 u2 u3 => ?_, fun j u1 u2 u3 => ?_, fun u => by omega⟩
          · by_cases z : j = K
            · rw [z]; exact q1 cs
            · exact b3 j u1 (by omega) (by omega)
          · by_cases z : j = K - 1
            · rw [z]; exact cr
            · exact rz j u1 (by omega) (by omega)
        · refine ⟨K, by omega, by omega, fun j u1 u2 u3 => b3 j u1 (by omega) (by omega), fun j u1 u2 u3 => rz j u1 (by omega) (by omega), fun _ _ => cs⟩
      · refine ⟨K, by omega, by omega, fun j u1 u2 u3 => b3 j u1 (by omega) (by omega), fun j u1 u2 u3 => rz j u1 (by omega) (by omega), fun _ z => absurd z cr⟩
theorem HV_u1 {s : Nat → Nat} {K E F : Nat} (h1 : HV s K E) (h2 : HV s K F) : ¬ E < F := by
  intro hlt
  obtain ⟨a1, a2, a3, a4, a5⟩ := h1
  obtain ⟨b1, b2, b3, b4, b5⟩ := h2
  have r := b4 (E - 1) (by omega) (by omega) (by omega)
  have := a5 (by omega) r
  exact this (b3 E (by omega) hlt (by omega)).2.1
theorem HV_u {s : Nat → Nat} {K E F : Nat} (h1 : HV s K E) (h2 : HV s K F) : E = F := by
  have := HV_u1 h1 h2
  have := HV_u1 h2 h1
  omega
/-- only the bits count -/
theorem hq_c {s t o0 : Nat → Nat} : ∀ j, (∀ i, i < j → t i = s i) → hq t j = hq s j ∧ pq t j = pq s j ∧ oq t o0 j = oq s o0 j := by
  intro j
  induction j with
  | zero => intro _; exact ⟨rfl, rfl, rfl⟩
  | succ j ih =>
    intro h
    obtain ⟨i1, i2, i3⟩ := ih (fun i u => h i (by omega))
    by_cases c : j = 0
    · subst c
      exact ⟨rfl, rfl, rfl⟩
    · rw [hq_s (by omega), hq_s (by omega), pq_s (by omega), pq_s (by omega), oq_s (by omega), oq_s (by omega), i1, i2, i3, h j (by omega)]
      exact ⟨rfl, rfl, rfl⟩
def BMx (M : mwM) (s : Nat → Nat) (k : Nat) (p h : Nat → Nat) : Prop := M 821 34 = sI (h 5) ∧ (∀ i, i < h 5 → M 848 i = sI (p i)) ∧ M 821 46 = sI (h 4) ∧ M 821 42 = sI (kdH h) ∧ M 821 43 = sI (h 14) ∧ M 821 44 = sI (h 10) ∧ (h 13 = 1 → M 821 41 = sI k ∧ ∀ i, i < k → M 852 i = sI (s i))
def BR (M : mwM) (res : Int32) (s : Nat → Nat) (K E : Nat) : Prop :=
  (E ≤ K ∧ rBody (s (E - 1)) (hq s (E - 1)) ≠ 0 ∧ res = sI (rBody (s (E - 1)) (hq s (E - 1)))) ∨
  (E ≤ K ∧ rBody (s (E - 1)) (hq s (E - 1)) = 0 ∧ res = -1 ∧ M 821 45 = sI E ∧ BMx M s E (pq s E) (hq s E)) ∨
  (K < E ∧ res = -1 ∧ M 821 45 = -1)
/-- what is remembered, of a row of bits that may be another node's -/
def CaV (s : Nat → Nat) (K E : Nat) : Prop := 1 ≤ K ∧ K ≤ 1000 ∧ (∀ i, i < K → s i < 2) ∧ HV s K E
def CA (M : mwM) : Prop := M 821 48 = -1 ∨ ∃ (t : Nat → Nat) (kc E : Nat), CaV t kc E ∧ M 821 48 = sI kc ∧ (∀ i, i < kc → M 853 i = sI (t i)) ∧ BR M (M 821 49) t kc E
def bF (M M' : mwM) : Prop := ∀ a y, ¬ (a = 821 ∧ (y = 34 ∨ (41 ≤ y ∧ y ≤ 46) ∨ y = 48 ∨ y = 49)) → a ≠ 848 → a ≠ 852 → a ≠ 853 → M' a y = M a y
theorem bF_t {A B C : mwM} (h1 : bF A B) (h2 : bF B C) : bF A C := fun a y u1 u2 u3 u4 => (h2 a y u1 u2 u3 u4).trans (h1 a y u1 u2 u3 u4)
theorem bF_0 {A B : mwM} (h1 : bF0 A B) : bF A B := fun a y u1 u2 u3 _ => h1 a y (by omega) u2 u3
theorem BR_c {M : mwM} {res : Int32} {s t : Nat → Nat} {K E : Nat} (hE : 2 ≤ E) (hE2 : E ≤ K + 1) (h : ∀ i, i < K → t i = s i) (hB : BR M res t K E) : BR M res s K E := by
  unfold BR at hB ⊢
  by_cases c : E ≤ K
  · obtain ⟨i1, i2, _⟩ := hq_c (s := s) (t := t) (o0 := z0) (E - 1) (fun i u => h i (by omega))
    obtain ⟨i4, i5, _⟩ := hq_c (s := s) (t := t) (o0 := z0) E (fun i u => h i (by omega))
    rw [← i1, ← i4, ← i5, ← h (E - 1) (by omega)]
    rcases hB with z | z | z
    · exact Or.inl z
    · refine Or.inr (Or.inl ⟨z.1, z.2.1, z.2.2.1, z.2.2.2.1, ?_⟩)
      obtain ⟨m1, m2, m3, m4, m5, m6, m7⟩ := z.2.2.2.2
      refine ⟨m1, m2, m3, m4, m5, m6, fun w => ⟨(m7 w).1, fun i u => ?_⟩⟩
      rw [← h i (by omega)]
      exact (m7 w).2 i u
    · omega
  · rcases hB with z | z | z
    · omega
    · omega
    · exact Or.inr (Or.inr z)
theorem HV_c {s t : Nat → Nat} {K E : Nat} (h : ∀ i, i < K → t i = s i) (hV : HV t K E) : HV s K E := by
  obtain ⟨a1, a2, a3, a4, a5⟩ := hV
  have c : ∀ j, j ≤ K → hq t j = hq s j ∧ pq t j = pq s j ∧ oq t z0 j = oq s z0 j := fun j u => hq_c j (fun i w => h i (by omega))
  have es : ∀ j, j ≤ K → 1 ≤ j → ES t j (pq t j) (hq t j) (oq t z0 j) → ES s j (pq s j) (hq s j) (oq s z0 j) := fun j u u1 hx => by
    obtain ⟨c1, c2, c3⟩ := c j u
    rw [← c1, ← c2, ← c3]
    obtain ⟨⟨e1, e2, e3, e4, e5, e6, e7, e8, e9, e10⟩, r⟩ := hx
    refine ⟨⟨e1, by rw [e2, h _ (by omega)], e3, e4, e5, e6, e7, e8, fun z => ?_, e10⟩, r⟩
    obtain ⟨y1, y2⟩ := e9 z
    rw [y1, y2]
    exact ⟨(crcF_c _ (fun i w => (h i (by omega)).symm)).symm, (crcF_c _ (fun i w => (h i (by omega)).symm)).symm⟩
  refine ⟨a1, a2, fun j u1 u2 u3 => es j u3 u1 (a3 j u1 u2 u3), fun j u1 u2 u3 => ?_, fun u1 u2 => ?_⟩
  · rw [← (c j (by omega)).1, ← h j u3]
    exact a4 j u1 u2 u3
  · rw [← (c (E - 1) (by omega)).1, ← h (E - 1) (by omega)] at u2
    rw [← (c E u1).1]
    exact a5 u1 u2
theorem m_bodyA {fu n K E : Nat} {s : Nat → Nat} {M : mwM} {L : mwL} (hfu : 1300 ≤ fu) (hn : n < 7) (h836 : M 836 n = sI K) (hse : ∀ i, i < K → M 837 (1200 * n + i) = sI (s i)) (h0 : s 0 = 0) (hV : CaV s K E) : wq (DX12_bodyAnew fu (sI n) M L) (fun z => z.2.2 = L ∧ bF0 M z.2.1 ∧ BR z.2.1 z.1 s K E) := by
  obtain ⟨k1, k2, k3, a1, a2, a3, a4, a5⟩ := hV
  refine m_bodyAnew (E := E) hfu hn k1 k2 h836 (fun i u => ⟨hse i u, k3 i u⟩) h0 a1 a3 a4 a5 (fun u z M' hF => ?_) (fun u z M' hF h45 hB => ?_) (fun u M' hF h45 => ?_)
  · exact ⟨rfl, hF, Or.inl ⟨u, z, rfl⟩⟩
  · refine ⟨rfl, hF, Or.inr (Or.inl ⟨u, z, rfl, h45, ?_⟩)⟩
    obtain ⟨m1, m2, m3, m4, m5, m6⟩ := hB
    have k17 : hq s E 17 < 100000 := by
      -- ended, so its ends are known
      have e1 := a3 (E - 1) (by omega) (by omega) (by omega)
      have hs1 := a5 u z
      obtain ⟨q1, q2⟩ := ES_step e1 (by omega) (k3 (E - 1) (by omega)) rfl z
      have hh : hq s E = hBody (s (E - 1)) (hq s (E - 1)) := by
        have := hq_s (s := s) (K := E - 1) (by omega)
        rw [show E - 1 + 1 = E by omega] at this
        rw [this, (rAll_0 e1.2.1).2]
      rw [← hh] at q2
      obtain ⟨⟨x1, _⟩, hd⟩ := q2 hs1
      obtain ⟨_, _, _, _, _, _, _, _, _, _, b2, b3, _, _⟩ := PI_b x1
      by_cases y : hq s E 17 < 100000
      · exact y
      · have := b3 (by omega)
        omega
    obtain ⟨f1, f2, f3⟩ := m6 k17
    exact ⟨m1, m2, m3, f1, f2, f3, fun _ => ⟨m4, m5⟩⟩
  · exact ⟨rfl, hF, Or.inr (Or.inr ⟨u, rfl, h45⟩)⟩
theorem BR_fr {M M' : mwM} {res : Int32} {s : Nat → Nat} {K E : Nat} (hB : BR M res s K E) (hf : ∀ a y, (a = 821 ∧ (y = 34 ∨ (41 ≤ y ∧ y ≤ 46))) ∨ a = 848 ∨ a = 852 → M' a y = M a y) : BR M' res s K E := by
  rcases hB with z | z | z
  · exact Or.inl z
  · refine Or.inr (Or.inl ⟨z.1, z.2.1, z.2.2.1, by rw [hf 821 45 (by omega)]; exact z.2.2.2.1, ?_⟩)
    obtain ⟨m1, m2, m3, m4, m5, m6, m7⟩ := z.2.2.2.2
    refine ⟨?_, fun i u => ?_, ?_, ?_, ?_, ?_, fun w => ⟨?_, fun i u => ?_⟩⟩
    · rw [hf 821 34 (by omega)]; exact m1
    · rw [hf 848 i (by omega)]; exact m2 i u
    · rw [hf 821 46 (by omega)]; exact m3
    · rw [hf 821 42 (by omega)]; exact m4
    · rw [hf 821 43 (by omega)]; exact m5
    · rw [hf 821 44 (by omega)]; exact m6
    · rw [hf 821 41 (by omega)]; exact (m7 w).1
    · rw [hf 852 i (by omega)]; exact (m7 w).2 i u
  · exact Or.inr (Or.inr ⟨z.1, z.2.1, by rw [hf 821 45 (by omega)]; exact z.2.2⟩)
/-- the body, and that it is remembered -/
def CAs (M : mwM) (s : Nat → Nat) (K E : Nat) : Prop := M 821 48 = sI K ∧ (∀ i, i < K → M 853 i = sI (s i)) ∧ BR M (M 821 49) s K E
theorem m_body {fu n K E : Nat} {s : Nat → Nat} {M : mwM} {L : mwL} (hfu : 1300 ≤ fu) (hn : n < 7) (h836 : M 836 n = sI K) (hse : ∀ i, i < K → M 837 (1200 * n + i) = sI (s i)) (h0 : s 0 = 0) (hV : CaV s K E) (hC : CA M) : wq (DX12_body fu (sI n) M L) (fun z => z.2.2 = L ∧ bF M z.2.1 ∧ CAs z.2.1 s K E ∧ z.2.1 821 49 = z.1) := by
  have hV' := hV
  obtain ⟨k1, k2, k3, a1, a2, a3, a4, a5⟩ := hV'
  unfold DX12_body fX12_body_b18
  rw [mck_s (by omega) (by omega), sI_nn (by omega), h836]
  -- anew
  have anew : wq (fX12_body_b66 fu (sI n) 0 M L) (fun z => z.2.2 = L ∧ bF M z.2.1 ∧ CAs z.2.1 s K E ∧ z.2.1 821 49 = z.1) := by
    unfold fX12_body_b66
    rw [if_pos rfl]
    refine wq_b3 (m_bodyA hfu hn h836 hse h0 hV) ?_
    rintro r M1 L1 ⟨y1, y2, y3⟩
    dsimp only at y1 y2 y3
    subst y1
    simp only [mlet]
    rw [mck_s (by omega) (by omega), sI_nn (by omega), mset_n (show ¬ (836 = 821 ∧ n = 49) by omega), y2 836 n (by omega) (by omega) (by omega), h836]
    generalize hM2 : mset (mset M1 821 49 r) 821 48 (sI K) = M2
    have pf : ∀ a y, ¬ (a = 821 ∧ (y = 48 ∨ y = 49)) → M2 a y = M1 a y := fun a y u => by rw [← hM2, mset_n (by omega), mset_n (by omega)]
    have p48 : M2 821 48 = sI K ∧ M2 821 49 = r := by
      rw [← hM2]
      refine ⟨mset_s, ?_⟩
      rw [mset_n (by omega), mset_s]
    refine wq_for (body := fun f z => fX12_body_i96 fu (sI n) f z.1 z.2.1 z.2.2) (fun i (x : mwM) => (sI i, x, L1)) (fun i x => (∀ j, j < i → x 853 j = sI (s j)) ∧ ∀ a y, a ≠ 853 → x a y = M2 a y) K ?_ ?_ K 0 M2 fu (by omega) (by omega) ⟨fun j u => by omega, fun _ _ _ => rfl⟩
    · intro i x f hi ⟨x1, x2⟩ ih
      show wq (fX12_body_i96 fu (sI n) f (sI i) x L1) _
      unfold fX12_body_i96
      rw [x2 821 48 (by omega), p48.1, if_neg (by rw [sI_le (by omega) (by omega)]; omega), sI_lml, sI_add, mck_s (by omega) (by omega), mck_s (by omega) (by omega), sI_nn (by omega), sI_nn (by omega), x2 837 _ (by omega), pf 837 _ (by omega), y2 837 _ (by omega) (by omega) (by omega), hse i hi, nb2' _ (k3 i hi)]
      simp only [mlet]
      rw [sI_1]
      refine ih _ ⟨fun j u => ?_, fun a y u => ?_⟩
      · by_cases q : j = i
        · rw [q, mset_s]
        · rw [mset_n (by omega)]; exact x1 j (by omega)
      · rw [mset_n (by omega)]; exact x2 a y u
    · intro x f ⟨x1, x2⟩
      show wq (fX12_body_i96 fu (sI n) f (sI K) x L1) _
      unfold fX12_body_i96
      rw [x2 821 48 (by omega), p48.1, if_pos (by rw [sI_le (by omega) (by omega)]; omega), x2 821 49 (by omega), p48.2]
      refine wq_some ⟨rfl, fun a y u1 u2 u3 u4 => ?_, ⟨?_, x1, ?_⟩, ?_⟩
      · dsimp only
        rw [x2 a y u4, pf a y (by omega), y2 a y (by omega) u2 u3]
      · dsimp only
        rw [x2 821 48 (by omega), p48.1]
      · dsimp only
        rw [x2 821 49 (by omega), p48.2]
        exact BR_fr y3 (fun a y u => by rw [x2 a y (by omega), pf a y (by omega)])
      · dsimp only
        rw [x2 821 49 (by omega), p48.2]
  -- not the same
  have no : ∀ f, 0 < f → wq (fX12_body_h21 fu (sI n) f (0, 0, M, L)) (fun z => z.2.2 = L ∧ bF M z.2.1 ∧ CAs z.2.1 s K E ∧ z.2.1 821 49 = z.1) := by
    intro f hf
    obtain ⟨g, rfl⟩ : ∃ g, f = g + 1 := ⟨f - 1, by omega⟩
    unfold fX12_body_h21
    rw [mloop_S]
    show wq (fX12_body_i21 fu (sI n) _ 0 0 M L) _
    unfold fX12_body_i21
    rw [if_pos (show (0 : Int32) = 0 from rfl)]
    by_cases c : M 821 48 ≤ 0
    · rw [if_pos c]; exact anew
    · rw [if_neg c]; exact anew
  rcases hC with hC | ⟨t, kc, F, ⟨t1, t2, t3, t4⟩, c1, c2, c3⟩
  · rw [hC, if_neg (sI_m1n (by omega))]
    exact no fu (by omega)
  · rw [c1]
    by_cases ck : kc = K
    · subst ck
      rw [if_pos rfl]
      -- bit by bit
      have key : ∀ (m i f : Nat), i + m = kc → m + 1 < f → (∀ j, j < i → t j = s j) → wq (fX12_body_h21 fu (sI n) f (1, sI i, M, L)) (fun z => z.2.2 = L ∧ bF M z.2.1 ∧ CAs z.2.1 s kc E ∧ z.2.1 821 49 = z.1) := by
        intro m
        induction m with
        | zero =>
          intro i f hi hf1 hj
          obtain ⟨g, rfl⟩ : ∃ g, f = g + 1 := ⟨f - 1, by omega⟩
          have : i = kc := by omega
          subst this
          unfold fX12_body_h21
          rw [mloop_S]
          show wq (fX12_body_i21 fu (sI n) _ 1 (sI i) M L) _
          unfold fX12_body_i21 fX12_body_b66
          rw [c1, if_pos (by rw [sI_le (by omega) (by omega)]; omega), if_neg (show ¬ (1 : Int32) = 0 by decide)]
          have eF : F = E := HV_u (HV_c hj t4) ⟨a1, a2, a3, a4, a5⟩
          subst eF
          refine wq_some ⟨rfl, fun _ _ _ _ _ _ => rfl, ⟨c1, fun j u => by rw [← hj j u]; exact c2 j u, BR_c a1 a2 hj c3⟩, rfl⟩
        | succ m ih =>
          intro i f hi hf1 hj
          obtain ⟨g, rfl⟩ : ∃ g, f = g + 1 := ⟨f - 1, by omega⟩
          unfold fX12_body_h21
          rw [mloop_S]
          show wq (fX12_body_i21 fu (sI n) (fX12_body_h21 fu (sI n) g) 1 (sI i) M L) _
          unfold fX12_body_i21 fX12_body_b59
          rw [c1, if_neg (by rw [sI_le (by omega) (by omega)]; omega), if_neg (show ¬ (1 : Int32) = 0 by decide), sI_lml, sI_add, mck_s (by omega) (by omega), mck_s (by omega) (by omega), sI_nn (by omega), sI_nn (by omega), c2 i (by omega), hse i (by omega)]
          simp only [mlet]
          rw [sI_1]
          have l1 := t3 i (by omega)
          have l2 := k3 i (by omega)
          by_cases q : t i = s i
          · rw [if_pos (by rw [q])]
            refine ih (i + 1) g (by omega) (by omega) (fun j u => ?_)
            by_cases w : j = i
            · rw [w]; exact q
            · exact hj j (by omega)
          · rw [if_neg (by rw [sI_eq (by omega) (by omega)]; exact q)]
            obtain ⟨g', rfl⟩ : ∃ g', g = g' + 1 := ⟨g - 1, by omega⟩
            unfold fX12_body_h21
            rw [mloop_S]
            show wq (fX12_body_i21 fu (sI n) _ 0 (sI (i + 1)) M L) _
            unfold fX12_body_i21
            rw [if_pos (show (0 : Int32) = 0 from rfl)]
            by_cases c : M 821 48 ≤ sI (i + 1)
            · rw [if_pos c]; exact anew
            · rw [if_neg c]; exact anew
      exact key kc 0 fu (by omega) (by omega) (fun j u => by omega)
    · rw [if_neg (by rw [sI_eq (by omega) (by omega)]; exact ck)]
      exact no fu (by omega)
