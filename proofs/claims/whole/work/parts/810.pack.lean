/-! the signals of one pack, by their numbers there -/
def lxf (P : Nat → Bool) (s : Nat) : Nat := cnt P s + 1
theorem cnt_sc {P : Nat → Bool} {s : Nat} : cnt P (s + 1) = cnt P s + (if P s = true then 1 else 0) := rfl
theorem cnt_mo {P : Nat → Bool} {s t : Nat} (h : s ≤ t) : cnt P s ≤ cnt P t := by
  induction t with
  | zero => rw [show s = 0 from by omega]; exact Nat.le_refl _
  | succ t ih =>
    by_cases e : s = t + 1
    · rw [e]; exact Nat.le_refl _
    · have := ih (by omega)
      rw [cnt_sc]
      omega
theorem cnt_in {P : Nat → Bool} {s t : Nat} (h : s < t) (hp : P s = true) : lxf P s ≤ cnt P t := by
  have h1 : cnt P (s + 1) = cnt P s + 1 := by rw [cnt_sc, if_pos hp]
  have h2 := cnt_mo (P := P) (show s + 1 ≤ t by omega)
  unfold lxf
  omega
theorem lxf_1 {P : Nat → Bool} {s : Nat} : 1 ≤ lxf P s := by unfold lxf; omega
theorem lxf_mo {P : Nat → Bool} {s t : Nat} (h : s < t) (hp : P s = true) : lxf P s < lxf P t := by
  have := cnt_in h hp
  unfold lxf at this ⊢
  omega
theorem lxf_inj {P : Nat → Bool} {s t : Nat} (hs : P s = true) (ht : P t = true) (e : lxf P s = lxf P t) : s = t := by
  rcases Nat.lt_trichotomy s t with q | q | q
  · have := lxf_mo q hs; omega
  · exact q
  · have := lxf_mo q ht; omega
theorem lxf_ex {P : Nat → Bool} {l : Nat} : ∀ {S : Nat}, 1 ≤ l → l ≤ cnt P S → ∃ s, s < S ∧ P s = true ∧ lxf P s = l := by
  intro S
  induction S with
  | zero => intro h1 h2; have h3 : cnt P 0 = 0 := rfl; omega
  | succ S ih =>
    intro h1 h2
    by_cases c : l ≤ cnt P S
    · obtain ⟨s, s1, s2, s3⟩ := ih h1 c
      exact ⟨s, by omega, s2, s3⟩
    · rw [cnt_sc] at h2
      cases hp : P S with
      | false => rw [hp, if_neg (by decide)] at h2; omega
      | true =>
        rw [hp, if_pos rfl] at h2
        exact ⟨S, by omega, hp, by unfold lxf; omega⟩
/-- the groups of a period, in the reference's numbers -/
theorem Srt_lx {P : Nat → Bool} {S m p : Nat} {g pe zs pl zl fr : Nat → Nat} (h : Srt (fun s => P s && decide (pe s = p)) zs S m g) (hz : ∀ s, s < S → P s = true → zl (lxf P s) = zs s) (hp : ∀ s, s < S → P s = true → pl (lxf P s) = pe s) (hf : ∀ s, s < S → P s = true → pe s = p → fr (lxf P s) = 0) : Srt (fun l => decide (pr6 pl fr p l)) zl (cnt P S + 1) m (fun j => lxf P (g j)) := by
  have sp : ∀ j, j < m → g j < S ∧ P (g j) = true ∧ pe (g j) = p := fun j hj => by
    obtain ⟨a, b⟩ := h.1 j hj
    dsimp only at b
    rw [Bool.and_eq_true] at b
    exact ⟨a, b.1, of_decide_eq_true b.2⟩
  refine ⟨fun j hj => ?_, fun l hl pl6 => ?_, fun i j hij hj => ?_⟩
  · obtain ⟨a, b, c⟩ := sp j hj
    have := cnt_in a b
    dsimp only
    exact ⟨by omega, decide_eq_true ⟨lxf_1, hf _ a b c, by rw [hp _ a b]; exact c⟩⟩
  · obtain ⟨q1, q2, q3⟩ := of_decide_eq_true pl6
    obtain ⟨s, s1, s2, s3⟩ := lxf_ex (P := P) (S := S) q1 (by omega)
    have q4 : pe s = p := by rw [← hp s s1 s2, s3]; exact q3
    obtain ⟨j, j1, j2⟩ := h.2.1 s s1 (by dsimp only; rw [s2, decide_eq_true q4]; rfl)
    exact ⟨j, j1, by dsimp only; rw [j2, s3]⟩
  · obtain ⟨a, b, c⟩ := sp i (by omega)
    obtain ⟨a', b', c'⟩ := sp j hj
    have w := h.2.2 i j hij hj
    dsimp only
    unfold befo at w ⊢
    rw [hz _ a b, hz _ a' b']
    rcases w with w | w
    · exact Or.inl w
    · exact Or.inr ⟨w.1, lxf_mo w.2 b⟩
theorem opn_sur {ch : Nat → Nat} {m : Nat} (h : tgt ch m) : ∀ f, f < opn ch m → ∃ j, j < m ∧ ch j = f := by
  induction m with
  | zero => intro f hf; have h3 : opn ch 0 = 0 := rfl; omega
  | succ m ih =>
    intro f hf
    have h1 := h m (by omega)
    by_cases c : f < opn ch m
    · obtain ⟨j, j1, j2⟩ := ih (fun j hj => h j (by omega)) f c
      exact ⟨j, by omega, j2⟩
    · refine ⟨m, by omega, ?_⟩
      have e : opn ch (m + 1) = if opn ch m < ch m + 1 then ch m + 1 else opn ch m := rfl
      rw [e] at hf
      split at hf <;> omega
/-- what the class has packed of a controller -/
def LkS (A0 A : mwM) (F0 G S : Nat) (P : Nat → Bool) (fr oc : Nat → Nat) : Prop :=
  A 61 11 = sI (F0 + G) ∧ (∀ s, s < S → P s = true → fr (lxf P s) ≠ 0 → A 71 s = sI (F0 + fr (lxf P s) - 1) ∧ A 72 s = sI (oc (lxf P s)) ∧ OpF A0 A (F0 + fr (lxf P s) - 1) s) ∧ (∀ s, (P s = false ∨ S ≤ s) → A 71 s = A0 71 s ∧ A 72 s = A0 72 s) ∧ ∀ a y, a ≠ 71 → a ≠ 72 → ¬ (92 ≤ a ∧ a ≤ 94) → ¬ (a = 61 ∧ (y = 11 ∨ y = 13)) → ¬ ((74 ≤ a ∧ a ≤ 77 ∨ a = 79 ∨ 86 ≤ a ∧ a ≤ 91) ∧ F0 ≤ y) → A a y = A0 a y
/-- what stands in a frame stands apart -/
def LkD (n cap : Nat) (zl fr oc : Nat → Nat) : Prop := (∀ l, 1 ≤ l → l ≤ n → fr l ≠ 0 → oc l + zl l ≤ cap) ∧ ∀ l t, 1 ≤ l → l ≤ n → 1 ≤ t → t ≤ n → l ≠ t → fr l = fr t → fr l ≠ 0 → oc l + zl l ≤ oc t ∨ oc t + zl t ≤ oc l
theorem fil_mo {ch sz : Nat → Nat} {i f : Nat} (h : ch i = f) : ∀ j, i < j → fil ch sz i f + sz i ≤ fil ch sz j f := by
  intro j
  induction j with
  | zero => intro w; omega
  | succ j ih =>
    intro w
    have e : fil ch sz (j + 1) f = fil ch sz j f + if ch j = f then sz j else 0 := rfl
    rw [e]
    by_cases q : i = j
    · subst q
      rw [if_pos h]
      exact Nat.le_refl _
    · have := ih (by omega)
      omega
/-- what the reference has packed there -/
def LkM (M0 M : mwM) (k n cap G last : Nat) (pl zl fr oc : Nat → Nat) : Prop :=
  PvM M k n cap pl zl fr oc ∧ (∀ l, 1 ≤ l → l ≤ n → (fr l = 0 ↔ last < pl l)) ∧ (∀ l, 1 ≤ l → l ≤ n → fr l ≤ G) ∧ (∀ f, 1 ≤ f → f ≤ G → ∃ l, 1 ≤ l ∧ l ≤ n ∧ fr l = f) ∧ G + cnt (fun l => decide (1 ≤ l ∧ last < pl l)) (n + 1) ≤ n ∧ LkD n cap zl fr oc ∧ ∀ a y, ¬ (k + 16 ≤ a ∧ a ≤ k + 21) → ¬ (a = k ∧ y = 14) → M a y = M0 a y
/-- how the signals stand in both -/
def LkB (S n cap : Nat) (P : Nat → Bool) (bt pe co ky pl zl : Nat → Nat) (c : Nat) : Prop := n = cnt P S ∧ (∀ s, s < S → P s = true → pl (lxf P s) = pe s ∧ zl (lxf P s) = ocs bt s ∧ ocs bt s ≤ cap ∧ co s = c) ∧ ∀ s t, s < S → t < S → P s = true → P t = true → pe s = pe t → ky s = ky t
theorem lk_step {fu k n cap S c F0 G p last : Nat} {lk : Bool} {A0 A M0 M : mwM} {L L2 : mwL} {bt pe co ky pl zl fr oc : Nat → Nat} (hfu : 90000 ≤ fu) (hS : SgC A0 S bt pe co ky) (hc : c < 6) (hB : LkB S n cap (isO co ky c lk) bt pe co ky pl zl c) (h40 : F0 + n ≤ 40) (hA : LkS A0 A F0 G S (isO co ky c lk) fr oc) (hM : LkM M0 M k n cap G last pl zl fr oc) (h1 : last < p) (h2 : p ≤ 20000) (h3 : ∃ l, 1 ≤ l ∧ l ≤ n ∧ pl l = p) (h4 : ∀ l, 1 ≤ l → l ≤ n → last < pl l → p ≤ pl l) : ∃ A1 A' M' fr' oc' G', DX6_collectGroups fu (sI c) (bI lk) (sI p) A L = some (A1, L) ∧ DX6_packGroups fu (sI cap) A1 L = some (A', L) ∧ DX16_packPeriod fu k (sI p) 5040 M L2 = some (1, M', L2) ∧ LkS A0 A' F0 G' S (isO co ky c lk) fr' oc' ∧ LkM M0 M' k n cap G' p pl zl fr' oc' := by
  obtain ⟨b1, b2, b3⟩ := hB
  obtain ⟨r1, r2, r3, r4, r5, ⟨rd1, rd2⟩, r6⟩ := hM
  obtain ⟨s1, s2, s3, s4⟩ := hA
  have hS1 : SgC A S bt pe co ky := SgC_f hS (fun a y w => s4 a y (by omega) (by omega) (by omega) (by omega) (by omega))
  have hS40 := hS.2.1
  have hn := r1.2.2.1
  have hcap := r1.2.2.2.1
  -- the counts
  have hpl0 : ∀ l, 1 ≤ l → l ≤ n → pl l = p → fr l = 0 := fun l l1 l2 l3 => (r2 l l1 l2).mpr (by omega)
  have hcn : cnt (fun l => decide (1 ≤ l ∧ last < pl l)) (n + 1) = cnt (fun l => decide (pr6 pl fr p l)) (n + 1) + cnt (fun l => decide (1 ≤ l ∧ p < pl l)) (n + 1) := by
    apply cnt_or
    intro l hl
    by_cases l0 : l = 0
    · subst l0
      rw [decide_eq_false (by omega), decide_eq_false (fun w => by have := w.1; omega), decide_eq_false (by omega)]
      exact ⟨rfl, rfl⟩
    · have w2 := r2 l (by omega) (by omega)
      have w4 := h4 l (by omega) (by omega)
      by_cases e1 : pl l = p
      · rw [decide_eq_true (show 1 ≤ l ∧ last < pl l by omega), decide_eq_true (show pr6 pl fr p l from ⟨by omega, hpl0 l (by omega) (by omega) e1, e1⟩), decide_eq_false (show ¬ (1 ≤ l ∧ p < pl l) by omega)]
        exact ⟨rfl, rfl⟩
      · rw [decide_eq_false (show ¬ pr6 pl fr p l from fun w => e1 w.2.2)]
        by_cases e2 : last < pl l
        · rw [decide_eq_true (show 1 ≤ l ∧ last < pl l by omega), decide_eq_true (show 1 ≤ l ∧ p < pl l by have := w4 e2; omega)]
          exact ⟨rfl, rfl⟩
        · rw [decide_eq_false (show ¬ (1 ≤ l ∧ last < pl l) by omega), decide_eq_false (show ¬ (1 ≤ l ∧ p < pl l) by omega)]
          exact ⟨rfl, rfl⟩
  obtain ⟨m, gl, ch, M', e1, hm, sr, pk, pp1, pp2, pp3⟩ := m_packPeriod (fu := fu) (L := L2) (F0 := G) hfu r1 h2 (fun l l1 l2 => by
    obtain ⟨s, q1, q2, q3⟩ := lxf_ex (P := isO co ky c lk) (S := S) l1 (by omega)
    obtain ⟨w1, w2, w3, w4⟩ := b2 s q1 q2
    rw [← q3, w2]; exact w3) r3 hpl0 h3 r4 (by omega)
  have hcm := Srt_cnt _ _ _ sr
  obtain ⟨m', g, A1, k1, k2, k3, k4, k5⟩ := c_collectGroups (fu := fu) (L := L) (p := p) (lk := lk) (by omega) hS1 hc h2
  have sr' := Srt_lx (zl := zl) (pl := pl) (fr := fr) k2 (fun s q1 q2 => (b2 s q1 q2).2.1) (fun s q1 q2 => (b2 s q1 q2).1) (fun s q1 q2 q3 => by
    have := cnt_in q1 q2
    exact hpl0 _ lxf_1 (by omega) (by rw [(b2 s q1 q2).1]; exact q3))
  rw [← b1] at sr'
  obtain ⟨em, eg⟩ := Srt_u sr sr'
  subst em
  have sp : ∀ j, j < m → g j < S ∧ isO co ky c lk (g j) = true ∧ pe (g j) = p := fun j hj => by
    obtain ⟨a, b⟩ := k2.1 j hj
    dsimp only at b
    rw [Bool.and_eq_true] at b
    exact ⟨a, b.1, of_decide_eq_true b.2⟩
  have hinj := Srt_inj k2
  have hz : ∀ j, j < m → zl (gl j) = ocs bt (g j) := fun j hj => by
    obtain ⟨w1, w2, w3⟩ := sp j hj
    rw [eg j hj]; exact (b2 _ w1 w2).2.1
  have hgp : GpC A1 m g (fun j => zl (gl j)) := by
    refine ⟨k3, by omega, fun j hj => ?_⟩
    obtain ⟨w1, w2, w3⟩ := sp j hj
    obtain ⟨a1, a2, a3, a4, a5, a6, a7, a8, a9, a10⟩ := hS1.2.2 (g j) w1
    have ez := hz j hj
    dsimp only
    refine ⟨k4 j hj, by omega, by rw [ez]; show 1 ≤ (bt (g j) + 7) / 8; omega, by rw [ez]; show (bt (g j) + 7) / 8 ≤ 8; omega, bt (g j), by rw [k5 _ _ (by omega) (by omega)]; exact a1, a3, by rw [ez]⟩
  have hzr : ∀ j, j < m → (fun j => zl (gl j)) j ≤ cap := fun j hj => by
    obtain ⟨w1, w2, w3⟩ := sp j hj
    dsimp only
    rw [hz j hj]; exact (b2 _ w1 w2).2.2.1
  obtain ⟨ch', A', k6, k7, pg1, pg2, pg3, pg4, pg5⟩ := c_packGroups (fu := fu) (L := L) (room := cap) (F0 := F0 + G) (by omega) hm hcap hzr hgp hinj (by rw [k5 _ _ (by omega) (by omega)]; exact s1) (by omega)
  have hch := PkW_u k7 pk
  have hway := PkW_way hm hzr pk
  have htg : tgt ch m := fun j hj => (hway j hj).1
  have hop := tgt_le htg
  have eop : opn ch' m = opn ch m := opn_c hch
  -- what stands where now
  have hgl : ∀ j, j < m → 1 ≤ gl j ∧ gl j ≤ n ∧ pl (gl j) = p := fun j hj => by
    obtain ⟨q1, q2⟩ := sr.1 j hj
    have q3 := of_decide_eq_true q2
    exact ⟨q3.1, by omega, q3.2.2⟩
  have isg : ∀ l, 1 ≤ l → l ≤ n → pl l = p → ∃ j, j < m ∧ gl j = l := fun l l1 l2 l3 => sr.2.1 l (by omega) (decide_eq_true ⟨l1, hpl0 l l1 l2 l3, l3⟩)
  have chl : ∀ j, j < m → ch j < opn ch m := fun j hj => opn_lt hj
  have frj : ∀ j, j < m → nn (M' (k + 16) (gl j)) = G + 1 + ch j ∧ nn (M' (k + 17) (gl j)) = fil ch (fun j => zl (gl j)) j (ch j) := fun j hj => by
    obtain ⟨q1, q2⟩ := pp1 j hj
    have := chl j hj
    have := (hway j hj).2
    rw [q1, q2, nn_s (by omega), nn_s (by omega)]
    exact ⟨rfl, rfl⟩
  have frn : ∀ l, 1 ≤ l → l ≤ n → pl l ≠ p → nn (M' (k + 16) l) = fr l ∧ nn (M' (k + 17) l) = oc l := fun l l1 l2 l3 => by
    obtain ⟨q1, q2⟩ := pp2 l (fun j hj w => l3 (by rw [w]; exact (hgl j hj).2.2))
    obtain ⟨a1, a2, a3, a4, a5, a6, a7, a8, a9, a10⟩ := r1.2.2.2.2 l l1 l2
    rw [q1, q2, a7, a9, nn_s (by omega), nn_s (by omega)]
    exact ⟨rfl, rfl⟩
  refine ⟨A1, A', M', fun l => nn (M' (k + 16) l), fun l => nn (M' (k + 17) l), G + opn ch m, k1, k6, e1, ?_, ?_⟩
  · -- the class
    refine ⟨by rw [pg1, eop, Nat.add_assoc], fun s q1 q2 q3 => ?_, fun s q => ?_, fun a y w1 w2 w3 w4 w5 => ?_⟩
    · dsimp only at q3 ⊢
      have hl2 := cnt_in q1 q2
      rw [← b1] at hl2
      have hl1 := lxf_1 (P := isO co ky c lk) (s := s)
      by_cases ep : pe s = p
      · obtain ⟨j, j1, j2⟩ := k2.2.1 s q1 (by dsimp only; rw [q2, decide_eq_true ep]; rfl)
        have el : gl j = lxf (isO co ky c lk) s := by rw [eg j j1, j2]
        obtain ⟨f1, f2⟩ := frj j j1
        rw [← el, f1, f2]
        obtain ⟨p1, p2⟩ := pg2 j j1
        rw [j2] at p1 p2
        have hj1 := hch j j1
        have hj2 := chl j j1
        refine ⟨by rw [p1, hj1, show F0 + (G + 1 + ch j) - 1 = F0 + G + ch j from by omega], ?_, ?_⟩
        · rw [p2, hj1, fil_c (ch' := ch) (fun i hi => hch i (by omega))]
        · have op := pg3 (F0 + G + ch j) (by omega) (by omega)
          rw [show F0 + (G + 1 + ch j) - 1 = F0 + G + ch j from by omega]
          obtain ⟨o1, o2, o3, o4, o5, o6⟩ := op
          obtain ⟨w1, w2, w3⟩ := sp 0 hm
          obtain ⟨a1, a2, a3, a4, a5, a6, a7, a8, a9, a10⟩ := hS.2.2 (g 0) w1
          obtain ⟨d1, d2, d3, d4, d5, d6, d7, d8, d9, d10⟩ := hS.2.2 s q1
          have t1 : ∀ a, a = 66 ∨ a = 68 ∨ a = 70 → A1 a (g 0) = A0 a (g 0) := fun a ha => by
            rw [k5 _ _ (by omega) (by omega)]
            exact s4 _ _ (by omega) (by omega) (by omega) (by omega) (by omega)
          have ek : ky (g 0) = ky s := b3 _ _ w1 q1 w2 q2 (by rw [w3, ep])
          have ec : co (g 0) = co s := by rw [(b2 _ w1 w2).2.2.2, (b2 _ q1 q2).2.2.2]
          exact ⟨by rw [o1, t1 68 (by omega), a7, d7, ec], by rw [o2, t1 66 (by omega), a4, d4, w3, ep], by rw [o3, t1 70 (by omega), a9, d9, ek], by rw [o4, t1 66 (by omega), a4, d4, w3, ep], o5, o6⟩
      · have np : pl (lxf (isO co ky c lk) s) ≠ p := by rw [(b2 s q1 q2).1]; exact ep
        obtain ⟨f1, f2⟩ := frn _ hl1 hl2 np
        rw [f1] at q3 ⊢
        rw [f2]
        obtain ⟨t1, t2, t3⟩ := s2 s q1 q2 q3
        have hle := r3 _ hl1 hl2
        have ng : ∀ j, j < m → s ≠ g j := fun j hj w => ep (by rw [w]; exact (sp j hj).2.2)
        obtain ⟨y1, y2⟩ := pg5 s ng
        refine ⟨by rw [y1, k5 _ _ (by omega) (by omega)]; exact t1, by rw [y2, k5 _ _ (by omega) (by omega)]; exact t2, ?_⟩
        obtain ⟨o1, o2, o3, o4, o5, o6⟩ := t3
        have t4 : ∀ a y, 74 ≤ a ∧ a ≤ 91 → y < F0 + G → A' a y = A a y := fun a y u1 u2 => by
          rw [pg4 a y (by omega) (by omega) (by omega) (by omega) (by omega) (by omega), k5 _ _ (by omega) (by omega)]
        exact ⟨by rw [t4 _ _ (by omega) (by omega)]; exact o1, by rw [t4 _ _ (by omega) (by omega)]; exact o2, by rw [t4 _ _ (by omega) (by omega)]; exact o3, by rw [t4 _ _ (by omega) (by omega)]; exact o4, by rw [t4 _ _ (by omega) (by omega)]; exact o5, fun x hx => by rw [t4 _ _ (by omega) (by omega)]; exact o6 x hx⟩
    · obtain ⟨y1, y2⟩ := pg5 s (fun j hj w => by
        obtain ⟨u1, u2, u3⟩ := sp j hj
        rcases q with q | q
        · rw [w, u2] at q; cases q
        · omega)
      rw [y1, y2, k5 _ _ (by omega) (by omega), k5 _ _ (by omega) (by omega)]
      exact s3 s q
    · rw [pg4 a y (by omega) (by omega) (by omega) (by omega) (by omega) (by omega), k5 _ _ (by omega) (by omega)]
      exact s4 a y w1 w2 w3 w4 w5
  · -- the reference
    have fle : ∀ l, 1 ≤ l → l ≤ n → M' (k + 16) l = sI (nn (M' (k + 16) l)) ∧ nn (M' (k + 16) l) ≤ G + opn ch m ∧ M' (k + 17) l = sI (nn (M' (k + 17) l)) ∧ nn (M' (k + 17) l) ≤ 8 := fun l l1 l2 => by
      by_cases e : pl l = p
      · obtain ⟨j, j1, j2⟩ := isg l l1 l2 e
        obtain ⟨f1, f2⟩ := frj j j1
        obtain ⟨u1, u2⟩ := pp1 j j1
        have v1 := chl j j1
        have v2 := (hway j j1).2
        rw [← j2, f1, f2]
        exact ⟨u1, by omega, u2, by omega⟩
      · obtain ⟨f1, f2⟩ := frn l l1 l2 e
        obtain ⟨q1, q2⟩ := pp2 l (fun j hj w => e (by rw [w]; exact (hgl j hj).2.2))
        obtain ⟨a1, a2, a3, a4, a5, a6, a7, a8, a9, a10⟩ := r1.2.2.2.2 l l1 l2
        have := r3 l l1 l2
        rw [f1, f2, q1, q2]
        exact ⟨a7, by omega, a9, a10⟩
    refine ⟨⟨by rw [pp3 _ _ (by omega) (by omega)]; exact r1.1, by rw [pp3 _ _ (by omega) (by omega)]; exact r1.2.1, hn, hcap, fun l l1 l2 => ?_⟩, fun l l1 l2 => ?_, fun l l1 l2 => (fle l l1 l2).2.1, fun f f1 f2 => ?_, by omega, ⟨fun l l1 l2 l0 => ?_, fun l t l1 l2 t1 t2 ne ef e0 => ?_⟩, fun a y w1 w2 => by rw [pp3 a y w1 w2]; exact r6 a y w1 w2⟩
    · obtain ⟨a1, a2, a3, a4, a5, a6, a7, a8, a9, a10⟩ := r1.2.2.2.2 l l1 l2
      obtain ⟨u1, u2, u3, u4⟩ := fle l l1 l2
      exact ⟨by rw [pp3 _ _ (by omega) (by omega)]; exact a1, by rw [pp3 _ _ (by omega) (by omega)]; exact a2, a3, by rw [pp3 _ _ (by omega) (by omega)]; exact a4, a5, a6, u1, by show nn (M' (k + 16) l) ≤ 64; omega, u3, u4⟩
    · dsimp only
      by_cases e : pl l = p
      · obtain ⟨j, j1, j2⟩ := isg l l1 l2 e
        obtain ⟨f1, f2⟩ := frj j j1
        rw [← j2, f1, j2]
        omega
      · obtain ⟨f1, f2⟩ := frn l l1 l2 e
        have w2 := r2 l l1 l2
        have w4 := h4 l l1 l2
        rw [f1, w2]
        constructor
        · intro w; have := w4 w; omega
        · intro w; omega
    · dsimp only
      by_cases e : f ≤ G
      · obtain ⟨l, l1, l2, l3⟩ := r4 f f1 e
        have w2 := r2 l l1 l2
        have np : pl l ≠ p := fun w => by have := hpl0 l l1 l2 w; omega
        exact ⟨l, l1, l2, by rw [(frn l l1 l2 np).1]; exact l3⟩
      · obtain ⟨j, j1, j2⟩ := opn_sur htg (f - G - 1) (by omega)
        obtain ⟨q1, q2, q3⟩ := hgl j j1
        exact ⟨gl j, q1, q2, by rw [(frj j j1).1]; omega⟩
    · dsimp only at l0 ⊢
      by_cases e : pl l = p
      · obtain ⟨j, j1, j2⟩ := isg l l1 l2 e
        rw [← j2, (frj j j1).2]
        exact (hway j j1).2
      · obtain ⟨f1, f2⟩ := frn l l1 l2 e
        rw [f1] at l0
        rw [f2]
        exact rd1 l l1 l2 l0
    · dsimp only at ef e0 ⊢
      by_cases e : pl l = p
      · obtain ⟨j, j1, j2⟩ := isg l l1 l2 e
        obtain ⟨f1, f2⟩ := frj j j1
        by_cases e' : pl t = p
        · obtain ⟨i, i1, i2⟩ := isg t t1 t2 e'
          obtain ⟨f1', f2'⟩ := frj i i1
          rw [← j2, ← i2, f1, f1'] at ef
          rw [← j2, ← i2, f2, f2']
          have ec : ch j = ch i := by omega
          rcases Nat.lt_trichotomy i j with q | q | q
          · right
            have := fil_mo (sz := fun j => zl (gl j)) ec.symm j q
            rw [← ec]
            exact this
          · exact absurd (by rw [← i2, ← j2, q]) ne
          · left
            have := fil_mo (sz := fun j => zl (gl j)) ec i q
            rw [ec]
            exact this
        · obtain ⟨f1', f2'⟩ := frn t t1 t2 e'
          have := r3 t t1 t2
          rw [← j2, f1, f1'] at ef
          omega
      · obtain ⟨f1, f2⟩ := frn l l1 l2 e
        by_cases e' : pl t = p
        · obtain ⟨i, i1, i2⟩ := isg t t1 t2 e'
          obtain ⟨f1', f2'⟩ := frj i i1
          have := r3 l l1 l2
          rw [← i2, f1, f1'] at ef
          omega
        · obtain ⟨f1', f2'⟩ := frn t t1 t2 e'
          rw [f1, f1'] at ef
          rw [f1] at e0
          rw [f2, f2']
          exact rd2 l t l1 l2 t1 t2 ne ef e0
