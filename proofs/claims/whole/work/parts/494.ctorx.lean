def kpq (lo hi : Nat) (W : List Nat) (M0 M : mwM) : Prop := ∀ a j, (a < lo ∨ hi ≤ a ∨ (a = lo ∧ j ∉ W)) → M a j = M0 a j
theorem kpq.rf {lo hi : Nat} {W : List Nat} {M : mwM} : kpq lo hi W M M := fun _ _ _ => rfl
theorem x_any {α β : Type} {v : α} {b : α → Option β} {Q : β → Prop} (kk : ∀ x, ∃ r, b x = some r ∧ Q r) : ∃ r, mlet v b = some r ∧ Q r := kk v
theorem x_z {β : Type} {lo hi k : Nat} {W : List Nat} {M0 M : mwM} {b : mwM → Option β} {Q : β → Prop} (h : kpq lo hi W M0 M) (h1 : lo < k) (h2 : k < hi) (kk : ∀ M1, kpq lo hi W M0 M1 → (∀ a, a ≠ k → M1 a = M a) → (∀ j, M1 k j = 0) → ∃ r, b M1 = some r ∧ Q r) : ∃ r, mlet (mz 0 M k) b = some r ∧ Q r :=
  kk _ (fun a j ha => by rw [mz_n (by omega)]; exact h a j ha) (fun a ha => mz_n ha) (fun j => by rw [mz_s])
theorem x_zr {β : Type} {lo hi k n : Nat} {W : List Nat} {M0 M : mwM} {b : mwM → Option β} {Q : β → Prop} (h : kpq lo hi W M0 M) (h1 : lo < k) (h2 : k + 1 + n ≤ hi) (kk : ∀ M1, kpq lo hi W M0 M1 → (∀ a, (a < k ∨ k + 1 + n ≤ a) → M1 a = M a) → ∃ r, b M1 = some r ∧ Q r) : ∃ r, mlet (mzr M k n) b = some r ∧ Q r :=
  kk _ (fun a j ha => by rw [show mzr M k n a j = M a j from if_neg (by omega)]; exact h a j ha) (fun a ha => funext fun j => if_neg (by omega))
theorem x_set {β : Type} {lo hi j : Nat} {x : Int32} {W : List Nat} {M0 M : mwM} {b : mwM → Option β} {Q : β → Prop} (h : kpq lo hi W M0 M) (h1 : lo < hi) (h2 : j ∈ W) (kk : ∀ M1, kpq lo hi W M0 M1 → (∀ a, a ≠ lo → M1 a = M a) → ∃ r, b M1 = some r ∧ Q r) : ∃ r, mlet (mset M lo j x) b = some r ∧ Q r :=
  kk _ (fun a i ha => by
    by_cases hq : a = lo ∧ i = j
    · rcases ha with ha | ha | ha
      · omega
      · omega
      · exact absurd (hq.2 ▸ h2) ha.2
    · rw [mset_n hq]; exact h a i ha) (fun a ha => funext fun i => mset_k ha)
theorem kpq.call {lo hi l2 h2 : Nat} {W W2 : List Nat} {M0 M M1 : mwM} (h : kpq lo hi W M0 M) (hc : kpq l2 h2 W2 M M1) (q1 : lo < l2) (q2 : h2 ≤ hi) : kpq lo hi W M0 M1 := fun a j ha => (hc a j (by omega)).trans (h a j ha)
theorem kpq.out {lo hi : Nat} {W : List Nat} {M0 M : mwM} (h : kpq lo hi W M0 M) {a : Nat} (ha : a < lo ∨ hi ≤ a) : M a = M0 a := funext fun j => h a j (by omega)
theorem kpq.tail {lo hi : Nat} {W : List Nat} {M0 M M1 : mwM} (h : kpq lo hi W M0 M) (hc : ∀ a, (a < lo ∨ hi ≤ a ∨ a = lo) → M1 a = M a) : kpq lo hi W M0 M1 := fun a j ha => (congrFun (hc a (by omega)) j).trans (h a j ha)
set_option maxHeartbeats 4000000 in
set_option maxRecDepth 100000 in
theorem xX4_init (fu : Nat) (hfu : 300 ≤ fu) (F : mwF) (M : mwM) (L : mwL) : ∃ r, DX4_init fu F M L = some r ∧ kpq 5 20 [] M r.2.1 := by
  have h : kpq 5 20 [] M M := kpq.rf
  unfold DX4_init
  refine x_any (fun F1 => ?_)
  refine x_zr h (by omega) (by omega) (fun M2 h ho => ?_)
  refine x_any (fun F3 => ?_)
  refine x_z h (by omega) (by omega) (fun M4 h ho hz => ?_)
  refine x_any (fun F5 => ?_)
  refine x_z h (by omega) (by omega) (fun M6 h ho hz => ?_)
  refine x_any (fun F7 => ?_)
  exact ⟨_, rfl, h⟩
set_option maxHeartbeats 4000000 in
set_option maxRecDepth 100000 in
theorem xX5_init (fu : Nat) (hfu : 300 ≤ fu) (k : Nat) (F : mwF) (M : mwM) (L : mwL) : ∃ r, DX5_init fu k F M L = some r ∧ kpq k (k + 2) [] M r.2.1 := by
  have h : kpq k (k + 2) [] M M := kpq.rf
  unfold DX5_init
  refine x_z h (by omega) (by omega) (fun M1 h ho hz => ?_)
  refine x_any (fun F2 => ?_)
  exact ⟨_, rfl, h⟩
set_option maxHeartbeats 4000000 in
set_option maxRecDepth 100000 in
theorem xX0_init (fu : Nat) (hfu : 300 ≤ fu) (F : mwF) (M : mwM) (L : mwL) : ∃ r, DX0_init fu F M L = some r ∧ kpq 20 61 [] M r.2.1 := by
  have h : kpq 20 61 [] M M := kpq.rf
  unfold DX0_init
  refine x_z h (by omega) (by omega) (fun M1 h ho hz => ?_)
  refine x_any (fun F2 => ?_)
  refine x_z h (by omega) (by omega) (fun M3 h ho hz => ?_)
  refine x_any (fun F4 => ?_)
  refine x_z h (by omega) (by omega) (fun M5 h ho hz => ?_)
  refine x_any (fun F6 => ?_)
  refine x_any (fun F7 => ?_)
  refine x_zr h (by omega) (by omega) (fun M8 h ho => ?_)
  refine x_any (fun F9 => ?_)
  refine x_any (fun F10 => ?_)
  refine x_zr h (by omega) (by omega) (fun M11 h ho => ?_)
  refine x_any (fun F12 => ?_)
  refine x_any (fun F13 => ?_)
  refine x_any (fun F14 => ?_)
  refine x_any (fun F15 => ?_)
  refine x_zr h (by omega) (by omega) (fun M16 h ho => ?_)
  refine x_any (fun F17 => ?_)
  refine x_z h (by omega) (by omega) (fun M18 h ho hz => ?_)
  refine x_any (fun F19 => ?_)
  refine x_any (fun F20 => ?_)
  refine x_z h (by omega) (by omega) (fun M21 h ho hz => ?_)
  refine x_any (fun L22 => ?_)
  obtain ⟨⟨F23, M24, L25⟩, e, hk⟩ := xX5_init fu hfu 47 F20 M21 L22
  rw [e, mb3_s]
  replace h := h.call hk (by omega) (by omega)
  refine x_any (fun F26 => ?_)
  refine x_any (fun F27 => ?_)
  refine x_z h (by omega) (by omega) (fun M28 h ho hz => ?_)
  refine x_any (fun L29 => ?_)
  obtain ⟨⟨F30, M31, L32⟩, e, hk⟩ := xX5_init fu hfu 49 F27 M28 L29
  rw [e, mb3_s]
  replace h := h.call hk (by omega) (by omega)
  refine x_any (fun F33 => ?_)
  refine x_any (fun F34 => ?_)
  refine x_z h (by omega) (by omega) (fun M35 h ho hz => ?_)
  refine x_any (fun L36 => ?_)
  obtain ⟨⟨F37, M38, L39⟩, e, hk⟩ := xX5_init fu hfu 51 F34 M35 L36
  rw [e, mb3_s]
  replace h := h.call hk (by omega) (by omega)
  refine x_any (fun F40 => ?_)
  refine x_any (fun F41 => ?_)
  refine x_z h (by omega) (by omega) (fun M42 h ho hz => ?_)
  refine x_any (fun L43 => ?_)
  obtain ⟨⟨F44, M45, L46⟩, e, hk⟩ := xX5_init fu hfu 53 F41 M42 L43
  rw [e, mb3_s]
  replace h := h.call hk (by omega) (by omega)
  refine x_any (fun F47 => ?_)
  refine x_any (fun F48 => ?_)
  refine x_z h (by omega) (by omega) (fun M49 h ho hz => ?_)
  refine x_any (fun L50 => ?_)
  obtain ⟨⟨F51, M52, L53⟩, e, hk⟩ := xX5_init fu hfu 55 F48 M49 L50
  rw [e, mb3_s]
  replace h := h.call hk (by omega) (by omega)
  refine x_any (fun F54 => ?_)
  refine x_any (fun F55 => ?_)
  refine x_z h (by omega) (by omega) (fun M56 h ho hz => ?_)
  refine x_any (fun L57 => ?_)
  obtain ⟨⟨F58, M59, L60⟩, e, hk⟩ := xX5_init fu hfu 57 F55 M56 L57
  rw [e, mb3_s]
  replace h := h.call hk (by omega) (by omega)
  refine x_any (fun F61 => ?_)
  refine x_any (fun F62 => ?_)
  refine x_z h (by omega) (by omega) (fun M63 h ho hz => ?_)
  refine x_any (fun L64 => ?_)
  obtain ⟨⟨F65, M66, L67⟩, e, hk⟩ := xX5_init fu hfu 59 F62 M63 L64
  rw [e, mb3_s]
  replace h := h.call hk (by omega) (by omega)
  refine x_any (fun F68 => ?_)
  exact ⟨_, rfl, h⟩
set_option maxHeartbeats 4000000 in
set_option maxRecDepth 100000 in
theorem xX6_init (fu : Nat) (hfu : 300 ≤ fu) (F : mwF) (M : mwM) (L : mwL) : ∃ r, DX6_init fu F M L = some r ∧ kpq 61 97 [] M r.2.1 := by
  have h : kpq 61 97 [] M M := kpq.rf
  unfold DX6_init
  refine x_any (fun F1 => ?_)
  refine x_zr h (by omega) (by omega) (fun M2 h ho => ?_)
  refine x_any (fun F3 => ?_)
  refine x_any (fun F4 => ?_)
  refine x_zr h (by omega) (by omega) (fun M5 h ho => ?_)
  refine x_any (fun F6 => ?_)
  refine x_z h (by omega) (by omega) (fun M7 h ho hz => ?_)
  refine x_any (fun F8 => ?_)
  refine x_any (fun F9 => ?_)
  refine x_zr h (by omega) (by omega) (fun M10 h ho => ?_)
  refine x_any (fun F11 => ?_)
  refine x_any (fun F12 => ?_)
  refine x_zr h (by omega) (by omega) (fun M13 h ho => ?_)
  refine x_any (fun F14 => ?_)
  refine x_z h (by omega) (by omega) (fun M15 h ho hz => ?_)
  refine x_any (fun F16 => ?_)
  refine x_z h (by omega) (by omega) (fun M17 h ho hz => ?_)
  refine x_any (fun F18 => ?_)
  refine x_z h (by omega) (by omega) (fun M19 h ho hz => ?_)
  refine x_any (fun F20 => ?_)
  refine x_z h (by omega) (by omega) (fun M21 h ho hz => ?_)
  refine x_any (fun F22 => ?_)
  refine x_z h (by omega) (by omega) (fun M23 h ho hz => ?_)
  refine x_any (fun F24 => ?_)
  exact ⟨_, rfl, h⟩
set_option maxHeartbeats 4000000 in
set_option maxRecDepth 100000 in
theorem xX3_init (fu : Nat) (hfu : 300 ≤ fu) (F : mwF) (M : mwM) (L : mwL) : ∃ r, DX3_init fu F M L = some r ∧ kpq 97 139 [] M r.2.1 := by
  have h : kpq 97 139 [] M M := kpq.rf
  unfold DX3_init
  refine x_z h (by omega) (by omega) (fun M1 h ho hz => ?_)
  refine x_any (fun F2 => ?_)
  refine x_z h (by omega) (by omega) (fun M3 h ho hz => ?_)
  refine x_any (fun F4 => ?_)
  refine x_any (fun F5 => ?_)
  refine x_zr h (by omega) (by omega) (fun M6 h ho => ?_)
  refine x_any (fun F7 => ?_)
  refine x_any (fun F8 => ?_)
  refine x_zr h (by omega) (by omega) (fun M9 h ho => ?_)
  refine x_any (fun F10 => ?_)
  refine x_z h (by omega) (by omega) (fun M11 h ho hz => ?_)
  refine x_any (fun F12 => ?_)
  refine x_z h (by omega) (by omega) (fun M13 h ho hz => ?_)
  refine x_any (fun F14 => ?_)
  refine x_z h (by omega) (by omega) (fun M15 h ho hz => ?_)
  refine x_any (fun F16 => ?_)
  obtain ⟨⟨M17, L18⟩, e, hk, hk5⟩ := DX3_tail_ex fu hfu M15 L
  rw [e, mb2_s]
  replace h := h.tail (fun a ha => funext fun j => hk a j (by omega))
  exact ⟨_, rfl, h⟩
set_option maxHeartbeats 4000000 in
set_option maxRecDepth 100000 in
theorem xX10_init (fu : Nat) (hfu : 300 ≤ fu) (F : mwF) (M : mwM) (L : mwL) : ∃ r, DX10_init fu F M L = some r ∧ kpq 139 154 [] M r.2.1 := by
  have h : kpq 139 154 [] M M := kpq.rf
  unfold DX10_init
  refine x_any (fun F1 => ?_)
  refine x_zr h (by omega) (by omega) (fun M2 h ho => ?_)
  refine x_any (fun F3 => ?_)
  refine x_z h (by omega) (by omega) (fun M4 h ho hz => ?_)
  refine x_any (fun F5 => ?_)
  exact ⟨_, rfl, h⟩
set_option maxHeartbeats 4000000 in
set_option maxRecDepth 100000 in
theorem xX9_init (fu : Nat) (hfu : 300 ≤ fu) (F : mwF) (M : mwM) (L : mwL) : ∃ r, DX9_init fu F M L = some r ∧ kpq 154 275 [] M r.2.1 := by
  have h : kpq 154 275 [] M M := kpq.rf
  unfold DX9_init
  refine x_any (fun F1 => ?_)
  refine x_zr h (by omega) (by omega) (fun M2 h ho => ?_)
  refine x_any (fun F3 => ?_)
  refine x_any (fun F4 => ?_)
  refine x_zr h (by omega) (by omega) (fun M5 h ho => ?_)
  refine x_any (fun F6 => ?_)
  refine x_any (fun F7 => ?_)
  refine x_zr h (by omega) (by omega) (fun M8 h ho => ?_)
  refine x_any (fun F9 => ?_)
  refine x_any (fun F10 => ?_)
  refine x_zr h (by omega) (by omega) (fun M11 h ho => ?_)
  refine x_any (fun F12 => ?_)
  refine x_z h (by omega) (by omega) (fun M13 h ho hz => ?_)
  refine x_any (fun F14 => ?_)
  exact ⟨_, rfl, h⟩
set_option maxHeartbeats 4000000 in
set_option maxRecDepth 100000 in
theorem xX7_init (fu : Nat) (hfu : 300 ≤ fu) (F : mwF) (M : mwM) (L : mwL) : ∃ r, DX7_init fu F M L = some r ∧ kpq 275 283 [] M r.2.1 := by
  have h : kpq 275 283 [] M M := kpq.rf
  unfold DX7_init
  refine x_z h (by omega) (by omega) (fun M1 h ho hz => ?_)
  refine x_any (fun F2 => ?_)
  refine x_z h (by omega) (by omega) (fun M3 h ho hz => ?_)
  refine x_any (fun F4 => ?_)
  refine x_z h (by omega) (by omega) (fun M5 h ho hz => ?_)
  refine x_any (fun F6 => ?_)
  refine x_z h (by omega) (by omega) (fun M7 h ho hz => ?_)
  refine x_any (fun F8 => ?_)
  refine x_z h (by omega) (by omega) (fun M9 h ho hz => ?_)
  refine x_any (fun F10 => ?_)
  refine x_z h (by omega) (by omega) (fun M11 h ho hz => ?_)
  refine x_any (fun F12 => ?_)
  refine x_z h (by omega) (by omega) (fun M13 h ho hz => ?_)
  refine x_any (fun F14 => ?_)
  exact ⟨_, rfl, h⟩
set_option maxHeartbeats 4000000 in
set_option maxRecDepth 100000 in
theorem xX2_init (fu : Nat) (hfu : 300 ≤ fu) (k : Nat) (F : mwF) (M : mwM) (L : mwL) : ∃ r, DX2_init fu k F M L = some r ∧ kpq k (k + 36) [] M r.2.1 := by
  have h : kpq k (k + 36) [] M M := kpq.rf
  unfold DX2_init
  refine x_any (fun F1 => ?_)
  refine x_zr h (by omega) (by omega) (fun M2 h ho => ?_)
  refine x_any (fun F3 => ?_)
  refine x_any (fun F4 => ?_)
  refine x_zr h (by omega) (by omega) (fun M5 h ho => ?_)
  refine x_any (fun F6 => ?_)
  refine x_any (fun F7 => ?_)
  refine x_zr h (by omega) (by omega) (fun M8 h ho => ?_)
  refine x_any (fun F9 => ?_)
  refine x_any (fun L10 => ?_)
  refine x_any (fun F11 => ?_)
  refine x_z h (by omega) (by omega) (fun M12 h ho hz => ?_)
  refine x_any (fun F13 => ?_)
  exact ⟨_, rfl, h⟩
set_option maxHeartbeats 4000000 in
set_option maxRecDepth 100000 in
theorem xX1_init (fu : Nat) (hfu : 300 ≤ fu) (F : mwF) (M : mwM) (L : mwL) : ∃ r, DX1_init fu F M L = some r ∧ kpq 3 725 [] M r.2.1 := by
  have h : kpq 3 725 [] M M := kpq.rf
  unfold DX1_init
  refine x_any (fun F1 => ?_)
  refine x_any (fun F2 => ?_)
  refine x_any (fun F3 => ?_)
  refine x_z h (by omega) (by omega) (fun M4 h ho hz => ?_)
  refine x_any (fun L5 => ?_)
  obtain ⟨⟨F6, M7, L8⟩, e, hk⟩ := xX4_init fu hfu F3 M4 L5
  rw [e, mb3_s]
  replace h := h.call hk (by omega) (by omega)
  refine x_any (fun F9 => ?_)
  refine x_any (fun F10 => ?_)
  refine x_z h (by omega) (by omega) (fun M11 h ho hz => ?_)
  refine x_any (fun L12 => ?_)
  obtain ⟨⟨F13, M14, L15⟩, e, hk⟩ := xX0_init fu hfu F10 M11 L12
  rw [e, mb3_s]
  replace h := h.call hk (by omega) (by omega)
  refine x_any (fun F16 => ?_)
  refine x_any (fun F17 => ?_)
  refine x_z h (by omega) (by omega) (fun M18 h ho hz => ?_)
  refine x_any (fun L19 => ?_)
  obtain ⟨⟨F20, M21, L22⟩, e, hk⟩ := xX6_init fu hfu F17 M18 L19
  rw [e, mb3_s]
  replace h := h.call hk (by omega) (by omega)
  refine x_any (fun F23 => ?_)
  refine x_any (fun F24 => ?_)
  refine x_z h (by omega) (by omega) (fun M25 h ho hz => ?_)
  refine x_any (fun L26 => ?_)
  obtain ⟨⟨F27, M28, L29⟩, e, hk⟩ := xX3_init fu hfu F24 M25 L26
  rw [e, mb3_s]
  replace h := h.call hk (by omega) (by omega)
  refine x_any (fun F30 => ?_)
  refine x_any (fun F31 => ?_)
  refine x_z h (by omega) (by omega) (fun M32 h ho hz => ?_)
  refine x_any (fun L33 => ?_)
  obtain ⟨⟨F34, M35, L36⟩, e, hk⟩ := xX10_init fu hfu F31 M32 L33
  rw [e, mb3_s]
  replace h := h.call hk (by omega) (by omega)
  refine x_any (fun F37 => ?_)
  refine x_any (fun F38 => ?_)
  refine x_z h (by omega) (by omega) (fun M39 h ho hz => ?_)
  refine x_any (fun L40 => ?_)
  obtain ⟨⟨F41, M42, L43⟩, e, hk⟩ := xX9_init fu hfu F38 M39 L40
  rw [e, mb3_s]
  replace h := h.call hk (by omega) (by omega)
  refine x_any (fun F44 => ?_)
  refine x_any (fun F45 => ?_)
  refine x_z h (by omega) (by omega) (fun M46 h ho hz => ?_)
  refine x_any (fun L47 => ?_)
  obtain ⟨⟨F48, M49, L50⟩, e, hk⟩ := xX7_init fu hfu F45 M46 L47
  rw [e, mb3_s]
  replace h := h.call hk (by omega) (by omega)
  refine x_any (fun F51 => ?_)
  refine x_z h (by omega) (by omega) (fun M52 h ho hz => ?_)
  refine x_any (fun F53 => ?_)
  refine x_z h (by omega) (by omega) (fun M54 h ho hz => ?_)
  refine x_any (fun F55 => ?_)
  refine x_any (fun F56 => ?_)
  refine x_zr h (by omega) (by omega) (fun M57 h ho => ?_)
  refine x_any (fun F58 => ?_)
  refine x_any (fun L59 => ?_)
  refine x_any (fun F60 => ?_)
  refine x_z h (by omega) (by omega) (fun M61 h ho hz => ?_)
  refine x_any (fun F62 => ?_)
  refine x_any (fun F63 => ?_)
  refine x_z h (by omega) (by omega) (fun M64 h ho hz => ?_)
  refine x_any (fun L65 => ?_)
  obtain ⟨⟨F66, M67, L68⟩, e, hk⟩ := xX2_init fu hfu 293 F63 M64 L65
  rw [e, mb3_s]
  replace h := h.call hk (by omega) (by omega)
  refine x_any (fun F69 => ?_)
  refine x_any (fun F70 => ?_)
  refine x_z h (by omega) (by omega) (fun M71 h ho hz => ?_)
  refine x_any (fun L72 => ?_)
  obtain ⟨⟨F73, M74, L75⟩, e, hk⟩ := xX2_init fu hfu 329 F70 M71 L72
  rw [e, mb3_s]
  replace h := h.call hk (by omega) (by omega)
  refine x_any (fun F76 => ?_)
  refine x_any (fun F77 => ?_)
  refine x_z h (by omega) (by omega) (fun M78 h ho hz => ?_)
  refine x_any (fun L79 => ?_)
  obtain ⟨⟨F80, M81, L82⟩, e, hk⟩ := xX2_init fu hfu 365 F77 M78 L79
  rw [e, mb3_s]
  replace h := h.call hk (by omega) (by omega)
  refine x_any (fun F83 => ?_)
  refine x_any (fun F84 => ?_)
  refine x_z h (by omega) (by omega) (fun M85 h ho hz => ?_)
  refine x_any (fun L86 => ?_)
  obtain ⟨⟨F87, M88, L89⟩, e, hk⟩ := xX2_init fu hfu 401 F84 M85 L86
  rw [e, mb3_s]
  replace h := h.call hk (by omega) (by omega)
  refine x_any (fun F90 => ?_)
  refine x_any (fun F91 => ?_)
  refine x_z h (by omega) (by omega) (fun M92 h ho hz => ?_)
  refine x_any (fun L93 => ?_)
  obtain ⟨⟨F94, M95, L96⟩, e, hk⟩ := xX2_init fu hfu 437 F91 M92 L93
  rw [e, mb3_s]
  replace h := h.call hk (by omega) (by omega)
  refine x_any (fun F97 => ?_)
  refine x_any (fun F98 => ?_)
  refine x_z h (by omega) (by omega) (fun M99 h ho hz => ?_)
  refine x_any (fun L100 => ?_)
  obtain ⟨⟨F101, M102, L103⟩, e, hk⟩ := xX2_init fu hfu 473 F98 M99 L100
  rw [e, mb3_s]
  replace h := h.call hk (by omega) (by omega)
  refine x_any (fun F104 => ?_)
  refine x_any (fun F105 => ?_)
  refine x_z h (by omega) (by omega) (fun M106 h ho hz => ?_)
  refine x_any (fun L107 => ?_)
  obtain ⟨⟨F108, M109, L110⟩, e, hk⟩ := xX2_init fu hfu 509 F105 M106 L107
  rw [e, mb3_s]
  replace h := h.call hk (by omega) (by omega)
  refine x_any (fun F111 => ?_)
  refine x_any (fun F112 => ?_)
  refine x_z h (by omega) (by omega) (fun M113 h ho hz => ?_)
  refine x_any (fun L114 => ?_)
  obtain ⟨⟨F115, M116, L117⟩, e, hk⟩ := xX2_init fu hfu 545 F112 M113 L114
  rw [e, mb3_s]
  replace h := h.call hk (by omega) (by omega)
  refine x_any (fun F118 => ?_)
  refine x_any (fun F119 => ?_)
  refine x_z h (by omega) (by omega) (fun M120 h ho hz => ?_)
  refine x_any (fun L121 => ?_)
  obtain ⟨⟨F122, M123, L124⟩, e, hk⟩ := xX2_init fu hfu 581 F119 M120 L121
  rw [e, mb3_s]
  replace h := h.call hk (by omega) (by omega)
  refine x_any (fun F125 => ?_)
  refine x_any (fun F126 => ?_)
  refine x_z h (by omega) (by omega) (fun M127 h ho hz => ?_)
  refine x_any (fun L128 => ?_)
  obtain ⟨⟨F129, M130, L131⟩, e, hk⟩ := xX2_init fu hfu 617 F126 M127 L128
  rw [e, mb3_s]
  replace h := h.call hk (by omega) (by omega)
  refine x_any (fun F132 => ?_)
  refine x_any (fun F133 => ?_)
  refine x_z h (by omega) (by omega) (fun M134 h ho hz => ?_)
  refine x_any (fun L135 => ?_)
  obtain ⟨⟨F136, M137, L138⟩, e, hk⟩ := xX2_init fu hfu 653 F133 M134 L135
  rw [e, mb3_s]
  replace h := h.call hk (by omega) (by omega)
  refine x_any (fun F139 => ?_)
  refine x_any (fun F140 => ?_)
  refine x_z h (by omega) (by omega) (fun M141 h ho hz => ?_)
  refine x_any (fun L142 => ?_)
  obtain ⟨⟨F143, M144, L145⟩, e, hk⟩ := xX2_init fu hfu 689 F140 M141 L142
  rw [e, mb3_s]
  replace h := h.call hk (by omega) (by omega)
  refine x_any (fun F146 => ?_)
  exact ⟨_, rfl, h⟩
set_option maxHeartbeats 4000000 in
set_option maxRecDepth 100000 in
theorem xX8_init (fu : Nat) (hfu : 300 ≤ fu) (F : mwF) (M : mwM) (L : mwL) : ∃ r, DX8_init fu F M L = some r ∧ kpq 1 731 [] M r.2.1 := by
  have h : kpq 1 731 [] M M := kpq.rf
  unfold DX8_init
  refine x_z h (by omega) (by omega) (fun M1 h ho hz => ?_)
  refine x_any (fun F2 => ?_)
  refine x_any (fun F3 => ?_)
  refine x_z h (by omega) (by omega) (fun M4 h ho hz => ?_)
  refine x_any (fun L5 => ?_)
  obtain ⟨⟨F6, M7, L8⟩, e, hk⟩ := xX1_init fu hfu F3 M4 L5
  rw [e, mb3_s]
  replace h := h.call hk (by omega) (by omega)
  refine x_any (fun F9 => ?_)
  refine x_any (fun F10 => ?_)
  refine x_zr h (by omega) (by omega) (fun M11 h ho => ?_)
  refine x_any (fun F12 => ?_)
  exact ⟨_, rfl, h⟩
set_option maxHeartbeats 4000000 in
set_option maxRecDepth 100000 in
theorem xX11_init (fu : Nat) (hfu : 300 ≤ fu) (F : mwF) (M : mwM) (L : mwL) : ∃ r, DX11_init fu F M L = some r ∧ kpq 0 732 [] M r.2.1 ∧ ∀ j, r.2.1 1 j = 0 := by
  have h : kpq 0 732 [] M M := kpq.rf
  unfold DX11_init
  refine x_any (fun F1 => ?_)
  refine x_z h (by omega) (by omega) (fun M2 h ho hz => ?_)
  have hR : ∀ j, M2 1 j = 0 := hz
  refine x_any (fun L3 => ?_)
  obtain ⟨⟨F4, M5, L6⟩, e, hk⟩ := xX8_init fu hfu F1 M2 L3
  rw [e, mb3_s]
  replace hR : ∀ j, M5 1 j = 0 := fun j => (hk 1 j (Or.inr (Or.inr ⟨rfl, List.not_mem_nil⟩))).trans (hR j)
  replace h := h.call hk (by omega) (by omega)
  refine x_any (fun F7 => ?_)
  refine x_any (fun F8 => ?_)
  refine x_z h (by omega) (by omega) (fun M9 h ho hz => ?_)
  replace hR : ∀ j, M9 1 j = 0 := fun j => (congrFun (ho 1 (by decide)) j).trans (hR j)
  refine x_any (fun F10 => ?_)
  exact ⟨_, rfl, h, hR⟩
set_option maxHeartbeats 4000000 in
set_option maxRecDepth 100000 in
theorem xX15_init (fu : Nat) (hfu : 300 ≤ fu) (F : mwF) (M : mwM) (L : mwL) : ∃ r, DX15_init fu F M L = some r ∧ kpq 787 821 [] M r.2.1 := by
  have h : kpq 787 821 [] M M := kpq.rf
  unfold DX15_init
  refine x_z h (by omega) (by omega) (fun M1 h ho hz => ?_)
  refine x_any (fun F2 => ?_)
  refine x_z h (by omega) (by omega) (fun M3 h ho hz => ?_)
  refine x_any (fun F4 => ?_)
  refine x_z h (by omega) (by omega) (fun M5 h ho hz => ?_)
  refine x_any (fun F6 => ?_)
  refine x_z h (by omega) (by omega) (fun M7 h ho hz => ?_)
  refine x_any (fun F8 => ?_)
  refine x_z h (by omega) (by omega) (fun M9 h ho hz => ?_)
  refine x_any (fun F10 => ?_)
  refine x_z h (by omega) (by omega) (fun M11 h ho hz => ?_)
  refine x_any (fun F12 => ?_)
  refine x_z h (by omega) (by omega) (fun M13 h ho hz => ?_)
  refine x_any (fun F14 => ?_)
  refine x_any (fun L15 => ?_)
  refine x_any (fun F16 => ?_)
  refine x_z h (by omega) (by omega) (fun M17 h ho hz => ?_)
  refine x_any (fun F18 => ?_)
  refine x_any (fun L19 => ?_)
  refine x_any (fun F20 => ?_)
  refine x_z h (by omega) (by omega) (fun M21 h ho hz => ?_)
  refine x_any (fun F22 => ?_)
  refine x_z h (by omega) (by omega) (fun M23 h ho hz => ?_)
  refine x_any (fun F24 => ?_)
  refine x_any (fun L25 => ?_)
  refine x_any (fun F26 => ?_)
  refine x_z h (by omega) (by omega) (fun M27 h ho hz => ?_)
  refine x_any (fun F28 => ?_)
  refine x_z h (by omega) (by omega) (fun M29 h ho hz => ?_)
  refine x_any (fun F30 => ?_)
  refine x_z h (by omega) (by omega) (fun M31 h ho hz => ?_)
  refine x_any (fun F32 => ?_)
  refine x_z h (by omega) (by omega) (fun M33 h ho hz => ?_)
  refine x_any (fun F34 => ?_)
  refine x_any (fun L35 => ?_)
  refine x_any (fun F36 => ?_)
  refine x_z h (by omega) (by omega) (fun M37 h ho hz => ?_)
  refine x_any (fun F38 => ?_)
  refine x_any (fun L39 => ?_)
  refine x_any (fun F40 => ?_)
  refine x_z h (by omega) (by omega) (fun M41 h ho hz => ?_)
  refine x_any (fun F42 => ?_)
  refine x_z h (by omega) (by omega) (fun M43 h ho hz => ?_)
  refine x_any (fun F44 => ?_)
  refine x_z h (by omega) (by omega) (fun M45 h ho hz => ?_)
  refine x_any (fun F46 => ?_)
  refine x_any (fun L47 => ?_)
  refine x_any (fun F48 => ?_)
  refine x_z h (by omega) (by omega) (fun M49 h ho hz => ?_)
  refine x_any (fun F50 => ?_)
  refine x_any (fun L51 => ?_)
  refine x_any (fun F52 => ?_)
  refine x_z h (by omega) (by omega) (fun M53 h ho hz => ?_)
  refine x_any (fun F54 => ?_)
  refine x_any (fun L55 => ?_)
  refine x_any (fun F56 => ?_)
  refine x_any (fun L57 => ?_)
  refine x_any (fun F58 => ?_)
  refine x_z h (by omega) (by omega) (fun M59 h ho hz => ?_)
  refine x_any (fun F60 => ?_)
  refine x_z h (by omega) (by omega) (fun M61 h ho hz => ?_)
  refine x_any (fun F62 => ?_)
  refine x_any (fun L63 => ?_)
  refine x_any (fun F64 => ?_)
  refine x_z h (by omega) (by omega) (fun M65 h ho hz => ?_)
  refine x_any (fun F66 => ?_)
  exact ⟨_, rfl, h⟩
set_option maxHeartbeats 4000000 in
set_option maxRecDepth 100000 in
theorem xX12_init (fu : Nat) (hfu : 300 ≤ fu) (F : mwF) (M : mwM) (L : mwL) : ∃ r, DX12_init fu F M L = some r ∧ kpq 821 854 [1, 48, 50] M r.2.1 := by
  have h : kpq 821 854 [1, 48, 50] M M := kpq.rf
  unfold DX12_init
  refine x_set h (by omega) (by decide) (fun M1 h ho => ?_)
  refine x_z h (by omega) (by omega) (fun M2 h ho hz => ?_)
  refine x_any (fun F3 => ?_)
  refine x_z h (by omega) (by omega) (fun M4 h ho hz => ?_)
  refine x_any (fun F5 => ?_)
  refine x_z h (by omega) (by omega) (fun M6 h ho hz => ?_)
  refine x_any (fun F7 => ?_)
  refine x_z h (by omega) (by omega) (fun M8 h ho hz => ?_)
  refine x_any (fun F9 => ?_)
  refine x_z h (by omega) (by omega) (fun M10 h ho hz => ?_)
  refine x_any (fun F11 => ?_)
  refine x_z h (by omega) (by omega) (fun M12 h ho hz => ?_)
  refine x_any (fun F13 => ?_)
  refine x_z h (by omega) (by omega) (fun M14 h ho hz => ?_)
  refine x_any (fun F15 => ?_)
  refine x_z h (by omega) (by omega) (fun M16 h ho hz => ?_)
  refine x_any (fun F17 => ?_)
  refine x_z h (by omega) (by omega) (fun M18 h ho hz => ?_)
  refine x_any (fun F19 => ?_)
  refine x_z h (by omega) (by omega) (fun M20 h ho hz => ?_)
  refine x_any (fun F21 => ?_)
  refine x_z h (by omega) (by omega) (fun M22 h ho hz => ?_)
  refine x_any (fun F23 => ?_)
  refine x_z h (by omega) (by omega) (fun M24 h ho hz => ?_)
  refine x_any (fun F25 => ?_)
  refine x_z h (by omega) (by omega) (fun M26 h ho hz => ?_)
  refine x_any (fun F27 => ?_)
  refine x_z h (by omega) (by omega) (fun M28 h ho hz => ?_)
  refine x_any (fun F29 => ?_)
  refine x_z h (by omega) (by omega) (fun M30 h ho hz => ?_)
  refine x_any (fun F31 => ?_)
  refine x_z h (by omega) (by omega) (fun M32 h ho hz => ?_)
  refine x_any (fun F33 => ?_)
  refine x_z h (by omega) (by omega) (fun M34 h ho hz => ?_)
  refine x_any (fun F35 => ?_)
  refine x_z h (by omega) (by omega) (fun M36 h ho hz => ?_)
  refine x_any (fun F37 => ?_)
  refine x_z h (by omega) (by omega) (fun M38 h ho hz => ?_)
  refine x_any (fun F39 => ?_)
  refine x_z h (by omega) (by omega) (fun M40 h ho hz => ?_)
  refine x_any (fun F41 => ?_)
  refine x_z h (by omega) (by omega) (fun M42 h ho hz => ?_)
  refine x_any (fun F43 => ?_)
  refine x_z h (by omega) (by omega) (fun M44 h ho hz => ?_)
  refine x_any (fun F45 => ?_)
  refine x_z h (by omega) (by omega) (fun M46 h ho hz => ?_)
  refine x_any (fun F47 => ?_)
  refine x_z h (by omega) (by omega) (fun M48 h ho hz => ?_)
  refine x_any (fun F49 => ?_)
  refine x_z h (by omega) (by omega) (fun M50 h ho hz => ?_)
  refine x_any (fun F51 => ?_)
  refine x_z h (by omega) (by omega) (fun M52 h ho hz => ?_)
  refine x_any (fun F53 => ?_)
  refine x_z h (by omega) (by omega) (fun M54 h ho hz => ?_)
  refine x_any (fun F55 => ?_)
  refine x_z h (by omega) (by omega) (fun M56 h ho hz => ?_)
  refine x_any (fun F57 => ?_)
  refine x_z h (by omega) (by omega) (fun M58 h ho hz => ?_)
  refine x_any (fun F59 => ?_)
  refine x_z h (by omega) (by omega) (fun M60 h ho hz => ?_)
  refine x_any (fun F61 => ?_)
  refine x_z h (by omega) (by omega) (fun M62 h ho hz => ?_)
  refine x_any (fun F63 => ?_)
  refine x_z h (by omega) (by omega) (fun M64 h ho hz => ?_)
  refine x_any (fun F65 => ?_)
  refine x_set h (by omega) (by decide) (fun M66 h ho => ?_)
  refine x_set h (by omega) (by decide) (fun M67 h ho => ?_)
  exact ⟨_, rfl, h⟩
set_option maxHeartbeats 4000000 in
set_option maxRecDepth 100000 in
theorem xX14_init (fu : Nat) (hfu : 300 ≤ fu) (F : mwF) (M : mwM) (L : mwL) : ∃ r, DX14_init fu F M L = some r ∧ kpq 854 869 [] M r.2.1 ∧ ∀ j, r.2.1 856 j = 0 := by
  have h : kpq 854 869 [] M M := kpq.rf
  unfold DX14_init
  refine x_z h (by omega) (by omega) (fun M1 h ho hz => ?_)
  refine x_any (fun F2 => ?_)
  refine x_z h (by omega) (by omega) (fun M3 h ho hz => ?_)
  have h6 : ∀ j, M3 856 j = 0 := hz
  refine x_any (fun F4 => ?_)
  refine x_any (fun L5 => ?_)
  refine x_any (fun F6 => ?_)
  refine x_z h (by omega) (by omega) (fun M7 h ho hz => ?_)
  replace h6 : ∀ j, M7 856 j = 0 := fun j => (congrFun (ho 856 (by decide)) j).trans (h6 j)
  refine x_any (fun F8 => ?_)
  refine x_z h (by omega) (by omega) (fun M9 h ho hz => ?_)
  replace h6 : ∀ j, M9 856 j = 0 := fun j => (congrFun (ho 856 (by decide)) j).trans (h6 j)
  refine x_any (fun F10 => ?_)
  refine x_z h (by omega) (by omega) (fun M11 h ho hz => ?_)
  replace h6 : ∀ j, M11 856 j = 0 := fun j => (congrFun (ho 856 (by decide)) j).trans (h6 j)
  refine x_any (fun F12 => ?_)
  refine x_any (fun L13 => ?_)
  refine x_any (fun F14 => ?_)
  refine x_z h (by omega) (by omega) (fun M15 h ho hz => ?_)
  replace h6 : ∀ j, M15 856 j = 0 := fun j => (congrFun (ho 856 (by decide)) j).trans (h6 j)
  refine x_any (fun F16 => ?_)
  refine x_z h (by omega) (by omega) (fun M17 h ho hz => ?_)
  replace h6 : ∀ j, M17 856 j = 0 := fun j => (congrFun (ho 856 (by decide)) j).trans (h6 j)
  refine x_any (fun F18 => ?_)
  refine x_z h (by omega) (by omega) (fun M19 h ho hz => ?_)
  replace h6 : ∀ j, M19 856 j = 0 := fun j => (congrFun (ho 856 (by decide)) j).trans (h6 j)
  refine x_any (fun F20 => ?_)
  refine x_z h (by omega) (by omega) (fun M21 h ho hz => ?_)
  replace h6 : ∀ j, M21 856 j = 0 := fun j => (congrFun (ho 856 (by decide)) j).trans (h6 j)
  refine x_any (fun F22 => ?_)
  refine x_z h (by omega) (by omega) (fun M23 h ho hz => ?_)
  replace h6 : ∀ j, M23 856 j = 0 := fun j => (congrFun (ho 856 (by decide)) j).trans (h6 j)
  refine x_any (fun F24 => ?_)
  refine x_z h (by omega) (by omega) (fun M25 h ho hz => ?_)
  replace h6 : ∀ j, M25 856 j = 0 := fun j => (congrFun (ho 856 (by decide)) j).trans (h6 j)
  refine x_any (fun F26 => ?_)
  refine x_z h (by omega) (by omega) (fun M27 h ho hz => ?_)
  replace h6 : ∀ j, M27 856 j = 0 := fun j => (congrFun (ho 856 (by decide)) j).trans (h6 j)
  refine x_any (fun F28 => ?_)
  obtain ⟨⟨M29, L30⟩, e, hk, hk4, hk6, hk5⟩ := DX14_tail_ex fu hfu M27 L13
  rw [e, mb2_s]
  replace h := h.tail (fun a ha => funext fun j => by rcases ha with ha | ha | ha; exact hk a j (Or.inl ha); exact hk a j (Or.inr ha); subst ha; exact hk4 j)
  replace h6 : ∀ j, M29 856 j = 0 := fun j => (hk6 j).trans (h6 j)
  exact ⟨_, rfl, h, h6⟩
set_option maxHeartbeats 4000000 in
set_option maxRecDepth 100000 in
theorem xX17_init (fu : Nat) (hfu : 300 ≤ fu) (F : mwF) (M : mwM) (L : mwL) : ∃ r, DX17_init fu F M L = some r ∧ kpq 869 902 [38] M r.2.1 := by
  have h : kpq 869 902 [38] M M := kpq.rf
  unfold DX17_init
  refine x_z h (by omega) (by omega) (fun M1 h ho hz => ?_)
  refine x_any (fun F2 => ?_)
  refine x_z h (by omega) (by omega) (fun M3 h ho hz => ?_)
  refine x_any (fun F4 => ?_)
  refine x_z h (by omega) (by omega) (fun M5 h ho hz => ?_)
  refine x_any (fun F6 => ?_)
  refine x_z h (by omega) (by omega) (fun M7 h ho hz => ?_)
  refine x_any (fun F8 => ?_)
  refine x_z h (by omega) (by omega) (fun M9 h ho hz => ?_)
  refine x_any (fun F10 => ?_)
  refine x_z h (by omega) (by omega) (fun M11 h ho hz => ?_)
  refine x_any (fun F12 => ?_)
  refine x_z h (by omega) (by omega) (fun M13 h ho hz => ?_)
  refine x_any (fun F14 => ?_)
  refine x_z h (by omega) (by omega) (fun M15 h ho hz => ?_)
  refine x_any (fun F16 => ?_)
  refine x_z h (by omega) (by omega) (fun M17 h ho hz => ?_)
  refine x_any (fun F18 => ?_)
  refine x_z h (by omega) (by omega) (fun M19 h ho hz => ?_)
  refine x_any (fun F20 => ?_)
  refine x_any (fun L21 => ?_)
  refine x_any (fun F22 => ?_)
  refine x_any (fun L23 => ?_)
  refine x_any (fun F24 => ?_)
  refine x_z h (by omega) (by omega) (fun M25 h ho hz => ?_)
  refine x_any (fun F26 => ?_)
  refine x_z h (by omega) (by omega) (fun M27 h ho hz => ?_)
  refine x_any (fun F28 => ?_)
  refine x_z h (by omega) (by omega) (fun M29 h ho hz => ?_)
  refine x_any (fun F30 => ?_)
  refine x_z h (by omega) (by omega) (fun M31 h ho hz => ?_)
  refine x_any (fun F32 => ?_)
  refine x_z h (by omega) (by omega) (fun M33 h ho hz => ?_)
  refine x_any (fun F34 => ?_)
  refine x_z h (by omega) (by omega) (fun M35 h ho hz => ?_)
  refine x_any (fun F36 => ?_)
  refine x_z h (by omega) (by omega) (fun M37 h ho hz => ?_)
  refine x_any (fun F38 => ?_)
  refine x_any (fun L39 => ?_)
  refine x_any (fun F40 => ?_)
  refine x_z h (by omega) (by omega) (fun M41 h ho hz => ?_)
  refine x_any (fun F42 => ?_)
  refine x_z h (by omega) (by omega) (fun M43 h ho hz => ?_)
  refine x_any (fun F44 => ?_)
  refine x_z h (by omega) (by omega) (fun M45 h ho hz => ?_)
  refine x_any (fun F46 => ?_)
  refine x_z h (by omega) (by omega) (fun M47 h ho hz => ?_)
  refine x_any (fun F48 => ?_)
  refine x_z h (by omega) (by omega) (fun M49 h ho hz => ?_)
  refine x_any (fun F50 => ?_)
  refine x_z h (by omega) (by omega) (fun M51 h ho hz => ?_)
  refine x_any (fun F52 => ?_)
  refine x_z h (by omega) (by omega) (fun M53 h ho hz => ?_)
  refine x_any (fun F54 => ?_)
  refine x_any (fun L55 => ?_)
  refine x_any (fun F56 => ?_)
  refine x_z h (by omega) (by omega) (fun M57 h ho hz => ?_)
  refine x_any (fun F58 => ?_)
  refine x_z h (by omega) (by omega) (fun M59 h ho hz => ?_)
  refine x_any (fun F60 => ?_)
  refine x_set h (by omega) (by decide) (fun M61 h ho => ?_)
  refine x_z h (by omega) (by omega) (fun M62 h ho hz => ?_)
  refine x_any (fun F63 => ?_)
  refine x_z h (by omega) (by omega) (fun M64 h ho hz => ?_)
  refine x_any (fun F65 => ?_)
  exact ⟨_, rfl, h⟩
set_option maxHeartbeats 4000000 in
set_option maxRecDepth 100000 in
theorem xX18_init (fu : Nat) (hfu : 300 ≤ fu) (F : mwF) (M : mwM) (L : mwL) : ∃ r, DX18_init fu F M L = some r ∧ kpq 902 921 [] M r.2.1 := by
  have h : kpq 902 921 [] M M := kpq.rf
  unfold DX18_init
  refine x_z h (by omega) (by omega) (fun M1 h ho hz => ?_)
  refine x_any (fun F2 => ?_)
  refine x_z h (by omega) (by omega) (fun M3 h ho hz => ?_)
  refine x_any (fun F4 => ?_)
  refine x_z h (by omega) (by omega) (fun M5 h ho hz => ?_)
  refine x_any (fun F6 => ?_)
  refine x_z h (by omega) (by omega) (fun M7 h ho hz => ?_)
  refine x_any (fun F8 => ?_)
  refine x_z h (by omega) (by omega) (fun M9 h ho hz => ?_)
  refine x_any (fun F10 => ?_)
  refine x_z h (by omega) (by omega) (fun M11 h ho hz => ?_)
  refine x_any (fun F12 => ?_)
  refine x_z h (by omega) (by omega) (fun M13 h ho hz => ?_)
  refine x_any (fun F14 => ?_)
  refine x_z h (by omega) (by omega) (fun M15 h ho hz => ?_)
  refine x_any (fun F16 => ?_)
  refine x_z h (by omega) (by omega) (fun M17 h ho hz => ?_)
  refine x_any (fun F18 => ?_)
  refine x_z h (by omega) (by omega) (fun M19 h ho hz => ?_)
  refine x_any (fun F20 => ?_)
  refine x_z h (by omega) (by omega) (fun M21 h ho hz => ?_)
  refine x_any (fun F22 => ?_)
  refine x_z h (by omega) (by omega) (fun M23 h ho hz => ?_)
  refine x_any (fun F24 => ?_)
  refine x_z h (by omega) (by omega) (fun M25 h ho hz => ?_)
  refine x_any (fun F26 => ?_)
  refine x_z h (by omega) (by omega) (fun M27 h ho hz => ?_)
  refine x_any (fun F28 => ?_)
  refine x_z h (by omega) (by omega) (fun M29 h ho hz => ?_)
  refine x_any (fun F30 => ?_)
  refine x_z h (by omega) (by omega) (fun M31 h ho hz => ?_)
  refine x_any (fun F32 => ?_)
  refine x_z h (by omega) (by omega) (fun M33 h ho hz => ?_)
  refine x_any (fun F34 => ?_)
  refine x_z h (by omega) (by omega) (fun M35 h ho hz => ?_)
  refine x_any (fun F36 => ?_)
  exact ⟨_, rfl, h⟩
set_option maxHeartbeats 4000000 in
set_option maxRecDepth 100000 in
theorem xX16_init (fu : Nat) (hfu : 300 ≤ fu) (k : Nat) (F : mwF) (M : mwM) (L : mwL) : ∃ r, DX16_init fu k F M L = some r ∧ kpq k (k + 23) [] M r.2.1 := by
  have h : kpq k (k + 23) [] M M := kpq.rf
  unfold DX16_init
  refine x_z h (by omega) (by omega) (fun M1 h ho hz => ?_)
  refine x_any (fun F2 => ?_)
  refine x_z h (by omega) (by omega) (fun M3 h ho hz => ?_)
  refine x_any (fun F4 => ?_)
  refine x_z h (by omega) (by omega) (fun M5 h ho hz => ?_)
  refine x_any (fun F6 => ?_)
  refine x_z h (by omega) (by omega) (fun M7 h ho hz => ?_)
  refine x_any (fun F8 => ?_)
  refine x_z h (by omega) (by omega) (fun M9 h ho hz => ?_)
  refine x_any (fun F10 => ?_)
  refine x_z h (by omega) (by omega) (fun M11 h ho hz => ?_)
  refine x_any (fun F12 => ?_)
  refine x_z h (by omega) (by omega) (fun M13 h ho hz => ?_)
  refine x_any (fun F14 => ?_)
  refine x_z h (by omega) (by omega) (fun M15 h ho hz => ?_)
  refine x_any (fun F16 => ?_)
  refine x_z h (by omega) (by omega) (fun M17 h ho hz => ?_)
  refine x_any (fun F18 => ?_)
  refine x_z h (by omega) (by omega) (fun M19 h ho hz => ?_)
  refine x_any (fun F20 => ?_)
  refine x_z h (by omega) (by omega) (fun M21 h ho hz => ?_)
  refine x_any (fun F22 => ?_)
  refine x_z h (by omega) (by omega) (fun M23 h ho hz => ?_)
  refine x_any (fun F24 => ?_)
  refine x_z h (by omega) (by omega) (fun M25 h ho hz => ?_)
  refine x_any (fun F26 => ?_)
  refine x_z h (by omega) (by omega) (fun M27 h ho hz => ?_)
  refine x_any (fun F28 => ?_)
  refine x_z h (by omega) (by omega) (fun M29 h ho hz => ?_)
  refine x_any (fun F30 => ?_)
  refine x_z h (by omega) (by omega) (fun M31 h ho hz => ?_)
  refine x_any (fun F32 => ?_)
  refine x_z h (by omega) (by omega) (fun M33 h ho hz => ?_)
  refine x_any (fun F34 => ?_)
  refine x_z h (by omega) (by omega) (fun M35 h ho hz => ?_)
  refine x_any (fun F36 => ?_)
  refine x_z h (by omega) (by omega) (fun M37 h ho hz => ?_)
  refine x_any (fun F38 => ?_)
  refine x_z h (by omega) (by omega) (fun M39 h ho hz => ?_)
  refine x_any (fun F40 => ?_)
  refine x_z h (by omega) (by omega) (fun M41 h ho hz => ?_)
  refine x_any (fun F42 => ?_)
  refine x_z h (by omega) (by omega) (fun M43 h ho hz => ?_)
  refine x_any (fun F44 => ?_)
  exact ⟨_, rfl, h⟩
set_option maxHeartbeats 4000000 in
set_option maxRecDepth 100000 in
theorem xX13_init (fu : Nat) (hfu : 300 ≤ fu) (k : Nat) (F : mwF) (M : mwM) (L : mwL) : ∃ r, DX13_init fu k F M L = some r ∧ kpq k (k + 30) [] M r.2.1 := by
  have h : kpq k (k + 30) [] M M := kpq.rf
  unfold DX13_init
  refine x_z h (by omega) (by omega) (fun M1 h ho hz => ?_)
  refine x_any (fun F2 => ?_)
  refine x_z h (by omega) (by omega) (fun M3 h ho hz => ?_)
  refine x_any (fun F4 => ?_)
  refine x_z h (by omega) (by omega) (fun M5 h ho hz => ?_)
  refine x_any (fun F6 => ?_)
  refine x_z h (by omega) (by omega) (fun M7 h ho hz => ?_)
  refine x_any (fun F8 => ?_)
  refine x_any (fun L9 => ?_)
  refine x_any (fun F10 => ?_)
  refine x_any (fun L11 => ?_)
  refine x_any (fun F12 => ?_)
  refine x_z h (by omega) (by omega) (fun M13 h ho hz => ?_)
  refine x_any (fun F14 => ?_)
  refine x_z h (by omega) (by omega) (fun M15 h ho hz => ?_)
  refine x_any (fun F16 => ?_)
  refine x_z h (by omega) (by omega) (fun M17 h ho hz => ?_)
  refine x_any (fun F18 => ?_)
  refine x_z h (by omega) (by omega) (fun M19 h ho hz => ?_)
  refine x_any (fun F20 => ?_)
  refine x_z h (by omega) (by omega) (fun M21 h ho hz => ?_)
  refine x_any (fun F22 => ?_)
  refine x_z h (by omega) (by omega) (fun M23 h ho hz => ?_)
  refine x_any (fun F24 => ?_)
  refine x_z h (by omega) (by omega) (fun M25 h ho hz => ?_)
  refine x_any (fun F26 => ?_)
  refine x_z h (by omega) (by omega) (fun M27 h ho hz => ?_)
  refine x_any (fun F28 => ?_)
  refine x_z h (by omega) (by omega) (fun M29 h ho hz => ?_)
  refine x_any (fun F30 => ?_)
  refine x_z h (by omega) (by omega) (fun M31 h ho hz => ?_)
  refine x_any (fun F32 => ?_)
  refine x_z h (by omega) (by omega) (fun M33 h ho hz => ?_)
  refine x_any (fun F34 => ?_)
  refine x_z h (by omega) (by omega) (fun M35 h ho hz => ?_)
  refine x_any (fun F36 => ?_)
  refine x_z h (by omega) (by omega) (fun M37 h ho hz => ?_)
  refine x_any (fun F38 => ?_)
  refine x_any (fun L39 => ?_)
  refine x_any (fun F40 => ?_)
  refine x_any (fun L41 => ?_)
  refine x_any (fun F42 => ?_)
  refine x_z h (by omega) (by omega) (fun M43 h ho hz => ?_)
  refine x_any (fun F44 => ?_)
  refine x_z h (by omega) (by omega) (fun M45 h ho hz => ?_)
  refine x_any (fun F46 => ?_)
  refine x_z h (by omega) (by omega) (fun M47 h ho hz => ?_)
  refine x_any (fun F48 => ?_)
  refine x_z h (by omega) (by omega) (fun M49 h ho hz => ?_)
  refine x_any (fun F50 => ?_)
  refine x_z h (by omega) (by omega) (fun M51 h ho hz => ?_)
  refine x_any (fun F52 => ?_)
  refine x_z h (by omega) (by omega) (fun M53 h ho hz => ?_)
  refine x_any (fun F54 => ?_)
  refine x_z h (by omega) (by omega) (fun M55 h ho hz => ?_)
  refine x_any (fun F56 => ?_)
  refine x_z h (by omega) (by omega) (fun M57 h ho hz => ?_)
  refine x_any (fun F58 => ?_)
  exact ⟨_, rfl, h⟩
set_option maxHeartbeats 4000000 in
set_option maxRecDepth 100000 in
theorem xX19_init (fu : Nat) (hfu : 300 ≤ fu) (F : mwF) (M : mwM) (L : mwL) : ∃ r, DX19_init fu F M L = some r ∧ kpq 732 1577 [97] M r.2.1 := by
  have h : kpq 732 1577 [97] M M := kpq.rf
  unfold DX19_init DX19_s2 DX19_s3 DX19_s4 DX19_s5 DX19_s6 DX19_s7
  refine x_z h (by omega) (by omega) (fun M1 h ho hz => ?_)
  refine x_any (fun F2 => ?_)
  refine x_z h (by omega) (by omega) (fun M3 h ho hz => ?_)
  refine x_any (fun F4 => ?_)
  refine x_z h (by omega) (by omega) (fun M5 h ho hz => ?_)
  refine x_any (fun F6 => ?_)
  refine x_z h (by omega) (by omega) (fun M7 h ho hz => ?_)
  refine x_any (fun F8 => ?_)
  refine x_z h (by omega) (by omega) (fun M9 h ho hz => ?_)
  refine x_any (fun F10 => ?_)
  refine x_z h (by omega) (by omega) (fun M11 h ho hz => ?_)
  refine x_any (fun F12 => ?_)
  refine x_z h (by omega) (by omega) (fun M13 h ho hz => ?_)
  refine x_any (fun F14 => ?_)
  refine x_z h (by omega) (by omega) (fun M15 h ho hz => ?_)
  refine x_any (fun F16 => ?_)
  refine x_z h (by omega) (by omega) (fun M17 h ho hz => ?_)
  refine x_any (fun F18 => ?_)
  refine x_z h (by omega) (by omega) (fun M19 h ho hz => ?_)
  refine x_any (fun F20 => ?_)
  refine x_z h (by omega) (by omega) (fun M21 h ho hz => ?_)
  refine x_any (fun F22 => ?_)
  refine x_z h (by omega) (by omega) (fun M23 h ho hz => ?_)
  refine x_any (fun F24 => ?_)
  refine x_z h (by omega) (by omega) (fun M25 h ho hz => ?_)
  refine x_any (fun F26 => ?_)
  refine x_z h (by omega) (by omega) (fun M27 h ho hz => ?_)
  refine x_any (fun F28 => ?_)
  refine x_z h (by omega) (by omega) (fun M29 h ho hz => ?_)
  refine x_any (fun F30 => ?_)
  refine x_z h (by omega) (by omega) (fun M31 h ho hz => ?_)
  refine x_any (fun F32 => ?_)
  refine x_z h (by omega) (by omega) (fun M33 h ho hz => ?_)
  refine x_any (fun F34 => ?_)
  refine x_z h (by omega) (by omega) (fun M35 h ho hz => ?_)
  refine x_any (fun F36 => ?_)
  refine x_z h (by omega) (by omega) (fun M37 h ho hz => ?_)
  refine x_any (fun F38 => ?_)
  refine x_z h (by omega) (by omega) (fun M39 h ho hz => ?_)
  refine x_any (fun F40 => ?_)
  refine x_z h (by omega) (by omega) (fun M41 h ho hz => ?_)
  refine x_any (fun F42 => ?_)
  refine x_z h (by omega) (by omega) (fun M43 h ho hz => ?_)
  refine x_any (fun F44 => ?_)
  refine x_z h (by omega) (by omega) (fun M45 h ho hz => ?_)
  refine x_any (fun F46 => ?_)
  refine x_z h (by omega) (by omega) (fun M47 h ho hz => ?_)
  refine x_any (fun F48 => ?_)
  refine x_z h (by omega) (by omega) (fun M49 h ho hz => ?_)
  refine x_any (fun F50 => ?_)
  refine x_z h (by omega) (by omega) (fun M51 h ho hz => ?_)
  refine x_any (fun F52 => ?_)
  refine x_z h (by omega) (by omega) (fun M53 h ho hz => ?_)
  refine x_any (fun F54 => ?_)
  refine x_z h (by omega) (by omega) (fun M55 h ho hz => ?_)
  refine x_any (fun F56 => ?_)
  refine x_z h (by omega) (by omega) (fun M57 h ho hz => ?_)
  refine x_any (fun F58 => ?_)
  refine x_z h (by omega) (by omega) (fun M59 h ho hz => ?_)
  refine x_any (fun F60 => ?_)
  refine x_z h (by omega) (by omega) (fun M61 h ho hz => ?_)
  refine x_any (fun F62 => ?_)
  refine x_z h (by omega) (by omega) (fun M63 h ho hz => ?_)
  refine x_any (fun F64 => ?_)
  refine x_z h (by omega) (by omega) (fun M65 h ho hz => ?_)
  refine x_any (fun F66 => ?_)
  refine x_z h (by omega) (by omega) (fun M67 h ho hz => ?_)
  refine x_any (fun F68 => ?_)
  refine x_z h (by omega) (by omega) (fun M69 h ho hz => ?_)
  refine x_any (fun F70 => ?_)
  refine x_z h (by omega) (by omega) (fun M71 h ho hz => ?_)
  refine x_any (fun F72 => ?_)
  refine x_z h (by omega) (by omega) (fun M73 h ho hz => ?_)
  refine x_any (fun F74 => ?_)
  refine x_z h (by omega) (by omega) (fun M75 h ho hz => ?_)
  refine x_any (fun F76 => ?_)
  refine x_z h (by omega) (by omega) (fun M77 h ho hz => ?_)
  refine x_any (fun F78 => ?_)
  refine x_z h (by omega) (by omega) (fun M79 h ho hz => ?_)
  refine x_any (fun F80 => ?_)
  refine x_z h (by omega) (by omega) (fun M81 h ho hz => ?_)
  refine x_any (fun F82 => ?_)
  refine x_any (fun L83 => ?_)
  refine x_any (fun F84 => ?_)
  refine x_z h (by omega) (by omega) (fun M85 h ho hz => ?_)
  refine x_any (fun F86 => ?_)
  refine x_z h (by omega) (by omega) (fun M87 h ho hz => ?_)
  refine x_any (fun F88 => ?_)
  refine x_z h (by omega) (by omega) (fun M89 h ho hz => ?_)
  refine x_any (fun F90 => ?_)
  refine x_any (fun L91 => ?_)
  refine x_any (fun F92 => ?_)
  refine x_z h (by omega) (by omega) (fun M93 h ho hz => ?_)
  refine x_any (fun F94 => ?_)
  refine x_z h (by omega) (by omega) (fun M95 h ho hz => ?_)
  refine x_any (fun F96 => ?_)
  refine x_z h (by omega) (by omega) (fun M97 h ho hz => ?_)
  refine x_any (fun F98 => ?_)
  refine x_z h (by omega) (by omega) (fun M99 h ho hz => ?_)
  refine x_any (fun F100 => ?_)
  refine x_z h (by omega) (by omega) (fun M101 h ho hz => ?_)
  refine x_any (fun F102 => ?_)
  refine x_z h (by omega) (by omega) (fun M103 h ho hz => ?_)
  refine x_any (fun F104 => ?_)
  refine x_z h (by omega) (by omega) (fun M105 h ho hz => ?_)
  refine x_any (fun F106 => ?_)
  refine x_any (fun L107 => ?_)
  refine x_any (fun F108 => ?_)
  refine x_any (fun F109 => ?_)
  refine x_z h (by omega) (by omega) (fun M110 h ho hz => ?_)
  refine x_any (fun L111 => ?_)
  obtain ⟨⟨F112, M113, L114⟩, e, hk⟩ := xX15_init fu hfu F109 M110 L111
  rw [e, mb3_s]
  replace h := h.call hk (by omega) (by omega)
  refine x_any (fun F115 => ?_)
  refine x_any (fun F116 => ?_)
  refine x_z h (by omega) (by omega) (fun M117 h ho hz => ?_)
  refine x_any (fun L118 => ?_)
  obtain ⟨⟨F119, M120, L121⟩, e, hk⟩ := xX12_init fu hfu F116 M117 L118
  rw [e, mb3_s]
  replace h := h.call hk (by omega) (by omega)
  refine x_any (fun F122 => ?_)
  refine x_any (fun F123 => ?_)
  refine x_z h (by omega) (by omega) (fun M124 h ho hz => ?_)
  have hX : (∀ j, M124 854 j = 0) := hz
  refine x_any (fun L125 => ?_)
  obtain ⟨⟨F126, M127, L128⟩, e, hk⟩ := xX14_init fu hfu F123 M124 L125
  rw [e, mb3_s]
  obtain ⟨hk, hk6⟩ := hk
  replace hX : M127 854 1 = 0 ∧ ∀ j, M127 856 j = 0 := ⟨(hk 854 1 (by decide)).trans (hX 1), hk6⟩
  replace h := h.call hk (by omega) (by omega)
  refine x_any (fun F129 => ?_)
  refine x_any (fun F130 => ?_)
  refine x_z h (by omega) (by omega) (fun M131 h ho hz => ?_)
  replace hX : M131 854 1 = 0 ∧ ∀ j, M131 856 j = 0 := ⟨(congrFun (ho 854 (by decide)) 1).trans hX.1, fun j => (congrFun (ho 856 (by decide)) j).trans (hX.2 j)⟩
  refine x_any (fun L132 => ?_)
  obtain ⟨⟨F133, M134, L135⟩, e, hk⟩ := xX17_init fu hfu F130 M131 L132
  rw [e, mb3_s]
  replace hX : M134 854 1 = 0 ∧ ∀ j, M134 856 j = 0 := ⟨(congrFun (hk.out (a := 854) (by omega)) 1).trans hX.1, fun j => (congrFun (hk.out (a := 856) (by omega)) j).trans (hX.2 j)⟩
  replace h := h.call hk (by omega) (by omega)
  refine x_any (fun F136 => ?_)
  refine x_any (fun F137 => ?_)
  refine x_z h (by omega) (by omega) (fun M138 h ho hz => ?_)
  replace hX : M138 854 1 = 0 ∧ ∀ j, M138 856 j = 0 := ⟨(congrFun (ho 854 (by decide)) 1).trans hX.1, fun j => (congrFun (ho 856 (by decide)) j).trans (hX.2 j)⟩
  refine x_any (fun L139 => ?_)
  obtain ⟨⟨F140, M141, L142⟩, e, hk⟩ := xX18_init fu hfu F137 M138 L139
  rw [e, mb3_s]
  replace hX : M141 854 1 = 0 ∧ ∀ j, M141 856 j = 0 := ⟨(congrFun (hk.out (a := 854) (by omega)) 1).trans hX.1, fun j => (congrFun (hk.out (a := 856) (by omega)) j).trans (hX.2 j)⟩
  replace h := h.call hk (by omega) (by omega)
  refine x_any (fun F143 => ?_)
  refine x_any (fun F144 => ?_)
  refine x_any (fun F145 => ?_)
  refine x_any (fun F146 => ?_)
  refine x_any (fun F147 => ?_)
  refine x_z h (by omega) (by omega) (fun M148 h ho hz => ?_)
  replace hX : M148 854 1 = 0 ∧ ∀ j, M148 856 j = 0 := ⟨(congrFun (ho 854 (by decide)) 1).trans hX.1, fun j => (congrFun (ho 856 (by decide)) j).trans (hX.2 j)⟩
  refine x_any (fun F149 => ?_)
  refine x_z h (by omega) (by omega) (fun M150 h ho hz => ?_)
  replace hX : M150 854 1 = 0 ∧ ∀ j, M150 856 j = 0 := ⟨(congrFun (ho 854 (by decide)) 1).trans hX.1, fun j => (congrFun (ho 856 (by decide)) j).trans (hX.2 j)⟩
  refine x_any (fun F151 => ?_)
  refine x_any (fun L152 => ?_)
  refine x_any (fun F153 => ?_)
  refine x_z h (by omega) (by omega) (fun M154 h ho hz => ?_)
  replace hX : M154 854 1 = 0 ∧ ∀ j, M154 856 j = 0 := ⟨(congrFun (ho 854 (by decide)) 1).trans hX.1, fun j => (congrFun (ho 856 (by decide)) j).trans (hX.2 j)⟩
  refine x_any (fun F155 => ?_)
  refine x_z h (by omega) (by omega) (fun M156 h ho hz => ?_)
  replace hX : M156 854 1 = 0 ∧ ∀ j, M156 856 j = 0 := ⟨(congrFun (ho 854 (by decide)) 1).trans hX.1, fun j => (congrFun (ho 856 (by decide)) j).trans (hX.2 j)⟩
  refine x_any (fun F157 => ?_)
  refine x_z h (by omega) (by omega) (fun M158 h ho hz => ?_)
  replace hX : M158 854 1 = 0 ∧ ∀ j, M158 856 j = 0 := ⟨(congrFun (ho 854 (by decide)) 1).trans hX.1, fun j => (congrFun (ho 856 (by decide)) j).trans (hX.2 j)⟩
  refine x_any (fun F159 => ?_)
  refine x_z h (by omega) (by omega) (fun M160 h ho hz => ?_)
  replace hX : M160 854 1 = 0 ∧ ∀ j, M160 856 j = 0 := ⟨(congrFun (ho 854 (by decide)) 1).trans hX.1, fun j => (congrFun (ho 856 (by decide)) j).trans (hX.2 j)⟩
  refine x_any (fun F161 => ?_)
  refine x_z h (by omega) (by omega) (fun M162 h ho hz => ?_)
  replace hX : M162 854 1 = 0 ∧ ∀ j, M162 856 j = 0 := ⟨(congrFun (ho 854 (by decide)) 1).trans hX.1, fun j => (congrFun (ho 856 (by decide)) j).trans (hX.2 j)⟩
  refine x_any (fun F163 => ?_)
  refine x_set h (by omega) (by decide) (fun M164 h ho => ?_)
  replace hX : M164 854 1 = 0 ∧ ∀ j, M164 856 j = 0 := ⟨(congrFun (ho 854 (by decide)) 1).trans hX.1, fun j => (congrFun (ho 856 (by decide)) j).trans (hX.2 j)⟩
  refine x_z h (by omega) (by omega) (fun M165 h ho hz => ?_)
  replace hX : M165 854 1 = 0 ∧ ∀ j, M165 856 j = 0 := ⟨(congrFun (ho 854 (by decide)) 1).trans hX.1, fun j => (congrFun (ho 856 (by decide)) j).trans (hX.2 j)⟩
  refine x_any (fun F166 => ?_)
  refine x_z h (by omega) (by omega) (fun M167 h ho hz => ?_)
  replace hX : M167 854 1 = 0 ∧ ∀ j, M167 856 j = 0 := ⟨(congrFun (ho 854 (by decide)) 1).trans hX.1, fun j => (congrFun (ho 856 (by decide)) j).trans (hX.2 j)⟩
  refine x_any (fun F168 => ?_)
  refine x_z h (by omega) (by omega) (fun M169 h ho hz => ?_)
  replace hX : M169 854 1 = 0 ∧ ∀ j, M169 856 j = 0 := ⟨(congrFun (ho 854 (by decide)) 1).trans hX.1, fun j => (congrFun (ho 856 (by decide)) j).trans (hX.2 j)⟩
  refine x_any (fun F170 => ?_)
  refine x_z h (by omega) (by omega) (fun M171 h ho hz => ?_)
  replace hX : M171 854 1 = 0 ∧ ∀ j, M171 856 j = 0 := ⟨(congrFun (ho 854 (by decide)) 1).trans hX.1, fun j => (congrFun (ho 856 (by decide)) j).trans (hX.2 j)⟩
  refine x_any (fun F172 => ?_)
  refine x_z h (by omega) (by omega) (fun M173 h ho hz => ?_)
  replace hX : M173 854 1 = 0 ∧ ∀ j, M173 856 j = 0 := ⟨(congrFun (ho 854 (by decide)) 1).trans hX.1, fun j => (congrFun (ho 856 (by decide)) j).trans (hX.2 j)⟩
  refine x_any (fun F174 => ?_)
  refine x_z h (by omega) (by omega) (fun M175 h ho hz => ?_)
  replace hX : M175 854 1 = 0 ∧ ∀ j, M175 856 j = 0 := ⟨(congrFun (ho 854 (by decide)) 1).trans hX.1, fun j => (congrFun (ho 856 (by decide)) j).trans (hX.2 j)⟩
  refine x_any (fun F176 => ?_)
  refine x_z h (by omega) (by omega) (fun M177 h ho hz => ?_)
  replace hX : M177 854 1 = 0 ∧ ∀ j, M177 856 j = 0 := ⟨(congrFun (ho 854 (by decide)) 1).trans hX.1, fun j => (congrFun (ho 856 (by decide)) j).trans (hX.2 j)⟩
  refine x_any (fun F178 => ?_)
  refine x_z h (by omega) (by omega) (fun M179 h ho hz => ?_)
  replace hX : M179 854 1 = 0 ∧ ∀ j, M179 856 j = 0 := ⟨(congrFun (ho 854 (by decide)) 1).trans hX.1, fun j => (congrFun (ho 856 (by decide)) j).trans (hX.2 j)⟩
  refine x_any (fun F180 => ?_)
  refine x_z h (by omega) (by omega) (fun M181 h ho hz => ?_)
  replace hX : M181 854 1 = 0 ∧ ∀ j, M181 856 j = 0 := ⟨(congrFun (ho 854 (by decide)) 1).trans hX.1, fun j => (congrFun (ho 856 (by decide)) j).trans (hX.2 j)⟩
  refine x_any (fun F182 => ?_)
  refine x_z h (by omega) (by omega) (fun M183 h ho hz => ?_)
  replace hX : M183 854 1 = 0 ∧ ∀ j, M183 856 j = 0 := ⟨(congrFun (ho 854 (by decide)) 1).trans hX.1, fun j => (congrFun (ho 856 (by decide)) j).trans (hX.2 j)⟩
  refine x_any (fun F184 => ?_)
  refine x_any (fun F185 => ?_)
  refine x_z h (by omega) (by omega) (fun M186 h ho hz => ?_)
  replace hX : M186 854 1 = 0 ∧ ∀ j, M186 856 j = 0 := ⟨(congrFun (ho 854 (by decide)) 1).trans hX.1, fun j => (congrFun (ho 856 (by decide)) j).trans (hX.2 j)⟩
  refine x_any (fun L187 => ?_)
  obtain ⟨⟨F188, M189, L190⟩, e, hk⟩ := xX16_init fu hfu 941 F185 M186 L187
  rw [e, mb3_s]
  replace hX : M189 854 1 = 0 ∧ ∀ j, M189 856 j = 0 := ⟨(congrFun (hk.out (a := 854) (by omega)) 1).trans hX.1, fun j => (congrFun (hk.out (a := 856) (by omega)) j).trans (hX.2 j)⟩
  replace h := h.call hk (by omega) (by omega)
  refine x_any (fun F191 => ?_)
  refine x_any (fun F192 => ?_)
  refine x_z h (by omega) (by omega) (fun M193 h ho hz => ?_)
  replace hX : M193 854 1 = 0 ∧ ∀ j, M193 856 j = 0 := ⟨(congrFun (ho 854 (by decide)) 1).trans hX.1, fun j => (congrFun (ho 856 (by decide)) j).trans (hX.2 j)⟩
  refine x_any (fun L194 => ?_)
  obtain ⟨⟨F195, M196, L197⟩, e, hk⟩ := xX13_init fu hfu 964 F192 M193 L194
  rw [e, mb3_s]
  replace hX : M196 854 1 = 0 ∧ ∀ j, M196 856 j = 0 := ⟨(congrFun (hk.out (a := 854) (by omega)) 1).trans hX.1, fun j => (congrFun (hk.out (a := 856) (by omega)) j).trans (hX.2 j)⟩
  replace h := h.call hk (by omega) (by omega)
  refine x_any (fun F198 => ?_)
  refine x_any (fun F199 => ?_)
  refine x_z h (by omega) (by omega) (fun M200 h ho hz => ?_)
  replace hX : M200 854 1 = 0 ∧ ∀ j, M200 856 j = 0 := ⟨(congrFun (ho 854 (by decide)) 1).trans hX.1, fun j => (congrFun (ho 856 (by decide)) j).trans (hX.2 j)⟩
  refine x_any (fun L201 => ?_)
  obtain ⟨⟨F202, M203, L204⟩, e, hk⟩ := xX16_init fu hfu 994 F199 M200 L201
  rw [e, mb3_s]
  replace hX : M203 854 1 = 0 ∧ ∀ j, M203 856 j = 0 := ⟨(congrFun (hk.out (a := 854) (by omega)) 1).trans hX.1, fun j => (congrFun (hk.out (a := 856) (by omega)) j).trans (hX.2 j)⟩
  replace h := h.call hk (by omega) (by omega)
  refine x_any (fun F205 => ?_)
  refine x_any (fun F206 => ?_)
  refine x_z h (by omega) (by omega) (fun M207 h ho hz => ?_)
  replace hX : M207 854 1 = 0 ∧ ∀ j, M207 856 j = 0 := ⟨(congrFun (ho 854 (by decide)) 1).trans hX.1, fun j => (congrFun (ho 856 (by decide)) j).trans (hX.2 j)⟩
  refine x_any (fun L208 => ?_)
  obtain ⟨⟨F209, M210, L211⟩, e, hk⟩ := xX13_init fu hfu 1017 F206 M207 L208
  rw [e, mb3_s]
  replace hX : M210 854 1 = 0 ∧ ∀ j, M210 856 j = 0 := ⟨(congrFun (hk.out (a := 854) (by omega)) 1).trans hX.1, fun j => (congrFun (hk.out (a := 856) (by omega)) j).trans (hX.2 j)⟩
  replace h := h.call hk (by omega) (by omega)
  refine x_any (fun F212 => ?_)
  refine x_any (fun F213 => ?_)
  refine x_z h (by omega) (by omega) (fun M214 h ho hz => ?_)
  replace hX : M214 854 1 = 0 ∧ ∀ j, M214 856 j = 0 := ⟨(congrFun (ho 854 (by decide)) 1).trans hX.1, fun j => (congrFun (ho 856 (by decide)) j).trans (hX.2 j)⟩
  refine x_any (fun L215 => ?_)
  obtain ⟨⟨F216, M217, L218⟩, e, hk⟩ := xX16_init fu hfu 1047 F213 M214 L215
  rw [e, mb3_s]
  replace hX : M217 854 1 = 0 ∧ ∀ j, M217 856 j = 0 := ⟨(congrFun (hk.out (a := 854) (by omega)) 1).trans hX.1, fun j => (congrFun (hk.out (a := 856) (by omega)) j).trans (hX.2 j)⟩
  replace h := h.call hk (by omega) (by omega)
  refine x_any (fun F219 => ?_)
  refine x_any (fun F220 => ?_)
  refine x_z h (by omega) (by omega) (fun M221 h ho hz => ?_)
  replace hX : M221 854 1 = 0 ∧ ∀ j, M221 856 j = 0 := ⟨(congrFun (ho 854 (by decide)) 1).trans hX.1, fun j => (congrFun (ho 856 (by decide)) j).trans (hX.2 j)⟩
  refine x_any (fun L222 => ?_)
  obtain ⟨⟨F223, M224, L225⟩, e, hk⟩ := xX13_init fu hfu 1070 F220 M221 L222
  rw [e, mb3_s]
  replace hX : M224 854 1 = 0 ∧ ∀ j, M224 856 j = 0 := ⟨(congrFun (hk.out (a := 854) (by omega)) 1).trans hX.1, fun j => (congrFun (hk.out (a := 856) (by omega)) j).trans (hX.2 j)⟩
  replace h := h.call hk (by omega) (by omega)
  refine x_any (fun F226 => ?_)
  refine x_any (fun F227 => ?_)
  refine x_z h (by omega) (by omega) (fun M228 h ho hz => ?_)
  replace hX : M228 854 1 = 0 ∧ ∀ j, M228 856 j = 0 := ⟨(congrFun (ho 854 (by decide)) 1).trans hX.1, fun j => (congrFun (ho 856 (by decide)) j).trans (hX.2 j)⟩
  refine x_any (fun L229 => ?_)
  obtain ⟨⟨F230, M231, L232⟩, e, hk⟩ := xX16_init fu hfu 1100 F227 M228 L229
  rw [e, mb3_s]
  replace hX : M231 854 1 = 0 ∧ ∀ j, M231 856 j = 0 := ⟨(congrFun (hk.out (a := 854) (by omega)) 1).trans hX.1, fun j => (congrFun (hk.out (a := 856) (by omega)) j).trans (hX.2 j)⟩
  replace h := h.call hk (by omega) (by omega)
  refine x_any (fun F233 => ?_)
  refine x_any (fun F234 => ?_)
  refine x_z h (by omega) (by omega) (fun M235 h ho hz => ?_)
  replace hX : M235 854 1 = 0 ∧ ∀ j, M235 856 j = 0 := ⟨(congrFun (ho 854 (by decide)) 1).trans hX.1, fun j => (congrFun (ho 856 (by decide)) j).trans (hX.2 j)⟩
  refine x_any (fun L236 => ?_)
  obtain ⟨⟨F237, M238, L239⟩, e, hk⟩ := xX13_init fu hfu 1123 F234 M235 L236
  rw [e, mb3_s]
  replace hX : M238 854 1 = 0 ∧ ∀ j, M238 856 j = 0 := ⟨(congrFun (hk.out (a := 854) (by omega)) 1).trans hX.1, fun j => (congrFun (hk.out (a := 856) (by omega)) j).trans (hX.2 j)⟩
  replace h := h.call hk (by omega) (by omega)
  refine x_any (fun F240 => ?_)
  refine x_any (fun F241 => ?_)
  refine x_z h (by omega) (by omega) (fun M242 h ho hz => ?_)
  replace hX : M242 854 1 = 0 ∧ ∀ j, M242 856 j = 0 := ⟨(congrFun (ho 854 (by decide)) 1).trans hX.1, fun j => (congrFun (ho 856 (by decide)) j).trans (hX.2 j)⟩
  refine x_any (fun L243 => ?_)
  obtain ⟨⟨F244, M245, L246⟩, e, hk⟩ := xX16_init fu hfu 1153 F241 M242 L243
  rw [e, mb3_s]
  replace hX : M245 854 1 = 0 ∧ ∀ j, M245 856 j = 0 := ⟨(congrFun (hk.out (a := 854) (by omega)) 1).trans hX.1, fun j => (congrFun (hk.out (a := 856) (by omega)) j).trans (hX.2 j)⟩
  replace h := h.call hk (by omega) (by omega)
  refine x_any (fun F247 => ?_)
  refine x_any (fun F248 => ?_)
  refine x_z h (by omega) (by omega) (fun M249 h ho hz => ?_)
  replace hX : M249 854 1 = 0 ∧ ∀ j, M249 856 j = 0 := ⟨(congrFun (ho 854 (by decide)) 1).trans hX.1, fun j => (congrFun (ho 856 (by decide)) j).trans (hX.2 j)⟩
  refine x_any (fun L250 => ?_)
  obtain ⟨⟨F251, M252, L253⟩, e, hk⟩ := xX13_init fu hfu 1176 F248 M249 L250
  rw [e, mb3_s]
  replace hX : M252 854 1 = 0 ∧ ∀ j, M252 856 j = 0 := ⟨(congrFun (hk.out (a := 854) (by omega)) 1).trans hX.1, fun j => (congrFun (hk.out (a := 856) (by omega)) j).trans (hX.2 j)⟩
  replace h := h.call hk (by omega) (by omega)
  refine x_any (fun F254 => ?_)
  refine x_any (fun F255 => ?_)
  refine x_z h (by omega) (by omega) (fun M256 h ho hz => ?_)
  replace hX : M256 854 1 = 0 ∧ ∀ j, M256 856 j = 0 := ⟨(congrFun (ho 854 (by decide)) 1).trans hX.1, fun j => (congrFun (ho 856 (by decide)) j).trans (hX.2 j)⟩
  refine x_any (fun L257 => ?_)
  obtain ⟨⟨F258, M259, L260⟩, e, hk⟩ := xX16_init fu hfu 1206 F255 M256 L257
  rw [e, mb3_s]
  replace hX : M259 854 1 = 0 ∧ ∀ j, M259 856 j = 0 := ⟨(congrFun (hk.out (a := 854) (by omega)) 1).trans hX.1, fun j => (congrFun (hk.out (a := 856) (by omega)) j).trans (hX.2 j)⟩
  replace h := h.call hk (by omega) (by omega)
  refine x_any (fun F261 => ?_)
  refine x_any (fun F262 => ?_)
  refine x_z h (by omega) (by omega) (fun M263 h ho hz => ?_)
  replace hX : M263 854 1 = 0 ∧ ∀ j, M263 856 j = 0 := ⟨(congrFun (ho 854 (by decide)) 1).trans hX.1, fun j => (congrFun (ho 856 (by decide)) j).trans (hX.2 j)⟩
  refine x_any (fun L264 => ?_)
  obtain ⟨⟨F265, M266, L267⟩, e, hk⟩ := xX13_init fu hfu 1229 F262 M263 L264
  rw [e, mb3_s]
  replace hX : M266 854 1 = 0 ∧ ∀ j, M266 856 j = 0 := ⟨(congrFun (hk.out (a := 854) (by omega)) 1).trans hX.1, fun j => (congrFun (hk.out (a := 856) (by omega)) j).trans (hX.2 j)⟩
  replace h := h.call hk (by omega) (by omega)
  refine x_any (fun F268 => ?_)
  refine x_any (fun F269 => ?_)
  refine x_z h (by omega) (by omega) (fun M270 h ho hz => ?_)
  replace hX : M270 854 1 = 0 ∧ ∀ j, M270 856 j = 0 := ⟨(congrFun (ho 854 (by decide)) 1).trans hX.1, fun j => (congrFun (ho 856 (by decide)) j).trans (hX.2 j)⟩
  refine x_any (fun L271 => ?_)
  obtain ⟨⟨F272, M273, L274⟩, e, hk⟩ := xX16_init fu hfu 1259 F269 M270 L271
  rw [e, mb3_s]
  replace hX : M273 854 1 = 0 ∧ ∀ j, M273 856 j = 0 := ⟨(congrFun (hk.out (a := 854) (by omega)) 1).trans hX.1, fun j => (congrFun (hk.out (a := 856) (by omega)) j).trans (hX.2 j)⟩
  replace h := h.call hk (by omega) (by omega)
  refine x_any (fun F275 => ?_)
  refine x_any (fun F276 => ?_)
  refine x_z h (by omega) (by omega) (fun M277 h ho hz => ?_)
  replace hX : M277 854 1 = 0 ∧ ∀ j, M277 856 j = 0 := ⟨(congrFun (ho 854 (by decide)) 1).trans hX.1, fun j => (congrFun (ho 856 (by decide)) j).trans (hX.2 j)⟩
  refine x_any (fun L278 => ?_)
  obtain ⟨⟨F279, M280, L281⟩, e, hk⟩ := xX13_init fu hfu 1282 F276 M277 L278
  rw [e, mb3_s]
  replace hX : M280 854 1 = 0 ∧ ∀ j, M280 856 j = 0 := ⟨(congrFun (hk.out (a := 854) (by omega)) 1).trans hX.1, fun j => (congrFun (hk.out (a := 856) (by omega)) j).trans (hX.2 j)⟩
  replace h := h.call hk (by omega) (by omega)
  refine x_any (fun F282 => ?_)
  refine x_any (fun F283 => ?_)
  refine x_z h (by omega) (by omega) (fun M284 h ho hz => ?_)
  replace hX : M284 854 1 = 0 ∧ ∀ j, M284 856 j = 0 := ⟨(congrFun (ho 854 (by decide)) 1).trans hX.1, fun j => (congrFun (ho 856 (by decide)) j).trans (hX.2 j)⟩
  refine x_any (fun L285 => ?_)
  obtain ⟨⟨F286, M287, L288⟩, e, hk⟩ := xX16_init fu hfu 1312 F283 M284 L285
  rw [e, mb3_s]
  replace hX : M287 854 1 = 0 ∧ ∀ j, M287 856 j = 0 := ⟨(congrFun (hk.out (a := 854) (by omega)) 1).trans hX.1, fun j => (congrFun (hk.out (a := 856) (by omega)) j).trans (hX.2 j)⟩
  replace h := h.call hk (by omega) (by omega)
  refine x_any (fun F289 => ?_)
  refine x_any (fun F290 => ?_)
  refine x_z h (by omega) (by omega) (fun M291 h ho hz => ?_)
  replace hX : M291 854 1 = 0 ∧ ∀ j, M291 856 j = 0 := ⟨(congrFun (ho 854 (by decide)) 1).trans hX.1, fun j => (congrFun (ho 856 (by decide)) j).trans (hX.2 j)⟩
  refine x_any (fun L292 => ?_)
  obtain ⟨⟨F293, M294, L295⟩, e, hk⟩ := xX13_init fu hfu 1335 F290 M291 L292
  rw [e, mb3_s]
  replace hX : M294 854 1 = 0 ∧ ∀ j, M294 856 j = 0 := ⟨(congrFun (hk.out (a := 854) (by omega)) 1).trans hX.1, fun j => (congrFun (hk.out (a := 856) (by omega)) j).trans (hX.2 j)⟩
  replace h := h.call hk (by omega) (by omega)
  refine x_any (fun F296 => ?_)
  refine x_any (fun F297 => ?_)
  refine x_z h (by omega) (by omega) (fun M298 h ho hz => ?_)
  replace hX : M298 854 1 = 0 ∧ ∀ j, M298 856 j = 0 := ⟨(congrFun (ho 854 (by decide)) 1).trans hX.1, fun j => (congrFun (ho 856 (by decide)) j).trans (hX.2 j)⟩
  refine x_any (fun L299 => ?_)
  obtain ⟨⟨F300, M301, L302⟩, e, hk⟩ := xX16_init fu hfu 1365 F297 M298 L299
  rw [e, mb3_s]
  replace hX : M301 854 1 = 0 ∧ ∀ j, M301 856 j = 0 := ⟨(congrFun (hk.out (a := 854) (by omega)) 1).trans hX.1, fun j => (congrFun (hk.out (a := 856) (by omega)) j).trans (hX.2 j)⟩
  replace h := h.call hk (by omega) (by omega)
  refine x_any (fun F303 => ?_)
  refine x_any (fun F304 => ?_)
  refine x_z h (by omega) (by omega) (fun M305 h ho hz => ?_)
  replace hX : M305 854 1 = 0 ∧ ∀ j, M305 856 j = 0 := ⟨(congrFun (ho 854 (by decide)) 1).trans hX.1, fun j => (congrFun (ho 856 (by decide)) j).trans (hX.2 j)⟩
  refine x_any (fun L306 => ?_)
  obtain ⟨⟨F307, M308, L309⟩, e, hk⟩ := xX13_init fu hfu 1388 F304 M305 L306
  rw [e, mb3_s]
  replace hX : M308 854 1 = 0 ∧ ∀ j, M308 856 j = 0 := ⟨(congrFun (hk.out (a := 854) (by omega)) 1).trans hX.1, fun j => (congrFun (hk.out (a := 856) (by omega)) j).trans (hX.2 j)⟩
  replace h := h.call hk (by omega) (by omega)
  refine x_any (fun F310 => ?_)
  refine x_any (fun F311 => ?_)
  refine x_z h (by omega) (by omega) (fun M312 h ho hz => ?_)
  replace hX : M312 854 1 = 0 ∧ ∀ j, M312 856 j = 0 := ⟨(congrFun (ho 854 (by decide)) 1).trans hX.1, fun j => (congrFun (ho 856 (by decide)) j).trans (hX.2 j)⟩
  refine x_any (fun L313 => ?_)
  obtain ⟨⟨F314, M315, L316⟩, e, hk⟩ := xX16_init fu hfu 1418 F311 M312 L313
  rw [e, mb3_s]
  replace hX : M315 854 1 = 0 ∧ ∀ j, M315 856 j = 0 := ⟨(congrFun (hk.out (a := 854) (by omega)) 1).trans hX.1, fun j => (congrFun (hk.out (a := 856) (by omega)) j).trans (hX.2 j)⟩
  replace h := h.call hk (by omega) (by omega)
  refine x_any (fun F317 => ?_)
  refine x_any (fun F318 => ?_)
  refine x_z h (by omega) (by omega) (fun M319 h ho hz => ?_)
  replace hX : M319 854 1 = 0 ∧ ∀ j, M319 856 j = 0 := ⟨(congrFun (ho 854 (by decide)) 1).trans hX.1, fun j => (congrFun (ho 856 (by decide)) j).trans (hX.2 j)⟩
  refine x_any (fun L320 => ?_)
  obtain ⟨⟨F321, M322, L323⟩, e, hk⟩ := xX13_init fu hfu 1441 F318 M319 L320
  rw [e, mb3_s]
  replace hX : M322 854 1 = 0 ∧ ∀ j, M322 856 j = 0 := ⟨(congrFun (hk.out (a := 854) (by omega)) 1).trans hX.1, fun j => (congrFun (hk.out (a := 856) (by omega)) j).trans (hX.2 j)⟩
  replace h := h.call hk (by omega) (by omega)
  refine x_any (fun F324 => ?_)
  refine x_any (fun F325 => ?_)
  refine x_z h (by omega) (by omega) (fun M326 h ho hz => ?_)
  replace hX : M326 854 1 = 0 ∧ ∀ j, M326 856 j = 0 := ⟨(congrFun (ho 854 (by decide)) 1).trans hX.1, fun j => (congrFun (ho 856 (by decide)) j).trans (hX.2 j)⟩
  refine x_any (fun L327 => ?_)
  obtain ⟨⟨F328, M329, L330⟩, e, hk⟩ := xX16_init fu hfu 1471 F325 M326 L327
  rw [e, mb3_s]
  replace hX : M329 854 1 = 0 ∧ ∀ j, M329 856 j = 0 := ⟨(congrFun (hk.out (a := 854) (by omega)) 1).trans hX.1, fun j => (congrFun (hk.out (a := 856) (by omega)) j).trans (hX.2 j)⟩
  replace h := h.call hk (by omega) (by omega)
  refine x_any (fun F331 => ?_)
  refine x_any (fun F332 => ?_)
  refine x_z h (by omega) (by omega) (fun M333 h ho hz => ?_)
  replace hX : M333 854 1 = 0 ∧ ∀ j, M333 856 j = 0 := ⟨(congrFun (ho 854 (by decide)) 1).trans hX.1, fun j => (congrFun (ho 856 (by decide)) j).trans (hX.2 j)⟩
  refine x_any (fun L334 => ?_)
  obtain ⟨⟨F335, M336, L337⟩, e, hk⟩ := xX13_init fu hfu 1494 F332 M333 L334
  rw [e, mb3_s]
  replace hX : M336 854 1 = 0 ∧ ∀ j, M336 856 j = 0 := ⟨(congrFun (hk.out (a := 854) (by omega)) 1).trans hX.1, fun j => (congrFun (hk.out (a := 856) (by omega)) j).trans (hX.2 j)⟩
  replace h := h.call hk (by omega) (by omega)
  refine x_any (fun F338 => ?_)
  refine x_any (fun F339 => ?_)
  refine x_z h (by omega) (by omega) (fun M340 h ho hz => ?_)
  replace hX : M340 854 1 = 0 ∧ ∀ j, M340 856 j = 0 := ⟨(congrFun (ho 854 (by decide)) 1).trans hX.1, fun j => (congrFun (ho 856 (by decide)) j).trans (hX.2 j)⟩
  refine x_any (fun L341 => ?_)
  obtain ⟨⟨F342, M343, L344⟩, e, hk⟩ := xX16_init fu hfu 1524 F339 M340 L341
  rw [e, mb3_s]
  replace hX : M343 854 1 = 0 ∧ ∀ j, M343 856 j = 0 := ⟨(congrFun (hk.out (a := 854) (by omega)) 1).trans hX.1, fun j => (congrFun (hk.out (a := 856) (by omega)) j).trans (hX.2 j)⟩
  replace h := h.call hk (by omega) (by omega)
  refine x_any (fun F345 => ?_)
  refine x_any (fun F346 => ?_)
  refine x_z h (by omega) (by omega) (fun M347 h ho hz => ?_)
  replace hX : M347 854 1 = 0 ∧ ∀ j, M347 856 j = 0 := ⟨(congrFun (ho 854 (by decide)) 1).trans hX.1, fun j => (congrFun (ho 856 (by decide)) j).trans (hX.2 j)⟩
  refine x_any (fun L348 => ?_)
  obtain ⟨⟨F349, M350, L351⟩, e, hk⟩ := xX13_init fu hfu 1547 F346 M347 L348
  rw [e, mb3_s]
  replace hX : M350 854 1 = 0 ∧ ∀ j, M350 856 j = 0 := ⟨(congrFun (hk.out (a := 854) (by omega)) 1).trans hX.1, fun j => (congrFun (hk.out (a := 856) (by omega)) j).trans (hX.2 j)⟩
  replace h := h.call hk (by omega) (by omega)
  refine x_any (fun F352 => ?_)
  obtain ⟨⟨M353, L354⟩, e, hk, hk5⟩ := DX19_tail_ex fu hfu M350 L351 hX.1 hX.2
  rw [e, mb2_s]
  replace h := h.tail (fun a ha => funext fun j => hk a j (by omega))
  exact ⟨_, rfl, h⟩
