/-! the class: many groups, one behind another -/
theorem ffi_c {sz : Nat → Nat} {room i : Nat} {ch ch' : Nat → Nat} (h : ∀ j, j ≤ i → ch j = ch' j) (hf : ffi sz room ch i) : ffi sz room ch' i := by
  obtain ⟨h1, h2, h3⟩ := hf
  have eo : opn ch i = opn ch' i := opn_c (fun j hj => h j (by omega))
  have ef : ∀ f, fil ch sz i f = fil ch' sz i f := fun f => fil_c (fun j hj => h j (by omega)) f
  have e := h i (by omega)
  refine ⟨by rw [← e, ← eo]; exact h1, fun f hf => ?_, fun q => ?_⟩
  · rw [← ef]; exact h2 f (by omega)
  · rw [← e, ← ef]; exact h3 (by omega)
theorem c_packFirstFit {fu m room : Nat} {g sz : Nat → Nat} {A : mwM} {L : mwL} (hfu : 50 ≤ fu) (hm7 : 7 < m) (hroom : room ≤ 8) (hG : GpC A m g sz) : ∃ ch A', DX6_packFirstFit fu (sI room) A L = some (sI (opn ch m), A', L) ∧ PkW sz room m ch ∧ FtC A A' ∧ ∀ j, j < m → A' 93 j = sI (ch j) := by
  obtain ⟨A1, e1, z1, f1⟩ := c_empty (L := L) hfu hG.1 hG.2.1
  have hm := hG.2.1
  unfold DX6_packFirstFit
  rw [e1, mb2_s]
  have key : ∀ (n i q : Nat) (ch : Nat → Nat) (B : mwM), i + n = m → n < q → FtC A B → (∀ x, x < m → B 94 x = sI (fil ch sz i x)) → (∀ j, j < i → B 93 j = sI (ch j)) → (∀ j, j < i → ffi sz room ch j) → ∃ ch' A', fX6_packFirstFit_h8 fu (sI room) q (sI (opn ch i), sI i, B, L) = some (sI (opn ch' m), A', L) ∧ PkW sz room m ch' ∧ FtC A A' ∧ ∀ j, j < m → A' 93 j = sI (ch' j) := by
    intro n
    induction n with
    | zero =>
      intro i q ch B hi hq hF h4 h3 hw
      obtain ⟨q', rfl⟩ : ∃ x, q = x + 1 := ⟨q - 1, by omega⟩
      have : i = m := by omega
      subst this
      have hG' := GpC_f hG hF
      have un : fX6_packFirstFit_h8 fu (sI room) (q' + 1) (sI (opn ch i), sI i, B, L) = fX6_packFirstFit_i8 fu (sI room) (fX6_packFirstFit_h8 fu (sI room) q') (sI (opn ch i)) (sI i) B L := rfl
      refine ⟨ch, B, ?_, ⟨fun q => by omega, fun _ => hw⟩, hF, h3⟩
      rw [un]
      unfold fX6_packFirstFit_i8
      rw [hG'.1, if_pos (by rw [sI_le (by omega) (by omega)]; omega)]
    | succ n ih =>
      intro i q ch B hi hq hF h4 h3 hw
      obtain ⟨q', rfl⟩ : ∃ x, q = x + 1 := ⟨q - 1, by omega⟩
      have hG' := GpC_f hG hF
      obtain ⟨b1, b2, b3, b4, bt, b5, b6, b7⟩ := hG'.2.2 i (by omega)
      have ht : tgt ch i := fun j hj => (hw j hj).1
      have hop := tgt_le ht
      have hs8 : ∀ j, j < i → sz j ≤ 8 := fun j hj => (hG'.2.2 j (by omega)).2.2.2.1
      have un : fX6_packFirstFit_h8 fu (sI room) (q' + 1) (sI (opn ch i), sI i, B, L) = fX6_packFirstFit_i8 fu (sI room) (fX6_packFirstFit_h8 fu (sI room) q') (sI (opn ch i)) (sI i) B L := rfl
      rw [un]
      unfold fX6_packFirstFit_i8
      rw [hG'.1, if_neg (by rw [sI_le (by omega) (by omega)]; omega), mck_s (by omega) (by omega), sI_nn (by omega), b1, c_octetsOf b2 b5 b6, mb3_s, ← b7]
      -- where the choice falls
      have tail : ∀ f, f ≤ opn ch i → (∀ x, x < f → room < fil ch sz i x + sz i) → (f < opn ch i → fil ch sz i f + sz i ≤ room) → ∃ ch' A', fX6_packFirstFit_b57 fu (sI room) (fX6_packFirstFit_h8 fu (sI room) q') (sI (opn ch i)) (sI i) (sI (sz i)) (sI f) B L = some (sI (opn ch' m), A', L) ∧ PkW sz room m ch' ∧ FtC A A' ∧ ∀ j, j < m → A' 93 j = sI (ch' j) := by
        intro f hf hb hr
        unfold fX6_packFirstFit_b57
        simp only [mck_s (show f < 40 by omega) (show f < 2000000000 by omega), mck_s (show i < 40 by omega) (show i < 2000000000 by omega), sI_nn (show f < 2000000000 by omega), sI_nn (show i < 2000000000 by omega), mlet]
        have eo : (if sI (opn ch i) < sI f + 1 then sI f + 1 else sI (opn ch i)) = sI (opn (upd1 ch i f) (i + 1)) := by
          rw [opn_u1, sI_1]
          by_cases q : opn ch i < f + 1
          · rw [if_pos q, if_pos (by rw [sI_lt (by omega) (by omega)]; exact q)]
          · rw [if_neg q, if_neg (by rw [sI_lt (by omega) (by omega)]; exact q)]
        rw [eo, sI_1, h4 f (by omega), sI_add]
        refine ih (i + 1) q' (upd1 ch i f) _ (by omega) (by omega) (fun a y q1 q2 => by rw [mset_n (by omega), mset_n (by omega)]; exact hF a y q1 q2) ?_ ?_ ?_
        · intro x hx
          rw [mset_n (by omega), fil_u1]
          by_cases q : f = x
          · subst q; rw [mset_s, if_pos rfl]
          · rw [mset_n (by omega), if_neg q, h4 x hx, Nat.add_zero]
        · intro j hj
          by_cases q : j = i
          · subst q; rw [mset_s, upd1_s]
          · rw [mset_n (by omega), mset_n (by omega), upd1_n q, h3 j (by omega)]
        · intro j hj
          by_cases q : j = i
          · subst q
            refine ⟨by rw [upd1_s, opn_u]; exact hf, fun x hx => ?_, fun w => ?_⟩
            · rw [upd1_s] at hx
              rw [fil_u]; exact hb x hx
            · rw [upd1_s, opn_u] at w
              rw [upd1_s, fil_u]; exact hr w
          · exact ffi_c (ch := ch) (fun x hx => (upd1_n (by omega)).symm) (hw j (by omega))
      have inner : ∀ (k f p : Nat), f + k = opn ch i → k < p → (∀ x, x < f → room < fil ch sz i x + sz i) → ∃ ch' A', fX6_packFirstFit_h31 fu (sI room) (fX6_packFirstFit_h8 fu (sI room) q') p (sI (opn ch i), sI i, sI (sz i), sI f, B, L) = some (sI (opn ch' m), A', L) ∧ PkW sz room m ch' ∧ FtC A A' ∧ ∀ j, j < m → A' 93 j = sI (ch' j) := by
        intro k
        induction k with
        | zero =>
          intro f p hf hp hb
          obtain ⟨p', rfl⟩ : ∃ x, p = x + 1 := ⟨p - 1, by omega⟩
          have un2 : fX6_packFirstFit_h31 fu (sI room) (fX6_packFirstFit_h8 fu (sI room) q') (p' + 1) (sI (opn ch i), sI i, sI (sz i), sI f, B, L) = fX6_packFirstFit_i31 fu (sI room) (fX6_packFirstFit_h8 fu (sI room) q') (fX6_packFirstFit_h31 fu (sI room) (fX6_packFirstFit_h8 fu (sI room) q') p') (sI (opn ch i)) (sI i) (sI (sz i)) (sI f) B L := rfl
          rw [un2]
          unfold fX6_packFirstFit_i31
          rw [if_pos (by rw [sI_le (by omega) (by omega)]; omega)]
          exact tail f (by omega) hb (fun w => by omega)
        | succ k ihk =>
          intro f p hf hp hb
          obtain ⟨p', rfl⟩ : ∃ x, p = x + 1 := ⟨p - 1, by omega⟩
          have un2 : fX6_packFirstFit_h31 fu (sI room) (fX6_packFirstFit_h8 fu (sI room) q') (p' + 1) (sI (opn ch i), sI i, sI (sz i), sI f, B, L) = fX6_packFirstFit_i31 fu (sI room) (fX6_packFirstFit_h8 fu (sI room) q') (fX6_packFirstFit_h31 fu (sI room) (fX6_packFirstFit_h8 fu (sI room) q') p') (sI (opn ch i)) (sI i) (sI (sz i)) (sI f) B L := rfl
          rw [un2]
          have hfb := fil_b (ch := ch) hs8 f
          unfold fX6_packFirstFit_i31
          rw [if_neg (by rw [sI_le (by omega) (by omega)]; omega), mck_s (by omega) (by omega), sI_nn (by omega), h4 f (by omega), sI_add]
          by_cases c : fil ch sz i f + sz i ≤ room
          · rw [if_pos (by rw [sI_le (by omega) (by omega)]; exact c)]
            exact tail f (by omega) hb (fun _ => c)
          · rw [if_neg (by rw [sI_le (by omega) (by omega)]; exact c)]
            simp only [mlet]
            rw [sI_1]
            refine ihk (f + 1) p' (by omega) (by omega) (fun x hx => ?_)
            by_cases e : x = f
            · subst e; omega
            · exact hb x (by omega)
      exact inner (opn ch i) 0 fu (by omega) (by omega) (fun x hx => by omega)
  exact key m 0 fu (fun _ => 0) A1 (by omega) (by omega) (fun a y _ q => f1 a y q) (fun x hx => by rw [z1 x hx]; rfl) (fun j hj => by omega) (fun j hj => by omega)
