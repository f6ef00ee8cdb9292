/-! THE REFERENCES behind the constructors: as the table FF says, wherever a cell has one -/
def need (a j : Nat) : Bool := if (TF a).1 < 6 then false else if (TF a).1 < 11 then true else decide (mw_fk ((TF a).1 - 11) j = 2)
def cpx (F : mwF) (a : Nat) : Prop := ∀ j, j < (TF a).2 → need a j = true → F a j = FF a j
theorem cpx_keep {F F1 : mwF} {a : Nat} (h : cpx F a) (hk : ∀ j, F1 a j = F a j) : cpx F1 a := fun j h1 h2 => (hk j).trans (h j h1 h2)
theorem need_O {a ci n j : Nat} (h : TF a = (11 + ci, n)) : need a j = decide (mw_fk ci j = 2) := by
  unfold need
  rw [h]
  simp only [show ¬ 11 + ci < 6 by omega, show ¬ 11 + ci < 11 by omega, if_false, show 11 + ci - 11 = ci by omega]
theorem mrow_s {F : mwF} {N n j : Nat} (h : j < n) : mrow F N n N j = some (N + 1 + j) := by
  unfold mrow
  rw [if_pos rfl, if_pos h]
set_option maxHeartbeats 8000000 in
set_option maxRecDepth 100000 in
theorem gX4_init {fu : Nat} {F : mwF} {M : mwM} {L : mwL} {FZ : mwF} {MZ : mwM} {LZ : mwL} (hD : DX4_init fu F M L = some (FZ, MZ, LZ)) : ∀ o ∈ [0, 1], cpx FZ (5 + o) := by
  unfold DX4_init at hD
  obtain ⟨F1, eF1, hD⟩ := g_let hD
  obtain ⟨M2, eM2, hD⟩ := g_let hD
  obtain ⟨F3, eF3, hD⟩ := g_let hD
  obtain ⟨M4, eM4, hD⟩ := g_let hD
  obtain ⟨F5, eF5, hD⟩ := g_let hD
  obtain ⟨M6, eM6, hD⟩ := g_let hD
  obtain ⟨F7, eF7, hD⟩ := g_let hD
  have hf : F7 = FZ := by
    have hf := congrArg (fun q => q.1) (Option.some.inj hD)
    exact hf
  rw [← hf]
  refine List.forall_mem_cons.mpr ⟨?_, List.forall_mem_cons.mpr ⟨?_, fun _ h => absurd h List.not_mem_nil⟩⟩
  · show cpx F7 5
    intro j hj hn
    rw [need_O tf_5] at hn
    rw [show (TF _).2 = _ from congrArg Prod.snd tf_5] at hj
    match j, hj, hn with
    | 0, _, _ => exact (show F7 5 0 = some 6 by rw [eF7, mset_j (by decide)]; rw [eF5, mset_j (by decide)]; rw [eF3]; exact mset_s).trans ff_5_0.symm
    | 1, _, _ => exact (show F7 5 1 = some 18 by rw [eF7, mset_j (by decide)]; rw [eF5]; exact mset_s).trans ff_5_1.symm
    | 2, _, _ => exact (show F7 5 2 = some 19 by rw [eF7]; exact mset_s).trans ff_5_2.symm
    | 3, _, hn => exact absurd hn (by decide)
    | 4, _, hn => exact absurd hn (by decide)
    | 5, _, hn => exact absurd hn (by decide)
    | 6, _, hn => exact absurd hn (by decide)
    | n + 7, hj, _ => exact absurd hj (by show ¬ n + 7 < 7; omega)
  · show cpx F7 6
    intro j hj _
    replace hj : j < 11 := by rw [show (TF _).2 = _ from congrArg Prod.snd tf_6] at hj; exact hj
    exact (show F7 6 j = some (6 + 1 + j) by rw [eF7, mset_k (by decide)]; rw [eF5, mset_k (by decide)]; rw [eF3, mset_k (by decide)]; rw [eF1]; exact mrow_s hj).trans ((fr_6 j hj).1.trans (congrArg some (by omega))).symm
set_option maxHeartbeats 8000000 in
set_option maxRecDepth 100000 in
theorem gX5_init {fu : Nat} {k : Nat} {F : mwF} {M : mwM} {L : mwL} {FZ : mwF} {MZ : mwM} {LZ : mwL} (hk0 : isEa k) (hD : DX5_init fu k F M L = some (FZ, MZ, LZ)) : ∀ o ∈ [0], cpx FZ (k + o) := by
  unfold DX5_init at hD
  obtain ⟨M1, eM1, hD⟩ := g_let hD
  obtain ⟨F2, eF2, hD⟩ := g_let hD
  have hf : F2 = FZ := by
    have hf := congrArg (fun q => q.1) (Option.some.inj hD)
    exact hf
  rw [← hf]
  refine List.forall_mem_cons.mpr ⟨?_, fun _ h => absurd h List.not_mem_nil⟩
  · intro j hj hn
    rw [need_O (Ea_T0 hk0)] at hn
    rw [show (TF _).2 = _ from congrArg Prod.snd (Ea_T0 hk0)] at hj
    match j, hj, hn with
    | 0, _, _ => exact (show F2 k 0 = some (k + 1) by rw [eF2]; exact mset_s).trans (Ea_F0_0 hk0).symm
    | 1, _, hn => exact absurd hn (by decide)
    | 2, _, hn => exact absurd hn (by decide)
    | 3, _, hn => exact absurd hn (by decide)
    | 4, _, hn => exact absurd hn (by decide)
    | 5, _, hn => exact absurd hn (by decide)
    | 6, _, hn => exact absurd hn (by decide)
    | 7, _, hn => exact absurd hn (by decide)
    | 8, _, hn => exact absurd hn (by decide)
    | 9, _, hn => exact absurd hn (by decide)
    | 10, _, hn => exact absurd hn (by decide)
    | 11, _, hn => exact absurd hn (by decide)
    | 12, _, hn => exact absurd hn (by decide)
    | 13, _, hn => exact absurd hn (by decide)
    | 14, _, hn => exact absurd hn (by decide)
    | 15, _, hn => exact absurd hn (by decide)
    | 16, _, hn => exact absurd hn (by decide)
    | 17, _, hn => exact absurd hn (by decide)
    | 18, _, hn => exact absurd hn (by decide)
    | 19, _, hn => exact absurd hn (by decide)
    | n + 20, hj, _ => exact absurd hj (by show ¬ n + 20 < 20; omega)
set_option maxHeartbeats 8000000 in
set_option maxRecDepth 100000 in
theorem gX0_init {fu : Nat} {F : mwF} {M : mwM} {L : mwL} {FZ : mwF} {MZ : mwM} {LZ : mwL} (hD : DX0_init fu F M L = some (FZ, MZ, LZ)) : ∀ o ∈ [0, 4, 13, 21, 22, 27, 29, 31, 33, 35, 37, 39], cpx FZ (20 + o) := by
  unfold DX0_init at hD
  obtain ⟨M1, eM1, hD⟩ := g_let hD
  obtain ⟨F2, eF2, hD⟩ := g_let hD
  obtain ⟨M3, eM3, hD⟩ := g_let hD
  obtain ⟨F4, eF4, hD⟩ := g_let hD
  obtain ⟨M5, eM5, hD⟩ := g_let hD
  obtain ⟨F6, eF6, hD⟩ := g_let hD
  obtain ⟨F7, eF7, hD⟩ := g_let hD
  obtain ⟨M8, eM8, hD⟩ := g_let hD
  obtain ⟨F9, eF9, hD⟩ := g_let hD
  obtain ⟨F10, eF10, hD⟩ := g_let hD
  obtain ⟨M11, eM11, hD⟩ := g_let hD
  obtain ⟨F12, eF12, hD⟩ := g_let hD
  obtain ⟨F13, eF13, hD⟩ := g_let hD
  obtain ⟨F14, eF14, hD⟩ := g_let hD
  obtain ⟨F15, eF15, hD⟩ := g_let hD
  obtain ⟨M16, eM16, hD⟩ := g_let hD
  obtain ⟨F17, eF17, hD⟩ := g_let hD
  obtain ⟨M18, eM18, hD⟩ := g_let hD
  obtain ⟨F19, eF19, hD⟩ := g_let hD
  obtain ⟨F20, eF20, hD⟩ := g_let hD
  obtain ⟨M21, eM21, hD⟩ := g_let hD
  obtain ⟨L22, eL22, hD⟩ := g_let hD
  obtain ⟨F23, M24, L25, hc23, hD⟩ := g_b3 hD
  have eF23 : ∀ a j, (a < 47 ∨ 49 ≤ a) → F23 a j = F20 a j := fun a j ha => kX5_init hc23 a j (by omega)
  obtain ⟨F26, eF26, hD⟩ := g_let hD
  obtain ⟨F27, eF27, hD⟩ := g_let hD
  obtain ⟨M28, eM28, hD⟩ := g_let hD
  obtain ⟨L29, eL29, hD⟩ := g_let hD
  obtain ⟨F30, M31, L32, hc30, hD⟩ := g_b3 hD
  have eF30 : ∀ a j, (a < 49 ∨ 51 ≤ a) → F30 a j = F27 a j := fun a j ha => kX5_init hc30 a j (by omega)
  obtain ⟨F33, eF33, hD⟩ := g_let hD
  obtain ⟨F34, eF34, hD⟩ := g_let hD
  obtain ⟨M35, eM35, hD⟩ := g_let hD
  obtain ⟨L36, eL36, hD⟩ := g_let hD
  obtain ⟨F37, M38, L39, hc37, hD⟩ := g_b3 hD
  have eF37 : ∀ a j, (a < 51 ∨ 53 ≤ a) → F37 a j = F34 a j := fun a j ha => kX5_init hc37 a j (by omega)
  obtain ⟨F40, eF40, hD⟩ := g_let hD
  obtain ⟨F41, eF41, hD⟩ := g_let hD
  obtain ⟨M42, eM42, hD⟩ := g_let hD
  obtain ⟨L43, eL43, hD⟩ := g_let hD
  obtain ⟨F44, M45, L46, hc44, hD⟩ := g_b3 hD
  have eF44 : ∀ a j, (a < 53 ∨ 55 ≤ a) → F44 a j = F41 a j := fun a j ha => kX5_init hc44 a j (by omega)
  obtain ⟨F47, eF47, hD⟩ := g_let hD
  obtain ⟨F48, eF48, hD⟩ := g_let hD
  obtain ⟨M49, eM49, hD⟩ := g_let hD
  obtain ⟨L50, eL50, hD⟩ := g_let hD
  obtain ⟨F51, M52, L53, hc51, hD⟩ := g_b3 hD
  have eF51 : ∀ a j, (a < 55 ∨ 57 ≤ a) → F51 a j = F48 a j := fun a j ha => kX5_init hc51 a j (by omega)
  obtain ⟨F54, eF54, hD⟩ := g_let hD
  obtain ⟨F55, eF55, hD⟩ := g_let hD
  obtain ⟨M56, eM56, hD⟩ := g_let hD
  obtain ⟨L57, eL57, hD⟩ := g_let hD
  obtain ⟨F58, M59, L60, hc58, hD⟩ := g_b3 hD
  have eF58 : ∀ a j, (a < 57 ∨ 59 ≤ a) → F58 a j = F55 a j := fun a j ha => kX5_init hc58 a j (by omega)
  obtain ⟨F61, eF61, hD⟩ := g_let hD
  obtain ⟨F62, eF62, hD⟩ := g_let hD
  obtain ⟨M63, eM63, hD⟩ := g_let hD
  obtain ⟨L64, eL64, hD⟩ := g_let hD
  obtain ⟨F65, M66, L67, hc65, hD⟩ := g_b3 hD
  have eF65 : ∀ a j, (a < 59 ∨ 61 ≤ a) → F65 a j = F62 a j := fun a j ha => kX5_init hc65 a j (by omega)
  obtain ⟨F68, eF68, hD⟩ := g_let hD
  have hf : F68 = FZ := by
    have hf := congrArg (fun q => q.1) (Option.some.inj hD)
    exact hf
  rw [← hf]
  have kpF23 : ∀ a j, (47 ≤ a ∧ a < 49) → F68 a j = F23 a j := by
    intro a j ha
    rw [eF68, mset_k (by omega)]
    rw [eF65 a j (by omega)]
    rw [eF62, mz_n (by omega)]
    rw [eF61, mset_k (by omega)]
    rw [eF58 a j (by omega)]
    rw [eF55, mz_n (by omega)]
    rw [eF54, mset_k (by omega)]
    rw [eF51 a j (by omega)]
    rw [eF48, mz_n (by omega)]
    rw [eF47, mset_k (by omega)]
    rw [eF44 a j (by omega)]
    rw [eF41, mz_n (by omega)]
    rw [eF40, mset_k (by omega)]
    rw [eF37 a j (by omega)]
    rw [eF34, mz_n (by omega)]
    rw [eF33, mset_k (by omega)]
    rw [eF30 a j (by omega)]
    rw [eF27, mz_n (by omega)]
    rw [eF26, mset_k (by omega)]
  have kpF30 : ∀ a j, (49 ≤ a ∧ a < 51) → F68 a j = F30 a j := by
    intro a j ha
    rw [eF68, mset_k (by omega)]
    rw [eF65 a j (by omega)]
    rw [eF62, mz_n (by omega)]
    rw [eF61, mset_k (by omega)]
    rw [eF58 a j (by omega)]
    rw [eF55, mz_n (by omega)]
    rw [eF54, mset_k (by omega)]
    rw [eF51 a j (by omega)]
    rw [eF48, mz_n (by omega)]
    rw [eF47, mset_k (by omega)]
    rw [eF44 a j (by omega)]
    rw [eF41, mz_n (by omega)]
    rw [eF40, mset_k (by omega)]
    rw [eF37 a j (by omega)]
    rw [eF34, mz_n (by omega)]
    rw [eF33, mset_k (by omega)]
  have kpF37 : ∀ a j, (51 ≤ a ∧ a < 53) → F68 a j = F37 a j := by
    intro a j ha
    rw [eF68, mset_k (by omega)]
    rw [eF65 a j (by omega)]
    rw [eF62, mz_n (by omega)]
    rw [eF61, mset_k (by omega)]
    rw [eF58 a j (by omega)]
    rw [eF55, mz_n (by omega)]
    rw [eF54, mset_k (by omega)]
    rw [eF51 a j (by omega)]
    rw [eF48, mz_n (by omega)]
    rw [eF47, mset_k (by omega)]
    rw [eF44 a j (by omega)]
    rw [eF41, mz_n (by omega)]
    rw [eF40, mset_k (by omega)]
  have kpF44 : ∀ a j, (53 ≤ a ∧ a < 55) → F68 a j = F44 a j := by
    intro a j ha
    rw [eF68, mset_k (by omega)]
    rw [eF65 a j (by omega)]
    rw [eF62, mz_n (by omega)]
    rw [eF61, mset_k (by omega)]
    rw [eF58 a j (by omega)]
    rw [eF55, mz_n (by omega)]
    rw [eF54, mset_k (by omega)]
    rw [eF51 a j (by omega)]
    rw [eF48, mz_n (by omega)]
    rw [eF47, mset_k (by omega)]
  have kpF51 : ∀ a j, (55 ≤ a ∧ a < 57) → F68 a j = F51 a j := by
    intro a j ha
    rw [eF68, mset_k (by omega)]
    rw [eF65 a j (by omega)]
    rw [eF62, mz_n (by omega)]
    rw [eF61, mset_k (by omega)]
    rw [eF58 a j (by omega)]
    rw [eF55, mz_n (by omega)]
    rw [eF54, mset_k (by omega)]
  have kpF58 : ∀ a j, (57 ≤ a ∧ a < 59) → F68 a j = F58 a j := by
    intro a j ha
    rw [eF68, mset_k (by omega)]
    rw [eF65 a j (by omega)]
    rw [eF62, mz_n (by omega)]
    rw [eF61, mset_k (by omega)]
  have kpF65 : ∀ a j, (59 ≤ a ∧ a < 61) → F68 a j = F65 a j := by
    intro a j ha
    rw [eF68, mset_k (by omega)]
  refine List.forall_mem_cons.mpr ⟨?_, List.forall_mem_cons.mpr ⟨?_, List.forall_mem_cons.mpr ⟨?_, List.forall_mem_cons.mpr ⟨?_, List.forall_mem_cons.mpr ⟨?_, List.forall_mem_cons.mpr ⟨?_, List.forall_mem_cons.mpr ⟨?_, List.forall_mem_cons.mpr ⟨?_, List.forall_mem_cons.mpr ⟨?_, List.forall_mem_cons.mpr ⟨?_, List.forall_mem_cons.mpr ⟨?_, List.forall_mem_cons.mpr ⟨?_, fun _ h => absurd h List.not_mem_nil⟩⟩⟩⟩⟩⟩⟩⟩⟩⟩⟩⟩
  · show cpx F68 20
    intro j hj hn
    rw [need_O tf_20] at hn
    rw [show (TF _).2 = _ from congrArg Prod.snd tf_20] at hj
    match j, hj, hn with
    | 0, _, _ => exact (show F68 20 0 = some 21 by rw [eF68, mset_k (by decide)]; rw [eF65 _ _ (by decide)]; rw [eF62, mz_n (by decide)]; rw [eF61, mset_k (by decide)]; rw [eF58 _ _ (by decide)]; rw [eF55, mz_n (by decide)]; rw [eF54, mset_k (by decide)]; rw [eF51 _ _ (by decide)]; rw [eF48, mz_n (by decide)]; rw [eF47, mset_k (by decide)]; rw [eF44 _ _ (by decide)]; rw [eF41, mz_n (by decide)]; rw [eF40, mset_k (by decide)]; rw [eF37 _ _ (by decide)]; rw [eF34, mz_n (by decide)]; rw [eF33, mset_k (by decide)]; rw [eF30 _ _ (by decide)]; rw [eF27, mz_n (by decide)]; rw [eF26, mset_k (by decide)]; rw [eF23 _ _ (by decide)]; rw [eF20, mz_n (by decide)]; rw [eF19, mset_j (by decide)]; rw [eF17, mset_j (by decide)]; rw [eF15, mrow_n (by decide)]; rw [eF14, mset_j (by decide)]; rw [eF13, mz_n (by decide)]; rw [eF12, mset_j (by decide)]; rw [eF10, mrow_n (by decide)]; rw [eF9, mset_j (by decide)]; rw [eF7, mrow_n (by decide)]; rw [eF6, mset_j (by decide)]; rw [eF4, mset_j (by decide)]; rw [eF2]; exact mset_s).trans ff_20_0.symm
    | 1, _, _ => exact (show F68 20 1 = some 22 by rw [eF68, mset_k (by decide)]; rw [eF65 _ _ (by decide)]; rw [eF62, mz_n (by decide)]; rw [eF61, mset_k (by decide)]; rw [eF58 _ _ (by decide)]; rw [eF55, mz_n (by decide)]; rw [eF54, mset_k (by decide)]; rw [eF51 _ _ (by decide)]; rw [eF48, mz_n (by decide)]; rw [eF47, mset_k (by decide)]; rw [eF44 _ _ (by decide)]; rw [eF41, mz_n (by decide)]; rw [eF40, mset_k (by decide)]; rw [eF37 _ _ (by decide)]; rw [eF34, mz_n (by decide)]; rw [eF33, mset_k (by decide)]; rw [eF30 _ _ (by decide)]; rw [eF27, mz_n (by decide)]; rw [eF26, mset_k (by decide)]; rw [eF23 _ _ (by decide)]; rw [eF20, mz_n (by decide)]; rw [eF19, mset_j (by decide)]; rw [eF17, mset_j (by decide)]; rw [eF15, mrow_n (by decide)]; rw [eF14, mset_j (by decide)]; rw [eF13, mz_n (by decide)]; rw [eF12, mset_j (by decide)]; rw [eF10, mrow_n (by decide)]; rw [eF9, mset_j (by decide)]; rw [eF7, mrow_n (by decide)]; rw [eF6, mset_j (by decide)]; rw [eF4]; exact mset_s).trans ff_20_1.symm
    | 2, _, _ => exact (show F68 20 2 = some 23 by rw [eF68, mset_k (by decide)]; rw [eF65 _ _ (by decide)]; rw [eF62, mz_n (by decide)]; rw [eF61, mset_k (by decide)]; rw [eF58 _ _ (by decide)]; rw [eF55, mz_n (by decide)]; rw [eF54, mset_k (by decide)]; rw [eF51 _ _ (by decide)]; rw [eF48, mz_n (by decide)]; rw [eF47, mset_k (by decide)]; rw [eF44 _ _ (by decide)]; rw [eF41, mz_n (by decide)]; rw [eF40, mset_k (by decide)]; rw [eF37 _ _ (by decide)]; rw [eF34, mz_n (by decide)]; rw [eF33, mset_k (by decide)]; rw [eF30 _ _ (by decide)]; rw [eF27, mz_n (by decide)]; rw [eF26, mset_k (by decide)]; rw [eF23 _ _ (by decide)]; rw [eF20, mz_n (by decide)]; rw [eF19, mset_j (by decide)]; rw [eF17, mset_j (by decide)]; rw [eF15, mrow_n (by decide)]; rw [eF14, mset_j (by decide)]; rw [eF13, mz_n (by decide)]; rw [eF12, mset_j (by decide)]; rw [eF10, mrow_n (by decide)]; rw [eF9, mset_j (by decide)]; rw [eF7, mrow_n (by decide)]; rw [eF6]; exact mset_s).trans ff_20_2.symm
    | 3, _, _ => exact (show F68 20 3 = some 24 by rw [eF68, mset_k (by decide)]; rw [eF65 _ _ (by decide)]; rw [eF62, mz_n (by decide)]; rw [eF61, mset_k (by decide)]; rw [eF58 _ _ (by decide)]; rw [eF55, mz_n (by decide)]; rw [eF54, mset_k (by decide)]; rw [eF51 _ _ (by decide)]; rw [eF48, mz_n (by decide)]; rw [eF47, mset_k (by decide)]; rw [eF44 _ _ (by decide)]; rw [eF41, mz_n (by decide)]; rw [eF40, mset_k (by decide)]; rw [eF37 _ _ (by decide)]; rw [eF34, mz_n (by decide)]; rw [eF33, mset_k (by decide)]; rw [eF30 _ _ (by decide)]; rw [eF27, mz_n (by decide)]; rw [eF26, mset_k (by decide)]; rw [eF23 _ _ (by decide)]; rw [eF20, mz_n (by decide)]; rw [eF19, mset_j (by decide)]; rw [eF17, mset_j (by decide)]; rw [eF15, mrow_n (by decide)]; rw [eF14, mset_j (by decide)]; rw [eF13, mz_n (by decide)]; rw [eF12, mset_j (by decide)]; rw [eF10, mrow_n (by decide)]; rw [eF9]; exact mset_s).trans ff_20_3.symm
    | 4, _, _ => exact (show F68 20 4 = some 33 by rw [eF68, mset_k (by decide)]; rw [eF65 _ _ (by decide)]; rw [eF62, mz_n (by decide)]; rw [eF61, mset_k (by decide)]; rw [eF58 _ _ (by decide)]; rw [eF55, mz_n (by decide)]; rw [eF54, mset_k (by decide)]; rw [eF51 _ _ (by decide)]; rw [eF48, mz_n (by decide)]; rw [eF47, mset_k (by decide)]; rw [eF44 _ _ (by decide)]; rw [eF41, mz_n (by decide)]; rw [eF40, mset_k (by decide)]; rw [eF37 _ _ (by decide)]; rw [eF34, mz_n (by decide)]; rw [eF33, mset_k (by decide)]; rw [eF30 _ _ (by decide)]; rw [eF27, mz_n (by decide)]; rw [eF26, mset_k (by decide)]; rw [eF23 _ _ (by decide)]; rw [eF20, mz_n (by decide)]; rw [eF19, mset_j (by decide)]; rw [eF17, mset_j (by decide)]; rw [eF15, mrow_n (by decide)]; rw [eF14, mset_j (by decide)]; rw [eF13, mz_n (by decide)]; rw [eF12]; exact mset_s).trans ff_20_4.symm
    | 5, _, _ => exact (show F68 20 5 = some 41 by rw [eF68, mset_k (by decide)]; rw [eF65 _ _ (by decide)]; rw [eF62, mz_n (by decide)]; rw [eF61, mset_k (by decide)]; rw [eF58 _ _ (by decide)]; rw [eF55, mz_n (by decide)]; rw [eF54, mset_k (by decide)]; rw [eF51 _ _ (by decide)]; rw [eF48, mz_n (by decide)]; rw [eF47, mset_k (by decide)]; rw [eF44 _ _ (by decide)]; rw [eF41, mz_n (by decide)]; rw [eF40, mset_k (by decide)]; rw [eF37 _ _ (by decide)]; rw [eF34, mz_n (by decide)]; rw [eF33, mset_k (by decide)]; rw [eF30 _ _ (by decide)]; rw [eF27, mz_n (by decide)]; rw [eF26, mset_k (by decide)]; rw [eF23 _ _ (by decide)]; rw [eF20, mz_n (by decide)]; rw [eF19, mset_j (by decide)]; rw [eF17, mset_j (by decide)]; rw [eF15, mrow_n (by decide)]; rw [eF14]; exact mset_s).trans ff_20_5.symm
    | 6, _, _ => exact (show F68 20 6 = some 42 by rw [eF68, mset_k (by decide)]; rw [eF65 _ _ (by decide)]; rw [eF62, mz_n (by decide)]; rw [eF61, mset_k (by decide)]; rw [eF58 _ _ (by decide)]; rw [eF55, mz_n (by decide)]; rw [eF54, mset_k (by decide)]; rw [eF51 _ _ (by decide)]; rw [eF48, mz_n (by decide)]; rw [eF47, mset_k (by decide)]; rw [eF44 _ _ (by decide)]; rw [eF41, mz_n (by decide)]; rw [eF40, mset_k (by decide)]; rw [eF37 _ _ (by decide)]; rw [eF34, mz_n (by decide)]; rw [eF33, mset_k (by decide)]; rw [eF30 _ _ (by decide)]; rw [eF27, mz_n (by decide)]; rw [eF26, mset_k (by decide)]; rw [eF23 _ _ (by decide)]; rw [eF20, mz_n (by decide)]; rw [eF19, mset_j (by decide)]; rw [eF17]; exact mset_s).trans ff_20_6.symm
    | 7, _, _ => exact (show F68 20 7 = some 46 by rw [eF68, mset_k (by decide)]; rw [eF65 _ _ (by decide)]; rw [eF62, mz_n (by decide)]; rw [eF61, mset_k (by decide)]; rw [eF58 _ _ (by decide)]; rw [eF55, mz_n (by decide)]; rw [eF54, mset_k (by decide)]; rw [eF51 _ _ (by decide)]; rw [eF48, mz_n (by decide)]; rw [eF47, mset_k (by decide)]; rw [eF44 _ _ (by decide)]; rw [eF41, mz_n (by decide)]; rw [eF40, mset_k (by decide)]; rw [eF37 _ _ (by decide)]; rw [eF34, mz_n (by decide)]; rw [eF33, mset_k (by decide)]; rw [eF30 _ _ (by decide)]; rw [eF27, mz_n (by decide)]; rw [eF26, mset_k (by decide)]; rw [eF23 _ _ (by decide)]; rw [eF20, mz_n (by decide)]; rw [eF19]; exact mset_s).trans ff_20_7.symm
    | 8, _, hn => exact absurd hn (by decide)
    | 9, _, hn => exact absurd hn (by decide)
    | 10, _, hn => exact absurd hn (by decide)
    | 11, _, hn => exact absurd hn (by decide)
    | 12, _, hn => exact absurd hn (by decide)
    | 13, _, hn => exact absurd hn (by decide)
    | n + 14, hj, _ => exact absurd hj (by show ¬ n + 14 < 14; omega)
  · show cpx F68 24
    intro j hj _
    replace hj : j < 8 := by rw [show (TF _).2 = _ from congrArg Prod.snd tf_24] at hj; exact hj
    exact (show F68 24 j = some (24 + 1 + j) by rw [eF68, mset_k (by decide)]; rw [eF65 _ _ (by decide)]; rw [eF62, mz_n (by decide)]; rw [eF61, mset_k (by decide)]; rw [eF58 _ _ (by decide)]; rw [eF55, mz_n (by decide)]; rw [eF54, mset_k (by decide)]; rw [eF51 _ _ (by decide)]; rw [eF48, mz_n (by decide)]; rw [eF47, mset_k (by decide)]; rw [eF44 _ _ (by decide)]; rw [eF41, mz_n (by decide)]; rw [eF40, mset_k (by decide)]; rw [eF37 _ _ (by decide)]; rw [eF34, mz_n (by decide)]; rw [eF33, mset_k (by decide)]; rw [eF30 _ _ (by decide)]; rw [eF27, mz_n (by decide)]; rw [eF26, mset_k (by decide)]; rw [eF23 _ _ (by decide)]; rw [eF20, mz_n (by decide)]; rw [eF19, mset_k (by decide)]; rw [eF17, mset_k (by decide)]; rw [eF15, mrow_n (by decide)]; rw [eF14, mset_k (by decide)]; rw [eF13, mz_n (by decide)]; rw [eF12, mset_k (by decide)]; rw [eF10, mrow_n (by decide)]; rw [eF9, mset_k (by decide)]; rw [eF7]; exact mrow_s hj).trans ((fr_24 j hj).1.trans (congrArg some (by omega))).symm
  · show cpx F68 33
    intro j hj _
    replace hj : j < 7 := by rw [show (TF _).2 = _ from congrArg Prod.snd tf_33] at hj; exact hj
    exact (show F68 33 j = some (33 + 1 + j) by rw [eF68, mset_k (by decide)]; rw [eF65 _ _ (by decide)]; rw [eF62, mz_n (by decide)]; rw [eF61, mset_k (by decide)]; rw [eF58 _ _ (by decide)]; rw [eF55, mz_n (by decide)]; rw [eF54, mset_k (by decide)]; rw [eF51 _ _ (by decide)]; rw [eF48, mz_n (by decide)]; rw [eF47, mset_k (by decide)]; rw [eF44 _ _ (by decide)]; rw [eF41, mz_n (by decide)]; rw [eF40, mset_k (by decide)]; rw [eF37 _ _ (by decide)]; rw [eF34, mz_n (by decide)]; rw [eF33, mset_k (by decide)]; rw [eF30 _ _ (by decide)]; rw [eF27, mz_n (by decide)]; rw [eF26, mset_k (by decide)]; rw [eF23 _ _ (by decide)]; rw [eF20, mz_n (by decide)]; rw [eF19, mset_k (by decide)]; rw [eF17, mset_k (by decide)]; rw [eF15, mrow_n (by decide)]; rw [eF14, mset_k (by decide)]; rw [eF13, mz_n (by decide)]; rw [eF12, mset_k (by decide)]; rw [eF10]; exact mrow_s hj).trans ((fr_33 j hj).1.trans (congrArg some (by omega))).symm
  · show cpx F68 41
    intro j hj _
    replace hj : j < 7 := by rw [show (TF _).2 = _ from congrArg Prod.snd tf_41] at hj; exact hj
    match j, hj with
    | 0, _ => exact (show F68 41 0 = some 47 by rw [eF68, mset_j (by decide)]; rw [eF65 _ _ (by decide)]; rw [eF62, mz_n (by decide)]; rw [eF61, mset_j (by decide)]; rw [eF58 _ _ (by decide)]; rw [eF55, mz_n (by decide)]; rw [eF54, mset_j (by decide)]; rw [eF51 _ _ (by decide)]; rw [eF48, mz_n (by decide)]; rw [eF47, mset_j (by decide)]; rw [eF44 _ _ (by decide)]; rw [eF41, mz_n (by decide)]; rw [eF40, mset_j (by decide)]; rw [eF37 _ _ (by decide)]; rw [eF34, mz_n (by decide)]; rw [eF33, mset_j (by decide)]; rw [eF30 _ _ (by decide)]; rw [eF27, mz_n (by decide)]; rw [eF26]; exact mset_s).trans (fr_41 0 (by decide)).symm
    | 1, _ => exact (show F68 41 1 = some 49 by rw [eF68, mset_j (by decide)]; rw [eF65 _ _ (by decide)]; rw [eF62, mz_n (by decide)]; rw [eF61, mset_j (by decide)]; rw [eF58 _ _ (by decide)]; rw [eF55, mz_n (by decide)]; rw [eF54, mset_j (by decide)]; rw [eF51 _ _ (by decide)]; rw [eF48, mz_n (by decide)]; rw [eF47, mset_j (by decide)]; rw [eF44 _ _ (by decide)]; rw [eF41, mz_n (by decide)]; rw [eF40, mset_j (by decide)]; rw [eF37 _ _ (by decide)]; rw [eF34, mz_n (by decide)]; rw [eF33]; exact mset_s).trans (fr_41 1 (by decide)).symm
    | 2, _ => exact (show F68 41 2 = some 51 by rw [eF68, mset_j (by decide)]; rw [eF65 _ _ (by decide)]; rw [eF62, mz_n (by decide)]; rw [eF61, mset_j (by decide)]; rw [eF58 _ _ (by decide)]; rw [eF55, mz_n (by decide)]; rw [eF54, mset_j (by decide)]; rw [eF51 _ _ (by decide)]; rw [eF48, mz_n (by decide)]; rw [eF47, mset_j (by decide)]; rw [eF44 _ _ (by decide)]; rw [eF41, mz_n (by decide)]; rw [eF40]; exact mset_s).trans (fr_41 2 (by decide)).symm
    | 3, _ => exact (show F68 41 3 = some 53 by rw [eF68, mset_j (by decide)]; rw [eF65 _ _ (by decide)]; rw [eF62, mz_n (by decide)]; rw [eF61, mset_j (by decide)]; rw [eF58 _ _ (by decide)]; rw [eF55, mz_n (by decide)]; rw [eF54, mset_j (by decide)]; rw [eF51 _ _ (by decide)]; rw [eF48, mz_n (by decide)]; rw [eF47]; exact mset_s).trans (fr_41 3 (by decide)).symm
    | 4, _ => exact (show F68 41 4 = some 55 by rw [eF68, mset_j (by decide)]; rw [eF65 _ _ (by decide)]; rw [eF62, mz_n (by decide)]; rw [eF61, mset_j (by decide)]; rw [eF58 _ _ (by decide)]; rw [eF55, mz_n (by decide)]; rw [eF54]; exact mset_s).trans (fr_41 4 (by decide)).symm
    | 5, _ => exact (show F68 41 5 = some 57 by rw [eF68, mset_j (by decide)]; rw [eF65 _ _ (by decide)]; rw [eF62, mz_n (by decide)]; rw [eF61]; exact mset_s).trans (fr_41 5 (by decide)).symm
    | 6, _ => exact (show F68 41 6 = some 59 by rw [eF68]; exact mset_s).trans (fr_41 6 (by decide)).symm
    | n + 7, hj => exact absurd hj (by omega)
  · show cpx F68 42
    intro j hj _
    replace hj : j < 3 := by rw [show (TF _).2 = _ from congrArg Prod.snd tf_42] at hj; exact hj
    exact (show F68 42 j = some (42 + 1 + j) by rw [eF68, mset_k (by decide)]; rw [eF65 _ _ (by decide)]; rw [eF62, mz_n (by decide)]; rw [eF61, mset_k (by decide)]; rw [eF58 _ _ (by decide)]; rw [eF55, mz_n (by decide)]; rw [eF54, mset_k (by decide)]; rw [eF51 _ _ (by decide)]; rw [eF48, mz_n (by decide)]; rw [eF47, mset_k (by decide)]; rw [eF44 _ _ (by decide)]; rw [eF41, mz_n (by decide)]; rw [eF40, mset_k (by decide)]; rw [eF37 _ _ (by decide)]; rw [eF34, mz_n (by decide)]; rw [eF33, mset_k (by decide)]; rw [eF30 _ _ (by decide)]; rw [eF27, mz_n (by decide)]; rw [eF26, mset_k (by decide)]; rw [eF23 _ _ (by decide)]; rw [eF20, mz_n (by decide)]; rw [eF19, mset_k (by decide)]; rw [eF17, mset_k (by decide)]; rw [eF15]; exact mrow_s hj).trans ((fr_42 j hj).1.trans (congrArg some (by omega))).symm
  · exact cpx_keep (gX5_init (isEa_of (x := 0) (by decide)) hc23 0 (List.mem_of_getElem? (i := 0) rfl)) (fun j => kpF23 _ j (by omega))
  · exact cpx_keep (gX5_init (isEa_of (x := 1) (by decide)) hc30 0 (List.mem_of_getElem? (i := 0) rfl)) (fun j => kpF30 _ j (by omega))
  · exact cpx_keep (gX5_init (isEa_of (x := 2) (by decide)) hc37 0 (List.mem_of_getElem? (i := 0) rfl)) (fun j => kpF37 _ j (by omega))
  · exact cpx_keep (gX5_init (isEa_of (x := 3) (by decide)) hc44 0 (List.mem_of_getElem? (i := 0) rfl)) (fun j => kpF44 _ j (by omega))
  · exact cpx_keep (gX5_init (isEa_of (x := 4) (by decide)) hc51 0 (List.mem_of_getElem? (i := 0) rfl)) (fun j => kpF51 _ j (by omega))
  · exact cpx_keep (gX5_init (isEa_of (x := 5) (by decide)) hc58 0 (List.mem_of_getElem? (i := 0) rfl)) (fun j => kpF58 _ j (by omega))
  · exact cpx_keep (gX5_init (isEa_of (x := 6) (by decide)) hc65 0 (List.mem_of_getElem? (i := 0) rfl)) (fun j => kpF65 _ j (by omega))
set_option maxHeartbeats 8000000 in
set_option maxRecDepth 100000 in
theorem gX6_init {fu : Nat} {F : mwF} {M : mwM} {L : mwL} {FZ : mwF} {MZ : mwM} {LZ : mwL} (hD : DX6_init fu F M L = some (FZ, MZ, LZ)) : ∀ o ∈ [0, 1, 12, 20, 24], cpx FZ (61 + o) := by
  unfold DX6_init at hD
  obtain ⟨F1, eF1, hD⟩ := g_let hD
  obtain ⟨M2, eM2, hD⟩ := g_let hD
  obtain ⟨F3, eF3, hD⟩ := g_let hD
  obtain ⟨F4, eF4, hD⟩ := g_let hD
  obtain ⟨M5, eM5, hD⟩ := g_let hD
  obtain ⟨F6, eF6, hD⟩ := g_let hD
  obtain ⟨M7, eM7, hD⟩ := g_let hD
  obtain ⟨F8, eF8, hD⟩ := g_let hD
  obtain ⟨F9, eF9, hD⟩ := g_let hD
  obtain ⟨M10, eM10, hD⟩ := g_let hD
  obtain ⟨F11, eF11, hD⟩ := g_let hD
  obtain ⟨F12, eF12, hD⟩ := g_let hD
  obtain ⟨M13, eM13, hD⟩ := g_let hD
  obtain ⟨F14, eF14, hD⟩ := g_let hD
  obtain ⟨M15, eM15, hD⟩ := g_let hD
  obtain ⟨F16, eF16, hD⟩ := g_let hD
  obtain ⟨M17, eM17, hD⟩ := g_let hD
  obtain ⟨F18, eF18, hD⟩ := g_let hD
  obtain ⟨M19, eM19, hD⟩ := g_let hD
  obtain ⟨F20, eF20, hD⟩ := g_let hD
  obtain ⟨M21, eM21, hD⟩ := g_let hD
  obtain ⟨F22, eF22, hD⟩ := g_let hD
  obtain ⟨M23, eM23, hD⟩ := g_let hD
  obtain ⟨F24, eF24, hD⟩ := g_let hD
  have hf : F24 = FZ := by
    have hf := congrArg (fun q => q.1) (Option.some.inj hD)
    exact hf
  rw [← hf]
  refine List.forall_mem_cons.mpr ⟨?_, List.forall_mem_cons.mpr ⟨?_, List.forall_mem_cons.mpr ⟨?_, List.forall_mem_cons.mpr ⟨?_, List.forall_mem_cons.mpr ⟨?_, fun _ h => absurd h List.not_mem_nil⟩⟩⟩⟩⟩
  · show cpx F24 61
    intro j hj hn
    rw [need_O tf_61] at hn
    rw [show (TF _).2 = _ from congrArg Prod.snd tf_61] at hj
    match j, hj, hn with
    | 0, _, _ => exact (show F24 61 0 = some 62 by rw [eF24, mset_j (by decide)]; rw [eF22, mset_j (by decide)]; rw [eF20, mset_j (by decide)]; rw [eF18, mset_j (by decide)]; rw [eF16, mset_j (by decide)]; rw [eF14, mset_j (by decide)]; rw [eF12, mrow_n (by decide)]; rw [eF11, mset_j (by decide)]; rw [eF9, mrow_n (by decide)]; rw [eF8, mset_j (by decide)]; rw [eF6, mset_j (by decide)]; rw [eF4, mrow_n (by decide)]; rw [eF3]; exact mset_s).trans ff_61_0.symm
    | 1, _, _ => exact (show F24 61 1 = some 73 by rw [eF24, mset_j (by decide)]; rw [eF22, mset_j (by decide)]; rw [eF20, mset_j (by decide)]; rw [eF18, mset_j (by decide)]; rw [eF16, mset_j (by decide)]; rw [eF14, mset_j (by decide)]; rw [eF12, mrow_n (by decide)]; rw [eF11, mset_j (by decide)]; rw [eF9, mrow_n (by decide)]; rw [eF8, mset_j (by decide)]; rw [eF6]; exact mset_s).trans ff_61_1.symm
    | 2, _, _ => exact (show F24 61 2 = some 80 by rw [eF24, mset_j (by decide)]; rw [eF22, mset_j (by decide)]; rw [eF20, mset_j (by decide)]; rw [eF18, mset_j (by decide)]; rw [eF16, mset_j (by decide)]; rw [eF14, mset_j (by decide)]; rw [eF12, mrow_n (by decide)]; rw [eF11, mset_j (by decide)]; rw [eF9, mrow_n (by decide)]; rw [eF8]; exact mset_s).trans ff_61_2.symm
    | 3, _, _ => exact (show F24 61 3 = some 81 by rw [eF24, mset_j (by decide)]; rw [eF22, mset_j (by decide)]; rw [eF20, mset_j (by decide)]; rw [eF18, mset_j (by decide)]; rw [eF16, mset_j (by decide)]; rw [eF14, mset_j (by decide)]; rw [eF12, mrow_n (by decide)]; rw [eF11]; exact mset_s).trans ff_61_3.symm
    | 4, _, _ => exact (show F24 61 4 = some 85 by rw [eF24, mset_j (by decide)]; rw [eF22, mset_j (by decide)]; rw [eF20, mset_j (by decide)]; rw [eF18, mset_j (by decide)]; rw [eF16, mset_j (by decide)]; rw [eF14]; exact mset_s).trans ff_61_4.symm
    | 5, _, _ => exact (show F24 61 5 = some 92 by rw [eF24, mset_j (by decide)]; rw [eF22, mset_j (by decide)]; rw [eF20, mset_j (by decide)]; rw [eF18, mset_j (by decide)]; rw [eF16]; exact mset_s).trans ff_61_5.symm
    | 6, _, _ => exact (show F24 61 6 = some 93 by rw [eF24, mset_j (by decide)]; rw [eF22, mset_j (by decide)]; rw [eF20, mset_j (by decide)]; rw [eF18]; exact mset_s).trans ff_61_6.symm
    | 7, _, _ => exact (show F24 61 7 = some 94 by rw [eF24, mset_j (by decide)]; rw [eF22, mset_j (by decide)]; rw [eF20]; exact mset_s).trans ff_61_7.symm
    | 8, _, _ => exact (show F24 61 8 = some 95 by rw [eF24, mset_j (by decide)]; rw [eF22]; exact mset_s).trans ff_61_8.symm
    | 9, _, _ => exact (show F24 61 9 = some 96 by rw [eF24]; exact mset_s).trans ff_61_9.symm
    | 10, _, hn => exact absurd hn (by decide)
    | 11, _, hn => exact absurd hn (by decide)
    | 12, _, hn => exact absurd hn (by decide)
    | 13, _, hn => exact absurd hn (by decide)
    | 14, _, hn => exact absurd hn (by decide)
    | n + 15, hj, _ => exact absurd hj (by show ¬ n + 15 < 15; omega)
  · show cpx F24 62
    intro j hj _
    replace hj : j < 10 := by rw [show (TF _).2 = _ from congrArg Prod.snd tf_62] at hj; exact hj
    exact (show F24 62 j = some (62 + 1 + j) by rw [eF24, mset_k (by decide)]; rw [eF22, mset_k (by decide)]; rw [eF20, mset_k (by decide)]; rw [eF18, mset_k (by decide)]; rw [eF16, mset_k (by decide)]; rw [eF14, mset_k (by decide)]; rw [eF12, mrow_n (by decide)]; rw [eF11, mset_k (by decide)]; rw [eF9, mrow_n (by decide)]; rw [eF8, mset_k (by decide)]; rw [eF6, mset_k (by decide)]; rw [eF4, mrow_n (by decide)]; rw [eF3, mset_k (by decide)]; rw [eF1]; exact mrow_s hj).trans ((fr_62 j hj).1.trans (congrArg some (by omega))).symm
  · show cpx F24 73
    intro j hj _
    replace hj : j < 6 := by rw [show (TF _).2 = _ from congrArg Prod.snd tf_73] at hj; exact hj
    exact (show F24 73 j = some (73 + 1 + j) by rw [eF24, mset_k (by decide)]; rw [eF22, mset_k (by decide)]; rw [eF20, mset_k (by decide)]; rw [eF18, mset_k (by decide)]; rw [eF16, mset_k (by decide)]; rw [eF14, mset_k (by decide)]; rw [eF12, mrow_n (by decide)]; rw [eF11, mset_k (by decide)]; rw [eF9, mrow_n (by decide)]; rw [eF8, mset_k (by decide)]; rw [eF6, mset_k (by decide)]; rw [eF4]; exact mrow_s hj).trans ((fr_73 j hj).1.trans (congrArg some (by omega))).symm
  · show cpx F24 81
    intro j hj _
    replace hj : j < 3 := by rw [show (TF _).2 = _ from congrArg Prod.snd tf_81] at hj; exact hj
    exact (show F24 81 j = some (81 + 1 + j) by rw [eF24, mset_k (by decide)]; rw [eF22, mset_k (by decide)]; rw [eF20, mset_k (by decide)]; rw [eF18, mset_k (by decide)]; rw [eF16, mset_k (by decide)]; rw [eF14, mset_k (by decide)]; rw [eF12, mrow_n (by decide)]; rw [eF11, mset_k (by decide)]; rw [eF9]; exact mrow_s hj).trans ((fr_81 j hj).1.trans (congrArg some (by omega))).symm
  · show cpx F24 85
    intro j hj _
    replace hj : j < 6 := by rw [show (TF _).2 = _ from congrArg Prod.snd tf_85] at hj; exact hj
    exact (show F24 85 j = some (85 + 1 + j) by rw [eF24, mset_k (by decide)]; rw [eF22, mset_k (by decide)]; rw [eF20, mset_k (by decide)]; rw [eF18, mset_k (by decide)]; rw [eF16, mset_k (by decide)]; rw [eF14, mset_k (by decide)]; rw [eF12]; exact mrow_s hj).trans ((fr_85 j hj).1.trans (congrArg some (by omega))).symm
set_option maxHeartbeats 8000000 in
set_option maxRecDepth 100000 in
theorem gX3_init {fu : Nat} {F : mwF} {M : mwM} {L : mwL} {FZ : mwF} {MZ : mwM} {LZ : mwL} (hD : DX3_init fu F M L = some (FZ, MZ, LZ)) : ∀ o ∈ [0, 3, 21], cpx FZ (97 + o) := by
  unfold DX3_init at hD
  obtain ⟨M1, eM1, hD⟩ := g_let hD
  obtain ⟨F2, eF2, hD⟩ := g_let hD
  obtain ⟨M3, eM3, hD⟩ := g_let hD
  obtain ⟨F4, eF4, hD⟩ := g_let hD
  obtain ⟨F5, eF5, hD⟩ := g_let hD
  obtain ⟨M6, eM6, hD⟩ := g_let hD
  obtain ⟨F7, eF7, hD⟩ := g_let hD
  obtain ⟨F8, eF8, hD⟩ := g_let hD
  obtain ⟨M9, eM9, hD⟩ := g_let hD
  obtain ⟨F10, eF10, hD⟩ := g_let hD
  obtain ⟨M11, eM11, hD⟩ := g_let hD
  obtain ⟨F12, eF12, hD⟩ := g_let hD
  obtain ⟨M13, eM13, hD⟩ := g_let hD
  obtain ⟨F14, eF14, hD⟩ := g_let hD
  obtain ⟨M15, eM15, hD⟩ := g_let hD
  obtain ⟨F16, eF16, hD⟩ := g_let hD
  obtain ⟨M17, L18, h1, hD⟩ := g_b2 hD
  have hf : F16 = FZ := by
    have hf := congrArg (fun q => q.1) (Option.some.inj hD)
    exact hf
  rw [← hf]
  refine List.forall_mem_cons.mpr ⟨?_, List.forall_mem_cons.mpr ⟨?_, List.forall_mem_cons.mpr ⟨?_, fun _ h => absurd h List.not_mem_nil⟩⟩⟩
  · show cpx F16 97
    intro j hj hn
    rw [need_O tf_97] at hn
    rw [show (TF _).2 = _ from congrArg Prod.snd tf_97] at hj
    match j, hj, hn with
    | 0, _, _ => exact (show F16 97 0 = some 98 by rw [eF16, mset_j (by decide)]; rw [eF14, mset_j (by decide)]; rw [eF12, mset_j (by decide)]; rw [eF10, mset_j (by decide)]; rw [eF8, mrow_n (by decide)]; rw [eF7, mset_j (by decide)]; rw [eF5, mrow_n (by decide)]; rw [eF4, mset_j (by decide)]; rw [eF2]; exact mset_s).trans ff_97_0.symm
    | 1, _, _ => exact (show F16 97 1 = some 99 by rw [eF16, mset_j (by decide)]; rw [eF14, mset_j (by decide)]; rw [eF12, mset_j (by decide)]; rw [eF10, mset_j (by decide)]; rw [eF8, mrow_n (by decide)]; rw [eF7, mset_j (by decide)]; rw [eF5, mrow_n (by decide)]; rw [eF4]; exact mset_s).trans ff_97_1.symm
    | 2, _, _ => exact (show F16 97 2 = some 100 by rw [eF16, mset_j (by decide)]; rw [eF14, mset_j (by decide)]; rw [eF12, mset_j (by decide)]; rw [eF10, mset_j (by decide)]; rw [eF8, mrow_n (by decide)]; rw [eF7]; exact mset_s).trans ff_97_2.symm
    | 3, _, _ => exact (show F16 97 3 = some 118 by rw [eF16, mset_j (by decide)]; rw [eF14, mset_j (by decide)]; rw [eF12, mset_j (by decide)]; rw [eF10]; exact mset_s).trans ff_97_3.symm
    | 4, _, _ => exact (show F16 97 4 = some 136 by rw [eF16, mset_j (by decide)]; rw [eF14, mset_j (by decide)]; rw [eF12]; exact mset_s).trans ff_97_4.symm
    | 5, _, _ => exact (show F16 97 5 = some 137 by rw [eF16, mset_j (by decide)]; rw [eF14]; exact mset_s).trans ff_97_5.symm
    | 6, _, _ => exact (show F16 97 6 = some 138 by rw [eF16]; exact mset_s).trans ff_97_6.symm
    | n + 7, hj, _ => exact absurd hj (by show ¬ n + 7 < 7; omega)
  · show cpx F16 100
    intro j hj _
    replace hj : j < 17 := by rw [show (TF _).2 = _ from congrArg Prod.snd tf_100] at hj; exact hj
    exact (show F16 100 j = some (100 + 1 + j) by rw [eF16, mset_k (by decide)]; rw [eF14, mset_k (by decide)]; rw [eF12, mset_k (by decide)]; rw [eF10, mset_k (by decide)]; rw [eF8, mrow_n (by decide)]; rw [eF7, mset_k (by decide)]; rw [eF5]; exact mrow_s hj).trans ((fr_100 j hj).1.trans (congrArg some (by omega))).symm
  · show cpx F16 118
    intro j hj _
    replace hj : j < 17 := by rw [show (TF _).2 = _ from congrArg Prod.snd tf_118] at hj; exact hj
    exact (show F16 118 j = some (118 + 1 + j) by rw [eF16, mset_k (by decide)]; rw [eF14, mset_k (by decide)]; rw [eF12, mset_k (by decide)]; rw [eF10, mset_k (by decide)]; rw [eF8]; exact mrow_s hj).trans ((fr_118 j hj).1.trans (congrArg some (by omega))).symm
set_option maxHeartbeats 8000000 in
set_option maxRecDepth 100000 in
theorem gX10_init {fu : Nat} {F : mwF} {M : mwM} {L : mwL} {FZ : mwF} {MZ : mwM} {LZ : mwL} (hD : DX10_init fu F M L = some (FZ, MZ, LZ)) : ∀ o ∈ [0, 1], cpx FZ (139 + o) := by
  unfold DX10_init at hD
  obtain ⟨F1, eF1, hD⟩ := g_let hD
  obtain ⟨M2, eM2, hD⟩ := g_let hD
  obtain ⟨F3, eF3, hD⟩ := g_let hD
  obtain ⟨M4, eM4, hD⟩ := g_let hD
  obtain ⟨F5, eF5, hD⟩ := g_let hD
  have hf : F5 = FZ := by
    have hf := congrArg (fun q => q.1) (Option.some.inj hD)
    exact hf
  rw [← hf]
  refine List.forall_mem_cons.mpr ⟨?_, List.forall_mem_cons.mpr ⟨?_, fun _ h => absurd h List.not_mem_nil⟩⟩
  · show cpx F5 139
    intro j hj hn
    rw [need_O tf_139] at hn
    rw [show (TF _).2 = _ from congrArg Prod.snd tf_139] at hj
    match j, hj, hn with
    | 0, _, _ => exact (show F5 139 0 = some 140 by rw [eF5, mset_j (by decide)]; rw [eF3]; exact mset_s).trans ff_139_0.symm
    | 1, _, _ => exact (show F5 139 1 = some 153 by rw [eF5]; exact mset_s).trans ff_139_1.symm
    | 2, _, hn => exact absurd hn (by decide)
    | 3, _, hn => exact absurd hn (by decide)
    | 4, _, hn => exact absurd hn (by decide)
    | 5, _, hn => exact absurd hn (by decide)
    | n + 6, hj, _ => exact absurd hj (by show ¬ n + 6 < 6; omega)
  · show cpx F5 140
    intro j hj _
    replace hj : j < 12 := by rw [show (TF _).2 = _ from congrArg Prod.snd tf_140] at hj; exact hj
    exact (show F5 140 j = some (140 + 1 + j) by rw [eF5, mset_k (by decide)]; rw [eF3, mset_k (by decide)]; rw [eF1]; exact mrow_s hj).trans ((fr_140 j hj).1.trans (congrArg some (by omega))).symm
set_option maxHeartbeats 8000000 in
set_option maxRecDepth 100000 in
theorem gX9_init {fu : Nat} {F : mwF} {M : mwM} {L : mwL} {FZ : mwF} {MZ : mwM} {LZ : mwL} (hD : DX9_init fu F M L = some (FZ, MZ, LZ)) : ∀ o ∈ [0, 1, 7, 109, 115], cpx FZ (154 + o) := by
  unfold DX9_init at hD
  obtain ⟨F1, eF1, hD⟩ := g_let hD
  obtain ⟨M2, eM2, hD⟩ := g_let hD
  obtain ⟨F3, eF3, hD⟩ := g_let hD
  obtain ⟨F4, eF4, hD⟩ := g_let hD
  obtain ⟨M5, eM5, hD⟩ := g_let hD
  obtain ⟨F6, eF6, hD⟩ := g_let hD
  obtain ⟨F7, eF7, hD⟩ := g_let hD
  obtain ⟨M8, eM8, hD⟩ := g_let hD
  obtain ⟨F9, eF9, hD⟩ := g_let hD
  obtain ⟨F10, eF10, hD⟩ := g_let hD
  obtain ⟨M11, eM11, hD⟩ := g_let hD
  obtain ⟨F12, eF12, hD⟩ := g_let hD
  obtain ⟨M13, eM13, hD⟩ := g_let hD
  obtain ⟨F14, eF14, hD⟩ := g_let hD
  have hf : F14 = FZ := by
    have hf := congrArg (fun q => q.1) (Option.some.inj hD)
    exact hf
  rw [← hf]
  refine List.forall_mem_cons.mpr ⟨?_, List.forall_mem_cons.mpr ⟨?_, List.forall_mem_cons.mpr ⟨?_, List.forall_mem_cons.mpr ⟨?_, List.forall_mem_cons.mpr ⟨?_, fun _ h => absurd h List.not_mem_nil⟩⟩⟩⟩⟩
  · show cpx F14 154
    intro j hj hn
    rw [need_O tf_154] at hn
    rw [show (TF _).2 = _ from congrArg Prod.snd tf_154] at hj
    match j, hj, hn with
    | 0, _, _ => exact (show F14 154 0 = some 155 by rw [eF14, mset_j (by decide)]; rw [eF12, mset_j (by decide)]; rw [eF10, mrow_n (by decide)]; rw [eF9, mset_j (by decide)]; rw [eF7, mrow_n (by decide)]; rw [eF6, mset_j (by decide)]; rw [eF4, mrow_n (by decide)]; rw [eF3]; exact mset_s).trans ff_154_0.symm
    | 1, _, _ => exact (show F14 154 1 = some 161 by rw [eF14, mset_j (by decide)]; rw [eF12, mset_j (by decide)]; rw [eF10, mrow_n (by decide)]; rw [eF9, mset_j (by decide)]; rw [eF7, mrow_n (by decide)]; rw [eF6]; exact mset_s).trans ff_154_1.symm
    | 2, _, _ => exact (show F14 154 2 = some 263 by rw [eF14, mset_j (by decide)]; rw [eF12, mset_j (by decide)]; rw [eF10, mrow_n (by decide)]; rw [eF9]; exact mset_s).trans ff_154_2.symm
    | 3, _, _ => exact (show F14 154 3 = some 269 by rw [eF14, mset_j (by decide)]; rw [eF12]; exact mset_s).trans ff_154_3.symm
    | 4, _, _ => exact (show F14 154 4 = some 274 by rw [eF14]; exact mset_s).trans ff_154_4.symm
    | 5, _, hn => exact absurd hn (by decide)
    | 6, _, hn => exact absurd hn (by decide)
    | 7, _, hn => exact absurd hn (by decide)
    | 8, _, hn => exact absurd hn (by decide)
    | 9, _, hn => exact absurd hn (by decide)
    | 10, _, hn => exact absurd hn (by decide)
    | n + 11, hj, _ => exact absurd hj (by show ¬ n + 11 < 11; omega)
  · show cpx F14 155
    intro j hj _
    replace hj : j < 5 := by rw [show (TF _).2 = _ from congrArg Prod.snd tf_155] at hj; exact hj
    exact (show F14 155 j = some (155 + 1 + j) by rw [eF14, mset_k (by decide)]; rw [eF12, mset_k (by decide)]; rw [eF10, mrow_n (by decide)]; rw [eF9, mset_k (by decide)]; rw [eF7, mrow_n (by decide)]; rw [eF6, mset_k (by decide)]; rw [eF4, mrow_n (by decide)]; rw [eF3, mset_k (by decide)]; rw [eF1]; exact mrow_s hj).trans ((fr_155 j hj).1.trans (congrArg some (by omega))).symm
  · show cpx F14 161
    intro j hj _
    replace hj : j < 101 := by rw [show (TF _).2 = _ from congrArg Prod.snd tf_161] at hj; exact hj
    exact (show F14 161 j = some (161 + 1 + j) by rw [eF14, mset_k (by decide)]; rw [eF12, mset_k (by decide)]; rw [eF10, mrow_n (by decide)]; rw [eF9, mset_k (by decide)]; rw [eF7, mrow_n (by decide)]; rw [eF6, mset_k (by decide)]; rw [eF4]; exact mrow_s hj).trans ((fr_161 j hj).1.trans (congrArg some (by omega))).symm
  · show cpx F14 263
    intro j hj _
    replace hj : j < 5 := by rw [show (TF _).2 = _ from congrArg Prod.snd tf_263] at hj; exact hj
    exact (show F14 263 j = some (263 + 1 + j) by rw [eF14, mset_k (by decide)]; rw [eF12, mset_k (by decide)]; rw [eF10, mrow_n (by decide)]; rw [eF9, mset_k (by decide)]; rw [eF7]; exact mrow_s hj).trans ((fr_263 j hj).1.trans (congrArg some (by omega))).symm
  · show cpx F14 269
    intro j hj _
    replace hj : j < 4 := by rw [show (TF _).2 = _ from congrArg Prod.snd tf_269] at hj; exact hj
    exact (show F14 269 j = some (269 + 1 + j) by rw [eF14, mset_k (by decide)]; rw [eF12, mset_k (by decide)]; rw [eF10]; exact mrow_s hj).trans ((fr_269 j hj).1.trans (congrArg some (by omega))).symm
set_option maxHeartbeats 8000000 in
set_option maxRecDepth 100000 in
theorem gX7_init {fu : Nat} {F : mwF} {M : mwM} {L : mwL} {FZ : mwF} {MZ : mwM} {LZ : mwL} (hD : DX7_init fu F M L = some (FZ, MZ, LZ)) : ∀ o ∈ [0], cpx FZ (275 + o) := by
  unfold DX7_init at hD
  obtain ⟨M1, eM1, hD⟩ := g_let hD
  obtain ⟨F2, eF2, hD⟩ := g_let hD
  obtain ⟨M3, eM3, hD⟩ := g_let hD
  obtain ⟨F4, eF4, hD⟩ := g_let hD
  obtain ⟨M5, eM5, hD⟩ := g_let hD
  obtain ⟨F6, eF6, hD⟩ := g_let hD
  obtain ⟨M7, eM7, hD⟩ := g_let hD
  obtain ⟨F8, eF8, hD⟩ := g_let hD
  obtain ⟨M9, eM9, hD⟩ := g_let hD
  obtain ⟨F10, eF10, hD⟩ := g_let hD
  obtain ⟨M11, eM11, hD⟩ := g_let hD
  obtain ⟨F12, eF12, hD⟩ := g_let hD
  obtain ⟨M13, eM13, hD⟩ := g_let hD
  obtain ⟨F14, eF14, hD⟩ := g_let hD
  have hf : F14 = FZ := by
    have hf := congrArg (fun q => q.1) (Option.some.inj hD)
    exact hf
  rw [← hf]
  refine List.forall_mem_cons.mpr ⟨?_, fun _ h => absurd h List.not_mem_nil⟩
  · show cpx F14 275
    intro j hj hn
    rw [need_O tf_275] at hn
    rw [show (TF _).2 = _ from congrArg Prod.snd tf_275] at hj
    match j, hj, hn with
    | 0, _, _ => exact (show F14 275 0 = some 276 by rw [eF14, mset_j (by decide)]; rw [eF12, mset_j (by decide)]; rw [eF10, mset_j (by decide)]; rw [eF8, mset_j (by decide)]; rw [eF6, mset_j (by decide)]; rw [eF4, mset_j (by decide)]; rw [eF2]; exact mset_s).trans ff_275_0.symm
    | 1, _, _ => exact (show F14 275 1 = some 277 by rw [eF14, mset_j (by decide)]; rw [eF12, mset_j (by decide)]; rw [eF10, mset_j (by decide)]; rw [eF8, mset_j (by decide)]; rw [eF6, mset_j (by decide)]; rw [eF4]; exact mset_s).trans ff_275_1.symm
    | 2, _, _ => exact (show F14 275 2 = some 278 by rw [eF14, mset_j (by decide)]; rw [eF12, mset_j (by decide)]; rw [eF10, mset_j (by decide)]; rw [eF8, mset_j (by decide)]; rw [eF6]; exact mset_s).trans ff_275_2.symm
    | 3, _, _ => exact (show F14 275 3 = some 279 by rw [eF14, mset_j (by decide)]; rw [eF12, mset_j (by decide)]; rw [eF10, mset_j (by decide)]; rw [eF8]; exact mset_s).trans ff_275_3.symm
    | 4, _, _ => exact (show F14 275 4 = some 280 by rw [eF14, mset_j (by decide)]; rw [eF12, mset_j (by decide)]; rw [eF10]; exact mset_s).trans ff_275_4.symm
    | 5, _, _ => exact (show F14 275 5 = some 281 by rw [eF14, mset_j (by decide)]; rw [eF12]; exact mset_s).trans ff_275_5.symm
    | 6, _, _ => exact (show F14 275 6 = some 282 by rw [eF14]; exact mset_s).trans ff_275_6.symm
    | 7, _, hn => exact absurd hn (by decide)
    | 8, _, hn => exact absurd hn (by decide)
    | n + 9, hj, _ => exact absurd hj (by show ¬ n + 9 < 9; omega)
set_option maxHeartbeats 8000000 in
set_option maxRecDepth 100000 in
theorem gX2_init {fu : Nat} {k : Nat} {F : mwF} {M : mwM} {L : mwL} {FZ : mwF} {MZ : mwM} {LZ : mwL} (hk0 : isCh k) (hD : DX2_init fu k F M L = some (FZ, MZ, LZ)) : ∀ o ∈ [0, 1, 20, 28], cpx FZ (k + o) := by
  unfold DX2_init at hD
  obtain ⟨F1, eF1, hD⟩ := g_let hD
  obtain ⟨M2, eM2, hD⟩ := g_let hD
  obtain ⟨F3, eF3, hD⟩ := g_let hD
  obtain ⟨F4, eF4, hD⟩ := g_let hD
  obtain ⟨M5, eM5, hD⟩ := g_let hD
  obtain ⟨F6, eF6, hD⟩ := g_let hD
  obtain ⟨F7, eF7, hD⟩ := g_let hD
  obtain ⟨M8, eM8, hD⟩ := g_let hD
  obtain ⟨F9, eF9, hD⟩ := g_let hD
  obtain ⟨L10, eL10, hD⟩ := g_let hD
  obtain ⟨F11, eF11, hD⟩ := g_let hD
  obtain ⟨M12, eM12, hD⟩ := g_let hD
  obtain ⟨F13, eF13, hD⟩ := g_let hD
  have hf : F13 = FZ := by
    have hf := congrArg (fun q => q.1) (Option.some.inj hD)
    exact hf
  rw [← hf]
  refine List.forall_mem_cons.mpr ⟨?_, List.forall_mem_cons.mpr ⟨?_, List.forall_mem_cons.mpr ⟨?_, List.forall_mem_cons.mpr ⟨?_, fun _ h => absurd h List.not_mem_nil⟩⟩⟩⟩
  · intro j hj hn
    rw [need_O (Ch_T0 hk0)] at hn
    rw [show (TF _).2 = _ from congrArg Prod.snd (Ch_T0 hk0)] at hj
    match j, hj, hn with
    | 0, _, _ => exact (show F13 k 0 = some (k + 1) by rw [eF13, mset_j (by decide)]; rw [eF11, mset_j (by decide)]; rw [eF9, mset_j (by decide)]; rw [eF7, mrow_n (by omega)]; rw [eF6, mset_j (by decide)]; rw [eF4, mrow_n (by omega)]; rw [eF3]; exact mset_s).trans (Ch_F0_0 hk0).symm
    | 1, _, _ => exact (show F13 k 1 = some (k + 20) by rw [eF13, mset_j (by decide)]; rw [eF11, mset_j (by decide)]; rw [eF9, mset_j (by decide)]; rw [eF7, mrow_n (by omega)]; rw [eF6]; exact mset_s).trans (Ch_F0_1 hk0).symm
    | 2, _, _ => exact (show F13 k 2 = some (k + 28) by rw [eF13, mset_j (by decide)]; rw [eF11, mset_j (by decide)]; rw [eF9]; exact mset_s).trans (Ch_F0_2 hk0).symm
    | 3, _, _ => exact (show F13 k 3 = some (k + 34) by rw [eF13, mset_j (by decide)]; rw [eF11]; exact mset_s).trans (Ch_F0_3 hk0).symm
    | 4, _, _ => exact (show F13 k 4 = some (k + 35) by rw [eF13]; exact mset_s).trans (Ch_F0_4 hk0).symm
    | 5, _, hn => exact absurd hn (by decide)
    | 6, _, hn => exact absurd hn (by decide)
    | 7, _, hn => exact absurd hn (by decide)
    | 8, _, hn => exact absurd hn (by decide)
    | 9, _, hn => exact absurd hn (by decide)
    | 10, _, hn => exact absurd hn (by decide)
    | 11, _, hn => exact absurd hn (by decide)
    | 12, _, hn => exact absurd hn (by decide)
    | 13, _, hn => exact absurd hn (by decide)
    | 14, _, hn => exact absurd hn (by decide)
    | 15, _, hn => exact absurd hn (by decide)
    | 16, _, hn => exact absurd hn (by decide)
    | n + 17, hj, _ => exact absurd hj (by show ¬ n + 17 < 17; omega)
  · intro j hj _
    replace hj : j < 18 := by rw [show (TF _).2 = _ from congrArg Prod.snd (Ch_T1 hk0)] at hj; exact hj
    exact (show F13 (k + 1) j = some ((k + 1) + 1 + j) by rw [eF13, mset_k (by omega)]; rw [eF11, mset_k (by omega)]; rw [eF9, mset_k (by omega)]; rw [eF7, mrow_n (by omega)]; rw [eF6, mset_k (by omega)]; rw [eF4, mrow_n (by omega)]; rw [eF3, mset_k (by omega)]; rw [eF1]; exact mrow_s hj).trans ((Ch_R1 hk0 j hj).1.trans (congrArg some (by omega))).symm
  · intro j hj _
    replace hj : j < 7 := by rw [show (TF _).2 = _ from congrArg Prod.snd (Ch_T20 hk0)] at hj; exact hj
    exact (show F13 (k + 20) j = some ((k + 20) + 1 + j) by rw [eF13, mset_k (by omega)]; rw [eF11, mset_k (by omega)]; rw [eF9, mset_k (by omega)]; rw [eF7, mrow_n (by omega)]; rw [eF6, mset_k (by omega)]; rw [eF4]; exact mrow_s hj).trans ((Ch_R20 hk0 j hj).1.trans (congrArg some (by omega))).symm
  · intro j hj _
    replace hj : j < 5 := by rw [show (TF _).2 = _ from congrArg Prod.snd (Ch_T28 hk0)] at hj; exact hj
    exact (show F13 (k + 28) j = some ((k + 28) + 1 + j) by rw [eF13, mset_k (by omega)]; rw [eF11, mset_k (by omega)]; rw [eF9, mset_k (by omega)]; rw [eF7]; exact mrow_s hj).trans ((Ch_R28 hk0 j hj).1.trans (congrArg some (by omega))).symm
set_option maxHeartbeats 8000000 in
set_option maxRecDepth 100000 in
theorem gX1_init {fu : Nat} {F : mwF} {M : mwM} {L : mwL} {FZ : mwF} {MZ : mwM} {LZ : mwL} (hD : DX1_init fu F M L = some (FZ, MZ, LZ)) : ∀ o ∈ [0, 1, 2, 3, 17, 21, 30, 38, 39, 44, 46, 48, 50, 52, 54, 56, 58, 59, 70, 78, 82, 94, 97, 115, 136, 137, 151, 152, 158, 260, 266, 272, 282, 290, 291, 310, 318, 326, 327, 346, 354, 362, 363, 382, 390, 398, 399, 418, 426, 434, 435, 454, 462, 470, 471, 490, 498, 506, 507, 526, 534, 542, 543, 562, 570, 578, 579, 598, 606, 614, 615, 634, 642, 650, 651, 670, 678, 686, 687, 706, 714], cpx FZ (3 + o) := by
  unfold DX1_init at hD
  obtain ⟨F1, eF1, hD⟩ := g_let hD
  obtain ⟨F2, eF2, hD⟩ := g_let hD
  obtain ⟨F3, eF3, hD⟩ := g_let hD
  obtain ⟨M4, eM4, hD⟩ := g_let hD
  obtain ⟨L5, eL5, hD⟩ := g_let hD
  obtain ⟨F6, M7, L8, hc6, hD⟩ := g_b3 hD
  have eF6 : ∀ a j, (a < 5 ∨ 20 ≤ a) → F6 a j = F3 a j := fun a j ha => kX4_init hc6 a j (by omega)
  obtain ⟨F9, eF9, hD⟩ := g_let hD
  obtain ⟨F10, eF10, hD⟩ := g_let hD
  obtain ⟨M11, eM11, hD⟩ := g_let hD
  obtain ⟨L12, eL12, hD⟩ := g_let hD
  obtain ⟨F13, M14, L15, hc13, hD⟩ := g_b3 hD
  have eF13 : ∀ a j, (a < 20 ∨ 61 ≤ a) → F13 a j = F10 a j := fun a j ha => kX0_init hc13 a j (by omega)
  obtain ⟨F16, eF16, hD⟩ := g_let hD
  obtain ⟨F17, eF17, hD⟩ := g_let hD
  obtain ⟨M18, eM18, hD⟩ := g_let hD
  obtain ⟨L19, eL19, hD⟩ := g_let hD
  obtain ⟨F20, M21, L22, hc20, hD⟩ := g_b3 hD
  have eF20 : ∀ a j, (a < 61 ∨ 97 ≤ a) → F20 a j = F17 a j := fun a j ha => kX6_init hc20 a j (by omega)
  obtain ⟨F23, eF23, hD⟩ := g_let hD
  obtain ⟨F24, eF24, hD⟩ := g_let hD
  obtain ⟨M25, eM25, hD⟩ := g_let hD
  obtain ⟨L26, eL26, hD⟩ := g_let hD
  obtain ⟨F27, M28, L29, hc27, hD⟩ := g_b3 hD
  have eF27 : ∀ a j, (a < 97 ∨ 139 ≤ a) → F27 a j = F24 a j := fun a j ha => kX3_init hc27 a j (by omega)
  obtain ⟨F30, eF30, hD⟩ := g_let hD
  obtain ⟨F31, eF31, hD⟩ := g_let hD
  obtain ⟨M32, eM32, hD⟩ := g_let hD
  obtain ⟨L33, eL33, hD⟩ := g_let hD
  obtain ⟨F34, M35, L36, hc34, hD⟩ := g_b3 hD
  have eF34 : ∀ a j, (a < 139 ∨ 154 ≤ a) → F34 a j = F31 a j := fun a j ha => kX10_init hc34 a j (by omega)
  obtain ⟨F37, eF37, hD⟩ := g_let hD
  obtain ⟨F38, eF38, hD⟩ := g_let hD
  obtain ⟨M39, eM39, hD⟩ := g_let hD
  obtain ⟨L40, eL40, hD⟩ := g_let hD
  obtain ⟨F41, M42, L43, hc41, hD⟩ := g_b3 hD
  have eF41 : ∀ a j, (a < 154 ∨ 275 ≤ a) → F41 a j = F38 a j := fun a j ha => kX9_init hc41 a j (by omega)
  obtain ⟨F44, eF44, hD⟩ := g_let hD
  obtain ⟨F45, eF45, hD⟩ := g_let hD
  obtain ⟨M46, eM46, hD⟩ := g_let hD
  obtain ⟨L47, eL47, hD⟩ := g_let hD
  obtain ⟨F48, M49, L50, hc48, hD⟩ := g_b3 hD
  have eF48 : ∀ a j, (a < 275 ∨ 283 ≤ a) → F48 a j = F45 a j := fun a j ha => kX7_init hc48 a j (by omega)
  obtain ⟨F51, eF51, hD⟩ := g_let hD
  obtain ⟨M52, eM52, hD⟩ := g_let hD
  obtain ⟨F53, eF53, hD⟩ := g_let hD
  obtain ⟨M54, eM54, hD⟩ := g_let hD
  obtain ⟨F55, eF55, hD⟩ := g_let hD
  obtain ⟨F56, eF56, hD⟩ := g_let hD
  obtain ⟨M57, eM57, hD⟩ := g_let hD
  obtain ⟨F58, eF58, hD⟩ := g_let hD
  obtain ⟨L59, eL59, hD⟩ := g_let hD
  obtain ⟨F60, eF60, hD⟩ := g_let hD
  obtain ⟨M61, eM61, hD⟩ := g_let hD
  obtain ⟨F62, eF62, hD⟩ := g_let hD
  obtain ⟨F63, eF63, hD⟩ := g_let hD
  obtain ⟨M64, eM64, hD⟩ := g_let hD
  obtain ⟨L65, eL65, hD⟩ := g_let hD
  obtain ⟨F66, M67, L68, hc66, hD⟩ := g_b3 hD
  have eF66 : ∀ a j, (a < 293 ∨ 329 ≤ a) → F66 a j = F63 a j := fun a j ha => kX2_init hc66 a j (by omega)
  obtain ⟨F69, eF69, hD⟩ := g_let hD
  obtain ⟨F70, eF70, hD⟩ := g_let hD
  obtain ⟨M71, eM71, hD⟩ := g_let hD
  obtain ⟨L72, eL72, hD⟩ := g_let hD
  obtain ⟨F73, M74, L75, hc73, hD⟩ := g_b3 hD
  have eF73 : ∀ a j, (a < 329 ∨ 365 ≤ a) → F73 a j = F70 a j := fun a j ha => kX2_init hc73 a j (by omega)
  obtain ⟨F76, eF76, hD⟩ := g_let hD
  obtain ⟨F77, eF77, hD⟩ := g_let hD
  obtain ⟨M78, eM78, hD⟩ := g_let hD
  obtain ⟨L79, eL79, hD⟩ := g_let hD
  obtain ⟨F80, M81, L82, hc80, hD⟩ := g_b3 hD
  have eF80 : ∀ a j, (a < 365 ∨ 401 ≤ a) → F80 a j = F77 a j := fun a j ha => kX2_init hc80 a j (by omega)
  obtain ⟨F83, eF83, hD⟩ := g_let hD
  obtain ⟨F84, eF84, hD⟩ := g_let hD
  obtain ⟨M85, eM85, hD⟩ := g_let hD
  obtain ⟨L86, eL86, hD⟩ := g_let hD
  obtain ⟨F87, M88, L89, hc87, hD⟩ := g_b3 hD
  have eF87 : ∀ a j, (a < 401 ∨ 437 ≤ a) → F87 a j = F84 a j := fun a j ha => kX2_init hc87 a j (by omega)
  obtain ⟨F90, eF90, hD⟩ := g_let hD
  obtain ⟨F91, eF91, hD⟩ := g_let hD
  obtain ⟨M92, eM92, hD⟩ := g_let hD
  obtain ⟨L93, eL93, hD⟩ := g_let hD
  obtain ⟨F94, M95, L96, hc94, hD⟩ := g_b3 hD
  have eF94 : ∀ a j, (a < 437 ∨ 473 ≤ a) → F94 a j = F91 a j := fun a j ha => kX2_init hc94 a j (by omega)
  obtain ⟨F97, eF97, hD⟩ := g_let hD
  obtain ⟨F98, eF98, hD⟩ := g_let hD
  obtain ⟨M99, eM99, hD⟩ := g_let hD
  obtain ⟨L100, eL100, hD⟩ := g_let hD
  obtain ⟨F101, M102, L103, hc101, hD⟩ := g_b3 hD
  have eF101 : ∀ a j, (a < 473 ∨ 509 ≤ a) → F101 a j = F98 a j := fun a j ha => kX2_init hc101 a j (by omega)
  obtain ⟨F104, eF104, hD⟩ := g_let hD
  obtain ⟨F105, eF105, hD⟩ := g_let hD
  obtain ⟨M106, eM106, hD⟩ := g_let hD
  obtain ⟨L107, eL107, hD⟩ := g_let hD
  obtain ⟨F108, M109, L110, hc108, hD⟩ := g_b3 hD
  have eF108 : ∀ a j, (a < 509 ∨ 545 ≤ a) → F108 a j = F105 a j := fun a j ha => kX2_init hc108 a j (by omega)
  obtain ⟨F111, eF111, hD⟩ := g_let hD
  obtain ⟨F112, eF112, hD⟩ := g_let hD
  obtain ⟨M113, eM113, hD⟩ := g_let hD
  obtain ⟨L114, eL114, hD⟩ := g_let hD
  obtain ⟨F115, M116, L117, hc115, hD⟩ := g_b3 hD
  have eF115 : ∀ a j, (a < 545 ∨ 581 ≤ a) → F115 a j = F112 a j := fun a j ha => kX2_init hc115 a j (by omega)
  obtain ⟨F118, eF118, hD⟩ := g_let hD
  obtain ⟨F119, eF119, hD⟩ := g_let hD
  obtain ⟨M120, eM120, hD⟩ := g_let hD
  obtain ⟨L121, eL121, hD⟩ := g_let hD
  obtain ⟨F122, M123, L124, hc122, hD⟩ := g_b3 hD
  have eF122 : ∀ a j, (a < 581 ∨ 617 ≤ a) → F122 a j = F119 a j := fun a j ha => kX2_init hc122 a j (by omega)
  obtain ⟨F125, eF125, hD⟩ := g_let hD
  obtain ⟨F126, eF126, hD⟩ := g_let hD
  obtain ⟨M127, eM127, hD⟩ := g_let hD
  obtain ⟨L128, eL128, hD⟩ := g_let hD
  obtain ⟨F129, M130, L131, hc129, hD⟩ := g_b3 hD
  have eF129 : ∀ a j, (a < 617 ∨ 653 ≤ a) → F129 a j = F126 a j := fun a j ha => kX2_init hc129 a j (by omega)
  obtain ⟨F132, eF132, hD⟩ := g_let hD
  obtain ⟨F133, eF133, hD⟩ := g_let hD
  obtain ⟨M134, eM134, hD⟩ := g_let hD
  obtain ⟨L135, eL135, hD⟩ := g_let hD
  obtain ⟨F136, M137, L138, hc136, hD⟩ := g_b3 hD
  have eF136 : ∀ a j, (a < 653 ∨ 689 ≤ a) → F136 a j = F133 a j := fun a j ha => kX2_init hc136 a j (by omega)
  obtain ⟨F139, eF139, hD⟩ := g_let hD
  obtain ⟨F140, eF140, hD⟩ := g_let hD
  obtain ⟨M141, eM141, hD⟩ := g_let hD
  obtain ⟨L142, eL142, hD⟩ := g_let hD
  obtain ⟨F143, M144, L145, hc143, hD⟩ := g_b3 hD
  have eF143 : ∀ a j, (a < 689 ∨ 725 ≤ a) → F143 a j = F140 a j := fun a j ha => kX2_init hc143 a j (by omega)
  obtain ⟨F146, eF146, hD⟩ := g_let hD
  have hf : F146 = FZ := by
    have hf := congrArg (fun q => q.1) (Option.some.inj hD)
    exact hf
  rw [← hf]
  have kpF6 : ∀ a j, (5 ≤ a ∧ a < 20) → F146 a j = F6 a j := by
    intro a j ha
    rw [eF146, mset_k (by omega)]
    rw [eF143 a j (by omega)]
    rw [eF140, mz_n (by omega)]
    rw [eF139, mset_k (by omega)]
    rw [eF136 a j (by omega)]
    rw [eF133, mz_n (by omega)]
    rw [eF132, mset_k (by omega)]
    rw [eF129 a j (by omega)]
    rw [eF126, mz_n (by omega)]
    rw [eF125, mset_k (by omega)]
    rw [eF122 a j (by omega)]
    rw [eF119, mz_n (by omega)]
    rw [eF118, mset_k (by omega)]
    rw [eF115 a j (by omega)]
    rw [eF112, mz_n (by omega)]
    rw [eF111, mset_k (by omega)]
    rw [eF108 a j (by omega)]
    rw [eF105, mz_n (by omega)]
    rw [eF104, mset_k (by omega)]
    rw [eF101 a j (by omega)]
    rw [eF98, mz_n (by omega)]
    rw [eF97, mset_k (by omega)]
    rw [eF94 a j (by omega)]
    rw [eF91, mz_n (by omega)]
    rw [eF90, mset_k (by omega)]
    rw [eF87 a j (by omega)]
    rw [eF84, mz_n (by omega)]
    rw [eF83, mset_k (by omega)]
    rw [eF80 a j (by omega)]
    rw [eF77, mz_n (by omega)]
    rw [eF76, mset_k (by omega)]
    rw [eF73 a j (by omega)]
    rw [eF70, mz_n (by omega)]
    rw [eF69, mset_k (by omega)]
    rw [eF66 a j (by omega)]
    rw [eF63, mz_n (by omega)]
    rw [eF62, mset_k (by omega)]
    rw [eF60, mset_k (by omega)]
    rw [eF58, mset_k (by omega)]
    rw [eF56, mrow_n (by omega)]
    rw [eF55, mset_k (by omega)]
    rw [eF53, mset_k (by omega)]
    rw [eF51, mset_k (by omega)]
    rw [eF48 a j (by omega)]
    rw [eF45, mz_n (by omega)]
    rw [eF44, mset_k (by omega)]
    rw [eF41 a j (by omega)]
    rw [eF38, mz_n (by omega)]
    rw [eF37, mset_k (by omega)]
    rw [eF34 a j (by omega)]
    rw [eF31, mz_n (by omega)]
    rw [eF30, mset_k (by omega)]
    rw [eF27 a j (by omega)]
    rw [eF24, mz_n (by omega)]
    rw [eF23, mset_k (by omega)]
    rw [eF20 a j (by omega)]
    rw [eF17, mz_n (by omega)]
    rw [eF16, mset_k (by omega)]
    rw [eF13 a j (by omega)]
    rw [eF10, mz_n (by omega)]
    rw [eF9, mset_k (by omega)]
  have kpF13 : ∀ a j, (20 ≤ a ∧ a < 61) → F146 a j = F13 a j := by
    intro a j ha
    rw [eF146, mset_k (by omega)]
    rw [eF143 a j (by omega)]
    rw [eF140, mz_n (by omega)]
    rw [eF139, mset_k (by omega)]
    rw [eF136 a j (by omega)]
    rw [eF133, mz_n (by omega)]
    rw [eF132, mset_k (by omega)]
    rw [eF129 a j (by omega)]
    rw [eF126, mz_n (by omega)]
    rw [eF125, mset_k (by omega)]
    rw [eF122 a j (by omega)]
    rw [eF119, mz_n (by omega)]
    rw [eF118, mset_k (by omega)]
    rw [eF115 a j (by omega)]
    rw [eF112, mz_n (by omega)]
    rw [eF111, mset_k (by omega)]
    rw [eF108 a j (by omega)]
    rw [eF105, mz_n (by omega)]
    rw [eF104, mset_k (by omega)]
    rw [eF101 a j (by omega)]
    rw [eF98, mz_n (by omega)]
    rw [eF97, mset_k (by omega)]
    rw [eF94 a j (by omega)]
    rw [eF91, mz_n (by omega)]
    rw [eF90, mset_k (by omega)]
    rw [eF87 a j (by omega)]
    rw [eF84, mz_n (by omega)]
    rw [eF83, mset_k (by omega)]
    rw [eF80 a j (by omega)]
    rw [eF77, mz_n (by omega)]
    rw [eF76, mset_k (by omega)]
    rw [eF73 a j (by omega)]
    rw [eF70, mz_n (by omega)]
    rw [eF69, mset_k (by omega)]
    rw [eF66 a j (by omega)]
    rw [eF63, mz_n (by omega)]
    rw [eF62, mset_k (by omega)]
    rw [eF60, mset_k (by omega)]
    rw [eF58, mset_k (by omega)]
    rw [eF56, mrow_n (by omega)]
    rw [eF55, mset_k (by omega)]
    rw [eF53, mset_k (by omega)]
    rw [eF51, mset_k (by omega)]
    rw [eF48 a j (by omega)]
    rw [eF45, mz_n (by omega)]
    rw [eF44, mset_k (by omega)]
    rw [eF41 a j (by omega)]
    rw [eF38, mz_n (by omega)]
    rw [eF37, mset_k (by omega)]
    rw [eF34 a j (by omega)]
    rw [eF31, mz_n (by omega)]
    rw [eF30, mset_k (by omega)]
    rw [eF27 a j (by omega)]
    rw [eF24, mz_n (by omega)]
    rw [eF23, mset_k (by omega)]
    rw [eF20 a j (by omega)]
    rw [eF17, mz_n (by omega)]
    rw [eF16, mset_k (by omega)]
  have kpF20 : ∀ a j, (61 ≤ a ∧ a < 97) → F146 a j = F20 a j := by
    intro a j ha
    rw [eF146, mset_k (by omega)]
    rw [eF143 a j (by omega)]
    rw [eF140, mz_n (by omega)]
    rw [eF139, mset_k (by omega)]
    rw [eF136 a j (by omega)]
    rw [eF133, mz_n (by omega)]
    rw [eF132, mset_k (by omega)]
    rw [eF129 a j (by omega)]
    rw [eF126, mz_n (by omega)]
    rw [eF125, mset_k (by omega)]
    rw [eF122 a j (by omega)]
    rw [eF119, mz_n (by omega)]
    rw [eF118, mset_k (by omega)]
    rw [eF115 a j (by omega)]
    rw [eF112, mz_n (by omega)]
    rw [eF111, mset_k (by omega)]
    rw [eF108 a j (by omega)]
    rw [eF105, mz_n (by omega)]
    rw [eF104, mset_k (by omega)]
    rw [eF101 a j (by omega)]
    rw [eF98, mz_n (by omega)]
    rw [eF97, mset_k (by omega)]
    rw [eF94 a j (by omega)]
    rw [eF91, mz_n (by omega)]
    rw [eF90, mset_k (by omega)]
    rw [eF87 a j (by omega)]
    rw [eF84, mz_n (by omega)]
    rw [eF83, mset_k (by omega)]
    rw [eF80 a j (by omega)]
    rw [eF77, mz_n (by omega)]
    rw [eF76, mset_k (by omega)]
    rw [eF73 a j (by omega)]
    rw [eF70, mz_n (by omega)]
    rw [eF69, mset_k (by omega)]
    rw [eF66 a j (by omega)]
    rw [eF63, mz_n (by omega)]
    rw [eF62, mset_k (by omega)]
    rw [eF60, mset_k (by omega)]
    rw [eF58, mset_k (by omega)]
    rw [eF56, mrow_n (by omega)]
    rw [eF55, mset_k (by omega)]
    rw [eF53, mset_k (by omega)]
    rw [eF51, mset_k (by omega)]
    rw [eF48 a j (by omega)]
    rw [eF45, mz_n (by omega)]
    rw [eF44, mset_k (by omega)]
    rw [eF41 a j (by omega)]
    rw [eF38, mz_n (by omega)]
    rw [eF37, mset_k (by omega)]
    rw [eF34 a j (by omega)]
    rw [eF31, mz_n (by omega)]
    rw [eF30, mset_k (by omega)]
    rw [eF27 a j (by omega)]
    rw [eF24, mz_n (by omega)]
    rw [eF23, mset_k (by omega)]
  have kpF27 : ∀ a j, (97 ≤ a ∧ a < 139) → F146 a j = F27 a j := by
    intro a j ha
    rw [eF146, mset_k (by omega)]
    rw [eF143 a j (by omega)]
    rw [eF140, mz_n (by omega)]
    rw [eF139, mset_k (by omega)]
    rw [eF136 a j (by omega)]
    rw [eF133, mz_n (by omega)]
    rw [eF132, mset_k (by omega)]
    rw [eF129 a j (by omega)]
    rw [eF126, mz_n (by omega)]
    rw [eF125, mset_k (by omega)]
    rw [eF122 a j (by omega)]
    rw [eF119, mz_n (by omega)]
    rw [eF118, mset_k (by omega)]
    rw [eF115 a j (by omega)]
    rw [eF112, mz_n (by omega)]
    rw [eF111, mset_k (by omega)]
    rw [eF108 a j (by omega)]
    rw [eF105, mz_n (by omega)]
    rw [eF104, mset_k (by omega)]
    rw [eF101 a j (by omega)]
    rw [eF98, mz_n (by omega)]
    rw [eF97, mset_k (by omega)]
    rw [eF94 a j (by omega)]
    rw [eF91, mz_n (by omega)]
    rw [eF90, mset_k (by omega)]
    rw [eF87 a j (by omega)]
    rw [eF84, mz_n (by omega)]
    rw [eF83, mset_k (by omega)]
    rw [eF80 a j (by omega)]
    rw [eF77, mz_n (by omega)]
    rw [eF76, mset_k (by omega)]
    rw [eF73 a j (by omega)]
    rw [eF70, mz_n (by omega)]
    rw [eF69, mset_k (by omega)]
    rw [eF66 a j (by omega)]
    rw [eF63, mz_n (by omega)]
    rw [eF62, mset_k (by omega)]
    rw [eF60, mset_k (by omega)]
    rw [eF58, mset_k (by omega)]
    rw [eF56, mrow_n (by omega)]
    rw [eF55, mset_k (by omega)]
    rw [eF53, mset_k (by omega)]
    rw [eF51, mset_k (by omega)]
    rw [eF48 a j (by omega)]
    rw [eF45, mz_n (by omega)]
    rw [eF44, mset_k (by omega)]
    rw [eF41 a j (by omega)]
    rw [eF38, mz_n (by omega)]
    rw [eF37, mset_k (by omega)]
    rw [eF34 a j (by omega)]
    rw [eF31, mz_n (by omega)]
    rw [eF30, mset_k (by omega)]
  have kpF34 : ∀ a j, (139 ≤ a ∧ a < 154) → F146 a j = F34 a j := by
    intro a j ha
    rw [eF146, mset_k (by omega)]
    rw [eF143 a j (by omega)]
    rw [eF140, mz_n (by omega)]
    rw [eF139, mset_k (by omega)]
    rw [eF136 a j (by omega)]
    rw [eF133, mz_n (by omega)]
    rw [eF132, mset_k (by omega)]
    rw [eF129 a j (by omega)]
    rw [eF126, mz_n (by omega)]
    rw [eF125, mset_k (by omega)]
    rw [eF122 a j (by omega)]
    rw [eF119, mz_n (by omega)]
    rw [eF118, mset_k (by omega)]
    rw [eF115 a j (by omega)]
    rw [eF112, mz_n (by omega)]
    rw [eF111, mset_k (by omega)]
    rw [eF108 a j (by omega)]
    rw [eF105, mz_n (by omega)]
    rw [eF104, mset_k (by omega)]
    rw [eF101 a j (by omega)]
    rw [eF98, mz_n (by omega)]
    rw [eF97, mset_k (by omega)]
    rw [eF94 a j (by omega)]
    rw [eF91, mz_n (by omega)]
    rw [eF90, mset_k (by omega)]
    rw [eF87 a j (by omega)]
    rw [eF84, mz_n (by omega)]
    rw [eF83, mset_k (by omega)]
    rw [eF80 a j (by omega)]
    rw [eF77, mz_n (by omega)]
    rw [eF76, mset_k (by omega)]
    rw [eF73 a j (by omega)]
    rw [eF70, mz_n (by omega)]
    rw [eF69, mset_k (by omega)]
    rw [eF66 a j (by omega)]
    rw [eF63, mz_n (by omega)]
    rw [eF62, mset_k (by omega)]
    rw [eF60, mset_k (by omega)]
    rw [eF58, mset_k (by omega)]
    rw [eF56, mrow_n (by omega)]
    rw [eF55, mset_k (by omega)]
    rw [eF53, mset_k (by omega)]
    rw [eF51, mset_k (by omega)]
    rw [eF48 a j (by omega)]
    rw [eF45, mz_n (by omega)]
    rw [eF44, mset_k (by omega)]
    rw [eF41 a j (by omega)]
    rw [eF38, mz_n (by omega)]
    rw [eF37, mset_k (by omega)]
  have kpF41 : ∀ a j, (154 ≤ a ∧ a < 275) → F146 a j = F41 a j := by
    intro a j ha
    rw [eF146, mset_k (by omega)]
    rw [eF143 a j (by omega)]
    rw [eF140, mz_n (by omega)]
    rw [eF139, mset_k (by omega)]
    rw [eF136 a j (by omega)]
    rw [eF133, mz_n (by omega)]
    rw [eF132, mset_k (by omega)]
    rw [eF129 a j (by omega)]
    rw [eF126, mz_n (by omega)]
    rw [eF125, mset_k (by omega)]
    rw [eF122 a j (by omega)]
    rw [eF119, mz_n (by omega)]
    rw [eF118, mset_k (by omega)]
    rw [eF115 a j (by omega)]
    rw [eF112, mz_n (by omega)]
    rw [eF111, mset_k (by omega)]
    rw [eF108 a j (by omega)]
    rw [eF105, mz_n (by omega)]
    rw [eF104, mset_k (by omega)]
    rw [eF101 a j (by omega)]
    rw [eF98, mz_n (by omega)]
    rw [eF97, mset_k (by omega)]
    rw [eF94 a j (by omega)]
    rw [eF91, mz_n (by omega)]
    rw [eF90, mset_k (by omega)]
    rw [eF87 a j (by omega)]
    rw [eF84, mz_n (by omega)]
    rw [eF83, mset_k (by omega)]
    rw [eF80 a j (by omega)]
    rw [eF77, mz_n (by omega)]
    rw [eF76, mset_k (by omega)]
    rw [eF73 a j (by omega)]
    rw [eF70, mz_n (by omega)]
    rw [eF69, mset_k (by omega)]
    rw [eF66 a j (by omega)]
    rw [eF63, mz_n (by omega)]
    rw [eF62, mset_k (by omega)]
    rw [eF60, mset_k (by omega)]
    rw [eF58, mset_k (by omega)]
    rw [eF56, mrow_n (by omega)]
    rw [eF55, mset_k (by omega)]
    rw [eF53, mset_k (by omega)]
    rw [eF51, mset_k (by omega)]
    rw [eF48 a j (by omega)]
    rw [eF45, mz_n (by omega)]
    rw [eF44, mset_k (by omega)]
  have kpF48 : ∀ a j, (275 ≤ a ∧ a < 283) → F146 a j = F48 a j := by
    intro a j ha
    rw [eF146, mset_k (by omega)]
    rw [eF143 a j (by omega)]
    rw [eF140, mz_n (by omega)]
    rw [eF139, mset_k (by omega)]
    rw [eF136 a j (by omega)]
    rw [eF133, mz_n (by omega)]
    rw [eF132, mset_k (by omega)]
    rw [eF129 a j (by omega)]
    rw [eF126, mz_n (by omega)]
    rw [eF125, mset_k (by omega)]
    rw [eF122 a j (by omega)]
    rw [eF119, mz_n (by omega)]
    rw [eF118, mset_k (by omega)]
    rw [eF115 a j (by omega)]
    rw [eF112, mz_n (by omega)]
    rw [eF111, mset_k (by omega)]
    rw [eF108 a j (by omega)]
    rw [eF105, mz_n (by omega)]
    rw [eF104, mset_k (by omega)]
    rw [eF101 a j (by omega)]
    rw [eF98, mz_n (by omega)]
    rw [eF97, mset_k (by omega)]
    rw [eF94 a j (by omega)]
    rw [eF91, mz_n (by omega)]
    rw [eF90, mset_k (by omega)]
    rw [eF87 a j (by omega)]
    rw [eF84, mz_n (by omega)]
    rw [eF83, mset_k (by omega)]
    rw [eF80 a j (by omega)]
    rw [eF77, mz_n (by omega)]
    rw [eF76, mset_k (by omega)]
    rw [eF73 a j (by omega)]
    rw [eF70, mz_n (by omega)]
    rw [eF69, mset_k (by omega)]
    rw [eF66 a j (by omega)]
    rw [eF63, mz_n (by omega)]
    rw [eF62, mset_k (by omega)]
    rw [eF60, mset_k (by omega)]
    rw [eF58, mset_k (by omega)]
    rw [eF56, mrow_n (by omega)]
    rw [eF55, mset_k (by omega)]
    rw [eF53, mset_k (by omega)]
    rw [eF51, mset_k (by omega)]
  have kpF66 : ∀ a j, (293 ≤ a ∧ a < 329) → F146 a j = F66 a j := by
    intro a j ha
    rw [eF146, mset_k (by omega)]
    rw [eF143 a j (by omega)]
    rw [eF140, mz_n (by omega)]
    rw [eF139, mset_k (by omega)]
    rw [eF136 a j (by omega)]
    rw [eF133, mz_n (by omega)]
    rw [eF132, mset_k (by omega)]
    rw [eF129 a j (by omega)]
    rw [eF126, mz_n (by omega)]
    rw [eF125, mset_k (by omega)]
    rw [eF122 a j (by omega)]
    rw [eF119, mz_n (by omega)]
    rw [eF118, mset_k (by omega)]
    rw [eF115 a j (by omega)]
    rw [eF112, mz_n (by omega)]
    rw [eF111, mset_k (by omega)]
    rw [eF108 a j (by omega)]
    rw [eF105, mz_n (by omega)]
    rw [eF104, mset_k (by omega)]
    rw [eF101 a j (by omega)]
    rw [eF98, mz_n (by omega)]
    rw [eF97, mset_k (by omega)]
    rw [eF94 a j (by omega)]
    rw [eF91, mz_n (by omega)]
    rw [eF90, mset_k (by omega)]
    rw [eF87 a j (by omega)]
    rw [eF84, mz_n (by omega)]
    rw [eF83, mset_k (by omega)]
    rw [eF80 a j (by omega)]
    rw [eF77, mz_n (by omega)]
    rw [eF76, mset_k (by omega)]
    rw [eF73 a j (by omega)]
    rw [eF70, mz_n (by omega)]
    rw [eF69, mset_k (by omega)]
  have kpF73 : ∀ a j, (329 ≤ a ∧ a < 365) → F146 a j = F73 a j := by
    intro a j ha
    rw [eF146, mset_k (by omega)]
    rw [eF143 a j (by omega)]
    rw [eF140, mz_n (by omega)]
    rw [eF139, mset_k (by omega)]
    rw [eF136 a j (by omega)]
    rw [eF133, mz_n (by omega)]
    rw [eF132, mset_k (by omega)]
    rw [eF129 a j (by omega)]
    rw [eF126, mz_n (by omega)]
    rw [eF125, mset_k (by omega)]
    rw [eF122 a j (by omega)]
    rw [eF119, mz_n (by omega)]
    rw [eF118, mset_k (by omega)]
    rw [eF115 a j (by omega)]
    rw [eF112, mz_n (by omega)]
    rw [eF111, mset_k (by omega)]
    rw [eF108 a j (by omega)]
    rw [eF105, mz_n (by omega)]
    rw [eF104, mset_k (by omega)]
    rw [eF101 a j (by omega)]
    rw [eF98, mz_n (by omega)]
    rw [eF97, mset_k (by omega)]
    rw [eF94 a j (by omega)]
    rw [eF91, mz_n (by omega)]
    rw [eF90, mset_k (by omega)]
    rw [eF87 a j (by omega)]
    rw [eF84, mz_n (by omega)]
    rw [eF83, mset_k (by omega)]
    rw [eF80 a j (by omega)]
    rw [eF77, mz_n (by omega)]
    rw [eF76, mset_k (by omega)]
  have kpF80 : ∀ a j, (365 ≤ a ∧ a < 401) → F146 a j = F80 a j := by
    intro a j ha
    rw [eF146, mset_k (by omega)]
    rw [eF143 a j (by omega)]
    rw [eF140, mz_n (by omega)]
    rw [eF139, mset_k (by omega)]
    rw [eF136 a j (by omega)]
    rw [eF133, mz_n (by omega)]
    rw [eF132, mset_k (by omega)]
    rw [eF129 a j (by omega)]
    rw [eF126, mz_n (by omega)]
    rw [eF125, mset_k (by omega)]
    rw [eF122 a j (by omega)]
    rw [eF119, mz_n (by omega)]
    rw [eF118, mset_k (by omega)]
    rw [eF115 a j (by omega)]
    rw [eF112, mz_n (by omega)]
    rw [eF111, mset_k (by omega)]
    rw [eF108 a j (by omega)]
    rw [eF105, mz_n (by omega)]
    rw [eF104, mset_k (by omega)]
    rw [eF101 a j (by omega)]
    rw [eF98, mz_n (by omega)]
    rw [eF97, mset_k (by omega)]
    rw [eF94 a j (by omega)]
    rw [eF91, mz_n (by omega)]
    rw [eF90, mset_k (by omega)]
    rw [eF87 a j (by omega)]
    rw [eF84, mz_n (by omega)]
    rw [eF83, mset_k (by omega)]
  have kpF87 : ∀ a j, (401 ≤ a ∧ a < 437) → F146 a j = F87 a j := by
    intro a j ha
    rw [eF146, mset_k (by omega)]
    rw [eF143 a j (by omega)]
    rw [eF140, mz_n (by omega)]
    rw [eF139, mset_k (by omega)]
    rw [eF136 a j (by omega)]
    rw [eF133, mz_n (by omega)]
    rw [eF132, mset_k (by omega)]
    rw [eF129 a j (by omega)]
    rw [eF126, mz_n (by omega)]
    rw [eF125, mset_k (by omega)]
    rw [eF122 a j (by omega)]
    rw [eF119, mz_n (by omega)]
    rw [eF118, mset_k (by omega)]
    rw [eF115 a j (by omega)]
    rw [eF112, mz_n (by omega)]
    rw [eF111, mset_k (by omega)]
    rw [eF108 a j (by omega)]
    rw [eF105, mz_n (by omega)]
    rw [eF104, mset_k (by omega)]
    rw [eF101 a j (by omega)]
    rw [eF98, mz_n (by omega)]
    rw [eF97, mset_k (by omega)]
    rw [eF94 a j (by omega)]
    rw [eF91, mz_n (by omega)]
    rw [eF90, mset_k (by omega)]
  have kpF94 : ∀ a j, (437 ≤ a ∧ a < 473) → F146 a j = F94 a j := by
    intro a j ha
    rw [eF146, mset_k (by omega)]
    rw [eF143 a j (by omega)]
    rw [eF140, mz_n (by omega)]
    rw [eF139, mset_k (by omega)]
    rw [eF136 a j (by omega)]
    rw [eF133, mz_n (by omega)]
    rw [eF132, mset_k (by omega)]
    rw [eF129 a j (by omega)]
    rw [eF126, mz_n (by omega)]
    rw [eF125, mset_k (by omega)]
    rw [eF122 a j (by omega)]
    rw [eF119, mz_n (by omega)]
    rw [eF118, mset_k (by omega)]
    rw [eF115 a j (by omega)]
    rw [eF112, mz_n (by omega)]
    rw [eF111, mset_k (by omega)]
    rw [eF108 a j (by omega)]
    rw [eF105, mz_n (by omega)]
    rw [eF104, mset_k (by omega)]
    rw [eF101 a j (by omega)]
    rw [eF98, mz_n (by omega)]
    rw [eF97, mset_k (by omega)]
  have kpF101 : ∀ a j, (473 ≤ a ∧ a < 509) → F146 a j = F101 a j := by
    intro a j ha
    rw [eF146, mset_k (by omega)]
    rw [eF143 a j (by omega)]
    rw [eF140, mz_n (by omega)]
    rw [eF139, mset_k (by omega)]
    rw [eF136 a j (by omega)]
    rw [eF133, mz_n (by omega)]
    rw [eF132, mset_k (by omega)]
    rw [eF129 a j (by omega)]
    rw [eF126, mz_n (by omega)]
    rw [eF125, mset_k (by omega)]
    rw [eF122 a j (by omega)]
    rw [eF119, mz_n (by omega)]
    rw [eF118, mset_k (by omega)]
    rw [eF115 a j (by omega)]
    rw [eF112, mz_n (by omega)]
    rw [eF111, mset_k (by omega)]
    rw [eF108 a j (by omega)]
    rw [eF105, mz_n (by omega)]
    rw [eF104, mset_k (by omega)]
  have kpF108 : ∀ a j, (509 ≤ a ∧ a < 545) → F146 a j = F108 a j := by
    intro a j ha
    rw [eF146, mset_k (by omega)]
    rw [eF143 a j (by omega)]
    rw [eF140, mz_n (by omega)]
    rw [eF139, mset_k (by omega)]
    rw [eF136 a j (by omega)]
    rw [eF133, mz_n (by omega)]
    rw [eF132, mset_k (by omega)]
    rw [eF129 a j (by omega)]
    rw [eF126, mz_n (by omega)]
    rw [eF125, mset_k (by omega)]
    rw [eF122 a j (by omega)]
    rw [eF119, mz_n (by omega)]
    rw [eF118, mset_k (by omega)]
    rw [eF115 a j (by omega)]
    rw [eF112, mz_n (by omega)]
    rw [eF111, mset_k (by omega)]
  have kpF115 : ∀ a j, (545 ≤ a ∧ a < 581) → F146 a j = F115 a j := by
    intro a j ha
    rw [eF146, mset_k (by omega)]
    rw [eF143 a j (by omega)]
    rw [eF140, mz_n (by omega)]
    rw [eF139, mset_k (by omega)]
    rw [eF136 a j (by omega)]
    rw [eF133, mz_n (by omega)]
    rw [eF132, mset_k (by omega)]
    rw [eF129 a j (by omega)]
    rw [eF126, mz_n (by omega)]
    rw [eF125, mset_k (by omega)]
    rw [eF122 a j (by omega)]
    rw [eF119, mz_n (by omega)]
    rw [eF118, mset_k (by omega)]
  have kpF122 : ∀ a j, (581 ≤ a ∧ a < 617) → F146 a j = F122 a j := by
    intro a j ha
    rw [eF146, mset_k (by omega)]
    rw [eF143 a j (by omega)]
    rw [eF140, mz_n (by omega)]
    rw [eF139, mset_k (by omega)]
    rw [eF136 a j (by omega)]
    rw [eF133, mz_n (by omega)]
    rw [eF132, mset_k (by omega)]
    rw [eF129 a j (by omega)]
    rw [eF126, mz_n (by omega)]
    rw [eF125, mset_k (by omega)]
  have kpF129 : ∀ a j, (617 ≤ a ∧ a < 653) → F146 a j = F129 a j := by
    intro a j ha
    rw [eF146, mset_k (by omega)]
    rw [eF143 a j (by omega)]
    rw [eF140, mz_n (by omega)]
    rw [eF139, mset_k (by omega)]
    rw [eF136 a j (by omega)]
    rw [eF133, mz_n (by omega)]
    rw [eF132, mset_k (by omega)]
  have kpF136 : ∀ a j, (653 ≤ a ∧ a < 689) → F146 a j = F136 a j := by
    intro a j ha
    rw [eF146, mset_k (by omega)]
    rw [eF143 a j (by omega)]
    rw [eF140, mz_n (by omega)]
    rw [eF139, mset_k (by omega)]
  have kpF143 : ∀ a j, (689 ≤ a ∧ a < 725) → F146 a j = F143 a j := by
    intro a j ha
    rw [eF146, mset_k (by omega)]
  refine List.forall_mem_cons.mpr ⟨?_, List.forall_mem_cons.mpr ⟨?_, List.forall_mem_cons.mpr ⟨?_, List.forall_mem_cons.mpr ⟨?_, List.forall_mem_cons.mpr ⟨?_, List.forall_mem_cons.mpr ⟨?_, List.forall_mem_cons.mpr ⟨?_, List.forall_mem_cons.mpr ⟨?_, List.forall_mem_cons.mpr ⟨?_, List.forall_mem_cons.mpr ⟨?_, List.forall_mem_cons.mpr ⟨?_, List.forall_mem_cons.mpr ⟨?_, List.forall_mem_cons.mpr ⟨?_, List.forall_mem_cons.mpr ⟨?_, List.forall_mem_cons.mpr ⟨?_, List.forall_mem_cons.mpr ⟨?_, List.forall_mem_cons.mpr ⟨?_, List.forall_mem_cons.mpr ⟨?_, List.forall_mem_cons.mpr ⟨?_, List.forall_mem_cons.mpr ⟨?_, List.forall_mem_cons.mpr ⟨?_, List.forall_mem_cons.mpr ⟨?_, List.forall_mem_cons.mpr ⟨?_, List.forall_mem_cons.mpr ⟨?_, List.forall_mem_cons.mpr ⟨?_, List.forall_mem_cons.mpr ⟨?_, List.forall_mem_cons.mpr ⟨?_, List.forall_mem_cons.mpr ⟨?_, List.forall_mem_cons.mpr ⟨?_, List.forall_mem_cons.mpr ⟨?_, List.forall_mem_cons.mpr ⟨?_, List.forall_mem_cons.mpr ⟨?_, List.forall_mem_cons.mpr ⟨?_, List.forall_mem_cons.mpr ⟨?_, List.forall_mem_cons.mpr ⟨?_, List.forall_mem_cons.mpr ⟨?_, List.forall_mem_cons.mpr ⟨?_, List.forall_mem_cons.mpr ⟨?_, List.forall_mem_cons.mpr ⟨?_, List.forall_mem_cons.mpr ⟨?_, List.forall_mem_cons.mpr ⟨?_, List.forall_mem_cons.mpr ⟨?_, List.forall_mem_cons.mpr ⟨?_, List.forall_mem_cons.mpr ⟨?_, List.forall_mem_cons.mpr ⟨?_, List.forall_mem_cons.mpr ⟨?_, List.forall_mem_cons.mpr ⟨?_, List.forall_mem_cons.mpr ⟨?_, List.forall_mem_cons.mpr ⟨?_, List.forall_mem_cons.mpr ⟨?_, List.forall_mem_cons.mpr ⟨?_, List.forall_mem_cons.mpr ⟨?_, List.forall_mem_cons.mpr ⟨?_, List.forall_mem_cons.mpr ⟨?_, List.forall_mem_cons.mpr ⟨?_, List.forall_mem_cons.mpr ⟨?_, List.forall_mem_cons.mpr ⟨?_, List.forall_mem_cons.mpr ⟨?_, List.forall_mem_cons.mpr ⟨?_, List.forall_mem_cons.mpr ⟨?_, List.forall_mem_cons.mpr ⟨?_, List.forall_mem_cons.mpr ⟨?_, List.forall_mem_cons.mpr ⟨?_, List.forall_mem_cons.mpr ⟨?_, List.forall_mem_cons.mpr ⟨?_, List.forall_mem_cons.mpr ⟨?_, List.forall_mem_cons.mpr ⟨?_, List.forall_mem_cons.mpr ⟨?_, List.forall_mem_cons.mpr ⟨?_, List.forall_mem_cons.mpr ⟨?_, List.forall_mem_cons.mpr ⟨?_, List.forall_mem_cons.mpr ⟨?_, List.forall_mem_cons.mpr ⟨?_, List.forall_mem_cons.mpr ⟨?_, List.forall_mem_cons.mpr ⟨?_, List.forall_mem_cons.mpr ⟨?_, List.forall_mem_cons.mpr ⟨?_, List.forall_mem_cons.mpr ⟨?_, List.forall_mem_cons.mpr ⟨?_, List.forall_mem_cons.mpr ⟨?_, List.forall_mem_cons.mpr ⟨?_, fun _ h => absurd h List.not_mem_nil⟩⟩⟩⟩⟩⟩⟩⟩⟩⟩⟩⟩⟩⟩⟩⟩⟩⟩⟩⟩⟩⟩⟩⟩⟩⟩⟩⟩⟩⟩⟩⟩⟩⟩⟩⟩⟩⟩⟩⟩⟩⟩⟩⟩⟩⟩⟩⟩⟩⟩⟩⟩⟩⟩⟩⟩⟩⟩⟩⟩⟩⟩⟩⟩⟩⟩⟩⟩⟩⟩⟩⟩⟩⟩⟩⟩⟩⟩⟩⟩⟩
  · show cpx F146 3
    intro j hj hn
    rw [need_O tf_3] at hn
    rw [show (TF _).2 = _ from congrArg Prod.snd tf_3] at hj
    match j, hj, hn with
    | 0, _, _ => exact (show F146 3 0 = some 4 by rw [eF146, mset_k (by decide)]; rw [eF143 _ _ (by decide)]; rw [eF140, mz_n (by decide)]; rw [eF139, mset_k (by decide)]; rw [eF136 _ _ (by decide)]; rw [eF133, mz_n (by decide)]; rw [eF132, mset_k (by decide)]; rw [eF129 _ _ (by decide)]; rw [eF126, mz_n (by decide)]; rw [eF125, mset_k (by decide)]; rw [eF122 _ _ (by decide)]; rw [eF119, mz_n (by decide)]; rw [eF118, mset_k (by decide)]; rw [eF115 _ _ (by decide)]; rw [eF112, mz_n (by decide)]; rw [eF111, mset_k (by decide)]; rw [eF108 _ _ (by decide)]; rw [eF105, mz_n (by decide)]; rw [eF104, mset_k (by decide)]; rw [eF101 _ _ (by decide)]; rw [eF98, mz_n (by decide)]; rw [eF97, mset_k (by decide)]; rw [eF94 _ _ (by decide)]; rw [eF91, mz_n (by decide)]; rw [eF90, mset_k (by decide)]; rw [eF87 _ _ (by decide)]; rw [eF84, mz_n (by decide)]; rw [eF83, mset_k (by decide)]; rw [eF80 _ _ (by decide)]; rw [eF77, mz_n (by decide)]; rw [eF76, mset_k (by decide)]; rw [eF73 _ _ (by decide)]; rw [eF70, mz_n (by decide)]; rw [eF69, mset_k (by decide)]; rw [eF66 _ _ (by decide)]; rw [eF63, mz_n (by decide)]; rw [eF62, mset_j (by decide)]; rw [eF60, mset_j (by decide)]; rw [eF58, mset_j (by decide)]; rw [eF56, mrow_n (by decide)]; rw [eF55, mset_j (by decide)]; rw [eF53, mset_j (by decide)]; rw [eF51, mset_j (by decide)]; rw [eF48 _ _ (by decide)]; rw [eF45, mz_n (by decide)]; rw [eF44, mset_j (by decide)]; rw [eF41 _ _ (by decide)]; rw [eF38, mz_n (by decide)]; rw [eF37, mset_j (by decide)]; rw [eF34 _ _ (by decide)]; rw [eF31, mz_n (by decide)]; rw [eF30, mset_j (by decide)]; rw [eF27 _ _ (by decide)]; rw [eF24, mz_n (by decide)]; rw [eF23, mset_j (by decide)]; rw [eF20 _ _ (by decide)]; rw [eF17, mz_n (by decide)]; rw [eF16, mset_j (by decide)]; rw [eF13 _ _ (by decide)]; rw [eF10, mz_n (by decide)]; rw [eF9, mset_j (by decide)]; rw [eF6 _ _ (by decide)]; rw [eF3, mz_n (by decide)]; rw [eF2]; exact mset_s).trans ff_3_0.symm
    | 1, _, _ => exact (show F146 3 1 = some 5 by rw [eF146, mset_k (by decide)]; rw [eF143 _ _ (by decide)]; rw [eF140, mz_n (by decide)]; rw [eF139, mset_k (by decide)]; rw [eF136 _ _ (by decide)]; rw [eF133, mz_n (by decide)]; rw [eF132, mset_k (by decide)]; rw [eF129 _ _ (by decide)]; rw [eF126, mz_n (by decide)]; rw [eF125, mset_k (by decide)]; rw [eF122 _ _ (by decide)]; rw [eF119, mz_n (by decide)]; rw [eF118, mset_k (by decide)]; rw [eF115 _ _ (by decide)]; rw [eF112, mz_n (by decide)]; rw [eF111, mset_k (by decide)]; rw [eF108 _ _ (by decide)]; rw [eF105, mz_n (by decide)]; rw [eF104, mset_k (by decide)]; rw [eF101 _ _ (by decide)]; rw [eF98, mz_n (by decide)]; rw [eF97, mset_k (by decide)]; rw [eF94 _ _ (by decide)]; rw [eF91, mz_n (by decide)]; rw [eF90, mset_k (by decide)]; rw [eF87 _ _ (by decide)]; rw [eF84, mz_n (by decide)]; rw [eF83, mset_k (by decide)]; rw [eF80 _ _ (by decide)]; rw [eF77, mz_n (by decide)]; rw [eF76, mset_k (by decide)]; rw [eF73 _ _ (by decide)]; rw [eF70, mz_n (by decide)]; rw [eF69, mset_k (by decide)]; rw [eF66 _ _ (by decide)]; rw [eF63, mz_n (by decide)]; rw [eF62, mset_j (by decide)]; rw [eF60, mset_j (by decide)]; rw [eF58, mset_j (by decide)]; rw [eF56, mrow_n (by decide)]; rw [eF55, mset_j (by decide)]; rw [eF53, mset_j (by decide)]; rw [eF51, mset_j (by decide)]; rw [eF48 _ _ (by decide)]; rw [eF45, mz_n (by decide)]; rw [eF44, mset_j (by decide)]; rw [eF41 _ _ (by decide)]; rw [eF38, mz_n (by decide)]; rw [eF37, mset_j (by decide)]; rw [eF34 _ _ (by decide)]; rw [eF31, mz_n (by decide)]; rw [eF30, mset_j (by decide)]; rw [eF27 _ _ (by decide)]; rw [eF24, mz_n (by decide)]; rw [eF23, mset_j (by decide)]; rw [eF20 _ _ (by decide)]; rw [eF17, mz_n (by decide)]; rw [eF16, mset_j (by decide)]; rw [eF13 _ _ (by decide)]; rw [eF10, mz_n (by decide)]; rw [eF9]; exact mset_s).trans ff_3_1.symm
    | 2, _, _ => exact (show F146 3 2 = some 20 by rw [eF146, mset_k (by decide)]; rw [eF143 _ _ (by decide)]; rw [eF140, mz_n (by decide)]; rw [eF139, mset_k (by decide)]; rw [eF136 _ _ (by decide)]; rw [eF133, mz_n (by decide)]; rw [eF132, mset_k (by decide)]; rw [eF129 _ _ (by decide)]; rw [eF126, mz_n (by decide)]; rw [eF125, mset_k (by decide)]; rw [eF122 _ _ (by decide)]; rw [eF119, mz_n (by decide)]; rw [eF118, mset_k (by decide)]; rw [eF115 _ _ (by decide)]; rw [eF112, mz_n (by decide)]; rw [eF111, mset_k (by decide)]; rw [eF108 _ _ (by decide)]; rw [eF105, mz_n (by decide)]; rw [eF104, mset_k (by decide)]; rw [eF101 _ _ (by decide)]; rw [eF98, mz_n (by decide)]; rw [eF97, mset_k (by decide)]; rw [eF94 _ _ (by decide)]; rw [eF91, mz_n (by decide)]; rw [eF90, mset_k (by decide)]; rw [eF87 _ _ (by decide)]; rw [eF84, mz_n (by decide)]; rw [eF83, mset_k (by decide)]; rw [eF80 _ _ (by decide)]; rw [eF77, mz_n (by decide)]; rw [eF76, mset_k (by decide)]; rw [eF73 _ _ (by decide)]; rw [eF70, mz_n (by decide)]; rw [eF69, mset_k (by decide)]; rw [eF66 _ _ (by decide)]; rw [eF63, mz_n (by decide)]; rw [eF62, mset_j (by decide)]; rw [eF60, mset_j (by decide)]; rw [eF58, mset_j (by decide)]; rw [eF56, mrow_n (by decide)]; rw [eF55, mset_j (by decide)]; rw [eF53, mset_j (by decide)]; rw [eF51, mset_j (by decide)]; rw [eF48 _ _ (by decide)]; rw [eF45, mz_n (by decide)]; rw [eF44, mset_j (by decide)]; rw [eF41 _ _ (by decide)]; rw [eF38, mz_n (by decide)]; rw [eF37, mset_j (by decide)]; rw [eF34 _ _ (by decide)]; rw [eF31, mz_n (by decide)]; rw [eF30, mset_j (by decide)]; rw [eF27 _ _ (by decide)]; rw [eF24, mz_n (by decide)]; rw [eF23, mset_j (by decide)]; rw [eF20 _ _ (by decide)]; rw [eF17, mz_n (by decide)]; rw [eF16]; exact mset_s).trans ff_3_2.symm
    | 3, _, _ => exact (show F146 3 3 = some 61 by rw [eF146, mset_k (by decide)]; rw [eF143 _ _ (by decide)]; rw [eF140, mz_n (by decide)]; rw [eF139, mset_k (by decide)]; rw [eF136 _ _ (by decide)]; rw [eF133, mz_n (by decide)]; rw [eF132, mset_k (by decide)]; rw [eF129 _ _ (by decide)]; rw [eF126, mz_n (by decide)]; rw [eF125, mset_k (by decide)]; rw [eF122 _ _ (by decide)]; rw [eF119, mz_n (by decide)]; rw [eF118, mset_k (by decide)]; rw [eF115 _ _ (by decide)]; rw [eF112, mz_n (by decide)]; rw [eF111, mset_k (by decide)]; rw [eF108 _ _ (by decide)]; rw [eF105, mz_n (by decide)]; rw [eF104, mset_k (by decide)]; rw [eF101 _ _ (by decide)]; rw [eF98, mz_n (by decide)]; rw [eF97, mset_k (by decide)]; rw [eF94 _ _ (by decide)]; rw [eF91, mz_n (by decide)]; rw [eF90, mset_k (by decide)]; rw [eF87 _ _ (by decide)]; rw [eF84, mz_n (by decide)]; rw [eF83, mset_k (by decide)]; rw [eF80 _ _ (by decide)]; rw [eF77, mz_n (by decide)]; rw [eF76, mset_k (by decide)]; rw [eF73 _ _ (by decide)]; rw [eF70, mz_n (by decide)]; rw [eF69, mset_k (by decide)]; rw [eF66 _ _ (by decide)]; rw [eF63, mz_n (by decide)]; rw [eF62, mset_j (by decide)]; rw [eF60, mset_j (by decide)]; rw [eF58, mset_j (by decide)]; rw [eF56, mrow_n (by decide)]; rw [eF55, mset_j (by decide)]; rw [eF53, mset_j (by decide)]; rw [eF51, mset_j (by decide)]; rw [eF48 _ _ (by decide)]; rw [eF45, mz_n (by decide)]; rw [eF44, mset_j (by decide)]; rw [eF41 _ _ (by decide)]; rw [eF38, mz_n (by decide)]; rw [eF37, mset_j (by decide)]; rw [eF34 _ _ (by decide)]; rw [eF31, mz_n (by decide)]; rw [eF30, mset_j (by decide)]; rw [eF27 _ _ (by decide)]; rw [eF24, mz_n (by decide)]; rw [eF23]; exact mset_s).trans ff_3_3.symm
    | 4, _, _ => exact (show F146 3 4 = some 97 by rw [eF146, mset_k (by decide)]; rw [eF143 _ _ (by decide)]; rw [eF140, mz_n (by decide)]; rw [eF139, mset_k (by decide)]; rw [eF136 _ _ (by decide)]; rw [eF133, mz_n (by decide)]; rw [eF132, mset_k (by decide)]; rw [eF129 _ _ (by decide)]; rw [eF126, mz_n (by decide)]; rw [eF125, mset_k (by decide)]; rw [eF122 _ _ (by decide)]; rw [eF119, mz_n (by decide)]; rw [eF118, mset_k (by decide)]; rw [eF115 _ _ (by decide)]; rw [eF112, mz_n (by decide)]; rw [eF111, mset_k (by decide)]; rw [eF108 _ _ (by decide)]; rw [eF105, mz_n (by decide)]; rw [eF104, mset_k (by decide)]; rw [eF101 _ _ (by decide)]; rw [eF98, mz_n (by decide)]; rw [eF97, mset_k (by decide)]; rw [eF94 _ _ (by decide)]; rw [eF91, mz_n (by decide)]; rw [eF90, mset_k (by decide)]; rw [eF87 _ _ (by decide)]; rw [eF84, mz_n (by decide)]; rw [eF83, mset_k (by decide)]; rw [eF80 _ _ (by decide)]; rw [eF77, mz_n (by decide)]; rw [eF76, mset_k (by decide)]; rw [eF73 _ _ (by decide)]; rw [eF70, mz_n (by decide)]; rw [eF69, mset_k (by decide)]; rw [eF66 _ _ (by decide)]; rw [eF63, mz_n (by decide)]; rw [eF62, mset_j (by decide)]; rw [eF60, mset_j (by decide)]; rw [eF58, mset_j (by decide)]; rw [eF56, mrow_n (by decide)]; rw [eF55, mset_j (by decide)]; rw [eF53, mset_j (by decide)]; rw [eF51, mset_j (by decide)]; rw [eF48 _ _ (by decide)]; rw [eF45, mz_n (by decide)]; rw [eF44, mset_j (by decide)]; rw [eF41 _ _ (by decide)]; rw [eF38, mz_n (by decide)]; rw [eF37, mset_j (by decide)]; rw [eF34 _ _ (by decide)]; rw [eF31, mz_n (by decide)]; rw [eF30]; exact mset_s).trans ff_3_4.symm
    | 5, _, _ => exact (show F146 3 5 = some 139 by rw [eF146, mset_k (by decide)]; rw [eF143 _ _ (by decide)]; rw [eF140, mz_n (by decide)]; rw [eF139, mset_k (by decide)]; rw [eF136 _ _ (by decide)]; rw [eF133, mz_n (by decide)]; rw [eF132, mset_k (by decide)]; rw [eF129 _ _ (by decide)]; rw [eF126, mz_n (by decide)]; rw [eF125, mset_k (by decide)]; rw [eF122 _ _ (by decide)]; rw [eF119, mz_n (by decide)]; rw [eF118, mset_k (by decide)]; rw [eF115 _ _ (by decide)]; rw [eF112, mz_n (by decide)]; rw [eF111, mset_k (by decide)]; rw [eF108 _ _ (by decide)]; rw [eF105, mz_n (by decide)]; rw [eF104, mset_k (by decide)]; rw [eF101 _ _ (by decide)]; rw [eF98, mz_n (by decide)]; rw [eF97, mset_k (by decide)]; rw [eF94 _ _ (by decide)]; rw [eF91, mz_n (by decide)]; rw [eF90, mset_k (by decide)]; rw [eF87 _ _ (by decide)]; rw [eF84, mz_n (by decide)]; rw [eF83, mset_k (by decide)]; rw [eF80 _ _ (by decide)]; rw [eF77, mz_n (by decide)]; rw [eF76, mset_k (by decide)]; rw [eF73 _ _ (by decide)]; rw [eF70, mz_n (by decide)]; rw [eF69, mset_k (by decide)]; rw [eF66 _ _ (by decide)]; rw [eF63, mz_n (by decide)]; rw [eF62, mset_j (by decide)]; rw [eF60, mset_j (by decide)]; rw [eF58, mset_j (by decide)]; rw [eF56, mrow_n (by decide)]; rw [eF55, mset_j (by decide)]; rw [eF53, mset_j (by decide)]; rw [eF51, mset_j (by decide)]; rw [eF48 _ _ (by decide)]; rw [eF45, mz_n (by decide)]; rw [eF44, mset_j (by decide)]; rw [eF41 _ _ (by decide)]; rw [eF38, mz_n (by decide)]; rw [eF37]; exact mset_s).trans ff_3_5.symm
    | 6, _, _ => exact (show F146 3 6 = some 154 by rw [eF146, mset_k (by decide)]; rw [eF143 _ _ (by decide)]; rw [eF140, mz_n (by decide)]; rw [eF139, mset_k (by decide)]; rw [eF136 _ _ (by decide)]; rw [eF133, mz_n (by decide)]; rw [eF132, mset_k (by decide)]; rw [eF129 _ _ (by decide)]; rw [eF126, mz_n (by decide)]; rw [eF125, mset_k (by decide)]; rw [eF122 _ _ (by decide)]; rw [eF119, mz_n (by decide)]; rw [eF118, mset_k (by decide)]; rw [eF115 _ _ (by decide)]; rw [eF112, mz_n (by decide)]; rw [eF111, mset_k (by decide)]; rw [eF108 _ _ (by decide)]; rw [eF105, mz_n (by decide)]; rw [eF104, mset_k (by decide)]; rw [eF101 _ _ (by decide)]; rw [eF98, mz_n (by decide)]; rw [eF97, mset_k (by decide)]; rw [eF94 _ _ (by decide)]; rw [eF91, mz_n (by decide)]; rw [eF90, mset_k (by decide)]; rw [eF87 _ _ (by decide)]; rw [eF84, mz_n (by decide)]; rw [eF83, mset_k (by decide)]; rw [eF80 _ _ (by decide)]; rw [eF77, mz_n (by decide)]; rw [eF76, mset_k (by decide)]; rw [eF73 _ _ (by decide)]; rw [eF70, mz_n (by decide)]; rw [eF69, mset_k (by decide)]; rw [eF66 _ _ (by decide)]; rw [eF63, mz_n (by decide)]; rw [eF62, mset_j (by decide)]; rw [eF60, mset_j (by decide)]; rw [eF58, mset_j (by decide)]; rw [eF56, mrow_n (by decide)]; rw [eF55, mset_j (by decide)]; rw [eF53, mset_j (by decide)]; rw [eF51, mset_j (by decide)]; rw [eF48 _ _ (by decide)]; rw [eF45, mz_n (by decide)]; rw [eF44]; exact mset_s).trans ff_3_6.symm
    | 7, _, _ => exact (show F146 3 7 = some 275 by rw [eF146, mset_k (by decide)]; rw [eF143 _ _ (by decide)]; rw [eF140, mz_n (by decide)]; rw [eF139, mset_k (by decide)]; rw [eF136 _ _ (by decide)]; rw [eF133, mz_n (by decide)]; rw [eF132, mset_k (by decide)]; rw [eF129 _ _ (by decide)]; rw [eF126, mz_n (by decide)]; rw [eF125, mset_k (by decide)]; rw [eF122 _ _ (by decide)]; rw [eF119, mz_n (by decide)]; rw [eF118, mset_k (by decide)]; rw [eF115 _ _ (by decide)]; rw [eF112, mz_n (by decide)]; rw [eF111, mset_k (by decide)]; rw [eF108 _ _ (by decide)]; rw [eF105, mz_n (by decide)]; rw [eF104, mset_k (by decide)]; rw [eF101 _ _ (by decide)]; rw [eF98, mz_n (by decide)]; rw [eF97, mset_k (by decide)]; rw [eF94 _ _ (by decide)]; rw [eF91, mz_n (by decide)]; rw [eF90, mset_k (by decide)]; rw [eF87 _ _ (by decide)]; rw [eF84, mz_n (by decide)]; rw [eF83, mset_k (by decide)]; rw [eF80 _ _ (by decide)]; rw [eF77, mz_n (by decide)]; rw [eF76, mset_k (by decide)]; rw [eF73 _ _ (by decide)]; rw [eF70, mz_n (by decide)]; rw [eF69, mset_k (by decide)]; rw [eF66 _ _ (by decide)]; rw [eF63, mz_n (by decide)]; rw [eF62, mset_j (by decide)]; rw [eF60, mset_j (by decide)]; rw [eF58, mset_j (by decide)]; rw [eF56, mrow_n (by decide)]; rw [eF55, mset_j (by decide)]; rw [eF53, mset_j (by decide)]; rw [eF51]; exact mset_s).trans ff_3_7.symm
    | 8, _, _ => exact (show F146 3 8 = some 283 by rw [eF146, mset_k (by decide)]; rw [eF143 _ _ (by decide)]; rw [eF140, mz_n (by decide)]; rw [eF139, mset_k (by decide)]; rw [eF136 _ _ (by decide)]; rw [eF133, mz_n (by decide)]; rw [eF132, mset_k (by decide)]; rw [eF129 _ _ (by decide)]; rw [eF126, mz_n (by decide)]; rw [eF125, mset_k (by decide)]; rw [eF122 _ _ (by decide)]; rw [eF119, mz_n (by decide)]; rw [eF118, mset_k (by decide)]; rw [eF115 _ _ (by decide)]; rw [eF112, mz_n (by decide)]; rw [eF111, mset_k (by decide)]; rw [eF108 _ _ (by decide)]; rw [eF105, mz_n (by decide)]; rw [eF104, mset_k (by decide)]; rw [eF101 _ _ (by decide)]; rw [eF98, mz_n (by decide)]; rw [eF97, mset_k (by decide)]; rw [eF94 _ _ (by decide)]; rw [eF91, mz_n (by decide)]; rw [eF90, mset_k (by decide)]; rw [eF87 _ _ (by decide)]; rw [eF84, mz_n (by decide)]; rw [eF83, mset_k (by decide)]; rw [eF80 _ _ (by decide)]; rw [eF77, mz_n (by decide)]; rw [eF76, mset_k (by decide)]; rw [eF73 _ _ (by decide)]; rw [eF70, mz_n (by decide)]; rw [eF69, mset_k (by decide)]; rw [eF66 _ _ (by decide)]; rw [eF63, mz_n (by decide)]; rw [eF62, mset_j (by decide)]; rw [eF60, mset_j (by decide)]; rw [eF58, mset_j (by decide)]; rw [eF56, mrow_n (by decide)]; rw [eF55, mset_j (by decide)]; rw [eF53]; exact mset_s).trans ff_3_8.symm
    | 9, _, _ => exact (show F146 3 9 = some 284 by rw [eF146, mset_k (by decide)]; rw [eF143 _ _ (by decide)]; rw [eF140, mz_n (by decide)]; rw [eF139, mset_k (by decide)]; rw [eF136 _ _ (by decide)]; rw [eF133, mz_n (by decide)]; rw [eF132, mset_k (by decide)]; rw [eF129 _ _ (by decide)]; rw [eF126, mz_n (by decide)]; rw [eF125, mset_k (by decide)]; rw [eF122 _ _ (by decide)]; rw [eF119, mz_n (by decide)]; rw [eF118, mset_k (by decide)]; rw [eF115 _ _ (by decide)]; rw [eF112, mz_n (by decide)]; rw [eF111, mset_k (by decide)]; rw [eF108 _ _ (by decide)]; rw [eF105, mz_n (by decide)]; rw [eF104, mset_k (by decide)]; rw [eF101 _ _ (by decide)]; rw [eF98, mz_n (by decide)]; rw [eF97, mset_k (by decide)]; rw [eF94 _ _ (by decide)]; rw [eF91, mz_n (by decide)]; rw [eF90, mset_k (by decide)]; rw [eF87 _ _ (by decide)]; rw [eF84, mz_n (by decide)]; rw [eF83, mset_k (by decide)]; rw [eF80 _ _ (by decide)]; rw [eF77, mz_n (by decide)]; rw [eF76, mset_k (by decide)]; rw [eF73 _ _ (by decide)]; rw [eF70, mz_n (by decide)]; rw [eF69, mset_k (by decide)]; rw [eF66 _ _ (by decide)]; rw [eF63, mz_n (by decide)]; rw [eF62, mset_j (by decide)]; rw [eF60, mset_j (by decide)]; rw [eF58, mset_j (by decide)]; rw [eF56, mrow_n (by decide)]; rw [eF55]; exact mset_s).trans ff_3_9.symm
    | 10, _, _ => exact (show F146 3 10 = some 285 by rw [eF146, mset_k (by decide)]; rw [eF143 _ _ (by decide)]; rw [eF140, mz_n (by decide)]; rw [eF139, mset_k (by decide)]; rw [eF136 _ _ (by decide)]; rw [eF133, mz_n (by decide)]; rw [eF132, mset_k (by decide)]; rw [eF129 _ _ (by decide)]; rw [eF126, mz_n (by decide)]; rw [eF125, mset_k (by decide)]; rw [eF122 _ _ (by decide)]; rw [eF119, mz_n (by decide)]; rw [eF118, mset_k (by decide)]; rw [eF115 _ _ (by decide)]; rw [eF112, mz_n (by decide)]; rw [eF111, mset_k (by decide)]; rw [eF108 _ _ (by decide)]; rw [eF105, mz_n (by decide)]; rw [eF104, mset_k (by decide)]; rw [eF101 _ _ (by decide)]; rw [eF98, mz_n (by decide)]; rw [eF97, mset_k (by decide)]; rw [eF94 _ _ (by decide)]; rw [eF91, mz_n (by decide)]; rw [eF90, mset_k (by decide)]; rw [eF87 _ _ (by decide)]; rw [eF84, mz_n (by decide)]; rw [eF83, mset_k (by decide)]; rw [eF80 _ _ (by decide)]; rw [eF77, mz_n (by decide)]; rw [eF76, mset_k (by decide)]; rw [eF73 _ _ (by decide)]; rw [eF70, mz_n (by decide)]; rw [eF69, mset_k (by decide)]; rw [eF66 _ _ (by decide)]; rw [eF63, mz_n (by decide)]; rw [eF62, mset_j (by decide)]; rw [eF60, mset_j (by decide)]; rw [eF58]; exact mset_s).trans ff_3_10.symm
    | 11, _, _ => exact (show F146 3 11 = some 291 by rw [eF146, mset_k (by decide)]; rw [eF143 _ _ (by decide)]; rw [eF140, mz_n (by decide)]; rw [eF139, mset_k (by decide)]; rw [eF136 _ _ (by decide)]; rw [eF133, mz_n (by decide)]; rw [eF132, mset_k (by decide)]; rw [eF129 _ _ (by decide)]; rw [eF126, mz_n (by decide)]; rw [eF125, mset_k (by decide)]; rw [eF122 _ _ (by decide)]; rw [eF119, mz_n (by decide)]; rw [eF118, mset_k (by decide)]; rw [eF115 _ _ (by decide)]; rw [eF112, mz_n (by decide)]; rw [eF111, mset_k (by decide)]; rw [eF108 _ _ (by decide)]; rw [eF105, mz_n (by decide)]; rw [eF104, mset_k (by decide)]; rw [eF101 _ _ (by decide)]; rw [eF98, mz_n (by decide)]; rw [eF97, mset_k (by decide)]; rw [eF94 _ _ (by decide)]; rw [eF91, mz_n (by decide)]; rw [eF90, mset_k (by decide)]; rw [eF87 _ _ (by decide)]; rw [eF84, mz_n (by decide)]; rw [eF83, mset_k (by decide)]; rw [eF80 _ _ (by decide)]; rw [eF77, mz_n (by decide)]; rw [eF76, mset_k (by decide)]; rw [eF73 _ _ (by decide)]; rw [eF70, mz_n (by decide)]; rw [eF69, mset_k (by decide)]; rw [eF66 _ _ (by decide)]; rw [eF63, mz_n (by decide)]; rw [eF62, mset_j (by decide)]; rw [eF60]; exact mset_s).trans ff_3_11.symm
    | 12, _, _ => exact (show F146 3 12 = some 292 by rw [eF146, mset_k (by decide)]; rw [eF143 _ _ (by decide)]; rw [eF140, mz_n (by decide)]; rw [eF139, mset_k (by decide)]; rw [eF136 _ _ (by decide)]; rw [eF133, mz_n (by decide)]; rw [eF132, mset_k (by decide)]; rw [eF129 _ _ (by decide)]; rw [eF126, mz_n (by decide)]; rw [eF125, mset_k (by decide)]; rw [eF122 _ _ (by decide)]; rw [eF119, mz_n (by decide)]; rw [eF118, mset_k (by decide)]; rw [eF115 _ _ (by decide)]; rw [eF112, mz_n (by decide)]; rw [eF111, mset_k (by decide)]; rw [eF108 _ _ (by decide)]; rw [eF105, mz_n (by decide)]; rw [eF104, mset_k (by decide)]; rw [eF101 _ _ (by decide)]; rw [eF98, mz_n (by decide)]; rw [eF97, mset_k (by decide)]; rw [eF94 _ _ (by decide)]; rw [eF91, mz_n (by decide)]; rw [eF90, mset_k (by decide)]; rw [eF87 _ _ (by decide)]; rw [eF84, mz_n (by decide)]; rw [eF83, mset_k (by decide)]; rw [eF80 _ _ (by decide)]; rw [eF77, mz_n (by decide)]; rw [eF76, mset_k (by decide)]; rw [eF73 _ _ (by decide)]; rw [eF70, mz_n (by decide)]; rw [eF69, mset_k (by decide)]; rw [eF66 _ _ (by decide)]; rw [eF63, mz_n (by decide)]; rw [eF62]; exact mset_s).trans ff_3_12.symm
    | 13, _, hn => exact absurd hn (by decide)
    | 14, _, hn => exact absurd hn (by decide)
    | 15, _, hn => exact absurd hn (by decide)
    | 16, _, hn => exact absurd hn (by decide)
    | 17, _, hn => exact absurd hn (by decide)
    | 18, _, hn => exact absurd hn (by decide)
    | n + 19, hj, _ => exact absurd hj (by show ¬ n + 19 < 19; omega)
  · show cpx F146 4
    intro j hj _
    replace hj : j < 12 := by rw [show (TF _).2 = _ from congrArg Prod.snd tf_4] at hj; exact hj
    match j, hj with
    | 0, _ => exact (show F146 4 0 = some 293 by rw [eF146, mset_j (by decide)]; rw [eF143 _ _ (by decide)]; rw [eF140, mz_n (by decide)]; rw [eF139, mset_j (by decide)]; rw [eF136 _ _ (by decide)]; rw [eF133, mz_n (by decide)]; rw [eF132, mset_j (by decide)]; rw [eF129 _ _ (by decide)]; rw [eF126, mz_n (by decide)]; rw [eF125, mset_j (by decide)]; rw [eF122 _ _ (by decide)]; rw [eF119, mz_n (by decide)]; rw [eF118, mset_j (by decide)]; rw [eF115 _ _ (by decide)]; rw [eF112, mz_n (by decide)]; rw [eF111, mset_j (by decide)]; rw [eF108 _ _ (by decide)]; rw [eF105, mz_n (by decide)]; rw [eF104, mset_j (by decide)]; rw [eF101 _ _ (by decide)]; rw [eF98, mz_n (by decide)]; rw [eF97, mset_j (by decide)]; rw [eF94 _ _ (by decide)]; rw [eF91, mz_n (by decide)]; rw [eF90, mset_j (by decide)]; rw [eF87 _ _ (by decide)]; rw [eF84, mz_n (by decide)]; rw [eF83, mset_j (by decide)]; rw [eF80 _ _ (by decide)]; rw [eF77, mz_n (by decide)]; rw [eF76, mset_j (by decide)]; rw [eF73 _ _ (by decide)]; rw [eF70, mz_n (by decide)]; rw [eF69]; exact mset_s).trans (fr_4 0 (by decide)).symm
    | 1, _ => exact (show F146 4 1 = some 329 by rw [eF146, mset_j (by decide)]; rw [eF143 _ _ (by decide)]; rw [eF140, mz_n (by decide)]; rw [eF139, mset_j (by decide)]; rw [eF136 _ _ (by decide)]; rw [eF133, mz_n (by decide)]; rw [eF132, mset_j (by decide)]; rw [eF129 _ _ (by decide)]; rw [eF126, mz_n (by decide)]; rw [eF125, mset_j (by decide)]; rw [eF122 _ _ (by decide)]; rw [eF119, mz_n (by decide)]; rw [eF118, mset_j (by decide)]; rw [eF115 _ _ (by decide)]; rw [eF112, mz_n (by decide)]; rw [eF111, mset_j (by decide)]; rw [eF108 _ _ (by decide)]; rw [eF105, mz_n (by decide)]; rw [eF104, mset_j (by decide)]; rw [eF101 _ _ (by decide)]; rw [eF98, mz_n (by decide)]; rw [eF97, mset_j (by decide)]; rw [eF94 _ _ (by decide)]; rw [eF91, mz_n (by decide)]; rw [eF90, mset_j (by decide)]; rw [eF87 _ _ (by decide)]; rw [eF84, mz_n (by decide)]; rw [eF83, mset_j (by decide)]; rw [eF80 _ _ (by decide)]; rw [eF77, mz_n (by decide)]; rw [eF76]; exact mset_s).trans (fr_4 1 (by decide)).symm
    | 2, _ => exact (show F146 4 2 = some 365 by rw [eF146, mset_j (by decide)]; rw [eF143 _ _ (by decide)]; rw [eF140, mz_n (by decide)]; rw [eF139, mset_j (by decide)]; rw [eF136 _ _ (by decide)]; rw [eF133, mz_n (by decide)]; rw [eF132, mset_j (by decide)]; rw [eF129 _ _ (by decide)]; rw [eF126, mz_n (by decide)]; rw [eF125, mset_j (by decide)]; rw [eF122 _ _ (by decide)]; rw [eF119, mz_n (by decide)]; rw [eF118, mset_j (by decide)]; rw [eF115 _ _ (by decide)]; rw [eF112, mz_n (by decide)]; rw [eF111, mset_j (by decide)]; rw [eF108 _ _ (by decide)]; rw [eF105, mz_n (by decide)]; rw [eF104, mset_j (by decide)]; rw [eF101 _ _ (by decide)]; rw [eF98, mz_n (by decide)]; rw [eF97, mset_j (by decide)]; rw [eF94 _ _ (by decide)]; rw [eF91, mz_n (by decide)]; rw [eF90, mset_j (by decide)]; rw [eF87 _ _ (by decide)]; rw [eF84, mz_n (by decide)]; rw [eF83]; exact mset_s).trans (fr_4 2 (by decide)).symm
    | 3, _ => exact (show F146 4 3 = some 401 by rw [eF146, mset_j (by decide)]; rw [eF143 _ _ (by decide)]; rw [eF140, mz_n (by decide)]; rw [eF139, mset_j (by decide)]; rw [eF136 _ _ (by decide)]; rw [eF133, mz_n (by decide)]; rw [eF132, mset_j (by decide)]; rw [eF129 _ _ (by decide)]; rw [eF126, mz_n (by decide)]; rw [eF125, mset_j (by decide)]; rw [eF122 _ _ (by decide)]; rw [eF119, mz_n (by decide)]; rw [eF118, mset_j (by decide)]; rw [eF115 _ _ (by decide)]; rw [eF112, mz_n (by decide)]; rw [eF111, mset_j (by decide)]; rw [eF108 _ _ (by decide)]; rw [eF105, mz_n (by decide)]; rw [eF104, mset_j (by decide)]; rw [eF101 _ _ (by decide)]; rw [eF98, mz_n (by decide)]; rw [eF97, mset_j (by decide)]; rw [eF94 _ _ (by decide)]; rw [eF91, mz_n (by decide)]; rw [eF90]; exact mset_s).trans (fr_4 3 (by decide)).symm
    | 4, _ => exact (show F146 4 4 = some 437 by rw [eF146, mset_j (by decide)]; rw [eF143 _ _ (by decide)]; rw [eF140, mz_n (by decide)]; rw [eF139, mset_j (by decide)]; rw [eF136 _ _ (by decide)]; rw [eF133, mz_n (by decide)]; rw [eF132, mset_j (by decide)]; rw [eF129 _ _ (by decide)]; rw [eF126, mz_n (by decide)]; rw [eF125, mset_j (by decide)]; rw [eF122 _ _ (by decide)]; rw [eF119, mz_n (by decide)]; rw [eF118, mset_j (by decide)]; rw [eF115 _ _ (by decide)]; rw [eF112, mz_n (by decide)]; rw [eF111, mset_j (by decide)]; rw [eF108 _ _ (by decide)]; rw [eF105, mz_n (by decide)]; rw [eF104, mset_j (by decide)]; rw [eF101 _ _ (by decide)]; rw [eF98, mz_n (by decide)]; rw [eF97]; exact mset_s).trans (fr_4 4 (by decide)).symm
    | 5, _ => exact (show F146 4 5 = some 473 by rw [eF146, mset_j (by decide)]; rw [eF143 _ _ (by decide)]; rw [eF140, mz_n (by decide)]; rw [eF139, mset_j (by decide)]; rw [eF136 _ _ (by decide)]; rw [eF133, mz_n (by decide)]; rw [eF132, mset_j (by decide)]; rw [eF129 _ _ (by decide)]; rw [eF126, mz_n (by decide)]; rw [eF125, mset_j (by decide)]; rw [eF122 _ _ (by decide)]; rw [eF119, mz_n (by decide)]; rw [eF118, mset_j (by decide)]; rw [eF115 _ _ (by decide)]; rw [eF112, mz_n (by decide)]; rw [eF111, mset_j (by decide)]; rw [eF108 _ _ (by decide)]; rw [eF105, mz_n (by decide)]; rw [eF104]; exact mset_s).trans (fr_4 5 (by decide)).symm
    | 6, _ => exact (show F146 4 6 = some 509 by rw [eF146, mset_j (by decide)]; rw [eF143 _ _ (by decide)]; rw [eF140, mz_n (by decide)]; rw [eF139, mset_j (by decide)]; rw [eF136 _ _ (by decide)]; rw [eF133, mz_n (by decide)]; rw [eF132, mset_j (by decide)]; rw [eF129 _ _ (by decide)]; rw [eF126, mz_n (by decide)]; rw [eF125, mset_j (by decide)]; rw [eF122 _ _ (by decide)]; rw [eF119, mz_n (by decide)]; rw [eF118, mset_j (by decide)]; rw [eF115 _ _ (by decide)]; rw [eF112, mz_n (by decide)]; rw [eF111]; exact mset_s).trans (fr_4 6 (by decide)).symm
    | 7, _ => exact (show F146 4 7 = some 545 by rw [eF146, mset_j (by decide)]; rw [eF143 _ _ (by decide)]; rw [eF140, mz_n (by decide)]; rw [eF139, mset_j (by decide)]; rw [eF136 _ _ (by decide)]; rw [eF133, mz_n (by decide)]; rw [eF132, mset_j (by decide)]; rw [eF129 _ _ (by decide)]; rw [eF126, mz_n (by decide)]; rw [eF125, mset_j (by decide)]; rw [eF122 _ _ (by decide)]; rw [eF119, mz_n (by decide)]; rw [eF118]; exact mset_s).trans (fr_4 7 (by decide)).symm
    | 8, _ => exact (show F146 4 8 = some 581 by rw [eF146, mset_j (by decide)]; rw [eF143 _ _ (by decide)]; rw [eF140, mz_n (by decide)]; rw [eF139, mset_j (by decide)]; rw [eF136 _ _ (by decide)]; rw [eF133, mz_n (by decide)]; rw [eF132, mset_j (by decide)]; rw [eF129 _ _ (by decide)]; rw [eF126, mz_n (by decide)]; rw [eF125]; exact mset_s).trans (fr_4 8 (by decide)).symm
    | 9, _ => exact (show F146 4 9 = some 617 by rw [eF146, mset_j (by decide)]; rw [eF143 _ _ (by decide)]; rw [eF140, mz_n (by decide)]; rw [eF139, mset_j (by decide)]; rw [eF136 _ _ (by decide)]; rw [eF133, mz_n (by decide)]; rw [eF132]; exact mset_s).trans (fr_4 9 (by decide)).symm
    | 10, _ => exact (show F146 4 10 = some 653 by rw [eF146, mset_j (by decide)]; rw [eF143 _ _ (by decide)]; rw [eF140, mz_n (by decide)]; rw [eF139]; exact mset_s).trans (fr_4 10 (by decide)).symm
    | 11, _ => exact (show F146 4 11 = some 689 by rw [eF146]; exact mset_s).trans (fr_4 11 (by decide)).symm
    | n + 12, hj => exact absurd hj (by omega)
  · exact cpx_keep (gX4_init hc6 0 (List.mem_of_getElem? (i := 0) rfl)) (fun j => kpF6 _ j (by omega))
  · exact cpx_keep (gX4_init hc6 1 (List.mem_of_getElem? (i := 1) rfl)) (fun j => kpF6 _ j (by omega))
  · exact cpx_keep (gX0_init hc13 0 (List.mem_of_getElem? (i := 0) rfl)) (fun j => kpF13 _ j (by omega))
  · exact cpx_keep (gX0_init hc13 4 (List.mem_of_getElem? (i := 1) rfl)) (fun j => kpF13 _ j (by omega))
  · exact cpx_keep (gX0_init hc13 13 (List.mem_of_getElem? (i := 2) rfl)) (fun j => kpF13 _ j (by omega))
  · exact cpx_keep (gX0_init hc13 21 (List.mem_of_getElem? (i := 3) rfl)) (fun j => kpF13 _ j (by omega))
  · exact cpx_keep (gX0_init hc13 22 (List.mem_of_getElem? (i := 4) rfl)) (fun j => kpF13 _ j (by omega))
  · exact cpx_keep (gX0_init hc13 27 (List.mem_of_getElem? (i := 5) rfl)) (fun j => kpF13 _ j (by omega))
  · exact cpx_keep (gX0_init hc13 29 (List.mem_of_getElem? (i := 6) rfl)) (fun j => kpF13 _ j (by omega))
  · exact cpx_keep (gX0_init hc13 31 (List.mem_of_getElem? (i := 7) rfl)) (fun j => kpF13 _ j (by omega))
  · exact cpx_keep (gX0_init hc13 33 (List.mem_of_getElem? (i := 8) rfl)) (fun j => kpF13 _ j (by omega))
  · exact cpx_keep (gX0_init hc13 35 (List.mem_of_getElem? (i := 9) rfl)) (fun j => kpF13 _ j (by omega))
  · exact cpx_keep (gX0_init hc13 37 (List.mem_of_getElem? (i := 10) rfl)) (fun j => kpF13 _ j (by omega))
  · exact cpx_keep (gX0_init hc13 39 (List.mem_of_getElem? (i := 11) rfl)) (fun j => kpF13 _ j (by omega))
  · exact cpx_keep (gX6_init hc20 0 (List.mem_of_getElem? (i := 0) rfl)) (fun j => kpF20 _ j (by omega))
  · exact cpx_keep (gX6_init hc20 1 (List.mem_of_getElem? (i := 1) rfl)) (fun j => kpF20 _ j (by omega))
  · exact cpx_keep (gX6_init hc20 12 (List.mem_of_getElem? (i := 2) rfl)) (fun j => kpF20 _ j (by omega))
  · exact cpx_keep (gX6_init hc20 20 (List.mem_of_getElem? (i := 3) rfl)) (fun j => kpF20 _ j (by omega))
  · exact cpx_keep (gX6_init hc20 24 (List.mem_of_getElem? (i := 4) rfl)) (fun j => kpF20 _ j (by omega))
  · exact cpx_keep (gX3_init hc27 0 (List.mem_of_getElem? (i := 0) rfl)) (fun j => kpF27 _ j (by omega))
  · exact cpx_keep (gX3_init hc27 3 (List.mem_of_getElem? (i := 1) rfl)) (fun j => kpF27 _ j (by omega))
  · exact cpx_keep (gX3_init hc27 21 (List.mem_of_getElem? (i := 2) rfl)) (fun j => kpF27 _ j (by omega))
  · exact cpx_keep (gX10_init hc34 0 (List.mem_of_getElem? (i := 0) rfl)) (fun j => kpF34 _ j (by omega))
  · exact cpx_keep (gX10_init hc34 1 (List.mem_of_getElem? (i := 1) rfl)) (fun j => kpF34 _ j (by omega))
  · exact cpx_keep (gX9_init hc41 0 (List.mem_of_getElem? (i := 0) rfl)) (fun j => kpF41 _ j (by omega))
  · exact cpx_keep (gX9_init hc41 1 (List.mem_of_getElem? (i := 1) rfl)) (fun j => kpF41 _ j (by omega))
  · exact cpx_keep (gX9_init hc41 7 (List.mem_of_getElem? (i := 2) rfl)) (fun j => kpF41 _ j (by omega))
  · exact cpx_keep (gX9_init hc41 109 (List.mem_of_getElem? (i := 3) rfl)) (fun j => kpF41 _ j (by omega))
  · exact cpx_keep (gX9_init hc41 115 (List.mem_of_getElem? (i := 4) rfl)) (fun j => kpF41 _ j (by omega))
  · exact cpx_keep (gX7_init hc48 0 (List.mem_of_getElem? (i := 0) rfl)) (fun j => kpF48 _ j (by omega))
  · show cpx F146 285
    intro j hj _
    replace hj : j < 5 := by rw [show (TF _).2 = _ from congrArg Prod.snd tf_285] at hj; exact hj
    exact (show F146 285 j = some (285 + 1 + j) by rw [eF146, mset_k (by decide)]; rw [eF143 _ _ (by decide)]; rw [eF140, mz_n (by decide)]; rw [eF139, mset_k (by decide)]; rw [eF136 _ _ (by decide)]; rw [eF133, mz_n (by decide)]; rw [eF132, mset_k (by decide)]; rw [eF129 _ _ (by decide)]; rw [eF126, mz_n (by decide)]; rw [eF125, mset_k (by decide)]; rw [eF122 _ _ (by decide)]; rw [eF119, mz_n (by decide)]; rw [eF118, mset_k (by decide)]; rw [eF115 _ _ (by decide)]; rw [eF112, mz_n (by decide)]; rw [eF111, mset_k (by decide)]; rw [eF108 _ _ (by decide)]; rw [eF105, mz_n (by decide)]; rw [eF104, mset_k (by decide)]; rw [eF101 _ _ (by decide)]; rw [eF98, mz_n (by decide)]; rw [eF97, mset_k (by decide)]; rw [eF94 _ _ (by decide)]; rw [eF91, mz_n (by decide)]; rw [eF90, mset_k (by decide)]; rw [eF87 _ _ (by decide)]; rw [eF84, mz_n (by decide)]; rw [eF83, mset_k (by decide)]; rw [eF80 _ _ (by decide)]; rw [eF77, mz_n (by decide)]; rw [eF76, mset_k (by decide)]; rw [eF73 _ _ (by decide)]; rw [eF70, mz_n (by decide)]; rw [eF69, mset_k (by decide)]; rw [eF66 _ _ (by decide)]; rw [eF63, mz_n (by decide)]; rw [eF62, mset_k (by decide)]; rw [eF60, mset_k (by decide)]; rw [eF58, mset_k (by decide)]; rw [eF56]; exact mrow_s hj).trans ((fr_285 j hj).1.trans (congrArg some (by omega))).symm
  · exact cpx_keep (gX2_init (isCh_of (x := 0) (by decide)) hc66 0 (List.mem_of_getElem? (i := 0) rfl)) (fun j => kpF66 _ j (by omega))
  · exact cpx_keep (gX2_init (isCh_of (x := 0) (by decide)) hc66 1 (List.mem_of_getElem? (i := 1) rfl)) (fun j => kpF66 _ j (by omega))
  · exact cpx_keep (gX2_init (isCh_of (x := 0) (by decide)) hc66 20 (List.mem_of_getElem? (i := 2) rfl)) (fun j => kpF66 _ j (by omega))
  · exact cpx_keep (gX2_init (isCh_of (x := 0) (by decide)) hc66 28 (List.mem_of_getElem? (i := 3) rfl)) (fun j => kpF66 _ j (by omega))
  · exact cpx_keep (gX2_init (isCh_of (x := 1) (by decide)) hc73 0 (List.mem_of_getElem? (i := 0) rfl)) (fun j => kpF73 _ j (by omega))
  · exact cpx_keep (gX2_init (isCh_of (x := 1) (by decide)) hc73 1 (List.mem_of_getElem? (i := 1) rfl)) (fun j => kpF73 _ j (by omega))
  · exact cpx_keep (gX2_init (isCh_of (x := 1) (by decide)) hc73 20 (List.mem_of_getElem? (i := 2) rfl)) (fun j => kpF73 _ j (by omega))
  · exact cpx_keep (gX2_init (isCh_of (x := 1) (by decide)) hc73 28 (List.mem_of_getElem? (i := 3) rfl)) (fun j => kpF73 _ j (by omega))
  · exact cpx_keep (gX2_init (isCh_of (x := 2) (by decide)) hc80 0 (List.mem_of_getElem? (i := 0) rfl)) (fun j => kpF80 _ j (by omega))
  · exact cpx_keep (gX2_init (isCh_of (x := 2) (by decide)) hc80 1 (List.mem_of_getElem? (i := 1) rfl)) (fun j => kpF80 _ j (by omega))
  · exact cpx_keep (gX2_init (isCh_of (x := 2) (by decide)) hc80 20 (List.mem_of_getElem? (i := 2) rfl)) (fun j => kpF80 _ j (by omega))
  · exact cpx_keep (gX2_init (isCh_of (x := 2) (by decide)) hc80 28 (List.mem_of_getElem? (i := 3) rfl)) (fun j => kpF80 _ j (by omega))
  · exact cpx_keep (gX2_init (isCh_of (x := 3) (by decide)) hc87 0 (List.mem_of_getElem? (i := 0) rfl)) (fun j => kpF87 _ j (by omega))
  · exact cpx_keep (gX2_init (isCh_of (x := 3) (by decide)) hc87 1 (List.mem_of_getElem? (i := 1) rfl)) (fun j => kpF87 _ j (by omega))
  · exact cpx_keep (gX2_init (isCh_of (x := 3) (by decide)) hc87 20 (List.mem_of_getElem? (i := 2) rfl)) (fun j => kpF87 _ j (by omega))
  · exact cpx_keep (gX2_init (isCh_of (x := 3) (by decide)) hc87 28 (List.mem_of_getElem? (i := 3) rfl)) (fun j => kpF87 _ j (by omega))
  · exact cpx_keep (gX2_init (isCh_of (x := 4) (by decide)) hc94 0 (List.mem_of_getElem? (i := 0) rfl)) (fun j => kpF94 _ j (by omega))
  · exact cpx_keep (gX2_init (isCh_of (x := 4) (by decide)) hc94 1 (List.mem_of_getElem? (i := 1) rfl)) (fun j => kpF94 _ j (by omega))
  · exact cpx_keep (gX2_init (isCh_of (x := 4) (by decide)) hc94 20 (List.mem_of_getElem? (i := 2) rfl)) (fun j => kpF94 _ j (by omega))
  · exact cpx_keep (gX2_init (isCh_of (x := 4) (by decide)) hc94 28 (List.mem_of_getElem? (i := 3) rfl)) (fun j => kpF94 _ j (by omega))
  · exact cpx_keep (gX2_init (isCh_of (x := 5) (by decide)) hc101 0 (List.mem_of_getElem? (i := 0) rfl)) (fun j => kpF101 _ j (by omega))
  · exact cpx_keep (gX2_init (isCh_of (x := 5) (by decide)) hc101 1 (List.mem_of_getElem? (i := 1) rfl)) (fun j => kpF101 _ j (by omega))
  · exact cpx_keep (gX2_init (isCh_of (x := 5) (by decide)) hc101 20 (List.mem_of_getElem? (i := 2) rfl)) (fun j => kpF101 _ j (by omega))
  · exact cpx_keep (gX2_init (isCh_of (x := 5) (by decide)) hc101 28 (List.mem_of_getElem? (i := 3) rfl)) (fun j => kpF101 _ j (by omega))
  · exact cpx_keep (gX2_init (isCh_of (x := 6) (by decide)) hc108 0 (List.mem_of_getElem? (i := 0) rfl)) (fun j => kpF108 _ j (by omega))
  · exact cpx_keep (gX2_init (isCh_of (x := 6) (by decide)) hc108 1 (List.mem_of_getElem? (i := 1) rfl)) (fun j => kpF108 _ j (by omega))
  · exact cpx_keep (gX2_init (isCh_of (x := 6) (by decide)) hc108 20 (List.mem_of_getElem? (i := 2) rfl)) (fun j => kpF108 _ j (by omega))
  · exact cpx_keep (gX2_init (isCh_of (x := 6) (by decide)) hc108 28 (List.mem_of_getElem? (i := 3) rfl)) (fun j => kpF108 _ j (by omega))
  · exact cpx_keep (gX2_init (isCh_of (x := 7) (by decide)) hc115 0 (List.mem_of_getElem? (i := 0) rfl)) (fun j => kpF115 _ j (by omega))
  · exact cpx_keep (gX2_init (isCh_of (x := 7) (by decide)) hc115 1 (List.mem_of_getElem? (i := 1) rfl)) (fun j => kpF115 _ j (by omega))
  · exact cpx_keep (gX2_init (isCh_of (x := 7) (by decide)) hc115 20 (List.mem_of_getElem? (i := 2) rfl)) (fun j => kpF115 _ j (by omega))
  · exact cpx_keep (gX2_init (isCh_of (x := 7) (by decide)) hc115 28 (List.mem_of_getElem? (i := 3) rfl)) (fun j => kpF115 _ j (by omega))
  · exact cpx_keep (gX2_init (isCh_of (x := 8) (by decide)) hc122 0 (List.mem_of_getElem? (i := 0) rfl)) (fun j => kpF122 _ j (by omega))
  · exact cpx_keep (gX2_init (isCh_of (x := 8) (by decide)) hc122 1 (List.mem_of_getElem? (i := 1) rfl)) (fun j => kpF122 _ j (by omega))
  · exact cpx_keep (gX2_init (isCh_of (x := 8) (by decide)) hc122 20 (List.mem_of_getElem? (i := 2) rfl)) (fun j => kpF122 _ j (by omega))
  · exact cpx_keep (gX2_init (isCh_of (x := 8) (by decide)) hc122 28 (List.mem_of_getElem? (i := 3) rfl)) (fun j => kpF122 _ j (by omega))
  · exact cpx_keep (gX2_init (isCh_of (x := 9) (by decide)) hc129 0 (List.mem_of_getElem? (i := 0) rfl)) (fun j => kpF129 _ j (by omega))
  · exact cpx_keep (gX2_init (isCh_of (x := 9) (by decide)) hc129 1 (List.mem_of_getElem? (i := 1) rfl)) (fun j => kpF129 _ j (by omega))
  · exact cpx_keep (gX2_init (isCh_of (x := 9) (by decide)) hc129 20 (List.mem_of_getElem? (i := 2) rfl)) (fun j => kpF129 _ j (by omega))
  · exact cpx_keep (gX2_init (isCh_of (x := 9) (by decide)) hc129 28 (List.mem_of_getElem? (i := 3) rfl)) (fun j => kpF129 _ j (by omega))
  · exact cpx_keep (gX2_init (isCh_of (x := 10) (by decide)) hc136 0 (List.mem_of_getElem? (i := 0) rfl)) (fun j => kpF136 _ j (by omega))
  · exact cpx_keep (gX2_init (isCh_of (x := 10) (by decide)) hc136 1 (List.mem_of_getElem? (i := 1) rfl)) (fun j => kpF136 _ j (by omega))
  · exact cpx_keep (gX2_init (isCh_of (x := 10) (by decide)) hc136 20 (List.mem_of_getElem? (i := 2) rfl)) (fun j => kpF136 _ j (by omega))
  · exact cpx_keep (gX2_init (isCh_of (x := 10) (by decide)) hc136 28 (List.mem_of_getElem? (i := 3) rfl)) (fun j => kpF136 _ j (by omega))
  · exact cpx_keep (gX2_init (isCh_of (x := 11) (by decide)) hc143 0 (List.mem_of_getElem? (i := 0) rfl)) (fun j => kpF143 _ j (by omega))
  · exact cpx_keep (gX2_init (isCh_of (x := 11) (by decide)) hc143 1 (List.mem_of_getElem? (i := 1) rfl)) (fun j => kpF143 _ j (by omega))
  · exact cpx_keep (gX2_init (isCh_of (x := 11) (by decide)) hc143 20 (List.mem_of_getElem? (i := 2) rfl)) (fun j => kpF143 _ j (by omega))
  · exact cpx_keep (gX2_init (isCh_of (x := 11) (by decide)) hc143 28 (List.mem_of_getElem? (i := 3) rfl)) (fun j => kpF143 _ j (by omega))
set_option maxHeartbeats 8000000 in
set_option maxRecDepth 100000 in
theorem gX8_init {fu : Nat} {F : mwF} {M : mwM} {L : mwL} {FZ : mwF} {MZ : mwM} {LZ : mwL} (hD : DX8_init fu F M L = some (FZ, MZ, LZ)) : ∀ o ∈ [0, 2, 3, 4, 5, 19, 23, 32, 40, 41, 46, 48, 50, 52, 54, 56, 58, 60, 61, 72, 80, 84, 96, 99, 117, 138, 139, 153, 154, 160, 262, 268, 274, 284, 292, 293, 312, 320, 328, 329, 348, 356, 364, 365, 384, 392, 400, 401, 420, 428, 436, 437, 456, 464, 472, 473, 492, 500, 508, 509, 528, 536, 544, 545, 564, 572, 580, 581, 600, 608, 616, 617, 636, 644, 652, 653, 672, 680, 688, 689, 708, 716, 724], cpx FZ (1 + o) := by
  unfold DX8_init at hD
  obtain ⟨M1, eM1, hD⟩ := g_let hD
  obtain ⟨F2, eF2, hD⟩ := g_let hD
  obtain ⟨F3, eF3, hD⟩ := g_let hD
  obtain ⟨M4, eM4, hD⟩ := g_let hD
  obtain ⟨L5, eL5, hD⟩ := g_let hD
  obtain ⟨F6, M7, L8, hc6, hD⟩ := g_b3 hD
  have eF6 : ∀ a j, (a < 3 ∨ 725 ≤ a) → F6 a j = F3 a j := fun a j ha => kX1_init hc6 a j (by omega)
  obtain ⟨F9, eF9, hD⟩ := g_let hD
  obtain ⟨F10, eF10, hD⟩ := g_let hD
  obtain ⟨M11, eM11, hD⟩ := g_let hD
  obtain ⟨F12, eF12, hD⟩ := g_let hD
  have hf : F12 = FZ := by
    have hf := congrArg (fun q => q.1) (Option.some.inj hD)
    exact hf
  rw [← hf]
  have kpF6 : ∀ a j, (3 ≤ a ∧ a < 725) → F12 a j = F6 a j := by
    intro a j ha
    rw [eF12, mset_k (by omega)]
    rw [eF10, mrow_n (by omega)]
    rw [eF9, mset_k (by omega)]
  refine List.forall_mem_cons.mpr ⟨?_, List.forall_mem_cons.mpr ⟨?_, List.forall_mem_cons.mpr ⟨?_, List.forall_mem_cons.mpr ⟨?_, List.forall_mem_cons.mpr ⟨?_, List.forall_mem_cons.mpr ⟨?_, List.forall_mem_cons.mpr ⟨?_, List.forall_mem_cons.mpr ⟨?_, List.forall_mem_cons.mpr ⟨?_, List.forall_mem_cons.mpr ⟨?_, List.forall_mem_cons.mpr ⟨?_, List.forall_mem_cons.mpr ⟨?_, List.forall_mem_cons.mpr ⟨?_, List.forall_mem_cons.mpr ⟨?_, List.forall_mem_cons.mpr ⟨?_, List.forall_mem_cons.mpr ⟨?_, List.forall_mem_cons.mpr ⟨?_, List.forall_mem_cons.mpr ⟨?_, List.forall_mem_cons.mpr ⟨?_, List.forall_mem_cons.mpr ⟨?_, List.forall_mem_cons.mpr ⟨?_, List.forall_mem_cons.mpr ⟨?_, List.forall_mem_cons.mpr ⟨?_, List.forall_mem_cons.mpr ⟨?_, List.forall_mem_cons.mpr ⟨?_, List.forall_mem_cons.mpr ⟨?_, List.forall_mem_cons.mpr ⟨?_, List.forall_mem_cons.mpr ⟨?_, List.forall_mem_cons.mpr ⟨?_, List.forall_mem_cons.mpr ⟨?_, List.forall_mem_cons.mpr ⟨?_, List.forall_mem_cons.mpr ⟨?_, List.forall_mem_cons.mpr ⟨?_, List.forall_mem_cons.mpr ⟨?_, List.forall_mem_cons.mpr ⟨?_, List.forall_mem_cons.mpr ⟨?_, List.forall_mem_cons.mpr ⟨?_, List.forall_mem_cons.mpr ⟨?_, List.forall_mem_cons.mpr ⟨?_, List.forall_mem_cons.mpr ⟨?_, List.forall_mem_cons.mpr ⟨?_, List.forall_mem_cons.mpr ⟨?_, List.forall_mem_cons.mpr ⟨?_, List.forall_mem_cons.mpr ⟨?_, List.forall_mem_cons.mpr ⟨?_, List.forall_mem_cons.mpr ⟨?_, List.forall_mem_cons.mpr ⟨?_, List.forall_mem_cons.mpr ⟨?_, List.forall_mem_cons.mpr ⟨?_, List.forall_mem_cons.mpr ⟨?_, List.forall_mem_cons.mpr ⟨?_, List.forall_mem_cons.mpr ⟨?_, List.forall_mem_cons.mpr ⟨?_, List.forall_mem_cons.mpr ⟨?_, List.forall_mem_cons.mpr ⟨?_, List.forall_mem_cons.mpr ⟨?_, List.forall_mem_cons.mpr ⟨?_, List.forall_mem_cons.mpr ⟨?_, List.forall_mem_cons.mpr ⟨?_, List.forall_mem_cons.mpr ⟨?_, List.forall_mem_cons.mpr ⟨?_, List.forall_mem_cons.mpr ⟨?_, List.forall_mem_cons.mpr ⟨?_, List.forall_mem_cons.mpr ⟨?_, List.forall_mem_cons.mpr ⟨?_, List.forall_mem_cons.mpr ⟨?_, List.forall_mem_cons.mpr ⟨?_, List.forall_mem_cons.mpr ⟨?_, List.forall_mem_cons.mpr ⟨?_, List.forall_mem_cons.mpr ⟨?_, List.forall_mem_cons.mpr ⟨?_, List.forall_mem_cons.mpr ⟨?_, List.forall_mem_cons.mpr ⟨?_, List.forall_mem_cons.mpr ⟨?_, List.forall_mem_cons.mpr ⟨?_, List.forall_mem_cons.mpr ⟨?_, List.forall_mem_cons.mpr ⟨?_, List.forall_mem_cons.mpr ⟨?_, List.forall_mem_cons.mpr ⟨?_, List.forall_mem_cons.mpr ⟨?_, List.forall_mem_cons.mpr ⟨?_, List.forall_mem_cons.mpr ⟨?_, List.forall_mem_cons.mpr ⟨?_, fun _ h => absurd h List.not_mem_nil⟩⟩⟩⟩⟩⟩⟩⟩⟩⟩⟩⟩⟩⟩⟩⟩⟩⟩⟩⟩⟩⟩⟩⟩⟩⟩⟩⟩⟩⟩⟩⟩⟩⟩⟩⟩⟩⟩⟩⟩⟩⟩⟩⟩⟩⟩⟩⟩⟩⟩⟩⟩⟩⟩⟩⟩⟩⟩⟩⟩⟩⟩⟩⟩⟩⟩⟩⟩⟩⟩⟩⟩⟩⟩⟩⟩⟩⟩⟩⟩⟩⟩⟩
  · show cpx F12 1
    intro j hj hn
    rw [need_O tf_1] at hn
    rw [show (TF _).2 = _ from congrArg Prod.snd tf_1] at hj
    match j, hj, hn with
    | 0, _, _ => exact (show F12 1 0 = some 2 by rw [eF12, mset_j (by decide)]; rw [eF10, mrow_n (by decide)]; rw [eF9, mset_j (by decide)]; rw [eF6 _ _ (by decide)]; rw [eF3, mz_n (by decide)]; rw [eF2]; exact mset_s).trans ff_1_0.symm
    | 1, _, _ => exact (show F12 1 1 = some 3 by rw [eF12, mset_j (by decide)]; rw [eF10, mrow_n (by decide)]; rw [eF9]; exact mset_s).trans ff_1_1.symm
    | 2, _, _ => exact (show F12 1 2 = some 725 by rw [eF12]; exact mset_s).trans ff_1_2.symm
    | 3, _, hn => exact absurd hn (by decide)
    | 4, _, hn => exact absurd hn (by decide)
    | 5, _, hn => exact absurd hn (by decide)
    | 6, _, hn => exact absurd hn (by decide)
    | 7, _, hn => exact absurd hn (by decide)
    | 8, _, hn => exact absurd hn (by decide)
    | 9, _, hn => exact absurd hn (by decide)
    | 10, _, hn => exact absurd hn (by decide)
    | 11, _, hn => exact absurd hn (by decide)
    | 12, _, hn => exact absurd hn (by decide)
    | 13, _, hn => exact absurd hn (by decide)
    | n + 14, hj, _ => exact absurd hj (by show ¬ n + 14 < 14; omega)
  · exact cpx_keep (gX1_init hc6 0 (List.mem_of_getElem? (i := 0) rfl)) (fun j => kpF6 _ j (by omega))
  · exact cpx_keep (gX1_init hc6 1 (List.mem_of_getElem? (i := 1) rfl)) (fun j => kpF6 _ j (by omega))
  · exact cpx_keep (gX1_init hc6 2 (List.mem_of_getElem? (i := 2) rfl)) (fun j => kpF6 _ j (by omega))
  · exact cpx_keep (gX1_init hc6 3 (List.mem_of_getElem? (i := 3) rfl)) (fun j => kpF6 _ j (by omega))
  · exact cpx_keep (gX1_init hc6 17 (List.mem_of_getElem? (i := 4) rfl)) (fun j => kpF6 _ j (by omega))
  · exact cpx_keep (gX1_init hc6 21 (List.mem_of_getElem? (i := 5) rfl)) (fun j => kpF6 _ j (by omega))
  · exact cpx_keep (gX1_init hc6 30 (List.mem_of_getElem? (i := 6) rfl)) (fun j => kpF6 _ j (by omega))
  · exact cpx_keep (gX1_init hc6 38 (List.mem_of_getElem? (i := 7) rfl)) (fun j => kpF6 _ j (by omega))
  · exact cpx_keep (gX1_init hc6 39 (List.mem_of_getElem? (i := 8) rfl)) (fun j => kpF6 _ j (by omega))
  · exact cpx_keep (gX1_init hc6 44 (List.mem_of_getElem? (i := 9) rfl)) (fun j => kpF6 _ j (by omega))
  · exact cpx_keep (gX1_init hc6 46 (List.mem_of_getElem? (i := 10) rfl)) (fun j => kpF6 _ j (by omega))
  · exact cpx_keep (gX1_init hc6 48 (List.mem_of_getElem? (i := 11) rfl)) (fun j => kpF6 _ j (by omega))
  · exact cpx_keep (gX1_init hc6 50 (List.mem_of_getElem? (i := 12) rfl)) (fun j => kpF6 _ j (by omega))
  · exact cpx_keep (gX1_init hc6 52 (List.mem_of_getElem? (i := 13) rfl)) (fun j => kpF6 _ j (by omega))
  · exact cpx_keep (gX1_init hc6 54 (List.mem_of_getElem? (i := 14) rfl)) (fun j => kpF6 _ j (by omega))
  · exact cpx_keep (gX1_init hc6 56 (List.mem_of_getElem? (i := 15) rfl)) (fun j => kpF6 _ j (by omega))
  · exact cpx_keep (gX1_init hc6 58 (List.mem_of_getElem? (i := 16) rfl)) (fun j => kpF6 _ j (by omega))
  · exact cpx_keep (gX1_init hc6 59 (List.mem_of_getElem? (i := 17) rfl)) (fun j => kpF6 _ j (by omega))
  · exact cpx_keep (gX1_init hc6 70 (List.mem_of_getElem? (i := 18) rfl)) (fun j => kpF6 _ j (by omega))
  · exact cpx_keep (gX1_init hc6 78 (List.mem_of_getElem? (i := 19) rfl)) (fun j => kpF6 _ j (by omega))
  · exact cpx_keep (gX1_init hc6 82 (List.mem_of_getElem? (i := 20) rfl)) (fun j => kpF6 _ j (by omega))
  · exact cpx_keep (gX1_init hc6 94 (List.mem_of_getElem? (i := 21) rfl)) (fun j => kpF6 _ j (by omega))
  · exact cpx_keep (gX1_init hc6 97 (List.mem_of_getElem? (i := 22) rfl)) (fun j => kpF6 _ j (by omega))
  · exact cpx_keep (gX1_init hc6 115 (List.mem_of_getElem? (i := 23) rfl)) (fun j => kpF6 _ j (by omega))
  · exact cpx_keep (gX1_init hc6 136 (List.mem_of_getElem? (i := 24) rfl)) (fun j => kpF6 _ j (by omega))
  · exact cpx_keep (gX1_init hc6 137 (List.mem_of_getElem? (i := 25) rfl)) (fun j => kpF6 _ j (by omega))
  · exact cpx_keep (gX1_init hc6 151 (List.mem_of_getElem? (i := 26) rfl)) (fun j => kpF6 _ j (by omega))
  · exact cpx_keep (gX1_init hc6 152 (List.mem_of_getElem? (i := 27) rfl)) (fun j => kpF6 _ j (by omega))
  · exact cpx_keep (gX1_init hc6 158 (List.mem_of_getElem? (i := 28) rfl)) (fun j => kpF6 _ j (by omega))
  · exact cpx_keep (gX1_init hc6 260 (List.mem_of_getElem? (i := 29) rfl)) (fun j => kpF6 _ j (by omega))
  · exact cpx_keep (gX1_init hc6 266 (List.mem_of_getElem? (i := 30) rfl)) (fun j => kpF6 _ j (by omega))
  · exact cpx_keep (gX1_init hc6 272 (List.mem_of_getElem? (i := 31) rfl)) (fun j => kpF6 _ j (by omega))
  · exact cpx_keep (gX1_init hc6 282 (List.mem_of_getElem? (i := 32) rfl)) (fun j => kpF6 _ j (by omega))
  · exact cpx_keep (gX1_init hc6 290 (List.mem_of_getElem? (i := 33) rfl)) (fun j => kpF6 _ j (by omega))
  · exact cpx_keep (gX1_init hc6 291 (List.mem_of_getElem? (i := 34) rfl)) (fun j => kpF6 _ j (by omega))
  · exact cpx_keep (gX1_init hc6 310 (List.mem_of_getElem? (i := 35) rfl)) (fun j => kpF6 _ j (by omega))
  · exact cpx_keep (gX1_init hc6 318 (List.mem_of_getElem? (i := 36) rfl)) (fun j => kpF6 _ j (by omega))
  · exact cpx_keep (gX1_init hc6 326 (List.mem_of_getElem? (i := 37) rfl)) (fun j => kpF6 _ j (by omega))
  · exact cpx_keep (gX1_init hc6 327 (List.mem_of_getElem? (i := 38) rfl)) (fun j => kpF6 _ j (by omega))
  · exact cpx_keep (gX1_init hc6 346 (List.mem_of_getElem? (i := 39) rfl)) (fun j => kpF6 _ j (by omega))
  · exact cpx_keep (gX1_init hc6 354 (List.mem_of_getElem? (i := 40) rfl)) (fun j => kpF6 _ j (by omega))
  · exact cpx_keep (gX1_init hc6 362 (List.mem_of_getElem? (i := 41) rfl)) (fun j => kpF6 _ j (by omega))
  · exact cpx_keep (gX1_init hc6 363 (List.mem_of_getElem? (i := 42) rfl)) (fun j => kpF6 _ j (by omega))
  · exact cpx_keep (gX1_init hc6 382 (List.mem_of_getElem? (i := 43) rfl)) (fun j => kpF6 _ j (by omega))
  · exact cpx_keep (gX1_init hc6 390 (List.mem_of_getElem? (i := 44) rfl)) (fun j => kpF6 _ j (by omega))
  · exact cpx_keep (gX1_init hc6 398 (List.mem_of_getElem? (i := 45) rfl)) (fun j => kpF6 _ j (by omega))
  · exact cpx_keep (gX1_init hc6 399 (List.mem_of_getElem? (i := 46) rfl)) (fun j => kpF6 _ j (by omega))
  · exact cpx_keep (gX1_init hc6 418 (List.mem_of_getElem? (i := 47) rfl)) (fun j => kpF6 _ j (by omega))
  · exact cpx_keep (gX1_init hc6 426 (List.mem_of_getElem? (i := 48) rfl)) (fun j => kpF6 _ j (by omega))
  · exact cpx_keep (gX1_init hc6 434 (List.mem_of_getElem? (i := 49) rfl)) (fun j => kpF6 _ j (by omega))
  · exact cpx_keep (gX1_init hc6 435 (List.mem_of_getElem? (i := 50) rfl)) (fun j => kpF6 _ j (by omega))
  · exact cpx_keep (gX1_init hc6 454 (List.mem_of_getElem? (i := 51) rfl)) (fun j => kpF6 _ j (by omega))
  · exact cpx_keep (gX1_init hc6 462 (List.mem_of_getElem? (i := 52) rfl)) (fun j => kpF6 _ j (by omega))
  · exact cpx_keep (gX1_init hc6 470 (List.mem_of_getElem? (i := 53) rfl)) (fun j => kpF6 _ j (by omega))
  · exact cpx_keep (gX1_init hc6 471 (List.mem_of_getElem? (i := 54) rfl)) (fun j => kpF6 _ j (by omega))
  · exact cpx_keep (gX1_init hc6 490 (List.mem_of_getElem? (i := 55) rfl)) (fun j => kpF6 _ j (by omega))
  · exact cpx_keep (gX1_init hc6 498 (List.mem_of_getElem? (i := 56) rfl)) (fun j => kpF6 _ j (by omega))
  · exact cpx_keep (gX1_init hc6 506 (List.mem_of_getElem? (i := 57) rfl)) (fun j => kpF6 _ j (by omega))
  · exact cpx_keep (gX1_init hc6 507 (List.mem_of_getElem? (i := 58) rfl)) (fun j => kpF6 _ j (by omega))
  · exact cpx_keep (gX1_init hc6 526 (List.mem_of_getElem? (i := 59) rfl)) (fun j => kpF6 _ j (by omega))
  · exact cpx_keep (gX1_init hc6 534 (List.mem_of_getElem? (i := 60) rfl)) (fun j => kpF6 _ j (by omega))
  · exact cpx_keep (gX1_init hc6 542 (List.mem_of_getElem? (i := 61) rfl)) (fun j => kpF6 _ j (by omega))
  · exact cpx_keep (gX1_init hc6 543 (List.mem_of_getElem? (i := 62) rfl)) (fun j => kpF6 _ j (by omega))
  · exact cpx_keep (gX1_init hc6 562 (List.mem_of_getElem? (i := 63) rfl)) (fun j => kpF6 _ j (by omega))
  · exact cpx_keep (gX1_init hc6 570 (List.mem_of_getElem? (i := 64) rfl)) (fun j => kpF6 _ j (by omega))
  · exact cpx_keep (gX1_init hc6 578 (List.mem_of_getElem? (i := 65) rfl)) (fun j => kpF6 _ j (by omega))
  · exact cpx_keep (gX1_init hc6 579 (List.mem_of_getElem? (i := 66) rfl)) (fun j => kpF6 _ j (by omega))
  · exact cpx_keep (gX1_init hc6 598 (List.mem_of_getElem? (i := 67) rfl)) (fun j => kpF6 _ j (by omega))
  · exact cpx_keep (gX1_init hc6 606 (List.mem_of_getElem? (i := 68) rfl)) (fun j => kpF6 _ j (by omega))
  · exact cpx_keep (gX1_init hc6 614 (List.mem_of_getElem? (i := 69) rfl)) (fun j => kpF6 _ j (by omega))
  · exact cpx_keep (gX1_init hc6 615 (List.mem_of_getElem? (i := 70) rfl)) (fun j => kpF6 _ j (by omega))
  · exact cpx_keep (gX1_init hc6 634 (List.mem_of_getElem? (i := 71) rfl)) (fun j => kpF6 _ j (by omega))
  · exact cpx_keep (gX1_init hc6 642 (List.mem_of_getElem? (i := 72) rfl)) (fun j => kpF6 _ j (by omega))
  · exact cpx_keep (gX1_init hc6 650 (List.mem_of_getElem? (i := 73) rfl)) (fun j => kpF6 _ j (by omega))
  · exact cpx_keep (gX1_init hc6 651 (List.mem_of_getElem? (i := 74) rfl)) (fun j => kpF6 _ j (by omega))
  · exact cpx_keep (gX1_init hc6 670 (List.mem_of_getElem? (i := 75) rfl)) (fun j => kpF6 _ j (by omega))
  · exact cpx_keep (gX1_init hc6 678 (List.mem_of_getElem? (i := 76) rfl)) (fun j => kpF6 _ j (by omega))
  · exact cpx_keep (gX1_init hc6 686 (List.mem_of_getElem? (i := 77) rfl)) (fun j => kpF6 _ j (by omega))
  · exact cpx_keep (gX1_init hc6 687 (List.mem_of_getElem? (i := 78) rfl)) (fun j => kpF6 _ j (by omega))
  · exact cpx_keep (gX1_init hc6 706 (List.mem_of_getElem? (i := 79) rfl)) (fun j => kpF6 _ j (by omega))
  · exact cpx_keep (gX1_init hc6 714 (List.mem_of_getElem? (i := 80) rfl)) (fun j => kpF6 _ j (by omega))
  · show cpx F12 725
    intro j hj _
    replace hj : j < 5 := by rw [show (TF _).2 = _ from congrArg Prod.snd tf_725] at hj; exact hj
    exact (show F12 725 j = some (725 + 1 + j) by rw [eF12, mset_k (by decide)]; rw [eF10]; exact mrow_s hj).trans ((fr_725 j hj).1.trans (congrArg some (by omega))).symm
set_option maxHeartbeats 8000000 in
set_option maxRecDepth 100000 in
theorem gX11_init {fu : Nat} {F : mwF} {M : mwM} {L : mwL} {FZ : mwF} {MZ : mwM} {LZ : mwL} (hD : DX11_init fu F M L = some (FZ, MZ, LZ)) : ∀ o ∈ [0, 1, 3, 4, 5, 6, 20, 24, 33, 41, 42, 47, 49, 51, 53, 55, 57, 59, 61, 62, 73, 81, 85, 97, 100, 118, 139, 140, 154, 155, 161, 263, 269, 275, 285, 293, 294, 313, 321, 329, 330, 349, 357, 365, 366, 385, 393, 401, 402, 421, 429, 437, 438, 457, 465, 473, 474, 493, 501, 509, 510, 529, 537, 545, 546, 565, 573, 581, 582, 601, 609, 617, 618, 637, 645, 653, 654, 673, 681, 689, 690, 709, 717, 725], cpx FZ (0 + o) := by
  unfold DX11_init at hD
  obtain ⟨F1, eF1, hD⟩ := g_let hD
  obtain ⟨M2, eM2, hD⟩ := g_let hD
  obtain ⟨L3, eL3, hD⟩ := g_let hD
  obtain ⟨F4, M5, L6, hc4, hD⟩ := g_b3 hD
  have eF4 : ∀ a j, (a < 1 ∨ 731 ≤ a) → F4 a j = F1 a j := fun a j ha => kX8_init hc4 a j (by omega)
  obtain ⟨F7, eF7, hD⟩ := g_let hD
  obtain ⟨F8, eF8, hD⟩ := g_let hD
  obtain ⟨M9, eM9, hD⟩ := g_let hD
  obtain ⟨F10, eF10, hD⟩ := g_let hD
  have hf : F10 = FZ := by
    have hf := congrArg (fun q => q.1) (Option.some.inj hD)
    exact hf
  rw [← hf]
  have kpF4 : ∀ a j, (1 ≤ a ∧ a < 731) → F10 a j = F4 a j := by
    intro a j ha
    rw [eF10, mset_k (by omega)]
    rw [eF8, mset_k (by omega)]
    rw [eF7, mset_k (by omega)]
  refine List.forall_mem_cons.mpr ⟨?_, List.forall_mem_cons.mpr ⟨?_, List.forall_mem_cons.mpr ⟨?_, List.forall_mem_cons.mpr ⟨?_, List.forall_mem_cons.mpr ⟨?_, List.forall_mem_cons.mpr ⟨?_, List.forall_mem_cons.mpr ⟨?_, List.forall_mem_cons.mpr ⟨?_, List.forall_mem_cons.mpr ⟨?_, List.forall_mem_cons.mpr ⟨?_, List.forall_mem_cons.mpr ⟨?_, List.forall_mem_cons.mpr ⟨?_, List.forall_mem_cons.mpr ⟨?_, List.forall_mem_cons.mpr ⟨?_, List.forall_mem_cons.mpr ⟨?_, List.forall_mem_cons.mpr ⟨?_, List.forall_mem_cons.mpr ⟨?_, List.forall_mem_cons.mpr ⟨?_, List.forall_mem_cons.mpr ⟨?_, List.forall_mem_cons.mpr ⟨?_, List.forall_mem_cons.mpr ⟨?_, List.forall_mem_cons.mpr ⟨?_, List.forall_mem_cons.mpr ⟨?_, List.forall_mem_cons.mpr ⟨?_, List.forall_mem_cons.mpr ⟨?_, List.forall_mem_cons.mpr ⟨?_, List.forall_mem_cons.mpr ⟨?_, List.forall_mem_cons.mpr ⟨?_, List.forall_mem_cons.mpr ⟨?_, List.forall_mem_cons.mpr ⟨?_, List.forall_mem_cons.mpr ⟨?_, List.forall_mem_cons.mpr ⟨?_, List.forall_mem_cons.mpr ⟨?_, List.forall_mem_cons.mpr ⟨?_, List.forall_mem_cons.mpr ⟨?_, List.forall_mem_cons.mpr ⟨?_, List.forall_mem_cons.mpr ⟨?_, List.forall_mem_cons.mpr ⟨?_, List.forall_mem_cons.mpr ⟨?_, List.forall_mem_cons.mpr ⟨?_, List.forall_mem_cons.mpr ⟨?_, List.forall_mem_cons.mpr ⟨?_, List.forall_mem_cons.mpr ⟨?_, List.forall_mem_cons.mpr ⟨?_, List.forall_mem_cons.mpr ⟨?_, List.forall_mem_cons.mpr ⟨?_, List.forall_mem_cons.mpr ⟨?_, List.forall_mem_cons.mpr ⟨?_, List.forall_mem_cons.mpr ⟨?_, List.forall_mem_cons.mpr ⟨?_, List.forall_mem_cons.mpr ⟨?_, List.forall_mem_cons.mpr ⟨?_, List.forall_mem_cons.mpr ⟨?_, List.forall_mem_cons.mpr ⟨?_, List.forall_mem_cons.mpr ⟨?_, List.forall_mem_cons.mpr ⟨?_, List.forall_mem_cons.mpr ⟨?_, List.forall_mem_cons.mpr ⟨?_, List.forall_mem_cons.mpr ⟨?_, List.forall_mem_cons.mpr ⟨?_, List.forall_mem_cons.mpr ⟨?_, List.forall_mem_cons.mpr ⟨?_, List.forall_mem_cons.mpr ⟨?_, List.forall_mem_cons.mpr ⟨?_, List.forall_mem_cons.mpr ⟨?_, List.forall_mem_cons.mpr ⟨?_, List.forall_mem_cons.mpr ⟨?_, List.forall_mem_cons.mpr ⟨?_, List.forall_mem_cons.mpr ⟨?_, List.forall_mem_cons.mpr ⟨?_, List.forall_mem_cons.mpr ⟨?_, List.forall_mem_cons.mpr ⟨?_, List.forall_mem_cons.mpr ⟨?_, List.forall_mem_cons.mpr ⟨?_, List.forall_mem_cons.mpr ⟨?_, List.forall_mem_cons.mpr ⟨?_, List.forall_mem_cons.mpr ⟨?_, List.forall_mem_cons.mpr ⟨?_, List.forall_mem_cons.mpr ⟨?_, List.forall_mem_cons.mpr ⟨?_, List.forall_mem_cons.mpr ⟨?_, List.forall_mem_cons.mpr ⟨?_, List.forall_mem_cons.mpr ⟨?_, List.forall_mem_cons.mpr ⟨?_, fun _ h => absurd h List.not_mem_nil⟩⟩⟩⟩⟩⟩⟩⟩⟩⟩⟩⟩⟩⟩⟩⟩⟩⟩⟩⟩⟩⟩⟩⟩⟩⟩⟩⟩⟩⟩⟩⟩⟩⟩⟩⟩⟩⟩⟩⟩⟩⟩⟩⟩⟩⟩⟩⟩⟩⟩⟩⟩⟩⟩⟩⟩⟩⟩⟩⟩⟩⟩⟩⟩⟩⟩⟩⟩⟩⟩⟩⟩⟩⟩⟩⟩⟩⟩⟩⟩⟩⟩⟩⟩
  · show cpx F10 0
    intro j hj hn
    rw [need_O tf_0] at hn
    rw [show (TF _).2 = _ from congrArg Prod.snd tf_0] at hj
    match j, hj, hn with
    | 0, _, _ => exact (show F10 0 0 = some 1 by rw [eF10, mset_j (by decide)]; rw [eF8, mset_j (by decide)]; rw [eF7]; exact mset_s).trans ff_0_0.symm
    | 1, _, _ => exact (show F10 0 1 = some 3 by rw [eF10, mset_j (by decide)]; rw [eF8]; exact mset_s).trans ff_0_1.symm
    | 2, _, _ => exact (show F10 0 2 = some 731 by rw [eF10]; exact mset_s).trans ff_0_2.symm
    | 3, _, hn => exact absurd hn (by decide)
    | 4, _, hn => exact absurd hn (by decide)
    | 5, _, hn => exact absurd hn (by decide)
    | n + 6, hj, _ => exact absurd hj (by show ¬ n + 6 < 6; omega)
  · exact cpx_keep (gX8_init hc4 0 (List.mem_of_getElem? (i := 0) rfl)) (fun j => kpF4 _ j (by omega))
  · exact cpx_keep (gX8_init hc4 2 (List.mem_of_getElem? (i := 1) rfl)) (fun j => kpF4 _ j (by omega))
  · exact cpx_keep (gX8_init hc4 3 (List.mem_of_getElem? (i := 2) rfl)) (fun j => kpF4 _ j (by omega))
  · exact cpx_keep (gX8_init hc4 4 (List.mem_of_getElem? (i := 3) rfl)) (fun j => kpF4 _ j (by omega))
  · exact cpx_keep (gX8_init hc4 5 (List.mem_of_getElem? (i := 4) rfl)) (fun j => kpF4 _ j (by omega))
  · exact cpx_keep (gX8_init hc4 19 (List.mem_of_getElem? (i := 5) rfl)) (fun j => kpF4 _ j (by omega))
  · exact cpx_keep (gX8_init hc4 23 (List.mem_of_getElem? (i := 6) rfl)) (fun j => kpF4 _ j (by omega))
  · exact cpx_keep (gX8_init hc4 32 (List.mem_of_getElem? (i := 7) rfl)) (fun j => kpF4 _ j (by omega))
  · exact cpx_keep (gX8_init hc4 40 (List.mem_of_getElem? (i := 8) rfl)) (fun j => kpF4 _ j (by omega))
  · exact cpx_keep (gX8_init hc4 41 (List.mem_of_getElem? (i := 9) rfl)) (fun j => kpF4 _ j (by omega))
  · exact cpx_keep (gX8_init hc4 46 (List.mem_of_getElem? (i := 10) rfl)) (fun j => kpF4 _ j (by omega))
  · exact cpx_keep (gX8_init hc4 48 (List.mem_of_getElem? (i := 11) rfl)) (fun j => kpF4 _ j (by omega))
  · exact cpx_keep (gX8_init hc4 50 (List.mem_of_getElem? (i := 12) rfl)) (fun j => kpF4 _ j (by omega))
  · exact cpx_keep (gX8_init hc4 52 (List.mem_of_getElem? (i := 13) rfl)) (fun j => kpF4 _ j (by omega))
  · exact cpx_keep (gX8_init hc4 54 (List.mem_of_getElem? (i := 14) rfl)) (fun j => kpF4 _ j (by omega))
  · exact cpx_keep (gX8_init hc4 56 (List.mem_of_getElem? (i := 15) rfl)) (fun j => kpF4 _ j (by omega))
  · exact cpx_keep (gX8_init hc4 58 (List.mem_of_getElem? (i := 16) rfl)) (fun j => kpF4 _ j (by omega))
  · exact cpx_keep (gX8_init hc4 60 (List.mem_of_getElem? (i := 17) rfl)) (fun j => kpF4 _ j (by omega))
  · exact cpx_keep (gX8_init hc4 61 (List.mem_of_getElem? (i := 18) rfl)) (fun j => kpF4 _ j (by omega))
  · exact cpx_keep (gX8_init hc4 72 (List.mem_of_getElem? (i := 19) rfl)) (fun j => kpF4 _ j (by omega))
  · exact cpx_keep (gX8_init hc4 80 (List.mem_of_getElem? (i := 20) rfl)) (fun j => kpF4 _ j (by omega))
  · exact cpx_keep (gX8_init hc4 84 (List.mem_of_getElem? (i := 21) rfl)) (fun j => kpF4 _ j (by omega))
  · exact cpx_keep (gX8_init hc4 96 (List.mem_of_getElem? (i := 22) rfl)) (fun j => kpF4 _ j (by omega))
  · exact cpx_keep (gX8_init hc4 99 (List.mem_of_getElem? (i := 23) rfl)) (fun j => kpF4 _ j (by omega))
  · exact cpx_keep (gX8_init hc4 117 (List.mem_of_getElem? (i := 24) rfl)) (fun j => kpF4 _ j (by omega))
  · exact cpx_keep (gX8_init hc4 138 (List.mem_of_getElem? (i := 25) rfl)) (fun j => kpF4 _ j (by omega))
  · exact cpx_keep (gX8_init hc4 139 (List.mem_of_getElem? (i := 26) rfl)) (fun j => kpF4 _ j (by omega))
  · exact cpx_keep (gX8_init hc4 153 (List.mem_of_getElem? (i := 27) rfl)) (fun j => kpF4 _ j (by omega))
  · exact cpx_keep (gX8_init hc4 154 (List.mem_of_getElem? (i := 28) rfl)) (fun j => kpF4 _ j (by omega))
  · exact cpx_keep (gX8_init hc4 160 (List.mem_of_getElem? (i := 29) rfl)) (fun j => kpF4 _ j (by omega))
  · exact cpx_keep (gX8_init hc4 262 (List.mem_of_getElem? (i := 30) rfl)) (fun j => kpF4 _ j (by omega))
  · exact cpx_keep (gX8_init hc4 268 (List.mem_of_getElem? (i := 31) rfl)) (fun j => kpF4 _ j (by omega))
  · exact cpx_keep (gX8_init hc4 274 (List.mem_of_getElem? (i := 32) rfl)) (fun j => kpF4 _ j (by omega))
  · exact cpx_keep (gX8_init hc4 284 (List.mem_of_getElem? (i := 33) rfl)) (fun j => kpF4 _ j (by omega))
  · exact cpx_keep (gX8_init hc4 292 (List.mem_of_getElem? (i := 34) rfl)) (fun j => kpF4 _ j (by omega))
  · exact cpx_keep (gX8_init hc4 293 (List.mem_of_getElem? (i := 35) rfl)) (fun j => kpF4 _ j (by omega))
  · exact cpx_keep (gX8_init hc4 312 (List.mem_of_getElem? (i := 36) rfl)) (fun j => kpF4 _ j (by omega))
  · exact cpx_keep (gX8_init hc4 320 (List.mem_of_getElem? (i := 37) rfl)) (fun j => kpF4 _ j (by omega))
  · exact cpx_keep (gX8_init hc4 328 (List.mem_of_getElem? (i := 38) rfl)) (fun j => kpF4 _ j (by omega))
  · exact cpx_keep (gX8_init hc4 329 (List.mem_of_getElem? (i := 39) rfl)) (fun j => kpF4 _ j (by omega))
  · exact cpx_keep (gX8_init hc4 348 (List.mem_of_getElem? (i := 40) rfl)) (fun j => kpF4 _ j (by omega))
  · exact cpx_keep (gX8_init hc4 356 (List.mem_of_getElem? (i := 41) rfl)) (fun j => kpF4 _ j (by omega))
  · exact cpx_keep (gX8_init hc4 364 (List.mem_of_getElem? (i := 42) rfl)) (fun j => kpF4 _ j (by omega))
  · exact cpx_keep (gX8_init hc4 365 (List.mem_of_getElem? (i := 43) rfl)) (fun j => kpF4 _ j (by omega))
  · exact cpx_keep (gX8_init hc4 384 (List.mem_of_getElem? (i := 44) rfl)) (fun j => kpF4 _ j (by omega))
  · exact cpx_keep (gX8_init hc4 392 (List.mem_of_getElem? (i := 45) rfl)) (fun j => kpF4 _ j (by omega))
  · exact cpx_keep (gX8_init hc4 400 (List.mem_of_getElem? (i := 46) rfl)) (fun j => kpF4 _ j (by omega))
  · exact cpx_keep (gX8_init hc4 401 (List.mem_of_getElem? (i := 47) rfl)) (fun j => kpF4 _ j (by omega))
  · exact cpx_keep (gX8_init hc4 420 (List.mem_of_getElem? (i := 48) rfl)) (fun j => kpF4 _ j (by omega))
  · exact cpx_keep (gX8_init hc4 428 (List.mem_of_getElem? (i := 49) rfl)) (fun j => kpF4 _ j (by omega))
  · exact cpx_keep (gX8_init hc4 436 (List.mem_of_getElem? (i := 50) rfl)) (fun j => kpF4 _ j (by omega))
  · exact cpx_keep (gX8_init hc4 437 (List.mem_of_getElem? (i := 51) rfl)) (fun j => kpF4 _ j (by omega))
  · exact cpx_keep (gX8_init hc4 456 (List.mem_of_getElem? (i := 52) rfl)) (fun j => kpF4 _ j (by omega))
  · exact cpx_keep (gX8_init hc4 464 (List.mem_of_getElem? (i := 53) rfl)) (fun j => kpF4 _ j (by omega))
  · exact cpx_keep (gX8_init hc4 472 (List.mem_of_getElem? (i := 54) rfl)) (fun j => kpF4 _ j (by omega))
  · exact cpx_keep (gX8_init hc4 473 (List.mem_of_getElem? (i := 55) rfl)) (fun j => kpF4 _ j (by omega))
  · exact cpx_keep (gX8_init hc4 492 (List.mem_of_getElem? (i := 56) rfl)) (fun j => kpF4 _ j (by omega))
  · exact cpx_keep (gX8_init hc4 500 (List.mem_of_getElem? (i := 57) rfl)) (fun j => kpF4 _ j (by omega))
  · exact cpx_keep (gX8_init hc4 508 (List.mem_of_getElem? (i := 58) rfl)) (fun j => kpF4 _ j (by omega))
  · exact cpx_keep (gX8_init hc4 509 (List.mem_of_getElem? (i := 59) rfl)) (fun j => kpF4 _ j (by omega))
  · exact cpx_keep (gX8_init hc4 528 (List.mem_of_getElem? (i := 60) rfl)) (fun j => kpF4 _ j (by omega))
  · exact cpx_keep (gX8_init hc4 536 (List.mem_of_getElem? (i := 61) rfl)) (fun j => kpF4 _ j (by omega))
  · exact cpx_keep (gX8_init hc4 544 (List.mem_of_getElem? (i := 62) rfl)) (fun j => kpF4 _ j (by omega))
  · exact cpx_keep (gX8_init hc4 545 (List.mem_of_getElem? (i := 63) rfl)) (fun j => kpF4 _ j (by omega))
  · exact cpx_keep (gX8_init hc4 564 (List.mem_of_getElem? (i := 64) rfl)) (fun j => kpF4 _ j (by omega))
  · exact cpx_keep (gX8_init hc4 572 (List.mem_of_getElem? (i := 65) rfl)) (fun j => kpF4 _ j (by omega))
  · exact cpx_keep (gX8_init hc4 580 (List.mem_of_getElem? (i := 66) rfl)) (fun j => kpF4 _ j (by omega))
  · exact cpx_keep (gX8_init hc4 581 (List.mem_of_getElem? (i := 67) rfl)) (fun j => kpF4 _ j (by omega))
  · exact cpx_keep (gX8_init hc4 600 (List.mem_of_getElem? (i := 68) rfl)) (fun j => kpF4 _ j (by omega))
  · exact cpx_keep (gX8_init hc4 608 (List.mem_of_getElem? (i := 69) rfl)) (fun j => kpF4 _ j (by omega))
  · exact cpx_keep (gX8_init hc4 616 (List.mem_of_getElem? (i := 70) rfl)) (fun j => kpF4 _ j (by omega))
  · exact cpx_keep (gX8_init hc4 617 (List.mem_of_getElem? (i := 71) rfl)) (fun j => kpF4 _ j (by omega))
  · exact cpx_keep (gX8_init hc4 636 (List.mem_of_getElem? (i := 72) rfl)) (fun j => kpF4 _ j (by omega))
  · exact cpx_keep (gX8_init hc4 644 (List.mem_of_getElem? (i := 73) rfl)) (fun j => kpF4 _ j (by omega))
  · exact cpx_keep (gX8_init hc4 652 (List.mem_of_getElem? (i := 74) rfl)) (fun j => kpF4 _ j (by omega))
  · exact cpx_keep (gX8_init hc4 653 (List.mem_of_getElem? (i := 75) rfl)) (fun j => kpF4 _ j (by omega))
  · exact cpx_keep (gX8_init hc4 672 (List.mem_of_getElem? (i := 76) rfl)) (fun j => kpF4 _ j (by omega))
  · exact cpx_keep (gX8_init hc4 680 (List.mem_of_getElem? (i := 77) rfl)) (fun j => kpF4 _ j (by omega))
  · exact cpx_keep (gX8_init hc4 688 (List.mem_of_getElem? (i := 78) rfl)) (fun j => kpF4 _ j (by omega))
  · exact cpx_keep (gX8_init hc4 689 (List.mem_of_getElem? (i := 79) rfl)) (fun j => kpF4 _ j (by omega))
  · exact cpx_keep (gX8_init hc4 708 (List.mem_of_getElem? (i := 80) rfl)) (fun j => kpF4 _ j (by omega))
  · exact cpx_keep (gX8_init hc4 716 (List.mem_of_getElem? (i := 81) rfl)) (fun j => kpF4 _ j (by omega))
  · exact cpx_keep (gX8_init hc4 724 (List.mem_of_getElem? (i := 82) rfl)) (fun j => kpF4 _ j (by omega))
set_option maxHeartbeats 8000000 in
set_option maxRecDepth 100000 in
theorem gX15_init {fu : Nat} {F : mwF} {M : mwM} {L : mwL} {FZ : mwF} {MZ : mwM} {LZ : mwL} (hD : DX15_init fu F M L = some (FZ, MZ, LZ)) : ∀ o ∈ [0], cpx FZ (787 + o) := by
  unfold DX15_init at hD
  obtain ⟨M1, eM1, hD⟩ := g_let hD
  obtain ⟨F2, eF2, hD⟩ := g_let hD
  obtain ⟨M3, eM3, hD⟩ := g_let hD
  obtain ⟨F4, eF4, hD⟩ := g_let hD
  obtain ⟨M5, eM5, hD⟩ := g_let hD
  obtain ⟨F6, eF6, hD⟩ := g_let hD
  obtain ⟨M7, eM7, hD⟩ := g_let hD
  obtain ⟨F8, eF8, hD⟩ := g_let hD
  obtain ⟨M9, eM9, hD⟩ := g_let hD
  obtain ⟨F10, eF10, hD⟩ := g_let hD
  obtain ⟨M11, eM11, hD⟩ := g_let hD
  obtain ⟨F12, eF12, hD⟩ := g_let hD
  obtain ⟨M13, eM13, hD⟩ := g_let hD
  obtain ⟨F14, eF14, hD⟩ := g_let hD
  obtain ⟨L15, eL15, hD⟩ := g_let hD
  obtain ⟨F16, eF16, hD⟩ := g_let hD
  obtain ⟨M17, eM17, hD⟩ := g_let hD
  obtain ⟨F18, eF18, hD⟩ := g_let hD
  obtain ⟨L19, eL19, hD⟩ := g_let hD
  obtain ⟨F20, eF20, hD⟩ := g_let hD
  obtain ⟨M21, eM21, hD⟩ := g_let hD
  obtain ⟨F22, eF22, hD⟩ := g_let hD
  obtain ⟨M23, eM23, hD⟩ := g_let hD
  obtain ⟨F24, eF24, hD⟩ := g_let hD
  obtain ⟨L25, eL25, hD⟩ := g_let hD
  obtain ⟨F26, eF26, hD⟩ := g_let hD
  obtain ⟨M27, eM27, hD⟩ := g_let hD
  obtain ⟨F28, eF28, hD⟩ := g_let hD
  obtain ⟨M29, eM29, hD⟩ := g_let hD
  obtain ⟨F30, eF30, hD⟩ := g_let hD
  obtain ⟨M31, eM31, hD⟩ := g_let hD
  obtain ⟨F32, eF32, hD⟩ := g_let hD
  obtain ⟨M33, eM33, hD⟩ := g_let hD
  obtain ⟨F34, eF34, hD⟩ := g_let hD
  obtain ⟨L35, eL35, hD⟩ := g_let hD
  obtain ⟨F36, eF36, hD⟩ := g_let hD
  obtain ⟨M37, eM37, hD⟩ := g_let hD
  obtain ⟨F38, eF38, hD⟩ := g_let hD
  obtain ⟨L39, eL39, hD⟩ := g_let hD
  obtain ⟨F40, eF40, hD⟩ := g_let hD
  obtain ⟨M41, eM41, hD⟩ := g_let hD
  obtain ⟨F42, eF42, hD⟩ := g_let hD
  obtain ⟨M43, eM43, hD⟩ := g_let hD
  obtain ⟨F44, eF44, hD⟩ := g_let hD
  obtain ⟨M45, eM45, hD⟩ := g_let hD
  obtain ⟨F46, eF46, hD⟩ := g_let hD
  obtain ⟨L47, eL47, hD⟩ := g_let hD
  obtain ⟨F48, eF48, hD⟩ := g_let hD
  obtain ⟨M49, eM49, hD⟩ := g_let hD
  obtain ⟨F50, eF50, hD⟩ := g_let hD
  obtain ⟨L51, eL51, hD⟩ := g_let hD
  obtain ⟨F52, eF52, hD⟩ := g_let hD
  obtain ⟨M53, eM53, hD⟩ := g_let hD
  obtain ⟨F54, eF54, hD⟩ := g_let hD
  obtain ⟨L55, eL55, hD⟩ := g_let hD
  obtain ⟨F56, eF56, hD⟩ := g_let hD
  obtain ⟨L57, eL57, hD⟩ := g_let hD
  obtain ⟨F58, eF58, hD⟩ := g_let hD
  obtain ⟨M59, eM59, hD⟩ := g_let hD
  obtain ⟨F60, eF60, hD⟩ := g_let hD
  obtain ⟨M61, eM61, hD⟩ := g_let hD
  obtain ⟨F62, eF62, hD⟩ := g_let hD
  obtain ⟨L63, eL63, hD⟩ := g_let hD
  obtain ⟨F64, eF64, hD⟩ := g_let hD
  obtain ⟨M65, eM65, hD⟩ := g_let hD
  obtain ⟨F66, eF66, hD⟩ := g_let hD
  have hf : F66 = FZ := by
    have hf := congrArg (fun q => q.1) (Option.some.inj hD)
    exact hf
  rw [← hf]
  refine List.forall_mem_cons.mpr ⟨?_, fun _ h => absurd h List.not_mem_nil⟩
  · show cpx F66 787
    intro j hj hn
    rw [need_O tf_787] at hn
    rw [show (TF _).2 = _ from congrArg Prod.snd tf_787] at hj
    match j, hj, hn with
    | 0, _, hn => exact absurd hn (by decide)
    | 1, _, hn => exact absurd hn (by decide)
    | 2, _, _ => exact (show F66 787 2 = some 788 by rw [eF66, mset_j (by decide)]; rw [eF64, mset_j (by decide)]; rw [eF62, mset_j (by decide)]; rw [eF60, mset_j (by decide)]; rw [eF58, mset_j (by decide)]; rw [eF56, mset_j (by decide)]; rw [eF54, mset_j (by decide)]; rw [eF52, mset_j (by decide)]; rw [eF50, mset_j (by decide)]; rw [eF48, mset_j (by decide)]; rw [eF46, mset_j (by decide)]; rw [eF44, mset_j (by decide)]; rw [eF42, mset_j (by decide)]; rw [eF40, mset_j (by decide)]; rw [eF38, mset_j (by decide)]; rw [eF36, mset_j (by decide)]; rw [eF34, mset_j (by decide)]; rw [eF32, mset_j (by decide)]; rw [eF30, mset_j (by decide)]; rw [eF28, mset_j (by decide)]; rw [eF26, mset_j (by decide)]; rw [eF24, mset_j (by decide)]; rw [eF22, mset_j (by decide)]; rw [eF20, mset_j (by decide)]; rw [eF18, mset_j (by decide)]; rw [eF16, mset_j (by decide)]; rw [eF14, mset_j (by decide)]; rw [eF12, mset_j (by decide)]; rw [eF10, mset_j (by decide)]; rw [eF8, mset_j (by decide)]; rw [eF6, mset_j (by decide)]; rw [eF4, mset_j (by decide)]; rw [eF2]; exact mset_s).trans ff_787_2.symm
    | 3, _, _ => exact (show F66 787 3 = some 789 by rw [eF66, mset_j (by decide)]; rw [eF64, mset_j (by decide)]; rw [eF62, mset_j (by decide)]; rw [eF60, mset_j (by decide)]; rw [eF58, mset_j (by decide)]; rw [eF56, mset_j (by decide)]; rw [eF54, mset_j (by decide)]; rw [eF52, mset_j (by decide)]; rw [eF50, mset_j (by decide)]; rw [eF48, mset_j (by decide)]; rw [eF46, mset_j (by decide)]; rw [eF44, mset_j (by decide)]; rw [eF42, mset_j (by decide)]; rw [eF40, mset_j (by decide)]; rw [eF38, mset_j (by decide)]; rw [eF36, mset_j (by decide)]; rw [eF34, mset_j (by decide)]; rw [eF32, mset_j (by decide)]; rw [eF30, mset_j (by decide)]; rw [eF28, mset_j (by decide)]; rw [eF26, mset_j (by decide)]; rw [eF24, mset_j (by decide)]; rw [eF22, mset_j (by decide)]; rw [eF20, mset_j (by decide)]; rw [eF18, mset_j (by decide)]; rw [eF16, mset_j (by decide)]; rw [eF14, mset_j (by decide)]; rw [eF12, mset_j (by decide)]; rw [eF10, mset_j (by decide)]; rw [eF8, mset_j (by decide)]; rw [eF6, mset_j (by decide)]; rw [eF4]; exact mset_s).trans ff_787_3.symm
    | 4, _, _ => exact (show F66 787 4 = some 790 by rw [eF66, mset_j (by decide)]; rw [eF64, mset_j (by decide)]; rw [eF62, mset_j (by decide)]; rw [eF60, mset_j (by decide)]; rw [eF58, mset_j (by decide)]; rw [eF56, mset_j (by decide)]; rw [eF54, mset_j (by decide)]; rw [eF52, mset_j (by decide)]; rw [eF50, mset_j (by decide)]; rw [eF48, mset_j (by decide)]; rw [eF46, mset_j (by decide)]; rw [eF44, mset_j (by decide)]; rw [eF42, mset_j (by decide)]; rw [eF40, mset_j (by decide)]; rw [eF38, mset_j (by decide)]; rw [eF36, mset_j (by decide)]; rw [eF34, mset_j (by decide)]; rw [eF32, mset_j (by decide)]; rw [eF30, mset_j (by decide)]; rw [eF28, mset_j (by decide)]; rw [eF26, mset_j (by decide)]; rw [eF24, mset_j (by decide)]; rw [eF22, mset_j (by decide)]; rw [eF20, mset_j (by decide)]; rw [eF18, mset_j (by decide)]; rw [eF16, mset_j (by decide)]; rw [eF14, mset_j (by decide)]; rw [eF12, mset_j (by decide)]; rw [eF10, mset_j (by decide)]; rw [eF8, mset_j (by decide)]; rw [eF6]; exact mset_s).trans ff_787_4.symm
    | 5, _, _ => exact (show F66 787 5 = some 791 by rw [eF66, mset_j (by decide)]; rw [eF64, mset_j (by decide)]; rw [eF62, mset_j (by decide)]; rw [eF60, mset_j (by decide)]; rw [eF58, mset_j (by decide)]; rw [eF56, mset_j (by decide)]; rw [eF54, mset_j (by decide)]; rw [eF52, mset_j (by decide)]; rw [eF50, mset_j (by decide)]; rw [eF48, mset_j (by decide)]; rw [eF46, mset_j (by decide)]; rw [eF44, mset_j (by decide)]; rw [eF42, mset_j (by decide)]; rw [eF40, mset_j (by decide)]; rw [eF38, mset_j (by decide)]; rw [eF36, mset_j (by decide)]; rw [eF34, mset_j (by decide)]; rw [eF32, mset_j (by decide)]; rw [eF30, mset_j (by decide)]; rw [eF28, mset_j (by decide)]; rw [eF26, mset_j (by decide)]; rw [eF24, mset_j (by decide)]; rw [eF22, mset_j (by decide)]; rw [eF20, mset_j (by decide)]; rw [eF18, mset_j (by decide)]; rw [eF16, mset_j (by decide)]; rw [eF14, mset_j (by decide)]; rw [eF12, mset_j (by decide)]; rw [eF10, mset_j (by decide)]; rw [eF8]; exact mset_s).trans ff_787_5.symm
    | 6, _, _ => exact (show F66 787 6 = some 792 by rw [eF66, mset_j (by decide)]; rw [eF64, mset_j (by decide)]; rw [eF62, mset_j (by decide)]; rw [eF60, mset_j (by decide)]; rw [eF58, mset_j (by decide)]; rw [eF56, mset_j (by decide)]; rw [eF54, mset_j (by decide)]; rw [eF52, mset_j (by decide)]; rw [eF50, mset_j (by decide)]; rw [eF48, mset_j (by decide)]; rw [eF46, mset_j (by decide)]; rw [eF44, mset_j (by decide)]; rw [eF42, mset_j (by decide)]; rw [eF40, mset_j (by decide)]; rw [eF38, mset_j (by decide)]; rw [eF36, mset_j (by decide)]; rw [eF34, mset_j (by decide)]; rw [eF32, mset_j (by decide)]; rw [eF30, mset_j (by decide)]; rw [eF28, mset_j (by decide)]; rw [eF26, mset_j (by decide)]; rw [eF24, mset_j (by decide)]; rw [eF22, mset_j (by decide)]; rw [eF20, mset_j (by decide)]; rw [eF18, mset_j (by decide)]; rw [eF16, mset_j (by decide)]; rw [eF14, mset_j (by decide)]; rw [eF12, mset_j (by decide)]; rw [eF10]; exact mset_s).trans ff_787_6.symm
    | 7, _, hn => exact absurd hn (by decide)
    | 8, _, _ => exact (show F66 787 8 = some 793 by rw [eF66, mset_j (by decide)]; rw [eF64, mset_j (by decide)]; rw [eF62, mset_j (by decide)]; rw [eF60, mset_j (by decide)]; rw [eF58, mset_j (by decide)]; rw [eF56, mset_j (by decide)]; rw [eF54, mset_j (by decide)]; rw [eF52, mset_j (by decide)]; rw [eF50, mset_j (by decide)]; rw [eF48, mset_j (by decide)]; rw [eF46, mset_j (by decide)]; rw [eF44, mset_j (by decide)]; rw [eF42, mset_j (by decide)]; rw [eF40, mset_j (by decide)]; rw [eF38, mset_j (by decide)]; rw [eF36, mset_j (by decide)]; rw [eF34, mset_j (by decide)]; rw [eF32, mset_j (by decide)]; rw [eF30, mset_j (by decide)]; rw [eF28, mset_j (by decide)]; rw [eF26, mset_j (by decide)]; rw [eF24, mset_j (by decide)]; rw [eF22, mset_j (by decide)]; rw [eF20, mset_j (by decide)]; rw [eF18, mset_j (by decide)]; rw [eF16, mset_j (by decide)]; rw [eF14, mset_j (by decide)]; rw [eF12]; exact mset_s).trans ff_787_8.symm
    | 9, _, _ => exact (show F66 787 9 = some 794 by rw [eF66, mset_j (by decide)]; rw [eF64, mset_j (by decide)]; rw [eF62, mset_j (by decide)]; rw [eF60, mset_j (by decide)]; rw [eF58, mset_j (by decide)]; rw [eF56, mset_j (by decide)]; rw [eF54, mset_j (by decide)]; rw [eF52, mset_j (by decide)]; rw [eF50, mset_j (by decide)]; rw [eF48, mset_j (by decide)]; rw [eF46, mset_j (by decide)]; rw [eF44, mset_j (by decide)]; rw [eF42, mset_j (by decide)]; rw [eF40, mset_j (by decide)]; rw [eF38, mset_j (by decide)]; rw [eF36, mset_j (by decide)]; rw [eF34, mset_j (by decide)]; rw [eF32, mset_j (by decide)]; rw [eF30, mset_j (by decide)]; rw [eF28, mset_j (by decide)]; rw [eF26, mset_j (by decide)]; rw [eF24, mset_j (by decide)]; rw [eF22, mset_j (by decide)]; rw [eF20, mset_j (by decide)]; rw [eF18, mset_j (by decide)]; rw [eF16, mset_j (by decide)]; rw [eF14]; exact mset_s).trans ff_787_9.symm
    | 10, _, _ => exact (show F66 787 10 = some 795 by rw [eF66, mset_j (by decide)]; rw [eF64, mset_j (by decide)]; rw [eF62, mset_j (by decide)]; rw [eF60, mset_j (by decide)]; rw [eF58, mset_j (by decide)]; rw [eF56, mset_j (by decide)]; rw [eF54, mset_j (by decide)]; rw [eF52, mset_j (by decide)]; rw [eF50, mset_j (by decide)]; rw [eF48, mset_j (by decide)]; rw [eF46, mset_j (by decide)]; rw [eF44, mset_j (by decide)]; rw [eF42, mset_j (by decide)]; rw [eF40, mset_j (by decide)]; rw [eF38, mset_j (by decide)]; rw [eF36, mset_j (by decide)]; rw [eF34, mset_j (by decide)]; rw [eF32, mset_j (by decide)]; rw [eF30, mset_j (by decide)]; rw [eF28, mset_j (by decide)]; rw [eF26, mset_j (by decide)]; rw [eF24, mset_j (by decide)]; rw [eF22, mset_j (by decide)]; rw [eF20, mset_j (by decide)]; rw [eF18, mset_j (by decide)]; rw [eF16]; exact mset_s).trans ff_787_10.symm
    | 11, _, _ => exact (show F66 787 11 = some 796 by rw [eF66, mset_j (by decide)]; rw [eF64, mset_j (by decide)]; rw [eF62, mset_j (by decide)]; rw [eF60, mset_j (by decide)]; rw [eF58, mset_j (by decide)]; rw [eF56, mset_j (by decide)]; rw [eF54, mset_j (by decide)]; rw [eF52, mset_j (by decide)]; rw [eF50, mset_j (by decide)]; rw [eF48, mset_j (by decide)]; rw [eF46, mset_j (by decide)]; rw [eF44, mset_j (by decide)]; rw [eF42, mset_j (by decide)]; rw [eF40, mset_j (by decide)]; rw [eF38, mset_j (by decide)]; rw [eF36, mset_j (by decide)]; rw [eF34, mset_j (by decide)]; rw [eF32, mset_j (by decide)]; rw [eF30, mset_j (by decide)]; rw [eF28, mset_j (by decide)]; rw [eF26, mset_j (by decide)]; rw [eF24, mset_j (by decide)]; rw [eF22, mset_j (by decide)]; rw [eF20, mset_j (by decide)]; rw [eF18]; exact mset_s).trans ff_787_11.symm
    | 12, _, _ => exact (show F66 787 12 = some 797 by rw [eF66, mset_j (by decide)]; rw [eF64, mset_j (by decide)]; rw [eF62, mset_j (by decide)]; rw [eF60, mset_j (by decide)]; rw [eF58, mset_j (by decide)]; rw [eF56, mset_j (by decide)]; rw [eF54, mset_j (by decide)]; rw [eF52, mset_j (by decide)]; rw [eF50, mset_j (by decide)]; rw [eF48, mset_j (by decide)]; rw [eF46, mset_j (by decide)]; rw [eF44, mset_j (by decide)]; rw [eF42, mset_j (by decide)]; rw [eF40, mset_j (by decide)]; rw [eF38, mset_j (by decide)]; rw [eF36, mset_j (by decide)]; rw [eF34, mset_j (by decide)]; rw [eF32, mset_j (by decide)]; rw [eF30, mset_j (by decide)]; rw [eF28, mset_j (by decide)]; rw [eF26, mset_j (by decide)]; rw [eF24, mset_j (by decide)]; rw [eF22, mset_j (by decide)]; rw [eF20]; exact mset_s).trans ff_787_12.symm
    | 13, _, _ => exact (show F66 787 13 = some 798 by rw [eF66, mset_j (by decide)]; rw [eF64, mset_j (by decide)]; rw [eF62, mset_j (by decide)]; rw [eF60, mset_j (by decide)]; rw [eF58, mset_j (by decide)]; rw [eF56, mset_j (by decide)]; rw [eF54, mset_j (by decide)]; rw [eF52, mset_j (by decide)]; rw [eF50, mset_j (by decide)]; rw [eF48, mset_j (by decide)]; rw [eF46, mset_j (by decide)]; rw [eF44, mset_j (by decide)]; rw [eF42, mset_j (by decide)]; rw [eF40, mset_j (by decide)]; rw [eF38, mset_j (by decide)]; rw [eF36, mset_j (by decide)]; rw [eF34, mset_j (by decide)]; rw [eF32, mset_j (by decide)]; rw [eF30, mset_j (by decide)]; rw [eF28, mset_j (by decide)]; rw [eF26, mset_j (by decide)]; rw [eF24, mset_j (by decide)]; rw [eF22]; exact mset_s).trans ff_787_13.symm
    | 14, _, _ => exact (show F66 787 14 = some 799 by rw [eF66, mset_j (by decide)]; rw [eF64, mset_j (by decide)]; rw [eF62, mset_j (by decide)]; rw [eF60, mset_j (by decide)]; rw [eF58, mset_j (by decide)]; rw [eF56, mset_j (by decide)]; rw [eF54, mset_j (by decide)]; rw [eF52, mset_j (by decide)]; rw [eF50, mset_j (by decide)]; rw [eF48, mset_j (by decide)]; rw [eF46, mset_j (by decide)]; rw [eF44, mset_j (by decide)]; rw [eF42, mset_j (by decide)]; rw [eF40, mset_j (by decide)]; rw [eF38, mset_j (by decide)]; rw [eF36, mset_j (by decide)]; rw [eF34, mset_j (by decide)]; rw [eF32, mset_j (by decide)]; rw [eF30, mset_j (by decide)]; rw [eF28, mset_j (by decide)]; rw [eF26, mset_j (by decide)]; rw [eF24]; exact mset_s).trans ff_787_14.symm
    | 15, _, _ => exact (show F66 787 15 = some 800 by rw [eF66, mset_j (by decide)]; rw [eF64, mset_j (by decide)]; rw [eF62, mset_j (by decide)]; rw [eF60, mset_j (by decide)]; rw [eF58, mset_j (by decide)]; rw [eF56, mset_j (by decide)]; rw [eF54, mset_j (by decide)]; rw [eF52, mset_j (by decide)]; rw [eF50, mset_j (by decide)]; rw [eF48, mset_j (by decide)]; rw [eF46, mset_j (by decide)]; rw [eF44, mset_j (by decide)]; rw [eF42, mset_j (by decide)]; rw [eF40, mset_j (by decide)]; rw [eF38, mset_j (by decide)]; rw [eF36, mset_j (by decide)]; rw [eF34, mset_j (by decide)]; rw [eF32, mset_j (by decide)]; rw [eF30, mset_j (by decide)]; rw [eF28, mset_j (by decide)]; rw [eF26]; exact mset_s).trans ff_787_15.symm
    | 16, _, _ => exact (show F66 787 16 = some 801 by rw [eF66, mset_j (by decide)]; rw [eF64, mset_j (by decide)]; rw [eF62, mset_j (by decide)]; rw [eF60, mset_j (by decide)]; rw [eF58, mset_j (by decide)]; rw [eF56, mset_j (by decide)]; rw [eF54, mset_j (by decide)]; rw [eF52, mset_j (by decide)]; rw [eF50, mset_j (by decide)]; rw [eF48, mset_j (by decide)]; rw [eF46, mset_j (by decide)]; rw [eF44, mset_j (by decide)]; rw [eF42, mset_j (by decide)]; rw [eF40, mset_j (by decide)]; rw [eF38, mset_j (by decide)]; rw [eF36, mset_j (by decide)]; rw [eF34, mset_j (by decide)]; rw [eF32, mset_j (by decide)]; rw [eF30, mset_j (by decide)]; rw [eF28]; exact mset_s).trans ff_787_16.symm
    | 17, _, _ => exact (show F66 787 17 = some 802 by rw [eF66, mset_j (by decide)]; rw [eF64, mset_j (by decide)]; rw [eF62, mset_j (by decide)]; rw [eF60, mset_j (by decide)]; rw [eF58, mset_j (by decide)]; rw [eF56, mset_j (by decide)]; rw [eF54, mset_j (by decide)]; rw [eF52, mset_j (by decide)]; rw [eF50, mset_j (by decide)]; rw [eF48, mset_j (by decide)]; rw [eF46, mset_j (by decide)]; rw [eF44, mset_j (by decide)]; rw [eF42, mset_j (by decide)]; rw [eF40, mset_j (by decide)]; rw [eF38, mset_j (by decide)]; rw [eF36, mset_j (by decide)]; rw [eF34, mset_j (by decide)]; rw [eF32, mset_j (by decide)]; rw [eF30]; exact mset_s).trans ff_787_17.symm
    | 18, _, _ => exact (show F66 787 18 = some 803 by rw [eF66, mset_j (by decide)]; rw [eF64, mset_j (by decide)]; rw [eF62, mset_j (by decide)]; rw [eF60, mset_j (by decide)]; rw [eF58, mset_j (by decide)]; rw [eF56, mset_j (by decide)]; rw [eF54, mset_j (by decide)]; rw [eF52, mset_j (by decide)]; rw [eF50, mset_j (by decide)]; rw [eF48, mset_j (by decide)]; rw [eF46, mset_j (by decide)]; rw [eF44, mset_j (by decide)]; rw [eF42, mset_j (by decide)]; rw [eF40, mset_j (by decide)]; rw [eF38, mset_j (by decide)]; rw [eF36, mset_j (by decide)]; rw [eF34, mset_j (by decide)]; rw [eF32]; exact mset_s).trans ff_787_18.symm
    | 19, _, _ => exact (show F66 787 19 = some 804 by rw [eF66, mset_j (by decide)]; rw [eF64, mset_j (by decide)]; rw [eF62, mset_j (by decide)]; rw [eF60, mset_j (by decide)]; rw [eF58, mset_j (by decide)]; rw [eF56, mset_j (by decide)]; rw [eF54, mset_j (by decide)]; rw [eF52, mset_j (by decide)]; rw [eF50, mset_j (by decide)]; rw [eF48, mset_j (by decide)]; rw [eF46, mset_j (by decide)]; rw [eF44, mset_j (by decide)]; rw [eF42, mset_j (by decide)]; rw [eF40, mset_j (by decide)]; rw [eF38, mset_j (by decide)]; rw [eF36, mset_j (by decide)]; rw [eF34]; exact mset_s).trans ff_787_19.symm
    | 20, _, _ => exact (show F66 787 20 = some 805 by rw [eF66, mset_j (by decide)]; rw [eF64, mset_j (by decide)]; rw [eF62, mset_j (by decide)]; rw [eF60, mset_j (by decide)]; rw [eF58, mset_j (by decide)]; rw [eF56, mset_j (by decide)]; rw [eF54, mset_j (by decide)]; rw [eF52, mset_j (by decide)]; rw [eF50, mset_j (by decide)]; rw [eF48, mset_j (by decide)]; rw [eF46, mset_j (by decide)]; rw [eF44, mset_j (by decide)]; rw [eF42, mset_j (by decide)]; rw [eF40, mset_j (by decide)]; rw [eF38, mset_j (by decide)]; rw [eF36]; exact mset_s).trans ff_787_20.symm
    | 21, _, hn => exact absurd hn (by decide)
    | 22, _, _ => exact (show F66 787 22 = some 806 by rw [eF66, mset_j (by decide)]; rw [eF64, mset_j (by decide)]; rw [eF62, mset_j (by decide)]; rw [eF60, mset_j (by decide)]; rw [eF58, mset_j (by decide)]; rw [eF56, mset_j (by decide)]; rw [eF54, mset_j (by decide)]; rw [eF52, mset_j (by decide)]; rw [eF50, mset_j (by decide)]; rw [eF48, mset_j (by decide)]; rw [eF46, mset_j (by decide)]; rw [eF44, mset_j (by decide)]; rw [eF42, mset_j (by decide)]; rw [eF40, mset_j (by decide)]; rw [eF38]; exact mset_s).trans ff_787_22.symm
    | 23, _, _ => exact (show F66 787 23 = some 807 by rw [eF66, mset_j (by decide)]; rw [eF64, mset_j (by decide)]; rw [eF62, mset_j (by decide)]; rw [eF60, mset_j (by decide)]; rw [eF58, mset_j (by decide)]; rw [eF56, mset_j (by decide)]; rw [eF54, mset_j (by decide)]; rw [eF52, mset_j (by decide)]; rw [eF50, mset_j (by decide)]; rw [eF48, mset_j (by decide)]; rw [eF46, mset_j (by decide)]; rw [eF44, mset_j (by decide)]; rw [eF42, mset_j (by decide)]; rw [eF40]; exact mset_s).trans ff_787_23.symm
    | 24, _, _ => exact (show F66 787 24 = some 808 by rw [eF66, mset_j (by decide)]; rw [eF64, mset_j (by decide)]; rw [eF62, mset_j (by decide)]; rw [eF60, mset_j (by decide)]; rw [eF58, mset_j (by decide)]; rw [eF56, mset_j (by decide)]; rw [eF54, mset_j (by decide)]; rw [eF52, mset_j (by decide)]; rw [eF50, mset_j (by decide)]; rw [eF48, mset_j (by decide)]; rw [eF46, mset_j (by decide)]; rw [eF44, mset_j (by decide)]; rw [eF42]; exact mset_s).trans ff_787_24.symm
    | 25, _, _ => exact (show F66 787 25 = some 809 by rw [eF66, mset_j (by decide)]; rw [eF64, mset_j (by decide)]; rw [eF62, mset_j (by decide)]; rw [eF60, mset_j (by decide)]; rw [eF58, mset_j (by decide)]; rw [eF56, mset_j (by decide)]; rw [eF54, mset_j (by decide)]; rw [eF52, mset_j (by decide)]; rw [eF50, mset_j (by decide)]; rw [eF48, mset_j (by decide)]; rw [eF46, mset_j (by decide)]; rw [eF44]; exact mset_s).trans ff_787_25.symm
    | 26, _, _ => exact (show F66 787 26 = some 810 by rw [eF66, mset_j (by decide)]; rw [eF64, mset_j (by decide)]; rw [eF62, mset_j (by decide)]; rw [eF60, mset_j (by decide)]; rw [eF58, mset_j (by decide)]; rw [eF56, mset_j (by decide)]; rw [eF54, mset_j (by decide)]; rw [eF52, mset_j (by decide)]; rw [eF50, mset_j (by decide)]; rw [eF48, mset_j (by decide)]; rw [eF46]; exact mset_s).trans ff_787_26.symm
    | 27, _, _ => exact (show F66 787 27 = some 811 by rw [eF66, mset_j (by decide)]; rw [eF64, mset_j (by decide)]; rw [eF62, mset_j (by decide)]; rw [eF60, mset_j (by decide)]; rw [eF58, mset_j (by decide)]; rw [eF56, mset_j (by decide)]; rw [eF54, mset_j (by decide)]; rw [eF52, mset_j (by decide)]; rw [eF50, mset_j (by decide)]; rw [eF48]; exact mset_s).trans ff_787_27.symm
    | 28, _, hn => exact absurd hn (by decide)
    | 29, _, hn => exact absurd hn (by decide)
    | 30, _, hn => exact absurd hn (by decide)
    | 31, _, hn => exact absurd hn (by decide)
    | 32, _, hn => exact absurd hn (by decide)
    | 33, _, _ => exact (show F66 787 33 = some 812 by rw [eF66, mset_j (by decide)]; rw [eF64, mset_j (by decide)]; rw [eF62, mset_j (by decide)]; rw [eF60, mset_j (by decide)]; rw [eF58, mset_j (by decide)]; rw [eF56, mset_j (by decide)]; rw [eF54, mset_j (by decide)]; rw [eF52, mset_j (by decide)]; rw [eF50]; exact mset_s).trans ff_787_33.symm
    | 34, _, _ => exact (show F66 787 34 = some 813 by rw [eF66, mset_j (by decide)]; rw [eF64, mset_j (by decide)]; rw [eF62, mset_j (by decide)]; rw [eF60, mset_j (by decide)]; rw [eF58, mset_j (by decide)]; rw [eF56, mset_j (by decide)]; rw [eF54, mset_j (by decide)]; rw [eF52]; exact mset_s).trans ff_787_34.symm
    | 35, _, hn => exact absurd hn (by decide)
    | 36, _, _ => exact (show F66 787 36 = some 814 by rw [eF66, mset_j (by decide)]; rw [eF64, mset_j (by decide)]; rw [eF62, mset_j (by decide)]; rw [eF60, mset_j (by decide)]; rw [eF58, mset_j (by decide)]; rw [eF56, mset_j (by decide)]; rw [eF54]; exact mset_s).trans ff_787_36.symm
    | 37, _, _ => exact (show F66 787 37 = some 815 by rw [eF66, mset_j (by decide)]; rw [eF64, mset_j (by decide)]; rw [eF62, mset_j (by decide)]; rw [eF60, mset_j (by decide)]; rw [eF58, mset_j (by decide)]; rw [eF56]; exact mset_s).trans ff_787_37.symm
    | 38, _, _ => exact (show F66 787 38 = some 816 by rw [eF66, mset_j (by decide)]; rw [eF64, mset_j (by decide)]; rw [eF62, mset_j (by decide)]; rw [eF60, mset_j (by decide)]; rw [eF58]; exact mset_s).trans ff_787_38.symm
    | 39, _, hn => exact absurd hn (by decide)
    | 40, _, _ => exact (show F66 787 40 = some 817 by rw [eF66, mset_j (by decide)]; rw [eF64, mset_j (by decide)]; rw [eF62, mset_j (by decide)]; rw [eF60]; exact mset_s).trans ff_787_40.symm
    | 41, _, _ => exact (show F66 787 41 = some 818 by rw [eF66, mset_j (by decide)]; rw [eF64, mset_j (by decide)]; rw [eF62]; exact mset_s).trans ff_787_41.symm
    | 42, _, _ => exact (show F66 787 42 = some 819 by rw [eF66, mset_j (by decide)]; rw [eF64]; exact mset_s).trans ff_787_42.symm
    | 43, _, hn => exact absurd hn (by decide)
    | 44, _, _ => exact (show F66 787 44 = some 820 by rw [eF66]; exact mset_s).trans ff_787_44.symm
    | n + 45, hj, _ => exact absurd hj (by show ¬ n + 45 < 45; omega)
set_option maxHeartbeats 8000000 in
set_option maxRecDepth 100000 in
theorem gX12_init {fu : Nat} {F : mwF} {M : mwM} {L : mwL} {FZ : mwF} {MZ : mwM} {LZ : mwL} (hD : DX12_init fu F M L = some (FZ, MZ, LZ)) : ∀ o ∈ [0], cpx FZ (821 + o) := by
  unfold DX12_init at hD
  obtain ⟨M1, eM1, hD⟩ := g_let hD
  obtain ⟨M2, eM2, hD⟩ := g_let hD
  obtain ⟨F3, eF3, hD⟩ := g_let hD
  obtain ⟨M4, eM4, hD⟩ := g_let hD
  obtain ⟨F5, eF5, hD⟩ := g_let hD
  obtain ⟨M6, eM6, hD⟩ := g_let hD
  obtain ⟨F7, eF7, hD⟩ := g_let hD
  obtain ⟨M8, eM8, hD⟩ := g_let hD
  obtain ⟨F9, eF9, hD⟩ := g_let hD
  obtain ⟨M10, eM10, hD⟩ := g_let hD
  obtain ⟨F11, eF11, hD⟩ := g_let hD
  obtain ⟨M12, eM12, hD⟩ := g_let hD
  obtain ⟨F13, eF13, hD⟩ := g_let hD
  obtain ⟨M14, eM14, hD⟩ := g_let hD
  obtain ⟨F15, eF15, hD⟩ := g_let hD
  obtain ⟨M16, eM16, hD⟩ := g_let hD
  obtain ⟨F17, eF17, hD⟩ := g_let hD
  obtain ⟨M18, eM18, hD⟩ := g_let hD
  obtain ⟨F19, eF19, hD⟩ := g_let hD
  obtain ⟨M20, eM20, hD⟩ := g_let hD
  obtain ⟨F21, eF21, hD⟩ := g_let hD
  obtain ⟨M22, eM22, hD⟩ := g_let hD
  obtain ⟨F23, eF23, hD⟩ := g_let hD
  obtain ⟨M24, eM24, hD⟩ := g_let hD
  obtain ⟨F25, eF25, hD⟩ := g_let hD
  obtain ⟨M26, eM26, hD⟩ := g_let hD
  obtain ⟨F27, eF27, hD⟩ := g_let hD
  obtain ⟨M28, eM28, hD⟩ := g_let hD
  obtain ⟨F29, eF29, hD⟩ := g_let hD
  obtain ⟨M30, eM30, hD⟩ := g_let hD
  obtain ⟨F31, eF31, hD⟩ := g_let hD
  obtain ⟨M32, eM32, hD⟩ := g_let hD
  obtain ⟨F33, eF33, hD⟩ := g_let hD
  obtain ⟨M34, eM34, hD⟩ := g_let hD
  obtain ⟨F35, eF35, hD⟩ := g_let hD
  obtain ⟨M36, eM36, hD⟩ := g_let hD
  obtain ⟨F37, eF37, hD⟩ := g_let hD
  obtain ⟨M38, eM38, hD⟩ := g_let hD
  obtain ⟨F39, eF39, hD⟩ := g_let hD
  obtain ⟨M40, eM40, hD⟩ := g_let hD
  obtain ⟨F41, eF41, hD⟩ := g_let hD
  obtain ⟨M42, eM42, hD⟩ := g_let hD
  obtain ⟨F43, eF43, hD⟩ := g_let hD
  obtain ⟨M44, eM44, hD⟩ := g_let hD
  obtain ⟨F45, eF45, hD⟩ := g_let hD
  obtain ⟨M46, eM46, hD⟩ := g_let hD
  obtain ⟨F47, eF47, hD⟩ := g_let hD
  obtain ⟨M48, eM48, hD⟩ := g_let hD
  obtain ⟨F49, eF49, hD⟩ := g_let hD
  obtain ⟨M50, eM50, hD⟩ := g_let hD
  obtain ⟨F51, eF51, hD⟩ := g_let hD
  obtain ⟨M52, eM52, hD⟩ := g_let hD
  obtain ⟨F53, eF53, hD⟩ := g_let hD
  obtain ⟨M54, eM54, hD⟩ := g_let hD
  obtain ⟨F55, eF55, hD⟩ := g_let hD
  obtain ⟨M56, eM56, hD⟩ := g_let hD
  obtain ⟨F57, eF57, hD⟩ := g_let hD
  obtain ⟨M58, eM58, hD⟩ := g_let hD
  obtain ⟨F59, eF59, hD⟩ := g_let hD
  obtain ⟨M60, eM60, hD⟩ := g_let hD
  obtain ⟨F61, eF61, hD⟩ := g_let hD
  obtain ⟨M62, eM62, hD⟩ := g_let hD
  obtain ⟨F63, eF63, hD⟩ := g_let hD
  obtain ⟨M64, eM64, hD⟩ := g_let hD
  obtain ⟨F65, eF65, hD⟩ := g_let hD
  obtain ⟨M66, eM66, hD⟩ := g_let hD
  obtain ⟨M67, eM67, hD⟩ := g_let hD
  have hf : F65 = FZ := by
    have hf := congrArg (fun q => q.1) (Option.some.inj hD)
    exact hf
  rw [← hf]
  refine List.forall_mem_cons.mpr ⟨?_, fun _ h => absurd h List.not_mem_nil⟩
  · show cpx F65 821
    intro j hj hn
    rw [need_O tf_821] at hn
    rw [show (TF _).2 = _ from congrArg Prod.snd tf_821] at hj
    match j, hj, hn with
    | 0, _, hn => exact absurd hn (by decide)
    | 1, _, hn => exact absurd hn (by decide)
    | 2, _, hn => exact absurd hn (by decide)
    | 3, _, _ => exact (show F65 821 3 = some 822 by rw [eF65, mset_j (by decide)]; rw [eF63, mset_j (by decide)]; rw [eF61, mset_j (by decide)]; rw [eF59, mset_j (by decide)]; rw [eF57, mset_j (by decide)]; rw [eF55, mset_j (by decide)]; rw [eF53, mset_j (by decide)]; rw [eF51, mset_j (by decide)]; rw [eF49, mset_j (by decide)]; rw [eF47, mset_j (by decide)]; rw [eF45, mset_j (by decide)]; rw [eF43, mset_j (by decide)]; rw [eF41, mset_j (by decide)]; rw [eF39, mset_j (by decide)]; rw [eF37, mset_j (by decide)]; rw [eF35, mset_j (by decide)]; rw [eF33, mset_j (by decide)]; rw [eF31, mset_j (by decide)]; rw [eF29, mset_j (by decide)]; rw [eF27, mset_j (by decide)]; rw [eF25, mset_j (by decide)]; rw [eF23, mset_j (by decide)]; rw [eF21, mset_j (by decide)]; rw [eF19, mset_j (by decide)]; rw [eF17, mset_j (by decide)]; rw [eF15, mset_j (by decide)]; rw [eF13, mset_j (by decide)]; rw [eF11, mset_j (by decide)]; rw [eF9, mset_j (by decide)]; rw [eF7, mset_j (by decide)]; rw [eF5, mset_j (by decide)]; rw [eF3]; exact mset_s).trans ff_821_3.symm
    | 4, _, hn => exact absurd hn (by decide)
    | 5, _, _ => exact (show F65 821 5 = some 823 by rw [eF65, mset_j (by decide)]; rw [eF63, mset_j (by decide)]; rw [eF61, mset_j (by decide)]; rw [eF59, mset_j (by decide)]; rw [eF57, mset_j (by decide)]; rw [eF55, mset_j (by decide)]; rw [eF53, mset_j (by decide)]; rw [eF51, mset_j (by decide)]; rw [eF49, mset_j (by decide)]; rw [eF47, mset_j (by decide)]; rw [eF45, mset_j (by decide)]; rw [eF43, mset_j (by decide)]; rw [eF41, mset_j (by decide)]; rw [eF39, mset_j (by decide)]; rw [eF37, mset_j (by decide)]; rw [eF35, mset_j (by decide)]; rw [eF33, mset_j (by decide)]; rw [eF31, mset_j (by decide)]; rw [eF29, mset_j (by decide)]; rw [eF27, mset_j (by decide)]; rw [eF25, mset_j (by decide)]; rw [eF23, mset_j (by decide)]; rw [eF21, mset_j (by decide)]; rw [eF19, mset_j (by decide)]; rw [eF17, mset_j (by decide)]; rw [eF15, mset_j (by decide)]; rw [eF13, mset_j (by decide)]; rw [eF11, mset_j (by decide)]; rw [eF9, mset_j (by decide)]; rw [eF7, mset_j (by decide)]; rw [eF5]; exact mset_s).trans ff_821_5.symm
    | 6, _, _ => exact (show F65 821 6 = some 824 by rw [eF65, mset_j (by decide)]; rw [eF63, mset_j (by decide)]; rw [eF61, mset_j (by decide)]; rw [eF59, mset_j (by decide)]; rw [eF57, mset_j (by decide)]; rw [eF55, mset_j (by decide)]; rw [eF53, mset_j (by decide)]; rw [eF51, mset_j (by decide)]; rw [eF49, mset_j (by decide)]; rw [eF47, mset_j (by decide)]; rw [eF45, mset_j (by decide)]; rw [eF43, mset_j (by decide)]; rw [eF41, mset_j (by decide)]; rw [eF39, mset_j (by decide)]; rw [eF37, mset_j (by decide)]; rw [eF35, mset_j (by decide)]; rw [eF33, mset_j (by decide)]; rw [eF31, mset_j (by decide)]; rw [eF29, mset_j (by decide)]; rw [eF27, mset_j (by decide)]; rw [eF25, mset_j (by decide)]; rw [eF23, mset_j (by decide)]; rw [eF21, mset_j (by decide)]; rw [eF19, mset_j (by decide)]; rw [eF17, mset_j (by decide)]; rw [eF15, mset_j (by decide)]; rw [eF13, mset_j (by decide)]; rw [eF11, mset_j (by decide)]; rw [eF9, mset_j (by decide)]; rw [eF7]; exact mset_s).trans ff_821_6.symm
    | 7, _, _ => exact (show F65 821 7 = some 825 by rw [eF65, mset_j (by decide)]; rw [eF63, mset_j (by decide)]; rw [eF61, mset_j (by decide)]; rw [eF59, mset_j (by decide)]; rw [eF57, mset_j (by decide)]; rw [eF55, mset_j (by decide)]; rw [eF53, mset_j (by decide)]; rw [eF51, mset_j (by decide)]; rw [eF49, mset_j (by decide)]; rw [eF47, mset_j (by decide)]; rw [eF45, mset_j (by decide)]; rw [eF43, mset_j (by decide)]; rw [eF41, mset_j (by decide)]; rw [eF39, mset_j (by decide)]; rw [eF37, mset_j (by decide)]; rw [eF35, mset_j (by decide)]; rw [eF33, mset_j (by decide)]; rw [eF31, mset_j (by decide)]; rw [eF29, mset_j (by decide)]; rw [eF27, mset_j (by decide)]; rw [eF25, mset_j (by decide)]; rw [eF23, mset_j (by decide)]; rw [eF21, mset_j (by decide)]; rw [eF19, mset_j (by decide)]; rw [eF17, mset_j (by decide)]; rw [eF15, mset_j (by decide)]; rw [eF13, mset_j (by decide)]; rw [eF11, mset_j (by decide)]; rw [eF9]; exact mset_s).trans ff_821_7.symm
    | 8, _, _ => exact (show F65 821 8 = some 826 by rw [eF65, mset_j (by decide)]; rw [eF63, mset_j (by decide)]; rw [eF61, mset_j (by decide)]; rw [eF59, mset_j (by decide)]; rw [eF57, mset_j (by decide)]; rw [eF55, mset_j (by decide)]; rw [eF53, mset_j (by decide)]; rw [eF51, mset_j (by decide)]; rw [eF49, mset_j (by decide)]; rw [eF47, mset_j (by decide)]; rw [eF45, mset_j (by decide)]; rw [eF43, mset_j (by decide)]; rw [eF41, mset_j (by decide)]; rw [eF39, mset_j (by decide)]; rw [eF37, mset_j (by decide)]; rw [eF35, mset_j (by decide)]; rw [eF33, mset_j (by decide)]; rw [eF31, mset_j (by decide)]; rw [eF29, mset_j (by decide)]; rw [eF27, mset_j (by decide)]; rw [eF25, mset_j (by decide)]; rw [eF23, mset_j (by decide)]; rw [eF21, mset_j (by decide)]; rw [eF19, mset_j (by decide)]; rw [eF17, mset_j (by decide)]; rw [eF15, mset_j (by decide)]; rw [eF13, mset_j (by decide)]; rw [eF11]; exact mset_s).trans ff_821_8.symm
    | 9, _, _ => exact (show F65 821 9 = some 827 by rw [eF65, mset_j (by decide)]; rw [eF63, mset_j (by decide)]; rw [eF61, mset_j (by decide)]; rw [eF59, mset_j (by decide)]; rw [eF57, mset_j (by decide)]; rw [eF55, mset_j (by decide)]; rw [eF53, mset_j (by decide)]; rw [eF51, mset_j (by decide)]; rw [eF49, mset_j (by decide)]; rw [eF47, mset_j (by decide)]; rw [eF45, mset_j (by decide)]; rw [eF43, mset_j (by decide)]; rw [eF41, mset_j (by decide)]; rw [eF39, mset_j (by decide)]; rw [eF37, mset_j (by decide)]; rw [eF35, mset_j (by decide)]; rw [eF33, mset_j (by decide)]; rw [eF31, mset_j (by decide)]; rw [eF29, mset_j (by decide)]; rw [eF27, mset_j (by decide)]; rw [eF25, mset_j (by decide)]; rw [eF23, mset_j (by decide)]; rw [eF21, mset_j (by decide)]; rw [eF19, mset_j (by decide)]; rw [eF17, mset_j (by decide)]; rw [eF15, mset_j (by decide)]; rw [eF13]; exact mset_s).trans ff_821_9.symm
    | 10, _, _ => exact (show F65 821 10 = some 828 by rw [eF65, mset_j (by decide)]; rw [eF63, mset_j (by decide)]; rw [eF61, mset_j (by decide)]; rw [eF59, mset_j (by decide)]; rw [eF57, mset_j (by decide)]; rw [eF55, mset_j (by decide)]; rw [eF53, mset_j (by decide)]; rw [eF51, mset_j (by decide)]; rw [eF49, mset_j (by decide)]; rw [eF47, mset_j (by decide)]; rw [eF45, mset_j (by decide)]; rw [eF43, mset_j (by decide)]; rw [eF41, mset_j (by decide)]; rw [eF39, mset_j (by decide)]; rw [eF37, mset_j (by decide)]; rw [eF35, mset_j (by decide)]; rw [eF33, mset_j (by decide)]; rw [eF31, mset_j (by decide)]; rw [eF29, mset_j (by decide)]; rw [eF27, mset_j (by decide)]; rw [eF25, mset_j (by decide)]; rw [eF23, mset_j (by decide)]; rw [eF21, mset_j (by decide)]; rw [eF19, mset_j (by decide)]; rw [eF17, mset_j (by decide)]; rw [eF15]; exact mset_s).trans ff_821_10.symm
    | 11, _, hn => exact absurd hn (by decide)
    | 12, _, _ => exact (show F65 821 12 = some 829 by rw [eF65, mset_j (by decide)]; rw [eF63, mset_j (by decide)]; rw [eF61, mset_j (by decide)]; rw [eF59, mset_j (by decide)]; rw [eF57, mset_j (by decide)]; rw [eF55, mset_j (by decide)]; rw [eF53, mset_j (by decide)]; rw [eF51, mset_j (by decide)]; rw [eF49, mset_j (by decide)]; rw [eF47, mset_j (by decide)]; rw [eF45, mset_j (by decide)]; rw [eF43, mset_j (by decide)]; rw [eF41, mset_j (by decide)]; rw [eF39, mset_j (by decide)]; rw [eF37, mset_j (by decide)]; rw [eF35, mset_j (by decide)]; rw [eF33, mset_j (by decide)]; rw [eF31, mset_j (by decide)]; rw [eF29, mset_j (by decide)]; rw [eF27, mset_j (by decide)]; rw [eF25, mset_j (by decide)]; rw [eF23, mset_j (by decide)]; rw [eF21, mset_j (by decide)]; rw [eF19, mset_j (by decide)]; rw [eF17]; exact mset_s).trans ff_821_12.symm
    | 13, _, _ => exact (show F65 821 13 = some 830 by rw [eF65, mset_j (by decide)]; rw [eF63, mset_j (by decide)]; rw [eF61, mset_j (by decide)]; rw [eF59, mset_j (by decide)]; rw [eF57, mset_j (by decide)]; rw [eF55, mset_j (by decide)]; rw [eF53, mset_j (by decide)]; rw [eF51, mset_j (by decide)]; rw [eF49, mset_j (by decide)]; rw [eF47, mset_j (by decide)]; rw [eF45, mset_j (by decide)]; rw [eF43, mset_j (by decide)]; rw [eF41, mset_j (by decide)]; rw [eF39, mset_j (by decide)]; rw [eF37, mset_j (by decide)]; rw [eF35, mset_j (by decide)]; rw [eF33, mset_j (by decide)]; rw [eF31, mset_j (by decide)]; rw [eF29, mset_j (by decide)]; rw [eF27, mset_j (by decide)]; rw [eF25, mset_j (by decide)]; rw [eF23, mset_j (by decide)]; rw [eF21, mset_j (by decide)]; rw [eF19]; exact mset_s).trans ff_821_13.symm
    | 14, _, _ => exact (show F65 821 14 = some 831 by rw [eF65, mset_j (by decide)]; rw [eF63, mset_j (by decide)]; rw [eF61, mset_j (by decide)]; rw [eF59, mset_j (by decide)]; rw [eF57, mset_j (by decide)]; rw [eF55, mset_j (by decide)]; rw [eF53, mset_j (by decide)]; rw [eF51, mset_j (by decide)]; rw [eF49, mset_j (by decide)]; rw [eF47, mset_j (by decide)]; rw [eF45, mset_j (by decide)]; rw [eF43, mset_j (by decide)]; rw [eF41, mset_j (by decide)]; rw [eF39, mset_j (by decide)]; rw [eF37, mset_j (by decide)]; rw [eF35, mset_j (by decide)]; rw [eF33, mset_j (by decide)]; rw [eF31, mset_j (by decide)]; rw [eF29, mset_j (by decide)]; rw [eF27, mset_j (by decide)]; rw [eF25, mset_j (by decide)]; rw [eF23, mset_j (by decide)]; rw [eF21]; exact mset_s).trans ff_821_14.symm
    | 15, _, _ => exact (show F65 821 15 = some 832 by rw [eF65, mset_j (by decide)]; rw [eF63, mset_j (by decide)]; rw [eF61, mset_j (by decide)]; rw [eF59, mset_j (by decide)]; rw [eF57, mset_j (by decide)]; rw [eF55, mset_j (by decide)]; rw [eF53, mset_j (by decide)]; rw [eF51, mset_j (by decide)]; rw [eF49, mset_j (by decide)]; rw [eF47, mset_j (by decide)]; rw [eF45, mset_j (by decide)]; rw [eF43, mset_j (by decide)]; rw [eF41, mset_j (by decide)]; rw [eF39, mset_j (by decide)]; rw [eF37, mset_j (by decide)]; rw [eF35, mset_j (by decide)]; rw [eF33, mset_j (by decide)]; rw [eF31, mset_j (by decide)]; rw [eF29, mset_j (by decide)]; rw [eF27, mset_j (by decide)]; rw [eF25, mset_j (by decide)]; rw [eF23]; exact mset_s).trans ff_821_15.symm
    | 16, _, _ => exact (show F65 821 16 = some 833 by rw [eF65, mset_j (by decide)]; rw [eF63, mset_j (by decide)]; rw [eF61, mset_j (by decide)]; rw [eF59, mset_j (by decide)]; rw [eF57, mset_j (by decide)]; rw [eF55, mset_j (by decide)]; rw [eF53, mset_j (by decide)]; rw [eF51, mset_j (by decide)]; rw [eF49, mset_j (by decide)]; rw [eF47, mset_j (by decide)]; rw [eF45, mset_j (by decide)]; rw [eF43, mset_j (by decide)]; rw [eF41, mset_j (by decide)]; rw [eF39, mset_j (by decide)]; rw [eF37, mset_j (by decide)]; rw [eF35, mset_j (by decide)]; rw [eF33, mset_j (by decide)]; rw [eF31, mset_j (by decide)]; rw [eF29, mset_j (by decide)]; rw [eF27, mset_j (by decide)]; rw [eF25]; exact mset_s).trans ff_821_16.symm
    | 17, _, _ => exact (show F65 821 17 = some 834 by rw [eF65, mset_j (by decide)]; rw [eF63, mset_j (by decide)]; rw [eF61, mset_j (by decide)]; rw [eF59, mset_j (by decide)]; rw [eF57, mset_j (by decide)]; rw [eF55, mset_j (by decide)]; rw [eF53, mset_j (by decide)]; rw [eF51, mset_j (by decide)]; rw [eF49, mset_j (by decide)]; rw [eF47, mset_j (by decide)]; rw [eF45, mset_j (by decide)]; rw [eF43, mset_j (by decide)]; rw [eF41, mset_j (by decide)]; rw [eF39, mset_j (by decide)]; rw [eF37, mset_j (by decide)]; rw [eF35, mset_j (by decide)]; rw [eF33, mset_j (by decide)]; rw [eF31, mset_j (by decide)]; rw [eF29, mset_j (by decide)]; rw [eF27]; exact mset_s).trans ff_821_17.symm
    | 18, _, _ => exact (show F65 821 18 = some 835 by rw [eF65, mset_j (by decide)]; rw [eF63, mset_j (by decide)]; rw [eF61, mset_j (by decide)]; rw [eF59, mset_j (by decide)]; rw [eF57, mset_j (by decide)]; rw [eF55, mset_j (by decide)]; rw [eF53, mset_j (by decide)]; rw [eF51, mset_j (by decide)]; rw [eF49, mset_j (by decide)]; rw [eF47, mset_j (by decide)]; rw [eF45, mset_j (by decide)]; rw [eF43, mset_j (by decide)]; rw [eF41, mset_j (by decide)]; rw [eF39, mset_j (by decide)]; rw [eF37, mset_j (by decide)]; rw [eF35, mset_j (by decide)]; rw [eF33, mset_j (by decide)]; rw [eF31, mset_j (by decide)]; rw [eF29]; exact mset_s).trans ff_821_18.symm
    | 19, _, _ => exact (show F65 821 19 = some 836 by rw [eF65, mset_j (by decide)]; rw [eF63, mset_j (by decide)]; rw [eF61, mset_j (by decide)]; rw [eF59, mset_j (by decide)]; rw [eF57, mset_j (by decide)]; rw [eF55, mset_j (by decide)]; rw [eF53, mset_j (by decide)]; rw [eF51, mset_j (by decide)]; rw [eF49, mset_j (by decide)]; rw [eF47, mset_j (by decide)]; rw [eF45, mset_j (by decide)]; rw [eF43, mset_j (by decide)]; rw [eF41, mset_j (by decide)]; rw [eF39, mset_j (by decide)]; rw [eF37, mset_j (by decide)]; rw [eF35, mset_j (by decide)]; rw [eF33, mset_j (by decide)]; rw [eF31]; exact mset_s).trans ff_821_19.symm
    | 20, _, _ => exact (show F65 821 20 = some 837 by rw [eF65, mset_j (by decide)]; rw [eF63, mset_j (by decide)]; rw [eF61, mset_j (by decide)]; rw [eF59, mset_j (by decide)]; rw [eF57, mset_j (by decide)]; rw [eF55, mset_j (by decide)]; rw [eF53, mset_j (by decide)]; rw [eF51, mset_j (by decide)]; rw [eF49, mset_j (by decide)]; rw [eF47, mset_j (by decide)]; rw [eF45, mset_j (by decide)]; rw [eF43, mset_j (by decide)]; rw [eF41, mset_j (by decide)]; rw [eF39, mset_j (by decide)]; rw [eF37, mset_j (by decide)]; rw [eF35, mset_j (by decide)]; rw [eF33]; exact mset_s).trans ff_821_20.symm
    | 21, _, _ => exact (show F65 821 21 = some 838 by rw [eF65, mset_j (by decide)]; rw [eF63, mset_j (by decide)]; rw [eF61, mset_j (by decide)]; rw [eF59, mset_j (by decide)]; rw [eF57, mset_j (by decide)]; rw [eF55, mset_j (by decide)]; rw [eF53, mset_j (by decide)]; rw [eF51, mset_j (by decide)]; rw [eF49, mset_j (by decide)]; rw [eF47, mset_j (by decide)]; rw [eF45, mset_j (by decide)]; rw [eF43, mset_j (by decide)]; rw [eF41, mset_j (by decide)]; rw [eF39, mset_j (by decide)]; rw [eF37, mset_j (by decide)]; rw [eF35]; exact mset_s).trans ff_821_21.symm
    | 22, _, hn => exact absurd hn (by decide)
    | 23, _, _ => exact (show F65 821 23 = some 839 by rw [eF65, mset_j (by decide)]; rw [eF63, mset_j (by decide)]; rw [eF61, mset_j (by decide)]; rw [eF59, mset_j (by decide)]; rw [eF57, mset_j (by decide)]; rw [eF55, mset_j (by decide)]; rw [eF53, mset_j (by decide)]; rw [eF51, mset_j (by decide)]; rw [eF49, mset_j (by decide)]; rw [eF47, mset_j (by decide)]; rw [eF45, mset_j (by decide)]; rw [eF43, mset_j (by decide)]; rw [eF41, mset_j (by decide)]; rw [eF39, mset_j (by decide)]; rw [eF37]; exact mset_s).trans ff_821_23.symm
    | 24, _, _ => exact (show F65 821 24 = some 840 by rw [eF65, mset_j (by decide)]; rw [eF63, mset_j (by decide)]; rw [eF61, mset_j (by decide)]; rw [eF59, mset_j (by decide)]; rw [eF57, mset_j (by decide)]; rw [eF55, mset_j (by decide)]; rw [eF53, mset_j (by decide)]; rw [eF51, mset_j (by decide)]; rw [eF49, mset_j (by decide)]; rw [eF47, mset_j (by decide)]; rw [eF45, mset_j (by decide)]; rw [eF43, mset_j (by decide)]; rw [eF41, mset_j (by decide)]; rw [eF39]; exact mset_s).trans ff_821_24.symm
    | 25, _, _ => exact (show F65 821 25 = some 841 by rw [eF65, mset_j (by decide)]; rw [eF63, mset_j (by decide)]; rw [eF61, mset_j (by decide)]; rw [eF59, mset_j (by decide)]; rw [eF57, mset_j (by decide)]; rw [eF55, mset_j (by decide)]; rw [eF53, mset_j (by decide)]; rw [eF51, mset_j (by decide)]; rw [eF49, mset_j (by decide)]; rw [eF47, mset_j (by decide)]; rw [eF45, mset_j (by decide)]; rw [eF43, mset_j (by decide)]; rw [eF41]; exact mset_s).trans ff_821_25.symm
    | 26, _, _ => exact (show F65 821 26 = some 842 by rw [eF65, mset_j (by decide)]; rw [eF63, mset_j (by decide)]; rw [eF61, mset_j (by decide)]; rw [eF59, mset_j (by decide)]; rw [eF57, mset_j (by decide)]; rw [eF55, mset_j (by decide)]; rw [eF53, mset_j (by decide)]; rw [eF51, mset_j (by decide)]; rw [eF49, mset_j (by decide)]; rw [eF47, mset_j (by decide)]; rw [eF45, mset_j (by decide)]; rw [eF43]; exact mset_s).trans ff_821_26.symm
    | 27, _, _ => exact (show F65 821 27 = some 843 by rw [eF65, mset_j (by decide)]; rw [eF63, mset_j (by decide)]; rw [eF61, mset_j (by decide)]; rw [eF59, mset_j (by decide)]; rw [eF57, mset_j (by decide)]; rw [eF55, mset_j (by decide)]; rw [eF53, mset_j (by decide)]; rw [eF51, mset_j (by decide)]; rw [eF49, mset_j (by decide)]; rw [eF47, mset_j (by decide)]; rw [eF45]; exact mset_s).trans ff_821_27.symm
    | 28, _, _ => exact (show F65 821 28 = some 844 by rw [eF65, mset_j (by decide)]; rw [eF63, mset_j (by decide)]; rw [eF61, mset_j (by decide)]; rw [eF59, mset_j (by decide)]; rw [eF57, mset_j (by decide)]; rw [eF55, mset_j (by decide)]; rw [eF53, mset_j (by decide)]; rw [eF51, mset_j (by decide)]; rw [eF49, mset_j (by decide)]; rw [eF47]; exact mset_s).trans ff_821_28.symm
    | 29, _, hn => exact absurd hn (by decide)
    | 30, _, _ => exact (show F65 821 30 = some 845 by rw [eF65, mset_j (by decide)]; rw [eF63, mset_j (by decide)]; rw [eF61, mset_j (by decide)]; rw [eF59, mset_j (by decide)]; rw [eF57, mset_j (by decide)]; rw [eF55, mset_j (by decide)]; rw [eF53, mset_j (by decide)]; rw [eF51, mset_j (by decide)]; rw [eF49]; exact mset_s).trans ff_821_30.symm
    | 31, _, _ => exact (show F65 821 31 = some 846 by rw [eF65, mset_j (by decide)]; rw [eF63, mset_j (by decide)]; rw [eF61, mset_j (by decide)]; rw [eF59, mset_j (by decide)]; rw [eF57, mset_j (by decide)]; rw [eF55, mset_j (by decide)]; rw [eF53, mset_j (by decide)]; rw [eF51]; exact mset_s).trans ff_821_31.symm
    | 32, _, _ => exact (show F65 821 32 = some 847 by rw [eF65, mset_j (by decide)]; rw [eF63, mset_j (by decide)]; rw [eF61, mset_j (by decide)]; rw [eF59, mset_j (by decide)]; rw [eF57, mset_j (by decide)]; rw [eF55, mset_j (by decide)]; rw [eF53]; exact mset_s).trans ff_821_32.symm
    | 33, _, _ => exact (show F65 821 33 = some 848 by rw [eF65, mset_j (by decide)]; rw [eF63, mset_j (by decide)]; rw [eF61, mset_j (by decide)]; rw [eF59, mset_j (by decide)]; rw [eF57, mset_j (by decide)]; rw [eF55]; exact mset_s).trans ff_821_33.symm
    | 34, _, hn => exact absurd hn (by decide)
    | 35, _, _ => exact (show F65 821 35 = some 849 by rw [eF65, mset_j (by decide)]; rw [eF63, mset_j (by decide)]; rw [eF61, mset_j (by decide)]; rw [eF59, mset_j (by decide)]; rw [eF57]; exact mset_s).trans ff_821_35.symm
    | 36, _, _ => exact (show F65 821 36 = some 850 by rw [eF65, mset_j (by decide)]; rw [eF63, mset_j (by decide)]; rw [eF61, mset_j (by decide)]; rw [eF59]; exact mset_s).trans ff_821_36.symm
    | 37, _, hn => exact absurd hn (by decide)
    | 38, _, hn => exact absurd hn (by decide)
    | 39, _, _ => exact (show F65 821 39 = some 851 by rw [eF65, mset_j (by decide)]; rw [eF63, mset_j (by decide)]; rw [eF61]; exact mset_s).trans ff_821_39.symm
    | 40, _, _ => exact (show F65 821 40 = some 852 by rw [eF65, mset_j (by decide)]; rw [eF63]; exact mset_s).trans ff_821_40.symm
    | 41, _, hn => exact absurd hn (by decide)
    | 42, _, hn => exact absurd hn (by decide)
    | 43, _, hn => exact absurd hn (by decide)
    | 44, _, hn => exact absurd hn (by decide)
    | 45, _, hn => exact absurd hn (by decide)
    | 46, _, hn => exact absurd hn (by decide)
    | 47, _, _ => exact (show F65 821 47 = some 853 by rw [eF65]; exact mset_s).trans ff_821_47.symm
    | 48, _, hn => exact absurd hn (by decide)
    | 49, _, hn => exact absurd hn (by decide)
    | 50, _, hn => exact absurd hn (by decide)
    | n + 51, hj, _ => exact absurd hj (by show ¬ n + 51 < 51; omega)
set_option maxHeartbeats 8000000 in
set_option maxRecDepth 100000 in
theorem gX14_init {fu : Nat} {F : mwF} {M : mwM} {L : mwL} {FZ : mwF} {MZ : mwM} {LZ : mwL} (hD : DX14_init fu F M L = some (FZ, MZ, LZ)) : ∀ o ∈ [0], cpx FZ (854 + o) := by
  unfold DX14_init at hD
  obtain ⟨M1, eM1, hD⟩ := g_let hD
  obtain ⟨F2, eF2, hD⟩ := g_let hD
  obtain ⟨M3, eM3, hD⟩ := g_let hD
  obtain ⟨F4, eF4, hD⟩ := g_let hD
  obtain ⟨L5, eL5, hD⟩ := g_let hD
  obtain ⟨F6, eF6, hD⟩ := g_let hD
  obtain ⟨M7, eM7, hD⟩ := g_let hD
  obtain ⟨F8, eF8, hD⟩ := g_let hD
  obtain ⟨M9, eM9, hD⟩ := g_let hD
  obtain ⟨F10, eF10, hD⟩ := g_let hD
  obtain ⟨M11, eM11, hD⟩ := g_let hD
  obtain ⟨F12, eF12, hD⟩ := g_let hD
  obtain ⟨L13, eL13, hD⟩ := g_let hD
  obtain ⟨F14, eF14, hD⟩ := g_let hD
  obtain ⟨M15, eM15, hD⟩ := g_let hD
  obtain ⟨F16, eF16, hD⟩ := g_let hD
  obtain ⟨M17, eM17, hD⟩ := g_let hD
  obtain ⟨F18, eF18, hD⟩ := g_let hD
  obtain ⟨M19, eM19, hD⟩ := g_let hD
  obtain ⟨F20, eF20, hD⟩ := g_let hD
  obtain ⟨M21, eM21, hD⟩ := g_let hD
  obtain ⟨F22, eF22, hD⟩ := g_let hD
  obtain ⟨M23, eM23, hD⟩ := g_let hD
  obtain ⟨F24, eF24, hD⟩ := g_let hD
  obtain ⟨M25, eM25, hD⟩ := g_let hD
  obtain ⟨F26, eF26, hD⟩ := g_let hD
  obtain ⟨M27, eM27, hD⟩ := g_let hD
  obtain ⟨F28, eF28, hD⟩ := g_let hD
  obtain ⟨M29, L30, h1, hD⟩ := g_b2 hD
  have hf : F28 = FZ := by
    have hf := congrArg (fun q => q.1) (Option.some.inj hD)
    exact hf
  rw [← hf]
  refine List.forall_mem_cons.mpr ⟨?_, fun _ h => absurd h List.not_mem_nil⟩
  · show cpx F28 854
    intro j hj hn
    rw [need_O tf_854] at hn
    rw [show (TF _).2 = _ from congrArg Prod.snd tf_854] at hj
    match j, hj, hn with
    | 0, _, hn => exact absurd hn (by decide)
    | 1, _, hn => exact absurd hn (by decide)
    | 2, _, _ => exact (show F28 854 2 = some 855 by rw [eF28, mset_j (by decide)]; rw [eF26, mset_j (by decide)]; rw [eF24, mset_j (by decide)]; rw [eF22, mset_j (by decide)]; rw [eF20, mset_j (by decide)]; rw [eF18, mset_j (by decide)]; rw [eF16, mset_j (by decide)]; rw [eF14, mset_j (by decide)]; rw [eF12, mset_j (by decide)]; rw [eF10, mset_j (by decide)]; rw [eF8, mset_j (by decide)]; rw [eF6, mset_j (by decide)]; rw [eF4, mset_j (by decide)]; rw [eF2]; exact mset_s).trans ff_854_2.symm
    | 3, _, _ => exact (show F28 854 3 = some 856 by rw [eF28, mset_j (by decide)]; rw [eF26, mset_j (by decide)]; rw [eF24, mset_j (by decide)]; rw [eF22, mset_j (by decide)]; rw [eF20, mset_j (by decide)]; rw [eF18, mset_j (by decide)]; rw [eF16, mset_j (by decide)]; rw [eF14, mset_j (by decide)]; rw [eF12, mset_j (by decide)]; rw [eF10, mset_j (by decide)]; rw [eF8, mset_j (by decide)]; rw [eF6, mset_j (by decide)]; rw [eF4]; exact mset_s).trans ff_854_3.symm
    | 4, _, _ => exact (show F28 854 4 = some 857 by rw [eF28, mset_j (by decide)]; rw [eF26, mset_j (by decide)]; rw [eF24, mset_j (by decide)]; rw [eF22, mset_j (by decide)]; rw [eF20, mset_j (by decide)]; rw [eF18, mset_j (by decide)]; rw [eF16, mset_j (by decide)]; rw [eF14, mset_j (by decide)]; rw [eF12, mset_j (by decide)]; rw [eF10, mset_j (by decide)]; rw [eF8, mset_j (by decide)]; rw [eF6]; exact mset_s).trans ff_854_4.symm
    | 5, _, _ => exact (show F28 854 5 = some 858 by rw [eF28, mset_j (by decide)]; rw [eF26, mset_j (by decide)]; rw [eF24, mset_j (by decide)]; rw [eF22, mset_j (by decide)]; rw [eF20, mset_j (by decide)]; rw [eF18, mset_j (by decide)]; rw [eF16, mset_j (by decide)]; rw [eF14, mset_j (by decide)]; rw [eF12, mset_j (by decide)]; rw [eF10, mset_j (by decide)]; rw [eF8]; exact mset_s).trans ff_854_5.symm
    | 6, _, hn => exact absurd hn (by decide)
    | 7, _, hn => exact absurd hn (by decide)
    | 8, _, _ => exact (show F28 854 8 = some 859 by rw [eF28, mset_j (by decide)]; rw [eF26, mset_j (by decide)]; rw [eF24, mset_j (by decide)]; rw [eF22, mset_j (by decide)]; rw [eF20, mset_j (by decide)]; rw [eF18, mset_j (by decide)]; rw [eF16, mset_j (by decide)]; rw [eF14, mset_j (by decide)]; rw [eF12, mset_j (by decide)]; rw [eF10]; exact mset_s).trans ff_854_8.symm
    | 9, _, hn => exact absurd hn (by decide)
    | 10, _, _ => exact (show F28 854 10 = some 860 by rw [eF28, mset_j (by decide)]; rw [eF26, mset_j (by decide)]; rw [eF24, mset_j (by decide)]; rw [eF22, mset_j (by decide)]; rw [eF20, mset_j (by decide)]; rw [eF18, mset_j (by decide)]; rw [eF16, mset_j (by decide)]; rw [eF14, mset_j (by decide)]; rw [eF12]; exact mset_s).trans ff_854_10.symm
    | 11, _, _ => exact (show F28 854 11 = some 861 by rw [eF28, mset_j (by decide)]; rw [eF26, mset_j (by decide)]; rw [eF24, mset_j (by decide)]; rw [eF22, mset_j (by decide)]; rw [eF20, mset_j (by decide)]; rw [eF18, mset_j (by decide)]; rw [eF16, mset_j (by decide)]; rw [eF14]; exact mset_s).trans ff_854_11.symm
    | 12, _, _ => exact (show F28 854 12 = some 862 by rw [eF28, mset_j (by decide)]; rw [eF26, mset_j (by decide)]; rw [eF24, mset_j (by decide)]; rw [eF22, mset_j (by decide)]; rw [eF20, mset_j (by decide)]; rw [eF18, mset_j (by decide)]; rw [eF16]; exact mset_s).trans ff_854_12.symm
    | 13, _, _ => exact (show F28 854 13 = some 863 by rw [eF28, mset_j (by decide)]; rw [eF26, mset_j (by decide)]; rw [eF24, mset_j (by decide)]; rw [eF22, mset_j (by decide)]; rw [eF20, mset_j (by decide)]; rw [eF18]; exact mset_s).trans ff_854_13.symm
    | 14, _, _ => exact (show F28 854 14 = some 864 by rw [eF28, mset_j (by decide)]; rw [eF26, mset_j (by decide)]; rw [eF24, mset_j (by decide)]; rw [eF22, mset_j (by decide)]; rw [eF20]; exact mset_s).trans ff_854_14.symm
    | 15, _, _ => exact (show F28 854 15 = some 865 by rw [eF28, mset_j (by decide)]; rw [eF26, mset_j (by decide)]; rw [eF24, mset_j (by decide)]; rw [eF22]; exact mset_s).trans ff_854_15.symm
    | 16, _, _ => exact (show F28 854 16 = some 866 by rw [eF28, mset_j (by decide)]; rw [eF26, mset_j (by decide)]; rw [eF24]; exact mset_s).trans ff_854_16.symm
    | 17, _, _ => exact (show F28 854 17 = some 867 by rw [eF28, mset_j (by decide)]; rw [eF26]; exact mset_s).trans ff_854_17.symm
    | 18, _, _ => exact (show F28 854 18 = some 868 by rw [eF28]; exact mset_s).trans ff_854_18.symm
    | n + 19, hj, _ => exact absurd hj (by show ¬ n + 19 < 19; omega)
set_option maxHeartbeats 8000000 in
set_option maxRecDepth 100000 in
theorem gX17_init {fu : Nat} {F : mwF} {M : mwM} {L : mwL} {FZ : mwF} {MZ : mwM} {LZ : mwL} (hD : DX17_init fu F M L = some (FZ, MZ, LZ)) : ∀ o ∈ [0], cpx FZ (869 + o) := by
  unfold DX17_init at hD
  obtain ⟨M1, eM1, hD⟩ := g_let hD
  obtain ⟨F2, eF2, hD⟩ := g_let hD
  obtain ⟨M3, eM3, hD⟩ := g_let hD
  obtain ⟨F4, eF4, hD⟩ := g_let hD
  obtain ⟨M5, eM5, hD⟩ := g_let hD
  obtain ⟨F6, eF6, hD⟩ := g_let hD
  obtain ⟨M7, eM7, hD⟩ := g_let hD
  obtain ⟨F8, eF8, hD⟩ := g_let hD
  obtain ⟨M9, eM9, hD⟩ := g_let hD
  obtain ⟨F10, eF10, hD⟩ := g_let hD
  obtain ⟨M11, eM11, hD⟩ := g_let hD
  obtain ⟨F12, eF12, hD⟩ := g_let hD
  obtain ⟨M13, eM13, hD⟩ := g_let hD
  obtain ⟨F14, eF14, hD⟩ := g_let hD
  obtain ⟨M15, eM15, hD⟩ := g_let hD
  obtain ⟨F16, eF16, hD⟩ := g_let hD
  obtain ⟨M17, eM17, hD⟩ := g_let hD
  obtain ⟨F18, eF18, hD⟩ := g_let hD
  obtain ⟨M19, eM19, hD⟩ := g_let hD
  obtain ⟨F20, eF20, hD⟩ := g_let hD
  obtain ⟨L21, eL21, hD⟩ := g_let hD
  obtain ⟨F22, eF22, hD⟩ := g_let hD
  obtain ⟨L23, eL23, hD⟩ := g_let hD
  obtain ⟨F24, eF24, hD⟩ := g_let hD
  obtain ⟨M25, eM25, hD⟩ := g_let hD
  obtain ⟨F26, eF26, hD⟩ := g_let hD
  obtain ⟨M27, eM27, hD⟩ := g_let hD
  obtain ⟨F28, eF28, hD⟩ := g_let hD
  obtain ⟨M29, eM29, hD⟩ := g_let hD
  obtain ⟨F30, eF30, hD⟩ := g_let hD
  obtain ⟨M31, eM31, hD⟩ := g_let hD
  obtain ⟨F32, eF32, hD⟩ := g_let hD
  obtain ⟨M33, eM33, hD⟩ := g_let hD
  obtain ⟨F34, eF34, hD⟩ := g_let hD
  obtain ⟨M35, eM35, hD⟩ := g_let hD
  obtain ⟨F36, eF36, hD⟩ := g_let hD
  obtain ⟨M37, eM37, hD⟩ := g_let hD
  obtain ⟨F38, eF38, hD⟩ := g_let hD
  obtain ⟨L39, eL39, hD⟩ := g_let hD
  obtain ⟨F40, eF40, hD⟩ := g_let hD
  obtain ⟨M41, eM41, hD⟩ := g_let hD
  obtain ⟨F42, eF42, hD⟩ := g_let hD
  obtain ⟨M43, eM43, hD⟩ := g_let hD
  obtain ⟨F44, eF44, hD⟩ := g_let hD
  obtain ⟨M45, eM45, hD⟩ := g_let hD
  obtain ⟨F46, eF46, hD⟩ := g_let hD
  obtain ⟨M47, eM47, hD⟩ := g_let hD
  obtain ⟨F48, eF48, hD⟩ := g_let hD
  obtain ⟨M49, eM49, hD⟩ := g_let hD
  obtain ⟨F50, eF50, hD⟩ := g_let hD
  obtain ⟨M51, eM51, hD⟩ := g_let hD
  obtain ⟨F52, eF52, hD⟩ := g_let hD
  obtain ⟨M53, eM53, hD⟩ := g_let hD
  obtain ⟨F54, eF54, hD⟩ := g_let hD
  obtain ⟨L55, eL55, hD⟩ := g_let hD
  obtain ⟨F56, eF56, hD⟩ := g_let hD
  obtain ⟨M57, eM57, hD⟩ := g_let hD
  obtain ⟨F58, eF58, hD⟩ := g_let hD
  obtain ⟨M59, eM59, hD⟩ := g_let hD
  obtain ⟨F60, eF60, hD⟩ := g_let hD
  obtain ⟨M61, eM61, hD⟩ := g_let hD
  obtain ⟨M62, eM62, hD⟩ := g_let hD
  obtain ⟨F63, eF63, hD⟩ := g_let hD
  obtain ⟨M64, eM64, hD⟩ := g_let hD
  obtain ⟨F65, eF65, hD⟩ := g_let hD
  have hf : F65 = FZ := by
    have hf := congrArg (fun q => q.1) (Option.some.inj hD)
    exact hf
  rw [← hf]
  refine List.forall_mem_cons.mpr ⟨?_, fun _ h => absurd h List.not_mem_nil⟩
  · show cpx F65 869
    intro j hj hn
    rw [need_O tf_869] at hn
    rw [show (TF _).2 = _ from congrArg Prod.snd tf_869] at hj
    match j, hj, hn with
    | 0, _, hn => exact absurd hn (by decide)
    | 1, _, hn => exact absurd hn (by decide)
    | 2, _, hn => exact absurd hn (by decide)
    | 3, _, hn => exact absurd hn (by decide)
    | 4, _, _ => exact (show F65 869 4 = some 870 by rw [eF65, mset_j (by decide)]; rw [eF63, mset_j (by decide)]; rw [eF60, mset_j (by decide)]; rw [eF58, mset_j (by decide)]; rw [eF56, mset_j (by decide)]; rw [eF54, mset_j (by decide)]; rw [eF52, mset_j (by decide)]; rw [eF50, mset_j (by decide)]; rw [eF48, mset_j (by decide)]; rw [eF46, mset_j (by decide)]; rw [eF44, mset_j (by decide)]; rw [eF42, mset_j (by decide)]; rw [eF40, mset_j (by decide)]; rw [eF38, mset_j (by decide)]; rw [eF36, mset_j (by decide)]; rw [eF34, mset_j (by decide)]; rw [eF32, mset_j (by decide)]; rw [eF30, mset_j (by decide)]; rw [eF28, mset_j (by decide)]; rw [eF26, mset_j (by decide)]; rw [eF24, mset_j (by decide)]; rw [eF22, mset_j (by decide)]; rw [eF20, mset_j (by decide)]; rw [eF18, mset_j (by decide)]; rw [eF16, mset_j (by decide)]; rw [eF14, mset_j (by decide)]; rw [eF12, mset_j (by decide)]; rw [eF10, mset_j (by decide)]; rw [eF8, mset_j (by decide)]; rw [eF6, mset_j (by decide)]; rw [eF4, mset_j (by decide)]; rw [eF2]; exact mset_s).trans ff_869_4.symm
    | 5, _, _ => exact (show F65 869 5 = some 871 by rw [eF65, mset_j (by decide)]; rw [eF63, mset_j (by decide)]; rw [eF60, mset_j (by decide)]; rw [eF58, mset_j (by decide)]; rw [eF56, mset_j (by decide)]; rw [eF54, mset_j (by decide)]; rw [eF52, mset_j (by decide)]; rw [eF50, mset_j (by decide)]; rw [eF48, mset_j (by decide)]; rw [eF46, mset_j (by decide)]; rw [eF44, mset_j (by decide)]; rw [eF42, mset_j (by decide)]; rw [eF40, mset_j (by decide)]; rw [eF38, mset_j (by decide)]; rw [eF36, mset_j (by decide)]; rw [eF34, mset_j (by decide)]; rw [eF32, mset_j (by decide)]; rw [eF30, mset_j (by decide)]; rw [eF28, mset_j (by decide)]; rw [eF26, mset_j (by decide)]; rw [eF24, mset_j (by decide)]; rw [eF22, mset_j (by decide)]; rw [eF20, mset_j (by decide)]; rw [eF18, mset_j (by decide)]; rw [eF16, mset_j (by decide)]; rw [eF14, mset_j (by decide)]; rw [eF12, mset_j (by decide)]; rw [eF10, mset_j (by decide)]; rw [eF8, mset_j (by decide)]; rw [eF6, mset_j (by decide)]; rw [eF4]; exact mset_s).trans ff_869_5.symm
    | 6, _, _ => exact (show F65 869 6 = some 872 by rw [eF65, mset_j (by decide)]; rw [eF63, mset_j (by decide)]; rw [eF60, mset_j (by decide)]; rw [eF58, mset_j (by decide)]; rw [eF56, mset_j (by decide)]; rw [eF54, mset_j (by decide)]; rw [eF52, mset_j (by decide)]; rw [eF50, mset_j (by decide)]; rw [eF48, mset_j (by decide)]; rw [eF46, mset_j (by decide)]; rw [eF44, mset_j (by decide)]; rw [eF42, mset_j (by decide)]; rw [eF40, mset_j (by decide)]; rw [eF38, mset_j (by decide)]; rw [eF36, mset_j (by decide)]; rw [eF34, mset_j (by decide)]; rw [eF32, mset_j (by decide)]; rw [eF30, mset_j (by decide)]; rw [eF28, mset_j (by decide)]; rw [eF26, mset_j (by decide)]; rw [eF24, mset_j (by decide)]; rw [eF22, mset_j (by decide)]; rw [eF20, mset_j (by decide)]; rw [eF18, mset_j (by decide)]; rw [eF16, mset_j (by decide)]; rw [eF14, mset_j (by decide)]; rw [eF12, mset_j (by decide)]; rw [eF10, mset_j (by decide)]; rw [eF8, mset_j (by decide)]; rw [eF6]; exact mset_s).trans ff_869_6.symm
    | 7, _, _ => exact (show F65 869 7 = some 873 by rw [eF65, mset_j (by decide)]; rw [eF63, mset_j (by decide)]; rw [eF60, mset_j (by decide)]; rw [eF58, mset_j (by decide)]; rw [eF56, mset_j (by decide)]; rw [eF54, mset_j (by decide)]; rw [eF52, mset_j (by decide)]; rw [eF50, mset_j (by decide)]; rw [eF48, mset_j (by decide)]; rw [eF46, mset_j (by decide)]; rw [eF44, mset_j (by decide)]; rw [eF42, mset_j (by decide)]; rw [eF40, mset_j (by decide)]; rw [eF38, mset_j (by decide)]; rw [eF36, mset_j (by decide)]; rw [eF34, mset_j (by decide)]; rw [eF32, mset_j (by decide)]; rw [eF30, mset_j (by decide)]; rw [eF28, mset_j (by decide)]; rw [eF26, mset_j (by decide)]; rw [eF24, mset_j (by decide)]; rw [eF22, mset_j (by decide)]; rw [eF20, mset_j (by decide)]; rw [eF18, mset_j (by decide)]; rw [eF16, mset_j (by decide)]; rw [eF14, mset_j (by decide)]; rw [eF12, mset_j (by decide)]; rw [eF10, mset_j (by decide)]; rw [eF8]; exact mset_s).trans ff_869_7.symm
    | 8, _, _ => exact (show F65 869 8 = some 874 by rw [eF65, mset_j (by decide)]; rw [eF63, mset_j (by decide)]; rw [eF60, mset_j (by decide)]; rw [eF58, mset_j (by decide)]; rw [eF56, mset_j (by decide)]; rw [eF54, mset_j (by decide)]; rw [eF52, mset_j (by decide)]; rw [eF50, mset_j (by decide)]; rw [eF48, mset_j (by decide)]; rw [eF46, mset_j (by decide)]; rw [eF44, mset_j (by decide)]; rw [eF42, mset_j (by decide)]; rw [eF40, mset_j (by decide)]; rw [eF38, mset_j (by decide)]; rw [eF36, mset_j (by decide)]; rw [eF34, mset_j (by decide)]; rw [eF32, mset_j (by decide)]; rw [eF30, mset_j (by decide)]; rw [eF28, mset_j (by decide)]; rw [eF26, mset_j (by decide)]; rw [eF24, mset_j (by decide)]; rw [eF22, mset_j (by decide)]; rw [eF20, mset_j (by decide)]; rw [eF18, mset_j (by decide)]; rw [eF16, mset_j (by decide)]; rw [eF14, mset_j (by decide)]; rw [eF12, mset_j (by decide)]; rw [eF10]; exact mset_s).trans ff_869_8.symm
    | 9, _, _ => exact (show F65 869 9 = some 875 by rw [eF65, mset_j (by decide)]; rw [eF63, mset_j (by decide)]; rw [eF60, mset_j (by decide)]; rw [eF58, mset_j (by decide)]; rw [eF56, mset_j (by decide)]; rw [eF54, mset_j (by decide)]; rw [eF52, mset_j (by decide)]; rw [eF50, mset_j (by decide)]; rw [eF48, mset_j (by decide)]; rw [eF46, mset_j (by decide)]; rw [eF44, mset_j (by decide)]; rw [eF42, mset_j (by decide)]; rw [eF40, mset_j (by decide)]; rw [eF38, mset_j (by decide)]; rw [eF36, mset_j (by decide)]; rw [eF34, mset_j (by decide)]; rw [eF32, mset_j (by decide)]; rw [eF30, mset_j (by decide)]; rw [eF28, mset_j (by decide)]; rw [eF26, mset_j (by decide)]; rw [eF24, mset_j (by decide)]; rw [eF22, mset_j (by decide)]; rw [eF20, mset_j (by decide)]; rw [eF18, mset_j (by decide)]; rw [eF16, mset_j (by decide)]; rw [eF14, mset_j (by decide)]; rw [eF12]; exact mset_s).trans ff_869_9.symm
    | 10, _, _ => exact (show F65 869 10 = some 876 by rw [eF65, mset_j (by decide)]; rw [eF63, mset_j (by decide)]; rw [eF60, mset_j (by decide)]; rw [eF58, mset_j (by decide)]; rw [eF56, mset_j (by decide)]; rw [eF54, mset_j (by decide)]; rw [eF52, mset_j (by decide)]; rw [eF50, mset_j (by decide)]; rw [eF48, mset_j (by decide)]; rw [eF46, mset_j (by decide)]; rw [eF44, mset_j (by decide)]; rw [eF42, mset_j (by decide)]; rw [eF40, mset_j (by decide)]; rw [eF38, mset_j (by decide)]; rw [eF36, mset_j (by decide)]; rw [eF34, mset_j (by decide)]; rw [eF32, mset_j (by decide)]; rw [eF30, mset_j (by decide)]; rw [eF28, mset_j (by decide)]; rw [eF26, mset_j (by decide)]; rw [eF24, mset_j (by decide)]; rw [eF22, mset_j (by decide)]; rw [eF20, mset_j (by decide)]; rw [eF18, mset_j (by decide)]; rw [eF16, mset_j (by decide)]; rw [eF14]; exact mset_s).trans ff_869_10.symm
    | 11, _, _ => exact (show F65 869 11 = some 877 by rw [eF65, mset_j (by decide)]; rw [eF63, mset_j (by decide)]; rw [eF60, mset_j (by decide)]; rw [eF58, mset_j (by decide)]; rw [eF56, mset_j (by decide)]; rw [eF54, mset_j (by decide)]; rw [eF52, mset_j (by decide)]; rw [eF50, mset_j (by decide)]; rw [eF48, mset_j (by decide)]; rw [eF46, mset_j (by decide)]; rw [eF44, mset_j (by decide)]; rw [eF42, mset_j (by decide)]; rw [eF40, mset_j (by decide)]; rw [eF38, mset_j (by decide)]; rw [eF36, mset_j (by decide)]; rw [eF34, mset_j (by decide)]; rw [eF32, mset_j (by decide)]; rw [eF30, mset_j (by decide)]; rw [eF28, mset_j (by decide)]; rw [eF26, mset_j (by decide)]; rw [eF24, mset_j (by decide)]; rw [eF22, mset_j (by decide)]; rw [eF20, mset_j (by decide)]; rw [eF18, mset_j (by decide)]; rw [eF16]; exact mset_s).trans ff_869_11.symm
    | 12, _, _ => exact (show F65 869 12 = some 878 by rw [eF65, mset_j (by decide)]; rw [eF63, mset_j (by decide)]; rw [eF60, mset_j (by decide)]; rw [eF58, mset_j (by decide)]; rw [eF56, mset_j (by decide)]; rw [eF54, mset_j (by decide)]; rw [eF52, mset_j (by decide)]; rw [eF50, mset_j (by decide)]; rw [eF48, mset_j (by decide)]; rw [eF46, mset_j (by decide)]; rw [eF44, mset_j (by decide)]; rw [eF42, mset_j (by decide)]; rw [eF40, mset_j (by decide)]; rw [eF38, mset_j (by decide)]; rw [eF36, mset_j (by decide)]; rw [eF34, mset_j (by decide)]; rw [eF32, mset_j (by decide)]; rw [eF30, mset_j (by decide)]; rw [eF28, mset_j (by decide)]; rw [eF26, mset_j (by decide)]; rw [eF24, mset_j (by decide)]; rw [eF22, mset_j (by decide)]; rw [eF20, mset_j (by decide)]; rw [eF18]; exact mset_s).trans ff_869_12.symm
    | 13, _, _ => exact (show F65 869 13 = some 879 by rw [eF65, mset_j (by decide)]; rw [eF63, mset_j (by decide)]; rw [eF60, mset_j (by decide)]; rw [eF58, mset_j (by decide)]; rw [eF56, mset_j (by decide)]; rw [eF54, mset_j (by decide)]; rw [eF52, mset_j (by decide)]; rw [eF50, mset_j (by decide)]; rw [eF48, mset_j (by decide)]; rw [eF46, mset_j (by decide)]; rw [eF44, mset_j (by decide)]; rw [eF42, mset_j (by decide)]; rw [eF40, mset_j (by decide)]; rw [eF38, mset_j (by decide)]; rw [eF36, mset_j (by decide)]; rw [eF34, mset_j (by decide)]; rw [eF32, mset_j (by decide)]; rw [eF30, mset_j (by decide)]; rw [eF28, mset_j (by decide)]; rw [eF26, mset_j (by decide)]; rw [eF24, mset_j (by decide)]; rw [eF22, mset_j (by decide)]; rw [eF20]; exact mset_s).trans ff_869_13.symm
    | 14, _, _ => exact (show F65 869 14 = some 880 by rw [eF65, mset_j (by decide)]; rw [eF63, mset_j (by decide)]; rw [eF60, mset_j (by decide)]; rw [eF58, mset_j (by decide)]; rw [eF56, mset_j (by decide)]; rw [eF54, mset_j (by decide)]; rw [eF52, mset_j (by decide)]; rw [eF50, mset_j (by decide)]; rw [eF48, mset_j (by decide)]; rw [eF46, mset_j (by decide)]; rw [eF44, mset_j (by decide)]; rw [eF42, mset_j (by decide)]; rw [eF40, mset_j (by decide)]; rw [eF38, mset_j (by decide)]; rw [eF36, mset_j (by decide)]; rw [eF34, mset_j (by decide)]; rw [eF32, mset_j (by decide)]; rw [eF30, mset_j (by decide)]; rw [eF28, mset_j (by decide)]; rw [eF26, mset_j (by decide)]; rw [eF24, mset_j (by decide)]; rw [eF22]; exact mset_s).trans ff_869_14.symm
    | 15, _, _ => exact (show F65 869 15 = some 881 by rw [eF65, mset_j (by decide)]; rw [eF63, mset_j (by decide)]; rw [eF60, mset_j (by decide)]; rw [eF58, mset_j (by decide)]; rw [eF56, mset_j (by decide)]; rw [eF54, mset_j (by decide)]; rw [eF52, mset_j (by decide)]; rw [eF50, mset_j (by decide)]; rw [eF48, mset_j (by decide)]; rw [eF46, mset_j (by decide)]; rw [eF44, mset_j (by decide)]; rw [eF42, mset_j (by decide)]; rw [eF40, mset_j (by decide)]; rw [eF38, mset_j (by decide)]; rw [eF36, mset_j (by decide)]; rw [eF34, mset_j (by decide)]; rw [eF32, mset_j (by decide)]; rw [eF30, mset_j (by decide)]; rw [eF28, mset_j (by decide)]; rw [eF26, mset_j (by decide)]; rw [eF24]; exact mset_s).trans ff_869_15.symm
    | 16, _, _ => exact (show F65 869 16 = some 882 by rw [eF65, mset_j (by decide)]; rw [eF63, mset_j (by decide)]; rw [eF60, mset_j (by decide)]; rw [eF58, mset_j (by decide)]; rw [eF56, mset_j (by decide)]; rw [eF54, mset_j (by decide)]; rw [eF52, mset_j (by decide)]; rw [eF50, mset_j (by decide)]; rw [eF48, mset_j (by decide)]; rw [eF46, mset_j (by decide)]; rw [eF44, mset_j (by decide)]; rw [eF42, mset_j (by decide)]; rw [eF40, mset_j (by decide)]; rw [eF38, mset_j (by decide)]; rw [eF36, mset_j (by decide)]; rw [eF34, mset_j (by decide)]; rw [eF32, mset_j (by decide)]; rw [eF30, mset_j (by decide)]; rw [eF28, mset_j (by decide)]; rw [eF26]; exact mset_s).trans ff_869_16.symm
    | 17, _, _ => exact (show F65 869 17 = some 883 by rw [eF65, mset_j (by decide)]; rw [eF63, mset_j (by decide)]; rw [eF60, mset_j (by decide)]; rw [eF58, mset_j (by decide)]; rw [eF56, mset_j (by decide)]; rw [eF54, mset_j (by decide)]; rw [eF52, mset_j (by decide)]; rw [eF50, mset_j (by decide)]; rw [eF48, mset_j (by decide)]; rw [eF46, mset_j (by decide)]; rw [eF44, mset_j (by decide)]; rw [eF42, mset_j (by decide)]; rw [eF40, mset_j (by decide)]; rw [eF38, mset_j (by decide)]; rw [eF36, mset_j (by decide)]; rw [eF34, mset_j (by decide)]; rw [eF32, mset_j (by decide)]; rw [eF30, mset_j (by decide)]; rw [eF28]; exact mset_s).trans ff_869_17.symm
    | 18, _, _ => exact (show F65 869 18 = some 884 by rw [eF65, mset_j (by decide)]; rw [eF63, mset_j (by decide)]; rw [eF60, mset_j (by decide)]; rw [eF58, mset_j (by decide)]; rw [eF56, mset_j (by decide)]; rw [eF54, mset_j (by decide)]; rw [eF52, mset_j (by decide)]; rw [eF50, mset_j (by decide)]; rw [eF48, mset_j (by decide)]; rw [eF46, mset_j (by decide)]; rw [eF44, mset_j (by decide)]; rw [eF42, mset_j (by decide)]; rw [eF40, mset_j (by decide)]; rw [eF38, mset_j (by decide)]; rw [eF36, mset_j (by decide)]; rw [eF34, mset_j (by decide)]; rw [eF32, mset_j (by decide)]; rw [eF30]; exact mset_s).trans ff_869_18.symm
    | 19, _, _ => exact (show F65 869 19 = some 885 by rw [eF65, mset_j (by decide)]; rw [eF63, mset_j (by decide)]; rw [eF60, mset_j (by decide)]; rw [eF58, mset_j (by decide)]; rw [eF56, mset_j (by decide)]; rw [eF54, mset_j (by decide)]; rw [eF52, mset_j (by decide)]; rw [eF50, mset_j (by decide)]; rw [eF48, mset_j (by decide)]; rw [eF46, mset_j (by decide)]; rw [eF44, mset_j (by decide)]; rw [eF42, mset_j (by decide)]; rw [eF40, mset_j (by decide)]; rw [eF38, mset_j (by decide)]; rw [eF36, mset_j (by decide)]; rw [eF34, mset_j (by decide)]; rw [eF32]; exact mset_s).trans ff_869_19.symm
    | 20, _, _ => exact (show F65 869 20 = some 886 by rw [eF65, mset_j (by decide)]; rw [eF63, mset_j (by decide)]; rw [eF60, mset_j (by decide)]; rw [eF58, mset_j (by decide)]; rw [eF56, mset_j (by decide)]; rw [eF54, mset_j (by decide)]; rw [eF52, mset_j (by decide)]; rw [eF50, mset_j (by decide)]; rw [eF48, mset_j (by decide)]; rw [eF46, mset_j (by decide)]; rw [eF44, mset_j (by decide)]; rw [eF42, mset_j (by decide)]; rw [eF40, mset_j (by decide)]; rw [eF38, mset_j (by decide)]; rw [eF36, mset_j (by decide)]; rw [eF34]; exact mset_s).trans ff_869_20.symm
    | 21, _, _ => exact (show F65 869 21 = some 887 by rw [eF65, mset_j (by decide)]; rw [eF63, mset_j (by decide)]; rw [eF60, mset_j (by decide)]; rw [eF58, mset_j (by decide)]; rw [eF56, mset_j (by decide)]; rw [eF54, mset_j (by decide)]; rw [eF52, mset_j (by decide)]; rw [eF50, mset_j (by decide)]; rw [eF48, mset_j (by decide)]; rw [eF46, mset_j (by decide)]; rw [eF44, mset_j (by decide)]; rw [eF42, mset_j (by decide)]; rw [eF40, mset_j (by decide)]; rw [eF38, mset_j (by decide)]; rw [eF36]; exact mset_s).trans ff_869_21.symm
    | 22, _, _ => exact (show F65 869 22 = some 888 by rw [eF65, mset_j (by decide)]; rw [eF63, mset_j (by decide)]; rw [eF60, mset_j (by decide)]; rw [eF58, mset_j (by decide)]; rw [eF56, mset_j (by decide)]; rw [eF54, mset_j (by decide)]; rw [eF52, mset_j (by decide)]; rw [eF50, mset_j (by decide)]; rw [eF48, mset_j (by decide)]; rw [eF46, mset_j (by decide)]; rw [eF44, mset_j (by decide)]; rw [eF42, mset_j (by decide)]; rw [eF40, mset_j (by decide)]; rw [eF38]; exact mset_s).trans ff_869_22.symm
    | 23, _, _ => exact (show F65 869 23 = some 889 by rw [eF65, mset_j (by decide)]; rw [eF63, mset_j (by decide)]; rw [eF60, mset_j (by decide)]; rw [eF58, mset_j (by decide)]; rw [eF56, mset_j (by decide)]; rw [eF54, mset_j (by decide)]; rw [eF52, mset_j (by decide)]; rw [eF50, mset_j (by decide)]; rw [eF48, mset_j (by decide)]; rw [eF46, mset_j (by decide)]; rw [eF44, mset_j (by decide)]; rw [eF42, mset_j (by decide)]; rw [eF40]; exact mset_s).trans ff_869_23.symm
    | 24, _, _ => exact (show F65 869 24 = some 890 by rw [eF65, mset_j (by decide)]; rw [eF63, mset_j (by decide)]; rw [eF60, mset_j (by decide)]; rw [eF58, mset_j (by decide)]; rw [eF56, mset_j (by decide)]; rw [eF54, mset_j (by decide)]; rw [eF52, mset_j (by decide)]; rw [eF50, mset_j (by decide)]; rw [eF48, mset_j (by decide)]; rw [eF46, mset_j (by decide)]; rw [eF44, mset_j (by decide)]; rw [eF42]; exact mset_s).trans ff_869_24.symm
    | 25, _, _ => exact (show F65 869 25 = some 891 by rw [eF65, mset_j (by decide)]; rw [eF63, mset_j (by decide)]; rw [eF60, mset_j (by decide)]; rw [eF58, mset_j (by decide)]; rw [eF56, mset_j (by decide)]; rw [eF54, mset_j (by decide)]; rw [eF52, mset_j (by decide)]; rw [eF50, mset_j (by decide)]; rw [eF48, mset_j (by decide)]; rw [eF46, mset_j (by decide)]; rw [eF44]; exact mset_s).trans ff_869_25.symm
    | 26, _, hn => exact absurd hn (by decide)
    | 27, _, _ => exact (show F65 869 27 = some 892 by rw [eF65, mset_j (by decide)]; rw [eF63, mset_j (by decide)]; rw [eF60, mset_j (by decide)]; rw [eF58, mset_j (by decide)]; rw [eF56, mset_j (by decide)]; rw [eF54, mset_j (by decide)]; rw [eF52, mset_j (by decide)]; rw [eF50, mset_j (by decide)]; rw [eF48, mset_j (by decide)]; rw [eF46]; exact mset_s).trans ff_869_27.symm
    | 28, _, _ => exact (show F65 869 28 = some 893 by rw [eF65, mset_j (by decide)]; rw [eF63, mset_j (by decide)]; rw [eF60, mset_j (by decide)]; rw [eF58, mset_j (by decide)]; rw [eF56, mset_j (by decide)]; rw [eF54, mset_j (by decide)]; rw [eF52, mset_j (by decide)]; rw [eF50, mset_j (by decide)]; rw [eF48]; exact mset_s).trans ff_869_28.symm
    | 29, _, _ => exact (show F65 869 29 = some 894 by rw [eF65, mset_j (by decide)]; rw [eF63, mset_j (by decide)]; rw [eF60, mset_j (by decide)]; rw [eF58, mset_j (by decide)]; rw [eF56, mset_j (by decide)]; rw [eF54, mset_j (by decide)]; rw [eF52, mset_j (by decide)]; rw [eF50]; exact mset_s).trans ff_869_29.symm
    | 30, _, _ => exact (show F65 869 30 = some 895 by rw [eF65, mset_j (by decide)]; rw [eF63, mset_j (by decide)]; rw [eF60, mset_j (by decide)]; rw [eF58, mset_j (by decide)]; rw [eF56, mset_j (by decide)]; rw [eF54, mset_j (by decide)]; rw [eF52]; exact mset_s).trans ff_869_30.symm
    | 31, _, _ => exact (show F65 869 31 = some 896 by rw [eF65, mset_j (by decide)]; rw [eF63, mset_j (by decide)]; rw [eF60, mset_j (by decide)]; rw [eF58, mset_j (by decide)]; rw [eF56, mset_j (by decide)]; rw [eF54]; exact mset_s).trans ff_869_31.symm
    | 32, _, _ => exact (show F65 869 32 = some 897 by rw [eF65, mset_j (by decide)]; rw [eF63, mset_j (by decide)]; rw [eF60, mset_j (by decide)]; rw [eF58, mset_j (by decide)]; rw [eF56]; exact mset_s).trans ff_869_32.symm
    | 33, _, _ => exact (show F65 869 33 = some 898 by rw [eF65, mset_j (by decide)]; rw [eF63, mset_j (by decide)]; rw [eF60, mset_j (by decide)]; rw [eF58]; exact mset_s).trans ff_869_33.symm
    | 34, _, _ => exact (show F65 869 34 = some 899 by rw [eF65, mset_j (by decide)]; rw [eF63, mset_j (by decide)]; rw [eF60]; exact mset_s).trans ff_869_34.symm
    | 35, _, hn => exact absurd hn (by decide)
    | 36, _, hn => exact absurd hn (by decide)
    | 37, _, hn => exact absurd hn (by decide)
    | 38, _, hn => exact absurd hn (by decide)
    | 39, _, hn => exact absurd hn (by decide)
    | 40, _, hn => exact absurd hn (by decide)
    | 41, _, _ => exact (show F65 869 41 = some 900 by rw [eF65, mset_j (by decide)]; rw [eF63]; exact mset_s).trans ff_869_41.symm
    | 42, _, _ => exact (show F65 869 42 = some 901 by rw [eF65]; exact mset_s).trans ff_869_42.symm
    | n + 43, hj, _ => exact absurd hj (by show ¬ n + 43 < 43; omega)
set_option maxHeartbeats 8000000 in
set_option maxRecDepth 100000 in
theorem gX18_init {fu : Nat} {F : mwF} {M : mwM} {L : mwL} {FZ : mwF} {MZ : mwM} {LZ : mwL} (hD : DX18_init fu F M L = some (FZ, MZ, LZ)) : ∀ o ∈ [0], cpx FZ (902 + o) := by
  unfold DX18_init at hD
  obtain ⟨M1, eM1, hD⟩ := g_let hD
  obtain ⟨F2, eF2, hD⟩ := g_let hD
  obtain ⟨M3, eM3, hD⟩ := g_let hD
  obtain ⟨F4, eF4, hD⟩ := g_let hD
  obtain ⟨M5, eM5, hD⟩ := g_let hD
  obtain ⟨F6, eF6, hD⟩ := g_let hD
  obtain ⟨M7, eM7, hD⟩ := g_let hD
  obtain ⟨F8, eF8, hD⟩ := g_let hD
  obtain ⟨M9, eM9, hD⟩ := g_let hD
  obtain ⟨F10, eF10, hD⟩ := g_let hD
  obtain ⟨M11, eM11, hD⟩ := g_let hD
  obtain ⟨F12, eF12, hD⟩ := g_let hD
  obtain ⟨M13, eM13, hD⟩ := g_let hD
  obtain ⟨F14, eF14, hD⟩ := g_let hD
  obtain ⟨M15, eM15, hD⟩ := g_let hD
  obtain ⟨F16, eF16, hD⟩ := g_let hD
  obtain ⟨M17, eM17, hD⟩ := g_let hD
  obtain ⟨F18, eF18, hD⟩ := g_let hD
  obtain ⟨M19, eM19, hD⟩ := g_let hD
  obtain ⟨F20, eF20, hD⟩ := g_let hD
  obtain ⟨M21, eM21, hD⟩ := g_let hD
  obtain ⟨F22, eF22, hD⟩ := g_let hD
  obtain ⟨M23, eM23, hD⟩ := g_let hD
  obtain ⟨F24, eF24, hD⟩ := g_let hD
  obtain ⟨M25, eM25, hD⟩ := g_let hD
  obtain ⟨F26, eF26, hD⟩ := g_let hD
  obtain ⟨M27, eM27, hD⟩ := g_let hD
  obtain ⟨F28, eF28, hD⟩ := g_let hD
  obtain ⟨M29, eM29, hD⟩ := g_let hD
  obtain ⟨F30, eF30, hD⟩ := g_let hD
  obtain ⟨M31, eM31, hD⟩ := g_let hD
  obtain ⟨F32, eF32, hD⟩ := g_let hD
  obtain ⟨M33, eM33, hD⟩ := g_let hD
  obtain ⟨F34, eF34, hD⟩ := g_let hD
  obtain ⟨M35, eM35, hD⟩ := g_let hD
  obtain ⟨F36, eF36, hD⟩ := g_let hD
  have hf : F36 = FZ := by
    have hf := congrArg (fun q => q.1) (Option.some.inj hD)
    exact hf
  rw [← hf]
  refine List.forall_mem_cons.mpr ⟨?_, fun _ h => absurd h List.not_mem_nil⟩
  · show cpx F36 902
    intro j hj hn
    rw [need_O tf_902] at hn
    rw [show (TF _).2 = _ from congrArg Prod.snd tf_902] at hj
    match j, hj, hn with
    | 0, _, hn => exact absurd hn (by decide)
    | 1, _, hn => exact absurd hn (by decide)
    | 2, _, hn => exact absurd hn (by decide)
    | 3, _, _ => exact (show F36 902 3 = some 903 by rw [eF36, mset_j (by decide)]; rw [eF34, mset_j (by decide)]; rw [eF32, mset_j (by decide)]; rw [eF30, mset_j (by decide)]; rw [eF28, mset_j (by decide)]; rw [eF26, mset_j (by decide)]; rw [eF24, mset_j (by decide)]; rw [eF22, mset_j (by decide)]; rw [eF20, mset_j (by decide)]; rw [eF18, mset_j (by decide)]; rw [eF16, mset_j (by decide)]; rw [eF14, mset_j (by decide)]; rw [eF12, mset_j (by decide)]; rw [eF10, mset_j (by decide)]; rw [eF8, mset_j (by decide)]; rw [eF6, mset_j (by decide)]; rw [eF4, mset_j (by decide)]; rw [eF2]; exact mset_s).trans ff_902_3.symm
    | 4, _, _ => exact (show F36 902 4 = some 904 by rw [eF36, mset_j (by decide)]; rw [eF34, mset_j (by decide)]; rw [eF32, mset_j (by decide)]; rw [eF30, mset_j (by decide)]; rw [eF28, mset_j (by decide)]; rw [eF26, mset_j (by decide)]; rw [eF24, mset_j (by decide)]; rw [eF22, mset_j (by decide)]; rw [eF20, mset_j (by decide)]; rw [eF18, mset_j (by decide)]; rw [eF16, mset_j (by decide)]; rw [eF14, mset_j (by decide)]; rw [eF12, mset_j (by decide)]; rw [eF10, mset_j (by decide)]; rw [eF8, mset_j (by decide)]; rw [eF6, mset_j (by decide)]; rw [eF4]; exact mset_s).trans ff_902_4.symm
    | 5, _, _ => exact (show F36 902 5 = some 905 by rw [eF36, mset_j (by decide)]; rw [eF34, mset_j (by decide)]; rw [eF32, mset_j (by decide)]; rw [eF30, mset_j (by decide)]; rw [eF28, mset_j (by decide)]; rw [eF26, mset_j (by decide)]; rw [eF24, mset_j (by decide)]; rw [eF22, mset_j (by decide)]; rw [eF20, mset_j (by decide)]; rw [eF18, mset_j (by decide)]; rw [eF16, mset_j (by decide)]; rw [eF14, mset_j (by decide)]; rw [eF12, mset_j (by decide)]; rw [eF10, mset_j (by decide)]; rw [eF8, mset_j (by decide)]; rw [eF6]; exact mset_s).trans ff_902_5.symm
    | 6, _, _ => exact (show F36 902 6 = some 906 by rw [eF36, mset_j (by decide)]; rw [eF34, mset_j (by decide)]; rw [eF32, mset_j (by decide)]; rw [eF30, mset_j (by decide)]; rw [eF28, mset_j (by decide)]; rw [eF26, mset_j (by decide)]; rw [eF24, mset_j (by decide)]; rw [eF22, mset_j (by decide)]; rw [eF20, mset_j (by decide)]; rw [eF18, mset_j (by decide)]; rw [eF16, mset_j (by decide)]; rw [eF14, mset_j (by decide)]; rw [eF12, mset_j (by decide)]; rw [eF10, mset_j (by decide)]; rw [eF8]; exact mset_s).trans ff_902_6.symm
    | 7, _, _ => exact (show F36 902 7 = some 907 by rw [eF36, mset_j (by decide)]; rw [eF34, mset_j (by decide)]; rw [eF32, mset_j (by decide)]; rw [eF30, mset_j (by decide)]; rw [eF28, mset_j (by decide)]; rw [eF26, mset_j (by decide)]; rw [eF24, mset_j (by decide)]; rw [eF22, mset_j (by decide)]; rw [eF20, mset_j (by decide)]; rw [eF18, mset_j (by decide)]; rw [eF16, mset_j (by decide)]; rw [eF14, mset_j (by decide)]; rw [eF12, mset_j (by decide)]; rw [eF10]; exact mset_s).trans ff_902_7.symm
    | 8, _, _ => exact (show F36 902 8 = some 908 by rw [eF36, mset_j (by decide)]; rw [eF34, mset_j (by decide)]; rw [eF32, mset_j (by decide)]; rw [eF30, mset_j (by decide)]; rw [eF28, mset_j (by decide)]; rw [eF26, mset_j (by decide)]; rw [eF24, mset_j (by decide)]; rw [eF22, mset_j (by decide)]; rw [eF20, mset_j (by decide)]; rw [eF18, mset_j (by decide)]; rw [eF16, mset_j (by decide)]; rw [eF14, mset_j (by decide)]; rw [eF12]; exact mset_s).trans ff_902_8.symm
    | 9, _, _ => exact (show F36 902 9 = some 909 by rw [eF36, mset_j (by decide)]; rw [eF34, mset_j (by decide)]; rw [eF32, mset_j (by decide)]; rw [eF30, mset_j (by decide)]; rw [eF28, mset_j (by decide)]; rw [eF26, mset_j (by decide)]; rw [eF24, mset_j (by decide)]; rw [eF22, mset_j (by decide)]; rw [eF20, mset_j (by decide)]; rw [eF18, mset_j (by decide)]; rw [eF16, mset_j (by decide)]; rw [eF14]; exact mset_s).trans ff_902_9.symm
    | 10, _, _ => exact (show F36 902 10 = some 910 by rw [eF36, mset_j (by decide)]; rw [eF34, mset_j (by decide)]; rw [eF32, mset_j (by decide)]; rw [eF30, mset_j (by decide)]; rw [eF28, mset_j (by decide)]; rw [eF26, mset_j (by decide)]; rw [eF24, mset_j (by decide)]; rw [eF22, mset_j (by decide)]; rw [eF20, mset_j (by decide)]; rw [eF18, mset_j (by decide)]; rw [eF16]; exact mset_s).trans ff_902_10.symm
    | 11, _, _ => exact (show F36 902 11 = some 911 by rw [eF36, mset_j (by decide)]; rw [eF34, mset_j (by decide)]; rw [eF32, mset_j (by decide)]; rw [eF30, mset_j (by decide)]; rw [eF28, mset_j (by decide)]; rw [eF26, mset_j (by decide)]; rw [eF24, mset_j (by decide)]; rw [eF22, mset_j (by decide)]; rw [eF20, mset_j (by decide)]; rw [eF18]; exact mset_s).trans ff_902_11.symm
    | 12, _, _ => exact (show F36 902 12 = some 912 by rw [eF36, mset_j (by decide)]; rw [eF34, mset_j (by decide)]; rw [eF32, mset_j (by decide)]; rw [eF30, mset_j (by decide)]; rw [eF28, mset_j (by decide)]; rw [eF26, mset_j (by decide)]; rw [eF24, mset_j (by decide)]; rw [eF22, mset_j (by decide)]; rw [eF20]; exact mset_s).trans ff_902_12.symm
    | 13, _, _ => exact (show F36 902 13 = some 913 by rw [eF36, mset_j (by decide)]; rw [eF34, mset_j (by decide)]; rw [eF32, mset_j (by decide)]; rw [eF30, mset_j (by decide)]; rw [eF28, mset_j (by decide)]; rw [eF26, mset_j (by decide)]; rw [eF24, mset_j (by decide)]; rw [eF22]; exact mset_s).trans ff_902_13.symm
    | 14, _, _ => exact (show F36 902 14 = some 914 by rw [eF36, mset_j (by decide)]; rw [eF34, mset_j (by decide)]; rw [eF32, mset_j (by decide)]; rw [eF30, mset_j (by decide)]; rw [eF28, mset_j (by decide)]; rw [eF26, mset_j (by decide)]; rw [eF24]; exact mset_s).trans ff_902_14.symm
    | 15, _, _ => exact (show F36 902 15 = some 915 by rw [eF36, mset_j (by decide)]; rw [eF34, mset_j (by decide)]; rw [eF32, mset_j (by decide)]; rw [eF30, mset_j (by decide)]; rw [eF28, mset_j (by decide)]; rw [eF26]; exact mset_s).trans ff_902_15.symm
    | 16, _, _ => exact (show F36 902 16 = some 916 by rw [eF36, mset_j (by decide)]; rw [eF34, mset_j (by decide)]; rw [eF32, mset_j (by decide)]; rw [eF30, mset_j (by decide)]; rw [eF28]; exact mset_s).trans ff_902_16.symm
    | 17, _, _ => exact (show F36 902 17 = some 917 by rw [eF36, mset_j (by decide)]; rw [eF34, mset_j (by decide)]; rw [eF32, mset_j (by decide)]; rw [eF30]; exact mset_s).trans ff_902_17.symm
    | 18, _, _ => exact (show F36 902 18 = some 918 by rw [eF36, mset_j (by decide)]; rw [eF34, mset_j (by decide)]; rw [eF32]; exact mset_s).trans ff_902_18.symm
    | 19, _, hn => exact absurd hn (by decide)
    | 20, _, hn => exact absurd hn (by decide)
    | 21, _, _ => exact (show F36 902 21 = some 919 by rw [eF36, mset_j (by decide)]; rw [eF34]; exact mset_s).trans ff_902_21.symm
    | 22, _, _ => exact (show F36 902 22 = some 920 by rw [eF36]; exact mset_s).trans ff_902_22.symm
    | 23, _, hn => exact absurd hn (by decide)
    | 24, _, hn => exact absurd hn (by decide)
    | 25, _, hn => exact absurd hn (by decide)
    | n + 26, hj, _ => exact absurd hj (by show ¬ n + 26 < 26; omega)
set_option maxHeartbeats 8000000 in
set_option maxRecDepth 100000 in
theorem gX16_init {fu : Nat} {k : Nat} {F : mwF} {M : mwM} {L : mwL} {FZ : mwF} {MZ : mwM} {LZ : mwL} (hk0 : isMp k) (hD : DX16_init fu k F M L = some (FZ, MZ, LZ)) : ∀ o ∈ [0], cpx FZ (k + o) := by
  unfold DX16_init at hD
  obtain ⟨M1, eM1, hD⟩ := g_let hD
  obtain ⟨F2, eF2, hD⟩ := g_let hD
  obtain ⟨M3, eM3, hD⟩ := g_let hD
  obtain ⟨F4, eF4, hD⟩ := g_let hD
  obtain ⟨M5, eM5, hD⟩ := g_let hD
  obtain ⟨F6, eF6, hD⟩ := g_let hD
  obtain ⟨M7, eM7, hD⟩ := g_let hD
  obtain ⟨F8, eF8, hD⟩ := g_let hD
  obtain ⟨M9, eM9, hD⟩ := g_let hD
  obtain ⟨F10, eF10, hD⟩ := g_let hD
  obtain ⟨M11, eM11, hD⟩ := g_let hD
  obtain ⟨F12, eF12, hD⟩ := g_let hD
  obtain ⟨M13, eM13, hD⟩ := g_let hD
  obtain ⟨F14, eF14, hD⟩ := g_let hD
  obtain ⟨M15, eM15, hD⟩ := g_let hD
  obtain ⟨F16, eF16, hD⟩ := g_let hD
  obtain ⟨M17, eM17, hD⟩ := g_let hD
  obtain ⟨F18, eF18, hD⟩ := g_let hD
  obtain ⟨M19, eM19, hD⟩ := g_let hD
  obtain ⟨F20, eF20, hD⟩ := g_let hD
  obtain ⟨M21, eM21, hD⟩ := g_let hD
  obtain ⟨F22, eF22, hD⟩ := g_let hD
  obtain ⟨M23, eM23, hD⟩ := g_let hD
  obtain ⟨F24, eF24, hD⟩ := g_let hD
  obtain ⟨M25, eM25, hD⟩ := g_let hD
  obtain ⟨F26, eF26, hD⟩ := g_let hD
  obtain ⟨M27, eM27, hD⟩ := g_let hD
  obtain ⟨F28, eF28, hD⟩ := g_let hD
  obtain ⟨M29, eM29, hD⟩ := g_let hD
  obtain ⟨F30, eF30, hD⟩ := g_let hD
  obtain ⟨M31, eM31, hD⟩ := g_let hD
  obtain ⟨F32, eF32, hD⟩ := g_let hD
  obtain ⟨M33, eM33, hD⟩ := g_let hD
  obtain ⟨F34, eF34, hD⟩ := g_let hD
  obtain ⟨M35, eM35, hD⟩ := g_let hD
  obtain ⟨F36, eF36, hD⟩ := g_let hD
  obtain ⟨M37, eM37, hD⟩ := g_let hD
  obtain ⟨F38, eF38, hD⟩ := g_let hD
  obtain ⟨M39, eM39, hD⟩ := g_let hD
  obtain ⟨F40, eF40, hD⟩ := g_let hD
  obtain ⟨M41, eM41, hD⟩ := g_let hD
  obtain ⟨F42, eF42, hD⟩ := g_let hD
  obtain ⟨M43, eM43, hD⟩ := g_let hD
  obtain ⟨F44, eF44, hD⟩ := g_let hD
  have hf : F44 = FZ := by
    have hf := congrArg (fun q => q.1) (Option.some.inj hD)
    exact hf
  rw [← hf]
  refine List.forall_mem_cons.mpr ⟨?_, fun _ h => absurd h List.not_mem_nil⟩
  · intro j hj hn
    rw [need_O (Mp_T0 hk0)] at hn
    rw [show (TF _).2 = _ from congrArg Prod.snd (Mp_T0 hk0)] at hj
    match j, hj, hn with
    | 0, _, hn => exact absurd hn (by decide)
    | 1, _, hn => exact absurd hn (by decide)
    | 2, _, hn => exact absurd hn (by decide)
    | 3, _, _ => exact (show F44 k 3 = some (k + 1) by rw [eF44, mset_j (by decide)]; rw [eF42, mset_j (by decide)]; rw [eF40, mset_j (by decide)]; rw [eF38, mset_j (by decide)]; rw [eF36, mset_j (by decide)]; rw [eF34, mset_j (by decide)]; rw [eF32, mset_j (by decide)]; rw [eF30, mset_j (by decide)]; rw [eF28, mset_j (by decide)]; rw [eF26, mset_j (by decide)]; rw [eF24, mset_j (by decide)]; rw [eF22, mset_j (by decide)]; rw [eF20, mset_j (by decide)]; rw [eF18, mset_j (by decide)]; rw [eF16, mset_j (by decide)]; rw [eF14, mset_j (by decide)]; rw [eF12, mset_j (by decide)]; rw [eF10, mset_j (by decide)]; rw [eF8, mset_j (by decide)]; rw [eF6, mset_j (by decide)]; rw [eF4, mset_j (by decide)]; rw [eF2]; exact mset_s).trans (Mp_F0_3 hk0).symm
    | 4, _, _ => exact (show F44 k 4 = some (k + 2) by rw [eF44, mset_j (by decide)]; rw [eF42, mset_j (by decide)]; rw [eF40, mset_j (by decide)]; rw [eF38, mset_j (by decide)]; rw [eF36, mset_j (by decide)]; rw [eF34, mset_j (by decide)]; rw [eF32, mset_j (by decide)]; rw [eF30, mset_j (by decide)]; rw [eF28, mset_j (by decide)]; rw [eF26, mset_j (by decide)]; rw [eF24, mset_j (by decide)]; rw [eF22, mset_j (by decide)]; rw [eF20, mset_j (by decide)]; rw [eF18, mset_j (by decide)]; rw [eF16, mset_j (by decide)]; rw [eF14, mset_j (by decide)]; rw [eF12, mset_j (by decide)]; rw [eF10, mset_j (by decide)]; rw [eF8, mset_j (by decide)]; rw [eF6, mset_j (by decide)]; rw [eF4]; exact mset_s).trans (Mp_F0_4 hk0).symm
    | 5, _, _ => exact (show F44 k 5 = some (k + 3) by rw [eF44, mset_j (by decide)]; rw [eF42, mset_j (by decide)]; rw [eF40, mset_j (by decide)]; rw [eF38, mset_j (by decide)]; rw [eF36, mset_j (by decide)]; rw [eF34, mset_j (by decide)]; rw [eF32, mset_j (by decide)]; rw [eF30, mset_j (by decide)]; rw [eF28, mset_j (by decide)]; rw [eF26, mset_j (by decide)]; rw [eF24, mset_j (by decide)]; rw [eF22, mset_j (by decide)]; rw [eF20, mset_j (by decide)]; rw [eF18, mset_j (by decide)]; rw [eF16, mset_j (by decide)]; rw [eF14, mset_j (by decide)]; rw [eF12, mset_j (by decide)]; rw [eF10, mset_j (by decide)]; rw [eF8, mset_j (by decide)]; rw [eF6]; exact mset_s).trans (Mp_F0_5 hk0).symm
    | 6, _, _ => exact (show F44 k 6 = some (k + 4) by rw [eF44, mset_j (by decide)]; rw [eF42, mset_j (by decide)]; rw [eF40, mset_j (by decide)]; rw [eF38, mset_j (by decide)]; rw [eF36, mset_j (by decide)]; rw [eF34, mset_j (by decide)]; rw [eF32, mset_j (by decide)]; rw [eF30, mset_j (by decide)]; rw [eF28, mset_j (by decide)]; rw [eF26, mset_j (by decide)]; rw [eF24, mset_j (by decide)]; rw [eF22, mset_j (by decide)]; rw [eF20, mset_j (by decide)]; rw [eF18, mset_j (by decide)]; rw [eF16, mset_j (by decide)]; rw [eF14, mset_j (by decide)]; rw [eF12, mset_j (by decide)]; rw [eF10, mset_j (by decide)]; rw [eF8]; exact mset_s).trans (Mp_F0_6 hk0).symm
    | 7, _, _ => exact (show F44 k 7 = some (k + 5) by rw [eF44, mset_j (by decide)]; rw [eF42, mset_j (by decide)]; rw [eF40, mset_j (by decide)]; rw [eF38, mset_j (by decide)]; rw [eF36, mset_j (by decide)]; rw [eF34, mset_j (by decide)]; rw [eF32, mset_j (by decide)]; rw [eF30, mset_j (by decide)]; rw [eF28, mset_j (by decide)]; rw [eF26, mset_j (by decide)]; rw [eF24, mset_j (by decide)]; rw [eF22, mset_j (by decide)]; rw [eF20, mset_j (by decide)]; rw [eF18, mset_j (by decide)]; rw [eF16, mset_j (by decide)]; rw [eF14, mset_j (by decide)]; rw [eF12, mset_j (by decide)]; rw [eF10]; exact mset_s).trans (Mp_F0_7 hk0).symm
    | 8, _, _ => exact (show F44 k 8 = some (k + 6) by rw [eF44, mset_j (by decide)]; rw [eF42, mset_j (by decide)]; rw [eF40, mset_j (by decide)]; rw [eF38, mset_j (by decide)]; rw [eF36, mset_j (by decide)]; rw [eF34, mset_j (by decide)]; rw [eF32, mset_j (by decide)]; rw [eF30, mset_j (by decide)]; rw [eF28, mset_j (by decide)]; rw [eF26, mset_j (by decide)]; rw [eF24, mset_j (by decide)]; rw [eF22, mset_j (by decide)]; rw [eF20, mset_j (by decide)]; rw [eF18, mset_j (by decide)]; rw [eF16, mset_j (by decide)]; rw [eF14, mset_j (by decide)]; rw [eF12]; exact mset_s).trans (Mp_F0_8 hk0).symm
    | 9, _, _ => exact (show F44 k 9 = some (k + 7) by rw [eF44, mset_j (by decide)]; rw [eF42, mset_j (by decide)]; rw [eF40, mset_j (by decide)]; rw [eF38, mset_j (by decide)]; rw [eF36, mset_j (by decide)]; rw [eF34, mset_j (by decide)]; rw [eF32, mset_j (by decide)]; rw [eF30, mset_j (by decide)]; rw [eF28, mset_j (by decide)]; rw [eF26, mset_j (by decide)]; rw [eF24, mset_j (by decide)]; rw [eF22, mset_j (by decide)]; rw [eF20, mset_j (by decide)]; rw [eF18, mset_j (by decide)]; rw [eF16, mset_j (by decide)]; rw [eF14]; exact mset_s).trans (Mp_F0_9 hk0).symm
    | 10, _, _ => exact (show F44 k 10 = some (k + 8) by rw [eF44, mset_j (by decide)]; rw [eF42, mset_j (by decide)]; rw [eF40, mset_j (by decide)]; rw [eF38, mset_j (by decide)]; rw [eF36, mset_j (by decide)]; rw [eF34, mset_j (by decide)]; rw [eF32, mset_j (by decide)]; rw [eF30, mset_j (by decide)]; rw [eF28, mset_j (by decide)]; rw [eF26, mset_j (by decide)]; rw [eF24, mset_j (by decide)]; rw [eF22, mset_j (by decide)]; rw [eF20, mset_j (by decide)]; rw [eF18, mset_j (by decide)]; rw [eF16]; exact mset_s).trans (Mp_F0_10 hk0).symm
    | 11, _, _ => exact (show F44 k 11 = some (k + 9) by rw [eF44, mset_j (by decide)]; rw [eF42, mset_j (by decide)]; rw [eF40, mset_j (by decide)]; rw [eF38, mset_j (by decide)]; rw [eF36, mset_j (by decide)]; rw [eF34, mset_j (by decide)]; rw [eF32, mset_j (by decide)]; rw [eF30, mset_j (by decide)]; rw [eF28, mset_j (by decide)]; rw [eF26, mset_j (by decide)]; rw [eF24, mset_j (by decide)]; rw [eF22, mset_j (by decide)]; rw [eF20, mset_j (by decide)]; rw [eF18]; exact mset_s).trans (Mp_F0_11 hk0).symm
    | 12, _, _ => exact (show F44 k 12 = some (k + 10) by rw [eF44, mset_j (by decide)]; rw [eF42, mset_j (by decide)]; rw [eF40, mset_j (by decide)]; rw [eF38, mset_j (by decide)]; rw [eF36, mset_j (by decide)]; rw [eF34, mset_j (by decide)]; rw [eF32, mset_j (by decide)]; rw [eF30, mset_j (by decide)]; rw [eF28, mset_j (by decide)]; rw [eF26, mset_j (by decide)]; rw [eF24, mset_j (by decide)]; rw [eF22, mset_j (by decide)]; rw [eF20]; exact mset_s).trans (Mp_F0_12 hk0).symm
    | 13, _, _ => exact (show F44 k 13 = some (k + 11) by rw [eF44, mset_j (by decide)]; rw [eF42, mset_j (by decide)]; rw [eF40, mset_j (by decide)]; rw [eF38, mset_j (by decide)]; rw [eF36, mset_j (by decide)]; rw [eF34, mset_j (by decide)]; rw [eF32, mset_j (by decide)]; rw [eF30, mset_j (by decide)]; rw [eF28, mset_j (by decide)]; rw [eF26, mset_j (by decide)]; rw [eF24, mset_j (by decide)]; rw [eF22]; exact mset_s).trans (Mp_F0_13 hk0).symm
    | 14, _, hn => exact absurd hn (by decide)
    | 15, _, hn => exact absurd hn (by decide)
    | 16, _, _ => exact (show F44 k 16 = some (k + 12) by rw [eF44, mset_j (by decide)]; rw [eF42, mset_j (by decide)]; rw [eF40, mset_j (by decide)]; rw [eF38, mset_j (by decide)]; rw [eF36, mset_j (by decide)]; rw [eF34, mset_j (by decide)]; rw [eF32, mset_j (by decide)]; rw [eF30, mset_j (by decide)]; rw [eF28, mset_j (by decide)]; rw [eF26, mset_j (by decide)]; rw [eF24]; exact mset_s).trans (Mp_F0_16 hk0).symm
    | 17, _, _ => exact (show F44 k 17 = some (k + 13) by rw [eF44, mset_j (by decide)]; rw [eF42, mset_j (by decide)]; rw [eF40, mset_j (by decide)]; rw [eF38, mset_j (by decide)]; rw [eF36, mset_j (by decide)]; rw [eF34, mset_j (by decide)]; rw [eF32, mset_j (by decide)]; rw [eF30, mset_j (by decide)]; rw [eF28, mset_j (by decide)]; rw [eF26]; exact mset_s).trans (Mp_F0_17 hk0).symm
    | 18, _, _ => exact (show F44 k 18 = some (k + 14) by rw [eF44, mset_j (by decide)]; rw [eF42, mset_j (by decide)]; rw [eF40, mset_j (by decide)]; rw [eF38, mset_j (by decide)]; rw [eF36, mset_j (by decide)]; rw [eF34, mset_j (by decide)]; rw [eF32, mset_j (by decide)]; rw [eF30, mset_j (by decide)]; rw [eF28]; exact mset_s).trans (Mp_F0_18 hk0).symm
    | 19, _, _ => exact (show F44 k 19 = some (k + 15) by rw [eF44, mset_j (by decide)]; rw [eF42, mset_j (by decide)]; rw [eF40, mset_j (by decide)]; rw [eF38, mset_j (by decide)]; rw [eF36, mset_j (by decide)]; rw [eF34, mset_j (by decide)]; rw [eF32, mset_j (by decide)]; rw [eF30]; exact mset_s).trans (Mp_F0_19 hk0).symm
    | 20, _, _ => exact (show F44 k 20 = some (k + 16) by rw [eF44, mset_j (by decide)]; rw [eF42, mset_j (by decide)]; rw [eF40, mset_j (by decide)]; rw [eF38, mset_j (by decide)]; rw [eF36, mset_j (by decide)]; rw [eF34, mset_j (by decide)]; rw [eF32]; exact mset_s).trans (Mp_F0_20 hk0).symm
    | 21, _, _ => exact (show F44 k 21 = some (k + 17) by rw [eF44, mset_j (by decide)]; rw [eF42, mset_j (by decide)]; rw [eF40, mset_j (by decide)]; rw [eF38, mset_j (by decide)]; rw [eF36, mset_j (by decide)]; rw [eF34]; exact mset_s).trans (Mp_F0_21 hk0).symm
    | 22, _, _ => exact (show F44 k 22 = some (k + 18) by rw [eF44, mset_j (by decide)]; rw [eF42, mset_j (by decide)]; rw [eF40, mset_j (by decide)]; rw [eF38, mset_j (by decide)]; rw [eF36]; exact mset_s).trans (Mp_F0_22 hk0).symm
    | 23, _, _ => exact (show F44 k 23 = some (k + 19) by rw [eF44, mset_j (by decide)]; rw [eF42, mset_j (by decide)]; rw [eF40, mset_j (by decide)]; rw [eF38]; exact mset_s).trans (Mp_F0_23 hk0).symm
    | 24, _, _ => exact (show F44 k 24 = some (k + 20) by rw [eF44, mset_j (by decide)]; rw [eF42, mset_j (by decide)]; rw [eF40]; exact mset_s).trans (Mp_F0_24 hk0).symm
    | 25, _, _ => exact (show F44 k 25 = some (k + 21) by rw [eF44, mset_j (by decide)]; rw [eF42]; exact mset_s).trans (Mp_F0_25 hk0).symm
    | 26, _, _ => exact (show F44 k 26 = some (k + 22) by rw [eF44]; exact mset_s).trans (Mp_F0_26 hk0).symm
    | n + 27, hj, _ => exact absurd hj (by show ¬ n + 27 < 27; omega)
set_option maxHeartbeats 8000000 in
set_option maxRecDepth 100000 in
theorem gX13_init {fu : Nat} {k : Nat} {F : mwF} {M : mwM} {L : mwL} {FZ : mwF} {MZ : mwM} {LZ : mwL} (hk0 : isMc k) (hD : DX13_init fu k F M L = some (FZ, MZ, LZ)) : ∀ o ∈ [0], cpx FZ (k + o) := by
  unfold DX13_init at hD
  obtain ⟨M1, eM1, hD⟩ := g_let hD
  obtain ⟨F2, eF2, hD⟩ := g_let hD
  obtain ⟨M3, eM3, hD⟩ := g_let hD
  obtain ⟨F4, eF4, hD⟩ := g_let hD
  obtain ⟨M5, eM5, hD⟩ := g_let hD
  obtain ⟨F6, eF6, hD⟩ := g_let hD
  obtain ⟨M7, eM7, hD⟩ := g_let hD
  obtain ⟨F8, eF8, hD⟩ := g_let hD
  obtain ⟨L9, eL9, hD⟩ := g_let hD
  obtain ⟨F10, eF10, hD⟩ := g_let hD
  obtain ⟨L11, eL11, hD⟩ := g_let hD
  obtain ⟨F12, eF12, hD⟩ := g_let hD
  obtain ⟨M13, eM13, hD⟩ := g_let hD
  obtain ⟨F14, eF14, hD⟩ := g_let hD
  obtain ⟨M15, eM15, hD⟩ := g_let hD
  obtain ⟨F16, eF16, hD⟩ := g_let hD
  obtain ⟨M17, eM17, hD⟩ := g_let hD
  obtain ⟨F18, eF18, hD⟩ := g_let hD
  obtain ⟨M19, eM19, hD⟩ := g_let hD
  obtain ⟨F20, eF20, hD⟩ := g_let hD
  obtain ⟨M21, eM21, hD⟩ := g_let hD
  obtain ⟨F22, eF22, hD⟩ := g_let hD
  obtain ⟨M23, eM23, hD⟩ := g_let hD
  obtain ⟨F24, eF24, hD⟩ := g_let hD
  obtain ⟨M25, eM25, hD⟩ := g_let hD
  obtain ⟨F26, eF26, hD⟩ := g_let hD
  obtain ⟨M27, eM27, hD⟩ := g_let hD
  obtain ⟨F28, eF28, hD⟩ := g_let hD
  obtain ⟨M29, eM29, hD⟩ := g_let hD
  obtain ⟨F30, eF30, hD⟩ := g_let hD
  obtain ⟨M31, eM31, hD⟩ := g_let hD
  obtain ⟨F32, eF32, hD⟩ := g_let hD
  obtain ⟨M33, eM33, hD⟩ := g_let hD
  obtain ⟨F34, eF34, hD⟩ := g_let hD
  obtain ⟨M35, eM35, hD⟩ := g_let hD
  obtain ⟨F36, eF36, hD⟩ := g_let hD
  obtain ⟨M37, eM37, hD⟩ := g_let hD
  obtain ⟨F38, eF38, hD⟩ := g_let hD
  obtain ⟨L39, eL39, hD⟩ := g_let hD
  obtain ⟨F40, eF40, hD⟩ := g_let hD
  obtain ⟨L41, eL41, hD⟩ := g_let hD
  obtain ⟨F42, eF42, hD⟩ := g_let hD
  obtain ⟨M43, eM43, hD⟩ := g_let hD
  obtain ⟨F44, eF44, hD⟩ := g_let hD
  obtain ⟨M45, eM45, hD⟩ := g_let hD
  obtain ⟨F46, eF46, hD⟩ := g_let hD
  obtain ⟨M47, eM47, hD⟩ := g_let hD
  obtain ⟨F48, eF48, hD⟩ := g_let hD
  obtain ⟨M49, eM49, hD⟩ := g_let hD
  obtain ⟨F50, eF50, hD⟩ := g_let hD
  obtain ⟨M51, eM51, hD⟩ := g_let hD
  obtain ⟨F52, eF52, hD⟩ := g_let hD
  obtain ⟨M53, eM53, hD⟩ := g_let hD
  obtain ⟨F54, eF54, hD⟩ := g_let hD
  obtain ⟨M55, eM55, hD⟩ := g_let hD
  obtain ⟨F56, eF56, hD⟩ := g_let hD
  obtain ⟨M57, eM57, hD⟩ := g_let hD
  obtain ⟨F58, eF58, hD⟩ := g_let hD
  have hf : F58 = FZ := by
    have hf := congrArg (fun q => q.1) (Option.some.inj hD)
    exact hf
  rw [← hf]
  refine List.forall_mem_cons.mpr ⟨?_, fun _ h => absurd h List.not_mem_nil⟩
  · intro j hj hn
    rw [need_O (Mc_T0 hk0)] at hn
    rw [show (TF _).2 = _ from congrArg Prod.snd (Mc_T0 hk0)] at hj
    match j, hj, hn with
    | 0, _, hn => exact absurd hn (by decide)
    | 1, _, hn => exact absurd hn (by decide)
    | 2, _, hn => exact absurd hn (by decide)
    | 3, _, _ => exact (show F58 k 3 = some (k + 1) by rw [eF58, mset_j (by decide)]; rw [eF56, mset_j (by decide)]; rw [eF54, mset_j (by decide)]; rw [eF52, mset_j (by decide)]; rw [eF50, mset_j (by decide)]; rw [eF48, mset_j (by decide)]; rw [eF46, mset_j (by decide)]; rw [eF44, mset_j (by decide)]; rw [eF42, mset_j (by decide)]; rw [eF40, mset_j (by decide)]; rw [eF38, mset_j (by decide)]; rw [eF36, mset_j (by decide)]; rw [eF34, mset_j (by decide)]; rw [eF32, mset_j (by decide)]; rw [eF30, mset_j (by decide)]; rw [eF28, mset_j (by decide)]; rw [eF26, mset_j (by decide)]; rw [eF24, mset_j (by decide)]; rw [eF22, mset_j (by decide)]; rw [eF20, mset_j (by decide)]; rw [eF18, mset_j (by decide)]; rw [eF16, mset_j (by decide)]; rw [eF14, mset_j (by decide)]; rw [eF12, mset_j (by decide)]; rw [eF10, mset_j (by decide)]; rw [eF8, mset_j (by decide)]; rw [eF6, mset_j (by decide)]; rw [eF4, mset_j (by decide)]; rw [eF2]; exact mset_s).trans (Mc_F0_3 hk0).symm
    | 4, _, _ => exact (show F58 k 4 = some (k + 2) by rw [eF58, mset_j (by decide)]; rw [eF56, mset_j (by decide)]; rw [eF54, mset_j (by decide)]; rw [eF52, mset_j (by decide)]; rw [eF50, mset_j (by decide)]; rw [eF48, mset_j (by decide)]; rw [eF46, mset_j (by decide)]; rw [eF44, mset_j (by decide)]; rw [eF42, mset_j (by decide)]; rw [eF40, mset_j (by decide)]; rw [eF38, mset_j (by decide)]; rw [eF36, mset_j (by decide)]; rw [eF34, mset_j (by decide)]; rw [eF32, mset_j (by decide)]; rw [eF30, mset_j (by decide)]; rw [eF28, mset_j (by decide)]; rw [eF26, mset_j (by decide)]; rw [eF24, mset_j (by decide)]; rw [eF22, mset_j (by decide)]; rw [eF20, mset_j (by decide)]; rw [eF18, mset_j (by decide)]; rw [eF16, mset_j (by decide)]; rw [eF14, mset_j (by decide)]; rw [eF12, mset_j (by decide)]; rw [eF10, mset_j (by decide)]; rw [eF8, mset_j (by decide)]; rw [eF6, mset_j (by decide)]; rw [eF4]; exact mset_s).trans (Mc_F0_4 hk0).symm
    | 5, _, _ => exact (show F58 k 5 = some (k + 3) by rw [eF58, mset_j (by decide)]; rw [eF56, mset_j (by decide)]; rw [eF54, mset_j (by decide)]; rw [eF52, mset_j (by decide)]; rw [eF50, mset_j (by decide)]; rw [eF48, mset_j (by decide)]; rw [eF46, mset_j (by decide)]; rw [eF44, mset_j (by decide)]; rw [eF42, mset_j (by decide)]; rw [eF40, mset_j (by decide)]; rw [eF38, mset_j (by decide)]; rw [eF36, mset_j (by decide)]; rw [eF34, mset_j (by decide)]; rw [eF32, mset_j (by decide)]; rw [eF30, mset_j (by decide)]; rw [eF28, mset_j (by decide)]; rw [eF26, mset_j (by decide)]; rw [eF24, mset_j (by decide)]; rw [eF22, mset_j (by decide)]; rw [eF20, mset_j (by decide)]; rw [eF18, mset_j (by decide)]; rw [eF16, mset_j (by decide)]; rw [eF14, mset_j (by decide)]; rw [eF12, mset_j (by decide)]; rw [eF10, mset_j (by decide)]; rw [eF8, mset_j (by decide)]; rw [eF6]; exact mset_s).trans (Mc_F0_5 hk0).symm
    | 6, _, _ => exact (show F58 k 6 = some (k + 4) by rw [eF58, mset_j (by decide)]; rw [eF56, mset_j (by decide)]; rw [eF54, mset_j (by decide)]; rw [eF52, mset_j (by decide)]; rw [eF50, mset_j (by decide)]; rw [eF48, mset_j (by decide)]; rw [eF46, mset_j (by decide)]; rw [eF44, mset_j (by decide)]; rw [eF42, mset_j (by decide)]; rw [eF40, mset_j (by decide)]; rw [eF38, mset_j (by decide)]; rw [eF36, mset_j (by decide)]; rw [eF34, mset_j (by decide)]; rw [eF32, mset_j (by decide)]; rw [eF30, mset_j (by decide)]; rw [eF28, mset_j (by decide)]; rw [eF26, mset_j (by decide)]; rw [eF24, mset_j (by decide)]; rw [eF22, mset_j (by decide)]; rw [eF20, mset_j (by decide)]; rw [eF18, mset_j (by decide)]; rw [eF16, mset_j (by decide)]; rw [eF14, mset_j (by decide)]; rw [eF12, mset_j (by decide)]; rw [eF10, mset_j (by decide)]; rw [eF8]; exact mset_s).trans (Mc_F0_6 hk0).symm
    | 7, _, _ => exact (show F58 k 7 = some (k + 5) by rw [eF58, mset_j (by decide)]; rw [eF56, mset_j (by decide)]; rw [eF54, mset_j (by decide)]; rw [eF52, mset_j (by decide)]; rw [eF50, mset_j (by decide)]; rw [eF48, mset_j (by decide)]; rw [eF46, mset_j (by decide)]; rw [eF44, mset_j (by decide)]; rw [eF42, mset_j (by decide)]; rw [eF40, mset_j (by decide)]; rw [eF38, mset_j (by decide)]; rw [eF36, mset_j (by decide)]; rw [eF34, mset_j (by decide)]; rw [eF32, mset_j (by decide)]; rw [eF30, mset_j (by decide)]; rw [eF28, mset_j (by decide)]; rw [eF26, mset_j (by decide)]; rw [eF24, mset_j (by decide)]; rw [eF22, mset_j (by decide)]; rw [eF20, mset_j (by decide)]; rw [eF18, mset_j (by decide)]; rw [eF16, mset_j (by decide)]; rw [eF14, mset_j (by decide)]; rw [eF12, mset_j (by decide)]; rw [eF10]; exact mset_s).trans (Mc_F0_7 hk0).symm
    | 8, _, _ => exact (show F58 k 8 = some (k + 6) by rw [eF58, mset_j (by decide)]; rw [eF56, mset_j (by decide)]; rw [eF54, mset_j (by decide)]; rw [eF52, mset_j (by decide)]; rw [eF50, mset_j (by decide)]; rw [eF48, mset_j (by decide)]; rw [eF46, mset_j (by decide)]; rw [eF44, mset_j (by decide)]; rw [eF42, mset_j (by decide)]; rw [eF40, mset_j (by decide)]; rw [eF38, mset_j (by decide)]; rw [eF36, mset_j (by decide)]; rw [eF34, mset_j (by decide)]; rw [eF32, mset_j (by decide)]; rw [eF30, mset_j (by decide)]; rw [eF28, mset_j (by decide)]; rw [eF26, mset_j (by decide)]; rw [eF24, mset_j (by decide)]; rw [eF22, mset_j (by decide)]; rw [eF20, mset_j (by decide)]; rw [eF18, mset_j (by decide)]; rw [eF16, mset_j (by decide)]; rw [eF14, mset_j (by decide)]; rw [eF12]; exact mset_s).trans (Mc_F0_8 hk0).symm
    | 9, _, _ => exact (show F58 k 9 = some (k + 7) by rw [eF58, mset_j (by decide)]; rw [eF56, mset_j (by decide)]; rw [eF54, mset_j (by decide)]; rw [eF52, mset_j (by decide)]; rw [eF50, mset_j (by decide)]; rw [eF48, mset_j (by decide)]; rw [eF46, mset_j (by decide)]; rw [eF44, mset_j (by decide)]; rw [eF42, mset_j (by decide)]; rw [eF40, mset_j (by decide)]; rw [eF38, mset_j (by decide)]; rw [eF36, mset_j (by decide)]; rw [eF34, mset_j (by decide)]; rw [eF32, mset_j (by decide)]; rw [eF30, mset_j (by decide)]; rw [eF28, mset_j (by decide)]; rw [eF26, mset_j (by decide)]; rw [eF24, mset_j (by decide)]; rw [eF22, mset_j (by decide)]; rw [eF20, mset_j (by decide)]; rw [eF18, mset_j (by decide)]; rw [eF16, mset_j (by decide)]; rw [eF14]; exact mset_s).trans (Mc_F0_9 hk0).symm
    | 10, _, _ => exact (show F58 k 10 = some (k + 8) by rw [eF58, mset_j (by decide)]; rw [eF56, mset_j (by decide)]; rw [eF54, mset_j (by decide)]; rw [eF52, mset_j (by decide)]; rw [eF50, mset_j (by decide)]; rw [eF48, mset_j (by decide)]; rw [eF46, mset_j (by decide)]; rw [eF44, mset_j (by decide)]; rw [eF42, mset_j (by decide)]; rw [eF40, mset_j (by decide)]; rw [eF38, mset_j (by decide)]; rw [eF36, mset_j (by decide)]; rw [eF34, mset_j (by decide)]; rw [eF32, mset_j (by decide)]; rw [eF30, mset_j (by decide)]; rw [eF28, mset_j (by decide)]; rw [eF26, mset_j (by decide)]; rw [eF24, mset_j (by decide)]; rw [eF22, mset_j (by decide)]; rw [eF20, mset_j (by decide)]; rw [eF18, mset_j (by decide)]; rw [eF16]; exact mset_s).trans (Mc_F0_10 hk0).symm
    | 11, _, _ => exact (show F58 k 11 = some (k + 9) by rw [eF58, mset_j (by decide)]; rw [eF56, mset_j (by decide)]; rw [eF54, mset_j (by decide)]; rw [eF52, mset_j (by decide)]; rw [eF50, mset_j (by decide)]; rw [eF48, mset_j (by decide)]; rw [eF46, mset_j (by decide)]; rw [eF44, mset_j (by decide)]; rw [eF42, mset_j (by decide)]; rw [eF40, mset_j (by decide)]; rw [eF38, mset_j (by decide)]; rw [eF36, mset_j (by decide)]; rw [eF34, mset_j (by decide)]; rw [eF32, mset_j (by decide)]; rw [eF30, mset_j (by decide)]; rw [eF28, mset_j (by decide)]; rw [eF26, mset_j (by decide)]; rw [eF24, mset_j (by decide)]; rw [eF22, mset_j (by decide)]; rw [eF20, mset_j (by decide)]; rw [eF18]; exact mset_s).trans (Mc_F0_11 hk0).symm
    | 12, _, hn => exact absurd hn (by decide)
    | 13, _, _ => exact (show F58 k 13 = some (k + 10) by rw [eF58, mset_j (by decide)]; rw [eF56, mset_j (by decide)]; rw [eF54, mset_j (by decide)]; rw [eF52, mset_j (by decide)]; rw [eF50, mset_j (by decide)]; rw [eF48, mset_j (by decide)]; rw [eF46, mset_j (by decide)]; rw [eF44, mset_j (by decide)]; rw [eF42, mset_j (by decide)]; rw [eF40, mset_j (by decide)]; rw [eF38, mset_j (by decide)]; rw [eF36, mset_j (by decide)]; rw [eF34, mset_j (by decide)]; rw [eF32, mset_j (by decide)]; rw [eF30, mset_j (by decide)]; rw [eF28, mset_j (by decide)]; rw [eF26, mset_j (by decide)]; rw [eF24, mset_j (by decide)]; rw [eF22, mset_j (by decide)]; rw [eF20]; exact mset_s).trans (Mc_F0_13 hk0).symm
    | 14, _, _ => exact (show F58 k 14 = some (k + 11) by rw [eF58, mset_j (by decide)]; rw [eF56, mset_j (by decide)]; rw [eF54, mset_j (by decide)]; rw [eF52, mset_j (by decide)]; rw [eF50, mset_j (by decide)]; rw [eF48, mset_j (by decide)]; rw [eF46, mset_j (by decide)]; rw [eF44, mset_j (by decide)]; rw [eF42, mset_j (by decide)]; rw [eF40, mset_j (by decide)]; rw [eF38, mset_j (by decide)]; rw [eF36, mset_j (by decide)]; rw [eF34, mset_j (by decide)]; rw [eF32, mset_j (by decide)]; rw [eF30, mset_j (by decide)]; rw [eF28, mset_j (by decide)]; rw [eF26, mset_j (by decide)]; rw [eF24, mset_j (by decide)]; rw [eF22]; exact mset_s).trans (Mc_F0_14 hk0).symm
    | 15, _, _ => exact (show F58 k 15 = some (k + 12) by rw [eF58, mset_j (by decide)]; rw [eF56, mset_j (by decide)]; rw [eF54, mset_j (by decide)]; rw [eF52, mset_j (by decide)]; rw [eF50, mset_j (by decide)]; rw [eF48, mset_j (by decide)]; rw [eF46, mset_j (by decide)]; rw [eF44, mset_j (by decide)]; rw [eF42, mset_j (by decide)]; rw [eF40, mset_j (by decide)]; rw [eF38, mset_j (by decide)]; rw [eF36, mset_j (by decide)]; rw [eF34, mset_j (by decide)]; rw [eF32, mset_j (by decide)]; rw [eF30, mset_j (by decide)]; rw [eF28, mset_j (by decide)]; rw [eF26, mset_j (by decide)]; rw [eF24]; exact mset_s).trans (Mc_F0_15 hk0).symm
    | 16, _, _ => exact (show F58 k 16 = some (k + 13) by rw [eF58, mset_j (by decide)]; rw [eF56, mset_j (by decide)]; rw [eF54, mset_j (by decide)]; rw [eF52, mset_j (by decide)]; rw [eF50, mset_j (by decide)]; rw [eF48, mset_j (by decide)]; rw [eF46, mset_j (by decide)]; rw [eF44, mset_j (by decide)]; rw [eF42, mset_j (by decide)]; rw [eF40, mset_j (by decide)]; rw [eF38, mset_j (by decide)]; rw [eF36, mset_j (by decide)]; rw [eF34, mset_j (by decide)]; rw [eF32, mset_j (by decide)]; rw [eF30, mset_j (by decide)]; rw [eF28, mset_j (by decide)]; rw [eF26]; exact mset_s).trans (Mc_F0_16 hk0).symm
    | 17, _, _ => exact (show F58 k 17 = some (k + 14) by rw [eF58, mset_j (by decide)]; rw [eF56, mset_j (by decide)]; rw [eF54, mset_j (by decide)]; rw [eF52, mset_j (by decide)]; rw [eF50, mset_j (by decide)]; rw [eF48, mset_j (by decide)]; rw [eF46, mset_j (by decide)]; rw [eF44, mset_j (by decide)]; rw [eF42, mset_j (by decide)]; rw [eF40, mset_j (by decide)]; rw [eF38, mset_j (by decide)]; rw [eF36, mset_j (by decide)]; rw [eF34, mset_j (by decide)]; rw [eF32, mset_j (by decide)]; rw [eF30, mset_j (by decide)]; rw [eF28]; exact mset_s).trans (Mc_F0_17 hk0).symm
    | 18, _, _ => exact (show F58 k 18 = some (k + 15) by rw [eF58, mset_j (by decide)]; rw [eF56, mset_j (by decide)]; rw [eF54, mset_j (by decide)]; rw [eF52, mset_j (by decide)]; rw [eF50, mset_j (by decide)]; rw [eF48, mset_j (by decide)]; rw [eF46, mset_j (by decide)]; rw [eF44, mset_j (by decide)]; rw [eF42, mset_j (by decide)]; rw [eF40, mset_j (by decide)]; rw [eF38, mset_j (by decide)]; rw [eF36, mset_j (by decide)]; rw [eF34, mset_j (by decide)]; rw [eF32, mset_j (by decide)]; rw [eF30]; exact mset_s).trans (Mc_F0_18 hk0).symm
    | 19, _, _ => exact (show F58 k 19 = some (k + 16) by rw [eF58, mset_j (by decide)]; rw [eF56, mset_j (by decide)]; rw [eF54, mset_j (by decide)]; rw [eF52, mset_j (by decide)]; rw [eF50, mset_j (by decide)]; rw [eF48, mset_j (by decide)]; rw [eF46, mset_j (by decide)]; rw [eF44, mset_j (by decide)]; rw [eF42, mset_j (by decide)]; rw [eF40, mset_j (by decide)]; rw [eF38, mset_j (by decide)]; rw [eF36, mset_j (by decide)]; rw [eF34, mset_j (by decide)]; rw [eF32]; exact mset_s).trans (Mc_F0_19 hk0).symm
    | 20, _, hn => exact absurd hn (by decide)
    | 21, _, _ => exact (show F58 k 21 = some (k + 17) by rw [eF58, mset_j (by decide)]; rw [eF56, mset_j (by decide)]; rw [eF54, mset_j (by decide)]; rw [eF52, mset_j (by decide)]; rw [eF50, mset_j (by decide)]; rw [eF48, mset_j (by decide)]; rw [eF46, mset_j (by decide)]; rw [eF44, mset_j (by decide)]; rw [eF42, mset_j (by decide)]; rw [eF40, mset_j (by decide)]; rw [eF38, mset_j (by decide)]; rw [eF36, mset_j (by decide)]; rw [eF34]; exact mset_s).trans (Mc_F0_21 hk0).symm
    | 22, _, _ => exact (show F58 k 22 = some (k + 18) by rw [eF58, mset_j (by decide)]; rw [eF56, mset_j (by decide)]; rw [eF54, mset_j (by decide)]; rw [eF52, mset_j (by decide)]; rw [eF50, mset_j (by decide)]; rw [eF48, mset_j (by decide)]; rw [eF46, mset_j (by decide)]; rw [eF44, mset_j (by decide)]; rw [eF42, mset_j (by decide)]; rw [eF40, mset_j (by decide)]; rw [eF38, mset_j (by decide)]; rw [eF36]; exact mset_s).trans (Mc_F0_22 hk0).symm
    | 23, _, _ => exact (show F58 k 23 = some (k + 19) by rw [eF58, mset_j (by decide)]; rw [eF56, mset_j (by decide)]; rw [eF54, mset_j (by decide)]; rw [eF52, mset_j (by decide)]; rw [eF50, mset_j (by decide)]; rw [eF48, mset_j (by decide)]; rw [eF46, mset_j (by decide)]; rw [eF44, mset_j (by decide)]; rw [eF42, mset_j (by decide)]; rw [eF40, mset_j (by decide)]; rw [eF38]; exact mset_s).trans (Mc_F0_23 hk0).symm
    | 24, _, _ => exact (show F58 k 24 = some (k + 20) by rw [eF58, mset_j (by decide)]; rw [eF56, mset_j (by decide)]; rw [eF54, mset_j (by decide)]; rw [eF52, mset_j (by decide)]; rw [eF50, mset_j (by decide)]; rw [eF48, mset_j (by decide)]; rw [eF46, mset_j (by decide)]; rw [eF44, mset_j (by decide)]; rw [eF42, mset_j (by decide)]; rw [eF40]; exact mset_s).trans (Mc_F0_24 hk0).symm
    | 25, _, _ => exact (show F58 k 25 = some (k + 21) by rw [eF58, mset_j (by decide)]; rw [eF56, mset_j (by decide)]; rw [eF54, mset_j (by decide)]; rw [eF52, mset_j (by decide)]; rw [eF50, mset_j (by decide)]; rw [eF48, mset_j (by decide)]; rw [eF46, mset_j (by decide)]; rw [eF44, mset_j (by decide)]; rw [eF42]; exact mset_s).trans (Mc_F0_25 hk0).symm
    | 26, _, hn => exact absurd hn (by decide)
    | 27, _, hn => exact absurd hn (by decide)
    | 28, _, hn => exact absurd hn (by decide)
    | 29, _, hn => exact absurd hn (by decide)
    | 30, _, hn => exact absurd hn (by decide)
    | 31, _, hn => exact absurd hn (by decide)
    | 32, _, _ => exact (show F58 k 32 = some (k + 22) by rw [eF58, mset_j (by decide)]; rw [eF56, mset_j (by decide)]; rw [eF54, mset_j (by decide)]; rw [eF52, mset_j (by decide)]; rw [eF50, mset_j (by decide)]; rw [eF48, mset_j (by decide)]; rw [eF46, mset_j (by decide)]; rw [eF44]; exact mset_s).trans (Mc_F0_32 hk0).symm
    | 33, _, hn => exact absurd hn (by decide)
    | 34, _, _ => exact (show F58 k 34 = some (k + 23) by rw [eF58, mset_j (by decide)]; rw [eF56, mset_j (by decide)]; rw [eF54, mset_j (by decide)]; rw [eF52, mset_j (by decide)]; rw [eF50, mset_j (by decide)]; rw [eF48, mset_j (by decide)]; rw [eF46]; exact mset_s).trans (Mc_F0_34 hk0).symm
    | 35, _, hn => exact absurd hn (by decide)
    | 36, _, _ => exact (show F58 k 36 = some (k + 24) by rw [eF58, mset_j (by decide)]; rw [eF56, mset_j (by decide)]; rw [eF54, mset_j (by decide)]; rw [eF52, mset_j (by decide)]; rw [eF50, mset_j (by decide)]; rw [eF48]; exact mset_s).trans (Mc_F0_36 hk0).symm
    | 37, _, _ => exact (show F58 k 37 = some (k + 25) by rw [eF58, mset_j (by decide)]; rw [eF56, mset_j (by decide)]; rw [eF54, mset_j (by decide)]; rw [eF52, mset_j (by decide)]; rw [eF50]; exact mset_s).trans (Mc_F0_37 hk0).symm
    | 38, _, _ => exact (show F58 k 38 = some (k + 26) by rw [eF58, mset_j (by decide)]; rw [eF56, mset_j (by decide)]; rw [eF54, mset_j (by decide)]; rw [eF52]; exact mset_s).trans (Mc_F0_38 hk0).symm
    | 39, _, _ => exact (show F58 k 39 = some (k + 27) by rw [eF58, mset_j (by decide)]; rw [eF56, mset_j (by decide)]; rw [eF54]; exact mset_s).trans (Mc_F0_39 hk0).symm
    | 40, _, _ => exact (show F58 k 40 = some (k + 28) by rw [eF58, mset_j (by decide)]; rw [eF56]; exact mset_s).trans (Mc_F0_40 hk0).symm
    | 41, _, _ => exact (show F58 k 41 = some (k + 29) by rw [eF58]; exact mset_s).trans (Mc_F0_41 hk0).symm
    | n + 42, hj, _ => exact absurd hj (by show ¬ n + 42 < 42; omega)
def fx_ws7 : List (Nat × Nat) := [(922, 11), (921, 11), (922, 10), (921, 10), (922, 9), (921, 9), (922, 8)]
def fx_vs7 : List (Nat × Nat × Nat) := [(922, 11, 1547), (921, 11, 1524), (922, 10, 1494), (921, 10, 1471), (922, 9, 1441), (921, 9, 1418), (922, 8, 1388)]
theorem fx_wn7 {a j : Nat} (h : a ≠ 732 ∧ a ≠ 921 ∧ a ≠ 922) : (a, j) ∉ fx_ws7 := fun q => by
  have q2 := List.all_eq_true.mp (show fx_ws7.all (fun p => decide (p.1 = 732 ∨ p.1 = 921 ∨ p.1 = 922)) = true by decide +kernel) _ q
  have q3 := of_decide_eq_true q2
  dsimp only at q3
  omega
set_option maxHeartbeats 4000000 in
set_option maxRecDepth 100000 in
theorem fx_k7 {fu : Nat} {F303 : mwF} {M301 : mwM} {L302 : mwL} {FZ : mwF} {MZ : mwM} {LZ : mwL} (hD : DX19_s7 fu F303 M301 L302 = some (FZ, MZ, LZ)) : ∀ a j, a < 1388 → (a, j) ∉ fx_ws7 → FZ a j = F303 a j := by
  unfold DX19_s7 at hD
  obtain ⟨F304, eF304, hD⟩ := g_let hD
  obtain ⟨M305, eM305, hD⟩ := g_let hD
  obtain ⟨L306, eL306, hD⟩ := g_let hD
  obtain ⟨F307, M308, L309, hc307, hD⟩ := g_b3 hD
  have eF307 : ∀ a j, (a < 1388 ∨ 1418 ≤ a) → F307 a j = F304 a j := fun a j ha => kX13_init hc307 a j (by omega)
  obtain ⟨F310, eF310, hD⟩ := g_let hD
  obtain ⟨F311, eF311, hD⟩ := g_let hD
  obtain ⟨M312, eM312, hD⟩ := g_let hD
  obtain ⟨L313, eL313, hD⟩ := g_let hD
  obtain ⟨F314, M315, L316, hc314, hD⟩ := g_b3 hD
  have eF314 : ∀ a j, (a < 1418 ∨ 1441 ≤ a) → F314 a j = F311 a j := fun a j ha => kX16_init hc314 a j (by omega)
  obtain ⟨F317, eF317, hD⟩ := g_let hD
  obtain ⟨F318, eF318, hD⟩ := g_let hD
  obtain ⟨M319, eM319, hD⟩ := g_let hD
  obtain ⟨L320, eL320, hD⟩ := g_let hD
  obtain ⟨F321, M322, L323, hc321, hD⟩ := g_b3 hD
  have eF321 : ∀ a j, (a < 1441 ∨ 1471 ≤ a) → F321 a j = F318 a j := fun a j ha => kX13_init hc321 a j (by omega)
  obtain ⟨F324, eF324, hD⟩ := g_let hD
  obtain ⟨F325, eF325, hD⟩ := g_let hD
  obtain ⟨M326, eM326, hD⟩ := g_let hD
  obtain ⟨L327, eL327, hD⟩ := g_let hD
  obtain ⟨F328, M329, L330, hc328, hD⟩ := g_b3 hD
  have eF328 : ∀ a j, (a < 1471 ∨ 1494 ≤ a) → F328 a j = F325 a j := fun a j ha => kX16_init hc328 a j (by omega)
  obtain ⟨F331, eF331, hD⟩ := g_let hD
  obtain ⟨F332, eF332, hD⟩ := g_let hD
  obtain ⟨M333, eM333, hD⟩ := g_let hD
  obtain ⟨L334, eL334, hD⟩ := g_let hD
  obtain ⟨F335, M336, L337, hc335, hD⟩ := g_b3 hD
  have eF335 : ∀ a j, (a < 1494 ∨ 1524 ≤ a) → F335 a j = F332 a j := fun a j ha => kX13_init hc335 a j (by omega)
  obtain ⟨F338, eF338, hD⟩ := g_let hD
  obtain ⟨F339, eF339, hD⟩ := g_let hD
  obtain ⟨M340, eM340, hD⟩ := g_let hD
  obtain ⟨L341, eL341, hD⟩ := g_let hD
  obtain ⟨F342, M343, L344, hc342, hD⟩ := g_b3 hD
  have eF342 : ∀ a j, (a < 1524 ∨ 1547 ≤ a) → F342 a j = F339 a j := fun a j ha => kX16_init hc342 a j (by omega)
  obtain ⟨F345, eF345, hD⟩ := g_let hD
  obtain ⟨F346, eF346, hD⟩ := g_let hD
  obtain ⟨M347, eM347, hD⟩ := g_let hD
  obtain ⟨L348, eL348, hD⟩ := g_let hD
  obtain ⟨F349, M350, L351, hc349, hD⟩ := g_b3 hD
  have eF349 : ∀ a j, (a < 1547 ∨ 1577 ≤ a) → F349 a j = F346 a j := fun a j ha => kX13_init hc349 a j (by omega)
  obtain ⟨F352, eF352, hD⟩ := g_let hD
  obtain ⟨M353, L354, h1, hD⟩ := g_b2 hD
  have hf : F352 = FZ := by
    have hf := congrArg (fun q => q.1) (Option.some.inj hD)
    exact hf
  intro a j ha hw
  rw [← hf]
  rw [eF352, mset_n (fun q => hw (by rw [q.1, q.2]; decide))]
  rw [eF349 _ _ (by omega)]
  rw [eF346, mz_n (by omega)]
  rw [eF345, mset_n (fun q => hw (by rw [q.1, q.2]; decide))]
  rw [eF342 _ _ (by omega)]
  rw [eF339, mz_n (by omega)]
  rw [eF338, mset_n (fun q => hw (by rw [q.1, q.2]; decide))]
  rw [eF335 _ _ (by omega)]
  rw [eF332, mz_n (by omega)]
  rw [eF331, mset_n (fun q => hw (by rw [q.1, q.2]; decide))]
  rw [eF328 _ _ (by omega)]
  rw [eF325, mz_n (by omega)]
  rw [eF324, mset_n (fun q => hw (by rw [q.1, q.2]; decide))]
  rw [eF321 _ _ (by omega)]
  rw [eF318, mz_n (by omega)]
  rw [eF317, mset_n (fun q => hw (by rw [q.1, q.2]; decide))]
  rw [eF314 _ _ (by omega)]
  rw [eF311, mz_n (by omega)]
  rw [eF310, mset_n (fun q => hw (by rw [q.1, q.2]; decide))]
  rw [eF307 _ _ (by omega)]
  rw [eF304, mz_n (by omega)]
set_option maxHeartbeats 4000000 in
set_option maxRecDepth 100000 in
theorem fx_v7 {fu : Nat} {F303 : mwF} {M301 : mwM} {L302 : mwL} {FZ : mwF} {MZ : mwM} {LZ : mwL} (hD : DX19_s7 fu F303 M301 L302 = some (FZ, MZ, LZ)) : ∀ t ∈ fx_vs7, FZ t.1 t.2.1 = some t.2.2 := by
  unfold DX19_s7 at hD
  obtain ⟨F304, eF304, hD⟩ := g_let hD
  obtain ⟨M305, eM305, hD⟩ := g_let hD
  obtain ⟨L306, eL306, hD⟩ := g_let hD
  obtain ⟨F307, M308, L309, hc307, hD⟩ := g_b3 hD
  have eF307 : ∀ a j, (a < 1388 ∨ 1418 ≤ a) → F307 a j = F304 a j := fun a j ha => kX13_init hc307 a j (by omega)
  obtain ⟨F310, eF310, hD⟩ := g_let hD
  obtain ⟨F311, eF311, hD⟩ := g_let hD
  obtain ⟨M312, eM312, hD⟩ := g_let hD
  obtain ⟨L313, eL313, hD⟩ := g_let hD
  obtain ⟨F314, M315, L316, hc314, hD⟩ := g_b3 hD
  have eF314 : ∀ a j, (a < 1418 ∨ 1441 ≤ a) → F314 a j = F311 a j := fun a j ha => kX16_init hc314 a j (by omega)
  obtain ⟨F317, eF317, hD⟩ := g_let hD
  obtain ⟨F318, eF318, hD⟩ := g_let hD
  obtain ⟨M319, eM319, hD⟩ := g_let hD
  obtain ⟨L320, eL320, hD⟩ := g_let hD
  obtain ⟨F321, M322, L323, hc321, hD⟩ := g_b3 hD
  have eF321 : ∀ a j, (a < 1441 ∨ 1471 ≤ a) → F321 a j = F318 a j := fun a j ha => kX13_init hc321 a j (by omega)
  obtain ⟨F324, eF324, hD⟩ := g_let hD
  obtain ⟨F325, eF325, hD⟩ := g_let hD
  obtain ⟨M326, eM326, hD⟩ := g_let hD
  obtain ⟨L327, eL327, hD⟩ := g_let hD
  obtain ⟨F328, M329, L330, hc328, hD⟩ := g_b3 hD
  have eF328 : ∀ a j, (a < 1471 ∨ 1494 ≤ a) → F328 a j = F325 a j := fun a j ha => kX16_init hc328 a j (by omega)
  obtain ⟨F331, eF331, hD⟩ := g_let hD
  obtain ⟨F332, eF332, hD⟩ := g_let hD
  obtain ⟨M333, eM333, hD⟩ := g_let hD
  obtain ⟨L334, eL334, hD⟩ := g_let hD
  obtain ⟨F335, M336, L337, hc335, hD⟩ := g_b3 hD
  have eF335 : ∀ a j, (a < 1494 ∨ 1524 ≤ a) → F335 a j = F332 a j := fun a j ha => kX13_init hc335 a j (by omega)
  obtain ⟨F338, eF338, hD⟩ := g_let hD
  obtain ⟨F339, eF339, hD⟩ := g_let hD
  obtain ⟨M340, eM340, hD⟩ := g_let hD
  obtain ⟨L341, eL341, hD⟩ := g_let hD
  obtain ⟨F342, M343, L344, hc342, hD⟩ := g_b3 hD
  have eF342 : ∀ a j, (a < 1524 ∨ 1547 ≤ a) → F342 a j = F339 a j := fun a j ha => kX16_init hc342 a j (by omega)
  obtain ⟨F345, eF345, hD⟩ := g_let hD
  obtain ⟨F346, eF346, hD⟩ := g_let hD
  obtain ⟨M347, eM347, hD⟩ := g_let hD
  obtain ⟨L348, eL348, hD⟩ := g_let hD
  obtain ⟨F349, M350, L351, hc349, hD⟩ := g_b3 hD
  have eF349 : ∀ a j, (a < 1547 ∨ 1577 ≤ a) → F349 a j = F346 a j := fun a j ha => kX13_init hc349 a j (by omega)
  obtain ⟨F352, eF352, hD⟩ := g_let hD
  obtain ⟨M353, L354, h1, hD⟩ := g_b2 hD
  have hf : F352 = FZ := by
    have hf := congrArg (fun q => q.1) (Option.some.inj hD)
    exact hf
  refine List.forall_mem_cons.mpr ⟨?_, List.forall_mem_cons.mpr ⟨?_, List.forall_mem_cons.mpr ⟨?_, List.forall_mem_cons.mpr ⟨?_, List.forall_mem_cons.mpr ⟨?_, List.forall_mem_cons.mpr ⟨?_, List.forall_mem_cons.mpr ⟨?_, fun _ h => absurd h List.not_mem_nil⟩⟩⟩⟩⟩⟩⟩
  · show FZ 922 11 = some 1547
    rw [← hf]
    rw [eF352]
    exact mset_s
  · show FZ 921 11 = some 1524
    rw [← hf]
    rw [eF352, mset_k (by decide)]
    rw [eF349 _ _ (by decide)]
    rw [eF346, mz_n (by decide)]
    rw [eF345]
    exact mset_s
  · show FZ 922 10 = some 1494
    rw [← hf]
    rw [eF352, mset_j (by decide)]
    rw [eF349 _ _ (by decide)]
    rw [eF346, mz_n (by decide)]
    rw [eF345, mset_k (by decide)]
    rw [eF342 _ _ (by decide)]
    rw [eF339, mz_n (by decide)]
    rw [eF338]
    exact mset_s
  · show FZ 921 10 = some 1471
    rw [← hf]
    rw [eF352, mset_k (by decide)]
    rw [eF349 _ _ (by decide)]
    rw [eF346, mz_n (by decide)]
    rw [eF345, mset_j (by decide)]
    rw [eF342 _ _ (by decide)]
    rw [eF339, mz_n (by decide)]
    rw [eF338, mset_k (by decide)]
    rw [eF335 _ _ (by decide)]
    rw [eF332, mz_n (by decide)]
    rw [eF331]
    exact mset_s
  · show FZ 922 9 = some 1441
    rw [← hf]
    rw [eF352, mset_j (by decide)]
    rw [eF349 _ _ (by decide)]
    rw [eF346, mz_n (by decide)]
    rw [eF345, mset_k (by decide)]
    rw [eF342 _ _ (by decide)]
    rw [eF339, mz_n (by decide)]
    rw [eF338, mset_j (by decide)]
    rw [eF335 _ _ (by decide)]
    rw [eF332, mz_n (by decide)]
    rw [eF331, mset_k (by decide)]
    rw [eF328 _ _ (by decide)]
    rw [eF325, mz_n (by decide)]
    rw [eF324]
    exact mset_s
  · show FZ 921 9 = some 1418
    rw [← hf]
    rw [eF352, mset_k (by decide)]
    rw [eF349 _ _ (by decide)]
    rw [eF346, mz_n (by decide)]
    rw [eF345, mset_j (by decide)]
    rw [eF342 _ _ (by decide)]
    rw [eF339, mz_n (by decide)]
    rw [eF338, mset_k (by decide)]
    rw [eF335 _ _ (by decide)]
    rw [eF332, mz_n (by decide)]
    rw [eF331, mset_j (by decide)]
    rw [eF328 _ _ (by decide)]
    rw [eF325, mz_n (by decide)]
    rw [eF324, mset_k (by decide)]
    rw [eF321 _ _ (by decide)]
    rw [eF318, mz_n (by decide)]
    rw [eF317]
    exact mset_s
  · show FZ 922 8 = some 1388
    rw [← hf]
    rw [eF352, mset_j (by decide)]
    rw [eF349 _ _ (by decide)]
    rw [eF346, mz_n (by decide)]
    rw [eF345, mset_k (by decide)]
    rw [eF342 _ _ (by decide)]
    rw [eF339, mz_n (by decide)]
    rw [eF338, mset_j (by decide)]
    rw [eF335 _ _ (by decide)]
    rw [eF332, mz_n (by decide)]
    rw [eF331, mset_k (by decide)]
    rw [eF328 _ _ (by decide)]
    rw [eF325, mz_n (by decide)]
    rw [eF324, mset_j (by decide)]
    rw [eF321 _ _ (by decide)]
    rw [eF318, mz_n (by decide)]
    rw [eF317, mset_k (by decide)]
    rw [eF314 _ _ (by decide)]
    rw [eF311, mz_n (by decide)]
    rw [eF310]
    exact mset_s
def fx_rc7 : List Nat := [1547, 1524, 1494, 1471, 1441, 1418, 1388]
set_option maxHeartbeats 4000000 in
set_option maxRecDepth 100000 in
theorem fx_c7 {fu : Nat} {F303 : mwF} {M301 : mwM} {L302 : mwL} {FZ : mwF} {MZ : mwM} {LZ : mwL} (hD : DX19_s7 fu F303 M301 L302 = some (FZ, MZ, LZ)) : ∀ a ∈ fx_rc7, cpx FZ a := by
  unfold DX19_s7 at hD
  obtain ⟨F304, eF304, hD⟩ := g_let hD
  obtain ⟨M305, eM305, hD⟩ := g_let hD
  obtain ⟨L306, eL306, hD⟩ := g_let hD
  obtain ⟨F307, M308, L309, hc307, hD⟩ := g_b3 hD
  have eF307 : ∀ a j, (a < 1388 ∨ 1418 ≤ a) → F307 a j = F304 a j := fun a j ha => kX13_init hc307 a j (by omega)
  obtain ⟨F310, eF310, hD⟩ := g_let hD
  obtain ⟨F311, eF311, hD⟩ := g_let hD
  obtain ⟨M312, eM312, hD⟩ := g_let hD
  obtain ⟨L313, eL313, hD⟩ := g_let hD
  obtain ⟨F314, M315, L316, hc314, hD⟩ := g_b3 hD
  have eF314 : ∀ a j, (a < 1418 ∨ 1441 ≤ a) → F314 a j = F311 a j := fun a j ha => kX16_init hc314 a j (by omega)
  obtain ⟨F317, eF317, hD⟩ := g_let hD
  obtain ⟨F318, eF318, hD⟩ := g_let hD
  obtain ⟨M319, eM319, hD⟩ := g_let hD
  obtain ⟨L320, eL320, hD⟩ := g_let hD
  obtain ⟨F321, M322, L323, hc321, hD⟩ := g_b3 hD
  have eF321 : ∀ a j, (a < 1441 ∨ 1471 ≤ a) → F321 a j = F318 a j := fun a j ha => kX13_init hc321 a j (by omega)
  obtain ⟨F324, eF324, hD⟩ := g_let hD
  obtain ⟨F325, eF325, hD⟩ := g_let hD
  obtain ⟨M326, eM326, hD⟩ := g_let hD
  obtain ⟨L327, eL327, hD⟩ := g_let hD
  obtain ⟨F328, M329, L330, hc328, hD⟩ := g_b3 hD
  have eF328 : ∀ a j, (a < 1471 ∨ 1494 ≤ a) → F328 a j = F325 a j := fun a j ha => kX16_init hc328 a j (by omega)
  obtain ⟨F331, eF331, hD⟩ := g_let hD
  obtain ⟨F332, eF332, hD⟩ := g_let hD
  obtain ⟨M333, eM333, hD⟩ := g_let hD
  obtain ⟨L334, eL334, hD⟩ := g_let hD
  obtain ⟨F335, M336, L337, hc335, hD⟩ := g_b3 hD
  have eF335 : ∀ a j, (a < 1494 ∨ 1524 ≤ a) → F335 a j = F332 a j := fun a j ha => kX13_init hc335 a j (by omega)
  obtain ⟨F338, eF338, hD⟩ := g_let hD
  obtain ⟨F339, eF339, hD⟩ := g_let hD
  obtain ⟨M340, eM340, hD⟩ := g_let hD
  obtain ⟨L341, eL341, hD⟩ := g_let hD
  obtain ⟨F342, M343, L344, hc342, hD⟩ := g_b3 hD
  have eF342 : ∀ a j, (a < 1524 ∨ 1547 ≤ a) → F342 a j = F339 a j := fun a j ha => kX16_init hc342 a j (by omega)
  obtain ⟨F345, eF345, hD⟩ := g_let hD
  obtain ⟨F346, eF346, hD⟩ := g_let hD
  obtain ⟨M347, eM347, hD⟩ := g_let hD
  obtain ⟨L348, eL348, hD⟩ := g_let hD
  obtain ⟨F349, M350, L351, hc349, hD⟩ := g_b3 hD
  have eF349 : ∀ a j, (a < 1547 ∨ 1577 ≤ a) → F349 a j = F346 a j := fun a j ha => kX13_init hc349 a j (by omega)
  obtain ⟨F352, eF352, hD⟩ := g_let hD
  obtain ⟨M353, L354, h1, hD⟩ := g_b2 hD
  have hf : F352 = FZ := by
    have hf := congrArg (fun q => q.1) (Option.some.inj hD)
    exact hf
  refine List.forall_mem_cons.mpr ⟨?_, List.forall_mem_cons.mpr ⟨?_, List.forall_mem_cons.mpr ⟨?_, List.forall_mem_cons.mpr ⟨?_, List.forall_mem_cons.mpr ⟨?_, List.forall_mem_cons.mpr ⟨?_, List.forall_mem_cons.mpr ⟨?_, fun _ h => absurd h List.not_mem_nil⟩⟩⟩⟩⟩⟩⟩
  · refine cpx_keep (F := F349) (show cpx F349 1547 from gX13_init (isMc_of (x := 11) (by decide)) hc349 0 (List.mem_of_getElem? (i := 0) rfl)) (fun j => ?_)
    rw [← hf]
    rw [eF352, mset_k (by decide)]
  · refine cpx_keep (F := F342) (show cpx F342 1524 from gX16_init (isMp_of (x := 11) (by decide)) hc342 0 (List.mem_of_getElem? (i := 0) rfl)) (fun j => ?_)
    rw [← hf]
    rw [eF352, mset_k (by decide)]
    rw [eF349 _ _ (by decide)]
    rw [eF346, mz_n (by decide)]
    rw [eF345, mset_k (by decide)]
  · refine cpx_keep (F := F335) (show cpx F335 1494 from gX13_init (isMc_of (x := 10) (by decide)) hc335 0 (List.mem_of_getElem? (i := 0) rfl)) (fun j => ?_)
    rw [← hf]
    rw [eF352, mset_k (by decide)]
    rw [eF349 _ _ (by decide)]
    rw [eF346, mz_n (by decide)]
    rw [eF345, mset_k (by decide)]
    rw [eF342 _ _ (by decide)]
    rw [eF339, mz_n (by decide)]
    rw [eF338, mset_k (by decide)]
  · refine cpx_keep (F := F328) (show cpx F328 1471 from gX16_init (isMp_of (x := 10) (by decide)) hc328 0 (List.mem_of_getElem? (i := 0) rfl)) (fun j => ?_)
    rw [← hf]
    rw [eF352, mset_k (by decide)]
    rw [eF349 _ _ (by decide)]
    rw [eF346, mz_n (by decide)]
    rw [eF345, mset_k (by decide)]
    rw [eF342 _ _ (by decide)]
    rw [eF339, mz_n (by decide)]
    rw [eF338, mset_k (by decide)]
    rw [eF335 _ _ (by decide)]
    rw [eF332, mz_n (by decide)]
    rw [eF331, mset_k (by decide)]
  · refine cpx_keep (F := F321) (show cpx F321 1441 from gX13_init (isMc_of (x := 9) (by decide)) hc321 0 (List.mem_of_getElem? (i := 0) rfl)) (fun j => ?_)
    rw [← hf]
    rw [eF352, mset_k (by decide)]
    rw [eF349 _ _ (by decide)]
    rw [eF346, mz_n (by decide)]
    rw [eF345, mset_k (by decide)]
    rw [eF342 _ _ (by decide)]
    rw [eF339, mz_n (by decide)]
    rw [eF338, mset_k (by decide)]
    rw [eF335 _ _ (by decide)]
    rw [eF332, mz_n (by decide)]
    rw [eF331, mset_k (by decide)]
    rw [eF328 _ _ (by decide)]
    rw [eF325, mz_n (by decide)]
    rw [eF324, mset_k (by decide)]
  · refine cpx_keep (F := F314) (show cpx F314 1418 from gX16_init (isMp_of (x := 9) (by decide)) hc314 0 (List.mem_of_getElem? (i := 0) rfl)) (fun j => ?_)
    rw [← hf]
    rw [eF352, mset_k (by decide)]
    rw [eF349 _ _ (by decide)]
    rw [eF346, mz_n (by decide)]
    rw [eF345, mset_k (by decide)]
    rw [eF342 _ _ (by decide)]
    rw [eF339, mz_n (by decide)]
    rw [eF338, mset_k (by decide)]
    rw [eF335 _ _ (by decide)]
    rw [eF332, mz_n (by decide)]
    rw [eF331, mset_k (by decide)]
    rw [eF328 _ _ (by decide)]
    rw [eF325, mz_n (by decide)]
    rw [eF324, mset_k (by decide)]
    rw [eF321 _ _ (by decide)]
    rw [eF318, mz_n (by decide)]
    rw [eF317, mset_k (by decide)]
  · refine cpx_keep (F := F307) (show cpx F307 1388 from gX13_init (isMc_of (x := 8) (by decide)) hc307 0 (List.mem_of_getElem? (i := 0) rfl)) (fun j => ?_)
    rw [← hf]
    rw [eF352, mset_k (by decide)]
    rw [eF349 _ _ (by decide)]
    rw [eF346, mz_n (by decide)]
    rw [eF345, mset_k (by decide)]
    rw [eF342 _ _ (by decide)]
    rw [eF339, mz_n (by decide)]
    rw [eF338, mset_k (by decide)]
    rw [eF335 _ _ (by decide)]
    rw [eF332, mz_n (by decide)]
    rw [eF331, mset_k (by decide)]
    rw [eF328 _ _ (by decide)]
    rw [eF325, mz_n (by decide)]
    rw [eF324, mset_k (by decide)]
    rw [eF321 _ _ (by decide)]
    rw [eF318, mz_n (by decide)]
    rw [eF317, mset_k (by decide)]
    rw [eF314 _ _ (by decide)]
    rw [eF311, mz_n (by decide)]
    rw [eF310, mset_k (by decide)]
def fx_ws6 : List (Nat × Nat) := [(921, 8), (922, 7), (921, 7), (922, 6), (921, 6), (922, 5), (921, 5), (922, 4), (921, 4)] ++ fx_ws7
def fx_vs6 : List (Nat × Nat × Nat) := [(921, 8, 1365), (922, 7, 1335), (921, 7, 1312), (922, 6, 1282), (921, 6, 1259), (922, 5, 1229), (921, 5, 1206), (922, 4, 1176), (921, 4, 1153)] ++ fx_vs7
theorem fx_wn6 {a j : Nat} (h : a ≠ 732 ∧ a ≠ 921 ∧ a ≠ 922) : (a, j) ∉ fx_ws6 := fun q => by
  have q2 := List.all_eq_true.mp (show fx_ws6.all (fun p => decide (p.1 = 732 ∨ p.1 = 921 ∨ p.1 = 922)) = true by decide +kernel) _ q
  have q3 := of_decide_eq_true q2
  dsimp only at q3
  omega
set_option maxHeartbeats 4000000 in
set_option maxRecDepth 100000 in
theorem fx_k6 {fu : Nat} {F240 : mwF} {M238 : mwM} {L239 : mwL} {FZ : mwF} {MZ : mwM} {LZ : mwL} (hD : DX19_s6 fu F240 M238 L239 = some (FZ, MZ, LZ)) : ∀ a j, a < 1153 → (a, j) ∉ fx_ws6 → FZ a j = F240 a j := by
  unfold DX19_s6 at hD
  obtain ⟨F241, eF241, hD⟩ := g_let hD
  obtain ⟨M242, eM242, hD⟩ := g_let hD
  obtain ⟨L243, eL243, hD⟩ := g_let hD
  obtain ⟨F244, M245, L246, hc244, hD⟩ := g_b3 hD
  have eF244 : ∀ a j, (a < 1153 ∨ 1176 ≤ a) → F244 a j = F241 a j := fun a j ha => kX16_init hc244 a j (by omega)
  obtain ⟨F247, eF247, hD⟩ := g_let hD
  obtain ⟨F248, eF248, hD⟩ := g_let hD
  obtain ⟨M249, eM249, hD⟩ := g_let hD
  obtain ⟨L250, eL250, hD⟩ := g_let hD
  obtain ⟨F251, M252, L253, hc251, hD⟩ := g_b3 hD
  have eF251 : ∀ a j, (a < 1176 ∨ 1206 ≤ a) → F251 a j = F248 a j := fun a j ha => kX13_init hc251 a j (by omega)
  obtain ⟨F254, eF254, hD⟩ := g_let hD
  obtain ⟨F255, eF255, hD⟩ := g_let hD
  obtain ⟨M256, eM256, hD⟩ := g_let hD
  obtain ⟨L257, eL257, hD⟩ := g_let hD
  obtain ⟨F258, M259, L260, hc258, hD⟩ := g_b3 hD
  have eF258 : ∀ a j, (a < 1206 ∨ 1229 ≤ a) → F258 a j = F255 a j := fun a j ha => kX16_init hc258 a j (by omega)
  obtain ⟨F261, eF261, hD⟩ := g_let hD
  obtain ⟨F262, eF262, hD⟩ := g_let hD
  obtain ⟨M263, eM263, hD⟩ := g_let hD
  obtain ⟨L264, eL264, hD⟩ := g_let hD
  obtain ⟨F265, M266, L267, hc265, hD⟩ := g_b3 hD
  have eF265 : ∀ a j, (a < 1229 ∨ 1259 ≤ a) → F265 a j = F262 a j := fun a j ha => kX13_init hc265 a j (by omega)
  obtain ⟨F268, eF268, hD⟩ := g_let hD
  obtain ⟨F269, eF269, hD⟩ := g_let hD
  obtain ⟨M270, eM270, hD⟩ := g_let hD
  obtain ⟨L271, eL271, hD⟩ := g_let hD
  obtain ⟨F272, M273, L274, hc272, hD⟩ := g_b3 hD
  have eF272 : ∀ a j, (a < 1259 ∨ 1282 ≤ a) → F272 a j = F269 a j := fun a j ha => kX16_init hc272 a j (by omega)
  obtain ⟨F275, eF275, hD⟩ := g_let hD
  obtain ⟨F276, eF276, hD⟩ := g_let hD
  obtain ⟨M277, eM277, hD⟩ := g_let hD
  obtain ⟨L278, eL278, hD⟩ := g_let hD
  obtain ⟨F279, M280, L281, hc279, hD⟩ := g_b3 hD
  have eF279 : ∀ a j, (a < 1282 ∨ 1312 ≤ a) → F279 a j = F276 a j := fun a j ha => kX13_init hc279 a j (by omega)
  obtain ⟨F282, eF282, hD⟩ := g_let hD
  obtain ⟨F283, eF283, hD⟩ := g_let hD
  obtain ⟨M284, eM284, hD⟩ := g_let hD
  obtain ⟨L285, eL285, hD⟩ := g_let hD
  obtain ⟨F286, M287, L288, hc286, hD⟩ := g_b3 hD
  have eF286 : ∀ a j, (a < 1312 ∨ 1335 ≤ a) → F286 a j = F283 a j := fun a j ha => kX16_init hc286 a j (by omega)
  obtain ⟨F289, eF289, hD⟩ := g_let hD
  obtain ⟨F290, eF290, hD⟩ := g_let hD
  obtain ⟨M291, eM291, hD⟩ := g_let hD
  obtain ⟨L292, eL292, hD⟩ := g_let hD
  obtain ⟨F293, M294, L295, hc293, hD⟩ := g_b3 hD
  have eF293 : ∀ a j, (a < 1335 ∨ 1365 ≤ a) → F293 a j = F290 a j := fun a j ha => kX13_init hc293 a j (by omega)
  obtain ⟨F296, eF296, hD⟩ := g_let hD
  obtain ⟨F297, eF297, hD⟩ := g_let hD
  obtain ⟨M298, eM298, hD⟩ := g_let hD
  obtain ⟨L299, eL299, hD⟩ := g_let hD
  obtain ⟨F300, M301, L302, hc300, hD⟩ := g_b3 hD
  have eF300 : ∀ a j, (a < 1365 ∨ 1388 ≤ a) → F300 a j = F297 a j := fun a j ha => kX16_init hc300 a j (by omega)
  obtain ⟨F303, eF303, hD⟩ := g_let hD
  have hn := fx_k7 hD
  intro a j ha hw
  rw [hn a j (by omega) (fun q => hw (List.mem_append_right _ q))]
  rw [eF303, mset_n (fun q => hw (by rw [q.1, q.2]; decide))]
  rw [eF300 _ _ (by omega)]
  rw [eF297, mz_n (by omega)]
  rw [eF296, mset_n (fun q => hw (by rw [q.1, q.2]; decide))]
  rw [eF293 _ _ (by omega)]
  rw [eF290, mz_n (by omega)]
  rw [eF289, mset_n (fun q => hw (by rw [q.1, q.2]; decide))]
  rw [eF286 _ _ (by omega)]
  rw [eF283, mz_n (by omega)]
  rw [eF282, mset_n (fun q => hw (by rw [q.1, q.2]; decide))]
  rw [eF279 _ _ (by omega)]
  rw [eF276, mz_n (by omega)]
  rw [eF275, mset_n (fun q => hw (by rw [q.1, q.2]; decide))]
  rw [eF272 _ _ (by omega)]
  rw [eF269, mz_n (by omega)]
  rw [eF268, mset_n (fun q => hw (by rw [q.1, q.2]; decide))]
  rw [eF265 _ _ (by omega)]
  rw [eF262, mz_n (by omega)]
  rw [eF261, mset_n (fun q => hw (by rw [q.1, q.2]; decide))]
  rw [eF258 _ _ (by omega)]
  rw [eF255, mz_n (by omega)]
  rw [eF254, mset_n (fun q => hw (by rw [q.1, q.2]; decide))]
  rw [eF251 _ _ (by omega)]
  rw [eF248, mz_n (by omega)]
  rw [eF247, mset_n (fun q => hw (by rw [q.1, q.2]; decide))]
  rw [eF244 _ _ (by omega)]
  rw [eF241, mz_n (by omega)]
set_option maxHeartbeats 4000000 in
set_option maxRecDepth 100000 in
theorem fx_v6 {fu : Nat} {F240 : mwF} {M238 : mwM} {L239 : mwL} {FZ : mwF} {MZ : mwM} {LZ : mwL} (hD : DX19_s6 fu F240 M238 L239 = some (FZ, MZ, LZ)) : ∀ t ∈ fx_vs6, FZ t.1 t.2.1 = some t.2.2 := by
  unfold DX19_s6 at hD
  obtain ⟨F241, eF241, hD⟩ := g_let hD
  obtain ⟨M242, eM242, hD⟩ := g_let hD
  obtain ⟨L243, eL243, hD⟩ := g_let hD
  obtain ⟨F244, M245, L246, hc244, hD⟩ := g_b3 hD
  have eF244 : ∀ a j, (a < 1153 ∨ 1176 ≤ a) → F244 a j = F241 a j := fun a j ha => kX16_init hc244 a j (by omega)
  obtain ⟨F247, eF247, hD⟩ := g_let hD
  obtain ⟨F248, eF248, hD⟩ := g_let hD
  obtain ⟨M249, eM249, hD⟩ := g_let hD
  obtain ⟨L250, eL250, hD⟩ := g_let hD
  obtain ⟨F251, M252, L253, hc251, hD⟩ := g_b3 hD
  have eF251 : ∀ a j, (a < 1176 ∨ 1206 ≤ a) → F251 a j = F248 a j := fun a j ha => kX13_init hc251 a j (by omega)
  obtain ⟨F254, eF254, hD⟩ := g_let hD
  obtain ⟨F255, eF255, hD⟩ := g_let hD
  obtain ⟨M256, eM256, hD⟩ := g_let hD
  obtain ⟨L257, eL257, hD⟩ := g_let hD
  obtain ⟨F258, M259, L260, hc258, hD⟩ := g_b3 hD
  have eF258 : ∀ a j, (a < 1206 ∨ 1229 ≤ a) → F258 a j = F255 a j := fun a j ha => kX16_init hc258 a j (by omega)
  obtain ⟨F261, eF261, hD⟩ := g_let hD
  obtain ⟨F262, eF262, hD⟩ := g_let hD
  obtain ⟨M263, eM263, hD⟩ := g_let hD
  obtain ⟨L264, eL264, hD⟩ := g_let hD
  obtain ⟨F265, M266, L267, hc265, hD⟩ := g_b3 hD
  have eF265 : ∀ a j, (a < 1229 ∨ 1259 ≤ a) → F265 a j = F262 a j := fun a j ha => kX13_init hc265 a j (by omega)
  obtain ⟨F268, eF268, hD⟩ := g_let hD
  obtain ⟨F269, eF269, hD⟩ := g_let hD
  obtain ⟨M270, eM270, hD⟩ := g_let hD
  obtain ⟨L271, eL271, hD⟩ := g_let hD
  obtain ⟨F272, M273, L274, hc272, hD⟩ := g_b3 hD
  have eF272 : ∀ a j, (a < 1259 ∨ 1282 ≤ a) → F272 a j = F269 a j := fun a j ha => kX16_init hc272 a j (by omega)
  obtain ⟨F275, eF275, hD⟩ := g_let hD
  obtain ⟨F276, eF276, hD⟩ := g_let hD
  obtain ⟨M277, eM277, hD⟩ := g_let hD
  obtain ⟨L278, eL278, hD⟩ := g_let hD
  obtain ⟨F279, M280, L281, hc279, hD⟩ := g_b3 hD
  have eF279 : ∀ a j, (a < 1282 ∨ 1312 ≤ a) → F279 a j = F276 a j := fun a j ha => kX13_init hc279 a j (by omega)
  obtain ⟨F282, eF282, hD⟩ := g_let hD
  obtain ⟨F283, eF283, hD⟩ := g_let hD
  obtain ⟨M284, eM284, hD⟩ := g_let hD
  obtain ⟨L285, eL285, hD⟩ := g_let hD
  obtain ⟨F286, M287, L288, hc286, hD⟩ := g_b3 hD
  have eF286 : ∀ a j, (a < 1312 ∨ 1335 ≤ a) → F286 a j = F283 a j := fun a j ha => kX16_init hc286 a j (by omega)
  obtain ⟨F289, eF289, hD⟩ := g_let hD
  obtain ⟨F290, eF290, hD⟩ := g_let hD
  obtain ⟨M291, eM291, hD⟩ := g_let hD
  obtain ⟨L292, eL292, hD⟩ := g_let hD
  obtain ⟨F293, M294, L295, hc293, hD⟩ := g_b3 hD
  have eF293 : ∀ a j, (a < 1335 ∨ 1365 ≤ a) → F293 a j = F290 a j := fun a j ha => kX13_init hc293 a j (by omega)
  obtain ⟨F296, eF296, hD⟩ := g_let hD
  obtain ⟨F297, eF297, hD⟩ := g_let hD
  obtain ⟨M298, eM298, hD⟩ := g_let hD
  obtain ⟨L299, eL299, hD⟩ := g_let hD
  obtain ⟨F300, M301, L302, hc300, hD⟩ := g_b3 hD
  have eF300 : ∀ a j, (a < 1365 ∨ 1388 ≤ a) → F300 a j = F297 a j := fun a j ha => kX16_init hc300 a j (by omega)
  obtain ⟨F303, eF303, hD⟩ := g_let hD
  have hn := fx_k7 hD
  refine List.forall_mem_append.mpr ⟨List.forall_mem_cons.mpr ⟨?_, List.forall_mem_cons.mpr ⟨?_, List.forall_mem_cons.mpr ⟨?_, List.forall_mem_cons.mpr ⟨?_, List.forall_mem_cons.mpr ⟨?_, List.forall_mem_cons.mpr ⟨?_, List.forall_mem_cons.mpr ⟨?_, List.forall_mem_cons.mpr ⟨?_, List.forall_mem_cons.mpr ⟨?_, fun _ h => absurd h List.not_mem_nil⟩⟩⟩⟩⟩⟩⟩⟩⟩, fx_v7 hD⟩
  · show FZ 921 8 = some 1365
    rw [hn 921 8 (by decide) (by decide)]
    rw [eF303]
    exact mset_s
  · show FZ 922 7 = some 1335
    rw [hn 922 7 (by decide) (by decide)]
    rw [eF303, mset_k (by decide)]
    rw [eF300 _ _ (by decide)]
    rw [eF297, mz_n (by decide)]
    rw [eF296]
    exact mset_s
  · show FZ 921 7 = some 1312
    rw [hn 921 7 (by decide) (by decide)]
    rw [eF303, mset_j (by decide)]
    rw [eF300 _ _ (by decide)]
    rw [eF297, mz_n (by decide)]
    rw [eF296, mset_k (by decide)]
    rw [eF293 _ _ (by decide)]
    rw [eF290, mz_n (by decide)]
    rw [eF289]
    exact mset_s
  · show FZ 922 6 = some 1282
    rw [hn 922 6 (by decide) (by decide)]
    rw [eF303, mset_k (by decide)]
    rw [eF300 _ _ (by decide)]
    rw [eF297, mz_n (by decide)]
    rw [eF296, mset_j (by decide)]
    rw [eF293 _ _ (by decide)]
    rw [eF290, mz_n (by decide)]
    rw [eF289, mset_k (by decide)]
    rw [eF286 _ _ (by decide)]
    rw [eF283, mz_n (by decide)]
    rw [eF282]
    exact mset_s
  · show FZ 921 6 = some 1259
    rw [hn 921 6 (by decide) (by decide)]
    rw [eF303, mset_j (by decide)]
    rw [eF300 _ _ (by decide)]
    rw [eF297, mz_n (by decide)]
    rw [eF296, mset_k (by decide)]
    rw [eF293 _ _ (by decide)]
    rw [eF290, mz_n (by decide)]
    rw [eF289, mset_j (by decide)]
    rw [eF286 _ _ (by decide)]
    rw [eF283, mz_n (by decide)]
    rw [eF282, mset_k (by decide)]
    rw [eF279 _ _ (by decide)]
    rw [eF276, mz_n (by decide)]
    rw [eF275]
    exact mset_s
  · show FZ 922 5 = some 1229
    rw [hn 922 5 (by decide) (by decide)]
    rw [eF303, mset_k (by decide)]
    rw [eF300 _ _ (by decide)]
    rw [eF297, mz_n (by decide)]
    rw [eF296, mset_j (by decide)]
    rw [eF293 _ _ (by decide)]
    rw [eF290, mz_n (by decide)]
    rw [eF289, mset_k (by decide)]
    rw [eF286 _ _ (by decide)]
    rw [eF283, mz_n (by decide)]
    rw [eF282, mset_j (by decide)]
    rw [eF279 _ _ (by decide)]
    rw [eF276, mz_n (by decide)]
    rw [eF275, mset_k (by decide)]
    rw [eF272 _ _ (by decide)]
    rw [eF269, mz_n (by decide)]
    rw [eF268]
    exact mset_s
  · show FZ 921 5 = some 1206
    rw [hn 921 5 (by decide) (by decide)]
    rw [eF303, mset_j (by decide)]
    rw [eF300 _ _ (by decide)]
    rw [eF297, mz_n (by decide)]
    rw [eF296, mset_k (by decide)]
    rw [eF293 _ _ (by decide)]
    rw [eF290, mz_n (by decide)]
    rw [eF289, mset_j (by decide)]
    rw [eF286 _ _ (by decide)]
    rw [eF283, mz_n (by decide)]
    rw [eF282, mset_k (by decide)]
    rw [eF279 _ _ (by decide)]
    rw [eF276, mz_n (by decide)]
    rw [eF275, mset_j (by decide)]
    rw [eF272 _ _ (by decide)]
    rw [eF269, mz_n (by decide)]
    rw [eF268, mset_k (by decide)]
    rw [eF265 _ _ (by decide)]
    rw [eF262, mz_n (by decide)]
    rw [eF261]
    exact mset_s
  · show FZ 922 4 = some 1176
    rw [hn 922 4 (by decide) (by decide)]
    rw [eF303, mset_k (by decide)]
    rw [eF300 _ _ (by decide)]
    rw [eF297, mz_n (by decide)]
    rw [eF296, mset_j (by decide)]
    rw [eF293 _ _ (by decide)]
    rw [eF290, mz_n (by decide)]
    rw [eF289, mset_k (by decide)]
    rw [eF286 _ _ (by decide)]
    rw [eF283, mz_n (by decide)]
    rw [eF282, mset_j (by decide)]
    rw [eF279 _ _ (by decide)]
    rw [eF276, mz_n (by decide)]
    rw [eF275, mset_k (by decide)]
    rw [eF272 _ _ (by decide)]
    rw [eF269, mz_n (by decide)]
    rw [eF268, mset_j (by decide)]
    rw [eF265 _ _ (by decide)]
    rw [eF262, mz_n (by decide)]
    rw [eF261, mset_k (by decide)]
    rw [eF258 _ _ (by decide)]
    rw [eF255, mz_n (by decide)]
    rw [eF254]
    exact mset_s
  · show FZ 921 4 = some 1153
    rw [hn 921 4 (by decide) (by decide)]
    rw [eF303, mset_j (by decide)]
    rw [eF300 _ _ (by decide)]
    rw [eF297, mz_n (by decide)]
    rw [eF296, mset_k (by decide)]
    rw [eF293 _ _ (by decide)]
    rw [eF290, mz_n (by decide)]
    rw [eF289, mset_j (by decide)]
    rw [eF286 _ _ (by decide)]
    rw [eF283, mz_n (by decide)]
    rw [eF282, mset_k (by decide)]
    rw [eF279 _ _ (by decide)]
    rw [eF276, mz_n (by decide)]
    rw [eF275, mset_j (by decide)]
    rw [eF272 _ _ (by decide)]
    rw [eF269, mz_n (by decide)]
    rw [eF268, mset_k (by decide)]
    rw [eF265 _ _ (by decide)]
    rw [eF262, mz_n (by decide)]
    rw [eF261, mset_j (by decide)]
    rw [eF258 _ _ (by decide)]
    rw [eF255, mz_n (by decide)]
    rw [eF254, mset_k (by decide)]
    rw [eF251 _ _ (by decide)]
    rw [eF248, mz_n (by decide)]
    rw [eF247]
    exact mset_s
def fx_rc6 : List Nat := [1365, 1335, 1312, 1282, 1259, 1229, 1206, 1176, 1153] ++ fx_rc7
set_option maxHeartbeats 4000000 in
set_option maxRecDepth 100000 in
theorem fx_c6 {fu : Nat} {F240 : mwF} {M238 : mwM} {L239 : mwL} {FZ : mwF} {MZ : mwM} {LZ : mwL} (hD : DX19_s6 fu F240 M238 L239 = some (FZ, MZ, LZ)) : ∀ a ∈ fx_rc6, cpx FZ a := by
  unfold DX19_s6 at hD
  obtain ⟨F241, eF241, hD⟩ := g_let hD
  obtain ⟨M242, eM242, hD⟩ := g_let hD
  obtain ⟨L243, eL243, hD⟩ := g_let hD
  obtain ⟨F244, M245, L246, hc244, hD⟩ := g_b3 hD
  have eF244 : ∀ a j, (a < 1153 ∨ 1176 ≤ a) → F244 a j = F241 a j := fun a j ha => kX16_init hc244 a j (by omega)
  obtain ⟨F247, eF247, hD⟩ := g_let hD
  obtain ⟨F248, eF248, hD⟩ := g_let hD
  obtain ⟨M249, eM249, hD⟩ := g_let hD
  obtain ⟨L250, eL250, hD⟩ := g_let hD
  obtain ⟨F251, M252, L253, hc251, hD⟩ := g_b3 hD
  have eF251 : ∀ a j, (a < 1176 ∨ 1206 ≤ a) → F251 a j = F248 a j := fun a j ha => kX13_init hc251 a j (by omega)
  obtain ⟨F254, eF254, hD⟩ := g_let hD
  obtain ⟨F255, eF255, hD⟩ := g_let hD
  obtain ⟨M256, eM256, hD⟩ := g_let hD
  obtain ⟨L257, eL257, hD⟩ := g_let hD
  obtain ⟨F258, M259, L260, hc258, hD⟩ := g_b3 hD
  have eF258 : ∀ a j, (a < 1206 ∨ 1229 ≤ a) → F258 a j = F255 a j := fun a j ha => kX16_init hc258 a j (by omega)
  obtain ⟨F261, eF261, hD⟩ := g_let hD
  obtain ⟨F262, eF262, hD⟩ := g_let hD
  obtain ⟨M263, eM263, hD⟩ := g_let hD
  obtain ⟨L264, eL264, hD⟩ := g_let hD
  obtain ⟨F265, M266, L267, hc265, hD⟩ := g_b3 hD
  have eF265 : ∀ a j, (a < 1229 ∨ 1259 ≤ a) → F265 a j = F262 a j := fun a j ha => kX13_init hc265 a j (by omega)
  obtain ⟨F268, eF268, hD⟩ := g_let hD
  obtain ⟨F269, eF269, hD⟩ := g_let hD
  obtain ⟨M270, eM270, hD⟩ := g_let hD
  obtain ⟨L271, eL271, hD⟩ := g_let hD
  obtain ⟨F272, M273, L274, hc272, hD⟩ := g_b3 hD
  have eF272 : ∀ a j, (a < 1259 ∨ 1282 ≤ a) → F272 a j = F269 a j := fun a j ha => kX16_init hc272 a j (by omega)
  obtain ⟨F275, eF275, hD⟩ := g_let hD
  obtain ⟨F276, eF276, hD⟩ := g_let hD
  obtain ⟨M277, eM277, hD⟩ := g_let hD
  obtain ⟨L278, eL278, hD⟩ := g_let hD
  obtain ⟨F279, M280, L281, hc279, hD⟩ := g_b3 hD
  have eF279 : ∀ a j, (a < 1282 ∨ 1312 ≤ a) → F279 a j = F276 a j := fun a j ha => kX13_init hc279 a j (by omega)
  obtain ⟨F282, eF282, hD⟩ := g_let hD
  obtain ⟨F283, eF283, hD⟩ := g_let hD
  obtain ⟨M284, eM284, hD⟩ := g_let hD
  obtain ⟨L285, eL285, hD⟩ := g_let hD
  obtain ⟨F286, M287, L288, hc286, hD⟩ := g_b3 hD
  have eF286 : ∀ a j, (a < 1312 ∨ 1335 ≤ a) → F286 a j = F283 a j := fun a j ha => kX16_init hc286 a j (by omega)
  obtain ⟨F289, eF289, hD⟩ := g_let hD
  obtain ⟨F290, eF290, hD⟩ := g_let hD
  obtain ⟨M291, eM291, hD⟩ := g_let hD
  obtain ⟨L292, eL292, hD⟩ := g_let hD
  obtain ⟨F293, M294, L295, hc293, hD⟩ := g_b3 hD
  have eF293 : ∀ a j, (a < 1335 ∨ 1365 ≤ a) → F293 a j = F290 a j := fun a j ha => kX13_init hc293 a j (by omega)
  obtain ⟨F296, eF296, hD⟩ := g_let hD
  obtain ⟨F297, eF297, hD⟩ := g_let hD
  obtain ⟨M298, eM298, hD⟩ := g_let hD
  obtain ⟨L299, eL299, hD⟩ := g_let hD
  obtain ⟨F300, M301, L302, hc300, hD⟩ := g_b3 hD
  have eF300 : ∀ a j, (a < 1365 ∨ 1388 ≤ a) → F300 a j = F297 a j := fun a j ha => kX16_init hc300 a j (by omega)
  obtain ⟨F303, eF303, hD⟩ := g_let hD
  have hn := fx_k7 hD
  refine List.forall_mem_append.mpr ⟨List.forall_mem_cons.mpr ⟨?_, List.forall_mem_cons.mpr ⟨?_, List.forall_mem_cons.mpr ⟨?_, List.forall_mem_cons.mpr ⟨?_, List.forall_mem_cons.mpr ⟨?_, List.forall_mem_cons.mpr ⟨?_, List.forall_mem_cons.mpr ⟨?_, List.forall_mem_cons.mpr ⟨?_, List.forall_mem_cons.mpr ⟨?_, fun _ h => absurd h List.not_mem_nil⟩⟩⟩⟩⟩⟩⟩⟩⟩, fx_c7 hD⟩
  · refine cpx_keep (F := F300) (show cpx F300 1365 from gX16_init (isMp_of (x := 8) (by decide)) hc300 0 (List.mem_of_getElem? (i := 0) rfl)) (fun j => ?_)
    rw [hn 1365 j (by decide) (fx_wn7 (by decide))]
    rw [eF303, mset_k (by decide)]
  · refine cpx_keep (F := F293) (show cpx F293 1335 from gX13_init (isMc_of (x := 7) (by decide)) hc293 0 (List.mem_of_getElem? (i := 0) rfl)) (fun j => ?_)
    rw [hn 1335 j (by decide) (fx_wn7 (by decide))]
    rw [eF303, mset_k (by decide)]
    rw [eF300 _ _ (by decide)]
    rw [eF297, mz_n (by decide)]
    rw [eF296, mset_k (by decide)]
  · refine cpx_keep (F := F286) (show cpx F286 1312 from gX16_init (isMp_of (x := 7) (by decide)) hc286 0 (List.mem_of_getElem? (i := 0) rfl)) (fun j => ?_)
    rw [hn 1312 j (by decide) (fx_wn7 (by decide))]
    rw [eF303, mset_k (by decide)]
    rw [eF300 _ _ (by decide)]
    rw [eF297, mz_n (by decide)]
    rw [eF296, mset_k (by decide)]
    rw [eF293 _ _ (by decide)]
    rw [eF290, mz_n (by decide)]
    rw [eF289, mset_k (by decide)]
  · refine cpx_keep (F := F279) (show cpx F279 1282 from gX13_init (isMc_of (x := 6) (by decide)) hc279 0 (List.mem_of_getElem? (i := 0) rfl)) (fun j => ?_)
    rw [hn 1282 j (by decide) (fx_wn7 (by decide))]
    rw [eF303, mset_k (by decide)]
    rw [eF300 _ _ (by decide)]
    rw [eF297, mz_n (by decide)]
    rw [eF296, mset_k (by decide)]
    rw [eF293 _ _ (by decide)]
    rw [eF290, mz_n (by decide)]
    rw [eF289, mset_k (by decide)]
    rw [eF286 _ _ (by decide)]
    rw [eF283, mz_n (by decide)]
    rw [eF282, mset_k (by decide)]
  · refine cpx_keep (F := F272) (show cpx F272 1259 from gX16_init (isMp_of (x := 6) (by decide)) hc272 0 (List.mem_of_getElem? (i := 0) rfl)) (fun j => ?_)
    rw [hn 1259 j (by decide) (fx_wn7 (by decide))]
    rw [eF303, mset_k (by decide)]
    rw [eF300 _ _ (by decide)]
    rw [eF297, mz_n (by decide)]
    rw [eF296, mset_k (by decide)]
    rw [eF293 _ _ (by decide)]
    rw [eF290, mz_n (by decide)]
    rw [eF289, mset_k (by decide)]
    rw [eF286 _ _ (by decide)]
    rw [eF283, mz_n (by decide)]
    rw [eF282, mset_k (by decide)]
    rw [eF279 _ _ (by decide)]
    rw [eF276, mz_n (by decide)]
    rw [eF275, mset_k (by decide)]
  · refine cpx_keep (F := F265) (show cpx F265 1229 from gX13_init (isMc_of (x := 5) (by decide)) hc265 0 (List.mem_of_getElem? (i := 0) rfl)) (fun j => ?_)
    rw [hn 1229 j (by decide) (fx_wn7 (by decide))]
    rw [eF303, mset_k (by decide)]
    rw [eF300 _ _ (by decide)]
    rw [eF297, mz_n (by decide)]
    rw [eF296, mset_k (by decide)]
    rw [eF293 _ _ (by decide)]
    rw [eF290, mz_n (by decide)]
    rw [eF289, mset_k (by decide)]
    rw [eF286 _ _ (by decide)]
    rw [eF283, mz_n (by decide)]
    rw [eF282, mset_k (by decide)]
    rw [eF279 _ _ (by decide)]
    rw [eF276, mz_n (by decide)]
    rw [eF275, mset_k (by decide)]
    rw [eF272 _ _ (by decide)]
    rw [eF269, mz_n (by decide)]
    rw [eF268, mset_k (by decide)]
  · refine cpx_keep (F := F258) (show cpx F258 1206 from gX16_init (isMp_of (x := 5) (by decide)) hc258 0 (List.mem_of_getElem? (i := 0) rfl)) (fun j => ?_)
    rw [hn 1206 j (by decide) (fx_wn7 (by decide))]
    rw [eF303, mset_k (by decide)]
    rw [eF300 _ _ (by decide)]
    rw [eF297, mz_n (by decide)]
    rw [eF296, mset_k (by decide)]
    rw [eF293 _ _ (by decide)]
    rw [eF290, mz_n (by decide)]
    rw [eF289, mset_k (by decide)]
    rw [eF286 _ _ (by decide)]
    rw [eF283, mz_n (by decide)]
    rw [eF282, mset_k (by decide)]
    rw [eF279 _ _ (by decide)]
    rw [eF276, mz_n (by decide)]
    rw [eF275, mset_k (by decide)]
    rw [eF272 _ _ (by decide)]
    rw [eF269, mz_n (by decide)]
    rw [eF268, mset_k (by decide)]
    rw [eF265 _ _ (by decide)]
    rw [eF262, mz_n (by decide)]
    rw [eF261, mset_k (by decide)]
  · refine cpx_keep (F := F251) (show cpx F251 1176 from gX13_init (isMc_of (x := 4) (by decide)) hc251 0 (List.mem_of_getElem? (i := 0) rfl)) (fun j => ?_)
    rw [hn 1176 j (by decide) (fx_wn7 (by decide))]
    rw [eF303, mset_k (by decide)]
    rw [eF300 _ _ (by decide)]
    rw [eF297, mz_n (by decide)]
    rw [eF296, mset_k (by decide)]
    rw [eF293 _ _ (by decide)]
    rw [eF290, mz_n (by decide)]
    rw [eF289, mset_k (by decide)]
    rw [eF286 _ _ (by decide)]
    rw [eF283, mz_n (by decide)]
    rw [eF282, mset_k (by decide)]
    rw [eF279 _ _ (by decide)]
    rw [eF276, mz_n (by decide)]
    rw [eF275, mset_k (by decide)]
    rw [eF272 _ _ (by decide)]
    rw [eF269, mz_n (by decide)]
    rw [eF268, mset_k (by decide)]
    rw [eF265 _ _ (by decide)]
    rw [eF262, mz_n (by decide)]
    rw [eF261, mset_k (by decide)]
    rw [eF258 _ _ (by decide)]
    rw [eF255, mz_n (by decide)]
    rw [eF254, mset_k (by decide)]
  · refine cpx_keep (F := F244) (show cpx F244 1153 from gX16_init (isMp_of (x := 4) (by decide)) hc244 0 (List.mem_of_getElem? (i := 0) rfl)) (fun j => ?_)
    rw [hn 1153 j (by decide) (fx_wn7 (by decide))]
    rw [eF303, mset_k (by decide)]
    rw [eF300 _ _ (by decide)]
    rw [eF297, mz_n (by decide)]
    rw [eF296, mset_k (by decide)]
    rw [eF293 _ _ (by decide)]
    rw [eF290, mz_n (by decide)]
    rw [eF289, mset_k (by decide)]
    rw [eF286 _ _ (by decide)]
    rw [eF283, mz_n (by decide)]
    rw [eF282, mset_k (by decide)]
    rw [eF279 _ _ (by decide)]
    rw [eF276, mz_n (by decide)]
    rw [eF275, mset_k (by decide)]
    rw [eF272 _ _ (by decide)]
    rw [eF269, mz_n (by decide)]
    rw [eF268, mset_k (by decide)]
    rw [eF265 _ _ (by decide)]
    rw [eF262, mz_n (by decide)]
    rw [eF261, mset_k (by decide)]
    rw [eF258 _ _ (by decide)]
    rw [eF255, mz_n (by decide)]
    rw [eF254, mset_k (by decide)]
    rw [eF251 _ _ (by decide)]
    rw [eF248, mz_n (by decide)]
    rw [eF247, mset_k (by decide)]
def fx_ws5 : List (Nat × Nat) := [(922, 3), (921, 3), (922, 2), (921, 2), (922, 1), (921, 1), (922, 0), (921, 0), (732, 111), (732, 109)] ++ fx_ws6
def fx_vs5 : List (Nat × Nat × Nat) := [(922, 3, 1123), (921, 3, 1100), (922, 2, 1070), (921, 2, 1047), (922, 1, 1017), (921, 1, 994), (922, 0, 964), (921, 0, 941), (732, 111, 940), (732, 109, 939)] ++ fx_vs6
theorem fx_wn5 {a j : Nat} (h : a ≠ 732 ∧ a ≠ 921 ∧ a ≠ 922) : (a, j) ∉ fx_ws5 := fun q => by
  have q2 := List.all_eq_true.mp (show fx_ws5.all (fun p => decide (p.1 = 732 ∨ p.1 = 921 ∨ p.1 = 922)) = true by decide +kernel) _ q
  have q3 := of_decide_eq_true q2
  dsimp only at q3
  omega
set_option maxHeartbeats 4000000 in
set_option maxRecDepth 100000 in
theorem fx_k5 {fu : Nat} {F180 : mwF} {M179 : mwM} {L152 : mwL} {FZ : mwF} {MZ : mwM} {LZ : mwL} (hD : DX19_s5 fu F180 M179 L152 = some (FZ, MZ, LZ)) : ∀ a j, a < 939 → (a, j) ∉ fx_ws5 → FZ a j = F180 a j := by
  unfold DX19_s5 at hD
  obtain ⟨M181, eM181, hD⟩ := g_let hD
  obtain ⟨F182, eF182, hD⟩ := g_let hD
  obtain ⟨M183, eM183, hD⟩ := g_let hD
  obtain ⟨F184, eF184, hD⟩ := g_let hD
  obtain ⟨F185, eF185, hD⟩ := g_let hD
  obtain ⟨M186, eM186, hD⟩ := g_let hD
  obtain ⟨L187, eL187, hD⟩ := g_let hD
  obtain ⟨F188, M189, L190, hc188, hD⟩ := g_b3 hD
  have eF188 : ∀ a j, (a < 941 ∨ 964 ≤ a) → F188 a j = F185 a j := fun a j ha => kX16_init hc188 a j (by omega)
  obtain ⟨F191, eF191, hD⟩ := g_let hD
  obtain ⟨F192, eF192, hD⟩ := g_let hD
  obtain ⟨M193, eM193, hD⟩ := g_let hD
  obtain ⟨L194, eL194, hD⟩ := g_let hD
  obtain ⟨F195, M196, L197, hc195, hD⟩ := g_b3 hD
  have eF195 : ∀ a j, (a < 964 ∨ 994 ≤ a) → F195 a j = F192 a j := fun a j ha => kX13_init hc195 a j (by omega)
  obtain ⟨F198, eF198, hD⟩ := g_let hD
  obtain ⟨F199, eF199, hD⟩ := g_let hD
  obtain ⟨M200, eM200, hD⟩ := g_let hD
  obtain ⟨L201, eL201, hD⟩ := g_let hD
  obtain ⟨F202, M203, L204, hc202, hD⟩ := g_b3 hD
  have eF202 : ∀ a j, (a < 994 ∨ 1017 ≤ a) → F202 a j = F199 a j := fun a j ha => kX16_init hc202 a j (by omega)
  obtain ⟨F205, eF205, hD⟩ := g_let hD
  obtain ⟨F206, eF206, hD⟩ := g_let hD
  obtain ⟨M207, eM207, hD⟩ := g_let hD
  obtain ⟨L208, eL208, hD⟩ := g_let hD
  obtain ⟨F209, M210, L211, hc209, hD⟩ := g_b3 hD
  have eF209 : ∀ a j, (a < 1017 ∨ 1047 ≤ a) → F209 a j = F206 a j := fun a j ha => kX13_init hc209 a j (by omega)
  obtain ⟨F212, eF212, hD⟩ := g_let hD
  obtain ⟨F213, eF213, hD⟩ := g_let hD
  obtain ⟨M214, eM214, hD⟩ := g_let hD
  obtain ⟨L215, eL215, hD⟩ := g_let hD
  obtain ⟨F216, M217, L218, hc216, hD⟩ := g_b3 hD
  have eF216 : ∀ a j, (a < 1047 ∨ 1070 ≤ a) → F216 a j = F213 a j := fun a j ha => kX16_init hc216 a j (by omega)
  obtain ⟨F219, eF219, hD⟩ := g_let hD
  obtain ⟨F220, eF220, hD⟩ := g_let hD
  obtain ⟨M221, eM221, hD⟩ := g_let hD
  obtain ⟨L222, eL222, hD⟩ := g_let hD
  obtain ⟨F223, M224, L225, hc223, hD⟩ := g_b3 hD
  have eF223 : ∀ a j, (a < 1070 ∨ 1100 ≤ a) → F223 a j = F220 a j := fun a j ha => kX13_init hc223 a j (by omega)
  obtain ⟨F226, eF226, hD⟩ := g_let hD
  obtain ⟨F227, eF227, hD⟩ := g_let hD
  obtain ⟨M228, eM228, hD⟩ := g_let hD
  obtain ⟨L229, eL229, hD⟩ := g_let hD
  obtain ⟨F230, M231, L232, hc230, hD⟩ := g_b3 hD
  have eF230 : ∀ a j, (a < 1100 ∨ 1123 ≤ a) → F230 a j = F227 a j := fun a j ha => kX16_init hc230 a j (by omega)
  obtain ⟨F233, eF233, hD⟩ := g_let hD
  obtain ⟨F234, eF234, hD⟩ := g_let hD
  obtain ⟨M235, eM235, hD⟩ := g_let hD
  obtain ⟨L236, eL236, hD⟩ := g_let hD
  obtain ⟨F237, M238, L239, hc237, hD⟩ := g_b3 hD
  have eF237 : ∀ a j, (a < 1123 ∨ 1153 ≤ a) → F237 a j = F234 a j := fun a j ha => kX13_init hc237 a j (by omega)
  obtain ⟨F240, eF240, hD⟩ := g_let hD
  have hn := fx_k6 hD
  intro a j ha hw
  rw [hn a j (by omega) (fun q => hw (List.mem_append_right _ q))]
  rw [eF240, mset_n (fun q => hw (by rw [q.1, q.2]; decide))]
  rw [eF237 _ _ (by omega)]
  rw [eF234, mz_n (by omega)]
  rw [eF233, mset_n (fun q => hw (by rw [q.1, q.2]; decide))]
  rw [eF230 _ _ (by omega)]
  rw [eF227, mz_n (by omega)]
  rw [eF226, mset_n (fun q => hw (by rw [q.1, q.2]; decide))]
  rw [eF223 _ _ (by omega)]
  rw [eF220, mz_n (by omega)]
  rw [eF219, mset_n (fun q => hw (by rw [q.1, q.2]; decide))]
  rw [eF216 _ _ (by omega)]
  rw [eF213, mz_n (by omega)]
  rw [eF212, mset_n (fun q => hw (by rw [q.1, q.2]; decide))]
  rw [eF209 _ _ (by omega)]
  rw [eF206, mz_n (by omega)]
  rw [eF205, mset_n (fun q => hw (by rw [q.1, q.2]; decide))]
  rw [eF202 _ _ (by omega)]
  rw [eF199, mz_n (by omega)]
  rw [eF198, mset_n (fun q => hw (by rw [q.1, q.2]; decide))]
  rw [eF195 _ _ (by omega)]
  rw [eF192, mz_n (by omega)]
  rw [eF191, mset_n (fun q => hw (by rw [q.1, q.2]; decide))]
  rw [eF188 _ _ (by omega)]
  rw [eF185, mz_n (by omega)]
  rw [eF184, mset_n (fun q => hw (by rw [q.1, q.2]; decide))]
  rw [eF182, mset_n (fun q => hw (by rw [q.1, q.2]; decide))]
set_option maxHeartbeats 4000000 in
set_option maxRecDepth 100000 in
theorem fx_v5 {fu : Nat} {F180 : mwF} {M179 : mwM} {L152 : mwL} {FZ : mwF} {MZ : mwM} {LZ : mwL} (hD : DX19_s5 fu F180 M179 L152 = some (FZ, MZ, LZ)) : ∀ t ∈ fx_vs5, FZ t.1 t.2.1 = some t.2.2 := by
  unfold DX19_s5 at hD
  obtain ⟨M181, eM181, hD⟩ := g_let hD
  obtain ⟨F182, eF182, hD⟩ := g_let hD
  obtain ⟨M183, eM183, hD⟩ := g_let hD
  obtain ⟨F184, eF184, hD⟩ := g_let hD
  obtain ⟨F185, eF185, hD⟩ := g_let hD
  obtain ⟨M186, eM186, hD⟩ := g_let hD
  obtain ⟨L187, eL187, hD⟩ := g_let hD
  obtain ⟨F188, M189, L190, hc188, hD⟩ := g_b3 hD
  have eF188 : ∀ a j, (a < 941 ∨ 964 ≤ a) → F188 a j = F185 a j := fun a j ha => kX16_init hc188 a j (by omega)
  obtain ⟨F191, eF191, hD⟩ := g_let hD
  obtain ⟨F192, eF192, hD⟩ := g_let hD
  obtain ⟨M193, eM193, hD⟩ := g_let hD
  obtain ⟨L194, eL194, hD⟩ := g_let hD
  obtain ⟨F195, M196, L197, hc195, hD⟩ := g_b3 hD
  have eF195 : ∀ a j, (a < 964 ∨ 994 ≤ a) → F195 a j = F192 a j := fun a j ha => kX13_init hc195 a j (by omega)
  obtain ⟨F198, eF198, hD⟩ := g_let hD
  obtain ⟨F199, eF199, hD⟩ := g_let hD
  obtain ⟨M200, eM200, hD⟩ := g_let hD
  obtain ⟨L201, eL201, hD⟩ := g_let hD
  obtain ⟨F202, M203, L204, hc202, hD⟩ := g_b3 hD
  have eF202 : ∀ a j, (a < 994 ∨ 1017 ≤ a) → F202 a j = F199 a j := fun a j ha => kX16_init hc202 a j (by omega)
  obtain ⟨F205, eF205, hD⟩ := g_let hD
  obtain ⟨F206, eF206, hD⟩ := g_let hD
  obtain ⟨M207, eM207, hD⟩ := g_let hD
  obtain ⟨L208, eL208, hD⟩ := g_let hD
  obtain ⟨F209, M210, L211, hc209, hD⟩ := g_b3 hD
  have eF209 : ∀ a j, (a < 1017 ∨ 1047 ≤ a) → F209 a j = F206 a j := fun a j ha => kX13_init hc209 a j (by omega)
  obtain ⟨F212, eF212, hD⟩ := g_let hD
  obtain ⟨F213, eF213, hD⟩ := g_let hD
  obtain ⟨M214, eM214, hD⟩ := g_let hD
  obtain ⟨L215, eL215, hD⟩ := g_let hD
  obtain ⟨F216, M217, L218, hc216, hD⟩ := g_b3 hD
  have eF216 : ∀ a j, (a < 1047 ∨ 1070 ≤ a) → F216 a j = F213 a j := fun a j ha => kX16_init hc216 a j (by omega)
  obtain ⟨F219, eF219, hD⟩ := g_let hD
  obtain ⟨F220, eF220, hD⟩ := g_let hD
  obtain ⟨M221, eM221, hD⟩ := g_let hD
  obtain ⟨L222, eL222, hD⟩ := g_let hD
  obtain ⟨F223, M224, L225, hc223, hD⟩ := g_b3 hD
  have eF223 : ∀ a j, (a < 1070 ∨ 1100 ≤ a) → F223 a j = F220 a j := fun a j ha => kX13_init hc223 a j (by omega)
  obtain ⟨F226, eF226, hD⟩ := g_let hD
  obtain ⟨F227, eF227, hD⟩ := g_let hD
  obtain ⟨M228, eM228, hD⟩ := g_let hD
  obtain ⟨L229, eL229, hD⟩ := g_let hD
  obtain ⟨F230, M231, L232, hc230, hD⟩ := g_b3 hD
  have eF230 : ∀ a j, (a < 1100 ∨ 1123 ≤ a) → F230 a j = F227 a j := fun a j ha => kX16_init hc230 a j (by omega)
  obtain ⟨F233, eF233, hD⟩ := g_let hD
  obtain ⟨F234, eF234, hD⟩ := g_let hD
  obtain ⟨M235, eM235, hD⟩ := g_let hD
  obtain ⟨L236, eL236, hD⟩ := g_let hD
  obtain ⟨F237, M238, L239, hc237, hD⟩ := g_b3 hD
  have eF237 : ∀ a j, (a < 1123 ∨ 1153 ≤ a) → F237 a j = F234 a j := fun a j ha => kX13_init hc237 a j (by omega)
  obtain ⟨F240, eF240, hD⟩ := g_let hD
  have hn := fx_k6 hD
  refine List.forall_mem_append.mpr ⟨List.forall_mem_cons.mpr ⟨?_, List.forall_mem_cons.mpr ⟨?_, List.forall_mem_cons.mpr ⟨?_, List.forall_mem_cons.mpr ⟨?_, List.forall_mem_cons.mpr ⟨?_, List.forall_mem_cons.mpr ⟨?_, List.forall_mem_cons.mpr ⟨?_, List.forall_mem_cons.mpr ⟨?_, List.forall_mem_cons.mpr ⟨?_, List.forall_mem_cons.mpr ⟨?_, fun _ h => absurd h List.not_mem_nil⟩⟩⟩⟩⟩⟩⟩⟩⟩⟩, fx_v6 hD⟩
  · show FZ 922 3 = some 1123
    rw [hn 922 3 (by decide) (by decide)]
    rw [eF240]
    exact mset_s
  · show FZ 921 3 = some 1100
    rw [hn 921 3 (by decide) (by decide)]
    rw [eF240, mset_k (by decide)]
    rw [eF237 _ _ (by decide)]
    rw [eF234, mz_n (by decide)]
    rw [eF233]
    exact mset_s
  · show FZ 922 2 = some 1070
    rw [hn 922 2 (by decide) (by decide)]
    rw [eF240, mset_j (by decide)]
    rw [eF237 _ _ (by decide)]
    rw [eF234, mz_n (by decide)]
    rw [eF233, mset_k (by decide)]
    rw [eF230 _ _ (by decide)]
    rw [eF227, mz_n (by decide)]
    rw [eF226]
    exact mset_s
  · show FZ 921 2 = some 1047
    rw [hn 921 2 (by decide) (by decide)]
    rw [eF240, mset_k (by decide)]
    rw [eF237 _ _ (by decide)]
    rw [eF234, mz_n (by decide)]
    rw [eF233, mset_j (by decide)]
    rw [eF230 _ _ (by decide)]
    rw [eF227, mz_n (by decide)]
    rw [eF226, mset_k (by decide)]
    rw [eF223 _ _ (by decide)]
    rw [eF220, mz_n (by decide)]
    rw [eF219]
    exact mset_s
  · show FZ 922 1 = some 1017
    rw [hn 922 1 (by decide) (by decide)]
    rw [eF240, mset_j (by decide)]
    rw [eF237 _ _ (by decide)]
    rw [eF234, mz_n (by decide)]
    rw [eF233, mset_k (by decide)]
    rw [eF230 _ _ (by decide)]
    rw [eF227, mz_n (by decide)]
    rw [eF226, mset_j (by decide)]
    rw [eF223 _ _ (by decide)]
    rw [eF220, mz_n (by decide)]
    rw [eF219, mset_k (by decide)]
    rw [eF216 _ _ (by decide)]
    rw [eF213, mz_n (by decide)]
    rw [eF212]
    exact mset_s
  · show FZ 921 1 = some 994
    rw [hn 921 1 (by decide) (by decide)]
    rw [eF240, mset_k (by decide)]
    rw [eF237 _ _ (by decide)]
    rw [eF234, mz_n (by decide)]
    rw [eF233, mset_j (by decide)]
    rw [eF230 _ _ (by decide)]
    rw [eF227, mz_n (by decide)]
    rw [eF226, mset_k (by decide)]
    rw [eF223 _ _ (by decide)]
    rw [eF220, mz_n (by decide)]
    rw [eF219, mset_j (by decide)]
    rw [eF216 _ _ (by decide)]
    rw [eF213, mz_n (by decide)]
    rw [eF212, mset_k (by decide)]
    rw [eF209 _ _ (by decide)]
    rw [eF206, mz_n (by decide)]
    rw [eF205]
    exact mset_s
  · show FZ 922 0 = some 964
    rw [hn 922 0 (by decide) (by decide)]
    rw [eF240, mset_j (by decide)]
    rw [eF237 _ _ (by decide)]
    rw [eF234, mz_n (by decide)]
    rw [eF233, mset_k (by decide)]
    rw [eF230 _ _ (by decide)]
    rw [eF227, mz_n (by decide)]
    rw [eF226, mset_j (by decide)]
    rw [eF223 _ _ (by decide)]
    rw [eF220, mz_n (by decide)]
    rw [eF219, mset_k (by decide)]
    rw [eF216 _ _ (by decide)]
    rw [eF213, mz_n (by decide)]
    rw [eF212, mset_j (by decide)]
    rw [eF209 _ _ (by decide)]
    rw [eF206, mz_n (by decide)]
    rw [eF205, mset_k (by decide)]
    rw [eF202 _ _ (by decide)]
    rw [eF199, mz_n (by decide)]
    rw [eF198]
    exact mset_s
  · show FZ 921 0 = some 941
    rw [hn 921 0 (by decide) (by decide)]
    rw [eF240, mset_k (by decide)]
    rw [eF237 _ _ (by decide)]
    rw [eF234, mz_n (by decide)]
    rw [eF233, mset_j (by decide)]
    rw [eF230 _ _ (by decide)]
    rw [eF227, mz_n (by decide)]
    rw [eF226, mset_k (by decide)]
    rw [eF223 _ _ (by decide)]
    rw [eF220, mz_n (by decide)]
    rw [eF219, mset_j (by decide)]
    rw [eF216 _ _ (by decide)]
    rw [eF213, mz_n (by decide)]
    rw [eF212, mset_k (by decide)]
    rw [eF209 _ _ (by decide)]
    rw [eF206, mz_n (by decide)]
    rw [eF205, mset_j (by decide)]
    rw [eF202 _ _ (by decide)]
    rw [eF199, mz_n (by decide)]
    rw [eF198, mset_k (by decide)]
    rw [eF195 _ _ (by decide)]
    rw [eF192, mz_n (by decide)]
    rw [eF191]
    exact mset_s
  · show FZ 732 111 = some 940
    rw [hn 732 111 (by decide) (by decide)]
    rw [eF240, mset_k (by decide)]
    rw [eF237 _ _ (by decide)]
    rw [eF234, mz_n (by decide)]
    rw [eF233, mset_k (by decide)]
    rw [eF230 _ _ (by decide)]
    rw [eF227, mz_n (by decide)]
    rw [eF226, mset_k (by decide)]
    rw [eF223 _ _ (by decide)]
    rw [eF220, mz_n (by decide)]
    rw [eF219, mset_k (by decide)]
    rw [eF216 _ _ (by decide)]
    rw [eF213, mz_n (by decide)]
    rw [eF212, mset_k (by decide)]
    rw [eF209 _ _ (by decide)]
    rw [eF206, mz_n (by decide)]
    rw [eF205, mset_k (by decide)]
    rw [eF202 _ _ (by decide)]
    rw [eF199, mz_n (by decide)]
    rw [eF198, mset_k (by decide)]
    rw [eF195 _ _ (by decide)]
    rw [eF192, mz_n (by decide)]
    rw [eF191, mset_k (by decide)]
    rw [eF188 _ _ (by decide)]
    rw [eF185, mz_n (by decide)]
    rw [eF184]
    exact mset_s
  · show FZ 732 109 = some 939
    rw [hn 732 109 (by decide) (by decide)]
    rw [eF240, mset_k (by decide)]
    rw [eF237 _ _ (by decide)]
    rw [eF234, mz_n (by decide)]
    rw [eF233, mset_k (by decide)]
    rw [eF230 _ _ (by decide)]
    rw [eF227, mz_n (by decide)]
    rw [eF226, mset_k (by decide)]
    rw [eF223 _ _ (by decide)]
    rw [eF220, mz_n (by decide)]
    rw [eF219, mset_k (by decide)]
    rw [eF216 _ _ (by decide)]
    rw [eF213, mz_n (by decide)]
    rw [eF212, mset_k (by decide)]
    rw [eF209 _ _ (by decide)]
    rw [eF206, mz_n (by decide)]
    rw [eF205, mset_k (by decide)]
    rw [eF202 _ _ (by decide)]
    rw [eF199, mz_n (by decide)]
    rw [eF198, mset_k (by decide)]
    rw [eF195 _ _ (by decide)]
    rw [eF192, mz_n (by decide)]
    rw [eF191, mset_k (by decide)]
    rw [eF188 _ _ (by decide)]
    rw [eF185, mz_n (by decide)]
    rw [eF184, mset_j (by decide)]
    rw [eF182]
    exact mset_s
def fx_rc5 : List Nat := [1123, 1100, 1070, 1047, 1017, 994, 964, 941] ++ fx_rc6
set_option maxHeartbeats 4000000 in
set_option maxRecDepth 100000 in
theorem fx_c5 {fu : Nat} {F180 : mwF} {M179 : mwM} {L152 : mwL} {FZ : mwF} {MZ : mwM} {LZ : mwL} (hD : DX19_s5 fu F180 M179 L152 = some (FZ, MZ, LZ)) : ∀ a ∈ fx_rc5, cpx FZ a := by
  unfold DX19_s5 at hD
  obtain ⟨M181, eM181, hD⟩ := g_let hD
  obtain ⟨F182, eF182, hD⟩ := g_let hD
  obtain ⟨M183, eM183, hD⟩ := g_let hD
  obtain ⟨F184, eF184, hD⟩ := g_let hD
  obtain ⟨F185, eF185, hD⟩ := g_let hD
  obtain ⟨M186, eM186, hD⟩ := g_let hD
  obtain ⟨L187, eL187, hD⟩ := g_let hD
  obtain ⟨F188, M189, L190, hc188, hD⟩ := g_b3 hD
  have eF188 : ∀ a j, (a < 941 ∨ 964 ≤ a) → F188 a j = F185 a j := fun a j ha => kX16_init hc188 a j (by omega)
  obtain ⟨F191, eF191, hD⟩ := g_let hD
  obtain ⟨F192, eF192, hD⟩ := g_let hD
  obtain ⟨M193, eM193, hD⟩ := g_let hD
  obtain ⟨L194, eL194, hD⟩ := g_let hD
  obtain ⟨F195, M196, L197, hc195, hD⟩ := g_b3 hD
  have eF195 : ∀ a j, (a < 964 ∨ 994 ≤ a) → F195 a j = F192 a j := fun a j ha => kX13_init hc195 a j (by omega)
  obtain ⟨F198, eF198, hD⟩ := g_let hD
  obtain ⟨F199, eF199, hD⟩ := g_let hD
  obtain ⟨M200, eM200, hD⟩ := g_let hD
  obtain ⟨L201, eL201, hD⟩ := g_let hD
  obtain ⟨F202, M203, L204, hc202, hD⟩ := g_b3 hD
  have eF202 : ∀ a j, (a < 994 ∨ 1017 ≤ a) → F202 a j = F199 a j := fun a j ha => kX16_init hc202 a j (by omega)
  obtain ⟨F205, eF205, hD⟩ := g_let hD
  obtain ⟨F206, eF206, hD⟩ := g_let hD
  obtain ⟨M207, eM207, hD⟩ := g_let hD
  obtain ⟨L208, eL208, hD⟩ := g_let hD
  obtain ⟨F209, M210, L211, hc209, hD⟩ := g_b3 hD
  have eF209 : ∀ a j, (a < 1017 ∨ 1047 ≤ a) → F209 a j = F206 a j := fun a j ha => kX13_init hc209 a j (by omega)
  obtain ⟨F212, eF212, hD⟩ := g_let hD
  obtain ⟨F213, eF213, hD⟩ := g_let hD
  obtain ⟨M214, eM214, hD⟩ := g_let hD
  obtain ⟨L215, eL215, hD⟩ := g_let hD
  obtain ⟨F216, M217, L218, hc216, hD⟩ := g_b3 hD
  have eF216 : ∀ a j, (a < 1047 ∨ 1070 ≤ a) → F216 a j = F213 a j := fun a j ha => kX16_init hc216 a j (by omega)
  obtain ⟨F219, eF219, hD⟩ := g_let hD
  obtain ⟨F220, eF220, hD⟩ := g_let hD
  obtain ⟨M221, eM221, hD⟩ := g_let hD
  obtain ⟨L222, eL222, hD⟩ := g_let hD
  obtain ⟨F223, M224, L225, hc223, hD⟩ := g_b3 hD
  have eF223 : ∀ a j, (a < 1070 ∨ 1100 ≤ a) → F223 a j = F220 a j := fun a j ha => kX13_init hc223 a j (by omega)
  obtain ⟨F226, eF226, hD⟩ := g_let hD
  obtain ⟨F227, eF227, hD⟩ := g_let hD
  obtain ⟨M228, eM228, hD⟩ := g_let hD
  obtain ⟨L229, eL229, hD⟩ := g_let hD
  obtain ⟨F230, M231, L232, hc230, hD⟩ := g_b3 hD
  have eF230 : ∀ a j, (a < 1100 ∨ 1123 ≤ a) → F230 a j = F227 a j := fun a j ha => kX16_init hc230 a j (by omega)
  obtain ⟨F233, eF233, hD⟩ := g_let hD
  obtain ⟨F234, eF234, hD⟩ := g_let hD
  obtain ⟨M235, eM235, hD⟩ := g_let hD
  obtain ⟨L236, eL236, hD⟩ := g_let hD
  obtain ⟨F237, M238, L239, hc237, hD⟩ := g_b3 hD
  have eF237 : ∀ a j, (a < 1123 ∨ 1153 ≤ a) → F237 a j = F234 a j := fun a j ha => kX13_init hc237 a j (by omega)
  obtain ⟨F240, eF240, hD⟩ := g_let hD
  have hn := fx_k6 hD
  refine List.forall_mem_append.mpr ⟨List.forall_mem_cons.mpr ⟨?_, List.forall_mem_cons.mpr ⟨?_, List.forall_mem_cons.mpr ⟨?_, List.forall_mem_cons.mpr ⟨?_, List.forall_mem_cons.mpr ⟨?_, List.forall_mem_cons.mpr ⟨?_, List.forall_mem_cons.mpr ⟨?_, List.forall_mem_cons.mpr ⟨?_, fun _ h => absurd h List.not_mem_nil⟩⟩⟩⟩⟩⟩⟩⟩, fx_c6 hD⟩
  · refine cpx_keep (F := F237) (show cpx F237 1123 from gX13_init (isMc_of (x := 3) (by decide)) hc237 0 (List.mem_of_getElem? (i := 0) rfl)) (fun j => ?_)
    rw [hn 1123 j (by decide) (fx_wn6 (by decide))]
    rw [eF240, mset_k (by decide)]
  · refine cpx_keep (F := F230) (show cpx F230 1100 from gX16_init (isMp_of (x := 3) (by decide)) hc230 0 (List.mem_of_getElem? (i := 0) rfl)) (fun j => ?_)
    rw [hn 1100 j (by decide) (fx_wn6 (by decide))]
    rw [eF240, mset_k (by decide)]
    rw [eF237 _ _ (by decide)]
    rw [eF234, mz_n (by decide)]
    rw [eF233, mset_k (by decide)]
  · refine cpx_keep (F := F223) (show cpx F223 1070 from gX13_init (isMc_of (x := 2) (by decide)) hc223 0 (List.mem_of_getElem? (i := 0) rfl)) (fun j => ?_)
    rw [hn 1070 j (by decide) (fx_wn6 (by decide))]
    rw [eF240, mset_k (by decide)]
    rw [eF237 _ _ (by decide)]
    rw [eF234, mz_n (by decide)]
    rw [eF233, mset_k (by decide)]
    rw [eF230 _ _ (by decide)]
    rw [eF227, mz_n (by decide)]
    rw [eF226, mset_k (by decide)]
  · refine cpx_keep (F := F216) (show cpx F216 1047 from gX16_init (isMp_of (x := 2) (by decide)) hc216 0 (List.mem_of_getElem? (i := 0) rfl)) (fun j => ?_)
    rw [hn 1047 j (by decide) (fx_wn6 (by decide))]
    rw [eF240, mset_k (by decide)]
    rw [eF237 _ _ (by decide)]
    rw [eF234, mz_n (by decide)]
    rw [eF233, mset_k (by decide)]
    rw [eF230 _ _ (by decide)]
    rw [eF227, mz_n (by decide)]
    rw [eF226, mset_k (by decide)]
    rw [eF223 _ _ (by decide)]
    rw [eF220, mz_n (by decide)]
    rw [eF219, mset_k (by decide)]
  · refine cpx_keep (F := F209) (show cpx F209 1017 from gX13_init (isMc_of (x := 1) (by decide)) hc209 0 (List.mem_of_getElem? (i := 0) rfl)) (fun j => ?_)
    rw [hn 1017 j (by decide) (fx_wn6 (by decide))]
    rw [eF240, mset_k (by decide)]
    rw [eF237 _ _ (by decide)]
    rw [eF234, mz_n (by decide)]
    rw [eF233, mset_k (by decide)]
    rw [eF230 _ _ (by decide)]
    rw [eF227, mz_n (by decide)]
    rw [eF226, mset_k (by decide)]
    rw [eF223 _ _ (by decide)]
    rw [eF220, mz_n (by decide)]
    rw [eF219, mset_k (by decide)]
    rw [eF216 _ _ (by decide)]
    rw [eF213, mz_n (by decide)]
    rw [eF212, mset_k (by decide)]
  · refine cpx_keep (F := F202) (show cpx F202 994 from gX16_init (isMp_of (x := 1) (by decide)) hc202 0 (List.mem_of_getElem? (i := 0) rfl)) (fun j => ?_)
    rw [hn 994 j (by decide) (fx_wn6 (by decide))]
    rw [eF240, mset_k (by decide)]
    rw [eF237 _ _ (by decide)]
    rw [eF234, mz_n (by decide)]
    rw [eF233, mset_k (by decide)]
    rw [eF230 _ _ (by decide)]
    rw [eF227, mz_n (by decide)]
    rw [eF226, mset_k (by decide)]
    rw [eF223 _ _ (by decide)]
    rw [eF220, mz_n (by decide)]
    rw [eF219, mset_k (by decide)]
    rw [eF216 _ _ (by decide)]
    rw [eF213, mz_n (by decide)]
    rw [eF212, mset_k (by decide)]
    rw [eF209 _ _ (by decide)]
    rw [eF206, mz_n (by decide)]
    rw [eF205, mset_k (by decide)]
  · refine cpx_keep (F := F195) (show cpx F195 964 from gX13_init (isMc_of (x := 0) (by decide)) hc195 0 (List.mem_of_getElem? (i := 0) rfl)) (fun j => ?_)
    rw [hn 964 j (by decide) (fx_wn6 (by decide))]
    rw [eF240, mset_k (by decide)]
    rw [eF237 _ _ (by decide)]
    rw [eF234, mz_n (by decide)]
    rw [eF233, mset_k (by decide)]
    rw [eF230 _ _ (by decide)]
    rw [eF227, mz_n (by decide)]
    rw [eF226, mset_k (by decide)]
    rw [eF223 _ _ (by decide)]
    rw [eF220, mz_n (by decide)]
    rw [eF219, mset_k (by decide)]
    rw [eF216 _ _ (by decide)]
    rw [eF213, mz_n (by decide)]
    rw [eF212, mset_k (by decide)]
    rw [eF209 _ _ (by decide)]
    rw [eF206, mz_n (by decide)]
    rw [eF205, mset_k (by decide)]
    rw [eF202 _ _ (by decide)]
    rw [eF199, mz_n (by decide)]
    rw [eF198, mset_k (by decide)]
  · refine cpx_keep (F := F188) (show cpx F188 941 from gX16_init (isMp_of (x := 0) (by decide)) hc188 0 (List.mem_of_getElem? (i := 0) rfl)) (fun j => ?_)
    rw [hn 941 j (by decide) (fx_wn6 (by decide))]
    rw [eF240, mset_k (by decide)]
    rw [eF237 _ _ (by decide)]
    rw [eF234, mz_n (by decide)]
    rw [eF233, mset_k (by decide)]
    rw [eF230 _ _ (by decide)]
    rw [eF227, mz_n (by decide)]
    rw [eF226, mset_k (by decide)]
    rw [eF223 _ _ (by decide)]
    rw [eF220, mz_n (by decide)]
    rw [eF219, mset_k (by decide)]
    rw [eF216 _ _ (by decide)]
    rw [eF213, mz_n (by decide)]
    rw [eF212, mset_k (by decide)]
    rw [eF209 _ _ (by decide)]
    rw [eF206, mz_n (by decide)]
    rw [eF205, mset_k (by decide)]
    rw [eF202 _ _ (by decide)]
    rw [eF199, mz_n (by decide)]
    rw [eF198, mset_k (by decide)]
    rw [eF195 _ _ (by decide)]
    rw [eF192, mz_n (by decide)]
    rw [eF191, mset_k (by decide)]
def fx_ws4 : List (Nat × Nat) := [(732, 107), (732, 106), (732, 105), (732, 104), (732, 103), (732, 101), (732, 100), (732, 99), (732, 93), (732, 92), (732, 90), (732, 89), (732, 87), (732, 86), (732, 85), (732, 84), (732, 82), (732, 81), (732, 80)] ++ fx_ws5
def fx_vs4 : List (Nat × Nat × Nat) := [(732, 107, 938), (732, 106, 937), (732, 105, 936), (732, 104, 935), (732, 103, 934), (732, 101, 933), (732, 100, 932), (732, 99, 931), (732, 93, 930), (732, 92, 929), (732, 90, 928), (732, 89, 927), (732, 87, 926), (732, 86, 925), (732, 85, 924), (732, 84, 923), (732, 82, 922), (732, 81, 921), (732, 80, 902)] ++ fx_vs5
theorem fx_wn4 {a j : Nat} (h : a ≠ 732 ∧ a ≠ 921 ∧ a ≠ 922) : (a, j) ∉ fx_ws4 := fun q => by
  have q2 := List.all_eq_true.mp (show fx_ws4.all (fun p => decide (p.1 = 732 ∨ p.1 = 921 ∨ p.1 = 922)) = true by decide +kernel) _ q
  have q3 := of_decide_eq_true q2
  dsimp only at q3
  omega
set_option maxHeartbeats 4000000 in
set_option maxRecDepth 100000 in
theorem fx_k4 {fu : Nat} {F136 : mwF} {M134 : mwM} {L135 : mwL} {FZ : mwF} {MZ : mwM} {LZ : mwL} (hD : DX19_s4 fu F136 M134 L135 = some (FZ, MZ, LZ)) : ∀ a j, a < 902 → (a, j) ∉ fx_ws4 → FZ a j = F136 a j := by
  unfold DX19_s4 at hD
  obtain ⟨F137, eF137, hD⟩ := g_let hD
  obtain ⟨M138, eM138, hD⟩ := g_let hD
  obtain ⟨L139, eL139, hD⟩ := g_let hD
  obtain ⟨F140, M141, L142, hc140, hD⟩ := g_b3 hD
  have eF140 : ∀ a j, (a < 902 ∨ 921 ≤ a) → F140 a j = F137 a j := fun a j ha => kX18_init hc140 a j (by omega)
  obtain ⟨F143, eF143, hD⟩ := g_let hD
  obtain ⟨F144, eF144, hD⟩ := g_let hD
  obtain ⟨F145, eF145, hD⟩ := g_let hD
  obtain ⟨F146, eF146, hD⟩ := g_let hD
  obtain ⟨F147, eF147, hD⟩ := g_let hD
  obtain ⟨M148, eM148, hD⟩ := g_let hD
  obtain ⟨F149, eF149, hD⟩ := g_let hD
  obtain ⟨M150, eM150, hD⟩ := g_let hD
  obtain ⟨F151, eF151, hD⟩ := g_let hD
  obtain ⟨L152, eL152, hD⟩ := g_let hD
  obtain ⟨F153, eF153, hD⟩ := g_let hD
  obtain ⟨M154, eM154, hD⟩ := g_let hD
  obtain ⟨F155, eF155, hD⟩ := g_let hD
  obtain ⟨M156, eM156, hD⟩ := g_let hD
  obtain ⟨F157, eF157, hD⟩ := g_let hD
  obtain ⟨M158, eM158, hD⟩ := g_let hD
  obtain ⟨F159, eF159, hD⟩ := g_let hD
  obtain ⟨M160, eM160, hD⟩ := g_let hD
  obtain ⟨F161, eF161, hD⟩ := g_let hD
  obtain ⟨M162, eM162, hD⟩ := g_let hD
  obtain ⟨F163, eF163, hD⟩ := g_let hD
  obtain ⟨M164, eM164, hD⟩ := g_let hD
  obtain ⟨M165, eM165, hD⟩ := g_let hD
  obtain ⟨F166, eF166, hD⟩ := g_let hD
  obtain ⟨M167, eM167, hD⟩ := g_let hD
  obtain ⟨F168, eF168, hD⟩ := g_let hD
  obtain ⟨M169, eM169, hD⟩ := g_let hD
  obtain ⟨F170, eF170, hD⟩ := g_let hD
  obtain ⟨M171, eM171, hD⟩ := g_let hD
  obtain ⟨F172, eF172, hD⟩ := g_let hD
  obtain ⟨M173, eM173, hD⟩ := g_let hD
  obtain ⟨F174, eF174, hD⟩ := g_let hD
  obtain ⟨M175, eM175, hD⟩ := g_let hD
  obtain ⟨F176, eF176, hD⟩ := g_let hD
  obtain ⟨M177, eM177, hD⟩ := g_let hD
  obtain ⟨F178, eF178, hD⟩ := g_let hD
  obtain ⟨M179, eM179, hD⟩ := g_let hD
  obtain ⟨F180, eF180, hD⟩ := g_let hD
  have hn := fx_k5 hD
  intro a j ha hw
  rw [hn a j (by omega) (fun q => hw (List.mem_append_right _ q))]
  rw [eF180, mset_n (fun q => hw (by rw [q.1, q.2]; decide))]
  rw [eF178, mset_n (fun q => hw (by rw [q.1, q.2]; decide))]
  rw [eF176, mset_n (fun q => hw (by rw [q.1, q.2]; decide))]
  rw [eF174, mset_n (fun q => hw (by rw [q.1, q.2]; decide))]
  rw [eF172, mset_n (fun q => hw (by rw [q.1, q.2]; decide))]
  rw [eF170, mset_n (fun q => hw (by rw [q.1, q.2]; decide))]
  rw [eF168, mset_n (fun q => hw (by rw [q.1, q.2]; decide))]
  rw [eF166, mset_n (fun q => hw (by rw [q.1, q.2]; decide))]
  rw [eF163, mset_n (fun q => hw (by rw [q.1, q.2]; decide))]
  rw [eF161, mset_n (fun q => hw (by rw [q.1, q.2]; decide))]
  rw [eF159, mset_n (fun q => hw (by rw [q.1, q.2]; decide))]
  rw [eF157, mset_n (fun q => hw (by rw [q.1, q.2]; decide))]
  rw [eF155, mset_n (fun q => hw (by rw [q.1, q.2]; decide))]
  rw [eF153, mset_n (fun q => hw (by rw [q.1, q.2]; decide))]
  rw [eF151, mset_n (fun q => hw (by rw [q.1, q.2]; decide))]
  rw [eF149, mset_n (fun q => hw (by rw [q.1, q.2]; decide))]
  rw [eF147, mset_n (fun q => hw (by rw [q.1, q.2]; decide))]
  rw [eF146, mz_n (by omega)]
  rw [eF145, mset_n (fun q => hw (by rw [q.1, q.2]; decide))]
  rw [eF144, mz_n (by omega)]
  rw [eF143, mset_n (fun q => hw (by rw [q.1, q.2]; decide))]
  rw [eF140 _ _ (by omega)]
  rw [eF137, mz_n (by omega)]
set_option maxHeartbeats 4000000 in
set_option maxRecDepth 100000 in
theorem fx_v4 {fu : Nat} {F136 : mwF} {M134 : mwM} {L135 : mwL} {FZ : mwF} {MZ : mwM} {LZ : mwL} (hD : DX19_s4 fu F136 M134 L135 = some (FZ, MZ, LZ)) : ∀ t ∈ fx_vs4, FZ t.1 t.2.1 = some t.2.2 := by
  unfold DX19_s4 at hD
  obtain ⟨F137, eF137, hD⟩ := g_let hD
  obtain ⟨M138, eM138, hD⟩ := g_let hD
  obtain ⟨L139, eL139, hD⟩ := g_let hD
  obtain ⟨F140, M141, L142, hc140, hD⟩ := g_b3 hD
  have eF140 : ∀ a j, (a < 902 ∨ 921 ≤ a) → F140 a j = F137 a j := fun a j ha => kX18_init hc140 a j (by omega)
  obtain ⟨F143, eF143, hD⟩ := g_let hD
  obtain ⟨F144, eF144, hD⟩ := g_let hD
  obtain ⟨F145, eF145, hD⟩ := g_let hD
  obtain ⟨F146, eF146, hD⟩ := g_let hD
  obtain ⟨F147, eF147, hD⟩ := g_let hD
  obtain ⟨M148, eM148, hD⟩ := g_let hD
  obtain ⟨F149, eF149, hD⟩ := g_let hD
  obtain ⟨M150, eM150, hD⟩ := g_let hD
  obtain ⟨F151, eF151, hD⟩ := g_let hD
  obtain ⟨L152, eL152, hD⟩ := g_let hD
  obtain ⟨F153, eF153, hD⟩ := g_let hD
  obtain ⟨M154, eM154, hD⟩ := g_let hD
  obtain ⟨F155, eF155, hD⟩ := g_let hD
  obtain ⟨M156, eM156, hD⟩ := g_let hD
  obtain ⟨F157, eF157, hD⟩ := g_let hD
  obtain ⟨M158, eM158, hD⟩ := g_let hD
  obtain ⟨F159, eF159, hD⟩ := g_let hD
  obtain ⟨M160, eM160, hD⟩ := g_let hD
  obtain ⟨F161, eF161, hD⟩ := g_let hD
  obtain ⟨M162, eM162, hD⟩ := g_let hD
  obtain ⟨F163, eF163, hD⟩ := g_let hD
  obtain ⟨M164, eM164, hD⟩ := g_let hD
  obtain ⟨M165, eM165, hD⟩ := g_let hD
  obtain ⟨F166, eF166, hD⟩ := g_let hD
  obtain ⟨M167, eM167, hD⟩ := g_let hD
  obtain ⟨F168, eF168, hD⟩ := g_let hD
  obtain ⟨M169, eM169, hD⟩ := g_let hD
  obtain ⟨F170, eF170, hD⟩ := g_let hD
  obtain ⟨M171, eM171, hD⟩ := g_let hD
  obtain ⟨F172, eF172, hD⟩ := g_let hD
  obtain ⟨M173, eM173, hD⟩ := g_let hD
  obtain ⟨F174, eF174, hD⟩ := g_let hD
  obtain ⟨M175, eM175, hD⟩ := g_let hD
  obtain ⟨F176, eF176, hD⟩ := g_let hD
  obtain ⟨M177, eM177, hD⟩ := g_let hD
  obtain ⟨F178, eF178, hD⟩ := g_let hD
  obtain ⟨M179, eM179, hD⟩ := g_let hD
  obtain ⟨F180, eF180, hD⟩ := g_let hD
  have hn := fx_k5 hD
  refine List.forall_mem_append.mpr ⟨List.forall_mem_cons.mpr ⟨?_, List.forall_mem_cons.mpr ⟨?_, List.forall_mem_cons.mpr ⟨?_, List.forall_mem_cons.mpr ⟨?_, List.forall_mem_cons.mpr ⟨?_, List.forall_mem_cons.mpr ⟨?_, List.forall_mem_cons.mpr ⟨?_, List.forall_mem_cons.mpr ⟨?_, List.forall_mem_cons.mpr ⟨?_, List.forall_mem_cons.mpr ⟨?_, List.forall_mem_cons.mpr ⟨?_, List.forall_mem_cons.mpr ⟨?_, List.forall_mem_cons.mpr ⟨?_, List.forall_mem_cons.mpr ⟨?_, List.forall_mem_cons.mpr ⟨?_, List.forall_mem_cons.mpr ⟨?_, List.forall_mem_cons.mpr ⟨?_, List.forall_mem_cons.mpr ⟨?_, List.forall_mem_cons.mpr ⟨?_, fun _ h => absurd h List.not_mem_nil⟩⟩⟩⟩⟩⟩⟩⟩⟩⟩⟩⟩⟩⟩⟩⟩⟩⟩⟩, fx_v5 hD⟩
  · show FZ 732 107 = some 938
    rw [hn 732 107 (by decide) (by decide)]
    rw [eF180]
    exact mset_s
  · show FZ 732 106 = some 937
    rw [hn 732 106 (by decide) (by decide)]
    rw [eF180, mset_j (by decide)]
    rw [eF178]
    exact mset_s
  · show FZ 732 105 = some 936
    rw [hn 732 105 (by decide) (by decide)]
    rw [eF180, mset_j (by decide)]
    rw [eF178, mset_j (by decide)]
    rw [eF176]
    exact mset_s
  · show FZ 732 104 = some 935
    rw [hn 732 104 (by decide) (by decide)]
    rw [eF180, mset_j (by decide)]
    rw [eF178, mset_j (by decide)]
    rw [eF176, mset_j (by decide)]
    rw [eF174]
    exact mset_s
  · show FZ 732 103 = some 934
    rw [hn 732 103 (by decide) (by decide)]
    rw [eF180, mset_j (by decide)]
    rw [eF178, mset_j (by decide)]
    rw [eF176, mset_j (by decide)]
    rw [eF174, mset_j (by decide)]
    rw [eF172]
    exact mset_s
  · show FZ 732 101 = some 933
    rw [hn 732 101 (by decide) (by decide)]
    rw [eF180, mset_j (by decide)]
    rw [eF178, mset_j (by decide)]
    rw [eF176, mset_j (by decide)]
    rw [eF174, mset_j (by decide)]
    rw [eF172, mset_j (by decide)]
    rw [eF170]
    exact mset_s
  · show FZ 732 100 = some 932
    rw [hn 732 100 (by decide) (by decide)]
    rw [eF180, mset_j (by decide)]
    rw [eF178, mset_j (by decide)]
    rw [eF176, mset_j (by decide)]
    rw [eF174, mset_j (by decide)]
    rw [eF172, mset_j (by decide)]
    rw [eF170, mset_j (by decide)]
    rw [eF168]
    exact mset_s
  · show FZ 732 99 = some 931
    rw [hn 732 99 (by decide) (by decide)]
    rw [eF180, mset_j (by decide)]
    rw [eF178, mset_j (by decide)]
    rw [eF176, mset_j (by decide)]
    rw [eF174, mset_j (by decide)]
    rw [eF172, mset_j (by decide)]
    rw [eF170, mset_j (by decide)]
    rw [eF168, mset_j (by decide)]
    rw [eF166]
    exact mset_s
  · show FZ 732 93 = some 930
    rw [hn 732 93 (by decide) (by decide)]
    rw [eF180, mset_j (by decide)]
    rw [eF178, mset_j (by decide)]
    rw [eF176, mset_j (by decide)]
    rw [eF174, mset_j (by decide)]
    rw [eF172, mset_j (by decide)]
    rw [eF170, mset_j (by decide)]
    rw [eF168, mset_j (by decide)]
    rw [eF166, mset_j (by decide)]
    rw [eF163]
    exact mset_s
  · show FZ 732 92 = some 929
    rw [hn 732 92 (by decide) (by decide)]
    rw [eF180, mset_j (by decide)]
    rw [eF178, mset_j (by decide)]
    rw [eF176, mset_j (by decide)]
    rw [eF174, mset_j (by decide)]
    rw [eF172, mset_j (by decide)]
    rw [eF170, mset_j (by decide)]
    rw [eF168, mset_j (by decide)]
    rw [eF166, mset_j (by decide)]
    rw [eF163, mset_j (by decide)]
    rw [eF161]
    exact mset_s
  · show FZ 732 90 = some 928
    rw [hn 732 90 (by decide) (by decide)]
    rw [eF180, mset_j (by decide)]
    rw [eF178, mset_j (by decide)]
    rw [eF176, mset_j (by decide)]
    rw [eF174, mset_j (by decide)]
    rw [eF172, mset_j (by decide)]
    rw [eF170, mset_j (by decide)]
    rw [eF168, mset_j (by decide)]
    rw [eF166, mset_j (by decide)]
    rw [eF163, mset_j (by decide)]
    rw [eF161, mset_j (by decide)]
    rw [eF159]
    exact mset_s
  · show FZ 732 89 = some 927
    rw [hn 732 89 (by decide) (by decide)]
    rw [eF180, mset_j (by decide)]
    rw [eF178, mset_j (by decide)]
    rw [eF176, mset_j (by decide)]
    rw [eF174, mset_j (by decide)]
    rw [eF172, mset_j (by decide)]
    rw [eF170, mset_j (by decide)]
    rw [eF168, mset_j (by decide)]
    rw [eF166, mset_j (by decide)]
    rw [eF163, mset_j (by decide)]
    rw [eF161, mset_j (by decide)]
    rw [eF159, mset_j (by decide)]
    rw [eF157]
    exact mset_s
  · show FZ 732 87 = some 926
    rw [hn 732 87 (by decide) (by decide)]
    rw [eF180, mset_j (by decide)]
    rw [eF178, mset_j (by decide)]
    rw [eF176, mset_j (by decide)]
    rw [eF174, mset_j (by decide)]
    rw [eF172, mset_j (by decide)]
    rw [eF170, mset_j (by decide)]
    rw [eF168, mset_j (by decide)]
    rw [eF166, mset_j (by decide)]
    rw [eF163, mset_j (by decide)]
    rw [eF161, mset_j (by decide)]
    rw [eF159, mset_j (by decide)]
    rw [eF157, mset_j (by decide)]
    rw [eF155]
    exact mset_s
  · show FZ 732 86 = some 925
    rw [hn 732 86 (by decide) (by decide)]
    rw [eF180, mset_j (by decide)]
    rw [eF178, mset_j (by decide)]
    rw [eF176, mset_j (by decide)]
    rw [eF174, mset_j (by decide)]
    rw [eF172, mset_j (by decide)]
    rw [eF170, mset_j (by decide)]
    rw [eF168, mset_j (by decide)]
    rw [eF166, mset_j (by decide)]
    rw [eF163, mset_j (by decide)]
    rw [eF161, mset_j (by decide)]
    rw [eF159, mset_j (by decide)]
    rw [eF157, mset_j (by decide)]
    rw [eF155, mset_j (by decide)]
    rw [eF153]
    exact mset_s
  · show FZ 732 85 = some 924
    rw [hn 732 85 (by decide) (by decide)]
    rw [eF180, mset_j (by decide)]
    rw [eF178, mset_j (by decide)]
    rw [eF176, mset_j (by decide)]
    rw [eF174, mset_j (by decide)]
    rw [eF172, mset_j (by decide)]
    rw [eF170, mset_j (by decide)]
    rw [eF168, mset_j (by decide)]
    rw [eF166, mset_j (by decide)]
    rw [eF163, mset_j (by decide)]
    rw [eF161, mset_j (by decide)]
    rw [eF159, mset_j (by decide)]
    rw [eF157, mset_j (by decide)]
    rw [eF155, mset_j (by decide)]
    rw [eF153, mset_j (by decide)]
    rw [eF151]
    exact mset_s
  · show FZ 732 84 = some 923
    rw [hn 732 84 (by decide) (by decide)]
    rw [eF180, mset_j (by decide)]
    rw [eF178, mset_j (by decide)]
    rw [eF176, mset_j (by decide)]
    rw [eF174, mset_j (by decide)]
    rw [eF172, mset_j (by decide)]
    rw [eF170, mset_j (by decide)]
    rw [eF168, mset_j (by decide)]
    rw [eF166, mset_j (by decide)]
    rw [eF163, mset_j (by decide)]
    rw [eF161, mset_j (by decide)]
    rw [eF159, mset_j (by decide)]
    rw [eF157, mset_j (by decide)]
    rw [eF155, mset_j (by decide)]
    rw [eF153, mset_j (by decide)]
    rw [eF151, mset_j (by decide)]
    rw [eF149]
    exact mset_s
  · show FZ 732 82 = some 922
    rw [hn 732 82 (by decide) (by decide)]
    rw [eF180, mset_j (by decide)]
    rw [eF178, mset_j (by decide)]
    rw [eF176, mset_j (by decide)]
    rw [eF174, mset_j (by decide)]
    rw [eF172, mset_j (by decide)]
    rw [eF170, mset_j (by decide)]
    rw [eF168, mset_j (by decide)]
    rw [eF166, mset_j (by decide)]
    rw [eF163, mset_j (by decide)]
    rw [eF161, mset_j (by decide)]
    rw [eF159, mset_j (by decide)]
    rw [eF157, mset_j (by decide)]
    rw [eF155, mset_j (by decide)]
    rw [eF153, mset_j (by decide)]
    rw [eF151, mset_j (by decide)]
    rw [eF149, mset_j (by decide)]
    rw [eF147]
    exact mset_s
  · show FZ 732 81 = some 921
    rw [hn 732 81 (by decide) (by decide)]
    rw [eF180, mset_j (by decide)]
    rw [eF178, mset_j (by decide)]
    rw [eF176, mset_j (by decide)]
    rw [eF174, mset_j (by decide)]
    rw [eF172, mset_j (by decide)]
    rw [eF170, mset_j (by decide)]
    rw [eF168, mset_j (by decide)]
    rw [eF166, mset_j (by decide)]
    rw [eF163, mset_j (by decide)]
    rw [eF161, mset_j (by decide)]
    rw [eF159, mset_j (by decide)]
    rw [eF157, mset_j (by decide)]
    rw [eF155, mset_j (by decide)]
    rw [eF153, mset_j (by decide)]
    rw [eF151, mset_j (by decide)]
    rw [eF149, mset_j (by decide)]
    rw [eF147, mset_j (by decide)]
    rw [eF146, mz_n (by decide)]
    rw [eF145]
    exact mset_s
  · show FZ 732 80 = some 902
    rw [hn 732 80 (by decide) (by decide)]
    rw [eF180, mset_j (by decide)]
    rw [eF178, mset_j (by decide)]
    rw [eF176, mset_j (by decide)]
    rw [eF174, mset_j (by decide)]
    rw [eF172, mset_j (by decide)]
    rw [eF170, mset_j (by decide)]
    rw [eF168, mset_j (by decide)]
    rw [eF166, mset_j (by decide)]
    rw [eF163, mset_j (by decide)]
    rw [eF161, mset_j (by decide)]
    rw [eF159, mset_j (by decide)]
    rw [eF157, mset_j (by decide)]
    rw [eF155, mset_j (by decide)]
    rw [eF153, mset_j (by decide)]
    rw [eF151, mset_j (by decide)]
    rw [eF149, mset_j (by decide)]
    rw [eF147, mset_j (by decide)]
    rw [eF146, mz_n (by decide)]
    rw [eF145, mset_j (by decide)]
    rw [eF144, mz_n (by decide)]
    rw [eF143]
    exact mset_s
def fx_rc4 : List Nat := [902] ++ fx_rc5
set_option maxHeartbeats 4000000 in
set_option maxRecDepth 100000 in
theorem fx_c4 {fu : Nat} {F136 : mwF} {M134 : mwM} {L135 : mwL} {FZ : mwF} {MZ : mwM} {LZ : mwL} (hD : DX19_s4 fu F136 M134 L135 = some (FZ, MZ, LZ)) : ∀ a ∈ fx_rc4, cpx FZ a := by
  unfold DX19_s4 at hD
  obtain ⟨F137, eF137, hD⟩ := g_let hD
  obtain ⟨M138, eM138, hD⟩ := g_let hD
  obtain ⟨L139, eL139, hD⟩ := g_let hD
  obtain ⟨F140, M141, L142, hc140, hD⟩ := g_b3 hD
  have eF140 : ∀ a j, (a < 902 ∨ 921 ≤ a) → F140 a j = F137 a j := fun a j ha => kX18_init hc140 a j (by omega)
  obtain ⟨F143, eF143, hD⟩ := g_let hD
  obtain ⟨F144, eF144, hD⟩ := g_let hD
  obtain ⟨F145, eF145, hD⟩ := g_let hD
  obtain ⟨F146, eF146, hD⟩ := g_let hD
  obtain ⟨F147, eF147, hD⟩ := g_let hD
  obtain ⟨M148, eM148, hD⟩ := g_let hD
  obtain ⟨F149, eF149, hD⟩ := g_let hD
  obtain ⟨M150, eM150, hD⟩ := g_let hD
  obtain ⟨F151, eF151, hD⟩ := g_let hD
  obtain ⟨L152, eL152, hD⟩ := g_let hD
  obtain ⟨F153, eF153, hD⟩ := g_let hD
  obtain ⟨M154, eM154, hD⟩ := g_let hD
  obtain ⟨F155, eF155, hD⟩ := g_let hD
  obtain ⟨M156, eM156, hD⟩ := g_let hD
  obtain ⟨F157, eF157, hD⟩ := g_let hD
  obtain ⟨M158, eM158, hD⟩ := g_let hD
  obtain ⟨F159, eF159, hD⟩ := g_let hD
  obtain ⟨M160, eM160, hD⟩ := g_let hD
  obtain ⟨F161, eF161, hD⟩ := g_let hD
  obtain ⟨M162, eM162, hD⟩ := g_let hD
  obtain ⟨F163, eF163, hD⟩ := g_let hD
  obtain ⟨M164, eM164, hD⟩ := g_let hD
  obtain ⟨M165, eM165, hD⟩ := g_let hD
  obtain ⟨F166, eF166, hD⟩ := g_let hD
  obtain ⟨M167, eM167, hD⟩ := g_let hD
  obtain ⟨F168, eF168, hD⟩ := g_let hD
  obtain ⟨M169, eM169, hD⟩ := g_let hD
  obtain ⟨F170, eF170, hD⟩ := g_let hD
  obtain ⟨M171, eM171, hD⟩ := g_let hD
  obtain ⟨F172, eF172, hD⟩ := g_let hD
  obtain ⟨M173, eM173, hD⟩ := g_let hD
  obtain ⟨F174, eF174, hD⟩ := g_let hD
  obtain ⟨M175, eM175, hD⟩ := g_let hD
  obtain ⟨F176, eF176, hD⟩ := g_let hD
  obtain ⟨M177, eM177, hD⟩ := g_let hD
  obtain ⟨F178, eF178, hD⟩ := g_let hD
  obtain ⟨M179, eM179, hD⟩ := g_let hD
  obtain ⟨F180, eF180, hD⟩ := g_let hD
  have hn := fx_k5 hD
  refine List.forall_mem_append.mpr ⟨List.forall_mem_cons.mpr ⟨?_, fun _ h => absurd h List.not_mem_nil⟩, fx_c5 hD⟩
  · refine cpx_keep (F := F140) (show cpx F140 902 from gX18_init hc140 0 (List.mem_of_getElem? (i := 0) rfl)) (fun j => ?_)
    rw [hn 902 j (by decide) (fx_wn5 (by decide))]
    rw [eF180, mset_k (by decide)]
    rw [eF178, mset_k (by decide)]
    rw [eF176, mset_k (by decide)]
    rw [eF174, mset_k (by decide)]
    rw [eF172, mset_k (by decide)]
    rw [eF170, mset_k (by decide)]
    rw [eF168, mset_k (by decide)]
    rw [eF166, mset_k (by decide)]
    rw [eF163, mset_k (by decide)]
    rw [eF161, mset_k (by decide)]
    rw [eF159, mset_k (by decide)]
    rw [eF157, mset_k (by decide)]
    rw [eF155, mset_k (by decide)]
    rw [eF153, mset_k (by decide)]
    rw [eF151, mset_k (by decide)]
    rw [eF149, mset_k (by decide)]
    rw [eF147, mset_k (by decide)]
    rw [eF146, mz_n (by decide)]
    rw [eF145, mset_k (by decide)]
    rw [eF144, mz_n (by decide)]
    rw [eF143, mset_k (by decide)]
def fx_ws3 : List (Nat × Nat) := [(732, 79), (732, 78), (732, 77), (732, 76), (732, 75), (732, 74), (732, 73), (732, 72), (732, 71), (732, 70), (732, 69), (732, 68), (732, 66), (732, 65), (732, 64), (732, 63), (732, 61)] ++ fx_ws4
def fx_vs3 : List (Nat × Nat × Nat) := [(732, 79, 869), (732, 78, 854), (732, 77, 821), (732, 76, 787), (732, 75, 786), (732, 74, 785), (732, 73, 784), (732, 72, 783), (732, 71, 782), (732, 70, 781), (732, 69, 780), (732, 68, 779), (732, 66, 778), (732, 65, 777), (732, 64, 776), (732, 63, 775), (732, 61, 774)] ++ fx_vs4
theorem fx_wn3 {a j : Nat} (h : a ≠ 732 ∧ a ≠ 921 ∧ a ≠ 922) : (a, j) ∉ fx_ws3 := fun q => by
  have q2 := List.all_eq_true.mp (show fx_ws3.all (fun p => decide (p.1 = 732 ∨ p.1 = 921 ∨ p.1 = 922)) = true by decide +kernel) _ q
  have q3 := of_decide_eq_true q2
  dsimp only at q3
  omega
set_option maxHeartbeats 4000000 in
set_option maxRecDepth 100000 in
theorem fx_k3 {fu : Nat} {F82 : mwF} {M81 : mwM} {L : mwL} {FZ : mwF} {MZ : mwM} {LZ : mwL} (hD : DX19_s3 fu F82 M81 L = some (FZ, MZ, LZ)) : ∀ a j, a < 774 → (a, j) ∉ fx_ws3 → FZ a j = F82 a j := by
  unfold DX19_s3 at hD
  obtain ⟨L83, eL83, hD⟩ := g_let hD
  obtain ⟨F84, eF84, hD⟩ := g_let hD
  obtain ⟨M85, eM85, hD⟩ := g_let hD
  obtain ⟨F86, eF86, hD⟩ := g_let hD
  obtain ⟨M87, eM87, hD⟩ := g_let hD
  obtain ⟨F88, eF88, hD⟩ := g_let hD
  obtain ⟨M89, eM89, hD⟩ := g_let hD
  obtain ⟨F90, eF90, hD⟩ := g_let hD
  obtain ⟨L91, eL91, hD⟩ := g_let hD
  obtain ⟨F92, eF92, hD⟩ := g_let hD
  obtain ⟨M93, eM93, hD⟩ := g_let hD
  obtain ⟨F94, eF94, hD⟩ := g_let hD
  obtain ⟨M95, eM95, hD⟩ := g_let hD
  obtain ⟨F96, eF96, hD⟩ := g_let hD
  obtain ⟨M97, eM97, hD⟩ := g_let hD
  obtain ⟨F98, eF98, hD⟩ := g_let hD
  obtain ⟨M99, eM99, hD⟩ := g_let hD
  obtain ⟨F100, eF100, hD⟩ := g_let hD
  obtain ⟨M101, eM101, hD⟩ := g_let hD
  obtain ⟨F102, eF102, hD⟩ := g_let hD
  obtain ⟨M103, eM103, hD⟩ := g_let hD
  obtain ⟨F104, eF104, hD⟩ := g_let hD
  obtain ⟨M105, eM105, hD⟩ := g_let hD
  obtain ⟨F106, eF106, hD⟩ := g_let hD
  obtain ⟨L107, eL107, hD⟩ := g_let hD
  obtain ⟨F108, eF108, hD⟩ := g_let hD
  obtain ⟨F109, eF109, hD⟩ := g_let hD
  obtain ⟨M110, eM110, hD⟩ := g_let hD
  obtain ⟨L111, eL111, hD⟩ := g_let hD
  obtain ⟨F112, M113, L114, hc112, hD⟩ := g_b3 hD
  have eF112 : ∀ a j, (a < 787 ∨ 821 ≤ a) → F112 a j = F109 a j := fun a j ha => kX15_init hc112 a j (by omega)
  obtain ⟨F115, eF115, hD⟩ := g_let hD
  obtain ⟨F116, eF116, hD⟩ := g_let hD
  obtain ⟨M117, eM117, hD⟩ := g_let hD
  obtain ⟨L118, eL118, hD⟩ := g_let hD
  obtain ⟨F119, M120, L121, hc119, hD⟩ := g_b3 hD
  have eF119 : ∀ a j, (a < 821 ∨ 854 ≤ a) → F119 a j = F116 a j := fun a j ha => kX12_init hc119 a j (by omega)
  obtain ⟨F122, eF122, hD⟩ := g_let hD
  obtain ⟨F123, eF123, hD⟩ := g_let hD
  obtain ⟨M124, eM124, hD⟩ := g_let hD
  obtain ⟨L125, eL125, hD⟩ := g_let hD
  obtain ⟨F126, M127, L128, hc126, hD⟩ := g_b3 hD
  have eF126 : ∀ a j, (a < 854 ∨ 869 ≤ a) → F126 a j = F123 a j := fun a j ha => kX14_init hc126 a j (by omega)
  obtain ⟨F129, eF129, hD⟩ := g_let hD
  obtain ⟨F130, eF130, hD⟩ := g_let hD
  obtain ⟨M131, eM131, hD⟩ := g_let hD
  obtain ⟨L132, eL132, hD⟩ := g_let hD
  obtain ⟨F133, M134, L135, hc133, hD⟩ := g_b3 hD
  have eF133 : ∀ a j, (a < 869 ∨ 902 ≤ a) → F133 a j = F130 a j := fun a j ha => kX17_init hc133 a j (by omega)
  obtain ⟨F136, eF136, hD⟩ := g_let hD
  have hn := fx_k4 hD
  intro a j ha hw
  rw [hn a j (by omega) (fun q => hw (List.mem_append_right _ q))]
  rw [eF136, mset_n (fun q => hw (by rw [q.1, q.2]; decide))]
  rw [eF133 _ _ (by omega)]
  rw [eF130, mz_n (by omega)]
  rw [eF129, mset_n (fun q => hw (by rw [q.1, q.2]; decide))]
  rw [eF126 _ _ (by omega)]
  rw [eF123, mz_n (by omega)]
  rw [eF122, mset_n (fun q => hw (by rw [q.1, q.2]; decide))]
  rw [eF119 _ _ (by omega)]
  rw [eF116, mz_n (by omega)]
  rw [eF115, mset_n (fun q => hw (by rw [q.1, q.2]; decide))]
  rw [eF112 _ _ (by omega)]
  rw [eF109, mz_n (by omega)]
  rw [eF108, mset_n (fun q => hw (by rw [q.1, q.2]; decide))]
  rw [eF106, mset_n (fun q => hw (by rw [q.1, q.2]; decide))]
  rw [eF104, mset_n (fun q => hw (by rw [q.1, q.2]; decide))]
  rw [eF102, mset_n (fun q => hw (by rw [q.1, q.2]; decide))]
  rw [eF100, mset_n (fun q => hw (by rw [q.1, q.2]; decide))]
  rw [eF98, mset_n (fun q => hw (by rw [q.1, q.2]; decide))]
  rw [eF96, mset_n (fun q => hw (by rw [q.1, q.2]; decide))]
  rw [eF94, mset_n (fun q => hw (by rw [q.1, q.2]; decide))]
  rw [eF92, mset_n (fun q => hw (by rw [q.1, q.2]; decide))]
  rw [eF90, mset_n (fun q => hw (by rw [q.1, q.2]; decide))]
  rw [eF88, mset_n (fun q => hw (by rw [q.1, q.2]; decide))]
  rw [eF86, mset_n (fun q => hw (by rw [q.1, q.2]; decide))]
  rw [eF84, mset_n (fun q => hw (by rw [q.1, q.2]; decide))]
set_option maxHeartbeats 4000000 in
set_option maxRecDepth 100000 in
theorem fx_v3 {fu : Nat} {F82 : mwF} {M81 : mwM} {L : mwL} {FZ : mwF} {MZ : mwM} {LZ : mwL} (hD : DX19_s3 fu F82 M81 L = some (FZ, MZ, LZ)) : ∀ t ∈ fx_vs3, FZ t.1 t.2.1 = some t.2.2 := by
  unfold DX19_s3 at hD
  obtain ⟨L83, eL83, hD⟩ := g_let hD
  obtain ⟨F84, eF84, hD⟩ := g_let hD
  obtain ⟨M85, eM85, hD⟩ := g_let hD
  obtain ⟨F86, eF86, hD⟩ := g_let hD
  obtain ⟨M87, eM87, hD⟩ := g_let hD
  obtain ⟨F88, eF88, hD⟩ := g_let hD
  obtain ⟨M89, eM89, hD⟩ := g_let hD
  obtain ⟨F90, eF90, hD⟩ := g_let hD
  obtain ⟨L91, eL91, hD⟩ := g_let hD
  obtain ⟨F92, eF92, hD⟩ := g_let hD
  obtain ⟨M93, eM93, hD⟩ := g_let hD
  obtain ⟨F94, eF94, hD⟩ := g_let hD
  obtain ⟨M95, eM95, hD⟩ := g_let hD
  obtain ⟨F96, eF96, hD⟩ := g_let hD
  obtain ⟨M97, eM97, hD⟩ := g_let hD
  obtain ⟨F98, eF98, hD⟩ := g_let hD
  obtain ⟨M99, eM99, hD⟩ := g_let hD
  obtain ⟨F100, eF100, hD⟩ := g_let hD
  obtain ⟨M101, eM101, hD⟩ := g_let hD
  obtain ⟨F102, eF102, hD⟩ := g_let hD
  obtain ⟨M103, eM103, hD⟩ := g_let hD
  obtain ⟨F104, eF104, hD⟩ := g_let hD
  obtain ⟨M105, eM105, hD⟩ := g_let hD
  obtain ⟨F106, eF106, hD⟩ := g_let hD
  obtain ⟨L107, eL107, hD⟩ := g_let hD
  obtain ⟨F108, eF108, hD⟩ := g_let hD
  obtain ⟨F109, eF109, hD⟩ := g_let hD
  obtain ⟨M110, eM110, hD⟩ := g_let hD
  obtain ⟨L111, eL111, hD⟩ := g_let hD
  obtain ⟨F112, M113, L114, hc112, hD⟩ := g_b3 hD
  have eF112 : ∀ a j, (a < 787 ∨ 821 ≤ a) → F112 a j = F109 a j := fun a j ha => kX15_init hc112 a j (by omega)
  obtain ⟨F115, eF115, hD⟩ := g_let hD
  obtain ⟨F116, eF116, hD⟩ := g_let hD
  obtain ⟨M117, eM117, hD⟩ := g_let hD
  obtain ⟨L118, eL118, hD⟩ := g_let hD
  obtain ⟨F119, M120, L121, hc119, hD⟩ := g_b3 hD
  have eF119 : ∀ a j, (a < 821 ∨ 854 ≤ a) → F119 a j = F116 a j := fun a j ha => kX12_init hc119 a j (by omega)
  obtain ⟨F122, eF122, hD⟩ := g_let hD
  obtain ⟨F123, eF123, hD⟩ := g_let hD
  obtain ⟨M124, eM124, hD⟩ := g_let hD
  obtain ⟨L125, eL125, hD⟩ := g_let hD
  obtain ⟨F126, M127, L128, hc126, hD⟩ := g_b3 hD
  have eF126 : ∀ a j, (a < 854 ∨ 869 ≤ a) → F126 a j = F123 a j := fun a j ha => kX14_init hc126 a j (by omega)
  obtain ⟨F129, eF129, hD⟩ := g_let hD
  obtain ⟨F130, eF130, hD⟩ := g_let hD
  obtain ⟨M131, eM131, hD⟩ := g_let hD
  obtain ⟨L132, eL132, hD⟩ := g_let hD
  obtain ⟨F133, M134, L135, hc133, hD⟩ := g_b3 hD
  have eF133 : ∀ a j, (a < 869 ∨ 902 ≤ a) → F133 a j = F130 a j := fun a j ha => kX17_init hc133 a j (by omega)
  obtain ⟨F136, eF136, hD⟩ := g_let hD
  have hn := fx_k4 hD
  refine List.forall_mem_append.mpr ⟨List.forall_mem_cons.mpr ⟨?_, List.forall_mem_cons.mpr ⟨?_, List.forall_mem_cons.mpr ⟨?_, List.forall_mem_cons.mpr ⟨?_, List.forall_mem_cons.mpr ⟨?_, List.forall_mem_cons.mpr ⟨?_, List.forall_mem_cons.mpr ⟨?_, List.forall_mem_cons.mpr ⟨?_, List.forall_mem_cons.mpr ⟨?_, List.forall_mem_cons.mpr ⟨?_, List.forall_mem_cons.mpr ⟨?_, List.forall_mem_cons.mpr ⟨?_, List.forall_mem_cons.mpr ⟨?_, List.forall_mem_cons.mpr ⟨?_, List.forall_mem_cons.mpr ⟨?_, List.forall_mem_cons.mpr ⟨?_, List.forall_mem_cons.mpr ⟨?_, fun _ h => absurd h List.not_mem_nil⟩⟩⟩⟩⟩⟩⟩⟩⟩⟩⟩⟩⟩⟩⟩⟩⟩, fx_v4 hD⟩
  · show FZ 732 79 = some 869
    rw [hn 732 79 (by decide) (by decide)]
    rw [eF136]
    exact mset_s
  · show FZ 732 78 = some 854
    rw [hn 732 78 (by decide) (by decide)]
    rw [eF136, mset_j (by decide)]
    rw [eF133 _ _ (by decide)]
    rw [eF130, mz_n (by decide)]
    rw [eF129]
    exact mset_s
  · show FZ 732 77 = some 821
    rw [hn 732 77 (by decide) (by decide)]
    rw [eF136, mset_j (by decide)]
    rw [eF133 _ _ (by decide)]
    rw [eF130, mz_n (by decide)]
    rw [eF129, mset_j (by decide)]
    rw [eF126 _ _ (by decide)]
    rw [eF123, mz_n (by decide)]
    rw [eF122]
    exact mset_s
  · show FZ 732 76 = some 787
    rw [hn 732 76 (by decide) (by decide)]
    rw [eF136, mset_j (by decide)]
    rw [eF133 _ _ (by decide)]
    rw [eF130, mz_n (by decide)]
    rw [eF129, mset_j (by decide)]
    rw [eF126 _ _ (by decide)]
    rw [eF123, mz_n (by decide)]
    rw [eF122, mset_j (by decide)]
    rw [eF119 _ _ (by decide)]
    rw [eF116, mz_n (by decide)]
    rw [eF115]
    exact mset_s
  · show FZ 732 75 = some 786
    rw [hn 732 75 (by decide) (by decide)]
    rw [eF136, mset_j (by decide)]
    rw [eF133 _ _ (by decide)]
    rw [eF130, mz_n (by decide)]
    rw [eF129, mset_j (by decide)]
    rw [eF126 _ _ (by decide)]
    rw [eF123, mz_n (by decide)]
    rw [eF122, mset_j (by decide)]
    rw [eF119 _ _ (by decide)]
    rw [eF116, mz_n (by decide)]
    rw [eF115, mset_j (by decide)]
    rw [eF112 _ _ (by decide)]
    rw [eF109, mz_n (by decide)]
    rw [eF108]
    exact mset_s
  · show FZ 732 74 = some 785
    rw [hn 732 74 (by decide) (by decide)]
    rw [eF136, mset_j (by decide)]
    rw [eF133 _ _ (by decide)]
    rw [eF130, mz_n (by decide)]
    rw [eF129, mset_j (by decide)]
    rw [eF126 _ _ (by decide)]
    rw [eF123, mz_n (by decide)]
    rw [eF122, mset_j (by decide)]
    rw [eF119 _ _ (by decide)]
    rw [eF116, mz_n (by decide)]
    rw [eF115, mset_j (by decide)]
    rw [eF112 _ _ (by decide)]
    rw [eF109, mz_n (by decide)]
    rw [eF108, mset_j (by decide)]
    rw [eF106]
    exact mset_s
  · show FZ 732 73 = some 784
    rw [hn 732 73 (by decide) (by decide)]
    rw [eF136, mset_j (by decide)]
    rw [eF133 _ _ (by decide)]
    rw [eF130, mz_n (by decide)]
    rw [eF129, mset_j (by decide)]
    rw [eF126 _ _ (by decide)]
    rw [eF123, mz_n (by decide)]
    rw [eF122, mset_j (by decide)]
    rw [eF119 _ _ (by decide)]
    rw [eF116, mz_n (by decide)]
    rw [eF115, mset_j (by decide)]
    rw [eF112 _ _ (by decide)]
    rw [eF109, mz_n (by decide)]
    rw [eF108, mset_j (by decide)]
    rw [eF106, mset_j (by decide)]
    rw [eF104]
    exact mset_s
  · show FZ 732 72 = some 783
    rw [hn 732 72 (by decide) (by decide)]
    rw [eF136, mset_j (by decide)]
    rw [eF133 _ _ (by decide)]
    rw [eF130, mz_n (by decide)]
    rw [eF129, mset_j (by decide)]
    rw [eF126 _ _ (by decide)]
    rw [eF123, mz_n (by decide)]
    rw [eF122, mset_j (by decide)]
    rw [eF119 _ _ (by decide)]
    rw [eF116, mz_n (by decide)]
    rw [eF115, mset_j (by decide)]
    rw [eF112 _ _ (by decide)]
    rw [eF109, mz_n (by decide)]
    rw [eF108, mset_j (by decide)]
    rw [eF106, mset_j (by decide)]
    rw [eF104, mset_j (by decide)]
    rw [eF102]
    exact mset_s
  · show FZ 732 71 = some 782
    rw [hn 732 71 (by decide) (by decide)]
    rw [eF136, mset_j (by decide)]
    rw [eF133 _ _ (by decide)]
    rw [eF130, mz_n (by decide)]
    rw [eF129, mset_j (by decide)]
    rw [eF126 _ _ (by decide)]
    rw [eF123, mz_n (by decide)]
    rw [eF122, mset_j (by decide)]
    rw [eF119 _ _ (by decide)]
    rw [eF116, mz_n (by decide)]
    rw [eF115, mset_j (by decide)]
    rw [eF112 _ _ (by decide)]
    rw [eF109, mz_n (by decide)]
    rw [eF108, mset_j (by decide)]
    rw [eF106, mset_j (by decide)]
    rw [eF104, mset_j (by decide)]
    rw [eF102, mset_j (by decide)]
    rw [eF100]
    exact mset_s
  · show FZ 732 70 = some 781
    rw [hn 732 70 (by decide) (by decide)]
    rw [eF136, mset_j (by decide)]
    rw [eF133 _ _ (by decide)]
    rw [eF130, mz_n (by decide)]
    rw [eF129, mset_j (by decide)]
    rw [eF126 _ _ (by decide)]
    rw [eF123, mz_n (by decide)]
    rw [eF122, mset_j (by decide)]
    rw [eF119 _ _ (by decide)]
    rw [eF116, mz_n (by decide)]
    rw [eF115, mset_j (by decide)]
    rw [eF112 _ _ (by decide)]
    rw [eF109, mz_n (by decide)]
    rw [eF108, mset_j (by decide)]
    rw [eF106, mset_j (by decide)]
    rw [eF104, mset_j (by decide)]
    rw [eF102, mset_j (by decide)]
    rw [eF100, mset_j (by decide)]
    rw [eF98]
    exact mset_s
  · show FZ 732 69 = some 780
    rw [hn 732 69 (by decide) (by decide)]
    rw [eF136, mset_j (by decide)]
    rw [eF133 _ _ (by decide)]
    rw [eF130, mz_n (by decide)]
    rw [eF129, mset_j (by decide)]
    rw [eF126 _ _ (by decide)]
    rw [eF123, mz_n (by decide)]
    rw [eF122, mset_j (by decide)]
    rw [eF119 _ _ (by decide)]
    rw [eF116, mz_n (by decide)]
    rw [eF115, mset_j (by decide)]
    rw [eF112 _ _ (by decide)]
    rw [eF109, mz_n (by decide)]
    rw [eF108, mset_j (by decide)]
    rw [eF106, mset_j (by decide)]
    rw [eF104, mset_j (by decide)]
    rw [eF102, mset_j (by decide)]
    rw [eF100, mset_j (by decide)]
    rw [eF98, mset_j (by decide)]
    rw [eF96]
    exact mset_s
  · show FZ 732 68 = some 779
    rw [hn 732 68 (by decide) (by decide)]
    rw [eF136, mset_j (by decide)]
    rw [eF133 _ _ (by decide)]
    rw [eF130, mz_n (by decide)]
    rw [eF129, mset_j (by decide)]
    rw [eF126 _ _ (by decide)]
    rw [eF123, mz_n (by decide)]
    rw [eF122, mset_j (by decide)]
    rw [eF119 _ _ (by decide)]
    rw [eF116, mz_n (by decide)]
    rw [eF115, mset_j (by decide)]
    rw [eF112 _ _ (by decide)]
    rw [eF109, mz_n (by decide)]
    rw [eF108, mset_j (by decide)]
    rw [eF106, mset_j (by decide)]
    rw [eF104, mset_j (by decide)]
    rw [eF102, mset_j (by decide)]
    rw [eF100, mset_j (by decide)]
    rw [eF98, mset_j (by decide)]
    rw [eF96, mset_j (by decide)]
    rw [eF94]
    exact mset_s
  · show FZ 732 66 = some 778
    rw [hn 732 66 (by decide) (by decide)]
    rw [eF136, mset_j (by decide)]
    rw [eF133 _ _ (by decide)]
    rw [eF130, mz_n (by decide)]
    rw [eF129, mset_j (by decide)]
    rw [eF126 _ _ (by decide)]
    rw [eF123, mz_n (by decide)]
    rw [eF122, mset_j (by decide)]
    rw [eF119 _ _ (by decide)]
    rw [eF116, mz_n (by decide)]
    rw [eF115, mset_j (by decide)]
    rw [eF112 _ _ (by decide)]
    rw [eF109, mz_n (by decide)]
    rw [eF108, mset_j (by decide)]
    rw [eF106, mset_j (by decide)]
    rw [eF104, mset_j (by decide)]
    rw [eF102, mset_j (by decide)]
    rw [eF100, mset_j (by decide)]
    rw [eF98, mset_j (by decide)]
    rw [eF96, mset_j (by decide)]
    rw [eF94, mset_j (by decide)]
    rw [eF92]
    exact mset_s
  · show FZ 732 65 = some 777
    rw [hn 732 65 (by decide) (by decide)]
    rw [eF136, mset_j (by decide)]
    rw [eF133 _ _ (by decide)]
    rw [eF130, mz_n (by decide)]
    rw [eF129, mset_j (by decide)]
    rw [eF126 _ _ (by decide)]
    rw [eF123, mz_n (by decide)]
    rw [eF122, mset_j (by decide)]
    rw [eF119 _ _ (by decide)]
    rw [eF116, mz_n (by decide)]
    rw [eF115, mset_j (by decide)]
    rw [eF112 _ _ (by decide)]
    rw [eF109, mz_n (by decide)]
    rw [eF108, mset_j (by decide)]
    rw [eF106, mset_j (by decide)]
    rw [eF104, mset_j (by decide)]
    rw [eF102, mset_j (by decide)]
    rw [eF100, mset_j (by decide)]
    rw [eF98, mset_j (by decide)]
    rw [eF96, mset_j (by decide)]
    rw [eF94, mset_j (by decide)]
    rw [eF92, mset_j (by decide)]
    rw [eF90]
    exact mset_s
  · show FZ 732 64 = some 776
    rw [hn 732 64 (by decide) (by decide)]
    rw [eF136, mset_j (by decide)]
    rw [eF133 _ _ (by decide)]
    rw [eF130, mz_n (by decide)]
    rw [eF129, mset_j (by decide)]
    rw [eF126 _ _ (by decide)]
    rw [eF123, mz_n (by decide)]
    rw [eF122, mset_j (by decide)]
    rw [eF119 _ _ (by decide)]
    rw [eF116, mz_n (by decide)]
    rw [eF115, mset_j (by decide)]
    rw [eF112 _ _ (by decide)]
    rw [eF109, mz_n (by decide)]
    rw [eF108, mset_j (by decide)]
    rw [eF106, mset_j (by decide)]
    rw [eF104, mset_j (by decide)]
    rw [eF102, mset_j (by decide)]
    rw [eF100, mset_j (by decide)]
    rw [eF98, mset_j (by decide)]
    rw [eF96, mset_j (by decide)]
    rw [eF94, mset_j (by decide)]
    rw [eF92, mset_j (by decide)]
    rw [eF90, mset_j (by decide)]
    rw [eF88]
    exact mset_s
  · show FZ 732 63 = some 775
    rw [hn 732 63 (by decide) (by decide)]
    rw [eF136, mset_j (by decide)]
    rw [eF133 _ _ (by decide)]
    rw [eF130, mz_n (by decide)]
    rw [eF129, mset_j (by decide)]
    rw [eF126 _ _ (by decide)]
    rw [eF123, mz_n (by decide)]
    rw [eF122, mset_j (by decide)]
    rw [eF119 _ _ (by decide)]
    rw [eF116, mz_n (by decide)]
    rw [eF115, mset_j (by decide)]
    rw [eF112 _ _ (by decide)]
    rw [eF109, mz_n (by decide)]
    rw [eF108, mset_j (by decide)]
    rw [eF106, mset_j (by decide)]
    rw [eF104, mset_j (by decide)]
    rw [eF102, mset_j (by decide)]
    rw [eF100, mset_j (by decide)]
    rw [eF98, mset_j (by decide)]
    rw [eF96, mset_j (by decide)]
    rw [eF94, mset_j (by decide)]
    rw [eF92, mset_j (by decide)]
    rw [eF90, mset_j (by decide)]
    rw [eF88, mset_j (by decide)]
    rw [eF86]
    exact mset_s
  · show FZ 732 61 = some 774
    rw [hn 732 61 (by decide) (by decide)]
    rw [eF136, mset_j (by decide)]
    rw [eF133 _ _ (by decide)]
    rw [eF130, mz_n (by decide)]
    rw [eF129, mset_j (by decide)]
    rw [eF126 _ _ (by decide)]
    rw [eF123, mz_n (by decide)]
    rw [eF122, mset_j (by decide)]
    rw [eF119 _ _ (by decide)]
    rw [eF116, mz_n (by decide)]
    rw [eF115, mset_j (by decide)]
    rw [eF112 _ _ (by decide)]
    rw [eF109, mz_n (by decide)]
    rw [eF108, mset_j (by decide)]
    rw [eF106, mset_j (by decide)]
    rw [eF104, mset_j (by decide)]
    rw [eF102, mset_j (by decide)]
    rw [eF100, mset_j (by decide)]
    rw [eF98, mset_j (by decide)]
    rw [eF96, mset_j (by decide)]
    rw [eF94, mset_j (by decide)]
    rw [eF92, mset_j (by decide)]
    rw [eF90, mset_j (by decide)]
    rw [eF88, mset_j (by decide)]
    rw [eF86, mset_j (by decide)]
    rw [eF84]
    exact mset_s
def fx_rc3 : List Nat := [869, 854, 821, 787] ++ fx_rc4
set_option maxHeartbeats 4000000 in
set_option maxRecDepth 100000 in
theorem fx_c3 {fu : Nat} {F82 : mwF} {M81 : mwM} {L : mwL} {FZ : mwF} {MZ : mwM} {LZ : mwL} (hD : DX19_s3 fu F82 M81 L = some (FZ, MZ, LZ)) : ∀ a ∈ fx_rc3, cpx FZ a := by
  unfold DX19_s3 at hD
  obtain ⟨L83, eL83, hD⟩ := g_let hD
  obtain ⟨F84, eF84, hD⟩ := g_let hD
  obtain ⟨M85, eM85, hD⟩ := g_let hD
  obtain ⟨F86, eF86, hD⟩ := g_let hD
  obtain ⟨M87, eM87, hD⟩ := g_let hD
  obtain ⟨F88, eF88, hD⟩ := g_let hD
  obtain ⟨M89, eM89, hD⟩ := g_let hD
  obtain ⟨F90, eF90, hD⟩ := g_let hD
  obtain ⟨L91, eL91, hD⟩ := g_let hD
  obtain ⟨F92, eF92, hD⟩ := g_let hD
  obtain ⟨M93, eM93, hD⟩ := g_let hD
  obtain ⟨F94, eF94, hD⟩ := g_let hD
  obtain ⟨M95, eM95, hD⟩ := g_let hD
  obtain ⟨F96, eF96, hD⟩ := g_let hD
  obtain ⟨M97, eM97, hD⟩ := g_let hD
  obtain ⟨F98, eF98, hD⟩ := g_let hD
  obtain ⟨M99, eM99, hD⟩ := g_let hD
  obtain ⟨F100, eF100, hD⟩ := g_let hD
  obtain ⟨M101, eM101, hD⟩ := g_let hD
  obtain ⟨F102, eF102, hD⟩ := g_let hD
  obtain ⟨M103, eM103, hD⟩ := g_let hD
  obtain ⟨F104, eF104, hD⟩ := g_let hD
  obtain ⟨M105, eM105, hD⟩ := g_let hD
  obtain ⟨F106, eF106, hD⟩ := g_let hD
  obtain ⟨L107, eL107, hD⟩ := g_let hD
  obtain ⟨F108, eF108, hD⟩ := g_let hD
  obtain ⟨F109, eF109, hD⟩ := g_let hD
  obtain ⟨M110, eM110, hD⟩ := g_let hD
  obtain ⟨L111, eL111, hD⟩ := g_let hD
  obtain ⟨F112, M113, L114, hc112, hD⟩ := g_b3 hD
  have eF112 : ∀ a j, (a < 787 ∨ 821 ≤ a) → F112 a j = F109 a j := fun a j ha => kX15_init hc112 a j (by omega)
  obtain ⟨F115, eF115, hD⟩ := g_let hD
  obtain ⟨F116, eF116, hD⟩ := g_let hD
  obtain ⟨M117, eM117, hD⟩ := g_let hD
  obtain ⟨L118, eL118, hD⟩ := g_let hD
  obtain ⟨F119, M120, L121, hc119, hD⟩ := g_b3 hD
  have eF119 : ∀ a j, (a < 821 ∨ 854 ≤ a) → F119 a j = F116 a j := fun a j ha => kX12_init hc119 a j (by omega)
  obtain ⟨F122, eF122, hD⟩ := g_let hD
  obtain ⟨F123, eF123, hD⟩ := g_let hD
  obtain ⟨M124, eM124, hD⟩ := g_let hD
  obtain ⟨L125, eL125, hD⟩ := g_let hD
  obtain ⟨F126, M127, L128, hc126, hD⟩ := g_b3 hD
  have eF126 : ∀ a j, (a < 854 ∨ 869 ≤ a) → F126 a j = F123 a j := fun a j ha => kX14_init hc126 a j (by omega)
  obtain ⟨F129, eF129, hD⟩ := g_let hD
  obtain ⟨F130, eF130, hD⟩ := g_let hD
  obtain ⟨M131, eM131, hD⟩ := g_let hD
  obtain ⟨L132, eL132, hD⟩ := g_let hD
  obtain ⟨F133, M134, L135, hc133, hD⟩ := g_b3 hD
  have eF133 : ∀ a j, (a < 869 ∨ 902 ≤ a) → F133 a j = F130 a j := fun a j ha => kX17_init hc133 a j (by omega)
  obtain ⟨F136, eF136, hD⟩ := g_let hD
  have hn := fx_k4 hD
  refine List.forall_mem_append.mpr ⟨List.forall_mem_cons.mpr ⟨?_, List.forall_mem_cons.mpr ⟨?_, List.forall_mem_cons.mpr ⟨?_, List.forall_mem_cons.mpr ⟨?_, fun _ h => absurd h List.not_mem_nil⟩⟩⟩⟩, fx_c4 hD⟩
  · refine cpx_keep (F := F133) (show cpx F133 869 from gX17_init hc133 0 (List.mem_of_getElem? (i := 0) rfl)) (fun j => ?_)
    rw [hn 869 j (by decide) (fx_wn4 (by decide))]
    rw [eF136, mset_k (by decide)]
  · refine cpx_keep (F := F126) (show cpx F126 854 from gX14_init hc126 0 (List.mem_of_getElem? (i := 0) rfl)) (fun j => ?_)
    rw [hn 854 j (by decide) (fx_wn4 (by decide))]
    rw [eF136, mset_k (by decide)]
    rw [eF133 _ _ (by decide)]
    rw [eF130, mz_n (by decide)]
    rw [eF129, mset_k (by decide)]
  · refine cpx_keep (F := F119) (show cpx F119 821 from gX12_init hc119 0 (List.mem_of_getElem? (i := 0) rfl)) (fun j => ?_)
    rw [hn 821 j (by decide) (fx_wn4 (by decide))]
    rw [eF136, mset_k (by decide)]
    rw [eF133 _ _ (by decide)]
    rw [eF130, mz_n (by decide)]
    rw [eF129, mset_k (by decide)]
    rw [eF126 _ _ (by decide)]
    rw [eF123, mz_n (by decide)]
    rw [eF122, mset_k (by decide)]
  · refine cpx_keep (F := F112) (show cpx F112 787 from gX15_init hc112 0 (List.mem_of_getElem? (i := 0) rfl)) (fun j => ?_)
    rw [hn 787 j (by decide) (fx_wn4 (by decide))]
    rw [eF136, mset_k (by decide)]
    rw [eF133 _ _ (by decide)]
    rw [eF130, mz_n (by decide)]
    rw [eF129, mset_k (by decide)]
    rw [eF126 _ _ (by decide)]
    rw [eF123, mz_n (by decide)]
    rw [eF122, mset_k (by decide)]
    rw [eF119 _ _ (by decide)]
    rw [eF116, mz_n (by decide)]
    rw [eF115, mset_k (by decide)]
def fx_ws2 : List (Nat × Nat) := [(732, 60), (732, 59), (732, 58), (732, 57), (732, 56), (732, 54), (732, 53), (732, 52), (732, 51), (732, 50), (732, 49), (732, 48), (732, 47), (732, 46), (732, 44), (732, 43), (732, 42), (732, 41), (732, 40), (732, 39), (732, 38)] ++ fx_ws3
def fx_vs2 : List (Nat × Nat × Nat) := [(732, 60, 773), (732, 59, 772), (732, 58, 771), (732, 57, 770), (732, 56, 769), (732, 54, 768), (732, 53, 767), (732, 52, 766), (732, 51, 765), (732, 50, 764), (732, 49, 763), (732, 48, 762), (732, 47, 761), (732, 46, 760), (732, 44, 759), (732, 43, 758), (732, 42, 757), (732, 41, 756), (732, 40, 755), (732, 39, 754), (732, 38, 753)] ++ fx_vs3
theorem fx_wn2 {a j : Nat} (h : a ≠ 732 ∧ a ≠ 921 ∧ a ≠ 922) : (a, j) ∉ fx_ws2 := fun q => by
  have q2 := List.all_eq_true.mp (show fx_ws2.all (fun p => decide (p.1 = 732 ∨ p.1 = 921 ∨ p.1 = 922)) = true by decide +kernel) _ q
  have q3 := of_decide_eq_true q2
  dsimp only at q3
  omega
set_option maxHeartbeats 4000000 in
set_option maxRecDepth 100000 in
theorem fx_k2 {fu : Nat} {F40 : mwF} {M39 : mwM} {L : mwL} {FZ : mwF} {MZ : mwM} {LZ : mwL} (hD : DX19_s2 fu F40 M39 L = some (FZ, MZ, LZ)) : ∀ a j, a < 753 → (a, j) ∉ fx_ws2 → FZ a j = F40 a j := by
  unfold DX19_s2 at hD
  obtain ⟨M41, eM41, hD⟩ := g_let hD
  obtain ⟨F42, eF42, hD⟩ := g_let hD
  obtain ⟨M43, eM43, hD⟩ := g_let hD
  obtain ⟨F44, eF44, hD⟩ := g_let hD
  obtain ⟨M45, eM45, hD⟩ := g_let hD
  obtain ⟨F46, eF46, hD⟩ := g_let hD
  obtain ⟨M47, eM47, hD⟩ := g_let hD
  obtain ⟨F48, eF48, hD⟩ := g_let hD
  obtain ⟨M49, eM49, hD⟩ := g_let hD
  obtain ⟨F50, eF50, hD⟩ := g_let hD
  obtain ⟨M51, eM51, hD⟩ := g_let hD
  obtain ⟨F52, eF52, hD⟩ := g_let hD
  obtain ⟨M53, eM53, hD⟩ := g_let hD
  obtain ⟨F54, eF54, hD⟩ := g_let hD
  obtain ⟨M55, eM55, hD⟩ := g_let hD
  obtain ⟨F56, eF56, hD⟩ := g_let hD
  obtain ⟨M57, eM57, hD⟩ := g_let hD
  obtain ⟨F58, eF58, hD⟩ := g_let hD
  obtain ⟨M59, eM59, hD⟩ := g_let hD
  obtain ⟨F60, eF60, hD⟩ := g_let hD
  obtain ⟨M61, eM61, hD⟩ := g_let hD
  obtain ⟨F62, eF62, hD⟩ := g_let hD
  obtain ⟨M63, eM63, hD⟩ := g_let hD
  obtain ⟨F64, eF64, hD⟩ := g_let hD
  obtain ⟨M65, eM65, hD⟩ := g_let hD
  obtain ⟨F66, eF66, hD⟩ := g_let hD
  obtain ⟨M67, eM67, hD⟩ := g_let hD
  obtain ⟨F68, eF68, hD⟩ := g_let hD
  obtain ⟨M69, eM69, hD⟩ := g_let hD
  obtain ⟨F70, eF70, hD⟩ := g_let hD
  obtain ⟨M71, eM71, hD⟩ := g_let hD
  obtain ⟨F72, eF72, hD⟩ := g_let hD
  obtain ⟨M73, eM73, hD⟩ := g_let hD
  obtain ⟨F74, eF74, hD⟩ := g_let hD
  obtain ⟨M75, eM75, hD⟩ := g_let hD
  obtain ⟨F76, eF76, hD⟩ := g_let hD
  obtain ⟨M77, eM77, hD⟩ := g_let hD
  obtain ⟨F78, eF78, hD⟩ := g_let hD
  obtain ⟨M79, eM79, hD⟩ := g_let hD
  obtain ⟨F80, eF80, hD⟩ := g_let hD
  obtain ⟨M81, eM81, hD⟩ := g_let hD
  obtain ⟨F82, eF82, hD⟩ := g_let hD
  have hn := fx_k3 hD
  intro a j ha hw
  rw [hn a j (by omega) (fun q => hw (List.mem_append_right _ q))]
  rw [eF82, mset_n (fun q => hw (by rw [q.1, q.2]; decide))]
  rw [eF80, mset_n (fun q => hw (by rw [q.1, q.2]; decide))]
  rw [eF78, mset_n (fun q => hw (by rw [q.1, q.2]; decide))]
  rw [eF76, mset_n (fun q => hw (by rw [q.1, q.2]; decide))]
  rw [eF74, mset_n (fun q => hw (by rw [q.1, q.2]; decide))]
  rw [eF72, mset_n (fun q => hw (by rw [q.1, q.2]; decide))]
  rw [eF70, mset_n (fun q => hw (by rw [q.1, q.2]; decide))]
  rw [eF68, mset_n (fun q => hw (by rw [q.1, q.2]; decide))]
  rw [eF66, mset_n (fun q => hw (by rw [q.1, q.2]; decide))]
  rw [eF64, mset_n (fun q => hw (by rw [q.1, q.2]; decide))]
  rw [eF62, mset_n (fun q => hw (by rw [q.1, q.2]; decide))]
  rw [eF60, mset_n (fun q => hw (by rw [q.1, q.2]; decide))]
  rw [eF58, mset_n (fun q => hw (by rw [q.1, q.2]; decide))]
  rw [eF56, mset_n (fun q => hw (by rw [q.1, q.2]; decide))]
  rw [eF54, mset_n (fun q => hw (by rw [q.1, q.2]; decide))]
  rw [eF52, mset_n (fun q => hw (by rw [q.1, q.2]; decide))]
  rw [eF50, mset_n (fun q => hw (by rw [q.1, q.2]; decide))]
  rw [eF48, mset_n (fun q => hw (by rw [q.1, q.2]; decide))]
  rw [eF46, mset_n (fun q => hw (by rw [q.1, q.2]; decide))]
  rw [eF44, mset_n (fun q => hw (by rw [q.1, q.2]; decide))]
  rw [eF42, mset_n (fun q => hw (by rw [q.1, q.2]; decide))]
set_option maxHeartbeats 4000000 in
set_option maxRecDepth 100000 in
theorem fx_v2 {fu : Nat} {F40 : mwF} {M39 : mwM} {L : mwL} {FZ : mwF} {MZ : mwM} {LZ : mwL} (hD : DX19_s2 fu F40 M39 L = some (FZ, MZ, LZ)) : ∀ t ∈ fx_vs2, FZ t.1 t.2.1 = some t.2.2 := by
  unfold DX19_s2 at hD
  obtain ⟨M41, eM41, hD⟩ := g_let hD
  obtain ⟨F42, eF42, hD⟩ := g_let hD
  obtain ⟨M43, eM43, hD⟩ := g_let hD
  obtain ⟨F44, eF44, hD⟩ := g_let hD
  obtain ⟨M45, eM45, hD⟩ := g_let hD
  obtain ⟨F46, eF46, hD⟩ := g_let hD
  obtain ⟨M47, eM47, hD⟩ := g_let hD
  obtain ⟨F48, eF48, hD⟩ := g_let hD
  obtain ⟨M49, eM49, hD⟩ := g_let hD
  obtain ⟨F50, eF50, hD⟩ := g_let hD
  obtain ⟨M51, eM51, hD⟩ := g_let hD
  obtain ⟨F52, eF52, hD⟩ := g_let hD
  obtain ⟨M53, eM53, hD⟩ := g_let hD
  obtain ⟨F54, eF54, hD⟩ := g_let hD
  obtain ⟨M55, eM55, hD⟩ := g_let hD
  obtain ⟨F56, eF56, hD⟩ := g_let hD
  obtain ⟨M57, eM57, hD⟩ := g_let hD
  obtain ⟨F58, eF58, hD⟩ := g_let hD
  obtain ⟨M59, eM59, hD⟩ := g_let hD
  obtain ⟨F60, eF60, hD⟩ := g_let hD
  obtain ⟨M61, eM61, hD⟩ := g_let hD
  obtain ⟨F62, eF62, hD⟩ := g_let hD
  obtain ⟨M63, eM63, hD⟩ := g_let hD
  obtain ⟨F64, eF64, hD⟩ := g_let hD
  obtain ⟨M65, eM65, hD⟩ := g_let hD
  obtain ⟨F66, eF66, hD⟩ := g_let hD
  obtain ⟨M67, eM67, hD⟩ := g_let hD
  obtain ⟨F68, eF68, hD⟩ := g_let hD
  obtain ⟨M69, eM69, hD⟩ := g_let hD
  obtain ⟨F70, eF70, hD⟩ := g_let hD
  obtain ⟨M71, eM71, hD⟩ := g_let hD
  obtain ⟨F72, eF72, hD⟩ := g_let hD
  obtain ⟨M73, eM73, hD⟩ := g_let hD
  obtain ⟨F74, eF74, hD⟩ := g_let hD
  obtain ⟨M75, eM75, hD⟩ := g_let hD
  obtain ⟨F76, eF76, hD⟩ := g_let hD
  obtain ⟨M77, eM77, hD⟩ := g_let hD
  obtain ⟨F78, eF78, hD⟩ := g_let hD
  obtain ⟨M79, eM79, hD⟩ := g_let hD
  obtain ⟨F80, eF80, hD⟩ := g_let hD
  obtain ⟨M81, eM81, hD⟩ := g_let hD
  obtain ⟨F82, eF82, hD⟩ := g_let hD
  have hn := fx_k3 hD
  refine List.forall_mem_append.mpr ⟨List.forall_mem_cons.mpr ⟨?_, List.forall_mem_cons.mpr ⟨?_, List.forall_mem_cons.mpr ⟨?_, List.forall_mem_cons.mpr ⟨?_, List.forall_mem_cons.mpr ⟨?_, List.forall_mem_cons.mpr ⟨?_, List.forall_mem_cons.mpr ⟨?_, List.forall_mem_cons.mpr ⟨?_, List.forall_mem_cons.mpr ⟨?_, List.forall_mem_cons.mpr ⟨?_, List.forall_mem_cons.mpr ⟨?_, List.forall_mem_cons.mpr ⟨?_, List.forall_mem_cons.mpr ⟨?_, List.forall_mem_cons.mpr ⟨?_, List.forall_mem_cons.mpr ⟨?_, List.forall_mem_cons.mpr ⟨?_, List.forall_mem_cons.mpr ⟨?_, List.forall_mem_cons.mpr ⟨?_, List.forall_mem_cons.mpr ⟨?_, List.forall_mem_cons.mpr ⟨?_, List.forall_mem_cons.mpr ⟨?_, fun _ h => absurd h List.not_mem_nil⟩⟩⟩⟩⟩⟩⟩⟩⟩⟩⟩⟩⟩⟩⟩⟩⟩⟩⟩⟩⟩, fx_v3 hD⟩
  · show FZ 732 60 = some 773
    rw [hn 732 60 (by decide) (by decide)]
    rw [eF82]
    exact mset_s
  · show FZ 732 59 = some 772
    rw [hn 732 59 (by decide) (by decide)]
    rw [eF82, mset_j (by decide)]
    rw [eF80]
    exact mset_s
  · show FZ 732 58 = some 771
    rw [hn 732 58 (by decide) (by decide)]
    rw [eF82, mset_j (by decide)]
    rw [eF80, mset_j (by decide)]
    rw [eF78]
    exact mset_s
  · show FZ 732 57 = some 770
    rw [hn 732 57 (by decide) (by decide)]
    rw [eF82, mset_j (by decide)]
    rw [eF80, mset_j (by decide)]
    rw [eF78, mset_j (by decide)]
    rw [eF76]
    exact mset_s
  · show FZ 732 56 = some 769
    rw [hn 732 56 (by decide) (by decide)]
    rw [eF82, mset_j (by decide)]
    rw [eF80, mset_j (by decide)]
    rw [eF78, mset_j (by decide)]
    rw [eF76, mset_j (by decide)]
    rw [eF74]
    exact mset_s
  · show FZ 732 54 = some 768
    rw [hn 732 54 (by decide) (by decide)]
    rw [eF82, mset_j (by decide)]
    rw [eF80, mset_j (by decide)]
    rw [eF78, mset_j (by decide)]
    rw [eF76, mset_j (by decide)]
    rw [eF74, mset_j (by decide)]
    rw [eF72]
    exact mset_s
  · show FZ 732 53 = some 767
    rw [hn 732 53 (by decide) (by decide)]
    rw [eF82, mset_j (by decide)]
    rw [eF80, mset_j (by decide)]
    rw [eF78, mset_j (by decide)]
    rw [eF76, mset_j (by decide)]
    rw [eF74, mset_j (by decide)]
    rw [eF72, mset_j (by decide)]
    rw [eF70]
    exact mset_s
  · show FZ 732 52 = some 766
    rw [hn 732 52 (by decide) (by decide)]
    rw [eF82, mset_j (by decide)]
    rw [eF80, mset_j (by decide)]
    rw [eF78, mset_j (by decide)]
    rw [eF76, mset_j (by decide)]
    rw [eF74, mset_j (by decide)]
    rw [eF72, mset_j (by decide)]
    rw [eF70, mset_j (by decide)]
    rw [eF68]
    exact mset_s
  · show FZ 732 51 = some 765
    rw [hn 732 51 (by decide) (by decide)]
    rw [eF82, mset_j (by decide)]
    rw [eF80, mset_j (by decide)]
    rw [eF78, mset_j (by decide)]
    rw [eF76, mset_j (by decide)]
    rw [eF74, mset_j (by decide)]
    rw [eF72, mset_j (by decide)]
    rw [eF70, mset_j (by decide)]
    rw [eF68, mset_j (by decide)]
    rw [eF66]
    exact mset_s
  · show FZ 732 50 = some 764
    rw [hn 732 50 (by decide) (by decide)]
    rw [eF82, mset_j (by decide)]
    rw [eF80, mset_j (by decide)]
    rw [eF78, mset_j (by decide)]
    rw [eF76, mset_j (by decide)]
    rw [eF74, mset_j (by decide)]
    rw [eF72, mset_j (by decide)]
    rw [eF70, mset_j (by decide)]
    rw [eF68, mset_j (by decide)]
    rw [eF66, mset_j (by decide)]
    rw [eF64]
    exact mset_s
  · show FZ 732 49 = some 763
    rw [hn 732 49 (by decide) (by decide)]
    rw [eF82, mset_j (by decide)]
    rw [eF80, mset_j (by decide)]
    rw [eF78, mset_j (by decide)]
    rw [eF76, mset_j (by decide)]
    rw [eF74, mset_j (by decide)]
    rw [eF72, mset_j (by decide)]
    rw [eF70, mset_j (by decide)]
    rw [eF68, mset_j (by decide)]
    rw [eF66, mset_j (by decide)]
    rw [eF64, mset_j (by decide)]
    rw [eF62]
    exact mset_s
  · show FZ 732 48 = some 762
    rw [hn 732 48 (by decide) (by decide)]
    rw [eF82, mset_j (by decide)]
    rw [eF80, mset_j (by decide)]
    rw [eF78, mset_j (by decide)]
    rw [eF76, mset_j (by decide)]
    rw [eF74, mset_j (by decide)]
    rw [eF72, mset_j (by decide)]
    rw [eF70, mset_j (by decide)]
    rw [eF68, mset_j (by decide)]
    rw [eF66, mset_j (by decide)]
    rw [eF64, mset_j (by decide)]
    rw [eF62, mset_j (by decide)]
    rw [eF60]
    exact mset_s
  · show FZ 732 47 = some 761
    rw [hn 732 47 (by decide) (by decide)]
    rw [eF82, mset_j (by decide)]
    rw [eF80, mset_j (by decide)]
    rw [eF78, mset_j (by decide)]
    rw [eF76, mset_j (by decide)]
    rw [eF74, mset_j (by decide)]
    rw [eF72, mset_j (by decide)]
    rw [eF70, mset_j (by decide)]
    rw [eF68, mset_j (by decide)]
    rw [eF66, mset_j (by decide)]
    rw [eF64, mset_j (by decide)]
    rw [eF62, mset_j (by decide)]
    rw [eF60, mset_j (by decide)]
    rw [eF58]
    exact mset_s
  · show FZ 732 46 = some 760
    rw [hn 732 46 (by decide) (by decide)]
    rw [eF82, mset_j (by decide)]
    rw [eF80, mset_j (by decide)]
    rw [eF78, mset_j (by decide)]
    rw [eF76, mset_j (by decide)]
    rw [eF74, mset_j (by decide)]
    rw [eF72, mset_j (by decide)]
    rw [eF70, mset_j (by decide)]
    rw [eF68, mset_j (by decide)]
    rw [eF66, mset_j (by decide)]
    rw [eF64, mset_j (by decide)]
    rw [eF62, mset_j (by decide)]
    rw [eF60, mset_j (by decide)]
    rw [eF58, mset_j (by decide)]
    rw [eF56]
    exact mset_s
  · show FZ 732 44 = some 759
    rw [hn 732 44 (by decide) (by decide)]
    rw [eF82, mset_j (by decide)]
    rw [eF80, mset_j (by decide)]
    rw [eF78, mset_j (by decide)]
    rw [eF76, mset_j (by decide)]
    rw [eF74, mset_j (by decide)]
    rw [eF72, mset_j (by decide)]
    rw [eF70, mset_j (by decide)]
    rw [eF68, mset_j (by decide)]
    rw [eF66, mset_j (by decide)]
    rw [eF64, mset_j (by decide)]
    rw [eF62, mset_j (by decide)]
    rw [eF60, mset_j (by decide)]
    rw [eF58, mset_j (by decide)]
    rw [eF56, mset_j (by decide)]
    rw [eF54]
    exact mset_s
  · show FZ 732 43 = some 758
    rw [hn 732 43 (by decide) (by decide)]
    rw [eF82, mset_j (by decide)]
    rw [eF80, mset_j (by decide)]
    rw [eF78, mset_j (by decide)]
    rw [eF76, mset_j (by decide)]
    rw [eF74, mset_j (by decide)]
    rw [eF72, mset_j (by decide)]
    rw [eF70, mset_j (by decide)]
    rw [eF68, mset_j (by decide)]
    rw [eF66, mset_j (by decide)]
    rw [eF64, mset_j (by decide)]
    rw [eF62, mset_j (by decide)]
    rw [eF60, mset_j (by decide)]
    rw [eF58, mset_j (by decide)]
    rw [eF56, mset_j (by decide)]
    rw [eF54, mset_j (by decide)]
    rw [eF52]
    exact mset_s
  · show FZ 732 42 = some 757
    rw [hn 732 42 (by decide) (by decide)]
    rw [eF82, mset_j (by decide)]
    rw [eF80, mset_j (by decide)]
    rw [eF78, mset_j (by decide)]
    rw [eF76, mset_j (by decide)]
    rw [eF74, mset_j (by decide)]
    rw [eF72, mset_j (by decide)]
    rw [eF70, mset_j (by decide)]
    rw [eF68, mset_j (by decide)]
    rw [eF66, mset_j (by decide)]
    rw [eF64, mset_j (by decide)]
    rw [eF62, mset_j (by decide)]
    rw [eF60, mset_j (by decide)]
    rw [eF58, mset_j (by decide)]
    rw [eF56, mset_j (by decide)]
    rw [eF54, mset_j (by decide)]
    rw [eF52, mset_j (by decide)]
    rw [eF50]
    exact mset_s
  · show FZ 732 41 = some 756
    rw [hn 732 41 (by decide) (by decide)]
    rw [eF82, mset_j (by decide)]
    rw [eF80, mset_j (by decide)]
    rw [eF78, mset_j (by decide)]
    rw [eF76, mset_j (by decide)]
    rw [eF74, mset_j (by decide)]
    rw [eF72, mset_j (by decide)]
    rw [eF70, mset_j (by decide)]
    rw [eF68, mset_j (by decide)]
    rw [eF66, mset_j (by decide)]
    rw [eF64, mset_j (by decide)]
    rw [eF62, mset_j (by decide)]
    rw [eF60, mset_j (by decide)]
    rw [eF58, mset_j (by decide)]
    rw [eF56, mset_j (by decide)]
    rw [eF54, mset_j (by decide)]
    rw [eF52, mset_j (by decide)]
    rw [eF50, mset_j (by decide)]
    rw [eF48]
    exact mset_s
  · show FZ 732 40 = some 755
    rw [hn 732 40 (by decide) (by decide)]
    rw [eF82, mset_j (by decide)]
    rw [eF80, mset_j (by decide)]
    rw [eF78, mset_j (by decide)]
    rw [eF76, mset_j (by decide)]
    rw [eF74, mset_j (by decide)]
    rw [eF72, mset_j (by decide)]
    rw [eF70, mset_j (by decide)]
    rw [eF68, mset_j (by decide)]
    rw [eF66, mset_j (by decide)]
    rw [eF64, mset_j (by decide)]
    rw [eF62, mset_j (by decide)]
    rw [eF60, mset_j (by decide)]
    rw [eF58, mset_j (by decide)]
    rw [eF56, mset_j (by decide)]
    rw [eF54, mset_j (by decide)]
    rw [eF52, mset_j (by decide)]
    rw [eF50, mset_j (by decide)]
    rw [eF48, mset_j (by decide)]
    rw [eF46]
    exact mset_s
  · show FZ 732 39 = some 754
    rw [hn 732 39 (by decide) (by decide)]
    rw [eF82, mset_j (by decide)]
    rw [eF80, mset_j (by decide)]
    rw [eF78, mset_j (by decide)]
    rw [eF76, mset_j (by decide)]
    rw [eF74, mset_j (by decide)]
    rw [eF72, mset_j (by decide)]
    rw [eF70, mset_j (by decide)]
    rw [eF68, mset_j (by decide)]
    rw [eF66, mset_j (by decide)]
    rw [eF64, mset_j (by decide)]
    rw [eF62, mset_j (by decide)]
    rw [eF60, mset_j (by decide)]
    rw [eF58, mset_j (by decide)]
    rw [eF56, mset_j (by decide)]
    rw [eF54, mset_j (by decide)]
    rw [eF52, mset_j (by decide)]
    rw [eF50, mset_j (by decide)]
    rw [eF48, mset_j (by decide)]
    rw [eF46, mset_j (by decide)]
    rw [eF44]
    exact mset_s
  · show FZ 732 38 = some 753
    rw [hn 732 38 (by decide) (by decide)]
    rw [eF82, mset_j (by decide)]
    rw [eF80, mset_j (by decide)]
    rw [eF78, mset_j (by decide)]
    rw [eF76, mset_j (by decide)]
    rw [eF74, mset_j (by decide)]
    rw [eF72, mset_j (by decide)]
    rw [eF70, mset_j (by decide)]
    rw [eF68, mset_j (by decide)]
    rw [eF66, mset_j (by decide)]
    rw [eF64, mset_j (by decide)]
    rw [eF62, mset_j (by decide)]
    rw [eF60, mset_j (by decide)]
    rw [eF58, mset_j (by decide)]
    rw [eF56, mset_j (by decide)]
    rw [eF54, mset_j (by decide)]
    rw [eF52, mset_j (by decide)]
    rw [eF50, mset_j (by decide)]
    rw [eF48, mset_j (by decide)]
    rw [eF46, mset_j (by decide)]
    rw [eF44, mset_j (by decide)]
    rw [eF42]
    exact mset_s
def fx_rc2 : List Nat := [] ++ fx_rc3
set_option maxHeartbeats 4000000 in
set_option maxRecDepth 100000 in
theorem fx_c2 {fu : Nat} {F40 : mwF} {M39 : mwM} {L : mwL} {FZ : mwF} {MZ : mwM} {LZ : mwL} (hD : DX19_s2 fu F40 M39 L = some (FZ, MZ, LZ)) : ∀ a ∈ fx_rc2, cpx FZ a := by
  unfold DX19_s2 at hD
  obtain ⟨M41, eM41, hD⟩ := g_let hD
  obtain ⟨F42, eF42, hD⟩ := g_let hD
  obtain ⟨M43, eM43, hD⟩ := g_let hD
  obtain ⟨F44, eF44, hD⟩ := g_let hD
  obtain ⟨M45, eM45, hD⟩ := g_let hD
  obtain ⟨F46, eF46, hD⟩ := g_let hD
  obtain ⟨M47, eM47, hD⟩ := g_let hD
  obtain ⟨F48, eF48, hD⟩ := g_let hD
  obtain ⟨M49, eM49, hD⟩ := g_let hD
  obtain ⟨F50, eF50, hD⟩ := g_let hD
  obtain ⟨M51, eM51, hD⟩ := g_let hD
  obtain ⟨F52, eF52, hD⟩ := g_let hD
  obtain ⟨M53, eM53, hD⟩ := g_let hD
  obtain ⟨F54, eF54, hD⟩ := g_let hD
  obtain ⟨M55, eM55, hD⟩ := g_let hD
  obtain ⟨F56, eF56, hD⟩ := g_let hD
  obtain ⟨M57, eM57, hD⟩ := g_let hD
  obtain ⟨F58, eF58, hD⟩ := g_let hD
  obtain ⟨M59, eM59, hD⟩ := g_let hD
  obtain ⟨F60, eF60, hD⟩ := g_let hD
  obtain ⟨M61, eM61, hD⟩ := g_let hD
  obtain ⟨F62, eF62, hD⟩ := g_let hD
  obtain ⟨M63, eM63, hD⟩ := g_let hD
  obtain ⟨F64, eF64, hD⟩ := g_let hD
  obtain ⟨M65, eM65, hD⟩ := g_let hD
  obtain ⟨F66, eF66, hD⟩ := g_let hD
  obtain ⟨M67, eM67, hD⟩ := g_let hD
  obtain ⟨F68, eF68, hD⟩ := g_let hD
  obtain ⟨M69, eM69, hD⟩ := g_let hD
  obtain ⟨F70, eF70, hD⟩ := g_let hD
  obtain ⟨M71, eM71, hD⟩ := g_let hD
  obtain ⟨F72, eF72, hD⟩ := g_let hD
  obtain ⟨M73, eM73, hD⟩ := g_let hD
  obtain ⟨F74, eF74, hD⟩ := g_let hD
  obtain ⟨M75, eM75, hD⟩ := g_let hD
  obtain ⟨F76, eF76, hD⟩ := g_let hD
  obtain ⟨M77, eM77, hD⟩ := g_let hD
  obtain ⟨F78, eF78, hD⟩ := g_let hD
  obtain ⟨M79, eM79, hD⟩ := g_let hD
  obtain ⟨F80, eF80, hD⟩ := g_let hD
  obtain ⟨M81, eM81, hD⟩ := g_let hD
  obtain ⟨F82, eF82, hD⟩ := g_let hD
  have hn := fx_k3 hD
  refine List.forall_mem_append.mpr ⟨fun _ h => absurd h List.not_mem_nil, fx_c3 hD⟩
def fx_ws1 : List (Nat × Nat) := [(732, 37), (732, 36), (732, 35), (732, 34), (732, 32), (732, 31), (732, 30), (732, 29), (732, 28), (732, 27), (732, 26), (732, 25), (732, 23), (732, 22), (732, 21), (732, 18), (732, 17), (732, 16), (732, 15), (732, 1)] ++ fx_ws2
def fx_vs1 : List (Nat × Nat × Nat) := [(732, 37, 752), (732, 36, 751), (732, 35, 750), (732, 34, 749), (732, 32, 748), (732, 31, 747), (732, 30, 746), (732, 29, 745), (732, 28, 744), (732, 27, 743), (732, 26, 742), (732, 25, 741), (732, 23, 740), (732, 22, 739), (732, 21, 738), (732, 18, 737), (732, 17, 736), (732, 16, 735), (732, 15, 734), (732, 1, 733)] ++ fx_vs2
theorem fx_wn1 {a j : Nat} (h : a ≠ 732 ∧ a ≠ 921 ∧ a ≠ 922) : (a, j) ∉ fx_ws1 := fun q => by
  have q2 := List.all_eq_true.mp (show fx_ws1.all (fun p => decide (p.1 = 732 ∨ p.1 = 921 ∨ p.1 = 922)) = true by decide +kernel) _ q
  have q3 := of_decide_eq_true q2
  dsimp only at q3
  omega
set_option maxHeartbeats 4000000 in
set_option maxRecDepth 100000 in
theorem fx_k1 {fu : Nat} {F : mwF} {M : mwM} {L : mwL} {FZ : mwF} {MZ : mwM} {LZ : mwL} (hD : DX19_init fu F M L = some (FZ, MZ, LZ)) : ∀ a j, a < 733 → (a, j) ∉ fx_ws1 → FZ a j = F a j := by
  unfold DX19_init at hD
  obtain ⟨M1, eM1, hD⟩ := g_let hD
  obtain ⟨F2, eF2, hD⟩ := g_let hD
  obtain ⟨M3, eM3, hD⟩ := g_let hD
  obtain ⟨F4, eF4, hD⟩ := g_let hD
  obtain ⟨M5, eM5, hD⟩ := g_let hD
  obtain ⟨F6, eF6, hD⟩ := g_let hD
  obtain ⟨M7, eM7, hD⟩ := g_let hD
  obtain ⟨F8, eF8, hD⟩ := g_let hD
  obtain ⟨M9, eM9, hD⟩ := g_let hD
  obtain ⟨F10, eF10, hD⟩ := g_let hD
  obtain ⟨M11, eM11, hD⟩ := g_let hD
  obtain ⟨F12, eF12, hD⟩ := g_let hD
  obtain ⟨M13, eM13, hD⟩ := g_let hD
  obtain ⟨F14, eF14, hD⟩ := g_let hD
  obtain ⟨M15, eM15, hD⟩ := g_let hD
  obtain ⟨F16, eF16, hD⟩ := g_let hD
  obtain ⟨M17, eM17, hD⟩ := g_let hD
  obtain ⟨F18, eF18, hD⟩ := g_let hD
  obtain ⟨M19, eM19, hD⟩ := g_let hD
  obtain ⟨F20, eF20, hD⟩ := g_let hD
  obtain ⟨M21, eM21, hD⟩ := g_let hD
  obtain ⟨F22, eF22, hD⟩ := g_let hD
  obtain ⟨M23, eM23, hD⟩ := g_let hD
  obtain ⟨F24, eF24, hD⟩ := g_let hD
  obtain ⟨M25, eM25, hD⟩ := g_let hD
  obtain ⟨F26, eF26, hD⟩ := g_let hD
  obtain ⟨M27, eM27, hD⟩ := g_let hD
  obtain ⟨F28, eF28, hD⟩ := g_let hD
  obtain ⟨M29, eM29, hD⟩ := g_let hD
  obtain ⟨F30, eF30, hD⟩ := g_let hD
  obtain ⟨M31, eM31, hD⟩ := g_let hD
  obtain ⟨F32, eF32, hD⟩ := g_let hD
  obtain ⟨M33, eM33, hD⟩ := g_let hD
  obtain ⟨F34, eF34, hD⟩ := g_let hD
  obtain ⟨M35, eM35, hD⟩ := g_let hD
  obtain ⟨F36, eF36, hD⟩ := g_let hD
  obtain ⟨M37, eM37, hD⟩ := g_let hD
  obtain ⟨F38, eF38, hD⟩ := g_let hD
  obtain ⟨M39, eM39, hD⟩ := g_let hD
  obtain ⟨F40, eF40, hD⟩ := g_let hD
  have hn := fx_k2 hD
  intro a j ha hw
  rw [hn a j (by omega) (fun q => hw (List.mem_append_right _ q))]
  rw [eF40, mset_n (fun q => hw (by rw [q.1, q.2]; decide))]
  rw [eF38, mset_n (fun q => hw (by rw [q.1, q.2]; decide))]
  rw [eF36, mset_n (fun q => hw (by rw [q.1, q.2]; decide))]
  rw [eF34, mset_n (fun q => hw (by rw [q.1, q.2]; decide))]
  rw [eF32, mset_n (fun q => hw (by rw [q.1, q.2]; decide))]
  rw [eF30, mset_n (fun q => hw (by rw [q.1, q.2]; decide))]
  rw [eF28, mset_n (fun q => hw (by rw [q.1, q.2]; decide))]
  rw [eF26, mset_n (fun q => hw (by rw [q.1, q.2]; decide))]
  rw [eF24, mset_n (fun q => hw (by rw [q.1, q.2]; decide))]
  rw [eF22, mset_n (fun q => hw (by rw [q.1, q.2]; decide))]
  rw [eF20, mset_n (fun q => hw (by rw [q.1, q.2]; decide))]
  rw [eF18, mset_n (fun q => hw (by rw [q.1, q.2]; decide))]
  rw [eF16, mset_n (fun q => hw (by rw [q.1, q.2]; decide))]
  rw [eF14, mset_n (fun q => hw (by rw [q.1, q.2]; decide))]
  rw [eF12, mset_n (fun q => hw (by rw [q.1, q.2]; decide))]
  rw [eF10, mset_n (fun q => hw (by rw [q.1, q.2]; decide))]
  rw [eF8, mset_n (fun q => hw (by rw [q.1, q.2]; decide))]
  rw [eF6, mset_n (fun q => hw (by rw [q.1, q.2]; decide))]
  rw [eF4, mset_n (fun q => hw (by rw [q.1, q.2]; decide))]
  rw [eF2, mset_n (fun q => hw (by rw [q.1, q.2]; decide))]
set_option maxHeartbeats 4000000 in
set_option maxRecDepth 100000 in
theorem fx_v1 {fu : Nat} {F : mwF} {M : mwM} {L : mwL} {FZ : mwF} {MZ : mwM} {LZ : mwL} (hD : DX19_init fu F M L = some (FZ, MZ, LZ)) : ∀ t ∈ fx_vs1, FZ t.1 t.2.1 = some t.2.2 := by
  unfold DX19_init at hD
  obtain ⟨M1, eM1, hD⟩ := g_let hD
  obtain ⟨F2, eF2, hD⟩ := g_let hD
  obtain ⟨M3, eM3, hD⟩ := g_let hD
  obtain ⟨F4, eF4, hD⟩ := g_let hD
  obtain ⟨M5, eM5, hD⟩ := g_let hD
  obtain ⟨F6, eF6, hD⟩ := g_let hD
  obtain ⟨M7, eM7, hD⟩ := g_let hD
  obtain ⟨F8, eF8, hD⟩ := g_let hD
  obtain ⟨M9, eM9, hD⟩ := g_let hD
  obtain ⟨F10, eF10, hD⟩ := g_let hD
  obtain ⟨M11, eM11, hD⟩ := g_let hD
  obtain ⟨F12, eF12, hD⟩ := g_let hD
  obtain ⟨M13, eM13, hD⟩ := g_let hD
  obtain ⟨F14, eF14, hD⟩ := g_let hD
  obtain ⟨M15, eM15, hD⟩ := g_let hD
  obtain ⟨F16, eF16, hD⟩ := g_let hD
  obtain ⟨M17, eM17, hD⟩ := g_let hD
  obtain ⟨F18, eF18, hD⟩ := g_let hD
  obtain ⟨M19, eM19, hD⟩ := g_let hD
  obtain ⟨F20, eF20, hD⟩ := g_let hD
  obtain ⟨M21, eM21, hD⟩ := g_let hD
  obtain ⟨F22, eF22, hD⟩ := g_let hD
  obtain ⟨M23, eM23, hD⟩ := g_let hD
  obtain ⟨F24, eF24, hD⟩ := g_let hD
  obtain ⟨M25, eM25, hD⟩ := g_let hD
  obtain ⟨F26, eF26, hD⟩ := g_let hD
  obtain ⟨M27, eM27, hD⟩ := g_let hD
  obtain ⟨F28, eF28, hD⟩ := g_let hD
  obtain ⟨M29, eM29, hD⟩ := g_let hD
  obtain ⟨F30, eF30, hD⟩ := g_let hD
  obtain ⟨M31, eM31, hD⟩ := g_let hD
  obtain ⟨F32, eF32, hD⟩ := g_let hD
  obtain ⟨M33, eM33, hD⟩ := g_let hD
  obtain ⟨F34, eF34, hD⟩ := g_let hD
  obtain ⟨M35, eM35, hD⟩ := g_let hD
  obtain ⟨F36, eF36, hD⟩ := g_let hD
  obtain ⟨M37, eM37, hD⟩ := g_let hD
  obtain ⟨F38, eF38, hD⟩ := g_let hD
  obtain ⟨M39, eM39, hD⟩ := g_let hD
  obtain ⟨F40, eF40, hD⟩ := g_let hD
  have hn := fx_k2 hD
  refine List.forall_mem_append.mpr ⟨List.forall_mem_cons.mpr ⟨?_, List.forall_mem_cons.mpr ⟨?_, List.forall_mem_cons.mpr ⟨?_, List.forall_mem_cons.mpr ⟨?_, List.forall_mem_cons.mpr ⟨?_, List.forall_mem_cons.mpr ⟨?_, List.forall_mem_cons.mpr ⟨?_, List.forall_mem_cons.mpr ⟨?_, List.forall_mem_cons.mpr ⟨?_, List.forall_mem_cons.mpr ⟨?_, List.forall_mem_cons.mpr ⟨?_, List.forall_mem_cons.mpr ⟨?_, List.forall_mem_cons.mpr ⟨?_, List.forall_mem_cons.mpr ⟨?_, List.forall_mem_cons.mpr ⟨?_, List.forall_mem_cons.mpr ⟨?_, List.forall_mem_cons.mpr ⟨?_, List.forall_mem_cons.mpr ⟨?_, List.forall_mem_cons.mpr ⟨?_, List.forall_mem_cons.mpr ⟨?_, fun _ h => absurd h List.not_mem_nil⟩⟩⟩⟩⟩⟩⟩⟩⟩⟩⟩⟩⟩⟩⟩⟩⟩⟩⟩⟩, fx_v2 hD⟩
  · show FZ 732 37 = some 752
    rw [hn 732 37 (by decide) (by decide)]
    rw [eF40]
    exact mset_s
  · show FZ 732 36 = some 751
    rw [hn 732 36 (by decide) (by decide)]
    rw [eF40, mset_j (by decide)]
    rw [eF38]
    exact mset_s
  · show FZ 732 35 = some 750
    rw [hn 732 35 (by decide) (by decide)]
    rw [eF40, mset_j (by decide)]
    rw [eF38, mset_j (by decide)]
    rw [eF36]
    exact mset_s
  · show FZ 732 34 = some 749
    rw [hn 732 34 (by decide) (by decide)]
    rw [eF40, mset_j (by decide)]
    rw [eF38, mset_j (by decide)]
    rw [eF36, mset_j (by decide)]
    rw [eF34]
    exact mset_s
  · show FZ 732 32 = some 748
    rw [hn 732 32 (by decide) (by decide)]
    rw [eF40, mset_j (by decide)]
    rw [eF38, mset_j (by decide)]
    rw [eF36, mset_j (by decide)]
    rw [eF34, mset_j (by decide)]
    rw [eF32]
    exact mset_s
  · show FZ 732 31 = some 747
    rw [hn 732 31 (by decide) (by decide)]
    rw [eF40, mset_j (by decide)]
    rw [eF38, mset_j (by decide)]
    rw [eF36, mset_j (by decide)]
    rw [eF34, mset_j (by decide)]
    rw [eF32, mset_j (by decide)]
    rw [eF30]
    exact mset_s
  · show FZ 732 30 = some 746
    rw [hn 732 30 (by decide) (by decide)]
    rw [eF40, mset_j (by decide)]
    rw [eF38, mset_j (by decide)]
    rw [eF36, mset_j (by decide)]
    rw [eF34, mset_j (by decide)]
    rw [eF32, mset_j (by decide)]
    rw [eF30, mset_j (by decide)]
    rw [eF28]
    exact mset_s
  · show FZ 732 29 = some 745
    rw [hn 732 29 (by decide) (by decide)]
    rw [eF40, mset_j (by decide)]
    rw [eF38, mset_j (by decide)]
    rw [eF36, mset_j (by decide)]
    rw [eF34, mset_j (by decide)]
    rw [eF32, mset_j (by decide)]
    rw [eF30, mset_j (by decide)]
    rw [eF28, mset_j (by decide)]
    rw [eF26]
    exact mset_s
  · show FZ 732 28 = some 744
    rw [hn 732 28 (by decide) (by decide)]
    rw [eF40, mset_j (by decide)]
    rw [eF38, mset_j (by decide)]
    rw [eF36, mset_j (by decide)]
    rw [eF34, mset_j (by decide)]
    rw [eF32, mset_j (by decide)]
    rw [eF30, mset_j (by decide)]
    rw [eF28, mset_j (by decide)]
    rw [eF26, mset_j (by decide)]
    rw [eF24]
    exact mset_s
  · show FZ 732 27 = some 743
    rw [hn 732 27 (by decide) (by decide)]
    rw [eF40, mset_j (by decide)]
    rw [eF38, mset_j (by decide)]
    rw [eF36, mset_j (by decide)]
    rw [eF34, mset_j (by decide)]
    rw [eF32, mset_j (by decide)]
    rw [eF30, mset_j (by decide)]
    rw [eF28, mset_j (by decide)]
    rw [eF26, mset_j (by decide)]
    rw [eF24, mset_j (by decide)]
    rw [eF22]
    exact mset_s
  · show FZ 732 26 = some 742
    rw [hn 732 26 (by decide) (by decide)]
    rw [eF40, mset_j (by decide)]
    rw [eF38, mset_j (by decide)]
    rw [eF36, mset_j (by decide)]
    rw [eF34, mset_j (by decide)]
    rw [eF32, mset_j (by decide)]
    rw [eF30, mset_j (by decide)]
    rw [eF28, mset_j (by decide)]
    rw [eF26, mset_j (by decide)]
    rw [eF24, mset_j (by decide)]
    rw [eF22, mset_j (by decide)]
    rw [eF20]
    exact mset_s
  · show FZ 732 25 = some 741
    rw [hn 732 25 (by decide) (by decide)]
    rw [eF40, mset_j (by decide)]
    rw [eF38, mset_j (by decide)]
    rw [eF36, mset_j (by decide)]
    rw [eF34, mset_j (by decide)]
    rw [eF32, mset_j (by decide)]
    rw [eF30, mset_j (by decide)]
    rw [eF28, mset_j (by decide)]
    rw [eF26, mset_j (by decide)]
    rw [eF24, mset_j (by decide)]
    rw [eF22, mset_j (by decide)]
    rw [eF20, mset_j (by decide)]
    rw [eF18]
    exact mset_s
  · show FZ 732 23 = some 740
    rw [hn 732 23 (by decide) (by decide)]
    rw [eF40, mset_j (by decide)]
    rw [eF38, mset_j (by decide)]
    rw [eF36, mset_j (by decide)]
    rw [eF34, mset_j (by decide)]
    rw [eF32, mset_j (by decide)]
    rw [eF30, mset_j (by decide)]
    rw [eF28, mset_j (by decide)]
    rw [eF26, mset_j (by decide)]
    rw [eF24, mset_j (by decide)]
    rw [eF22, mset_j (by decide)]
    rw [eF20, mset_j (by decide)]
    rw [eF18, mset_j (by decide)]
    rw [eF16]
    exact mset_s
  · show FZ 732 22 = some 739
    rw [hn 732 22 (by decide) (by decide)]
    rw [eF40, mset_j (by decide)]
    rw [eF38, mset_j (by decide)]
    rw [eF36, mset_j (by decide)]
    rw [eF34, mset_j (by decide)]
    rw [eF32, mset_j (by decide)]
    rw [eF30, mset_j (by decide)]
    rw [eF28, mset_j (by decide)]
    rw [eF26, mset_j (by decide)]
    rw [eF24, mset_j (by decide)]
    rw [eF22, mset_j (by decide)]
    rw [eF20, mset_j (by decide)]
    rw [eF18, mset_j (by decide)]
    rw [eF16, mset_j (by decide)]
    rw [eF14]
    exact mset_s
  · show FZ 732 21 = some 738
    rw [hn 732 21 (by decide) (by decide)]
    rw [eF40, mset_j (by decide)]
    rw [eF38, mset_j (by decide)]
    rw [eF36, mset_j (by decide)]
    rw [eF34, mset_j (by decide)]
    rw [eF32, mset_j (by decide)]
    rw [eF30, mset_j (by decide)]
    rw [eF28, mset_j (by decide)]
    rw [eF26, mset_j (by decide)]
    rw [eF24, mset_j (by decide)]
    rw [eF22, mset_j (by decide)]
    rw [eF20, mset_j (by decide)]
    rw [eF18, mset_j (by decide)]
    rw [eF16, mset_j (by decide)]
    rw [eF14, mset_j (by decide)]
    rw [eF12]
    exact mset_s
  · show FZ 732 18 = some 737
    rw [hn 732 18 (by decide) (by decide)]
    rw [eF40, mset_j (by decide)]
    rw [eF38, mset_j (by decide)]
    rw [eF36, mset_j (by decide)]
    rw [eF34, mset_j (by decide)]
    rw [eF32, mset_j (by decide)]
    rw [eF30, mset_j (by decide)]
    rw [eF28, mset_j (by decide)]
    rw [eF26, mset_j (by decide)]
    rw [eF24, mset_j (by decide)]
    rw [eF22, mset_j (by decide)]
    rw [eF20, mset_j (by decide)]
    rw [eF18, mset_j (by decide)]
    rw [eF16, mset_j (by decide)]
    rw [eF14, mset_j (by decide)]
    rw [eF12, mset_j (by decide)]
    rw [eF10]
    exact mset_s
  · show FZ 732 17 = some 736
    rw [hn 732 17 (by decide) (by decide)]
    rw [eF40, mset_j (by decide)]
    rw [eF38, mset_j (by decide)]
    rw [eF36, mset_j (by decide)]
    rw [eF34, mset_j (by decide)]
    rw [eF32, mset_j (by decide)]
    rw [eF30, mset_j (by decide)]
    rw [eF28, mset_j (by decide)]
    rw [eF26, mset_j (by decide)]
    rw [eF24, mset_j (by decide)]
    rw [eF22, mset_j (by decide)]
    rw [eF20, mset_j (by decide)]
    rw [eF18, mset_j (by decide)]
    rw [eF16, mset_j (by decide)]
    rw [eF14, mset_j (by decide)]
    rw [eF12, mset_j (by decide)]
    rw [eF10, mset_j (by decide)]
    rw [eF8]
    exact mset_s
  · show FZ 732 16 = some 735
    rw [hn 732 16 (by decide) (by decide)]
    rw [eF40, mset_j (by decide)]
    rw [eF38, mset_j (by decide)]
    rw [eF36, mset_j (by decide)]
    rw [eF34, mset_j (by decide)]
    rw [eF32, mset_j (by decide)]
    rw [eF30, mset_j (by decide)]
    rw [eF28, mset_j (by decide)]
    rw [eF26, mset_j (by decide)]
    rw [eF24, mset_j (by decide)]
    rw [eF22, mset_j (by decide)]
    rw [eF20, mset_j (by decide)]
    rw [eF18, mset_j (by decide)]
    rw [eF16, mset_j (by decide)]
    rw [eF14, mset_j (by decide)]
    rw [eF12, mset_j (by decide)]
    rw [eF10, mset_j (by decide)]
    rw [eF8, mset_j (by decide)]
    rw [eF6]
    exact mset_s
  · show FZ 732 15 = some 734
    rw [hn 732 15 (by decide) (by decide)]
    rw [eF40, mset_j (by decide)]
    rw [eF38, mset_j (by decide)]
    rw [eF36, mset_j (by decide)]
    rw [eF34, mset_j (by decide)]
    rw [eF32, mset_j (by decide)]
    rw [eF30, mset_j (by decide)]
    rw [eF28, mset_j (by decide)]
    rw [eF26, mset_j (by decide)]
    rw [eF24, mset_j (by decide)]
    rw [eF22, mset_j (by decide)]
    rw [eF20, mset_j (by decide)]
    rw [eF18, mset_j (by decide)]
    rw [eF16, mset_j (by decide)]
    rw [eF14, mset_j (by decide)]
    rw [eF12, mset_j (by decide)]
    rw [eF10, mset_j (by decide)]
    rw [eF8, mset_j (by decide)]
    rw [eF6, mset_j (by decide)]
    rw [eF4]
    exact mset_s
  · show FZ 732 1 = some 733
    rw [hn 732 1 (by decide) (by decide)]
    rw [eF40, mset_j (by decide)]
    rw [eF38, mset_j (by decide)]
    rw [eF36, mset_j (by decide)]
    rw [eF34, mset_j (by decide)]
    rw [eF32, mset_j (by decide)]
    rw [eF30, mset_j (by decide)]
    rw [eF28, mset_j (by decide)]
    rw [eF26, mset_j (by decide)]
    rw [eF24, mset_j (by decide)]
    rw [eF22, mset_j (by decide)]
    rw [eF20, mset_j (by decide)]
    rw [eF18, mset_j (by decide)]
    rw [eF16, mset_j (by decide)]
    rw [eF14, mset_j (by decide)]
    rw [eF12, mset_j (by decide)]
    rw [eF10, mset_j (by decide)]
    rw [eF8, mset_j (by decide)]
    rw [eF6, mset_j (by decide)]
    rw [eF4, mset_j (by decide)]
    rw [eF2]
    exact mset_s
def fx_rc1 : List Nat := [] ++ fx_rc2
set_option maxHeartbeats 4000000 in
set_option maxRecDepth 100000 in
theorem fx_c1 {fu : Nat} {F : mwF} {M : mwM} {L : mwL} {FZ : mwF} {MZ : mwM} {LZ : mwL} (hD : DX19_init fu F M L = some (FZ, MZ, LZ)) : ∀ a ∈ fx_rc1, cpx FZ a := by
  unfold DX19_init at hD
  obtain ⟨M1, eM1, hD⟩ := g_let hD
  obtain ⟨F2, eF2, hD⟩ := g_let hD
  obtain ⟨M3, eM3, hD⟩ := g_let hD
  obtain ⟨F4, eF4, hD⟩ := g_let hD
  obtain ⟨M5, eM5, hD⟩ := g_let hD
  obtain ⟨F6, eF6, hD⟩ := g_let hD
  obtain ⟨M7, eM7, hD⟩ := g_let hD
  obtain ⟨F8, eF8, hD⟩ := g_let hD
  obtain ⟨M9, eM9, hD⟩ := g_let hD
  obtain ⟨F10, eF10, hD⟩ := g_let hD
  obtain ⟨M11, eM11, hD⟩ := g_let hD
  obtain ⟨F12, eF12, hD⟩ := g_let hD
  obtain ⟨M13, eM13, hD⟩ := g_let hD
  obtain ⟨F14, eF14, hD⟩ := g_let hD
  obtain ⟨M15, eM15, hD⟩ := g_let hD
  obtain ⟨F16, eF16, hD⟩ := g_let hD
  obtain ⟨M17, eM17, hD⟩ := g_let hD
  obtain ⟨F18, eF18, hD⟩ := g_let hD
  obtain ⟨M19, eM19, hD⟩ := g_let hD
  obtain ⟨F20, eF20, hD⟩ := g_let hD
  obtain ⟨M21, eM21, hD⟩ := g_let hD
  obtain ⟨F22, eF22, hD⟩ := g_let hD
  obtain ⟨M23, eM23, hD⟩ := g_let hD
  obtain ⟨F24, eF24, hD⟩ := g_let hD
  obtain ⟨M25, eM25, hD⟩ := g_let hD
  obtain ⟨F26, eF26, hD⟩ := g_let hD
  obtain ⟨M27, eM27, hD⟩ := g_let hD
  obtain ⟨F28, eF28, hD⟩ := g_let hD
  obtain ⟨M29, eM29, hD⟩ := g_let hD
  obtain ⟨F30, eF30, hD⟩ := g_let hD
  obtain ⟨M31, eM31, hD⟩ := g_let hD
  obtain ⟨F32, eF32, hD⟩ := g_let hD
  obtain ⟨M33, eM33, hD⟩ := g_let hD
  obtain ⟨F34, eF34, hD⟩ := g_let hD
  obtain ⟨M35, eM35, hD⟩ := g_let hD
  obtain ⟨F36, eF36, hD⟩ := g_let hD
  obtain ⟨M37, eM37, hD⟩ := g_let hD
  obtain ⟨F38, eF38, hD⟩ := g_let hD
  obtain ⟨M39, eM39, hD⟩ := g_let hD
  obtain ⟨F40, eF40, hD⟩ := g_let hD
  have hn := fx_k2 hD
  refine List.forall_mem_append.mpr ⟨fun _ h => absurd h List.not_mem_nil, fx_c2 hD⟩
set_option maxHeartbeats 4000000 in
set_option maxRecDepth 100000 in
theorem gX19_init {fu : Nat} {F : mwF} {M : mwM} {L : mwL} {FZ : mwF} {MZ : mwM} {LZ : mwL} (hD : DX19_init fu F M L = some (FZ, MZ, LZ)) : ∀ o ∈ [0, 55, 89, 122, 137, 170, 189, 190, 209, 232, 262, 285, 315, 338, 368, 391, 421, 444, 474, 497, 527, 550, 580, 603, 633, 656, 686, 709, 739, 762, 792, 815], cpx FZ (732 + o) := by
  have hv := fx_v1 hD
  have hc := fx_c1 hD
  refine List.forall_mem_cons.mpr ⟨?_, List.forall_mem_cons.mpr ⟨?_, List.forall_mem_cons.mpr ⟨?_, List.forall_mem_cons.mpr ⟨?_, List.forall_mem_cons.mpr ⟨?_, List.forall_mem_cons.mpr ⟨?_, List.forall_mem_cons.mpr ⟨?_, List.forall_mem_cons.mpr ⟨?_, List.forall_mem_cons.mpr ⟨?_, List.forall_mem_cons.mpr ⟨?_, List.forall_mem_cons.mpr ⟨?_, List.forall_mem_cons.mpr ⟨?_, List.forall_mem_cons.mpr ⟨?_, List.forall_mem_cons.mpr ⟨?_, List.forall_mem_cons.mpr ⟨?_, List.forall_mem_cons.mpr ⟨?_, List.forall_mem_cons.mpr ⟨?_, List.forall_mem_cons.mpr ⟨?_, List.forall_mem_cons.mpr ⟨?_, List.forall_mem_cons.mpr ⟨?_, List.forall_mem_cons.mpr ⟨?_, List.forall_mem_cons.mpr ⟨?_, List.forall_mem_cons.mpr ⟨?_, List.forall_mem_cons.mpr ⟨?_, List.forall_mem_cons.mpr ⟨?_, List.forall_mem_cons.mpr ⟨?_, List.forall_mem_cons.mpr ⟨?_, List.forall_mem_cons.mpr ⟨?_, List.forall_mem_cons.mpr ⟨?_, List.forall_mem_cons.mpr ⟨?_, List.forall_mem_cons.mpr ⟨?_, List.forall_mem_cons.mpr ⟨?_, fun _ h => absurd h List.not_mem_nil⟩⟩⟩⟩⟩⟩⟩⟩⟩⟩⟩⟩⟩⟩⟩⟩⟩⟩⟩⟩⟩⟩⟩⟩⟩⟩⟩⟩⟩⟩⟩⟩
  · show cpx FZ 732
    intro j hj hn
    rw [need_O tf_732] at hn
    rw [show (TF _).2 = _ from congrArg Prod.snd tf_732] at hj
    match j, hj, hn with
    | 0, _, hn => exact absurd hn (by decide)
    | 1, _, _ => exact (hv (732, 1, 733) (by decide)).trans ff_732_1.symm
    | 2, _, hn => exact absurd hn (by decide)
    | 3, _, hn => exact absurd hn (by decide)
    | 4, _, hn => exact absurd hn (by decide)
    | 5, _, hn => exact absurd hn (by decide)
    | 6, _, hn => exact absurd hn (by decide)
    | 7, _, hn => exact absurd hn (by decide)
    | 8, _, hn => exact absurd hn (by decide)
    | 9, _, hn => exact absurd hn (by decide)
    | 10, _, hn => exact absurd hn (by decide)
    | 11, _, hn => exact absurd hn (by decide)
    | 12, _, hn => exact absurd hn (by decide)
    | 13, _, hn => exact absurd hn (by decide)
    | 14, _, hn => exact absurd hn (by decide)
    | 15, _, _ => exact (hv (732, 15, 734) (by decide)).trans ff_732_15.symm
    | 16, _, _ => exact (hv (732, 16, 735) (by decide)).trans ff_732_16.symm
    | 17, _, _ => exact (hv (732, 17, 736) (by decide)).trans ff_732_17.symm
    | 18, _, _ => exact (hv (732, 18, 737) (by decide)).trans ff_732_18.symm
    | 19, _, hn => exact absurd hn (by decide)
    | 20, _, hn => exact absurd hn (by decide)
    | 21, _, _ => exact (hv (732, 21, 738) (by decide)).trans ff_732_21.symm
    | 22, _, _ => exact (hv (732, 22, 739) (by decide)).trans ff_732_22.symm
    | 23, _, _ => exact (hv (732, 23, 740) (by decide)).trans ff_732_23.symm
    | 24, _, hn => exact absurd hn (by decide)
    | 25, _, _ => exact (hv (732, 25, 741) (by decide)).trans ff_732_25.symm
    | 26, _, _ => exact (hv (732, 26, 742) (by decide)).trans ff_732_26.symm
    | 27, _, _ => exact (hv (732, 27, 743) (by decide)).trans ff_732_27.symm
    | 28, _, _ => exact (hv (732, 28, 744) (by decide)).trans ff_732_28.symm
    | 29, _, _ => exact (hv (732, 29, 745) (by decide)).trans ff_732_29.symm
    | 30, _, _ => exact (hv (732, 30, 746) (by decide)).trans ff_732_30.symm
    | 31, _, _ => exact (hv (732, 31, 747) (by decide)).trans ff_732_31.symm
    | 32, _, _ => exact (hv (732, 32, 748) (by decide)).trans ff_732_32.symm
    | 33, _, hn => exact absurd hn (by decide)
    | 34, _, _ => exact (hv (732, 34, 749) (by decide)).trans ff_732_34.symm
    | 35, _, _ => exact (hv (732, 35, 750) (by decide)).trans ff_732_35.symm
    | 36, _, _ => exact (hv (732, 36, 751) (by decide)).trans ff_732_36.symm
    | 37, _, _ => exact (hv (732, 37, 752) (by decide)).trans ff_732_37.symm
    | 38, _, _ => exact (hv (732, 38, 753) (by decide)).trans ff_732_38.symm
    | 39, _, _ => exact (hv (732, 39, 754) (by decide)).trans ff_732_39.symm
    | 40, _, _ => exact (hv (732, 40, 755) (by decide)).trans ff_732_40.symm
    | 41, _, _ => exact (hv (732, 41, 756) (by decide)).trans ff_732_41.symm
    | 42, _, _ => exact (hv (732, 42, 757) (by decide)).trans ff_732_42.symm
    | 43, _, _ => exact (hv (732, 43, 758) (by decide)).trans ff_732_43.symm
    | 44, _, _ => exact (hv (732, 44, 759) (by decide)).trans ff_732_44.symm
    | 45, _, hn => exact absurd hn (by decide)
    | 46, _, _ => exact (hv (732, 46, 760) (by decide)).trans ff_732_46.symm
    | 47, _, _ => exact (hv (732, 47, 761) (by decide)).trans ff_732_47.symm
    | 48, _, _ => exact (hv (732, 48, 762) (by decide)).trans ff_732_48.symm
    | 49, _, _ => exact (hv (732, 49, 763) (by decide)).trans ff_732_49.symm
    | 50, _, _ => exact (hv (732, 50, 764) (by decide)).trans ff_732_50.symm
    | 51, _, _ => exact (hv (732, 51, 765) (by decide)).trans ff_732_51.symm
    | 52, _, _ => exact (hv (732, 52, 766) (by decide)).trans ff_732_52.symm
    | 53, _, _ => exact (hv (732, 53, 767) (by decide)).trans ff_732_53.symm
    | 54, _, _ => exact (hv (732, 54, 768) (by decide)).trans ff_732_54.symm
    | 55, _, hn => exact absurd hn (by decide)
    | 56, _, _ => exact (hv (732, 56, 769) (by decide)).trans ff_732_56.symm
    | 57, _, _ => exact (hv (732, 57, 770) (by decide)).trans ff_732_57.symm
    | 58, _, _ => exact (hv (732, 58, 771) (by decide)).trans ff_732_58.symm
    | 59, _, _ => exact (hv (732, 59, 772) (by decide)).trans ff_732_59.symm
    | 60, _, _ => exact (hv (732, 60, 773) (by decide)).trans ff_732_60.symm
    | 61, _, _ => exact (hv (732, 61, 774) (by decide)).trans ff_732_61.symm
    | 62, _, hn => exact absurd hn (by decide)
    | 63, _, _ => exact (hv (732, 63, 775) (by decide)).trans ff_732_63.symm
    | 64, _, _ => exact (hv (732, 64, 776) (by decide)).trans ff_732_64.symm
    | 65, _, _ => exact (hv (732, 65, 777) (by decide)).trans ff_732_65.symm
    | 66, _, _ => exact (hv (732, 66, 778) (by decide)).trans ff_732_66.symm
    | 67, _, hn => exact absurd hn (by decide)
    | 68, _, _ => exact (hv (732, 68, 779) (by decide)).trans ff_732_68.symm
    | 69, _, _ => exact (hv (732, 69, 780) (by decide)).trans ff_732_69.symm
    | 70, _, _ => exact (hv (732, 70, 781) (by decide)).trans ff_732_70.symm
    | 71, _, _ => exact (hv (732, 71, 782) (by decide)).trans ff_732_71.symm
    | 72, _, _ => exact (hv (732, 72, 783) (by decide)).trans ff_732_72.symm
    | 73, _, _ => exact (hv (732, 73, 784) (by decide)).trans ff_732_73.symm
    | 74, _, _ => exact (hv (732, 74, 785) (by decide)).trans ff_732_74.symm
    | 75, _, _ => exact (hv (732, 75, 786) (by decide)).trans ff_732_75.symm
    | 76, _, _ => exact (hv (732, 76, 787) (by decide)).trans ff_732_76.symm
    | 77, _, _ => exact (hv (732, 77, 821) (by decide)).trans ff_732_77.symm
    | 78, _, _ => exact (hv (732, 78, 854) (by decide)).trans ff_732_78.symm
    | 79, _, _ => exact (hv (732, 79, 869) (by decide)).trans ff_732_79.symm
    | 80, _, _ => exact (hv (732, 80, 902) (by decide)).trans ff_732_80.symm
    | 81, _, _ => exact (hv (732, 81, 921) (by decide)).trans ff_732_81.symm
    | 82, _, _ => exact (hv (732, 82, 922) (by decide)).trans ff_732_82.symm
    | 83, _, hn => exact absurd hn (by decide)
    | 84, _, _ => exact (hv (732, 84, 923) (by decide)).trans ff_732_84.symm
    | 85, _, _ => exact (hv (732, 85, 924) (by decide)).trans ff_732_85.symm
    | 86, _, _ => exact (hv (732, 86, 925) (by decide)).trans ff_732_86.symm
    | 87, _, _ => exact (hv (732, 87, 926) (by decide)).trans ff_732_87.symm
    | 88, _, hn => exact absurd hn (by decide)
    | 89, _, _ => exact (hv (732, 89, 927) (by decide)).trans ff_732_89.symm
    | 90, _, _ => exact (hv (732, 90, 928) (by decide)).trans ff_732_90.symm
    | 91, _, hn => exact absurd hn (by decide)
    | 92, _, _ => exact (hv (732, 92, 929) (by decide)).trans ff_732_92.symm
    | 93, _, _ => exact (hv (732, 93, 930) (by decide)).trans ff_732_93.symm
    | 94, _, hn => exact absurd hn (by decide)
    | 95, _, hn => exact absurd hn (by decide)
    | 96, _, hn => exact absurd hn (by decide)
    | 97, _, hn => exact absurd hn (by decide)
    | 98, _, hn => exact absurd hn (by decide)
    | 99, _, _ => exact (hv (732, 99, 931) (by decide)).trans ff_732_99.symm
    | 100, _, _ => exact (hv (732, 100, 932) (by decide)).trans ff_732_100.symm
    | 101, _, _ => exact (hv (732, 101, 933) (by decide)).trans ff_732_101.symm
    | 102, _, hn => exact absurd hn (by decide)
    | 103, _, _ => exact (hv (732, 103, 934) (by decide)).trans ff_732_103.symm
    | 104, _, _ => exact (hv (732, 104, 935) (by decide)).trans ff_732_104.symm
    | 105, _, _ => exact (hv (732, 105, 936) (by decide)).trans ff_732_105.symm
    | 106, _, _ => exact (hv (732, 106, 937) (by decide)).trans ff_732_106.symm
    | 107, _, _ => exact (hv (732, 107, 938) (by decide)).trans ff_732_107.symm
    | 108, _, hn => exact absurd hn (by decide)
    | 109, _, _ => exact (hv (732, 109, 939) (by decide)).trans ff_732_109.symm
    | 110, _, hn => exact absurd hn (by decide)
    | 111, _, _ => exact (hv (732, 111, 940) (by decide)).trans ff_732_111.symm
    | n + 112, hj, _ => exact absurd hj (by show ¬ n + 112 < 112; omega)
  · exact hc 787 (by decide)
  · exact hc 821 (by decide)
  · exact hc 854 (by decide)
  · exact hc 869 (by decide)
  · exact hc 902 (by decide)
  · show cpx FZ 921
    intro j hj _
    replace hj : j < 12 := by rw [show (TF _).2 = _ from congrArg Prod.snd tf_921] at hj; exact hj
    match j, hj with
    | 0, _ => exact (hv (921, 0, 941) (by decide)).trans (fr_921 0 (by decide)).symm
    | 1, _ => exact (hv (921, 1, 994) (by decide)).trans (fr_921 1 (by decide)).symm
    | 2, _ => exact (hv (921, 2, 1047) (by decide)).trans (fr_921 2 (by decide)).symm
    | 3, _ => exact (hv (921, 3, 1100) (by decide)).trans (fr_921 3 (by decide)).symm
    | 4, _ => exact (hv (921, 4, 1153) (by decide)).trans (fr_921 4 (by decide)).symm
    | 5, _ => exact (hv (921, 5, 1206) (by decide)).trans (fr_921 5 (by decide)).symm
    | 6, _ => exact (hv (921, 6, 1259) (by decide)).trans (fr_921 6 (by decide)).symm
    | 7, _ => exact (hv (921, 7, 1312) (by decide)).trans (fr_921 7 (by decide)).symm
    | 8, _ => exact (hv (921, 8, 1365) (by decide)).trans (fr_921 8 (by decide)).symm
    | 9, _ => exact (hv (921, 9, 1418) (by decide)).trans (fr_921 9 (by decide)).symm
    | 10, _ => exact (hv (921, 10, 1471) (by decide)).trans (fr_921 10 (by decide)).symm
    | 11, _ => exact (hv (921, 11, 1524) (by decide)).trans (fr_921 11 (by decide)).symm
    | n + 12, hj => exact absurd hj (by omega)
  · show cpx FZ 922
    intro j hj _
    replace hj : j < 12 := by rw [show (TF _).2 = _ from congrArg Prod.snd tf_922] at hj; exact hj
    match j, hj with
    | 0, _ => exact (hv (922, 0, 964) (by decide)).trans (fr_922 0 (by decide)).symm
    | 1, _ => exact (hv (922, 1, 1017) (by decide)).trans (fr_922 1 (by decide)).symm
    | 2, _ => exact (hv (922, 2, 1070) (by decide)).trans (fr_922 2 (by decide)).symm
    | 3, _ => exact (hv (922, 3, 1123) (by decide)).trans (fr_922 3 (by decide)).symm
    | 4, _ => exact (hv (922, 4, 1176) (by decide)).trans (fr_922 4 (by decide)).symm
    | 5, _ => exact (hv (922, 5, 1229) (by decide)).trans (fr_922 5 (by decide)).symm
    | 6, _ => exact (hv (922, 6, 1282) (by decide)).trans (fr_922 6 (by decide)).symm
    | 7, _ => exact (hv (922, 7, 1335) (by decide)).trans (fr_922 7 (by decide)).symm
    | 8, _ => exact (hv (922, 8, 1388) (by decide)).trans (fr_922 8 (by decide)).symm
    | 9, _ => exact (hv (922, 9, 1441) (by decide)).trans (fr_922 9 (by decide)).symm
    | 10, _ => exact (hv (922, 10, 1494) (by decide)).trans (fr_922 10 (by decide)).symm
    | 11, _ => exact (hv (922, 11, 1547) (by decide)).trans (fr_922 11 (by decide)).symm
    | n + 12, hj => exact absurd hj (by omega)
  · exact hc 941 (by decide)
  · exact hc 964 (by decide)
  · exact hc 994 (by decide)
  · exact hc 1017 (by decide)
  · exact hc 1047 (by decide)
  · exact hc 1070 (by decide)
  · exact hc 1100 (by decide)
  · exact hc 1123 (by decide)
  · exact hc 1153 (by decide)
  · exact hc 1176 (by decide)
  · exact hc 1206 (by decide)
  · exact hc 1229 (by decide)
  · exact hc 1259 (by decide)
  · exact hc 1282 (by decide)
  · exact hc 1312 (by decide)
  · exact hc 1335 (by decide)
  · exact hc 1365 (by decide)
  · exact hc 1388 (by decide)
  · exact hc 1418 (by decide)
  · exact hc 1441 (by decide)
  · exact hc 1471 (by decide)
  · exact hc 1494 (by decide)
  · exact hc 1524 (by decide)
  · exact hc 1547 (by decide)
def RCc : List Nat := [0, 1, 3, 4, 5, 6, 20, 24, 33, 41, 42, 47, 49, 51, 53, 55, 57, 59, 61, 62, 73, 81, 85, 97, 100, 118, 139, 140, 154, 155, 161, 263, 269, 275, 285, 293, 294, 313, 321, 329, 330, 349, 357, 365, 366, 385, 393, 401, 402, 421, 429, 437, 438, 457, 465, 473, 474, 493, 501, 509, 510, 529, 537, 545, 546, 565, 573, 581, 582, 601, 609, 617, 618, 637, 645, 653, 654, 673, 681, 689, 690, 709, 717, 725]
def RCm : List Nat := [0, 55, 89, 122, 137, 170, 189, 190, 209, 232, 262, 285, 315, 338, 368, 391, 421, 444, 474, 497, 527, 550, 580, 603, 633, 656, 686, 709, 739, 762, 792, 815]
