/-! THE TABLES OF THE CODES (printed by mk_tab.py) -/
def tPW : List Nat := [1, 3, 5, 15, 17, 51, 85, 255, 26, 46, 114, 150, 161, 248, 19, 53, 95, 225, 56, 72, 216, 115, 149, 164, 247, 2, 6, 10, 30, 34, 102, 170, 229, 52, 92, 228, 55, 89, 235, 38, 106, 190, 217, 112, 144, 171, 230, 49, 83, 245, 4, 12, 20, 60, 68, 204, 79, 209, 104, 184, 211, 110, 178, 205, 76, 212, 103, 169, 224, 59, 77, 215, 98, 166, 241, 8, 24, 40, 120, 136, 131, 158, 185, 208, 107, 189, 220, 127, 129, 152, 179, 206, 73, 219, 118, 154, 181, 196, 87, 249, 16, 48, 80, 240, 11, 29, 39, 105, 187, 214, 97, 163, 254, 25, 43, 125, 135, 146, 173, 236, 47, 113, 147, 174, 233, 32, 96, 160, 251, 22, 58, 78, 210, 109, 183, 194, 93, 231, 50, 86, 250, 21, 63, 65, 195, 94, 226, 61, 71, 201, 64, 192, 91, 237, 44, 116, 156, 191, 218, 117, 159, 186, 213, 100, 172, 239, 42, 126, 130, 157, 188, 223, 122, 142, 137, 128, 155, 182, 193, 88, 232, 35, 101, 175, 234, 37, 111, 177, 200, 67, 197, 84, 252, 31, 33, 99, 165, 244, 7, 9, 27, 45, 119, 153, 176, 203, 70, 202, 69, 207, 74, 222, 121, 139, 134, 145, 168, 227, 62, 66, 198, 81, 243, 14, 18, 54, 90, 238, 41, 123, 141, 140, 143, 138, 133, 148, 167, 242, 13, 23, 57, 75, 221, 124, 132, 151, 162, 253, 28, 36, 108, 180, 199, 82, 246, 1]
def tIV : List Nat := [1, 246, 82, 199, 180, 108, 36, 28, 253, 162, 151, 132, 124, 221, 75, 57, 23, 13, 242, 167, 148, 133, 138, 143, 140, 141, 123, 41, 238, 90, 54, 18, 14, 243, 81, 198, 66, 62, 227, 168, 145, 134, 139, 121, 222, 74, 207, 69, 202, 70, 203, 176, 153, 119, 45, 27, 9, 7, 244, 165, 99, 33, 31, 252, 84, 197, 67, 200, 177, 111, 37, 234, 175, 101, 35, 232, 88, 193, 182, 155, 128, 137, 142, 122, 223, 188, 157, 130, 126, 42, 239, 172, 100, 213, 186, 159, 117, 218, 191, 156, 116, 44, 237, 91, 192, 64, 201, 71, 61, 226, 94, 195, 65, 63, 21, 250, 86, 50, 231, 93, 194, 183, 109, 210, 78, 58, 22, 251, 160, 96, 32, 233, 174, 147, 113, 47, 236, 173, 146, 135, 125, 43, 25, 254, 163, 97, 214, 187, 105, 39, 29, 11, 240, 80, 48, 16, 249, 87, 196, 181, 154, 118, 219, 73, 206, 179, 152, 129, 127, 220, 189, 107, 208, 185, 158, 131, 136, 120, 40, 24, 8, 241, 166, 98, 215, 77, 59, 224, 169, 103, 212, 76, 205, 178, 110, 211, 184, 104, 209, 79, 204, 68, 60, 20, 12, 4, 245, 83, 49, 230, 171, 144, 112, 217, 190, 106, 38, 235, 89, 55, 228, 92, 52, 229, 170, 102, 34, 30, 10, 6, 2, 247, 164, 149, 115, 216, 72, 56, 225, 95, 53, 19, 248, 161, 150, 114, 46, 26, 255, 85, 51, 17, 15, 5, 3, 1]
def tLG : List Nat := [0, 0, 25, 1, 50, 2, 26, 198, 75, 199, 27, 104, 51, 238, 223, 3, 100, 4, 224, 14, 52, 141, 129, 239, 76, 113, 8, 200, 248, 105, 28, 193, 125, 194, 29, 181, 249, 185, 39, 106, 77, 228, 166, 114, 154, 201, 9, 120, 101, 47, 138, 5, 33, 15, 225, 36, 18, 240, 130, 69, 53, 147, 218, 142, 150, 143, 219, 189, 54, 208, 206, 148, 19, 92, 210, 241, 64, 70, 131, 56, 102, 221, 253, 48, 191, 6, 139, 98, 179, 37, 226, 152, 34, 136, 145, 16, 126, 110, 72, 195, 163, 182, 30, 66, 58, 107, 40, 84, 250, 133, 61, 186, 43, 121, 10, 21, 155, 159, 94, 202, 78, 212, 172, 229, 243, 115, 167, 87, 175, 88, 168, 80, 244, 234, 214, 116, 79, 174, 233, 213, 231, 230, 173, 232, 44, 215, 117, 122, 235, 22, 11, 245, 89, 203, 95, 176, 156, 169, 81, 160, 127, 12, 246, 111, 23, 196, 73, 236, 216, 67, 31, 45, 164, 118, 123, 183, 204, 187, 62, 90, 251, 96, 177, 134, 59, 82, 161, 108, 170, 85, 41, 157, 151, 178, 135, 144, 97, 190, 220, 252, 188, 149, 207, 205, 55, 63, 91, 209, 83, 57, 132, 60, 65, 162, 109, 71, 20, 42, 158, 93, 86, 242, 211, 171, 68, 17, 146, 217, 35, 32, 46, 137, 180, 124, 184, 38, 119, 153, 227, 165, 103, 74, 237, 222, 197, 49, 254, 24, 13, 99, 140, 128, 192, 247, 112, 7]
def tNV : List Nat := [0, 1, 141, 246, 203, 82, 123, 209, 232, 79, 41, 192, 176, 225, 229, 199, 116, 180, 170, 75, 153, 43, 96, 95, 88, 63, 253, 204, 255, 64, 238, 178, 58, 110, 90, 241, 85, 77, 168, 201, 193, 10, 152, 21, 48, 68, 162, 194, 44, 69, 146, 108, 243, 57, 102, 66, 242, 53, 32, 111, 119, 187, 89, 25, 29, 254, 55, 103, 45, 49, 245, 105, 167, 100, 171, 19, 84, 37, 233, 9, 237, 92, 5, 202, 76, 36, 135, 191, 24, 62, 34, 240, 81, 236, 97, 23, 22, 94, 175, 211, 73, 166, 54, 67, 244, 71, 145, 223, 51, 147, 33, 59, 121, 183, 151, 133, 16, 181, 186, 60, 182, 112, 208, 6, 161, 250, 129, 130, 131, 126, 127, 128, 150, 115, 190, 86, 155, 158, 149, 217, 247, 2, 185, 164, 222, 106, 50, 109, 216, 138, 132, 114, 42, 20, 159, 136, 249, 220, 137, 154, 251, 124, 46, 195, 143, 184, 101, 72, 38, 200, 18, 74, 206, 231, 210, 98, 12, 224, 31, 239, 17, 117, 120, 113, 165, 142, 118, 61, 189, 188, 134, 87, 11, 40, 47, 163, 218, 212, 228, 15, 169, 39, 83, 4, 27, 252, 172, 230, 122, 7, 174, 99, 197, 219, 226, 234, 148, 139, 196, 213, 157, 248, 144, 107, 177, 13, 214, 235, 198, 14, 207, 173, 8, 78, 215, 227, 93, 80, 30, 179, 91, 35, 56, 52, 104, 70, 3, 140, 221, 156, 125, 160, 205, 26, 65, 28]
def tSB : List Nat := [99, 124, 119, 123, 242, 107, 111, 197, 48, 1, 103, 43, 254, 215, 171, 118, 202, 130, 201, 125, 250, 89, 71, 240, 173, 212, 162, 175, 156, 164, 114, 192, 183, 253, 147, 38, 54, 63, 247, 204, 52, 165, 229, 241, 113, 216, 49, 21, 4, 199, 35, 195, 24, 150, 5, 154, 7, 18, 128, 226, 235, 39, 178, 117, 9, 131, 44, 26, 27, 110, 90, 160, 82, 59, 214, 179, 41, 227, 47, 132, 83, 209, 0, 237, 32, 252, 177, 91, 106, 203, 190, 57, 74, 76, 88, 207, 208, 239, 170, 251, 67, 77, 51, 133, 69, 249, 2, 127, 80, 60, 159, 168, 81, 163, 64, 143, 146, 157, 56, 245, 188, 182, 218, 33, 16, 255, 243, 210, 205, 12, 19, 236, 95, 151, 68, 23, 196, 167, 126, 61, 100, 93, 25, 115, 96, 129, 79, 220, 34, 42, 144, 136, 70, 238, 184, 20, 222, 94, 11, 219, 224, 50, 58, 10, 73, 6, 36, 92, 194, 211, 172, 98, 145, 149, 228, 121, 231, 200, 55, 109, 141, 213, 78, 169, 108, 86, 244, 234, 101, 122, 174, 8, 186, 120, 37, 46, 28, 166, 180, 198, 232, 221, 116, 31, 75, 189, 139, 138, 112, 62, 181, 102, 72, 3, 246, 14, 97, 53, 87, 185, 134, 193, 29, 158, 225, 248, 152, 17, 105, 217, 142, 148, 155, 30, 135, 233, 206, 85, 40, 223, 140, 161, 137, 13, 191, 230, 66, 104, 65, 153, 45, 15, 176, 84, 187, 22]
def SbN (i : Nat) : Nat := tSB.getD i 0
theorem SbN_lt : ∀ i, i < 256 → SbN i < 256 := by decide +kernel
def mixI (a1 : Int32) : Int32 := (((((a1 ^^^ (((a1 <<< (8 &&& 31)) ||| a1) >>> (7 &&& 31))) ^^^ (((a1 <<< (8 &&& 31)) ||| a1) >>> (6 &&& 31))) ^^^ (((a1 <<< (8 &&& 31)) ||| a1) >>> (5 &&& 31))) ^^^ (((a1 <<< (8 &&& 31)) ||| a1) >>> (4 &&& 31))) ^^^ 99) &&& 255
theorem c_mix {fu : Nat} {a : Int32} {M : mwM} {L : mwL} : DX3_mixBits fu a M L = some (mixI a, M, L) := rfl
def tiA (a1 : Int32) : Int32 := (a1 ^^^ (a1 <<< (1 &&& 31))) ^^^ ((a1 ^^^ (a1 <<< (1 &&& 31))) <<< (2 &&& 31))
def tiB (a1 : Int32) : Int32 := tiA a1 ^^^ (tiA a1 <<< (4 &&& 31))
def tiI (a1 : Int32) : Int32 := if (tiB a1 &&& 128) = 0 then (tiB a1 &&& 255) ^^^ 0 else (tiB a1 &&& 255) ^^^ 9
theorem c_ti {fu : Nat} {a : Int32} {M : mwM} {L : mwL} : DX3_timesInverseOfThree fu a M L = some (tiI a, M, L) := by
  unfold DX3_timesInverseOfThree fX3_timesInverseOfThree_b37 tiI
  show (if (tiB a &&& 128) = 0 then some ((tiB a &&& 255) ^^^ 0, M, L) else some ((tiB a &&& 255) ^^^ 9, M, L)) = _
  by_cases q : (tiB a &&& 128) = 0
  · rw [if_pos q, if_pos q]
  · rw [if_neg q, if_neg q]
theorem tab_pw : ∀ i, i < 255 → tPW.getD i 0 < 256 ∧ 0 < tPW.getD i 0 ∧ tPW.getD i 0 ^^^ dblN (tPW.getD i 0) = tPW.getD (i + 1) 0 ∧ tiI (sI (tIV.getD i 0)) = sI (tIV.getD (i + 1) 0) ∧ mixI (sI (tIV.getD i 0)) = sI (SbN (tPW.getD i 0)) := by decide +kernel
theorem tab_lg : ∀ a, a < 256 → 0 < a → tLG.getD a 0 < 255 ∧ tPW.getD (tLG.getD a 0) 0 = a := by decide +kernel
theorem tab_99 : ∀ v, v < 256 → ((sI v <<< (1 &&& 31)) &&& 255) ^^^ (if v < 128 then (0 : Int32) else 27) = sI (dblN v) := by decide +kernel
theorem c_127 {fu : Nat} {L : mwL} : ∀ (m i f : Nat) (M : mwM), i + m = 255 → m < f → (M 98 0 = sI (SbN 0) ∧ ∀ j, j < i → M 98 (tPW.getD j 0) = sI (SbN (tPW.getD j 0))) → bytes M 99 256 dblN → ∃ M', fX3_tail_h127 fu f (sI (tPW.getD i 0), sI (tIV.getD i 0), sI i, M, L) = some (M', L) ∧ (M' 98 0 = sI (SbN 0) ∧ ∀ j, j < 255 → M' 98 (tPW.getD j 0) = sI (SbN (tPW.getD j 0))) ∧ bytes M' 99 256 dblN ∧ ∀ a y, a ≠ 98 → M' a y = M a y := by
  intro m
  induction m with
  | zero =>
    intro i f M hi hf h1 h2
    obtain ⟨f, rfl⟩ : ∃ y, f = y + 1 := ⟨f - 1, by omega⟩
    have : i = 255 := by omega
    subst this
    refine ⟨M, ?_, h1, h2, fun _ _ _ => rfl⟩
    show fX3_tail_i127 fu (fX3_tail_h127 fu f) (sI (tPW.getD 255 0)) (sI (tIV.getD 255 0)) (sI 255) M L = _
    unfold fX3_tail_i127
    rw [if_pos (show (255 : Int32) ≤ sI 255 by decide)]
  | succ m ih =>
    intro i f M hi hf h1 h2
    obtain ⟨f, rfl⟩ : ∃ y, f = y + 1 := ⟨f - 1, by omega⟩
    obtain ⟨t1, t2, t3, t4, t5⟩ := tab_pw i (by omega)
    generalize hv : tPW.getD i 0 = v at t1 t2 t3 t4 t5
    obtain ⟨M', x1, x2, x3, x4⟩ := ih (i + 1) f (mset M 98 v (sI (SbN v))) (by omega) (by omega) ⟨by rw [mset_n (by omega)]; exact h1.1, fun j hj => by
      by_cases e : j = i
      · rw [e, hv, mset_s]
      · by_cases e2 : tPW.getD j 0 = v
        · rw [e2, mset_s]
        · rw [mset_n (by omega)]; exact h1.2 j (by omega)⟩ (fun k hk => by rw [mset_n (by omega)]; exact h2 k hk)
    refine ⟨M', ?_, x2, x3, fun a y u => by rw [x4 a y u, mset_n (by omega)]⟩
    rw [← x1]
    show fX3_tail_i127 fu (fX3_tail_h127 fu f) (sI v) (sI (tIV.getD i 0)) (sI i) M L = _
    unfold fX3_tail_i127
    rw [if_neg (show ¬ (255 : Int32) ≤ sI i by rw [show (255 : Int32) = sI 255 from rfl, sI_le (by omega) (by omega)]; omega), c_mix, mb3_s, t5, mck_s t1 (by omega), mlet_e, mck_s t1 (by omega), mlet_e, sI_nn (by omega), mset_n (by omega), (h2 v t1).1, sI_xor, t3, c_ti, mb3_s, t4, mlet_e, sI_1]
theorem c_85 {fu : Nat} {L : mwL} (hfu : 300 ≤ fu) : ∀ (m i f : Nat) (M : mwM), i + m = 256 → m < f → M 98 0 = sI (SbN 0) → (∀ j, j < i → M 99 j = sI (dblN j)) → ∃ M', fX3_tail_h85 fu f (1, 1, sI i, M, L) = some (M', L) ∧ bytes M' 98 256 SbN ∧ bytes M' 99 256 dblN ∧ ∀ a y, a ≠ 98 → a ≠ 99 → M' a y = M a y := by
  intro m
  induction m with
  | zero =>
    intro i f M hi hf h1 h2
    obtain ⟨f, rfl⟩ : ∃ y, f = y + 1 := ⟨f - 1, by omega⟩
    obtain ⟨M', x1, x2, x3, x4⟩ := c_127 (fu := fu) (L := L) 255 0 fu M (by omega) (by omega) ⟨h1, fun j hj => by omega⟩ (fun k hk => ⟨h2 k (by omega), dblN_lt k hk⟩)
    refine ⟨M', ?_, fun k hk => ⟨?_, SbN_lt k hk⟩, x3, fun a y u1 u2 => x4 a y u1⟩
    · show fX3_tail_i85 fu (fX3_tail_h85 fu f) 1 1 (sI i) M L = _
      unfold fX3_tail_i85
      rw [if_pos (show (256 : Int32) ≤ sI i by rw [show i = 256 by omega]; decide)]
      exact x1
    · by_cases z : k = 0
      · rw [z]; exact x2.1
      · obtain ⟨l1, l2⟩ := tab_lg k hk (by omega)
        have := x2.2 (tLG.getD k 0) l1
        rw [l2] at this
        exact this
  | succ m ih =>
    intro i f M hi hf h1 h2
    obtain ⟨f, rfl⟩ : ∃ y, f = y + 1 := ⟨f - 1, by omega⟩
    obtain ⟨M', x1, x2, x3, x4⟩ := ih (i + 1) f (mset M 99 i (sI (dblN i))) (by omega) (by omega) (by rw [mset_n (by omega)]; exact h1) (fun j hj => by
      by_cases e : j = i
      · rw [e, mset_s]
      · rw [mset_n (by omega)]; exact h2 j (by omega))
    refine ⟨M', ?_, x2, x3, fun a y u1 u2 => by rw [x4 a y u1 u2, mset_n (by omega)]⟩
    rw [← x1]
    show fX3_tail_i85 fu (fX3_tail_h85 fu f) 1 1 (sI i) M L = _
    unfold fX3_tail_i85 fX3_tail_b117
    have t := tab_99 i (by omega)
    rw [if_neg (show ¬ (256 : Int32) ≤ sI i by rw [show (256 : Int32) = sI 256 from rfl, sI_le (by omega) (by omega)]; omega), mck_s (by omega) (by omega), mck_s (by omega) (by omega), mlet_e, mlet_e, mlet_e, mlet_e, sI_nn (by omega), sI_1]
    by_cases q : i < 128
    · rw [if_pos q] at t
      rw [if_pos (show sI i < 128 by rw [show (128 : Int32) = sI 128 from rfl, sI_lt (by omega) (by omega)]; exact q), t]
    · rw [if_neg q] at t
      rw [if_neg (show ¬ sI i < 128 by rw [show (128 : Int32) = sI 128 from rfl, sI_lt (by omega) (by omega)]; exact q), t]
theorem c_tail3 {fu : Nat} {M : mwM} {L : mwL} (hfu : 300 ≤ fu) : ∃ M', DX3_tail fu M L = some (M', L) ∧ bytes M' 98 256 SbN ∧ bytes M' 99 256 dblN ∧ ∀ a y, a ≠ 98 → a ≠ 99 → M' a y = M a y := by
  obtain ⟨M', x1, x2, x3, x4⟩ := c_85 (fu := fu) (L := L) hfu 256 0 fu (mset M 98 0 (sI (SbN 0))) (by omega) (by omega) mset_s (fun j hj => by omega)
  refine ⟨M', ?_, x2, x3, fun a y u1 u2 => by rw [x4 a y u1 u2, mset_n (by omega)]⟩
  rw [← x1]
  rfl
/-! the reference's table -/
def pn8 (y : Nat) : Nat × Nat → Nat → Nat × Nat
  | s, 0 => s
  | s, n + 1 => pn8 y (if y / 2 ^ (7 - n) % 2 = 1 then s.1 ^^^ s.2 else s.1, dblN s.2) n
theorem pn_b : ∀ y, y < 256 → ∀ k, k < 8 → ((((sI y) >>> (sI k &&& 31)) &&& 1) = 1 ↔ y / 2 ^ k % 2 = 1) := by decide +kernel
theorem pn_d : ∀ v, v < 256 → (if sI v ≤ 127 then 2 * sI v else ((2 * sI v) - 256) ^^^ 27) = sI (dblN v) := by decide +kernel
theorem pr_pn {y : Nat} {b : Int32} (hy : y < 256) : ∀ (n u v : Nat), n ≤ 8 → v < 256 → (pr8 y b (sI u, sI v) n).1 = sI (pn8 y (u, v) n).1 := by
  intro n
  induction n with
  | zero => intro u v _ _; rfl
  | succ n ih =>
    intro u v hn hv
    show (pr8 y b (if (((sI y) >>> (sI (7 - n) &&& 31)) &&& 1) = 1 then sI u ^^^ sI v else sI u, if sI v ≤ 127 then 2 * sI v else ((2 * sI v) - 256) ^^^ 27) n).1 = sI (pn8 y (if y / 2 ^ (7 - n) % 2 = 1 then u ^^^ v else u, dblN v) n).1
    rw [pn_d v hv]
    have hb := pn_b y hy (7 - n) (by omega)
    by_cases q : y / 2 ^ (7 - n) % 2 = 1
    · rw [if_pos (hb.mpr q), if_pos q, sI_xor]
      exact ih _ _ (by omega) (dblN_lt v hv)
    · rw [if_neg (fun z => q (hb.mp z)), if_neg q]
      exact ih _ _ (by omega) (dblN_lt v hv)
theorem m_prodN {fu a y : Nat} {M : mwM} {L : mwL} (hf : 9 ≤ fu) (ha : a < 256) (hy : y < 256) : DX14_product fu (sI a) (sI y) M L = some (sI (pn8 y (0, a) 8).1, M, L) := by
  obtain ⟨z, h1, h2⟩ := m_product (fu := fu) (M := M) (L := L) (x := sI a) (y := y) hf
  have e := pr_pn (b := 0) hy 8 0 a (by omega) ha
  rw [show ((0 : Int32), sI a) = (sI 0, sI a) from rfl] at h2
  rw [e] at h2
  rw [← h2]
  exact h1
def nvB (a : Nat) : Bool := decide ((pn8 (tNV.getD a 0) (0, a) 8).1 = 1) && (List.range (tNV.getD a 0)).all (fun y => decide ((pn8 y (0, a) 8).1 ≠ 1))
theorem nv_0 : (List.range 16).all (fun j => decide (0 + j = 0) || nvB (0 + j)) = true := by decide +kernel
theorem nv_1 : (List.range 16).all (fun j => decide (16 + j = 0) || nvB (16 + j)) = true := by decide +kernel
theorem nv_2 : (List.range 16).all (fun j => decide (32 + j = 0) || nvB (32 + j)) = true := by decide +kernel
theorem nv_3 : (List.range 16).all (fun j => decide (48 + j = 0) || nvB (48 + j)) = true := by decide +kernel
theorem nv_4 : (List.range 16).all (fun j => decide (64 + j = 0) || nvB (64 + j)) = true := by decide +kernel
theorem nv_5 : (List.range 16).all (fun j => decide (80 + j = 0) || nvB (80 + j)) = true := by decide +kernel
theorem nv_6 : (List.range 16).all (fun j => decide (96 + j = 0) || nvB (96 + j)) = true := by decide +kernel
theorem nv_7 : (List.range 16).all (fun j => decide (112 + j = 0) || nvB (112 + j)) = true := by decide +kernel
theorem nv_8 : (List.range 16).all (fun j => decide (128 + j = 0) || nvB (128 + j)) = true := by decide +kernel
theorem nv_9 : (List.range 16).all (fun j => decide (144 + j = 0) || nvB (144 + j)) = true := by decide +kernel
theorem nv_10 : (List.range 16).all (fun j => decide (160 + j = 0) || nvB (160 + j)) = true := by decide +kernel
theorem nv_11 : (List.range 16).all (fun j => decide (176 + j = 0) || nvB (176 + j)) = true := by decide +kernel
theorem nv_12 : (List.range 16).all (fun j => decide (192 + j = 0) || nvB (192 + j)) = true := by decide +kernel
theorem nv_13 : (List.range 16).all (fun j => decide (208 + j = 0) || nvB (208 + j)) = true := by decide +kernel
theorem nv_14 : (List.range 16).all (fun j => decide (224 + j = 0) || nvB (224 + j)) = true := by decide +kernel
theorem nv_15 : (List.range 16).all (fun j => decide (240 + j = 0) || nvB (240 + j)) = true := by decide +kernel
theorem nv_all : ∀ a, a < 256 → 0 < a → nvB a = true := fun a ha h0 => by
  have key : ∀ b, b = a / 16 * 16 → (List.range 16).all (fun j => decide (b + j = 0) || nvB (b + j)) = true → nvB a = true := fun b hb h => by
    have h1 := List.all_eq_true.mp h (a % 16) (List.mem_range.mpr (by omega))
    rw [show b + a % 16 = a by omega, decide_eq_false (by omega), Bool.false_or] at h1
    exact h1
  have : a / 16 < 16 := by omega
  match h : a / 16 with
  | 0 => exact key 0 (by omega) nv_0
  | 1 => exact key 16 (by omega) nv_1
  | 2 => exact key 32 (by omega) nv_2
  | 3 => exact key 48 (by omega) nv_3
  | 4 => exact key 64 (by omega) nv_4
  | 5 => exact key 80 (by omega) nv_5
  | 6 => exact key 96 (by omega) nv_6
  | 7 => exact key 112 (by omega) nv_7
  | 8 => exact key 128 (by omega) nv_8
  | 9 => exact key 144 (by omega) nv_9
  | 10 => exact key 160 (by omega) nv_10
  | 11 => exact key 176 (by omega) nv_11
  | 12 => exact key 192 (by omega) nv_12
  | 13 => exact key 208 (by omega) nv_13
  | 14 => exact key 224 (by omega) nv_14
  | 15 => exact key 240 (by omega) nv_15
  | k + 16 => omega
theorem nv_lt : ∀ a, a < 256 → tNV.getD a 0 < 256 := by decide +kernel
def afR (v1 : Int32) : Nat → Int32 → Int32
  | 0, v2 => v2
  | n + 1, v2 => afR v1 n (v2 ^^^ (((v1 <<< (sI (4 - n) &&& 31)) ||| (v1 >>> ((8 - sI (4 - n)) &&& 31))) &&& 255))
theorem m_h26 {fu : Nat} {a1 v1 : Int32} {M : mwM} {L : mwL} : ∀ (n i f : Nat) (v2 : Int32), i + n = 5 → n < f → fX14_substituteOf_h26 fu a1 f (v1, v2, sI i, M, L) = some (afR v1 n v2, M, L) := by
  intro n
  induction n with
  | zero =>
    intro i f v2 hi hf
    obtain ⟨f, rfl⟩ : ∃ y, f = y + 1 := ⟨f - 1, by omega⟩
    show fX14_substituteOf_i26 fu a1 (fX14_substituteOf_h26 fu a1 f) v1 v2 (sI i) M L = _
    unfold fX14_substituteOf_i26
    rw [if_pos (show (5 : Int32) ≤ sI i by rw [show i = 5 by omega]; decide)]
    rfl
  | succ n ih =>
    intro i f v2 hi hf
    obtain ⟨f, rfl⟩ : ∃ y, f = y + 1 := ⟨f - 1, by omega⟩
    show fX14_substituteOf_i26 fu a1 (fX14_substituteOf_h26 fu a1 f) v1 v2 (sI i) M L = _
    unfold fX14_substituteOf_i26
    rw [if_neg (show ¬ (5 : Int32) ≤ sI i by rw [show (5 : Int32) = sI 5 from rfl, sI_le (by omega) (by omega)]; omega), mlet_e, mlet_e, sI_1]
    have e := ih (i + 1) f (v2 ^^^ (((v1 <<< (sI i &&& 31)) ||| (v1 >>> ((8 - sI i) &&& 31))) &&& 255)) (by omega) (by omega)
    rw [show i = 4 - n by omega] at e ⊢
    exact e
theorem tab_af : ∀ a, a < 256 → afR (sI (tNV.getD a 0)) 5 99 = sI (SbN a) := by decide +kernel
theorem pn_lt {y a : Nat} (ha : a < 256) : ∀ (n u v : Nat), u < 256 → v < 256 → (pn8 y (u, v) n).1 < 256 := by
  intro n
  induction n with
  | zero => intro u v hu _; exact hu
  | succ n ih =>
    intro u v hu hv
    show (pn8 y (if y / 2 ^ (7 - n) % 2 = 1 then u ^^^ v else u, dblN v) n).1 < 256
    refine ih _ _ ?_ (dblN_lt v hv)
    by_cases q : y / 2 ^ (7 - n) % 2 = 1
    · rw [if_pos q]; exact xor_8 hu hv
    · rw [if_neg q]; exact hu
theorem m_h2 {fu a : Nat} {M : mwM} {L : mwL} (hfu : 300 ≤ fu) (ha : a < 256) (h0 : 0 < a) : ∀ (n k f : Nat), k + n = tNV.getD a 0 → n < f → fX14_substituteOf_h2 fu (sI a) f (sI k, M, L) = some (sI (SbN a), M, L) := by
  have hb := nv_all a ha h0
  unfold nvB at hb
  rw [Bool.and_eq_true, decide_eq_true_eq, List.all_eq_true] at hb
  have hlt := nv_lt a ha
  have ha0 : ¬ sI a ≤ 0 := by rw [sI_lel (by omega) (by decide)]; omega
  intro n
  induction n with
  | zero =>
    intro k f hk hf
    obtain ⟨f, rfl⟩ : ∃ y, f = y + 1 := ⟨f - 1, by omega⟩
    have : k = tNV.getD a 0 := by omega
    show fX14_substituteOf_i2 fu (sI a) (fX14_substituteOf_h2 fu (sI a) f) (sI k) M L = _
    unfold fX14_substituteOf_i2 fX14_substituteOf_b21
    rw [if_neg ha0, m_prodN (by omega) ha (by omega), mb3_s, this, hb.1, if_pos (show sI 1 = 1 from rfl), show fX14_substituteOf_h26 fu (sI a) fu (sI (tNV.getD a 0), 99, 0, M, L) = _ from m_h26 5 0 fu 99 (by omega) (by omega), tab_af a ha]
  | succ n ih =>
    intro k f hk hf
    obtain ⟨f, rfl⟩ : ∃ y, f = y + 1 := ⟨f - 1, by omega⟩
    show fX14_substituteOf_i2 fu (sI a) (fX14_substituteOf_h2 fu (sI a) f) (sI k) M L = _
    unfold fX14_substituteOf_i2
    have hne : (pn8 k (0, a) 8).1 ≠ 1 := by
      have := hb.2 k (List.mem_range.mpr (by omega))
      exact of_decide_eq_true this
    have hne2 : ¬ sI (pn8 k (0, a) 8).1 = 1 := fun z => hne (by
      have l8 : (pn8 k (0, a) 8).1 < 256 := pn_lt ha 8 0 a (by omega) ha
      rw [sI_eql (by omega) (by decide)] at z
      exact z)
    rw [if_neg ha0, m_prodN (by omega) ha (by omega), mb3_s, if_neg hne2, mlet_e, sI_1]
    exact ih (k + 1) f (by omega) (by omega)
theorem m_h2z {fu : Nat} {M : mwM} {L : mwL} (hfu : 300 ≤ fu) (f : Nat) : fX14_substituteOf_h2 fu (sI 0) (f + 1) (0, M, L) = some (sI (SbN 0), M, L) := by
  show fX14_substituteOf_i2 fu (sI 0) (fX14_substituteOf_h2 fu (sI 0) f) 0 M L = _
  unfold fX14_substituteOf_i2 fX14_substituteOf_b21
  rw [if_pos (show sI 0 ≤ (0 : Int32) by decide), show fX14_substituteOf_h26 fu (sI 0) fu (0, 99, 0, M, L) = _ from m_h26 5 0 fu 99 (by omega) (by omega)]
  exact congrArg (fun z => some (z, M, L)) (tab_af 0 (by omega))
theorem m_sub {fu a : Nat} {M : mwM} {L : mwL} (hfu : 300 ≤ fu) (ha : a < 256) : DX14_substituteOf fu (sI a) M L = some (sI (SbN a), M, L) := by
  unfold DX14_substituteOf
  by_cases h0 : a = 0
  · subst h0
    obtain ⟨f, hf⟩ : ∃ y, fu = y + 1 := ⟨fu - 1, by omega⟩
    have e := m_h2z (fu := fu) (M := M) (L := L) hfu f
    rw [← hf] at e
    exact e
  · exact m_h2 hfu ha (by omega) (tNV.getD a 0) 0 fu (by omega) (by have := nv_lt a ha; omega)
theorem m_124 {fu : Nat} {L : mwL} (hfu : 300 ≤ fu) : ∀ (m i f : Nat) (M : mwM), i + m = 256 → m < f → (∀ j, j < i → M 868 j = sI (SbN j)) → ∃ M', fX14_tail_h124 fu f (sI i, M, L) = some (M', L) ∧ bytes M' 868 256 SbN ∧ ∀ a y, a ≠ 868 → M' a y = M a y := by
  intro m
  induction m with
  | zero =>
    intro i f M hi hf h1
    obtain ⟨f, rfl⟩ : ∃ y, f = y + 1 := ⟨f - 1, by omega⟩
    refine ⟨M, ?_, fun k hk => ⟨h1 k (by omega), SbN_lt k hk⟩, fun _ _ _ => rfl⟩
    show fX14_tail_i124 fu (fX14_tail_h124 fu f) (sI i) M L = _
    unfold fX14_tail_i124
    rw [if_pos (show (256 : Int32) ≤ sI i by rw [show i = 256 by omega]; decide)]
  | succ m ih =>
    intro i f M hi hf h1
    obtain ⟨f, rfl⟩ : ∃ y, f = y + 1 := ⟨f - 1, by omega⟩
    obtain ⟨M', x1, x2, x3⟩ := ih (i + 1) f (mset M 868 i (sI (SbN i))) (by omega) (by omega) (fun j hj => by
      by_cases e : j = i
      · rw [e, mset_s]
      · rw [mset_n (by omega)]; exact h1 j (by omega))
    refine ⟨M', ?_, x2, fun a y u => by rw [x3 a y u, mset_n (by omega)]⟩
    rw [← x1]
    show fX14_tail_i124 fu (fX14_tail_h124 fu f) (sI i) M L = _
    unfold fX14_tail_i124
    rw [if_neg (show ¬ (256 : Int32) ≤ sI i by rw [show (256 : Int32) = sI 256 from rfl, sI_le (by omega) (by omega)]; omega), m_sub hfu (by omega), mb3_s, mck_s (by omega) (by omega), mlet_e, mlet_e, sI_nn (by omega), sI_1]
theorem m_tail14 {fu : Nat} {M : mwM} {L : mwL} (hfu : 300 ≤ fu) : ∃ M', DX14_tail fu M L = some (M', L) ∧ bytes M' 868 256 SbN ∧ ∀ a y, a ≠ 868 → M' a y = M a y := m_124 hfu 256 0 fu M (by omega) (by omega) (fun j hj => by omega)
/-! THE KEYS as the reference's constructor makes them -/
def kyI (M0 : mwM) (c i : Nat) (M : mwM) : Prop := M 854 1 = sI c ∧ M 856 c = sI (i % 16) ∧ (∀ k, c < k → M 856 k = 0) ∧ (∀ k, 1 ≤ k → k < c → ∀ j, j < 16 → M 855 (16 * k + j) = sI (k + j)) ∧ (∀ j, j < i → M 855 (16 * c + j) = sI (c + j)) ∧ ∀ a y, a ≠ 855 → a ≠ 856 → ¬ (a = 854 ∧ y ≤ 1) → M a y = M0 a y
theorem ky_mod : ∀ i, i < 16 → (sI i + 1) - (sI i + 1) / 16 * 16 = sI ((i + 1) % 16) := by decide +kernel
theorem ky_byte : ∀ c, c ≤ 16 → ∀ i, i < 16 → ((sI c + sI i).toInt8.toInt32) &&& 255 = sI (c + i) := by decide +kernel
theorem m_key14 {fu c : Nat} {M0 M : mwM} {L : mwL} (hc : c < 16) (h1 : M 854 1 = sI c) (h6 : ∀ k, c < k → M 856 k = 0) (h5 : ∀ k, 1 ≤ k → k ≤ c → ∀ j, j < 16 → M 855 (16 * k + j) = sI (k + j)) (hk : ∀ a y, a ≠ 855 → a ≠ 856 → ¬ (a = 854 ∧ y ≤ 1) → M a y = M0 a y) : ∃ M', DX14_key fu M L = some (sI (c + 1), M', L) ∧ kyI M0 (c + 1) 0 M' := by
  unfold DX14_key
  simp only [mlet_e]
  rw [mset_n (show ¬ (854 = 854 ∧ 1 = 0) by omega), h1, if_neg (show ¬ sI c = 16 by rw [sI_eql (by omega) (by decide)]; omega), sI_1]
  refine ⟨_, by rw [mset_s], mset_s, ?_, fun k hk9 => ?_, fun k u1 u2 j hj => ?_, fun j hj => by omega, fun a y u1 u2 u3 => ?_⟩
  · rw [mset_n (by omega), mset_n (by omega)]; exact h6 _ (by omega)
  · rw [mset_n (by omega), mset_n (by omega)]; exact h6 _ (by omega)
  · rw [mset_n (by omega), mset_n (by omega)]; exact h5 k u1 (by omega) j hj
  · rw [mset_n (by omega), mset_n (by omega)]; exact hk a y u1 u2 u3
theorem m_byte14 {fu c i : Nat} {M0 M : mwM} {L : mwL} {x : Int32} (hc : 1 ≤ c ∧ c ≤ 16) (hi : i < 16) (hx : x &&& 255 = sI (c + i)) (h : kyI M0 c i M) : ∃ M', DX14_keyByte fu (sI c) x M L = some (M', L) ∧ kyI M0 c (i + 1) M' := by
  obtain ⟨h1, h2, h3, h4, h5, hk⟩ := h
  unfold DX14_keyByte DX14_noKey fX14_noKey_b23
  simp only [mlet_e]
  have e1 : mset M 854 0 0 854 1 = sI c := by rw [mset_n (by omega)]; exact h1
  rw [e1, if_neg (show ¬ sI c < 1 by rw [sI_ltl (by omega) (by decide)]; omega), if_pos (show sI c ≤ sI c by rw [sI_le (by omega) (by omega)]; omega), mzz_0, mb3_s, if_pos (show (0 : Int32) = 0 from rfl), mck_s (show c < 17 by omega) (by omega), sI_nn (by omega)]
  have e2 : mset M 854 0 0 856 c = sI i := by rw [mset_n (by omega), h2, Nat.mod_eq_of_lt hi]
  rw [e2, show (16 : Int32) * sI c + sI i = sI (16 * c + i) by rw [show (16 : Int32) * sI c = sI (16 * c) from sI_lml, sI_add], mck_s (by omega) (by omega), mck_s (show c < 17 by omega) (by omega), mck_s (show c < 17 by omega) (by omega), sI_nn (by omega)]
  rw [mset_n (show ¬ (856 = 855 ∧ c = 16 * c + i) by omega), e2, ky_mod i hi, hx]
  refine ⟨_, rfl, ?_, mset_s, fun k hk9 => ?_, fun k u1 u2 j hj => ?_, fun j hj => ?_, fun a y u1 u2 u3 => ?_⟩
  · rw [mset_n (by omega), mset_n (by omega)]; exact e1
  · rw [mset_n (by omega), mset_n (by omega), mset_n (by omega)]; exact h3 k hk9
  · rw [mset_n (by omega), mset_n (by omega), mset_n (by omega)]; exact h4 k u1 u2 j hj
  · by_cases e : j = i
    · rw [e, mset_n (by omega), mset_s]
    · rw [mset_n (by omega), mset_n (by omega), mset_n (by omega)]; exact h5 j (by omega)
  · rw [mset_n (by omega), mset_n (by omega), mset_n (by omega)]; exact hk a y u1 u2 u3
theorem m_730 {fu c : Nat} {M0 : mwM} {L : mwL} {Q : mwM → Prop} (hc : 1 ≤ c ∧ c ≤ 16) (r714 : (Int32 × mwM × mwL) → Option (mwM × mwL)) (hr : ∀ M', kyI M0 c 16 M' → ∃ M9, r714 (sI (c + 1), M', L) = some (M9, L) ∧ Q M9) : ∀ (n i f : Nat) (M : mwM), i + n = 16 → n < f → kyI M0 c i M → ∃ M9, fX19_tail_h730 fu r714 f (sI c, sI c, sI i, M, L) = some (M9, L) ∧ Q M9 := by
  intro n
  induction n with
  | zero =>
    intro i f M hi hf hk
    obtain ⟨f, rfl⟩ : ∃ g, f = g + 1 := ⟨f - 1, by omega⟩
    have : i = 16 := by omega
    subst this
    show ∃ M9, fX19_tail_i730 fu r714 (fX19_tail_h730 fu r714 f) (sI c) (sI c) (sI 16) M L = some (M9, L) ∧ Q M9
    unfold fX19_tail_i730
    rw [if_pos (show (16 : Int32) ≤ sI 16 by decide), mlet_e, sI_1]
    exact hr M hk
  | succ n ih =>
    intro i f M hi hf hk
    obtain ⟨f, rfl⟩ : ∃ g, f = g + 1 := ⟨f - 1, by omega⟩
    show ∃ M9, fX19_tail_i730 fu r714 (fX19_tail_h730 fu r714 f) (sI c) (sI c) (sI i) M L = some (M9, L) ∧ Q M9
    unfold fX19_tail_i730
    obtain ⟨M', e, hk'⟩ := m_byte14 (fu := fu) (L := L) (x := (sI c + sI i).toInt8.toInt32) hc (show i < 16 by omega) (ky_byte c hc.2 i (by omega)) hk
    rw [if_neg (show ¬ (16 : Int32) ≤ sI i by rw [show (16 : Int32) = sI 16 from rfl, sI_le (by omega) (by omega)]; omega), e, mb2_s, mlet_e, sI_1]
    exact ih (i + 1) f M' (by omega) (by omega) hk'
theorem m_714 {fu : Nat} {M0 : mwM} {L : mwL} (hfu : 300 ≤ fu) : ∀ (n c f : Nat) (M : mwM), c + n = 16 → n < f → M 854 1 = sI c → (∀ k, c < k → M 856 k = 0) → (∀ k, 1 ≤ k → k ≤ c → ∀ j, j < 16 → M 855 (16 * k + j) = sI (k + j)) → (∀ a y, a ≠ 855 → a ≠ 856 → ¬ (a = 854 ∧ y ≤ 1) → M a y = M0 a y) → ∃ M9, fX19_tail_h714 fu f (sI (c + 1), M, L) = some (M9, L) ∧ M9 854 1 = sI 16 ∧ (∀ k, 1 ≤ k → k ≤ 16 → ∀ j, j < 16 → M9 855 (16 * k + j) = sI (k + j)) ∧ ∀ a y, a ≠ 855 → a ≠ 856 → ¬ (a = 854 ∧ y ≤ 1) → M9 a y = M0 a y := by
  intro n
  induction n with
  | zero =>
    intro c f M hc hf h1 h6 h5 hk
    obtain ⟨f, rfl⟩ : ∃ g, f = g + 1 := ⟨f - 1, by omega⟩
    have : c = 16 := by omega
    subst this
    refine ⟨M, ?_, h1, h5, hk⟩
    show fX19_tail_i714 fu (fX19_tail_h714 fu f) (sI (16 + 1)) M L = _
    unfold fX19_tail_i714
    rw [if_pos (show (16 : Int32) < sI (16 + 1) by decide)]
  | succ n ih =>
    intro c f M hc hf h1 h6 h5 hk
    obtain ⟨f, rfl⟩ : ∃ g, f = g + 1 := ⟨f - 1, by omega⟩
    obtain ⟨M', e, hk'⟩ := m_key14 (fu := fu) (L := L) (show c < 16 by omega) h1 h6 h5 hk
    have g := m_730 (fu := fu) (c := c + 1) (M0 := M0) (L := L) (Q := fun M9 => M9 854 1 = sI 16 ∧ (∀ k, 1 ≤ k → k ≤ 16 → ∀ j, j < 16 → M9 855 (16 * k + j) = sI (k + j)) ∧ ∀ a y, a ≠ 855 → a ≠ 856 → ¬ (a = 854 ∧ y ≤ 1) → M9 a y = M0 a y) (by omega) (fX19_tail_h714 fu f) (fun M2 q => by
      obtain ⟨q1, q2, q3, q4, q5, q6⟩ := q
      exact ih (c + 1) f M2 (by omega) (by omega) q1 q3 (fun k u1 u2 j hj => by
        by_cases e : k = c + 1
        · rw [e]; exact q5 j hj
        · exact q4 k u1 (by omega) j hj) q6) 16 0 fu M' (by omega) (by omega) hk'
    obtain ⟨M9, g1, g2⟩ := g
    refine ⟨M9, ?_, g2⟩
    rw [← g1]
    show fX19_tail_i714 fu (fX19_tail_h714 fu f) (sI (c + 1)) M L = _
    unfold fX19_tail_i714
    rw [if_neg (show ¬ (16 : Int32) < sI (c + 1) by rw [show (16 : Int32) = sI 16 from rfl, sI_lt (by omega) (by omega)]; omega), e, mb3_s]
    rfl
theorem m_tail19 {fu : Nat} {M : mwM} {L : mwL} (hfu : 300 ≤ fu) (h1 : M 854 1 = 0) (h6 : ∀ k, M 856 k = 0) : ∃ M9, DX19_tail fu M L = some (M9, L) ∧ M9 854 1 = sI 16 ∧ (∀ k, 1 ≤ k → k ≤ 16 → ∀ j, j < 16 → M9 855 (16 * k + j) = sI (k + j)) ∧ ∀ a y, a ≠ 855 → a ≠ 856 → ¬ (a = 854 ∧ y ≤ 1) → M9 a y = M a y := m_714 hfu 16 0 fu M (by omega) (by omega) h1 (fun k _ => h6 k) (fun k u1 u2 => by omega) (fun _ _ _ _ _ => rfl)
/-! WHAT THE CONSTRUCTORS LEAVE (printed by mk_init.py) -/
theorem kqG3 {α : Type} {P Q : mwM → mwL → Prop} {L : mwL} {v : mwM} {f : mwM → Option (α × mwM × mwL)} (hp : P v L) (hf : ∀ x, P x L → kq3 Q (f x)) : kq3 Q (mlet v f) := hf v hp
theorem kqH3 {α : Type} {P Q : mwM → mwL → Prop} {M : mwM} {v : mwL} {f : mwL → Option (α × mwM × mwL)} (hp : P M v) (hf : ∀ x, P M x → kq3 Q (f x)) : kq3 Q (mlet v f) := hf v hp
theorem kqJ23 {α : Type} {P Q : mwM → mwL → Prop} {x : Option (mwM × mwL)} {f : mwM → mwL → Option (α × mwM × mwL)} (hx : kq2 P x) (hf : ∀ M L, P M L → kq3 Q (f M L)) : kq3 Q (mb2 x f) := by
  cases x with
  | none => exact kqN3
  | some z => exact hf z.1 z.2 (hx z rfl)
theorem kqJ33 {α β : Type} {P Q : mwM → mwL → Prop} {x : Option (α × mwM × mwL)} {f : α → mwM → mwL → Option (β × mwM × mwL)} (hx : kq3 P x) (hf : ∀ r M L, P M L → kq3 Q (f r M L)) : kq3 Q (mb3 x f) := by
  cases x with
  | none => exact kqN3
  | some z => exact hf z.1 z.2.1 z.2.2 (hx z rfl)
theorem mz_e {α : Type} {d : α} {M : Nat → Nat → α} {a b y : Nat} : mz d M a b y = if b = a then d else M b y := rfl
theorem mzr_e {M : mwM} {a n b y : Nat} : mzr M a n b y = if a < b ∧ b < a + 1 + n then 0 else M b y := rfl
/-- the class: all is zero but the two tables -/
def Z1 (M : mwM) (L : mwL) : Prop := (∀ a y, a ≠ 98 → a ≠ 99 → M a y = 0) ∧ ∀ a y, L a y = 0
def ZT1 (M : mwM) (L : mwL) : Prop := Z1 M L ∧ bytes M 98 256 SbN ∧ bytes M 99 256 dblN
theorem Z1_m {M : mwM} {L : mwL} {a : Nat} (h : Z1 M L) (_ : True) : Z1 (mz 0 M a) L := ⟨fun b y h1 h2 => by
  rw [mz_e]
  by_cases q : b = a
  · rw [if_pos q]
  · rw [if_neg q]; exact h.1 b y h1 h2, h.2⟩
theorem Z1_l {M : mwM} {L : mwL} {a : Nat} (h : Z1 M L) (_ : True) : Z1 M (mz 0 L a) := ⟨h.1, fun b y => by
  rw [mz_e]
  by_cases q : b = a
  · rw [if_pos q]
  · rw [if_neg q]; exact h.2 b y⟩
theorem Z1_r {M : mwM} {L : mwL} {a n : Nat} (h : Z1 M L) (_ : True) : Z1 (mzr M a n) L := ⟨fun b y h1 h2 => by
  rw [mzr_e]
  by_cases q : a < b ∧ b < a + 1 + n
  · rw [if_pos q]
  · rw [if_neg q]; exact h.1 b y h1 h2, h.2⟩
theorem by_m {M : mwM} {a r : Nat} {f : Nat → Nat} (h : bytes M r 256 f) (ha : a ≠ r) : bytes (mz 0 M a) r 256 f := fun i hi => by
  rw [mz_e, if_neg (by omega)]
  exact h i hi
theorem by_r {M : mwM} {a n r : Nat} {f : Nat → Nat} (h : bytes M r 256 f) (ha : ¬ (a < r ∧ r < a + 1 + n)) : bytes (mzr M a n) r 256 f := fun i hi => by
  rw [mzr_e, if_neg ha]
  exact h i hi
theorem ZT1_m {M : mwM} {L : mwL} {a : Nat} (h : ZT1 M L) (ha : a ≠ 98 ∧ a ≠ 99) : ZT1 (mz 0 M a) L := ⟨Z1_m h.1 trivial, by_m h.2.1 ha.1, by_m h.2.2 ha.2⟩
theorem ZT1_l {M : mwM} {L : mwL} {a : Nat} (h : ZT1 M L) (_ : True) : ZT1 M (mz 0 L a) := ⟨Z1_l h.1 trivial, h.2⟩
theorem ZT1_r {M : mwM} {L : mwL} {a n : Nat} (h : ZT1 M L) (ha : ¬ (a < 98 ∧ 98 < a + 1 + n) ∧ ¬ (a < 99 ∧ 99 < a + 1 + n)) : ZT1 (mzr M a n) L := ⟨Z1_r h.1 trivial, by_r h.2.1 ha.1, by_r h.2.2 ha.2⟩
theorem t_tail3 {fu : Nat} {M : mwM} {L : mwL} (hfu : 300 ≤ fu) (h : Z1 M L) : kq2 ZT1 (DX3_tail fu M L) := by
  obtain ⟨M', e1, e2, e3, e4⟩ := c_tail3 (M := M) (L := L) hfu
  rw [e1]
  exact kqS2 ⟨⟨fun a y h1 h2 => by rw [e4 a y h1 h2]; exact h.1 a y h1 h2, h.2⟩, e2, e3⟩
/-- the reference: its own cells are zero but for a few -/
def Z2 (M0 : mwM) (L0 : mwL) (M : mwM) (L : mwL) : Prop := (∀ a y, a < 732 → M a y = M0 a y) ∧ (∀ a y, 732 ≤ a → a ≠ 821 → a ≠ 868 → ¬ (a = 869 ∧ y = 38) → ¬ (a = 732 ∧ y = 97) → M a y = 0) ∧ (∀ a y, a < 732 → L a y = L0 a y) ∧ ∀ a y, 732 ≤ a → L a y = 0
def ZT2 (M0 : mwM) (L0 : mwL) (M : mwM) (L : mwL) : Prop := Z2 M0 L0 M L ∧ bytes M 868 256 SbN
def FN (M0 : mwM) (L0 : mwL) (M : mwM) (L : mwL) : Prop := (∀ a y, a < 732 → M a y = M0 a y) ∧ (∀ a y, 732 ≤ a → a ≠ 821 → a ≠ 868 → ¬ (a = 869 ∧ y = 38) → ¬ (a = 732 ∧ y = 97) → a ≠ 855 → a ≠ 856 → ¬ (a = 854 ∧ y ≤ 1) → M a y = 0) ∧ (∀ a y, a < 732 → L a y = L0 a y) ∧ (∀ a y, 732 ≤ a → L a y = 0) ∧ bytes M 868 256 SbN ∧ M 854 1 = 16 ∧ ∀ k, 1 ≤ k → k ≤ 16 → ∀ i, i < 16 → M 855 (16 * k + i) = sI (k + i)
theorem Z2_m {M0 M : mwM} {L0 L : mwL} {a : Nat} (h : Z2 M0 L0 M L) (ha : 732 ≤ a) : Z2 M0 L0 (mz 0 M a) L := ⟨fun b y hb => by rw [mz_e, if_neg (by omega)]; exact h.1 b y hb, fun b y h1 h2 h3 h4 h5 => by
  rw [mz_e]
  by_cases q : b = a
  · rw [if_pos q]
  · rw [if_neg q]; exact h.2.1 b y h1 h2 h3 h4 h5, h.2.2⟩
theorem Z2_l {M0 M : mwM} {L0 L : mwL} {a : Nat} (h : Z2 M0 L0 M L) (ha : 732 ≤ a) : Z2 M0 L0 M (mz 0 L a) := ⟨h.1, h.2.1, fun b y hb => by rw [mz_e, if_neg (by omega)]; exact h.2.2.1 b y hb, fun b y hb => by
  rw [mz_e]
  by_cases q : b = a
  · rw [if_pos q]
  · rw [if_neg q]; exact h.2.2.2 b y hb⟩
theorem Z2_s {M0 M : mwM} {L0 L : mwL} {a y : Nat} {v : Int32} (h : Z2 M0 L0 M L) (ha : 732 ≤ a ∧ (a = 821 ∨ (a = 869 ∧ y = 38) ∨ (a = 732 ∧ y = 97))) : Z2 M0 L0 (mset M a y v) L := ⟨fun b z hb => by rw [mset_n (by omega)]; exact h.1 b z hb, fun b z h1 h2 h3 h4 h5 => by rw [mset_n (by omega)]; exact h.2.1 b z h1 h2 h3 h4 h5, h.2.2⟩
theorem ZT2_m {M0 M : mwM} {L0 L : mwL} {a : Nat} (h : ZT2 M0 L0 M L) (ha : 732 ≤ a ∧ a ≠ 868) : ZT2 M0 L0 (mz 0 M a) L := ⟨Z2_m h.1 ha.1, by_m h.2 ha.2⟩
theorem ZT2_l {M0 M : mwM} {L0 L : mwL} {a : Nat} (h : ZT2 M0 L0 M L) (ha : 732 ≤ a) : ZT2 M0 L0 M (mz 0 L a) := ⟨Z2_l h.1 ha, h.2⟩
theorem ZT2_s {M0 M : mwM} {L0 L : mwL} {a y : Nat} {v : Int32} (h : ZT2 M0 L0 M L) (ha : 732 ≤ a ∧ (a = 821 ∨ (a = 869 ∧ y = 38) ∨ (a = 732 ∧ y = 97))) : ZT2 M0 L0 (mset M a y v) L := ⟨Z2_s h.1 ha, fun i hi => by rw [mset_n (by omega)]; exact h.2 i hi⟩
theorem t_tail14 {fu : Nat} {M0 M : mwM} {L0 L : mwL} (hfu : 300 ≤ fu) (h : Z2 M0 L0 M L) : kq2 (ZT2 M0 L0) (DX14_tail fu M L) := by
  obtain ⟨M', e1, e2, e3⟩ := m_tail14 (M := M) (L := L) hfu
  rw [e1]
  exact kqS2 ⟨⟨fun a y ha => by rw [e3 a y (by omega)]; exact h.1 a y ha, fun a y h1 h2 h3 h4 h5 => by rw [e3 a y h3]; exact h.2.1 a y h1 h2 h3 h4 h5, h.2.2⟩, e2⟩
theorem t_tail19 {fu : Nat} {M0 M : mwM} {L0 L : mwL} (hfu : 300 ≤ fu) (h : ZT2 M0 L0 M L) : kq2 (FN M0 L0) (DX19_tail fu M L) := by
  obtain ⟨M', e1, e2, e3, e4⟩ := m_tail19 (M := M) (L := L) hfu (h.1.2.1 854 1 (by omega) (by omega) (by omega) (by omega) (by omega)) (fun k => h.1.2.1 856 k (by omega) (by omega) (by omega) (by omega) (by omega))
  rw [e1]
  exact kqS2 ⟨fun a y ha => by rw [e4 a y (by omega) (by omega) (by omega)]; exact h.1.1 a y ha, fun a y h1 h2 h3 h4 h5 h6 h7 h8 => by rw [e4 a y h6 h7 h8]; exact h.1.2.1 a y h1 h2 h3 h4 h5, h.1.2.2.1, h.1.2.2.2, fun i hi => by rw [e4 _ _ (by omega) (by omega) (by omega)]; exact h.2 i hi, e2, e3⟩
set_option maxRecDepth 100000 in
set_option maxHeartbeats 4000000 in
theorem q_DX5_init {fu : Nat} {k : Nat} {F : mwF} {M : mwM} {L : mwL} (hfu : 300 ≤ fu) (hk : 1 ≤ k) (h : Z1 M L) : kq3 Z1 (DX5_init fu k F M L) := by
  unfold DX5_init
  exact (kqG3 (Z1_m h (by first | trivial | omega)) (fun M1 h1 => (kqL3 (fun F2 => (kqS3 h1)))))
set_option maxRecDepth 100000 in
set_option maxHeartbeats 4000000 in
theorem q_DX0_init {fu : Nat} {F : mwF} {M : mwM} {L : mwL} (hfu : 300 ≤ fu) (h : Z1 M L) : kq3 Z1 (DX0_init fu F M L) := by
  unfold DX0_init
  exact (kqG3 (Z1_m h (by first | trivial | omega)) (fun M1 h1 => (kqL3 (fun F2 => (kqG3 (Z1_m h1 (by first | trivial | omega)) (fun M3 h3 => (kqL3 (fun F4 => (kqG3 (Z1_m h3 (by first | trivial | omega)) (fun M5 h5 => (kqL3 (fun F6 => (kqL3 (fun F7 => (kqG3 (Z1_r h5 (by first | trivial | omega)) (fun M8 h8 => (kqL3 (fun F9 => (kqL3 (fun F10 => (kqG3 (Z1_r h8 (by first | trivial | omega)) (fun M11 h11 => (kqL3 (fun F12 => (kqL3 (fun F13 => (kqL3 (fun F14 => (kqL3 (fun F15 => (kqG3 (Z1_r h11 (by first | trivial | omega)) (fun M16 h16 => (kqL3 (fun F17 => (kqG3 (Z1_m h16 (by first | trivial | omega)) (fun M18 h18 => (kqL3 (fun F19 => (kqL3 (fun F20 => (kqG3 (Z1_m h18 (by first | trivial | omega)) (fun M21 h21 => (kqH3 (Z1_l h21 (by first | trivial | omega)) (fun L22 h22 => (kqJ33 (q_DX5_init hfu (by omega) h22) (fun F23 M24 L25 h23 => (kqL3 (fun F26 => (kqL3 (fun F27 => (kqG3 (Z1_m h23 (by first | trivial | omega)) (fun M28 h26 => (kqH3 (Z1_l h26 (by first | trivial | omega)) (fun L29 h27 => (kqJ33 (q_DX5_init hfu (by omega) h27) (fun F30 M31 L32 h28 => (kqL3 (fun F33 => (kqL3 (fun F34 => (kqG3 (Z1_m h28 (by first | trivial | omega)) (fun M35 h31 => (kqH3 (Z1_l h31 (by first | trivial | omega)) (fun L36 h32 => (kqJ33 (q_DX5_init hfu (by omega) h32) (fun F37 M38 L39 h33 => (kqL3 (fun F40 => (kqL3 (fun F41 => (kqG3 (Z1_m h33 (by first | trivial | omega)) (fun M42 h36 => (kqH3 (Z1_l h36 (by first | trivial | omega)) (fun L43 h37 => (kqJ33 (q_DX5_init hfu (by omega) h37) (fun F44 M45 L46 h38 => (kqL3 (fun F47 => (kqL3 (fun F48 => (kqG3 (Z1_m h38 (by first | trivial | omega)) (fun M49 h41 => (kqH3 (Z1_l h41 (by first | trivial | omega)) (fun L50 h42 => (kqJ33 (q_DX5_init hfu (by omega) h42) (fun F51 M52 L53 h43 => (kqL3 (fun F54 => (kqL3 (fun F55 => (kqG3 (Z1_m h43 (by first | trivial | omega)) (fun M56 h46 => (kqH3 (Z1_l h46 (by first | trivial | omega)) (fun L57 h47 => (kqJ33 (q_DX5_init hfu (by omega) h47) (fun F58 M59 L60 h48 => (kqL3 (fun F61 => (kqL3 (fun F62 => (kqG3 (Z1_m h48 (by first | trivial | omega)) (fun M63 h51 => (kqH3 (Z1_l h51 (by first | trivial | omega)) (fun L64 h52 => (kqJ33 (q_DX5_init hfu (by omega) h52) (fun F65 M66 L67 h53 => (kqL3 (fun F68 => (kqS3 h53)))))))))))))))))))))))))))))))))))))))))))))))))))))))))))))))))))))))))))))))))))))))))))))))))))))))))))))
set_option maxRecDepth 100000 in
set_option maxHeartbeats 4000000 in
theorem q_DX4_init {fu : Nat} {F : mwF} {M : mwM} {L : mwL} (hfu : 300 ≤ fu) (h : Z1 M L) : kq3 Z1 (DX4_init fu F M L) := by
  unfold DX4_init
  exact (kqL3 (fun F1 => (kqG3 (Z1_r h (by first | trivial | omega)) (fun M2 h2 => (kqL3 (fun F3 => (kqG3 (Z1_m h2 (by first | trivial | omega)) (fun M4 h4 => (kqL3 (fun F5 => (kqG3 (Z1_m h4 (by first | trivial | omega)) (fun M6 h6 => (kqL3 (fun F7 => (kqS3 h6)))))))))))))))
set_option maxRecDepth 100000 in
set_option maxHeartbeats 4000000 in
theorem q_DX6_init {fu : Nat} {F : mwF} {M : mwM} {L : mwL} (hfu : 300 ≤ fu) (h : Z1 M L) : kq3 Z1 (DX6_init fu F M L) := by
  unfold DX6_init
  exact (kqL3 (fun F1 => (kqG3 (Z1_r h (by first | trivial | omega)) (fun M2 h2 => (kqL3 (fun F3 => (kqL3 (fun F4 => (kqG3 (Z1_r h2 (by first | trivial | omega)) (fun M5 h5 => (kqL3 (fun F6 => (kqG3 (Z1_m h5 (by first | trivial | omega)) (fun M7 h7 => (kqL3 (fun F8 => (kqL3 (fun F9 => (kqG3 (Z1_r h7 (by first | trivial | omega)) (fun M10 h10 => (kqL3 (fun F11 => (kqL3 (fun F12 => (kqG3 (Z1_r h10 (by first | trivial | omega)) (fun M13 h13 => (kqL3 (fun F14 => (kqG3 (Z1_m h13 (by first | trivial | omega)) (fun M15 h15 => (kqL3 (fun F16 => (kqG3 (Z1_m h15 (by first | trivial | omega)) (fun M17 h17 => (kqL3 (fun F18 => (kqG3 (Z1_m h17 (by first | trivial | omega)) (fun M19 h19 => (kqL3 (fun F20 => (kqG3 (Z1_m h19 (by first | trivial | omega)) (fun M21 h21 => (kqL3 (fun F22 => (kqG3 (Z1_m h21 (by first | trivial | omega)) (fun M23 h23 => (kqL3 (fun F24 => (kqS3 h23)))))))))))))))))))))))))))))))))))))))))))))))))
set_option maxRecDepth 100000 in
set_option maxHeartbeats 4000000 in
theorem q_DX3_init {fu : Nat} {F : mwF} {M : mwM} {L : mwL} (hfu : 300 ≤ fu) (h : Z1 M L) : kq3 ZT1 (DX3_init fu F M L) := by
  unfold DX3_init
  exact (kqG3 (Z1_m h (by first | trivial | omega)) (fun M1 h1 => (kqL3 (fun F2 => (kqG3 (Z1_m h1 (by first | trivial | omega)) (fun M3 h3 => (kqL3 (fun F4 => (kqL3 (fun F5 => (kqG3 (Z1_r h3 (by first | trivial | omega)) (fun M6 h6 => (kqL3 (fun F7 => (kqL3 (fun F8 => (kqG3 (Z1_r h6 (by first | trivial | omega)) (fun M9 h9 => (kqL3 (fun F10 => (kqG3 (Z1_m h9 (by first | trivial | omega)) (fun M11 h11 => (kqL3 (fun F12 => (kqG3 (Z1_m h11 (by first | trivial | omega)) (fun M13 h13 => (kqL3 (fun F14 => (kqG3 (Z1_m h13 (by first | trivial | omega)) (fun M15 h15 => (kqL3 (fun F16 => (kqJ23 (t_tail3 hfu h15) (fun M17 L18 h17 => (kqS3 h17)))))))))))))))))))))))))))))))))))
set_option maxRecDepth 100000 in
set_option maxHeartbeats 4000000 in
theorem q_DX10_init {fu : Nat} {F : mwF} {M : mwM} {L : mwL} (hfu : 300 ≤ fu) (h : ZT1 M L) : kq3 ZT1 (DX10_init fu F M L) := by
  unfold DX10_init
  exact (kqL3 (fun F1 => (kqG3 (ZT1_r h (by first | trivial | omega)) (fun M2 h2 => (kqL3 (fun F3 => (kqG3 (ZT1_m h2 (by first | trivial | omega)) (fun M4 h4 => (kqL3 (fun F5 => (kqS3 h4)))))))))))
set_option maxRecDepth 100000 in
set_option maxHeartbeats 4000000 in
theorem q_DX9_init {fu : Nat} {F : mwF} {M : mwM} {L : mwL} (hfu : 300 ≤ fu) (h : ZT1 M L) : kq3 ZT1 (DX9_init fu F M L) := by
  unfold DX9_init
  exact (kqL3 (fun F1 => (kqG3 (ZT1_r h (by first | trivial | omega)) (fun M2 h2 => (kqL3 (fun F3 => (kqL3 (fun F4 => (kqG3 (ZT1_r h2 (by first | trivial | omega)) (fun M5 h5 => (kqL3 (fun F6 => (kqL3 (fun F7 => (kqG3 (ZT1_r h5 (by first | trivial | omega)) (fun M8 h8 => (kqL3 (fun F9 => (kqL3 (fun F10 => (kqG3 (ZT1_r h8 (by first | trivial | omega)) (fun M11 h11 => (kqL3 (fun F12 => (kqG3 (ZT1_m h11 (by first | trivial | omega)) (fun M13 h13 => (kqL3 (fun F14 => (kqS3 h13)))))))))))))))))))))))))))))
set_option maxRecDepth 100000 in
set_option maxHeartbeats 4000000 in
theorem q_DX7_init {fu : Nat} {F : mwF} {M : mwM} {L : mwL} (hfu : 300 ≤ fu) (h : ZT1 M L) : kq3 ZT1 (DX7_init fu F M L) := by
  unfold DX7_init
  exact (kqG3 (ZT1_m h (by first | trivial | omega)) (fun M1 h1 => (kqL3 (fun F2 => (kqG3 (ZT1_m h1 (by first | trivial | omega)) (fun M3 h3 => (kqL3 (fun F4 => (kqG3 (ZT1_m h3 (by first | trivial | omega)) (fun M5 h5 => (kqL3 (fun F6 => (kqG3 (ZT1_m h5 (by first | trivial | omega)) (fun M7 h7 => (kqL3 (fun F8 => (kqG3 (ZT1_m h7 (by first | trivial | omega)) (fun M9 h9 => (kqL3 (fun F10 => (kqG3 (ZT1_m h9 (by first | trivial | omega)) (fun M11 h11 => (kqL3 (fun F12 => (kqG3 (ZT1_m h11 (by first | trivial | omega)) (fun M13 h13 => (kqL3 (fun F14 => (kqS3 h13)))))))))))))))))))))))))))))
set_option maxRecDepth 100000 in
set_option maxHeartbeats 4000000 in
theorem q_DX2_init {fu : Nat} {k : Nat} {F : mwF} {M : mwM} {L : mwL} (hfu : 300 ≤ fu) (hk : 139 ≤ k) (h : ZT1 M L) : kq3 ZT1 (DX2_init fu k F M L) := by
  unfold DX2_init
  exact (kqL3 (fun F1 => (kqG3 (ZT1_r h (by first | trivial | omega)) (fun M2 h2 => (kqL3 (fun F3 => (kqL3 (fun F4 => (kqG3 (ZT1_r h2 (by first | trivial | omega)) (fun M5 h5 => (kqL3 (fun F6 => (kqL3 (fun F7 => (kqG3 (ZT1_r h5 (by first | trivial | omega)) (fun M8 h8 => (kqL3 (fun F9 => (kqH3 (ZT1_l h8 (by first | trivial | omega)) (fun L10 h10 => (kqL3 (fun F11 => (kqG3 (ZT1_m h10 (by first | trivial | omega)) (fun M12 h12 => (kqL3 (fun F13 => (kqS3 h12)))))))))))))))))))))))))))
set_option maxRecDepth 100000 in
set_option maxHeartbeats 4000000 in
theorem q_DX1_init {fu : Nat} {F : mwF} {M : mwM} {L : mwL} (hfu : 300 ≤ fu) (h : Z1 M L) : kq3 ZT1 (DX1_init fu F M L) := by
  unfold DX1_init
  exact (kqL3 (fun F1 => (kqL3 (fun F2 => (kqL3 (fun F3 => (kqG3 (Z1_m h (by first | trivial | omega)) (fun M4 h4 => (kqH3 (Z1_l h4 (by first | trivial | omega)) (fun L5 h5 => (kqJ33 (q_DX4_init hfu h5) (fun F6 M7 L8 h6 => (kqL3 (fun F9 => (kqL3 (fun F10 => (kqG3 (Z1_m h6 (by first | trivial | omega)) (fun M11 h9 => (kqH3 (Z1_l h9 (by first | trivial | omega)) (fun L12 h10 => (kqJ33 (q_DX0_init hfu h10) (fun F13 M14 L15 h11 => (kqL3 (fun F16 => (kqL3 (fun F17 => (kqG3 (Z1_m h11 (by first | trivial | omega)) (fun M18 h14 => (kqH3 (Z1_l h14 (by first | trivial | omega)) (fun L19 h15 => (kqJ33 (q_DX6_init hfu h15) (fun F20 M21 L22 h16 => (kqL3 (fun F23 => (kqL3 (fun F24 => (kqG3 (Z1_m h16 (by first | trivial | omega)) (fun M25 h19 => (kqH3 (Z1_l h19 (by first | trivial | omega)) (fun L26 h20 => (kqJ33 (q_DX3_init hfu h20) (fun F27 M28 L29 h21 => (kqL3 (fun F30 => (kqL3 (fun F31 => (kqG3 (ZT1_m h21 (by first | trivial | omega)) (fun M32 h24 => (kqH3 (ZT1_l h24 (by first | trivial | omega)) (fun L33 h25 => (kqJ33 (q_DX10_init hfu h25) (fun F34 M35 L36 h26 => (kqL3 (fun F37 => (kqL3 (fun F38 => (kqG3 (ZT1_m h26 (by first | trivial | omega)) (fun M39 h29 => (kqH3 (ZT1_l h29 (by first | trivial | omega)) (fun L40 h30 => (kqJ33 (q_DX9_init hfu h30) (fun F41 M42 L43 h31 => (kqL3 (fun F44 => (kqL3 (fun F45 => (kqG3 (ZT1_m h31 (by first | trivial | omega)) (fun M46 h34 => (kqH3 (ZT1_l h34 (by first | trivial | omega)) (fun L47 h35 => (kqJ33 (q_DX7_init hfu h35) (fun F48 M49 L50 h36 => (kqL3 (fun F51 => (kqG3 (ZT1_m h36 (by first | trivial | omega)) (fun M52 h38 => (kqL3 (fun F53 => (kqG3 (ZT1_m h38 (by first | trivial | omega)) (fun M54 h40 => (kqL3 (fun F55 => (kqL3 (fun F56 => (kqG3 (ZT1_r h40 (by first | trivial | omega)) (fun M57 h43 => (kqL3 (fun F58 => (kqH3 (ZT1_l h43 (by first | trivial | omega)) (fun L59 h45 => (kqL3 (fun F60 => (kqG3 (ZT1_m h45 (by first | trivial | omega)) (fun M61 h47 => (kqL3 (fun F62 => (kqL3 (fun F63 => (kqG3 (ZT1_m h47 (by first | trivial | omega)) (fun M64 h50 => (kqH3 (ZT1_l h50 (by first | trivial | omega)) (fun L65 h51 => (kqJ33 (q_DX2_init hfu (by omega) h51) (fun F66 M67 L68 h52 => (kqL3 (fun F69 => (kqL3 (fun F70 => (kqG3 (ZT1_m h52 (by first | trivial | omega)) (fun M71 h55 => (kqH3 (ZT1_l h55 (by first | trivial | omega)) (fun L72 h56 => (kqJ33 (q_DX2_init hfu (by omega) h56) (fun F73 M74 L75 h57 => (kqL3 (fun F76 => (kqL3 (fun F77 => (kqG3 (ZT1_m h57 (by first | trivial | omega)) (fun M78 h60 => (kqH3 (ZT1_l h60 (by first | trivial | omega)) (fun L79 h61 => (kqJ33 (q_DX2_init hfu (by omega) h61) (fun F80 M81 L82 h62 => (kqL3 (fun F83 => (kqL3 (fun F84 => (kqG3 (ZT1_m h62 (by first | trivial | omega)) (fun M85 h65 => (kqH3 (ZT1_l h65 (by first | trivial | omega)) (fun L86 h66 => (kqJ33 (q_DX2_init hfu (by omega) h66) (fun F87 M88 L89 h67 => (kqL3 (fun F90 => (kqL3 (fun F91 => (kqG3 (ZT1_m h67 (by first | trivial | omega)) (fun M92 h70 => (kqH3 (ZT1_l h70 (by first | trivial | omega)) (fun L93 h71 => (kqJ33 (q_DX2_init hfu (by omega) h71) (fun F94 M95 L96 h72 => (kqL3 (fun F97 => (kqL3 (fun F98 => (kqG3 (ZT1_m h72 (by first | trivial | omega)) (fun M99 h75 => (kqH3 (ZT1_l h75 (by first | trivial | omega)) (fun L100 h76 => (kqJ33 (q_DX2_init hfu (by omega) h76) (fun F101 M102 L103 h77 => (kqL3 (fun F104 => (kqL3 (fun F105 => (kqG3 (ZT1_m h77 (by first | trivial | omega)) (fun M106 h80 => (kqH3 (ZT1_l h80 (by first | trivial | omega)) (fun L107 h81 => (kqJ33 (q_DX2_init hfu (by omega) h81) (fun F108 M109 L110 h82 => (kqL3 (fun F111 => (kqL3 (fun F112 => (kqG3 (ZT1_m h82 (by first | trivial | omega)) (fun M113 h85 => (kqH3 (ZT1_l h85 (by first | trivial | omega)) (fun L114 h86 => (kqJ33 (q_DX2_init hfu (by omega) h86) (fun F115 M116 L117 h87 => (kqL3 (fun F118 => (kqL3 (fun F119 => (kqG3 (ZT1_m h87 (by first | trivial | omega)) (fun M120 h90 => (kqH3 (ZT1_l h90 (by first | trivial | omega)) (fun L121 h91 => (kqJ33 (q_DX2_init hfu (by omega) h91) (fun F122 M123 L124 h92 => (kqL3 (fun F125 => (kqL3 (fun F126 => (kqG3 (ZT1_m h92 (by first | trivial | omega)) (fun M127 h95 => (kqH3 (ZT1_l h95 (by first | trivial | omega)) (fun L128 h96 => (kqJ33 (q_DX2_init hfu (by omega) h96) (fun F129 M130 L131 h97 => (kqL3 (fun F132 => (kqL3 (fun F133 => (kqG3 (ZT1_m h97 (by first | trivial | omega)) (fun M134 h100 => (kqH3 (ZT1_l h100 (by first | trivial | omega)) (fun L135 h101 => (kqJ33 (q_DX2_init hfu (by omega) h101) (fun F136 M137 L138 h102 => (kqL3 (fun F139 => (kqL3 (fun F140 => (kqG3 (ZT1_m h102 (by first | trivial | omega)) (fun M141 h105 => (kqH3 (ZT1_l h105 (by first | trivial | omega)) (fun L142 h106 => (kqJ33 (q_DX2_init hfu (by omega) h106) (fun F143 M144 L145 h107 => (kqL3 (fun F146 => (kqS3 h107)))))))))))))))))))))))))))))))))))))))))))))))))))))))))))))))))))))))))))))))))))))))))))))))))))))))))))))))))))))))))))))))))))))))))))))))))))))))))))))))))))))))))))))))))))))))))))))))))))))))))))))))))))))))))
set_option maxRecDepth 100000 in
set_option maxHeartbeats 4000000 in
theorem q_DX8_init {fu : Nat} {F : mwF} {M : mwM} {L : mwL} (hfu : 300 ≤ fu) (h : Z1 M L) : kq3 ZT1 (DX8_init fu F M L) := by
  unfold DX8_init
  exact (kqG3 (Z1_m h (by first | trivial | omega)) (fun M1 h1 => (kqL3 (fun F2 => (kqL3 (fun F3 => (kqG3 (Z1_m h1 (by first | trivial | omega)) (fun M4 h4 => (kqH3 (Z1_l h4 (by first | trivial | omega)) (fun L5 h5 => (kqJ33 (q_DX1_init hfu h5) (fun F6 M7 L8 h6 => (kqL3 (fun F9 => (kqL3 (fun F10 => (kqG3 (ZT1_r h6 (by first | trivial | omega)) (fun M11 h9 => (kqL3 (fun F12 => (kqS3 h9)))))))))))))))))))))
set_option maxRecDepth 100000 in
set_option maxHeartbeats 4000000 in
theorem q_DX11_init {fu : Nat} {F : mwF} {M : mwM} {L : mwL} (hfu : 300 ≤ fu) (h : Z1 M L) : kq3 ZT1 (DX11_init fu F M L) := by
  unfold DX11_init
  exact (kqL3 (fun F1 => (kqG3 (Z1_m h (by first | trivial | omega)) (fun M2 h2 => (kqH3 (Z1_l h2 (by first | trivial | omega)) (fun L3 h3 => (kqJ33 (q_DX8_init hfu h3) (fun F4 M5 L6 h4 => (kqL3 (fun F7 => (kqL3 (fun F8 => (kqG3 (ZT1_m h4 (by first | trivial | omega)) (fun M9 h7 => (kqL3 (fun F10 => (kqS3 h7)))))))))))))))))
set_option maxRecDepth 100000 in
set_option maxHeartbeats 4000000 in
theorem q_DX15_init {fu : Nat} {M0 : mwM} {L0 : mwL} {F : mwF} {M : mwM} {L : mwL} (hfu : 300 ≤ fu) (h : Z2 M0 L0 M L) : kq3 (Z2 M0 L0) (DX15_init fu F M L) := by
  unfold DX15_init
  exact (kqG3 (Z2_m h (by first | trivial | omega)) (fun M1 h1 => (kqL3 (fun F2 => (kqG3 (Z2_m h1 (by first | trivial | omega)) (fun M3 h3 => (kqL3 (fun F4 => (kqG3 (Z2_m h3 (by first | trivial | omega)) (fun M5 h5 => (kqL3 (fun F6 => (kqG3 (Z2_m h5 (by first | trivial | omega)) (fun M7 h7 => (kqL3 (fun F8 => (kqG3 (Z2_m h7 (by first | trivial | omega)) (fun M9 h9 => (kqL3 (fun F10 => (kqG3 (Z2_m h9 (by first | trivial | omega)) (fun M11 h11 => (kqL3 (fun F12 => (kqG3 (Z2_m h11 (by first | trivial | omega)) (fun M13 h13 => (kqL3 (fun F14 => (kqH3 (Z2_l h13 (by first | trivial | omega)) (fun L15 h15 => (kqL3 (fun F16 => (kqG3 (Z2_m h15 (by first | trivial | omega)) (fun M17 h17 => (kqL3 (fun F18 => (kqH3 (Z2_l h17 (by first | trivial | omega)) (fun L19 h19 => (kqL3 (fun F20 => (kqG3 (Z2_m h19 (by first | trivial | omega)) (fun M21 h21 => (kqL3 (fun F22 => (kqG3 (Z2_m h21 (by first | trivial | omega)) (fun M23 h23 => (kqL3 (fun F24 => (kqH3 (Z2_l h23 (by first | trivial | omega)) (fun L25 h25 => (kqL3 (fun F26 => (kqG3 (Z2_m h25 (by first | trivial | omega)) (fun M27 h27 => (kqL3 (fun F28 => (kqG3 (Z2_m h27 (by first | trivial | omega)) (fun M29 h29 => (kqL3 (fun F30 => (kqG3 (Z2_m h29 (by first | trivial | omega)) (fun M31 h31 => (kqL3 (fun F32 => (kqG3 (Z2_m h31 (by first | trivial | omega)) (fun M33 h33 => (kqL3 (fun F34 => (kqH3 (Z2_l h33 (by first | trivial | omega)) (fun L35 h35 => (kqL3 (fun F36 => (kqG3 (Z2_m h35 (by first | trivial | omega)) (fun M37 h37 => (kqL3 (fun F38 => (kqH3 (Z2_l h37 (by first | trivial | omega)) (fun L39 h39 => (kqL3 (fun F40 => (kqG3 (Z2_m h39 (by first | trivial | omega)) (fun M41 h41 => (kqL3 (fun F42 => (kqG3 (Z2_m h41 (by first | trivial | omega)) (fun M43 h43 => (kqL3 (fun F44 => (kqG3 (Z2_m h43 (by first | trivial | omega)) (fun M45 h45 => (kqL3 (fun F46 => (kqH3 (Z2_l h45 (by first | trivial | omega)) (fun L47 h47 => (kqL3 (fun F48 => (kqG3 (Z2_m h47 (by first | trivial | omega)) (fun M49 h49 => (kqL3 (fun F50 => (kqH3 (Z2_l h49 (by first | trivial | omega)) (fun L51 h51 => (kqL3 (fun F52 => (kqG3 (Z2_m h51 (by first | trivial | omega)) (fun M53 h53 => (kqL3 (fun F54 => (kqH3 (Z2_l h53 (by first | trivial | omega)) (fun L55 h55 => (kqL3 (fun F56 => (kqH3 (Z2_l h55 (by first | trivial | omega)) (fun L57 h57 => (kqL3 (fun F58 => (kqG3 (Z2_m h57 (by first | trivial | omega)) (fun M59 h59 => (kqL3 (fun F60 => (kqG3 (Z2_m h59 (by first | trivial | omega)) (fun M61 h61 => (kqL3 (fun F62 => (kqH3 (Z2_l h61 (by first | trivial | omega)) (fun L63 h63 => (kqL3 (fun F64 => (kqG3 (Z2_m h63 (by first | trivial | omega)) (fun M65 h65 => (kqL3 (fun F66 => (kqS3 h65)))))))))))))))))))))))))))))))))))))))))))))))))))))))))))))))))))))))))))))))))))))))))))))))))))))))))))))))))))))))))))))))))))))
set_option maxRecDepth 100000 in
set_option maxHeartbeats 4000000 in
theorem q_DX12_init {fu : Nat} {M0 : mwM} {L0 : mwL} {F : mwF} {M : mwM} {L : mwL} (hfu : 300 ≤ fu) (h : Z2 M0 L0 M L) : kq3 (Z2 M0 L0) (DX12_init fu F M L) := by
  unfold DX12_init
  exact (kqG3 (Z2_s h (by first | trivial | omega)) (fun M1 h1 => (kqG3 (Z2_m h1 (by first | trivial | omega)) (fun M2 h2 => (kqL3 (fun F3 => (kqG3 (Z2_m h2 (by first | trivial | omega)) (fun M4 h4 => (kqL3 (fun F5 => (kqG3 (Z2_m h4 (by first | trivial | omega)) (fun M6 h6 => (kqL3 (fun F7 => (kqG3 (Z2_m h6 (by first | trivial | omega)) (fun M8 h8 => (kqL3 (fun F9 => (kqG3 (Z2_m h8 (by first | trivial | omega)) (fun M10 h10 => (kqL3 (fun F11 => (kqG3 (Z2_m h10 (by first | trivial | omega)) (fun M12 h12 => (kqL3 (fun F13 => (kqG3 (Z2_m h12 (by first | trivial | omega)) (fun M14 h14 => (kqL3 (fun F15 => (kqG3 (Z2_m h14 (by first | trivial | omega)) (fun M16 h16 => (kqL3 (fun F17 => (kqG3 (Z2_m h16 (by first | trivial | omega)) (fun M18 h18 => (kqL3 (fun F19 => (kqG3 (Z2_m h18 (by first | trivial | omega)) (fun M20 h20 => (kqL3 (fun F21 => (kqG3 (Z2_m h20 (by first | trivial | omega)) (fun M22 h22 => (kqL3 (fun F23 => (kqG3 (Z2_m h22 (by first | trivial | omega)) (fun M24 h24 => (kqL3 (fun F25 => (kqG3 (Z2_m h24 (by first | trivial | omega)) (fun M26 h26 => (kqL3 (fun F27 => (kqG3 (Z2_m h26 (by first | trivial | omega)) (fun M28 h28 => (kqL3 (fun F29 => (kqG3 (Z2_m h28 (by first | trivial | omega)) (fun M30 h30 => (kqL3 (fun F31 => (kqG3 (Z2_m h30 (by first | trivial | omega)) (fun M32 h32 => (kqL3 (fun F33 => (kqG3 (Z2_m h32 (by first | trivial | omega)) (fun M34 h34 => (kqL3 (fun F35 => (kqG3 (Z2_m h34 (by first | trivial | omega)) (fun M36 h36 => (kqL3 (fun F37 => (kqG3 (Z2_m h36 (by first | trivial | omega)) (fun M38 h38 => (kqL3 (fun F39 => (kqG3 (Z2_m h38 (by first | trivial | omega)) (fun M40 h40 => (kqL3 (fun F41 => (kqG3 (Z2_m h40 (by first | trivial | omega)) (fun M42 h42 => (kqL3 (fun F43 => (kqG3 (Z2_m h42 (by first | trivial | omega)) (fun M44 h44 => (kqL3 (fun F45 => (kqG3 (Z2_m h44 (by first | trivial | omega)) (fun M46 h46 => (kqL3 (fun F47 => (kqG3 (Z2_m h46 (by first | trivial | omega)) (fun M48 h48 => (kqL3 (fun F49 => (kqG3 (Z2_m h48 (by first | trivial | omega)) (fun M50 h50 => (kqL3 (fun F51 => (kqG3 (Z2_m h50 (by first | trivial | omega)) (fun M52 h52 => (kqL3 (fun F53 => (kqG3 (Z2_m h52 (by first | trivial | omega)) (fun M54 h54 => (kqL3 (fun F55 => (kqG3 (Z2_m h54 (by first | trivial | omega)) (fun M56 h56 => (kqL3 (fun F57 => (kqG3 (Z2_m h56 (by first | trivial | omega)) (fun M58 h58 => (kqL3 (fun F59 => (kqG3 (Z2_m h58 (by first | trivial | omega)) (fun M60 h60 => (kqL3 (fun F61 => (kqG3 (Z2_m h60 (by first | trivial | omega)) (fun M62 h62 => (kqL3 (fun F63 => (kqG3 (Z2_m h62 (by first | trivial | omega)) (fun M64 h64 => (kqL3 (fun F65 => (kqG3 (Z2_s h64 (by first | trivial | omega)) (fun M66 h66 => (kqG3 (Z2_s h66 (by first | trivial | omega)) (fun M67 h67 => (kqS3 h67)))))))))))))))))))))))))))))))))))))))))))))))))))))))))))))))))))))))))))))))))))))))))))))))))))))))))))))))))))))))))))))))))))))))
set_option maxRecDepth 100000 in
set_option maxHeartbeats 4000000 in
theorem q_DX14_init {fu : Nat} {M0 : mwM} {L0 : mwL} {F : mwF} {M : mwM} {L : mwL} (hfu : 300 ≤ fu) (h : Z2 M0 L0 M L) : kq3 (ZT2 M0 L0) (DX14_init fu F M L) := by
  unfold DX14_init
  exact (kqG3 (Z2_m h (by first | trivial | omega)) (fun M1 h1 => (kqL3 (fun F2 => (kqG3 (Z2_m h1 (by first | trivial | omega)) (fun M3 h3 => (kqL3 (fun F4 => (kqH3 (Z2_l h3 (by first | trivial | omega)) (fun L5 h5 => (kqL3 (fun F6 => (kqG3 (Z2_m h5 (by first | trivial | omega)) (fun M7 h7 => (kqL3 (fun F8 => (kqG3 (Z2_m h7 (by first | trivial | omega)) (fun M9 h9 => (kqL3 (fun F10 => (kqG3 (Z2_m h9 (by first | trivial | omega)) (fun M11 h11 => (kqL3 (fun F12 => (kqH3 (Z2_l h11 (by first | trivial | omega)) (fun L13 h13 => (kqL3 (fun F14 => (kqG3 (Z2_m h13 (by first | trivial | omega)) (fun M15 h15 => (kqL3 (fun F16 => (kqG3 (Z2_m h15 (by first | trivial | omega)) (fun M17 h17 => (kqL3 (fun F18 => (kqG3 (Z2_m h17 (by first | trivial | omega)) (fun M19 h19 => (kqL3 (fun F20 => (kqG3 (Z2_m h19 (by first | trivial | omega)) (fun M21 h21 => (kqL3 (fun F22 => (kqG3 (Z2_m h21 (by first | trivial | omega)) (fun M23 h23 => (kqL3 (fun F24 => (kqG3 (Z2_m h23 (by first | trivial | omega)) (fun M25 h25 => (kqL3 (fun F26 => (kqG3 (Z2_m h25 (by first | trivial | omega)) (fun M27 h27 => (kqL3 (fun F28 => (kqJ23 (t_tail14 hfu h27) (fun M29 L30 h29 => (kqS3 h29)))))))))))))))))))))))))))))))))))))))))))))))))))))))))))
set_option maxRecDepth 100000 in
set_option maxHeartbeats 4000000 in
theorem q_DX17_init {fu : Nat} {M0 : mwM} {L0 : mwL} {F : mwF} {M : mwM} {L : mwL} (hfu : 300 ≤ fu) (h : ZT2 M0 L0 M L) : kq3 (ZT2 M0 L0) (DX17_init fu F M L) := by
  unfold DX17_init
  exact (kqG3 (ZT2_m h (by first | trivial | omega)) (fun M1 h1 => (kqL3 (fun F2 => (kqG3 (ZT2_m h1 (by first | trivial | omega)) (fun M3 h3 => (kqL3 (fun F4 => (kqG3 (ZT2_m h3 (by first | trivial | omega)) (fun M5 h5 => (kqL3 (fun F6 => (kqG3 (ZT2_m h5 (by first | trivial | omega)) (fun M7 h7 => (kqL3 (fun F8 => (kqG3 (ZT2_m h7 (by first | trivial | omega)) (fun M9 h9 => (kqL3 (fun F10 => (kqG3 (ZT2_m h9 (by first | trivial | omega)) (fun M11 h11 => (kqL3 (fun F12 => (kqG3 (ZT2_m h11 (by first | trivial | omega)) (fun M13 h13 => (kqL3 (fun F14 => (kqG3 (ZT2_m h13 (by first | trivial | omega)) (fun M15 h15 => (kqL3 (fun F16 => (kqG3 (ZT2_m h15 (by first | trivial | omega)) (fun M17 h17 => (kqL3 (fun F18 => (kqG3 (ZT2_m h17 (by first | trivial | omega)) (fun M19 h19 => (kqL3 (fun F20 => (kqH3 (ZT2_l h19 (by first | trivial | omega)) (fun L21 h21 => (kqL3 (fun F22 => (kqH3 (ZT2_l h21 (by first | trivial | omega)) (fun L23 h23 => (kqL3 (fun F24 => (kqG3 (ZT2_m h23 (by first | trivial | omega)) (fun M25 h25 => (kqL3 (fun F26 => (kqG3 (ZT2_m h25 (by first | trivial | omega)) (fun M27 h27 => (kqL3 (fun F28 => (kqG3 (ZT2_m h27 (by first | trivial | omega)) (fun M29 h29 => (kqL3 (fun F30 => (kqG3 (ZT2_m h29 (by first | trivial | omega)) (fun M31 h31 => (kqL3 (fun F32 => (kqG3 (ZT2_m h31 (by first | trivial | omega)) (fun M33 h33 => (kqL3 (fun F34 => (kqG3 (ZT2_m h33 (by first | trivial | omega)) (fun M35 h35 => (kqL3 (fun F36 => (kqG3 (ZT2_m h35 (by first | trivial | omega)) (fun M37 h37 => (kqL3 (fun F38 => (kqH3 (ZT2_l h37 (by first | trivial | omega)) (fun L39 h39 => (kqL3 (fun F40 => (kqG3 (ZT2_m h39 (by first | trivial | omega)) (fun M41 h41 => (kqL3 (fun F42 => (kqG3 (ZT2_m h41 (by first | trivial | omega)) (fun M43 h43 => (kqL3 (fun F44 => (kqG3 (ZT2_m h43 (by first | trivial | omega)) (fun M45 h45 => (kqL3 (fun F46 => (kqG3 (ZT2_m h45 (by first | trivial | omega)) (fun M47 h47 => (kqL3 (fun F48 => (kqG3 (ZT2_m h47 (by first | trivial | omega)) (fun M49 h49 => (kqL3 (fun F50 => (kqG3 (ZT2_m h49 (by first | trivial | omega)) (fun M51 h51 => (kqL3 (fun F52 => (kqG3 (ZT2_m h51 (by first | trivial | omega)) (fun M53 h53 => (kqL3 (fun F54 => (kqH3 (ZT2_l h53 (by first | trivial | omega)) (fun L55 h55 => (kqL3 (fun F56 => (kqG3 (ZT2_m h55 (by first | trivial | omega)) (fun M57 h57 => (kqL3 (fun F58 => (kqG3 (ZT2_m h57 (by first | trivial | omega)) (fun M59 h59 => (kqL3 (fun F60 => (kqG3 (ZT2_s h59 (by first | trivial | omega)) (fun M61 h61 => (kqG3 (ZT2_m h61 (by first | trivial | omega)) (fun M62 h62 => (kqL3 (fun F63 => (kqG3 (ZT2_m h62 (by first | trivial | omega)) (fun M64 h64 => (kqL3 (fun F65 => (kqS3 h64)))))))))))))))))))))))))))))))))))))))))))))))))))))))))))))))))))))))))))))))))))))))))))))))))))))))))))))))))))))))))))))))))))
set_option maxRecDepth 100000 in
set_option maxHeartbeats 4000000 in
theorem q_DX18_init {fu : Nat} {M0 : mwM} {L0 : mwL} {F : mwF} {M : mwM} {L : mwL} (hfu : 300 ≤ fu) (h : ZT2 M0 L0 M L) : kq3 (ZT2 M0 L0) (DX18_init fu F M L) := by
  unfold DX18_init
  exact (kqG3 (ZT2_m h (by first | trivial | omega)) (fun M1 h1 => (kqL3 (fun F2 => (kqG3 (ZT2_m h1 (by first | trivial | omega)) (fun M3 h3 => (kqL3 (fun F4 => (kqG3 (ZT2_m h3 (by first | trivial | omega)) (fun M5 h5 => (kqL3 (fun F6 => (kqG3 (ZT2_m h5 (by first | trivial | omega)) (fun M7 h7 => (kqL3 (fun F8 => (kqG3 (ZT2_m h7 (by first | trivial | omega)) (fun M9 h9 => (kqL3 (fun F10 => (kqG3 (ZT2_m h9 (by first | trivial | omega)) (fun M11 h11 => (kqL3 (fun F12 => (kqG3 (ZT2_m h11 (by first | trivial | omega)) (fun M13 h13 => (kqL3 (fun F14 => (kqG3 (ZT2_m h13 (by first | trivial | omega)) (fun M15 h15 => (kqL3 (fun F16 => (kqG3 (ZT2_m h15 (by first | trivial | omega)) (fun M17 h17 => (kqL3 (fun F18 => (kqG3 (ZT2_m h17 (by first | trivial | omega)) (fun M19 h19 => (kqL3 (fun F20 => (kqG3 (ZT2_m h19 (by first | trivial | omega)) (fun M21 h21 => (kqL3 (fun F22 => (kqG3 (ZT2_m h21 (by first | trivial | omega)) (fun M23 h23 => (kqL3 (fun F24 => (kqG3 (ZT2_m h23 (by first | trivial | omega)) (fun M25 h25 => (kqL3 (fun F26 => (kqG3 (ZT2_m h25 (by first | trivial | omega)) (fun M27 h27 => (kqL3 (fun F28 => (kqG3 (ZT2_m h27 (by first | trivial | omega)) (fun M29 h29 => (kqL3 (fun F30 => (kqG3 (ZT2_m h29 (by first | trivial | omega)) (fun M31 h31 => (kqL3 (fun F32 => (kqG3 (ZT2_m h31 (by first | trivial | omega)) (fun M33 h33 => (kqL3 (fun F34 => (kqG3 (ZT2_m h33 (by first | trivial | omega)) (fun M35 h35 => (kqL3 (fun F36 => (kqS3 h35)))))))))))))))))))))))))))))))))))))))))))))))))))))))))))))))))))))))))
set_option maxRecDepth 100000 in
set_option maxHeartbeats 4000000 in
theorem q_DX16_init {fu : Nat} {k : Nat} {M0 : mwM} {L0 : mwL} {F : mwF} {M : mwM} {L : mwL} (hfu : 300 ≤ fu) (hk : 941 ≤ k) (h : ZT2 M0 L0 M L) : kq3 (ZT2 M0 L0) (DX16_init fu k F M L) := by
  unfold DX16_init
  exact (kqG3 (ZT2_m h (by first | trivial | omega)) (fun M1 h1 => (kqL3 (fun F2 => (kqG3 (ZT2_m h1 (by first | trivial | omega)) (fun M3 h3 => (kqL3 (fun F4 => (kqG3 (ZT2_m h3 (by first | trivial | omega)) (fun M5 h5 => (kqL3 (fun F6 => (kqG3 (ZT2_m h5 (by first | trivial | omega)) (fun M7 h7 => (kqL3 (fun F8 => (kqG3 (ZT2_m h7 (by first | trivial | omega)) (fun M9 h9 => (kqL3 (fun F10 => (kqG3 (ZT2_m h9 (by first | trivial | omega)) (fun M11 h11 => (kqL3 (fun F12 => (kqG3 (ZT2_m h11 (by first | trivial | omega)) (fun M13 h13 => (kqL3 (fun F14 => (kqG3 (ZT2_m h13 (by first | trivial | omega)) (fun M15 h15 => (kqL3 (fun F16 => (kqG3 (ZT2_m h15 (by first | trivial | omega)) (fun M17 h17 => (kqL3 (fun F18 => (kqG3 (ZT2_m h17 (by first | trivial | omega)) (fun M19 h19 => (kqL3 (fun F20 => (kqG3 (ZT2_m h19 (by first | trivial | omega)) (fun M21 h21 => (kqL3 (fun F22 => (kqG3 (ZT2_m h21 (by first | trivial | omega)) (fun M23 h23 => (kqL3 (fun F24 => (kqG3 (ZT2_m h23 (by first | trivial | omega)) (fun M25 h25 => (kqL3 (fun F26 => (kqG3 (ZT2_m h25 (by first | trivial | omega)) (fun M27 h27 => (kqL3 (fun F28 => (kqG3 (ZT2_m h27 (by first | trivial | omega)) (fun M29 h29 => (kqL3 (fun F30 => (kqG3 (ZT2_m h29 (by first | trivial | omega)) (fun M31 h31 => (kqL3 (fun F32 => (kqG3 (ZT2_m h31 (by first | trivial | omega)) (fun M33 h33 => (kqL3 (fun F34 => (kqG3 (ZT2_m h33 (by first | trivial | omega)) (fun M35 h35 => (kqL3 (fun F36 => (kqG3 (ZT2_m h35 (by first | trivial | omega)) (fun M37 h37 => (kqL3 (fun F38 => (kqG3 (ZT2_m h37 (by first | trivial | omega)) (fun M39 h39 => (kqL3 (fun F40 => (kqG3 (ZT2_m h39 (by first | trivial | omega)) (fun M41 h41 => (kqL3 (fun F42 => (kqG3 (ZT2_m h41 (by first | trivial | omega)) (fun M43 h43 => (kqL3 (fun F44 => (kqS3 h43)))))))))))))))))))))))))))))))))))))))))))))))))))))))))))))))))))))))))))))))))))))))))
set_option maxRecDepth 100000 in
set_option maxHeartbeats 4000000 in
theorem q_DX13_init {fu : Nat} {k : Nat} {M0 : mwM} {L0 : mwL} {F : mwF} {M : mwM} {L : mwL} (hfu : 300 ≤ fu) (hk : 941 ≤ k) (h : ZT2 M0 L0 M L) : kq3 (ZT2 M0 L0) (DX13_init fu k F M L) := by
  unfold DX13_init
  exact (kqG3 (ZT2_m h (by first | trivial | omega)) (fun M1 h1 => (kqL3 (fun F2 => (kqG3 (ZT2_m h1 (by first | trivial | omega)) (fun M3 h3 => (kqL3 (fun F4 => (kqG3 (ZT2_m h3 (by first | trivial | omega)) (fun M5 h5 => (kqL3 (fun F6 => (kqG3 (ZT2_m h5 (by first | trivial | omega)) (fun M7 h7 => (kqL3 (fun F8 => (kqH3 (ZT2_l h7 (by first | trivial | omega)) (fun L9 h9 => (kqL3 (fun F10 => (kqH3 (ZT2_l h9 (by first | trivial | omega)) (fun L11 h11 => (kqL3 (fun F12 => (kqG3 (ZT2_m h11 (by first | trivial | omega)) (fun M13 h13 => (kqL3 (fun F14 => (kqG3 (ZT2_m h13 (by first | trivial | omega)) (fun M15 h15 => (kqL3 (fun F16 => (kqG3 (ZT2_m h15 (by first | trivial | omega)) (fun M17 h17 => (kqL3 (fun F18 => (kqG3 (ZT2_m h17 (by first | trivial | omega)) (fun M19 h19 => (kqL3 (fun F20 => (kqG3 (ZT2_m h19 (by first | trivial | omega)) (fun M21 h21 => (kqL3 (fun F22 => (kqG3 (ZT2_m h21 (by first | trivial | omega)) (fun M23 h23 => (kqL3 (fun F24 => (kqG3 (ZT2_m h23 (by first | trivial | omega)) (fun M25 h25 => (kqL3 (fun F26 => (kqG3 (ZT2_m h25 (by first | trivial | omega)) (fun M27 h27 => (kqL3 (fun F28 => (kqG3 (ZT2_m h27 (by first | trivial | omega)) (fun M29 h29 => (kqL3 (fun F30 => (kqG3 (ZT2_m h29 (by first | trivial | omega)) (fun M31 h31 => (kqL3 (fun F32 => (kqG3 (ZT2_m h31 (by first | trivial | omega)) (fun M33 h33 => (kqL3 (fun F34 => (kqG3 (ZT2_m h33 (by first | trivial | omega)) (fun M35 h35 => (kqL3 (fun F36 => (kqG3 (ZT2_m h35 (by first | trivial | omega)) (fun M37 h37 => (kqL3 (fun F38 => (kqH3 (ZT2_l h37 (by first | trivial | omega)) (fun L39 h39 => (kqL3 (fun F40 => (kqH3 (ZT2_l h39 (by first | trivial | omega)) (fun L41 h41 => (kqL3 (fun F42 => (kqG3 (ZT2_m h41 (by first | trivial | omega)) (fun M43 h43 => (kqL3 (fun F44 => (kqG3 (ZT2_m h43 (by first | trivial | omega)) (fun M45 h45 => (kqL3 (fun F46 => (kqG3 (ZT2_m h45 (by first | trivial | omega)) (fun M47 h47 => (kqL3 (fun F48 => (kqG3 (ZT2_m h47 (by first | trivial | omega)) (fun M49 h49 => (kqL3 (fun F50 => (kqG3 (ZT2_m h49 (by first | trivial | omega)) (fun M51 h51 => (kqL3 (fun F52 => (kqG3 (ZT2_m h51 (by first | trivial | omega)) (fun M53 h53 => (kqL3 (fun F54 => (kqG3 (ZT2_m h53 (by first | trivial | omega)) (fun M55 h55 => (kqL3 (fun F56 => (kqG3 (ZT2_m h55 (by first | trivial | omega)) (fun M57 h57 => (kqL3 (fun F58 => (kqS3 h57)))))))))))))))))))))))))))))))))))))))))))))))))))))))))))))))))))))))))))))))))))))))))))))))))))))))))))))))))))))
set_option maxRecDepth 100000 in
set_option maxHeartbeats 4000000 in
theorem q_DX19_s7 {fu : Nat} {M0 : mwM} {L0 : mwL} {F303 : mwF} {M301 : mwM} {L302 : mwL} (hfu : 300 ≤ fu) (h : ZT2 M0 L0 M301 L302) : kq3 (FN M0 L0) (DX19_s7 fu F303 M301 L302) := by
  unfold DX19_s7
  exact (kqL3 (fun F304 => (kqG3 (ZT2_m h (by first | trivial | omega)) (fun M305 h2 => (kqH3 (ZT2_l h2 (by first | trivial | omega)) (fun L306 h3 => (kqJ33 (q_DX13_init hfu (by omega) h3) (fun F307 M308 L309 h4 => (kqL3 (fun F310 => (kqL3 (fun F311 => (kqG3 (ZT2_m h4 (by first | trivial | omega)) (fun M312 h7 => (kqH3 (ZT2_l h7 (by first | trivial | omega)) (fun L313 h8 => (kqJ33 (q_DX16_init hfu (by omega) h8) (fun F314 M315 L316 h9 => (kqL3 (fun F317 => (kqL3 (fun F318 => (kqG3 (ZT2_m h9 (by first | trivial | omega)) (fun M319 h12 => (kqH3 (ZT2_l h12 (by first | trivial | omega)) (fun L320 h13 => (kqJ33 (q_DX13_init hfu (by omega) h13) (fun F321 M322 L323 h14 => (kqL3 (fun F324 => (kqL3 (fun F325 => (kqG3 (ZT2_m h14 (by first | trivial | omega)) (fun M326 h17 => (kqH3 (ZT2_l h17 (by first | trivial | omega)) (fun L327 h18 => (kqJ33 (q_DX16_init hfu (by omega) h18) (fun F328 M329 L330 h19 => (kqL3 (fun F331 => (kqL3 (fun F332 => (kqG3 (ZT2_m h19 (by first | trivial | omega)) (fun M333 h22 => (kqH3 (ZT2_l h22 (by first | trivial | omega)) (fun L334 h23 => (kqJ33 (q_DX13_init hfu (by omega) h23) (fun F335 M336 L337 h24 => (kqL3 (fun F338 => (kqL3 (fun F339 => (kqG3 (ZT2_m h24 (by first | trivial | omega)) (fun M340 h27 => (kqH3 (ZT2_l h27 (by first | trivial | omega)) (fun L341 h28 => (kqJ33 (q_DX16_init hfu (by omega) h28) (fun F342 M343 L344 h29 => (kqL3 (fun F345 => (kqL3 (fun F346 => (kqG3 (ZT2_m h29 (by first | trivial | omega)) (fun M347 h32 => (kqH3 (ZT2_l h32 (by first | trivial | omega)) (fun L348 h33 => (kqJ33 (q_DX13_init hfu (by omega) h33) (fun F349 M350 L351 h34 => (kqL3 (fun F352 => (kqJ23 (t_tail19 hfu h34) (fun M353 L354 h36 => (kqS3 h36)))))))))))))))))))))))))))))))))))))))))))))))))))))))))))))))))))))))))
set_option maxRecDepth 100000 in
set_option maxHeartbeats 4000000 in
theorem q_DX19_s6 {fu : Nat} {M0 : mwM} {L0 : mwL} {F240 : mwF} {M238 : mwM} {L239 : mwL} (hfu : 300 ≤ fu) (h : ZT2 M0 L0 M238 L239) : kq3 (FN M0 L0) (DX19_s6 fu F240 M238 L239) := by
  unfold DX19_s6
  exact (kqL3 (fun F241 => (kqG3 (ZT2_m h (by first | trivial | omega)) (fun M242 h2 => (kqH3 (ZT2_l h2 (by first | trivial | omega)) (fun L243 h3 => (kqJ33 (q_DX16_init hfu (by omega) h3) (fun F244 M245 L246 h4 => (kqL3 (fun F247 => (kqL3 (fun F248 => (kqG3 (ZT2_m h4 (by first | trivial | omega)) (fun M249 h7 => (kqH3 (ZT2_l h7 (by first | trivial | omega)) (fun L250 h8 => (kqJ33 (q_DX13_init hfu (by omega) h8) (fun F251 M252 L253 h9 => (kqL3 (fun F254 => (kqL3 (fun F255 => (kqG3 (ZT2_m h9 (by first | trivial | omega)) (fun M256 h12 => (kqH3 (ZT2_l h12 (by first | trivial | omega)) (fun L257 h13 => (kqJ33 (q_DX16_init hfu (by omega) h13) (fun F258 M259 L260 h14 => (kqL3 (fun F261 => (kqL3 (fun F262 => (kqG3 (ZT2_m h14 (by first | trivial | omega)) (fun M263 h17 => (kqH3 (ZT2_l h17 (by first | trivial | omega)) (fun L264 h18 => (kqJ33 (q_DX13_init hfu (by omega) h18) (fun F265 M266 L267 h19 => (kqL3 (fun F268 => (kqL3 (fun F269 => (kqG3 (ZT2_m h19 (by first | trivial | omega)) (fun M270 h22 => (kqH3 (ZT2_l h22 (by first | trivial | omega)) (fun L271 h23 => (kqJ33 (q_DX16_init hfu (by omega) h23) (fun F272 M273 L274 h24 => (kqL3 (fun F275 => (kqL3 (fun F276 => (kqG3 (ZT2_m h24 (by first | trivial | omega)) (fun M277 h27 => (kqH3 (ZT2_l h27 (by first | trivial | omega)) (fun L278 h28 => (kqJ33 (q_DX13_init hfu (by omega) h28) (fun F279 M280 L281 h29 => (kqL3 (fun F282 => (kqL3 (fun F283 => (kqG3 (ZT2_m h29 (by first | trivial | omega)) (fun M284 h32 => (kqH3 (ZT2_l h32 (by first | trivial | omega)) (fun L285 h33 => (kqJ33 (q_DX16_init hfu (by omega) h33) (fun F286 M287 L288 h34 => (kqL3 (fun F289 => (kqL3 (fun F290 => (kqG3 (ZT2_m h34 (by first | trivial | omega)) (fun M291 h37 => (kqH3 (ZT2_l h37 (by first | trivial | omega)) (fun L292 h38 => (kqJ33 (q_DX13_init hfu (by omega) h38) (fun F293 M294 L295 h39 => (kqL3 (fun F296 => (kqL3 (fun F297 => (kqG3 (ZT2_m h39 (by first | trivial | omega)) (fun M298 h42 => (kqH3 (ZT2_l h42 (by first | trivial | omega)) (fun L299 h43 => (kqJ33 (q_DX16_init hfu (by omega) h43) (fun F300 M301 L302 h44 => (kqL3 (fun F303 => (q_DX19_s7 hfu h44)))))))))))))))))))))))))))))))))))))))))))))))))))))))))))))))))))))))))))))))))))))))))))
set_option maxRecDepth 100000 in
set_option maxHeartbeats 4000000 in
theorem q_DX19_s5 {fu : Nat} {M0 : mwM} {L0 : mwL} {F180 : mwF} {M179 : mwM} {L152 : mwL} (hfu : 300 ≤ fu) (h : ZT2 M0 L0 M179 L152) : kq3 (FN M0 L0) (DX19_s5 fu F180 M179 L152) := by
  unfold DX19_s5
  exact (kqG3 (ZT2_m h (by first | trivial | omega)) (fun M181 h1 => (kqL3 (fun F182 => (kqG3 (ZT2_m h1 (by first | trivial | omega)) (fun M183 h3 => (kqL3 (fun F184 => (kqL3 (fun F185 => (kqG3 (ZT2_m h3 (by first | trivial | omega)) (fun M186 h6 => (kqH3 (ZT2_l h6 (by first | trivial | omega)) (fun L187 h7 => (kqJ33 (q_DX16_init hfu (by omega) h7) (fun F188 M189 L190 h8 => (kqL3 (fun F191 => (kqL3 (fun F192 => (kqG3 (ZT2_m h8 (by first | trivial | omega)) (fun M193 h11 => (kqH3 (ZT2_l h11 (by first | trivial | omega)) (fun L194 h12 => (kqJ33 (q_DX13_init hfu (by omega) h12) (fun F195 M196 L197 h13 => (kqL3 (fun F198 => (kqL3 (fun F199 => (kqG3 (ZT2_m h13 (by first | trivial | omega)) (fun M200 h16 => (kqH3 (ZT2_l h16 (by first | trivial | omega)) (fun L201 h17 => (kqJ33 (q_DX16_init hfu (by omega) h17) (fun F202 M203 L204 h18 => (kqL3 (fun F205 => (kqL3 (fun F206 => (kqG3 (ZT2_m h18 (by first | trivial | omega)) (fun M207 h21 => (kqH3 (ZT2_l h21 (by first | trivial | omega)) (fun L208 h22 => (kqJ33 (q_DX13_init hfu (by omega) h22) (fun F209 M210 L211 h23 => (kqL3 (fun F212 => (kqL3 (fun F213 => (kqG3 (ZT2_m h23 (by first | trivial | omega)) (fun M214 h26 => (kqH3 (ZT2_l h26 (by first | trivial | omega)) (fun L215 h27 => (kqJ33 (q_DX16_init hfu (by omega) h27) (fun F216 M217 L218 h28 => (kqL3 (fun F219 => (kqL3 (fun F220 => (kqG3 (ZT2_m h28 (by first | trivial | omega)) (fun M221 h31 => (kqH3 (ZT2_l h31 (by first | trivial | omega)) (fun L222 h32 => (kqJ33 (q_DX13_init hfu (by omega) h32) (fun F223 M224 L225 h33 => (kqL3 (fun F226 => (kqL3 (fun F227 => (kqG3 (ZT2_m h33 (by first | trivial | omega)) (fun M228 h36 => (kqH3 (ZT2_l h36 (by first | trivial | omega)) (fun L229 h37 => (kqJ33 (q_DX16_init hfu (by omega) h37) (fun F230 M231 L232 h38 => (kqL3 (fun F233 => (kqL3 (fun F234 => (kqG3 (ZT2_m h38 (by first | trivial | omega)) (fun M235 h41 => (kqH3 (ZT2_l h41 (by first | trivial | omega)) (fun L236 h42 => (kqJ33 (q_DX13_init hfu (by omega) h42) (fun F237 M238 L239 h43 => (kqL3 (fun F240 => (q_DX19_s6 hfu h43)))))))))))))))))))))))))))))))))))))))))))))))))))))))))))))))))))))))))))))))))))))))))
set_option maxRecDepth 100000 in
set_option maxHeartbeats 4000000 in
theorem q_DX19_s4 {fu : Nat} {M0 : mwM} {L0 : mwL} {F136 : mwF} {M134 : mwM} {L135 : mwL} (hfu : 300 ≤ fu) (h : ZT2 M0 L0 M134 L135) : kq3 (FN M0 L0) (DX19_s4 fu F136 M134 L135) := by
  unfold DX19_s4
  exact (kqL3 (fun F137 => (kqG3 (ZT2_m h (by first | trivial | omega)) (fun M138 h2 => (kqH3 (ZT2_l h2 (by first | trivial | omega)) (fun L139 h3 => (kqJ33 (q_DX18_init hfu h3) (fun F140 M141 L142 h4 => (kqL3 (fun F143 => (kqL3 (fun F144 => (kqL3 (fun F145 => (kqL3 (fun F146 => (kqL3 (fun F147 => (kqG3 (ZT2_m h4 (by first | trivial | omega)) (fun M148 h10 => (kqL3 (fun F149 => (kqG3 (ZT2_m h10 (by first | trivial | omega)) (fun M150 h12 => (kqL3 (fun F151 => (kqH3 (ZT2_l h12 (by first | trivial | omega)) (fun L152 h14 => (kqL3 (fun F153 => (kqG3 (ZT2_m h14 (by first | trivial | omega)) (fun M154 h16 => (kqL3 (fun F155 => (kqG3 (ZT2_m h16 (by first | trivial | omega)) (fun M156 h18 => (kqL3 (fun F157 => (kqG3 (ZT2_m h18 (by first | trivial | omega)) (fun M158 h20 => (kqL3 (fun F159 => (kqG3 (ZT2_m h20 (by first | trivial | omega)) (fun M160 h22 => (kqL3 (fun F161 => (kqG3 (ZT2_m h22 (by first | trivial | omega)) (fun M162 h24 => (kqL3 (fun F163 => (kqG3 (ZT2_s h24 (by first | trivial | omega)) (fun M164 h26 => (kqG3 (ZT2_m h26 (by first | trivial | omega)) (fun M165 h27 => (kqL3 (fun F166 => (kqG3 (ZT2_m h27 (by first | trivial | omega)) (fun M167 h29 => (kqL3 (fun F168 => (kqG3 (ZT2_m h29 (by first | trivial | omega)) (fun M169 h31 => (kqL3 (fun F170 => (kqG3 (ZT2_m h31 (by first | trivial | omega)) (fun M171 h33 => (kqL3 (fun F172 => (kqG3 (ZT2_m h33 (by first | trivial | omega)) (fun M173 h35 => (kqL3 (fun F174 => (kqG3 (ZT2_m h35 (by first | trivial | omega)) (fun M175 h37 => (kqL3 (fun F176 => (kqG3 (ZT2_m h37 (by first | trivial | omega)) (fun M177 h39 => (kqL3 (fun F178 => (kqG3 (ZT2_m h39 (by first | trivial | omega)) (fun M179 h41 => (kqL3 (fun F180 => (q_DX19_s5 hfu h41)))))))))))))))))))))))))))))))))))))))))))))))))))))))))))))))))))))))))))))))))))))
set_option maxRecDepth 100000 in
set_option maxHeartbeats 4000000 in
theorem q_DX19_s3 {fu : Nat} {M0 : mwM} {L0 : mwL} {F82 : mwF} {M81 : mwM} {L : mwL} (hfu : 300 ≤ fu) (h : Z2 M0 L0 M81 L) : kq3 (FN M0 L0) (DX19_s3 fu F82 M81 L) := by
  unfold DX19_s3
  exact (kqH3 (Z2_l h (by first | trivial | omega)) (fun L83 h1 => (kqL3 (fun F84 => (kqG3 (Z2_m h1 (by first | trivial | omega)) (fun M85 h3 => (kqL3 (fun F86 => (kqG3 (Z2_m h3 (by first | trivial | omega)) (fun M87 h5 => (kqL3 (fun F88 => (kqG3 (Z2_m h5 (by first | trivial | omega)) (fun M89 h7 => (kqL3 (fun F90 => (kqH3 (Z2_l h7 (by first | trivial | omega)) (fun L91 h9 => (kqL3 (fun F92 => (kqG3 (Z2_m h9 (by first | trivial | omega)) (fun M93 h11 => (kqL3 (fun F94 => (kqG3 (Z2_m h11 (by first | trivial | omega)) (fun M95 h13 => (kqL3 (fun F96 => (kqG3 (Z2_m h13 (by first | trivial | omega)) (fun M97 h15 => (kqL3 (fun F98 => (kqG3 (Z2_m h15 (by first | trivial | omega)) (fun M99 h17 => (kqL3 (fun F100 => (kqG3 (Z2_m h17 (by first | trivial | omega)) (fun M101 h19 => (kqL3 (fun F102 => (kqG3 (Z2_m h19 (by first | trivial | omega)) (fun M103 h21 => (kqL3 (fun F104 => (kqG3 (Z2_m h21 (by first | trivial | omega)) (fun M105 h23 => (kqL3 (fun F106 => (kqH3 (Z2_l h23 (by first | trivial | omega)) (fun L107 h25 => (kqL3 (fun F108 => (kqL3 (fun F109 => (kqG3 (Z2_m h25 (by first | trivial | omega)) (fun M110 h28 => (kqH3 (Z2_l h28 (by first | trivial | omega)) (fun L111 h29 => (kqJ33 (q_DX15_init hfu h29) (fun F112 M113 L114 h30 => (kqL3 (fun F115 => (kqL3 (fun F116 => (kqG3 (Z2_m h30 (by first | trivial | omega)) (fun M117 h33 => (kqH3 (Z2_l h33 (by first | trivial | omega)) (fun L118 h34 => (kqJ33 (q_DX12_init hfu h34) (fun F119 M120 L121 h35 => (kqL3 (fun F122 => (kqL3 (fun F123 => (kqG3 (Z2_m h35 (by first | trivial | omega)) (fun M124 h38 => (kqH3 (Z2_l h38 (by first | trivial | omega)) (fun L125 h39 => (kqJ33 (q_DX14_init hfu h39) (fun F126 M127 L128 h40 => (kqL3 (fun F129 => (kqL3 (fun F130 => (kqG3 (ZT2_m h40 (by first | trivial | omega)) (fun M131 h43 => (kqH3 (ZT2_l h43 (by first | trivial | omega)) (fun L132 h44 => (kqJ33 (q_DX17_init hfu h44) (fun F133 M134 L135 h45 => (kqL3 (fun F136 => (q_DX19_s4 hfu h45)))))))))))))))))))))))))))))))))))))))))))))))))))))))))))))))))))))))))))))))))))))))))))))
set_option maxRecDepth 100000 in
set_option maxHeartbeats 4000000 in
theorem q_DX19_s2 {fu : Nat} {M0 : mwM} {L0 : mwL} {F40 : mwF} {M39 : mwM} {L : mwL} (hfu : 300 ≤ fu) (h : Z2 M0 L0 M39 L) : kq3 (FN M0 L0) (DX19_s2 fu F40 M39 L) := by
  unfold DX19_s2
  exact (kqG3 (Z2_m h (by first | trivial | omega)) (fun M41 h1 => (kqL3 (fun F42 => (kqG3 (Z2_m h1 (by first | trivial | omega)) (fun M43 h3 => (kqL3 (fun F44 => (kqG3 (Z2_m h3 (by first | trivial | omega)) (fun M45 h5 => (kqL3 (fun F46 => (kqG3 (Z2_m h5 (by first | trivial | omega)) (fun M47 h7 => (kqL3 (fun F48 => (kqG3 (Z2_m h7 (by first | trivial | omega)) (fun M49 h9 => (kqL3 (fun F50 => (kqG3 (Z2_m h9 (by first | trivial | omega)) (fun M51 h11 => (kqL3 (fun F52 => (kqG3 (Z2_m h11 (by first | trivial | omega)) (fun M53 h13 => (kqL3 (fun F54 => (kqG3 (Z2_m h13 (by first | trivial | omega)) (fun M55 h15 => (kqL3 (fun F56 => (kqG3 (Z2_m h15 (by first | trivial | omega)) (fun M57 h17 => (kqL3 (fun F58 => (kqG3 (Z2_m h17 (by first | trivial | omega)) (fun M59 h19 => (kqL3 (fun F60 => (kqG3 (Z2_m h19 (by first | trivial | omega)) (fun M61 h21 => (kqL3 (fun F62 => (kqG3 (Z2_m h21 (by first | trivial | omega)) (fun M63 h23 => (kqL3 (fun F64 => (kqG3 (Z2_m h23 (by first | trivial | omega)) (fun M65 h25 => (kqL3 (fun F66 => (kqG3 (Z2_m h25 (by first | trivial | omega)) (fun M67 h27 => (kqL3 (fun F68 => (kqG3 (Z2_m h27 (by first | trivial | omega)) (fun M69 h29 => (kqL3 (fun F70 => (kqG3 (Z2_m h29 (by first | trivial | omega)) (fun M71 h31 => (kqL3 (fun F72 => (kqG3 (Z2_m h31 (by first | trivial | omega)) (fun M73 h33 => (kqL3 (fun F74 => (kqG3 (Z2_m h33 (by first | trivial | omega)) (fun M75 h35 => (kqL3 (fun F76 => (kqG3 (Z2_m h35 (by first | trivial | omega)) (fun M77 h37 => (kqL3 (fun F78 => (kqG3 (Z2_m h37 (by first | trivial | omega)) (fun M79 h39 => (kqL3 (fun F80 => (kqG3 (Z2_m h39 (by first | trivial | omega)) (fun M81 h41 => (kqL3 (fun F82 => (q_DX19_s3 hfu h41)))))))))))))))))))))))))))))))))))))))))))))))))))))))))))))))))))))))))))))))))))))
set_option maxRecDepth 100000 in
set_option maxHeartbeats 4000000 in
theorem q_DX19_init {fu : Nat} {M0 : mwM} {L0 : mwL} {F : mwF} {M : mwM} {L : mwL} (hfu : 300 ≤ fu) (h : Z2 M0 L0 M L) : kq3 (FN M0 L0) (DX19_init fu F M L) := by
  unfold DX19_init
  exact (kqG3 (Z2_m h (by first | trivial | omega)) (fun M1 h1 => (kqL3 (fun F2 => (kqG3 (Z2_m h1 (by first | trivial | omega)) (fun M3 h3 => (kqL3 (fun F4 => (kqG3 (Z2_m h3 (by first | trivial | omega)) (fun M5 h5 => (kqL3 (fun F6 => (kqG3 (Z2_m h5 (by first | trivial | omega)) (fun M7 h7 => (kqL3 (fun F8 => (kqG3 (Z2_m h7 (by first | trivial | omega)) (fun M9 h9 => (kqL3 (fun F10 => (kqG3 (Z2_m h9 (by first | trivial | omega)) (fun M11 h11 => (kqL3 (fun F12 => (kqG3 (Z2_m h11 (by first | trivial | omega)) (fun M13 h13 => (kqL3 (fun F14 => (kqG3 (Z2_m h13 (by first | trivial | omega)) (fun M15 h15 => (kqL3 (fun F16 => (kqG3 (Z2_m h15 (by first | trivial | omega)) (fun M17 h17 => (kqL3 (fun F18 => (kqG3 (Z2_m h17 (by first | trivial | omega)) (fun M19 h19 => (kqL3 (fun F20 => (kqG3 (Z2_m h19 (by first | trivial | omega)) (fun M21 h21 => (kqL3 (fun F22 => (kqG3 (Z2_m h21 (by first | trivial | omega)) (fun M23 h23 => (kqL3 (fun F24 => (kqG3 (Z2_m h23 (by first | trivial | omega)) (fun M25 h25 => (kqL3 (fun F26 => (kqG3 (Z2_m h25 (by first | trivial | omega)) (fun M27 h27 => (kqL3 (fun F28 => (kqG3 (Z2_m h27 (by first | trivial | omega)) (fun M29 h29 => (kqL3 (fun F30 => (kqG3 (Z2_m h29 (by first | trivial | omega)) (fun M31 h31 => (kqL3 (fun F32 => (kqG3 (Z2_m h31 (by first | trivial | omega)) (fun M33 h33 => (kqL3 (fun F34 => (kqG3 (Z2_m h33 (by first | trivial | omega)) (fun M35 h35 => (kqL3 (fun F36 => (kqG3 (Z2_m h35 (by first | trivial | omega)) (fun M37 h37 => (kqL3 (fun F38 => (kqG3 (Z2_m h37 (by first | trivial | omega)) (fun M39 h39 => (kqL3 (fun F40 => (q_DX19_s2 hfu h39)))))))))))))))))))))))))))))))))))))))))))))))))))))))))))))))))))))))))))))))))
/-! THE START -/
theorem start_ok {M : mwM} {L : mwL} {F1 : mwF} {M1 : mwM} {L1 : mwL} {F2 : mwF} {L2 : mwL} (e1 : DX11_init 300 (mz none (fun _ _ => none) 0) (mz 0 (fun _ _ => 0) 0) (mz 0 (fun _ _ => 0) 0) = some (F1, M1, L1)) (e2 : DX19_init 300 (mz none F1 732) (mz 0 M1 732) (mz 0 L1 732) = some (F2, M, L2)) (e3 : L = mz 0 L2 1577) : JJ SbN M L := by
  have z0 : Z1 (mz 0 (fun _ _ => 0) 0) (mz 0 (fun _ _ => 0) 0) := ⟨fun a y _ _ => by rw [mz_e]; by_cases q : a = 0 <;> simp [q], fun a y => by rw [mz_e]; by_cases q : a = 0 <;> simp [q]⟩
  have h1 : ZT1 M1 L1 := q_DX11_init (by omega) z0 _ e1
  obtain ⟨⟨a1, a2⟩, a3, a4⟩ := h1
  have z1 : Z2 M1 L1 (mz 0 M1 732) (mz 0 L1 732) := ⟨fun a y ha => by rw [mz_e, if_neg (by omega)], fun a y u1 u2 u3 u4 u5 => by
    rw [mz_e]
    by_cases q : a = 732
    · rw [if_pos q]
    · rw [if_neg q]; exact a1 a y (by omega) (by omega), fun a y ha => by rw [mz_e, if_neg (by omega)], fun a y ha => by
    rw [mz_e]
    by_cases q : a = 732
    · rw [if_pos q]
    · rw [if_neg q]; exact a2 a y⟩
  have h2 : FN M1 L1 M L2 := q_DX19_init (by omega) z1 _ e2
  obtain ⟨b1, b2, b3, b4, b5, b6, b7⟩ := h2
  have c0 : ∀ a y, a < 732 → a ≠ 98 → a ≠ 99 → M a y = 0 := fun a y u1 u2 u3 => by rw [b1 a y u1]; exact a1 a y u2 u3
  have r0 : ∀ a y, (a = 732 ∧ y ≠ 97) ∨ (733 ≤ a ∧ a ≤ 820) ∨ (a = 854 ∧ 2 ≤ y) ∨ (870 ≤ a ∧ a < 1577) → M a y = 0 := fun a y u => b2 a y (by omega) (by omega) (by omega) (by omega) (by omega) (by omega) (by omega) (by omega)
  have lz : ∀ a y, L a y = 0 := fun a y => by
    rw [e3, mz_e]
    by_cases q : a = 1577
    · rw [if_pos q]
    · rw [if_neg q]
      by_cases q2 : a < 732
      · rw [b3 a y q2]; exact a2 a y
      · exact b4 a y (by omega)
  refine ⟨⟨⟨0, by omega, c0 _ _ (by omega) (by omega) (by omega), r0 _ _ (by omega)⟩, ⟨0, fun _ => 0, ⟨c0 _ _ (by omega) (by omega) (by omega), by omega, fun j hj => by omega⟩, ⟨r0 _ _ (by omega), by omega, fun j hj => by omega⟩⟩, ⟨⟨fun i hi => by rw [b1 _ _ (by omega)]; exact a3 i hi, fun i hi => by rw [b1 _ _ (by omega)]; exact a4 i hi, b5, b6, r0 _ _ (by omega), b7, fun key hk => Or.inl (c0 _ _ (by omega) (by omega) (by omega))⟩, fun n hn => ⟨fun _ => 0, fun i hi => ⟨c0 _ _ (by omega) (by omega) (by omega), by show 0 < 256; omega⟩⟩, r0 _ _ (by omega), fun x hx => ⟨r0 _ _ (by omega), r0 _ _ (by omega), r0 _ _ (by omega), fun y hy => by rw [lz, lz]⟩, fun q hq y hy => r0 _ _ (by omega)⟩, by rw [c0 _ _ (by omega) (by omega) (by omega), r0 _ _ (by omega)], Or.inl ⟨c0 _ _ (by omega) (by omega) (by omega), r0 _ _ (by omega)⟩⟩, ⟨0, fun _ => 0, by omega, c0 _ _ (by omega) (by omega) (by omega), r0 _ _ (by omega), fun j hj => by omega⟩, H54_n (r0 _ _ (by omega))⟩
