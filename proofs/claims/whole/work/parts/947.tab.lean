/-! THE TABLES OF THE CODES (printed by mk_tab.py) -/
def tPW : List Nat := [1, 3, 5, 15, 17, 51, 85, 255, 26, 46, 114, 150, 161, 248, 19, 53, 95, 225, 56, 72, 216, 115, 149, 164, 247, 2, 6, 10, 30, 34, 102, 170, 229, 52, 92, 228, 55, 89, 235, 38, 106, 190, 217, 112, 144, 171, 230, 49, 83, 245, 4, 12, 20, 60, 68, 204, 79, 209, 104, 184, 211, 110, 178, 205, 76, 212, 103, 169, 224, 59, 77, 215, 98, 166, 241, 8, 24, 40, 120, 136, 131, 158, 185, 208, 107, 189, 220, 127, 129, 152, 179, 206, 73, 219, 118, 154, 181, 196, 87, 249, 16, 48, 80, 240, 11, 29, 39, 105, 187, 214, 97, 163, 254, 25, 43, 125, 135, 146, 173, 236, 47, 113, 147, 174, 233, 32, 96, 160, 251, 22, 58, 78, 210, 109, 183, 194, 93, 231, 50, 86, 250, 21, 63, 65, 195, 94, 226, 61, 71, 201, 64, 192, 91, 237, 44, 116, 156, 191, 218, 117, 159, 186, 213, 100, 172, 239, 42, 126, 130, 157, 188, 223, 122, 142, 137, 128, 155, 182, 193, 88, 232, 35, 101, 175, 234, 37, 111, 177, 200, 67, 197, 84, 252, 31, 33, 99, 165, 244, 7, 9, 27, 45, 119, 153, 176, 203, 70, 202, 69, 207, 74, 222, 121, 139, 134, 145, 168, 227, 62, 66, 198, 81, 243, 14, 18, 54, 90, 238, 41, 123, 141, 140, 143, 138, 133, 148, 167, 242, 13, 23, 57, 75, 221, 124, 132, 151, 162, 253, 28, 36, 108, 180, 199, 82, 246, 1]
def tIV : List Nat := [1, 246, 82, 199, 180, 108, 36, 28, 253, 162, 151, 132, 124, 221, 75, 57, 23, 13, 242, 167, 148, 133, 138, 143, 140, 141, 123, 41, 238, 90, 54, 18, 14, 243, 81, 198, 66, 62, 227, 168, 145, 134, 139, 121, 222, 74, 207, 69, 202, 70, 203, 176, 153, 119, 45, 27, 9, 7, 244, 165, 99, 33, 31, 252, 84, 197, 67, 200, 177, 111, 37, 234, 175, 101, 35, 232, 88, 193, 182, 155, 128, 137, 142, 122, 223, 188, 157, 130, 126, 42, 239, 172, 100, 213, 186, 159, 117, 218, 191, 156, 116, 44, 237, 91, 192, 64, 201, 71, 61, 226, 94, 195, 65, 63, 21, 250, 86, 50, 231, 93, 194, 183, 109, 210, 78, 58, 22, 251, 160, 96, 32, 233, 174, 147, 113, 47, 236, 173, 146, 135, 125, 43, 25, 254, 163, 97, 214, 187, 105, 39, 29, 11, 240, 80, 48, 16, 249, 87, 196, 181, 154, 118, 219, 73, 206, 179, 152, 129, 127, 220, 189, 107, 208, 185, 158, 131, 136, 120, 40, 24, 8, 241, 166, 98, 215, 77, 59, 224, 169, 103, 212, 76, 205, 178, 110, 211, 184, 104, 209, 79, 204, 68, 60, 20, 12, 4, 245, 83, 49, 230, 171, 144, 112, 217, 190, 106, 38, 235, 89, 55, 228, 92, 52, 229, 170, 102, 34, 30, 10, 6, 2, 247, 164, 149, 115, 216, 72, 56, 225, 95, 53, 19, 248, 161, 150, 114, 46, 26, 255, 85, 51, 17, 15, 5, 3, 1]
def tLG : List Nat := [0, 0, 25, 1, 50, 2, 26, 198, 75, 199, 27, 104, 51, 238, 223, 3, 100, 4, 224, 14, 52, 141, 129, 239, 76, 113, 8, 200, 248, 105, 28, 193, 125, 194, 29, 181, 249, 185, 39, 106, 77, 228, 166, 114, 154, 201, 9, 120, 101, 47, 138, 5, 33, 15, 225, 36, 18, 240, 130, 69, 53, 147, 218, 142, 150, 143, 219, 189, 54, 208, 206, 148, 19, 92, 210, 241, 64, 70, 131, 56, 102, 221, 253, 48, 191, 6, 139, 98, 179, 37, 226, 152, 34, 136, 145, 16, 126, 110, 72, 195, 163, 182, 30, 66, 58, 107, 40, 84, 250, 133, 61, 186, 43, 121, 10, 21, 155, 159, 94, 202, 78, 212, 172, 229, 243, 115, 167, 87, 175, 88, 168, 80, 244, 234, 214, 116, 79, 174, 233, 213, 231, 230, 173, 232, 44, 215, 117, 122, 235, 22, 11, 245, 89, 203, 95, 176, 156, 169, 81, 160, 127, 12, 246, 111, 23, 196, 73, 236, 216, 67, 31, 45, 164, 118, 123, 183, 204, 187, 62, 90, 251, 96, 177, 134, 59, 82, 161, 108, 170, 85, 41, 157, 151, 178, 135, 144, 97, 190, 220, 252, 188, 149, 207, 205, 55, 63, 91, 209, 83, 57, 132, 60, 65, 162, 109, 71, 20, 42, 158, 93, 86, 242, 211, 171, 68, 17, 146, 217, 35, 32, 46, 137, 180, 124, 184, 38, 119, 153, 227, 165, 103, 74, 237, 222, 197, 49, 254, 24, 13, 99, 140, 128, 192, 247, 112, 7]
def tNV : List Nat := [0, 1, 141, 246, 203, 82, 123, 209, 232, 79, 41, 192, 176, 225, 229, 199, 116, 180, 170, 75, 153, 43, 96, 95, 88, 63, 253, 204, 255, 64, 238, 178, 58, 110, 90, 241, 85, 77, 168, 201, 193, 10, 152, 21, 48, 68, 162, 194, 44, 69, 146, 108, 243, 57, 102, 66, 242, 53, 32, 111, 119, 187, 89, 25, 29, 254, 55, 103, 45, 49, 245, 105, 167, 100, 171, 19, 84, 37, 233, 9, 237, 92, 5, 202, 76, 36, 135, 191, 24, 62, 34, 240, 81, 236, 97, 23, 22, 94, 175, 211, 73, 166, 54, 67, 244, 71, 145, 223, 51, 147, 33, 59, 121, 183, 151, 133, 16, 181, 186, 60, 182, 112, 208, 6, 161, 250, 129, 130, 131, 126, 127, 128, 150, 115, 190, 86, 155, 158, 149, 217, 247, 2, 185, 164, 222, 106, 50, 109, 216, 138, 132, 114, 42, 20, 159, 136, 249, 220, 137, 154, 251, 124, 46, 195, 143, 184, 101, 72, 38, 200, 18, 74, 206, 231, 210, 98, 12, 224, 31, 239, 17, 117, 120, 113, 165, 142, 118, 61, 189, 188, 134, 87, 11, 40, 47, 163, 218, 212, 228, 15, 169, 39, 83, 4, 27, 252, 172, 230, 122, 7, 174, 99, 197, 219, 226, 234, 148, 139, 196, 213, 157, 248, 144, 107, 177, 13, 214, 235, 198, 14, 207, 173, 8, 78, 215, 227, 93, 80, 30, 179, 91, 35, 56, 52, 104, 70, 3, 140, 221, 156, 125, 160, 205, 26, 65, 28]
def tSB : List Nat := [99, 124, 119, 123, 242, 107, 111, 197, 48, 1, 103, 43, 254, 215, 171, 118, 202, 130, 201, 125, 250, 89, 71, 240, 173, 212, 162, 175, 156, 164, 114, 192, 183, 253, 147, 38, 54, 63, 247, 204, 52, 165, 229, 241, 113, 216, 49, 21, 4, 199, 35, 195, 24, 150, 5, 154, 7, 18, 128, 226, 235, 39, 178, 117, 9, 131, 44, 26, 27, 110, 90, 160, 82, 59, 214, 179, 41, 227, 47, 132, 83, 209, 0, 237, 32, 252, 177, 91, 106, 203, 190, 57, 74, 76, 88, 207, 208, 239, 170, 251, 67, 77, 51, 133, 69, 249, 2, 127, 80, 60, 159, 168, 81, 163, 64, 143, 146, 157, 56, 245, 188, 182, 218, 33, 16, 255, 243, 210, 205, 12, 19, 236, 95, 151, 68, 23, 196, 167, 126, 61, 100, 93, 25, 115, 96, 129, 79, 220, 34, 42, 144, 136, 70, 238, 184, 20, 222, 94, 11, 219, 224, 50, 58, 10, 73, 6, 36, 92, 194, 211, 172, 98, 145, 149, 228, 121, 231, 200, 55, 109, 141, 213, 78, 169, 108, 86, 244, 234, 101, 122, 174, 8, 186, 120, 37, 46, 28, 166, 180, 198, 232, 221, 116, 31, 75, 189, 139, 138, 112, 62, 181, 102, 72, 3, 246, 14, 97, 53, 87, 185, 134, 193, 29, 158, 225, 248, 152, 17, 105, 217, 142, 148, 155, 30, 135, 233, 206, 85, 40, 223, 140, 161, 137, 13, 191, 230, 66, 104, 65, 153, 45, 15, 176, 84, 187, 22]
def SbN (i : Nat) : Nat := tSB.getD i 0
theorem SbN_lt : ∀ i, i < 256 → SbN i < 256 := by decide +kernel
def mixI (a1 : Int32) : Int32 := (((((a1 ^^^ (((a1 <<< (8 &&& 31)) ||| a1) >>> (7 &&& 31))) ^^^ (((a1 <<< (8 &&& 31)) ||| a1) >>> (6 &&& 31))) ^^^ (((a1 <<< (8 &&& 31)) ||| a1) >>> (5 &&& 31))) ^^^ (((a1 <<< (8 &&& 31)) ||| a1) >>> (4 &&& 31))) ^^^ 99) &&& 255
theorem c_mix {fu : Nat} {a : Int32} {M : mwM} {L : mwL} : DX3_mixBits fu a M L = some (mixI a, M, L) := rfl
def tiA (a1 : Int32) : Int32 := (a1 ^^^ (a1 <<< (1 &&& 31))) ^^^ ((a1 ^^^ (a1 <<< (1 &&& 31))) <<< (2 &&& 31))
def tiB (a1 : Int32) : Int32 := tiA a1 ^^^ (tiA a1 <<< (4 &&& 31))
def tiI (a1 : Int32) : Int32 := if (tiB a1 &&& 128) = 0 then (tiB a1 &&& 255) ^^^ 0 else (tiB a1 &&& 255) ^^^ 9
theorem c_ti {fu : Nat} {a : Int32} {M : mwM} {L : mwL} : DX3_timesInverseOfThree fu a M L = some (tiI a, M, L) := by
  unfold DX3_timesInverseOfThree fX3_timesInverseOfThree_b37 tiI
  show (if (tiB a &&& 128) = 0 then some ((tiB a &&& 255) ^^^ 0, M, L) else some ((tiB a &&& 255) ^^^ 9, M, L)) = _
  by_cases q : (tiB a &&& 128) = 0
  · rw [if_pos q, if_pos q]
  · rw [if_neg q, if_neg q]
theorem tab_pw : ∀ i, i < 255 → tPW.getD i 0 < 256 ∧ 0 < tPW.getD i 0 ∧ tPW.getD i 0 ^^^ dblN (tPW.getD i 0) = tPW.getD (i + 1) 0 ∧ tiI (sI (tIV.getD i 0)) = sI (tIV.getD (i + 1) 0) ∧ mixI (sI (tIV.getD i 0)) = sI (SbN (tPW.getD i 0)) := by decide +kernel
theorem tab_lg : ∀ a, a < 256 → 0 < a → tLG.getD a 0 < 255 ∧ tPW.getD (tLG.getD a 0) 0 = a := by decide +kernel
theorem tab_99 : ∀ v, v < 256 → ((sI v <<< (1 &&& 31)) &&& 255) ^^^ (if v < 128 then (0 : Int32) else 27) = sI (dblN v) := by decide +kernel
theorem c_127 {fu : Nat} {L : mwL} : ∀ (m i f : Nat) (M : mwM), i + m = 255 → m < f → (M 98 0 = sI (SbN 0) ∧ ∀ j, j < i → M 98 (tPW.getD j 0) = sI (SbN (tPW.getD j 0))) → bytes M 99 256 dblN → ∃ M', fX3_tail_h127 fu f (sI (tPW.getD i 0), sI (tIV.getD i 0), sI i, M, L) = some (M', L) ∧ (M' 98 0 = sI (SbN 0) ∧ ∀ j, j < 255 → M' 98 (tPW.getD j 0) = sI (SbN (tPW.getD j 0))) ∧ bytes M' 99 256 dblN ∧ ∀ a y, a ≠ 98 → M' a y = M a y := by
  intro m
  induction m with
  | zero =>
    intro i f M hi hf h1 h2
    obtain ⟨f, rfl⟩ : ∃ y, f = y + 1 := ⟨f - 1, by omega⟩
    have : i = 255 := by omega
    subst this
    refine ⟨M, ?_, h1, h2, fun _ _ _ => rfl⟩
    show fX3_tail_i127 fu (fX3_tail_h127 fu f) (sI (tPW.getD 255 0)) (sI (tIV.getD 255 0)) (sI 255) M L = _
    unfold fX3_tail_i127
    rw [if_pos (show (255 : Int32) ≤ sI 255 by decide)]
  | succ m ih =>
    intro i f M hi hf h1 h2
    obtain ⟨f, rfl⟩ : ∃ y, f = y + 1 := ⟨f - 1, by omega⟩
    obtain ⟨t1, t2, t3, t4, t5⟩ := tab_pw i (by omega)
    generalize hv : tPW.getD i 0 = v at t1 t2 t3 t4 t5
    obtain ⟨M', x1, x2, x3, x4⟩ := ih (i + 1) f (mset M 98 v (sI (SbN v))) (by omega) (by omega) ⟨by rw [mset_n (by omega)]; exact h1.1, fun j hj => by
      by_cases e : j = i
      · rw [e, hv, mset_s]
      · by_cases e2 : tPW.getD j 0 = v
        · rw [e2, mset_s]
        · rw [mset_n (by omega)]; exact h1.2 j (by omega)⟩ (fun k hk => by rw [mset_n (by omega)]; exact h2 k hk)
    refine ⟨M', ?_, x2, x3, fun a y u => by rw [x4 a y u, mset_n (by omega)]⟩
    rw [← x1]
    show fX3_tail_i127 fu (fX3_tail_h127 fu f) (sI v) (sI (tIV.getD i 0)) (sI i) M L = _
    unfold fX3_tail_i127
    rw [if_neg (show ¬ (255 : Int32) ≤ sI i by rw [show (255 : Int32) = sI 255 from rfl, sI_le (by omega) (by omega)]; omega), c_mix, mb3_s, t5, mck_s t1 (by omega), mlet_e, mck_s t1 (by omega), mlet_e, sI_nn (by omega), mset_n (by omega), (h2 v t1).1, sI_xor, t3, c_ti, mb3_s, t4, mlet_e, sI_1]
theorem c_85 {fu : Nat} {L : mwL} (hfu : 300 ≤ fu) : ∀ (m i f : Nat) (M : mwM), i + m = 256 → m < f → M 98 0 = sI (SbN 0) → (∀ j, j < i → M 99 j = sI (dblN j)) → ∃ M', fX3_tail_h85 fu f (1, 1, sI i, M, L) = some (M', L) ∧ bytes M' 98 256 SbN ∧ bytes M' 99 256 dblN ∧ ∀ a y, a ≠ 98 → a ≠ 99 → M' a y = M a y := by
  intro m
  induction m with
  | zero =>
    intro i f M hi hf h1 h2
    obtain ⟨f, rfl⟩ : ∃ y, f = y + 1 := ⟨f - 1, by omega⟩
    obtain ⟨M', x1, x2, x3, x4⟩ := c_127 (fu := fu) (L := L) 255 0 fu M (by omega) (by omega) ⟨h1, fun j hj => by omega⟩ (fun k hk => ⟨h2 k (by omega), dblN_lt k hk⟩)
    refine ⟨M', ?_, fun k hk => ⟨?_, SbN_lt k hk⟩, x3, fun a y u1 u2 => x4 a y u1⟩
    · show fX3_tail_i85 fu (fX3_tail_h85 fu f) 1 1 (sI i) M L = _
      unfold fX3_tail_i85
      rw [if_pos (show (256 : Int32) ≤ sI i by rw [show i = 256 by omega]; decide)]
      exact x1
    · by_cases z : k = 0
      · rw [z]; exact x2.1
      · obtain ⟨l1, l2⟩ := tab_lg k hk (by omega)
        have := x2.2 (tLG.getD k 0) l1
        rw [l2] at this
        exact this
  | succ m ih =>
    intro i f M hi hf h1 h2
    obtain ⟨f, rfl⟩ : ∃ y, f = y + 1 := ⟨f - 1, by omega⟩
    obtain ⟨M', x1, x2, x3, x4⟩ := ih (i + 1) f (mset M 99 i (sI (dblN i))) (by omega) (by omega) (by rw [mset_n (by omega)]; exact h1) (fun j hj => by
      by_cases e : j = i
      · rw [e, mset_s]
      · rw [mset_n (by omega)]; exact h2 j (by omega))
    refine ⟨M', ?_, x2, x3, fun a y u1 u2 => by rw [x4 a y u1 u2, mset_n (by omega)]⟩
    rw [← x1]
    show fX3_tail_i85 fu (fX3_tail_h85 fu f) 1 1 (sI i) M L = _
    unfold fX3_tail_i85 fX3_tail_b117
    have t := tab_99 i (by omega)
    rw [if_neg (show ¬ (256 : Int32) ≤ sI i by rw [show (256 : Int32) = sI 256 from rfl, sI_le (by omega) (by omega)]; omega), mck_s (by omega) (by omega), mck_s (by omega) (by omega), mlet_e, mlet_e, mlet_e, mlet_e, sI_nn (by omega), sI_1]
    by_cases q : i < 128
    · rw [if_pos q] at t
      rw [if_pos (show sI i < 128 by rw [show (128 : Int32) = sI 128 from rfl, sI_lt (by omega) (by omega)]; exact q), t]
    · rw [if_neg q] at t
      rw [if_neg (show ¬ sI i < 128 by rw [show (128 : Int32) = sI 128 from rfl, sI_lt (by omega) (by omega)]; exact q), t]
theorem c_tail3 {fu : Nat} {M : mwM} {L : mwL} (hfu : 300 ≤ fu) : ∃ M', DX3_tail fu M L = some (M', L) ∧ bytes M' 98 256 SbN ∧ bytes M' 99 256 dblN ∧ ∀ a y, a ≠ 98 → a ≠ 99 → M' a y = M a y := by
  obtain ⟨M', x1, x2, x3, x4⟩ := c_85 (fu := fu) (L := L) hfu 256 0 fu (mset M 98 0 (sI (SbN 0))) (by omega) (by omega) mset_s (fun j hj => by omega)
  refine ⟨M', ?_, x2, x3, fun a y u1 u2 => by rw [x4 a y u1 u2, mset_n (by omega)]⟩
  rw [← x1]
  rfl
/-! the reference's table -/
def pn8 (y : Nat) : Nat × Nat → Nat → Nat × Nat
  | s, 0 => s
  | s, n + 1 => pn8 y (if y / 2 ^ (7 - n) % 2 = 1 then s.1 ^^^ s.2 else s.1, dblN s.2) n
theorem pn_b : ∀ y, y < 256 → ∀ k, k < 8 → ((((sI y) >>> (sI k &&& 31)) &&& 1) = 1 ↔ y / 2 ^ k % 2 = 1) := by decide +kernel
theorem pn_d : ∀ v, v < 256 → (if sI v ≤ 127 then 2 * sI v else ((2 * sI v) - 256) ^^^ 27) = sI (dblN v) := by decide +kernel
theorem pr_pn {y : Nat} {b : Int32} (hy : y < 256) : ∀ (n u v : Nat), n ≤ 8 → v < 256 → (pr8 y b (sI u, sI v) n).1 = sI (pn8 y (u, v) n).1 := by
  intro n
  induction n with
  | zero => intro u v _ _; rfl
  | succ n ih =>
    intro u v hn hv
    show (pr8 y b (if (((sI y) >>> (sI (7 - n) &&& 31)) &&& 1) = 1 then sI u ^^^ sI v else sI u, if sI v ≤ 127 then 2 * sI v else ((2 * sI v) - 256) ^^^ 27) n).1 = sI (pn8 y (if y / 2 ^ (7 - n) % 2 = 1 then u ^^^ v else u, dblN v) n).1
    rw [pn_d v hv]
    have hb := pn_b y hy (7 - n) (by omega)
    by_cases q : y / 2 ^ (7 - n) % 2 = 1
    · rw [if_pos (hb.mpr q), if_pos q, sI_xor]
      exact ih _ _ (by omega) (dblN_lt v hv)
    · rw [if_neg (fun z => q (hb.mp z)), if_neg q]
      exact ih _ _ (by omega) (dblN_lt v hv)
theorem m_prodN {fu a y : Nat} {M : mwM} {L : mwL} (hf : 9 ≤ fu) (ha : a < 256) (hy : y < 256) : DX14_product fu (sI a) (sI y) M L = some (sI (pn8 y (0, a) 8).1, M, L) := by
  obtain ⟨z, h1, h2⟩ := m_product (fu := fu) (M := M) (L := L) (x := sI a) (y := y) hf
  have e := pr_pn (b := 0) hy 8 0 a (by omega) ha
  rw [show ((0 : Int32), sI a) = (sI 0, sI a) from rfl] at h2
  rw [e] at h2
  rw [← h2]
  exact h1
def nvB (a : Nat) : Bool := decide ((pn8 (tNV.getD a 0) (0, a) 8).1 = 1) && (List.range (tNV.getD a 0)).all (fun y => decide ((pn8 y (0, a) 8).1 ≠ 1))
theorem nv_0 : (List.range 16).all (fun j => decide (0 + j = 0) || nvB (0 + j)) = true := by decide +kernel
theorem nv_1 : (List.range 16).all (fun j => decide (16 + j = 0) || nvB (16 + j)) = true := by decide +kernel
theorem nv_2 : (List.range 16).all (fun j => decide (32 + j = 0) || nvB (32 + j)) = true := by decide +kernel
theorem nv_3 : (List.range 16).all (fun j => decide (48 + j = 0) || nvB (48 + j)) = true := by decide +kernel
theorem nv_4 : (List.range 16).all (fun j => decide (64 + j = 0) || nvB (64 + j)) = true := by decide +kernel
theorem nv_5 : (List.range 16).all (fun j => decide (80 + j = 0) || nvB (80 + j)) = true := by decide +kernel
theorem nv_6 : (List.range 16).all (fun j => decide (96 + j = 0) || nvB (96 + j)) = true := by decide +kernel
theorem nv_7 : (List.range 16).all (fun j => decide (112 + j = 0) || nvB (112 + j)) = true := by decide +kernel
theorem nv_8 : (List.range 16).all (fun j => decide (128 + j = 0) || nvB (128 + j)) = true := by decide +kernel
theorem nv_9 : (List.range 16).all (fun j => decide (144 + j = 0) || nvB (144 + j)) = true := by decide +kernel
theorem nv_10 : (List.range 16).all (fun j => decide (160 + j = 0) || nvB (160 + j)) = true := by decide +kernel
theorem nv_11 : (List.range 16).all (fun j => decide (176 + j = 0) || nvB (176 + j)) = true := by decide +kernel
theorem nv_12 : (List.range 16).all (fun j => decide (192 + j = 0) || nvB (192 + j)) = true := by decide +kernel
theorem nv_13 : (List.range 16).all (fun j => decide (208 + j = 0) || nvB (208 + j)) = true := by decide +kernel
theorem nv_14 : (List.range 16).all (fun j => decide (224 + j = 0) || nvB (224 + j)) = true := by decide +kernel
theorem nv_15 : (List.range 16).all (fun j => decide (240 + j = 0) || nvB (240 + j)) = true := by decide +kernel
theorem nv_all : ∀ a, a < 256 → 0 < a → nvB a = true := fun a ha h0 => by
  have key : ∀ b, b = a / 16 * 16 → (List.range 16).all (fun j => decide (b + j = 0) || nvB (b + j)) = true → nvB a = true := fun b hb h => by
    have h1 := List.all_eq_true.mp h (a % 16) (List.mem_range.mpr (by omega))
    rw [show b + a % 16 = a by omega, decide_eq_false (by omega), Bool.false_or] at h1
    exact h1
  have : a / 16 < 16 := by omega
  match h : a / 16 with
  | 0 => exact key 0 (by omega) nv_0
  | 1 => exact key 16 (by omega) nv_1
  | 2 => exact key 32 (by omega) nv_2
  | 3 => exact key 48 (by omega) nv_3
  | 4 => exact key 64 (by omega) nv_4
  | 5 => exact key 80 (by omega) nv_5
  | 6 => exact key 96 (by omega) nv_6
  | 7 => exact key 112 (by omega) nv_7
  | 8 => exact key 128 (by omega) nv_8
  | 9 => exact key 144 (by omega) nv_9
  | 10 => exact key 160 (by omega) nv_10
  | 11 => exact key 176 (by omega) nv_11
  | 12 => exact key 192 (by omega) nv_12
  | 13 => exact key 208 (by omega) nv_13
  | 14 => exact key 224 (by omega) nv_14
  | 15 => exact key 240 (by omega) nv_15
  | k + 16 => omega
theorem nv_lt : ∀ a, a < 256 → tNV.getD a 0 < 256 := by decide +kernel
def afR (v1 : Int32) : Nat → Int32 → Int32
  | 0, v2 => v2
  | n + 1, v2 => afR v1 n (v2 ^^^ (((v1 <<< (sI (4 - n) &&& 31)) ||| (v1 >>> ((8 - sI (4 - n)) &&& 31))) &&& 255))
theorem m_h26 {fu : Nat} {a1 v1 : Int32} {M : mwM} {L : mwL} : ∀ (n i f : Nat) (v2 : Int32), i + n = 5 → n < f → fX14_substituteOf_h26 fu a1 f (v1, v2, sI i, M, L) = some (afR v1 n v2, M, L) := by
  intro n
  induction n with
  | zero =>
    intro i f v2 hi hf
    obtain ⟨f, rfl⟩ : ∃ y, f = y + 1 := ⟨f - 1, by omega⟩
    show fX14_substituteOf_i26 fu a1 (fX14_substituteOf_h26 fu a1 f) v1 v2 (sI i) M L = _
    unfold fX14_substituteOf_i26
    rw [if_pos (show (5 : Int32) ≤ sI i by rw [show i = 5 by omega]; decide)]
    rfl
  | succ n ih =>
    intro i f v2 hi hf
    obtain ⟨f, rfl⟩ : ∃ y, f = y + 1 := ⟨f - 1, by omega⟩
    show fX14_substituteOf_i26 fu a1 (fX14_substituteOf_h26 fu a1 f) v1 v2 (sI i) M L = _
    unfold fX14_substituteOf_i26
    rw [if_neg (show ¬ (5 : Int32) ≤ sI i by rw [show (5 : Int32) = sI 5 from rfl, sI_le (by omega) (by omega)]; omega), mlet_e, mlet_e, sI_1]
    have e := ih (i + 1) f (v2 ^^^ (((v1 <<< (sI i &&& 31)) ||| (v1 >>> ((8 - sI i) &&& 31))) &&& 255)) (by omega) (by omega)
    rw [show i = 4 - n by omega] at e ⊢
    exact e
theorem tab_af : ∀ a, a < 256 → afR (sI (tNV.getD a 0)) 5 99 = sI (SbN a) := by decide +kernel
theorem pn_lt {y a : Nat} (ha : a < 256) : ∀ (n u v : Nat), u < 256 → v < 256 → (pn8 y (u, v) n).1 < 256 := by
  intro n
  induction n with
  | zero => intro u v hu _; exact hu
  | succ n ih =>
    intro u v hu hv
    show (pn8 y (if y / 2 ^ (7 - n) % 2 = 1 then u ^^^ v else u, dblN v) n).1 < 256
    refine ih _ _ ?_ (dblN_lt v hv)
    by_cases q : y / 2 ^ (7 - n) % 2 = 1
    · rw [if_pos q]; exact xor_8 hu hv
    · rw [if_neg q]; exact hu
theorem m_h2 {fu a : Nat} {M : mwM} {L : mwL} (hfu : 300 ≤ fu) (ha : a < 256) (h0 : 0 < a) : ∀ (n k f : Nat), k + n = tNV.getD a 0 → n < f → fX14_substituteOf_h2 fu (sI a) f (sI k, M, L) = some (sI (SbN a), M, L) := by
  have hb := nv_all a ha h0
  unfold nvB at hb
  rw [Bool.and_eq_true, decide_eq_true_eq, List.all_eq_true] at hb
  have hlt := nv_lt a ha
  have ha0 : ¬ sI a ≤ 0 := by rw [sI_lel (by omega) (by decide)]; omega
  intro n
  induction n with
  | zero =>
    intro k f hk hf
    obtain ⟨f, rfl⟩ : ∃ y, f = y + 1 := ⟨f - 1, by omega⟩
    have : k = tNV.getD a 0 := by omega
    show fX14_substituteOf_i2 fu (sI a) (fX14_substituteOf_h2 fu (sI a) f) (sI k) M L = _
    unfold fX14_substituteOf_i2 fX14_substituteOf_b21
    rw [if_neg ha0, m_prodN (by omega) ha (by omega), mb3_s, this, hb.1, if_pos (show sI 1 = 1 from rfl), show fX14_substituteOf_h26 fu (sI a) fu (sI (tNV.getD a 0), 99, 0, M, L) = _ from m_h26 5 0 fu 99 (by omega) (by omega), tab_af a ha]
  | succ n ih =>
    intro k f hk hf
    obtain ⟨f, rfl⟩ : ∃ y, f = y + 1 := ⟨f - 1, by omega⟩
    show fX14_substituteOf_i2 fu (sI a) (fX14_substituteOf_h2 fu (sI a) f) (sI k) M L = _
    unfold fX14_substituteOf_i2
    have hne : (pn8 k (0, a) 8).1 ≠ 1 := by
      have := hb.2 k (List.mem_range.mpr (by omega))
      exact of_decide_eq_true this
    have hne2 : ¬ sI (pn8 k (0, a) 8).1 = 1 := fun z => hne (by
      have l8 : (pn8 k (0, a) 8).1 < 256 := pn_lt ha 8 0 a (by omega) ha
      rw [sI_eql (by omega) (by decide)] at z
      exact z)
    rw [if_neg ha0, m_prodN (by omega) ha (by omega), mb3_s, if_neg hne2, mlet_e, sI_1]
    exact ih (k + 1) f (by omega) (by omega)
theorem m_h2z {fu : Nat} {M : mwM} {L : mwL} (hfu : 300 ≤ fu) (f : Nat) : fX14_substituteOf_h2 fu (sI 0) (f + 1) (0, M, L) = some (sI (SbN 0), M, L) := by
  show fX14_substituteOf_i2 fu (sI 0) (fX14_substituteOf_h2 fu (sI 0) f) 0 M L = _
  unfold fX14_substituteOf_i2 fX14_substituteOf_b21
  rw [if_pos (show sI 0 ≤ (0 : Int32) by decide), show fX14_substituteOf_h26 fu (sI 0) fu (0, 99, 0, M, L) = _ from m_h26 5 0 fu 99 (by omega) (by omega)]
  exact congrArg (fun z => some (z, M, L)) (tab_af 0 (by omega))
theorem m_sub {fu a : Nat} {M : mwM} {L : mwL} (hfu : 300 ≤ fu) (ha : a < 256) : DX14_substituteOf fu (sI a) M L = some (sI (SbN a), M, L) := by
  unfold DX14_substituteOf
  by_cases h0 : a = 0
  · subst h0
    obtain ⟨f, hf⟩ : ∃ y, fu = y + 1 := ⟨fu - 1, by omega⟩
    have e := m_h2z (fu := fu) (M := M) (L := L) hfu f
    rw [← hf] at e
    exact e
  · exact m_h2 hfu ha (by omega) (tNV.getD a 0) 0 fu (by omega) (by have := nv_lt a ha; omega)
theorem m_124 {fu : Nat} {L : mwL} (hfu : 300 ≤ fu) : ∀ (m i f : Nat) (M : mwM), i + m = 256 → m < f → (∀ j, j < i → M 868 j = sI (SbN j)) → ∃ M', fX14_tail_h124 fu f (sI i, M, L) = some (M', L) ∧ bytes M' 868 256 SbN ∧ ∀ a y, a ≠ 868 → M' a y = M a y := by
  intro m
  induction m with
  | zero =>
    intro i f M hi hf h1
    obtain ⟨f, rfl⟩ : ∃ y, f = y + 1 := ⟨f - 1, by omega⟩
    refine ⟨M, ?_, fun k hk => ⟨h1 k (by omega), SbN_lt k hk⟩, fun _ _ _ => rfl⟩
    show fX14_tail_i124 fu (fX14_tail_h124 fu f) (sI i) M L = _
    unfold fX14_tail_i124
    rw [if_pos (show (256 : Int32) ≤ sI i by rw [show i = 256 by omega]; decide)]
  | succ m ih =>
    intro i f M hi hf h1
    obtain ⟨f, rfl⟩ : ∃ y, f = y + 1 := ⟨f - 1, by omega⟩
    obtain ⟨M', x1, x2, x3⟩ := ih (i + 1) f (mset M 868 i (sI (SbN i))) (by omega) (by omega) (fun j hj => by
      by_cases e : j = i
      · rw [e, mset_s]
      · rw [mset_n (by omega)]; exact h1 j (by omega))
    refine ⟨M', ?_, x2, fun a y u => by rw [x3 a y u, mset_n (by omega)]⟩
    rw [← x1]
    show fX14_tail_i124 fu (fX14_tail_h124 fu f) (sI i) M L = _
    unfold fX14_tail_i124
    rw [if_neg (show ¬ (256 : Int32) ≤ sI i by rw [show (256 : Int32) = sI 256 from rfl, sI_le (by omega) (by omega)]; omega), m_sub hfu (by omega), mb3_s, mck_s (by omega) (by omega), mlet_e, mlet_e, sI_nn (by omega), sI_1]
theorem m_tail14 {fu : Nat} {M : mwM} {L : mwL} (hfu : 300 ≤ fu) : ∃ M', DX14_tail fu M L = some (M', L) ∧ bytes M' 868 256 SbN ∧ ∀ a y, a ≠ 868 → M' a y = M a y := m_124 hfu 256 0 fu M (by omega) (by omega) (fun j hj => by omega)
