/-! ONE CALL ON A FRESH OBJECT: both sides answer alike -/
def Fr (M : mwM) : Prop := (∀ j, M 0 j = 0) ∧ (∀ j, M 1 j = 0) ∧ (∀ j, j ≠ 97 → M 732 j = 0)
theorem Fr.a {M : mwM} (h : Fr M) : ∀ j, M 0 j = 0 := h.1
theorem Fr.r {M : mwM} (h : Fr M) : ∀ j, M 1 j = 0 := h.2.1
theorem Fr.m {M : mwM} (h : Fr M) : ∀ j, j ≠ 97 → M 732 j = 0 := h.2.2
theorem mset_732 {M : mwM} {x : Int32} {j : Nat} (h : j ≠ 0) : mset M 732 0 x 732 j = M 732 j := mset_j h

theorem w_frame (fu : Nat) (a1 : Int32) (a2 : Int32) (M : mwM) (L : mwL) (h : Fr M) : DL_frame fu a1 a2 M L = some (1, M, L) := by
  simp [DL_frame, fX11_frame_b25, fX11_frame_b44, DX11_frame, mb3, mlet, mzz, h.a]
theorem m_frame (fu : Nat) (a1 : Int32) (a2 : Int32) (M : mwM) (L : mwL) (h : Fr M) : DX19_frame fu a1 a2 M L = some (0, mset M 732 0 1, L) := by
  simp [fX19_frame_b111, fX19_frame_b38, fX19_frame_b20, fX19_frame_b33, DX19_frame, fX19_noController_b24, fX19_noController_b19, DX19_noController, fX19_noChart_b24, fX19_noChart_b19, DX19_noChart, mb3, mlet, mzz, h.m, mset_s]
theorem w_signal (fu : Nat) (a1 : Int32) (a2 : Int32) (M : mwM) (L : mwL) (h : Fr M) : DL_signal fu a1 a2 M L = some (1, M, L) := by
  simp [DL_signal, fX11_signal_b25, fX11_signal_b75, DX11_signal, mb3, mlet, mzz, h.a]
theorem m_signal (fu : Nat) (a1 : Int32) (a2 : Int32) (M : mwM) (L : mwL) (h : Fr M) : DX19_signal fu a1 a2 M L = some (0, mset M 732 0 1, L) := by
  simp [fX19_signal_b56, fX19_signal_b25, fX19_signal_b20, DX19_signal, fX19_noController_b24, fX19_noController_b19, DX19_noController, fX19_noChart_b24, fX19_noChart_b19, DX19_noChart, mb3, mlet, mzz, h.m, mset_s]
theorem w_bit (fu : Nat) (a1 : Int32) (M : mwM) (L : mwL) (h : Fr M) : DL_bit fu a1 M L = some (1, M, L) := by
  simp [DL_bit, fX11_bit_b22, DX11_bit, mb3, mlet, mzz, h.a]
theorem m_bit (fu : Nat) (a1 : Int32) (M : mwM) (L : mwL) (h : Fr M) : DX19_bit fu a1 M L = some (0, mset M 732 0 1, L) := by
  simp [fX19_bit_b47, fX19_bit_b25, fX19_bit_b20, DX19_bit, fX19_noController_b24, fX19_noController_b19, DX19_noController, fX19_noChart_b24, fX19_noChart_b19, DX19_noChart, mb3, mlet, mzz, h.m, mset_s]
theorem w_node (fu : Nat) (a1 : Int32) (a2 : Int32) (M : mwM) (L : mwL) (h : Fr M) : DL_node fu a1 a2 M L = some (1, M, L) := by
  simp [DL_node, fX11_node_b22, fX11_node_b41, fX11_node_b70, DX11_node, mb3, mlet, mzz, h.a]
theorem m_node (fu : Nat) (a1 : Int32) (a2 : Int32) (M : mwM) (L : mwL) (h : Fr M) : DX19_node fu a1 a2 M L = some (0, mset M 732 0 1, L) := by
  simp [fX19_node_b38, fX19_node_b20, fX19_node_b33, DX19_node, fX19_noController_b24, fX19_noController_b19, DX19_noController, fX19_noChart_b24, fX19_noChart_b19, DX19_noChart, mb3, mlet, mzz, h.m, mset_s]
theorem w_error (fu : Nat) (a1 : Int32) (a2 : Int32) (M : mwM) (L : mwL) (h : Fr M) : DL_error fu a1 a2 M L = some (1, M, L) := by
  simp [DL_error, fX11_error_b44, fX11_error_b63, fX11_error_b102, fX11_error_b54, fX11_error_b14, fX11_error_b13, DX11_error, mb3, mlet, mzz, h.a]
theorem m_error (fu : Nat) (a1 : Int32) (a2 : Int32) (M : mwM) (L : mwL) (h : Fr M) : DX19_error fu a1 a2 M L = some (0, mset M 732 0 1, L) := by
  simp [fX19_error_b13, DX19_error, fX19_noController_b24, fX19_noController_b19, DX19_noController, fX19_noChart_b24, fX19_noChart_b19, DX19_noChart, mb3, mlet, mzz, h.m, mset_s]
theorem w_flip (fu : Nat) (a1 : Int32) (a2 : Int32) (M : mwM) (L : mwL) (h : Fr M) : DL_flip fu a1 a2 M L = some (1, M, L) := by
  simp [DL_flip, fX11_flip_b22, fX11_flip_b50, DX11_flip, mb3, mlet, mzz, h.a]
theorem m_flip (fu : Nat) (a1 : Int32) (a2 : Int32) (M : mwM) (L : mwL) (h : Fr M) : DX19_flip fu a1 a2 M L = some (mset M 732 0 1, L) := by
  simp [fX19_flip_b63, fX19_flip_b44, fX19_flip_b20, fX19_flip_b39, DX19_flip, fX19_noController_b24, fX19_noController_b19, DX19_noController, fX19_noChart_b24, fX19_noChart_b19, DX19_noChart, mb3, mlet, mzz, h.m, mset_s]
theorem w_silence (fu : Nat) (a1 : Int32) (a2 : Int32) (M : mwM) (L : mwL) (h : Fr M) : DL_silence fu a1 a2 M L = some (1, M, L) := by
  simp [DL_silence, fX11_silence_b22, fX11_silence_b78, fX11_silence_i47, fX11_silence_h47, DX11_silence, mb3, mlet, mzz, h.a]
theorem m_silence (fu : Nat) (a1 : Int32) (a2 : Int32) (M : mwM) (L : mwL) (h : Fr M) : DX19_silence fu a1 a2 M L = some (0, mset M 732 0 1, L) := by
  simp [fX19_silence_b62, fX19_silence_i38, fX19_silence_h38, fX19_silence_b14, DX19_silence, fX19_noController_b24, fX19_noController_b19, DX19_noController, fX19_noChart_b24, fX19_noChart_b19, DX19_noChart, mb3, mlet, mzz, h.m, mset_s]
theorem w_running (fu : Nat) (a1 : Int32) (a2 : Int32) (M : mwM) (L : mwL) (h : Fr M) : DL_running fu a1 a2 M L = some (1, M, L) := by
  simp [DL_running, fX11_running_b37, DX11_running, mb3, mlet, mzz, h.a]
theorem m_running (fu : Nat) (a1 : Int32) (a2 : Int32) (M : mwM) (L : mwL) (h : Fr M) : DX19_running fu a1 a2 M L = some (0, mset M 732 0 1, L) := by
  simp [fX19_running_b50, fX19_running_b26, fX19_running_b21, DX19_running, fX19_noController_b24, fX19_noController_b19, DX19_noController, fX19_noChart_b24, fX19_noChart_b19, DX19_noChart, mb3, mlet, mzz, h.m, mset_s]
theorem w_task (fu : Nat) (a1 : Int32) (a2 : Int32) (M : mwM) (L : mwL) (h : Fr M) : DL_task fu a1 a2 M L = some (1, M, L) := by
  simp [DL_task, fX11_task_b25, fX11_task_b44, fX11_task_b74, DX11_task, mb3, mlet, mzz, h.a]
theorem m_task (fu : Nat) (a1 : Int32) (a2 : Int32) (M : mwM) (L : mwL) (h : Fr M) : DX19_task fu a1 a2 M L = some (0, mset M 732 0 1, L) := by
  simp [fX19_task_b92, fX19_task_b38, fX19_task_b20, fX19_task_b33, DX19_task, fX19_noController_b24, fX19_noController_b19, DX19_noController, fX19_noChart_b24, fX19_noChart_b19, DX19_noChart, mb3, mlet, mzz, h.m, mset_s]
theorem w_active (fu : Nat) (a1 : Int32) (a2 : Int32) (M : mwM) (L : mwL) (h : Fr M) : DL_active fu a1 a2 M L = some (1, M, L) := by
  simp [DL_active, fX11_active_b28, fX11_active_b71, DX11_active, fX11_hasChart_b27, fX11_hasChart_b26, DX11_hasChart, mb3, mlet, mzz, h.a]
theorem m_active (fu : Nat) (a1 : Int32) (a2 : Int32) (M : mwM) (L : mwL) (h : Fr M) : DX19_active fu a1 a2 M L = some (0, mset M 732 0 1, L) := by
  simp [fX19_active_b52, fX19_active_b28, fX19_active_b23, DX19_active, fX19_noController_b24, fX19_noController_b19, DX19_noController, fX19_noChart_b24, fX19_noChart_b19, DX19_noChart, mb3, mlet, mzz, h.m, mset_s]
theorem w_value (fu : Nat) (a1 : Int32) (a2 : Int32) (M : mwM) (L : mwL) (h : Fr M) : DL_value fu a1 a2 M L = some (1, M, L) := by
  simp [DL_value, fX11_value_b18, DX11_value, fX11_hasChart_b27, fX11_hasChart_b26, DX11_hasChart, mb3, mlet, mzz, h.a]
theorem m_value (fu : Nat) (a1 : Int32) (a2 : Int32) (M : mwM) (L : mwL) (h : Fr M) : DX19_value fu a1 a2 M L = some (0, mset M 732 0 1, L) := by
  simp [fX19_value_b48, fX19_value_b24, fX19_value_b19, DX19_value, fX19_noController_b24, fX19_noController_b19, DX19_noController, fX19_noChart_b24, fX19_noChart_b19, DX19_noChart, mb3, mlet, mzz, h.m, mset_s]
theorem w_chart (fu : Nat) (a1 : Int32) (a2 : Int32) (M : mwM) (L : mwL) (h : Fr M) : DL_chart fu a1 a2 M L = some (1, M, L) := by
  simp [DL_chart, fX11_chart_b28, DX11_chart, fX11_hasChart_b27, fX11_hasChart_b26, DX11_hasChart, mb3, mlet, mzz, h.a]
theorem m_chart (fu : Nat) (a1 : Int32) (a2 : Int32) (M : mwM) (L : mwL) (h : Fr M) : DX19_chart fu a1 a2 M L = some (0, mset M 732 0 1, L) := by
  simp [fX19_chart_b81, fX19_chart_b28, fX19_chart_b23, DX19_chart, fX19_noController_b24, fX19_noController_b19, DX19_noController, fX19_noChart_b24, fX19_noChart_b19, DX19_noChart, mb3, mlet, mzz, h.m, mset_s]
theorem w_trouble (fu : Nat) (a1 : Int32) (a2 : Int32) (M : mwM) (L : mwL) (h : Fr M) : DL_trouble fu a1 a2 M L = some (1, M, L) := by
  simp [DL_trouble, fX11_trouble_b25, fX11_trouble_b44, DX11_trouble, mb3, mlet, mzz, h.a]
theorem m_trouble (fu : Nat) (a1 : Int32) (a2 : Int32) (M : mwM) (L : mwL) (h : Fr M) : DX19_trouble fu a1 a2 M L = some (0, mset M 732 0 1, L) := by
  simp [fX19_trouble_b38, fX19_trouble_b20, fX19_trouble_b33, DX19_trouble, fX19_noController_b24, fX19_noController_b19, DX19_noController, fX19_noChart_b24, fX19_noChart_b19, DX19_noChart, mb3, mlet, mzz, h.m, mset_s]
theorem w_cycle (fu : Nat) (a1 : Int32) (M : mwM) (L : mwL) (h : Fr M) : DL_cycle fu a1 M L = some (1, M, L) := by
  simp [DL_cycle, DX11_cycle, mb3, mlet, mzz, h.a]
theorem m_cycle (fu : Nat) (a1 : Int32) (M : mwM) (L : mwL) (h : Fr M) : DX19_cycle fu a1 M L = some (0, mset M 732 0 1, L) := by
  simp [fX19_cycle_b35, fX19_cycle_b13, DX19_cycle, fX19_noController_b24, fX19_noController_b19, DX19_noController, fX19_noChart_b24, fX19_noChart_b19, DX19_noChart, mb3, mlet, mzz, h.m, mset_s]
theorem w_ask (fu : Nat) (a1 : Int32) (M : mwM) (L : mwL) (h : Fr M) : DL_ask fu a1 M L = some (1, M, L) := by
  simp [DL_ask, fX11_ask_b22, fX11_ask_b64, DX11_ask, mb3, mlet, mzz, h.a]
theorem m_ask (fu : Nat) (a1 : Int32) (M : mwM) (L : mwL) (h : Fr M) : DX19_ask fu a1 M L = some (0, mset M 732 0 1, L) := by
  simp [fX19_ask_i60, fX19_ask_h60, fX19_ask_b41, fX19_ask_b36, DX19_ask, fX19_noController_b24, fX19_noController_b19, DX19_noController, fX19_noChart_b24, fX19_noChart_b19, DX19_noChart, mb3, mlet, mzz, h.m, mset_s]
theorem w_answer (fu : Nat) (a1 : Int32) (M : mwM) (L : mwL) (h : Fr M) : DL_answer fu a1 M L = some (1, M, L) := by
  by_cases c : a1 < 0 <;> simp [c, DL_answer, fX11_answer_b12, DX11_answer, fX11_answerLength_b41, fX11_answerLength_b40, DX11_answerLength, mb3, mlet, mzz, h.a]
theorem m_answer (fu : Nat) (a1 : Int32) (M : mwM) (L : mwL) (h : Fr M) : DX19_answer fu a1 M L = some (0, mset M 732 0 1, L) := by
  simp [fX19_answer_b45, fX19_answer_b25, fX19_answer_b20, DX19_answer, fX19_noController_b24, fX19_noController_b19, DX19_noController, fX19_noChart_b24, fX19_noChart_b19, DX19_noChart, mb3, mlet, mzz, h.m, mset_s]
theorem w_count (fu : Nat) (a : Int32) (M : mwM) (L : mwL) (h : Fr M) : DL_count fu a M L = some (if a < 0 ∨ 6 < a then 1 else 2, M, L) := by
  by_cases c1 : a < 0
  · simp [DL_count, fX11_count_b10, DX11_count, mb3, mlet, h.a, c1]
  · by_cases c2 : a ≤ 6
    · have c3 : ¬ 6 < a := Int32.not_lt.mpr c2
      simp [DL_count, fX11_count_b10, DX11_count, mb3, mlet, h.a, c1, c2, c3]
    · have c3 : 6 < a := Int32.not_le.mp c2
      simp [DL_count, fX11_count_b10, DX11_count, mb3, mlet, h.a, c1, c2, c3]
theorem m_count (fu : Nat) (a : Int32) (M : mwM) (L : mwL) (h : Fr M) : DX19_count fu a M L = some (0, mset M 732 0 (if a < 0 ∨ 6 < a then 1 else 2), L) := by
  by_cases c1 : a < 0
  · simp [fX19_count_b110, fX19_count_b81, fX19_count_b59, fX19_count_b27, fX19_count_b11, DX19_count, mb3, mlet, h.m, c1, mset_s]
  · by_cases c2 : a ≤ 6
    · have c3 : ¬ 6 < a := Int32.not_lt.mpr c2
      simp [fX19_count_b110, fX19_count_b81, fX19_count_b59, fX19_count_b27, fX19_count_b11, DX19_count, mb3, mlet, h.m, c1, c2, c3, mset_s]
    · have c3 : 6 < a := Int32.not_le.mp c2
      simp [fX19_count_b110, fX19_count_b81, fX19_count_b59, fX19_count_b27, fX19_count_b11, DX19_count, mb3, mlet, h.m, c1, c2, c3, mset_s]
theorem w_run (fu : Nat) (a : Int32) (M : mwM) (L : mwL) (h : Fr M) : DL_run fu a M L = some (if 0 ≤ a then 2 else 1, M, L) := by
  by_cases c1 : 0 ≤ a <;> simp [DL_run, fX11_run_b36, fX11_run_i59, fX11_run_h59, DX11_run, mb3, mlet, h.a, c1]
theorem m_run (fu : Nat) (a : Int32) (M : mwM) (L : mwL) (h : Fr M) : DX19_run fu a M L = some (0, mset M 732 0 (if 0 ≤ a then 2 else 1), L) := by
  by_cases c1 : 0 ≤ a <;> simp [fX19_run_b33, fX19_run_b28, DX19_run, mb3, mlet, h.m, c1, mset_s]
theorem w_counted (fu : Nat) (a : Int32) (M : mwM) (L : mwL) (h : Fr M) : DL_counted fu a M L = if a < 0 ∨ 4 < a then some (1, M, L) else some (0, M, mset L 1577 0 0) := by
  by_cases c1 : a < 0
  · simp [DL_counted, fX11_counted_b9, fX11_counted_b40, DX11_counted, mb3, mlet, h.a, c1]
  · by_cases c2 : a ≤ 4
    · have c3 : ¬ 4 < a := Int32.not_lt.mpr c2
      simp [DL_counted, fX11_counted_b9, fX11_counted_b40, DX11_counted, mb3, mlet, h.a, c1, c2, c3]
    · have c3 : 4 < a := Int32.not_le.mp c2
      simp [DL_counted, fX11_counted_b9, fX11_counted_b40, DX11_counted, mb3, mlet, h.a, c1, c2, c3]
theorem m_counted (fu : Nat) (a : Int32) (M : mwM) (L : mwL) (h : Fr M) : DX19_counted fu a M L = some (0, mset M 732 0 (if a < 0 ∨ 4 < a then 1 else 0), L) := by
  by_cases c1 : a < 0
  · simp [fX19_counted_b42, fX19_counted_b32, fX19_counted_b15, fX19_counted_b10, DX19_counted, mb3, mlet, h.m, c1, mset_s]
  · by_cases c2 : a ≤ 4
    · have c3 : ¬ 4 < a := Int32.not_lt.mpr c2
      simp [fX19_counted_b42, fX19_counted_b32, fX19_counted_b15, fX19_counted_b10, DX19_counted, mb3, mlet, h.m, c1, c2, c3, mset_s, mset_732]
    · have c3 : 4 < a := Int32.not_le.mp c2
      simp [fX19_counted_b42, fX19_counted_b32, fX19_counted_b15, fX19_counted_b10, DX19_counted, mb3, mlet, h.m, c1, c2, c3, mset_s]
theorem w_cut (fu : Nat) (a : Int32) (M : mwM) (L : mwL) (h : Fr M) : DL_cut fu a M L = if a < 0 ∨ 0 < a then some (1, M, L) else some (0, mset M 1 4 a, mset L 1577 0 a.toInt64) := by
  by_cases c1 : a < 0
  · simp [DL_cut, fX11_cut_b15, DX11_cut, mb3, mlet, h.r, c1]
  · by_cases c2 : a ≤ 0
    · have c3 : ¬ 0 < a := Int32.not_lt.mpr c2
      simp [DL_cut, fX11_cut_b15, DX11_cut, mb3, mlet, h.r, c1, c2, c3]
    · have c3 : 0 < a := Int32.not_le.mp c2
      simp [DL_cut, fX11_cut_b15, DX11_cut, mb3, mlet, h.r, c1, c2, c3]
theorem m_cut (fu : Nat) (a : Int32) (M : mwM) (L : mwL) (h : ∀ j, j ≠ 97 → M 732 j = 0) : ∃ M2, DX19_cut fu a M L = some (if a < 0 ∨ 0 < a then 0 else a, M2, L) ∧ M2 732 0 = if a < 0 ∨ 0 < a then 1 else 0 := by
  by_cases c1 : a < 0
  · exact ⟨_, by simp [fX19_cut_b18, fX19_cut_b13, DX19_cut, mb3, mlet, h, c1, mset_s]; rfl, by simp [c1, mset_s]⟩
  · by_cases c2 : a ≤ 0
    · have c3 : ¬ 0 < a := Int32.not_lt.mpr c2
      exact ⟨_, by simp [fX19_cut_b18, fX19_cut_b13, DX19_cut, mb3, mlet, h, c1, c2, c3, mset_s]; rfl, by simp [c1, c3, mset]⟩
    · have c3 : 0 < a := Int32.not_le.mp c2
      exact ⟨_, by simp [fX19_cut_b18, fX19_cut_b13, DX19_cut, mb3, mlet, h, c1, c2, c3, mset_s]; rfl, by simp [c1, c3, mset_s]⟩
theorem w_place (fu : Nat) (M : mwM) (L : mwL) (h : Fr M) : DX11_place fu M L = some (0, M, L) := by
  simp [DX11_place, fX11_answerLength_b41, fX11_answerLength_b40, DX11_answerLength, mb3, mlet, h.a, h.r]
theorem m_place (fu : Nat) (M : mwM) (L : mwL) (h : Fr M) : DX19_place fu M L = some (0, mset M 732 0 0, L) := by
  simp [DX19_place, mb3, mlet, h.m, mset_732]
theorem w_time (fu : Nat) (M : mwM) (L : mwL) (h : Fr M) : DX11_time fu M L = some (0, M, L) := by
  simp [fX11_time_b18, DX11_time, fX11_answerLength_b41, fX11_answerLength_b40, DX11_answerLength, mb3, mlet, h.a, h.r]
theorem m_time (fu : Nat) (M : mwM) (L : mwL) (h : Fr M) : DX19_time fu M L = some (0, mset M 732 0 0, L) := by
  simp [fX19_time_b20, DX19_time, mb3, mlet, h.m, mset_732]
theorem w_asking (fu : Nat) (M : mwM) (L : mwL) (h : Fr M) : DX11_asking fu M L = some (-1, M, L) := by
  simp [fX11_asking_b18, DX11_asking, fX11_answerLength_b41, fX11_answerLength_b40, DX11_answerLength, mb3, mlet, h.a, h.r]
theorem m_asking (fu : Nat) (M : mwM) (L : mwL) (h : Fr M) : DX19_asking fu M L = some (-1, mset M 732 0 0, L) := by
  simp [fX19_asking_b20, DX19_asking, mb3, mlet, h.m, mset_732]
theorem w_answers (fu : Nat) (M : mwM) (L : mwL) (h : Fr M) : DX11_answers fu M L = some (0, M, L) := by
  simp [DX11_answers, fX11_answerLength_b41, fX11_answerLength_b40, DX11_answerLength, mb3, mlet, h.a, h.r]
theorem m_answers (fu : Nat) (M : mwM) (L : mwL) (h : Fr M) : DX19_answers fu M L = some (0, mset M 732 0 0, L) := by
  simp [fX19_answers_b20, DX19_answers, mb3, mlet, h.m, mset_732]
theorem w_say (fu : Nat) (a : Int32) (M : mwM) (L : mwL) (h : Fr M) : ∃ M1, DX11_say fu a M L = some (1, M1, L) ∧ (∀ j, M1 732 j = M 732 j) := by
  refine ⟨_, by simp [fX11_say_b33, DX11_say, mb3, mlet, h.a, mck, mset]; rfl, fun j => ?_⟩
  simp [mset]
theorem m_say (fu : Nat) (a : Int32) (M : mwM) (L : mwL) (h : ∀ j, j ≠ 97 → M 732 j = 0) : ∃ M1, DX19_say_ fu a M L = some (1, M1, L) := by
  exact ⟨_, by simp [fX19_say__b38, DX19_say_, mb3, mlet, h, mck, mset]; rfl⟩

theorem pI_8 {n : Nat} : pI (8 * (n + 1)) + (-8) = pI (8 * n) := by
  have h : pI (8 * (n + 1)) = pI (8 * n) + 8 := by
    simp only [pI, Nat.mul_add, Int32.ofNat_add]
    rfl
  rw [h, Int32.add_assoc]
  have h2 : (8 : Int32) + (-8) = 0 := by decide
  rw [h2, Int32.add_zero]
theorem pI_neg8 : pI (8 * 0) + (-8) < 0 := by decide
theorem pI_nn {n : Nat} (h : n < 1000000) : ¬ pI n < 0 := fun q => by
  have := (pI_lt (a := n) (b := 0) h (by omega)).mp q
  omega
theorem pI_add {a b : Nat} : pI a + pI b = pI (a + b) := by simp [pI, Int32.ofNat_add]
theorem let_h5 (fu : Nat) (a : Int32) (M : mwM) (L : mwL) : ∀ (n c f : Nat) (v : Int32), v = pI (8 * n) + (-8) → n ≤ 4 → n < f → ∃ c', c' ≤ c + n ∧ fX11_lettersIn_h5 fu a f (pI c, v, M, L) = some (pI c', M, L) := by
  intro n
  induction n with
  | zero =>
    intro c f v hv _ hf
    obtain ⟨f, rfl⟩ : ∃ g, f = g + 1 := ⟨f - 1, by omega⟩
    refine ⟨c, by omega, ?_⟩
    show fX11_lettersIn_i5 fu a (fX11_lettersIn_h5 fu a f) (pI c) v M L = _
    unfold fX11_lettersIn_i5
    rw [if_pos (by rw [hv]; exact pI_neg8)]
  | succ n ih =>
    intro c f v hv hn hf
    obtain ⟨f, rfl⟩ : ∃ g, f = g + 1 := ⟨f - 1, by omega⟩
    show ∃ c', c' ≤ c + (n + 1) ∧ fX11_lettersIn_i5 fu a (fX11_lettersIn_h5 fu a f) (pI c) v M L = some (pI c', M, L)
    rw [pI_8] at hv
    subst hv
    unfold fX11_lettersIn_i5 fX11_lettersIn_b25
    rw [if_neg (pI_nn (by omega))]
    simp only [mlet]
    split
    · obtain ⟨c', h1, h2⟩ := ih c f _ rfl (by omega) (by omega)
      exact ⟨c', by omega, by rw [show pI c + 0 = pI c from Int32.add_zero _]; exact h2⟩
    · obtain ⟨c', h1, h2⟩ := ih (c + 1) f _ rfl (by omega) (by omega)
      exact ⟨c', by omega, by rw [pI_succ]; exact h2⟩
theorem p_letters (fu : Nat) (hfu : 300 ≤ fu) (a : Int32) (M : mwM) (L : mwL) : ∃ c, c ≤ 4 ∧ DX11_lettersIn fu a M L = some (pI c, M, L) := by
  obtain ⟨c, h1, h2⟩ := let_h5 fu a M L 4 0 fu 24 (by decide) (by omega) (by omega)
  exact ⟨c, by omega, h2⟩
theorem app_h3 (fu : Nat) (a : Int32) (L : mwL) : ∀ (n c f : Nat) (v : Int32) (M : mwM), v = pI (8 * n) + (-8) → n ≤ 4 → n < f → c + n ≤ 100 → M 1 4 = pI c → ∃ M' c', fX8_append_h3 fu a f (v, M, L) = some (M', L) ∧ M' 1 4 = pI c' ∧ c' ≤ c + n ∧ ∀ j, M' 732 j = M 732 j := by
  intro n
  induction n with
  | zero =>
    intro c f v M hv _ hf _ hM
    obtain ⟨f, rfl⟩ : ∃ g, f = g + 1 := ⟨f - 1, by omega⟩
    refine ⟨M, c, ?_, hM, by omega, fun _ => rfl⟩
    show fX8_append_i3 fu a (fX8_append_h3 fu a f) v M L = _
    unfold fX8_append_i3
    rw [if_pos (by rw [hv]; exact pI_neg8)]
  | succ n ih =>
    intro c f v M hv hn hf hc hM
    obtain ⟨f, rfl⟩ : ∃ g, f = g + 1 := ⟨f - 1, by omega⟩
    show ∃ M' c', fX8_append_i3 fu a (fX8_append_h3 fu a f) v M L = some (M', L) ∧ M' 1 4 = pI c' ∧ c' ≤ c + (n + 1) ∧ ∀ j, M' 732 j = M 732 j
    rw [pI_8] at hv
    subst hv
    unfold fX8_append_i3 fX8_append_b50
    rw [if_neg (pI_nn (by omega))]
    simp only [mlet]
    have hin : vp_in (M 1 4) 6000 := by rw [hM]; exact pI_in (by omega) (by omega)
    by_cases c1 : ((a.toUInt32 >>> ((pI (8 * n)).toUInt32 &&& Int32.toUInt32 31)).toInt32 &&& 255) = 0
    · rw [if_pos c1]
      obtain ⟨M', c', h1, h2, h3, h4⟩ := ih c f _ M rfl (by omega) (by omega) (by omega) hM
      exact ⟨M', c', h1, h2, by omega, h4⟩
    · rw [if_neg c1]
      by_cases c2 : 6000 ≤ M 1 4
      · rw [if_pos c2]
        obtain ⟨M', c', h1, h2, h3, h4⟩ := ih c f _ M rfl (by omega) (by omega) (by omega) hM
        exact ⟨M', c', h1, h2, by omega, h4⟩
      · rw [if_neg c2, mck_ok hin]
        obtain ⟨M', c', h1, h2, h3, h4⟩ := ih (c + 1) f _ _ rfl (by omega) (by omega) (by omega) (show (mset (mset M 2 (M 1 4).toNatClampNeg (vp_nar .char ((((a.toUInt32 >>> ((pI (8 * n)).toUInt32 &&& Int32.toUInt32 31)).toInt32 &&& 255).toUInt32 % 65536).toInt32))) 1 4 ((mset M 2 (M 1 4).toNatClampNeg (vp_nar .char ((((a.toUInt32 >>> ((pI (8 * n)).toUInt32 &&& Int32.toUInt32 31)).toInt32 &&& 255).toUInt32 % 65536).toInt32))) 1 4 + 1)) 1 4 = pI (c + 1) by rw [mset_s, mset_k (by decide), hM, pI_succ])
        exact ⟨M', c', h1, h2, by omega, fun j => by rw [h4, mset_k (by decide), mset_k (by decide)]⟩
theorem p_append (fu : Nat) (hfu : 300 ≤ fu) (a : Int32) (M : mwM) (L : mwL) (c : Nat) (hc : c ≤ 90) (hM : M 1 4 = pI c) : ∃ M' c', DX8_append fu a M L = some (M', L) ∧ M' 1 4 = pI c' ∧ c' ≤ c + 4 ∧ ∀ j, M' 732 j = M 732 j :=
  app_h3 fu a L 4 c fu 24 M (by decide) (by omega) (by omega) (by omega) hM
theorem w_text (fu : Nat) (hfu : 300 ≤ fu) (a b c d : Int32) (M : mwM) (L : mwL) (h : Fr M) : ∃ M1, DL_text fu a b c d M L = some (0, M1, L) ∧ ∀ j, M1 732 j = M 732 j := by
  obtain ⟨n1, l1, e1⟩ := p_letters fu hfu a M L
  obtain ⟨n2, l2, e2⟩ := p_letters fu hfu b M L
  obtain ⟨n3, l3, e3⟩ := p_letters fu hfu c M L
  obtain ⟨n4, l4, e4⟩ := p_letters fu hfu d M L
  have h0 : M 1 4 = pI 0 := h.r 4
  unfold DL_text DX11_text
  rw [e1, mb3_s, e2, mb3_s, e3, mb3_s, e4, mb3_s, h0, pI_add, pI_add, pI_add, pI_add, if_pos (show pI (0 + n1 + n2 + n3 + n4) ≤ 6000 from (pI_le (b := 6000) (by omega) (by omega)).mpr (by omega))]
  obtain ⟨M1, c1, f1, g1, k1, i1⟩ := p_append fu hfu a M L 0 (by omega) h0
  obtain ⟨M2, c2, f2, g2, k2, i2⟩ := p_append fu hfu b M1 L c1 (by omega) g1
  obtain ⟨M3, c3, f3, g3, k3, i3⟩ := p_append fu hfu c M2 L c2 (by omega) g2
  obtain ⟨M4, c4, f4, g4, k4, i4⟩ := p_append fu hfu d M3 L c3 (by omega) g3
  rw [f1, mb2_s, f2, mb2_s, f3, mb2_s, f4, mb2_s, mb3_s]
  exact ⟨M4, by simp, fun j => by rw [i4, i3, i2, i1]⟩
theorem char_ex (fu : Nat) (a b c d k : Int32) (M : mwM) (L : mwL) : ∃ x, DX19_character fu a b c d k M L = some (x, M, L) := by
  unfold DX19_character fX19_character_b33
  repeat' split
  all_goals exact ⟨_, rfl⟩
theorem txt_h68 (fu : Nat) (a b c d : Int32) (L : mwL) : ∀ (n i k f : Nat) (M : mwM), i + n = 16 → n < f → k ≤ i → M 732 0 = 0 → M 732 2 = pI k → ∃ M', fX19_text_h68 fu a b c d f (pI i, M, L) = some (M', L) ∧ M' 732 0 = 0 := by
  intro n
  induction n with
  | zero =>
    intro i k f M hi hf _ h0 _
    obtain ⟨f, rfl⟩ : ∃ g, f = g + 1 := ⟨f - 1, by omega⟩
    refine ⟨M, ?_, h0⟩
    show fX19_text_i68 fu a b c d (fX19_text_h68 fu a b c d f) (pI i) M L = _
    unfold fX19_text_i68 fX19_text_b129
    rw [if_pos (show (16 : Int32) ≤ pI i from (pI_le (a := 16) (b := i) (by omega) (by omega)).mpr (by omega))]
  | succ n ih =>
    intro i k f M hi hf hk h0 h2
    obtain ⟨f, rfl⟩ : ∃ g, f = g + 1 := ⟨f - 1, by omega⟩
    show ∃ M', fX19_text_i68 fu a b c d (fX19_text_h68 fu a b c d f) (pI i) M L = some (M', L) ∧ _
    unfold fX19_text_i68 fX19_text_b123
    obtain ⟨x, e⟩ := char_ex fu a b c d (pI i) M L
    rw [if_neg (fun q : (16 : Int32) ≤ pI i => by have := (pI_le (a := 16) (b := i) (by omega) (by omega)).mp q; omega), if_pos h0, e, mb3_s]
    simp only [mlet, pI_succ]
    by_cases c1 : x = 0
    · rw [if_pos c1]
      exact ih (i + 1) k f M (by omega) (by omega) (by omega) h0 h2
    · rw [if_neg c1, mck_ok (by rw [h2]; exact pI_in (by omega) (by omega))]
      refine ih (i + 1) (k + 1) f _ (by omega) (by omega) (by omega) ?_ ?_
      · rw [mset_j (by decide), mset_k (by decide)]; exact h0
      · rw [mset_s, mset_k (by decide), h2, pI_succ]
theorem txt_h6 (fu : Nat) (hfu : 300 ≤ fu) (a b c d : Int32) (M : mwM) (L : mwL) (h2 : M 732 2 = 0) : ∀ (n i k f : Nat), i + n = 16 → n < f → k ≤ i → ∃ M', fX19_text_h6 fu a b c d f (pI k, pI i, M, L) = some (M', L) ∧ M' 732 0 = 0 := by
  intro n
  induction n with
  | zero =>
    intro i k f hi hf hk
    obtain ⟨f, rfl⟩ : ∃ g, f = g + 1 := ⟨f - 1, by omega⟩
    show ∃ M', fX19_text_i6 fu a b c d (fX19_text_h6 fu a b c d f) (pI k) (pI i) M L = some (M', L) ∧ _
    unfold fX19_text_i6 fX19_text_b62
    rw [if_pos (show (16 : Int32) ≤ pI i from (pI_le (a := 16) (b := i) (by omega) (by omega)).mpr (by omega)), h2, Int32.zero_add, if_pos (show pI k ≤ 6000 from (pI_le (b := 6000) (by omega) (by omega)).mpr (by omega))]
    simp only [mlet]
    exact txt_h68 fu a b c d L 16 0 0 fu _ (by omega) (by omega) (by omega) mset_s (by rw [mset_j (by decide)]; exact h2)
  | succ n ih =>
    intro i k f hi hf hk
    obtain ⟨f, rfl⟩ : ∃ g, f = g + 1 := ⟨f - 1, by omega⟩
    show ∃ M', fX19_text_i6 fu a b c d (fX19_text_h6 fu a b c d f) (pI k) (pI i) M L = some (M', L) ∧ _
    unfold fX19_text_i6 fX19_text_b35
    obtain ⟨x, e⟩ := char_ex fu a b c d (pI i) M L
    rw [if_neg (fun q : (16 : Int32) ≤ pI i => by have := (pI_le (a := 16) (b := i) (by omega) (by omega)).mp q; omega), e, mb3_s]
    simp only [mlet, pI_succ]
    split
    · exact ih (i + 1) k f (by omega) (by omega) (by omega)
    · exact ih (i + 1) (k + 1) f (by omega) (by omega) (by omega)
theorem m_text (fu : Nat) (hfu : 300 ≤ fu) (a b c d : Int32) (M : mwM) (L : mwL) (h2 : M 732 2 = 0) : ∃ M2, DX19_text fu a b c d M L = some (M2, L) ∧ M2 732 0 = 0 :=
  txt_h6 fu hfu a b c d M L h2 16 0 0 fu (by omega) (by omega) (by omega)

def kp (S : List Nat) (M0 M : mwM) : Prop := ∀ a ∈ S, M a = M0 a
theorem kp.rf {S : List Nat} {M : mwM} : kp S M M := fun _ _ => rfl
theorem kp.set {S : List Nat} {M0 M : mwM} {k j : Nat} {x : Int32} (h : kp S M0 M) (hk : k ∉ S) : kp S M0 (mset M k j x) := fun a ha => by
  have hne : a ≠ k := fun q => hk (q ▸ ha)
  exact (funext fun b => mset_k hne).trans (h a ha)
theorem kp.tr {S : List Nat} {M0 M M1 : mwM} (h : kp S M0 M) (h1 : kp S M M1) : kp S M0 M1 := fun a ha => (h1 a ha).trans (h a ha)
theorem clr {β : Type} (h : Nat → Int32 × mwM × mwL → Option β) (B : Nat) (L : mwL) (S : List Nat) (g : Nat → mwM → mwM) (E : mwM → Option β) (hs : ∀ f i M, i < B → h (f + 1) (pI i, M, L) = h f (pI (i + 1), g i M, L)) (he : ∀ f M, h (f + 1) (pI B, M, L) = E M) (hg : ∀ i M, i < B → kp S M (g i M)) : ∀ n i f M, i + n = B → n < f → ∃ M', kp S M M' ∧ h f (pI i, M, L) = E M' := by
  intro n
  induction n with
  | zero =>
    intro i f M hi hf
    obtain ⟨f, rfl⟩ : ∃ g, f = g + 1 := ⟨f - 1, by omega⟩
    have : i = B := by omega
    subst this
    exact ⟨M, kp.rf, he f M⟩
  | succ n ih =>
    intro i f M hi hf
    obtain ⟨f, rfl⟩ : ∃ g, f = g + 1 := ⟨f - 1, by omega⟩
    obtain ⟨M', h1, h2⟩ := ih (i + 1) f (g i M) (by omega) (by omega)
    exact ⟨M', (hg i M (by omega)).tr h1, (hs f i M (by omega)).trans h2⟩
theorem le_no {a i : Nat} (h : i < a) (ha : a < 1000) : ¬ pI a ≤ pI i := fun q => by have := (pI_le (a := a) (b := i) (by omega) (by omega)).mp q; omega
theorem le_yes {a : Nat} (ha : a < 1000) : pI a ≤ pI a := (pI_le (a := a) (b := a) (by omega) (by omega)).mpr (by omega)
theorem pc_4 (fu : Nat) (hfu : 300 ≤ fu) (M : mwM) (L : mwL) : ∃ M', kp [0, 1, 3, 732] M M' ∧ DX4_clear fu M L = some (M', L) := by
  unfold DX4_clear
  simp only [mlet]
  obtain ⟨M', h1, h2⟩ := clr (fX4_clear_h22 fu) 6 L [0, 1, 3, 732] (fun i M => mset M 18 i (-1)) (fun M => some (M, L)) (fun f i M hi => by
    show fX4_clear_i22 fu (fX4_clear_h22 fu f) (pI i) M L = _
    unfold fX4_clear_i22
    rw [if_neg (show ¬ (6 : Int32) ≤ pI i from le_no (a := 6) hi (by omega)), mck_ok (pI_in hi (by omega)), pI_nat (by omega), pI_succ]; rfl) (fun f M => by
    show fX4_clear_i22 fu (fX4_clear_h22 fu f) (pI 6) M L = _
    unfold fX4_clear_i22
    rw [if_pos (show (6 : Int32) ≤ pI 6 from le_yes (a := 6) (by omega))]) (fun i M _ => kp.rf.set (by decide)) 6 0 fu (mset (mset (mset (mset M 5 3 0) 5 4 0) 5 5 0) 5 6 1) (by omega) (by omega)
  exact ⟨M', ((((kp.rf.set (by decide)).set (by decide)).set (by decide)).set (by decide)).tr h1, h2⟩
theorem pc_6 (fu : Nat) (M : mwM) (L : mwL) : ∃ M', kp [0, 1, 3, 732] M M' ∧ DX6_clear fu M L = some (M', L) :=
  ⟨_, (((kp.rf.set (by decide)).set (by decide)).set (by decide)).set (by decide), rfl⟩
theorem pc_10 (fu : Nat) (M : mwM) (L : mwL) : ∃ M', kp [0, 1, 3, 732] M M' ∧ DX10_clear fu M L = some (M', L) :=
  ⟨_, (((kp.rf.set (by decide)).set (by decide)).set (by decide)).set (by decide), rfl⟩
theorem pc_9 (fu : Nat) (hfu : 300 ≤ fu) (M : mwM) (L : mwL) : ∃ M', kp [0, 1, 3, 732] M M' ∧ DX9_clear fu M L = some (M', L) := by
  unfold DX9_clear
  simp only [mlet]
  obtain ⟨M', h1, h2⟩ := clr (fX9_clear_h32 fu) 4 L [0, 1, 3, 732] (fun i M => mset M 264 i 0) (fun M => some (M, L)) (fun f i M hi => by
    show fX9_clear_i32 fu (fX9_clear_h32 fu f) (pI i) M L = _
    unfold fX9_clear_i32
    rw [if_neg (show ¬ (4 : Int32) ≤ pI i from le_no (a := 4) hi (by omega)), mck_ok (pI_in hi (by omega)), pI_nat (by omega), pI_succ]; rfl) (fun f M => by
    show fX9_clear_i32 fu (fX9_clear_h32 fu f) (pI 4) M L = _
    unfold fX9_clear_i32
    rw [if_pos (show (4 : Int32) ≤ pI 4 from le_yes (a := 4) (by omega))]) (fun i M _ => kp.rf.set (by decide)) 4 0 fu (mset (mset (mset (mset (mset (mset M 154 5 0) 154 6 0) 154 7 0) 154 8 0) 154 9 0) 154 10 0) (by omega) (by omega)
  exact ⟨M', ((((((kp.rf.set (by decide)).set (by decide)).set (by decide)).set (by decide)).set (by decide)).set (by decide)).tr h1, h2⟩
theorem pc_7 (fu : Nat) (hfu : 300 ≤ fu) (M : mwM) (L : mwL) : ∃ M', kp [0, 1, 3, 732] M M' ∧ DX7_clear fu M L = some (M', L) := by
  unfold DX7_clear
  simp only [mlet]
  obtain ⟨M', h1, h2⟩ := clr (fX7_clear_h7 fu) 6 L [0, 1, 3, 732] (fun i M => mset (mset (mset (mset M 276 i 1) 277 i (vp_nar .boolean 0)) 278 i (vp_nar .boolean 0)) 280 i 0) (fun M => some (M, L)) (fun f i M hi => by
    show fX7_clear_i7 fu (fX7_clear_h7 fu f) (pI i) M L = _
    unfold fX7_clear_i7
    have hin := pI_in (k := i) (n := 6) hi (by omega)
    rw [if_neg (show ¬ (6 : Int32) ≤ pI i from le_no (a := 6) hi (by omega)), mck_ok hin]
    simp only [mlet]
    rw [mck_ok hin, mck_ok hin, mck_ok hin, pI_nat (by omega), pI_succ]) (fun f M => by
    show fX7_clear_i7 fu (fX7_clear_h7 fu f) (pI 6) M L = _
    unfold fX7_clear_i7
    rw [if_pos (show (6 : Int32) ≤ pI 6 from le_yes (a := 6) (by omega))]) (fun i M _ => (((kp.rf.set (by decide)).set (by decide)).set (by decide)).set (by decide)) 6 0 fu (mset M 275 8 0) (by omega) (by omega)
  exact ⟨M', (kp.rf.set (by decide)).tr h1, h2⟩
theorem kp.sub {S S' : List Nat} {M0 M : mwM} (h : kp S M0 M) (hs : ∀ a ∈ S', a ∈ S) : kp S' M0 M := fun a ha => h a (hs a ha)
theorem pc_1e (fu : Nat) (hfu : 300 ≤ fu) (M : mwM) (L : mwL) : ∃ M', kp [0, 1, 732] M M' ∧ M' 3 13 = 0 ∧ fX1_clear_i68 fu (fX1_clear_h68 fu 0) (pI 5) M L = some (M', L) := by
  unfold fX1_clear_i68
  rw [if_pos (show (5 : Int32) ≤ pI 5 from le_yes (a := 5) (by omega))]
  simp only [mlet]
  obtain ⟨M1, a1, e1⟩ := pc_4 fu hfu (mset (mset (mset (mset (mset (mset M 3 13 0) 3 14 0) 3 15 0) 3 16 0) 3 17 (-1)) 3 18 0) L
  obtain ⟨M2, a2, e2⟩ := pc_6 fu M1 L
  obtain ⟨M3, a3, e3⟩ := pc_10 fu M2 L
  obtain ⟨M4, a4, e4⟩ := pc_9 fu hfu M3 L
  obtain ⟨M5, a5, e5⟩ := pc_7 fu hfu M4 L
  rw [e1, mb2_s, e2, mb2_s, e3, mb2_s, e4, mb2_s, e5, mb2_s]
  have hall := (((a1.tr a2).tr a3).tr a4).tr a5
  refine ⟨M5, (((((((kp.rf.set (by decide)).set (by decide)).set (by decide)).set (by decide)).set (by decide)).set (by decide)).tr (hall.sub (by decide))), ?_, rfl⟩
  rw [hall 3 (by decide)]
  simp [mset]
theorem pc_1 (fu : Nat) (hfu : 300 ≤ fu) (M : mwM) (L : mwL) : ∃ M', kp [0, 1, 732] M M' ∧ M' 3 13 = 0 ∧ DX1_clear fu M L = some (M', L) := by
  obtain ⟨M1, h1, e1⟩ := clr (fX1_clear_h2 fu) 12 L [0, 1, 732] (fun i M => mset M 283 i (-1)) (fun M => fX1_clear_h23 fu fu (0, M, L)) (fun f i M hi => by
    show fX1_clear_i2 fu (fX1_clear_h2 fu f) (pI i) M L = _
    unfold fX1_clear_i2
    rw [if_neg (show ¬ (12 : Int32) ≤ pI i from le_no (a := 12) hi (by omega)), mck_ok (pI_in hi (by omega)), pI_nat (by omega), pI_succ]; rfl) (fun f M => by
    show fX1_clear_i2 fu (fX1_clear_h2 fu f) (pI 12) M L = _
    unfold fX1_clear_i2
    rw [if_pos (show (12 : Int32) ≤ pI 12 from le_yes (a := 12) (by omega))]) (fun i M _ => kp.rf.set (by decide)) 12 0 fu M (by omega) (by omega)
  obtain ⟨M2, h2, e2⟩ := clr (fX1_clear_h23 fu) 12 L [0, 1, 732] (fun i M => mset M ((293 + 36 * i) + 0) 5 (-1)) (fun M => fX1_clear_h47 fu fu (0, M, L)) (fun f i M hi => by
    show fX1_clear_i23 fu (fX1_clear_h23 fu f) (pI i) M L = _
    unfold fX1_clear_i23
    rw [if_neg (show ¬ (12 : Int32) ≤ pI i from le_no (a := 12) hi (by omega)), mck_ok (pI_in hi (by omega)), pI_nat (by omega), pI_succ]; rfl) (fun f M => by
    show fX1_clear_i23 fu (fX1_clear_h23 fu f) (pI 12) M L = _
    unfold fX1_clear_i23
    rw [if_pos (show (12 : Int32) ≤ pI 12 from le_yes (a := 12) (by omega))]) (fun i M hi => kp.rf.set (by
      simp only [List.mem_cons, List.not_mem_nil, or_false]
      omega)) 12 0 fu M1 (by omega) (by omega)
  obtain ⟨M3, h3, e3⟩ := clr (fX1_clear_h47 fu) 6 L [0, 1, 732] (fun i M => mset M 284 i (vp_nar .boolean 0)) (fun M => fX1_clear_h68 fu fu (0, M, L)) (fun f i M hi => by
    show fX1_clear_i47 fu (fX1_clear_h47 fu f) (pI i) M L = _
    unfold fX1_clear_i47
    rw [if_neg (show ¬ (6 : Int32) ≤ pI i from le_no (a := 6) hi (by omega)), mck_ok (pI_in hi (by omega)), pI_nat (by omega), pI_succ]; rfl) (fun f M => by
    show fX1_clear_i47 fu (fX1_clear_h47 fu f) (pI 6) M L = _
    unfold fX1_clear_i47
    rw [if_pos (show (6 : Int32) ≤ pI 6 from le_yes (a := 6) (by omega))]) (fun i M _ => kp.rf.set (by decide)) 6 0 fu M2 (by omega) (by omega)
  obtain ⟨M4, h4, e4⟩ := clr (fX1_clear_h68 fu) 5 L [0, 1, 732] (fun i M => mset M 292 i 0) (fun M => fX1_clear_i68 fu (fX1_clear_h68 fu 0) (pI 5) M L) (fun f i M hi => by
    show fX1_clear_i68 fu (fX1_clear_h68 fu f) (pI i) M L = _
    unfold fX1_clear_i68
    rw [if_neg (show ¬ (5 : Int32) ≤ pI i from le_no (a := 5) hi (by omega)), mck_ok (pI_in hi (by omega)), pI_nat (by omega), pI_succ]; rfl) (fun f M => by
    show fX1_clear_i68 fu (fX1_clear_h68 fu f) (pI 5) M L = _
    unfold fX1_clear_i68
    rw [if_pos (show (5 : Int32) ≤ pI 5 from le_yes (a := 5) (by omega)), if_pos (show (5 : Int32) ≤ pI 5 from le_yes (a := 5) (by omega))]) (fun i M _ => kp.rf.set (by decide)) 5 0 fu M3 (by omega) (by omega)
  obtain ⟨M5, h5, hz, e5⟩ := pc_1e fu hfu M4 L
  refine ⟨M5, (((h1.tr h2).tr h3).tr h4).tr h5, hz, ?_⟩
  unfold DX1_clear
  exact e1.trans (e2.trans (e3.trans (e4.trans e5)))
theorem w_system (fu : Nat) (hfu : 300 ≤ fu) (M : mwM) (L : mwL) (h : Fr M) : ∃ M1, DL_system fu M L = some (0, M1, mset L 1577 0 4) ∧ ∀ j, M1 732 j = M 732 j := by
  obtain ⟨M1, hk, hz, e⟩ := pc_1 fu hfu (mset M 0 4 (M 0 4 + 1)) L
  have hr : ∀ j, M1 1 j = 0 := fun j => by
    rw [hk 1 (by decide), mset_k (by decide)]; exact h.r j
  have hrd : ∃ M2, DX8_readText fu M1 L = some (M2, L) ∧ M2 1 12 = 4 ∧ ∀ j, M2 732 j = M1 732 j := by
    obtain ⟨f, hf⟩ : ∃ f, fu = f + 1 := ⟨fu - 1, by omega⟩
    unfold DX8_readText
    simp only [mlet]
    rw [show fX8_readText_h19 fu fu (0, 0, mset (mset (mset M1 1 3 0) 1 12 0) 1 13 0, L) = fX8_readText_i19 fu (fX8_readText_h19 fu f) 0 0 (mset (mset (mset M1 1 3 0) 1 12 0) 1 13 0) L by rw [hf]; rfl]
    generalize hMr : mset (mset (mset M1 1 3 0) 1 12 0) 1 13 0 = Mr
    have q4 : Mr 1 4 = 0 := by rw [← hMr]; simp [mset, hr]
    have q12 : Mr 1 12 = 0 := by rw [← hMr]; simp [mset]
    have q3 : Mr 3 13 = 0 := by rw [← hMr]; simp [mset, hz]
    have q7 : ∀ j, Mr 732 j = M1 732 j := fun j => by rw [← hMr]; simp [mset]
    refine ⟨mset (mset Mr 1 12 4) 1 13 0, by simp [fX8_readText_i19, fX8_readText_b87, fX8_readText_b98, DX8_judgeWhole, DX8_fail, fX8_fail_b17, mb2, mlet, q4, q12, q3], by simp [mset], fun j => by simp [mset, q7]⟩
  obtain ⟨M2, e2, h4, h7⟩ := hrd
  unfold DL_system DX11_system
  rw [h.a 4, if_pos (by decide)]
  simp only [mlet]
  rw [h.a 4] at e hk
  rw [e, mb2_s, e2, mb2_s, if_neg (by rw [h4]; decide)]
  refine ⟨mset M2 0 5 0, by simp [fX11_system_b59, fX11_system_b76, mzz, mlet, mb3, mset_s, mset_k, h4], fun j => ?_⟩
  rw [mset_k (by decide), h7, hk 732 (by decide), mset_k (by decide)]
theorem pa_18 (fu : Nat) (hfu : 300 ≤ fu) (a : Int32) (M : mwM) (L : mwL) : ∃ M', kp [0, 1, 732] M M' ∧ DX18_anew fu a M L = some (M', L) := by
  unfold DX18_anew
  simp only [mlet]
  obtain ⟨M1, h1, e1⟩ := clr (fX18_anew_h37 fu a) 32 L [0, 1, 732] (fun i M => mset M 920 i (vp_nar .boolean 0)) (fun M => fX18_anew_h58 fu a fu (0, M, L)) (fun f i M hi => by
    show fX18_anew_i37 fu a (fX18_anew_h37 fu a f) (pI i) M L = _
    unfold fX18_anew_i37
    rw [if_neg (show ¬ (32 : Int32) ≤ pI i from le_no (a := 32) hi (by omega)), mck_ok (pI_in hi (by omega)), pI_nat (by omega), pI_succ]; rfl) (fun f M => by
    show fX18_anew_i37 fu a (fX18_anew_h37 fu a f) (pI 32) M L = _
    unfold fX18_anew_i37
    rw [if_pos (show (32 : Int32) ≤ pI 32 from le_yes (a := 32) (by omega))]) (fun i M _ => kp.rf.set (by decide)) 32 0 fu (mset (mset (mset (mset (mset (mset (mset M 902 1 a) 902 2 0) 902 19 0) 902 20 0) 902 23 0) 902 24 0) 902 25 0) (by omega) (by omega)
  obtain ⟨M2, h2, e2⟩ := clr (fX18_anew_h58 fu a) 201 L [0, 1, 732] (fun i M => mset (mset (mset M 906 i 0) 916 i 0) 917 i 0) (fun M => some (M, L)) (fun f i M hi => by
    show fX18_anew_i58 fu a (fX18_anew_h58 fu a f) (pI i) M L = _
    unfold fX18_anew_i58
    have hin := pI_in (k := i) (n := 201) hi (by omega)
    rw [if_neg (show ¬ (201 : Int32) ≤ pI i from le_no (a := 201) hi (by omega)), mck_ok hin]
    simp only [mlet]
    rw [mck_ok hin, mck_ok hin, pI_nat (by omega), pI_succ]) (fun f M => by
    show fX18_anew_i58 fu a (fX18_anew_h58 fu a f) (pI 201) M L = _
    unfold fX18_anew_i58
    rw [if_pos (show (201 : Int32) ≤ pI 201 from le_yes (a := 201) (by omega))]) (fun i M _ => ((kp.rf.set (by decide)).set (by decide)).set (by decide)) 201 0 fu M1 (by omega) (by omega)
  exact ⟨M2, ((((((((kp.rf.set (by decide)).set (by decide)).set (by decide)).set (by decide)).set (by decide)).set (by decide)).set (by decide)).tr h1).tr h2, e1.trans e2⟩
theorem m_system (fu : Nat) (hfu : 300 ≤ fu) (M : mwM) (L : mwL) (h : ∀ j, j ≠ 97 → M 732 j = 0) : ∃ M2, DX19_system fu M L = some (4, M2, L) ∧ M2 732 0 = 0 := by
  unfold DX19_system
  rw [h 3 (by decide), if_neg (by decide)]
  unfold fX19_system_b15
  simp only [mlet]
  rw [mset_s, if_pos (by decide)]
  generalize hM14 : mset (mset (mset (mset (mset (mset (mset (mset (mset (mset (mset (mset (mset M 732 0 0) 732 3 (mset M 732 0 0 732 3 + 1)) 732 4 0) 732 5 0) 732 14 0) 732 19 0) 732 20 0) 732 24 0) 732 33 0) 732 45 0) 732 55 0) 732 62 0) 732 67 0 = M14
  have q2 : M14 732 2 = 0 := by rw [← hM14]; simp [mset, h]
  have q19 : M14 732 19 = 0 := by rw [← hM14]; simp [mset]
  have q0 : M14 732 0 = 0 := by rw [← hM14]; simp [mset]
  obtain ⟨M15, hk, e⟩ := pa_18 fu hfu 8 M14 L
  have p : ∀ j, M15 732 j = M14 732 j := fun j => by rw [hk 732 (by decide)]
  rw [e, mb2_s]
  obtain ⟨f, hf⟩ : ∃ f, fu = f + 1 := ⟨fu - 1, by omega⟩
  rw [show DX19_read fu M15 L = fX19_read_i2 fu (fX19_read_h2 fu f) 0 M15 L by unfold DX19_read; rw [hf]; rfl]
  refine ⟨mset (mset (mset (mset M15 732 11 4) 732 12 0) 732 4 0) 732 5 (mset (mset (mset M15 732 11 4) 732 12 0) 732 4 0 732 12), ?_, by simp [mset, p, q0]⟩
  have e3 : fX19_read_i2 fu (fX19_read_h2 fu f) 0 M15 L = some (0, mset (mset M15 732 11 4) 732 12 0, L) := by
    simp [fX19_read_i2, fX19_read_b108, DX19_fail, mb3, mlet, mzz, p, q2, q19]
  rw [e3, mb3_s, if_pos rfl]
  unfold fX19_system_b127 fX19_system_b128
  rw [show ∀ x : Option (Int32 × mwM × mwL), mzz 0 x = x from fun x => if_pos (Or.inl rfl)]
  simp only [mlet]
  rw [mset_s, if_pos rfl]
  simp [mset]

theorem ck0 {β : Type} {x : Option β} : mck 0 5 x = x := if_neg (by decide)
theorem ck1 {β : Type} {x : Option β} : mck 1 5 x = x := if_neg (by decide)
theorem ck2 {β : Type} {x : Option β} : mck 2 5 x = x := if_neg (by decide)
theorem ck3 {β : Type} {x : Option β} : mck 3 5 x = x := if_neg (by decide)
theorem ck4 {β : Type} {x : Option β} : mck 4 5 x = x := if_neg (by decide)
theorem lg_cmp_s (x : Int64) : lg_cmp x x = 0 := by
  unfold lg_cmp
  rw [if_neg (Int64.lt_irrefl), if_pos rfl]
theorem p_i23 (fu : Nat) (hfu : 300 ≤ fu) (xs : Nat → Int32) (r : (Int32 × mwM × mwL) → Option (Int32 × mwM × mwL)) (M : mwM) (L : mwL) (h : Fr M) (hr : ∀ M L, r (5, M, L) = some (1, M, L)) : ∃ M0 L0, fL_law_i23 fu 5 xs r 0 M L = some (1, M0, L0) := by
  have J : ∀ M L, fL_law_b1646 fu 5 xs r 0 M L = some (1, M, L) := fun M L => by
    unfold fL_law_b1646
    simp only [mlet, Int32.zero_add]
    exact hr M L
  unfold fL_law_i23
  rw [if_neg (by decide), ck0]
  simp only [mlet, Int32.zero_add, ck1, ck2, ck3, ck4]
  generalize xs (0 : Int32).toNatClampNeg &&& 31 = x
  generalize xs (1 : Int32).toNatClampNeg = a1
  generalize xs (2 : Int32).toNatClampNeg = a2
  generalize xs (3 : Int32).toNatClampNeg = a3
  generalize xs (4 : Int32).toNatClampNeg = a4
  by_cases c0 : x = 0
  · rw [if_pos c0]
    obtain ⟨M1, e1, k1⟩ := w_text fu hfu a1 a2 a3 a4 M L h
    obtain ⟨M2, e2, k2⟩ := m_text fu hfu a1 a2 a3 a4 M1 L (by rw [k1]; exact h.m 2 (by decide))
    rw [e1, mb3_s, e2, mb2_s]
    unfold DX19_thrown
    rw [mb3_s, if_pos k2]
    exact ⟨_, _, J _ _⟩
  rw [if_neg c0]
  by_cases c1 : x = 1
  · rw [if_pos c1]
    rw [w_cut fu a1 M L h]
    by_cases c : a1 < 0 ∨ 0 < a1
    · rw [if_pos c, mb3_s]
      obtain ⟨M2, e, e0⟩ := m_cut fu a1 M L h.m
      rw [if_pos c] at e e0
      rw [e, mb3_s]
      unfold DX19_thrown
      rw [mb3_s, if_pos e0, if_neg (by decide)]
      exact ⟨_, _, J _ _⟩
    · rw [if_neg c, mb3_s]
      obtain ⟨M2, e, e0⟩ := m_cut fu a1 (mset M 1 4 a1) (mset L 1577 0 a1.toInt64) (fun j hj => by rw [mset_k (by decide)]; exact h.m j hj)
      rw [if_neg c] at e e0
      rw [e, mb3_s]
      unfold DX19_thrown
      rw [mb3_s, if_pos e0, if_pos rfl, if_pos (by rw [show mset L 1577 0 a1.toInt64 1577 (0 : Int32).toNatClampNeg = a1.toInt64 from mset_s]; exact lg_cmp_s _)]
      exact ⟨_, _, J _ _⟩
  rw [if_neg c1]
  by_cases c2 : x = 2
  · rw [if_pos c2]
    obtain ⟨M1, e1, k1⟩ := w_system fu hfu M L h
    obtain ⟨M2, e2, k2⟩ := m_system fu hfu M1 (mset L 1577 0 4) (fun j hj => by rw [k1]; exact h.m j hj)
    rw [e1, mb3_s, e2, mb3_s]
    unfold DX19_thrown
    rw [mb3_s, if_pos k2, if_pos rfl, if_pos (by rw [show mset L 1577 0 4 1577 (0 : Int32).toNatClampNeg = 4 from mset_s]; decide)]
    exact ⟨_, _, J _ _⟩
  rw [if_neg c2]
  by_cases c3 : x = 3
  · rw [if_pos c3]
    rw [w_place fu M L h, mb3_s, m_place fu M L h, mb3_s, if_pos rfl]
    exact ⟨_, _, J _ _⟩
  rw [if_neg c3]
  by_cases c4 : x = 4
  · rw [if_pos c4]
    rw [w_count fu a1 M L h, mb3_s, m_count fu a1 M L h, mb3_s]
    unfold DX19_thrown
    rw [mb3_s, if_pos mset_s, if_neg (by split <;> decide)]
    exact ⟨_, _, J _ _⟩
  rw [if_neg c4]
  by_cases c5 : x = 5
  · rw [if_pos c5]
    rw [w_frame fu a1 a2 M L h, mb3_s, m_frame fu a1 a2 M L h, mb3_s]
    unfold DX19_thrown
    rw [mb3_s, if_pos mset_s, if_neg (by decide)]
    exact ⟨_, _, J _ _⟩
  rw [if_neg c5]
  by_cases c6 : x = 6
  · rw [if_pos c6]
    have key : ∀ z, ∃ M0 L0, fL_law_b490 fu 5 xs r 0 a1 z M L = some (1, M0, L0) := fun z => by
      unfold fL_law_b490
      rw [w_signal fu a1 z M L h, mb3_s]
      simp only [Int32.zero_add, ck1, ck2]
      have k2 : ∀ y w, ∃ M0 L0, fL_law_b517 fu 5 xs r 0 1 y w M L = some (1, M0, L0) := fun y w => by
        unfold fL_law_b517
        rw [m_signal fu y w M L h, mb3_s]
        unfold DX19_thrown
        rw [mb3_s, if_pos mset_s, if_neg (by decide)]
        exact ⟨_, _, J _ _⟩
      split
      · exact k2 _ _
      · exact k2 _ _
    split
    · exact key _
    · exact key _
  rw [if_neg c6]
  by_cases c7 : x = 7
  · rw [if_pos c7]
    rw [w_run fu a1 M L h, mb3_s, m_run fu a1 M L h, mb3_s]
    unfold DX19_thrown
    rw [mb3_s, if_pos mset_s, if_neg (by split <;> decide)]
    exact ⟨_, _, J _ _⟩
  rw [if_neg c7]
  by_cases c8 : x = 8
  · rw [if_pos c8]
    rw [w_time fu M L h, mb3_s, m_time fu M L h, mb3_s, if_pos rfl]
    exact ⟨_, _, J _ _⟩
  rw [if_neg c8]
  by_cases c9 : x = 9
  · rw [if_pos c9]
    rw [w_bit fu a1 M L h, mb3_s, m_bit fu a1 M L h, mb3_s]
    unfold DX19_thrown
    rw [mb3_s, if_pos mset_s, if_neg (by decide)]
    exact ⟨_, _, J _ _⟩
  rw [if_neg c9]
  by_cases c10 : x = 10
  · rw [if_pos c10]
    rw [w_node fu a1 a2 M L h, mb3_s, m_node fu a1 a2 M L h, mb3_s]
    unfold DX19_thrown
    rw [mb3_s, if_pos mset_s, if_neg (by decide)]
    exact ⟨_, _, J _ _⟩
  rw [if_neg c10]
  by_cases c11 : x = 11
  · rw [if_pos c11]
    rw [w_error fu a1 a2 M L h, mb3_s, m_error fu a1 a2 M L h, mb3_s]
    unfold DX19_thrown
    rw [mb3_s, if_pos mset_s, if_neg (by decide)]
    exact ⟨_, _, J _ _⟩
  rw [if_neg c11]
  by_cases c12 : x = 12
  · rw [if_pos c12]
    rw [w_flip fu a1 a2 M L h, mb3_s, m_flip fu a1 a2 M L h, mb2_s]
    unfold DX19_thrown
    rw [mb3_s, if_pos mset_s]
    exact ⟨_, _, J _ _⟩
  rw [if_neg c12]
  by_cases c13 : x = 13
  · rw [if_pos c13]
    have key : ∀ z, ∃ M0 L0, fL_law_b883 fu 5 xs r 0 a1 z M L = some (1, M0, L0) := fun z => by
      unfold fL_law_b883
      rw [w_silence fu a1 z M L h, mb3_s]
      simp only [Int32.zero_add, ck1, ck2]
      have k2 : ∀ y w, ∃ M0 L0, fL_law_b910 fu 5 xs r 0 1 y w M L = some (1, M0, L0) := fun y w => by
        unfold fL_law_b910
        rw [m_silence fu y w M L h, mb3_s]
        unfold DX19_thrown
        rw [mb3_s, if_pos mset_s, if_neg (by decide)]
        exact ⟨_, _, J _ _⟩
      split
      · exact k2 _ _
      · exact k2 _ _
    split
    · exact key _
    · exact key _
  rw [if_neg c13]
  by_cases c14 : x = 14
  · rw [if_pos c14]
    rw [w_running fu a1 a2 M L h, mb3_s, m_running fu a1 a2 M L h, mb3_s]
    unfold DX19_thrown
    rw [mb3_s, if_pos mset_s, if_neg (by decide)]
    exact ⟨_, _, J _ _⟩
  rw [if_neg c14]
  by_cases c15 : x = 15
  · rw [if_pos c15]
    rw [w_task fu a1 a2 M L h, mb3_s, m_task fu a1 a2 M L h, mb3_s]
    unfold DX19_thrown
    rw [mb3_s, if_pos mset_s, if_neg (by decide)]
    exact ⟨_, _, J _ _⟩
  rw [if_neg c15]
  by_cases c16 : x = 16
  · rw [if_pos c16]
    rw [w_active fu a1 a2 M L h, mb3_s, m_active fu a1 a2 M L h, mb3_s]
    unfold DX19_thrown
    rw [mb3_s, if_pos mset_s, if_neg (by decide)]
    exact ⟨_, _, J _ _⟩
  rw [if_neg c16]
  by_cases c17 : x = 17
  · rw [if_pos c17]
    rw [w_value fu a1 a2 M L h, mb3_s, m_value fu a1 a2 M L h, mb3_s]
    unfold DX19_thrown
    rw [mb3_s, if_pos mset_s, if_neg (by decide)]
    exact ⟨_, _, J _ _⟩
  rw [if_neg c17]
  by_cases c18 : x = 18
  · rw [if_pos c18]
    rw [w_chart fu a1 a2 M L h, mb3_s, m_chart fu a1 a2 M L h, mb3_s]
    unfold DX19_thrown
    rw [mb3_s, if_pos mset_s, if_neg (by decide)]
    exact ⟨_, _, J _ _⟩
  rw [if_neg c18]
  by_cases c19 : x = 19
  · rw [if_pos c19]
    rw [w_trouble fu a1 a2 M L h, mb3_s, m_trouble fu a1 a2 M L h, mb3_s]
    unfold DX19_thrown
    rw [mb3_s, if_pos mset_s, if_neg (by decide)]
    exact ⟨_, _, J _ _⟩
  rw [if_neg c19]
  by_cases c20 : x = 20
  · rw [if_pos c20]
    have key : ∀ z, ∃ M0 L0, fL_law_b1368 fu 5 xs r 0 z M L = some (1, M0, L0) := fun z => by
      unfold fL_law_b1368
      rw [w_cycle fu z M L h, mb3_s]
      simp only [Int32.zero_add, ck1]
      have k2 : ∀ w, ∃ M0 L0, fL_law_b1389 fu 5 xs r 0 1 w M L = some (1, M0, L0) := fun w => by
        unfold fL_law_b1389
        rw [m_cycle fu w M L h, mb3_s]
        unfold DX19_thrown
        rw [mb3_s, if_pos mset_s, if_neg (by decide)]
        exact ⟨_, _, J _ _⟩
      split
      · exact k2 _
      · exact k2 _
    split
    · exact key _
    · exact key _
  rw [if_neg c20]
  by_cases c21 : x = 21
  · rw [if_pos c21]
    rw [w_counted fu a1 M L h]
    by_cases c : a1 < 0 ∨ 4 < a1
    · rw [if_pos c, mb3_s, m_counted fu a1 M L h, mb3_s, if_pos c]
      unfold DX19_thrown
      rw [mb3_s, if_pos mset_s, if_neg (by decide)]
      exact ⟨_, _, J _ _⟩
    · rw [if_neg c, mb3_s, m_counted fu a1 M _ h, mb3_s, if_neg c]
      unfold DX19_thrown
      rw [mb3_s, if_pos mset_s, if_pos rfl, if_pos (by rw [show mset L 1577 0 0 1577 (0 : Int32).toNatClampNeg = 0 from mset_s]; decide)]
      exact ⟨_, _, J _ _⟩
  rw [if_neg c21]
  by_cases c22 : x = 22
  · rw [if_pos c22]
    obtain ⟨M1, e1, k1⟩ := w_say fu (a1.toInt8.toInt32) M L h
    obtain ⟨M2, e2⟩ := m_say fu (a1.toInt8.toInt32) M1 L (fun j hj => by rw [k1]; exact h.m j hj)
    rw [e1, mb3_s, e2, mb3_s, if_pos rfl]
    exact ⟨_, _, J _ _⟩
  rw [if_neg c22]
  by_cases c23 : x = 23
  · rw [if_pos c23]
    rw [w_ask fu a1 M L h, mb3_s, m_ask fu a1 M L h, mb3_s]
    unfold DX19_thrown
    rw [mb3_s, if_pos mset_s, if_neg (by decide)]
    exact ⟨_, _, J _ _⟩
  rw [if_neg c23]
  by_cases c24 : x = 24
  · rw [if_pos c24]
    rw [w_asking fu M L h, mb3_s, m_asking fu M L h, mb3_s, if_pos rfl]
    exact ⟨_, _, J _ _⟩
  rw [if_neg c24]
  by_cases c25 : x = 25
  · rw [if_pos c25]
    rw [w_answer fu a1 M L h, mb3_s, m_answer fu a1 M L h, mb3_s]
    unfold DX19_thrown
    rw [mb3_s, if_pos mset_s, if_neg (by decide)]
    exact ⟨_, _, J _ _⟩
  rw [if_neg c25]
  by_cases c26 : x = 26
  · rw [if_pos c26]
    rw [w_answers fu M L h, mb3_s, m_answers fu M L h, mb3_s, if_pos rfl]
    exact ⟨_, _, J _ _⟩
  rw [if_neg c26]
  exact ⟨_, _, J _ _⟩
theorem p_law (fu : Nat) (hfu : 300 ≤ fu) (n : Nat) (hn : n ≤ 5) (xs : Nat → Int32) (M : mwM) (L : mwL) (h : Fr M) : ∃ M0 L0, DL_law fu 2 n xs M L = some (1, M0, L0) := by
  show ∃ M0 L0, fL_law_i23 fu n xs (fL_law_h23 fu n xs 1) 0 M L = some (1, M0, L0)
  by_cases h5 : n = 5
  · subst h5
    refine p_i23 fu hfu xs _ M L h (fun M L => ?_)
    show fL_law_i23 fu 5 xs (fL_law_h23 fu 5 xs 0) 5 M L = _
    unfold fL_law_i23
    rw [if_pos (by decide)]
  · refine ⟨M, L, ?_⟩
    unfold fL_law_i23
    rw [if_pos]
    have : n = 0 ∨ n = 1 ∨ n = 2 ∨ n = 3 ∨ n = 4 := by omega
    rcases this with rfl | rfl | rfl | rfl | rfl <;> decide
