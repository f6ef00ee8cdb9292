/-! CALLS: time, asking, answers, answer -/
/-- how a call that never throws ends -/
def CaS {α : Type} (Sb : Nat → Nat) (P Q : Option (α × mwM × mwL)) : Prop := ∃ (r : α) (A' M' : mwM) (Lc' Lm' : mwL), P = some (r, A', Lc') ∧ Q = some (r, M', Lm') ∧ HS A' M' Lc' Lm' Sb
theorem st_ltime {fu : Nat} {A M : mwM} {Lc Lm : mwL} {Sb : Nat → Nat} (h : HS A M Lc Lm Sb) : CaS Sb (DX11_time fu A Lc) (DX19_time fu M Lm) := by
  unfold DX11_time DX19_time fX11_time_b18 fX19_time_b20
  rw [mlet_e, mset_n (show ¬ (732 = 732 ∧ 4 = 0) by omega), mset_n (show ¬ (732 = 732 ∧ 83 = 0) by omega)]
  rcases h.2.2.2.2 with ⟨c1, c2⟩ | ⟨c1, c2, C, S, F, W, R, X, T, t, E, d, tu, g, own, bd, si, p, o, e, ec, tc, fl, c3, c4, c5⟩
  · rw [if_pos c1, if_pos c2]
    exact ⟨0, A, _, Lc, Lm, rfl, rfl, HS_0 h⟩
  rw [if_neg (show ¬ A 0 5 = 0 by rw [c1]; decide), if_neg (show ¬ M 732 4 = 0 by rw [c2]; decide)]
  obtain ⟨hTk, _⟩ := c3
  have k16 := hTk.2.2.2.2.2.2.2.2.2.2.2.1
  have k83 := hTk.2.2.2.2.2.2.2.2.2.2.2.2.1
  rw [k16, k83]
  exact ⟨sI t, A, _, Lc, Lm, rfl, rfl, HS_0 h⟩
theorem st_lasking {fu : Nat} {A M : mwM} {Lc Lm : mwL} {Sb : Nat → Nat} (h : HS A M Lc Lm Sb) : CaS Sb (DX11_asking fu A Lc) (DX19_asking fu M Lm) := by
  unfold DX11_asking DX19_asking fX11_asking_b18 fX19_asking_b20
  rw [mlet_e, mset_n (show ¬ (732 = 732 ∧ 4 = 0) by omega), mset_n (show ¬ (732 = 732 ∧ 97 = 0) by omega)]
  rcases h.2.2.2.2 with ⟨c1, c2⟩ | ⟨c1, c2, C, S, F, W, R, X, T, t, E, d, tu, g, own, bd, si, p, o, e, ec, tc, fl, c3, c4, c5⟩
  · rw [if_pos c1, if_pos c2]
    exact ⟨-1, A, _, Lc, Lm, rfl, rfl, HS_0 h⟩
  rw [if_neg (show ¬ A 0 5 = 0 by rw [c1]; decide), if_neg (show ¬ M 732 4 = 0 by rw [c2]; decide)]
  obtain ⟨_, hTr, _⟩ := c3
  rw [hTr.2.2.2.2.2.2.1]
  exact ⟨_, A, _, Lc, Lm, rfl, rfl, HS_0 h⟩
theorem car_ans {fu : Nat} {A M : mwM} {Lc Lm : mwL} {C S F W R X T t E : Nat} {d : Nat → Nat → Nat} {tu : Nat → Bool} {g : Nat → Nat → Nat} {own Sb bd : Nat → Nat} {si : Nat → Bool} {p : PB} {o : Nat → Nat → Nat} {e ec tc fl : Nat → Nat} (h : CAR A M Lc Lm C S F W R X T t E d tu g own Sb bd si p o e ec tc fl) (c1 : A 0 5 = 1) : ∃ z, z ≤ 100 ∧ M 732 98 = sI z ∧ DX11_answerLength fu A Lc = some (sI z, A, Lc) ∧ (0 < z → ∃ (m : Nat) (v : Nat → Nat), m ≤ 100 ∧ A 3 18 = sI m ∧ ∀ j, j < z → A (162 + m) j = sI (v j) ∧ M 931 j = sI (v j)) := by
  obtain ⟨_, ⟨hV, hTC, _, _, _, _, _, _, hAn, _⟩, _⟩ := h
  unfold DX11_answerLength fX11_answerLength_b40 fX11_answerLength_b41
  rw [if_neg (show ¬ A 0 5 = 0 by rw [c1]; decide)]
  obtain ⟨⟨v1, _⟩, v2, _⟩ := hV
  rcases hAn with ⟨a1, a2⟩ | ⟨m, m1, m2, m3, m4, m5⟩
  · exact ⟨0, by omega, a2, by rw [a1, if_pos (show sI 0 ≤ 0 by decide)]; rfl, fun z => absurd z (by omega)⟩
  · obtain ⟨_, q1, q2, q3, _⟩ := v2 m m1 m2
    obtain ⟨_, _, w3, _, _, w6⟩ := hTC.2.1 m m1 m2
    refine ⟨p.1 2 m, by omega, m4, ?_, fun _ => ⟨m, o m, by omega, m3, fun j hj => ⟨w6 j hj, m5 j hj⟩⟩⟩
    rw [m3, if_neg (show ¬ sI m ≤ 0 by rw [sI_lel (by omega) (by decide)]; omega), mck_s (by omega) (by omega), sI_nn (by omega), w3]
theorem st_lanswers {fu : Nat} {A M : mwM} {Lc Lm : mwL} {Sb : Nat → Nat} (h : HS A M Lc Lm Sb) : CaS Sb (DX11_answers fu A Lc) (DX19_answers fu M Lm) := by
  unfold DX11_answers DX19_answers fX19_answers_b20
  rw [mlet_e, mset_n (show ¬ (732 = 732 ∧ 4 = 0) by omega), mset_n (show ¬ (732 = 732 ∧ 98 = 0) by omega)]
  rcases h.2.2.2.2 with ⟨c1, c2⟩ | ⟨c1, c2, C, S, F, W, R, X, T, t, E, d, tu, g, own, bd, si, p, o, e, ec, tc, fl, c3, c4, c5⟩
  · unfold DX11_answerLength fX11_answerLength_b40 fX11_answerLength_b41
    rw [if_pos c1, if_pos c2, mb3_s]
    exact ⟨0, A, _, Lc, Lm, rfl, rfl, HS_0 h⟩
  obtain ⟨z, _, z2, z3, _⟩ := car_ans (fu := fu) c3 c1
  rw [z3, mb3_s, if_neg (show ¬ M 732 4 = 0 by rw [c2]; decide), z2]
  exact ⟨sI z, A, _, Lc, Lm, rfl, rfl, HS_0 h⟩
theorem st_lanswer {fu : Nat} {a1 : Int32} {A M : mwM} {Lc Lm : mwL} {Sb : Nat → Nat} (h : HS A M Lc Lm Sb) : CaQ mp32 Sb (DX11_answer fu a1 A Lc) (DX19_answer fu a1 M Lm) := by
  unfold DX11_answer DX19_answer fX11_answer_b12 fX19_answer_b20 fX19_answer_b25 fX19_answer_b45
  simp only [mlet_e, mset_s]
  rw [if_neg (show ¬ (1 : Int32) ≤ 0 by decide), if_pos (show (0 : Int32) ≤ 0 by decide)]
  have bad : CaQ mp32 Sb (some ((3, 0), A, Lc)) (some (0, mset M 732 0 1, Lm)) := ⟨3, 0, A, _, Lc, Lm, rfl, rfl, mset_s, HS_0 h⟩
  by_cases c0 : a1 < 0
  · rw [if_pos c0, if_pos c0]
    by_cases q : M 732 4 = 0
    · rw [if_pos q]; exact bad
    · rw [if_neg q]; exact bad
  rw [if_neg c0, if_neg c0]
  rcases h.2.2.2.2 with ⟨c1, c2⟩ | ⟨c1, c2, C, S, F, W, R, X, T, t, E, d, tu, g, own, bd, si, p, o, e, ec, tc, fl, c3, c4, c5⟩
  · unfold DX11_answerLength fX11_answerLength_b40 fX11_answerLength_b41
    rw [if_pos c1, if_pos c2, mb3_s, if_neg c0]
    exact bad
  obtain ⟨z, z1, z2, z3, z4⟩ := car_ans (fu := fu) c3 c1
  rw [z3, mb3_s, if_neg (show ¬ M 732 4 = 0 by rw [c2]; decide), z2]
  by_cases cS : a1 < sI z
  rotate_left
  · rw [if_neg cS, if_neg cS]
    exact bad
  rw [if_pos cS, if_pos cS]
  obtain ⟨i, hi, rfl⟩ := nat_lt' c0 cS (by omega)
  obtain ⟨m, v, m1, m2, m3⟩ := z4 (by omega)
  obtain ⟨w1, w2⟩ := m3 i hi
  rw [m2, mck_s (by omega) (by omega), mck_s (by omega) (by omega), mck_s (by omega) (by omega), sI_nn (by omega), sI_nn (by omega), mset_n (by omega), w1, w2]
  exact ⟨0, sI (v i), A, _, Lc, Lm, rfl, rfl, mset_s, HS_0 h⟩
