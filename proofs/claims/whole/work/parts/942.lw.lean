/-! THE CALLS ON ONE MEMORY (printed by mk_lw.py) -/
/-- a call and its wrapper: both sides end alike -/
def DQ {α : Type} (lg : α → Int64) (Sb : Nat → Nat) (D : mwM → mwL → Option (Int32 × mwM × mwL)) (G : mwM → mwL → Option (α × mwM × mwL)) (M : mwM) (L : mwL) : Prop := ∃ k r M1 L1 M2 L2, D M L = some (k, M1, L1) ∧ G M1 L1 = some (r, M2, L2) ∧ M2 732 0 = k ∧ (k = 0 → L2 1577 0 = lg r) ∧ JJ Sb M2 L2
def DT (Sb : Nat → Nat) (D : mwM → mwL → Option (Int32 × mwM × mwL)) (G : mwM → mwL → Option (mwM × mwL)) (M : mwM) (L : mwL) : Prop := ∃ k M1 L1 M2 L2, D M L = some (k, M1, L1) ∧ G M1 L1 = some (M2, L2) ∧ M2 732 0 = k ∧ JJ Sb M2 L2
def DS (Sb : Nat → Nat) (F G : mwM → mwL → Option (Int32 × mwM × mwL)) (M : mwM) (L : mwL) : Prop := ∃ r M1 L1 M2 L2, F M L = some (r, M1, L1) ∧ G M1 L1 = some (r, M2, L2) ∧ JJ Sb M2 L2
theorem lw_cut {fu : Nat} {a1 : Int32} {M : mwM} {L : mwL} {Sb : Nat → Nat} (hfu : 150000 ≤ fu) (h : JJ Sb M L) : DQ (fun r => r.toInt64) Sb (DL_cut fu a1) (DX19_cut fu a1) M L := by
  obtain ⟨w, r, M1, L1, e1, hx⟩ := one_w (mp := mp21) (F := DX11_cut fu a1) (G := DX19_cut fu a1) (fun A M Lc Lm h h5 => st_lcut h) (fun P hC M L hp => y_DX11_cut (c12 hC) hp) (fun P hC M L hp => y_DX19_cut hC hp) h
  have hw := v_DX11_cut _ e1
  dsimp only at hw
  rcases hw with rfl | rfl
  · obtain ⟨M2, L2, x1, x2, x3, x4⟩ := hx (mset L1 1577 0 r.toInt64) (fun a u => ms_f u)
    exact ⟨0, r, M1, _, M2, L2, by unfold DL_cut; rw [e1]; rfl, x1, x2, fun _ => by rw [x4]; exact mset_s, x3⟩
  · obtain ⟨M2, L2, x1, x2, x3, x4⟩ := hx L1 (fun _ _ => rfl)
    exact ⟨1, r, M1, L1, M2, L2, by unfold DL_cut; rw [e1]; rfl, x1, x2, fun q => absurd q (by decide), x3⟩
theorem lw_count {fu : Nat} {a1 : Int32} {M : mwM} {L : mwL} {Sb : Nat → Nat} (hfu : 150000 ≤ fu) (h : JJ Sb M L) : DQ (fun r => r.toInt64) Sb (DL_count fu a1) (DX19_count fu a1) M L := by
  obtain ⟨w, r, M1, L1, e1, hx⟩ := one_w (mp := mp21) (F := DX11_count fu a1) (G := DX19_count fu a1) (fun A M Lc Lm h h5 => st_count h) (fun P hC M L hp => y_DX11_count (c12 hC) hp) (fun P hC M L hp => y_DX19_count hC hp) h
  have hw := v_DX11_count _ e1
  dsimp only at hw
  rcases hw with rfl | rfl | rfl
  · obtain ⟨M2, L2, x1, x2, x3, x4⟩ := hx (mset L1 1577 0 r.toInt64) (fun a u => ms_f u)
    exact ⟨0, r, M1, _, M2, L2, by unfold DL_count; rw [e1]; rfl, x1, x2, fun _ => by rw [x4]; exact mset_s, x3⟩
  · obtain ⟨M2, L2, x1, x2, x3, x4⟩ := hx L1 (fun _ _ => rfl)
    exact ⟨2, r, M1, L1, M2, L2, by unfold DL_count; rw [e1]; rfl, x1, x2, fun q => absurd q (by decide), x3⟩
  · obtain ⟨M2, L2, x1, x2, x3, x4⟩ := hx L1 (fun _ _ => rfl)
    exact ⟨1, r, M1, L1, M2, L2, by unfold DL_count; rw [e1]; rfl, x1, x2, fun q => absurd q (by decide), x3⟩
theorem lw_frame {fu : Nat} {a1 a2 : Int32} {M : mwM} {L : mwL} {Sb : Nat → Nat} (hfu : 150000 ≤ fu) (h : JJ Sb M L) : DQ (fun r => r.toInt64) Sb (DL_frame fu a1 a2) (DX19_frame fu a1 a2) M L := by
  obtain ⟨w, r, M1, L1, e1, hx⟩ := one_w (mp := mp32) (F := DX11_frame fu a1 a2) (G := DX19_frame fu a1 a2) (fun A M Lc Lm h h5 => st_lframe h) (fun P hC M L hp => y_DX11_frame (c12 hC) hp) (fun P hC M L hp => y_DX19_frame hC hp) h
  have hw := v_DX11_frame _ e1
  dsimp only at hw
  rcases hw with rfl | rfl | rfl
  · obtain ⟨M2, L2, x1, x2, x3, x4⟩ := hx (mset L1 1577 0 r.toInt64) (fun a u => ms_f u)
    exact ⟨0, r, M1, _, M2, L2, by unfold DL_frame; rw [e1]; rfl, x1, x2, fun _ => by rw [x4]; exact mset_s, x3⟩
  · obtain ⟨M2, L2, x1, x2, x3, x4⟩ := hx L1 (fun _ _ => rfl)
    exact ⟨2, r, M1, L1, M2, L2, by unfold DL_frame; rw [e1]; rfl, x1, x2, fun q => absurd q (by decide), x3⟩
  · obtain ⟨M2, L2, x1, x2, x3, x4⟩ := hx L1 (fun _ _ => rfl)
    exact ⟨1, r, M1, L1, M2, L2, by unfold DL_frame; rw [e1]; rfl, x1, x2, fun q => absurd q (by decide), x3⟩
theorem lw_signal {fu : Nat} {a1 a2 : Int32} {M : mwM} {L : mwL} {Sb : Nat → Nat} (hfu : 150000 ≤ fu) (h : JJ Sb M L) : DQ (fun r => r.toInt64) Sb (DL_signal fu a1 a2) (DX19_signal fu a1 a2) M L := by
  obtain ⟨w, r, M1, L1, e1, hx⟩ := one_w (mp := mp32) (F := DX11_signal fu a1 a2) (G := DX19_signal fu a1 a2) (fun A M Lc Lm h h5 => st_lsignal h) (fun P hC M L hp => y_DX11_signal (c12 hC) hp) (fun P hC M L hp => y_DX19_signal hC hp) h
  have hw := v_DX11_signal _ e1
  dsimp only at hw
  rcases hw with rfl | rfl
  · obtain ⟨M2, L2, x1, x2, x3, x4⟩ := hx (mset L1 1577 0 r.toInt64) (fun a u => ms_f u)
    exact ⟨0, r, M1, _, M2, L2, by unfold DL_signal; rw [e1]; rfl, x1, x2, fun _ => by rw [x4]; exact mset_s, x3⟩
  · obtain ⟨M2, L2, x1, x2, x3, x4⟩ := hx L1 (fun _ _ => rfl)
    exact ⟨1, r, M1, L1, M2, L2, by unfold DL_signal; rw [e1]; rfl, x1, x2, fun q => absurd q (by decide), x3⟩
theorem lw_run {fu : Nat} {a1 : Int32} {M : mwM} {L : mwL} {Sb : Nat → Nat} (hfu : 150000 ≤ fu) (h : JJ Sb M L) : DQ (fun r => r.toInt64) Sb (DL_run fu a1) (DX19_run fu a1) M L := by
  obtain ⟨w, r, M1, L1, e1, hx⟩ := one_w (mp := mp21) (F := DX11_run fu a1) (G := DX19_run fu a1) (fun A M Lc Lm h h5 => by
    obtain ⟨w, r, A9, M9, Lc9, Lm9, e1, e2, _, e4, e5⟩ := st_run (fu := fu) (a1 := a1) (by omega) h
    exact ⟨w, r, A9, M9, Lc9, Lm9, e1, e2, e4, e5⟩) (fun P hC M L hp => y_DX11_run (c12 hC) hp) (fun P hC M L hp => y_DX19_run hC hp) h
  have hw := v_DX11_run _ e1
  dsimp only at hw
  rcases hw with rfl | rfl | rfl
  · obtain ⟨M2, L2, x1, x2, x3, x4⟩ := hx (mset L1 1577 0 r.toInt64) (fun a u => ms_f u)
    exact ⟨0, r, M1, _, M2, L2, by unfold DL_run; rw [e1]; rfl, x1, x2, fun _ => by rw [x4]; exact mset_s, x3⟩
  · obtain ⟨M2, L2, x1, x2, x3, x4⟩ := hx L1 (fun _ _ => rfl)
    exact ⟨2, r, M1, L1, M2, L2, by unfold DL_run; rw [e1]; rfl, x1, x2, fun q => absurd q (by decide), x3⟩
  · obtain ⟨M2, L2, x1, x2, x3, x4⟩ := hx L1 (fun _ _ => rfl)
    exact ⟨1, r, M1, L1, M2, L2, by unfold DL_run; rw [e1]; rfl, x1, x2, fun q => absurd q (by decide), x3⟩
theorem lw_bit {fu : Nat} {a1 : Int32} {M : mwM} {L : mwL} {Sb : Nat → Nat} (hfu : 150000 ≤ fu) (h : JJ Sb M L) : DQ (fun r => r.toInt64) Sb (DL_bit fu a1) (DX19_bit fu a1) M L := by
  obtain ⟨w, r, M1, L1, e1, hx⟩ := one_w (mp := mp32) (F := DX11_bit fu a1) (G := DX19_bit fu a1) (fun A M Lc Lm h h5 => st_lbit h) (fun P hC M L hp => y_DX11_bit (c12 hC) hp) (fun P hC M L hp => y_DX19_bit hC hp) h
  have hw := v_DX11_bit _ e1
  dsimp only at hw
  rcases hw with rfl | rfl
  · obtain ⟨M2, L2, x1, x2, x3, x4⟩ := hx (mset L1 1577 0 r.toInt64) (fun a u => ms_f u)
    exact ⟨0, r, M1, _, M2, L2, by unfold DL_bit; rw [e1]; rfl, x1, x2, fun _ => by rw [x4]; exact mset_s, x3⟩
  · obtain ⟨M2, L2, x1, x2, x3, x4⟩ := hx L1 (fun _ _ => rfl)
    exact ⟨1, r, M1, L1, M2, L2, by unfold DL_bit; rw [e1]; rfl, x1, x2, fun q => absurd q (by decide), x3⟩
theorem lw_node {fu : Nat} {a1 a2 : Int32} {M : mwM} {L : mwL} {Sb : Nat → Nat} (hfu : 150000 ≤ fu) (h : JJ Sb M L) : DQ (fun r => r.toInt64) Sb (DL_node fu a1 a2) (DX19_node fu a1 a2) M L := by
  obtain ⟨w, r, M1, L1, e1, hx⟩ := one_w (mp := mp32) (F := DX11_node fu a1 a2) (G := DX19_node fu a1 a2) (fun A M Lc Lm h h5 => st_lnode (by omega) h) (fun P hC M L hp => y_DX11_node (c12 hC) hp) (fun P hC M L hp => y_DX19_node hC hp) h
  have hw := v_DX11_node _ e1
  dsimp only at hw
  rcases hw with rfl | rfl | rfl
  · obtain ⟨M2, L2, x1, x2, x3, x4⟩ := hx (mset L1 1577 0 r.toInt64) (fun a u => ms_f u)
    exact ⟨0, r, M1, _, M2, L2, by unfold DL_node; rw [e1]; rfl, x1, x2, fun _ => by rw [x4]; exact mset_s, x3⟩
  · obtain ⟨M2, L2, x1, x2, x3, x4⟩ := hx L1 (fun _ _ => rfl)
    exact ⟨2, r, M1, L1, M2, L2, by unfold DL_node; rw [e1]; rfl, x1, x2, fun q => absurd q (by decide), x3⟩
  · obtain ⟨M2, L2, x1, x2, x3, x4⟩ := hx L1 (fun _ _ => rfl)
    exact ⟨1, r, M1, L1, M2, L2, by unfold DL_node; rw [e1]; rfl, x1, x2, fun q => absurd q (by decide), x3⟩
theorem lw_error {fu : Nat} {a1 a2 : Int32} {M : mwM} {L : mwL} {Sb : Nat → Nat} (hfu : 150000 ≤ fu) (h : JJ Sb M L) : DQ (fun r => r.toInt64) Sb (DL_error fu a1 a2) (DX19_error fu a1 a2) M L := by
  obtain ⟨w, r, M1, L1, e1, hx⟩ := one_w (mp := mp32) (F := DX11_error fu a1 a2) (G := DX19_error fu a1 a2) (fun A M Lc Lm h h5 => st_lerror h) (fun P hC M L hp => y_DX11_error (c12 hC) hp) (fun P hC M L hp => y_DX19_error hC hp) h
  have hw := v_DX11_error _ e1
  dsimp only at hw
  rcases hw with rfl | rfl | rfl
  · obtain ⟨M2, L2, x1, x2, x3, x4⟩ := hx (mset L1 1577 0 r.toInt64) (fun a u => ms_f u)
    exact ⟨0, r, M1, _, M2, L2, by unfold DL_error; rw [e1]; rfl, x1, x2, fun _ => by rw [x4]; exact mset_s, x3⟩
  · obtain ⟨M2, L2, x1, x2, x3, x4⟩ := hx L1 (fun _ _ => rfl)
    exact ⟨2, r, M1, L1, M2, L2, by unfold DL_error; rw [e1]; rfl, x1, x2, fun q => absurd q (by decide), x3⟩
  · obtain ⟨M2, L2, x1, x2, x3, x4⟩ := hx L1 (fun _ _ => rfl)
    exact ⟨1, r, M1, L1, M2, L2, by unfold DL_error; rw [e1]; rfl, x1, x2, fun q => absurd q (by decide), x3⟩
theorem lw_running {fu : Nat} {a1 a2 : Int32} {M : mwM} {L : mwL} {Sb : Nat → Nat} (hfu : 150000 ≤ fu) (h : JJ Sb M L) : DQ (fun r => r.toInt64) Sb (DL_running fu a1 a2) (DX19_running fu a1 a2) M L := by
  obtain ⟨w, r, M1, L1, e1, hx⟩ := one_w (mp := mp32) (F := DX11_running fu a1 a2) (G := DX19_running fu a1 a2) (fun A M Lc Lm h h5 => st_lrunning h) (fun P hC M L hp => y_DX11_running (c12 hC) hp) (fun P hC M L hp => y_DX19_running hC hp) h
  have hw := v_DX11_running _ e1
  dsimp only at hw
  rcases hw with rfl | rfl
  · obtain ⟨M2, L2, x1, x2, x3, x4⟩ := hx (mset L1 1577 0 r.toInt64) (fun a u => ms_f u)
    exact ⟨0, r, M1, _, M2, L2, by unfold DL_running; rw [e1]; rfl, x1, x2, fun _ => by rw [x4]; exact mset_s, x3⟩
  · obtain ⟨M2, L2, x1, x2, x3, x4⟩ := hx L1 (fun _ _ => rfl)
    exact ⟨1, r, M1, L1, M2, L2, by unfold DL_running; rw [e1]; rfl, x1, x2, fun q => absurd q (by decide), x3⟩
theorem lw_task {fu : Nat} {a1 a2 : Int32} {M : mwM} {L : mwL} {Sb : Nat → Nat} (hfu : 150000 ≤ fu) (h : JJ Sb M L) : DQ (fun r => r.toInt64) Sb (DL_task fu a1 a2) (DX19_task fu a1 a2) M L := by
  obtain ⟨w, r, M1, L1, e1, hx⟩ := one_w (mp := mp32) (F := DX11_task fu a1 a2) (G := DX19_task fu a1 a2) (fun A M Lc Lm h h5 => st_ltask h) (fun P hC M L hp => y_DX11_task (c12 hC) hp) (fun P hC M L hp => y_DX19_task hC hp) h
  have hw := v_DX11_task _ e1
  dsimp only at hw
  rcases hw with rfl | rfl | rfl
  · obtain ⟨M2, L2, x1, x2, x3, x4⟩ := hx (mset L1 1577 0 r.toInt64) (fun a u => ms_f u)
    exact ⟨0, r, M1, _, M2, L2, by unfold DL_task; rw [e1]; rfl, x1, x2, fun _ => by rw [x4]; exact mset_s, x3⟩
  · obtain ⟨M2, L2, x1, x2, x3, x4⟩ := hx L1 (fun _ _ => rfl)
    exact ⟨2, r, M1, L1, M2, L2, by unfold DL_task; rw [e1]; rfl, x1, x2, fun q => absurd q (by decide), x3⟩
  · obtain ⟨M2, L2, x1, x2, x3, x4⟩ := hx L1 (fun _ _ => rfl)
    exact ⟨1, r, M1, L1, M2, L2, by unfold DL_task; rw [e1]; rfl, x1, x2, fun q => absurd q (by decide), x3⟩
theorem lw_active {fu : Nat} {a1 a2 : Int32} {M : mwM} {L : mwL} {Sb : Nat → Nat} (hfu : 150000 ≤ fu) (h : JJ Sb M L) : DQ (fun r => r.toInt64) Sb (DL_active fu a1 a2) (DX19_active fu a1 a2) M L := by
  obtain ⟨w, r, M1, L1, e1, hx⟩ := one_w (mp := mp32) (F := DX11_active fu a1 a2) (G := DX19_active fu a1 a2) (fun A M Lc Lm h h5 => st_lactive (by omega) h5 h) (fun P hC M L hp => y_DX11_active (c12 hC) hp) (fun P hC M L hp => y_DX19_active hC hp) h
  have hw := v_DX11_active _ e1
  dsimp only at hw
  rcases hw with rfl | rfl
  · obtain ⟨M2, L2, x1, x2, x3, x4⟩ := hx (mset L1 1577 0 r.toInt64) (fun a u => ms_f u)
    exact ⟨0, r, M1, _, M2, L2, by unfold DL_active; rw [e1]; rfl, x1, x2, fun _ => by rw [x4]; exact mset_s, x3⟩
  · obtain ⟨M2, L2, x1, x2, x3, x4⟩ := hx L1 (fun _ _ => rfl)
    exact ⟨1, r, M1, L1, M2, L2, by unfold DL_active; rw [e1]; rfl, x1, x2, fun q => absurd q (by decide), x3⟩
theorem lw_value {fu : Nat} {a1 a2 : Int32} {M : mwM} {L : mwL} {Sb : Nat → Nat} (hfu : 150000 ≤ fu) (h : JJ Sb M L) : DQ (fun r => r) Sb (DL_value fu a1 a2) (DX19_value fu a1 a2) M L := by
  obtain ⟨w, r, M1, L1, e1, hx⟩ := one_w (mp := mp32) (F := DX11_value fu a1 a2) (G := DX19_value fu a1 a2) (fun A M Lc Lm h h5 => st_lvalue h) (fun P hC M L hp => y_DX11_value (c12 hC) hp) (fun P hC M L hp => y_DX19_value hC hp) h
  have hw := v_DX11_value _ e1
  dsimp only at hw
  rcases hw with rfl | rfl
  · obtain ⟨M2, L2, x1, x2, x3, x4⟩ := hx (mset L1 1577 0 r) (fun a u => ms_f u)
    exact ⟨0, r, M1, _, M2, L2, by unfold DL_value; rw [e1]; rfl, x1, x2, fun _ => by rw [x4]; exact mset_s, x3⟩
  · obtain ⟨M2, L2, x1, x2, x3, x4⟩ := hx L1 (fun _ _ => rfl)
    exact ⟨1, r, M1, L1, M2, L2, by unfold DL_value; rw [e1]; rfl, x1, x2, fun q => absurd q (by decide), x3⟩
theorem lw_chart {fu : Nat} {a1 a2 : Int32} {M : mwM} {L : mwL} {Sb : Nat → Nat} (hfu : 150000 ≤ fu) (h : JJ Sb M L) : DQ (fun r => r.toInt64) Sb (DL_chart fu a1 a2) (DX19_chart fu a1 a2) M L := by
  obtain ⟨w, r, M1, L1, e1, hx⟩ := one_w (mp := mp32) (F := DX11_chart fu a1 a2) (G := DX19_chart fu a1 a2) (fun A M Lc Lm h h5 => st_lchart (by omega) h) (fun P hC M L hp => y_DX11_chart (c12 hC) hp) (fun P hC M L hp => y_DX19_chart hC hp) h
  have hw := v_DX11_chart _ e1
  dsimp only at hw
  rcases hw with rfl | rfl | rfl
  · obtain ⟨M2, L2, x1, x2, x3, x4⟩ := hx (mset L1 1577 0 r.toInt64) (fun a u => ms_f u)
    exact ⟨0, r, M1, _, M2, L2, by unfold DL_chart; rw [e1]; rfl, x1, x2, fun _ => by rw [x4]; exact mset_s, x3⟩
  · obtain ⟨M2, L2, x1, x2, x3, x4⟩ := hx L1 (fun _ _ => rfl)
    exact ⟨2, r, M1, L1, M2, L2, by unfold DL_chart; rw [e1]; rfl, x1, x2, fun q => absurd q (by decide), x3⟩
  · obtain ⟨M2, L2, x1, x2, x3, x4⟩ := hx L1 (fun _ _ => rfl)
    exact ⟨1, r, M1, L1, M2, L2, by unfold DL_chart; rw [e1]; rfl, x1, x2, fun q => absurd q (by decide), x3⟩
theorem lw_trouble {fu : Nat} {a1 a2 : Int32} {M : mwM} {L : mwL} {Sb : Nat → Nat} (hfu : 150000 ≤ fu) (h : JJ Sb M L) : DQ (fun r => r.toInt64) Sb (DL_trouble fu a1 a2) (DX19_trouble fu a1 a2) M L := by
  obtain ⟨w, r, M1, L1, e1, hx⟩ := one_w (mp := mp32) (F := DX11_trouble fu a1 a2) (G := DX19_trouble fu a1 a2) (fun A M Lc Lm h h5 => st_ltrouble (by omega) h) (fun P hC M L hp => y_DX11_trouble (c12 hC) hp) (fun P hC M L hp => y_DX19_trouble hC hp) h
  have hw := v_DX11_trouble _ e1
  dsimp only at hw
  rcases hw with rfl | rfl | rfl
  · obtain ⟨M2, L2, x1, x2, x3, x4⟩ := hx (mset L1 1577 0 r.toInt64) (fun a u => ms_f u)
    exact ⟨0, r, M1, _, M2, L2, by unfold DL_trouble; rw [e1]; rfl, x1, x2, fun _ => by rw [x4]; exact mset_s, x3⟩
  · obtain ⟨M2, L2, x1, x2, x3, x4⟩ := hx L1 (fun _ _ => rfl)
    exact ⟨2, r, M1, L1, M2, L2, by unfold DL_trouble; rw [e1]; rfl, x1, x2, fun q => absurd q (by decide), x3⟩
  · obtain ⟨M2, L2, x1, x2, x3, x4⟩ := hx L1 (fun _ _ => rfl)
    exact ⟨1, r, M1, L1, M2, L2, by unfold DL_trouble; rw [e1]; rfl, x1, x2, fun q => absurd q (by decide), x3⟩
theorem lw_counted {fu : Nat} {a1 : Int32} {M : mwM} {L : mwL} {Sb : Nat → Nat} (hfu : 150000 ≤ fu) (h : JJ Sb M L) : DQ (fun r => r.toInt64) Sb (DL_counted fu a1) (DX19_counted fu a1) M L := by
  obtain ⟨w, r, M1, L1, e1, hx⟩ := one_w (mp := mp21) (F := DX11_counted fu a1) (G := DX19_counted fu a1) (fun A M Lc Lm h h5 => st_counted h) (fun P hC M L hp => y_DX11_counted (c12 hC) hp) (fun P hC M L hp => y_DX19_counted hC hp) h
  have hw := v_DX11_counted _ e1
  dsimp only at hw
  rcases hw with rfl | rfl
  · obtain ⟨M2, L2, x1, x2, x3, x4⟩ := hx (mset L1 1577 0 r.toInt64) (fun a u => ms_f u)
    exact ⟨0, r, M1, _, M2, L2, by unfold DL_counted; rw [e1]; rfl, x1, x2, fun _ => by rw [x4]; exact mset_s, x3⟩
  · obtain ⟨M2, L2, x1, x2, x3, x4⟩ := hx L1 (fun _ _ => rfl)
    exact ⟨1, r, M1, L1, M2, L2, by unfold DL_counted; rw [e1]; rfl, x1, x2, fun q => absurd q (by decide), x3⟩
theorem lw_answer {fu : Nat} {a1 : Int32} {M : mwM} {L : mwL} {Sb : Nat → Nat} (hfu : 150000 ≤ fu) (h : JJ Sb M L) : DQ (fun r => r.toInt64) Sb (DL_answer fu a1) (DX19_answer fu a1) M L := by
  obtain ⟨w, r, M1, L1, e1, hx⟩ := one_w (mp := mp32) (F := DX11_answer fu a1) (G := DX19_answer fu a1) (fun A M Lc Lm h h5 => st_lanswer h) (fun P hC M L hp => y_DX11_answer (c12 hC) hp) (fun P hC M L hp => y_DX19_answer hC hp) h
  have hw := v_DX11_answer _ e1
  dsimp only at hw
  rcases hw with rfl | rfl
  · obtain ⟨M2, L2, x1, x2, x3, x4⟩ := hx (mset L1 1577 0 r.toInt64) (fun a u => ms_f u)
    exact ⟨0, r, M1, _, M2, L2, by unfold DL_answer; rw [e1]; rfl, x1, x2, fun _ => by rw [x4]; exact mset_s, x3⟩
  · obtain ⟨M2, L2, x1, x2, x3, x4⟩ := hx L1 (fun _ _ => rfl)
    exact ⟨1, r, M1, L1, M2, L2, by unfold DL_answer; rw [e1]; rfl, x1, x2, fun q => absurd q (by decide), x3⟩
theorem lw_silence {fu : Nat} {a1 : Int32} {b : Bool} {M : mwM} {L : mwL} {Sb : Nat → Nat} (hfu : 150000 ≤ fu) (h : JJ Sb M L) : DQ (fun r => r.toInt64) Sb (DL_silence fu a1 (bI b)) (DX19_silence fu a1 (bI b)) M L := by
  obtain ⟨w, r, M1, L1, e1, hx⟩ := one_w (mp := mp32) (F := DX11_silence fu a1 (bI b)) (G := DX19_silence fu a1 (bI b)) (fun A M Lc Lm h h5 => st_lsilence (by omega) h) (fun P hC M L hp => y_DX11_silence (c12 hC) hp) (fun P hC M L hp => y_DX19_silence hC hp) h
  have hw := v_DX11_silence _ e1
  dsimp only at hw
  rcases hw with rfl | rfl
  · obtain ⟨M2, L2, x1, x2, x3, x4⟩ := hx (mset L1 1577 0 r.toInt64) (fun a u => ms_f u)
    exact ⟨0, r, M1, _, M2, L2, by unfold DL_silence; rw [e1]; rfl, x1, x2, fun _ => by rw [x4]; exact mset_s, x3⟩
  · obtain ⟨M2, L2, x1, x2, x3, x4⟩ := hx L1 (fun _ _ => rfl)
    exact ⟨1, r, M1, L1, M2, L2, by unfold DL_silence; rw [e1]; rfl, x1, x2, fun q => absurd q (by decide), x3⟩
theorem lw_cycle {fu ts : Nat} {M : mwM} {L : mwL} {Sb : Nat → Nat} (hfu : 150000 ≤ fu) (hts : ts < 2) (h : JJ Sb M L) : DQ (fun r => r.toInt64) Sb (DL_cycle fu (sI ts)) (DX19_cycle fu (sI ts)) M L := by
  obtain ⟨w, r, M1, L1, e1, hx⟩ := one_w (mp := fun w => w) (F := DX11_cycle fu (sI ts)) (G := DX19_cycle fu (sI ts)) (fun A M Lc Lm h h5 => st_lcycle (by omega) hts h) (fun P hC M L hp => y_DX11_cycle (c12 hC) hp) (fun P hC M L hp => y_DX19_cycle hC hp) h
  have hw := v_DX11_cycle _ e1
  dsimp only at hw
  rcases hw with rfl | rfl
  · obtain ⟨M2, L2, x1, x2, x3, x4⟩ := hx (mset L1 1577 0 r.toInt64) (fun a u => ms_f u)
    exact ⟨0, r, M1, _, M2, L2, by unfold DL_cycle; rw [e1]; rfl, x1, x2, fun _ => by rw [x4]; exact mset_s, x3⟩
  · obtain ⟨M2, L2, x1, x2, x3, x4⟩ := hx L1 (fun _ _ => rfl)
    exact ⟨1, r, M1, L1, M2, L2, by unfold DL_cycle; rw [e1]; rfl, x1, x2, fun q => absurd q (by decide), x3⟩
theorem lw_time {fu : Nat} {M : mwM} {L : mwL} {Sb : Nat → Nat} (h : JJ Sb M L) : DS Sb (DX11_time fu) (DX19_time fu) M L := one_s (F := DX11_time fu) (G := DX19_time fu) (fun A M Lc Lm h => st_ltime h) (fun P hC M L hp => y_DX11_time (c12 hC) hp) (fun P hC M L hp => y_DX19_time hC hp) h
theorem lw_asking {fu : Nat} {M : mwM} {L : mwL} {Sb : Nat → Nat} (h : JJ Sb M L) : DS Sb (DX11_asking fu) (DX19_asking fu) M L := one_s (F := DX11_asking fu) (G := DX19_asking fu) (fun A M Lc Lm h => st_lasking h) (fun P hC M L hp => y_DX11_asking (c12 hC) hp) (fun P hC M L hp => y_DX19_asking hC hp) h
theorem lw_answers {fu : Nat} {M : mwM} {L : mwL} {Sb : Nat → Nat} (h : JJ Sb M L) : DS Sb (DX11_answers fu) (DX19_answers fu) M L := one_s (F := DX11_answers fu) (G := DX19_answers fu) (fun A M Lc Lm h => st_lanswers h) (fun P hC M L hp => y_DX11_answers (c12 hC) hp) (fun P hC M L hp => y_DX19_answers hC hp) h
theorem lw_place {fu : Nat} {M : mwM} {L : mwL} {Sb : Nat → Nat} (h : JJ Sb M L) : DS Sb (DX11_place fu) (DX19_place fu) M L := one_s (F := DX11_place fu) (G := DX19_place fu) (fun A M Lc Lm h => by
    obtain ⟨r, e1, e2, e3⟩ := st_place (fu := fu) h
    exact ⟨r, _, _, _, _, e1, e2, e3⟩) (fun P hC M L hp => y_DX11_place (c12 hC) hp) (fun P hC M L hp => y_DX19_place hC hp) h
theorem lw_text {fu : Nat} {a1 a2 a3 a4 : Int32} {M : mwM} {L : mwL} {Sb : Nat → Nat} (hfu : 150000 ≤ fu) (h : JJ Sb M L) : DT Sb (DL_text fu a1 a2 a3 a4) (DX19_text fu a1 a2 a3 a4) M L := one_t (mp := fun k => k) (F := DL_text fu a1 a2 a3 a4) (G := DX19_text fu a1 a2 a3 a4) (fun A M Lc Lm h => by
    obtain ⟨k, A9, M9, e1, e2, e3, e4⟩ := st_ltext (fu := fu) (a := a1) (b := a2) (c := a3) (d := a4) (by omega) h
    exact ⟨k, A9, M9, Lc, Lm, e1, e2, e3, e4⟩) (fun P hC M L hp => kqB33 (y_DX11_text (c12 hC) hp) (fun _ _ _ h => kqI3 (kqS3 h) (kqI3 (kqS3 h) kqN3))) (fun P hC M L hp => y_DX19_text hC hp) h
theorem lw_flip {fu : Nat} {a1 a2 : Int32} {M : mwM} {L : mwL} {Sb : Nat → Nat} (h : JJ Sb M L) : DT Sb (DL_flip fu a1 a2) (DX19_flip fu a1 a2) M L := by
  obtain ⟨w, M1, L1, M2, L2, e1, e2, e3, e4⟩ := one_t (mp := fun w => sI (mp32 w)) (F := DX11_flip fu a1 a2) (G := DX19_flip fu a1 a2) (fun A M Lc Lm h => st_lflip h) (fun P hC M L hp => y_DX11_flip (c12 hC) hp) (fun P hC M L hp => y_DX19_flip hC hp) h
  have hw := v_DX11_flip _ e1
  dsimp only at hw
  rcases hw with rfl | rfl | rfl
  · exact ⟨0, M1, L1, M2, L2, by unfold DL_flip; rw [e1]; rfl, e2, e3, e4⟩
  · exact ⟨2, M1, L1, M2, L2, by unfold DL_flip; rw [e1]; rfl, e2, e3, e4⟩
  · exact ⟨1, M1, L1, M2, L2, by unfold DL_flip; rw [e1]; rfl, e2, e3, e4⟩
theorem lw_say {fu : Nat} {a1 : Int32} {M : mwM} {L : mwL} {Sb : Nat → Nat} (h : JJ Sb M L) : DS Sb (DX11_say fu a1) (DX19_say_ fu a1) M L := by
  obtain ⟨hS, hY, h5⟩ := h
  obtain ⟨r, M1, M', e1, _, _, _⟩ := st_lsay (fu := fu) (a1 := a1) hY hS
  have f1 : PcF M L M1 L := y_DX11_say PcF_s PcF_0 _ e1
  have h51 : H54 M1 := H54_c h5 (PrH_f f1)
  obtain ⟨r', A', M2, e2, e3, e5, e6⟩ := st_lsay (fu := fu) (a1 := a1) (SyR_r hY f1) (HS_r hS f1 (fun _ _ => rfl))
  rw [e1] at e2
  injection e2 with e2
  injection e2 with e7 e8
  injection e8 with e9 _
  subst e7 e9
  have f2 := y_DX19_say_ (fu := fu) (a1 := a1) (PrF_s (M0 := M1) (L0 := L)) ⟨PrF_0, PrH_0⟩ _ e3
  obtain ⟨f3, f4⟩ := f2
  dsimp only at f3 f4
  exact ⟨r, M1, L, M2, L, e1, e3, HS_l e5 f3 (fun _ _ => rfl), SyR_l e6 f3, H54_c h51 f4⟩
theorem lw_ask {fu : Nat} {a1 : Int32} {M : mwM} {L : mwL} {Sb : Nat → Nat} (hfu : 150000 ≤ fu) (h : JJ Sb M L) : DQ (fun r => r.toInt64) Sb (DL_ask fu a1) (DX19_ask fu a1) M L := by
  obtain ⟨hS, hY, h5⟩ := h
  obtain ⟨w, r, M1, M', e1, _, _, _, _⟩ := st_lask (fu := fu) (a1 := a1) (by omega) hY hS
  have f1 : PcF M L M1 L := y_DX11_ask PcF_s PcF_0 _ e1
  have h51 : H54 M1 := H54_c h5 (PrH_f f1)
  have key : ∀ Lx : mwL, (∀ a, a ≠ 1577 → Lx a = L a) → ∃ M2, DX19_ask fu a1 M1 Lx = some (r, M2, Lx) ∧ M2 732 0 = sI (mp31 w) ∧ JJ Sb M2 Lx := fun Lx hx => by
    obtain ⟨w', r', A', M2, e2, e3, e4, e5, e6⟩ := st_lask (fu := fu) (a1 := a1) (by omega) (SyR_r hY f1) (HS_r hS f1 hx)
    rw [e1] at e2
    injection e2 with e2
    injection e2 with e7 e8
    injection e7 with e10 e11
    injection e8 with e9 _
    subst e9 e10 e11
    have f2 := y_DX19_ask (fu := fu) (a1 := a1) (PrF_s (M0 := M1) (L0 := Lx)) ⟨PrF_0, PrH_0⟩ _ e3
    obtain ⟨f3, f4⟩ := f2
    dsimp only at f3 f4
    exact ⟨M2, e3, e4, HS_l e5 f3 hx, SyR_l e6 f3, H54_c h51 f4⟩
  have hw := v_DX11_ask _ e1
  dsimp only at hw
  rcases hw with rfl | rfl | rfl
  · obtain ⟨M2, x1, x2, x3⟩ := key (mset L 1577 0 r.toInt64) (fun a u => ms_f u)
    exact ⟨0, r, M1, _, M2, _, by unfold DL_ask; rw [e1]; rfl, x1, x2, fun _ => mset_s, x3⟩
  · obtain ⟨M2, x1, x2, x3⟩ := key L (fun _ _ => rfl)
    exact ⟨2, r, M1, L, M2, L, by unfold DL_ask; rw [e1]; rfl, x1, x2, fun q => absurd q (by decide), x3⟩
  · obtain ⟨M2, x1, x2, x3⟩ := key L (fun _ _ => rfl)
    exact ⟨1, r, M1, L, M2, L, by unfold DL_ask; rw [e1]; rfl, x1, x2, fun q => absurd q (by decide), x3⟩
