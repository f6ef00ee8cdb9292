/-! FACE: which exceptions the class's own methods throw (printed by frv.py) -/
def kv1 (S : Nat → Prop) (x : Option (Nat × mwM × mwL)) : Prop := ∀ z, x = some z → S z.1
def kv2 {α : Type} (S : Nat → Prop) (x : Option ((Nat × α) × mwM × mwL)) : Prop := ∀ z, x = some z → S z.1.1
theorem kvS1 {S : Nat → Prop} {w : Nat} {M : mwM} {L : mwL} (h : S w) : kv1 S (some (w, M, L)) := fun z hz => by injection hz with hz; subst hz; exact h
theorem kvN1 {S : Nat → Prop} : kv1 S none := fun z hz => by injection hz
theorem kvI1 {S : Nat → Prop} {c : Prop} {i : Decidable c} {x y : Option (Nat × mwM × mwL)} (h1 : kv1 S x) (h2 : kv1 S y) : kv1 S (@ite _ c i x y) := by
  by_cases q : c
  · rw [if_pos q]; exact h1
  · rw [if_neg q]; exact h2
theorem kvK1 {S : Nat → Prop} {i : Int32} {n : Nat} {x : Option (Nat × mwM × mwL)} (h : kv1 S x) : kv1 S (mck i n x) := kvI1 kvN1 h
theorem kvZ1 {S : Nat → Prop} {v : Int32} {x : Option (Nat × mwM × mwL)} (h : kv1 S x) : kv1 S (mzz v x) := kvI1 h kvN1
theorem kvL1 {S : Nat → Prop} {β : Type} {v : β} {f : β → Option (Nat × mwM × mwL)} (h : ∀ x, kv1 S (f x)) : kv1 S (mlet v f) := h v
theorem kvB21 {S : Nat → Prop} {x : Option (mwM × mwL)} {f : mwM → mwL → Option (Nat × mwM × mwL)} (h : ∀ M L, kv1 S (f M L)) : kv1 S (mb2 x f) := by
  cases x with
  | none => exact kvN1
  | some z => exact h z.1 z.2
theorem kvB31 {S : Nat → Prop} {β : Type} {x : Option (β × mwM × mwL)} {f : β → mwM → mwL → Option (Nat × mwM × mwL)} (h : ∀ r M L, kv1 S (f r M L)) : kv1 S (mb3 x f) := by
  cases x with
  | none => exact kvN1
  | some z => exact h z.1 z.2.1 z.2.2
theorem kvS2 {α : Type} {S : Nat → Prop} {w : Nat} {r : α} {M : mwM} {L : mwL} (h : S w) : kv2 S (some ((w, r), M, L)) := fun z hz => by injection hz with hz; subst hz; exact h
theorem kvN2 {α : Type} {S : Nat → Prop} : kv2 (α := α) S none := fun z hz => by injection hz
theorem kvI2 {α : Type} {S : Nat → Prop} {c : Prop} {i : Decidable c} {x y : Option ((Nat × α) × mwM × mwL)} (h1 : kv2 S x) (h2 : kv2 S y) : kv2 S (@ite _ c i x y) := by
  by_cases q : c
  · rw [if_pos q]; exact h1
  · rw [if_neg q]; exact h2
theorem kvK2 {α : Type} {S : Nat → Prop} {i : Int32} {n : Nat} {x : Option ((Nat × α) × mwM × mwL)} (h : kv2 S x) : kv2 S (mck i n x) := kvI2 kvN2 h
theorem kvZ2 {α : Type} {S : Nat → Prop} {v : Int32} {x : Option ((Nat × α) × mwM × mwL)} (h : kv2 S x) : kv2 S (mzz v x) := kvI2 h kvN2
theorem kvL2 {α : Type} {S : Nat → Prop} {β : Type} {v : β} {f : β → Option ((Nat × α) × mwM × mwL)} (h : ∀ x, kv2 S (f x)) : kv2 S (mlet v f) := h v
theorem kvB22 {α : Type} {S : Nat → Prop} {x : Option (mwM × mwL)} {f : mwM → mwL → Option ((Nat × α) × mwM × mwL)} (h : ∀ M L, kv2 S (f M L)) : kv2 S (mb2 x f) := by
  cases x with
  | none => exact kvN2
  | some z => exact h z.1 z.2
theorem kvB32 {α : Type} {S : Nat → Prop} {β : Type} {x : Option (β × mwM × mwL)} {f : β → mwM → mwL → Option ((Nat × α) × mwM × mwL)} (h : ∀ r M L, kv2 S (f r M L)) : kv2 S (mb3 x f) := by
  cases x with
  | none => exact kvN2
  | some z => exact h z.1 z.2.1 z.2.2
theorem v_DX11_text {fu : Nat} {a1 : Int32} {a2 : Int32} {a3 : Int32} {a4 : Int32} {M : mwM} {L : mwL} : kv1 (fun w => w = 0 ∨ w = 1) (DX11_text fu a1 a2 a3 a4 M L) := by
  unfold DX11_text
  exact (kvB31 (fun _ _ _ => (kvB31 (fun _ _ _ => (kvB31 (fun _ _ _ => (kvB31 (fun _ _ _ => (kvI1 (kvB21 (fun _ _ => (kvB21 (fun _ _ => (kvB21 (fun _ _ => (kvB21 (fun _ _ => (kvS1 (Or.inl rfl)))))))))) (kvS1 (Or.inr rfl)))))))))))
theorem v_fX11_cut_b15 {fu : Nat} {a1 : Int32} {M : mwM} {L : mwL} : kv2 (fun w => w = 0 ∨ w = 2) (fX11_cut_b15 fu a1 M L) := by
  unfold fX11_cut_b15
  exact (kvS2 (Or.inr rfl))
theorem v_DX11_cut {fu : Nat} {a1 : Int32} {M : mwM} {L : mwL} : kv2 (fun w => w = 0 ∨ w = 2) (DX11_cut fu a1 M L) := by
  unfold DX11_cut
  exact (kvI2 (v_fX11_cut_b15) (kvI2 (kvL2 (fun _ => (kvS2 (Or.inl rfl)))) (v_fX11_cut_b15)))
theorem v_fX11_system_b76 {fu : Nat} {M : mwM} {L : mwL} : kv2 (fun w => w = 0 ∨ w = 1) (fX11_system_b76 fu M L) := by
  unfold fX11_system_b76
  exact (kvS2 (Or.inl rfl))
theorem v_fX11_system_b59 {fu : Nat} {s1 : Int32} {M : mwM} {L : mwL} : kv2 (fun w => w = 0 ∨ w = 1) (fX11_system_b59 fu s1 M L) := by
  unfold fX11_system_b59
  exact (kvZ2 (kvL2 (fun _ => (kvI2 (v_fX11_system_b76) (kvB22 (fun _ _ => (v_fX11_system_b76)))))))
theorem v_DX11_system {fu : Nat} {M : mwM} {L : mwL} : kv2 (fun w => w = 0 ∨ w = 1) (DX11_system fu M L) := by
  unfold DX11_system
  exact (kvI2 (kvL2 (fun _ => (kvB22 (fun _ _ => (kvB22 (fun _ _ => (kvI2 (v_fX11_system_b59) (v_fX11_system_b59)))))))) (kvS2 (Or.inr rfl)))
theorem v_fX11_count_b10 {fu : Nat} {a1 : Int32} {M : mwM} {L : mwL} : kv2 (fun w => w = 0 ∨ w = 1 ∨ w = 2) (fX11_count_b10 fu a1 M L) := by
  unfold fX11_count_b10
  exact (kvS2 (Or.inr (Or.inr rfl)))
theorem v_DX11_count {fu : Nat} {a1 : Int32} {M : mwM} {L : mwL} : kv2 (fun w => w = 0 ∨ w = 1 ∨ w = 2) (DX11_count fu a1 M L) := by
  unfold DX11_count
  exact (kvI2 (v_fX11_count_b10) (kvI2 (kvI2 (kvS2 (Or.inr (Or.inl rfl))) (kvL2 (fun _ => (kvI2 (kvS2 (Or.inl rfl)) (kvI2 (kvS2 (Or.inl rfl)) (kvI2 (kvS2 (Or.inl rfl)) (kvI2 (kvS2 (Or.inl rfl)) (kvI2 (kvS2 (Or.inl rfl)) (kvI2 (kvS2 (Or.inl rfl)) (kvS2 (Or.inl rfl))))))))))) (v_fX11_count_b10)))
theorem v_fX11_frame_b25 {fu : Nat} {a1 : Int32} {a2 : Int32} {M : mwM} {L : mwL} : kv2 (fun w => w = 0 ∨ w = 2 ∨ w = 3) (fX11_frame_b25 fu a1 a2 M L) := by
  unfold fX11_frame_b25
  exact (kvS2 (Or.inr (Or.inr rfl)))
theorem v_fX11_frame_b44 {fu : Nat} {a1 : Int32} {a2 : Int32} {M : mwM} {L : mwL} : kv2 (fun w => w = 0 ∨ w = 2 ∨ w = 3) (fX11_frame_b44 fu a1 a2 M L) := by
  unfold fX11_frame_b44
  exact (kvS2 (Or.inr (Or.inl rfl)))
theorem v_DX11_frame {fu : Nat} {a1 : Int32} {a2 : Int32} {M : mwM} {L : mwL} : kv2 (fun w => w = 0 ∨ w = 2 ∨ w = 3) (DX11_frame fu a1 a2 M L) := by
  unfold DX11_frame
  exact (kvI2 (v_fX11_frame_b25) (kvI2 (v_fX11_frame_b25) (kvI2 (kvI2 (v_fX11_frame_b44) (kvI2 (kvL2 (fun _ => (kvI2 (kvB32 (fun _ _ _ => (kvS2 (Or.inl rfl)))) (kvI2 (kvK2 (kvS2 (Or.inl rfl))) (kvI2 (kvK2 (kvS2 (Or.inl rfl))) (kvI2 (kvK2 (kvS2 (Or.inl rfl))) (kvK2 (kvS2 (Or.inl rfl))))))))) (v_fX11_frame_b44))) (v_fX11_frame_b25))))
theorem v_fX11_signal_b25 {fu : Nat} {a1 : Int32} {a2 : Int32} {M : mwM} {L : mwL} : kv2 (fun w => w = 0 ∨ w = 3) (fX11_signal_b25 fu a1 a2 M L) := by
  unfold fX11_signal_b25
  exact (kvS2 (Or.inr rfl))
theorem v_fX11_signal_b75 {fu : Nat} {a1 : Int32} {a2 : Int32} {s0 : Int32} {M : mwM} {L : mwL} : kv2 (fun w => w = 0 ∨ w = 3) (fX11_signal_b75 fu a1 a2 s0 M L) := by
  unfold fX11_signal_b75
  exact (kvS2 (Or.inl rfl))
theorem v_DX11_signal {fu : Nat} {a1 : Int32} {a2 : Int32} {M : mwM} {L : mwL} : kv2 (fun w => w = 0 ∨ w = 3) (DX11_signal fu a1 a2 M L) := by
  unfold DX11_signal
  exact (kvI2 (v_fX11_signal_b25) (kvI2 (v_fX11_signal_b25) (kvI2 (kvI2 (kvK2 (v_fX11_signal_b75)) (kvK2 (v_fX11_signal_b75))) (v_fX11_signal_b25))))
theorem v_fX11_run_b36 {fu : Nat} {a1 : Int32} {M : mwM} {L : mwL} : kv2 (fun w => w = 0 ∨ w = 1 ∨ w = 2) (fX11_run_b36 fu a1 M L) := by
  unfold fX11_run_b36
  exact (kvS2 (Or.inr (Or.inl rfl)))
theorem v_fX11_run_i59 {fu : Nat} {a1 : Int32} {r59 : (Int32 × Int32 × mwM × mwL) → Option ((Nat × Int32) × mwM × mwL)} {v2 : Int32} {v3 : Int32} {M : mwM} {L : mwL} (hr59 : ∀ s, kv2 (fun w => w = 0 ∨ w = 1 ∨ w = 2) (r59 s)) : kv2 (fun w => w = 0 ∨ w = 1 ∨ w = 2) (fX11_run_i59 fu a1 r59 v2 v3 M L) := by
  unfold fX11_run_i59
  exact (kvI2 (kvS2 (Or.inl rfl)) (kvB22 (fun _ _ => (kvL2 (fun _ => (hr59 _))))))
theorem v_fX11_run_h59 {fu : Nat} {a1 : Int32} : ∀ n s, kv2 (fun w => w = 0 ∨ w = 1 ∨ w = 2) (fX11_run_h59 fu a1 n s) := by
  intro n
  induction n with
  | zero => intro s; exact kvN2
  | succ n ih =>
    intro s
    show kv2 (fun w => w = 0 ∨ w = 1 ∨ w = 2) (fX11_run_i59 fu a1 (fX11_run_h59 fu a1 n) s.1 s.2.1 s.2.2.1 s.2.2.2)
    exact v_fX11_run_i59 ih
theorem v_DX11_run {fu : Nat} {a1 : Int32} {M : mwM} {L : mwL} : kv2 (fun w => w = 0 ∨ w = 1 ∨ w = 2) (DX11_run fu a1 M L) := by
  unfold DX11_run
  exact (kvI2 (kvI2 (v_fX11_run_b36) (kvI2 (kvL2 (fun _ => (v_fX11_run_h59 _ _))) (v_fX11_run_b36))) (kvS2 (Or.inr (Or.inr rfl))))
theorem v_fX11_bit_b22 {fu : Nat} {a1 : Int32} {M : mwM} {L : mwL} : kv2 (fun w => w = 0 ∨ w = 3) (fX11_bit_b22 fu a1 M L) := by
  unfold fX11_bit_b22
  exact (kvS2 (Or.inr rfl))
theorem v_DX11_bit {fu : Nat} {a1 : Int32} {M : mwM} {L : mwL} : kv2 (fun w => w = 0 ∨ w = 3) (DX11_bit fu a1 M L) := by
  unfold DX11_bit
  exact (kvI2 (v_fX11_bit_b22) (kvI2 (v_fX11_bit_b22) (kvI2 (kvK2 (kvS2 (Or.inl rfl))) (v_fX11_bit_b22))))
theorem v_fX11_node_b22 {fu : Nat} {a1 : Int32} {a2 : Int32} {M : mwM} {L : mwL} : kv2 (fun w => w = 0 ∨ w = 2 ∨ w = 3) (fX11_node_b22 fu a1 a2 M L) := by
  unfold fX11_node_b22
  exact (kvS2 (Or.inr (Or.inr rfl)))
theorem v_fX11_node_b41 {fu : Nat} {a1 : Int32} {a2 : Int32} {M : mwM} {L : mwL} : kv2 (fun w => w = 0 ∨ w = 2 ∨ w = 3) (fX11_node_b41 fu a1 a2 M L) := by
  unfold fX11_node_b41
  exact (kvS2 (Or.inr (Or.inl rfl)))
theorem v_fX11_node_b70 {fu : Nat} {a1 : Int32} {a2 : Int32} {s0 : Int32} {M : mwM} {L : mwL} : kv2 (fun w => w = 0 ∨ w = 2 ∨ w = 3) (fX11_node_b70 fu a1 a2 s0 M L) := by
  unfold fX11_node_b70
  exact (kvK2 (kvK2 (kvS2 (Or.inl rfl))))
theorem v_DX11_node {fu : Nat} {a1 : Int32} {a2 : Int32} {M : mwM} {L : mwL} : kv2 (fun w => w = 0 ∨ w = 2 ∨ w = 3) (DX11_node fu a1 a2 M L) := by
  unfold DX11_node
  exact (kvI2 (v_fX11_node_b22) (kvI2 (v_fX11_node_b22) (kvI2 (kvI2 (v_fX11_node_b41) (kvI2 (kvI2 (v_fX11_node_b70) (kvI2 (v_fX11_node_b70) (v_fX11_node_b70))) (v_fX11_node_b41))) (v_fX11_node_b22))))
theorem v_fX11_error_b44 {fu : Nat} {a1 : Int32} {a2 : Int32} {M : mwM} {L : mwL} : kv2 (fun w => w = 0 ∨ w = 2 ∨ w = 3) (fX11_error_b44 fu a1 a2 M L) := by
  unfold fX11_error_b44
  exact (kvS2 (Or.inr (Or.inr rfl)))
theorem v_fX11_error_b63 {fu : Nat} {a1 : Int32} {a2 : Int32} {M : mwM} {L : mwL} : kv2 (fun w => w = 0 ∨ w = 2 ∨ w = 3) (fX11_error_b63 fu a1 a2 M L) := by
  unfold fX11_error_b63
  exact (kvS2 (Or.inr (Or.inl rfl)))
theorem v_fX11_error_b102 {fu : Nat} {a1 : Int32} {a2 : Int32} {s0 : Int32} {M : mwM} {L : mwL} : kv2 (fun w => w = 0 ∨ w = 2 ∨ w = 3) (fX11_error_b102 fu a1 a2 s0 M L) := by
  unfold fX11_error_b102
  exact (kvS2 (Or.inl rfl))
theorem v_fX11_error_b54 {fu : Nat} {a1 : Int32} {a2 : Int32} {v3 : Int32} {M : mwM} {L : mwL} : kv2 (fun w => w = 0 ∨ w = 2 ∨ w = 3) (fX11_error_b54 fu a1 a2 v3 M L) := by
  unfold fX11_error_b54
  exact (kvI2 (v_fX11_error_b63) (kvI2 (kvI2 (kvB32 (fun _ _ _ => (v_fX11_error_b102))) (v_fX11_error_b102)) (v_fX11_error_b63)))
theorem v_fX11_error_b14 {fu : Nat} {a1 : Int32} {a2 : Int32} {s0 : Int32} {M : mwM} {L : mwL} : kv2 (fun w => w = 0 ∨ w = 2 ∨ w = 3) (fX11_error_b14 fu a1 a2 s0 M L) := by
  unfold fX11_error_b14
  exact (kvI2 (v_fX11_error_b44) (kvI2 (kvI2 (v_fX11_error_b44) (kvI2 (v_fX11_error_b54) (v_fX11_error_b44))) (v_fX11_error_b54)))
theorem v_fX11_error_b13 {fu : Nat} {a1 : Int32} {a2 : Int32} {M : mwM} {L : mwL} : kv2 (fun w => w = 0 ∨ w = 2 ∨ w = 3) (fX11_error_b13 fu a1 a2 M L) := by
  unfold fX11_error_b13
  exact (v_fX11_error_b14)
theorem v_DX11_error {fu : Nat} {a1 : Int32} {a2 : Int32} {M : mwM} {L : mwL} : kv2 (fun w => w = 0 ∨ w = 2 ∨ w = 3) (DX11_error fu a1 a2 M L) := by
  unfold DX11_error
  exact (kvI2 (kvI2 (v_fX11_error_b14) (v_fX11_error_b13)) (v_fX11_error_b13))
theorem v_fX11_flip_b22 {fu : Nat} {a1 : Int32} {a2 : Int32} {M : mwM} {L : mwL} : kv1 (fun w => w = 0 ∨ w = 2 ∨ w = 3) (fX11_flip_b22 fu a1 a2 M L) := by
  unfold fX11_flip_b22
  exact (kvS1 (Or.inr (Or.inr rfl)))
theorem v_fX11_flip_b50 {fu : Nat} {a1 : Int32} {a2 : Int32} {M : mwM} {L : mwL} : kv1 (fun w => w = 0 ∨ w = 2 ∨ w = 3) (fX11_flip_b50 fu a1 a2 M L) := by
  unfold fX11_flip_b50
  exact (kvS1 (Or.inr (Or.inl rfl)))
theorem v_DX11_flip {fu : Nat} {a1 : Int32} {a2 : Int32} {M : mwM} {L : mwL} : kv1 (fun w => w = 0 ∨ w = 2 ∨ w = 3) (DX11_flip fu a1 a2 M L) := by
  unfold DX11_flip
  exact (kvI1 (v_fX11_flip_b22) (kvI1 (v_fX11_flip_b22) (kvI1 (kvI1 (v_fX11_flip_b50) (kvI1 (kvK1 (kvK1 (kvL1 (fun _ => (kvS1 (Or.inl rfl)))))) (v_fX11_flip_b50))) (v_fX11_flip_b22))))
theorem v_fX11_silence_b22 {fu : Nat} {a1 : Int32} {a2 : Int32} {M : mwM} {L : mwL} : kv2 (fun w => w = 0 ∨ w = 3) (fX11_silence_b22 fu a1 a2 M L) := by
  unfold fX11_silence_b22
  exact (kvS2 (Or.inr rfl))
theorem v_fX11_silence_b78 {fu : Nat} {a1 : Int32} {a2 : Int32} {r47 : (Int32 × Int32 × mwM × mwL) → Option ((Nat × Int32) × mwM × mwL)} {v4 : Int32} {s0 : Int32} {s1 : Int32} {M : mwM} {L : mwL} (hr47 : ∀ s, kv2 (fun w => w = 0 ∨ w = 3) (r47 s)) : kv2 (fun w => w = 0 ∨ w = 3) (fX11_silence_b78 fu a1 a2 r47 v4 s0 s1 M L) := by
  unfold fX11_silence_b78
  exact (kvL2 (fun _ => (kvL2 (fun _ => (hr47 _)))))
theorem v_fX11_silence_i47 {fu : Nat} {a1 : Int32} {a2 : Int32} {r47 : (Int32 × Int32 × mwM × mwL) → Option ((Nat × Int32) × mwM × mwL)} {v3 : Int32} {v4 : Int32} {M : mwM} {L : mwL} (hr47 : ∀ s, kv2 (fun w => w = 0 ∨ w = 3) (r47 s)) : kv2 (fun w => w = 0 ∨ w = 3) (fX11_silence_i47 fu a1 a2 r47 v3 v4 M L) := by
  unfold fX11_silence_i47
  exact (kvI2 (kvS2 (Or.inl rfl)) (kvK2 (kvI2 (v_fX11_silence_b78 hr47) (v_fX11_silence_b78 hr47))))
theorem v_fX11_silence_h47 {fu : Nat} {a1 : Int32} {a2 : Int32} : ∀ n s, kv2 (fun w => w = 0 ∨ w = 3) (fX11_silence_h47 fu a1 a2 n s) := by
  intro n
  induction n with
  | zero => intro s; exact kvN2
  | succ n ih =>
    intro s
    show kv2 (fun w => w = 0 ∨ w = 3) (fX11_silence_i47 fu a1 a2 (fX11_silence_h47 fu a1 a2 n) s.1 s.2.1 s.2.2.1 s.2.2.2)
    exact v_fX11_silence_i47 ih
theorem v_DX11_silence {fu : Nat} {a1 : Int32} {a2 : Int32} {M : mwM} {L : mwL} : kv2 (fun w => w = 0 ∨ w = 3) (DX11_silence fu a1 a2 M L) := by
  unfold DX11_silence
  exact (kvI2 (v_fX11_silence_b22) (kvI2 (v_fX11_silence_b22) (kvI2 (kvK2 (kvL2 (fun _ => (v_fX11_silence_h47 _ _)))) (v_fX11_silence_b22))))
theorem v_fX11_running_b37 {fu : Nat} {a1 : Int32} {a2 : Int32} {M : mwM} {L : mwL} : kv2 (fun w => w = 0 ∨ w = 3) (fX11_running_b37 fu a1 a2 M L) := by
  unfold fX11_running_b37
  exact (kvS2 (Or.inr rfl))
theorem v_DX11_running {fu : Nat} {a1 : Int32} {a2 : Int32} {M : mwM} {L : mwL} : kv2 (fun w => w = 0 ∨ w = 3) (DX11_running fu a1 a2 M L) := by
  unfold DX11_running
  exact (kvI2 (v_fX11_running_b37) (kvI2 (v_fX11_running_b37) (kvI2 (v_fX11_running_b37) (kvI2 (v_fX11_running_b37) (kvI2 (kvB32 (fun _ _ _ => (kvS2 (Or.inl rfl)))) (v_fX11_running_b37))))))
theorem v_fX11_task_b25 {fu : Nat} {a1 : Int32} {a2 : Int32} {M : mwM} {L : mwL} : kv2 (fun w => w = 0 ∨ w = 2 ∨ w = 3) (fX11_task_b25 fu a1 a2 M L) := by
  unfold fX11_task_b25
  exact (kvS2 (Or.inr (Or.inr rfl)))
theorem v_fX11_task_b44 {fu : Nat} {a1 : Int32} {a2 : Int32} {M : mwM} {L : mwL} : kv2 (fun w => w = 0 ∨ w = 2 ∨ w = 3) (fX11_task_b44 fu a1 a2 M L) := by
  unfold fX11_task_b44
  exact (kvS2 (Or.inr (Or.inl rfl)))
theorem v_fX11_task_b74 {fu : Nat} {a1 : Int32} {a2 : Int32} {s0 : Int32} {M : mwM} {L : mwL} : kv2 (fun w => w = 0 ∨ w = 2 ∨ w = 3) (fX11_task_b74 fu a1 a2 s0 M L) := by
  unfold fX11_task_b74
  exact (kvK2 (kvK2 (kvS2 (Or.inl rfl))))
theorem v_DX11_task {fu : Nat} {a1 : Int32} {a2 : Int32} {M : mwM} {L : mwL} : kv2 (fun w => w = 0 ∨ w = 2 ∨ w = 3) (DX11_task fu a1 a2 M L) := by
  unfold DX11_task
  exact (kvI2 (v_fX11_task_b25) (kvI2 (v_fX11_task_b25) (kvI2 (kvI2 (v_fX11_task_b44) (kvI2 (kvI2 (v_fX11_task_b74) (kvI2 (v_fX11_task_b74) (v_fX11_task_b74))) (v_fX11_task_b44))) (v_fX11_task_b25))))
theorem v_fX11_active_b28 {fu : Nat} {a1 : Int32} {a2 : Int32} {M : mwM} {L : mwL} : kv2 (fun w => w = 0 ∨ w = 3) (fX11_active_b28 fu a1 a2 M L) := by
  unfold fX11_active_b28
  exact (kvS2 (Or.inr rfl))
theorem v_fX11_active_b71 {fu : Nat} {a1 : Int32} {a2 : Int32} {s0 : Int32} {M : mwM} {L : mwL} : kv2 (fun w => w = 0 ∨ w = 3) (fX11_active_b71 fu a1 a2 s0 M L) := by
  unfold fX11_active_b71
  exact (kvS2 (Or.inl rfl))
theorem v_DX11_active {fu : Nat} {a1 : Int32} {a2 : Int32} {M : mwM} {L : mwL} : kv2 (fun w => w = 0 ∨ w = 3) (DX11_active fu a1 a2 M L) := by
  unfold DX11_active
  exact (kvB32 (fun _ _ _ => (kvI2 (v_fX11_active_b28) (kvI2 (v_fX11_active_b28) (kvK2 (kvI2 (kvK2 (kvI2 (v_fX11_active_b71) (kvK2 (kvB32 (fun _ _ _ => (v_fX11_active_b71)))))) (v_fX11_active_b28)))))))
theorem v_fX11_value_b18 {fu : Nat} {a1 : Int32} {a2 : Int32} {M : mwM} {L : mwL} : kv2 (fun w => w = 0 ∨ w = 3) (fX11_value_b18 fu a1 a2 M L) := by
  unfold fX11_value_b18
  exact (kvS2 (Or.inr rfl))
theorem v_DX11_value {fu : Nat} {a1 : Int32} {a2 : Int32} {M : mwM} {L : mwL} : kv2 (fun w => w = 0 ∨ w = 3) (DX11_value fu a1 a2 M L) := by
  unfold DX11_value
  exact (kvB32 (fun _ _ _ => (kvI2 (v_fX11_value_b18) (kvI2 (v_fX11_value_b18) (kvI2 (kvK2 (kvK2 (kvS2 (Or.inl rfl)))) (v_fX11_value_b18))))))
theorem v_fX11_chart_b28 {fu : Nat} {a1 : Int32} {a2 : Int32} {M : mwM} {L : mwL} : kv2 (fun w => w = 0 ∨ w = 2 ∨ w = 3) (fX11_chart_b28 fu a1 a2 M L) := by
  unfold fX11_chart_b28
  exact (kvS2 (Or.inr (Or.inl rfl)))
theorem v_DX11_chart {fu : Nat} {a1 : Int32} {a2 : Int32} {M : mwM} {L : mwL} : kv2 (fun w => w = 0 ∨ w = 2 ∨ w = 3) (DX11_chart fu a1 a2 M L) := by
  unfold DX11_chart
  exact (kvB32 (fun _ _ _ => (kvI2 (kvS2 (Or.inr (Or.inr rfl))) (kvI2 (v_fX11_chart_b28) (kvI2 (kvL2 (fun _ => (kvI2 (kvK2 (kvS2 (Or.inl rfl))) (kvI2 (kvK2 (kvS2 (Or.inl rfl))) (kvI2 (kvK2 (kvS2 (Or.inl rfl))) (kvK2 (kvB32 (fun _ _ _ => (kvS2 (Or.inl rfl)))))))))) (v_fX11_chart_b28))))))
theorem v_fX11_trouble_b25 {fu : Nat} {a1 : Int32} {a2 : Int32} {M : mwM} {L : mwL} : kv2 (fun w => w = 0 ∨ w = 2 ∨ w = 3) (fX11_trouble_b25 fu a1 a2 M L) := by
  unfold fX11_trouble_b25
  exact (kvS2 (Or.inr (Or.inr rfl)))
theorem v_fX11_trouble_b44 {fu : Nat} {a1 : Int32} {a2 : Int32} {M : mwM} {L : mwL} : kv2 (fun w => w = 0 ∨ w = 2 ∨ w = 3) (fX11_trouble_b44 fu a1 a2 M L) := by
  unfold fX11_trouble_b44
  exact (kvS2 (Or.inr (Or.inl rfl)))
theorem v_DX11_trouble {fu : Nat} {a1 : Int32} {a2 : Int32} {M : mwM} {L : mwL} : kv2 (fun w => w = 0 ∨ w = 2 ∨ w = 3) (DX11_trouble fu a1 a2 M L) := by
  unfold DX11_trouble
  exact (kvI2 (v_fX11_trouble_b25) (kvI2 (v_fX11_trouble_b25) (kvI2 (kvI2 (v_fX11_trouble_b44) (kvI2 (kvB32 (fun _ _ _ => (kvS2 (Or.inl rfl)))) (v_fX11_trouble_b44))) (v_fX11_trouble_b25))))
theorem v_DX11_cycle {fu : Nat} {a1 : Int32} {M : mwM} {L : mwL} : kv2 (fun w => w = 0 ∨ w = 1) (DX11_cycle fu a1 M L) := by
  unfold DX11_cycle
  exact (kvI2 (kvS2 (Or.inr rfl)) (kvB32 (fun _ _ _ => (kvS2 (Or.inl rfl)))))
theorem v_fX11_counted_b9 {fu : Nat} {a1 : Int32} {M : mwM} {L : mwL} : kv2 (fun w => w = 0 ∨ w = 2) (fX11_counted_b9 fu a1 M L) := by
  unfold fX11_counted_b9
  exact (kvS2 (Or.inr rfl))
theorem v_fX11_counted_b40 {fu : Nat} {a1 : Int32} {s0 : Int32} {M : mwM} {L : mwL} : kv2 (fun w => w = 0 ∨ w = 2) (fX11_counted_b40 fu a1 s0 M L) := by
  unfold fX11_counted_b40
  exact (kvS2 (Or.inl rfl))
theorem v_DX11_counted {fu : Nat} {a1 : Int32} {M : mwM} {L : mwL} : kv2 (fun w => w = 0 ∨ w = 2) (DX11_counted fu a1 M L) := by
  unfold DX11_counted
  exact (kvI2 (v_fX11_counted_b9) (kvI2 (kvI2 (v_fX11_counted_b40) (kvK2 (v_fX11_counted_b40))) (v_fX11_counted_b9)))
theorem v_fX11_ask_b22 {fu : Nat} {a1 : Int32} {M : mwM} {L : mwL} : kv2 (fun w => w = 0 ∨ w = 1 ∨ w = 3) (fX11_ask_b22 fu a1 M L) := by
  unfold fX11_ask_b22
  exact (kvS2 (Or.inr (Or.inr rfl)))
theorem v_fX11_ask_b64 {fu : Nat} {a1 : Int32} {M : mwM} {L : mwL} : kv2 (fun w => w = 0 ∨ w = 1 ∨ w = 3) (fX11_ask_b64 fu a1 M L) := by
  unfold fX11_ask_b64
  exact (kvS2 (Or.inr (Or.inl rfl)))
theorem v_DX11_ask {fu : Nat} {a1 : Int32} {M : mwM} {L : mwL} : kv2 (fun w => w = 0 ∨ w = 1 ∨ w = 3) (DX11_ask fu a1 M L) := by
  unfold DX11_ask
  exact (kvI2 (v_fX11_ask_b22) (kvI2 (v_fX11_ask_b22) (kvI2 (kvI2 (v_fX11_ask_b64) (kvI2 (v_fX11_ask_b64) (kvI2 (kvB22 (fun _ _ => (kvL2 (fun _ => (kvL2 (fun _ => (kvL2 (fun _ => (kvL2 (fun _ => (kvS2 (Or.inl rfl)))))))))))) (v_fX11_ask_b64)))) (v_fX11_ask_b22))))
theorem v_fX11_answer_b12 {fu : Nat} {a1 : Int32} {M : mwM} {L : mwL} : kv2 (fun w => w = 0 ∨ w = 3) (fX11_answer_b12 fu a1 M L) := by
  unfold fX11_answer_b12
  exact (kvS2 (Or.inr rfl))
theorem v_DX11_answer {fu : Nat} {a1 : Int32} {M : mwM} {L : mwL} : kv2 (fun w => w = 0 ∨ w = 3) (DX11_answer fu a1 M L) := by
  unfold DX11_answer
  exact (kvI2 (v_fX11_answer_b12) (kvB32 (fun _ _ _ => (kvI2 (kvK2 (kvK2 (kvS2 (Or.inl rfl)))) (v_fX11_answer_b12)))))
