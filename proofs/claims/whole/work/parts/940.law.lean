/-! FACE: which exceptions the class's own methods throw (printed by frv.py) -/
def kv1 (S : Nat → Prop) (x : Option (Nat × mwM × mwL)) : Prop := ∀ z, x = some z → S z.1
def kv2 {α : Type} (S : Nat → Prop) (x : Option ((Nat × α) × mwM × mwL)) : Prop := ∀ z, x = some z → S z.1.1
theorem kvS1 {S : Nat → Prop} {w : Nat} {M : mwM} {L : mwL} (h : S w) : kv1 S (some (w, M, L)) := fun z hz => by injection hz with hz; subst hz; exact h
theorem kvN1 {S : Nat → Prop} : kv1 S none := fun z hz => by injection hz
theorem kvI1 {S : Nat → Prop} {c : Prop} {i : Decidable c} {x y : Option (Nat × mwM × mwL)} (h1 : kv1 S x) (h2 : kv1 S y) : kv1 S (@ite _ c i x y) := by
  by_cases q : c
  · rw [if_pos q]; exact h1
  · rw [if_neg q]; exact h2
theorem kvK1 {S : Nat → Prop} {i : Int32} {n : Nat} {x : Option (Nat × mwM × mwL)} (h : kv1 S x) : kv1 S (mck i n x) := kvI1 kvN1 h
theorem kvZ1 {S : Nat → Prop} {v : Int32} {x : Option (Nat × mwM × mwL)} (h : kv1 S x) : kv1 S (mzz v x) := kvI1 h kvN1
theorem kvL1 {S : Nat → Prop} {β : Type} {v : β} {f : β → Option (Nat × mwM × mwL)} (h : ∀ x, kv1 S (f x)) : kv1 S (mlet v f) := h v
theorem kvB21 {S : Nat → Prop} {x : Option (mwM × mwL)} {f : mwM → mwL → Option (Nat × mwM × mwL)} (h : ∀ M L, kv1 S (f M L)) : kv1 S (mb2 x f) := by
  cases x with
  | none => exact kvN1
  | some z => exact h z.1 z.2
theorem kvB31 {S : Nat → Prop} {β : Type} {x : Option (β × mwM × mwL)} {f : β → mwM → mwL → Option (Nat × mwM × mwL)} (h : ∀ r M L, kv1 S (f r M L)) : kv1 S (mb3 x f) := by
  cases x with
  | none => exact kvN1
  | some z => exact h z.1 z.2.1 z.2.2
theorem kvS2 {α : Type} {S : Nat → Prop} {w : Nat} {r : α} {M : mwM} {L : mwL} (h : S w) : kv2 S (some ((w, r), M, L)) := fun z hz => by injection hz with hz; subst hz; exact h
theorem kvN2 {α : Type} {S : Nat → Prop} : kv2 (α := α) S none := fun z hz => by injection hz
theorem kvI2 {α : Type} {S : Nat → Prop} {c : Prop} {i : Decidable c} {x y : Option ((Nat × α) × mwM × mwL)} (h1 : kv2 S x) (h2 : kv2 S y) : kv2 S (@ite _ c i x y) := by
  by_cases q : c
  · rw [if_pos q]; exact h1
  · rw [if_neg q]; exact h2
theorem kvK2 {α : Type} {S : Nat → Prop} {i : Int32} {n : Nat} {x : Option ((Nat × α) × mwM × mwL)} (h : kv2 S x) : kv2 S (mck i n x) := kvI2 kvN2 h
theorem kvZ2 {α : Type} {S : Nat → Prop} {v : Int32} {x : Option ((Nat × α) × mwM × mwL)} (h : kv2 S x) : kv2 S (mzz v x) := kvI2 h kvN2
theorem kvL2 {α : Type} {S : Nat → Prop} {β : Type} {v : β} {f : β → Option ((Nat × α) × mwM × mwL)} (h : ∀ x, kv2 S (f x)) : kv2 S (mlet v f) := h v
theorem kvB22 {α : Type} {S : Nat → Prop} {x : Option (mwM × mwL)} {f : mwM → mwL → Option ((Nat × α) × mwM × mwL)} (h : ∀ M L, kv2 S (f M L)) : kv2 S (mb2 x f) := by
  cases x with
  | none => exact kvN2
  | some z => exact h z.1 z.2
theorem kvB32 {α : Type} {S : Nat → Prop} {β : Type} {x : Option (β × mwM × mwL)} {f : β → mwM → mwL → Option ((Nat × α) × mwM × mwL)} (h : ∀ r M L, kv2 S (f r M L)) : kv2 S (mb3 x f) := by
  cases x with
  | none => exact kvN2
  | some z => exact h z.1 z.2.1 z.2.2
theorem v_DX11_text {fu : Nat} {a1 : Int32} {a2 : Int32} {a3 : Int32} {a4 : Int32} {M : mwM} {L : mwL} : kv1 (fun w => w = 0 ∨ w = 1) (DX11_text fu a1 a2 a3 a4 M L) := by
  unfold DX11_text
  exact (kvB31 (fun _ _ _ => (kvB31 (fun _ _ _ => (kvB31 (fun _ _ _ => (kvB31 (fun _ _ _ => (kvI1 (kvB21 (fun _ _ => (kvB21 (fun _ _ => (kvB21 (fun _ _ => (kvB21 (fun _ _ => (kvS1 (Or.inl rfl)))))))))) (kvS1 (Or.inr rfl)))))))))))
theorem v_fX11_cut_b15 {fu : Nat} {a1 : Int32} {M : mwM} {L : mwL} : kv2 (fun w => w = 0 ∨ w = 2) (fX11_cut_b15 fu a1 M L) := by
  unfold fX11_cut_b15
  exact (kvS2 (Or.inr rfl))
theorem v_DX11_cut {fu : Nat} {a1 : Int32} {M : mwM} {L : mwL} : kv2 (fun w => w = 0 ∨ w = 2) (DX11_cut fu a1 M L) := by
  unfold DX11_cut
  exact (kvI2 (v_fX11_cut_b15) (kvI2 (kvL2 (fun _ => (kvS2 (Or.inl rfl)))) (v_fX11_cut_b15)))
theorem v_fX11_system_b76 {fu : Nat} {M : mwM} {L : mwL} : kv2 (fun w => w = 0 ∨ w = 1) (fX11_system_b76 fu M L) := by
  unfold fX11_system_b76
  exact (kvS2 (Or.inl rfl))
theorem v_fX11_system_b59 {fu : Nat} {s1 : Int32} {M : mwM} {L : mwL} : kv2 (fun w => w = 0 ∨ w = 1) (fX11_system_b59 fu s1 M L) := by
  unfold fX11_system_b59
  exact (kvZ2 (kvL2 (fun _ => (kvI2 (v_fX11_system_b76) (kvB22 (fun _ _ => (v_fX11_system_b76)))))))
theorem v_DX11_system {fu : Nat} {M : mwM} {L : mwL} : kv2 (fun w => w = 0 ∨ w = 1) (DX11_system fu M L) := by
  unfold DX11_system
  exact (kvI2 (kvL2 (fun _ => (kvB22 (fun _ _ => (kvB22 (fun _ _ => (kvI2 (v_fX11_system_b59) (v_fX11_system_b59)))))))) (kvS2 (Or.inr rfl)))
theorem v_fX11_count_b10 {fu : Nat} {a1 : Int32} {M : mwM} {L : mwL} : kv2 (fun w => w = 0 ∨ w = 1 ∨ w = 2) (fX11_count_b10 fu a1 M L) := by
  unfold fX11_count_b10
  exact (kvS2 (Or.inr (Or.inr rfl)))
theorem v_DX11_count {fu : Nat} {a1 : Int32} {M : mwM} {L : mwL} : kv2 (fun w => w = 0 ∨ w = 1 ∨ w = 2) (DX11_count fu a1 M L) := by
  unfold DX11_count
  exact (kvI2 (v_fX11_count_b10) (kvI2 (kvI2 (kvS2 (Or.inr (Or.inl rfl))) (kvL2 (fun _ => (kvI2 (kvS2 (Or.inl rfl)) (kvI2 (kvS2 (Or.inl rfl)) (kvI2 (kvS2 (Or.inl rfl)) (kvI2 (kvS2 (Or.inl rfl)) (kvI2 (kvS2 (Or.inl rfl)) (kvI2 (kvS2 (Or.inl rfl)) (kvS2 (Or.inl rfl))))))))))) (v_fX11_count_b10)))
theorem v_fX11_frame_b25 {fu : Nat} {a1 : Int32} {a2 : Int32} {M : mwM} {L : mwL} : kv2 (fun w => w = 0 ∨ w = 2 ∨ w = 3) (fX11_frame_b25 fu a1 a2 M L) := by
  unfold fX11_frame_b25
  exact (kvS2 (Or.inr (Or.inr rfl)))
theorem v_fX11_frame_b44 {fu : Nat} {a1 : Int32} {a2 : Int32} {M : mwM} {L : mwL} : kv2 (fun w => w = 0 ∨ w = 2 ∨ w = 3) (fX11_frame_b44 fu a1 a2 M L) := by
  unfold fX11_frame_b44
  exact (kvS2 (Or.inr (Or.inl rfl)))
theorem v_DX11_frame {fu : Nat} {a1 : Int32} {a2 : Int32} {M : mwM} {L : mwL} : kv2 (fun w => w = 0 ∨ w = 2 ∨ w = 3) (DX11_frame fu a1 a2 M L) := by
  unfold DX11_frame
  exact (kvI2 (v_fX11_frame_b25) (kvI2 (v_fX11_frame_b25) (kvI2 (kvI2 (v_fX11_frame_b44) (kvI2 (kvL2 (fun _ => (kvI2 (kvB32 (fun _ _ _ => (kvS2 (Or.inl rfl)))) (kvI2 (kvK2 (kvS2 (Or.inl rfl))) (kvI2 (kvK2 (kvS2 (Or.inl rfl))) (kvI2 (kvK2 (kvS2 (Or.inl rfl))) (kvK2 (kvS2 (Or.inl rfl))))))))) (v_fX11_frame_b44))) (v_fX11_frame_b25))))
theorem v_fX11_signal_b25 {fu : Nat} {a1 : Int32} {a2 : Int32} {M : mwM} {L : mwL} : kv2 (fun w => w = 0 ∨ w = 3) (fX11_signal_b25 fu a1 a2 M L) := by
  unfold fX11_signal_b25
  exact (kvS2 (Or.inr rfl))
theorem v_fX11_signal_b75 {fu : Nat} {a1 : Int32} {a2 : Int32} {s0 : Int32} {M : mwM} {L : mwL} : kv2 (fun w => w = 0 ∨ w = 3) (fX11_signal_b75 fu a1 a2 s0 M L) := by
  unfold fX11_signal_b75
  exact (kvS2 (Or.inl rfl))
theorem v_DX11_signal {fu : Nat} {a1 : Int32} {a2 : Int32} {M : mwM} {L : mwL} : kv2 (fun w => w = 0 ∨ w = 3) (DX11_signal fu a1 a2 M L) := by
  unfold DX11_signal
  exact (kvI2 (v_fX11_signal_b25) (kvI2 (v_fX11_signal_b25) (kvI2 (kvI2 (kvK2 (v_fX11_signal_b75)) (kvK2 (v_fX11_signal_b75))) (v_fX11_signal_b25))))
theorem v_fX11_run_b36 {fu : Nat} {a1 : Int32} {M : mwM} {L : mwL} : kv2 (fun w => w = 0 ∨ w = 1 ∨ w = 2) (fX11_run_b36 fu a1 M L) := by
  unfold fX11_run_b36
  exact (kvS2 (Or.inr (Or.inl rfl)))
theorem v_fX11_run_i59 {fu : Nat} {a1 : Int32} {r59 : (Int32 × Int32 × mwM × mwL) → Option ((Nat × Int32) × mwM × mwL)} {v2 : Int32} {v3 : Int32} {M : mwM} {L : mwL} (hr59 : ∀ s, kv2 (fun w => w = 0 ∨ w = 1 ∨ w = 2) (r59 s)) : kv2 (fun w => w = 0 ∨ w = 1 ∨ w = 2) (fX11_run_i59 fu a1 r59 v2 v3 M L) := by
  unfold fX11_run_i59
  exact (kvI2 (kvS2 (Or.inl rfl)) (kvB22 (fun _ _ => (kvL2 (fun _ => (hr59 _))))))
theorem v_fX11_run_h59 {fu : Nat} {a1 : Int32} : ∀ n s, kv2 (fun w => w = 0 ∨ w = 1 ∨ w = 2) (fX11_run_h59 fu a1 n s) := by
  intro n
  induction n with
  | zero => intro s; exact kvN2
  | succ n ih =>
    intro s
    show kv2 (fun w => w = 0 ∨ w = 1 ∨ w = 2) (fX11_run_i59 fu a1 (fX11_run_h59 fu a1 n) s.1 s.2.1 s.2.2.1 s.2.2.2)
    exact v_fX11_run_i59 ih
theorem v_DX11_run {fu : Nat} {a1 : Int32} {M : mwM} {L : mwL} : kv2 (fun w => w = 0 ∨ w = 1 ∨ w = 2) (DX11_run fu a1 M L) := by
  unfold DX11_run
  exact (kvI2 (kvI2 (v_fX11_run_b36) (kvI2 (kvL2 (fun _ => (v_fX11_run_h59 _ _))) (v_fX11_run_b36))) (kvS2 (Or.inr (Or.inr rfl))))
theorem v_fX11_bit_b22 {fu : Nat} {a1 : Int32} {M : mwM} {L : mwL} : kv2 (fun w => w = 0 ∨ w = 3) (fX11_bit_b22 fu a1 M L) := by
  unfold fX11_bit_b22
  exact (kvS2 (Or.inr rfl))
theorem v_DX11_bit {fu : Nat} {a1 : Int32} {M : mwM} {L : mwL} : kv2 (fun w => w = 0 ∨ w = 3) (DX11_bit fu a1 M L) := by
  unfold DX11_bit
  exact (kvI2 (v_fX11_bit_b22) (kvI2 (v_fX11_bit_b22) (kvI2 (kvK2 (kvS2 (Or.inl rfl))) (v_fX11_bit_b22))))
theorem v_fX11_node_b22 {fu : Nat} {a1 : Int32} {a2 : Int32} {M : mwM} {L : mwL} : kv2 (fun w => w = 0 ∨ w = 2 ∨ w = 3) (fX11_node_b22 fu a1 a2 M L) := by
  unfold fX11_node_b22
  exact (kvS2 (Or.inr (Or.inr rfl)))
theorem v_fX11_node_b41 {fu : Nat} {a1 : Int32} {a2 : Int32} {M : mwM} {L : mwL} : kv2 (fun w => w = 0 ∨ w = 2 ∨ w = 3) (fX11_node_b41 fu a1 a2 M L) := by
  unfold fX11_node_b41
  exact (kvS2 (Or.inr (Or.inl rfl)))
theorem v_fX11_node_b70 {fu : Nat} {a1 : Int32} {a2 : Int32} {s0 : Int32} {M : mwM} {L : mwL} : kv2 (fun w => w = 0 ∨ w = 2 ∨ w = 3) (fX11_node_b70 fu a1 a2 s0 M L) := by
  unfold fX11_node_b70
  exact (kvK2 (kvK2 (kvS2 (Or.inl rfl))))
theorem v_DX11_node {fu : Nat} {a1 : Int32} {a2 : Int32} {M : mwM} {L : mwL} : kv2 (fun w => w = 0 ∨ w = 2 ∨ w = 3) (DX11_node fu a1 a2 M L) := by
  unfold DX11_node
  exact (kvI2 (v_fX11_node_b22) (kvI2 (v_fX11_node_b22) (kvI2 (kvI2 (v_fX11_node_b41) (kvI2 (kvI2 (v_fX11_node_b70) (kvI2 (v_fX11_node_b70) (v_fX11_node_b70))) (v_fX11_node_b41))) (v_fX11_node_b22))))
theorem v_fX11_error_b44 {fu : Nat} {a1 : Int32} {a2 : Int32} {M : mwM} {L : mwL} : kv2 (fun w => w = 0 ∨ w = 2 ∨ w = 3) (fX11_error_b44 fu a1 a2 M L) := by
  unfold fX11_error_b44
  exact (kvS2 (Or.inr (Or.inr rfl)))
theorem v_fX11_error_b63 {fu : Nat} {a1 : Int32} {a2 : Int32} {M : mwM} {L : mwL} : kv2 (fun w => w = 0 ∨ w = 2 ∨ w = 3) (fX11_error_b63 fu a1 a2 M L) := by
  unfold fX11_error_b63
  exact (kvS2 (Or.inr (Or.inl rfl)))
theorem v_fX11_error_b102 {fu : Nat} {a1 : Int32} {a2 : Int32} {s0 : Int32} {M : mwM} {L : mwL} : kv2 (fun w => w = 0 ∨ w = 2 ∨ w = 3) (fX11_error_b102 fu a1 a2 s0 M L) := by
  unfold fX11_error_b102
  exact (kvS2 (Or.inl rfl))
theorem v_fX11_error_b54 {fu : Nat} {a1 : Int32} {a2 : Int32} {v3 : Int32} {M : mwM} {L : mwL} : kv2 (fun w => w = 0 ∨ w = 2 ∨ w = 3) (fX11_error_b54 fu a1 a2 v3 M L) := by
  unfold fX11_error_b54
  exact (kvI2 (v_fX11_error_b63) (kvI2 (kvI2 (kvB32 (fun _ _ _ => (v_fX11_error_b102))) (v_fX11_error_b102)) (v_fX11_error_b63)))
theorem v_fX11_error_b14 {fu : Nat} {a1 : Int32} {a2 : Int32} {s0 : Int32} {M : mwM} {L : mwL} : kv2 (fun w => w = 0 ∨ w = 2 ∨ w = 3) (fX11_error_b14 fu a1 a2 s0 M L) := by
  unfold fX11_error_b14
  exact (kvI2 (v_fX11_error_b44) (kvI2 (kvI2 (v_fX11_error_b44) (kvI2 (v_fX11_error_b54) (v_fX11_error_b44))) (v_fX11_error_b54)))
theorem v_fX11_error_b13 {fu : Nat} {a1 : Int32} {a2 : Int32} {M : mwM} {L : mwL} : kv2 (fun w => w = 0 ∨ w = 2 ∨ w = 3) (fX11_error_b13 fu a1 a2 M L) := by
  unfold fX11_error_b13
  exact (v_fX11_error_b14)
theorem v_DX11_error {fu : Nat} {a1 : Int32} {a2 : Int32} {M : mwM} {L : mwL} : kv2 (fun w => w = 0 ∨ w = 2 ∨ w = 3) (DX11_error fu a1 a2 M L) := by
  unfold DX11_error
  exact (kvI2 (kvI2 (v_fX11_error_b14) (v_fX11_error_b13)) (v_fX11_error_b13))
theorem v_fX11_flip_b22 {fu : Nat} {a1 : Int32} {a2 : Int32} {M : mwM} {L : mwL} : kv1 (fun w => w = 0 ∨ w = 2 ∨ w = 3) (fX11_flip_b22 fu a1 a2 M L) := by
  unfold fX11_flip_b22
  exact (kvS1 (Or.inr (Or.inr rfl)))
theorem v_fX11_flip_b50 {fu : Nat} {a1 : Int32} {a2 : Int32} {M : mwM} {L : mwL} : kv1 (fun w => w = 0 ∨ w = 2 ∨ w = 3) (fX11_flip_b50 fu a1 a2 M L) := by
  unfold fX11_flip_b50
  exact (kvS1 (Or.inr (Or.inl rfl)))
theorem v_DX11_flip {fu : Nat} {a1 : Int32} {a2 : Int32} {M : mwM} {L : mwL} : kv1 (fun w => w = 0 ∨ w = 2 ∨ w = 3) (DX11_flip fu a1 a2 M L) := by
  unfold DX11_flip
  exact (kvI1 (v_fX11_flip_b22) (kvI1 (v_fX11_flip_b22) (kvI1 (kvI1 (v_fX11_flip_b50) (kvI1 (kvK1 (kvK1 (kvL1 (fun _ => (kvS1 (Or.inl rfl)))))) (v_fX11_flip_b50))) (v_fX11_flip_b22))))
theorem v_fX11_silence_b22 {fu : Nat} {a1 : Int32} {a2 : Int32} {M : mwM} {L : mwL} : kv2 (fun w => w = 0 ∨ w = 3) (fX11_silence_b22 fu a1 a2 M L) := by
  unfold fX11_silence_b22
  exact (kvS2 (Or.inr rfl))
theorem v_fX11_silence_b78 {fu : Nat} {a1 : Int32} {a2 : Int32} {r47 : (Int32 × Int32 × mwM × mwL) → Option ((Nat × Int32) × mwM × mwL)} {v4 : Int32} {s0 : Int32} {s1 : Int32} {M : mwM} {L : mwL} (hr47 : ∀ s, kv2 (fun w => w = 0 ∨ w = 3) (r47 s)) : kv2 (fun w => w = 0 ∨ w = 3) (fX11_silence_b78 fu a1 a2 r47 v4 s0 s1 M L) := by
  unfold fX11_silence_b78
  exact (kvL2 (fun _ => (kvL2 (fun _ => (hr47 _)))))
theorem v_fX11_silence_i47 {fu : Nat} {a1 : Int32} {a2 : Int32} {r47 : (Int32 × Int32 × mwM × mwL) → Option ((Nat × Int32) × mwM × mwL)} {v3 : Int32} {v4 : Int32} {M : mwM} {L : mwL} (hr47 : ∀ s, kv2 (fun w => w = 0 ∨ w = 3) (r47 s)) : kv2 (fun w => w = 0 ∨ w = 3) (fX11_silence_i47 fu a1 a2 r47 v3 v4 M L) := by
  unfold fX11_silence_i47
  exact (kvI2 (kvS2 (Or.inl rfl)) (kvK2 (kvI2 (v_fX11_silence_b78 hr47) (v_fX11_silence_b78 hr47))))
theorem v_fX11_silence_h47 {fu : Nat} {a1 : Int32} {a2 : Int32} : ∀ n s, kv2 (fun w => w = 0 ∨ w = 3) (fX11_silence_h47 fu a1 a2 n s) := by
  intro n
  induction n with
  | zero => intro s; exact kvN2
  | succ n ih =>
    intro s
    show kv2 (fun w => w = 0 ∨ w = 3) (fX11_silence_i47 fu a1 a2 (fX11_silence_h47 fu a1 a2 n) s.1 s.2.1 s.2.2.1 s.2.2.2)
    exact v_fX11_silence_i47 ih
theorem v_DX11_silence {fu : Nat} {a1 : Int32} {a2 : Int32} {M : mwM} {L : mwL} : kv2 (fun w => w = 0 ∨ w = 3) (DX11_silence fu a1 a2 M L) := by
  unfold DX11_silence
  exact (kvI2 (v_fX11_silence_b22) (kvI2 (v_fX11_silence_b22) (kvI2 (kvK2 (kvL2 (fun _ => (v_fX11_silence_h47 _ _)))) (v_fX11_silence_b22))))
theorem v_fX11_running_b37 {fu : Nat} {a1 : Int32} {a2 : Int32} {M : mwM} {L : mwL} : kv2 (fun w => w = 0 ∨ w = 3) (fX11_running_b37 fu a1 a2 M L) := by
  unfold fX11_running_b37
  exact (kvS2 (Or.inr rfl))
theorem v_DX11_running {fu : Nat} {a1 : Int32} {a2 : Int32} {M : mwM} {L : mwL} : kv2 (fun w => w = 0 ∨ w = 3) (DX11_running fu a1 a2 M L) := by
  unfold DX11_running
  exact (kvI2 (v_fX11_running_b37) (kvI2 (v_fX11_running_b37) (kvI2 (v_fX11_running_b37) (kvI2 (v_fX11_running_b37) (kvI2 (kvB32 (fun _ _ _ => (kvS2 (Or.inl rfl)))) (v_fX11_running_b37))))))
theorem v_fX11_task_b25 {fu : Nat} {a1 : Int32} {a2 : Int32} {M : mwM} {L : mwL} : kv2 (fun w => w = 0 ∨ w = 2 ∨ w = 3) (fX11_task_b25 fu a1 a2 M L) := by
  unfold fX11_task_b25
  exact (kvS2 (Or.inr (Or.inr rfl)))
theorem v_fX11_task_b44 {fu : Nat} {a1 : Int32} {a2 : Int32} {M : mwM} {L : mwL} : kv2 (fun w => w = 0 ∨ w = 2 ∨ w = 3) (fX11_task_b44 fu a1 a2 M L) := by
  unfold fX11_task_b44
  exact (kvS2 (Or.inr (Or.inl rfl)))
theorem v_fX11_task_b74 {fu : Nat} {a1 : Int32} {a2 : Int32} {s0 : Int32} {M : mwM} {L : mwL} : kv2 (fun w => w = 0 ∨ w = 2 ∨ w = 3) (fX11_task_b74 fu a1 a2 s0 M L) := by
  unfold fX11_task_b74
  exact (kvK2 (kvK2 (kvS2 (Or.inl rfl))))
theorem v_DX11_task {fu : Nat} {a1 : Int32} {a2 : Int32} {M : mwM} {L : mwL} : kv2 (fun w => w = 0 ∨ w = 2 ∨ w = 3) (DX11_task fu a1 a2 M L) := by
  unfold DX11_task
  exact (kvI2 (v_fX11_task_b25) (kvI2 (v_fX11_task_b25) (kvI2 (kvI2 (v_fX11_task_b44) (kvI2 (kvI2 (v_fX11_task_b74) (kvI2 (v_fX11_task_b74) (v_fX11_task_b74))) (v_fX11_task_b44))) (v_fX11_task_b25))))
theorem v_fX11_active_b28 {fu : Nat} {a1 : Int32} {a2 : Int32} {M : mwM} {L : mwL} : kv2 (fun w => w = 0 ∨ w = 3) (fX11_active_b28 fu a1 a2 M L) := by
  unfold fX11_active_b28
  exact (kvS2 (Or.inr rfl))
theorem v_fX11_active_b71 {fu : Nat} {a1 : Int32} {a2 : Int32} {s0 : Int32} {M : mwM} {L : mwL} : kv2 (fun w => w = 0 ∨ w = 3) (fX11_active_b71 fu a1 a2 s0 M L) := by
  unfold fX11_active_b71
  exact (kvS2 (Or.inl rfl))
theorem v_DX11_active {fu : Nat} {a1 : Int32} {a2 : Int32} {M : mwM} {L : mwL} : kv2 (fun w => w = 0 ∨ w = 3) (DX11_active fu a1 a2 M L) := by
  unfold DX11_active
  exact (kvB32 (fun _ _ _ => (kvI2 (v_fX11_active_b28) (kvI2 (v_fX11_active_b28) (kvK2 (kvI2 (kvK2 (kvI2 (v_fX11_active_b71) (kvK2 (kvB32 (fun _ _ _ => (v_fX11_active_b71)))))) (v_fX11_active_b28)))))))
theorem v_fX11_value_b18 {fu : Nat} {a1 : Int32} {a2 : Int32} {M : mwM} {L : mwL} : kv2 (fun w => w = 0 ∨ w = 3) (fX11_value_b18 fu a1 a2 M L) := by
  unfold fX11_value_b18
  exact (kvS2 (Or.inr rfl))
theorem v_DX11_value {fu : Nat} {a1 : Int32} {a2 : Int32} {M : mwM} {L : mwL} : kv2 (fun w => w = 0 ∨ w = 3) (DX11_value fu a1 a2 M L) := by
  unfold DX11_value
  exact (kvB32 (fun _ _ _ => (kvI2 (v_fX11_value_b18) (kvI2 (v_fX11_value_b18) (kvI2 (kvK2 (kvK2 (kvS2 (Or.inl rfl)))) (v_fX11_value_b18))))))
theorem v_fX11_chart_b28 {fu : Nat} {a1 : Int32} {a2 : Int32} {M : mwM} {L : mwL} : kv2 (fun w => w = 0 ∨ w = 2 ∨ w = 3) (fX11_chart_b28 fu a1 a2 M L) := by
  unfold fX11_chart_b28
  exact (kvS2 (Or.inr (Or.inl rfl)))
theorem v_DX11_chart {fu : Nat} {a1 : Int32} {a2 : Int32} {M : mwM} {L : mwL} : kv2 (fun w => w = 0 ∨ w = 2 ∨ w = 3) (DX11_chart fu a1 a2 M L) := by
  unfold DX11_chart
  exact (kvB32 (fun _ _ _ => (kvI2 (kvS2 (Or.inr (Or.inr rfl))) (kvI2 (v_fX11_chart_b28) (kvI2 (kvL2 (fun _ => (kvI2 (kvK2 (kvS2 (Or.inl rfl))) (kvI2 (kvK2 (kvS2 (Or.inl rfl))) (kvI2 (kvK2 (kvS2 (Or.inl rfl))) (kvK2 (kvB32 (fun _ _ _ => (kvS2 (Or.inl rfl)))))))))) (v_fX11_chart_b28))))))
theorem v_fX11_trouble_b25 {fu : Nat} {a1 : Int32} {a2 : Int32} {M : mwM} {L : mwL} : kv2 (fun w => w = 0 ∨ w = 2 ∨ w = 3) (fX11_trouble_b25 fu a1 a2 M L) := by
  unfold fX11_trouble_b25
  exact (kvS2 (Or.inr (Or.inr rfl)))
theorem v_fX11_trouble_b44 {fu : Nat} {a1 : Int32} {a2 : Int32} {M : mwM} {L : mwL} : kv2 (fun w => w = 0 ∨ w = 2 ∨ w = 3) (fX11_trouble_b44 fu a1 a2 M L) := by
  unfold fX11_trouble_b44
  exact (kvS2 (Or.inr (Or.inl rfl)))
theorem v_DX11_trouble {fu : Nat} {a1 : Int32} {a2 : Int32} {M : mwM} {L : mwL} : kv2 (fun w => w = 0 ∨ w = 2 ∨ w = 3) (DX11_trouble fu a1 a2 M L) := by
  unfold DX11_trouble
  exact (kvI2 (v_fX11_trouble_b25) (kvI2 (v_fX11_trouble_b25) (kvI2 (kvI2 (v_fX11_trouble_b44) (kvI2 (kvB32 (fun _ _ _ => (kvS2 (Or.inl rfl)))) (v_fX11_trouble_b44))) (v_fX11_trouble_b25))))
theorem v_DX11_cycle {fu : Nat} {a1 : Int32} {M : mwM} {L : mwL} : kv2 (fun w => w = 0 ∨ w = 1) (DX11_cycle fu a1 M L) := by
  unfold DX11_cycle
  exact (kvI2 (kvS2 (Or.inr rfl)) (kvB32 (fun _ _ _ => (kvS2 (Or.inl rfl)))))
theorem v_fX11_counted_b9 {fu : Nat} {a1 : Int32} {M : mwM} {L : mwL} : kv2 (fun w => w = 0 ∨ w = 2) (fX11_counted_b9 fu a1 M L) := by
  unfold fX11_counted_b9
  exact (kvS2 (Or.inr rfl))
theorem v_fX11_counted_b40 {fu : Nat} {a1 : Int32} {s0 : Int32} {M : mwM} {L : mwL} : kv2 (fun w => w = 0 ∨ w = 2) (fX11_counted_b40 fu a1 s0 M L) := by
  unfold fX11_counted_b40
  exact (kvS2 (Or.inl rfl))
theorem v_DX11_counted {fu : Nat} {a1 : Int32} {M : mwM} {L : mwL} : kv2 (fun w => w = 0 ∨ w = 2) (DX11_counted fu a1 M L) := by
  unfold DX11_counted
  exact (kvI2 (v_fX11_counted_b9) (kvI2 (kvI2 (v_fX11_counted_b40) (kvK2 (v_fX11_counted_b40))) (v_fX11_counted_b9)))
theorem v_fX11_ask_b22 {fu : Nat} {a1 : Int32} {M : mwM} {L : mwL} : kv2 (fun w => w = 0 ∨ w = 1 ∨ w = 3) (fX11_ask_b22 fu a1 M L) := by
  unfold fX11_ask_b22
  exact (kvS2 (Or.inr (Or.inr rfl)))
theorem v_fX11_ask_b64 {fu : Nat} {a1 : Int32} {M : mwM} {L : mwL} : kv2 (fun w => w = 0 ∨ w = 1 ∨ w = 3) (fX11_ask_b64 fu a1 M L) := by
  unfold fX11_ask_b64
  exact (kvS2 (Or.inr (Or.inl rfl)))
theorem v_DX11_ask {fu : Nat} {a1 : Int32} {M : mwM} {L : mwL} : kv2 (fun w => w = 0 ∨ w = 1 ∨ w = 3) (DX11_ask fu a1 M L) := by
  unfold DX11_ask
  exact (kvI2 (v_fX11_ask_b22) (kvI2 (v_fX11_ask_b22) (kvI2 (kvI2 (v_fX11_ask_b64) (kvI2 (v_fX11_ask_b64) (kvI2 (kvB22 (fun _ _ => (kvL2 (fun _ => (kvL2 (fun _ => (kvL2 (fun _ => (kvL2 (fun _ => (kvS2 (Or.inl rfl)))))))))))) (v_fX11_ask_b64)))) (v_fX11_ask_b22))))
theorem v_fX11_answer_b12 {fu : Nat} {a1 : Int32} {M : mwM} {L : mwL} : kv2 (fun w => w = 0 ∨ w = 3) (fX11_answer_b12 fu a1 M L) := by
  unfold fX11_answer_b12
  exact (kvS2 (Or.inr rfl))
theorem v_DX11_answer {fu : Nat} {a1 : Int32} {M : mwM} {L : mwL} : kv2 (fun w => w = 0 ∨ w = 3) (DX11_answer fu a1 M L) := by
  unfold DX11_answer
  exact (kvI2 (v_fX11_answer_b12) (kvB32 (fun _ _ _ => (kvI2 (kvK2 (kvK2 (kvS2 (Or.inl rfl)))) (v_fX11_answer_b12)))))
/-! ONE MEMORY: the class runs first, then the reference, on the same memory -/
/-- what holds between the law's calls -/
def JJ (Sb : Nat → Nat) (M : mwM) (L : mwL) : Prop := HS M M L L Sb ∧ SyR M M ∧ H54 M
/-- what the class leaves alone -/
def PcF (M0 : mwM) (L0 : mwL) (M : mwM) (L : mwL) : Prop := (∀ a y, 732 ≤ a → M a y = M0 a y) ∧ ∀ a, 732 ≤ a → L a = L0 a
def PcG (M0 : mwM) (L0 : mwL) (M : mwM) (L : mwL) : Prop := PcF M0 L0 M L ∧ (∀ y, M 731 y = M0 731 y) ∧ M 0 3 = M0 0 3
theorem ms_f {α : Type} {L : Nat → Nat → α} {a b y : Nat} {v : α} (h : a ≠ b) : mset L b y v a = L a := by
  funext z
  exact mset_k h
theorem PcF_s {M0 : mwM} {L0 : mwL} : CPcs (PcF M0 L0) := ⟨fun M L a y v ha h => ⟨fun b z hb => by rw [mset_n (by omega)]; exact h.1 b z hb, h.2⟩, fun M L a y v ha h => ⟨h.1, fun b hb => by rw [ms_f (by omega)]; exact h.2 b hb⟩⟩
theorem PcG_1 {M0 : mwM} {L0 : mwL} : CPc1 (PcG M0 L0) := ⟨fun M L a y v ha h => ⟨(cs1 PcF_s).1 M L a y v ha h.1, fun z => by rw [mset_n (by omega)]; exact h.2.1 z, by rw [mset_n (by omega)]; exact h.2.2⟩, fun M L a y v ha h => ⟨(cs1 PcF_s).2 M L a y v ha h.1, h.2⟩⟩
theorem PcF_0 {M : mwM} {L : mwL} : PcF M L M L := ⟨fun _ _ _ => rfl, fun _ _ => rfl⟩
theorem PcG_0 {M : mwM} {L : mwL} : PcG M L M L := ⟨PcF_0, fun _ => rfl, rfl⟩
/-- what the reference leaves alone -/
def PrF (M0 : mwM) (L0 : mwL) (M : mwM) (L : mwL) : Prop := (∀ a y, a < 732 → M a y = M0 a y) ∧ (∀ a, a < 732 → L a = L0 a) ∧ ∀ a, 1577 ≤ a → L a = L0 a
def PrG (M0 : mwM) (L0 : mwL) (M : mwM) (L : mwL) : Prop := PrF M0 L0 M L ∧ (∀ y, M 940 y = M0 940 y) ∧ M 732 110 = M0 732 110
def PrH (M0 M : mwM) : Prop := (∀ y, M 754 y = M0 754 y) ∧ M 732 4 = M0 732 4 ∧ M 732 33 = M0 732 33 ∧ ∀ x, x < 12 → M (964 + 53 * x) 2 = M0 (964 + 53 * x) 2
theorem PrF_r {M0 : mwM} {L0 : mwL} {M : mwM} {L : mwL} {a y : Nat} {v : Int32} (ha : 732 ≤ a) (h : PrF M0 L0 M L) : PrF M0 L0 (mset M a y v) L := ⟨fun b z hb => by rw [mset_n (by omega)]; exact h.1 b z hb, h.2⟩
theorem PrF_l {M0 : mwM} {L0 : mwL} {M : mwM} {L : mwL} {a y : Nat} {v : Int64} (ha : 732 ≤ a ∧ a < 1577) (h : PrF M0 L0 M L) : PrF M0 L0 M (mset L a y v) := ⟨h.1, fun b hb => by rw [ms_f (by omega)]; exact h.2.1 b hb, fun b hb => by rw [ms_f (by omega)]; exact h.2.2 b hb⟩
theorem PrH_m {M0 M : mwM} {a y : Nat} {v : Int32} (h1 : a ≠ 754) (h2 : ¬ (a = 732 ∧ (y = 4 ∨ y = 33))) (h3 : ¬ (964 ≤ a ∧ (a - 964) % 53 = 0 ∧ y = 2)) (h : PrH M0 M) : PrH M0 (mset M a y v) := ⟨fun z => by rw [mset_n (by omega)]; exact h.1 z, by rw [mset_n (by omega)]; exact h.2.1, by rw [mset_n (by omega)]; exact h.2.2.1, fun x hx => by rw [mset_n (by omega)]; exact h.2.2.2 x hx⟩
theorem PrG_a {M0 : mwM} {L0 : mwL} : CPra (PrG M0 L0) := ⟨fun M L a y v ha h => ⟨PrF_r (by omega) h.1, fun z => by rw [mset_n (by omega)]; exact h.2.1 z, by rw [mset_n (by omega)]; exact h.2.2⟩, fun M L a y v ha h => ⟨PrF_l ha h.1, h.2⟩⟩
theorem PrG_b {M0 : mwM} {L0 : mwL} : CPrb (fun M L => PrG M0 L0 M L ∧ PrH M0 M) := ⟨fun M L a y v ha h => ⟨(cab PrG_a).1 M L a y v ha h.1, PrH_m (by omega) (by omega) (by omega) h.2⟩, fun M L a y v ha h => ⟨(cab PrG_a).2 M L a y v ha h.1, h.2⟩⟩
theorem PrF_s {M0 : mwM} {L0 : mwL} : CPrs (fun M L => PrF M0 L0 M L ∧ PrH M0 M) := ⟨fun M L a y v ha h => ⟨PrF_r (by omega) h.1, PrH_m (by omega) (by omega) (by omega) h.2⟩, fun M L a y v ha h => ⟨PrF_l ha h.1, h.2⟩⟩
theorem PrF_0 {M : mwM} {L : mwL} : PrF M L M L := ⟨fun _ _ _ => rfl, fun _ _ => rfl, fun _ _ => rfl⟩
theorem PrG_0 {M : mwM} {L : mwL} : PrG M L M L := ⟨PrF_0, fun _ => rfl, rfl⟩
theorem PrH_0 {M : mwM} : PrH M M := ⟨fun _ => rfl, rfl, rfl, fun _ _ => rfl⟩
theorem H54_c {M M' : mwM} (h : H54 M) (hp : PrH M M') : H54 M' := fun h4 X x h33 hX hx => by
  rw [hp.1 x, hp.2.2.2 x (by omega)]
  exact h (by rw [← hp.2.1]; exact h4) X x (by rw [← hp.2.2.1]; exact h33) hX hx
theorem PrH_f {M0 M : mwM} {L0 L : mwL} (h : PcF M0 L0 M L) : PrH M0 M := ⟨fun y => h.1 _ _ (by omega), h.1 _ _ (by omega), h.1 _ _ (by omega), fun x _ => h.1 _ _ (by omega)⟩
/-- the reference's side after the class has run -/
theorem HS_r {M M1 : mwM} {L L1 Lx : mwL} {Sb : Nat → Nat} (h : HS M M L L Sb) (hf : PcF M L M1 L1) (hx : ∀ a, a ≠ 1577 → Lx a = L1 a) : HS M M1 L Lx Sb := HS_e h (fun _ _ _ _ => rfl) (fun a y u1 _ _ _ _ _ _ _ => hf.1 a y u1) (fun _ _ => rfl) (fun a u1 u2 => by rw [hx a (by omega)]; exact hf.2 a u1)
/-- the class's side after the reference has run -/
theorem HS_l {M1 M2 : mwM} {L1 Lx L2 : mwL} {Sb : Nat → Nat} (h : HS M1 M2 L1 L2 Sb) (hf : PrF M1 Lx M2 L2) (hx : ∀ a, a ≠ 1577 → Lx a = L1 a) : HS M2 M2 L2 L2 Sb := HS_e h (fun a y u1 _ => hf.1 a y (by omega)) (fun _ _ _ _ _ _ _ _ _ _ => rfl) (fun a u => by rw [hf.2.1 a u, hx a (by omega)]) (fun _ _ _ => rfl)
theorem one_w {α : Type} {mp : Nat → Nat} {Sb : Nat → Nat} {F : mwM → mwL → Option ((Nat × α) × mwM × mwL)} {G : mwM → mwL → Option (α × mwM × mwL)} (hst : ∀ A M Lc Lm, HS A M Lc Lm Sb → H54 M → CaW mp Sb (F A Lc) (G M Lm)) (hF : ∀ P, CPc1 P → ∀ M L, P M L → kq3 P (F M L)) (hG : ∀ P, CPrb P → ∀ M L, P M L → kq3 P (G M L)) {M : mwM} {L : mwL} (h : JJ Sb M L) : ∃ w r M1 L1, F M L = some ((w, r), M1, L1) ∧ ∀ Lx, (∀ a, a ≠ 1577 → Lx a = L1 a) → ∃ M2 L2, G M1 Lx = some (r, M2, L2) ∧ M2 732 0 = sI (mp w) ∧ JJ Sb M2 L2 ∧ L2 1577 = Lx 1577 := by
  obtain ⟨hS, hY, h5⟩ := h
  obtain ⟨w, r, M1, M', L1, Lm', e1, _, _, _⟩ := hst M M L L hS h5
  have f1 : PcG M L M1 L1 := hF _ PcG_1 M L PcG_0 _ e1
  refine ⟨w, r, M1, L1, e1, fun Lx hx => ?_⟩
  have h51 : H54 M1 := H54_c h5 (PrH_f f1.1)
  obtain ⟨w', r', A', M2, Lc', L2, e2, e3, e4, e5⟩ := hst M M1 L Lx (HS_r hS f1.1 hx) h51
  rw [e1] at e2
  injection e2 with e2
  injection e2 with e2 e6
  injection e2 with e7 e8
  injection e6 with e9 e10
  subst e7 e8 e9 e10
  have f2 := hG _ (PrG_b (M0 := M1) (L0 := Lx)) M1 Lx ⟨PrG_0, PrH_0⟩ _ e3
  obtain ⟨f3, f4⟩ := f2
  dsimp only at f3 f4
  refine ⟨M2, L2, e3, e4, ⟨HS_l e5 f3.1 hx, ?_, H54_c h51 f4⟩, f3.1.2.2 _ (by omega)⟩
  obtain ⟨n, v, n1, n2, n3, n4⟩ := hY
  exact ⟨n, v, n1, by rw [f3.1.1 _ _ (by omega), f1.2.2]; exact n2, by rw [f3.2.2, f1.1.1 _ _ (by omega)]; exact n3, fun j hj => by rw [f3.1.1 _ _ (by omega), f1.2.1, f3.2.1, f1.1.1 _ _ (by omega)]; exact n4 j hj⟩
theorem one_s {α : Type} {Sb : Nat → Nat} {F G : mwM → mwL → Option (α × mwM × mwL)} (hst : ∀ A M Lc Lm, HS A M Lc Lm Sb → CaS Sb (F A Lc) (G M Lm)) (hF : ∀ P, CPc1 P → ∀ M L, P M L → kq3 P (F M L)) (hG : ∀ P, CPrb P → ∀ M L, P M L → kq3 P (G M L)) {M : mwM} {L : mwL} (h : JJ Sb M L) : ∃ r M1 L1 M2 L2, F M L = some (r, M1, L1) ∧ G M1 L1 = some (r, M2, L2) ∧ JJ Sb M2 L2 := by
  obtain ⟨hS, hY, h5⟩ := h
  obtain ⟨r, M1, M', L1, Lm', e1, _, _⟩ := hst M M L L hS
  have f1 : PcG M L M1 L1 := hF _ PcG_1 M L PcG_0 _ e1
  have h51 : H54 M1 := H54_c h5 (PrH_f f1.1)
  obtain ⟨r', A', M2, Lc', L2, e2, e3, e5⟩ := hst M M1 L L1 (HS_r hS f1.1 (fun _ _ => rfl))
  rw [e1] at e2
  injection e2 with e2
  injection e2 with e7 e6
  injection e6 with e9 e10
  subst e7 e9 e10
  have f2 := hG _ (PrG_b (M0 := M1) (L0 := L1)) M1 L1 ⟨PrG_0, PrH_0⟩ _ e3
  obtain ⟨f3, f4⟩ := f2
  dsimp only at f3 f4
  refine ⟨r, M1, L1, M2, L2, e1, e3, HS_l e5 f3.1 (fun _ _ => rfl), ?_, H54_c h51 f4⟩
  obtain ⟨n, v, n1, n2, n3, n4⟩ := hY
  exact ⟨n, v, n1, by rw [f3.1.1 _ _ (by omega), f1.2.2]; exact n2, by rw [f3.2.2, f1.1.1 _ _ (by omega)]; exact n3, fun j hj => by rw [f3.1.1 _ _ (by omega), f1.2.1, f3.2.1, f1.1.1 _ _ (by omega)]; exact n4 j hj⟩
/-- a call that answers nothing; Z: the wrapper's answer -/
theorem one_t {Z : Type} {mp : Z → Int32} {Sb : Nat → Nat} {F : mwM → mwL → Option (Z × mwM × mwL)} {G : mwM → mwL → Option (mwM × mwL)} (hst : ∀ A M Lc Lm, HS A M Lc Lm Sb → ∃ (w : Z) (A' M' : mwM) (Lc' Lm' : mwL), F A Lc = some (w, A', Lc') ∧ G M Lm = some (M', Lm') ∧ M' 732 0 = mp w ∧ HS A' M' Lc' Lm' Sb) (hF : ∀ P, CPc1 P → ∀ M L, P M L → kq3 P (F M L)) (hG : ∀ P, CPrb P → ∀ M L, P M L → kq2 P (G M L)) {M : mwM} {L : mwL} (h : JJ Sb M L) : ∃ w M1 L1 M2 L2, F M L = some (w, M1, L1) ∧ G M1 L1 = some (M2, L2) ∧ M2 732 0 = mp w ∧ JJ Sb M2 L2 := by
  obtain ⟨hS, hY, h5⟩ := h
  obtain ⟨r, M1, M', L1, Lm', e1, _, _, _⟩ := hst M M L L hS
  have f1 : PcG M L M1 L1 := hF _ PcG_1 M L PcG_0 _ e1
  have h51 : H54 M1 := H54_c h5 (PrH_f f1.1)
  obtain ⟨r', A', M2, Lc', L2, e2, e3, e4, e5⟩ := hst M M1 L L1 (HS_r hS f1.1 (fun _ _ => rfl))
  rw [e1] at e2
  injection e2 with e2
  injection e2 with e7 e6
  injection e6 with e9 e10
  subst e7 e9 e10
  have f2 := hG _ (PrG_b (M0 := M1) (L0 := L1)) M1 L1 ⟨PrG_0, PrH_0⟩ _ e3
  obtain ⟨f3, f4⟩ := f2
  dsimp only at f3 f4
  refine ⟨r, M1, L1, M2, L2, e1, e3, e4, HS_l e5 f3.1 (fun _ _ => rfl), ?_, H54_c h51 f4⟩
  obtain ⟨n, v, n1, n2, n3, n4⟩ := hY
  exact ⟨n, v, n1, by rw [f3.1.1 _ _ (by omega), f1.2.2]; exact n2, by rw [f3.2.2, f1.1.1 _ _ (by omega)]; exact n3, fun j hj => by rw [f3.1.1 _ _ (by omega), f1.2.1, f3.2.1, f1.1.1 _ _ (by omega)]; exact n4 j hj⟩
/-- what is said on one memory -/
theorem SyR_r {M M1 : mwM} {L L1 : mwL} (h : SyR M M) (hf : PcF M L M1 L1) : SyR M M1 := by
  obtain ⟨n, v, n1, n2, n3, n4⟩ := h
  exact ⟨n, v, n1, n2, by rw [hf.1 _ _ (by omega)]; exact n3, fun j hj => by rw [hf.1 _ _ (by omega)]; exact n4 j hj⟩
theorem SyR_l {M1 M2 : mwM} {L1 L2 : mwL} (h : SyR M1 M2) (hf : PrF M1 L1 M2 L2) : SyR M2 M2 := by
  obtain ⟨n, v, n1, n2, n3, n4⟩ := h
  exact ⟨n, v, n1, by rw [hf.1 _ _ (by omega)]; exact n2, n3, fun j hj => by rw [hf.1 _ _ (by omega)]; exact n4 j hj⟩
/-! THE CALLS ON ONE MEMORY (printed by mk_lw.py) -/
/-- a call and its wrapper: both sides end alike -/
def DQ {α : Type} (lg : α → Int64) (Sb : Nat → Nat) (D : mwM → mwL → Option (Int32 × mwM × mwL)) (G : mwM → mwL → Option (α × mwM × mwL)) (M : mwM) (L : mwL) : Prop := ∃ k r M1 L1 M2 L2, D M L = some (k, M1, L1) ∧ G M1 L1 = some (r, M2, L2) ∧ M2 732 0 = k ∧ (k = 0 → L2 1577 0 = lg r) ∧ JJ Sb M2 L2
def DT (Sb : Nat → Nat) (D : mwM → mwL → Option (Int32 × mwM × mwL)) (G : mwM → mwL → Option (mwM × mwL)) (M : mwM) (L : mwL) : Prop := ∃ k M1 L1 M2 L2, D M L = some (k, M1, L1) ∧ G M1 L1 = some (M2, L2) ∧ M2 732 0 = k ∧ JJ Sb M2 L2
def DS (Sb : Nat → Nat) (F G : mwM → mwL → Option (Int32 × mwM × mwL)) (M : mwM) (L : mwL) : Prop := ∃ r M1 L1 M2 L2, F M L = some (r, M1, L1) ∧ G M1 L1 = some (r, M2, L2) ∧ JJ Sb M2 L2
theorem lq_cut {fu : Nat} {a1 : Int32} {M : mwM} {L : mwL} {Sb : Nat → Nat} (hfu : 150000 ≤ fu) (h : JJ Sb M L) : DQ (fun r => r.toInt64) Sb (DL_cut fu a1) (DX19_cut fu a1) M L := by
  obtain ⟨w, r, M1, L1, e1, hx⟩ := one_w (mp := mp21) (F := DX11_cut fu a1) (G := DX19_cut fu a1) (fun A M Lc Lm h h5 => st_lcut h) (fun P hC M L hp => y_DX11_cut (c12 hC) hp) (fun P hC M L hp => y_DX19_cut hC hp) h
  have hw := v_DX11_cut _ e1
  dsimp only at hw
  rcases hw with rfl | rfl
  · obtain ⟨M2, L2, x1, x2, x3, x4⟩ := hx (mset L1 1577 0 r.toInt64) (fun a u => ms_f u)
    exact ⟨0, r, M1, _, M2, L2, by unfold DL_cut; rw [e1]; rfl, x1, x2, fun _ => by rw [x4]; exact mset_s, x3⟩
  · obtain ⟨M2, L2, x1, x2, x3, x4⟩ := hx L1 (fun _ _ => rfl)
    exact ⟨1, r, M1, L1, M2, L2, by unfold DL_cut; rw [e1]; rfl, x1, x2, fun q => absurd q (by decide), x3⟩
theorem lq_count {fu : Nat} {a1 : Int32} {M : mwM} {L : mwL} {Sb : Nat → Nat} (hfu : 150000 ≤ fu) (h : JJ Sb M L) : DQ (fun r => r.toInt64) Sb (DL_count fu a1) (DX19_count fu a1) M L := by
  obtain ⟨w, r, M1, L1, e1, hx⟩ := one_w (mp := mp21) (F := DX11_count fu a1) (G := DX19_count fu a1) (fun A M Lc Lm h h5 => st_count h) (fun P hC M L hp => y_DX11_count (c12 hC) hp) (fun P hC M L hp => y_DX19_count hC hp) h
  have hw := v_DX11_count _ e1
  dsimp only at hw
  rcases hw with rfl | rfl | rfl
  · obtain ⟨M2, L2, x1, x2, x3, x4⟩ := hx (mset L1 1577 0 r.toInt64) (fun a u => ms_f u)
    exact ⟨0, r, M1, _, M2, L2, by unfold DL_count; rw [e1]; rfl, x1, x2, fun _ => by rw [x4]; exact mset_s, x3⟩
  · obtain ⟨M2, L2, x1, x2, x3, x4⟩ := hx L1 (fun _ _ => rfl)
    exact ⟨2, r, M1, L1, M2, L2, by unfold DL_count; rw [e1]; rfl, x1, x2, fun q => absurd q (by decide), x3⟩
  · obtain ⟨M2, L2, x1, x2, x3, x4⟩ := hx L1 (fun _ _ => rfl)
    exact ⟨1, r, M1, L1, M2, L2, by unfold DL_count; rw [e1]; rfl, x1, x2, fun q => absurd q (by decide), x3⟩
theorem lq_frame {fu : Nat} {a1 a2 : Int32} {M : mwM} {L : mwL} {Sb : Nat → Nat} (hfu : 150000 ≤ fu) (h : JJ Sb M L) : DQ (fun r => r.toInt64) Sb (DL_frame fu a1 a2) (DX19_frame fu a1 a2) M L := by
  obtain ⟨w, r, M1, L1, e1, hx⟩ := one_w (mp := mp32) (F := DX11_frame fu a1 a2) (G := DX19_frame fu a1 a2) (fun A M Lc Lm h h5 => st_lframe h) (fun P hC M L hp => y_DX11_frame (c12 hC) hp) (fun P hC M L hp => y_DX19_frame hC hp) h
  have hw := v_DX11_frame _ e1
  dsimp only at hw
  rcases hw with rfl | rfl | rfl
  · obtain ⟨M2, L2, x1, x2, x3, x4⟩ := hx (mset L1 1577 0 r.toInt64) (fun a u => ms_f u)
    exact ⟨0, r, M1, _, M2, L2, by unfold DL_frame; rw [e1]; rfl, x1, x2, fun _ => by rw [x4]; exact mset_s, x3⟩
  · obtain ⟨M2, L2, x1, x2, x3, x4⟩ := hx L1 (fun _ _ => rfl)
    exact ⟨2, r, M1, L1, M2, L2, by unfold DL_frame; rw [e1]; rfl, x1, x2, fun q => absurd q (by decide), x3⟩
  · obtain ⟨M2, L2, x1, x2, x3, x4⟩ := hx L1 (fun _ _ => rfl)
    exact ⟨1, r, M1, L1, M2, L2, by unfold DL_frame; rw [e1]; rfl, x1, x2, fun q => absurd q (by decide), x3⟩
theorem lq_signal {fu : Nat} {a1 a2 : Int32} {M : mwM} {L : mwL} {Sb : Nat → Nat} (hfu : 150000 ≤ fu) (h : JJ Sb M L) : DQ (fun r => r.toInt64) Sb (DL_signal fu a1 a2) (DX19_signal fu a1 a2) M L := by
  obtain ⟨w, r, M1, L1, e1, hx⟩ := one_w (mp := mp32) (F := DX11_signal fu a1 a2) (G := DX19_signal fu a1 a2) (fun A M Lc Lm h h5 => st_lsignal h) (fun P hC M L hp => y_DX11_signal (c12 hC) hp) (fun P hC M L hp => y_DX19_signal hC hp) h
  have hw := v_DX11_signal _ e1
  dsimp only at hw
  rcases hw with rfl | rfl
  · obtain ⟨M2, L2, x1, x2, x3, x4⟩ := hx (mset L1 1577 0 r.toInt64) (fun a u => ms_f u)
    exact ⟨0, r, M1, _, M2, L2, by unfold DL_signal; rw [e1]; rfl, x1, x2, fun _ => by rw [x4]; exact mset_s, x3⟩
  · obtain ⟨M2, L2, x1, x2, x3, x4⟩ := hx L1 (fun _ _ => rfl)
    exact ⟨1, r, M1, L1, M2, L2, by unfold DL_signal; rw [e1]; rfl, x1, x2, fun q => absurd q (by decide), x3⟩
theorem lq_run {fu : Nat} {a1 : Int32} {M : mwM} {L : mwL} {Sb : Nat → Nat} (hfu : 150000 ≤ fu) (h : JJ Sb M L) : DQ (fun r => r.toInt64) Sb (DL_run fu a1) (DX19_run fu a1) M L := by
  obtain ⟨w, r, M1, L1, e1, hx⟩ := one_w (mp := mp21) (F := DX11_run fu a1) (G := DX19_run fu a1) (fun A M Lc Lm h h5 => by
    obtain ⟨w, r, A9, M9, Lc9, Lm9, e1, e2, _, e4, e5⟩ := st_run (fu := fu) (a1 := a1) (by omega) h
    exact ⟨w, r, A9, M9, Lc9, Lm9, e1, e2, e4, e5⟩) (fun P hC M L hp => y_DX11_run (c12 hC) hp) (fun P hC M L hp => y_DX19_run hC hp) h
  have hw := v_DX11_run _ e1
  dsimp only at hw
  rcases hw with rfl | rfl | rfl
  · obtain ⟨M2, L2, x1, x2, x3, x4⟩ := hx (mset L1 1577 0 r.toInt64) (fun a u => ms_f u)
    exact ⟨0, r, M1, _, M2, L2, by unfold DL_run; rw [e1]; rfl, x1, x2, fun _ => by rw [x4]; exact mset_s, x3⟩
  · obtain ⟨M2, L2, x1, x2, x3, x4⟩ := hx L1 (fun _ _ => rfl)
    exact ⟨2, r, M1, L1, M2, L2, by unfold DL_run; rw [e1]; rfl, x1, x2, fun q => absurd q (by decide), x3⟩
  · obtain ⟨M2, L2, x1, x2, x3, x4⟩ := hx L1 (fun _ _ => rfl)
    exact ⟨1, r, M1, L1, M2, L2, by unfold DL_run; rw [e1]; rfl, x1, x2, fun q => absurd q (by decide), x3⟩
theorem lq_bit {fu : Nat} {a1 : Int32} {M : mwM} {L : mwL} {Sb : Nat → Nat} (hfu : 150000 ≤ fu) (h : JJ Sb M L) : DQ (fun r => r.toInt64) Sb (DL_bit fu a1) (DX19_bit fu a1) M L := by
  obtain ⟨w, r, M1, L1, e1, hx⟩ := one_w (mp := mp32) (F := DX11_bit fu a1) (G := DX19_bit fu a1) (fun A M Lc Lm h h5 => st_lbit h) (fun P hC M L hp => y_DX11_bit (c12 hC) hp) (fun P hC M L hp => y_DX19_bit hC hp) h
  have hw := v_DX11_bit _ e1
  dsimp only at hw
  rcases hw with rfl | rfl
  · obtain ⟨M2, L2, x1, x2, x3, x4⟩ := hx (mset L1 1577 0 r.toInt64) (fun a u => ms_f u)
    exact ⟨0, r, M1, _, M2, L2, by unfold DL_bit; rw [e1]; rfl, x1, x2, fun _ => by rw [x4]; exact mset_s, x3⟩
  · obtain ⟨M2, L2, x1, x2, x3, x4⟩ := hx L1 (fun _ _ => rfl)
    exact ⟨1, r, M1, L1, M2, L2, by unfold DL_bit; rw [e1]; rfl, x1, x2, fun q => absurd q (by decide), x3⟩
theorem lq_node {fu : Nat} {a1 a2 : Int32} {M : mwM} {L : mwL} {Sb : Nat → Nat} (hfu : 150000 ≤ fu) (h : JJ Sb M L) : DQ (fun r => r.toInt64) Sb (DL_node fu a1 a2) (DX19_node fu a1 a2) M L := by
  obtain ⟨w, r, M1, L1, e1, hx⟩ := one_w (mp := mp32) (F := DX11_node fu a1 a2) (G := DX19_node fu a1 a2) (fun A M Lc Lm h h5 => st_lnode (by omega) h) (fun P hC M L hp => y_DX11_node (c12 hC) hp) (fun P hC M L hp => y_DX19_node hC hp) h
  have hw := v_DX11_node _ e1
  dsimp only at hw
  rcases hw with rfl | rfl | rfl
  · obtain ⟨M2, L2, x1, x2, x3, x4⟩ := hx (mset L1 1577 0 r.toInt64) (fun a u => ms_f u)
    exact ⟨0, r, M1, _, M2, L2, by unfold DL_node; rw [e1]; rfl, x1, x2, fun _ => by rw [x4]; exact mset_s, x3⟩
  · obtain ⟨M2, L2, x1, x2, x3, x4⟩ := hx L1 (fun _ _ => rfl)
    exact ⟨2, r, M1, L1, M2, L2, by unfold DL_node; rw [e1]; rfl, x1, x2, fun q => absurd q (by decide), x3⟩
  · obtain ⟨M2, L2, x1, x2, x3, x4⟩ := hx L1 (fun _ _ => rfl)
    exact ⟨1, r, M1, L1, M2, L2, by unfold DL_node; rw [e1]; rfl, x1, x2, fun q => absurd q (by decide), x3⟩
theorem lq_error {fu : Nat} {a1 a2 : Int32} {M : mwM} {L : mwL} {Sb : Nat → Nat} (hfu : 150000 ≤ fu) (h : JJ Sb M L) : DQ (fun r => r.toInt64) Sb (DL_error fu a1 a2) (DX19_error fu a1 a2) M L := by
  obtain ⟨w, r, M1, L1, e1, hx⟩ := one_w (mp := mp32) (F := DX11_error fu a1 a2) (G := DX19_error fu a1 a2) (fun A M Lc Lm h h5 => st_lerror h) (fun P hC M L hp => y_DX11_error (c12 hC) hp) (fun P hC M L hp => y_DX19_error hC hp) h
  have hw := v_DX11_error _ e1
  dsimp only at hw
  rcases hw with rfl | rfl | rfl
  · obtain ⟨M2, L2, x1, x2, x3, x4⟩ := hx (mset L1 1577 0 r.toInt64) (fun a u => ms_f u)
    exact ⟨0, r, M1, _, M2, L2, by unfold DL_error; rw [e1]; rfl, x1, x2, fun _ => by rw [x4]; exact mset_s, x3⟩
  · obtain ⟨M2, L2, x1, x2, x3, x4⟩ := hx L1 (fun _ _ => rfl)
    exact ⟨2, r, M1, L1, M2, L2, by unfold DL_error; rw [e1]; rfl, x1, x2, fun q => absurd q (by decide), x3⟩
  · obtain ⟨M2, L2, x1, x2, x3, x4⟩ := hx L1 (fun _ _ => rfl)
    exact ⟨1, r, M1, L1, M2, L2, by unfold DL_error; rw [e1]; rfl, x1, x2, fun q => absurd q (by decide), x3⟩
theorem lq_running {fu : Nat} {a1 a2 : Int32} {M : mwM} {L : mwL} {Sb : Nat → Nat} (hfu : 150000 ≤ fu) (h : JJ Sb M L) : DQ (fun r => r.toInt64) Sb (DL_running fu a1 a2) (DX19_running fu a1 a2) M L := by
  obtain ⟨w, r, M1, L1, e1, hx⟩ := one_w (mp := mp32) (F := DX11_running fu a1 a2) (G := DX19_running fu a1 a2) (fun A M Lc Lm h h5 => st_lrunning h) (fun P hC M L hp => y_DX11_running (c12 hC) hp) (fun P hC M L hp => y_DX19_running hC hp) h
  have hw := v_DX11_running _ e1
  dsimp only at hw
  rcases hw with rfl | rfl
  · obtain ⟨M2, L2, x1, x2, x3, x4⟩ := hx (mset L1 1577 0 r.toInt64) (fun a u => ms_f u)
    exact ⟨0, r, M1, _, M2, L2, by unfold DL_running; rw [e1]; rfl, x1, x2, fun _ => by rw [x4]; exact mset_s, x3⟩
  · obtain ⟨M2, L2, x1, x2, x3, x4⟩ := hx L1 (fun _ _ => rfl)
    exact ⟨1, r, M1, L1, M2, L2, by unfold DL_running; rw [e1]; rfl, x1, x2, fun q => absurd q (by decide), x3⟩
theorem lq_task {fu : Nat} {a1 a2 : Int32} {M : mwM} {L : mwL} {Sb : Nat → Nat} (hfu : 150000 ≤ fu) (h : JJ Sb M L) : DQ (fun r => r.toInt64) Sb (DL_task fu a1 a2) (DX19_task fu a1 a2) M L := by
  obtain ⟨w, r, M1, L1, e1, hx⟩ := one_w (mp := mp32) (F := DX11_task fu a1 a2) (G := DX19_task fu a1 a2) (fun A M Lc Lm h h5 => st_ltask h) (fun P hC M L hp => y_DX11_task (c12 hC) hp) (fun P hC M L hp => y_DX19_task hC hp) h
  have hw := v_DX11_task _ e1
  dsimp only at hw
  rcases hw with rfl | rfl | rfl
  · obtain ⟨M2, L2, x1, x2, x3, x4⟩ := hx (mset L1 1577 0 r.toInt64) (fun a u => ms_f u)
    exact ⟨0, r, M1, _, M2, L2, by unfold DL_task; rw [e1]; rfl, x1, x2, fun _ => by rw [x4]; exact mset_s, x3⟩
  · obtain ⟨M2, L2, x1, x2, x3, x4⟩ := hx L1 (fun _ _ => rfl)
    exact ⟨2, r, M1, L1, M2, L2, by unfold DL_task; rw [e1]; rfl, x1, x2, fun q => absurd q (by decide), x3⟩
  · obtain ⟨M2, L2, x1, x2, x3, x4⟩ := hx L1 (fun _ _ => rfl)
    exact ⟨1, r, M1, L1, M2, L2, by unfold DL_task; rw [e1]; rfl, x1, x2, fun q => absurd q (by decide), x3⟩
theorem lq_active {fu : Nat} {a1 a2 : Int32} {M : mwM} {L : mwL} {Sb : Nat → Nat} (hfu : 150000 ≤ fu) (h : JJ Sb M L) : DQ (fun r => r.toInt64) Sb (DL_active fu a1 a2) (DX19_active fu a1 a2) M L := by
  obtain ⟨w, r, M1, L1, e1, hx⟩ := one_w (mp := mp32) (F := DX11_active fu a1 a2) (G := DX19_active fu a1 a2) (fun A M Lc Lm h h5 => st_lactive (by omega) h5 h) (fun P hC M L hp => y_DX11_active (c12 hC) hp) (fun P hC M L hp => y_DX19_active hC hp) h
  have hw := v_DX11_active _ e1
  dsimp only at hw
  rcases hw with rfl | rfl
  · obtain ⟨M2, L2, x1, x2, x3, x4⟩ := hx (mset L1 1577 0 r.toInt64) (fun a u => ms_f u)
    exact ⟨0, r, M1, _, M2, L2, by unfold DL_active; rw [e1]; rfl, x1, x2, fun _ => by rw [x4]; exact mset_s, x3⟩
  · obtain ⟨M2, L2, x1, x2, x3, x4⟩ := hx L1 (fun _ _ => rfl)
    exact ⟨1, r, M1, L1, M2, L2, by unfold DL_active; rw [e1]; rfl, x1, x2, fun q => absurd q (by decide), x3⟩
theorem lq_value {fu : Nat} {a1 a2 : Int32} {M : mwM} {L : mwL} {Sb : Nat → Nat} (hfu : 150000 ≤ fu) (h : JJ Sb M L) : DQ (fun r => r) Sb (DL_value fu a1 a2) (DX19_value fu a1 a2) M L := by
  obtain ⟨w, r, M1, L1, e1, hx⟩ := one_w (mp := mp32) (F := DX11_value fu a1 a2) (G := DX19_value fu a1 a2) (fun A M Lc Lm h h5 => st_lvalue h) (fun P hC M L hp => y_DX11_value (c12 hC) hp) (fun P hC M L hp => y_DX19_value hC hp) h
  have hw := v_DX11_value _ e1
  dsimp only at hw
  rcases hw with rfl | rfl
  · obtain ⟨M2, L2, x1, x2, x3, x4⟩ := hx (mset L1 1577 0 r) (fun a u => ms_f u)
    exact ⟨0, r, M1, _, M2, L2, by unfold DL_value; rw [e1]; rfl, x1, x2, fun _ => by rw [x4]; exact mset_s, x3⟩
  · obtain ⟨M2, L2, x1, x2, x3, x4⟩ := hx L1 (fun _ _ => rfl)
    exact ⟨1, r, M1, L1, M2, L2, by unfold DL_value; rw [e1]; rfl, x1, x2, fun q => absurd q (by decide), x3⟩
theorem lq_chart {fu : Nat} {a1 a2 : Int32} {M : mwM} {L : mwL} {Sb : Nat → Nat} (hfu : 150000 ≤ fu) (h : JJ Sb M L) : DQ (fun r => r.toInt64) Sb (DL_chart fu a1 a2) (DX19_chart fu a1 a2) M L := by
  obtain ⟨w, r, M1, L1, e1, hx⟩ := one_w (mp := mp32) (F := DX11_chart fu a1 a2) (G := DX19_chart fu a1 a2) (fun A M Lc Lm h h5 => st_lchart (by omega) h) (fun P hC M L hp => y_DX11_chart (c12 hC) hp) (fun P hC M L hp => y_DX19_chart hC hp) h
  have hw := v_DX11_chart _ e1
  dsimp only at hw
  rcases hw with rfl | rfl | rfl
  · obtain ⟨M2, L2, x1, x2, x3, x4⟩ := hx (mset L1 1577 0 r.toInt64) (fun a u => ms_f u)
    exact ⟨0, r, M1, _, M2, L2, by unfold DL_chart; rw [e1]; rfl, x1, x2, fun _ => by rw [x4]; exact mset_s, x3⟩
  · obtain ⟨M2, L2, x1, x2, x3, x4⟩ := hx L1 (fun _ _ => rfl)
    exact ⟨2, r, M1, L1, M2, L2, by unfold DL_chart; rw [e1]; rfl, x1, x2, fun q => absurd q (by decide), x3⟩
  · obtain ⟨M2, L2, x1, x2, x3, x4⟩ := hx L1 (fun _ _ => rfl)
    exact ⟨1, r, M1, L1, M2, L2, by unfold DL_chart; rw [e1]; rfl, x1, x2, fun q => absurd q (by decide), x3⟩
theorem lq_trouble {fu : Nat} {a1 a2 : Int32} {M : mwM} {L : mwL} {Sb : Nat → Nat} (hfu : 150000 ≤ fu) (h : JJ Sb M L) : DQ (fun r => r.toInt64) Sb (DL_trouble fu a1 a2) (DX19_trouble fu a1 a2) M L := by
  obtain ⟨w, r, M1, L1, e1, hx⟩ := one_w (mp := mp32) (F := DX11_trouble fu a1 a2) (G := DX19_trouble fu a1 a2) (fun A M Lc Lm h h5 => st_ltrouble (by omega) h) (fun P hC M L hp => y_DX11_trouble (c12 hC) hp) (fun P hC M L hp => y_DX19_trouble hC hp) h
  have hw := v_DX11_trouble _ e1
  dsimp only at hw
  rcases hw with rfl | rfl | rfl
  · obtain ⟨M2, L2, x1, x2, x3, x4⟩ := hx (mset L1 1577 0 r.toInt64) (fun a u => ms_f u)
    exact ⟨0, r, M1, _, M2, L2, by unfold DL_trouble; rw [e1]; rfl, x1, x2, fun _ => by rw [x4]; exact mset_s, x3⟩
  · obtain ⟨M2, L2, x1, x2, x3, x4⟩ := hx L1 (fun _ _ => rfl)
    exact ⟨2, r, M1, L1, M2, L2, by unfold DL_trouble; rw [e1]; rfl, x1, x2, fun q => absurd q (by decide), x3⟩
  · obtain ⟨M2, L2, x1, x2, x3, x4⟩ := hx L1 (fun _ _ => rfl)
    exact ⟨1, r, M1, L1, M2, L2, by unfold DL_trouble; rw [e1]; rfl, x1, x2, fun q => absurd q (by decide), x3⟩
theorem lq_counted {fu : Nat} {a1 : Int32} {M : mwM} {L : mwL} {Sb : Nat → Nat} (hfu : 150000 ≤ fu) (h : JJ Sb M L) : DQ (fun r => r.toInt64) Sb (DL_counted fu a1) (DX19_counted fu a1) M L := by
  obtain ⟨w, r, M1, L1, e1, hx⟩ := one_w (mp := mp21) (F := DX11_counted fu a1) (G := DX19_counted fu a1) (fun A M Lc Lm h h5 => st_counted h) (fun P hC M L hp => y_DX11_counted (c12 hC) hp) (fun P hC M L hp => y_DX19_counted hC hp) h
  have hw := v_DX11_counted _ e1
  dsimp only at hw
  rcases hw with rfl | rfl
  · obtain ⟨M2, L2, x1, x2, x3, x4⟩ := hx (mset L1 1577 0 r.toInt64) (fun a u => ms_f u)
    exact ⟨0, r, M1, _, M2, L2, by unfold DL_counted; rw [e1]; rfl, x1, x2, fun _ => by rw [x4]; exact mset_s, x3⟩
  · obtain ⟨M2, L2, x1, x2, x3, x4⟩ := hx L1 (fun _ _ => rfl)
    exact ⟨1, r, M1, L1, M2, L2, by unfold DL_counted; rw [e1]; rfl, x1, x2, fun q => absurd q (by decide), x3⟩
theorem lq_answer {fu : Nat} {a1 : Int32} {M : mwM} {L : mwL} {Sb : Nat → Nat} (hfu : 150000 ≤ fu) (h : JJ Sb M L) : DQ (fun r => r.toInt64) Sb (DL_answer fu a1) (DX19_answer fu a1) M L := by
  obtain ⟨w, r, M1, L1, e1, hx⟩ := one_w (mp := mp32) (F := DX11_answer fu a1) (G := DX19_answer fu a1) (fun A M Lc Lm h h5 => st_lanswer h) (fun P hC M L hp => y_DX11_answer (c12 hC) hp) (fun P hC M L hp => y_DX19_answer hC hp) h
  have hw := v_DX11_answer _ e1
  dsimp only at hw
  rcases hw with rfl | rfl
  · obtain ⟨M2, L2, x1, x2, x3, x4⟩ := hx (mset L1 1577 0 r.toInt64) (fun a u => ms_f u)
    exact ⟨0, r, M1, _, M2, L2, by unfold DL_answer; rw [e1]; rfl, x1, x2, fun _ => by rw [x4]; exact mset_s, x3⟩
  · obtain ⟨M2, L2, x1, x2, x3, x4⟩ := hx L1 (fun _ _ => rfl)
    exact ⟨1, r, M1, L1, M2, L2, by unfold DL_answer; rw [e1]; rfl, x1, x2, fun q => absurd q (by decide), x3⟩
theorem lq_silence {fu : Nat} {a1 : Int32} {b : Bool} {M : mwM} {L : mwL} {Sb : Nat → Nat} (hfu : 150000 ≤ fu) (h : JJ Sb M L) : DQ (fun r => r.toInt64) Sb (DL_silence fu a1 (bI b)) (DX19_silence fu a1 (bI b)) M L := by
  obtain ⟨w, r, M1, L1, e1, hx⟩ := one_w (mp := mp32) (F := DX11_silence fu a1 (bI b)) (G := DX19_silence fu a1 (bI b)) (fun A M Lc Lm h h5 => st_lsilence (by omega) h) (fun P hC M L hp => y_DX11_silence (c12 hC) hp) (fun P hC M L hp => y_DX19_silence hC hp) h
  have hw := v_DX11_silence _ e1
  dsimp only at hw
  rcases hw with rfl | rfl
  · obtain ⟨M2, L2, x1, x2, x3, x4⟩ := hx (mset L1 1577 0 r.toInt64) (fun a u => ms_f u)
    exact ⟨0, r, M1, _, M2, L2, by unfold DL_silence; rw [e1]; rfl, x1, x2, fun _ => by rw [x4]; exact mset_s, x3⟩
  · obtain ⟨M2, L2, x1, x2, x3, x4⟩ := hx L1 (fun _ _ => rfl)
    exact ⟨1, r, M1, L1, M2, L2, by unfold DL_silence; rw [e1]; rfl, x1, x2, fun q => absurd q (by decide), x3⟩
theorem lq_cycle {fu ts : Nat} {M : mwM} {L : mwL} {Sb : Nat → Nat} (hfu : 150000 ≤ fu) (hts : ts < 2) (h : JJ Sb M L) : DQ (fun r => r.toInt64) Sb (DL_cycle fu (sI ts)) (DX19_cycle fu (sI ts)) M L := by
  obtain ⟨w, r, M1, L1, e1, hx⟩ := one_w (mp := fun w => w) (F := DX11_cycle fu (sI ts)) (G := DX19_cycle fu (sI ts)) (fun A M Lc Lm h h5 => st_lcycle (by omega) hts h) (fun P hC M L hp => y_DX11_cycle (c12 hC) hp) (fun P hC M L hp => y_DX19_cycle hC hp) h
  have hw := v_DX11_cycle _ e1
  dsimp only at hw
  rcases hw with rfl | rfl
  · obtain ⟨M2, L2, x1, x2, x3, x4⟩ := hx (mset L1 1577 0 r.toInt64) (fun a u => ms_f u)
    exact ⟨0, r, M1, _, M2, L2, by unfold DL_cycle; rw [e1]; rfl, x1, x2, fun _ => by rw [x4]; exact mset_s, x3⟩
  · obtain ⟨M2, L2, x1, x2, x3, x4⟩ := hx L1 (fun _ _ => rfl)
    exact ⟨1, r, M1, L1, M2, L2, by unfold DL_cycle; rw [e1]; rfl, x1, x2, fun q => absurd q (by decide), x3⟩
theorem lq_time {fu : Nat} {M : mwM} {L : mwL} {Sb : Nat → Nat} (h : JJ Sb M L) : DS Sb (DX11_time fu) (DX19_time fu) M L := one_s (F := DX11_time fu) (G := DX19_time fu) (fun A M Lc Lm h => st_ltime h) (fun P hC M L hp => y_DX11_time (c12 hC) hp) (fun P hC M L hp => y_DX19_time hC hp) h
theorem lq_asking {fu : Nat} {M : mwM} {L : mwL} {Sb : Nat → Nat} (h : JJ Sb M L) : DS Sb (DX11_asking fu) (DX19_asking fu) M L := one_s (F := DX11_asking fu) (G := DX19_asking fu) (fun A M Lc Lm h => st_lasking h) (fun P hC M L hp => y_DX11_asking (c12 hC) hp) (fun P hC M L hp => y_DX19_asking hC hp) h
theorem lq_answers {fu : Nat} {M : mwM} {L : mwL} {Sb : Nat → Nat} (h : JJ Sb M L) : DS Sb (DX11_answers fu) (DX19_answers fu) M L := one_s (F := DX11_answers fu) (G := DX19_answers fu) (fun A M Lc Lm h => st_lanswers h) (fun P hC M L hp => y_DX11_answers (c12 hC) hp) (fun P hC M L hp => y_DX19_answers hC hp) h
theorem lq_place {fu : Nat} {M : mwM} {L : mwL} {Sb : Nat → Nat} (h : JJ Sb M L) : DS Sb (DX11_place fu) (DX19_place fu) M L := one_s (F := DX11_place fu) (G := DX19_place fu) (fun A M Lc Lm h => by
    obtain ⟨r, e1, e2, e3⟩ := st_place (fu := fu) h
    exact ⟨r, _, _, _, _, e1, e2, e3⟩) (fun P hC M L hp => y_DX11_place (c12 hC) hp) (fun P hC M L hp => y_DX19_place hC hp) h
theorem lq_text {fu : Nat} {a1 a2 a3 a4 : Int32} {M : mwM} {L : mwL} {Sb : Nat → Nat} (hfu : 150000 ≤ fu) (h : JJ Sb M L) : DT Sb (DL_text fu a1 a2 a3 a4) (DX19_text fu a1 a2 a3 a4) M L := one_t (mp := fun k => k) (F := DL_text fu a1 a2 a3 a4) (G := DX19_text fu a1 a2 a3 a4) (fun A M Lc Lm h => by
    obtain ⟨k, A9, M9, e1, e2, e3, e4⟩ := st_ltext (fu := fu) (a := a1) (b := a2) (c := a3) (d := a4) (by omega) h
    exact ⟨k, A9, M9, Lc, Lm, e1, e2, e3, e4⟩) (fun P hC M L hp => kqB33 (y_DX11_text (c12 hC) hp) (fun _ _ _ h => kqI3 (kqS3 h) (kqI3 (kqS3 h) kqN3))) (fun P hC M L hp => y_DX19_text hC hp) h
theorem lq_flip {fu : Nat} {a1 a2 : Int32} {M : mwM} {L : mwL} {Sb : Nat → Nat} (h : JJ Sb M L) : DT Sb (DL_flip fu a1 a2) (DX19_flip fu a1 a2) M L := by
  obtain ⟨w, M1, L1, M2, L2, e1, e2, e3, e4⟩ := one_t (mp := fun w => sI (mp32 w)) (F := DX11_flip fu a1 a2) (G := DX19_flip fu a1 a2) (fun A M Lc Lm h => st_lflip h) (fun P hC M L hp => y_DX11_flip (c12 hC) hp) (fun P hC M L hp => y_DX19_flip hC hp) h
  have hw := v_DX11_flip _ e1
  dsimp only at hw
  rcases hw with rfl | rfl | rfl
  · exact ⟨0, M1, L1, M2, L2, by unfold DL_flip; rw [e1]; rfl, e2, e3, e4⟩
  · exact ⟨2, M1, L1, M2, L2, by unfold DL_flip; rw [e1]; rfl, e2, e3, e4⟩
  · exact ⟨1, M1, L1, M2, L2, by unfold DL_flip; rw [e1]; rfl, e2, e3, e4⟩
theorem lq_say {fu : Nat} {a1 : Int32} {M : mwM} {L : mwL} {Sb : Nat → Nat} (h : JJ Sb M L) : DS Sb (DX11_say fu a1) (DX19_say_ fu a1) M L := by
  obtain ⟨hS, hY, h5⟩ := h
  obtain ⟨r, M1, M', e1, _, _, _⟩ := st_lsay (fu := fu) (a1 := a1) hY hS
  have f1 : PcF M L M1 L := y_DX11_say PcF_s PcF_0 _ e1
  have h51 : H54 M1 := H54_c h5 (PrH_f f1)
  obtain ⟨r', A', M2, e2, e3, e5, e6⟩ := st_lsay (fu := fu) (a1 := a1) (SyR_r hY f1) (HS_r hS f1 (fun _ _ => rfl))
  rw [e1] at e2
  injection e2 with e2
  injection e2 with e7 e8
  injection e8 with e9 _
  subst e7 e9
  have f2 := y_DX19_say_ (fu := fu) (a1 := a1) (PrF_s (M0 := M1) (L0 := L)) ⟨PrF_0, PrH_0⟩ _ e3
  obtain ⟨f3, f4⟩ := f2
  dsimp only at f3 f4
  exact ⟨r, M1, L, M2, L, e1, e3, HS_l e5 f3 (fun _ _ => rfl), SyR_l e6 f3, H54_c h51 f4⟩
theorem lq_ask {fu : Nat} {a1 : Int32} {M : mwM} {L : mwL} {Sb : Nat → Nat} (hfu : 150000 ≤ fu) (h : JJ Sb M L) : DQ (fun r => r.toInt64) Sb (DL_ask fu a1) (DX19_ask fu a1) M L := by
  obtain ⟨hS, hY, h5⟩ := h
  obtain ⟨w, r, M1, M', e1, _, _, _, _⟩ := st_lask (fu := fu) (a1 := a1) (by omega) hY hS
  have f1 : PcF M L M1 L := y_DX11_ask PcF_s PcF_0 _ e1
  have h51 : H54 M1 := H54_c h5 (PrH_f f1)
  have key : ∀ Lx : mwL, (∀ a, a ≠ 1577 → Lx a = L a) → ∃ M2, DX19_ask fu a1 M1 Lx = some (r, M2, Lx) ∧ M2 732 0 = sI (mp31 w) ∧ JJ Sb M2 Lx := fun Lx hx => by
    obtain ⟨w', r', A', M2, e2, e3, e4, e5, e6⟩ := st_lask (fu := fu) (a1 := a1) (by omega) (SyR_r hY f1) (HS_r hS f1 hx)
    rw [e1] at e2
    injection e2 with e2
    injection e2 with e7 e8
    injection e7 with e10 e11
    injection e8 with e9 _
    subst e9 e10 e11
    have f2 := y_DX19_ask (fu := fu) (a1 := a1) (PrF_s (M0 := M1) (L0 := Lx)) ⟨PrF_0, PrH_0⟩ _ e3
    obtain ⟨f3, f4⟩ := f2
    dsimp only at f3 f4
    exact ⟨M2, e3, e4, HS_l e5 f3 hx, SyR_l e6 f3, H54_c h51 f4⟩
  have hw := v_DX11_ask _ e1
  dsimp only at hw
  rcases hw with rfl | rfl | rfl
  · obtain ⟨M2, x1, x2, x3⟩ := key (mset L 1577 0 r.toInt64) (fun a u => ms_f u)
    exact ⟨0, r, M1, _, M2, _, by unfold DL_ask; rw [e1]; rfl, x1, x2, fun _ => mset_s, x3⟩
  · obtain ⟨M2, x1, x2, x3⟩ := key L (fun _ _ => rfl)
    exact ⟨2, r, M1, L, M2, L, by unfold DL_ask; rw [e1]; rfl, x1, x2, fun q => absurd q (by decide), x3⟩
  · obtain ⟨M2, x1, x2, x3⟩ := key L (fun _ _ => rfl)
    exact ⟨1, r, M1, L, M2, L, by unfold DL_ask; rw [e1]; rfl, x1, x2, fun q => absurd q (by decide), x3⟩
/-! SYSTEM on one memory -/
theorem hz_C {z : Int32} : CPc2 (fun M _ => M 1 12 = 0 → M 1 13 = z) := by
  refine ⟨fun M L a y v ho h q => ?_, fun M L a y v ho h => h, fun fu a b M L ha h => ?_⟩
  · rw [mset_n (by omega)] at q
    rw [mset_n (by omega)]
    exact h q
  · unfold DX8_fail fX8_fail_b17
    refine kqI2 (show kq2 _ (some (_, L)) from kqS2 (fun q => ?_)) (kqS2 h)
    rw [mset_n (by omega), mset_s] at q
    exact absurd q ha
theorem hz_read {fu : Nat} : ∀ (A0 : mwM) (L0 : mwL) (A' : mwM) (L' : mwL), fX8_readText_h19 fu fu (0, 0, A0, L0) = some (A', L') → A' 1 12 = 0 → A' 1 13 = A0 1 13 := fun A0 L0 A' L' e h12 => y_fX8_readText_h19 (P := fun M _ => M 1 12 = 0 → M 1 13 = A0 1 13) hz_C fu (0, 0, A0, L0) (fun _ => rfl) _ e h12
theorem lq_system {fu : Nat} {M : mwM} {L : mwL} {Sb : Nat → Nat} (hfu : 150000 ≤ fu) (h : JJ Sb M L) : DQ (fun r => r.toInt64) Sb (DL_system fu) (DX19_system fu) M L := by
  obtain ⟨hS, hY, h5⟩ := h
  obtain ⟨w, r, M1, M', L1, Lm', e1, _⟩ := st_system hz_read hfu hS
  have f1 : PcG M L M1 L1 := y_DX11_system PcG_1 PcG_0 _ e1
  have h51 : H54 M1 := H54_c h5 (PrH_f f1.1)
  have key : ∀ Lx : mwL, (∀ a, a ≠ 1577 → Lx a = L1 a) → ∃ M2 L2, DX19_system fu M1 Lx = some (r, M2, L2) ∧ M2 732 0 = sI w ∧ JJ Sb M2 L2 ∧ L2 1577 = Lx 1577 := fun Lx hx => by
    obtain ⟨w', r', A', M2, Lc', L2, e2, e3, _, e4, e5, e6⟩ := st_system hz_read hfu (HS_r hS f1.1 hx)
    rw [e1] at e2
    injection e2 with e2
    injection e2 with e7 e8
    injection e7 with e10 e11
    injection e8 with e9 e12
    subst e9 e10 e11 e12
    have f3 : PrG M1 Lx M2 L2 := y_DX19_system PrG_a PrG_0 _ e3
    refine ⟨M2, L2, e3, e4, ⟨HS_l e5 f3.1 hx, ?_, e6 h51⟩, f3.1.2.2 _ (by omega)⟩
    obtain ⟨n, v, n1, n2, n3, n4⟩ := hY
    exact ⟨n, v, n1, by rw [f3.1.1 _ _ (by omega), f1.2.2]; exact n2, by rw [f3.2.2, f1.1.1 _ _ (by omega)]; exact n3, fun j hj => by rw [f3.1.1 _ _ (by omega), f1.2.1, f3.2.1, f1.1.1 _ _ (by omega)]; exact n4 j hj⟩
  have hw := v_DX11_system _ e1
  dsimp only at hw
  rcases hw with rfl | rfl
  · obtain ⟨M2, L2, x1, x2, x3, x4⟩ := key (mset L1 1577 0 r.toInt64) (fun a u => ms_f u)
    exact ⟨0, r, M1, _, M2, L2, by unfold DL_system; rw [e1]; rfl, x1, x2, fun _ => by rw [x4]; exact mset_s, x3⟩
  · obtain ⟨M2, L2, x1, x2, x3, x4⟩ := key L1 (fun _ _ => rfl)
    exact ⟨1, r, M1, L1, M2, L2, by unfold DL_system; rw [e1]; rfl, x1, x2, fun q => absurd q (by decide), x3⟩
/-! THE LAW'S LOOP (printed) -/
theorem fq {α : Type} {lg : α → Int64} {Sb : Nat → Nat} {D : mwM → mwL → Option (Int32 × mwM × mwL)} {G : mwM → mwL → Option (α × mwM × mwL)} {M : mwM} {L : mwL} {fu : Nat} (B : mwM → mwL → Option (Int32 × mwM × mwL)) (h : DQ lg Sb D G M L) : ∃ M' L', JJ Sb M' L' ∧ mb3 (D M L) (fun r26 M24 L25 => mb3 (G M24 L25) (fun r30 M28 L29 => mb3 (DX19_thrown fu M28 L29) (fun r33 M31 L32 => (if r33 = r26 then (if r26 = 0 then (if (lg_cmp (L32 1577 (0 : Int32).toNatClampNeg) (lg r30)) = 0 then B M31 L32 else some (0, M31, L32)) else B M31 L32) else some (0, M31, L32))))) = B M' L' := by
  obtain ⟨k, r, M1, L1, M2, L2, e1, e2, e3, e4, e5⟩ := h
  refine ⟨M2, L2, e5, ?_⟩
  rw [e1, mb3_s, e2, mb3_s, show DX19_thrown fu M2 L2 = some (M2 732 0, M2, L2) from rfl, mb3_s, if_pos e3]
  by_cases q : k = 0
  · rw [if_pos q]
    exact if_pos ((lg_cmp_eq _ _).mpr (e4 q))
  · rw [if_neg q]
theorem ft {Sb : Nat → Nat} {D : mwM → mwL → Option (Int32 × mwM × mwL)} {G : mwM → mwL → Option (mwM × mwL)} {M : mwM} {L : mwL} {fu : Nat} (B : mwM → mwL → Option (Int32 × mwM × mwL)) (h : DT Sb D G M L) : ∃ M' L', JJ Sb M' L' ∧ mb3 (D M L) (fun r26 M24 L25 => mb2 (G M24 L25) (fun M28 L29 => mb3 (DX19_thrown fu M28 L29) (fun r33 M31 L32 => (if r33 = r26 then B M31 L32 else some (0, M31, L32))))) = B M' L' := by
  obtain ⟨k, M1, L1, M2, L2, e1, e2, e3, e5⟩ := h
  refine ⟨M2, L2, e5, ?_⟩
  rw [e1, mb3_s, e2, mb2_s, show DX19_thrown fu M2 L2 = some (M2 732 0, M2, L2) from rfl, mb3_s, if_pos e3]
theorem fs {Sb : Nat → Nat} {F G : mwM → mwL → Option (Int32 × mwM × mwL)} {M : mwM} {L : mwL} (B : mwM → mwL → Option (Int32 × mwM × mwL)) (h : DS Sb F G M L) : ∃ M' L', JJ Sb M' L' ∧ mb3 (F M L) (fun r26 M24 L25 => mb3 (G M24 L25) (fun r30 M28 L29 => (if r26 = r30 then B M28 L29 else some (0, M28, L29)))) = B M' L' := by
  obtain ⟨k, M1, L1, M2, L2, e1, e2, e5⟩ := h
  refine ⟨M2, L2, e5, ?_⟩
  rw [e1, mb3_s, e2, mb3_s, if_pos rfl]
theorem la_g {n i : Nat} (hn : n ≤ 2560) (hi : i ≤ 3000) : ((Int32.ofNat n) - 5 < sI i) ↔ n < i + 5 := by
  by_cases h : 5 ≤ n
  · rw [show (Int32.ofNat n) - 5 = sI (n - 5) from sI_sub (b := 5) h, sI_lt (by omega) (by omega)]
    omega
  · have hneg : (Int32.ofNat n) - 5 < 0 := by
      have : n = 0 ∨ n = 1 ∨ n = 2 ∨ n = 3 ∨ n = 4 := by omega
      rcases this with rfl | rfl | rfl | rfl | rfl <;> decide
    have h0 : (Int32.ofNat n) - 5 < sI i := by
      have := Int32.lt_iff_toInt_lt.mp hneg
      have hz : (0 : Int32).toInt = 0 := rfl
      rw [Int32.lt_iff_toInt_lt, sI_toInt (by omega)]
      omega
    exact ⟨fun _ => by omega, fun _ => h0⟩
set_option maxHeartbeats 4000000 in
set_option maxRecDepth 100000 in
theorem law_i {fu n i : Nat} {xs : Nat → Int32} {M : mwM} {L : mwL} {Sb : Nat → Nat} (hfu : 150000 ≤ fu) (hn : n ≤ 2560) (hi : i + 5 ≤ n) (r : (Int32 × mwM × mwL) → Option (Int32 × mwM × mwL)) (h : JJ Sb M L) : ∃ M' L', JJ Sb M' L' ∧ fL_law_i23 fu n xs r (sI i) M L = r (sI (i + 5), M', L') := by
  have e1 : sI i + 1 = sI (i + 1) := sI_1
  have e2 : sI i + 2 = sI (i + 2) := sI_add (b := 2)
  have e3 : sI i + 3 = sI (i + 3) := sI_add (b := 3)
  have e4 : sI i + 4 = sI (i + 4) := sI_add (b := 4)
  have e5 : sI i + 5 = sI (i + 5) := sI_add (b := 5)
  have k1 : ∀ {β : Type} {x : Option β}, mck (sI (i + 1)) n x = x := mck_s (by omega) (by omega)
  have k2 : ∀ {β : Type} {x : Option β}, mck (sI (i + 2)) n x = x := mck_s (by omega) (by omega)
  have k3 : ∀ {β : Type} {x : Option β}, mck (sI (i + 3)) n x = x := mck_s (by omega) (by omega)
  have k4 : ∀ {β : Type} {x : Option β}, mck (sI (i + 4)) n x = x := mck_s (by omega) (by omega)
  have m1 : (sI (i + 1)).toNatClampNeg = i + 1 := sI_nn (by omega)
  have m2 : (sI (i + 2)).toNatClampNeg = i + 2 := sI_nn (by omega)
  have m3 : (sI (i + 3)).toNatClampNeg = i + 3 := sI_nn (by omega)
  have m4 : (sI (i + 4)).toNatClampNeg = i + 4 := sI_nn (by omega)
  have eB : ∀ M' L', fL_law_b1646 fu n xs r (sI i) M' L' = r (sI (i + 5), M', L') := fun M' L' => by
    unfold fL_law_b1646
    rw [mlet_e, e5]
  have wr : ∀ {X : Option (Int32 × mwM × mwL)}, (∃ M' L', JJ Sb M' L' ∧ X = fL_law_b1646 fu n xs r (sI i) M' L') → ∃ M' L', JJ Sb M' L' ∧ X = r (sI (i + 5), M', L') := fun ⟨M', L', j, e⟩ => ⟨M', L', j, e.trans (eB M' L')⟩
  unfold fL_law_i23
  rw [if_neg (show ¬ ((Int32.ofNat n) - 5 < sI i) from fun z => by have := (la_g hn (by omega)).mp z; omega), mck_s (show i < n by omega) (by omega), mlet_e]
  simp only [e1, e2, e3, e4, k1, k2, k3, k4, m1, m2, m3, m4]
  apply wr
  generalize xs (sI i).toNatClampNeg &&& 31 = op
  by_cases c0 : op = 0
  · rw [if_pos c0]
    exact ft (fu := fu) (fL_law_b1646 fu n xs r (sI i)) (lq_text hfu h)
  rw [if_neg c0]
  by_cases c1 : op = 1
  · rw [if_pos c1]
    exact fq (fu := fu) (fL_law_b285 fu n xs r (sI i)) (lq_cut hfu h)
  rw [if_neg c1]
  by_cases c2 : op = 2
  · rw [if_pos c2]
    exact fq (fu := fu) (fL_law_b329 fu n xs r (sI i)) (lq_system hfu h)
  rw [if_neg c2]
  by_cases c3 : op = 3
  · rw [if_pos c3]
    exact fs (fL_law_b1646 fu n xs r (sI i)) (lq_place h)
  rw [if_neg c3]
  by_cases c4 : op = 4
  · rw [if_pos c4]
    exact fq (fu := fu) (fL_law_b398 fu n xs r (sI i)) (lq_count hfu h)
  rw [if_neg c4]
  by_cases c5 : op = 5
  · rw [if_pos c5]
    exact fq (fu := fu) (fL_law_b466 fu n xs r (sI i)) (lq_frame hfu h)
  rw [if_neg c5]
  by_cases c6 : op = 6
  · rw [if_pos c6]
    by_cases q : xs (i + 2) = 0
    · rw [if_pos q]
      unfold fL_law_b490 fL_law_b517
      simp only [e1, e2, k1, k2, m1, m2, if_pos q]
      exact fq (fu := fu) (fL_law_b550 fu n xs r (sI i)) (lq_signal hfu h)
    · rw [if_neg q]
      unfold fL_law_b490 fL_law_b517
      simp only [e1, e2, k1, k2, m1, m2, if_neg q]
      exact fq (fu := fu) (fL_law_b550 fu n xs r (sI i)) (lq_signal hfu h)
  rw [if_neg c6]
  by_cases c7 : op = 7
  · rw [if_pos c7]
    exact fq (fu := fu) (fL_law_b606 fu n xs r (sI i)) (lq_run hfu h)
  rw [if_neg c7]
  by_cases c8 : op = 8
  · rw [if_pos c8]
    exact fs (fL_law_b1646 fu n xs r (sI i)) (lq_time h)
  rw [if_neg c8]
  by_cases c9 : op = 9
  · rw [if_pos c9]
    exact fq (fu := fu) (fL_law_b675 fu n xs r (sI i)) (lq_bit hfu h)
  rw [if_neg c9]
  by_cases c10 : op = 10
  · rw [if_pos c10]
    exact fq (fu := fu) (fL_law_b743 fu n xs r (sI i)) (lq_node hfu h)
  rw [if_neg c10]
  by_cases c11 : op = 11
  · rw [if_pos c11]
    exact fq (fu := fu) (fL_law_b811 fu n xs r (sI i)) (lq_error hfu h)
  rw [if_neg c11]
  by_cases c12 : op = 12
  · rw [if_pos c12]
    exact ft (fu := fu) (fL_law_b1646 fu n xs r (sI i)) (lq_flip h)
  rw [if_neg c12]
  by_cases c13 : op = 13
  · rw [if_pos c13]
    by_cases q : xs (i + 2) = 0
    · rw [if_pos q]
      unfold fL_law_b883 fL_law_b910
      simp only [e1, e2, k1, k2, m1, m2, if_pos q]
      exact fq (fu := fu) (fL_law_b943 fu n xs r (sI i)) (lq_silence (b := false) hfu h)
    · rw [if_neg q]
      unfold fL_law_b883 fL_law_b910
      simp only [e1, e2, k1, k2, m1, m2, if_neg q]
      exact fq (fu := fu) (fL_law_b943 fu n xs r (sI i)) (lq_silence (b := true) hfu h)
  rw [if_neg c13]
  by_cases c14 : op = 14
  · rw [if_pos c14]
    exact fq (fu := fu) (fL_law_b1011 fu n xs r (sI i)) (lq_running hfu h)
  rw [if_neg c14]
  by_cases c15 : op = 15
  · rw [if_pos c15]
    exact fq (fu := fu) (fL_law_b1079 fu n xs r (sI i)) (lq_task hfu h)
  rw [if_neg c15]
  by_cases c16 : op = 16
  · rw [if_pos c16]
    exact fq (fu := fu) (fL_law_b1147 fu n xs r (sI i)) (lq_active hfu h)
  rw [if_neg c16]
  by_cases c17 : op = 17
  · rw [if_pos c17]
    exact fq (fu := fu) (fL_law_b1214 fu n xs r (sI i)) (lq_value hfu h)
  rw [if_neg c17]
  by_cases c18 : op = 18
  · rw [if_pos c18]
    exact fq (fu := fu) (fL_law_b1282 fu n xs r (sI i)) (lq_chart hfu h)
  rw [if_neg c18]
  by_cases c19 : op = 19
  · rw [if_pos c19]
    exact fq (fu := fu) (fL_law_b1350 fu n xs r (sI i)) (lq_trouble hfu h)
  rw [if_neg c19]
  by_cases c20 : op = 20
  · rw [if_pos c20]
    by_cases q : xs (i + 1) = 0
    · rw [if_pos q]
      unfold fL_law_b1368 fL_law_b1389
      simp only [e1, k1, m1, if_pos q]
      exact fq (fu := fu) (fL_law_b1422 fu n xs r (sI i)) (lq_cycle (ts := 0) hfu (by omega) h)
    · rw [if_neg q]
      unfold fL_law_b1368 fL_law_b1389
      simp only [e1, k1, m1, if_neg q]
      exact fq (fu := fu) (fL_law_b1422 fu n xs r (sI i)) (lq_cycle (ts := 1) hfu (by omega) h)
  rw [if_neg c20]
  by_cases c21 : op = 21
  · rw [if_pos c21]
    exact fq (fu := fu) (fL_law_b1478 fu n xs r (sI i)) (lq_counted hfu h)
  rw [if_neg c21]
  by_cases c22 : op = 22
  · rw [if_pos c22]
    exact fs (fL_law_b1646 fu n xs r (sI i)) (lq_say h)
  rw [if_neg c22]
  by_cases c23 : op = 23
  · rw [if_pos c23]
    exact fq (fu := fu) (fL_law_b1561 fu n xs r (sI i)) (lq_ask hfu h)
  rw [if_neg c23]
  by_cases c24 : op = 24
  · rw [if_pos c24]
    exact fs (fL_law_b1646 fu n xs r (sI i)) (lq_asking h)
  rw [if_neg c24]
  by_cases c25 : op = 25
  · rw [if_pos c25]
    exact fq (fu := fu) (fL_law_b1630 fu n xs r (sI i)) (lq_answer hfu h)
  rw [if_neg c25]
  by_cases c26 : op = 26
  · rw [if_pos c26]
    exact fs (fL_law_b1646 fu n xs r (sI i)) (lq_answers h)
  rw [if_neg c26]
  exact ⟨M, L, h, rfl⟩
theorem law_l {fu n : Nat} {xs : Nat → Int32} {Sb : Nat → Nat} (hfu : 150000 ≤ fu) (hn : n ≤ 2560) : ∀ (m i f : Nat) (M : mwM) (L : mwL), i ≤ 2600 → n < i + 5 * m + 5 → m < f → JJ Sb M L → ∃ M0 L0, fL_law_h23 fu n xs f (sI i, M, L) = some (1, M0, L0) := by
  intro m
  induction m with
  | zero =>
    intro i f M L hi2 hi hf h
    obtain ⟨f, rfl⟩ : ∃ y, f = y + 1 := ⟨f - 1, by omega⟩
    refine ⟨M, L, ?_⟩
    show fL_law_i23 fu n xs (fL_law_h23 fu n xs f) (sI i) M L = _
    unfold fL_law_i23
    rw [if_pos ((la_g hn (by omega)).mpr (by omega))]
  | succ m ih =>
    intro i f M L hi2 hi hf h
    obtain ⟨f, rfl⟩ : ∃ y, f = y + 1 := ⟨f - 1, by omega⟩
    by_cases c : n < i + 5
    · refine ⟨M, L, ?_⟩
      show fL_law_i23 fu n xs (fL_law_h23 fu n xs f) (sI i) M L = _
      unfold fL_law_i23
      rw [if_pos ((la_g hn (by omega)).mpr c)]
    · obtain ⟨M', L', j, e⟩ := law_i (xs := xs) hfu hn (show i + 5 ≤ n by omega) (fL_law_h23 fu n xs f) h
      show ∃ M0 L0, fL_law_i23 fu n xs (fL_law_h23 fu n xs f) (sI i) M L = some (1, M0, L0)
      rw [e]
      exact ih (i + 5) f M' L' (by omega) (by omega) (by omega) j
theorem law_ok {n : Nat} {xs : Nat → Int32} {Sb : Nat → Nat} {M : mwM} {L : mwL} (hn : n ≤ 2560) (h : JJ Sb M L) : ∃ M0 L0, DL_law 200000 513 n xs M L = some (1, M0, L0) := law_l (by omega) hn 512 0 513 M L (by omega) (by omega) (by omega) h
