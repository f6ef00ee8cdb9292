/-! ONE MEMORY: the class runs first, then the reference, on the same memory -/
/-- what holds between the law's calls -/
def JJ (Sb : Nat → Nat) (M : mwM) (L : mwL) : Prop := HS M M L L Sb ∧ SyR M M ∧ H54 M
/-- what the class leaves alone -/
def PcF (M0 : mwM) (L0 : mwL) (M : mwM) (L : mwL) : Prop := (∀ a y, 732 ≤ a → M a y = M0 a y) ∧ ∀ a, 732 ≤ a → L a = L0 a
def PcG (M0 : mwM) (L0 : mwL) (M : mwM) (L : mwL) : Prop := PcF M0 L0 M L ∧ (∀ y, M 731 y = M0 731 y) ∧ M 0 3 = M0 0 3
theorem ms_f {α : Type} {L : Nat → Nat → α} {a b y : Nat} {v : α} (h : a ≠ b) : mset L b y v a = L a := by
  funext z
  exact mset_k h
theorem PcF_s {M0 : mwM} {L0 : mwL} : CPcs (PcF M0 L0) := ⟨fun M L a y v ha h => ⟨fun b z hb => by rw [mset_n (by omega)]; exact h.1 b z hb, h.2⟩, fun M L a y v ha h => ⟨h.1, fun b hb => by rw [ms_f (by omega)]; exact h.2 b hb⟩⟩
theorem PcG_1 {M0 : mwM} {L0 : mwL} : CPc1 (PcG M0 L0) := ⟨fun M L a y v ha h => ⟨(cs1 PcF_s).1 M L a y v ha h.1, fun z => by rw [mset_n (by omega)]; exact h.2.1 z, by rw [mset_n (by omega)]; exact h.2.2⟩, fun M L a y v ha h => ⟨(cs1 PcF_s).2 M L a y v ha h.1, h.2⟩⟩
theorem PcF_0 {M : mwM} {L : mwL} : PcF M L M L := ⟨fun _ _ _ => rfl, fun _ _ => rfl⟩
theorem PcG_0 {M : mwM} {L : mwL} : PcG M L M L := ⟨PcF_0, fun _ => rfl, rfl⟩
/-- what the reference leaves alone -/
def PrF (M0 : mwM) (L0 : mwL) (M : mwM) (L : mwL) : Prop := (∀ a y, a < 732 → M a y = M0 a y) ∧ (∀ a, a < 732 → L a = L0 a) ∧ ∀ a, 1577 ≤ a → L a = L0 a
def PrG (M0 : mwM) (L0 : mwL) (M : mwM) (L : mwL) : Prop := PrF M0 L0 M L ∧ (∀ y, M 940 y = M0 940 y) ∧ M 732 110 = M0 732 110
def PrH (M0 M : mwM) : Prop := (∀ y, M 754 y = M0 754 y) ∧ M 732 4 = M0 732 4 ∧ M 732 33 = M0 732 33 ∧ ∀ x, x < 12 → M (964 + 53 * x) 2 = M0 (964 + 53 * x) 2
theorem PrF_r {M0 : mwM} {L0 : mwL} {M : mwM} {L : mwL} {a y : Nat} {v : Int32} (ha : 732 ≤ a) (h : PrF M0 L0 M L) : PrF M0 L0 (mset M a y v) L := ⟨fun b z hb => by rw [mset_n (by omega)]; exact h.1 b z hb, h.2⟩
theorem PrF_l {M0 : mwM} {L0 : mwL} {M : mwM} {L : mwL} {a y : Nat} {v : Int64} (ha : 732 ≤ a ∧ a < 1577) (h : PrF M0 L0 M L) : PrF M0 L0 M (mset L a y v) := ⟨h.1, fun b hb => by rw [ms_f (by omega)]; exact h.2.1 b hb, fun b hb => by rw [ms_f (by omega)]; exact h.2.2 b hb⟩
theorem PrH_m {M0 M : mwM} {a y : Nat} {v : Int32} (h1 : a ≠ 754) (h2 : ¬ (a = 732 ∧ (y = 4 ∨ y = 33))) (h3 : ¬ (964 ≤ a ∧ (a - 964) % 53 = 0 ∧ y = 2)) (h : PrH M0 M) : PrH M0 (mset M a y v) := ⟨fun z => by rw [mset_n (by omega)]; exact h.1 z, by rw [mset_n (by omega)]; exact h.2.1, by rw [mset_n (by omega)]; exact h.2.2.1, fun x hx => by rw [mset_n (by omega)]; exact h.2.2.2 x hx⟩
theorem PrG_a {M0 : mwM} {L0 : mwL} : CPra (PrG M0 L0) := ⟨fun M L a y v ha h => ⟨PrF_r (by omega) h.1, fun z => by rw [mset_n (by omega)]; exact h.2.1 z, by rw [mset_n (by omega)]; exact h.2.2⟩, fun M L a y v ha h => ⟨PrF_l ha h.1, h.2⟩⟩
theorem PrG_b {M0 : mwM} {L0 : mwL} : CPrb (fun M L => PrG M0 L0 M L ∧ PrH M0 M) := ⟨fun M L a y v ha h => ⟨(cab PrG_a).1 M L a y v ha h.1, PrH_m (by omega) (by omega) (by omega) h.2⟩, fun M L a y v ha h => ⟨(cab PrG_a).2 M L a y v ha h.1, h.2⟩⟩
theorem PrF_s {M0 : mwM} {L0 : mwL} : CPrs (fun M L => PrF M0 L0 M L ∧ PrH M0 M) := ⟨fun M L a y v ha h => ⟨PrF_r (by omega) h.1, PrH_m (by omega) (by omega) (by omega) h.2⟩, fun M L a y v ha h => ⟨PrF_l ha h.1, h.2⟩⟩
theorem PrF_0 {M : mwM} {L : mwL} : PrF M L M L := ⟨fun _ _ _ => rfl, fun _ _ => rfl, fun _ _ => rfl⟩
theorem PrG_0 {M : mwM} {L : mwL} : PrG M L M L := ⟨PrF_0, fun _ => rfl, rfl⟩
theorem PrH_0 {M : mwM} : PrH M M := ⟨fun _ => rfl, rfl, rfl, fun _ _ => rfl⟩
theorem H54_c {M M' : mwM} (h : H54 M) (hp : PrH M M') : H54 M' := fun h4 X x h33 hX hx => by
  rw [hp.1 x, hp.2.2.2 x (by omega)]
  exact h (by rw [← hp.2.1]; exact h4) X x (by rw [← hp.2.2.1]; exact h33) hX hx
theorem PrH_f {M0 M : mwM} {L0 L : mwL} (h : PcF M0 L0 M L) : PrH M0 M := ⟨fun y => h.1 _ _ (by omega), h.1 _ _ (by omega), h.1 _ _ (by omega), fun x _ => h.1 _ _ (by omega)⟩
/-- the reference's side after the class has run -/
theorem HS_r {M M1 : mwM} {L L1 Lx : mwL} {Sb : Nat → Nat} (h : HS M M L L Sb) (hf : PcF M L M1 L1) (hx : ∀ a, a ≠ 1577 → Lx a = L1 a) : HS M M1 L Lx Sb := HS_e h (fun _ _ _ _ => rfl) (fun a y u1 _ _ _ _ _ _ _ => hf.1 a y u1) (fun _ _ => rfl) (fun a u1 u2 => by rw [hx a (by omega)]; exact hf.2 a u1)
/-- the class's side after the reference has run -/
theorem HS_l {M1 M2 : mwM} {L1 Lx L2 : mwL} {Sb : Nat → Nat} (h : HS M1 M2 L1 L2 Sb) (hf : PrF M1 Lx M2 L2) (hx : ∀ a, a ≠ 1577 → Lx a = L1 a) : HS M2 M2 L2 L2 Sb := HS_e h (fun a y u1 _ => hf.1 a y (by omega)) (fun _ _ _ _ _ _ _ _ _ _ => rfl) (fun a u => by rw [hf.2.1 a u, hx a (by omega)]) (fun _ _ _ => rfl)
theorem one_w {α : Type} {mp : Nat → Nat} {Sb : Nat → Nat} {F : mwM → mwL → Option ((Nat × α) × mwM × mwL)} {G : mwM → mwL → Option (α × mwM × mwL)} (hst : ∀ A M Lc Lm, HS A M Lc Lm Sb → H54 M → CaW mp Sb (F A Lc) (G M Lm)) (hF : ∀ P, CPc1 P → ∀ M L, P M L → kq3 P (F M L)) (hG : ∀ P, CPrb P → ∀ M L, P M L → kq3 P (G M L)) {M : mwM} {L : mwL} (h : JJ Sb M L) : ∃ w r M1 L1, F M L = some ((w, r), M1, L1) ∧ ∀ Lx, (∀ a, a ≠ 1577 → Lx a = L1 a) → ∃ M2 L2, G M1 Lx = some (r, M2, L2) ∧ M2 732 0 = sI (mp w) ∧ JJ Sb M2 L2 ∧ L2 1577 = Lx 1577 := by
  obtain ⟨hS, hY, h5⟩ := h
  obtain ⟨w, r, M1, M', L1, Lm', e1, _, _, _⟩ := hst M M L L hS h5
  have f1 : PcG M L M1 L1 := hF _ PcG_1 M L PcG_0 _ e1
  refine ⟨w, r, M1, L1, e1, fun Lx hx => ?_⟩
  have h51 : H54 M1 := H54_c h5 (PrH_f f1.1)
  obtain ⟨w', r', A', M2, Lc', L2, e2, e3, e4, e5⟩ := hst M M1 L Lx (HS_r hS f1.1 hx) h51
  rw [e1] at e2
  injection e2 with e2
  injection e2 with e2 e6
  injection e2 with e7 e8
  injection e6 with e9 e10
  subst e7 e8 e9 e10
  have f2 := hG _ (PrG_b (M0 := M1) (L0 := Lx)) M1 Lx ⟨PrG_0, PrH_0⟩ _ e3
  obtain ⟨f3, f4⟩ := f2
  dsimp only at f3 f4
  refine ⟨M2, L2, e3, e4, ⟨HS_l e5 f3.1 hx, ?_, H54_c h51 f4⟩, f3.1.2.2 _ (by omega)⟩
  obtain ⟨n, v, n1, n2, n3, n4⟩ := hY
  exact ⟨n, v, n1, by rw [f3.1.1 _ _ (by omega), f1.2.2]; exact n2, by rw [f3.2.2, f1.1.1 _ _ (by omega)]; exact n3, fun j hj => by rw [f3.1.1 _ _ (by omega), f1.2.1, f3.2.1, f1.1.1 _ _ (by omega)]; exact n4 j hj⟩
theorem one_s {α : Type} {Sb : Nat → Nat} {F G : mwM → mwL → Option (α × mwM × mwL)} (hst : ∀ A M Lc Lm, HS A M Lc Lm Sb → CaS Sb (F A Lc) (G M Lm)) (hF : ∀ P, CPc1 P → ∀ M L, P M L → kq3 P (F M L)) (hG : ∀ P, CPrb P → ∀ M L, P M L → kq3 P (G M L)) {M : mwM} {L : mwL} (h : JJ Sb M L) : ∃ r M1 L1 M2 L2, F M L = some (r, M1, L1) ∧ G M1 L1 = some (r, M2, L2) ∧ JJ Sb M2 L2 := by
  obtain ⟨hS, hY, h5⟩ := h
  obtain ⟨r, M1, M', L1, Lm', e1, _, _⟩ := hst M M L L hS
  have f1 : PcG M L M1 L1 := hF _ PcG_1 M L PcG_0 _ e1
  have h51 : H54 M1 := H54_c h5 (PrH_f f1.1)
  obtain ⟨r', A', M2, Lc', L2, e2, e3, e5⟩ := hst M M1 L L1 (HS_r hS f1.1 (fun _ _ => rfl))
  rw [e1] at e2
  injection e2 with e2
  injection e2 with e7 e6
  injection e6 with e9 e10
  subst e7 e9 e10
  have f2 := hG _ (PrG_b (M0 := M1) (L0 := L1)) M1 L1 ⟨PrG_0, PrH_0⟩ _ e3
  obtain ⟨f3, f4⟩ := f2
  dsimp only at f3 f4
  refine ⟨r, M1, L1, M2, L2, e1, e3, HS_l e5 f3.1 (fun _ _ => rfl), ?_, H54_c h51 f4⟩
  obtain ⟨n, v, n1, n2, n3, n4⟩ := hY
  exact ⟨n, v, n1, by rw [f3.1.1 _ _ (by omega), f1.2.2]; exact n2, by rw [f3.2.2, f1.1.1 _ _ (by omega)]; exact n3, fun j hj => by rw [f3.1.1 _ _ (by omega), f1.2.1, f3.2.1, f1.1.1 _ _ (by omega)]; exact n4 j hj⟩
/-- a call that answers nothing; Z: the wrapper's answer -/
theorem one_t {Z : Type} {mp : Z → Int32} {Sb : Nat → Nat} {F : mwM → mwL → Option (Z × mwM × mwL)} {G : mwM → mwL → Option (mwM × mwL)} (hst : ∀ A M Lc Lm, HS A M Lc Lm Sb → ∃ (w : Z) (A' M' : mwM) (Lc' Lm' : mwL), F A Lc = some (w, A', Lc') ∧ G M Lm = some (M', Lm') ∧ M' 732 0 = mp w ∧ HS A' M' Lc' Lm' Sb) (hF : ∀ P, CPc1 P → ∀ M L, P M L → kq3 P (F M L)) (hG : ∀ P, CPrb P → ∀ M L, P M L → kq2 P (G M L)) {M : mwM} {L : mwL} (h : JJ Sb M L) : ∃ w M1 L1 M2 L2, F M L = some (w, M1, L1) ∧ G M1 L1 = some (M2, L2) ∧ M2 732 0 = mp w ∧ JJ Sb M2 L2 := by
  obtain ⟨hS, hY, h5⟩ := h
  obtain ⟨r, M1, M', L1, Lm', e1, _, _, _⟩ := hst M M L L hS
  have f1 : PcG M L M1 L1 := hF _ PcG_1 M L PcG_0 _ e1
  have h51 : H54 M1 := H54_c h5 (PrH_f f1.1)
  obtain ⟨r', A', M2, Lc', L2, e2, e3, e4, e5⟩ := hst M M1 L L1 (HS_r hS f1.1 (fun _ _ => rfl))
  rw [e1] at e2
  injection e2 with e2
  injection e2 with e7 e6
  injection e6 with e9 e10
  subst e7 e9 e10
  have f2 := hG _ (PrG_b (M0 := M1) (L0 := L1)) M1 L1 ⟨PrG_0, PrH_0⟩ _ e3
  obtain ⟨f3, f4⟩ := f2
  dsimp only at f3 f4
  refine ⟨r, M1, L1, M2, L2, e1, e3, e4, HS_l e5 f3.1 (fun _ _ => rfl), ?_, H54_c h51 f4⟩
  obtain ⟨n, v, n1, n2, n3, n4⟩ := hY
  exact ⟨n, v, n1, by rw [f3.1.1 _ _ (by omega), f1.2.2]; exact n2, by rw [f3.2.2, f1.1.1 _ _ (by omega)]; exact n3, fun j hj => by rw [f3.1.1 _ _ (by omega), f1.2.1, f3.2.1, f1.1.1 _ _ (by omega)]; exact n4 j hj⟩
/-- what is said on one memory -/
theorem SyR_r {M M1 : mwM} {L L1 : mwL} (h : SyR M M) (hf : PcF M L M1 L1) : SyR M M1 := by
  obtain ⟨n, v, n1, n2, n3, n4⟩ := h
  exact ⟨n, v, n1, n2, by rw [hf.1 _ _ (by omega)]; exact n3, fun j hj => by rw [hf.1 _ _ (by omega)]; exact n4 j hj⟩
theorem SyR_l {M1 M2 : mwM} {L1 L2 : mwL} (h : SyR M1 M2) (hf : PrF M1 L1 M2 L2) : SyR M2 M2 := by
  obtain ⟨n, v, n1, n2, n3, n4⟩ := h
  exact ⟨n, v, n1, by rw [hf.1 _ _ (by omega)]; exact n2, n3, fun j hj => by rw [hf.1 _ _ (by omega)]; exact n4 j hj⟩
