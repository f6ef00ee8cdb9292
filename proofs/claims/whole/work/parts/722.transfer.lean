/-! the reference: a frame arrives -/
theorem TfN_fr {M M' : mwM} {n : Nat → Nat → Nat} {b : Nat → Nat → Bool} {e : Nat → Nat} (h : TfN M n b e) (hA : ∀ a y, (a = 732 ∧ (y = 88 ∨ (91 ≤ y ∧ y ≤ 96))) ∨ (927 ≤ a ∧ a ≤ 930) → M' a y = M a y) : TfN M' n b e := by
  obtain ⟨k1, k2, k3, k4, k5, k6, k7, k8⟩ := h
  refine ⟨?_, fun m u1 u2 => ?_, ?_, ?_, ?_, ?_, fun k u => ?_, k8⟩
  · rw [hA 732 88 (by omega)]; exact k1
  · rw [hA 927 m (by omega), hA 928 m (by omega)]; exact k2 m u1 u2
  · rw [hA 732 95 (by omega)]; exact k3
  · rw [hA 732 96 (by omega)]; exact k4
  · rw [hA 732 94 (by omega)]; exact k5
  · rw [hA 732 91 (by omega)]; exact k6
  · rw [hA 929 k (by omega), hA 930 k (by omega)]; exact k7 k u
abbrev aFr (M M' : mwM) : Prop := ∀ a y, ¬ ((a = 732 ∧ (y = 91 ∨ y = 95)) ∨ a = 869 ∨ (872 ≤ a ∧ a ≤ 879) ∨ (882 ≤ a ∧ a ≤ 901) ∨ a = 929 ∨ a = 930 ∨ a = 932) → M' a y = M a y
theorem m_arrive {fu c : Nat} {tt : Bool} {M : mwM} {L : mwL} {p : PB} {o : Nat → Nat → Nat} {e : Nat → Nat} {Q : mwM × mwL → Prop} (hfu : 1700 ≤ fu) (hc : c < 1000) (hv : TfV p.1 p.2) (h : TfM M L (p.1 0 3) p.1 p.2 o e) (hN : TfN M p.1 p.2 e)
    (k0 : ∀ M' L' e', TfM M' L' (p.1 0 3) (rchP c tt p).1.1 (rchP c tt p).1.2 o e' → TfN M' (rchP c tt p).1.1 (rchP c tt p).1.2 e' → aFr M M' → rFl L L' → (rchP c tt p).2 = 0 → Q (M', L'))
    (k1 : ∀ M' L' e' m, TfM M' L' (p.1 0 3) (rchP c tt p).1.1 (rchP c tt p).1.2 o e' → TfN M' (rchP c tt p).1.1 (rchP c tt p).1.2 e' → aFr M M' → rFl L L' → m = (rchP c tt p).2 → 1 ≤ m → m ≤ p.1 0 0 → p.1 1 m = c → (∀ j, j < p.1 2 m → M' 932 j = sI (o m j)) → p.2 0 m = true → wq (mb2 (DX19_serve fu (sI c) (sI (p.1 2 m)) M' L') (fun M38 L39 => mck (sI m) 101 (mb2 (DX19_say fu (M38 927 m) 0 M38 L39) (fun M41 L42 => some (M41, L42))))) Q)
    (k2 : ∀ M' L' e' m, TfM M' L' (p.1 0 3) (rchP c tt p).1.1 (rchP c tt p).1.2 o e' → TfN M' (rchP c tt p).1.1 (rchP c tt p).1.2 e' → aFr M M' → rFl L L' → m = (rchP c tt p).2 → 1 ≤ m → m ≤ p.1 0 0 → p.1 1 m = c → (∀ j, j < p.1 2 m → M' 932 j = sI (o m j)) → p.2 0 m = false → wq (if M' 732 97 = sI c then fX19_arrive_h255 fu (sI (1536 + 2 * c + (if tt = true then 1 else 0))) fu (sI (p.1 2 m), 0, mset M' 732 98 (sI (p.1 2 m)), L') else some (M', L')) Q) : wq (DX19_arrive fu (sI (1536 + 2 * c + (if tt = true then 1 else 0))) M L) Q := by
  have hF := Tf_F hv
  have hH := hv.1.2.1
  have hK := hv.1.1
  have h3 := hv.1.2.2.1
  have hl := ob_len (n := p.1) (b := p.2)
  obtain ⟨n1, n2, n3, n4, n5, n6, n7, n8⟩ := hN
  generalize hid : 1536 + 2 * c + (if tt = true then 1 else 0) = id at *
  have idl : ∀ f, f < p.1 0 1 → idO p.1 p.2 f < 2000 := by
    intro f u
    have hg := hv.2.2.2 f u
    have h6 := (hv.2.1 _ hg.2.1 hg.2.2.1).1
    unfold idO
    split <;> omega
  unfold DX19_arrive
  refine wq_for (body := fun r z => fX19_arrive_i2 fu (sI id) r z.1 z.2.1 z.2.2) (fun i (_ : Unit) => (sI i, M, L)) (fun i _ => ∀ j (hj : j < (obL p.1 p.2).length), j < i → idO p.1 p.2 (obL p.1 p.2)[j] ≠ id) (obL p.1 p.2).length ?_ ?_ (obL p.1 p.2).length 0 () fu (by omega) (by omega) (fun j _ u => by omega)
  · intro k _ r hk hn ih
    show wq (fX19_arrive_i2 fu (sI id) r (sI k) M L) _
    obtain ⟨q929, q930⟩ := n7 k hk
    have hfm := ob_mem.mp (List.getElem_mem hk)
    generalize hfk : (obL p.1 p.2)[k] = f at *
    have hf1 : f < p.1 0 1 := by omega
    have hg := hv.2.2.2 f hf1
    have hid2 := idl f hf1
    have hbnd : id < 2000000000 ∨ ¬ idO p.1 p.2 f = id := by
      by_cases hq : idO p.1 p.2 f = id
      · left; omega
      · right; exact hq
    unfold fX19_arrive_i2
    rw [n6, if_neg (by rw [sI_le (by omega) (by omega)]; omega), mck_s (by omega) (by omega), sI_nn (by omega), q930]
    by_cases hq : idO p.1 p.2 f = id
    · rw [if_pos (by rw [hq])]
      -- it is the first one of its way
      have hw := id_eq.mp (hq.trans hid.symm)
      have ho : onW p.1 p.2 c tt f = true := by
        unfold onW
        rw [hfm.2, hw.1, hw.2]
        simp
      have hno : ∀ g, g < f → onW p.1 p.2 c tt g = false := by
        intro g hgf
        cases hgo : onW p.1 p.2 c tt g with
        | false => rfl
        | true =>
          exfalso
          unfold onW at hgo
          simp at hgo
          obtain ⟨o1, o2, o3⟩ := hgo
          have hgm : g ∈ obL p.1 p.2 := ob_mem.mpr ⟨by omega, o1⟩
          obtain ⟨j, hj, hjg⟩ := List.getElem_of_mem hgm
          have hjk : j < k := ob_lt hj hk (by rw [hjg, hfk]; exact hgf)
          refine hn j hj hjk ?_
          rw [hjg]
          exact (id_eq.mpr ⟨o2, o3⟩).trans hid
      have erc := rch_some hfm.1 ho hno
      rw [erc] at k0 k1 k2
      unfold fX19_arrive_b26
      rw [n6, if_neg (by rw [sI_eq (by omega) (by omega)]; omega), mck_s (by omega) (by omega), sI_nn (by omega), q929]
      simp only [mlet]
      rw [show sI (obL p.1 p.2).length - 1 = sI ((obL p.1 p.2).length - 1) from sI_sub (b := 1) (by omega)]
      -- the list closes up
      refine wq_for (body := fun r z => fX19_arrive_i55 fu (sI id) r z.1 z.2.1 z.2.2.1 z.2.2.2) (fun i (w : mwM) => (sI (f + 1), sI i, w, L)) (fun i w => k ≤ i ∧ w 732 91 = sI ((obL p.1 p.2).length - 1) ∧ (∀ j, j < i → j < (obL p.1 p.2).length - 1 → w 929 j = M 929 (if j < k then j else j + 1) ∧ w 930 j = M 930 (if j < k then j else j + 1)) ∧ (∀ j, i ≤ j → w 929 j = M 929 j ∧ w 930 j = M 930 j) ∧ ∀ a y, ¬ (a = 732 ∧ y = 91) → a ≠ 929 → a ≠ 930 → w a y = M a y) ((obL p.1 p.2).length - 1) ?_ ?_ ((obL p.1 p.2).length - 1 - k) k _ fu (by omega) (by omega) ⟨Nat.le_refl _, mset_s, fun j u1 u2 => ?_, fun j u => ?_, fun a y u1 u2 u3 => ?_⟩
      · intro i w r2 hi ⟨w0, w9, w1, w2, w3⟩ ih2
        show wq (fX19_arrive_i55 fu (sI id) r2 (sI (f + 1)) (sI i) w L) _
        unfold fX19_arrive_i55
        rw [w9, if_neg (by rw [sI_le (by omega) (by omega)]; omega), sI_1]
        simp only [mlet]
        rw [mck_s (by omega) (by omega), mck_s (by omega) (by omega), mck_s (by omega) (by omega), mck_s (by omega) (by omega), sI_nn (by omega), sI_nn (by omega)]
        refine ih2 _ ⟨by omega, ?_, fun j u1 u2 => ?_, fun j u => ?_, fun a y u1 u2 u3 => ?_⟩
        · rw [mset_n (by omega), mset_n (by omega)]; exact w9
        · by_cases hj : j = i
          · subst hj
            rw [if_neg (by omega), mset_n (by omega), mset_s, mset_s, mset_n (by omega)]
            exact w2 (j + 1) (by omega)
          · rw [mset_j hj, mset_n (by omega), mset_n (by omega), mset_j hj]
            exact w1 j (by omega) u2
        · rw [mset_n (by omega), mset_n (by omega), mset_n (by omega), mset_n (by omega)]
          exact w2 j (by omega)
        · rw [mset_n (by omega), mset_n (by omega)]
          exact w3 a y u1 u2 u3
      · intro w r2 ⟨w0, w9, w1, w2, w3⟩
        show wq (fX19_arrive_i55 fu (sI id) r2 (sI (f + 1)) (sI ((obL p.1 p.2).length - 1)) w L) _
        unfold fX19_arrive_i55
        rw [w9, if_pos (by rw [sI_le (by omega) (by omega)]; omega)]
        have hw2 : TfM w L (p.1 0 3) p.1 p.2 o e := TfM_fr h (fun a y u1 u2 _ _ => w3 a y (by omega) (by omega) (by omega)) (fun _ _ _ _ => rfl)
        refine wq_b3 (m_receive17 (by omega) hv hw2 hf1 hfm.2) ?_
        rintro r3 M1 L1 ⟨e1, T1, E1, R1, f1, f2⟩
        dsimp only at T1 E1 R1 f1 f2
        have hvr : TfV (rvQ f (p.1, mset p.2 1 f true)).1.1 (rvQ f (p.1, mset p.2 1 f true)).1.2 := V_rv (p := (p.1, mset p.2 1 f true)) (V_gone hv) (by dsimp only; omega) (fun z1 => ⟨by dsimp only; rw [mset_n (by omega)]; exact (hg.2.2.2.2.2.2.2.2 z1).1 hfm.2, mset_s⟩)
        have vn : ∀ i j, ((i = 0 ∧ j ≠ 1) ∨ i = 1 ∨ i = 2 ∨ i = 4) → (rvQ f (p.1, mset p.2 1 f true)).1.1 i j = p.1 i j := fun i j u => rv_n u
        have vf : ∀ i g, (10 ≤ i ∧ i ≤ 12) → g < p.1 0 1 → (rvQ f (p.1, mset p.2 1 f true)).1.1 i g = p.1 i g := fun i g u v => rv_f u v
        have vb0 : ∀ g, (rvQ f (p.1, mset p.2 1 f true)).1.2 0 g = p.2 0 g := fun g => by
          rw [rv_b (Or.inl rfl)]
          show mset p.2 1 f true 0 g = p.2 0 g
          rw [mset_n (by omega)]
        have vb1 : ∀ g, g < p.1 0 1 → (rvQ f (p.1, mset p.2 1 f true)).1.2 1 g = mset p.2 1 f true 1 g := fun g u => rv_b (Or.inr ⟨rfl, u⟩)
        have vm := @rv_m f (p.1, mset p.2 1 f true)
        have oe : obL (rvQ f (p.1, mset p.2 1 f true)).1.1 (rvQ f (p.1, mset p.2 1 f true)).1.2 = (obL p.1 p.2).eraseIdx k := by
          refine ob_er hk (vn 0 2 (by omega)) (fun g u => ?_)
          rw [vb1 g (by omega), hfk]
          by_cases hgq : g = f
          · rw [hgq, mset_s, decide_eq_true rfl, Bool.or_true]
          · rw [mset_j hgq, decide_eq_false hgq, Bool.or_false]
        have idq : ∀ g, g < p.1 0 1 → idO (rvQ f (p.1, mset p.2 1 f true)).1.1 (rvQ f (p.1, mset p.2 1 f true)).1.2 g = idO p.1 p.2 g := by
          intro g u
          unfold idO toT
          rw [vf 11 g (by omega) u, vf 10 g (by omega) u, vn 1 _ (by omega), vb0]
        -- what the reference keeps of it
        have mkN' : ∀ N : mwM, (∀ a y, ¬ (a = 732 ∧ y = 95) → (a = 732 ∧ (y = 88 ∨ (91 ≤ y ∧ y ≤ 96))) ∨ (927 ≤ a ∧ a ≤ 930) → N a y = M1 a y) → N 732 95 = sI (e1 0) → TfN N (rvQ f (p.1, mset p.2 1 f true)).1.1 (rvQ f (p.1, mset p.2 1 f true)).1.2 e1 := by
          intro N hN1 hN2
          have N1 : ∀ a y, ¬ (a = 732 ∧ y = 95) → (a = 732 ∧ (y = 88 ∨ (91 ≤ y ∧ y ≤ 96))) ∨ (927 ≤ a ∧ a ≤ 930) → N a y = w a y := fun a y u v => by
            rw [hN1 a y u v, f1 a y (by omega)]
          obtain ⟨en, en1, en2, en3⟩ := n4
          obtain ⟨x1, x2, x3⟩ := E1
          have hle : (obL (rvQ f (p.1, mset p.2 1 f true)).1.1 (rvQ f (p.1, mset p.2 1 f true)).1.2).length = (obL p.1 p.2).length - 1 := by
            rw [oe, List.length_eraseIdx_of_lt hk]
          refine ⟨?_, fun m u1 u2 => ?_, hN2, ⟨en, ?_, by omega, ?_⟩, ?_, ?_, fun j u => ?_, ?_⟩
          · rw [N1 732 88 (by omega) (by omega), w3 732 88 (by omega) (by omega) (by omega), vn 0 0 (by omega)]; exact n1
          · rw [vn 0 0 (by omega)] at u2
            rw [N1 927 m (by omega) (by omega), w3 927 m (by omega) (by omega) (by omega), N1 928 m (by omega) (by omega), w3 928 m (by omega) (by omega) (by omega), vn 1 m (by omega), vb0]
            exact n2 m u1 u2
          · rw [N1 732 96 (by omega) (by omega), w3 732 96 (by omega) (by omega) (by omega)]; exact en1
          · rw [x3, en3]
            by_cases c1 : en < eS e
            · rw [decide_eq_true c1, decide_eq_true (show en < eS e1 by omega), Bool.true_or]
            · rw [decide_eq_false c1, Bool.false_or]
              by_cases c2 : eS e < eS e1
              · rw [decide_eq_true c2, decide_eq_true (show en < eS e1 by omega)]
              · rw [decide_eq_false c2, decide_eq_false (show ¬ en < eS e1 by omega)]
          · rw [N1 732 94 (by omega) (by omega), w3 732 94 (by omega) (by omega) (by omega), vn 0 2 (by omega)]; exact n5
          · rw [N1 732 91 (by omega) (by omega), w9, hle]
          · have hj : j < (obL p.1 p.2).length - 1 := by rw [← hle]; exact u
            have hmem := ob_mem.mp (List.getElem_mem u)
            rw [vn 0 2 (by omega)] at hmem
            rw [N1 929 j (by omega) (by omega), N1 930 j (by omega) (by omega), (w1 j hj hj).1, (w1 j hj hj).2, idq _ (by omega)]
            have eg : (obL (rvQ f (p.1, mset p.2 1 f true)).1.1 (rvQ f (p.1, mset p.2 1 f true)).1.2)[j] = (obL p.1 p.2)[if j < k then j else j + 1]'(by split <;> omega) := by
              have := List.getElem_eraseIdx (l := obL p.1 p.2) (i := k) (j := j) (by rw [← oe]; exact u)
              simp only [oe]
              rw [this]
              split <;> rfl
            rw [eg]
            exact n7 _ _
          · rw [hle, vn 0 3 (by omega), vn 0 2 (by omega)]
            have : e1 0 ≤ e 0 + 1 := by
              rcases vm with z | z
              · rw [R1.1 z]; omega
              · by_cases z0 : (rvQ f (p.1, mset p.2 1 f true)).2 = 0
                · rw [R1.1 z0]; omega
                · rw [(R1.2 z0).1]; exact Nat.le_refl _
            omega
        have q95 : M1 732 95 = sI (e 0) := by rw [f1 732 95 (by omega), w3 732 95 (by omega) (by omega) (by omega)]; exact n3
        have fw : ∀ a y, ¬ ((a = 732 ∧ y = 91) ∨ a = 869 ∨ (872 ≤ a ∧ a ≤ 879) ∨ (882 ≤ a ∧ a ≤ 901) ∨ a = 929 ∨ a = 930) → M1 a y = M a y := fun a y u => by
          rw [f1 a y (by omega), w3 a y (by omega) (by omega) (by omega)]
        rw [show (0 : Int32) = sI 0 from rfl, m_ended17 T1 (by omega), mb3_s, mset_n (show ¬ (732 = 869 ∧ 95 = 0) by omega), q95]
        by_cases z0 : (rvQ f (p.1, mset p.2 1 f true)).2 = 0
        · have e10 := R1.1 z0
          rw [if_pos (by rw [e10])]
          refine wq_some (k0 _ L1 e1 (TfM_fr T1 (fun a y _ _ _ u => mset_n (by omega)) (fun _ _ _ _ => rfl)) (mkN' _ (fun a y u v => mset_n (by omega)) (by rw [mset_n (by omega), q95, e10])) (fun a y u => by rw [mset_n (by omega)]; exact fw a y (by omega)) f2 z0)
        · obtain ⟨e10, g40, g900⟩ := R1.2 z0
          have hmf : (rvQ f (p.1, mset p.2 1 f true)).2 = p.1 11 f := by
            rcases vm with z | z
            · exact absurd z z0
            · exact z
          rw [if_neg (by rw [e10, sI_eq (by omega) (by omega)]; omega)]
          simp only [mlet]
          rw [sI_1]
          unfold DX17_length
          simp only [mlet]
          rw [mb3_s, mset_n (show ¬ (869 = 869 ∧ 40 = 0) by omega), mset_n (show ¬ (869 = 732 ∧ 40 = 95) by omega), mset_n (show ¬ (869 = 869 ∧ 40 = 0) by omega), g40, hmf]
          have hgm := hg
          generalize hmm : p.1 11 f = m at *
          have hM := hv.2.1 m hgm.2.1 hgm.2.2.1
          have h100 := hM.2.2.1
          have hcm : p.1 1 m = c := hw.1
          have to := (h.2.2.1 m hgm.2.1 hgm.2.2.1).1
          rw [hmf] at g900
          generalize hN9 : mset (mset (mset M1 869 0 0) 732 95 (sI (e 0 + 1))) 869 0 0 = N9
          have n9 : ∀ a y, ¬ (a = 869 ∧ y = 0) → ¬ (a = 732 ∧ y = 95) → N9 a y = M1 a y := fun a y u v => by rw [← hN9, mset_n u, mset_n v, mset_n u]
          have n95 : N9 732 95 = sI (e 0 + 1) := by rw [← hN9, mset_n (by omega), mset_s]
          -- what was got
          refine wq_for (body := fun r z => fX19_arrive_i150 fu (sI id) r z.1 z.2.1 z.2.2.1 z.2.2.2.1 z.2.2.2.2) (fun i (x : mwM) => (sI (f + 1), sI (p.1 2 m), sI i, x, L1)) (fun i x => (∀ j, j < i → x 932 j = sI (o m j)) ∧ ∀ a y, ¬ (a = 869 ∧ y = 0) → a ≠ 932 → x a y = N9 a y) (p.1 2 m) ?_ ?_ (p.1 2 m) 0 N9 fu (by omega) (by omega) ⟨fun j u => by omega, fun _ _ _ _ => rfl⟩
          · intro i x r4 hi ⟨x1, x2⟩ ih4
            show wq (fX19_arrive_i150 fu (sI id) r4 (sI (f + 1)) (sI (p.1 2 m)) (sI i) x L1) _
            unfold fX19_arrive_i150
            have hoi := (to i hi).2
            rw [if_neg (by rw [sI_le (by omega) (by omega)]; omega), m_got17 (sz := p.1 2 m) (x := o m i) hi (by omega) (by rw [x2 869 40 (by omega) (by omega), n9 869 40 (by omega) (by omega), g40, hmf]) (by rw [x2 900 i (by omega) (by omega), n9 900 i (by omega) (by omega), g900 i hi]) hoi, mb3_s, mck_s (by omega) (by omega), sI_nn (by omega), sB_a _ hoi]
            simp only [mlet]
            rw [sI_1]
            refine ih4 _ ⟨fun j u => ?_, fun a y u v => by rw [mset_n (by omega), mset_n (by omega)]; exact x2 a y u v⟩
            by_cases hj : j = i
            · rw [hj, mset_s]
            · rw [mset_j hj, mset_n (by omega)]; exact x1 j (by omega)
          · intro x r4 ⟨x1, x2⟩
            show wq (fX19_arrive_i150 fu (sI id) r4 (sI (f + 1)) (sI (p.1 2 m)) (sI (p.1 2 m)) x L1) _
            unfold fX19_arrive_i150 fX19_arrive_b297
            have T5 : TfM x L1 (p.1 0 3) (rvQ f (p.1, mset p.2 1 f true)).1.1 (rvQ f (p.1, mset p.2 1 f true)).1.2 o e1 := TfM_fr T1 (fun a y u1 u2 u3 u4 => by rw [x2 a y (by omega) (by omega), n9 a y (by omega) (by omega)]) (fun _ _ _ _ => rfl)
            have F1 : f < (rvQ f (p.1, mset p.2 1 f true)).1.1 0 1 := by
              have : p.1 0 1 ≤ (rvQ f (p.1, mset p.2 1 f true)).1.1 0 1 := by
                unfold rvQ nxQ
                dsimp only
                split
                · split
                  · dsimp only
                    rw [mset_n (by omega)]; exact Nat.le_refl _
                  · exact Nat.le_refl _
                · split
                  · split
                    · split
                      · split
                        · dsimp only
                          unfold gtN
                          rw [mset_n (by omega), mset_n (by omega), mset_n (by omega)]; exact Nat.le_refl _
                        · dsimp only
                          rw [mset_n (by omega)]; exact Nat.le_refl _
                      · dsimp only
                        rw [mset_n (by omega)]; exact Nat.le_refl _
                    · exact Nat.le_refl _
                  · split
                    · dsimp only
                      rw [mset_n (by omega)]; exact Nat.le_refl _
                    · dsimp only
                      unfold fsP
                      dsimp only
                      rw [mk_F, fs_F]; omega
              omega
            have fa := m_frameA (fu := fu) (w := 1) hvr T5 F1 (by omega) (by omega)
            rw [if_neg (by omega), if_pos rfl, vf 11 f (by omega) hf1, hmm] at fa
            rw [if_pos (by rw [sI_le (by omega) (by omega)]; omega), show (1 : Int32) = sI 1 from rfl, fa, mb3_s, mck_s (by omega) (by omega), sI_nn (by omega)]
            have q928 : mset x 869 0 0 928 m = bI (p.2 0 m) := by
              rw [mset_n (by omega), x2 928 m (by omega) (by omega), n9 928 m (by omega) (by omega), fw 928 m (by omega)]
              exact (n2 m hgm.2.1 hgm.2.2.1).2
            have q927 : mset x 869 0 0 927 m = sI c := by
              rw [mset_n (by omega), x2 927 m (by omega) (by omega), n9 927 m (by omega) (by omega), fw 927 m (by omega), ← hcm]
              exact (n2 m hgm.2.1 hgm.2.2.1).1
            rw [q928, mck_s (by omega) (by omega), mck_s (by omega) (by omega), q927]
            have T6 : TfM (mset x 869 0 0) L1 (p.1 0 3) (rvQ f (p.1, mset p.2 1 f true)).1.1 (rvQ f (p.1, mset p.2 1 f true)).1.2 o e1 := TfM_fr T5 (fun a y _ _ _ u => mset_n (by omega)) (fun _ _ _ _ => rfl)
            have N6 : TfN (mset x 869 0 0) (rvQ f (p.1, mset p.2 1 f true)).1.1 (rvQ f (p.1, mset p.2 1 f true)).1.2 e1 := mkN' _ (fun a y u v => by rw [mset_n (by omega), x2 a y (by omega) (by omega), n9 a y (by omega) u]) (by rw [mset_n (by omega), x2 732 95 (by omega) (by omega), n95, e10])
            have A6 : aFr M (mset x 869 0 0) := fun a y u => by rw [mset_n (by omega), x2 a y (by omega) (by omega), n9 a y (by omega) (by omega), fw a y (by omega)]
            have O6 : ∀ j, j < p.1 2 m → mset x 869 0 0 932 j = sI (o m j) := fun j u => by rw [mset_n (by omega)]; exact x1 j u
            cases hb : p.2 0 m with
            | false =>
              rw [if_pos (show bI false = 0 from rfl)]
              simp only [mlet]
              exact k2 _ L1 e1 m T6 N6 A6 f2 hmf.symm hgm.2.1 hgm.2.2.1 hcm O6 hb
            | true =>
              rw [if_neg (show ¬ bI true = 0 by decide)]
              have := k1 _ L1 e1 m T6 N6 A6 f2 hmf.symm hgm.2.1 hgm.2.2.1 hcm O6 hb
              exact this
      · rw [mset_n (by omega), mset_n (by omega), if_pos u1]
        exact ⟨rfl, rfl⟩
      · rw [mset_n (by omega), mset_n (by omega)]
        exact ⟨rfl, rfl⟩
      · rw [mset_n u1]
    · rw [if_neg (by rw [sI_eq (by omega) (by have : (if tt = true then 1 else 0) ≤ 1 := (by split <;> omega); omega)]; exact hq)]
      simp only [mlet]
      rw [sI_1]
      refine ih () (fun j hj hji => ?_)
      by_cases hjk : j = k
      · subst hjk
        rw [hfk]
        exact hq
      · exact hn j hj (by omega)
  · intro _ r hn
    show wq (fX19_arrive_i2 fu (sI id) r (sI (obL p.1 p.2).length) M L) _
    unfold fX19_arrive_i2 fX19_arrive_b26
    rw [n6, if_pos (by rw [sI_le (by omega) (by omega)]; omega), if_pos rfl]
    have erc : rchP c tt p = (p, 0) := by
      refine rch_none (fun g hg => ?_)
      cases hgo : onW p.1 p.2 c tt g with
      | false => rfl
      | true =>
        exfalso
        unfold onW at hgo
        simp at hgo
        obtain ⟨o1, o2, o3⟩ := hgo
        have hgm : g ∈ obL p.1 p.2 := ob_mem.mpr ⟨hg, o1⟩
        obtain ⟨j, hj, hjg⟩ := List.getElem_of_mem hgm
        refine hn j hj hj ?_
        rw [hjg]
        exact (id_eq.mpr ⟨o2, o3⟩).trans hid
    rw [erc] at k0
    exact wq_some (k0 M L e h ⟨n1, n2, n3, n4, n5, n6, n7, n8⟩ (fun _ _ _ => rfl) (fun _ _ _ => rfl) rfl)
