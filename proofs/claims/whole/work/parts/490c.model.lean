theorem vX14_init_2 {fu : Nat} {F : mwF} {M : mwM} {L : mwL} {FZ : mwF} {MZ : mwM} {LZ : mwL} (hD : DX14_init fu F M L = some (FZ, MZ, LZ)) : FZ 854 2 = some 855 := by
  unfold DX14_init at hD
  obtain ⟨M1, eM1, hD⟩ := g_let hD
  obtain ⟨F2, eF2, hD⟩ := g_let hD
  obtain ⟨M3, eM3, hD⟩ := g_let hD
  obtain ⟨F4, eF4, hD⟩ := g_let hD
  obtain ⟨L5, eL5, hD⟩ := g_let hD
  obtain ⟨F6, eF6, hD⟩ := g_let hD
  obtain ⟨M7, eM7, hD⟩ := g_let hD
  obtain ⟨F8, eF8, hD⟩ := g_let hD
  obtain ⟨M9, eM9, hD⟩ := g_let hD
  obtain ⟨F10, eF10, hD⟩ := g_let hD
  obtain ⟨M11, eM11, hD⟩ := g_let hD
  obtain ⟨F12, eF12, hD⟩ := g_let hD
  obtain ⟨L13, eL13, hD⟩ := g_let hD
  obtain ⟨F14, eF14, hD⟩ := g_let hD
  obtain ⟨M15, eM15, hD⟩ := g_let hD
  obtain ⟨F16, eF16, hD⟩ := g_let hD
  obtain ⟨M17, eM17, hD⟩ := g_let hD
  obtain ⟨F18, eF18, hD⟩ := g_let hD
  obtain ⟨M19, eM19, hD⟩ := g_let hD
  obtain ⟨F20, eF20, hD⟩ := g_let hD
  obtain ⟨M21, eM21, hD⟩ := g_let hD
  obtain ⟨F22, eF22, hD⟩ := g_let hD
  obtain ⟨M23, eM23, hD⟩ := g_let hD
  obtain ⟨F24, eF24, hD⟩ := g_let hD
  obtain ⟨M25, eM25, hD⟩ := g_let hD
  obtain ⟨F26, eF26, hD⟩ := g_let hD
  obtain ⟨M27, eM27, hD⟩ := g_let hD
  obtain ⟨F28, eF28, hD⟩ := g_let hD
  obtain ⟨M29, L30, h1, hD⟩ := g_b2 hD
  have hf := congrArg (fun q => q.1) (Option.some.inj hD)
  dsimp only at hf
  rw [← hf]
  (rw [eF28, mset_j (by decide)]; rw [eF26, mset_j (by decide)]; rw [eF24, mset_j (by decide)]; rw [eF22, mset_j (by decide)]; rw [eF20, mset_j (by decide)]; rw [eF18, mset_j (by decide)]; rw [eF16, mset_j (by decide)]; rw [eF14, mset_j (by decide)]; rw [eF12, mset_j (by decide)]; rw [eF10, mset_j (by decide)]; rw [eF8, mset_j (by decide)]; rw [eF6, mset_j (by decide)]; rw [eF4, mset_j (by decide)]; rw [eF2]; exact mset_s)
theorem vX14_init_3 {fu : Nat} {F : mwF} {M : mwM} {L : mwL} {FZ : mwF} {MZ : mwM} {LZ : mwL} (hD : DX14_init fu F M L = some (FZ, MZ, LZ)) : FZ 854 3 = some 856 := by
  unfold DX14_init at hD
  obtain ⟨M1, eM1, hD⟩ := g_let hD
  obtain ⟨F2, eF2, hD⟩ := g_let hD
  obtain ⟨M3, eM3, hD⟩ := g_let hD
  obtain ⟨F4, eF4, hD⟩ := g_let hD
  obtain ⟨L5, eL5, hD⟩ := g_let hD
  obtain ⟨F6, eF6, hD⟩ := g_let hD
  obtain ⟨M7, eM7, hD⟩ := g_let hD
  obtain ⟨F8, eF8, hD⟩ := g_let hD
  obtain ⟨M9, eM9, hD⟩ := g_let hD
  obtain ⟨F10, eF10, hD⟩ := g_let hD
  obtain ⟨M11, eM11, hD⟩ := g_let hD
  obtain ⟨F12, eF12, hD⟩ := g_let hD
  obtain ⟨L13, eL13, hD⟩ := g_let hD
  obtain ⟨F14, eF14, hD⟩ := g_let hD
  obtain ⟨M15, eM15, hD⟩ := g_let hD
  obtain ⟨F16, eF16, hD⟩ := g_let hD
  obtain ⟨M17, eM17, hD⟩ := g_let hD
  obtain ⟨F18, eF18, hD⟩ := g_let hD
  obtain ⟨M19, eM19, hD⟩ := g_let hD
  obtain ⟨F20, eF20, hD⟩ := g_let hD
  obtain ⟨M21, eM21, hD⟩ := g_let hD
  obtain ⟨F22, eF22, hD⟩ := g_let hD
  obtain ⟨M23, eM23, hD⟩ := g_let hD
  obtain ⟨F24, eF24, hD⟩ := g_let hD
  obtain ⟨M25, eM25, hD⟩ := g_let hD
  obtain ⟨F26, eF26, hD⟩ := g_let hD
  obtain ⟨M27, eM27, hD⟩ := g_let hD
  obtain ⟨F28, eF28, hD⟩ := g_let hD
  obtain ⟨M29, L30, h1, hD⟩ := g_b2 hD
  have hf := congrArg (fun q => q.1) (Option.some.inj hD)
  dsimp only at hf
  rw [← hf]
  (rw [eF28, mset_j (by decide)]; rw [eF26, mset_j (by decide)]; rw [eF24, mset_j (by decide)]; rw [eF22, mset_j (by decide)]; rw [eF20, mset_j (by decide)]; rw [eF18, mset_j (by decide)]; rw [eF16, mset_j (by decide)]; rw [eF14, mset_j (by decide)]; rw [eF12, mset_j (by decide)]; rw [eF10, mset_j (by decide)]; rw [eF8, mset_j (by decide)]; rw [eF6, mset_j (by decide)]; rw [eF4]; exact mset_s)
theorem vX14_init_4 {fu : Nat} {F : mwF} {M : mwM} {L : mwL} {FZ : mwF} {MZ : mwM} {LZ : mwL} (hD : DX14_init fu F M L = some (FZ, MZ, LZ)) : FZ 854 4 = some 857 := by
  unfold DX14_init at hD
  obtain ⟨M1, eM1, hD⟩ := g_let hD
  obtain ⟨F2, eF2, hD⟩ := g_let hD
  obtain ⟨M3, eM3, hD⟩ := g_let hD
  obtain ⟨F4, eF4, hD⟩ := g_let hD
  obtain ⟨L5, eL5, hD⟩ := g_let hD
  obtain ⟨F6, eF6, hD⟩ := g_let hD
  obtain ⟨M7, eM7, hD⟩ := g_let hD
  obtain ⟨F8, eF8, hD⟩ := g_let hD
  obtain ⟨M9, eM9, hD⟩ := g_let hD
  obtain ⟨F10, eF10, hD⟩ := g_let hD
  obtain ⟨M11, eM11, hD⟩ := g_let hD
  obtain ⟨F12, eF12, hD⟩ := g_let hD
  obtain ⟨L13, eL13, hD⟩ := g_let hD
  obtain ⟨F14, eF14, hD⟩ := g_let hD
  obtain ⟨M15, eM15, hD⟩ := g_let hD
  obtain ⟨F16, eF16, hD⟩ := g_let hD
  obtain ⟨M17, eM17, hD⟩ := g_let hD
  obtain ⟨F18, eF18, hD⟩ := g_let hD
  obtain ⟨M19, eM19, hD⟩ := g_let hD
  obtain ⟨F20, eF20, hD⟩ := g_let hD
  obtain ⟨M21, eM21, hD⟩ := g_let hD
  obtain ⟨F22, eF22, hD⟩ := g_let hD
  obtain ⟨M23, eM23, hD⟩ := g_let hD
  obtain ⟨F24, eF24, hD⟩ := g_let hD
  obtain ⟨M25, eM25, hD⟩ := g_let hD
  obtain ⟨F26, eF26, hD⟩ := g_let hD
  obtain ⟨M27, eM27, hD⟩ := g_let hD
  obtain ⟨F28, eF28, hD⟩ := g_let hD
  obtain ⟨M29, L30, h1, hD⟩ := g_b2 hD
  have hf := congrArg (fun q => q.1) (Option.some.inj hD)
  dsimp only at hf
  rw [← hf]
  (rw [eF28, mset_j (by decide)]; rw [eF26, mset_j (by decide)]; rw [eF24, mset_j (by decide)]; rw [eF22, mset_j (by decide)]; rw [eF20, mset_j (by decide)]; rw [eF18, mset_j (by decide)]; rw [eF16, mset_j (by decide)]; rw [eF14, mset_j (by decide)]; rw [eF12, mset_j (by decide)]; rw [eF10, mset_j (by decide)]; rw [eF8, mset_j (by decide)]; rw [eF6]; exact mset_s)
theorem vX14_init_5 {fu : Nat} {F : mwF} {M : mwM} {L : mwL} {FZ : mwF} {MZ : mwM} {LZ : mwL} (hD : DX14_init fu F M L = some (FZ, MZ, LZ)) : FZ 854 5 = some 858 := by
  unfold DX14_init at hD
  obtain ⟨M1, eM1, hD⟩ := g_let hD
  obtain ⟨F2, eF2, hD⟩ := g_let hD
  obtain ⟨M3, eM3, hD⟩ := g_let hD
  obtain ⟨F4, eF4, hD⟩ := g_let hD
  obtain ⟨L5, eL5, hD⟩ := g_let hD
  obtain ⟨F6, eF6, hD⟩ := g_let hD
  obtain ⟨M7, eM7, hD⟩ := g_let hD
  obtain ⟨F8, eF8, hD⟩ := g_let hD
  obtain ⟨M9, eM9, hD⟩ := g_let hD
  obtain ⟨F10, eF10, hD⟩ := g_let hD
  obtain ⟨M11, eM11, hD⟩ := g_let hD
  obtain ⟨F12, eF12, hD⟩ := g_let hD
  obtain ⟨L13, eL13, hD⟩ := g_let hD
  obtain ⟨F14, eF14, hD⟩ := g_let hD
  obtain ⟨M15, eM15, hD⟩ := g_let hD
  obtain ⟨F16, eF16, hD⟩ := g_let hD
  obtain ⟨M17, eM17, hD⟩ := g_let hD
  obtain ⟨F18, eF18, hD⟩ := g_let hD
  obtain ⟨M19, eM19, hD⟩ := g_let hD
  obtain ⟨F20, eF20, hD⟩ := g_let hD
  obtain ⟨M21, eM21, hD⟩ := g_let hD
  obtain ⟨F22, eF22, hD⟩ := g_let hD
  obtain ⟨M23, eM23, hD⟩ := g_let hD
  obtain ⟨F24, eF24, hD⟩ := g_let hD
  obtain ⟨M25, eM25, hD⟩ := g_let hD
  obtain ⟨F26, eF26, hD⟩ := g_let hD
  obtain ⟨M27, eM27, hD⟩ := g_let hD
  obtain ⟨F28, eF28, hD⟩ := g_let hD
  obtain ⟨M29, L30, h1, hD⟩ := g_b2 hD
  have hf := congrArg (fun q => q.1) (Option.some.inj hD)
  dsimp only at hf
  rw [← hf]
  (rw [eF28, mset_j (by decide)]; rw [eF26, mset_j (by decide)]; rw [eF24, mset_j (by decide)]; rw [eF22, mset_j (by decide)]; rw [eF20, mset_j (by decide)]; rw [eF18, mset_j (by decide)]; rw [eF16, mset_j (by decide)]; rw [eF14, mset_j (by decide)]; rw [eF12, mset_j (by decide)]; rw [eF10, mset_j (by decide)]; rw [eF8]; exact mset_s)
theorem vX14_init_8 {fu : Nat} {F : mwF} {M : mwM} {L : mwL} {FZ : mwF} {MZ : mwM} {LZ : mwL} (hD : DX14_init fu F M L = some (FZ, MZ, LZ)) : FZ 854 8 = some 859 := by
  unfold DX14_init at hD
  obtain ⟨M1, eM1, hD⟩ := g_let hD
  obtain ⟨F2, eF2, hD⟩ := g_let hD
  obtain ⟨M3, eM3, hD⟩ := g_let hD
  obtain ⟨F4, eF4, hD⟩ := g_let hD
  obtain ⟨L5, eL5, hD⟩ := g_let hD
  obtain ⟨F6, eF6, hD⟩ := g_let hD
  obtain ⟨M7, eM7, hD⟩ := g_let hD
  obtain ⟨F8, eF8, hD⟩ := g_let hD
  obtain ⟨M9, eM9, hD⟩ := g_let hD
  obtain ⟨F10, eF10, hD⟩ := g_let hD
  obtain ⟨M11, eM11, hD⟩ := g_let hD
  obtain ⟨F12, eF12, hD⟩ := g_let hD
  obtain ⟨L13, eL13, hD⟩ := g_let hD
  obtain ⟨F14, eF14, hD⟩ := g_let hD
  obtain ⟨M15, eM15, hD⟩ := g_let hD
  obtain ⟨F16, eF16, hD⟩ := g_let hD
  obtain ⟨M17, eM17, hD⟩ := g_let hD
  obtain ⟨F18, eF18, hD⟩ := g_let hD
  obtain ⟨M19, eM19, hD⟩ := g_let hD
  obtain ⟨F20, eF20, hD⟩ := g_let hD
  obtain ⟨M21, eM21, hD⟩ := g_let hD
  obtain ⟨F22, eF22, hD⟩ := g_let hD
  obtain ⟨M23, eM23, hD⟩ := g_let hD
  obtain ⟨F24, eF24, hD⟩ := g_let hD
  obtain ⟨M25, eM25, hD⟩ := g_let hD
  obtain ⟨F26, eF26, hD⟩ := g_let hD
  obtain ⟨M27, eM27, hD⟩ := g_let hD
  obtain ⟨F28, eF28, hD⟩ := g_let hD
  obtain ⟨M29, L30, h1, hD⟩ := g_b2 hD
  have hf := congrArg (fun q => q.1) (Option.some.inj hD)
  dsimp only at hf
  rw [← hf]
  (rw [eF28, mset_j (by decide)]; rw [eF26, mset_j (by decide)]; rw [eF24, mset_j (by decide)]; rw [eF22, mset_j (by decide)]; rw [eF20, mset_j (by decide)]; rw [eF18, mset_j (by decide)]; rw [eF16, mset_j (by decide)]; rw [eF14, mset_j (by decide)]; rw [eF12, mset_j (by decide)]; rw [eF10]; exact mset_s)
theorem vX14_init_10 {fu : Nat} {F : mwF} {M : mwM} {L : mwL} {FZ : mwF} {MZ : mwM} {LZ : mwL} (hD : DX14_init fu F M L = some (FZ, MZ, LZ)) : FZ 854 10 = some 860 := by
  unfold DX14_init at hD
  obtain ⟨M1, eM1, hD⟩ := g_let hD
  obtain ⟨F2, eF2, hD⟩ := g_let hD
  obtain ⟨M3, eM3, hD⟩ := g_let hD
  obtain ⟨F4, eF4, hD⟩ := g_let hD
  obtain ⟨L5, eL5, hD⟩ := g_let hD
  obtain ⟨F6, eF6, hD⟩ := g_let hD
  obtain ⟨M7, eM7, hD⟩ := g_let hD
  obtain ⟨F8, eF8, hD⟩ := g_let hD
  obtain ⟨M9, eM9, hD⟩ := g_let hD
  obtain ⟨F10, eF10, hD⟩ := g_let hD
  obtain ⟨M11, eM11, hD⟩ := g_let hD
  obtain ⟨F12, eF12, hD⟩ := g_let hD
  obtain ⟨L13, eL13, hD⟩ := g_let hD
  obtain ⟨F14, eF14, hD⟩ := g_let hD
  obtain ⟨M15, eM15, hD⟩ := g_let hD
  obtain ⟨F16, eF16, hD⟩ := g_let hD
  obtain ⟨M17, eM17, hD⟩ := g_let hD
  obtain ⟨F18, eF18, hD⟩ := g_let hD
  obtain ⟨M19, eM19, hD⟩ := g_let hD
  obtain ⟨F20, eF20, hD⟩ := g_let hD
  obtain ⟨M21, eM21, hD⟩ := g_let hD
  obtain ⟨F22, eF22, hD⟩ := g_let hD
  obtain ⟨M23, eM23, hD⟩ := g_let hD
  obtain ⟨F24, eF24, hD⟩ := g_let hD
  obtain ⟨M25, eM25, hD⟩ := g_let hD
  obtain ⟨F26, eF26, hD⟩ := g_let hD
  obtain ⟨M27, eM27, hD⟩ := g_let hD
  obtain ⟨F28, eF28, hD⟩ := g_let hD
  obtain ⟨M29, L30, h1, hD⟩ := g_b2 hD
  have hf := congrArg (fun q => q.1) (Option.some.inj hD)
  dsimp only at hf
  rw [← hf]
  (rw [eF28, mset_j (by decide)]; rw [eF26, mset_j (by decide)]; rw [eF24, mset_j (by decide)]; rw [eF22, mset_j (by decide)]; rw [eF20, mset_j (by decide)]; rw [eF18, mset_j (by decide)]; rw [eF16, mset_j (by decide)]; rw [eF14, mset_j (by decide)]; rw [eF12]; exact mset_s)
theorem vX14_init_11 {fu : Nat} {F : mwF} {M : mwM} {L : mwL} {FZ : mwF} {MZ : mwM} {LZ : mwL} (hD : DX14_init fu F M L = some (FZ, MZ, LZ)) : FZ 854 11 = some 861 := by
  unfold DX14_init at hD
  obtain ⟨M1, eM1, hD⟩ := g_let hD
  obtain ⟨F2, eF2, hD⟩ := g_let hD
  obtain ⟨M3, eM3, hD⟩ := g_let hD
  obtain ⟨F4, eF4, hD⟩ := g_let hD
  obtain ⟨L5, eL5, hD⟩ := g_let hD
  obtain ⟨F6, eF6, hD⟩ := g_let hD
  obtain ⟨M7, eM7, hD⟩ := g_let hD
  obtain ⟨F8, eF8, hD⟩ := g_let hD
  obtain ⟨M9, eM9, hD⟩ := g_let hD
  obtain ⟨F10, eF10, hD⟩ := g_let hD
  obtain ⟨M11, eM11, hD⟩ := g_let hD
  obtain ⟨F12, eF12, hD⟩ := g_let hD
  obtain ⟨L13, eL13, hD⟩ := g_let hD
  obtain ⟨F14, eF14, hD⟩ := g_let hD
  obtain ⟨M15, eM15, hD⟩ := g_let hD
  obtain ⟨F16, eF16, hD⟩ := g_let hD
  obtain ⟨M17, eM17, hD⟩ := g_let hD
  obtain ⟨F18, eF18, hD⟩ := g_let hD
  obtain ⟨M19, eM19, hD⟩ := g_let hD
  obtain ⟨F20, eF20, hD⟩ := g_let hD
  obtain ⟨M21, eM21, hD⟩ := g_let hD
  obtain ⟨F22, eF22, hD⟩ := g_let hD
  obtain ⟨M23, eM23, hD⟩ := g_let hD
  obtain ⟨F24, eF24, hD⟩ := g_let hD
  obtain ⟨M25, eM25, hD⟩ := g_let hD
  obtain ⟨F26, eF26, hD⟩ := g_let hD
  obtain ⟨M27, eM27, hD⟩ := g_let hD
  obtain ⟨F28, eF28, hD⟩ := g_let hD
  obtain ⟨M29, L30, h1, hD⟩ := g_b2 hD
  have hf := congrArg (fun q => q.1) (Option.some.inj hD)
  dsimp only at hf
  rw [← hf]
  (rw [eF28, mset_j (by decide)]; rw [eF26, mset_j (by decide)]; rw [eF24, mset_j (by decide)]; rw [eF22, mset_j (by decide)]; rw [eF20, mset_j (by decide)]; rw [eF18, mset_j (by decide)]; rw [eF16, mset_j (by decide)]; rw [eF14]; exact mset_s)
theorem vX14_init_12 {fu : Nat} {F : mwF} {M : mwM} {L : mwL} {FZ : mwF} {MZ : mwM} {LZ : mwL} (hD : DX14_init fu F M L = some (FZ, MZ, LZ)) : FZ 854 12 = some 862 := by
  unfold DX14_init at hD
  obtain ⟨M1, eM1, hD⟩ := g_let hD
  obtain ⟨F2, eF2, hD⟩ := g_let hD
  obtain ⟨M3, eM3, hD⟩ := g_let hD
  obtain ⟨F4, eF4, hD⟩ := g_let hD
  obtain ⟨L5, eL5, hD⟩ := g_let hD
  obtain ⟨F6, eF6, hD⟩ := g_let hD
  obtain ⟨M7, eM7, hD⟩ := g_let hD
  obtain ⟨F8, eF8, hD⟩ := g_let hD
  obtain ⟨M9, eM9, hD⟩ := g_let hD
  obtain ⟨F10, eF10, hD⟩ := g_let hD
  obtain ⟨M11, eM11, hD⟩ := g_let hD
  obtain ⟨F12, eF12, hD⟩ := g_let hD
  obtain ⟨L13, eL13, hD⟩ := g_let hD
  obtain ⟨F14, eF14, hD⟩ := g_let hD
  obtain ⟨M15, eM15, hD⟩ := g_let hD
  obtain ⟨F16, eF16, hD⟩ := g_let hD
  obtain ⟨M17, eM17, hD⟩ := g_let hD
  obtain ⟨F18, eF18, hD⟩ := g_let hD
  obtain ⟨M19, eM19, hD⟩ := g_let hD
  obtain ⟨F20, eF20, hD⟩ := g_let hD
  obtain ⟨M21, eM21, hD⟩ := g_let hD
  obtain ⟨F22, eF22, hD⟩ := g_let hD
  obtain ⟨M23, eM23, hD⟩ := g_let hD
  obtain ⟨F24, eF24, hD⟩ := g_let hD
  obtain ⟨M25, eM25, hD⟩ := g_let hD
  obtain ⟨F26, eF26, hD⟩ := g_let hD
  obtain ⟨M27, eM27, hD⟩ := g_let hD
  obtain ⟨F28, eF28, hD⟩ := g_let hD
  obtain ⟨M29, L30, h1, hD⟩ := g_b2 hD
  have hf := congrArg (fun q => q.1) (Option.some.inj hD)
  dsimp only at hf
  rw [← hf]
  (rw [eF28, mset_j (by decide)]; rw [eF26, mset_j (by decide)]; rw [eF24, mset_j (by decide)]; rw [eF22, mset_j (by decide)]; rw [eF20, mset_j (by decide)]; rw [eF18, mset_j (by decide)]; rw [eF16]; exact mset_s)
theorem vX14_init_13 {fu : Nat} {F : mwF} {M : mwM} {L : mwL} {FZ : mwF} {MZ : mwM} {LZ : mwL} (hD : DX14_init fu F M L = some (FZ, MZ, LZ)) : FZ 854 13 = some 863 := by
  unfold DX14_init at hD
  obtain ⟨M1, eM1, hD⟩ := g_let hD
  obtain ⟨F2, eF2, hD⟩ := g_let hD
  obtain ⟨M3, eM3, hD⟩ := g_let hD
  obtain ⟨F4, eF4, hD⟩ := g_let hD
  obtain ⟨L5, eL5, hD⟩ := g_let hD
  obtain ⟨F6, eF6, hD⟩ := g_let hD
  obtain ⟨M7, eM7, hD⟩ := g_let hD
  obtain ⟨F8, eF8, hD⟩ := g_let hD
  obtain ⟨M9, eM9, hD⟩ := g_let hD
  obtain ⟨F10, eF10, hD⟩ := g_let hD
  obtain ⟨M11, eM11, hD⟩ := g_let hD
  obtain ⟨F12, eF12, hD⟩ := g_let hD
  obtain ⟨L13, eL13, hD⟩ := g_let hD
  obtain ⟨F14, eF14, hD⟩ := g_let hD
  obtain ⟨M15, eM15, hD⟩ := g_let hD
  obtain ⟨F16, eF16, hD⟩ := g_let hD
  obtain ⟨M17, eM17, hD⟩ := g_let hD
  obtain ⟨F18, eF18, hD⟩ := g_let hD
  obtain ⟨M19, eM19, hD⟩ := g_let hD
  obtain ⟨F20, eF20, hD⟩ := g_let hD
  obtain ⟨M21, eM21, hD⟩ := g_let hD
  obtain ⟨F22, eF22, hD⟩ := g_let hD
  obtain ⟨M23, eM23, hD⟩ := g_let hD
  obtain ⟨F24, eF24, hD⟩ := g_let hD
  obtain ⟨M25, eM25, hD⟩ := g_let hD
  obtain ⟨F26, eF26, hD⟩ := g_let hD
  obtain ⟨M27, eM27, hD⟩ := g_let hD
  obtain ⟨F28, eF28, hD⟩ := g_let hD
  obtain ⟨M29, L30, h1, hD⟩ := g_b2 hD
  have hf := congrArg (fun q => q.1) (Option.some.inj hD)
  dsimp only at hf
  rw [← hf]
  (rw [eF28, mset_j (by decide)]; rw [eF26, mset_j (by decide)]; rw [eF24, mset_j (by decide)]; rw [eF22, mset_j (by decide)]; rw [eF20, mset_j (by decide)]; rw [eF18]; exact mset_s)
theorem vX14_init_14 {fu : Nat} {F : mwF} {M : mwM} {L : mwL} {FZ : mwF} {MZ : mwM} {LZ : mwL} (hD : DX14_init fu F M L = some (FZ, MZ, LZ)) : FZ 854 14 = some 864 := by
  unfold DX14_init at hD
  obtain ⟨M1, eM1, hD⟩ := g_let hD
  obtain ⟨F2, eF2, hD⟩ := g_let hD
  obtain ⟨M3, eM3, hD⟩ := g_let hD
  obtain ⟨F4, eF4, hD⟩ := g_let hD
  obtain ⟨L5, eL5, hD⟩ := g_let hD
  obtain ⟨F6, eF6, hD⟩ := g_let hD
  obtain ⟨M7, eM7, hD⟩ := g_let hD
  obtain ⟨F8, eF8, hD⟩ := g_let hD
  obtain ⟨M9, eM9, hD⟩ := g_let hD
  obtain ⟨F10, eF10, hD⟩ := g_let hD
  obtain ⟨M11, eM11, hD⟩ := g_let hD
  obtain ⟨F12, eF12, hD⟩ := g_let hD
  obtain ⟨L13, eL13, hD⟩ := g_let hD
  obtain ⟨F14, eF14, hD⟩ := g_let hD
  obtain ⟨M15, eM15, hD⟩ := g_let hD
  obtain ⟨F16, eF16, hD⟩ := g_let hD
  obtain ⟨M17, eM17, hD⟩ := g_let hD
  obtain ⟨F18, eF18, hD⟩ := g_let hD
  obtain ⟨M19, eM19, hD⟩ := g_let hD
  obtain ⟨F20, eF20, hD⟩ := g_let hD
  obtain ⟨M21, eM21, hD⟩ := g_let hD
  obtain ⟨F22, eF22, hD⟩ := g_let hD
  obtain ⟨M23, eM23, hD⟩ := g_let hD
  obtain ⟨F24, eF24, hD⟩ := g_let hD
  obtain ⟨M25, eM25, hD⟩ := g_let hD
  obtain ⟨F26, eF26, hD⟩ := g_let hD
  obtain ⟨M27, eM27, hD⟩ := g_let hD
  obtain ⟨F28, eF28, hD⟩ := g_let hD
  obtain ⟨M29, L30, h1, hD⟩ := g_b2 hD
  have hf := congrArg (fun q => q.1) (Option.some.inj hD)
  dsimp only at hf
  rw [← hf]
  (rw [eF28, mset_j (by decide)]; rw [eF26, mset_j (by decide)]; rw [eF24, mset_j (by decide)]; rw [eF22, mset_j (by decide)]; rw [eF20]; exact mset_s)
theorem vX14_init_15 {fu : Nat} {F : mwF} {M : mwM} {L : mwL} {FZ : mwF} {MZ : mwM} {LZ : mwL} (hD : DX14_init fu F M L = some (FZ, MZ, LZ)) : FZ 854 15 = some 865 := by
  unfold DX14_init at hD
  obtain ⟨M1, eM1, hD⟩ := g_let hD
  obtain ⟨F2, eF2, hD⟩ := g_let hD
  obtain ⟨M3, eM3, hD⟩ := g_let hD
  obtain ⟨F4, eF4, hD⟩ := g_let hD
  obtain ⟨L5, eL5, hD⟩ := g_let hD
  obtain ⟨F6, eF6, hD⟩ := g_let hD
  obtain ⟨M7, eM7, hD⟩ := g_let hD
  obtain ⟨F8, eF8, hD⟩ := g_let hD
  obtain ⟨M9, eM9, hD⟩ := g_let hD
  obtain ⟨F10, eF10, hD⟩ := g_let hD
  obtain ⟨M11, eM11, hD⟩ := g_let hD
  obtain ⟨F12, eF12, hD⟩ := g_let hD
  obtain ⟨L13, eL13, hD⟩ := g_let hD
  obtain ⟨F14, eF14, hD⟩ := g_let hD
  obtain ⟨M15, eM15, hD⟩ := g_let hD
  obtain ⟨F16, eF16, hD⟩ := g_let hD
  obtain ⟨M17, eM17, hD⟩ := g_let hD
  obtain ⟨F18, eF18, hD⟩ := g_let hD
  obtain ⟨M19, eM19, hD⟩ := g_let hD
  obtain ⟨F20, eF20, hD⟩ := g_let hD
  obtain ⟨M21, eM21, hD⟩ := g_let hD
  obtain ⟨F22, eF22, hD⟩ := g_let hD
  obtain ⟨M23, eM23, hD⟩ := g_let hD
  obtain ⟨F24, eF24, hD⟩ := g_let hD
  obtain ⟨M25, eM25, hD⟩ := g_let hD
  obtain ⟨F26, eF26, hD⟩ := g_let hD
  obtain ⟨M27, eM27, hD⟩ := g_let hD
  obtain ⟨F28, eF28, hD⟩ := g_let hD
  obtain ⟨M29, L30, h1, hD⟩ := g_b2 hD
  have hf := congrArg (fun q => q.1) (Option.some.inj hD)
  dsimp only at hf
  rw [← hf]
  (rw [eF28, mset_j (by decide)]; rw [eF26, mset_j (by decide)]; rw [eF24, mset_j (by decide)]; rw [eF22]; exact mset_s)
theorem vX14_init_16 {fu : Nat} {F : mwF} {M : mwM} {L : mwL} {FZ : mwF} {MZ : mwM} {LZ : mwL} (hD : DX14_init fu F M L = some (FZ, MZ, LZ)) : FZ 854 16 = some 866 := by
  unfold DX14_init at hD
  obtain ⟨M1, eM1, hD⟩ := g_let hD
  obtain ⟨F2, eF2, hD⟩ := g_let hD
  obtain ⟨M3, eM3, hD⟩ := g_let hD
  obtain ⟨F4, eF4, hD⟩ := g_let hD
  obtain ⟨L5, eL5, hD⟩ := g_let hD
  obtain ⟨F6, eF6, hD⟩ := g_let hD
  obtain ⟨M7, eM7, hD⟩ := g_let hD
  obtain ⟨F8, eF8, hD⟩ := g_let hD
  obtain ⟨M9, eM9, hD⟩ := g_let hD
  obtain ⟨F10, eF10, hD⟩ := g_let hD
  obtain ⟨M11, eM11, hD⟩ := g_let hD
  obtain ⟨F12, eF12, hD⟩ := g_let hD
  obtain ⟨L13, eL13, hD⟩ := g_let hD
  obtain ⟨F14, eF14, hD⟩ := g_let hD
  obtain ⟨M15, eM15, hD⟩ := g_let hD
  obtain ⟨F16, eF16, hD⟩ := g_let hD
  obtain ⟨M17, eM17, hD⟩ := g_let hD
  obtain ⟨F18, eF18, hD⟩ := g_let hD
  obtain ⟨M19, eM19, hD⟩ := g_let hD
  obtain ⟨F20, eF20, hD⟩ := g_let hD
  obtain ⟨M21, eM21, hD⟩ := g_let hD
  obtain ⟨F22, eF22, hD⟩ := g_let hD
  obtain ⟨M23, eM23, hD⟩ := g_let hD
  obtain ⟨F24, eF24, hD⟩ := g_let hD
  obtain ⟨M25, eM25, hD⟩ := g_let hD
  obtain ⟨F26, eF26, hD⟩ := g_let hD
  obtain ⟨M27, eM27, hD⟩ := g_let hD
  obtain ⟨F28, eF28, hD⟩ := g_let hD
  obtain ⟨M29, L30, h1, hD⟩ := g_b2 hD
  have hf := congrArg (fun q => q.1) (Option.some.inj hD)
  dsimp only at hf
  rw [← hf]
  (rw [eF28, mset_j (by decide)]; rw [eF26, mset_j (by decide)]; rw [eF24]; exact mset_s)
theorem vX14_init_17 {fu : Nat} {F : mwF} {M : mwM} {L : mwL} {FZ : mwF} {MZ : mwM} {LZ : mwL} (hD : DX14_init fu F M L = some (FZ, MZ, LZ)) : FZ 854 17 = some 867 := by
  unfold DX14_init at hD
  obtain ⟨M1, eM1, hD⟩ := g_let hD
  obtain ⟨F2, eF2, hD⟩ := g_let hD
  obtain ⟨M3, eM3, hD⟩ := g_let hD
  obtain ⟨F4, eF4, hD⟩ := g_let hD
  obtain ⟨L5, eL5, hD⟩ := g_let hD
  obtain ⟨F6, eF6, hD⟩ := g_let hD
  obtain ⟨M7, eM7, hD⟩ := g_let hD
  obtain ⟨F8, eF8, hD⟩ := g_let hD
  obtain ⟨M9, eM9, hD⟩ := g_let hD
  obtain ⟨F10, eF10, hD⟩ := g_let hD
  obtain ⟨M11, eM11, hD⟩ := g_let hD
  obtain ⟨F12, eF12, hD⟩ := g_let hD
  obtain ⟨L13, eL13, hD⟩ := g_let hD
  obtain ⟨F14, eF14, hD⟩ := g_let hD
  obtain ⟨M15, eM15, hD⟩ := g_let hD
  obtain ⟨F16, eF16, hD⟩ := g_let hD
  obtain ⟨M17, eM17, hD⟩ := g_let hD
  obtain ⟨F18, eF18, hD⟩ := g_let hD
  obtain ⟨M19, eM19, hD⟩ := g_let hD
  obtain ⟨F20, eF20, hD⟩ := g_let hD
  obtain ⟨M21, eM21, hD⟩ := g_let hD
  obtain ⟨F22, eF22, hD⟩ := g_let hD
  obtain ⟨M23, eM23, hD⟩ := g_let hD
  obtain ⟨F24, eF24, hD⟩ := g_let hD
  obtain ⟨M25, eM25, hD⟩ := g_let hD
  obtain ⟨F26, eF26, hD⟩ := g_let hD
  obtain ⟨M27, eM27, hD⟩ := g_let hD
  obtain ⟨F28, eF28, hD⟩ := g_let hD
  obtain ⟨M29, L30, h1, hD⟩ := g_b2 hD
  have hf := congrArg (fun q => q.1) (Option.some.inj hD)
  dsimp only at hf
  rw [← hf]
  (rw [eF28, mset_j (by decide)]; rw [eF26]; exact mset_s)
theorem vX14_init_18 {fu : Nat} {F : mwF} {M : mwM} {L : mwL} {FZ : mwF} {MZ : mwM} {LZ : mwL} (hD : DX14_init fu F M L = some (FZ, MZ, LZ)) : FZ 854 18 = some 868 := by
  unfold DX14_init at hD
  obtain ⟨M1, eM1, hD⟩ := g_let hD
  obtain ⟨F2, eF2, hD⟩ := g_let hD
  obtain ⟨M3, eM3, hD⟩ := g_let hD
  obtain ⟨F4, eF4, hD⟩ := g_let hD
  obtain ⟨L5, eL5, hD⟩ := g_let hD
  obtain ⟨F6, eF6, hD⟩ := g_let hD
  obtain ⟨M7, eM7, hD⟩ := g_let hD
  obtain ⟨F8, eF8, hD⟩ := g_let hD
  obtain ⟨M9, eM9, hD⟩ := g_let hD
  obtain ⟨F10, eF10, hD⟩ := g_let hD
  obtain ⟨M11, eM11, hD⟩ := g_let hD
  obtain ⟨F12, eF12, hD⟩ := g_let hD
  obtain ⟨L13, eL13, hD⟩ := g_let hD
  obtain ⟨F14, eF14, hD⟩ := g_let hD
  obtain ⟨M15, eM15, hD⟩ := g_let hD
  obtain ⟨F16, eF16, hD⟩ := g_let hD
  obtain ⟨M17, eM17, hD⟩ := g_let hD
  obtain ⟨F18, eF18, hD⟩ := g_let hD
  obtain ⟨M19, eM19, hD⟩ := g_let hD
  obtain ⟨F20, eF20, hD⟩ := g_let hD
  obtain ⟨M21, eM21, hD⟩ := g_let hD
  obtain ⟨F22, eF22, hD⟩ := g_let hD
  obtain ⟨M23, eM23, hD⟩ := g_let hD
  obtain ⟨F24, eF24, hD⟩ := g_let hD
  obtain ⟨M25, eM25, hD⟩ := g_let hD
  obtain ⟨F26, eF26, hD⟩ := g_let hD
  obtain ⟨M27, eM27, hD⟩ := g_let hD
  obtain ⟨F28, eF28, hD⟩ := g_let hD
  obtain ⟨M29, L30, h1, hD⟩ := g_b2 hD
  have hf := congrArg (fun q => q.1) (Option.some.inj hD)
  dsimp only at hf
  rw [← hf]
  (rw [eF28]; exact mset_s)
theorem dX19_tail_712 : decode cX19_init 712 = .ok (.iconst 1, 1) := by decide +kernel
theorem dX19_tail_713 : decode cX19_init 713 = .ok (.istore_n 1, 1) := by decide +kernel
theorem dX19_tail_714 : decode cX19_init 714 = .ok (.iload_n 1, 1) := by decide +kernel
theorem dX19_tail_715 : decode cX19_init 715 = .ok (.bipush 16, 2) := by decide +kernel
theorem dX19_tail_717 : decode cX19_init 717 = .ok (.if_icmp .gt 43, 3) := by decide +kernel
theorem dX19_tail_720 : decode cX19_init 720 = .ok (.aload_n 0, 1) := by decide +kernel
theorem dX19_tail_721 : decode cX19_init 721 = .ok (.getfield 191, 3) := by decide +kernel
theorem dX19_tail_724 : decode cX19_init 724 = .ok (.invokevirtual 281, 3) := by decide +kernel
theorem dX19_tail_727 : decode cX19_init 727 = .ok (.istore_n 2, 1) := by decide +kernel
theorem dX19_tail_728 : decode cX19_init 728 = .ok (.iconst 0, 1) := by decide +kernel
theorem dX19_tail_729 : decode cX19_init 729 = .ok (.istore_n 3, 1) := by decide +kernel
theorem dX19_tail_730 : decode cX19_init 730 = .ok (.iload_n 3, 1) := by decide +kernel
theorem dX19_tail_731 : decode cX19_init 731 = .ok (.bipush 16, 2) := by decide +kernel
theorem dX19_tail_733 : decode cX19_init 733 = .ok (.if_icmp .ge 21, 3) := by decide +kernel
theorem dX19_tail_736 : decode cX19_init 736 = .ok (.aload_n 0, 1) := by decide +kernel
theorem dX19_tail_737 : decode cX19_init 737 = .ok (.getfield 191, 3) := by decide +kernel
theorem dX19_tail_740 : decode cX19_init 740 = .ok (.iload_n 2, 1) := by decide +kernel
theorem dX19_tail_741 : decode cX19_init 741 = .ok (.iload_n 1, 1) := by decide +kernel
theorem dX19_tail_742 : decode cX19_init 742 = .ok (.iload_n 3, 1) := by decide +kernel
theorem dX19_tail_743 : decode cX19_init 743 = .ok (.iadd, 1) := by decide +kernel
theorem dX19_tail_744 : decode cX19_init 744 = .ok (.i2b, 1) := by decide +kernel
theorem dX19_tail_745 : decode cX19_init 745 = .ok (.invokevirtual 285, 3) := by decide +kernel
theorem dX19_tail_748 : decode cX19_init 748 = .ok (.iinc 3 1, 3) := by decide +kernel
theorem dX19_tail_751 : decode cX19_init 751 = .ok (.goto (-21), 3) := by decide +kernel
theorem dX19_tail_754 : decode cX19_init 754 = .ok (.iinc 1 1, 3) := by decide +kernel
theorem dX19_tail_757 : decode cX19_init 757 = .ok (.goto (-43), 3) := by decide +kernel
theorem dX19_tail_760 : decode cX19_init 760 = .ok (.return_, 1) := by decide +kernel
noncomputable def fX19_tail_i730 (fu : Nat) (r714 : (Int32 × mwM × mwL) → Option (mwM × mwL)) (r730 : (Int32 × Int32 × Int32 × mwM × mwL) → Option (mwM × mwL)) (v1 : Int32) (v2 : Int32) (v3 : Int32) (M : mwM) (L : mwL) : Option (mwM × mwL) :=
  (if 16 ≤ v3 then mlet (v1 + 1) (fun x6 => r714 (x6, M, L)) else mb2 (DX14_keyByte fu v2 ((v1 + v3).toInt8.toInt32) M L) (fun M7 L8 => mlet (v3 + 1) (fun x9 => r730 (v1, v2, x9, M7, L8))))
noncomputable def fX19_tail_h730 (fu : Nat) (r714 : (Int32 × mwM × mwL) → Option (mwM × mwL)) : Nat → (Int32 × Int32 × Int32 × mwM × mwL) → Option (mwM × mwL) := mloop (fun r730 s => fX19_tail_i730 fu r714 r730 s.1 s.2.1 s.2.2.1 s.2.2.2.1 s.2.2.2.2)
noncomputable def fX19_tail_i714 (fu : Nat) (r714 : (Int32 × mwM × mwL) → Option (mwM × mwL)) (v1 : Int32) (M : mwM) (L : mwL) : Option (mwM × mwL) :=
  (if 16 < v1 then some (M, L) else mb3 (DX14_key fu M L) (fun r4 M2 L3 => fX19_tail_h730 fu r714 fu (v1, r4, 0, M2, L3)))
noncomputable def fX19_tail_h714 (fu : Nat) : Nat → (Int32 × mwM × mwL) → Option (mwM × mwL) := mloop (fun r714 s => fX19_tail_i714 fu r714 s.1 s.2.1 s.2.2)
noncomputable def DX19_tail (fu : Nat) (M : mwM) (L : mwL) : Option (mwM × mwL) :=
  fX19_tail_h714 fu fu (1, M, L)
set_option maxHeartbeats 4000000 in
set_option maxRecDepth 100000 in
theorem twX19_tail {p : Program} {l : Launch} {e : Env} {R : Room} {s : State} {m : MethodId} {args : Array Value} {below : List Frame} {meth : Method} {c : Code} {cells slots : Nat} (G : mwG) (fu : Nat) (F : mwF) (M : mwM) (L : mwL) {M0 : mwM} {L0 : mwL} (hD : DX19_tail fu M L = some (M0, L0)) (hFF : F 732 78 = some 854) (hFG : ∀ j r, FF 854 j = some r → F 854 j = some r) (C : mw_C p m c cX19_init 4 s args "CarHouseModel" G) (hr : meth.sig.returnType = none) (hlocks : meth.locks = false) (hsz : s.heap.size + cells = G.2.2.2.size + 1577) (hRf : 4 ≤ R.frames) (hRl : 120 ≤ R.locals) (hcs : cells ≤ R.cells ∧ slots ≤ R.slots) (H : Heap) (locs : List Loc) (ls : Array Slot) (hw : mw_W G (mw_ad G) 1577 TF F M L H locs) (hl : lv_has ls 4 [(0, .ref (mw_ad G 732))]) : W p l e R s m args below meth c H locs cells slots (MQ below (mw_QC G 1577 F M0 L0) args s cells slots (mw_fr G)) (F0 m 712 ls []) := by
  have hl : lv_has ls 4 [(0, .ref (mw_ad G 732))] := hl
  have hh714 : ∀ (f : Nat) (v1 : Int32) (M : mwM) (L : mwL) (H : Heap) (locs : List Loc) (ls : Array Slot), fX19_tail_h714 fu f (v1, M, L) = some (M0, L0) → mw_W G (mw_ad G) 1577 TF F M L H locs → lv_has ls 4 [(0, .ref (mw_ad G 732)), (1, .int v1)] → W p l e R s m args below meth c H locs cells slots (MQ below (mw_QC G 1577 F M0 L0) args s cells slots (mw_fr G)) (F0 m 714 ls []) := by
    intro f
    induction f with
    | zero => intro v1 M L H locs ls hD; cases hD
    | succ f714 ih714 =>
      intro v1 M L H locs ls hD hw hl
      replace hD : fX19_tail_i714 fu (fX19_tail_h714 fu f714) v1 M L = some (M0, L0) := hD
      have hh730 : ∀ (f : Nat) (v1 : Int32) (v2 : Int32) (v3 : Int32) (M : mwM) (L : mwL) (H : Heap) (locs : List Loc) (ls : Array Slot), fX19_tail_h730 fu (fX19_tail_h714 fu f714) f (v1, v2, v3, M, L) = some (M0, L0) → mw_W G (mw_ad G) 1577 TF F M L H locs → lv_has ls 4 [(0, .ref (mw_ad G 732)), (1, .int v1), (2, .int v2), (3, .int v3)] → W p l e R s m args below meth c H locs cells slots (MQ below (mw_QC G 1577 F M0 L0) args s cells slots (mw_fr G)) (F0 m 730 ls []) := by
        intro f
        induction f with
        | zero => intro v1 v2 v3 M L H locs ls hD; cases hD
        | succ f730 ih730 =>
          intro v1 v2 v3 M L H locs ls hD hw hl
          replace hD : fX19_tail_i730 fu (fX19_tail_h714 fu f714) (fX19_tail_h730 fu (fX19_tail_h714 fu f714) f730) v1 v2 v3 M L = some (M0, L0) := hD
          unfold fX19_tail_i730 at hD
          refine lv_iload_n C.1.1 C.1.2.1 dX19_tail_730 rfl (lv_at hl 3 rfl) ?_
          refine lv_bipush (v := 16) C.1.1 C.1.2.1 dX19_tail_731 (by decide) ?_
          refine lv_icmp_ge (tgt := 754) C.1.1 C.1.2.1 dX19_tail_733 (by decide) (fun c5 => ?_) (fun c5 => ?_)
          · replace hD := g_pos c5 hD
            obtain ⟨x6, ex6, hD⟩ := g_let hD
            refine lv_iinc (v := x6) (lv' := [(1, .int x6), (0, .ref (mw_ad G 732)), (2, .int v2), (3, .int v3)]) C.1.1 C.1.2.1 dX19_tail_754 hl (k := 1) rfl (by rw [ex6]; rfl) (by decide) rfl (fun ls hl => ?_)
            refine lv_goto (tgt := 714) C.1.1 C.1.2.1 dX19_tail_757 (by decide) ?_
            exact ih714 x6 M L _ _ ls hD hw (lv_sub hl [1, 0] rfl)
          · replace hD := g_neg c5 hD
            refine lv_aload_n C.1.1 C.1.2.1 dX19_tail_736 rfl (lv_at hl 0 rfl) ?_
            refine mr_getR C hw kc_19 78 (by decide) tf_732 hFF wd_2859 dX19_tail_737 (by decide) rfl ?_
            refine lv_iload_n C.1.1 C.1.2.1 dX19_tail_740 rfl (lv_at hl 2 rfl) ?_
            refine lv_iload_n C.1.1 C.1.2.1 dX19_tail_741 rfl (lv_at hl 1 rfl) ?_
            refine lv_iload_n C.1.1 C.1.2.1 dX19_tail_742 rfl (lv_at hl 3 rfl) ?_
            refine lv_iadd C.1.1 C.1.2.1 dX19_tail_743 ?_
            refine lv_i2b C.1.1 C.1.2.1 dX19_tail_744 rfl ?_
            obtain ⟨M7, L8, h1, hD⟩ := g_b2 hD
            refine md_cvV (As := [.int v2, .int ((v1 + v3).toInt8.toInt32)]) (rest := []) C hw (tlX14_keyByte l G (mw_ad G) 1577 F fu v2 ((v1 + v3).toInt8.toInt32) M L h1 (by decide) hFG) kc_14 (by decide) tf_854 wd_2773 cwX14_keyByte ⟨Nat.le_trans (Nat.le_of_ble_eq_true rfl) hRf, Nat.le_trans (Nat.le_of_ble_eq_true rfl) hRl⟩ rfl hl.1 (Nat.le_of_ble_eq_true rfl) dX19_tail_745 rfl rfl hcs rfl (fun H locs hw => ?_)
            obtain ⟨x9, ex9, hD⟩ := g_let hD
            refine lv_iinc (v := x9) (lv' := [(3, .int x9), (0, .ref (mw_ad G 732)), (1, .int v1), (2, .int v2)]) C.1.1 C.1.2.1 dX19_tail_748 hl (k := 3) rfl (by rw [ex9]; rfl) (by decide) rfl (fun ls hl => ?_)
            refine lv_goto (tgt := 730) C.1.1 C.1.2.1 dX19_tail_751 (by decide) ?_
            exact ih730 v1 v2 x9 M7 L8 _ _ ls hD hw (lv_sub hl [1, 2, 3, 0] rfl)
      unfold fX19_tail_i714 at hD
      refine lv_iload_n C.1.1 C.1.2.1 dX19_tail_714 rfl (lv_at hl 1 rfl) ?_
      refine lv_bipush (v := 16) C.1.1 C.1.2.1 dX19_tail_715 (by decide) ?_
      refine lv_icmp_gt (tgt := 760) C.1.1 C.1.2.1 dX19_tail_717 (by decide) (fun c1 => ?_) (fun c1 => ?_)
      · replace hD := g_pos c1 hD
        exact mw_size hw hsz (fun hs => mr_cret C hr hlocks hw hs (congrArg (fun q => (F, q)) (Option.some.inj hD)) dX19_tail_760)
      · replace hD := g_neg c1 hD
        refine lv_aload_n C.1.1 C.1.2.1 dX19_tail_720 rfl (lv_at hl 0 rfl) ?_
        refine mr_getR C hw kc_19 78 (by decide) tf_732 hFF wd_2859 dX19_tail_721 (by decide) rfl ?_
        obtain ⟨r4, M2, L3, h1, hD⟩ := g_b3 hD
        refine md_cvI (As := []) (rest := []) C hw (tlX14_key l G (mw_ad G) 1577 F fu M L h1 (by decide) hFG) kc_14 (by decide) tf_854 wd_2769 cwX14_key ⟨Nat.le_trans (Nat.le_of_ble_eq_true rfl) hRf, Nat.le_trans (Nat.le_of_ble_eq_true rfl) hRl⟩ rfl hl.1 (Nat.le_of_ble_eq_true rfl) dX19_tail_724 rfl rfl hcs rfl (fun H locs hw => ?_)
        refine lv_istore_n (lv' := [(2, .int r4), (0, .ref (mw_ad G 732)), (1, .int v1)]) C.1.1 C.1.2.1 dX19_tail_727 rfl hl (by decide) rfl (fun ls hl => ?_)
        refine lv_iconst (v := 0) C.1.1 C.1.2.1 dX19_tail_728 (by decide) ?_
        refine lv_istore_n (lv' := [(3, .int 0), (2, .int r4), (0, .ref (mw_ad G 732)), (1, .int v1)]) C.1.1 C.1.2.1 dX19_tail_729 rfl hl (by decide) rfl (fun ls hl => ?_)
        exact hh730 fu v1 r4 0 M2 L3 _ _ ls hD hw (lv_sub hl [2, 3, 1, 0] rfl)
  unfold DX19_tail at hD
  refine lv_iconst (v := 1) C.1.1 C.1.2.1 dX19_tail_712 (by decide) ?_
  refine lv_istore_n (lv' := [(1, .int 1), (0, .ref (mw_ad G 732))]) C.1.1 C.1.2.1 dX19_tail_713 rfl hl (by decide) rfl (fun ls hl => ?_)
  exact hh714 fu 1 M L _ _ ls hD hw (lv_sub hl [1, 0] rfl)

theorem dX19_init_0 : decode cX19_init 0 = .ok (.aload_n 0, 1) := by decide +kernel
theorem dX19_init_1 : decode cX19_init 1 = .ok (.invokespecial 1, 3) := by decide +kernel
theorem dX19_init_4 : decode cX19_init 4 = .ok (.aload_n 0, 1) := by decide +kernel
theorem dX19_init_5 : decode cX19_init 5 = .ok (.sipush 6000, 3) := by decide +kernel
theorem dX19_init_8 : decode cX19_init 8 = .ok (.newarray .int, 2) := by decide +kernel
theorem dX19_init_10 : decode cX19_init 10 = .ok (.putfield 7, 3) := by decide +kernel
theorem dX19_init_13 : decode cX19_init 13 = .ok (.aload_n 0, 1) := by decide +kernel
theorem dX19_init_14 : decode cX19_init 14 = .ok (.bipush 70, 2) := by decide +kernel
theorem dX19_init_16 : decode cX19_init 16 = .ok (.newarray .int, 2) := by decide +kernel
theorem dX19_init_18 : decode cX19_init 18 = .ok (.putfield 13, 3) := by decide +kernel
theorem dX19_init_21 : decode cX19_init 21 = .ok (.aload_n 0, 1) := by decide +kernel
theorem dX19_init_22 : decode cX19_init 22 = .ok (.bipush 70, 2) := by decide +kernel
theorem dX19_init_24 : decode cX19_init 24 = .ok (.newarray .int, 2) := by decide +kernel
theorem dX19_init_26 : decode cX19_init 26 = .ok (.putfield 16, 3) := by decide +kernel
theorem dX19_init_29 : decode cX19_init 29 = .ok (.aload_n 0, 1) := by decide +kernel
theorem dX19_init_30 : decode cX19_init 30 = .ok (.bipush 70, 2) := by decide +kernel
theorem dX19_init_32 : decode cX19_init 32 = .ok (.newarray .int, 2) := by decide +kernel
theorem dX19_init_34 : decode cX19_init 34 = .ok (.putfield 19, 3) := by decide +kernel
theorem dX19_init_37 : decode cX19_init 37 = .ok (.aload_n 0, 1) := by decide +kernel
theorem dX19_init_38 : decode cX19_init 38 = .ok (.bipush 70, 2) := by decide +kernel
theorem dX19_init_40 : decode cX19_init 40 = .ok (.newarray .int, 2) := by decide +kernel
theorem dX19_init_42 : decode cX19_init 42 = .ok (.putfield 22, 3) := by decide +kernel
theorem dX19_init_45 : decode cX19_init 45 = .ok (.aload_n 0, 1) := by decide +kernel
theorem dX19_init_46 : decode cX19_init 46 = .ok (.sipush 600, 3) := by decide +kernel
theorem dX19_init_49 : decode cX19_init 49 = .ok (.newarray .int, 2) := by decide +kernel
theorem dX19_init_51 : decode cX19_init 51 = .ok (.putfield 25, 3) := by decide +kernel
theorem dX19_init_54 : decode cX19_init 54 = .ok (.aload_n 0, 1) := by decide +kernel
theorem dX19_init_55 : decode cX19_init 55 = .ok (.sipush 600, 3) := by decide +kernel
theorem dX19_init_58 : decode cX19_init 58 = .ok (.newarray .int, 2) := by decide +kernel
theorem dX19_init_60 : decode cX19_init 60 = .ok (.putfield 28, 3) := by decide +kernel
theorem dX19_init_63 : decode cX19_init 63 = .ok (.aload_n 0, 1) := by decide +kernel
theorem dX19_init_64 : decode cX19_init 64 = .ok (.sipush 600, 3) := by decide +kernel
theorem dX19_init_67 : decode cX19_init 67 = .ok (.newarray .int, 2) := by decide +kernel
theorem dX19_init_69 : decode cX19_init 69 = .ok (.putfield 31, 3) := by decide +kernel
theorem dX19_init_72 : decode cX19_init 72 = .ok (.aload_n 0, 1) := by decide +kernel
theorem dX19_init_73 : decode cX19_init 73 = .ok (.bipush 12, 2) := by decide +kernel
theorem dX19_init_75 : decode cX19_init 75 = .ok (.newarray .int, 2) := by decide +kernel
theorem dX19_init_77 : decode cX19_init 77 = .ok (.putfield 34, 3) := by decide +kernel
theorem dX19_init_80 : decode cX19_init 80 = .ok (.aload_n 0, 1) := by decide +kernel
theorem dX19_init_81 : decode cX19_init 81 = .ok (.bipush 12, 2) := by decide +kernel
theorem dX19_init_83 : decode cX19_init 83 = .ok (.newarray .int, 2) := by decide +kernel
theorem dX19_init_85 : decode cX19_init 85 = .ok (.putfield 37, 3) := by decide +kernel
theorem dX19_init_88 : decode cX19_init 88 = .ok (.aload_n 0, 1) := by decide +kernel
theorem dX19_init_89 : decode cX19_init 89 = .ok (.bipush 12, 2) := by decide +kernel
theorem dX19_init_91 : decode cX19_init 91 = .ok (.newarray .int, 2) := by decide +kernel
theorem dX19_init_93 : decode cX19_init 93 = .ok (.putfield 40, 3) := by decide +kernel
theorem dX19_init_96 : decode cX19_init 96 = .ok (.aload_n 0, 1) := by decide +kernel
theorem dX19_init_97 : decode cX19_init 97 = .ok (.bipush 12, 2) := by decide +kernel
theorem dX19_init_99 : decode cX19_init 99 = .ok (.newarray .int, 2) := by decide +kernel
theorem dX19_init_101 : decode cX19_init 101 = .ok (.putfield 43, 3) := by decide +kernel
theorem dX19_init_104 : decode cX19_init 104 = .ok (.aload_n 0, 1) := by decide +kernel
theorem dX19_init_105 : decode cX19_init 105 = .ok (.bipush 12, 2) := by decide +kernel
theorem dX19_init_107 : decode cX19_init 107 = .ok (.newarray .int, 2) := by decide +kernel
theorem dX19_init_109 : decode cX19_init 109 = .ok (.putfield 46, 3) := by decide +kernel
theorem dX19_init_112 : decode cX19_init 112 = .ok (.aload_n 0, 1) := by decide +kernel
theorem dX19_init_113 : decode cX19_init 113 = .ok (.bipush 12, 2) := by decide +kernel
theorem dX19_init_115 : decode cX19_init 115 = .ok (.newarray .int, 2) := by decide +kernel
theorem dX19_init_117 : decode cX19_init 117 = .ok (.putfield 49, 3) := by decide +kernel
theorem dX19_init_120 : decode cX19_init 120 = .ok (.aload_n 0, 1) := by decide +kernel
theorem dX19_init_121 : decode cX19_init 121 = .ok (.bipush 12, 2) := by decide +kernel
theorem dX19_init_123 : decode cX19_init 123 = .ok (.newarray .int, 2) := by decide +kernel
theorem dX19_init_125 : decode cX19_init 125 = .ok (.putfield 52, 3) := by decide +kernel
theorem dX19_init_128 : decode cX19_init 128 = .ok (.aload_n 0, 1) := by decide +kernel
theorem dX19_init_129 : decode cX19_init 129 = .ok (.bipush 12, 2) := by decide +kernel
theorem dX19_init_131 : decode cX19_init 131 = .ok (.newarray .int, 2) := by decide +kernel
theorem dX19_init_133 : decode cX19_init 133 = .ok (.putfield 55, 3) := by decide +kernel
theorem dX19_init_136 : decode cX19_init 136 = .ok (.aload_n 0, 1) := by decide +kernel
theorem dX19_init_137 : decode cX19_init 137 = .ok (.bipush 12, 2) := by decide +kernel
theorem dX19_init_139 : decode cX19_init 139 = .ok (.newarray .int, 2) := by decide +kernel
theorem dX19_init_141 : decode cX19_init 141 = .ok (.putfield 58, 3) := by decide +kernel
theorem dX19_init_144 : decode cX19_init 144 = .ok (.aload_n 0, 1) := by decide +kernel
theorem dX19_init_145 : decode cX19_init 145 = .ok (.bipush 12, 2) := by decide +kernel
theorem dX19_init_147 : decode cX19_init 147 = .ok (.newarray .int, 2) := by decide +kernel
theorem dX19_init_149 : decode cX19_init 149 = .ok (.putfield 61, 3) := by decide +kernel
theorem dX19_init_152 : decode cX19_init 152 = .ok (.aload_n 0, 1) := by decide +kernel
theorem dX19_init_153 : decode cX19_init 153 = .ok (.bipush 12, 2) := by decide +kernel
theorem dX19_init_155 : decode cX19_init 155 = .ok (.newarray .int, 2) := by decide +kernel
theorem dX19_init_157 : decode cX19_init 157 = .ok (.putfield 64, 3) := by decide +kernel
theorem dX19_init_160 : decode cX19_init 160 = .ok (.aload_n 0, 1) := by decide +kernel
theorem dX19_init_161 : decode cX19_init 161 = .ok (.bipush 12, 2) := by decide +kernel
theorem dX19_init_163 : decode cX19_init 163 = .ok (.newarray .int, 2) := by decide +kernel
theorem dX19_init_165 : decode cX19_init 165 = .ok (.putfield 67, 3) := by decide +kernel
theorem dX19_init_168 : decode cX19_init 168 = .ok (.aload_n 0, 1) := by decide +kernel
theorem dX19_init_169 : decode cX19_init 169 = .ok (.sipush 192, 3) := by decide +kernel
theorem dX19_init_172 : decode cX19_init 172 = .ok (.newarray .int, 2) := by decide +kernel
theorem dX19_init_174 : decode cX19_init 174 = .ok (.putfield 70, 3) := by decide +kernel
theorem dX19_init_177 : decode cX19_init 177 = .ok (.aload_n 0, 1) := by decide +kernel
theorem dX19_init_178 : decode cX19_init 178 = .ok (.bipush 12, 2) := by decide +kernel
theorem dX19_init_180 : decode cX19_init 180 = .ok (.newarray .int, 2) := by decide +kernel
theorem dX19_init_182 : decode cX19_init 182 = .ok (.putfield 73, 3) := by decide +kernel
theorem dX19_init_185 : decode cX19_init 185 = .ok (.aload_n 0, 1) := by decide +kernel
theorem dX19_init_186 : decode cX19_init 186 = .ok (.sipush 2412, 3) := by decide +kernel
theorem dX19_init_189 : decode cX19_init 189 = .ok (.newarray .int, 2) := by decide +kernel
theorem dX19_init_191 : decode cX19_init 191 = .ok (.putfield 76, 3) := by decide +kernel
theorem dX19_init_194 : decode cX19_init 194 = .ok (.aload_n 0, 1) := by decide +kernel
theorem dX19_init_195 : decode cX19_init 195 = .ok (.sipush 2412, 3) := by decide +kernel
theorem dX19_init_198 : decode cX19_init 198 = .ok (.newarray .int, 2) := by decide +kernel
theorem dX19_init_200 : decode cX19_init 200 = .ok (.putfield 79, 3) := by decide +kernel
theorem dX19_init_203 : decode cX19_init 203 = .ok (.aload_n 0, 1) := by decide +kernel
theorem dX19_init_204 : decode cX19_init 204 = .ok (.bipush 12, 2) := by decide +kernel
theorem dX19_init_206 : decode cX19_init 206 = .ok (.newarray .int, 2) := by decide +kernel
theorem dX19_init_208 : decode cX19_init 208 = .ok (.putfield 82, 3) := by decide +kernel
theorem dX19_init_211 : decode cX19_init 211 = .ok (.aload_n 0, 1) := by decide +kernel
theorem dX19_init_212 : decode cX19_init 212 = .ok (.sipush 384, 3) := by decide +kernel
theorem dX19_init_215 : decode cX19_init 215 = .ok (.newarray .int, 2) := by decide +kernel
theorem dX19_init_217 : decode cX19_init 217 = .ok (.putfield 85, 3) := by decide +kernel
theorem dX19_init_220 : decode cX19_init 220 = .ok (.aload_n 0, 1) := by decide +kernel
theorem dX19_init_221 : decode cX19_init 221 = .ok (.sipush 384, 3) := by decide +kernel
theorem dX19_init_224 : decode cX19_init 224 = .ok (.newarray .int, 2) := by decide +kernel
theorem dX19_init_226 : decode cX19_init 226 = .ok (.putfield 88, 3) := by decide +kernel
theorem dX19_init_229 : decode cX19_init 229 = .ok (.aload_n 0, 1) := by decide +kernel
theorem dX19_init_230 : decode cX19_init 230 = .ok (.bipush 40, 2) := by decide +kernel
theorem dX19_init_232 : decode cX19_init 232 = .ok (.newarray .int, 2) := by decide +kernel
theorem dX19_init_234 : decode cX19_init 234 = .ok (.putfield 91, 3) := by decide +kernel
theorem dX19_init_237 : decode cX19_init 237 = .ok (.aload_n 0, 1) := by decide +kernel
theorem dX19_init_238 : decode cX19_init 238 = .ok (.bipush 40, 2) := by decide +kernel
theorem dX19_init_240 : decode cX19_init 240 = .ok (.newarray .int, 2) := by decide +kernel
theorem dX19_init_242 : decode cX19_init 242 = .ok (.putfield 94, 3) := by decide +kernel
theorem dX19_init_245 : decode cX19_init 245 = .ok (.aload_n 0, 1) := by decide +kernel
theorem dX19_init_246 : decode cX19_init 246 = .ok (.bipush 40, 2) := by decide +kernel
theorem dX19_init_248 : decode cX19_init 248 = .ok (.newarray .int, 2) := by decide +kernel
theorem dX19_init_250 : decode cX19_init 250 = .ok (.putfield 97, 3) := by decide +kernel
theorem dX19_init_253 : decode cX19_init 253 = .ok (.aload_n 0, 1) := by decide +kernel
theorem dX19_init_254 : decode cX19_init 254 = .ok (.bipush 40, 2) := by decide +kernel
theorem dX19_init_256 : decode cX19_init 256 = .ok (.newarray .int, 2) := by decide +kernel
theorem dX19_init_258 : decode cX19_init 258 = .ok (.putfield 100, 3) := by decide +kernel
theorem dX19_init_261 : decode cX19_init 261 = .ok (.aload_n 0, 1) := by decide +kernel
theorem dX19_init_262 : decode cX19_init 262 = .ok (.bipush 40, 2) := by decide +kernel
theorem dX19_init_264 : decode cX19_init 264 = .ok (.newarray .int, 2) := by decide +kernel
theorem dX19_init_266 : decode cX19_init 266 = .ok (.putfield 103, 3) := by decide +kernel
theorem dX19_init_269 : decode cX19_init 269 = .ok (.aload_n 0, 1) := by decide +kernel
theorem dX19_init_270 : decode cX19_init 270 = .ok (.bipush 40, 2) := by decide +kernel
theorem dX19_init_272 : decode cX19_init 272 = .ok (.newarray .boolean, 2) := by decide +kernel
theorem dX19_init_274 : decode cX19_init 274 = .ok (.putfield 106, 3) := by decide +kernel
theorem dX19_init_277 : decode cX19_init 277 = .ok (.aload_n 0, 1) := by decide +kernel
theorem dX19_init_278 : decode cX19_init 278 = .ok (.bipush 40, 2) := by decide +kernel
theorem dX19_init_280 : decode cX19_init 280 = .ok (.newarray .int, 2) := by decide +kernel
theorem dX19_init_282 : decode cX19_init 282 = .ok (.putfield 110, 3) := by decide +kernel
theorem dX19_init_285 : decode cX19_init 285 = .ok (.aload_n 0, 1) := by decide +kernel
theorem dX19_init_286 : decode cX19_init 286 = .ok (.bipush 40, 2) := by decide +kernel
theorem dX19_init_288 : decode cX19_init 288 = .ok (.newarray .int, 2) := by decide +kernel
theorem dX19_init_290 : decode cX19_init 290 = .ok (.putfield 113, 3) := by decide +kernel
theorem dX19_init_293 : decode cX19_init 293 = .ok (.aload_n 0, 1) := by decide +kernel
theorem dX19_init_294 : decode cX19_init 294 = .ok (.bipush 40, 2) := by decide +kernel
theorem dX19_init_296 : decode cX19_init 296 = .ok (.newarray .int, 2) := by decide +kernel
theorem dX19_init_298 : decode cX19_init 298 = .ok (.putfield 116, 3) := by decide +kernel
theorem dX19_init_301 : decode cX19_init 301 = .ok (.aload_n 0, 1) := by decide +kernel
theorem dX19_init_302 : decode cX19_init 302 = .ok (.bipush 60, 2) := by decide +kernel
theorem dX19_init_304 : decode cX19_init 304 = .ok (.newarray .int, 2) := by decide +kernel
theorem dX19_init_306 : decode cX19_init 306 = .ok (.putfield 119, 3) := by decide +kernel
theorem dX19_init_309 : decode cX19_init 309 = .ok (.aload_n 0, 1) := by decide +kernel
theorem dX19_init_310 : decode cX19_init 310 = .ok (.bipush 60, 2) := by decide +kernel
theorem dX19_init_312 : decode cX19_init 312 = .ok (.newarray .int, 2) := by decide +kernel
theorem dX19_init_314 : decode cX19_init 314 = .ok (.putfield 122, 3) := by decide +kernel
theorem dX19_init_317 : decode cX19_init 317 = .ok (.aload_n 0, 1) := by decide +kernel
theorem dX19_init_318 : decode cX19_init 318 = .ok (.bipush 60, 2) := by decide +kernel
theorem dX19_init_320 : decode cX19_init 320 = .ok (.newarray .int, 2) := by decide +kernel
theorem dX19_init_322 : decode cX19_init 322 = .ok (.putfield 125, 3) := by decide +kernel
theorem dX19_init_325 : decode cX19_init 325 = .ok (.aload_n 0, 1) := by decide +kernel
theorem dX19_init_326 : decode cX19_init 326 = .ok (.bipush 60, 2) := by decide +kernel
theorem dX19_init_328 : decode cX19_init 328 = .ok (.newarray .int, 2) := by decide +kernel
theorem dX19_init_330 : decode cX19_init 330 = .ok (.putfield 128, 3) := by decide +kernel
theorem dX19_init_333 : decode cX19_init 333 = .ok (.aload_n 0, 1) := by decide +kernel
theorem dX19_init_334 : decode cX19_init 334 = .ok (.bipush 60, 2) := by decide +kernel
theorem dX19_init_336 : decode cX19_init 336 = .ok (.newarray .boolean, 2) := by decide +kernel
theorem dX19_init_338 : decode cX19_init 338 = .ok (.putfield 131, 3) := by decide +kernel
theorem dX19_init_341 : decode cX19_init 341 = .ok (.aload_n 0, 1) := by decide +kernel
theorem dX19_init_342 : decode cX19_init 342 = .ok (.bipush 60, 2) := by decide +kernel
theorem dX19_init_344 : decode cX19_init 344 = .ok (.newarray .long, 2) := by decide +kernel
theorem dX19_init_346 : decode cX19_init 346 = .ok (.putfield 134, 3) := by decide +kernel
theorem dX19_init_349 : decode cX19_init 349 = .ok (.aload_n 0, 1) := by decide +kernel
theorem dX19_init_350 : decode cX19_init 350 = .ok (.bipush 30, 2) := by decide +kernel
theorem dX19_init_352 : decode cX19_init 352 = .ok (.newarray .int, 2) := by decide +kernel
theorem dX19_init_354 : decode cX19_init 354 = .ok (.putfield 138, 3) := by decide +kernel
theorem dX19_init_357 : decode cX19_init 357 = .ok (.aload_n 0, 1) := by decide +kernel
theorem dX19_init_358 : decode cX19_init 358 = .ok (.bipush 30, 2) := by decide +kernel
theorem dX19_init_360 : decode cX19_init 360 = .ok (.newarray .int, 2) := by decide +kernel
theorem dX19_init_362 : decode cX19_init 362 = .ok (.putfield 141, 3) := by decide +kernel
theorem dX19_init_365 : decode cX19_init 365 = .ok (.aload_n 0, 1) := by decide +kernel
theorem dX19_init_366 : decode cX19_init 366 = .ok (.bipush 30, 2) := by decide +kernel
theorem dX19_init_368 : decode cX19_init 368 = .ok (.newarray .int, 2) := by decide +kernel
theorem dX19_init_370 : decode cX19_init 370 = .ok (.putfield 144, 3) := by decide +kernel
theorem dX19_init_373 : decode cX19_init 373 = .ok (.aload_n 0, 1) := by decide +kernel
theorem dX19_init_374 : decode cX19_init 374 = .ok (.bipush 30, 2) := by decide +kernel
theorem dX19_init_376 : decode cX19_init 376 = .ok (.newarray .long, 2) := by decide +kernel
theorem dX19_init_378 : decode cX19_init 378 = .ok (.putfield 147, 3) := by decide +kernel
theorem dX19_init_381 : decode cX19_init 381 = .ok (.aload_n 0, 1) := by decide +kernel
theorem dX19_init_382 : decode cX19_init 382 = .ok (.bipush 40, 2) := by decide +kernel
theorem dX19_init_384 : decode cX19_init 384 = .ok (.newarray .int, 2) := by decide +kernel
theorem dX19_init_386 : decode cX19_init 386 = .ok (.putfield 150, 3) := by decide +kernel
theorem dX19_init_389 : decode cX19_init 389 = .ok (.aload_n 0, 1) := by decide +kernel
theorem dX19_init_390 : decode cX19_init 390 = .ok (.bipush 40, 2) := by decide +kernel
theorem dX19_init_392 : decode cX19_init 392 = .ok (.newarray .int, 2) := by decide +kernel
theorem dX19_init_394 : decode cX19_init 394 = .ok (.putfield 153, 3) := by decide +kernel
theorem dX19_init_397 : decode cX19_init 397 = .ok (.aload_n 0, 1) := by decide +kernel
theorem dX19_init_398 : decode cX19_init 398 = .ok (.bipush 40, 2) := by decide +kernel
theorem dX19_init_400 : decode cX19_init 400 = .ok (.newarray .int, 2) := by decide +kernel
theorem dX19_init_402 : decode cX19_init 402 = .ok (.putfield 156, 3) := by decide +kernel
theorem dX19_init_405 : decode cX19_init 405 = .ok (.aload_n 0, 1) := by decide +kernel
theorem dX19_init_406 : decode cX19_init 406 = .ok (.bipush 40, 2) := by decide +kernel
theorem dX19_init_408 : decode cX19_init 408 = .ok (.newarray .int, 2) := by decide +kernel
theorem dX19_init_410 : decode cX19_init 410 = .ok (.putfield 159, 3) := by decide +kernel
theorem dX19_init_413 : decode cX19_init 413 = .ok (.aload_n 0, 1) := by decide +kernel
theorem dX19_init_414 : decode cX19_init 414 = .ok (.bipush 40, 2) := by decide +kernel
theorem dX19_init_416 : decode cX19_init 416 = .ok (.newarray .int, 2) := by decide +kernel
theorem dX19_init_418 : decode cX19_init 418 = .ok (.putfield 162, 3) := by decide +kernel
theorem dX19_init_421 : decode cX19_init 421 = .ok (.aload_n 0, 1) := by decide +kernel
theorem dX19_init_422 : decode cX19_init 422 = .ok (.bipush 40, 2) := by decide +kernel
theorem dX19_init_424 : decode cX19_init 424 = .ok (.newarray .int, 2) := by decide +kernel
theorem dX19_init_426 : decode cX19_init 426 = .ok (.putfield 165, 3) := by decide +kernel
theorem dX19_init_429 : decode cX19_init 429 = .ok (.aload_n 0, 1) := by decide +kernel
theorem dX19_init_430 : decode cX19_init 430 = .ok (.bipush 40, 2) := by decide +kernel
theorem dX19_init_432 : decode cX19_init 432 = .ok (.newarray .int, 2) := by decide +kernel
theorem dX19_init_434 : decode cX19_init 434 = .ok (.putfield 168, 3) := by decide +kernel
theorem dX19_init_437 : decode cX19_init 437 = .ok (.aload_n 0, 1) := by decide +kernel
theorem dX19_init_438 : decode cX19_init 438 = .ok (.sipush 240, 3) := by decide +kernel
theorem dX19_init_441 : decode cX19_init 441 = .ok (.newarray .long, 2) := by decide +kernel
theorem dX19_init_443 : decode cX19_init 443 = .ok (.putfield 171, 3) := by decide +kernel
theorem dX19_init_446 : decode cX19_init 446 = .ok (.aload_n 0, 1) := by decide +kernel
theorem dX19_init_447 : decode cX19_init 447 = .ok (.new 174, 3) := by decide +kernel
theorem dX19_init_450 : decode cX19_init 450 = .ok (.dup, 1) := by decide +kernel
theorem dX19_init_451 : decode cX19_init 451 = .ok (.invokespecial 176, 3) := by decide +kernel
theorem dX19_init_454 : decode cX19_init 454 = .ok (.putfield 177, 3) := by decide +kernel
theorem dX19_init_457 : decode cX19_init 457 = .ok (.aload_n 0, 1) := by decide +kernel
theorem dX19_init_458 : decode cX19_init 458 = .ok (.new 181, 3) := by decide +kernel
theorem dX19_init_461 : decode cX19_init 461 = .ok (.dup, 1) := by decide +kernel
theorem dX19_init_462 : decode cX19_init 462 = .ok (.invokespecial 183, 3) := by decide +kernel
theorem dX19_init_465 : decode cX19_init 465 = .ok (.putfield 184, 3) := by decide +kernel
theorem dX19_init_468 : decode cX19_init 468 = .ok (.aload_n 0, 1) := by decide +kernel
theorem dX19_init_469 : decode cX19_init 469 = .ok (.new 188, 3) := by decide +kernel
theorem dX19_init_472 : decode cX19_init 472 = .ok (.dup, 1) := by decide +kernel
theorem dX19_init_473 : decode cX19_init 473 = .ok (.invokespecial 190, 3) := by decide +kernel
theorem dX19_init_476 : decode cX19_init 476 = .ok (.putfield 191, 3) := by decide +kernel
theorem dX19_init_479 : decode cX19_init 479 = .ok (.aload_n 0, 1) := by decide +kernel
theorem dX19_init_480 : decode cX19_init 480 = .ok (.new 195, 3) := by decide +kernel
theorem dX19_init_483 : decode cX19_init 483 = .ok (.dup, 1) := by decide +kernel
theorem dX19_init_484 : decode cX19_init 484 = .ok (.invokespecial 197, 3) := by decide +kernel
theorem dX19_init_487 : decode cX19_init 487 = .ok (.putfield 198, 3) := by decide +kernel
theorem dX19_init_490 : decode cX19_init 490 = .ok (.aload_n 0, 1) := by decide +kernel
theorem dX19_init_491 : decode cX19_init 491 = .ok (.new 202, 3) := by decide +kernel
theorem dX19_init_494 : decode cX19_init 494 = .ok (.dup, 1) := by decide +kernel
theorem dX19_init_495 : decode cX19_init 495 = .ok (.invokespecial 204, 3) := by decide +kernel
theorem dX19_init_498 : decode cX19_init 498 = .ok (.putfield 205, 3) := by decide +kernel
theorem dX19_init_501 : decode cX19_init 501 = .ok (.aload_n 0, 1) := by decide +kernel
theorem dX19_init_502 : decode cX19_init 502 = .ok (.bipush 12, 2) := by decide +kernel
theorem dX19_init_504 : decode cX19_init 504 = .ok (.anewarray 209, 3) := by decide +kernel
theorem dX19_init_507 : decode cX19_init 507 = .ok (.putfield 211, 3) := by decide +kernel
theorem dX19_init_510 : decode cX19_init 510 = .ok (.aload_n 0, 1) := by decide +kernel
theorem dX19_init_511 : decode cX19_init 511 = .ok (.bipush 12, 2) := by decide +kernel
theorem dX19_init_513 : decode cX19_init 513 = .ok (.anewarray 215, 3) := by decide +kernel
theorem dX19_init_516 : decode cX19_init 516 = .ok (.putfield 217, 3) := by decide +kernel
theorem dX19_init_519 : decode cX19_init 519 = .ok (.aload_n 0, 1) := by decide +kernel
theorem dX19_init_520 : decode cX19_init 520 = .ok (.bipush 6, 2) := by decide +kernel
theorem dX19_init_522 : decode cX19_init 522 = .ok (.newarray .boolean, 2) := by decide +kernel
theorem dX19_init_524 : decode cX19_init 524 = .ok (.putfield 221, 3) := by decide +kernel
theorem dX19_init_527 : decode cX19_init 527 = .ok (.aload_n 0, 1) := by decide +kernel
theorem dX19_init_528 : decode cX19_init 528 = .ok (.bipush 7, 2) := by decide +kernel
theorem dX19_init_530 : decode cX19_init 530 = .ok (.newarray .int, 2) := by decide +kernel
theorem dX19_init_532 : decode cX19_init 532 = .ok (.putfield 224, 3) := by decide +kernel
theorem dX19_init_535 : decode cX19_init 535 = .ok (.aload_n 0, 1) := by decide +kernel
theorem dX19_init_536 : decode cX19_init 536 = .ok (.bipush 12, 2) := by decide +kernel
theorem dX19_init_538 : decode cX19_init 538 = .ok (.newarray .long, 2) := by decide +kernel
theorem dX19_init_540 : decode cX19_init 540 = .ok (.putfield 227, 3) := by decide +kernel
theorem dX19_init_543 : decode cX19_init 543 = .ok (.aload_n 0, 1) := by decide +kernel
theorem dX19_init_544 : decode cX19_init 544 = .ok (.bipush 8, 2) := by decide +kernel
theorem dX19_init_546 : decode cX19_init 546 = .ok (.newarray .int, 2) := by decide +kernel
theorem dX19_init_548 : decode cX19_init 548 = .ok (.putfield 230, 3) := by decide +kernel
theorem dX19_init_551 : decode cX19_init 551 = .ok (.aload_n 0, 1) := by decide +kernel
theorem dX19_init_552 : decode cX19_init 552 = .ok (.bipush 101, 2) := by decide +kernel
theorem dX19_init_554 : decode cX19_init 554 = .ok (.newarray .int, 2) := by decide +kernel
theorem dX19_init_556 : decode cX19_init 556 = .ok (.putfield 233, 3) := by decide +kernel
theorem dX19_init_559 : decode cX19_init 559 = .ok (.aload_n 0, 1) := by decide +kernel
theorem dX19_init_560 : decode cX19_init 560 = .ok (.bipush 101, 2) := by decide +kernel
theorem dX19_init_562 : decode cX19_init 562 = .ok (.newarray .boolean, 2) := by decide +kernel
theorem dX19_init_564 : decode cX19_init 564 = .ok (.putfield 236, 3) := by decide +kernel
theorem dX19_init_567 : decode cX19_init 567 = .ok (.aload_n 0, 1) := by decide +kernel
theorem dX19_init_568 : decode cX19_init 568 = .ok (.sipush 6001, 3) := by decide +kernel
theorem dX19_init_571 : decode cX19_init 571 = .ok (.newarray .int, 2) := by decide +kernel
theorem dX19_init_573 : decode cX19_init 573 = .ok (.putfield 239, 3) := by decide +kernel
theorem dX19_init_576 : decode cX19_init 576 = .ok (.aload_n 0, 1) := by decide +kernel
theorem dX19_init_577 : decode cX19_init 577 = .ok (.sipush 6001, 3) := by decide +kernel
theorem dX19_init_580 : decode cX19_init 580 = .ok (.newarray .int, 2) := by decide +kernel
theorem dX19_init_582 : decode cX19_init 582 = .ok (.putfield 242, 3) := by decide +kernel
theorem dX19_init_585 : decode cX19_init 585 = .ok (.aload_n 0, 1) := by decide +kernel
theorem dX19_init_586 : decode cX19_init 586 = .ok (.iconst (-1), 1) := by decide +kernel
theorem dX19_init_587 : decode cX19_init 587 = .ok (.putfield 245, 3) := by decide +kernel
theorem dX19_init_590 : decode cX19_init 590 = .ok (.aload_n 0, 1) := by decide +kernel
theorem dX19_init_591 : decode cX19_init 591 = .ok (.sipush 128, 3) := by decide +kernel
theorem dX19_init_594 : decode cX19_init 594 = .ok (.newarray .int, 2) := by decide +kernel
theorem dX19_init_596 : decode cX19_init 596 = .ok (.putfield 249, 3) := by decide +kernel
theorem dX19_init_599 : decode cX19_init 599 = .ok (.aload_n 0, 1) := by decide +kernel
theorem dX19_init_600 : decode cX19_init 600 = .ok (.sipush 128, 3) := by decide +kernel
theorem dX19_init_603 : decode cX19_init 603 = .ok (.newarray .int, 2) := by decide +kernel
theorem dX19_init_605 : decode cX19_init 605 = .ok (.putfield 252, 3) := by decide +kernel
theorem dX19_init_608 : decode cX19_init 608 = .ok (.aload_n 0, 1) := by decide +kernel
theorem dX19_init_609 : decode cX19_init 609 = .ok (.sipush 128, 3) := by decide +kernel
theorem dX19_init_612 : decode cX19_init 612 = .ok (.newarray .int, 2) := by decide +kernel
theorem dX19_init_614 : decode cX19_init 614 = .ok (.putfield 255, 3) := by decide +kernel
theorem dX19_init_617 : decode cX19_init 617 = .ok (.aload_n 0, 1) := by decide +kernel
theorem dX19_init_618 : decode cX19_init 618 = .ok (.bipush 6, 2) := by decide +kernel
theorem dX19_init_620 : decode cX19_init 620 = .ok (.newarray .int, 2) := by decide +kernel
theorem dX19_init_622 : decode cX19_init 622 = .ok (.putfield 258, 3) := by decide +kernel
theorem dX19_init_625 : decode cX19_init 625 = .ok (.aload_n 0, 1) := by decide +kernel
theorem dX19_init_626 : decode cX19_init 626 = .ok (.bipush 6, 2) := by decide +kernel
theorem dX19_init_628 : decode cX19_init 628 = .ok (.newarray .boolean, 2) := by decide +kernel
theorem dX19_init_630 : decode cX19_init 630 = .ok (.putfield 261, 3) := by decide +kernel
theorem dX19_init_633 : decode cX19_init 633 = .ok (.aload_n 0, 1) := by decide +kernel
theorem dX19_init_634 : decode cX19_init 634 = .ok (.bipush 6, 2) := by decide +kernel
theorem dX19_init_636 : decode cX19_init 636 = .ok (.newarray .boolean, 2) := by decide +kernel
theorem dX19_init_638 : decode cX19_init 638 = .ok (.putfield 264, 3) := by decide +kernel
theorem dX19_init_641 : decode cX19_init 641 = .ok (.aload_n 0, 1) := by decide +kernel
theorem dX19_init_642 : decode cX19_init 642 = .ok (.bipush 6, 2) := by decide +kernel
theorem dX19_init_644 : decode cX19_init 644 = .ok (.newarray .int, 2) := by decide +kernel
theorem dX19_init_646 : decode cX19_init 646 = .ok (.putfield 267, 3) := by decide +kernel
theorem dX19_init_649 : decode cX19_init 649 = .ok (.aload_n 0, 1) := by decide +kernel
theorem dX19_init_650 : decode cX19_init 650 = .ok (.bipush 6, 2) := by decide +kernel
theorem dX19_init_652 : decode cX19_init 652 = .ok (.newarray .int, 2) := by decide +kernel
theorem dX19_init_654 : decode cX19_init 654 = .ok (.putfield 270, 3) := by decide +kernel
theorem dX19_init_657 : decode cX19_init 657 = .ok (.aload_n 0, 1) := by decide +kernel
theorem dX19_init_658 : decode cX19_init 658 = .ok (.iconst 5, 1) := by decide +kernel
theorem dX19_init_659 : decode cX19_init 659 = .ok (.newarray .int, 2) := by decide +kernel
theorem dX19_init_661 : decode cX19_init 661 = .ok (.putfield 273, 3) := by decide +kernel
theorem dX19_init_664 : decode cX19_init 664 = .ok (.aload_n 0, 1) := by decide +kernel
theorem dX19_init_665 : decode cX19_init 665 = .ok (.bipush 100, 2) := by decide +kernel
theorem dX19_init_667 : decode cX19_init 667 = .ok (.newarray .int, 2) := by decide +kernel
theorem dX19_init_669 : decode cX19_init 669 = .ok (.putfield 276, 3) := by decide +kernel
theorem dX19_init_672 : decode cX19_init 672 = .ok (.iconst 0, 1) := by decide +kernel
theorem dX19_init_673 : decode cX19_init 673 = .ok (.istore_n 1, 1) := by decide +kernel
theorem dX19_init_674 : decode cX19_init 674 = .ok (.iload_n 1, 1) := by decide +kernel
theorem dX19_init_675 : decode cX19_init 675 = .ok (.bipush 12, 2) := by decide +kernel
theorem dX19_init_677 : decode cX19_init 677 = .ok (.if_icmp .ge 35, 3) := by decide +kernel
theorem dX19_init_680 : decode cX19_init 680 = .ok (.aload_n 0, 1) := by decide +kernel
theorem dX19_init_681 : decode cX19_init 681 = .ok (.getfield 211, 3) := by decide +kernel
theorem dX19_init_684 : decode cX19_init 684 = .ok (.iload_n 1, 1) := by decide +kernel
theorem dX19_init_685 : decode cX19_init 685 = .ok (.new 209, 3) := by decide +kernel
theorem dX19_init_688 : decode cX19_init 688 = .ok (.dup, 1) := by decide +kernel
theorem dX19_init_689 : decode cX19_init 689 = .ok (.invokespecial 279, 3) := by decide +kernel
theorem dX19_init_692 : decode cX19_init 692 = .ok (.aastore, 1) := by decide +kernel
theorem dX19_init_693 : decode cX19_init 693 = .ok (.aload_n 0, 1) := by decide +kernel
theorem dX19_init_694 : decode cX19_init 694 = .ok (.getfield 217, 3) := by decide +kernel
theorem dX19_init_697 : decode cX19_init 697 = .ok (.iload_n 1, 1) := by decide +kernel
theorem dX19_init_698 : decode cX19_init 698 = .ok (.new 215, 3) := by decide +kernel
theorem dX19_init_701 : decode cX19_init 701 = .ok (.dup, 1) := by decide +kernel
theorem dX19_init_702 : decode cX19_init 702 = .ok (.invokespecial 280, 3) := by decide +kernel
theorem dX19_init_705 : decode cX19_init 705 = .ok (.aastore, 1) := by decide +kernel
theorem dX19_init_706 : decode cX19_init 706 = .ok (.iinc 1 1, 3) := by decide +kernel
theorem dX19_init_709 : decode cX19_init 709 = .ok (.goto (-35), 3) := by decide +kernel
theorem dX19_init_712 : decode cX19_init 712 = .ok (.iconst 1, 1) := by decide +kernel
theorem dX19_init_713 : decode cX19_init 713 = .ok (.istore_n 1, 1) := by decide +kernel
theorem dX19_init_714 : decode cX19_init 714 = .ok (.iload_n 1, 1) := by decide +kernel
theorem dX19_init_715 : decode cX19_init 715 = .ok (.bipush 16, 2) := by decide +kernel
theorem dX19_init_717 : decode cX19_init 717 = .ok (.if_icmp .gt 43, 3) := by decide +kernel
theorem dX19_init_720 : decode cX19_init 720 = .ok (.aload_n 0, 1) := by decide +kernel
theorem dX19_init_721 : decode cX19_init 721 = .ok (.getfield 191, 3) := by decide +kernel
theorem dX19_init_724 : decode cX19_init 724 = .ok (.invokevirtual 281, 3) := by decide +kernel
theorem dX19_init_727 : decode cX19_init 727 = .ok (.istore_n 2, 1) := by decide +kernel
theorem dX19_init_728 : decode cX19_init 728 = .ok (.iconst 0, 1) := by decide +kernel
theorem dX19_init_729 : decode cX19_init 729 = .ok (.istore_n 3, 1) := by decide +kernel
theorem dX19_init_730 : decode cX19_init 730 = .ok (.iload_n 3, 1) := by decide +kernel
theorem dX19_init_731 : decode cX19_init 731 = .ok (.bipush 16, 2) := by decide +kernel
theorem dX19_init_733 : decode cX19_init 733 = .ok (.if_icmp .ge 21, 3) := by decide +kernel
theorem dX19_init_736 : decode cX19_init 736 = .ok (.aload_n 0, 1) := by decide +kernel
theorem dX19_init_737 : decode cX19_init 737 = .ok (.getfield 191, 3) := by decide +kernel
theorem dX19_init_740 : decode cX19_init 740 = .ok (.iload_n 2, 1) := by decide +kernel
theorem dX19_init_741 : decode cX19_init 741 = .ok (.iload_n 1, 1) := by decide +kernel
theorem dX19_init_742 : decode cX19_init 742 = .ok (.iload_n 3, 1) := by decide +kernel
theorem dX19_init_743 : decode cX19_init 743 = .ok (.iadd, 1) := by decide +kernel
theorem dX19_init_744 : decode cX19_init 744 = .ok (.i2b, 1) := by decide +kernel
theorem dX19_init_745 : decode cX19_init 745 = .ok (.invokevirtual 285, 3) := by decide +kernel
theorem dX19_init_748 : decode cX19_init 748 = .ok (.iinc 3 1, 3) := by decide +kernel
theorem dX19_init_751 : decode cX19_init 751 = .ok (.goto (-21), 3) := by decide +kernel
theorem dX19_init_754 : decode cX19_init 754 = .ok (.iinc 1 1, 3) := by decide +kernel
theorem dX19_init_757 : decode cX19_init 757 = .ok (.goto (-43), 3) := by decide +kernel
theorem dX19_init_760 : decode cX19_init 760 = .ok (.return_, 1) := by decide +kernel
theorem cwX19_init : mw_cw yX19_init cX19_init 4 none 0 := ⟨wd_13, wd_1946, by decide +kernel⟩
set_option maxRecDepth 100000 in
noncomputable def DX19_s7 (fu : Nat) (F303 : mwF) (M301 : mwM) (L302 : mwL) : Option (mwF × mwM × mwL) :=
  mlet (mz none F303 1388) (fun F304 => mlet (mz 0 M301 1388) (fun M305 => mlet (mz 0 L302 1388) (fun L306 => mb3 (DX13_init fu 1388 F304 M305 L306) (fun F307 M308 L309 => mlet (mset F307 922 ((8 : Int32).toNatClampNeg) (some 1388)) (fun F310 => mlet (mz none F310 1418) (fun F311 => mlet (mz 0 M308 1418) (fun M312 => mlet (mz 0 L309 1418) (fun L313 => mb3 (DX16_init fu 1418 F311 M312 L313) (fun F314 M315 L316 => mlet (mset F314 921 ((9 : Int32).toNatClampNeg) (some 1418)) (fun F317 => mlet (mz none F317 1441) (fun F318 => mlet (mz 0 M315 1441) (fun M319 => mlet (mz 0 L316 1441) (fun L320 => mb3 (DX13_init fu 1441 F318 M319 L320) (fun F321 M322 L323 => mlet (mset F321 922 ((9 : Int32).toNatClampNeg) (some 1441)) (fun F324 => mlet (mz none F324 1471) (fun F325 => mlet (mz 0 M322 1471) (fun M326 => mlet (mz 0 L323 1471) (fun L327 => mb3 (DX16_init fu 1471 F325 M326 L327) (fun F328 M329 L330 => mlet (mset F328 921 ((10 : Int32).toNatClampNeg) (some 1471)) (fun F331 => mlet (mz none F331 1494) (fun F332 => mlet (mz 0 M329 1494) (fun M333 => mlet (mz 0 L330 1494) (fun L334 => mb3 (DX13_init fu 1494 F332 M333 L334) (fun F335 M336 L337 => mlet (mset F335 922 ((10 : Int32).toNatClampNeg) (some 1494)) (fun F338 => mlet (mz none F338 1524) (fun F339 => mlet (mz 0 M336 1524) (fun M340 => mlet (mz 0 L337 1524) (fun L341 => mb3 (DX16_init fu 1524 F339 M340 L341) (fun F342 M343 L344 => mlet (mset F342 921 ((11 : Int32).toNatClampNeg) (some 1524)) (fun F345 => mlet (mz none F345 1547) (fun F346 => mlet (mz 0 M343 1547) (fun M347 => mlet (mz 0 L344 1547) (fun L348 => mb3 (DX13_init fu 1547 F346 M347 L348) (fun F349 M350 L351 => mlet (mset F349 922 ((11 : Int32).toNatClampNeg) (some 1547)) (fun F352 => mb2 (DX19_tail fu M350 L351) (fun M353 L354 => some (F352, M353, L354)))))))))))))))))))))))))))))))))))))
set_option maxRecDepth 100000 in
noncomputable def DX19_s6 (fu : Nat) (F240 : mwF) (M238 : mwM) (L239 : mwL) : Option (mwF × mwM × mwL) :=
  mlet (mz none F240 1153) (fun F241 => mlet (mz 0 M238 1153) (fun M242 => mlet (mz 0 L239 1153) (fun L243 => mb3 (DX16_init fu 1153 F241 M242 L243) (fun F244 M245 L246 => mlet (mset F244 921 ((4 : Int32).toNatClampNeg) (some 1153)) (fun F247 => mlet (mz none F247 1176) (fun F248 => mlet (mz 0 M245 1176) (fun M249 => mlet (mz 0 L246 1176) (fun L250 => mb3 (DX13_init fu 1176 F248 M249 L250) (fun F251 M252 L253 => mlet (mset F251 922 ((4 : Int32).toNatClampNeg) (some 1176)) (fun F254 => mlet (mz none F254 1206) (fun F255 => mlet (mz 0 M252 1206) (fun M256 => mlet (mz 0 L253 1206) (fun L257 => mb3 (DX16_init fu 1206 F255 M256 L257) (fun F258 M259 L260 => mlet (mset F258 921 ((5 : Int32).toNatClampNeg) (some 1206)) (fun F261 => mlet (mz none F261 1229) (fun F262 => mlet (mz 0 M259 1229) (fun M263 => mlet (mz 0 L260 1229) (fun L264 => mb3 (DX13_init fu 1229 F262 M263 L264) (fun F265 M266 L267 => mlet (mset F265 922 ((5 : Int32).toNatClampNeg) (some 1229)) (fun F268 => mlet (mz none F268 1259) (fun F269 => mlet (mz 0 M266 1259) (fun M270 => mlet (mz 0 L267 1259) (fun L271 => mb3 (DX16_init fu 1259 F269 M270 L271) (fun F272 M273 L274 => mlet (mset F272 921 ((6 : Int32).toNatClampNeg) (some 1259)) (fun F275 => mlet (mz none F275 1282) (fun F276 => mlet (mz 0 M273 1282) (fun M277 => mlet (mz 0 L274 1282) (fun L278 => mb3 (DX13_init fu 1282 F276 M277 L278) (fun F279 M280 L281 => mlet (mset F279 922 ((6 : Int32).toNatClampNeg) (some 1282)) (fun F282 => mlet (mz none F282 1312) (fun F283 => mlet (mz 0 M280 1312) (fun M284 => mlet (mz 0 L281 1312) (fun L285 => mb3 (DX16_init fu 1312 F283 M284 L285) (fun F286 M287 L288 => mlet (mset F286 921 ((7 : Int32).toNatClampNeg) (some 1312)) (fun F289 => mlet (mz none F289 1335) (fun F290 => mlet (mz 0 M287 1335) (fun M291 => mlet (mz 0 L288 1335) (fun L292 => mb3 (DX13_init fu 1335 F290 M291 L292) (fun F293 M294 L295 => mlet (mset F293 922 ((7 : Int32).toNatClampNeg) (some 1335)) (fun F296 => mlet (mz none F296 1365) (fun F297 => mlet (mz 0 M294 1365) (fun M298 => mlet (mz 0 L295 1365) (fun L299 => mb3 (DX16_init fu 1365 F297 M298 L299) (fun F300 M301 L302 => mlet (mset F300 921 ((8 : Int32).toNatClampNeg) (some 1365)) (fun F303 => DX19_s7 fu F303 M301 L302)))))))))))))))))))))))))))))))))))))))))))))
set_option maxRecDepth 100000 in
noncomputable def DX19_s5 (fu : Nat) (F180 : mwF) (M179 : mwM) (L152 : mwL) : Option (mwF × mwM × mwL) :=
  mlet (mz 0 M179 939) (fun M181 => mlet (mset F180 732 109 (some 939)) (fun F182 => mlet (mz 0 M181 940) (fun M183 => mlet (mset F182 732 111 (some 940)) (fun F184 => mlet (mz none F184 941) (fun F185 => mlet (mz 0 M183 941) (fun M186 => mlet (mz 0 L152 941) (fun L187 => mb3 (DX16_init fu 941 F185 M186 L187) (fun F188 M189 L190 => mlet (mset F188 921 ((0 : Int32).toNatClampNeg) (some 941)) (fun F191 => mlet (mz none F191 964) (fun F192 => mlet (mz 0 M189 964) (fun M193 => mlet (mz 0 L190 964) (fun L194 => mb3 (DX13_init fu 964 F192 M193 L194) (fun F195 M196 L197 => mlet (mset F195 922 ((0 : Int32).toNatClampNeg) (some 964)) (fun F198 => mlet (mz none F198 994) (fun F199 => mlet (mz 0 M196 994) (fun M200 => mlet (mz 0 L197 994) (fun L201 => mb3 (DX16_init fu 994 F199 M200 L201) (fun F202 M203 L204 => mlet (mset F202 921 ((1 : Int32).toNatClampNeg) (some 994)) (fun F205 => mlet (mz none F205 1017) (fun F206 => mlet (mz 0 M203 1017) (fun M207 => mlet (mz 0 L204 1017) (fun L208 => mb3 (DX13_init fu 1017 F206 M207 L208) (fun F209 M210 L211 => mlet (mset F209 922 ((1 : Int32).toNatClampNeg) (some 1017)) (fun F212 => mlet (mz none F212 1047) (fun F213 => mlet (mz 0 M210 1047) (fun M214 => mlet (mz 0 L211 1047) (fun L215 => mb3 (DX16_init fu 1047 F213 M214 L215) (fun F216 M217 L218 => mlet (mset F216 921 ((2 : Int32).toNatClampNeg) (some 1047)) (fun F219 => mlet (mz none F219 1070) (fun F220 => mlet (mz 0 M217 1070) (fun M221 => mlet (mz 0 L218 1070) (fun L222 => mb3 (DX13_init fu 1070 F220 M221 L222) (fun F223 M224 L225 => mlet (mset F223 922 ((2 : Int32).toNatClampNeg) (some 1070)) (fun F226 => mlet (mz none F226 1100) (fun F227 => mlet (mz 0 M224 1100) (fun M228 => mlet (mz 0 L225 1100) (fun L229 => mb3 (DX16_init fu 1100 F227 M228 L229) (fun F230 M231 L232 => mlet (mset F230 921 ((3 : Int32).toNatClampNeg) (some 1100)) (fun F233 => mlet (mz none F233 1123) (fun F234 => mlet (mz 0 M231 1123) (fun M235 => mlet (mz 0 L232 1123) (fun L236 => mb3 (DX13_init fu 1123 F234 M235 L236) (fun F237 M238 L239 => mlet (mset F237 922 ((3 : Int32).toNatClampNeg) (some 1123)) (fun F240 => DX19_s6 fu F240 M238 L239))))))))))))))))))))))))))))))))))))))))))))
set_option maxRecDepth 100000 in
noncomputable def DX19_s4 (fu : Nat) (F136 : mwF) (M134 : mwM) (L135 : mwL) : Option (mwF × mwM × mwL) :=
  mlet (mz none F136 902) (fun F137 => mlet (mz 0 M134 902) (fun M138 => mlet (mz 0 L135 902) (fun L139 => mb3 (DX18_init fu F137 M138 L139) (fun F140 M141 L142 => mlet (mset F140 732 80 (some 902)) (fun F143 => mlet (mz none F143 921) (fun F144 => mlet (mset F144 732 81 (some 921)) (fun F145 => mlet (mz none F145 922) (fun F146 => mlet (mset F146 732 82 (some 922)) (fun F147 => mlet (mz 0 M141 923) (fun M148 => mlet (mset F147 732 84 (some 923)) (fun F149 => mlet (mz 0 M148 924) (fun M150 => mlet (mset F149 732 85 (some 924)) (fun F151 => mlet (mz 0 L142 925) (fun L152 => mlet (mset F151 732 86 (some 925)) (fun F153 => mlet (mz 0 M150 926) (fun M154 => mlet (mset F153 732 87 (some 926)) (fun F155 => mlet (mz 0 M154 927) (fun M156 => mlet (mset F155 732 89 (some 927)) (fun F157 => mlet (mz 0 M156 928) (fun M158 => mlet (mset F157 732 90 (some 928)) (fun F159 => mlet (mz 0 M158 929) (fun M160 => mlet (mset F159 732 92 (some 929)) (fun F161 => mlet (mz 0 M160 930) (fun M162 => mlet (mset F161 732 93 (some 930)) (fun F163 => mlet (mset M162 732 97 (-1)) (fun M164 => mlet (mz 0 M164 931) (fun M165 => mlet (mset F163 732 99 (some 931)) (fun F166 => mlet (mz 0 M165 932) (fun M167 => mlet (mset F166 732 100 (some 932)) (fun F168 => mlet (mz 0 M167 933) (fun M169 => mlet (mset F168 732 101 (some 933)) (fun F170 => mlet (mz 0 M169 934) (fun M171 => mlet (mset F170 732 103 (some 934)) (fun F172 => mlet (mz 0 M171 935) (fun M173 => mlet (mset F172 732 104 (some 935)) (fun F174 => mlet (mz 0 M173 936) (fun M175 => mlet (mset F174 732 105 (some 936)) (fun F176 => mlet (mz 0 M175 937) (fun M177 => mlet (mset F176 732 106 (some 937)) (fun F178 => mlet (mz 0 M177 938) (fun M179 => mlet (mset F178 732 107 (some 938)) (fun F180 => DX19_s5 fu F180 M179 L152))))))))))))))))))))))))))))))))))))))))))
set_option maxRecDepth 100000 in
noncomputable def DX19_s3 (fu : Nat) (F82 : mwF) (M81 : mwM) (L : mwL) : Option (mwF × mwM × mwL) :=
  mlet (mz 0 L 774) (fun L83 => mlet (mset F82 732 61 (some 774)) (fun F84 => mlet (mz 0 M81 775) (fun M85 => mlet (mset F84 732 63 (some 775)) (fun F86 => mlet (mz 0 M85 776) (fun M87 => mlet (mset F86 732 64 (some 776)) (fun F88 => mlet (mz 0 M87 777) (fun M89 => mlet (mset F88 732 65 (some 777)) (fun F90 => mlet (mz 0 L83 778) (fun L91 => mlet (mset F90 732 66 (some 778)) (fun F92 => mlet (mz 0 M89 779) (fun M93 => mlet (mset F92 732 68 (some 779)) (fun F94 => mlet (mz 0 M93 780) (fun M95 => mlet (mset F94 732 69 (some 780)) (fun F96 => mlet (mz 0 M95 781) (fun M97 => mlet (mset F96 732 70 (some 781)) (fun F98 => mlet (mz 0 M97 782) (fun M99 => mlet (mset F98 732 71 (some 782)) (fun F100 => mlet (mz 0 M99 783) (fun M101 => mlet (mset F100 732 72 (some 783)) (fun F102 => mlet (mz 0 M101 784) (fun M103 => mlet (mset F102 732 73 (some 784)) (fun F104 => mlet (mz 0 M103 785) (fun M105 => mlet (mset F104 732 74 (some 785)) (fun F106 => mlet (mz 0 L91 786) (fun L107 => mlet (mset F106 732 75 (some 786)) (fun F108 => mlet (mz none F108 787) (fun F109 => mlet (mz 0 M105 787) (fun M110 => mlet (mz 0 L107 787) (fun L111 => mb3 (DX15_init fu F109 M110 L111) (fun F112 M113 L114 => mlet (mset F112 732 76 (some 787)) (fun F115 => mlet (mz none F115 821) (fun F116 => mlet (mz 0 M113 821) (fun M117 => mlet (mz 0 L114 821) (fun L118 => mb3 (DX12_init fu F116 M117 L118) (fun F119 M120 L121 => mlet (mset F119 732 77 (some 821)) (fun F122 => mlet (mz none F122 854) (fun F123 => mlet (mz 0 M120 854) (fun M124 => mlet (mz 0 L121 854) (fun L125 => mb3 (DX14_init fu F123 M124 L125) (fun F126 M127 L128 => mlet (mset F126 732 78 (some 854)) (fun F129 => mlet (mz none F129 869) (fun F130 => mlet (mz 0 M127 869) (fun M131 => mlet (mz 0 L128 869) (fun L132 => mb3 (DX17_init fu F130 M131 L132) (fun F133 M134 L135 => mlet (mset F133 732 79 (some 869)) (fun F136 => DX19_s4 fu F136 M134 L135))))))))))))))))))))))))))))))))))))))))))))))
set_option maxRecDepth 100000 in
noncomputable def DX19_s2 (fu : Nat) (F40 : mwF) (M39 : mwM) (L : mwL) : Option (mwF × mwM × mwL) :=
  mlet (mz 0 M39 753) (fun M41 => mlet (mset F40 732 38 (some 753)) (fun F42 => mlet (mz 0 M41 754) (fun M43 => mlet (mset F42 732 39 (some 754)) (fun F44 => mlet (mz 0 M43 755) (fun M45 => mlet (mset F44 732 40 (some 755)) (fun F46 => mlet (mz 0 M45 756) (fun M47 => mlet (mset F46 732 41 (some 756)) (fun F48 => mlet (mz 0 M47 757) (fun M49 => mlet (mset F48 732 42 (some 757)) (fun F50 => mlet (mz 0 M49 758) (fun M51 => mlet (mset F50 732 43 (some 758)) (fun F52 => mlet (mz 0 M51 759) (fun M53 => mlet (mset F52 732 44 (some 759)) (fun F54 => mlet (mz 0 M53 760) (fun M55 => mlet (mset F54 732 46 (some 760)) (fun F56 => mlet (mz 0 M55 761) (fun M57 => mlet (mset F56 732 47 (some 761)) (fun F58 => mlet (mz 0 M57 762) (fun M59 => mlet (mset F58 732 48 (some 762)) (fun F60 => mlet (mz 0 M59 763) (fun M61 => mlet (mset F60 732 49 (some 763)) (fun F62 => mlet (mz 0 M61 764) (fun M63 => mlet (mset F62 732 50 (some 764)) (fun F64 => mlet (mz 0 M63 765) (fun M65 => mlet (mset F64 732 51 (some 765)) (fun F66 => mlet (mz 0 M65 766) (fun M67 => mlet (mset F66 732 52 (some 766)) (fun F68 => mlet (mz 0 M67 767) (fun M69 => mlet (mset F68 732 53 (some 767)) (fun F70 => mlet (mz 0 M69 768) (fun M71 => mlet (mset F70 732 54 (some 768)) (fun F72 => mlet (mz 0 M71 769) (fun M73 => mlet (mset F72 732 56 (some 769)) (fun F74 => mlet (mz 0 M73 770) (fun M75 => mlet (mset F74 732 57 (some 770)) (fun F76 => mlet (mz 0 M75 771) (fun M77 => mlet (mset F76 732 58 (some 771)) (fun F78 => mlet (mz 0 M77 772) (fun M79 => mlet (mset F78 732 59 (some 772)) (fun F80 => mlet (mz 0 M79 773) (fun M81 => mlet (mset F80 732 60 (some 773)) (fun F82 => DX19_s3 fu F82 M81 L))))))))))))))))))))))))))))))))))))))))))
set_option maxRecDepth 100000 in
noncomputable def DX19_init (fu : Nat) (F : mwF) (M : mwM) (L : mwL) : Option (mwF × mwM × mwL) :=
  mlet (mz 0 M 733) (fun M1 => mlet (mset F 732 1 (some 733)) (fun F2 => mlet (mz 0 M1 734) (fun M3 => mlet (mset F2 732 15 (some 734)) (fun F4 => mlet (mz 0 M3 735) (fun M5 => mlet (mset F4 732 16 (some 735)) (fun F6 => mlet (mz 0 M5 736) (fun M7 => mlet (mset F6 732 17 (some 736)) (fun F8 => mlet (mz 0 M7 737) (fun M9 => mlet (mset F8 732 18 (some 737)) (fun F10 => mlet (mz 0 M9 738) (fun M11 => mlet (mset F10 732 21 (some 738)) (fun F12 => mlet (mz 0 M11 739) (fun M13 => mlet (mset F12 732 22 (some 739)) (fun F14 => mlet (mz 0 M13 740) (fun M15 => mlet (mset F14 732 23 (some 740)) (fun F16 => mlet (mz 0 M15 741) (fun M17 => mlet (mset F16 732 25 (some 741)) (fun F18 => mlet (mz 0 M17 742) (fun M19 => mlet (mset F18 732 26 (some 742)) (fun F20 => mlet (mz 0 M19 743) (fun M21 => mlet (mset F20 732 27 (some 743)) (fun F22 => mlet (mz 0 M21 744) (fun M23 => mlet (mset F22 732 28 (some 744)) (fun F24 => mlet (mz 0 M23 745) (fun M25 => mlet (mset F24 732 29 (some 745)) (fun F26 => mlet (mz 0 M25 746) (fun M27 => mlet (mset F26 732 30 (some 746)) (fun F28 => mlet (mz 0 M27 747) (fun M29 => mlet (mset F28 732 31 (some 747)) (fun F30 => mlet (mz 0 M29 748) (fun M31 => mlet (mset F30 732 32 (some 748)) (fun F32 => mlet (mz 0 M31 749) (fun M33 => mlet (mset F32 732 34 (some 749)) (fun F34 => mlet (mz 0 M33 750) (fun M35 => mlet (mset F34 732 35 (some 750)) (fun F36 => mlet (mz 0 M35 751) (fun M37 => mlet (mset F36 732 36 (some 751)) (fun F38 => mlet (mz 0 M37 752) (fun M39 => mlet (mset F38 732 37 (some 752)) (fun F40 => DX19_s2 fu F40 M39 L))))))))))))))))))))))))))))))))))))))))
set_option maxHeartbeats 8000000 in
set_option maxRecDepth 100000 in
theorem kX19_init {fu : Nat} {F : mwF} {M : mwM} {L : mwL} {FZ : mwF} {MZ : mwM} {LZ : mwL} (hD : DX19_init fu F M L = some (FZ, MZ, LZ)) : ∀ a j, (a < 732 ∨ 1577 ≤ a) → FZ a j = F a j := by
  intro a j ha
  unfold DX19_init DX19_s2 DX19_s3 DX19_s4 DX19_s5 DX19_s6 DX19_s7 at hD
  obtain ⟨M1, eM1, hD⟩ := g_let hD
  obtain ⟨F2, eF2, hD⟩ := g_let hD
  obtain ⟨M3, eM3, hD⟩ := g_let hD
  obtain ⟨F4, eF4, hD⟩ := g_let hD
  obtain ⟨M5, eM5, hD⟩ := g_let hD
  obtain ⟨F6, eF6, hD⟩ := g_let hD
  obtain ⟨M7, eM7, hD⟩ := g_let hD
  obtain ⟨F8, eF8, hD⟩ := g_let hD
  obtain ⟨M9, eM9, hD⟩ := g_let hD
  obtain ⟨F10, eF10, hD⟩ := g_let hD
  obtain ⟨M11, eM11, hD⟩ := g_let hD
  obtain ⟨F12, eF12, hD⟩ := g_let hD
  obtain ⟨M13, eM13, hD⟩ := g_let hD
  obtain ⟨F14, eF14, hD⟩ := g_let hD
  obtain ⟨M15, eM15, hD⟩ := g_let hD
  obtain ⟨F16, eF16, hD⟩ := g_let hD
  obtain ⟨M17, eM17, hD⟩ := g_let hD
  obtain ⟨F18, eF18, hD⟩ := g_let hD
  obtain ⟨M19, eM19, hD⟩ := g_let hD
  obtain ⟨F20, eF20, hD⟩ := g_let hD
  obtain ⟨M21, eM21, hD⟩ := g_let hD
  obtain ⟨F22, eF22, hD⟩ := g_let hD
  obtain ⟨M23, eM23, hD⟩ := g_let hD
  obtain ⟨F24, eF24, hD⟩ := g_let hD
  obtain ⟨M25, eM25, hD⟩ := g_let hD
  obtain ⟨F26, eF26, hD⟩ := g_let hD
  obtain ⟨M27, eM27, hD⟩ := g_let hD
  obtain ⟨F28, eF28, hD⟩ := g_let hD
  obtain ⟨M29, eM29, hD⟩ := g_let hD
  obtain ⟨F30, eF30, hD⟩ := g_let hD
  obtain ⟨M31, eM31, hD⟩ := g_let hD
  obtain ⟨F32, eF32, hD⟩ := g_let hD
  obtain ⟨M33, eM33, hD⟩ := g_let hD
  obtain ⟨F34, eF34, hD⟩ := g_let hD
  obtain ⟨M35, eM35, hD⟩ := g_let hD
  obtain ⟨F36, eF36, hD⟩ := g_let hD
  obtain ⟨M37, eM37, hD⟩ := g_let hD
  obtain ⟨F38, eF38, hD⟩ := g_let hD
  obtain ⟨M39, eM39, hD⟩ := g_let hD
  obtain ⟨F40, eF40, hD⟩ := g_let hD
  obtain ⟨M41, eM41, hD⟩ := g_let hD
  obtain ⟨F42, eF42, hD⟩ := g_let hD
  obtain ⟨M43, eM43, hD⟩ := g_let hD
  obtain ⟨F44, eF44, hD⟩ := g_let hD
  obtain ⟨M45, eM45, hD⟩ := g_let hD
  obtain ⟨F46, eF46, hD⟩ := g_let hD
  obtain ⟨M47, eM47, hD⟩ := g_let hD
  obtain ⟨F48, eF48, hD⟩ := g_let hD
  obtain ⟨M49, eM49, hD⟩ := g_let hD
  obtain ⟨F50, eF50, hD⟩ := g_let hD
  obtain ⟨M51, eM51, hD⟩ := g_let hD
  obtain ⟨F52, eF52, hD⟩ := g_let hD
  obtain ⟨M53, eM53, hD⟩ := g_let hD
  obtain ⟨F54, eF54, hD⟩ := g_let hD
  obtain ⟨M55, eM55, hD⟩ := g_let hD
  obtain ⟨F56, eF56, hD⟩ := g_let hD
  obtain ⟨M57, eM57, hD⟩ := g_let hD
  obtain ⟨F58, eF58, hD⟩ := g_let hD
  obtain ⟨M59, eM59, hD⟩ := g_let hD
  obtain ⟨F60, eF60, hD⟩ := g_let hD
  obtain ⟨M61, eM61, hD⟩ := g_let hD
  obtain ⟨F62, eF62, hD⟩ := g_let hD
  obtain ⟨M63, eM63, hD⟩ := g_let hD
  obtain ⟨F64, eF64, hD⟩ := g_let hD
  obtain ⟨M65, eM65, hD⟩ := g_let hD
  obtain ⟨F66, eF66, hD⟩ := g_let hD
  obtain ⟨M67, eM67, hD⟩ := g_let hD
  obtain ⟨F68, eF68, hD⟩ := g_let hD
  obtain ⟨M69, eM69, hD⟩ := g_let hD
  obtain ⟨F70, eF70, hD⟩ := g_let hD
  obtain ⟨M71, eM71, hD⟩ := g_let hD
  obtain ⟨F72, eF72, hD⟩ := g_let hD
  obtain ⟨M73, eM73, hD⟩ := g_let hD
  obtain ⟨F74, eF74, hD⟩ := g_let hD
  obtain ⟨M75, eM75, hD⟩ := g_let hD
  obtain ⟨F76, eF76, hD⟩ := g_let hD
  obtain ⟨M77, eM77, hD⟩ := g_let hD
  obtain ⟨F78, eF78, hD⟩ := g_let hD
  obtain ⟨M79, eM79, hD⟩ := g_let hD
  obtain ⟨F80, eF80, hD⟩ := g_let hD
  obtain ⟨M81, eM81, hD⟩ := g_let hD
  obtain ⟨F82, eF82, hD⟩ := g_let hD
  obtain ⟨L83, eL83, hD⟩ := g_let hD
  obtain ⟨F84, eF84, hD⟩ := g_let hD
  obtain ⟨M85, eM85, hD⟩ := g_let hD
  obtain ⟨F86, eF86, hD⟩ := g_let hD
  obtain ⟨M87, eM87, hD⟩ := g_let hD
  obtain ⟨F88, eF88, hD⟩ := g_let hD
  obtain ⟨M89, eM89, hD⟩ := g_let hD
  obtain ⟨F90, eF90, hD⟩ := g_let hD
  obtain ⟨L91, eL91, hD⟩ := g_let hD
  obtain ⟨F92, eF92, hD⟩ := g_let hD
  obtain ⟨M93, eM93, hD⟩ := g_let hD
  obtain ⟨F94, eF94, hD⟩ := g_let hD
  obtain ⟨M95, eM95, hD⟩ := g_let hD
  obtain ⟨F96, eF96, hD⟩ := g_let hD
  obtain ⟨M97, eM97, hD⟩ := g_let hD
  obtain ⟨F98, eF98, hD⟩ := g_let hD
  obtain ⟨M99, eM99, hD⟩ := g_let hD
  obtain ⟨F100, eF100, hD⟩ := g_let hD
  obtain ⟨M101, eM101, hD⟩ := g_let hD
  obtain ⟨F102, eF102, hD⟩ := g_let hD
  obtain ⟨M103, eM103, hD⟩ := g_let hD
  obtain ⟨F104, eF104, hD⟩ := g_let hD
  obtain ⟨M105, eM105, hD⟩ := g_let hD
  obtain ⟨F106, eF106, hD⟩ := g_let hD
  obtain ⟨L107, eL107, hD⟩ := g_let hD
  obtain ⟨F108, eF108, hD⟩ := g_let hD
  obtain ⟨F109, eF109, hD⟩ := g_let hD
  obtain ⟨M110, eM110, hD⟩ := g_let hD
  obtain ⟨L111, eL111, hD⟩ := g_let hD
  obtain ⟨F112, M113, L114, hc112, hD⟩ := g_b3 hD
  have eF112 : ∀ a j, (a < 787 ∨ 821 ≤ a) → F112 a j = F109 a j := fun a j ha => kX15_init hc112 a j (by omega)
  obtain ⟨F115, eF115, hD⟩ := g_let hD
  obtain ⟨F116, eF116, hD⟩ := g_let hD
  obtain ⟨M117, eM117, hD⟩ := g_let hD
  obtain ⟨L118, eL118, hD⟩ := g_let hD
  obtain ⟨F119, M120, L121, hc119, hD⟩ := g_b3 hD
  have eF119 : ∀ a j, (a < 821 ∨ 854 ≤ a) → F119 a j = F116 a j := fun a j ha => kX12_init hc119 a j (by omega)
  obtain ⟨F122, eF122, hD⟩ := g_let hD
  obtain ⟨F123, eF123, hD⟩ := g_let hD
  obtain ⟨M124, eM124, hD⟩ := g_let hD
  obtain ⟨L125, eL125, hD⟩ := g_let hD
  obtain ⟨F126, M127, L128, hc126, hD⟩ := g_b3 hD
  have eF126 : ∀ a j, (a < 854 ∨ 869 ≤ a) → F126 a j = F123 a j := fun a j ha => kX14_init hc126 a j (by omega)
  obtain ⟨F129, eF129, hD⟩ := g_let hD
  obtain ⟨F130, eF130, hD⟩ := g_let hD
  obtain ⟨M131, eM131, hD⟩ := g_let hD
  obtain ⟨L132, eL132, hD⟩ := g_let hD
  obtain ⟨F133, M134, L135, hc133, hD⟩ := g_b3 hD
  have eF133 : ∀ a j, (a < 869 ∨ 902 ≤ a) → F133 a j = F130 a j := fun a j ha => kX17_init hc133 a j (by omega)
  obtain ⟨F136, eF136, hD⟩ := g_let hD
  obtain ⟨F137, eF137, hD⟩ := g_let hD
  obtain ⟨M138, eM138, hD⟩ := g_let hD
  obtain ⟨L139, eL139, hD⟩ := g_let hD
  obtain ⟨F140, M141, L142, hc140, hD⟩ := g_b3 hD
  have eF140 : ∀ a j, (a < 902 ∨ 921 ≤ a) → F140 a j = F137 a j := fun a j ha => kX18_init hc140 a j (by omega)
  obtain ⟨F143, eF143, hD⟩ := g_let hD
  obtain ⟨F144, eF144, hD⟩ := g_let hD
  obtain ⟨F145, eF145, hD⟩ := g_let hD
  obtain ⟨F146, eF146, hD⟩ := g_let hD
  obtain ⟨F147, eF147, hD⟩ := g_let hD
  obtain ⟨M148, eM148, hD⟩ := g_let hD
  obtain ⟨F149, eF149, hD⟩ := g_let hD
  obtain ⟨M150, eM150, hD⟩ := g_let hD
  obtain ⟨F151, eF151, hD⟩ := g_let hD
  obtain ⟨L152, eL152, hD⟩ := g_let hD
  obtain ⟨F153, eF153, hD⟩ := g_let hD
  obtain ⟨M154, eM154, hD⟩ := g_let hD
  obtain ⟨F155, eF155, hD⟩ := g_let hD
  obtain ⟨M156, eM156, hD⟩ := g_let hD
  obtain ⟨F157, eF157, hD⟩ := g_let hD
  obtain ⟨M158, eM158, hD⟩ := g_let hD
  obtain ⟨F159, eF159, hD⟩ := g_let hD
  obtain ⟨M160, eM160, hD⟩ := g_let hD
  obtain ⟨F161, eF161, hD⟩ := g_let hD
  obtain ⟨M162, eM162, hD⟩ := g_let hD
  obtain ⟨F163, eF163, hD⟩ := g_let hD
  obtain ⟨M164, eM164, hD⟩ := g_let hD
  obtain ⟨M165, eM165, hD⟩ := g_let hD
  obtain ⟨F166, eF166, hD⟩ := g_let hD
  obtain ⟨M167, eM167, hD⟩ := g_let hD
  obtain ⟨F168, eF168, hD⟩ := g_let hD
  obtain ⟨M169, eM169, hD⟩ := g_let hD
  obtain ⟨F170, eF170, hD⟩ := g_let hD
  obtain ⟨M171, eM171, hD⟩ := g_let hD
  obtain ⟨F172, eF172, hD⟩ := g_let hD
  obtain ⟨M173, eM173, hD⟩ := g_let hD
  obtain ⟨F174, eF174, hD⟩ := g_let hD
  obtain ⟨M175, eM175, hD⟩ := g_let hD
  obtain ⟨F176, eF176, hD⟩ := g_let hD
  obtain ⟨M177, eM177, hD⟩ := g_let hD
  obtain ⟨F178, eF178, hD⟩ := g_let hD
  obtain ⟨M179, eM179, hD⟩ := g_let hD
  obtain ⟨F180, eF180, hD⟩ := g_let hD
  obtain ⟨M181, eM181, hD⟩ := g_let hD
  obtain ⟨F182, eF182, hD⟩ := g_let hD
  obtain ⟨M183, eM183, hD⟩ := g_let hD
  obtain ⟨F184, eF184, hD⟩ := g_let hD
  obtain ⟨F185, eF185, hD⟩ := g_let hD
  obtain ⟨M186, eM186, hD⟩ := g_let hD
  obtain ⟨L187, eL187, hD⟩ := g_let hD
  obtain ⟨F188, M189, L190, hc188, hD⟩ := g_b3 hD
  have eF188 : ∀ a j, (a < 941 ∨ 964 ≤ a) → F188 a j = F185 a j := fun a j ha => kX16_init hc188 a j (by omega)
  obtain ⟨F191, eF191, hD⟩ := g_let hD
  obtain ⟨F192, eF192, hD⟩ := g_let hD
  obtain ⟨M193, eM193, hD⟩ := g_let hD
  obtain ⟨L194, eL194, hD⟩ := g_let hD
  obtain ⟨F195, M196, L197, hc195, hD⟩ := g_b3 hD
  have eF195 : ∀ a j, (a < 964 ∨ 994 ≤ a) → F195 a j = F192 a j := fun a j ha => kX13_init hc195 a j (by omega)
  obtain ⟨F198, eF198, hD⟩ := g_let hD
  obtain ⟨F199, eF199, hD⟩ := g_let hD
  obtain ⟨M200, eM200, hD⟩ := g_let hD
  obtain ⟨L201, eL201, hD⟩ := g_let hD
  obtain ⟨F202, M203, L204, hc202, hD⟩ := g_b3 hD
  have eF202 : ∀ a j, (a < 994 ∨ 1017 ≤ a) → F202 a j = F199 a j := fun a j ha => kX16_init hc202 a j (by omega)
  obtain ⟨F205, eF205, hD⟩ := g_let hD
  obtain ⟨F206, eF206, hD⟩ := g_let hD
  obtain ⟨M207, eM207, hD⟩ := g_let hD
  obtain ⟨L208, eL208, hD⟩ := g_let hD
  obtain ⟨F209, M210, L211, hc209, hD⟩ := g_b3 hD
  have eF209 : ∀ a j, (a < 1017 ∨ 1047 ≤ a) → F209 a j = F206 a j := fun a j ha => kX13_init hc209 a j (by omega)
  obtain ⟨F212, eF212, hD⟩ := g_let hD
  obtain ⟨F213, eF213, hD⟩ := g_let hD
  obtain ⟨M214, eM214, hD⟩ := g_let hD
  obtain ⟨L215, eL215, hD⟩ := g_let hD
  obtain ⟨F216, M217, L218, hc216, hD⟩ := g_b3 hD
  have eF216 : ∀ a j, (a < 1047 ∨ 1070 ≤ a) → F216 a j = F213 a j := fun a j ha => kX16_init hc216 a j (by omega)
  obtain ⟨F219, eF219, hD⟩ := g_let hD
  obtain ⟨F220, eF220, hD⟩ := g_let hD
  obtain ⟨M221, eM221, hD⟩ := g_let hD
  obtain ⟨L222, eL222, hD⟩ := g_let hD
  obtain ⟨F223, M224, L225, hc223, hD⟩ := g_b3 hD
  have eF223 : ∀ a j, (a < 1070 ∨ 1100 ≤ a) → F223 a j = F220 a j := fun a j ha => kX13_init hc223 a j (by omega)
  obtain ⟨F226, eF226, hD⟩ := g_let hD
  obtain ⟨F227, eF227, hD⟩ := g_let hD
  obtain ⟨M228, eM228, hD⟩ := g_let hD
  obtain ⟨L229, eL229, hD⟩ := g_let hD
  obtain ⟨F230, M231, L232, hc230, hD⟩ := g_b3 hD
  have eF230 : ∀ a j, (a < 1100 ∨ 1123 ≤ a) → F230 a j = F227 a j := fun a j ha => kX16_init hc230 a j (by omega)
  obtain ⟨F233, eF233, hD⟩ := g_let hD
  obtain ⟨F234, eF234, hD⟩ := g_let hD
  obtain ⟨M235, eM235, hD⟩ := g_let hD
  obtain ⟨L236, eL236, hD⟩ := g_let hD
  obtain ⟨F237, M238, L239, hc237, hD⟩ := g_b3 hD
  have eF237 : ∀ a j, (a < 1123 ∨ 1153 ≤ a) → F237 a j = F234 a j := fun a j ha => kX13_init hc237 a j (by omega)
  obtain ⟨F240, eF240, hD⟩ := g_let hD
  obtain ⟨F241, eF241, hD⟩ := g_let hD
  obtain ⟨M242, eM242, hD⟩ := g_let hD
  obtain ⟨L243, eL243, hD⟩ := g_let hD
  obtain ⟨F244, M245, L246, hc244, hD⟩ := g_b3 hD
  have eF244 : ∀ a j, (a < 1153 ∨ 1176 ≤ a) → F244 a j = F241 a j := fun a j ha => kX16_init hc244 a j (by omega)
  obtain ⟨F247, eF247, hD⟩ := g_let hD
  obtain ⟨F248, eF248, hD⟩ := g_let hD
  obtain ⟨M249, eM249, hD⟩ := g_let hD
  obtain ⟨L250, eL250, hD⟩ := g_let hD
  obtain ⟨F251, M252, L253, hc251, hD⟩ := g_b3 hD
  have eF251 : ∀ a j, (a < 1176 ∨ 1206 ≤ a) → F251 a j = F248 a j := fun a j ha => kX13_init hc251 a j (by omega)
  obtain ⟨F254, eF254, hD⟩ := g_let hD
  obtain ⟨F255, eF255, hD⟩ := g_let hD
  obtain ⟨M256, eM256, hD⟩ := g_let hD
  obtain ⟨L257, eL257, hD⟩ := g_let hD
  obtain ⟨F258, M259, L260, hc258, hD⟩ := g_b3 hD
  have eF258 : ∀ a j, (a < 1206 ∨ 1229 ≤ a) → F258 a j = F255 a j := fun a j ha => kX16_init hc258 a j (by omega)
  obtain ⟨F261, eF261, hD⟩ := g_let hD
  obtain ⟨F262, eF262, hD⟩ := g_let hD
  obtain ⟨M263, eM263, hD⟩ := g_let hD
  obtain ⟨L264, eL264, hD⟩ := g_let hD
  obtain ⟨F265, M266, L267, hc265, hD⟩ := g_b3 hD
  have eF265 : ∀ a j, (a < 1229 ∨ 1259 ≤ a) → F265 a j = F262 a j := fun a j ha => kX13_init hc265 a j (by omega)
  obtain ⟨F268, eF268, hD⟩ := g_let hD
  obtain ⟨F269, eF269, hD⟩ := g_let hD
  obtain ⟨M270, eM270, hD⟩ := g_let hD
  obtain ⟨L271, eL271, hD⟩ := g_let hD
  obtain ⟨F272, M273, L274, hc272, hD⟩ := g_b3 hD
  have eF272 : ∀ a j, (a < 1259 ∨ 1282 ≤ a) → F272 a j = F269 a j := fun a j ha => kX16_init hc272 a j (by omega)
  obtain ⟨F275, eF275, hD⟩ := g_let hD
  obtain ⟨F276, eF276, hD⟩ := g_let hD
  obtain ⟨M277, eM277, hD⟩ := g_let hD
  obtain ⟨L278, eL278, hD⟩ := g_let hD
  obtain ⟨F279, M280, L281, hc279, hD⟩ := g_b3 hD
  have eF279 : ∀ a j, (a < 1282 ∨ 1312 ≤ a) → F279 a j = F276 a j := fun a j ha => kX13_init hc279 a j (by omega)
  obtain ⟨F282, eF282, hD⟩ := g_let hD
  obtain ⟨F283, eF283, hD⟩ := g_let hD
  obtain ⟨M284, eM284, hD⟩ := g_let hD
  obtain ⟨L285, eL285, hD⟩ := g_let hD
  obtain ⟨F286, M287, L288, hc286, hD⟩ := g_b3 hD
  have eF286 : ∀ a j, (a < 1312 ∨ 1335 ≤ a) → F286 a j = F283 a j := fun a j ha => kX16_init hc286 a j (by omega)
  obtain ⟨F289, eF289, hD⟩ := g_let hD
  obtain ⟨F290, eF290, hD⟩ := g_let hD
  obtain ⟨M291, eM291, hD⟩ := g_let hD
  obtain ⟨L292, eL292, hD⟩ := g_let hD
  obtain ⟨F293, M294, L295, hc293, hD⟩ := g_b3 hD
  have eF293 : ∀ a j, (a < 1335 ∨ 1365 ≤ a) → F293 a j = F290 a j := fun a j ha => kX13_init hc293 a j (by omega)
  obtain ⟨F296, eF296, hD⟩ := g_let hD
  obtain ⟨F297, eF297, hD⟩ := g_let hD
  obtain ⟨M298, eM298, hD⟩ := g_let hD
  obtain ⟨L299, eL299, hD⟩ := g_let hD
  obtain ⟨F300, M301, L302, hc300, hD⟩ := g_b3 hD
  have eF300 : ∀ a j, (a < 1365 ∨ 1388 ≤ a) → F300 a j = F297 a j := fun a j ha => kX16_init hc300 a j (by omega)
  obtain ⟨F303, eF303, hD⟩ := g_let hD
  obtain ⟨F304, eF304, hD⟩ := g_let hD
  obtain ⟨M305, eM305, hD⟩ := g_let hD
  obtain ⟨L306, eL306, hD⟩ := g_let hD
  obtain ⟨F307, M308, L309, hc307, hD⟩ := g_b3 hD
  have eF307 : ∀ a j, (a < 1388 ∨ 1418 ≤ a) → F307 a j = F304 a j := fun a j ha => kX13_init hc307 a j (by omega)
  obtain ⟨F310, eF310, hD⟩ := g_let hD
  obtain ⟨F311, eF311, hD⟩ := g_let hD
  obtain ⟨M312, eM312, hD⟩ := g_let hD
  obtain ⟨L313, eL313, hD⟩ := g_let hD
  obtain ⟨F314, M315, L316, hc314, hD⟩ := g_b3 hD
  have eF314 : ∀ a j, (a < 1418 ∨ 1441 ≤ a) → F314 a j = F311 a j := fun a j ha => kX16_init hc314 a j (by omega)
  obtain ⟨F317, eF317, hD⟩ := g_let hD
  obtain ⟨F318, eF318, hD⟩ := g_let hD
  obtain ⟨M319, eM319, hD⟩ := g_let hD
  obtain ⟨L320, eL320, hD⟩ := g_let hD
  obtain ⟨F321, M322, L323, hc321, hD⟩ := g_b3 hD
  have eF321 : ∀ a j, (a < 1441 ∨ 1471 ≤ a) → F321 a j = F318 a j := fun a j ha => kX13_init hc321 a j (by omega)
  obtain ⟨F324, eF324, hD⟩ := g_let hD
  obtain ⟨F325, eF325, hD⟩ := g_let hD
  obtain ⟨M326, eM326, hD⟩ := g_let hD
  obtain ⟨L327, eL327, hD⟩ := g_let hD
  obtain ⟨F328, M329, L330, hc328, hD⟩ := g_b3 hD
  have eF328 : ∀ a j, (a < 1471 ∨ 1494 ≤ a) → F328 a j = F325 a j := fun a j ha => kX16_init hc328 a j (by omega)
  obtain ⟨F331, eF331, hD⟩ := g_let hD
  obtain ⟨F332, eF332, hD⟩ := g_let hD
  obtain ⟨M333, eM333, hD⟩ := g_let hD
  obtain ⟨L334, eL334, hD⟩ := g_let hD
  obtain ⟨F335, M336, L337, hc335, hD⟩ := g_b3 hD
  have eF335 : ∀ a j, (a < 1494 ∨ 1524 ≤ a) → F335 a j = F332 a j := fun a j ha => kX13_init hc335 a j (by omega)
  obtain ⟨F338, eF338, hD⟩ := g_let hD
  obtain ⟨F339, eF339, hD⟩ := g_let hD
  obtain ⟨M340, eM340, hD⟩ := g_let hD
  obtain ⟨L341, eL341, hD⟩ := g_let hD
  obtain ⟨F342, M343, L344, hc342, hD⟩ := g_b3 hD
  have eF342 : ∀ a j, (a < 1524 ∨ 1547 ≤ a) → F342 a j = F339 a j := fun a j ha => kX16_init hc342 a j (by omega)
  obtain ⟨F345, eF345, hD⟩ := g_let hD
  obtain ⟨F346, eF346, hD⟩ := g_let hD
  obtain ⟨M347, eM347, hD⟩ := g_let hD
  obtain ⟨L348, eL348, hD⟩ := g_let hD
  obtain ⟨F349, M350, L351, hc349, hD⟩ := g_b3 hD
  have eF349 : ∀ a j, (a < 1547 ∨ 1577 ≤ a) → F349 a j = F346 a j := fun a j ha => kX13_init hc349 a j (by omega)
  obtain ⟨F352, eF352, hD⟩ := g_let hD
  obtain ⟨M353, L354, h1, hD⟩ := g_b2 hD
  have hf := congrArg (fun q => q.1) (Option.some.inj hD)
  dsimp only at hf
  rw [← hf]
  rw [eF352, mset_k (by omega)]
  rw [eF349 a j (by omega)]
  rw [eF346, mz_n (by omega)]
  rw [eF345, mset_k (by omega)]
  rw [eF342 a j (by omega)]
  rw [eF339, mz_n (by omega)]
  rw [eF338, mset_k (by omega)]
  rw [eF335 a j (by omega)]
  rw [eF332, mz_n (by omega)]
  rw [eF331, mset_k (by omega)]
  rw [eF328 a j (by omega)]
  rw [eF325, mz_n (by omega)]
  rw [eF324, mset_k (by omega)]
  rw [eF321 a j (by omega)]
  rw [eF318, mz_n (by omega)]
  rw [eF317, mset_k (by omega)]
  rw [eF314 a j (by omega)]
  rw [eF311, mz_n (by omega)]
  rw [eF310, mset_k (by omega)]
  rw [eF307 a j (by omega)]
  rw [eF304, mz_n (by omega)]
  rw [eF303, mset_k (by omega)]
  rw [eF300 a j (by omega)]
  rw [eF297, mz_n (by omega)]
  rw [eF296, mset_k (by omega)]
  rw [eF293 a j (by omega)]
  rw [eF290, mz_n (by omega)]
  rw [eF289, mset_k (by omega)]
  rw [eF286 a j (by omega)]
  rw [eF283, mz_n (by omega)]
  rw [eF282, mset_k (by omega)]
  rw [eF279 a j (by omega)]
  rw [eF276, mz_n (by omega)]
  rw [eF275, mset_k (by omega)]
  rw [eF272 a j (by omega)]
  rw [eF269, mz_n (by omega)]
  rw [eF268, mset_k (by omega)]
  rw [eF265 a j (by omega)]
  rw [eF262, mz_n (by omega)]
  rw [eF261, mset_k (by omega)]
  rw [eF258 a j (by omega)]
  rw [eF255, mz_n (by omega)]
  rw [eF254, mset_k (by omega)]
  rw [eF251 a j (by omega)]
  rw [eF248, mz_n (by omega)]
  rw [eF247, mset_k (by omega)]
  rw [eF244 a j (by omega)]
  rw [eF241, mz_n (by omega)]
  rw [eF240, mset_k (by omega)]
  rw [eF237 a j (by omega)]
  rw [eF234, mz_n (by omega)]
  rw [eF233, mset_k (by omega)]
  rw [eF230 a j (by omega)]
  rw [eF227, mz_n (by omega)]
  rw [eF226, mset_k (by omega)]
  rw [eF223 a j (by omega)]
  rw [eF220, mz_n (by omega)]
  rw [eF219, mset_k (by omega)]
  rw [eF216 a j (by omega)]
  rw [eF213, mz_n (by omega)]
  rw [eF212, mset_k (by omega)]
  rw [eF209 a j (by omega)]
  rw [eF206, mz_n (by omega)]
  rw [eF205, mset_k (by omega)]
  rw [eF202 a j (by omega)]
  rw [eF199, mz_n (by omega)]
  rw [eF198, mset_k (by omega)]
  rw [eF195 a j (by omega)]
  rw [eF192, mz_n (by omega)]
  rw [eF191, mset_k (by omega)]
  rw [eF188 a j (by omega)]
  rw [eF185, mz_n (by omega)]
  rw [eF184, mset_k (by omega)]
  rw [eF182, mset_k (by omega)]
  rw [eF180, mset_k (by omega)]
  rw [eF178, mset_k (by omega)]
  rw [eF176, mset_k (by omega)]
  rw [eF174, mset_k (by omega)]
  rw [eF172, mset_k (by omega)]
  rw [eF170, mset_k (by omega)]
  rw [eF168, mset_k (by omega)]
  rw [eF166, mset_k (by omega)]
  rw [eF163, mset_k (by omega)]
  rw [eF161, mset_k (by omega)]
  rw [eF159, mset_k (by omega)]
  rw [eF157, mset_k (by omega)]
  rw [eF155, mset_k (by omega)]
  rw [eF153, mset_k (by omega)]
  rw [eF151, mset_k (by omega)]
  rw [eF149, mset_k (by omega)]
  rw [eF147, mset_k (by omega)]
  rw [eF146, mz_n (by omega)]
  rw [eF145, mset_k (by omega)]
  rw [eF144, mz_n (by omega)]
  rw [eF143, mset_k (by omega)]
  rw [eF140 a j (by omega)]
  rw [eF137, mz_n (by omega)]
  rw [eF136, mset_k (by omega)]
  rw [eF133 a j (by omega)]
  rw [eF130, mz_n (by omega)]
  rw [eF129, mset_k (by omega)]
  rw [eF126 a j (by omega)]
  rw [eF123, mz_n (by omega)]
  rw [eF122, mset_k (by omega)]
  rw [eF119 a j (by omega)]
  rw [eF116, mz_n (by omega)]
  rw [eF115, mset_k (by omega)]
  rw [eF112 a j (by omega)]
  rw [eF109, mz_n (by omega)]
  rw [eF108, mset_k (by omega)]
  rw [eF106, mset_k (by omega)]
  rw [eF104, mset_k (by omega)]
  rw [eF102, mset_k (by omega)]
  rw [eF100, mset_k (by omega)]
  rw [eF98, mset_k (by omega)]
  rw [eF96, mset_k (by omega)]
  rw [eF94, mset_k (by omega)]
  rw [eF92, mset_k (by omega)]
  rw [eF90, mset_k (by omega)]
  rw [eF88, mset_k (by omega)]
  rw [eF86, mset_k (by omega)]
  rw [eF84, mset_k (by omega)]
  rw [eF82, mset_k (by omega)]
  rw [eF80, mset_k (by omega)]
  rw [eF78, mset_k (by omega)]
  rw [eF76, mset_k (by omega)]
  rw [eF74, mset_k (by omega)]
  rw [eF72, mset_k (by omega)]
  rw [eF70, mset_k (by omega)]
  rw [eF68, mset_k (by omega)]
  rw [eF66, mset_k (by omega)]
  rw [eF64, mset_k (by omega)]
  rw [eF62, mset_k (by omega)]
  rw [eF60, mset_k (by omega)]
  rw [eF58, mset_k (by omega)]
  rw [eF56, mset_k (by omega)]
  rw [eF54, mset_k (by omega)]
  rw [eF52, mset_k (by omega)]
  rw [eF50, mset_k (by omega)]
  rw [eF48, mset_k (by omega)]
  rw [eF46, mset_k (by omega)]
  rw [eF44, mset_k (by omega)]
  rw [eF42, mset_k (by omega)]
  rw [eF40, mset_k (by omega)]
  rw [eF38, mset_k (by omega)]
  rw [eF36, mset_k (by omega)]
  rw [eF34, mset_k (by omega)]
  rw [eF32, mset_k (by omega)]
  rw [eF30, mset_k (by omega)]
  rw [eF28, mset_k (by omega)]
  rw [eF26, mset_k (by omega)]
  rw [eF24, mset_k (by omega)]
  rw [eF22, mset_k (by omega)]
  rw [eF20, mset_k (by omega)]
  rw [eF18, mset_k (by omega)]
  rw [eF16, mset_k (by omega)]
  rw [eF14, mset_k (by omega)]
  rw [eF12, mset_k (by omega)]
  rw [eF10, mset_k (by omega)]
  rw [eF8, mset_k (by omega)]
  rw [eF6, mset_k (by omega)]
  rw [eF4, mset_k (by omega)]
  rw [eF2, mset_k (by omega)]
set_option maxHeartbeats 4000000 in
set_option maxRecDepth 100000 in
theorem twX19_s7 {p : Program} {l : Launch} {e : Env} {s : State} {m : MethodId} {below : List Frame} {meth : Method} {c : Code} (G : mwG) (fu : Nat) (F303 : mwF) (M301 : mwM) (L302 : mwL) {FZ : mwF} {MZ : mwM} {LZ : mwL} (hD : DX19_s7 fu F303 M301 L302 = some (FZ, MZ, LZ)) (hq_0_78 : F303 732 78 = some 854) (hq_0_81 : F303 732 81 = some 921) (hq_0_82 : F303 732 82 = some 922) (hq_122_2 : F303 854 2 = some 855) (hq_122_3 : F303 854 3 = some 856) (hq_122_4 : F303 854 4 = some 857) (hq_122_5 : F303 854 5 = some 858) (hq_122_8 : F303 854 8 = some 859) (hq_122_10 : F303 854 10 = some 860) (hq_122_11 : F303 854 11 = some 861) (hq_122_12 : F303 854 12 = some 862) (hq_122_13 : F303 854 13 = some 863) (hq_122_14 : F303 854 14 = some 864) (hq_122_15 : F303 854 15 = some 865) (hq_122_16 : F303 854 16 = some 866) (hq_122_17 : F303 854 17 = some 867) (hq_122_18 : F303 854 18 = some 868) (C : mw_C p m c cX19_init 4 s [.ref (mw_ad G 732)].toArray "CarHouseModel" G) (A : mw_KA s) (hr : meth.sig.returnType = none) (hlocks : meth.locks = false) (hnm : meth.name = "<init>") (hs0 : s.heap.size = G.2.2.2.size + 733) (H : Heap) (locs : List Loc) (ls : Array Slot) (hw : mw_W G (mw_ad G) 1388 TF F303 M301 L302 H locs) (hl : lv_has ls 4 [(1, .int 8), (0, .ref (mw_ad G 732))]) : W p l e ({ frames := 5, cells := 844, slots := 1052493, locals := 141 }) s m [.ref (mw_ad G 732)].toArray below meth c H locs 655 989169 (MQ below (mw_QC G 1577 FZ MZ LZ) [.ref (mw_ad G 732)].toArray s 844 1052493 (mw_fr G)) (F0 m 693 ls []) := by
  unfold DX19_s7 at hD
  refine lv_aload_n C.1.1 C.1.2.1 dX19_init_693 rfl (lv_at hl 1 rfl) ?_
  refine mr_getR C hw kc_19 82 (by omega) tf_732 (show F303 732 82 = some 922 by (exact hq_0_82)) wd_2863 dX19_init_694 (by decide) rfl ?_
  refine lv_iload_n C.1.1 C.1.2.1 dX19_init_697 rfl (lv_at hl 0 rfl) ?_
  refine mw_size hw (by omega) (fun hs => ?_)
  obtain ⟨F304, eF304, hD⟩ := g_let hD
  obtain ⟨M305, eM305, hD⟩ := g_let hD
  obtain ⟨L306, eL306, hD⟩ := g_let hD
  refine mr_new C hw hs kc_13 (Mc_T0 (isMc_of (x := 8) (by decide))) wd_2548 wd_2637 wd_20 (by decide +kernel) (Nat.le_of_ble_eq_true rfl) (Nat.le_of_ble_eq_true rfl) dX19_init_698 (fun H hw _ => ?_)
  replace hw : mw_W G (mw_ad G) 1389 TF F304 M305 L306 H locs := by rw [eF304, eM305, eL306]; exact hw
  refine W.widen (k := 656) (n := 989211) (Nat.le_of_ble_eq_true rfl) (Nat.le_of_ble_eq_true rfl) ?_
  refine lv_dup C.1.1 C.1.2.1 dX19_init_701 rfl ?_
  obtain ⟨F307, M308, L309, hc307, hD⟩ := g_b3 hD
  have eF307 : ∀ a j, (a < 1388 ∨ 1418 ≤ a) → F307 a j = F304 a j := fun a j ha => kX13_init hc307 a j (by omega)
  refine mw_size hw (by omega) (fun hs => ?_)
  refine mc_initN (k := 1388) (rest := [.ref (mw_ad G 1388), .int 8, .ref (mw_ad G 922)]) C A hw hs (tX13_init l G fu 1388 F304 M305 L306 hc307 (isMc_of (x := 8) (by decide))) nd_2638 wd_2639 cwX13_init rfl rfl rfl ⟨Nat.le_of_ble_eq_true rfl, Nat.le_of_ble_eq_true rfl⟩ hl.1 (Nat.le_of_ble_eq_true rfl) dX19_init_702 ⟨Nat.le_of_ble_eq_true rfl, Nat.le_of_ble_eq_true rfl⟩ (fun H locs hw _ => ?_)
  replace hw : mw_W G (mw_ad G) 1418 TF F307 M308 L309 H locs := hw
  refine W.widen (k := 685) (n := 999564) (Nat.le_of_ble_eq_true rfl) (Nat.le_of_ble_eq_true rfl) ?_
  obtain ⟨F310, eF310, hD⟩ := g_let hD
  refine mr_aast (t := 10) (n := 12) C hw (by omega) tf_922 (by decide) (by decide) rfl kc_13 (by omega) (Mc_T0 (isMc_of (x := 8) (by decide))) (show vp_in 8 12 from by unfold vp_in; decide) dX19_init_705 (fun H locs hw => ?_)
  replace hw : mw_W G (mw_ad G) 1418 TF F310 M308 L309 H locs := by rw [eF310]; exact hw
  refine lv_iinc (v := 9) (lv' := [(1, .int 9), (0, .ref (mw_ad G 732))]) C.1.1 C.1.2.1 dX19_init_706 hl (k := 0) rfl (by decide) (by decide) rfl (fun ls hl => ?_)
  refine lv_goto (tgt := 674) C.1.1 C.1.2.1 dX19_init_709 (by decide) ?_
  refine lv_iload_n C.1.1 C.1.2.1 dX19_init_674 rfl (lv_at hl 0 rfl) ?_
  refine lv_bipush (v := 12) C.1.1 C.1.2.1 dX19_init_675 (by decide) ?_
  refine lv_icmp_ge (tgt := 712) C.1.1 C.1.2.1 dX19_init_677 (by decide) (fun q => absurd q (by decide)) (fun _ => ?_)
  refine lv_aload_n C.1.1 C.1.2.1 dX19_init_680 rfl (lv_at hl 1 rfl) ?_
  refine mr_getR C hw kc_19 81 (by omega) tf_732 (show F310 732 81 = some 921 by (rw [eF310, mset_k (by omega)]; rw [eF307 732 81 (by omega)]; rw [eF304, mz_n (by omega)]; exact hq_0_81)) wd_2862 dX19_init_681 (by decide) rfl ?_
  refine lv_iload_n C.1.1 C.1.2.1 dX19_init_684 rfl (lv_at hl 0 rfl) ?_
  refine mw_size hw (by omega) (fun hs => ?_)
  obtain ⟨F311, eF311, hD⟩ := g_let hD
  obtain ⟨M312, eM312, hD⟩ := g_let hD
  obtain ⟨L313, eL313, hD⟩ := g_let hD
  refine mr_new C hw hs kc_16 (Mp_T0 (isMp_of (x := 9) (by decide))) wd_2546 wd_2550 wd_19 (by decide +kernel) (Nat.le_of_ble_eq_true rfl) (Nat.le_of_ble_eq_true rfl) dX19_init_685 (fun H hw _ => ?_)
  replace hw : mw_W G (mw_ad G) 1419 TF F311 M312 L313 H locs := by rw [eF311, eM312, eL313]; exact hw
  refine W.widen (k := 686) (n := 999591) (Nat.le_of_ble_eq_true rfl) (Nat.le_of_ble_eq_true rfl) ?_
  refine lv_dup C.1.1 C.1.2.1 dX19_init_688 rfl ?_
  obtain ⟨F314, M315, L316, hc314, hD⟩ := g_b3 hD
  have eF314 : ∀ a j, (a < 1418 ∨ 1441 ≤ a) → F314 a j = F311 a j := fun a j ha => kX16_init hc314 a j (by omega)
  refine mw_size hw (by omega) (fun hs => ?_)
  refine mc_initN (k := 1418) (rest := [.ref (mw_ad G 1418), .int 9, .ref (mw_ad G 921)]) C A hw hs (tX16_init l G fu 1418 F311 M312 L313 hc314 (isMp_of (x := 9) (by decide))) nd_2551 wd_2552 cwX16_init rfl rfl rfl ⟨Nat.le_of_ble_eq_true rfl, Nat.le_of_ble_eq_true rfl⟩ hl.1 (Nat.le_of_ble_eq_true rfl) dX19_init_689 ⟨Nat.le_of_ble_eq_true rfl, Nat.le_of_ble_eq_true rfl⟩ (fun H locs hw _ => ?_)
  replace hw : mw_W G (mw_ad G) 1441 TF F314 M315 L316 H locs := hw
  refine W.widen (k := 708) (n := 1006812) (Nat.le_of_ble_eq_true rfl) (Nat.le_of_ble_eq_true rfl) ?_
  obtain ⟨F317, eF317, hD⟩ := g_let hD
  refine mr_aast (t := 9) (n := 12) C hw (by omega) tf_921 (by decide) (by decide) rfl kc_16 (by omega) (Mp_T0 (isMp_of (x := 9) (by decide))) (show vp_in 9 12 from by unfold vp_in; decide) dX19_init_692 (fun H locs hw => ?_)
  replace hw : mw_W G (mw_ad G) 1441 TF F317 M315 L316 H locs := by rw [eF317]; exact hw
  refine lv_aload_n C.1.1 C.1.2.1 dX19_init_693 rfl (lv_at hl 1 rfl) ?_
  refine mr_getR C hw kc_19 82 (by omega) tf_732 (show F317 732 82 = some 922 by (rw [eF317, mset_k (by omega)]; rw [eF314 732 82 (by omega)]; rw [eF311, mz_n (by omega)]; rw [eF310, mset_k (by omega)]; rw [eF307 732 82 (by omega)]; rw [eF304, mz_n (by omega)]; exact hq_0_82)) wd_2863 dX19_init_694 (by decide) rfl ?_
  refine lv_iload_n C.1.1 C.1.2.1 dX19_init_697 rfl (lv_at hl 0 rfl) ?_
  refine mw_size hw (by omega) (fun hs => ?_)
  obtain ⟨F318, eF318, hD⟩ := g_let hD
  obtain ⟨M319, eM319, hD⟩ := g_let hD
  obtain ⟨L320, eL320, hD⟩ := g_let hD
  refine mr_new C hw hs kc_13 (Mc_T0 (isMc_of (x := 9) (by decide))) wd_2548 wd_2637 wd_20 (by decide +kernel) (Nat.le_of_ble_eq_true rfl) (Nat.le_of_ble_eq_true rfl) dX19_init_698 (fun H hw _ => ?_)
  replace hw : mw_W G (mw_ad G) 1442 TF F318 M319 L320 H locs := by rw [eF318, eM319, eL320]; exact hw
  refine W.widen (k := 709) (n := 1006854) (Nat.le_of_ble_eq_true rfl) (Nat.le_of_ble_eq_true rfl) ?_
  refine lv_dup C.1.1 C.1.2.1 dX19_init_701 rfl ?_
  obtain ⟨F321, M322, L323, hc321, hD⟩ := g_b3 hD
  have eF321 : ∀ a j, (a < 1441 ∨ 1471 ≤ a) → F321 a j = F318 a j := fun a j ha => kX13_init hc321 a j (by omega)
  refine mw_size hw (by omega) (fun hs => ?_)
  refine mc_initN (k := 1441) (rest := [.ref (mw_ad G 1441), .int 9, .ref (mw_ad G 922)]) C A hw hs (tX13_init l G fu 1441 F318 M319 L320 hc321 (isMc_of (x := 9) (by decide))) nd_2638 wd_2639 cwX13_init rfl rfl rfl ⟨Nat.le_of_ble_eq_true rfl, Nat.le_of_ble_eq_true rfl⟩ hl.1 (Nat.le_of_ble_eq_true rfl) dX19_init_702 ⟨Nat.le_of_ble_eq_true rfl, Nat.le_of_ble_eq_true rfl⟩ (fun H locs hw _ => ?_)
  replace hw : mw_W G (mw_ad G) 1471 TF F321 M322 L323 H locs := hw
  refine W.widen (k := 738) (n := 1017207) (Nat.le_of_ble_eq_true rfl) (Nat.le_of_ble_eq_true rfl) ?_
  obtain ⟨F324, eF324, hD⟩ := g_let hD
  refine mr_aast (t := 10) (n := 12) C hw (by omega) tf_922 (by decide) (by decide) rfl kc_13 (by omega) (Mc_T0 (isMc_of (x := 9) (by decide))) (show vp_in 9 12 from by unfold vp_in; decide) dX19_init_705 (fun H locs hw => ?_)
  replace hw : mw_W G (mw_ad G) 1471 TF F324 M322 L323 H locs := by rw [eF324]; exact hw
  refine lv_iinc (v := 10) (lv' := [(1, .int 10), (0, .ref (mw_ad G 732))]) C.1.1 C.1.2.1 dX19_init_706 hl (k := 0) rfl (by decide) (by decide) rfl (fun ls hl => ?_)
  refine lv_goto (tgt := 674) C.1.1 C.1.2.1 dX19_init_709 (by decide) ?_
  refine lv_iload_n C.1.1 C.1.2.1 dX19_init_674 rfl (lv_at hl 0 rfl) ?_
  refine lv_bipush (v := 12) C.1.1 C.1.2.1 dX19_init_675 (by decide) ?_
  refine lv_icmp_ge (tgt := 712) C.1.1 C.1.2.1 dX19_init_677 (by decide) (fun q => absurd q (by decide)) (fun _ => ?_)
  refine lv_aload_n C.1.1 C.1.2.1 dX19_init_680 rfl (lv_at hl 1 rfl) ?_
  refine mr_getR C hw kc_19 81 (by omega) tf_732 (show F324 732 81 = some 921 by (rw [eF324, mset_k (by omega)]; rw [eF321 732 81 (by omega)]; rw [eF318, mz_n (by omega)]; rw [eF317, mset_k (by omega)]; rw [eF314 732 81 (by omega)]; rw [eF311, mz_n (by omega)]; rw [eF310, mset_k (by omega)]; rw [eF307 732 81 (by omega)]; rw [eF304, mz_n (by omega)]; exact hq_0_81)) wd_2862 dX19_init_681 (by decide) rfl ?_
  refine lv_iload_n C.1.1 C.1.2.1 dX19_init_684 rfl (lv_at hl 0 rfl) ?_
  refine mw_size hw (by omega) (fun hs => ?_)
  obtain ⟨F325, eF325, hD⟩ := g_let hD
  obtain ⟨M326, eM326, hD⟩ := g_let hD
  obtain ⟨L327, eL327, hD⟩ := g_let hD
  refine mr_new C hw hs kc_16 (Mp_T0 (isMp_of (x := 10) (by decide))) wd_2546 wd_2550 wd_19 (by decide +kernel) (Nat.le_of_ble_eq_true rfl) (Nat.le_of_ble_eq_true rfl) dX19_init_685 (fun H hw _ => ?_)
  replace hw : mw_W G (mw_ad G) 1472 TF F325 M326 L327 H locs := by rw [eF325, eM326, eL327]; exact hw
  refine W.widen (k := 739) (n := 1017234) (Nat.le_of_ble_eq_true rfl) (Nat.le_of_ble_eq_true rfl) ?_
  refine lv_dup C.1.1 C.1.2.1 dX19_init_688 rfl ?_
  obtain ⟨F328, M329, L330, hc328, hD⟩ := g_b3 hD
  have eF328 : ∀ a j, (a < 1471 ∨ 1494 ≤ a) → F328 a j = F325 a j := fun a j ha => kX16_init hc328 a j (by omega)
  refine mw_size hw (by omega) (fun hs => ?_)
  refine mc_initN (k := 1471) (rest := [.ref (mw_ad G 1471), .int 10, .ref (mw_ad G 921)]) C A hw hs (tX16_init l G fu 1471 F325 M326 L327 hc328 (isMp_of (x := 10) (by decide))) nd_2551 wd_2552 cwX16_init rfl rfl rfl ⟨Nat.le_of_ble_eq_true rfl, Nat.le_of_ble_eq_true rfl⟩ hl.1 (Nat.le_of_ble_eq_true rfl) dX19_init_689 ⟨Nat.le_of_ble_eq_true rfl, Nat.le_of_ble_eq_true rfl⟩ (fun H locs hw _ => ?_)
  replace hw : mw_W G (mw_ad G) 1494 TF F328 M329 L330 H locs := hw
  refine W.widen (k := 761) (n := 1024455) (Nat.le_of_ble_eq_true rfl) (Nat.le_of_ble_eq_true rfl) ?_
  obtain ⟨F331, eF331, hD⟩ := g_let hD
  refine mr_aast (t := 9) (n := 12) C hw (by omega) tf_921 (by decide) (by decide) rfl kc_16 (by omega) (Mp_T0 (isMp_of (x := 10) (by decide))) (show vp_in 10 12 from by unfold vp_in; decide) dX19_init_692 (fun H locs hw => ?_)
  replace hw : mw_W G (mw_ad G) 1494 TF F331 M329 L330 H locs := by rw [eF331]; exact hw
  refine lv_aload_n C.1.1 C.1.2.1 dX19_init_693 rfl (lv_at hl 1 rfl) ?_
  refine mr_getR C hw kc_19 82 (by omega) tf_732 (show F331 732 82 = some 922 by (rw [eF331, mset_k (by omega)]; rw [eF328 732 82 (by omega)]; rw [eF325, mz_n (by omega)]; rw [eF324, mset_k (by omega)]; rw [eF321 732 82 (by omega)]; rw [eF318, mz_n (by omega)]; rw [eF317, mset_k (by omega)]; rw [eF314 732 82 (by omega)]; rw [eF311, mz_n (by omega)]; rw [eF310, mset_k (by omega)]; rw [eF307 732 82 (by omega)]; rw [eF304, mz_n (by omega)]; exact hq_0_82)) wd_2863 dX19_init_694 (by decide) rfl ?_
  refine lv_iload_n C.1.1 C.1.2.1 dX19_init_697 rfl (lv_at hl 0 rfl) ?_
  refine mw_size hw (by omega) (fun hs => ?_)
  obtain ⟨F332, eF332, hD⟩ := g_let hD
  obtain ⟨M333, eM333, hD⟩ := g_let hD
  obtain ⟨L334, eL334, hD⟩ := g_let hD
  refine mr_new C hw hs kc_13 (Mc_T0 (isMc_of (x := 10) (by decide))) wd_2548 wd_2637 wd_20 (by decide +kernel) (Nat.le_of_ble_eq_true rfl) (Nat.le_of_ble_eq_true rfl) dX19_init_698 (fun H hw _ => ?_)
  replace hw : mw_W G (mw_ad G) 1495 TF F332 M333 L334 H locs := by rw [eF332, eM333, eL334]; exact hw
  refine W.widen (k := 762) (n := 1024497) (Nat.le_of_ble_eq_true rfl) (Nat.le_of_ble_eq_true rfl) ?_
  refine lv_dup C.1.1 C.1.2.1 dX19_init_701 rfl ?_
  obtain ⟨F335, M336, L337, hc335, hD⟩ := g_b3 hD
  have eF335 : ∀ a j, (a < 1494 ∨ 1524 ≤ a) → F335 a j = F332 a j := fun a j ha => kX13_init hc335 a j (by omega)
  refine mw_size hw (by omega) (fun hs => ?_)
  refine mc_initN (k := 1494) (rest := [.ref (mw_ad G 1494), .int 10, .ref (mw_ad G 922)]) C A hw hs (tX13_init l G fu 1494 F332 M333 L334 hc335 (isMc_of (x := 10) (by decide))) nd_2638 wd_2639 cwX13_init rfl rfl rfl ⟨Nat.le_of_ble_eq_true rfl, Nat.le_of_ble_eq_true rfl⟩ hl.1 (Nat.le_of_ble_eq_true rfl) dX19_init_702 ⟨Nat.le_of_ble_eq_true rfl, Nat.le_of_ble_eq_true rfl⟩ (fun H locs hw _ => ?_)
  replace hw : mw_W G (mw_ad G) 1524 TF F335 M336 L337 H locs := hw
  refine W.widen (k := 791) (n := 1034850) (Nat.le_of_ble_eq_true rfl) (Nat.le_of_ble_eq_true rfl) ?_
  obtain ⟨F338, eF338, hD⟩ := g_let hD
  refine mr_aast (t := 10) (n := 12) C hw (by omega) tf_922 (by decide) (by decide) rfl kc_13 (by omega) (Mc_T0 (isMc_of (x := 10) (by decide))) (show vp_in 10 12 from by unfold vp_in; decide) dX19_init_705 (fun H locs hw => ?_)
  replace hw : mw_W G (mw_ad G) 1524 TF F338 M336 L337 H locs := by rw [eF338]; exact hw
  refine lv_iinc (v := 11) (lv' := [(1, .int 11), (0, .ref (mw_ad G 732))]) C.1.1 C.1.2.1 dX19_init_706 hl (k := 0) rfl (by decide) (by decide) rfl (fun ls hl => ?_)
  refine lv_goto (tgt := 674) C.1.1 C.1.2.1 dX19_init_709 (by decide) ?_
  refine lv_iload_n C.1.1 C.1.2.1 dX19_init_674 rfl (lv_at hl 0 rfl) ?_
  refine lv_bipush (v := 12) C.1.1 C.1.2.1 dX19_init_675 (by decide) ?_
  refine lv_icmp_ge (tgt := 712) C.1.1 C.1.2.1 dX19_init_677 (by decide) (fun q => absurd q (by decide)) (fun _ => ?_)
  refine lv_aload_n C.1.1 C.1.2.1 dX19_init_680 rfl (lv_at hl 1 rfl) ?_
  refine mr_getR C hw kc_19 81 (by omega) tf_732 (show F338 732 81 = some 921 by (rw [eF338, mset_k (by omega)]; rw [eF335 732 81 (by omega)]; rw [eF332, mz_n (by omega)]; rw [eF331, mset_k (by omega)]; rw [eF328 732 81 (by omega)]; rw [eF325, mz_n (by omega)]; rw [eF324, mset_k (by omega)]; rw [eF321 732 81 (by omega)]; rw [eF318, mz_n (by omega)]; rw [eF317, mset_k (by omega)]; rw [eF314 732 81 (by omega)]; rw [eF311, mz_n (by omega)]; rw [eF310, mset_k (by omega)]; rw [eF307 732 81 (by omega)]; rw [eF304, mz_n (by omega)]; exact hq_0_81)) wd_2862 dX19_init_681 (by decide) rfl ?_
  refine lv_iload_n C.1.1 C.1.2.1 dX19_init_684 rfl (lv_at hl 0 rfl) ?_
  refine mw_size hw (by omega) (fun hs => ?_)
  obtain ⟨F339, eF339, hD⟩ := g_let hD
  obtain ⟨M340, eM340, hD⟩ := g_let hD
  obtain ⟨L341, eL341, hD⟩ := g_let hD
  refine mr_new C hw hs kc_16 (Mp_T0 (isMp_of (x := 11) (by decide))) wd_2546 wd_2550 wd_19 (by decide +kernel) (Nat.le_of_ble_eq_true rfl) (Nat.le_of_ble_eq_true rfl) dX19_init_685 (fun H hw _ => ?_)
  replace hw : mw_W G (mw_ad G) 1525 TF F339 M340 L341 H locs := by rw [eF339, eM340, eL341]; exact hw
  refine W.widen (k := 792) (n := 1034877) (Nat.le_of_ble_eq_true rfl) (Nat.le_of_ble_eq_true rfl) ?_
  refine lv_dup C.1.1 C.1.2.1 dX19_init_688 rfl ?_
  obtain ⟨F342, M343, L344, hc342, hD⟩ := g_b3 hD
  have eF342 : ∀ a j, (a < 1524 ∨ 1547 ≤ a) → F342 a j = F339 a j := fun a j ha => kX16_init hc342 a j (by omega)
  refine mw_size hw (by omega) (fun hs => ?_)
  refine mc_initN (k := 1524) (rest := [.ref (mw_ad G 1524), .int 11, .ref (mw_ad G 921)]) C A hw hs (tX16_init l G fu 1524 F339 M340 L341 hc342 (isMp_of (x := 11) (by decide))) nd_2551 wd_2552 cwX16_init rfl rfl rfl ⟨Nat.le_of_ble_eq_true rfl, Nat.le_of_ble_eq_true rfl⟩ hl.1 (Nat.le_of_ble_eq_true rfl) dX19_init_689 ⟨Nat.le_of_ble_eq_true rfl, Nat.le_of_ble_eq_true rfl⟩ (fun H locs hw _ => ?_)
  replace hw : mw_W G (mw_ad G) 1547 TF F342 M343 L344 H locs := hw
  refine W.widen (k := 814) (n := 1042098) (Nat.le_of_ble_eq_true rfl) (Nat.le_of_ble_eq_true rfl) ?_
  obtain ⟨F345, eF345, hD⟩ := g_let hD
  refine mr_aast (t := 9) (n := 12) C hw (by omega) tf_921 (by decide) (by decide) rfl kc_16 (by omega) (Mp_T0 (isMp_of (x := 11) (by decide))) (show vp_in 11 12 from by unfold vp_in; decide) dX19_init_692 (fun H locs hw => ?_)
  replace hw : mw_W G (mw_ad G) 1547 TF F345 M343 L344 H locs := by rw [eF345]; exact hw
  refine lv_aload_n C.1.1 C.1.2.1 dX19_init_693 rfl (lv_at hl 1 rfl) ?_
  refine mr_getR C hw kc_19 82 (by omega) tf_732 (show F345 732 82 = some 922 by (rw [eF345, mset_k (by omega)]; rw [eF342 732 82 (by omega)]; rw [eF339, mz_n (by omega)]; rw [eF338, mset_k (by omega)]; rw [eF335 732 82 (by omega)]; rw [eF332, mz_n (by omega)]; rw [eF331, mset_k (by omega)]; rw [eF328 732 82 (by omega)]; rw [eF325, mz_n (by omega)]; rw [eF324, mset_k (by omega)]; rw [eF321 732 82 (by omega)]; rw [eF318, mz_n (by omega)]; rw [eF317, mset_k (by omega)]; rw [eF314 732 82 (by omega)]; rw [eF311, mz_n (by omega)]; rw [eF310, mset_k (by omega)]; rw [eF307 732 82 (by omega)]; rw [eF304, mz_n (by omega)]; exact hq_0_82)) wd_2863 dX19_init_694 (by decide) rfl ?_
  refine lv_iload_n C.1.1 C.1.2.1 dX19_init_697 rfl (lv_at hl 0 rfl) ?_
  refine mw_size hw (by omega) (fun hs => ?_)
  obtain ⟨F346, eF346, hD⟩ := g_let hD
  obtain ⟨M347, eM347, hD⟩ := g_let hD
  obtain ⟨L348, eL348, hD⟩ := g_let hD
  refine mr_new C hw hs kc_13 (Mc_T0 (isMc_of (x := 11) (by decide))) wd_2548 wd_2637 wd_20 (by decide +kernel) (Nat.le_of_ble_eq_true rfl) (Nat.le_of_ble_eq_true rfl) dX19_init_698 (fun H hw _ => ?_)
  replace hw : mw_W G (mw_ad G) 1548 TF F346 M347 L348 H locs := by rw [eF346, eM347, eL348]; exact hw
  refine W.widen (k := 815) (n := 1042140) (Nat.le_of_ble_eq_true rfl) (Nat.le_of_ble_eq_true rfl) ?_
  refine lv_dup C.1.1 C.1.2.1 dX19_init_701 rfl ?_
  obtain ⟨F349, M350, L351, hc349, hD⟩ := g_b3 hD
  have eF349 : ∀ a j, (a < 1547 ∨ 1577 ≤ a) → F349 a j = F346 a j := fun a j ha => kX13_init hc349 a j (by omega)
  refine mw_size hw (by omega) (fun hs => ?_)
  refine mc_initN (k := 1547) (rest := [.ref (mw_ad G 1547), .int 11, .ref (mw_ad G 922)]) C A hw hs (tX13_init l G fu 1547 F346 M347 L348 hc349 (isMc_of (x := 11) (by decide))) nd_2638 wd_2639 cwX13_init rfl rfl rfl ⟨Nat.le_of_ble_eq_true rfl, Nat.le_of_ble_eq_true rfl⟩ hl.1 (Nat.le_of_ble_eq_true rfl) dX19_init_702 ⟨Nat.le_of_ble_eq_true rfl, Nat.le_of_ble_eq_true rfl⟩ (fun H locs hw _ => ?_)
  replace hw : mw_W G (mw_ad G) 1577 TF F349 M350 L351 H locs := hw
  refine W.widen (k := 844) (n := 1052493) (Nat.le_of_ble_eq_true rfl) (Nat.le_of_ble_eq_true rfl) ?_
  obtain ⟨F352, eF352, hD⟩ := g_let hD
  refine mr_aast (t := 10) (n := 12) C hw (by omega) tf_922 (by decide) (by decide) rfl kc_13 (by omega) (Mc_T0 (isMc_of (x := 11) (by decide))) (show vp_in 11 12 from by unfold vp_in; decide) dX19_init_705 (fun H locs hw => ?_)
  replace hw : mw_W G (mw_ad G) 1577 TF F352 M350 L351 H locs := by rw [eF352]; exact hw
  refine lv_iinc (v := 12) (lv' := [(1, .int 12), (0, .ref (mw_ad G 732))]) C.1.1 C.1.2.1 dX19_init_706 hl (k := 0) rfl (by decide) (by decide) rfl (fun ls hl => ?_)
  refine lv_goto (tgt := 674) C.1.1 C.1.2.1 dX19_init_709 (by decide) ?_
  refine lv_iload_n C.1.1 C.1.2.1 dX19_init_674 rfl (lv_at hl 0 rfl) ?_
  refine lv_bipush (v := 12) C.1.1 C.1.2.1 dX19_init_675 (by decide) ?_
  refine lv_icmp_ge (tgt := 712) C.1.1 C.1.2.1 dX19_init_677 (by decide) (fun _ => ?_) (fun q => absurd q (by decide))
  have hFF : F352 732 78 = some 854 := by (rw [eF352, mset_k (by omega)]; rw [eF349 732 78 (by omega)]; rw [eF346, mz_n (by omega)]; rw [eF345, mset_k (by omega)]; rw [eF342 732 78 (by omega)]; rw [eF339, mz_n (by omega)]; rw [eF338, mset_k (by omega)]; rw [eF335 732 78 (by omega)]; rw [eF332, mz_n (by omega)]; rw [eF331, mset_k (by omega)]; rw [eF328 732 78 (by omega)]; rw [eF325, mz_n (by omega)]; rw [eF324, mset_k (by omega)]; rw [eF321 732 78 (by omega)]; rw [eF318, mz_n (by omega)]; rw [eF317, mset_k (by omega)]; rw [eF314 732 78 (by omega)]; rw [eF311, mz_n (by omega)]; rw [eF310, mset_k (by omega)]; rw [eF307 732 78 (by omega)]; rw [eF304, mz_n (by omega)]; exact hq_0_78)
  have hFG : ∀ j r, FF 854 j = some r → F352 854 j = some r := by
    intro j r hj
    match j, hj with
    | 0, hj => exact absurd ((show FF 854 0 = none by decide +kernel).symm.trans hj) (fun q => by cases q)
    | 1, hj => exact absurd ((show FF 854 1 = none by decide +kernel).symm.trans hj) (fun q => by cases q)
    | 2, hj => exact (show F352 854 2 = some 855 by (rw [eF352, mset_k (by omega)]; rw [eF349 854 2 (by omega)]; rw [eF346, mz_n (by omega)]; rw [eF345, mset_k (by omega)]; rw [eF342 854 2 (by omega)]; rw [eF339, mz_n (by omega)]; rw [eF338, mset_k (by omega)]; rw [eF335 854 2 (by omega)]; rw [eF332, mz_n (by omega)]; rw [eF331, mset_k (by omega)]; rw [eF328 854 2 (by omega)]; rw [eF325, mz_n (by omega)]; rw [eF324, mset_k (by omega)]; rw [eF321 854 2 (by omega)]; rw [eF318, mz_n (by omega)]; rw [eF317, mset_k (by omega)]; rw [eF314 854 2 (by omega)]; rw [eF311, mz_n (by omega)]; rw [eF310, mset_k (by omega)]; rw [eF307 854 2 (by omega)]; rw [eF304, mz_n (by omega)]; exact hq_122_2)).trans (ff_854_2.symm.trans hj)
    | 3, hj => exact (show F352 854 3 = some 856 by (rw [eF352, mset_k (by omega)]; rw [eF349 854 3 (by omega)]; rw [eF346, mz_n (by omega)]; rw [eF345, mset_k (by omega)]; rw [eF342 854 3 (by omega)]; rw [eF339, mz_n (by omega)]; rw [eF338, mset_k (by omega)]; rw [eF335 854 3 (by omega)]; rw [eF332, mz_n (by omega)]; rw [eF331, mset_k (by omega)]; rw [eF328 854 3 (by omega)]; rw [eF325, mz_n (by omega)]; rw [eF324, mset_k (by omega)]; rw [eF321 854 3 (by omega)]; rw [eF318, mz_n (by omega)]; rw [eF317, mset_k (by omega)]; rw [eF314 854 3 (by omega)]; rw [eF311, mz_n (by omega)]; rw [eF310, mset_k (by omega)]; rw [eF307 854 3 (by omega)]; rw [eF304, mz_n (by omega)]; exact hq_122_3)).trans (ff_854_3.symm.trans hj)
    | 4, hj => exact (show F352 854 4 = some 857 by (rw [eF352, mset_k (by omega)]; rw [eF349 854 4 (by omega)]; rw [eF346, mz_n (by omega)]; rw [eF345, mset_k (by omega)]; rw [eF342 854 4 (by omega)]; rw [eF339, mz_n (by omega)]; rw [eF338, mset_k (by omega)]; rw [eF335 854 4 (by omega)]; rw [eF332, mz_n (by omega)]; rw [eF331, mset_k (by omega)]; rw [eF328 854 4 (by omega)]; rw [eF325, mz_n (by omega)]; rw [eF324, mset_k (by omega)]; rw [eF321 854 4 (by omega)]; rw [eF318, mz_n (by omega)]; rw [eF317, mset_k (by omega)]; rw [eF314 854 4 (by omega)]; rw [eF311, mz_n (by omega)]; rw [eF310, mset_k (by omega)]; rw [eF307 854 4 (by omega)]; rw [eF304, mz_n (by omega)]; exact hq_122_4)).trans (ff_854_4.symm.trans hj)
    | 5, hj => exact (show F352 854 5 = some 858 by (rw [eF352, mset_k (by omega)]; rw [eF349 854 5 (by omega)]; rw [eF346, mz_n (by omega)]; rw [eF345, mset_k (by omega)]; rw [eF342 854 5 (by omega)]; rw [eF339, mz_n (by omega)]; rw [eF338, mset_k (by omega)]; rw [eF335 854 5 (by omega)]; rw [eF332, mz_n (by omega)]; rw [eF331, mset_k (by omega)]; rw [eF328 854 5 (by omega)]; rw [eF325, mz_n (by omega)]; rw [eF324, mset_k (by omega)]; rw [eF321 854 5 (by omega)]; rw [eF318, mz_n (by omega)]; rw [eF317, mset_k (by omega)]; rw [eF314 854 5 (by omega)]; rw [eF311, mz_n (by omega)]; rw [eF310, mset_k (by omega)]; rw [eF307 854 5 (by omega)]; rw [eF304, mz_n (by omega)]; exact hq_122_5)).trans (ff_854_5.symm.trans hj)
    | 6, hj => exact absurd ((show FF 854 6 = none by decide +kernel).symm.trans hj) (fun q => by cases q)
    | 7, hj => exact absurd ((show FF 854 7 = none by decide +kernel).symm.trans hj) (fun q => by cases q)
    | 8, hj => exact (show F352 854 8 = some 859 by (rw [eF352, mset_k (by omega)]; rw [eF349 854 8 (by omega)]; rw [eF346, mz_n (by omega)]; rw [eF345, mset_k (by omega)]; rw [eF342 854 8 (by omega)]; rw [eF339, mz_n (by omega)]; rw [eF338, mset_k (by omega)]; rw [eF335 854 8 (by omega)]; rw [eF332, mz_n (by omega)]; rw [eF331, mset_k (by omega)]; rw [eF328 854 8 (by omega)]; rw [eF325, mz_n (by omega)]; rw [eF324, mset_k (by omega)]; rw [eF321 854 8 (by omega)]; rw [eF318, mz_n (by omega)]; rw [eF317, mset_k (by omega)]; rw [eF314 854 8 (by omega)]; rw [eF311, mz_n (by omega)]; rw [eF310, mset_k (by omega)]; rw [eF307 854 8 (by omega)]; rw [eF304, mz_n (by omega)]; exact hq_122_8)).trans (ff_854_8.symm.trans hj)
    | 9, hj => exact absurd ((show FF 854 9 = none by decide +kernel).symm.trans hj) (fun q => by cases q)
    | 10, hj => exact (show F352 854 10 = some 860 by (rw [eF352, mset_k (by omega)]; rw [eF349 854 10 (by omega)]; rw [eF346, mz_n (by omega)]; rw [eF345, mset_k (by omega)]; rw [eF342 854 10 (by omega)]; rw [eF339, mz_n (by omega)]; rw [eF338, mset_k (by omega)]; rw [eF335 854 10 (by omega)]; rw [eF332, mz_n (by omega)]; rw [eF331, mset_k (by omega)]; rw [eF328 854 10 (by omega)]; rw [eF325, mz_n (by omega)]; rw [eF324, mset_k (by omega)]; rw [eF321 854 10 (by omega)]; rw [eF318, mz_n (by omega)]; rw [eF317, mset_k (by omega)]; rw [eF314 854 10 (by omega)]; rw [eF311, mz_n (by omega)]; rw [eF310, mset_k (by omega)]; rw [eF307 854 10 (by omega)]; rw [eF304, mz_n (by omega)]; exact hq_122_10)).trans (ff_854_10.symm.trans hj)
    | 11, hj => exact (show F352 854 11 = some 861 by (rw [eF352, mset_k (by omega)]; rw [eF349 854 11 (by omega)]; rw [eF346, mz_n (by omega)]; rw [eF345, mset_k (by omega)]; rw [eF342 854 11 (by omega)]; rw [eF339, mz_n (by omega)]; rw [eF338, mset_k (by omega)]; rw [eF335 854 11 (by omega)]; rw [eF332, mz_n (by omega)]; rw [eF331, mset_k (by omega)]; rw [eF328 854 11 (by omega)]; rw [eF325, mz_n (by omega)]; rw [eF324, mset_k (by omega)]; rw [eF321 854 11 (by omega)]; rw [eF318, mz_n (by omega)]; rw [eF317, mset_k (by omega)]; rw [eF314 854 11 (by omega)]; rw [eF311, mz_n (by omega)]; rw [eF310, mset_k (by omega)]; rw [eF307 854 11 (by omega)]; rw [eF304, mz_n (by omega)]; exact hq_122_11)).trans (ff_854_11.symm.trans hj)
    | 12, hj => exact (show F352 854 12 = some 862 by (rw [eF352, mset_k (by omega)]; rw [eF349 854 12 (by omega)]; rw [eF346, mz_n (by omega)]; rw [eF345, mset_k (by omega)]; rw [eF342 854 12 (by omega)]; rw [eF339, mz_n (by omega)]; rw [eF338, mset_k (by omega)]; rw [eF335 854 12 (by omega)]; rw [eF332, mz_n (by omega)]; rw [eF331, mset_k (by omega)]; rw [eF328 854 12 (by omega)]; rw [eF325, mz_n (by omega)]; rw [eF324, mset_k (by omega)]; rw [eF321 854 12 (by omega)]; rw [eF318, mz_n (by omega)]; rw [eF317, mset_k (by omega)]; rw [eF314 854 12 (by omega)]; rw [eF311, mz_n (by omega)]; rw [eF310, mset_k (by omega)]; rw [eF307 854 12 (by omega)]; rw [eF304, mz_n (by omega)]; exact hq_122_12)).trans (ff_854_12.symm.trans hj)
    | 13, hj => exact (show F352 854 13 = some 863 by (rw [eF352, mset_k (by omega)]; rw [eF349 854 13 (by omega)]; rw [eF346, mz_n (by omega)]; rw [eF345, mset_k (by omega)]; rw [eF342 854 13 (by omega)]; rw [eF339, mz_n (by omega)]; rw [eF338, mset_k (by omega)]; rw [eF335 854 13 (by omega)]; rw [eF332, mz_n (by omega)]; rw [eF331, mset_k (by omega)]; rw [eF328 854 13 (by omega)]; rw [eF325, mz_n (by omega)]; rw [eF324, mset_k (by omega)]; rw [eF321 854 13 (by omega)]; rw [eF318, mz_n (by omega)]; rw [eF317, mset_k (by omega)]; rw [eF314 854 13 (by omega)]; rw [eF311, mz_n (by omega)]; rw [eF310, mset_k (by omega)]; rw [eF307 854 13 (by omega)]; rw [eF304, mz_n (by omega)]; exact hq_122_13)).trans (ff_854_13.symm.trans hj)
    | 14, hj => exact (show F352 854 14 = some 864 by (rw [eF352, mset_k (by omega)]; rw [eF349 854 14 (by omega)]; rw [eF346, mz_n (by omega)]; rw [eF345, mset_k (by omega)]; rw [eF342 854 14 (by omega)]; rw [eF339, mz_n (by omega)]; rw [eF338, mset_k (by omega)]; rw [eF335 854 14 (by omega)]; rw [eF332, mz_n (by omega)]; rw [eF331, mset_k (by omega)]; rw [eF328 854 14 (by omega)]; rw [eF325, mz_n (by omega)]; rw [eF324, mset_k (by omega)]; rw [eF321 854 14 (by omega)]; rw [eF318, mz_n (by omega)]; rw [eF317, mset_k (by omega)]; rw [eF314 854 14 (by omega)]; rw [eF311, mz_n (by omega)]; rw [eF310, mset_k (by omega)]; rw [eF307 854 14 (by omega)]; rw [eF304, mz_n (by omega)]; exact hq_122_14)).trans (ff_854_14.symm.trans hj)
    | 15, hj => exact (show F352 854 15 = some 865 by (rw [eF352, mset_k (by omega)]; rw [eF349 854 15 (by omega)]; rw [eF346, mz_n (by omega)]; rw [eF345, mset_k (by omega)]; rw [eF342 854 15 (by omega)]; rw [eF339, mz_n (by omega)]; rw [eF338, mset_k (by omega)]; rw [eF335 854 15 (by omega)]; rw [eF332, mz_n (by omega)]; rw [eF331, mset_k (by omega)]; rw [eF328 854 15 (by omega)]; rw [eF325, mz_n (by omega)]; rw [eF324, mset_k (by omega)]; rw [eF321 854 15 (by omega)]; rw [eF318, mz_n (by omega)]; rw [eF317, mset_k (by omega)]; rw [eF314 854 15 (by omega)]; rw [eF311, mz_n (by omega)]; rw [eF310, mset_k (by omega)]; rw [eF307 854 15 (by omega)]; rw [eF304, mz_n (by omega)]; exact hq_122_15)).trans (ff_854_15.symm.trans hj)
    | 16, hj => exact (show F352 854 16 = some 866 by (rw [eF352, mset_k (by omega)]; rw [eF349 854 16 (by omega)]; rw [eF346, mz_n (by omega)]; rw [eF345, mset_k (by omega)]; rw [eF342 854 16 (by omega)]; rw [eF339, mz_n (by omega)]; rw [eF338, mset_k (by omega)]; rw [eF335 854 16 (by omega)]; rw [eF332, mz_n (by omega)]; rw [eF331, mset_k (by omega)]; rw [eF328 854 16 (by omega)]; rw [eF325, mz_n (by omega)]; rw [eF324, mset_k (by omega)]; rw [eF321 854 16 (by omega)]; rw [eF318, mz_n (by omega)]; rw [eF317, mset_k (by omega)]; rw [eF314 854 16 (by omega)]; rw [eF311, mz_n (by omega)]; rw [eF310, mset_k (by omega)]; rw [eF307 854 16 (by omega)]; rw [eF304, mz_n (by omega)]; exact hq_122_16)).trans (ff_854_16.symm.trans hj)
    | 17, hj => exact (show F352 854 17 = some 867 by (rw [eF352, mset_k (by omega)]; rw [eF349 854 17 (by omega)]; rw [eF346, mz_n (by omega)]; rw [eF345, mset_k (by omega)]; rw [eF342 854 17 (by omega)]; rw [eF339, mz_n (by omega)]; rw [eF338, mset_k (by omega)]; rw [eF335 854 17 (by omega)]; rw [eF332, mz_n (by omega)]; rw [eF331, mset_k (by omega)]; rw [eF328 854 17 (by omega)]; rw [eF325, mz_n (by omega)]; rw [eF324, mset_k (by omega)]; rw [eF321 854 17 (by omega)]; rw [eF318, mz_n (by omega)]; rw [eF317, mset_k (by omega)]; rw [eF314 854 17 (by omega)]; rw [eF311, mz_n (by omega)]; rw [eF310, mset_k (by omega)]; rw [eF307 854 17 (by omega)]; rw [eF304, mz_n (by omega)]; exact hq_122_17)).trans (ff_854_17.symm.trans hj)
    | 18, hj => exact (show F352 854 18 = some 868 by (rw [eF352, mset_k (by omega)]; rw [eF349 854 18 (by omega)]; rw [eF346, mz_n (by omega)]; rw [eF345, mset_k (by omega)]; rw [eF342 854 18 (by omega)]; rw [eF339, mz_n (by omega)]; rw [eF338, mset_k (by omega)]; rw [eF335 854 18 (by omega)]; rw [eF332, mz_n (by omega)]; rw [eF331, mset_k (by omega)]; rw [eF328 854 18 (by omega)]; rw [eF325, mz_n (by omega)]; rw [eF324, mset_k (by omega)]; rw [eF321 854 18 (by omega)]; rw [eF318, mz_n (by omega)]; rw [eF317, mset_k (by omega)]; rw [eF314 854 18 (by omega)]; rw [eF311, mz_n (by omega)]; rw [eF310, mset_k (by omega)]; rw [eF307 854 18 (by omega)]; rw [eF304, mz_n (by omega)]; exact hq_122_18)).trans (ff_854_18.symm.trans hj)
    | n + 19, hj => exact absurd ((show FF 854 (n + 19) = none from rfl).symm.trans hj) (fun q => by cases q)
  obtain ⟨M353, L354, h1, hD⟩ := g_b2 hD
  have hq := Option.some.inj hD
  obtain ⟨hq1, hq2, hq3⟩ : FZ = F352 ∧ MZ = M353 ∧ LZ = L354 := by simp only [Prod.mk.injEq] at hq; exact ⟨hq.1.symm, hq.2.1.symm, hq.2.2.symm⟩
  rw [hq1, hq2, hq3]
  exact twX19_tail G fu F352 M350 L351 h1 hFF hFG C hr hlocks (by omega) (Nat.le_of_ble_eq_true rfl) (Nat.le_of_ble_eq_true rfl) ⟨Nat.le_of_ble_eq_true rfl, Nat.le_of_ble_eq_true rfl⟩ H locs ls hw (lv_sub hl [1] rfl)
set_option maxHeartbeats 4000000 in
set_option maxRecDepth 100000 in
theorem twX19_s6 {p : Program} {l : Launch} {e : Env} {s : State} {m : MethodId} {below : List Frame} {meth : Method} {c : Code} (G : mwG) (fu : Nat) (F240 : mwF) (M238 : mwM) (L239 : mwL) {FZ : mwF} {MZ : mwM} {LZ : mwL} (hD : DX19_s6 fu F240 M238 L239 = some (FZ, MZ, LZ)) (hq_0_78 : F240 732 78 = some 854) (hq_0_81 : F240 732 81 = some 921) (hq_0_82 : F240 732 82 = some 922) (hq_122_2 : F240 854 2 = some 855) (hq_122_3 : F240 854 3 = some 856) (hq_122_4 : F240 854 4 = some 857) (hq_122_5 : F240 854 5 = some 858) (hq_122_8 : F240 854 8 = some 859) (hq_122_10 : F240 854 10 = some 860) (hq_122_11 : F240 854 11 = some 861) (hq_122_12 : F240 854 12 = some 862) (hq_122_13 : F240 854 13 = some 863) (hq_122_14 : F240 854 14 = some 864) (hq_122_15 : F240 854 15 = some 865) (hq_122_16 : F240 854 16 = some 866) (hq_122_17 : F240 854 17 = some 867) (hq_122_18 : F240 854 18 = some 868) (C : mw_C p m c cX19_init 4 s [.ref (mw_ad G 732)].toArray "CarHouseModel" G) (A : mw_KA s) (hr : meth.sig.returnType = none) (hlocks : meth.locks = false) (hnm : meth.name = "<init>") (hs0 : s.heap.size = G.2.2.2.size + 733) (H : Heap) (locs : List Loc) (ls : Array Slot) (hw : mw_W G (mw_ad G) 1153 TF F240 M238 L239 H locs) (hl : lv_has ls 4 [(1, .int 4), (0, .ref (mw_ad G 732))]) : W p l e ({ frames := 5, cells := 844, slots := 1052493, locals := 141 }) s m [.ref (mw_ad G 732)].toArray below meth c H locs 420 911349 (MQ below (mw_QC G 1577 FZ MZ LZ) [.ref (mw_ad G 732)].toArray s 844 1052493 (mw_fr G)) (F0 m 709 ls []) := by
  unfold DX19_s6 at hD
  refine lv_goto (tgt := 674) C.1.1 C.1.2.1 dX19_init_709 (by decide) ?_
  refine lv_iload_n C.1.1 C.1.2.1 dX19_init_674 rfl (lv_at hl 0 rfl) ?_
  refine lv_bipush (v := 12) C.1.1 C.1.2.1 dX19_init_675 (by decide) ?_
  refine lv_icmp_ge (tgt := 712) C.1.1 C.1.2.1 dX19_init_677 (by decide) (fun q => absurd q (by decide)) (fun _ => ?_)
  refine lv_aload_n C.1.1 C.1.2.1 dX19_init_680 rfl (lv_at hl 1 rfl) ?_
  refine mr_getR C hw kc_19 81 (by omega) tf_732 (show F240 732 81 = some 921 by (exact hq_0_81)) wd_2862 dX19_init_681 (by decide) rfl ?_
  refine lv_iload_n C.1.1 C.1.2.1 dX19_init_684 rfl (lv_at hl 0 rfl) ?_
  refine mw_size hw (by omega) (fun hs => ?_)
  obtain ⟨F241, eF241, hD⟩ := g_let hD
  obtain ⟨M242, eM242, hD⟩ := g_let hD
  obtain ⟨L243, eL243, hD⟩ := g_let hD
  refine mr_new C hw hs kc_16 (Mp_T0 (isMp_of (x := 4) (by decide))) wd_2546 wd_2550 wd_19 (by decide +kernel) (Nat.le_of_ble_eq_true rfl) (Nat.le_of_ble_eq_true rfl) dX19_init_685 (fun H hw _ => ?_)
  replace hw : mw_W G (mw_ad G) 1154 TF F241 M242 L243 H locs := by rw [eF241, eM242, eL243]; exact hw
  refine W.widen (k := 421) (n := 911376) (Nat.le_of_ble_eq_true rfl) (Nat.le_of_ble_eq_true rfl) ?_
  refine lv_dup C.1.1 C.1.2.1 dX19_init_688 rfl ?_
  obtain ⟨F244, M245, L246, hc244, hD⟩ := g_b3 hD
  have eF244 : ∀ a j, (a < 1153 ∨ 1176 ≤ a) → F244 a j = F241 a j := fun a j ha => kX16_init hc244 a j (by omega)
  refine mw_size hw (by omega) (fun hs => ?_)
  refine mc_initN (k := 1153) (rest := [.ref (mw_ad G 1153), .int 4, .ref (mw_ad G 921)]) C A hw hs (tX16_init l G fu 1153 F241 M242 L243 hc244 (isMp_of (x := 4) (by decide))) nd_2551 wd_2552 cwX16_init rfl rfl rfl ⟨Nat.le_of_ble_eq_true rfl, Nat.le_of_ble_eq_true rfl⟩ hl.1 (Nat.le_of_ble_eq_true rfl) dX19_init_689 ⟨Nat.le_of_ble_eq_true rfl, Nat.le_of_ble_eq_true rfl⟩ (fun H locs hw _ => ?_)
  replace hw : mw_W G (mw_ad G) 1176 TF F244 M245 L246 H locs := hw
  refine W.widen (k := 443) (n := 918597) (Nat.le_of_ble_eq_true rfl) (Nat.le_of_ble_eq_true rfl) ?_
  obtain ⟨F247, eF247, hD⟩ := g_let hD
  refine mr_aast (t := 9) (n := 12) C hw (by omega) tf_921 (by decide) (by decide) rfl kc_16 (by omega) (Mp_T0 (isMp_of (x := 4) (by decide))) (show vp_in 4 12 from by unfold vp_in; decide) dX19_init_692 (fun H locs hw => ?_)
  replace hw : mw_W G (mw_ad G) 1176 TF F247 M245 L246 H locs := by rw [eF247]; exact hw
  refine lv_aload_n C.1.1 C.1.2.1 dX19_init_693 rfl (lv_at hl 1 rfl) ?_
  refine mr_getR C hw kc_19 82 (by omega) tf_732 (show F247 732 82 = some 922 by (rw [eF247, mset_k (by omega)]; rw [eF244 732 82 (by omega)]; rw [eF241, mz_n (by omega)]; exact hq_0_82)) wd_2863 dX19_init_694 (by decide) rfl ?_
  refine lv_iload_n C.1.1 C.1.2.1 dX19_init_697 rfl (lv_at hl 0 rfl) ?_
  refine mw_size hw (by omega) (fun hs => ?_)
  obtain ⟨F248, eF248, hD⟩ := g_let hD
  obtain ⟨M249, eM249, hD⟩ := g_let hD
  obtain ⟨L250, eL250, hD⟩ := g_let hD
  refine mr_new C hw hs kc_13 (Mc_T0 (isMc_of (x := 4) (by decide))) wd_2548 wd_2637 wd_20 (by decide +kernel) (Nat.le_of_ble_eq_true rfl) (Nat.le_of_ble_eq_true rfl) dX19_init_698 (fun H hw _ => ?_)
  replace hw : mw_W G (mw_ad G) 1177 TF F248 M249 L250 H locs := by rw [eF248, eM249, eL250]; exact hw
  refine W.widen (k := 444) (n := 918639) (Nat.le_of_ble_eq_true rfl) (Nat.le_of_ble_eq_true rfl) ?_
  refine lv_dup C.1.1 C.1.2.1 dX19_init_701 rfl ?_
  obtain ⟨F251, M252, L253, hc251, hD⟩ := g_b3 hD
  have eF251 : ∀ a j, (a < 1176 ∨ 1206 ≤ a) → F251 a j = F248 a j := fun a j ha => kX13_init hc251 a j (by omega)
  refine mw_size hw (by omega) (fun hs => ?_)
  refine mc_initN (k := 1176) (rest := [.ref (mw_ad G 1176), .int 4, .ref (mw_ad G 922)]) C A hw hs (tX13_init l G fu 1176 F248 M249 L250 hc251 (isMc_of (x := 4) (by decide))) nd_2638 wd_2639 cwX13_init rfl rfl rfl ⟨Nat.le_of_ble_eq_true rfl, Nat.le_of_ble_eq_true rfl⟩ hl.1 (Nat.le_of_ble_eq_true rfl) dX19_init_702 ⟨Nat.le_of_ble_eq_true rfl, Nat.le_of_ble_eq_true rfl⟩ (fun H locs hw _ => ?_)
  replace hw : mw_W G (mw_ad G) 1206 TF F251 M252 L253 H locs := hw
  refine W.widen (k := 473) (n := 928992) (Nat.le_of_ble_eq_true rfl) (Nat.le_of_ble_eq_true rfl) ?_
  obtain ⟨F254, eF254, hD⟩ := g_let hD
  refine mr_aast (t := 10) (n := 12) C hw (by omega) tf_922 (by decide) (by decide) rfl kc_13 (by omega) (Mc_T0 (isMc_of (x := 4) (by decide))) (show vp_in 4 12 from by unfold vp_in; decide) dX19_init_705 (fun H locs hw => ?_)
  replace hw : mw_W G (mw_ad G) 1206 TF F254 M252 L253 H locs := by rw [eF254]; exact hw
  refine lv_iinc (v := 5) (lv' := [(1, .int 5), (0, .ref (mw_ad G 732))]) C.1.1 C.1.2.1 dX19_init_706 hl (k := 0) rfl (by decide) (by decide) rfl (fun ls hl => ?_)
  refine lv_goto (tgt := 674) C.1.1 C.1.2.1 dX19_init_709 (by decide) ?_
  refine lv_iload_n C.1.1 C.1.2.1 dX19_init_674 rfl (lv_at hl 0 rfl) ?_
  refine lv_bipush (v := 12) C.1.1 C.1.2.1 dX19_init_675 (by decide) ?_
  refine lv_icmp_ge (tgt := 712) C.1.1 C.1.2.1 dX19_init_677 (by decide) (fun q => absurd q (by decide)) (fun _ => ?_)
  refine lv_aload_n C.1.1 C.1.2.1 dX19_init_680 rfl (lv_at hl 1 rfl) ?_
  refine mr_getR C hw kc_19 81 (by omega) tf_732 (show F254 732 81 = some 921 by (rw [eF254, mset_k (by omega)]; rw [eF251 732 81 (by omega)]; rw [eF248, mz_n (by omega)]; rw [eF247, mset_k (by omega)]; rw [eF244 732 81 (by omega)]; rw [eF241, mz_n (by omega)]; exact hq_0_81)) wd_2862 dX19_init_681 (by decide) rfl ?_
  refine lv_iload_n C.1.1 C.1.2.1 dX19_init_684 rfl (lv_at hl 0 rfl) ?_
  refine mw_size hw (by omega) (fun hs => ?_)
  obtain ⟨F255, eF255, hD⟩ := g_let hD
  obtain ⟨M256, eM256, hD⟩ := g_let hD
  obtain ⟨L257, eL257, hD⟩ := g_let hD
  refine mr_new C hw hs kc_16 (Mp_T0 (isMp_of (x := 5) (by decide))) wd_2546 wd_2550 wd_19 (by decide +kernel) (Nat.le_of_ble_eq_true rfl) (Nat.le_of_ble_eq_true rfl) dX19_init_685 (fun H hw _ => ?_)
  replace hw : mw_W G (mw_ad G) 1207 TF F255 M256 L257 H locs := by rw [eF255, eM256, eL257]; exact hw
  refine W.widen (k := 474) (n := 929019) (Nat.le_of_ble_eq_true rfl) (Nat.le_of_ble_eq_true rfl) ?_
  refine lv_dup C.1.1 C.1.2.1 dX19_init_688 rfl ?_
  obtain ⟨F258, M259, L260, hc258, hD⟩ := g_b3 hD
  have eF258 : ∀ a j, (a < 1206 ∨ 1229 ≤ a) → F258 a j = F255 a j := fun a j ha => kX16_init hc258 a j (by omega)
  refine mw_size hw (by omega) (fun hs => ?_)
  refine mc_initN (k := 1206) (rest := [.ref (mw_ad G 1206), .int 5, .ref (mw_ad G 921)]) C A hw hs (tX16_init l G fu 1206 F255 M256 L257 hc258 (isMp_of (x := 5) (by decide))) nd_2551 wd_2552 cwX16_init rfl rfl rfl ⟨Nat.le_of_ble_eq_true rfl, Nat.le_of_ble_eq_true rfl⟩ hl.1 (Nat.le_of_ble_eq_true rfl) dX19_init_689 ⟨Nat.le_of_ble_eq_true rfl, Nat.le_of_ble_eq_true rfl⟩ (fun H locs hw _ => ?_)
  replace hw : mw_W G (mw_ad G) 1229 TF F258 M259 L260 H locs := hw
  refine W.widen (k := 496) (n := 936240) (Nat.le_of_ble_eq_true rfl) (Nat.le_of_ble_eq_true rfl) ?_
  obtain ⟨F261, eF261, hD⟩ := g_let hD
  refine mr_aast (t := 9) (n := 12) C hw (by omega) tf_921 (by decide) (by decide) rfl kc_16 (by omega) (Mp_T0 (isMp_of (x := 5) (by decide))) (show vp_in 5 12 from by unfold vp_in; decide) dX19_init_692 (fun H locs hw => ?_)
  replace hw : mw_W G (mw_ad G) 1229 TF F261 M259 L260 H locs := by rw [eF261]; exact hw
  refine lv_aload_n C.1.1 C.1.2.1 dX19_init_693 rfl (lv_at hl 1 rfl) ?_
  refine mr_getR C hw kc_19 82 (by omega) tf_732 (show F261 732 82 = some 922 by (rw [eF261, mset_k (by omega)]; rw [eF258 732 82 (by omega)]; rw [eF255, mz_n (by omega)]; rw [eF254, mset_k (by omega)]; rw [eF251 732 82 (by omega)]; rw [eF248, mz_n (by omega)]; rw [eF247, mset_k (by omega)]; rw [eF244 732 82 (by omega)]; rw [eF241, mz_n (by omega)]; exact hq_0_82)) wd_2863 dX19_init_694 (by decide) rfl ?_
  refine lv_iload_n C.1.1 C.1.2.1 dX19_init_697 rfl (lv_at hl 0 rfl) ?_
  refine mw_size hw (by omega) (fun hs => ?_)
  obtain ⟨F262, eF262, hD⟩ := g_let hD
  obtain ⟨M263, eM263, hD⟩ := g_let hD
  obtain ⟨L264, eL264, hD⟩ := g_let hD
  refine mr_new C hw hs kc_13 (Mc_T0 (isMc_of (x := 5) (by decide))) wd_2548 wd_2637 wd_20 (by decide +kernel) (Nat.le_of_ble_eq_true rfl) (Nat.le_of_ble_eq_true rfl) dX19_init_698 (fun H hw _ => ?_)
  replace hw : mw_W G (mw_ad G) 1230 TF F262 M263 L264 H locs := by rw [eF262, eM263, eL264]; exact hw
  refine W.widen (k := 497) (n := 936282) (Nat.le_of_ble_eq_true rfl) (Nat.le_of_ble_eq_true rfl) ?_
  refine lv_dup C.1.1 C.1.2.1 dX19_init_701 rfl ?_
  obtain ⟨F265, M266, L267, hc265, hD⟩ := g_b3 hD
  have eF265 : ∀ a j, (a < 1229 ∨ 1259 ≤ a) → F265 a j = F262 a j := fun a j ha => kX13_init hc265 a j (by omega)
  refine mw_size hw (by omega) (fun hs => ?_)
  refine mc_initN (k := 1229) (rest := [.ref (mw_ad G 1229), .int 5, .ref (mw_ad G 922)]) C A hw hs (tX13_init l G fu 1229 F262 M263 L264 hc265 (isMc_of (x := 5) (by decide))) nd_2638 wd_2639 cwX13_init rfl rfl rfl ⟨Nat.le_of_ble_eq_true rfl, Nat.le_of_ble_eq_true rfl⟩ hl.1 (Nat.le_of_ble_eq_true rfl) dX19_init_702 ⟨Nat.le_of_ble_eq_true rfl, Nat.le_of_ble_eq_true rfl⟩ (fun H locs hw _ => ?_)
  replace hw : mw_W G (mw_ad G) 1259 TF F265 M266 L267 H locs := hw
  refine W.widen (k := 526) (n := 946635) (Nat.le_of_ble_eq_true rfl) (Nat.le_of_ble_eq_true rfl) ?_
  obtain ⟨F268, eF268, hD⟩ := g_let hD
  refine mr_aast (t := 10) (n := 12) C hw (by omega) tf_922 (by decide) (by decide) rfl kc_13 (by omega) (Mc_T0 (isMc_of (x := 5) (by decide))) (show vp_in 5 12 from by unfold vp_in; decide) dX19_init_705 (fun H locs hw => ?_)
  replace hw : mw_W G (mw_ad G) 1259 TF F268 M266 L267 H locs := by rw [eF268]; exact hw
  refine lv_iinc (v := 6) (lv' := [(1, .int 6), (0, .ref (mw_ad G 732))]) C.1.1 C.1.2.1 dX19_init_706 hl (k := 0) rfl (by decide) (by decide) rfl (fun ls hl => ?_)
  refine lv_goto (tgt := 674) C.1.1 C.1.2.1 dX19_init_709 (by decide) ?_
  refine lv_iload_n C.1.1 C.1.2.1 dX19_init_674 rfl (lv_at hl 0 rfl) ?_
  refine lv_bipush (v := 12) C.1.1 C.1.2.1 dX19_init_675 (by decide) ?_
  refine lv_icmp_ge (tgt := 712) C.1.1 C.1.2.1 dX19_init_677 (by decide) (fun q => absurd q (by decide)) (fun _ => ?_)
  refine lv_aload_n C.1.1 C.1.2.1 dX19_init_680 rfl (lv_at hl 1 rfl) ?_
  refine mr_getR C hw kc_19 81 (by omega) tf_732 (show F268 732 81 = some 921 by (rw [eF268, mset_k (by omega)]; rw [eF265 732 81 (by omega)]; rw [eF262, mz_n (by omega)]; rw [eF261, mset_k (by omega)]; rw [eF258 732 81 (by omega)]; rw [eF255, mz_n (by omega)]; rw [eF254, mset_k (by omega)]; rw [eF251 732 81 (by omega)]; rw [eF248, mz_n (by omega)]; rw [eF247, mset_k (by omega)]; rw [eF244 732 81 (by omega)]; rw [eF241, mz_n (by omega)]; exact hq_0_81)) wd_2862 dX19_init_681 (by decide) rfl ?_
  refine lv_iload_n C.1.1 C.1.2.1 dX19_init_684 rfl (lv_at hl 0 rfl) ?_
  refine mw_size hw (by omega) (fun hs => ?_)
  obtain ⟨F269, eF269, hD⟩ := g_let hD
  obtain ⟨M270, eM270, hD⟩ := g_let hD
  obtain ⟨L271, eL271, hD⟩ := g_let hD
  refine mr_new C hw hs kc_16 (Mp_T0 (isMp_of (x := 6) (by decide))) wd_2546 wd_2550 wd_19 (by decide +kernel) (Nat.le_of_ble_eq_true rfl) (Nat.le_of_ble_eq_true rfl) dX19_init_685 (fun H hw _ => ?_)
  replace hw : mw_W G (mw_ad G) 1260 TF F269 M270 L271 H locs := by rw [eF269, eM270, eL271]; exact hw
  refine W.widen (k := 527) (n := 946662) (Nat.le_of_ble_eq_true rfl) (Nat.le_of_ble_eq_true rfl) ?_
  refine lv_dup C.1.1 C.1.2.1 dX19_init_688 rfl ?_
  obtain ⟨F272, M273, L274, hc272, hD⟩ := g_b3 hD
  have eF272 : ∀ a j, (a < 1259 ∨ 1282 ≤ a) → F272 a j = F269 a j := fun a j ha => kX16_init hc272 a j (by omega)
  refine mw_size hw (by omega) (fun hs => ?_)
  refine mc_initN (k := 1259) (rest := [.ref (mw_ad G 1259), .int 6, .ref (mw_ad G 921)]) C A hw hs (tX16_init l G fu 1259 F269 M270 L271 hc272 (isMp_of (x := 6) (by decide))) nd_2551 wd_2552 cwX16_init rfl rfl rfl ⟨Nat.le_of_ble_eq_true rfl, Nat.le_of_ble_eq_true rfl⟩ hl.1 (Nat.le_of_ble_eq_true rfl) dX19_init_689 ⟨Nat.le_of_ble_eq_true rfl, Nat.le_of_ble_eq_true rfl⟩ (fun H locs hw _ => ?_)
  replace hw : mw_W G (mw_ad G) 1282 TF F272 M273 L274 H locs := hw
  refine W.widen (k := 549) (n := 953883) (Nat.le_of_ble_eq_true rfl) (Nat.le_of_ble_eq_true rfl) ?_
  obtain ⟨F275, eF275, hD⟩ := g_let hD
  refine mr_aast (t := 9) (n := 12) C hw (by omega) tf_921 (by decide) (by decide) rfl kc_16 (by omega) (Mp_T0 (isMp_of (x := 6) (by decide))) (show vp_in 6 12 from by unfold vp_in; decide) dX19_init_692 (fun H locs hw => ?_)
  replace hw : mw_W G (mw_ad G) 1282 TF F275 M273 L274 H locs := by rw [eF275]; exact hw
  refine lv_aload_n C.1.1 C.1.2.1 dX19_init_693 rfl (lv_at hl 1 rfl) ?_
  refine mr_getR C hw kc_19 82 (by omega) tf_732 (show F275 732 82 = some 922 by (rw [eF275, mset_k (by omega)]; rw [eF272 732 82 (by omega)]; rw [eF269, mz_n (by omega)]; rw [eF268, mset_k (by omega)]; rw [eF265 732 82 (by omega)]; rw [eF262, mz_n (by omega)]; rw [eF261, mset_k (by omega)]; rw [eF258 732 82 (by omega)]; rw [eF255, mz_n (by omega)]; rw [eF254, mset_k (by omega)]; rw [eF251 732 82 (by omega)]; rw [eF248, mz_n (by omega)]; rw [eF247, mset_k (by omega)]; rw [eF244 732 82 (by omega)]; rw [eF241, mz_n (by omega)]; exact hq_0_82)) wd_2863 dX19_init_694 (by decide) rfl ?_
  refine lv_iload_n C.1.1 C.1.2.1 dX19_init_697 rfl (lv_at hl 0 rfl) ?_
  refine mw_size hw (by omega) (fun hs => ?_)
  obtain ⟨F276, eF276, hD⟩ := g_let hD
  obtain ⟨M277, eM277, hD⟩ := g_let hD
  obtain ⟨L278, eL278, hD⟩ := g_let hD
  refine mr_new C hw hs kc_13 (Mc_T0 (isMc_of (x := 6) (by decide))) wd_2548 wd_2637 wd_20 (by decide +kernel) (Nat.le_of_ble_eq_true rfl) (Nat.le_of_ble_eq_true rfl) dX19_init_698 (fun H hw _ => ?_)
  replace hw : mw_W G (mw_ad G) 1283 TF F276 M277 L278 H locs := by rw [eF276, eM277, eL278]; exact hw
  refine W.widen (k := 550) (n := 953925) (Nat.le_of_ble_eq_true rfl) (Nat.le_of_ble_eq_true rfl) ?_
  refine lv_dup C.1.1 C.1.2.1 dX19_init_701 rfl ?_
  obtain ⟨F279, M280, L281, hc279, hD⟩ := g_b3 hD
  have eF279 : ∀ a j, (a < 1282 ∨ 1312 ≤ a) → F279 a j = F276 a j := fun a j ha => kX13_init hc279 a j (by omega)
  refine mw_size hw (by omega) (fun hs => ?_)
  refine mc_initN (k := 1282) (rest := [.ref (mw_ad G 1282), .int 6, .ref (mw_ad G 922)]) C A hw hs (tX13_init l G fu 1282 F276 M277 L278 hc279 (isMc_of (x := 6) (by decide))) nd_2638 wd_2639 cwX13_init rfl rfl rfl ⟨Nat.le_of_ble_eq_true rfl, Nat.le_of_ble_eq_true rfl⟩ hl.1 (Nat.le_of_ble_eq_true rfl) dX19_init_702 ⟨Nat.le_of_ble_eq_true rfl, Nat.le_of_ble_eq_true rfl⟩ (fun H locs hw _ => ?_)
  replace hw : mw_W G (mw_ad G) 1312 TF F279 M280 L281 H locs := hw
  refine W.widen (k := 579) (n := 964278) (Nat.le_of_ble_eq_true rfl) (Nat.le_of_ble_eq_true rfl) ?_
  obtain ⟨F282, eF282, hD⟩ := g_let hD
  refine mr_aast (t := 10) (n := 12) C hw (by omega) tf_922 (by decide) (by decide) rfl kc_13 (by omega) (Mc_T0 (isMc_of (x := 6) (by decide))) (show vp_in 6 12 from by unfold vp_in; decide) dX19_init_705 (fun H locs hw => ?_)
  replace hw : mw_W G (mw_ad G) 1312 TF F282 M280 L281 H locs := by rw [eF282]; exact hw
  refine lv_iinc (v := 7) (lv' := [(1, .int 7), (0, .ref (mw_ad G 732))]) C.1.1 C.1.2.1 dX19_init_706 hl (k := 0) rfl (by decide) (by decide) rfl (fun ls hl => ?_)
  refine lv_goto (tgt := 674) C.1.1 C.1.2.1 dX19_init_709 (by decide) ?_
  refine lv_iload_n C.1.1 C.1.2.1 dX19_init_674 rfl (lv_at hl 0 rfl) ?_
  refine lv_bipush (v := 12) C.1.1 C.1.2.1 dX19_init_675 (by decide) ?_
  refine lv_icmp_ge (tgt := 712) C.1.1 C.1.2.1 dX19_init_677 (by decide) (fun q => absurd q (by decide)) (fun _ => ?_)
  refine lv_aload_n C.1.1 C.1.2.1 dX19_init_680 rfl (lv_at hl 1 rfl) ?_
  refine mr_getR C hw kc_19 81 (by omega) tf_732 (show F282 732 81 = some 921 by (rw [eF282, mset_k (by omega)]; rw [eF279 732 81 (by omega)]; rw [eF276, mz_n (by omega)]; rw [eF275, mset_k (by omega)]; rw [eF272 732 81 (by omega)]; rw [eF269, mz_n (by omega)]; rw [eF268, mset_k (by omega)]; rw [eF265 732 81 (by omega)]; rw [eF262, mz_n (by omega)]; rw [eF261, mset_k (by omega)]; rw [eF258 732 81 (by omega)]; rw [eF255, mz_n (by omega)]; rw [eF254, mset_k (by omega)]; rw [eF251 732 81 (by omega)]; rw [eF248, mz_n (by omega)]; rw [eF247, mset_k (by omega)]; rw [eF244 732 81 (by omega)]; rw [eF241, mz_n (by omega)]; exact hq_0_81)) wd_2862 dX19_init_681 (by decide) rfl ?_
  refine lv_iload_n C.1.1 C.1.2.1 dX19_init_684 rfl (lv_at hl 0 rfl) ?_
  refine mw_size hw (by omega) (fun hs => ?_)
  obtain ⟨F283, eF283, hD⟩ := g_let hD
  obtain ⟨M284, eM284, hD⟩ := g_let hD
  obtain ⟨L285, eL285, hD⟩ := g_let hD
  refine mr_new C hw hs kc_16 (Mp_T0 (isMp_of (x := 7) (by decide))) wd_2546 wd_2550 wd_19 (by decide +kernel) (Nat.le_of_ble_eq_true rfl) (Nat.le_of_ble_eq_true rfl) dX19_init_685 (fun H hw _ => ?_)
  replace hw : mw_W G (mw_ad G) 1313 TF F283 M284 L285 H locs := by rw [eF283, eM284, eL285]; exact hw
  refine W.widen (k := 580) (n := 964305) (Nat.le_of_ble_eq_true rfl) (Nat.le_of_ble_eq_true rfl) ?_
  refine lv_dup C.1.1 C.1.2.1 dX19_init_688 rfl ?_
  obtain ⟨F286, M287, L288, hc286, hD⟩ := g_b3 hD
  have eF286 : ∀ a j, (a < 1312 ∨ 1335 ≤ a) → F286 a j = F283 a j := fun a j ha => kX16_init hc286 a j (by omega)
  refine mw_size hw (by omega) (fun hs => ?_)
  refine mc_initN (k := 1312) (rest := [.ref (mw_ad G 1312), .int 7, .ref (mw_ad G 921)]) C A hw hs (tX16_init l G fu 1312 F283 M284 L285 hc286 (isMp_of (x := 7) (by decide))) nd_2551 wd_2552 cwX16_init rfl rfl rfl ⟨Nat.le_of_ble_eq_true rfl, Nat.le_of_ble_eq_true rfl⟩ hl.1 (Nat.le_of_ble_eq_true rfl) dX19_init_689 ⟨Nat.le_of_ble_eq_true rfl, Nat.le_of_ble_eq_true rfl⟩ (fun H locs hw _ => ?_)
  replace hw : mw_W G (mw_ad G) 1335 TF F286 M287 L288 H locs := hw
  refine W.widen (k := 602) (n := 971526) (Nat.le_of_ble_eq_true rfl) (Nat.le_of_ble_eq_true rfl) ?_
  obtain ⟨F289, eF289, hD⟩ := g_let hD
  refine mr_aast (t := 9) (n := 12) C hw (by omega) tf_921 (by decide) (by decide) rfl kc_16 (by omega) (Mp_T0 (isMp_of (x := 7) (by decide))) (show vp_in 7 12 from by unfold vp_in; decide) dX19_init_692 (fun H locs hw => ?_)
  replace hw : mw_W G (mw_ad G) 1335 TF F289 M287 L288 H locs := by rw [eF289]; exact hw
  refine lv_aload_n C.1.1 C.1.2.1 dX19_init_693 rfl (lv_at hl 1 rfl) ?_
  refine mr_getR C hw kc_19 82 (by omega) tf_732 (show F289 732 82 = some 922 by (rw [eF289, mset_k (by omega)]; rw [eF286 732 82 (by omega)]; rw [eF283, mz_n (by omega)]; rw [eF282, mset_k (by omega)]; rw [eF279 732 82 (by omega)]; rw [eF276, mz_n (by omega)]; rw [eF275, mset_k (by omega)]; rw [eF272 732 82 (by omega)]; rw [eF269, mz_n (by omega)]; rw [eF268, mset_k (by omega)]; rw [eF265 732 82 (by omega)]; rw [eF262, mz_n (by omega)]; rw [eF261, mset_k (by omega)]; rw [eF258 732 82 (by omega)]; rw [eF255, mz_n (by omega)]; rw [eF254, mset_k (by omega)]; rw [eF251 732 82 (by omega)]; rw [eF248, mz_n (by omega)]; rw [eF247, mset_k (by omega)]; rw [eF244 732 82 (by omega)]; rw [eF241, mz_n (by omega)]; exact hq_0_82)) wd_2863 dX19_init_694 (by decide) rfl ?_
  refine lv_iload_n C.1.1 C.1.2.1 dX19_init_697 rfl (lv_at hl 0 rfl) ?_
  refine mw_size hw (by omega) (fun hs => ?_)
  obtain ⟨F290, eF290, hD⟩ := g_let hD
  obtain ⟨M291, eM291, hD⟩ := g_let hD
  obtain ⟨L292, eL292, hD⟩ := g_let hD
  refine mr_new C hw hs kc_13 (Mc_T0 (isMc_of (x := 7) (by decide))) wd_2548 wd_2637 wd_20 (by decide +kernel) (Nat.le_of_ble_eq_true rfl) (Nat.le_of_ble_eq_true rfl) dX19_init_698 (fun H hw _ => ?_)
  replace hw : mw_W G (mw_ad G) 1336 TF F290 M291 L292 H locs := by rw [eF290, eM291, eL292]; exact hw
  refine W.widen (k := 603) (n := 971568) (Nat.le_of_ble_eq_true rfl) (Nat.le_of_ble_eq_true rfl) ?_
  refine lv_dup C.1.1 C.1.2.1 dX19_init_701 rfl ?_
  obtain ⟨F293, M294, L295, hc293, hD⟩ := g_b3 hD
  have eF293 : ∀ a j, (a < 1335 ∨ 1365 ≤ a) → F293 a j = F290 a j := fun a j ha => kX13_init hc293 a j (by omega)
  refine mw_size hw (by omega) (fun hs => ?_)
  refine mc_initN (k := 1335) (rest := [.ref (mw_ad G 1335), .int 7, .ref (mw_ad G 922)]) C A hw hs (tX13_init l G fu 1335 F290 M291 L292 hc293 (isMc_of (x := 7) (by decide))) nd_2638 wd_2639 cwX13_init rfl rfl rfl ⟨Nat.le_of_ble_eq_true rfl, Nat.le_of_ble_eq_true rfl⟩ hl.1 (Nat.le_of_ble_eq_true rfl) dX19_init_702 ⟨Nat.le_of_ble_eq_true rfl, Nat.le_of_ble_eq_true rfl⟩ (fun H locs hw _ => ?_)
  replace hw : mw_W G (mw_ad G) 1365 TF F293 M294 L295 H locs := hw
  refine W.widen (k := 632) (n := 981921) (Nat.le_of_ble_eq_true rfl) (Nat.le_of_ble_eq_true rfl) ?_
  obtain ⟨F296, eF296, hD⟩ := g_let hD
  refine mr_aast (t := 10) (n := 12) C hw (by omega) tf_922 (by decide) (by decide) rfl kc_13 (by omega) (Mc_T0 (isMc_of (x := 7) (by decide))) (show vp_in 7 12 from by unfold vp_in; decide) dX19_init_705 (fun H locs hw => ?_)
  replace hw : mw_W G (mw_ad G) 1365 TF F296 M294 L295 H locs := by rw [eF296]; exact hw
  refine lv_iinc (v := 8) (lv' := [(1, .int 8), (0, .ref (mw_ad G 732))]) C.1.1 C.1.2.1 dX19_init_706 hl (k := 0) rfl (by decide) (by decide) rfl (fun ls hl => ?_)
  refine lv_goto (tgt := 674) C.1.1 C.1.2.1 dX19_init_709 (by decide) ?_
  refine lv_iload_n C.1.1 C.1.2.1 dX19_init_674 rfl (lv_at hl 0 rfl) ?_
  refine lv_bipush (v := 12) C.1.1 C.1.2.1 dX19_init_675 (by decide) ?_
  refine lv_icmp_ge (tgt := 712) C.1.1 C.1.2.1 dX19_init_677 (by decide) (fun q => absurd q (by decide)) (fun _ => ?_)
  refine lv_aload_n C.1.1 C.1.2.1 dX19_init_680 rfl (lv_at hl 1 rfl) ?_
  refine mr_getR C hw kc_19 81 (by omega) tf_732 (show F296 732 81 = some 921 by (rw [eF296, mset_k (by omega)]; rw [eF293 732 81 (by omega)]; rw [eF290, mz_n (by omega)]; rw [eF289, mset_k (by omega)]; rw [eF286 732 81 (by omega)]; rw [eF283, mz_n (by omega)]; rw [eF282, mset_k (by omega)]; rw [eF279 732 81 (by omega)]; rw [eF276, mz_n (by omega)]; rw [eF275, mset_k (by omega)]; rw [eF272 732 81 (by omega)]; rw [eF269, mz_n (by omega)]; rw [eF268, mset_k (by omega)]; rw [eF265 732 81 (by omega)]; rw [eF262, mz_n (by omega)]; rw [eF261, mset_k (by omega)]; rw [eF258 732 81 (by omega)]; rw [eF255, mz_n (by omega)]; rw [eF254, mset_k (by omega)]; rw [eF251 732 81 (by omega)]; rw [eF248, mz_n (by omega)]; rw [eF247, mset_k (by omega)]; rw [eF244 732 81 (by omega)]; rw [eF241, mz_n (by omega)]; exact hq_0_81)) wd_2862 dX19_init_681 (by decide) rfl ?_
  refine lv_iload_n C.1.1 C.1.2.1 dX19_init_684 rfl (lv_at hl 0 rfl) ?_
  refine mw_size hw (by omega) (fun hs => ?_)
  obtain ⟨F297, eF297, hD⟩ := g_let hD
  obtain ⟨M298, eM298, hD⟩ := g_let hD
  obtain ⟨L299, eL299, hD⟩ := g_let hD
  refine mr_new C hw hs kc_16 (Mp_T0 (isMp_of (x := 8) (by decide))) wd_2546 wd_2550 wd_19 (by decide +kernel) (Nat.le_of_ble_eq_true rfl) (Nat.le_of_ble_eq_true rfl) dX19_init_685 (fun H hw _ => ?_)
  replace hw : mw_W G (mw_ad G) 1366 TF F297 M298 L299 H locs := by rw [eF297, eM298, eL299]; exact hw
  refine W.widen (k := 633) (n := 981948) (Nat.le_of_ble_eq_true rfl) (Nat.le_of_ble_eq_true rfl) ?_
  refine lv_dup C.1.1 C.1.2.1 dX19_init_688 rfl ?_
  obtain ⟨F300, M301, L302, hc300, hD⟩ := g_b3 hD
  have eF300 : ∀ a j, (a < 1365 ∨ 1388 ≤ a) → F300 a j = F297 a j := fun a j ha => kX16_init hc300 a j (by omega)
  refine mw_size hw (by omega) (fun hs => ?_)
  refine mc_initN (k := 1365) (rest := [.ref (mw_ad G 1365), .int 8, .ref (mw_ad G 921)]) C A hw hs (tX16_init l G fu 1365 F297 M298 L299 hc300 (isMp_of (x := 8) (by decide))) nd_2551 wd_2552 cwX16_init rfl rfl rfl ⟨Nat.le_of_ble_eq_true rfl, Nat.le_of_ble_eq_true rfl⟩ hl.1 (Nat.le_of_ble_eq_true rfl) dX19_init_689 ⟨Nat.le_of_ble_eq_true rfl, Nat.le_of_ble_eq_true rfl⟩ (fun H locs hw _ => ?_)
  replace hw : mw_W G (mw_ad G) 1388 TF F300 M301 L302 H locs := hw
  refine W.widen (k := 655) (n := 989169) (Nat.le_of_ble_eq_true rfl) (Nat.le_of_ble_eq_true rfl) ?_
  obtain ⟨F303, eF303, hD⟩ := g_let hD
  refine mr_aast (t := 9) (n := 12) C hw (by omega) tf_921 (by decide) (by decide) rfl kc_16 (by omega) (Mp_T0 (isMp_of (x := 8) (by decide))) (show vp_in 8 12 from by unfold vp_in; decide) dX19_init_692 (fun H locs hw => ?_)
  replace hw : mw_W G (mw_ad G) 1388 TF F303 M301 L302 H locs := by rw [eF303]; exact hw
  exact twX19_s7 G fu F303 M301 L302 hD (show F303 732 78 = some 854 by (rw [eF303, mset_k (by omega)]; rw [eF300 732 78 (by omega)]; rw [eF297, mz_n (by omega)]; rw [eF296, mset_k (by omega)]; rw [eF293 732 78 (by omega)]; rw [eF290, mz_n (by omega)]; rw [eF289, mset_k (by omega)]; rw [eF286 732 78 (by omega)]; rw [eF283, mz_n (by omega)]; rw [eF282, mset_k (by omega)]; rw [eF279 732 78 (by omega)]; rw [eF276, mz_n (by omega)]; rw [eF275, mset_k (by omega)]; rw [eF272 732 78 (by omega)]; rw [eF269, mz_n (by omega)]; rw [eF268, mset_k (by omega)]; rw [eF265 732 78 (by omega)]; rw [eF262, mz_n (by omega)]; rw [eF261, mset_k (by omega)]; rw [eF258 732 78 (by omega)]; rw [eF255, mz_n (by omega)]; rw [eF254, mset_k (by omega)]; rw [eF251 732 78 (by omega)]; rw [eF248, mz_n (by omega)]; rw [eF247, mset_k (by omega)]; rw [eF244 732 78 (by omega)]; rw [eF241, mz_n (by omega)]; exact hq_0_78)) (show F303 732 81 = some 921 by (rw [eF303, mset_k (by omega)]; rw [eF300 732 81 (by omega)]; rw [eF297, mz_n (by omega)]; rw [eF296, mset_k (by omega)]; rw [eF293 732 81 (by omega)]; rw [eF290, mz_n (by omega)]; rw [eF289, mset_k (by omega)]; rw [eF286 732 81 (by omega)]; rw [eF283, mz_n (by omega)]; rw [eF282, mset_k (by omega)]; rw [eF279 732 81 (by omega)]; rw [eF276, mz_n (by omega)]; rw [eF275, mset_k (by omega)]; rw [eF272 732 81 (by omega)]; rw [eF269, mz_n (by omega)]; rw [eF268, mset_k (by omega)]; rw [eF265 732 81 (by omega)]; rw [eF262, mz_n (by omega)]; rw [eF261, mset_k (by omega)]; rw [eF258 732 81 (by omega)]; rw [eF255, mz_n (by omega)]; rw [eF254, mset_k (by omega)]; rw [eF251 732 81 (by omega)]; rw [eF248, mz_n (by omega)]; rw [eF247, mset_k (by omega)]; rw [eF244 732 81 (by omega)]; rw [eF241, mz_n (by omega)]; exact hq_0_81)) (show F303 732 82 = some 922 by (rw [eF303, mset_k (by omega)]; rw [eF300 732 82 (by omega)]; rw [eF297, mz_n (by omega)]; rw [eF296, mset_k (by omega)]; rw [eF293 732 82 (by omega)]; rw [eF290, mz_n (by omega)]; rw [eF289, mset_k (by omega)]; rw [eF286 732 82 (by omega)]; rw [eF283, mz_n (by omega)]; rw [eF282, mset_k (by omega)]; rw [eF279 732 82 (by omega)]; rw [eF276, mz_n (by omega)]; rw [eF275, mset_k (by omega)]; rw [eF272 732 82 (by omega)]; rw [eF269, mz_n (by omega)]; rw [eF268, mset_k (by omega)]; rw [eF265 732 82 (by omega)]; rw [eF262, mz_n (by omega)]; rw [eF261, mset_k (by omega)]; rw [eF258 732 82 (by omega)]; rw [eF255, mz_n (by omega)]; rw [eF254, mset_k (by omega)]; rw [eF251 732 82 (by omega)]; rw [eF248, mz_n (by omega)]; rw [eF247, mset_k (by omega)]; rw [eF244 732 82 (by omega)]; rw [eF241, mz_n (by omega)]; exact hq_0_82)) (show F303 854 2 = some 855 by (rw [eF303, mset_k (by omega)]; rw [eF300 854 2 (by omega)]; rw [eF297, mz_n (by omega)]; rw [eF296, mset_k (by omega)]; rw [eF293 854 2 (by omega)]; rw [eF290, mz_n (by omega)]; rw [eF289, mset_k (by omega)]; rw [eF286 854 2 (by omega)]; rw [eF283, mz_n (by omega)]; rw [eF282, mset_k (by omega)]; rw [eF279 854 2 (by omega)]; rw [eF276, mz_n (by omega)]; rw [eF275, mset_k (by omega)]; rw [eF272 854 2 (by omega)]; rw [eF269, mz_n (by omega)]; rw [eF268, mset_k (by omega)]; rw [eF265 854 2 (by omega)]; rw [eF262, mz_n (by omega)]; rw [eF261, mset_k (by omega)]; rw [eF258 854 2 (by omega)]; rw [eF255, mz_n (by omega)]; rw [eF254, mset_k (by omega)]; rw [eF251 854 2 (by omega)]; rw [eF248, mz_n (by omega)]; rw [eF247, mset_k (by omega)]; rw [eF244 854 2 (by omega)]; rw [eF241, mz_n (by omega)]; exact hq_122_2)) (show F303 854 3 = some 856 by (rw [eF303, mset_k (by omega)]; rw [eF300 854 3 (by omega)]; rw [eF297, mz_n (by omega)]; rw [eF296, mset_k (by omega)]; rw [eF293 854 3 (by omega)]; rw [eF290, mz_n (by omega)]; rw [eF289, mset_k (by omega)]; rw [eF286 854 3 (by omega)]; rw [eF283, mz_n (by omega)]; rw [eF282, mset_k (by omega)]; rw [eF279 854 3 (by omega)]; rw [eF276, mz_n (by omega)]; rw [eF275, mset_k (by omega)]; rw [eF272 854 3 (by omega)]; rw [eF269, mz_n (by omega)]; rw [eF268, mset_k (by omega)]; rw [eF265 854 3 (by omega)]; rw [eF262, mz_n (by omega)]; rw [eF261, mset_k (by omega)]; rw [eF258 854 3 (by omega)]; rw [eF255, mz_n (by omega)]; rw [eF254, mset_k (by omega)]; rw [eF251 854 3 (by omega)]; rw [eF248, mz_n (by omega)]; rw [eF247, mset_k (by omega)]; rw [eF244 854 3 (by omega)]; rw [eF241, mz_n (by omega)]; exact hq_122_3)) (show F303 854 4 = some 857 by (rw [eF303, mset_k (by omega)]; rw [eF300 854 4 (by omega)]; rw [eF297, mz_n (by omega)]; rw [eF296, mset_k (by omega)]; rw [eF293 854 4 (by omega)]; rw [eF290, mz_n (by omega)]; rw [eF289, mset_k (by omega)]; rw [eF286 854 4 (by omega)]; rw [eF283, mz_n (by omega)]; rw [eF282, mset_k (by omega)]; rw [eF279 854 4 (by omega)]; rw [eF276, mz_n (by omega)]; rw [eF275, mset_k (by omega)]; rw [eF272 854 4 (by omega)]; rw [eF269, mz_n (by omega)]; rw [eF268, mset_k (by omega)]; rw [eF265 854 4 (by omega)]; rw [eF262, mz_n (by omega)]; rw [eF261, mset_k (by omega)]; rw [eF258 854 4 (by omega)]; rw [eF255, mz_n (by omega)]; rw [eF254, mset_k (by omega)]; rw [eF251 854 4 (by omega)]; rw [eF248, mz_n (by omega)]; rw [eF247, mset_k (by omega)]; rw [eF244 854 4 (by omega)]; rw [eF241, mz_n (by omega)]; exact hq_122_4)) (show F303 854 5 = some 858 by (rw [eF303, mset_k (by omega)]; rw [eF300 854 5 (by omega)]; rw [eF297, mz_n (by omega)]; rw [eF296, mset_k (by omega)]; rw [eF293 854 5 (by omega)]; rw [eF290, mz_n (by omega)]; rw [eF289, mset_k (by omega)]; rw [eF286 854 5 (by omega)]; rw [eF283, mz_n (by omega)]; rw [eF282, mset_k (by omega)]; rw [eF279 854 5 (by omega)]; rw [eF276, mz_n (by omega)]; rw [eF275, mset_k (by omega)]; rw [eF272 854 5 (by omega)]; rw [eF269, mz_n (by omega)]; rw [eF268, mset_k (by omega)]; rw [eF265 854 5 (by omega)]; rw [eF262, mz_n (by omega)]; rw [eF261, mset_k (by omega)]; rw [eF258 854 5 (by omega)]; rw [eF255, mz_n (by omega)]; rw [eF254, mset_k (by omega)]; rw [eF251 854 5 (by omega)]; rw [eF248, mz_n (by omega)]; rw [eF247, mset_k (by omega)]; rw [eF244 854 5 (by omega)]; rw [eF241, mz_n (by omega)]; exact hq_122_5)) (show F303 854 8 = some 859 by (rw [eF303, mset_k (by omega)]; rw [eF300 854 8 (by omega)]; rw [eF297, mz_n (by omega)]; rw [eF296, mset_k (by omega)]; rw [eF293 854 8 (by omega)]; rw [eF290, mz_n (by omega)]; rw [eF289, mset_k (by omega)]; rw [eF286 854 8 (by omega)]; rw [eF283, mz_n (by omega)]; rw [eF282, mset_k (by omega)]; rw [eF279 854 8 (by omega)]; rw [eF276, mz_n (by omega)]; rw [eF275, mset_k (by omega)]; rw [eF272 854 8 (by omega)]; rw [eF269, mz_n (by omega)]; rw [eF268, mset_k (by omega)]; rw [eF265 854 8 (by omega)]; rw [eF262, mz_n (by omega)]; rw [eF261, mset_k (by omega)]; rw [eF258 854 8 (by omega)]; rw [eF255, mz_n (by omega)]; rw [eF254, mset_k (by omega)]; rw [eF251 854 8 (by omega)]; rw [eF248, mz_n (by omega)]; rw [eF247, mset_k (by omega)]; rw [eF244 854 8 (by omega)]; rw [eF241, mz_n (by omega)]; exact hq_122_8)) (show F303 854 10 = some 860 by (rw [eF303, mset_k (by omega)]; rw [eF300 854 10 (by omega)]; rw [eF297, mz_n (by omega)]; rw [eF296, mset_k (by omega)]; rw [eF293 854 10 (by omega)]; rw [eF290, mz_n (by omega)]; rw [eF289, mset_k (by omega)]; rw [eF286 854 10 (by omega)]; rw [eF283, mz_n (by omega)]; rw [eF282, mset_k (by omega)]; rw [eF279 854 10 (by omega)]; rw [eF276, mz_n (by omega)]; rw [eF275, mset_k (by omega)]; rw [eF272 854 10 (by omega)]; rw [eF269, mz_n (by omega)]; rw [eF268, mset_k (by omega)]; rw [eF265 854 10 (by omega)]; rw [eF262, mz_n (by omega)]; rw [eF261, mset_k (by omega)]; rw [eF258 854 10 (by omega)]; rw [eF255, mz_n (by omega)]; rw [eF254, mset_k (by omega)]; rw [eF251 854 10 (by omega)]; rw [eF248, mz_n (by omega)]; rw [eF247, mset_k (by omega)]; rw [eF244 854 10 (by omega)]; rw [eF241, mz_n (by omega)]; exact hq_122_10)) (show F303 854 11 = some 861 by (rw [eF303, mset_k (by omega)]; rw [eF300 854 11 (by omega)]; rw [eF297, mz_n (by omega)]; rw [eF296, mset_k (by omega)]; rw [eF293 854 11 (by omega)]; rw [eF290, mz_n (by omega)]; rw [eF289, mset_k (by omega)]; rw [eF286 854 11 (by omega)]; rw [eF283, mz_n (by omega)]; rw [eF282, mset_k (by omega)]; rw [eF279 854 11 (by omega)]; rw [eF276, mz_n (by omega)]; rw [eF275, mset_k (by omega)]; rw [eF272 854 11 (by omega)]; rw [eF269, mz_n (by omega)]; rw [eF268, mset_k (by omega)]; rw [eF265 854 11 (by omega)]; rw [eF262, mz_n (by omega)]; rw [eF261, mset_k (by omega)]; rw [eF258 854 11 (by omega)]; rw [eF255, mz_n (by omega)]; rw [eF254, mset_k (by omega)]; rw [eF251 854 11 (by omega)]; rw [eF248, mz_n (by omega)]; rw [eF247, mset_k (by omega)]; rw [eF244 854 11 (by omega)]; rw [eF241, mz_n (by omega)]; exact hq_122_11)) (show F303 854 12 = some 862 by (rw [eF303, mset_k (by omega)]; rw [eF300 854 12 (by omega)]; rw [eF297, mz_n (by omega)]; rw [eF296, mset_k (by omega)]; rw [eF293 854 12 (by omega)]; rw [eF290, mz_n (by omega)]; rw [eF289, mset_k (by omega)]; rw [eF286 854 12 (by omega)]; rw [eF283, mz_n (by omega)]; rw [eF282, mset_k (by omega)]; rw [eF279 854 12 (by omega)]; rw [eF276, mz_n (by omega)]; rw [eF275, mset_k (by omega)]; rw [eF272 854 12 (by omega)]; rw [eF269, mz_n (by omega)]; rw [eF268, mset_k (by omega)]; rw [eF265 854 12 (by omega)]; rw [eF262, mz_n (by omega)]; rw [eF261, mset_k (by omega)]; rw [eF258 854 12 (by omega)]; rw [eF255, mz_n (by omega)]; rw [eF254, mset_k (by omega)]; rw [eF251 854 12 (by omega)]; rw [eF248, mz_n (by omega)]; rw [eF247, mset_k (by omega)]; rw [eF244 854 12 (by omega)]; rw [eF241, mz_n (by omega)]; exact hq_122_12)) (show F303 854 13 = some 863 by (rw [eF303, mset_k (by omega)]; rw [eF300 854 13 (by omega)]; rw [eF297, mz_n (by omega)]; rw [eF296, mset_k (by omega)]; rw [eF293 854 13 (by omega)]; rw [eF290, mz_n (by omega)]; rw [eF289, mset_k (by omega)]; rw [eF286 854 13 (by omega)]; rw [eF283, mz_n (by omega)]; rw [eF282, mset_k (by omega)]; rw [eF279 854 13 (by omega)]; rw [eF276, mz_n (by omega)]; rw [eF275, mset_k (by omega)]; rw [eF272 854 13 (by omega)]; rw [eF269, mz_n (by omega)]; rw [eF268, mset_k (by omega)]; rw [eF265 854 13 (by omega)]; rw [eF262, mz_n (by omega)]; rw [eF261, mset_k (by omega)]; rw [eF258 854 13 (by omega)]; rw [eF255, mz_n (by omega)]; rw [eF254, mset_k (by omega)]; rw [eF251 854 13 (by omega)]; rw [eF248, mz_n (by omega)]; rw [eF247, mset_k (by omega)]; rw [eF244 854 13 (by omega)]; rw [eF241, mz_n (by omega)]; exact hq_122_13)) (show F303 854 14 = some 864 by (rw [eF303, mset_k (by omega)]; rw [eF300 854 14 (by omega)]; rw [eF297, mz_n (by omega)]; rw [eF296, mset_k (by omega)]; rw [eF293 854 14 (by omega)]; rw [eF290, mz_n (by omega)]; rw [eF289, mset_k (by omega)]; rw [eF286 854 14 (by omega)]; rw [eF283, mz_n (by omega)]; rw [eF282, mset_k (by omega)]; rw [eF279 854 14 (by omega)]; rw [eF276, mz_n (by omega)]; rw [eF275, mset_k (by omega)]; rw [eF272 854 14 (by omega)]; rw [eF269, mz_n (by omega)]; rw [eF268, mset_k (by omega)]; rw [eF265 854 14 (by omega)]; rw [eF262, mz_n (by omega)]; rw [eF261, mset_k (by omega)]; rw [eF258 854 14 (by omega)]; rw [eF255, mz_n (by omega)]; rw [eF254, mset_k (by omega)]; rw [eF251 854 14 (by omega)]; rw [eF248, mz_n (by omega)]; rw [eF247, mset_k (by omega)]; rw [eF244 854 14 (by omega)]; rw [eF241, mz_n (by omega)]; exact hq_122_14)) (show F303 854 15 = some 865 by (rw [eF303, mset_k (by omega)]; rw [eF300 854 15 (by omega)]; rw [eF297, mz_n (by omega)]; rw [eF296, mset_k (by omega)]; rw [eF293 854 15 (by omega)]; rw [eF290, mz_n (by omega)]; rw [eF289, mset_k (by omega)]; rw [eF286 854 15 (by omega)]; rw [eF283, mz_n (by omega)]; rw [eF282, mset_k (by omega)]; rw [eF279 854 15 (by omega)]; rw [eF276, mz_n (by omega)]; rw [eF275, mset_k (by omega)]; rw [eF272 854 15 (by omega)]; rw [eF269, mz_n (by omega)]; rw [eF268, mset_k (by omega)]; rw [eF265 854 15 (by omega)]; rw [eF262, mz_n (by omega)]; rw [eF261, mset_k (by omega)]; rw [eF258 854 15 (by omega)]; rw [eF255, mz_n (by omega)]; rw [eF254, mset_k (by omega)]; rw [eF251 854 15 (by omega)]; rw [eF248, mz_n (by omega)]; rw [eF247, mset_k (by omega)]; rw [eF244 854 15 (by omega)]; rw [eF241, mz_n (by omega)]; exact hq_122_15)) (show F303 854 16 = some 866 by (rw [eF303, mset_k (by omega)]; rw [eF300 854 16 (by omega)]; rw [eF297, mz_n (by omega)]; rw [eF296, mset_k (by omega)]; rw [eF293 854 16 (by omega)]; rw [eF290, mz_n (by omega)]; rw [eF289, mset_k (by omega)]; rw [eF286 854 16 (by omega)]; rw [eF283, mz_n (by omega)]; rw [eF282, mset_k (by omega)]; rw [eF279 854 16 (by omega)]; rw [eF276, mz_n (by omega)]; rw [eF275, mset_k (by omega)]; rw [eF272 854 16 (by omega)]; rw [eF269, mz_n (by omega)]; rw [eF268, mset_k (by omega)]; rw [eF265 854 16 (by omega)]; rw [eF262, mz_n (by omega)]; rw [eF261, mset_k (by omega)]; rw [eF258 854 16 (by omega)]; rw [eF255, mz_n (by omega)]; rw [eF254, mset_k (by omega)]; rw [eF251 854 16 (by omega)]; rw [eF248, mz_n (by omega)]; rw [eF247, mset_k (by omega)]; rw [eF244 854 16 (by omega)]; rw [eF241, mz_n (by omega)]; exact hq_122_16)) (show F303 854 17 = some 867 by (rw [eF303, mset_k (by omega)]; rw [eF300 854 17 (by omega)]; rw [eF297, mz_n (by omega)]; rw [eF296, mset_k (by omega)]; rw [eF293 854 17 (by omega)]; rw [eF290, mz_n (by omega)]; rw [eF289, mset_k (by omega)]; rw [eF286 854 17 (by omega)]; rw [eF283, mz_n (by omega)]; rw [eF282, mset_k (by omega)]; rw [eF279 854 17 (by omega)]; rw [eF276, mz_n (by omega)]; rw [eF275, mset_k (by omega)]; rw [eF272 854 17 (by omega)]; rw [eF269, mz_n (by omega)]; rw [eF268, mset_k (by omega)]; rw [eF265 854 17 (by omega)]; rw [eF262, mz_n (by omega)]; rw [eF261, mset_k (by omega)]; rw [eF258 854 17 (by omega)]; rw [eF255, mz_n (by omega)]; rw [eF254, mset_k (by omega)]; rw [eF251 854 17 (by omega)]; rw [eF248, mz_n (by omega)]; rw [eF247, mset_k (by omega)]; rw [eF244 854 17 (by omega)]; rw [eF241, mz_n (by omega)]; exact hq_122_17)) (show F303 854 18 = some 868 by (rw [eF303, mset_k (by omega)]; rw [eF300 854 18 (by omega)]; rw [eF297, mz_n (by omega)]; rw [eF296, mset_k (by omega)]; rw [eF293 854 18 (by omega)]; rw [eF290, mz_n (by omega)]; rw [eF289, mset_k (by omega)]; rw [eF286 854 18 (by omega)]; rw [eF283, mz_n (by omega)]; rw [eF282, mset_k (by omega)]; rw [eF279 854 18 (by omega)]; rw [eF276, mz_n (by omega)]; rw [eF275, mset_k (by omega)]; rw [eF272 854 18 (by omega)]; rw [eF269, mz_n (by omega)]; rw [eF268, mset_k (by omega)]; rw [eF265 854 18 (by omega)]; rw [eF262, mz_n (by omega)]; rw [eF261, mset_k (by omega)]; rw [eF258 854 18 (by omega)]; rw [eF255, mz_n (by omega)]; rw [eF254, mset_k (by omega)]; rw [eF251 854 18 (by omega)]; rw [eF248, mz_n (by omega)]; rw [eF247, mset_k (by omega)]; rw [eF244 854 18 (by omega)]; rw [eF241, mz_n (by omega)]; exact hq_122_18)) C A hr hlocks hnm hs0 H locs ls hw hl
set_option maxHeartbeats 4000000 in
set_option maxRecDepth 100000 in
theorem twX19_s5 {p : Program} {l : Launch} {e : Env} {s : State} {m : MethodId} {below : List Frame} {meth : Method} {c : Code} (G : mwG) (fu : Nat) (F180 : mwF) (M179 : mwM) (L152 : mwL) {FZ : mwF} {MZ : mwM} {LZ : mwL} (hD : DX19_s5 fu F180 M179 L152 = some (FZ, MZ, LZ)) (hq_0_78 : F180 732 78 = some 854) (hq_0_81 : F180 732 81 = some 921) (hq_0_82 : F180 732 82 = some 922) (hq_122_2 : F180 854 2 = some 855) (hq_122_3 : F180 854 3 = some 856) (hq_122_4 : F180 854 4 = some 857) (hq_122_5 : F180 854 5 = some 858) (hq_122_8 : F180 854 8 = some 859) (hq_122_10 : F180 854 10 = some 860) (hq_122_11 : F180 854 11 = some 861) (hq_122_12 : F180 854 12 = some 862) (hq_122_13 : F180 854 13 = some 863) (hq_122_14 : F180 854 14 = some 864) (hq_122_15 : F180 854 15 = some 865) (hq_122_16 : F180 854 16 = some 866) (hq_122_17 : F180 854 17 = some 867) (hq_122_18 : F180 854 18 = some 868) (C : mw_C p m c cX19_init 4 s [.ref (mw_ad G 732)].toArray "CarHouseModel" G) (A : mw_KA s) (hr : meth.sig.returnType = none) (hlocks : meth.locks = false) (hnm : meth.name = "<init>") (hs0 : s.heap.size = G.2.2.2.size + 733) (H : Heap) (locs : List Loc) (ls : Array Slot) (hw : mw_W G (mw_ad G) 939 TF F180 M179 L152 H locs) (hl : lv_has ls 4 [(0, .ref (mw_ad G 732))]) : W p l e ({ frames := 5, cells := 844, slots := 1052493, locals := 141 }) s m [.ref (mw_ad G 732)].toArray below meth c H locs 206 840672 (MQ below (mw_QC G 1577 FZ MZ LZ) [.ref (mw_ad G 732)].toArray s 844 1052493 (mw_fr G)) (F0 m 657 ls []) := by
  unfold DX19_s5 at hD
  refine lv_aload_n C.1.1 C.1.2.1 dX19_init_657 rfl (lv_at hl 0 rfl) ?_
  refine lv_iconst (v := 5) C.1.1 C.1.2.1 dX19_init_658 (by decide) ?_
  refine mw_size hw (by omega) (fun hs => ?_)
  obtain ⟨M181, eM181, hD⟩ := g_let hD
  refine mr_newI (atype := .int) (t := 0) (n := 5) C hw hs tf_939 (by decide) rfl wd_91 rfl (fun _ => rfl) (by decide) (by decide) (by decide) (Nat.le_of_ble_eq_true rfl) (Nat.le_of_ble_eq_true rfl) dX19_init_659 (fun H hw _ => ?_)
  replace hw : mw_W G (mw_ad G) 940 TF F180 M181 L152 H locs := by rw [eM181]; exact hw
  refine W.widen (k := 207) (n := 840677) (Nat.le_of_ble_eq_true rfl) (Nat.le_of_ble_eq_true rfl) ?_
  obtain ⟨F182, eF182, hD⟩ := g_let hD
  refine mr_putFR C hw kc_19 109 (by omega) tf_732 wd_2890 dX19_init_661 (by decide) rfl rfl hnm rfl rfl rfl (fun H locs hw => ?_)
  replace hw : mw_W G (mw_ad G) 940 TF F182 M181 L152 H locs := by rw [eF182]; exact hw
  refine lv_aload_n C.1.1 C.1.2.1 dX19_init_664 rfl (lv_at hl 0 rfl) ?_
  refine lv_bipush (v := 100) C.1.1 C.1.2.1 dX19_init_665 (by decide) ?_
  refine mw_size hw (by omega) (fun hs => ?_)
  obtain ⟨M183, eM183, hD⟩ := g_let hD
  refine mr_newI (atype := .int) (t := 0) (n := 100) C hw hs tf_940 (by decide) rfl wd_91 rfl (fun _ => rfl) (by decide) (by decide) (by decide) (Nat.le_of_ble_eq_true rfl) (Nat.le_of_ble_eq_true rfl) dX19_init_667 (fun H hw _ => ?_)
  replace hw : mw_W G (mw_ad G) 941 TF F182 M183 L152 H locs := by rw [eM183]; exact hw
  refine W.widen (k := 208) (n := 840777) (Nat.le_of_ble_eq_true rfl) (Nat.le_of_ble_eq_true rfl) ?_
  obtain ⟨F184, eF184, hD⟩ := g_let hD
  refine mr_putFR C hw kc_19 111 (by omega) tf_732 wd_2892 dX19_init_669 (by decide) rfl rfl hnm rfl rfl rfl (fun H locs hw => ?_)
  replace hw : mw_W G (mw_ad G) 941 TF F184 M183 L152 H locs := by rw [eF184]; exact hw
  refine lv_iconst (v := 0) C.1.1 C.1.2.1 dX19_init_672 (by decide) ?_
  refine lv_istore_n (lv' := [(1, .int 0), (0, .ref (mw_ad G 732))]) C.1.1 C.1.2.1 dX19_init_673 rfl hl (by decide) rfl (fun ls hl => ?_)
  refine lv_iload_n C.1.1 C.1.2.1 dX19_init_674 rfl (lv_at hl 0 rfl) ?_
  refine lv_bipush (v := 12) C.1.1 C.1.2.1 dX19_init_675 (by decide) ?_
  refine lv_icmp_ge (tgt := 712) C.1.1 C.1.2.1 dX19_init_677 (by decide) (fun q => absurd q (by decide)) (fun _ => ?_)
  refine lv_aload_n C.1.1 C.1.2.1 dX19_init_680 rfl (lv_at hl 1 rfl) ?_
  refine mr_getR C hw kc_19 81 (by omega) tf_732 (show F184 732 81 = some 921 by (rw [eF184, mset_j (by decide)]; rw [eF182, mset_j (by decide)]; exact hq_0_81)) wd_2862 dX19_init_681 (by decide) rfl ?_
  refine lv_iload_n C.1.1 C.1.2.1 dX19_init_684 rfl (lv_at hl 0 rfl) ?_
  refine mw_size hw (by omega) (fun hs => ?_)
  obtain ⟨F185, eF185, hD⟩ := g_let hD
  obtain ⟨M186, eM186, hD⟩ := g_let hD
  obtain ⟨L187, eL187, hD⟩ := g_let hD
  refine mr_new C hw hs kc_16 (Mp_T0 (isMp_of (x := 0) (by decide))) wd_2546 wd_2550 wd_19 (by decide +kernel) (Nat.le_of_ble_eq_true rfl) (Nat.le_of_ble_eq_true rfl) dX19_init_685 (fun H hw _ => ?_)
  replace hw : mw_W G (mw_ad G) 942 TF F185 M186 L187 H locs := by rw [eF185, eM186, eL187]; exact hw
  refine W.widen (k := 209) (n := 840804) (Nat.le_of_ble_eq_true rfl) (Nat.le_of_ble_eq_true rfl) ?_
  refine lv_dup C.1.1 C.1.2.1 dX19_init_688 rfl ?_
  obtain ⟨F188, M189, L190, hc188, hD⟩ := g_b3 hD
  have eF188 : ∀ a j, (a < 941 ∨ 964 ≤ a) → F188 a j = F185 a j := fun a j ha => kX16_init hc188 a j (by omega)
  refine mw_size hw (by omega) (fun hs => ?_)
  refine mc_initN (k := 941) (rest := [.ref (mw_ad G 941), .int 0, .ref (mw_ad G 921)]) C A hw hs (tX16_init l G fu 941 F185 M186 L187 hc188 (isMp_of (x := 0) (by decide))) nd_2551 wd_2552 cwX16_init rfl rfl rfl ⟨Nat.le_of_ble_eq_true rfl, Nat.le_of_ble_eq_true rfl⟩ hl.1 (Nat.le_of_ble_eq_true rfl) dX19_init_689 ⟨Nat.le_of_ble_eq_true rfl, Nat.le_of_ble_eq_true rfl⟩ (fun H locs hw _ => ?_)
  replace hw : mw_W G (mw_ad G) 964 TF F188 M189 L190 H locs := hw
  refine W.widen (k := 231) (n := 848025) (Nat.le_of_ble_eq_true rfl) (Nat.le_of_ble_eq_true rfl) ?_
  obtain ⟨F191, eF191, hD⟩ := g_let hD
  refine mr_aast (t := 9) (n := 12) C hw (by omega) tf_921 (by decide) (by decide) rfl kc_16 (by omega) (Mp_T0 (isMp_of (x := 0) (by decide))) (show vp_in 0 12 from by unfold vp_in; decide) dX19_init_692 (fun H locs hw => ?_)
  replace hw : mw_W G (mw_ad G) 964 TF F191 M189 L190 H locs := by rw [eF191]; exact hw
  refine lv_aload_n C.1.1 C.1.2.1 dX19_init_693 rfl (lv_at hl 1 rfl) ?_
  refine mr_getR C hw kc_19 82 (by omega) tf_732 (show F191 732 82 = some 922 by (rw [eF191, mset_k (by omega)]; rw [eF188 732 82 (by omega)]; rw [eF185, mz_n (by omega)]; rw [eF184, mset_j (by decide)]; rw [eF182, mset_j (by decide)]; exact hq_0_82)) wd_2863 dX19_init_694 (by decide) rfl ?_
  refine lv_iload_n C.1.1 C.1.2.1 dX19_init_697 rfl (lv_at hl 0 rfl) ?_
  refine mw_size hw (by omega) (fun hs => ?_)
  obtain ⟨F192, eF192, hD⟩ := g_let hD
  obtain ⟨M193, eM193, hD⟩ := g_let hD
  obtain ⟨L194, eL194, hD⟩ := g_let hD
  refine mr_new C hw hs kc_13 (Mc_T0 (isMc_of (x := 0) (by decide))) wd_2548 wd_2637 wd_20 (by decide +kernel) (Nat.le_of_ble_eq_true rfl) (Nat.le_of_ble_eq_true rfl) dX19_init_698 (fun H hw _ => ?_)
  replace hw : mw_W G (mw_ad G) 965 TF F192 M193 L194 H locs := by rw [eF192, eM193, eL194]; exact hw
  refine W.widen (k := 232) (n := 848067) (Nat.le_of_ble_eq_true rfl) (Nat.le_of_ble_eq_true rfl) ?_
  refine lv_dup C.1.1 C.1.2.1 dX19_init_701 rfl ?_
  obtain ⟨F195, M196, L197, hc195, hD⟩ := g_b3 hD
  have eF195 : ∀ a j, (a < 964 ∨ 994 ≤ a) → F195 a j = F192 a j := fun a j ha => kX13_init hc195 a j (by omega)
  refine mw_size hw (by omega) (fun hs => ?_)
  refine mc_initN (k := 964) (rest := [.ref (mw_ad G 964), .int 0, .ref (mw_ad G 922)]) C A hw hs (tX13_init l G fu 964 F192 M193 L194 hc195 (isMc_of (x := 0) (by decide))) nd_2638 wd_2639 cwX13_init rfl rfl rfl ⟨Nat.le_of_ble_eq_true rfl, Nat.le_of_ble_eq_true rfl⟩ hl.1 (Nat.le_of_ble_eq_true rfl) dX19_init_702 ⟨Nat.le_of_ble_eq_true rfl, Nat.le_of_ble_eq_true rfl⟩ (fun H locs hw _ => ?_)
  replace hw : mw_W G (mw_ad G) 994 TF F195 M196 L197 H locs := hw
  refine W.widen (k := 261) (n := 858420) (Nat.le_of_ble_eq_true rfl) (Nat.le_of_ble_eq_true rfl) ?_
  obtain ⟨F198, eF198, hD⟩ := g_let hD
  refine mr_aast (t := 10) (n := 12) C hw (by omega) tf_922 (by decide) (by decide) rfl kc_13 (by omega) (Mc_T0 (isMc_of (x := 0) (by decide))) (show vp_in 0 12 from by unfold vp_in; decide) dX19_init_705 (fun H locs hw => ?_)
  replace hw : mw_W G (mw_ad G) 994 TF F198 M196 L197 H locs := by rw [eF198]; exact hw
  refine lv_iinc (v := 1) (lv' := [(1, .int 1), (0, .ref (mw_ad G 732))]) C.1.1 C.1.2.1 dX19_init_706 hl (k := 0) rfl (by decide) (by decide) rfl (fun ls hl => ?_)
  refine lv_goto (tgt := 674) C.1.1 C.1.2.1 dX19_init_709 (by decide) ?_
  refine lv_iload_n C.1.1 C.1.2.1 dX19_init_674 rfl (lv_at hl 0 rfl) ?_
  refine lv_bipush (v := 12) C.1.1 C.1.2.1 dX19_init_675 (by decide) ?_
  refine lv_icmp_ge (tgt := 712) C.1.1 C.1.2.1 dX19_init_677 (by decide) (fun q => absurd q (by decide)) (fun _ => ?_)
  refine lv_aload_n C.1.1 C.1.2.1 dX19_init_680 rfl (lv_at hl 1 rfl) ?_
  refine mr_getR C hw kc_19 81 (by omega) tf_732 (show F198 732 81 = some 921 by (rw [eF198, mset_k (by omega)]; rw [eF195 732 81 (by omega)]; rw [eF192, mz_n (by omega)]; rw [eF191, mset_k (by omega)]; rw [eF188 732 81 (by omega)]; rw [eF185, mz_n (by omega)]; rw [eF184, mset_j (by decide)]; rw [eF182, mset_j (by decide)]; exact hq_0_81)) wd_2862 dX19_init_681 (by decide) rfl ?_
  refine lv_iload_n C.1.1 C.1.2.1 dX19_init_684 rfl (lv_at hl 0 rfl) ?_
  refine mw_size hw (by omega) (fun hs => ?_)
  obtain ⟨F199, eF199, hD⟩ := g_let hD
  obtain ⟨M200, eM200, hD⟩ := g_let hD
  obtain ⟨L201, eL201, hD⟩ := g_let hD
  refine mr_new C hw hs kc_16 (Mp_T0 (isMp_of (x := 1) (by decide))) wd_2546 wd_2550 wd_19 (by decide +kernel) (Nat.le_of_ble_eq_true rfl) (Nat.le_of_ble_eq_true rfl) dX19_init_685 (fun H hw _ => ?_)
  replace hw : mw_W G (mw_ad G) 995 TF F199 M200 L201 H locs := by rw [eF199, eM200, eL201]; exact hw
  refine W.widen (k := 262) (n := 858447) (Nat.le_of_ble_eq_true rfl) (Nat.le_of_ble_eq_true rfl) ?_
  refine lv_dup C.1.1 C.1.2.1 dX19_init_688 rfl ?_
  obtain ⟨F202, M203, L204, hc202, hD⟩ := g_b3 hD
  have eF202 : ∀ a j, (a < 994 ∨ 1017 ≤ a) → F202 a j = F199 a j := fun a j ha => kX16_init hc202 a j (by omega)
  refine mw_size hw (by omega) (fun hs => ?_)
  refine mc_initN (k := 994) (rest := [.ref (mw_ad G 994), .int 1, .ref (mw_ad G 921)]) C A hw hs (tX16_init l G fu 994 F199 M200 L201 hc202 (isMp_of (x := 1) (by decide))) nd_2551 wd_2552 cwX16_init rfl rfl rfl ⟨Nat.le_of_ble_eq_true rfl, Nat.le_of_ble_eq_true rfl⟩ hl.1 (Nat.le_of_ble_eq_true rfl) dX19_init_689 ⟨Nat.le_of_ble_eq_true rfl, Nat.le_of_ble_eq_true rfl⟩ (fun H locs hw _ => ?_)
  replace hw : mw_W G (mw_ad G) 1017 TF F202 M203 L204 H locs := hw
  refine W.widen (k := 284) (n := 865668) (Nat.le_of_ble_eq_true rfl) (Nat.le_of_ble_eq_true rfl) ?_
  obtain ⟨F205, eF205, hD⟩ := g_let hD
  refine mr_aast (t := 9) (n := 12) C hw (by omega) tf_921 (by decide) (by decide) rfl kc_16 (by omega) (Mp_T0 (isMp_of (x := 1) (by decide))) (show vp_in 1 12 from by unfold vp_in; decide) dX19_init_692 (fun H locs hw => ?_)
  replace hw : mw_W G (mw_ad G) 1017 TF F205 M203 L204 H locs := by rw [eF205]; exact hw
  refine lv_aload_n C.1.1 C.1.2.1 dX19_init_693 rfl (lv_at hl 1 rfl) ?_
  refine mr_getR C hw kc_19 82 (by omega) tf_732 (show F205 732 82 = some 922 by (rw [eF205, mset_k (by omega)]; rw [eF202 732 82 (by omega)]; rw [eF199, mz_n (by omega)]; rw [eF198, mset_k (by omega)]; rw [eF195 732 82 (by omega)]; rw [eF192, mz_n (by omega)]; rw [eF191, mset_k (by omega)]; rw [eF188 732 82 (by omega)]; rw [eF185, mz_n (by omega)]; rw [eF184, mset_j (by decide)]; rw [eF182, mset_j (by decide)]; exact hq_0_82)) wd_2863 dX19_init_694 (by decide) rfl ?_
  refine lv_iload_n C.1.1 C.1.2.1 dX19_init_697 rfl (lv_at hl 0 rfl) ?_
  refine mw_size hw (by omega) (fun hs => ?_)
  obtain ⟨F206, eF206, hD⟩ := g_let hD
  obtain ⟨M207, eM207, hD⟩ := g_let hD
  obtain ⟨L208, eL208, hD⟩ := g_let hD
  refine mr_new C hw hs kc_13 (Mc_T0 (isMc_of (x := 1) (by decide))) wd_2548 wd_2637 wd_20 (by decide +kernel) (Nat.le_of_ble_eq_true rfl) (Nat.le_of_ble_eq_true rfl) dX19_init_698 (fun H hw _ => ?_)
  replace hw : mw_W G (mw_ad G) 1018 TF F206 M207 L208 H locs := by rw [eF206, eM207, eL208]; exact hw
  refine W.widen (k := 285) (n := 865710) (Nat.le_of_ble_eq_true rfl) (Nat.le_of_ble_eq_true rfl) ?_
  refine lv_dup C.1.1 C.1.2.1 dX19_init_701 rfl ?_
  obtain ⟨F209, M210, L211, hc209, hD⟩ := g_b3 hD
  have eF209 : ∀ a j, (a < 1017 ∨ 1047 ≤ a) → F209 a j = F206 a j := fun a j ha => kX13_init hc209 a j (by omega)
  refine mw_size hw (by omega) (fun hs => ?_)
  refine mc_initN (k := 1017) (rest := [.ref (mw_ad G 1017), .int 1, .ref (mw_ad G 922)]) C A hw hs (tX13_init l G fu 1017 F206 M207 L208 hc209 (isMc_of (x := 1) (by decide))) nd_2638 wd_2639 cwX13_init rfl rfl rfl ⟨Nat.le_of_ble_eq_true rfl, Nat.le_of_ble_eq_true rfl⟩ hl.1 (Nat.le_of_ble_eq_true rfl) dX19_init_702 ⟨Nat.le_of_ble_eq_true rfl, Nat.le_of_ble_eq_true rfl⟩ (fun H locs hw _ => ?_)
  replace hw : mw_W G (mw_ad G) 1047 TF F209 M210 L211 H locs := hw
  refine W.widen (k := 314) (n := 876063) (Nat.le_of_ble_eq_true rfl) (Nat.le_of_ble_eq_true rfl) ?_
  obtain ⟨F212, eF212, hD⟩ := g_let hD
  refine mr_aast (t := 10) (n := 12) C hw (by omega) tf_922 (by decide) (by decide) rfl kc_13 (by omega) (Mc_T0 (isMc_of (x := 1) (by decide))) (show vp_in 1 12 from by unfold vp_in; decide) dX19_init_705 (fun H locs hw => ?_)
  replace hw : mw_W G (mw_ad G) 1047 TF F212 M210 L211 H locs := by rw [eF212]; exact hw
  refine lv_iinc (v := 2) (lv' := [(1, .int 2), (0, .ref (mw_ad G 732))]) C.1.1 C.1.2.1 dX19_init_706 hl (k := 0) rfl (by decide) (by decide) rfl (fun ls hl => ?_)
  refine lv_goto (tgt := 674) C.1.1 C.1.2.1 dX19_init_709 (by decide) ?_
  refine lv_iload_n C.1.1 C.1.2.1 dX19_init_674 rfl (lv_at hl 0 rfl) ?_
  refine lv_bipush (v := 12) C.1.1 C.1.2.1 dX19_init_675 (by decide) ?_
  refine lv_icmp_ge (tgt := 712) C.1.1 C.1.2.1 dX19_init_677 (by decide) (fun q => absurd q (by decide)) (fun _ => ?_)
  refine lv_aload_n C.1.1 C.1.2.1 dX19_init_680 rfl (lv_at hl 1 rfl) ?_
  refine mr_getR C hw kc_19 81 (by omega) tf_732 (show F212 732 81 = some 921 by (rw [eF212, mset_k (by omega)]; rw [eF209 732 81 (by omega)]; rw [eF206, mz_n (by omega)]; rw [eF205, mset_k (by omega)]; rw [eF202 732 81 (by omega)]; rw [eF199, mz_n (by omega)]; rw [eF198, mset_k (by omega)]; rw [eF195 732 81 (by omega)]; rw [eF192, mz_n (by omega)]; rw [eF191, mset_k (by omega)]; rw [eF188 732 81 (by omega)]; rw [eF185, mz_n (by omega)]; rw [eF184, mset_j (by decide)]; rw [eF182, mset_j (by decide)]; exact hq_0_81)) wd_2862 dX19_init_681 (by decide) rfl ?_
  refine lv_iload_n C.1.1 C.1.2.1 dX19_init_684 rfl (lv_at hl 0 rfl) ?_
  refine mw_size hw (by omega) (fun hs => ?_)
  obtain ⟨F213, eF213, hD⟩ := g_let hD
  obtain ⟨M214, eM214, hD⟩ := g_let hD
  obtain ⟨L215, eL215, hD⟩ := g_let hD
  refine mr_new C hw hs kc_16 (Mp_T0 (isMp_of (x := 2) (by decide))) wd_2546 wd_2550 wd_19 (by decide +kernel) (Nat.le_of_ble_eq_true rfl) (Nat.le_of_ble_eq_true rfl) dX19_init_685 (fun H hw _ => ?_)
  replace hw : mw_W G (mw_ad G) 1048 TF F213 M214 L215 H locs := by rw [eF213, eM214, eL215]; exact hw
  refine W.widen (k := 315) (n := 876090) (Nat.le_of_ble_eq_true rfl) (Nat.le_of_ble_eq_true rfl) ?_
  refine lv_dup C.1.1 C.1.2.1 dX19_init_688 rfl ?_
  obtain ⟨F216, M217, L218, hc216, hD⟩ := g_b3 hD
  have eF216 : ∀ a j, (a < 1047 ∨ 1070 ≤ a) → F216 a j = F213 a j := fun a j ha => kX16_init hc216 a j (by omega)
  refine mw_size hw (by omega) (fun hs => ?_)
  refine mc_initN (k := 1047) (rest := [.ref (mw_ad G 1047), .int 2, .ref (mw_ad G 921)]) C A hw hs (tX16_init l G fu 1047 F213 M214 L215 hc216 (isMp_of (x := 2) (by decide))) nd_2551 wd_2552 cwX16_init rfl rfl rfl ⟨Nat.le_of_ble_eq_true rfl, Nat.le_of_ble_eq_true rfl⟩ hl.1 (Nat.le_of_ble_eq_true rfl) dX19_init_689 ⟨Nat.le_of_ble_eq_true rfl, Nat.le_of_ble_eq_true rfl⟩ (fun H locs hw _ => ?_)
  replace hw : mw_W G (mw_ad G) 1070 TF F216 M217 L218 H locs := hw
  refine W.widen (k := 337) (n := 883311) (Nat.le_of_ble_eq_true rfl) (Nat.le_of_ble_eq_true rfl) ?_
  obtain ⟨F219, eF219, hD⟩ := g_let hD
  refine mr_aast (t := 9) (n := 12) C hw (by omega) tf_921 (by decide) (by decide) rfl kc_16 (by omega) (Mp_T0 (isMp_of (x := 2) (by decide))) (show vp_in 2 12 from by unfold vp_in; decide) dX19_init_692 (fun H locs hw => ?_)
  replace hw : mw_W G (mw_ad G) 1070 TF F219 M217 L218 H locs := by rw [eF219]; exact hw
  refine lv_aload_n C.1.1 C.1.2.1 dX19_init_693 rfl (lv_at hl 1 rfl) ?_
  refine mr_getR C hw kc_19 82 (by omega) tf_732 (show F219 732 82 = some 922 by (rw [eF219, mset_k (by omega)]; rw [eF216 732 82 (by omega)]; rw [eF213, mz_n (by omega)]; rw [eF212, mset_k (by omega)]; rw [eF209 732 82 (by omega)]; rw [eF206, mz_n (by omega)]; rw [eF205, mset_k (by omega)]; rw [eF202 732 82 (by omega)]; rw [eF199, mz_n (by omega)]; rw [eF198, mset_k (by omega)]; rw [eF195 732 82 (by omega)]; rw [eF192, mz_n (by omega)]; rw [eF191, mset_k (by omega)]; rw [eF188 732 82 (by omega)]; rw [eF185, mz_n (by omega)]; rw [eF184, mset_j (by decide)]; rw [eF182, mset_j (by decide)]; exact hq_0_82)) wd_2863 dX19_init_694 (by decide) rfl ?_
  refine lv_iload_n C.1.1 C.1.2.1 dX19_init_697 rfl (lv_at hl 0 rfl) ?_
  refine mw_size hw (by omega) (fun hs => ?_)
  obtain ⟨F220, eF220, hD⟩ := g_let hD
  obtain ⟨M221, eM221, hD⟩ := g_let hD
  obtain ⟨L222, eL222, hD⟩ := g_let hD
  refine mr_new C hw hs kc_13 (Mc_T0 (isMc_of (x := 2) (by decide))) wd_2548 wd_2637 wd_20 (by decide +kernel) (Nat.le_of_ble_eq_true rfl) (Nat.le_of_ble_eq_true rfl) dX19_init_698 (fun H hw _ => ?_)
  replace hw : mw_W G (mw_ad G) 1071 TF F220 M221 L222 H locs := by rw [eF220, eM221, eL222]; exact hw
  refine W.widen (k := 338) (n := 883353) (Nat.le_of_ble_eq_true rfl) (Nat.le_of_ble_eq_true rfl) ?_
  refine lv_dup C.1.1 C.1.2.1 dX19_init_701 rfl ?_
  obtain ⟨F223, M224, L225, hc223, hD⟩ := g_b3 hD
  have eF223 : ∀ a j, (a < 1070 ∨ 1100 ≤ a) → F223 a j = F220 a j := fun a j ha => kX13_init hc223 a j (by omega)
  refine mw_size hw (by omega) (fun hs => ?_)
  refine mc_initN (k := 1070) (rest := [.ref (mw_ad G 1070), .int 2, .ref (mw_ad G 922)]) C A hw hs (tX13_init l G fu 1070 F220 M221 L222 hc223 (isMc_of (x := 2) (by decide))) nd_2638 wd_2639 cwX13_init rfl rfl rfl ⟨Nat.le_of_ble_eq_true rfl, Nat.le_of_ble_eq_true rfl⟩ hl.1 (Nat.le_of_ble_eq_true rfl) dX19_init_702 ⟨Nat.le_of_ble_eq_true rfl, Nat.le_of_ble_eq_true rfl⟩ (fun H locs hw _ => ?_)
  replace hw : mw_W G (mw_ad G) 1100 TF F223 M224 L225 H locs := hw
  refine W.widen (k := 367) (n := 893706) (Nat.le_of_ble_eq_true rfl) (Nat.le_of_ble_eq_true rfl) ?_
  obtain ⟨F226, eF226, hD⟩ := g_let hD
  refine mr_aast (t := 10) (n := 12) C hw (by omega) tf_922 (by decide) (by decide) rfl kc_13 (by omega) (Mc_T0 (isMc_of (x := 2) (by decide))) (show vp_in 2 12 from by unfold vp_in; decide) dX19_init_705 (fun H locs hw => ?_)
  replace hw : mw_W G (mw_ad G) 1100 TF F226 M224 L225 H locs := by rw [eF226]; exact hw
  refine lv_iinc (v := 3) (lv' := [(1, .int 3), (0, .ref (mw_ad G 732))]) C.1.1 C.1.2.1 dX19_init_706 hl (k := 0) rfl (by decide) (by decide) rfl (fun ls hl => ?_)
  refine lv_goto (tgt := 674) C.1.1 C.1.2.1 dX19_init_709 (by decide) ?_
  refine lv_iload_n C.1.1 C.1.2.1 dX19_init_674 rfl (lv_at hl 0 rfl) ?_
  refine lv_bipush (v := 12) C.1.1 C.1.2.1 dX19_init_675 (by decide) ?_
  refine lv_icmp_ge (tgt := 712) C.1.1 C.1.2.1 dX19_init_677 (by decide) (fun q => absurd q (by decide)) (fun _ => ?_)
  refine lv_aload_n C.1.1 C.1.2.1 dX19_init_680 rfl (lv_at hl 1 rfl) ?_
  refine mr_getR C hw kc_19 81 (by omega) tf_732 (show F226 732 81 = some 921 by (rw [eF226, mset_k (by omega)]; rw [eF223 732 81 (by omega)]; rw [eF220, mz_n (by omega)]; rw [eF219, mset_k (by omega)]; rw [eF216 732 81 (by omega)]; rw [eF213, mz_n (by omega)]; rw [eF212, mset_k (by omega)]; rw [eF209 732 81 (by omega)]; rw [eF206, mz_n (by omega)]; rw [eF205, mset_k (by omega)]; rw [eF202 732 81 (by omega)]; rw [eF199, mz_n (by omega)]; rw [eF198, mset_k (by omega)]; rw [eF195 732 81 (by omega)]; rw [eF192, mz_n (by omega)]; rw [eF191, mset_k (by omega)]; rw [eF188 732 81 (by omega)]; rw [eF185, mz_n (by omega)]; rw [eF184, mset_j (by decide)]; rw [eF182, mset_j (by decide)]; exact hq_0_81)) wd_2862 dX19_init_681 (by decide) rfl ?_
  refine lv_iload_n C.1.1 C.1.2.1 dX19_init_684 rfl (lv_at hl 0 rfl) ?_
  refine mw_size hw (by omega) (fun hs => ?_)
  obtain ⟨F227, eF227, hD⟩ := g_let hD
  obtain ⟨M228, eM228, hD⟩ := g_let hD
  obtain ⟨L229, eL229, hD⟩ := g_let hD
  refine mr_new C hw hs kc_16 (Mp_T0 (isMp_of (x := 3) (by decide))) wd_2546 wd_2550 wd_19 (by decide +kernel) (Nat.le_of_ble_eq_true rfl) (Nat.le_of_ble_eq_true rfl) dX19_init_685 (fun H hw _ => ?_)
  replace hw : mw_W G (mw_ad G) 1101 TF F227 M228 L229 H locs := by rw [eF227, eM228, eL229]; exact hw
  refine W.widen (k := 368) (n := 893733) (Nat.le_of_ble_eq_true rfl) (Nat.le_of_ble_eq_true rfl) ?_
  refine lv_dup C.1.1 C.1.2.1 dX19_init_688 rfl ?_
  obtain ⟨F230, M231, L232, hc230, hD⟩ := g_b3 hD
  have eF230 : ∀ a j, (a < 1100 ∨ 1123 ≤ a) → F230 a j = F227 a j := fun a j ha => kX16_init hc230 a j (by omega)
  refine mw_size hw (by omega) (fun hs => ?_)
  refine mc_initN (k := 1100) (rest := [.ref (mw_ad G 1100), .int 3, .ref (mw_ad G 921)]) C A hw hs (tX16_init l G fu 1100 F227 M228 L229 hc230 (isMp_of (x := 3) (by decide))) nd_2551 wd_2552 cwX16_init rfl rfl rfl ⟨Nat.le_of_ble_eq_true rfl, Nat.le_of_ble_eq_true rfl⟩ hl.1 (Nat.le_of_ble_eq_true rfl) dX19_init_689 ⟨Nat.le_of_ble_eq_true rfl, Nat.le_of_ble_eq_true rfl⟩ (fun H locs hw _ => ?_)
  replace hw : mw_W G (mw_ad G) 1123 TF F230 M231 L232 H locs := hw
  refine W.widen (k := 390) (n := 900954) (Nat.le_of_ble_eq_true rfl) (Nat.le_of_ble_eq_true rfl) ?_
  obtain ⟨F233, eF233, hD⟩ := g_let hD
  refine mr_aast (t := 9) (n := 12) C hw (by omega) tf_921 (by decide) (by decide) rfl kc_16 (by omega) (Mp_T0 (isMp_of (x := 3) (by decide))) (show vp_in 3 12 from by unfold vp_in; decide) dX19_init_692 (fun H locs hw => ?_)
  replace hw : mw_W G (mw_ad G) 1123 TF F233 M231 L232 H locs := by rw [eF233]; exact hw
  refine lv_aload_n C.1.1 C.1.2.1 dX19_init_693 rfl (lv_at hl 1 rfl) ?_
  refine mr_getR C hw kc_19 82 (by omega) tf_732 (show F233 732 82 = some 922 by (rw [eF233, mset_k (by omega)]; rw [eF230 732 82 (by omega)]; rw [eF227, mz_n (by omega)]; rw [eF226, mset_k (by omega)]; rw [eF223 732 82 (by omega)]; rw [eF220, mz_n (by omega)]; rw [eF219, mset_k (by omega)]; rw [eF216 732 82 (by omega)]; rw [eF213, mz_n (by omega)]; rw [eF212, mset_k (by omega)]; rw [eF209 732 82 (by omega)]; rw [eF206, mz_n (by omega)]; rw [eF205, mset_k (by omega)]; rw [eF202 732 82 (by omega)]; rw [eF199, mz_n (by omega)]; rw [eF198, mset_k (by omega)]; rw [eF195 732 82 (by omega)]; rw [eF192, mz_n (by omega)]; rw [eF191, mset_k (by omega)]; rw [eF188 732 82 (by omega)]; rw [eF185, mz_n (by omega)]; rw [eF184, mset_j (by decide)]; rw [eF182, mset_j (by decide)]; exact hq_0_82)) wd_2863 dX19_init_694 (by decide) rfl ?_
  refine lv_iload_n C.1.1 C.1.2.1 dX19_init_697 rfl (lv_at hl 0 rfl) ?_
  refine mw_size hw (by omega) (fun hs => ?_)
  obtain ⟨F234, eF234, hD⟩ := g_let hD
  obtain ⟨M235, eM235, hD⟩ := g_let hD
  obtain ⟨L236, eL236, hD⟩ := g_let hD
  refine mr_new C hw hs kc_13 (Mc_T0 (isMc_of (x := 3) (by decide))) wd_2548 wd_2637 wd_20 (by decide +kernel) (Nat.le_of_ble_eq_true rfl) (Nat.le_of_ble_eq_true rfl) dX19_init_698 (fun H hw _ => ?_)
  replace hw : mw_W G (mw_ad G) 1124 TF F234 M235 L236 H locs := by rw [eF234, eM235, eL236]; exact hw
  refine W.widen (k := 391) (n := 900996) (Nat.le_of_ble_eq_true rfl) (Nat.le_of_ble_eq_true rfl) ?_
  refine lv_dup C.1.1 C.1.2.1 dX19_init_701 rfl ?_
  obtain ⟨F237, M238, L239, hc237, hD⟩ := g_b3 hD
  have eF237 : ∀ a j, (a < 1123 ∨ 1153 ≤ a) → F237 a j = F234 a j := fun a j ha => kX13_init hc237 a j (by omega)
  refine mw_size hw (by omega) (fun hs => ?_)
  refine mc_initN (k := 1123) (rest := [.ref (mw_ad G 1123), .int 3, .ref (mw_ad G 922)]) C A hw hs (tX13_init l G fu 1123 F234 M235 L236 hc237 (isMc_of (x := 3) (by decide))) nd_2638 wd_2639 cwX13_init rfl rfl rfl ⟨Nat.le_of_ble_eq_true rfl, Nat.le_of_ble_eq_true rfl⟩ hl.1 (Nat.le_of_ble_eq_true rfl) dX19_init_702 ⟨Nat.le_of_ble_eq_true rfl, Nat.le_of_ble_eq_true rfl⟩ (fun H locs hw _ => ?_)
  replace hw : mw_W G (mw_ad G) 1153 TF F237 M238 L239 H locs := hw
  refine W.widen (k := 420) (n := 911349) (Nat.le_of_ble_eq_true rfl) (Nat.le_of_ble_eq_true rfl) ?_
  obtain ⟨F240, eF240, hD⟩ := g_let hD
  refine mr_aast (t := 10) (n := 12) C hw (by omega) tf_922 (by decide) (by decide) rfl kc_13 (by omega) (Mc_T0 (isMc_of (x := 3) (by decide))) (show vp_in 3 12 from by unfold vp_in; decide) dX19_init_705 (fun H locs hw => ?_)
  replace hw : mw_W G (mw_ad G) 1153 TF F240 M238 L239 H locs := by rw [eF240]; exact hw
  refine lv_iinc (v := 4) (lv' := [(1, .int 4), (0, .ref (mw_ad G 732))]) C.1.1 C.1.2.1 dX19_init_706 hl (k := 0) rfl (by decide) (by decide) rfl (fun ls hl => ?_)
  exact twX19_s6 G fu F240 M238 L239 hD (show F240 732 78 = some 854 by (rw [eF240, mset_k (by omega)]; rw [eF237 732 78 (by omega)]; rw [eF234, mz_n (by omega)]; rw [eF233, mset_k (by omega)]; rw [eF230 732 78 (by omega)]; rw [eF227, mz_n (by omega)]; rw [eF226, mset_k (by omega)]; rw [eF223 732 78 (by omega)]; rw [eF220, mz_n (by omega)]; rw [eF219, mset_k (by omega)]; rw [eF216 732 78 (by omega)]; rw [eF213, mz_n (by omega)]; rw [eF212, mset_k (by omega)]; rw [eF209 732 78 (by omega)]; rw [eF206, mz_n (by omega)]; rw [eF205, mset_k (by omega)]; rw [eF202 732 78 (by omega)]; rw [eF199, mz_n (by omega)]; rw [eF198, mset_k (by omega)]; rw [eF195 732 78 (by omega)]; rw [eF192, mz_n (by omega)]; rw [eF191, mset_k (by omega)]; rw [eF188 732 78 (by omega)]; rw [eF185, mz_n (by omega)]; rw [eF184, mset_j (by decide)]; rw [eF182, mset_j (by decide)]; exact hq_0_78)) (show F240 732 81 = some 921 by (rw [eF240, mset_k (by omega)]; rw [eF237 732 81 (by omega)]; rw [eF234, mz_n (by omega)]; rw [eF233, mset_k (by omega)]; rw [eF230 732 81 (by omega)]; rw [eF227, mz_n (by omega)]; rw [eF226, mset_k (by omega)]; rw [eF223 732 81 (by omega)]; rw [eF220, mz_n (by omega)]; rw [eF219, mset_k (by omega)]; rw [eF216 732 81 (by omega)]; rw [eF213, mz_n (by omega)]; rw [eF212, mset_k (by omega)]; rw [eF209 732 81 (by omega)]; rw [eF206, mz_n (by omega)]; rw [eF205, mset_k (by omega)]; rw [eF202 732 81 (by omega)]; rw [eF199, mz_n (by omega)]; rw [eF198, mset_k (by omega)]; rw [eF195 732 81 (by omega)]; rw [eF192, mz_n (by omega)]; rw [eF191, mset_k (by omega)]; rw [eF188 732 81 (by omega)]; rw [eF185, mz_n (by omega)]; rw [eF184, mset_j (by decide)]; rw [eF182, mset_j (by decide)]; exact hq_0_81)) (show F240 732 82 = some 922 by (rw [eF240, mset_k (by omega)]; rw [eF237 732 82 (by omega)]; rw [eF234, mz_n (by omega)]; rw [eF233, mset_k (by omega)]; rw [eF230 732 82 (by omega)]; rw [eF227, mz_n (by omega)]; rw [eF226, mset_k (by omega)]; rw [eF223 732 82 (by omega)]; rw [eF220, mz_n (by omega)]; rw [eF219, mset_k (by omega)]; rw [eF216 732 82 (by omega)]; rw [eF213, mz_n (by omega)]; rw [eF212, mset_k (by omega)]; rw [eF209 732 82 (by omega)]; rw [eF206, mz_n (by omega)]; rw [eF205, mset_k (by omega)]; rw [eF202 732 82 (by omega)]; rw [eF199, mz_n (by omega)]; rw [eF198, mset_k (by omega)]; rw [eF195 732 82 (by omega)]; rw [eF192, mz_n (by omega)]; rw [eF191, mset_k (by omega)]; rw [eF188 732 82 (by omega)]; rw [eF185, mz_n (by omega)]; rw [eF184, mset_j (by decide)]; rw [eF182, mset_j (by decide)]; exact hq_0_82)) (show F240 854 2 = some 855 by (rw [eF240, mset_k (by omega)]; rw [eF237 854 2 (by omega)]; rw [eF234, mz_n (by omega)]; rw [eF233, mset_k (by omega)]; rw [eF230 854 2 (by omega)]; rw [eF227, mz_n (by omega)]; rw [eF226, mset_k (by omega)]; rw [eF223 854 2 (by omega)]; rw [eF220, mz_n (by omega)]; rw [eF219, mset_k (by omega)]; rw [eF216 854 2 (by omega)]; rw [eF213, mz_n (by omega)]; rw [eF212, mset_k (by omega)]; rw [eF209 854 2 (by omega)]; rw [eF206, mz_n (by omega)]; rw [eF205, mset_k (by omega)]; rw [eF202 854 2 (by omega)]; rw [eF199, mz_n (by omega)]; rw [eF198, mset_k (by omega)]; rw [eF195 854 2 (by omega)]; rw [eF192, mz_n (by omega)]; rw [eF191, mset_k (by omega)]; rw [eF188 854 2 (by omega)]; rw [eF185, mz_n (by omega)]; rw [eF184, mset_k (by omega)]; rw [eF182, mset_k (by omega)]; exact hq_122_2)) (show F240 854 3 = some 856 by (rw [eF240, mset_k (by omega)]; rw [eF237 854 3 (by omega)]; rw [eF234, mz_n (by omega)]; rw [eF233, mset_k (by omega)]; rw [eF230 854 3 (by omega)]; rw [eF227, mz_n (by omega)]; rw [eF226, mset_k (by omega)]; rw [eF223 854 3 (by omega)]; rw [eF220, mz_n (by omega)]; rw [eF219, mset_k (by omega)]; rw [eF216 854 3 (by omega)]; rw [eF213, mz_n (by omega)]; rw [eF212, mset_k (by omega)]; rw [eF209 854 3 (by omega)]; rw [eF206, mz_n (by omega)]; rw [eF205, mset_k (by omega)]; rw [eF202 854 3 (by omega)]; rw [eF199, mz_n (by omega)]; rw [eF198, mset_k (by omega)]; rw [eF195 854 3 (by omega)]; rw [eF192, mz_n (by omega)]; rw [eF191, mset_k (by omega)]; rw [eF188 854 3 (by omega)]; rw [eF185, mz_n (by omega)]; rw [eF184, mset_k (by omega)]; rw [eF182, mset_k (by omega)]; exact hq_122_3)) (show F240 854 4 = some 857 by (rw [eF240, mset_k (by omega)]; rw [eF237 854 4 (by omega)]; rw [eF234, mz_n (by omega)]; rw [eF233, mset_k (by omega)]; rw [eF230 854 4 (by omega)]; rw [eF227, mz_n (by omega)]; rw [eF226, mset_k (by omega)]; rw [eF223 854 4 (by omega)]; rw [eF220, mz_n (by omega)]; rw [eF219, mset_k (by omega)]; rw [eF216 854 4 (by omega)]; rw [eF213, mz_n (by omega)]; rw [eF212, mset_k (by omega)]; rw [eF209 854 4 (by omega)]; rw [eF206, mz_n (by omega)]; rw [eF205, mset_k (by omega)]; rw [eF202 854 4 (by omega)]; rw [eF199, mz_n (by omega)]; rw [eF198, mset_k (by omega)]; rw [eF195 854 4 (by omega)]; rw [eF192, mz_n (by omega)]; rw [eF191, mset_k (by omega)]; rw [eF188 854 4 (by omega)]; rw [eF185, mz_n (by omega)]; rw [eF184, mset_k (by omega)]; rw [eF182, mset_k (by omega)]; exact hq_122_4)) (show F240 854 5 = some 858 by (rw [eF240, mset_k (by omega)]; rw [eF237 854 5 (by omega)]; rw [eF234, mz_n (by omega)]; rw [eF233, mset_k (by omega)]; rw [eF230 854 5 (by omega)]; rw [eF227, mz_n (by omega)]; rw [eF226, mset_k (by omega)]; rw [eF223 854 5 (by omega)]; rw [eF220, mz_n (by omega)]; rw [eF219, mset_k (by omega)]; rw [eF216 854 5 (by omega)]; rw [eF213, mz_n (by omega)]; rw [eF212, mset_k (by omega)]; rw [eF209 854 5 (by omega)]; rw [eF206, mz_n (by omega)]; rw [eF205, mset_k (by omega)]; rw [eF202 854 5 (by omega)]; rw [eF199, mz_n (by omega)]; rw [eF198, mset_k (by omega)]; rw [eF195 854 5 (by omega)]; rw [eF192, mz_n (by omega)]; rw [eF191, mset_k (by omega)]; rw [eF188 854 5 (by omega)]; rw [eF185, mz_n (by omega)]; rw [eF184, mset_k (by omega)]; rw [eF182, mset_k (by omega)]; exact hq_122_5)) (show F240 854 8 = some 859 by (rw [eF240, mset_k (by omega)]; rw [eF237 854 8 (by omega)]; rw [eF234, mz_n (by omega)]; rw [eF233, mset_k (by omega)]; rw [eF230 854 8 (by omega)]; rw [eF227, mz_n (by omega)]; rw [eF226, mset_k (by omega)]; rw [eF223 854 8 (by omega)]; rw [eF220, mz_n (by omega)]; rw [eF219, mset_k (by omega)]; rw [eF216 854 8 (by omega)]; rw [eF213, mz_n (by omega)]; rw [eF212, mset_k (by omega)]; rw [eF209 854 8 (by omega)]; rw [eF206, mz_n (by omega)]; rw [eF205, mset_k (by omega)]; rw [eF202 854 8 (by omega)]; rw [eF199, mz_n (by omega)]; rw [eF198, mset_k (by omega)]; rw [eF195 854 8 (by omega)]; rw [eF192, mz_n (by omega)]; rw [eF191, mset_k (by omega)]; rw [eF188 854 8 (by omega)]; rw [eF185, mz_n (by omega)]; rw [eF184, mset_k (by omega)]; rw [eF182, mset_k (by omega)]; exact hq_122_8)) (show F240 854 10 = some 860 by (rw [eF240, mset_k (by omega)]; rw [eF237 854 10 (by omega)]; rw [eF234, mz_n (by omega)]; rw [eF233, mset_k (by omega)]; rw [eF230 854 10 (by omega)]; rw [eF227, mz_n (by omega)]; rw [eF226, mset_k (by omega)]; rw [eF223 854 10 (by omega)]; rw [eF220, mz_n (by omega)]; rw [eF219, mset_k (by omega)]; rw [eF216 854 10 (by omega)]; rw [eF213, mz_n (by omega)]; rw [eF212, mset_k (by omega)]; rw [eF209 854 10 (by omega)]; rw [eF206, mz_n (by omega)]; rw [eF205, mset_k (by omega)]; rw [eF202 854 10 (by omega)]; rw [eF199, mz_n (by omega)]; rw [eF198, mset_k (by omega)]; rw [eF195 854 10 (by omega)]; rw [eF192, mz_n (by omega)]; rw [eF191, mset_k (by omega)]; rw [eF188 854 10 (by omega)]; rw [eF185, mz_n (by omega)]; rw [eF184, mset_k (by omega)]; rw [eF182, mset_k (by omega)]; exact hq_122_10)) (show F240 854 11 = some 861 by (rw [eF240, mset_k (by omega)]; rw [eF237 854 11 (by omega)]; rw [eF234, mz_n (by omega)]; rw [eF233, mset_k (by omega)]; rw [eF230 854 11 (by omega)]; rw [eF227, mz_n (by omega)]; rw [eF226, mset_k (by omega)]; rw [eF223 854 11 (by omega)]; rw [eF220, mz_n (by omega)]; rw [eF219, mset_k (by omega)]; rw [eF216 854 11 (by omega)]; rw [eF213, mz_n (by omega)]; rw [eF212, mset_k (by omega)]; rw [eF209 854 11 (by omega)]; rw [eF206, mz_n (by omega)]; rw [eF205, mset_k (by omega)]; rw [eF202 854 11 (by omega)]; rw [eF199, mz_n (by omega)]; rw [eF198, mset_k (by omega)]; rw [eF195 854 11 (by omega)]; rw [eF192, mz_n (by omega)]; rw [eF191, mset_k (by omega)]; rw [eF188 854 11 (by omega)]; rw [eF185, mz_n (by omega)]; rw [eF184, mset_k (by omega)]; rw [eF182, mset_k (by omega)]; exact hq_122_11)) (show F240 854 12 = some 862 by (rw [eF240, mset_k (by omega)]; rw [eF237 854 12 (by omega)]; rw [eF234, mz_n (by omega)]; rw [eF233, mset_k (by omega)]; rw [eF230 854 12 (by omega)]; rw [eF227, mz_n (by omega)]; rw [eF226, mset_k (by omega)]; rw [eF223 854 12 (by omega)]; rw [eF220, mz_n (by omega)]; rw [eF219, mset_k (by omega)]; rw [eF216 854 12 (by omega)]; rw [eF213, mz_n (by omega)]; rw [eF212, mset_k (by omega)]; rw [eF209 854 12 (by omega)]; rw [eF206, mz_n (by omega)]; rw [eF205, mset_k (by omega)]; rw [eF202 854 12 (by omega)]; rw [eF199, mz_n (by omega)]; rw [eF198, mset_k (by omega)]; rw [eF195 854 12 (by omega)]; rw [eF192, mz_n (by omega)]; rw [eF191, mset_k (by omega)]; rw [eF188 854 12 (by omega)]; rw [eF185, mz_n (by omega)]; rw [eF184, mset_k (by omega)]; rw [eF182, mset_k (by omega)]; exact hq_122_12)) (show F240 854 13 = some 863 by (rw [eF240, mset_k (by omega)]; rw [eF237 854 13 (by omega)]; rw [eF234, mz_n (by omega)]; rw [eF233, mset_k (by omega)]; rw [eF230 854 13 (by omega)]; rw [eF227, mz_n (by omega)]; rw [eF226, mset_k (by omega)]; rw [eF223 854 13 (by omega)]; rw [eF220, mz_n (by omega)]; rw [eF219, mset_k (by omega)]; rw [eF216 854 13 (by omega)]; rw [eF213, mz_n (by omega)]; rw [eF212, mset_k (by omega)]; rw [eF209 854 13 (by omega)]; rw [eF206, mz_n (by omega)]; rw [eF205, mset_k (by omega)]; rw [eF202 854 13 (by omega)]; rw [eF199, mz_n (by omega)]; rw [eF198, mset_k (by omega)]; rw [eF195 854 13 (by omega)]; rw [eF192, mz_n (by omega)]; rw [eF191, mset_k (by omega)]; rw [eF188 854 13 (by omega)]; rw [eF185, mz_n (by omega)]; rw [eF184, mset_k (by omega)]; rw [eF182, mset_k (by omega)]; exact hq_122_13)) (show F240 854 14 = some 864 by (rw [eF240, mset_k (by omega)]; rw [eF237 854 14 (by omega)]; rw [eF234, mz_n (by omega)]; rw [eF233, mset_k (by omega)]; rw [eF230 854 14 (by omega)]; rw [eF227, mz_n (by omega)]; rw [eF226, mset_k (by omega)]; rw [eF223 854 14 (by omega)]; rw [eF220, mz_n (by omega)]; rw [eF219, mset_k (by omega)]; rw [eF216 854 14 (by omega)]; rw [eF213, mz_n (by omega)]; rw [eF212, mset_k (by omega)]; rw [eF209 854 14 (by omega)]; rw [eF206, mz_n (by omega)]; rw [eF205, mset_k (by omega)]; rw [eF202 854 14 (by omega)]; rw [eF199, mz_n (by omega)]; rw [eF198, mset_k (by omega)]; rw [eF195 854 14 (by omega)]; rw [eF192, mz_n (by omega)]; rw [eF191, mset_k (by omega)]; rw [eF188 854 14 (by omega)]; rw [eF185, mz_n (by omega)]; rw [eF184, mset_k (by omega)]; rw [eF182, mset_k (by omega)]; exact hq_122_14)) (show F240 854 15 = some 865 by (rw [eF240, mset_k (by omega)]; rw [eF237 854 15 (by omega)]; rw [eF234, mz_n (by omega)]; rw [eF233, mset_k (by omega)]; rw [eF230 854 15 (by omega)]; rw [eF227, mz_n (by omega)]; rw [eF226, mset_k (by omega)]; rw [eF223 854 15 (by omega)]; rw [eF220, mz_n (by omega)]; rw [eF219, mset_k (by omega)]; rw [eF216 854 15 (by omega)]; rw [eF213, mz_n (by omega)]; rw [eF212, mset_k (by omega)]; rw [eF209 854 15 (by omega)]; rw [eF206, mz_n (by omega)]; rw [eF205, mset_k (by omega)]; rw [eF202 854 15 (by omega)]; rw [eF199, mz_n (by omega)]; rw [eF198, mset_k (by omega)]; rw [eF195 854 15 (by omega)]; rw [eF192, mz_n (by omega)]; rw [eF191, mset_k (by omega)]; rw [eF188 854 15 (by omega)]; rw [eF185, mz_n (by omega)]; rw [eF184, mset_k (by omega)]; rw [eF182, mset_k (by omega)]; exact hq_122_15)) (show F240 854 16 = some 866 by (rw [eF240, mset_k (by omega)]; rw [eF237 854 16 (by omega)]; rw [eF234, mz_n (by omega)]; rw [eF233, mset_k (by omega)]; rw [eF230 854 16 (by omega)]; rw [eF227, mz_n (by omega)]; rw [eF226, mset_k (by omega)]; rw [eF223 854 16 (by omega)]; rw [eF220, mz_n (by omega)]; rw [eF219, mset_k (by omega)]; rw [eF216 854 16 (by omega)]; rw [eF213, mz_n (by omega)]; rw [eF212, mset_k (by omega)]; rw [eF209 854 16 (by omega)]; rw [eF206, mz_n (by omega)]; rw [eF205, mset_k (by omega)]; rw [eF202 854 16 (by omega)]; rw [eF199, mz_n (by omega)]; rw [eF198, mset_k (by omega)]; rw [eF195 854 16 (by omega)]; rw [eF192, mz_n (by omega)]; rw [eF191, mset_k (by omega)]; rw [eF188 854 16 (by omega)]; rw [eF185, mz_n (by omega)]; rw [eF184, mset_k (by omega)]; rw [eF182, mset_k (by omega)]; exact hq_122_16)) (show F240 854 17 = some 867 by (rw [eF240, mset_k (by omega)]; rw [eF237 854 17 (by omega)]; rw [eF234, mz_n (by omega)]; rw [eF233, mset_k (by omega)]; rw [eF230 854 17 (by omega)]; rw [eF227, mz_n (by omega)]; rw [eF226, mset_k (by omega)]; rw [eF223 854 17 (by omega)]; rw [eF220, mz_n (by omega)]; rw [eF219, mset_k (by omega)]; rw [eF216 854 17 (by omega)]; rw [eF213, mz_n (by omega)]; rw [eF212, mset_k (by omega)]; rw [eF209 854 17 (by omega)]; rw [eF206, mz_n (by omega)]; rw [eF205, mset_k (by omega)]; rw [eF202 854 17 (by omega)]; rw [eF199, mz_n (by omega)]; rw [eF198, mset_k (by omega)]; rw [eF195 854 17 (by omega)]; rw [eF192, mz_n (by omega)]; rw [eF191, mset_k (by omega)]; rw [eF188 854 17 (by omega)]; rw [eF185, mz_n (by omega)]; rw [eF184, mset_k (by omega)]; rw [eF182, mset_k (by omega)]; exact hq_122_17)) (show F240 854 18 = some 868 by (rw [eF240, mset_k (by omega)]; rw [eF237 854 18 (by omega)]; rw [eF234, mz_n (by omega)]; rw [eF233, mset_k (by omega)]; rw [eF230 854 18 (by omega)]; rw [eF227, mz_n (by omega)]; rw [eF226, mset_k (by omega)]; rw [eF223 854 18 (by omega)]; rw [eF220, mz_n (by omega)]; rw [eF219, mset_k (by omega)]; rw [eF216 854 18 (by omega)]; rw [eF213, mz_n (by omega)]; rw [eF212, mset_k (by omega)]; rw [eF209 854 18 (by omega)]; rw [eF206, mz_n (by omega)]; rw [eF205, mset_k (by omega)]; rw [eF202 854 18 (by omega)]; rw [eF199, mz_n (by omega)]; rw [eF198, mset_k (by omega)]; rw [eF195 854 18 (by omega)]; rw [eF192, mz_n (by omega)]; rw [eF191, mset_k (by omega)]; rw [eF188 854 18 (by omega)]; rw [eF185, mz_n (by omega)]; rw [eF184, mset_k (by omega)]; rw [eF182, mset_k (by omega)]; exact hq_122_18)) C A hr hlocks hnm hs0 H locs ls hw hl
set_option maxHeartbeats 4000000 in
set_option maxRecDepth 100000 in
theorem twX19_s4 {p : Program} {l : Launch} {e : Env} {s : State} {m : MethodId} {below : List Frame} {meth : Method} {c : Code} (G : mwG) (fu : Nat) (F136 : mwF) (M134 : mwM) (L135 : mwL) {FZ : mwF} {MZ : mwM} {LZ : mwL} (hD : DX19_s4 fu F136 M134 L135 = some (FZ, MZ, LZ)) (hq_0_78 : F136 732 78 = some 854) (hq_122_2 : F136 854 2 = some 855) (hq_122_3 : F136 854 3 = some 856) (hq_122_4 : F136 854 4 = some 857) (hq_122_5 : F136 854 5 = some 858) (hq_122_8 : F136 854 8 = some 859) (hq_122_10 : F136 854 10 = some 860) (hq_122_11 : F136 854 11 = some 861) (hq_122_12 : F136 854 12 = some 862) (hq_122_13 : F136 854 13 = some 863) (hq_122_14 : F136 854 14 = some 864) (hq_122_15 : F136 854 15 = some 865) (hq_122_16 : F136 854 16 = some 866) (hq_122_17 : F136 854 17 = some 867) (hq_122_18 : F136 854 18 = some 868) (C : mw_C p m c cX19_init 4 s [.ref (mw_ad G 732)].toArray "CarHouseModel" G) (A : mw_KA s) (hr : meth.sig.returnType = none) (hlocks : meth.locks = false) (hnm : meth.name = "<init>") (hs0 : s.heap.size = G.2.2.2.size + 733) (H : Heap) (locs : List Loc) (ls : Array Slot) (hw : mw_W G (mw_ad G) 902 TF F136 M134 L135 H locs) (hl : lv_has ls 4 [(0, .ref (mw_ad G 732))]) : W p l e ({ frames := 5, cells := 844, slots := 1052493, locals := 141 }) s m [.ref (mw_ad G 732)].toArray below meth c H locs 169 820002 (MQ below (mw_QC G 1577 FZ MZ LZ) [.ref (mw_ad G 732)].toArray s 844 1052493 (mw_fr G)) (F0 m 490 ls []) := by
  unfold DX19_s4 at hD
  refine lv_aload_n C.1.1 C.1.2.1 dX19_init_490 rfl (lv_at hl 0 rfl) ?_
  refine mw_size hw (by omega) (fun hs => ?_)
  obtain ⟨F137, eF137, hD⟩ := g_let hD
  obtain ⟨M138, eM138, hD⟩ := g_let hD
  obtain ⟨L139, eL139, hD⟩ := g_let hD
  refine mr_new C hw hs kc_18 tf_902 wd_2461 wd_2462 wd_18 (by decide +kernel) (Nat.le_of_ble_eq_true rfl) (Nat.le_of_ble_eq_true rfl) dX19_init_491 (fun H hw _ => ?_)
  replace hw : mw_W G (mw_ad G) 903 TF F137 M138 L139 H locs := by rw [eF137, eM138, eL139]; exact hw
  refine W.widen (k := 170) (n := 820028) (Nat.le_of_ble_eq_true rfl) (Nat.le_of_ble_eq_true rfl) ?_
  refine lv_dup C.1.1 C.1.2.1 dX19_init_494 rfl ?_
  obtain ⟨F140, M141, L142, hc140, hD⟩ := g_b3 hD
  have eF140 : ∀ a j, (a < 902 ∨ 921 ≤ a) → F140 a j = F137 a j := fun a j ha => kX18_init hc140 a j (by omega)
  refine mw_size hw (by omega) (fun hs => ?_)
  refine mc_initN (k := 902) (rest := [.ref (mw_ad G 902), .ref (mw_ad G 732)]) C A hw hs (tX18_init l G fu F137 M138 L139 hc140) nd_2463 wd_2464 cwX18_init rfl rfl rfl ⟨Nat.le_of_ble_eq_true rfl, Nat.le_of_ble_eq_true rfl⟩ hl.1 (Nat.le_of_ble_eq_true rfl) dX19_init_495 ⟨Nat.le_of_ble_eq_true rfl, Nat.le_of_ble_eq_true rfl⟩ (fun H locs hw _ => ?_)
  replace hw : mw_W G (mw_ad G) 921 TF F140 M141 L142 H locs := hw
  refine W.widen (k := 188) (n := 827997) (Nat.le_of_ble_eq_true rfl) (Nat.le_of_ble_eq_true rfl) ?_
  obtain ⟨F143, eF143, hD⟩ := g_let hD
  refine mr_putFR C hw kc_19 80 (by omega) tf_732 wd_2861 dX19_init_498 (by decide) rfl rfl hnm rfl rfl rfl (fun H locs hw => ?_)
  replace hw : mw_W G (mw_ad G) 921 TF F143 M141 L142 H locs := by rw [eF143]; exact hw
  refine lv_aload_n C.1.1 C.1.2.1 dX19_init_501 rfl (lv_at hl 0 rfl) ?_
  refine lv_bipush (v := 12) C.1.1 C.1.2.1 dX19_init_502 (by decide) ?_
  refine mw_size hw (by omega) (fun hs => ?_)
  obtain ⟨F144, eF144, hD⟩ := g_let hD
  refine mr_anew (t := 9) (n := 12) C hw hs tf_921 (by decide) (by decide) rfl wd_2546 (A (.object "CarHouseModel$Pack") (by decide)) (by decide) (by decide) (by decide) (Nat.le_of_ble_eq_true rfl) (Nat.le_of_ble_eq_true rfl) dX19_init_504 (fun H hw _ => ?_)
  replace hw : mw_W G (mw_ad G) 922 TF F144 M141 L142 H locs := by rw [eF144]; exact hw
  refine W.widen (k := 189) (n := 828009) (Nat.le_of_ble_eq_true rfl) (Nat.le_of_ble_eq_true rfl) ?_
  obtain ⟨F145, eF145, hD⟩ := g_let hD
  refine mr_putFR C hw kc_19 81 (by omega) tf_732 wd_2862 dX19_init_507 (by decide) rfl rfl hnm rfl rfl rfl (fun H locs hw => ?_)
  replace hw : mw_W G (mw_ad G) 922 TF F145 M141 L142 H locs := by rw [eF145]; exact hw
  refine lv_aload_n C.1.1 C.1.2.1 dX19_init_510 rfl (lv_at hl 0 rfl) ?_
  refine lv_bipush (v := 12) C.1.1 C.1.2.1 dX19_init_511 (by decide) ?_
  refine mw_size hw (by omega) (fun hs => ?_)
  obtain ⟨F146, eF146, hD⟩ := g_let hD
  refine mr_anew (t := 10) (n := 12) C hw hs tf_922 (by decide) (by decide) rfl wd_2548 (A (.object "CarHouseModel$Chart") (by decide)) (by decide) (by decide) (by decide) (Nat.le_of_ble_eq_true rfl) (Nat.le_of_ble_eq_true rfl) dX19_init_513 (fun H hw _ => ?_)
  replace hw : mw_W G (mw_ad G) 923 TF F146 M141 L142 H locs := by rw [eF146]; exact hw
  refine W.widen (k := 190) (n := 828021) (Nat.le_of_ble_eq_true rfl) (Nat.le_of_ble_eq_true rfl) ?_
  obtain ⟨F147, eF147, hD⟩ := g_let hD
  refine mr_putFR C hw kc_19 82 (by omega) tf_732 wd_2863 dX19_init_516 (by decide) rfl rfl hnm rfl rfl rfl (fun H locs hw => ?_)
  replace hw : mw_W G (mw_ad G) 923 TF F147 M141 L142 H locs := by rw [eF147]; exact hw
  refine lv_aload_n C.1.1 C.1.2.1 dX19_init_519 rfl (lv_at hl 0 rfl) ?_
  refine lv_bipush (v := 6) C.1.1 C.1.2.1 dX19_init_520 (by decide) ?_
  refine mw_size hw (by omega) (fun hs => ?_)
  obtain ⟨M148, eM148, hD⟩ := g_let hD
  refine mr_newI (atype := .boolean) (t := 2) (n := 6) C hw hs tf_923 (by decide) rfl wd_320 rfl (fun _ => rfl) (by decide) (by decide) (by decide) (Nat.le_of_ble_eq_true rfl) (Nat.le_of_ble_eq_true rfl) dX19_init_522 (fun H hw _ => ?_)
  replace hw : mw_W G (mw_ad G) 924 TF F147 M148 L142 H locs := by rw [eM148]; exact hw
  refine W.widen (k := 191) (n := 828027) (Nat.le_of_ble_eq_true rfl) (Nat.le_of_ble_eq_true rfl) ?_
  obtain ⟨F149, eF149, hD⟩ := g_let hD
  refine mr_putFR C hw kc_19 84 (by omega) tf_732 wd_2865 dX19_init_524 (by decide) rfl rfl hnm rfl rfl rfl (fun H locs hw => ?_)
  replace hw : mw_W G (mw_ad G) 924 TF F149 M148 L142 H locs := by rw [eF149]; exact hw
  refine lv_aload_n C.1.1 C.1.2.1 dX19_init_527 rfl (lv_at hl 0 rfl) ?_
  refine lv_bipush (v := 7) C.1.1 C.1.2.1 dX19_init_528 (by decide) ?_
  refine mw_size hw (by omega) (fun hs => ?_)
  obtain ⟨M150, eM150, hD⟩ := g_let hD
  refine mr_newI (atype := .int) (t := 0) (n := 7) C hw hs tf_924 (by decide) rfl wd_91 rfl (fun _ => rfl) (by decide) (by decide) (by decide) (Nat.le_of_ble_eq_true rfl) (Nat.le_of_ble_eq_true rfl) dX19_init_530 (fun H hw _ => ?_)
  replace hw : mw_W G (mw_ad G) 925 TF F149 M150 L142 H locs := by rw [eM150]; exact hw
  refine W.widen (k := 192) (n := 828034) (Nat.le_of_ble_eq_true rfl) (Nat.le_of_ble_eq_true rfl) ?_
  obtain ⟨F151, eF151, hD⟩ := g_let hD
  refine mr_putFR C hw kc_19 85 (by omega) tf_732 wd_2866 dX19_init_532 (by decide) rfl rfl hnm rfl rfl rfl (fun H locs hw => ?_)
  replace hw : mw_W G (mw_ad G) 925 TF F151 M150 L142 H locs := by rw [eF151]; exact hw
  refine lv_aload_n C.1.1 C.1.2.1 dX19_init_535 rfl (lv_at hl 0 rfl) ?_
  refine lv_bipush (v := 12) C.1.1 C.1.2.1 dX19_init_536 (by decide) ?_
  refine mw_size hw (by omega) (fun hs => ?_)
  obtain ⟨L152, eL152, hD⟩ := g_let hD
  refine mr_newL (n := 12) C hw hs tf_925 wd_509 (by decide) (by decide) (by decide) (Nat.le_of_ble_eq_true rfl) (Nat.le_of_ble_eq_true rfl) dX19_init_538 (fun H hw _ => ?_)
  replace hw : mw_W G (mw_ad G) 926 TF F151 M150 L152 H locs := by rw [eL152]; exact hw
  refine W.widen (k := 193) (n := 828046) (Nat.le_of_ble_eq_true rfl) (Nat.le_of_ble_eq_true rfl) ?_
  obtain ⟨F153, eF153, hD⟩ := g_let hD
  refine mr_putFR C hw kc_19 86 (by omega) tf_732 wd_2867 dX19_init_540 (by decide) rfl rfl hnm rfl rfl rfl (fun H locs hw => ?_)
  replace hw : mw_W G (mw_ad G) 926 TF F153 M150 L152 H locs := by rw [eF153]; exact hw
  refine lv_aload_n C.1.1 C.1.2.1 dX19_init_543 rfl (lv_at hl 0 rfl) ?_
  refine lv_bipush (v := 8) C.1.1 C.1.2.1 dX19_init_544 (by decide) ?_
  refine mw_size hw (by omega) (fun hs => ?_)
  obtain ⟨M154, eM154, hD⟩ := g_let hD
  refine mr_newI (atype := .int) (t := 0) (n := 8) C hw hs tf_926 (by decide) rfl wd_91 rfl (fun _ => rfl) (by decide) (by decide) (by decide) (Nat.le_of_ble_eq_true rfl) (Nat.le_of_ble_eq_true rfl) dX19_init_546 (fun H hw _ => ?_)
  replace hw : mw_W G (mw_ad G) 927 TF F153 M154 L152 H locs := by rw [eM154]; exact hw
  refine W.widen (k := 194) (n := 828054) (Nat.le_of_ble_eq_true rfl) (Nat.le_of_ble_eq_true rfl) ?_
  obtain ⟨F155, eF155, hD⟩ := g_let hD
  refine mr_putFR C hw kc_19 87 (by omega) tf_732 wd_2868 dX19_init_548 (by decide) rfl rfl hnm rfl rfl rfl (fun H locs hw => ?_)
  replace hw : mw_W G (mw_ad G) 927 TF F155 M154 L152 H locs := by rw [eF155]; exact hw
  refine lv_aload_n C.1.1 C.1.2.1 dX19_init_551 rfl (lv_at hl 0 rfl) ?_
  refine lv_bipush (v := 101) C.1.1 C.1.2.1 dX19_init_552 (by decide) ?_
  refine mw_size hw (by omega) (fun hs => ?_)
  obtain ⟨M156, eM156, hD⟩ := g_let hD
  refine mr_newI (atype := .int) (t := 0) (n := 101) C hw hs tf_927 (by decide) rfl wd_91 rfl (fun _ => rfl) (by decide) (by decide) (by decide) (Nat.le_of_ble_eq_true rfl) (Nat.le_of_ble_eq_true rfl) dX19_init_554 (fun H hw _ => ?_)
  replace hw : mw_W G (mw_ad G) 928 TF F155 M156 L152 H locs := by rw [eM156]; exact hw
  refine W.widen (k := 195) (n := 828155) (Nat.le_of_ble_eq_true rfl) (Nat.le_of_ble_eq_true rfl) ?_
  obtain ⟨F157, eF157, hD⟩ := g_let hD
  refine mr_putFR C hw kc_19 89 (by omega) tf_732 wd_2870 dX19_init_556 (by decide) rfl rfl hnm rfl rfl rfl (fun H locs hw => ?_)
  replace hw : mw_W G (mw_ad G) 928 TF F157 M156 L152 H locs := by rw [eF157]; exact hw
  refine lv_aload_n C.1.1 C.1.2.1 dX19_init_559 rfl (lv_at hl 0 rfl) ?_
  refine lv_bipush (v := 101) C.1.1 C.1.2.1 dX19_init_560 (by decide) ?_
  refine mw_size hw (by omega) (fun hs => ?_)
  obtain ⟨M158, eM158, hD⟩ := g_let hD
  refine mr_newI (atype := .boolean) (t := 2) (n := 101) C hw hs tf_928 (by decide) rfl wd_320 rfl (fun _ => rfl) (by decide) (by decide) (by decide) (Nat.le_of_ble_eq_true rfl) (Nat.le_of_ble_eq_true rfl) dX19_init_562 (fun H hw _ => ?_)
  replace hw : mw_W G (mw_ad G) 929 TF F157 M158 L152 H locs := by rw [eM158]; exact hw
  refine W.widen (k := 196) (n := 828256) (Nat.le_of_ble_eq_true rfl) (Nat.le_of_ble_eq_true rfl) ?_
  obtain ⟨F159, eF159, hD⟩ := g_let hD
  refine mr_putFR C hw kc_19 90 (by omega) tf_732 wd_2871 dX19_init_564 (by decide) rfl rfl hnm rfl rfl rfl (fun H locs hw => ?_)
  replace hw : mw_W G (mw_ad G) 929 TF F159 M158 L152 H locs := by rw [eF159]; exact hw
  refine lv_aload_n C.1.1 C.1.2.1 dX19_init_567 rfl (lv_at hl 0 rfl) ?_
  refine lv_sipush (v := 6001) C.1.1 C.1.2.1 dX19_init_568 (by decide) ?_
  refine mw_size hw (by omega) (fun hs => ?_)
  obtain ⟨M160, eM160, hD⟩ := g_let hD
  refine mr_newI (atype := .int) (t := 0) (n := 6001) C hw hs tf_929 (by decide) rfl wd_91 rfl (fun _ => rfl) (by decide) (by decide) (by decide) (Nat.le_of_ble_eq_true rfl) (Nat.le_of_ble_eq_true rfl) dX19_init_571 (fun H hw _ => ?_)
  replace hw : mw_W G (mw_ad G) 930 TF F159 M160 L152 H locs := by rw [eM160]; exact hw
  refine W.widen (k := 197) (n := 834257) (Nat.le_of_ble_eq_true rfl) (Nat.le_of_ble_eq_true rfl) ?_
  obtain ⟨F161, eF161, hD⟩ := g_let hD
  refine mr_putFR C hw kc_19 92 (by omega) tf_732 wd_2873 dX19_init_573 (by decide) rfl rfl hnm rfl rfl rfl (fun H locs hw => ?_)
  replace hw : mw_W G (mw_ad G) 930 TF F161 M160 L152 H locs := by rw [eF161]; exact hw
  refine lv_aload_n C.1.1 C.1.2.1 dX19_init_576 rfl (lv_at hl 0 rfl) ?_
  refine lv_sipush (v := 6001) C.1.1 C.1.2.1 dX19_init_577 (by decide) ?_
  refine mw_size hw (by omega) (fun hs => ?_)
  obtain ⟨M162, eM162, hD⟩ := g_let hD
  refine mr_newI (atype := .int) (t := 0) (n := 6001) C hw hs tf_930 (by decide) rfl wd_91 rfl (fun _ => rfl) (by decide) (by decide) (by decide) (Nat.le_of_ble_eq_true rfl) (Nat.le_of_ble_eq_true rfl) dX19_init_580 (fun H hw _ => ?_)
  replace hw : mw_W G (mw_ad G) 931 TF F161 M162 L152 H locs := by rw [eM162]; exact hw
  refine W.widen (k := 198) (n := 840258) (Nat.le_of_ble_eq_true rfl) (Nat.le_of_ble_eq_true rfl) ?_
  obtain ⟨F163, eF163, hD⟩ := g_let hD
  refine mr_putFR C hw kc_19 93 (by omega) tf_732 wd_2874 dX19_init_582 (by decide) rfl rfl hnm rfl rfl rfl (fun H locs hw => ?_)
  replace hw : mw_W G (mw_ad G) 931 TF F163 M162 L152 H locs := by rw [eF163]; exact hw
  refine lv_aload_n C.1.1 C.1.2.1 dX19_init_585 rfl (lv_at hl 0 rfl) ?_
  refine lv_iconst (v := (-1)) C.1.1 C.1.2.1 dX19_init_586 (by decide) ?_
  obtain ⟨M164, eM164, hD⟩ := g_let hD
  refine mr_putI C hw kc_19 97 (by omega) tf_732 wd_2878 dX19_init_587 (by decide) rfl rfl rfl rfl (fun H locs hw => ?_)
  replace hw : mw_W G (mw_ad G) 931 TF F163 M164 L152 H locs := by rw [eM164]; exact hw
  refine lv_aload_n C.1.1 C.1.2.1 dX19_init_590 rfl (lv_at hl 0 rfl) ?_
  refine lv_sipush (v := 128) C.1.1 C.1.2.1 dX19_init_591 (by decide) ?_
  refine mw_size hw (by omega) (fun hs => ?_)
  obtain ⟨M165, eM165, hD⟩ := g_let hD
  refine mr_newI (atype := .int) (t := 0) (n := 128) C hw hs tf_931 (by decide) rfl wd_91 rfl (fun _ => rfl) (by decide) (by decide) (by decide) (Nat.le_of_ble_eq_true rfl) (Nat.le_of_ble_eq_true rfl) dX19_init_594 (fun H hw _ => ?_)
  replace hw : mw_W G (mw_ad G) 932 TF F163 M165 L152 H locs := by rw [eM165]; exact hw
  refine W.widen (k := 199) (n := 840386) (Nat.le_of_ble_eq_true rfl) (Nat.le_of_ble_eq_true rfl) ?_
  obtain ⟨F166, eF166, hD⟩ := g_let hD
  refine mr_putFR C hw kc_19 99 (by omega) tf_732 wd_2880 dX19_init_596 (by decide) rfl rfl hnm rfl rfl rfl (fun H locs hw => ?_)
  replace hw : mw_W G (mw_ad G) 932 TF F166 M165 L152 H locs := by rw [eF166]; exact hw
  refine lv_aload_n C.1.1 C.1.2.1 dX19_init_599 rfl (lv_at hl 0 rfl) ?_
  refine lv_sipush (v := 128) C.1.1 C.1.2.1 dX19_init_600 (by decide) ?_
  refine mw_size hw (by omega) (fun hs => ?_)
  obtain ⟨M167, eM167, hD⟩ := g_let hD
  refine mr_newI (atype := .int) (t := 0) (n := 128) C hw hs tf_932 (by decide) rfl wd_91 rfl (fun _ => rfl) (by decide) (by decide) (by decide) (Nat.le_of_ble_eq_true rfl) (Nat.le_of_ble_eq_true rfl) dX19_init_603 (fun H hw _ => ?_)
  replace hw : mw_W G (mw_ad G) 933 TF F166 M167 L152 H locs := by rw [eM167]; exact hw
  refine W.widen (k := 200) (n := 840514) (Nat.le_of_ble_eq_true rfl) (Nat.le_of_ble_eq_true rfl) ?_
  obtain ⟨F168, eF168, hD⟩ := g_let hD
  refine mr_putFR C hw kc_19 100 (by omega) tf_732 wd_2881 dX19_init_605 (by decide) rfl rfl hnm rfl rfl rfl (fun H locs hw => ?_)
  replace hw : mw_W G (mw_ad G) 933 TF F168 M167 L152 H locs := by rw [eF168]; exact hw
  refine lv_aload_n C.1.1 C.1.2.1 dX19_init_608 rfl (lv_at hl 0 rfl) ?_
  refine lv_sipush (v := 128) C.1.1 C.1.2.1 dX19_init_609 (by decide) ?_
  refine mw_size hw (by omega) (fun hs => ?_)
  obtain ⟨M169, eM169, hD⟩ := g_let hD
  refine mr_newI (atype := .int) (t := 0) (n := 128) C hw hs tf_933 (by decide) rfl wd_91 rfl (fun _ => rfl) (by decide) (by decide) (by decide) (Nat.le_of_ble_eq_true rfl) (Nat.le_of_ble_eq_true rfl) dX19_init_612 (fun H hw _ => ?_)
  replace hw : mw_W G (mw_ad G) 934 TF F168 M169 L152 H locs := by rw [eM169]; exact hw
  refine W.widen (k := 201) (n := 840642) (Nat.le_of_ble_eq_true rfl) (Nat.le_of_ble_eq_true rfl) ?_
  obtain ⟨F170, eF170, hD⟩ := g_let hD
  refine mr_putFR C hw kc_19 101 (by omega) tf_732 wd_2882 dX19_init_614 (by decide) rfl rfl hnm rfl rfl rfl (fun H locs hw => ?_)
  replace hw : mw_W G (mw_ad G) 934 TF F170 M169 L152 H locs := by rw [eF170]; exact hw
  refine lv_aload_n C.1.1 C.1.2.1 dX19_init_617 rfl (lv_at hl 0 rfl) ?_
  refine lv_bipush (v := 6) C.1.1 C.1.2.1 dX19_init_618 (by decide) ?_
  refine mw_size hw (by omega) (fun hs => ?_)
  obtain ⟨M171, eM171, hD⟩ := g_let hD
  refine mr_newI (atype := .int) (t := 0) (n := 6) C hw hs tf_934 (by decide) rfl wd_91 rfl (fun _ => rfl) (by decide) (by decide) (by decide) (Nat.le_of_ble_eq_true rfl) (Nat.le_of_ble_eq_true rfl) dX19_init_620 (fun H hw _ => ?_)
  replace hw : mw_W G (mw_ad G) 935 TF F170 M171 L152 H locs := by rw [eM171]; exact hw
  refine W.widen (k := 202) (n := 840648) (Nat.le_of_ble_eq_true rfl) (Nat.le_of_ble_eq_true rfl) ?_
  obtain ⟨F172, eF172, hD⟩ := g_let hD
  refine mr_putFR C hw kc_19 103 (by omega) tf_732 wd_2884 dX19_init_622 (by decide) rfl rfl hnm rfl rfl rfl (fun H locs hw => ?_)
  replace hw : mw_W G (mw_ad G) 935 TF F172 M171 L152 H locs := by rw [eF172]; exact hw
  refine lv_aload_n C.1.1 C.1.2.1 dX19_init_625 rfl (lv_at hl 0 rfl) ?_
  refine lv_bipush (v := 6) C.1.1 C.1.2.1 dX19_init_626 (by decide) ?_
  refine mw_size hw (by omega) (fun hs => ?_)
  obtain ⟨M173, eM173, hD⟩ := g_let hD
  refine mr_newI (atype := .boolean) (t := 2) (n := 6) C hw hs tf_935 (by decide) rfl wd_320 rfl (fun _ => rfl) (by decide) (by decide) (by decide) (Nat.le_of_ble_eq_true rfl) (Nat.le_of_ble_eq_true rfl) dX19_init_628 (fun H hw _ => ?_)
  replace hw : mw_W G (mw_ad G) 936 TF F172 M173 L152 H locs := by rw [eM173]; exact hw
  refine W.widen (k := 203) (n := 840654) (Nat.le_of_ble_eq_true rfl) (Nat.le_of_ble_eq_true rfl) ?_
  obtain ⟨F174, eF174, hD⟩ := g_let hD
  refine mr_putFR C hw kc_19 104 (by omega) tf_732 wd_2885 dX19_init_630 (by decide) rfl rfl hnm rfl rfl rfl (fun H locs hw => ?_)
  replace hw : mw_W G (mw_ad G) 936 TF F174 M173 L152 H locs := by rw [eF174]; exact hw
  refine lv_aload_n C.1.1 C.1.2.1 dX19_init_633 rfl (lv_at hl 0 rfl) ?_
  refine lv_bipush (v := 6) C.1.1 C.1.2.1 dX19_init_634 (by decide) ?_
  refine mw_size hw (by omega) (fun hs => ?_)
  obtain ⟨M175, eM175, hD⟩ := g_let hD
  refine mr_newI (atype := .boolean) (t := 2) (n := 6) C hw hs tf_936 (by decide) rfl wd_320 rfl (fun _ => rfl) (by decide) (by decide) (by decide) (Nat.le_of_ble_eq_true rfl) (Nat.le_of_ble_eq_true rfl) dX19_init_636 (fun H hw _ => ?_)
  replace hw : mw_W G (mw_ad G) 937 TF F174 M175 L152 H locs := by rw [eM175]; exact hw
  refine W.widen (k := 204) (n := 840660) (Nat.le_of_ble_eq_true rfl) (Nat.le_of_ble_eq_true rfl) ?_
  obtain ⟨F176, eF176, hD⟩ := g_let hD
  refine mr_putFR C hw kc_19 105 (by omega) tf_732 wd_2886 dX19_init_638 (by decide) rfl rfl hnm rfl rfl rfl (fun H locs hw => ?_)
  replace hw : mw_W G (mw_ad G) 937 TF F176 M175 L152 H locs := by rw [eF176]; exact hw
  refine lv_aload_n C.1.1 C.1.2.1 dX19_init_641 rfl (lv_at hl 0 rfl) ?_
  refine lv_bipush (v := 6) C.1.1 C.1.2.1 dX19_init_642 (by decide) ?_
  refine mw_size hw (by omega) (fun hs => ?_)
  obtain ⟨M177, eM177, hD⟩ := g_let hD
  refine mr_newI (atype := .int) (t := 0) (n := 6) C hw hs tf_937 (by decide) rfl wd_91 rfl (fun _ => rfl) (by decide) (by decide) (by decide) (Nat.le_of_ble_eq_true rfl) (Nat.le_of_ble_eq_true rfl) dX19_init_644 (fun H hw _ => ?_)
  replace hw : mw_W G (mw_ad G) 938 TF F176 M177 L152 H locs := by rw [eM177]; exact hw
  refine W.widen (k := 205) (n := 840666) (Nat.le_of_ble_eq_true rfl) (Nat.le_of_ble_eq_true rfl) ?_
  obtain ⟨F178, eF178, hD⟩ := g_let hD
  refine mr_putFR C hw kc_19 106 (by omega) tf_732 wd_2887 dX19_init_646 (by decide) rfl rfl hnm rfl rfl rfl (fun H locs hw => ?_)
  replace hw : mw_W G (mw_ad G) 938 TF F178 M177 L152 H locs := by rw [eF178]; exact hw
  refine lv_aload_n C.1.1 C.1.2.1 dX19_init_649 rfl (lv_at hl 0 rfl) ?_
  refine lv_bipush (v := 6) C.1.1 C.1.2.1 dX19_init_650 (by decide) ?_
  refine mw_size hw (by omega) (fun hs => ?_)
  obtain ⟨M179, eM179, hD⟩ := g_let hD
  refine mr_newI (atype := .int) (t := 0) (n := 6) C hw hs tf_938 (by decide) rfl wd_91 rfl (fun _ => rfl) (by decide) (by decide) (by decide) (Nat.le_of_ble_eq_true rfl) (Nat.le_of_ble_eq_true rfl) dX19_init_652 (fun H hw _ => ?_)
  replace hw : mw_W G (mw_ad G) 939 TF F178 M179 L152 H locs := by rw [eM179]; exact hw
  refine W.widen (k := 206) (n := 840672) (Nat.le_of_ble_eq_true rfl) (Nat.le_of_ble_eq_true rfl) ?_
  obtain ⟨F180, eF180, hD⟩ := g_let hD
  refine mr_putFR C hw kc_19 107 (by omega) tf_732 wd_2888 dX19_init_654 (by decide) rfl rfl hnm rfl rfl rfl (fun H locs hw => ?_)
  replace hw : mw_W G (mw_ad G) 939 TF F180 M179 L152 H locs := by rw [eF180]; exact hw
  exact twX19_s5 G fu F180 M179 L152 hD (show F180 732 78 = some 854 by (rw [eF180, mset_j (by decide)]; rw [eF178, mset_j (by decide)]; rw [eF176, mset_j (by decide)]; rw [eF174, mset_j (by decide)]; rw [eF172, mset_j (by decide)]; rw [eF170, mset_j (by decide)]; rw [eF168, mset_j (by decide)]; rw [eF166, mset_j (by decide)]; rw [eF163, mset_j (by decide)]; rw [eF161, mset_j (by decide)]; rw [eF159, mset_j (by decide)]; rw [eF157, mset_j (by decide)]; rw [eF155, mset_j (by decide)]; rw [eF153, mset_j (by decide)]; rw [eF151, mset_j (by decide)]; rw [eF149, mset_j (by decide)]; rw [eF147, mset_j (by decide)]; rw [eF146, mz_n (by omega)]; rw [eF145, mset_j (by decide)]; rw [eF144, mz_n (by omega)]; rw [eF143, mset_j (by decide)]; rw [eF140 732 78 (by omega)]; rw [eF137, mz_n (by omega)]; exact hq_0_78)) (show F180 732 81 = some 921 by (rw [eF180, mset_j (by decide)]; rw [eF178, mset_j (by decide)]; rw [eF176, mset_j (by decide)]; rw [eF174, mset_j (by decide)]; rw [eF172, mset_j (by decide)]; rw [eF170, mset_j (by decide)]; rw [eF168, mset_j (by decide)]; rw [eF166, mset_j (by decide)]; rw [eF163, mset_j (by decide)]; rw [eF161, mset_j (by decide)]; rw [eF159, mset_j (by decide)]; rw [eF157, mset_j (by decide)]; rw [eF155, mset_j (by decide)]; rw [eF153, mset_j (by decide)]; rw [eF151, mset_j (by decide)]; rw [eF149, mset_j (by decide)]; rw [eF147, mset_j (by decide)]; rw [eF146, mz_n (by omega)]; rw [eF145]; exact mset_s)) (show F180 732 82 = some 922 by (rw [eF180, mset_j (by decide)]; rw [eF178, mset_j (by decide)]; rw [eF176, mset_j (by decide)]; rw [eF174, mset_j (by decide)]; rw [eF172, mset_j (by decide)]; rw [eF170, mset_j (by decide)]; rw [eF168, mset_j (by decide)]; rw [eF166, mset_j (by decide)]; rw [eF163, mset_j (by decide)]; rw [eF161, mset_j (by decide)]; rw [eF159, mset_j (by decide)]; rw [eF157, mset_j (by decide)]; rw [eF155, mset_j (by decide)]; rw [eF153, mset_j (by decide)]; rw [eF151, mset_j (by decide)]; rw [eF149, mset_j (by decide)]; rw [eF147]; exact mset_s)) (show F180 854 2 = some 855 by (rw [eF180, mset_k (by omega)]; rw [eF178, mset_k (by omega)]; rw [eF176, mset_k (by omega)]; rw [eF174, mset_k (by omega)]; rw [eF172, mset_k (by omega)]; rw [eF170, mset_k (by omega)]; rw [eF168, mset_k (by omega)]; rw [eF166, mset_k (by omega)]; rw [eF163, mset_k (by omega)]; rw [eF161, mset_k (by omega)]; rw [eF159, mset_k (by omega)]; rw [eF157, mset_k (by omega)]; rw [eF155, mset_k (by omega)]; rw [eF153, mset_k (by omega)]; rw [eF151, mset_k (by omega)]; rw [eF149, mset_k (by omega)]; rw [eF147, mset_k (by omega)]; rw [eF146, mz_n (by omega)]; rw [eF145, mset_k (by omega)]; rw [eF144, mz_n (by omega)]; rw [eF143, mset_k (by omega)]; rw [eF140 854 2 (by omega)]; rw [eF137, mz_n (by omega)]; exact hq_122_2)) (show F180 854 3 = some 856 by (rw [eF180, mset_k (by omega)]; rw [eF178, mset_k (by omega)]; rw [eF176, mset_k (by omega)]; rw [eF174, mset_k (by omega)]; rw [eF172, mset_k (by omega)]; rw [eF170, mset_k (by omega)]; rw [eF168, mset_k (by omega)]; rw [eF166, mset_k (by omega)]; rw [eF163, mset_k (by omega)]; rw [eF161, mset_k (by omega)]; rw [eF159, mset_k (by omega)]; rw [eF157, mset_k (by omega)]; rw [eF155, mset_k (by omega)]; rw [eF153, mset_k (by omega)]; rw [eF151, mset_k (by omega)]; rw [eF149, mset_k (by omega)]; rw [eF147, mset_k (by omega)]; rw [eF146, mz_n (by omega)]; rw [eF145, mset_k (by omega)]; rw [eF144, mz_n (by omega)]; rw [eF143, mset_k (by omega)]; rw [eF140 854 3 (by omega)]; rw [eF137, mz_n (by omega)]; exact hq_122_3)) (show F180 854 4 = some 857 by (rw [eF180, mset_k (by omega)]; rw [eF178, mset_k (by omega)]; rw [eF176, mset_k (by omega)]; rw [eF174, mset_k (by omega)]; rw [eF172, mset_k (by omega)]; rw [eF170, mset_k (by omega)]; rw [eF168, mset_k (by omega)]; rw [eF166, mset_k (by omega)]; rw [eF163, mset_k (by omega)]; rw [eF161, mset_k (by omega)]; rw [eF159, mset_k (by omega)]; rw [eF157, mset_k (by omega)]; rw [eF155, mset_k (by omega)]; rw [eF153, mset_k (by omega)]; rw [eF151, mset_k (by omega)]; rw [eF149, mset_k (by omega)]; rw [eF147, mset_k (by omega)]; rw [eF146, mz_n (by omega)]; rw [eF145, mset_k (by omega)]; rw [eF144, mz_n (by omega)]; rw [eF143, mset_k (by omega)]; rw [eF140 854 4 (by omega)]; rw [eF137, mz_n (by omega)]; exact hq_122_4)) (show F180 854 5 = some 858 by (rw [eF180, mset_k (by omega)]; rw [eF178, mset_k (by omega)]; rw [eF176, mset_k (by omega)]; rw [eF174, mset_k (by omega)]; rw [eF172, mset_k (by omega)]; rw [eF170, mset_k (by omega)]; rw [eF168, mset_k (by omega)]; rw [eF166, mset_k (by omega)]; rw [eF163, mset_k (by omega)]; rw [eF161, mset_k (by omega)]; rw [eF159, mset_k (by omega)]; rw [eF157, mset_k (by omega)]; rw [eF155, mset_k (by omega)]; rw [eF153, mset_k (by omega)]; rw [eF151, mset_k (by omega)]; rw [eF149, mset_k (by omega)]; rw [eF147, mset_k (by omega)]; rw [eF146, mz_n (by omega)]; rw [eF145, mset_k (by omega)]; rw [eF144, mz_n (by omega)]; rw [eF143, mset_k (by omega)]; rw [eF140 854 5 (by omega)]; rw [eF137, mz_n (by omega)]; exact hq_122_5)) (show F180 854 8 = some 859 by (rw [eF180, mset_k (by omega)]; rw [eF178, mset_k (by omega)]; rw [eF176, mset_k (by omega)]; rw [eF174, mset_k (by omega)]; rw [eF172, mset_k (by omega)]; rw [eF170, mset_k (by omega)]; rw [eF168, mset_k (by omega)]; rw [eF166, mset_k (by omega)]; rw [eF163, mset_k (by omega)]; rw [eF161, mset_k (by omega)]; rw [eF159, mset_k (by omega)]; rw [eF157, mset_k (by omega)]; rw [eF155, mset_k (by omega)]; rw [eF153, mset_k (by omega)]; rw [eF151, mset_k (by omega)]; rw [eF149, mset_k (by omega)]; rw [eF147, mset_k (by omega)]; rw [eF146, mz_n (by omega)]; rw [eF145, mset_k (by omega)]; rw [eF144, mz_n (by omega)]; rw [eF143, mset_k (by omega)]; rw [eF140 854 8 (by omega)]; rw [eF137, mz_n (by omega)]; exact hq_122_8)) (show F180 854 10 = some 860 by (rw [eF180, mset_k (by omega)]; rw [eF178, mset_k (by omega)]; rw [eF176, mset_k (by omega)]; rw [eF174, mset_k (by omega)]; rw [eF172, mset_k (by omega)]; rw [eF170, mset_k (by omega)]; rw [eF168, mset_k (by omega)]; rw [eF166, mset_k (by omega)]; rw [eF163, mset_k (by omega)]; rw [eF161, mset_k (by omega)]; rw [eF159, mset_k (by omega)]; rw [eF157, mset_k (by omega)]; rw [eF155, mset_k (by omega)]; rw [eF153, mset_k (by omega)]; rw [eF151, mset_k (by omega)]; rw [eF149, mset_k (by omega)]; rw [eF147, mset_k (by omega)]; rw [eF146, mz_n (by omega)]; rw [eF145, mset_k (by omega)]; rw [eF144, mz_n (by omega)]; rw [eF143, mset_k (by omega)]; rw [eF140 854 10 (by omega)]; rw [eF137, mz_n (by omega)]; exact hq_122_10)) (show F180 854 11 = some 861 by (rw [eF180, mset_k (by omega)]; rw [eF178, mset_k (by omega)]; rw [eF176, mset_k (by omega)]; rw [eF174, mset_k (by omega)]; rw [eF172, mset_k (by omega)]; rw [eF170, mset_k (by omega)]; rw [eF168, mset_k (by omega)]; rw [eF166, mset_k (by omega)]; rw [eF163, mset_k (by omega)]; rw [eF161, mset_k (by omega)]; rw [eF159, mset_k (by omega)]; rw [eF157, mset_k (by omega)]; rw [eF155, mset_k (by omega)]; rw [eF153, mset_k (by omega)]; rw [eF151, mset_k (by omega)]; rw [eF149, mset_k (by omega)]; rw [eF147, mset_k (by omega)]; rw [eF146, mz_n (by omega)]; rw [eF145, mset_k (by omega)]; rw [eF144, mz_n (by omega)]; rw [eF143, mset_k (by omega)]; rw [eF140 854 11 (by omega)]; rw [eF137, mz_n (by omega)]; exact hq_122_11)) (show F180 854 12 = some 862 by (rw [eF180, mset_k (by omega)]; rw [eF178, mset_k (by omega)]; rw [eF176, mset_k (by omega)]; rw [eF174, mset_k (by omega)]; rw [eF172, mset_k (by omega)]; rw [eF170, mset_k (by omega)]; rw [eF168, mset_k (by omega)]; rw [eF166, mset_k (by omega)]; rw [eF163, mset_k (by omega)]; rw [eF161, mset_k (by omega)]; rw [eF159, mset_k (by omega)]; rw [eF157, mset_k (by omega)]; rw [eF155, mset_k (by omega)]; rw [eF153, mset_k (by omega)]; rw [eF151, mset_k (by omega)]; rw [eF149, mset_k (by omega)]; rw [eF147, mset_k (by omega)]; rw [eF146, mz_n (by omega)]; rw [eF145, mset_k (by omega)]; rw [eF144, mz_n (by omega)]; rw [eF143, mset_k (by omega)]; rw [eF140 854 12 (by omega)]; rw [eF137, mz_n (by omega)]; exact hq_122_12)) (show F180 854 13 = some 863 by (rw [eF180, mset_k (by omega)]; rw [eF178, mset_k (by omega)]; rw [eF176, mset_k (by omega)]; rw [eF174, mset_k (by omega)]; rw [eF172, mset_k (by omega)]; rw [eF170, mset_k (by omega)]; rw [eF168, mset_k (by omega)]; rw [eF166, mset_k (by omega)]; rw [eF163, mset_k (by omega)]; rw [eF161, mset_k (by omega)]; rw [eF159, mset_k (by omega)]; rw [eF157, mset_k (by omega)]; rw [eF155, mset_k (by omega)]; rw [eF153, mset_k (by omega)]; rw [eF151, mset_k (by omega)]; rw [eF149, mset_k (by omega)]; rw [eF147, mset_k (by omega)]; rw [eF146, mz_n (by omega)]; rw [eF145, mset_k (by omega)]; rw [eF144, mz_n (by omega)]; rw [eF143, mset_k (by omega)]; rw [eF140 854 13 (by omega)]; rw [eF137, mz_n (by omega)]; exact hq_122_13)) (show F180 854 14 = some 864 by (rw [eF180, mset_k (by omega)]; rw [eF178, mset_k (by omega)]; rw [eF176, mset_k (by omega)]; rw [eF174, mset_k (by omega)]; rw [eF172, mset_k (by omega)]; rw [eF170, mset_k (by omega)]; rw [eF168, mset_k (by omega)]; rw [eF166, mset_k (by omega)]; rw [eF163, mset_k (by omega)]; rw [eF161, mset_k (by omega)]; rw [eF159, mset_k (by omega)]; rw [eF157, mset_k (by omega)]; rw [eF155, mset_k (by omega)]; rw [eF153, mset_k (by omega)]; rw [eF151, mset_k (by omega)]; rw [eF149, mset_k (by omega)]; rw [eF147, mset_k (by omega)]; rw [eF146, mz_n (by omega)]; rw [eF145, mset_k (by omega)]; rw [eF144, mz_n (by omega)]; rw [eF143, mset_k (by omega)]; rw [eF140 854 14 (by omega)]; rw [eF137, mz_n (by omega)]; exact hq_122_14)) (show F180 854 15 = some 865 by (rw [eF180, mset_k (by omega)]; rw [eF178, mset_k (by omega)]; rw [eF176, mset_k (by omega)]; rw [eF174, mset_k (by omega)]; rw [eF172, mset_k (by omega)]; rw [eF170, mset_k (by omega)]; rw [eF168, mset_k (by omega)]; rw [eF166, mset_k (by omega)]; rw [eF163, mset_k (by omega)]; rw [eF161, mset_k (by omega)]; rw [eF159, mset_k (by omega)]; rw [eF157, mset_k (by omega)]; rw [eF155, mset_k (by omega)]; rw [eF153, mset_k (by omega)]; rw [eF151, mset_k (by omega)]; rw [eF149, mset_k (by omega)]; rw [eF147, mset_k (by omega)]; rw [eF146, mz_n (by omega)]; rw [eF145, mset_k (by omega)]; rw [eF144, mz_n (by omega)]; rw [eF143, mset_k (by omega)]; rw [eF140 854 15 (by omega)]; rw [eF137, mz_n (by omega)]; exact hq_122_15)) (show F180 854 16 = some 866 by (rw [eF180, mset_k (by omega)]; rw [eF178, mset_k (by omega)]; rw [eF176, mset_k (by omega)]; rw [eF174, mset_k (by omega)]; rw [eF172, mset_k (by omega)]; rw [eF170, mset_k (by omega)]; rw [eF168, mset_k (by omega)]; rw [eF166, mset_k (by omega)]; rw [eF163, mset_k (by omega)]; rw [eF161, mset_k (by omega)]; rw [eF159, mset_k (by omega)]; rw [eF157, mset_k (by omega)]; rw [eF155, mset_k (by omega)]; rw [eF153, mset_k (by omega)]; rw [eF151, mset_k (by omega)]; rw [eF149, mset_k (by omega)]; rw [eF147, mset_k (by omega)]; rw [eF146, mz_n (by omega)]; rw [eF145, mset_k (by omega)]; rw [eF144, mz_n (by omega)]; rw [eF143, mset_k (by omega)]; rw [eF140 854 16 (by omega)]; rw [eF137, mz_n (by omega)]; exact hq_122_16)) (show F180 854 17 = some 867 by (rw [eF180, mset_k (by omega)]; rw [eF178, mset_k (by omega)]; rw [eF176, mset_k (by omega)]; rw [eF174, mset_k (by omega)]; rw [eF172, mset_k (by omega)]; rw [eF170, mset_k (by omega)]; rw [eF168, mset_k (by omega)]; rw [eF166, mset_k (by omega)]; rw [eF163, mset_k (by omega)]; rw [eF161, mset_k (by omega)]; rw [eF159, mset_k (by omega)]; rw [eF157, mset_k (by omega)]; rw [eF155, mset_k (by omega)]; rw [eF153, mset_k (by omega)]; rw [eF151, mset_k (by omega)]; rw [eF149, mset_k (by omega)]; rw [eF147, mset_k (by omega)]; rw [eF146, mz_n (by omega)]; rw [eF145, mset_k (by omega)]; rw [eF144, mz_n (by omega)]; rw [eF143, mset_k (by omega)]; rw [eF140 854 17 (by omega)]; rw [eF137, mz_n (by omega)]; exact hq_122_17)) (show F180 854 18 = some 868 by (rw [eF180, mset_k (by omega)]; rw [eF178, mset_k (by omega)]; rw [eF176, mset_k (by omega)]; rw [eF174, mset_k (by omega)]; rw [eF172, mset_k (by omega)]; rw [eF170, mset_k (by omega)]; rw [eF168, mset_k (by omega)]; rw [eF166, mset_k (by omega)]; rw [eF163, mset_k (by omega)]; rw [eF161, mset_k (by omega)]; rw [eF159, mset_k (by omega)]; rw [eF157, mset_k (by omega)]; rw [eF155, mset_k (by omega)]; rw [eF153, mset_k (by omega)]; rw [eF151, mset_k (by omega)]; rw [eF149, mset_k (by omega)]; rw [eF147, mset_k (by omega)]; rw [eF146, mz_n (by omega)]; rw [eF145, mset_k (by omega)]; rw [eF144, mz_n (by omega)]; rw [eF143, mset_k (by omega)]; rw [eF140 854 18 (by omega)]; rw [eF137, mz_n (by omega)]; exact hq_122_18)) C A hr hlocks hnm hs0 H locs ls hw hl
set_option maxHeartbeats 4000000 in
set_option maxRecDepth 100000 in
theorem twX19_s3 {p : Program} {l : Launch} {e : Env} {s : State} {m : MethodId} {below : List Frame} {meth : Method} {c : Code} (G : mwG) (fu : Nat) (F82 : mwF) (M81 : mwM) (L : mwL) {FZ : mwF} {MZ : mwM} {LZ : mwL} (hD : DX19_s3 fu F82 M81 L = some (FZ, MZ, LZ)) (C : mw_C p m c cX19_init 4 s [.ref (mw_ad G 732)].toArray "CarHouseModel" G) (A : mw_KA s) (hr : meth.sig.returnType = none) (hlocks : meth.locks = false) (hnm : meth.name = "<init>") (hs0 : s.heap.size = G.2.2.2.size + 733) (H : Heap) (locs : List Loc) (ls : Array Slot) (hw : mw_W G (mw_ad G) 774 TF F82 M81 L H locs) (hl : lv_has ls 4 [(0, .ref (mw_ad G 732))]) : W p l e ({ frames := 5, cells := 844, slots := 1052493, locals := 141 }) s m [.ref (mw_ad G 732)].toArray below meth c H locs 41 14692 (MQ below (mw_QC G 1577 FZ MZ LZ) [.ref (mw_ad G 732)].toArray s 844 1052493 (mw_fr G)) (F0 m 341 ls []) := by
  unfold DX19_s3 at hD
  refine lv_aload_n C.1.1 C.1.2.1 dX19_init_341 rfl (lv_at hl 0 rfl) ?_
  refine lv_bipush (v := 60) C.1.1 C.1.2.1 dX19_init_342 (by decide) ?_
  refine mw_size hw (by omega) (fun hs => ?_)
  obtain ⟨L83, eL83, hD⟩ := g_let hD
  refine mr_newL (n := 60) C hw hs tf_774 wd_509 (by decide) (by decide) (by decide) (Nat.le_of_ble_eq_true rfl) (Nat.le_of_ble_eq_true rfl) dX19_init_344 (fun H hw _ => ?_)
  replace hw : mw_W G (mw_ad G) 775 TF F82 M81 L83 H locs := by rw [eL83]; exact hw
  refine W.widen (k := 42) (n := 14752) (Nat.le_of_ble_eq_true rfl) (Nat.le_of_ble_eq_true rfl) ?_
  obtain ⟨F84, eF84, hD⟩ := g_let hD
  refine mr_putFR C hw kc_19 61 (by omega) tf_732 wd_2842 dX19_init_346 (by decide) rfl rfl hnm rfl rfl rfl (fun H locs hw => ?_)
  replace hw : mw_W G (mw_ad G) 775 TF F84 M81 L83 H locs := by rw [eF84]; exact hw
  refine lv_aload_n C.1.1 C.1.2.1 dX19_init_349 rfl (lv_at hl 0 rfl) ?_
  refine lv_bipush (v := 30) C.1.1 C.1.2.1 dX19_init_350 (by decide) ?_
  refine mw_size hw (by omega) (fun hs => ?_)
  obtain ⟨M85, eM85, hD⟩ := g_let hD
  refine mr_newI (atype := .int) (t := 0) (n := 30) C hw hs tf_775 (by decide) rfl wd_91 rfl (fun _ => rfl) (by decide) (by decide) (by decide) (Nat.le_of_ble_eq_true rfl) (Nat.le_of_ble_eq_true rfl) dX19_init_352 (fun H hw _ => ?_)
  replace hw : mw_W G (mw_ad G) 776 TF F84 M85 L83 H locs := by rw [eM85]; exact hw
  refine W.widen (k := 43) (n := 14782) (Nat.le_of_ble_eq_true rfl) (Nat.le_of_ble_eq_true rfl) ?_
  obtain ⟨F86, eF86, hD⟩ := g_let hD
  refine mr_putFR C hw kc_19 63 (by omega) tf_732 wd_2844 dX19_init_354 (by decide) rfl rfl hnm rfl rfl rfl (fun H locs hw => ?_)
  replace hw : mw_W G (mw_ad G) 776 TF F86 M85 L83 H locs := by rw [eF86]; exact hw
  refine lv_aload_n C.1.1 C.1.2.1 dX19_init_357 rfl (lv_at hl 0 rfl) ?_
  refine lv_bipush (v := 30) C.1.1 C.1.2.1 dX19_init_358 (by decide) ?_
  refine mw_size hw (by omega) (fun hs => ?_)
  obtain ⟨M87, eM87, hD⟩ := g_let hD
  refine mr_newI (atype := .int) (t := 0) (n := 30) C hw hs tf_776 (by decide) rfl wd_91 rfl (fun _ => rfl) (by decide) (by decide) (by decide) (Nat.le_of_ble_eq_true rfl) (Nat.le_of_ble_eq_true rfl) dX19_init_360 (fun H hw _ => ?_)
  replace hw : mw_W G (mw_ad G) 777 TF F86 M87 L83 H locs := by rw [eM87]; exact hw
  refine W.widen (k := 44) (n := 14812) (Nat.le_of_ble_eq_true rfl) (Nat.le_of_ble_eq_true rfl) ?_
  obtain ⟨F88, eF88, hD⟩ := g_let hD
  refine mr_putFR C hw kc_19 64 (by omega) tf_732 wd_2845 dX19_init_362 (by decide) rfl rfl hnm rfl rfl rfl (fun H locs hw => ?_)
  replace hw : mw_W G (mw_ad G) 777 TF F88 M87 L83 H locs := by rw [eF88]; exact hw
  refine lv_aload_n C.1.1 C.1.2.1 dX19_init_365 rfl (lv_at hl 0 rfl) ?_
  refine lv_bipush (v := 30) C.1.1 C.1.2.1 dX19_init_366 (by decide) ?_
  refine mw_size hw (by omega) (fun hs => ?_)
  obtain ⟨M89, eM89, hD⟩ := g_let hD
  refine mr_newI (atype := .int) (t := 0) (n := 30) C hw hs tf_777 (by decide) rfl wd_91 rfl (fun _ => rfl) (by decide) (by decide) (by decide) (Nat.le_of_ble_eq_true rfl) (Nat.le_of_ble_eq_true rfl) dX19_init_368 (fun H hw _ => ?_)
  replace hw : mw_W G (mw_ad G) 778 TF F88 M89 L83 H locs := by rw [eM89]; exact hw
  refine W.widen (k := 45) (n := 14842) (Nat.le_of_ble_eq_true rfl) (Nat.le_of_ble_eq_true rfl) ?_
  obtain ⟨F90, eF90, hD⟩ := g_let hD
  refine mr_putFR C hw kc_19 65 (by omega) tf_732 wd_2846 dX19_init_370 (by decide) rfl rfl hnm rfl rfl rfl (fun H locs hw => ?_)
  replace hw : mw_W G (mw_ad G) 778 TF F90 M89 L83 H locs := by rw [eF90]; exact hw
  refine lv_aload_n C.1.1 C.1.2.1 dX19_init_373 rfl (lv_at hl 0 rfl) ?_
  refine lv_bipush (v := 30) C.1.1 C.1.2.1 dX19_init_374 (by decide) ?_
  refine mw_size hw (by omega) (fun hs => ?_)
  obtain ⟨L91, eL91, hD⟩ := g_let hD
  refine mr_newL (n := 30) C hw hs tf_778 wd_509 (by decide) (by decide) (by decide) (Nat.le_of_ble_eq_true rfl) (Nat.le_of_ble_eq_true rfl) dX19_init_376 (fun H hw _ => ?_)
  replace hw : mw_W G (mw_ad G) 779 TF F90 M89 L91 H locs := by rw [eL91]; exact hw
  refine W.widen (k := 46) (n := 14872) (Nat.le_of_ble_eq_true rfl) (Nat.le_of_ble_eq_true rfl) ?_
  obtain ⟨F92, eF92, hD⟩ := g_let hD
  refine mr_putFR C hw kc_19 66 (by omega) tf_732 wd_2847 dX19_init_378 (by decide) rfl rfl hnm rfl rfl rfl (fun H locs hw => ?_)
  replace hw : mw_W G (mw_ad G) 779 TF F92 M89 L91 H locs := by rw [eF92]; exact hw
  refine lv_aload_n C.1.1 C.1.2.1 dX19_init_381 rfl (lv_at hl 0 rfl) ?_
  refine lv_bipush (v := 40) C.1.1 C.1.2.1 dX19_init_382 (by decide) ?_
  refine mw_size hw (by omega) (fun hs => ?_)
  obtain ⟨M93, eM93, hD⟩ := g_let hD
  refine mr_newI (atype := .int) (t := 0) (n := 40) C hw hs tf_779 (by decide) rfl wd_91 rfl (fun _ => rfl) (by decide) (by decide) (by decide) (Nat.le_of_ble_eq_true rfl) (Nat.le_of_ble_eq_true rfl) dX19_init_384 (fun H hw _ => ?_)
  replace hw : mw_W G (mw_ad G) 780 TF F92 M93 L91 H locs := by rw [eM93]; exact hw
  refine W.widen (k := 47) (n := 14912) (Nat.le_of_ble_eq_true rfl) (Nat.le_of_ble_eq_true rfl) ?_
  obtain ⟨F94, eF94, hD⟩ := g_let hD
  refine mr_putFR C hw kc_19 68 (by omega) tf_732 wd_2849 dX19_init_386 (by decide) rfl rfl hnm rfl rfl rfl (fun H locs hw => ?_)
  replace hw : mw_W G (mw_ad G) 780 TF F94 M93 L91 H locs := by rw [eF94]; exact hw
  refine lv_aload_n C.1.1 C.1.2.1 dX19_init_389 rfl (lv_at hl 0 rfl) ?_
  refine lv_bipush (v := 40) C.1.1 C.1.2.1 dX19_init_390 (by decide) ?_
  refine mw_size hw (by omega) (fun hs => ?_)
  obtain ⟨M95, eM95, hD⟩ := g_let hD
  refine mr_newI (atype := .int) (t := 0) (n := 40) C hw hs tf_780 (by decide) rfl wd_91 rfl (fun _ => rfl) (by decide) (by decide) (by decide) (Nat.le_of_ble_eq_true rfl) (Nat.le_of_ble_eq_true rfl) dX19_init_392 (fun H hw _ => ?_)
  replace hw : mw_W G (mw_ad G) 781 TF F94 M95 L91 H locs := by rw [eM95]; exact hw
  refine W.widen (k := 48) (n := 14952) (Nat.le_of_ble_eq_true rfl) (Nat.le_of_ble_eq_true rfl) ?_
  obtain ⟨F96, eF96, hD⟩ := g_let hD
  refine mr_putFR C hw kc_19 69 (by omega) tf_732 wd_2850 dX19_init_394 (by decide) rfl rfl hnm rfl rfl rfl (fun H locs hw => ?_)
  replace hw : mw_W G (mw_ad G) 781 TF F96 M95 L91 H locs := by rw [eF96]; exact hw
  refine lv_aload_n C.1.1 C.1.2.1 dX19_init_397 rfl (lv_at hl 0 rfl) ?_
  refine lv_bipush (v := 40) C.1.1 C.1.2.1 dX19_init_398 (by decide) ?_
  refine mw_size hw (by omega) (fun hs => ?_)
  obtain ⟨M97, eM97, hD⟩ := g_let hD
  refine mr_newI (atype := .int) (t := 0) (n := 40) C hw hs tf_781 (by decide) rfl wd_91 rfl (fun _ => rfl) (by decide) (by decide) (by decide) (Nat.le_of_ble_eq_true rfl) (Nat.le_of_ble_eq_true rfl) dX19_init_400 (fun H hw _ => ?_)
  replace hw : mw_W G (mw_ad G) 782 TF F96 M97 L91 H locs := by rw [eM97]; exact hw
  refine W.widen (k := 49) (n := 14992) (Nat.le_of_ble_eq_true rfl) (Nat.le_of_ble_eq_true rfl) ?_
  obtain ⟨F98, eF98, hD⟩ := g_let hD
  refine mr_putFR C hw kc_19 70 (by omega) tf_732 wd_2851 dX19_init_402 (by decide) rfl rfl hnm rfl rfl rfl (fun H locs hw => ?_)
  replace hw : mw_W G (mw_ad G) 782 TF F98 M97 L91 H locs := by rw [eF98]; exact hw
  refine lv_aload_n C.1.1 C.1.2.1 dX19_init_405 rfl (lv_at hl 0 rfl) ?_
  refine lv_bipush (v := 40) C.1.1 C.1.2.1 dX19_init_406 (by decide) ?_
  refine mw_size hw (by omega) (fun hs => ?_)
  obtain ⟨M99, eM99, hD⟩ := g_let hD
  refine mr_newI (atype := .int) (t := 0) (n := 40) C hw hs tf_782 (by decide) rfl wd_91 rfl (fun _ => rfl) (by decide) (by decide) (by decide) (Nat.le_of_ble_eq_true rfl) (Nat.le_of_ble_eq_true rfl) dX19_init_408 (fun H hw _ => ?_)
  replace hw : mw_W G (mw_ad G) 783 TF F98 M99 L91 H locs := by rw [eM99]; exact hw
  refine W.widen (k := 50) (n := 15032) (Nat.le_of_ble_eq_true rfl) (Nat.le_of_ble_eq_true rfl) ?_
  obtain ⟨F100, eF100, hD⟩ := g_let hD
  refine mr_putFR C hw kc_19 71 (by omega) tf_732 wd_2852 dX19_init_410 (by decide) rfl rfl hnm rfl rfl rfl (fun H locs hw => ?_)
  replace hw : mw_W G (mw_ad G) 783 TF F100 M99 L91 H locs := by rw [eF100]; exact hw
  refine lv_aload_n C.1.1 C.1.2.1 dX19_init_413 rfl (lv_at hl 0 rfl) ?_
  refine lv_bipush (v := 40) C.1.1 C.1.2.1 dX19_init_414 (by decide) ?_
  refine mw_size hw (by omega) (fun hs => ?_)
  obtain ⟨M101, eM101, hD⟩ := g_let hD
  refine mr_newI (atype := .int) (t := 0) (n := 40) C hw hs tf_783 (by decide) rfl wd_91 rfl (fun _ => rfl) (by decide) (by decide) (by decide) (Nat.le_of_ble_eq_true rfl) (Nat.le_of_ble_eq_true rfl) dX19_init_416 (fun H hw _ => ?_)
  replace hw : mw_W G (mw_ad G) 784 TF F100 M101 L91 H locs := by rw [eM101]; exact hw
  refine W.widen (k := 51) (n := 15072) (Nat.le_of_ble_eq_true rfl) (Nat.le_of_ble_eq_true rfl) ?_
  obtain ⟨F102, eF102, hD⟩ := g_let hD
  refine mr_putFR C hw kc_19 72 (by omega) tf_732 wd_2853 dX19_init_418 (by decide) rfl rfl hnm rfl rfl rfl (fun H locs hw => ?_)
  replace hw : mw_W G (mw_ad G) 784 TF F102 M101 L91 H locs := by rw [eF102]; exact hw
  refine lv_aload_n C.1.1 C.1.2.1 dX19_init_421 rfl (lv_at hl 0 rfl) ?_
  refine lv_bipush (v := 40) C.1.1 C.1.2.1 dX19_init_422 (by decide) ?_
  refine mw_size hw (by omega) (fun hs => ?_)
  obtain ⟨M103, eM103, hD⟩ := g_let hD
  refine mr_newI (atype := .int) (t := 0) (n := 40) C hw hs tf_784 (by decide) rfl wd_91 rfl (fun _ => rfl) (by decide) (by decide) (by decide) (Nat.le_of_ble_eq_true rfl) (Nat.le_of_ble_eq_true rfl) dX19_init_424 (fun H hw _ => ?_)
  replace hw : mw_W G (mw_ad G) 785 TF F102 M103 L91 H locs := by rw [eM103]; exact hw
  refine W.widen (k := 52) (n := 15112) (Nat.le_of_ble_eq_true rfl) (Nat.le_of_ble_eq_true rfl) ?_
  obtain ⟨F104, eF104, hD⟩ := g_let hD
  refine mr_putFR C hw kc_19 73 (by omega) tf_732 wd_2854 dX19_init_426 (by decide) rfl rfl hnm rfl rfl rfl (fun H locs hw => ?_)
  replace hw : mw_W G (mw_ad G) 785 TF F104 M103 L91 H locs := by rw [eF104]; exact hw
  refine lv_aload_n C.1.1 C.1.2.1 dX19_init_429 rfl (lv_at hl 0 rfl) ?_
  refine lv_bipush (v := 40) C.1.1 C.1.2.1 dX19_init_430 (by decide) ?_
  refine mw_size hw (by omega) (fun hs => ?_)
  obtain ⟨M105, eM105, hD⟩ := g_let hD
  refine mr_newI (atype := .int) (t := 0) (n := 40) C hw hs tf_785 (by decide) rfl wd_91 rfl (fun _ => rfl) (by decide) (by decide) (by decide) (Nat.le_of_ble_eq_true rfl) (Nat.le_of_ble_eq_true rfl) dX19_init_432 (fun H hw _ => ?_)
  replace hw : mw_W G (mw_ad G) 786 TF F104 M105 L91 H locs := by rw [eM105]; exact hw
  refine W.widen (k := 53) (n := 15152) (Nat.le_of_ble_eq_true rfl) (Nat.le_of_ble_eq_true rfl) ?_
  obtain ⟨F106, eF106, hD⟩ := g_let hD
  refine mr_putFR C hw kc_19 74 (by omega) tf_732 wd_2855 dX19_init_434 (by decide) rfl rfl hnm rfl rfl rfl (fun H locs hw => ?_)
  replace hw : mw_W G (mw_ad G) 786 TF F106 M105 L91 H locs := by rw [eF106]; exact hw
  refine lv_aload_n C.1.1 C.1.2.1 dX19_init_437 rfl (lv_at hl 0 rfl) ?_
  refine lv_sipush (v := 240) C.1.1 C.1.2.1 dX19_init_438 (by decide) ?_
  refine mw_size hw (by omega) (fun hs => ?_)
  obtain ⟨L107, eL107, hD⟩ := g_let hD
  refine mr_newL (n := 240) C hw hs tf_786 wd_509 (by decide) (by decide) (by decide) (Nat.le_of_ble_eq_true rfl) (Nat.le_of_ble_eq_true rfl) dX19_init_441 (fun H hw _ => ?_)
  replace hw : mw_W G (mw_ad G) 787 TF F106 M105 L107 H locs := by rw [eL107]; exact hw
  refine W.widen (k := 54) (n := 15392) (Nat.le_of_ble_eq_true rfl) (Nat.le_of_ble_eq_true rfl) ?_
  obtain ⟨F108, eF108, hD⟩ := g_let hD
  refine mr_putFR C hw kc_19 75 (by omega) tf_732 wd_2856 dX19_init_443 (by decide) rfl rfl hnm rfl rfl rfl (fun H locs hw => ?_)
  replace hw : mw_W G (mw_ad G) 787 TF F108 M105 L107 H locs := by rw [eF108]; exact hw
  refine lv_aload_n C.1.1 C.1.2.1 dX19_init_446 rfl (lv_at hl 0 rfl) ?_
  refine mw_size hw (by omega) (fun hs => ?_)
  obtain ⟨F109, eF109, hD⟩ := g_let hD
  obtain ⟨M110, eM110, hD⟩ := g_let hD
  obtain ⟨L111, eL111, hD⟩ := g_let hD
  refine mr_new C hw hs kc_15 tf_787 wd_1948 wd_1949 wd_14 (by decide +kernel) (Nat.le_of_ble_eq_true rfl) (Nat.le_of_ble_eq_true rfl) dX19_init_447 (fun H hw _ => ?_)
  replace hw : mw_W G (mw_ad G) 788 TF F109 M110 L111 H locs := by rw [eF109, eM110, eL111]; exact hw
  refine W.widen (k := 55) (n := 15437) (Nat.le_of_ble_eq_true rfl) (Nat.le_of_ble_eq_true rfl) ?_
  refine lv_dup C.1.1 C.1.2.1 dX19_init_450 rfl ?_
  obtain ⟨F112, M113, L114, hc112, hD⟩ := g_b3 hD
  have eF112 : ∀ a j, (a < 787 ∨ 821 ≤ a) → F112 a j = F109 a j := fun a j ha => kX15_init hc112 a j (by omega)
  refine mw_size hw (by omega) (fun hs => ?_)
  refine mc_initN (k := 787) (rest := [.ref (mw_ad G 787), .ref (mw_ad G 732)]) C A hw hs (tX15_init l G fu F109 M110 L111 hc112) nd_1950 wd_1951 cwX15_init rfl rfl rfl ⟨Nat.le_of_ble_eq_true rfl, Nat.le_of_ble_eq_true rfl⟩ hl.1 (Nat.le_of_ble_eq_true rfl) dX19_init_451 ⟨Nat.le_of_ble_eq_true rfl, Nat.le_of_ble_eq_true rfl⟩ (fun H locs hw _ => ?_)
  replace hw : mw_W G (mw_ad G) 821 TF F112 M113 L114 H locs := hw
  refine W.widen (k := 88) (n := 144270) (Nat.le_of_ble_eq_true rfl) (Nat.le_of_ble_eq_true rfl) ?_
  obtain ⟨F115, eF115, hD⟩ := g_let hD
  refine mr_putFR C hw kc_19 76 (by omega) tf_732 wd_2857 dX19_init_454 (by decide) rfl rfl hnm rfl rfl rfl (fun H locs hw => ?_)
  replace hw : mw_W G (mw_ad G) 821 TF F115 M113 L114 H locs := by rw [eF115]; exact hw
  refine lv_aload_n C.1.1 C.1.2.1 dX19_init_457 rfl (lv_at hl 0 rfl) ?_
  refine mw_size hw (by omega) (fun hs => ?_)
  obtain ⟨F116, eF116, hD⟩ := g_let hD
  obtain ⟨M117, eM117, hD⟩ := g_let hD
  obtain ⟨L118, eL118, hD⟩ := g_let hD
  refine mr_new C hw hs kc_12 tf_821 wd_2092 wd_2093 wd_15 (by decide +kernel) (Nat.le_of_ble_eq_true rfl) (Nat.le_of_ble_eq_true rfl) dX19_init_458 (fun H hw _ => ?_)
  replace hw : mw_W G (mw_ad G) 822 TF F116 M117 L118 H locs := by rw [eF116, eM117, eL118]; exact hw
  refine W.widen (k := 89) (n := 144321) (Nat.le_of_ble_eq_true rfl) (Nat.le_of_ble_eq_true rfl) ?_
  refine lv_dup C.1.1 C.1.2.1 dX19_init_461 rfl ?_
  obtain ⟨F119, M120, L121, hc119, hD⟩ := g_b3 hD
  have eF119 : ∀ a j, (a < 821 ∨ 854 ≤ a) → F119 a j = F116 a j := fun a j ha => kX12_init hc119 a j (by omega)
  refine mw_size hw (by omega) (fun hs => ?_)
  refine mc_init (k := 821) (rest := [.ref (mw_ad G 821), .ref (mw_ad G 732)]) C A hw hs (tX12_init l G fu F116 M117 L118 hc119) wd_2094 wd_2095 cwX12_init rfl rfl rfl ⟨Nat.le_of_ble_eq_true rfl, Nat.le_of_ble_eq_true rfl⟩ hl.1 (Nat.le_of_ble_eq_true rfl) dX19_init_462 ⟨Nat.le_of_ble_eq_true rfl, Nat.le_of_ble_eq_true rfl⟩ (fun H locs hw _ => ?_)
  replace hw : mw_W G (mw_ad G) 854 TF F119 M120 L121 H locs := hw
  refine W.widen (k := 121) (n := 662113) (Nat.le_of_ble_eq_true rfl) (Nat.le_of_ble_eq_true rfl) ?_
  obtain ⟨F122, eF122, hD⟩ := g_let hD
  refine mr_putFR C hw kc_19 77 (by omega) tf_732 wd_2858 dX19_init_465 (by decide) rfl rfl hnm rfl rfl rfl (fun H locs hw => ?_)
  replace hw : mw_W G (mw_ad G) 854 TF F122 M120 L121 H locs := by rw [eF122]; exact hw
  refine lv_aload_n C.1.1 C.1.2.1 dX19_init_468 rfl (lv_at hl 0 rfl) ?_
  refine mw_size hw (by omega) (fun hs => ?_)
  obtain ⟨F123, eF123, hD⟩ := g_let hD
  obtain ⟨M124, eM124, hD⟩ := g_let hD
  obtain ⟨L125, eL125, hD⟩ := g_let hD
  refine mr_new C hw hs kc_14 tf_854 wd_2254 wd_2255 wd_16 (by decide +kernel) (Nat.le_of_ble_eq_true rfl) (Nat.le_of_ble_eq_true rfl) dX19_init_469 (fun H hw _ => ?_)
  replace hw : mw_W G (mw_ad G) 855 TF F123 M124 L125 H locs := by rw [eF123, eM124, eL125]; exact hw
  refine W.widen (k := 122) (n := 662132) (Nat.le_of_ble_eq_true rfl) (Nat.le_of_ble_eq_true rfl) ?_
  refine lv_dup C.1.1 C.1.2.1 dX19_init_472 rfl ?_
  obtain ⟨F126, M127, L128, hc126, hD⟩ := g_b3 hD
  have eF126 : ∀ a j, (a < 854 ∨ 869 ≤ a) → F126 a j = F123 a j := fun a j ha => kX14_init hc126 a j (by omega)
  refine mw_size hw (by omega) (fun hs => ?_)
  refine mc_init (k := 854) (rest := [.ref (mw_ad G 854), .ref (mw_ad G 732)]) C A hw hs (tX14_init l G fu F123 M124 L125 hc126) wd_2256 wd_2257 cwX14_init rfl rfl rfl ⟨Nat.le_of_ble_eq_true rfl, Nat.le_of_ble_eq_true rfl⟩ hl.1 (Nat.le_of_ble_eq_true rfl) dX19_init_473 ⟨Nat.le_of_ble_eq_true rfl, Nat.le_of_ble_eq_true rfl⟩ (fun H locs hw _ => ?_)
  replace hw : mw_W G (mw_ad G) 869 TF F126 M127 L128 H locs := hw
  refine W.widen (k := 136) (n := 664789) (Nat.le_of_ble_eq_true rfl) (Nat.le_of_ble_eq_true rfl) ?_
  obtain ⟨F129, eF129, hD⟩ := g_let hD
  refine mr_putFR C hw kc_19 78 (by omega) tf_732 wd_2859 dX19_init_476 (by decide) rfl rfl hnm rfl rfl rfl (fun H locs hw => ?_)
  replace hw : mw_W G (mw_ad G) 869 TF F129 M127 L128 H locs := by rw [eF129]; exact hw
  refine lv_aload_n C.1.1 C.1.2.1 dX19_init_479 rfl (lv_at hl 0 rfl) ?_
  refine mw_size hw (by omega) (fun hs => ?_)
  obtain ⟨F130, eF130, hD⟩ := g_let hD
  obtain ⟨M131, eM131, hD⟩ := g_let hD
  obtain ⟨L132, eL132, hD⟩ := g_let hD
  refine mr_new C hw hs kc_17 tf_869 wd_2323 wd_2324 wd_17 (by decide +kernel) (Nat.le_of_ble_eq_true rfl) (Nat.le_of_ble_eq_true rfl) dX19_init_480 (fun H hw _ => ?_)
  replace hw : mw_W G (mw_ad G) 870 TF F130 M131 L132 H locs := by rw [eF130, eM131, eL132]; exact hw
  refine W.widen (k := 137) (n := 664832) (Nat.le_of_ble_eq_true rfl) (Nat.le_of_ble_eq_true rfl) ?_
  refine lv_dup C.1.1 C.1.2.1 dX19_init_483 rfl ?_
  obtain ⟨F133, M134, L135, hc133, hD⟩ := g_b3 hD
  have eF133 : ∀ a j, (a < 869 ∨ 902 ≤ a) → F133 a j = F130 a j := fun a j ha => kX17_init hc133 a j (by omega)
  refine mw_size hw (by omega) (fun hs => ?_)
  refine mc_initN (k := 869) (rest := [.ref (mw_ad G 869), .ref (mw_ad G 732)]) C A hw hs (tX17_init l G fu F130 M131 L132 hc133) nd_2325 wd_2326 cwX17_init rfl rfl rfl ⟨Nat.le_of_ble_eq_true rfl, Nat.le_of_ble_eq_true rfl⟩ hl.1 (Nat.le_of_ble_eq_true rfl) dX19_init_484 ⟨Nat.le_of_ble_eq_true rfl, Nat.le_of_ble_eq_true rfl⟩ (fun H locs hw _ => ?_)
  replace hw : mw_W G (mw_ad G) 902 TF F133 M134 L135 H locs := hw
  refine W.widen (k := 169) (n := 820002) (Nat.le_of_ble_eq_true rfl) (Nat.le_of_ble_eq_true rfl) ?_
  obtain ⟨F136, eF136, hD⟩ := g_let hD
  refine mr_putFR C hw kc_19 79 (by omega) tf_732 wd_2860 dX19_init_487 (by decide) rfl rfl hnm rfl rfl rfl (fun H locs hw => ?_)
  replace hw : mw_W G (mw_ad G) 902 TF F136 M134 L135 H locs := by rw [eF136]; exact hw
  exact twX19_s4 G fu F136 M134 L135 hD (show F136 732 78 = some 854 by (rw [eF136, mset_j (by decide)]; rw [eF133 732 78 (by omega)]; rw [eF130, mz_n (by omega)]; rw [eF129]; exact mset_s)) (show F136 854 2 = some 855 by (rw [eF136, mset_k (by omega)]; rw [eF133 854 2 (by omega)]; rw [eF130, mz_n (by omega)]; rw [eF129, mset_k (by omega)]; exact vX14_init_2 hc126)) (show F136 854 3 = some 856 by (rw [eF136, mset_k (by omega)]; rw [eF133 854 3 (by omega)]; rw [eF130, mz_n (by omega)]; rw [eF129, mset_k (by omega)]; exact vX14_init_3 hc126)) (show F136 854 4 = some 857 by (rw [eF136, mset_k (by omega)]; rw [eF133 854 4 (by omega)]; rw [eF130, mz_n (by omega)]; rw [eF129, mset_k (by omega)]; exact vX14_init_4 hc126)) (show F136 854 5 = some 858 by (rw [eF136, mset_k (by omega)]; rw [eF133 854 5 (by omega)]; rw [eF130, mz_n (by omega)]; rw [eF129, mset_k (by omega)]; exact vX14_init_5 hc126)) (show F136 854 8 = some 859 by (rw [eF136, mset_k (by omega)]; rw [eF133 854 8 (by omega)]; rw [eF130, mz_n (by omega)]; rw [eF129, mset_k (by omega)]; exact vX14_init_8 hc126)) (show F136 854 10 = some 860 by (rw [eF136, mset_k (by omega)]; rw [eF133 854 10 (by omega)]; rw [eF130, mz_n (by omega)]; rw [eF129, mset_k (by omega)]; exact vX14_init_10 hc126)) (show F136 854 11 = some 861 by (rw [eF136, mset_k (by omega)]; rw [eF133 854 11 (by omega)]; rw [eF130, mz_n (by omega)]; rw [eF129, mset_k (by omega)]; exact vX14_init_11 hc126)) (show F136 854 12 = some 862 by (rw [eF136, mset_k (by omega)]; rw [eF133 854 12 (by omega)]; rw [eF130, mz_n (by omega)]; rw [eF129, mset_k (by omega)]; exact vX14_init_12 hc126)) (show F136 854 13 = some 863 by (rw [eF136, mset_k (by omega)]; rw [eF133 854 13 (by omega)]; rw [eF130, mz_n (by omega)]; rw [eF129, mset_k (by omega)]; exact vX14_init_13 hc126)) (show F136 854 14 = some 864 by (rw [eF136, mset_k (by omega)]; rw [eF133 854 14 (by omega)]; rw [eF130, mz_n (by omega)]; rw [eF129, mset_k (by omega)]; exact vX14_init_14 hc126)) (show F136 854 15 = some 865 by (rw [eF136, mset_k (by omega)]; rw [eF133 854 15 (by omega)]; rw [eF130, mz_n (by omega)]; rw [eF129, mset_k (by omega)]; exact vX14_init_15 hc126)) (show F136 854 16 = some 866 by (rw [eF136, mset_k (by omega)]; rw [eF133 854 16 (by omega)]; rw [eF130, mz_n (by omega)]; rw [eF129, mset_k (by omega)]; exact vX14_init_16 hc126)) (show F136 854 17 = some 867 by (rw [eF136, mset_k (by omega)]; rw [eF133 854 17 (by omega)]; rw [eF130, mz_n (by omega)]; rw [eF129, mset_k (by omega)]; exact vX14_init_17 hc126)) (show F136 854 18 = some 868 by (rw [eF136, mset_k (by omega)]; rw [eF133 854 18 (by omega)]; rw [eF130, mz_n (by omega)]; rw [eF129, mset_k (by omega)]; exact vX14_init_18 hc126)) C A hr hlocks hnm hs0 H locs ls hw hl
set_option maxHeartbeats 4000000 in
set_option maxRecDepth 100000 in
theorem twX19_s2 {p : Program} {l : Launch} {e : Env} {s : State} {m : MethodId} {below : List Frame} {meth : Method} {c : Code} (G : mwG) (fu : Nat) (F40 : mwF) (M39 : mwM) (L : mwL) {FZ : mwF} {MZ : mwM} {LZ : mwL} (hD : DX19_s2 fu F40 M39 L = some (FZ, MZ, LZ)) (C : mw_C p m c cX19_init 4 s [.ref (mw_ad G 732)].toArray "CarHouseModel" G) (A : mw_KA s) (hr : meth.sig.returnType = none) (hlocks : meth.locks = false) (hnm : meth.name = "<init>") (hs0 : s.heap.size = G.2.2.2.size + 733) (H : Heap) (locs : List Loc) (ls : Array Slot) (hw : mw_W G (mw_ad G) 753 TF F40 M39 L H locs) (hl : lv_has ls 4 [(0, .ref (mw_ad G 732))]) : W p l e ({ frames := 5, cells := 844, slots := 1052493, locals := 141 }) s m [.ref (mw_ad G 732)].toArray below meth c H locs 20 8224 (MQ below (mw_QC G 1577 FZ MZ LZ) [.ref (mw_ad G 732)].toArray s 844 1052493 (mw_fr G)) (F0 m 168 ls []) := by
  unfold DX19_s2 at hD
  refine lv_aload_n C.1.1 C.1.2.1 dX19_init_168 rfl (lv_at hl 0 rfl) ?_
  refine lv_sipush (v := 192) C.1.1 C.1.2.1 dX19_init_169 (by decide) ?_
  refine mw_size hw (by omega) (fun hs => ?_)
  obtain ⟨M41, eM41, hD⟩ := g_let hD
  refine mr_newI (atype := .int) (t := 0) (n := 192) C hw hs tf_753 (by decide) rfl wd_91 rfl (fun _ => rfl) (by decide) (by decide) (by decide) (Nat.le_of_ble_eq_true rfl) (Nat.le_of_ble_eq_true rfl) dX19_init_172 (fun H hw _ => ?_)
  replace hw : mw_W G (mw_ad G) 754 TF F40 M41 L H locs := by rw [eM41]; exact hw
  refine W.widen (k := 21) (n := 8416) (Nat.le_of_ble_eq_true rfl) (Nat.le_of_ble_eq_true rfl) ?_
  obtain ⟨F42, eF42, hD⟩ := g_let hD
  refine mr_putFR C hw kc_19 38 (by omega) tf_732 wd_2819 dX19_init_174 (by decide) rfl rfl hnm rfl rfl rfl (fun H locs hw => ?_)
  replace hw : mw_W G (mw_ad G) 754 TF F42 M41 L H locs := by rw [eF42]; exact hw
  refine lv_aload_n C.1.1 C.1.2.1 dX19_init_177 rfl (lv_at hl 0 rfl) ?_
  refine lv_bipush (v := 12) C.1.1 C.1.2.1 dX19_init_178 (by decide) ?_
  refine mw_size hw (by omega) (fun hs => ?_)
  obtain ⟨M43, eM43, hD⟩ := g_let hD
  refine mr_newI (atype := .int) (t := 0) (n := 12) C hw hs tf_754 (by decide) rfl wd_91 rfl (fun _ => rfl) (by decide) (by decide) (by decide) (Nat.le_of_ble_eq_true rfl) (Nat.le_of_ble_eq_true rfl) dX19_init_180 (fun H hw _ => ?_)
  replace hw : mw_W G (mw_ad G) 755 TF F42 M43 L H locs := by rw [eM43]; exact hw
  refine W.widen (k := 22) (n := 8428) (Nat.le_of_ble_eq_true rfl) (Nat.le_of_ble_eq_true rfl) ?_
  obtain ⟨F44, eF44, hD⟩ := g_let hD
  refine mr_putFR C hw kc_19 39 (by omega) tf_732 wd_2820 dX19_init_182 (by decide) rfl rfl hnm rfl rfl rfl (fun H locs hw => ?_)
  replace hw : mw_W G (mw_ad G) 755 TF F44 M43 L H locs := by rw [eF44]; exact hw
  refine lv_aload_n C.1.1 C.1.2.1 dX19_init_185 rfl (lv_at hl 0 rfl) ?_
  refine lv_sipush (v := 2412) C.1.1 C.1.2.1 dX19_init_186 (by decide) ?_
  refine mw_size hw (by omega) (fun hs => ?_)
  obtain ⟨M45, eM45, hD⟩ := g_let hD
  refine mr_newI (atype := .int) (t := 0) (n := 2412) C hw hs tf_755 (by decide) rfl wd_91 rfl (fun _ => rfl) (by decide) (by decide) (by decide) (Nat.le_of_ble_eq_true rfl) (Nat.le_of_ble_eq_true rfl) dX19_init_189 (fun H hw _ => ?_)
  replace hw : mw_W G (mw_ad G) 756 TF F44 M45 L H locs := by rw [eM45]; exact hw
  refine W.widen (k := 23) (n := 10840) (Nat.le_of_ble_eq_true rfl) (Nat.le_of_ble_eq_true rfl) ?_
  obtain ⟨F46, eF46, hD⟩ := g_let hD
  refine mr_putFR C hw kc_19 40 (by omega) tf_732 wd_2821 dX19_init_191 (by decide) rfl rfl hnm rfl rfl rfl (fun H locs hw => ?_)
  replace hw : mw_W G (mw_ad G) 756 TF F46 M45 L H locs := by rw [eF46]; exact hw
  refine lv_aload_n C.1.1 C.1.2.1 dX19_init_194 rfl (lv_at hl 0 rfl) ?_
  refine lv_sipush (v := 2412) C.1.1 C.1.2.1 dX19_init_195 (by decide) ?_
  refine mw_size hw (by omega) (fun hs => ?_)
  obtain ⟨M47, eM47, hD⟩ := g_let hD
  refine mr_newI (atype := .int) (t := 0) (n := 2412) C hw hs tf_756 (by decide) rfl wd_91 rfl (fun _ => rfl) (by decide) (by decide) (by decide) (Nat.le_of_ble_eq_true rfl) (Nat.le_of_ble_eq_true rfl) dX19_init_198 (fun H hw _ => ?_)
  replace hw : mw_W G (mw_ad G) 757 TF F46 M47 L H locs := by rw [eM47]; exact hw
  refine W.widen (k := 24) (n := 13252) (Nat.le_of_ble_eq_true rfl) (Nat.le_of_ble_eq_true rfl) ?_
  obtain ⟨F48, eF48, hD⟩ := g_let hD
  refine mr_putFR C hw kc_19 41 (by omega) tf_732 wd_2822 dX19_init_200 (by decide) rfl rfl hnm rfl rfl rfl (fun H locs hw => ?_)
  replace hw : mw_W G (mw_ad G) 757 TF F48 M47 L H locs := by rw [eF48]; exact hw
  refine lv_aload_n C.1.1 C.1.2.1 dX19_init_203 rfl (lv_at hl 0 rfl) ?_
  refine lv_bipush (v := 12) C.1.1 C.1.2.1 dX19_init_204 (by decide) ?_
  refine mw_size hw (by omega) (fun hs => ?_)
  obtain ⟨M49, eM49, hD⟩ := g_let hD
  refine mr_newI (atype := .int) (t := 0) (n := 12) C hw hs tf_757 (by decide) rfl wd_91 rfl (fun _ => rfl) (by decide) (by decide) (by decide) (Nat.le_of_ble_eq_true rfl) (Nat.le_of_ble_eq_true rfl) dX19_init_206 (fun H hw _ => ?_)
  replace hw : mw_W G (mw_ad G) 758 TF F48 M49 L H locs := by rw [eM49]; exact hw
  refine W.widen (k := 25) (n := 13264) (Nat.le_of_ble_eq_true rfl) (Nat.le_of_ble_eq_true rfl) ?_
  obtain ⟨F50, eF50, hD⟩ := g_let hD
  refine mr_putFR C hw kc_19 42 (by omega) tf_732 wd_2823 dX19_init_208 (by decide) rfl rfl hnm rfl rfl rfl (fun H locs hw => ?_)
  replace hw : mw_W G (mw_ad G) 758 TF F50 M49 L H locs := by rw [eF50]; exact hw
  refine lv_aload_n C.1.1 C.1.2.1 dX19_init_211 rfl (lv_at hl 0 rfl) ?_
  refine lv_sipush (v := 384) C.1.1 C.1.2.1 dX19_init_212 (by decide) ?_
  refine mw_size hw (by omega) (fun hs => ?_)
  obtain ⟨M51, eM51, hD⟩ := g_let hD
  refine mr_newI (atype := .int) (t := 0) (n := 384) C hw hs tf_758 (by decide) rfl wd_91 rfl (fun _ => rfl) (by decide) (by decide) (by decide) (Nat.le_of_ble_eq_true rfl) (Nat.le_of_ble_eq_true rfl) dX19_init_215 (fun H hw _ => ?_)
  replace hw : mw_W G (mw_ad G) 759 TF F50 M51 L H locs := by rw [eM51]; exact hw
  refine W.widen (k := 26) (n := 13648) (Nat.le_of_ble_eq_true rfl) (Nat.le_of_ble_eq_true rfl) ?_
  obtain ⟨F52, eF52, hD⟩ := g_let hD
  refine mr_putFR C hw kc_19 43 (by omega) tf_732 wd_2824 dX19_init_217 (by decide) rfl rfl hnm rfl rfl rfl (fun H locs hw => ?_)
  replace hw : mw_W G (mw_ad G) 759 TF F52 M51 L H locs := by rw [eF52]; exact hw
  refine lv_aload_n C.1.1 C.1.2.1 dX19_init_220 rfl (lv_at hl 0 rfl) ?_
  refine lv_sipush (v := 384) C.1.1 C.1.2.1 dX19_init_221 (by decide) ?_
  refine mw_size hw (by omega) (fun hs => ?_)
  obtain ⟨M53, eM53, hD⟩ := g_let hD
  refine mr_newI (atype := .int) (t := 0) (n := 384) C hw hs tf_759 (by decide) rfl wd_91 rfl (fun _ => rfl) (by decide) (by decide) (by decide) (Nat.le_of_ble_eq_true rfl) (Nat.le_of_ble_eq_true rfl) dX19_init_224 (fun H hw _ => ?_)
  replace hw : mw_W G (mw_ad G) 760 TF F52 M53 L H locs := by rw [eM53]; exact hw
  refine W.widen (k := 27) (n := 14032) (Nat.le_of_ble_eq_true rfl) (Nat.le_of_ble_eq_true rfl) ?_
  obtain ⟨F54, eF54, hD⟩ := g_let hD
  refine mr_putFR C hw kc_19 44 (by omega) tf_732 wd_2825 dX19_init_226 (by decide) rfl rfl hnm rfl rfl rfl (fun H locs hw => ?_)
  replace hw : mw_W G (mw_ad G) 760 TF F54 M53 L H locs := by rw [eF54]; exact hw
  refine lv_aload_n C.1.1 C.1.2.1 dX19_init_229 rfl (lv_at hl 0 rfl) ?_
  refine lv_bipush (v := 40) C.1.1 C.1.2.1 dX19_init_230 (by decide) ?_
  refine mw_size hw (by omega) (fun hs => ?_)
  obtain ⟨M55, eM55, hD⟩ := g_let hD
  refine mr_newI (atype := .int) (t := 0) (n := 40) C hw hs tf_760 (by decide) rfl wd_91 rfl (fun _ => rfl) (by decide) (by decide) (by decide) (Nat.le_of_ble_eq_true rfl) (Nat.le_of_ble_eq_true rfl) dX19_init_232 (fun H hw _ => ?_)
  replace hw : mw_W G (mw_ad G) 761 TF F54 M55 L H locs := by rw [eM55]; exact hw
  refine W.widen (k := 28) (n := 14072) (Nat.le_of_ble_eq_true rfl) (Nat.le_of_ble_eq_true rfl) ?_
  obtain ⟨F56, eF56, hD⟩ := g_let hD
  refine mr_putFR C hw kc_19 46 (by omega) tf_732 wd_2827 dX19_init_234 (by decide) rfl rfl hnm rfl rfl rfl (fun H locs hw => ?_)
  replace hw : mw_W G (mw_ad G) 761 TF F56 M55 L H locs := by rw [eF56]; exact hw
  refine lv_aload_n C.1.1 C.1.2.1 dX19_init_237 rfl (lv_at hl 0 rfl) ?_
  refine lv_bipush (v := 40) C.1.1 C.1.2.1 dX19_init_238 (by decide) ?_
  refine mw_size hw (by omega) (fun hs => ?_)
  obtain ⟨M57, eM57, hD⟩ := g_let hD
  refine mr_newI (atype := .int) (t := 0) (n := 40) C hw hs tf_761 (by decide) rfl wd_91 rfl (fun _ => rfl) (by decide) (by decide) (by decide) (Nat.le_of_ble_eq_true rfl) (Nat.le_of_ble_eq_true rfl) dX19_init_240 (fun H hw _ => ?_)
  replace hw : mw_W G (mw_ad G) 762 TF F56 M57 L H locs := by rw [eM57]; exact hw
  refine W.widen (k := 29) (n := 14112) (Nat.le_of_ble_eq_true rfl) (Nat.le_of_ble_eq_true rfl) ?_
  obtain ⟨F58, eF58, hD⟩ := g_let hD
  refine mr_putFR C hw kc_19 47 (by omega) tf_732 wd_2828 dX19_init_242 (by decide) rfl rfl hnm rfl rfl rfl (fun H locs hw => ?_)
  replace hw : mw_W G (mw_ad G) 762 TF F58 M57 L H locs := by rw [eF58]; exact hw
  refine lv_aload_n C.1.1 C.1.2.1 dX19_init_245 rfl (lv_at hl 0 rfl) ?_
  refine lv_bipush (v := 40) C.1.1 C.1.2.1 dX19_init_246 (by decide) ?_
  refine mw_size hw (by omega) (fun hs => ?_)
  obtain ⟨M59, eM59, hD⟩ := g_let hD
  refine mr_newI (atype := .int) (t := 0) (n := 40) C hw hs tf_762 (by decide) rfl wd_91 rfl (fun _ => rfl) (by decide) (by decide) (by decide) (Nat.le_of_ble_eq_true rfl) (Nat.le_of_ble_eq_true rfl) dX19_init_248 (fun H hw _ => ?_)
  replace hw : mw_W G (mw_ad G) 763 TF F58 M59 L H locs := by rw [eM59]; exact hw
  refine W.widen (k := 30) (n := 14152) (Nat.le_of_ble_eq_true rfl) (Nat.le_of_ble_eq_true rfl) ?_
  obtain ⟨F60, eF60, hD⟩ := g_let hD
  refine mr_putFR C hw kc_19 48 (by omega) tf_732 wd_2829 dX19_init_250 (by decide) rfl rfl hnm rfl rfl rfl (fun H locs hw => ?_)
  replace hw : mw_W G (mw_ad G) 763 TF F60 M59 L H locs := by rw [eF60]; exact hw
  refine lv_aload_n C.1.1 C.1.2.1 dX19_init_253 rfl (lv_at hl 0 rfl) ?_
  refine lv_bipush (v := 40) C.1.1 C.1.2.1 dX19_init_254 (by decide) ?_
  refine mw_size hw (by omega) (fun hs => ?_)
  obtain ⟨M61, eM61, hD⟩ := g_let hD
  refine mr_newI (atype := .int) (t := 0) (n := 40) C hw hs tf_763 (by decide) rfl wd_91 rfl (fun _ => rfl) (by decide) (by decide) (by decide) (Nat.le_of_ble_eq_true rfl) (Nat.le_of_ble_eq_true rfl) dX19_init_256 (fun H hw _ => ?_)
  replace hw : mw_W G (mw_ad G) 764 TF F60 M61 L H locs := by rw [eM61]; exact hw
  refine W.widen (k := 31) (n := 14192) (Nat.le_of_ble_eq_true rfl) (Nat.le_of_ble_eq_true rfl) ?_
  obtain ⟨F62, eF62, hD⟩ := g_let hD
  refine mr_putFR C hw kc_19 49 (by omega) tf_732 wd_2830 dX19_init_258 (by decide) rfl rfl hnm rfl rfl rfl (fun H locs hw => ?_)
  replace hw : mw_W G (mw_ad G) 764 TF F62 M61 L H locs := by rw [eF62]; exact hw
  refine lv_aload_n C.1.1 C.1.2.1 dX19_init_261 rfl (lv_at hl 0 rfl) ?_
  refine lv_bipush (v := 40) C.1.1 C.1.2.1 dX19_init_262 (by decide) ?_
  refine mw_size hw (by omega) (fun hs => ?_)
  obtain ⟨M63, eM63, hD⟩ := g_let hD
  refine mr_newI (atype := .int) (t := 0) (n := 40) C hw hs tf_764 (by decide) rfl wd_91 rfl (fun _ => rfl) (by decide) (by decide) (by decide) (Nat.le_of_ble_eq_true rfl) (Nat.le_of_ble_eq_true rfl) dX19_init_264 (fun H hw _ => ?_)
  replace hw : mw_W G (mw_ad G) 765 TF F62 M63 L H locs := by rw [eM63]; exact hw
  refine W.widen (k := 32) (n := 14232) (Nat.le_of_ble_eq_true rfl) (Nat.le_of_ble_eq_true rfl) ?_
  obtain ⟨F64, eF64, hD⟩ := g_let hD
  refine mr_putFR C hw kc_19 50 (by omega) tf_732 wd_2831 dX19_init_266 (by decide) rfl rfl hnm rfl rfl rfl (fun H locs hw => ?_)
  replace hw : mw_W G (mw_ad G) 765 TF F64 M63 L H locs := by rw [eF64]; exact hw
  refine lv_aload_n C.1.1 C.1.2.1 dX19_init_269 rfl (lv_at hl 0 rfl) ?_
  refine lv_bipush (v := 40) C.1.1 C.1.2.1 dX19_init_270 (by decide) ?_
  refine mw_size hw (by omega) (fun hs => ?_)
  obtain ⟨M65, eM65, hD⟩ := g_let hD
  refine mr_newI (atype := .boolean) (t := 2) (n := 40) C hw hs tf_765 (by decide) rfl wd_320 rfl (fun _ => rfl) (by decide) (by decide) (by decide) (Nat.le_of_ble_eq_true rfl) (Nat.le_of_ble_eq_true rfl) dX19_init_272 (fun H hw _ => ?_)
  replace hw : mw_W G (mw_ad G) 766 TF F64 M65 L H locs := by rw [eM65]; exact hw
  refine W.widen (k := 33) (n := 14272) (Nat.le_of_ble_eq_true rfl) (Nat.le_of_ble_eq_true rfl) ?_
  obtain ⟨F66, eF66, hD⟩ := g_let hD
  refine mr_putFR C hw kc_19 51 (by omega) tf_732 wd_2832 dX19_init_274 (by decide) rfl rfl hnm rfl rfl rfl (fun H locs hw => ?_)
  replace hw : mw_W G (mw_ad G) 766 TF F66 M65 L H locs := by rw [eF66]; exact hw
  refine lv_aload_n C.1.1 C.1.2.1 dX19_init_277 rfl (lv_at hl 0 rfl) ?_
  refine lv_bipush (v := 40) C.1.1 C.1.2.1 dX19_init_278 (by decide) ?_
  refine mw_size hw (by omega) (fun hs => ?_)
  obtain ⟨M67, eM67, hD⟩ := g_let hD
  refine mr_newI (atype := .int) (t := 0) (n := 40) C hw hs tf_766 (by decide) rfl wd_91 rfl (fun _ => rfl) (by decide) (by decide) (by decide) (Nat.le_of_ble_eq_true rfl) (Nat.le_of_ble_eq_true rfl) dX19_init_280 (fun H hw _ => ?_)
  replace hw : mw_W G (mw_ad G) 767 TF F66 M67 L H locs := by rw [eM67]; exact hw
  refine W.widen (k := 34) (n := 14312) (Nat.le_of_ble_eq_true rfl) (Nat.le_of_ble_eq_true rfl) ?_
  obtain ⟨F68, eF68, hD⟩ := g_let hD
  refine mr_putFR C hw kc_19 52 (by omega) tf_732 wd_2833 dX19_init_282 (by decide) rfl rfl hnm rfl rfl rfl (fun H locs hw => ?_)
  replace hw : mw_W G (mw_ad G) 767 TF F68 M67 L H locs := by rw [eF68]; exact hw
  refine lv_aload_n C.1.1 C.1.2.1 dX19_init_285 rfl (lv_at hl 0 rfl) ?_
  refine lv_bipush (v := 40) C.1.1 C.1.2.1 dX19_init_286 (by decide) ?_
  refine mw_size hw (by omega) (fun hs => ?_)
  obtain ⟨M69, eM69, hD⟩ := g_let hD
  refine mr_newI (atype := .int) (t := 0) (n := 40) C hw hs tf_767 (by decide) rfl wd_91 rfl (fun _ => rfl) (by decide) (by decide) (by decide) (Nat.le_of_ble_eq_true rfl) (Nat.le_of_ble_eq_true rfl) dX19_init_288 (fun H hw _ => ?_)
  replace hw : mw_W G (mw_ad G) 768 TF F68 M69 L H locs := by rw [eM69]; exact hw
  refine W.widen (k := 35) (n := 14352) (Nat.le_of_ble_eq_true rfl) (Nat.le_of_ble_eq_true rfl) ?_
  obtain ⟨F70, eF70, hD⟩ := g_let hD
  refine mr_putFR C hw kc_19 53 (by omega) tf_732 wd_2834 dX19_init_290 (by decide) rfl rfl hnm rfl rfl rfl (fun H locs hw => ?_)
  replace hw : mw_W G (mw_ad G) 768 TF F70 M69 L H locs := by rw [eF70]; exact hw
  refine lv_aload_n C.1.1 C.1.2.1 dX19_init_293 rfl (lv_at hl 0 rfl) ?_
  refine lv_bipush (v := 40) C.1.1 C.1.2.1 dX19_init_294 (by decide) ?_
  refine mw_size hw (by omega) (fun hs => ?_)
  obtain ⟨M71, eM71, hD⟩ := g_let hD
  refine mr_newI (atype := .int) (t := 0) (n := 40) C hw hs tf_768 (by decide) rfl wd_91 rfl (fun _ => rfl) (by decide) (by decide) (by decide) (Nat.le_of_ble_eq_true rfl) (Nat.le_of_ble_eq_true rfl) dX19_init_296 (fun H hw _ => ?_)
  replace hw : mw_W G (mw_ad G) 769 TF F70 M71 L H locs := by rw [eM71]; exact hw
  refine W.widen (k := 36) (n := 14392) (Nat.le_of_ble_eq_true rfl) (Nat.le_of_ble_eq_true rfl) ?_
  obtain ⟨F72, eF72, hD⟩ := g_let hD
  refine mr_putFR C hw kc_19 54 (by omega) tf_732 wd_2835 dX19_init_298 (by decide) rfl rfl hnm rfl rfl rfl (fun H locs hw => ?_)
  replace hw : mw_W G (mw_ad G) 769 TF F72 M71 L H locs := by rw [eF72]; exact hw
  refine lv_aload_n C.1.1 C.1.2.1 dX19_init_301 rfl (lv_at hl 0 rfl) ?_
  refine lv_bipush (v := 60) C.1.1 C.1.2.1 dX19_init_302 (by decide) ?_
  refine mw_size hw (by omega) (fun hs => ?_)
  obtain ⟨M73, eM73, hD⟩ := g_let hD
  refine mr_newI (atype := .int) (t := 0) (n := 60) C hw hs tf_769 (by decide) rfl wd_91 rfl (fun _ => rfl) (by decide) (by decide) (by decide) (Nat.le_of_ble_eq_true rfl) (Nat.le_of_ble_eq_true rfl) dX19_init_304 (fun H hw _ => ?_)
  replace hw : mw_W G (mw_ad G) 770 TF F72 M73 L H locs := by rw [eM73]; exact hw
  refine W.widen (k := 37) (n := 14452) (Nat.le_of_ble_eq_true rfl) (Nat.le_of_ble_eq_true rfl) ?_
  obtain ⟨F74, eF74, hD⟩ := g_let hD
  refine mr_putFR C hw kc_19 56 (by omega) tf_732 wd_2837 dX19_init_306 (by decide) rfl rfl hnm rfl rfl rfl (fun H locs hw => ?_)
  replace hw : mw_W G (mw_ad G) 770 TF F74 M73 L H locs := by rw [eF74]; exact hw
  refine lv_aload_n C.1.1 C.1.2.1 dX19_init_309 rfl (lv_at hl 0 rfl) ?_
  refine lv_bipush (v := 60) C.1.1 C.1.2.1 dX19_init_310 (by decide) ?_
  refine mw_size hw (by omega) (fun hs => ?_)
  obtain ⟨M75, eM75, hD⟩ := g_let hD
  refine mr_newI (atype := .int) (t := 0) (n := 60) C hw hs tf_770 (by decide) rfl wd_91 rfl (fun _ => rfl) (by decide) (by decide) (by decide) (Nat.le_of_ble_eq_true rfl) (Nat.le_of_ble_eq_true rfl) dX19_init_312 (fun H hw _ => ?_)
  replace hw : mw_W G (mw_ad G) 771 TF F74 M75 L H locs := by rw [eM75]; exact hw
  refine W.widen (k := 38) (n := 14512) (Nat.le_of_ble_eq_true rfl) (Nat.le_of_ble_eq_true rfl) ?_
  obtain ⟨F76, eF76, hD⟩ := g_let hD
  refine mr_putFR C hw kc_19 57 (by omega) tf_732 wd_2838 dX19_init_314 (by decide) rfl rfl hnm rfl rfl rfl (fun H locs hw => ?_)
  replace hw : mw_W G (mw_ad G) 771 TF F76 M75 L H locs := by rw [eF76]; exact hw
  refine lv_aload_n C.1.1 C.1.2.1 dX19_init_317 rfl (lv_at hl 0 rfl) ?_
  refine lv_bipush (v := 60) C.1.1 C.1.2.1 dX19_init_318 (by decide) ?_
  refine mw_size hw (by omega) (fun hs => ?_)
  obtain ⟨M77, eM77, hD⟩ := g_let hD
  refine mr_newI (atype := .int) (t := 0) (n := 60) C hw hs tf_771 (by decide) rfl wd_91 rfl (fun _ => rfl) (by decide) (by decide) (by decide) (Nat.le_of_ble_eq_true rfl) (Nat.le_of_ble_eq_true rfl) dX19_init_320 (fun H hw _ => ?_)
  replace hw : mw_W G (mw_ad G) 772 TF F76 M77 L H locs := by rw [eM77]; exact hw
  refine W.widen (k := 39) (n := 14572) (Nat.le_of_ble_eq_true rfl) (Nat.le_of_ble_eq_true rfl) ?_
  obtain ⟨F78, eF78, hD⟩ := g_let hD
  refine mr_putFR C hw kc_19 58 (by omega) tf_732 wd_2839 dX19_init_322 (by decide) rfl rfl hnm rfl rfl rfl (fun H locs hw => ?_)
  replace hw : mw_W G (mw_ad G) 772 TF F78 M77 L H locs := by rw [eF78]; exact hw
  refine lv_aload_n C.1.1 C.1.2.1 dX19_init_325 rfl (lv_at hl 0 rfl) ?_
  refine lv_bipush (v := 60) C.1.1 C.1.2.1 dX19_init_326 (by decide) ?_
  refine mw_size hw (by omega) (fun hs => ?_)
  obtain ⟨M79, eM79, hD⟩ := g_let hD
  refine mr_newI (atype := .int) (t := 0) (n := 60) C hw hs tf_772 (by decide) rfl wd_91 rfl (fun _ => rfl) (by decide) (by decide) (by decide) (Nat.le_of_ble_eq_true rfl) (Nat.le_of_ble_eq_true rfl) dX19_init_328 (fun H hw _ => ?_)
  replace hw : mw_W G (mw_ad G) 773 TF F78 M79 L H locs := by rw [eM79]; exact hw
  refine W.widen (k := 40) (n := 14632) (Nat.le_of_ble_eq_true rfl) (Nat.le_of_ble_eq_true rfl) ?_
  obtain ⟨F80, eF80, hD⟩ := g_let hD
  refine mr_putFR C hw kc_19 59 (by omega) tf_732 wd_2840 dX19_init_330 (by decide) rfl rfl hnm rfl rfl rfl (fun H locs hw => ?_)
  replace hw : mw_W G (mw_ad G) 773 TF F80 M79 L H locs := by rw [eF80]; exact hw
  refine lv_aload_n C.1.1 C.1.2.1 dX19_init_333 rfl (lv_at hl 0 rfl) ?_
  refine lv_bipush (v := 60) C.1.1 C.1.2.1 dX19_init_334 (by decide) ?_
  refine mw_size hw (by omega) (fun hs => ?_)
  obtain ⟨M81, eM81, hD⟩ := g_let hD
  refine mr_newI (atype := .boolean) (t := 2) (n := 60) C hw hs tf_773 (by decide) rfl wd_320 rfl (fun _ => rfl) (by decide) (by decide) (by decide) (Nat.le_of_ble_eq_true rfl) (Nat.le_of_ble_eq_true rfl) dX19_init_336 (fun H hw _ => ?_)
  replace hw : mw_W G (mw_ad G) 774 TF F80 M81 L H locs := by rw [eM81]; exact hw
  refine W.widen (k := 41) (n := 14692) (Nat.le_of_ble_eq_true rfl) (Nat.le_of_ble_eq_true rfl) ?_
  obtain ⟨F82, eF82, hD⟩ := g_let hD
  refine mr_putFR C hw kc_19 60 (by omega) tf_732 wd_2841 dX19_init_338 (by decide) rfl rfl hnm rfl rfl rfl (fun H locs hw => ?_)
  replace hw : mw_W G (mw_ad G) 774 TF F82 M81 L H locs := by rw [eF82]; exact hw
  exact twX19_s3 G fu F82 M81 L hD  C A hr hlocks hnm hs0 H locs ls hw hl
set_option maxHeartbeats 4000000 in
set_option maxRecDepth 100000 in
theorem tX19_init (l : Launch) (G : mwG) (fu : Nat) (F : mwF) (M : mwM) (L : mwL) {FZ : mwF} {MZ : mwM} {LZ : mwL} (hD : DX19_init fu F M L = some (FZ, MZ, LZ)) : Met l yX19_init (Cond.code yX19_init cX19_init 4 none :: GT) ({ frames := 5, cells := 844, slots := 1052493, locals := 141 }) (mw_PreC G 733 F M L [.ref (mw_ad G 732)]) (mw_QC G 1577 FZ MZ LZ) 844 1052493 (mw_fr G) := by
  refine mw_enterC (by decide) (Nat.le_of_ble_eq_true rfl) ?_
  intro p e s m below meth c ls C A hr hlocks hnm hw hs0 hl
  have hl : lv_has ls 4 [(0, .ref (mw_ad G 732))] := hl
  unfold DX19_init at hD
  refine lv_aload_n C.1.1 C.1.2.1 dX19_init_0 rfl (lv_at hl 0 rfl) ?_
  refine W.objInit C.1.1 C.1.2.1 C.1.2.2.2.1 (C.1.2.2.2.2 _ wd_1947) (C.1.2.2.2.2 _ wd_39) (C.1.2.2.2.2 _ wd_40) rfl (by rw [C.1.2.2.1]; exact hl.1) rfl dX19_init_1 (Nat.le_of_ble_eq_true rfl) (Nat.le_of_ble_eq_true rfl) ?_
  refine W.eq (g2 := F0 m 4 ls []) rfl ?_
  refine lv_aload_n C.1.1 C.1.2.1 dX19_init_4 rfl (lv_at hl 0 rfl) ?_
  refine lv_sipush (v := 6000) C.1.1 C.1.2.1 dX19_init_5 (by decide) ?_
  refine mw_size hw (by omega) (fun hs => ?_)
  obtain ⟨M1, eM1, hD⟩ := g_let hD
  refine mr_newI (atype := .int) (t := 0) (n := 6000) C hw hs tf_733 (by decide) rfl wd_91 rfl (fun _ => rfl) (by decide) (by decide) (by decide) (Nat.le_of_ble_eq_true rfl) (Nat.le_of_ble_eq_true rfl) dX19_init_8 (fun H hw _ => ?_)
  replace hw : mw_W G (mw_ad G) 734 TF F M1 L H [] := by rw [eM1]; exact hw
  refine W.widen (k := 1) (n := 6000) (Nat.le_of_ble_eq_true rfl) (Nat.le_of_ble_eq_true rfl) ?_
  obtain ⟨F2, eF2, hD⟩ := g_let hD
  refine mr_putFR C hw kc_19 1 (by omega) tf_732 wd_2782 dX19_init_10 (by decide) rfl rfl hnm rfl rfl rfl (fun H locs hw => ?_)
  replace hw : mw_W G (mw_ad G) 734 TF F2 M1 L H locs := by rw [eF2]; exact hw
  refine lv_aload_n C.1.1 C.1.2.1 dX19_init_13 rfl (lv_at hl 0 rfl) ?_
  refine lv_bipush (v := 70) C.1.1 C.1.2.1 dX19_init_14 (by decide) ?_
  refine mw_size hw (by omega) (fun hs => ?_)
  obtain ⟨M3, eM3, hD⟩ := g_let hD
  refine mr_newI (atype := .int) (t := 0) (n := 70) C hw hs tf_734 (by decide) rfl wd_91 rfl (fun _ => rfl) (by decide) (by decide) (by decide) (Nat.le_of_ble_eq_true rfl) (Nat.le_of_ble_eq_true rfl) dX19_init_16 (fun H hw _ => ?_)
  replace hw : mw_W G (mw_ad G) 735 TF F2 M3 L H locs := by rw [eM3]; exact hw
  refine W.widen (k := 2) (n := 6070) (Nat.le_of_ble_eq_true rfl) (Nat.le_of_ble_eq_true rfl) ?_
  obtain ⟨F4, eF4, hD⟩ := g_let hD
  refine mr_putFR C hw kc_19 15 (by omega) tf_732 wd_2796 dX19_init_18 (by decide) rfl rfl hnm rfl rfl rfl (fun H locs hw => ?_)
  replace hw : mw_W G (mw_ad G) 735 TF F4 M3 L H locs := by rw [eF4]; exact hw
  refine lv_aload_n C.1.1 C.1.2.1 dX19_init_21 rfl (lv_at hl 0 rfl) ?_
  refine lv_bipush (v := 70) C.1.1 C.1.2.1 dX19_init_22 (by decide) ?_
  refine mw_size hw (by omega) (fun hs => ?_)
  obtain ⟨M5, eM5, hD⟩ := g_let hD
  refine mr_newI (atype := .int) (t := 0) (n := 70) C hw hs tf_735 (by decide) rfl wd_91 rfl (fun _ => rfl) (by decide) (by decide) (by decide) (Nat.le_of_ble_eq_true rfl) (Nat.le_of_ble_eq_true rfl) dX19_init_24 (fun H hw _ => ?_)
  replace hw : mw_W G (mw_ad G) 736 TF F4 M5 L H locs := by rw [eM5]; exact hw
  refine W.widen (k := 3) (n := 6140) (Nat.le_of_ble_eq_true rfl) (Nat.le_of_ble_eq_true rfl) ?_
  obtain ⟨F6, eF6, hD⟩ := g_let hD
  refine mr_putFR C hw kc_19 16 (by omega) tf_732 wd_2797 dX19_init_26 (by decide) rfl rfl hnm rfl rfl rfl (fun H locs hw => ?_)
  replace hw : mw_W G (mw_ad G) 736 TF F6 M5 L H locs := by rw [eF6]; exact hw
  refine lv_aload_n C.1.1 C.1.2.1 dX19_init_29 rfl (lv_at hl 0 rfl) ?_
  refine lv_bipush (v := 70) C.1.1 C.1.2.1 dX19_init_30 (by decide) ?_
  refine mw_size hw (by omega) (fun hs => ?_)
  obtain ⟨M7, eM7, hD⟩ := g_let hD
  refine mr_newI (atype := .int) (t := 0) (n := 70) C hw hs tf_736 (by decide) rfl wd_91 rfl (fun _ => rfl) (by decide) (by decide) (by decide) (Nat.le_of_ble_eq_true rfl) (Nat.le_of_ble_eq_true rfl) dX19_init_32 (fun H hw _ => ?_)
  replace hw : mw_W G (mw_ad G) 737 TF F6 M7 L H locs := by rw [eM7]; exact hw
  refine W.widen (k := 4) (n := 6210) (Nat.le_of_ble_eq_true rfl) (Nat.le_of_ble_eq_true rfl) ?_
  obtain ⟨F8, eF8, hD⟩ := g_let hD
  refine mr_putFR C hw kc_19 17 (by omega) tf_732 wd_2798 dX19_init_34 (by decide) rfl rfl hnm rfl rfl rfl (fun H locs hw => ?_)
  replace hw : mw_W G (mw_ad G) 737 TF F8 M7 L H locs := by rw [eF8]; exact hw
  refine lv_aload_n C.1.1 C.1.2.1 dX19_init_37 rfl (lv_at hl 0 rfl) ?_
  refine lv_bipush (v := 70) C.1.1 C.1.2.1 dX19_init_38 (by decide) ?_
  refine mw_size hw (by omega) (fun hs => ?_)
  obtain ⟨M9, eM9, hD⟩ := g_let hD
  refine mr_newI (atype := .int) (t := 0) (n := 70) C hw hs tf_737 (by decide) rfl wd_91 rfl (fun _ => rfl) (by decide) (by decide) (by decide) (Nat.le_of_ble_eq_true rfl) (Nat.le_of_ble_eq_true rfl) dX19_init_40 (fun H hw _ => ?_)
  replace hw : mw_W G (mw_ad G) 738 TF F8 M9 L H locs := by rw [eM9]; exact hw
  refine W.widen (k := 5) (n := 6280) (Nat.le_of_ble_eq_true rfl) (Nat.le_of_ble_eq_true rfl) ?_
  obtain ⟨F10, eF10, hD⟩ := g_let hD
  refine mr_putFR C hw kc_19 18 (by omega) tf_732 wd_2799 dX19_init_42 (by decide) rfl rfl hnm rfl rfl rfl (fun H locs hw => ?_)
  replace hw : mw_W G (mw_ad G) 738 TF F10 M9 L H locs := by rw [eF10]; exact hw
  refine lv_aload_n C.1.1 C.1.2.1 dX19_init_45 rfl (lv_at hl 0 rfl) ?_
  refine lv_sipush (v := 600) C.1.1 C.1.2.1 dX19_init_46 (by decide) ?_
  refine mw_size hw (by omega) (fun hs => ?_)
  obtain ⟨M11, eM11, hD⟩ := g_let hD
  refine mr_newI (atype := .int) (t := 0) (n := 600) C hw hs tf_738 (by decide) rfl wd_91 rfl (fun _ => rfl) (by decide) (by decide) (by decide) (Nat.le_of_ble_eq_true rfl) (Nat.le_of_ble_eq_true rfl) dX19_init_49 (fun H hw _ => ?_)
  replace hw : mw_W G (mw_ad G) 739 TF F10 M11 L H locs := by rw [eM11]; exact hw
  refine W.widen (k := 6) (n := 6880) (Nat.le_of_ble_eq_true rfl) (Nat.le_of_ble_eq_true rfl) ?_
  obtain ⟨F12, eF12, hD⟩ := g_let hD
  refine mr_putFR C hw kc_19 21 (by omega) tf_732 wd_2802 dX19_init_51 (by decide) rfl rfl hnm rfl rfl rfl (fun H locs hw => ?_)
  replace hw : mw_W G (mw_ad G) 739 TF F12 M11 L H locs := by rw [eF12]; exact hw
  refine lv_aload_n C.1.1 C.1.2.1 dX19_init_54 rfl (lv_at hl 0 rfl) ?_
  refine lv_sipush (v := 600) C.1.1 C.1.2.1 dX19_init_55 (by decide) ?_
  refine mw_size hw (by omega) (fun hs => ?_)
  obtain ⟨M13, eM13, hD⟩ := g_let hD
  refine mr_newI (atype := .int) (t := 0) (n := 600) C hw hs tf_739 (by decide) rfl wd_91 rfl (fun _ => rfl) (by decide) (by decide) (by decide) (Nat.le_of_ble_eq_true rfl) (Nat.le_of_ble_eq_true rfl) dX19_init_58 (fun H hw _ => ?_)
  replace hw : mw_W G (mw_ad G) 740 TF F12 M13 L H locs := by rw [eM13]; exact hw
  refine W.widen (k := 7) (n := 7480) (Nat.le_of_ble_eq_true rfl) (Nat.le_of_ble_eq_true rfl) ?_
  obtain ⟨F14, eF14, hD⟩ := g_let hD
  refine mr_putFR C hw kc_19 22 (by omega) tf_732 wd_2803 dX19_init_60 (by decide) rfl rfl hnm rfl rfl rfl (fun H locs hw => ?_)
  replace hw : mw_W G (mw_ad G) 740 TF F14 M13 L H locs := by rw [eF14]; exact hw
  refine lv_aload_n C.1.1 C.1.2.1 dX19_init_63 rfl (lv_at hl 0 rfl) ?_
  refine lv_sipush (v := 600) C.1.1 C.1.2.1 dX19_init_64 (by decide) ?_
  refine mw_size hw (by omega) (fun hs => ?_)
  obtain ⟨M15, eM15, hD⟩ := g_let hD
  refine mr_newI (atype := .int) (t := 0) (n := 600) C hw hs tf_740 (by decide) rfl wd_91 rfl (fun _ => rfl) (by decide) (by decide) (by decide) (Nat.le_of_ble_eq_true rfl) (Nat.le_of_ble_eq_true rfl) dX19_init_67 (fun H hw _ => ?_)
  replace hw : mw_W G (mw_ad G) 741 TF F14 M15 L H locs := by rw [eM15]; exact hw
  refine W.widen (k := 8) (n := 8080) (Nat.le_of_ble_eq_true rfl) (Nat.le_of_ble_eq_true rfl) ?_
  obtain ⟨F16, eF16, hD⟩ := g_let hD
  refine mr_putFR C hw kc_19 23 (by omega) tf_732 wd_2804 dX19_init_69 (by decide) rfl rfl hnm rfl rfl rfl (fun H locs hw => ?_)
  replace hw : mw_W G (mw_ad G) 741 TF F16 M15 L H locs := by rw [eF16]; exact hw
  refine lv_aload_n C.1.1 C.1.2.1 dX19_init_72 rfl (lv_at hl 0 rfl) ?_
  refine lv_bipush (v := 12) C.1.1 C.1.2.1 dX19_init_73 (by decide) ?_
  refine mw_size hw (by omega) (fun hs => ?_)
  obtain ⟨M17, eM17, hD⟩ := g_let hD
  refine mr_newI (atype := .int) (t := 0) (n := 12) C hw hs tf_741 (by decide) rfl wd_91 rfl (fun _ => rfl) (by decide) (by decide) (by decide) (Nat.le_of_ble_eq_true rfl) (Nat.le_of_ble_eq_true rfl) dX19_init_75 (fun H hw _ => ?_)
  replace hw : mw_W G (mw_ad G) 742 TF F16 M17 L H locs := by rw [eM17]; exact hw
  refine W.widen (k := 9) (n := 8092) (Nat.le_of_ble_eq_true rfl) (Nat.le_of_ble_eq_true rfl) ?_
  obtain ⟨F18, eF18, hD⟩ := g_let hD
  refine mr_putFR C hw kc_19 25 (by omega) tf_732 wd_2806 dX19_init_77 (by decide) rfl rfl hnm rfl rfl rfl (fun H locs hw => ?_)
  replace hw : mw_W G (mw_ad G) 742 TF F18 M17 L H locs := by rw [eF18]; exact hw
  refine lv_aload_n C.1.1 C.1.2.1 dX19_init_80 rfl (lv_at hl 0 rfl) ?_
  refine lv_bipush (v := 12) C.1.1 C.1.2.1 dX19_init_81 (by decide) ?_
  refine mw_size hw (by omega) (fun hs => ?_)
  obtain ⟨M19, eM19, hD⟩ := g_let hD
  refine mr_newI (atype := .int) (t := 0) (n := 12) C hw hs tf_742 (by decide) rfl wd_91 rfl (fun _ => rfl) (by decide) (by decide) (by decide) (Nat.le_of_ble_eq_true rfl) (Nat.le_of_ble_eq_true rfl) dX19_init_83 (fun H hw _ => ?_)
  replace hw : mw_W G (mw_ad G) 743 TF F18 M19 L H locs := by rw [eM19]; exact hw
  refine W.widen (k := 10) (n := 8104) (Nat.le_of_ble_eq_true rfl) (Nat.le_of_ble_eq_true rfl) ?_
  obtain ⟨F20, eF20, hD⟩ := g_let hD
  refine mr_putFR C hw kc_19 26 (by omega) tf_732 wd_2807 dX19_init_85 (by decide) rfl rfl hnm rfl rfl rfl (fun H locs hw => ?_)
  replace hw : mw_W G (mw_ad G) 743 TF F20 M19 L H locs := by rw [eF20]; exact hw
  refine lv_aload_n C.1.1 C.1.2.1 dX19_init_88 rfl (lv_at hl 0 rfl) ?_
  refine lv_bipush (v := 12) C.1.1 C.1.2.1 dX19_init_89 (by decide) ?_
  refine mw_size hw (by omega) (fun hs => ?_)
  obtain ⟨M21, eM21, hD⟩ := g_let hD
  refine mr_newI (atype := .int) (t := 0) (n := 12) C hw hs tf_743 (by decide) rfl wd_91 rfl (fun _ => rfl) (by decide) (by decide) (by decide) (Nat.le_of_ble_eq_true rfl) (Nat.le_of_ble_eq_true rfl) dX19_init_91 (fun H hw _ => ?_)
  replace hw : mw_W G (mw_ad G) 744 TF F20 M21 L H locs := by rw [eM21]; exact hw
  refine W.widen (k := 11) (n := 8116) (Nat.le_of_ble_eq_true rfl) (Nat.le_of_ble_eq_true rfl) ?_
  obtain ⟨F22, eF22, hD⟩ := g_let hD
  refine mr_putFR C hw kc_19 27 (by omega) tf_732 wd_2808 dX19_init_93 (by decide) rfl rfl hnm rfl rfl rfl (fun H locs hw => ?_)
  replace hw : mw_W G (mw_ad G) 744 TF F22 M21 L H locs := by rw [eF22]; exact hw
  refine lv_aload_n C.1.1 C.1.2.1 dX19_init_96 rfl (lv_at hl 0 rfl) ?_
  refine lv_bipush (v := 12) C.1.1 C.1.2.1 dX19_init_97 (by decide) ?_
  refine mw_size hw (by omega) (fun hs => ?_)
  obtain ⟨M23, eM23, hD⟩ := g_let hD
  refine mr_newI (atype := .int) (t := 0) (n := 12) C hw hs tf_744 (by decide) rfl wd_91 rfl (fun _ => rfl) (by decide) (by decide) (by decide) (Nat.le_of_ble_eq_true rfl) (Nat.le_of_ble_eq_true rfl) dX19_init_99 (fun H hw _ => ?_)
  replace hw : mw_W G (mw_ad G) 745 TF F22 M23 L H locs := by rw [eM23]; exact hw
  refine W.widen (k := 12) (n := 8128) (Nat.le_of_ble_eq_true rfl) (Nat.le_of_ble_eq_true rfl) ?_
  obtain ⟨F24, eF24, hD⟩ := g_let hD
  refine mr_putFR C hw kc_19 28 (by omega) tf_732 wd_2809 dX19_init_101 (by decide) rfl rfl hnm rfl rfl rfl (fun H locs hw => ?_)
  replace hw : mw_W G (mw_ad G) 745 TF F24 M23 L H locs := by rw [eF24]; exact hw
  refine lv_aload_n C.1.1 C.1.2.1 dX19_init_104 rfl (lv_at hl 0 rfl) ?_
  refine lv_bipush (v := 12) C.1.1 C.1.2.1 dX19_init_105 (by decide) ?_
  refine mw_size hw (by omega) (fun hs => ?_)
  obtain ⟨M25, eM25, hD⟩ := g_let hD
  refine mr_newI (atype := .int) (t := 0) (n := 12) C hw hs tf_745 (by decide) rfl wd_91 rfl (fun _ => rfl) (by decide) (by decide) (by decide) (Nat.le_of_ble_eq_true rfl) (Nat.le_of_ble_eq_true rfl) dX19_init_107 (fun H hw _ => ?_)
  replace hw : mw_W G (mw_ad G) 746 TF F24 M25 L H locs := by rw [eM25]; exact hw
  refine W.widen (k := 13) (n := 8140) (Nat.le_of_ble_eq_true rfl) (Nat.le_of_ble_eq_true rfl) ?_
  obtain ⟨F26, eF26, hD⟩ := g_let hD
  refine mr_putFR C hw kc_19 29 (by omega) tf_732 wd_2810 dX19_init_109 (by decide) rfl rfl hnm rfl rfl rfl (fun H locs hw => ?_)
  replace hw : mw_W G (mw_ad G) 746 TF F26 M25 L H locs := by rw [eF26]; exact hw
  refine lv_aload_n C.1.1 C.1.2.1 dX19_init_112 rfl (lv_at hl 0 rfl) ?_
  refine lv_bipush (v := 12) C.1.1 C.1.2.1 dX19_init_113 (by decide) ?_
  refine mw_size hw (by omega) (fun hs => ?_)
  obtain ⟨M27, eM27, hD⟩ := g_let hD
  refine mr_newI (atype := .int) (t := 0) (n := 12) C hw hs tf_746 (by decide) rfl wd_91 rfl (fun _ => rfl) (by decide) (by decide) (by decide) (Nat.le_of_ble_eq_true rfl) (Nat.le_of_ble_eq_true rfl) dX19_init_115 (fun H hw _ => ?_)
  replace hw : mw_W G (mw_ad G) 747 TF F26 M27 L H locs := by rw [eM27]; exact hw
  refine W.widen (k := 14) (n := 8152) (Nat.le_of_ble_eq_true rfl) (Nat.le_of_ble_eq_true rfl) ?_
  obtain ⟨F28, eF28, hD⟩ := g_let hD
  refine mr_putFR C hw kc_19 30 (by omega) tf_732 wd_2811 dX19_init_117 (by decide) rfl rfl hnm rfl rfl rfl (fun H locs hw => ?_)
  replace hw : mw_W G (mw_ad G) 747 TF F28 M27 L H locs := by rw [eF28]; exact hw
  refine lv_aload_n C.1.1 C.1.2.1 dX19_init_120 rfl (lv_at hl 0 rfl) ?_
  refine lv_bipush (v := 12) C.1.1 C.1.2.1 dX19_init_121 (by decide) ?_
  refine mw_size hw (by omega) (fun hs => ?_)
  obtain ⟨M29, eM29, hD⟩ := g_let hD
  refine mr_newI (atype := .int) (t := 0) (n := 12) C hw hs tf_747 (by decide) rfl wd_91 rfl (fun _ => rfl) (by decide) (by decide) (by decide) (Nat.le_of_ble_eq_true rfl) (Nat.le_of_ble_eq_true rfl) dX19_init_123 (fun H hw _ => ?_)
  replace hw : mw_W G (mw_ad G) 748 TF F28 M29 L H locs := by rw [eM29]; exact hw
  refine W.widen (k := 15) (n := 8164) (Nat.le_of_ble_eq_true rfl) (Nat.le_of_ble_eq_true rfl) ?_
  obtain ⟨F30, eF30, hD⟩ := g_let hD
  refine mr_putFR C hw kc_19 31 (by omega) tf_732 wd_2812 dX19_init_125 (by decide) rfl rfl hnm rfl rfl rfl (fun H locs hw => ?_)
  replace hw : mw_W G (mw_ad G) 748 TF F30 M29 L H locs := by rw [eF30]; exact hw
  refine lv_aload_n C.1.1 C.1.2.1 dX19_init_128 rfl (lv_at hl 0 rfl) ?_
  refine lv_bipush (v := 12) C.1.1 C.1.2.1 dX19_init_129 (by decide) ?_
  refine mw_size hw (by omega) (fun hs => ?_)
  obtain ⟨M31, eM31, hD⟩ := g_let hD
  refine mr_newI (atype := .int) (t := 0) (n := 12) C hw hs tf_748 (by decide) rfl wd_91 rfl (fun _ => rfl) (by decide) (by decide) (by decide) (Nat.le_of_ble_eq_true rfl) (Nat.le_of_ble_eq_true rfl) dX19_init_131 (fun H hw _ => ?_)
  replace hw : mw_W G (mw_ad G) 749 TF F30 M31 L H locs := by rw [eM31]; exact hw
  refine W.widen (k := 16) (n := 8176) (Nat.le_of_ble_eq_true rfl) (Nat.le_of_ble_eq_true rfl) ?_
  obtain ⟨F32, eF32, hD⟩ := g_let hD
  refine mr_putFR C hw kc_19 32 (by omega) tf_732 wd_2813 dX19_init_133 (by decide) rfl rfl hnm rfl rfl rfl (fun H locs hw => ?_)
  replace hw : mw_W G (mw_ad G) 749 TF F32 M31 L H locs := by rw [eF32]; exact hw
  refine lv_aload_n C.1.1 C.1.2.1 dX19_init_136 rfl (lv_at hl 0 rfl) ?_
  refine lv_bipush (v := 12) C.1.1 C.1.2.1 dX19_init_137 (by decide) ?_
  refine mw_size hw (by omega) (fun hs => ?_)
  obtain ⟨M33, eM33, hD⟩ := g_let hD
  refine mr_newI (atype := .int) (t := 0) (n := 12) C hw hs tf_749 (by decide) rfl wd_91 rfl (fun _ => rfl) (by decide) (by decide) (by decide) (Nat.le_of_ble_eq_true rfl) (Nat.le_of_ble_eq_true rfl) dX19_init_139 (fun H hw _ => ?_)
  replace hw : mw_W G (mw_ad G) 750 TF F32 M33 L H locs := by rw [eM33]; exact hw
  refine W.widen (k := 17) (n := 8188) (Nat.le_of_ble_eq_true rfl) (Nat.le_of_ble_eq_true rfl) ?_
  obtain ⟨F34, eF34, hD⟩ := g_let hD
  refine mr_putFR C hw kc_19 34 (by omega) tf_732 wd_2815 dX19_init_141 (by decide) rfl rfl hnm rfl rfl rfl (fun H locs hw => ?_)
  replace hw : mw_W G (mw_ad G) 750 TF F34 M33 L H locs := by rw [eF34]; exact hw
  refine lv_aload_n C.1.1 C.1.2.1 dX19_init_144 rfl (lv_at hl 0 rfl) ?_
  refine lv_bipush (v := 12) C.1.1 C.1.2.1 dX19_init_145 (by decide) ?_
  refine mw_size hw (by omega) (fun hs => ?_)
  obtain ⟨M35, eM35, hD⟩ := g_let hD
  refine mr_newI (atype := .int) (t := 0) (n := 12) C hw hs tf_750 (by decide) rfl wd_91 rfl (fun _ => rfl) (by decide) (by decide) (by decide) (Nat.le_of_ble_eq_true rfl) (Nat.le_of_ble_eq_true rfl) dX19_init_147 (fun H hw _ => ?_)
  replace hw : mw_W G (mw_ad G) 751 TF F34 M35 L H locs := by rw [eM35]; exact hw
  refine W.widen (k := 18) (n := 8200) (Nat.le_of_ble_eq_true rfl) (Nat.le_of_ble_eq_true rfl) ?_
  obtain ⟨F36, eF36, hD⟩ := g_let hD
  refine mr_putFR C hw kc_19 35 (by omega) tf_732 wd_2816 dX19_init_149 (by decide) rfl rfl hnm rfl rfl rfl (fun H locs hw => ?_)
  replace hw : mw_W G (mw_ad G) 751 TF F36 M35 L H locs := by rw [eF36]; exact hw
  refine lv_aload_n C.1.1 C.1.2.1 dX19_init_152 rfl (lv_at hl 0 rfl) ?_
  refine lv_bipush (v := 12) C.1.1 C.1.2.1 dX19_init_153 (by decide) ?_
  refine mw_size hw (by omega) (fun hs => ?_)
  obtain ⟨M37, eM37, hD⟩ := g_let hD
  refine mr_newI (atype := .int) (t := 0) (n := 12) C hw hs tf_751 (by decide) rfl wd_91 rfl (fun _ => rfl) (by decide) (by decide) (by decide) (Nat.le_of_ble_eq_true rfl) (Nat.le_of_ble_eq_true rfl) dX19_init_155 (fun H hw _ => ?_)
  replace hw : mw_W G (mw_ad G) 752 TF F36 M37 L H locs := by rw [eM37]; exact hw
  refine W.widen (k := 19) (n := 8212) (Nat.le_of_ble_eq_true rfl) (Nat.le_of_ble_eq_true rfl) ?_
  obtain ⟨F38, eF38, hD⟩ := g_let hD
  refine mr_putFR C hw kc_19 36 (by omega) tf_732 wd_2817 dX19_init_157 (by decide) rfl rfl hnm rfl rfl rfl (fun H locs hw => ?_)
  replace hw : mw_W G (mw_ad G) 752 TF F38 M37 L H locs := by rw [eF38]; exact hw
  refine lv_aload_n C.1.1 C.1.2.1 dX19_init_160 rfl (lv_at hl 0 rfl) ?_
  refine lv_bipush (v := 12) C.1.1 C.1.2.1 dX19_init_161 (by decide) ?_
  refine mw_size hw (by omega) (fun hs => ?_)
  obtain ⟨M39, eM39, hD⟩ := g_let hD
  refine mr_newI (atype := .int) (t := 0) (n := 12) C hw hs tf_752 (by decide) rfl wd_91 rfl (fun _ => rfl) (by decide) (by decide) (by decide) (Nat.le_of_ble_eq_true rfl) (Nat.le_of_ble_eq_true rfl) dX19_init_163 (fun H hw _ => ?_)
  replace hw : mw_W G (mw_ad G) 753 TF F38 M39 L H locs := by rw [eM39]; exact hw
  refine W.widen (k := 20) (n := 8224) (Nat.le_of_ble_eq_true rfl) (Nat.le_of_ble_eq_true rfl) ?_
  obtain ⟨F40, eF40, hD⟩ := g_let hD
  refine mr_putFR C hw kc_19 37 (by omega) tf_732 wd_2818 dX19_init_165 (by decide) rfl rfl hnm rfl rfl rfl (fun H locs hw => ?_)
  replace hw : mw_W G (mw_ad G) 753 TF F40 M39 L H locs := by rw [eF40]; exact hw
  exact twX19_s2 G fu F40 M39 L hD  C A hr hlocks hnm hs0 H locs ls hw hl
