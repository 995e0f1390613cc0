section
theorem S_X11_writes_0 {G : am_G} {d : Nat} {Q : Int → am_D → Prop} {σ : am_D} {v1 : Int} {v2 : Int} {Q' : am_D → Prop} {v3 : Option Nat} (hi1 : 0 ≤ v1) (hj2 : v1 < 3) (hi3 : 0 ≤ ((6 * v2) + (σ.1 113 v1))) (hj4 : ((6 * v2) + (σ.1 113 v1)) < 36) (hc : am_MV G d mX11_makes [am_r (some 91), am_i v1, am_i v2, am_i (σ.1 102 ((6 * v2) + (σ.1 113 v1))), am_i 0] σ Q') (k : ∀ σ' : am_D, Q' σ' → am_X (am_FI G (d + 1) Q) mX11_writes (0, 0) 23 [some (am_r (some 91)), none, none, some (am_r v3), none, none] [] (am_K0, σ')) : am_X (am_FI G (d + 1) Q) mX11_writes (0, 0) 0 [some (am_r (some 91)), some (am_i v1), some (am_i v2), some (am_r v3), none, none] [] (am_K0, σ) := by
  refine am_r_aload_n (nx := 1) rfl rfl (show decode cX11_writes 0 = .ok (.aload_n 0, 1) by decide +kernel) rfl ?_
  refine am_r_iload_n (nx := 2) rfl rfl (show decode cX11_writes 1 = .ok (.iload_n 1, 1) by decide +kernel) rfl ?_
  refine am_r_iload_n (nx := 3) rfl rfl (show decode cX11_writes 2 = .ok (.iload_n 2, 1) by decide +kernel) rfl ?_
  refine am_r_aload_n (nx := 4) rfl rfl (show decode cX11_writes 3 = .ok (.aload_n 0, 1) by decide +kernel) rfl ?_
  refine am_r_getF (nx := 7) 16 cw11 (by decide) rfl (Or.inl fl_X11_42) (ob_91) (fn_91_16) (show decode cX11_writes 4 = .ok (.getfield 42, 3) by decide +kernel) rfl ?_
  refine am_r_bipush (nx := 9) rfl (show decode cX11_writes 7 = .ok (.bipush 6, 2) by decide +kernel) rfl ?_
  refine am_r_iload_n (nx := 10) rfl rfl (show decode cX11_writes 9 = .ok (.iload_n 2, 1) by decide +kernel) rfl ?_
  refine am_r_imul (nx := 11) (show decode cX11_writes 10 = .ok (.imul, 1) by decide +kernel) rfl ?_
  refine am_r_aload_n (nx := 12) rfl rfl (show decode cX11_writes 11 = .ok (.aload_n 0, 1) by decide +kernel) rfl ?_
  refine am_r_getF (nx := 15) 32 cw11 (by decide) rfl (Or.inl fl_X11_75) (ob_91) (fn_91_32) (show decode cX11_writes 12 = .ok (.getfield 75, 3) by decide +kernel) rfl ?_
  refine am_r_iload_n (nx := 16) rfl rfl (show decode cX11_writes 15 = .ok (.iload_n 1, 1) by decide +kernel) rfl ?_
  refine am_r_iald (nx := 17) (sh_113) (am_shle (sh_113)) hi1 hj2 (show decode cX11_writes 16 = .ok (.iaload, 1) by decide +kernel) rfl ?_
  refine am_r_iadd (nx := 18) (show decode cX11_writes 17 = .ok (.iadd, 1) by decide +kernel) rfl ?_
  refine am_r_iald (nx := 19) (sh_102) (am_shle (sh_102)) hi3 hj4 (show decode cX11_writes 18 = .ok (.iaload, 1) by decide +kernel) rfl ?_
  refine am_r_iconst (nx := 20) (show decode cX11_writes 19 = .ok (.iconst 0, 1) by decide +kernel) rfl ?_
  refine am_r_callV (as := [am_i v1, am_i v2, am_i (σ.1 102 ((6 * v2) + (σ.1 113 v1))), am_i 0]) (st := []) hc mb_X11_makes mv_X11_makes (Or.inl ml_X11_355) (ob_91) (by omega) (r := (RX11, TX11, 63)) rfl rfl rfl rfl (Nat.le_of_ble_eq_true rfl) ⟨Nat.le_refl _, Nat.le_refl _⟩ ⟨Nat.le_refl _, Nat.le_refl _⟩ (show decode cX11_writes 20 = .ok (.invokevirtual 355, 3) by decide +kernel) ?_
  rintro _ _ ⟨σ', rfl, rfl, hq⟩ _
  exact am_x_fg [1, 2] (k σ' hq)
theorem S_X11_writes_23 {G : am_G} {d : Nat} {Q : Int → am_D → Prop} {σ : am_D} {v3 : Option Nat}  (k : am_X (am_FI G (d + 1) Q) mX11_writes (0, 0) 29 [some (am_r (some 91)), none, none, some (am_r v3), some (am_i (σ.1 91 43)), none] [] (am_K0, σ)) : am_X (am_FI G (d + 1) Q) mX11_writes (0, 0) 23 [some (am_r (some 91)), none, none, some (am_r v3), none, none] [] (am_K0, σ) := by
  refine am_r_aload_n (nx := 24) rfl rfl (show decode cX11_writes 23 = .ok (.aload_n 0, 1) by decide +kernel) rfl ?_
  refine am_r_getI (nx := 27) 43 cw11 (by decide) rfl (Or.inl fl_X11_345) (ob_91) (show decode cX11_writes 24 = .ok (.getfield 345, 3) by decide +kernel) rfl ?_
  refine am_r_istore (nx := 29) (by decide) rfl (show decode cX11_writes 27 = .ok (.istore 4, 2) by decide +kernel) rfl ?_
  exact k
theorem S_X11_writes_29 {G : am_G} {d : Nat} {Q : Int → am_D → Prop} {σ : am_D} {v4 : Int} {v3 : Option Nat}  (k : am_X (am_FI G (d + 1) Q) mX11_writes (0, 0) 32 [some (am_r (some 91)), none, none, some (am_r v3), some (am_i v4), some (am_i 0)] [] (am_K0, σ)) : am_X (am_FI G (d + 1) Q) mX11_writes (0, 0) 29 [some (am_r (some 91)), none, none, some (am_r v3), some (am_i v4), none] [] (am_K0, σ) := by
  refine am_r_iconst (nx := 30) (show decode cX11_writes 29 = .ok (.iconst 0, 1) by decide +kernel) rfl ?_
  refine am_r_istore (nx := 32) (by decide) rfl (show decode cX11_writes 30 = .ok (.istore 5, 2) by decide +kernel) rfl ?_
  exact k
theorem S_X11_writes_32 {G : am_G} {d : Nat} {Q : Int → am_D → Prop} {σ : am_D} {v4 : Int} {v5 : Int} {v3 : Option Nat} (hr1 : -2147483648 ≤ v5 ∧ v5 ≤ 2147483647) (hr2 : -2147483648 ≤ (σ.1 91 45) ∧ (σ.1 91 45) ≤ 2147483647) (k1 : (σ.1 91 45) ≤ v5 → am_X (am_FI G (d + 1) Q) mX11_writes (0, 0) 67 [some (am_r (some 91)), none, none, none, none, none] [] (am_K0, σ)) (k2 : ¬ ((σ.1 91 45) ≤ v5) → am_X (am_FI G (d + 1) Q) mX11_writes (0, 0) 41 [some (am_r (some 91)), none, none, some (am_r v3), some (am_i v4), some (am_i v5)] [] (am_K0, σ)) : am_X (am_FI G (d + 1) Q) mX11_writes (0, 0) 32 [some (am_r (some 91)), none, none, some (am_r v3), some (am_i v4), some (am_i v5)] [] (am_K0, σ) := by
  refine am_r_iload (nx := 34) rfl (show decode cX11_writes 32 = .ok (.iload 5, 2) by decide +kernel) rfl ?_
  refine am_r_aload_n (nx := 35) rfl rfl (show decode cX11_writes 34 = .ok (.aload_n 0, 1) by decide +kernel) rfl ?_
  refine am_r_getI (nx := 38) 45 cw11 (by decide) rfl (Or.inl fl_X11_342) (ob_91) (show decode cX11_writes 35 = .ok (.getfield 342, 3) by decide +kernel) rfl ?_
  refine am_r_icmp_ge (tg := 67) (nx := 41) (show decode cX11_writes 38 = .ok (.if_icmp .ge 29, 3) by decide +kernel) (by decide) rfl hr1 hr2 ?_ ?_
  · exact fun q => am_x_fg [3, 4, 5] (k1 q)
  · exact fun q => k2 q
theorem S_X11_writes_41 {G : am_G} {d : Nat} {Q : Int → am_D → Prop} {σ : am_D} {v4 : Int} {v5 : Int} {v3 : Nat} {n3 : Nat} (hi1 : 0 ≤ v4) (hj2 : v4 < 15000) (hs4 : am_sh am_SH v3 = (100, n3)) (hi5 : 0 ≤ v5) (hj6 : v5 < ((n3 : Nat) : Int)) (k : am_X (am_FI G (d + 1) Q) mX11_writes (0, 0) 52 [some (am_r (some 91)), none, none, some (am_r (some v3)), some (am_i v4), some (am_i v5)] [] (am_K0, (am_pI σ v3 v5 (σ.1 110 v4)))) : am_X (am_FI G (d + 1) Q) mX11_writes (0, 0) 41 [some (am_r (some 91)), none, none, some (am_r (some v3)), some (am_i v4), some (am_i v5)] [] (am_K0, σ) := by
  refine am_r_aload_n (nx := 42) rfl rfl (show decode cX11_writes 41 = .ok (.aload_n 3, 1) by decide +kernel) rfl ?_
  refine am_r_iload (nx := 44) rfl (show decode cX11_writes 42 = .ok (.iload 5, 2) by decide +kernel) rfl ?_
  refine am_r_aload_n (nx := 45) rfl rfl (show decode cX11_writes 44 = .ok (.aload_n 0, 1) by decide +kernel) rfl ?_
  refine am_r_getF (nx := 48) 29 cw11 (by decide) rfl (Or.inl fl_X11_66) (ob_91) (fn_91_29) (show decode cX11_writes 45 = .ok (.getfield 66, 3) by decide +kernel) rfl ?_
  refine am_r_iload (nx := 50) rfl (show decode cX11_writes 48 = .ok (.iload 4, 2) by decide +kernel) rfl ?_
  refine am_r_iald (nx := 51) (sh_110) (am_shle (sh_110)) hi1 hj2 (show decode cX11_writes 50 = .ok (.iaload, 1) by decide +kernel) rfl ?_
  refine am_r_iast (nx := 52) (hs4) (am_shle (hs4)) hi5 hj6 (show decode cX11_writes 51 = .ok (.iastore, 1) by decide +kernel) rfl ?_
  exact k
theorem S_X11_writes_52 {G : am_G} {d : Nat} {Q : Int → am_D → Prop} {σ : am_D} {v4 : Int} {v5 : Int} {v3 : Option Nat} (hi1 : 0 ≤ v4) (hj2 : v4 < 15000) (k : am_X (am_FI G (d + 1) Q) mX11_writes (0, 0) 61 [some (am_r (some 91)), none, none, some (am_r v3), some (am_i (σ.1 111 v4)), some (am_i v5)] [] (am_K0, σ)) : am_X (am_FI G (d + 1) Q) mX11_writes (0, 0) 52 [some (am_r (some 91)), none, none, some (am_r v3), some (am_i v4), some (am_i v5)] [] (am_K0, σ) := by
  refine am_r_aload_n (nx := 53) rfl rfl (show decode cX11_writes 52 = .ok (.aload_n 0, 1) by decide +kernel) rfl ?_
  refine am_r_getF (nx := 56) 30 cw11 (by decide) rfl (Or.inl fl_X11_69) (ob_91) (fn_91_30) (show decode cX11_writes 53 = .ok (.getfield 69, 3) by decide +kernel) rfl ?_
  refine am_r_iload (nx := 58) rfl (show decode cX11_writes 56 = .ok (.iload 4, 2) by decide +kernel) rfl ?_
  refine am_r_iald (nx := 59) (sh_111) (am_shle (sh_111)) hi1 hj2 (show decode cX11_writes 58 = .ok (.iaload, 1) by decide +kernel) rfl ?_
  refine am_r_istore (nx := 61) (by decide) rfl (show decode cX11_writes 59 = .ok (.istore 4, 2) by decide +kernel) rfl ?_
  exact k
theorem S_X11_writes_61 {G : am_G} {d : Nat} {Q : Int → am_D → Prop} {σ : am_D} {v4 : Int} {v5 : Int} {v3 : Option Nat}  (k : am_X (am_FI G (d + 1) Q) mX11_writes (0, 0) 32 [some (am_r (some 91)), none, none, some (am_r v3), some (am_i v4), some (am_i (v5 + 1))] [] (am_K0, σ)) : am_X (am_FI G (d + 1) Q) mX11_writes (0, 0) 61 [some (am_r (some 91)), none, none, some (am_r v3), some (am_i v4), some (am_i v5)] [] (am_K0, σ) := by
  refine am_r_iinc (nx := 64) rfl rfl (show decode cX11_writes 61 = .ok (.iinc 5 1, 3) by decide +kernel) rfl ?_
  refine am_r_goto (tg := 32) (show decode cX11_writes 64 = .ok (.goto (-32), 3) by decide +kernel) (by decide) ?_
  exact k
theorem S_X11_writes_67 {G : am_G} {d : Nat} {Q : Int → am_D → Prop} {σ : am_D}   (k : Q (σ.1 91 45) σ) : am_X (am_FI G (d + 1) Q) mX11_writes (0, 0) 67 [some (am_r (some 91)), none, none, none, none, none] [] (am_K0, σ) := by
  refine am_r_aload_n (nx := 68) rfl rfl (show decode cX11_writes 67 = .ok (.aload_n 0, 1) by decide +kernel) rfl ?_
  refine am_r_getI (nx := 71) 45 cw11 (by decide) rfl (Or.inl fl_X11_342) (ob_91) (show decode cX11_writes 68 = .ok (.getfield 342, 3) by decide +kernel) rfl ?_
  exact am_r_iret rfl rfl (show decode cX11_writes 71 = .ok (.ireturn, 1) by decide +kernel) ⟨_, _, rfl, rfl, k⟩
theorem S_X11_refusedAt_0 {G : am_G} {d : Nat} {Q : Int → am_D → Prop} {σ : am_D} {v1 : Int} {v2 : Int} {v4 : Int} {Q' : am_D → Prop} {v3 : Option Nat} (hc : am_MV G d mX11_starts [am_r (some 91), am_i v1] σ Q') (k : ∀ σ' : am_D, Q' σ' → am_X (am_FI G (d + 1) Q) mX11_refusedAt (0, 0) 5 [some (am_r (some 91)), some (am_i v1), some (am_i v2), some (am_r v3), some (am_i v4), none] [] (am_K0, σ')) : am_X (am_FI G (d + 1) Q) mX11_refusedAt (0, 0) 0 [some (am_r (some 91)), some (am_i v1), some (am_i v2), some (am_r v3), some (am_i v4), none] [] (am_K0, σ) := by
  refine am_r_aload_n (nx := 1) rfl rfl (show decode cX11_refusedAt 0 = .ok (.aload_n 0, 1) by decide +kernel) rfl ?_
  refine am_r_iload_n (nx := 2) rfl rfl (show decode cX11_refusedAt 1 = .ok (.iload_n 1, 1) by decide +kernel) rfl ?_
  refine am_r_callV (as := [am_i v1]) (st := []) hc mb_X11_starts mv_X11_starts (Or.inl ml_X11_366) (ob_91) (by omega) (r := (RX11, TX11, 63)) rfl rfl rfl rfl (Nat.le_of_ble_eq_true rfl) ⟨Nat.le_refl _, Nat.le_refl _⟩ ⟨Nat.le_refl _, Nat.le_refl _⟩ (show decode cX11_refusedAt 2 = .ok (.invokevirtual 366, 3) by decide +kernel) ?_
  rintro _ _ ⟨σ', rfl, rfl, hq⟩ _
  exact (k σ' hq)
theorem S_X11_refusedAt_5 {G : am_G} {d : Nat} {Q : Int → am_D → Prop} {σ : am_D} {v1 : Int} {v2 : Int} {v4 : Int} {v3 : Option Nat}  (k : am_X (am_FI G (d + 1) Q) mX11_refusedAt (0, 0) 8 [some (am_r (some 91)), some (am_i v1), some (am_i v2), some (am_r v3), some (am_i v4), some (am_i 0)] [] (am_K0, σ)) : am_X (am_FI G (d + 1) Q) mX11_refusedAt (0, 0) 5 [some (am_r (some 91)), some (am_i v1), some (am_i v2), some (am_r v3), some (am_i v4), none] [] (am_K0, σ) := by
  refine am_r_iconst (nx := 6) (show decode cX11_refusedAt 5 = .ok (.iconst 0, 1) by decide +kernel) rfl ?_
  refine am_r_istore (nx := 8) (by decide) rfl (show decode cX11_refusedAt 6 = .ok (.istore 5, 2) by decide +kernel) rfl ?_
  exact k
theorem S_X11_refusedAt_8 {G : am_G} {d : Nat} {Q : Int → am_D → Prop} {σ : am_D} {v1 : Int} {v2 : Int} {v4 : Int} {v5 : Int} {v3 : Option Nat} (hr1 : -2147483648 ≤ v5 ∧ v5 ≤ 2147483647) (hr2 : -2147483648 ≤ v4 ∧ v4 ≤ 2147483647) (k1 : v4 ≤ v5 → am_X (am_FI G (d + 1) Q) mX11_refusedAt (0, 0) 37 [some (am_r (some 91)), some (am_i v1), some (am_i v2), none, some (am_i v4), none] [] (am_K0, σ)) (k2 : ¬ (v4 ≤ v5) → am_X (am_FI G (d + 1) Q) mX11_refusedAt (0, 0) 15 [some (am_r (some 91)), some (am_i v1), some (am_i v2), some (am_r v3), some (am_i v4), some (am_i v5)] [] (am_K0, σ)) : am_X (am_FI G (d + 1) Q) mX11_refusedAt (0, 0) 8 [some (am_r (some 91)), some (am_i v1), some (am_i v2), some (am_r v3), some (am_i v4), some (am_i v5)] [] (am_K0, σ) := by
  refine am_r_iload (nx := 10) rfl (show decode cX11_refusedAt 8 = .ok (.iload 5, 2) by decide +kernel) rfl ?_
  refine am_r_iload (nx := 12) rfl (show decode cX11_refusedAt 10 = .ok (.iload 4, 2) by decide +kernel) rfl ?_
  refine am_r_icmp_ge (tg := 37) (nx := 15) (show decode cX11_refusedAt 12 = .ok (.if_icmp .ge 25, 3) by decide +kernel) (by decide) rfl hr1 hr2 ?_ ?_
  · exact fun q => am_x_fg [3, 5] (k1 q)
  · exact fun q => k2 q
theorem S_X11_refusedAt_15 {G : am_G} {d : Nat} {Q : Int → am_D → Prop} {σ : am_D} {v1 : Int} {v2 : Int} {v4 : Int} {v5 : Int} {v3 : Nat} {n1 : Nat} {Q' : Int → am_D → Prop} (hs2 : am_sh am_SH v3 = (100, n1)) (hi3 : 0 ≤ v5) (hj4 : v5 < ((n1 : Nat) : Int)) (hc : am_MI G d mX11_reads [am_r (some 91), am_i v1, am_i v2, am_i (σ.1 v3 v5)] σ Q') (k : ∀ (x : Int) (σ' : am_D), Q' x σ' → am_X (am_FI G (d + 1) Q) mX11_refusedAt (0, 0) 25 [some (am_r (some 91)), some (am_i v1), some (am_i v2), some (am_r (some v3)), some (am_i v4), some (am_i v5)] [am_i x] (am_K0, σ')) : am_X (am_FI G (d + 1) Q) mX11_refusedAt (0, 0) 15 [some (am_r (some 91)), some (am_i v1), some (am_i v2), some (am_r (some v3)), some (am_i v4), some (am_i v5)] [] (am_K0, σ) := by
  refine am_r_aload_n (nx := 16) rfl rfl (show decode cX11_refusedAt 15 = .ok (.aload_n 0, 1) by decide +kernel) rfl ?_
  refine am_r_iload_n (nx := 17) rfl rfl (show decode cX11_refusedAt 16 = .ok (.iload_n 1, 1) by decide +kernel) rfl ?_
  refine am_r_iload_n (nx := 18) rfl rfl (show decode cX11_refusedAt 17 = .ok (.iload_n 2, 1) by decide +kernel) rfl ?_
  refine am_r_aload_n (nx := 19) rfl rfl (show decode cX11_refusedAt 18 = .ok (.aload_n 3, 1) by decide +kernel) rfl ?_
  refine am_r_iload (nx := 21) rfl (show decode cX11_refusedAt 19 = .ok (.iload 5, 2) by decide +kernel) rfl ?_
  refine am_r_iald (nx := 22) (hs2) (am_shle (hs2)) hi3 hj4 (show decode cX11_refusedAt 21 = .ok (.iaload, 1) by decide +kernel) rfl ?_
  refine am_r_callV (as := [am_i v1, am_i v2, am_i (σ.1 v3 v5)]) (st := []) hc mb_X11_reads mv_X11_reads (Or.inl ml_X11_369) (ob_91) (by omega) (r := (RX11, TX11, 63)) rfl rfl rfl rfl (Nat.le_of_ble_eq_true rfl) ⟨Nat.le_refl _, Nat.le_refl _⟩ ⟨Nat.le_refl _, Nat.le_refl _⟩ (show decode cX11_refusedAt 22 = .ok (.invokevirtual 369, 3) by decide +kernel) ?_
  rintro _ _ ⟨x, σ', rfl, rfl, hq⟩ _
  exact (k x σ' hq)
theorem S_X11_refusedAt_25 {G : am_G} {d : Nat} {Q : Int → am_D → Prop} {σ : am_D} {v1 : Int} {v2 : Int} {v4 : Int} {v5 : Int} {s0 : Int} {v3 : Option Nat} (hr1 : -2147483648 ≤ s0 ∧ s0 ≤ 2147483647) (k1 : ¬ s0 = 0 → am_X (am_FI G (d + 1) Q) mX11_refusedAt (0, 0) 31 [some (am_r (some 91)), some (am_i v1), some (am_i v2), some (am_r v3), some (am_i v4), some (am_i v5)] [] (am_K0, σ)) (k2 : ¬ (¬ s0 = 0) → am_X (am_FI G (d + 1) Q) mX11_refusedAt (0, 0) 28 [none, none, none, none, none, some (am_i v5)] [] (am_K0, σ)) : am_X (am_FI G (d + 1) Q) mX11_refusedAt (0, 0) 25 [some (am_r (some 91)), some (am_i v1), some (am_i v2), some (am_r v3), some (am_i v4), some (am_i v5)] [am_i s0] (am_K0, σ) := by
  refine am_r_if_ne (tg := 31) (nx := 28) (show decode cX11_refusedAt 25 = .ok (.ifCond .ne 6, 3) by decide +kernel) (by decide) rfl hr1 ?_ ?_
  · exact fun q => k1 q
  · exact fun q => am_x_fg [0, 1, 2, 3, 4] (k2 q)
theorem S_X11_refusedAt_28 {G : am_G} {d : Nat} {Q : Int → am_D → Prop} {σ : am_D} {v5 : Int}  (k : Q v5 σ) : am_X (am_FI G (d + 1) Q) mX11_refusedAt (0, 0) 28 [none, none, none, none, none, some (am_i v5)] [] (am_K0, σ) := by
  refine am_r_iload (nx := 30) rfl (show decode cX11_refusedAt 28 = .ok (.iload 5, 2) by decide +kernel) rfl ?_
  exact am_r_iret rfl rfl (show decode cX11_refusedAt 30 = .ok (.ireturn, 1) by decide +kernel) ⟨_, _, rfl, rfl, k⟩
theorem S_X11_refusedAt_31 {G : am_G} {d : Nat} {Q : Int → am_D → Prop} {σ : am_D} {v1 : Int} {v2 : Int} {v4 : Int} {v5 : Int} {v3 : Option Nat}  (k : am_X (am_FI G (d + 1) Q) mX11_refusedAt (0, 0) 8 [some (am_r (some 91)), some (am_i v1), some (am_i v2), some (am_r v3), some (am_i v4), some (am_i (v5 + 1))] [] (am_K0, σ)) : am_X (am_FI G (d + 1) Q) mX11_refusedAt (0, 0) 31 [some (am_r (some 91)), some (am_i v1), some (am_i v2), some (am_r v3), some (am_i v4), some (am_i v5)] [] (am_K0, σ) := by
  refine am_r_iinc (nx := 34) rfl rfl (show decode cX11_refusedAt 31 = .ok (.iinc 5 1, 3) by decide +kernel) rfl ?_
  refine am_r_goto (tg := 8) (show decode cX11_refusedAt 34 = .ok (.goto (-26), 3) by decide +kernel) (by decide) ?_
  exact k
theorem S_X11_refusedAt_37 {G : am_G} {d : Nat} {Q : Int → am_D → Prop} {σ : am_D} {v1 : Int} {v2 : Int} {v4 : Int} {Q' : Int → am_D → Prop} (hc : am_MI G d mX11_canEnd [am_r (some 91), am_i v1, am_i v2] σ Q') (k : ∀ (x : Int) (σ' : am_D), Q' x σ' → am_X (am_FI G (d + 1) Q) mX11_refusedAt (0, 0) 43 [none, none, none, none, some (am_i v4), none] [am_i x] (am_K0, σ')) : am_X (am_FI G (d + 1) Q) mX11_refusedAt (0, 0) 37 [some (am_r (some 91)), some (am_i v1), some (am_i v2), none, some (am_i v4), none] [] (am_K0, σ) := by
  refine am_r_aload_n (nx := 38) rfl rfl (show decode cX11_refusedAt 37 = .ok (.aload_n 0, 1) by decide +kernel) rfl ?_
  refine am_r_iload_n (nx := 39) rfl rfl (show decode cX11_refusedAt 38 = .ok (.iload_n 1, 1) by decide +kernel) rfl ?_
  refine am_r_iload_n (nx := 40) rfl rfl (show decode cX11_refusedAt 39 = .ok (.iload_n 2, 1) by decide +kernel) rfl ?_
  refine am_r_callV (as := [am_i v1, am_i v2]) (st := []) hc mb_X11_canEnd mv_X11_canEnd (Or.inl ml_X11_372) (ob_91) (by omega) (r := (RX11, TX11, 63)) rfl rfl rfl rfl (Nat.le_of_ble_eq_true rfl) ⟨Nat.le_refl _, Nat.le_refl _⟩ ⟨Nat.le_refl _, Nat.le_refl _⟩ (show decode cX11_refusedAt 40 = .ok (.invokevirtual 372, 3) by decide +kernel) ?_
  rintro _ _ ⟨x, σ', rfl, rfl, hq⟩ _
  exact am_x_fg [0, 1, 2] (k x σ' hq)
theorem S_X11_refusedAt_43 {G : am_G} {d : Nat} {Q : Int → am_D → Prop} {σ : am_D} {v4 : Int} {s0 : Int} (hr1 : -2147483648 ≤ s0 ∧ s0 ≤ 2147483647) (k1 : s0 = 0 → am_X (am_FI G (d + 1) Q) mX11_refusedAt (0, 0) 50 [none, none, none, none, some (am_i v4), none] [] (am_K0, σ)) (k2 : ¬ (s0 = 0) → am_X (am_FI G (d + 1) Q) mX11_refusedAt (0, 0) 46 [none, none, none, none, none, none] [] (am_K0, σ)) : am_X (am_FI G (d + 1) Q) mX11_refusedAt (0, 0) 43 [none, none, none, none, some (am_i v4), none] [am_i s0] (am_K0, σ) := by
  refine am_r_if_eq (tg := 50) (nx := 46) (show decode cX11_refusedAt 43 = .ok (.ifCond .eq 7, 3) by decide +kernel) (by decide) rfl hr1 ?_ ?_
  · exact fun q => k1 q
  · exact fun q => am_x_fg [4] (k2 q)
theorem S_X11_refusedAt_46 {G : am_G} {d : Nat} {Q : Int → am_D → Prop} {σ : am_D}   (k : am_X (am_FI G (d + 1) Q) mX11_refusedAt (0, 0) 52 [none, none, none, none, none, none] [am_i (-1)] (am_K0, σ)) : am_X (am_FI G (d + 1) Q) mX11_refusedAt (0, 0) 46 [none, none, none, none, none, none] [] (am_K0, σ) := by
  refine am_r_iconst (nx := 47) (show decode cX11_refusedAt 46 = .ok (.iconst (-1), 1) by decide +kernel) rfl ?_
  refine am_r_goto (tg := 52) (show decode cX11_refusedAt 47 = .ok (.goto 5, 3) by decide +kernel) (by decide) ?_
  exact k
theorem S_X11_refusedAt_50 {G : am_G} {d : Nat} {Q : Int → am_D → Prop} {σ : am_D} {v4 : Int}  (k : am_X (am_FI G (d + 1) Q) mX11_refusedAt (0, 0) 52 [none, none, none, none, none, none] [am_i v4] (am_K0, σ)) : am_X (am_FI G (d + 1) Q) mX11_refusedAt (0, 0) 50 [none, none, none, none, some (am_i v4), none] [] (am_K0, σ) := by
  refine am_r_iload (nx := 52) rfl (show decode cX11_refusedAt 50 = .ok (.iload 4, 2) by decide +kernel) rfl ?_
  exact am_x_fg [4] k
theorem S_X11_refusedAt_52 {G : am_G} {d : Nat} {Q : Int → am_D → Prop} {σ : am_D} {s0 : Int}  (k : Q s0 σ) : am_X (am_FI G (d + 1) Q) mX11_refusedAt (0, 0) 52 [none, none, none, none, none, none] [am_i s0] (am_K0, σ) := by
  exact am_r_iret rfl rfl (show decode cX11_refusedAt 52 = .ok (.ireturn, 1) by decide +kernel) ⟨_, _, rfl, rfl, k⟩
theorem S_X11_begin_0 {G : am_G} {d : Nat} {Q : Int → am_D → Prop} {σ : am_D} {v1 : Int} {Q' : Int → am_D → Prop} (hc : am_MI G d mX11_isMachine [am_r (some 91), am_i v1] σ Q') (k : ∀ (x : Int) (σ' : am_D), Q' x σ' → am_X (am_FI G (d + 1) Q) mX11_begin (0, 0) 5 [some (am_r (some 91)), some (am_i v1)] [am_i x] (am_K0, σ')) : am_X (am_FI G (d + 1) Q) mX11_begin (0, 0) 0 [some (am_r (some 91)), some (am_i v1)] [] (am_K0, σ) := by
  refine am_r_aload_n (nx := 1) rfl rfl (show decode cX11_begin 0 = .ok (.aload_n 0, 1) by decide +kernel) rfl ?_
  refine am_r_iload_n (nx := 2) rfl rfl (show decode cX11_begin 1 = .ok (.iload_n 1, 1) by decide +kernel) rfl ?_
  refine am_r_callV (as := [am_i v1]) (st := []) hc mb_X11_isMachine mv_X11_isMachine (Or.inl ml_X11_307) (ob_91) (by omega) (r := (RX11, TX11, 63)) rfl rfl rfl rfl (Nat.le_of_ble_eq_true rfl) ⟨Nat.le_refl _, Nat.le_refl _⟩ ⟨Nat.le_refl _, Nat.le_refl _⟩ (show decode cX11_begin 2 = .ok (.invokevirtual 307, 3) by decide +kernel) ?_
  rintro _ _ ⟨x, σ', rfl, rfl, hq⟩ _
  exact (k x σ' hq)
theorem S_X11_begin_5 {G : am_G} {d : Nat} {Q : Int → am_D → Prop} {σ : am_D} {v1 : Int} {s0 : Int} (hr1 : -2147483648 ≤ s0 ∧ s0 ≤ 2147483647) (k1 : ¬ s0 = 0 → am_X (am_FI G (d + 1) Q) mX11_begin (0, 0) 10 [some (am_r (some 91)), some (am_i v1)] [] (am_K0, σ)) (k2 : ¬ (¬ s0 = 0) → am_X (am_FI G (d + 1) Q) mX11_begin (0, 0) 8 [none, none] [] (am_K0, σ)) : am_X (am_FI G (d + 1) Q) mX11_begin (0, 0) 5 [some (am_r (some 91)), some (am_i v1)] [am_i s0] (am_K0, σ) := by
  refine am_r_if_ne (tg := 10) (nx := 8) (show decode cX11_begin 5 = .ok (.ifCond .ne 5, 3) by decide +kernel) (by decide) rfl hr1 ?_ ?_
  · exact fun q => k1 q
  · exact fun q => am_x_fg [0, 1] (k2 q)
theorem S_X11_begin_8 {G : am_G} {d : Nat} {Q : Int → am_D → Prop} {σ : am_D}   (k : Q (-1) σ) : am_X (am_FI G (d + 1) Q) mX11_begin (0, 0) 8 [none, none] [] (am_K0, σ) := by
  refine am_r_iconst (nx := 9) (show decode cX11_begin 8 = .ok (.iconst (-1), 1) by decide +kernel) rfl ?_
  exact am_r_iret rfl rfl (show decode cX11_begin 9 = .ok (.ireturn, 1) by decide +kernel) ⟨_, _, rfl, rfl, k⟩
theorem S_X11_begin_10 {G : am_G} {d : Nat} {Q : Int → am_D → Prop} {σ : am_D} {v1 : Int} {Q' : am_D → Prop} (hc : am_MV G d mX11_copies [am_r (some 91), am_i v1, am_i 4] σ Q') (k : ∀ σ' : am_D, Q' σ' → am_X (am_FI G (d + 1) Q) mX11_begin (0, 0) 16 [some (am_r (some 91)), none] [] (am_K0, σ')) : am_X (am_FI G (d + 1) Q) mX11_begin (0, 0) 10 [some (am_r (some 91)), some (am_i v1)] [] (am_K0, σ) := by
  refine am_r_aload_n (nx := 11) rfl rfl (show decode cX11_begin 10 = .ok (.aload_n 0, 1) by decide +kernel) rfl ?_
  refine am_r_iload_n (nx := 12) rfl rfl (show decode cX11_begin 11 = .ok (.iload_n 1, 1) by decide +kernel) rfl ?_
  refine am_r_iconst (nx := 13) (show decode cX11_begin 12 = .ok (.iconst 4, 1) by decide +kernel) rfl ?_
  refine am_r_callV (as := [am_i v1, am_i 4]) (st := []) hc mb_X11_copies mv_X11_copies (Or.inl ml_X11_286) (ob_91) (by omega) (r := (RX11, TX11, 63)) rfl rfl rfl rfl (Nat.le_of_ble_eq_true rfl) ⟨Nat.le_refl _, Nat.le_refl _⟩ ⟨Nat.le_refl _, Nat.le_refl _⟩ (show decode cX11_begin 13 = .ok (.invokevirtual 286, 3) by decide +kernel) ?_
  rintro _ _ ⟨σ', rfl, rfl, hq⟩ _
  exact am_x_fg [1] (k σ' hq)
theorem S_X11_begin_16 {G : am_G} {d : Nat} {Q : Int → am_D → Prop} {σ : am_D} {Q' : am_D → Prop} (hc : am_MV G d mX11_starts [am_r (some 91), am_i 0] σ Q') (k : ∀ σ' : am_D, Q' σ' → am_X (am_FI G (d + 1) Q) mX11_begin (0, 0) 21 [some (am_r (some 91)), none] [] (am_K0, σ')) : am_X (am_FI G (d + 1) Q) mX11_begin (0, 0) 16 [some (am_r (some 91)), none] [] (am_K0, σ) := by
  refine am_r_aload_n (nx := 17) rfl rfl (show decode cX11_begin 16 = .ok (.aload_n 0, 1) by decide +kernel) rfl ?_
  refine am_r_iconst (nx := 18) (show decode cX11_begin 17 = .ok (.iconst 0, 1) by decide +kernel) rfl ?_
  refine am_r_callV (as := [am_i 0]) (st := []) hc mb_X11_starts mv_X11_starts (Or.inl ml_X11_366) (ob_91) (by omega) (r := (RX11, TX11, 63)) rfl rfl rfl rfl (Nat.le_of_ble_eq_true rfl) ⟨Nat.le_refl _, Nat.le_refl _⟩ ⟨Nat.le_refl _, Nat.le_refl _⟩ (show decode cX11_begin 18 = .ok (.invokevirtual 366, 3) by decide +kernel) ?_
  rintro _ _ ⟨σ', rfl, rfl, hq⟩ _
  exact (k σ' hq)
theorem S_X11_begin_21 {G : am_G} {d : Nat} {Q : Int → am_D → Prop} {σ : am_D}   (k : am_X (am_FI G (d + 1) Q) mX11_begin (0, 0) 26 [some (am_r (some 91)), none] [] (am_K0, (am_pI σ 91 49 1))) : am_X (am_FI G (d + 1) Q) mX11_begin (0, 0) 21 [some (am_r (some 91)), none] [] (am_K0, σ) := by
  refine am_r_aload_n (nx := 22) rfl rfl (show decode cX11_begin 21 = .ok (.aload_n 0, 1) by decide +kernel) rfl ?_
  refine am_r_iconst (nx := 23) (show decode cX11_begin 22 = .ok (.iconst 1, 1) by decide +kernel) rfl ?_
  refine am_r_putI (nx := 26) 49 cw11 (by decide) rfl (Or.inl fl_X11_328) (ob_91) rfl (Or.inr ⟨rfl, by omega⟩) (show decode cX11_begin 23 = .ok (.putfield 328, 3) by decide +kernel) rfl ?_
  exact k
theorem S_X11_begin_26 {G : am_G} {d : Nat} {Q : Int → am_D → Prop} {σ : am_D}   (k : am_X (am_FI G (d + 1) Q) mX11_begin (0, 0) 31 [some (am_r (some 91)), none] [] (am_K0, (am_pI σ 91 50 0))) : am_X (am_FI G (d + 1) Q) mX11_begin (0, 0) 26 [some (am_r (some 91)), none] [] (am_K0, σ) := by
  refine am_r_aload_n (nx := 27) rfl rfl (show decode cX11_begin 26 = .ok (.aload_n 0, 1) by decide +kernel) rfl ?_
  refine am_r_iconst (nx := 28) (show decode cX11_begin 27 = .ok (.iconst 0, 1) by decide +kernel) rfl ?_
  refine am_r_putI (nx := 31) 50 cw11 (by decide) rfl (Or.inl fl_X11_332) (ob_91) rfl (Or.inl rfl) (show decode cX11_begin 28 = .ok (.putfield 332, 3) by decide +kernel) rfl ?_
  exact k
theorem S_X11_begin_31 {G : am_G} {d : Nat} {Q : Int → am_D → Prop} {σ : am_D}   (k : am_X (am_FI G (d + 1) Q) mX11_begin (0, 0) 36 [none, none] [] (am_K0, (am_pI σ 91 51 0))) : am_X (am_FI G (d + 1) Q) mX11_begin (0, 0) 31 [some (am_r (some 91)), none] [] (am_K0, σ) := by
  refine am_r_aload_n (nx := 32) rfl rfl (show decode cX11_begin 31 = .ok (.aload_n 0, 1) by decide +kernel) rfl ?_
  refine am_r_iconst (nx := 33) (show decode cX11_begin 32 = .ok (.iconst 0, 1) by decide +kernel) rfl ?_
  refine am_r_putI (nx := 36) 51 cw11 (by decide) rfl (Or.inl fl_X11_375) (ob_91) rfl (Or.inl rfl) (show decode cX11_begin 33 = .ok (.putfield 375, 3) by decide +kernel) rfl ?_
  exact am_x_fg [0] k
theorem S_X11_begin_36 {G : am_G} {d : Nat} {Q : Int → am_D → Prop} {σ : am_D}   (k : Q 0 σ) : am_X (am_FI G (d + 1) Q) mX11_begin (0, 0) 36 [none, none] [] (am_K0, σ) := by
  refine am_r_iconst (nx := 37) (show decode cX11_begin 36 = .ok (.iconst 0, 1) by decide +kernel) rfl ?_
  exact am_r_iret rfl rfl (show decode cX11_begin 37 = .ok (.ireturn, 1) by decide +kernel) ⟨_, _, rfl, rfl, k⟩
theorem S_X11_next_0 {G : am_G} {d : Nat} {Q : Int → am_D → Prop} {σ : am_D} {v1 : Int} (hr1 : -2147483648 ≤ (σ.1 91 49) ∧ (σ.1 91 49) ≤ 2147483647) (k1 : (σ.1 91 49) = 0 → am_X (am_FI G (d + 1) Q) mX11_next (0, 0) 16 [none, none] [] (am_K0, σ)) (k2 : ¬ ((σ.1 91 49) = 0) → am_X (am_FI G (d + 1) Q) mX11_next (0, 0) 7 [some (am_r (some 91)), some (am_i v1)] [] (am_K0, σ)) : am_X (am_FI G (d + 1) Q) mX11_next (0, 0) 0 [some (am_r (some 91)), some (am_i v1)] [] (am_K0, σ) := by
  refine am_r_aload_n (nx := 1) rfl rfl (show decode cX11_next 0 = .ok (.aload_n 0, 1) by decide +kernel) rfl ?_
  refine am_r_getI (nx := 4) 49 cw11 (by decide) rfl (Or.inl fl_X11_328) (ob_91) (show decode cX11_next 1 = .ok (.getfield 328, 3) by decide +kernel) rfl ?_
  refine am_r_if_eq (tg := 16) (nx := 7) (show decode cX11_next 4 = .ok (.ifCond .eq 12, 3) by decide +kernel) (by decide) rfl hr1 ?_ ?_
  · exact fun q => am_x_fg [0, 1] (k1 q)
  · exact fun q => k2 q
theorem S_X11_next_7 {G : am_G} {d : Nat} {Q : Int → am_D → Prop} {σ : am_D} {v1 : Int} {Q' : Int → am_D → Prop} (hc : am_MI G d mX11_isIn [am_i v1, am_i 0, am_i 3] σ Q') (k : ∀ (x : Int) (σ' : am_D), Q' x σ' → am_X (am_FI G (d + 1) Q) mX11_next (0, 0) 13 [some (am_r (some 91)), some (am_i v1)] [am_i x] (am_K0, σ')) : am_X (am_FI G (d + 1) Q) mX11_next (0, 0) 7 [some (am_r (some 91)), some (am_i v1)] [] (am_K0, σ) := by
  refine am_r_iload_n (nx := 8) rfl rfl (show decode cX11_next 7 = .ok (.iload_n 1, 1) by decide +kernel) rfl ?_
  refine am_r_iconst (nx := 9) (show decode cX11_next 8 = .ok (.iconst 0, 1) by decide +kernel) rfl ?_
  refine am_r_iconst (nx := 10) (show decode cX11_next 9 = .ok (.iconst 3, 1) by decide +kernel) rfl ?_
  refine am_r_callS (as := [am_i v1, am_i 0, am_i 3]) (st := []) hc mb_X11_isIn mv_X11_isIn (Or.inl ml_X11_156) rfl rfl (Nat.le_of_ble_eq_true rfl) ⟨Nat.le_refl _, Nat.le_refl _⟩ ⟨Nat.le_refl _, Nat.le_refl _⟩ (show decode cX11_next 10 = .ok (.invokestatic 156, 3) by decide +kernel) ?_
  rintro _ _ ⟨x, σ', rfl, rfl, hq⟩ _
  exact (k x σ' hq)
theorem S_X11_next_13 {G : am_G} {d : Nat} {Q : Int → am_D → Prop} {σ : am_D} {v1 : Int} {s0 : Int} (hr1 : -2147483648 ≤ s0 ∧ s0 ≤ 2147483647) (k1 : ¬ s0 = 0 → am_X (am_FI G (d + 1) Q) mX11_next (0, 0) 18 [some (am_r (some 91)), some (am_i v1)] [] (am_K0, σ)) (k2 : ¬ (¬ s0 = 0) → am_X (am_FI G (d + 1) Q) mX11_next (0, 0) 16 [none, none] [] (am_K0, σ)) : am_X (am_FI G (d + 1) Q) mX11_next (0, 0) 13 [some (am_r (some 91)), some (am_i v1)] [am_i s0] (am_K0, σ) := by
  refine am_r_if_ne (tg := 18) (nx := 16) (show decode cX11_next 13 = .ok (.ifCond .ne 5, 3) by decide +kernel) (by decide) rfl hr1 ?_ ?_
  · exact fun q => k1 q
  · exact fun q => am_x_fg [0, 1] (k2 q)
theorem S_X11_next_16 {G : am_G} {d : Nat} {Q : Int → am_D → Prop} {σ : am_D}   (k : Q (-1) σ) : am_X (am_FI G (d + 1) Q) mX11_next (0, 0) 16 [none, none] [] (am_K0, σ) := by
  refine am_r_iconst (nx := 17) (show decode cX11_next 16 = .ok (.iconst (-1), 1) by decide +kernel) rfl ?_
  exact am_r_iret rfl rfl (show decode cX11_next 17 = .ok (.ireturn, 1) by decide +kernel) ⟨_, _, rfl, rfl, k⟩
theorem S_X11_next_18 {G : am_G} {d : Nat} {Q : Int → am_D → Prop} {σ : am_D} {v1 : Int} (hr1 : -2147483648 ≤ v1 ∧ v1 ≤ 2147483647) (k1 : ¬ v1 = 3 → am_X (am_FI G (d + 1) Q) mX11_next (0, 0) 35 [some (am_r (some 91)), some (am_i v1)] [] (am_K0, σ)) (k2 : ¬ (¬ v1 = 3) → am_X (am_FI G (d + 1) Q) mX11_next (0, 0) 23 [some (am_r (some 91)), some (am_i v1)] [] (am_K0, σ)) : am_X (am_FI G (d + 1) Q) mX11_next (0, 0) 18 [some (am_r (some 91)), some (am_i v1)] [] (am_K0, σ) := by
  refine am_r_iload_n (nx := 19) rfl rfl (show decode cX11_next 18 = .ok (.iload_n 1, 1) by decide +kernel) rfl ?_
  refine am_r_iconst (nx := 20) (show decode cX11_next 19 = .ok (.iconst 3, 1) by decide +kernel) rfl ?_
  refine am_r_icmp_ne (tg := 35) (nx := 23) (show decode cX11_next 20 = .ok (.if_icmp .ne 15, 3) by decide +kernel) (by decide) rfl hr1 (by omega) ?_ ?_
  · exact fun q => k1 q
  · exact fun q => k2 q
theorem S_X11_next_23 {G : am_G} {d : Nat} {Q : Int → am_D → Prop} {σ : am_D} {v1 : Int} (hr1 : -2147483648 ≤ (σ.1 114 0) ∧ (σ.1 114 0) ≤ 2147483647) (k1 : ¬ (σ.1 114 0) = 0 → am_X (am_FI G (d + 1) Q) mX11_next (0, 0) 59 [some (am_r (some 91)), some (am_i v1)] [] (am_K0, σ)) (k2 : ¬ (¬ (σ.1 114 0) = 0) → am_X (am_FI G (d + 1) Q) mX11_next (0, 0) 32 [none, none] [] (am_K0, σ)) : am_X (am_FI G (d + 1) Q) mX11_next (0, 0) 23 [some (am_r (some 91)), some (am_i v1)] [] (am_K0, σ) := by
  refine am_r_aload_n (nx := 24) rfl rfl (show decode cX11_next 23 = .ok (.aload_n 0, 1) by decide +kernel) rfl ?_
  refine am_r_getF (nx := 27) 33 cw11 (by decide) rfl (Or.inl fl_X11_78) (ob_91) (fn_91_33) (show decode cX11_next 24 = .ok (.getfield 78, 3) by decide +kernel) rfl ?_
  refine am_r_iconst (nx := 28) (show decode cX11_next 27 = .ok (.iconst 0, 1) by decide +kernel) rfl ?_
  refine am_r_iald (nx := 29) (sh_114) (am_shle (sh_114)) (by omega) (by omega) (show decode cX11_next 28 = .ok (.iaload, 1) by decide +kernel) rfl ?_
  refine am_r_if_ne (tg := 59) (nx := 32) (show decode cX11_next 29 = .ok (.ifCond .ne 30, 3) by decide +kernel) (by decide) rfl hr1 ?_ ?_
  · exact fun q => k1 q
  · exact fun q => am_x_fg [0, 1] (k2 q)
theorem S_X11_next_32 {G : am_G} {d : Nat} {Q : Int → am_D → Prop} {σ : am_D}   (k : am_X (am_FI G (d + 1) Q) mX11_next (0, 0) 56 [none, none] [] (am_K0, σ)) : am_X (am_FI G (d + 1) Q) mX11_next (0, 0) 32 [none, none] [] (am_K0, σ) := by
  refine am_r_goto (tg := 56) (show decode cX11_next 32 = .ok (.goto 24, 3) by decide +kernel) (by decide) ?_
  exact k
theorem S_X11_next_35 {G : am_G} {d : Nat} {Q : Int → am_D → Prop} {σ : am_D} {v1 : Int} (hr1 : -2147483648 ≤ (σ.1 114 0) ∧ (σ.1 114 0) ≤ 2147483647) (k1 : (σ.1 114 0) = 60 → am_X (am_FI G (d + 1) Q) mX11_next (0, 0) 56 [none, none] [] (am_K0, σ)) (k2 : ¬ ((σ.1 114 0) = 60) → am_X (am_FI G (d + 1) Q) mX11_next (0, 0) 46 [some (am_r (some 91)), some (am_i v1)] [] (am_K0, σ)) : am_X (am_FI G (d + 1) Q) mX11_next (0, 0) 35 [some (am_r (some 91)), some (am_i v1)] [] (am_K0, σ) := by
  refine am_r_aload_n (nx := 36) rfl rfl (show decode cX11_next 35 = .ok (.aload_n 0, 1) by decide +kernel) rfl ?_
  refine am_r_getF (nx := 39) 33 cw11 (by decide) rfl (Or.inl fl_X11_78) (ob_91) (fn_91_33) (show decode cX11_next 36 = .ok (.getfield 78, 3) by decide +kernel) rfl ?_
  refine am_r_iconst (nx := 40) (show decode cX11_next 39 = .ok (.iconst 0, 1) by decide +kernel) rfl ?_
  refine am_r_iald (nx := 41) (sh_114) (am_shle (sh_114)) (by omega) (by omega) (show decode cX11_next 40 = .ok (.iaload, 1) by decide +kernel) rfl ?_
  refine am_r_bipush (nx := 43) rfl (show decode cX11_next 41 = .ok (.bipush 60, 2) by decide +kernel) rfl ?_
  refine am_r_icmp_eq (tg := 56) (nx := 46) (show decode cX11_next 43 = .ok (.if_icmp .eq 13, 3) by decide +kernel) (by decide) rfl hr1 (by omega) ?_ ?_
  · exact fun q => am_x_fg [0, 1] (k1 q)
  · exact fun q => k2 q
theorem S_X11_next_46 {G : am_G} {d : Nat} {Q : Int → am_D → Prop} {σ : am_D} {v1 : Int} (hr1 : -2147483648 ≤ (σ.1 91 51) ∧ (σ.1 91 51) ≤ 2147483647) (k1 : ¬ (σ.1 91 51) = 400 → am_X (am_FI G (d + 1) Q) mX11_next (0, 0) 59 [some (am_r (some 91)), some (am_i v1)] [] (am_K0, σ)) (k2 : ¬ (¬ (σ.1 91 51) = 400) → am_X (am_FI G (d + 1) Q) mX11_next (0, 0) 56 [none, none] [] (am_K0, σ)) : am_X (am_FI G (d + 1) Q) mX11_next (0, 0) 46 [some (am_r (some 91)), some (am_i v1)] [] (am_K0, σ) := by
  refine am_r_aload_n (nx := 47) rfl rfl (show decode cX11_next 46 = .ok (.aload_n 0, 1) by decide +kernel) rfl ?_
  refine am_r_getI (nx := 50) 51 cw11 (by decide) rfl (Or.inl fl_X11_375) (ob_91) (show decode cX11_next 47 = .ok (.getfield 375, 3) by decide +kernel) rfl ?_
  refine am_r_sipush (nx := 53) rfl (show decode cX11_next 50 = .ok (.sipush 400, 3) by decide +kernel) rfl ?_
  refine am_r_icmp_ne (tg := 59) (nx := 56) (show decode cX11_next 53 = .ok (.if_icmp .ne 6, 3) by decide +kernel) (by decide) rfl hr1 (by omega) ?_ ?_
  · exact fun q => k1 q
  · exact fun q => am_x_fg [0, 1] (k2 q)
theorem S_X11_next_56 {G : am_G} {d : Nat} {Q : Int → am_D → Prop} {σ : am_D}   (k : Q (-2) σ) : am_X (am_FI G (d + 1) Q) mX11_next (0, 0) 56 [none, none] [] (am_K0, σ) := by
  refine am_r_bipush (nx := 58) rfl (show decode cX11_next 56 = .ok (.bipush (-2), 2) by decide +kernel) rfl ?_
  exact am_r_iret rfl rfl (show decode cX11_next 58 = .ok (.ireturn, 1) by decide +kernel) ⟨_, _, rfl, rfl, k⟩
theorem S_X11_next_59 {G : am_G} {d : Nat} {Q : Int → am_D → Prop} {σ : am_D} {v1 : Int} {Q' : Int → am_D → Prop} (hc : am_MI G d mX11_reads [am_r (some 91), am_i 0, am_i 4, am_i v1] σ Q') (k : ∀ (x : Int) (σ' : am_D), Q' x σ' → am_X (am_FI G (d + 1) Q) mX11_next (0, 0) 66 [some (am_r (some 91)), some (am_i v1)] [am_i x] (am_K0, σ')) : am_X (am_FI G (d + 1) Q) mX11_next (0, 0) 59 [some (am_r (some 91)), some (am_i v1)] [] (am_K0, σ) := by
  refine am_r_aload_n (nx := 60) rfl rfl (show decode cX11_next 59 = .ok (.aload_n 0, 1) by decide +kernel) rfl ?_
  refine am_r_iconst (nx := 61) (show decode cX11_next 60 = .ok (.iconst 0, 1) by decide +kernel) rfl ?_
  refine am_r_iconst (nx := 62) (show decode cX11_next 61 = .ok (.iconst 4, 1) by decide +kernel) rfl ?_
  refine am_r_iload_n (nx := 63) rfl rfl (show decode cX11_next 62 = .ok (.iload_n 1, 1) by decide +kernel) rfl ?_
  refine am_r_callV (as := [am_i 0, am_i 4, am_i v1]) (st := []) hc mb_X11_reads mv_X11_reads (Or.inl ml_X11_369) (ob_91) (by omega) (r := (RX11, TX11, 63)) rfl rfl rfl rfl (Nat.le_of_ble_eq_true rfl) ⟨Nat.le_refl _, Nat.le_refl _⟩ ⟨Nat.le_refl _, Nat.le_refl _⟩ (show decode cX11_next 63 = .ok (.invokevirtual 369, 3) by decide +kernel) ?_
  rintro _ _ ⟨x, σ', rfl, rfl, hq⟩ _
  exact (k x σ' hq)
theorem S_X11_next_66 {G : am_G} {d : Nat} {Q : Int → am_D → Prop} {σ : am_D} {v1 : Int} {s0 : Int} (hr1 : -2147483648 ≤ s0 ∧ s0 ≤ 2147483647) (k1 : ¬ s0 = 0 → am_X (am_FI G (d + 1) Q) mX11_next (0, 0) 71 [some (am_r (some 91)), some (am_i v1)] [] (am_K0, σ)) (k2 : ¬ (¬ s0 = 0) → am_X (am_FI G (d + 1) Q) mX11_next (0, 0) 69 [none, none] [] (am_K0, σ)) : am_X (am_FI G (d + 1) Q) mX11_next (0, 0) 66 [some (am_r (some 91)), some (am_i v1)] [am_i s0] (am_K0, σ) := by
  refine am_r_if_ne (tg := 71) (nx := 69) (show decode cX11_next 66 = .ok (.ifCond .ne 5, 3) by decide +kernel) (by decide) rfl hr1 ?_ ?_
  · exact fun q => k1 q
  · exact fun q => am_x_fg [0, 1] (k2 q)
theorem S_X11_next_69 {G : am_G} {d : Nat} {Q : Int → am_D → Prop} {σ : am_D}   (k : Q (-1) σ) : am_X (am_FI G (d + 1) Q) mX11_next (0, 0) 69 [none, none] [] (am_K0, σ) := by
  refine am_r_iconst (nx := 70) (show decode cX11_next 69 = .ok (.iconst (-1), 1) by decide +kernel) rfl ?_
  exact am_r_iret rfl rfl (show decode cX11_next 70 = .ok (.ireturn, 1) by decide +kernel) ⟨_, _, rfl, rfl, k⟩
theorem S_X11_next_71 {G : am_G} {d : Nat} {Q : Int → am_D → Prop} {σ : am_D} {v1 : Int}  (k : am_X (am_FI G (d + 1) Q) mX11_next (0, 0) 81 [some (am_r (some 91)), some (am_i v1)] [] (am_K0, (am_pI σ 91 50 ((σ.1 91 50) + 1)))) : am_X (am_FI G (d + 1) Q) mX11_next (0, 0) 71 [some (am_r (some 91)), some (am_i v1)] [] (am_K0, σ) := by
  refine am_r_aload_n (nx := 72) rfl rfl (show decode cX11_next 71 = .ok (.aload_n 0, 1) by decide +kernel) rfl ?_
  refine am_r_dup (nx := 73) rfl (show decode cX11_next 72 = .ok (.dup, 1) by decide +kernel) rfl ?_
  refine am_r_getI (nx := 76) 50 cw11 (by decide) rfl (Or.inl fl_X11_332) (ob_91) (show decode cX11_next 73 = .ok (.getfield 332, 3) by decide +kernel) rfl ?_
  refine am_r_iconst (nx := 77) (show decode cX11_next 76 = .ok (.iconst 1, 1) by decide +kernel) rfl ?_
  refine am_r_iadd (nx := 78) (show decode cX11_next 77 = .ok (.iadd, 1) by decide +kernel) rfl ?_
  refine am_r_putI (nx := 81) 50 cw11 (by decide) rfl (Or.inl fl_X11_332) (ob_91) rfl (Or.inl rfl) (show decode cX11_next 78 = .ok (.putfield 332, 3) by decide +kernel) rfl ?_
  exact k
theorem S_X11_next_81 {G : am_G} {d : Nat} {Q : Int → am_D → Prop} {σ : am_D} {v1 : Int} (hr1 : -2147483648 ≤ v1 ∧ v1 ≤ 2147483647) (k1 : ¬ v1 = 3 → am_X (am_FI G (d + 1) Q) mX11_next (0, 0) 95 [some (am_r (some 91)), none] [am_i (σ.1 91 51), am_r (some 91)] (am_K0, σ)) (k2 : ¬ (¬ v1 = 3) → am_X (am_FI G (d + 1) Q) mX11_next (0, 0) 91 [some (am_r (some 91)), none] [am_i (σ.1 91 51), am_r (some 91)] (am_K0, σ)) : am_X (am_FI G (d + 1) Q) mX11_next (0, 0) 81 [some (am_r (some 91)), some (am_i v1)] [] (am_K0, σ) := by
  refine am_r_aload_n (nx := 82) rfl rfl (show decode cX11_next 81 = .ok (.aload_n 0, 1) by decide +kernel) rfl ?_
  refine am_r_dup (nx := 83) rfl (show decode cX11_next 82 = .ok (.dup, 1) by decide +kernel) rfl ?_
  refine am_r_getI (nx := 86) 51 cw11 (by decide) rfl (Or.inl fl_X11_375) (ob_91) (show decode cX11_next 83 = .ok (.getfield 375, 3) by decide +kernel) rfl ?_
  refine am_r_iload_n (nx := 87) rfl rfl (show decode cX11_next 86 = .ok (.iload_n 1, 1) by decide +kernel) rfl ?_
  refine am_r_iconst (nx := 88) (show decode cX11_next 87 = .ok (.iconst 3, 1) by decide +kernel) rfl ?_
  refine am_r_icmp_ne (tg := 95) (nx := 91) (show decode cX11_next 88 = .ok (.if_icmp .ne 7, 3) by decide +kernel) (by decide) rfl hr1 (by omega) ?_ ?_
  · exact fun q => am_x_fg [1] (k1 q)
  · exact fun q => am_x_fg [1] (k2 q)
theorem S_X11_next_91 {G : am_G} {d : Nat} {Q : Int → am_D → Prop} {σ : am_D} {s1 : Int}  (k : am_X (am_FI G (d + 1) Q) mX11_next (0, 0) 96 [some (am_r (some 91)), none] [am_i 0, am_i s1, am_r (some 91)] (am_K0, σ)) : am_X (am_FI G (d + 1) Q) mX11_next (0, 0) 91 [some (am_r (some 91)), none] [am_i s1, am_r (some 91)] (am_K0, σ) := by
  refine am_r_iconst (nx := 92) (show decode cX11_next 91 = .ok (.iconst 0, 1) by decide +kernel) rfl ?_
  refine am_r_goto (tg := 96) (show decode cX11_next 92 = .ok (.goto 4, 3) by decide +kernel) (by decide) ?_
  exact k
theorem S_X11_next_95 {G : am_G} {d : Nat} {Q : Int → am_D → Prop} {σ : am_D} {s1 : Int}  (k : am_X (am_FI G (d + 1) Q) mX11_next (0, 0) 96 [some (am_r (some 91)), none] [am_i 1, am_i s1, am_r (some 91)] (am_K0, σ)) : am_X (am_FI G (d + 1) Q) mX11_next (0, 0) 95 [some (am_r (some 91)), none] [am_i s1, am_r (some 91)] (am_K0, σ) := by
  refine am_r_iconst (nx := 96) (show decode cX11_next 95 = .ok (.iconst 1, 1) by decide +kernel) rfl ?_
  exact k
theorem S_X11_next_96 {G : am_G} {d : Nat} {Q : Int → am_D → Prop} {σ : am_D} {s1 : Int} {s2 : Int}  (k : am_X (am_FI G (d + 1) Q) mX11_next (0, 0) 100 [some (am_r (some 91)), none] [] (am_K0, (am_pI σ 91 51 (s1 + s2)))) : am_X (am_FI G (d + 1) Q) mX11_next (0, 0) 96 [some (am_r (some 91)), none] [am_i s2, am_i s1, am_r (some 91)] (am_K0, σ) := by
  refine am_r_iadd (nx := 97) (show decode cX11_next 96 = .ok (.iadd, 1) by decide +kernel) rfl ?_
  refine am_r_putI (nx := 100) 51 cw11 (by decide) rfl (Or.inl fl_X11_375) (ob_91) rfl (Or.inl rfl) (show decode cX11_next 97 = .ok (.putfield 375, 3) by decide +kernel) rfl ?_
  exact k
theorem S_X11_next_100 {G : am_G} {d : Nat} {Q : Int → am_D → Prop} {σ : am_D}   (k : Q (σ.1 113 0) σ) : am_X (am_FI G (d + 1) Q) mX11_next (0, 0) 100 [some (am_r (some 91)), none] [] (am_K0, σ) := by
  refine am_r_aload_n (nx := 101) rfl rfl (show decode cX11_next 100 = .ok (.aload_n 0, 1) by decide +kernel) rfl ?_
  refine am_r_getF (nx := 104) 32 cw11 (by decide) rfl (Or.inl fl_X11_75) (ob_91) (fn_91_32) (show decode cX11_next 101 = .ok (.getfield 75, 3) by decide +kernel) rfl ?_
  refine am_r_iconst (nx := 105) (show decode cX11_next 104 = .ok (.iconst 0, 1) by decide +kernel) rfl ?_
  refine am_r_iald (nx := 106) (sh_113) (am_shle (sh_113)) (by omega) (by omega) (show decode cX11_next 105 = .ok (.iaload, 1) by decide +kernel) rfl ?_
  exact am_r_iret rfl rfl (show decode cX11_next 106 = .ok (.ireturn, 1) by decide +kernel) ⟨_, _, rfl, rfl, k⟩
theorem S_X11_state_0 {G : am_G} {d : Nat} {Q : Int → am_D → Prop} {σ : am_D}  (hr1 : -2147483648 ≤ (σ.1 91 49) ∧ (σ.1 91 49) ≤ 2147483647) (k1 : (σ.1 91 49) = 0 → am_X (am_FI G (d + 1) Q) mX11_state (0, 0) 16 [none] [] (am_K0, σ)) (k2 : ¬ ((σ.1 91 49) = 0) → am_X (am_FI G (d + 1) Q) mX11_state (0, 0) 7 [some (am_r (some 91))] [] (am_K0, σ)) : am_X (am_FI G (d + 1) Q) mX11_state (0, 0) 0 [some (am_r (some 91))] [] (am_K0, σ) := by
  refine am_r_aload_n (nx := 1) rfl rfl (show decode cX11_state 0 = .ok (.aload_n 0, 1) by decide +kernel) rfl ?_
  refine am_r_getI (nx := 4) 49 cw11 (by decide) rfl (Or.inl fl_X11_328) (ob_91) (show decode cX11_state 1 = .ok (.getfield 328, 3) by decide +kernel) rfl ?_
  refine am_r_if_eq (tg := 16) (nx := 7) (show decode cX11_state 4 = .ok (.ifCond .eq 12, 3) by decide +kernel) (by decide) rfl hr1 ?_ ?_
  · exact fun q => am_x_fg [0] (k1 q)
  · exact fun q => k2 q
theorem S_X11_state_7 {G : am_G} {d : Nat} {Q : Int → am_D → Prop} {σ : am_D}   (k : am_X (am_FI G (d + 1) Q) mX11_state (0, 0) 17 [none] [am_i (σ.1 113 0)] (am_K0, σ)) : am_X (am_FI G (d + 1) Q) mX11_state (0, 0) 7 [some (am_r (some 91))] [] (am_K0, σ) := by
  refine am_r_aload_n (nx := 8) rfl rfl (show decode cX11_state 7 = .ok (.aload_n 0, 1) by decide +kernel) rfl ?_
  refine am_r_getF (nx := 11) 32 cw11 (by decide) rfl (Or.inl fl_X11_75) (ob_91) (fn_91_32) (show decode cX11_state 8 = .ok (.getfield 75, 3) by decide +kernel) rfl ?_
  refine am_r_iconst (nx := 12) (show decode cX11_state 11 = .ok (.iconst 0, 1) by decide +kernel) rfl ?_
  refine am_r_iald (nx := 13) (sh_113) (am_shle (sh_113)) (by omega) (by omega) (show decode cX11_state 12 = .ok (.iaload, 1) by decide +kernel) rfl ?_
  refine am_r_goto (tg := 17) (show decode cX11_state 13 = .ok (.goto 4, 3) by decide +kernel) (by decide) ?_
  exact am_x_fg [0] k
theorem S_X11_state_16 {G : am_G} {d : Nat} {Q : Int → am_D → Prop} {σ : am_D}   (k : am_X (am_FI G (d + 1) Q) mX11_state (0, 0) 17 [none] [am_i (-1)] (am_K0, σ)) : am_X (am_FI G (d + 1) Q) mX11_state (0, 0) 16 [none] [] (am_K0, σ) := by
  refine am_r_iconst (nx := 17) (show decode cX11_state 16 = .ok (.iconst (-1), 1) by decide +kernel) rfl ?_
  exact k
theorem S_X11_state_17 {G : am_G} {d : Nat} {Q : Int → am_D → Prop} {σ : am_D} {s0 : Int}  (k : Q s0 σ) : am_X (am_FI G (d + 1) Q) mX11_state (0, 0) 17 [none] [am_i s0] (am_K0, σ) := by
  exact am_r_iret rfl rfl (show decode cX11_state 17 = .ok (.ireturn, 1) by decide +kernel) ⟨_, _, rfl, rfl, k⟩
theorem S_X11_held_0 {G : am_G} {d : Nat} {Q : Int → am_D → Prop} {σ : am_D} {v1 : Int} {v2 : Int} {v3 : Int} (hr1 : -2147483648 ≤ (σ.1 91 49) ∧ (σ.1 91 49) ≤ 2147483647) (k1 : (σ.1 91 49) = 0 → am_X (am_FI G (d + 1) Q) mX11_held (0, 0) 39 [none, none, none, none, none, none, none, none] [] (am_K0, σ)) (k2 : ¬ ((σ.1 91 49) = 0) → am_X (am_FI G (d + 1) Q) mX11_held (0, 0) 7 [some (am_r (some 91)), some (am_i v1), some (am_i v2), some (am_i v3), none, none, none, none] [] (am_K0, σ)) : am_X (am_FI G (d + 1) Q) mX11_held (0, 0) 0 [some (am_r (some 91)), some (am_i v1), some (am_i v2), some (am_i v3), none, none, none, none] [] (am_K0, σ) := by
  refine am_r_aload_n (nx := 1) rfl rfl (show decode cX11_held 0 = .ok (.aload_n 0, 1) by decide +kernel) rfl ?_
  refine am_r_getI (nx := 4) 49 cw11 (by decide) rfl (Or.inl fl_X11_328) (ob_91) (show decode cX11_held 1 = .ok (.getfield 328, 3) by decide +kernel) rfl ?_
  refine am_r_if_eq (tg := 39) (nx := 7) (show decode cX11_held 4 = .ok (.ifCond .eq 35, 3) by decide +kernel) (by decide) rfl hr1 ?_ ?_
  · exact fun q => am_x_fg [0, 1, 2, 3] (k1 q)
  · exact fun q => k2 q
theorem S_X11_held_7 {G : am_G} {d : Nat} {Q : Int → am_D → Prop} {σ : am_D} {v1 : Int} {v2 : Int} {v3 : Int} {Q' : Int → am_D → Prop} (hc : am_MI G d mX11_isIn [am_i v2, am_i 0, am_i ((σ.1 95 4) - 1)] σ Q') (k : ∀ (x : Int) (σ' : am_D), Q' x σ' → am_X (am_FI G (d + 1) Q) mX11_held (0, 0) 20 [some (am_r (some 91)), some (am_i v1), some (am_i v2), some (am_i v3), none, none, none, none] [am_i x] (am_K0, σ')) : am_X (am_FI G (d + 1) Q) mX11_held (0, 0) 7 [some (am_r (some 91)), some (am_i v1), some (am_i v2), some (am_i v3), none, none, none, none] [] (am_K0, σ) := by
  refine am_r_iload_n (nx := 8) rfl rfl (show decode cX11_held 7 = .ok (.iload_n 2, 1) by decide +kernel) rfl ?_
  refine am_r_iconst (nx := 9) (show decode cX11_held 8 = .ok (.iconst 0, 1) by decide +kernel) rfl ?_
  refine am_r_aload_n (nx := 10) rfl rfl (show decode cX11_held 9 = .ok (.aload_n 0, 1) by decide +kernel) rfl ?_
  refine am_r_getF (nx := 13) 9 cw11 (by decide) rfl (Or.inl fl_X11_21) (ob_91) (fn_91_9) (show decode cX11_held 10 = .ok (.getfield 21, 3) by decide +kernel) rfl ?_
  refine am_r_iconst (nx := 14) (show decode cX11_held 13 = .ok (.iconst 4, 1) by decide +kernel) rfl ?_
  refine am_r_iald (nx := 15) (sh_95) (am_shle (sh_95)) (by omega) (by omega) (show decode cX11_held 14 = .ok (.iaload, 1) by decide +kernel) rfl ?_
  refine am_r_iconst (nx := 16) (show decode cX11_held 15 = .ok (.iconst 1, 1) by decide +kernel) rfl ?_
  refine am_r_isub (nx := 17) (show decode cX11_held 16 = .ok (.isub, 1) by decide +kernel) rfl ?_
  refine am_r_callS (as := [am_i v2, am_i 0, am_i ((σ.1 95 4) - 1)]) (st := []) hc mb_X11_isIn mv_X11_isIn (Or.inl ml_X11_156) rfl rfl (Nat.le_of_ble_eq_true rfl) ⟨Nat.le_refl _, Nat.le_refl _⟩ ⟨Nat.le_refl _, Nat.le_refl _⟩ (show decode cX11_held 17 = .ok (.invokestatic 156, 3) by decide +kernel) ?_
  rintro _ _ ⟨x, σ', rfl, rfl, hq⟩ _
  exact (k x σ' hq)
theorem S_X11_held_20 {G : am_G} {d : Nat} {Q : Int → am_D → Prop} {σ : am_D} {v1 : Int} {v2 : Int} {v3 : Int} {s0 : Int} (hr1 : -2147483648 ≤ s0 ∧ s0 ≤ 2147483647) (k1 : s0 = 0 → am_X (am_FI G (d + 1) Q) mX11_held (0, 0) 39 [none, none, none, none, none, none, none, none] [] (am_K0, σ)) (k2 : ¬ (s0 = 0) → am_X (am_FI G (d + 1) Q) mX11_held (0, 0) 23 [some (am_r (some 91)), some (am_i v1), some (am_i v2), some (am_i v3), none, none, none, none] [] (am_K0, σ)) : am_X (am_FI G (d + 1) Q) mX11_held (0, 0) 20 [some (am_r (some 91)), some (am_i v1), some (am_i v2), some (am_i v3), none, none, none, none] [am_i s0] (am_K0, σ) := by
  refine am_r_if_eq (tg := 39) (nx := 23) (show decode cX11_held 20 = .ok (.ifCond .eq 19, 3) by decide +kernel) (by decide) rfl hr1 ?_ ?_
  · exact fun q => am_x_fg [0, 1, 2, 3] (k1 q)
  · exact fun q => k2 q
theorem S_X11_held_23 {G : am_G} {d : Nat} {Q : Int → am_D → Prop} {σ : am_D} {v1 : Int} {v2 : Int} {v3 : Int} {Q' : Int → am_D → Prop} (hc : am_MI G d mX11_isIn [am_i v1, am_i (-1), am_i ((σ.1 114 0) - 1)] σ Q') (k : ∀ (x : Int) (σ' : am_D), Q' x σ' → am_X (am_FI G (d + 1) Q) mX11_held (0, 0) 36 [some (am_r (some 91)), some (am_i v1), some (am_i v2), some (am_i v3), none, none, none, none] [am_i x] (am_K0, σ')) : am_X (am_FI G (d + 1) Q) mX11_held (0, 0) 23 [some (am_r (some 91)), some (am_i v1), some (am_i v2), some (am_i v3), none, none, none, none] [] (am_K0, σ) := by
  refine am_r_iload_n (nx := 24) rfl rfl (show decode cX11_held 23 = .ok (.iload_n 1, 1) by decide +kernel) rfl ?_
  refine am_r_iconst (nx := 25) (show decode cX11_held 24 = .ok (.iconst (-1), 1) by decide +kernel) rfl ?_
  refine am_r_aload_n (nx := 26) rfl rfl (show decode cX11_held 25 = .ok (.aload_n 0, 1) by decide +kernel) rfl ?_
  refine am_r_getF (nx := 29) 33 cw11 (by decide) rfl (Or.inl fl_X11_78) (ob_91) (fn_91_33) (show decode cX11_held 26 = .ok (.getfield 78, 3) by decide +kernel) rfl ?_
  refine am_r_iconst (nx := 30) (show decode cX11_held 29 = .ok (.iconst 0, 1) by decide +kernel) rfl ?_
  refine am_r_iald (nx := 31) (sh_114) (am_shle (sh_114)) (by omega) (by omega) (show decode cX11_held 30 = .ok (.iaload, 1) by decide +kernel) rfl ?_
  refine am_r_iconst (nx := 32) (show decode cX11_held 31 = .ok (.iconst 1, 1) by decide +kernel) rfl ?_
  refine am_r_isub (nx := 33) (show decode cX11_held 32 = .ok (.isub, 1) by decide +kernel) rfl ?_
  refine am_r_callS (as := [am_i v1, am_i (-1), am_i ((σ.1 114 0) - 1)]) (st := []) hc mb_X11_isIn mv_X11_isIn (Or.inl ml_X11_156) rfl rfl (Nat.le_of_ble_eq_true rfl) ⟨Nat.le_refl _, Nat.le_refl _⟩ ⟨Nat.le_refl _, Nat.le_refl _⟩ (show decode cX11_held 33 = .ok (.invokestatic 156, 3) by decide +kernel) ?_
  rintro _ _ ⟨x, σ', rfl, rfl, hq⟩ _
  exact (k x σ' hq)
theorem S_X11_held_36 {G : am_G} {d : Nat} {Q : Int → am_D → Prop} {σ : am_D} {v1 : Int} {v2 : Int} {v3 : Int} {s0 : Int} (hr1 : -2147483648 ≤ s0 ∧ s0 ≤ 2147483647) (k1 : ¬ s0 = 0 → am_X (am_FI G (d + 1) Q) mX11_held (0, 0) 41 [some (am_r (some 91)), some (am_i v1), some (am_i v2), some (am_i v3), none, none, none, none] [] (am_K0, σ)) (k2 : ¬ (¬ s0 = 0) → am_X (am_FI G (d + 1) Q) mX11_held (0, 0) 39 [none, none, none, none, none, none, none, none] [] (am_K0, σ)) : am_X (am_FI G (d + 1) Q) mX11_held (0, 0) 36 [some (am_r (some 91)), some (am_i v1), some (am_i v2), some (am_i v3), none, none, none, none] [am_i s0] (am_K0, σ) := by
  refine am_r_if_ne (tg := 41) (nx := 39) (show decode cX11_held 36 = .ok (.ifCond .ne 5, 3) by decide +kernel) (by decide) rfl hr1 ?_ ?_
  · exact fun q => k1 q
  · exact fun q => am_x_fg [0, 1, 2, 3] (k2 q)
theorem S_X11_held_39 {G : am_G} {d : Nat} {Q : Int → am_D → Prop} {σ : am_D}   (k : Q (-1) σ) : am_X (am_FI G (d + 1) Q) mX11_held (0, 0) 39 [none, none, none, none, none, none, none, none] [] (am_K0, σ) := by
  refine am_r_iconst (nx := 40) (show decode cX11_held 39 = .ok (.iconst (-1), 1) by decide +kernel) rfl ?_
  exact am_r_iret rfl rfl (show decode cX11_held 40 = .ok (.ireturn, 1) by decide +kernel) ⟨_, _, rfl, rfl, k⟩
theorem S_X11_held_41 {G : am_G} {d : Nat} {Q : Int → am_D → Prop} {σ : am_D} {v1 : Int} {v2 : Int} {v3 : Int}  (k : am_X (am_FI G (d + 1) Q) mX11_held (0, 0) 57 [some (am_r (some 91)), some (am_i v1), some (am_i v2), some (am_i v3), some (am_i ((3 * (((σ.1 114 0) - 1) - v1)) + v2)), none, none, none] [] (am_K0, σ)) : am_X (am_FI G (d + 1) Q) mX11_held (0, 0) 41 [some (am_r (some 91)), some (am_i v1), some (am_i v2), some (am_i v3), none, none, none, none] [] (am_K0, σ) := by
  refine am_r_iconst (nx := 42) (show decode cX11_held 41 = .ok (.iconst 3, 1) by decide +kernel) rfl ?_
  refine am_r_aload_n (nx := 43) rfl rfl (show decode cX11_held 42 = .ok (.aload_n 0, 1) by decide +kernel) rfl ?_
  refine am_r_getF (nx := 46) 33 cw11 (by decide) rfl (Or.inl fl_X11_78) (ob_91) (fn_91_33) (show decode cX11_held 43 = .ok (.getfield 78, 3) by decide +kernel) rfl ?_
  refine am_r_iconst (nx := 47) (show decode cX11_held 46 = .ok (.iconst 0, 1) by decide +kernel) rfl ?_
  refine am_r_iald (nx := 48) (sh_114) (am_shle (sh_114)) (by omega) (by omega) (show decode cX11_held 47 = .ok (.iaload, 1) by decide +kernel) rfl ?_
  refine am_r_iconst (nx := 49) (show decode cX11_held 48 = .ok (.iconst 1, 1) by decide +kernel) rfl ?_
  refine am_r_isub (nx := 50) (show decode cX11_held 49 = .ok (.isub, 1) by decide +kernel) rfl ?_
  refine am_r_iload_n (nx := 51) rfl rfl (show decode cX11_held 50 = .ok (.iload_n 1, 1) by decide +kernel) rfl ?_
  refine am_r_isub (nx := 52) (show decode cX11_held 51 = .ok (.isub, 1) by decide +kernel) rfl ?_
  refine am_r_imul (nx := 53) (show decode cX11_held 52 = .ok (.imul, 1) by decide +kernel) rfl ?_
  refine am_r_iload_n (nx := 54) rfl rfl (show decode cX11_held 53 = .ok (.iload_n 2, 1) by decide +kernel) rfl ?_
  refine am_r_iadd (nx := 55) (show decode cX11_held 54 = .ok (.iadd, 1) by decide +kernel) rfl ?_
  refine am_r_istore (nx := 57) (by decide) rfl (show decode cX11_held 55 = .ok (.istore 4, 2) by decide +kernel) rfl ?_
  exact k
theorem S_X11_held_57 {G : am_G} {d : Nat} {Q : Int → am_D → Prop} {σ : am_D} {v1 : Int} {v2 : Int} {v3 : Int} {v4 : Int} (hr1 : -2147483648 ≤ v1 ∧ v1 ≤ 2147483647) (k1 : ¬ v1 = (-1) → am_X (am_FI G (d + 1) Q) mX11_held (0, 0) 71 [some (am_r (some 91)), some (am_i v1), some (am_i v2), some (am_i v3), some (am_i v4), none, none, none] [] (am_K0, σ)) (k2 : ¬ (¬ v1 = (-1)) → am_X (am_FI G (d + 1) Q) mX11_held (0, 0) 62 [some (am_r (some 91)), some (am_i v1), some (am_i v2), some (am_i v3), some (am_i v4), none, none, none] [] (am_K0, σ)) : am_X (am_FI G (d + 1) Q) mX11_held (0, 0) 57 [some (am_r (some 91)), some (am_i v1), some (am_i v2), some (am_i v3), some (am_i v4), none, none, none] [] (am_K0, σ) := by
  refine am_r_iload_n (nx := 58) rfl rfl (show decode cX11_held 57 = .ok (.iload_n 1, 1) by decide +kernel) rfl ?_
  refine am_r_iconst (nx := 59) (show decode cX11_held 58 = .ok (.iconst (-1), 1) by decide +kernel) rfl ?_
  refine am_r_icmp_ne (tg := 71) (nx := 62) (show decode cX11_held 59 = .ok (.if_icmp .ne 12, 3) by decide +kernel) (by decide) rfl hr1 (by omega) ?_ ?_
  · exact fun q => k1 q
  · exact fun q => k2 q
theorem S_X11_held_62 {G : am_G} {d : Nat} {Q : Int → am_D → Prop} {σ : am_D} {v1 : Int} {v2 : Int} {v3 : Int} {v4 : Int} (hi1 : 0 ≤ v2) (hj2 : v2 < 9) (k : am_X (am_FI G (d + 1) Q) mX11_held (0, 0) 78 [some (am_r (some 91)), some (am_i v1), some (am_i v2), some (am_i v3), some (am_i v4), none, none, none] [am_i (σ.1 118 v2)] (am_K0, σ)) : am_X (am_FI G (d + 1) Q) mX11_held (0, 0) 62 [some (am_r (some 91)), some (am_i v1), some (am_i v2), some (am_i v3), some (am_i v4), none, none, none] [] (am_K0, σ) := by
  refine am_r_aload_n (nx := 63) rfl rfl (show decode cX11_held 62 = .ok (.aload_n 0, 1) by decide +kernel) rfl ?_
  refine am_r_getF (nx := 66) 37 cw11 (by decide) rfl (Or.inl fl_X11_90) (ob_91) (fn_91_37) (show decode cX11_held 63 = .ok (.getfield 90, 3) by decide +kernel) rfl ?_
  refine am_r_iload_n (nx := 67) rfl rfl (show decode cX11_held 66 = .ok (.iload_n 2, 1) by decide +kernel) rfl ?_
  refine am_r_iald (nx := 68) (sh_118) (am_shle (sh_118)) hi1 hj2 (show decode cX11_held 67 = .ok (.iaload, 1) by decide +kernel) rfl ?_
  refine am_r_goto (tg := 78) (show decode cX11_held 68 = .ok (.goto 10, 3) by decide +kernel) (by decide) ?_
  exact k
theorem S_X11_held_71 {G : am_G} {d : Nat} {Q : Int → am_D → Prop} {σ : am_D} {v1 : Int} {v2 : Int} {v3 : Int} {v4 : Int} (hi1 : 0 ≤ v4) (hj2 : v4 < 2340) (k : am_X (am_FI G (d + 1) Q) mX11_held (0, 0) 78 [some (am_r (some 91)), some (am_i v1), some (am_i v2), some (am_i v3), some (am_i v4), none, none, none] [am_i (σ.1 123 v4)] (am_K0, σ)) : am_X (am_FI G (d + 1) Q) mX11_held (0, 0) 71 [some (am_r (some 91)), some (am_i v1), some (am_i v2), some (am_i v3), some (am_i v4), none, none, none] [] (am_K0, σ) := by
  refine am_r_aload_n (nx := 72) rfl rfl (show decode cX11_held 71 = .ok (.aload_n 0, 1) by decide +kernel) rfl ?_
  refine am_r_getF (nx := 75) 42 cw11 (by decide) rfl (Or.inl fl_X11_105) (ob_91) (fn_91_42) (show decode cX11_held 72 = .ok (.getfield 105, 3) by decide +kernel) rfl ?_
  refine am_r_iload (nx := 77) rfl (show decode cX11_held 75 = .ok (.iload 4, 2) by decide +kernel) rfl ?_
  refine am_r_iald (nx := 78) (sh_123) (am_shle (sh_123)) hi1 hj2 (show decode cX11_held 77 = .ok (.iaload, 1) by decide +kernel) rfl ?_
  exact k
theorem S_X11_held_78 {G : am_G} {d : Nat} {Q : Int → am_D → Prop} {σ : am_D} {v1 : Int} {v2 : Int} {v3 : Int} {v4 : Int} {s0 : Int}  (k : am_X (am_FI G (d + 1) Q) mX11_held (0, 0) 80 [some (am_r (some 91)), some (am_i v1), some (am_i v2), some (am_i v3), some (am_i v4), some (am_i s0), none, none] [] (am_K0, σ)) : am_X (am_FI G (d + 1) Q) mX11_held (0, 0) 78 [some (am_r (some 91)), some (am_i v1), some (am_i v2), some (am_i v3), some (am_i v4), none, none, none] [am_i s0] (am_K0, σ) := by
  refine am_r_istore (nx := 80) (by decide) rfl (show decode cX11_held 78 = .ok (.istore 5, 2) by decide +kernel) rfl ?_
  exact k
theorem S_X11_held_80 {G : am_G} {d : Nat} {Q : Int → am_D → Prop} {σ : am_D} {v1 : Int} {v2 : Int} {v3 : Int} {v4 : Int} {v5 : Int} (hr1 : -2147483648 ≤ v3 ∧ v3 ≤ 2147483647) (k1 : ¬ v3 = (-1) → am_X (am_FI G (d + 1) Q) mX11_held (0, 0) 88 [some (am_r (some 91)), some (am_i v1), some (am_i v2), some (am_i v3), some (am_i v4), some (am_i v5), none, none] [] (am_K0, σ)) (k2 : ¬ (¬ v3 = (-1)) → am_X (am_FI G (d + 1) Q) mX11_held (0, 0) 85 [none, none, none, none, none, some (am_i v5), none, none] [] (am_K0, σ)) : am_X (am_FI G (d + 1) Q) mX11_held (0, 0) 80 [some (am_r (some 91)), some (am_i v1), some (am_i v2), some (am_i v3), some (am_i v4), some (am_i v5), none, none] [] (am_K0, σ) := by
  refine am_r_iload_n (nx := 81) rfl rfl (show decode cX11_held 80 = .ok (.iload_n 3, 1) by decide +kernel) rfl ?_
  refine am_r_iconst (nx := 82) (show decode cX11_held 81 = .ok (.iconst (-1), 1) by decide +kernel) rfl ?_
  refine am_r_icmp_ne (tg := 88) (nx := 85) (show decode cX11_held 82 = .ok (.if_icmp .ne 6, 3) by decide +kernel) (by decide) rfl hr1 (by omega) ?_ ?_
  · exact fun q => k1 q
  · exact fun q => am_x_fg [0, 1, 2, 3, 4] (k2 q)
theorem S_X11_held_85 {G : am_G} {d : Nat} {Q : Int → am_D → Prop} {σ : am_D} {v5 : Int}  (k : Q v5 σ) : am_X (am_FI G (d + 1) Q) mX11_held (0, 0) 85 [none, none, none, none, none, some (am_i v5), none, none] [] (am_K0, σ) := by
  refine am_r_iload (nx := 87) rfl (show decode cX11_held 85 = .ok (.iload 5, 2) by decide +kernel) rfl ?_
  exact am_r_iret rfl rfl (show decode cX11_held 87 = .ok (.ireturn, 1) by decide +kernel) ⟨_, _, rfl, rfl, k⟩
theorem S_X11_held_88 {G : am_G} {d : Nat} {Q : Int → am_D → Prop} {σ : am_D} {v1 : Int} {v2 : Int} {v3 : Int} {v4 : Int} {v5 : Int} {Q' : Int → am_D → Prop} (hc : am_MI G d mX11_isIn [am_i v3, am_i 0, am_i (v5 - 1)] σ Q') (k : ∀ (x : Int) (σ' : am_D), Q' x σ' → am_X (am_FI G (d + 1) Q) mX11_held (0, 0) 97 [some (am_r (some 91)), some (am_i v1), some (am_i v2), some (am_i v3), some (am_i v4), none, none, none] [am_i x] (am_K0, σ')) : am_X (am_FI G (d + 1) Q) mX11_held (0, 0) 88 [some (am_r (some 91)), some (am_i v1), some (am_i v2), some (am_i v3), some (am_i v4), some (am_i v5), none, none] [] (am_K0, σ) := by
  refine am_r_iload_n (nx := 89) rfl rfl (show decode cX11_held 88 = .ok (.iload_n 3, 1) by decide +kernel) rfl ?_
  refine am_r_iconst (nx := 90) (show decode cX11_held 89 = .ok (.iconst 0, 1) by decide +kernel) rfl ?_
  refine am_r_iload (nx := 92) rfl (show decode cX11_held 90 = .ok (.iload 5, 2) by decide +kernel) rfl ?_
  refine am_r_iconst (nx := 93) (show decode cX11_held 92 = .ok (.iconst 1, 1) by decide +kernel) rfl ?_
  refine am_r_isub (nx := 94) (show decode cX11_held 93 = .ok (.isub, 1) by decide +kernel) rfl ?_
  refine am_r_callS (as := [am_i v3, am_i 0, am_i (v5 - 1)]) (st := []) hc mb_X11_isIn mv_X11_isIn (Or.inl ml_X11_156) rfl rfl (Nat.le_of_ble_eq_true rfl) ⟨Nat.le_refl _, Nat.le_refl _⟩ ⟨Nat.le_refl _, Nat.le_refl _⟩ (show decode cX11_held 94 = .ok (.invokestatic 156, 3) by decide +kernel) ?_
  rintro _ _ ⟨x, σ', rfl, rfl, hq⟩ _
  exact am_x_fg [5] (k x σ' hq)
theorem S_X11_held_97 {G : am_G} {d : Nat} {Q : Int → am_D → Prop} {σ : am_D} {v1 : Int} {v2 : Int} {v3 : Int} {v4 : Int} {s0 : Int} (hr1 : -2147483648 ≤ s0 ∧ s0 ≤ 2147483647) (k1 : ¬ s0 = 0 → am_X (am_FI G (d + 1) Q) mX11_held (0, 0) 102 [some (am_r (some 91)), some (am_i v1), some (am_i v2), some (am_i v3), some (am_i v4), none, none, none] [] (am_K0, σ)) (k2 : ¬ (¬ s0 = 0) → am_X (am_FI G (d + 1) Q) mX11_held (0, 0) 100 [none, none, none, none, none, none, none, none] [] (am_K0, σ)) : am_X (am_FI G (d + 1) Q) mX11_held (0, 0) 97 [some (am_r (some 91)), some (am_i v1), some (am_i v2), some (am_i v3), some (am_i v4), none, none, none] [am_i s0] (am_K0, σ) := by
  refine am_r_if_ne (tg := 102) (nx := 100) (show decode cX11_held 97 = .ok (.ifCond .ne 5, 3) by decide +kernel) (by decide) rfl hr1 ?_ ?_
  · exact fun q => k1 q
  · exact fun q => am_x_fg [0, 1, 2, 3, 4] (k2 q)
theorem S_X11_held_100 {G : am_G} {d : Nat} {Q : Int → am_D → Prop} {σ : am_D}   (k : Q (-1) σ) : am_X (am_FI G (d + 1) Q) mX11_held (0, 0) 100 [none, none, none, none, none, none, none, none] [] (am_K0, σ) := by
  refine am_r_iconst (nx := 101) (show decode cX11_held 100 = .ok (.iconst (-1), 1) by decide +kernel) rfl ?_
  exact am_r_iret rfl rfl (show decode cX11_held 101 = .ok (.ireturn, 1) by decide +kernel) ⟨_, _, rfl, rfl, k⟩
theorem S_X11_held_102 {G : am_G} {d : Nat} {Q : Int → am_D → Prop} {σ : am_D} {v1 : Int} {v2 : Int} {v3 : Int} {v4 : Int} (hr1 : -2147483648 ≤ v1 ∧ v1 ≤ 2147483647) (k1 : ¬ v1 = (-1) → am_X (am_FI G (d + 1) Q) mX11_held (0, 0) 116 [some (am_r (some 91)), none, none, some (am_i v3), some (am_i v4), none, none, none] [] (am_K0, σ)) (k2 : ¬ (¬ v1 = (-1)) → am_X (am_FI G (d + 1) Q) mX11_held (0, 0) 107 [some (am_r (some 91)), none, some (am_i v2), some (am_i v3), none, none, none, none] [] (am_K0, σ)) : am_X (am_FI G (d + 1) Q) mX11_held (0, 0) 102 [some (am_r (some 91)), some (am_i v1), some (am_i v2), some (am_i v3), some (am_i v4), none, none, none] [] (am_K0, σ) := by
  refine am_r_iload_n (nx := 103) rfl rfl (show decode cX11_held 102 = .ok (.iload_n 1, 1) by decide +kernel) rfl ?_
  refine am_r_iconst (nx := 104) (show decode cX11_held 103 = .ok (.iconst (-1), 1) by decide +kernel) rfl ?_
  refine am_r_icmp_ne (tg := 116) (nx := 107) (show decode cX11_held 104 = .ok (.if_icmp .ne 12, 3) by decide +kernel) (by decide) rfl hr1 (by omega) ?_ ?_
  · exact fun q => am_x_fg [1, 2] (k1 q)
  · exact fun q => am_x_fg [1, 4] (k2 q)
theorem S_X11_held_107 {G : am_G} {d : Nat} {Q : Int → am_D → Prop} {σ : am_D} {v2 : Int} {v3 : Int} (hi1 : 0 ≤ v2) (hj2 : v2 < 9) (k : am_X (am_FI G (d + 1) Q) mX11_held (0, 0) 123 [some (am_r (some 91)), none, none, some (am_i v3), none, none, none, none] [am_i (σ.1 116 v2)] (am_K0, σ)) : am_X (am_FI G (d + 1) Q) mX11_held (0, 0) 107 [some (am_r (some 91)), none, some (am_i v2), some (am_i v3), none, none, none, none] [] (am_K0, σ) := by
  refine am_r_aload_n (nx := 108) rfl rfl (show decode cX11_held 107 = .ok (.aload_n 0, 1) by decide +kernel) rfl ?_
  refine am_r_getF (nx := 111) 35 cw11 (by decide) rfl (Or.inl fl_X11_84) (ob_91) (fn_91_35) (show decode cX11_held 108 = .ok (.getfield 84, 3) by decide +kernel) rfl ?_
  refine am_r_iload_n (nx := 112) rfl rfl (show decode cX11_held 111 = .ok (.iload_n 2, 1) by decide +kernel) rfl ?_
  refine am_r_iald (nx := 113) (sh_116) (am_shle (sh_116)) hi1 hj2 (show decode cX11_held 112 = .ok (.iaload, 1) by decide +kernel) rfl ?_
  refine am_r_goto (tg := 123) (show decode cX11_held 113 = .ok (.goto 10, 3) by decide +kernel) (by decide) ?_
  exact am_x_fg [2] k
theorem S_X11_held_116 {G : am_G} {d : Nat} {Q : Int → am_D → Prop} {σ : am_D} {v3 : Int} {v4 : Int} (hi1 : 0 ≤ v4) (hj2 : v4 < 2340) (k : am_X (am_FI G (d + 1) Q) mX11_held (0, 0) 123 [some (am_r (some 91)), none, none, some (am_i v3), none, none, none, none] [am_i (σ.1 121 v4)] (am_K0, σ)) : am_X (am_FI G (d + 1) Q) mX11_held (0, 0) 116 [some (am_r (some 91)), none, none, some (am_i v3), some (am_i v4), none, none, none] [] (am_K0, σ) := by
  refine am_r_aload_n (nx := 117) rfl rfl (show decode cX11_held 116 = .ok (.aload_n 0, 1) by decide +kernel) rfl ?_
  refine am_r_getF (nx := 120) 40 cw11 (by decide) rfl (Or.inl fl_X11_99) (ob_91) (fn_91_40) (show decode cX11_held 117 = .ok (.getfield 99, 3) by decide +kernel) rfl ?_
  refine am_r_iload (nx := 122) rfl (show decode cX11_held 120 = .ok (.iload 4, 2) by decide +kernel) rfl ?_
  refine am_r_iald (nx := 123) (sh_121) (am_shle (sh_121)) hi1 hj2 (show decode cX11_held 122 = .ok (.iaload, 1) by decide +kernel) rfl ?_
  exact am_x_fg [4] k
theorem S_X11_held_123 {G : am_G} {d : Nat} {Q : Int → am_D → Prop} {σ : am_D} {v3 : Int} {s0 : Int}  (k : am_X (am_FI G (d + 1) Q) mX11_held (0, 0) 125 [some (am_r (some 91)), none, none, some (am_i v3), none, none, some (am_i s0), none] [] (am_K0, σ)) : am_X (am_FI G (d + 1) Q) mX11_held (0, 0) 123 [some (am_r (some 91)), none, none, some (am_i v3), none, none, none, none] [am_i s0] (am_K0, σ) := by
  refine am_r_istore (nx := 125) (by decide) rfl (show decode cX11_held 123 = .ok (.istore 6, 2) by decide +kernel) rfl ?_
  exact k
theorem S_X11_held_125 {G : am_G} {d : Nat} {Q : Int → am_D → Prop} {σ : am_D} {v3 : Int} {v6 : Int}  (k : am_X (am_FI G (d + 1) Q) mX11_held (0, 0) 128 [some (am_r (some 91)), none, none, some (am_i v3), none, none, some (am_i v6), some (am_i 0)] [] (am_K0, σ)) : am_X (am_FI G (d + 1) Q) mX11_held (0, 0) 125 [some (am_r (some 91)), none, none, some (am_i v3), none, none, some (am_i v6), none] [] (am_K0, σ) := by
  refine am_r_iconst (nx := 126) (show decode cX11_held 125 = .ok (.iconst 0, 1) by decide +kernel) rfl ?_
  refine am_r_istore (nx := 128) (by decide) rfl (show decode cX11_held 126 = .ok (.istore 7, 2) by decide +kernel) rfl ?_
  exact k
theorem S_X11_held_128 {G : am_G} {d : Nat} {Q : Int → am_D → Prop} {σ : am_D} {v3 : Int} {v6 : Int} {v7 : Int} (hr1 : -2147483648 ≤ v7 ∧ v7 ≤ 2147483647) (hr2 : -2147483648 ≤ v3 ∧ v3 ≤ 2147483647) (k1 : v3 ≤ v7 → am_X (am_FI G (d + 1) Q) mX11_held (0, 0) 149 [some (am_r (some 91)), none, none, none, none, none, some (am_i v6), none] [] (am_K0, σ)) (k2 : ¬ (v3 ≤ v7) → am_X (am_FI G (d + 1) Q) mX11_held (0, 0) 134 [some (am_r (some 91)), none, none, some (am_i v3), none, none, some (am_i v6), some (am_i v7)] [] (am_K0, σ)) : am_X (am_FI G (d + 1) Q) mX11_held (0, 0) 128 [some (am_r (some 91)), none, none, some (am_i v3), none, none, some (am_i v6), some (am_i v7)] [] (am_K0, σ) := by
  refine am_r_iload (nx := 130) rfl (show decode cX11_held 128 = .ok (.iload 7, 2) by decide +kernel) rfl ?_
  refine am_r_iload_n (nx := 131) rfl rfl (show decode cX11_held 130 = .ok (.iload_n 3, 1) by decide +kernel) rfl ?_
  refine am_r_icmp_ge (tg := 149) (nx := 134) (show decode cX11_held 131 = .ok (.if_icmp .ge 18, 3) by decide +kernel) (by decide) rfl hr1 hr2 ?_ ?_
  · exact fun q => am_x_fg [3, 7] (k1 q)
  · exact fun q => k2 q
theorem S_X11_held_134 {G : am_G} {d : Nat} {Q : Int → am_D → Prop} {σ : am_D} {v3 : Int} {v6 : Int} {v7 : Int} (hi1 : 0 ≤ v6) (hj2 : v6 < 15000) (k : am_X (am_FI G (d + 1) Q) mX11_held (0, 0) 143 [some (am_r (some 91)), none, none, some (am_i v3), none, none, some (am_i (σ.1 111 v6)), some (am_i v7)] [] (am_K0, σ)) : am_X (am_FI G (d + 1) Q) mX11_held (0, 0) 134 [some (am_r (some 91)), none, none, some (am_i v3), none, none, some (am_i v6), some (am_i v7)] [] (am_K0, σ) := by
  refine am_r_aload_n (nx := 135) rfl rfl (show decode cX11_held 134 = .ok (.aload_n 0, 1) by decide +kernel) rfl ?_
  refine am_r_getF (nx := 138) 30 cw11 (by decide) rfl (Or.inl fl_X11_69) (ob_91) (fn_91_30) (show decode cX11_held 135 = .ok (.getfield 69, 3) by decide +kernel) rfl ?_
  refine am_r_iload (nx := 140) rfl (show decode cX11_held 138 = .ok (.iload 6, 2) by decide +kernel) rfl ?_
  refine am_r_iald (nx := 141) (sh_111) (am_shle (sh_111)) hi1 hj2 (show decode cX11_held 140 = .ok (.iaload, 1) by decide +kernel) rfl ?_
  refine am_r_istore (nx := 143) (by decide) rfl (show decode cX11_held 141 = .ok (.istore 6, 2) by decide +kernel) rfl ?_
  exact k
theorem S_X11_held_143 {G : am_G} {d : Nat} {Q : Int → am_D → Prop} {σ : am_D} {v3 : Int} {v6 : Int} {v7 : Int}  (k : am_X (am_FI G (d + 1) Q) mX11_held (0, 0) 128 [some (am_r (some 91)), none, none, some (am_i v3), none, none, some (am_i v6), some (am_i (v7 + 1))] [] (am_K0, σ)) : am_X (am_FI G (d + 1) Q) mX11_held (0, 0) 143 [some (am_r (some 91)), none, none, some (am_i v3), none, none, some (am_i v6), some (am_i v7)] [] (am_K0, σ) := by
  refine am_r_iinc (nx := 146) rfl rfl (show decode cX11_held 143 = .ok (.iinc 7 1, 3) by decide +kernel) rfl ?_
  refine am_r_goto (tg := 128) (show decode cX11_held 146 = .ok (.goto (-18), 3) by decide +kernel) (by decide) ?_
  exact k
theorem S_X11_held_149 {G : am_G} {d : Nat} {Q : Int → am_D → Prop} {σ : am_D} {v6 : Int} (hi1 : 0 ≤ v6) (hj2 : v6 < 15000) (k : Q (σ.1 110 v6) σ) : am_X (am_FI G (d + 1) Q) mX11_held (0, 0) 149 [some (am_r (some 91)), none, none, none, none, none, some (am_i v6), none] [] (am_K0, σ) := by
  refine am_r_aload_n (nx := 150) rfl rfl (show decode cX11_held 149 = .ok (.aload_n 0, 1) by decide +kernel) rfl ?_
  refine am_r_getF (nx := 153) 29 cw11 (by decide) rfl (Or.inl fl_X11_66) (ob_91) (fn_91_29) (show decode cX11_held 150 = .ok (.getfield 66, 3) by decide +kernel) rfl ?_
  refine am_r_iload (nx := 155) rfl (show decode cX11_held 153 = .ok (.iload 6, 2) by decide +kernel) rfl ?_
  refine am_r_iald (nx := 156) (sh_110) (am_shle (sh_110)) hi1 hj2 (show decode cX11_held 155 = .ok (.iaload, 1) by decide +kernel) rfl ?_
  exact am_r_iret rfl rfl (show decode cX11_held 156 = .ok (.ireturn, 1) by decide +kernel) ⟨_, _, rfl, rfl, k⟩
theorem S_X11_finish_0 {G : am_G} {d : Nat} {Q : Int → am_D → Prop} {σ : am_D}  (hr1 : -2147483648 ≤ (σ.1 91 49) ∧ (σ.1 91 49) ≤ 2147483647) (k1 : (σ.1 91 49) = 0 → am_X (am_FI G (d + 1) Q) mX11_finish (0, 0) 25 [none] [] (am_K0, σ)) (k2 : ¬ ((σ.1 91 49) = 0) → am_X (am_FI G (d + 1) Q) mX11_finish (0, 0) 7 [some (am_r (some 91))] [] (am_K0, σ)) : am_X (am_FI G (d + 1) Q) mX11_finish (0, 0) 0 [some (am_r (some 91))] [] (am_K0, σ) := by
  refine am_r_aload_n (nx := 1) rfl rfl (show decode cX11_finish 0 = .ok (.aload_n 0, 1) by decide +kernel) rfl ?_
  refine am_r_getI (nx := 4) 49 cw11 (by decide) rfl (Or.inl fl_X11_328) (ob_91) (show decode cX11_finish 1 = .ok (.getfield 328, 3) by decide +kernel) rfl ?_
  refine am_r_if_eq (tg := 25) (nx := 7) (show decode cX11_finish 4 = .ok (.ifCond .eq 21, 3) by decide +kernel) (by decide) rfl hr1 ?_ ?_
  · exact fun q => am_x_fg [0] (k1 q)
  · exact fun q => k2 q
theorem S_X11_finish_7 {G : am_G} {d : Nat} {Q : Int → am_D → Prop} {σ : am_D}  (hr1 : -2147483648 ≤ (σ.1 114 0) ∧ (σ.1 114 0) ≤ 2147483647) (k1 : 0 < (σ.1 114 0) → am_X (am_FI G (d + 1) Q) mX11_finish (0, 0) 25 [none] [] (am_K0, σ)) (k2 : ¬ (0 < (σ.1 114 0)) → am_X (am_FI G (d + 1) Q) mX11_finish (0, 0) 16 [some (am_r (some 91))] [] (am_K0, σ)) : am_X (am_FI G (d + 1) Q) mX11_finish (0, 0) 7 [some (am_r (some 91))] [] (am_K0, σ) := by
  refine am_r_aload_n (nx := 8) rfl rfl (show decode cX11_finish 7 = .ok (.aload_n 0, 1) by decide +kernel) rfl ?_
  refine am_r_getF (nx := 11) 33 cw11 (by decide) rfl (Or.inl fl_X11_78) (ob_91) (fn_91_33) (show decode cX11_finish 8 = .ok (.getfield 78, 3) by decide +kernel) rfl ?_
  refine am_r_iconst (nx := 12) (show decode cX11_finish 11 = .ok (.iconst 0, 1) by decide +kernel) rfl ?_
  refine am_r_iald (nx := 13) (sh_114) (am_shle (sh_114)) (by omega) (by omega) (show decode cX11_finish 12 = .ok (.iaload, 1) by decide +kernel) rfl ?_
  refine am_r_if_gt (tg := 25) (nx := 16) (show decode cX11_finish 13 = .ok (.ifCond .gt 12, 3) by decide +kernel) (by decide) rfl hr1 ?_ ?_
  · exact fun q => am_x_fg [0] (k1 q)
  · exact fun q => k2 q
theorem S_X11_finish_16 {G : am_G} {d : Nat} {Q : Int → am_D → Prop} {σ : am_D} {Q' : Int → am_D → Prop} (hc : am_MI G d mX11_canEnd [am_r (some 91), am_i 0, am_i 4] σ Q') (k : ∀ (x : Int) (σ' : am_D), Q' x σ' → am_X (am_FI G (d + 1) Q) mX11_finish (0, 0) 22 [some (am_r (some 91))] [am_i x] (am_K0, σ')) : am_X (am_FI G (d + 1) Q) mX11_finish (0, 0) 16 [some (am_r (some 91))] [] (am_K0, σ) := by
  refine am_r_aload_n (nx := 17) rfl rfl (show decode cX11_finish 16 = .ok (.aload_n 0, 1) by decide +kernel) rfl ?_
  refine am_r_iconst (nx := 18) (show decode cX11_finish 17 = .ok (.iconst 0, 1) by decide +kernel) rfl ?_
  refine am_r_iconst (nx := 19) (show decode cX11_finish 18 = .ok (.iconst 4, 1) by decide +kernel) rfl ?_
  refine am_r_callV (as := [am_i 0, am_i 4]) (st := []) hc mb_X11_canEnd mv_X11_canEnd (Or.inl ml_X11_372) (ob_91) (by omega) (r := (RX11, TX11, 63)) rfl rfl rfl rfl (Nat.le_of_ble_eq_true rfl) ⟨Nat.le_refl _, Nat.le_refl _⟩ ⟨Nat.le_refl _, Nat.le_refl _⟩ (show decode cX11_finish 19 = .ok (.invokevirtual 372, 3) by decide +kernel) ?_
  rintro _ _ ⟨x, σ', rfl, rfl, hq⟩ _
  exact (k x σ' hq)
theorem S_X11_finish_22 {G : am_G} {d : Nat} {Q : Int → am_D → Prop} {σ : am_D} {s0 : Int} (hr1 : -2147483648 ≤ s0 ∧ s0 ≤ 2147483647) (k1 : ¬ s0 = 0 → am_X (am_FI G (d + 1) Q) mX11_finish (0, 0) 27 [some (am_r (some 91))] [] (am_K0, σ)) (k2 : ¬ (¬ s0 = 0) → am_X (am_FI G (d + 1) Q) mX11_finish (0, 0) 25 [none] [] (am_K0, σ)) : am_X (am_FI G (d + 1) Q) mX11_finish (0, 0) 22 [some (am_r (some 91))] [am_i s0] (am_K0, σ) := by
  refine am_r_if_ne (tg := 27) (nx := 25) (show decode cX11_finish 22 = .ok (.ifCond .ne 5, 3) by decide +kernel) (by decide) rfl hr1 ?_ ?_
  · exact fun q => k1 q
  · exact fun q => am_x_fg [0] (k2 q)
theorem S_X11_finish_25 {G : am_G} {d : Nat} {Q : Int → am_D → Prop} {σ : am_D}   (k : Q (-1) σ) : am_X (am_FI G (d + 1) Q) mX11_finish (0, 0) 25 [none] [] (am_K0, σ) := by
  refine am_r_iconst (nx := 26) (show decode cX11_finish 25 = .ok (.iconst (-1), 1) by decide +kernel) rfl ?_
  exact am_r_iret rfl rfl (show decode cX11_finish 26 = .ok (.ireturn, 1) by decide +kernel) ⟨_, _, rfl, rfl, k⟩
theorem S_X11_finish_27 {G : am_G} {d : Nat} {Q : Int → am_D → Prop} {σ : am_D} {Q' : Int → am_D → Prop} (hc : am_MI G d mX11_writes [am_r (some 91), am_i 0, am_i 4, am_r (some 109)] σ Q') (k : ∀ (x : Int) (σ' : am_D), Q' x σ' → am_X (am_FI G (d + 1) Q) mX11_finish (0, 0) 38 [some (am_r (some 91))] [am_i x, am_r (some 91)] (am_K0, σ')) : am_X (am_FI G (d + 1) Q) mX11_finish (0, 0) 27 [some (am_r (some 91))] [] (am_K0, σ) := by
  refine am_r_aload_n (nx := 28) rfl rfl (show decode cX11_finish 27 = .ok (.aload_n 0, 1) by decide +kernel) rfl ?_
  refine am_r_aload_n (nx := 29) rfl rfl (show decode cX11_finish 28 = .ok (.aload_n 0, 1) by decide +kernel) rfl ?_
  refine am_r_iconst (nx := 30) (show decode cX11_finish 29 = .ok (.iconst 0, 1) by decide +kernel) rfl ?_
  refine am_r_iconst (nx := 31) (show decode cX11_finish 30 = .ok (.iconst 4, 1) by decide +kernel) rfl ?_
  refine am_r_aload_n (nx := 32) rfl rfl (show decode cX11_finish 31 = .ok (.aload_n 0, 1) by decide +kernel) rfl ?_
  refine am_r_getF (nx := 35) 24 cw11 (by decide) rfl (Or.inl fl_X11_63) (ob_91) (fn_91_24) (show decode cX11_finish 32 = .ok (.getfield 63, 3) by decide +kernel) rfl ?_
  refine am_r_callV (as := [am_i 0, am_i 4, am_r (some 109)]) (st := [am_r (some 91)]) hc mb_X11_writes mv_X11_writes (Or.inl ml_X11_378) (ob_91) (by omega) (r := (RX11, TX11, 63)) rfl rfl rfl rfl (Nat.le_of_ble_eq_true rfl) ⟨Nat.le_refl _, Nat.le_refl _⟩ ⟨Nat.le_refl _, Nat.le_refl _⟩ (show decode cX11_finish 35 = .ok (.invokevirtual 378, 3) by decide +kernel) ?_
  rintro _ _ ⟨x, σ', rfl, rfl, hq⟩ _
  exact (k x σ' hq)
theorem S_X11_finish_38 {G : am_G} {d : Nat} {Q : Int → am_D → Prop} {σ : am_D} {s1 : Int}  (k : am_X (am_FI G (d + 1) Q) mX11_finish (0, 0) 41 [some (am_r (some 91))] [] (am_K0, (am_pI σ 91 27 s1))) : am_X (am_FI G (d + 1) Q) mX11_finish (0, 0) 38 [some (am_r (some 91))] [am_i s1, am_r (some 91)] (am_K0, σ) := by
  refine am_r_putI (nx := 41) 27 cw11 (by decide) rfl (Or.inl fl_X11_325) (ob_91) rfl (Or.inl rfl) (show decode cX11_finish 38 = .ok (.putfield 325, 3) by decide +kernel) rfl ?_
  exact k
theorem S_X11_finish_41 {G : am_G} {d : Nat} {Q : Int → am_D → Prop} {σ : am_D}   (k : am_X (am_FI G (d + 1) Q) mX11_finish (0, 0) 46 [some (am_r (some 91))] [] (am_K0, (am_pI σ 91 49 0))) : am_X (am_FI G (d + 1) Q) mX11_finish (0, 0) 41 [some (am_r (some 91))] [] (am_K0, σ) := by
  refine am_r_aload_n (nx := 42) rfl rfl (show decode cX11_finish 41 = .ok (.aload_n 0, 1) by decide +kernel) rfl ?_
  refine am_r_iconst (nx := 43) (show decode cX11_finish 42 = .ok (.iconst 0, 1) by decide +kernel) rfl ?_
  refine am_r_putI (nx := 46) 49 cw11 (by decide) rfl (Or.inl fl_X11_328) (ob_91) rfl (Or.inr ⟨rfl, by omega⟩) (show decode cX11_finish 43 = .ok (.putfield 328, 3) by decide +kernel) rfl ?_
  exact k
theorem S_X11_finish_46 {G : am_G} {d : Nat} {Q : Int → am_D → Prop} {σ : am_D}  (hr1 : -2147483648 ≤ (σ.1 91 27) ∧ (σ.1 91 27) ≤ 2147483647) (k : Q (Int.tdiv (σ.1 91 27) 2) σ) : am_X (am_FI G (d + 1) Q) mX11_finish (0, 0) 46 [some (am_r (some 91))] [] (am_K0, σ) := by
  refine am_r_aload_n (nx := 47) rfl rfl (show decode cX11_finish 46 = .ok (.aload_n 0, 1) by decide +kernel) rfl ?_
  refine am_r_getI (nx := 50) 27 cw11 (by decide) rfl (Or.inl fl_X11_325) (ob_91) (show decode cX11_finish 47 = .ok (.getfield 325, 3) by decide +kernel) rfl ?_
  refine am_r_iconst (nx := 51) (show decode cX11_finish 50 = .ok (.iconst 2, 1) by decide +kernel) rfl ?_
  refine am_r_idiv (nx := 52) hr1 (by omega) (show decode cX11_finish 51 = .ok (.idiv, 1) by decide +kernel) rfl ?_
  exact am_r_iret rfl rfl (show decode cX11_finish 52 = .ok (.ireturn, 1) by decide +kernel) ⟨_, _, rfl, rfl, k⟩
theorem S_X11_run_0 {G : am_G} {d : Nat} {Q : Int → am_D → Prop} {σ : am_D} {v1 : Int} {Q' : Int → am_D → Prop} (hc : am_MI G d mX11_isMachine [am_r (some 91), am_i v1] σ Q') (k : ∀ (x : Int) (σ' : am_D), Q' x σ' → am_X (am_FI G (d + 1) Q) mX11_run (0, 0) 5 [some (am_r (some 91)), some (am_i v1)] [am_i x] (am_K0, σ')) : am_X (am_FI G (d + 1) Q) mX11_run (0, 0) 0 [some (am_r (some 91)), some (am_i v1)] [] (am_K0, σ) := by
  refine am_r_aload_n (nx := 1) rfl rfl (show decode cX11_run 0 = .ok (.aload_n 0, 1) by decide +kernel) rfl ?_
  refine am_r_iload_n (nx := 2) rfl rfl (show decode cX11_run 1 = .ok (.iload_n 1, 1) by decide +kernel) rfl ?_
  refine am_r_callV (as := [am_i v1]) (st := []) hc mb_X11_isMachine mv_X11_isMachine (Or.inl ml_X11_307) (ob_91) (by omega) (r := (RX11, TX11, 63)) rfl rfl rfl rfl (Nat.le_of_ble_eq_true rfl) ⟨Nat.le_refl _, Nat.le_refl _⟩ ⟨Nat.le_refl _, Nat.le_refl _⟩ (show decode cX11_run 2 = .ok (.invokevirtual 307, 3) by decide +kernel) ?_
  rintro _ _ ⟨x, σ', rfl, rfl, hq⟩ _
  exact (k x σ' hq)
theorem S_X11_run_5 {G : am_G} {d : Nat} {Q : Int → am_D → Prop} {σ : am_D} {v1 : Int} {s0 : Int} (hr1 : -2147483648 ≤ s0 ∧ s0 ≤ 2147483647) (k1 : s0 = 0 → am_X (am_FI G (d + 1) Q) mX11_run (0, 0) 26 [none, none] [] (am_K0, σ)) (k2 : ¬ (s0 = 0) → am_X (am_FI G (d + 1) Q) mX11_run (0, 0) 8 [some (am_r (some 91)), some (am_i v1)] [] (am_K0, σ)) : am_X (am_FI G (d + 1) Q) mX11_run (0, 0) 5 [some (am_r (some 91)), some (am_i v1)] [am_i s0] (am_K0, σ) := by
  refine am_r_if_eq (tg := 26) (nx := 8) (show decode cX11_run 5 = .ok (.ifCond .eq 21, 3) by decide +kernel) (by decide) rfl hr1 ?_ ?_
  · exact fun q => am_x_fg [0, 1] (k1 q)
  · exact fun q => k2 q
theorem S_X11_run_8 {G : am_G} {d : Nat} {Q : Int → am_D → Prop} {σ : am_D} {v1 : Int} {Q' : Int → am_D → Prop} (hc : am_MI G d mX11_refusedAt [am_r (some 91), am_i 1, am_i v1, am_r (some 107), am_i (σ.1 91 25)] σ Q') (k : ∀ (x : Int) (σ' : am_D), Q' x σ' → am_X (am_FI G (d + 1) Q) mX11_run (0, 0) 22 [some (am_r (some 91)), some (am_i v1)] [am_i x] (am_K0, σ')) : am_X (am_FI G (d + 1) Q) mX11_run (0, 0) 8 [some (am_r (some 91)), some (am_i v1)] [] (am_K0, σ) := by
  refine am_r_aload_n (nx := 9) rfl rfl (show decode cX11_run 8 = .ok (.aload_n 0, 1) by decide +kernel) rfl ?_
  refine am_r_iconst (nx := 10) (show decode cX11_run 9 = .ok (.iconst 1, 1) by decide +kernel) rfl ?_
  refine am_r_iload_n (nx := 11) rfl rfl (show decode cX11_run 10 = .ok (.iload_n 1, 1) by decide +kernel) rfl ?_
  refine am_r_aload_n (nx := 12) rfl rfl (show decode cX11_run 11 = .ok (.aload_n 0, 1) by decide +kernel) rfl ?_
  refine am_r_getF (nx := 15) 22 cw11 (by decide) rfl (Or.inl fl_X11_57) (ob_91) (fn_91_22) (show decode cX11_run 12 = .ok (.getfield 57, 3) by decide +kernel) rfl ?_
  refine am_r_aload_n (nx := 16) rfl rfl (show decode cX11_run 15 = .ok (.aload_n 0, 1) by decide +kernel) rfl ?_
  refine am_r_getI (nx := 19) 25 cw11 (by decide) rfl (Or.inl fl_X11_299) (ob_91) (show decode cX11_run 16 = .ok (.getfield 299, 3) by decide +kernel) rfl ?_
  refine am_r_callV (as := [am_i 1, am_i v1, am_r (some 107), am_i (σ.1 91 25)]) (st := []) hc mb_X11_refusedAt mv_X11_refusedAt (Or.inl ml_X11_382) (ob_91) (by omega) (r := (RX11, TX11, 63)) rfl rfl rfl rfl (Nat.le_of_ble_eq_true rfl) ⟨Nat.le_refl _, Nat.le_refl _⟩ ⟨Nat.le_refl _, Nat.le_refl _⟩ (show decode cX11_run 19 = .ok (.invokevirtual 382, 3) by decide +kernel) ?_
  rintro _ _ ⟨x, σ', rfl, rfl, hq⟩ _
  exact (k x σ' hq)
theorem S_X11_run_22 {G : am_G} {d : Nat} {Q : Int → am_D → Prop} {σ : am_D} {v1 : Int} {s0 : Int} (hr1 : -2147483648 ≤ s0 ∧ s0 ≤ 2147483647) (k1 : s0 = (-1) → am_X (am_FI G (d + 1) Q) mX11_run (0, 0) 28 [some (am_r (some 91)), some (am_i v1)] [] (am_K0, σ)) (k2 : ¬ (s0 = (-1)) → am_X (am_FI G (d + 1) Q) mX11_run (0, 0) 26 [none, none] [] (am_K0, σ)) : am_X (am_FI G (d + 1) Q) mX11_run (0, 0) 22 [some (am_r (some 91)), some (am_i v1)] [am_i s0] (am_K0, σ) := by
  refine am_r_iconst (nx := 23) (show decode cX11_run 22 = .ok (.iconst (-1), 1) by decide +kernel) rfl ?_
  refine am_r_icmp_eq (tg := 28) (nx := 26) (show decode cX11_run 23 = .ok (.if_icmp .eq 5, 3) by decide +kernel) (by decide) rfl hr1 (by omega) ?_ ?_
  · exact fun q => k1 q
  · exact fun q => am_x_fg [0, 1] (k2 q)
theorem S_X11_run_26 {G : am_G} {d : Nat} {Q : Int → am_D → Prop} {σ : am_D}   (k : Q (-1) σ) : am_X (am_FI G (d + 1) Q) mX11_run (0, 0) 26 [none, none] [] (am_K0, σ) := by
  refine am_r_iconst (nx := 27) (show decode cX11_run 26 = .ok (.iconst (-1), 1) by decide +kernel) rfl ?_
  exact am_r_iret rfl rfl (show decode cX11_run 27 = .ok (.ireturn, 1) by decide +kernel) ⟨_, _, rfl, rfl, k⟩
theorem S_X11_run_28 {G : am_G} {d : Nat} {Q : Int → am_D → Prop} {σ : am_D} {v1 : Int} {Q' : Int → am_D → Prop} (hc : am_MI G d mX11_writes [am_r (some 91), am_i 1, am_i v1, am_r (some 109)] σ Q') (k : ∀ (x : Int) (σ' : am_D), Q' x σ' → am_X (am_FI G (d + 1) Q) mX11_run (0, 0) 39 [some (am_r (some 91)), none] [am_i x, am_r (some 91)] (am_K0, σ')) : am_X (am_FI G (d + 1) Q) mX11_run (0, 0) 28 [some (am_r (some 91)), some (am_i v1)] [] (am_K0, σ) := by
  refine am_r_aload_n (nx := 29) rfl rfl (show decode cX11_run 28 = .ok (.aload_n 0, 1) by decide +kernel) rfl ?_
  refine am_r_aload_n (nx := 30) rfl rfl (show decode cX11_run 29 = .ok (.aload_n 0, 1) by decide +kernel) rfl ?_
  refine am_r_iconst (nx := 31) (show decode cX11_run 30 = .ok (.iconst 1, 1) by decide +kernel) rfl ?_
  refine am_r_iload_n (nx := 32) rfl rfl (show decode cX11_run 31 = .ok (.iload_n 1, 1) by decide +kernel) rfl ?_
  refine am_r_aload_n (nx := 33) rfl rfl (show decode cX11_run 32 = .ok (.aload_n 0, 1) by decide +kernel) rfl ?_
  refine am_r_getF (nx := 36) 24 cw11 (by decide) rfl (Or.inl fl_X11_63) (ob_91) (fn_91_24) (show decode cX11_run 33 = .ok (.getfield 63, 3) by decide +kernel) rfl ?_
  refine am_r_callV (as := [am_i 1, am_i v1, am_r (some 109)]) (st := [am_r (some 91)]) hc mb_X11_writes mv_X11_writes (Or.inl ml_X11_378) (ob_91) (by omega) (r := (RX11, TX11, 63)) rfl rfl rfl rfl (Nat.le_of_ble_eq_true rfl) ⟨Nat.le_refl _, Nat.le_refl _⟩ ⟨Nat.le_refl _, Nat.le_refl _⟩ (show decode cX11_run 36 = .ok (.invokevirtual 378, 3) by decide +kernel) ?_
  rintro _ _ ⟨x, σ', rfl, rfl, hq⟩ _
  exact am_x_fg [1] (k x σ' hq)
theorem S_X11_run_39 {G : am_G} {d : Nat} {Q : Int → am_D → Prop} {σ : am_D} {s1 : Int}  (k : am_X (am_FI G (d + 1) Q) mX11_run (0, 0) 42 [some (am_r (some 91)), none] [] (am_K0, (am_pI σ 91 27 s1))) : am_X (am_FI G (d + 1) Q) mX11_run (0, 0) 39 [some (am_r (some 91)), none] [am_i s1, am_r (some 91)] (am_K0, σ) := by
  refine am_r_putI (nx := 42) 27 cw11 (by decide) rfl (Or.inl fl_X11_325) (ob_91) rfl (Or.inl rfl) (show decode cX11_run 39 = .ok (.putfield 325, 3) by decide +kernel) rfl ?_
  exact k
theorem S_X11_run_42 {G : am_G} {d : Nat} {Q : Int → am_D → Prop} {σ : am_D}  (hr1 : -2147483648 ≤ (σ.1 91 27) ∧ (σ.1 91 27) ≤ 2147483647) (k : Q (Int.tdiv (σ.1 91 27) 2) σ) : am_X (am_FI G (d + 1) Q) mX11_run (0, 0) 42 [some (am_r (some 91)), none] [] (am_K0, σ) := by
  refine am_r_aload_n (nx := 43) rfl rfl (show decode cX11_run 42 = .ok (.aload_n 0, 1) by decide +kernel) rfl ?_
  refine am_r_getI (nx := 46) 27 cw11 (by decide) rfl (Or.inl fl_X11_325) (ob_91) (show decode cX11_run 43 = .ok (.getfield 325, 3) by decide +kernel) rfl ?_
  refine am_r_iconst (nx := 47) (show decode cX11_run 46 = .ok (.iconst 2, 1) by decide +kernel) rfl ?_
  refine am_r_idiv (nx := 48) hr1 (by omega) (show decode cX11_run 47 = .ok (.idiv, 1) by decide +kernel) rfl ?_
  exact am_r_iret rfl rfl (show decode cX11_run 48 = .ok (.ireturn, 1) by decide +kernel) ⟨_, _, rfl, rfl, k⟩
theorem S_X11_isReadBy_0 {G : am_G} {d : Nat} {Q : Int → am_D → Prop} {σ : am_D} {v1 : Int} {v2 : Int} {v4 : Int} {v3 : Option Nat} {Q' : Int → am_D → Prop} (hc : am_MI G d mX11_refusedAt [am_r (some 91), am_i 1, am_i v1, am_r v3, am_i v4] σ Q') (k : ∀ (x : Int) (σ' : am_D), Q' x σ' → am_X (am_FI G (d + 1) Q) mX11_isReadBy (0, 0) 9 [some (am_r (some 91)), some (am_i v1), some (am_i v2), none, none] [am_i x] (am_K0, σ')) : am_X (am_FI G (d + 1) Q) mX11_isReadBy (0, 0) 0 [some (am_r (some 91)), some (am_i v1), some (am_i v2), some (am_r v3), some (am_i v4)] [] (am_K0, σ) := by
  refine am_r_aload_n (nx := 1) rfl rfl (show decode cX11_isReadBy 0 = .ok (.aload_n 0, 1) by decide +kernel) rfl ?_
  refine am_r_iconst (nx := 2) (show decode cX11_isReadBy 1 = .ok (.iconst 1, 1) by decide +kernel) rfl ?_
  refine am_r_iload_n (nx := 3) rfl rfl (show decode cX11_isReadBy 2 = .ok (.iload_n 1, 1) by decide +kernel) rfl ?_
  refine am_r_aload_n (nx := 4) rfl rfl (show decode cX11_isReadBy 3 = .ok (.aload_n 3, 1) by decide +kernel) rfl ?_
  refine am_r_iload (nx := 6) rfl (show decode cX11_isReadBy 4 = .ok (.iload 4, 2) by decide +kernel) rfl ?_
  refine am_r_callV (as := [am_i 1, am_i v1, am_r v3, am_i v4]) (st := []) hc mb_X11_refusedAt mv_X11_refusedAt (Or.inl ml_X11_382) (ob_91) (by omega) (r := (RX11, TX11, 63)) rfl rfl rfl rfl (Nat.le_of_ble_eq_true rfl) ⟨Nat.le_refl _, Nat.le_refl _⟩ ⟨Nat.le_refl _, Nat.le_refl _⟩ (show decode cX11_isReadBy 6 = .ok (.invokevirtual 382, 3) by decide +kernel) ?_
  rintro _ _ ⟨x, σ', rfl, rfl, hq⟩ _
  exact am_x_fg [3, 4] (k x σ' hq)
theorem S_X11_isReadBy_9 {G : am_G} {d : Nat} {Q : Int → am_D → Prop} {σ : am_D} {v1 : Int} {v2 : Int} {s0 : Int} (hr1 : -2147483648 ≤ s0 ∧ s0 ≤ 2147483647) (k1 : s0 = (-1) → am_X (am_FI G (d + 1) Q) mX11_isReadBy (0, 0) 15 [some (am_r (some 91)), some (am_i v1), some (am_i v2), none, none] [] (am_K0, σ)) (k2 : ¬ (s0 = (-1)) → am_X (am_FI G (d + 1) Q) mX11_isReadBy (0, 0) 13 [none, none, none, none, none] [] (am_K0, σ)) : am_X (am_FI G (d + 1) Q) mX11_isReadBy (0, 0) 9 [some (am_r (some 91)), some (am_i v1), some (am_i v2), none, none] [am_i s0] (am_K0, σ) := by
  refine am_r_iconst (nx := 10) (show decode cX11_isReadBy 9 = .ok (.iconst (-1), 1) by decide +kernel) rfl ?_
  refine am_r_icmp_eq (tg := 15) (nx := 13) (show decode cX11_isReadBy 10 = .ok (.if_icmp .eq 5, 3) by decide +kernel) (by decide) rfl hr1 (by omega) ?_ ?_
  · exact fun q => k1 q
  · exact fun q => am_x_fg [0, 1, 2] (k2 q)
theorem S_X11_isReadBy_13 {G : am_G} {d : Nat} {Q : Int → am_D → Prop} {σ : am_D}   (k : Q 0 σ) : am_X (am_FI G (d + 1) Q) mX11_isReadBy (0, 0) 13 [none, none, none, none, none] [] (am_K0, σ) := by
  refine am_r_iconst (nx := 14) (show decode cX11_isReadBy 13 = .ok (.iconst 0, 1) by decide +kernel) rfl ?_
  exact am_r_iret rfl rfl (show decode cX11_isReadBy 14 = .ok (.ireturn, 1) by decide +kernel) ⟨_, _, rfl, rfl, k⟩
theorem S_X11_isReadBy_15 {G : am_G} {d : Nat} {Q : Int → am_D → Prop} {σ : am_D} {v1 : Int} {v2 : Int} {Q' : Int → am_D → Prop} (hc : am_MI G d mX11_writes [am_r (some 91), am_i 1, am_i v1, am_r (some 127)] σ Q') (k : ∀ (x : Int) (σ' : am_D), Q' x σ' → am_X (am_FI G (d + 1) Q) mX11_isReadBy (0, 0) 26 [some (am_r (some 91)), none, some (am_i v2), none, none] [am_i x, am_r (some 91)] (am_K0, σ')) : am_X (am_FI G (d + 1) Q) mX11_isReadBy (0, 0) 15 [some (am_r (some 91)), some (am_i v1), some (am_i v2), none, none] [] (am_K0, σ) := by
  refine am_r_aload_n (nx := 16) rfl rfl (show decode cX11_isReadBy 15 = .ok (.aload_n 0, 1) by decide +kernel) rfl ?_
  refine am_r_aload_n (nx := 17) rfl rfl (show decode cX11_isReadBy 16 = .ok (.aload_n 0, 1) by decide +kernel) rfl ?_
  refine am_r_iconst (nx := 18) (show decode cX11_isReadBy 17 = .ok (.iconst 1, 1) by decide +kernel) rfl ?_
  refine am_r_iload_n (nx := 19) rfl rfl (show decode cX11_isReadBy 18 = .ok (.iload_n 1, 1) by decide +kernel) rfl ?_
  refine am_r_aload_n (nx := 20) rfl rfl (show decode cX11_isReadBy 19 = .ok (.aload_n 0, 1) by decide +kernel) rfl ?_
  refine am_r_getF (nx := 23) 52 cw11 (by decide) rfl (Or.inl fl_X11_117) (ob_91) (fn_91_52) (show decode cX11_isReadBy 20 = .ok (.getfield 117, 3) by decide +kernel) rfl ?_
  refine am_r_callV (as := [am_i 1, am_i v1, am_r (some 127)]) (st := [am_r (some 91)]) hc mb_X11_writes mv_X11_writes (Or.inl ml_X11_378) (ob_91) (by omega) (r := (RX11, TX11, 63)) rfl rfl rfl rfl (Nat.le_of_ble_eq_true rfl) ⟨Nat.le_refl _, Nat.le_refl _⟩ ⟨Nat.le_refl _, Nat.le_refl _⟩ (show decode cX11_isReadBy 23 = .ok (.invokevirtual 378, 3) by decide +kernel) ?_
  rintro _ _ ⟨x, σ', rfl, rfl, hq⟩ _
  exact am_x_fg [1] (k x σ' hq)
theorem S_X11_isReadBy_26 {G : am_G} {d : Nat} {Q : Int → am_D → Prop} {σ : am_D} {v2 : Int} {s1 : Int}  (k : am_X (am_FI G (d + 1) Q) mX11_isReadBy (0, 0) 29 [some (am_r (some 91)), none, some (am_i v2), none, none] [] (am_K0, (am_pI σ 91 54 s1))) : am_X (am_FI G (d + 1) Q) mX11_isReadBy (0, 0) 26 [some (am_r (some 91)), none, some (am_i v2), none, none] [am_i s1, am_r (some 91)] (am_K0, σ) := by
  refine am_r_putI (nx := 29) 54 cw11 (by decide) rfl (Or.inl fl_X11_386) (ob_91) rfl (Or.inl rfl) (show decode cX11_isReadBy 26 = .ok (.putfield 386, 3) by decide +kernel) rfl ?_
  exact k
theorem S_X11_isReadBy_29 {G : am_G} {d : Nat} {Q : Int → am_D → Prop} {σ : am_D} {v2 : Int} {Q' : Int → am_D → Prop} (hc : am_MI G d mX11_refusedAt [am_r (some 91), am_i 2, am_i v2, am_r (some 127), am_i (σ.1 91 54)] σ Q') (k : ∀ (x : Int) (σ' : am_D), Q' x σ' → am_X (am_FI G (d + 1) Q) mX11_isReadBy (0, 0) 43 [none, none, none, none, none] [am_i x] (am_K0, σ')) : am_X (am_FI G (d + 1) Q) mX11_isReadBy (0, 0) 29 [some (am_r (some 91)), none, some (am_i v2), none, none] [] (am_K0, σ) := by
  refine am_r_aload_n (nx := 30) rfl rfl (show decode cX11_isReadBy 29 = .ok (.aload_n 0, 1) by decide +kernel) rfl ?_
  refine am_r_iconst (nx := 31) (show decode cX11_isReadBy 30 = .ok (.iconst 2, 1) by decide +kernel) rfl ?_
  refine am_r_iload_n (nx := 32) rfl rfl (show decode cX11_isReadBy 31 = .ok (.iload_n 2, 1) by decide +kernel) rfl ?_
  refine am_r_aload_n (nx := 33) rfl rfl (show decode cX11_isReadBy 32 = .ok (.aload_n 0, 1) by decide +kernel) rfl ?_
  refine am_r_getF (nx := 36) 52 cw11 (by decide) rfl (Or.inl fl_X11_117) (ob_91) (fn_91_52) (show decode cX11_isReadBy 33 = .ok (.getfield 117, 3) by decide +kernel) rfl ?_
  refine am_r_aload_n (nx := 37) rfl rfl (show decode cX11_isReadBy 36 = .ok (.aload_n 0, 1) by decide +kernel) rfl ?_
  refine am_r_getI (nx := 40) 54 cw11 (by decide) rfl (Or.inl fl_X11_386) (ob_91) (show decode cX11_isReadBy 37 = .ok (.getfield 386, 3) by decide +kernel) rfl ?_
  refine am_r_callV (as := [am_i 2, am_i v2, am_r (some 127), am_i (σ.1 91 54)]) (st := []) hc mb_X11_refusedAt mv_X11_refusedAt (Or.inl ml_X11_382) (ob_91) (by omega) (r := (RX11, TX11, 63)) rfl rfl rfl rfl (Nat.le_of_ble_eq_true rfl) ⟨Nat.le_refl _, Nat.le_refl _⟩ ⟨Nat.le_refl _, Nat.le_refl _⟩ (show decode cX11_isReadBy 40 = .ok (.invokevirtual 382, 3) by decide +kernel) ?_
  rintro _ _ ⟨x, σ', rfl, rfl, hq⟩ _
  exact am_x_fg [0, 2] (k x σ' hq)
theorem S_X11_isReadBy_43 {G : am_G} {d : Nat} {Q : Int → am_D → Prop} {σ : am_D} {s0 : Int} (hr1 : -2147483648 ≤ s0 ∧ s0 ≤ 2147483647) (k1 : ¬ s0 = (-1) → am_X (am_FI G (d + 1) Q) mX11_isReadBy (0, 0) 51 [none, none, none, none, none] [] (am_K0, σ)) (k2 : ¬ (¬ s0 = (-1)) → am_X (am_FI G (d + 1) Q) mX11_isReadBy (0, 0) 47 [none, none, none, none, none] [] (am_K0, σ)) : am_X (am_FI G (d + 1) Q) mX11_isReadBy (0, 0) 43 [none, none, none, none, none] [am_i s0] (am_K0, σ) := by
  refine am_r_iconst (nx := 44) (show decode cX11_isReadBy 43 = .ok (.iconst (-1), 1) by decide +kernel) rfl ?_
  refine am_r_icmp_ne (tg := 51) (nx := 47) (show decode cX11_isReadBy 44 = .ok (.if_icmp .ne 7, 3) by decide +kernel) (by decide) rfl hr1 (by omega) ?_ ?_
  · exact fun q => k1 q
  · exact fun q => k2 q
theorem S_X11_isReadBy_47 {G : am_G} {d : Nat} {Q : Int → am_D → Prop} {σ : am_D}   (k : am_X (am_FI G (d + 1) Q) mX11_isReadBy (0, 0) 52 [none, none, none, none, none] [am_i 1] (am_K0, σ)) : am_X (am_FI G (d + 1) Q) mX11_isReadBy (0, 0) 47 [none, none, none, none, none] [] (am_K0, σ) := by
  refine am_r_iconst (nx := 48) (show decode cX11_isReadBy 47 = .ok (.iconst 1, 1) by decide +kernel) rfl ?_
  refine am_r_goto (tg := 52) (show decode cX11_isReadBy 48 = .ok (.goto 4, 3) by decide +kernel) (by decide) ?_
  exact k
theorem S_X11_isReadBy_51 {G : am_G} {d : Nat} {Q : Int → am_D → Prop} {σ : am_D}   (k : am_X (am_FI G (d + 1) Q) mX11_isReadBy (0, 0) 52 [none, none, none, none, none] [am_i 0] (am_K0, σ)) : am_X (am_FI G (d + 1) Q) mX11_isReadBy (0, 0) 51 [none, none, none, none, none] [] (am_K0, σ) := by
  refine am_r_iconst (nx := 52) (show decode cX11_isReadBy 51 = .ok (.iconst 0, 1) by decide +kernel) rfl ?_
  exact k
theorem S_X11_isReadBy_52 {G : am_G} {d : Nat} {Q : Int → am_D → Prop} {σ : am_D} {s0 : Int} (hz : s0 = 0 ∨ s0 = 1) (k : Q s0 σ) : am_X (am_FI G (d + 1) Q) mX11_isReadBy (0, 0) 52 [none, none, none, none, none] [am_i s0] (am_K0, σ) := by
  exact am_r_iret rfl (by rcases hz with hz | hz <;> rw [hz] <;> rfl) (show decode cX11_isReadBy 52 = .ok (.ireturn, 1) by decide +kernel) ⟨_, _, rfl, rfl, k⟩
theorem S_X11_through_0 {G : am_G} {d : Nat} {Q : Int → am_D → Prop} {σ : am_D} {v1 : Int} {v2 : Int} {Q' : Int → am_D → Prop} (hc : am_MI G d mX11_isMachine [am_r (some 91), am_i v1] σ Q') (k : ∀ (x : Int) (σ' : am_D), Q' x σ' → am_X (am_FI G (d + 1) Q) mX11_through (0, 0) 5 [some (am_r (some 91)), some (am_i v1), some (am_i v2)] [am_i x] (am_K0, σ')) : am_X (am_FI G (d + 1) Q) mX11_through (0, 0) 0 [some (am_r (some 91)), some (am_i v1), some (am_i v2)] [] (am_K0, σ) := by
  refine am_r_aload_n (nx := 1) rfl rfl (show decode cX11_through 0 = .ok (.aload_n 0, 1) by decide +kernel) rfl ?_
  refine am_r_iload_n (nx := 2) rfl rfl (show decode cX11_through 1 = .ok (.iload_n 1, 1) by decide +kernel) rfl ?_
  refine am_r_callV (as := [am_i v1]) (st := []) hc mb_X11_isMachine mv_X11_isMachine (Or.inl ml_X11_307) (ob_91) (by omega) (r := (RX11, TX11, 63)) rfl rfl rfl rfl (Nat.le_of_ble_eq_true rfl) ⟨Nat.le_refl _, Nat.le_refl _⟩ ⟨Nat.le_refl _, Nat.le_refl _⟩ (show decode cX11_through 2 = .ok (.invokevirtual 307, 3) by decide +kernel) ?_
  rintro _ _ ⟨x, σ', rfl, rfl, hq⟩ _
  exact (k x σ' hq)
theorem S_X11_through_5 {G : am_G} {d : Nat} {Q : Int → am_D → Prop} {σ : am_D} {v1 : Int} {v2 : Int} {s0 : Int} (hr1 : -2147483648 ≤ s0 ∧ s0 ≤ 2147483647) (k1 : s0 = 0 → am_X (am_FI G (d + 1) Q) mX11_through (0, 0) 33 [none, none, none] [] (am_K0, σ)) (k2 : ¬ (s0 = 0) → am_X (am_FI G (d + 1) Q) mX11_through (0, 0) 8 [some (am_r (some 91)), some (am_i v1), some (am_i v2)] [] (am_K0, σ)) : am_X (am_FI G (d + 1) Q) mX11_through (0, 0) 5 [some (am_r (some 91)), some (am_i v1), some (am_i v2)] [am_i s0] (am_K0, σ) := by
  refine am_r_if_eq (tg := 33) (nx := 8) (show decode cX11_through 5 = .ok (.ifCond .eq 28, 3) by decide +kernel) (by decide) rfl hr1 ?_ ?_
  · exact fun q => am_x_fg [0, 1, 2] (k1 q)
  · exact fun q => k2 q
theorem S_X11_through_8 {G : am_G} {d : Nat} {Q : Int → am_D → Prop} {σ : am_D} {v1 : Int} {v2 : Int} {Q' : Int → am_D → Prop} (hc : am_MI G d mX11_isMachine [am_r (some 91), am_i v2] σ Q') (k : ∀ (x : Int) (σ' : am_D), Q' x σ' → am_X (am_FI G (d + 1) Q) mX11_through (0, 0) 13 [some (am_r (some 91)), some (am_i v1), some (am_i v2)] [am_i x] (am_K0, σ')) : am_X (am_FI G (d + 1) Q) mX11_through (0, 0) 8 [some (am_r (some 91)), some (am_i v1), some (am_i v2)] [] (am_K0, σ) := by
  refine am_r_aload_n (nx := 9) rfl rfl (show decode cX11_through 8 = .ok (.aload_n 0, 1) by decide +kernel) rfl ?_
  refine am_r_iload_n (nx := 10) rfl rfl (show decode cX11_through 9 = .ok (.iload_n 2, 1) by decide +kernel) rfl ?_
  refine am_r_callV (as := [am_i v2]) (st := []) hc mb_X11_isMachine mv_X11_isMachine (Or.inl ml_X11_307) (ob_91) (by omega) (r := (RX11, TX11, 63)) rfl rfl rfl rfl (Nat.le_of_ble_eq_true rfl) ⟨Nat.le_refl _, Nat.le_refl _⟩ ⟨Nat.le_refl _, Nat.le_refl _⟩ (show decode cX11_through 10 = .ok (.invokevirtual 307, 3) by decide +kernel) ?_
  rintro _ _ ⟨x, σ', rfl, rfl, hq⟩ _
  exact (k x σ' hq)
theorem S_X11_through_13 {G : am_G} {d : Nat} {Q : Int → am_D → Prop} {σ : am_D} {v1 : Int} {v2 : Int} {s0 : Int} (hr1 : -2147483648 ≤ s0 ∧ s0 ≤ 2147483647) (k1 : s0 = 0 → am_X (am_FI G (d + 1) Q) mX11_through (0, 0) 33 [none, none, none] [] (am_K0, σ)) (k2 : ¬ (s0 = 0) → am_X (am_FI G (d + 1) Q) mX11_through (0, 0) 16 [some (am_r (some 91)), some (am_i v1), some (am_i v2)] [] (am_K0, σ)) : am_X (am_FI G (d + 1) Q) mX11_through (0, 0) 13 [some (am_r (some 91)), some (am_i v1), some (am_i v2)] [am_i s0] (am_K0, σ) := by
  refine am_r_if_eq (tg := 33) (nx := 16) (show decode cX11_through 13 = .ok (.ifCond .eq 20, 3) by decide +kernel) (by decide) rfl hr1 ?_ ?_
  · exact fun q => am_x_fg [0, 1, 2] (k1 q)
  · exact fun q => k2 q
theorem S_X11_through_16 {G : am_G} {d : Nat} {Q : Int → am_D → Prop} {σ : am_D} {v1 : Int} {v2 : Int} {Q' : Int → am_D → Prop} (hc : am_MI G d mX11_isReadBy [am_r (some 91), am_i v1, am_i v2, am_r (some 107), am_i (σ.1 91 25)] σ Q') (k : ∀ (x : Int) (σ' : am_D), Q' x σ' → am_X (am_FI G (d + 1) Q) mX11_through (0, 0) 30 [some (am_r (some 91)), none, some (am_i v2)] [am_i x] (am_K0, σ')) : am_X (am_FI G (d + 1) Q) mX11_through (0, 0) 16 [some (am_r (some 91)), some (am_i v1), some (am_i v2)] [] (am_K0, σ) := by
  refine am_r_aload_n (nx := 17) rfl rfl (show decode cX11_through 16 = .ok (.aload_n 0, 1) by decide +kernel) rfl ?_
  refine am_r_iload_n (nx := 18) rfl rfl (show decode cX11_through 17 = .ok (.iload_n 1, 1) by decide +kernel) rfl ?_
  refine am_r_iload_n (nx := 19) rfl rfl (show decode cX11_through 18 = .ok (.iload_n 2, 1) by decide +kernel) rfl ?_
  refine am_r_aload_n (nx := 20) rfl rfl (show decode cX11_through 19 = .ok (.aload_n 0, 1) by decide +kernel) rfl ?_
  refine am_r_getF (nx := 23) 22 cw11 (by decide) rfl (Or.inl fl_X11_57) (ob_91) (fn_91_22) (show decode cX11_through 20 = .ok (.getfield 57, 3) by decide +kernel) rfl ?_
  refine am_r_aload_n (nx := 24) rfl rfl (show decode cX11_through 23 = .ok (.aload_n 0, 1) by decide +kernel) rfl ?_
  refine am_r_getI (nx := 27) 25 cw11 (by decide) rfl (Or.inl fl_X11_299) (ob_91) (show decode cX11_through 24 = .ok (.getfield 299, 3) by decide +kernel) rfl ?_
  refine am_r_callV (as := [am_i v1, am_i v2, am_r (some 107), am_i (σ.1 91 25)]) (st := []) hc mb_X11_isReadBy mv_X11_isReadBy (Or.inl ml_X11_389) (ob_91) (by omega) (r := (RX11, TX11, 63)) rfl rfl rfl rfl (Nat.le_of_ble_eq_true rfl) ⟨Nat.le_refl _, Nat.le_refl _⟩ ⟨Nat.le_refl _, Nat.le_refl _⟩ (show decode cX11_through 27 = .ok (.invokevirtual 389, 3) by decide +kernel) ?_
  rintro _ _ ⟨x, σ', rfl, rfl, hq⟩ _
  exact am_x_fg [1] (k x σ' hq)
theorem S_X11_through_30 {G : am_G} {d : Nat} {Q : Int → am_D → Prop} {σ : am_D} {v2 : Int} {s0 : Int} (hr1 : -2147483648 ≤ s0 ∧ s0 ≤ 2147483647) (k1 : ¬ s0 = 0 → am_X (am_FI G (d + 1) Q) mX11_through (0, 0) 35 [some (am_r (some 91)), none, some (am_i v2)] [] (am_K0, σ)) (k2 : ¬ (¬ s0 = 0) → am_X (am_FI G (d + 1) Q) mX11_through (0, 0) 33 [none, none, none] [] (am_K0, σ)) : am_X (am_FI G (d + 1) Q) mX11_through (0, 0) 30 [some (am_r (some 91)), none, some (am_i v2)] [am_i s0] (am_K0, σ) := by
  refine am_r_if_ne (tg := 35) (nx := 33) (show decode cX11_through 30 = .ok (.ifCond .ne 5, 3) by decide +kernel) (by decide) rfl hr1 ?_ ?_
  · exact fun q => k1 q
  · exact fun q => am_x_fg [0, 2] (k2 q)
theorem S_X11_through_33 {G : am_G} {d : Nat} {Q : Int → am_D → Prop} {σ : am_D}   (k : Q (-1) σ) : am_X (am_FI G (d + 1) Q) mX11_through (0, 0) 33 [none, none, none] [] (am_K0, σ) := by
  refine am_r_iconst (nx := 34) (show decode cX11_through 33 = .ok (.iconst (-1), 1) by decide +kernel) rfl ?_
  exact am_r_iret rfl rfl (show decode cX11_through 34 = .ok (.ireturn, 1) by decide +kernel) ⟨_, _, rfl, rfl, k⟩
theorem S_X11_through_35 {G : am_G} {d : Nat} {Q : Int → am_D → Prop} {σ : am_D} {v2 : Int} {Q' : Int → am_D → Prop} (hc : am_MI G d mX11_writes [am_r (some 91), am_i 2, am_i v2, am_r (some 109)] σ Q') (k : ∀ (x : Int) (σ' : am_D), Q' x σ' → am_X (am_FI G (d + 1) Q) mX11_through (0, 0) 46 [some (am_r (some 91)), none, none] [am_i x, am_r (some 91)] (am_K0, σ')) : am_X (am_FI G (d + 1) Q) mX11_through (0, 0) 35 [some (am_r (some 91)), none, some (am_i v2)] [] (am_K0, σ) := by
  refine am_r_aload_n (nx := 36) rfl rfl (show decode cX11_through 35 = .ok (.aload_n 0, 1) by decide +kernel) rfl ?_
  refine am_r_aload_n (nx := 37) rfl rfl (show decode cX11_through 36 = .ok (.aload_n 0, 1) by decide +kernel) rfl ?_
  refine am_r_iconst (nx := 38) (show decode cX11_through 37 = .ok (.iconst 2, 1) by decide +kernel) rfl ?_
  refine am_r_iload_n (nx := 39) rfl rfl (show decode cX11_through 38 = .ok (.iload_n 2, 1) by decide +kernel) rfl ?_
  refine am_r_aload_n (nx := 40) rfl rfl (show decode cX11_through 39 = .ok (.aload_n 0, 1) by decide +kernel) rfl ?_
  refine am_r_getF (nx := 43) 24 cw11 (by decide) rfl (Or.inl fl_X11_63) (ob_91) (fn_91_24) (show decode cX11_through 40 = .ok (.getfield 63, 3) by decide +kernel) rfl ?_
  refine am_r_callV (as := [am_i 2, am_i v2, am_r (some 109)]) (st := [am_r (some 91)]) hc mb_X11_writes mv_X11_writes (Or.inl ml_X11_378) (ob_91) (by omega) (r := (RX11, TX11, 63)) rfl rfl rfl rfl (Nat.le_of_ble_eq_true rfl) ⟨Nat.le_refl _, Nat.le_refl _⟩ ⟨Nat.le_refl _, Nat.le_refl _⟩ (show decode cX11_through 43 = .ok (.invokevirtual 378, 3) by decide +kernel) ?_
  rintro _ _ ⟨x, σ', rfl, rfl, hq⟩ _
  exact am_x_fg [2] (k x σ' hq)
theorem S_X11_through_46 {G : am_G} {d : Nat} {Q : Int → am_D → Prop} {σ : am_D} {s1 : Int}  (k : am_X (am_FI G (d + 1) Q) mX11_through (0, 0) 49 [some (am_r (some 91)), none, none] [] (am_K0, (am_pI σ 91 27 s1))) : am_X (am_FI G (d + 1) Q) mX11_through (0, 0) 46 [some (am_r (some 91)), none, none] [am_i s1, am_r (some 91)] (am_K0, σ) := by
  refine am_r_putI (nx := 49) 27 cw11 (by decide) rfl (Or.inl fl_X11_325) (ob_91) rfl (Or.inl rfl) (show decode cX11_through 46 = .ok (.putfield 325, 3) by decide +kernel) rfl ?_
  exact k
theorem S_X11_through_49 {G : am_G} {d : Nat} {Q : Int → am_D → Prop} {σ : am_D}  (hr1 : -2147483648 ≤ (σ.1 91 27) ∧ (σ.1 91 27) ≤ 2147483647) (k : Q (Int.tdiv (σ.1 91 27) 2) σ) : am_X (am_FI G (d + 1) Q) mX11_through (0, 0) 49 [some (am_r (some 91)), none, none] [] (am_K0, σ) := by
  refine am_r_aload_n (nx := 50) rfl rfl (show decode cX11_through 49 = .ok (.aload_n 0, 1) by decide +kernel) rfl ?_
  refine am_r_getI (nx := 53) 27 cw11 (by decide) rfl (Or.inl fl_X11_325) (ob_91) (show decode cX11_through 50 = .ok (.getfield 325, 3) by decide +kernel) rfl ?_
  refine am_r_iconst (nx := 54) (show decode cX11_through 53 = .ok (.iconst 2, 1) by decide +kernel) rfl ?_
  refine am_r_idiv (nx := 55) hr1 (by omega) (show decode cX11_through 54 = .ok (.idiv, 1) by decide +kernel) rfl ?_
  exact am_r_iret rfl rfl (show decode cX11_through 55 = .ok (.ireturn, 1) by decide +kernel) ⟨_, _, rfl, rfl, k⟩
theorem S_X11_refused_0 {G : am_G} {d : Nat} {Q : Int → am_D → Prop} {σ : am_D} {v1 : Int} {Q' : Int → am_D → Prop} (hc : am_MI G d mX11_isMachine [am_r (some 91), am_i v1] σ Q') (k : ∀ (x : Int) (σ' : am_D), Q' x σ' → am_X (am_FI G (d + 1) Q) mX11_refused (0, 0) 5 [some (am_r (some 91)), some (am_i v1)] [am_i x] (am_K0, σ')) : am_X (am_FI G (d + 1) Q) mX11_refused (0, 0) 0 [some (am_r (some 91)), some (am_i v1)] [] (am_K0, σ) := by
  refine am_r_aload_n (nx := 1) rfl rfl (show decode cX11_refused 0 = .ok (.aload_n 0, 1) by decide +kernel) rfl ?_
  refine am_r_iload_n (nx := 2) rfl rfl (show decode cX11_refused 1 = .ok (.iload_n 1, 1) by decide +kernel) rfl ?_
  refine am_r_callV (as := [am_i v1]) (st := []) hc mb_X11_isMachine mv_X11_isMachine (Or.inl ml_X11_307) (ob_91) (by omega) (r := (RX11, TX11, 63)) rfl rfl rfl rfl (Nat.le_of_ble_eq_true rfl) ⟨Nat.le_refl _, Nat.le_refl _⟩ ⟨Nat.le_refl _, Nat.le_refl _⟩ (show decode cX11_refused 2 = .ok (.invokevirtual 307, 3) by decide +kernel) ?_
  rintro _ _ ⟨x, σ', rfl, rfl, hq⟩ _
  exact (k x σ' hq)
theorem S_X11_refused_5 {G : am_G} {d : Nat} {Q : Int → am_D → Prop} {σ : am_D} {v1 : Int} {s0 : Int} (hr1 : -2147483648 ≤ s0 ∧ s0 ≤ 2147483647) (k1 : s0 = 0 → am_X (am_FI G (d + 1) Q) mX11_refused (0, 0) 25 [none, none] [] (am_K0, σ)) (k2 : ¬ (s0 = 0) → am_X (am_FI G (d + 1) Q) mX11_refused (0, 0) 8 [some (am_r (some 91)), some (am_i v1)] [] (am_K0, σ)) : am_X (am_FI G (d + 1) Q) mX11_refused (0, 0) 5 [some (am_r (some 91)), some (am_i v1)] [am_i s0] (am_K0, σ) := by
  refine am_r_if_eq (tg := 25) (nx := 8) (show decode cX11_refused 5 = .ok (.ifCond .eq 20, 3) by decide +kernel) (by decide) rfl hr1 ?_ ?_
  · exact fun q => am_x_fg [0, 1] (k1 q)
  · exact fun q => k2 q
theorem S_X11_refused_8 {G : am_G} {d : Nat} {Q : Int → am_D → Prop} {σ : am_D} {v1 : Int} {Q' : Int → am_D → Prop} (hc : am_MI G d mX11_refusedAt [am_r (some 91), am_i 1, am_i v1, am_r (some 107), am_i (σ.1 91 25)] σ Q') (k : ∀ (x : Int) (σ' : am_D), Q' x σ' → am_X (am_FI G (d + 1) Q) mX11_refused (0, 0) 22 [none, none] [am_i x] (am_K0, σ')) : am_X (am_FI G (d + 1) Q) mX11_refused (0, 0) 8 [some (am_r (some 91)), some (am_i v1)] [] (am_K0, σ) := by
  refine am_r_aload_n (nx := 9) rfl rfl (show decode cX11_refused 8 = .ok (.aload_n 0, 1) by decide +kernel) rfl ?_
  refine am_r_iconst (nx := 10) (show decode cX11_refused 9 = .ok (.iconst 1, 1) by decide +kernel) rfl ?_
  refine am_r_iload_n (nx := 11) rfl rfl (show decode cX11_refused 10 = .ok (.iload_n 1, 1) by decide +kernel) rfl ?_
  refine am_r_aload_n (nx := 12) rfl rfl (show decode cX11_refused 11 = .ok (.aload_n 0, 1) by decide +kernel) rfl ?_
  refine am_r_getF (nx := 15) 22 cw11 (by decide) rfl (Or.inl fl_X11_57) (ob_91) (fn_91_22) (show decode cX11_refused 12 = .ok (.getfield 57, 3) by decide +kernel) rfl ?_
  refine am_r_aload_n (nx := 16) rfl rfl (show decode cX11_refused 15 = .ok (.aload_n 0, 1) by decide +kernel) rfl ?_
  refine am_r_getI (nx := 19) 25 cw11 (by decide) rfl (Or.inl fl_X11_299) (ob_91) (show decode cX11_refused 16 = .ok (.getfield 299, 3) by decide +kernel) rfl ?_
  refine am_r_callV (as := [am_i 1, am_i v1, am_r (some 107), am_i (σ.1 91 25)]) (st := []) hc mb_X11_refusedAt mv_X11_refusedAt (Or.inl ml_X11_382) (ob_91) (by omega) (r := (RX11, TX11, 63)) rfl rfl rfl rfl (Nat.le_of_ble_eq_true rfl) ⟨Nat.le_refl _, Nat.le_refl _⟩ ⟨Nat.le_refl _, Nat.le_refl _⟩ (show decode cX11_refused 19 = .ok (.invokevirtual 382, 3) by decide +kernel) ?_
  rintro _ _ ⟨x, σ', rfl, rfl, hq⟩ _
  exact am_x_fg [0, 1] (k x σ' hq)
theorem S_X11_refused_22 {G : am_G} {d : Nat} {Q : Int → am_D → Prop} {σ : am_D} {s0 : Int}  (k : am_X (am_FI G (d + 1) Q) mX11_refused (0, 0) 27 [none, none] [am_i s0] (am_K0, σ)) : am_X (am_FI G (d + 1) Q) mX11_refused (0, 0) 22 [none, none] [am_i s0] (am_K0, σ) := by
  refine am_r_goto (tg := 27) (show decode cX11_refused 22 = .ok (.goto 5, 3) by decide +kernel) (by decide) ?_
  exact k
theorem S_X11_refused_25 {G : am_G} {d : Nat} {Q : Int → am_D → Prop} {σ : am_D}   (k : am_X (am_FI G (d + 1) Q) mX11_refused (0, 0) 27 [none, none] [am_i (-2)] (am_K0, σ)) : am_X (am_FI G (d + 1) Q) mX11_refused (0, 0) 25 [none, none] [] (am_K0, σ) := by
  refine am_r_bipush (nx := 27) rfl (show decode cX11_refused 25 = .ok (.bipush (-2), 2) by decide +kernel) rfl ?_
  exact k
theorem S_X11_refused_27 {G : am_G} {d : Nat} {Q : Int → am_D → Prop} {σ : am_D} {s0 : Int}  (k : Q s0 σ) : am_X (am_FI G (d + 1) Q) mX11_refused (0, 0) 27 [none, none] [am_i s0] (am_K0, σ) := by
  exact am_r_iret rfl rfl (show decode cX11_refused 27 = .ok (.ireturn, 1) by decide +kernel) ⟨_, _, rfl, rfl, k⟩
theorem S_X11_ahead_0 {G : am_G} {d : Nat} {Q : Int → am_D → Prop} {σ : am_D} {v1 : Int} {v2 : Int} {Q' : Int → am_D → Prop} (hc : am_MI G d mX11_isMachine [am_r (some 91), am_i v1] σ Q') (k : ∀ (x : Int) (σ' : am_D), Q' x σ' → am_X (am_FI G (d + 1) Q) mX11_ahead (0, 0) 5 [some (am_r (some 91)), some (am_i v1), some (am_i v2)] [am_i x] (am_K0, σ')) : am_X (am_FI G (d + 1) Q) mX11_ahead (0, 0) 0 [some (am_r (some 91)), some (am_i v1), some (am_i v2)] [] (am_K0, σ) := by
  refine am_r_aload_n (nx := 1) rfl rfl (show decode cX11_ahead 0 = .ok (.aload_n 0, 1) by decide +kernel) rfl ?_
  refine am_r_iload_n (nx := 2) rfl rfl (show decode cX11_ahead 1 = .ok (.iload_n 1, 1) by decide +kernel) rfl ?_
  refine am_r_callV (as := [am_i v1]) (st := []) hc mb_X11_isMachine mv_X11_isMachine (Or.inl ml_X11_307) (ob_91) (by omega) (r := (RX11, TX11, 63)) rfl rfl rfl rfl (Nat.le_of_ble_eq_true rfl) ⟨Nat.le_refl _, Nat.le_refl _⟩ ⟨Nat.le_refl _, Nat.le_refl _⟩ (show decode cX11_ahead 2 = .ok (.invokevirtual 307, 3) by decide +kernel) ?_
  rintro _ _ ⟨x, σ', rfl, rfl, hq⟩ _
  exact (k x σ' hq)
theorem S_X11_ahead_5 {G : am_G} {d : Nat} {Q : Int → am_D → Prop} {σ : am_D} {v1 : Int} {v2 : Int} {s0 : Int} (hr1 : -2147483648 ≤ s0 ∧ s0 ≤ 2147483647) (k1 : s0 = 0 → am_X (am_FI G (d + 1) Q) mX11_ahead (0, 0) 16 [none, none, none] [] (am_K0, σ)) (k2 : ¬ (s0 = 0) → am_X (am_FI G (d + 1) Q) mX11_ahead (0, 0) 8 [some (am_r (some 91)), some (am_i v1), some (am_i v2)] [] (am_K0, σ)) : am_X (am_FI G (d + 1) Q) mX11_ahead (0, 0) 5 [some (am_r (some 91)), some (am_i v1), some (am_i v2)] [am_i s0] (am_K0, σ) := by
  refine am_r_if_eq (tg := 16) (nx := 8) (show decode cX11_ahead 5 = .ok (.ifCond .eq 11, 3) by decide +kernel) (by decide) rfl hr1 ?_ ?_
  · exact fun q => am_x_fg [0, 1, 2] (k1 q)
  · exact fun q => k2 q
theorem S_X11_ahead_8 {G : am_G} {d : Nat} {Q : Int → am_D → Prop} {σ : am_D} {v1 : Int} {v2 : Int} {Q' : Int → am_D → Prop} (hc : am_MI G d mX11_isMachine [am_r (some 91), am_i v2] σ Q') (k : ∀ (x : Int) (σ' : am_D), Q' x σ' → am_X (am_FI G (d + 1) Q) mX11_ahead (0, 0) 13 [some (am_r (some 91)), some (am_i v1), some (am_i v2)] [am_i x] (am_K0, σ')) : am_X (am_FI G (d + 1) Q) mX11_ahead (0, 0) 8 [some (am_r (some 91)), some (am_i v1), some (am_i v2)] [] (am_K0, σ) := by
  refine am_r_aload_n (nx := 9) rfl rfl (show decode cX11_ahead 8 = .ok (.aload_n 0, 1) by decide +kernel) rfl ?_
  refine am_r_iload_n (nx := 10) rfl rfl (show decode cX11_ahead 9 = .ok (.iload_n 2, 1) by decide +kernel) rfl ?_
  refine am_r_callV (as := [am_i v2]) (st := []) hc mb_X11_isMachine mv_X11_isMachine (Or.inl ml_X11_307) (ob_91) (by omega) (r := (RX11, TX11, 63)) rfl rfl rfl rfl (Nat.le_of_ble_eq_true rfl) ⟨Nat.le_refl _, Nat.le_refl _⟩ ⟨Nat.le_refl _, Nat.le_refl _⟩ (show decode cX11_ahead 10 = .ok (.invokevirtual 307, 3) by decide +kernel) ?_
  rintro _ _ ⟨x, σ', rfl, rfl, hq⟩ _
  exact (k x σ' hq)
theorem S_X11_ahead_13 {G : am_G} {d : Nat} {Q : Int → am_D → Prop} {σ : am_D} {v1 : Int} {v2 : Int} {s0 : Int} (hr1 : -2147483648 ≤ s0 ∧ s0 ≤ 2147483647) (k1 : ¬ s0 = 0 → am_X (am_FI G (d + 1) Q) mX11_ahead (0, 0) 20 [some (am_r (some 91)), some (am_i v1), some (am_i v2)] [] (am_K0, σ)) (k2 : ¬ (¬ s0 = 0) → am_X (am_FI G (d + 1) Q) mX11_ahead (0, 0) 16 [none, none, none] [] (am_K0, σ)) : am_X (am_FI G (d + 1) Q) mX11_ahead (0, 0) 13 [some (am_r (some 91)), some (am_i v1), some (am_i v2)] [am_i s0] (am_K0, σ) := by
  refine am_r_if_ne (tg := 20) (nx := 16) (show decode cX11_ahead 13 = .ok (.ifCond .ne 7, 3) by decide +kernel) (by decide) rfl hr1 ?_ ?_
  · exact fun q => k1 q
  · exact fun q => am_x_fg [0, 1, 2] (k2 q)
theorem S_X11_ahead_16 {G : am_G} {d : Nat} {Q : Int → am_D → Prop} {σ : am_D}   (k : am_X (am_FI G (d + 1) Q) mX11_ahead (0, 0) 42 [none, none, none] [am_i (-1)] (am_K0, σ)) : am_X (am_FI G (d + 1) Q) mX11_ahead (0, 0) 16 [none, none, none] [] (am_K0, σ) := by
  refine am_r_iconst (nx := 17) (show decode cX11_ahead 16 = .ok (.iconst (-1), 1) by decide +kernel) rfl ?_
  refine am_r_goto (tg := 42) (show decode cX11_ahead 17 = .ok (.goto 25, 3) by decide +kernel) (by decide) ?_
  exact k
theorem S_X11_ahead_20 {G : am_G} {d : Nat} {Q : Int → am_D → Prop} {σ : am_D} {v1 : Int} {v2 : Int} {Q' : Int → am_D → Prop} (hc : am_MI G d mX11_isReadBy [am_r (some 91), am_i v1, am_i v2, am_r (some 107), am_i (σ.1 91 25)] σ Q') (k : ∀ (x : Int) (σ' : am_D), Q' x σ' → am_X (am_FI G (d + 1) Q) mX11_ahead (0, 0) 34 [none, none, none] [am_i x] (am_K0, σ')) : am_X (am_FI G (d + 1) Q) mX11_ahead (0, 0) 20 [some (am_r (some 91)), some (am_i v1), some (am_i v2)] [] (am_K0, σ) := by
  refine am_r_aload_n (nx := 21) rfl rfl (show decode cX11_ahead 20 = .ok (.aload_n 0, 1) by decide +kernel) rfl ?_
  refine am_r_iload_n (nx := 22) rfl rfl (show decode cX11_ahead 21 = .ok (.iload_n 1, 1) by decide +kernel) rfl ?_
  refine am_r_iload_n (nx := 23) rfl rfl (show decode cX11_ahead 22 = .ok (.iload_n 2, 1) by decide +kernel) rfl ?_
  refine am_r_aload_n (nx := 24) rfl rfl (show decode cX11_ahead 23 = .ok (.aload_n 0, 1) by decide +kernel) rfl ?_
  refine am_r_getF (nx := 27) 22 cw11 (by decide) rfl (Or.inl fl_X11_57) (ob_91) (fn_91_22) (show decode cX11_ahead 24 = .ok (.getfield 57, 3) by decide +kernel) rfl ?_
  refine am_r_aload_n (nx := 28) rfl rfl (show decode cX11_ahead 27 = .ok (.aload_n 0, 1) by decide +kernel) rfl ?_
  refine am_r_getI (nx := 31) 25 cw11 (by decide) rfl (Or.inl fl_X11_299) (ob_91) (show decode cX11_ahead 28 = .ok (.getfield 299, 3) by decide +kernel) rfl ?_
  refine am_r_callV (as := [am_i v1, am_i v2, am_r (some 107), am_i (σ.1 91 25)]) (st := []) hc mb_X11_isReadBy mv_X11_isReadBy (Or.inl ml_X11_389) (ob_91) (by omega) (r := (RX11, TX11, 63)) rfl rfl rfl rfl (Nat.le_of_ble_eq_true rfl) ⟨Nat.le_refl _, Nat.le_refl _⟩ ⟨Nat.le_refl _, Nat.le_refl _⟩ (show decode cX11_ahead 31 = .ok (.invokevirtual 389, 3) by decide +kernel) ?_
  rintro _ _ ⟨x, σ', rfl, rfl, hq⟩ _
  exact am_x_fg [0, 1, 2] (k x σ' hq)
theorem S_X11_ahead_34 {G : am_G} {d : Nat} {Q : Int → am_D → Prop} {σ : am_D} {s0 : Int} (hr1 : -2147483648 ≤ s0 ∧ s0 ≤ 2147483647) (k1 : s0 = 0 → am_X (am_FI G (d + 1) Q) mX11_ahead (0, 0) 41 [none, none, none] [] (am_K0, σ)) (k2 : ¬ (s0 = 0) → am_X (am_FI G (d + 1) Q) mX11_ahead (0, 0) 37 [none, none, none] [] (am_K0, σ)) : am_X (am_FI G (d + 1) Q) mX11_ahead (0, 0) 34 [none, none, none] [am_i s0] (am_K0, σ) := by
  refine am_r_if_eq (tg := 41) (nx := 37) (show decode cX11_ahead 34 = .ok (.ifCond .eq 7, 3) by decide +kernel) (by decide) rfl hr1 ?_ ?_
  · exact fun q => k1 q
  · exact fun q => k2 q
theorem S_X11_ahead_37 {G : am_G} {d : Nat} {Q : Int → am_D → Prop} {σ : am_D}   (k : am_X (am_FI G (d + 1) Q) mX11_ahead (0, 0) 42 [none, none, none] [am_i 1] (am_K0, σ)) : am_X (am_FI G (d + 1) Q) mX11_ahead (0, 0) 37 [none, none, none] [] (am_K0, σ) := by
  refine am_r_iconst (nx := 38) (show decode cX11_ahead 37 = .ok (.iconst 1, 1) by decide +kernel) rfl ?_
  refine am_r_goto (tg := 42) (show decode cX11_ahead 38 = .ok (.goto 4, 3) by decide +kernel) (by decide) ?_
  exact k
theorem S_X11_ahead_41 {G : am_G} {d : Nat} {Q : Int → am_D → Prop} {σ : am_D}   (k : am_X (am_FI G (d + 1) Q) mX11_ahead (0, 0) 42 [none, none, none] [am_i 0] (am_K0, σ)) : am_X (am_FI G (d + 1) Q) mX11_ahead (0, 0) 41 [none, none, none] [] (am_K0, σ) := by
  refine am_r_iconst (nx := 42) (show decode cX11_ahead 41 = .ok (.iconst 0, 1) by decide +kernel) rfl ?_
  exact k
theorem S_X11_ahead_42 {G : am_G} {d : Nat} {Q : Int → am_D → Prop} {σ : am_D} {s0 : Int}  (k : Q s0 σ) : am_X (am_FI G (d + 1) Q) mX11_ahead (0, 0) 42 [none, none, none] [am_i s0] (am_K0, σ) := by
  exact am_r_iret rfl rfl (show decode cX11_ahead 42 = .ok (.ireturn, 1) by decide +kernel) ⟨_, _, rfl, rfl, k⟩
theorem S_X11_peak_0 {G : am_G} {d : Nat} {Q : Int → am_D → Prop} {σ : am_D} {v1 : Int} {Q' : Int → am_D → Prop} (hc : am_MI G d mX11_isMachine [am_r (some 91), am_i v1] σ Q') (k : ∀ (x : Int) (σ' : am_D), Q' x σ' → am_X (am_FI G (d + 1) Q) mX11_peak (0, 0) 5 [some (am_r (some 91)), some (am_i v1)] [am_i x] (am_K0, σ')) : am_X (am_FI G (d + 1) Q) mX11_peak (0, 0) 0 [some (am_r (some 91)), some (am_i v1)] [] (am_K0, σ) := by
  refine am_r_aload_n (nx := 1) rfl rfl (show decode cX11_peak 0 = .ok (.aload_n 0, 1) by decide +kernel) rfl ?_
  refine am_r_iload_n (nx := 2) rfl rfl (show decode cX11_peak 1 = .ok (.iload_n 1, 1) by decide +kernel) rfl ?_
  refine am_r_callV (as := [am_i v1]) (st := []) hc mb_X11_isMachine mv_X11_isMachine (Or.inl ml_X11_307) (ob_91) (by omega) (r := (RX11, TX11, 63)) rfl rfl rfl rfl (Nat.le_of_ble_eq_true rfl) ⟨Nat.le_refl _, Nat.le_refl _⟩ ⟨Nat.le_refl _, Nat.le_refl _⟩ (show decode cX11_peak 2 = .ok (.invokevirtual 307, 3) by decide +kernel) ?_
  rintro _ _ ⟨x, σ', rfl, rfl, hq⟩ _
  exact (k x σ' hq)
theorem S_X11_peak_5 {G : am_G} {d : Nat} {Q : Int → am_D → Prop} {σ : am_D} {v1 : Int} {s0 : Int} (hr1 : -2147483648 ≤ s0 ∧ s0 ≤ 2147483647) (k1 : s0 = 0 → am_X (am_FI G (d + 1) Q) mX11_peak (0, 0) 35 [none, none] [] (am_K0, σ)) (k2 : ¬ (s0 = 0) → am_X (am_FI G (d + 1) Q) mX11_peak (0, 0) 8 [some (am_r (some 91)), some (am_i v1)] [] (am_K0, σ)) : am_X (am_FI G (d + 1) Q) mX11_peak (0, 0) 5 [some (am_r (some 91)), some (am_i v1)] [am_i s0] (am_K0, σ) := by
  refine am_r_if_eq (tg := 35) (nx := 8) (show decode cX11_peak 5 = .ok (.ifCond .eq 30, 3) by decide +kernel) (by decide) rfl hr1 ?_ ?_
  · exact fun q => am_x_fg [0, 1] (k1 q)
  · exact fun q => k2 q
theorem S_X11_peak_8 {G : am_G} {d : Nat} {Q : Int → am_D → Prop} {σ : am_D} {v1 : Int} {Q' : Int → am_D → Prop} (hc : am_MI G d mX11_refusedAt [am_r (some 91), am_i 1, am_i v1, am_r (some 107), am_i (σ.1 91 25)] σ Q') (k : ∀ (x : Int) (σ' : am_D), Q' x σ' → am_X (am_FI G (d + 1) Q) mX11_peak (0, 0) 22 [some (am_r (some 91)), none] [am_i x] (am_K0, σ')) : am_X (am_FI G (d + 1) Q) mX11_peak (0, 0) 8 [some (am_r (some 91)), some (am_i v1)] [] (am_K0, σ) := by
  refine am_r_aload_n (nx := 9) rfl rfl (show decode cX11_peak 8 = .ok (.aload_n 0, 1) by decide +kernel) rfl ?_
  refine am_r_iconst (nx := 10) (show decode cX11_peak 9 = .ok (.iconst 1, 1) by decide +kernel) rfl ?_
  refine am_r_iload_n (nx := 11) rfl rfl (show decode cX11_peak 10 = .ok (.iload_n 1, 1) by decide +kernel) rfl ?_
  refine am_r_aload_n (nx := 12) rfl rfl (show decode cX11_peak 11 = .ok (.aload_n 0, 1) by decide +kernel) rfl ?_
  refine am_r_getF (nx := 15) 22 cw11 (by decide) rfl (Or.inl fl_X11_57) (ob_91) (fn_91_22) (show decode cX11_peak 12 = .ok (.getfield 57, 3) by decide +kernel) rfl ?_
  refine am_r_aload_n (nx := 16) rfl rfl (show decode cX11_peak 15 = .ok (.aload_n 0, 1) by decide +kernel) rfl ?_
  refine am_r_getI (nx := 19) 25 cw11 (by decide) rfl (Or.inl fl_X11_299) (ob_91) (show decode cX11_peak 16 = .ok (.getfield 299, 3) by decide +kernel) rfl ?_
  refine am_r_callV (as := [am_i 1, am_i v1, am_r (some 107), am_i (σ.1 91 25)]) (st := []) hc mb_X11_refusedAt mv_X11_refusedAt (Or.inl ml_X11_382) (ob_91) (by omega) (r := (RX11, TX11, 63)) rfl rfl rfl rfl (Nat.le_of_ble_eq_true rfl) ⟨Nat.le_refl _, Nat.le_refl _⟩ ⟨Nat.le_refl _, Nat.le_refl _⟩ (show decode cX11_peak 19 = .ok (.invokevirtual 382, 3) by decide +kernel) ?_
  rintro _ _ ⟨x, σ', rfl, rfl, hq⟩ _
  exact am_x_fg [1] (k x σ' hq)
theorem S_X11_peak_22 {G : am_G} {d : Nat} {Q : Int → am_D → Prop} {σ : am_D} {s0 : Int} (hr1 : -2147483648 ≤ s0 ∧ s0 ≤ 2147483647) (k1 : ¬ s0 = (-1) → am_X (am_FI G (d + 1) Q) mX11_peak (0, 0) 35 [none, none] [] (am_K0, σ)) (k2 : ¬ (¬ s0 = (-1)) → am_X (am_FI G (d + 1) Q) mX11_peak (0, 0) 26 [some (am_r (some 91)), none] [] (am_K0, σ)) : am_X (am_FI G (d + 1) Q) mX11_peak (0, 0) 22 [some (am_r (some 91)), none] [am_i s0] (am_K0, σ) := by
  refine am_r_iconst (nx := 23) (show decode cX11_peak 22 = .ok (.iconst (-1), 1) by decide +kernel) rfl ?_
  refine am_r_icmp_ne (tg := 35) (nx := 26) (show decode cX11_peak 23 = .ok (.if_icmp .ne 12, 3) by decide +kernel) (by decide) rfl hr1 (by omega) ?_ ?_
  · exact fun q => am_x_fg [0] (k1 q)
  · exact fun q => k2 q
theorem S_X11_peak_26 {G : am_G} {d : Nat} {Q : Int → am_D → Prop} {σ : am_D}   (k : am_X (am_FI G (d + 1) Q) mX11_peak (0, 0) 36 [none, none] [am_i (σ.1 115 1)] (am_K0, σ)) : am_X (am_FI G (d + 1) Q) mX11_peak (0, 0) 26 [some (am_r (some 91)), none] [] (am_K0, σ) := by
  refine am_r_aload_n (nx := 27) rfl rfl (show decode cX11_peak 26 = .ok (.aload_n 0, 1) by decide +kernel) rfl ?_
  refine am_r_getF (nx := 30) 34 cw11 (by decide) rfl (Or.inl fl_X11_81) (ob_91) (fn_91_34) (show decode cX11_peak 27 = .ok (.getfield 81, 3) by decide +kernel) rfl ?_
  refine am_r_iconst (nx := 31) (show decode cX11_peak 30 = .ok (.iconst 1, 1) by decide +kernel) rfl ?_
  refine am_r_iald (nx := 32) (sh_115) (am_shle (sh_115)) (by omega) (by omega) (show decode cX11_peak 31 = .ok (.iaload, 1) by decide +kernel) rfl ?_
  refine am_r_goto (tg := 36) (show decode cX11_peak 32 = .ok (.goto 4, 3) by decide +kernel) (by decide) ?_
  exact am_x_fg [0] k
theorem S_X11_peak_35 {G : am_G} {d : Nat} {Q : Int → am_D → Prop} {σ : am_D}   (k : am_X (am_FI G (d + 1) Q) mX11_peak (0, 0) 36 [none, none] [am_i (-1)] (am_K0, σ)) : am_X (am_FI G (d + 1) Q) mX11_peak (0, 0) 35 [none, none] [] (am_K0, σ) := by
  refine am_r_iconst (nx := 36) (show decode cX11_peak 35 = .ok (.iconst (-1), 1) by decide +kernel) rfl ?_
  exact k
theorem S_X11_peak_36 {G : am_G} {d : Nat} {Q : Int → am_D → Prop} {σ : am_D} {s0 : Int}  (k : Q s0 σ) : am_X (am_FI G (d + 1) Q) mX11_peak (0, 0) 36 [none, none] [am_i s0] (am_K0, σ) := by
  exact am_r_iret rfl rfl (show decode cX11_peak 36 = .ok (.ireturn, 1) by decide +kernel) ⟨_, _, rfl, rfl, k⟩
theorem S_X11_bound_0 {G : am_G} {d : Nat} {Q : Int → am_D → Prop} {σ : am_D} {v1 : Int} {v2 : Int} {Q' : Int → am_D → Prop} (hc : am_MI G d mX11_isMachine [am_r (some 91), am_i v1] σ Q') (k : ∀ (x : Int) (σ' : am_D), Q' x σ' → am_X (am_FI G (d + 1) Q) mX11_bound (0, 0) 5 [some (am_r (some 91)), some (am_i v1), some (am_i v2)] [am_i x] (am_K0, σ')) : am_X (am_FI G (d + 1) Q) mX11_bound (0, 0) 0 [some (am_r (some 91)), some (am_i v1), some (am_i v2)] [] (am_K0, σ) := by
  refine am_r_aload_n (nx := 1) rfl rfl (show decode cX11_bound 0 = .ok (.aload_n 0, 1) by decide +kernel) rfl ?_
  refine am_r_iload_n (nx := 2) rfl rfl (show decode cX11_bound 1 = .ok (.iload_n 1, 1) by decide +kernel) rfl ?_
  refine am_r_callV (as := [am_i v1]) (st := []) hc mb_X11_isMachine mv_X11_isMachine (Or.inl ml_X11_307) (ob_91) (by omega) (r := (RX11, TX11, 63)) rfl rfl rfl rfl (Nat.le_of_ble_eq_true rfl) ⟨Nat.le_refl _, Nat.le_refl _⟩ ⟨Nat.le_refl _, Nat.le_refl _⟩ (show decode cX11_bound 2 = .ok (.invokevirtual 307, 3) by decide +kernel) ?_
  rintro _ _ ⟨x, σ', rfl, rfl, hq⟩ _
  exact (k x σ' hq)
theorem S_X11_bound_5 {G : am_G} {d : Nat} {Q : Int → am_D → Prop} {σ : am_D} {v1 : Int} {v2 : Int} {s0 : Int} (hr1 : -2147483648 ≤ s0 ∧ s0 ≤ 2147483647) (k1 : s0 = 0 → am_X (am_FI G (d + 1) Q) mX11_bound (0, 0) 39 [none, none, none] [] (am_K0, σ)) (k2 : ¬ (s0 = 0) → am_X (am_FI G (d + 1) Q) mX11_bound (0, 0) 8 [some (am_r (some 91)), some (am_i v1), some (am_i v2)] [] (am_K0, σ)) : am_X (am_FI G (d + 1) Q) mX11_bound (0, 0) 5 [some (am_r (some 91)), some (am_i v1), some (am_i v2)] [am_i s0] (am_K0, σ) := by
  refine am_r_if_eq (tg := 39) (nx := 8) (show decode cX11_bound 5 = .ok (.ifCond .eq 34, 3) by decide +kernel) (by decide) rfl hr1 ?_ ?_
  · exact fun q => am_x_fg [0, 1, 2] (k1 q)
  · exact fun q => k2 q
theorem S_X11_bound_8 {G : am_G} {d : Nat} {Q : Int → am_D → Prop} {σ : am_D} {v1 : Int} {v2 : Int} {Q' : Int → am_D → Prop} (hc : am_MI G d mX11_isIn [am_i v2, am_i 0, am_i 1000] σ Q') (k : ∀ (x : Int) (σ' : am_D), Q' x σ' → am_X (am_FI G (d + 1) Q) mX11_bound (0, 0) 16 [some (am_r (some 91)), some (am_i v1), some (am_i v2)] [am_i x] (am_K0, σ')) : am_X (am_FI G (d + 1) Q) mX11_bound (0, 0) 8 [some (am_r (some 91)), some (am_i v1), some (am_i v2)] [] (am_K0, σ) := by
  refine am_r_iload_n (nx := 9) rfl rfl (show decode cX11_bound 8 = .ok (.iload_n 2, 1) by decide +kernel) rfl ?_
  refine am_r_iconst (nx := 10) (show decode cX11_bound 9 = .ok (.iconst 0, 1) by decide +kernel) rfl ?_
  refine am_r_sipush (nx := 13) rfl (show decode cX11_bound 10 = .ok (.sipush 1000, 3) by decide +kernel) rfl ?_
  refine am_r_callS (as := [am_i v2, am_i 0, am_i 1000]) (st := []) hc mb_X11_isIn mv_X11_isIn (Or.inl ml_X11_156) rfl rfl (Nat.le_of_ble_eq_true rfl) ⟨Nat.le_refl _, Nat.le_refl _⟩ ⟨Nat.le_refl _, Nat.le_refl _⟩ (show decode cX11_bound 13 = .ok (.invokestatic 156, 3) by decide +kernel) ?_
  rintro _ _ ⟨x, σ', rfl, rfl, hq⟩ _
  exact (k x σ' hq)
theorem S_X11_bound_16 {G : am_G} {d : Nat} {Q : Int → am_D → Prop} {σ : am_D} {v1 : Int} {v2 : Int} {s0 : Int} (hr1 : -2147483648 ≤ s0 ∧ s0 ≤ 2147483647) (k1 : s0 = 0 → am_X (am_FI G (d + 1) Q) mX11_bound (0, 0) 39 [none, none, none] [] (am_K0, σ)) (k2 : ¬ (s0 = 0) → am_X (am_FI G (d + 1) Q) mX11_bound (0, 0) 19 [some (am_r (some 91)), some (am_i v1), some (am_i v2)] [] (am_K0, σ)) : am_X (am_FI G (d + 1) Q) mX11_bound (0, 0) 16 [some (am_r (some 91)), some (am_i v1), some (am_i v2)] [am_i s0] (am_K0, σ) := by
  refine am_r_if_eq (tg := 39) (nx := 19) (show decode cX11_bound 16 = .ok (.ifCond .eq 23, 3) by decide +kernel) (by decide) rfl hr1 ?_ ?_
  · exact fun q => am_x_fg [0, 1, 2] (k1 q)
  · exact fun q => k2 q
theorem S_X11_bound_19 {G : am_G} {d : Nat} {Q : Int → am_D → Prop} {σ : am_D} {v1 : Int} {v2 : Int} {Q' : Int → am_D → Prop} (hc : am_MI G d mX11_mostOwn [am_r (some 91), am_i v1, am_i 1, am_i 0] σ Q') (k : ∀ (x : Int) (σ' : am_D), Q' x σ' → am_X (am_FI G (d + 1) Q) mX11_bound (0, 0) 27 [some (am_r (some 91)), some (am_i v1), none] [am_i x, am_i v2] (am_K0, σ')) : am_X (am_FI G (d + 1) Q) mX11_bound (0, 0) 19 [some (am_r (some 91)), some (am_i v1), some (am_i v2)] [] (am_K0, σ) := by
  refine am_r_iload_n (nx := 20) rfl rfl (show decode cX11_bound 19 = .ok (.iload_n 2, 1) by decide +kernel) rfl ?_
  refine am_r_aload_n (nx := 21) rfl rfl (show decode cX11_bound 20 = .ok (.aload_n 0, 1) by decide +kernel) rfl ?_
  refine am_r_iload_n (nx := 22) rfl rfl (show decode cX11_bound 21 = .ok (.iload_n 1, 1) by decide +kernel) rfl ?_
  refine am_r_iconst (nx := 23) (show decode cX11_bound 22 = .ok (.iconst 1, 1) by decide +kernel) rfl ?_
  refine am_r_iconst (nx := 24) (show decode cX11_bound 23 = .ok (.iconst 0, 1) by decide +kernel) rfl ?_
  refine am_r_callV (as := [am_i v1, am_i 1, am_i 0]) (st := [am_i v2]) hc mb_X11_mostOwn mv_X11_mostOwn (Or.inl ml_X11_314) (ob_91) (by omega) (r := (RX11, TX11, 63)) rfl rfl rfl rfl (Nat.le_of_ble_eq_true rfl) ⟨Nat.le_refl _, Nat.le_refl _⟩ ⟨Nat.le_refl _, Nat.le_refl _⟩ (show decode cX11_bound 24 = .ok (.invokevirtual 314, 3) by decide +kernel) ?_
  rintro _ _ ⟨x, σ', rfl, rfl, hq⟩ _
  exact am_x_fg [2] (k x σ' hq)
theorem S_X11_bound_27 {G : am_G} {d : Nat} {Q : Int → am_D → Prop} {σ : am_D} {v1 : Int} {s0 : Int} {s1 : Int} {Q' : Int → am_D → Prop} (hc : am_MI G d mX11_mostOwn [am_r (some 91), am_i v1, am_i 0, am_i 1] σ Q') (k : ∀ (x : Int) (σ' : am_D), Q' x σ' → am_X (am_FI G (d + 1) Q) mX11_bound (0, 0) 35 [none, none, none] [am_i x, am_i (s0 * s1)] (am_K0, σ')) : am_X (am_FI G (d + 1) Q) mX11_bound (0, 0) 27 [some (am_r (some 91)), some (am_i v1), none] [am_i s1, am_i s0] (am_K0, σ) := by
  refine am_r_imul (nx := 28) (show decode cX11_bound 27 = .ok (.imul, 1) by decide +kernel) rfl ?_
  refine am_r_aload_n (nx := 29) rfl rfl (show decode cX11_bound 28 = .ok (.aload_n 0, 1) by decide +kernel) rfl ?_
  refine am_r_iload_n (nx := 30) rfl rfl (show decode cX11_bound 29 = .ok (.iload_n 1, 1) by decide +kernel) rfl ?_
  refine am_r_iconst (nx := 31) (show decode cX11_bound 30 = .ok (.iconst 0, 1) by decide +kernel) rfl ?_
  refine am_r_iconst (nx := 32) (show decode cX11_bound 31 = .ok (.iconst 1, 1) by decide +kernel) rfl ?_
  refine am_r_callV (as := [am_i v1, am_i 0, am_i 1]) (st := [am_i (s0 * s1)]) hc mb_X11_mostOwn mv_X11_mostOwn (Or.inl ml_X11_314) (ob_91) (by omega) (r := (RX11, TX11, 63)) rfl rfl rfl rfl (Nat.le_of_ble_eq_true rfl) ⟨Nat.le_refl _, Nat.le_refl _⟩ ⟨Nat.le_refl _, Nat.le_refl _⟩ (show decode cX11_bound 32 = .ok (.invokevirtual 314, 3) by decide +kernel) ?_
  rintro _ _ ⟨x, σ', rfl, rfl, hq⟩ _
  exact am_x_fg [0, 1] (k x σ' hq)
theorem S_X11_bound_35 {G : am_G} {d : Nat} {Q : Int → am_D → Prop} {σ : am_D} {s0 : Int} {s1 : Int}  (k : am_X (am_FI G (d + 1) Q) mX11_bound (0, 0) 40 [none, none, none] [am_i (s0 + s1)] (am_K0, σ)) : am_X (am_FI G (d + 1) Q) mX11_bound (0, 0) 35 [none, none, none] [am_i s1, am_i s0] (am_K0, σ) := by
  refine am_r_iadd (nx := 36) (show decode cX11_bound 35 = .ok (.iadd, 1) by decide +kernel) rfl ?_
  refine am_r_goto (tg := 40) (show decode cX11_bound 36 = .ok (.goto 4, 3) by decide +kernel) (by decide) ?_
  exact k
theorem S_X11_bound_39 {G : am_G} {d : Nat} {Q : Int → am_D → Prop} {σ : am_D}   (k : am_X (am_FI G (d + 1) Q) mX11_bound (0, 0) 40 [none, none, none] [am_i (-1)] (am_K0, σ)) : am_X (am_FI G (d + 1) Q) mX11_bound (0, 0) 39 [none, none, none] [] (am_K0, σ) := by
  refine am_r_iconst (nx := 40) (show decode cX11_bound 39 = .ok (.iconst (-1), 1) by decide +kernel) rfl ?_
  exact k
theorem S_X11_bound_40 {G : am_G} {d : Nat} {Q : Int → am_D → Prop} {σ : am_D} {s0 : Int}  (k : Q s0 σ) : am_X (am_FI G (d + 1) Q) mX11_bound (0, 0) 40 [none, none, none] [am_i s0] (am_K0, σ) := by
  exact am_r_iret rfl rfl (show decode cX11_bound 40 = .ok (.ireturn, 1) by decide +kernel) ⟨_, _, rfl, rfl, k⟩
theorem S_X11_laysLeast_0 {G : am_G} {d : Nat} {Q : am_D → Prop} {σ : am_D} {v1 : Int}  (k : am_X (am_FV G (d + 1) Q) mX11_laysLeast (0, 0) 2 [some (am_r (some 91)), some (am_i v1), some (am_i 0), none, none, none] [] (am_K0, σ)) : am_X (am_FV G (d + 1) Q) mX11_laysLeast (0, 0) 0 [some (am_r (some 91)), some (am_i v1), none, none, none, none] [] (am_K0, σ) := by
  refine am_r_iconst (nx := 1) (show decode cX11_laysLeast 0 = .ok (.iconst 0, 1) by decide +kernel) rfl ?_
  refine am_r_istore_n (nx := 2) rfl (by decide) rfl (show decode cX11_laysLeast 1 = .ok (.istore_n 2, 1) by decide +kernel) rfl ?_
  exact k
theorem S_X11_laysLeast_2 {G : am_G} {d : Nat} {Q : am_D → Prop} {σ : am_D} {v1 : Int} {v2 : Int} (hr1 : -2147483648 ≤ v2 ∧ v2 ≤ 2147483647) (k1 : 6 ≤ v2 → am_X (am_FV G (d + 1) Q) mX11_laysLeast (0, 0) 51 [some (am_r (some 91)), some (am_i v1), none, none, none, none] [] (am_K0, σ)) (k2 : ¬ (6 ≤ v2) → am_X (am_FV G (d + 1) Q) mX11_laysLeast (0, 0) 8 [some (am_r (some 91)), some (am_i v1), some (am_i v2), none, none, none] [] (am_K0, σ)) : am_X (am_FV G (d + 1) Q) mX11_laysLeast (0, 0) 2 [some (am_r (some 91)), some (am_i v1), some (am_i v2), none, none, none] [] (am_K0, σ) := by
  refine am_r_iload_n (nx := 3) rfl rfl (show decode cX11_laysLeast 2 = .ok (.iload_n 2, 1) by decide +kernel) rfl ?_
  refine am_r_bipush (nx := 5) rfl (show decode cX11_laysLeast 3 = .ok (.bipush 6, 2) by decide +kernel) rfl ?_
  refine am_r_icmp_ge (tg := 51) (nx := 8) (show decode cX11_laysLeast 5 = .ok (.if_icmp .ge 46, 3) by decide +kernel) (by decide) rfl hr1 (by omega) ?_ ?_
  · exact fun q => am_x_fg [2] (k1 q)
  · exact fun q => k2 q
theorem S_X11_laysLeast_8 {G : am_G} {d : Nat} {Q : am_D → Prop} {σ : am_D} {v1 : Int} {v2 : Int}  (k : am_X (am_FV G (d + 1) Q) mX11_laysLeast (0, 0) 10 [some (am_r (some 91)), some (am_i v1), some (am_i v2), some (am_i 0), none, none] [] (am_K0, σ)) : am_X (am_FV G (d + 1) Q) mX11_laysLeast (0, 0) 8 [some (am_r (some 91)), some (am_i v1), some (am_i v2), none, none, none] [] (am_K0, σ) := by
  refine am_r_iconst (nx := 9) (show decode cX11_laysLeast 8 = .ok (.iconst 0, 1) by decide +kernel) rfl ?_
  refine am_r_istore_n (nx := 10) rfl (by decide) rfl (show decode cX11_laysLeast 9 = .ok (.istore_n 3, 1) by decide +kernel) rfl ?_
  exact k
theorem S_X11_laysLeast_10 {G : am_G} {d : Nat} {Q : am_D → Prop} {σ : am_D} {v1 : Int} {v2 : Int} {v3 : Int} (hr1 : -2147483648 ≤ v3 ∧ v3 ≤ 2147483647) (k1 : 6 ≤ v3 → am_X (am_FV G (d + 1) Q) mX11_laysLeast (0, 0) 45 [some (am_r (some 91)), some (am_i v1), some (am_i v2), none, none, none] [] (am_K0, σ)) (k2 : ¬ (6 ≤ v3) → am_X (am_FV G (d + 1) Q) mX11_laysLeast (0, 0) 16 [some (am_r (some 91)), some (am_i v1), some (am_i v2), some (am_i v3), none, none] [] (am_K0, σ)) : am_X (am_FV G (d + 1) Q) mX11_laysLeast (0, 0) 10 [some (am_r (some 91)), some (am_i v1), some (am_i v2), some (am_i v3), none, none] [] (am_K0, σ) := by
  refine am_r_iload_n (nx := 11) rfl rfl (show decode cX11_laysLeast 10 = .ok (.iload_n 3, 1) by decide +kernel) rfl ?_
  refine am_r_bipush (nx := 13) rfl (show decode cX11_laysLeast 11 = .ok (.bipush 6, 2) by decide +kernel) rfl ?_
  refine am_r_icmp_ge (tg := 45) (nx := 16) (show decode cX11_laysLeast 13 = .ok (.if_icmp .ge 32, 3) by decide +kernel) (by decide) rfl hr1 (by omega) ?_ ?_
  · exact fun q => am_x_fg [3] (k1 q)
  · exact fun q => k2 q
theorem S_X11_laysLeast_16 {G : am_G} {d : Nat} {Q : am_D → Prop} {σ : am_D} {v1 : Int} {v2 : Int} {v3 : Int} (hr1 : -2147483648 ≤ v2 ∧ v2 ≤ 2147483647) (hr2 : -2147483648 ≤ v3 ∧ v3 ≤ 2147483647) (k1 : ¬ v2 = v3 → am_X (am_FV G (d + 1) Q) mX11_laysLeast (0, 0) 35 [some (am_r (some 91)), some (am_i v1), some (am_i v2), some (am_i v3), none, none] [am_i ((6 * v2) + v3), am_r (some 129)] (am_K0, σ)) (k2 : ¬ (¬ v2 = v3) → am_X (am_FV G (d + 1) Q) mX11_laysLeast (0, 0) 31 [some (am_r (some 91)), some (am_i v1), some (am_i v2), some (am_i v3), none, none] [am_i ((6 * v2) + v3), am_r (some 129)] (am_K0, σ)) : am_X (am_FV G (d + 1) Q) mX11_laysLeast (0, 0) 16 [some (am_r (some 91)), some (am_i v1), some (am_i v2), some (am_i v3), none, none] [] (am_K0, σ) := by
  refine am_r_aload_n (nx := 17) rfl rfl (show decode cX11_laysLeast 16 = .ok (.aload_n 0, 1) by decide +kernel) rfl ?_
  refine am_r_getF (nx := 20) 55 cw11 (by decide) rfl (Or.inl fl_X11_123) (ob_91) (fn_91_55) (show decode cX11_laysLeast 17 = .ok (.getfield 123, 3) by decide +kernel) rfl ?_
  refine am_r_bipush (nx := 22) rfl (show decode cX11_laysLeast 20 = .ok (.bipush 6, 2) by decide +kernel) rfl ?_
  refine am_r_iload_n (nx := 23) rfl rfl (show decode cX11_laysLeast 22 = .ok (.iload_n 2, 1) by decide +kernel) rfl ?_
  refine am_r_imul (nx := 24) (show decode cX11_laysLeast 23 = .ok (.imul, 1) by decide +kernel) rfl ?_
  refine am_r_iload_n (nx := 25) rfl rfl (show decode cX11_laysLeast 24 = .ok (.iload_n 3, 1) by decide +kernel) rfl ?_
  refine am_r_iadd (nx := 26) (show decode cX11_laysLeast 25 = .ok (.iadd, 1) by decide +kernel) rfl ?_
  refine am_r_iload_n (nx := 27) rfl rfl (show decode cX11_laysLeast 26 = .ok (.iload_n 2, 1) by decide +kernel) rfl ?_
  refine am_r_iload_n (nx := 28) rfl rfl (show decode cX11_laysLeast 27 = .ok (.iload_n 3, 1) by decide +kernel) rfl ?_
  refine am_r_icmp_ne (tg := 35) (nx := 31) (show decode cX11_laysLeast 28 = .ok (.if_icmp .ne 7, 3) by decide +kernel) (by decide) rfl hr1 hr2 ?_ ?_
  · exact fun q => k1 q
  · exact fun q => k2 q
theorem S_X11_laysLeast_31 {G : am_G} {d : Nat} {Q : am_D → Prop} {σ : am_D} {v1 : Int} {v2 : Int} {v3 : Int} {s1 : Int} {s0 : Option Nat}  (k : am_X (am_FV G (d + 1) Q) mX11_laysLeast (0, 0) 38 [some (am_r (some 91)), some (am_i v1), some (am_i v2), some (am_i v3), none, none] [am_l 0, am_i s1, am_r s0] (am_K0, σ)) : am_X (am_FV G (d + 1) Q) mX11_laysLeast (0, 0) 31 [some (am_r (some 91)), some (am_i v1), some (am_i v2), some (am_i v3), none, none] [am_i s1, am_r s0] (am_K0, σ) := by
  refine am_r_lconst (nx := 32) (v := 0) rfl (show decode cX11_laysLeast 31 = .ok (.lconst 0, 1) by decide +kernel) rfl ?_
  refine am_r_goto (tg := 38) (show decode cX11_laysLeast 32 = .ok (.goto 6, 3) by decide +kernel) (by decide) ?_
  exact k
theorem S_X11_laysLeast_35 {G : am_G} {d : Nat} {Q : am_D → Prop} {σ : am_D} {v1 : Int} {v2 : Int} {v3 : Int} {s1 : Int} {s0 : Option Nat}  (k : am_X (am_FV G (d + 1) Q) mX11_laysLeast (0, 0) 38 [some (am_r (some 91)), some (am_i v1), some (am_i v2), some (am_i v3), none, none] [am_l 1152921504606846976, am_i s1, am_r s0] (am_K0, σ)) : am_X (am_FV G (d + 1) Q) mX11_laysLeast (0, 0) 35 [some (am_r (some 91)), some (am_i v1), some (am_i v2), some (am_i v3), none, none] [am_i s1, am_r s0] (am_K0, σ) := by
  refine am_r_ldc2 (nx := 38) (n := 1152921504606846976) (am_mt 1448 (by decide +kernel) rfl) (show decode cX11_laysLeast 35 = .ok (.ldc2_w 393, 3) by decide +kernel) rfl ?_
  exact k
theorem S_X11_laysLeast_38 {G : am_G} {d : Nat} {Q : am_D → Prop} {σ : am_D} {v1 : Int} {v2 : Int} {v3 : Int} {s1 : Int} {s2 : Int64} {s0 : Nat} {n1 : Nat} (hs2 : am_sh am_SH s0 = (103, n1)) (hi3 : 0 ≤ s1) (hj4 : s1 < ((n1 : Nat) : Int)) (k : am_X (am_FV G (d + 1) Q) mX11_laysLeast (0, 0) 39 [some (am_r (some 91)), some (am_i v1), some (am_i v2), some (am_i v3), none, none] [] (am_K0, (am_pJ σ s0 s1 s2))) : am_X (am_FV G (d + 1) Q) mX11_laysLeast (0, 0) 38 [some (am_r (some 91)), some (am_i v1), some (am_i v2), some (am_i v3), none, none] [am_l s2, am_i s1, am_r (some s0)] (am_K0, σ) := by
  refine am_r_last (nx := 39) (hs2) (am_shle (hs2)) hi3 hj4 (show decode cX11_laysLeast 38 = .ok (.lastore, 1) by decide +kernel) rfl ?_
  exact k
theorem S_X11_laysLeast_39 {G : am_G} {d : Nat} {Q : am_D → Prop} {σ : am_D} {v1 : Int} {v2 : Int} {v3 : Int}  (k : am_X (am_FV G (d + 1) Q) mX11_laysLeast (0, 0) 10 [some (am_r (some 91)), some (am_i v1), some (am_i v2), some (am_i (v3 + 1)), none, none] [] (am_K0, σ)) : am_X (am_FV G (d + 1) Q) mX11_laysLeast (0, 0) 39 [some (am_r (some 91)), some (am_i v1), some (am_i v2), some (am_i v3), none, none] [] (am_K0, σ) := by
  refine am_r_iinc (nx := 42) rfl rfl (show decode cX11_laysLeast 39 = .ok (.iinc 3 1, 3) by decide +kernel) rfl ?_
  refine am_r_goto (tg := 10) (show decode cX11_laysLeast 42 = .ok (.goto (-32), 3) by decide +kernel) (by decide) ?_
  exact k
theorem S_X11_laysLeast_45 {G : am_G} {d : Nat} {Q : am_D → Prop} {σ : am_D} {v1 : Int} {v2 : Int}  (k : am_X (am_FV G (d + 1) Q) mX11_laysLeast (0, 0) 2 [some (am_r (some 91)), some (am_i v1), some (am_i (v2 + 1)), none, none, none] [] (am_K0, σ)) : am_X (am_FV G (d + 1) Q) mX11_laysLeast (0, 0) 45 [some (am_r (some 91)), some (am_i v1), some (am_i v2), none, none, none] [] (am_K0, σ) := by
  refine am_r_iinc (nx := 48) rfl rfl (show decode cX11_laysLeast 45 = .ok (.iinc 2 1, 3) by decide +kernel) rfl ?_
  refine am_r_goto (tg := 2) (show decode cX11_laysLeast 48 = .ok (.goto (-46), 3) by decide +kernel) (by decide) ?_
  exact k
theorem S_X11_laysLeast_51 {G : am_G} {d : Nat} {Q : am_D → Prop} {σ : am_D} {v1 : Int}  (k : am_X (am_FV G (d + 1) Q) mX11_laysLeast (0, 0) 53 [some (am_r (some 91)), some (am_i v1), some (am_i 1), none, none, none] [] (am_K0, σ)) : am_X (am_FV G (d + 1) Q) mX11_laysLeast (0, 0) 51 [some (am_r (some 91)), some (am_i v1), none, none, none, none] [] (am_K0, σ) := by
  refine am_r_iconst (nx := 52) (show decode cX11_laysLeast 51 = .ok (.iconst 1, 1) by decide +kernel) rfl ?_
  refine am_r_istore_n (nx := 53) rfl (by decide) rfl (show decode cX11_laysLeast 52 = .ok (.istore_n 2, 1) by decide +kernel) rfl ?_
  exact k
theorem S_X11_laysLeast_53 {G : am_G} {d : Nat} {Q : am_D → Prop} {σ : am_D} {v1 : Int} {v2 : Int} (hr1 : -2147483648 ≤ v2 ∧ v2 ≤ 2147483647) (k1 : v2 = 0 → am_X (am_FV G (d + 1) Q) mX11_laysLeast (0, 0) 154 [none, none, none, none, none, none] [] (am_K0, σ)) (k2 : ¬ (v2 = 0) → am_X (am_FV G (d + 1) Q) mX11_laysLeast (0, 0) 57 [some (am_r (some 91)), some (am_i v1), none, none, none, none] [] (am_K0, σ)) : am_X (am_FV G (d + 1) Q) mX11_laysLeast (0, 0) 53 [some (am_r (some 91)), some (am_i v1), some (am_i v2), none, none, none] [] (am_K0, σ) := by
  refine am_r_iload_n (nx := 54) rfl rfl (show decode cX11_laysLeast 53 = .ok (.iload_n 2, 1) by decide +kernel) rfl ?_
  refine am_r_if_eq (tg := 154) (nx := 57) (show decode cX11_laysLeast 54 = .ok (.ifCond .eq 100, 3) by decide +kernel) (by decide) rfl hr1 ?_ ?_
  · exact fun q => am_x_fg [0, 1, 2] (k1 q)
  · exact fun q => am_x_fg [2] (k2 q)
theorem S_X11_laysLeast_57 {G : am_G} {d : Nat} {Q : am_D → Prop} {σ : am_D} {v1 : Int}  (k : am_X (am_FV G (d + 1) Q) mX11_laysLeast (0, 0) 59 [some (am_r (some 91)), some (am_i v1), some (am_i 0), none, none, none] [] (am_K0, σ)) : am_X (am_FV G (d + 1) Q) mX11_laysLeast (0, 0) 57 [some (am_r (some 91)), some (am_i v1), none, none, none, none] [] (am_K0, σ) := by
  refine am_r_iconst (nx := 58) (show decode cX11_laysLeast 57 = .ok (.iconst 0, 1) by decide +kernel) rfl ?_
  refine am_r_istore_n (nx := 59) rfl (by decide) rfl (show decode cX11_laysLeast 58 = .ok (.istore_n 2, 1) by decide +kernel) rfl ?_
  exact k
theorem S_X11_laysLeast_59 {G : am_G} {d : Nat} {Q : am_D → Prop} {σ : am_D} {v1 : Int} {v2 : Int}  (k : am_X (am_FV G (d + 1) Q) mX11_laysLeast (0, 0) 61 [some (am_r (some 91)), some (am_i v1), some (am_i v2), some (am_i 0), none, none] [] (am_K0, σ)) : am_X (am_FV G (d + 1) Q) mX11_laysLeast (0, 0) 59 [some (am_r (some 91)), some (am_i v1), some (am_i v2), none, none, none] [] (am_K0, σ) := by
  refine am_r_iconst (nx := 60) (show decode cX11_laysLeast 59 = .ok (.iconst 0, 1) by decide +kernel) rfl ?_
  refine am_r_istore_n (nx := 61) rfl (by decide) rfl (show decode cX11_laysLeast 60 = .ok (.istore_n 3, 1) by decide +kernel) rfl ?_
  exact k
theorem S_X11_laysLeast_61 {G : am_G} {d : Nat} {Q : am_D → Prop} {σ : am_D} {v1 : Int} {v2 : Int} {v3 : Int} (hi1 : 0 ≤ v1) (hj2 : v1 < 6) (hr3 : -2147483648 ≤ v3 ∧ v3 ≤ 2147483647) (hr4 : -2147483648 ≤ (σ.1 94 v1) ∧ (σ.1 94 v1) ≤ 2147483647) (k1 : (σ.1 94 v1) ≤ v3 → am_X (am_FV G (d + 1) Q) mX11_laysLeast (0, 0) 151 [some (am_r (some 91)), some (am_i v1), some (am_i v2), none, none, none] [] (am_K0, σ)) (k2 : ¬ ((σ.1 94 v1) ≤ v3) → am_X (am_FV G (d + 1) Q) mX11_laysLeast (0, 0) 71 [some (am_r (some 91)), some (am_i v1), some (am_i v2), some (am_i v3), none, none] [] (am_K0, σ)) : am_X (am_FV G (d + 1) Q) mX11_laysLeast (0, 0) 61 [some (am_r (some 91)), some (am_i v1), some (am_i v2), some (am_i v3), none, none] [] (am_K0, σ) := by
  refine am_r_iload_n (nx := 62) rfl rfl (show decode cX11_laysLeast 61 = .ok (.iload_n 3, 1) by decide +kernel) rfl ?_
  refine am_r_aload_n (nx := 63) rfl rfl (show decode cX11_laysLeast 62 = .ok (.aload_n 0, 1) by decide +kernel) rfl ?_
  refine am_r_getF (nx := 66) 8 cw11 (by decide) rfl (Or.inl fl_X11_17) (ob_91) (fn_91_8) (show decode cX11_laysLeast 63 = .ok (.getfield 17, 3) by decide +kernel) rfl ?_
  refine am_r_iload_n (nx := 67) rfl rfl (show decode cX11_laysLeast 66 = .ok (.iload_n 1, 1) by decide +kernel) rfl ?_
  refine am_r_iald (nx := 68) (sh_94) (am_shle (sh_94)) hi1 hj2 (show decode cX11_laysLeast 67 = .ok (.iaload, 1) by decide +kernel) rfl ?_
  refine am_r_icmp_ge (tg := 151) (nx := 71) (show decode cX11_laysLeast 68 = .ok (.if_icmp .ge 83, 3) by decide +kernel) (by decide) rfl hr3 hr4 ?_ ?_
  · exact fun q => am_x_fg [3] (k1 q)
  · exact fun q => k2 q
theorem S_X11_laysLeast_71 {G : am_G} {d : Nat} {Q : am_D → Prop} {σ : am_D} {v1 : Int} {v2 : Int} {v3 : Int}  (k : am_X (am_FV G (d + 1) Q) mX11_laysLeast (0, 0) 74 [some (am_r (some 91)), some (am_i v1), some (am_i v2), some (am_i v3), some (am_i 0), none] [] (am_K0, σ)) : am_X (am_FV G (d + 1) Q) mX11_laysLeast (0, 0) 71 [some (am_r (some 91)), some (am_i v1), some (am_i v2), some (am_i v3), none, none] [] (am_K0, σ) := by
  refine am_r_iconst (nx := 72) (show decode cX11_laysLeast 71 = .ok (.iconst 0, 1) by decide +kernel) rfl ?_
  refine am_r_istore (nx := 74) (by decide) rfl (show decode cX11_laysLeast 72 = .ok (.istore 4, 2) by decide +kernel) rfl ?_
  exact k
theorem S_X11_laysLeast_74 {G : am_G} {d : Nat} {Q : am_D → Prop} {σ : am_D} {v1 : Int} {v2 : Int} {v3 : Int} {v4 : Int} (hr1 : -2147483648 ≤ v4 ∧ v4 ≤ 2147483647) (k1 : 3 ≤ v4 → am_X (am_FV G (d + 1) Q) mX11_laysLeast (0, 0) 145 [some (am_r (some 91)), some (am_i v1), some (am_i v2), some (am_i v3), none, none] [] (am_K0, σ)) (k2 : ¬ (3 ≤ v4) → am_X (am_FV G (d + 1) Q) mX11_laysLeast (0, 0) 80 [some (am_r (some 91)), some (am_i v1), some (am_i v2), some (am_i v3), some (am_i v4), none] [] (am_K0, σ)) : am_X (am_FV G (d + 1) Q) mX11_laysLeast (0, 0) 74 [some (am_r (some 91)), some (am_i v1), some (am_i v2), some (am_i v3), some (am_i v4), none] [] (am_K0, σ) := by
  refine am_r_iload (nx := 76) rfl (show decode cX11_laysLeast 74 = .ok (.iload 4, 2) by decide +kernel) rfl ?_
  refine am_r_iconst (nx := 77) (show decode cX11_laysLeast 76 = .ok (.iconst 3, 1) by decide +kernel) rfl ?_
  refine am_r_icmp_ge (tg := 145) (nx := 80) (show decode cX11_laysLeast 77 = .ok (.if_icmp .ge 68, 3) by decide +kernel) (by decide) rfl hr1 (by omega) ?_ ?_
  · exact fun q => am_x_fg [4] (k1 q)
  · exact fun q => k2 q
theorem S_X11_laysLeast_80 {G : am_G} {d : Nat} {Q : am_D → Prop} {σ : am_D} {v1 : Int} {v2 : Int} {v3 : Int} {v4 : Int} {Q' : Int → am_D → Prop} (hc : am_MI G d mX11_openAt [am_i v1, am_i v4, am_i v3] σ Q') (k : ∀ (x : Int) (σ' : am_D), Q' x σ' → am_X (am_FV G (d + 1) Q) mX11_laysLeast (0, 0) 91 [some (am_r (some 91)), some (am_i v1), some (am_i v2), some (am_i v3), some (am_i v4), none] [am_i x, am_r (some 98)] (am_K0, σ')) : am_X (am_FV G (d + 1) Q) mX11_laysLeast (0, 0) 80 [some (am_r (some 91)), some (am_i v1), some (am_i v2), some (am_i v3), some (am_i v4), none] [] (am_K0, σ) := by
  refine am_r_aload_n (nx := 81) rfl rfl (show decode cX11_laysLeast 80 = .ok (.aload_n 0, 1) by decide +kernel) rfl ?_
  refine am_r_getF (nx := 84) 12 cw11 (by decide) rfl (Or.inl fl_X11_30) (ob_91) (fn_91_12) (show decode cX11_laysLeast 81 = .ok (.getfield 30, 3) by decide +kernel) rfl ?_
  refine am_r_iload_n (nx := 85) rfl rfl (show decode cX11_laysLeast 84 = .ok (.iload_n 1, 1) by decide +kernel) rfl ?_
  refine am_r_iload (nx := 87) rfl (show decode cX11_laysLeast 85 = .ok (.iload 4, 2) by decide +kernel) rfl ?_
  refine am_r_iload_n (nx := 88) rfl rfl (show decode cX11_laysLeast 87 = .ok (.iload_n 3, 1) by decide +kernel) rfl ?_
  refine am_r_callS (as := [am_i v1, am_i v4, am_i v3]) (st := [am_r (some 98)]) hc mb_X11_openAt mv_X11_openAt (Or.inl ml_X11_246) rfl rfl (Nat.le_of_ble_eq_true rfl) ⟨Nat.le_refl _, Nat.le_refl _⟩ ⟨Nat.le_refl _, Nat.le_refl _⟩ (show decode cX11_laysLeast 88 = .ok (.invokestatic 246, 3) by decide +kernel) ?_
  rintro _ _ ⟨x, σ', rfl, rfl, hq⟩ _
  exact (k x σ' hq)
theorem S_X11_laysLeast_91 {G : am_G} {d : Nat} {Q : am_D → Prop} {σ : am_D} {v1 : Int} {v2 : Int} {v3 : Int} {v4 : Int} {s1 : Int} {s0 : Nat} {n1 : Nat} (hs2 : am_sh am_SH s0 = (100, n1)) (hi3 : 0 ≤ s1) (hj4 : s1 < ((n1 : Nat) : Int)) (hr5 : -2147483648 ≤ (σ.1 s0 s1) ∧ (σ.1 s0 s1) ≤ 2147483647) (k1 : (σ.1 s0 s1) = (-1) → am_X (am_FV G (d + 1) Q) mX11_laysLeast (0, 0) 139 [some (am_r (some 91)), some (am_i v1), some (am_i v2), some (am_i v3), some (am_i v4), none] [] (am_K0, σ)) (k2 : ¬ ((σ.1 s0 s1) = (-1)) → am_X (am_FV G (d + 1) Q) mX11_laysLeast (0, 0) 96 [some (am_r (some 91)), some (am_i v1), some (am_i v2), some (am_i v3), some (am_i v4), none] [] (am_K0, σ)) : am_X (am_FV G (d + 1) Q) mX11_laysLeast (0, 0) 91 [some (am_r (some 91)), some (am_i v1), some (am_i v2), some (am_i v3), some (am_i v4), none] [am_i s1, am_r (some s0)] (am_K0, σ) := by
  refine am_r_iald (nx := 92) (hs2) (am_shle (hs2)) hi3 hj4 (show decode cX11_laysLeast 91 = .ok (.iaload, 1) by decide +kernel) rfl ?_
  refine am_r_iconst (nx := 93) (show decode cX11_laysLeast 92 = .ok (.iconst (-1), 1) by decide +kernel) rfl ?_
  refine am_r_icmp_eq (tg := 139) (nx := 96) (show decode cX11_laysLeast 93 = .ok (.if_icmp .eq 46, 3) by decide +kernel) (by decide) rfl hr5 (by omega) ?_ ?_
  · exact fun q => k1 q
  · exact fun q => k2 q
theorem S_X11_laysLeast_96 {G : am_G} {d : Nat} {Q : am_D → Prop} {σ : am_D} {v1 : Int} {v2 : Int} {v3 : Int} {v4 : Int}  (k : am_X (am_FV G (d + 1) Q) mX11_laysLeast (0, 0) 99 [some (am_r (some 91)), some (am_i v1), some (am_i v2), some (am_i v3), some (am_i v4), some (am_i 0)] [] (am_K0, σ)) : am_X (am_FV G (d + 1) Q) mX11_laysLeast (0, 0) 96 [some (am_r (some 91)), some (am_i v1), some (am_i v2), some (am_i v3), some (am_i v4), none] [] (am_K0, σ) := by
  refine am_r_iconst (nx := 97) (show decode cX11_laysLeast 96 = .ok (.iconst 0, 1) by decide +kernel) rfl ?_
  refine am_r_istore (nx := 99) (by decide) rfl (show decode cX11_laysLeast 97 = .ok (.istore 5, 2) by decide +kernel) rfl ?_
  exact k
theorem S_X11_laysLeast_99 {G : am_G} {d : Nat} {Q : am_D → Prop} {σ : am_D} {v1 : Int} {v2 : Int} {v3 : Int} {v4 : Int} {v5 : Int} (hi1 : 0 ≤ v1) (hj2 : v1 < 6) (hr3 : -2147483648 ≤ v5 ∧ v5 ≤ 2147483647) (hr4 : -2147483648 ≤ (σ.1 94 v1) ∧ (σ.1 94 v1) ≤ 2147483647) (k1 : (σ.1 94 v1) ≤ v5 → am_X (am_FV G (d + 1) Q) mX11_laysLeast (0, 0) 139 [some (am_r (some 91)), some (am_i v1), some (am_i v2), some (am_i v3), some (am_i v4), none] [] (am_K0, σ)) (k2 : ¬ ((σ.1 94 v1) ≤ v5) → am_X (am_FV G (d + 1) Q) mX11_laysLeast (0, 0) 110 [some (am_r (some 91)), some (am_i v1), some (am_i v2), some (am_i v3), some (am_i v4), some (am_i v5)] [] (am_K0, σ)) : am_X (am_FV G (d + 1) Q) mX11_laysLeast (0, 0) 99 [some (am_r (some 91)), some (am_i v1), some (am_i v2), some (am_i v3), some (am_i v4), some (am_i v5)] [] (am_K0, σ) := by
  refine am_r_iload (nx := 101) rfl (show decode cX11_laysLeast 99 = .ok (.iload 5, 2) by decide +kernel) rfl ?_
  refine am_r_aload_n (nx := 102) rfl rfl (show decode cX11_laysLeast 101 = .ok (.aload_n 0, 1) by decide +kernel) rfl ?_
  refine am_r_getF (nx := 105) 8 cw11 (by decide) rfl (Or.inl fl_X11_17) (ob_91) (fn_91_8) (show decode cX11_laysLeast 102 = .ok (.getfield 17, 3) by decide +kernel) rfl ?_
  refine am_r_iload_n (nx := 106) rfl rfl (show decode cX11_laysLeast 105 = .ok (.iload_n 1, 1) by decide +kernel) rfl ?_
  refine am_r_iald (nx := 107) (sh_94) (am_shle (sh_94)) hi1 hj2 (show decode cX11_laysLeast 106 = .ok (.iaload, 1) by decide +kernel) rfl ?_
  refine am_r_icmp_ge (tg := 139) (nx := 110) (show decode cX11_laysLeast 107 = .ok (.if_icmp .ge 32, 3) by decide +kernel) (by decide) rfl hr3 hr4 ?_ ?_
  · exact fun q => am_x_fg [5] (k1 q)
  · exact fun q => k2 q
theorem S_X11_laysLeast_110 {G : am_G} {d : Nat} {Q : am_D → Prop} {σ : am_D} {v1 : Int} {v2 : Int} {v3 : Int} {v4 : Int} {v5 : Int} {Q' : Int → am_D → Prop} (hc : am_MI G d mX11_lets [am_r (some 91), am_i v1, am_i v3, am_i v4, am_i v5] σ Q') (k : ∀ (x : Int) (σ' : am_D), Q' x σ' → am_X (am_FV G (d + 1) Q) mX11_laysLeast (0, 0) 120 [some (am_r (some 91)), some (am_i v1), some (am_i v2), some (am_i v3), some (am_i v4), some (am_i v5)] [am_i x] (am_K0, σ')) : am_X (am_FV G (d + 1) Q) mX11_laysLeast (0, 0) 110 [some (am_r (some 91)), some (am_i v1), some (am_i v2), some (am_i v3), some (am_i v4), some (am_i v5)] [] (am_K0, σ) := by
  refine am_r_aload_n (nx := 111) rfl rfl (show decode cX11_laysLeast 110 = .ok (.aload_n 0, 1) by decide +kernel) rfl ?_
  refine am_r_iload_n (nx := 112) rfl rfl (show decode cX11_laysLeast 111 = .ok (.iload_n 1, 1) by decide +kernel) rfl ?_
  refine am_r_iload_n (nx := 113) rfl rfl (show decode cX11_laysLeast 112 = .ok (.iload_n 3, 1) by decide +kernel) rfl ?_
  refine am_r_iload (nx := 115) rfl (show decode cX11_laysLeast 113 = .ok (.iload 4, 2) by decide +kernel) rfl ?_
  refine am_r_iload (nx := 117) rfl (show decode cX11_laysLeast 115 = .ok (.iload 5, 2) by decide +kernel) rfl ?_
  refine am_r_callV (as := [am_i v1, am_i v3, am_i v4, am_i v5]) (st := []) hc mb_X11_lets mv_X11_lets (Or.inl ml_X11_395) (ob_91) (by omega) (r := (RX11, TX11, 63)) rfl rfl rfl rfl (Nat.le_of_ble_eq_true rfl) ⟨Nat.le_refl _, Nat.le_refl _⟩ ⟨Nat.le_refl _, Nat.le_refl _⟩ (show decode cX11_laysLeast 117 = .ok (.invokevirtual 395, 3) by decide +kernel) ?_
  rintro _ _ ⟨x, σ', rfl, rfl, hq⟩ _
  exact (k x σ' hq)
theorem S_X11_laysLeast_120 {G : am_G} {d : Nat} {Q : am_D → Prop} {σ : am_D} {v1 : Int} {v2 : Int} {v3 : Int} {v4 : Int} {v5 : Int} {s0 : Int} (hr1 : -2147483648 ≤ s0 ∧ s0 ≤ 2147483647) (k1 : ¬ s0 = 0 → am_X (am_FV G (d + 1) Q) mX11_laysLeast (0, 0) 127 [some (am_r (some 91)), some (am_i v1), none, some (am_i v3), some (am_i v4), some (am_i v5)] [] (am_K0, σ)) (k2 : ¬ (¬ s0 = 0) → am_X (am_FV G (d + 1) Q) mX11_laysLeast (0, 0) 123 [some (am_r (some 91)), some (am_i v1), some (am_i v2), some (am_i v3), some (am_i v4), some (am_i v5)] [] (am_K0, σ)) : am_X (am_FV G (d + 1) Q) mX11_laysLeast (0, 0) 120 [some (am_r (some 91)), some (am_i v1), some (am_i v2), some (am_i v3), some (am_i v4), some (am_i v5)] [am_i s0] (am_K0, σ) := by
  refine am_r_if_ne (tg := 127) (nx := 123) (show decode cX11_laysLeast 120 = .ok (.ifCond .ne 7, 3) by decide +kernel) (by decide) rfl hr1 ?_ ?_
  · exact fun q => am_x_fg [2] (k1 q)
  · exact fun q => k2 q
theorem S_X11_laysLeast_123 {G : am_G} {d : Nat} {Q : am_D → Prop} {σ : am_D} {v1 : Int} {v2 : Int} {v3 : Int} {v4 : Int} {v5 : Int} (hr1 : -2147483648 ≤ v2 ∧ v2 ≤ 2147483647) (k1 : v2 = 0 → am_X (am_FV G (d + 1) Q) mX11_laysLeast (0, 0) 131 [some (am_r (some 91)), some (am_i v1), none, some (am_i v3), some (am_i v4), some (am_i v5)] [] (am_K0, σ)) (k2 : ¬ (v2 = 0) → am_X (am_FV G (d + 1) Q) mX11_laysLeast (0, 0) 127 [some (am_r (some 91)), some (am_i v1), none, some (am_i v3), some (am_i v4), some (am_i v5)] [] (am_K0, σ)) : am_X (am_FV G (d + 1) Q) mX11_laysLeast (0, 0) 123 [some (am_r (some 91)), some (am_i v1), some (am_i v2), some (am_i v3), some (am_i v4), some (am_i v5)] [] (am_K0, σ) := by
  refine am_r_iload_n (nx := 124) rfl rfl (show decode cX11_laysLeast 123 = .ok (.iload_n 2, 1) by decide +kernel) rfl ?_
  refine am_r_if_eq (tg := 131) (nx := 127) (show decode cX11_laysLeast 124 = .ok (.ifCond .eq 7, 3) by decide +kernel) (by decide) rfl hr1 ?_ ?_
  · exact fun q => am_x_fg [2] (k1 q)
  · exact fun q => am_x_fg [2] (k2 q)
theorem S_X11_laysLeast_127 {G : am_G} {d : Nat} {Q : am_D → Prop} {σ : am_D} {v1 : Int} {v3 : Int} {v4 : Int} {v5 : Int}  (k : am_X (am_FV G (d + 1) Q) mX11_laysLeast (0, 0) 132 [some (am_r (some 91)), some (am_i v1), none, some (am_i v3), some (am_i v4), some (am_i v5)] [am_i 1] (am_K0, σ)) : am_X (am_FV G (d + 1) Q) mX11_laysLeast (0, 0) 127 [some (am_r (some 91)), some (am_i v1), none, some (am_i v3), some (am_i v4), some (am_i v5)] [] (am_K0, σ) := by
  refine am_r_iconst (nx := 128) (show decode cX11_laysLeast 127 = .ok (.iconst 1, 1) by decide +kernel) rfl ?_
  refine am_r_goto (tg := 132) (show decode cX11_laysLeast 128 = .ok (.goto 4, 3) by decide +kernel) (by decide) ?_
  exact k
theorem S_X11_laysLeast_131 {G : am_G} {d : Nat} {Q : am_D → Prop} {σ : am_D} {v1 : Int} {v3 : Int} {v4 : Int} {v5 : Int}  (k : am_X (am_FV G (d + 1) Q) mX11_laysLeast (0, 0) 132 [some (am_r (some 91)), some (am_i v1), none, some (am_i v3), some (am_i v4), some (am_i v5)] [am_i 0] (am_K0, σ)) : am_X (am_FV G (d + 1) Q) mX11_laysLeast (0, 0) 131 [some (am_r (some 91)), some (am_i v1), none, some (am_i v3), some (am_i v4), some (am_i v5)] [] (am_K0, σ) := by
  refine am_r_iconst (nx := 132) (show decode cX11_laysLeast 131 = .ok (.iconst 0, 1) by decide +kernel) rfl ?_
  exact k
theorem S_X11_laysLeast_132 {G : am_G} {d : Nat} {Q : am_D → Prop} {σ : am_D} {v1 : Int} {v3 : Int} {v4 : Int} {v5 : Int} {s0 : Int}  (k : am_X (am_FV G (d + 1) Q) mX11_laysLeast (0, 0) 133 [some (am_r (some 91)), some (am_i v1), some (am_i s0), some (am_i v3), some (am_i v4), some (am_i v5)] [] (am_K0, σ)) : am_X (am_FV G (d + 1) Q) mX11_laysLeast (0, 0) 132 [some (am_r (some 91)), some (am_i v1), none, some (am_i v3), some (am_i v4), some (am_i v5)] [am_i s0] (am_K0, σ) := by
  refine am_r_istore_n (nx := 133) rfl (by decide) rfl (show decode cX11_laysLeast 132 = .ok (.istore_n 2, 1) by decide +kernel) rfl ?_
  exact k
theorem S_X11_laysLeast_133 {G : am_G} {d : Nat} {Q : am_D → Prop} {σ : am_D} {v1 : Int} {v2 : Int} {v3 : Int} {v4 : Int} {v5 : Int}  (k : am_X (am_FV G (d + 1) Q) mX11_laysLeast (0, 0) 99 [some (am_r (some 91)), some (am_i v1), some (am_i v2), some (am_i v3), some (am_i v4), some (am_i (v5 + 1))] [] (am_K0, σ)) : am_X (am_FV G (d + 1) Q) mX11_laysLeast (0, 0) 133 [some (am_r (some 91)), some (am_i v1), some (am_i v2), some (am_i v3), some (am_i v4), some (am_i v5)] [] (am_K0, σ) := by
  refine am_r_iinc (nx := 136) rfl rfl (show decode cX11_laysLeast 133 = .ok (.iinc 5 1, 3) by decide +kernel) rfl ?_
  refine am_r_goto (tg := 99) (show decode cX11_laysLeast 136 = .ok (.goto (-37), 3) by decide +kernel) (by decide) ?_
  exact k
theorem S_X11_laysLeast_139 {G : am_G} {d : Nat} {Q : am_D → Prop} {σ : am_D} {v1 : Int} {v2 : Int} {v3 : Int} {v4 : Int}  (k : am_X (am_FV G (d + 1) Q) mX11_laysLeast (0, 0) 74 [some (am_r (some 91)), some (am_i v1), some (am_i v2), some (am_i v3), some (am_i (v4 + 1)), none] [] (am_K0, σ)) : am_X (am_FV G (d + 1) Q) mX11_laysLeast (0, 0) 139 [some (am_r (some 91)), some (am_i v1), some (am_i v2), some (am_i v3), some (am_i v4), none] [] (am_K0, σ) := by
  refine am_r_iinc (nx := 142) rfl rfl (show decode cX11_laysLeast 139 = .ok (.iinc 4 1, 3) by decide +kernel) rfl ?_
  refine am_r_goto (tg := 74) (show decode cX11_laysLeast 142 = .ok (.goto (-68), 3) by decide +kernel) (by decide) ?_
  exact k
theorem S_X11_laysLeast_145 {G : am_G} {d : Nat} {Q : am_D → Prop} {σ : am_D} {v1 : Int} {v2 : Int} {v3 : Int}  (k : am_X (am_FV G (d + 1) Q) mX11_laysLeast (0, 0) 61 [some (am_r (some 91)), some (am_i v1), some (am_i v2), some (am_i (v3 + 1)), none, none] [] (am_K0, σ)) : am_X (am_FV G (d + 1) Q) mX11_laysLeast (0, 0) 145 [some (am_r (some 91)), some (am_i v1), some (am_i v2), some (am_i v3), none, none] [] (am_K0, σ) := by
  refine am_r_iinc (nx := 148) rfl rfl (show decode cX11_laysLeast 145 = .ok (.iinc 3 1, 3) by decide +kernel) rfl ?_
  refine am_r_goto (tg := 61) (show decode cX11_laysLeast 148 = .ok (.goto (-87), 3) by decide +kernel) (by decide) ?_
  exact k
theorem S_X11_laysLeast_151 {G : am_G} {d : Nat} {Q : am_D → Prop} {σ : am_D} {v1 : Int} {v2 : Int}  (k : am_X (am_FV G (d + 1) Q) mX11_laysLeast (0, 0) 53 [some (am_r (some 91)), some (am_i v1), some (am_i v2), none, none, none] [] (am_K0, σ)) : am_X (am_FV G (d + 1) Q) mX11_laysLeast (0, 0) 151 [some (am_r (some 91)), some (am_i v1), some (am_i v2), none, none, none] [] (am_K0, σ) := by
  refine am_r_goto (tg := 53) (show decode cX11_laysLeast 151 = .ok (.goto (-98), 3) by decide +kernel) (by decide) ?_
  exact k
theorem S_X11_laysLeast_154 {G : am_G} {d : Nat} {Q : am_D → Prop} {σ : am_D}   (k : Q σ) : am_X (am_FV G (d + 1) Q) mX11_laysLeast (0, 0) 154 [none, none, none, none, none, none] [] (am_K0, σ) := by
  exact am_r_vret rfl (show decode cX11_laysLeast 154 = .ok (.return_, 1) by decide +kernel) ⟨_, rfl, rfl, k⟩
theorem S_X11_lets_0 {G : am_G} {d : Nat} {Q : Int → am_D → Prop} {σ : am_D} {v1 : Int} {v2 : Int} {v3 : Int} {v4 : Int} {Q' : Int → am_D → Prop} (hc : am_MI G d mX11_openAt [am_i v1, am_i v3, am_i v2] σ Q') (k : ∀ (x : Int) (σ' : am_D), Q' x σ' → am_X (am_FI G (d + 1) Q) mX11_lets (0, 0) 8 [some (am_r (some 91)), some (am_i v1), some (am_i v2), some (am_i v3), some (am_i v4), some (am_i x), none, none, none, none, none] [] (am_K0, σ')) : am_X (am_FI G (d + 1) Q) mX11_lets (0, 0) 0 [some (am_r (some 91)), some (am_i v1), some (am_i v2), some (am_i v3), some (am_i v4), none, none, none, none, none, none] [] (am_K0, σ) := by
  refine am_r_iload_n (nx := 1) rfl rfl (show decode cX11_lets 0 = .ok (.iload_n 1, 1) by decide +kernel) rfl ?_
  refine am_r_iload_n (nx := 2) rfl rfl (show decode cX11_lets 1 = .ok (.iload_n 3, 1) by decide +kernel) rfl ?_
  refine am_r_iload_n (nx := 3) rfl rfl (show decode cX11_lets 2 = .ok (.iload_n 2, 1) by decide +kernel) rfl ?_
  refine am_r_callS (as := [am_i v1, am_i v3, am_i v2]) (st := []) hc mb_X11_openAt mv_X11_openAt (Or.inl ml_X11_246) rfl rfl (Nat.le_of_ble_eq_true rfl) ⟨Nat.le_refl _, Nat.le_refl _⟩ ⟨Nat.le_refl _, Nat.le_refl _⟩ (show decode cX11_lets 3 = .ok (.invokestatic 246, 3) by decide +kernel) ?_
  rintro _ _ ⟨x, σ', rfl, rfl, hq⟩ _
  refine am_r_istore (nx := 8) (by decide) rfl (show decode cX11_lets 6 = .ok (.istore 5, 2) by decide +kernel) rfl ?_
  exact (k x σ' hq)
theorem S_X11_lets_8 {G : am_G} {d : Nat} {Q : Int → am_D → Prop} {σ : am_D} {v1 : Int} {v2 : Int} {v3 : Int} {v4 : Int} {v5 : Int} (hi1 : 0 ≤ v5) (hj2 : v5 < 108) (hi3 : 0 ≤ ((6 * (σ.1 98 v5)) + v4)) (hj4 : ((6 * (σ.1 98 v5)) + v4) < 36) (k : am_X (am_FI G (d + 1) Q) mX11_lets (0, 0) 28 [some (am_r (some 91)), some (am_i v1), some (am_i v2), some (am_i v3), some (am_i v4), some (am_i v5), some (am_l (σ.2.1 129 ((6 * (σ.1 98 v5)) + v4))), none, none, none, none] [] (am_K0, σ)) : am_X (am_FI G (d + 1) Q) mX11_lets (0, 0) 8 [some (am_r (some 91)), some (am_i v1), some (am_i v2), some (am_i v3), some (am_i v4), some (am_i v5), none, none, none, none, none] [] (am_K0, σ) := by
  refine am_r_aload_n (nx := 9) rfl rfl (show decode cX11_lets 8 = .ok (.aload_n 0, 1) by decide +kernel) rfl ?_
  refine am_r_getF (nx := 12) 55 cw11 (by decide) rfl (Or.inl fl_X11_123) (ob_91) (fn_91_55) (show decode cX11_lets 9 = .ok (.getfield 123, 3) by decide +kernel) rfl ?_
  refine am_r_bipush (nx := 14) rfl (show decode cX11_lets 12 = .ok (.bipush 6, 2) by decide +kernel) rfl ?_
  refine am_r_aload_n (nx := 15) rfl rfl (show decode cX11_lets 14 = .ok (.aload_n 0, 1) by decide +kernel) rfl ?_
  refine am_r_getF (nx := 18) 12 cw11 (by decide) rfl (Or.inl fl_X11_30) (ob_91) (fn_91_12) (show decode cX11_lets 15 = .ok (.getfield 30, 3) by decide +kernel) rfl ?_
  refine am_r_iload (nx := 20) rfl (show decode cX11_lets 18 = .ok (.iload 5, 2) by decide +kernel) rfl ?_
  refine am_r_iald (nx := 21) (sh_98) (am_shle (sh_98)) hi1 hj2 (show decode cX11_lets 20 = .ok (.iaload, 1) by decide +kernel) rfl ?_
  refine am_r_imul (nx := 22) (show decode cX11_lets 21 = .ok (.imul, 1) by decide +kernel) rfl ?_
  refine am_r_iload (nx := 24) rfl (show decode cX11_lets 22 = .ok (.iload 4, 2) by decide +kernel) rfl ?_
  refine am_r_iadd (nx := 25) (show decode cX11_lets 24 = .ok (.iadd, 1) by decide +kernel) rfl ?_
  refine am_r_lald (nx := 26) (sh_129) (am_shle (sh_129)) hi3 hj4 (show decode cX11_lets 25 = .ok (.laload, 1) by decide +kernel) rfl ?_
  refine am_r_lstore (nx := 28) (by decide) rfl (show decode cX11_lets 26 = .ok (.lstore 6, 2) by decide +kernel) rfl ?_
  exact k
theorem S_X11_lets_28 {G : am_G} {d : Nat} {Q : Int → am_D → Prop} {σ : am_D} {v1 : Int} {v2 : Int} {v3 : Int} {v4 : Int} {v5 : Int} {v6 : Int64} {Q' : Int → am_D → Prop} (hi1 : 0 ≤ v5) (hj2 : v5 < 108) (hc : am_MI G d mX11_closeAt [am_i v1, am_i v3, am_i v4, am_i (σ.1 99 v5)] σ Q') (k : ∀ (x : Int) (σ' : am_D), Q' x σ' → am_X (am_FI G (d + 1) Q) mX11_lets (0, 0) 46 [some (am_r (some 91)), some (am_i v1), some (am_i v2), none, none, none, some (am_l v6), none, none, none, none] [am_i x, am_r (some 100)] (am_K0, σ')) : am_X (am_FI G (d + 1) Q) mX11_lets (0, 0) 28 [some (am_r (some 91)), some (am_i v1), some (am_i v2), some (am_i v3), some (am_i v4), some (am_i v5), some (am_l v6), none, none, none, none] [] (am_K0, σ) := by
  refine am_r_aload_n (nx := 29) rfl rfl (show decode cX11_lets 28 = .ok (.aload_n 0, 1) by decide +kernel) rfl ?_
  refine am_r_getF (nx := 32) 14 cw11 (by decide) rfl (Or.inl fl_X11_36) (ob_91) (fn_91_14) (show decode cX11_lets 29 = .ok (.getfield 36, 3) by decide +kernel) rfl ?_
  refine am_r_iload_n (nx := 33) rfl rfl (show decode cX11_lets 32 = .ok (.iload_n 1, 1) by decide +kernel) rfl ?_
  refine am_r_iload_n (nx := 34) rfl rfl (show decode cX11_lets 33 = .ok (.iload_n 3, 1) by decide +kernel) rfl ?_
  refine am_r_iload (nx := 36) rfl (show decode cX11_lets 34 = .ok (.iload 4, 2) by decide +kernel) rfl ?_
  refine am_r_aload_n (nx := 37) rfl rfl (show decode cX11_lets 36 = .ok (.aload_n 0, 1) by decide +kernel) rfl ?_
  refine am_r_getF (nx := 40) 13 cw11 (by decide) rfl (Or.inl fl_X11_33) (ob_91) (fn_91_13) (show decode cX11_lets 37 = .ok (.getfield 33, 3) by decide +kernel) rfl ?_
  refine am_r_iload (nx := 42) rfl (show decode cX11_lets 40 = .ok (.iload 5, 2) by decide +kernel) rfl ?_
  refine am_r_iald (nx := 43) (sh_99) (am_shle (sh_99)) hi1 hj2 (show decode cX11_lets 42 = .ok (.iaload, 1) by decide +kernel) rfl ?_
  refine am_r_callS (as := [am_i v1, am_i v3, am_i v4, am_i (σ.1 99 v5)]) (st := [am_r (some 100)]) hc mb_X11_closeAt mv_X11_closeAt (Or.inl ml_X11_253) rfl rfl (Nat.le_of_ble_eq_true rfl) ⟨Nat.le_refl _, Nat.le_refl _⟩ ⟨Nat.le_refl _, Nat.le_refl _⟩ (show decode cX11_lets 43 = .ok (.invokestatic 253, 3) by decide +kernel) ?_
  rintro _ _ ⟨x, σ', rfl, rfl, hq⟩ _
  exact am_x_fg [3, 4, 5] (k x σ' hq)
theorem S_X11_lets_46 {G : am_G} {d : Nat} {Q : Int → am_D → Prop} {σ : am_D} {v1 : Int} {v2 : Int} {v6 : Int64} {s1 : Int} {s0 : Nat} {n1 : Nat} (hs2 : am_sh am_SH s0 = (100, n1)) (hi3 : 0 ≤ s1) (hj4 : s1 < ((n1 : Nat) : Int)) (k : am_X (am_FI G (d + 1) Q) mX11_lets (0, 0) 49 [some (am_r (some 91)), some (am_i v1), some (am_i v2), none, none, none, some (am_l v6), none, some (am_i (σ.1 s0 s1)), none, none] [] (am_K0, σ)) : am_X (am_FI G (d + 1) Q) mX11_lets (0, 0) 46 [some (am_r (some 91)), some (am_i v1), some (am_i v2), none, none, none, some (am_l v6), none, none, none, none] [am_i s1, am_r (some s0)] (am_K0, σ) := by
  refine am_r_iald (nx := 47) (hs2) (am_shle (hs2)) hi3 hj4 (show decode cX11_lets 46 = .ok (.iaload, 1) by decide +kernel) rfl ?_
  refine am_r_istore (nx := 49) (by decide) rfl (show decode cX11_lets 47 = .ok (.istore 8, 2) by decide +kernel) rfl ?_
  exact k
theorem S_X11_lets_49 {G : am_G} {d : Nat} {Q : Int → am_D → Prop} {σ : am_D} {v1 : Int} {v2 : Int} {v6 : Int64} {v8 : Int}  (k : am_X (am_FI G (d + 1) Q) mX11_lets (0, 0) 52 [some (am_r (some 91)), some (am_i v1), some (am_i v2), none, none, none, some (am_l v6), none, some (am_i v8), some (am_i 0), none] [] (am_K0, σ)) : am_X (am_FI G (d + 1) Q) mX11_lets (0, 0) 49 [some (am_r (some 91)), some (am_i v1), some (am_i v2), none, none, none, some (am_l v6), none, some (am_i v8), none, none] [] (am_K0, σ) := by
  refine am_r_iconst (nx := 50) (show decode cX11_lets 49 = .ok (.iconst 0, 1) by decide +kernel) rfl ?_
  refine am_r_istore (nx := 52) (by decide) rfl (show decode cX11_lets 50 = .ok (.istore 9, 2) by decide +kernel) rfl ?_
  exact k
theorem S_X11_lets_52 {G : am_G} {d : Nat} {Q : Int → am_D → Prop} {σ : am_D} {v1 : Int} {v2 : Int} {v6 : Int64} {v8 : Int} {v9 : Int}  (k1 : (am_lcmp v6 1152921504606846976) = 0 → am_X (am_FI G (d + 1) Q) mX11_lets (0, 0) 67 [none, none, none, none, none, none, none, none, none, none, none] [] (am_K0, σ)) (k2 : ¬ ((am_lcmp v6 1152921504606846976) = 0) → am_X (am_FI G (d + 1) Q) mX11_lets (0, 0) 61 [some (am_r (some 91)), some (am_i v1), some (am_i v2), none, none, none, some (am_l v6), none, some (am_i v8), some (am_i v9), none] [] (am_K0, σ)) : am_X (am_FI G (d + 1) Q) mX11_lets (0, 0) 52 [some (am_r (some 91)), some (am_i v1), some (am_i v2), none, none, none, some (am_l v6), none, some (am_i v8), some (am_i v9), none] [] (am_K0, σ) := by
  refine am_r_lload (nx := 54) rfl (show decode cX11_lets 52 = .ok (.lload 6, 2) by decide +kernel) rfl ?_
  refine am_r_ldc2 (nx := 57) (n := 1152921504606846976) (am_mt 1448 (by decide +kernel) rfl) (show decode cX11_lets 54 = .ok (.ldc2_w 393, 3) by decide +kernel) rfl ?_
  refine am_r_lcmp (nx := 58) (show decode cX11_lets 57 = .ok (.lcmp, 1) by decide +kernel) rfl ?_
  refine am_r_if_eq (tg := 67) (nx := 61) (show decode cX11_lets 58 = .ok (.ifCond .eq 9, 3) by decide +kernel) (by decide) rfl (am_lcmp_rg _ _) ?_ ?_
  · exact fun q => am_x_fg [0, 1, 2, 6, 8, 9] (k1 q)
  · exact fun q => k2 q
theorem S_X11_lets_61 {G : am_G} {d : Nat} {Q : Int → am_D → Prop} {σ : am_D} {v1 : Int} {v2 : Int} {v6 : Int64} {v8 : Int} {v9 : Int} (hr1 : -2147483648 ≤ v8 ∧ v8 ≤ 2147483647) (k1 : ¬ v8 = (-1) → am_X (am_FI G (d + 1) Q) mX11_lets (0, 0) 69 [some (am_r (some 91)), some (am_i v1), some (am_i v2), none, none, none, some (am_l v6), none, some (am_i v8), some (am_i v9), none] [] (am_K0, σ)) (k2 : ¬ (¬ v8 = (-1)) → am_X (am_FI G (d + 1) Q) mX11_lets (0, 0) 67 [none, none, none, none, none, none, none, none, none, none, none] [] (am_K0, σ)) : am_X (am_FI G (d + 1) Q) mX11_lets (0, 0) 61 [some (am_r (some 91)), some (am_i v1), some (am_i v2), none, none, none, some (am_l v6), none, some (am_i v8), some (am_i v9), none] [] (am_K0, σ) := by
  refine am_r_iload (nx := 63) rfl (show decode cX11_lets 61 = .ok (.iload 8, 2) by decide +kernel) rfl ?_
  refine am_r_iconst (nx := 64) (show decode cX11_lets 63 = .ok (.iconst (-1), 1) by decide +kernel) rfl ?_
  refine am_r_icmp_ne (tg := 69) (nx := 67) (show decode cX11_lets 64 = .ok (.if_icmp .ne 5, 3) by decide +kernel) (by decide) rfl hr1 (by omega) ?_ ?_
  · exact fun q => k1 q
  · exact fun q => am_x_fg [0, 1, 2, 6, 8, 9] (k2 q)
theorem S_X11_lets_67 {G : am_G} {d : Nat} {Q : Int → am_D → Prop} {σ : am_D}   (k : Q 0 σ) : am_X (am_FI G (d + 1) Q) mX11_lets (0, 0) 67 [none, none, none, none, none, none, none, none, none, none, none] [] (am_K0, σ) := by
  refine am_r_iconst (nx := 68) (show decode cX11_lets 67 = .ok (.iconst 0, 1) by decide +kernel) rfl ?_
  exact am_r_iret rfl rfl (show decode cX11_lets 68 = .ok (.ireturn, 1) by decide +kernel) ⟨_, _, rfl, rfl, k⟩
theorem S_X11_lets_69 {G : am_G} {d : Nat} {Q : Int → am_D → Prop} {σ : am_D} {v1 : Int} {v2 : Int} {v6 : Int64} {v8 : Int} {v9 : Int}  (k : am_X (am_FI G (d + 1) Q) mX11_lets (0, 0) 72 [some (am_r (some 91)), some (am_i v1), some (am_i v2), none, none, none, some (am_l v6), none, some (am_i v8), some (am_i v9), some (am_i 0)] [] (am_K0, σ)) : am_X (am_FI G (d + 1) Q) mX11_lets (0, 0) 69 [some (am_r (some 91)), some (am_i v1), some (am_i v2), none, none, none, some (am_l v6), none, some (am_i v8), some (am_i v9), none] [] (am_K0, σ) := by
  refine am_r_iconst (nx := 70) (show decode cX11_lets 69 = .ok (.iconst 0, 1) by decide +kernel) rfl ?_
  refine am_r_istore (nx := 72) (by decide) rfl (show decode cX11_lets 70 = .ok (.istore 10, 2) by decide +kernel) rfl ?_
  exact k
theorem S_X11_lets_72 {G : am_G} {d : Nat} {Q : Int → am_D → Prop} {σ : am_D} {v1 : Int} {v2 : Int} {v6 : Int64} {v8 : Int} {v9 : Int} {v10 : Int} (hi1 : 0 ≤ v1) (hj2 : v1 < 6) (hr3 : -2147483648 ≤ v10 ∧ v10 ≤ 2147483647) (hr4 : -2147483648 ≤ (σ.1 94 v1) ∧ (σ.1 94 v1) ≤ 2147483647) (k1 : (σ.1 94 v1) ≤ v10 → am_X (am_FI G (d + 1) Q) mX11_lets (0, 0) 179 [none, none, none, none, none, none, none, none, none, some (am_i v9), none] [] (am_K0, σ)) (k2 : ¬ ((σ.1 94 v1) ≤ v10) → am_X (am_FI G (d + 1) Q) mX11_lets (0, 0) 83 [some (am_r (some 91)), some (am_i v1), some (am_i v2), none, none, none, some (am_l v6), none, some (am_i v8), some (am_i v9), some (am_i v10)] [] (am_K0, σ)) : am_X (am_FI G (d + 1) Q) mX11_lets (0, 0) 72 [some (am_r (some 91)), some (am_i v1), some (am_i v2), none, none, none, some (am_l v6), none, some (am_i v8), some (am_i v9), some (am_i v10)] [] (am_K0, σ) := by
  refine am_r_iload (nx := 74) rfl (show decode cX11_lets 72 = .ok (.iload 10, 2) by decide +kernel) rfl ?_
  refine am_r_aload_n (nx := 75) rfl rfl (show decode cX11_lets 74 = .ok (.aload_n 0, 1) by decide +kernel) rfl ?_
  refine am_r_getF (nx := 78) 8 cw11 (by decide) rfl (Or.inl fl_X11_17) (ob_91) (fn_91_8) (show decode cX11_lets 75 = .ok (.getfield 17, 3) by decide +kernel) rfl ?_
  refine am_r_iload_n (nx := 79) rfl rfl (show decode cX11_lets 78 = .ok (.iload_n 1, 1) by decide +kernel) rfl ?_
  refine am_r_iald (nx := 80) (sh_94) (am_shle (sh_94)) hi1 hj2 (show decode cX11_lets 79 = .ok (.iaload, 1) by decide +kernel) rfl ?_
  refine am_r_icmp_ge (tg := 179) (nx := 83) (show decode cX11_lets 80 = .ok (.if_icmp .ge 99, 3) by decide +kernel) (by decide) rfl hr3 hr4 ?_ ?_
  · exact fun q => am_x_fg [0, 1, 2, 6, 8, 10] (k1 q)
  · exact fun q => k2 q
theorem S_X11_lets_83 {G : am_G} {d : Nat} {Q : Int → am_D → Prop} {σ : am_D} {v1 : Int} {v2 : Int} {v6 : Int64} {v8 : Int} {v9 : Int} {v10 : Int} (hi1 : 0 ≤ ((6 * v8) + v10)) (hj2 : ((6 * v8) + v10) < 36) (k1 : (am_lcmp (σ.2.1 129 ((6 * v8) + v10)) 1152921504606846976) = 0 → am_X (am_FI G (d + 1) Q) mX11_lets (0, 0) 173 [some (am_r (some 91)), some (am_i v1), some (am_i v2), none, none, none, some (am_l v6), none, some (am_i v8), some (am_i v9), some (am_i v10)] [] (am_K0, σ)) (k2 : ¬ ((am_lcmp (σ.2.1 129 ((6 * v8) + v10)) 1152921504606846976) = 0) → am_X (am_FI G (d + 1) Q) mX11_lets (0, 0) 103 [some (am_r (some 91)), some (am_i v1), some (am_i v2), none, none, none, some (am_l v6), none, some (am_i v8), some (am_i v9), some (am_i v10)] [] (am_K0, σ)) : am_X (am_FI G (d + 1) Q) mX11_lets (0, 0) 83 [some (am_r (some 91)), some (am_i v1), some (am_i v2), none, none, none, some (am_l v6), none, some (am_i v8), some (am_i v9), some (am_i v10)] [] (am_K0, σ) := by
  refine am_r_aload_n (nx := 84) rfl rfl (show decode cX11_lets 83 = .ok (.aload_n 0, 1) by decide +kernel) rfl ?_
  refine am_r_getF (nx := 87) 55 cw11 (by decide) rfl (Or.inl fl_X11_123) (ob_91) (fn_91_55) (show decode cX11_lets 84 = .ok (.getfield 123, 3) by decide +kernel) rfl ?_
  refine am_r_bipush (nx := 89) rfl (show decode cX11_lets 87 = .ok (.bipush 6, 2) by decide +kernel) rfl ?_
  refine am_r_iload (nx := 91) rfl (show decode cX11_lets 89 = .ok (.iload 8, 2) by decide +kernel) rfl ?_
  refine am_r_imul (nx := 92) (show decode cX11_lets 91 = .ok (.imul, 1) by decide +kernel) rfl ?_
  refine am_r_iload (nx := 94) rfl (show decode cX11_lets 92 = .ok (.iload 10, 2) by decide +kernel) rfl ?_
  refine am_r_iadd (nx := 95) (show decode cX11_lets 94 = .ok (.iadd, 1) by decide +kernel) rfl ?_
  refine am_r_lald (nx := 96) (sh_129) (am_shle (sh_129)) hi1 hj2 (show decode cX11_lets 95 = .ok (.laload, 1) by decide +kernel) rfl ?_
  refine am_r_ldc2 (nx := 99) (n := 1152921504606846976) (am_mt 1448 (by decide +kernel) rfl) (show decode cX11_lets 96 = .ok (.ldc2_w 393, 3) by decide +kernel) rfl ?_
  refine am_r_lcmp (nx := 100) (show decode cX11_lets 99 = .ok (.lcmp, 1) by decide +kernel) rfl ?_
  refine am_r_if_eq (tg := 173) (nx := 103) (show decode cX11_lets 100 = .ok (.ifCond .eq 73, 3) by decide +kernel) (by decide) rfl (am_lcmp_rg _ _) ?_ ?_
  · exact fun q => k1 q
  · exact fun q => k2 q
theorem S_X11_lets_103 {G : am_G} {d : Nat} {Q : Int → am_D → Prop} {σ : am_D} {v1 : Int} {v2 : Int} {v6 : Int64} {v8 : Int} {v9 : Int} {v10 : Int} (hi1 : 0 ≤ ((6 * v8) + v10)) (hj2 : ((6 * v8) + v10) < 36) (hi3 : 0 ≤ ((6 * v2) + v10)) (hj4 : ((6 * v2) + v10) < 36) (k1 : (am_lcmp ((1 + v6) + (σ.2.1 129 ((6 * v8) + v10))) (σ.2.1 129 ((6 * v2) + v10))) < 0 → am_X (am_FI G (d + 1) Q) mX11_lets (0, 0) 140 [some (am_r (some 91)), some (am_i v1), some (am_i v2), none, none, none, some (am_l v6), none, some (am_i v8), none, some (am_i v10)] [] (am_K0, σ)) (k2 : ¬ ((am_lcmp ((1 + v6) + (σ.2.1 129 ((6 * v8) + v10))) (σ.2.1 129 ((6 * v2) + v10))) < 0) → am_X (am_FI G (d + 1) Q) mX11_lets (0, 0) 137 [some (am_r (some 91)), some (am_i v1), some (am_i v2), none, none, none, some (am_l v6), none, some (am_i v8), some (am_i v9), some (am_i v10)] [] (am_K0, σ)) : am_X (am_FI G (d + 1) Q) mX11_lets (0, 0) 103 [some (am_r (some 91)), some (am_i v1), some (am_i v2), none, none, none, some (am_l v6), none, some (am_i v8), some (am_i v9), some (am_i v10)] [] (am_K0, σ) := by
  refine am_r_lconst (nx := 104) (v := 1) rfl (show decode cX11_lets 103 = .ok (.lconst 1, 1) by decide +kernel) rfl ?_
  refine am_r_lload (nx := 106) rfl (show decode cX11_lets 104 = .ok (.lload 6, 2) by decide +kernel) rfl ?_
  refine am_r_ladd (nx := 107) (show decode cX11_lets 106 = .ok (.ladd, 1) by decide +kernel) rfl ?_
  refine am_r_aload_n (nx := 108) rfl rfl (show decode cX11_lets 107 = .ok (.aload_n 0, 1) by decide +kernel) rfl ?_
  refine am_r_getF (nx := 111) 55 cw11 (by decide) rfl (Or.inl fl_X11_123) (ob_91) (fn_91_55) (show decode cX11_lets 108 = .ok (.getfield 123, 3) by decide +kernel) rfl ?_
  refine am_r_bipush (nx := 113) rfl (show decode cX11_lets 111 = .ok (.bipush 6, 2) by decide +kernel) rfl ?_
  refine am_r_iload (nx := 115) rfl (show decode cX11_lets 113 = .ok (.iload 8, 2) by decide +kernel) rfl ?_
  refine am_r_imul (nx := 116) (show decode cX11_lets 115 = .ok (.imul, 1) by decide +kernel) rfl ?_
  refine am_r_iload (nx := 118) rfl (show decode cX11_lets 116 = .ok (.iload 10, 2) by decide +kernel) rfl ?_
  refine am_r_iadd (nx := 119) (show decode cX11_lets 118 = .ok (.iadd, 1) by decide +kernel) rfl ?_
  refine am_r_lald (nx := 120) (sh_129) (am_shle (sh_129)) hi1 hj2 (show decode cX11_lets 119 = .ok (.laload, 1) by decide +kernel) rfl ?_
  refine am_r_ladd (nx := 121) (show decode cX11_lets 120 = .ok (.ladd, 1) by decide +kernel) rfl ?_
  refine am_r_aload_n (nx := 122) rfl rfl (show decode cX11_lets 121 = .ok (.aload_n 0, 1) by decide +kernel) rfl ?_
  refine am_r_getF (nx := 125) 55 cw11 (by decide) rfl (Or.inl fl_X11_123) (ob_91) (fn_91_55) (show decode cX11_lets 122 = .ok (.getfield 123, 3) by decide +kernel) rfl ?_
  refine am_r_bipush (nx := 127) rfl (show decode cX11_lets 125 = .ok (.bipush 6, 2) by decide +kernel) rfl ?_
  refine am_r_iload_n (nx := 128) rfl rfl (show decode cX11_lets 127 = .ok (.iload_n 2, 1) by decide +kernel) rfl ?_
  refine am_r_imul (nx := 129) (show decode cX11_lets 128 = .ok (.imul, 1) by decide +kernel) rfl ?_
  refine am_r_iload (nx := 131) rfl (show decode cX11_lets 129 = .ok (.iload 10, 2) by decide +kernel) rfl ?_
  refine am_r_iadd (nx := 132) (show decode cX11_lets 131 = .ok (.iadd, 1) by decide +kernel) rfl ?_
  refine am_r_lald (nx := 133) (sh_129) (am_shle (sh_129)) hi3 hj4 (show decode cX11_lets 132 = .ok (.laload, 1) by decide +kernel) rfl ?_
  refine am_r_lcmp (nx := 134) (show decode cX11_lets 133 = .ok (.lcmp, 1) by decide +kernel) rfl ?_
  refine am_r_if_lt (tg := 140) (nx := 137) (show decode cX11_lets 134 = .ok (.ifCond .lt 6, 3) by decide +kernel) (by decide) rfl (am_lcmp_rg _ _) ?_ ?_
  · exact fun q => am_x_fg [9] (k1 q)
  · exact fun q => k2 q
theorem S_X11_lets_137 {G : am_G} {d : Nat} {Q : Int → am_D → Prop} {σ : am_D} {v1 : Int} {v2 : Int} {v6 : Int64} {v8 : Int} {v9 : Int} {v10 : Int}  (k : am_X (am_FI G (d + 1) Q) mX11_lets (0, 0) 173 [some (am_r (some 91)), some (am_i v1), some (am_i v2), none, none, none, some (am_l v6), none, some (am_i v8), some (am_i v9), some (am_i v10)] [] (am_K0, σ)) : am_X (am_FI G (d + 1) Q) mX11_lets (0, 0) 137 [some (am_r (some 91)), some (am_i v1), some (am_i v2), none, none, none, some (am_l v6), none, some (am_i v8), some (am_i v9), some (am_i v10)] [] (am_K0, σ) := by
  refine am_r_goto (tg := 173) (show decode cX11_lets 137 = .ok (.goto 36, 3) by decide +kernel) (by decide) ?_
  exact k
theorem S_X11_lets_140 {G : am_G} {d : Nat} {Q : Int → am_D → Prop} {σ : am_D} {v1 : Int} {v2 : Int} {v6 : Int64} {v8 : Int} {v10 : Int} (hi1 : 0 ≤ ((6 * v8) + v10)) (hj2 : ((6 * v8) + v10) < 36) (hi3 : 0 ≤ ((6 * v2) + v10)) (hj4 : ((6 * v2) + v10) < 36) (k : am_X (am_FI G (d + 1) Q) mX11_lets (0, 0) 170 [some (am_r (some 91)), some (am_i v1), some (am_i v2), none, none, none, some (am_l v6), none, some (am_i v8), none, some (am_i v10)] [] (am_K0, (am_pJ σ 129 ((6 * v2) + v10) ((1 + v6) + (σ.2.1 129 ((6 * v8) + v10)))))) : am_X (am_FI G (d + 1) Q) mX11_lets (0, 0) 140 [some (am_r (some 91)), some (am_i v1), some (am_i v2), none, none, none, some (am_l v6), none, some (am_i v8), none, some (am_i v10)] [] (am_K0, σ) := by
  refine am_r_aload_n (nx := 141) rfl rfl (show decode cX11_lets 140 = .ok (.aload_n 0, 1) by decide +kernel) rfl ?_
  refine am_r_getF (nx := 144) 55 cw11 (by decide) rfl (Or.inl fl_X11_123) (ob_91) (fn_91_55) (show decode cX11_lets 141 = .ok (.getfield 123, 3) by decide +kernel) rfl ?_
  refine am_r_bipush (nx := 146) rfl (show decode cX11_lets 144 = .ok (.bipush 6, 2) by decide +kernel) rfl ?_
  refine am_r_iload_n (nx := 147) rfl rfl (show decode cX11_lets 146 = .ok (.iload_n 2, 1) by decide +kernel) rfl ?_
  refine am_r_imul (nx := 148) (show decode cX11_lets 147 = .ok (.imul, 1) by decide +kernel) rfl ?_
  refine am_r_iload (nx := 150) rfl (show decode cX11_lets 148 = .ok (.iload 10, 2) by decide +kernel) rfl ?_
  refine am_r_iadd (nx := 151) (show decode cX11_lets 150 = .ok (.iadd, 1) by decide +kernel) rfl ?_
  refine am_r_lconst (nx := 152) (v := 1) rfl (show decode cX11_lets 151 = .ok (.lconst 1, 1) by decide +kernel) rfl ?_
  refine am_r_lload (nx := 154) rfl (show decode cX11_lets 152 = .ok (.lload 6, 2) by decide +kernel) rfl ?_
  refine am_r_ladd (nx := 155) (show decode cX11_lets 154 = .ok (.ladd, 1) by decide +kernel) rfl ?_
  refine am_r_aload_n (nx := 156) rfl rfl (show decode cX11_lets 155 = .ok (.aload_n 0, 1) by decide +kernel) rfl ?_
  refine am_r_getF (nx := 159) 55 cw11 (by decide) rfl (Or.inl fl_X11_123) (ob_91) (fn_91_55) (show decode cX11_lets 156 = .ok (.getfield 123, 3) by decide +kernel) rfl ?_
  refine am_r_bipush (nx := 161) rfl (show decode cX11_lets 159 = .ok (.bipush 6, 2) by decide +kernel) rfl ?_
  refine am_r_iload (nx := 163) rfl (show decode cX11_lets 161 = .ok (.iload 8, 2) by decide +kernel) rfl ?_
  refine am_r_imul (nx := 164) (show decode cX11_lets 163 = .ok (.imul, 1) by decide +kernel) rfl ?_
  refine am_r_iload (nx := 166) rfl (show decode cX11_lets 164 = .ok (.iload 10, 2) by decide +kernel) rfl ?_
  refine am_r_iadd (nx := 167) (show decode cX11_lets 166 = .ok (.iadd, 1) by decide +kernel) rfl ?_
  refine am_r_lald (nx := 168) (sh_129) (am_shle (sh_129)) hi1 hj2 (show decode cX11_lets 167 = .ok (.laload, 1) by decide +kernel) rfl ?_
  refine am_r_ladd (nx := 169) (show decode cX11_lets 168 = .ok (.ladd, 1) by decide +kernel) rfl ?_
  refine am_r_last (nx := 170) (sh_129) (am_shle (sh_129)) hi3 hj4 (show decode cX11_lets 169 = .ok (.lastore, 1) by decide +kernel) rfl ?_
  exact k
theorem S_X11_lets_170 {G : am_G} {d : Nat} {Q : Int → am_D → Prop} {σ : am_D} {v1 : Int} {v2 : Int} {v6 : Int64} {v8 : Int} {v10 : Int}  (k : am_X (am_FI G (d + 1) Q) mX11_lets (0, 0) 173 [some (am_r (some 91)), some (am_i v1), some (am_i v2), none, none, none, some (am_l v6), none, some (am_i v8), some (am_i 1), some (am_i v10)] [] (am_K0, σ)) : am_X (am_FI G (d + 1) Q) mX11_lets (0, 0) 170 [some (am_r (some 91)), some (am_i v1), some (am_i v2), none, none, none, some (am_l v6), none, some (am_i v8), none, some (am_i v10)] [] (am_K0, σ) := by
  refine am_r_iconst (nx := 171) (show decode cX11_lets 170 = .ok (.iconst 1, 1) by decide +kernel) rfl ?_
  refine am_r_istore (nx := 173) (by decide) rfl (show decode cX11_lets 171 = .ok (.istore 9, 2) by decide +kernel) rfl ?_
  exact k
theorem S_X11_lets_173 {G : am_G} {d : Nat} {Q : Int → am_D → Prop} {σ : am_D} {v1 : Int} {v2 : Int} {v6 : Int64} {v8 : Int} {v9 : Int} {v10 : Int}  (k : am_X (am_FI G (d + 1) Q) mX11_lets (0, 0) 72 [some (am_r (some 91)), some (am_i v1), some (am_i v2), none, none, none, some (am_l v6), none, some (am_i v8), some (am_i v9), some (am_i (v10 + 1))] [] (am_K0, σ)) : am_X (am_FI G (d + 1) Q) mX11_lets (0, 0) 173 [some (am_r (some 91)), some (am_i v1), some (am_i v2), none, none, none, some (am_l v6), none, some (am_i v8), some (am_i v9), some (am_i v10)] [] (am_K0, σ) := by
  refine am_r_iinc (nx := 176) rfl rfl (show decode cX11_lets 173 = .ok (.iinc 10 1, 3) by decide +kernel) rfl ?_
  refine am_r_goto (tg := 72) (show decode cX11_lets 176 = .ok (.goto (-104), 3) by decide +kernel) (by decide) ?_
  exact k
theorem S_X11_lets_179 {G : am_G} {d : Nat} {Q : Int → am_D → Prop} {σ : am_D} {v9 : Int} (hz : v9 = 0 ∨ v9 = 1) (k : Q v9 σ) : am_X (am_FI G (d + 1) Q) mX11_lets (0, 0) 179 [none, none, none, none, none, none, none, none, none, some (am_i v9), none] [] (am_K0, σ) := by
  refine am_r_iload (nx := 181) rfl (show decode cX11_lets 179 = .ok (.iload 9, 2) by decide +kernel) rfl ?_
  exact am_r_iret rfl (by rcases hz with hz | hz <;> rw [hz] <;> rfl) (show decode cX11_lets 181 = .ok (.ireturn, 1) by decide +kernel) ⟨_, _, rfl, rfl, k⟩
theorem S_X11_states_0 {G : am_G} {d : Nat} {Q : Int → am_D → Prop} {σ : am_D} {v1 : Int} {Q' : Int → am_D → Prop} (hc : am_MI G d mX11_isMachine [am_r (some 91), am_i v1] σ Q') (k : ∀ (x : Int) (σ' : am_D), Q' x σ' → am_X (am_FI G (d + 1) Q) mX11_states (0, 0) 5 [some (am_r (some 91)), some (am_i v1), none, none, none, none] [am_i x] (am_K0, σ')) : am_X (am_FI G (d + 1) Q) mX11_states (0, 0) 0 [some (am_r (some 91)), some (am_i v1), none, none, none, none] [] (am_K0, σ) := by
  refine am_r_aload_n (nx := 1) rfl rfl (show decode cX11_states 0 = .ok (.aload_n 0, 1) by decide +kernel) rfl ?_
  refine am_r_iload_n (nx := 2) rfl rfl (show decode cX11_states 1 = .ok (.iload_n 1, 1) by decide +kernel) rfl ?_
  refine am_r_callV (as := [am_i v1]) (st := []) hc mb_X11_isMachine mv_X11_isMachine (Or.inl ml_X11_307) (ob_91) (by omega) (r := (RX11, TX11, 63)) rfl rfl rfl rfl (Nat.le_of_ble_eq_true rfl) ⟨Nat.le_refl _, Nat.le_refl _⟩ ⟨Nat.le_refl _, Nat.le_refl _⟩ (show decode cX11_states 2 = .ok (.invokevirtual 307, 3) by decide +kernel) ?_
  rintro _ _ ⟨x, σ', rfl, rfl, hq⟩ _
  exact (k x σ' hq)
theorem S_X11_states_5 {G : am_G} {d : Nat} {Q : Int → am_D → Prop} {σ : am_D} {v1 : Int} {s0 : Int} (hr1 : -2147483648 ≤ s0 ∧ s0 ≤ 2147483647) (k1 : ¬ s0 = 0 → am_X (am_FI G (d + 1) Q) mX11_states (0, 0) 10 [some (am_r (some 91)), some (am_i v1), none, none, none, none] [] (am_K0, σ)) (k2 : ¬ (¬ s0 = 0) → am_X (am_FI G (d + 1) Q) mX11_states (0, 0) 8 [none, none, none, none, none, none] [] (am_K0, σ)) : am_X (am_FI G (d + 1) Q) mX11_states (0, 0) 5 [some (am_r (some 91)), some (am_i v1), none, none, none, none] [am_i s0] (am_K0, σ) := by
  refine am_r_if_ne (tg := 10) (nx := 8) (show decode cX11_states 5 = .ok (.ifCond .ne 5, 3) by decide +kernel) (by decide) rfl hr1 ?_ ?_
  · exact fun q => k1 q
  · exact fun q => am_x_fg [0, 1] (k2 q)
theorem S_X11_states_8 {G : am_G} {d : Nat} {Q : Int → am_D → Prop} {σ : am_D}   (k : Q (-1) σ) : am_X (am_FI G (d + 1) Q) mX11_states (0, 0) 8 [none, none, none, none, none, none] [] (am_K0, σ) := by
  refine am_r_iconst (nx := 9) (show decode cX11_states 8 = .ok (.iconst (-1), 1) by decide +kernel) rfl ?_
  exact am_r_iret rfl rfl (show decode cX11_states 9 = .ok (.ireturn, 1) by decide +kernel) ⟨_, _, rfl, rfl, k⟩
theorem S_X11_states_10 {G : am_G} {d : Nat} {Q : Int → am_D → Prop} {σ : am_D} {v1 : Int} {Q' : am_D → Prop} (hc : am_MV G d mX11_laysLeast [am_r (some 91), am_i v1] σ Q') (k : ∀ σ' : am_D, Q' σ' → am_X (am_FI G (d + 1) Q) mX11_states (0, 0) 15 [some (am_r (some 91)), some (am_i v1), none, none, none, none] [] (am_K0, σ')) : am_X (am_FI G (d + 1) Q) mX11_states (0, 0) 10 [some (am_r (some 91)), some (am_i v1), none, none, none, none] [] (am_K0, σ) := by
  refine am_r_aload_n (nx := 11) rfl rfl (show decode cX11_states 10 = .ok (.aload_n 0, 1) by decide +kernel) rfl ?_
  refine am_r_iload_n (nx := 12) rfl rfl (show decode cX11_states 11 = .ok (.iload_n 1, 1) by decide +kernel) rfl ?_
  refine am_r_callV (as := [am_i v1]) (st := []) hc mb_X11_laysLeast mv_X11_laysLeast (Or.inl ml_X11_399) (ob_91) (by omega) (r := (RX11, TX11, 63)) rfl rfl rfl rfl (Nat.le_of_ble_eq_true rfl) ⟨Nat.le_refl _, Nat.le_refl _⟩ ⟨Nat.le_refl _, Nat.le_refl _⟩ (show decode cX11_states 12 = .ok (.invokevirtual 399, 3) by decide +kernel) ?_
  rintro _ _ ⟨σ', rfl, rfl, hq⟩ _
  exact (k σ' hq)
theorem S_X11_states_15 {G : am_G} {d : Nat} {Q : Int → am_D → Prop} {σ : am_D} {v1 : Int}  (k : am_X (am_FI G (d + 1) Q) mX11_states (0, 0) 17 [some (am_r (some 91)), some (am_i v1), some (am_i 1), none, none, none] [] (am_K0, σ)) : am_X (am_FI G (d + 1) Q) mX11_states (0, 0) 15 [some (am_r (some 91)), some (am_i v1), none, none, none, none] [] (am_K0, σ) := by
  refine am_r_iconst (nx := 16) (show decode cX11_states 15 = .ok (.iconst 1, 1) by decide +kernel) rfl ?_
  refine am_r_istore_n (nx := 17) rfl (by decide) rfl (show decode cX11_states 16 = .ok (.istore_n 2, 1) by decide +kernel) rfl ?_
  exact k
theorem S_X11_states_17 {G : am_G} {d : Nat} {Q : Int → am_D → Prop} {σ : am_D} {v1 : Int} {v2 : Int}  (k : am_X (am_FI G (d + 1) Q) mX11_states (0, 0) 19 [some (am_r (some 91)), some (am_i v1), some (am_i v2), some (am_i 0), none, none] [] (am_K0, σ)) : am_X (am_FI G (d + 1) Q) mX11_states (0, 0) 17 [some (am_r (some 91)), some (am_i v1), some (am_i v2), none, none, none] [] (am_K0, σ) := by
  refine am_r_iconst (nx := 18) (show decode cX11_states 17 = .ok (.iconst 0, 1) by decide +kernel) rfl ?_
  refine am_r_istore_n (nx := 19) rfl (by decide) rfl (show decode cX11_states 18 = .ok (.istore_n 3, 1) by decide +kernel) rfl ?_
  exact k
theorem S_X11_states_19 {G : am_G} {d : Nat} {Q : Int → am_D → Prop} {σ : am_D} {v1 : Int} {v2 : Int} {v3 : Int} (hr1 : -2147483648 ≤ v3 ∧ v3 ≤ 2147483647) (hr2 : -2147483648 ≤ v2 ∧ v2 ≤ 2147483647) (k1 : v3 = v2 → am_X (am_FI G (d + 1) Q) mX11_states (0, 0) 166 [none, none, some (am_i v2), none, none, none] [] (am_K0, σ)) (k2 : ¬ (v3 = v2) → am_X (am_FI G (d + 1) Q) mX11_states (0, 0) 24 [some (am_r (some 91)), some (am_i v1), some (am_i v2), none, none, none] [] (am_K0, σ)) : am_X (am_FI G (d + 1) Q) mX11_states (0, 0) 19 [some (am_r (some 91)), some (am_i v1), some (am_i v2), some (am_i v3), none, none] [] (am_K0, σ) := by
  refine am_r_iload_n (nx := 20) rfl rfl (show decode cX11_states 19 = .ok (.iload_n 3, 1) by decide +kernel) rfl ?_
  refine am_r_iload_n (nx := 21) rfl rfl (show decode cX11_states 20 = .ok (.iload_n 2, 1) by decide +kernel) rfl ?_
  refine am_r_icmp_eq (tg := 166) (nx := 24) (show decode cX11_states 21 = .ok (.if_icmp .eq 145, 3) by decide +kernel) (by decide) rfl hr1 hr2 ?_ ?_
  · exact fun q => am_x_fg [0, 1, 3] (k1 q)
  · exact fun q => am_x_fg [3] (k2 q)
theorem S_X11_states_24 {G : am_G} {d : Nat} {Q : Int → am_D → Prop} {σ : am_D} {v1 : Int} {v2 : Int}  (k : am_X (am_FI G (d + 1) Q) mX11_states (0, 0) 26 [some (am_r (some 91)), some (am_i v1), some (am_i v2), some (am_i v2), none, none] [] (am_K0, σ)) : am_X (am_FI G (d + 1) Q) mX11_states (0, 0) 24 [some (am_r (some 91)), some (am_i v1), some (am_i v2), none, none, none] [] (am_K0, σ) := by
  refine am_r_iload_n (nx := 25) rfl rfl (show decode cX11_states 24 = .ok (.iload_n 2, 1) by decide +kernel) rfl ?_
  refine am_r_istore_n (nx := 26) rfl (by decide) rfl (show decode cX11_states 25 = .ok (.istore_n 3, 1) by decide +kernel) rfl ?_
  exact k
theorem S_X11_states_26 {G : am_G} {d : Nat} {Q : Int → am_D → Prop} {σ : am_D} {v1 : Int} {v2 : Int} {v3 : Int}  (k : am_X (am_FI G (d + 1) Q) mX11_states (0, 0) 29 [some (am_r (some 91)), some (am_i v1), some (am_i v2), some (am_i v3), some (am_i 0), none] [] (am_K0, σ)) : am_X (am_FI G (d + 1) Q) mX11_states (0, 0) 26 [some (am_r (some 91)), some (am_i v1), some (am_i v2), some (am_i v3), none, none] [] (am_K0, σ) := by
  refine am_r_iconst (nx := 27) (show decode cX11_states 26 = .ok (.iconst 0, 1) by decide +kernel) rfl ?_
  refine am_r_istore (nx := 29) (by decide) rfl (show decode cX11_states 27 = .ok (.istore 4, 2) by decide +kernel) rfl ?_
  exact k
theorem S_X11_states_29 {G : am_G} {d : Nat} {Q : Int → am_D → Prop} {σ : am_D} {v1 : Int} {v2 : Int} {v3 : Int} {v4 : Int} (hi1 : 0 ≤ v1) (hj2 : v1 < 6) (hr3 : -2147483648 ≤ v4 ∧ v4 ≤ 2147483647) (hr4 : -2147483648 ≤ (σ.1 94 v1) ∧ (σ.1 94 v1) ≤ 2147483647) (k1 : (σ.1 94 v1) ≤ v4 → am_X (am_FI G (d + 1) Q) mX11_states (0, 0) 163 [some (am_r (some 91)), some (am_i v1), some (am_i v2), some (am_i v3), none, none] [] (am_K0, σ)) (k2 : ¬ ((σ.1 94 v1) ≤ v4) → am_X (am_FI G (d + 1) Q) mX11_states (0, 0) 40 [some (am_r (some 91)), some (am_i v1), some (am_i v2), some (am_i v3), some (am_i v4), none] [] (am_K0, σ)) : am_X (am_FI G (d + 1) Q) mX11_states (0, 0) 29 [some (am_r (some 91)), some (am_i v1), some (am_i v2), some (am_i v3), some (am_i v4), none] [] (am_K0, σ) := by
  refine am_r_iload (nx := 31) rfl (show decode cX11_states 29 = .ok (.iload 4, 2) by decide +kernel) rfl ?_
  refine am_r_aload_n (nx := 32) rfl rfl (show decode cX11_states 31 = .ok (.aload_n 0, 1) by decide +kernel) rfl ?_
  refine am_r_getF (nx := 35) 8 cw11 (by decide) rfl (Or.inl fl_X11_17) (ob_91) (fn_91_8) (show decode cX11_states 32 = .ok (.getfield 17, 3) by decide +kernel) rfl ?_
  refine am_r_iload_n (nx := 36) rfl rfl (show decode cX11_states 35 = .ok (.iload_n 1, 1) by decide +kernel) rfl ?_
  refine am_r_iald (nx := 37) (sh_94) (am_shle (sh_94)) hi1 hj2 (show decode cX11_states 36 = .ok (.iaload, 1) by decide +kernel) rfl ?_
  refine am_r_icmp_ge (tg := 163) (nx := 40) (show decode cX11_states 37 = .ok (.if_icmp .ge 126, 3) by decide +kernel) (by decide) rfl hr3 hr4 ?_ ?_
  · exact fun q => am_x_fg [4] (k1 q)
  · exact fun q => k2 q
theorem S_X11_states_40 {G : am_G} {d : Nat} {Q : Int → am_D → Prop} {σ : am_D} {v1 : Int} {v2 : Int} {v3 : Int} {v4 : Int} (hr1 : -2147483648 ≤ (am_and (am_shr v2 v4) 1) ∧ (am_and (am_shr v2 v4) 1) ≤ 2147483647) (k1 : ¬ (am_and (am_shr v2 v4) 1) = 0 → am_X (am_FI G (d + 1) Q) mX11_states (0, 0) 52 [some (am_r (some 91)), some (am_i v1), some (am_i v2), some (am_i v3), some (am_i v4), none] [] (am_K0, σ)) (k2 : ¬ (¬ (am_and (am_shr v2 v4) 1) = 0) → am_X (am_FI G (d + 1) Q) mX11_states (0, 0) 49 [some (am_r (some 91)), some (am_i v1), some (am_i v2), some (am_i v3), some (am_i v4), none] [] (am_K0, σ)) : am_X (am_FI G (d + 1) Q) mX11_states (0, 0) 40 [some (am_r (some 91)), some (am_i v1), some (am_i v2), some (am_i v3), some (am_i v4), none] [] (am_K0, σ) := by
  refine am_r_iload_n (nx := 41) rfl rfl (show decode cX11_states 40 = .ok (.iload_n 2, 1) by decide +kernel) rfl ?_
  refine am_r_iload (nx := 43) rfl (show decode cX11_states 41 = .ok (.iload 4, 2) by decide +kernel) rfl ?_
  refine am_r_ishr (nx := 44) (show decode cX11_states 43 = .ok (.ishr, 1) by decide +kernel) rfl ?_
  refine am_r_iconst (nx := 45) (show decode cX11_states 44 = .ok (.iconst 1, 1) by decide +kernel) rfl ?_
  refine am_r_iand (nx := 46) (show decode cX11_states 45 = .ok (.iand, 1) by decide +kernel) rfl ?_
  refine am_r_if_ne (tg := 52) (nx := 49) (show decode cX11_states 46 = .ok (.ifCond .ne 6, 3) by decide +kernel) (by decide) rfl hr1 ?_ ?_
  · exact fun q => k1 q
  · exact fun q => k2 q
theorem S_X11_states_49 {G : am_G} {d : Nat} {Q : Int → am_D → Prop} {σ : am_D} {v1 : Int} {v2 : Int} {v3 : Int} {v4 : Int}  (k : am_X (am_FI G (d + 1) Q) mX11_states (0, 0) 157 [some (am_r (some 91)), some (am_i v1), some (am_i v2), some (am_i v3), some (am_i v4), none] [] (am_K0, σ)) : am_X (am_FI G (d + 1) Q) mX11_states (0, 0) 49 [some (am_r (some 91)), some (am_i v1), some (am_i v2), some (am_i v3), some (am_i v4), none] [] (am_K0, σ) := by
  refine am_r_goto (tg := 157) (show decode cX11_states 49 = .ok (.goto 108, 3) by decide +kernel) (by decide) ?_
  exact k
theorem S_X11_states_52 {G : am_G} {d : Nat} {Q : Int → am_D → Prop} {σ : am_D} {v1 : Int} {v2 : Int} {v3 : Int} {v4 : Int}  (k : am_X (am_FI G (d + 1) Q) mX11_states (0, 0) 55 [some (am_r (some 91)), some (am_i v1), some (am_i v2), some (am_i v3), some (am_i v4), some (am_i 0)] [] (am_K0, σ)) : am_X (am_FI G (d + 1) Q) mX11_states (0, 0) 52 [some (am_r (some 91)), some (am_i v1), some (am_i v2), some (am_i v3), some (am_i v4), none] [] (am_K0, σ) := by
  refine am_r_iconst (nx := 53) (show decode cX11_states 52 = .ok (.iconst 0, 1) by decide +kernel) rfl ?_
  refine am_r_istore (nx := 55) (by decide) rfl (show decode cX11_states 53 = .ok (.istore 5, 2) by decide +kernel) rfl ?_
  exact k
theorem S_X11_states_55 {G : am_G} {d : Nat} {Q : Int → am_D → Prop} {σ : am_D} {v1 : Int} {v2 : Int} {v3 : Int} {v4 : Int} {v5 : Int} (hi1 : 0 ≤ v1) (hj2 : v1 < 6) (hr3 : -2147483648 ≤ v5 ∧ v5 ≤ 2147483647) (hr4 : -2147483648 ≤ (σ.1 94 v1) ∧ (σ.1 94 v1) ≤ 2147483647) (k1 : (σ.1 94 v1) ≤ v5 → am_X (am_FI G (d + 1) Q) mX11_states (0, 0) 103 [some (am_r (some 91)), some (am_i v1), some (am_i v2), some (am_i v3), some (am_i v4), none] [] (am_K0, σ)) (k2 : ¬ ((σ.1 94 v1) ≤ v5) → am_X (am_FI G (d + 1) Q) mX11_states (0, 0) 66 [some (am_r (some 91)), some (am_i v1), some (am_i v2), some (am_i v3), some (am_i v4), some (am_i v5)] [] (am_K0, σ)) : am_X (am_FI G (d + 1) Q) mX11_states (0, 0) 55 [some (am_r (some 91)), some (am_i v1), some (am_i v2), some (am_i v3), some (am_i v4), some (am_i v5)] [] (am_K0, σ) := by
  refine am_r_iload (nx := 57) rfl (show decode cX11_states 55 = .ok (.iload 5, 2) by decide +kernel) rfl ?_
  refine am_r_aload_n (nx := 58) rfl rfl (show decode cX11_states 57 = .ok (.aload_n 0, 1) by decide +kernel) rfl ?_
  refine am_r_getF (nx := 61) 8 cw11 (by decide) rfl (Or.inl fl_X11_17) (ob_91) (fn_91_8) (show decode cX11_states 58 = .ok (.getfield 17, 3) by decide +kernel) rfl ?_
  refine am_r_iload_n (nx := 62) rfl rfl (show decode cX11_states 61 = .ok (.iload_n 1, 1) by decide +kernel) rfl ?_
  refine am_r_iald (nx := 63) (sh_94) (am_shle (sh_94)) hi1 hj2 (show decode cX11_states 62 = .ok (.iaload, 1) by decide +kernel) rfl ?_
  refine am_r_icmp_ge (tg := 103) (nx := 66) (show decode cX11_states 63 = .ok (.if_icmp .ge 40, 3) by decide +kernel) (by decide) rfl hr3 hr4 ?_ ?_
  · exact fun q => am_x_fg [5] (k1 q)
  · exact fun q => k2 q
theorem S_X11_states_66 {G : am_G} {d : Nat} {Q : Int → am_D → Prop} {σ : am_D} {v1 : Int} {v2 : Int} {v3 : Int} {v4 : Int} {v5 : Int} (hi1 : 0 ≤ ((6 * v4) + v5)) (hj2 : ((6 * v4) + v5) < 36) (k1 : ¬ (am_lcmp (σ.2.1 129 ((6 * v4) + v5)) 1152921504606846976) = 0 → am_X (am_FI G (d + 1) Q) mX11_states (0, 0) 91 [some (am_r (some 91)), some (am_i v1), none, some (am_i v3), some (am_i v4), some (am_i v5)] [am_i v2] (am_K0, σ)) (k2 : ¬ (¬ (am_lcmp (σ.2.1 129 ((6 * v4) + v5)) 1152921504606846976) = 0) → am_X (am_FI G (d + 1) Q) mX11_states (0, 0) 87 [some (am_r (some 91)), some (am_i v1), none, some (am_i v3), some (am_i v4), some (am_i v5)] [am_i v2] (am_K0, σ)) : am_X (am_FI G (d + 1) Q) mX11_states (0, 0) 66 [some (am_r (some 91)), some (am_i v1), some (am_i v2), some (am_i v3), some (am_i v4), some (am_i v5)] [] (am_K0, σ) := by
  refine am_r_iload_n (nx := 67) rfl rfl (show decode cX11_states 66 = .ok (.iload_n 2, 1) by decide +kernel) rfl ?_
  refine am_r_aload_n (nx := 68) rfl rfl (show decode cX11_states 67 = .ok (.aload_n 0, 1) by decide +kernel) rfl ?_
  refine am_r_getF (nx := 71) 55 cw11 (by decide) rfl (Or.inl fl_X11_123) (ob_91) (fn_91_55) (show decode cX11_states 68 = .ok (.getfield 123, 3) by decide +kernel) rfl ?_
  refine am_r_bipush (nx := 73) rfl (show decode cX11_states 71 = .ok (.bipush 6, 2) by decide +kernel) rfl ?_
  refine am_r_iload (nx := 75) rfl (show decode cX11_states 73 = .ok (.iload 4, 2) by decide +kernel) rfl ?_
  refine am_r_imul (nx := 76) (show decode cX11_states 75 = .ok (.imul, 1) by decide +kernel) rfl ?_
  refine am_r_iload (nx := 78) rfl (show decode cX11_states 76 = .ok (.iload 5, 2) by decide +kernel) rfl ?_
  refine am_r_iadd (nx := 79) (show decode cX11_states 78 = .ok (.iadd, 1) by decide +kernel) rfl ?_
  refine am_r_lald (nx := 80) (sh_129) (am_shle (sh_129)) hi1 hj2 (show decode cX11_states 79 = .ok (.laload, 1) by decide +kernel) rfl ?_
  refine am_r_ldc2 (nx := 83) (n := 1152921504606846976) (am_mt 1448 (by decide +kernel) rfl) (show decode cX11_states 80 = .ok (.ldc2_w 393, 3) by decide +kernel) rfl ?_
  refine am_r_lcmp (nx := 84) (show decode cX11_states 83 = .ok (.lcmp, 1) by decide +kernel) rfl ?_
  refine am_r_if_ne (tg := 91) (nx := 87) (show decode cX11_states 84 = .ok (.ifCond .ne 7, 3) by decide +kernel) (by decide) rfl (am_lcmp_rg _ _) ?_ ?_
  · exact fun q => am_x_fg [2] (k1 q)
  · exact fun q => am_x_fg [2] (k2 q)
theorem S_X11_states_87 {G : am_G} {d : Nat} {Q : Int → am_D → Prop} {σ : am_D} {v1 : Int} {v3 : Int} {v4 : Int} {v5 : Int} {s0 : Int}  (k : am_X (am_FI G (d + 1) Q) mX11_states (0, 0) 95 [some (am_r (some 91)), some (am_i v1), none, some (am_i v3), some (am_i v4), some (am_i v5)] [am_i 0, am_i s0] (am_K0, σ)) : am_X (am_FI G (d + 1) Q) mX11_states (0, 0) 87 [some (am_r (some 91)), some (am_i v1), none, some (am_i v3), some (am_i v4), some (am_i v5)] [am_i s0] (am_K0, σ) := by
  refine am_r_iconst (nx := 88) (show decode cX11_states 87 = .ok (.iconst 0, 1) by decide +kernel) rfl ?_
  refine am_r_goto (tg := 95) (show decode cX11_states 88 = .ok (.goto 7, 3) by decide +kernel) (by decide) ?_
  exact k
theorem S_X11_states_91 {G : am_G} {d : Nat} {Q : Int → am_D → Prop} {σ : am_D} {v1 : Int} {v3 : Int} {v4 : Int} {v5 : Int} {s0 : Int}  (k : am_X (am_FI G (d + 1) Q) mX11_states (0, 0) 95 [some (am_r (some 91)), some (am_i v1), none, some (am_i v3), some (am_i v4), some (am_i v5)] [am_i (am_shl 1 v5), am_i s0] (am_K0, σ)) : am_X (am_FI G (d + 1) Q) mX11_states (0, 0) 91 [some (am_r (some 91)), some (am_i v1), none, some (am_i v3), some (am_i v4), some (am_i v5)] [am_i s0] (am_K0, σ) := by
  refine am_r_iconst (nx := 92) (show decode cX11_states 91 = .ok (.iconst 1, 1) by decide +kernel) rfl ?_
  refine am_r_iload (nx := 94) rfl (show decode cX11_states 92 = .ok (.iload 5, 2) by decide +kernel) rfl ?_
  refine am_r_ishl (nx := 95) (show decode cX11_states 94 = .ok (.ishl, 1) by decide +kernel) rfl ?_
  exact k
theorem S_X11_states_95 {G : am_G} {d : Nat} {Q : Int → am_D → Prop} {σ : am_D} {v1 : Int} {v3 : Int} {v4 : Int} {v5 : Int} {s0 : Int} {s1 : Int}  (k : am_X (am_FI G (d + 1) Q) mX11_states (0, 0) 97 [some (am_r (some 91)), some (am_i v1), some (am_i (am_or s0 s1)), some (am_i v3), some (am_i v4), some (am_i v5)] [] (am_K0, σ)) : am_X (am_FI G (d + 1) Q) mX11_states (0, 0) 95 [some (am_r (some 91)), some (am_i v1), none, some (am_i v3), some (am_i v4), some (am_i v5)] [am_i s1, am_i s0] (am_K0, σ) := by
  refine am_r_ior (nx := 96) (show decode cX11_states 95 = .ok (.ior, 1) by decide +kernel) rfl ?_
  refine am_r_istore_n (nx := 97) rfl (by decide) rfl (show decode cX11_states 96 = .ok (.istore_n 2, 1) by decide +kernel) rfl ?_
  exact k
theorem S_X11_states_97 {G : am_G} {d : Nat} {Q : Int → am_D → Prop} {σ : am_D} {v1 : Int} {v2 : Int} {v3 : Int} {v4 : Int} {v5 : Int}  (k : am_X (am_FI G (d + 1) Q) mX11_states (0, 0) 55 [some (am_r (some 91)), some (am_i v1), some (am_i v2), some (am_i v3), some (am_i v4), some (am_i (v5 + 1))] [] (am_K0, σ)) : am_X (am_FI G (d + 1) Q) mX11_states (0, 0) 97 [some (am_r (some 91)), some (am_i v1), some (am_i v2), some (am_i v3), some (am_i v4), some (am_i v5)] [] (am_K0, σ) := by
  refine am_r_iinc (nx := 100) rfl rfl (show decode cX11_states 97 = .ok (.iinc 5 1, 3) by decide +kernel) rfl ?_
  refine am_r_goto (tg := 55) (show decode cX11_states 100 = .ok (.goto (-45), 3) by decide +kernel) (by decide) ?_
  exact k
theorem S_X11_states_103 {G : am_G} {d : Nat} {Q : Int → am_D → Prop} {σ : am_D} {v1 : Int} {v2 : Int} {v3 : Int} {v4 : Int}  (k : am_X (am_FI G (d + 1) Q) mX11_states (0, 0) 106 [some (am_r (some 91)), some (am_i v1), some (am_i v2), some (am_i v3), some (am_i v4), some (am_i 0)] [] (am_K0, σ)) : am_X (am_FI G (d + 1) Q) mX11_states (0, 0) 103 [some (am_r (some 91)), some (am_i v1), some (am_i v2), some (am_i v3), some (am_i v4), none] [] (am_K0, σ) := by
  refine am_r_iconst (nx := 104) (show decode cX11_states 103 = .ok (.iconst 0, 1) by decide +kernel) rfl ?_
  refine am_r_istore (nx := 106) (by decide) rfl (show decode cX11_states 104 = .ok (.istore 5, 2) by decide +kernel) rfl ?_
  exact k
theorem S_X11_states_106 {G : am_G} {d : Nat} {Q : Int → am_D → Prop} {σ : am_D} {v1 : Int} {v2 : Int} {v3 : Int} {v4 : Int} {v5 : Int} (hr1 : -2147483648 ≤ v5 ∧ v5 ≤ 2147483647) (k1 : 3 ≤ v5 → am_X (am_FI G (d + 1) Q) mX11_states (0, 0) 157 [some (am_r (some 91)), some (am_i v1), some (am_i v2), some (am_i v3), some (am_i v4), none] [] (am_K0, σ)) (k2 : ¬ (3 ≤ v5) → am_X (am_FI G (d + 1) Q) mX11_states (0, 0) 112 [some (am_r (some 91)), some (am_i v1), some (am_i v2), some (am_i v3), some (am_i v4), some (am_i v5)] [] (am_K0, σ)) : am_X (am_FI G (d + 1) Q) mX11_states (0, 0) 106 [some (am_r (some 91)), some (am_i v1), some (am_i v2), some (am_i v3), some (am_i v4), some (am_i v5)] [] (am_K0, σ) := by
  refine am_r_iload (nx := 108) rfl (show decode cX11_states 106 = .ok (.iload 5, 2) by decide +kernel) rfl ?_
  refine am_r_iconst (nx := 109) (show decode cX11_states 108 = .ok (.iconst 3, 1) by decide +kernel) rfl ?_
  refine am_r_icmp_ge (tg := 157) (nx := 112) (show decode cX11_states 109 = .ok (.if_icmp .ge 48, 3) by decide +kernel) (by decide) rfl hr1 (by omega) ?_ ?_
  · exact fun q => am_x_fg [5] (k1 q)
  · exact fun q => k2 q
theorem S_X11_states_112 {G : am_G} {d : Nat} {Q : Int → am_D → Prop} {σ : am_D} {v1 : Int} {v2 : Int} {v3 : Int} {v4 : Int} {v5 : Int} {Q' : Int → am_D → Prop} (hc : am_MI G d mX11_openAt [am_i v1, am_i v5, am_i v4] σ Q') (k : ∀ (x : Int) (σ' : am_D), Q' x σ' → am_X (am_FI G (d + 1) Q) mX11_states (0, 0) 125 [some (am_r (some 91)), some (am_i v1), none, some (am_i v3), some (am_i v4), some (am_i v5)] [am_i x, am_r (some 98), am_i v2] (am_K0, σ')) : am_X (am_FI G (d + 1) Q) mX11_states (0, 0) 112 [some (am_r (some 91)), some (am_i v1), some (am_i v2), some (am_i v3), some (am_i v4), some (am_i v5)] [] (am_K0, σ) := by
  refine am_r_iload_n (nx := 113) rfl rfl (show decode cX11_states 112 = .ok (.iload_n 2, 1) by decide +kernel) rfl ?_
  refine am_r_aload_n (nx := 114) rfl rfl (show decode cX11_states 113 = .ok (.aload_n 0, 1) by decide +kernel) rfl ?_
  refine am_r_getF (nx := 117) 12 cw11 (by decide) rfl (Or.inl fl_X11_30) (ob_91) (fn_91_12) (show decode cX11_states 114 = .ok (.getfield 30, 3) by decide +kernel) rfl ?_
  refine am_r_iload_n (nx := 118) rfl rfl (show decode cX11_states 117 = .ok (.iload_n 1, 1) by decide +kernel) rfl ?_
  refine am_r_iload (nx := 120) rfl (show decode cX11_states 118 = .ok (.iload 5, 2) by decide +kernel) rfl ?_
  refine am_r_iload (nx := 122) rfl (show decode cX11_states 120 = .ok (.iload 4, 2) by decide +kernel) rfl ?_
  refine am_r_callS (as := [am_i v1, am_i v5, am_i v4]) (st := [am_r (some 98), am_i v2]) hc mb_X11_openAt mv_X11_openAt (Or.inl ml_X11_246) rfl rfl (Nat.le_of_ble_eq_true rfl) ⟨Nat.le_refl _, Nat.le_refl _⟩ ⟨Nat.le_refl _, Nat.le_refl _⟩ (show decode cX11_states 122 = .ok (.invokestatic 246, 3) by decide +kernel) ?_
  rintro _ _ ⟨x, σ', rfl, rfl, hq⟩ _
  exact am_x_fg [2] (k x σ' hq)
theorem S_X11_states_125 {G : am_G} {d : Nat} {Q : Int → am_D → Prop} {σ : am_D} {v1 : Int} {v3 : Int} {v4 : Int} {v5 : Int} {s0 : Int} {s2 : Int} {s1 : Nat} {n1 : Nat} (hs2 : am_sh am_SH s1 = (100, n1)) (hi3 : 0 ≤ s2) (hj4 : s2 < ((n1 : Nat) : Int)) (hr5 : -2147483648 ≤ (σ.1 s1 s2) ∧ (σ.1 s1 s2) ≤ 2147483647) (k1 : ¬ (σ.1 s1 s2) = (-1) → am_X (am_FI G (d + 1) Q) mX11_states (0, 0) 134 [some (am_r (some 91)), some (am_i v1), none, some (am_i v3), some (am_i v4), some (am_i v5)] [am_i s0] (am_K0, σ)) (k2 : ¬ (¬ (σ.1 s1 s2) = (-1)) → am_X (am_FI G (d + 1) Q) mX11_states (0, 0) 130 [some (am_r (some 91)), some (am_i v1), none, some (am_i v3), some (am_i v4), some (am_i v5)] [am_i s0] (am_K0, σ)) : am_X (am_FI G (d + 1) Q) mX11_states (0, 0) 125 [some (am_r (some 91)), some (am_i v1), none, some (am_i v3), some (am_i v4), some (am_i v5)] [am_i s2, am_r (some s1), am_i s0] (am_K0, σ) := by
  refine am_r_iald (nx := 126) (hs2) (am_shle (hs2)) hi3 hj4 (show decode cX11_states 125 = .ok (.iaload, 1) by decide +kernel) rfl ?_
  refine am_r_iconst (nx := 127) (show decode cX11_states 126 = .ok (.iconst (-1), 1) by decide +kernel) rfl ?_
  refine am_r_icmp_ne (tg := 134) (nx := 130) (show decode cX11_states 127 = .ok (.if_icmp .ne 7, 3) by decide +kernel) (by decide) rfl hr5 (by omega) ?_ ?_
  · exact fun q => k1 q
  · exact fun q => k2 q
theorem S_X11_states_130 {G : am_G} {d : Nat} {Q : Int → am_D → Prop} {σ : am_D} {v1 : Int} {v3 : Int} {v4 : Int} {v5 : Int} {s0 : Int}  (k : am_X (am_FI G (d + 1) Q) mX11_states (0, 0) 149 [some (am_r (some 91)), some (am_i v1), none, some (am_i v3), some (am_i v4), some (am_i v5)] [am_i 0, am_i s0] (am_K0, σ)) : am_X (am_FI G (d + 1) Q) mX11_states (0, 0) 130 [some (am_r (some 91)), some (am_i v1), none, some (am_i v3), some (am_i v4), some (am_i v5)] [am_i s0] (am_K0, σ) := by
  refine am_r_iconst (nx := 131) (show decode cX11_states 130 = .ok (.iconst 0, 1) by decide +kernel) rfl ?_
  refine am_r_goto (tg := 149) (show decode cX11_states 131 = .ok (.goto 18, 3) by decide +kernel) (by decide) ?_
  exact k
theorem S_X11_states_134 {G : am_G} {d : Nat} {Q : Int → am_D → Prop} {σ : am_D} {v1 : Int} {v3 : Int} {v4 : Int} {v5 : Int} {s0 : Int} {Q' : Int → am_D → Prop} (hc : am_MI G d mX11_openAt [am_i v1, am_i v5, am_i v4] σ Q') (k : ∀ (x : Int) (σ' : am_D), Q' x σ' → am_X (am_FI G (d + 1) Q) mX11_states (0, 0) 147 [some (am_r (some 91)), some (am_i v1), none, some (am_i v3), some (am_i v4), some (am_i v5)] [am_i x, am_r (some 98), am_i 1, am_i s0] (am_K0, σ')) : am_X (am_FI G (d + 1) Q) mX11_states (0, 0) 134 [some (am_r (some 91)), some (am_i v1), none, some (am_i v3), some (am_i v4), some (am_i v5)] [am_i s0] (am_K0, σ) := by
  refine am_r_iconst (nx := 135) (show decode cX11_states 134 = .ok (.iconst 1, 1) by decide +kernel) rfl ?_
  refine am_r_aload_n (nx := 136) rfl rfl (show decode cX11_states 135 = .ok (.aload_n 0, 1) by decide +kernel) rfl ?_
  refine am_r_getF (nx := 139) 12 cw11 (by decide) rfl (Or.inl fl_X11_30) (ob_91) (fn_91_12) (show decode cX11_states 136 = .ok (.getfield 30, 3) by decide +kernel) rfl ?_
  refine am_r_iload_n (nx := 140) rfl rfl (show decode cX11_states 139 = .ok (.iload_n 1, 1) by decide +kernel) rfl ?_
  refine am_r_iload (nx := 142) rfl (show decode cX11_states 140 = .ok (.iload 5, 2) by decide +kernel) rfl ?_
  refine am_r_iload (nx := 144) rfl (show decode cX11_states 142 = .ok (.iload 4, 2) by decide +kernel) rfl ?_
  refine am_r_callS (as := [am_i v1, am_i v5, am_i v4]) (st := [am_r (some 98), am_i 1, am_i s0]) hc mb_X11_openAt mv_X11_openAt (Or.inl ml_X11_246) rfl rfl (Nat.le_of_ble_eq_true rfl) ⟨Nat.le_refl _, Nat.le_refl _⟩ ⟨Nat.le_refl _, Nat.le_refl _⟩ (show decode cX11_states 144 = .ok (.invokestatic 246, 3) by decide +kernel) ?_
  rintro _ _ ⟨x, σ', rfl, rfl, hq⟩ _
  exact (k x σ' hq)
theorem S_X11_states_147 {G : am_G} {d : Nat} {Q : Int → am_D → Prop} {σ : am_D} {v1 : Int} {v3 : Int} {v4 : Int} {v5 : Int} {s0 : Int} {s1 : Int} {s3 : Int} {s2 : Nat} {n1 : Nat} (hs2 : am_sh am_SH s2 = (100, n1)) (hi3 : 0 ≤ s3) (hj4 : s3 < ((n1 : Nat) : Int)) (k : am_X (am_FI G (d + 1) Q) mX11_states (0, 0) 149 [some (am_r (some 91)), some (am_i v1), none, some (am_i v3), some (am_i v4), some (am_i v5)] [am_i (am_shl s1 (σ.1 s2 s3)), am_i s0] (am_K0, σ)) : am_X (am_FI G (d + 1) Q) mX11_states (0, 0) 147 [some (am_r (some 91)), some (am_i v1), none, some (am_i v3), some (am_i v4), some (am_i v5)] [am_i s3, am_r (some s2), am_i s1, am_i s0] (am_K0, σ) := by
  refine am_r_iald (nx := 148) (hs2) (am_shle (hs2)) hi3 hj4 (show decode cX11_states 147 = .ok (.iaload, 1) by decide +kernel) rfl ?_
  refine am_r_ishl (nx := 149) (show decode cX11_states 148 = .ok (.ishl, 1) by decide +kernel) rfl ?_
  exact k
theorem S_X11_states_149 {G : am_G} {d : Nat} {Q : Int → am_D → Prop} {σ : am_D} {v1 : Int} {v3 : Int} {v4 : Int} {v5 : Int} {s0 : Int} {s1 : Int}  (k : am_X (am_FI G (d + 1) Q) mX11_states (0, 0) 151 [some (am_r (some 91)), some (am_i v1), some (am_i (am_or s0 s1)), some (am_i v3), some (am_i v4), some (am_i v5)] [] (am_K0, σ)) : am_X (am_FI G (d + 1) Q) mX11_states (0, 0) 149 [some (am_r (some 91)), some (am_i v1), none, some (am_i v3), some (am_i v4), some (am_i v5)] [am_i s1, am_i s0] (am_K0, σ) := by
  refine am_r_ior (nx := 150) (show decode cX11_states 149 = .ok (.ior, 1) by decide +kernel) rfl ?_
  refine am_r_istore_n (nx := 151) rfl (by decide) rfl (show decode cX11_states 150 = .ok (.istore_n 2, 1) by decide +kernel) rfl ?_
  exact k
theorem S_X11_states_151 {G : am_G} {d : Nat} {Q : Int → am_D → Prop} {σ : am_D} {v1 : Int} {v2 : Int} {v3 : Int} {v4 : Int} {v5 : Int}  (k : am_X (am_FI G (d + 1) Q) mX11_states (0, 0) 106 [some (am_r (some 91)), some (am_i v1), some (am_i v2), some (am_i v3), some (am_i v4), some (am_i (v5 + 1))] [] (am_K0, σ)) : am_X (am_FI G (d + 1) Q) mX11_states (0, 0) 151 [some (am_r (some 91)), some (am_i v1), some (am_i v2), some (am_i v3), some (am_i v4), some (am_i v5)] [] (am_K0, σ) := by
  refine am_r_iinc (nx := 154) rfl rfl (show decode cX11_states 151 = .ok (.iinc 5 1, 3) by decide +kernel) rfl ?_
  refine am_r_goto (tg := 106) (show decode cX11_states 154 = .ok (.goto (-48), 3) by decide +kernel) (by decide) ?_
  exact k
theorem S_X11_states_157 {G : am_G} {d : Nat} {Q : Int → am_D → Prop} {σ : am_D} {v1 : Int} {v2 : Int} {v3 : Int} {v4 : Int}  (k : am_X (am_FI G (d + 1) Q) mX11_states (0, 0) 29 [some (am_r (some 91)), some (am_i v1), some (am_i v2), some (am_i v3), some (am_i (v4 + 1)), none] [] (am_K0, σ)) : am_X (am_FI G (d + 1) Q) mX11_states (0, 0) 157 [some (am_r (some 91)), some (am_i v1), some (am_i v2), some (am_i v3), some (am_i v4), none] [] (am_K0, σ) := by
  refine am_r_iinc (nx := 160) rfl rfl (show decode cX11_states 157 = .ok (.iinc 4 1, 3) by decide +kernel) rfl ?_
  refine am_r_goto (tg := 29) (show decode cX11_states 160 = .ok (.goto (-131), 3) by decide +kernel) (by decide) ?_
  exact k
theorem S_X11_states_163 {G : am_G} {d : Nat} {Q : Int → am_D → Prop} {σ : am_D} {v1 : Int} {v2 : Int} {v3 : Int}  (k : am_X (am_FI G (d + 1) Q) mX11_states (0, 0) 19 [some (am_r (some 91)), some (am_i v1), some (am_i v2), some (am_i v3), none, none] [] (am_K0, σ)) : am_X (am_FI G (d + 1) Q) mX11_states (0, 0) 163 [some (am_r (some 91)), some (am_i v1), some (am_i v2), some (am_i v3), none, none] [] (am_K0, σ) := by
  refine am_r_goto (tg := 19) (show decode cX11_states 163 = .ok (.goto (-144), 3) by decide +kernel) (by decide) ?_
  exact k
theorem S_X11_states_166 {G : am_G} {d : Nat} {Q : Int → am_D → Prop} {σ : am_D} {v2 : Int}  (k : Q v2 σ) : am_X (am_FI G (d + 1) Q) mX11_states (0, 0) 166 [none, none, some (am_i v2), none, none, none] [] (am_K0, σ) := by
  refine am_r_iload_n (nx := 167) rfl rfl (show decode cX11_states 166 = .ok (.iload_n 2, 1) by decide +kernel) rfl ?_
  exact am_r_iret rfl rfl (show decode cX11_states 167 = .ok (.ireturn, 1) by decide +kernel) ⟨_, _, rfl, rfl, k⟩
end
