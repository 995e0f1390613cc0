section
theorem S_X11_mostOwn_0 {G : am_G} {d : Nat} {Q : Int → am_D → Prop} {σ : am_D} {v1 : Int} {v2 : Int} {v3 : Int}  (k : am_X (am_FI G (d + 1) Q) mX11_mostOwn (0, 0) 3 [some (am_r (some 91)), some (am_i v1), some (am_i v2), some (am_i v3), some (am_i 0), none] [] (am_K0, σ)) : am_X (am_FI G (d + 1) Q) mX11_mostOwn (0, 0) 0 [some (am_r (some 91)), some (am_i v1), some (am_i v2), some (am_i v3), none, none] [] (am_K0, σ) := by
  refine am_r_iconst (nx := 1) (show decode cX11_mostOwn 0 = .ok (.iconst 0, 1) by decide +kernel) rfl ?_
  refine am_r_istore (nx := 3) (by decide) rfl (show decode cX11_mostOwn 1 = .ok (.istore 4, 2) by decide +kernel) rfl ?_
  exact k
theorem S_X11_mostOwn_3 {G : am_G} {d : Nat} {Q : Int → am_D → Prop} {σ : am_D} {v1 : Int} {v2 : Int} {v3 : Int} {v4 : Int}  (k : am_X (am_FI G (d + 1) Q) mX11_mostOwn (0, 0) 6 [some (am_r (some 91)), some (am_i v1), some (am_i v2), some (am_i v3), some (am_i v4), some (am_i 0)] [] (am_K0, σ)) : am_X (am_FI G (d + 1) Q) mX11_mostOwn (0, 0) 3 [some (am_r (some 91)), some (am_i v1), some (am_i v2), some (am_i v3), some (am_i v4), none] [] (am_K0, σ) := by
  refine am_r_iconst (nx := 4) (show decode cX11_mostOwn 3 = .ok (.iconst 0, 1) by decide +kernel) rfl ?_
  refine am_r_istore (nx := 6) (by decide) rfl (show decode cX11_mostOwn 4 = .ok (.istore 5, 2) by decide +kernel) rfl ?_
  exact k
theorem S_X11_mostOwn_6 {G : am_G} {d : Nat} {Q : Int → am_D → Prop} {σ : am_D} {v1 : Int} {v2 : Int} {v3 : Int} {v4 : Int} {v5 : Int} (hr1 : -2147483648 ≤ v5 ∧ v5 ≤ 2147483647) (k1 : 108 ≤ v5 → am_X (am_FI G (d + 1) Q) mX11_mostOwn (0, 0) 68 [some (am_r (some 91)), some (am_i v1), none, some (am_i v3), some (am_i v4), none] [] (am_K0, σ)) (k2 : ¬ (108 ≤ v5) → am_X (am_FI G (d + 1) Q) mX11_mostOwn (0, 0) 13 [some (am_r (some 91)), some (am_i v1), some (am_i v2), some (am_i v3), some (am_i v4), some (am_i v5)] [] (am_K0, σ)) : am_X (am_FI G (d + 1) Q) mX11_mostOwn (0, 0) 6 [some (am_r (some 91)), some (am_i v1), some (am_i v2), some (am_i v3), some (am_i v4), some (am_i v5)] [] (am_K0, σ) := by
  refine am_r_iload (nx := 8) rfl (show decode cX11_mostOwn 6 = .ok (.iload 5, 2) by decide +kernel) rfl ?_
  refine am_r_bipush (nx := 10) rfl (show decode cX11_mostOwn 8 = .ok (.bipush 108, 2) by decide +kernel) rfl ?_
  refine am_r_icmp_ge (tg := 68) (nx := 13) (show decode cX11_mostOwn 10 = .ok (.if_icmp .ge 58, 3) by decide +kernel) (by decide) rfl hr1 (by omega) ?_ ?_
  · exact fun q => am_x_fg [2, 5] (k1 q)
  · exact fun q => k2 q
theorem S_X11_mostOwn_13 {G : am_G} {d : Nat} {Q : Int → am_D → Prop} {σ : am_D} {v1 : Int} {v2 : Int} {v3 : Int} {v4 : Int} {v5 : Int} (hr1 : -2147483648 ≤ v2 ∧ v2 ≤ 2147483647) (k1 : v2 = 0 → am_X (am_FI G (d + 1) Q) mX11_mostOwn (0, 0) 68 [some (am_r (some 91)), some (am_i v1), none, some (am_i v3), some (am_i v4), none] [] (am_K0, σ)) (k2 : ¬ (v2 = 0) → am_X (am_FI G (d + 1) Q) mX11_mostOwn (0, 0) 17 [some (am_r (some 91)), some (am_i v1), some (am_i v2), some (am_i v3), some (am_i v4), some (am_i v5)] [] (am_K0, σ)) : am_X (am_FI G (d + 1) Q) mX11_mostOwn (0, 0) 13 [some (am_r (some 91)), some (am_i v1), some (am_i v2), some (am_i v3), some (am_i v4), some (am_i v5)] [] (am_K0, σ) := by
  refine am_r_iload_n (nx := 14) rfl rfl (show decode cX11_mostOwn 13 = .ok (.iload_n 2, 1) by decide +kernel) rfl ?_
  refine am_r_if_eq (tg := 68) (nx := 17) (show decode cX11_mostOwn 14 = .ok (.ifCond .eq 54, 3) by decide +kernel) (by decide) rfl hr1 ?_ ?_
  · exact fun q => am_x_fg [2, 5] (k1 q)
  · exact fun q => k2 q
theorem S_X11_mostOwn_17 {G : am_G} {d : Nat} {Q : Int → am_D → Prop} {σ : am_D} {v1 : Int} {v2 : Int} {v3 : Int} {v4 : Int} {v5 : Int} (hi1 : 0 ≤ ((108 * v1) + v5)) (hj2 : ((108 * v1) + v5) < 648) (hr3 : -2147483648 ≤ (σ.1 100 ((108 * v1) + v5)) ∧ (σ.1 100 ((108 * v1) + v5)) ≤ 2147483647) (k1 : (σ.1 100 ((108 * v1) + v5)) = (-1) → am_X (am_FI G (d + 1) Q) mX11_mostOwn (0, 0) 62 [some (am_r (some 91)), some (am_i v1), some (am_i v2), some (am_i v3), some (am_i v4), some (am_i v5)] [] (am_K0, σ)) (k2 : ¬ ((σ.1 100 ((108 * v1) + v5)) = (-1)) → am_X (am_FI G (d + 1) Q) mX11_mostOwn (0, 0) 33 [some (am_r (some 91)), some (am_i v1), some (am_i v2), some (am_i v3), some (am_i v4), some (am_i v5)] [] (am_K0, σ)) : am_X (am_FI G (d + 1) Q) mX11_mostOwn (0, 0) 17 [some (am_r (some 91)), some (am_i v1), some (am_i v2), some (am_i v3), some (am_i v4), some (am_i v5)] [] (am_K0, σ) := by
  refine am_r_aload_n (nx := 18) rfl rfl (show decode cX11_mostOwn 17 = .ok (.aload_n 0, 1) by decide +kernel) rfl ?_
  refine am_r_getF (nx := 21) 14 cw11 (by decide) rfl (Or.inl fl_X11_36) (ob_91) (fn_91_14) (show decode cX11_mostOwn 18 = .ok (.getfield 36, 3) by decide +kernel) rfl ?_
  refine am_r_bipush (nx := 23) rfl (show decode cX11_mostOwn 21 = .ok (.bipush 108, 2) by decide +kernel) rfl ?_
  refine am_r_iload_n (nx := 24) rfl rfl (show decode cX11_mostOwn 23 = .ok (.iload_n 1, 1) by decide +kernel) rfl ?_
  refine am_r_imul (nx := 25) (show decode cX11_mostOwn 24 = .ok (.imul, 1) by decide +kernel) rfl ?_
  refine am_r_iload (nx := 27) rfl (show decode cX11_mostOwn 25 = .ok (.iload 5, 2) by decide +kernel) rfl ?_
  refine am_r_iadd (nx := 28) (show decode cX11_mostOwn 27 = .ok (.iadd, 1) by decide +kernel) rfl ?_
  refine am_r_iald (nx := 29) (sh_100) (am_shle (sh_100)) hi1 hj2 (show decode cX11_mostOwn 28 = .ok (.iaload, 1) by decide +kernel) rfl ?_
  refine am_r_iconst (nx := 30) (show decode cX11_mostOwn 29 = .ok (.iconst (-1), 1) by decide +kernel) rfl ?_
  refine am_r_icmp_eq (tg := 62) (nx := 33) (show decode cX11_mostOwn 30 = .ok (.if_icmp .eq 32, 3) by decide +kernel) (by decide) rfl hr3 (by omega) ?_ ?_
  · exact fun q => k1 q
  · exact fun q => k2 q
theorem S_X11_mostOwn_33 {G : am_G} {d : Nat} {Q : Int → am_D → Prop} {σ : am_D} {v1 : Int} {v2 : Int} {v3 : Int} {v4 : Int} {v5 : Int} {Q' : Int → am_D → Prop} (hi1 : 0 ≤ ((108 * v1) + v5)) (hj2 : ((108 * v1) + v5) < 648) (hi3 : 0 ≤ ((24 * v1) + (σ.1 101 ((108 * v1) + v5)))) (hj4 : ((24 * v1) + (σ.1 101 ((108 * v1) + v5))) < 144) (hc : am_MI G d mJ9_max_7cf53 [am_i v4, am_i (σ.1 105 ((24 * v1) + (σ.1 101 ((108 * v1) + v5))))] σ Q') (k : ∀ (x : Int) (σ' : am_D), Q' x σ' → am_X (am_FI G (d + 1) Q) mX11_mostOwn (0, 0) 62 [some (am_r (some 91)), some (am_i v1), some (am_i v2), some (am_i v3), some (am_i x), some (am_i v5)] [] (am_K0, σ')) : am_X (am_FI G (d + 1) Q) mX11_mostOwn (0, 0) 33 [some (am_r (some 91)), some (am_i v1), some (am_i v2), some (am_i v3), some (am_i v4), some (am_i v5)] [] (am_K0, σ) := by
  refine am_r_iload (nx := 35) rfl (show decode cX11_mostOwn 33 = .ok (.iload 4, 2) by decide +kernel) rfl ?_
  refine am_r_aload_n (nx := 36) rfl rfl (show decode cX11_mostOwn 35 = .ok (.aload_n 0, 1) by decide +kernel) rfl ?_
  refine am_r_getF (nx := 39) 19 cw11 (by decide) rfl (Or.inl fl_X11_51) (ob_91) (fn_91_19) (show decode cX11_mostOwn 36 = .ok (.getfield 51, 3) by decide +kernel) rfl ?_
  refine am_r_bipush (nx := 41) rfl (show decode cX11_mostOwn 39 = .ok (.bipush 24, 2) by decide +kernel) rfl ?_
  refine am_r_iload_n (nx := 42) rfl rfl (show decode cX11_mostOwn 41 = .ok (.iload_n 1, 1) by decide +kernel) rfl ?_
  refine am_r_imul (nx := 43) (show decode cX11_mostOwn 42 = .ok (.imul, 1) by decide +kernel) rfl ?_
  refine am_r_aload_n (nx := 44) rfl rfl (show decode cX11_mostOwn 43 = .ok (.aload_n 0, 1) by decide +kernel) rfl ?_
  refine am_r_getF (nx := 47) 15 cw11 (by decide) rfl (Or.inl fl_X11_39) (ob_91) (fn_91_15) (show decode cX11_mostOwn 44 = .ok (.getfield 39, 3) by decide +kernel) rfl ?_
  refine am_r_bipush (nx := 49) rfl (show decode cX11_mostOwn 47 = .ok (.bipush 108, 2) by decide +kernel) rfl ?_
  refine am_r_iload_n (nx := 50) rfl rfl (show decode cX11_mostOwn 49 = .ok (.iload_n 1, 1) by decide +kernel) rfl ?_
  refine am_r_imul (nx := 51) (show decode cX11_mostOwn 50 = .ok (.imul, 1) by decide +kernel) rfl ?_
  refine am_r_iload (nx := 53) rfl (show decode cX11_mostOwn 51 = .ok (.iload 5, 2) by decide +kernel) rfl ?_
  refine am_r_iadd (nx := 54) (show decode cX11_mostOwn 53 = .ok (.iadd, 1) by decide +kernel) rfl ?_
  refine am_r_iald (nx := 55) (sh_101) (am_shle (sh_101)) hi1 hj2 (show decode cX11_mostOwn 54 = .ok (.iaload, 1) by decide +kernel) rfl ?_
  refine am_r_iadd (nx := 56) (show decode cX11_mostOwn 55 = .ok (.iadd, 1) by decide +kernel) rfl ?_
  refine am_r_iald (nx := 57) (sh_105) (am_shle (sh_105)) hi3 hj4 (show decode cX11_mostOwn 56 = .ok (.iaload, 1) by decide +kernel) rfl ?_
  refine am_r_callS (as := [am_i v4, am_i (σ.1 105 ((24 * v1) + (σ.1 101 ((108 * v1) + v5))))]) (st := []) hc mb_J9_max_7cf53 mv_J9_max_7cf53 (Or.inl ml_X11_302) rfl rfl (Nat.le_of_ble_eq_true rfl) ⟨Nat.le_refl _, Nat.le_refl _⟩ ⟨Nat.le_refl _, Nat.le_refl _⟩ (show decode cX11_mostOwn 57 = .ok (.invokestatic 302, 3) by decide +kernel) ?_
  rintro _ _ ⟨x, σ', rfl, rfl, hq⟩ _
  refine am_r_istore (nx := 62) (by decide) rfl (show decode cX11_mostOwn 60 = .ok (.istore 4, 2) by decide +kernel) rfl ?_
  exact (k x σ' hq)
theorem S_X11_mostOwn_62 {G : am_G} {d : Nat} {Q : Int → am_D → Prop} {σ : am_D} {v1 : Int} {v2 : Int} {v3 : Int} {v4 : Int} {v5 : Int}  (k : am_X (am_FI G (d + 1) Q) mX11_mostOwn (0, 0) 6 [some (am_r (some 91)), some (am_i v1), some (am_i v2), some (am_i v3), some (am_i v4), some (am_i (v5 + 1))] [] (am_K0, σ)) : am_X (am_FI G (d + 1) Q) mX11_mostOwn (0, 0) 62 [some (am_r (some 91)), some (am_i v1), some (am_i v2), some (am_i v3), some (am_i v4), some (am_i v5)] [] (am_K0, σ) := by
  refine am_r_iinc (nx := 65) rfl rfl (show decode cX11_mostOwn 62 = .ok (.iinc 5 1, 3) by decide +kernel) rfl ?_
  refine am_r_goto (tg := 6) (show decode cX11_mostOwn 65 = .ok (.goto (-59), 3) by decide +kernel) (by decide) ?_
  exact k
theorem S_X11_mostOwn_68 {G : am_G} {d : Nat} {Q : Int → am_D → Prop} {σ : am_D} {v1 : Int} {v3 : Int} {v4 : Int}  (k : am_X (am_FI G (d + 1) Q) mX11_mostOwn (0, 0) 71 [some (am_r (some 91)), some (am_i v1), none, some (am_i v3), some (am_i v4), some (am_i 0)] [] (am_K0, σ)) : am_X (am_FI G (d + 1) Q) mX11_mostOwn (0, 0) 68 [some (am_r (some 91)), some (am_i v1), none, some (am_i v3), some (am_i v4), none] [] (am_K0, σ) := by
  refine am_r_iconst (nx := 69) (show decode cX11_mostOwn 68 = .ok (.iconst 0, 1) by decide +kernel) rfl ?_
  refine am_r_istore (nx := 71) (by decide) rfl (show decode cX11_mostOwn 69 = .ok (.istore 5, 2) by decide +kernel) rfl ?_
  exact k
theorem S_X11_mostOwn_71 {G : am_G} {d : Nat} {Q : Int → am_D → Prop} {σ : am_D} {v1 : Int} {v3 : Int} {v4 : Int} {v5 : Int} (hr1 : -2147483648 ≤ v5 ∧ v5 ≤ 2147483647) (k1 : 6 ≤ v5 → am_X (am_FI G (d + 1) Q) mX11_mostOwn (0, 0) 133 [none, none, none, none, some (am_i v4), none] [] (am_K0, σ)) (k2 : ¬ (6 ≤ v5) → am_X (am_FI G (d + 1) Q) mX11_mostOwn (0, 0) 78 [some (am_r (some 91)), some (am_i v1), none, some (am_i v3), some (am_i v4), some (am_i v5)] [] (am_K0, σ)) : am_X (am_FI G (d + 1) Q) mX11_mostOwn (0, 0) 71 [some (am_r (some 91)), some (am_i v1), none, some (am_i v3), some (am_i v4), some (am_i v5)] [] (am_K0, σ) := by
  refine am_r_iload (nx := 73) rfl (show decode cX11_mostOwn 71 = .ok (.iload 5, 2) by decide +kernel) rfl ?_
  refine am_r_bipush (nx := 75) rfl (show decode cX11_mostOwn 73 = .ok (.bipush 6, 2) by decide +kernel) rfl ?_
  refine am_r_icmp_ge (tg := 133) (nx := 78) (show decode cX11_mostOwn 75 = .ok (.if_icmp .ge 58, 3) by decide +kernel) (by decide) rfl hr1 (by omega) ?_ ?_
  · exact fun q => am_x_fg [0, 1, 3, 5] (k1 q)
  · exact fun q => k2 q
theorem S_X11_mostOwn_78 {G : am_G} {d : Nat} {Q : Int → am_D → Prop} {σ : am_D} {v1 : Int} {v3 : Int} {v4 : Int} {v5 : Int} (hr1 : -2147483648 ≤ v3 ∧ v3 ≤ 2147483647) (k1 : v3 = 0 → am_X (am_FI G (d + 1) Q) mX11_mostOwn (0, 0) 133 [none, none, none, none, some (am_i v4), none] [] (am_K0, σ)) (k2 : ¬ (v3 = 0) → am_X (am_FI G (d + 1) Q) mX11_mostOwn (0, 0) 82 [some (am_r (some 91)), some (am_i v1), none, some (am_i v3), some (am_i v4), some (am_i v5)] [] (am_K0, σ)) : am_X (am_FI G (d + 1) Q) mX11_mostOwn (0, 0) 78 [some (am_r (some 91)), some (am_i v1), none, some (am_i v3), some (am_i v4), some (am_i v5)] [] (am_K0, σ) := by
  refine am_r_iload_n (nx := 79) rfl rfl (show decode cX11_mostOwn 78 = .ok (.iload_n 3, 1) by decide +kernel) rfl ?_
  refine am_r_if_eq (tg := 133) (nx := 82) (show decode cX11_mostOwn 79 = .ok (.ifCond .eq 54, 3) by decide +kernel) (by decide) rfl hr1 ?_ ?_
  · exact fun q => am_x_fg [0, 1, 3, 5] (k1 q)
  · exact fun q => k2 q
theorem S_X11_mostOwn_82 {G : am_G} {d : Nat} {Q : Int → am_D → Prop} {σ : am_D} {v1 : Int} {v3 : Int} {v4 : Int} {v5 : Int} (hi1 : 0 ≤ ((6 * v1) + v5)) (hj2 : ((6 * v1) + v5) < 36) (hr3 : -2147483648 ≤ (σ.1 102 ((6 * v1) + v5)) ∧ (σ.1 102 ((6 * v1) + v5)) ≤ 2147483647) (k1 : (σ.1 102 ((6 * v1) + v5)) = (-1) → am_X (am_FI G (d + 1) Q) mX11_mostOwn (0, 0) 127 [some (am_r (some 91)), some (am_i v1), none, some (am_i v3), some (am_i v4), some (am_i v5)] [] (am_K0, σ)) (k2 : ¬ ((σ.1 102 ((6 * v1) + v5)) = (-1)) → am_X (am_FI G (d + 1) Q) mX11_mostOwn (0, 0) 98 [some (am_r (some 91)), some (am_i v1), none, some (am_i v3), some (am_i v4), some (am_i v5)] [] (am_K0, σ)) : am_X (am_FI G (d + 1) Q) mX11_mostOwn (0, 0) 82 [some (am_r (some 91)), some (am_i v1), none, some (am_i v3), some (am_i v4), some (am_i v5)] [] (am_K0, σ) := by
  refine am_r_aload_n (nx := 83) rfl rfl (show decode cX11_mostOwn 82 = .ok (.aload_n 0, 1) by decide +kernel) rfl ?_
  refine am_r_getF (nx := 86) 16 cw11 (by decide) rfl (Or.inl fl_X11_42) (ob_91) (fn_91_16) (show decode cX11_mostOwn 83 = .ok (.getfield 42, 3) by decide +kernel) rfl ?_
  refine am_r_bipush (nx := 88) rfl (show decode cX11_mostOwn 86 = .ok (.bipush 6, 2) by decide +kernel) rfl ?_
  refine am_r_iload_n (nx := 89) rfl rfl (show decode cX11_mostOwn 88 = .ok (.iload_n 1, 1) by decide +kernel) rfl ?_
  refine am_r_imul (nx := 90) (show decode cX11_mostOwn 89 = .ok (.imul, 1) by decide +kernel) rfl ?_
  refine am_r_iload (nx := 92) rfl (show decode cX11_mostOwn 90 = .ok (.iload 5, 2) by decide +kernel) rfl ?_
  refine am_r_iadd (nx := 93) (show decode cX11_mostOwn 92 = .ok (.iadd, 1) by decide +kernel) rfl ?_
  refine am_r_iald (nx := 94) (sh_102) (am_shle (sh_102)) hi1 hj2 (show decode cX11_mostOwn 93 = .ok (.iaload, 1) by decide +kernel) rfl ?_
  refine am_r_iconst (nx := 95) (show decode cX11_mostOwn 94 = .ok (.iconst (-1), 1) by decide +kernel) rfl ?_
  refine am_r_icmp_eq (tg := 127) (nx := 98) (show decode cX11_mostOwn 95 = .ok (.if_icmp .eq 32, 3) by decide +kernel) (by decide) rfl hr3 (by omega) ?_ ?_
  · exact fun q => k1 q
  · exact fun q => k2 q
theorem S_X11_mostOwn_98 {G : am_G} {d : Nat} {Q : Int → am_D → Prop} {σ : am_D} {v1 : Int} {v3 : Int} {v4 : Int} {v5 : Int} {Q' : Int → am_D → Prop} (hi1 : 0 ≤ ((6 * v1) + v5)) (hj2 : ((6 * v1) + v5) < 36) (hi3 : 0 ≤ ((24 * v1) + (σ.1 102 ((6 * v1) + v5)))) (hj4 : ((24 * v1) + (σ.1 102 ((6 * v1) + v5))) < 144) (hc : am_MI G d mJ9_max_7cf53 [am_i v4, am_i (σ.1 105 ((24 * v1) + (σ.1 102 ((6 * v1) + v5))))] σ Q') (k : ∀ (x : Int) (σ' : am_D), Q' x σ' → am_X (am_FI G (d + 1) Q) mX11_mostOwn (0, 0) 127 [some (am_r (some 91)), some (am_i v1), none, some (am_i v3), some (am_i x), some (am_i v5)] [] (am_K0, σ')) : am_X (am_FI G (d + 1) Q) mX11_mostOwn (0, 0) 98 [some (am_r (some 91)), some (am_i v1), none, some (am_i v3), some (am_i v4), some (am_i v5)] [] (am_K0, σ) := by
  refine am_r_iload (nx := 100) rfl (show decode cX11_mostOwn 98 = .ok (.iload 4, 2) by decide +kernel) rfl ?_
  refine am_r_aload_n (nx := 101) rfl rfl (show decode cX11_mostOwn 100 = .ok (.aload_n 0, 1) by decide +kernel) rfl ?_
  refine am_r_getF (nx := 104) 19 cw11 (by decide) rfl (Or.inl fl_X11_51) (ob_91) (fn_91_19) (show decode cX11_mostOwn 101 = .ok (.getfield 51, 3) by decide +kernel) rfl ?_
  refine am_r_bipush (nx := 106) rfl (show decode cX11_mostOwn 104 = .ok (.bipush 24, 2) by decide +kernel) rfl ?_
  refine am_r_iload_n (nx := 107) rfl rfl (show decode cX11_mostOwn 106 = .ok (.iload_n 1, 1) by decide +kernel) rfl ?_
  refine am_r_imul (nx := 108) (show decode cX11_mostOwn 107 = .ok (.imul, 1) by decide +kernel) rfl ?_
  refine am_r_aload_n (nx := 109) rfl rfl (show decode cX11_mostOwn 108 = .ok (.aload_n 0, 1) by decide +kernel) rfl ?_
  refine am_r_getF (nx := 112) 16 cw11 (by decide) rfl (Or.inl fl_X11_42) (ob_91) (fn_91_16) (show decode cX11_mostOwn 109 = .ok (.getfield 42, 3) by decide +kernel) rfl ?_
  refine am_r_bipush (nx := 114) rfl (show decode cX11_mostOwn 112 = .ok (.bipush 6, 2) by decide +kernel) rfl ?_
  refine am_r_iload_n (nx := 115) rfl rfl (show decode cX11_mostOwn 114 = .ok (.iload_n 1, 1) by decide +kernel) rfl ?_
  refine am_r_imul (nx := 116) (show decode cX11_mostOwn 115 = .ok (.imul, 1) by decide +kernel) rfl ?_
  refine am_r_iload (nx := 118) rfl (show decode cX11_mostOwn 116 = .ok (.iload 5, 2) by decide +kernel) rfl ?_
  refine am_r_iadd (nx := 119) (show decode cX11_mostOwn 118 = .ok (.iadd, 1) by decide +kernel) rfl ?_
  refine am_r_iald (nx := 120) (sh_102) (am_shle (sh_102)) hi1 hj2 (show decode cX11_mostOwn 119 = .ok (.iaload, 1) by decide +kernel) rfl ?_
  refine am_r_iadd (nx := 121) (show decode cX11_mostOwn 120 = .ok (.iadd, 1) by decide +kernel) rfl ?_
  refine am_r_iald (nx := 122) (sh_105) (am_shle (sh_105)) hi3 hj4 (show decode cX11_mostOwn 121 = .ok (.iaload, 1) by decide +kernel) rfl ?_
  refine am_r_callS (as := [am_i v4, am_i (σ.1 105 ((24 * v1) + (σ.1 102 ((6 * v1) + v5))))]) (st := []) hc mb_J9_max_7cf53 mv_J9_max_7cf53 (Or.inl ml_X11_302) rfl rfl (Nat.le_of_ble_eq_true rfl) ⟨Nat.le_refl _, Nat.le_refl _⟩ ⟨Nat.le_refl _, Nat.le_refl _⟩ (show decode cX11_mostOwn 122 = .ok (.invokestatic 302, 3) by decide +kernel) ?_
  rintro _ _ ⟨x, σ', rfl, rfl, hq⟩ _
  refine am_r_istore (nx := 127) (by decide) rfl (show decode cX11_mostOwn 125 = .ok (.istore 4, 2) by decide +kernel) rfl ?_
  exact (k x σ' hq)
theorem S_X11_mostOwn_127 {G : am_G} {d : Nat} {Q : Int → am_D → Prop} {σ : am_D} {v1 : Int} {v3 : Int} {v4 : Int} {v5 : Int}  (k : am_X (am_FI G (d + 1) Q) mX11_mostOwn (0, 0) 71 [some (am_r (some 91)), some (am_i v1), none, some (am_i v3), some (am_i v4), some (am_i (v5 + 1))] [] (am_K0, σ)) : am_X (am_FI G (d + 1) Q) mX11_mostOwn (0, 0) 127 [some (am_r (some 91)), some (am_i v1), none, some (am_i v3), some (am_i v4), some (am_i v5)] [] (am_K0, σ) := by
  refine am_r_iinc (nx := 130) rfl rfl (show decode cX11_mostOwn 127 = .ok (.iinc 5 1, 3) by decide +kernel) rfl ?_
  refine am_r_goto (tg := 71) (show decode cX11_mostOwn 130 = .ok (.goto (-59), 3) by decide +kernel) (by decide) ?_
  exact k
theorem S_X11_mostOwn_133 {G : am_G} {d : Nat} {Q : Int → am_D → Prop} {σ : am_D} {v4 : Int}  (k : Q v4 σ) : am_X (am_FI G (d + 1) Q) mX11_mostOwn (0, 0) 133 [none, none, none, none, some (am_i v4), none] [] (am_K0, σ) := by
  refine am_r_iload (nx := 135) rfl (show decode cX11_mostOwn 133 = .ok (.iload 4, 2) by decide +kernel) rfl ?_
  exact am_r_iret rfl rfl (show decode cX11_mostOwn 135 = .ok (.ireturn, 1) by decide +kernel) ⟨_, _, rfl, rfl, k⟩
theorem S_X11_told_0 {G : am_G} {d : Nat} {Q : Int → am_D → Prop} {σ : am_D} {v1 : Int} {v2 : Int} {v0 : Option Nat}  (k : am_X (am_FI G (d + 1) Q) mX11_told (0, 0) 2 [some (am_r v0), some (am_i v1), some (am_i v2), some (am_i 0), none] [] (am_K0, σ)) : am_X (am_FI G (d + 1) Q) mX11_told (0, 0) 0 [some (am_r v0), some (am_i v1), some (am_i v2), none, none] [] (am_K0, σ) := by
  refine am_r_iconst (nx := 1) (show decode cX11_told 0 = .ok (.iconst 0, 1) by decide +kernel) rfl ?_
  refine am_r_istore_n (nx := 2) rfl (by decide) rfl (show decode cX11_told 1 = .ok (.istore_n 3, 1) by decide +kernel) rfl ?_
  exact k
theorem S_X11_told_2 {G : am_G} {d : Nat} {Q : Int → am_D → Prop} {σ : am_D} {v1 : Int} {v2 : Int} {v3 : Int} {v0 : Option Nat}  (k : am_X (am_FI G (d + 1) Q) mX11_told (0, 0) 5 [some (am_r v0), some (am_i v1), some (am_i v2), some (am_i v3), some (am_i 0)] [] (am_K0, σ)) : am_X (am_FI G (d + 1) Q) mX11_told (0, 0) 2 [some (am_r v0), some (am_i v1), some (am_i v2), some (am_i v3), none] [] (am_K0, σ) := by
  refine am_r_iconst (nx := 3) (show decode cX11_told 2 = .ok (.iconst 0, 1) by decide +kernel) rfl ?_
  refine am_r_istore (nx := 5) (by decide) rfl (show decode cX11_told 3 = .ok (.istore 4, 2) by decide +kernel) rfl ?_
  exact k
theorem S_X11_told_5 {G : am_G} {d : Nat} {Q : Int → am_D → Prop} {σ : am_D} {v1 : Int} {v2 : Int} {v3 : Int} {v4 : Int} {v0 : Option Nat} (hr1 : -2147483648 ≤ v4 ∧ v4 ≤ 2147483647) (hr2 : -2147483648 ≤ v2 ∧ v2 ≤ 2147483647) (k1 : v2 ≤ v4 → am_X (am_FI G (d + 1) Q) mX11_told (0, 0) 35 [none, none, none, some (am_i v3), none] [] (am_K0, σ)) (k2 : ¬ (v2 ≤ v4) → am_X (am_FI G (d + 1) Q) mX11_told (0, 0) 11 [some (am_r v0), some (am_i v1), some (am_i v2), some (am_i v3), some (am_i v4)] [] (am_K0, σ)) : am_X (am_FI G (d + 1) Q) mX11_told (0, 0) 5 [some (am_r v0), some (am_i v1), some (am_i v2), some (am_i v3), some (am_i v4)] [] (am_K0, σ) := by
  refine am_r_iload (nx := 7) rfl (show decode cX11_told 5 = .ok (.iload 4, 2) by decide +kernel) rfl ?_
  refine am_r_iload_n (nx := 8) rfl rfl (show decode cX11_told 7 = .ok (.iload_n 2, 1) by decide +kernel) rfl ?_
  refine am_r_icmp_ge (tg := 35) (nx := 11) (show decode cX11_told 8 = .ok (.if_icmp .ge 27, 3) by decide +kernel) (by decide) rfl hr1 hr2 ?_ ?_
  · exact fun q => am_x_fg [0, 1, 2, 4] (k1 q)
  · exact fun q => k2 q
theorem S_X11_told_11 {G : am_G} {d : Nat} {Q : Int → am_D → Prop} {σ : am_D} {v1 : Int} {v2 : Int} {v3 : Int} {v4 : Int} {v0 : Nat} {n1 : Nat} (hs2 : am_sh am_SH v0 = (100, n1)) (hi3 : 0 ≤ (v1 + v4)) (hj4 : (v1 + v4) < ((n1 : Nat) : Int)) (hr5 : -2147483648 ≤ (σ.1 v0 (v1 + v4)) ∧ (σ.1 v0 (v1 + v4)) ≤ 2147483647) (k1 : ¬ (σ.1 v0 (v1 + v4)) = (-1) → am_X (am_FI G (d + 1) Q) mX11_told (0, 0) 26 [some (am_r (some v0)), some (am_i v1), some (am_i v2), none, some (am_i v4)] [am_i v3] (am_K0, σ)) (k2 : ¬ (¬ (σ.1 v0 (v1 + v4)) = (-1)) → am_X (am_FI G (d + 1) Q) mX11_told (0, 0) 22 [some (am_r (some v0)), some (am_i v1), some (am_i v2), none, some (am_i v4)] [am_i v3] (am_K0, σ)) : am_X (am_FI G (d + 1) Q) mX11_told (0, 0) 11 [some (am_r (some v0)), some (am_i v1), some (am_i v2), some (am_i v3), some (am_i v4)] [] (am_K0, σ) := by
  refine am_r_iload_n (nx := 12) rfl rfl (show decode cX11_told 11 = .ok (.iload_n 3, 1) by decide +kernel) rfl ?_
  refine am_r_aload_n (nx := 13) rfl rfl (show decode cX11_told 12 = .ok (.aload_n 0, 1) by decide +kernel) rfl ?_
  refine am_r_iload_n (nx := 14) rfl rfl (show decode cX11_told 13 = .ok (.iload_n 1, 1) by decide +kernel) rfl ?_
  refine am_r_iload (nx := 16) rfl (show decode cX11_told 14 = .ok (.iload 4, 2) by decide +kernel) rfl ?_
  refine am_r_iadd (nx := 17) (show decode cX11_told 16 = .ok (.iadd, 1) by decide +kernel) rfl ?_
  refine am_r_iald (nx := 18) (hs2) (am_shle (hs2)) hi3 hj4 (show decode cX11_told 17 = .ok (.iaload, 1) by decide +kernel) rfl ?_
  refine am_r_iconst (nx := 19) (show decode cX11_told 18 = .ok (.iconst (-1), 1) by decide +kernel) rfl ?_
  refine am_r_icmp_ne (tg := 26) (nx := 22) (show decode cX11_told 19 = .ok (.if_icmp .ne 7, 3) by decide +kernel) (by decide) rfl hr5 (by omega) ?_ ?_
  · exact fun q => am_x_fg [3] (k1 q)
  · exact fun q => am_x_fg [3] (k2 q)
theorem S_X11_told_22 {G : am_G} {d : Nat} {Q : Int → am_D → Prop} {σ : am_D} {v1 : Int} {v2 : Int} {v4 : Int} {s0 : Int} {v0 : Option Nat}  (k : am_X (am_FI G (d + 1) Q) mX11_told (0, 0) 27 [some (am_r v0), some (am_i v1), some (am_i v2), none, some (am_i v4)] [am_i 0, am_i s0] (am_K0, σ)) : am_X (am_FI G (d + 1) Q) mX11_told (0, 0) 22 [some (am_r v0), some (am_i v1), some (am_i v2), none, some (am_i v4)] [am_i s0] (am_K0, σ) := by
  refine am_r_iconst (nx := 23) (show decode cX11_told 22 = .ok (.iconst 0, 1) by decide +kernel) rfl ?_
  refine am_r_goto (tg := 27) (show decode cX11_told 23 = .ok (.goto 4, 3) by decide +kernel) (by decide) ?_
  exact k
theorem S_X11_told_26 {G : am_G} {d : Nat} {Q : Int → am_D → Prop} {σ : am_D} {v1 : Int} {v2 : Int} {v4 : Int} {s0 : Int} {v0 : Option Nat}  (k : am_X (am_FI G (d + 1) Q) mX11_told (0, 0) 27 [some (am_r v0), some (am_i v1), some (am_i v2), none, some (am_i v4)] [am_i 1, am_i s0] (am_K0, σ)) : am_X (am_FI G (d + 1) Q) mX11_told (0, 0) 26 [some (am_r v0), some (am_i v1), some (am_i v2), none, some (am_i v4)] [am_i s0] (am_K0, σ) := by
  refine am_r_iconst (nx := 27) (show decode cX11_told 26 = .ok (.iconst 1, 1) by decide +kernel) rfl ?_
  exact k
theorem S_X11_told_27 {G : am_G} {d : Nat} {Q : Int → am_D → Prop} {σ : am_D} {v1 : Int} {v2 : Int} {v4 : Int} {s0 : Int} {s1 : Int} {v0 : Option Nat}  (k : am_X (am_FI G (d + 1) Q) mX11_told (0, 0) 29 [some (am_r v0), some (am_i v1), some (am_i v2), some (am_i (s0 + s1)), some (am_i v4)] [] (am_K0, σ)) : am_X (am_FI G (d + 1) Q) mX11_told (0, 0) 27 [some (am_r v0), some (am_i v1), some (am_i v2), none, some (am_i v4)] [am_i s1, am_i s0] (am_K0, σ) := by
  refine am_r_iadd (nx := 28) (show decode cX11_told 27 = .ok (.iadd, 1) by decide +kernel) rfl ?_
  refine am_r_istore_n (nx := 29) rfl (by decide) rfl (show decode cX11_told 28 = .ok (.istore_n 3, 1) by decide +kernel) rfl ?_
  exact k
theorem S_X11_told_29 {G : am_G} {d : Nat} {Q : Int → am_D → Prop} {σ : am_D} {v1 : Int} {v2 : Int} {v3 : Int} {v4 : Int} {v0 : Option Nat}  (k : am_X (am_FI G (d + 1) Q) mX11_told (0, 0) 5 [some (am_r v0), some (am_i v1), some (am_i v2), some (am_i v3), some (am_i (v4 + 1))] [] (am_K0, σ)) : am_X (am_FI G (d + 1) Q) mX11_told (0, 0) 29 [some (am_r v0), some (am_i v1), some (am_i v2), some (am_i v3), some (am_i v4)] [] (am_K0, σ) := by
  refine am_r_iinc (nx := 32) rfl rfl (show decode cX11_told 29 = .ok (.iinc 4 1, 3) by decide +kernel) rfl ?_
  refine am_r_goto (tg := 5) (show decode cX11_told 32 = .ok (.goto (-27), 3) by decide +kernel) (by decide) ?_
  exact k
theorem S_X11_told_35 {G : am_G} {d : Nat} {Q : Int → am_D → Prop} {σ : am_D} {v3 : Int}  (k : Q v3 σ) : am_X (am_FI G (d + 1) Q) mX11_told (0, 0) 35 [none, none, none, some (am_i v3), none] [] (am_K0, σ) := by
  refine am_r_iload_n (nx := 36) rfl rfl (show decode cX11_told 35 = .ok (.iload_n 3, 1) by decide +kernel) rfl ?_
  exact am_r_iret rfl rfl (show decode cX11_told 36 = .ok (.ireturn, 1) by decide +kernel) ⟨_, _, rfl, rfl, k⟩
theorem S_X11_of_0 {G : am_G} {d : Nat} {Q : Int → am_D → Prop} {σ : am_D} {v1 : Int} {v2 : Int} {Q' : Int → am_D → Prop} (hc : am_MI G d mX11_isMachine [am_r (some 91), am_i v1] σ Q') (k : ∀ (x : Int) (σ' : am_D), Q' x σ' → am_X (am_FI G (d + 1) Q) mX11_of (0, 0) 5 [some (am_r (some 91)), some (am_i v1), some (am_i v2)] [am_i x] (am_K0, σ')) : am_X (am_FI G (d + 1) Q) mX11_of (0, 0) 0 [some (am_r (some 91)), some (am_i v1), some (am_i v2)] [] (am_K0, σ) := by
  refine am_r_aload_n (nx := 1) rfl rfl (show decode cX11_of 0 = .ok (.aload_n 0, 1) by decide +kernel) rfl ?_
  refine am_r_iload_n (nx := 2) rfl rfl (show decode cX11_of 1 = .ok (.iload_n 1, 1) by decide +kernel) rfl ?_
  refine am_r_callV (as := [am_i v1]) (st := []) hc mb_X11_isMachine mv_X11_isMachine (Or.inl ml_X11_307) (ob_91) (by omega) (r := (RX11, TX11, 63)) rfl rfl rfl rfl (Nat.le_of_ble_eq_true rfl) ⟨Nat.le_refl _, Nat.le_refl _⟩ ⟨Nat.le_refl _, Nat.le_refl _⟩ (show decode cX11_of 2 = .ok (.invokevirtual 307, 3) by decide +kernel) ?_
  rintro _ _ ⟨x, σ', rfl, rfl, hq⟩ _
  exact (k x σ' hq)
theorem S_X11_of_5 {G : am_G} {d : Nat} {Q : Int → am_D → Prop} {σ : am_D} {v1 : Int} {v2 : Int} {s0 : Int} (hr1 : -2147483648 ≤ s0 ∧ s0 ≤ 2147483647) (k1 : ¬ s0 = 0 → am_X (am_FI G (d + 1) Q) mX11_of (0, 0) 10 [some (am_r (some 91)), some (am_i v1), some (am_i v2)] [] (am_K0, σ)) (k2 : ¬ (¬ s0 = 0) → am_X (am_FI G (d + 1) Q) mX11_of (0, 0) 8 [none, none, none] [] (am_K0, σ)) : am_X (am_FI G (d + 1) Q) mX11_of (0, 0) 5 [some (am_r (some 91)), some (am_i v1), some (am_i v2)] [am_i s0] (am_K0, σ) := by
  refine am_r_if_ne (tg := 10) (nx := 8) (show decode cX11_of 5 = .ok (.ifCond .ne 5, 3) by decide +kernel) (by decide) rfl hr1 ?_ ?_
  · exact fun q => k1 q
  · exact fun q => am_x_fg [0, 1, 2] (k2 q)
theorem S_X11_of_8 {G : am_G} {d : Nat} {Q : Int → am_D → Prop} {σ : am_D}   (k : Q (-1) σ) : am_X (am_FI G (d + 1) Q) mX11_of (0, 0) 8 [none, none, none] [] (am_K0, σ) := by
  refine am_r_iconst (nx := 9) (show decode cX11_of 8 = .ok (.iconst (-1), 1) by decide +kernel) rfl ?_
  exact am_r_iret rfl rfl (show decode cX11_of 9 = .ok (.ireturn, 1) by decide +kernel) ⟨_, _, rfl, rfl, k⟩
theorem S_X11_of_10 {G : am_G} {d : Nat} {Q : Int → am_D → Prop} {σ : am_D} {v1 : Int} {v2 : Int} (hr1 : -2147483648 ≤ v2 ∧ v2 ≤ 2147483647) (k0 : v2 < 0 ∨ 5 < v2 → am_X (am_FI G (d + 1) Q) mX11_of (0, 0) 112 [none, none, none] [] (am_K0, σ)) (k1 : v2 = 0 → am_X (am_FI G (d + 1) Q) mX11_of (0, 0) 48 [some (am_r (some 91)), some (am_i v1), none] [] (am_K0, σ)) (k2 : v2 = 1 → am_X (am_FI G (d + 1) Q) mX11_of (0, 0) 55 [some (am_r (some 91)), some (am_i v1), none] [] (am_K0, σ)) (k3 : v2 = 2 → am_X (am_FI G (d + 1) Q) mX11_of (0, 0) 62 [some (am_r (some 91)), some (am_i v1), none] [] (am_K0, σ)) (k4 : v2 = 3 → am_X (am_FI G (d + 1) Q) mX11_of (0, 0) 76 [some (am_r (some 91)), some (am_i v1), none] [] (am_K0, σ)) (k5 : v2 = 4 → am_X (am_FI G (d + 1) Q) mX11_of (0, 0) 90 [some (am_r (some 91)), some (am_i v1), none] [] (am_K0, σ)) (k6 : v2 = 5 → am_X (am_FI G (d + 1) Q) mX11_of (0, 0) 104 [some (am_r (some 91)), some (am_i v1), none] [] (am_K0, σ)) : am_X (am_FI G (d + 1) Q) mX11_of (0, 0) 10 [some (am_r (some 91)), some (am_i v1), some (am_i v2)] [] (am_K0, σ) := by
  refine am_r_iload_n (nx := 11) rfl rfl (show decode cX11_of 10 = .ok (.iload_n 2, 1) by decide +kernel) rfl ?_
  by_cases hq : v2 < 0 ∨ 5 < v2
  · exact am_r_tabOut (show decode cX11_of 11 = .ok (.tableswitch 101 0 5 #[37, 44, 51, 65, 79, 93], 37) by decide +kernel) hr1 hq (by decide) (am_x_fg [0, 1, 2] (k0 hq))
  · have hq2 : v2 = 0 ∨ v2 = 1 ∨ v2 = 2 ∨ v2 = 3 ∨ v2 = 4 ∨ v2 = 5 := by omega
    rcases hq2 with hq2 | hq2 | hq2 | hq2 | hq2 | hq2
    · exact am_r_tabIn (off := 37) (tg := 48) (show decode cX11_of 11 = .ok (.tableswitch 101 0 5 #[37, 44, 51, 65, 79, 93], 37) by decide +kernel) hr1 (by omega) (by omega) (by rw [hq2]; decide) (by decide) (am_x_fg [2] (k1 hq2))
    · exact am_r_tabIn (off := 44) (tg := 55) (show decode cX11_of 11 = .ok (.tableswitch 101 0 5 #[37, 44, 51, 65, 79, 93], 37) by decide +kernel) hr1 (by omega) (by omega) (by rw [hq2]; decide) (by decide) (am_x_fg [2] (k2 hq2))
    · exact am_r_tabIn (off := 51) (tg := 62) (show decode cX11_of 11 = .ok (.tableswitch 101 0 5 #[37, 44, 51, 65, 79, 93], 37) by decide +kernel) hr1 (by omega) (by omega) (by rw [hq2]; decide) (by decide) (am_x_fg [2] (k3 hq2))
    · exact am_r_tabIn (off := 65) (tg := 76) (show decode cX11_of 11 = .ok (.tableswitch 101 0 5 #[37, 44, 51, 65, 79, 93], 37) by decide +kernel) hr1 (by omega) (by omega) (by rw [hq2]; decide) (by decide) (am_x_fg [2] (k4 hq2))
    · exact am_r_tabIn (off := 79) (tg := 90) (show decode cX11_of 11 = .ok (.tableswitch 101 0 5 #[37, 44, 51, 65, 79, 93], 37) by decide +kernel) hr1 (by omega) (by omega) (by rw [hq2]; decide) (by decide) (am_x_fg [2] (k5 hq2))
    · exact am_r_tabIn (off := 93) (tg := 104) (show decode cX11_of 11 = .ok (.tableswitch 101 0 5 #[37, 44, 51, 65, 79, 93], 37) by decide +kernel) hr1 (by omega) (by omega) (by rw [hq2]; decide) (by decide) (am_x_fg [2] (k6 hq2))
theorem S_X11_of_48 {G : am_G} {d : Nat} {Q : Int → am_D → Prop} {σ : am_D} {v1 : Int} (hi1 : 0 ≤ v1) (hj2 : v1 < 6) (k : Q (σ.1 94 v1) σ) : am_X (am_FI G (d + 1) Q) mX11_of (0, 0) 48 [some (am_r (some 91)), some (am_i v1), none] [] (am_K0, σ) := by
  refine am_r_aload_n (nx := 49) rfl rfl (show decode cX11_of 48 = .ok (.aload_n 0, 1) by decide +kernel) rfl ?_
  refine am_r_getF (nx := 52) 8 cw11 (by decide) rfl (Or.inl fl_X11_17) (ob_91) (fn_91_8) (show decode cX11_of 49 = .ok (.getfield 17, 3) by decide +kernel) rfl ?_
  refine am_r_iload_n (nx := 53) rfl rfl (show decode cX11_of 52 = .ok (.iload_n 1, 1) by decide +kernel) rfl ?_
  refine am_r_iald (nx := 54) (sh_94) (am_shle (sh_94)) hi1 hj2 (show decode cX11_of 53 = .ok (.iaload, 1) by decide +kernel) rfl ?_
  exact am_r_iret rfl rfl (show decode cX11_of 54 = .ok (.ireturn, 1) by decide +kernel) ⟨_, _, rfl, rfl, k⟩
theorem S_X11_of_55 {G : am_G} {d : Nat} {Q : Int → am_D → Prop} {σ : am_D} {v1 : Int} (hi1 : 0 ≤ v1) (hj2 : v1 < 6) (k : Q (σ.1 95 v1) σ) : am_X (am_FI G (d + 1) Q) mX11_of (0, 0) 55 [some (am_r (some 91)), some (am_i v1), none] [] (am_K0, σ) := by
  refine am_r_aload_n (nx := 56) rfl rfl (show decode cX11_of 55 = .ok (.aload_n 0, 1) by decide +kernel) rfl ?_
  refine am_r_getF (nx := 59) 9 cw11 (by decide) rfl (Or.inl fl_X11_21) (ob_91) (fn_91_9) (show decode cX11_of 56 = .ok (.getfield 21, 3) by decide +kernel) rfl ?_
  refine am_r_iload_n (nx := 60) rfl rfl (show decode cX11_of 59 = .ok (.iload_n 1, 1) by decide +kernel) rfl ?_
  refine am_r_iald (nx := 61) (sh_95) (am_shle (sh_95)) hi1 hj2 (show decode cX11_of 60 = .ok (.iaload, 1) by decide +kernel) rfl ?_
  exact am_r_iret rfl rfl (show decode cX11_of 61 = .ok (.ireturn, 1) by decide +kernel) ⟨_, _, rfl, rfl, k⟩
theorem S_X11_of_62 {G : am_G} {d : Nat} {Q : Int → am_D → Prop} {σ : am_D} {v1 : Int} {Q' : Int → am_D → Prop} (hc : am_MI G d mX11_told [am_r (some 98), am_i (18 * v1), am_i 18] σ Q') (k : ∀ (x : Int) (σ' : am_D), Q' x σ' → Q x σ') : am_X (am_FI G (d + 1) Q) mX11_of (0, 0) 62 [some (am_r (some 91)), some (am_i v1), none] [] (am_K0, σ) := by
  refine am_r_aload_n (nx := 63) rfl rfl (show decode cX11_of 62 = .ok (.aload_n 0, 1) by decide +kernel) rfl ?_
  refine am_r_getF (nx := 66) 12 cw11 (by decide) rfl (Or.inl fl_X11_30) (ob_91) (fn_91_12) (show decode cX11_of 63 = .ok (.getfield 30, 3) by decide +kernel) rfl ?_
  refine am_r_bipush (nx := 68) rfl (show decode cX11_of 66 = .ok (.bipush 18, 2) by decide +kernel) rfl ?_
  refine am_r_iload_n (nx := 69) rfl rfl (show decode cX11_of 68 = .ok (.iload_n 1, 1) by decide +kernel) rfl ?_
  refine am_r_imul (nx := 70) (show decode cX11_of 69 = .ok (.imul, 1) by decide +kernel) rfl ?_
  refine am_r_bipush (nx := 72) rfl (show decode cX11_of 70 = .ok (.bipush 18, 2) by decide +kernel) rfl ?_
  refine am_r_callS (as := [am_r (some 98), am_i (18 * v1), am_i 18]) (st := []) hc mb_X11_told mv_X11_told (Or.inl ml_X11_310) rfl rfl (Nat.le_of_ble_eq_true rfl) ⟨Nat.le_refl _, Nat.le_refl _⟩ ⟨Nat.le_refl _, Nat.le_refl _⟩ (show decode cX11_of 72 = .ok (.invokestatic 310, 3) by decide +kernel) ?_
  rintro _ _ ⟨x, σ', rfl, rfl, hq⟩ _
  exact am_r_iret rfl rfl (show decode cX11_of 75 = .ok (.ireturn, 1) by decide +kernel) ⟨_, _, rfl, rfl, (k x σ' hq)⟩
theorem S_X11_of_76 {G : am_G} {d : Nat} {Q : Int → am_D → Prop} {σ : am_D} {v1 : Int} {Q' : Int → am_D → Prop} (hc : am_MI G d mX11_told [am_r (some 100), am_i (108 * v1), am_i 108] σ Q') (k : ∀ (x : Int) (σ' : am_D), Q' x σ' → Q x σ') : am_X (am_FI G (d + 1) Q) mX11_of (0, 0) 76 [some (am_r (some 91)), some (am_i v1), none] [] (am_K0, σ) := by
  refine am_r_aload_n (nx := 77) rfl rfl (show decode cX11_of 76 = .ok (.aload_n 0, 1) by decide +kernel) rfl ?_
  refine am_r_getF (nx := 80) 14 cw11 (by decide) rfl (Or.inl fl_X11_36) (ob_91) (fn_91_14) (show decode cX11_of 77 = .ok (.getfield 36, 3) by decide +kernel) rfl ?_
  refine am_r_bipush (nx := 82) rfl (show decode cX11_of 80 = .ok (.bipush 108, 2) by decide +kernel) rfl ?_
  refine am_r_iload_n (nx := 83) rfl rfl (show decode cX11_of 82 = .ok (.iload_n 1, 1) by decide +kernel) rfl ?_
  refine am_r_imul (nx := 84) (show decode cX11_of 83 = .ok (.imul, 1) by decide +kernel) rfl ?_
  refine am_r_bipush (nx := 86) rfl (show decode cX11_of 84 = .ok (.bipush 108, 2) by decide +kernel) rfl ?_
  refine am_r_callS (as := [am_r (some 100), am_i (108 * v1), am_i 108]) (st := []) hc mb_X11_told mv_X11_told (Or.inl ml_X11_310) rfl rfl (Nat.le_of_ble_eq_true rfl) ⟨Nat.le_refl _, Nat.le_refl _⟩ ⟨Nat.le_refl _, Nat.le_refl _⟩ (show decode cX11_of 86 = .ok (.invokestatic 310, 3) by decide +kernel) ?_
  rintro _ _ ⟨x, σ', rfl, rfl, hq⟩ _
  exact am_r_iret rfl rfl (show decode cX11_of 89 = .ok (.ireturn, 1) by decide +kernel) ⟨_, _, rfl, rfl, (k x σ' hq)⟩
theorem S_X11_of_90 {G : am_G} {d : Nat} {Q : Int → am_D → Prop} {σ : am_D} {v1 : Int} {Q' : Int → am_D → Prop} (hc : am_MI G d mX11_told [am_r (some 102), am_i (6 * v1), am_i 6] σ Q') (k : ∀ (x : Int) (σ' : am_D), Q' x σ' → Q x σ') : am_X (am_FI G (d + 1) Q) mX11_of (0, 0) 90 [some (am_r (some 91)), some (am_i v1), none] [] (am_K0, σ) := by
  refine am_r_aload_n (nx := 91) rfl rfl (show decode cX11_of 90 = .ok (.aload_n 0, 1) by decide +kernel) rfl ?_
  refine am_r_getF (nx := 94) 16 cw11 (by decide) rfl (Or.inl fl_X11_42) (ob_91) (fn_91_16) (show decode cX11_of 91 = .ok (.getfield 42, 3) by decide +kernel) rfl ?_
  refine am_r_bipush (nx := 96) rfl (show decode cX11_of 94 = .ok (.bipush 6, 2) by decide +kernel) rfl ?_
  refine am_r_iload_n (nx := 97) rfl rfl (show decode cX11_of 96 = .ok (.iload_n 1, 1) by decide +kernel) rfl ?_
  refine am_r_imul (nx := 98) (show decode cX11_of 97 = .ok (.imul, 1) by decide +kernel) rfl ?_
  refine am_r_bipush (nx := 100) rfl (show decode cX11_of 98 = .ok (.bipush 6, 2) by decide +kernel) rfl ?_
  refine am_r_callS (as := [am_r (some 102), am_i (6 * v1), am_i 6]) (st := []) hc mb_X11_told mv_X11_told (Or.inl ml_X11_310) rfl rfl (Nat.le_of_ble_eq_true rfl) ⟨Nat.le_refl _, Nat.le_refl _⟩ ⟨Nat.le_refl _, Nat.le_refl _⟩ (show decode cX11_of 100 = .ok (.invokestatic 310, 3) by decide +kernel) ?_
  rintro _ _ ⟨x, σ', rfl, rfl, hq⟩ _
  exact am_r_iret rfl rfl (show decode cX11_of 103 = .ok (.ireturn, 1) by decide +kernel) ⟨_, _, rfl, rfl, (k x σ' hq)⟩
theorem S_X11_of_104 {G : am_G} {d : Nat} {Q : Int → am_D → Prop} {σ : am_D} {v1 : Int} {Q' : Int → am_D → Prop} (hc : am_MI G d mX11_mostOwn [am_r (some 91), am_i v1, am_i 1, am_i 1] σ Q') (k : ∀ (x : Int) (σ' : am_D), Q' x σ' → Q x σ') : am_X (am_FI G (d + 1) Q) mX11_of (0, 0) 104 [some (am_r (some 91)), some (am_i v1), none] [] (am_K0, σ) := by
  refine am_r_aload_n (nx := 105) rfl rfl (show decode cX11_of 104 = .ok (.aload_n 0, 1) by decide +kernel) rfl ?_
  refine am_r_iload_n (nx := 106) rfl rfl (show decode cX11_of 105 = .ok (.iload_n 1, 1) by decide +kernel) rfl ?_
  refine am_r_iconst (nx := 107) (show decode cX11_of 106 = .ok (.iconst 1, 1) by decide +kernel) rfl ?_
  refine am_r_iconst (nx := 108) (show decode cX11_of 107 = .ok (.iconst 1, 1) by decide +kernel) rfl ?_
  refine am_r_callV (as := [am_i v1, am_i 1, am_i 1]) (st := []) hc mb_X11_mostOwn mv_X11_mostOwn (Or.inl ml_X11_314) (ob_91) (by omega) (r := (RX11, TX11, 63)) rfl rfl rfl rfl (Nat.le_of_ble_eq_true rfl) ⟨Nat.le_refl _, Nat.le_refl _⟩ ⟨Nat.le_refl _, Nat.le_refl _⟩ (show decode cX11_of 108 = .ok (.invokevirtual 314, 3) by decide +kernel) ?_
  rintro _ _ ⟨x, σ', rfl, rfl, hq⟩ _
  exact am_r_iret rfl rfl (show decode cX11_of 111 = .ok (.ireturn, 1) by decide +kernel) ⟨_, _, rfl, rfl, (k x σ' hq)⟩
theorem S_X11_of_112 {G : am_G} {d : Nat} {Q : Int → am_D → Prop} {σ : am_D}   (k : Q (-1) σ) : am_X (am_FI G (d + 1) Q) mX11_of (0, 0) 112 [none, none, none] [] (am_K0, σ) := by
  refine am_r_iconst (nx := 113) (show decode cX11_of 112 = .ok (.iconst (-1), 1) by decide +kernel) rfl ?_
  exact am_r_iret rfl rfl (show decode cX11_of 113 = .ok (.ireturn, 1) by decide +kernel) ⟨_, _, rfl, rfl, k⟩
theorem S_X11_deepOf_0 {G : am_G} {d : Nat} {Q : Int → am_D → Prop} {σ : am_D} {v1 : Int} {v0 : Option Nat}  (k : am_X (am_FI G (d + 1) Q) mX11_deepOf (0, 0) 2 [some (am_r v0), some (am_i v1), some (am_i 0), none, none] [] (am_K0, σ)) : am_X (am_FI G (d + 1) Q) mX11_deepOf (0, 0) 0 [some (am_r v0), some (am_i v1), none, none, none] [] (am_K0, σ) := by
  refine am_r_iconst (nx := 1) (show decode cX11_deepOf 0 = .ok (.iconst 0, 1) by decide +kernel) rfl ?_
  refine am_r_istore_n (nx := 2) rfl (by decide) rfl (show decode cX11_deepOf 1 = .ok (.istore_n 2, 1) by decide +kernel) rfl ?_
  exact k
theorem S_X11_deepOf_2 {G : am_G} {d : Nat} {Q : Int → am_D → Prop} {σ : am_D} {v1 : Int} {v2 : Int} {v0 : Option Nat}  (k : am_X (am_FI G (d + 1) Q) mX11_deepOf (0, 0) 4 [some (am_r v0), some (am_i v1), some (am_i v2), some (am_i 0), none] [] (am_K0, σ)) : am_X (am_FI G (d + 1) Q) mX11_deepOf (0, 0) 2 [some (am_r v0), some (am_i v1), some (am_i v2), none, none] [] (am_K0, σ) := by
  refine am_r_iconst (nx := 3) (show decode cX11_deepOf 2 = .ok (.iconst 0, 1) by decide +kernel) rfl ?_
  refine am_r_istore_n (nx := 4) rfl (by decide) rfl (show decode cX11_deepOf 3 = .ok (.istore_n 3, 1) by decide +kernel) rfl ?_
  exact k
theorem S_X11_deepOf_4 {G : am_G} {d : Nat} {Q : Int → am_D → Prop} {σ : am_D} {v1 : Int} {v2 : Int} {v3 : Int} {v0 : Option Nat}  (k : am_X (am_FI G (d + 1) Q) mX11_deepOf (0, 0) 7 [some (am_r v0), some (am_i v1), some (am_i v2), some (am_i v3), some (am_i 0)] [] (am_K0, σ)) : am_X (am_FI G (d + 1) Q) mX11_deepOf (0, 0) 4 [some (am_r v0), some (am_i v1), some (am_i v2), some (am_i v3), none] [] (am_K0, σ) := by
  refine am_r_iconst (nx := 5) (show decode cX11_deepOf 4 = .ok (.iconst 0, 1) by decide +kernel) rfl ?_
  refine am_r_istore (nx := 7) (by decide) rfl (show decode cX11_deepOf 5 = .ok (.istore 4, 2) by decide +kernel) rfl ?_
  exact k
theorem S_X11_deepOf_7 {G : am_G} {d : Nat} {Q : Int → am_D → Prop} {σ : am_D} {v1 : Int} {v2 : Int} {v3 : Int} {v4 : Int} {v0 : Option Nat} (hr1 : -2147483648 ≤ v4 ∧ v4 ≤ 2147483647) (hr2 : -2147483648 ≤ v1 ∧ v1 ≤ 2147483647) (k1 : v1 ≤ v4 → am_X (am_FI G (d + 1) Q) mX11_deepOf (0, 0) 41 [none, none, none, some (am_i v3), none] [] (am_K0, σ)) (k2 : ¬ (v1 ≤ v4) → am_X (am_FI G (d + 1) Q) mX11_deepOf (0, 0) 13 [some (am_r v0), some (am_i v1), some (am_i v2), some (am_i v3), some (am_i v4)] [] (am_K0, σ)) : am_X (am_FI G (d + 1) Q) mX11_deepOf (0, 0) 7 [some (am_r v0), some (am_i v1), some (am_i v2), some (am_i v3), some (am_i v4)] [] (am_K0, σ) := by
  refine am_r_iload (nx := 9) rfl (show decode cX11_deepOf 7 = .ok (.iload 4, 2) by decide +kernel) rfl ?_
  refine am_r_iload_n (nx := 10) rfl rfl (show decode cX11_deepOf 9 = .ok (.iload_n 1, 1) by decide +kernel) rfl ?_
  refine am_r_icmp_ge (tg := 41) (nx := 13) (show decode cX11_deepOf 10 = .ok (.if_icmp .ge 31, 3) by decide +kernel) (by decide) rfl hr1 hr2 ?_ ?_
  · exact fun q => am_x_fg [0, 1, 2, 4] (k1 q)
  · exact fun q => k2 q
theorem S_X11_deepOf_13 {G : am_G} {d : Nat} {Q : Int → am_D → Prop} {σ : am_D} {v1 : Int} {v2 : Int} {v3 : Int} {v4 : Int} {v0 : Nat} {n1 : Nat} (hs2 : am_sh am_SH v0 = (100, n1)) (hi3 : 0 ≤ v4) (hj4 : v4 < ((n1 : Nat) : Int)) (hr5 : -2147483648 ≤ (σ.1 v0 v4) ∧ (σ.1 v0 v4) ≤ 2147483647) (k1 : ¬ (σ.1 v0 v4) = 3 → am_X (am_FI G (d + 1) Q) mX11_deepOf (0, 0) 26 [some (am_r (some v0)), some (am_i v1), none, some (am_i v3), some (am_i v4)] [am_i v2] (am_K0, σ)) (k2 : ¬ (¬ (σ.1 v0 v4) = 3) → am_X (am_FI G (d + 1) Q) mX11_deepOf (0, 0) 22 [some (am_r (some v0)), some (am_i v1), none, some (am_i v3), some (am_i v4)] [am_i v2] (am_K0, σ)) : am_X (am_FI G (d + 1) Q) mX11_deepOf (0, 0) 13 [some (am_r (some v0)), some (am_i v1), some (am_i v2), some (am_i v3), some (am_i v4)] [] (am_K0, σ) := by
  refine am_r_iload_n (nx := 14) rfl rfl (show decode cX11_deepOf 13 = .ok (.iload_n 2, 1) by decide +kernel) rfl ?_
  refine am_r_aload_n (nx := 15) rfl rfl (show decode cX11_deepOf 14 = .ok (.aload_n 0, 1) by decide +kernel) rfl ?_
  refine am_r_iload (nx := 17) rfl (show decode cX11_deepOf 15 = .ok (.iload 4, 2) by decide +kernel) rfl ?_
  refine am_r_iald (nx := 18) (hs2) (am_shle (hs2)) hi3 hj4 (show decode cX11_deepOf 17 = .ok (.iaload, 1) by decide +kernel) rfl ?_
  refine am_r_iconst (nx := 19) (show decode cX11_deepOf 18 = .ok (.iconst 3, 1) by decide +kernel) rfl ?_
  refine am_r_icmp_ne (tg := 26) (nx := 22) (show decode cX11_deepOf 19 = .ok (.if_icmp .ne 7, 3) by decide +kernel) (by decide) rfl hr5 (by omega) ?_ ?_
  · exact fun q => am_x_fg [2] (k1 q)
  · exact fun q => am_x_fg [2] (k2 q)
theorem S_X11_deepOf_22 {G : am_G} {d : Nat} {Q : Int → am_D → Prop} {σ : am_D} {v1 : Int} {v3 : Int} {v4 : Int} {s0 : Int} {v0 : Option Nat}  (k : am_X (am_FI G (d + 1) Q) mX11_deepOf (0, 0) 27 [some (am_r v0), some (am_i v1), none, some (am_i v3), some (am_i v4)] [am_i (-1), am_i s0] (am_K0, σ)) : am_X (am_FI G (d + 1) Q) mX11_deepOf (0, 0) 22 [some (am_r v0), some (am_i v1), none, some (am_i v3), some (am_i v4)] [am_i s0] (am_K0, σ) := by
  refine am_r_iconst (nx := 23) (show decode cX11_deepOf 22 = .ok (.iconst (-1), 1) by decide +kernel) rfl ?_
  refine am_r_goto (tg := 27) (show decode cX11_deepOf 23 = .ok (.goto 4, 3) by decide +kernel) (by decide) ?_
  exact k
theorem S_X11_deepOf_26 {G : am_G} {d : Nat} {Q : Int → am_D → Prop} {σ : am_D} {v1 : Int} {v3 : Int} {v4 : Int} {s0 : Int} {v0 : Option Nat}  (k : am_X (am_FI G (d + 1) Q) mX11_deepOf (0, 0) 27 [some (am_r v0), some (am_i v1), none, some (am_i v3), some (am_i v4)] [am_i 1, am_i s0] (am_K0, σ)) : am_X (am_FI G (d + 1) Q) mX11_deepOf (0, 0) 26 [some (am_r v0), some (am_i v1), none, some (am_i v3), some (am_i v4)] [am_i s0] (am_K0, σ) := by
  refine am_r_iconst (nx := 27) (show decode cX11_deepOf 26 = .ok (.iconst 1, 1) by decide +kernel) rfl ?_
  exact k
theorem S_X11_deepOf_27 {G : am_G} {d : Nat} {Q : Int → am_D → Prop} {σ : am_D} {v1 : Int} {v3 : Int} {v4 : Int} {s0 : Int} {s1 : Int} {v0 : Option Nat}  (k : am_X (am_FI G (d + 1) Q) mX11_deepOf (0, 0) 29 [some (am_r v0), some (am_i v1), some (am_i (s0 + s1)), some (am_i v3), some (am_i v4)] [] (am_K0, σ)) : am_X (am_FI G (d + 1) Q) mX11_deepOf (0, 0) 27 [some (am_r v0), some (am_i v1), none, some (am_i v3), some (am_i v4)] [am_i s1, am_i s0] (am_K0, σ) := by
  refine am_r_iadd (nx := 28) (show decode cX11_deepOf 27 = .ok (.iadd, 1) by decide +kernel) rfl ?_
  refine am_r_istore_n (nx := 29) rfl (by decide) rfl (show decode cX11_deepOf 28 = .ok (.istore_n 2, 1) by decide +kernel) rfl ?_
  exact k
theorem S_X11_deepOf_29 {G : am_G} {d : Nat} {Q : Int → am_D → Prop} {σ : am_D} {v1 : Int} {v2 : Int} {v3 : Int} {v4 : Int} {Q' : Int → am_D → Prop} {v0 : Option Nat} (hc : am_MI G d mJ9_max_7cf53 [am_i v3, am_i v2] σ Q') (k : ∀ (x : Int) (σ' : am_D), Q' x σ' → am_X (am_FI G (d + 1) Q) mX11_deepOf (0, 0) 35 [some (am_r v0), some (am_i v1), some (am_i v2), some (am_i x), some (am_i v4)] [] (am_K0, σ')) : am_X (am_FI G (d + 1) Q) mX11_deepOf (0, 0) 29 [some (am_r v0), some (am_i v1), some (am_i v2), some (am_i v3), some (am_i v4)] [] (am_K0, σ) := by
  refine am_r_iload_n (nx := 30) rfl rfl (show decode cX11_deepOf 29 = .ok (.iload_n 3, 1) by decide +kernel) rfl ?_
  refine am_r_iload_n (nx := 31) rfl rfl (show decode cX11_deepOf 30 = .ok (.iload_n 2, 1) by decide +kernel) rfl ?_
  refine am_r_callS (as := [am_i v3, am_i v2]) (st := []) hc mb_J9_max_7cf53 mv_J9_max_7cf53 (Or.inl ml_X11_302) rfl rfl (Nat.le_of_ble_eq_true rfl) ⟨Nat.le_refl _, Nat.le_refl _⟩ ⟨Nat.le_refl _, Nat.le_refl _⟩ (show decode cX11_deepOf 31 = .ok (.invokestatic 302, 3) by decide +kernel) ?_
  rintro _ _ ⟨x, σ', rfl, rfl, hq⟩ _
  refine am_r_istore_n (nx := 35) rfl (by decide) rfl (show decode cX11_deepOf 34 = .ok (.istore_n 3, 1) by decide +kernel) rfl ?_
  exact (k x σ' hq)
theorem S_X11_deepOf_35 {G : am_G} {d : Nat} {Q : Int → am_D → Prop} {σ : am_D} {v1 : Int} {v2 : Int} {v3 : Int} {v4 : Int} {v0 : Option Nat}  (k : am_X (am_FI G (d + 1) Q) mX11_deepOf (0, 0) 7 [some (am_r v0), some (am_i v1), some (am_i v2), some (am_i v3), some (am_i (v4 + 1))] [] (am_K0, σ)) : am_X (am_FI G (d + 1) Q) mX11_deepOf (0, 0) 35 [some (am_r v0), some (am_i v1), some (am_i v2), some (am_i v3), some (am_i v4)] [] (am_K0, σ) := by
  refine am_r_iinc (nx := 38) rfl rfl (show decode cX11_deepOf 35 = .ok (.iinc 4 1, 3) by decide +kernel) rfl ?_
  refine am_r_goto (tg := 7) (show decode cX11_deepOf 38 = .ok (.goto (-31), 3) by decide +kernel) (by decide) ?_
  exact k
theorem S_X11_deepOf_41 {G : am_G} {d : Nat} {Q : Int → am_D → Prop} {σ : am_D} {v3 : Int}  (k : Q v3 σ) : am_X (am_FI G (d + 1) Q) mX11_deepOf (0, 0) 41 [none, none, none, some (am_i v3), none] [] (am_K0, σ) := by
  refine am_r_iload_n (nx := 42) rfl rfl (show decode cX11_deepOf 41 = .ok (.iload_n 3, 1) by decide +kernel) rfl ?_
  exact am_r_iret rfl rfl (show decode cX11_deepOf 42 = .ok (.ireturn, 1) by decide +kernel) ⟨_, _, rfl, rfl, k⟩
theorem S_X11_machines_0 {G : am_G} {d : Nat} {Q : Int → am_D → Prop} {σ : am_D}   (k : am_X (am_FI G (d + 1) Q) mX11_machines (0, 0) 2 [some (am_r (some 91)), some (am_i 0), none] [] (am_K0, σ)) : am_X (am_FI G (d + 1) Q) mX11_machines (0, 0) 0 [some (am_r (some 91)), none, none] [] (am_K0, σ) := by
  refine am_r_iconst (nx := 1) (show decode cX11_machines 0 = .ok (.iconst 0, 1) by decide +kernel) rfl ?_
  refine am_r_istore_n (nx := 2) rfl (by decide) rfl (show decode cX11_machines 1 = .ok (.istore_n 1, 1) by decide +kernel) rfl ?_
  exact k
theorem S_X11_machines_2 {G : am_G} {d : Nat} {Q : Int → am_D → Prop} {σ : am_D} {v1 : Int}  (k : am_X (am_FI G (d + 1) Q) mX11_machines (0, 0) 4 [some (am_r (some 91)), some (am_i v1), some (am_i 0)] [] (am_K0, σ)) : am_X (am_FI G (d + 1) Q) mX11_machines (0, 0) 2 [some (am_r (some 91)), some (am_i v1), none] [] (am_K0, σ) := by
  refine am_r_iconst (nx := 3) (show decode cX11_machines 2 = .ok (.iconst 0, 1) by decide +kernel) rfl ?_
  refine am_r_istore_n (nx := 4) rfl (by decide) rfl (show decode cX11_machines 3 = .ok (.istore_n 2, 1) by decide +kernel) rfl ?_
  exact k
theorem S_X11_machines_4 {G : am_G} {d : Nat} {Q : Int → am_D → Prop} {σ : am_D} {v1 : Int} {v2 : Int} (hr1 : -2147483648 ≤ v2 ∧ v2 ≤ 2147483647) (k1 : 4 ≤ v2 → am_X (am_FI G (d + 1) Q) mX11_machines (0, 0) 32 [none, some (am_i v1), none] [] (am_K0, σ)) (k2 : ¬ (4 ≤ v2) → am_X (am_FI G (d + 1) Q) mX11_machines (0, 0) 9 [some (am_r (some 91)), some (am_i v1), some (am_i v2)] [] (am_K0, σ)) : am_X (am_FI G (d + 1) Q) mX11_machines (0, 0) 4 [some (am_r (some 91)), some (am_i v1), some (am_i v2)] [] (am_K0, σ) := by
  refine am_r_iload_n (nx := 5) rfl rfl (show decode cX11_machines 4 = .ok (.iload_n 2, 1) by decide +kernel) rfl ?_
  refine am_r_iconst (nx := 6) (show decode cX11_machines 5 = .ok (.iconst 4, 1) by decide +kernel) rfl ?_
  refine am_r_icmp_ge (tg := 32) (nx := 9) (show decode cX11_machines 6 = .ok (.if_icmp .ge 26, 3) by decide +kernel) (by decide) rfl hr1 (by omega) ?_ ?_
  · exact fun q => am_x_fg [0, 2] (k1 q)
  · exact fun q => k2 q
theorem S_X11_machines_9 {G : am_G} {d : Nat} {Q : Int → am_D → Prop} {σ : am_D} {v1 : Int} {v2 : Int} (hi1 : 0 ≤ v2) (hj2 : v2 < 6) (hr3 : -2147483648 ≤ (σ.1 93 v2) ∧ (σ.1 93 v2) ≤ 2147483647) (k1 : (σ.1 93 v2) = 0 → am_X (am_FI G (d + 1) Q) mX11_machines (0, 0) 23 [some (am_r (some 91)), none, some (am_i v2)] [am_i v1] (am_K0, σ)) (k2 : ¬ ((σ.1 93 v2) = 0) → am_X (am_FI G (d + 1) Q) mX11_machines (0, 0) 19 [some (am_r (some 91)), none, some (am_i v2)] [am_i v1] (am_K0, σ)) : am_X (am_FI G (d + 1) Q) mX11_machines (0, 0) 9 [some (am_r (some 91)), some (am_i v1), some (am_i v2)] [] (am_K0, σ) := by
  refine am_r_iload_n (nx := 10) rfl rfl (show decode cX11_machines 9 = .ok (.iload_n 1, 1) by decide +kernel) rfl ?_
  refine am_r_aload_n (nx := 11) rfl rfl (show decode cX11_machines 10 = .ok (.aload_n 0, 1) by decide +kernel) rfl ?_
  refine am_r_getF (nx := 14) 7 cw11 (by decide) rfl (Or.inl fl_X11_13) (ob_91) (fn_91_7) (show decode cX11_machines 11 = .ok (.getfield 13, 3) by decide +kernel) rfl ?_
  refine am_r_iload_n (nx := 15) rfl rfl (show decode cX11_machines 14 = .ok (.iload_n 2, 1) by decide +kernel) rfl ?_
  refine am_r_zald (nx := 16) (sh_93) (am_shle (sh_93)) hi1 hj2 (show decode cX11_machines 15 = .ok (.baload, 1) by decide +kernel) rfl ?_
  refine am_r_if_eq (tg := 23) (nx := 19) (show decode cX11_machines 16 = .ok (.ifCond .eq 7, 3) by decide +kernel) (by decide) rfl hr3 ?_ ?_
  · exact fun q => am_x_fg [1] (k1 q)
  · exact fun q => am_x_fg [1] (k2 q)
theorem S_X11_machines_19 {G : am_G} {d : Nat} {Q : Int → am_D → Prop} {σ : am_D} {v2 : Int} {s0 : Int}  (k : am_X (am_FI G (d + 1) Q) mX11_machines (0, 0) 24 [some (am_r (some 91)), none, some (am_i v2)] [am_i 1, am_i s0] (am_K0, σ)) : am_X (am_FI G (d + 1) Q) mX11_machines (0, 0) 19 [some (am_r (some 91)), none, some (am_i v2)] [am_i s0] (am_K0, σ) := by
  refine am_r_iconst (nx := 20) (show decode cX11_machines 19 = .ok (.iconst 1, 1) by decide +kernel) rfl ?_
  refine am_r_goto (tg := 24) (show decode cX11_machines 20 = .ok (.goto 4, 3) by decide +kernel) (by decide) ?_
  exact k
theorem S_X11_machines_23 {G : am_G} {d : Nat} {Q : Int → am_D → Prop} {σ : am_D} {v2 : Int} {s0 : Int}  (k : am_X (am_FI G (d + 1) Q) mX11_machines (0, 0) 24 [some (am_r (some 91)), none, some (am_i v2)] [am_i 0, am_i s0] (am_K0, σ)) : am_X (am_FI G (d + 1) Q) mX11_machines (0, 0) 23 [some (am_r (some 91)), none, some (am_i v2)] [am_i s0] (am_K0, σ) := by
  refine am_r_iconst (nx := 24) (show decode cX11_machines 23 = .ok (.iconst 0, 1) by decide +kernel) rfl ?_
  exact k
theorem S_X11_machines_24 {G : am_G} {d : Nat} {Q : Int → am_D → Prop} {σ : am_D} {v2 : Int} {s0 : Int} {s1 : Int}  (k : am_X (am_FI G (d + 1) Q) mX11_machines (0, 0) 26 [some (am_r (some 91)), some (am_i (s0 + s1)), some (am_i v2)] [] (am_K0, σ)) : am_X (am_FI G (d + 1) Q) mX11_machines (0, 0) 24 [some (am_r (some 91)), none, some (am_i v2)] [am_i s1, am_i s0] (am_K0, σ) := by
  refine am_r_iadd (nx := 25) (show decode cX11_machines 24 = .ok (.iadd, 1) by decide +kernel) rfl ?_
  refine am_r_istore_n (nx := 26) rfl (by decide) rfl (show decode cX11_machines 25 = .ok (.istore_n 1, 1) by decide +kernel) rfl ?_
  exact k
theorem S_X11_machines_26 {G : am_G} {d : Nat} {Q : Int → am_D → Prop} {σ : am_D} {v1 : Int} {v2 : Int}  (k : am_X (am_FI G (d + 1) Q) mX11_machines (0, 0) 4 [some (am_r (some 91)), some (am_i v1), some (am_i (v2 + 1))] [] (am_K0, σ)) : am_X (am_FI G (d + 1) Q) mX11_machines (0, 0) 26 [some (am_r (some 91)), some (am_i v1), some (am_i v2)] [] (am_K0, σ) := by
  refine am_r_iinc (nx := 29) rfl rfl (show decode cX11_machines 26 = .ok (.iinc 2 1, 3) by decide +kernel) rfl ?_
  refine am_r_goto (tg := 4) (show decode cX11_machines 29 = .ok (.goto (-25), 3) by decide +kernel) (by decide) ?_
  exact k
theorem S_X11_machines_32 {G : am_G} {d : Nat} {Q : Int → am_D → Prop} {σ : am_D} {v1 : Int}  (k : Q v1 σ) : am_X (am_FI G (d + 1) Q) mX11_machines (0, 0) 32 [none, some (am_i v1), none] [] (am_K0, σ) := by
  refine am_r_iload_n (nx := 33) rfl rfl (show decode cX11_machines 32 = .ok (.iload_n 1, 1) by decide +kernel) rfl ?_
  exact am_r_iret rfl rfl (show decode cX11_machines 33 = .ok (.ireturn, 1) by decide +kernel) ⟨_, _, rfl, rfl, k⟩
theorem S_X11_count_0 {G : am_G} {d : Nat} {Q : Int → am_D → Prop} {σ : am_D} {v1 : Int} (hr1 : -2147483648 ≤ v1 ∧ v1 ≤ 2147483647) (k0 : v1 < 0 ∨ 9 < v1 → am_X (am_FI G (d + 1) Q) mX11_count (0, 0) 173 [none, none] [] (am_K0, σ)) (k1 : v1 = 0 → am_X (am_FI G (d + 1) Q) mX11_count (0, 0) 56 [some (am_r (some 91)), none] [] (am_K0, σ)) (k2 : v1 = 1 → am_X (am_FI G (d + 1) Q) mX11_count (0, 0) 61 [some (am_r (some 91)), none] [] (am_K0, σ)) (k3 : v1 = 2 → am_X (am_FI G (d + 1) Q) mX11_count (0, 0) 68 [some (am_r (some 91)), none] [] (am_K0, σ)) (k4 : v1 = 3 → am_X (am_FI G (d + 1) Q) mX11_count (0, 0) 80 [some (am_r (some 91)), none] [] (am_K0, σ)) (k5 : v1 = 4 → am_X (am_FI G (d + 1) Q) mX11_count (0, 0) 87 [some (am_r (some 91)), none] [] (am_K0, σ)) (k6 : v1 = 5 → am_X (am_FI G (d + 1) Q) mX11_count (0, 0) 99 [some (am_r (some 91)), none] [] (am_K0, σ)) (k7 : v1 = 6 → am_X (am_FI G (d + 1) Q) mX11_count (0, 0) 115 [some (am_r (some 91)), none] [] (am_K0, σ)) (k8 : v1 = 7 → am_X (am_FI G (d + 1) Q) mX11_count (0, 0) 133 [some (am_r (some 91)), none] [] (am_K0, σ)) (k9 : v1 = 8 → am_X (am_FI G (d + 1) Q) mX11_count (0, 0) 150 [some (am_r (some 91)), none] [] (am_K0, σ)) (k10 : v1 = 9 → am_X (am_FI G (d + 1) Q) mX11_count (0, 0) 168 [some (am_r (some 91)), none] [] (am_K0, σ)) : am_X (am_FI G (d + 1) Q) mX11_count (0, 0) 0 [some (am_r (some 91)), some (am_i v1)] [] (am_K0, σ) := by
  refine am_r_iload_n (nx := 1) rfl rfl (show decode cX11_count 0 = .ok (.iload_n 1, 1) by decide +kernel) rfl ?_
  by_cases hq : v1 < 0 ∨ 9 < v1
  · exact am_r_tabOut (show decode cX11_count 1 = .ok (.tableswitch 172 0 9 #[55, 60, 67, 79, 86, 98, 114, 132, 149, 167], 55) by decide +kernel) hr1 hq (by decide) (am_x_fg [0, 1] (k0 hq))
  · have hq2 : v1 = 0 ∨ v1 = 1 ∨ v1 = 2 ∨ v1 = 3 ∨ v1 = 4 ∨ v1 = 5 ∨ v1 = 6 ∨ v1 = 7 ∨ v1 = 8 ∨ v1 = 9 := by omega
    rcases hq2 with hq2 | hq2 | hq2 | hq2 | hq2 | hq2 | hq2 | hq2 | hq2 | hq2
    · exact am_r_tabIn (off := 55) (tg := 56) (show decode cX11_count 1 = .ok (.tableswitch 172 0 9 #[55, 60, 67, 79, 86, 98, 114, 132, 149, 167], 55) by decide +kernel) hr1 (by omega) (by omega) (by rw [hq2]; decide) (by decide) (am_x_fg [1] (k1 hq2))
    · exact am_r_tabIn (off := 60) (tg := 61) (show decode cX11_count 1 = .ok (.tableswitch 172 0 9 #[55, 60, 67, 79, 86, 98, 114, 132, 149, 167], 55) by decide +kernel) hr1 (by omega) (by omega) (by rw [hq2]; decide) (by decide) (am_x_fg [1] (k2 hq2))
    · exact am_r_tabIn (off := 67) (tg := 68) (show decode cX11_count 1 = .ok (.tableswitch 172 0 9 #[55, 60, 67, 79, 86, 98, 114, 132, 149, 167], 55) by decide +kernel) hr1 (by omega) (by omega) (by rw [hq2]; decide) (by decide) (am_x_fg [1] (k3 hq2))
    · exact am_r_tabIn (off := 79) (tg := 80) (show decode cX11_count 1 = .ok (.tableswitch 172 0 9 #[55, 60, 67, 79, 86, 98, 114, 132, 149, 167], 55) by decide +kernel) hr1 (by omega) (by omega) (by rw [hq2]; decide) (by decide) (am_x_fg [1] (k4 hq2))
    · exact am_r_tabIn (off := 86) (tg := 87) (show decode cX11_count 1 = .ok (.tableswitch 172 0 9 #[55, 60, 67, 79, 86, 98, 114, 132, 149, 167], 55) by decide +kernel) hr1 (by omega) (by omega) (by rw [hq2]; decide) (by decide) (am_x_fg [1] (k5 hq2))
    · exact am_r_tabIn (off := 98) (tg := 99) (show decode cX11_count 1 = .ok (.tableswitch 172 0 9 #[55, 60, 67, 79, 86, 98, 114, 132, 149, 167], 55) by decide +kernel) hr1 (by omega) (by omega) (by rw [hq2]; decide) (by decide) (am_x_fg [1] (k6 hq2))
    · exact am_r_tabIn (off := 114) (tg := 115) (show decode cX11_count 1 = .ok (.tableswitch 172 0 9 #[55, 60, 67, 79, 86, 98, 114, 132, 149, 167], 55) by decide +kernel) hr1 (by omega) (by omega) (by rw [hq2]; decide) (by decide) (am_x_fg [1] (k7 hq2))
    · exact am_r_tabIn (off := 132) (tg := 133) (show decode cX11_count 1 = .ok (.tableswitch 172 0 9 #[55, 60, 67, 79, 86, 98, 114, 132, 149, 167], 55) by decide +kernel) hr1 (by omega) (by omega) (by rw [hq2]; decide) (by decide) (am_x_fg [1] (k8 hq2))
    · exact am_r_tabIn (off := 149) (tg := 150) (show decode cX11_count 1 = .ok (.tableswitch 172 0 9 #[55, 60, 67, 79, 86, 98, 114, 132, 149, 167], 55) by decide +kernel) hr1 (by omega) (by omega) (by rw [hq2]; decide) (by decide) (am_x_fg [1] (k9 hq2))
    · exact am_r_tabIn (off := 167) (tg := 168) (show decode cX11_count 1 = .ok (.tableswitch 172 0 9 #[55, 60, 67, 79, 86, 98, 114, 132, 149, 167], 55) by decide +kernel) hr1 (by omega) (by omega) (by rw [hq2]; decide) (by decide) (am_x_fg [1] (k10 hq2))
theorem S_X11_count_56 {G : am_G} {d : Nat} {Q : Int → am_D → Prop} {σ : am_D} {Q' : Int → am_D → Prop} (hc : am_MI G d mX11_machines [am_r (some 91)] σ Q') (k : ∀ (x : Int) (σ' : am_D), Q' x σ' → Q x σ') : am_X (am_FI G (d + 1) Q) mX11_count (0, 0) 56 [some (am_r (some 91)), none] [] (am_K0, σ) := by
  refine am_r_aload_n (nx := 57) rfl rfl (show decode cX11_count 56 = .ok (.aload_n 0, 1) by decide +kernel) rfl ?_
  refine am_r_callV (as := []) (st := []) hc mb_X11_machines mv_X11_machines (Or.inl ml_X11_318) (ob_91) (by omega) (r := (RX11, TX11, 63)) rfl rfl rfl rfl (Nat.le_of_ble_eq_true rfl) ⟨Nat.le_refl _, Nat.le_refl _⟩ ⟨Nat.le_refl _, Nat.le_refl _⟩ (show decode cX11_count 57 = .ok (.invokevirtual 318, 3) by decide +kernel) ?_
  rintro _ _ ⟨x, σ', rfl, rfl, hq⟩ _
  exact am_r_iret rfl rfl (show decode cX11_count 60 = .ok (.ireturn, 1) by decide +kernel) ⟨_, _, rfl, rfl, (k x σ' hq)⟩
theorem S_X11_count_61 {G : am_G} {d : Nat} {Q : Int → am_D → Prop} {σ : am_D}  (hr1 : -2147483648 ≤ (σ.1 91 25) ∧ (σ.1 91 25) ≤ 2147483647) (k : Q (Int.tdiv (σ.1 91 25) 2) σ) : am_X (am_FI G (d + 1) Q) mX11_count (0, 0) 61 [some (am_r (some 91)), none] [] (am_K0, σ) := by
  refine am_r_aload_n (nx := 62) rfl rfl (show decode cX11_count 61 = .ok (.aload_n 0, 1) by decide +kernel) rfl ?_
  refine am_r_getI (nx := 65) 25 cw11 (by decide) rfl (Or.inl fl_X11_299) (ob_91) (show decode cX11_count 62 = .ok (.getfield 299, 3) by decide +kernel) rfl ?_
  refine am_r_iconst (nx := 66) (show decode cX11_count 65 = .ok (.iconst 2, 1) by decide +kernel) rfl ?_
  refine am_r_idiv (nx := 67) hr1 (by omega) (show decode cX11_count 66 = .ok (.idiv, 1) by decide +kernel) rfl ?_
  exact am_r_iret rfl rfl (show decode cX11_count 67 = .ok (.ireturn, 1) by decide +kernel) ⟨_, _, rfl, rfl, k⟩
theorem S_X11_count_68 {G : am_G} {d : Nat} {Q : Int → am_D → Prop} {σ : am_D} {Q' : Int → am_D → Prop} (hc : am_MI G d mX11_deepOf [am_r (some 107), am_i (σ.1 91 25)] σ Q') (k : ∀ (x : Int) (σ' : am_D), Q' x σ' → Q x σ') : am_X (am_FI G (d + 1) Q) mX11_count (0, 0) 68 [some (am_r (some 91)), none] [] (am_K0, σ) := by
  refine am_r_aload_n (nx := 69) rfl rfl (show decode cX11_count 68 = .ok (.aload_n 0, 1) by decide +kernel) rfl ?_
  refine am_r_getF (nx := 72) 22 cw11 (by decide) rfl (Or.inl fl_X11_57) (ob_91) (fn_91_22) (show decode cX11_count 69 = .ok (.getfield 57, 3) by decide +kernel) rfl ?_
  refine am_r_aload_n (nx := 73) rfl rfl (show decode cX11_count 72 = .ok (.aload_n 0, 1) by decide +kernel) rfl ?_
  refine am_r_getI (nx := 76) 25 cw11 (by decide) rfl (Or.inl fl_X11_299) (ob_91) (show decode cX11_count 73 = .ok (.getfield 299, 3) by decide +kernel) rfl ?_
  refine am_r_callS (as := [am_r (some 107), am_i (σ.1 91 25)]) (st := []) hc mb_X11_deepOf mv_X11_deepOf (Or.inl ml_X11_321) rfl rfl (Nat.le_of_ble_eq_true rfl) ⟨Nat.le_refl _, Nat.le_refl _⟩ ⟨Nat.le_refl _, Nat.le_refl _⟩ (show decode cX11_count 76 = .ok (.invokestatic 321, 3) by decide +kernel) ?_
  rintro _ _ ⟨x, σ', rfl, rfl, hq⟩ _
  exact am_r_iret rfl rfl (show decode cX11_count 79 = .ok (.ireturn, 1) by decide +kernel) ⟨_, _, rfl, rfl, (k x σ' hq)⟩
theorem S_X11_count_80 {G : am_G} {d : Nat} {Q : Int → am_D → Prop} {σ : am_D}  (hr1 : -2147483648 ≤ (σ.1 91 27) ∧ (σ.1 91 27) ≤ 2147483647) (k : Q (Int.tdiv (σ.1 91 27) 2) σ) : am_X (am_FI G (d + 1) Q) mX11_count (0, 0) 80 [some (am_r (some 91)), none] [] (am_K0, σ) := by
  refine am_r_aload_n (nx := 81) rfl rfl (show decode cX11_count 80 = .ok (.aload_n 0, 1) by decide +kernel) rfl ?_
  refine am_r_getI (nx := 84) 27 cw11 (by decide) rfl (Or.inl fl_X11_325) (ob_91) (show decode cX11_count 81 = .ok (.getfield 325, 3) by decide +kernel) rfl ?_
  refine am_r_iconst (nx := 85) (show decode cX11_count 84 = .ok (.iconst 2, 1) by decide +kernel) rfl ?_
  refine am_r_idiv (nx := 86) hr1 (by omega) (show decode cX11_count 85 = .ok (.idiv, 1) by decide +kernel) rfl ?_
  exact am_r_iret rfl rfl (show decode cX11_count 86 = .ok (.ireturn, 1) by decide +kernel) ⟨_, _, rfl, rfl, k⟩
theorem S_X11_count_87 {G : am_G} {d : Nat} {Q : Int → am_D → Prop} {σ : am_D} {Q' : Int → am_D → Prop} (hc : am_MI G d mX11_deepOf [am_r (some 109), am_i (σ.1 91 27)] σ Q') (k : ∀ (x : Int) (σ' : am_D), Q' x σ' → Q x σ') : am_X (am_FI G (d + 1) Q) mX11_count (0, 0) 87 [some (am_r (some 91)), none] [] (am_K0, σ) := by
  refine am_r_aload_n (nx := 88) rfl rfl (show decode cX11_count 87 = .ok (.aload_n 0, 1) by decide +kernel) rfl ?_
  refine am_r_getF (nx := 91) 24 cw11 (by decide) rfl (Or.inl fl_X11_63) (ob_91) (fn_91_24) (show decode cX11_count 88 = .ok (.getfield 63, 3) by decide +kernel) rfl ?_
  refine am_r_aload_n (nx := 92) rfl rfl (show decode cX11_count 91 = .ok (.aload_n 0, 1) by decide +kernel) rfl ?_
  refine am_r_getI (nx := 95) 27 cw11 (by decide) rfl (Or.inl fl_X11_325) (ob_91) (show decode cX11_count 92 = .ok (.getfield 325, 3) by decide +kernel) rfl ?_
  refine am_r_callS (as := [am_r (some 109), am_i (σ.1 91 27)]) (st := []) hc mb_X11_deepOf mv_X11_deepOf (Or.inl ml_X11_321) rfl rfl (Nat.le_of_ble_eq_true rfl) ⟨Nat.le_refl _, Nat.le_refl _⟩ ⟨Nat.le_refl _, Nat.le_refl _⟩ (show decode cX11_count 95 = .ok (.invokestatic 321, 3) by decide +kernel) ?_
  rintro _ _ ⟨x, σ', rfl, rfl, hq⟩ _
  exact am_r_iret rfl rfl (show decode cX11_count 98 = .ok (.ireturn, 1) by decide +kernel) ⟨_, _, rfl, rfl, (k x σ' hq)⟩
theorem S_X11_count_99 {G : am_G} {d : Nat} {Q : Int → am_D → Prop} {σ : am_D}  (hr1 : -2147483648 ≤ (σ.1 91 49) ∧ (σ.1 91 49) ≤ 2147483647) (k1 : (σ.1 91 49) = 0 → am_X (am_FI G (d + 1) Q) mX11_count (0, 0) 113 [none, none] [] (am_K0, σ)) (k2 : ¬ ((σ.1 91 49) = 0) → am_X (am_FI G (d + 1) Q) mX11_count (0, 0) 106 [some (am_r (some 91)), none] [] (am_K0, σ)) : am_X (am_FI G (d + 1) Q) mX11_count (0, 0) 99 [some (am_r (some 91)), none] [] (am_K0, σ) := by
  refine am_r_aload_n (nx := 100) rfl rfl (show decode cX11_count 99 = .ok (.aload_n 0, 1) by decide +kernel) rfl ?_
  refine am_r_getI (nx := 103) 49 cw11 (by decide) rfl (Or.inl fl_X11_328) (ob_91) (show decode cX11_count 100 = .ok (.getfield 328, 3) by decide +kernel) rfl ?_
  refine am_r_if_eq (tg := 113) (nx := 106) (show decode cX11_count 103 = .ok (.ifCond .eq 10, 3) by decide +kernel) (by decide) rfl hr1 ?_ ?_
  · exact fun q => am_x_fg [0] (k1 q)
  · exact fun q => k2 q
theorem S_X11_count_106 {G : am_G} {d : Nat} {Q : Int → am_D → Prop} {σ : am_D}   (k : am_X (am_FI G (d + 1) Q) mX11_count (0, 0) 114 [none, none] [am_i (σ.1 91 50)] (am_K0, σ)) : am_X (am_FI G (d + 1) Q) mX11_count (0, 0) 106 [some (am_r (some 91)), none] [] (am_K0, σ) := by
  refine am_r_aload_n (nx := 107) rfl rfl (show decode cX11_count 106 = .ok (.aload_n 0, 1) by decide +kernel) rfl ?_
  refine am_r_getI (nx := 110) 50 cw11 (by decide) rfl (Or.inl fl_X11_332) (ob_91) (show decode cX11_count 107 = .ok (.getfield 332, 3) by decide +kernel) rfl ?_
  refine am_r_goto (tg := 114) (show decode cX11_count 110 = .ok (.goto 4, 3) by decide +kernel) (by decide) ?_
  exact am_x_fg [0] k
theorem S_X11_count_113 {G : am_G} {d : Nat} {Q : Int → am_D → Prop} {σ : am_D}   (k : am_X (am_FI G (d + 1) Q) mX11_count (0, 0) 114 [none, none] [am_i 0] (am_K0, σ)) : am_X (am_FI G (d + 1) Q) mX11_count (0, 0) 113 [none, none] [] (am_K0, σ) := by
  refine am_r_iconst (nx := 114) (show decode cX11_count 113 = .ok (.iconst 0, 1) by decide +kernel) rfl ?_
  exact k
theorem S_X11_count_114 {G : am_G} {d : Nat} {Q : Int → am_D → Prop} {σ : am_D} {s0 : Int}  (k : Q s0 σ) : am_X (am_FI G (d + 1) Q) mX11_count (0, 0) 114 [none, none] [am_i s0] (am_K0, σ) := by
  exact am_r_iret rfl rfl (show decode cX11_count 114 = .ok (.ireturn, 1) by decide +kernel) ⟨_, _, rfl, rfl, k⟩
theorem S_X11_count_115 {G : am_G} {d : Nat} {Q : Int → am_D → Prop} {σ : am_D}  (hr1 : -2147483648 ≤ (σ.1 91 49) ∧ (σ.1 91 49) ≤ 2147483647) (k1 : (σ.1 91 49) = 0 → am_X (am_FI G (d + 1) Q) mX11_count (0, 0) 131 [none, none] [] (am_K0, σ)) (k2 : ¬ ((σ.1 91 49) = 0) → am_X (am_FI G (d + 1) Q) mX11_count (0, 0) 122 [some (am_r (some 91)), none] [] (am_K0, σ)) : am_X (am_FI G (d + 1) Q) mX11_count (0, 0) 115 [some (am_r (some 91)), none] [] (am_K0, σ) := by
  refine am_r_aload_n (nx := 116) rfl rfl (show decode cX11_count 115 = .ok (.aload_n 0, 1) by decide +kernel) rfl ?_
  refine am_r_getI (nx := 119) 49 cw11 (by decide) rfl (Or.inl fl_X11_328) (ob_91) (show decode cX11_count 116 = .ok (.getfield 328, 3) by decide +kernel) rfl ?_
  refine am_r_if_eq (tg := 131) (nx := 122) (show decode cX11_count 119 = .ok (.ifCond .eq 12, 3) by decide +kernel) (by decide) rfl hr1 ?_ ?_
  · exact fun q => am_x_fg [0] (k1 q)
  · exact fun q => k2 q
theorem S_X11_count_122 {G : am_G} {d : Nat} {Q : Int → am_D → Prop} {σ : am_D}   (k : am_X (am_FI G (d + 1) Q) mX11_count (0, 0) 132 [none, none] [am_i (σ.1 114 0)] (am_K0, σ)) : am_X (am_FI G (d + 1) Q) mX11_count (0, 0) 122 [some (am_r (some 91)), none] [] (am_K0, σ) := by
  refine am_r_aload_n (nx := 123) rfl rfl (show decode cX11_count 122 = .ok (.aload_n 0, 1) by decide +kernel) rfl ?_
  refine am_r_getF (nx := 126) 33 cw11 (by decide) rfl (Or.inl fl_X11_78) (ob_91) (fn_91_33) (show decode cX11_count 123 = .ok (.getfield 78, 3) by decide +kernel) rfl ?_
  refine am_r_iconst (nx := 127) (show decode cX11_count 126 = .ok (.iconst 0, 1) by decide +kernel) rfl ?_
  refine am_r_iald (nx := 128) (sh_114) (am_shle (sh_114)) (by omega) (by omega) (show decode cX11_count 127 = .ok (.iaload, 1) by decide +kernel) rfl ?_
  refine am_r_goto (tg := 132) (show decode cX11_count 128 = .ok (.goto 4, 3) by decide +kernel) (by decide) ?_
  exact am_x_fg [0] k
theorem S_X11_count_131 {G : am_G} {d : Nat} {Q : Int → am_D → Prop} {σ : am_D}   (k : am_X (am_FI G (d + 1) Q) mX11_count (0, 0) 132 [none, none] [am_i 0] (am_K0, σ)) : am_X (am_FI G (d + 1) Q) mX11_count (0, 0) 131 [none, none] [] (am_K0, σ) := by
  refine am_r_iconst (nx := 132) (show decode cX11_count 131 = .ok (.iconst 0, 1) by decide +kernel) rfl ?_
  exact k
theorem S_X11_count_132 {G : am_G} {d : Nat} {Q : Int → am_D → Prop} {σ : am_D} {s0 : Int}  (k : Q s0 σ) : am_X (am_FI G (d + 1) Q) mX11_count (0, 0) 132 [none, none] [am_i s0] (am_K0, σ) := by
  exact am_r_iret rfl rfl (show decode cX11_count 132 = .ok (.ireturn, 1) by decide +kernel) ⟨_, _, rfl, rfl, k⟩
theorem S_X11_count_133 {G : am_G} {d : Nat} {Q : Int → am_D → Prop} {σ : am_D}  (hr1 : -2147483648 ≤ (σ.1 91 49) ∧ (σ.1 91 49) ≤ 2147483647) (k1 : (σ.1 91 49) = 0 → am_X (am_FI G (d + 1) Q) mX11_count (0, 0) 148 [none, none] [] (am_K0, σ)) (k2 : ¬ ((σ.1 91 49) = 0) → am_X (am_FI G (d + 1) Q) mX11_count (0, 0) 140 [some (am_r (some 91)), none] [] (am_K0, σ)) : am_X (am_FI G (d + 1) Q) mX11_count (0, 0) 133 [some (am_r (some 91)), none] [] (am_K0, σ) := by
  refine am_r_aload_n (nx := 134) rfl rfl (show decode cX11_count 133 = .ok (.aload_n 0, 1) by decide +kernel) rfl ?_
  refine am_r_getI (nx := 137) 49 cw11 (by decide) rfl (Or.inl fl_X11_328) (ob_91) (show decode cX11_count 134 = .ok (.getfield 328, 3) by decide +kernel) rfl ?_
  refine am_r_if_eq (tg := 148) (nx := 140) (show decode cX11_count 137 = .ok (.ifCond .eq 11, 3) by decide +kernel) (by decide) rfl hr1 ?_ ?_
  · exact fun q => am_x_fg [0] (k1 q)
  · exact fun q => k2 q
theorem S_X11_count_140 {G : am_G} {d : Nat} {Q : Int → am_D → Prop} {σ : am_D} {Q' : Int → am_D → Prop} (hc : am_MI G d mX11_heldBy [am_r (some 91), am_i 0] σ Q') (k : ∀ (x : Int) (σ' : am_D), Q' x σ' → am_X (am_FI G (d + 1) Q) mX11_count (0, 0) 145 [none, none] [am_i x] (am_K0, σ')) : am_X (am_FI G (d + 1) Q) mX11_count (0, 0) 140 [some (am_r (some 91)), none] [] (am_K0, σ) := by
  refine am_r_aload_n (nx := 141) rfl rfl (show decode cX11_count 140 = .ok (.aload_n 0, 1) by decide +kernel) rfl ?_
  refine am_r_iconst (nx := 142) (show decode cX11_count 141 = .ok (.iconst 0, 1) by decide +kernel) rfl ?_
  refine am_r_callV (as := [am_i 0]) (st := []) hc mb_X11_heldBy mv_X11_heldBy (Or.inl ml_X11_335) (ob_91) (by omega) (r := (RX11, TX11, 63)) rfl rfl rfl rfl (Nat.le_of_ble_eq_true rfl) ⟨Nat.le_refl _, Nat.le_refl _⟩ ⟨Nat.le_refl _, Nat.le_refl _⟩ (show decode cX11_count 142 = .ok (.invokevirtual 335, 3) by decide +kernel) ?_
  rintro _ _ ⟨x, σ', rfl, rfl, hq⟩ _
  exact am_x_fg [0] (k x σ' hq)
theorem S_X11_count_145 {G : am_G} {d : Nat} {Q : Int → am_D → Prop} {σ : am_D} {s0 : Int}  (k : am_X (am_FI G (d + 1) Q) mX11_count (0, 0) 149 [none, none] [am_i s0] (am_K0, σ)) : am_X (am_FI G (d + 1) Q) mX11_count (0, 0) 145 [none, none] [am_i s0] (am_K0, σ) := by
  refine am_r_goto (tg := 149) (show decode cX11_count 145 = .ok (.goto 4, 3) by decide +kernel) (by decide) ?_
  exact k
theorem S_X11_count_148 {G : am_G} {d : Nat} {Q : Int → am_D → Prop} {σ : am_D}   (k : am_X (am_FI G (d + 1) Q) mX11_count (0, 0) 149 [none, none] [am_i 0] (am_K0, σ)) : am_X (am_FI G (d + 1) Q) mX11_count (0, 0) 148 [none, none] [] (am_K0, σ) := by
  refine am_r_iconst (nx := 149) (show decode cX11_count 148 = .ok (.iconst 0, 1) by decide +kernel) rfl ?_
  exact k
theorem S_X11_count_149 {G : am_G} {d : Nat} {Q : Int → am_D → Prop} {σ : am_D} {s0 : Int}  (k : Q s0 σ) : am_X (am_FI G (d + 1) Q) mX11_count (0, 0) 149 [none, none] [am_i s0] (am_K0, σ) := by
  exact am_r_iret rfl rfl (show decode cX11_count 149 = .ok (.ireturn, 1) by decide +kernel) ⟨_, _, rfl, rfl, k⟩
theorem S_X11_count_150 {G : am_G} {d : Nat} {Q : Int → am_D → Prop} {σ : am_D}  (hr1 : -2147483648 ≤ (σ.1 91 49) ∧ (σ.1 91 49) ≤ 2147483647) (k1 : (σ.1 91 49) = 0 → am_X (am_FI G (d + 1) Q) mX11_count (0, 0) 166 [none, none] [] (am_K0, σ)) (k2 : ¬ ((σ.1 91 49) = 0) → am_X (am_FI G (d + 1) Q) mX11_count (0, 0) 157 [some (am_r (some 91)), none] [] (am_K0, σ)) : am_X (am_FI G (d + 1) Q) mX11_count (0, 0) 150 [some (am_r (some 91)), none] [] (am_K0, σ) := by
  refine am_r_aload_n (nx := 151) rfl rfl (show decode cX11_count 150 = .ok (.aload_n 0, 1) by decide +kernel) rfl ?_
  refine am_r_getI (nx := 154) 49 cw11 (by decide) rfl (Or.inl fl_X11_328) (ob_91) (show decode cX11_count 151 = .ok (.getfield 328, 3) by decide +kernel) rfl ?_
  refine am_r_if_eq (tg := 166) (nx := 157) (show decode cX11_count 154 = .ok (.ifCond .eq 12, 3) by decide +kernel) (by decide) rfl hr1 ?_ ?_
  · exact fun q => am_x_fg [0] (k1 q)
  · exact fun q => k2 q
theorem S_X11_count_157 {G : am_G} {d : Nat} {Q : Int → am_D → Prop} {σ : am_D}   (k : am_X (am_FI G (d + 1) Q) mX11_count (0, 0) 167 [none, none] [am_i (σ.1 115 0)] (am_K0, σ)) : am_X (am_FI G (d + 1) Q) mX11_count (0, 0) 157 [some (am_r (some 91)), none] [] (am_K0, σ) := by
  refine am_r_aload_n (nx := 158) rfl rfl (show decode cX11_count 157 = .ok (.aload_n 0, 1) by decide +kernel) rfl ?_
  refine am_r_getF (nx := 161) 34 cw11 (by decide) rfl (Or.inl fl_X11_81) (ob_91) (fn_91_34) (show decode cX11_count 158 = .ok (.getfield 81, 3) by decide +kernel) rfl ?_
  refine am_r_iconst (nx := 162) (show decode cX11_count 161 = .ok (.iconst 0, 1) by decide +kernel) rfl ?_
  refine am_r_iald (nx := 163) (sh_115) (am_shle (sh_115)) (by omega) (by omega) (show decode cX11_count 162 = .ok (.iaload, 1) by decide +kernel) rfl ?_
  refine am_r_goto (tg := 167) (show decode cX11_count 163 = .ok (.goto 4, 3) by decide +kernel) (by decide) ?_
  exact am_x_fg [0] k
theorem S_X11_count_166 {G : am_G} {d : Nat} {Q : Int → am_D → Prop} {σ : am_D}   (k : am_X (am_FI G (d + 1) Q) mX11_count (0, 0) 167 [none, none] [am_i 0] (am_K0, σ)) : am_X (am_FI G (d + 1) Q) mX11_count (0, 0) 166 [none, none] [] (am_K0, σ) := by
  refine am_r_iconst (nx := 167) (show decode cX11_count 166 = .ok (.iconst 0, 1) by decide +kernel) rfl ?_
  exact k
theorem S_X11_count_167 {G : am_G} {d : Nat} {Q : Int → am_D → Prop} {σ : am_D} {s0 : Int}  (k : Q s0 σ) : am_X (am_FI G (d + 1) Q) mX11_count (0, 0) 167 [none, none] [am_i s0] (am_K0, σ) := by
  exact am_r_iret rfl rfl (show decode cX11_count 167 = .ok (.ireturn, 1) by decide +kernel) ⟨_, _, rfl, rfl, k⟩
theorem S_X11_count_168 {G : am_G} {d : Nat} {Q : Int → am_D → Prop} {σ : am_D}   (k : Q (σ.1 91 1) σ) : am_X (am_FI G (d + 1) Q) mX11_count (0, 0) 168 [some (am_r (some 91)), none] [] (am_K0, σ) := by
  refine am_r_aload_n (nx := 169) rfl rfl (show decode cX11_count 168 = .ok (.aload_n 0, 1) by decide +kernel) rfl ?_
  refine am_r_getI (nx := 172) 1 cw11 (by decide) rfl (Or.inl fl_X11_148) (ob_91) (show decode cX11_count 169 = .ok (.getfield 148, 3) by decide +kernel) rfl ?_
  exact am_r_iret rfl rfl (show decode cX11_count 172 = .ok (.ireturn, 1) by decide +kernel) ⟨_, _, rfl, rfl, k⟩
theorem S_X11_count_173 {G : am_G} {d : Nat} {Q : Int → am_D → Prop} {σ : am_D}   (k : Q (-1) σ) : am_X (am_FI G (d + 1) Q) mX11_count (0, 0) 173 [none, none] [] (am_K0, σ) := by
  refine am_r_iconst (nx := 174) (show decode cX11_count 173 = .ok (.iconst (-1), 1) by decide +kernel) rfl ?_
  exact am_r_iret rfl rfl (show decode cX11_count 174 = .ok (.ireturn, 1) by decide +kernel) ⟨_, _, rfl, rfl, k⟩
theorem S_X11_event_0 {G : am_G} {d : Nat} {Q : Int → am_D → Prop} {σ : am_D} {v1 : Int} {v2 : Int} (hr1 : -2147483648 ≤ v2 ∧ v2 ≤ 2147483647) (k1 : v2 = 0 → am_X (am_FI G (d + 1) Q) mX11_event (0, 0) 13 [some (am_r (some 91)), some (am_i v1), some (am_i v2)] [am_i 0, am_i v1] (am_K0, σ)) (k2 : ¬ (v2 = 0) → am_X (am_FI G (d + 1) Q) mX11_event (0, 0) 6 [some (am_r (some 91)), some (am_i v1), some (am_i v2)] [am_i 0, am_i v1] (am_K0, σ)) : am_X (am_FI G (d + 1) Q) mX11_event (0, 0) 0 [some (am_r (some 91)), some (am_i v1), some (am_i v2)] [] (am_K0, σ) := by
  refine am_r_iload_n (nx := 1) rfl rfl (show decode cX11_event 0 = .ok (.iload_n 1, 1) by decide +kernel) rfl ?_
  refine am_r_iconst (nx := 2) (show decode cX11_event 1 = .ok (.iconst 0, 1) by decide +kernel) rfl ?_
  refine am_r_iload_n (nx := 3) rfl rfl (show decode cX11_event 2 = .ok (.iload_n 2, 1) by decide +kernel) rfl ?_
  refine am_r_if_eq (tg := 13) (nx := 6) (show decode cX11_event 3 = .ok (.ifCond .eq 10, 3) by decide +kernel) (by decide) rfl hr1 ?_ ?_
  · exact fun q => k1 q
  · exact fun q => k2 q
theorem S_X11_event_6 {G : am_G} {d : Nat} {Q : Int → am_D → Prop} {σ : am_D} {v1 : Int} {v2 : Int} {s0 : Int} {s1 : Int}  (k : am_X (am_FI G (d + 1) Q) mX11_event (0, 0) 17 [some (am_r (some 91)), some (am_i v1), some (am_i v2)] [am_i (σ.1 91 27), am_i s1, am_i s0] (am_K0, σ)) : am_X (am_FI G (d + 1) Q) mX11_event (0, 0) 6 [some (am_r (some 91)), some (am_i v1), some (am_i v2)] [am_i s1, am_i s0] (am_K0, σ) := by
  refine am_r_aload_n (nx := 7) rfl rfl (show decode cX11_event 6 = .ok (.aload_n 0, 1) by decide +kernel) rfl ?_
  refine am_r_getI (nx := 10) 27 cw11 (by decide) rfl (Or.inl fl_X11_325) (ob_91) (show decode cX11_event 7 = .ok (.getfield 325, 3) by decide +kernel) rfl ?_
  refine am_r_goto (tg := 17) (show decode cX11_event 10 = .ok (.goto 7, 3) by decide +kernel) (by decide) ?_
  exact k
theorem S_X11_event_13 {G : am_G} {d : Nat} {Q : Int → am_D → Prop} {σ : am_D} {v1 : Int} {v2 : Int} {s0 : Int} {s1 : Int}  (k : am_X (am_FI G (d + 1) Q) mX11_event (0, 0) 17 [some (am_r (some 91)), some (am_i v1), some (am_i v2)] [am_i (σ.1 91 25), am_i s1, am_i s0] (am_K0, σ)) : am_X (am_FI G (d + 1) Q) mX11_event (0, 0) 13 [some (am_r (some 91)), some (am_i v1), some (am_i v2)] [am_i s1, am_i s0] (am_K0, σ) := by
  refine am_r_aload_n (nx := 14) rfl rfl (show decode cX11_event 13 = .ok (.aload_n 0, 1) by decide +kernel) rfl ?_
  refine am_r_getI (nx := 17) 25 cw11 (by decide) rfl (Or.inl fl_X11_299) (ob_91) (show decode cX11_event 14 = .ok (.getfield 299, 3) by decide +kernel) rfl ?_
  exact k
theorem S_X11_event_17 {G : am_G} {d : Nat} {Q : Int → am_D → Prop} {σ : am_D} {v1 : Int} {v2 : Int} {s0 : Int} {s1 : Int} {s2 : Int} {Q' : Int → am_D → Prop} (hc : am_MI G d mX11_isIn [am_i s0, am_i s1, am_i (s2 - 1)] σ Q') (k : ∀ (x : Int) (σ' : am_D), Q' x σ' → am_X (am_FI G (d + 1) Q) mX11_event (0, 0) 22 [some (am_r (some 91)), some (am_i v1), some (am_i v2)] [am_i x] (am_K0, σ')) : am_X (am_FI G (d + 1) Q) mX11_event (0, 0) 17 [some (am_r (some 91)), some (am_i v1), some (am_i v2)] [am_i s2, am_i s1, am_i s0] (am_K0, σ) := by
  refine am_r_iconst (nx := 18) (show decode cX11_event 17 = .ok (.iconst 1, 1) by decide +kernel) rfl ?_
  refine am_r_isub (nx := 19) (show decode cX11_event 18 = .ok (.isub, 1) by decide +kernel) rfl ?_
  refine am_r_callS (as := [am_i s0, am_i s1, am_i (s2 - 1)]) (st := []) hc mb_X11_isIn mv_X11_isIn (Or.inl ml_X11_156) rfl rfl (Nat.le_of_ble_eq_true rfl) ⟨Nat.le_refl _, Nat.le_refl _⟩ ⟨Nat.le_refl _, Nat.le_refl _⟩ (show decode cX11_event 19 = .ok (.invokestatic 156, 3) by decide +kernel) ?_
  rintro _ _ ⟨x, σ', rfl, rfl, hq⟩ _
  exact (k x σ' hq)
theorem S_X11_event_22 {G : am_G} {d : Nat} {Q : Int → am_D → Prop} {σ : am_D} {v1 : Int} {v2 : Int} {s0 : Int} (hr1 : -2147483648 ≤ s0 ∧ s0 ≤ 2147483647) (k1 : s0 = 0 → am_X (am_FI G (d + 1) Q) mX11_event (0, 0) 47 [none, none, none] [] (am_K0, σ)) (k2 : ¬ (s0 = 0) → am_X (am_FI G (d + 1) Q) mX11_event (0, 0) 25 [some (am_r (some 91)), some (am_i v1), some (am_i v2)] [] (am_K0, σ)) : am_X (am_FI G (d + 1) Q) mX11_event (0, 0) 22 [some (am_r (some 91)), some (am_i v1), some (am_i v2)] [am_i s0] (am_K0, σ) := by
  refine am_r_if_eq (tg := 47) (nx := 25) (show decode cX11_event 22 = .ok (.ifCond .eq 25, 3) by decide +kernel) (by decide) rfl hr1 ?_ ?_
  · exact fun q => am_x_fg [0, 1, 2] (k1 q)
  · exact fun q => k2 q
theorem S_X11_event_25 {G : am_G} {d : Nat} {Q : Int → am_D → Prop} {σ : am_D} {v1 : Int} {v2 : Int} (hr1 : -2147483648 ≤ v2 ∧ v2 ≤ 2147483647) (k1 : v2 = 0 → am_X (am_FI G (d + 1) Q) mX11_event (0, 0) 38 [some (am_r (some 91)), some (am_i v1), none] [] (am_K0, σ)) (k2 : ¬ (v2 = 0) → am_X (am_FI G (d + 1) Q) mX11_event (0, 0) 29 [some (am_r (some 91)), some (am_i v1), none] [] (am_K0, σ)) : am_X (am_FI G (d + 1) Q) mX11_event (0, 0) 25 [some (am_r (some 91)), some (am_i v1), some (am_i v2)] [] (am_K0, σ) := by
  refine am_r_iload_n (nx := 26) rfl rfl (show decode cX11_event 25 = .ok (.iload_n 2, 1) by decide +kernel) rfl ?_
  refine am_r_if_eq (tg := 38) (nx := 29) (show decode cX11_event 26 = .ok (.ifCond .eq 12, 3) by decide +kernel) (by decide) rfl hr1 ?_ ?_
  · exact fun q => am_x_fg [2] (k1 q)
  · exact fun q => am_x_fg [2] (k2 q)
theorem S_X11_event_29 {G : am_G} {d : Nat} {Q : Int → am_D → Prop} {σ : am_D} {v1 : Int} (hi1 : 0 ≤ v1) (hj2 : v1 < 5000) (k : am_X (am_FI G (d + 1) Q) mX11_event (0, 0) 48 [none, none, none] [am_i (σ.1 109 v1)] (am_K0, σ)) : am_X (am_FI G (d + 1) Q) mX11_event (0, 0) 29 [some (am_r (some 91)), some (am_i v1), none] [] (am_K0, σ) := by
  refine am_r_aload_n (nx := 30) rfl rfl (show decode cX11_event 29 = .ok (.aload_n 0, 1) by decide +kernel) rfl ?_
  refine am_r_getF (nx := 33) 24 cw11 (by decide) rfl (Or.inl fl_X11_63) (ob_91) (fn_91_24) (show decode cX11_event 30 = .ok (.getfield 63, 3) by decide +kernel) rfl ?_
  refine am_r_iload_n (nx := 34) rfl rfl (show decode cX11_event 33 = .ok (.iload_n 1, 1) by decide +kernel) rfl ?_
  refine am_r_iald (nx := 35) (sh_109) (am_shle (sh_109)) hi1 hj2 (show decode cX11_event 34 = .ok (.iaload, 1) by decide +kernel) rfl ?_
  refine am_r_goto (tg := 48) (show decode cX11_event 35 = .ok (.goto 13, 3) by decide +kernel) (by decide) ?_
  exact am_x_fg [0, 1] k
theorem S_X11_event_38 {G : am_G} {d : Nat} {Q : Int → am_D → Prop} {σ : am_D} {v1 : Int} (hi1 : 0 ≤ v1) (hj2 : v1 < 80) (k : am_X (am_FI G (d + 1) Q) mX11_event (0, 0) 48 [none, none, none] [am_i (σ.1 107 v1)] (am_K0, σ)) : am_X (am_FI G (d + 1) Q) mX11_event (0, 0) 38 [some (am_r (some 91)), some (am_i v1), none] [] (am_K0, σ) := by
  refine am_r_aload_n (nx := 39) rfl rfl (show decode cX11_event 38 = .ok (.aload_n 0, 1) by decide +kernel) rfl ?_
  refine am_r_getF (nx := 42) 22 cw11 (by decide) rfl (Or.inl fl_X11_57) (ob_91) (fn_91_22) (show decode cX11_event 39 = .ok (.getfield 57, 3) by decide +kernel) rfl ?_
  refine am_r_iload_n (nx := 43) rfl rfl (show decode cX11_event 42 = .ok (.iload_n 1, 1) by decide +kernel) rfl ?_
  refine am_r_iald (nx := 44) (sh_107) (am_shle (sh_107)) hi1 hj2 (show decode cX11_event 43 = .ok (.iaload, 1) by decide +kernel) rfl ?_
  refine am_r_goto (tg := 48) (show decode cX11_event 44 = .ok (.goto 4, 3) by decide +kernel) (by decide) ?_
  exact am_x_fg [0, 1] k
theorem S_X11_event_47 {G : am_G} {d : Nat} {Q : Int → am_D → Prop} {σ : am_D}   (k : am_X (am_FI G (d + 1) Q) mX11_event (0, 0) 48 [none, none, none] [am_i (-1)] (am_K0, σ)) : am_X (am_FI G (d + 1) Q) mX11_event (0, 0) 47 [none, none, none] [] (am_K0, σ) := by
  refine am_r_iconst (nx := 48) (show decode cX11_event 47 = .ok (.iconst (-1), 1) by decide +kernel) rfl ?_
  exact k
theorem S_X11_event_48 {G : am_G} {d : Nat} {Q : Int → am_D → Prop} {σ : am_D} {s0 : Int}  (k : Q s0 σ) : am_X (am_FI G (d + 1) Q) mX11_event (0, 0) 48 [none, none, none] [am_i s0] (am_K0, σ) := by
  exact am_r_iret rfl rfl (show decode cX11_event 48 = .ok (.ireturn, 1) by decide +kernel) ⟨_, _, rfl, rfl, k⟩
theorem S_X11_take_0 {G : am_G} {d : Nat} {Q : Int → am_D → Prop} {σ : am_D}  (hr1 : -2147483648 ≤ (σ.1 91 27) ∧ (σ.1 91 27) ≤ 2147483647) (k1 : (σ.1 91 27) ≤ 80 → am_X (am_FI G (d + 1) Q) mX11_take (0, 0) 11 [some (am_r (some 91)), none] [] (am_K0, σ)) (k2 : ¬ ((σ.1 91 27) ≤ 80) → am_X (am_FI G (d + 1) Q) mX11_take (0, 0) 9 [none, none] [] (am_K0, σ)) : am_X (am_FI G (d + 1) Q) mX11_take (0, 0) 0 [some (am_r (some 91)), none] [] (am_K0, σ) := by
  refine am_r_aload_n (nx := 1) rfl rfl (show decode cX11_take 0 = .ok (.aload_n 0, 1) by decide +kernel) rfl ?_
  refine am_r_getI (nx := 4) 27 cw11 (by decide) rfl (Or.inl fl_X11_325) (ob_91) (show decode cX11_take 1 = .ok (.getfield 325, 3) by decide +kernel) rfl ?_
  refine am_r_bipush (nx := 6) rfl (show decode cX11_take 4 = .ok (.bipush 80, 2) by decide +kernel) rfl ?_
  refine am_r_icmp_le (tg := 11) (nx := 9) (show decode cX11_take 6 = .ok (.if_icmp .le 5, 3) by decide +kernel) (by decide) rfl hr1 (by omega) ?_ ?_
  · exact fun q => k1 q
  · exact fun q => am_x_fg [0] (k2 q)
theorem S_X11_take_9 {G : am_G} {d : Nat} {Q : Int → am_D → Prop} {σ : am_D}   (k : Q (-1) σ) : am_X (am_FI G (d + 1) Q) mX11_take (0, 0) 9 [none, none] [] (am_K0, σ) := by
  refine am_r_iconst (nx := 10) (show decode cX11_take 9 = .ok (.iconst (-1), 1) by decide +kernel) rfl ?_
  exact am_r_iret rfl rfl (show decode cX11_take 10 = .ok (.ireturn, 1) by decide +kernel) ⟨_, _, rfl, rfl, k⟩
theorem S_X11_take_11 {G : am_G} {d : Nat} {Q : Int → am_D → Prop} {σ : am_D}   (k : am_X (am_FI G (d + 1) Q) mX11_take (0, 0) 19 [some (am_r (some 91)), none] [] (am_K0, (am_pI σ 91 25 (σ.1 91 27)))) : am_X (am_FI G (d + 1) Q) mX11_take (0, 0) 11 [some (am_r (some 91)), none] [] (am_K0, σ) := by
  refine am_r_aload_n (nx := 12) rfl rfl (show decode cX11_take 11 = .ok (.aload_n 0, 1) by decide +kernel) rfl ?_
  refine am_r_aload_n (nx := 13) rfl rfl (show decode cX11_take 12 = .ok (.aload_n 0, 1) by decide +kernel) rfl ?_
  refine am_r_getI (nx := 16) 27 cw11 (by decide) rfl (Or.inl fl_X11_325) (ob_91) (show decode cX11_take 13 = .ok (.getfield 325, 3) by decide +kernel) rfl ?_
  refine am_r_putI (nx := 19) 25 cw11 (by decide) rfl (Or.inl fl_X11_299) (ob_91) rfl (Or.inl rfl) (show decode cX11_take 16 = .ok (.putfield 299, 3) by decide +kernel) rfl ?_
  exact k
theorem S_X11_take_19 {G : am_G} {d : Nat} {Q : Int → am_D → Prop} {σ : am_D}   (k : am_X (am_FI G (d + 1) Q) mX11_take (0, 0) 21 [some (am_r (some 91)), some (am_i 0)] [] (am_K0, σ)) : am_X (am_FI G (d + 1) Q) mX11_take (0, 0) 19 [some (am_r (some 91)), none] [] (am_K0, σ) := by
  refine am_r_iconst (nx := 20) (show decode cX11_take 19 = .ok (.iconst 0, 1) by decide +kernel) rfl ?_
  refine am_r_istore_n (nx := 21) rfl (by decide) rfl (show decode cX11_take 20 = .ok (.istore_n 1, 1) by decide +kernel) rfl ?_
  exact k
theorem S_X11_take_21 {G : am_G} {d : Nat} {Q : Int → am_D → Prop} {σ : am_D} {v1 : Int} (hr1 : -2147483648 ≤ v1 ∧ v1 ≤ 2147483647) (hr2 : -2147483648 ≤ (σ.1 91 27) ∧ (σ.1 91 27) ≤ 2147483647) (k1 : (σ.1 91 27) ≤ v1 → am_X (am_FI G (d + 1) Q) mX11_take (0, 0) 47 [some (am_r (some 91)), none] [] (am_K0, σ)) (k2 : ¬ ((σ.1 91 27) ≤ v1) → am_X (am_FI G (d + 1) Q) mX11_take (0, 0) 29 [some (am_r (some 91)), some (am_i v1)] [] (am_K0, σ)) : am_X (am_FI G (d + 1) Q) mX11_take (0, 0) 21 [some (am_r (some 91)), some (am_i v1)] [] (am_K0, σ) := by
  refine am_r_iload_n (nx := 22) rfl rfl (show decode cX11_take 21 = .ok (.iload_n 1, 1) by decide +kernel) rfl ?_
  refine am_r_aload_n (nx := 23) rfl rfl (show decode cX11_take 22 = .ok (.aload_n 0, 1) by decide +kernel) rfl ?_
  refine am_r_getI (nx := 26) 27 cw11 (by decide) rfl (Or.inl fl_X11_325) (ob_91) (show decode cX11_take 23 = .ok (.getfield 325, 3) by decide +kernel) rfl ?_
  refine am_r_icmp_ge (tg := 47) (nx := 29) (show decode cX11_take 26 = .ok (.if_icmp .ge 21, 3) by decide +kernel) (by decide) rfl hr1 hr2 ?_ ?_
  · exact fun q => am_x_fg [1] (k1 q)
  · exact fun q => k2 q
theorem S_X11_take_29 {G : am_G} {d : Nat} {Q : Int → am_D → Prop} {σ : am_D} {v1 : Int} (hi1 : 0 ≤ v1) (hj2 : v1 < 5000) (hi3 : 0 ≤ v1) (hj4 : v1 < 80) (k : am_X (am_FI G (d + 1) Q) mX11_take (0, 0) 41 [some (am_r (some 91)), some (am_i v1)] [] (am_K0, (am_pI σ 107 v1 (σ.1 109 v1)))) : am_X (am_FI G (d + 1) Q) mX11_take (0, 0) 29 [some (am_r (some 91)), some (am_i v1)] [] (am_K0, σ) := by
  refine am_r_aload_n (nx := 30) rfl rfl (show decode cX11_take 29 = .ok (.aload_n 0, 1) by decide +kernel) rfl ?_
  refine am_r_getF (nx := 33) 22 cw11 (by decide) rfl (Or.inl fl_X11_57) (ob_91) (fn_91_22) (show decode cX11_take 30 = .ok (.getfield 57, 3) by decide +kernel) rfl ?_
  refine am_r_iload_n (nx := 34) rfl rfl (show decode cX11_take 33 = .ok (.iload_n 1, 1) by decide +kernel) rfl ?_
  refine am_r_aload_n (nx := 35) rfl rfl (show decode cX11_take 34 = .ok (.aload_n 0, 1) by decide +kernel) rfl ?_
  refine am_r_getF (nx := 38) 24 cw11 (by decide) rfl (Or.inl fl_X11_63) (ob_91) (fn_91_24) (show decode cX11_take 35 = .ok (.getfield 63, 3) by decide +kernel) rfl ?_
  refine am_r_iload_n (nx := 39) rfl rfl (show decode cX11_take 38 = .ok (.iload_n 1, 1) by decide +kernel) rfl ?_
  refine am_r_iald (nx := 40) (sh_109) (am_shle (sh_109)) hi1 hj2 (show decode cX11_take 39 = .ok (.iaload, 1) by decide +kernel) rfl ?_
  refine am_r_iast (nx := 41) (sh_107) (am_shle (sh_107)) hi3 hj4 (show decode cX11_take 40 = .ok (.iastore, 1) by decide +kernel) rfl ?_
  exact k
theorem S_X11_take_41 {G : am_G} {d : Nat} {Q : Int → am_D → Prop} {σ : am_D} {v1 : Int}  (k : am_X (am_FI G (d + 1) Q) mX11_take (0, 0) 21 [some (am_r (some 91)), some (am_i (v1 + 1))] [] (am_K0, σ)) : am_X (am_FI G (d + 1) Q) mX11_take (0, 0) 41 [some (am_r (some 91)), some (am_i v1)] [] (am_K0, σ) := by
  refine am_r_iinc (nx := 44) rfl rfl (show decode cX11_take 41 = .ok (.iinc 1 1, 3) by decide +kernel) rfl ?_
  refine am_r_goto (tg := 21) (show decode cX11_take 44 = .ok (.goto (-23), 3) by decide +kernel) (by decide) ?_
  exact k
theorem S_X11_take_47 {G : am_G} {d : Nat} {Q : Int → am_D → Prop} {σ : am_D}  (hr1 : -2147483648 ≤ (σ.1 91 27) ∧ (σ.1 91 27) ≤ 2147483647) (k : Q (Int.tdiv (σ.1 91 27) 2) σ) : am_X (am_FI G (d + 1) Q) mX11_take (0, 0) 47 [some (am_r (some 91)), none] [] (am_K0, σ) := by
  refine am_r_aload_n (nx := 48) rfl rfl (show decode cX11_take 47 = .ok (.aload_n 0, 1) by decide +kernel) rfl ?_
  refine am_r_getI (nx := 51) 27 cw11 (by decide) rfl (Or.inl fl_X11_325) (ob_91) (show decode cX11_take 48 = .ok (.getfield 325, 3) by decide +kernel) rfl ?_
  refine am_r_iconst (nx := 52) (show decode cX11_take 51 = .ok (.iconst 2, 1) by decide +kernel) rfl ?_
  refine am_r_idiv (nx := 53) hr1 (by omega) (show decode cX11_take 52 = .ok (.idiv, 1) by decide +kernel) rfl ?_
  exact am_r_iret rfl rfl (show decode cX11_take 53 = .ok (.ireturn, 1) by decide +kernel) ⟨_, _, rfl, rfl, k⟩
theorem S_X11_empties_0 {G : am_G} {d : Nat} {Q : am_D → Prop} {σ : am_D} {v1 : Int}  (k : am_X (am_FV G (d + 1) Q) mX11_empties (0, 0) 2 [some (am_r (some 91)), some (am_i v1), some (am_i 0)] [] (am_K0, σ)) : am_X (am_FV G (d + 1) Q) mX11_empties (0, 0) 0 [some (am_r (some 91)), some (am_i v1), none] [] (am_K0, σ) := by
  refine am_r_iconst (nx := 1) (show decode cX11_empties 0 = .ok (.iconst 0, 1) by decide +kernel) rfl ?_
  refine am_r_istore_n (nx := 2) rfl (by decide) rfl (show decode cX11_empties 1 = .ok (.istore_n 2, 1) by decide +kernel) rfl ?_
  exact k
theorem S_X11_empties_2 {G : am_G} {d : Nat} {Q : am_D → Prop} {σ : am_D} {v1 : Int} {v2 : Int} (hr1 : -2147483648 ≤ v2 ∧ v2 ≤ 2147483647) (k1 : 3 ≤ v2 → am_X (am_FV G (d + 1) Q) mX11_empties (0, 0) 24 [none, none, none] [] (am_K0, σ)) (k2 : ¬ (3 ≤ v2) → am_X (am_FV G (d + 1) Q) mX11_empties (0, 0) 7 [some (am_r (some 91)), some (am_i v1), some (am_i v2)] [] (am_K0, σ)) : am_X (am_FV G (d + 1) Q) mX11_empties (0, 0) 2 [some (am_r (some 91)), some (am_i v1), some (am_i v2)] [] (am_K0, σ) := by
  refine am_r_iload_n (nx := 3) rfl rfl (show decode cX11_empties 2 = .ok (.iload_n 2, 1) by decide +kernel) rfl ?_
  refine am_r_iconst (nx := 4) (show decode cX11_empties 3 = .ok (.iconst 3, 1) by decide +kernel) rfl ?_
  refine am_r_icmp_ge (tg := 24) (nx := 7) (show decode cX11_empties 4 = .ok (.if_icmp .ge 20, 3) by decide +kernel) (by decide) rfl hr1 (by omega) ?_ ?_
  · exact fun q => am_x_fg [0, 1, 2] (k1 q)
  · exact fun q => k2 q
theorem S_X11_empties_7 {G : am_G} {d : Nat} {Q : am_D → Prop} {σ : am_D} {v1 : Int} {v2 : Int} (hi1 : 0 ≤ ((3 * v1) + v2)) (hj2 : ((3 * v1) + v2) < 9) (k : am_X (am_FV G (d + 1) Q) mX11_empties (0, 0) 18 [some (am_r (some 91)), some (am_i v1), some (am_i v2)] [] (am_K0, (am_pI σ 118 ((3 * v1) + v2) 0))) : am_X (am_FV G (d + 1) Q) mX11_empties (0, 0) 7 [some (am_r (some 91)), some (am_i v1), some (am_i v2)] [] (am_K0, σ) := by
  refine am_r_aload_n (nx := 8) rfl rfl (show decode cX11_empties 7 = .ok (.aload_n 0, 1) by decide +kernel) rfl ?_
  refine am_r_getF (nx := 11) 37 cw11 (by decide) rfl (Or.inl fl_X11_90) (ob_91) (fn_91_37) (show decode cX11_empties 8 = .ok (.getfield 90, 3) by decide +kernel) rfl ?_
  refine am_r_iconst (nx := 12) (show decode cX11_empties 11 = .ok (.iconst 3, 1) by decide +kernel) rfl ?_
  refine am_r_iload_n (nx := 13) rfl rfl (show decode cX11_empties 12 = .ok (.iload_n 1, 1) by decide +kernel) rfl ?_
  refine am_r_imul (nx := 14) (show decode cX11_empties 13 = .ok (.imul, 1) by decide +kernel) rfl ?_
  refine am_r_iload_n (nx := 15) rfl rfl (show decode cX11_empties 14 = .ok (.iload_n 2, 1) by decide +kernel) rfl ?_
  refine am_r_iadd (nx := 16) (show decode cX11_empties 15 = .ok (.iadd, 1) by decide +kernel) rfl ?_
  refine am_r_iconst (nx := 17) (show decode cX11_empties 16 = .ok (.iconst 0, 1) by decide +kernel) rfl ?_
  refine am_r_iast (nx := 18) (sh_118) (am_shle (sh_118)) hi1 hj2 (show decode cX11_empties 17 = .ok (.iastore, 1) by decide +kernel) rfl ?_
  exact k
theorem S_X11_empties_18 {G : am_G} {d : Nat} {Q : am_D → Prop} {σ : am_D} {v1 : Int} {v2 : Int}  (k : am_X (am_FV G (d + 1) Q) mX11_empties (0, 0) 2 [some (am_r (some 91)), some (am_i v1), some (am_i (v2 + 1))] [] (am_K0, σ)) : am_X (am_FV G (d + 1) Q) mX11_empties (0, 0) 18 [some (am_r (some 91)), some (am_i v1), some (am_i v2)] [] (am_K0, σ) := by
  refine am_r_iinc (nx := 21) rfl rfl (show decode cX11_empties 18 = .ok (.iinc 2 1, 3) by decide +kernel) rfl ?_
  refine am_r_goto (tg := 2) (show decode cX11_empties 21 = .ok (.goto (-19), 3) by decide +kernel) (by decide) ?_
  exact k
theorem S_X11_empties_24 {G : am_G} {d : Nat} {Q : am_D → Prop} {σ : am_D}   (k : Q σ) : am_X (am_FV G (d + 1) Q) mX11_empties (0, 0) 24 [none, none, none] [] (am_K0, σ) := by
  exact am_r_vret rfl (show decode cX11_empties 24 = .ok (.return_, 1) by decide +kernel) ⟨_, rfl, rfl, k⟩
theorem S_X11_starts_0 {G : am_G} {d : Nat} {Q : am_D → Prop} {σ : am_D} {v1 : Int} (hi1 : 0 ≤ v1) (hj2 : v1 < 3) (k : am_X (am_FV G (d + 1) Q) mX11_starts (0, 0) 7 [some (am_r (some 91)), some (am_i v1)] [] (am_K0, (am_pI σ 112 v1 0))) : am_X (am_FV G (d + 1) Q) mX11_starts (0, 0) 0 [some (am_r (some 91)), some (am_i v1)] [] (am_K0, σ) := by
  refine am_r_aload_n (nx := 1) rfl rfl (show decode cX11_starts 0 = .ok (.aload_n 0, 1) by decide +kernel) rfl ?_
  refine am_r_getF (nx := 4) 31 cw11 (by decide) rfl (Or.inl fl_X11_72) (ob_91) (fn_91_31) (show decode cX11_starts 1 = .ok (.getfield 72, 3) by decide +kernel) rfl ?_
  refine am_r_iload_n (nx := 5) rfl rfl (show decode cX11_starts 4 = .ok (.iload_n 1, 1) by decide +kernel) rfl ?_
  refine am_r_iconst (nx := 6) (show decode cX11_starts 5 = .ok (.iconst 0, 1) by decide +kernel) rfl ?_
  refine am_r_iast (nx := 7) (sh_112) (am_shle (sh_112)) hi1 hj2 (show decode cX11_starts 6 = .ok (.iastore, 1) by decide +kernel) rfl ?_
  exact k
theorem S_X11_starts_7 {G : am_G} {d : Nat} {Q : am_D → Prop} {σ : am_D} {v1 : Int} (hi1 : 0 ≤ v1) (hj2 : v1 < 3) (k : am_X (am_FV G (d + 1) Q) mX11_starts (0, 0) 14 [some (am_r (some 91)), some (am_i v1)] [] (am_K0, (am_pI σ 113 v1 0))) : am_X (am_FV G (d + 1) Q) mX11_starts (0, 0) 7 [some (am_r (some 91)), some (am_i v1)] [] (am_K0, σ) := by
  refine am_r_aload_n (nx := 8) rfl rfl (show decode cX11_starts 7 = .ok (.aload_n 0, 1) by decide +kernel) rfl ?_
  refine am_r_getF (nx := 11) 32 cw11 (by decide) rfl (Or.inl fl_X11_75) (ob_91) (fn_91_32) (show decode cX11_starts 8 = .ok (.getfield 75, 3) by decide +kernel) rfl ?_
  refine am_r_iload_n (nx := 12) rfl rfl (show decode cX11_starts 11 = .ok (.iload_n 1, 1) by decide +kernel) rfl ?_
  refine am_r_iconst (nx := 13) (show decode cX11_starts 12 = .ok (.iconst 0, 1) by decide +kernel) rfl ?_
  refine am_r_iast (nx := 14) (sh_113) (am_shle (sh_113)) hi1 hj2 (show decode cX11_starts 13 = .ok (.iastore, 1) by decide +kernel) rfl ?_
  exact k
theorem S_X11_starts_14 {G : am_G} {d : Nat} {Q : am_D → Prop} {σ : am_D} {v1 : Int} (hi1 : 0 ≤ v1) (hj2 : v1 < 3) (k : am_X (am_FV G (d + 1) Q) mX11_starts (0, 0) 21 [some (am_r (some 91)), some (am_i v1)] [] (am_K0, (am_pI σ 114 v1 0))) : am_X (am_FV G (d + 1) Q) mX11_starts (0, 0) 14 [some (am_r (some 91)), some (am_i v1)] [] (am_K0, σ) := by
  refine am_r_aload_n (nx := 15) rfl rfl (show decode cX11_starts 14 = .ok (.aload_n 0, 1) by decide +kernel) rfl ?_
  refine am_r_getF (nx := 18) 33 cw11 (by decide) rfl (Or.inl fl_X11_78) (ob_91) (fn_91_33) (show decode cX11_starts 15 = .ok (.getfield 78, 3) by decide +kernel) rfl ?_
  refine am_r_iload_n (nx := 19) rfl rfl (show decode cX11_starts 18 = .ok (.iload_n 1, 1) by decide +kernel) rfl ?_
  refine am_r_iconst (nx := 20) (show decode cX11_starts 19 = .ok (.iconst 0, 1) by decide +kernel) rfl ?_
  refine am_r_iast (nx := 21) (sh_114) (am_shle (sh_114)) hi1 hj2 (show decode cX11_starts 20 = .ok (.iastore, 1) by decide +kernel) rfl ?_
  exact k
theorem S_X11_starts_21 {G : am_G} {d : Nat} {Q : am_D → Prop} {σ : am_D} {v1 : Int} (hi1 : 0 ≤ v1) (hj2 : v1 < 3) (k : am_X (am_FV G (d + 1) Q) mX11_starts (0, 0) 28 [some (am_r (some 91)), some (am_i v1)] [] (am_K0, (am_pI σ 115 v1 0))) : am_X (am_FV G (d + 1) Q) mX11_starts (0, 0) 21 [some (am_r (some 91)), some (am_i v1)] [] (am_K0, σ) := by
  refine am_r_aload_n (nx := 22) rfl rfl (show decode cX11_starts 21 = .ok (.aload_n 0, 1) by decide +kernel) rfl ?_
  refine am_r_getF (nx := 25) 34 cw11 (by decide) rfl (Or.inl fl_X11_81) (ob_91) (fn_91_34) (show decode cX11_starts 22 = .ok (.getfield 81, 3) by decide +kernel) rfl ?_
  refine am_r_iload_n (nx := 26) rfl rfl (show decode cX11_starts 25 = .ok (.iload_n 1, 1) by decide +kernel) rfl ?_
  refine am_r_iconst (nx := 27) (show decode cX11_starts 26 = .ok (.iconst 0, 1) by decide +kernel) rfl ?_
  refine am_r_iast (nx := 28) (sh_115) (am_shle (sh_115)) hi1 hj2 (show decode cX11_starts 27 = .ok (.iastore, 1) by decide +kernel) rfl ?_
  exact k
theorem S_X11_starts_28 {G : am_G} {d : Nat} {Q : am_D → Prop} {σ : am_D} {v1 : Int} {Q' : am_D → Prop} (hc : am_MV G d mX11_empties [am_r (some 91), am_i v1] σ Q') (k : ∀ σ' : am_D, Q' σ' → am_X (am_FV G (d + 1) Q) mX11_starts (0, 0) 33 [none, none] [] (am_K0, σ')) : am_X (am_FV G (d + 1) Q) mX11_starts (0, 0) 28 [some (am_r (some 91)), some (am_i v1)] [] (am_K0, σ) := by
  refine am_r_aload_n (nx := 29) rfl rfl (show decode cX11_starts 28 = .ok (.aload_n 0, 1) by decide +kernel) rfl ?_
  refine am_r_iload_n (nx := 30) rfl rfl (show decode cX11_starts 29 = .ok (.iload_n 1, 1) by decide +kernel) rfl ?_
  refine am_r_callV (as := [am_i v1]) (st := []) hc mb_X11_empties mv_X11_empties (Or.inl ml_X11_339) (ob_91) (by omega) (r := (RX11, TX11, 63)) rfl rfl rfl rfl (Nat.le_of_ble_eq_true rfl) ⟨Nat.le_refl _, Nat.le_refl _⟩ ⟨Nat.le_refl _, Nat.le_refl _⟩ (show decode cX11_starts 30 = .ok (.invokevirtual 339, 3) by decide +kernel) ?_
  rintro _ _ ⟨σ', rfl, rfl, hq⟩ _
  exact am_x_fg [0, 1] (k σ' hq)
theorem S_X11_starts_33 {G : am_G} {d : Nat} {Q : am_D → Prop} {σ : am_D}   (k : Q σ) : am_X (am_FV G (d + 1) Q) mX11_starts (0, 0) 33 [none, none] [] (am_K0, σ) := by
  exact am_r_vret rfl (show decode cX11_starts 33 = .ok (.return_, 1) by decide +kernel) ⟨_, rfl, rfl, k⟩
theorem S_X11_heldBy_0 {G : am_G} {d : Nat} {Q : Int → am_D → Prop} {σ : am_D} {v1 : Int}  (k : am_X (am_FI G (d + 1) Q) mX11_heldBy (0, 0) 2 [some (am_r (some 91)), some (am_i v1), some (am_i 0), none] [] (am_K0, σ)) : am_X (am_FI G (d + 1) Q) mX11_heldBy (0, 0) 0 [some (am_r (some 91)), some (am_i v1), none, none] [] (am_K0, σ) := by
  refine am_r_iconst (nx := 1) (show decode cX11_heldBy 0 = .ok (.iconst 0, 1) by decide +kernel) rfl ?_
  refine am_r_istore_n (nx := 2) rfl (by decide) rfl (show decode cX11_heldBy 1 = .ok (.istore_n 2, 1) by decide +kernel) rfl ?_
  exact k
theorem S_X11_heldBy_2 {G : am_G} {d : Nat} {Q : Int → am_D → Prop} {σ : am_D} {v1 : Int} {v2 : Int}  (k : am_X (am_FI G (d + 1) Q) mX11_heldBy (0, 0) 4 [some (am_r (some 91)), some (am_i v1), some (am_i v2), some (am_i 0)] [] (am_K0, σ)) : am_X (am_FI G (d + 1) Q) mX11_heldBy (0, 0) 2 [some (am_r (some 91)), some (am_i v1), some (am_i v2), none] [] (am_K0, σ) := by
  refine am_r_iconst (nx := 3) (show decode cX11_heldBy 2 = .ok (.iconst 0, 1) by decide +kernel) rfl ?_
  refine am_r_istore_n (nx := 4) rfl (by decide) rfl (show decode cX11_heldBy 3 = .ok (.istore_n 3, 1) by decide +kernel) rfl ?_
  exact k
theorem S_X11_heldBy_4 {G : am_G} {d : Nat} {Q : Int → am_D → Prop} {σ : am_D} {v1 : Int} {v2 : Int} {v3 : Int} (hr1 : -2147483648 ≤ v3 ∧ v3 ≤ 2147483647) (k1 : 3 ≤ v3 → am_X (am_FI G (d + 1) Q) mX11_heldBy (0, 0) 28 [some (am_r (some 91)), some (am_i v1), some (am_i v2), none] [] (am_K0, σ)) (k2 : ¬ (3 ≤ v3) → am_X (am_FI G (d + 1) Q) mX11_heldBy (0, 0) 9 [some (am_r (some 91)), some (am_i v1), some (am_i v2), some (am_i v3)] [] (am_K0, σ)) : am_X (am_FI G (d + 1) Q) mX11_heldBy (0, 0) 4 [some (am_r (some 91)), some (am_i v1), some (am_i v2), some (am_i v3)] [] (am_K0, σ) := by
  refine am_r_iload_n (nx := 5) rfl rfl (show decode cX11_heldBy 4 = .ok (.iload_n 3, 1) by decide +kernel) rfl ?_
  refine am_r_iconst (nx := 6) (show decode cX11_heldBy 5 = .ok (.iconst 3, 1) by decide +kernel) rfl ?_
  refine am_r_icmp_ge (tg := 28) (nx := 9) (show decode cX11_heldBy 6 = .ok (.if_icmp .ge 22, 3) by decide +kernel) (by decide) rfl hr1 (by omega) ?_ ?_
  · exact fun q => am_x_fg [3] (k1 q)
  · exact fun q => k2 q
theorem S_X11_heldBy_9 {G : am_G} {d : Nat} {Q : Int → am_D → Prop} {σ : am_D} {v1 : Int} {v2 : Int} {v3 : Int} (hi1 : 0 ≤ ((3 * v1) + v3)) (hj2 : ((3 * v1) + v3) < 9) (k : am_X (am_FI G (d + 1) Q) mX11_heldBy (0, 0) 22 [some (am_r (some 91)), some (am_i v1), some (am_i (v2 + (σ.1 118 ((3 * v1) + v3)))), some (am_i v3)] [] (am_K0, σ)) : am_X (am_FI G (d + 1) Q) mX11_heldBy (0, 0) 9 [some (am_r (some 91)), some (am_i v1), some (am_i v2), some (am_i v3)] [] (am_K0, σ) := by
  refine am_r_iload_n (nx := 10) rfl rfl (show decode cX11_heldBy 9 = .ok (.iload_n 2, 1) by decide +kernel) rfl ?_
  refine am_r_aload_n (nx := 11) rfl rfl (show decode cX11_heldBy 10 = .ok (.aload_n 0, 1) by decide +kernel) rfl ?_
  refine am_r_getF (nx := 14) 37 cw11 (by decide) rfl (Or.inl fl_X11_90) (ob_91) (fn_91_37) (show decode cX11_heldBy 11 = .ok (.getfield 90, 3) by decide +kernel) rfl ?_
  refine am_r_iconst (nx := 15) (show decode cX11_heldBy 14 = .ok (.iconst 3, 1) by decide +kernel) rfl ?_
  refine am_r_iload_n (nx := 16) rfl rfl (show decode cX11_heldBy 15 = .ok (.iload_n 1, 1) by decide +kernel) rfl ?_
  refine am_r_imul (nx := 17) (show decode cX11_heldBy 16 = .ok (.imul, 1) by decide +kernel) rfl ?_
  refine am_r_iload_n (nx := 18) rfl rfl (show decode cX11_heldBy 17 = .ok (.iload_n 3, 1) by decide +kernel) rfl ?_
  refine am_r_iadd (nx := 19) (show decode cX11_heldBy 18 = .ok (.iadd, 1) by decide +kernel) rfl ?_
  refine am_r_iald (nx := 20) (sh_118) (am_shle (sh_118)) hi1 hj2 (show decode cX11_heldBy 19 = .ok (.iaload, 1) by decide +kernel) rfl ?_
  refine am_r_iadd (nx := 21) (show decode cX11_heldBy 20 = .ok (.iadd, 1) by decide +kernel) rfl ?_
  refine am_r_istore_n (nx := 22) rfl (by decide) rfl (show decode cX11_heldBy 21 = .ok (.istore_n 2, 1) by decide +kernel) rfl ?_
  exact k
theorem S_X11_heldBy_22 {G : am_G} {d : Nat} {Q : Int → am_D → Prop} {σ : am_D} {v1 : Int} {v2 : Int} {v3 : Int}  (k : am_X (am_FI G (d + 1) Q) mX11_heldBy (0, 0) 4 [some (am_r (some 91)), some (am_i v1), some (am_i v2), some (am_i (v3 + 1))] [] (am_K0, σ)) : am_X (am_FI G (d + 1) Q) mX11_heldBy (0, 0) 22 [some (am_r (some 91)), some (am_i v1), some (am_i v2), some (am_i v3)] [] (am_K0, σ) := by
  refine am_r_iinc (nx := 25) rfl rfl (show decode cX11_heldBy 22 = .ok (.iinc 3 1, 3) by decide +kernel) rfl ?_
  refine am_r_goto (tg := 4) (show decode cX11_heldBy 25 = .ok (.goto (-21), 3) by decide +kernel) (by decide) ?_
  exact k
theorem S_X11_heldBy_28 {G : am_G} {d : Nat} {Q : Int → am_D → Prop} {σ : am_D} {v1 : Int} {v2 : Int}  (k : am_X (am_FI G (d + 1) Q) mX11_heldBy (0, 0) 30 [some (am_r (some 91)), some (am_i v1), some (am_i v2), some (am_i 0)] [] (am_K0, σ)) : am_X (am_FI G (d + 1) Q) mX11_heldBy (0, 0) 28 [some (am_r (some 91)), some (am_i v1), some (am_i v2), none] [] (am_K0, σ) := by
  refine am_r_iconst (nx := 29) (show decode cX11_heldBy 28 = .ok (.iconst 0, 1) by decide +kernel) rfl ?_
  refine am_r_istore_n (nx := 30) rfl (by decide) rfl (show decode cX11_heldBy 29 = .ok (.istore_n 3, 1) by decide +kernel) rfl ?_
  exact k
theorem S_X11_heldBy_30 {G : am_G} {d : Nat} {Q : Int → am_D → Prop} {σ : am_D} {v1 : Int} {v2 : Int} {v3 : Int} (hi1 : 0 ≤ v1) (hj2 : v1 < 3) (hr3 : -2147483648 ≤ v3 ∧ v3 ≤ 2147483647) (hr4 : -2147483648 ≤ (3 * (σ.1 114 v1)) ∧ (3 * (σ.1 114 v1)) ≤ 2147483647) (k1 : (3 * (σ.1 114 v1)) ≤ v3 → am_X (am_FI G (d + 1) Q) mX11_heldBy (0, 0) 63 [none, none, some (am_i v2), none] [] (am_K0, σ)) (k2 : ¬ ((3 * (σ.1 114 v1)) ≤ v3) → am_X (am_FI G (d + 1) Q) mX11_heldBy (0, 0) 42 [some (am_r (some 91)), some (am_i v1), some (am_i v2), some (am_i v3)] [] (am_K0, σ)) : am_X (am_FI G (d + 1) Q) mX11_heldBy (0, 0) 30 [some (am_r (some 91)), some (am_i v1), some (am_i v2), some (am_i v3)] [] (am_K0, σ) := by
  refine am_r_iload_n (nx := 31) rfl rfl (show decode cX11_heldBy 30 = .ok (.iload_n 3, 1) by decide +kernel) rfl ?_
  refine am_r_iconst (nx := 32) (show decode cX11_heldBy 31 = .ok (.iconst 3, 1) by decide +kernel) rfl ?_
  refine am_r_aload_n (nx := 33) rfl rfl (show decode cX11_heldBy 32 = .ok (.aload_n 0, 1) by decide +kernel) rfl ?_
  refine am_r_getF (nx := 36) 33 cw11 (by decide) rfl (Or.inl fl_X11_78) (ob_91) (fn_91_33) (show decode cX11_heldBy 33 = .ok (.getfield 78, 3) by decide +kernel) rfl ?_
  refine am_r_iload_n (nx := 37) rfl rfl (show decode cX11_heldBy 36 = .ok (.iload_n 1, 1) by decide +kernel) rfl ?_
  refine am_r_iald (nx := 38) (sh_114) (am_shle (sh_114)) hi1 hj2 (show decode cX11_heldBy 37 = .ok (.iaload, 1) by decide +kernel) rfl ?_
  refine am_r_imul (nx := 39) (show decode cX11_heldBy 38 = .ok (.imul, 1) by decide +kernel) rfl ?_
  refine am_r_icmp_ge (tg := 63) (nx := 42) (show decode cX11_heldBy 39 = .ok (.if_icmp .ge 24, 3) by decide +kernel) (by decide) rfl hr3 hr4 ?_ ?_
  · exact fun q => am_x_fg [0, 1, 3] (k1 q)
  · exact fun q => k2 q
theorem S_X11_heldBy_42 {G : am_G} {d : Nat} {Q : Int → am_D → Prop} {σ : am_D} {v1 : Int} {v2 : Int} {v3 : Int} (hi1 : 0 ≤ ((780 * v1) + v3)) (hj2 : ((780 * v1) + v3) < 2340) (k : am_X (am_FI G (d + 1) Q) mX11_heldBy (0, 0) 57 [some (am_r (some 91)), some (am_i v1), some (am_i (v2 + (σ.1 123 ((780 * v1) + v3)))), some (am_i v3)] [] (am_K0, σ)) : am_X (am_FI G (d + 1) Q) mX11_heldBy (0, 0) 42 [some (am_r (some 91)), some (am_i v1), some (am_i v2), some (am_i v3)] [] (am_K0, σ) := by
  refine am_r_iload_n (nx := 43) rfl rfl (show decode cX11_heldBy 42 = .ok (.iload_n 2, 1) by decide +kernel) rfl ?_
  refine am_r_aload_n (nx := 44) rfl rfl (show decode cX11_heldBy 43 = .ok (.aload_n 0, 1) by decide +kernel) rfl ?_
  refine am_r_getF (nx := 47) 42 cw11 (by decide) rfl (Or.inl fl_X11_105) (ob_91) (fn_91_42) (show decode cX11_heldBy 44 = .ok (.getfield 105, 3) by decide +kernel) rfl ?_
  refine am_r_sipush (nx := 50) rfl (show decode cX11_heldBy 47 = .ok (.sipush 780, 3) by decide +kernel) rfl ?_
  refine am_r_iload_n (nx := 51) rfl rfl (show decode cX11_heldBy 50 = .ok (.iload_n 1, 1) by decide +kernel) rfl ?_
  refine am_r_imul (nx := 52) (show decode cX11_heldBy 51 = .ok (.imul, 1) by decide +kernel) rfl ?_
  refine am_r_iload_n (nx := 53) rfl rfl (show decode cX11_heldBy 52 = .ok (.iload_n 3, 1) by decide +kernel) rfl ?_
  refine am_r_iadd (nx := 54) (show decode cX11_heldBy 53 = .ok (.iadd, 1) by decide +kernel) rfl ?_
  refine am_r_iald (nx := 55) (sh_123) (am_shle (sh_123)) hi1 hj2 (show decode cX11_heldBy 54 = .ok (.iaload, 1) by decide +kernel) rfl ?_
  refine am_r_iadd (nx := 56) (show decode cX11_heldBy 55 = .ok (.iadd, 1) by decide +kernel) rfl ?_
  refine am_r_istore_n (nx := 57) rfl (by decide) rfl (show decode cX11_heldBy 56 = .ok (.istore_n 2, 1) by decide +kernel) rfl ?_
  exact k
theorem S_X11_heldBy_57 {G : am_G} {d : Nat} {Q : Int → am_D → Prop} {σ : am_D} {v1 : Int} {v2 : Int} {v3 : Int}  (k : am_X (am_FI G (d + 1) Q) mX11_heldBy (0, 0) 30 [some (am_r (some 91)), some (am_i v1), some (am_i v2), some (am_i (v3 + 1))] [] (am_K0, σ)) : am_X (am_FI G (d + 1) Q) mX11_heldBy (0, 0) 57 [some (am_r (some 91)), some (am_i v1), some (am_i v2), some (am_i v3)] [] (am_K0, σ) := by
  refine am_r_iinc (nx := 60) rfl rfl (show decode cX11_heldBy 57 = .ok (.iinc 3 1, 3) by decide +kernel) rfl ?_
  refine am_r_goto (tg := 30) (show decode cX11_heldBy 60 = .ok (.goto (-30), 3) by decide +kernel) (by decide) ?_
  exact k
theorem S_X11_heldBy_63 {G : am_G} {d : Nat} {Q : Int → am_D → Prop} {σ : am_D} {v2 : Int} (hr1 : -2147483648 ≤ v2 ∧ v2 ≤ 2147483647) (k : Q (Int.tdiv v2 2) σ) : am_X (am_FI G (d + 1) Q) mX11_heldBy (0, 0) 63 [none, none, some (am_i v2), none] [] (am_K0, σ) := by
  refine am_r_iload_n (nx := 64) rfl rfl (show decode cX11_heldBy 63 = .ok (.iload_n 2, 1) by decide +kernel) rfl ?_
  refine am_r_iconst (nx := 65) (show decode cX11_heldBy 64 = .ok (.iconst 2, 1) by decide +kernel) rfl ?_
  refine am_r_idiv (nx := 66) hr1 (by omega) (show decode cX11_heldBy 65 = .ok (.idiv, 1) by decide +kernel) rfl ?_
  exact am_r_iret rfl rfl (show decode cX11_heldBy 66 = .ok (.ireturn, 1) by decide +kernel) ⟨_, _, rfl, rfl, k⟩
theorem S_X11_opens_0 {G : am_G} {d : Nat} {Q : Int → am_D → Prop} {σ : am_D} {v1 : Int} {v2 : Int} {v3 : Int} {Q' : Int → am_D → Prop} (hi1 : 0 ≤ v1) (hj2 : v1 < 3) (hc : am_MI G d mX11_openAt [am_i v2, am_i v3, am_i (σ.1 113 v1)] σ Q') (k : ∀ (x : Int) (σ' : am_D), Q' x σ' → am_X (am_FI G (d + 1) Q) mX11_opens (0, 0) 13 [some (am_r (some 91)), some (am_i v1), none, some (am_i v3), some (am_i x), none, none] [] (am_K0, σ')) : am_X (am_FI G (d + 1) Q) mX11_opens (0, 0) 0 [some (am_r (some 91)), some (am_i v1), some (am_i v2), some (am_i v3), none, none, none] [] (am_K0, σ) := by
  refine am_r_iload_n (nx := 1) rfl rfl (show decode cX11_opens 0 = .ok (.iload_n 2, 1) by decide +kernel) rfl ?_
  refine am_r_iload_n (nx := 2) rfl rfl (show decode cX11_opens 1 = .ok (.iload_n 3, 1) by decide +kernel) rfl ?_
  refine am_r_aload_n (nx := 3) rfl rfl (show decode cX11_opens 2 = .ok (.aload_n 0, 1) by decide +kernel) rfl ?_
  refine am_r_getF (nx := 6) 32 cw11 (by decide) rfl (Or.inl fl_X11_75) (ob_91) (fn_91_32) (show decode cX11_opens 3 = .ok (.getfield 75, 3) by decide +kernel) rfl ?_
  refine am_r_iload_n (nx := 7) rfl rfl (show decode cX11_opens 6 = .ok (.iload_n 1, 1) by decide +kernel) rfl ?_
  refine am_r_iald (nx := 8) (sh_113) (am_shle (sh_113)) hi1 hj2 (show decode cX11_opens 7 = .ok (.iaload, 1) by decide +kernel) rfl ?_
  refine am_r_callS (as := [am_i v2, am_i v3, am_i (σ.1 113 v1)]) (st := []) hc mb_X11_openAt mv_X11_openAt (Or.inl ml_X11_246) rfl rfl (Nat.le_of_ble_eq_true rfl) ⟨Nat.le_refl _, Nat.le_refl _⟩ ⟨Nat.le_refl _, Nat.le_refl _⟩ (show decode cX11_opens 8 = .ok (.invokestatic 246, 3) by decide +kernel) ?_
  rintro _ _ ⟨x, σ', rfl, rfl, hq⟩ _
  refine am_r_istore (nx := 13) (by decide) rfl (show decode cX11_opens 11 = .ok (.istore 4, 2) by decide +kernel) rfl ?_
  exact am_x_fg [2] (k x σ' hq)
theorem S_X11_opens_13 {G : am_G} {d : Nat} {Q : Int → am_D → Prop} {σ : am_D} {v1 : Int} {v3 : Int} {v4 : Int} (hi1 : 0 ≤ v4) (hj2 : v4 < 108) (hr3 : -2147483648 ≤ (σ.1 98 v4) ∧ (σ.1 98 v4) ≤ 2147483647) (k1 : ¬ (σ.1 98 v4) = (-1) → am_X (am_FI G (d + 1) Q) mX11_opens (0, 0) 26 [some (am_r (some 91)), some (am_i v1), none, some (am_i v3), some (am_i v4), none, none] [] (am_K0, σ)) (k2 : ¬ (¬ (σ.1 98 v4) = (-1)) → am_X (am_FI G (d + 1) Q) mX11_opens (0, 0) 24 [none, none, none, none, none, none, none] [] (am_K0, σ)) : am_X (am_FI G (d + 1) Q) mX11_opens (0, 0) 13 [some (am_r (some 91)), some (am_i v1), none, some (am_i v3), some (am_i v4), none, none] [] (am_K0, σ) := by
  refine am_r_aload_n (nx := 14) rfl rfl (show decode cX11_opens 13 = .ok (.aload_n 0, 1) by decide +kernel) rfl ?_
  refine am_r_getF (nx := 17) 12 cw11 (by decide) rfl (Or.inl fl_X11_30) (ob_91) (fn_91_12) (show decode cX11_opens 14 = .ok (.getfield 30, 3) by decide +kernel) rfl ?_
  refine am_r_iload (nx := 19) rfl (show decode cX11_opens 17 = .ok (.iload 4, 2) by decide +kernel) rfl ?_
  refine am_r_iald (nx := 20) (sh_98) (am_shle (sh_98)) hi1 hj2 (show decode cX11_opens 19 = .ok (.iaload, 1) by decide +kernel) rfl ?_
  refine am_r_iconst (nx := 21) (show decode cX11_opens 20 = .ok (.iconst (-1), 1) by decide +kernel) rfl ?_
  refine am_r_icmp_ne (tg := 26) (nx := 24) (show decode cX11_opens 21 = .ok (.if_icmp .ne 5, 3) by decide +kernel) (by decide) rfl hr3 (by omega) ?_ ?_
  · exact fun q => k1 q
  · exact fun q => am_x_fg [0, 1, 3, 4] (k2 q)
theorem S_X11_opens_24 {G : am_G} {d : Nat} {Q : Int → am_D → Prop} {σ : am_D}   (k : Q 0 σ) : am_X (am_FI G (d + 1) Q) mX11_opens (0, 0) 24 [none, none, none, none, none, none, none] [] (am_K0, σ) := by
  refine am_r_iconst (nx := 25) (show decode cX11_opens 24 = .ok (.iconst 0, 1) by decide +kernel) rfl ?_
  exact am_r_iret rfl rfl (show decode cX11_opens 25 = .ok (.ireturn, 1) by decide +kernel) ⟨_, _, rfl, rfl, k⟩
theorem S_X11_opens_26 {G : am_G} {d : Nat} {Q : Int → am_D → Prop} {σ : am_D} {v1 : Int} {v3 : Int} {v4 : Int} (hi1 : 0 ≤ v1) (hj2 : v1 < 3) (k : am_X (am_FI G (d + 1) Q) mX11_opens (0, 0) 40 [some (am_r (some 91)), some (am_i v1), none, some (am_i v3), some (am_i v4), some (am_i ((260 * v1) + (σ.1 114 v1))), none] [] (am_K0, σ)) : am_X (am_FI G (d + 1) Q) mX11_opens (0, 0) 26 [some (am_r (some 91)), some (am_i v1), none, some (am_i v3), some (am_i v4), none, none] [] (am_K0, σ) := by
  refine am_r_sipush (nx := 29) rfl (show decode cX11_opens 26 = .ok (.sipush 260, 3) by decide +kernel) rfl ?_
  refine am_r_iload_n (nx := 30) rfl rfl (show decode cX11_opens 29 = .ok (.iload_n 1, 1) by decide +kernel) rfl ?_
  refine am_r_imul (nx := 31) (show decode cX11_opens 30 = .ok (.imul, 1) by decide +kernel) rfl ?_
  refine am_r_aload_n (nx := 32) rfl rfl (show decode cX11_opens 31 = .ok (.aload_n 0, 1) by decide +kernel) rfl ?_
  refine am_r_getF (nx := 35) 33 cw11 (by decide) rfl (Or.inl fl_X11_78) (ob_91) (fn_91_33) (show decode cX11_opens 32 = .ok (.getfield 78, 3) by decide +kernel) rfl ?_
  refine am_r_iload_n (nx := 36) rfl rfl (show decode cX11_opens 35 = .ok (.iload_n 1, 1) by decide +kernel) rfl ?_
  refine am_r_iald (nx := 37) (sh_114) (am_shle (sh_114)) hi1 hj2 (show decode cX11_opens 36 = .ok (.iaload, 1) by decide +kernel) rfl ?_
  refine am_r_iadd (nx := 38) (show decode cX11_opens 37 = .ok (.iadd, 1) by decide +kernel) rfl ?_
  refine am_r_istore (nx := 40) (by decide) rfl (show decode cX11_opens 38 = .ok (.istore 5, 2) by decide +kernel) rfl ?_
  exact k
theorem S_X11_opens_40 {G : am_G} {d : Nat} {Q : Int → am_D → Prop} {σ : am_D} {v1 : Int} {v3 : Int} {v4 : Int} {v5 : Int} (hi1 : 0 ≤ v4) (hj2 : v4 < 108) (hi3 : 0 ≤ v5) (hj4 : v5 < 780) (k : am_X (am_FI G (d + 1) Q) mX11_opens (0, 0) 54 [some (am_r (some 91)), some (am_i v1), none, some (am_i v3), some (am_i v4), some (am_i v5), none] [] (am_K0, (am_pI σ 119 v5 (σ.1 99 v4)))) : am_X (am_FI G (d + 1) Q) mX11_opens (0, 0) 40 [some (am_r (some 91)), some (am_i v1), none, some (am_i v3), some (am_i v4), some (am_i v5), none] [] (am_K0, σ) := by
  refine am_r_aload_n (nx := 41) rfl rfl (show decode cX11_opens 40 = .ok (.aload_n 0, 1) by decide +kernel) rfl ?_
  refine am_r_getF (nx := 44) 38 cw11 (by decide) rfl (Or.inl fl_X11_93) (ob_91) (fn_91_38) (show decode cX11_opens 41 = .ok (.getfield 93, 3) by decide +kernel) rfl ?_
  refine am_r_iload (nx := 46) rfl (show decode cX11_opens 44 = .ok (.iload 5, 2) by decide +kernel) rfl ?_
  refine am_r_aload_n (nx := 47) rfl rfl (show decode cX11_opens 46 = .ok (.aload_n 0, 1) by decide +kernel) rfl ?_
  refine am_r_getF (nx := 50) 13 cw11 (by decide) rfl (Or.inl fl_X11_33) (ob_91) (fn_91_13) (show decode cX11_opens 47 = .ok (.getfield 33, 3) by decide +kernel) rfl ?_
  refine am_r_iload (nx := 52) rfl (show decode cX11_opens 50 = .ok (.iload 4, 2) by decide +kernel) rfl ?_
  refine am_r_iald (nx := 53) (sh_99) (am_shle (sh_99)) hi1 hj2 (show decode cX11_opens 52 = .ok (.iaload, 1) by decide +kernel) rfl ?_
  refine am_r_iast (nx := 54) (sh_119) (am_shle (sh_119)) hi3 hj4 (show decode cX11_opens 53 = .ok (.iastore, 1) by decide +kernel) rfl ?_
  exact k
theorem S_X11_opens_54 {G : am_G} {d : Nat} {Q : Int → am_D → Prop} {σ : am_D} {v1 : Int} {v3 : Int} {v4 : Int} {v5 : Int} (hi1 : 0 ≤ v5) (hj2 : v5 < 780) (k : am_X (am_FI G (d + 1) Q) mX11_opens (0, 0) 62 [some (am_r (some 91)), some (am_i v1), none, none, some (am_i v4), some (am_i v5), none] [] (am_K0, (am_pI σ 120 v5 v3))) : am_X (am_FI G (d + 1) Q) mX11_opens (0, 0) 54 [some (am_r (some 91)), some (am_i v1), none, some (am_i v3), some (am_i v4), some (am_i v5), none] [] (am_K0, σ) := by
  refine am_r_aload_n (nx := 55) rfl rfl (show decode cX11_opens 54 = .ok (.aload_n 0, 1) by decide +kernel) rfl ?_
  refine am_r_getF (nx := 58) 39 cw11 (by decide) rfl (Or.inl fl_X11_96) (ob_91) (fn_91_39) (show decode cX11_opens 55 = .ok (.getfield 96, 3) by decide +kernel) rfl ?_
  refine am_r_iload (nx := 60) rfl (show decode cX11_opens 58 = .ok (.iload 5, 2) by decide +kernel) rfl ?_
  refine am_r_iload_n (nx := 61) rfl rfl (show decode cX11_opens 60 = .ok (.iload_n 3, 1) by decide +kernel) rfl ?_
  refine am_r_iast (nx := 62) (sh_120) (am_shle (sh_120)) hi1 hj2 (show decode cX11_opens 61 = .ok (.iastore, 1) by decide +kernel) rfl ?_
  exact am_x_fg [3] k
theorem S_X11_opens_62 {G : am_G} {d : Nat} {Q : Int → am_D → Prop} {σ : am_D} {v1 : Int} {v4 : Int} {v5 : Int}  (k : am_X (am_FI G (d + 1) Q) mX11_opens (0, 0) 65 [some (am_r (some 91)), some (am_i v1), none, none, some (am_i v4), some (am_i v5), some (am_i 0)] [] (am_K0, σ)) : am_X (am_FI G (d + 1) Q) mX11_opens (0, 0) 62 [some (am_r (some 91)), some (am_i v1), none, none, some (am_i v4), some (am_i v5), none] [] (am_K0, σ) := by
  refine am_r_iconst (nx := 63) (show decode cX11_opens 62 = .ok (.iconst 0, 1) by decide +kernel) rfl ?_
  refine am_r_istore (nx := 65) (by decide) rfl (show decode cX11_opens 63 = .ok (.istore 6, 2) by decide +kernel) rfl ?_
  exact k
theorem S_X11_opens_65 {G : am_G} {d : Nat} {Q : Int → am_D → Prop} {σ : am_D} {v1 : Int} {v4 : Int} {v5 : Int} {v6 : Int} (hr1 : -2147483648 ≤ v6 ∧ v6 ≤ 2147483647) (k1 : 3 ≤ v6 → am_X (am_FI G (d + 1) Q) mX11_opens (0, 0) 146 [some (am_r (some 91)), some (am_i v1), none, none, some (am_i v4), none, none] [] (am_K0, σ)) (k2 : ¬ (3 ≤ v6) → am_X (am_FI G (d + 1) Q) mX11_opens (0, 0) 71 [some (am_r (some 91)), some (am_i v1), none, none, some (am_i v4), some (am_i v5), some (am_i v6)] [] (am_K0, σ)) : am_X (am_FI G (d + 1) Q) mX11_opens (0, 0) 65 [some (am_r (some 91)), some (am_i v1), none, none, some (am_i v4), some (am_i v5), some (am_i v6)] [] (am_K0, σ) := by
  refine am_r_iload (nx := 67) rfl (show decode cX11_opens 65 = .ok (.iload 6, 2) by decide +kernel) rfl ?_
  refine am_r_iconst (nx := 68) (show decode cX11_opens 67 = .ok (.iconst 3, 1) by decide +kernel) rfl ?_
  refine am_r_icmp_ge (tg := 146) (nx := 71) (show decode cX11_opens 68 = .ok (.if_icmp .ge 78, 3) by decide +kernel) (by decide) rfl hr1 (by omega) ?_ ?_
  · exact fun q => am_x_fg [5, 6] (k1 q)
  · exact fun q => k2 q
theorem S_X11_opens_71 {G : am_G} {d : Nat} {Q : Int → am_D → Prop} {σ : am_D} {v1 : Int} {v4 : Int} {v5 : Int} {v6 : Int} (hi1 : 0 ≤ ((3 * v1) + v6)) (hj2 : ((3 * v1) + v6) < 9) (hi3 : 0 ≤ ((3 * v5) + v6)) (hj4 : ((3 * v5) + v6) < 2340) (k : am_X (am_FI G (d + 1) Q) mX11_opens (0, 0) 94 [some (am_r (some 91)), some (am_i v1), none, none, some (am_i v4), some (am_i v5), some (am_i v6)] [] (am_K0, (am_pI σ 121 ((3 * v5) + v6) (σ.1 116 ((3 * v1) + v6))))) : am_X (am_FI G (d + 1) Q) mX11_opens (0, 0) 71 [some (am_r (some 91)), some (am_i v1), none, none, some (am_i v4), some (am_i v5), some (am_i v6)] [] (am_K0, σ) := by
  refine am_r_aload_n (nx := 72) rfl rfl (show decode cX11_opens 71 = .ok (.aload_n 0, 1) by decide +kernel) rfl ?_
  refine am_r_getF (nx := 75) 40 cw11 (by decide) rfl (Or.inl fl_X11_99) (ob_91) (fn_91_40) (show decode cX11_opens 72 = .ok (.getfield 99, 3) by decide +kernel) rfl ?_
  refine am_r_iconst (nx := 76) (show decode cX11_opens 75 = .ok (.iconst 3, 1) by decide +kernel) rfl ?_
  refine am_r_iload (nx := 78) rfl (show decode cX11_opens 76 = .ok (.iload 5, 2) by decide +kernel) rfl ?_
  refine am_r_imul (nx := 79) (show decode cX11_opens 78 = .ok (.imul, 1) by decide +kernel) rfl ?_
  refine am_r_iload (nx := 81) rfl (show decode cX11_opens 79 = .ok (.iload 6, 2) by decide +kernel) rfl ?_
  refine am_r_iadd (nx := 82) (show decode cX11_opens 81 = .ok (.iadd, 1) by decide +kernel) rfl ?_
  refine am_r_aload_n (nx := 83) rfl rfl (show decode cX11_opens 82 = .ok (.aload_n 0, 1) by decide +kernel) rfl ?_
  refine am_r_getF (nx := 86) 35 cw11 (by decide) rfl (Or.inl fl_X11_84) (ob_91) (fn_91_35) (show decode cX11_opens 83 = .ok (.getfield 84, 3) by decide +kernel) rfl ?_
  refine am_r_iconst (nx := 87) (show decode cX11_opens 86 = .ok (.iconst 3, 1) by decide +kernel) rfl ?_
  refine am_r_iload_n (nx := 88) rfl rfl (show decode cX11_opens 87 = .ok (.iload_n 1, 1) by decide +kernel) rfl ?_
  refine am_r_imul (nx := 89) (show decode cX11_opens 88 = .ok (.imul, 1) by decide +kernel) rfl ?_
  refine am_r_iload (nx := 91) rfl (show decode cX11_opens 89 = .ok (.iload 6, 2) by decide +kernel) rfl ?_
  refine am_r_iadd (nx := 92) (show decode cX11_opens 91 = .ok (.iadd, 1) by decide +kernel) rfl ?_
  refine am_r_iald (nx := 93) (sh_116) (am_shle (sh_116)) hi1 hj2 (show decode cX11_opens 92 = .ok (.iaload, 1) by decide +kernel) rfl ?_
  refine am_r_iast (nx := 94) (sh_121) (am_shle (sh_121)) hi3 hj4 (show decode cX11_opens 93 = .ok (.iastore, 1) by decide +kernel) rfl ?_
  exact k
theorem S_X11_opens_94 {G : am_G} {d : Nat} {Q : Int → am_D → Prop} {σ : am_D} {v1 : Int} {v4 : Int} {v5 : Int} {v6 : Int} (hi1 : 0 ≤ ((3 * v1) + v6)) (hj2 : ((3 * v1) + v6) < 9) (hi3 : 0 ≤ ((3 * v5) + v6)) (hj4 : ((3 * v5) + v6) < 2340) (k : am_X (am_FI G (d + 1) Q) mX11_opens (0, 0) 117 [some (am_r (some 91)), some (am_i v1), none, none, some (am_i v4), some (am_i v5), some (am_i v6)] [] (am_K0, (am_pI σ 122 ((3 * v5) + v6) (σ.1 117 ((3 * v1) + v6))))) : am_X (am_FI G (d + 1) Q) mX11_opens (0, 0) 94 [some (am_r (some 91)), some (am_i v1), none, none, some (am_i v4), some (am_i v5), some (am_i v6)] [] (am_K0, σ) := by
  refine am_r_aload_n (nx := 95) rfl rfl (show decode cX11_opens 94 = .ok (.aload_n 0, 1) by decide +kernel) rfl ?_
  refine am_r_getF (nx := 98) 41 cw11 (by decide) rfl (Or.inl fl_X11_102) (ob_91) (fn_91_41) (show decode cX11_opens 95 = .ok (.getfield 102, 3) by decide +kernel) rfl ?_
  refine am_r_iconst (nx := 99) (show decode cX11_opens 98 = .ok (.iconst 3, 1) by decide +kernel) rfl ?_
  refine am_r_iload (nx := 101) rfl (show decode cX11_opens 99 = .ok (.iload 5, 2) by decide +kernel) rfl ?_
  refine am_r_imul (nx := 102) (show decode cX11_opens 101 = .ok (.imul, 1) by decide +kernel) rfl ?_
  refine am_r_iload (nx := 104) rfl (show decode cX11_opens 102 = .ok (.iload 6, 2) by decide +kernel) rfl ?_
  refine am_r_iadd (nx := 105) (show decode cX11_opens 104 = .ok (.iadd, 1) by decide +kernel) rfl ?_
  refine am_r_aload_n (nx := 106) rfl rfl (show decode cX11_opens 105 = .ok (.aload_n 0, 1) by decide +kernel) rfl ?_
  refine am_r_getF (nx := 109) 36 cw11 (by decide) rfl (Or.inl fl_X11_87) (ob_91) (fn_91_36) (show decode cX11_opens 106 = .ok (.getfield 87, 3) by decide +kernel) rfl ?_
  refine am_r_iconst (nx := 110) (show decode cX11_opens 109 = .ok (.iconst 3, 1) by decide +kernel) rfl ?_
  refine am_r_iload_n (nx := 111) rfl rfl (show decode cX11_opens 110 = .ok (.iload_n 1, 1) by decide +kernel) rfl ?_
  refine am_r_imul (nx := 112) (show decode cX11_opens 111 = .ok (.imul, 1) by decide +kernel) rfl ?_
  refine am_r_iload (nx := 114) rfl (show decode cX11_opens 112 = .ok (.iload 6, 2) by decide +kernel) rfl ?_
  refine am_r_iadd (nx := 115) (show decode cX11_opens 114 = .ok (.iadd, 1) by decide +kernel) rfl ?_
  refine am_r_iald (nx := 116) (sh_117) (am_shle (sh_117)) hi1 hj2 (show decode cX11_opens 115 = .ok (.iaload, 1) by decide +kernel) rfl ?_
  refine am_r_iast (nx := 117) (sh_122) (am_shle (sh_122)) hi3 hj4 (show decode cX11_opens 116 = .ok (.iastore, 1) by decide +kernel) rfl ?_
  exact k
theorem S_X11_opens_117 {G : am_G} {d : Nat} {Q : Int → am_D → Prop} {σ : am_D} {v1 : Int} {v4 : Int} {v5 : Int} {v6 : Int} (hi1 : 0 ≤ ((3 * v1) + v6)) (hj2 : ((3 * v1) + v6) < 9) (hi3 : 0 ≤ ((3 * v5) + v6)) (hj4 : ((3 * v5) + v6) < 2340) (k : am_X (am_FI G (d + 1) Q) mX11_opens (0, 0) 140 [some (am_r (some 91)), some (am_i v1), none, none, some (am_i v4), some (am_i v5), some (am_i v6)] [] (am_K0, (am_pI σ 123 ((3 * v5) + v6) (σ.1 118 ((3 * v1) + v6))))) : am_X (am_FI G (d + 1) Q) mX11_opens (0, 0) 117 [some (am_r (some 91)), some (am_i v1), none, none, some (am_i v4), some (am_i v5), some (am_i v6)] [] (am_K0, σ) := by
  refine am_r_aload_n (nx := 118) rfl rfl (show decode cX11_opens 117 = .ok (.aload_n 0, 1) by decide +kernel) rfl ?_
  refine am_r_getF (nx := 121) 42 cw11 (by decide) rfl (Or.inl fl_X11_105) (ob_91) (fn_91_42) (show decode cX11_opens 118 = .ok (.getfield 105, 3) by decide +kernel) rfl ?_
  refine am_r_iconst (nx := 122) (show decode cX11_opens 121 = .ok (.iconst 3, 1) by decide +kernel) rfl ?_
  refine am_r_iload (nx := 124) rfl (show decode cX11_opens 122 = .ok (.iload 5, 2) by decide +kernel) rfl ?_
  refine am_r_imul (nx := 125) (show decode cX11_opens 124 = .ok (.imul, 1) by decide +kernel) rfl ?_
  refine am_r_iload (nx := 127) rfl (show decode cX11_opens 125 = .ok (.iload 6, 2) by decide +kernel) rfl ?_
  refine am_r_iadd (nx := 128) (show decode cX11_opens 127 = .ok (.iadd, 1) by decide +kernel) rfl ?_
  refine am_r_aload_n (nx := 129) rfl rfl (show decode cX11_opens 128 = .ok (.aload_n 0, 1) by decide +kernel) rfl ?_
  refine am_r_getF (nx := 132) 37 cw11 (by decide) rfl (Or.inl fl_X11_90) (ob_91) (fn_91_37) (show decode cX11_opens 129 = .ok (.getfield 90, 3) by decide +kernel) rfl ?_
  refine am_r_iconst (nx := 133) (show decode cX11_opens 132 = .ok (.iconst 3, 1) by decide +kernel) rfl ?_
  refine am_r_iload_n (nx := 134) rfl rfl (show decode cX11_opens 133 = .ok (.iload_n 1, 1) by decide +kernel) rfl ?_
  refine am_r_imul (nx := 135) (show decode cX11_opens 134 = .ok (.imul, 1) by decide +kernel) rfl ?_
  refine am_r_iload (nx := 137) rfl (show decode cX11_opens 135 = .ok (.iload 6, 2) by decide +kernel) rfl ?_
  refine am_r_iadd (nx := 138) (show decode cX11_opens 137 = .ok (.iadd, 1) by decide +kernel) rfl ?_
  refine am_r_iald (nx := 139) (sh_118) (am_shle (sh_118)) hi1 hj2 (show decode cX11_opens 138 = .ok (.iaload, 1) by decide +kernel) rfl ?_
  refine am_r_iast (nx := 140) (sh_123) (am_shle (sh_123)) hi3 hj4 (show decode cX11_opens 139 = .ok (.iastore, 1) by decide +kernel) rfl ?_
  exact k
theorem S_X11_opens_140 {G : am_G} {d : Nat} {Q : Int → am_D → Prop} {σ : am_D} {v1 : Int} {v4 : Int} {v5 : Int} {v6 : Int}  (k : am_X (am_FI G (d + 1) Q) mX11_opens (0, 0) 65 [some (am_r (some 91)), some (am_i v1), none, none, some (am_i v4), some (am_i v5), some (am_i (v6 + 1))] [] (am_K0, σ)) : am_X (am_FI G (d + 1) Q) mX11_opens (0, 0) 140 [some (am_r (some 91)), some (am_i v1), none, none, some (am_i v4), some (am_i v5), some (am_i v6)] [] (am_K0, σ) := by
  refine am_r_iinc (nx := 143) rfl rfl (show decode cX11_opens 140 = .ok (.iinc 6 1, 3) by decide +kernel) rfl ?_
  refine am_r_goto (tg := 65) (show decode cX11_opens 143 = .ok (.goto (-78), 3) by decide +kernel) (by decide) ?_
  exact k
theorem S_X11_opens_146 {G : am_G} {d : Nat} {Q : Int → am_D → Prop} {σ : am_D} {v1 : Int} {v4 : Int} (hi1 : 0 ≤ v1) (hj2 : v1 < 3) (hi3 : 0 ≤ v1) (hj4 : v1 < 3) (k : am_X (am_FI G (d + 1) Q) mX11_opens (0, 0) 156 [some (am_r (some 91)), some (am_i v1), none, none, some (am_i v4), none, none] [] (am_K0, (am_pI σ 114 v1 ((σ.1 114 v1) + 1)))) : am_X (am_FI G (d + 1) Q) mX11_opens (0, 0) 146 [some (am_r (some 91)), some (am_i v1), none, none, some (am_i v4), none, none] [] (am_K0, σ) := by
  refine am_r_aload_n (nx := 147) rfl rfl (show decode cX11_opens 146 = .ok (.aload_n 0, 1) by decide +kernel) rfl ?_
  refine am_r_getF (nx := 150) 33 cw11 (by decide) rfl (Or.inl fl_X11_78) (ob_91) (fn_91_33) (show decode cX11_opens 147 = .ok (.getfield 78, 3) by decide +kernel) rfl ?_
  refine am_r_iload_n (nx := 151) rfl rfl (show decode cX11_opens 150 = .ok (.iload_n 1, 1) by decide +kernel) rfl ?_
  refine am_r_dup2 (nx := 152) rfl rfl (show decode cX11_opens 151 = .ok (.dup2, 1) by decide +kernel) rfl ?_
  refine am_r_iald (nx := 153) (sh_114) (am_shle (sh_114)) hi1 hj2 (show decode cX11_opens 152 = .ok (.iaload, 1) by decide +kernel) rfl ?_
  refine am_r_iconst (nx := 154) (show decode cX11_opens 153 = .ok (.iconst 1, 1) by decide +kernel) rfl ?_
  refine am_r_iadd (nx := 155) (show decode cX11_opens 154 = .ok (.iadd, 1) by decide +kernel) rfl ?_
  refine am_r_iast (nx := 156) (sh_114) (am_shle (sh_114)) hi3 hj4 (show decode cX11_opens 155 = .ok (.iastore, 1) by decide +kernel) rfl ?_
  exact k
theorem S_X11_opens_156 {G : am_G} {d : Nat} {Q : Int → am_D → Prop} {σ : am_D} {v1 : Int} {v4 : Int} (hi1 : 0 ≤ v4) (hj2 : v4 < 108) (hi3 : 0 ≤ v1) (hj4 : v1 < 3) (k : am_X (am_FI G (d + 1) Q) mX11_opens (0, 0) 169 [some (am_r (some 91)), some (am_i v1), none, none, none, none, none] [] (am_K0, (am_pI σ 113 v1 (σ.1 98 v4)))) : am_X (am_FI G (d + 1) Q) mX11_opens (0, 0) 156 [some (am_r (some 91)), some (am_i v1), none, none, some (am_i v4), none, none] [] (am_K0, σ) := by
  refine am_r_aload_n (nx := 157) rfl rfl (show decode cX11_opens 156 = .ok (.aload_n 0, 1) by decide +kernel) rfl ?_
  refine am_r_getF (nx := 160) 32 cw11 (by decide) rfl (Or.inl fl_X11_75) (ob_91) (fn_91_32) (show decode cX11_opens 157 = .ok (.getfield 75, 3) by decide +kernel) rfl ?_
  refine am_r_iload_n (nx := 161) rfl rfl (show decode cX11_opens 160 = .ok (.iload_n 1, 1) by decide +kernel) rfl ?_
  refine am_r_aload_n (nx := 162) rfl rfl (show decode cX11_opens 161 = .ok (.aload_n 0, 1) by decide +kernel) rfl ?_
  refine am_r_getF (nx := 165) 12 cw11 (by decide) rfl (Or.inl fl_X11_30) (ob_91) (fn_91_12) (show decode cX11_opens 162 = .ok (.getfield 30, 3) by decide +kernel) rfl ?_
  refine am_r_iload (nx := 167) rfl (show decode cX11_opens 165 = .ok (.iload 4, 2) by decide +kernel) rfl ?_
  refine am_r_iald (nx := 168) (sh_98) (am_shle (sh_98)) hi1 hj2 (show decode cX11_opens 167 = .ok (.iaload, 1) by decide +kernel) rfl ?_
  refine am_r_iast (nx := 169) (sh_113) (am_shle (sh_113)) hi3 hj4 (show decode cX11_opens 168 = .ok (.iastore, 1) by decide +kernel) rfl ?_
  exact am_x_fg [4] k
theorem S_X11_opens_169 {G : am_G} {d : Nat} {Q : Int → am_D → Prop} {σ : am_D} {v1 : Int} {Q' : am_D → Prop} (hc : am_MV G d mX11_empties [am_r (some 91), am_i v1] σ Q') (k : ∀ σ' : am_D, Q' σ' → am_X (am_FI G (d + 1) Q) mX11_opens (0, 0) 174 [none, none, none, none, none, none, none] [] (am_K0, σ')) : am_X (am_FI G (d + 1) Q) mX11_opens (0, 0) 169 [some (am_r (some 91)), some (am_i v1), none, none, none, none, none] [] (am_K0, σ) := by
  refine am_r_aload_n (nx := 170) rfl rfl (show decode cX11_opens 169 = .ok (.aload_n 0, 1) by decide +kernel) rfl ?_
  refine am_r_iload_n (nx := 171) rfl rfl (show decode cX11_opens 170 = .ok (.iload_n 1, 1) by decide +kernel) rfl ?_
  refine am_r_callV (as := [am_i v1]) (st := []) hc mb_X11_empties mv_X11_empties (Or.inl ml_X11_339) (ob_91) (by omega) (r := (RX11, TX11, 63)) rfl rfl rfl rfl (Nat.le_of_ble_eq_true rfl) ⟨Nat.le_refl _, Nat.le_refl _⟩ ⟨Nat.le_refl _, Nat.le_refl _⟩ (show decode cX11_opens 171 = .ok (.invokevirtual 339, 3) by decide +kernel) ?_
  rintro _ _ ⟨σ', rfl, rfl, hq⟩ _
  exact am_x_fg [0, 1] (k σ' hq)
theorem S_X11_opens_174 {G : am_G} {d : Nat} {Q : Int → am_D → Prop} {σ : am_D}   (k : Q 1 σ) : am_X (am_FI G (d + 1) Q) mX11_opens (0, 0) 174 [none, none, none, none, none, none, none] [] (am_K0, σ) := by
  refine am_r_iconst (nx := 175) (show decode cX11_opens 174 = .ok (.iconst 1, 1) by decide +kernel) rfl ?_
  exact am_r_iret rfl rfl (show decode cX11_opens 175 = .ok (.ireturn, 1) by decide +kernel) ⟨_, _, rfl, rfl, k⟩
theorem S_X11_adds_0 {G : am_G} {d : Nat} {Q : am_D → Prop} {σ : am_D} {v1 : Int} {v2 : Int} {v3 : Int} (hr1 : -2147483648 ≤ v3 ∧ v3 ≤ 2147483647) (k1 : ¬ v3 = 0 → am_X (am_FV G (d + 1) Q) mX11_adds (0, 0) 5 [some (am_r (some 91)), some (am_i v1), some (am_i v2), some (am_i v3)] [] (am_K0, σ)) (k2 : ¬ (¬ v3 = 0) → am_X (am_FV G (d + 1) Q) mX11_adds (0, 0) 4 [none, none, none, none] [] (am_K0, σ)) : am_X (am_FV G (d + 1) Q) mX11_adds (0, 0) 0 [some (am_r (some 91)), some (am_i v1), some (am_i v2), some (am_i v3)] [] (am_K0, σ) := by
  refine am_r_iload_n (nx := 1) rfl rfl (show decode cX11_adds 0 = .ok (.iload_n 3, 1) by decide +kernel) rfl ?_
  refine am_r_if_ne (tg := 5) (nx := 4) (show decode cX11_adds 1 = .ok (.ifCond .ne 4, 3) by decide +kernel) (by decide) rfl hr1 ?_ ?_
  · exact fun q => k1 q
  · exact fun q => am_x_fg [0, 1, 2, 3] (k2 q)
theorem S_X11_adds_4 {G : am_G} {d : Nat} {Q : am_D → Prop} {σ : am_D}   (k : Q σ) : am_X (am_FV G (d + 1) Q) mX11_adds (0, 0) 4 [none, none, none, none] [] (am_K0, σ) := by
  exact am_r_vret rfl (show decode cX11_adds 4 = .ok (.return_, 1) by decide +kernel) ⟨_, rfl, rfl, k⟩
theorem S_X11_adds_5 {G : am_G} {d : Nat} {Q : am_D → Prop} {σ : am_D} {v1 : Int} {v2 : Int} {v3 : Int} (hr1 : -2147483648 ≤ (σ.1 91 45) ∧ (σ.1 91 45) ≤ 2147483647) (k1 : ¬ (σ.1 91 45) = 0 → am_X (am_FV G (d + 1) Q) mX11_adds (0, 0) 20 [some (am_r (some 91)), some (am_i v1), some (am_i v2), some (am_i v3)] [] (am_K0, σ)) (k2 : ¬ (¬ (σ.1 91 45) = 0) → am_X (am_FV G (d + 1) Q) mX11_adds (0, 0) 12 [some (am_r (some 91)), some (am_i v1), some (am_i v2), some (am_i v3)] [] (am_K0, σ)) : am_X (am_FV G (d + 1) Q) mX11_adds (0, 0) 5 [some (am_r (some 91)), some (am_i v1), some (am_i v2), some (am_i v3)] [] (am_K0, σ) := by
  refine am_r_aload_n (nx := 6) rfl rfl (show decode cX11_adds 5 = .ok (.aload_n 0, 1) by decide +kernel) rfl ?_
  refine am_r_getI (nx := 9) 45 cw11 (by decide) rfl (Or.inl fl_X11_342) (ob_91) (show decode cX11_adds 6 = .ok (.getfield 342, 3) by decide +kernel) rfl ?_
  refine am_r_if_ne (tg := 20) (nx := 12) (show decode cX11_adds 9 = .ok (.ifCond .ne 11, 3) by decide +kernel) (by decide) rfl hr1 ?_ ?_
  · exact fun q => k1 q
  · exact fun q => k2 q
theorem S_X11_adds_12 {G : am_G} {d : Nat} {Q : am_D → Prop} {σ : am_D} {v1 : Int} {v2 : Int} {v3 : Int}  (k : am_X (am_FV G (d + 1) Q) mX11_adds (0, 0) 30 [some (am_r (some 91)), none, some (am_i v2), some (am_i v3)] [] (am_K0, (am_pI σ 91 43 v1))) : am_X (am_FV G (d + 1) Q) mX11_adds (0, 0) 12 [some (am_r (some 91)), some (am_i v1), some (am_i v2), some (am_i v3)] [] (am_K0, σ) := by
  refine am_r_aload_n (nx := 13) rfl rfl (show decode cX11_adds 12 = .ok (.aload_n 0, 1) by decide +kernel) rfl ?_
  refine am_r_iload_n (nx := 14) rfl rfl (show decode cX11_adds 13 = .ok (.iload_n 1, 1) by decide +kernel) rfl ?_
  refine am_r_putI (nx := 17) 43 cw11 (by decide) rfl (Or.inl fl_X11_345) (ob_91) rfl (Or.inl rfl) (show decode cX11_adds 14 = .ok (.putfield 345, 3) by decide +kernel) rfl ?_
  refine am_r_goto (tg := 30) (show decode cX11_adds 17 = .ok (.goto 13, 3) by decide +kernel) (by decide) ?_
  exact am_x_fg [1] k
theorem S_X11_adds_20 {G : am_G} {d : Nat} {Q : am_D → Prop} {σ : am_D} {v1 : Int} {v2 : Int} {v3 : Int} (hi1 : 0 ≤ (σ.1 91 44)) (hj2 : (σ.1 91 44) < 15000) (k : am_X (am_FV G (d + 1) Q) mX11_adds (0, 0) 30 [some (am_r (some 91)), none, some (am_i v2), some (am_i v3)] [] (am_K0, (am_pI σ 111 (σ.1 91 44) v1))) : am_X (am_FV G (d + 1) Q) mX11_adds (0, 0) 20 [some (am_r (some 91)), some (am_i v1), some (am_i v2), some (am_i v3)] [] (am_K0, σ) := by
  refine am_r_aload_n (nx := 21) rfl rfl (show decode cX11_adds 20 = .ok (.aload_n 0, 1) by decide +kernel) rfl ?_
  refine am_r_getF (nx := 24) 30 cw11 (by decide) rfl (Or.inl fl_X11_69) (ob_91) (fn_91_30) (show decode cX11_adds 21 = .ok (.getfield 69, 3) by decide +kernel) rfl ?_
  refine am_r_aload_n (nx := 25) rfl rfl (show decode cX11_adds 24 = .ok (.aload_n 0, 1) by decide +kernel) rfl ?_
  refine am_r_getI (nx := 28) 44 cw11 (by decide) rfl (Or.inl fl_X11_348) (ob_91) (show decode cX11_adds 25 = .ok (.getfield 348, 3) by decide +kernel) rfl ?_
  refine am_r_iload_n (nx := 29) rfl rfl (show decode cX11_adds 28 = .ok (.iload_n 1, 1) by decide +kernel) rfl ?_
  refine am_r_iast (nx := 30) (sh_111) (am_shle (sh_111)) hi1 hj2 (show decode cX11_adds 29 = .ok (.iastore, 1) by decide +kernel) rfl ?_
  exact am_x_fg [1] k
theorem S_X11_adds_30 {G : am_G} {d : Nat} {Q : am_D → Prop} {σ : am_D} {v2 : Int} {v3 : Int}  (k : am_X (am_FV G (d + 1) Q) mX11_adds (0, 0) 35 [some (am_r (some 91)), none, none, some (am_i v3)] [] (am_K0, (am_pI σ 91 44 v2))) : am_X (am_FV G (d + 1) Q) mX11_adds (0, 0) 30 [some (am_r (some 91)), none, some (am_i v2), some (am_i v3)] [] (am_K0, σ) := by
  refine am_r_aload_n (nx := 31) rfl rfl (show decode cX11_adds 30 = .ok (.aload_n 0, 1) by decide +kernel) rfl ?_
  refine am_r_iload_n (nx := 32) rfl rfl (show decode cX11_adds 31 = .ok (.iload_n 2, 1) by decide +kernel) rfl ?_
  refine am_r_putI (nx := 35) 44 cw11 (by decide) rfl (Or.inl fl_X11_348) (ob_91) rfl (Or.inl rfl) (show decode cX11_adds 32 = .ok (.putfield 348, 3) by decide +kernel) rfl ?_
  exact am_x_fg [2] k
theorem S_X11_adds_35 {G : am_G} {d : Nat} {Q : am_D → Prop} {σ : am_D} {v3 : Int}  (k : am_X (am_FV G (d + 1) Q) mX11_adds (0, 0) 45 [none, none, none, none] [] (am_K0, (am_pI σ 91 45 ((σ.1 91 45) + v3)))) : am_X (am_FV G (d + 1) Q) mX11_adds (0, 0) 35 [some (am_r (some 91)), none, none, some (am_i v3)] [] (am_K0, σ) := by
  refine am_r_aload_n (nx := 36) rfl rfl (show decode cX11_adds 35 = .ok (.aload_n 0, 1) by decide +kernel) rfl ?_
  refine am_r_dup (nx := 37) rfl (show decode cX11_adds 36 = .ok (.dup, 1) by decide +kernel) rfl ?_
  refine am_r_getI (nx := 40) 45 cw11 (by decide) rfl (Or.inl fl_X11_342) (ob_91) (show decode cX11_adds 37 = .ok (.getfield 342, 3) by decide +kernel) rfl ?_
  refine am_r_iload_n (nx := 41) rfl rfl (show decode cX11_adds 40 = .ok (.iload_n 3, 1) by decide +kernel) rfl ?_
  refine am_r_iadd (nx := 42) (show decode cX11_adds 41 = .ok (.iadd, 1) by decide +kernel) rfl ?_
  refine am_r_putI (nx := 45) 45 cw11 (by decide) rfl (Or.inl fl_X11_342) (ob_91) rfl (Or.inl rfl) (show decode cX11_adds 42 = .ok (.putfield 342, 3) by decide +kernel) rfl ?_
  exact am_x_fg [0, 3] k
theorem S_X11_adds_45 {G : am_G} {d : Nat} {Q : am_D → Prop} {σ : am_D}   (k : Q σ) : am_X (am_FV G (d + 1) Q) mX11_adds (0, 0) 45 [none, none, none, none] [] (am_K0, σ) := by
  exact am_r_vret rfl (show decode cX11_adds 45 = .ok (.return_, 1) by decide +kernel) ⟨_, rfl, rfl, k⟩
theorem S_X11_makes_0 {G : am_G} {d : Nat} {Q : am_D → Prop} {σ : am_D} {v1 : Int} {v2 : Int} {v3 : Int} {v4 : Int} (hi1 : 0 ≤ v1) (hj2 : v1 < 3) (k : am_X (am_FV G (d + 1) Q) mX11_makes (0, 0) 16 [some (am_r (some 91)), some (am_i v1), some (am_i v2), some (am_i v3), some (am_i v4), some (am_i (((260 * v1) + (σ.1 114 v1)) - 1)), none, none, none] [] (am_K0, σ)) : am_X (am_FV G (d + 1) Q) mX11_makes (0, 0) 0 [some (am_r (some 91)), some (am_i v1), some (am_i v2), some (am_i v3), some (am_i v4), none, none, none, none] [] (am_K0, σ) := by
  refine am_r_sipush (nx := 3) rfl (show decode cX11_makes 0 = .ok (.sipush 260, 3) by decide +kernel) rfl ?_
  refine am_r_iload_n (nx := 4) rfl rfl (show decode cX11_makes 3 = .ok (.iload_n 1, 1) by decide +kernel) rfl ?_
  refine am_r_imul (nx := 5) (show decode cX11_makes 4 = .ok (.imul, 1) by decide +kernel) rfl ?_
  refine am_r_aload_n (nx := 6) rfl rfl (show decode cX11_makes 5 = .ok (.aload_n 0, 1) by decide +kernel) rfl ?_
  refine am_r_getF (nx := 9) 33 cw11 (by decide) rfl (Or.inl fl_X11_78) (ob_91) (fn_91_33) (show decode cX11_makes 6 = .ok (.getfield 78, 3) by decide +kernel) rfl ?_
  refine am_r_iload_n (nx := 10) rfl rfl (show decode cX11_makes 9 = .ok (.iload_n 1, 1) by decide +kernel) rfl ?_
  refine am_r_iald (nx := 11) (sh_114) (am_shle (sh_114)) hi1 hj2 (show decode cX11_makes 10 = .ok (.iaload, 1) by decide +kernel) rfl ?_
  refine am_r_iadd (nx := 12) (show decode cX11_makes 11 = .ok (.iadd, 1) by decide +kernel) rfl ?_
  refine am_r_iconst (nx := 13) (show decode cX11_makes 12 = .ok (.iconst 1, 1) by decide +kernel) rfl ?_
  refine am_r_isub (nx := 14) (show decode cX11_makes 13 = .ok (.isub, 1) by decide +kernel) rfl ?_
  refine am_r_istore (nx := 16) (by decide) rfl (show decode cX11_makes 14 = .ok (.istore 5, 2) by decide +kernel) rfl ?_
  exact k
theorem S_X11_makes_16 {G : am_G} {d : Nat} {Q : am_D → Prop} {σ : am_D} {v1 : Int} {v2 : Int} {v3 : Int} {v4 : Int} {v5 : Int}  (k : am_X (am_FV G (d + 1) Q) mX11_makes (0, 0) 21 [some (am_r (some 91)), some (am_i v1), some (am_i v2), some (am_i v3), some (am_i v4), some (am_i v5), none, none, none] [] (am_K0, (am_pI σ 91 45 0))) : am_X (am_FV G (d + 1) Q) mX11_makes (0, 0) 16 [some (am_r (some 91)), some (am_i v1), some (am_i v2), some (am_i v3), some (am_i v4), some (am_i v5), none, none, none] [] (am_K0, σ) := by
  refine am_r_aload_n (nx := 17) rfl rfl (show decode cX11_makes 16 = .ok (.aload_n 0, 1) by decide +kernel) rfl ?_
  refine am_r_iconst (nx := 18) (show decode cX11_makes 17 = .ok (.iconst 0, 1) by decide +kernel) rfl ?_
  refine am_r_putI (nx := 21) 45 cw11 (by decide) rfl (Or.inl fl_X11_342) (ob_91) rfl (Or.inl rfl) (show decode cX11_makes 18 = .ok (.putfield 342, 3) by decide +kernel) rfl ?_
  exact k
theorem S_X11_makes_21 {G : am_G} {d : Nat} {Q : am_D → Prop} {σ : am_D} {v1 : Int} {v2 : Int} {v3 : Int} {v4 : Int} {v5 : Int} (hi1 : 0 ≤ (((72 * v2) + (3 * v3)) + v4)) (hj2 : (((72 * v2) + (3 * v3)) + v4) < 432) (k : am_X (am_FV G (d + 1) Q) mX11_makes (0, 0) 39 [some (am_r (some 91)), some (am_i v1), some (am_i v2), some (am_i v3), some (am_i v4), some (am_i v5), some (am_i (σ.1 103 (((72 * v2) + (3 * v3)) + v4))), none, none] [] (am_K0, σ)) : am_X (am_FV G (d + 1) Q) mX11_makes (0, 0) 21 [some (am_r (some 91)), some (am_i v1), some (am_i v2), some (am_i v3), some (am_i v4), some (am_i v5), none, none, none] [] (am_K0, σ) := by
  refine am_r_aload_n (nx := 22) rfl rfl (show decode cX11_makes 21 = .ok (.aload_n 0, 1) by decide +kernel) rfl ?_
  refine am_r_getF (nx := 25) 17 cw11 (by decide) rfl (Or.inl fl_X11_45) (ob_91) (fn_91_17) (show decode cX11_makes 22 = .ok (.getfield 45, 3) by decide +kernel) rfl ?_
  refine am_r_bipush (nx := 27) rfl (show decode cX11_makes 25 = .ok (.bipush 72, 2) by decide +kernel) rfl ?_
  refine am_r_iload_n (nx := 28) rfl rfl (show decode cX11_makes 27 = .ok (.iload_n 2, 1) by decide +kernel) rfl ?_
  refine am_r_imul (nx := 29) (show decode cX11_makes 28 = .ok (.imul, 1) by decide +kernel) rfl ?_
  refine am_r_iconst (nx := 30) (show decode cX11_makes 29 = .ok (.iconst 3, 1) by decide +kernel) rfl ?_
  refine am_r_iload_n (nx := 31) rfl rfl (show decode cX11_makes 30 = .ok (.iload_n 3, 1) by decide +kernel) rfl ?_
  refine am_r_imul (nx := 32) (show decode cX11_makes 31 = .ok (.imul, 1) by decide +kernel) rfl ?_
  refine am_r_iadd (nx := 33) (show decode cX11_makes 32 = .ok (.iadd, 1) by decide +kernel) rfl ?_
  refine am_r_iload (nx := 35) rfl (show decode cX11_makes 33 = .ok (.iload 4, 2) by decide +kernel) rfl ?_
  refine am_r_iadd (nx := 36) (show decode cX11_makes 35 = .ok (.iadd, 1) by decide +kernel) rfl ?_
  refine am_r_iald (nx := 37) (sh_103) (am_shle (sh_103)) hi1 hj2 (show decode cX11_makes 36 = .ok (.iaload, 1) by decide +kernel) rfl ?_
  refine am_r_istore (nx := 39) (by decide) rfl (show decode cX11_makes 37 = .ok (.istore 6, 2) by decide +kernel) rfl ?_
  exact k
theorem S_X11_makes_39 {G : am_G} {d : Nat} {Q : am_D → Prop} {σ : am_D} {v1 : Int} {v2 : Int} {v3 : Int} {v4 : Int} {v5 : Int} {v6 : Int} (hi1 : 0 ≤ (((72 * v2) + (3 * v3)) + v4)) (hj2 : (((72 * v2) + (3 * v3)) + v4) < 432) (hr3 : -2147483648 ≤ v6 ∧ v6 ≤ 2147483647) (hr4 : -2147483648 ≤ (σ.1 104 (((72 * v2) + (3 * v3)) + v4)) ∧ (σ.1 104 (((72 * v2) + (3 * v3)) + v4)) ≤ 2147483647) (k1 : (σ.1 104 (((72 * v2) + (3 * v3)) + v4)) ≤ v6 → am_X (am_FV G (d + 1) Q) mX11_makes (0, 0) 216 [none, none, none, none, none, none, none, none, none] [] (am_K0, σ)) (k2 : ¬ ((σ.1 104 (((72 * v2) + (3 * v3)) + v4)) ≤ v6) → am_X (am_FV G (d + 1) Q) mX11_makes (0, 0) 60 [some (am_r (some 91)), some (am_i v1), some (am_i v2), some (am_i v3), some (am_i v4), some (am_i v5), some (am_i v6), none, none] [] (am_K0, σ)) : am_X (am_FV G (d + 1) Q) mX11_makes (0, 0) 39 [some (am_r (some 91)), some (am_i v1), some (am_i v2), some (am_i v3), some (am_i v4), some (am_i v5), some (am_i v6), none, none] [] (am_K0, σ) := by
  refine am_r_iload (nx := 41) rfl (show decode cX11_makes 39 = .ok (.iload 6, 2) by decide +kernel) rfl ?_
  refine am_r_aload_n (nx := 42) rfl rfl (show decode cX11_makes 41 = .ok (.aload_n 0, 1) by decide +kernel) rfl ?_
  refine am_r_getF (nx := 45) 18 cw11 (by decide) rfl (Or.inl fl_X11_48) (ob_91) (fn_91_18) (show decode cX11_makes 42 = .ok (.getfield 48, 3) by decide +kernel) rfl ?_
  refine am_r_bipush (nx := 47) rfl (show decode cX11_makes 45 = .ok (.bipush 72, 2) by decide +kernel) rfl ?_
  refine am_r_iload_n (nx := 48) rfl rfl (show decode cX11_makes 47 = .ok (.iload_n 2, 1) by decide +kernel) rfl ?_
  refine am_r_imul (nx := 49) (show decode cX11_makes 48 = .ok (.imul, 1) by decide +kernel) rfl ?_
  refine am_r_iconst (nx := 50) (show decode cX11_makes 49 = .ok (.iconst 3, 1) by decide +kernel) rfl ?_
  refine am_r_iload_n (nx := 51) rfl rfl (show decode cX11_makes 50 = .ok (.iload_n 3, 1) by decide +kernel) rfl ?_
  refine am_r_imul (nx := 52) (show decode cX11_makes 51 = .ok (.imul, 1) by decide +kernel) rfl ?_
  refine am_r_iadd (nx := 53) (show decode cX11_makes 52 = .ok (.iadd, 1) by decide +kernel) rfl ?_
  refine am_r_iload (nx := 55) rfl (show decode cX11_makes 53 = .ok (.iload 4, 2) by decide +kernel) rfl ?_
  refine am_r_iadd (nx := 56) (show decode cX11_makes 55 = .ok (.iadd, 1) by decide +kernel) rfl ?_
  refine am_r_iald (nx := 57) (sh_104) (am_shle (sh_104)) hi1 hj2 (show decode cX11_makes 56 = .ok (.iaload, 1) by decide +kernel) rfl ?_
  refine am_r_icmp_ge (tg := 216) (nx := 60) (show decode cX11_makes 57 = .ok (.if_icmp .ge 159, 3) by decide +kernel) (by decide) rfl hr3 hr4 ?_ ?_
  · exact fun q => am_x_fg [0, 1, 2, 3, 4, 5, 6] (k1 q)
  · exact fun q => k2 q
theorem S_X11_makes_60 {G : am_G} {d : Nat} {Q : am_D → Prop} {σ : am_D} {v1 : Int} {v2 : Int} {v3 : Int} {v4 : Int} {v5 : Int} {v6 : Int} (hi1 : 0 ≤ ((600 * v2) + v6)) (hj2 : ((600 * v2) + v6) < 3600) (k : am_X (am_FV G (d + 1) Q) mX11_makes (0, 0) 75 [some (am_r (some 91)), some (am_i v1), some (am_i v2), some (am_i v3), some (am_i v4), some (am_i v5), some (am_i v6), some (am_i (σ.1 106 ((600 * v2) + v6))), none] [] (am_K0, σ)) : am_X (am_FV G (d + 1) Q) mX11_makes (0, 0) 60 [some (am_r (some 91)), some (am_i v1), some (am_i v2), some (am_i v3), some (am_i v4), some (am_i v5), some (am_i v6), none, none] [] (am_K0, σ) := by
  refine am_r_aload_n (nx := 61) rfl rfl (show decode cX11_makes 60 = .ok (.aload_n 0, 1) by decide +kernel) rfl ?_
  refine am_r_getF (nx := 64) 20 cw11 (by decide) rfl (Or.inl fl_X11_54) (ob_91) (fn_91_20) (show decode cX11_makes 61 = .ok (.getfield 54, 3) by decide +kernel) rfl ?_
  refine am_r_sipush (nx := 67) rfl (show decode cX11_makes 64 = .ok (.sipush 600, 3) by decide +kernel) rfl ?_
  refine am_r_iload_n (nx := 68) rfl rfl (show decode cX11_makes 67 = .ok (.iload_n 2, 1) by decide +kernel) rfl ?_
  refine am_r_imul (nx := 69) (show decode cX11_makes 68 = .ok (.imul, 1) by decide +kernel) rfl ?_
  refine am_r_iload (nx := 71) rfl (show decode cX11_makes 69 = .ok (.iload 6, 2) by decide +kernel) rfl ?_
  refine am_r_iadd (nx := 72) (show decode cX11_makes 71 = .ok (.iadd, 1) by decide +kernel) rfl ?_
  refine am_r_iald (nx := 73) (sh_106) (am_shle (sh_106)) hi1 hj2 (show decode cX11_makes 72 = .ok (.iaload, 1) by decide +kernel) rfl ?_
  refine am_r_istore (nx := 75) (by decide) rfl (show decode cX11_makes 73 = .ok (.istore 7, 2) by decide +kernel) rfl ?_
  exact k
theorem S_X11_makes_75 {G : am_G} {d : Nat} {Q : am_D → Prop} {σ : am_D} {v1 : Int} {v2 : Int} {v3 : Int} {v4 : Int} {v5 : Int} {v6 : Int} {v7 : Int} (hr1 : -2147483648 ≤ v7 ∧ v7 ≤ 2147483647) (k1 : v7 < 20 → am_X (am_FV G (d + 1) Q) mX11_makes (0, 0) 122 [some (am_r (some 91)), some (am_i v1), some (am_i v2), some (am_i v3), some (am_i v4), some (am_i v5), some (am_i v6), some (am_i v7), none] [] (am_K0, σ)) (k2 : ¬ (v7 < 20) → am_X (am_FV G (d + 1) Q) mX11_makes (0, 0) 82 [some (am_r (some 91)), some (am_i v1), some (am_i v2), some (am_i v3), some (am_i v4), some (am_i v5), some (am_i v6), some (am_i v7), none] [] (am_K0, σ)) : am_X (am_FV G (d + 1) Q) mX11_makes (0, 0) 75 [some (am_r (some 91)), some (am_i v1), some (am_i v2), some (am_i v3), some (am_i v4), some (am_i v5), some (am_i v6), some (am_i v7), none] [] (am_K0, σ) := by
  refine am_r_iload (nx := 77) rfl (show decode cX11_makes 75 = .ok (.iload 7, 2) by decide +kernel) rfl ?_
  refine am_r_bipush (nx := 79) rfl (show decode cX11_makes 77 = .ok (.bipush 20, 2) by decide +kernel) rfl ?_
  refine am_r_icmp_lt (tg := 122) (nx := 82) (show decode cX11_makes 79 = .ok (.if_icmp .lt 43, 3) by decide +kernel) (by decide) rfl hr1 (by omega) ?_ ?_
  · exact fun q => k1 q
  · exact fun q => k2 q
theorem S_X11_makes_82 {G : am_G} {d : Nat} {Q : am_D → Prop} {σ : am_D} {v1 : Int} {v2 : Int} {v3 : Int} {v4 : Int} {v5 : Int} {v6 : Int} {v7 : Int}  (k : am_X (am_FV G (d + 1) Q) mX11_makes (0, 0) 94 [some (am_r (some 91)), some (am_i v1), some (am_i v2), some (am_i v3), some (am_i v4), some (am_i v5), some (am_i v6), none, some (am_i (((3 * v5) + v7) - 20))] [] (am_K0, σ)) : am_X (am_FV G (d + 1) Q) mX11_makes (0, 0) 82 [some (am_r (some 91)), some (am_i v1), some (am_i v2), some (am_i v3), some (am_i v4), some (am_i v5), some (am_i v6), some (am_i v7), none] [] (am_K0, σ) := by
  refine am_r_iconst (nx := 83) (show decode cX11_makes 82 = .ok (.iconst 3, 1) by decide +kernel) rfl ?_
  refine am_r_iload (nx := 85) rfl (show decode cX11_makes 83 = .ok (.iload 5, 2) by decide +kernel) rfl ?_
  refine am_r_imul (nx := 86) (show decode cX11_makes 85 = .ok (.imul, 1) by decide +kernel) rfl ?_
  refine am_r_iload (nx := 88) rfl (show decode cX11_makes 86 = .ok (.iload 7, 2) by decide +kernel) rfl ?_
  refine am_r_iadd (nx := 89) (show decode cX11_makes 88 = .ok (.iadd, 1) by decide +kernel) rfl ?_
  refine am_r_bipush (nx := 91) rfl (show decode cX11_makes 89 = .ok (.bipush 20, 2) by decide +kernel) rfl ?_
  refine am_r_isub (nx := 92) (show decode cX11_makes 91 = .ok (.isub, 1) by decide +kernel) rfl ?_
  refine am_r_istore (nx := 94) (by decide) rfl (show decode cX11_makes 92 = .ok (.istore 8, 2) by decide +kernel) rfl ?_
  exact am_x_fg [7] k
theorem S_X11_makes_94 {G : am_G} {d : Nat} {Q : am_D → Prop} {σ : am_D} {v1 : Int} {v2 : Int} {v3 : Int} {v4 : Int} {v5 : Int} {v6 : Int} {v8 : Int} {Q' : am_D → Prop} (hi1 : 0 ≤ v8) (hj2 : v8 < 2340) (hi3 : 0 ≤ v8) (hj4 : v8 < 2340) (hi5 : 0 ≤ v8) (hj6 : v8 < 2340) (hc : am_MV G d mX11_adds [am_r (some 91), am_i (σ.1 121 v8), am_i (σ.1 122 v8), am_i (σ.1 123 v8)] σ Q') (k : ∀ σ' : am_D, Q' σ' → am_X (am_FV G (d + 1) Q) mX11_makes (0, 0) 119 [some (am_r (some 91)), some (am_i v1), some (am_i v2), some (am_i v3), some (am_i v4), some (am_i v5), some (am_i v6), none, none] [] (am_K0, σ')) : am_X (am_FV G (d + 1) Q) mX11_makes (0, 0) 94 [some (am_r (some 91)), some (am_i v1), some (am_i v2), some (am_i v3), some (am_i v4), some (am_i v5), some (am_i v6), none, some (am_i v8)] [] (am_K0, σ) := by
  refine am_r_aload_n (nx := 95) rfl rfl (show decode cX11_makes 94 = .ok (.aload_n 0, 1) by decide +kernel) rfl ?_
  refine am_r_aload_n (nx := 96) rfl rfl (show decode cX11_makes 95 = .ok (.aload_n 0, 1) by decide +kernel) rfl ?_
  refine am_r_getF (nx := 99) 40 cw11 (by decide) rfl (Or.inl fl_X11_99) (ob_91) (fn_91_40) (show decode cX11_makes 96 = .ok (.getfield 99, 3) by decide +kernel) rfl ?_
  refine am_r_iload (nx := 101) rfl (show decode cX11_makes 99 = .ok (.iload 8, 2) by decide +kernel) rfl ?_
  refine am_r_iald (nx := 102) (sh_121) (am_shle (sh_121)) hi1 hj2 (show decode cX11_makes 101 = .ok (.iaload, 1) by decide +kernel) rfl ?_
  refine am_r_aload_n (nx := 103) rfl rfl (show decode cX11_makes 102 = .ok (.aload_n 0, 1) by decide +kernel) rfl ?_
  refine am_r_getF (nx := 106) 41 cw11 (by decide) rfl (Or.inl fl_X11_102) (ob_91) (fn_91_41) (show decode cX11_makes 103 = .ok (.getfield 102, 3) by decide +kernel) rfl ?_
  refine am_r_iload (nx := 108) rfl (show decode cX11_makes 106 = .ok (.iload 8, 2) by decide +kernel) rfl ?_
  refine am_r_iald (nx := 109) (sh_122) (am_shle (sh_122)) hi3 hj4 (show decode cX11_makes 108 = .ok (.iaload, 1) by decide +kernel) rfl ?_
  refine am_r_aload_n (nx := 110) rfl rfl (show decode cX11_makes 109 = .ok (.aload_n 0, 1) by decide +kernel) rfl ?_
  refine am_r_getF (nx := 113) 42 cw11 (by decide) rfl (Or.inl fl_X11_105) (ob_91) (fn_91_42) (show decode cX11_makes 110 = .ok (.getfield 105, 3) by decide +kernel) rfl ?_
  refine am_r_iload (nx := 115) rfl (show decode cX11_makes 113 = .ok (.iload 8, 2) by decide +kernel) rfl ?_
  refine am_r_iald (nx := 116) (sh_123) (am_shle (sh_123)) hi5 hj6 (show decode cX11_makes 115 = .ok (.iaload, 1) by decide +kernel) rfl ?_
  refine am_r_callV (as := [am_i (σ.1 121 v8), am_i (σ.1 122 v8), am_i (σ.1 123 v8)]) (st := []) hc mb_X11_adds mv_X11_adds (Or.inl ml_X11_351) (ob_91) (by omega) (r := (RX11, TX11, 63)) rfl rfl rfl rfl (Nat.le_of_ble_eq_true rfl) ⟨Nat.le_refl _, Nat.le_refl _⟩ ⟨Nat.le_refl _, Nat.le_refl _⟩ (show decode cX11_makes 116 = .ok (.invokevirtual 351, 3) by decide +kernel) ?_
  rintro _ _ ⟨σ', rfl, rfl, hq⟩ _
  exact am_x_fg [8] (k σ' hq)
theorem S_X11_makes_119 {G : am_G} {d : Nat} {Q : am_D → Prop} {σ : am_D} {v1 : Int} {v2 : Int} {v3 : Int} {v4 : Int} {v5 : Int} {v6 : Int}  (k : am_X (am_FV G (d + 1) Q) mX11_makes (0, 0) 210 [some (am_r (some 91)), some (am_i v1), some (am_i v2), some (am_i v3), some (am_i v4), some (am_i v5), some (am_i v6), none, none] [] (am_K0, σ)) : am_X (am_FV G (d + 1) Q) mX11_makes (0, 0) 119 [some (am_r (some 91)), some (am_i v1), some (am_i v2), some (am_i v3), some (am_i v4), some (am_i v5), some (am_i v6), none, none] [] (am_K0, σ) := by
  refine am_r_goto (tg := 210) (show decode cX11_makes 119 = .ok (.goto 91, 3) by decide +kernel) (by decide) ?_
  exact k
theorem S_X11_makes_122 {G : am_G} {d : Nat} {Q : am_D → Prop} {σ : am_D} {v1 : Int} {v2 : Int} {v3 : Int} {v4 : Int} {v5 : Int} {v6 : Int} {v7 : Int} (hr1 : -2147483648 ≤ v7 ∧ v7 ≤ 2147483647) (k1 : v7 < 10 → am_X (am_FV G (d + 1) Q) mX11_makes (0, 0) 168 [some (am_r (some 91)), some (am_i v1), some (am_i v2), some (am_i v3), some (am_i v4), some (am_i v5), some (am_i v6), some (am_i v7), none] [] (am_K0, σ)) (k2 : ¬ (v7 < 10) → am_X (am_FV G (d + 1) Q) mX11_makes (0, 0) 129 [some (am_r (some 91)), some (am_i v1), some (am_i v2), some (am_i v3), some (am_i v4), some (am_i v5), some (am_i v6), some (am_i v7), none] [] (am_K0, σ)) : am_X (am_FV G (d + 1) Q) mX11_makes (0, 0) 122 [some (am_r (some 91)), some (am_i v1), some (am_i v2), some (am_i v3), some (am_i v4), some (am_i v5), some (am_i v6), some (am_i v7), none] [] (am_K0, σ) := by
  refine am_r_iload (nx := 124) rfl (show decode cX11_makes 122 = .ok (.iload 7, 2) by decide +kernel) rfl ?_
  refine am_r_bipush (nx := 126) rfl (show decode cX11_makes 124 = .ok (.bipush 10, 2) by decide +kernel) rfl ?_
  refine am_r_icmp_lt (tg := 168) (nx := 129) (show decode cX11_makes 126 = .ok (.if_icmp .lt 42, 3) by decide +kernel) (by decide) rfl hr1 (by omega) ?_ ?_
  · exact fun q => k1 q
  · exact fun q => k2 q
theorem S_X11_makes_129 {G : am_G} {d : Nat} {Q : am_D → Prop} {σ : am_D} {v1 : Int} {v2 : Int} {v3 : Int} {v4 : Int} {v5 : Int} {v6 : Int} {v7 : Int}  (k : am_X (am_FV G (d + 1) Q) mX11_makes (0, 0) 140 [some (am_r (some 91)), some (am_i v1), some (am_i v2), some (am_i v3), some (am_i v4), some (am_i v5), some (am_i v6), none, some (am_i (((3 * v1) + v7) - 10))] [] (am_K0, σ)) : am_X (am_FV G (d + 1) Q) mX11_makes (0, 0) 129 [some (am_r (some 91)), some (am_i v1), some (am_i v2), some (am_i v3), some (am_i v4), some (am_i v5), some (am_i v6), some (am_i v7), none] [] (am_K0, σ) := by
  refine am_r_iconst (nx := 130) (show decode cX11_makes 129 = .ok (.iconst 3, 1) by decide +kernel) rfl ?_
  refine am_r_iload_n (nx := 131) rfl rfl (show decode cX11_makes 130 = .ok (.iload_n 1, 1) by decide +kernel) rfl ?_
  refine am_r_imul (nx := 132) (show decode cX11_makes 131 = .ok (.imul, 1) by decide +kernel) rfl ?_
  refine am_r_iload (nx := 134) rfl (show decode cX11_makes 132 = .ok (.iload 7, 2) by decide +kernel) rfl ?_
  refine am_r_iadd (nx := 135) (show decode cX11_makes 134 = .ok (.iadd, 1) by decide +kernel) rfl ?_
  refine am_r_bipush (nx := 137) rfl (show decode cX11_makes 135 = .ok (.bipush 10, 2) by decide +kernel) rfl ?_
  refine am_r_isub (nx := 138) (show decode cX11_makes 137 = .ok (.isub, 1) by decide +kernel) rfl ?_
  refine am_r_istore (nx := 140) (by decide) rfl (show decode cX11_makes 138 = .ok (.istore 8, 2) by decide +kernel) rfl ?_
  exact am_x_fg [7] k
theorem S_X11_makes_140 {G : am_G} {d : Nat} {Q : am_D → Prop} {σ : am_D} {v1 : Int} {v2 : Int} {v3 : Int} {v4 : Int} {v5 : Int} {v6 : Int} {v8 : Int} {Q' : am_D → Prop} (hi1 : 0 ≤ v8) (hj2 : v8 < 9) (hi3 : 0 ≤ v8) (hj4 : v8 < 9) (hi5 : 0 ≤ v8) (hj6 : v8 < 9) (hc : am_MV G d mX11_adds [am_r (some 91), am_i (σ.1 116 v8), am_i (σ.1 117 v8), am_i (σ.1 118 v8)] σ Q') (k : ∀ σ' : am_D, Q' σ' → am_X (am_FV G (d + 1) Q) mX11_makes (0, 0) 165 [some (am_r (some 91)), some (am_i v1), some (am_i v2), some (am_i v3), some (am_i v4), some (am_i v5), some (am_i v6), none, none] [] (am_K0, σ')) : am_X (am_FV G (d + 1) Q) mX11_makes (0, 0) 140 [some (am_r (some 91)), some (am_i v1), some (am_i v2), some (am_i v3), some (am_i v4), some (am_i v5), some (am_i v6), none, some (am_i v8)] [] (am_K0, σ) := by
  refine am_r_aload_n (nx := 141) rfl rfl (show decode cX11_makes 140 = .ok (.aload_n 0, 1) by decide +kernel) rfl ?_
  refine am_r_aload_n (nx := 142) rfl rfl (show decode cX11_makes 141 = .ok (.aload_n 0, 1) by decide +kernel) rfl ?_
  refine am_r_getF (nx := 145) 35 cw11 (by decide) rfl (Or.inl fl_X11_84) (ob_91) (fn_91_35) (show decode cX11_makes 142 = .ok (.getfield 84, 3) by decide +kernel) rfl ?_
  refine am_r_iload (nx := 147) rfl (show decode cX11_makes 145 = .ok (.iload 8, 2) by decide +kernel) rfl ?_
  refine am_r_iald (nx := 148) (sh_116) (am_shle (sh_116)) hi1 hj2 (show decode cX11_makes 147 = .ok (.iaload, 1) by decide +kernel) rfl ?_
  refine am_r_aload_n (nx := 149) rfl rfl (show decode cX11_makes 148 = .ok (.aload_n 0, 1) by decide +kernel) rfl ?_
  refine am_r_getF (nx := 152) 36 cw11 (by decide) rfl (Or.inl fl_X11_87) (ob_91) (fn_91_36) (show decode cX11_makes 149 = .ok (.getfield 87, 3) by decide +kernel) rfl ?_
  refine am_r_iload (nx := 154) rfl (show decode cX11_makes 152 = .ok (.iload 8, 2) by decide +kernel) rfl ?_
  refine am_r_iald (nx := 155) (sh_117) (am_shle (sh_117)) hi3 hj4 (show decode cX11_makes 154 = .ok (.iaload, 1) by decide +kernel) rfl ?_
  refine am_r_aload_n (nx := 156) rfl rfl (show decode cX11_makes 155 = .ok (.aload_n 0, 1) by decide +kernel) rfl ?_
  refine am_r_getF (nx := 159) 37 cw11 (by decide) rfl (Or.inl fl_X11_90) (ob_91) (fn_91_37) (show decode cX11_makes 156 = .ok (.getfield 90, 3) by decide +kernel) rfl ?_
  refine am_r_iload (nx := 161) rfl (show decode cX11_makes 159 = .ok (.iload 8, 2) by decide +kernel) rfl ?_
  refine am_r_iald (nx := 162) (sh_118) (am_shle (sh_118)) hi5 hj6 (show decode cX11_makes 161 = .ok (.iaload, 1) by decide +kernel) rfl ?_
  refine am_r_callV (as := [am_i (σ.1 116 v8), am_i (σ.1 117 v8), am_i (σ.1 118 v8)]) (st := []) hc mb_X11_adds mv_X11_adds (Or.inl ml_X11_351) (ob_91) (by omega) (r := (RX11, TX11, 63)) rfl rfl rfl rfl (Nat.le_of_ble_eq_true rfl) ⟨Nat.le_refl _, Nat.le_refl _⟩ ⟨Nat.le_refl _, Nat.le_refl _⟩ (show decode cX11_makes 162 = .ok (.invokevirtual 351, 3) by decide +kernel) ?_
  rintro _ _ ⟨σ', rfl, rfl, hq⟩ _
  exact am_x_fg [8] (k σ' hq)
theorem S_X11_makes_165 {G : am_G} {d : Nat} {Q : am_D → Prop} {σ : am_D} {v1 : Int} {v2 : Int} {v3 : Int} {v4 : Int} {v5 : Int} {v6 : Int}  (k : am_X (am_FV G (d + 1) Q) mX11_makes (0, 0) 210 [some (am_r (some 91)), some (am_i v1), some (am_i v2), some (am_i v3), some (am_i v4), some (am_i v5), some (am_i v6), none, none] [] (am_K0, σ)) : am_X (am_FV G (d + 1) Q) mX11_makes (0, 0) 165 [some (am_r (some 91)), some (am_i v1), some (am_i v2), some (am_i v3), some (am_i v4), some (am_i v5), some (am_i v6), none, none] [] (am_K0, σ) := by
  refine am_r_goto (tg := 210) (show decode cX11_makes 165 = .ok (.goto 45, 3) by decide +kernel) (by decide) ?_
  exact k
theorem S_X11_makes_168 {G : am_G} {d : Nat} {Q : am_D → Prop} {σ : am_D} {v1 : Int} {v2 : Int} {v3 : Int} {v4 : Int} {v5 : Int} {v6 : Int} {v7 : Int} (hi1 : 0 ≤ v1) (hj2 : v1 < 3) (k : am_X (am_FV G (d + 1) Q) mX11_makes (0, 0) 182 [some (am_r (some 91)), some (am_i v1), some (am_i v2), some (am_i v3), some (am_i v4), some (am_i v5), some (am_i v6), some (am_i v7), some (am_i ((5000 * v1) + (σ.1 112 v1)))] [] (am_K0, σ)) : am_X (am_FV G (d + 1) Q) mX11_makes (0, 0) 168 [some (am_r (some 91)), some (am_i v1), some (am_i v2), some (am_i v3), some (am_i v4), some (am_i v5), some (am_i v6), some (am_i v7), none] [] (am_K0, σ) := by
  refine am_r_sipush (nx := 171) rfl (show decode cX11_makes 168 = .ok (.sipush 5000, 3) by decide +kernel) rfl ?_
  refine am_r_iload_n (nx := 172) rfl rfl (show decode cX11_makes 171 = .ok (.iload_n 1, 1) by decide +kernel) rfl ?_
  refine am_r_imul (nx := 173) (show decode cX11_makes 172 = .ok (.imul, 1) by decide +kernel) rfl ?_
  refine am_r_aload_n (nx := 174) rfl rfl (show decode cX11_makes 173 = .ok (.aload_n 0, 1) by decide +kernel) rfl ?_
  refine am_r_getF (nx := 177) 31 cw11 (by decide) rfl (Or.inl fl_X11_72) (ob_91) (fn_91_31) (show decode cX11_makes 174 = .ok (.getfield 72, 3) by decide +kernel) rfl ?_
  refine am_r_iload_n (nx := 178) rfl rfl (show decode cX11_makes 177 = .ok (.iload_n 1, 1) by decide +kernel) rfl ?_
  refine am_r_iald (nx := 179) (sh_112) (am_shle (sh_112)) hi1 hj2 (show decode cX11_makes 178 = .ok (.iaload, 1) by decide +kernel) rfl ?_
  refine am_r_iadd (nx := 180) (show decode cX11_makes 179 = .ok (.iadd, 1) by decide +kernel) rfl ?_
  refine am_r_istore (nx := 182) (by decide) rfl (show decode cX11_makes 180 = .ok (.istore 8, 2) by decide +kernel) rfl ?_
  exact k
theorem S_X11_makes_182 {G : am_G} {d : Nat} {Q : am_D → Prop} {σ : am_D} {v1 : Int} {v2 : Int} {v3 : Int} {v4 : Int} {v5 : Int} {v6 : Int} {v7 : Int} {v8 : Int} (hi1 : 0 ≤ v1) (hj2 : v1 < 3) (hi3 : 0 ≤ v1) (hj4 : v1 < 3) (k : am_X (am_FV G (d + 1) Q) mX11_makes (0, 0) 192 [some (am_r (some 91)), some (am_i v1), some (am_i v2), some (am_i v3), some (am_i v4), some (am_i v5), some (am_i v6), some (am_i v7), some (am_i v8)] [] (am_K0, (am_pI σ 112 v1 ((σ.1 112 v1) + 1)))) : am_X (am_FV G (d + 1) Q) mX11_makes (0, 0) 182 [some (am_r (some 91)), some (am_i v1), some (am_i v2), some (am_i v3), some (am_i v4), some (am_i v5), some (am_i v6), some (am_i v7), some (am_i v8)] [] (am_K0, σ) := by
  refine am_r_aload_n (nx := 183) rfl rfl (show decode cX11_makes 182 = .ok (.aload_n 0, 1) by decide +kernel) rfl ?_
  refine am_r_getF (nx := 186) 31 cw11 (by decide) rfl (Or.inl fl_X11_72) (ob_91) (fn_91_31) (show decode cX11_makes 183 = .ok (.getfield 72, 3) by decide +kernel) rfl ?_
  refine am_r_iload_n (nx := 187) rfl rfl (show decode cX11_makes 186 = .ok (.iload_n 1, 1) by decide +kernel) rfl ?_
  refine am_r_dup2 (nx := 188) rfl rfl (show decode cX11_makes 187 = .ok (.dup2, 1) by decide +kernel) rfl ?_
  refine am_r_iald (nx := 189) (sh_112) (am_shle (sh_112)) hi1 hj2 (show decode cX11_makes 188 = .ok (.iaload, 1) by decide +kernel) rfl ?_
  refine am_r_iconst (nx := 190) (show decode cX11_makes 189 = .ok (.iconst 1, 1) by decide +kernel) rfl ?_
  refine am_r_iadd (nx := 191) (show decode cX11_makes 190 = .ok (.iadd, 1) by decide +kernel) rfl ?_
  refine am_r_iast (nx := 192) (sh_112) (am_shle (sh_112)) hi3 hj4 (show decode cX11_makes 191 = .ok (.iastore, 1) by decide +kernel) rfl ?_
  exact k
theorem S_X11_makes_192 {G : am_G} {d : Nat} {Q : am_D → Prop} {σ : am_D} {v1 : Int} {v2 : Int} {v3 : Int} {v4 : Int} {v5 : Int} {v6 : Int} {v7 : Int} {v8 : Int} (hi1 : 0 ≤ v8) (hj2 : v8 < 15000) (k : am_X (am_FV G (d + 1) Q) mX11_makes (0, 0) 201 [some (am_r (some 91)), some (am_i v1), some (am_i v2), some (am_i v3), some (am_i v4), some (am_i v5), some (am_i v6), none, some (am_i v8)] [] (am_K0, (am_pI σ 110 v8 v7))) : am_X (am_FV G (d + 1) Q) mX11_makes (0, 0) 192 [some (am_r (some 91)), some (am_i v1), some (am_i v2), some (am_i v3), some (am_i v4), some (am_i v5), some (am_i v6), some (am_i v7), some (am_i v8)] [] (am_K0, σ) := by
  refine am_r_aload_n (nx := 193) rfl rfl (show decode cX11_makes 192 = .ok (.aload_n 0, 1) by decide +kernel) rfl ?_
  refine am_r_getF (nx := 196) 29 cw11 (by decide) rfl (Or.inl fl_X11_66) (ob_91) (fn_91_29) (show decode cX11_makes 193 = .ok (.getfield 66, 3) by decide +kernel) rfl ?_
  refine am_r_iload (nx := 198) rfl (show decode cX11_makes 196 = .ok (.iload 8, 2) by decide +kernel) rfl ?_
  refine am_r_iload (nx := 200) rfl (show decode cX11_makes 198 = .ok (.iload 7, 2) by decide +kernel) rfl ?_
  refine am_r_iast (nx := 201) (sh_110) (am_shle (sh_110)) hi1 hj2 (show decode cX11_makes 200 = .ok (.iastore, 1) by decide +kernel) rfl ?_
  exact am_x_fg [7] k
theorem S_X11_makes_201 {G : am_G} {d : Nat} {Q : am_D → Prop} {σ : am_D} {v1 : Int} {v2 : Int} {v3 : Int} {v4 : Int} {v5 : Int} {v6 : Int} {v8 : Int} {Q' : am_D → Prop} (hc : am_MV G d mX11_adds [am_r (some 91), am_i v8, am_i v8, am_i 1] σ Q') (k : ∀ σ' : am_D, Q' σ' → am_X (am_FV G (d + 1) Q) mX11_makes (0, 0) 210 [some (am_r (some 91)), some (am_i v1), some (am_i v2), some (am_i v3), some (am_i v4), some (am_i v5), some (am_i v6), none, none] [] (am_K0, σ')) : am_X (am_FV G (d + 1) Q) mX11_makes (0, 0) 201 [some (am_r (some 91)), some (am_i v1), some (am_i v2), some (am_i v3), some (am_i v4), some (am_i v5), some (am_i v6), none, some (am_i v8)] [] (am_K0, σ) := by
  refine am_r_aload_n (nx := 202) rfl rfl (show decode cX11_makes 201 = .ok (.aload_n 0, 1) by decide +kernel) rfl ?_
  refine am_r_iload (nx := 204) rfl (show decode cX11_makes 202 = .ok (.iload 8, 2) by decide +kernel) rfl ?_
  refine am_r_iload (nx := 206) rfl (show decode cX11_makes 204 = .ok (.iload 8, 2) by decide +kernel) rfl ?_
  refine am_r_iconst (nx := 207) (show decode cX11_makes 206 = .ok (.iconst 1, 1) by decide +kernel) rfl ?_
  refine am_r_callV (as := [am_i v8, am_i v8, am_i 1]) (st := []) hc mb_X11_adds mv_X11_adds (Or.inl ml_X11_351) (ob_91) (by omega) (r := (RX11, TX11, 63)) rfl rfl rfl rfl (Nat.le_of_ble_eq_true rfl) ⟨Nat.le_refl _, Nat.le_refl _⟩ ⟨Nat.le_refl _, Nat.le_refl _⟩ (show decode cX11_makes 207 = .ok (.invokevirtual 351, 3) by decide +kernel) ?_
  rintro _ _ ⟨σ', rfl, rfl, hq⟩ _
  exact am_x_fg [8] (k σ' hq)
theorem S_X11_makes_210 {G : am_G} {d : Nat} {Q : am_D → Prop} {σ : am_D} {v1 : Int} {v2 : Int} {v3 : Int} {v4 : Int} {v5 : Int} {v6 : Int}  (k : am_X (am_FV G (d + 1) Q) mX11_makes (0, 0) 39 [some (am_r (some 91)), some (am_i v1), some (am_i v2), some (am_i v3), some (am_i v4), some (am_i v5), some (am_i (v6 + 1)), none, none] [] (am_K0, σ)) : am_X (am_FV G (d + 1) Q) mX11_makes (0, 0) 210 [some (am_r (some 91)), some (am_i v1), some (am_i v2), some (am_i v3), some (am_i v4), some (am_i v5), some (am_i v6), none, none] [] (am_K0, σ) := by
  refine am_r_iinc (nx := 213) rfl rfl (show decode cX11_makes 210 = .ok (.iinc 6 1, 3) by decide +kernel) rfl ?_
  refine am_r_goto (tg := 39) (show decode cX11_makes 213 = .ok (.goto (-174), 3) by decide +kernel) (by decide) ?_
  exact k
theorem S_X11_makes_216 {G : am_G} {d : Nat} {Q : am_D → Prop} {σ : am_D}   (k : Q σ) : am_X (am_FV G (d + 1) Q) mX11_makes (0, 0) 216 [none, none, none, none, none, none, none, none, none] [] (am_K0, σ) := by
  exact am_r_vret rfl (show decode cX11_makes 216 = .ok (.return_, 1) by decide +kernel) ⟨_, rfl, rfl, k⟩
theorem S_X11_closes_0 {G : am_G} {d : Nat} {Q : Int → am_D → Prop} {σ : am_D} {v1 : Int} {v2 : Int} (hi1 : 0 ≤ v1) (hj2 : v1 < 3) (k : am_X (am_FI G (d + 1) Q) mX11_closes (0, 0) 15 [some (am_r (some 91)), some (am_i v1), some (am_i v2), some (am_i (((260 * v1) + (σ.1 114 v1)) - 1)), none, none] [] (am_K0, σ)) : am_X (am_FI G (d + 1) Q) mX11_closes (0, 0) 0 [some (am_r (some 91)), some (am_i v1), some (am_i v2), none, none, none] [] (am_K0, σ) := by
  refine am_r_sipush (nx := 3) rfl (show decode cX11_closes 0 = .ok (.sipush 260, 3) by decide +kernel) rfl ?_
  refine am_r_iload_n (nx := 4) rfl rfl (show decode cX11_closes 3 = .ok (.iload_n 1, 1) by decide +kernel) rfl ?_
  refine am_r_imul (nx := 5) (show decode cX11_closes 4 = .ok (.imul, 1) by decide +kernel) rfl ?_
  refine am_r_aload_n (nx := 6) rfl rfl (show decode cX11_closes 5 = .ok (.aload_n 0, 1) by decide +kernel) rfl ?_
  refine am_r_getF (nx := 9) 33 cw11 (by decide) rfl (Or.inl fl_X11_78) (ob_91) (fn_91_33) (show decode cX11_closes 6 = .ok (.getfield 78, 3) by decide +kernel) rfl ?_
  refine am_r_iload_n (nx := 10) rfl rfl (show decode cX11_closes 9 = .ok (.iload_n 1, 1) by decide +kernel) rfl ?_
  refine am_r_iald (nx := 11) (sh_114) (am_shle (sh_114)) hi1 hj2 (show decode cX11_closes 10 = .ok (.iaload, 1) by decide +kernel) rfl ?_
  refine am_r_iadd (nx := 12) (show decode cX11_closes 11 = .ok (.iadd, 1) by decide +kernel) rfl ?_
  refine am_r_iconst (nx := 13) (show decode cX11_closes 12 = .ok (.iconst 1, 1) by decide +kernel) rfl ?_
  refine am_r_isub (nx := 14) (show decode cX11_closes 13 = .ok (.isub, 1) by decide +kernel) rfl ?_
  refine am_r_istore_n (nx := 15) rfl (by decide) rfl (show decode cX11_closes 14 = .ok (.istore_n 3, 1) by decide +kernel) rfl ?_
  exact k
theorem S_X11_closes_15 {G : am_G} {d : Nat} {Q : Int → am_D → Prop} {σ : am_D} {v1 : Int} {v2 : Int} {v3 : Int} {Q' : Int → am_D → Prop} (hi1 : 0 ≤ v3) (hj2 : v3 < 780) (hi3 : 0 ≤ v1) (hj4 : v1 < 3) (hi5 : 0 ≤ v3) (hj6 : v3 < 780) (hc : am_MI G d mX11_closeAt [am_i v2, am_i (σ.1 120 v3), am_i (σ.1 113 v1), am_i (σ.1 119 v3)] σ Q') (k : ∀ (x : Int) (σ' : am_D), Q' x σ' → am_X (am_FI G (d + 1) Q) mX11_closes (0, 0) 39 [some (am_r (some 91)), some (am_i v1), some (am_i v2), none, some (am_i x), none] [] (am_K0, σ')) : am_X (am_FI G (d + 1) Q) mX11_closes (0, 0) 15 [some (am_r (some 91)), some (am_i v1), some (am_i v2), some (am_i v3), none, none] [] (am_K0, σ) := by
  refine am_r_iload_n (nx := 16) rfl rfl (show decode cX11_closes 15 = .ok (.iload_n 2, 1) by decide +kernel) rfl ?_
  refine am_r_aload_n (nx := 17) rfl rfl (show decode cX11_closes 16 = .ok (.aload_n 0, 1) by decide +kernel) rfl ?_
  refine am_r_getF (nx := 20) 39 cw11 (by decide) rfl (Or.inl fl_X11_96) (ob_91) (fn_91_39) (show decode cX11_closes 17 = .ok (.getfield 96, 3) by decide +kernel) rfl ?_
  refine am_r_iload_n (nx := 21) rfl rfl (show decode cX11_closes 20 = .ok (.iload_n 3, 1) by decide +kernel) rfl ?_
  refine am_r_iald (nx := 22) (sh_120) (am_shle (sh_120)) hi1 hj2 (show decode cX11_closes 21 = .ok (.iaload, 1) by decide +kernel) rfl ?_
  refine am_r_aload_n (nx := 23) rfl rfl (show decode cX11_closes 22 = .ok (.aload_n 0, 1) by decide +kernel) rfl ?_
  refine am_r_getF (nx := 26) 32 cw11 (by decide) rfl (Or.inl fl_X11_75) (ob_91) (fn_91_32) (show decode cX11_closes 23 = .ok (.getfield 75, 3) by decide +kernel) rfl ?_
  refine am_r_iload_n (nx := 27) rfl rfl (show decode cX11_closes 26 = .ok (.iload_n 1, 1) by decide +kernel) rfl ?_
  refine am_r_iald (nx := 28) (sh_113) (am_shle (sh_113)) hi3 hj4 (show decode cX11_closes 27 = .ok (.iaload, 1) by decide +kernel) rfl ?_
  refine am_r_aload_n (nx := 29) rfl rfl (show decode cX11_closes 28 = .ok (.aload_n 0, 1) by decide +kernel) rfl ?_
  refine am_r_getF (nx := 32) 38 cw11 (by decide) rfl (Or.inl fl_X11_93) (ob_91) (fn_91_38) (show decode cX11_closes 29 = .ok (.getfield 93, 3) by decide +kernel) rfl ?_
  refine am_r_iload_n (nx := 33) rfl rfl (show decode cX11_closes 32 = .ok (.iload_n 3, 1) by decide +kernel) rfl ?_
  refine am_r_iald (nx := 34) (sh_119) (am_shle (sh_119)) hi5 hj6 (show decode cX11_closes 33 = .ok (.iaload, 1) by decide +kernel) rfl ?_
  refine am_r_callS (as := [am_i v2, am_i (σ.1 120 v3), am_i (σ.1 113 v1), am_i (σ.1 119 v3)]) (st := []) hc mb_X11_closeAt mv_X11_closeAt (Or.inl ml_X11_253) rfl rfl (Nat.le_of_ble_eq_true rfl) ⟨Nat.le_refl _, Nat.le_refl _⟩ ⟨Nat.le_refl _, Nat.le_refl _⟩ (show decode cX11_closes 34 = .ok (.invokestatic 253, 3) by decide +kernel) ?_
  rintro _ _ ⟨x, σ', rfl, rfl, hq⟩ _
  refine am_r_istore (nx := 39) (by decide) rfl (show decode cX11_closes 37 = .ok (.istore 4, 2) by decide +kernel) rfl ?_
  exact am_x_fg [3] (k x σ' hq)
theorem S_X11_closes_39 {G : am_G} {d : Nat} {Q : Int → am_D → Prop} {σ : am_D} {v1 : Int} {v2 : Int} {v4 : Int} (hi1 : 0 ≤ v4) (hj2 : v4 < 648) (hr3 : -2147483648 ≤ (σ.1 100 v4) ∧ (σ.1 100 v4) ≤ 2147483647) (k1 : ¬ (σ.1 100 v4) = (-1) → am_X (am_FI G (d + 1) Q) mX11_closes (0, 0) 52 [some (am_r (some 91)), some (am_i v1), some (am_i v2), none, some (am_i v4), none] [] (am_K0, σ)) (k2 : ¬ (¬ (σ.1 100 v4) = (-1)) → am_X (am_FI G (d + 1) Q) mX11_closes (0, 0) 50 [none, none, none, none, none, none] [] (am_K0, σ)) : am_X (am_FI G (d + 1) Q) mX11_closes (0, 0) 39 [some (am_r (some 91)), some (am_i v1), some (am_i v2), none, some (am_i v4), none] [] (am_K0, σ) := by
  refine am_r_aload_n (nx := 40) rfl rfl (show decode cX11_closes 39 = .ok (.aload_n 0, 1) by decide +kernel) rfl ?_
  refine am_r_getF (nx := 43) 14 cw11 (by decide) rfl (Or.inl fl_X11_36) (ob_91) (fn_91_14) (show decode cX11_closes 40 = .ok (.getfield 36, 3) by decide +kernel) rfl ?_
  refine am_r_iload (nx := 45) rfl (show decode cX11_closes 43 = .ok (.iload 4, 2) by decide +kernel) rfl ?_
  refine am_r_iald (nx := 46) (sh_100) (am_shle (sh_100)) hi1 hj2 (show decode cX11_closes 45 = .ok (.iaload, 1) by decide +kernel) rfl ?_
  refine am_r_iconst (nx := 47) (show decode cX11_closes 46 = .ok (.iconst (-1), 1) by decide +kernel) rfl ?_
  refine am_r_icmp_ne (tg := 52) (nx := 50) (show decode cX11_closes 47 = .ok (.if_icmp .ne 5, 3) by decide +kernel) (by decide) rfl hr3 (by omega) ?_ ?_
  · exact fun q => k1 q
  · exact fun q => am_x_fg [0, 1, 2, 4] (k2 q)
theorem S_X11_closes_50 {G : am_G} {d : Nat} {Q : Int → am_D → Prop} {σ : am_D}   (k : Q 0 σ) : am_X (am_FI G (d + 1) Q) mX11_closes (0, 0) 50 [none, none, none, none, none, none] [] (am_K0, σ) := by
  refine am_r_iconst (nx := 51) (show decode cX11_closes 50 = .ok (.iconst 0, 1) by decide +kernel) rfl ?_
  exact am_r_iret rfl rfl (show decode cX11_closes 51 = .ok (.ireturn, 1) by decide +kernel) ⟨_, _, rfl, rfl, k⟩
theorem S_X11_closes_52 {G : am_G} {d : Nat} {Q : Int → am_D → Prop} {σ : am_D} {v1 : Int} {v2 : Int} {v4 : Int}  (k : am_X (am_FI G (d + 1) Q) mX11_closes (0, 0) 55 [some (am_r (some 91)), some (am_i v1), some (am_i v2), none, some (am_i v4), some (am_i 0)] [] (am_K0, σ)) : am_X (am_FI G (d + 1) Q) mX11_closes (0, 0) 52 [some (am_r (some 91)), some (am_i v1), some (am_i v2), none, some (am_i v4), none] [] (am_K0, σ) := by
  refine am_r_iconst (nx := 53) (show decode cX11_closes 52 = .ok (.iconst 0, 1) by decide +kernel) rfl ?_
  refine am_r_istore (nx := 55) (by decide) rfl (show decode cX11_closes 53 = .ok (.istore 5, 2) by decide +kernel) rfl ?_
  exact k
theorem S_X11_closes_55 {G : am_G} {d : Nat} {Q : Int → am_D → Prop} {σ : am_D} {v1 : Int} {v2 : Int} {v4 : Int} {v5 : Int} (hi1 : 0 ≤ v2) (hj2 : v2 < 6) (hr3 : -2147483648 ≤ v5 ∧ v5 ≤ 2147483647) (hr4 : -2147483648 ≤ (σ.1 95 v2) ∧ (σ.1 95 v2) ≤ 2147483647) (k1 : (σ.1 95 v2) ≤ v5 → am_X (am_FI G (d + 1) Q) mX11_closes (0, 0) 120 [some (am_r (some 91)), some (am_i v1), some (am_i v2), none, some (am_i v4), none] [] (am_K0, σ)) (k2 : ¬ ((σ.1 95 v2) ≤ v5) → am_X (am_FI G (d + 1) Q) mX11_closes (0, 0) 66 [some (am_r (some 91)), some (am_i v1), some (am_i v2), none, some (am_i v4), some (am_i v5)] [] (am_K0, σ)) : am_X (am_FI G (d + 1) Q) mX11_closes (0, 0) 55 [some (am_r (some 91)), some (am_i v1), some (am_i v2), none, some (am_i v4), some (am_i v5)] [] (am_K0, σ) := by
  refine am_r_iload (nx := 57) rfl (show decode cX11_closes 55 = .ok (.iload 5, 2) by decide +kernel) rfl ?_
  refine am_r_aload_n (nx := 58) rfl rfl (show decode cX11_closes 57 = .ok (.aload_n 0, 1) by decide +kernel) rfl ?_
  refine am_r_getF (nx := 61) 9 cw11 (by decide) rfl (Or.inl fl_X11_21) (ob_91) (fn_91_9) (show decode cX11_closes 58 = .ok (.getfield 21, 3) by decide +kernel) rfl ?_
  refine am_r_iload_n (nx := 62) rfl rfl (show decode cX11_closes 61 = .ok (.iload_n 2, 1) by decide +kernel) rfl ?_
  refine am_r_iald (nx := 63) (sh_95) (am_shle (sh_95)) hi1 hj2 (show decode cX11_closes 62 = .ok (.iaload, 1) by decide +kernel) rfl ?_
  refine am_r_icmp_ge (tg := 120) (nx := 66) (show decode cX11_closes 63 = .ok (.if_icmp .ge 57, 3) by decide +kernel) (by decide) rfl hr3 hr4 ?_ ?_
  · exact fun q => am_x_fg [5] (k1 q)
  · exact fun q => k2 q
theorem S_X11_closes_66 {G : am_G} {d : Nat} {Q : Int → am_D → Prop} {σ : am_D} {v1 : Int} {v2 : Int} {v4 : Int} {v5 : Int} {Q' : am_D → Prop} (hi1 : 0 ≤ v4) (hj2 : v4 < 648) (hc : am_MV G d mX11_makes [am_r (some 91), am_i v1, am_i v2, am_i (σ.1 101 v4), am_i v5] σ Q') (k : ∀ σ' : am_D, Q' σ' → am_X (am_FI G (d + 1) Q) mX11_closes (0, 0) 81 [some (am_r (some 91)), some (am_i v1), some (am_i v2), none, some (am_i v4), some (am_i v5)] [] (am_K0, σ')) : am_X (am_FI G (d + 1) Q) mX11_closes (0, 0) 66 [some (am_r (some 91)), some (am_i v1), some (am_i v2), none, some (am_i v4), some (am_i v5)] [] (am_K0, σ) := by
  refine am_r_aload_n (nx := 67) rfl rfl (show decode cX11_closes 66 = .ok (.aload_n 0, 1) by decide +kernel) rfl ?_
  refine am_r_iload_n (nx := 68) rfl rfl (show decode cX11_closes 67 = .ok (.iload_n 1, 1) by decide +kernel) rfl ?_
  refine am_r_iload_n (nx := 69) rfl rfl (show decode cX11_closes 68 = .ok (.iload_n 2, 1) by decide +kernel) rfl ?_
  refine am_r_aload_n (nx := 70) rfl rfl (show decode cX11_closes 69 = .ok (.aload_n 0, 1) by decide +kernel) rfl ?_
  refine am_r_getF (nx := 73) 15 cw11 (by decide) rfl (Or.inl fl_X11_39) (ob_91) (fn_91_15) (show decode cX11_closes 70 = .ok (.getfield 39, 3) by decide +kernel) rfl ?_
  refine am_r_iload (nx := 75) rfl (show decode cX11_closes 73 = .ok (.iload 4, 2) by decide +kernel) rfl ?_
  refine am_r_iald (nx := 76) (sh_101) (am_shle (sh_101)) hi1 hj2 (show decode cX11_closes 75 = .ok (.iaload, 1) by decide +kernel) rfl ?_
  refine am_r_iload (nx := 78) rfl (show decode cX11_closes 76 = .ok (.iload 5, 2) by decide +kernel) rfl ?_
  refine am_r_callV (as := [am_i v1, am_i v2, am_i (σ.1 101 v4), am_i v5]) (st := []) hc mb_X11_makes mv_X11_makes (Or.inl ml_X11_355) (ob_91) (by omega) (r := (RX11, TX11, 63)) rfl rfl rfl rfl (Nat.le_of_ble_eq_true rfl) ⟨Nat.le_refl _, Nat.le_refl _⟩ ⟨Nat.le_refl _, Nat.le_refl _⟩ (show decode cX11_closes 78 = .ok (.invokevirtual 355, 3) by decide +kernel) ?_
  rintro _ _ ⟨σ', rfl, rfl, hq⟩ _
  exact (k σ' hq)
theorem S_X11_closes_81 {G : am_G} {d : Nat} {Q : Int → am_D → Prop} {σ : am_D} {v1 : Int} {v2 : Int} {v4 : Int} {v5 : Int} (hi1 : 0 ≤ v5) (hj2 : v5 < 3) (k : am_X (am_FI G (d + 1) Q) mX11_closes (0, 0) 92 [some (am_r (some 91)), some (am_i v1), some (am_i v2), none, some (am_i v4), some (am_i v5)] [] (am_K0, (am_pI σ 124 v5 (σ.1 91 43)))) : am_X (am_FI G (d + 1) Q) mX11_closes (0, 0) 81 [some (am_r (some 91)), some (am_i v1), some (am_i v2), none, some (am_i v4), some (am_i v5)] [] (am_K0, σ) := by
  refine am_r_aload_n (nx := 82) rfl rfl (show decode cX11_closes 81 = .ok (.aload_n 0, 1) by decide +kernel) rfl ?_
  refine am_r_getF (nx := 85) 46 cw11 (by decide) rfl (Or.inl fl_X11_108) (ob_91) (fn_91_46) (show decode cX11_closes 82 = .ok (.getfield 108, 3) by decide +kernel) rfl ?_
  refine am_r_iload (nx := 87) rfl (show decode cX11_closes 85 = .ok (.iload 5, 2) by decide +kernel) rfl ?_
  refine am_r_aload_n (nx := 88) rfl rfl (show decode cX11_closes 87 = .ok (.aload_n 0, 1) by decide +kernel) rfl ?_
  refine am_r_getI (nx := 91) 43 cw11 (by decide) rfl (Or.inl fl_X11_345) (ob_91) (show decode cX11_closes 88 = .ok (.getfield 345, 3) by decide +kernel) rfl ?_
  refine am_r_iast (nx := 92) (sh_124) (am_shle (sh_124)) hi1 hj2 (show decode cX11_closes 91 = .ok (.iastore, 1) by decide +kernel) rfl ?_
  exact k
theorem S_X11_closes_92 {G : am_G} {d : Nat} {Q : Int → am_D → Prop} {σ : am_D} {v1 : Int} {v2 : Int} {v4 : Int} {v5 : Int} (hi1 : 0 ≤ v5) (hj2 : v5 < 3) (k : am_X (am_FI G (d + 1) Q) mX11_closes (0, 0) 103 [some (am_r (some 91)), some (am_i v1), some (am_i v2), none, some (am_i v4), some (am_i v5)] [] (am_K0, (am_pI σ 125 v5 (σ.1 91 44)))) : am_X (am_FI G (d + 1) Q) mX11_closes (0, 0) 92 [some (am_r (some 91)), some (am_i v1), some (am_i v2), none, some (am_i v4), some (am_i v5)] [] (am_K0, σ) := by
  refine am_r_aload_n (nx := 93) rfl rfl (show decode cX11_closes 92 = .ok (.aload_n 0, 1) by decide +kernel) rfl ?_
  refine am_r_getF (nx := 96) 47 cw11 (by decide) rfl (Or.inl fl_X11_111) (ob_91) (fn_91_47) (show decode cX11_closes 93 = .ok (.getfield 111, 3) by decide +kernel) rfl ?_
  refine am_r_iload (nx := 98) rfl (show decode cX11_closes 96 = .ok (.iload 5, 2) by decide +kernel) rfl ?_
  refine am_r_aload_n (nx := 99) rfl rfl (show decode cX11_closes 98 = .ok (.aload_n 0, 1) by decide +kernel) rfl ?_
  refine am_r_getI (nx := 102) 44 cw11 (by decide) rfl (Or.inl fl_X11_348) (ob_91) (show decode cX11_closes 99 = .ok (.getfield 348, 3) by decide +kernel) rfl ?_
  refine am_r_iast (nx := 103) (sh_125) (am_shle (sh_125)) hi1 hj2 (show decode cX11_closes 102 = .ok (.iastore, 1) by decide +kernel) rfl ?_
  exact k
theorem S_X11_closes_103 {G : am_G} {d : Nat} {Q : Int → am_D → Prop} {σ : am_D} {v1 : Int} {v2 : Int} {v4 : Int} {v5 : Int} (hi1 : 0 ≤ v5) (hj2 : v5 < 3) (k : am_X (am_FI G (d + 1) Q) mX11_closes (0, 0) 114 [some (am_r (some 91)), some (am_i v1), some (am_i v2), none, some (am_i v4), some (am_i v5)] [] (am_K0, (am_pI σ 126 v5 (σ.1 91 45)))) : am_X (am_FI G (d + 1) Q) mX11_closes (0, 0) 103 [some (am_r (some 91)), some (am_i v1), some (am_i v2), none, some (am_i v4), some (am_i v5)] [] (am_K0, σ) := by
  refine am_r_aload_n (nx := 104) rfl rfl (show decode cX11_closes 103 = .ok (.aload_n 0, 1) by decide +kernel) rfl ?_
  refine am_r_getF (nx := 107) 48 cw11 (by decide) rfl (Or.inl fl_X11_114) (ob_91) (fn_91_48) (show decode cX11_closes 104 = .ok (.getfield 114, 3) by decide +kernel) rfl ?_
  refine am_r_iload (nx := 109) rfl (show decode cX11_closes 107 = .ok (.iload 5, 2) by decide +kernel) rfl ?_
  refine am_r_aload_n (nx := 110) rfl rfl (show decode cX11_closes 109 = .ok (.aload_n 0, 1) by decide +kernel) rfl ?_
  refine am_r_getI (nx := 113) 45 cw11 (by decide) rfl (Or.inl fl_X11_342) (ob_91) (show decode cX11_closes 110 = .ok (.getfield 342, 3) by decide +kernel) rfl ?_
  refine am_r_iast (nx := 114) (sh_126) (am_shle (sh_126)) hi1 hj2 (show decode cX11_closes 113 = .ok (.iastore, 1) by decide +kernel) rfl ?_
  exact k
theorem S_X11_closes_114 {G : am_G} {d : Nat} {Q : Int → am_D → Prop} {σ : am_D} {v1 : Int} {v2 : Int} {v4 : Int} {v5 : Int}  (k : am_X (am_FI G (d + 1) Q) mX11_closes (0, 0) 55 [some (am_r (some 91)), some (am_i v1), some (am_i v2), none, some (am_i v4), some (am_i (v5 + 1))] [] (am_K0, σ)) : am_X (am_FI G (d + 1) Q) mX11_closes (0, 0) 114 [some (am_r (some 91)), some (am_i v1), some (am_i v2), none, some (am_i v4), some (am_i v5)] [] (am_K0, σ) := by
  refine am_r_iinc (nx := 117) rfl rfl (show decode cX11_closes 114 = .ok (.iinc 5 1, 3) by decide +kernel) rfl ?_
  refine am_r_goto (tg := 55) (show decode cX11_closes 117 = .ok (.goto (-62), 3) by decide +kernel) (by decide) ?_
  exact k
theorem S_X11_closes_120 {G : am_G} {d : Nat} {Q : Int → am_D → Prop} {σ : am_D} {v1 : Int} {v2 : Int} {v4 : Int}  (k : am_X (am_FI G (d + 1) Q) mX11_closes (0, 0) 123 [some (am_r (some 91)), some (am_i v1), some (am_i v2), none, some (am_i v4), some (am_i 0)] [] (am_K0, σ)) : am_X (am_FI G (d + 1) Q) mX11_closes (0, 0) 120 [some (am_r (some 91)), some (am_i v1), some (am_i v2), none, some (am_i v4), none] [] (am_K0, σ) := by
  refine am_r_iconst (nx := 121) (show decode cX11_closes 120 = .ok (.iconst 0, 1) by decide +kernel) rfl ?_
  refine am_r_istore (nx := 123) (by decide) rfl (show decode cX11_closes 121 = .ok (.istore 5, 2) by decide +kernel) rfl ?_
  exact k
theorem S_X11_closes_123 {G : am_G} {d : Nat} {Q : Int → am_D → Prop} {σ : am_D} {v1 : Int} {v2 : Int} {v4 : Int} {v5 : Int} (hi1 : 0 ≤ v2) (hj2 : v2 < 6) (hr3 : -2147483648 ≤ v5 ∧ v5 ≤ 2147483647) (hr4 : -2147483648 ≤ (σ.1 95 v2) ∧ (σ.1 95 v2) ≤ 2147483647) (k1 : (σ.1 95 v2) ≤ v5 → am_X (am_FI G (d + 1) Q) mX11_closes (0, 0) 194 [some (am_r (some 91)), some (am_i v1), none, none, some (am_i v4), none] [] (am_K0, σ)) (k2 : ¬ ((σ.1 95 v2) ≤ v5) → am_X (am_FI G (d + 1) Q) mX11_closes (0, 0) 134 [some (am_r (some 91)), some (am_i v1), some (am_i v2), none, some (am_i v4), some (am_i v5)] [] (am_K0, σ)) : am_X (am_FI G (d + 1) Q) mX11_closes (0, 0) 123 [some (am_r (some 91)), some (am_i v1), some (am_i v2), none, some (am_i v4), some (am_i v5)] [] (am_K0, σ) := by
  refine am_r_iload (nx := 125) rfl (show decode cX11_closes 123 = .ok (.iload 5, 2) by decide +kernel) rfl ?_
  refine am_r_aload_n (nx := 126) rfl rfl (show decode cX11_closes 125 = .ok (.aload_n 0, 1) by decide +kernel) rfl ?_
  refine am_r_getF (nx := 129) 9 cw11 (by decide) rfl (Or.inl fl_X11_21) (ob_91) (fn_91_9) (show decode cX11_closes 126 = .ok (.getfield 21, 3) by decide +kernel) rfl ?_
  refine am_r_iload_n (nx := 130) rfl rfl (show decode cX11_closes 129 = .ok (.iload_n 2, 1) by decide +kernel) rfl ?_
  refine am_r_iald (nx := 131) (sh_95) (am_shle (sh_95)) hi1 hj2 (show decode cX11_closes 130 = .ok (.iaload, 1) by decide +kernel) rfl ?_
  refine am_r_icmp_ge (tg := 194) (nx := 134) (show decode cX11_closes 131 = .ok (.if_icmp .ge 63, 3) by decide +kernel) (by decide) rfl hr3 hr4 ?_ ?_
  · exact fun q => am_x_fg [2, 5] (k1 q)
  · exact fun q => k2 q
theorem S_X11_closes_134 {G : am_G} {d : Nat} {Q : Int → am_D → Prop} {σ : am_D} {v1 : Int} {v2 : Int} {v4 : Int} {v5 : Int} (hi1 : 0 ≤ v5) (hj2 : v5 < 3) (hi3 : 0 ≤ ((3 * v1) + v5)) (hj4 : ((3 * v1) + v5) < 9) (k : am_X (am_FI G (d + 1) Q) mX11_closes (0, 0) 152 [some (am_r (some 91)), some (am_i v1), some (am_i v2), none, some (am_i v4), some (am_i v5)] [] (am_K0, (am_pI σ 116 ((3 * v1) + v5) (σ.1 124 v5)))) : am_X (am_FI G (d + 1) Q) mX11_closes (0, 0) 134 [some (am_r (some 91)), some (am_i v1), some (am_i v2), none, some (am_i v4), some (am_i v5)] [] (am_K0, σ) := by
  refine am_r_aload_n (nx := 135) rfl rfl (show decode cX11_closes 134 = .ok (.aload_n 0, 1) by decide +kernel) rfl ?_
  refine am_r_getF (nx := 138) 35 cw11 (by decide) rfl (Or.inl fl_X11_84) (ob_91) (fn_91_35) (show decode cX11_closes 135 = .ok (.getfield 84, 3) by decide +kernel) rfl ?_
  refine am_r_iconst (nx := 139) (show decode cX11_closes 138 = .ok (.iconst 3, 1) by decide +kernel) rfl ?_
  refine am_r_iload_n (nx := 140) rfl rfl (show decode cX11_closes 139 = .ok (.iload_n 1, 1) by decide +kernel) rfl ?_
  refine am_r_imul (nx := 141) (show decode cX11_closes 140 = .ok (.imul, 1) by decide +kernel) rfl ?_
  refine am_r_iload (nx := 143) rfl (show decode cX11_closes 141 = .ok (.iload 5, 2) by decide +kernel) rfl ?_
  refine am_r_iadd (nx := 144) (show decode cX11_closes 143 = .ok (.iadd, 1) by decide +kernel) rfl ?_
  refine am_r_aload_n (nx := 145) rfl rfl (show decode cX11_closes 144 = .ok (.aload_n 0, 1) by decide +kernel) rfl ?_
  refine am_r_getF (nx := 148) 46 cw11 (by decide) rfl (Or.inl fl_X11_108) (ob_91) (fn_91_46) (show decode cX11_closes 145 = .ok (.getfield 108, 3) by decide +kernel) rfl ?_
  refine am_r_iload (nx := 150) rfl (show decode cX11_closes 148 = .ok (.iload 5, 2) by decide +kernel) rfl ?_
  refine am_r_iald (nx := 151) (sh_124) (am_shle (sh_124)) hi1 hj2 (show decode cX11_closes 150 = .ok (.iaload, 1) by decide +kernel) rfl ?_
  refine am_r_iast (nx := 152) (sh_116) (am_shle (sh_116)) hi3 hj4 (show decode cX11_closes 151 = .ok (.iastore, 1) by decide +kernel) rfl ?_
  exact k
theorem S_X11_closes_152 {G : am_G} {d : Nat} {Q : Int → am_D → Prop} {σ : am_D} {v1 : Int} {v2 : Int} {v4 : Int} {v5 : Int} (hi1 : 0 ≤ v5) (hj2 : v5 < 3) (hi3 : 0 ≤ ((3 * v1) + v5)) (hj4 : ((3 * v1) + v5) < 9) (k : am_X (am_FI G (d + 1) Q) mX11_closes (0, 0) 170 [some (am_r (some 91)), some (am_i v1), some (am_i v2), none, some (am_i v4), some (am_i v5)] [] (am_K0, (am_pI σ 117 ((3 * v1) + v5) (σ.1 125 v5)))) : am_X (am_FI G (d + 1) Q) mX11_closes (0, 0) 152 [some (am_r (some 91)), some (am_i v1), some (am_i v2), none, some (am_i v4), some (am_i v5)] [] (am_K0, σ) := by
  refine am_r_aload_n (nx := 153) rfl rfl (show decode cX11_closes 152 = .ok (.aload_n 0, 1) by decide +kernel) rfl ?_
  refine am_r_getF (nx := 156) 36 cw11 (by decide) rfl (Or.inl fl_X11_87) (ob_91) (fn_91_36) (show decode cX11_closes 153 = .ok (.getfield 87, 3) by decide +kernel) rfl ?_
  refine am_r_iconst (nx := 157) (show decode cX11_closes 156 = .ok (.iconst 3, 1) by decide +kernel) rfl ?_
  refine am_r_iload_n (nx := 158) rfl rfl (show decode cX11_closes 157 = .ok (.iload_n 1, 1) by decide +kernel) rfl ?_
  refine am_r_imul (nx := 159) (show decode cX11_closes 158 = .ok (.imul, 1) by decide +kernel) rfl ?_
  refine am_r_iload (nx := 161) rfl (show decode cX11_closes 159 = .ok (.iload 5, 2) by decide +kernel) rfl ?_
  refine am_r_iadd (nx := 162) (show decode cX11_closes 161 = .ok (.iadd, 1) by decide +kernel) rfl ?_
  refine am_r_aload_n (nx := 163) rfl rfl (show decode cX11_closes 162 = .ok (.aload_n 0, 1) by decide +kernel) rfl ?_
  refine am_r_getF (nx := 166) 47 cw11 (by decide) rfl (Or.inl fl_X11_111) (ob_91) (fn_91_47) (show decode cX11_closes 163 = .ok (.getfield 111, 3) by decide +kernel) rfl ?_
  refine am_r_iload (nx := 168) rfl (show decode cX11_closes 166 = .ok (.iload 5, 2) by decide +kernel) rfl ?_
  refine am_r_iald (nx := 169) (sh_125) (am_shle (sh_125)) hi1 hj2 (show decode cX11_closes 168 = .ok (.iaload, 1) by decide +kernel) rfl ?_
  refine am_r_iast (nx := 170) (sh_117) (am_shle (sh_117)) hi3 hj4 (show decode cX11_closes 169 = .ok (.iastore, 1) by decide +kernel) rfl ?_
  exact k
theorem S_X11_closes_170 {G : am_G} {d : Nat} {Q : Int → am_D → Prop} {σ : am_D} {v1 : Int} {v2 : Int} {v4 : Int} {v5 : Int} (hi1 : 0 ≤ v5) (hj2 : v5 < 3) (hi3 : 0 ≤ ((3 * v1) + v5)) (hj4 : ((3 * v1) + v5) < 9) (k : am_X (am_FI G (d + 1) Q) mX11_closes (0, 0) 188 [some (am_r (some 91)), some (am_i v1), some (am_i v2), none, some (am_i v4), some (am_i v5)] [] (am_K0, (am_pI σ 118 ((3 * v1) + v5) (σ.1 126 v5)))) : am_X (am_FI G (d + 1) Q) mX11_closes (0, 0) 170 [some (am_r (some 91)), some (am_i v1), some (am_i v2), none, some (am_i v4), some (am_i v5)] [] (am_K0, σ) := by
  refine am_r_aload_n (nx := 171) rfl rfl (show decode cX11_closes 170 = .ok (.aload_n 0, 1) by decide +kernel) rfl ?_
  refine am_r_getF (nx := 174) 37 cw11 (by decide) rfl (Or.inl fl_X11_90) (ob_91) (fn_91_37) (show decode cX11_closes 171 = .ok (.getfield 90, 3) by decide +kernel) rfl ?_
  refine am_r_iconst (nx := 175) (show decode cX11_closes 174 = .ok (.iconst 3, 1) by decide +kernel) rfl ?_
  refine am_r_iload_n (nx := 176) rfl rfl (show decode cX11_closes 175 = .ok (.iload_n 1, 1) by decide +kernel) rfl ?_
  refine am_r_imul (nx := 177) (show decode cX11_closes 176 = .ok (.imul, 1) by decide +kernel) rfl ?_
  refine am_r_iload (nx := 179) rfl (show decode cX11_closes 177 = .ok (.iload 5, 2) by decide +kernel) rfl ?_
  refine am_r_iadd (nx := 180) (show decode cX11_closes 179 = .ok (.iadd, 1) by decide +kernel) rfl ?_
  refine am_r_aload_n (nx := 181) rfl rfl (show decode cX11_closes 180 = .ok (.aload_n 0, 1) by decide +kernel) rfl ?_
  refine am_r_getF (nx := 184) 48 cw11 (by decide) rfl (Or.inl fl_X11_114) (ob_91) (fn_91_48) (show decode cX11_closes 181 = .ok (.getfield 114, 3) by decide +kernel) rfl ?_
  refine am_r_iload (nx := 186) rfl (show decode cX11_closes 184 = .ok (.iload 5, 2) by decide +kernel) rfl ?_
  refine am_r_iald (nx := 187) (sh_126) (am_shle (sh_126)) hi1 hj2 (show decode cX11_closes 186 = .ok (.iaload, 1) by decide +kernel) rfl ?_
  refine am_r_iast (nx := 188) (sh_118) (am_shle (sh_118)) hi3 hj4 (show decode cX11_closes 187 = .ok (.iastore, 1) by decide +kernel) rfl ?_
  exact k
theorem S_X11_closes_188 {G : am_G} {d : Nat} {Q : Int → am_D → Prop} {σ : am_D} {v1 : Int} {v2 : Int} {v4 : Int} {v5 : Int}  (k : am_X (am_FI G (d + 1) Q) mX11_closes (0, 0) 123 [some (am_r (some 91)), some (am_i v1), some (am_i v2), none, some (am_i v4), some (am_i (v5 + 1))] [] (am_K0, σ)) : am_X (am_FI G (d + 1) Q) mX11_closes (0, 0) 188 [some (am_r (some 91)), some (am_i v1), some (am_i v2), none, some (am_i v4), some (am_i v5)] [] (am_K0, σ) := by
  refine am_r_iinc (nx := 191) rfl rfl (show decode cX11_closes 188 = .ok (.iinc 5 1, 3) by decide +kernel) rfl ?_
  refine am_r_goto (tg := 123) (show decode cX11_closes 191 = .ok (.goto (-68), 3) by decide +kernel) (by decide) ?_
  exact k
theorem S_X11_closes_194 {G : am_G} {d : Nat} {Q : Int → am_D → Prop} {σ : am_D} {v1 : Int} {v4 : Int} (hi1 : 0 ≤ v1) (hj2 : v1 < 3) (hi3 : 0 ≤ v1) (hj4 : v1 < 3) (k : am_X (am_FI G (d + 1) Q) mX11_closes (0, 0) 204 [some (am_r (some 91)), some (am_i v1), none, none, some (am_i v4), none] [] (am_K0, (am_pI σ 114 v1 ((σ.1 114 v1) - 1)))) : am_X (am_FI G (d + 1) Q) mX11_closes (0, 0) 194 [some (am_r (some 91)), some (am_i v1), none, none, some (am_i v4), none] [] (am_K0, σ) := by
  refine am_r_aload_n (nx := 195) rfl rfl (show decode cX11_closes 194 = .ok (.aload_n 0, 1) by decide +kernel) rfl ?_
  refine am_r_getF (nx := 198) 33 cw11 (by decide) rfl (Or.inl fl_X11_78) (ob_91) (fn_91_33) (show decode cX11_closes 195 = .ok (.getfield 78, 3) by decide +kernel) rfl ?_
  refine am_r_iload_n (nx := 199) rfl rfl (show decode cX11_closes 198 = .ok (.iload_n 1, 1) by decide +kernel) rfl ?_
  refine am_r_dup2 (nx := 200) rfl rfl (show decode cX11_closes 199 = .ok (.dup2, 1) by decide +kernel) rfl ?_
  refine am_r_iald (nx := 201) (sh_114) (am_shle (sh_114)) hi1 hj2 (show decode cX11_closes 200 = .ok (.iaload, 1) by decide +kernel) rfl ?_
  refine am_r_iconst (nx := 202) (show decode cX11_closes 201 = .ok (.iconst 1, 1) by decide +kernel) rfl ?_
  refine am_r_isub (nx := 203) (show decode cX11_closes 202 = .ok (.isub, 1) by decide +kernel) rfl ?_
  refine am_r_iast (nx := 204) (sh_114) (am_shle (sh_114)) hi3 hj4 (show decode cX11_closes 203 = .ok (.iastore, 1) by decide +kernel) rfl ?_
  exact k
theorem S_X11_closes_204 {G : am_G} {d : Nat} {Q : Int → am_D → Prop} {σ : am_D} {v1 : Int} {v4 : Int} (hi1 : 0 ≤ v4) (hj2 : v4 < 648) (hi3 : 0 ≤ v1) (hj4 : v1 < 3) (k : am_X (am_FI G (d + 1) Q) mX11_closes (0, 0) 217 [none, none, none, none, none, none] [] (am_K0, (am_pI σ 113 v1 (σ.1 100 v4)))) : am_X (am_FI G (d + 1) Q) mX11_closes (0, 0) 204 [some (am_r (some 91)), some (am_i v1), none, none, some (am_i v4), none] [] (am_K0, σ) := by
  refine am_r_aload_n (nx := 205) rfl rfl (show decode cX11_closes 204 = .ok (.aload_n 0, 1) by decide +kernel) rfl ?_
  refine am_r_getF (nx := 208) 32 cw11 (by decide) rfl (Or.inl fl_X11_75) (ob_91) (fn_91_32) (show decode cX11_closes 205 = .ok (.getfield 75, 3) by decide +kernel) rfl ?_
  refine am_r_iload_n (nx := 209) rfl rfl (show decode cX11_closes 208 = .ok (.iload_n 1, 1) by decide +kernel) rfl ?_
  refine am_r_aload_n (nx := 210) rfl rfl (show decode cX11_closes 209 = .ok (.aload_n 0, 1) by decide +kernel) rfl ?_
  refine am_r_getF (nx := 213) 14 cw11 (by decide) rfl (Or.inl fl_X11_36) (ob_91) (fn_91_14) (show decode cX11_closes 210 = .ok (.getfield 36, 3) by decide +kernel) rfl ?_
  refine am_r_iload (nx := 215) rfl (show decode cX11_closes 213 = .ok (.iload 4, 2) by decide +kernel) rfl ?_
  refine am_r_iald (nx := 216) (sh_100) (am_shle (sh_100)) hi1 hj2 (show decode cX11_closes 215 = .ok (.iaload, 1) by decide +kernel) rfl ?_
  refine am_r_iast (nx := 217) (sh_113) (am_shle (sh_113)) hi3 hj4 (show decode cX11_closes 216 = .ok (.iastore, 1) by decide +kernel) rfl ?_
  exact am_x_fg [0, 1, 4] k
theorem S_X11_closes_217 {G : am_G} {d : Nat} {Q : Int → am_D → Prop} {σ : am_D}   (k : Q 1 σ) : am_X (am_FI G (d + 1) Q) mX11_closes (0, 0) 217 [none, none, none, none, none, none] [] (am_K0, σ) := by
  refine am_r_iconst (nx := 218) (show decode cX11_closes 217 = .ok (.iconst 1, 1) by decide +kernel) rfl ?_
  exact am_r_iret rfl rfl (show decode cX11_closes 218 = .ok (.ireturn, 1) by decide +kernel) ⟨_, _, rfl, rfl, k⟩
theorem S_X11_reads_0 {G : am_G} {d : Nat} {Q : Int → am_D → Prop} {σ : am_D} {v1 : Int} {v2 : Int} {v3 : Int} (hr1 : -2147483648 ≤ v3 ∧ v3 ≤ 2147483647) (k1 : ¬ v3 = 3 → am_X (am_FI G (d + 1) Q) mX11_reads (0, 0) 14 [some (am_r (some 91)), some (am_i v1), some (am_i v2), some (am_i v3), none] [] (am_K0, σ)) (k2 : ¬ (¬ v3 = 3) → am_X (am_FI G (d + 1) Q) mX11_reads (0, 0) 5 [some (am_r (some 91)), some (am_i v1), some (am_i v2), none, none] [] (am_K0, σ)) : am_X (am_FI G (d + 1) Q) mX11_reads (0, 0) 0 [some (am_r (some 91)), some (am_i v1), some (am_i v2), some (am_i v3), none] [] (am_K0, σ) := by
  refine am_r_iload_n (nx := 1) rfl rfl (show decode cX11_reads 0 = .ok (.iload_n 3, 1) by decide +kernel) rfl ?_
  refine am_r_iconst (nx := 2) (show decode cX11_reads 1 = .ok (.iconst 3, 1) by decide +kernel) rfl ?_
  refine am_r_icmp_ne (tg := 14) (nx := 5) (show decode cX11_reads 2 = .ok (.if_icmp .ne 12, 3) by decide +kernel) (by decide) rfl hr1 (by omega) ?_ ?_
  · exact fun q => k1 q
  · exact fun q => am_x_fg [3] (k2 q)
theorem S_X11_reads_5 {G : am_G} {d : Nat} {Q : Int → am_D → Prop} {σ : am_D} {v1 : Int} {v2 : Int} {Q' : Int → am_D → Prop} (hc : am_MI G d mX11_closes [am_r (some 91), am_i v1, am_i v2] σ Q') (k : ∀ (x : Int) (σ' : am_D), Q' x σ' → am_X (am_FI G (d + 1) Q) mX11_reads (0, 0) 11 [some (am_r (some 91)), some (am_i v1), none, none, none] [am_i x] (am_K0, σ')) : am_X (am_FI G (d + 1) Q) mX11_reads (0, 0) 5 [some (am_r (some 91)), some (am_i v1), some (am_i v2), none, none] [] (am_K0, σ) := by
  refine am_r_aload_n (nx := 6) rfl rfl (show decode cX11_reads 5 = .ok (.aload_n 0, 1) by decide +kernel) rfl ?_
  refine am_r_iload_n (nx := 7) rfl rfl (show decode cX11_reads 6 = .ok (.iload_n 1, 1) by decide +kernel) rfl ?_
  refine am_r_iload_n (nx := 8) rfl rfl (show decode cX11_reads 7 = .ok (.iload_n 2, 1) by decide +kernel) rfl ?_
  refine am_r_callV (as := [am_i v1, am_i v2]) (st := []) hc mb_X11_closes mv_X11_closes (Or.inl ml_X11_359) (ob_91) (by omega) (r := (RX11, TX11, 63)) rfl rfl rfl rfl (Nat.le_of_ble_eq_true rfl) ⟨Nat.le_refl _, Nat.le_refl _⟩ ⟨Nat.le_refl _, Nat.le_refl _⟩ (show decode cX11_reads 8 = .ok (.invokevirtual 359, 3) by decide +kernel) ?_
  rintro _ _ ⟨x, σ', rfl, rfl, hq⟩ _
  exact am_x_fg [2] (k x σ' hq)
theorem S_X11_reads_11 {G : am_G} {d : Nat} {Q : Int → am_D → Prop} {σ : am_D} {v1 : Int} {s0 : Int}  (k : am_X (am_FI G (d + 1) Q) mX11_reads (0, 0) 21 [some (am_r (some 91)), some (am_i v1), none, none, none] [am_i s0] (am_K0, σ)) : am_X (am_FI G (d + 1) Q) mX11_reads (0, 0) 11 [some (am_r (some 91)), some (am_i v1), none, none, none] [am_i s0] (am_K0, σ) := by
  refine am_r_goto (tg := 21) (show decode cX11_reads 11 = .ok (.goto 10, 3) by decide +kernel) (by decide) ?_
  exact k
theorem S_X11_reads_14 {G : am_G} {d : Nat} {Q : Int → am_D → Prop} {σ : am_D} {v1 : Int} {v2 : Int} {v3 : Int} {Q' : Int → am_D → Prop} (hc : am_MI G d mX11_opens [am_r (some 91), am_i v1, am_i v2, am_i v3] σ Q') (k : ∀ (x : Int) (σ' : am_D), Q' x σ' → am_X (am_FI G (d + 1) Q) mX11_reads (0, 0) 21 [some (am_r (some 91)), some (am_i v1), none, none, none] [am_i x] (am_K0, σ')) : am_X (am_FI G (d + 1) Q) mX11_reads (0, 0) 14 [some (am_r (some 91)), some (am_i v1), some (am_i v2), some (am_i v3), none] [] (am_K0, σ) := by
  refine am_r_aload_n (nx := 15) rfl rfl (show decode cX11_reads 14 = .ok (.aload_n 0, 1) by decide +kernel) rfl ?_
  refine am_r_iload_n (nx := 16) rfl rfl (show decode cX11_reads 15 = .ok (.iload_n 1, 1) by decide +kernel) rfl ?_
  refine am_r_iload_n (nx := 17) rfl rfl (show decode cX11_reads 16 = .ok (.iload_n 2, 1) by decide +kernel) rfl ?_
  refine am_r_iload_n (nx := 18) rfl rfl (show decode cX11_reads 17 = .ok (.iload_n 3, 1) by decide +kernel) rfl ?_
  refine am_r_callV (as := [am_i v1, am_i v2, am_i v3]) (st := []) hc mb_X11_opens mv_X11_opens (Or.inl ml_X11_363) (ob_91) (by omega) (r := (RX11, TX11, 63)) rfl rfl rfl rfl (Nat.le_of_ble_eq_true rfl) ⟨Nat.le_refl _, Nat.le_refl _⟩ ⟨Nat.le_refl _, Nat.le_refl _⟩ (show decode cX11_reads 18 = .ok (.invokevirtual 363, 3) by decide +kernel) ?_
  rintro _ _ ⟨x, σ', rfl, rfl, hq⟩ _
  exact am_x_fg [2, 3] (k x σ' hq)
theorem S_X11_reads_21 {G : am_G} {d : Nat} {Q : Int → am_D → Prop} {σ : am_D} {v1 : Int} {s0 : Int}  (k : am_X (am_FI G (d + 1) Q) mX11_reads (0, 0) 23 [some (am_r (some 91)), some (am_i v1), none, none, some (am_i s0)] [] (am_K0, σ)) : am_X (am_FI G (d + 1) Q) mX11_reads (0, 0) 21 [some (am_r (some 91)), some (am_i v1), none, none, none] [am_i s0] (am_K0, σ) := by
  refine am_r_istore (nx := 23) (by decide) rfl (show decode cX11_reads 21 = .ok (.istore 4, 2) by decide +kernel) rfl ?_
  exact k
theorem S_X11_reads_23 {G : am_G} {d : Nat} {Q : Int → am_D → Prop} {σ : am_D} {v1 : Int} {v4 : Int} (hr1 : -2147483648 ≤ v4 ∧ v4 ≤ 2147483647) (k1 : v4 = 0 → am_X (am_FI G (d + 1) Q) mX11_reads (0, 0) 48 [none, none, none, none, some (am_i v4)] [] (am_K0, σ)) (k2 : ¬ (v4 = 0) → am_X (am_FI G (d + 1) Q) mX11_reads (0, 0) 28 [some (am_r (some 91)), some (am_i v1), none, none, some (am_i v4)] [] (am_K0, σ)) : am_X (am_FI G (d + 1) Q) mX11_reads (0, 0) 23 [some (am_r (some 91)), some (am_i v1), none, none, some (am_i v4)] [] (am_K0, σ) := by
  refine am_r_iload (nx := 25) rfl (show decode cX11_reads 23 = .ok (.iload 4, 2) by decide +kernel) rfl ?_
  refine am_r_if_eq (tg := 48) (nx := 28) (show decode cX11_reads 25 = .ok (.ifCond .eq 23, 3) by decide +kernel) (by decide) rfl hr1 ?_ ?_
  · exact fun q => am_x_fg [0, 1] (k1 q)
  · exact fun q => k2 q
theorem S_X11_reads_28 {G : am_G} {d : Nat} {Q : Int → am_D → Prop} {σ : am_D} {v1 : Int} {v4 : Int} {Q' : Int → am_D → Prop} (hi1 : 0 ≤ v1) (hj2 : v1 < 3) (hc : am_MI G d mX11_heldBy [am_r (some 91), am_i v1] σ Q') (k : ∀ (x : Int) (σ' : am_D), Q' x σ' → am_X (am_FI G (d + 1) Q) mX11_reads (0, 0) 44 [none, none, none, none, some (am_i v4)] [am_i x, am_i (σ.1 115 v1), am_i v1, am_r (some 115)] (am_K0, σ')) : am_X (am_FI G (d + 1) Q) mX11_reads (0, 0) 28 [some (am_r (some 91)), some (am_i v1), none, none, some (am_i v4)] [] (am_K0, σ) := by
  refine am_r_aload_n (nx := 29) rfl rfl (show decode cX11_reads 28 = .ok (.aload_n 0, 1) by decide +kernel) rfl ?_
  refine am_r_getF (nx := 32) 34 cw11 (by decide) rfl (Or.inl fl_X11_81) (ob_91) (fn_91_34) (show decode cX11_reads 29 = .ok (.getfield 81, 3) by decide +kernel) rfl ?_
  refine am_r_iload_n (nx := 33) rfl rfl (show decode cX11_reads 32 = .ok (.iload_n 1, 1) by decide +kernel) rfl ?_
  refine am_r_aload_n (nx := 34) rfl rfl (show decode cX11_reads 33 = .ok (.aload_n 0, 1) by decide +kernel) rfl ?_
  refine am_r_getF (nx := 37) 34 cw11 (by decide) rfl (Or.inl fl_X11_81) (ob_91) (fn_91_34) (show decode cX11_reads 34 = .ok (.getfield 81, 3) by decide +kernel) rfl ?_
  refine am_r_iload_n (nx := 38) rfl rfl (show decode cX11_reads 37 = .ok (.iload_n 1, 1) by decide +kernel) rfl ?_
  refine am_r_iald (nx := 39) (sh_115) (am_shle (sh_115)) hi1 hj2 (show decode cX11_reads 38 = .ok (.iaload, 1) by decide +kernel) rfl ?_
  refine am_r_aload_n (nx := 40) rfl rfl (show decode cX11_reads 39 = .ok (.aload_n 0, 1) by decide +kernel) rfl ?_
  refine am_r_iload_n (nx := 41) rfl rfl (show decode cX11_reads 40 = .ok (.iload_n 1, 1) by decide +kernel) rfl ?_
  refine am_r_callV (as := [am_i v1]) (st := [am_i (σ.1 115 v1), am_i v1, am_r (some 115)]) hc mb_X11_heldBy mv_X11_heldBy (Or.inl ml_X11_335) (ob_91) (by omega) (r := (RX11, TX11, 63)) rfl rfl rfl rfl (Nat.le_of_ble_eq_true rfl) ⟨Nat.le_refl _, Nat.le_refl _⟩ ⟨Nat.le_refl _, Nat.le_refl _⟩ (show decode cX11_reads 41 = .ok (.invokevirtual 335, 3) by decide +kernel) ?_
  rintro _ _ ⟨x, σ', rfl, rfl, hq⟩ _
  exact am_x_fg [0, 1] (k x σ' hq)
theorem S_X11_reads_44 {G : am_G} {d : Nat} {Q : Int → am_D → Prop} {σ : am_D} {v4 : Int} {s1 : Int} {s2 : Int} {s3 : Int} {Q' : Int → am_D → Prop} {s0 : Option Nat} (hc : am_MI G d mJ9_max_7cf53 [am_i s2, am_i s3] σ Q') (k : ∀ (x : Int) (σ' : am_D), Q' x σ' → am_X (am_FI G (d + 1) Q) mX11_reads (0, 0) 47 [none, none, none, none, some (am_i v4)] [am_i x, am_i s1, am_r s0] (am_K0, σ')) : am_X (am_FI G (d + 1) Q) mX11_reads (0, 0) 44 [none, none, none, none, some (am_i v4)] [am_i s3, am_i s2, am_i s1, am_r s0] (am_K0, σ) := by
  refine am_r_callS (as := [am_i s2, am_i s3]) (st := [am_i s1, am_r s0]) hc mb_J9_max_7cf53 mv_J9_max_7cf53 (Or.inl ml_X11_302) rfl rfl (Nat.le_of_ble_eq_true rfl) ⟨Nat.le_refl _, Nat.le_refl _⟩ ⟨Nat.le_refl _, Nat.le_refl _⟩ (show decode cX11_reads 44 = .ok (.invokestatic 302, 3) by decide +kernel) ?_
  rintro _ _ ⟨x, σ', rfl, rfl, hq⟩ _
  exact (k x σ' hq)
theorem S_X11_reads_47 {G : am_G} {d : Nat} {Q : Int → am_D → Prop} {σ : am_D} {v4 : Int} {s1 : Int} {s2 : Int} {s0 : Nat} {n1 : Nat} (hs2 : am_sh am_SH s0 = (100, n1)) (hi3 : 0 ≤ s1) (hj4 : s1 < ((n1 : Nat) : Int)) (k : am_X (am_FI G (d + 1) Q) mX11_reads (0, 0) 48 [none, none, none, none, some (am_i v4)] [] (am_K0, (am_pI σ s0 s1 s2))) : am_X (am_FI G (d + 1) Q) mX11_reads (0, 0) 47 [none, none, none, none, some (am_i v4)] [am_i s2, am_i s1, am_r (some s0)] (am_K0, σ) := by
  refine am_r_iast (nx := 48) (hs2) (am_shle (hs2)) hi3 hj4 (show decode cX11_reads 47 = .ok (.iastore, 1) by decide +kernel) rfl ?_
  exact k
theorem S_X11_reads_48 {G : am_G} {d : Nat} {Q : Int → am_D → Prop} {σ : am_D} {v4 : Int} (hz : v4 = 0 ∨ v4 = 1) (k : Q v4 σ) : am_X (am_FI G (d + 1) Q) mX11_reads (0, 0) 48 [none, none, none, none, some (am_i v4)] [] (am_K0, σ) := by
  refine am_r_iload (nx := 50) rfl (show decode cX11_reads 48 = .ok (.iload 4, 2) by decide +kernel) rfl ?_
  exact am_r_iret rfl (by rcases hz with hz | hz <;> rw [hz] <;> rfl) (show decode cX11_reads 50 = .ok (.ireturn, 1) by decide +kernel) ⟨_, _, rfl, rfl, k⟩
theorem S_X11_canEnd_0 {G : am_G} {d : Nat} {Q : Int → am_D → Prop} {σ : am_D} {v1 : Int} {v2 : Int} (hi1 : 0 ≤ v1) (hj2 : v1 < 3) (hi3 : 0 ≤ ((6 * v2) + (σ.1 113 v1))) (hj4 : ((6 * v2) + (σ.1 113 v1)) < 36) (hr5 : -2147483648 ≤ (σ.1 102 ((6 * v2) + (σ.1 113 v1))) ∧ (σ.1 102 ((6 * v2) + (σ.1 113 v1))) ≤ 2147483647) (k1 : (σ.1 102 ((6 * v2) + (σ.1 113 v1))) = (-1) → am_X (am_FI G (d + 1) Q) mX11_canEnd (0, 0) 24 [none, none, none] [] (am_K0, σ)) (k2 : ¬ ((σ.1 102 ((6 * v2) + (σ.1 113 v1))) = (-1)) → am_X (am_FI G (d + 1) Q) mX11_canEnd (0, 0) 20 [none, none, none] [] (am_K0, σ)) : am_X (am_FI G (d + 1) Q) mX11_canEnd (0, 0) 0 [some (am_r (some 91)), some (am_i v1), some (am_i v2)] [] (am_K0, σ) := by
  refine am_r_aload_n (nx := 1) rfl rfl (show decode cX11_canEnd 0 = .ok (.aload_n 0, 1) by decide +kernel) rfl ?_
  refine am_r_getF (nx := 4) 16 cw11 (by decide) rfl (Or.inl fl_X11_42) (ob_91) (fn_91_16) (show decode cX11_canEnd 1 = .ok (.getfield 42, 3) by decide +kernel) rfl ?_
  refine am_r_bipush (nx := 6) rfl (show decode cX11_canEnd 4 = .ok (.bipush 6, 2) by decide +kernel) rfl ?_
  refine am_r_iload_n (nx := 7) rfl rfl (show decode cX11_canEnd 6 = .ok (.iload_n 2, 1) by decide +kernel) rfl ?_
  refine am_r_imul (nx := 8) (show decode cX11_canEnd 7 = .ok (.imul, 1) by decide +kernel) rfl ?_
  refine am_r_aload_n (nx := 9) rfl rfl (show decode cX11_canEnd 8 = .ok (.aload_n 0, 1) by decide +kernel) rfl ?_
  refine am_r_getF (nx := 12) 32 cw11 (by decide) rfl (Or.inl fl_X11_75) (ob_91) (fn_91_32) (show decode cX11_canEnd 9 = .ok (.getfield 75, 3) by decide +kernel) rfl ?_
  refine am_r_iload_n (nx := 13) rfl rfl (show decode cX11_canEnd 12 = .ok (.iload_n 1, 1) by decide +kernel) rfl ?_
  refine am_r_iald (nx := 14) (sh_113) (am_shle (sh_113)) hi1 hj2 (show decode cX11_canEnd 13 = .ok (.iaload, 1) by decide +kernel) rfl ?_
  refine am_r_iadd (nx := 15) (show decode cX11_canEnd 14 = .ok (.iadd, 1) by decide +kernel) rfl ?_
  refine am_r_iald (nx := 16) (sh_102) (am_shle (sh_102)) hi3 hj4 (show decode cX11_canEnd 15 = .ok (.iaload, 1) by decide +kernel) rfl ?_
  refine am_r_iconst (nx := 17) (show decode cX11_canEnd 16 = .ok (.iconst (-1), 1) by decide +kernel) rfl ?_
  refine am_r_icmp_eq (tg := 24) (nx := 20) (show decode cX11_canEnd 17 = .ok (.if_icmp .eq 7, 3) by decide +kernel) (by decide) rfl hr5 (by omega) ?_ ?_
  · exact fun q => am_x_fg [0, 1, 2] (k1 q)
  · exact fun q => am_x_fg [0, 1, 2] (k2 q)
theorem S_X11_canEnd_20 {G : am_G} {d : Nat} {Q : Int → am_D → Prop} {σ : am_D}   (k : am_X (am_FI G (d + 1) Q) mX11_canEnd (0, 0) 25 [none, none, none] [am_i 1] (am_K0, σ)) : am_X (am_FI G (d + 1) Q) mX11_canEnd (0, 0) 20 [none, none, none] [] (am_K0, σ) := by
  refine am_r_iconst (nx := 21) (show decode cX11_canEnd 20 = .ok (.iconst 1, 1) by decide +kernel) rfl ?_
  refine am_r_goto (tg := 25) (show decode cX11_canEnd 21 = .ok (.goto 4, 3) by decide +kernel) (by decide) ?_
  exact k
theorem S_X11_canEnd_24 {G : am_G} {d : Nat} {Q : Int → am_D → Prop} {σ : am_D}   (k : am_X (am_FI G (d + 1) Q) mX11_canEnd (0, 0) 25 [none, none, none] [am_i 0] (am_K0, σ)) : am_X (am_FI G (d + 1) Q) mX11_canEnd (0, 0) 24 [none, none, none] [] (am_K0, σ) := by
  refine am_r_iconst (nx := 25) (show decode cX11_canEnd 24 = .ok (.iconst 0, 1) by decide +kernel) rfl ?_
  exact k
theorem S_X11_canEnd_25 {G : am_G} {d : Nat} {Q : Int → am_D → Prop} {σ : am_D} {s0 : Int} (hz : s0 = 0 ∨ s0 = 1) (k : Q s0 σ) : am_X (am_FI G (d + 1) Q) mX11_canEnd (0, 0) 25 [none, none, none] [am_i s0] (am_K0, σ) := by
  exact am_r_iret rfl (by rcases hz with hz | hz <;> rw [hz] <;> rfl) (show decode cX11_canEnd 25 = .ok (.ireturn, 1) by decide +kernel) ⟨_, _, rfl, rfl, k⟩
end
