section
theorem S_X11_closeAt_0 {G : am_G} {d : Nat} {Q : Int → am_D → Prop} {σ : am_D} {v0 : Int} {v1 : Int} {v2 : Int} {v3 : Int}  (k : Q ((((108 * v0) + (36 * v1)) + (6 * v2)) + v3) σ) : am_X (am_FI G (d + 1) Q) mX11_closeAt (0, 0) 0 [some (am_i v0), some (am_i v1), some (am_i v2), some (am_i v3)] [] (am_K0, σ) := by
  refine am_r_bipush (nx := 2) rfl (show decode cX11_closeAt 0 = .ok (.bipush 108, 2) by decide +kernel) rfl ?_
  refine am_r_iload_n (nx := 3) rfl rfl (show decode cX11_closeAt 2 = .ok (.iload_n 0, 1) by decide +kernel) rfl ?_
  refine am_r_imul (nx := 4) (show decode cX11_closeAt 3 = .ok (.imul, 1) by decide +kernel) rfl ?_
  refine am_r_bipush (nx := 6) rfl (show decode cX11_closeAt 4 = .ok (.bipush 36, 2) by decide +kernel) rfl ?_
  refine am_r_iload_n (nx := 7) rfl rfl (show decode cX11_closeAt 6 = .ok (.iload_n 1, 1) by decide +kernel) rfl ?_
  refine am_r_imul (nx := 8) (show decode cX11_closeAt 7 = .ok (.imul, 1) by decide +kernel) rfl ?_
  refine am_r_iadd (nx := 9) (show decode cX11_closeAt 8 = .ok (.iadd, 1) by decide +kernel) rfl ?_
  refine am_r_bipush (nx := 11) rfl (show decode cX11_closeAt 9 = .ok (.bipush 6, 2) by decide +kernel) rfl ?_
  refine am_r_iload_n (nx := 12) rfl rfl (show decode cX11_closeAt 11 = .ok (.iload_n 2, 1) by decide +kernel) rfl ?_
  refine am_r_imul (nx := 13) (show decode cX11_closeAt 12 = .ok (.imul, 1) by decide +kernel) rfl ?_
  refine am_r_iadd (nx := 14) (show decode cX11_closeAt 13 = .ok (.iadd, 1) by decide +kernel) rfl ?_
  refine am_r_iload_n (nx := 15) rfl rfl (show decode cX11_closeAt 14 = .ok (.iload_n 3, 1) by decide +kernel) rfl ?_
  refine am_r_iadd (nx := 16) (show decode cX11_closeAt 15 = .ok (.iadd, 1) by decide +kernel) rfl ?_
  exact am_r_iret rfl rfl (show decode cX11_closeAt 16 = .ok (.ireturn, 1) by decide +kernel) ⟨_, _, rfl, rfl, k⟩
theorem S_X11_clears_0 {G : am_G} {d : Nat} {Q : am_D → Prop} {σ : am_D} {v1 : Int} (hi1 : 0 ≤ v1) (hj2 : v1 < 6) (k : am_X (am_FV G (d + 1) Q) mX11_clears (0, 0) 7 [some (am_r (some 91)), some (am_i v1), none] [] (am_K0, (am_pI σ 96 v1 0))) : am_X (am_FV G (d + 1) Q) mX11_clears (0, 0) 0 [some (am_r (some 91)), some (am_i v1), none] [] (am_K0, σ) := by
  refine am_r_aload_n (nx := 1) rfl rfl (show decode cX11_clears 0 = .ok (.aload_n 0, 1) by decide +kernel) rfl ?_
  refine am_r_getF (nx := 4) 10 cw11 (by decide) rfl (Or.inl fl_X11_24) (ob_91) (fn_91_10) (show decode cX11_clears 1 = .ok (.getfield 24, 3) by decide +kernel) rfl ?_
  refine am_r_iload_n (nx := 5) rfl rfl (show decode cX11_clears 4 = .ok (.iload_n 1, 1) by decide +kernel) rfl ?_
  refine am_r_iconst (nx := 6) (show decode cX11_clears 5 = .ok (.iconst 0, 1) by decide +kernel) rfl ?_
  refine am_r_iast (nx := 7) (sh_96) (am_shle (sh_96)) hi1 hj2 (show decode cX11_clears 6 = .ok (.iastore, 1) by decide +kernel) rfl ?_
  exact k
theorem S_X11_clears_7 {G : am_G} {d : Nat} {Q : am_D → Prop} {σ : am_D} {v1 : Int} (hi1 : 0 ≤ v1) (hj2 : v1 < 6) (k : am_X (am_FV G (d + 1) Q) mX11_clears (0, 0) 14 [some (am_r (some 91)), some (am_i v1), none] [] (am_K0, (am_pI σ 97 v1 0))) : am_X (am_FV G (d + 1) Q) mX11_clears (0, 0) 7 [some (am_r (some 91)), some (am_i v1), none] [] (am_K0, σ) := by
  refine am_r_aload_n (nx := 8) rfl rfl (show decode cX11_clears 7 = .ok (.aload_n 0, 1) by decide +kernel) rfl ?_
  refine am_r_getF (nx := 11) 11 cw11 (by decide) rfl (Or.inl fl_X11_27) (ob_91) (fn_91_11) (show decode cX11_clears 8 = .ok (.getfield 27, 3) by decide +kernel) rfl ?_
  refine am_r_iload_n (nx := 12) rfl rfl (show decode cX11_clears 11 = .ok (.iload_n 1, 1) by decide +kernel) rfl ?_
  refine am_r_iconst (nx := 13) (show decode cX11_clears 12 = .ok (.iconst 0, 1) by decide +kernel) rfl ?_
  refine am_r_iast (nx := 14) (sh_97) (am_shle (sh_97)) hi1 hj2 (show decode cX11_clears 13 = .ok (.iastore, 1) by decide +kernel) rfl ?_
  exact k
theorem S_X11_clears_14 {G : am_G} {d : Nat} {Q : am_D → Prop} {σ : am_D} {v1 : Int}  (k : am_X (am_FV G (d + 1) Q) mX11_clears (0, 0) 16 [some (am_r (some 91)), some (am_i v1), some (am_i 0)] [] (am_K0, σ)) : am_X (am_FV G (d + 1) Q) mX11_clears (0, 0) 14 [some (am_r (some 91)), some (am_i v1), none] [] (am_K0, σ) := by
  refine am_r_iconst (nx := 15) (show decode cX11_clears 14 = .ok (.iconst 0, 1) by decide +kernel) rfl ?_
  refine am_r_istore_n (nx := 16) rfl (by decide) rfl (show decode cX11_clears 15 = .ok (.istore_n 2, 1) by decide +kernel) rfl ?_
  exact k
theorem S_X11_clears_16 {G : am_G} {d : Nat} {Q : am_D → Prop} {σ : am_D} {v1 : Int} {v2 : Int} (hr1 : -2147483648 ≤ v2 ∧ v2 ≤ 2147483647) (k1 : 18 ≤ v2 → am_X (am_FV G (d + 1) Q) mX11_clears (0, 0) 40 [some (am_r (some 91)), some (am_i v1), none] [] (am_K0, σ)) (k2 : ¬ (18 ≤ v2) → am_X (am_FV G (d + 1) Q) mX11_clears (0, 0) 22 [some (am_r (some 91)), some (am_i v1), some (am_i v2)] [] (am_K0, σ)) : am_X (am_FV G (d + 1) Q) mX11_clears (0, 0) 16 [some (am_r (some 91)), some (am_i v1), some (am_i v2)] [] (am_K0, σ) := by
  refine am_r_iload_n (nx := 17) rfl rfl (show decode cX11_clears 16 = .ok (.iload_n 2, 1) by decide +kernel) rfl ?_
  refine am_r_bipush (nx := 19) rfl (show decode cX11_clears 17 = .ok (.bipush 18, 2) by decide +kernel) rfl ?_
  refine am_r_icmp_ge (tg := 40) (nx := 22) (show decode cX11_clears 19 = .ok (.if_icmp .ge 21, 3) by decide +kernel) (by decide) rfl hr1 (by omega) ?_ ?_
  · exact fun q => am_x_fg [2] (k1 q)
  · exact fun q => k2 q
theorem S_X11_clears_22 {G : am_G} {d : Nat} {Q : am_D → Prop} {σ : am_D} {v1 : Int} {v2 : Int} (hi1 : 0 ≤ ((18 * v1) + v2)) (hj2 : ((18 * v1) + v2) < 108) (k : am_X (am_FV G (d + 1) Q) mX11_clears (0, 0) 34 [some (am_r (some 91)), some (am_i v1), some (am_i v2)] [] (am_K0, (am_pI σ 98 ((18 * v1) + v2) (-1)))) : am_X (am_FV G (d + 1) Q) mX11_clears (0, 0) 22 [some (am_r (some 91)), some (am_i v1), some (am_i v2)] [] (am_K0, σ) := by
  refine am_r_aload_n (nx := 23) rfl rfl (show decode cX11_clears 22 = .ok (.aload_n 0, 1) by decide +kernel) rfl ?_
  refine am_r_getF (nx := 26) 12 cw11 (by decide) rfl (Or.inl fl_X11_30) (ob_91) (fn_91_12) (show decode cX11_clears 23 = .ok (.getfield 30, 3) by decide +kernel) rfl ?_
  refine am_r_bipush (nx := 28) rfl (show decode cX11_clears 26 = .ok (.bipush 18, 2) by decide +kernel) rfl ?_
  refine am_r_iload_n (nx := 29) rfl rfl (show decode cX11_clears 28 = .ok (.iload_n 1, 1) by decide +kernel) rfl ?_
  refine am_r_imul (nx := 30) (show decode cX11_clears 29 = .ok (.imul, 1) by decide +kernel) rfl ?_
  refine am_r_iload_n (nx := 31) rfl rfl (show decode cX11_clears 30 = .ok (.iload_n 2, 1) by decide +kernel) rfl ?_
  refine am_r_iadd (nx := 32) (show decode cX11_clears 31 = .ok (.iadd, 1) by decide +kernel) rfl ?_
  refine am_r_iconst (nx := 33) (show decode cX11_clears 32 = .ok (.iconst (-1), 1) by decide +kernel) rfl ?_
  refine am_r_iast (nx := 34) (sh_98) (am_shle (sh_98)) hi1 hj2 (show decode cX11_clears 33 = .ok (.iastore, 1) by decide +kernel) rfl ?_
  exact k
theorem S_X11_clears_34 {G : am_G} {d : Nat} {Q : am_D → Prop} {σ : am_D} {v1 : Int} {v2 : Int}  (k : am_X (am_FV G (d + 1) Q) mX11_clears (0, 0) 16 [some (am_r (some 91)), some (am_i v1), some (am_i (v2 + 1))] [] (am_K0, σ)) : am_X (am_FV G (d + 1) Q) mX11_clears (0, 0) 34 [some (am_r (some 91)), some (am_i v1), some (am_i v2)] [] (am_K0, σ) := by
  refine am_r_iinc (nx := 37) rfl rfl (show decode cX11_clears 34 = .ok (.iinc 2 1, 3) by decide +kernel) rfl ?_
  refine am_r_goto (tg := 16) (show decode cX11_clears 37 = .ok (.goto (-21), 3) by decide +kernel) (by decide) ?_
  exact k
theorem S_X11_clears_40 {G : am_G} {d : Nat} {Q : am_D → Prop} {σ : am_D} {v1 : Int}  (k : am_X (am_FV G (d + 1) Q) mX11_clears (0, 0) 42 [some (am_r (some 91)), some (am_i v1), some (am_i 0)] [] (am_K0, σ)) : am_X (am_FV G (d + 1) Q) mX11_clears (0, 0) 40 [some (am_r (some 91)), some (am_i v1), none] [] (am_K0, σ) := by
  refine am_r_iconst (nx := 41) (show decode cX11_clears 40 = .ok (.iconst 0, 1) by decide +kernel) rfl ?_
  refine am_r_istore_n (nx := 42) rfl (by decide) rfl (show decode cX11_clears 41 = .ok (.istore_n 2, 1) by decide +kernel) rfl ?_
  exact k
theorem S_X11_clears_42 {G : am_G} {d : Nat} {Q : am_D → Prop} {σ : am_D} {v1 : Int} {v2 : Int} (hr1 : -2147483648 ≤ v2 ∧ v2 ≤ 2147483647) (k1 : 108 ≤ v2 → am_X (am_FV G (d + 1) Q) mX11_clears (0, 0) 66 [some (am_r (some 91)), some (am_i v1), none] [] (am_K0, σ)) (k2 : ¬ (108 ≤ v2) → am_X (am_FV G (d + 1) Q) mX11_clears (0, 0) 48 [some (am_r (some 91)), some (am_i v1), some (am_i v2)] [] (am_K0, σ)) : am_X (am_FV G (d + 1) Q) mX11_clears (0, 0) 42 [some (am_r (some 91)), some (am_i v1), some (am_i v2)] [] (am_K0, σ) := by
  refine am_r_iload_n (nx := 43) rfl rfl (show decode cX11_clears 42 = .ok (.iload_n 2, 1) by decide +kernel) rfl ?_
  refine am_r_bipush (nx := 45) rfl (show decode cX11_clears 43 = .ok (.bipush 108, 2) by decide +kernel) rfl ?_
  refine am_r_icmp_ge (tg := 66) (nx := 48) (show decode cX11_clears 45 = .ok (.if_icmp .ge 21, 3) by decide +kernel) (by decide) rfl hr1 (by omega) ?_ ?_
  · exact fun q => am_x_fg [2] (k1 q)
  · exact fun q => k2 q
theorem S_X11_clears_48 {G : am_G} {d : Nat} {Q : am_D → Prop} {σ : am_D} {v1 : Int} {v2 : Int} (hi1 : 0 ≤ ((108 * v1) + v2)) (hj2 : ((108 * v1) + v2) < 648) (k : am_X (am_FV G (d + 1) Q) mX11_clears (0, 0) 60 [some (am_r (some 91)), some (am_i v1), some (am_i v2)] [] (am_K0, (am_pI σ 100 ((108 * v1) + v2) (-1)))) : am_X (am_FV G (d + 1) Q) mX11_clears (0, 0) 48 [some (am_r (some 91)), some (am_i v1), some (am_i v2)] [] (am_K0, σ) := by
  refine am_r_aload_n (nx := 49) rfl rfl (show decode cX11_clears 48 = .ok (.aload_n 0, 1) by decide +kernel) rfl ?_
  refine am_r_getF (nx := 52) 14 cw11 (by decide) rfl (Or.inl fl_X11_36) (ob_91) (fn_91_14) (show decode cX11_clears 49 = .ok (.getfield 36, 3) by decide +kernel) rfl ?_
  refine am_r_bipush (nx := 54) rfl (show decode cX11_clears 52 = .ok (.bipush 108, 2) by decide +kernel) rfl ?_
  refine am_r_iload_n (nx := 55) rfl rfl (show decode cX11_clears 54 = .ok (.iload_n 1, 1) by decide +kernel) rfl ?_
  refine am_r_imul (nx := 56) (show decode cX11_clears 55 = .ok (.imul, 1) by decide +kernel) rfl ?_
  refine am_r_iload_n (nx := 57) rfl rfl (show decode cX11_clears 56 = .ok (.iload_n 2, 1) by decide +kernel) rfl ?_
  refine am_r_iadd (nx := 58) (show decode cX11_clears 57 = .ok (.iadd, 1) by decide +kernel) rfl ?_
  refine am_r_iconst (nx := 59) (show decode cX11_clears 58 = .ok (.iconst (-1), 1) by decide +kernel) rfl ?_
  refine am_r_iast (nx := 60) (sh_100) (am_shle (sh_100)) hi1 hj2 (show decode cX11_clears 59 = .ok (.iastore, 1) by decide +kernel) rfl ?_
  exact k
theorem S_X11_clears_60 {G : am_G} {d : Nat} {Q : am_D → Prop} {σ : am_D} {v1 : Int} {v2 : Int}  (k : am_X (am_FV G (d + 1) Q) mX11_clears (0, 0) 42 [some (am_r (some 91)), some (am_i v1), some (am_i (v2 + 1))] [] (am_K0, σ)) : am_X (am_FV G (d + 1) Q) mX11_clears (0, 0) 60 [some (am_r (some 91)), some (am_i v1), some (am_i v2)] [] (am_K0, σ) := by
  refine am_r_iinc (nx := 63) rfl rfl (show decode cX11_clears 60 = .ok (.iinc 2 1, 3) by decide +kernel) rfl ?_
  refine am_r_goto (tg := 42) (show decode cX11_clears 63 = .ok (.goto (-21), 3) by decide +kernel) (by decide) ?_
  exact k
theorem S_X11_clears_66 {G : am_G} {d : Nat} {Q : am_D → Prop} {σ : am_D} {v1 : Int}  (k : am_X (am_FV G (d + 1) Q) mX11_clears (0, 0) 68 [some (am_r (some 91)), some (am_i v1), some (am_i 0)] [] (am_K0, σ)) : am_X (am_FV G (d + 1) Q) mX11_clears (0, 0) 66 [some (am_r (some 91)), some (am_i v1), none] [] (am_K0, σ) := by
  refine am_r_iconst (nx := 67) (show decode cX11_clears 66 = .ok (.iconst 0, 1) by decide +kernel) rfl ?_
  refine am_r_istore_n (nx := 68) rfl (by decide) rfl (show decode cX11_clears 67 = .ok (.istore_n 2, 1) by decide +kernel) rfl ?_
  exact k
theorem S_X11_clears_68 {G : am_G} {d : Nat} {Q : am_D → Prop} {σ : am_D} {v1 : Int} {v2 : Int} (hr1 : -2147483648 ≤ v2 ∧ v2 ≤ 2147483647) (k1 : 6 ≤ v2 → am_X (am_FV G (d + 1) Q) mX11_clears (0, 0) 92 [none, none, none] [] (am_K0, σ)) (k2 : ¬ (6 ≤ v2) → am_X (am_FV G (d + 1) Q) mX11_clears (0, 0) 74 [some (am_r (some 91)), some (am_i v1), some (am_i v2)] [] (am_K0, σ)) : am_X (am_FV G (d + 1) Q) mX11_clears (0, 0) 68 [some (am_r (some 91)), some (am_i v1), some (am_i v2)] [] (am_K0, σ) := by
  refine am_r_iload_n (nx := 69) rfl rfl (show decode cX11_clears 68 = .ok (.iload_n 2, 1) by decide +kernel) rfl ?_
  refine am_r_bipush (nx := 71) rfl (show decode cX11_clears 69 = .ok (.bipush 6, 2) by decide +kernel) rfl ?_
  refine am_r_icmp_ge (tg := 92) (nx := 74) (show decode cX11_clears 71 = .ok (.if_icmp .ge 21, 3) by decide +kernel) (by decide) rfl hr1 (by omega) ?_ ?_
  · exact fun q => am_x_fg [0, 1, 2] (k1 q)
  · exact fun q => k2 q
theorem S_X11_clears_74 {G : am_G} {d : Nat} {Q : am_D → Prop} {σ : am_D} {v1 : Int} {v2 : Int} (hi1 : 0 ≤ ((6 * v1) + v2)) (hj2 : ((6 * v1) + v2) < 36) (k : am_X (am_FV G (d + 1) Q) mX11_clears (0, 0) 86 [some (am_r (some 91)), some (am_i v1), some (am_i v2)] [] (am_K0, (am_pI σ 102 ((6 * v1) + v2) (-1)))) : am_X (am_FV G (d + 1) Q) mX11_clears (0, 0) 74 [some (am_r (some 91)), some (am_i v1), some (am_i v2)] [] (am_K0, σ) := by
  refine am_r_aload_n (nx := 75) rfl rfl (show decode cX11_clears 74 = .ok (.aload_n 0, 1) by decide +kernel) rfl ?_
  refine am_r_getF (nx := 78) 16 cw11 (by decide) rfl (Or.inl fl_X11_42) (ob_91) (fn_91_16) (show decode cX11_clears 75 = .ok (.getfield 42, 3) by decide +kernel) rfl ?_
  refine am_r_bipush (nx := 80) rfl (show decode cX11_clears 78 = .ok (.bipush 6, 2) by decide +kernel) rfl ?_
  refine am_r_iload_n (nx := 81) rfl rfl (show decode cX11_clears 80 = .ok (.iload_n 1, 1) by decide +kernel) rfl ?_
  refine am_r_imul (nx := 82) (show decode cX11_clears 81 = .ok (.imul, 1) by decide +kernel) rfl ?_
  refine am_r_iload_n (nx := 83) rfl rfl (show decode cX11_clears 82 = .ok (.iload_n 2, 1) by decide +kernel) rfl ?_
  refine am_r_iadd (nx := 84) (show decode cX11_clears 83 = .ok (.iadd, 1) by decide +kernel) rfl ?_
  refine am_r_iconst (nx := 85) (show decode cX11_clears 84 = .ok (.iconst (-1), 1) by decide +kernel) rfl ?_
  refine am_r_iast (nx := 86) (sh_102) (am_shle (sh_102)) hi1 hj2 (show decode cX11_clears 85 = .ok (.iastore, 1) by decide +kernel) rfl ?_
  exact k
theorem S_X11_clears_86 {G : am_G} {d : Nat} {Q : am_D → Prop} {σ : am_D} {v1 : Int} {v2 : Int}  (k : am_X (am_FV G (d + 1) Q) mX11_clears (0, 0) 68 [some (am_r (some 91)), some (am_i v1), some (am_i (v2 + 1))] [] (am_K0, σ)) : am_X (am_FV G (d + 1) Q) mX11_clears (0, 0) 86 [some (am_r (some 91)), some (am_i v1), some (am_i v2)] [] (am_K0, σ) := by
  refine am_r_iinc (nx := 89) rfl rfl (show decode cX11_clears 86 = .ok (.iinc 2 1, 3) by decide +kernel) rfl ?_
  refine am_r_goto (tg := 68) (show decode cX11_clears 89 = .ok (.goto (-21), 3) by decide +kernel) (by decide) ?_
  exact k
theorem S_X11_clears_92 {G : am_G} {d : Nat} {Q : am_D → Prop} {σ : am_D}   (k : Q σ) : am_X (am_FV G (d + 1) Q) mX11_clears (0, 0) 92 [none, none, none] [] (am_K0, σ) := by
  exact am_r_vret rfl (show decode cX11_clears 92 = .ok (.return_, 1) by decide +kernel) ⟨_, rfl, rfl, k⟩
theorem S_X11_copies_0 {G : am_G} {d : Nat} {Q : am_D → Prop} {σ : am_D} {v1 : Int} {v2 : Int} (hi1 : 0 ≤ v1) (hj2 : v1 < 6) (hi3 : 0 ≤ v2) (hj4 : v2 < 6) (k : am_X (am_FV G (d + 1) Q) mX11_copies (0, 0) 12 [some (am_r (some 91)), some (am_i v1), some (am_i v2), none] [] (am_K0, (am_pI σ 94 v2 (σ.1 94 v1)))) : am_X (am_FV G (d + 1) Q) mX11_copies (0, 0) 0 [some (am_r (some 91)), some (am_i v1), some (am_i v2), none] [] (am_K0, σ) := by
  refine am_r_aload_n (nx := 1) rfl rfl (show decode cX11_copies 0 = .ok (.aload_n 0, 1) by decide +kernel) rfl ?_
  refine am_r_getF (nx := 4) 8 cw11 (by decide) rfl (Or.inl fl_X11_17) (ob_91) (fn_91_8) (show decode cX11_copies 1 = .ok (.getfield 17, 3) by decide +kernel) rfl ?_
  refine am_r_iload_n (nx := 5) rfl rfl (show decode cX11_copies 4 = .ok (.iload_n 2, 1) by decide +kernel) rfl ?_
  refine am_r_aload_n (nx := 6) rfl rfl (show decode cX11_copies 5 = .ok (.aload_n 0, 1) by decide +kernel) rfl ?_
  refine am_r_getF (nx := 9) 8 cw11 (by decide) rfl (Or.inl fl_X11_17) (ob_91) (fn_91_8) (show decode cX11_copies 6 = .ok (.getfield 17, 3) by decide +kernel) rfl ?_
  refine am_r_iload_n (nx := 10) rfl rfl (show decode cX11_copies 9 = .ok (.iload_n 1, 1) by decide +kernel) rfl ?_
  refine am_r_iald (nx := 11) (sh_94) (am_shle (sh_94)) hi1 hj2 (show decode cX11_copies 10 = .ok (.iaload, 1) by decide +kernel) rfl ?_
  refine am_r_iast (nx := 12) (sh_94) (am_shle (sh_94)) hi3 hj4 (show decode cX11_copies 11 = .ok (.iastore, 1) by decide +kernel) rfl ?_
  exact k
theorem S_X11_copies_12 {G : am_G} {d : Nat} {Q : am_D → Prop} {σ : am_D} {v1 : Int} {v2 : Int} (hi1 : 0 ≤ v1) (hj2 : v1 < 6) (hi3 : 0 ≤ v2) (hj4 : v2 < 6) (k : am_X (am_FV G (d + 1) Q) mX11_copies (0, 0) 24 [some (am_r (some 91)), some (am_i v1), some (am_i v2), none] [] (am_K0, (am_pI σ 95 v2 (σ.1 95 v1)))) : am_X (am_FV G (d + 1) Q) mX11_copies (0, 0) 12 [some (am_r (some 91)), some (am_i v1), some (am_i v2), none] [] (am_K0, σ) := by
  refine am_r_aload_n (nx := 13) rfl rfl (show decode cX11_copies 12 = .ok (.aload_n 0, 1) by decide +kernel) rfl ?_
  refine am_r_getF (nx := 16) 9 cw11 (by decide) rfl (Or.inl fl_X11_21) (ob_91) (fn_91_9) (show decode cX11_copies 13 = .ok (.getfield 21, 3) by decide +kernel) rfl ?_
  refine am_r_iload_n (nx := 17) rfl rfl (show decode cX11_copies 16 = .ok (.iload_n 2, 1) by decide +kernel) rfl ?_
  refine am_r_aload_n (nx := 18) rfl rfl (show decode cX11_copies 17 = .ok (.aload_n 0, 1) by decide +kernel) rfl ?_
  refine am_r_getF (nx := 21) 9 cw11 (by decide) rfl (Or.inl fl_X11_21) (ob_91) (fn_91_9) (show decode cX11_copies 18 = .ok (.getfield 21, 3) by decide +kernel) rfl ?_
  refine am_r_iload_n (nx := 22) rfl rfl (show decode cX11_copies 21 = .ok (.iload_n 1, 1) by decide +kernel) rfl ?_
  refine am_r_iald (nx := 23) (sh_95) (am_shle (sh_95)) hi1 hj2 (show decode cX11_copies 22 = .ok (.iaload, 1) by decide +kernel) rfl ?_
  refine am_r_iast (nx := 24) (sh_95) (am_shle (sh_95)) hi3 hj4 (show decode cX11_copies 23 = .ok (.iastore, 1) by decide +kernel) rfl ?_
  exact k
theorem S_X11_copies_24 {G : am_G} {d : Nat} {Q : am_D → Prop} {σ : am_D} {v1 : Int} {v2 : Int} (hi1 : 0 ≤ v1) (hj2 : v1 < 6) (hi3 : 0 ≤ v2) (hj4 : v2 < 6) (k : am_X (am_FV G (d + 1) Q) mX11_copies (0, 0) 36 [some (am_r (some 91)), some (am_i v1), some (am_i v2), none] [] (am_K0, (am_pI σ 96 v2 (σ.1 96 v1)))) : am_X (am_FV G (d + 1) Q) mX11_copies (0, 0) 24 [some (am_r (some 91)), some (am_i v1), some (am_i v2), none] [] (am_K0, σ) := by
  refine am_r_aload_n (nx := 25) rfl rfl (show decode cX11_copies 24 = .ok (.aload_n 0, 1) by decide +kernel) rfl ?_
  refine am_r_getF (nx := 28) 10 cw11 (by decide) rfl (Or.inl fl_X11_24) (ob_91) (fn_91_10) (show decode cX11_copies 25 = .ok (.getfield 24, 3) by decide +kernel) rfl ?_
  refine am_r_iload_n (nx := 29) rfl rfl (show decode cX11_copies 28 = .ok (.iload_n 2, 1) by decide +kernel) rfl ?_
  refine am_r_aload_n (nx := 30) rfl rfl (show decode cX11_copies 29 = .ok (.aload_n 0, 1) by decide +kernel) rfl ?_
  refine am_r_getF (nx := 33) 10 cw11 (by decide) rfl (Or.inl fl_X11_24) (ob_91) (fn_91_10) (show decode cX11_copies 30 = .ok (.getfield 24, 3) by decide +kernel) rfl ?_
  refine am_r_iload_n (nx := 34) rfl rfl (show decode cX11_copies 33 = .ok (.iload_n 1, 1) by decide +kernel) rfl ?_
  refine am_r_iald (nx := 35) (sh_96) (am_shle (sh_96)) hi1 hj2 (show decode cX11_copies 34 = .ok (.iaload, 1) by decide +kernel) rfl ?_
  refine am_r_iast (nx := 36) (sh_96) (am_shle (sh_96)) hi3 hj4 (show decode cX11_copies 35 = .ok (.iastore, 1) by decide +kernel) rfl ?_
  exact k
theorem S_X11_copies_36 {G : am_G} {d : Nat} {Q : am_D → Prop} {σ : am_D} {v1 : Int} {v2 : Int} (hi1 : 0 ≤ v1) (hj2 : v1 < 6) (hi3 : 0 ≤ v2) (hj4 : v2 < 6) (k : am_X (am_FV G (d + 1) Q) mX11_copies (0, 0) 48 [some (am_r (some 91)), some (am_i v1), some (am_i v2), none] [] (am_K0, (am_pI σ 97 v2 (σ.1 97 v1)))) : am_X (am_FV G (d + 1) Q) mX11_copies (0, 0) 36 [some (am_r (some 91)), some (am_i v1), some (am_i v2), none] [] (am_K0, σ) := by
  refine am_r_aload_n (nx := 37) rfl rfl (show decode cX11_copies 36 = .ok (.aload_n 0, 1) by decide +kernel) rfl ?_
  refine am_r_getF (nx := 40) 11 cw11 (by decide) rfl (Or.inl fl_X11_27) (ob_91) (fn_91_11) (show decode cX11_copies 37 = .ok (.getfield 27, 3) by decide +kernel) rfl ?_
  refine am_r_iload_n (nx := 41) rfl rfl (show decode cX11_copies 40 = .ok (.iload_n 2, 1) by decide +kernel) rfl ?_
  refine am_r_aload_n (nx := 42) rfl rfl (show decode cX11_copies 41 = .ok (.aload_n 0, 1) by decide +kernel) rfl ?_
  refine am_r_getF (nx := 45) 11 cw11 (by decide) rfl (Or.inl fl_X11_27) (ob_91) (fn_91_11) (show decode cX11_copies 42 = .ok (.getfield 27, 3) by decide +kernel) rfl ?_
  refine am_r_iload_n (nx := 46) rfl rfl (show decode cX11_copies 45 = .ok (.iload_n 1, 1) by decide +kernel) rfl ?_
  refine am_r_iald (nx := 47) (sh_97) (am_shle (sh_97)) hi1 hj2 (show decode cX11_copies 46 = .ok (.iaload, 1) by decide +kernel) rfl ?_
  refine am_r_iast (nx := 48) (sh_97) (am_shle (sh_97)) hi3 hj4 (show decode cX11_copies 47 = .ok (.iastore, 1) by decide +kernel) rfl ?_
  exact k
theorem S_X11_copies_48 {G : am_G} {d : Nat} {Q : am_D → Prop} {σ : am_D} {v1 : Int} {v2 : Int}  (k : am_X (am_FV G (d + 1) Q) mX11_copies (0, 0) 50 [some (am_r (some 91)), some (am_i v1), some (am_i v2), some (am_i 0)] [] (am_K0, σ)) : am_X (am_FV G (d + 1) Q) mX11_copies (0, 0) 48 [some (am_r (some 91)), some (am_i v1), some (am_i v2), none] [] (am_K0, σ) := by
  refine am_r_iconst (nx := 49) (show decode cX11_copies 48 = .ok (.iconst 0, 1) by decide +kernel) rfl ?_
  refine am_r_istore_n (nx := 50) rfl (by decide) rfl (show decode cX11_copies 49 = .ok (.istore_n 3, 1) by decide +kernel) rfl ?_
  exact k
theorem S_X11_copies_50 {G : am_G} {d : Nat} {Q : am_D → Prop} {σ : am_D} {v1 : Int} {v2 : Int} {v3 : Int} (hr1 : -2147483648 ≤ v3 ∧ v3 ≤ 2147483647) (k1 : 18 ≤ v3 → am_X (am_FV G (d + 1) Q) mX11_copies (0, 0) 106 [some (am_r (some 91)), some (am_i v1), some (am_i v2), none] [] (am_K0, σ)) (k2 : ¬ (18 ≤ v3) → am_X (am_FV G (d + 1) Q) mX11_copies (0, 0) 56 [some (am_r (some 91)), some (am_i v1), some (am_i v2), some (am_i v3)] [] (am_K0, σ)) : am_X (am_FV G (d + 1) Q) mX11_copies (0, 0) 50 [some (am_r (some 91)), some (am_i v1), some (am_i v2), some (am_i v3)] [] (am_K0, σ) := by
  refine am_r_iload_n (nx := 51) rfl rfl (show decode cX11_copies 50 = .ok (.iload_n 3, 1) by decide +kernel) rfl ?_
  refine am_r_bipush (nx := 53) rfl (show decode cX11_copies 51 = .ok (.bipush 18, 2) by decide +kernel) rfl ?_
  refine am_r_icmp_ge (tg := 106) (nx := 56) (show decode cX11_copies 53 = .ok (.if_icmp .ge 53, 3) by decide +kernel) (by decide) rfl hr1 (by omega) ?_ ?_
  · exact fun q => am_x_fg [3] (k1 q)
  · exact fun q => k2 q
theorem S_X11_copies_56 {G : am_G} {d : Nat} {Q : am_D → Prop} {σ : am_D} {v1 : Int} {v2 : Int} {v3 : Int} (hi1 : 0 ≤ ((18 * v1) + v3)) (hj2 : ((18 * v1) + v3) < 108) (hi3 : 0 ≤ ((18 * v2) + v3)) (hj4 : ((18 * v2) + v3) < 108) (k : am_X (am_FV G (d + 1) Q) mX11_copies (0, 0) 78 [some (am_r (some 91)), some (am_i v1), some (am_i v2), some (am_i v3)] [] (am_K0, (am_pI σ 98 ((18 * v2) + v3) (σ.1 98 ((18 * v1) + v3))))) : am_X (am_FV G (d + 1) Q) mX11_copies (0, 0) 56 [some (am_r (some 91)), some (am_i v1), some (am_i v2), some (am_i v3)] [] (am_K0, σ) := by
  refine am_r_aload_n (nx := 57) rfl rfl (show decode cX11_copies 56 = .ok (.aload_n 0, 1) by decide +kernel) rfl ?_
  refine am_r_getF (nx := 60) 12 cw11 (by decide) rfl (Or.inl fl_X11_30) (ob_91) (fn_91_12) (show decode cX11_copies 57 = .ok (.getfield 30, 3) by decide +kernel) rfl ?_
  refine am_r_bipush (nx := 62) rfl (show decode cX11_copies 60 = .ok (.bipush 18, 2) by decide +kernel) rfl ?_
  refine am_r_iload_n (nx := 63) rfl rfl (show decode cX11_copies 62 = .ok (.iload_n 2, 1) by decide +kernel) rfl ?_
  refine am_r_imul (nx := 64) (show decode cX11_copies 63 = .ok (.imul, 1) by decide +kernel) rfl ?_
  refine am_r_iload_n (nx := 65) rfl rfl (show decode cX11_copies 64 = .ok (.iload_n 3, 1) by decide +kernel) rfl ?_
  refine am_r_iadd (nx := 66) (show decode cX11_copies 65 = .ok (.iadd, 1) by decide +kernel) rfl ?_
  refine am_r_aload_n (nx := 67) rfl rfl (show decode cX11_copies 66 = .ok (.aload_n 0, 1) by decide +kernel) rfl ?_
  refine am_r_getF (nx := 70) 12 cw11 (by decide) rfl (Or.inl fl_X11_30) (ob_91) (fn_91_12) (show decode cX11_copies 67 = .ok (.getfield 30, 3) by decide +kernel) rfl ?_
  refine am_r_bipush (nx := 72) rfl (show decode cX11_copies 70 = .ok (.bipush 18, 2) by decide +kernel) rfl ?_
  refine am_r_iload_n (nx := 73) rfl rfl (show decode cX11_copies 72 = .ok (.iload_n 1, 1) by decide +kernel) rfl ?_
  refine am_r_imul (nx := 74) (show decode cX11_copies 73 = .ok (.imul, 1) by decide +kernel) rfl ?_
  refine am_r_iload_n (nx := 75) rfl rfl (show decode cX11_copies 74 = .ok (.iload_n 3, 1) by decide +kernel) rfl ?_
  refine am_r_iadd (nx := 76) (show decode cX11_copies 75 = .ok (.iadd, 1) by decide +kernel) rfl ?_
  refine am_r_iald (nx := 77) (sh_98) (am_shle (sh_98)) hi1 hj2 (show decode cX11_copies 76 = .ok (.iaload, 1) by decide +kernel) rfl ?_
  refine am_r_iast (nx := 78) (sh_98) (am_shle (sh_98)) hi3 hj4 (show decode cX11_copies 77 = .ok (.iastore, 1) by decide +kernel) rfl ?_
  exact k
theorem S_X11_copies_78 {G : am_G} {d : Nat} {Q : am_D → Prop} {σ : am_D} {v1 : Int} {v2 : Int} {v3 : Int} (hi1 : 0 ≤ ((18 * v1) + v3)) (hj2 : ((18 * v1) + v3) < 108) (hi3 : 0 ≤ ((18 * v2) + v3)) (hj4 : ((18 * v2) + v3) < 108) (k : am_X (am_FV G (d + 1) Q) mX11_copies (0, 0) 100 [some (am_r (some 91)), some (am_i v1), some (am_i v2), some (am_i v3)] [] (am_K0, (am_pI σ 99 ((18 * v2) + v3) (σ.1 99 ((18 * v1) + v3))))) : am_X (am_FV G (d + 1) Q) mX11_copies (0, 0) 78 [some (am_r (some 91)), some (am_i v1), some (am_i v2), some (am_i v3)] [] (am_K0, σ) := by
  refine am_r_aload_n (nx := 79) rfl rfl (show decode cX11_copies 78 = .ok (.aload_n 0, 1) by decide +kernel) rfl ?_
  refine am_r_getF (nx := 82) 13 cw11 (by decide) rfl (Or.inl fl_X11_33) (ob_91) (fn_91_13) (show decode cX11_copies 79 = .ok (.getfield 33, 3) by decide +kernel) rfl ?_
  refine am_r_bipush (nx := 84) rfl (show decode cX11_copies 82 = .ok (.bipush 18, 2) by decide +kernel) rfl ?_
  refine am_r_iload_n (nx := 85) rfl rfl (show decode cX11_copies 84 = .ok (.iload_n 2, 1) by decide +kernel) rfl ?_
  refine am_r_imul (nx := 86) (show decode cX11_copies 85 = .ok (.imul, 1) by decide +kernel) rfl ?_
  refine am_r_iload_n (nx := 87) rfl rfl (show decode cX11_copies 86 = .ok (.iload_n 3, 1) by decide +kernel) rfl ?_
  refine am_r_iadd (nx := 88) (show decode cX11_copies 87 = .ok (.iadd, 1) by decide +kernel) rfl ?_
  refine am_r_aload_n (nx := 89) rfl rfl (show decode cX11_copies 88 = .ok (.aload_n 0, 1) by decide +kernel) rfl ?_
  refine am_r_getF (nx := 92) 13 cw11 (by decide) rfl (Or.inl fl_X11_33) (ob_91) (fn_91_13) (show decode cX11_copies 89 = .ok (.getfield 33, 3) by decide +kernel) rfl ?_
  refine am_r_bipush (nx := 94) rfl (show decode cX11_copies 92 = .ok (.bipush 18, 2) by decide +kernel) rfl ?_
  refine am_r_iload_n (nx := 95) rfl rfl (show decode cX11_copies 94 = .ok (.iload_n 1, 1) by decide +kernel) rfl ?_
  refine am_r_imul (nx := 96) (show decode cX11_copies 95 = .ok (.imul, 1) by decide +kernel) rfl ?_
  refine am_r_iload_n (nx := 97) rfl rfl (show decode cX11_copies 96 = .ok (.iload_n 3, 1) by decide +kernel) rfl ?_
  refine am_r_iadd (nx := 98) (show decode cX11_copies 97 = .ok (.iadd, 1) by decide +kernel) rfl ?_
  refine am_r_iald (nx := 99) (sh_99) (am_shle (sh_99)) hi1 hj2 (show decode cX11_copies 98 = .ok (.iaload, 1) by decide +kernel) rfl ?_
  refine am_r_iast (nx := 100) (sh_99) (am_shle (sh_99)) hi3 hj4 (show decode cX11_copies 99 = .ok (.iastore, 1) by decide +kernel) rfl ?_
  exact k
theorem S_X11_copies_100 {G : am_G} {d : Nat} {Q : am_D → Prop} {σ : am_D} {v1 : Int} {v2 : Int} {v3 : Int}  (k : am_X (am_FV G (d + 1) Q) mX11_copies (0, 0) 50 [some (am_r (some 91)), some (am_i v1), some (am_i v2), some (am_i (v3 + 1))] [] (am_K0, σ)) : am_X (am_FV G (d + 1) Q) mX11_copies (0, 0) 100 [some (am_r (some 91)), some (am_i v1), some (am_i v2), some (am_i v3)] [] (am_K0, σ) := by
  refine am_r_iinc (nx := 103) rfl rfl (show decode cX11_copies 100 = .ok (.iinc 3 1, 3) by decide +kernel) rfl ?_
  refine am_r_goto (tg := 50) (show decode cX11_copies 103 = .ok (.goto (-53), 3) by decide +kernel) (by decide) ?_
  exact k
theorem S_X11_copies_106 {G : am_G} {d : Nat} {Q : am_D → Prop} {σ : am_D} {v1 : Int} {v2 : Int}  (k : am_X (am_FV G (d + 1) Q) mX11_copies (0, 0) 108 [some (am_r (some 91)), some (am_i v1), some (am_i v2), some (am_i 0)] [] (am_K0, σ)) : am_X (am_FV G (d + 1) Q) mX11_copies (0, 0) 106 [some (am_r (some 91)), some (am_i v1), some (am_i v2), none] [] (am_K0, σ) := by
  refine am_r_iconst (nx := 107) (show decode cX11_copies 106 = .ok (.iconst 0, 1) by decide +kernel) rfl ?_
  refine am_r_istore_n (nx := 108) rfl (by decide) rfl (show decode cX11_copies 107 = .ok (.istore_n 3, 1) by decide +kernel) rfl ?_
  exact k
theorem S_X11_copies_108 {G : am_G} {d : Nat} {Q : am_D → Prop} {σ : am_D} {v1 : Int} {v2 : Int} {v3 : Int} (hr1 : -2147483648 ≤ v3 ∧ v3 ≤ 2147483647) (k1 : 108 ≤ v3 → am_X (am_FV G (d + 1) Q) mX11_copies (0, 0) 164 [some (am_r (some 91)), some (am_i v1), some (am_i v2), none] [] (am_K0, σ)) (k2 : ¬ (108 ≤ v3) → am_X (am_FV G (d + 1) Q) mX11_copies (0, 0) 114 [some (am_r (some 91)), some (am_i v1), some (am_i v2), some (am_i v3)] [] (am_K0, σ)) : am_X (am_FV G (d + 1) Q) mX11_copies (0, 0) 108 [some (am_r (some 91)), some (am_i v1), some (am_i v2), some (am_i v3)] [] (am_K0, σ) := by
  refine am_r_iload_n (nx := 109) rfl rfl (show decode cX11_copies 108 = .ok (.iload_n 3, 1) by decide +kernel) rfl ?_
  refine am_r_bipush (nx := 111) rfl (show decode cX11_copies 109 = .ok (.bipush 108, 2) by decide +kernel) rfl ?_
  refine am_r_icmp_ge (tg := 164) (nx := 114) (show decode cX11_copies 111 = .ok (.if_icmp .ge 53, 3) by decide +kernel) (by decide) rfl hr1 (by omega) ?_ ?_
  · exact fun q => am_x_fg [3] (k1 q)
  · exact fun q => k2 q
theorem S_X11_copies_114 {G : am_G} {d : Nat} {Q : am_D → Prop} {σ : am_D} {v1 : Int} {v2 : Int} {v3 : Int} (hi1 : 0 ≤ ((108 * v1) + v3)) (hj2 : ((108 * v1) + v3) < 648) (hi3 : 0 ≤ ((108 * v2) + v3)) (hj4 : ((108 * v2) + v3) < 648) (k : am_X (am_FV G (d + 1) Q) mX11_copies (0, 0) 136 [some (am_r (some 91)), some (am_i v1), some (am_i v2), some (am_i v3)] [] (am_K0, (am_pI σ 100 ((108 * v2) + v3) (σ.1 100 ((108 * v1) + v3))))) : am_X (am_FV G (d + 1) Q) mX11_copies (0, 0) 114 [some (am_r (some 91)), some (am_i v1), some (am_i v2), some (am_i v3)] [] (am_K0, σ) := by
  refine am_r_aload_n (nx := 115) rfl rfl (show decode cX11_copies 114 = .ok (.aload_n 0, 1) by decide +kernel) rfl ?_
  refine am_r_getF (nx := 118) 14 cw11 (by decide) rfl (Or.inl fl_X11_36) (ob_91) (fn_91_14) (show decode cX11_copies 115 = .ok (.getfield 36, 3) by decide +kernel) rfl ?_
  refine am_r_bipush (nx := 120) rfl (show decode cX11_copies 118 = .ok (.bipush 108, 2) by decide +kernel) rfl ?_
  refine am_r_iload_n (nx := 121) rfl rfl (show decode cX11_copies 120 = .ok (.iload_n 2, 1) by decide +kernel) rfl ?_
  refine am_r_imul (nx := 122) (show decode cX11_copies 121 = .ok (.imul, 1) by decide +kernel) rfl ?_
  refine am_r_iload_n (nx := 123) rfl rfl (show decode cX11_copies 122 = .ok (.iload_n 3, 1) by decide +kernel) rfl ?_
  refine am_r_iadd (nx := 124) (show decode cX11_copies 123 = .ok (.iadd, 1) by decide +kernel) rfl ?_
  refine am_r_aload_n (nx := 125) rfl rfl (show decode cX11_copies 124 = .ok (.aload_n 0, 1) by decide +kernel) rfl ?_
  refine am_r_getF (nx := 128) 14 cw11 (by decide) rfl (Or.inl fl_X11_36) (ob_91) (fn_91_14) (show decode cX11_copies 125 = .ok (.getfield 36, 3) by decide +kernel) rfl ?_
  refine am_r_bipush (nx := 130) rfl (show decode cX11_copies 128 = .ok (.bipush 108, 2) by decide +kernel) rfl ?_
  refine am_r_iload_n (nx := 131) rfl rfl (show decode cX11_copies 130 = .ok (.iload_n 1, 1) by decide +kernel) rfl ?_
  refine am_r_imul (nx := 132) (show decode cX11_copies 131 = .ok (.imul, 1) by decide +kernel) rfl ?_
  refine am_r_iload_n (nx := 133) rfl rfl (show decode cX11_copies 132 = .ok (.iload_n 3, 1) by decide +kernel) rfl ?_
  refine am_r_iadd (nx := 134) (show decode cX11_copies 133 = .ok (.iadd, 1) by decide +kernel) rfl ?_
  refine am_r_iald (nx := 135) (sh_100) (am_shle (sh_100)) hi1 hj2 (show decode cX11_copies 134 = .ok (.iaload, 1) by decide +kernel) rfl ?_
  refine am_r_iast (nx := 136) (sh_100) (am_shle (sh_100)) hi3 hj4 (show decode cX11_copies 135 = .ok (.iastore, 1) by decide +kernel) rfl ?_
  exact k
theorem S_X11_copies_136 {G : am_G} {d : Nat} {Q : am_D → Prop} {σ : am_D} {v1 : Int} {v2 : Int} {v3 : Int} (hi1 : 0 ≤ ((108 * v1) + v3)) (hj2 : ((108 * v1) + v3) < 648) (hi3 : 0 ≤ ((108 * v2) + v3)) (hj4 : ((108 * v2) + v3) < 648) (k : am_X (am_FV G (d + 1) Q) mX11_copies (0, 0) 158 [some (am_r (some 91)), some (am_i v1), some (am_i v2), some (am_i v3)] [] (am_K0, (am_pI σ 101 ((108 * v2) + v3) (σ.1 101 ((108 * v1) + v3))))) : am_X (am_FV G (d + 1) Q) mX11_copies (0, 0) 136 [some (am_r (some 91)), some (am_i v1), some (am_i v2), some (am_i v3)] [] (am_K0, σ) := by
  refine am_r_aload_n (nx := 137) rfl rfl (show decode cX11_copies 136 = .ok (.aload_n 0, 1) by decide +kernel) rfl ?_
  refine am_r_getF (nx := 140) 15 cw11 (by decide) rfl (Or.inl fl_X11_39) (ob_91) (fn_91_15) (show decode cX11_copies 137 = .ok (.getfield 39, 3) by decide +kernel) rfl ?_
  refine am_r_bipush (nx := 142) rfl (show decode cX11_copies 140 = .ok (.bipush 108, 2) by decide +kernel) rfl ?_
  refine am_r_iload_n (nx := 143) rfl rfl (show decode cX11_copies 142 = .ok (.iload_n 2, 1) by decide +kernel) rfl ?_
  refine am_r_imul (nx := 144) (show decode cX11_copies 143 = .ok (.imul, 1) by decide +kernel) rfl ?_
  refine am_r_iload_n (nx := 145) rfl rfl (show decode cX11_copies 144 = .ok (.iload_n 3, 1) by decide +kernel) rfl ?_
  refine am_r_iadd (nx := 146) (show decode cX11_copies 145 = .ok (.iadd, 1) by decide +kernel) rfl ?_
  refine am_r_aload_n (nx := 147) rfl rfl (show decode cX11_copies 146 = .ok (.aload_n 0, 1) by decide +kernel) rfl ?_
  refine am_r_getF (nx := 150) 15 cw11 (by decide) rfl (Or.inl fl_X11_39) (ob_91) (fn_91_15) (show decode cX11_copies 147 = .ok (.getfield 39, 3) by decide +kernel) rfl ?_
  refine am_r_bipush (nx := 152) rfl (show decode cX11_copies 150 = .ok (.bipush 108, 2) by decide +kernel) rfl ?_
  refine am_r_iload_n (nx := 153) rfl rfl (show decode cX11_copies 152 = .ok (.iload_n 1, 1) by decide +kernel) rfl ?_
  refine am_r_imul (nx := 154) (show decode cX11_copies 153 = .ok (.imul, 1) by decide +kernel) rfl ?_
  refine am_r_iload_n (nx := 155) rfl rfl (show decode cX11_copies 154 = .ok (.iload_n 3, 1) by decide +kernel) rfl ?_
  refine am_r_iadd (nx := 156) (show decode cX11_copies 155 = .ok (.iadd, 1) by decide +kernel) rfl ?_
  refine am_r_iald (nx := 157) (sh_101) (am_shle (sh_101)) hi1 hj2 (show decode cX11_copies 156 = .ok (.iaload, 1) by decide +kernel) rfl ?_
  refine am_r_iast (nx := 158) (sh_101) (am_shle (sh_101)) hi3 hj4 (show decode cX11_copies 157 = .ok (.iastore, 1) by decide +kernel) rfl ?_
  exact k
theorem S_X11_copies_158 {G : am_G} {d : Nat} {Q : am_D → Prop} {σ : am_D} {v1 : Int} {v2 : Int} {v3 : Int}  (k : am_X (am_FV G (d + 1) Q) mX11_copies (0, 0) 108 [some (am_r (some 91)), some (am_i v1), some (am_i v2), some (am_i (v3 + 1))] [] (am_K0, σ)) : am_X (am_FV G (d + 1) Q) mX11_copies (0, 0) 158 [some (am_r (some 91)), some (am_i v1), some (am_i v2), some (am_i v3)] [] (am_K0, σ) := by
  refine am_r_iinc (nx := 161) rfl rfl (show decode cX11_copies 158 = .ok (.iinc 3 1, 3) by decide +kernel) rfl ?_
  refine am_r_goto (tg := 108) (show decode cX11_copies 161 = .ok (.goto (-53), 3) by decide +kernel) (by decide) ?_
  exact k
theorem S_X11_copies_164 {G : am_G} {d : Nat} {Q : am_D → Prop} {σ : am_D} {v1 : Int} {v2 : Int}  (k : am_X (am_FV G (d + 1) Q) mX11_copies (0, 0) 166 [some (am_r (some 91)), some (am_i v1), some (am_i v2), some (am_i 0)] [] (am_K0, σ)) : am_X (am_FV G (d + 1) Q) mX11_copies (0, 0) 164 [some (am_r (some 91)), some (am_i v1), some (am_i v2), none] [] (am_K0, σ) := by
  refine am_r_iconst (nx := 165) (show decode cX11_copies 164 = .ok (.iconst 0, 1) by decide +kernel) rfl ?_
  refine am_r_istore_n (nx := 166) rfl (by decide) rfl (show decode cX11_copies 165 = .ok (.istore_n 3, 1) by decide +kernel) rfl ?_
  exact k
theorem S_X11_copies_166 {G : am_G} {d : Nat} {Q : am_D → Prop} {σ : am_D} {v1 : Int} {v2 : Int} {v3 : Int} (hr1 : -2147483648 ≤ v3 ∧ v3 ≤ 2147483647) (k1 : 6 ≤ v3 → am_X (am_FV G (d + 1) Q) mX11_copies (0, 0) 200 [some (am_r (some 91)), some (am_i v1), some (am_i v2), none] [] (am_K0, σ)) (k2 : ¬ (6 ≤ v3) → am_X (am_FV G (d + 1) Q) mX11_copies (0, 0) 172 [some (am_r (some 91)), some (am_i v1), some (am_i v2), some (am_i v3)] [] (am_K0, σ)) : am_X (am_FV G (d + 1) Q) mX11_copies (0, 0) 166 [some (am_r (some 91)), some (am_i v1), some (am_i v2), some (am_i v3)] [] (am_K0, σ) := by
  refine am_r_iload_n (nx := 167) rfl rfl (show decode cX11_copies 166 = .ok (.iload_n 3, 1) by decide +kernel) rfl ?_
  refine am_r_bipush (nx := 169) rfl (show decode cX11_copies 167 = .ok (.bipush 6, 2) by decide +kernel) rfl ?_
  refine am_r_icmp_ge (tg := 200) (nx := 172) (show decode cX11_copies 169 = .ok (.if_icmp .ge 31, 3) by decide +kernel) (by decide) rfl hr1 (by omega) ?_ ?_
  · exact fun q => am_x_fg [3] (k1 q)
  · exact fun q => k2 q
theorem S_X11_copies_172 {G : am_G} {d : Nat} {Q : am_D → Prop} {σ : am_D} {v1 : Int} {v2 : Int} {v3 : Int} (hi1 : 0 ≤ ((6 * v1) + v3)) (hj2 : ((6 * v1) + v3) < 36) (hi3 : 0 ≤ ((6 * v2) + v3)) (hj4 : ((6 * v2) + v3) < 36) (k : am_X (am_FV G (d + 1) Q) mX11_copies (0, 0) 194 [some (am_r (some 91)), some (am_i v1), some (am_i v2), some (am_i v3)] [] (am_K0, (am_pI σ 102 ((6 * v2) + v3) (σ.1 102 ((6 * v1) + v3))))) : am_X (am_FV G (d + 1) Q) mX11_copies (0, 0) 172 [some (am_r (some 91)), some (am_i v1), some (am_i v2), some (am_i v3)] [] (am_K0, σ) := by
  refine am_r_aload_n (nx := 173) rfl rfl (show decode cX11_copies 172 = .ok (.aload_n 0, 1) by decide +kernel) rfl ?_
  refine am_r_getF (nx := 176) 16 cw11 (by decide) rfl (Or.inl fl_X11_42) (ob_91) (fn_91_16) (show decode cX11_copies 173 = .ok (.getfield 42, 3) by decide +kernel) rfl ?_
  refine am_r_bipush (nx := 178) rfl (show decode cX11_copies 176 = .ok (.bipush 6, 2) by decide +kernel) rfl ?_
  refine am_r_iload_n (nx := 179) rfl rfl (show decode cX11_copies 178 = .ok (.iload_n 2, 1) by decide +kernel) rfl ?_
  refine am_r_imul (nx := 180) (show decode cX11_copies 179 = .ok (.imul, 1) by decide +kernel) rfl ?_
  refine am_r_iload_n (nx := 181) rfl rfl (show decode cX11_copies 180 = .ok (.iload_n 3, 1) by decide +kernel) rfl ?_
  refine am_r_iadd (nx := 182) (show decode cX11_copies 181 = .ok (.iadd, 1) by decide +kernel) rfl ?_
  refine am_r_aload_n (nx := 183) rfl rfl (show decode cX11_copies 182 = .ok (.aload_n 0, 1) by decide +kernel) rfl ?_
  refine am_r_getF (nx := 186) 16 cw11 (by decide) rfl (Or.inl fl_X11_42) (ob_91) (fn_91_16) (show decode cX11_copies 183 = .ok (.getfield 42, 3) by decide +kernel) rfl ?_
  refine am_r_bipush (nx := 188) rfl (show decode cX11_copies 186 = .ok (.bipush 6, 2) by decide +kernel) rfl ?_
  refine am_r_iload_n (nx := 189) rfl rfl (show decode cX11_copies 188 = .ok (.iload_n 1, 1) by decide +kernel) rfl ?_
  refine am_r_imul (nx := 190) (show decode cX11_copies 189 = .ok (.imul, 1) by decide +kernel) rfl ?_
  refine am_r_iload_n (nx := 191) rfl rfl (show decode cX11_copies 190 = .ok (.iload_n 3, 1) by decide +kernel) rfl ?_
  refine am_r_iadd (nx := 192) (show decode cX11_copies 191 = .ok (.iadd, 1) by decide +kernel) rfl ?_
  refine am_r_iald (nx := 193) (sh_102) (am_shle (sh_102)) hi1 hj2 (show decode cX11_copies 192 = .ok (.iaload, 1) by decide +kernel) rfl ?_
  refine am_r_iast (nx := 194) (sh_102) (am_shle (sh_102)) hi3 hj4 (show decode cX11_copies 193 = .ok (.iastore, 1) by decide +kernel) rfl ?_
  exact k
theorem S_X11_copies_194 {G : am_G} {d : Nat} {Q : am_D → Prop} {σ : am_D} {v1 : Int} {v2 : Int} {v3 : Int}  (k : am_X (am_FV G (d + 1) Q) mX11_copies (0, 0) 166 [some (am_r (some 91)), some (am_i v1), some (am_i v2), some (am_i (v3 + 1))] [] (am_K0, σ)) : am_X (am_FV G (d + 1) Q) mX11_copies (0, 0) 194 [some (am_r (some 91)), some (am_i v1), some (am_i v2), some (am_i v3)] [] (am_K0, σ) := by
  refine am_r_iinc (nx := 197) rfl rfl (show decode cX11_copies 194 = .ok (.iinc 3 1, 3) by decide +kernel) rfl ?_
  refine am_r_goto (tg := 166) (show decode cX11_copies 197 = .ok (.goto (-31), 3) by decide +kernel) (by decide) ?_
  exact k
theorem S_X11_copies_200 {G : am_G} {d : Nat} {Q : am_D → Prop} {σ : am_D} {v1 : Int} {v2 : Int}  (k : am_X (am_FV G (d + 1) Q) mX11_copies (0, 0) 202 [some (am_r (some 91)), some (am_i v1), some (am_i v2), some (am_i 0)] [] (am_K0, σ)) : am_X (am_FV G (d + 1) Q) mX11_copies (0, 0) 200 [some (am_r (some 91)), some (am_i v1), some (am_i v2), none] [] (am_K0, σ) := by
  refine am_r_iconst (nx := 201) (show decode cX11_copies 200 = .ok (.iconst 0, 1) by decide +kernel) rfl ?_
  refine am_r_istore_n (nx := 202) rfl (by decide) rfl (show decode cX11_copies 201 = .ok (.istore_n 3, 1) by decide +kernel) rfl ?_
  exact k
theorem S_X11_copies_202 {G : am_G} {d : Nat} {Q : am_D → Prop} {σ : am_D} {v1 : Int} {v2 : Int} {v3 : Int} (hr1 : -2147483648 ≤ v3 ∧ v3 ≤ 2147483647) (k1 : 72 ≤ v3 → am_X (am_FV G (d + 1) Q) mX11_copies (0, 0) 258 [some (am_r (some 91)), some (am_i v1), some (am_i v2), none] [] (am_K0, σ)) (k2 : ¬ (72 ≤ v3) → am_X (am_FV G (d + 1) Q) mX11_copies (0, 0) 208 [some (am_r (some 91)), some (am_i v1), some (am_i v2), some (am_i v3)] [] (am_K0, σ)) : am_X (am_FV G (d + 1) Q) mX11_copies (0, 0) 202 [some (am_r (some 91)), some (am_i v1), some (am_i v2), some (am_i v3)] [] (am_K0, σ) := by
  refine am_r_iload_n (nx := 203) rfl rfl (show decode cX11_copies 202 = .ok (.iload_n 3, 1) by decide +kernel) rfl ?_
  refine am_r_bipush (nx := 205) rfl (show decode cX11_copies 203 = .ok (.bipush 72, 2) by decide +kernel) rfl ?_
  refine am_r_icmp_ge (tg := 258) (nx := 208) (show decode cX11_copies 205 = .ok (.if_icmp .ge 53, 3) by decide +kernel) (by decide) rfl hr1 (by omega) ?_ ?_
  · exact fun q => am_x_fg [3] (k1 q)
  · exact fun q => k2 q
theorem S_X11_copies_208 {G : am_G} {d : Nat} {Q : am_D → Prop} {σ : am_D} {v1 : Int} {v2 : Int} {v3 : Int} (hi1 : 0 ≤ ((72 * v1) + v3)) (hj2 : ((72 * v1) + v3) < 432) (hi3 : 0 ≤ ((72 * v2) + v3)) (hj4 : ((72 * v2) + v3) < 432) (k : am_X (am_FV G (d + 1) Q) mX11_copies (0, 0) 230 [some (am_r (some 91)), some (am_i v1), some (am_i v2), some (am_i v3)] [] (am_K0, (am_pI σ 103 ((72 * v2) + v3) (σ.1 103 ((72 * v1) + v3))))) : am_X (am_FV G (d + 1) Q) mX11_copies (0, 0) 208 [some (am_r (some 91)), some (am_i v1), some (am_i v2), some (am_i v3)] [] (am_K0, σ) := by
  refine am_r_aload_n (nx := 209) rfl rfl (show decode cX11_copies 208 = .ok (.aload_n 0, 1) by decide +kernel) rfl ?_
  refine am_r_getF (nx := 212) 17 cw11 (by decide) rfl (Or.inl fl_X11_45) (ob_91) (fn_91_17) (show decode cX11_copies 209 = .ok (.getfield 45, 3) by decide +kernel) rfl ?_
  refine am_r_bipush (nx := 214) rfl (show decode cX11_copies 212 = .ok (.bipush 72, 2) by decide +kernel) rfl ?_
  refine am_r_iload_n (nx := 215) rfl rfl (show decode cX11_copies 214 = .ok (.iload_n 2, 1) by decide +kernel) rfl ?_
  refine am_r_imul (nx := 216) (show decode cX11_copies 215 = .ok (.imul, 1) by decide +kernel) rfl ?_
  refine am_r_iload_n (nx := 217) rfl rfl (show decode cX11_copies 216 = .ok (.iload_n 3, 1) by decide +kernel) rfl ?_
  refine am_r_iadd (nx := 218) (show decode cX11_copies 217 = .ok (.iadd, 1) by decide +kernel) rfl ?_
  refine am_r_aload_n (nx := 219) rfl rfl (show decode cX11_copies 218 = .ok (.aload_n 0, 1) by decide +kernel) rfl ?_
  refine am_r_getF (nx := 222) 17 cw11 (by decide) rfl (Or.inl fl_X11_45) (ob_91) (fn_91_17) (show decode cX11_copies 219 = .ok (.getfield 45, 3) by decide +kernel) rfl ?_
  refine am_r_bipush (nx := 224) rfl (show decode cX11_copies 222 = .ok (.bipush 72, 2) by decide +kernel) rfl ?_
  refine am_r_iload_n (nx := 225) rfl rfl (show decode cX11_copies 224 = .ok (.iload_n 1, 1) by decide +kernel) rfl ?_
  refine am_r_imul (nx := 226) (show decode cX11_copies 225 = .ok (.imul, 1) by decide +kernel) rfl ?_
  refine am_r_iload_n (nx := 227) rfl rfl (show decode cX11_copies 226 = .ok (.iload_n 3, 1) by decide +kernel) rfl ?_
  refine am_r_iadd (nx := 228) (show decode cX11_copies 227 = .ok (.iadd, 1) by decide +kernel) rfl ?_
  refine am_r_iald (nx := 229) (sh_103) (am_shle (sh_103)) hi1 hj2 (show decode cX11_copies 228 = .ok (.iaload, 1) by decide +kernel) rfl ?_
  refine am_r_iast (nx := 230) (sh_103) (am_shle (sh_103)) hi3 hj4 (show decode cX11_copies 229 = .ok (.iastore, 1) by decide +kernel) rfl ?_
  exact k
theorem S_X11_copies_230 {G : am_G} {d : Nat} {Q : am_D → Prop} {σ : am_D} {v1 : Int} {v2 : Int} {v3 : Int} (hi1 : 0 ≤ ((72 * v1) + v3)) (hj2 : ((72 * v1) + v3) < 432) (hi3 : 0 ≤ ((72 * v2) + v3)) (hj4 : ((72 * v2) + v3) < 432) (k : am_X (am_FV G (d + 1) Q) mX11_copies (0, 0) 252 [some (am_r (some 91)), some (am_i v1), some (am_i v2), some (am_i v3)] [] (am_K0, (am_pI σ 104 ((72 * v2) + v3) (σ.1 104 ((72 * v1) + v3))))) : am_X (am_FV G (d + 1) Q) mX11_copies (0, 0) 230 [some (am_r (some 91)), some (am_i v1), some (am_i v2), some (am_i v3)] [] (am_K0, σ) := by
  refine am_r_aload_n (nx := 231) rfl rfl (show decode cX11_copies 230 = .ok (.aload_n 0, 1) by decide +kernel) rfl ?_
  refine am_r_getF (nx := 234) 18 cw11 (by decide) rfl (Or.inl fl_X11_48) (ob_91) (fn_91_18) (show decode cX11_copies 231 = .ok (.getfield 48, 3) by decide +kernel) rfl ?_
  refine am_r_bipush (nx := 236) rfl (show decode cX11_copies 234 = .ok (.bipush 72, 2) by decide +kernel) rfl ?_
  refine am_r_iload_n (nx := 237) rfl rfl (show decode cX11_copies 236 = .ok (.iload_n 2, 1) by decide +kernel) rfl ?_
  refine am_r_imul (nx := 238) (show decode cX11_copies 237 = .ok (.imul, 1) by decide +kernel) rfl ?_
  refine am_r_iload_n (nx := 239) rfl rfl (show decode cX11_copies 238 = .ok (.iload_n 3, 1) by decide +kernel) rfl ?_
  refine am_r_iadd (nx := 240) (show decode cX11_copies 239 = .ok (.iadd, 1) by decide +kernel) rfl ?_
  refine am_r_aload_n (nx := 241) rfl rfl (show decode cX11_copies 240 = .ok (.aload_n 0, 1) by decide +kernel) rfl ?_
  refine am_r_getF (nx := 244) 18 cw11 (by decide) rfl (Or.inl fl_X11_48) (ob_91) (fn_91_18) (show decode cX11_copies 241 = .ok (.getfield 48, 3) by decide +kernel) rfl ?_
  refine am_r_bipush (nx := 246) rfl (show decode cX11_copies 244 = .ok (.bipush 72, 2) by decide +kernel) rfl ?_
  refine am_r_iload_n (nx := 247) rfl rfl (show decode cX11_copies 246 = .ok (.iload_n 1, 1) by decide +kernel) rfl ?_
  refine am_r_imul (nx := 248) (show decode cX11_copies 247 = .ok (.imul, 1) by decide +kernel) rfl ?_
  refine am_r_iload_n (nx := 249) rfl rfl (show decode cX11_copies 248 = .ok (.iload_n 3, 1) by decide +kernel) rfl ?_
  refine am_r_iadd (nx := 250) (show decode cX11_copies 249 = .ok (.iadd, 1) by decide +kernel) rfl ?_
  refine am_r_iald (nx := 251) (sh_104) (am_shle (sh_104)) hi1 hj2 (show decode cX11_copies 250 = .ok (.iaload, 1) by decide +kernel) rfl ?_
  refine am_r_iast (nx := 252) (sh_104) (am_shle (sh_104)) hi3 hj4 (show decode cX11_copies 251 = .ok (.iastore, 1) by decide +kernel) rfl ?_
  exact k
theorem S_X11_copies_252 {G : am_G} {d : Nat} {Q : am_D → Prop} {σ : am_D} {v1 : Int} {v2 : Int} {v3 : Int}  (k : am_X (am_FV G (d + 1) Q) mX11_copies (0, 0) 202 [some (am_r (some 91)), some (am_i v1), some (am_i v2), some (am_i (v3 + 1))] [] (am_K0, σ)) : am_X (am_FV G (d + 1) Q) mX11_copies (0, 0) 252 [some (am_r (some 91)), some (am_i v1), some (am_i v2), some (am_i v3)] [] (am_K0, σ) := by
  refine am_r_iinc (nx := 255) rfl rfl (show decode cX11_copies 252 = .ok (.iinc 3 1, 3) by decide +kernel) rfl ?_
  refine am_r_goto (tg := 202) (show decode cX11_copies 255 = .ok (.goto (-53), 3) by decide +kernel) (by decide) ?_
  exact k
theorem S_X11_copies_258 {G : am_G} {d : Nat} {Q : am_D → Prop} {σ : am_D} {v1 : Int} {v2 : Int}  (k : am_X (am_FV G (d + 1) Q) mX11_copies (0, 0) 260 [some (am_r (some 91)), some (am_i v1), some (am_i v2), some (am_i 0)] [] (am_K0, σ)) : am_X (am_FV G (d + 1) Q) mX11_copies (0, 0) 258 [some (am_r (some 91)), some (am_i v1), some (am_i v2), none] [] (am_K0, σ) := by
  refine am_r_iconst (nx := 259) (show decode cX11_copies 258 = .ok (.iconst 0, 1) by decide +kernel) rfl ?_
  refine am_r_istore_n (nx := 260) rfl (by decide) rfl (show decode cX11_copies 259 = .ok (.istore_n 3, 1) by decide +kernel) rfl ?_
  exact k
theorem S_X11_copies_260 {G : am_G} {d : Nat} {Q : am_D → Prop} {σ : am_D} {v1 : Int} {v2 : Int} {v3 : Int} (hr1 : -2147483648 ≤ v3 ∧ v3 ≤ 2147483647) (k1 : 24 ≤ v3 → am_X (am_FV G (d + 1) Q) mX11_copies (0, 0) 294 [some (am_r (some 91)), some (am_i v1), some (am_i v2), none] [] (am_K0, σ)) (k2 : ¬ (24 ≤ v3) → am_X (am_FV G (d + 1) Q) mX11_copies (0, 0) 266 [some (am_r (some 91)), some (am_i v1), some (am_i v2), some (am_i v3)] [] (am_K0, σ)) : am_X (am_FV G (d + 1) Q) mX11_copies (0, 0) 260 [some (am_r (some 91)), some (am_i v1), some (am_i v2), some (am_i v3)] [] (am_K0, σ) := by
  refine am_r_iload_n (nx := 261) rfl rfl (show decode cX11_copies 260 = .ok (.iload_n 3, 1) by decide +kernel) rfl ?_
  refine am_r_bipush (nx := 263) rfl (show decode cX11_copies 261 = .ok (.bipush 24, 2) by decide +kernel) rfl ?_
  refine am_r_icmp_ge (tg := 294) (nx := 266) (show decode cX11_copies 263 = .ok (.if_icmp .ge 31, 3) by decide +kernel) (by decide) rfl hr1 (by omega) ?_ ?_
  · exact fun q => am_x_fg [3] (k1 q)
  · exact fun q => k2 q
theorem S_X11_copies_266 {G : am_G} {d : Nat} {Q : am_D → Prop} {σ : am_D} {v1 : Int} {v2 : Int} {v3 : Int} (hi1 : 0 ≤ ((24 * v1) + v3)) (hj2 : ((24 * v1) + v3) < 144) (hi3 : 0 ≤ ((24 * v2) + v3)) (hj4 : ((24 * v2) + v3) < 144) (k : am_X (am_FV G (d + 1) Q) mX11_copies (0, 0) 288 [some (am_r (some 91)), some (am_i v1), some (am_i v2), some (am_i v3)] [] (am_K0, (am_pI σ 105 ((24 * v2) + v3) (σ.1 105 ((24 * v1) + v3))))) : am_X (am_FV G (d + 1) Q) mX11_copies (0, 0) 266 [some (am_r (some 91)), some (am_i v1), some (am_i v2), some (am_i v3)] [] (am_K0, σ) := by
  refine am_r_aload_n (nx := 267) rfl rfl (show decode cX11_copies 266 = .ok (.aload_n 0, 1) by decide +kernel) rfl ?_
  refine am_r_getF (nx := 270) 19 cw11 (by decide) rfl (Or.inl fl_X11_51) (ob_91) (fn_91_19) (show decode cX11_copies 267 = .ok (.getfield 51, 3) by decide +kernel) rfl ?_
  refine am_r_bipush (nx := 272) rfl (show decode cX11_copies 270 = .ok (.bipush 24, 2) by decide +kernel) rfl ?_
  refine am_r_iload_n (nx := 273) rfl rfl (show decode cX11_copies 272 = .ok (.iload_n 2, 1) by decide +kernel) rfl ?_
  refine am_r_imul (nx := 274) (show decode cX11_copies 273 = .ok (.imul, 1) by decide +kernel) rfl ?_
  refine am_r_iload_n (nx := 275) rfl rfl (show decode cX11_copies 274 = .ok (.iload_n 3, 1) by decide +kernel) rfl ?_
  refine am_r_iadd (nx := 276) (show decode cX11_copies 275 = .ok (.iadd, 1) by decide +kernel) rfl ?_
  refine am_r_aload_n (nx := 277) rfl rfl (show decode cX11_copies 276 = .ok (.aload_n 0, 1) by decide +kernel) rfl ?_
  refine am_r_getF (nx := 280) 19 cw11 (by decide) rfl (Or.inl fl_X11_51) (ob_91) (fn_91_19) (show decode cX11_copies 277 = .ok (.getfield 51, 3) by decide +kernel) rfl ?_
  refine am_r_bipush (nx := 282) rfl (show decode cX11_copies 280 = .ok (.bipush 24, 2) by decide +kernel) rfl ?_
  refine am_r_iload_n (nx := 283) rfl rfl (show decode cX11_copies 282 = .ok (.iload_n 1, 1) by decide +kernel) rfl ?_
  refine am_r_imul (nx := 284) (show decode cX11_copies 283 = .ok (.imul, 1) by decide +kernel) rfl ?_
  refine am_r_iload_n (nx := 285) rfl rfl (show decode cX11_copies 284 = .ok (.iload_n 3, 1) by decide +kernel) rfl ?_
  refine am_r_iadd (nx := 286) (show decode cX11_copies 285 = .ok (.iadd, 1) by decide +kernel) rfl ?_
  refine am_r_iald (nx := 287) (sh_105) (am_shle (sh_105)) hi1 hj2 (show decode cX11_copies 286 = .ok (.iaload, 1) by decide +kernel) rfl ?_
  refine am_r_iast (nx := 288) (sh_105) (am_shle (sh_105)) hi3 hj4 (show decode cX11_copies 287 = .ok (.iastore, 1) by decide +kernel) rfl ?_
  exact k
theorem S_X11_copies_288 {G : am_G} {d : Nat} {Q : am_D → Prop} {σ : am_D} {v1 : Int} {v2 : Int} {v3 : Int}  (k : am_X (am_FV G (d + 1) Q) mX11_copies (0, 0) 260 [some (am_r (some 91)), some (am_i v1), some (am_i v2), some (am_i (v3 + 1))] [] (am_K0, σ)) : am_X (am_FV G (d + 1) Q) mX11_copies (0, 0) 288 [some (am_r (some 91)), some (am_i v1), some (am_i v2), some (am_i v3)] [] (am_K0, σ) := by
  refine am_r_iinc (nx := 291) rfl rfl (show decode cX11_copies 288 = .ok (.iinc 3 1, 3) by decide +kernel) rfl ?_
  refine am_r_goto (tg := 260) (show decode cX11_copies 291 = .ok (.goto (-31), 3) by decide +kernel) (by decide) ?_
  exact k
theorem S_X11_copies_294 {G : am_G} {d : Nat} {Q : am_D → Prop} {σ : am_D} {v1 : Int} {v2 : Int}  (k : am_X (am_FV G (d + 1) Q) mX11_copies (0, 0) 296 [some (am_r (some 91)), some (am_i v1), some (am_i v2), some (am_i 0)] [] (am_K0, σ)) : am_X (am_FV G (d + 1) Q) mX11_copies (0, 0) 294 [some (am_r (some 91)), some (am_i v1), some (am_i v2), none] [] (am_K0, σ) := by
  refine am_r_iconst (nx := 295) (show decode cX11_copies 294 = .ok (.iconst 0, 1) by decide +kernel) rfl ?_
  refine am_r_istore_n (nx := 296) rfl (by decide) rfl (show decode cX11_copies 295 = .ok (.istore_n 3, 1) by decide +kernel) rfl ?_
  exact k
theorem S_X11_copies_296 {G : am_G} {d : Nat} {Q : am_D → Prop} {σ : am_D} {v1 : Int} {v2 : Int} {v3 : Int} (hr1 : -2147483648 ≤ v3 ∧ v3 ≤ 2147483647) (k1 : 600 ≤ v3 → am_X (am_FV G (d + 1) Q) mX11_copies (0, 0) 333 [some (am_r (some 91)), none, some (am_i v2), none] [] (am_K0, σ)) (k2 : ¬ (600 ≤ v3) → am_X (am_FV G (d + 1) Q) mX11_copies (0, 0) 303 [some (am_r (some 91)), some (am_i v1), some (am_i v2), some (am_i v3)] [] (am_K0, σ)) : am_X (am_FV G (d + 1) Q) mX11_copies (0, 0) 296 [some (am_r (some 91)), some (am_i v1), some (am_i v2), some (am_i v3)] [] (am_K0, σ) := by
  refine am_r_iload_n (nx := 297) rfl rfl (show decode cX11_copies 296 = .ok (.iload_n 3, 1) by decide +kernel) rfl ?_
  refine am_r_sipush (nx := 300) rfl (show decode cX11_copies 297 = .ok (.sipush 600, 3) by decide +kernel) rfl ?_
  refine am_r_icmp_ge (tg := 333) (nx := 303) (show decode cX11_copies 300 = .ok (.if_icmp .ge 33, 3) by decide +kernel) (by decide) rfl hr1 (by omega) ?_ ?_
  · exact fun q => am_x_fg [1, 3] (k1 q)
  · exact fun q => k2 q
theorem S_X11_copies_303 {G : am_G} {d : Nat} {Q : am_D → Prop} {σ : am_D} {v1 : Int} {v2 : Int} {v3 : Int} (hi1 : 0 ≤ ((600 * v1) + v3)) (hj2 : ((600 * v1) + v3) < 3600) (hi3 : 0 ≤ ((600 * v2) + v3)) (hj4 : ((600 * v2) + v3) < 3600) (k : am_X (am_FV G (d + 1) Q) mX11_copies (0, 0) 327 [some (am_r (some 91)), some (am_i v1), some (am_i v2), some (am_i v3)] [] (am_K0, (am_pI σ 106 ((600 * v2) + v3) (σ.1 106 ((600 * v1) + v3))))) : am_X (am_FV G (d + 1) Q) mX11_copies (0, 0) 303 [some (am_r (some 91)), some (am_i v1), some (am_i v2), some (am_i v3)] [] (am_K0, σ) := by
  refine am_r_aload_n (nx := 304) rfl rfl (show decode cX11_copies 303 = .ok (.aload_n 0, 1) by decide +kernel) rfl ?_
  refine am_r_getF (nx := 307) 20 cw11 (by decide) rfl (Or.inl fl_X11_54) (ob_91) (fn_91_20) (show decode cX11_copies 304 = .ok (.getfield 54, 3) by decide +kernel) rfl ?_
  refine am_r_sipush (nx := 310) rfl (show decode cX11_copies 307 = .ok (.sipush 600, 3) by decide +kernel) rfl ?_
  refine am_r_iload_n (nx := 311) rfl rfl (show decode cX11_copies 310 = .ok (.iload_n 2, 1) by decide +kernel) rfl ?_
  refine am_r_imul (nx := 312) (show decode cX11_copies 311 = .ok (.imul, 1) by decide +kernel) rfl ?_
  refine am_r_iload_n (nx := 313) rfl rfl (show decode cX11_copies 312 = .ok (.iload_n 3, 1) by decide +kernel) rfl ?_
  refine am_r_iadd (nx := 314) (show decode cX11_copies 313 = .ok (.iadd, 1) by decide +kernel) rfl ?_
  refine am_r_aload_n (nx := 315) rfl rfl (show decode cX11_copies 314 = .ok (.aload_n 0, 1) by decide +kernel) rfl ?_
  refine am_r_getF (nx := 318) 20 cw11 (by decide) rfl (Or.inl fl_X11_54) (ob_91) (fn_91_20) (show decode cX11_copies 315 = .ok (.getfield 54, 3) by decide +kernel) rfl ?_
  refine am_r_sipush (nx := 321) rfl (show decode cX11_copies 318 = .ok (.sipush 600, 3) by decide +kernel) rfl ?_
  refine am_r_iload_n (nx := 322) rfl rfl (show decode cX11_copies 321 = .ok (.iload_n 1, 1) by decide +kernel) rfl ?_
  refine am_r_imul (nx := 323) (show decode cX11_copies 322 = .ok (.imul, 1) by decide +kernel) rfl ?_
  refine am_r_iload_n (nx := 324) rfl rfl (show decode cX11_copies 323 = .ok (.iload_n 3, 1) by decide +kernel) rfl ?_
  refine am_r_iadd (nx := 325) (show decode cX11_copies 324 = .ok (.iadd, 1) by decide +kernel) rfl ?_
  refine am_r_iald (nx := 326) (sh_106) (am_shle (sh_106)) hi1 hj2 (show decode cX11_copies 325 = .ok (.iaload, 1) by decide +kernel) rfl ?_
  refine am_r_iast (nx := 327) (sh_106) (am_shle (sh_106)) hi3 hj4 (show decode cX11_copies 326 = .ok (.iastore, 1) by decide +kernel) rfl ?_
  exact k
theorem S_X11_copies_327 {G : am_G} {d : Nat} {Q : am_D → Prop} {σ : am_D} {v1 : Int} {v2 : Int} {v3 : Int}  (k : am_X (am_FV G (d + 1) Q) mX11_copies (0, 0) 296 [some (am_r (some 91)), some (am_i v1), some (am_i v2), some (am_i (v3 + 1))] [] (am_K0, σ)) : am_X (am_FV G (d + 1) Q) mX11_copies (0, 0) 327 [some (am_r (some 91)), some (am_i v1), some (am_i v2), some (am_i v3)] [] (am_K0, σ) := by
  refine am_r_iinc (nx := 330) rfl rfl (show decode cX11_copies 327 = .ok (.iinc 3 1, 3) by decide +kernel) rfl ?_
  refine am_r_goto (tg := 296) (show decode cX11_copies 330 = .ok (.goto (-34), 3) by decide +kernel) (by decide) ?_
  exact k
theorem S_X11_copies_333 {G : am_G} {d : Nat} {Q : am_D → Prop} {σ : am_D} {v2 : Int} (hi1 : 0 ≤ v2) (hj2 : v2 < 6) (k : am_X (am_FV G (d + 1) Q) mX11_copies (0, 0) 340 [none, none, none, none] [] (am_K0, (am_pI σ 93 v2 1))) : am_X (am_FV G (d + 1) Q) mX11_copies (0, 0) 333 [some (am_r (some 91)), none, some (am_i v2), none] [] (am_K0, σ) := by
  refine am_r_aload_n (nx := 334) rfl rfl (show decode cX11_copies 333 = .ok (.aload_n 0, 1) by decide +kernel) rfl ?_
  refine am_r_getF (nx := 337) 7 cw11 (by decide) rfl (Or.inl fl_X11_13) (ob_91) (fn_91_7) (show decode cX11_copies 334 = .ok (.getfield 13, 3) by decide +kernel) rfl ?_
  refine am_r_iload_n (nx := 338) rfl rfl (show decode cX11_copies 337 = .ok (.iload_n 2, 1) by decide +kernel) rfl ?_
  refine am_r_iconst (nx := 339) (show decode cX11_copies 338 = .ok (.iconst 1, 1) by decide +kernel) rfl ?_
  refine am_r_zast (nx := 340) (sh_93) (am_shle (sh_93)) hi1 hj2 (by omega) (show decode cX11_copies 339 = .ok (.bastore, 1) by decide +kernel) rfl ?_
  exact am_x_fg [0, 2] k
theorem S_X11_copies_340 {G : am_G} {d : Nat} {Q : am_D → Prop} {σ : am_D}   (k : Q σ) : am_X (am_FV G (d + 1) Q) mX11_copies (0, 0) 340 [none, none, none, none] [] (am_K0, σ) := by
  exact am_r_vret rfl (show decode cX11_copies 340 = .ok (.return_, 1) by decide +kernel) ⟨_, rfl, rfl, k⟩
theorem S_X11_emits_0 {G : am_G} {d : Nat} {Q : am_D → Prop} {σ : am_D} {v1 : Int} (hi1 : 0 ≤ (3000 + (σ.1 97 5))) (hj2 : (3000 + (σ.1 97 5)) < 3600) (k : am_X (am_FV G (d + 1) Q) mX11_emits (0, 0) 16 [some (am_r (some 91)), none] [] (am_K0, (am_pI σ 106 (3000 + (σ.1 97 5)) v1))) : am_X (am_FV G (d + 1) Q) mX11_emits (0, 0) 0 [some (am_r (some 91)), some (am_i v1)] [] (am_K0, σ) := by
  refine am_r_aload_n (nx := 1) rfl rfl (show decode cX11_emits 0 = .ok (.aload_n 0, 1) by decide +kernel) rfl ?_
  refine am_r_getF (nx := 4) 20 cw11 (by decide) rfl (Or.inl fl_X11_54) (ob_91) (fn_91_20) (show decode cX11_emits 1 = .ok (.getfield 54, 3) by decide +kernel) rfl ?_
  refine am_r_sipush (nx := 7) rfl (show decode cX11_emits 4 = .ok (.sipush 3000, 3) by decide +kernel) rfl ?_
  refine am_r_aload_n (nx := 8) rfl rfl (show decode cX11_emits 7 = .ok (.aload_n 0, 1) by decide +kernel) rfl ?_
  refine am_r_getF (nx := 11) 11 cw11 (by decide) rfl (Or.inl fl_X11_27) (ob_91) (fn_91_11) (show decode cX11_emits 8 = .ok (.getfield 27, 3) by decide +kernel) rfl ?_
  refine am_r_iconst (nx := 12) (show decode cX11_emits 11 = .ok (.iconst 5, 1) by decide +kernel) rfl ?_
  refine am_r_iald (nx := 13) (sh_97) (am_shle (sh_97)) (by omega) (by omega) (show decode cX11_emits 12 = .ok (.iaload, 1) by decide +kernel) rfl ?_
  refine am_r_iadd (nx := 14) (show decode cX11_emits 13 = .ok (.iadd, 1) by decide +kernel) rfl ?_
  refine am_r_iload_n (nx := 15) rfl rfl (show decode cX11_emits 14 = .ok (.iload_n 1, 1) by decide +kernel) rfl ?_
  refine am_r_iast (nx := 16) (sh_106) (am_shle (sh_106)) hi1 hj2 (show decode cX11_emits 15 = .ok (.iastore, 1) by decide +kernel) rfl ?_
  exact am_x_fg [1] k
theorem S_X11_emits_16 {G : am_G} {d : Nat} {Q : am_D → Prop} {σ : am_D}   (k : am_X (am_FV G (d + 1) Q) mX11_emits (0, 0) 26 [none, none] [] (am_K0, (am_pI σ 97 5 ((σ.1 97 5) + 1)))) : am_X (am_FV G (d + 1) Q) mX11_emits (0, 0) 16 [some (am_r (some 91)), none] [] (am_K0, σ) := by
  refine am_r_aload_n (nx := 17) rfl rfl (show decode cX11_emits 16 = .ok (.aload_n 0, 1) by decide +kernel) rfl ?_
  refine am_r_getF (nx := 20) 11 cw11 (by decide) rfl (Or.inl fl_X11_27) (ob_91) (fn_91_11) (show decode cX11_emits 17 = .ok (.getfield 27, 3) by decide +kernel) rfl ?_
  refine am_r_iconst (nx := 21) (show decode cX11_emits 20 = .ok (.iconst 5, 1) by decide +kernel) rfl ?_
  refine am_r_dup2 (nx := 22) rfl rfl (show decode cX11_emits 21 = .ok (.dup2, 1) by decide +kernel) rfl ?_
  refine am_r_iald (nx := 23) (sh_97) (am_shle (sh_97)) (by omega) (by omega) (show decode cX11_emits 22 = .ok (.iaload, 1) by decide +kernel) rfl ?_
  refine am_r_iconst (nx := 24) (show decode cX11_emits 23 = .ok (.iconst 1, 1) by decide +kernel) rfl ?_
  refine am_r_iadd (nx := 25) (show decode cX11_emits 24 = .ok (.iadd, 1) by decide +kernel) rfl ?_
  refine am_r_iast (nx := 26) (sh_97) (am_shle (sh_97)) (by omega) (by omega) (show decode cX11_emits 25 = .ok (.iastore, 1) by decide +kernel) rfl ?_
  exact am_x_fg [0] k
theorem S_X11_emits_26 {G : am_G} {d : Nat} {Q : am_D → Prop} {σ : am_D}   (k : Q σ) : am_X (am_FV G (d + 1) Q) mX11_emits (0, 0) 26 [none, none] [] (am_K0, σ) := by
  exact am_r_vret rfl (show decode cX11_emits 26 = .ok (.return_, 1) by decide +kernel) ⟨_, rfl, rfl, k⟩
theorem S_X11_register_0 {G : am_G} {d : Nat} {Q : am_D → Prop} {σ : am_D} {v1 : Int} {Q' : am_D → Prop} (hc : am_MV G d mX11_goes [am_r (some 91)] σ Q') (k : ∀ σ' : am_D, Q' σ' → am_X (am_FV G (d + 1) Q) mX11_register (0, 0) 4 [some (am_r (some 91)), some (am_i v1), none, none] [] (am_K0, σ')) : am_X (am_FV G (d + 1) Q) mX11_register (0, 0) 0 [some (am_r (some 91)), some (am_i v1), none, none] [] (am_K0, σ) := by
  refine am_r_aload_n (nx := 1) rfl rfl (show decode cX11_register 0 = .ok (.aload_n 0, 1) by decide +kernel) rfl ?_
  refine am_r_callV (as := []) (st := []) hc mb_X11_goes mv_X11_goes (Or.inl ml_X11_182) (ob_91) (by omega) (r := (RX11, TX11, 63)) rfl rfl rfl rfl (Nat.le_of_ble_eq_true rfl) ⟨Nat.le_refl _, Nat.le_refl _⟩ ⟨Nat.le_refl _, Nat.le_refl _⟩ (show decode cX11_register 1 = .ok (.invokevirtual 182, 3) by decide +kernel) ?_
  rintro _ _ ⟨σ', rfl, rfl, hq⟩ _
  exact (k σ' hq)
theorem S_X11_register_4 {G : am_G} {d : Nat} {Q : am_D → Prop} {σ : am_D} {v1 : Int} {Q' : Int → am_D → Prop} (hc : am_MI G d mX11_digit [am_r (some 91), am_i 0, am_i ((σ.1 95 5) - 1)] σ Q') (k : ∀ (x : Int) (σ' : am_D), Q' x σ' → am_X (am_FV G (d + 1) Q) mX11_register (0, 0) 18 [some (am_r (some 91)), some (am_i v1), some (am_i x), none] [] (am_K0, σ')) : am_X (am_FV G (d + 1) Q) mX11_register (0, 0) 4 [some (am_r (some 91)), some (am_i v1), none, none] [] (am_K0, σ) := by
  refine am_r_aload_n (nx := 5) rfl rfl (show decode cX11_register 4 = .ok (.aload_n 0, 1) by decide +kernel) rfl ?_
  refine am_r_iconst (nx := 6) (show decode cX11_register 5 = .ok (.iconst 0, 1) by decide +kernel) rfl ?_
  refine am_r_aload_n (nx := 7) rfl rfl (show decode cX11_register 6 = .ok (.aload_n 0, 1) by decide +kernel) rfl ?_
  refine am_r_getF (nx := 10) 9 cw11 (by decide) rfl (Or.inl fl_X11_21) (ob_91) (fn_91_9) (show decode cX11_register 7 = .ok (.getfield 21, 3) by decide +kernel) rfl ?_
  refine am_r_iconst (nx := 11) (show decode cX11_register 10 = .ok (.iconst 5, 1) by decide +kernel) rfl ?_
  refine am_r_iald (nx := 12) (sh_95) (am_shle (sh_95)) (by omega) (by omega) (show decode cX11_register 11 = .ok (.iaload, 1) by decide +kernel) rfl ?_
  refine am_r_iconst (nx := 13) (show decode cX11_register 12 = .ok (.iconst 1, 1) by decide +kernel) rfl ?_
  refine am_r_isub (nx := 14) (show decode cX11_register 13 = .ok (.isub, 1) by decide +kernel) rfl ?_
  refine am_r_callV (as := [am_i 0, am_i ((σ.1 95 5) - 1)]) (st := []) hc mb_X11_digit mv_X11_digit (Or.inl ml_X11_215) (ob_91) (by omega) (r := (RX11, TX11, 63)) rfl rfl rfl rfl (Nat.le_of_ble_eq_true rfl) ⟨Nat.le_refl _, Nat.le_refl _⟩ ⟨Nat.le_refl _, Nat.le_refl _⟩ (show decode cX11_register 14 = .ok (.invokevirtual 215, 3) by decide +kernel) ?_
  rintro _ _ ⟨x, σ', rfl, rfl, hq⟩ _
  refine am_r_istore_n (nx := 18) rfl (by decide) rfl (show decode cX11_register 17 = .ok (.istore_n 2, 1) by decide +kernel) rfl ?_
  exact (k x σ' hq)
theorem S_X11_register_18 {G : am_G} {d : Nat} {Q : am_D → Prop} {σ : am_D} {v1 : Int} {v2 : Int} (hr1 : -2147483648 ≤ v1 ∧ v1 ≤ 2147483647) (k1 : v1 = 0 → am_X (am_FV G (d + 1) Q) mX11_register (0, 0) 28 [some (am_r (some 91)), some (am_i v1), some (am_i v2), none] [am_i v2, am_i 1] (am_K0, σ)) (k2 : ¬ (v1 = 0) → am_X (am_FV G (d + 1) Q) mX11_register (0, 0) 24 [some (am_r (some 91)), some (am_i v1), some (am_i v2), none] [am_i v2, am_i 1] (am_K0, σ)) : am_X (am_FV G (d + 1) Q) mX11_register (0, 0) 18 [some (am_r (some 91)), some (am_i v1), some (am_i v2), none] [] (am_K0, σ) := by
  refine am_r_iconst (nx := 19) (show decode cX11_register 18 = .ok (.iconst 1, 1) by decide +kernel) rfl ?_
  refine am_r_iload_n (nx := 20) rfl rfl (show decode cX11_register 19 = .ok (.iload_n 2, 1) by decide +kernel) rfl ?_
  refine am_r_iload_n (nx := 21) rfl rfl (show decode cX11_register 20 = .ok (.iload_n 1, 1) by decide +kernel) rfl ?_
  refine am_r_if_eq (tg := 28) (nx := 24) (show decode cX11_register 21 = .ok (.ifCond .eq 7, 3) by decide +kernel) (by decide) rfl hr1 ?_ ?_
  · exact fun q => k1 q
  · exact fun q => k2 q
theorem S_X11_register_24 {G : am_G} {d : Nat} {Q : am_D → Prop} {σ : am_D} {v1 : Int} {v2 : Int} {s0 : Int} {s1 : Int}  (k : am_X (am_FV G (d + 1) Q) mX11_register (0, 0) 29 [some (am_r (some 91)), some (am_i v1), some (am_i v2), none] [am_i 3, am_i s1, am_i s0] (am_K0, σ)) : am_X (am_FV G (d + 1) Q) mX11_register (0, 0) 24 [some (am_r (some 91)), some (am_i v1), some (am_i v2), none] [am_i s1, am_i s0] (am_K0, σ) := by
  refine am_r_iconst (nx := 25) (show decode cX11_register 24 = .ok (.iconst 3, 1) by decide +kernel) rfl ?_
  refine am_r_goto (tg := 29) (show decode cX11_register 25 = .ok (.goto 4, 3) by decide +kernel) (by decide) ?_
  exact k
theorem S_X11_register_28 {G : am_G} {d : Nat} {Q : am_D → Prop} {σ : am_D} {v1 : Int} {v2 : Int} {s0 : Int} {s1 : Int}  (k : am_X (am_FV G (d + 1) Q) mX11_register (0, 0) 29 [some (am_r (some 91)), some (am_i v1), some (am_i v2), none] [am_i 0, am_i s1, am_i s0] (am_K0, σ)) : am_X (am_FV G (d + 1) Q) mX11_register (0, 0) 28 [some (am_r (some 91)), some (am_i v1), some (am_i v2), none] [am_i s1, am_i s0] (am_K0, σ) := by
  refine am_r_iconst (nx := 29) (show decode cX11_register 28 = .ok (.iconst 0, 1) by decide +kernel) rfl ?_
  exact k
theorem S_X11_register_29 {G : am_G} {d : Nat} {Q : am_D → Prop} {σ : am_D} {v1 : Int} {v2 : Int} {s0 : Int} {s1 : Int} {s2 : Int}  (k : am_X (am_FV G (d + 1) Q) mX11_register (0, 0) 32 [some (am_r (some 91)), some (am_i v1), some (am_i v2), some (am_i (am_shl s0 (s1 + s2)))] [] (am_K0, σ)) : am_X (am_FV G (d + 1) Q) mX11_register (0, 0) 29 [some (am_r (some 91)), some (am_i v1), some (am_i v2), none] [am_i s2, am_i s1, am_i s0] (am_K0, σ) := by
  refine am_r_iadd (nx := 30) (show decode cX11_register 29 = .ok (.iadd, 1) by decide +kernel) rfl ?_
  refine am_r_ishl (nx := 31) (show decode cX11_register 30 = .ok (.ishl, 1) by decide +kernel) rfl ?_
  refine am_r_istore_n (nx := 32) rfl (by decide) rfl (show decode cX11_register 31 = .ok (.istore_n 3, 1) by decide +kernel) rfl ?_
  exact k
theorem S_X11_register_32 {G : am_G} {d : Nat} {Q : am_D → Prop} {σ : am_D} {v1 : Int} {v2 : Int} {v3 : Int} {Q' : Int → am_D → Prop} (hc : am_MI G d mX11_isGood [am_r (some 91)] σ Q') (k : ∀ (x : Int) (σ' : am_D), Q' x σ' → am_X (am_FV G (d + 1) Q) mX11_register (0, 0) 36 [some (am_r (some 91)), some (am_i v1), some (am_i v2), some (am_i v3)] [am_i x] (am_K0, σ')) : am_X (am_FV G (d + 1) Q) mX11_register (0, 0) 32 [some (am_r (some 91)), some (am_i v1), some (am_i v2), some (am_i v3)] [] (am_K0, σ) := by
  refine am_r_aload_n (nx := 33) rfl rfl (show decode cX11_register 32 = .ok (.aload_n 0, 1) by decide +kernel) rfl ?_
  refine am_r_callV (as := []) (st := []) hc mb_X11_isGood mv_X11_isGood (Or.inl ml_X11_185) (ob_91) (by omega) (r := (RX11, TX11, 63)) rfl rfl rfl rfl (Nat.le_of_ble_eq_true rfl) ⟨Nat.le_refl _, Nat.le_refl _⟩ ⟨Nat.le_refl _, Nat.le_refl _⟩ (show decode cX11_register 33 = .ok (.invokevirtual 185, 3) by decide +kernel) ?_
  rintro _ _ ⟨x, σ', rfl, rfl, hq⟩ _
  exact (k x σ' hq)
theorem S_X11_register_36 {G : am_G} {d : Nat} {Q : am_D → Prop} {σ : am_D} {v1 : Int} {v2 : Int} {v3 : Int} {s0 : Int} (hr1 : -2147483648 ≤ s0 ∧ s0 ≤ 2147483647) (k1 : s0 = 0 → am_X (am_FV G (d + 1) Q) mX11_register (0, 0) 53 [some (am_r (some 91)), some (am_i v1), some (am_i v2), some (am_i v3)] [] (am_K0, σ)) (k2 : ¬ (s0 = 0) → am_X (am_FV G (d + 1) Q) mX11_register (0, 0) 39 [some (am_r (some 91)), some (am_i v1), some (am_i v2), some (am_i v3)] [] (am_K0, σ)) : am_X (am_FV G (d + 1) Q) mX11_register (0, 0) 36 [some (am_r (some 91)), some (am_i v1), some (am_i v2), some (am_i v3)] [am_i s0] (am_K0, σ) := by
  refine am_r_if_eq (tg := 53) (nx := 39) (show decode cX11_register 36 = .ok (.ifCond .eq 17, 3) by decide +kernel) (by decide) rfl hr1 ?_ ?_
  · exact fun q => k1 q
  · exact fun q => k2 q
theorem S_X11_register_39 {G : am_G} {d : Nat} {Q : am_D → Prop} {σ : am_D} {v1 : Int} {v2 : Int} {v3 : Int} (hr1 : -2147483648 ≤ (am_and (σ.1 91 21) v3) ∧ (am_and (σ.1 91 21) v3) ≤ 2147483647) (k1 : (am_and (σ.1 91 21) v3) = 0 → am_X (am_FV G (d + 1) Q) mX11_register (0, 0) 53 [some (am_r (some 91)), some (am_i v1), some (am_i v2), some (am_i v3)] [] (am_K0, σ)) (k2 : ¬ ((am_and (σ.1 91 21) v3) = 0) → am_X (am_FV G (d + 1) Q) mX11_register (0, 0) 48 [some (am_r (some 91)), some (am_i v1), some (am_i v2), some (am_i v3)] [] (am_K0, σ)) : am_X (am_FV G (d + 1) Q) mX11_register (0, 0) 39 [some (am_r (some 91)), some (am_i v1), some (am_i v2), some (am_i v3)] [] (am_K0, σ) := by
  refine am_r_aload_n (nx := 40) rfl rfl (show decode cX11_register 39 = .ok (.aload_n 0, 1) by decide +kernel) rfl ?_
  refine am_r_getI (nx := 43) 21 cw11 (by decide) rfl (Or.inl fl_X11_219) (ob_91) (show decode cX11_register 40 = .ok (.getfield 219, 3) by decide +kernel) rfl ?_
  refine am_r_iload_n (nx := 44) rfl rfl (show decode cX11_register 43 = .ok (.iload_n 3, 1) by decide +kernel) rfl ?_
  refine am_r_iand (nx := 45) (show decode cX11_register 44 = .ok (.iand, 1) by decide +kernel) rfl ?_
  refine am_r_if_eq (tg := 53) (nx := 48) (show decode cX11_register 45 = .ok (.ifCond .eq 8, 3) by decide +kernel) (by decide) rfl hr1 ?_ ?_
  · exact fun q => k1 q
  · exact fun q => k2 q
theorem S_X11_register_48 {G : am_G} {d : Nat} {Q : am_D → Prop} {σ : am_D} {v1 : Int} {v2 : Int} {v3 : Int} {Q' : am_D → Prop} (hc : am_MV G d mX11_fails [am_r (some 91), am_i 4] σ Q') (k : ∀ σ' : am_D, Q' σ' → am_X (am_FV G (d + 1) Q) mX11_register (0, 0) 53 [some (am_r (some 91)), some (am_i v1), some (am_i v2), some (am_i v3)] [] (am_K0, σ')) : am_X (am_FV G (d + 1) Q) mX11_register (0, 0) 48 [some (am_r (some 91)), some (am_i v1), some (am_i v2), some (am_i v3)] [] (am_K0, σ) := by
  refine am_r_aload_n (nx := 49) rfl rfl (show decode cX11_register 48 = .ok (.aload_n 0, 1) by decide +kernel) rfl ?_
  refine am_r_iconst (nx := 50) (show decode cX11_register 49 = .ok (.iconst 4, 1) by decide +kernel) rfl ?_
  refine am_r_callV (as := [am_i 4]) (st := []) hc mb_X11_fails mv_X11_fails (Or.inl ml_X11_202) (ob_91) (by omega) (r := (RX11, TX11, 63)) rfl rfl rfl rfl (Nat.le_of_ble_eq_true rfl) ⟨Nat.le_refl _, Nat.le_refl _⟩ ⟨Nat.le_refl _, Nat.le_refl _⟩ (show decode cX11_register 50 = .ok (.invokevirtual 202, 3) by decide +kernel) ?_
  rintro _ _ ⟨σ', rfl, rfl, hq⟩ _
  exact (k σ' hq)
theorem S_X11_register_53 {G : am_G} {d : Nat} {Q : am_D → Prop} {σ : am_D} {v1 : Int} {v2 : Int} {v3 : Int} {Q' : Int → am_D → Prop} (hc : am_MI G d mX11_isGood [am_r (some 91)] σ Q') (k : ∀ (x : Int) (σ' : am_D), Q' x σ' → am_X (am_FV G (d + 1) Q) mX11_register (0, 0) 57 [some (am_r (some 91)), some (am_i v1), some (am_i v2), some (am_i v3)] [am_i x] (am_K0, σ')) : am_X (am_FV G (d + 1) Q) mX11_register (0, 0) 53 [some (am_r (some 91)), some (am_i v1), some (am_i v2), some (am_i v3)] [] (am_K0, σ) := by
  refine am_r_aload_n (nx := 54) rfl rfl (show decode cX11_register 53 = .ok (.aload_n 0, 1) by decide +kernel) rfl ?_
  refine am_r_callV (as := []) (st := []) hc mb_X11_isGood mv_X11_isGood (Or.inl ml_X11_185) (ob_91) (by omega) (r := (RX11, TX11, 63)) rfl rfl rfl rfl (Nat.le_of_ble_eq_true rfl) ⟨Nat.le_refl _, Nat.le_refl _⟩ ⟨Nat.le_refl _, Nat.le_refl _⟩ (show decode cX11_register 54 = .ok (.invokevirtual 185, 3) by decide +kernel) ?_
  rintro _ _ ⟨x, σ', rfl, rfl, hq⟩ _
  exact (k x σ' hq)
theorem S_X11_register_57 {G : am_G} {d : Nat} {Q : am_D → Prop} {σ : am_D} {v1 : Int} {v2 : Int} {v3 : Int} {s0 : Int} (hr1 : -2147483648 ≤ s0 ∧ s0 ≤ 2147483647) (k1 : ¬ s0 = 0 → am_X (am_FV G (d + 1) Q) mX11_register (0, 0) 61 [some (am_r (some 91)), some (am_i v1), some (am_i v2), some (am_i v3)] [] (am_K0, σ)) (k2 : ¬ (¬ s0 = 0) → am_X (am_FV G (d + 1) Q) mX11_register (0, 0) 60 [none, none, none, none] [] (am_K0, σ)) : am_X (am_FV G (d + 1) Q) mX11_register (0, 0) 57 [some (am_r (some 91)), some (am_i v1), some (am_i v2), some (am_i v3)] [am_i s0] (am_K0, σ) := by
  refine am_r_if_ne (tg := 61) (nx := 60) (show decode cX11_register 57 = .ok (.ifCond .ne 4, 3) by decide +kernel) (by decide) rfl hr1 ?_ ?_
  · exact fun q => k1 q
  · exact fun q => am_x_fg [0, 1, 2, 3] (k2 q)
theorem S_X11_register_60 {G : am_G} {d : Nat} {Q : am_D → Prop} {σ : am_D}   (k : Q σ) : am_X (am_FV G (d + 1) Q) mX11_register (0, 0) 60 [none, none, none, none] [] (am_K0, σ) := by
  exact am_r_vret rfl (show decode cX11_register 60 = .ok (.return_, 1) by decide +kernel) ⟨_, rfl, rfl, k⟩
theorem S_X11_register_61 {G : am_G} {d : Nat} {Q : am_D → Prop} {σ : am_D} {v1 : Int} {v2 : Int} {v3 : Int}  (k : am_X (am_FV G (d + 1) Q) mX11_register (0, 0) 71 [some (am_r (some 91)), some (am_i v1), some (am_i v2), none] [] (am_K0, (am_pI σ 91 21 (am_or (σ.1 91 21) v3)))) : am_X (am_FV G (d + 1) Q) mX11_register (0, 0) 61 [some (am_r (some 91)), some (am_i v1), some (am_i v2), some (am_i v3)] [] (am_K0, σ) := by
  refine am_r_aload_n (nx := 62) rfl rfl (show decode cX11_register 61 = .ok (.aload_n 0, 1) by decide +kernel) rfl ?_
  refine am_r_dup (nx := 63) rfl (show decode cX11_register 62 = .ok (.dup, 1) by decide +kernel) rfl ?_
  refine am_r_getI (nx := 66) 21 cw11 (by decide) rfl (Or.inl fl_X11_219) (ob_91) (show decode cX11_register 63 = .ok (.getfield 219, 3) by decide +kernel) rfl ?_
  refine am_r_iload_n (nx := 67) rfl rfl (show decode cX11_register 66 = .ok (.iload_n 3, 1) by decide +kernel) rfl ?_
  refine am_r_ior (nx := 68) (show decode cX11_register 67 = .ok (.ior, 1) by decide +kernel) rfl ?_
  refine am_r_putI (nx := 71) 21 cw11 (by decide) rfl (Or.inl fl_X11_219) (ob_91) rfl (Or.inl rfl) (show decode cX11_register 68 = .ok (.putfield 219, 3) by decide +kernel) rfl ?_
  exact am_x_fg [3] k
theorem S_X11_register_71 {G : am_G} {d : Nat} {Q : am_D → Prop} {σ : am_D} {v1 : Int} {v2 : Int} (hr1 : -2147483648 ≤ v1 ∧ v1 ≤ 2147483647) (k1 : v1 = 0 → am_X (am_FV G (d + 1) Q) mX11_register (0, 0) 81 [some (am_r (some 91)), none, some (am_i v2), none] [am_r (some 91)] (am_K0, σ)) (k2 : ¬ (v1 = 0) → am_X (am_FV G (d + 1) Q) mX11_register (0, 0) 76 [some (am_r (some 91)), none, some (am_i v2), none] [am_r (some 91)] (am_K0, σ)) : am_X (am_FV G (d + 1) Q) mX11_register (0, 0) 71 [some (am_r (some 91)), some (am_i v1), some (am_i v2), none] [] (am_K0, σ) := by
  refine am_r_aload_n (nx := 72) rfl rfl (show decode cX11_register 71 = .ok (.aload_n 0, 1) by decide +kernel) rfl ?_
  refine am_r_iload_n (nx := 73) rfl rfl (show decode cX11_register 72 = .ok (.iload_n 1, 1) by decide +kernel) rfl ?_
  refine am_r_if_eq (tg := 81) (nx := 76) (show decode cX11_register 73 = .ok (.ifCond .eq 8, 3) by decide +kernel) (by decide) rfl hr1 ?_ ?_
  · exact fun q => am_x_fg [1] (k1 q)
  · exact fun q => am_x_fg [1] (k2 q)
theorem S_X11_register_76 {G : am_G} {d : Nat} {Q : am_D → Prop} {σ : am_D} {v2 : Int}  (k : am_X (am_FV G (d + 1) Q) mX11_register (0, 0) 83 [some (am_r (some 91)), none, some (am_i v2), none] [am_i 20, am_r (some 91)] (am_K0, σ)) : am_X (am_FV G (d + 1) Q) mX11_register (0, 0) 76 [some (am_r (some 91)), none, some (am_i v2), none] [am_r (some 91)] (am_K0, σ) := by
  refine am_r_bipush (nx := 78) rfl (show decode cX11_register 76 = .ok (.bipush 20, 2) by decide +kernel) rfl ?_
  refine am_r_goto (tg := 83) (show decode cX11_register 78 = .ok (.goto 5, 3) by decide +kernel) (by decide) ?_
  exact k
theorem S_X11_register_81 {G : am_G} {d : Nat} {Q : am_D → Prop} {σ : am_D} {v2 : Int}  (k : am_X (am_FV G (d + 1) Q) mX11_register (0, 0) 83 [some (am_r (some 91)), none, some (am_i v2), none] [am_i 10, am_r (some 91)] (am_K0, σ)) : am_X (am_FV G (d + 1) Q) mX11_register (0, 0) 81 [some (am_r (some 91)), none, some (am_i v2), none] [am_r (some 91)] (am_K0, σ) := by
  refine am_r_bipush (nx := 83) rfl (show decode cX11_register 81 = .ok (.bipush 10, 2) by decide +kernel) rfl ?_
  exact k
theorem S_X11_register_83 {G : am_G} {d : Nat} {Q : am_D → Prop} {σ : am_D} {v2 : Int} {s1 : Int} {Q' : am_D → Prop} (hc : am_MV G d mX11_emits [am_r (some 91), am_i (s1 + v2)] σ Q') (k : ∀ σ' : am_D, Q' σ' → am_X (am_FV G (d + 1) Q) mX11_register (0, 0) 88 [some (am_r (some 91)), none, none, none] [] (am_K0, σ')) : am_X (am_FV G (d + 1) Q) mX11_register (0, 0) 83 [some (am_r (some 91)), none, some (am_i v2), none] [am_i s1, am_r (some 91)] (am_K0, σ) := by
  refine am_r_iload_n (nx := 84) rfl rfl (show decode cX11_register 83 = .ok (.iload_n 2, 1) by decide +kernel) rfl ?_
  refine am_r_iadd (nx := 85) (show decode cX11_register 84 = .ok (.iadd, 1) by decide +kernel) rfl ?_
  refine am_r_callV (as := [am_i (s1 + v2)]) (st := []) hc mb_X11_emits mv_X11_emits (Or.inl ml_X11_222) (ob_91) (by omega) (r := (RX11, TX11, 63)) rfl rfl rfl rfl (Nat.le_of_ble_eq_true rfl) ⟨Nat.le_refl _, Nat.le_refl _⟩ ⟨Nat.le_refl _, Nat.le_refl _⟩ (show decode cX11_register 85 = .ok (.invokevirtual 222, 3) by decide +kernel) ?_
  rintro _ _ ⟨σ', rfl, rfl, hq⟩ _
  exact am_x_fg [2] (k σ' hq)
theorem S_X11_register_88 {G : am_G} {d : Nat} {Q : am_D → Prop} {σ : am_D} {Q' : am_D → Prop} (hc : am_MV G d mX11_goes [am_r (some 91)] σ Q') (k : ∀ σ' : am_D, Q' σ' → am_X (am_FV G (d + 1) Q) mX11_register (0, 0) 92 [none, none, none, none] [] (am_K0, σ')) : am_X (am_FV G (d + 1) Q) mX11_register (0, 0) 88 [some (am_r (some 91)), none, none, none] [] (am_K0, σ) := by
  refine am_r_aload_n (nx := 89) rfl rfl (show decode cX11_register 88 = .ok (.aload_n 0, 1) by decide +kernel) rfl ?_
  refine am_r_callV (as := []) (st := []) hc mb_X11_goes mv_X11_goes (Or.inl ml_X11_182) (ob_91) (by omega) (r := (RX11, TX11, 63)) rfl rfl rfl rfl (Nat.le_of_ble_eq_true rfl) ⟨Nat.le_refl _, Nat.le_refl _⟩ ⟨Nat.le_refl _, Nat.le_refl _⟩ (show decode cX11_register 89 = .ok (.invokevirtual 182, 3) by decide +kernel) ?_
  rintro _ _ ⟨σ', rfl, rfl, hq⟩ _
  exact am_x_fg [0] (k σ' hq)
theorem S_X11_register_92 {G : am_G} {d : Nat} {Q : am_D → Prop} {σ : am_D}   (k : Q σ) : am_X (am_FV G (d + 1) Q) mX11_register (0, 0) 92 [none, none, none, none] [] (am_K0, σ) := by
  exact am_r_vret rfl (show decode cX11_register 92 = .ok (.return_, 1) by decide +kernel) ⟨_, rfl, rfl, k⟩
theorem S_X11_parts_0 {G : am_G} {d : Nat} {Q : am_D → Prop} {σ : am_D} {v1 : Int} {v2 : Int}  (k : am_X (am_FV G (d + 1) Q) mX11_parts (0, 0) 2 [some (am_r (some 91)), some (am_i v1), some (am_i v2), some (am_i 1)] [] (am_K0, σ)) : am_X (am_FV G (d + 1) Q) mX11_parts (0, 0) 0 [some (am_r (some 91)), some (am_i v1), some (am_i v2), none] [] (am_K0, σ) := by
  refine am_r_iconst (nx := 1) (show decode cX11_parts 0 = .ok (.iconst 1, 1) by decide +kernel) rfl ?_
  refine am_r_istore_n (nx := 2) rfl (by decide) rfl (show decode cX11_parts 1 = .ok (.istore_n 3, 1) by decide +kernel) rfl ?_
  exact k
theorem S_X11_parts_2 {G : am_G} {d : Nat} {Q : am_D → Prop} {σ : am_D} {v1 : Int} {v2 : Int} {v3 : Int} (hr1 : -2147483648 ≤ v3 ∧ v3 ≤ 2147483647) (k1 : v3 = 0 → am_X (am_FV G (d + 1) Q) mX11_parts (0, 0) 72 [none, none, none, none] [] (am_K0, σ)) (k2 : ¬ (v3 = 0) → am_X (am_FV G (d + 1) Q) mX11_parts (0, 0) 6 [some (am_r (some 91)), some (am_i v1), some (am_i v2), none] [] (am_K0, σ)) : am_X (am_FV G (d + 1) Q) mX11_parts (0, 0) 2 [some (am_r (some 91)), some (am_i v1), some (am_i v2), some (am_i v3)] [] (am_K0, σ) := by
  refine am_r_iload_n (nx := 3) rfl rfl (show decode cX11_parts 2 = .ok (.iload_n 3, 1) by decide +kernel) rfl ?_
  refine am_r_if_eq (tg := 72) (nx := 6) (show decode cX11_parts 3 = .ok (.ifCond .eq 69, 3) by decide +kernel) (by decide) rfl hr1 ?_ ?_
  · exact fun q => am_x_fg [0, 1, 2, 3] (k1 q)
  · exact fun q => am_x_fg [3] (k2 q)
theorem S_X11_parts_6 {G : am_G} {d : Nat} {Q : am_D → Prop} {σ : am_D} {v1 : Int} {v2 : Int} {Q' : Int → am_D → Prop} (hc : am_MI G d mX11_isGood [am_r (some 91)] σ Q') (k : ∀ (x : Int) (σ' : am_D), Q' x σ' → am_X (am_FV G (d + 1) Q) mX11_parts (0, 0) 10 [some (am_r (some 91)), some (am_i v1), some (am_i v2), none] [am_i x] (am_K0, σ')) : am_X (am_FV G (d + 1) Q) mX11_parts (0, 0) 6 [some (am_r (some 91)), some (am_i v1), some (am_i v2), none] [] (am_K0, σ) := by
  refine am_r_aload_n (nx := 7) rfl rfl (show decode cX11_parts 6 = .ok (.aload_n 0, 1) by decide +kernel) rfl ?_
  refine am_r_callV (as := []) (st := []) hc mb_X11_isGood mv_X11_isGood (Or.inl ml_X11_185) (ob_91) (by omega) (r := (RX11, TX11, 63)) rfl rfl rfl rfl (Nat.le_of_ble_eq_true rfl) ⟨Nat.le_refl _, Nat.le_refl _⟩ ⟨Nat.le_refl _, Nat.le_refl _⟩ (show decode cX11_parts 7 = .ok (.invokevirtual 185, 3) by decide +kernel) ?_
  rintro _ _ ⟨x, σ', rfl, rfl, hq⟩ _
  exact (k x σ' hq)
theorem S_X11_parts_10 {G : am_G} {d : Nat} {Q : am_D → Prop} {σ : am_D} {v1 : Int} {v2 : Int} {s0 : Int} (hr1 : -2147483648 ≤ s0 ∧ s0 ≤ 2147483647) (k1 : s0 = 0 → am_X (am_FV G (d + 1) Q) mX11_parts (0, 0) 72 [none, none, none, none] [] (am_K0, σ)) (k2 : ¬ (s0 = 0) → am_X (am_FV G (d + 1) Q) mX11_parts (0, 0) 13 [some (am_r (some 91)), some (am_i v1), some (am_i v2), none] [] (am_K0, σ)) : am_X (am_FV G (d + 1) Q) mX11_parts (0, 0) 10 [some (am_r (some 91)), some (am_i v1), some (am_i v2), none] [am_i s0] (am_K0, σ) := by
  refine am_r_if_eq (tg := 72) (nx := 13) (show decode cX11_parts 10 = .ok (.ifCond .eq 62, 3) by decide +kernel) (by decide) rfl hr1 ?_ ?_
  · exact fun q => am_x_fg [0, 1, 2] (k1 q)
  · exact fun q => k2 q
theorem S_X11_parts_13 {G : am_G} {d : Nat} {Q : am_D → Prop} {σ : am_D} {v1 : Int} {v2 : Int}  (k : am_X (am_FV G (d + 1) Q) mX11_parts (0, 0) 15 [some (am_r (some 91)), some (am_i v1), some (am_i v2), some (am_i 0)] [] (am_K0, σ)) : am_X (am_FV G (d + 1) Q) mX11_parts (0, 0) 13 [some (am_r (some 91)), some (am_i v1), some (am_i v2), none] [] (am_K0, σ) := by
  refine am_r_iconst (nx := 14) (show decode cX11_parts 13 = .ok (.iconst 0, 1) by decide +kernel) rfl ?_
  refine am_r_istore_n (nx := 15) rfl (by decide) rfl (show decode cX11_parts 14 = .ok (.istore_n 3, 1) by decide +kernel) rfl ?_
  exact k
theorem S_X11_parts_15 {G : am_G} {d : Nat} {Q : am_D → Prop} {σ : am_D} {v1 : Int} {v2 : Int} {v3 : Int} {Q' : Int → am_D → Prop} (hc : am_MI G d mX11_isWord [am_r (some 91), am_s 4] σ Q') (k : ∀ (x : Int) (σ' : am_D), Q' x σ' → am_X (am_FV G (d + 1) Q) mX11_parts (0, 0) 21 [some (am_r (some 91)), some (am_i v1), some (am_i v2), some (am_i v3)] [am_i x] (am_K0, σ')) : am_X (am_FV G (d + 1) Q) mX11_parts (0, 0) 15 [some (am_r (some 91)), some (am_i v1), some (am_i v2), some (am_i v3)] [] (am_K0, σ) := by
  refine am_r_aload_n (nx := 16) rfl rfl (show decode cX11_parts 15 = .ok (.aload_n 0, 1) by decide +kernel) rfl ?_
  refine am_r_ldcS (nx := 18) (i := 4) (tx := "x") (by decide +kernel) (show decode cX11_parts 16 = .ok (.ldc 225, 2) by decide +kernel) rfl ?_
  refine am_r_callV (as := [am_s 4]) (st := []) hc mb_X11_isWord mv_X11_isWord (Or.inl ml_X11_207) (ob_91) (by omega) (r := (RX11, TX11, 63)) rfl rfl rfl rfl (Nat.le_of_ble_eq_true rfl) ⟨Nat.le_refl _, Nat.le_refl _⟩ ⟨Nat.le_refl _, Nat.le_refl _⟩ (show decode cX11_parts 18 = .ok (.invokevirtual 207, 3) by decide +kernel) ?_
  rintro _ _ ⟨x, σ', rfl, rfl, hq⟩ _
  exact (k x σ' hq)
theorem S_X11_parts_21 {G : am_G} {d : Nat} {Q : am_D → Prop} {σ : am_D} {v1 : Int} {v2 : Int} {v3 : Int} {s0 : Int} (hr1 : -2147483648 ≤ s0 ∧ s0 ≤ 2147483647) (k1 : ¬ s0 = 0 → am_X (am_FV G (d + 1) Q) mX11_parts (0, 0) 37 [some (am_r (some 91)), some (am_i v1), some (am_i v2), none] [] (am_K0, σ)) (k2 : ¬ (¬ s0 = 0) → am_X (am_FV G (d + 1) Q) mX11_parts (0, 0) 24 [some (am_r (some 91)), some (am_i v1), some (am_i v2), some (am_i v3)] [] (am_K0, σ)) : am_X (am_FV G (d + 1) Q) mX11_parts (0, 0) 21 [some (am_r (some 91)), some (am_i v1), some (am_i v2), some (am_i v3)] [am_i s0] (am_K0, σ) := by
  refine am_r_if_ne (tg := 37) (nx := 24) (show decode cX11_parts 21 = .ok (.ifCond .ne 16, 3) by decide +kernel) (by decide) rfl hr1 ?_ ?_
  · exact fun q => am_x_fg [3] (k1 q)
  · exact fun q => k2 q
theorem S_X11_parts_24 {G : am_G} {d : Nat} {Q : am_D → Prop} {σ : am_D} {v1 : Int} {v2 : Int} {v3 : Int} (hr1 : -2147483648 ≤ v2 ∧ v2 ≤ 2147483647) (k1 : ¬ v2 = 0 → am_X (am_FV G (d + 1) Q) mX11_parts (0, 0) 52 [some (am_r (some 91)), some (am_i v1), some (am_i v2), some (am_i v3)] [] (am_K0, σ)) (k2 : ¬ (¬ v2 = 0) → am_X (am_FV G (d + 1) Q) mX11_parts (0, 0) 28 [some (am_r (some 91)), some (am_i v1), some (am_i v2), some (am_i v3)] [] (am_K0, σ)) : am_X (am_FV G (d + 1) Q) mX11_parts (0, 0) 24 [some (am_r (some 91)), some (am_i v1), some (am_i v2), some (am_i v3)] [] (am_K0, σ) := by
  refine am_r_iload_n (nx := 25) rfl rfl (show decode cX11_parts 24 = .ok (.iload_n 2, 1) by decide +kernel) rfl ?_
  refine am_r_if_ne (tg := 52) (nx := 28) (show decode cX11_parts 25 = .ok (.ifCond .ne 27, 3) by decide +kernel) (by decide) rfl hr1 ?_ ?_
  · exact fun q => k1 q
  · exact fun q => k2 q
theorem S_X11_parts_28 {G : am_G} {d : Nat} {Q : am_D → Prop} {σ : am_D} {v1 : Int} {v2 : Int} {v3 : Int} {Q' : Int → am_D → Prop} (hc : am_MI G d mX11_isWord [am_r (some 91), am_s 5] σ Q') (k : ∀ (x : Int) (σ' : am_D), Q' x σ' → am_X (am_FV G (d + 1) Q) mX11_parts (0, 0) 34 [some (am_r (some 91)), some (am_i v1), some (am_i v2), some (am_i v3)] [am_i x] (am_K0, σ')) : am_X (am_FV G (d + 1) Q) mX11_parts (0, 0) 28 [some (am_r (some 91)), some (am_i v1), some (am_i v2), some (am_i v3)] [] (am_K0, σ) := by
  refine am_r_aload_n (nx := 29) rfl rfl (show decode cX11_parts 28 = .ok (.aload_n 0, 1) by decide +kernel) rfl ?_
  refine am_r_ldcS (nx := 31) (i := 5) (tx := "y") (by decide +kernel) (show decode cX11_parts 29 = .ok (.ldc 227, 2) by decide +kernel) rfl ?_
  refine am_r_callV (as := [am_s 5]) (st := []) hc mb_X11_isWord mv_X11_isWord (Or.inl ml_X11_207) (ob_91) (by omega) (r := (RX11, TX11, 63)) rfl rfl rfl rfl (Nat.le_of_ble_eq_true rfl) ⟨Nat.le_refl _, Nat.le_refl _⟩ ⟨Nat.le_refl _, Nat.le_refl _⟩ (show decode cX11_parts 31 = .ok (.invokevirtual 207, 3) by decide +kernel) ?_
  rintro _ _ ⟨x, σ', rfl, rfl, hq⟩ _
  exact (k x σ' hq)
theorem S_X11_parts_34 {G : am_G} {d : Nat} {Q : am_D → Prop} {σ : am_D} {v1 : Int} {v2 : Int} {v3 : Int} {s0 : Int} (hr1 : -2147483648 ≤ s0 ∧ s0 ≤ 2147483647) (k1 : s0 = 0 → am_X (am_FV G (d + 1) Q) mX11_parts (0, 0) 52 [some (am_r (some 91)), some (am_i v1), some (am_i v2), some (am_i v3)] [] (am_K0, σ)) (k2 : ¬ (s0 = 0) → am_X (am_FV G (d + 1) Q) mX11_parts (0, 0) 37 [some (am_r (some 91)), some (am_i v1), some (am_i v2), none] [] (am_K0, σ)) : am_X (am_FV G (d + 1) Q) mX11_parts (0, 0) 34 [some (am_r (some 91)), some (am_i v1), some (am_i v2), some (am_i v3)] [am_i s0] (am_K0, σ) := by
  refine am_r_if_eq (tg := 52) (nx := 37) (show decode cX11_parts 34 = .ok (.ifCond .eq 18, 3) by decide +kernel) (by decide) rfl hr1 ?_ ?_
  · exact fun q => k1 q
  · exact fun q => am_x_fg [3] (k2 q)
theorem S_X11_parts_37 {G : am_G} {d : Nat} {Q : am_D → Prop} {σ : am_D} {v1 : Int} {v2 : Int} {Q' : Int → am_D → Prop} (hc : am_MI G d mX11_isWord [am_r (some 91), am_s 5] σ Q') (k : ∀ (x : Int) (σ' : am_D), Q' x σ' → am_X (am_FV G (d + 1) Q) mX11_parts (0, 0) 44 [some (am_r (some 91)), some (am_i v1), some (am_i v2), none] [am_i x, am_r (some 91)] (am_K0, σ')) : am_X (am_FV G (d + 1) Q) mX11_parts (0, 0) 37 [some (am_r (some 91)), some (am_i v1), some (am_i v2), none] [] (am_K0, σ) := by
  refine am_r_aload_n (nx := 38) rfl rfl (show decode cX11_parts 37 = .ok (.aload_n 0, 1) by decide +kernel) rfl ?_
  refine am_r_aload_n (nx := 39) rfl rfl (show decode cX11_parts 38 = .ok (.aload_n 0, 1) by decide +kernel) rfl ?_
  refine am_r_ldcS (nx := 41) (i := 5) (tx := "y") (by decide +kernel) (show decode cX11_parts 39 = .ok (.ldc 227, 2) by decide +kernel) rfl ?_
  refine am_r_callV (as := [am_s 5]) (st := [am_r (some 91)]) hc mb_X11_isWord mv_X11_isWord (Or.inl ml_X11_207) (ob_91) (by omega) (r := (RX11, TX11, 63)) rfl rfl rfl rfl (Nat.le_of_ble_eq_true rfl) ⟨Nat.le_refl _, Nat.le_refl _⟩ ⟨Nat.le_refl _, Nat.le_refl _⟩ (show decode cX11_parts 41 = .ok (.invokevirtual 207, 3) by decide +kernel) ?_
  rintro _ _ ⟨x, σ', rfl, rfl, hq⟩ _
  exact (k x σ' hq)
theorem S_X11_parts_44 {G : am_G} {d : Nat} {Q : am_D → Prop} {σ : am_D} {v1 : Int} {v2 : Int} {s1 : Int} {Q' : am_D → Prop} (hc : am_MV G d mX11_register [am_r (some 91), am_i s1] σ Q') (k : ∀ σ' : am_D, Q' σ' → am_X (am_FV G (d + 1) Q) mX11_parts (0, 0) 47 [some (am_r (some 91)), some (am_i v1), some (am_i v2), none] [] (am_K0, σ')) : am_X (am_FV G (d + 1) Q) mX11_parts (0, 0) 44 [some (am_r (some 91)), some (am_i v1), some (am_i v2), none] [am_i s1, am_r (some 91)] (am_K0, σ) := by
  refine am_r_callV (as := [am_i s1]) (st := []) hc mb_X11_register mv_X11_register (Or.inl ml_X11_229) (ob_91) (by omega) (r := (RX11, TX11, 63)) rfl rfl rfl rfl (Nat.le_of_ble_eq_true rfl) ⟨Nat.le_refl _, Nat.le_refl _⟩ ⟨Nat.le_refl _, Nat.le_refl _⟩ (show decode cX11_parts 44 = .ok (.invokevirtual 229, 3) by decide +kernel) ?_
  rintro _ _ ⟨σ', rfl, rfl, hq⟩ _
  exact (k σ' hq)
theorem S_X11_parts_47 {G : am_G} {d : Nat} {Q : am_D → Prop} {σ : am_D} {v1 : Int} {v2 : Int}  (k : am_X (am_FV G (d + 1) Q) mX11_parts (0, 0) 2 [some (am_r (some 91)), some (am_i v1), some (am_i v2), some (am_i 1)] [] (am_K0, σ)) : am_X (am_FV G (d + 1) Q) mX11_parts (0, 0) 47 [some (am_r (some 91)), some (am_i v1), some (am_i v2), none] [] (am_K0, σ) := by
  refine am_r_iconst (nx := 48) (show decode cX11_parts 47 = .ok (.iconst 1, 1) by decide +kernel) rfl ?_
  refine am_r_istore_n (nx := 49) rfl (by decide) rfl (show decode cX11_parts 48 = .ok (.istore_n 3, 1) by decide +kernel) rfl ?_
  refine am_r_goto (tg := 2) (show decode cX11_parts 49 = .ok (.goto (-47), 3) by decide +kernel) (by decide) ?_
  exact k
theorem S_X11_parts_52 {G : am_G} {d : Nat} {Q : am_D → Prop} {σ : am_D} {v1 : Int} {v2 : Int} {v3 : Int} {Q' : Int → am_D → Prop} (hc : am_MI G d mX11_isSign [am_r (some 91), am_i 60] σ Q') (k : ∀ (x : Int) (σ' : am_D), Q' x σ' → am_X (am_FV G (d + 1) Q) mX11_parts (0, 0) 58 [some (am_r (some 91)), some (am_i v1), some (am_i v2), some (am_i v3)] [am_i x] (am_K0, σ')) : am_X (am_FV G (d + 1) Q) mX11_parts (0, 0) 52 [some (am_r (some 91)), some (am_i v1), some (am_i v2), some (am_i v3)] [] (am_K0, σ) := by
  refine am_r_aload_n (nx := 53) rfl rfl (show decode cX11_parts 52 = .ok (.aload_n 0, 1) by decide +kernel) rfl ?_
  refine am_r_bipush (nx := 55) rfl (show decode cX11_parts 53 = .ok (.bipush 60, 2) by decide +kernel) rfl ?_
  refine am_r_callV (as := [am_i 60]) (st := []) hc mb_X11_isSign mv_X11_isSign (Or.inl ml_X11_199) (ob_91) (by omega) (r := (RX11, TX11, 63)) rfl rfl rfl rfl (Nat.le_of_ble_eq_true rfl) ⟨Nat.le_refl _, Nat.le_refl _⟩ ⟨Nat.le_refl _, Nat.le_refl _⟩ (show decode cX11_parts 55 = .ok (.invokevirtual 199, 3) by decide +kernel) ?_
  rintro _ _ ⟨x, σ', rfl, rfl, hq⟩ _
  exact (k x σ' hq)
theorem S_X11_parts_58 {G : am_G} {d : Nat} {Q : am_D → Prop} {σ : am_D} {v1 : Int} {v2 : Int} {v3 : Int} {s0 : Int} (hr1 : -2147483648 ≤ s0 ∧ s0 ≤ 2147483647) (k1 : s0 = 0 → am_X (am_FV G (d + 1) Q) mX11_parts (0, 0) 2 [some (am_r (some 91)), some (am_i v1), some (am_i v2), some (am_i v3)] [] (am_K0, σ)) (k2 : ¬ (s0 = 0) → am_X (am_FV G (d + 1) Q) mX11_parts (0, 0) 61 [some (am_r (some 91)), some (am_i v1), some (am_i v2), none] [] (am_K0, σ)) : am_X (am_FV G (d + 1) Q) mX11_parts (0, 0) 58 [some (am_r (some 91)), some (am_i v1), some (am_i v2), some (am_i v3)] [am_i s0] (am_K0, σ) := by
  refine am_r_if_eq (tg := 2) (nx := 61) (show decode cX11_parts 58 = .ok (.ifCond .eq (-56), 3) by decide +kernel) (by decide) rfl hr1 ?_ ?_
  · exact fun q => k1 q
  · exact fun q => am_x_fg [3] (k2 q)
theorem S_X11_parts_61 {G : am_G} {d : Nat} {Q : am_D → Prop} {σ : am_D} {v1 : Int} {v2 : Int} {Q' : am_D → Prop} (hc : am_MV G d mX11_element [am_r (some 91), am_i v1, am_i v2] σ Q') (k : ∀ σ' : am_D, Q' σ' → am_X (am_FV G (d + 1) Q) mX11_parts (0, 0) 67 [some (am_r (some 91)), some (am_i v1), some (am_i v2), none] [] (am_K0, σ')) : am_X (am_FV G (d + 1) Q) mX11_parts (0, 0) 61 [some (am_r (some 91)), some (am_i v1), some (am_i v2), none] [] (am_K0, σ) := by
  refine am_r_aload_n (nx := 62) rfl rfl (show decode cX11_parts 61 = .ok (.aload_n 0, 1) by decide +kernel) rfl ?_
  refine am_r_iload_n (nx := 63) rfl rfl (show decode cX11_parts 62 = .ok (.iload_n 1, 1) by decide +kernel) rfl ?_
  refine am_r_iload_n (nx := 64) rfl rfl (show decode cX11_parts 63 = .ok (.iload_n 2, 1) by decide +kernel) rfl ?_
  refine am_r_callV (as := [am_i v1, am_i v2]) (st := []) hc mb_X11_element mv_X11_element (Or.inl ml_X11_233) (ob_91) (by omega) (r := (RX11, TX11, 63)) rfl rfl rfl rfl (Nat.le_of_ble_eq_true rfl) ⟨Nat.le_refl _, Nat.le_refl _⟩ ⟨Nat.le_refl _, Nat.le_refl _⟩ (show decode cX11_parts 64 = .ok (.invokevirtual 233, 3) by decide +kernel) ?_
  rintro _ _ ⟨σ', rfl, rfl, hq⟩ _
  exact (k σ' hq)
theorem S_X11_parts_67 {G : am_G} {d : Nat} {Q : am_D → Prop} {σ : am_D} {v1 : Int} {v2 : Int}  (k : am_X (am_FV G (d + 1) Q) mX11_parts (0, 0) 2 [some (am_r (some 91)), some (am_i v1), some (am_i v2), some (am_i 1)] [] (am_K0, σ)) : am_X (am_FV G (d + 1) Q) mX11_parts (0, 0) 67 [some (am_r (some 91)), some (am_i v1), some (am_i v2), none] [] (am_K0, σ) := by
  refine am_r_iconst (nx := 68) (show decode cX11_parts 67 = .ok (.iconst 1, 1) by decide +kernel) rfl ?_
  refine am_r_istore_n (nx := 69) rfl (by decide) rfl (show decode cX11_parts 68 = .ok (.istore_n 3, 1) by decide +kernel) rfl ?_
  refine am_r_goto (tg := 2) (show decode cX11_parts 69 = .ok (.goto (-67), 3) by decide +kernel) (by decide) ?_
  exact k
theorem S_X11_parts_72 {G : am_G} {d : Nat} {Q : am_D → Prop} {σ : am_D}   (k : Q σ) : am_X (am_FV G (d + 1) Q) mX11_parts (0, 0) 72 [none, none, none, none] [] (am_K0, σ) := by
  exact am_r_vret rfl (show decode cX11_parts 72 = .ok (.return_, 1) by decide +kernel) ⟨_, rfl, rfl, k⟩
theorem S_X11_element_0 {G : am_G} {d : Nat} {Q : am_D → Prop} {σ : am_D} {v1 : Int} {v2 : Int} (hi1 : 0 ≤ (120 + v1)) (hj2 : (120 + v1) < 144) (hr3 : -2147483648 ≤ (σ.1 105 (120 + v1)) ∧ (σ.1 105 (120 + v1)) ≤ 2147483647) (k1 : ¬ (σ.1 105 (120 + v1)) = 6 → am_X (am_FV G (d + 1) Q) mX11_element (0, 0) 19 [some (am_r (some 91)), some (am_i v1), some (am_i v2), none] [] (am_K0, σ)) (k2 : ¬ (¬ (σ.1 105 (120 + v1)) = 6) → am_X (am_FV G (d + 1) Q) mX11_element (0, 0) 14 [some (am_r (some 91)), some (am_i v1), some (am_i v2), none] [] (am_K0, σ)) : am_X (am_FV G (d + 1) Q) mX11_element (0, 0) 0 [some (am_r (some 91)), some (am_i v1), some (am_i v2), none] [] (am_K0, σ) := by
  refine am_r_aload_n (nx := 1) rfl rfl (show decode cX11_element 0 = .ok (.aload_n 0, 1) by decide +kernel) rfl ?_
  refine am_r_getF (nx := 4) 19 cw11 (by decide) rfl (Or.inl fl_X11_51) (ob_91) (fn_91_19) (show decode cX11_element 1 = .ok (.getfield 51, 3) by decide +kernel) rfl ?_
  refine am_r_bipush (nx := 6) rfl (show decode cX11_element 4 = .ok (.bipush 120, 2) by decide +kernel) rfl ?_
  refine am_r_iload_n (nx := 7) rfl rfl (show decode cX11_element 6 = .ok (.iload_n 1, 1) by decide +kernel) rfl ?_
  refine am_r_iadd (nx := 8) (show decode cX11_element 7 = .ok (.iadd, 1) by decide +kernel) rfl ?_
  refine am_r_iald (nx := 9) (sh_105) (am_shle (sh_105)) hi1 hj2 (show decode cX11_element 8 = .ok (.iaload, 1) by decide +kernel) rfl ?_
  refine am_r_bipush (nx := 11) rfl (show decode cX11_element 9 = .ok (.bipush 6, 2) by decide +kernel) rfl ?_
  refine am_r_icmp_ne (tg := 19) (nx := 14) (show decode cX11_element 11 = .ok (.if_icmp .ne 8, 3) by decide +kernel) (by decide) rfl hr3 (by omega) ?_ ?_
  · exact fun q => k1 q
  · exact fun q => k2 q
theorem S_X11_element_14 {G : am_G} {d : Nat} {Q : am_D → Prop} {σ : am_D} {v1 : Int} {v2 : Int} {Q' : am_D → Prop} (hc : am_MV G d mX11_fails [am_r (some 91), am_i 5] σ Q') (k : ∀ σ' : am_D, Q' σ' → am_X (am_FV G (d + 1) Q) mX11_element (0, 0) 19 [some (am_r (some 91)), some (am_i v1), some (am_i v2), none] [] (am_K0, σ')) : am_X (am_FV G (d + 1) Q) mX11_element (0, 0) 14 [some (am_r (some 91)), some (am_i v1), some (am_i v2), none] [] (am_K0, σ) := by
  refine am_r_aload_n (nx := 15) rfl rfl (show decode cX11_element 14 = .ok (.aload_n 0, 1) by decide +kernel) rfl ?_
  refine am_r_iconst (nx := 16) (show decode cX11_element 15 = .ok (.iconst 5, 1) by decide +kernel) rfl ?_
  refine am_r_callV (as := [am_i 5]) (st := []) hc mb_X11_fails mv_X11_fails (Or.inl ml_X11_202) (ob_91) (by omega) (r := (RX11, TX11, 63)) rfl rfl rfl rfl (Nat.le_of_ble_eq_true rfl) ⟨Nat.le_refl _, Nat.le_refl _⟩ ⟨Nat.le_refl _, Nat.le_refl _⟩ (show decode cX11_element 16 = .ok (.invokevirtual 202, 3) by decide +kernel) ?_
  rintro _ _ ⟨σ', rfl, rfl, hq⟩ _
  exact (k σ' hq)
theorem S_X11_element_19 {G : am_G} {d : Nat} {Q : am_D → Prop} {σ : am_D} {v1 : Int} {v2 : Int} {Q' : Int → am_D → Prop} (hc : am_MI G d mX11_isGood [am_r (some 91)] σ Q') (k : ∀ (x : Int) (σ' : am_D), Q' x σ' → am_X (am_FV G (d + 1) Q) mX11_element (0, 0) 23 [some (am_r (some 91)), some (am_i v1), some (am_i v2), none] [am_i x] (am_K0, σ')) : am_X (am_FV G (d + 1) Q) mX11_element (0, 0) 19 [some (am_r (some 91)), some (am_i v1), some (am_i v2), none] [] (am_K0, σ) := by
  refine am_r_aload_n (nx := 20) rfl rfl (show decode cX11_element 19 = .ok (.aload_n 0, 1) by decide +kernel) rfl ?_
  refine am_r_callV (as := []) (st := []) hc mb_X11_isGood mv_X11_isGood (Or.inl ml_X11_185) (ob_91) (by omega) (r := (RX11, TX11, 63)) rfl rfl rfl rfl (Nat.le_of_ble_eq_true rfl) ⟨Nat.le_refl _, Nat.le_refl _⟩ ⟨Nat.le_refl _, Nat.le_refl _⟩ (show decode cX11_element 20 = .ok (.invokevirtual 185, 3) by decide +kernel) ?_
  rintro _ _ ⟨x, σ', rfl, rfl, hq⟩ _
  exact (k x σ' hq)
theorem S_X11_element_23 {G : am_G} {d : Nat} {Q : am_D → Prop} {σ : am_D} {v1 : Int} {v2 : Int} {s0 : Int} (hr1 : -2147483648 ≤ s0 ∧ s0 ≤ 2147483647) (k1 : ¬ s0 = 0 → am_X (am_FV G (d + 1) Q) mX11_element (0, 0) 27 [some (am_r (some 91)), some (am_i v1), some (am_i v2), none] [] (am_K0, σ)) (k2 : ¬ (¬ s0 = 0) → am_X (am_FV G (d + 1) Q) mX11_element (0, 0) 26 [none, none, none, none] [] (am_K0, σ)) : am_X (am_FV G (d + 1) Q) mX11_element (0, 0) 23 [some (am_r (some 91)), some (am_i v1), some (am_i v2), none] [am_i s0] (am_K0, σ) := by
  refine am_r_if_ne (tg := 27) (nx := 26) (show decode cX11_element 23 = .ok (.ifCond .ne 4, 3) by decide +kernel) (by decide) rfl hr1 ?_ ?_
  · exact fun q => k1 q
  · exact fun q => am_x_fg [0, 1, 2] (k2 q)
theorem S_X11_element_26 {G : am_G} {d : Nat} {Q : am_D → Prop} {σ : am_D}   (k : Q σ) : am_X (am_FV G (d + 1) Q) mX11_element (0, 0) 26 [none, none, none, none] [] (am_K0, σ) := by
  exact am_r_vret rfl (show decode cX11_element 26 = .ok (.return_, 1) by decide +kernel) ⟨_, rfl, rfl, k⟩
theorem S_X11_element_27 {G : am_G} {d : Nat} {Q : am_D → Prop} {σ : am_D} {v1 : Int} {v2 : Int} (hi1 : 0 ≤ (120 + v1)) (hj2 : (120 + v1) < 144) (hi3 : 0 ≤ (120 + v1)) (hj4 : (120 + v1) < 144) (k : am_X (am_FV G (d + 1) Q) mX11_element (0, 0) 40 [some (am_r (some 91)), some (am_i v1), some (am_i v2), none] [] (am_K0, (am_pI σ 105 (120 + v1) ((σ.1 105 (120 + v1)) + 1)))) : am_X (am_FV G (d + 1) Q) mX11_element (0, 0) 27 [some (am_r (some 91)), some (am_i v1), some (am_i v2), none] [] (am_K0, σ) := by
  refine am_r_aload_n (nx := 28) rfl rfl (show decode cX11_element 27 = .ok (.aload_n 0, 1) by decide +kernel) rfl ?_
  refine am_r_getF (nx := 31) 19 cw11 (by decide) rfl (Or.inl fl_X11_51) (ob_91) (fn_91_19) (show decode cX11_element 28 = .ok (.getfield 51, 3) by decide +kernel) rfl ?_
  refine am_r_bipush (nx := 33) rfl (show decode cX11_element 31 = .ok (.bipush 120, 2) by decide +kernel) rfl ?_
  refine am_r_iload_n (nx := 34) rfl rfl (show decode cX11_element 33 = .ok (.iload_n 1, 1) by decide +kernel) rfl ?_
  refine am_r_iadd (nx := 35) (show decode cX11_element 34 = .ok (.iadd, 1) by decide +kernel) rfl ?_
  refine am_r_dup2 (nx := 36) rfl rfl (show decode cX11_element 35 = .ok (.dup2, 1) by decide +kernel) rfl ?_
  refine am_r_iald (nx := 37) (sh_105) (am_shle (sh_105)) hi1 hj2 (show decode cX11_element 36 = .ok (.iaload, 1) by decide +kernel) rfl ?_
  refine am_r_iconst (nx := 38) (show decode cX11_element 37 = .ok (.iconst 1, 1) by decide +kernel) rfl ?_
  refine am_r_iadd (nx := 39) (show decode cX11_element 38 = .ok (.iadd, 1) by decide +kernel) rfl ?_
  refine am_r_iast (nx := 40) (sh_105) (am_shle (sh_105)) hi3 hj4 (show decode cX11_element 39 = .ok (.iastore, 1) by decide +kernel) rfl ?_
  exact k
theorem S_X11_element_40 {G : am_G} {d : Nat} {Q : am_D → Prop} {σ : am_D} {v1 : Int} {v2 : Int} {Q' : am_D → Prop} (hc : am_MV G d mX11_goes [am_r (some 91)] σ Q') (k : ∀ σ' : am_D, Q' σ' → am_X (am_FV G (d + 1) Q) mX11_element (0, 0) 44 [some (am_r (some 91)), some (am_i v1), some (am_i v2), none] [] (am_K0, σ')) : am_X (am_FV G (d + 1) Q) mX11_element (0, 0) 40 [some (am_r (some 91)), some (am_i v1), some (am_i v2), none] [] (am_K0, σ) := by
  refine am_r_aload_n (nx := 41) rfl rfl (show decode cX11_element 40 = .ok (.aload_n 0, 1) by decide +kernel) rfl ?_
  refine am_r_callV (as := []) (st := []) hc mb_X11_goes mv_X11_goes (Or.inl ml_X11_182) (ob_91) (by omega) (r := (RX11, TX11, 63)) rfl rfl rfl rfl (Nat.le_of_ble_eq_true rfl) ⟨Nat.le_refl _, Nat.le_refl _⟩ ⟨Nat.le_refl _, Nat.le_refl _⟩ (show decode cX11_element 41 = .ok (.invokevirtual 182, 3) by decide +kernel) ?_
  rintro _ _ ⟨σ', rfl, rfl, hq⟩ _
  exact (k σ' hq)
theorem S_X11_element_44 {G : am_G} {d : Nat} {Q : am_D → Prop} {σ : am_D} {v1 : Int} {v2 : Int} {Q' : Int → am_D → Prop} (hc : am_MI G d mX11_letter [am_r (some 91)] σ Q') (k : ∀ (x : Int) (σ' : am_D), Q' x σ' → am_X (am_FV G (d + 1) Q) mX11_element (0, 0) 49 [some (am_r (some 91)), some (am_i v1), some (am_i v2), some (am_i x)] [] (am_K0, σ')) : am_X (am_FV G (d + 1) Q) mX11_element (0, 0) 44 [some (am_r (some 91)), some (am_i v1), some (am_i v2), none] [] (am_K0, σ) := by
  refine am_r_aload_n (nx := 45) rfl rfl (show decode cX11_element 44 = .ok (.aload_n 0, 1) by decide +kernel) rfl ?_
  refine am_r_callV (as := []) (st := []) hc mb_X11_letter mv_X11_letter (Or.inl ml_X11_237) (ob_91) (by omega) (r := (RX11, TX11, 63)) rfl rfl rfl rfl (Nat.le_of_ble_eq_true rfl) ⟨Nat.le_refl _, Nat.le_refl _⟩ ⟨Nat.le_refl _, Nat.le_refl _⟩ (show decode cX11_element 45 = .ok (.invokevirtual 237, 3) by decide +kernel) ?_
  rintro _ _ ⟨x, σ', rfl, rfl, hq⟩ _
  refine am_r_istore_n (nx := 49) rfl (by decide) rfl (show decode cX11_element 48 = .ok (.istore_n 3, 1) by decide +kernel) rfl ?_
  exact (k x σ' hq)
theorem S_X11_element_49 {G : am_G} {d : Nat} {Q : am_D → Prop} {σ : am_D} {v1 : Int} {v2 : Int} {v3 : Int} {Q' : am_D → Prop} (hc : am_MV G d mX11_emits [am_r (some 91), am_i v3] σ Q') (k : ∀ σ' : am_D, Q' σ' → am_X (am_FV G (d + 1) Q) mX11_element (0, 0) 54 [some (am_r (some 91)), some (am_i v1), some (am_i v2), none] [] (am_K0, σ')) : am_X (am_FV G (d + 1) Q) mX11_element (0, 0) 49 [some (am_r (some 91)), some (am_i v1), some (am_i v2), some (am_i v3)] [] (am_K0, σ) := by
  refine am_r_aload_n (nx := 50) rfl rfl (show decode cX11_element 49 = .ok (.aload_n 0, 1) by decide +kernel) rfl ?_
  refine am_r_iload_n (nx := 51) rfl rfl (show decode cX11_element 50 = .ok (.iload_n 3, 1) by decide +kernel) rfl ?_
  refine am_r_callV (as := [am_i v3]) (st := []) hc mb_X11_emits mv_X11_emits (Or.inl ml_X11_222) (ob_91) (by omega) (r := (RX11, TX11, 63)) rfl rfl rfl rfl (Nat.le_of_ble_eq_true rfl) ⟨Nat.le_refl _, Nat.le_refl _⟩ ⟨Nat.le_refl _, Nat.le_refl _⟩ (show decode cX11_element 51 = .ok (.invokevirtual 222, 3) by decide +kernel) ?_
  rintro _ _ ⟨σ', rfl, rfl, hq⟩ _
  exact am_x_fg [3] (k σ' hq)
theorem S_X11_element_54 {G : am_G} {d : Nat} {Q : am_D → Prop} {σ : am_D} {v1 : Int} {v2 : Int} {Q' : am_D → Prop} (hc : am_MV G d mX11_parts [am_r (some 91), am_i v1, am_i v2] σ Q') (k : ∀ σ' : am_D, Q' σ' → am_X (am_FV G (d + 1) Q) mX11_element (0, 0) 60 [some (am_r (some 91)), none, none, none] [] (am_K0, σ')) : am_X (am_FV G (d + 1) Q) mX11_element (0, 0) 54 [some (am_r (some 91)), some (am_i v1), some (am_i v2), none] [] (am_K0, σ) := by
  refine am_r_aload_n (nx := 55) rfl rfl (show decode cX11_element 54 = .ok (.aload_n 0, 1) by decide +kernel) rfl ?_
  refine am_r_iload_n (nx := 56) rfl rfl (show decode cX11_element 55 = .ok (.iload_n 1, 1) by decide +kernel) rfl ?_
  refine am_r_iload_n (nx := 57) rfl rfl (show decode cX11_element 56 = .ok (.iload_n 2, 1) by decide +kernel) rfl ?_
  refine am_r_callV (as := [am_i v1, am_i v2]) (st := []) hc mb_X11_parts mv_X11_parts (Or.inl ml_X11_240) (ob_91) (by omega) (r := (RX11, TX11, 63)) rfl rfl rfl rfl (Nat.le_of_ble_eq_true rfl) ⟨Nat.le_refl _, Nat.le_refl _⟩ ⟨Nat.le_refl _, Nat.le_refl _⟩ (show decode cX11_element 57 = .ok (.invokevirtual 240, 3) by decide +kernel) ?_
  rintro _ _ ⟨σ', rfl, rfl, hq⟩ _
  exact am_x_fg [1, 2] (k σ' hq)
theorem S_X11_element_60 {G : am_G} {d : Nat} {Q : am_D → Prop} {σ : am_D} {Q' : am_D → Prop} (hc : am_MV G d mX11_sign [am_r (some 91), am_i 62] σ Q') (k : ∀ σ' : am_D, Q' σ' → am_X (am_FV G (d + 1) Q) mX11_element (0, 0) 66 [some (am_r (some 91)), none, none, none] [] (am_K0, σ')) : am_X (am_FV G (d + 1) Q) mX11_element (0, 0) 60 [some (am_r (some 91)), none, none, none] [] (am_K0, σ) := by
  refine am_r_aload_n (nx := 61) rfl rfl (show decode cX11_element 60 = .ok (.aload_n 0, 1) by decide +kernel) rfl ?_
  refine am_r_bipush (nx := 63) rfl (show decode cX11_element 61 = .ok (.bipush 62, 2) by decide +kernel) rfl ?_
  refine am_r_callV (as := [am_i 62]) (st := []) hc mb_X11_sign mv_X11_sign (Or.inl ml_X11_243) (ob_91) (by omega) (r := (RX11, TX11, 63)) rfl rfl rfl rfl (Nat.le_of_ble_eq_true rfl) ⟨Nat.le_refl _, Nat.le_refl _⟩ ⟨Nat.le_refl _, Nat.le_refl _⟩ (show decode cX11_element 63 = .ok (.invokevirtual 243, 3) by decide +kernel) ?_
  rintro _ _ ⟨σ', rfl, rfl, hq⟩ _
  exact (k σ' hq)
theorem S_X11_element_66 {G : am_G} {d : Nat} {Q : am_D → Prop} {σ : am_D} {Q' : am_D → Prop} (hc : am_MV G d mX11_emits [am_r (some 91), am_i 3] σ Q') (k : ∀ σ' : am_D, Q' σ' → am_X (am_FV G (d + 1) Q) mX11_element (0, 0) 71 [none, none, none, none] [] (am_K0, σ')) : am_X (am_FV G (d + 1) Q) mX11_element (0, 0) 66 [some (am_r (some 91)), none, none, none] [] (am_K0, σ) := by
  refine am_r_aload_n (nx := 67) rfl rfl (show decode cX11_element 66 = .ok (.aload_n 0, 1) by decide +kernel) rfl ?_
  refine am_r_iconst (nx := 68) (show decode cX11_element 67 = .ok (.iconst 3, 1) by decide +kernel) rfl ?_
  refine am_r_callV (as := [am_i 3]) (st := []) hc mb_X11_emits mv_X11_emits (Or.inl ml_X11_222) (ob_91) (by omega) (r := (RX11, TX11, 63)) rfl rfl rfl rfl (Nat.le_of_ble_eq_true rfl) ⟨Nat.le_refl _, Nat.le_refl _⟩ ⟨Nat.le_refl _, Nat.le_refl _⟩ (show decode cX11_element 68 = .ok (.invokevirtual 222, 3) by decide +kernel) ?_
  rintro _ _ ⟨σ', rfl, rfl, hq⟩ _
  exact am_x_fg [0] (k σ' hq)
theorem S_X11_element_71 {G : am_G} {d : Nat} {Q : am_D → Prop} {σ : am_D}   (k : Q σ) : am_X (am_FV G (d + 1) Q) mX11_element (0, 0) 71 [none, none, none, none] [] (am_K0, σ) := by
  exact am_r_vret rfl (show decode cX11_element 71 = .ok (.return_, 1) by decide +kernel) ⟨_, rfl, rfl, k⟩
theorem S_X11_expression_0 {G : am_G} {d : Nat} {Q : am_D → Prop} {σ : am_D} {v1 : Int} {v2 : Int} {v3 : Int} (hi1 : 0 ≤ ((360 + (3 * v1)) + v2)) (hj2 : ((360 + (3 * v1)) + v2) < 432) (k : am_X (am_FV G (d + 1) Q) mX11_expression (0, 0) 20 [some (am_r (some 91)), some (am_i v1), some (am_i v2), some (am_i v3)] [] (am_K0, (am_pI σ 103 ((360 + (3 * v1)) + v2) (σ.1 97 5)))) : am_X (am_FV G (d + 1) Q) mX11_expression (0, 0) 0 [some (am_r (some 91)), some (am_i v1), some (am_i v2), some (am_i v3)] [] (am_K0, σ) := by
  refine am_r_aload_n (nx := 1) rfl rfl (show decode cX11_expression 0 = .ok (.aload_n 0, 1) by decide +kernel) rfl ?_
  refine am_r_getF (nx := 4) 17 cw11 (by decide) rfl (Or.inl fl_X11_45) (ob_91) (fn_91_17) (show decode cX11_expression 1 = .ok (.getfield 45, 3) by decide +kernel) rfl ?_
  refine am_r_sipush (nx := 7) rfl (show decode cX11_expression 4 = .ok (.sipush 360, 3) by decide +kernel) rfl ?_
  refine am_r_iconst (nx := 8) (show decode cX11_expression 7 = .ok (.iconst 3, 1) by decide +kernel) rfl ?_
  refine am_r_iload_n (nx := 9) rfl rfl (show decode cX11_expression 8 = .ok (.iload_n 1, 1) by decide +kernel) rfl ?_
  refine am_r_imul (nx := 10) (show decode cX11_expression 9 = .ok (.imul, 1) by decide +kernel) rfl ?_
  refine am_r_iadd (nx := 11) (show decode cX11_expression 10 = .ok (.iadd, 1) by decide +kernel) rfl ?_
  refine am_r_iload_n (nx := 12) rfl rfl (show decode cX11_expression 11 = .ok (.iload_n 2, 1) by decide +kernel) rfl ?_
  refine am_r_iadd (nx := 13) (show decode cX11_expression 12 = .ok (.iadd, 1) by decide +kernel) rfl ?_
  refine am_r_aload_n (nx := 14) rfl rfl (show decode cX11_expression 13 = .ok (.aload_n 0, 1) by decide +kernel) rfl ?_
  refine am_r_getF (nx := 17) 11 cw11 (by decide) rfl (Or.inl fl_X11_27) (ob_91) (fn_91_11) (show decode cX11_expression 14 = .ok (.getfield 27, 3) by decide +kernel) rfl ?_
  refine am_r_iconst (nx := 18) (show decode cX11_expression 17 = .ok (.iconst 5, 1) by decide +kernel) rfl ?_
  refine am_r_iald (nx := 19) (sh_97) (am_shle (sh_97)) (by omega) (by omega) (show decode cX11_expression 18 = .ok (.iaload, 1) by decide +kernel) rfl ?_
  refine am_r_iast (nx := 20) (sh_103) (am_shle (sh_103)) hi1 hj2 (show decode cX11_expression 19 = .ok (.iastore, 1) by decide +kernel) rfl ?_
  exact k
theorem S_X11_expression_20 {G : am_G} {d : Nat} {Q : am_D → Prop} {σ : am_D} {v1 : Int} {v2 : Int} {v3 : Int} {Q' : am_D → Prop} (hc : am_MV G d mX11_parts [am_r (some 91), am_i v1, am_i v3] σ Q') (k : ∀ σ' : am_D, Q' σ' → am_X (am_FV G (d + 1) Q) mX11_expression (0, 0) 26 [some (am_r (some 91)), some (am_i v1), some (am_i v2), none] [] (am_K0, σ')) : am_X (am_FV G (d + 1) Q) mX11_expression (0, 0) 20 [some (am_r (some 91)), some (am_i v1), some (am_i v2), some (am_i v3)] [] (am_K0, σ) := by
  refine am_r_aload_n (nx := 21) rfl rfl (show decode cX11_expression 20 = .ok (.aload_n 0, 1) by decide +kernel) rfl ?_
  refine am_r_iload_n (nx := 22) rfl rfl (show decode cX11_expression 21 = .ok (.iload_n 1, 1) by decide +kernel) rfl ?_
  refine am_r_iload_n (nx := 23) rfl rfl (show decode cX11_expression 22 = .ok (.iload_n 3, 1) by decide +kernel) rfl ?_
  refine am_r_callV (as := [am_i v1, am_i v3]) (st := []) hc mb_X11_parts mv_X11_parts (Or.inl ml_X11_240) (ob_91) (by omega) (r := (RX11, TX11, 63)) rfl rfl rfl rfl (Nat.le_of_ble_eq_true rfl) ⟨Nat.le_refl _, Nat.le_refl _⟩ ⟨Nat.le_refl _, Nat.le_refl _⟩ (show decode cX11_expression 23 = .ok (.invokevirtual 240, 3) by decide +kernel) ?_
  rintro _ _ ⟨σ', rfl, rfl, hq⟩ _
  exact am_x_fg [3] (k σ' hq)
theorem S_X11_expression_26 {G : am_G} {d : Nat} {Q : am_D → Prop} {σ : am_D} {v1 : Int} {v2 : Int} (hi1 : 0 ≤ ((360 + (3 * v1)) + v2)) (hj2 : ((360 + (3 * v1)) + v2) < 432) (k : am_X (am_FV G (d + 1) Q) mX11_expression (0, 0) 46 [none, none, none, none] [] (am_K0, (am_pI σ 104 ((360 + (3 * v1)) + v2) (σ.1 97 5)))) : am_X (am_FV G (d + 1) Q) mX11_expression (0, 0) 26 [some (am_r (some 91)), some (am_i v1), some (am_i v2), none] [] (am_K0, σ) := by
  refine am_r_aload_n (nx := 27) rfl rfl (show decode cX11_expression 26 = .ok (.aload_n 0, 1) by decide +kernel) rfl ?_
  refine am_r_getF (nx := 30) 18 cw11 (by decide) rfl (Or.inl fl_X11_48) (ob_91) (fn_91_18) (show decode cX11_expression 27 = .ok (.getfield 48, 3) by decide +kernel) rfl ?_
  refine am_r_sipush (nx := 33) rfl (show decode cX11_expression 30 = .ok (.sipush 360, 3) by decide +kernel) rfl ?_
  refine am_r_iconst (nx := 34) (show decode cX11_expression 33 = .ok (.iconst 3, 1) by decide +kernel) rfl ?_
  refine am_r_iload_n (nx := 35) rfl rfl (show decode cX11_expression 34 = .ok (.iload_n 1, 1) by decide +kernel) rfl ?_
  refine am_r_imul (nx := 36) (show decode cX11_expression 35 = .ok (.imul, 1) by decide +kernel) rfl ?_
  refine am_r_iadd (nx := 37) (show decode cX11_expression 36 = .ok (.iadd, 1) by decide +kernel) rfl ?_
  refine am_r_iload_n (nx := 38) rfl rfl (show decode cX11_expression 37 = .ok (.iload_n 2, 1) by decide +kernel) rfl ?_
  refine am_r_iadd (nx := 39) (show decode cX11_expression 38 = .ok (.iadd, 1) by decide +kernel) rfl ?_
  refine am_r_aload_n (nx := 40) rfl rfl (show decode cX11_expression 39 = .ok (.aload_n 0, 1) by decide +kernel) rfl ?_
  refine am_r_getF (nx := 43) 11 cw11 (by decide) rfl (Or.inl fl_X11_27) (ob_91) (fn_91_11) (show decode cX11_expression 40 = .ok (.getfield 27, 3) by decide +kernel) rfl ?_
  refine am_r_iconst (nx := 44) (show decode cX11_expression 43 = .ok (.iconst 5, 1) by decide +kernel) rfl ?_
  refine am_r_iald (nx := 45) (sh_97) (am_shle (sh_97)) (by omega) (by omega) (show decode cX11_expression 44 = .ok (.iaload, 1) by decide +kernel) rfl ?_
  refine am_r_iast (nx := 46) (sh_104) (am_shle (sh_104)) hi1 hj2 (show decode cX11_expression 45 = .ok (.iastore, 1) by decide +kernel) rfl ?_
  exact am_x_fg [0, 1, 2] k
theorem S_X11_expression_46 {G : am_G} {d : Nat} {Q : am_D → Prop} {σ : am_D}   (k : Q σ) : am_X (am_FV G (d + 1) Q) mX11_expression (0, 0) 46 [none, none, none, none] [] (am_K0, σ) := by
  exact am_r_vret rfl (show decode cX11_expression 46 = .ok (.return_, 1) by decide +kernel) ⟨_, rfl, rfl, k⟩
theorem S_X11_openRule_0 {G : am_G} {d : Nat} {Q : am_D → Prop} {σ : am_D} {Q' : Int → am_D → Prop} (hc : am_MI G d mX11_letter [am_r (some 91)] σ Q') (k : ∀ (x : Int) (σ' : am_D), Q' x σ' → am_X (am_FV G (d + 1) Q) mX11_openRule (0, 0) 5 [some (am_r (some 91)), some (am_i x), none, none, none] [] (am_K0, σ')) : am_X (am_FV G (d + 1) Q) mX11_openRule (0, 0) 0 [some (am_r (some 91)), none, none, none, none] [] (am_K0, σ) := by
  refine am_r_aload_n (nx := 1) rfl rfl (show decode cX11_openRule 0 = .ok (.aload_n 0, 1) by decide +kernel) rfl ?_
  refine am_r_callV (as := []) (st := []) hc mb_X11_letter mv_X11_letter (Or.inl ml_X11_237) (ob_91) (by omega) (r := (RX11, TX11, 63)) rfl rfl rfl rfl (Nat.le_of_ble_eq_true rfl) ⟨Nat.le_refl _, Nat.le_refl _⟩ ⟨Nat.le_refl _, Nat.le_refl _⟩ (show decode cX11_openRule 1 = .ok (.invokevirtual 237, 3) by decide +kernel) ?_
  rintro _ _ ⟨x, σ', rfl, rfl, hq⟩ _
  refine am_r_istore_n (nx := 5) rfl (by decide) rfl (show decode cX11_openRule 4 = .ok (.istore_n 1, 1) by decide +kernel) rfl ?_
  exact (k x σ' hq)
theorem S_X11_openRule_5 {G : am_G} {d : Nat} {Q : am_D → Prop} {σ : am_D} {v1 : Int} {Q' : Int → am_D → Prop} (hc : am_MI G d mX11_digit [am_r (some 91), am_i 0, am_i ((σ.1 94 5) - 1)] σ Q') (k : ∀ (x : Int) (σ' : am_D), Q' x σ' → am_X (am_FV G (d + 1) Q) mX11_openRule (0, 0) 19 [some (am_r (some 91)), some (am_i v1), some (am_i x), none, none] [] (am_K0, σ')) : am_X (am_FV G (d + 1) Q) mX11_openRule (0, 0) 5 [some (am_r (some 91)), some (am_i v1), none, none, none] [] (am_K0, σ) := by
  refine am_r_aload_n (nx := 6) rfl rfl (show decode cX11_openRule 5 = .ok (.aload_n 0, 1) by decide +kernel) rfl ?_
  refine am_r_iconst (nx := 7) (show decode cX11_openRule 6 = .ok (.iconst 0, 1) by decide +kernel) rfl ?_
  refine am_r_aload_n (nx := 8) rfl rfl (show decode cX11_openRule 7 = .ok (.aload_n 0, 1) by decide +kernel) rfl ?_
  refine am_r_getF (nx := 11) 8 cw11 (by decide) rfl (Or.inl fl_X11_17) (ob_91) (fn_91_8) (show decode cX11_openRule 8 = .ok (.getfield 17, 3) by decide +kernel) rfl ?_
  refine am_r_iconst (nx := 12) (show decode cX11_openRule 11 = .ok (.iconst 5, 1) by decide +kernel) rfl ?_
  refine am_r_iald (nx := 13) (sh_94) (am_shle (sh_94)) (by omega) (by omega) (show decode cX11_openRule 12 = .ok (.iaload, 1) by decide +kernel) rfl ?_
  refine am_r_iconst (nx := 14) (show decode cX11_openRule 13 = .ok (.iconst 1, 1) by decide +kernel) rfl ?_
  refine am_r_isub (nx := 15) (show decode cX11_openRule 14 = .ok (.isub, 1) by decide +kernel) rfl ?_
  refine am_r_callV (as := [am_i 0, am_i ((σ.1 94 5) - 1)]) (st := []) hc mb_X11_digit mv_X11_digit (Or.inl ml_X11_215) (ob_91) (by omega) (r := (RX11, TX11, 63)) rfl rfl rfl rfl (Nat.le_of_ble_eq_true rfl) ⟨Nat.le_refl _, Nat.le_refl _⟩ ⟨Nat.le_refl _, Nat.le_refl _⟩ (show decode cX11_openRule 15 = .ok (.invokevirtual 215, 3) by decide +kernel) ?_
  rintro _ _ ⟨x, σ', rfl, rfl, hq⟩ _
  refine am_r_istore_n (nx := 19) rfl (by decide) rfl (show decode cX11_openRule 18 = .ok (.istore_n 2, 1) by decide +kernel) rfl ?_
  exact (k x σ' hq)
theorem S_X11_openRule_19 {G : am_G} {d : Nat} {Q : am_D → Prop} {σ : am_D} {v1 : Int} {v2 : Int} {Q' : Int → am_D → Prop} (hc : am_MI G d mX11_isGood [am_r (some 91)] σ Q') (k : ∀ (x : Int) (σ' : am_D), Q' x σ' → am_X (am_FV G (d + 1) Q) mX11_openRule (0, 0) 23 [some (am_r (some 91)), some (am_i v1), some (am_i v2), none, none] [am_i x] (am_K0, σ')) : am_X (am_FV G (d + 1) Q) mX11_openRule (0, 0) 19 [some (am_r (some 91)), some (am_i v1), some (am_i v2), none, none] [] (am_K0, σ) := by
  refine am_r_aload_n (nx := 20) rfl rfl (show decode cX11_openRule 19 = .ok (.aload_n 0, 1) by decide +kernel) rfl ?_
  refine am_r_callV (as := []) (st := []) hc mb_X11_isGood mv_X11_isGood (Or.inl ml_X11_185) (ob_91) (by omega) (r := (RX11, TX11, 63)) rfl rfl rfl rfl (Nat.le_of_ble_eq_true rfl) ⟨Nat.le_refl _, Nat.le_refl _⟩ ⟨Nat.le_refl _, Nat.le_refl _⟩ (show decode cX11_openRule 20 = .ok (.invokevirtual 185, 3) by decide +kernel) ?_
  rintro _ _ ⟨x, σ', rfl, rfl, hq⟩ _
  exact (k x σ' hq)
theorem S_X11_openRule_23 {G : am_G} {d : Nat} {Q : am_D → Prop} {σ : am_D} {v1 : Int} {v2 : Int} {s0 : Int} (hr1 : -2147483648 ≤ s0 ∧ s0 ≤ 2147483647) (k1 : s0 = 0 → am_X (am_FV G (d + 1) Q) mX11_openRule (0, 0) 46 [some (am_r (some 91)), some (am_i v1), some (am_i v2), none, none] [] (am_K0, σ)) (k2 : ¬ (s0 = 0) → am_X (am_FV G (d + 1) Q) mX11_openRule (0, 0) 26 [some (am_r (some 91)), some (am_i v1), some (am_i v2), none, none] [] (am_K0, σ)) : am_X (am_FV G (d + 1) Q) mX11_openRule (0, 0) 23 [some (am_r (some 91)), some (am_i v1), some (am_i v2), none, none] [am_i s0] (am_K0, σ) := by
  refine am_r_if_eq (tg := 46) (nx := 26) (show decode cX11_openRule 23 = .ok (.ifCond .eq 23, 3) by decide +kernel) (by decide) rfl hr1 ?_ ?_
  · exact fun q => k1 q
  · exact fun q => k2 q
theorem S_X11_openRule_26 {G : am_G} {d : Nat} {Q : am_D → Prop} {σ : am_D} {v1 : Int} {v2 : Int} {Q' : Int → am_D → Prop} (hc : am_MI G d mX11_openAt [am_i 5, am_i v1, am_i v2] σ Q') (k : ∀ (x : Int) (σ' : am_D), Q' x σ' → am_X (am_FV G (d + 1) Q) mX11_openRule (0, 0) 36 [some (am_r (some 91)), some (am_i v1), some (am_i v2), none, none] [am_i x, am_r (some 98)] (am_K0, σ')) : am_X (am_FV G (d + 1) Q) mX11_openRule (0, 0) 26 [some (am_r (some 91)), some (am_i v1), some (am_i v2), none, none] [] (am_K0, σ) := by
  refine am_r_aload_n (nx := 27) rfl rfl (show decode cX11_openRule 26 = .ok (.aload_n 0, 1) by decide +kernel) rfl ?_
  refine am_r_getF (nx := 30) 12 cw11 (by decide) rfl (Or.inl fl_X11_30) (ob_91) (fn_91_12) (show decode cX11_openRule 27 = .ok (.getfield 30, 3) by decide +kernel) rfl ?_
  refine am_r_iconst (nx := 31) (show decode cX11_openRule 30 = .ok (.iconst 5, 1) by decide +kernel) rfl ?_
  refine am_r_iload_n (nx := 32) rfl rfl (show decode cX11_openRule 31 = .ok (.iload_n 1, 1) by decide +kernel) rfl ?_
  refine am_r_iload_n (nx := 33) rfl rfl (show decode cX11_openRule 32 = .ok (.iload_n 2, 1) by decide +kernel) rfl ?_
  refine am_r_callS (as := [am_i 5, am_i v1, am_i v2]) (st := [am_r (some 98)]) hc mb_X11_openAt mv_X11_openAt (Or.inl ml_X11_246) rfl rfl (Nat.le_of_ble_eq_true rfl) ⟨Nat.le_refl _, Nat.le_refl _⟩ ⟨Nat.le_refl _, Nat.le_refl _⟩ (show decode cX11_openRule 33 = .ok (.invokestatic 246, 3) by decide +kernel) ?_
  rintro _ _ ⟨x, σ', rfl, rfl, hq⟩ _
  exact (k x σ' hq)
theorem S_X11_openRule_36 {G : am_G} {d : Nat} {Q : am_D → Prop} {σ : am_D} {v1 : Int} {v2 : Int} {s1 : Int} {s0 : Nat} {n1 : Nat} (hs2 : am_sh am_SH s0 = (100, n1)) (hi3 : 0 ≤ s1) (hj4 : s1 < ((n1 : Nat) : Int)) (hr5 : -2147483648 ≤ (σ.1 s0 s1) ∧ (σ.1 s0 s1) ≤ 2147483647) (k1 : (σ.1 s0 s1) = (-1) → am_X (am_FV G (d + 1) Q) mX11_openRule (0, 0) 46 [some (am_r (some 91)), some (am_i v1), some (am_i v2), none, none] [] (am_K0, σ)) (k2 : ¬ ((σ.1 s0 s1) = (-1)) → am_X (am_FV G (d + 1) Q) mX11_openRule (0, 0) 41 [some (am_r (some 91)), some (am_i v1), some (am_i v2), none, none] [] (am_K0, σ)) : am_X (am_FV G (d + 1) Q) mX11_openRule (0, 0) 36 [some (am_r (some 91)), some (am_i v1), some (am_i v2), none, none] [am_i s1, am_r (some s0)] (am_K0, σ) := by
  refine am_r_iald (nx := 37) (hs2) (am_shle (hs2)) hi3 hj4 (show decode cX11_openRule 36 = .ok (.iaload, 1) by decide +kernel) rfl ?_
  refine am_r_iconst (nx := 38) (show decode cX11_openRule 37 = .ok (.iconst (-1), 1) by decide +kernel) rfl ?_
  refine am_r_icmp_eq (tg := 46) (nx := 41) (show decode cX11_openRule 38 = .ok (.if_icmp .eq 8, 3) by decide +kernel) (by decide) rfl hr5 (by omega) ?_ ?_
  · exact fun q => k1 q
  · exact fun q => k2 q
theorem S_X11_openRule_41 {G : am_G} {d : Nat} {Q : am_D → Prop} {σ : am_D} {v1 : Int} {v2 : Int} {Q' : am_D → Prop} (hc : am_MV G d mX11_fails [am_r (some 91), am_i 3] σ Q') (k : ∀ σ' : am_D, Q' σ' → am_X (am_FV G (d + 1) Q) mX11_openRule (0, 0) 46 [some (am_r (some 91)), some (am_i v1), some (am_i v2), none, none] [] (am_K0, σ')) : am_X (am_FV G (d + 1) Q) mX11_openRule (0, 0) 41 [some (am_r (some 91)), some (am_i v1), some (am_i v2), none, none] [] (am_K0, σ) := by
  refine am_r_aload_n (nx := 42) rfl rfl (show decode cX11_openRule 41 = .ok (.aload_n 0, 1) by decide +kernel) rfl ?_
  refine am_r_iconst (nx := 43) (show decode cX11_openRule 42 = .ok (.iconst 3, 1) by decide +kernel) rfl ?_
  refine am_r_callV (as := [am_i 3]) (st := []) hc mb_X11_fails mv_X11_fails (Or.inl ml_X11_202) (ob_91) (by omega) (r := (RX11, TX11, 63)) rfl rfl rfl rfl (Nat.le_of_ble_eq_true rfl) ⟨Nat.le_refl _, Nat.le_refl _⟩ ⟨Nat.le_refl _, Nat.le_refl _⟩ (show decode cX11_openRule 43 = .ok (.invokevirtual 202, 3) by decide +kernel) ?_
  rintro _ _ ⟨σ', rfl, rfl, hq⟩ _
  exact (k σ' hq)
theorem S_X11_openRule_46 {G : am_G} {d : Nat} {Q : am_D → Prop} {σ : am_D} {v1 : Int} {v2 : Int} {Q' : Int → am_D → Prop} (hc : am_MI G d mX11_isGood [am_r (some 91)] σ Q') (k : ∀ (x : Int) (σ' : am_D), Q' x σ' → am_X (am_FV G (d + 1) Q) mX11_openRule (0, 0) 50 [some (am_r (some 91)), some (am_i v1), some (am_i v2), none, none] [am_i x] (am_K0, σ')) : am_X (am_FV G (d + 1) Q) mX11_openRule (0, 0) 46 [some (am_r (some 91)), some (am_i v1), some (am_i v2), none, none] [] (am_K0, σ) := by
  refine am_r_aload_n (nx := 47) rfl rfl (show decode cX11_openRule 46 = .ok (.aload_n 0, 1) by decide +kernel) rfl ?_
  refine am_r_callV (as := []) (st := []) hc mb_X11_isGood mv_X11_isGood (Or.inl ml_X11_185) (ob_91) (by omega) (r := (RX11, TX11, 63)) rfl rfl rfl rfl (Nat.le_of_ble_eq_true rfl) ⟨Nat.le_refl _, Nat.le_refl _⟩ ⟨Nat.le_refl _, Nat.le_refl _⟩ (show decode cX11_openRule 47 = .ok (.invokevirtual 185, 3) by decide +kernel) ?_
  rintro _ _ ⟨x, σ', rfl, rfl, hq⟩ _
  exact (k x σ' hq)
theorem S_X11_openRule_50 {G : am_G} {d : Nat} {Q : am_D → Prop} {σ : am_D} {v1 : Int} {v2 : Int} {s0 : Int} (hr1 : -2147483648 ≤ s0 ∧ s0 ≤ 2147483647) (k1 : ¬ s0 = 0 → am_X (am_FV G (d + 1) Q) mX11_openRule (0, 0) 54 [some (am_r (some 91)), some (am_i v1), some (am_i v2), none, none] [] (am_K0, σ)) (k2 : ¬ (¬ s0 = 0) → am_X (am_FV G (d + 1) Q) mX11_openRule (0, 0) 53 [none, none, none, none, none] [] (am_K0, σ)) : am_X (am_FV G (d + 1) Q) mX11_openRule (0, 0) 50 [some (am_r (some 91)), some (am_i v1), some (am_i v2), none, none] [am_i s0] (am_K0, σ) := by
  refine am_r_if_ne (tg := 54) (nx := 53) (show decode cX11_openRule 50 = .ok (.ifCond .ne 4, 3) by decide +kernel) (by decide) rfl hr1 ?_ ?_
  · exact fun q => k1 q
  · exact fun q => am_x_fg [0, 1, 2] (k2 q)
theorem S_X11_openRule_53 {G : am_G} {d : Nat} {Q : am_D → Prop} {σ : am_D}   (k : Q σ) : am_X (am_FV G (d + 1) Q) mX11_openRule (0, 0) 53 [none, none, none, none, none] [] (am_K0, σ) := by
  exact am_r_vret rfl (show decode cX11_openRule 53 = .ok (.return_, 1) by decide +kernel) ⟨_, rfl, rfl, k⟩
theorem S_X11_openRule_54 {G : am_G} {d : Nat} {Q : am_D → Prop} {σ : am_D} {v1 : Int} {v2 : Int} {Q' : am_D → Prop} (hc : am_MV G d mX11_goes [am_r (some 91)] σ Q') (k : ∀ σ' : am_D, Q' σ' → am_X (am_FV G (d + 1) Q) mX11_openRule (0, 0) 58 [some (am_r (some 91)), some (am_i v1), some (am_i v2), none, none] [] (am_K0, σ')) : am_X (am_FV G (d + 1) Q) mX11_openRule (0, 0) 54 [some (am_r (some 91)), some (am_i v1), some (am_i v2), none, none] [] (am_K0, σ) := by
  refine am_r_aload_n (nx := 55) rfl rfl (show decode cX11_openRule 54 = .ok (.aload_n 0, 1) by decide +kernel) rfl ?_
  refine am_r_callV (as := []) (st := []) hc mb_X11_goes mv_X11_goes (Or.inl ml_X11_182) (ob_91) (by omega) (r := (RX11, TX11, 63)) rfl rfl rfl rfl (Nat.le_of_ble_eq_true rfl) ⟨Nat.le_refl _, Nat.le_refl _⟩ ⟨Nat.le_refl _, Nat.le_refl _⟩ (show decode cX11_openRule 55 = .ok (.invokevirtual 182, 3) by decide +kernel) ?_
  rintro _ _ ⟨σ', rfl, rfl, hq⟩ _
  exact (k σ' hq)
theorem S_X11_openRule_58 {G : am_G} {d : Nat} {Q : am_D → Prop} {σ : am_D} {v1 : Int} {v2 : Int} {Q' : Int → am_D → Prop} (hc : am_MI G d mX11_number [am_r (some 91), am_i 0, am_i ((σ.1 94 5) - 1)] σ Q') (k : ∀ (x : Int) (σ' : am_D), Q' x σ' → am_X (am_FV G (d + 1) Q) mX11_openRule (0, 0) 72 [some (am_r (some 91)), some (am_i v1), some (am_i v2), some (am_i x), none] [] (am_K0, σ')) : am_X (am_FV G (d + 1) Q) mX11_openRule (0, 0) 58 [some (am_r (some 91)), some (am_i v1), some (am_i v2), none, none] [] (am_K0, σ) := by
  refine am_r_aload_n (nx := 59) rfl rfl (show decode cX11_openRule 58 = .ok (.aload_n 0, 1) by decide +kernel) rfl ?_
  refine am_r_iconst (nx := 60) (show decode cX11_openRule 59 = .ok (.iconst 0, 1) by decide +kernel) rfl ?_
  refine am_r_aload_n (nx := 61) rfl rfl (show decode cX11_openRule 60 = .ok (.aload_n 0, 1) by decide +kernel) rfl ?_
  refine am_r_getF (nx := 64) 8 cw11 (by decide) rfl (Or.inl fl_X11_17) (ob_91) (fn_91_8) (show decode cX11_openRule 61 = .ok (.getfield 17, 3) by decide +kernel) rfl ?_
  refine am_r_iconst (nx := 65) (show decode cX11_openRule 64 = .ok (.iconst 5, 1) by decide +kernel) rfl ?_
  refine am_r_iald (nx := 66) (sh_94) (am_shle (sh_94)) (by omega) (by omega) (show decode cX11_openRule 65 = .ok (.iaload, 1) by decide +kernel) rfl ?_
  refine am_r_iconst (nx := 67) (show decode cX11_openRule 66 = .ok (.iconst 1, 1) by decide +kernel) rfl ?_
  refine am_r_isub (nx := 68) (show decode cX11_openRule 67 = .ok (.isub, 1) by decide +kernel) rfl ?_
  refine am_r_callV (as := [am_i 0, am_i ((σ.1 94 5) - 1)]) (st := []) hc mb_X11_number mv_X11_number (Or.inl ml_X11_250) (ob_91) (by omega) (r := (RX11, TX11, 63)) rfl rfl rfl rfl (Nat.le_of_ble_eq_true rfl) ⟨Nat.le_refl _, Nat.le_refl _⟩ ⟨Nat.le_refl _, Nat.le_refl _⟩ (show decode cX11_openRule 68 = .ok (.invokevirtual 250, 3) by decide +kernel) ?_
  rintro _ _ ⟨x, σ', rfl, rfl, hq⟩ _
  refine am_r_istore_n (nx := 72) rfl (by decide) rfl (show decode cX11_openRule 71 = .ok (.istore_n 3, 1) by decide +kernel) rfl ?_
  exact (k x σ' hq)
theorem S_X11_openRule_72 {G : am_G} {d : Nat} {Q : am_D → Prop} {σ : am_D} {v1 : Int} {v2 : Int} {v3 : Int} {Q' : Int → am_D → Prop} (hc : am_MI G d mX11_number [am_r (some 91), am_i 0, am_i 5] σ Q') (k : ∀ (x : Int) (σ' : am_D), Q' x σ' → am_X (am_FV G (d + 1) Q) mX11_openRule (0, 0) 80 [some (am_r (some 91)), some (am_i v1), some (am_i v2), some (am_i v3), some (am_i x)] [] (am_K0, σ')) : am_X (am_FV G (d + 1) Q) mX11_openRule (0, 0) 72 [some (am_r (some 91)), some (am_i v1), some (am_i v2), some (am_i v3), none] [] (am_K0, σ) := by
  refine am_r_aload_n (nx := 73) rfl rfl (show decode cX11_openRule 72 = .ok (.aload_n 0, 1) by decide +kernel) rfl ?_
  refine am_r_iconst (nx := 74) (show decode cX11_openRule 73 = .ok (.iconst 0, 1) by decide +kernel) rfl ?_
  refine am_r_iconst (nx := 75) (show decode cX11_openRule 74 = .ok (.iconst 5, 1) by decide +kernel) rfl ?_
  refine am_r_callV (as := [am_i 0, am_i 5]) (st := []) hc mb_X11_number mv_X11_number (Or.inl ml_X11_250) (ob_91) (by omega) (r := (RX11, TX11, 63)) rfl rfl rfl rfl (Nat.le_of_ble_eq_true rfl) ⟨Nat.le_refl _, Nat.le_refl _⟩ ⟨Nat.le_refl _, Nat.le_refl _⟩ (show decode cX11_openRule 75 = .ok (.invokevirtual 250, 3) by decide +kernel) ?_
  rintro _ _ ⟨x, σ', rfl, rfl, hq⟩ _
  refine am_r_istore (nx := 80) (by decide) rfl (show decode cX11_openRule 78 = .ok (.istore 4, 2) by decide +kernel) rfl ?_
  exact (k x σ' hq)
theorem S_X11_openRule_80 {G : am_G} {d : Nat} {Q : am_D → Prop} {σ : am_D} {v1 : Int} {v2 : Int} {v3 : Int} {v4 : Int} {Q' : Int → am_D → Prop} (hc : am_MI G d mX11_openAt [am_i 5, am_i v1, am_i v2] σ Q') (k : ∀ (x : Int) (σ' : am_D), Q' x σ' → am_X (am_FV G (d + 1) Q) mX11_openRule (0, 0) 90 [some (am_r (some 91)), some (am_i v1), some (am_i v2), some (am_i v3), some (am_i v4)] [am_i x, am_r (some 98)] (am_K0, σ')) : am_X (am_FV G (d + 1) Q) mX11_openRule (0, 0) 80 [some (am_r (some 91)), some (am_i v1), some (am_i v2), some (am_i v3), some (am_i v4)] [] (am_K0, σ) := by
  refine am_r_aload_n (nx := 81) rfl rfl (show decode cX11_openRule 80 = .ok (.aload_n 0, 1) by decide +kernel) rfl ?_
  refine am_r_getF (nx := 84) 12 cw11 (by decide) rfl (Or.inl fl_X11_30) (ob_91) (fn_91_12) (show decode cX11_openRule 81 = .ok (.getfield 30, 3) by decide +kernel) rfl ?_
  refine am_r_iconst (nx := 85) (show decode cX11_openRule 84 = .ok (.iconst 5, 1) by decide +kernel) rfl ?_
  refine am_r_iload_n (nx := 86) rfl rfl (show decode cX11_openRule 85 = .ok (.iload_n 1, 1) by decide +kernel) rfl ?_
  refine am_r_iload_n (nx := 87) rfl rfl (show decode cX11_openRule 86 = .ok (.iload_n 2, 1) by decide +kernel) rfl ?_
  refine am_r_callS (as := [am_i 5, am_i v1, am_i v2]) (st := [am_r (some 98)]) hc mb_X11_openAt mv_X11_openAt (Or.inl ml_X11_246) rfl rfl (Nat.le_of_ble_eq_true rfl) ⟨Nat.le_refl _, Nat.le_refl _⟩ ⟨Nat.le_refl _, Nat.le_refl _⟩ (show decode cX11_openRule 87 = .ok (.invokestatic 246, 3) by decide +kernel) ?_
  rintro _ _ ⟨x, σ', rfl, rfl, hq⟩ _
  exact (k x σ' hq)
theorem S_X11_openRule_90 {G : am_G} {d : Nat} {Q : am_D → Prop} {σ : am_D} {v1 : Int} {v2 : Int} {v3 : Int} {v4 : Int} {s1 : Int} {s0 : Nat} {n1 : Nat} (hs2 : am_sh am_SH s0 = (100, n1)) (hi3 : 0 ≤ s1) (hj4 : s1 < ((n1 : Nat) : Int)) (k : am_X (am_FV G (d + 1) Q) mX11_openRule (0, 0) 92 [some (am_r (some 91)), some (am_i v1), some (am_i v2), none, some (am_i v4)] [] (am_K0, (am_pI σ s0 s1 v3))) : am_X (am_FV G (d + 1) Q) mX11_openRule (0, 0) 90 [some (am_r (some 91)), some (am_i v1), some (am_i v2), some (am_i v3), some (am_i v4)] [am_i s1, am_r (some s0)] (am_K0, σ) := by
  refine am_r_iload_n (nx := 91) rfl rfl (show decode cX11_openRule 90 = .ok (.iload_n 3, 1) by decide +kernel) rfl ?_
  refine am_r_iast (nx := 92) (hs2) (am_shle (hs2)) hi3 hj4 (show decode cX11_openRule 91 = .ok (.iastore, 1) by decide +kernel) rfl ?_
  exact am_x_fg [3] k
theorem S_X11_openRule_92 {G : am_G} {d : Nat} {Q : am_D → Prop} {σ : am_D} {v1 : Int} {v2 : Int} {v4 : Int} {Q' : Int → am_D → Prop} (hc : am_MI G d mX11_openAt [am_i 5, am_i v1, am_i v2] σ Q') (k : ∀ (x : Int) (σ' : am_D), Q' x σ' → am_X (am_FV G (d + 1) Q) mX11_openRule (0, 0) 102 [none, none, none, none, some (am_i v4)] [am_i x, am_r (some 99)] (am_K0, σ')) : am_X (am_FV G (d + 1) Q) mX11_openRule (0, 0) 92 [some (am_r (some 91)), some (am_i v1), some (am_i v2), none, some (am_i v4)] [] (am_K0, σ) := by
  refine am_r_aload_n (nx := 93) rfl rfl (show decode cX11_openRule 92 = .ok (.aload_n 0, 1) by decide +kernel) rfl ?_
  refine am_r_getF (nx := 96) 13 cw11 (by decide) rfl (Or.inl fl_X11_33) (ob_91) (fn_91_13) (show decode cX11_openRule 93 = .ok (.getfield 33, 3) by decide +kernel) rfl ?_
  refine am_r_iconst (nx := 97) (show decode cX11_openRule 96 = .ok (.iconst 5, 1) by decide +kernel) rfl ?_
  refine am_r_iload_n (nx := 98) rfl rfl (show decode cX11_openRule 97 = .ok (.iload_n 1, 1) by decide +kernel) rfl ?_
  refine am_r_iload_n (nx := 99) rfl rfl (show decode cX11_openRule 98 = .ok (.iload_n 2, 1) by decide +kernel) rfl ?_
  refine am_r_callS (as := [am_i 5, am_i v1, am_i v2]) (st := [am_r (some 99)]) hc mb_X11_openAt mv_X11_openAt (Or.inl ml_X11_246) rfl rfl (Nat.le_of_ble_eq_true rfl) ⟨Nat.le_refl _, Nat.le_refl _⟩ ⟨Nat.le_refl _, Nat.le_refl _⟩ (show decode cX11_openRule 99 = .ok (.invokestatic 246, 3) by decide +kernel) ?_
  rintro _ _ ⟨x, σ', rfl, rfl, hq⟩ _
  exact am_x_fg [0, 1, 2] (k x σ' hq)
theorem S_X11_openRule_102 {G : am_G} {d : Nat} {Q : am_D → Prop} {σ : am_D} {v4 : Int} {s1 : Int} {s0 : Nat} {n1 : Nat} (hs2 : am_sh am_SH s0 = (100, n1)) (hi3 : 0 ≤ s1) (hj4 : s1 < ((n1 : Nat) : Int)) (k : am_X (am_FV G (d + 1) Q) mX11_openRule (0, 0) 105 [none, none, none, none, none] [] (am_K0, (am_pI σ s0 s1 v4))) : am_X (am_FV G (d + 1) Q) mX11_openRule (0, 0) 102 [none, none, none, none, some (am_i v4)] [am_i s1, am_r (some s0)] (am_K0, σ) := by
  refine am_r_iload (nx := 104) rfl (show decode cX11_openRule 102 = .ok (.iload 4, 2) by decide +kernel) rfl ?_
  refine am_r_iast (nx := 105) (hs2) (am_shle (hs2)) hi3 hj4 (show decode cX11_openRule 104 = .ok (.iastore, 1) by decide +kernel) rfl ?_
  exact am_x_fg [4] k
theorem S_X11_openRule_105 {G : am_G} {d : Nat} {Q : am_D → Prop} {σ : am_D}   (k : Q σ) : am_X (am_FV G (d + 1) Q) mX11_openRule (0, 0) 105 [none, none, none, none, none] [] (am_K0, σ) := by
  exact am_r_vret rfl (show decode cX11_openRule 105 = .ok (.return_, 1) by decide +kernel) ⟨_, rfl, rfl, k⟩
theorem S_X11_closeRule_0 {G : am_G} {d : Nat} {Q : am_D → Prop} {σ : am_D} {v1 : Int} {Q' : Int → am_D → Prop} (hc : am_MI G d mX11_letter [am_r (some 91)] σ Q') (k : ∀ (x : Int) (σ' : am_D), Q' x σ' → am_X (am_FV G (d + 1) Q) mX11_closeRule (0, 0) 5 [some (am_r (some 91)), some (am_i v1), some (am_i x), none, none, none, none] [] (am_K0, σ')) : am_X (am_FV G (d + 1) Q) mX11_closeRule (0, 0) 0 [some (am_r (some 91)), some (am_i v1), none, none, none, none, none] [] (am_K0, σ) := by
  refine am_r_aload_n (nx := 1) rfl rfl (show decode cX11_closeRule 0 = .ok (.aload_n 0, 1) by decide +kernel) rfl ?_
  refine am_r_callV (as := []) (st := []) hc mb_X11_letter mv_X11_letter (Or.inl ml_X11_237) (ob_91) (by omega) (r := (RX11, TX11, 63)) rfl rfl rfl rfl (Nat.le_of_ble_eq_true rfl) ⟨Nat.le_refl _, Nat.le_refl _⟩ ⟨Nat.le_refl _, Nat.le_refl _⟩ (show decode cX11_closeRule 1 = .ok (.invokevirtual 237, 3) by decide +kernel) ?_
  rintro _ _ ⟨x, σ', rfl, rfl, hq⟩ _
  refine am_r_istore_n (nx := 5) rfl (by decide) rfl (show decode cX11_closeRule 4 = .ok (.istore_n 2, 1) by decide +kernel) rfl ?_
  exact (k x σ' hq)
theorem S_X11_closeRule_5 {G : am_G} {d : Nat} {Q : am_D → Prop} {σ : am_D} {v1 : Int} {v2 : Int} {Q' : Int → am_D → Prop} (hc : am_MI G d mX11_number [am_r (some 91), am_i 0, am_i ((σ.1 94 5) - 1)] σ Q') (k : ∀ (x : Int) (σ' : am_D), Q' x σ' → am_X (am_FV G (d + 1) Q) mX11_closeRule (0, 0) 19 [some (am_r (some 91)), some (am_i v1), some (am_i v2), some (am_i x), none, none, none] [] (am_K0, σ')) : am_X (am_FV G (d + 1) Q) mX11_closeRule (0, 0) 5 [some (am_r (some 91)), some (am_i v1), some (am_i v2), none, none, none, none] [] (am_K0, σ) := by
  refine am_r_aload_n (nx := 6) rfl rfl (show decode cX11_closeRule 5 = .ok (.aload_n 0, 1) by decide +kernel) rfl ?_
  refine am_r_iconst (nx := 7) (show decode cX11_closeRule 6 = .ok (.iconst 0, 1) by decide +kernel) rfl ?_
  refine am_r_aload_n (nx := 8) rfl rfl (show decode cX11_closeRule 7 = .ok (.aload_n 0, 1) by decide +kernel) rfl ?_
  refine am_r_getF (nx := 11) 8 cw11 (by decide) rfl (Or.inl fl_X11_17) (ob_91) (fn_91_8) (show decode cX11_closeRule 8 = .ok (.getfield 17, 3) by decide +kernel) rfl ?_
  refine am_r_iconst (nx := 12) (show decode cX11_closeRule 11 = .ok (.iconst 5, 1) by decide +kernel) rfl ?_
  refine am_r_iald (nx := 13) (sh_94) (am_shle (sh_94)) (by omega) (by omega) (show decode cX11_closeRule 12 = .ok (.iaload, 1) by decide +kernel) rfl ?_
  refine am_r_iconst (nx := 14) (show decode cX11_closeRule 13 = .ok (.iconst 1, 1) by decide +kernel) rfl ?_
  refine am_r_isub (nx := 15) (show decode cX11_closeRule 14 = .ok (.isub, 1) by decide +kernel) rfl ?_
  refine am_r_callV (as := [am_i 0, am_i ((σ.1 94 5) - 1)]) (st := []) hc mb_X11_number mv_X11_number (Or.inl ml_X11_250) (ob_91) (by omega) (r := (RX11, TX11, 63)) rfl rfl rfl rfl (Nat.le_of_ble_eq_true rfl) ⟨Nat.le_refl _, Nat.le_refl _⟩ ⟨Nat.le_refl _, Nat.le_refl _⟩ (show decode cX11_closeRule 15 = .ok (.invokevirtual 250, 3) by decide +kernel) ?_
  rintro _ _ ⟨x, σ', rfl, rfl, hq⟩ _
  refine am_r_istore_n (nx := 19) rfl (by decide) rfl (show decode cX11_closeRule 18 = .ok (.istore_n 3, 1) by decide +kernel) rfl ?_
  exact (k x σ' hq)
theorem S_X11_closeRule_19 {G : am_G} {d : Nat} {Q : am_D → Prop} {σ : am_D} {v1 : Int} {v2 : Int} {v3 : Int} {Q' : Int → am_D → Prop} (hc : am_MI G d mX11_digit [am_r (some 91), am_i 0, am_i 5] σ Q') (k : ∀ (x : Int) (σ' : am_D), Q' x σ' → am_X (am_FV G (d + 1) Q) mX11_closeRule (0, 0) 27 [some (am_r (some 91)), some (am_i v1), some (am_i v2), some (am_i v3), some (am_i x), none, none] [] (am_K0, σ')) : am_X (am_FV G (d + 1) Q) mX11_closeRule (0, 0) 19 [some (am_r (some 91)), some (am_i v1), some (am_i v2), some (am_i v3), none, none, none] [] (am_K0, σ) := by
  refine am_r_aload_n (nx := 20) rfl rfl (show decode cX11_closeRule 19 = .ok (.aload_n 0, 1) by decide +kernel) rfl ?_
  refine am_r_iconst (nx := 21) (show decode cX11_closeRule 20 = .ok (.iconst 0, 1) by decide +kernel) rfl ?_
  refine am_r_iconst (nx := 22) (show decode cX11_closeRule 21 = .ok (.iconst 5, 1) by decide +kernel) rfl ?_
  refine am_r_callV (as := [am_i 0, am_i 5]) (st := []) hc mb_X11_digit mv_X11_digit (Or.inl ml_X11_215) (ob_91) (by omega) (r := (RX11, TX11, 63)) rfl rfl rfl rfl (Nat.le_of_ble_eq_true rfl) ⟨Nat.le_refl _, Nat.le_refl _⟩ ⟨Nat.le_refl _, Nat.le_refl _⟩ (show decode cX11_closeRule 22 = .ok (.invokevirtual 215, 3) by decide +kernel) ?_
  rintro _ _ ⟨x, σ', rfl, rfl, hq⟩ _
  refine am_r_istore (nx := 27) (by decide) rfl (show decode cX11_closeRule 25 = .ok (.istore 4, 2) by decide +kernel) rfl ?_
  exact (k x σ' hq)
theorem S_X11_closeRule_27 {G : am_G} {d : Nat} {Q : am_D → Prop} {σ : am_D} {v1 : Int} {v2 : Int} {v3 : Int} {v4 : Int} {Q' : Int → am_D → Prop} (hc : am_MI G d mX11_isGood [am_r (some 91)] σ Q') (k : ∀ (x : Int) (σ' : am_D), Q' x σ' → am_X (am_FV G (d + 1) Q) mX11_closeRule (0, 0) 31 [some (am_r (some 91)), some (am_i v1), some (am_i v2), some (am_i v3), some (am_i v4), none, none] [am_i x] (am_K0, σ')) : am_X (am_FV G (d + 1) Q) mX11_closeRule (0, 0) 27 [some (am_r (some 91)), some (am_i v1), some (am_i v2), some (am_i v3), some (am_i v4), none, none] [] (am_K0, σ) := by
  refine am_r_aload_n (nx := 28) rfl rfl (show decode cX11_closeRule 27 = .ok (.aload_n 0, 1) by decide +kernel) rfl ?_
  refine am_r_callV (as := []) (st := []) hc mb_X11_isGood mv_X11_isGood (Or.inl ml_X11_185) (ob_91) (by omega) (r := (RX11, TX11, 63)) rfl rfl rfl rfl (Nat.le_of_ble_eq_true rfl) ⟨Nat.le_refl _, Nat.le_refl _⟩ ⟨Nat.le_refl _, Nat.le_refl _⟩ (show decode cX11_closeRule 28 = .ok (.invokevirtual 185, 3) by decide +kernel) ?_
  rintro _ _ ⟨x, σ', rfl, rfl, hq⟩ _
  exact (k x σ' hq)
theorem S_X11_closeRule_31 {G : am_G} {d : Nat} {Q : am_D → Prop} {σ : am_D} {v1 : Int} {v2 : Int} {v3 : Int} {v4 : Int} {s0 : Int} (hr1 : -2147483648 ≤ s0 ∧ s0 ≤ 2147483647) (k1 : s0 = 0 → am_X (am_FV G (d + 1) Q) mX11_closeRule (0, 0) 56 [some (am_r (some 91)), some (am_i v1), some (am_i v2), some (am_i v3), some (am_i v4), none, none] [] (am_K0, σ)) (k2 : ¬ (s0 = 0) → am_X (am_FV G (d + 1) Q) mX11_closeRule (0, 0) 34 [some (am_r (some 91)), some (am_i v1), some (am_i v2), some (am_i v3), some (am_i v4), none, none] [] (am_K0, σ)) : am_X (am_FV G (d + 1) Q) mX11_closeRule (0, 0) 31 [some (am_r (some 91)), some (am_i v1), some (am_i v2), some (am_i v3), some (am_i v4), none, none] [am_i s0] (am_K0, σ) := by
  refine am_r_if_eq (tg := 56) (nx := 34) (show decode cX11_closeRule 31 = .ok (.ifCond .eq 25, 3) by decide +kernel) (by decide) rfl hr1 ?_ ?_
  · exact fun q => k1 q
  · exact fun q => k2 q
theorem S_X11_closeRule_34 {G : am_G} {d : Nat} {Q : am_D → Prop} {σ : am_D} {v1 : Int} {v2 : Int} {v3 : Int} {v4 : Int} {Q' : Int → am_D → Prop} (hc : am_MI G d mX11_closeAt [am_i 5, am_i v2, am_i v3, am_i v4] σ Q') (k : ∀ (x : Int) (σ' : am_D), Q' x σ' → am_X (am_FV G (d + 1) Q) mX11_closeRule (0, 0) 46 [some (am_r (some 91)), some (am_i v1), some (am_i v2), some (am_i v3), some (am_i v4), none, none] [am_i x, am_r (some 100)] (am_K0, σ')) : am_X (am_FV G (d + 1) Q) mX11_closeRule (0, 0) 34 [some (am_r (some 91)), some (am_i v1), some (am_i v2), some (am_i v3), some (am_i v4), none, none] [] (am_K0, σ) := by
  refine am_r_aload_n (nx := 35) rfl rfl (show decode cX11_closeRule 34 = .ok (.aload_n 0, 1) by decide +kernel) rfl ?_
  refine am_r_getF (nx := 38) 14 cw11 (by decide) rfl (Or.inl fl_X11_36) (ob_91) (fn_91_14) (show decode cX11_closeRule 35 = .ok (.getfield 36, 3) by decide +kernel) rfl ?_
  refine am_r_iconst (nx := 39) (show decode cX11_closeRule 38 = .ok (.iconst 5, 1) by decide +kernel) rfl ?_
  refine am_r_iload_n (nx := 40) rfl rfl (show decode cX11_closeRule 39 = .ok (.iload_n 2, 1) by decide +kernel) rfl ?_
  refine am_r_iload_n (nx := 41) rfl rfl (show decode cX11_closeRule 40 = .ok (.iload_n 3, 1) by decide +kernel) rfl ?_
  refine am_r_iload (nx := 43) rfl (show decode cX11_closeRule 41 = .ok (.iload 4, 2) by decide +kernel) rfl ?_
  refine am_r_callS (as := [am_i 5, am_i v2, am_i v3, am_i v4]) (st := [am_r (some 100)]) hc mb_X11_closeAt mv_X11_closeAt (Or.inl ml_X11_253) rfl rfl (Nat.le_of_ble_eq_true rfl) ⟨Nat.le_refl _, Nat.le_refl _⟩ ⟨Nat.le_refl _, Nat.le_refl _⟩ (show decode cX11_closeRule 43 = .ok (.invokestatic 253, 3) by decide +kernel) ?_
  rintro _ _ ⟨x, σ', rfl, rfl, hq⟩ _
  exact (k x σ' hq)
theorem S_X11_closeRule_46 {G : am_G} {d : Nat} {Q : am_D → Prop} {σ : am_D} {v1 : Int} {v2 : Int} {v3 : Int} {v4 : Int} {s1 : Int} {s0 : Nat} {n1 : Nat} (hs2 : am_sh am_SH s0 = (100, n1)) (hi3 : 0 ≤ s1) (hj4 : s1 < ((n1 : Nat) : Int)) (hr5 : -2147483648 ≤ (σ.1 s0 s1) ∧ (σ.1 s0 s1) ≤ 2147483647) (k1 : (σ.1 s0 s1) = (-1) → am_X (am_FV G (d + 1) Q) mX11_closeRule (0, 0) 56 [some (am_r (some 91)), some (am_i v1), some (am_i v2), some (am_i v3), some (am_i v4), none, none] [] (am_K0, σ)) (k2 : ¬ ((σ.1 s0 s1) = (-1)) → am_X (am_FV G (d + 1) Q) mX11_closeRule (0, 0) 51 [some (am_r (some 91)), some (am_i v1), some (am_i v2), some (am_i v3), some (am_i v4), none, none] [] (am_K0, σ)) : am_X (am_FV G (d + 1) Q) mX11_closeRule (0, 0) 46 [some (am_r (some 91)), some (am_i v1), some (am_i v2), some (am_i v3), some (am_i v4), none, none] [am_i s1, am_r (some s0)] (am_K0, σ) := by
  refine am_r_iald (nx := 47) (hs2) (am_shle (hs2)) hi3 hj4 (show decode cX11_closeRule 46 = .ok (.iaload, 1) by decide +kernel) rfl ?_
  refine am_r_iconst (nx := 48) (show decode cX11_closeRule 47 = .ok (.iconst (-1), 1) by decide +kernel) rfl ?_
  refine am_r_icmp_eq (tg := 56) (nx := 51) (show decode cX11_closeRule 48 = .ok (.if_icmp .eq 8, 3) by decide +kernel) (by decide) rfl hr5 (by omega) ?_ ?_
  · exact fun q => k1 q
  · exact fun q => k2 q
theorem S_X11_closeRule_51 {G : am_G} {d : Nat} {Q : am_D → Prop} {σ : am_D} {v1 : Int} {v2 : Int} {v3 : Int} {v4 : Int} {Q' : am_D → Prop} (hc : am_MV G d mX11_fails [am_r (some 91), am_i 3] σ Q') (k : ∀ σ' : am_D, Q' σ' → am_X (am_FV G (d + 1) Q) mX11_closeRule (0, 0) 56 [some (am_r (some 91)), some (am_i v1), some (am_i v2), some (am_i v3), some (am_i v4), none, none] [] (am_K0, σ')) : am_X (am_FV G (d + 1) Q) mX11_closeRule (0, 0) 51 [some (am_r (some 91)), some (am_i v1), some (am_i v2), some (am_i v3), some (am_i v4), none, none] [] (am_K0, σ) := by
  refine am_r_aload_n (nx := 52) rfl rfl (show decode cX11_closeRule 51 = .ok (.aload_n 0, 1) by decide +kernel) rfl ?_
  refine am_r_iconst (nx := 53) (show decode cX11_closeRule 52 = .ok (.iconst 3, 1) by decide +kernel) rfl ?_
  refine am_r_callV (as := [am_i 3]) (st := []) hc mb_X11_fails mv_X11_fails (Or.inl ml_X11_202) (ob_91) (by omega) (r := (RX11, TX11, 63)) rfl rfl rfl rfl (Nat.le_of_ble_eq_true rfl) ⟨Nat.le_refl _, Nat.le_refl _⟩ ⟨Nat.le_refl _, Nat.le_refl _⟩ (show decode cX11_closeRule 53 = .ok (.invokevirtual 202, 3) by decide +kernel) ?_
  rintro _ _ ⟨σ', rfl, rfl, hq⟩ _
  exact (k σ' hq)
theorem S_X11_closeRule_56 {G : am_G} {d : Nat} {Q : am_D → Prop} {σ : am_D} {v1 : Int} {v2 : Int} {v3 : Int} {v4 : Int} {Q' : Int → am_D → Prop} (hc : am_MI G d mX11_isGood [am_r (some 91)] σ Q') (k : ∀ (x : Int) (σ' : am_D), Q' x σ' → am_X (am_FV G (d + 1) Q) mX11_closeRule (0, 0) 60 [some (am_r (some 91)), some (am_i v1), some (am_i v2), some (am_i v3), some (am_i v4), none, none] [am_i x] (am_K0, σ')) : am_X (am_FV G (d + 1) Q) mX11_closeRule (0, 0) 56 [some (am_r (some 91)), some (am_i v1), some (am_i v2), some (am_i v3), some (am_i v4), none, none] [] (am_K0, σ) := by
  refine am_r_aload_n (nx := 57) rfl rfl (show decode cX11_closeRule 56 = .ok (.aload_n 0, 1) by decide +kernel) rfl ?_
  refine am_r_callV (as := []) (st := []) hc mb_X11_isGood mv_X11_isGood (Or.inl ml_X11_185) (ob_91) (by omega) (r := (RX11, TX11, 63)) rfl rfl rfl rfl (Nat.le_of_ble_eq_true rfl) ⟨Nat.le_refl _, Nat.le_refl _⟩ ⟨Nat.le_refl _, Nat.le_refl _⟩ (show decode cX11_closeRule 57 = .ok (.invokevirtual 185, 3) by decide +kernel) ?_
  rintro _ _ ⟨x, σ', rfl, rfl, hq⟩ _
  exact (k x σ' hq)
theorem S_X11_closeRule_60 {G : am_G} {d : Nat} {Q : am_D → Prop} {σ : am_D} {v1 : Int} {v2 : Int} {v3 : Int} {v4 : Int} {s0 : Int} (hr1 : -2147483648 ≤ s0 ∧ s0 ≤ 2147483647) (k1 : ¬ s0 = 0 → am_X (am_FV G (d + 1) Q) mX11_closeRule (0, 0) 64 [some (am_r (some 91)), some (am_i v1), some (am_i v2), some (am_i v3), some (am_i v4), none, none] [] (am_K0, σ)) (k2 : ¬ (¬ s0 = 0) → am_X (am_FV G (d + 1) Q) mX11_closeRule (0, 0) 63 [none, none, none, none, none, none, none] [] (am_K0, σ)) : am_X (am_FV G (d + 1) Q) mX11_closeRule (0, 0) 60 [some (am_r (some 91)), some (am_i v1), some (am_i v2), some (am_i v3), some (am_i v4), none, none] [am_i s0] (am_K0, σ) := by
  refine am_r_if_ne (tg := 64) (nx := 63) (show decode cX11_closeRule 60 = .ok (.ifCond .ne 4, 3) by decide +kernel) (by decide) rfl hr1 ?_ ?_
  · exact fun q => k1 q
  · exact fun q => am_x_fg [0, 1, 2, 3, 4] (k2 q)
theorem S_X11_closeRule_63 {G : am_G} {d : Nat} {Q : am_D → Prop} {σ : am_D}   (k : Q σ) : am_X (am_FV G (d + 1) Q) mX11_closeRule (0, 0) 63 [none, none, none, none, none, none, none] [] (am_K0, σ) := by
  exact am_r_vret rfl (show decode cX11_closeRule 63 = .ok (.return_, 1) by decide +kernel) ⟨_, rfl, rfl, k⟩
theorem S_X11_closeRule_64 {G : am_G} {d : Nat} {Q : am_D → Prop} {σ : am_D} {v1 : Int} {v2 : Int} {v3 : Int} {v4 : Int} {Q' : am_D → Prop} (hc : am_MV G d mX11_goes [am_r (some 91)] σ Q') (k : ∀ σ' : am_D, Q' σ' → am_X (am_FV G (d + 1) Q) mX11_closeRule (0, 0) 68 [some (am_r (some 91)), some (am_i v1), some (am_i v2), some (am_i v3), some (am_i v4), none, none] [] (am_K0, σ')) : am_X (am_FV G (d + 1) Q) mX11_closeRule (0, 0) 64 [some (am_r (some 91)), some (am_i v1), some (am_i v2), some (am_i v3), some (am_i v4), none, none] [] (am_K0, σ) := by
  refine am_r_aload_n (nx := 65) rfl rfl (show decode cX11_closeRule 64 = .ok (.aload_n 0, 1) by decide +kernel) rfl ?_
  refine am_r_callV (as := []) (st := []) hc mb_X11_goes mv_X11_goes (Or.inl ml_X11_182) (ob_91) (by omega) (r := (RX11, TX11, 63)) rfl rfl rfl rfl (Nat.le_of_ble_eq_true rfl) ⟨Nat.le_refl _, Nat.le_refl _⟩ ⟨Nat.le_refl _, Nat.le_refl _⟩ (show decode cX11_closeRule 65 = .ok (.invokevirtual 182, 3) by decide +kernel) ?_
  rintro _ _ ⟨σ', rfl, rfl, hq⟩ _
  exact (k σ' hq)
theorem S_X11_closeRule_68 {G : am_G} {d : Nat} {Q : am_D → Prop} {σ : am_D} {v1 : Int} {v2 : Int} {v3 : Int} {v4 : Int} {Q' : Int → am_D → Prop} (hc : am_MI G d mX11_number [am_r (some 91), am_i 0, am_i ((σ.1 94 5) - 1)] σ Q') (k : ∀ (x : Int) (σ' : am_D), Q' x σ' → am_X (am_FV G (d + 1) Q) mX11_closeRule (0, 0) 83 [some (am_r (some 91)), some (am_i v1), some (am_i v2), some (am_i v3), some (am_i v4), some (am_i x), none] [] (am_K0, σ')) : am_X (am_FV G (d + 1) Q) mX11_closeRule (0, 0) 68 [some (am_r (some 91)), some (am_i v1), some (am_i v2), some (am_i v3), some (am_i v4), none, none] [] (am_K0, σ) := by
  refine am_r_aload_n (nx := 69) rfl rfl (show decode cX11_closeRule 68 = .ok (.aload_n 0, 1) by decide +kernel) rfl ?_
  refine am_r_iconst (nx := 70) (show decode cX11_closeRule 69 = .ok (.iconst 0, 1) by decide +kernel) rfl ?_
  refine am_r_aload_n (nx := 71) rfl rfl (show decode cX11_closeRule 70 = .ok (.aload_n 0, 1) by decide +kernel) rfl ?_
  refine am_r_getF (nx := 74) 8 cw11 (by decide) rfl (Or.inl fl_X11_17) (ob_91) (fn_91_8) (show decode cX11_closeRule 71 = .ok (.getfield 17, 3) by decide +kernel) rfl ?_
  refine am_r_iconst (nx := 75) (show decode cX11_closeRule 74 = .ok (.iconst 5, 1) by decide +kernel) rfl ?_
  refine am_r_iald (nx := 76) (sh_94) (am_shle (sh_94)) (by omega) (by omega) (show decode cX11_closeRule 75 = .ok (.iaload, 1) by decide +kernel) rfl ?_
  refine am_r_iconst (nx := 77) (show decode cX11_closeRule 76 = .ok (.iconst 1, 1) by decide +kernel) rfl ?_
  refine am_r_isub (nx := 78) (show decode cX11_closeRule 77 = .ok (.isub, 1) by decide +kernel) rfl ?_
  refine am_r_callV (as := [am_i 0, am_i ((σ.1 94 5) - 1)]) (st := []) hc mb_X11_number mv_X11_number (Or.inl ml_X11_250) (ob_91) (by omega) (r := (RX11, TX11, 63)) rfl rfl rfl rfl (Nat.le_of_ble_eq_true rfl) ⟨Nat.le_refl _, Nat.le_refl _⟩ ⟨Nat.le_refl _, Nat.le_refl _⟩ (show decode cX11_closeRule 78 = .ok (.invokevirtual 250, 3) by decide +kernel) ?_
  rintro _ _ ⟨x, σ', rfl, rfl, hq⟩ _
  refine am_r_istore (nx := 83) (by decide) rfl (show decode cX11_closeRule 81 = .ok (.istore 5, 2) by decide +kernel) rfl ?_
  exact (k x σ' hq)
theorem S_X11_closeRule_83 {G : am_G} {d : Nat} {Q : am_D → Prop} {σ : am_D} {v1 : Int} {v2 : Int} {v3 : Int} {v4 : Int} {v5 : Int} {Q' : am_D → Prop} (hc : am_MV G d mX11_sign [am_r (some 91), am_i 61] σ Q') (k : ∀ σ' : am_D, Q' σ' → am_X (am_FV G (d + 1) Q) mX11_closeRule (0, 0) 89 [some (am_r (some 91)), some (am_i v1), some (am_i v2), some (am_i v3), some (am_i v4), some (am_i v5), none] [] (am_K0, σ')) : am_X (am_FV G (d + 1) Q) mX11_closeRule (0, 0) 83 [some (am_r (some 91)), some (am_i v1), some (am_i v2), some (am_i v3), some (am_i v4), some (am_i v5), none] [] (am_K0, σ) := by
  refine am_r_aload_n (nx := 84) rfl rfl (show decode cX11_closeRule 83 = .ok (.aload_n 0, 1) by decide +kernel) rfl ?_
  refine am_r_bipush (nx := 86) rfl (show decode cX11_closeRule 84 = .ok (.bipush 61, 2) by decide +kernel) rfl ?_
  refine am_r_callV (as := [am_i 61]) (st := []) hc mb_X11_sign mv_X11_sign (Or.inl ml_X11_243) (ob_91) (by omega) (r := (RX11, TX11, 63)) rfl rfl rfl rfl (Nat.le_of_ble_eq_true rfl) ⟨Nat.le_refl _, Nat.le_refl _⟩ ⟨Nat.le_refl _, Nat.le_refl _⟩ (show decode cX11_closeRule 86 = .ok (.invokevirtual 243, 3) by decide +kernel) ?_
  rintro _ _ ⟨σ', rfl, rfl, hq⟩ _
  exact (k σ' hq)
theorem S_X11_closeRule_89 {G : am_G} {d : Nat} {Q : am_D → Prop} {σ : am_D} {v1 : Int} {v2 : Int} {v3 : Int} {v4 : Int} {v5 : Int}  (k : am_X (am_FV G (d + 1) Q) mX11_closeRule (0, 0) 92 [some (am_r (some 91)), some (am_i v1), some (am_i v2), some (am_i v3), some (am_i v4), some (am_i v5), some (am_i 0)] [] (am_K0, σ)) : am_X (am_FV G (d + 1) Q) mX11_closeRule (0, 0) 89 [some (am_r (some 91)), some (am_i v1), some (am_i v2), some (am_i v3), some (am_i v4), some (am_i v5), none] [] (am_K0, σ) := by
  refine am_r_iconst (nx := 90) (show decode cX11_closeRule 89 = .ok (.iconst 0, 1) by decide +kernel) rfl ?_
  refine am_r_istore (nx := 92) (by decide) rfl (show decode cX11_closeRule 90 = .ok (.istore 6, 2) by decide +kernel) rfl ?_
  exact k
theorem S_X11_closeRule_92 {G : am_G} {d : Nat} {Q : am_D → Prop} {σ : am_D} {v1 : Int} {v2 : Int} {v3 : Int} {v4 : Int} {v5 : Int} {v6 : Int} (hr1 : -2147483648 ≤ v6 ∧ v6 ≤ 2147483647) (hr2 : -2147483648 ≤ (σ.1 95 5) ∧ (σ.1 95 5) ≤ 2147483647) (k1 : (σ.1 95 5) ≤ v6 → am_X (am_FV G (d + 1) Q) mX11_closeRule (0, 0) 135 [some (am_r (some 91)), some (am_i v1), some (am_i v2), some (am_i v3), some (am_i v4), some (am_i v5), none] [] (am_K0, σ)) (k2 : ¬ ((σ.1 95 5) ≤ v6) → am_X (am_FV G (d + 1) Q) mX11_closeRule (0, 0) 103 [some (am_r (some 91)), some (am_i v1), some (am_i v2), some (am_i v3), some (am_i v4), some (am_i v5), some (am_i v6)] [] (am_K0, σ)) : am_X (am_FV G (d + 1) Q) mX11_closeRule (0, 0) 92 [some (am_r (some 91)), some (am_i v1), some (am_i v2), some (am_i v3), some (am_i v4), some (am_i v5), some (am_i v6)] [] (am_K0, σ) := by
  refine am_r_iload (nx := 94) rfl (show decode cX11_closeRule 92 = .ok (.iload 6, 2) by decide +kernel) rfl ?_
  refine am_r_aload_n (nx := 95) rfl rfl (show decode cX11_closeRule 94 = .ok (.aload_n 0, 1) by decide +kernel) rfl ?_
  refine am_r_getF (nx := 98) 9 cw11 (by decide) rfl (Or.inl fl_X11_21) (ob_91) (fn_91_9) (show decode cX11_closeRule 95 = .ok (.getfield 21, 3) by decide +kernel) rfl ?_
  refine am_r_iconst (nx := 99) (show decode cX11_closeRule 98 = .ok (.iconst 5, 1) by decide +kernel) rfl ?_
  refine am_r_iald (nx := 100) (sh_95) (am_shle (sh_95)) (by omega) (by omega) (show decode cX11_closeRule 99 = .ok (.iaload, 1) by decide +kernel) rfl ?_
  refine am_r_icmp_ge (tg := 135) (nx := 103) (show decode cX11_closeRule 100 = .ok (.if_icmp .ge 35, 3) by decide +kernel) (by decide) rfl hr1 hr2 ?_ ?_
  · exact fun q => am_x_fg [6] (k1 q)
  · exact fun q => k2 q
theorem S_X11_closeRule_103 {G : am_G} {d : Nat} {Q : am_D → Prop} {σ : am_D} {v1 : Int} {v2 : Int} {v3 : Int} {v4 : Int} {v5 : Int} {v6 : Int} {Q' : Int → am_D → Prop} (hc : am_MI G d mX11_isGood [am_r (some 91)] σ Q') (k : ∀ (x : Int) (σ' : am_D), Q' x σ' → am_X (am_FV G (d + 1) Q) mX11_closeRule (0, 0) 107 [some (am_r (some 91)), some (am_i v1), some (am_i v2), some (am_i v3), some (am_i v4), some (am_i v5), some (am_i v6)] [am_i x] (am_K0, σ')) : am_X (am_FV G (d + 1) Q) mX11_closeRule (0, 0) 103 [some (am_r (some 91)), some (am_i v1), some (am_i v2), some (am_i v3), some (am_i v4), some (am_i v5), some (am_i v6)] [] (am_K0, σ) := by
  refine am_r_aload_n (nx := 104) rfl rfl (show decode cX11_closeRule 103 = .ok (.aload_n 0, 1) by decide +kernel) rfl ?_
  refine am_r_callV (as := []) (st := []) hc mb_X11_isGood mv_X11_isGood (Or.inl ml_X11_185) (ob_91) (by omega) (r := (RX11, TX11, 63)) rfl rfl rfl rfl (Nat.le_of_ble_eq_true rfl) ⟨Nat.le_refl _, Nat.le_refl _⟩ ⟨Nat.le_refl _, Nat.le_refl _⟩ (show decode cX11_closeRule 104 = .ok (.invokevirtual 185, 3) by decide +kernel) ?_
  rintro _ _ ⟨x, σ', rfl, rfl, hq⟩ _
  exact (k x σ' hq)
theorem S_X11_closeRule_107 {G : am_G} {d : Nat} {Q : am_D → Prop} {σ : am_D} {v1 : Int} {v2 : Int} {v3 : Int} {v4 : Int} {v5 : Int} {v6 : Int} {s0 : Int} (hr1 : -2147483648 ≤ s0 ∧ s0 ≤ 2147483647) (k1 : s0 = 0 → am_X (am_FV G (d + 1) Q) mX11_closeRule (0, 0) 135 [some (am_r (some 91)), some (am_i v1), some (am_i v2), some (am_i v3), some (am_i v4), some (am_i v5), none] [] (am_K0, σ)) (k2 : ¬ (s0 = 0) → am_X (am_FV G (d + 1) Q) mX11_closeRule (0, 0) 110 [some (am_r (some 91)), some (am_i v1), some (am_i v2), some (am_i v3), some (am_i v4), some (am_i v5), some (am_i v6)] [] (am_K0, σ)) : am_X (am_FV G (d + 1) Q) mX11_closeRule (0, 0) 107 [some (am_r (some 91)), some (am_i v1), some (am_i v2), some (am_i v3), some (am_i v4), some (am_i v5), some (am_i v6)] [am_i s0] (am_K0, σ) := by
  refine am_r_if_eq (tg := 135) (nx := 110) (show decode cX11_closeRule 107 = .ok (.ifCond .eq 28, 3) by decide +kernel) (by decide) rfl hr1 ?_ ?_
  · exact fun q => am_x_fg [6] (k1 q)
  · exact fun q => k2 q
theorem S_X11_closeRule_110 {G : am_G} {d : Nat} {Q : am_D → Prop} {σ : am_D} {v1 : Int} {v2 : Int} {v3 : Int} {v4 : Int} {v5 : Int} {v6 : Int} (hr1 : -2147483648 ≤ v6 ∧ v6 ≤ 2147483647) (k1 : v6 ≤ 0 → am_X (am_FV G (d + 1) Q) mX11_closeRule (0, 0) 121 [some (am_r (some 91)), some (am_i v1), some (am_i v2), some (am_i v3), some (am_i v4), some (am_i v5), some (am_i v6)] [] (am_K0, σ)) (k2 : ¬ (v6 ≤ 0) → am_X (am_FV G (d + 1) Q) mX11_closeRule (0, 0) 115 [some (am_r (some 91)), some (am_i v1), some (am_i v2), some (am_i v3), some (am_i v4), some (am_i v5), some (am_i v6)] [] (am_K0, σ)) : am_X (am_FV G (d + 1) Q) mX11_closeRule (0, 0) 110 [some (am_r (some 91)), some (am_i v1), some (am_i v2), some (am_i v3), some (am_i v4), some (am_i v5), some (am_i v6)] [] (am_K0, σ) := by
  refine am_r_iload (nx := 112) rfl (show decode cX11_closeRule 110 = .ok (.iload 6, 2) by decide +kernel) rfl ?_
  refine am_r_if_le (tg := 121) (nx := 115) (show decode cX11_closeRule 112 = .ok (.ifCond .le 9, 3) by decide +kernel) (by decide) rfl hr1 ?_ ?_
  · exact fun q => k1 q
  · exact fun q => k2 q
theorem S_X11_closeRule_115 {G : am_G} {d : Nat} {Q : am_D → Prop} {σ : am_D} {v1 : Int} {v2 : Int} {v3 : Int} {v4 : Int} {v5 : Int} {v6 : Int} {Q' : am_D → Prop} (hc : am_MV G d mX11_sign [am_r (some 91), am_i 44] σ Q') (k : ∀ σ' : am_D, Q' σ' → am_X (am_FV G (d + 1) Q) mX11_closeRule (0, 0) 121 [some (am_r (some 91)), some (am_i v1), some (am_i v2), some (am_i v3), some (am_i v4), some (am_i v5), some (am_i v6)] [] (am_K0, σ')) : am_X (am_FV G (d + 1) Q) mX11_closeRule (0, 0) 115 [some (am_r (some 91)), some (am_i v1), some (am_i v2), some (am_i v3), some (am_i v4), some (am_i v5), some (am_i v6)] [] (am_K0, σ) := by
  refine am_r_aload_n (nx := 116) rfl rfl (show decode cX11_closeRule 115 = .ok (.aload_n 0, 1) by decide +kernel) rfl ?_
  refine am_r_bipush (nx := 118) rfl (show decode cX11_closeRule 116 = .ok (.bipush 44, 2) by decide +kernel) rfl ?_
  refine am_r_callV (as := [am_i 44]) (st := []) hc mb_X11_sign mv_X11_sign (Or.inl ml_X11_243) (ob_91) (by omega) (r := (RX11, TX11, 63)) rfl rfl rfl rfl (Nat.le_of_ble_eq_true rfl) ⟨Nat.le_refl _, Nat.le_refl _⟩ ⟨Nat.le_refl _, Nat.le_refl _⟩ (show decode cX11_closeRule 118 = .ok (.invokevirtual 243, 3) by decide +kernel) ?_
  rintro _ _ ⟨σ', rfl, rfl, hq⟩ _
  exact (k σ' hq)
theorem S_X11_closeRule_121 {G : am_G} {d : Nat} {Q : am_D → Prop} {σ : am_D} {v1 : Int} {v2 : Int} {v3 : Int} {v4 : Int} {v5 : Int} {v6 : Int} {Q' : am_D → Prop} (hc : am_MV G d mX11_expression [am_r (some 91), am_i v1, am_i v6, am_i 0] σ Q') (k : ∀ σ' : am_D, Q' σ' → am_X (am_FV G (d + 1) Q) mX11_closeRule (0, 0) 129 [some (am_r (some 91)), some (am_i v1), some (am_i v2), some (am_i v3), some (am_i v4), some (am_i v5), some (am_i v6)] [] (am_K0, σ')) : am_X (am_FV G (d + 1) Q) mX11_closeRule (0, 0) 121 [some (am_r (some 91)), some (am_i v1), some (am_i v2), some (am_i v3), some (am_i v4), some (am_i v5), some (am_i v6)] [] (am_K0, σ) := by
  refine am_r_aload_n (nx := 122) rfl rfl (show decode cX11_closeRule 121 = .ok (.aload_n 0, 1) by decide +kernel) rfl ?_
  refine am_r_iload_n (nx := 123) rfl rfl (show decode cX11_closeRule 122 = .ok (.iload_n 1, 1) by decide +kernel) rfl ?_
  refine am_r_iload (nx := 125) rfl (show decode cX11_closeRule 123 = .ok (.iload 6, 2) by decide +kernel) rfl ?_
  refine am_r_iconst (nx := 126) (show decode cX11_closeRule 125 = .ok (.iconst 0, 1) by decide +kernel) rfl ?_
  refine am_r_callV (as := [am_i v1, am_i v6, am_i 0]) (st := []) hc mb_X11_expression mv_X11_expression (Or.inl ml_X11_257) (ob_91) (by omega) (r := (RX11, TX11, 63)) rfl rfl rfl rfl (Nat.le_of_ble_eq_true rfl) ⟨Nat.le_refl _, Nat.le_refl _⟩ ⟨Nat.le_refl _, Nat.le_refl _⟩ (show decode cX11_closeRule 126 = .ok (.invokevirtual 257, 3) by decide +kernel) ?_
  rintro _ _ ⟨σ', rfl, rfl, hq⟩ _
  exact (k σ' hq)
theorem S_X11_closeRule_129 {G : am_G} {d : Nat} {Q : am_D → Prop} {σ : am_D} {v1 : Int} {v2 : Int} {v3 : Int} {v4 : Int} {v5 : Int} {v6 : Int}  (k : am_X (am_FV G (d + 1) Q) mX11_closeRule (0, 0) 92 [some (am_r (some 91)), some (am_i v1), some (am_i v2), some (am_i v3), some (am_i v4), some (am_i v5), some (am_i (v6 + 1))] [] (am_K0, σ)) : am_X (am_FV G (d + 1) Q) mX11_closeRule (0, 0) 129 [some (am_r (some 91)), some (am_i v1), some (am_i v2), some (am_i v3), some (am_i v4), some (am_i v5), some (am_i v6)] [] (am_K0, σ) := by
  refine am_r_iinc (nx := 132) rfl rfl (show decode cX11_closeRule 129 = .ok (.iinc 6 1, 3) by decide +kernel) rfl ?_
  refine am_r_goto (tg := 92) (show decode cX11_closeRule 132 = .ok (.goto (-40), 3) by decide +kernel) (by decide) ?_
  exact k
theorem S_X11_closeRule_135 {G : am_G} {d : Nat} {Q : am_D → Prop} {σ : am_D} {v1 : Int} {v2 : Int} {v3 : Int} {v4 : Int} {v5 : Int} {Q' : Int → am_D → Prop} (hc : am_MI G d mX11_closeAt [am_i 5, am_i v2, am_i v3, am_i v4] σ Q') (k : ∀ (x : Int) (σ' : am_D), Q' x σ' → am_X (am_FV G (d + 1) Q) mX11_closeRule (0, 0) 147 [some (am_r (some 91)), some (am_i v1), some (am_i v2), some (am_i v3), some (am_i v4), some (am_i v5), none] [am_i x, am_r (some 100)] (am_K0, σ')) : am_X (am_FV G (d + 1) Q) mX11_closeRule (0, 0) 135 [some (am_r (some 91)), some (am_i v1), some (am_i v2), some (am_i v3), some (am_i v4), some (am_i v5), none] [] (am_K0, σ) := by
  refine am_r_aload_n (nx := 136) rfl rfl (show decode cX11_closeRule 135 = .ok (.aload_n 0, 1) by decide +kernel) rfl ?_
  refine am_r_getF (nx := 139) 14 cw11 (by decide) rfl (Or.inl fl_X11_36) (ob_91) (fn_91_14) (show decode cX11_closeRule 136 = .ok (.getfield 36, 3) by decide +kernel) rfl ?_
  refine am_r_iconst (nx := 140) (show decode cX11_closeRule 139 = .ok (.iconst 5, 1) by decide +kernel) rfl ?_
  refine am_r_iload_n (nx := 141) rfl rfl (show decode cX11_closeRule 140 = .ok (.iload_n 2, 1) by decide +kernel) rfl ?_
  refine am_r_iload_n (nx := 142) rfl rfl (show decode cX11_closeRule 141 = .ok (.iload_n 3, 1) by decide +kernel) rfl ?_
  refine am_r_iload (nx := 144) rfl (show decode cX11_closeRule 142 = .ok (.iload 4, 2) by decide +kernel) rfl ?_
  refine am_r_callS (as := [am_i 5, am_i v2, am_i v3, am_i v4]) (st := [am_r (some 100)]) hc mb_X11_closeAt mv_X11_closeAt (Or.inl ml_X11_253) rfl rfl (Nat.le_of_ble_eq_true rfl) ⟨Nat.le_refl _, Nat.le_refl _⟩ ⟨Nat.le_refl _, Nat.le_refl _⟩ (show decode cX11_closeRule 144 = .ok (.invokestatic 253, 3) by decide +kernel) ?_
  rintro _ _ ⟨x, σ', rfl, rfl, hq⟩ _
  exact (k x σ' hq)
theorem S_X11_closeRule_147 {G : am_G} {d : Nat} {Q : am_D → Prop} {σ : am_D} {v1 : Int} {v2 : Int} {v3 : Int} {v4 : Int} {v5 : Int} {s1 : Int} {s0 : Nat} {n1 : Nat} (hs2 : am_sh am_SH s0 = (100, n1)) (hi3 : 0 ≤ s1) (hj4 : s1 < ((n1 : Nat) : Int)) (k : am_X (am_FV G (d + 1) Q) mX11_closeRule (0, 0) 150 [some (am_r (some 91)), some (am_i v1), some (am_i v2), some (am_i v3), some (am_i v4), none, none] [] (am_K0, (am_pI σ s0 s1 v5))) : am_X (am_FV G (d + 1) Q) mX11_closeRule (0, 0) 147 [some (am_r (some 91)), some (am_i v1), some (am_i v2), some (am_i v3), some (am_i v4), some (am_i v5), none] [am_i s1, am_r (some s0)] (am_K0, σ) := by
  refine am_r_iload (nx := 149) rfl (show decode cX11_closeRule 147 = .ok (.iload 5, 2) by decide +kernel) rfl ?_
  refine am_r_iast (nx := 150) (hs2) (am_shle (hs2)) hi3 hj4 (show decode cX11_closeRule 149 = .ok (.iastore, 1) by decide +kernel) rfl ?_
  exact am_x_fg [5] k
theorem S_X11_closeRule_150 {G : am_G} {d : Nat} {Q : am_D → Prop} {σ : am_D} {v1 : Int} {v2 : Int} {v3 : Int} {v4 : Int} {Q' : Int → am_D → Prop} (hc : am_MI G d mX11_closeAt [am_i 5, am_i v2, am_i v3, am_i v4] σ Q') (k : ∀ (x : Int) (σ' : am_D), Q' x σ' → am_X (am_FV G (d + 1) Q) mX11_closeRule (0, 0) 162 [none, some (am_i v1), none, none, none, none, none] [am_i x, am_r (some 101)] (am_K0, σ')) : am_X (am_FV G (d + 1) Q) mX11_closeRule (0, 0) 150 [some (am_r (some 91)), some (am_i v1), some (am_i v2), some (am_i v3), some (am_i v4), none, none] [] (am_K0, σ) := by
  refine am_r_aload_n (nx := 151) rfl rfl (show decode cX11_closeRule 150 = .ok (.aload_n 0, 1) by decide +kernel) rfl ?_
  refine am_r_getF (nx := 154) 15 cw11 (by decide) rfl (Or.inl fl_X11_39) (ob_91) (fn_91_15) (show decode cX11_closeRule 151 = .ok (.getfield 39, 3) by decide +kernel) rfl ?_
  refine am_r_iconst (nx := 155) (show decode cX11_closeRule 154 = .ok (.iconst 5, 1) by decide +kernel) rfl ?_
  refine am_r_iload_n (nx := 156) rfl rfl (show decode cX11_closeRule 155 = .ok (.iload_n 2, 1) by decide +kernel) rfl ?_
  refine am_r_iload_n (nx := 157) rfl rfl (show decode cX11_closeRule 156 = .ok (.iload_n 3, 1) by decide +kernel) rfl ?_
  refine am_r_iload (nx := 159) rfl (show decode cX11_closeRule 157 = .ok (.iload 4, 2) by decide +kernel) rfl ?_
  refine am_r_callS (as := [am_i 5, am_i v2, am_i v3, am_i v4]) (st := [am_r (some 101)]) hc mb_X11_closeAt mv_X11_closeAt (Or.inl ml_X11_253) rfl rfl (Nat.le_of_ble_eq_true rfl) ⟨Nat.le_refl _, Nat.le_refl _⟩ ⟨Nat.le_refl _, Nat.le_refl _⟩ (show decode cX11_closeRule 159 = .ok (.invokestatic 253, 3) by decide +kernel) ?_
  rintro _ _ ⟨x, σ', rfl, rfl, hq⟩ _
  exact am_x_fg [0, 2, 3, 4] (k x σ' hq)
theorem S_X11_closeRule_162 {G : am_G} {d : Nat} {Q : am_D → Prop} {σ : am_D} {v1 : Int} {s1 : Int} {s0 : Nat} {n1 : Nat} (hs2 : am_sh am_SH s0 = (100, n1)) (hi3 : 0 ≤ s1) (hj4 : s1 < ((n1 : Nat) : Int)) (k : am_X (am_FV G (d + 1) Q) mX11_closeRule (0, 0) 164 [none, none, none, none, none, none, none] [] (am_K0, (am_pI σ s0 s1 v1))) : am_X (am_FV G (d + 1) Q) mX11_closeRule (0, 0) 162 [none, some (am_i v1), none, none, none, none, none] [am_i s1, am_r (some s0)] (am_K0, σ) := by
  refine am_r_iload_n (nx := 163) rfl rfl (show decode cX11_closeRule 162 = .ok (.iload_n 1, 1) by decide +kernel) rfl ?_
  refine am_r_iast (nx := 164) (hs2) (am_shle (hs2)) hi3 hj4 (show decode cX11_closeRule 163 = .ok (.iastore, 1) by decide +kernel) rfl ?_
  exact am_x_fg [1] k
theorem S_X11_closeRule_164 {G : am_G} {d : Nat} {Q : am_D → Prop} {σ : am_D}   (k : Q σ) : am_X (am_FV G (d + 1) Q) mX11_closeRule (0, 0) 164 [none, none, none, none, none, none, none] [] (am_K0, σ) := by
  exact am_r_vret rfl (show decode cX11_closeRule 164 = .ok (.return_, 1) by decide +kernel) ⟨_, rfl, rfl, k⟩
theorem S_X11_endsRule_0 {G : am_G} {d : Nat} {Q : am_D → Prop} {σ : am_D} {v1 : Int} {Q' : Int → am_D → Prop} (hc : am_MI G d mX11_digit [am_r (some 91), am_i 0, am_i ((σ.1 94 5) - 1)] σ Q') (k : ∀ (x : Int) (σ' : am_D), Q' x σ' → am_X (am_FV G (d + 1) Q) mX11_endsRule (0, 0) 14 [some (am_r (some 91)), some (am_i v1), some (am_i x)] [] (am_K0, σ')) : am_X (am_FV G (d + 1) Q) mX11_endsRule (0, 0) 0 [some (am_r (some 91)), some (am_i v1), none] [] (am_K0, σ) := by
  refine am_r_aload_n (nx := 1) rfl rfl (show decode cX11_endsRule 0 = .ok (.aload_n 0, 1) by decide +kernel) rfl ?_
  refine am_r_iconst (nx := 2) (show decode cX11_endsRule 1 = .ok (.iconst 0, 1) by decide +kernel) rfl ?_
  refine am_r_aload_n (nx := 3) rfl rfl (show decode cX11_endsRule 2 = .ok (.aload_n 0, 1) by decide +kernel) rfl ?_
  refine am_r_getF (nx := 6) 8 cw11 (by decide) rfl (Or.inl fl_X11_17) (ob_91) (fn_91_8) (show decode cX11_endsRule 3 = .ok (.getfield 17, 3) by decide +kernel) rfl ?_
  refine am_r_iconst (nx := 7) (show decode cX11_endsRule 6 = .ok (.iconst 5, 1) by decide +kernel) rfl ?_
  refine am_r_iald (nx := 8) (sh_94) (am_shle (sh_94)) (by omega) (by omega) (show decode cX11_endsRule 7 = .ok (.iaload, 1) by decide +kernel) rfl ?_
  refine am_r_iconst (nx := 9) (show decode cX11_endsRule 8 = .ok (.iconst 1, 1) by decide +kernel) rfl ?_
  refine am_r_isub (nx := 10) (show decode cX11_endsRule 9 = .ok (.isub, 1) by decide +kernel) rfl ?_
  refine am_r_callV (as := [am_i 0, am_i ((σ.1 94 5) - 1)]) (st := []) hc mb_X11_digit mv_X11_digit (Or.inl ml_X11_215) (ob_91) (by omega) (r := (RX11, TX11, 63)) rfl rfl rfl rfl (Nat.le_of_ble_eq_true rfl) ⟨Nat.le_refl _, Nat.le_refl _⟩ ⟨Nat.le_refl _, Nat.le_refl _⟩ (show decode cX11_endsRule 10 = .ok (.invokevirtual 215, 3) by decide +kernel) ?_
  rintro _ _ ⟨x, σ', rfl, rfl, hq⟩ _
  refine am_r_istore_n (nx := 14) rfl (by decide) rfl (show decode cX11_endsRule 13 = .ok (.istore_n 2, 1) by decide +kernel) rfl ?_
  exact (k x σ' hq)
theorem S_X11_endsRule_14 {G : am_G} {d : Nat} {Q : am_D → Prop} {σ : am_D} {v1 : Int} {v2 : Int} {Q' : Int → am_D → Prop} (hc : am_MI G d mX11_isGood [am_r (some 91)] σ Q') (k : ∀ (x : Int) (σ' : am_D), Q' x σ' → am_X (am_FV G (d + 1) Q) mX11_endsRule (0, 0) 18 [some (am_r (some 91)), some (am_i v1), some (am_i v2)] [am_i x] (am_K0, σ')) : am_X (am_FV G (d + 1) Q) mX11_endsRule (0, 0) 14 [some (am_r (some 91)), some (am_i v1), some (am_i v2)] [] (am_K0, σ) := by
  refine am_r_aload_n (nx := 15) rfl rfl (show decode cX11_endsRule 14 = .ok (.aload_n 0, 1) by decide +kernel) rfl ?_
  refine am_r_callV (as := []) (st := []) hc mb_X11_isGood mv_X11_isGood (Or.inl ml_X11_185) (ob_91) (by omega) (r := (RX11, TX11, 63)) rfl rfl rfl rfl (Nat.le_of_ble_eq_true rfl) ⟨Nat.le_refl _, Nat.le_refl _⟩ ⟨Nat.le_refl _, Nat.le_refl _⟩ (show decode cX11_endsRule 15 = .ok (.invokevirtual 185, 3) by decide +kernel) ?_
  rintro _ _ ⟨x, σ', rfl, rfl, hq⟩ _
  exact (k x σ' hq)
theorem S_X11_endsRule_18 {G : am_G} {d : Nat} {Q : am_D → Prop} {σ : am_D} {v1 : Int} {v2 : Int} {s0 : Int} (hr1 : -2147483648 ≤ s0 ∧ s0 ≤ 2147483647) (k1 : s0 = 0 → am_X (am_FV G (d + 1) Q) mX11_endsRule (0, 0) 39 [some (am_r (some 91)), some (am_i v1), some (am_i v2)] [] (am_K0, σ)) (k2 : ¬ (s0 = 0) → am_X (am_FV G (d + 1) Q) mX11_endsRule (0, 0) 21 [some (am_r (some 91)), some (am_i v1), some (am_i v2)] [] (am_K0, σ)) : am_X (am_FV G (d + 1) Q) mX11_endsRule (0, 0) 18 [some (am_r (some 91)), some (am_i v1), some (am_i v2)] [am_i s0] (am_K0, σ) := by
  refine am_r_if_eq (tg := 39) (nx := 21) (show decode cX11_endsRule 18 = .ok (.ifCond .eq 21, 3) by decide +kernel) (by decide) rfl hr1 ?_ ?_
  · exact fun q => k1 q
  · exact fun q => k2 q
theorem S_X11_endsRule_21 {G : am_G} {d : Nat} {Q : am_D → Prop} {σ : am_D} {v1 : Int} {v2 : Int} (hi1 : 0 ≤ (30 + v2)) (hj2 : (30 + v2) < 36) (hr3 : -2147483648 ≤ (σ.1 102 (30 + v2)) ∧ (σ.1 102 (30 + v2)) ≤ 2147483647) (k1 : (σ.1 102 (30 + v2)) = (-1) → am_X (am_FV G (d + 1) Q) mX11_endsRule (0, 0) 39 [some (am_r (some 91)), some (am_i v1), some (am_i v2)] [] (am_K0, σ)) (k2 : ¬ ((σ.1 102 (30 + v2)) = (-1)) → am_X (am_FV G (d + 1) Q) mX11_endsRule (0, 0) 34 [some (am_r (some 91)), some (am_i v1), some (am_i v2)] [] (am_K0, σ)) : am_X (am_FV G (d + 1) Q) mX11_endsRule (0, 0) 21 [some (am_r (some 91)), some (am_i v1), some (am_i v2)] [] (am_K0, σ) := by
  refine am_r_aload_n (nx := 22) rfl rfl (show decode cX11_endsRule 21 = .ok (.aload_n 0, 1) by decide +kernel) rfl ?_
  refine am_r_getF (nx := 25) 16 cw11 (by decide) rfl (Or.inl fl_X11_42) (ob_91) (fn_91_16) (show decode cX11_endsRule 22 = .ok (.getfield 42, 3) by decide +kernel) rfl ?_
  refine am_r_bipush (nx := 27) rfl (show decode cX11_endsRule 25 = .ok (.bipush 30, 2) by decide +kernel) rfl ?_
  refine am_r_iload_n (nx := 28) rfl rfl (show decode cX11_endsRule 27 = .ok (.iload_n 2, 1) by decide +kernel) rfl ?_
  refine am_r_iadd (nx := 29) (show decode cX11_endsRule 28 = .ok (.iadd, 1) by decide +kernel) rfl ?_
  refine am_r_iald (nx := 30) (sh_102) (am_shle (sh_102)) hi1 hj2 (show decode cX11_endsRule 29 = .ok (.iaload, 1) by decide +kernel) rfl ?_
  refine am_r_iconst (nx := 31) (show decode cX11_endsRule 30 = .ok (.iconst (-1), 1) by decide +kernel) rfl ?_
  refine am_r_icmp_eq (tg := 39) (nx := 34) (show decode cX11_endsRule 31 = .ok (.if_icmp .eq 8, 3) by decide +kernel) (by decide) rfl hr3 (by omega) ?_ ?_
  · exact fun q => k1 q
  · exact fun q => k2 q
theorem S_X11_endsRule_34 {G : am_G} {d : Nat} {Q : am_D → Prop} {σ : am_D} {v1 : Int} {v2 : Int} {Q' : am_D → Prop} (hc : am_MV G d mX11_fails [am_r (some 91), am_i 3] σ Q') (k : ∀ σ' : am_D, Q' σ' → am_X (am_FV G (d + 1) Q) mX11_endsRule (0, 0) 39 [some (am_r (some 91)), some (am_i v1), some (am_i v2)] [] (am_K0, σ')) : am_X (am_FV G (d + 1) Q) mX11_endsRule (0, 0) 34 [some (am_r (some 91)), some (am_i v1), some (am_i v2)] [] (am_K0, σ) := by
  refine am_r_aload_n (nx := 35) rfl rfl (show decode cX11_endsRule 34 = .ok (.aload_n 0, 1) by decide +kernel) rfl ?_
  refine am_r_iconst (nx := 36) (show decode cX11_endsRule 35 = .ok (.iconst 3, 1) by decide +kernel) rfl ?_
  refine am_r_callV (as := [am_i 3]) (st := []) hc mb_X11_fails mv_X11_fails (Or.inl ml_X11_202) (ob_91) (by omega) (r := (RX11, TX11, 63)) rfl rfl rfl rfl (Nat.le_of_ble_eq_true rfl) ⟨Nat.le_refl _, Nat.le_refl _⟩ ⟨Nat.le_refl _, Nat.le_refl _⟩ (show decode cX11_endsRule 36 = .ok (.invokevirtual 202, 3) by decide +kernel) ?_
  rintro _ _ ⟨σ', rfl, rfl, hq⟩ _
  exact (k σ' hq)
theorem S_X11_endsRule_39 {G : am_G} {d : Nat} {Q : am_D → Prop} {σ : am_D} {v1 : Int} {v2 : Int} {Q' : Int → am_D → Prop} (hc : am_MI G d mX11_isGood [am_r (some 91)] σ Q') (k : ∀ (x : Int) (σ' : am_D), Q' x σ' → am_X (am_FV G (d + 1) Q) mX11_endsRule (0, 0) 43 [some (am_r (some 91)), some (am_i v1), some (am_i v2)] [am_i x] (am_K0, σ')) : am_X (am_FV G (d + 1) Q) mX11_endsRule (0, 0) 39 [some (am_r (some 91)), some (am_i v1), some (am_i v2)] [] (am_K0, σ) := by
  refine am_r_aload_n (nx := 40) rfl rfl (show decode cX11_endsRule 39 = .ok (.aload_n 0, 1) by decide +kernel) rfl ?_
  refine am_r_callV (as := []) (st := []) hc mb_X11_isGood mv_X11_isGood (Or.inl ml_X11_185) (ob_91) (by omega) (r := (RX11, TX11, 63)) rfl rfl rfl rfl (Nat.le_of_ble_eq_true rfl) ⟨Nat.le_refl _, Nat.le_refl _⟩ ⟨Nat.le_refl _, Nat.le_refl _⟩ (show decode cX11_endsRule 40 = .ok (.invokevirtual 185, 3) by decide +kernel) ?_
  rintro _ _ ⟨x, σ', rfl, rfl, hq⟩ _
  exact (k x σ' hq)
theorem S_X11_endsRule_43 {G : am_G} {d : Nat} {Q : am_D → Prop} {σ : am_D} {v1 : Int} {v2 : Int} {s0 : Int} (hr1 : -2147483648 ≤ s0 ∧ s0 ≤ 2147483647) (k1 : ¬ s0 = 0 → am_X (am_FV G (d + 1) Q) mX11_endsRule (0, 0) 47 [some (am_r (some 91)), some (am_i v1), some (am_i v2)] [] (am_K0, σ)) (k2 : ¬ (¬ s0 = 0) → am_X (am_FV G (d + 1) Q) mX11_endsRule (0, 0) 46 [none, none, none] [] (am_K0, σ)) : am_X (am_FV G (d + 1) Q) mX11_endsRule (0, 0) 43 [some (am_r (some 91)), some (am_i v1), some (am_i v2)] [am_i s0] (am_K0, σ) := by
  refine am_r_if_ne (tg := 47) (nx := 46) (show decode cX11_endsRule 43 = .ok (.ifCond .ne 4, 3) by decide +kernel) (by decide) rfl hr1 ?_ ?_
  · exact fun q => k1 q
  · exact fun q => am_x_fg [0, 1, 2] (k2 q)
theorem S_X11_endsRule_46 {G : am_G} {d : Nat} {Q : am_D → Prop} {σ : am_D}   (k : Q σ) : am_X (am_FV G (d + 1) Q) mX11_endsRule (0, 0) 46 [none, none, none] [] (am_K0, σ) := by
  exact am_r_vret rfl (show decode cX11_endsRule 46 = .ok (.return_, 1) by decide +kernel) ⟨_, rfl, rfl, k⟩
theorem S_X11_endsRule_47 {G : am_G} {d : Nat} {Q : am_D → Prop} {σ : am_D} {v1 : Int} {v2 : Int} {Q' : am_D → Prop} (hc : am_MV G d mX11_goes [am_r (some 91)] σ Q') (k : ∀ σ' : am_D, Q' σ' → am_X (am_FV G (d + 1) Q) mX11_endsRule (0, 0) 51 [some (am_r (some 91)), some (am_i v1), some (am_i v2)] [] (am_K0, σ')) : am_X (am_FV G (d + 1) Q) mX11_endsRule (0, 0) 47 [some (am_r (some 91)), some (am_i v1), some (am_i v2)] [] (am_K0, σ) := by
  refine am_r_aload_n (nx := 48) rfl rfl (show decode cX11_endsRule 47 = .ok (.aload_n 0, 1) by decide +kernel) rfl ?_
  refine am_r_callV (as := []) (st := []) hc mb_X11_goes mv_X11_goes (Or.inl ml_X11_182) (ob_91) (by omega) (r := (RX11, TX11, 63)) rfl rfl rfl rfl (Nat.le_of_ble_eq_true rfl) ⟨Nat.le_refl _, Nat.le_refl _⟩ ⟨Nat.le_refl _, Nat.le_refl _⟩ (show decode cX11_endsRule 48 = .ok (.invokevirtual 182, 3) by decide +kernel) ?_
  rintro _ _ ⟨σ', rfl, rfl, hq⟩ _
  exact (k σ' hq)
theorem S_X11_endsRule_51 {G : am_G} {d : Nat} {Q : am_D → Prop} {σ : am_D} {v1 : Int} {v2 : Int} {Q' : am_D → Prop} (hc : am_MV G d mX11_sign [am_r (some 91), am_i 61] σ Q') (k : ∀ σ' : am_D, Q' σ' → am_X (am_FV G (d + 1) Q) mX11_endsRule (0, 0) 57 [some (am_r (some 91)), some (am_i v1), some (am_i v2)] [] (am_K0, σ')) : am_X (am_FV G (d + 1) Q) mX11_endsRule (0, 0) 51 [some (am_r (some 91)), some (am_i v1), some (am_i v2)] [] (am_K0, σ) := by
  refine am_r_aload_n (nx := 52) rfl rfl (show decode cX11_endsRule 51 = .ok (.aload_n 0, 1) by decide +kernel) rfl ?_
  refine am_r_bipush (nx := 54) rfl (show decode cX11_endsRule 52 = .ok (.bipush 61, 2) by decide +kernel) rfl ?_
  refine am_r_callV (as := [am_i 61]) (st := []) hc mb_X11_sign mv_X11_sign (Or.inl ml_X11_243) (ob_91) (by omega) (r := (RX11, TX11, 63)) rfl rfl rfl rfl (Nat.le_of_ble_eq_true rfl) ⟨Nat.le_refl _, Nat.le_refl _⟩ ⟨Nat.le_refl _, Nat.le_refl _⟩ (show decode cX11_endsRule 54 = .ok (.invokevirtual 243, 3) by decide +kernel) ?_
  rintro _ _ ⟨σ', rfl, rfl, hq⟩ _
  exact (k σ' hq)
theorem S_X11_endsRule_57 {G : am_G} {d : Nat} {Q : am_D → Prop} {σ : am_D} {v1 : Int} {v2 : Int} {Q' : am_D → Prop} (hc : am_MV G d mX11_expression [am_r (some 91), am_i v1, am_i 0, am_i 1] σ Q') (k : ∀ σ' : am_D, Q' σ' → am_X (am_FV G (d + 1) Q) mX11_endsRule (0, 0) 64 [some (am_r (some 91)), some (am_i v1), some (am_i v2)] [] (am_K0, σ')) : am_X (am_FV G (d + 1) Q) mX11_endsRule (0, 0) 57 [some (am_r (some 91)), some (am_i v1), some (am_i v2)] [] (am_K0, σ) := by
  refine am_r_aload_n (nx := 58) rfl rfl (show decode cX11_endsRule 57 = .ok (.aload_n 0, 1) by decide +kernel) rfl ?_
  refine am_r_iload_n (nx := 59) rfl rfl (show decode cX11_endsRule 58 = .ok (.iload_n 1, 1) by decide +kernel) rfl ?_
  refine am_r_iconst (nx := 60) (show decode cX11_endsRule 59 = .ok (.iconst 0, 1) by decide +kernel) rfl ?_
  refine am_r_iconst (nx := 61) (show decode cX11_endsRule 60 = .ok (.iconst 1, 1) by decide +kernel) rfl ?_
  refine am_r_callV (as := [am_i v1, am_i 0, am_i 1]) (st := []) hc mb_X11_expression mv_X11_expression (Or.inl ml_X11_257) (ob_91) (by omega) (r := (RX11, TX11, 63)) rfl rfl rfl rfl (Nat.le_of_ble_eq_true rfl) ⟨Nat.le_refl _, Nat.le_refl _⟩ ⟨Nat.le_refl _, Nat.le_refl _⟩ (show decode cX11_endsRule 61 = .ok (.invokevirtual 257, 3) by decide +kernel) ?_
  rintro _ _ ⟨σ', rfl, rfl, hq⟩ _
  exact (k σ' hq)
theorem S_X11_endsRule_64 {G : am_G} {d : Nat} {Q : am_D → Prop} {σ : am_D} {v1 : Int} {v2 : Int} (hi1 : 0 ≤ (30 + v2)) (hj2 : (30 + v2) < 36) (k : am_X (am_FV G (d + 1) Q) mX11_endsRule (0, 0) 74 [none, none, none] [] (am_K0, (am_pI σ 102 (30 + v2) v1))) : am_X (am_FV G (d + 1) Q) mX11_endsRule (0, 0) 64 [some (am_r (some 91)), some (am_i v1), some (am_i v2)] [] (am_K0, σ) := by
  refine am_r_aload_n (nx := 65) rfl rfl (show decode cX11_endsRule 64 = .ok (.aload_n 0, 1) by decide +kernel) rfl ?_
  refine am_r_getF (nx := 68) 16 cw11 (by decide) rfl (Or.inl fl_X11_42) (ob_91) (fn_91_16) (show decode cX11_endsRule 65 = .ok (.getfield 42, 3) by decide +kernel) rfl ?_
  refine am_r_bipush (nx := 70) rfl (show decode cX11_endsRule 68 = .ok (.bipush 30, 2) by decide +kernel) rfl ?_
  refine am_r_iload_n (nx := 71) rfl rfl (show decode cX11_endsRule 70 = .ok (.iload_n 2, 1) by decide +kernel) rfl ?_
  refine am_r_iadd (nx := 72) (show decode cX11_endsRule 71 = .ok (.iadd, 1) by decide +kernel) rfl ?_
  refine am_r_iload_n (nx := 73) rfl rfl (show decode cX11_endsRule 72 = .ok (.iload_n 1, 1) by decide +kernel) rfl ?_
  refine am_r_iast (nx := 74) (sh_102) (am_shle (sh_102)) hi1 hj2 (show decode cX11_endsRule 73 = .ok (.iastore, 1) by decide +kernel) rfl ?_
  exact am_x_fg [0, 1, 2] k
theorem S_X11_endsRule_74 {G : am_G} {d : Nat} {Q : am_D → Prop} {σ : am_D}   (k : Q σ) : am_X (am_FV G (d + 1) Q) mX11_endsRule (0, 0) 74 [none, none, none] [] (am_K0, σ) := by
  exact am_r_vret rfl (show decode cX11_endsRule 74 = .ok (.return_, 1) by decide +kernel) ⟨_, rfl, rfl, k⟩
theorem S_X11_rule_0 {G : am_G} {d : Nat} {Q : am_D → Prop} {σ : am_D} {Q' : Int → am_D → Prop} (hc : am_MI G d mX11_isWord [am_r (some 91), am_s 1] σ Q') (k : ∀ (x : Int) (σ' : am_D), Q' x σ' → am_X (am_FV G (d + 1) Q) mX11_rule (0, 0) 8 [some (am_r (some 91)), some (am_i x), none, none] [] (am_K0, σ')) : am_X (am_FV G (d + 1) Q) mX11_rule (0, 0) 0 [some (am_r (some 91)), none, none, none] [] (am_K0, σ) := by
  refine am_r_aload_n (nx := 1) rfl rfl (show decode cX11_rule 0 = .ok (.aload_n 0, 1) by decide +kernel) rfl ?_
  refine am_r_ldc_wS (nx := 4) (i := 1) (tx := "open") (by decide +kernel) (show decode cX11_rule 1 = .ok (.ldc_w 261, 3) by decide +kernel) rfl ?_
  refine am_r_callV (as := [am_s 1]) (st := []) hc mb_X11_isWord mv_X11_isWord (Or.inl ml_X11_207) (ob_91) (by omega) (r := (RX11, TX11, 63)) rfl rfl rfl rfl (Nat.le_of_ble_eq_true rfl) ⟨Nat.le_refl _, Nat.le_refl _⟩ ⟨Nat.le_refl _, Nat.le_refl _⟩ (show decode cX11_rule 4 = .ok (.invokevirtual 207, 3) by decide +kernel) ?_
  rintro _ _ ⟨x, σ', rfl, rfl, hq⟩ _
  refine am_r_istore_n (nx := 8) rfl (by decide) rfl (show decode cX11_rule 7 = .ok (.istore_n 1, 1) by decide +kernel) rfl ?_
  exact (k x σ' hq)
theorem S_X11_rule_8 {G : am_G} {d : Nat} {Q : am_D → Prop} {σ : am_D} {v1 : Int} {Q' : Int → am_D → Prop} (hc : am_MI G d mX11_isWord [am_r (some 91), am_s 2] σ Q') (k : ∀ (x : Int) (σ' : am_D), Q' x σ' → am_X (am_FV G (d + 1) Q) mX11_rule (0, 0) 16 [some (am_r (some 91)), some (am_i v1), some (am_i x), none] [] (am_K0, σ')) : am_X (am_FV G (d + 1) Q) mX11_rule (0, 0) 8 [some (am_r (some 91)), some (am_i v1), none, none] [] (am_K0, σ) := by
  refine am_r_aload_n (nx := 9) rfl rfl (show decode cX11_rule 8 = .ok (.aload_n 0, 1) by decide +kernel) rfl ?_
  refine am_r_ldc_wS (nx := 12) (i := 2) (tx := "close") (by decide +kernel) (show decode cX11_rule 9 = .ok (.ldc_w 263, 3) by decide +kernel) rfl ?_
  refine am_r_callV (as := [am_s 2]) (st := []) hc mb_X11_isWord mv_X11_isWord (Or.inl ml_X11_207) (ob_91) (by omega) (r := (RX11, TX11, 63)) rfl rfl rfl rfl (Nat.le_of_ble_eq_true rfl) ⟨Nat.le_refl _, Nat.le_refl _⟩ ⟨Nat.le_refl _, Nat.le_refl _⟩ (show decode cX11_rule 12 = .ok (.invokevirtual 207, 3) by decide +kernel) ?_
  rintro _ _ ⟨x, σ', rfl, rfl, hq⟩ _
  refine am_r_istore_n (nx := 16) rfl (by decide) rfl (show decode cX11_rule 15 = .ok (.istore_n 2, 1) by decide +kernel) rfl ?_
  exact (k x σ' hq)
theorem S_X11_rule_16 {G : am_G} {d : Nat} {Q : am_D → Prop} {σ : am_D} {v1 : Int} {v2 : Int} (hr1 : -2147483648 ≤ v1 ∧ v1 ≤ 2147483647) (k1 : ¬ v1 = 0 → am_X (am_FV G (d + 1) Q) mX11_rule (0, 0) 39 [some (am_r (some 91)), some (am_i v1), some (am_i v2), none] [] (am_K0, σ)) (k2 : ¬ (¬ v1 = 0) → am_X (am_FV G (d + 1) Q) mX11_rule (0, 0) 20 [some (am_r (some 91)), some (am_i v1), some (am_i v2), none] [] (am_K0, σ)) : am_X (am_FV G (d + 1) Q) mX11_rule (0, 0) 16 [some (am_r (some 91)), some (am_i v1), some (am_i v2), none] [] (am_K0, σ) := by
  refine am_r_iload_n (nx := 17) rfl rfl (show decode cX11_rule 16 = .ok (.iload_n 1, 1) by decide +kernel) rfl ?_
  refine am_r_if_ne (tg := 39) (nx := 20) (show decode cX11_rule 17 = .ok (.ifCond .ne 22, 3) by decide +kernel) (by decide) rfl hr1 ?_ ?_
  · exact fun q => k1 q
  · exact fun q => k2 q
theorem S_X11_rule_20 {G : am_G} {d : Nat} {Q : am_D → Prop} {σ : am_D} {v1 : Int} {v2 : Int} (hr1 : -2147483648 ≤ v2 ∧ v2 ≤ 2147483647) (k1 : ¬ v2 = 0 → am_X (am_FV G (d + 1) Q) mX11_rule (0, 0) 39 [some (am_r (some 91)), some (am_i v1), some (am_i v2), none] [] (am_K0, σ)) (k2 : ¬ (¬ v2 = 0) → am_X (am_FV G (d + 1) Q) mX11_rule (0, 0) 24 [some (am_r (some 91)), some (am_i v1), some (am_i v2), none] [] (am_K0, σ)) : am_X (am_FV G (d + 1) Q) mX11_rule (0, 0) 20 [some (am_r (some 91)), some (am_i v1), some (am_i v2), none] [] (am_K0, σ) := by
  refine am_r_iload_n (nx := 21) rfl rfl (show decode cX11_rule 20 = .ok (.iload_n 2, 1) by decide +kernel) rfl ?_
  refine am_r_if_ne (tg := 39) (nx := 24) (show decode cX11_rule 21 = .ok (.ifCond .ne 18, 3) by decide +kernel) (by decide) rfl hr1 ?_ ?_
  · exact fun q => k1 q
  · exact fun q => k2 q
theorem S_X11_rule_24 {G : am_G} {d : Nat} {Q : am_D → Prop} {σ : am_D} {v1 : Int} {v2 : Int} {Q' : Int → am_D → Prop} (hc : am_MI G d mX11_isWord [am_r (some 91), am_s 3] σ Q') (k : ∀ (x : Int) (σ' : am_D), Q' x σ' → am_X (am_FV G (d + 1) Q) mX11_rule (0, 0) 31 [some (am_r (some 91)), some (am_i v1), some (am_i v2), none] [am_i x] (am_K0, σ')) : am_X (am_FV G (d + 1) Q) mX11_rule (0, 0) 24 [some (am_r (some 91)), some (am_i v1), some (am_i v2), none] [] (am_K0, σ) := by
  refine am_r_aload_n (nx := 25) rfl rfl (show decode cX11_rule 24 = .ok (.aload_n 0, 1) by decide +kernel) rfl ?_
  refine am_r_ldc_wS (nx := 28) (i := 3) (tx := "end") (by decide +kernel) (show decode cX11_rule 25 = .ok (.ldc_w 265, 3) by decide +kernel) rfl ?_
  refine am_r_callV (as := [am_s 3]) (st := []) hc mb_X11_isWord mv_X11_isWord (Or.inl ml_X11_207) (ob_91) (by omega) (r := (RX11, TX11, 63)) rfl rfl rfl rfl (Nat.le_of_ble_eq_true rfl) ⟨Nat.le_refl _, Nat.le_refl _⟩ ⟨Nat.le_refl _, Nat.le_refl _⟩ (show decode cX11_rule 28 = .ok (.invokevirtual 207, 3) by decide +kernel) ?_
  rintro _ _ ⟨x, σ', rfl, rfl, hq⟩ _
  exact (k x σ' hq)
theorem S_X11_rule_31 {G : am_G} {d : Nat} {Q : am_D → Prop} {σ : am_D} {v1 : Int} {v2 : Int} {s0 : Int} (hr1 : -2147483648 ≤ s0 ∧ s0 ≤ 2147483647) (k1 : ¬ s0 = 0 → am_X (am_FV G (d + 1) Q) mX11_rule (0, 0) 39 [some (am_r (some 91)), some (am_i v1), some (am_i v2), none] [] (am_K0, σ)) (k2 : ¬ (¬ s0 = 0) → am_X (am_FV G (d + 1) Q) mX11_rule (0, 0) 34 [some (am_r (some 91)), some (am_i v1), some (am_i v2), none] [] (am_K0, σ)) : am_X (am_FV G (d + 1) Q) mX11_rule (0, 0) 31 [some (am_r (some 91)), some (am_i v1), some (am_i v2), none] [am_i s0] (am_K0, σ) := by
  refine am_r_if_ne (tg := 39) (nx := 34) (show decode cX11_rule 31 = .ok (.ifCond .ne 8, 3) by decide +kernel) (by decide) rfl hr1 ?_ ?_
  · exact fun q => k1 q
  · exact fun q => k2 q
theorem S_X11_rule_34 {G : am_G} {d : Nat} {Q : am_D → Prop} {σ : am_D} {v1 : Int} {v2 : Int} {Q' : am_D → Prop} (hc : am_MV G d mX11_fails [am_r (some 91), am_i 1] σ Q') (k : ∀ σ' : am_D, Q' σ' → am_X (am_FV G (d + 1) Q) mX11_rule (0, 0) 39 [some (am_r (some 91)), some (am_i v1), some (am_i v2), none] [] (am_K0, σ')) : am_X (am_FV G (d + 1) Q) mX11_rule (0, 0) 34 [some (am_r (some 91)), some (am_i v1), some (am_i v2), none] [] (am_K0, σ) := by
  refine am_r_aload_n (nx := 35) rfl rfl (show decode cX11_rule 34 = .ok (.aload_n 0, 1) by decide +kernel) rfl ?_
  refine am_r_iconst (nx := 36) (show decode cX11_rule 35 = .ok (.iconst 1, 1) by decide +kernel) rfl ?_
  refine am_r_callV (as := [am_i 1]) (st := []) hc mb_X11_fails mv_X11_fails (Or.inl ml_X11_202) (ob_91) (by omega) (r := (RX11, TX11, 63)) rfl rfl rfl rfl (Nat.le_of_ble_eq_true rfl) ⟨Nat.le_refl _, Nat.le_refl _⟩ ⟨Nat.le_refl _, Nat.le_refl _⟩ (show decode cX11_rule 36 = .ok (.invokevirtual 202, 3) by decide +kernel) ?_
  rintro _ _ ⟨σ', rfl, rfl, hq⟩ _
  exact (k σ' hq)
theorem S_X11_rule_39 {G : am_G} {d : Nat} {Q : am_D → Prop} {σ : am_D} {v1 : Int} {v2 : Int} {Q' : Int → am_D → Prop} (hc : am_MI G d mX11_isGood [am_r (some 91)] σ Q') (k : ∀ (x : Int) (σ' : am_D), Q' x σ' → am_X (am_FV G (d + 1) Q) mX11_rule (0, 0) 43 [some (am_r (some 91)), some (am_i v1), some (am_i v2), none] [am_i x] (am_K0, σ')) : am_X (am_FV G (d + 1) Q) mX11_rule (0, 0) 39 [some (am_r (some 91)), some (am_i v1), some (am_i v2), none] [] (am_K0, σ) := by
  refine am_r_aload_n (nx := 40) rfl rfl (show decode cX11_rule 39 = .ok (.aload_n 0, 1) by decide +kernel) rfl ?_
  refine am_r_callV (as := []) (st := []) hc mb_X11_isGood mv_X11_isGood (Or.inl ml_X11_185) (ob_91) (by omega) (r := (RX11, TX11, 63)) rfl rfl rfl rfl (Nat.le_of_ble_eq_true rfl) ⟨Nat.le_refl _, Nat.le_refl _⟩ ⟨Nat.le_refl _, Nat.le_refl _⟩ (show decode cX11_rule 40 = .ok (.invokevirtual 185, 3) by decide +kernel) ?_
  rintro _ _ ⟨x, σ', rfl, rfl, hq⟩ _
  exact (k x σ' hq)
theorem S_X11_rule_43 {G : am_G} {d : Nat} {Q : am_D → Prop} {σ : am_D} {v1 : Int} {v2 : Int} {s0 : Int} (hr1 : -2147483648 ≤ s0 ∧ s0 ≤ 2147483647) (k1 : s0 = 0 → am_X (am_FV G (d + 1) Q) mX11_rule (0, 0) 62 [some (am_r (some 91)), some (am_i v1), some (am_i v2), none] [] (am_K0, σ)) (k2 : ¬ (s0 = 0) → am_X (am_FV G (d + 1) Q) mX11_rule (0, 0) 46 [some (am_r (some 91)), some (am_i v1), some (am_i v2), none] [] (am_K0, σ)) : am_X (am_FV G (d + 1) Q) mX11_rule (0, 0) 43 [some (am_r (some 91)), some (am_i v1), some (am_i v2), none] [am_i s0] (am_K0, σ) := by
  refine am_r_if_eq (tg := 62) (nx := 46) (show decode cX11_rule 43 = .ok (.ifCond .eq 19, 3) by decide +kernel) (by decide) rfl hr1 ?_ ?_
  · exact fun q => k1 q
  · exact fun q => k2 q
theorem S_X11_rule_46 {G : am_G} {d : Nat} {Q : am_D → Prop} {σ : am_D} {v1 : Int} {v2 : Int} (hr1 : -2147483648 ≤ (σ.1 96 5) ∧ (σ.1 96 5) ≤ 2147483647) (k1 : ¬ (σ.1 96 5) = 24 → am_X (am_FV G (d + 1) Q) mX11_rule (0, 0) 62 [some (am_r (some 91)), some (am_i v1), some (am_i v2), none] [] (am_K0, σ)) (k2 : ¬ (¬ (σ.1 96 5) = 24) → am_X (am_FV G (d + 1) Q) mX11_rule (0, 0) 57 [some (am_r (some 91)), some (am_i v1), some (am_i v2), none] [] (am_K0, σ)) : am_X (am_FV G (d + 1) Q) mX11_rule (0, 0) 46 [some (am_r (some 91)), some (am_i v1), some (am_i v2), none] [] (am_K0, σ) := by
  refine am_r_aload_n (nx := 47) rfl rfl (show decode cX11_rule 46 = .ok (.aload_n 0, 1) by decide +kernel) rfl ?_
  refine am_r_getF (nx := 50) 10 cw11 (by decide) rfl (Or.inl fl_X11_24) (ob_91) (fn_91_10) (show decode cX11_rule 47 = .ok (.getfield 24, 3) by decide +kernel) rfl ?_
  refine am_r_iconst (nx := 51) (show decode cX11_rule 50 = .ok (.iconst 5, 1) by decide +kernel) rfl ?_
  refine am_r_iald (nx := 52) (sh_96) (am_shle (sh_96)) (by omega) (by omega) (show decode cX11_rule 51 = .ok (.iaload, 1) by decide +kernel) rfl ?_
  refine am_r_bipush (nx := 54) rfl (show decode cX11_rule 52 = .ok (.bipush 24, 2) by decide +kernel) rfl ?_
  refine am_r_icmp_ne (tg := 62) (nx := 57) (show decode cX11_rule 54 = .ok (.if_icmp .ne 8, 3) by decide +kernel) (by decide) rfl hr1 (by omega) ?_ ?_
  · exact fun q => k1 q
  · exact fun q => k2 q
theorem S_X11_rule_57 {G : am_G} {d : Nat} {Q : am_D → Prop} {σ : am_D} {v1 : Int} {v2 : Int} {Q' : am_D → Prop} (hc : am_MV G d mX11_fails [am_r (some 91), am_i 5] σ Q') (k : ∀ σ' : am_D, Q' σ' → am_X (am_FV G (d + 1) Q) mX11_rule (0, 0) 62 [some (am_r (some 91)), some (am_i v1), some (am_i v2), none] [] (am_K0, σ')) : am_X (am_FV G (d + 1) Q) mX11_rule (0, 0) 57 [some (am_r (some 91)), some (am_i v1), some (am_i v2), none] [] (am_K0, σ) := by
  refine am_r_aload_n (nx := 58) rfl rfl (show decode cX11_rule 57 = .ok (.aload_n 0, 1) by decide +kernel) rfl ?_
  refine am_r_iconst (nx := 59) (show decode cX11_rule 58 = .ok (.iconst 5, 1) by decide +kernel) rfl ?_
  refine am_r_callV (as := [am_i 5]) (st := []) hc mb_X11_fails mv_X11_fails (Or.inl ml_X11_202) (ob_91) (by omega) (r := (RX11, TX11, 63)) rfl rfl rfl rfl (Nat.le_of_ble_eq_true rfl) ⟨Nat.le_refl _, Nat.le_refl _⟩ ⟨Nat.le_refl _, Nat.le_refl _⟩ (show decode cX11_rule 59 = .ok (.invokevirtual 202, 3) by decide +kernel) ?_
  rintro _ _ ⟨σ', rfl, rfl, hq⟩ _
  exact (k σ' hq)
theorem S_X11_rule_62 {G : am_G} {d : Nat} {Q : am_D → Prop} {σ : am_D} {v1 : Int} {v2 : Int} {Q' : Int → am_D → Prop} (hc : am_MI G d mX11_isGood [am_r (some 91)] σ Q') (k : ∀ (x : Int) (σ' : am_D), Q' x σ' → am_X (am_FV G (d + 1) Q) mX11_rule (0, 0) 66 [some (am_r (some 91)), some (am_i v1), some (am_i v2), none] [am_i x] (am_K0, σ')) : am_X (am_FV G (d + 1) Q) mX11_rule (0, 0) 62 [some (am_r (some 91)), some (am_i v1), some (am_i v2), none] [] (am_K0, σ) := by
  refine am_r_aload_n (nx := 63) rfl rfl (show decode cX11_rule 62 = .ok (.aload_n 0, 1) by decide +kernel) rfl ?_
  refine am_r_callV (as := []) (st := []) hc mb_X11_isGood mv_X11_isGood (Or.inl ml_X11_185) (ob_91) (by omega) (r := (RX11, TX11, 63)) rfl rfl rfl rfl (Nat.le_of_ble_eq_true rfl) ⟨Nat.le_refl _, Nat.le_refl _⟩ ⟨Nat.le_refl _, Nat.le_refl _⟩ (show decode cX11_rule 63 = .ok (.invokevirtual 185, 3) by decide +kernel) ?_
  rintro _ _ ⟨x, σ', rfl, rfl, hq⟩ _
  exact (k x σ' hq)
theorem S_X11_rule_66 {G : am_G} {d : Nat} {Q : am_D → Prop} {σ : am_D} {v1 : Int} {v2 : Int} {s0 : Int} (hr1 : -2147483648 ≤ s0 ∧ s0 ≤ 2147483647) (k1 : ¬ s0 = 0 → am_X (am_FV G (d + 1) Q) mX11_rule (0, 0) 70 [some (am_r (some 91)), some (am_i v1), some (am_i v2), none] [] (am_K0, σ)) (k2 : ¬ (¬ s0 = 0) → am_X (am_FV G (d + 1) Q) mX11_rule (0, 0) 69 [none, none, none, none] [] (am_K0, σ)) : am_X (am_FV G (d + 1) Q) mX11_rule (0, 0) 66 [some (am_r (some 91)), some (am_i v1), some (am_i v2), none] [am_i s0] (am_K0, σ) := by
  refine am_r_if_ne (tg := 70) (nx := 69) (show decode cX11_rule 66 = .ok (.ifCond .ne 4, 3) by decide +kernel) (by decide) rfl hr1 ?_ ?_
  · exact fun q => k1 q
  · exact fun q => am_x_fg [0, 1, 2] (k2 q)
theorem S_X11_rule_69 {G : am_G} {d : Nat} {Q : am_D → Prop} {σ : am_D}   (k : Q σ) : am_X (am_FV G (d + 1) Q) mX11_rule (0, 0) 69 [none, none, none, none] [] (am_K0, σ) := by
  exact am_r_vret rfl (show decode cX11_rule 69 = .ok (.return_, 1) by decide +kernel) ⟨_, rfl, rfl, k⟩
theorem S_X11_rule_70 {G : am_G} {d : Nat} {Q : am_D → Prop} {σ : am_D} {v1 : Int} {v2 : Int}  (k : am_X (am_FV G (d + 1) Q) mX11_rule (0, 0) 77 [some (am_r (some 91)), some (am_i v1), some (am_i v2), some (am_i (σ.1 96 5))] [] (am_K0, σ)) : am_X (am_FV G (d + 1) Q) mX11_rule (0, 0) 70 [some (am_r (some 91)), some (am_i v1), some (am_i v2), none] [] (am_K0, σ) := by
  refine am_r_aload_n (nx := 71) rfl rfl (show decode cX11_rule 70 = .ok (.aload_n 0, 1) by decide +kernel) rfl ?_
  refine am_r_getF (nx := 74) 10 cw11 (by decide) rfl (Or.inl fl_X11_24) (ob_91) (fn_91_10) (show decode cX11_rule 71 = .ok (.getfield 24, 3) by decide +kernel) rfl ?_
  refine am_r_iconst (nx := 75) (show decode cX11_rule 74 = .ok (.iconst 5, 1) by decide +kernel) rfl ?_
  refine am_r_iald (nx := 76) (sh_96) (am_shle (sh_96)) (by omega) (by omega) (show decode cX11_rule 75 = .ok (.iaload, 1) by decide +kernel) rfl ?_
  refine am_r_istore_n (nx := 77) rfl (by decide) rfl (show decode cX11_rule 76 = .ok (.istore_n 3, 1) by decide +kernel) rfl ?_
  exact k
theorem S_X11_rule_77 {G : am_G} {d : Nat} {Q : am_D → Prop} {σ : am_D} {v1 : Int} {v2 : Int} {v3 : Int}  (k : am_X (am_FV G (d + 1) Q) mX11_rule (0, 0) 87 [some (am_r (some 91)), some (am_i v1), some (am_i v2), some (am_i v3)] [] (am_K0, (am_pI σ 96 5 ((σ.1 96 5) + 1)))) : am_X (am_FV G (d + 1) Q) mX11_rule (0, 0) 77 [some (am_r (some 91)), some (am_i v1), some (am_i v2), some (am_i v3)] [] (am_K0, σ) := by
  refine am_r_aload_n (nx := 78) rfl rfl (show decode cX11_rule 77 = .ok (.aload_n 0, 1) by decide +kernel) rfl ?_
  refine am_r_getF (nx := 81) 10 cw11 (by decide) rfl (Or.inl fl_X11_24) (ob_91) (fn_91_10) (show decode cX11_rule 78 = .ok (.getfield 24, 3) by decide +kernel) rfl ?_
  refine am_r_iconst (nx := 82) (show decode cX11_rule 81 = .ok (.iconst 5, 1) by decide +kernel) rfl ?_
  refine am_r_dup2 (nx := 83) rfl rfl (show decode cX11_rule 82 = .ok (.dup2, 1) by decide +kernel) rfl ?_
  refine am_r_iald (nx := 84) (sh_96) (am_shle (sh_96)) (by omega) (by omega) (show decode cX11_rule 83 = .ok (.iaload, 1) by decide +kernel) rfl ?_
  refine am_r_iconst (nx := 85) (show decode cX11_rule 84 = .ok (.iconst 1, 1) by decide +kernel) rfl ?_
  refine am_r_iadd (nx := 86) (show decode cX11_rule 85 = .ok (.iadd, 1) by decide +kernel) rfl ?_
  refine am_r_iast (nx := 87) (sh_96) (am_shle (sh_96)) (by omega) (by omega) (show decode cX11_rule 86 = .ok (.iastore, 1) by decide +kernel) rfl ?_
  exact k
theorem S_X11_rule_87 {G : am_G} {d : Nat} {Q : am_D → Prop} {σ : am_D} {v1 : Int} {v2 : Int} {v3 : Int} (hi1 : 0 ≤ (120 + v3)) (hj2 : (120 + v3) < 144) (k : am_X (am_FV G (d + 1) Q) mX11_rule (0, 0) 97 [some (am_r (some 91)), some (am_i v1), some (am_i v2), some (am_i v3)] [] (am_K0, (am_pI σ 105 (120 + v3) 0))) : am_X (am_FV G (d + 1) Q) mX11_rule (0, 0) 87 [some (am_r (some 91)), some (am_i v1), some (am_i v2), some (am_i v3)] [] (am_K0, σ) := by
  refine am_r_aload_n (nx := 88) rfl rfl (show decode cX11_rule 87 = .ok (.aload_n 0, 1) by decide +kernel) rfl ?_
  refine am_r_getF (nx := 91) 19 cw11 (by decide) rfl (Or.inl fl_X11_51) (ob_91) (fn_91_19) (show decode cX11_rule 88 = .ok (.getfield 51, 3) by decide +kernel) rfl ?_
  refine am_r_bipush (nx := 93) rfl (show decode cX11_rule 91 = .ok (.bipush 120, 2) by decide +kernel) rfl ?_
  refine am_r_iload_n (nx := 94) rfl rfl (show decode cX11_rule 93 = .ok (.iload_n 3, 1) by decide +kernel) rfl ?_
  refine am_r_iadd (nx := 95) (show decode cX11_rule 94 = .ok (.iadd, 1) by decide +kernel) rfl ?_
  refine am_r_iconst (nx := 96) (show decode cX11_rule 95 = .ok (.iconst 0, 1) by decide +kernel) rfl ?_
  refine am_r_iast (nx := 97) (sh_105) (am_shle (sh_105)) hi1 hj2 (show decode cX11_rule 96 = .ok (.iastore, 1) by decide +kernel) rfl ?_
  exact k
theorem S_X11_rule_97 {G : am_G} {d : Nat} {Q : am_D → Prop} {σ : am_D} {v1 : Int} {v2 : Int} {v3 : Int}  (k : am_X (am_FV G (d + 1) Q) mX11_rule (0, 0) 102 [some (am_r (some 91)), some (am_i v1), some (am_i v2), some (am_i v3)] [] (am_K0, (am_pI σ 91 21 0))) : am_X (am_FV G (d + 1) Q) mX11_rule (0, 0) 97 [some (am_r (some 91)), some (am_i v1), some (am_i v2), some (am_i v3)] [] (am_K0, σ) := by
  refine am_r_aload_n (nx := 98) rfl rfl (show decode cX11_rule 97 = .ok (.aload_n 0, 1) by decide +kernel) rfl ?_
  refine am_r_iconst (nx := 99) (show decode cX11_rule 98 = .ok (.iconst 0, 1) by decide +kernel) rfl ?_
  refine am_r_putI (nx := 102) 21 cw11 (by decide) rfl (Or.inl fl_X11_219) (ob_91) rfl (Or.inl rfl) (show decode cX11_rule 99 = .ok (.putfield 219, 3) by decide +kernel) rfl ?_
  exact k
theorem S_X11_rule_102 {G : am_G} {d : Nat} {Q : am_D → Prop} {σ : am_D} {v1 : Int} {v2 : Int} {v3 : Int} {Q' : am_D → Prop} (hc : am_MV G d mX11_goes [am_r (some 91)] σ Q') (k : ∀ σ' : am_D, Q' σ' → am_X (am_FV G (d + 1) Q) mX11_rule (0, 0) 106 [some (am_r (some 91)), some (am_i v1), some (am_i v2), some (am_i v3)] [] (am_K0, σ')) : am_X (am_FV G (d + 1) Q) mX11_rule (0, 0) 102 [some (am_r (some 91)), some (am_i v1), some (am_i v2), some (am_i v3)] [] (am_K0, σ) := by
  refine am_r_aload_n (nx := 103) rfl rfl (show decode cX11_rule 102 = .ok (.aload_n 0, 1) by decide +kernel) rfl ?_
  refine am_r_callV (as := []) (st := []) hc mb_X11_goes mv_X11_goes (Or.inl ml_X11_182) (ob_91) (by omega) (r := (RX11, TX11, 63)) rfl rfl rfl rfl (Nat.le_of_ble_eq_true rfl) ⟨Nat.le_refl _, Nat.le_refl _⟩ ⟨Nat.le_refl _, Nat.le_refl _⟩ (show decode cX11_rule 103 = .ok (.invokevirtual 182, 3) by decide +kernel) ?_
  rintro _ _ ⟨σ', rfl, rfl, hq⟩ _
  exact (k σ' hq)
theorem S_X11_rule_106 {G : am_G} {d : Nat} {Q : am_D → Prop} {σ : am_D} {v1 : Int} {v2 : Int} {v3 : Int} (hr1 : -2147483648 ≤ v1 ∧ v1 ≤ 2147483647) (k1 : v1 = 0 → am_X (am_FV G (d + 1) Q) mX11_rule (0, 0) 117 [some (am_r (some 91)), none, some (am_i v2), some (am_i v3)] [] (am_K0, σ)) (k2 : ¬ (v1 = 0) → am_X (am_FV G (d + 1) Q) mX11_rule (0, 0) 110 [some (am_r (some 91)), none, none, none] [] (am_K0, σ)) : am_X (am_FV G (d + 1) Q) mX11_rule (0, 0) 106 [some (am_r (some 91)), some (am_i v1), some (am_i v2), some (am_i v3)] [] (am_K0, σ) := by
  refine am_r_iload_n (nx := 107) rfl rfl (show decode cX11_rule 106 = .ok (.iload_n 1, 1) by decide +kernel) rfl ?_
  refine am_r_if_eq (tg := 117) (nx := 110) (show decode cX11_rule 107 = .ok (.ifCond .eq 10, 3) by decide +kernel) (by decide) rfl hr1 ?_ ?_
  · exact fun q => am_x_fg [1] (k1 q)
  · exact fun q => am_x_fg [1, 2, 3] (k2 q)
theorem S_X11_rule_110 {G : am_G} {d : Nat} {Q : am_D → Prop} {σ : am_D} {Q' : am_D → Prop} (hc : am_MV G d mX11_openRule [am_r (some 91)] σ Q') (k : ∀ σ' : am_D, Q' σ' → am_X (am_FV G (d + 1) Q) mX11_rule (0, 0) 114 [none, none, none, none] [] (am_K0, σ')) : am_X (am_FV G (d + 1) Q) mX11_rule (0, 0) 110 [some (am_r (some 91)), none, none, none] [] (am_K0, σ) := by
  refine am_r_aload_n (nx := 111) rfl rfl (show decode cX11_rule 110 = .ok (.aload_n 0, 1) by decide +kernel) rfl ?_
  refine am_r_callV (as := []) (st := []) hc mb_X11_openRule mv_X11_openRule (Or.inl ml_X11_267) (ob_91) (by omega) (r := (RX11, TX11, 63)) rfl rfl rfl rfl (Nat.le_of_ble_eq_true rfl) ⟨Nat.le_refl _, Nat.le_refl _⟩ ⟨Nat.le_refl _, Nat.le_refl _⟩ (show decode cX11_rule 111 = .ok (.invokevirtual 267, 3) by decide +kernel) ?_
  rintro _ _ ⟨σ', rfl, rfl, hq⟩ _
  exact am_x_fg [0] (k σ' hq)
theorem S_X11_rule_114 {G : am_G} {d : Nat} {Q : am_D → Prop} {σ : am_D}   (k : am_X (am_FV G (d + 1) Q) mX11_rule (0, 0) 134 [none, none, none, none] [] (am_K0, σ)) : am_X (am_FV G (d + 1) Q) mX11_rule (0, 0) 114 [none, none, none, none] [] (am_K0, σ) := by
  refine am_r_goto (tg := 134) (show decode cX11_rule 114 = .ok (.goto 20, 3) by decide +kernel) (by decide) ?_
  exact k
theorem S_X11_rule_117 {G : am_G} {d : Nat} {Q : am_D → Prop} {σ : am_D} {v2 : Int} {v3 : Int} (hr1 : -2147483648 ≤ v2 ∧ v2 ≤ 2147483647) (k1 : v2 = 0 → am_X (am_FV G (d + 1) Q) mX11_rule (0, 0) 129 [some (am_r (some 91)), none, none, some (am_i v3)] [] (am_K0, σ)) (k2 : ¬ (v2 = 0) → am_X (am_FV G (d + 1) Q) mX11_rule (0, 0) 121 [some (am_r (some 91)), none, none, some (am_i v3)] [] (am_K0, σ)) : am_X (am_FV G (d + 1) Q) mX11_rule (0, 0) 117 [some (am_r (some 91)), none, some (am_i v2), some (am_i v3)] [] (am_K0, σ) := by
  refine am_r_iload_n (nx := 118) rfl rfl (show decode cX11_rule 117 = .ok (.iload_n 2, 1) by decide +kernel) rfl ?_
  refine am_r_if_eq (tg := 129) (nx := 121) (show decode cX11_rule 118 = .ok (.ifCond .eq 11, 3) by decide +kernel) (by decide) rfl hr1 ?_ ?_
  · exact fun q => am_x_fg [2] (k1 q)
  · exact fun q => am_x_fg [2] (k2 q)
theorem S_X11_rule_121 {G : am_G} {d : Nat} {Q : am_D → Prop} {σ : am_D} {v3 : Int} {Q' : am_D → Prop} (hc : am_MV G d mX11_closeRule [am_r (some 91), am_i v3] σ Q') (k : ∀ σ' : am_D, Q' σ' → am_X (am_FV G (d + 1) Q) mX11_rule (0, 0) 126 [none, none, none, none] [] (am_K0, σ')) : am_X (am_FV G (d + 1) Q) mX11_rule (0, 0) 121 [some (am_r (some 91)), none, none, some (am_i v3)] [] (am_K0, σ) := by
  refine am_r_aload_n (nx := 122) rfl rfl (show decode cX11_rule 121 = .ok (.aload_n 0, 1) by decide +kernel) rfl ?_
  refine am_r_iload_n (nx := 123) rfl rfl (show decode cX11_rule 122 = .ok (.iload_n 3, 1) by decide +kernel) rfl ?_
  refine am_r_callV (as := [am_i v3]) (st := []) hc mb_X11_closeRule mv_X11_closeRule (Or.inl ml_X11_270) (ob_91) (by omega) (r := (RX11, TX11, 63)) rfl rfl rfl rfl (Nat.le_of_ble_eq_true rfl) ⟨Nat.le_refl _, Nat.le_refl _⟩ ⟨Nat.le_refl _, Nat.le_refl _⟩ (show decode cX11_rule 123 = .ok (.invokevirtual 270, 3) by decide +kernel) ?_
  rintro _ _ ⟨σ', rfl, rfl, hq⟩ _
  exact am_x_fg [0, 3] (k σ' hq)
theorem S_X11_rule_126 {G : am_G} {d : Nat} {Q : am_D → Prop} {σ : am_D}   (k : am_X (am_FV G (d + 1) Q) mX11_rule (0, 0) 134 [none, none, none, none] [] (am_K0, σ)) : am_X (am_FV G (d + 1) Q) mX11_rule (0, 0) 126 [none, none, none, none] [] (am_K0, σ) := by
  refine am_r_goto (tg := 134) (show decode cX11_rule 126 = .ok (.goto 8, 3) by decide +kernel) (by decide) ?_
  exact k
theorem S_X11_rule_129 {G : am_G} {d : Nat} {Q : am_D → Prop} {σ : am_D} {v3 : Int} {Q' : am_D → Prop} (hc : am_MV G d mX11_endsRule [am_r (some 91), am_i v3] σ Q') (k : ∀ σ' : am_D, Q' σ' → am_X (am_FV G (d + 1) Q) mX11_rule (0, 0) 134 [none, none, none, none] [] (am_K0, σ')) : am_X (am_FV G (d + 1) Q) mX11_rule (0, 0) 129 [some (am_r (some 91)), none, none, some (am_i v3)] [] (am_K0, σ) := by
  refine am_r_aload_n (nx := 130) rfl rfl (show decode cX11_rule 129 = .ok (.aload_n 0, 1) by decide +kernel) rfl ?_
  refine am_r_iload_n (nx := 131) rfl rfl (show decode cX11_rule 130 = .ok (.iload_n 3, 1) by decide +kernel) rfl ?_
  refine am_r_callV (as := [am_i v3]) (st := []) hc mb_X11_endsRule mv_X11_endsRule (Or.inl ml_X11_272) (ob_91) (by omega) (r := (RX11, TX11, 63)) rfl rfl rfl rfl (Nat.le_of_ble_eq_true rfl) ⟨Nat.le_refl _, Nat.le_refl _⟩ ⟨Nat.le_refl _, Nat.le_refl _⟩ (show decode cX11_rule 131 = .ok (.invokevirtual 272, 3) by decide +kernel) ?_
  rintro _ _ ⟨σ', rfl, rfl, hq⟩ _
  exact am_x_fg [0, 3] (k σ' hq)
theorem S_X11_rule_134 {G : am_G} {d : Nat} {Q : am_D → Prop} {σ : am_D}   (k : Q σ) : am_X (am_FV G (d + 1) Q) mX11_rule (0, 0) 134 [none, none, none, none] [] (am_K0, σ) := by
  exact am_r_vret rfl (show decode cX11_rule 134 = .ok (.return_, 1) by decide +kernel) ⟨_, rfl, rfl, k⟩
theorem S_X11_machine_0 {G : am_G} {d : Nat} {Q : Int → am_D → Prop} {σ : am_D} {v1 : Int} {Q' : Int → am_D → Prop} (hc : am_MI G d mX11_isIn [am_i v1, am_i 0, am_i 3] σ Q') (k : ∀ (x : Int) (σ' : am_D), Q' x σ' → am_X (am_FI G (d + 1) Q) mX11_machine (0, 0) 6 [some (am_r (some 91)), some (am_i v1)] [am_i x] (am_K0, σ')) : am_X (am_FI G (d + 1) Q) mX11_machine (0, 0) 0 [some (am_r (some 91)), some (am_i v1)] [] (am_K0, σ) := by
  refine am_r_iload_n (nx := 1) rfl rfl (show decode cX11_machine 0 = .ok (.iload_n 1, 1) by decide +kernel) rfl ?_
  refine am_r_iconst (nx := 2) (show decode cX11_machine 1 = .ok (.iconst 0, 1) by decide +kernel) rfl ?_
  refine am_r_iconst (nx := 3) (show decode cX11_machine 2 = .ok (.iconst 3, 1) by decide +kernel) rfl ?_
  refine am_r_callS (as := [am_i v1, am_i 0, am_i 3]) (st := []) hc mb_X11_isIn mv_X11_isIn (Or.inl ml_X11_156) rfl rfl (Nat.le_of_ble_eq_true rfl) ⟨Nat.le_refl _, Nat.le_refl _⟩ ⟨Nat.le_refl _, Nat.le_refl _⟩ (show decode cX11_machine 3 = .ok (.invokestatic 156, 3) by decide +kernel) ?_
  rintro _ _ ⟨x, σ', rfl, rfl, hq⟩ _
  exact (k x σ' hq)
theorem S_X11_machine_6 {G : am_G} {d : Nat} {Q : Int → am_D → Prop} {σ : am_D} {v1 : Int} {s0 : Int} (hr1 : -2147483648 ≤ s0 ∧ s0 ≤ 2147483647) (k1 : ¬ s0 = 0 → am_X (am_FI G (d + 1) Q) mX11_machine (0, 0) 11 [some (am_r (some 91)), some (am_i v1)] [] (am_K0, σ)) (k2 : ¬ (¬ s0 = 0) → am_X (am_FI G (d + 1) Q) mX11_machine (0, 0) 9 [none, none] [] (am_K0, σ)) : am_X (am_FI G (d + 1) Q) mX11_machine (0, 0) 6 [some (am_r (some 91)), some (am_i v1)] [am_i s0] (am_K0, σ) := by
  refine am_r_if_ne (tg := 11) (nx := 9) (show decode cX11_machine 6 = .ok (.ifCond .ne 5, 3) by decide +kernel) (by decide) rfl hr1 ?_ ?_
  · exact fun q => k1 q
  · exact fun q => am_x_fg [0, 1] (k2 q)
theorem S_X11_machine_9 {G : am_G} {d : Nat} {Q : Int → am_D → Prop} {σ : am_D}   (k : Q (-1) σ) : am_X (am_FI G (d + 1) Q) mX11_machine (0, 0) 9 [none, none] [] (am_K0, σ) := by
  refine am_r_iconst (nx := 10) (show decode cX11_machine 9 = .ok (.iconst (-1), 1) by decide +kernel) rfl ?_
  exact am_r_iret rfl rfl (show decode cX11_machine 10 = .ok (.ireturn, 1) by decide +kernel) ⟨_, _, rfl, rfl, k⟩
theorem S_X11_machine_11 {G : am_G} {d : Nat} {Q : Int → am_D → Prop} {σ : am_D} {v1 : Int} {Q' : am_D → Prop} (hc : am_MV G d mX11_begins [am_r (some 91)] σ Q') (k : ∀ σ' : am_D, Q' σ' → am_X (am_FI G (d + 1) Q) mX11_machine (0, 0) 15 [some (am_r (some 91)), some (am_i v1)] [] (am_K0, σ')) : am_X (am_FI G (d + 1) Q) mX11_machine (0, 0) 11 [some (am_r (some 91)), some (am_i v1)] [] (am_K0, σ) := by
  refine am_r_aload_n (nx := 12) rfl rfl (show decode cX11_machine 11 = .ok (.aload_n 0, 1) by decide +kernel) rfl ?_
  refine am_r_callV (as := []) (st := []) hc mb_X11_begins mv_X11_begins (Or.inl ml_X11_275) (ob_91) (by omega) (r := (RX11, TX11, 63)) rfl rfl rfl rfl (Nat.le_of_ble_eq_true rfl) ⟨Nat.le_refl _, Nat.le_refl _⟩ ⟨Nat.le_refl _, Nat.le_refl _⟩ (show decode cX11_machine 12 = .ok (.invokevirtual 275, 3) by decide +kernel) ?_
  rintro _ _ ⟨σ', rfl, rfl, hq⟩ _
  exact (k σ' hq)
theorem S_X11_machine_15 {G : am_G} {d : Nat} {Q : Int → am_D → Prop} {σ : am_D} {v1 : Int} {Q' : am_D → Prop} (hc : am_MV G d mX11_clears [am_r (some 91), am_i 5] σ Q') (k : ∀ σ' : am_D, Q' σ' → am_X (am_FI G (d + 1) Q) mX11_machine (0, 0) 20 [some (am_r (some 91)), some (am_i v1)] [] (am_K0, σ')) : am_X (am_FI G (d + 1) Q) mX11_machine (0, 0) 15 [some (am_r (some 91)), some (am_i v1)] [] (am_K0, σ) := by
  refine am_r_aload_n (nx := 16) rfl rfl (show decode cX11_machine 15 = .ok (.aload_n 0, 1) by decide +kernel) rfl ?_
  refine am_r_iconst (nx := 17) (show decode cX11_machine 16 = .ok (.iconst 5, 1) by decide +kernel) rfl ?_
  refine am_r_callV (as := [am_i 5]) (st := []) hc mb_X11_clears mv_X11_clears (Or.inl ml_X11_278) (ob_91) (by omega) (r := (RX11, TX11, 63)) rfl rfl rfl rfl (Nat.le_of_ble_eq_true rfl) ⟨Nat.le_refl _, Nat.le_refl _⟩ ⟨Nat.le_refl _, Nat.le_refl _⟩ (show decode cX11_machine 17 = .ok (.invokevirtual 278, 3) by decide +kernel) ?_
  rintro _ _ ⟨σ', rfl, rfl, hq⟩ _
  exact (k σ' hq)
theorem S_X11_machine_20 {G : am_G} {d : Nat} {Q : Int → am_D → Prop} {σ : am_D} {v1 : Int} {Q' : Int → am_D → Prop} (hc : am_MI G d mX11_isWord [am_r (some 91), am_s 0] σ Q') (k : ∀ (x : Int) (σ' : am_D), Q' x σ' → am_X (am_FI G (d + 1) Q) mX11_machine (0, 0) 27 [some (am_r (some 91)), some (am_i v1)] [am_i x] (am_K0, σ')) : am_X (am_FI G (d + 1) Q) mX11_machine (0, 0) 20 [some (am_r (some 91)), some (am_i v1)] [] (am_K0, σ) := by
  refine am_r_aload_n (nx := 21) rfl rfl (show decode cX11_machine 20 = .ok (.aload_n 0, 1) by decide +kernel) rfl ?_
  refine am_r_ldc_wS (nx := 24) (i := 0) (tx := "machine") (by decide +kernel) (show decode cX11_machine 21 = .ok (.ldc_w 281, 3) by decide +kernel) rfl ?_
  refine am_r_callV (as := [am_s 0]) (st := []) hc mb_X11_isWord mv_X11_isWord (Or.inl ml_X11_207) (ob_91) (by omega) (r := (RX11, TX11, 63)) rfl rfl rfl rfl (Nat.le_of_ble_eq_true rfl) ⟨Nat.le_refl _, Nat.le_refl _⟩ ⟨Nat.le_refl _, Nat.le_refl _⟩ (show decode cX11_machine 24 = .ok (.invokevirtual 207, 3) by decide +kernel) ?_
  rintro _ _ ⟨x, σ', rfl, rfl, hq⟩ _
  exact (k x σ' hq)
theorem S_X11_machine_27 {G : am_G} {d : Nat} {Q : Int → am_D → Prop} {σ : am_D} {v1 : Int} {s0 : Int} (hr1 : -2147483648 ≤ s0 ∧ s0 ≤ 2147483647) (k1 : ¬ s0 = 0 → am_X (am_FI G (d + 1) Q) mX11_machine (0, 0) 38 [some (am_r (some 91)), some (am_i v1)] [] (am_K0, σ)) (k2 : ¬ (¬ s0 = 0) → am_X (am_FI G (d + 1) Q) mX11_machine (0, 0) 30 [some (am_r (some 91)), some (am_i v1)] [] (am_K0, σ)) : am_X (am_FI G (d + 1) Q) mX11_machine (0, 0) 27 [some (am_r (some 91)), some (am_i v1)] [am_i s0] (am_K0, σ) := by
  refine am_r_if_ne (tg := 38) (nx := 30) (show decode cX11_machine 27 = .ok (.ifCond .ne 11, 3) by decide +kernel) (by decide) rfl hr1 ?_ ?_
  · exact fun q => k1 q
  · exact fun q => k2 q
theorem S_X11_machine_30 {G : am_G} {d : Nat} {Q : Int → am_D → Prop} {σ : am_D} {v1 : Int} {Q' : am_D → Prop} (hc : am_MV G d mX11_fails [am_r (some 91), am_i 1] σ Q') (k : ∀ σ' : am_D, Q' σ' → am_X (am_FI G (d + 1) Q) mX11_machine (0, 0) 35 [some (am_r (some 91)), some (am_i v1)] [] (am_K0, σ')) : am_X (am_FI G (d + 1) Q) mX11_machine (0, 0) 30 [some (am_r (some 91)), some (am_i v1)] [] (am_K0, σ) := by
  refine am_r_aload_n (nx := 31) rfl rfl (show decode cX11_machine 30 = .ok (.aload_n 0, 1) by decide +kernel) rfl ?_
  refine am_r_iconst (nx := 32) (show decode cX11_machine 31 = .ok (.iconst 1, 1) by decide +kernel) rfl ?_
  refine am_r_callV (as := [am_i 1]) (st := []) hc mb_X11_fails mv_X11_fails (Or.inl ml_X11_202) (ob_91) (by omega) (r := (RX11, TX11, 63)) rfl rfl rfl rfl (Nat.le_of_ble_eq_true rfl) ⟨Nat.le_refl _, Nat.le_refl _⟩ ⟨Nat.le_refl _, Nat.le_refl _⟩ (show decode cX11_machine 32 = .ok (.invokevirtual 202, 3) by decide +kernel) ?_
  rintro _ _ ⟨σ', rfl, rfl, hq⟩ _
  exact (k σ' hq)
theorem S_X11_machine_35 {G : am_G} {d : Nat} {Q : Int → am_D → Prop} {σ : am_D} {v1 : Int}  (k : am_X (am_FI G (d + 1) Q) mX11_machine (0, 0) 42 [some (am_r (some 91)), some (am_i v1)] [] (am_K0, σ)) : am_X (am_FI G (d + 1) Q) mX11_machine (0, 0) 35 [some (am_r (some 91)), some (am_i v1)] [] (am_K0, σ) := by
  refine am_r_goto (tg := 42) (show decode cX11_machine 35 = .ok (.goto 7, 3) by decide +kernel) (by decide) ?_
  exact k
theorem S_X11_machine_38 {G : am_G} {d : Nat} {Q : Int → am_D → Prop} {σ : am_D} {v1 : Int} {Q' : am_D → Prop} (hc : am_MV G d mX11_goes [am_r (some 91)] σ Q') (k : ∀ σ' : am_D, Q' σ' → am_X (am_FI G (d + 1) Q) mX11_machine (0, 0) 42 [some (am_r (some 91)), some (am_i v1)] [] (am_K0, σ')) : am_X (am_FI G (d + 1) Q) mX11_machine (0, 0) 38 [some (am_r (some 91)), some (am_i v1)] [] (am_K0, σ) := by
  refine am_r_aload_n (nx := 39) rfl rfl (show decode cX11_machine 38 = .ok (.aload_n 0, 1) by decide +kernel) rfl ?_
  refine am_r_callV (as := []) (st := []) hc mb_X11_goes mv_X11_goes (Or.inl ml_X11_182) (ob_91) (by omega) (r := (RX11, TX11, 63)) rfl rfl rfl rfl (Nat.le_of_ble_eq_true rfl) ⟨Nat.le_refl _, Nat.le_refl _⟩ ⟨Nat.le_refl _, Nat.le_refl _⟩ (show decode cX11_machine 39 = .ok (.invokevirtual 182, 3) by decide +kernel) ?_
  rintro _ _ ⟨σ', rfl, rfl, hq⟩ _
  exact (k σ' hq)
theorem S_X11_machine_42 {G : am_G} {d : Nat} {Q : Int → am_D → Prop} {σ : am_D} {v1 : Int} {Q' : Int → am_D → Prop} (hc : am_MI G d mX11_number [am_r (some 91), am_i 1, am_i 6] σ Q') (k : ∀ (x : Int) (σ' : am_D), Q' x σ' → am_X (am_FI G (d + 1) Q) mX11_machine (0, 0) 54 [some (am_r (some 91)), some (am_i v1)] [am_i x, am_i 5, am_r (some 94)] (am_K0, σ')) : am_X (am_FI G (d + 1) Q) mX11_machine (0, 0) 42 [some (am_r (some 91)), some (am_i v1)] [] (am_K0, σ) := by
  refine am_r_aload_n (nx := 43) rfl rfl (show decode cX11_machine 42 = .ok (.aload_n 0, 1) by decide +kernel) rfl ?_
  refine am_r_getF (nx := 46) 8 cw11 (by decide) rfl (Or.inl fl_X11_17) (ob_91) (fn_91_8) (show decode cX11_machine 43 = .ok (.getfield 17, 3) by decide +kernel) rfl ?_
  refine am_r_iconst (nx := 47) (show decode cX11_machine 46 = .ok (.iconst 5, 1) by decide +kernel) rfl ?_
  refine am_r_aload_n (nx := 48) rfl rfl (show decode cX11_machine 47 = .ok (.aload_n 0, 1) by decide +kernel) rfl ?_
  refine am_r_iconst (nx := 49) (show decode cX11_machine 48 = .ok (.iconst 1, 1) by decide +kernel) rfl ?_
  refine am_r_bipush (nx := 51) rfl (show decode cX11_machine 49 = .ok (.bipush 6, 2) by decide +kernel) rfl ?_
  refine am_r_callV (as := [am_i 1, am_i 6]) (st := [am_i 5, am_r (some 94)]) hc mb_X11_number mv_X11_number (Or.inl ml_X11_250) (ob_91) (by omega) (r := (RX11, TX11, 63)) rfl rfl rfl rfl (Nat.le_of_ble_eq_true rfl) ⟨Nat.le_refl _, Nat.le_refl _⟩ ⟨Nat.le_refl _, Nat.le_refl _⟩ (show decode cX11_machine 51 = .ok (.invokevirtual 250, 3) by decide +kernel) ?_
  rintro _ _ ⟨x, σ', rfl, rfl, hq⟩ _
  exact (k x σ' hq)
theorem S_X11_machine_54 {G : am_G} {d : Nat} {Q : Int → am_D → Prop} {σ : am_D} {v1 : Int} {s1 : Int} {s2 : Int} {s0 : Nat} {n1 : Nat} (hs2 : am_sh am_SH s0 = (100, n1)) (hi3 : 0 ≤ s1) (hj4 : s1 < ((n1 : Nat) : Int)) (k : am_X (am_FI G (d + 1) Q) mX11_machine (0, 0) 55 [some (am_r (some 91)), some (am_i v1)] [] (am_K0, (am_pI σ s0 s1 s2))) : am_X (am_FI G (d + 1) Q) mX11_machine (0, 0) 54 [some (am_r (some 91)), some (am_i v1)] [am_i s2, am_i s1, am_r (some s0)] (am_K0, σ) := by
  refine am_r_iast (nx := 55) (hs2) (am_shle (hs2)) hi3 hj4 (show decode cX11_machine 54 = .ok (.iastore, 1) by decide +kernel) rfl ?_
  exact k
theorem S_X11_machine_55 {G : am_G} {d : Nat} {Q : Int → am_D → Prop} {σ : am_D} {v1 : Int} {Q' : Int → am_D → Prop} (hc : am_MI G d mX11_number [am_r (some 91), am_i 1, am_i 3] σ Q') (k : ∀ (x : Int) (σ' : am_D), Q' x σ' → am_X (am_FI G (d + 1) Q) mX11_machine (0, 0) 66 [some (am_r (some 91)), some (am_i v1)] [am_i x, am_i 5, am_r (some 95)] (am_K0, σ')) : am_X (am_FI G (d + 1) Q) mX11_machine (0, 0) 55 [some (am_r (some 91)), some (am_i v1)] [] (am_K0, σ) := by
  refine am_r_aload_n (nx := 56) rfl rfl (show decode cX11_machine 55 = .ok (.aload_n 0, 1) by decide +kernel) rfl ?_
  refine am_r_getF (nx := 59) 9 cw11 (by decide) rfl (Or.inl fl_X11_21) (ob_91) (fn_91_9) (show decode cX11_machine 56 = .ok (.getfield 21, 3) by decide +kernel) rfl ?_
  refine am_r_iconst (nx := 60) (show decode cX11_machine 59 = .ok (.iconst 5, 1) by decide +kernel) rfl ?_
  refine am_r_aload_n (nx := 61) rfl rfl (show decode cX11_machine 60 = .ok (.aload_n 0, 1) by decide +kernel) rfl ?_
  refine am_r_iconst (nx := 62) (show decode cX11_machine 61 = .ok (.iconst 1, 1) by decide +kernel) rfl ?_
  refine am_r_iconst (nx := 63) (show decode cX11_machine 62 = .ok (.iconst 3, 1) by decide +kernel) rfl ?_
  refine am_r_callV (as := [am_i 1, am_i 3]) (st := [am_i 5, am_r (some 95)]) hc mb_X11_number mv_X11_number (Or.inl ml_X11_250) (ob_91) (by omega) (r := (RX11, TX11, 63)) rfl rfl rfl rfl (Nat.le_of_ble_eq_true rfl) ⟨Nat.le_refl _, Nat.le_refl _⟩ ⟨Nat.le_refl _, Nat.le_refl _⟩ (show decode cX11_machine 63 = .ok (.invokevirtual 250, 3) by decide +kernel) ?_
  rintro _ _ ⟨x, σ', rfl, rfl, hq⟩ _
  exact (k x σ' hq)
theorem S_X11_machine_66 {G : am_G} {d : Nat} {Q : Int → am_D → Prop} {σ : am_D} {v1 : Int} {s1 : Int} {s2 : Int} {s0 : Nat} {n1 : Nat} (hs2 : am_sh am_SH s0 = (100, n1)) (hi3 : 0 ≤ s1) (hj4 : s1 < ((n1 : Nat) : Int)) (k : am_X (am_FI G (d + 1) Q) mX11_machine (0, 0) 67 [some (am_r (some 91)), some (am_i v1)] [] (am_K0, (am_pI σ s0 s1 s2))) : am_X (am_FI G (d + 1) Q) mX11_machine (0, 0) 66 [some (am_r (some 91)), some (am_i v1)] [am_i s2, am_i s1, am_r (some s0)] (am_K0, σ) := by
  refine am_r_iast (nx := 67) (hs2) (am_shle (hs2)) hi3 hj4 (show decode cX11_machine 66 = .ok (.iastore, 1) by decide +kernel) rfl ?_
  exact k
theorem S_X11_machine_67 {G : am_G} {d : Nat} {Q : Int → am_D → Prop} {σ : am_D} {v1 : Int} {Q' : Int → am_D → Prop} (hc : am_MI G d mX11_isSign [am_r (some 91), am_i 59] σ Q') (k : ∀ (x : Int) (σ' : am_D), Q' x σ' → am_X (am_FI G (d + 1) Q) mX11_machine (0, 0) 73 [some (am_r (some 91)), some (am_i v1)] [am_i x] (am_K0, σ')) : am_X (am_FI G (d + 1) Q) mX11_machine (0, 0) 67 [some (am_r (some 91)), some (am_i v1)] [] (am_K0, σ) := by
  refine am_r_aload_n (nx := 68) rfl rfl (show decode cX11_machine 67 = .ok (.aload_n 0, 1) by decide +kernel) rfl ?_
  refine am_r_bipush (nx := 70) rfl (show decode cX11_machine 68 = .ok (.bipush 59, 2) by decide +kernel) rfl ?_
  refine am_r_callV (as := [am_i 59]) (st := []) hc mb_X11_isSign mv_X11_isSign (Or.inl ml_X11_199) (ob_91) (by omega) (r := (RX11, TX11, 63)) rfl rfl rfl rfl (Nat.le_of_ble_eq_true rfl) ⟨Nat.le_refl _, Nat.le_refl _⟩ ⟨Nat.le_refl _, Nat.le_refl _⟩ (show decode cX11_machine 70 = .ok (.invokevirtual 199, 3) by decide +kernel) ?_
  rintro _ _ ⟨x, σ', rfl, rfl, hq⟩ _
  exact (k x σ' hq)
theorem S_X11_machine_73 {G : am_G} {d : Nat} {Q : Int → am_D → Prop} {σ : am_D} {v1 : Int} {s0 : Int} (hr1 : -2147483648 ≤ s0 ∧ s0 ≤ 2147483647) (k1 : s0 = 0 → am_X (am_FI G (d + 1) Q) mX11_machine (0, 0) 87 [some (am_r (some 91)), some (am_i v1)] [] (am_K0, σ)) (k2 : ¬ (s0 = 0) → am_X (am_FI G (d + 1) Q) mX11_machine (0, 0) 76 [some (am_r (some 91)), some (am_i v1)] [] (am_K0, σ)) : am_X (am_FI G (d + 1) Q) mX11_machine (0, 0) 73 [some (am_r (some 91)), some (am_i v1)] [am_i s0] (am_K0, σ) := by
  refine am_r_if_eq (tg := 87) (nx := 76) (show decode cX11_machine 73 = .ok (.ifCond .eq 14, 3) by decide +kernel) (by decide) rfl hr1 ?_ ?_
  · exact fun q => k1 q
  · exact fun q => k2 q
theorem S_X11_machine_76 {G : am_G} {d : Nat} {Q : Int → am_D → Prop} {σ : am_D} {v1 : Int} {Q' : am_D → Prop} (hc : am_MV G d mX11_goes [am_r (some 91)] σ Q') (k : ∀ σ' : am_D, Q' σ' → am_X (am_FI G (d + 1) Q) mX11_machine (0, 0) 80 [some (am_r (some 91)), some (am_i v1)] [] (am_K0, σ')) : am_X (am_FI G (d + 1) Q) mX11_machine (0, 0) 76 [some (am_r (some 91)), some (am_i v1)] [] (am_K0, σ) := by
  refine am_r_aload_n (nx := 77) rfl rfl (show decode cX11_machine 76 = .ok (.aload_n 0, 1) by decide +kernel) rfl ?_
  refine am_r_callV (as := []) (st := []) hc mb_X11_goes mv_X11_goes (Or.inl ml_X11_182) (ob_91) (by omega) (r := (RX11, TX11, 63)) rfl rfl rfl rfl (Nat.le_of_ble_eq_true rfl) ⟨Nat.le_refl _, Nat.le_refl _⟩ ⟨Nat.le_refl _, Nat.le_refl _⟩ (show decode cX11_machine 77 = .ok (.invokevirtual 182, 3) by decide +kernel) ?_
  rintro _ _ ⟨σ', rfl, rfl, hq⟩ _
  exact (k σ' hq)
theorem S_X11_machine_80 {G : am_G} {d : Nat} {Q : Int → am_D → Prop} {σ : am_D} {v1 : Int} {Q' : am_D → Prop} (hc : am_MV G d mX11_rule [am_r (some 91)] σ Q') (k : ∀ σ' : am_D, Q' σ' → am_X (am_FI G (d + 1) Q) mX11_machine (0, 0) 84 [some (am_r (some 91)), some (am_i v1)] [] (am_K0, σ')) : am_X (am_FI G (d + 1) Q) mX11_machine (0, 0) 80 [some (am_r (some 91)), some (am_i v1)] [] (am_K0, σ) := by
  refine am_r_aload_n (nx := 81) rfl rfl (show decode cX11_machine 80 = .ok (.aload_n 0, 1) by decide +kernel) rfl ?_
  refine am_r_callV (as := []) (st := []) hc mb_X11_rule mv_X11_rule (Or.inl ml_X11_283) (ob_91) (by omega) (r := (RX11, TX11, 63)) rfl rfl rfl rfl (Nat.le_of_ble_eq_true rfl) ⟨Nat.le_refl _, Nat.le_refl _⟩ ⟨Nat.le_refl _, Nat.le_refl _⟩ (show decode cX11_machine 81 = .ok (.invokevirtual 283, 3) by decide +kernel) ?_
  rintro _ _ ⟨σ', rfl, rfl, hq⟩ _
  exact (k σ' hq)
theorem S_X11_machine_84 {G : am_G} {d : Nat} {Q : Int → am_D → Prop} {σ : am_D} {v1 : Int}  (k : am_X (am_FI G (d + 1) Q) mX11_machine (0, 0) 67 [some (am_r (some 91)), some (am_i v1)] [] (am_K0, σ)) : am_X (am_FI G (d + 1) Q) mX11_machine (0, 0) 84 [some (am_r (some 91)), some (am_i v1)] [] (am_K0, σ) := by
  refine am_r_goto (tg := 67) (show decode cX11_machine 84 = .ok (.goto (-17), 3) by decide +kernel) (by decide) ?_
  exact k
theorem S_X11_machine_87 {G : am_G} {d : Nat} {Q : Int → am_D → Prop} {σ : am_D} {v1 : Int} {Q' : Int → am_D → Prop} (hc : am_MI G d mX11_isGood [am_r (some 91)] σ Q') (k : ∀ (x : Int) (σ' : am_D), Q' x σ' → am_X (am_FI G (d + 1) Q) mX11_machine (0, 0) 91 [some (am_r (some 91)), some (am_i v1)] [am_i x] (am_K0, σ')) : am_X (am_FI G (d + 1) Q) mX11_machine (0, 0) 87 [some (am_r (some 91)), some (am_i v1)] [] (am_K0, σ) := by
  refine am_r_aload_n (nx := 88) rfl rfl (show decode cX11_machine 87 = .ok (.aload_n 0, 1) by decide +kernel) rfl ?_
  refine am_r_callV (as := []) (st := []) hc mb_X11_isGood mv_X11_isGood (Or.inl ml_X11_185) (ob_91) (by omega) (r := (RX11, TX11, 63)) rfl rfl rfl rfl (Nat.le_of_ble_eq_true rfl) ⟨Nat.le_refl _, Nat.le_refl _⟩ ⟨Nat.le_refl _, Nat.le_refl _⟩ (show decode cX11_machine 88 = .ok (.invokevirtual 185, 3) by decide +kernel) ?_
  rintro _ _ ⟨x, σ', rfl, rfl, hq⟩ _
  exact (k x σ' hq)
theorem S_X11_machine_91 {G : am_G} {d : Nat} {Q : Int → am_D → Prop} {σ : am_D} {v1 : Int} {s0 : Int} (hr1 : -2147483648 ≤ s0 ∧ s0 ≤ 2147483647) (k1 : s0 = 0 → am_X (am_FI G (d + 1) Q) mX11_machine (0, 0) 106 [some (am_r (some 91)), some (am_i v1)] [] (am_K0, σ)) (k2 : ¬ (s0 = 0) → am_X (am_FI G (d + 1) Q) mX11_machine (0, 0) 94 [some (am_r (some 91)), some (am_i v1)] [] (am_K0, σ)) : am_X (am_FI G (d + 1) Q) mX11_machine (0, 0) 91 [some (am_r (some 91)), some (am_i v1)] [am_i s0] (am_K0, σ) := by
  refine am_r_if_eq (tg := 106) (nx := 94) (show decode cX11_machine 91 = .ok (.ifCond .eq 15, 3) by decide +kernel) (by decide) rfl hr1 ?_ ?_
  · exact fun q => k1 q
  · exact fun q => k2 q
theorem S_X11_machine_94 {G : am_G} {d : Nat} {Q : Int → am_D → Prop} {σ : am_D} {v1 : Int} (hr1 : -2147483648 ≤ (σ.1 91 6) ∧ (σ.1 91 6) ≤ 2147483647) (k1 : (σ.1 91 6) = 0 → am_X (am_FI G (d + 1) Q) mX11_machine (0, 0) 106 [some (am_r (some 91)), some (am_i v1)] [] (am_K0, σ)) (k2 : ¬ ((σ.1 91 6) = 0) → am_X (am_FI G (d + 1) Q) mX11_machine (0, 0) 101 [some (am_r (some 91)), some (am_i v1)] [] (am_K0, σ)) : am_X (am_FI G (d + 1) Q) mX11_machine (0, 0) 94 [some (am_r (some 91)), some (am_i v1)] [] (am_K0, σ) := by
  refine am_r_aload_n (nx := 95) rfl rfl (show decode cX11_machine 94 = .ok (.aload_n 0, 1) by decide +kernel) rfl ?_
  refine am_r_getI (nx := 98) 6 cw11 (by decide) rfl (Or.inl fl_X11_169) (ob_91) (show decode cX11_machine 95 = .ok (.getfield 169, 3) by decide +kernel) rfl ?_
  refine am_r_if_eq (tg := 106) (nx := 101) (show decode cX11_machine 98 = .ok (.ifCond .eq 8, 3) by decide +kernel) (by decide) rfl hr1 ?_ ?_
  · exact fun q => k1 q
  · exact fun q => k2 q
theorem S_X11_machine_101 {G : am_G} {d : Nat} {Q : Int → am_D → Prop} {σ : am_D} {v1 : Int} {Q' : am_D → Prop} (hc : am_MV G d mX11_fails [am_r (some 91), am_i 1] σ Q') (k : ∀ σ' : am_D, Q' σ' → am_X (am_FI G (d + 1) Q) mX11_machine (0, 0) 106 [some (am_r (some 91)), some (am_i v1)] [] (am_K0, σ')) : am_X (am_FI G (d + 1) Q) mX11_machine (0, 0) 101 [some (am_r (some 91)), some (am_i v1)] [] (am_K0, σ) := by
  refine am_r_aload_n (nx := 102) rfl rfl (show decode cX11_machine 101 = .ok (.aload_n 0, 1) by decide +kernel) rfl ?_
  refine am_r_iconst (nx := 103) (show decode cX11_machine 102 = .ok (.iconst 1, 1) by decide +kernel) rfl ?_
  refine am_r_callV (as := [am_i 1]) (st := []) hc mb_X11_fails mv_X11_fails (Or.inl ml_X11_202) (ob_91) (by omega) (r := (RX11, TX11, 63)) rfl rfl rfl rfl (Nat.le_of_ble_eq_true rfl) ⟨Nat.le_refl _, Nat.le_refl _⟩ ⟨Nat.le_refl _, Nat.le_refl _⟩ (show decode cX11_machine 103 = .ok (.invokevirtual 202, 3) by decide +kernel) ?_
  rintro _ _ ⟨σ', rfl, rfl, hq⟩ _
  exact (k σ' hq)
theorem S_X11_machine_106 {G : am_G} {d : Nat} {Q : Int → am_D → Prop} {σ : am_D} {v1 : Int} {Q' : Int → am_D → Prop} (hc : am_MI G d mX11_isGood [am_r (some 91)] σ Q') (k : ∀ (x : Int) (σ' : am_D), Q' x σ' → am_X (am_FI G (d + 1) Q) mX11_machine (0, 0) 110 [some (am_r (some 91)), some (am_i v1)] [am_i x] (am_K0, σ')) : am_X (am_FI G (d + 1) Q) mX11_machine (0, 0) 106 [some (am_r (some 91)), some (am_i v1)] [] (am_K0, σ) := by
  refine am_r_aload_n (nx := 107) rfl rfl (show decode cX11_machine 106 = .ok (.aload_n 0, 1) by decide +kernel) rfl ?_
  refine am_r_callV (as := []) (st := []) hc mb_X11_isGood mv_X11_isGood (Or.inl ml_X11_185) (ob_91) (by omega) (r := (RX11, TX11, 63)) rfl rfl rfl rfl (Nat.le_of_ble_eq_true rfl) ⟨Nat.le_refl _, Nat.le_refl _⟩ ⟨Nat.le_refl _, Nat.le_refl _⟩ (show decode cX11_machine 107 = .ok (.invokevirtual 185, 3) by decide +kernel) ?_
  rintro _ _ ⟨x, σ', rfl, rfl, hq⟩ _
  exact (k x σ' hq)
theorem S_X11_machine_110 {G : am_G} {d : Nat} {Q : Int → am_D → Prop} {σ : am_D} {v1 : Int} {s0 : Int} (hr1 : -2147483648 ≤ s0 ∧ s0 ≤ 2147483647) (k1 : ¬ s0 = 0 → am_X (am_FI G (d + 1) Q) mX11_machine (0, 0) 116 [some (am_r (some 91)), some (am_i v1)] [] (am_K0, σ)) (k2 : ¬ (¬ s0 = 0) → am_X (am_FI G (d + 1) Q) mX11_machine (0, 0) 113 [none, none] [] (am_K0, σ)) : am_X (am_FI G (d + 1) Q) mX11_machine (0, 0) 110 [some (am_r (some 91)), some (am_i v1)] [am_i s0] (am_K0, σ) := by
  refine am_r_if_ne (tg := 116) (nx := 113) (show decode cX11_machine 110 = .ok (.ifCond .ne 6, 3) by decide +kernel) (by decide) rfl hr1 ?_ ?_
  · exact fun q => k1 q
  · exact fun q => am_x_fg [0, 1] (k2 q)
theorem S_X11_machine_113 {G : am_G} {d : Nat} {Q : Int → am_D → Prop} {σ : am_D}   (k : Q (-2) σ) : am_X (am_FI G (d + 1) Q) mX11_machine (0, 0) 113 [none, none] [] (am_K0, σ) := by
  refine am_r_bipush (nx := 115) rfl (show decode cX11_machine 113 = .ok (.bipush (-2), 2) by decide +kernel) rfl ?_
  exact am_r_iret rfl rfl (show decode cX11_machine 115 = .ok (.ireturn, 1) by decide +kernel) ⟨_, _, rfl, rfl, k⟩
theorem S_X11_machine_116 {G : am_G} {d : Nat} {Q : Int → am_D → Prop} {σ : am_D} {v1 : Int} {Q' : am_D → Prop} (hc : am_MV G d mX11_copies [am_r (some 91), am_i 5, am_i v1] σ Q') (k : ∀ σ' : am_D, Q' σ' → am_X (am_FI G (d + 1) Q) mX11_machine (0, 0) 122 [some (am_r (some 91)), some (am_i v1)] [] (am_K0, σ')) : am_X (am_FI G (d + 1) Q) mX11_machine (0, 0) 116 [some (am_r (some 91)), some (am_i v1)] [] (am_K0, σ) := by
  refine am_r_aload_n (nx := 117) rfl rfl (show decode cX11_machine 116 = .ok (.aload_n 0, 1) by decide +kernel) rfl ?_
  refine am_r_iconst (nx := 118) (show decode cX11_machine 117 = .ok (.iconst 5, 1) by decide +kernel) rfl ?_
  refine am_r_iload_n (nx := 119) rfl rfl (show decode cX11_machine 118 = .ok (.iload_n 1, 1) by decide +kernel) rfl ?_
  refine am_r_callV (as := [am_i 5, am_i v1]) (st := []) hc mb_X11_copies mv_X11_copies (Or.inl ml_X11_286) (ob_91) (by omega) (r := (RX11, TX11, 63)) rfl rfl rfl rfl (Nat.le_of_ble_eq_true rfl) ⟨Nat.le_refl _, Nat.le_refl _⟩ ⟨Nat.le_refl _, Nat.le_refl _⟩ (show decode cX11_machine 119 = .ok (.invokevirtual 286, 3) by decide +kernel) ?_
  rintro _ _ ⟨σ', rfl, rfl, hq⟩ _
  exact (k σ' hq)
theorem S_X11_machine_122 {G : am_G} {d : Nat} {Q : Int → am_D → Prop} {σ : am_D} {v1 : Int} (hi1 : 0 ≤ v1) (hj2 : v1 < 6) (k : Q (σ.1 96 v1) σ) : am_X (am_FI G (d + 1) Q) mX11_machine (0, 0) 122 [some (am_r (some 91)), some (am_i v1)] [] (am_K0, σ) := by
  refine am_r_aload_n (nx := 123) rfl rfl (show decode cX11_machine 122 = .ok (.aload_n 0, 1) by decide +kernel) rfl ?_
  refine am_r_getF (nx := 126) 10 cw11 (by decide) rfl (Or.inl fl_X11_24) (ob_91) (fn_91_10) (show decode cX11_machine 123 = .ok (.getfield 24, 3) by decide +kernel) rfl ?_
  refine am_r_iload_n (nx := 127) rfl rfl (show decode cX11_machine 126 = .ok (.iload_n 1, 1) by decide +kernel) rfl ?_
  refine am_r_iald (nx := 128) (sh_96) (am_shle (sh_96)) hi1 hj2 (show decode cX11_machine 127 = .ok (.iaload, 1) by decide +kernel) rfl ?_
  exact am_r_iret rfl rfl (show decode cX11_machine 128 = .ok (.ireturn, 1) by decide +kernel) ⟨_, _, rfl, rfl, k⟩
theorem S_X11_readsElement_0 {G : am_G} {d : Nat} {Q : am_D → Prop} {σ : am_D}  (hr1 : -2147483648 ≤ (σ.1 91 26) ∧ (σ.1 91 26) ≤ 2147483647) (hr2 : -2147483648 ≤ (80 - (σ.1 91 28)) ∧ (80 - (σ.1 91 28)) ≤ 2147483647) (k1 : (σ.1 91 26) < (80 - (σ.1 91 28)) → am_X (am_FV G (d + 1) Q) mX11_readsElement (0, 0) 19 [some (am_r (some 91)), none] [] (am_K0, σ)) (k2 : ¬ ((σ.1 91 26) < (80 - (σ.1 91 28))) → am_X (am_FV G (d + 1) Q) mX11_readsElement (0, 0) 14 [some (am_r (some 91)), none] [] (am_K0, σ)) : am_X (am_FV G (d + 1) Q) mX11_readsElement (0, 0) 0 [some (am_r (some 91)), none] [] (am_K0, σ) := by
  refine am_r_aload_n (nx := 1) rfl rfl (show decode cX11_readsElement 0 = .ok (.aload_n 0, 1) by decide +kernel) rfl ?_
  refine am_r_getI (nx := 4) 26 cw11 (by decide) rfl (Or.inl fl_X11_290) (ob_91) (show decode cX11_readsElement 1 = .ok (.getfield 290, 3) by decide +kernel) rfl ?_
  refine am_r_bipush (nx := 6) rfl (show decode cX11_readsElement 4 = .ok (.bipush 80, 2) by decide +kernel) rfl ?_
  refine am_r_aload_n (nx := 7) rfl rfl (show decode cX11_readsElement 6 = .ok (.aload_n 0, 1) by decide +kernel) rfl ?_
  refine am_r_getI (nx := 10) 28 cw11 (by decide) rfl (Or.inl fl_X11_293) (ob_91) (show decode cX11_readsElement 7 = .ok (.getfield 293, 3) by decide +kernel) rfl ?_
  refine am_r_isub (nx := 11) (show decode cX11_readsElement 10 = .ok (.isub, 1) by decide +kernel) rfl ?_
  refine am_r_icmp_lt (tg := 19) (nx := 14) (show decode cX11_readsElement 11 = .ok (.if_icmp .lt 8, 3) by decide +kernel) (by decide) rfl hr1 hr2 ?_ ?_
  · exact fun q => k1 q
  · exact fun q => k2 q
theorem S_X11_readsElement_14 {G : am_G} {d : Nat} {Q : am_D → Prop} {σ : am_D} {Q' : am_D → Prop} (hc : am_MV G d mX11_fails [am_r (some 91), am_i 5] σ Q') (k : ∀ σ' : am_D, Q' σ' → am_X (am_FV G (d + 1) Q) mX11_readsElement (0, 0) 19 [some (am_r (some 91)), none] [] (am_K0, σ')) : am_X (am_FV G (d + 1) Q) mX11_readsElement (0, 0) 14 [some (am_r (some 91)), none] [] (am_K0, σ) := by
  refine am_r_aload_n (nx := 15) rfl rfl (show decode cX11_readsElement 14 = .ok (.aload_n 0, 1) by decide +kernel) rfl ?_
  refine am_r_iconst (nx := 16) (show decode cX11_readsElement 15 = .ok (.iconst 5, 1) by decide +kernel) rfl ?_
  refine am_r_callV (as := [am_i 5]) (st := []) hc mb_X11_fails mv_X11_fails (Or.inl ml_X11_202) (ob_91) (by omega) (r := (RX11, TX11, 63)) rfl rfl rfl rfl (Nat.le_of_ble_eq_true rfl) ⟨Nat.le_refl _, Nat.le_refl _⟩ ⟨Nat.le_refl _, Nat.le_refl _⟩ (show decode cX11_readsElement 16 = .ok (.invokevirtual 202, 3) by decide +kernel) ?_
  rintro _ _ ⟨σ', rfl, rfl, hq⟩ _
  exact (k σ' hq)
theorem S_X11_readsElement_19 {G : am_G} {d : Nat} {Q : am_D → Prop} {σ : am_D} {Q' : Int → am_D → Prop} (hc : am_MI G d mX11_isGood [am_r (some 91)] σ Q') (k : ∀ (x : Int) (σ' : am_D), Q' x σ' → am_X (am_FV G (d + 1) Q) mX11_readsElement (0, 0) 23 [some (am_r (some 91)), none] [am_i x] (am_K0, σ')) : am_X (am_FV G (d + 1) Q) mX11_readsElement (0, 0) 19 [some (am_r (some 91)), none] [] (am_K0, σ) := by
  refine am_r_aload_n (nx := 20) rfl rfl (show decode cX11_readsElement 19 = .ok (.aload_n 0, 1) by decide +kernel) rfl ?_
  refine am_r_callV (as := []) (st := []) hc mb_X11_isGood mv_X11_isGood (Or.inl ml_X11_185) (ob_91) (by omega) (r := (RX11, TX11, 63)) rfl rfl rfl rfl (Nat.le_of_ble_eq_true rfl) ⟨Nat.le_refl _, Nat.le_refl _⟩ ⟨Nat.le_refl _, Nat.le_refl _⟩ (show decode cX11_readsElement 20 = .ok (.invokevirtual 185, 3) by decide +kernel) ?_
  rintro _ _ ⟨x, σ', rfl, rfl, hq⟩ _
  exact (k x σ' hq)
theorem S_X11_readsElement_23 {G : am_G} {d : Nat} {Q : am_D → Prop} {σ : am_D} {s0 : Int} (hr1 : -2147483648 ≤ s0 ∧ s0 ≤ 2147483647) (k1 : ¬ s0 = 0 → am_X (am_FV G (d + 1) Q) mX11_readsElement (0, 0) 27 [some (am_r (some 91)), none] [] (am_K0, σ)) (k2 : ¬ (¬ s0 = 0) → am_X (am_FV G (d + 1) Q) mX11_readsElement (0, 0) 26 [none, none] [] (am_K0, σ)) : am_X (am_FV G (d + 1) Q) mX11_readsElement (0, 0) 23 [some (am_r (some 91)), none] [am_i s0] (am_K0, σ) := by
  refine am_r_if_ne (tg := 27) (nx := 26) (show decode cX11_readsElement 23 = .ok (.ifCond .ne 4, 3) by decide +kernel) (by decide) rfl hr1 ?_ ?_
  · exact fun q => k1 q
  · exact fun q => am_x_fg [0] (k2 q)
theorem S_X11_readsElement_26 {G : am_G} {d : Nat} {Q : am_D → Prop} {σ : am_D}   (k : Q σ) : am_X (am_FV G (d + 1) Q) mX11_readsElement (0, 0) 26 [none, none] [] (am_K0, σ) := by
  exact am_r_vret rfl (show decode cX11_readsElement 26 = .ok (.return_, 1) by decide +kernel) ⟨_, rfl, rfl, k⟩
theorem S_X11_readsElement_27 {G : am_G} {d : Nat} {Q : am_D → Prop} {σ : am_D} {Q' : am_D → Prop} (hc : am_MV G d mX11_goes [am_r (some 91)] σ Q') (k : ∀ σ' : am_D, Q' σ' → am_X (am_FV G (d + 1) Q) mX11_readsElement (0, 0) 31 [some (am_r (some 91)), none] [] (am_K0, σ')) : am_X (am_FV G (d + 1) Q) mX11_readsElement (0, 0) 27 [some (am_r (some 91)), none] [] (am_K0, σ) := by
  refine am_r_aload_n (nx := 28) rfl rfl (show decode cX11_readsElement 27 = .ok (.aload_n 0, 1) by decide +kernel) rfl ?_
  refine am_r_callV (as := []) (st := []) hc mb_X11_goes mv_X11_goes (Or.inl ml_X11_182) (ob_91) (by omega) (r := (RX11, TX11, 63)) rfl rfl rfl rfl (Nat.le_of_ble_eq_true rfl) ⟨Nat.le_refl _, Nat.le_refl _⟩ ⟨Nat.le_refl _, Nat.le_refl _⟩ (show decode cX11_readsElement 28 = .ok (.invokevirtual 182, 3) by decide +kernel) ?_
  rintro _ _ ⟨σ', rfl, rfl, hq⟩ _
  exact (k σ' hq)
theorem S_X11_readsElement_31 {G : am_G} {d : Nat} {Q : am_D → Prop} {σ : am_D} {Q' : Int → am_D → Prop} (hc : am_MI G d mX11_letter [am_r (some 91)] σ Q') (k : ∀ (x : Int) (σ' : am_D), Q' x σ' → am_X (am_FV G (d + 1) Q) mX11_readsElement (0, 0) 36 [some (am_r (some 91)), some (am_i x)] [] (am_K0, σ')) : am_X (am_FV G (d + 1) Q) mX11_readsElement (0, 0) 31 [some (am_r (some 91)), none] [] (am_K0, σ) := by
  refine am_r_aload_n (nx := 32) rfl rfl (show decode cX11_readsElement 31 = .ok (.aload_n 0, 1) by decide +kernel) rfl ?_
  refine am_r_callV (as := []) (st := []) hc mb_X11_letter mv_X11_letter (Or.inl ml_X11_237) (ob_91) (by omega) (r := (RX11, TX11, 63)) rfl rfl rfl rfl (Nat.le_of_ble_eq_true rfl) ⟨Nat.le_refl _, Nat.le_refl _⟩ ⟨Nat.le_refl _, Nat.le_refl _⟩ (show decode cX11_readsElement 32 = .ok (.invokevirtual 237, 3) by decide +kernel) ?_
  rintro _ _ ⟨x, σ', rfl, rfl, hq⟩ _
  refine am_r_istore_n (nx := 36) rfl (by decide) rfl (show decode cX11_readsElement 35 = .ok (.istore_n 1, 1) by decide +kernel) rfl ?_
  exact (k x σ' hq)
theorem S_X11_readsElement_36 {G : am_G} {d : Nat} {Q : am_D → Prop} {σ : am_D} {v1 : Int} {Q' : Int → am_D → Prop} (hc : am_MI G d mX11_isGood [am_r (some 91)] σ Q') (k : ∀ (x : Int) (σ' : am_D), Q' x σ' → am_X (am_FV G (d + 1) Q) mX11_readsElement (0, 0) 40 [some (am_r (some 91)), some (am_i v1)] [am_i x] (am_K0, σ')) : am_X (am_FV G (d + 1) Q) mX11_readsElement (0, 0) 36 [some (am_r (some 91)), some (am_i v1)] [] (am_K0, σ) := by
  refine am_r_aload_n (nx := 37) rfl rfl (show decode cX11_readsElement 36 = .ok (.aload_n 0, 1) by decide +kernel) rfl ?_
  refine am_r_callV (as := []) (st := []) hc mb_X11_isGood mv_X11_isGood (Or.inl ml_X11_185) (ob_91) (by omega) (r := (RX11, TX11, 63)) rfl rfl rfl rfl (Nat.le_of_ble_eq_true rfl) ⟨Nat.le_refl _, Nat.le_refl _⟩ ⟨Nat.le_refl _, Nat.le_refl _⟩ (show decode cX11_readsElement 37 = .ok (.invokevirtual 185, 3) by decide +kernel) ?_
  rintro _ _ ⟨x, σ', rfl, rfl, hq⟩ _
  exact (k x σ' hq)
theorem S_X11_readsElement_40 {G : am_G} {d : Nat} {Q : am_D → Prop} {σ : am_D} {v1 : Int} {s0 : Int} (hr1 : -2147483648 ≤ s0 ∧ s0 ≤ 2147483647) (k1 : ¬ s0 = 0 → am_X (am_FV G (d + 1) Q) mX11_readsElement (0, 0) 44 [some (am_r (some 91)), some (am_i v1)] [] (am_K0, σ)) (k2 : ¬ (¬ s0 = 0) → am_X (am_FV G (d + 1) Q) mX11_readsElement (0, 0) 43 [none, none] [] (am_K0, σ)) : am_X (am_FV G (d + 1) Q) mX11_readsElement (0, 0) 40 [some (am_r (some 91)), some (am_i v1)] [am_i s0] (am_K0, σ) := by
  refine am_r_if_ne (tg := 44) (nx := 43) (show decode cX11_readsElement 40 = .ok (.ifCond .ne 4, 3) by decide +kernel) (by decide) rfl hr1 ?_ ?_
  · exact fun q => k1 q
  · exact fun q => am_x_fg [0, 1] (k2 q)
theorem S_X11_readsElement_43 {G : am_G} {d : Nat} {Q : am_D → Prop} {σ : am_D}   (k : Q σ) : am_X (am_FV G (d + 1) Q) mX11_readsElement (0, 0) 43 [none, none] [] (am_K0, σ) := by
  exact am_r_vret rfl (show decode cX11_readsElement 43 = .ok (.return_, 1) by decide +kernel) ⟨_, rfl, rfl, k⟩
theorem S_X11_readsElement_44 {G : am_G} {d : Nat} {Q : am_D → Prop} {σ : am_D} {v1 : Int} (hi1 : 0 ≤ (σ.1 91 26)) (hj2 : (σ.1 91 26) < 80) (k : am_X (am_FV G (d + 1) Q) mX11_readsElement (0, 0) 54 [some (am_r (some 91)), none] [] (am_K0, (am_pI σ 108 (σ.1 91 26) v1))) : am_X (am_FV G (d + 1) Q) mX11_readsElement (0, 0) 44 [some (am_r (some 91)), some (am_i v1)] [] (am_K0, σ) := by
  refine am_r_aload_n (nx := 45) rfl rfl (show decode cX11_readsElement 44 = .ok (.aload_n 0, 1) by decide +kernel) rfl ?_
  refine am_r_getF (nx := 48) 23 cw11 (by decide) rfl (Or.inl fl_X11_60) (ob_91) (fn_91_23) (show decode cX11_readsElement 45 = .ok (.getfield 60, 3) by decide +kernel) rfl ?_
  refine am_r_aload_n (nx := 49) rfl rfl (show decode cX11_readsElement 48 = .ok (.aload_n 0, 1) by decide +kernel) rfl ?_
  refine am_r_getI (nx := 52) 26 cw11 (by decide) rfl (Or.inl fl_X11_290) (ob_91) (show decode cX11_readsElement 49 = .ok (.getfield 290, 3) by decide +kernel) rfl ?_
  refine am_r_iload_n (nx := 53) rfl rfl (show decode cX11_readsElement 52 = .ok (.iload_n 1, 1) by decide +kernel) rfl ?_
  refine am_r_iast (nx := 54) (sh_108) (am_shle (sh_108)) hi1 hj2 (show decode cX11_readsElement 53 = .ok (.iastore, 1) by decide +kernel) rfl ?_
  exact am_x_fg [1] k
theorem S_X11_readsElement_54 {G : am_G} {d : Nat} {Q : am_D → Prop} {σ : am_D}   (k : am_X (am_FV G (d + 1) Q) mX11_readsElement (0, 0) 64 [some (am_r (some 91)), none] [] (am_K0, (am_pI σ 91 26 ((σ.1 91 26) + 1)))) : am_X (am_FV G (d + 1) Q) mX11_readsElement (0, 0) 54 [some (am_r (some 91)), none] [] (am_K0, σ) := by
  refine am_r_aload_n (nx := 55) rfl rfl (show decode cX11_readsElement 54 = .ok (.aload_n 0, 1) by decide +kernel) rfl ?_
  refine am_r_dup (nx := 56) rfl (show decode cX11_readsElement 55 = .ok (.dup, 1) by decide +kernel) rfl ?_
  refine am_r_getI (nx := 59) 26 cw11 (by decide) rfl (Or.inl fl_X11_290) (ob_91) (show decode cX11_readsElement 56 = .ok (.getfield 290, 3) by decide +kernel) rfl ?_
  refine am_r_iconst (nx := 60) (show decode cX11_readsElement 59 = .ok (.iconst 1, 1) by decide +kernel) rfl ?_
  refine am_r_iadd (nx := 61) (show decode cX11_readsElement 60 = .ok (.iadd, 1) by decide +kernel) rfl ?_
  refine am_r_putI (nx := 64) 26 cw11 (by decide) rfl (Or.inl fl_X11_290) (ob_91) rfl (Or.inl rfl) (show decode cX11_readsElement 61 = .ok (.putfield 290, 3) by decide +kernel) rfl ?_
  exact k
theorem S_X11_readsElement_64 {G : am_G} {d : Nat} {Q : am_D → Prop} {σ : am_D}   (k : am_X (am_FV G (d + 1) Q) mX11_readsElement (0, 0) 74 [some (am_r (some 91)), none] [] (am_K0, (am_pI σ 91 28 ((σ.1 91 28) + 1)))) : am_X (am_FV G (d + 1) Q) mX11_readsElement (0, 0) 64 [some (am_r (some 91)), none] [] (am_K0, σ) := by
  refine am_r_aload_n (nx := 65) rfl rfl (show decode cX11_readsElement 64 = .ok (.aload_n 0, 1) by decide +kernel) rfl ?_
  refine am_r_dup (nx := 66) rfl (show decode cX11_readsElement 65 = .ok (.dup, 1) by decide +kernel) rfl ?_
  refine am_r_getI (nx := 69) 28 cw11 (by decide) rfl (Or.inl fl_X11_293) (ob_91) (show decode cX11_readsElement 66 = .ok (.getfield 293, 3) by decide +kernel) rfl ?_
  refine am_r_iconst (nx := 70) (show decode cX11_readsElement 69 = .ok (.iconst 1, 1) by decide +kernel) rfl ?_
  refine am_r_iadd (nx := 71) (show decode cX11_readsElement 70 = .ok (.iadd, 1) by decide +kernel) rfl ?_
  refine am_r_putI (nx := 74) 28 cw11 (by decide) rfl (Or.inl fl_X11_293) (ob_91) rfl (Or.inl rfl) (show decode cX11_readsElement 71 = .ok (.putfield 293, 3) by decide +kernel) rfl ?_
  exact k
theorem S_X11_readsElement_74 {G : am_G} {d : Nat} {Q : am_D → Prop} {σ : am_D} {Q' : Int → am_D → Prop} (hc : am_MI G d mX11_isSign [am_r (some 91), am_i 60] σ Q') (k : ∀ (x : Int) (σ' : am_D), Q' x σ' → am_X (am_FV G (d + 1) Q) mX11_readsElement (0, 0) 80 [some (am_r (some 91)), none] [am_i x] (am_K0, σ')) : am_X (am_FV G (d + 1) Q) mX11_readsElement (0, 0) 74 [some (am_r (some 91)), none] [] (am_K0, σ) := by
  refine am_r_aload_n (nx := 75) rfl rfl (show decode cX11_readsElement 74 = .ok (.aload_n 0, 1) by decide +kernel) rfl ?_
  refine am_r_bipush (nx := 77) rfl (show decode cX11_readsElement 75 = .ok (.bipush 60, 2) by decide +kernel) rfl ?_
  refine am_r_callV (as := [am_i 60]) (st := []) hc mb_X11_isSign mv_X11_isSign (Or.inl ml_X11_199) (ob_91) (by omega) (r := (RX11, TX11, 63)) rfl rfl rfl rfl (Nat.le_of_ble_eq_true rfl) ⟨Nat.le_refl _, Nat.le_refl _⟩ ⟨Nat.le_refl _, Nat.le_refl _⟩ (show decode cX11_readsElement 77 = .ok (.invokevirtual 199, 3) by decide +kernel) ?_
  rintro _ _ ⟨x, σ', rfl, rfl, hq⟩ _
  exact (k x σ' hq)
theorem S_X11_readsElement_80 {G : am_G} {d : Nat} {Q : am_D → Prop} {σ : am_D} {s0 : Int} (hr1 : -2147483648 ≤ s0 ∧ s0 ≤ 2147483647) (k1 : s0 = 0 → am_X (am_FV G (d + 1) Q) mX11_readsElement (0, 0) 90 [some (am_r (some 91)), none] [] (am_K0, σ)) (k2 : ¬ (s0 = 0) → am_X (am_FV G (d + 1) Q) mX11_readsElement (0, 0) 83 [some (am_r (some 91)), none] [] (am_K0, σ)) : am_X (am_FV G (d + 1) Q) mX11_readsElement (0, 0) 80 [some (am_r (some 91)), none] [am_i s0] (am_K0, σ) := by
  refine am_r_if_eq (tg := 90) (nx := 83) (show decode cX11_readsElement 80 = .ok (.ifCond .eq 10, 3) by decide +kernel) (by decide) rfl hr1 ?_ ?_
  · exact fun q => k1 q
  · exact fun q => k2 q
theorem S_X11_readsElement_83 {G : am_G} {d : Nat} {Q : am_D → Prop} {σ : am_D} {Q' : am_D → Prop} (hc : am_MV G d mX11_readsElement [am_r (some 91)] σ Q') (k : ∀ σ' : am_D, Q' σ' → am_X (am_FV G (d + 1) Q) mX11_readsElement (0, 0) 87 [some (am_r (some 91)), none] [] (am_K0, σ')) : am_X (am_FV G (d + 1) Q) mX11_readsElement (0, 0) 83 [some (am_r (some 91)), none] [] (am_K0, σ) := by
  refine am_r_aload_n (nx := 84) rfl rfl (show decode cX11_readsElement 83 = .ok (.aload_n 0, 1) by decide +kernel) rfl ?_
  refine am_r_callV (as := []) (st := []) hc mb_X11_readsElement mv_X11_readsElement (Or.inl ml_X11_296) (ob_91) (by omega) (r := (RX11, TX11, 63)) rfl rfl rfl rfl (Nat.le_of_ble_eq_true rfl) ⟨Nat.le_refl _, Nat.le_refl _⟩ ⟨Nat.le_refl _, Nat.le_refl _⟩ (show decode cX11_readsElement 84 = .ok (.invokevirtual 296, 3) by decide +kernel) ?_
  rintro _ _ ⟨σ', rfl, rfl, hq⟩ _
  exact (k σ' hq)
theorem S_X11_readsElement_87 {G : am_G} {d : Nat} {Q : am_D → Prop} {σ : am_D}   (k : am_X (am_FV G (d + 1) Q) mX11_readsElement (0, 0) 74 [some (am_r (some 91)), none] [] (am_K0, σ)) : am_X (am_FV G (d + 1) Q) mX11_readsElement (0, 0) 87 [some (am_r (some 91)), none] [] (am_K0, σ) := by
  refine am_r_goto (tg := 74) (show decode cX11_readsElement 87 = .ok (.goto (-13), 3) by decide +kernel) (by decide) ?_
  exact k
theorem S_X11_readsElement_90 {G : am_G} {d : Nat} {Q : am_D → Prop} {σ : am_D} {Q' : am_D → Prop} (hc : am_MV G d mX11_sign [am_r (some 91), am_i 62] σ Q') (k : ∀ σ' : am_D, Q' σ' → am_X (am_FV G (d + 1) Q) mX11_readsElement (0, 0) 96 [some (am_r (some 91)), none] [] (am_K0, σ')) : am_X (am_FV G (d + 1) Q) mX11_readsElement (0, 0) 90 [some (am_r (some 91)), none] [] (am_K0, σ) := by
  refine am_r_aload_n (nx := 91) rfl rfl (show decode cX11_readsElement 90 = .ok (.aload_n 0, 1) by decide +kernel) rfl ?_
  refine am_r_bipush (nx := 93) rfl (show decode cX11_readsElement 91 = .ok (.bipush 62, 2) by decide +kernel) rfl ?_
  refine am_r_callV (as := [am_i 62]) (st := []) hc mb_X11_sign mv_X11_sign (Or.inl ml_X11_243) (ob_91) (by omega) (r := (RX11, TX11, 63)) rfl rfl rfl rfl (Nat.le_of_ble_eq_true rfl) ⟨Nat.le_refl _, Nat.le_refl _⟩ ⟨Nat.le_refl _, Nat.le_refl _⟩ (show decode cX11_readsElement 93 = .ok (.invokevirtual 243, 3) by decide +kernel) ?_
  rintro _ _ ⟨σ', rfl, rfl, hq⟩ _
  exact (k σ' hq)
theorem S_X11_readsElement_96 {G : am_G} {d : Nat} {Q : am_D → Prop} {σ : am_D} {Q' : Int → am_D → Prop} (hc : am_MI G d mX11_isGood [am_r (some 91)] σ Q') (k : ∀ (x : Int) (σ' : am_D), Q' x σ' → am_X (am_FV G (d + 1) Q) mX11_readsElement (0, 0) 100 [some (am_r (some 91)), none] [am_i x] (am_K0, σ')) : am_X (am_FV G (d + 1) Q) mX11_readsElement (0, 0) 96 [some (am_r (some 91)), none] [] (am_K0, σ) := by
  refine am_r_aload_n (nx := 97) rfl rfl (show decode cX11_readsElement 96 = .ok (.aload_n 0, 1) by decide +kernel) rfl ?_
  refine am_r_callV (as := []) (st := []) hc mb_X11_isGood mv_X11_isGood (Or.inl ml_X11_185) (ob_91) (by omega) (r := (RX11, TX11, 63)) rfl rfl rfl rfl (Nat.le_of_ble_eq_true rfl) ⟨Nat.le_refl _, Nat.le_refl _⟩ ⟨Nat.le_refl _, Nat.le_refl _⟩ (show decode cX11_readsElement 97 = .ok (.invokevirtual 185, 3) by decide +kernel) ?_
  rintro _ _ ⟨x, σ', rfl, rfl, hq⟩ _
  exact (k x σ' hq)
theorem S_X11_readsElement_100 {G : am_G} {d : Nat} {Q : am_D → Prop} {σ : am_D} {s0 : Int} (hr1 : -2147483648 ≤ s0 ∧ s0 ≤ 2147483647) (k1 : ¬ s0 = 0 → am_X (am_FV G (d + 1) Q) mX11_readsElement (0, 0) 104 [some (am_r (some 91)), none] [] (am_K0, σ)) (k2 : ¬ (¬ s0 = 0) → am_X (am_FV G (d + 1) Q) mX11_readsElement (0, 0) 103 [none, none] [] (am_K0, σ)) : am_X (am_FV G (d + 1) Q) mX11_readsElement (0, 0) 100 [some (am_r (some 91)), none] [am_i s0] (am_K0, σ) := by
  refine am_r_if_ne (tg := 104) (nx := 103) (show decode cX11_readsElement 100 = .ok (.ifCond .ne 4, 3) by decide +kernel) (by decide) rfl hr1 ?_ ?_
  · exact fun q => k1 q
  · exact fun q => am_x_fg [0] (k2 q)
theorem S_X11_readsElement_103 {G : am_G} {d : Nat} {Q : am_D → Prop} {σ : am_D}   (k : Q σ) : am_X (am_FV G (d + 1) Q) mX11_readsElement (0, 0) 103 [none, none] [] (am_K0, σ) := by
  exact am_r_vret rfl (show decode cX11_readsElement 103 = .ok (.return_, 1) by decide +kernel) ⟨_, rfl, rfl, k⟩
theorem S_X11_readsElement_104 {G : am_G} {d : Nat} {Q : am_D → Prop} {σ : am_D}   (k : am_X (am_FV G (d + 1) Q) mX11_readsElement (0, 0) 114 [some (am_r (some 91)), none] [] (am_K0, (am_pI σ 91 28 ((σ.1 91 28) - 1)))) : am_X (am_FV G (d + 1) Q) mX11_readsElement (0, 0) 104 [some (am_r (some 91)), none] [] (am_K0, σ) := by
  refine am_r_aload_n (nx := 105) rfl rfl (show decode cX11_readsElement 104 = .ok (.aload_n 0, 1) by decide +kernel) rfl ?_
  refine am_r_dup (nx := 106) rfl (show decode cX11_readsElement 105 = .ok (.dup, 1) by decide +kernel) rfl ?_
  refine am_r_getI (nx := 109) 28 cw11 (by decide) rfl (Or.inl fl_X11_293) (ob_91) (show decode cX11_readsElement 106 = .ok (.getfield 293, 3) by decide +kernel) rfl ?_
  refine am_r_iconst (nx := 110) (show decode cX11_readsElement 109 = .ok (.iconst 1, 1) by decide +kernel) rfl ?_
  refine am_r_isub (nx := 111) (show decode cX11_readsElement 110 = .ok (.isub, 1) by decide +kernel) rfl ?_
  refine am_r_putI (nx := 114) 28 cw11 (by decide) rfl (Or.inl fl_X11_293) (ob_91) rfl (Or.inl rfl) (show decode cX11_readsElement 111 = .ok (.putfield 293, 3) by decide +kernel) rfl ?_
  exact k
theorem S_X11_readsElement_114 {G : am_G} {d : Nat} {Q : am_D → Prop} {σ : am_D}  (hi1 : 0 ≤ (σ.1 91 26)) (hj2 : (σ.1 91 26) < 80) (k : am_X (am_FV G (d + 1) Q) mX11_readsElement (0, 0) 124 [some (am_r (some 91)), none] [] (am_K0, (am_pI σ 108 (σ.1 91 26) 3))) : am_X (am_FV G (d + 1) Q) mX11_readsElement (0, 0) 114 [some (am_r (some 91)), none] [] (am_K0, σ) := by
  refine am_r_aload_n (nx := 115) rfl rfl (show decode cX11_readsElement 114 = .ok (.aload_n 0, 1) by decide +kernel) rfl ?_
  refine am_r_getF (nx := 118) 23 cw11 (by decide) rfl (Or.inl fl_X11_60) (ob_91) (fn_91_23) (show decode cX11_readsElement 115 = .ok (.getfield 60, 3) by decide +kernel) rfl ?_
  refine am_r_aload_n (nx := 119) rfl rfl (show decode cX11_readsElement 118 = .ok (.aload_n 0, 1) by decide +kernel) rfl ?_
  refine am_r_getI (nx := 122) 26 cw11 (by decide) rfl (Or.inl fl_X11_290) (ob_91) (show decode cX11_readsElement 119 = .ok (.getfield 290, 3) by decide +kernel) rfl ?_
  refine am_r_iconst (nx := 123) (show decode cX11_readsElement 122 = .ok (.iconst 3, 1) by decide +kernel) rfl ?_
  refine am_r_iast (nx := 124) (sh_108) (am_shle (sh_108)) hi1 hj2 (show decode cX11_readsElement 123 = .ok (.iastore, 1) by decide +kernel) rfl ?_
  exact k
theorem S_X11_readsElement_124 {G : am_G} {d : Nat} {Q : am_D → Prop} {σ : am_D}   (k : am_X (am_FV G (d + 1) Q) mX11_readsElement (0, 0) 134 [none, none] [] (am_K0, (am_pI σ 91 26 ((σ.1 91 26) + 1)))) : am_X (am_FV G (d + 1) Q) mX11_readsElement (0, 0) 124 [some (am_r (some 91)), none] [] (am_K0, σ) := by
  refine am_r_aload_n (nx := 125) rfl rfl (show decode cX11_readsElement 124 = .ok (.aload_n 0, 1) by decide +kernel) rfl ?_
  refine am_r_dup (nx := 126) rfl (show decode cX11_readsElement 125 = .ok (.dup, 1) by decide +kernel) rfl ?_
  refine am_r_getI (nx := 129) 26 cw11 (by decide) rfl (Or.inl fl_X11_290) (ob_91) (show decode cX11_readsElement 126 = .ok (.getfield 290, 3) by decide +kernel) rfl ?_
  refine am_r_iconst (nx := 130) (show decode cX11_readsElement 129 = .ok (.iconst 1, 1) by decide +kernel) rfl ?_
  refine am_r_iadd (nx := 131) (show decode cX11_readsElement 130 = .ok (.iadd, 1) by decide +kernel) rfl ?_
  refine am_r_putI (nx := 134) 26 cw11 (by decide) rfl (Or.inl fl_X11_290) (ob_91) rfl (Or.inl rfl) (show decode cX11_readsElement 131 = .ok (.putfield 290, 3) by decide +kernel) rfl ?_
  exact am_x_fg [0] k
theorem S_X11_readsElement_134 {G : am_G} {d : Nat} {Q : am_D → Prop} {σ : am_D}   (k : Q σ) : am_X (am_FV G (d + 1) Q) mX11_readsElement (0, 0) 134 [none, none] [] (am_K0, σ) := by
  exact am_r_vret rfl (show decode cX11_readsElement 134 = .ok (.return_, 1) by decide +kernel) ⟨_, rfl, rfl, k⟩
theorem S_X11_document_0 {G : am_G} {d : Nat} {Q : Int → am_D → Prop} {σ : am_D} {Q' : am_D → Prop} (hc : am_MV G d mX11_begins [am_r (some 91)] σ Q') (k : ∀ σ' : am_D, Q' σ' → am_X (am_FI G (d + 1) Q) mX11_document (0, 0) 4 [some (am_r (some 91)), none] [] (am_K0, σ')) : am_X (am_FI G (d + 1) Q) mX11_document (0, 0) 0 [some (am_r (some 91)), none] [] (am_K0, σ) := by
  refine am_r_aload_n (nx := 1) rfl rfl (show decode cX11_document 0 = .ok (.aload_n 0, 1) by decide +kernel) rfl ?_
  refine am_r_callV (as := []) (st := []) hc mb_X11_begins mv_X11_begins (Or.inl ml_X11_275) (ob_91) (by omega) (r := (RX11, TX11, 63)) rfl rfl rfl rfl (Nat.le_of_ble_eq_true rfl) ⟨Nat.le_refl _, Nat.le_refl _⟩ ⟨Nat.le_refl _, Nat.le_refl _⟩ (show decode cX11_document 1 = .ok (.invokevirtual 275, 3) by decide +kernel) ?_
  rintro _ _ ⟨σ', rfl, rfl, hq⟩ _
  exact (k σ' hq)
theorem S_X11_document_4 {G : am_G} {d : Nat} {Q : Int → am_D → Prop} {σ : am_D}   (k : am_X (am_FI G (d + 1) Q) mX11_document (0, 0) 9 [some (am_r (some 91)), none] [] (am_K0, (am_pI σ 91 26 0))) : am_X (am_FI G (d + 1) Q) mX11_document (0, 0) 4 [some (am_r (some 91)), none] [] (am_K0, σ) := by
  refine am_r_aload_n (nx := 5) rfl rfl (show decode cX11_document 4 = .ok (.aload_n 0, 1) by decide +kernel) rfl ?_
  refine am_r_iconst (nx := 6) (show decode cX11_document 5 = .ok (.iconst 0, 1) by decide +kernel) rfl ?_
  refine am_r_putI (nx := 9) 26 cw11 (by decide) rfl (Or.inl fl_X11_290) (ob_91) rfl (Or.inl rfl) (show decode cX11_document 6 = .ok (.putfield 290, 3) by decide +kernel) rfl ?_
  exact k
theorem S_X11_document_9 {G : am_G} {d : Nat} {Q : Int → am_D → Prop} {σ : am_D}   (k : am_X (am_FI G (d + 1) Q) mX11_document (0, 0) 14 [some (am_r (some 91)), none] [] (am_K0, (am_pI σ 91 28 0))) : am_X (am_FI G (d + 1) Q) mX11_document (0, 0) 9 [some (am_r (some 91)), none] [] (am_K0, σ) := by
  refine am_r_aload_n (nx := 10) rfl rfl (show decode cX11_document 9 = .ok (.aload_n 0, 1) by decide +kernel) rfl ?_
  refine am_r_iconst (nx := 11) (show decode cX11_document 10 = .ok (.iconst 0, 1) by decide +kernel) rfl ?_
  refine am_r_putI (nx := 14) 28 cw11 (by decide) rfl (Or.inl fl_X11_293) (ob_91) rfl (Or.inl rfl) (show decode cX11_document 11 = .ok (.putfield 293, 3) by decide +kernel) rfl ?_
  exact k
theorem S_X11_document_14 {G : am_G} {d : Nat} {Q : Int → am_D → Prop} {σ : am_D} {Q' : Int → am_D → Prop} (hc : am_MI G d mX11_isSign [am_r (some 91), am_i 60] σ Q') (k : ∀ (x : Int) (σ' : am_D), Q' x σ' → am_X (am_FI G (d + 1) Q) mX11_document (0, 0) 20 [some (am_r (some 91)), none] [am_i x] (am_K0, σ')) : am_X (am_FI G (d + 1) Q) mX11_document (0, 0) 14 [some (am_r (some 91)), none] [] (am_K0, σ) := by
  refine am_r_aload_n (nx := 15) rfl rfl (show decode cX11_document 14 = .ok (.aload_n 0, 1) by decide +kernel) rfl ?_
  refine am_r_bipush (nx := 17) rfl (show decode cX11_document 15 = .ok (.bipush 60, 2) by decide +kernel) rfl ?_
  refine am_r_callV (as := [am_i 60]) (st := []) hc mb_X11_isSign mv_X11_isSign (Or.inl ml_X11_199) (ob_91) (by omega) (r := (RX11, TX11, 63)) rfl rfl rfl rfl (Nat.le_of_ble_eq_true rfl) ⟨Nat.le_refl _, Nat.le_refl _⟩ ⟨Nat.le_refl _, Nat.le_refl _⟩ (show decode cX11_document 17 = .ok (.invokevirtual 199, 3) by decide +kernel) ?_
  rintro _ _ ⟨x, σ', rfl, rfl, hq⟩ _
  exact (k x σ' hq)
theorem S_X11_document_20 {G : am_G} {d : Nat} {Q : Int → am_D → Prop} {σ : am_D} {s0 : Int} (hr1 : -2147483648 ≤ s0 ∧ s0 ≤ 2147483647) (k1 : s0 = 0 → am_X (am_FI G (d + 1) Q) mX11_document (0, 0) 30 [some (am_r (some 91)), none] [] (am_K0, σ)) (k2 : ¬ (s0 = 0) → am_X (am_FI G (d + 1) Q) mX11_document (0, 0) 23 [some (am_r (some 91)), none] [] (am_K0, σ)) : am_X (am_FI G (d + 1) Q) mX11_document (0, 0) 20 [some (am_r (some 91)), none] [am_i s0] (am_K0, σ) := by
  refine am_r_if_eq (tg := 30) (nx := 23) (show decode cX11_document 20 = .ok (.ifCond .eq 10, 3) by decide +kernel) (by decide) rfl hr1 ?_ ?_
  · exact fun q => k1 q
  · exact fun q => k2 q
theorem S_X11_document_23 {G : am_G} {d : Nat} {Q : Int → am_D → Prop} {σ : am_D} {Q' : am_D → Prop} (hc : am_MV G d mX11_readsElement [am_r (some 91)] σ Q') (k : ∀ σ' : am_D, Q' σ' → am_X (am_FI G (d + 1) Q) mX11_document (0, 0) 27 [some (am_r (some 91)), none] [] (am_K0, σ')) : am_X (am_FI G (d + 1) Q) mX11_document (0, 0) 23 [some (am_r (some 91)), none] [] (am_K0, σ) := by
  refine am_r_aload_n (nx := 24) rfl rfl (show decode cX11_document 23 = .ok (.aload_n 0, 1) by decide +kernel) rfl ?_
  refine am_r_callV (as := []) (st := []) hc mb_X11_readsElement mv_X11_readsElement (Or.inl ml_X11_296) (ob_91) (by omega) (r := (RX11, TX11, 63)) rfl rfl rfl rfl (Nat.le_of_ble_eq_true rfl) ⟨Nat.le_refl _, Nat.le_refl _⟩ ⟨Nat.le_refl _, Nat.le_refl _⟩ (show decode cX11_document 24 = .ok (.invokevirtual 296, 3) by decide +kernel) ?_
  rintro _ _ ⟨σ', rfl, rfl, hq⟩ _
  exact (k σ' hq)
theorem S_X11_document_27 {G : am_G} {d : Nat} {Q : Int → am_D → Prop} {σ : am_D}   (k : am_X (am_FI G (d + 1) Q) mX11_document (0, 0) 14 [some (am_r (some 91)), none] [] (am_K0, σ)) : am_X (am_FI G (d + 1) Q) mX11_document (0, 0) 27 [some (am_r (some 91)), none] [] (am_K0, σ) := by
  refine am_r_goto (tg := 14) (show decode cX11_document 27 = .ok (.goto (-13), 3) by decide +kernel) (by decide) ?_
  exact k
theorem S_X11_document_30 {G : am_G} {d : Nat} {Q : Int → am_D → Prop} {σ : am_D} {Q' : Int → am_D → Prop} (hc : am_MI G d mX11_isGood [am_r (some 91)] σ Q') (k : ∀ (x : Int) (σ' : am_D), Q' x σ' → am_X (am_FI G (d + 1) Q) mX11_document (0, 0) 34 [some (am_r (some 91)), none] [am_i x] (am_K0, σ')) : am_X (am_FI G (d + 1) Q) mX11_document (0, 0) 30 [some (am_r (some 91)), none] [] (am_K0, σ) := by
  refine am_r_aload_n (nx := 31) rfl rfl (show decode cX11_document 30 = .ok (.aload_n 0, 1) by decide +kernel) rfl ?_
  refine am_r_callV (as := []) (st := []) hc mb_X11_isGood mv_X11_isGood (Or.inl ml_X11_185) (ob_91) (by omega) (r := (RX11, TX11, 63)) rfl rfl rfl rfl (Nat.le_of_ble_eq_true rfl) ⟨Nat.le_refl _, Nat.le_refl _⟩ ⟨Nat.le_refl _, Nat.le_refl _⟩ (show decode cX11_document 31 = .ok (.invokevirtual 185, 3) by decide +kernel) ?_
  rintro _ _ ⟨x, σ', rfl, rfl, hq⟩ _
  exact (k x σ' hq)
theorem S_X11_document_34 {G : am_G} {d : Nat} {Q : Int → am_D → Prop} {σ : am_D} {s0 : Int} (hr1 : -2147483648 ≤ s0 ∧ s0 ≤ 2147483647) (k1 : s0 = 0 → am_X (am_FI G (d + 1) Q) mX11_document (0, 0) 49 [some (am_r (some 91)), none] [] (am_K0, σ)) (k2 : ¬ (s0 = 0) → am_X (am_FI G (d + 1) Q) mX11_document (0, 0) 37 [some (am_r (some 91)), none] [] (am_K0, σ)) : am_X (am_FI G (d + 1) Q) mX11_document (0, 0) 34 [some (am_r (some 91)), none] [am_i s0] (am_K0, σ) := by
  refine am_r_if_eq (tg := 49) (nx := 37) (show decode cX11_document 34 = .ok (.ifCond .eq 15, 3) by decide +kernel) (by decide) rfl hr1 ?_ ?_
  · exact fun q => k1 q
  · exact fun q => k2 q
theorem S_X11_document_37 {G : am_G} {d : Nat} {Q : Int → am_D → Prop} {σ : am_D}  (hr1 : -2147483648 ≤ (σ.1 91 6) ∧ (σ.1 91 6) ≤ 2147483647) (k1 : (σ.1 91 6) = 0 → am_X (am_FI G (d + 1) Q) mX11_document (0, 0) 49 [some (am_r (some 91)), none] [] (am_K0, σ)) (k2 : ¬ ((σ.1 91 6) = 0) → am_X (am_FI G (d + 1) Q) mX11_document (0, 0) 44 [some (am_r (some 91)), none] [] (am_K0, σ)) : am_X (am_FI G (d + 1) Q) mX11_document (0, 0) 37 [some (am_r (some 91)), none] [] (am_K0, σ) := by
  refine am_r_aload_n (nx := 38) rfl rfl (show decode cX11_document 37 = .ok (.aload_n 0, 1) by decide +kernel) rfl ?_
  refine am_r_getI (nx := 41) 6 cw11 (by decide) rfl (Or.inl fl_X11_169) (ob_91) (show decode cX11_document 38 = .ok (.getfield 169, 3) by decide +kernel) rfl ?_
  refine am_r_if_eq (tg := 49) (nx := 44) (show decode cX11_document 41 = .ok (.ifCond .eq 8, 3) by decide +kernel) (by decide) rfl hr1 ?_ ?_
  · exact fun q => k1 q
  · exact fun q => k2 q
theorem S_X11_document_44 {G : am_G} {d : Nat} {Q : Int → am_D → Prop} {σ : am_D} {Q' : am_D → Prop} (hc : am_MV G d mX11_fails [am_r (some 91), am_i 1] σ Q') (k : ∀ σ' : am_D, Q' σ' → am_X (am_FI G (d + 1) Q) mX11_document (0, 0) 49 [some (am_r (some 91)), none] [] (am_K0, σ')) : am_X (am_FI G (d + 1) Q) mX11_document (0, 0) 44 [some (am_r (some 91)), none] [] (am_K0, σ) := by
  refine am_r_aload_n (nx := 45) rfl rfl (show decode cX11_document 44 = .ok (.aload_n 0, 1) by decide +kernel) rfl ?_
  refine am_r_iconst (nx := 46) (show decode cX11_document 45 = .ok (.iconst 1, 1) by decide +kernel) rfl ?_
  refine am_r_callV (as := [am_i 1]) (st := []) hc mb_X11_fails mv_X11_fails (Or.inl ml_X11_202) (ob_91) (by omega) (r := (RX11, TX11, 63)) rfl rfl rfl rfl (Nat.le_of_ble_eq_true rfl) ⟨Nat.le_refl _, Nat.le_refl _⟩ ⟨Nat.le_refl _, Nat.le_refl _⟩ (show decode cX11_document 46 = .ok (.invokevirtual 202, 3) by decide +kernel) ?_
  rintro _ _ ⟨σ', rfl, rfl, hq⟩ _
  exact (k σ' hq)
theorem S_X11_document_49 {G : am_G} {d : Nat} {Q : Int → am_D → Prop} {σ : am_D} {Q' : Int → am_D → Prop} (hc : am_MI G d mX11_isGood [am_r (some 91)] σ Q') (k : ∀ (x : Int) (σ' : am_D), Q' x σ' → am_X (am_FI G (d + 1) Q) mX11_document (0, 0) 53 [some (am_r (some 91)), none] [am_i x] (am_K0, σ')) : am_X (am_FI G (d + 1) Q) mX11_document (0, 0) 49 [some (am_r (some 91)), none] [] (am_K0, σ) := by
  refine am_r_aload_n (nx := 50) rfl rfl (show decode cX11_document 49 = .ok (.aload_n 0, 1) by decide +kernel) rfl ?_
  refine am_r_callV (as := []) (st := []) hc mb_X11_isGood mv_X11_isGood (Or.inl ml_X11_185) (ob_91) (by omega) (r := (RX11, TX11, 63)) rfl rfl rfl rfl (Nat.le_of_ble_eq_true rfl) ⟨Nat.le_refl _, Nat.le_refl _⟩ ⟨Nat.le_refl _, Nat.le_refl _⟩ (show decode cX11_document 50 = .ok (.invokevirtual 185, 3) by decide +kernel) ?_
  rintro _ _ ⟨x, σ', rfl, rfl, hq⟩ _
  exact (k x σ' hq)
theorem S_X11_document_53 {G : am_G} {d : Nat} {Q : Int → am_D → Prop} {σ : am_D} {s0 : Int} (hr1 : -2147483648 ≤ s0 ∧ s0 ≤ 2147483647) (k1 : ¬ s0 = 0 → am_X (am_FI G (d + 1) Q) mX11_document (0, 0) 59 [some (am_r (some 91)), none] [] (am_K0, σ)) (k2 : ¬ (¬ s0 = 0) → am_X (am_FI G (d + 1) Q) mX11_document (0, 0) 56 [none, none] [] (am_K0, σ)) : am_X (am_FI G (d + 1) Q) mX11_document (0, 0) 53 [some (am_r (some 91)), none] [am_i s0] (am_K0, σ) := by
  refine am_r_if_ne (tg := 59) (nx := 56) (show decode cX11_document 53 = .ok (.ifCond .ne 6, 3) by decide +kernel) (by decide) rfl hr1 ?_ ?_
  · exact fun q => k1 q
  · exact fun q => am_x_fg [0] (k2 q)
theorem S_X11_document_56 {G : am_G} {d : Nat} {Q : Int → am_D → Prop} {σ : am_D}   (k : Q (-2) σ) : am_X (am_FI G (d + 1) Q) mX11_document (0, 0) 56 [none, none] [] (am_K0, σ) := by
  refine am_r_bipush (nx := 58) rfl (show decode cX11_document 56 = .ok (.bipush (-2), 2) by decide +kernel) rfl ?_
  exact am_r_iret rfl rfl (show decode cX11_document 58 = .ok (.ireturn, 1) by decide +kernel) ⟨_, _, rfl, rfl, k⟩
theorem S_X11_document_59 {G : am_G} {d : Nat} {Q : Int → am_D → Prop} {σ : am_D}   (k : am_X (am_FI G (d + 1) Q) mX11_document (0, 0) 67 [some (am_r (some 91)), none] [] (am_K0, (am_pI σ 91 25 (σ.1 91 26)))) : am_X (am_FI G (d + 1) Q) mX11_document (0, 0) 59 [some (am_r (some 91)), none] [] (am_K0, σ) := by
  refine am_r_aload_n (nx := 60) rfl rfl (show decode cX11_document 59 = .ok (.aload_n 0, 1) by decide +kernel) rfl ?_
  refine am_r_aload_n (nx := 61) rfl rfl (show decode cX11_document 60 = .ok (.aload_n 0, 1) by decide +kernel) rfl ?_
  refine am_r_getI (nx := 64) 26 cw11 (by decide) rfl (Or.inl fl_X11_290) (ob_91) (show decode cX11_document 61 = .ok (.getfield 290, 3) by decide +kernel) rfl ?_
  refine am_r_putI (nx := 67) 25 cw11 (by decide) rfl (Or.inl fl_X11_299) (ob_91) rfl (Or.inl rfl) (show decode cX11_document 64 = .ok (.putfield 299, 3) by decide +kernel) rfl ?_
  exact k
theorem S_X11_document_67 {G : am_G} {d : Nat} {Q : Int → am_D → Prop} {σ : am_D}   (k : am_X (am_FI G (d + 1) Q) mX11_document (0, 0) 69 [some (am_r (some 91)), some (am_i 0)] [] (am_K0, σ)) : am_X (am_FI G (d + 1) Q) mX11_document (0, 0) 67 [some (am_r (some 91)), none] [] (am_K0, σ) := by
  refine am_r_iconst (nx := 68) (show decode cX11_document 67 = .ok (.iconst 0, 1) by decide +kernel) rfl ?_
  refine am_r_istore_n (nx := 69) rfl (by decide) rfl (show decode cX11_document 68 = .ok (.istore_n 1, 1) by decide +kernel) rfl ?_
  exact k
theorem S_X11_document_69 {G : am_G} {d : Nat} {Q : Int → am_D → Prop} {σ : am_D} {v1 : Int} (hr1 : -2147483648 ≤ v1 ∧ v1 ≤ 2147483647) (hr2 : -2147483648 ≤ (σ.1 91 26) ∧ (σ.1 91 26) ≤ 2147483647) (k1 : (σ.1 91 26) ≤ v1 → am_X (am_FI G (d + 1) Q) mX11_document (0, 0) 95 [some (am_r (some 91)), none] [] (am_K0, σ)) (k2 : ¬ ((σ.1 91 26) ≤ v1) → am_X (am_FI G (d + 1) Q) mX11_document (0, 0) 77 [some (am_r (some 91)), some (am_i v1)] [] (am_K0, σ)) : am_X (am_FI G (d + 1) Q) mX11_document (0, 0) 69 [some (am_r (some 91)), some (am_i v1)] [] (am_K0, σ) := by
  refine am_r_iload_n (nx := 70) rfl rfl (show decode cX11_document 69 = .ok (.iload_n 1, 1) by decide +kernel) rfl ?_
  refine am_r_aload_n (nx := 71) rfl rfl (show decode cX11_document 70 = .ok (.aload_n 0, 1) by decide +kernel) rfl ?_
  refine am_r_getI (nx := 74) 26 cw11 (by decide) rfl (Or.inl fl_X11_290) (ob_91) (show decode cX11_document 71 = .ok (.getfield 290, 3) by decide +kernel) rfl ?_
  refine am_r_icmp_ge (tg := 95) (nx := 77) (show decode cX11_document 74 = .ok (.if_icmp .ge 21, 3) by decide +kernel) (by decide) rfl hr1 hr2 ?_ ?_
  · exact fun q => am_x_fg [1] (k1 q)
  · exact fun q => k2 q
theorem S_X11_document_77 {G : am_G} {d : Nat} {Q : Int → am_D → Prop} {σ : am_D} {v1 : Int} (hi1 : 0 ≤ v1) (hj2 : v1 < 80) (hi3 : 0 ≤ v1) (hj4 : v1 < 80) (k : am_X (am_FI G (d + 1) Q) mX11_document (0, 0) 89 [some (am_r (some 91)), some (am_i v1)] [] (am_K0, (am_pI σ 107 v1 (σ.1 108 v1)))) : am_X (am_FI G (d + 1) Q) mX11_document (0, 0) 77 [some (am_r (some 91)), some (am_i v1)] [] (am_K0, σ) := by
  refine am_r_aload_n (nx := 78) rfl rfl (show decode cX11_document 77 = .ok (.aload_n 0, 1) by decide +kernel) rfl ?_
  refine am_r_getF (nx := 81) 22 cw11 (by decide) rfl (Or.inl fl_X11_57) (ob_91) (fn_91_22) (show decode cX11_document 78 = .ok (.getfield 57, 3) by decide +kernel) rfl ?_
  refine am_r_iload_n (nx := 82) rfl rfl (show decode cX11_document 81 = .ok (.iload_n 1, 1) by decide +kernel) rfl ?_
  refine am_r_aload_n (nx := 83) rfl rfl (show decode cX11_document 82 = .ok (.aload_n 0, 1) by decide +kernel) rfl ?_
  refine am_r_getF (nx := 86) 23 cw11 (by decide) rfl (Or.inl fl_X11_60) (ob_91) (fn_91_23) (show decode cX11_document 83 = .ok (.getfield 60, 3) by decide +kernel) rfl ?_
  refine am_r_iload_n (nx := 87) rfl rfl (show decode cX11_document 86 = .ok (.iload_n 1, 1) by decide +kernel) rfl ?_
  refine am_r_iald (nx := 88) (sh_108) (am_shle (sh_108)) hi1 hj2 (show decode cX11_document 87 = .ok (.iaload, 1) by decide +kernel) rfl ?_
  refine am_r_iast (nx := 89) (sh_107) (am_shle (sh_107)) hi3 hj4 (show decode cX11_document 88 = .ok (.iastore, 1) by decide +kernel) rfl ?_
  exact k
theorem S_X11_document_89 {G : am_G} {d : Nat} {Q : Int → am_D → Prop} {σ : am_D} {v1 : Int}  (k : am_X (am_FI G (d + 1) Q) mX11_document (0, 0) 69 [some (am_r (some 91)), some (am_i (v1 + 1))] [] (am_K0, σ)) : am_X (am_FI G (d + 1) Q) mX11_document (0, 0) 89 [some (am_r (some 91)), some (am_i v1)] [] (am_K0, σ) := by
  refine am_r_iinc (nx := 92) rfl rfl (show decode cX11_document 89 = .ok (.iinc 1 1, 3) by decide +kernel) rfl ?_
  refine am_r_goto (tg := 69) (show decode cX11_document 92 = .ok (.goto (-23), 3) by decide +kernel) (by decide) ?_
  exact k
theorem S_X11_document_95 {G : am_G} {d : Nat} {Q : Int → am_D → Prop} {σ : am_D}  (hr1 : -2147483648 ≤ (σ.1 91 25) ∧ (σ.1 91 25) ≤ 2147483647) (k : Q (Int.tdiv (σ.1 91 25) 2) σ) : am_X (am_FI G (d + 1) Q) mX11_document (0, 0) 95 [some (am_r (some 91)), none] [] (am_K0, σ) := by
  refine am_r_aload_n (nx := 96) rfl rfl (show decode cX11_document 95 = .ok (.aload_n 0, 1) by decide +kernel) rfl ?_
  refine am_r_getI (nx := 99) 25 cw11 (by decide) rfl (Or.inl fl_X11_299) (ob_91) (show decode cX11_document 96 = .ok (.getfield 299, 3) by decide +kernel) rfl ?_
  refine am_r_iconst (nx := 100) (show decode cX11_document 99 = .ok (.iconst 2, 1) by decide +kernel) rfl ?_
  refine am_r_idiv (nx := 101) hr1 (by omega) (show decode cX11_document 100 = .ok (.idiv, 1) by decide +kernel) rfl ?_
  exact am_r_iret rfl rfl (show decode cX11_document 101 = .ok (.ireturn, 1) by decide +kernel) ⟨_, _, rfl, rfl, k⟩
theorem S_X11_fault_0 {G : am_G} {d : Nat} {Q : Int → am_D → Prop} {σ : am_D}   (k : Q (σ.1 91 2) σ) : am_X (am_FI G (d + 1) Q) mX11_fault (0, 0) 0 [some (am_r (some 91))] [] (am_K0, σ) := by
  refine am_r_aload_n (nx := 1) rfl rfl (show decode cX11_fault 0 = .ok (.aload_n 0, 1) by decide +kernel) rfl ?_
  refine am_r_getI (nx := 4) 2 cw11 (by decide) rfl (Or.inl fl_X11_179) (ob_91) (show decode cX11_fault 1 = .ok (.getfield 179, 3) by decide +kernel) rfl ?_
  exact am_r_iret rfl rfl (show decode cX11_fault 4 = .ok (.ireturn, 1) by decide +kernel) ⟨_, _, rfl, rfl, k⟩
theorem S_X11_isMachine_0 {G : am_G} {d : Nat} {Q : Int → am_D → Prop} {σ : am_D} {v1 : Int} {Q' : Int → am_D → Prop} (hc : am_MI G d mX11_isIn [am_i v1, am_i 0, am_i 3] σ Q') (k : ∀ (x : Int) (σ' : am_D), Q' x σ' → am_X (am_FI G (d + 1) Q) mX11_isMachine (0, 0) 6 [some (am_r (some 91)), some (am_i v1)] [am_i x] (am_K0, σ')) : am_X (am_FI G (d + 1) Q) mX11_isMachine (0, 0) 0 [some (am_r (some 91)), some (am_i v1)] [] (am_K0, σ) := by
  refine am_r_iload_n (nx := 1) rfl rfl (show decode cX11_isMachine 0 = .ok (.iload_n 1, 1) by decide +kernel) rfl ?_
  refine am_r_iconst (nx := 2) (show decode cX11_isMachine 1 = .ok (.iconst 0, 1) by decide +kernel) rfl ?_
  refine am_r_iconst (nx := 3) (show decode cX11_isMachine 2 = .ok (.iconst 3, 1) by decide +kernel) rfl ?_
  refine am_r_callS (as := [am_i v1, am_i 0, am_i 3]) (st := []) hc mb_X11_isIn mv_X11_isIn (Or.inl ml_X11_156) rfl rfl (Nat.le_of_ble_eq_true rfl) ⟨Nat.le_refl _, Nat.le_refl _⟩ ⟨Nat.le_refl _, Nat.le_refl _⟩ (show decode cX11_isMachine 3 = .ok (.invokestatic 156, 3) by decide +kernel) ?_
  rintro _ _ ⟨x, σ', rfl, rfl, hq⟩ _
  exact (k x σ' hq)
theorem S_X11_isMachine_6 {G : am_G} {d : Nat} {Q : Int → am_D → Prop} {σ : am_D} {v1 : Int} {s0 : Int} (hr1 : -2147483648 ≤ s0 ∧ s0 ≤ 2147483647) (k1 : s0 = 0 → am_X (am_FI G (d + 1) Q) mX11_isMachine (0, 0) 22 [none, none] [] (am_K0, σ)) (k2 : ¬ (s0 = 0) → am_X (am_FI G (d + 1) Q) mX11_isMachine (0, 0) 9 [some (am_r (some 91)), some (am_i v1)] [] (am_K0, σ)) : am_X (am_FI G (d + 1) Q) mX11_isMachine (0, 0) 6 [some (am_r (some 91)), some (am_i v1)] [am_i s0] (am_K0, σ) := by
  refine am_r_if_eq (tg := 22) (nx := 9) (show decode cX11_isMachine 6 = .ok (.ifCond .eq 16, 3) by decide +kernel) (by decide) rfl hr1 ?_ ?_
  · exact fun q => am_x_fg [0, 1] (k1 q)
  · exact fun q => k2 q
theorem S_X11_isMachine_9 {G : am_G} {d : Nat} {Q : Int → am_D → Prop} {σ : am_D} {v1 : Int} (hi1 : 0 ≤ v1) (hj2 : v1 < 6) (hr3 : -2147483648 ≤ (σ.1 93 v1) ∧ (σ.1 93 v1) ≤ 2147483647) (k1 : (σ.1 93 v1) = 0 → am_X (am_FI G (d + 1) Q) mX11_isMachine (0, 0) 22 [none, none] [] (am_K0, σ)) (k2 : ¬ ((σ.1 93 v1) = 0) → am_X (am_FI G (d + 1) Q) mX11_isMachine (0, 0) 18 [none, none] [] (am_K0, σ)) : am_X (am_FI G (d + 1) Q) mX11_isMachine (0, 0) 9 [some (am_r (some 91)), some (am_i v1)] [] (am_K0, σ) := by
  refine am_r_aload_n (nx := 10) rfl rfl (show decode cX11_isMachine 9 = .ok (.aload_n 0, 1) by decide +kernel) rfl ?_
  refine am_r_getF (nx := 13) 7 cw11 (by decide) rfl (Or.inl fl_X11_13) (ob_91) (fn_91_7) (show decode cX11_isMachine 10 = .ok (.getfield 13, 3) by decide +kernel) rfl ?_
  refine am_r_iload_n (nx := 14) rfl rfl (show decode cX11_isMachine 13 = .ok (.iload_n 1, 1) by decide +kernel) rfl ?_
  refine am_r_zald (nx := 15) (sh_93) (am_shle (sh_93)) hi1 hj2 (show decode cX11_isMachine 14 = .ok (.baload, 1) by decide +kernel) rfl ?_
  refine am_r_if_eq (tg := 22) (nx := 18) (show decode cX11_isMachine 15 = .ok (.ifCond .eq 7, 3) by decide +kernel) (by decide) rfl hr3 ?_ ?_
  · exact fun q => am_x_fg [0, 1] (k1 q)
  · exact fun q => am_x_fg [0, 1] (k2 q)
theorem S_X11_isMachine_18 {G : am_G} {d : Nat} {Q : Int → am_D → Prop} {σ : am_D}   (k : am_X (am_FI G (d + 1) Q) mX11_isMachine (0, 0) 23 [none, none] [am_i 1] (am_K0, σ)) : am_X (am_FI G (d + 1) Q) mX11_isMachine (0, 0) 18 [none, none] [] (am_K0, σ) := by
  refine am_r_iconst (nx := 19) (show decode cX11_isMachine 18 = .ok (.iconst 1, 1) by decide +kernel) rfl ?_
  refine am_r_goto (tg := 23) (show decode cX11_isMachine 19 = .ok (.goto 4, 3) by decide +kernel) (by decide) ?_
  exact k
theorem S_X11_isMachine_22 {G : am_G} {d : Nat} {Q : Int → am_D → Prop} {σ : am_D}   (k : am_X (am_FI G (d + 1) Q) mX11_isMachine (0, 0) 23 [none, none] [am_i 0] (am_K0, σ)) : am_X (am_FI G (d + 1) Q) mX11_isMachine (0, 0) 22 [none, none] [] (am_K0, σ) := by
  refine am_r_iconst (nx := 23) (show decode cX11_isMachine 22 = .ok (.iconst 0, 1) by decide +kernel) rfl ?_
  exact k
theorem S_X11_isMachine_23 {G : am_G} {d : Nat} {Q : Int → am_D → Prop} {σ : am_D} {s0 : Int} (hz : s0 = 0 ∨ s0 = 1) (k : Q s0 σ) : am_X (am_FI G (d + 1) Q) mX11_isMachine (0, 0) 23 [none, none] [am_i s0] (am_K0, σ) := by
  exact am_r_iret rfl (by rcases hz with hz | hz <;> rw [hz] <;> rfl) (show decode cX11_isMachine 23 = .ok (.ireturn, 1) by decide +kernel) ⟨_, _, rfl, rfl, k⟩
end
