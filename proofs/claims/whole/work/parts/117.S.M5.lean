section
theorem S_X11_many_0 {G : am_G} {d : Nat} {Q : Int64 → am_D → Prop} {σ : am_D} {v1 : Int} {v2 : Int} {Q' : Int → am_D → Prop} (hc : am_MI G d mX11_isMachine [am_r (some 91), am_i v1] σ Q') (k : ∀ (x : Int) (σ' : am_D), Q' x σ' → am_X (am_FJ G (d + 1) Q) mX11_many (0, 0) 5 [some (am_r (some 91)), some (am_i v1), some (am_i v2), none, none, none] [am_i x] (am_K0, σ')) : am_X (am_FJ G (d + 1) Q) mX11_many (0, 0) 0 [some (am_r (some 91)), some (am_i v1), some (am_i v2), none, none, none] [] (am_K0, σ) := by
  refine am_r_aload_n (nx := 1) rfl rfl (show decode cX11_many 0 = .ok (.aload_n 0, 1) by decide +kernel) rfl ?_
  refine am_r_iload_n (nx := 2) rfl rfl (show decode cX11_many 1 = .ok (.iload_n 1, 1) by decide +kernel) rfl ?_
  refine am_r_callV (as := [am_i v1]) (st := []) hc mb_X11_isMachine mv_X11_isMachine (Or.inl ml_X11_307) (ob_91) (by omega) (r := (RX11, TX11, 63)) rfl rfl rfl rfl (Nat.le_of_ble_eq_true rfl) ⟨Nat.le_refl _, Nat.le_refl _⟩ ⟨Nat.le_refl _, Nat.le_refl _⟩ (show decode cX11_many 2 = .ok (.invokevirtual 307, 3) by decide +kernel) ?_
  rintro _ _ ⟨x, σ', rfl, rfl, hq⟩ _
  exact (k x σ' hq)
theorem S_X11_many_5 {G : am_G} {d : Nat} {Q : Int64 → am_D → Prop} {σ : am_D} {v1 : Int} {v2 : Int} {s0 : Int} (hr1 : -2147483648 ≤ s0 ∧ s0 ≤ 2147483647) (k1 : s0 = 0 → am_X (am_FJ G (d + 1) Q) mX11_many (0, 0) 18 [none, none, none, none, none, none] [] (am_K0, σ)) (k2 : ¬ (s0 = 0) → am_X (am_FJ G (d + 1) Q) mX11_many (0, 0) 8 [some (am_r (some 91)), some (am_i v1), some (am_i v2), none, none, none] [] (am_K0, σ)) : am_X (am_FJ G (d + 1) Q) mX11_many (0, 0) 5 [some (am_r (some 91)), some (am_i v1), some (am_i v2), none, none, none] [am_i s0] (am_K0, σ) := by
  refine am_r_if_eq (tg := 18) (nx := 8) (show decode cX11_many 5 = .ok (.ifCond .eq 13, 3) by decide +kernel) (by decide) rfl hr1 ?_ ?_
  · exact fun q => am_x_fg [0, 1, 2] (k1 q)
  · exact fun q => k2 q
theorem S_X11_many_8 {G : am_G} {d : Nat} {Q : Int64 → am_D → Prop} {σ : am_D} {v1 : Int} {v2 : Int} {Q' : Int → am_D → Prop} (hc : am_MI G d mX11_isIn [am_i v2, am_i 0, am_i 16] σ Q') (k : ∀ (x : Int) (σ' : am_D), Q' x σ' → am_X (am_FJ G (d + 1) Q) mX11_many (0, 0) 15 [some (am_r (some 91)), some (am_i v1), some (am_i v2), none, none, none] [am_i x] (am_K0, σ')) : am_X (am_FJ G (d + 1) Q) mX11_many (0, 0) 8 [some (am_r (some 91)), some (am_i v1), some (am_i v2), none, none, none] [] (am_K0, σ) := by
  refine am_r_iload_n (nx := 9) rfl rfl (show decode cX11_many 8 = .ok (.iload_n 2, 1) by decide +kernel) rfl ?_
  refine am_r_iconst (nx := 10) (show decode cX11_many 9 = .ok (.iconst 0, 1) by decide +kernel) rfl ?_
  refine am_r_bipush (nx := 12) rfl (show decode cX11_many 10 = .ok (.bipush 16, 2) by decide +kernel) rfl ?_
  refine am_r_callS (as := [am_i v2, am_i 0, am_i 16]) (st := []) hc mb_X11_isIn mv_X11_isIn (Or.inl ml_X11_156) rfl rfl (Nat.le_of_ble_eq_true rfl) ⟨Nat.le_refl _, Nat.le_refl _⟩ ⟨Nat.le_refl _, Nat.le_refl _⟩ (show decode cX11_many 12 = .ok (.invokestatic 156, 3) by decide +kernel) ?_
  rintro _ _ ⟨x, σ', rfl, rfl, hq⟩ _
  exact (k x σ' hq)
theorem S_X11_many_15 {G : am_G} {d : Nat} {Q : Int64 → am_D → Prop} {σ : am_D} {v1 : Int} {v2 : Int} {s0 : Int} (hr1 : -2147483648 ≤ s0 ∧ s0 ≤ 2147483647) (k1 : ¬ s0 = 0 → am_X (am_FJ G (d + 1) Q) mX11_many (0, 0) 22 [some (am_r (some 91)), some (am_i v1), some (am_i v2), none, none, none] [] (am_K0, σ)) (k2 : ¬ (¬ s0 = 0) → am_X (am_FJ G (d + 1) Q) mX11_many (0, 0) 18 [none, none, none, none, none, none] [] (am_K0, σ)) : am_X (am_FJ G (d + 1) Q) mX11_many (0, 0) 15 [some (am_r (some 91)), some (am_i v1), some (am_i v2), none, none, none] [am_i s0] (am_K0, σ) := by
  refine am_r_if_ne (tg := 22) (nx := 18) (show decode cX11_many 15 = .ok (.ifCond .ne 7, 3) by decide +kernel) (by decide) rfl hr1 ?_ ?_
  · exact fun q => k1 q
  · exact fun q => am_x_fg [0, 1, 2] (k2 q)
theorem S_X11_many_18 {G : am_G} {d : Nat} {Q : Int64 → am_D → Prop} {σ : am_D}   (k : Q (-1) σ) : am_X (am_FJ G (d + 1) Q) mX11_many (0, 0) 18 [none, none, none, none, none, none] [] (am_K0, σ) := by
  refine am_r_ldc2 (nx := 21) (n := (-1)) (am_mt 1457 (by decide +kernel) rfl) (show decode cX11_many 18 = .ok (.ldc2_w 402, 3) by decide +kernel) rfl ?_
  exact am_r_lret rfl (show decode cX11_many 21 = .ok (.lreturn, 1) by decide +kernel) ⟨_, _, rfl, rfl, k⟩
theorem S_X11_many_22 {G : am_G} {d : Nat} {Q : Int64 → am_D → Prop} {σ : am_D} {v1 : Int} {v2 : Int}  (k : am_X (am_FJ G (d + 1) Q) mX11_many (0, 0) 24 [some (am_r (some 91)), some (am_i v1), some (am_i v2), some (am_i 0), none, none] [] (am_K0, σ)) : am_X (am_FJ G (d + 1) Q) mX11_many (0, 0) 22 [some (am_r (some 91)), some (am_i v1), some (am_i v2), none, none, none] [] (am_K0, σ) := by
  refine am_r_iconst (nx := 23) (show decode cX11_many 22 = .ok (.iconst 0, 1) by decide +kernel) rfl ?_
  refine am_r_istore_n (nx := 24) rfl (by decide) rfl (show decode cX11_many 23 = .ok (.istore_n 3, 1) by decide +kernel) rfl ?_
  exact k
theorem S_X11_many_24 {G : am_G} {d : Nat} {Q : Int64 → am_D → Prop} {σ : am_D} {v1 : Int} {v2 : Int} {v3 : Int} (hr1 : -2147483648 ≤ v3 ∧ v3 ≤ 2147483647) (hr2 : -2147483648 ≤ v2 ∧ v2 ≤ 2147483647) (k1 : v2 < v3 → am_X (am_FJ G (d + 1) Q) mX11_many (0, 0) 114 [some (am_r (some 91)), some (am_i v1), some (am_i v2), none, none, none] [] (am_K0, σ)) (k2 : ¬ (v2 < v3) → am_X (am_FJ G (d + 1) Q) mX11_many (0, 0) 29 [some (am_r (some 91)), some (am_i v1), some (am_i v2), some (am_i v3), none, none] [] (am_K0, σ)) : am_X (am_FJ G (d + 1) Q) mX11_many (0, 0) 24 [some (am_r (some 91)), some (am_i v1), some (am_i v2), some (am_i v3), none, none] [] (am_K0, σ) := by
  refine am_r_iload_n (nx := 25) rfl rfl (show decode cX11_many 24 = .ok (.iload_n 3, 1) by decide +kernel) rfl ?_
  refine am_r_iload_n (nx := 26) rfl rfl (show decode cX11_many 25 = .ok (.iload_n 2, 1) by decide +kernel) rfl ?_
  refine am_r_icmp_gt (tg := 114) (nx := 29) (show decode cX11_many 26 = .ok (.if_icmp .gt 88, 3) by decide +kernel) (by decide) rfl hr1 hr2 ?_ ?_
  · exact fun q => am_x_fg [3] (k1 q)
  · exact fun q => k2 q
theorem S_X11_many_29 {G : am_G} {d : Nat} {Q : Int64 → am_D → Prop} {σ : am_D} {v1 : Int} {v2 : Int} {v3 : Int}  (k : am_X (am_FJ G (d + 1) Q) mX11_many (0, 0) 32 [some (am_r (some 91)), some (am_i v1), some (am_i v2), some (am_i v3), some (am_i 0), none] [] (am_K0, σ)) : am_X (am_FJ G (d + 1) Q) mX11_many (0, 0) 29 [some (am_r (some 91)), some (am_i v1), some (am_i v2), some (am_i v3), none, none] [] (am_K0, σ) := by
  refine am_r_iconst (nx := 30) (show decode cX11_many 29 = .ok (.iconst 0, 1) by decide +kernel) rfl ?_
  refine am_r_istore (nx := 32) (by decide) rfl (show decode cX11_many 30 = .ok (.istore 4, 2) by decide +kernel) rfl ?_
  exact k
theorem S_X11_many_32 {G : am_G} {d : Nat} {Q : Int64 → am_D → Prop} {σ : am_D} {v1 : Int} {v2 : Int} {v3 : Int} {v4 : Int} (hr1 : -2147483648 ≤ v4 ∧ v4 ≤ 2147483647) (k1 : 6 ≤ v4 → am_X (am_FJ G (d + 1) Q) mX11_many (0, 0) 108 [some (am_r (some 91)), some (am_i v1), some (am_i v2), some (am_i v3), none, none] [] (am_K0, σ)) (k2 : ¬ (6 ≤ v4) → am_X (am_FJ G (d + 1) Q) mX11_many (0, 0) 39 [some (am_r (some 91)), some (am_i v1), some (am_i v2), some (am_i v3), some (am_i v4), none] [] (am_K0, σ)) : am_X (am_FJ G (d + 1) Q) mX11_many (0, 0) 32 [some (am_r (some 91)), some (am_i v1), some (am_i v2), some (am_i v3), some (am_i v4), none] [] (am_K0, σ) := by
  refine am_r_iload (nx := 34) rfl (show decode cX11_many 32 = .ok (.iload 4, 2) by decide +kernel) rfl ?_
  refine am_r_bipush (nx := 36) rfl (show decode cX11_many 34 = .ok (.bipush 6, 2) by decide +kernel) rfl ?_
  refine am_r_icmp_ge (tg := 108) (nx := 39) (show decode cX11_many 36 = .ok (.if_icmp .ge 72, 3) by decide +kernel) (by decide) rfl hr1 (by omega) ?_ ?_
  · exact fun q => am_x_fg [4] (k1 q)
  · exact fun q => k2 q
theorem S_X11_many_39 {G : am_G} {d : Nat} {Q : Int64 → am_D → Prop} {σ : am_D} {v1 : Int} {v2 : Int} {v3 : Int} {v4 : Int}  (k : am_X (am_FJ G (d + 1) Q) mX11_many (0, 0) 42 [some (am_r (some 91)), some (am_i v1), some (am_i v2), some (am_i v3), some (am_i v4), some (am_i 0)] [] (am_K0, σ)) : am_X (am_FJ G (d + 1) Q) mX11_many (0, 0) 39 [some (am_r (some 91)), some (am_i v1), some (am_i v2), some (am_i v3), some (am_i v4), none] [] (am_K0, σ) := by
  refine am_r_iconst (nx := 40) (show decode cX11_many 39 = .ok (.iconst 0, 1) by decide +kernel) rfl ?_
  refine am_r_istore (nx := 42) (by decide) rfl (show decode cX11_many 40 = .ok (.istore 5, 2) by decide +kernel) rfl ?_
  exact k
theorem S_X11_many_42 {G : am_G} {d : Nat} {Q : Int64 → am_D → Prop} {σ : am_D} {v1 : Int} {v2 : Int} {v3 : Int} {v4 : Int} {v5 : Int} (hr1 : -2147483648 ≤ v5 ∧ v5 ≤ 2147483647) (k1 : 6 ≤ v5 → am_X (am_FJ G (d + 1) Q) mX11_many (0, 0) 102 [some (am_r (some 91)), some (am_i v1), some (am_i v2), some (am_i v3), some (am_i v4), none] [] (am_K0, σ)) (k2 : ¬ (6 ≤ v5) → am_X (am_FJ G (d + 1) Q) mX11_many (0, 0) 49 [some (am_r (some 91)), some (am_i v1), some (am_i v2), some (am_i v3), some (am_i v4), some (am_i v5)] [] (am_K0, σ)) : am_X (am_FJ G (d + 1) Q) mX11_many (0, 0) 42 [some (am_r (some 91)), some (am_i v1), some (am_i v2), some (am_i v3), some (am_i v4), some (am_i v5)] [] (am_K0, σ) := by
  refine am_r_iload (nx := 44) rfl (show decode cX11_many 42 = .ok (.iload 5, 2) by decide +kernel) rfl ?_
  refine am_r_bipush (nx := 46) rfl (show decode cX11_many 44 = .ok (.bipush 6, 2) by decide +kernel) rfl ?_
  refine am_r_icmp_ge (tg := 102) (nx := 49) (show decode cX11_many 46 = .ok (.if_icmp .ge 56, 3) by decide +kernel) (by decide) rfl hr1 (by omega) ?_ ?_
  · exact fun q => am_x_fg [5] (k1 q)
  · exact fun q => k2 q
theorem S_X11_many_49 {G : am_G} {d : Nat} {Q : Int64 → am_D → Prop} {σ : am_D} {v1 : Int} {v2 : Int} {v3 : Int} {v4 : Int} {v5 : Int} (hr1 : -2147483648 ≤ v3 ∧ v3 ≤ 2147483647) (k1 : v3 ≤ 0 → am_X (am_FJ G (d + 1) Q) mX11_many (0, 0) 83 [some (am_r (some 91)), some (am_i v1), some (am_i v2), some (am_i v3), some (am_i v4), some (am_i v5)] [am_i (((36 * v3) + (6 * v4)) + v5), am_r (some 130)] (am_K0, σ)) (k2 : ¬ (v3 ≤ 0) → am_X (am_FJ G (d + 1) Q) mX11_many (0, 0) 70 [some (am_r (some 91)), some (am_i v1), some (am_i v2), some (am_i v3), some (am_i v4), some (am_i v5)] [am_i (((36 * v3) + (6 * v4)) + v5), am_r (some 130)] (am_K0, σ)) : am_X (am_FJ G (d + 1) Q) mX11_many (0, 0) 49 [some (am_r (some 91)), some (am_i v1), some (am_i v2), some (am_i v3), some (am_i v4), some (am_i v5)] [] (am_K0, σ) := by
  refine am_r_aload_n (nx := 50) rfl rfl (show decode cX11_many 49 = .ok (.aload_n 0, 1) by decide +kernel) rfl ?_
  refine am_r_getF (nx := 53) 56 cw11 (by decide) rfl (Or.inl fl_X11_127) (ob_91) (fn_91_56) (show decode cX11_many 50 = .ok (.getfield 127, 3) by decide +kernel) rfl ?_
  refine am_r_bipush (nx := 55) rfl (show decode cX11_many 53 = .ok (.bipush 36, 2) by decide +kernel) rfl ?_
  refine am_r_iload_n (nx := 56) rfl rfl (show decode cX11_many 55 = .ok (.iload_n 3, 1) by decide +kernel) rfl ?_
  refine am_r_imul (nx := 57) (show decode cX11_many 56 = .ok (.imul, 1) by decide +kernel) rfl ?_
  refine am_r_bipush (nx := 59) rfl (show decode cX11_many 57 = .ok (.bipush 6, 2) by decide +kernel) rfl ?_
  refine am_r_iload (nx := 61) rfl (show decode cX11_many 59 = .ok (.iload 4, 2) by decide +kernel) rfl ?_
  refine am_r_imul (nx := 62) (show decode cX11_many 61 = .ok (.imul, 1) by decide +kernel) rfl ?_
  refine am_r_iadd (nx := 63) (show decode cX11_many 62 = .ok (.iadd, 1) by decide +kernel) rfl ?_
  refine am_r_iload (nx := 65) rfl (show decode cX11_many 63 = .ok (.iload 5, 2) by decide +kernel) rfl ?_
  refine am_r_iadd (nx := 66) (show decode cX11_many 65 = .ok (.iadd, 1) by decide +kernel) rfl ?_
  refine am_r_iload_n (nx := 67) rfl rfl (show decode cX11_many 66 = .ok (.iload_n 3, 1) by decide +kernel) rfl ?_
  refine am_r_if_le (tg := 83) (nx := 70) (show decode cX11_many 67 = .ok (.ifCond .le 16, 3) by decide +kernel) (by decide) rfl hr1 ?_ ?_
  · exact fun q => k1 q
  · exact fun q => k2 q
theorem S_X11_many_70 {G : am_G} {d : Nat} {Q : Int64 → am_D → Prop} {σ : am_D} {v1 : Int} {v2 : Int} {v3 : Int} {v4 : Int} {v5 : Int} {s1 : Int} {Q' : Int64 → am_D → Prop} {s0 : Option Nat} (hc : am_MJ G d mX11_rowsOf [am_r (some 91), am_i v1, am_i v3, am_i v4, am_i v5] σ Q') (k : ∀ (x : Int64) (σ' : am_D), Q' x σ' → am_X (am_FJ G (d + 1) Q) mX11_many (0, 0) 80 [some (am_r (some 91)), some (am_i v1), some (am_i v2), some (am_i v3), some (am_i v4), some (am_i v5)] [am_l x, am_i s1, am_r s0] (am_K0, σ')) : am_X (am_FJ G (d + 1) Q) mX11_many (0, 0) 70 [some (am_r (some 91)), some (am_i v1), some (am_i v2), some (am_i v3), some (am_i v4), some (am_i v5)] [am_i s1, am_r s0] (am_K0, σ) := by
  refine am_r_aload_n (nx := 71) rfl rfl (show decode cX11_many 70 = .ok (.aload_n 0, 1) by decide +kernel) rfl ?_
  refine am_r_iload_n (nx := 72) rfl rfl (show decode cX11_many 71 = .ok (.iload_n 1, 1) by decide +kernel) rfl ?_
  refine am_r_iload_n (nx := 73) rfl rfl (show decode cX11_many 72 = .ok (.iload_n 3, 1) by decide +kernel) rfl ?_
  refine am_r_iload (nx := 75) rfl (show decode cX11_many 73 = .ok (.iload 4, 2) by decide +kernel) rfl ?_
  refine am_r_iload (nx := 77) rfl (show decode cX11_many 75 = .ok (.iload 5, 2) by decide +kernel) rfl ?_
  refine am_r_callV (as := [am_i v1, am_i v3, am_i v4, am_i v5]) (st := [am_i s1, am_r s0]) hc mb_X11_rowsOf mv_X11_rowsOf (Or.inl ml_X11_404) (ob_91) (by omega) (r := (RX11, TX11, 63)) rfl rfl rfl rfl (Nat.le_of_ble_eq_true rfl) ⟨Nat.le_refl _, Nat.le_refl _⟩ ⟨Nat.le_refl _, Nat.le_refl _⟩ (show decode cX11_many 77 = .ok (.invokevirtual 404, 3) by decide +kernel) ?_
  rintro _ _ ⟨x, σ', rfl, rfl, hq⟩ _
  exact (k x σ' hq)
theorem S_X11_many_80 {G : am_G} {d : Nat} {Q : Int64 → am_D → Prop} {σ : am_D} {v1 : Int} {v2 : Int} {v3 : Int} {v4 : Int} {v5 : Int} {s1 : Int} {s2 : Int64} {s0 : Option Nat}  (k : am_X (am_FJ G (d + 1) Q) mX11_many (0, 0) 95 [some (am_r (some 91)), some (am_i v1), some (am_i v2), some (am_i v3), some (am_i v4), some (am_i v5)] [am_l s2, am_i s1, am_r s0] (am_K0, σ)) : am_X (am_FJ G (d + 1) Q) mX11_many (0, 0) 80 [some (am_r (some 91)), some (am_i v1), some (am_i v2), some (am_i v3), some (am_i v4), some (am_i v5)] [am_l s2, am_i s1, am_r s0] (am_K0, σ) := by
  refine am_r_goto (tg := 95) (show decode cX11_many 80 = .ok (.goto 15, 3) by decide +kernel) (by decide) ?_
  exact k
theorem S_X11_many_83 {G : am_G} {d : Nat} {Q : Int64 → am_D → Prop} {σ : am_D} {v1 : Int} {v2 : Int} {v3 : Int} {v4 : Int} {v5 : Int} {s1 : Int} {s0 : Option Nat} (hr1 : -2147483648 ≤ v4 ∧ v4 ≤ 2147483647) (hr2 : -2147483648 ≤ v5 ∧ v5 ≤ 2147483647) (k1 : ¬ v4 = v5 → am_X (am_FJ G (d + 1) Q) mX11_many (0, 0) 94 [some (am_r (some 91)), some (am_i v1), some (am_i v2), some (am_i v3), some (am_i v4), some (am_i v5)] [am_i s1, am_r s0] (am_K0, σ)) (k2 : ¬ (¬ v4 = v5) → am_X (am_FJ G (d + 1) Q) mX11_many (0, 0) 90 [some (am_r (some 91)), some (am_i v1), some (am_i v2), some (am_i v3), some (am_i v4), some (am_i v5)] [am_i s1, am_r s0] (am_K0, σ)) : am_X (am_FJ G (d + 1) Q) mX11_many (0, 0) 83 [some (am_r (some 91)), some (am_i v1), some (am_i v2), some (am_i v3), some (am_i v4), some (am_i v5)] [am_i s1, am_r s0] (am_K0, σ) := by
  refine am_r_iload (nx := 85) rfl (show decode cX11_many 83 = .ok (.iload 4, 2) by decide +kernel) rfl ?_
  refine am_r_iload (nx := 87) rfl (show decode cX11_many 85 = .ok (.iload 5, 2) by decide +kernel) rfl ?_
  refine am_r_icmp_ne (tg := 94) (nx := 90) (show decode cX11_many 87 = .ok (.if_icmp .ne 7, 3) by decide +kernel) (by decide) rfl hr1 hr2 ?_ ?_
  · exact fun q => k1 q
  · exact fun q => k2 q
theorem S_X11_many_90 {G : am_G} {d : Nat} {Q : Int64 → am_D → Prop} {σ : am_D} {v1 : Int} {v2 : Int} {v3 : Int} {v4 : Int} {v5 : Int} {s1 : Int} {s0 : Option Nat}  (k : am_X (am_FJ G (d + 1) Q) mX11_many (0, 0) 95 [some (am_r (some 91)), some (am_i v1), some (am_i v2), some (am_i v3), some (am_i v4), some (am_i v5)] [am_l 1, am_i s1, am_r s0] (am_K0, σ)) : am_X (am_FJ G (d + 1) Q) mX11_many (0, 0) 90 [some (am_r (some 91)), some (am_i v1), some (am_i v2), some (am_i v3), some (am_i v4), some (am_i v5)] [am_i s1, am_r s0] (am_K0, σ) := by
  refine am_r_lconst (nx := 91) (v := 1) rfl (show decode cX11_many 90 = .ok (.lconst 1, 1) by decide +kernel) rfl ?_
  refine am_r_goto (tg := 95) (show decode cX11_many 91 = .ok (.goto 4, 3) by decide +kernel) (by decide) ?_
  exact k
theorem S_X11_many_94 {G : am_G} {d : Nat} {Q : Int64 → am_D → Prop} {σ : am_D} {v1 : Int} {v2 : Int} {v3 : Int} {v4 : Int} {v5 : Int} {s1 : Int} {s0 : Option Nat}  (k : am_X (am_FJ G (d + 1) Q) mX11_many (0, 0) 95 [some (am_r (some 91)), some (am_i v1), some (am_i v2), some (am_i v3), some (am_i v4), some (am_i v5)] [am_l 0, am_i s1, am_r s0] (am_K0, σ)) : am_X (am_FJ G (d + 1) Q) mX11_many (0, 0) 94 [some (am_r (some 91)), some (am_i v1), some (am_i v2), some (am_i v3), some (am_i v4), some (am_i v5)] [am_i s1, am_r s0] (am_K0, σ) := by
  refine am_r_lconst (nx := 95) (v := 0) rfl (show decode cX11_many 94 = .ok (.lconst 0, 1) by decide +kernel) rfl ?_
  exact k
theorem S_X11_many_95 {G : am_G} {d : Nat} {Q : Int64 → am_D → Prop} {σ : am_D} {v1 : Int} {v2 : Int} {v3 : Int} {v4 : Int} {v5 : Int} {s1 : Int} {s2 : Int64} {s0 : Nat} {n1 : Nat} (hs2 : am_sh am_SH s0 = (103, n1)) (hi3 : 0 ≤ s1) (hj4 : s1 < ((n1 : Nat) : Int)) (k : am_X (am_FJ G (d + 1) Q) mX11_many (0, 0) 96 [some (am_r (some 91)), some (am_i v1), some (am_i v2), some (am_i v3), some (am_i v4), some (am_i v5)] [] (am_K0, (am_pJ σ s0 s1 s2))) : am_X (am_FJ G (d + 1) Q) mX11_many (0, 0) 95 [some (am_r (some 91)), some (am_i v1), some (am_i v2), some (am_i v3), some (am_i v4), some (am_i v5)] [am_l s2, am_i s1, am_r (some s0)] (am_K0, σ) := by
  refine am_r_last (nx := 96) (hs2) (am_shle (hs2)) hi3 hj4 (show decode cX11_many 95 = .ok (.lastore, 1) by decide +kernel) rfl ?_
  exact k
theorem S_X11_many_96 {G : am_G} {d : Nat} {Q : Int64 → am_D → Prop} {σ : am_D} {v1 : Int} {v2 : Int} {v3 : Int} {v4 : Int} {v5 : Int}  (k : am_X (am_FJ G (d + 1) Q) mX11_many (0, 0) 42 [some (am_r (some 91)), some (am_i v1), some (am_i v2), some (am_i v3), some (am_i v4), some (am_i (v5 + 1))] [] (am_K0, σ)) : am_X (am_FJ G (d + 1) Q) mX11_many (0, 0) 96 [some (am_r (some 91)), some (am_i v1), some (am_i v2), some (am_i v3), some (am_i v4), some (am_i v5)] [] (am_K0, σ) := by
  refine am_r_iinc (nx := 99) rfl rfl (show decode cX11_many 96 = .ok (.iinc 5 1, 3) by decide +kernel) rfl ?_
  refine am_r_goto (tg := 42) (show decode cX11_many 99 = .ok (.goto (-57), 3) by decide +kernel) (by decide) ?_
  exact k
theorem S_X11_many_102 {G : am_G} {d : Nat} {Q : Int64 → am_D → Prop} {σ : am_D} {v1 : Int} {v2 : Int} {v3 : Int} {v4 : Int}  (k : am_X (am_FJ G (d + 1) Q) mX11_many (0, 0) 32 [some (am_r (some 91)), some (am_i v1), some (am_i v2), some (am_i v3), some (am_i (v4 + 1)), none] [] (am_K0, σ)) : am_X (am_FJ G (d + 1) Q) mX11_many (0, 0) 102 [some (am_r (some 91)), some (am_i v1), some (am_i v2), some (am_i v3), some (am_i v4), none] [] (am_K0, σ) := by
  refine am_r_iinc (nx := 105) rfl rfl (show decode cX11_many 102 = .ok (.iinc 4 1, 3) by decide +kernel) rfl ?_
  refine am_r_goto (tg := 32) (show decode cX11_many 105 = .ok (.goto (-73), 3) by decide +kernel) (by decide) ?_
  exact k
theorem S_X11_many_108 {G : am_G} {d : Nat} {Q : Int64 → am_D → Prop} {σ : am_D} {v1 : Int} {v2 : Int} {v3 : Int}  (k : am_X (am_FJ G (d + 1) Q) mX11_many (0, 0) 24 [some (am_r (some 91)), some (am_i v1), some (am_i v2), some (am_i (v3 + 1)), none, none] [] (am_K0, σ)) : am_X (am_FJ G (d + 1) Q) mX11_many (0, 0) 108 [some (am_r (some 91)), some (am_i v1), some (am_i v2), some (am_i v3), none, none] [] (am_K0, σ) := by
  refine am_r_iinc (nx := 111) rfl rfl (show decode cX11_many 108 = .ok (.iinc 3 1, 3) by decide +kernel) rfl ?_
  refine am_r_goto (tg := 24) (show decode cX11_many 111 = .ok (.goto (-87), 3) by decide +kernel) (by decide) ?_
  exact k
theorem S_X11_many_114 {G : am_G} {d : Nat} {Q : Int64 → am_D → Prop} {σ : am_D} {v1 : Int} {v2 : Int}  (k : am_X (am_FJ G (d + 1) Q) mX11_many (0, 0) 116 [some (am_r (some 91)), some (am_i v1), some (am_i v2), some (am_l 0), none, none] [] (am_K0, σ)) : am_X (am_FJ G (d + 1) Q) mX11_many (0, 0) 114 [some (am_r (some 91)), some (am_i v1), some (am_i v2), none, none, none] [] (am_K0, σ) := by
  refine am_r_lconst (nx := 115) (v := 0) rfl (show decode cX11_many 114 = .ok (.lconst 0, 1) by decide +kernel) rfl ?_
  refine am_r_lstore_n (nx := 116) rfl (by decide) rfl (show decode cX11_many 115 = .ok (.lstore_n 3, 1) by decide +kernel) rfl ?_
  exact k
theorem S_X11_many_116 {G : am_G} {d : Nat} {Q : Int64 → am_D → Prop} {σ : am_D} {v1 : Int} {v2 : Int} {v3 : Int64}  (k : am_X (am_FJ G (d + 1) Q) mX11_many (0, 0) 119 [some (am_r (some 91)), some (am_i v1), some (am_i v2), some (am_l v3), none, some (am_i 0)] [] (am_K0, σ)) : am_X (am_FJ G (d + 1) Q) mX11_many (0, 0) 116 [some (am_r (some 91)), some (am_i v1), some (am_i v2), some (am_l v3), none, none] [] (am_K0, σ) := by
  refine am_r_iconst (nx := 117) (show decode cX11_many 116 = .ok (.iconst 0, 1) by decide +kernel) rfl ?_
  refine am_r_istore (nx := 119) (by decide) rfl (show decode cX11_many 117 = .ok (.istore 5, 2) by decide +kernel) rfl ?_
  exact k
theorem S_X11_many_119 {G : am_G} {d : Nat} {Q : Int64 → am_D → Prop} {σ : am_D} {v1 : Int} {v2 : Int} {v3 : Int64} {v5 : Int} (hi1 : 0 ≤ v1) (hj2 : v1 < 6) (hr3 : -2147483648 ≤ v5 ∧ v5 ≤ 2147483647) (hr4 : -2147483648 ≤ (σ.1 94 v1) ∧ (σ.1 94 v1) ≤ 2147483647) (k1 : (σ.1 94 v1) ≤ v5 → am_X (am_FJ G (d + 1) Q) mX11_many (0, 0) 171 [none, none, none, some (am_l v3), none, none] [] (am_K0, σ)) (k2 : ¬ ((σ.1 94 v1) ≤ v5) → am_X (am_FJ G (d + 1) Q) mX11_many (0, 0) 130 [some (am_r (some 91)), some (am_i v1), some (am_i v2), some (am_l v3), none, some (am_i v5)] [] (am_K0, σ)) : am_X (am_FJ G (d + 1) Q) mX11_many (0, 0) 119 [some (am_r (some 91)), some (am_i v1), some (am_i v2), some (am_l v3), none, some (am_i v5)] [] (am_K0, σ) := by
  refine am_r_iload (nx := 121) rfl (show decode cX11_many 119 = .ok (.iload 5, 2) by decide +kernel) rfl ?_
  refine am_r_aload_n (nx := 122) rfl rfl (show decode cX11_many 121 = .ok (.aload_n 0, 1) by decide +kernel) rfl ?_
  refine am_r_getF (nx := 125) 8 cw11 (by decide) rfl (Or.inl fl_X11_17) (ob_91) (fn_91_8) (show decode cX11_many 122 = .ok (.getfield 17, 3) by decide +kernel) rfl ?_
  refine am_r_iload_n (nx := 126) rfl rfl (show decode cX11_many 125 = .ok (.iload_n 1, 1) by decide +kernel) rfl ?_
  refine am_r_iald (nx := 127) (sh_94) (am_shle (sh_94)) hi1 hj2 (show decode cX11_many 126 = .ok (.iaload, 1) by decide +kernel) rfl ?_
  refine am_r_icmp_ge (tg := 171) (nx := 130) (show decode cX11_many 127 = .ok (.if_icmp .ge 44, 3) by decide +kernel) (by decide) rfl hr3 hr4 ?_ ?_
  · exact fun q => am_x_fg [0, 1, 2, 5] (k1 q)
  · exact fun q => k2 q
theorem S_X11_many_130 {G : am_G} {d : Nat} {Q : Int64 → am_D → Prop} {σ : am_D} {v1 : Int} {v2 : Int} {v3 : Int64} {v5 : Int} (hi1 : 0 ≤ ((6 * v1) + v5)) (hj2 : ((6 * v1) + v5) < 36) (hr3 : -2147483648 ≤ (σ.1 102 ((6 * v1) + v5)) ∧ (σ.1 102 ((6 * v1) + v5)) ≤ 2147483647) (k1 : ¬ (σ.1 102 ((6 * v1) + v5)) = (-1) → am_X (am_FJ G (d + 1) Q) mX11_many (0, 0) 151 [some (am_r (some 91)), some (am_i v1), some (am_i v2), none, none, some (am_i v5)] [am_l v3] (am_K0, σ)) (k2 : ¬ (¬ (σ.1 102 ((6 * v1) + v5)) = (-1)) → am_X (am_FJ G (d + 1) Q) mX11_many (0, 0) 147 [some (am_r (some 91)), some (am_i v1), some (am_i v2), none, none, some (am_i v5)] [am_l v3] (am_K0, σ)) : am_X (am_FJ G (d + 1) Q) mX11_many (0, 0) 130 [some (am_r (some 91)), some (am_i v1), some (am_i v2), some (am_l v3), none, some (am_i v5)] [] (am_K0, σ) := by
  refine am_r_lload_n (nx := 131) rfl rfl (show decode cX11_many 130 = .ok (.lload_n 3, 1) by decide +kernel) rfl ?_
  refine am_r_aload_n (nx := 132) rfl rfl (show decode cX11_many 131 = .ok (.aload_n 0, 1) by decide +kernel) rfl ?_
  refine am_r_getF (nx := 135) 16 cw11 (by decide) rfl (Or.inl fl_X11_42) (ob_91) (fn_91_16) (show decode cX11_many 132 = .ok (.getfield 42, 3) by decide +kernel) rfl ?_
  refine am_r_bipush (nx := 137) rfl (show decode cX11_many 135 = .ok (.bipush 6, 2) by decide +kernel) rfl ?_
  refine am_r_iload_n (nx := 138) rfl rfl (show decode cX11_many 137 = .ok (.iload_n 1, 1) by decide +kernel) rfl ?_
  refine am_r_imul (nx := 139) (show decode cX11_many 138 = .ok (.imul, 1) by decide +kernel) rfl ?_
  refine am_r_iload (nx := 141) rfl (show decode cX11_many 139 = .ok (.iload 5, 2) by decide +kernel) rfl ?_
  refine am_r_iadd (nx := 142) (show decode cX11_many 141 = .ok (.iadd, 1) by decide +kernel) rfl ?_
  refine am_r_iald (nx := 143) (sh_102) (am_shle (sh_102)) hi1 hj2 (show decode cX11_many 142 = .ok (.iaload, 1) by decide +kernel) rfl ?_
  refine am_r_iconst (nx := 144) (show decode cX11_many 143 = .ok (.iconst (-1), 1) by decide +kernel) rfl ?_
  refine am_r_icmp_ne (tg := 151) (nx := 147) (show decode cX11_many 144 = .ok (.if_icmp .ne 7, 3) by decide +kernel) (by decide) rfl hr3 (by omega) ?_ ?_
  · exact fun q => am_x_fg [3] (k1 q)
  · exact fun q => am_x_fg [3] (k2 q)
theorem S_X11_many_147 {G : am_G} {d : Nat} {Q : Int64 → am_D → Prop} {σ : am_D} {v1 : Int} {v2 : Int} {v5 : Int} {s0 : Int64}  (k : am_X (am_FJ G (d + 1) Q) mX11_many (0, 0) 163 [some (am_r (some 91)), some (am_i v1), some (am_i v2), none, none, some (am_i v5)] [am_l 0, am_l s0] (am_K0, σ)) : am_X (am_FJ G (d + 1) Q) mX11_many (0, 0) 147 [some (am_r (some 91)), some (am_i v1), some (am_i v2), none, none, some (am_i v5)] [am_l s0] (am_K0, σ) := by
  refine am_r_lconst (nx := 148) (v := 0) rfl (show decode cX11_many 147 = .ok (.lconst 0, 1) by decide +kernel) rfl ?_
  refine am_r_goto (tg := 163) (show decode cX11_many 148 = .ok (.goto 15, 3) by decide +kernel) (by decide) ?_
  exact k
theorem S_X11_many_151 {G : am_G} {d : Nat} {Q : Int64 → am_D → Prop} {σ : am_D} {v1 : Int} {v2 : Int} {v5 : Int} {s0 : Int64} (hi1 : 0 ≤ ((36 * v2) + v5)) (hj2 : ((36 * v2) + v5) < 612) (k : am_X (am_FJ G (d + 1) Q) mX11_many (0, 0) 163 [some (am_r (some 91)), some (am_i v1), some (am_i v2), none, none, some (am_i v5)] [am_l (σ.2.1 130 ((36 * v2) + v5)), am_l s0] (am_K0, σ)) : am_X (am_FJ G (d + 1) Q) mX11_many (0, 0) 151 [some (am_r (some 91)), some (am_i v1), some (am_i v2), none, none, some (am_i v5)] [am_l s0] (am_K0, σ) := by
  refine am_r_aload_n (nx := 152) rfl rfl (show decode cX11_many 151 = .ok (.aload_n 0, 1) by decide +kernel) rfl ?_
  refine am_r_getF (nx := 155) 56 cw11 (by decide) rfl (Or.inl fl_X11_127) (ob_91) (fn_91_56) (show decode cX11_many 152 = .ok (.getfield 127, 3) by decide +kernel) rfl ?_
  refine am_r_bipush (nx := 157) rfl (show decode cX11_many 155 = .ok (.bipush 36, 2) by decide +kernel) rfl ?_
  refine am_r_iload_n (nx := 158) rfl rfl (show decode cX11_many 157 = .ok (.iload_n 2, 1) by decide +kernel) rfl ?_
  refine am_r_imul (nx := 159) (show decode cX11_many 158 = .ok (.imul, 1) by decide +kernel) rfl ?_
  refine am_r_iload (nx := 161) rfl (show decode cX11_many 159 = .ok (.iload 5, 2) by decide +kernel) rfl ?_
  refine am_r_iadd (nx := 162) (show decode cX11_many 161 = .ok (.iadd, 1) by decide +kernel) rfl ?_
  refine am_r_lald (nx := 163) (sh_130) (am_shle (sh_130)) hi1 hj2 (show decode cX11_many 162 = .ok (.laload, 1) by decide +kernel) rfl ?_
  exact k
theorem S_X11_many_163 {G : am_G} {d : Nat} {Q : Int64 → am_D → Prop} {σ : am_D} {v1 : Int} {v2 : Int} {v5 : Int} {s0 : Int64} {s1 : Int64}  (k : am_X (am_FJ G (d + 1) Q) mX11_many (0, 0) 165 [some (am_r (some 91)), some (am_i v1), some (am_i v2), some (am_l (s0 + s1)), none, some (am_i v5)] [] (am_K0, σ)) : am_X (am_FJ G (d + 1) Q) mX11_many (0, 0) 163 [some (am_r (some 91)), some (am_i v1), some (am_i v2), none, none, some (am_i v5)] [am_l s1, am_l s0] (am_K0, σ) := by
  refine am_r_ladd (nx := 164) (show decode cX11_many 163 = .ok (.ladd, 1) by decide +kernel) rfl ?_
  refine am_r_lstore_n (nx := 165) rfl (by decide) rfl (show decode cX11_many 164 = .ok (.lstore_n 3, 1) by decide +kernel) rfl ?_
  exact k
theorem S_X11_many_165 {G : am_G} {d : Nat} {Q : Int64 → am_D → Prop} {σ : am_D} {v1 : Int} {v2 : Int} {v3 : Int64} {v5 : Int}  (k : am_X (am_FJ G (d + 1) Q) mX11_many (0, 0) 119 [some (am_r (some 91)), some (am_i v1), some (am_i v2), some (am_l v3), none, some (am_i (v5 + 1))] [] (am_K0, σ)) : am_X (am_FJ G (d + 1) Q) mX11_many (0, 0) 165 [some (am_r (some 91)), some (am_i v1), some (am_i v2), some (am_l v3), none, some (am_i v5)] [] (am_K0, σ) := by
  refine am_r_iinc (nx := 168) rfl rfl (show decode cX11_many 165 = .ok (.iinc 5 1, 3) by decide +kernel) rfl ?_
  refine am_r_goto (tg := 119) (show decode cX11_many 168 = .ok (.goto (-49), 3) by decide +kernel) (by decide) ?_
  exact k
theorem S_X11_many_171 {G : am_G} {d : Nat} {Q : Int64 → am_D → Prop} {σ : am_D} {v3 : Int64}  (k : Q v3 σ) : am_X (am_FJ G (d + 1) Q) mX11_many (0, 0) 171 [none, none, none, some (am_l v3), none, none] [] (am_K0, σ) := by
  refine am_r_lload_n (nx := 172) rfl rfl (show decode cX11_many 171 = .ok (.lload_n 3, 1) by decide +kernel) rfl ?_
  exact am_r_lret rfl (show decode cX11_many 172 = .ok (.lreturn, 1) by decide +kernel) ⟨_, _, rfl, rfl, k⟩
theorem S_X11_rowsOf_0 {G : am_G} {d : Nat} {Q : Int64 → am_D → Prop} {σ : am_D} {v1 : Int} {v2 : Int} {v3 : Int} {v4 : Int}  (k : am_X (am_FJ G (d + 1) Q) mX11_rowsOf (0, 0) 3 [some (am_r (some 91)), some (am_i v1), some (am_i v2), some (am_i v3), some (am_i v4), some (am_l 0), none, none, none, none, none, none] [] (am_K0, σ)) : am_X (am_FJ G (d + 1) Q) mX11_rowsOf (0, 0) 0 [some (am_r (some 91)), some (am_i v1), some (am_i v2), some (am_i v3), some (am_i v4), none, none, none, none, none, none, none] [] (am_K0, σ) := by
  refine am_r_lconst (nx := 1) (v := 0) rfl (show decode cX11_rowsOf 0 = .ok (.lconst 0, 1) by decide +kernel) rfl ?_
  refine am_r_lstore (nx := 3) (by decide) rfl (show decode cX11_rowsOf 1 = .ok (.lstore 5, 2) by decide +kernel) rfl ?_
  exact k
theorem S_X11_rowsOf_3 {G : am_G} {d : Nat} {Q : Int64 → am_D → Prop} {σ : am_D} {v1 : Int} {v2 : Int} {v3 : Int} {v4 : Int} {v5 : Int64}  (k : am_X (am_FJ G (d + 1) Q) mX11_rowsOf (0, 0) 6 [some (am_r (some 91)), some (am_i v1), some (am_i v2), some (am_i v3), some (am_i v4), some (am_l v5), none, some (am_i 0), none, none, none, none] [] (am_K0, σ)) : am_X (am_FJ G (d + 1) Q) mX11_rowsOf (0, 0) 3 [some (am_r (some 91)), some (am_i v1), some (am_i v2), some (am_i v3), some (am_i v4), some (am_l v5), none, none, none, none, none, none] [] (am_K0, σ) := by
  refine am_r_iconst (nx := 4) (show decode cX11_rowsOf 3 = .ok (.iconst 0, 1) by decide +kernel) rfl ?_
  refine am_r_istore (nx := 6) (by decide) rfl (show decode cX11_rowsOf 4 = .ok (.istore 7, 2) by decide +kernel) rfl ?_
  exact k
theorem S_X11_rowsOf_6 {G : am_G} {d : Nat} {Q : Int64 → am_D → Prop} {σ : am_D} {v1 : Int} {v2 : Int} {v3 : Int} {v4 : Int} {v5 : Int64} {v7 : Int} (hr1 : -2147483648 ≤ v7 ∧ v7 ≤ 2147483647) (k1 : 3 ≤ v7 → am_X (am_FJ G (d + 1) Q) mX11_rowsOf (0, 0) 182 [none, none, none, none, none, some (am_l v5), none, none, none, none, none, none] [] (am_K0, σ)) (k2 : ¬ (3 ≤ v7) → am_X (am_FJ G (d + 1) Q) mX11_rowsOf (0, 0) 12 [some (am_r (some 91)), some (am_i v1), some (am_i v2), some (am_i v3), some (am_i v4), some (am_l v5), none, some (am_i v7), none, none, none, none] [] (am_K0, σ)) : am_X (am_FJ G (d + 1) Q) mX11_rowsOf (0, 0) 6 [some (am_r (some 91)), some (am_i v1), some (am_i v2), some (am_i v3), some (am_i v4), some (am_l v5), none, some (am_i v7), none, none, none, none] [] (am_K0, σ) := by
  refine am_r_iload (nx := 8) rfl (show decode cX11_rowsOf 6 = .ok (.iload 7, 2) by decide +kernel) rfl ?_
  refine am_r_iconst (nx := 9) (show decode cX11_rowsOf 8 = .ok (.iconst 3, 1) by decide +kernel) rfl ?_
  refine am_r_icmp_ge (tg := 182) (nx := 12) (show decode cX11_rowsOf 9 = .ok (.if_icmp .ge 173, 3) by decide +kernel) (by decide) rfl hr1 (by omega) ?_ ?_
  · exact fun q => am_x_fg [0, 1, 2, 3, 4, 7] (k1 q)
  · exact fun q => k2 q
theorem S_X11_rowsOf_12 {G : am_G} {d : Nat} {Q : Int64 → am_D → Prop} {σ : am_D} {v1 : Int} {v2 : Int} {v3 : Int} {v4 : Int} {v5 : Int64} {v7 : Int} (hi1 : 0 ≤ v1) (hj2 : v1 < 6) (hr3 : -2147483648 ≤ v3 ∧ v3 ≤ 2147483647) (hr4 : -2147483648 ≤ (σ.1 94 v1) ∧ (σ.1 94 v1) ≤ 2147483647) (k1 : (σ.1 94 v1) ≤ v3 → am_X (am_FJ G (d + 1) Q) mX11_rowsOf (0, 0) 182 [none, none, none, none, none, some (am_l v5), none, none, none, none, none, none] [] (am_K0, σ)) (k2 : ¬ ((σ.1 94 v1) ≤ v3) → am_X (am_FJ G (d + 1) Q) mX11_rowsOf (0, 0) 22 [some (am_r (some 91)), some (am_i v1), some (am_i v2), some (am_i v3), some (am_i v4), some (am_l v5), none, some (am_i v7), none, none, none, none] [] (am_K0, σ)) : am_X (am_FJ G (d + 1) Q) mX11_rowsOf (0, 0) 12 [some (am_r (some 91)), some (am_i v1), some (am_i v2), some (am_i v3), some (am_i v4), some (am_l v5), none, some (am_i v7), none, none, none, none] [] (am_K0, σ) := by
  refine am_r_iload_n (nx := 13) rfl rfl (show decode cX11_rowsOf 12 = .ok (.iload_n 3, 1) by decide +kernel) rfl ?_
  refine am_r_aload_n (nx := 14) rfl rfl (show decode cX11_rowsOf 13 = .ok (.aload_n 0, 1) by decide +kernel) rfl ?_
  refine am_r_getF (nx := 17) 8 cw11 (by decide) rfl (Or.inl fl_X11_17) (ob_91) (fn_91_8) (show decode cX11_rowsOf 14 = .ok (.getfield 17, 3) by decide +kernel) rfl ?_
  refine am_r_iload_n (nx := 18) rfl rfl (show decode cX11_rowsOf 17 = .ok (.iload_n 1, 1) by decide +kernel) rfl ?_
  refine am_r_iald (nx := 19) (sh_94) (am_shle (sh_94)) hi1 hj2 (show decode cX11_rowsOf 18 = .ok (.iaload, 1) by decide +kernel) rfl ?_
  refine am_r_icmp_ge (tg := 182) (nx := 22) (show decode cX11_rowsOf 19 = .ok (.if_icmp .ge 163, 3) by decide +kernel) (by decide) rfl hr3 hr4 ?_ ?_
  · exact fun q => am_x_fg [0, 1, 2, 3, 4, 7] (k1 q)
  · exact fun q => k2 q
theorem S_X11_rowsOf_22 {G : am_G} {d : Nat} {Q : Int64 → am_D → Prop} {σ : am_D} {v1 : Int} {v2 : Int} {v3 : Int} {v4 : Int} {v5 : Int64} {v7 : Int} (hi1 : 0 ≤ v1) (hj2 : v1 < 6) (hr3 : -2147483648 ≤ v4 ∧ v4 ≤ 2147483647) (hr4 : -2147483648 ≤ (σ.1 94 v1) ∧ (σ.1 94 v1) ≤ 2147483647) (k1 : (σ.1 94 v1) ≤ v4 → am_X (am_FJ G (d + 1) Q) mX11_rowsOf (0, 0) 182 [none, none, none, none, none, some (am_l v5), none, none, none, none, none, none] [] (am_K0, σ)) (k2 : ¬ ((σ.1 94 v1) ≤ v4) → am_X (am_FJ G (d + 1) Q) mX11_rowsOf (0, 0) 33 [some (am_r (some 91)), some (am_i v1), some (am_i v2), some (am_i v3), some (am_i v4), some (am_l v5), none, some (am_i v7), none, none, none, none] [] (am_K0, σ)) : am_X (am_FJ G (d + 1) Q) mX11_rowsOf (0, 0) 22 [some (am_r (some 91)), some (am_i v1), some (am_i v2), some (am_i v3), some (am_i v4), some (am_l v5), none, some (am_i v7), none, none, none, none] [] (am_K0, σ) := by
  refine am_r_iload (nx := 24) rfl (show decode cX11_rowsOf 22 = .ok (.iload 4, 2) by decide +kernel) rfl ?_
  refine am_r_aload_n (nx := 25) rfl rfl (show decode cX11_rowsOf 24 = .ok (.aload_n 0, 1) by decide +kernel) rfl ?_
  refine am_r_getF (nx := 28) 8 cw11 (by decide) rfl (Or.inl fl_X11_17) (ob_91) (fn_91_8) (show decode cX11_rowsOf 25 = .ok (.getfield 17, 3) by decide +kernel) rfl ?_
  refine am_r_iload_n (nx := 29) rfl rfl (show decode cX11_rowsOf 28 = .ok (.iload_n 1, 1) by decide +kernel) rfl ?_
  refine am_r_iald (nx := 30) (sh_94) (am_shle (sh_94)) hi1 hj2 (show decode cX11_rowsOf 29 = .ok (.iaload, 1) by decide +kernel) rfl ?_
  refine am_r_icmp_ge (tg := 182) (nx := 33) (show decode cX11_rowsOf 30 = .ok (.if_icmp .ge 152, 3) by decide +kernel) (by decide) rfl hr3 hr4 ?_ ?_
  · exact fun q => am_x_fg [0, 1, 2, 3, 4, 7] (k1 q)
  · exact fun q => k2 q
theorem S_X11_rowsOf_33 {G : am_G} {d : Nat} {Q : Int64 → am_D → Prop} {σ : am_D} {v1 : Int} {v2 : Int} {v3 : Int} {v4 : Int} {v5 : Int64} {v7 : Int} {Q' : Int → am_D → Prop} (hc : am_MI G d mX11_openAt [am_i v1, am_i v7, am_i v3] σ Q') (k : ∀ (x : Int) (σ' : am_D), Q' x σ' → am_X (am_FJ G (d + 1) Q) mX11_rowsOf (0, 0) 42 [some (am_r (some 91)), some (am_i v1), some (am_i v2), some (am_i v3), some (am_i v4), some (am_l v5), none, some (am_i v7), some (am_i x), none, none, none] [] (am_K0, σ')) : am_X (am_FJ G (d + 1) Q) mX11_rowsOf (0, 0) 33 [some (am_r (some 91)), some (am_i v1), some (am_i v2), some (am_i v3), some (am_i v4), some (am_l v5), none, some (am_i v7), none, none, none, none] [] (am_K0, σ) := by
  refine am_r_iload_n (nx := 34) rfl rfl (show decode cX11_rowsOf 33 = .ok (.iload_n 1, 1) by decide +kernel) rfl ?_
  refine am_r_iload (nx := 36) rfl (show decode cX11_rowsOf 34 = .ok (.iload 7, 2) by decide +kernel) rfl ?_
  refine am_r_iload_n (nx := 37) rfl rfl (show decode cX11_rowsOf 36 = .ok (.iload_n 3, 1) by decide +kernel) rfl ?_
  refine am_r_callS (as := [am_i v1, am_i v7, am_i v3]) (st := []) hc mb_X11_openAt mv_X11_openAt (Or.inl ml_X11_246) rfl rfl (Nat.le_of_ble_eq_true rfl) ⟨Nat.le_refl _, Nat.le_refl _⟩ ⟨Nat.le_refl _, Nat.le_refl _⟩ (show decode cX11_rowsOf 37 = .ok (.invokestatic 246, 3) by decide +kernel) ?_
  rintro _ _ ⟨x, σ', rfl, rfl, hq⟩ _
  refine am_r_istore (nx := 42) (by decide) rfl (show decode cX11_rowsOf 40 = .ok (.istore 8, 2) by decide +kernel) rfl ?_
  exact (k x σ' hq)
theorem S_X11_rowsOf_42 {G : am_G} {d : Nat} {Q : Int64 → am_D → Prop} {σ : am_D} {v1 : Int} {v2 : Int} {v3 : Int} {v4 : Int} {v5 : Int64} {v7 : Int} {v8 : Int} (hi1 : 0 ≤ v8) (hj2 : v8 < 108) (hr3 : -2147483648 ≤ (σ.1 98 v8) ∧ (σ.1 98 v8) ≤ 2147483647) (k1 : ¬ (σ.1 98 v8) = (-1) → am_X (am_FJ G (d + 1) Q) mX11_rowsOf (0, 0) 56 [some (am_r (some 91)), some (am_i v1), some (am_i v2), some (am_i v3), some (am_i v4), some (am_l v5), none, some (am_i v7), some (am_i v8), none, none, none] [] (am_K0, σ)) (k2 : ¬ (¬ (σ.1 98 v8) = (-1)) → am_X (am_FJ G (d + 1) Q) mX11_rowsOf (0, 0) 53 [some (am_r (some 91)), some (am_i v1), some (am_i v2), some (am_i v3), some (am_i v4), some (am_l v5), none, some (am_i v7), none, none, none, none] [] (am_K0, σ)) : am_X (am_FJ G (d + 1) Q) mX11_rowsOf (0, 0) 42 [some (am_r (some 91)), some (am_i v1), some (am_i v2), some (am_i v3), some (am_i v4), some (am_l v5), none, some (am_i v7), some (am_i v8), none, none, none] [] (am_K0, σ) := by
  refine am_r_aload_n (nx := 43) rfl rfl (show decode cX11_rowsOf 42 = .ok (.aload_n 0, 1) by decide +kernel) rfl ?_
  refine am_r_getF (nx := 46) 12 cw11 (by decide) rfl (Or.inl fl_X11_30) (ob_91) (fn_91_12) (show decode cX11_rowsOf 43 = .ok (.getfield 30, 3) by decide +kernel) rfl ?_
  refine am_r_iload (nx := 48) rfl (show decode cX11_rowsOf 46 = .ok (.iload 8, 2) by decide +kernel) rfl ?_
  refine am_r_iald (nx := 49) (sh_98) (am_shle (sh_98)) hi1 hj2 (show decode cX11_rowsOf 48 = .ok (.iaload, 1) by decide +kernel) rfl ?_
  refine am_r_iconst (nx := 50) (show decode cX11_rowsOf 49 = .ok (.iconst (-1), 1) by decide +kernel) rfl ?_
  refine am_r_icmp_ne (tg := 56) (nx := 53) (show decode cX11_rowsOf 50 = .ok (.if_icmp .ne 6, 3) by decide +kernel) (by decide) rfl hr3 (by omega) ?_ ?_
  · exact fun q => k1 q
  · exact fun q => am_x_fg [8] (k2 q)
theorem S_X11_rowsOf_53 {G : am_G} {d : Nat} {Q : Int64 → am_D → Prop} {σ : am_D} {v1 : Int} {v2 : Int} {v3 : Int} {v4 : Int} {v5 : Int64} {v7 : Int}  (k : am_X (am_FJ G (d + 1) Q) mX11_rowsOf (0, 0) 176 [some (am_r (some 91)), some (am_i v1), some (am_i v2), some (am_i v3), some (am_i v4), some (am_l v5), none, some (am_i v7), none, none, none, none] [] (am_K0, σ)) : am_X (am_FJ G (d + 1) Q) mX11_rowsOf (0, 0) 53 [some (am_r (some 91)), some (am_i v1), some (am_i v2), some (am_i v3), some (am_i v4), some (am_l v5), none, some (am_i v7), none, none, none, none] [] (am_K0, σ) := by
  refine am_r_goto (tg := 176) (show decode cX11_rowsOf 53 = .ok (.goto 123, 3) by decide +kernel) (by decide) ?_
  exact k
theorem S_X11_rowsOf_56 {G : am_G} {d : Nat} {Q : Int64 → am_D → Prop} {σ : am_D} {v1 : Int} {v2 : Int} {v3 : Int} {v4 : Int} {v5 : Int64} {v7 : Int} {v8 : Int}  (k : am_X (am_FJ G (d + 1) Q) mX11_rowsOf (0, 0) 59 [some (am_r (some 91)), some (am_i v1), some (am_i v2), some (am_i v3), some (am_i v4), some (am_l v5), none, some (am_i v7), some (am_i v8), some (am_i 0), none, none] [] (am_K0, σ)) : am_X (am_FJ G (d + 1) Q) mX11_rowsOf (0, 0) 56 [some (am_r (some 91)), some (am_i v1), some (am_i v2), some (am_i v3), some (am_i v4), some (am_l v5), none, some (am_i v7), some (am_i v8), none, none, none] [] (am_K0, σ) := by
  refine am_r_iconst (nx := 57) (show decode cX11_rowsOf 56 = .ok (.iconst 0, 1) by decide +kernel) rfl ?_
  refine am_r_istore (nx := 59) (by decide) rfl (show decode cX11_rowsOf 57 = .ok (.istore 9, 2) by decide +kernel) rfl ?_
  exact k
theorem S_X11_rowsOf_59 {G : am_G} {d : Nat} {Q : Int64 → am_D → Prop} {σ : am_D} {v1 : Int} {v2 : Int} {v3 : Int} {v4 : Int} {v5 : Int64} {v7 : Int} {v8 : Int} {v9 : Int} (hr1 : -2147483648 ≤ v9 ∧ v9 ≤ 2147483647) (hr2 : -2147483648 ≤ v2 ∧ v2 ≤ 2147483647) (k1 : v2 ≤ v9 → am_X (am_FJ G (d + 1) Q) mX11_rowsOf (0, 0) 176 [some (am_r (some 91)), some (am_i v1), some (am_i v2), some (am_i v3), some (am_i v4), some (am_l v5), none, some (am_i v7), none, none, none, none] [] (am_K0, σ)) (k2 : ¬ (v2 ≤ v9) → am_X (am_FJ G (d + 1) Q) mX11_rowsOf (0, 0) 65 [some (am_r (some 91)), some (am_i v1), some (am_i v2), some (am_i v3), some (am_i v4), some (am_l v5), none, some (am_i v7), some (am_i v8), some (am_i v9), none, none] [] (am_K0, σ)) : am_X (am_FJ G (d + 1) Q) mX11_rowsOf (0, 0) 59 [some (am_r (some 91)), some (am_i v1), some (am_i v2), some (am_i v3), some (am_i v4), some (am_l v5), none, some (am_i v7), some (am_i v8), some (am_i v9), none, none] [] (am_K0, σ) := by
  refine am_r_iload (nx := 61) rfl (show decode cX11_rowsOf 59 = .ok (.iload 9, 2) by decide +kernel) rfl ?_
  refine am_r_iload_n (nx := 62) rfl rfl (show decode cX11_rowsOf 61 = .ok (.iload_n 2, 1) by decide +kernel) rfl ?_
  refine am_r_icmp_ge (tg := 176) (nx := 65) (show decode cX11_rowsOf 62 = .ok (.if_icmp .ge 114, 3) by decide +kernel) (by decide) rfl hr1 hr2 ?_ ?_
  · exact fun q => am_x_fg [8, 9] (k1 q)
  · exact fun q => k2 q
theorem S_X11_rowsOf_65 {G : am_G} {d : Nat} {Q : Int64 → am_D → Prop} {σ : am_D} {v1 : Int} {v2 : Int} {v3 : Int} {v4 : Int} {v5 : Int64} {v7 : Int} {v8 : Int} {v9 : Int}  (k : am_X (am_FJ G (d + 1) Q) mX11_rowsOf (0, 0) 68 [some (am_r (some 91)), some (am_i v1), some (am_i v2), some (am_i v3), some (am_i v4), some (am_l v5), none, some (am_i v7), some (am_i v8), some (am_i v9), some (am_i 0), none] [] (am_K0, σ)) : am_X (am_FJ G (d + 1) Q) mX11_rowsOf (0, 0) 65 [some (am_r (some 91)), some (am_i v1), some (am_i v2), some (am_i v3), some (am_i v4), some (am_l v5), none, some (am_i v7), some (am_i v8), some (am_i v9), none, none] [] (am_K0, σ) := by
  refine am_r_iconst (nx := 66) (show decode cX11_rowsOf 65 = .ok (.iconst 0, 1) by decide +kernel) rfl ?_
  refine am_r_istore (nx := 68) (by decide) rfl (show decode cX11_rowsOf 66 = .ok (.istore 10, 2) by decide +kernel) rfl ?_
  exact k
theorem S_X11_rowsOf_68 {G : am_G} {d : Nat} {Q : Int64 → am_D → Prop} {σ : am_D} {v1 : Int} {v2 : Int} {v3 : Int} {v4 : Int} {v5 : Int64} {v7 : Int} {v8 : Int} {v9 : Int} {v10 : Int} (hi1 : 0 ≤ v1) (hj2 : v1 < 6) (hr3 : -2147483648 ≤ v10 ∧ v10 ≤ 2147483647) (hr4 : -2147483648 ≤ (σ.1 94 v1) ∧ (σ.1 94 v1) ≤ 2147483647) (k1 : (σ.1 94 v1) ≤ v10 → am_X (am_FJ G (d + 1) Q) mX11_rowsOf (0, 0) 170 [some (am_r (some 91)), some (am_i v1), some (am_i v2), some (am_i v3), some (am_i v4), some (am_l v5), none, some (am_i v7), some (am_i v8), some (am_i v9), none, none] [] (am_K0, σ)) (k2 : ¬ ((σ.1 94 v1) ≤ v10) → am_X (am_FJ G (d + 1) Q) mX11_rowsOf (0, 0) 79 [some (am_r (some 91)), some (am_i v1), some (am_i v2), some (am_i v3), some (am_i v4), some (am_l v5), none, some (am_i v7), some (am_i v8), some (am_i v9), some (am_i v10), none] [] (am_K0, σ)) : am_X (am_FJ G (d + 1) Q) mX11_rowsOf (0, 0) 68 [some (am_r (some 91)), some (am_i v1), some (am_i v2), some (am_i v3), some (am_i v4), some (am_l v5), none, some (am_i v7), some (am_i v8), some (am_i v9), some (am_i v10), none] [] (am_K0, σ) := by
  refine am_r_iload (nx := 70) rfl (show decode cX11_rowsOf 68 = .ok (.iload 10, 2) by decide +kernel) rfl ?_
  refine am_r_aload_n (nx := 71) rfl rfl (show decode cX11_rowsOf 70 = .ok (.aload_n 0, 1) by decide +kernel) rfl ?_
  refine am_r_getF (nx := 74) 8 cw11 (by decide) rfl (Or.inl fl_X11_17) (ob_91) (fn_91_8) (show decode cX11_rowsOf 71 = .ok (.getfield 17, 3) by decide +kernel) rfl ?_
  refine am_r_iload_n (nx := 75) rfl rfl (show decode cX11_rowsOf 74 = .ok (.iload_n 1, 1) by decide +kernel) rfl ?_
  refine am_r_iald (nx := 76) (sh_94) (am_shle (sh_94)) hi1 hj2 (show decode cX11_rowsOf 75 = .ok (.iaload, 1) by decide +kernel) rfl ?_
  refine am_r_icmp_ge (tg := 170) (nx := 79) (show decode cX11_rowsOf 76 = .ok (.if_icmp .ge 94, 3) by decide +kernel) (by decide) rfl hr3 hr4 ?_ ?_
  · exact fun q => am_x_fg [10] (k1 q)
  · exact fun q => k2 q
theorem S_X11_rowsOf_79 {G : am_G} {d : Nat} {Q : Int64 → am_D → Prop} {σ : am_D} {v1 : Int} {v2 : Int} {v3 : Int} {v4 : Int} {v5 : Int64} {v7 : Int} {v8 : Int} {v9 : Int} {v10 : Int} {Q' : Int → am_D → Prop} (hi1 : 0 ≤ v8) (hj2 : v8 < 108) (hc : am_MI G d mX11_closeAt [am_i v1, am_i v7, am_i v10, am_i (σ.1 99 v8)] σ Q') (k : ∀ (x : Int) (σ' : am_D), Q' x σ' → am_X (am_FJ G (d + 1) Q) mX11_rowsOf (0, 0) 98 [some (am_r (some 91)), some (am_i v1), some (am_i v2), some (am_i v3), some (am_i v4), some (am_l v5), none, some (am_i v7), some (am_i v8), some (am_i v9), some (am_i v10), none] [am_i x, am_r (some 100)] (am_K0, σ')) : am_X (am_FJ G (d + 1) Q) mX11_rowsOf (0, 0) 79 [some (am_r (some 91)), some (am_i v1), some (am_i v2), some (am_i v3), some (am_i v4), some (am_l v5), none, some (am_i v7), some (am_i v8), some (am_i v9), some (am_i v10), none] [] (am_K0, σ) := by
  refine am_r_aload_n (nx := 80) rfl rfl (show decode cX11_rowsOf 79 = .ok (.aload_n 0, 1) by decide +kernel) rfl ?_
  refine am_r_getF (nx := 83) 14 cw11 (by decide) rfl (Or.inl fl_X11_36) (ob_91) (fn_91_14) (show decode cX11_rowsOf 80 = .ok (.getfield 36, 3) by decide +kernel) rfl ?_
  refine am_r_iload_n (nx := 84) rfl rfl (show decode cX11_rowsOf 83 = .ok (.iload_n 1, 1) by decide +kernel) rfl ?_
  refine am_r_iload (nx := 86) rfl (show decode cX11_rowsOf 84 = .ok (.iload 7, 2) by decide +kernel) rfl ?_
  refine am_r_iload (nx := 88) rfl (show decode cX11_rowsOf 86 = .ok (.iload 10, 2) by decide +kernel) rfl ?_
  refine am_r_aload_n (nx := 89) rfl rfl (show decode cX11_rowsOf 88 = .ok (.aload_n 0, 1) by decide +kernel) rfl ?_
  refine am_r_getF (nx := 92) 13 cw11 (by decide) rfl (Or.inl fl_X11_33) (ob_91) (fn_91_13) (show decode cX11_rowsOf 89 = .ok (.getfield 33, 3) by decide +kernel) rfl ?_
  refine am_r_iload (nx := 94) rfl (show decode cX11_rowsOf 92 = .ok (.iload 8, 2) by decide +kernel) rfl ?_
  refine am_r_iald (nx := 95) (sh_99) (am_shle (sh_99)) hi1 hj2 (show decode cX11_rowsOf 94 = .ok (.iaload, 1) by decide +kernel) rfl ?_
  refine am_r_callS (as := [am_i v1, am_i v7, am_i v10, am_i (σ.1 99 v8)]) (st := [am_r (some 100)]) hc mb_X11_closeAt mv_X11_closeAt (Or.inl ml_X11_253) rfl rfl (Nat.le_of_ble_eq_true rfl) ⟨Nat.le_refl _, Nat.le_refl _⟩ ⟨Nat.le_refl _, Nat.le_refl _⟩ (show decode cX11_rowsOf 95 = .ok (.invokestatic 253, 3) by decide +kernel) ?_
  rintro _ _ ⟨x, σ', rfl, rfl, hq⟩ _
  exact (k x σ' hq)
theorem S_X11_rowsOf_98 {G : am_G} {d : Nat} {Q : Int64 → am_D → Prop} {σ : am_D} {v1 : Int} {v2 : Int} {v3 : Int} {v4 : Int} {v5 : Int64} {v7 : Int} {v8 : Int} {v9 : Int} {v10 : Int} {s1 : Int} {s0 : Nat} {n1 : Nat} (hs2 : am_sh am_SH s0 = (100, n1)) (hi3 : 0 ≤ s1) (hj4 : s1 < ((n1 : Nat) : Int)) (k : am_X (am_FJ G (d + 1) Q) mX11_rowsOf (0, 0) 101 [some (am_r (some 91)), some (am_i v1), some (am_i v2), some (am_i v3), some (am_i v4), some (am_l v5), none, some (am_i v7), some (am_i v8), some (am_i v9), some (am_i v10), some (am_i (σ.1 s0 s1))] [] (am_K0, σ)) : am_X (am_FJ G (d + 1) Q) mX11_rowsOf (0, 0) 98 [some (am_r (some 91)), some (am_i v1), some (am_i v2), some (am_i v3), some (am_i v4), some (am_l v5), none, some (am_i v7), some (am_i v8), some (am_i v9), some (am_i v10), none] [am_i s1, am_r (some s0)] (am_K0, σ) := by
  refine am_r_iald (nx := 99) (hs2) (am_shle (hs2)) hi3 hj4 (show decode cX11_rowsOf 98 = .ok (.iaload, 1) by decide +kernel) rfl ?_
  refine am_r_istore (nx := 101) (by decide) rfl (show decode cX11_rowsOf 99 = .ok (.istore 11, 2) by decide +kernel) rfl ?_
  exact k
theorem S_X11_rowsOf_101 {G : am_G} {d : Nat} {Q : Int64 → am_D → Prop} {σ : am_D} {v1 : Int} {v2 : Int} {v3 : Int} {v4 : Int} {v5 : Int64} {v7 : Int} {v8 : Int} {v9 : Int} {v10 : Int} {v11 : Int} (hr1 : -2147483648 ≤ v11 ∧ v11 ≤ 2147483647) (k1 : ¬ v11 = (-1) → am_X (am_FJ G (d + 1) Q) mX11_rowsOf (0, 0) 113 [some (am_r (some 91)), some (am_i v1), some (am_i v2), some (am_i v3), some (am_i v4), none, none, some (am_i v7), some (am_i v8), some (am_i v9), some (am_i v10), some (am_i v11)] [am_l v5] (am_K0, σ)) (k2 : ¬ (¬ v11 = (-1)) → am_X (am_FJ G (d + 1) Q) mX11_rowsOf (0, 0) 109 [some (am_r (some 91)), some (am_i v1), some (am_i v2), some (am_i v3), some (am_i v4), none, none, some (am_i v7), some (am_i v8), some (am_i v9), some (am_i v10), none] [am_l v5] (am_K0, σ)) : am_X (am_FJ G (d + 1) Q) mX11_rowsOf (0, 0) 101 [some (am_r (some 91)), some (am_i v1), some (am_i v2), some (am_i v3), some (am_i v4), some (am_l v5), none, some (am_i v7), some (am_i v8), some (am_i v9), some (am_i v10), some (am_i v11)] [] (am_K0, σ) := by
  refine am_r_lload (nx := 103) rfl (show decode cX11_rowsOf 101 = .ok (.lload 5, 2) by decide +kernel) rfl ?_
  refine am_r_iload (nx := 105) rfl (show decode cX11_rowsOf 103 = .ok (.iload 11, 2) by decide +kernel) rfl ?_
  refine am_r_iconst (nx := 106) (show decode cX11_rowsOf 105 = .ok (.iconst (-1), 1) by decide +kernel) rfl ?_
  refine am_r_icmp_ne (tg := 113) (nx := 109) (show decode cX11_rowsOf 106 = .ok (.if_icmp .ne 7, 3) by decide +kernel) (by decide) rfl hr1 (by omega) ?_ ?_
  · exact fun q => am_x_fg [5] (k1 q)
  · exact fun q => am_x_fg [5, 11] (k2 q)
theorem S_X11_rowsOf_109 {G : am_G} {d : Nat} {Q : Int64 → am_D → Prop} {σ : am_D} {v1 : Int} {v2 : Int} {v3 : Int} {v4 : Int} {v7 : Int} {v8 : Int} {v9 : Int} {v10 : Int} {s0 : Int64}  (k : am_X (am_FJ G (d + 1) Q) mX11_rowsOf (0, 0) 161 [some (am_r (some 91)), some (am_i v1), some (am_i v2), some (am_i v3), some (am_i v4), none, none, some (am_i v7), some (am_i v8), some (am_i v9), some (am_i v10), none] [am_l 0, am_l s0] (am_K0, σ)) : am_X (am_FJ G (d + 1) Q) mX11_rowsOf (0, 0) 109 [some (am_r (some 91)), some (am_i v1), some (am_i v2), some (am_i v3), some (am_i v4), none, none, some (am_i v7), some (am_i v8), some (am_i v9), some (am_i v10), none] [am_l s0] (am_K0, σ) := by
  refine am_r_lconst (nx := 110) (v := 0) rfl (show decode cX11_rowsOf 109 = .ok (.lconst 0, 1) by decide +kernel) rfl ?_
  refine am_r_goto (tg := 161) (show decode cX11_rowsOf 110 = .ok (.goto 51, 3) by decide +kernel) (by decide) ?_
  exact k
theorem S_X11_rowsOf_113 {G : am_G} {d : Nat} {Q : Int64 → am_D → Prop} {σ : am_D} {v1 : Int} {v2 : Int} {v3 : Int} {v4 : Int} {v7 : Int} {v8 : Int} {v9 : Int} {v10 : Int} {v11 : Int} {s0 : Int64} (hi1 : 0 ≤ v8) (hj2 : v8 < 108) (hi3 : 0 ≤ (((36 * v9) + (6 * (σ.1 98 v8))) + v10)) (hj4 : (((36 * v9) + (6 * (σ.1 98 v8))) + v10) < 612) (hi5 : 0 ≤ (((36 * ((v2 - 1) - v9)) + (6 * v11)) + v4)) (hj6 : (((36 * ((v2 - 1) - v9)) + (6 * v11)) + v4) < 612) (k : am_X (am_FJ G (d + 1) Q) mX11_rowsOf (0, 0) 161 [some (am_r (some 91)), some (am_i v1), some (am_i v2), some (am_i v3), some (am_i v4), none, none, some (am_i v7), some (am_i v8), some (am_i v9), some (am_i v10), none] [am_l ((σ.2.1 130 (((36 * v9) + (6 * (σ.1 98 v8))) + v10)) * (σ.2.1 130 (((36 * ((v2 - 1) - v9)) + (6 * v11)) + v4))), am_l s0] (am_K0, σ)) : am_X (am_FJ G (d + 1) Q) mX11_rowsOf (0, 0) 113 [some (am_r (some 91)), some (am_i v1), some (am_i v2), some (am_i v3), some (am_i v4), none, none, some (am_i v7), some (am_i v8), some (am_i v9), some (am_i v10), some (am_i v11)] [am_l s0] (am_K0, σ) := by
  refine am_r_aload_n (nx := 114) rfl rfl (show decode cX11_rowsOf 113 = .ok (.aload_n 0, 1) by decide +kernel) rfl ?_
  refine am_r_getF (nx := 117) 56 cw11 (by decide) rfl (Or.inl fl_X11_127) (ob_91) (fn_91_56) (show decode cX11_rowsOf 114 = .ok (.getfield 127, 3) by decide +kernel) rfl ?_
  refine am_r_bipush (nx := 119) rfl (show decode cX11_rowsOf 117 = .ok (.bipush 36, 2) by decide +kernel) rfl ?_
  refine am_r_iload (nx := 121) rfl (show decode cX11_rowsOf 119 = .ok (.iload 9, 2) by decide +kernel) rfl ?_
  refine am_r_imul (nx := 122) (show decode cX11_rowsOf 121 = .ok (.imul, 1) by decide +kernel) rfl ?_
  refine am_r_bipush (nx := 124) rfl (show decode cX11_rowsOf 122 = .ok (.bipush 6, 2) by decide +kernel) rfl ?_
  refine am_r_aload_n (nx := 125) rfl rfl (show decode cX11_rowsOf 124 = .ok (.aload_n 0, 1) by decide +kernel) rfl ?_
  refine am_r_getF (nx := 128) 12 cw11 (by decide) rfl (Or.inl fl_X11_30) (ob_91) (fn_91_12) (show decode cX11_rowsOf 125 = .ok (.getfield 30, 3) by decide +kernel) rfl ?_
  refine am_r_iload (nx := 130) rfl (show decode cX11_rowsOf 128 = .ok (.iload 8, 2) by decide +kernel) rfl ?_
  refine am_r_iald (nx := 131) (sh_98) (am_shle (sh_98)) hi1 hj2 (show decode cX11_rowsOf 130 = .ok (.iaload, 1) by decide +kernel) rfl ?_
  refine am_r_imul (nx := 132) (show decode cX11_rowsOf 131 = .ok (.imul, 1) by decide +kernel) rfl ?_
  refine am_r_iadd (nx := 133) (show decode cX11_rowsOf 132 = .ok (.iadd, 1) by decide +kernel) rfl ?_
  refine am_r_iload (nx := 135) rfl (show decode cX11_rowsOf 133 = .ok (.iload 10, 2) by decide +kernel) rfl ?_
  refine am_r_iadd (nx := 136) (show decode cX11_rowsOf 135 = .ok (.iadd, 1) by decide +kernel) rfl ?_
  refine am_r_lald (nx := 137) (sh_130) (am_shle (sh_130)) hi3 hj4 (show decode cX11_rowsOf 136 = .ok (.laload, 1) by decide +kernel) rfl ?_
  refine am_r_aload_n (nx := 138) rfl rfl (show decode cX11_rowsOf 137 = .ok (.aload_n 0, 1) by decide +kernel) rfl ?_
  refine am_r_getF (nx := 141) 56 cw11 (by decide) rfl (Or.inl fl_X11_127) (ob_91) (fn_91_56) (show decode cX11_rowsOf 138 = .ok (.getfield 127, 3) by decide +kernel) rfl ?_
  refine am_r_bipush (nx := 143) rfl (show decode cX11_rowsOf 141 = .ok (.bipush 36, 2) by decide +kernel) rfl ?_
  refine am_r_iload_n (nx := 144) rfl rfl (show decode cX11_rowsOf 143 = .ok (.iload_n 2, 1) by decide +kernel) rfl ?_
  refine am_r_iconst (nx := 145) (show decode cX11_rowsOf 144 = .ok (.iconst 1, 1) by decide +kernel) rfl ?_
  refine am_r_isub (nx := 146) (show decode cX11_rowsOf 145 = .ok (.isub, 1) by decide +kernel) rfl ?_
  refine am_r_iload (nx := 148) rfl (show decode cX11_rowsOf 146 = .ok (.iload 9, 2) by decide +kernel) rfl ?_
  refine am_r_isub (nx := 149) (show decode cX11_rowsOf 148 = .ok (.isub, 1) by decide +kernel) rfl ?_
  refine am_r_imul (nx := 150) (show decode cX11_rowsOf 149 = .ok (.imul, 1) by decide +kernel) rfl ?_
  refine am_r_bipush (nx := 152) rfl (show decode cX11_rowsOf 150 = .ok (.bipush 6, 2) by decide +kernel) rfl ?_
  refine am_r_iload (nx := 154) rfl (show decode cX11_rowsOf 152 = .ok (.iload 11, 2) by decide +kernel) rfl ?_
  refine am_r_imul (nx := 155) (show decode cX11_rowsOf 154 = .ok (.imul, 1) by decide +kernel) rfl ?_
  refine am_r_iadd (nx := 156) (show decode cX11_rowsOf 155 = .ok (.iadd, 1) by decide +kernel) rfl ?_
  refine am_r_iload (nx := 158) rfl (show decode cX11_rowsOf 156 = .ok (.iload 4, 2) by decide +kernel) rfl ?_
  refine am_r_iadd (nx := 159) (show decode cX11_rowsOf 158 = .ok (.iadd, 1) by decide +kernel) rfl ?_
  refine am_r_lald (nx := 160) (sh_130) (am_shle (sh_130)) hi5 hj6 (show decode cX11_rowsOf 159 = .ok (.laload, 1) by decide +kernel) rfl ?_
  refine am_r_lmul (nx := 161) (show decode cX11_rowsOf 160 = .ok (.lmul, 1) by decide +kernel) rfl ?_
  exact am_x_fg [11] k
theorem S_X11_rowsOf_161 {G : am_G} {d : Nat} {Q : Int64 → am_D → Prop} {σ : am_D} {v1 : Int} {v2 : Int} {v3 : Int} {v4 : Int} {v7 : Int} {v8 : Int} {v9 : Int} {v10 : Int} {s0 : Int64} {s1 : Int64}  (k : am_X (am_FJ G (d + 1) Q) mX11_rowsOf (0, 0) 164 [some (am_r (some 91)), some (am_i v1), some (am_i v2), some (am_i v3), some (am_i v4), some (am_l (s0 + s1)), none, some (am_i v7), some (am_i v8), some (am_i v9), some (am_i v10), none] [] (am_K0, σ)) : am_X (am_FJ G (d + 1) Q) mX11_rowsOf (0, 0) 161 [some (am_r (some 91)), some (am_i v1), some (am_i v2), some (am_i v3), some (am_i v4), none, none, some (am_i v7), some (am_i v8), some (am_i v9), some (am_i v10), none] [am_l s1, am_l s0] (am_K0, σ) := by
  refine am_r_ladd (nx := 162) (show decode cX11_rowsOf 161 = .ok (.ladd, 1) by decide +kernel) rfl ?_
  refine am_r_lstore (nx := 164) (by decide) rfl (show decode cX11_rowsOf 162 = .ok (.lstore 5, 2) by decide +kernel) rfl ?_
  exact k
theorem S_X11_rowsOf_164 {G : am_G} {d : Nat} {Q : Int64 → am_D → Prop} {σ : am_D} {v1 : Int} {v2 : Int} {v3 : Int} {v4 : Int} {v5 : Int64} {v7 : Int} {v8 : Int} {v9 : Int} {v10 : Int}  (k : am_X (am_FJ G (d + 1) Q) mX11_rowsOf (0, 0) 68 [some (am_r (some 91)), some (am_i v1), some (am_i v2), some (am_i v3), some (am_i v4), some (am_l v5), none, some (am_i v7), some (am_i v8), some (am_i v9), some (am_i (v10 + 1)), none] [] (am_K0, σ)) : am_X (am_FJ G (d + 1) Q) mX11_rowsOf (0, 0) 164 [some (am_r (some 91)), some (am_i v1), some (am_i v2), some (am_i v3), some (am_i v4), some (am_l v5), none, some (am_i v7), some (am_i v8), some (am_i v9), some (am_i v10), none] [] (am_K0, σ) := by
  refine am_r_iinc (nx := 167) rfl rfl (show decode cX11_rowsOf 164 = .ok (.iinc 10 1, 3) by decide +kernel) rfl ?_
  refine am_r_goto (tg := 68) (show decode cX11_rowsOf 167 = .ok (.goto (-99), 3) by decide +kernel) (by decide) ?_
  exact k
theorem S_X11_rowsOf_170 {G : am_G} {d : Nat} {Q : Int64 → am_D → Prop} {σ : am_D} {v1 : Int} {v2 : Int} {v3 : Int} {v4 : Int} {v5 : Int64} {v7 : Int} {v8 : Int} {v9 : Int}  (k : am_X (am_FJ G (d + 1) Q) mX11_rowsOf (0, 0) 59 [some (am_r (some 91)), some (am_i v1), some (am_i v2), some (am_i v3), some (am_i v4), some (am_l v5), none, some (am_i v7), some (am_i v8), some (am_i (v9 + 1)), none, none] [] (am_K0, σ)) : am_X (am_FJ G (d + 1) Q) mX11_rowsOf (0, 0) 170 [some (am_r (some 91)), some (am_i v1), some (am_i v2), some (am_i v3), some (am_i v4), some (am_l v5), none, some (am_i v7), some (am_i v8), some (am_i v9), none, none] [] (am_K0, σ) := by
  refine am_r_iinc (nx := 173) rfl rfl (show decode cX11_rowsOf 170 = .ok (.iinc 9 1, 3) by decide +kernel) rfl ?_
  refine am_r_goto (tg := 59) (show decode cX11_rowsOf 173 = .ok (.goto (-114), 3) by decide +kernel) (by decide) ?_
  exact k
theorem S_X11_rowsOf_176 {G : am_G} {d : Nat} {Q : Int64 → am_D → Prop} {σ : am_D} {v1 : Int} {v2 : Int} {v3 : Int} {v4 : Int} {v5 : Int64} {v7 : Int}  (k : am_X (am_FJ G (d + 1) Q) mX11_rowsOf (0, 0) 6 [some (am_r (some 91)), some (am_i v1), some (am_i v2), some (am_i v3), some (am_i v4), some (am_l v5), none, some (am_i (v7 + 1)), none, none, none, none] [] (am_K0, σ)) : am_X (am_FJ G (d + 1) Q) mX11_rowsOf (0, 0) 176 [some (am_r (some 91)), some (am_i v1), some (am_i v2), some (am_i v3), some (am_i v4), some (am_l v5), none, some (am_i v7), none, none, none, none] [] (am_K0, σ) := by
  refine am_r_iinc (nx := 179) rfl rfl (show decode cX11_rowsOf 176 = .ok (.iinc 7 1, 3) by decide +kernel) rfl ?_
  refine am_r_goto (tg := 6) (show decode cX11_rowsOf 179 = .ok (.goto (-173), 3) by decide +kernel) (by decide) ?_
  exact k
theorem S_X11_rowsOf_182 {G : am_G} {d : Nat} {Q : Int64 → am_D → Prop} {σ : am_D} {v5 : Int64}  (k : Q v5 σ) : am_X (am_FJ G (d + 1) Q) mX11_rowsOf (0, 0) 182 [none, none, none, none, none, some (am_l v5), none, none, none, none, none, none] [] (am_K0, σ) := by
  refine am_r_lload (nx := 184) rfl (show decode cX11_rowsOf 182 = .ok (.lload 5, 2) by decide +kernel) rfl ?_
  exact am_r_lret rfl (show decode cX11_rowsOf 184 = .ok (.lreturn, 1) by decide +kernel) ⟨_, _, rfl, rfl, k⟩
theorem S_X11_least_0 {G : am_G} {d : Nat} {Q : Int → am_D → Prop} {σ : am_D} {v1 : Int} {Q' : Int → am_D → Prop} (hc : am_MI G d mX11_isMachine [am_r (some 91), am_i v1] σ Q') (k : ∀ (x : Int) (σ' : am_D), Q' x σ' → am_X (am_FI G (d + 1) Q) mX11_least (0, 0) 5 [some (am_r (some 91)), some (am_i v1), none, none, none] [am_i x] (am_K0, σ')) : am_X (am_FI G (d + 1) Q) mX11_least (0, 0) 0 [some (am_r (some 91)), some (am_i v1), none, none, none] [] (am_K0, σ) := by
  refine am_r_aload_n (nx := 1) rfl rfl (show decode cX11_least 0 = .ok (.aload_n 0, 1) by decide +kernel) rfl ?_
  refine am_r_iload_n (nx := 2) rfl rfl (show decode cX11_least 1 = .ok (.iload_n 1, 1) by decide +kernel) rfl ?_
  refine am_r_callV (as := [am_i v1]) (st := []) hc mb_X11_isMachine mv_X11_isMachine (Or.inl ml_X11_307) (ob_91) (by omega) (r := (RX11, TX11, 63)) rfl rfl rfl rfl (Nat.le_of_ble_eq_true rfl) ⟨Nat.le_refl _, Nat.le_refl _⟩ ⟨Nat.le_refl _, Nat.le_refl _⟩ (show decode cX11_least 2 = .ok (.invokevirtual 307, 3) by decide +kernel) ?_
  rintro _ _ ⟨x, σ', rfl, rfl, hq⟩ _
  exact (k x σ' hq)
theorem S_X11_least_5 {G : am_G} {d : Nat} {Q : Int → am_D → Prop} {σ : am_D} {v1 : Int} {s0 : Int} (hr1 : -2147483648 ≤ s0 ∧ s0 ≤ 2147483647) (k1 : ¬ s0 = 0 → am_X (am_FI G (d + 1) Q) mX11_least (0, 0) 10 [some (am_r (some 91)), some (am_i v1), none, none, none] [] (am_K0, σ)) (k2 : ¬ (¬ s0 = 0) → am_X (am_FI G (d + 1) Q) mX11_least (0, 0) 8 [none, none, none, none, none] [] (am_K0, σ)) : am_X (am_FI G (d + 1) Q) mX11_least (0, 0) 5 [some (am_r (some 91)), some (am_i v1), none, none, none] [am_i s0] (am_K0, σ) := by
  refine am_r_if_ne (tg := 10) (nx := 8) (show decode cX11_least 5 = .ok (.ifCond .ne 5, 3) by decide +kernel) (by decide) rfl hr1 ?_ ?_
  · exact fun q => k1 q
  · exact fun q => am_x_fg [0, 1] (k2 q)
theorem S_X11_least_8 {G : am_G} {d : Nat} {Q : Int → am_D → Prop} {σ : am_D}   (k : Q (-1) σ) : am_X (am_FI G (d + 1) Q) mX11_least (0, 0) 8 [none, none, none, none, none] [] (am_K0, σ) := by
  refine am_r_iconst (nx := 9) (show decode cX11_least 8 = .ok (.iconst (-1), 1) by decide +kernel) rfl ?_
  exact am_r_iret rfl rfl (show decode cX11_least 9 = .ok (.ireturn, 1) by decide +kernel) ⟨_, _, rfl, rfl, k⟩
theorem S_X11_least_10 {G : am_G} {d : Nat} {Q : Int → am_D → Prop} {σ : am_D} {v1 : Int} {Q' : am_D → Prop} (hc : am_MV G d mX11_laysLeast [am_r (some 91), am_i v1] σ Q') (k : ∀ σ' : am_D, Q' σ' → am_X (am_FI G (d + 1) Q) mX11_least (0, 0) 15 [some (am_r (some 91)), some (am_i v1), none, none, none] [] (am_K0, σ')) : am_X (am_FI G (d + 1) Q) mX11_least (0, 0) 10 [some (am_r (some 91)), some (am_i v1), none, none, none] [] (am_K0, σ) := by
  refine am_r_aload_n (nx := 11) rfl rfl (show decode cX11_least 10 = .ok (.aload_n 0, 1) by decide +kernel) rfl ?_
  refine am_r_iload_n (nx := 12) rfl rfl (show decode cX11_least 11 = .ok (.iload_n 1, 1) by decide +kernel) rfl ?_
  refine am_r_callV (as := [am_i v1]) (st := []) hc mb_X11_laysLeast mv_X11_laysLeast (Or.inl ml_X11_399) (ob_91) (by omega) (r := (RX11, TX11, 63)) rfl rfl rfl rfl (Nat.le_of_ble_eq_true rfl) ⟨Nat.le_refl _, Nat.le_refl _⟩ ⟨Nat.le_refl _, Nat.le_refl _⟩ (show decode cX11_least 12 = .ok (.invokevirtual 399, 3) by decide +kernel) ?_
  rintro _ _ ⟨σ', rfl, rfl, hq⟩ _
  exact (k σ' hq)
theorem S_X11_least_15 {G : am_G} {d : Nat} {Q : Int → am_D → Prop} {σ : am_D} {v1 : Int}  (k : am_X (am_FI G (d + 1) Q) mX11_least (0, 0) 19 [some (am_r (some 91)), some (am_i v1), some (am_l 1152921504606846976), none, none] [] (am_K0, σ)) : am_X (am_FI G (d + 1) Q) mX11_least (0, 0) 15 [some (am_r (some 91)), some (am_i v1), none, none, none] [] (am_K0, σ) := by
  refine am_r_ldc2 (nx := 18) (n := 1152921504606846976) (am_mt 1448 (by decide +kernel) rfl) (show decode cX11_least 15 = .ok (.ldc2_w 393, 3) by decide +kernel) rfl ?_
  refine am_r_lstore_n (nx := 19) rfl (by decide) rfl (show decode cX11_least 18 = .ok (.lstore_n 2, 1) by decide +kernel) rfl ?_
  exact k
theorem S_X11_least_19 {G : am_G} {d : Nat} {Q : Int → am_D → Prop} {σ : am_D} {v1 : Int} {v2 : Int64}  (k : am_X (am_FI G (d + 1) Q) mX11_least (0, 0) 22 [some (am_r (some 91)), some (am_i v1), some (am_l v2), none, some (am_i 0)] [] (am_K0, σ)) : am_X (am_FI G (d + 1) Q) mX11_least (0, 0) 19 [some (am_r (some 91)), some (am_i v1), some (am_l v2), none, none] [] (am_K0, σ) := by
  refine am_r_iconst (nx := 20) (show decode cX11_least 19 = .ok (.iconst 0, 1) by decide +kernel) rfl ?_
  refine am_r_istore (nx := 22) (by decide) rfl (show decode cX11_least 20 = .ok (.istore 4, 2) by decide +kernel) rfl ?_
  exact k
theorem S_X11_least_22 {G : am_G} {d : Nat} {Q : Int → am_D → Prop} {σ : am_D} {v1 : Int} {v2 : Int64} {v4 : Int} (hi1 : 0 ≤ v1) (hj2 : v1 < 6) (hr3 : -2147483648 ≤ v4 ∧ v4 ≤ 2147483647) (hr4 : -2147483648 ≤ (σ.1 94 v1) ∧ (σ.1 94 v1) ≤ 2147483647) (k1 : (σ.1 94 v1) ≤ v4 → am_X (am_FI G (d + 1) Q) mX11_least (0, 0) 67 [none, none, some (am_l v2), none, none] [] (am_K0, σ)) (k2 : ¬ ((σ.1 94 v1) ≤ v4) → am_X (am_FI G (d + 1) Q) mX11_least (0, 0) 33 [some (am_r (some 91)), some (am_i v1), some (am_l v2), none, some (am_i v4)] [] (am_K0, σ)) : am_X (am_FI G (d + 1) Q) mX11_least (0, 0) 22 [some (am_r (some 91)), some (am_i v1), some (am_l v2), none, some (am_i v4)] [] (am_K0, σ) := by
  refine am_r_iload (nx := 24) rfl (show decode cX11_least 22 = .ok (.iload 4, 2) by decide +kernel) rfl ?_
  refine am_r_aload_n (nx := 25) rfl rfl (show decode cX11_least 24 = .ok (.aload_n 0, 1) by decide +kernel) rfl ?_
  refine am_r_getF (nx := 28) 8 cw11 (by decide) rfl (Or.inl fl_X11_17) (ob_91) (fn_91_8) (show decode cX11_least 25 = .ok (.getfield 17, 3) by decide +kernel) rfl ?_
  refine am_r_iload_n (nx := 29) rfl rfl (show decode cX11_least 28 = .ok (.iload_n 1, 1) by decide +kernel) rfl ?_
  refine am_r_iald (nx := 30) (sh_94) (am_shle (sh_94)) hi1 hj2 (show decode cX11_least 29 = .ok (.iaload, 1) by decide +kernel) rfl ?_
  refine am_r_icmp_ge (tg := 67) (nx := 33) (show decode cX11_least 30 = .ok (.if_icmp .ge 37, 3) by decide +kernel) (by decide) rfl hr3 hr4 ?_ ?_
  · exact fun q => am_x_fg [0, 1, 4] (k1 q)
  · exact fun q => k2 q
theorem S_X11_least_33 {G : am_G} {d : Nat} {Q : Int → am_D → Prop} {σ : am_D} {v1 : Int} {v2 : Int64} {v4 : Int} (hi1 : 0 ≤ ((6 * v1) + v4)) (hj2 : ((6 * v1) + v4) < 36) (hr3 : -2147483648 ≤ (σ.1 102 ((6 * v1) + v4)) ∧ (σ.1 102 ((6 * v1) + v4)) ≤ 2147483647) (k1 : (σ.1 102 ((6 * v1) + v4)) = (-1) → am_X (am_FI G (d + 1) Q) mX11_least (0, 0) 61 [some (am_r (some 91)), some (am_i v1), some (am_l v2), none, some (am_i v4)] [] (am_K0, σ)) (k2 : ¬ ((σ.1 102 ((6 * v1) + v4)) = (-1)) → am_X (am_FI G (d + 1) Q) mX11_least (0, 0) 49 [some (am_r (some 91)), some (am_i v1), some (am_l v2), none, some (am_i v4)] [] (am_K0, σ)) : am_X (am_FI G (d + 1) Q) mX11_least (0, 0) 33 [some (am_r (some 91)), some (am_i v1), some (am_l v2), none, some (am_i v4)] [] (am_K0, σ) := by
  refine am_r_aload_n (nx := 34) rfl rfl (show decode cX11_least 33 = .ok (.aload_n 0, 1) by decide +kernel) rfl ?_
  refine am_r_getF (nx := 37) 16 cw11 (by decide) rfl (Or.inl fl_X11_42) (ob_91) (fn_91_16) (show decode cX11_least 34 = .ok (.getfield 42, 3) by decide +kernel) rfl ?_
  refine am_r_bipush (nx := 39) rfl (show decode cX11_least 37 = .ok (.bipush 6, 2) by decide +kernel) rfl ?_
  refine am_r_iload_n (nx := 40) rfl rfl (show decode cX11_least 39 = .ok (.iload_n 1, 1) by decide +kernel) rfl ?_
  refine am_r_imul (nx := 41) (show decode cX11_least 40 = .ok (.imul, 1) by decide +kernel) rfl ?_
  refine am_r_iload (nx := 43) rfl (show decode cX11_least 41 = .ok (.iload 4, 2) by decide +kernel) rfl ?_
  refine am_r_iadd (nx := 44) (show decode cX11_least 43 = .ok (.iadd, 1) by decide +kernel) rfl ?_
  refine am_r_iald (nx := 45) (sh_102) (am_shle (sh_102)) hi1 hj2 (show decode cX11_least 44 = .ok (.iaload, 1) by decide +kernel) rfl ?_
  refine am_r_iconst (nx := 46) (show decode cX11_least 45 = .ok (.iconst (-1), 1) by decide +kernel) rfl ?_
  refine am_r_icmp_eq (tg := 61) (nx := 49) (show decode cX11_least 46 = .ok (.if_icmp .eq 15, 3) by decide +kernel) (by decide) rfl hr3 (by omega) ?_ ?_
  · exact fun q => k1 q
  · exact fun q => k2 q
theorem S_X11_least_49 {G : am_G} {d : Nat} {Q : Int → am_D → Prop} {σ : am_D} {v1 : Int} {v2 : Int64} {v4 : Int} {Q' : Int64 → am_D → Prop} (hi1 : 0 ≤ v4) (hj2 : v4 < 36) (hc : am_MJ G d mJ9_min_f86c9 [am_l v2, am_l (σ.2.1 129 v4)] σ Q') (k : ∀ (x : Int64) (σ' : am_D), Q' x σ' → am_X (am_FI G (d + 1) Q) mX11_least (0, 0) 61 [some (am_r (some 91)), some (am_i v1), some (am_l x), none, some (am_i v4)] [] (am_K0, σ')) : am_X (am_FI G (d + 1) Q) mX11_least (0, 0) 49 [some (am_r (some 91)), some (am_i v1), some (am_l v2), none, some (am_i v4)] [] (am_K0, σ) := by
  refine am_r_lload_n (nx := 50) rfl rfl (show decode cX11_least 49 = .ok (.lload_n 2, 1) by decide +kernel) rfl ?_
  refine am_r_aload_n (nx := 51) rfl rfl (show decode cX11_least 50 = .ok (.aload_n 0, 1) by decide +kernel) rfl ?_
  refine am_r_getF (nx := 54) 55 cw11 (by decide) rfl (Or.inl fl_X11_123) (ob_91) (fn_91_55) (show decode cX11_least 51 = .ok (.getfield 123, 3) by decide +kernel) rfl ?_
  refine am_r_iload (nx := 56) rfl (show decode cX11_least 54 = .ok (.iload 4, 2) by decide +kernel) rfl ?_
  refine am_r_lald (nx := 57) (sh_129) (am_shle (sh_129)) hi1 hj2 (show decode cX11_least 56 = .ok (.laload, 1) by decide +kernel) rfl ?_
  refine am_r_callS (as := [am_l v2, am_l (σ.2.1 129 v4)]) (st := []) hc mb_J9_min_f86c9 mv_J9_min_f86c9 (Or.inl ml_X11_408) rfl rfl (Nat.le_of_ble_eq_true rfl) ⟨Nat.le_refl _, Nat.le_refl _⟩ ⟨Nat.le_refl _, Nat.le_refl _⟩ (show decode cX11_least 57 = .ok (.invokestatic 408, 3) by decide +kernel) ?_
  rintro _ _ ⟨x, σ', rfl, rfl, hq⟩ _
  refine am_r_lstore_n (nx := 61) rfl (by decide) rfl (show decode cX11_least 60 = .ok (.lstore_n 2, 1) by decide +kernel) rfl ?_
  exact (k x σ' hq)
theorem S_X11_least_61 {G : am_G} {d : Nat} {Q : Int → am_D → Prop} {σ : am_D} {v1 : Int} {v2 : Int64} {v4 : Int}  (k : am_X (am_FI G (d + 1) Q) mX11_least (0, 0) 22 [some (am_r (some 91)), some (am_i v1), some (am_l v2), none, some (am_i (v4 + 1))] [] (am_K0, σ)) : am_X (am_FI G (d + 1) Q) mX11_least (0, 0) 61 [some (am_r (some 91)), some (am_i v1), some (am_l v2), none, some (am_i v4)] [] (am_K0, σ) := by
  refine am_r_iinc (nx := 64) rfl rfl (show decode cX11_least 61 = .ok (.iinc 4 1, 3) by decide +kernel) rfl ?_
  refine am_r_goto (tg := 22) (show decode cX11_least 64 = .ok (.goto (-42), 3) by decide +kernel) (by decide) ?_
  exact k
theorem S_X11_least_67 {G : am_G} {d : Nat} {Q : Int → am_D → Prop} {σ : am_D} {v2 : Int64}  (k1 : ¬ (am_lcmp v2 1152921504606846976) = 0 → am_X (am_FI G (d + 1) Q) mX11_least (0, 0) 79 [none, none, some (am_l v2), none, none] [] (am_K0, σ)) (k2 : ¬ (¬ (am_lcmp v2 1152921504606846976) = 0) → am_X (am_FI G (d + 1) Q) mX11_least (0, 0) 75 [none, none, none, none, none] [] (am_K0, σ)) : am_X (am_FI G (d + 1) Q) mX11_least (0, 0) 67 [none, none, some (am_l v2), none, none] [] (am_K0, σ) := by
  refine am_r_lload_n (nx := 68) rfl rfl (show decode cX11_least 67 = .ok (.lload_n 2, 1) by decide +kernel) rfl ?_
  refine am_r_ldc2 (nx := 71) (n := 1152921504606846976) (am_mt 1448 (by decide +kernel) rfl) (show decode cX11_least 68 = .ok (.ldc2_w 393, 3) by decide +kernel) rfl ?_
  refine am_r_lcmp (nx := 72) (show decode cX11_least 71 = .ok (.lcmp, 1) by decide +kernel) rfl ?_
  refine am_r_if_ne (tg := 79) (nx := 75) (show decode cX11_least 72 = .ok (.ifCond .ne 7, 3) by decide +kernel) (by decide) rfl (am_lcmp_rg _ _) ?_ ?_
  · exact fun q => k1 q
  · exact fun q => am_x_fg [2] (k2 q)
theorem S_X11_least_75 {G : am_G} {d : Nat} {Q : Int → am_D → Prop} {σ : am_D}   (k : am_X (am_FI G (d + 1) Q) mX11_least (0, 0) 81 [none, none, none, none, none] [am_i (-1)] (am_K0, σ)) : am_X (am_FI G (d + 1) Q) mX11_least (0, 0) 75 [none, none, none, none, none] [] (am_K0, σ) := by
  refine am_r_iconst (nx := 76) (show decode cX11_least 75 = .ok (.iconst (-1), 1) by decide +kernel) rfl ?_
  refine am_r_goto (tg := 81) (show decode cX11_least 76 = .ok (.goto 5, 3) by decide +kernel) (by decide) ?_
  exact k
theorem S_X11_least_79 {G : am_G} {d : Nat} {Q : Int → am_D → Prop} {σ : am_D} {v2 : Int64}  (k : am_X (am_FI G (d + 1) Q) mX11_least (0, 0) 81 [none, none, none, none, none] [am_i (am_l2i v2)] (am_K0, σ)) : am_X (am_FI G (d + 1) Q) mX11_least (0, 0) 79 [none, none, some (am_l v2), none, none] [] (am_K0, σ) := by
  refine am_r_lload_n (nx := 80) rfl rfl (show decode cX11_least 79 = .ok (.lload_n 2, 1) by decide +kernel) rfl ?_
  refine am_r_l2i (nx := 81) (show decode cX11_least 80 = .ok (.l2i, 1) by decide +kernel) rfl ?_
  exact am_x_fg [2] k
theorem S_X11_least_81 {G : am_G} {d : Nat} {Q : Int → am_D → Prop} {σ : am_D} {s0 : Int}  (k : Q s0 σ) : am_X (am_FI G (d + 1) Q) mX11_least (0, 0) 81 [none, none, none, none, none] [am_i s0] (am_K0, σ) := by
  exact am_r_iret rfl rfl (show decode cX11_least 81 = .ok (.ireturn, 1) by decide +kernel) ⟨_, _, rfl, rfl, k⟩
theorem S_X11_isUnlike_0 {G : am_G} {d : Nat} {Q : Int → am_D → Prop} {σ : am_D} {v1 : Int} {v2 : Int} {v3 : Int} {Q' : Int → am_D → Prop} (hc : am_MI G d mX11_refusedAt [am_r (some 91), am_i 1, am_i v1, am_r (some 131), am_i v3] σ Q') (k : ∀ (x : Int) (σ' : am_D), Q' x σ' → am_X (am_FI G (d + 1) Q) mX11_isUnlike (0, 0) 11 [some (am_r (some 91)), some (am_i v1), some (am_i v2), some (am_i v3), none, none, none, none] [am_i x] (am_K0, σ')) : am_X (am_FI G (d + 1) Q) mX11_isUnlike (0, 0) 0 [some (am_r (some 91)), some (am_i v1), some (am_i v2), some (am_i v3), none, none, none, none] [] (am_K0, σ) := by
  refine am_r_aload_n (nx := 1) rfl rfl (show decode cX11_isUnlike 0 = .ok (.aload_n 0, 1) by decide +kernel) rfl ?_
  refine am_r_iconst (nx := 2) (show decode cX11_isUnlike 1 = .ok (.iconst 1, 1) by decide +kernel) rfl ?_
  refine am_r_iload_n (nx := 3) rfl rfl (show decode cX11_isUnlike 2 = .ok (.iload_n 1, 1) by decide +kernel) rfl ?_
  refine am_r_aload_n (nx := 4) rfl rfl (show decode cX11_isUnlike 3 = .ok (.aload_n 0, 1) by decide +kernel) rfl ?_
  refine am_r_getF (nx := 7) 57 cw11 (by decide) rfl (Or.inl fl_X11_130) (ob_91) (fn_91_57) (show decode cX11_isUnlike 4 = .ok (.getfield 130, 3) by decide +kernel) rfl ?_
  refine am_r_iload_n (nx := 8) rfl rfl (show decode cX11_isUnlike 7 = .ok (.iload_n 3, 1) by decide +kernel) rfl ?_
  refine am_r_callV (as := [am_i 1, am_i v1, am_r (some 131), am_i v3]) (st := []) hc mb_X11_refusedAt mv_X11_refusedAt (Or.inl ml_X11_382) (ob_91) (by omega) (r := (RX11, TX11, 63)) rfl rfl rfl rfl (Nat.le_of_ble_eq_true rfl) ⟨Nat.le_refl _, Nat.le_refl _⟩ ⟨Nat.le_refl _, Nat.le_refl _⟩ (show decode cX11_isUnlike 8 = .ok (.invokevirtual 382, 3) by decide +kernel) ?_
  rintro _ _ ⟨x, σ', rfl, rfl, hq⟩ _
  exact (k x σ' hq)
theorem S_X11_isUnlike_11 {G : am_G} {d : Nat} {Q : Int → am_D → Prop} {σ : am_D} {v1 : Int} {v2 : Int} {v3 : Int} {s0 : Int} (hr1 : -2147483648 ≤ s0 ∧ s0 ≤ 2147483647) (k1 : ¬ s0 = (-1) → am_X (am_FI G (d + 1) Q) mX11_isUnlike (0, 0) 19 [some (am_r (some 91)), some (am_i v1), some (am_i v2), some (am_i v3), none, none, none, none] [] (am_K0, σ)) (k2 : ¬ (¬ s0 = (-1)) → am_X (am_FI G (d + 1) Q) mX11_isUnlike (0, 0) 15 [some (am_r (some 91)), some (am_i v1), some (am_i v2), some (am_i v3), none, none, none, none] [] (am_K0, σ)) : am_X (am_FI G (d + 1) Q) mX11_isUnlike (0, 0) 11 [some (am_r (some 91)), some (am_i v1), some (am_i v2), some (am_i v3), none, none, none, none] [am_i s0] (am_K0, σ) := by
  refine am_r_iconst (nx := 12) (show decode cX11_isUnlike 11 = .ok (.iconst (-1), 1) by decide +kernel) rfl ?_
  refine am_r_icmp_ne (tg := 19) (nx := 15) (show decode cX11_isUnlike 12 = .ok (.if_icmp .ne 7, 3) by decide +kernel) (by decide) rfl hr1 (by omega) ?_ ?_
  · exact fun q => k1 q
  · exact fun q => k2 q
theorem S_X11_isUnlike_15 {G : am_G} {d : Nat} {Q : Int → am_D → Prop} {σ : am_D} {v1 : Int} {v2 : Int} {v3 : Int}  (k : am_X (am_FI G (d + 1) Q) mX11_isUnlike (0, 0) 20 [some (am_r (some 91)), some (am_i v1), some (am_i v2), some (am_i v3), none, none, none, none] [am_i 1] (am_K0, σ)) : am_X (am_FI G (d + 1) Q) mX11_isUnlike (0, 0) 15 [some (am_r (some 91)), some (am_i v1), some (am_i v2), some (am_i v3), none, none, none, none] [] (am_K0, σ) := by
  refine am_r_iconst (nx := 16) (show decode cX11_isUnlike 15 = .ok (.iconst 1, 1) by decide +kernel) rfl ?_
  refine am_r_goto (tg := 20) (show decode cX11_isUnlike 16 = .ok (.goto 4, 3) by decide +kernel) (by decide) ?_
  exact k
theorem S_X11_isUnlike_19 {G : am_G} {d : Nat} {Q : Int → am_D → Prop} {σ : am_D} {v1 : Int} {v2 : Int} {v3 : Int}  (k : am_X (am_FI G (d + 1) Q) mX11_isUnlike (0, 0) 20 [some (am_r (some 91)), some (am_i v1), some (am_i v2), some (am_i v3), none, none, none, none] [am_i 0] (am_K0, σ)) : am_X (am_FI G (d + 1) Q) mX11_isUnlike (0, 0) 19 [some (am_r (some 91)), some (am_i v1), some (am_i v2), some (am_i v3), none, none, none, none] [] (am_K0, σ) := by
  refine am_r_iconst (nx := 20) (show decode cX11_isUnlike 19 = .ok (.iconst 0, 1) by decide +kernel) rfl ?_
  exact k
theorem S_X11_isUnlike_20 {G : am_G} {d : Nat} {Q : Int → am_D → Prop} {σ : am_D} {v1 : Int} {v2 : Int} {v3 : Int} {s0 : Int}  (k : am_X (am_FI G (d + 1) Q) mX11_isUnlike (0, 0) 22 [some (am_r (some 91)), some (am_i v1), some (am_i v2), some (am_i v3), some (am_i s0), none, none, none] [] (am_K0, σ)) : am_X (am_FI G (d + 1) Q) mX11_isUnlike (0, 0) 20 [some (am_r (some 91)), some (am_i v1), some (am_i v2), some (am_i v3), none, none, none, none] [am_i s0] (am_K0, σ) := by
  refine am_r_istore (nx := 22) (by decide) rfl (show decode cX11_isUnlike 20 = .ok (.istore 4, 2) by decide +kernel) rfl ?_
  exact k
theorem S_X11_isUnlike_22 {G : am_G} {d : Nat} {Q : Int → am_D → Prop} {σ : am_D} {v1 : Int} {v2 : Int} {v3 : Int} {v4 : Int} {Q' : Int → am_D → Prop} (hc : am_MI G d mX11_refusedAt [am_r (some 91), am_i 2, am_i v2, am_r (some 131), am_i v3] σ Q') (k : ∀ (x : Int) (σ' : am_D), Q' x σ' → am_X (am_FI G (d + 1) Q) mX11_isUnlike (0, 0) 33 [some (am_r (some 91)), some (am_i v1), some (am_i v2), none, some (am_i v4), none, none, none] [am_i x] (am_K0, σ')) : am_X (am_FI G (d + 1) Q) mX11_isUnlike (0, 0) 22 [some (am_r (some 91)), some (am_i v1), some (am_i v2), some (am_i v3), some (am_i v4), none, none, none] [] (am_K0, σ) := by
  refine am_r_aload_n (nx := 23) rfl rfl (show decode cX11_isUnlike 22 = .ok (.aload_n 0, 1) by decide +kernel) rfl ?_
  refine am_r_iconst (nx := 24) (show decode cX11_isUnlike 23 = .ok (.iconst 2, 1) by decide +kernel) rfl ?_
  refine am_r_iload_n (nx := 25) rfl rfl (show decode cX11_isUnlike 24 = .ok (.iload_n 2, 1) by decide +kernel) rfl ?_
  refine am_r_aload_n (nx := 26) rfl rfl (show decode cX11_isUnlike 25 = .ok (.aload_n 0, 1) by decide +kernel) rfl ?_
  refine am_r_getF (nx := 29) 57 cw11 (by decide) rfl (Or.inl fl_X11_130) (ob_91) (fn_91_57) (show decode cX11_isUnlike 26 = .ok (.getfield 130, 3) by decide +kernel) rfl ?_
  refine am_r_iload_n (nx := 30) rfl rfl (show decode cX11_isUnlike 29 = .ok (.iload_n 3, 1) by decide +kernel) rfl ?_
  refine am_r_callV (as := [am_i 2, am_i v2, am_r (some 131), am_i v3]) (st := []) hc mb_X11_refusedAt mv_X11_refusedAt (Or.inl ml_X11_382) (ob_91) (by omega) (r := (RX11, TX11, 63)) rfl rfl rfl rfl (Nat.le_of_ble_eq_true rfl) ⟨Nat.le_refl _, Nat.le_refl _⟩ ⟨Nat.le_refl _, Nat.le_refl _⟩ (show decode cX11_isUnlike 30 = .ok (.invokevirtual 382, 3) by decide +kernel) ?_
  rintro _ _ ⟨x, σ', rfl, rfl, hq⟩ _
  exact am_x_fg [3] (k x σ' hq)
theorem S_X11_isUnlike_33 {G : am_G} {d : Nat} {Q : Int → am_D → Prop} {σ : am_D} {v1 : Int} {v2 : Int} {v4 : Int} {s0 : Int} (hr1 : -2147483648 ≤ s0 ∧ s0 ≤ 2147483647) (k1 : ¬ s0 = (-1) → am_X (am_FI G (d + 1) Q) mX11_isUnlike (0, 0) 41 [some (am_r (some 91)), some (am_i v1), some (am_i v2), none, some (am_i v4), none, none, none] [] (am_K0, σ)) (k2 : ¬ (¬ s0 = (-1)) → am_X (am_FI G (d + 1) Q) mX11_isUnlike (0, 0) 37 [some (am_r (some 91)), some (am_i v1), some (am_i v2), none, some (am_i v4), none, none, none] [] (am_K0, σ)) : am_X (am_FI G (d + 1) Q) mX11_isUnlike (0, 0) 33 [some (am_r (some 91)), some (am_i v1), some (am_i v2), none, some (am_i v4), none, none, none] [am_i s0] (am_K0, σ) := by
  refine am_r_iconst (nx := 34) (show decode cX11_isUnlike 33 = .ok (.iconst (-1), 1) by decide +kernel) rfl ?_
  refine am_r_icmp_ne (tg := 41) (nx := 37) (show decode cX11_isUnlike 34 = .ok (.if_icmp .ne 7, 3) by decide +kernel) (by decide) rfl hr1 (by omega) ?_ ?_
  · exact fun q => k1 q
  · exact fun q => k2 q
theorem S_X11_isUnlike_37 {G : am_G} {d : Nat} {Q : Int → am_D → Prop} {σ : am_D} {v1 : Int} {v2 : Int} {v4 : Int}  (k : am_X (am_FI G (d + 1) Q) mX11_isUnlike (0, 0) 42 [some (am_r (some 91)), some (am_i v1), some (am_i v2), none, some (am_i v4), none, none, none] [am_i 1] (am_K0, σ)) : am_X (am_FI G (d + 1) Q) mX11_isUnlike (0, 0) 37 [some (am_r (some 91)), some (am_i v1), some (am_i v2), none, some (am_i v4), none, none, none] [] (am_K0, σ) := by
  refine am_r_iconst (nx := 38) (show decode cX11_isUnlike 37 = .ok (.iconst 1, 1) by decide +kernel) rfl ?_
  refine am_r_goto (tg := 42) (show decode cX11_isUnlike 38 = .ok (.goto 4, 3) by decide +kernel) (by decide) ?_
  exact k
theorem S_X11_isUnlike_41 {G : am_G} {d : Nat} {Q : Int → am_D → Prop} {σ : am_D} {v1 : Int} {v2 : Int} {v4 : Int}  (k : am_X (am_FI G (d + 1) Q) mX11_isUnlike (0, 0) 42 [some (am_r (some 91)), some (am_i v1), some (am_i v2), none, some (am_i v4), none, none, none] [am_i 0] (am_K0, σ)) : am_X (am_FI G (d + 1) Q) mX11_isUnlike (0, 0) 41 [some (am_r (some 91)), some (am_i v1), some (am_i v2), none, some (am_i v4), none, none, none] [] (am_K0, σ) := by
  refine am_r_iconst (nx := 42) (show decode cX11_isUnlike 41 = .ok (.iconst 0, 1) by decide +kernel) rfl ?_
  exact k
theorem S_X11_isUnlike_42 {G : am_G} {d : Nat} {Q : Int → am_D → Prop} {σ : am_D} {v1 : Int} {v2 : Int} {v4 : Int} {s0 : Int}  (k : am_X (am_FI G (d + 1) Q) mX11_isUnlike (0, 0) 44 [some (am_r (some 91)), some (am_i v1), some (am_i v2), none, some (am_i v4), some (am_i s0), none, none] [] (am_K0, σ)) : am_X (am_FI G (d + 1) Q) mX11_isUnlike (0, 0) 42 [some (am_r (some 91)), some (am_i v1), some (am_i v2), none, some (am_i v4), none, none, none] [am_i s0] (am_K0, σ) := by
  refine am_r_istore (nx := 44) (by decide) rfl (show decode cX11_isUnlike 42 = .ok (.istore 5, 2) by decide +kernel) rfl ?_
  exact k
theorem S_X11_isUnlike_44 {G : am_G} {d : Nat} {Q : Int → am_D → Prop} {σ : am_D} {v1 : Int} {v2 : Int} {v4 : Int} {v5 : Int} (hr1 : -2147483648 ≤ v4 ∧ v4 ≤ 2147483647) (k1 : v4 = 0 → am_X (am_FI G (d + 1) Q) mX11_isUnlike (0, 0) 54 [none, none, none, none, some (am_i v4), some (am_i v5), none, none] [] (am_K0, σ)) (k2 : ¬ (v4 = 0) → am_X (am_FI G (d + 1) Q) mX11_isUnlike (0, 0) 49 [some (am_r (some 91)), some (am_i v1), some (am_i v2), none, some (am_i v4), some (am_i v5), none, none] [] (am_K0, σ)) : am_X (am_FI G (d + 1) Q) mX11_isUnlike (0, 0) 44 [some (am_r (some 91)), some (am_i v1), some (am_i v2), none, some (am_i v4), some (am_i v5), none, none] [] (am_K0, σ) := by
  refine am_r_iload (nx := 46) rfl (show decode cX11_isUnlike 44 = .ok (.iload 4, 2) by decide +kernel) rfl ?_
  refine am_r_if_eq (tg := 54) (nx := 49) (show decode cX11_isUnlike 46 = .ok (.ifCond .eq 8, 3) by decide +kernel) (by decide) rfl hr1 ?_ ?_
  · exact fun q => am_x_fg [0, 1, 2] (k1 q)
  · exact fun q => k2 q
theorem S_X11_isUnlike_49 {G : am_G} {d : Nat} {Q : Int → am_D → Prop} {σ : am_D} {v1 : Int} {v2 : Int} {v4 : Int} {v5 : Int} (hr1 : -2147483648 ≤ v5 ∧ v5 ≤ 2147483647) (k1 : ¬ v5 = 0 → am_X (am_FI G (d + 1) Q) mX11_isUnlike (0, 0) 67 [some (am_r (some 91)), some (am_i v1), some (am_i v2), none, none, none, none, none] [] (am_K0, σ)) (k2 : ¬ (¬ v5 = 0) → am_X (am_FI G (d + 1) Q) mX11_isUnlike (0, 0) 54 [none, none, none, none, some (am_i v4), some (am_i v5), none, none] [] (am_K0, σ)) : am_X (am_FI G (d + 1) Q) mX11_isUnlike (0, 0) 49 [some (am_r (some 91)), some (am_i v1), some (am_i v2), none, some (am_i v4), some (am_i v5), none, none] [] (am_K0, σ) := by
  refine am_r_iload (nx := 51) rfl (show decode cX11_isUnlike 49 = .ok (.iload 5, 2) by decide +kernel) rfl ?_
  refine am_r_if_ne (tg := 67) (nx := 54) (show decode cX11_isUnlike 51 = .ok (.ifCond .ne 16, 3) by decide +kernel) (by decide) rfl hr1 ?_ ?_
  · exact fun q => am_x_fg [4, 5] (k1 q)
  · exact fun q => am_x_fg [0, 1, 2] (k2 q)
theorem S_X11_isUnlike_54 {G : am_G} {d : Nat} {Q : Int → am_D → Prop} {σ : am_D} {v4 : Int} {v5 : Int} (hr1 : -2147483648 ≤ v4 ∧ v4 ≤ 2147483647) (hr2 : -2147483648 ≤ v5 ∧ v5 ≤ 2147483647) (k1 : v4 = v5 → am_X (am_FI G (d + 1) Q) mX11_isUnlike (0, 0) 65 [none, none, none, none, none, none, none, none] [] (am_K0, σ)) (k2 : ¬ (v4 = v5) → am_X (am_FI G (d + 1) Q) mX11_isUnlike (0, 0) 61 [none, none, none, none, none, none, none, none] [] (am_K0, σ)) : am_X (am_FI G (d + 1) Q) mX11_isUnlike (0, 0) 54 [none, none, none, none, some (am_i v4), some (am_i v5), none, none] [] (am_K0, σ) := by
  refine am_r_iload (nx := 56) rfl (show decode cX11_isUnlike 54 = .ok (.iload 4, 2) by decide +kernel) rfl ?_
  refine am_r_iload (nx := 58) rfl (show decode cX11_isUnlike 56 = .ok (.iload 5, 2) by decide +kernel) rfl ?_
  refine am_r_icmp_eq (tg := 65) (nx := 61) (show decode cX11_isUnlike 58 = .ok (.if_icmp .eq 7, 3) by decide +kernel) (by decide) rfl hr1 hr2 ?_ ?_
  · exact fun q => am_x_fg [4, 5] (k1 q)
  · exact fun q => am_x_fg [4, 5] (k2 q)
theorem S_X11_isUnlike_61 {G : am_G} {d : Nat} {Q : Int → am_D → Prop} {σ : am_D}   (k : am_X (am_FI G (d + 1) Q) mX11_isUnlike (0, 0) 66 [none, none, none, none, none, none, none, none] [am_i 1] (am_K0, σ)) : am_X (am_FI G (d + 1) Q) mX11_isUnlike (0, 0) 61 [none, none, none, none, none, none, none, none] [] (am_K0, σ) := by
  refine am_r_iconst (nx := 62) (show decode cX11_isUnlike 61 = .ok (.iconst 1, 1) by decide +kernel) rfl ?_
  refine am_r_goto (tg := 66) (show decode cX11_isUnlike 62 = .ok (.goto 4, 3) by decide +kernel) (by decide) ?_
  exact k
theorem S_X11_isUnlike_65 {G : am_G} {d : Nat} {Q : Int → am_D → Prop} {σ : am_D}   (k : am_X (am_FI G (d + 1) Q) mX11_isUnlike (0, 0) 66 [none, none, none, none, none, none, none, none] [am_i 0] (am_K0, σ)) : am_X (am_FI G (d + 1) Q) mX11_isUnlike (0, 0) 65 [none, none, none, none, none, none, none, none] [] (am_K0, σ) := by
  refine am_r_iconst (nx := 66) (show decode cX11_isUnlike 65 = .ok (.iconst 0, 1) by decide +kernel) rfl ?_
  exact k
theorem S_X11_isUnlike_66 {G : am_G} {d : Nat} {Q : Int → am_D → Prop} {σ : am_D} {s0 : Int} (hz : s0 = 0 ∨ s0 = 1) (k : Q s0 σ) : am_X (am_FI G (d + 1) Q) mX11_isUnlike (0, 0) 66 [none, none, none, none, none, none, none, none] [am_i s0] (am_K0, σ) := by
  exact am_r_iret rfl (by rcases hz with hz | hz <;> rw [hz] <;> rfl) (show decode cX11_isUnlike 66 = .ok (.ireturn, 1) by decide +kernel) ⟨_, _, rfl, rfl, k⟩
theorem S_X11_isUnlike_67 {G : am_G} {d : Nat} {Q : Int → am_D → Prop} {σ : am_D} {v1 : Int} {v2 : Int} {Q' : Int → am_D → Prop} (hc : am_MI G d mX11_writes [am_r (some 91), am_i 1, am_i v1, am_r (some 127)] σ Q') (k : ∀ (x : Int) (σ' : am_D), Q' x σ' → am_X (am_FI G (d + 1) Q) mX11_isUnlike (0, 0) 78 [some (am_r (some 91)), none, some (am_i v2), none, none, none, none, none] [am_i x, am_r (some 91)] (am_K0, σ')) : am_X (am_FI G (d + 1) Q) mX11_isUnlike (0, 0) 67 [some (am_r (some 91)), some (am_i v1), some (am_i v2), none, none, none, none, none] [] (am_K0, σ) := by
  refine am_r_aload_n (nx := 68) rfl rfl (show decode cX11_isUnlike 67 = .ok (.aload_n 0, 1) by decide +kernel) rfl ?_
  refine am_r_aload_n (nx := 69) rfl rfl (show decode cX11_isUnlike 68 = .ok (.aload_n 0, 1) by decide +kernel) rfl ?_
  refine am_r_iconst (nx := 70) (show decode cX11_isUnlike 69 = .ok (.iconst 1, 1) by decide +kernel) rfl ?_
  refine am_r_iload_n (nx := 71) rfl rfl (show decode cX11_isUnlike 70 = .ok (.iload_n 1, 1) by decide +kernel) rfl ?_
  refine am_r_aload_n (nx := 72) rfl rfl (show decode cX11_isUnlike 71 = .ok (.aload_n 0, 1) by decide +kernel) rfl ?_
  refine am_r_getF (nx := 75) 52 cw11 (by decide) rfl (Or.inl fl_X11_117) (ob_91) (fn_91_52) (show decode cX11_isUnlike 72 = .ok (.getfield 117, 3) by decide +kernel) rfl ?_
  refine am_r_callV (as := [am_i 1, am_i v1, am_r (some 127)]) (st := [am_r (some 91)]) hc mb_X11_writes mv_X11_writes (Or.inl ml_X11_378) (ob_91) (by omega) (r := (RX11, TX11, 63)) rfl rfl rfl rfl (Nat.le_of_ble_eq_true rfl) ⟨Nat.le_refl _, Nat.le_refl _⟩ ⟨Nat.le_refl _, Nat.le_refl _⟩ (show decode cX11_isUnlike 75 = .ok (.invokevirtual 378, 3) by decide +kernel) ?_
  rintro _ _ ⟨x, σ', rfl, rfl, hq⟩ _
  exact am_x_fg [1] (k x σ' hq)
theorem S_X11_isUnlike_78 {G : am_G} {d : Nat} {Q : Int → am_D → Prop} {σ : am_D} {v2 : Int} {s1 : Int}  (k : am_X (am_FI G (d + 1) Q) mX11_isUnlike (0, 0) 81 [some (am_r (some 91)), none, some (am_i v2), none, none, none, none, none] [] (am_K0, (am_pI σ 91 54 s1))) : am_X (am_FI G (d + 1) Q) mX11_isUnlike (0, 0) 78 [some (am_r (some 91)), none, some (am_i v2), none, none, none, none, none] [am_i s1, am_r (some 91)] (am_K0, σ) := by
  refine am_r_putI (nx := 81) 54 cw11 (by decide) rfl (Or.inl fl_X11_386) (ob_91) rfl (Or.inl rfl) (show decode cX11_isUnlike 78 = .ok (.putfield 386, 3) by decide +kernel) rfl ?_
  exact k
theorem S_X11_isUnlike_81 {G : am_G} {d : Nat} {Q : Int → am_D → Prop} {σ : am_D} {v2 : Int} {Q' : Int → am_D → Prop} (hc : am_MI G d mX11_writes [am_r (some 91), am_i 2, am_i v2, am_r (some 128)] σ Q') (k : ∀ (x : Int) (σ' : am_D), Q' x σ' → am_X (am_FI G (d + 1) Q) mX11_isUnlike (0, 0) 93 [some (am_r (some 91)), none, none, none, none, none, some (am_i x), none] [] (am_K0, σ')) : am_X (am_FI G (d + 1) Q) mX11_isUnlike (0, 0) 81 [some (am_r (some 91)), none, some (am_i v2), none, none, none, none, none] [] (am_K0, σ) := by
  refine am_r_aload_n (nx := 82) rfl rfl (show decode cX11_isUnlike 81 = .ok (.aload_n 0, 1) by decide +kernel) rfl ?_
  refine am_r_iconst (nx := 83) (show decode cX11_isUnlike 82 = .ok (.iconst 2, 1) by decide +kernel) rfl ?_
  refine am_r_iload_n (nx := 84) rfl rfl (show decode cX11_isUnlike 83 = .ok (.iload_n 2, 1) by decide +kernel) rfl ?_
  refine am_r_aload_n (nx := 85) rfl rfl (show decode cX11_isUnlike 84 = .ok (.aload_n 0, 1) by decide +kernel) rfl ?_
  refine am_r_getF (nx := 88) 53 cw11 (by decide) rfl (Or.inl fl_X11_120) (ob_91) (fn_91_53) (show decode cX11_isUnlike 85 = .ok (.getfield 120, 3) by decide +kernel) rfl ?_
  refine am_r_callV (as := [am_i 2, am_i v2, am_r (some 128)]) (st := []) hc mb_X11_writes mv_X11_writes (Or.inl ml_X11_378) (ob_91) (by omega) (r := (RX11, TX11, 63)) rfl rfl rfl rfl (Nat.le_of_ble_eq_true rfl) ⟨Nat.le_refl _, Nat.le_refl _⟩ ⟨Nat.le_refl _, Nat.le_refl _⟩ (show decode cX11_isUnlike 88 = .ok (.invokevirtual 378, 3) by decide +kernel) ?_
  rintro _ _ ⟨x, σ', rfl, rfl, hq⟩ _
  refine am_r_istore (nx := 93) (by decide) rfl (show decode cX11_isUnlike 91 = .ok (.istore 6, 2) by decide +kernel) rfl ?_
  exact am_x_fg [2] (k x σ' hq)
theorem S_X11_isUnlike_93 {G : am_G} {d : Nat} {Q : Int → am_D → Prop} {σ : am_D} {v6 : Int} (hr1 : -2147483648 ≤ v6 ∧ v6 ≤ 2147483647) (hr2 : -2147483648 ≤ (σ.1 91 54) ∧ (σ.1 91 54) ≤ 2147483647) (k1 : v6 = (σ.1 91 54) → am_X (am_FI G (d + 1) Q) mX11_isUnlike (0, 0) 104 [some (am_r (some 91)), none, none, none, none, none, some (am_i v6), none] [] (am_K0, σ)) (k2 : ¬ (v6 = (σ.1 91 54)) → am_X (am_FI G (d + 1) Q) mX11_isUnlike (0, 0) 102 [none, none, none, none, none, none, none, none] [] (am_K0, σ)) : am_X (am_FI G (d + 1) Q) mX11_isUnlike (0, 0) 93 [some (am_r (some 91)), none, none, none, none, none, some (am_i v6), none] [] (am_K0, σ) := by
  refine am_r_iload (nx := 95) rfl (show decode cX11_isUnlike 93 = .ok (.iload 6, 2) by decide +kernel) rfl ?_
  refine am_r_aload_n (nx := 96) rfl rfl (show decode cX11_isUnlike 95 = .ok (.aload_n 0, 1) by decide +kernel) rfl ?_
  refine am_r_getI (nx := 99) 54 cw11 (by decide) rfl (Or.inl fl_X11_386) (ob_91) (show decode cX11_isUnlike 96 = .ok (.getfield 386, 3) by decide +kernel) rfl ?_
  refine am_r_icmp_eq (tg := 104) (nx := 102) (show decode cX11_isUnlike 99 = .ok (.if_icmp .eq 5, 3) by decide +kernel) (by decide) rfl hr1 hr2 ?_ ?_
  · exact fun q => k1 q
  · exact fun q => am_x_fg [0, 6] (k2 q)
theorem S_X11_isUnlike_102 {G : am_G} {d : Nat} {Q : Int → am_D → Prop} {σ : am_D}   (k : Q 1 σ) : am_X (am_FI G (d + 1) Q) mX11_isUnlike (0, 0) 102 [none, none, none, none, none, none, none, none] [] (am_K0, σ) := by
  refine am_r_iconst (nx := 103) (show decode cX11_isUnlike 102 = .ok (.iconst 1, 1) by decide +kernel) rfl ?_
  exact am_r_iret rfl rfl (show decode cX11_isUnlike 103 = .ok (.ireturn, 1) by decide +kernel) ⟨_, _, rfl, rfl, k⟩
theorem S_X11_isUnlike_104 {G : am_G} {d : Nat} {Q : Int → am_D → Prop} {σ : am_D} {v6 : Int}  (k : am_X (am_FI G (d + 1) Q) mX11_isUnlike (0, 0) 107 [some (am_r (some 91)), none, none, none, none, none, some (am_i v6), some (am_i 0)] [] (am_K0, σ)) : am_X (am_FI G (d + 1) Q) mX11_isUnlike (0, 0) 104 [some (am_r (some 91)), none, none, none, none, none, some (am_i v6), none] [] (am_K0, σ) := by
  refine am_r_iconst (nx := 105) (show decode cX11_isUnlike 104 = .ok (.iconst 0, 1) by decide +kernel) rfl ?_
  refine am_r_istore (nx := 107) (by decide) rfl (show decode cX11_isUnlike 105 = .ok (.istore 7, 2) by decide +kernel) rfl ?_
  exact k
theorem S_X11_isUnlike_107 {G : am_G} {d : Nat} {Q : Int → am_D → Prop} {σ : am_D} {v6 : Int} {v7 : Int} (hr1 : -2147483648 ≤ v7 ∧ v7 ≤ 2147483647) (hr2 : -2147483648 ≤ v6 ∧ v6 ≤ 2147483647) (k1 : v6 ≤ v7 → am_X (am_FI G (d + 1) Q) mX11_isUnlike (0, 0) 139 [none, none, none, none, none, none, none, none] [] (am_K0, σ)) (k2 : ¬ (v6 ≤ v7) → am_X (am_FI G (d + 1) Q) mX11_isUnlike (0, 0) 114 [some (am_r (some 91)), none, none, none, none, none, some (am_i v6), some (am_i v7)] [] (am_K0, σ)) : am_X (am_FI G (d + 1) Q) mX11_isUnlike (0, 0) 107 [some (am_r (some 91)), none, none, none, none, none, some (am_i v6), some (am_i v7)] [] (am_K0, σ) := by
  refine am_r_iload (nx := 109) rfl (show decode cX11_isUnlike 107 = .ok (.iload 7, 2) by decide +kernel) rfl ?_
  refine am_r_iload (nx := 111) rfl (show decode cX11_isUnlike 109 = .ok (.iload 6, 2) by decide +kernel) rfl ?_
  refine am_r_icmp_ge (tg := 139) (nx := 114) (show decode cX11_isUnlike 111 = .ok (.if_icmp .ge 28, 3) by decide +kernel) (by decide) rfl hr1 hr2 ?_ ?_
  · exact fun q => am_x_fg [0, 6, 7] (k1 q)
  · exact fun q => k2 q
theorem S_X11_isUnlike_114 {G : am_G} {d : Nat} {Q : Int → am_D → Prop} {σ : am_D} {v6 : Int} {v7 : Int} (hi1 : 0 ≤ v7) (hj2 : v7 < 5000) (hi3 : 0 ≤ v7) (hj4 : v7 < 5000) (hr5 : -2147483648 ≤ (σ.1 127 v7) ∧ (σ.1 127 v7) ≤ 2147483647) (hr6 : -2147483648 ≤ (σ.1 128 v7) ∧ (σ.1 128 v7) ≤ 2147483647) (k1 : (σ.1 127 v7) = (σ.1 128 v7) → am_X (am_FI G (d + 1) Q) mX11_isUnlike (0, 0) 133 [some (am_r (some 91)), none, none, none, none, none, some (am_i v6), some (am_i v7)] [] (am_K0, σ)) (k2 : ¬ ((σ.1 127 v7) = (σ.1 128 v7)) → am_X (am_FI G (d + 1) Q) mX11_isUnlike (0, 0) 131 [none, none, none, none, none, none, none, none] [] (am_K0, σ)) : am_X (am_FI G (d + 1) Q) mX11_isUnlike (0, 0) 114 [some (am_r (some 91)), none, none, none, none, none, some (am_i v6), some (am_i v7)] [] (am_K0, σ) := by
  refine am_r_aload_n (nx := 115) rfl rfl (show decode cX11_isUnlike 114 = .ok (.aload_n 0, 1) by decide +kernel) rfl ?_
  refine am_r_getF (nx := 118) 52 cw11 (by decide) rfl (Or.inl fl_X11_117) (ob_91) (fn_91_52) (show decode cX11_isUnlike 115 = .ok (.getfield 117, 3) by decide +kernel) rfl ?_
  refine am_r_iload (nx := 120) rfl (show decode cX11_isUnlike 118 = .ok (.iload 7, 2) by decide +kernel) rfl ?_
  refine am_r_iald (nx := 121) (sh_127) (am_shle (sh_127)) hi1 hj2 (show decode cX11_isUnlike 120 = .ok (.iaload, 1) by decide +kernel) rfl ?_
  refine am_r_aload_n (nx := 122) rfl rfl (show decode cX11_isUnlike 121 = .ok (.aload_n 0, 1) by decide +kernel) rfl ?_
  refine am_r_getF (nx := 125) 53 cw11 (by decide) rfl (Or.inl fl_X11_120) (ob_91) (fn_91_53) (show decode cX11_isUnlike 122 = .ok (.getfield 120, 3) by decide +kernel) rfl ?_
  refine am_r_iload (nx := 127) rfl (show decode cX11_isUnlike 125 = .ok (.iload 7, 2) by decide +kernel) rfl ?_
  refine am_r_iald (nx := 128) (sh_128) (am_shle (sh_128)) hi3 hj4 (show decode cX11_isUnlike 127 = .ok (.iaload, 1) by decide +kernel) rfl ?_
  refine am_r_icmp_eq (tg := 133) (nx := 131) (show decode cX11_isUnlike 128 = .ok (.if_icmp .eq 5, 3) by decide +kernel) (by decide) rfl hr5 hr6 ?_ ?_
  · exact fun q => k1 q
  · exact fun q => am_x_fg [0, 6, 7] (k2 q)
theorem S_X11_isUnlike_131 {G : am_G} {d : Nat} {Q : Int → am_D → Prop} {σ : am_D}   (k : Q 1 σ) : am_X (am_FI G (d + 1) Q) mX11_isUnlike (0, 0) 131 [none, none, none, none, none, none, none, none] [] (am_K0, σ) := by
  refine am_r_iconst (nx := 132) (show decode cX11_isUnlike 131 = .ok (.iconst 1, 1) by decide +kernel) rfl ?_
  exact am_r_iret rfl rfl (show decode cX11_isUnlike 132 = .ok (.ireturn, 1) by decide +kernel) ⟨_, _, rfl, rfl, k⟩
theorem S_X11_isUnlike_133 {G : am_G} {d : Nat} {Q : Int → am_D → Prop} {σ : am_D} {v6 : Int} {v7 : Int}  (k : am_X (am_FI G (d + 1) Q) mX11_isUnlike (0, 0) 107 [some (am_r (some 91)), none, none, none, none, none, some (am_i v6), some (am_i (v7 + 1))] [] (am_K0, σ)) : am_X (am_FI G (d + 1) Q) mX11_isUnlike (0, 0) 133 [some (am_r (some 91)), none, none, none, none, none, some (am_i v6), some (am_i v7)] [] (am_K0, σ) := by
  refine am_r_iinc (nx := 136) rfl rfl (show decode cX11_isUnlike 133 = .ok (.iinc 7 1, 3) by decide +kernel) rfl ?_
  refine am_r_goto (tg := 107) (show decode cX11_isUnlike 136 = .ok (.goto (-29), 3) by decide +kernel) (by decide) ?_
  exact k
theorem S_X11_isUnlike_139 {G : am_G} {d : Nat} {Q : Int → am_D → Prop} {σ : am_D}   (k : Q 0 σ) : am_X (am_FI G (d + 1) Q) mX11_isUnlike (0, 0) 139 [none, none, none, none, none, none, none, none] [] (am_K0, σ) := by
  refine am_r_iconst (nx := 140) (show decode cX11_isUnlike 139 = .ok (.iconst 0, 1) by decide +kernel) rfl ?_
  exact am_r_iret rfl rfl (show decode cX11_isUnlike 140 = .ok (.ireturn, 1) by decide +kernel) ⟨_, _, rfl, rfl, k⟩
theorem S_X11_isSpoilt_0 {G : am_G} {d : Nat} {Q : Int → am_D → Prop} {σ : am_D} {v1 : Int} {v2 : Int} {v3 : Int} {Q' : Int → am_D → Prop} (hc : am_MI G d mX11_refusedAt [am_r (some 91), am_i 1, am_i v1, am_r (some 131), am_i v3] σ Q') (k : ∀ (x : Int) (σ' : am_D), Q' x σ' → am_X (am_FI G (d + 1) Q) mX11_isSpoilt (0, 0) 11 [some (am_r (some 91)), some (am_i v1), some (am_i v2), some (am_i v3)] [am_i x] (am_K0, σ')) : am_X (am_FI G (d + 1) Q) mX11_isSpoilt (0, 0) 0 [some (am_r (some 91)), some (am_i v1), some (am_i v2), some (am_i v3)] [] (am_K0, σ) := by
  refine am_r_aload_n (nx := 1) rfl rfl (show decode cX11_isSpoilt 0 = .ok (.aload_n 0, 1) by decide +kernel) rfl ?_
  refine am_r_iconst (nx := 2) (show decode cX11_isSpoilt 1 = .ok (.iconst 1, 1) by decide +kernel) rfl ?_
  refine am_r_iload_n (nx := 3) rfl rfl (show decode cX11_isSpoilt 2 = .ok (.iload_n 1, 1) by decide +kernel) rfl ?_
  refine am_r_aload_n (nx := 4) rfl rfl (show decode cX11_isSpoilt 3 = .ok (.aload_n 0, 1) by decide +kernel) rfl ?_
  refine am_r_getF (nx := 7) 57 cw11 (by decide) rfl (Or.inl fl_X11_130) (ob_91) (fn_91_57) (show decode cX11_isSpoilt 4 = .ok (.getfield 130, 3) by decide +kernel) rfl ?_
  refine am_r_iload_n (nx := 8) rfl rfl (show decode cX11_isSpoilt 7 = .ok (.iload_n 3, 1) by decide +kernel) rfl ?_
  refine am_r_callV (as := [am_i 1, am_i v1, am_r (some 131), am_i v3]) (st := []) hc mb_X11_refusedAt mv_X11_refusedAt (Or.inl ml_X11_382) (ob_91) (by omega) (r := (RX11, TX11, 63)) rfl rfl rfl rfl (Nat.le_of_ble_eq_true rfl) ⟨Nat.le_refl _, Nat.le_refl _⟩ ⟨Nat.le_refl _, Nat.le_refl _⟩ (show decode cX11_isSpoilt 8 = .ok (.invokevirtual 382, 3) by decide +kernel) ?_
  rintro _ _ ⟨x, σ', rfl, rfl, hq⟩ _
  exact (k x σ' hq)
theorem S_X11_isSpoilt_11 {G : am_G} {d : Nat} {Q : Int → am_D → Prop} {σ : am_D} {v1 : Int} {v2 : Int} {v3 : Int} {s0 : Int} (hr1 : -2147483648 ≤ s0 ∧ s0 ≤ 2147483647) (k1 : ¬ s0 = (-1) → am_X (am_FI G (d + 1) Q) mX11_isSpoilt (0, 0) 33 [none, none, none, none] [] (am_K0, σ)) (k2 : ¬ (¬ s0 = (-1)) → am_X (am_FI G (d + 1) Q) mX11_isSpoilt (0, 0) 15 [some (am_r (some 91)), some (am_i v1), some (am_i v2), some (am_i v3)] [] (am_K0, σ)) : am_X (am_FI G (d + 1) Q) mX11_isSpoilt (0, 0) 11 [some (am_r (some 91)), some (am_i v1), some (am_i v2), some (am_i v3)] [am_i s0] (am_K0, σ) := by
  refine am_r_iconst (nx := 12) (show decode cX11_isSpoilt 11 = .ok (.iconst (-1), 1) by decide +kernel) rfl ?_
  refine am_r_icmp_ne (tg := 33) (nx := 15) (show decode cX11_isSpoilt 12 = .ok (.if_icmp .ne 21, 3) by decide +kernel) (by decide) rfl hr1 (by omega) ?_ ?_
  · exact fun q => am_x_fg [0, 1, 2, 3] (k1 q)
  · exact fun q => k2 q
theorem S_X11_isSpoilt_15 {G : am_G} {d : Nat} {Q : Int → am_D → Prop} {σ : am_D} {v1 : Int} {v2 : Int} {v3 : Int} {Q' : Int → am_D → Prop} (hc : am_MI G d mX11_isReadBy [am_r (some 91), am_i v1, am_i v2, am_r (some 131), am_i v3] σ Q') (k : ∀ (x : Int) (σ' : am_D), Q' x σ' → am_X (am_FI G (d + 1) Q) mX11_isSpoilt (0, 0) 26 [none, none, none, none] [am_i x] (am_K0, σ')) : am_X (am_FI G (d + 1) Q) mX11_isSpoilt (0, 0) 15 [some (am_r (some 91)), some (am_i v1), some (am_i v2), some (am_i v3)] [] (am_K0, σ) := by
  refine am_r_aload_n (nx := 16) rfl rfl (show decode cX11_isSpoilt 15 = .ok (.aload_n 0, 1) by decide +kernel) rfl ?_
  refine am_r_iload_n (nx := 17) rfl rfl (show decode cX11_isSpoilt 16 = .ok (.iload_n 1, 1) by decide +kernel) rfl ?_
  refine am_r_iload_n (nx := 18) rfl rfl (show decode cX11_isSpoilt 17 = .ok (.iload_n 2, 1) by decide +kernel) rfl ?_
  refine am_r_aload_n (nx := 19) rfl rfl (show decode cX11_isSpoilt 18 = .ok (.aload_n 0, 1) by decide +kernel) rfl ?_
  refine am_r_getF (nx := 22) 57 cw11 (by decide) rfl (Or.inl fl_X11_130) (ob_91) (fn_91_57) (show decode cX11_isSpoilt 19 = .ok (.getfield 130, 3) by decide +kernel) rfl ?_
  refine am_r_iload_n (nx := 23) rfl rfl (show decode cX11_isSpoilt 22 = .ok (.iload_n 3, 1) by decide +kernel) rfl ?_
  refine am_r_callV (as := [am_i v1, am_i v2, am_r (some 131), am_i v3]) (st := []) hc mb_X11_isReadBy mv_X11_isReadBy (Or.inl ml_X11_389) (ob_91) (by omega) (r := (RX11, TX11, 63)) rfl rfl rfl rfl (Nat.le_of_ble_eq_true rfl) ⟨Nat.le_refl _, Nat.le_refl _⟩ ⟨Nat.le_refl _, Nat.le_refl _⟩ (show decode cX11_isSpoilt 23 = .ok (.invokevirtual 389, 3) by decide +kernel) ?_
  rintro _ _ ⟨x, σ', rfl, rfl, hq⟩ _
  exact am_x_fg [0, 1, 2, 3] (k x σ' hq)
theorem S_X11_isSpoilt_26 {G : am_G} {d : Nat} {Q : Int → am_D → Prop} {σ : am_D} {s0 : Int} (hr1 : -2147483648 ≤ s0 ∧ s0 ≤ 2147483647) (k1 : ¬ s0 = 0 → am_X (am_FI G (d + 1) Q) mX11_isSpoilt (0, 0) 33 [none, none, none, none] [] (am_K0, σ)) (k2 : ¬ (¬ s0 = 0) → am_X (am_FI G (d + 1) Q) mX11_isSpoilt (0, 0) 29 [none, none, none, none] [] (am_K0, σ)) : am_X (am_FI G (d + 1) Q) mX11_isSpoilt (0, 0) 26 [none, none, none, none] [am_i s0] (am_K0, σ) := by
  refine am_r_if_ne (tg := 33) (nx := 29) (show decode cX11_isSpoilt 26 = .ok (.ifCond .ne 7, 3) by decide +kernel) (by decide) rfl hr1 ?_ ?_
  · exact fun q => k1 q
  · exact fun q => k2 q
theorem S_X11_isSpoilt_29 {G : am_G} {d : Nat} {Q : Int → am_D → Prop} {σ : am_D}   (k : am_X (am_FI G (d + 1) Q) mX11_isSpoilt (0, 0) 34 [none, none, none, none] [am_i 1] (am_K0, σ)) : am_X (am_FI G (d + 1) Q) mX11_isSpoilt (0, 0) 29 [none, none, none, none] [] (am_K0, σ) := by
  refine am_r_iconst (nx := 30) (show decode cX11_isSpoilt 29 = .ok (.iconst 1, 1) by decide +kernel) rfl ?_
  refine am_r_goto (tg := 34) (show decode cX11_isSpoilt 30 = .ok (.goto 4, 3) by decide +kernel) (by decide) ?_
  exact k
theorem S_X11_isSpoilt_33 {G : am_G} {d : Nat} {Q : Int → am_D → Prop} {σ : am_D}   (k : am_X (am_FI G (d + 1) Q) mX11_isSpoilt (0, 0) 34 [none, none, none, none] [am_i 0] (am_K0, σ)) : am_X (am_FI G (d + 1) Q) mX11_isSpoilt (0, 0) 33 [none, none, none, none] [] (am_K0, σ) := by
  refine am_r_iconst (nx := 34) (show decode cX11_isSpoilt 33 = .ok (.iconst 0, 1) by decide +kernel) rfl ?_
  exact k
theorem S_X11_isSpoilt_34 {G : am_G} {d : Nat} {Q : Int → am_D → Prop} {σ : am_D} {s0 : Int} (hz : s0 = 0 ∨ s0 = 1) (k : Q s0 σ) : am_X (am_FI G (d + 1) Q) mX11_isSpoilt (0, 0) 34 [none, none, none, none] [am_i s0] (am_K0, σ) := by
  exact am_r_iret rfl (by rcases hz with hz | hz <;> rw [hz] <;> rfl) (show decode cX11_isSpoilt 34 = .ok (.ireturn, 1) by decide +kernel) ⟨_, _, rfl, rfl, k⟩
theorem S_X11_finds_0 {G : am_G} {d : Nat} {Q : Int → am_D → Prop} {σ : am_D} {v1 : Int} {v2 : Int} {v3 : Int} {v4 : Int} {v5 : Int} {v6 : Int} (hr1 : -2147483648 ≤ v4 ∧ v4 ≤ 2147483647) (hr2 : -2147483648 ≤ v5 ∧ v5 ≤ 2147483647) (k1 : ¬ v4 = v5 → am_X (am_FI G (d + 1) Q) mX11_finds (0, 0) 31 [some (am_r (some 91)), some (am_i v1), some (am_i v2), some (am_i v3), some (am_i v4), some (am_i v5), some (am_i v6), none] [] (am_K0, σ)) (k2 : ¬ (¬ v4 = v5) → am_X (am_FI G (d + 1) Q) mX11_finds (0, 0) 7 [some (am_r (some 91)), some (am_i v1), some (am_i v2), some (am_i v3), none, some (am_i v5), none, none] [] (am_K0, σ)) : am_X (am_FI G (d + 1) Q) mX11_finds (0, 0) 0 [some (am_r (some 91)), some (am_i v1), some (am_i v2), some (am_i v3), some (am_i v4), some (am_i v5), some (am_i v6), none] [] (am_K0, σ) := by
  refine am_r_iload (nx := 2) rfl (show decode cX11_finds 0 = .ok (.iload 4, 2) by decide +kernel) rfl ?_
  refine am_r_iload (nx := 4) rfl (show decode cX11_finds 2 = .ok (.iload 5, 2) by decide +kernel) rfl ?_
  refine am_r_icmp_ne (tg := 31) (nx := 7) (show decode cX11_finds 4 = .ok (.if_icmp .ne 27, 3) by decide +kernel) (by decide) rfl hr1 hr2 ?_ ?_
  · exact fun q => k1 q
  · exact fun q => am_x_fg [4, 6] (k2 q)
theorem S_X11_finds_7 {G : am_G} {d : Nat} {Q : Int → am_D → Prop} {σ : am_D} {v1 : Int} {v2 : Int} {v3 : Int} {v5 : Int} (hr1 : -2147483648 ≤ v3 ∧ v3 ≤ 2147483647) (k1 : v3 = 0 → am_X (am_FI G (d + 1) Q) mX11_finds (0, 0) 22 [some (am_r (some 91)), some (am_i v1), some (am_i v2), none, none, some (am_i v5), none, none] [] (am_K0, σ)) (k2 : ¬ (v3 = 0) → am_X (am_FI G (d + 1) Q) mX11_finds (0, 0) 11 [some (am_r (some 91)), some (am_i v1), some (am_i v2), none, none, some (am_i v5), none, none] [] (am_K0, σ)) : am_X (am_FI G (d + 1) Q) mX11_finds (0, 0) 7 [some (am_r (some 91)), some (am_i v1), some (am_i v2), some (am_i v3), none, some (am_i v5), none, none] [] (am_K0, σ) := by
  refine am_r_iload_n (nx := 8) rfl rfl (show decode cX11_finds 7 = .ok (.iload_n 3, 1) by decide +kernel) rfl ?_
  refine am_r_if_eq (tg := 22) (nx := 11) (show decode cX11_finds 8 = .ok (.ifCond .eq 14, 3) by decide +kernel) (by decide) rfl hr1 ?_ ?_
  · exact fun q => am_x_fg [3] (k1 q)
  · exact fun q => am_x_fg [3] (k2 q)
theorem S_X11_finds_11 {G : am_G} {d : Nat} {Q : Int → am_D → Prop} {σ : am_D} {v1 : Int} {v2 : Int} {v5 : Int} {Q' : Int → am_D → Prop} (hc : am_MI G d mX11_isSpoilt [am_r (some 91), am_i v1, am_i v2, am_i v5] σ Q') (k : ∀ (x : Int) (σ' : am_D), Q' x σ' → am_X (am_FI G (d + 1) Q) mX11_finds (0, 0) 19 [none, none, none, none, none, none, none, none] [am_i x] (am_K0, σ')) : am_X (am_FI G (d + 1) Q) mX11_finds (0, 0) 11 [some (am_r (some 91)), some (am_i v1), some (am_i v2), none, none, some (am_i v5), none, none] [] (am_K0, σ) := by
  refine am_r_aload_n (nx := 12) rfl rfl (show decode cX11_finds 11 = .ok (.aload_n 0, 1) by decide +kernel) rfl ?_
  refine am_r_iload_n (nx := 13) rfl rfl (show decode cX11_finds 12 = .ok (.iload_n 1, 1) by decide +kernel) rfl ?_
  refine am_r_iload_n (nx := 14) rfl rfl (show decode cX11_finds 13 = .ok (.iload_n 2, 1) by decide +kernel) rfl ?_
  refine am_r_iload (nx := 16) rfl (show decode cX11_finds 14 = .ok (.iload 5, 2) by decide +kernel) rfl ?_
  refine am_r_callV (as := [am_i v1, am_i v2, am_i v5]) (st := []) hc mb_X11_isSpoilt mv_X11_isSpoilt (Or.inl ml_X11_412) (ob_91) (by omega) (r := (RX11, TX11, 63)) rfl rfl rfl rfl (Nat.le_of_ble_eq_true rfl) ⟨Nat.le_refl _, Nat.le_refl _⟩ ⟨Nat.le_refl _, Nat.le_refl _⟩ (show decode cX11_finds 16 = .ok (.invokevirtual 412, 3) by decide +kernel) ?_
  rintro _ _ ⟨x, σ', rfl, rfl, hq⟩ _
  exact am_x_fg [0, 1, 2, 5] (k x σ' hq)
theorem S_X11_finds_19 {G : am_G} {d : Nat} {Q : Int → am_D → Prop} {σ : am_D} {s0 : Int}  (k : am_X (am_FI G (d + 1) Q) mX11_finds (0, 0) 30 [none, none, none, none, none, none, none, none] [am_i s0] (am_K0, σ)) : am_X (am_FI G (d + 1) Q) mX11_finds (0, 0) 19 [none, none, none, none, none, none, none, none] [am_i s0] (am_K0, σ) := by
  refine am_r_goto (tg := 30) (show decode cX11_finds 19 = .ok (.goto 11, 3) by decide +kernel) (by decide) ?_
  exact k
theorem S_X11_finds_22 {G : am_G} {d : Nat} {Q : Int → am_D → Prop} {σ : am_D} {v1 : Int} {v2 : Int} {v5 : Int} {Q' : Int → am_D → Prop} (hc : am_MI G d mX11_isUnlike [am_r (some 91), am_i v1, am_i v2, am_i v5] σ Q') (k : ∀ (x : Int) (σ' : am_D), Q' x σ' → am_X (am_FI G (d + 1) Q) mX11_finds (0, 0) 30 [none, none, none, none, none, none, none, none] [am_i x] (am_K0, σ')) : am_X (am_FI G (d + 1) Q) mX11_finds (0, 0) 22 [some (am_r (some 91)), some (am_i v1), some (am_i v2), none, none, some (am_i v5), none, none] [] (am_K0, σ) := by
  refine am_r_aload_n (nx := 23) rfl rfl (show decode cX11_finds 22 = .ok (.aload_n 0, 1) by decide +kernel) rfl ?_
  refine am_r_iload_n (nx := 24) rfl rfl (show decode cX11_finds 23 = .ok (.iload_n 1, 1) by decide +kernel) rfl ?_
  refine am_r_iload_n (nx := 25) rfl rfl (show decode cX11_finds 24 = .ok (.iload_n 2, 1) by decide +kernel) rfl ?_
  refine am_r_iload (nx := 27) rfl (show decode cX11_finds 25 = .ok (.iload 5, 2) by decide +kernel) rfl ?_
  refine am_r_callV (as := [am_i v1, am_i v2, am_i v5]) (st := []) hc mb_X11_isUnlike mv_X11_isUnlike (Or.inl ml_X11_415) (ob_91) (by omega) (r := (RX11, TX11, 63)) rfl rfl rfl rfl (Nat.le_of_ble_eq_true rfl) ⟨Nat.le_refl _, Nat.le_refl _⟩ ⟨Nat.le_refl _, Nat.le_refl _⟩ (show decode cX11_finds 27 = .ok (.invokevirtual 415, 3) by decide +kernel) ?_
  rintro _ _ ⟨x, σ', rfl, rfl, hq⟩ _
  exact am_x_fg [0, 1, 2, 5] (k x σ' hq)
theorem S_X11_finds_30 {G : am_G} {d : Nat} {Q : Int → am_D → Prop} {σ : am_D} {s0 : Int} (hz : s0 = 0 ∨ s0 = 1) (k : Q s0 σ) : am_X (am_FI G (d + 1) Q) mX11_finds (0, 0) 30 [none, none, none, none, none, none, none, none] [am_i s0] (am_K0, σ) := by
  exact am_r_iret rfl (by rcases hz with hz | hz <;> rw [hz] <;> rfl) (show decode cX11_finds 30 = .ok (.ireturn, 1) by decide +kernel) ⟨_, _, rfl, rfl, k⟩
theorem S_X11_finds_31 {G : am_G} {d : Nat} {Q : Int → am_D → Prop} {σ : am_D} {v1 : Int} {v2 : Int} {v3 : Int} {v4 : Int} {v5 : Int} {v6 : Int}  (k : am_X (am_FI G (d + 1) Q) mX11_finds (0, 0) 34 [some (am_r (some 91)), some (am_i v1), some (am_i v2), some (am_i v3), some (am_i v4), some (am_i v5), some (am_i v6), some (am_i 0)] [] (am_K0, σ)) : am_X (am_FI G (d + 1) Q) mX11_finds (0, 0) 31 [some (am_r (some 91)), some (am_i v1), some (am_i v2), some (am_i v3), some (am_i v4), some (am_i v5), some (am_i v6), none] [] (am_K0, σ) := by
  refine am_r_iconst (nx := 32) (show decode cX11_finds 31 = .ok (.iconst 0, 1) by decide +kernel) rfl ?_
  refine am_r_istore (nx := 34) (by decide) rfl (show decode cX11_finds 32 = .ok (.istore 7, 2) by decide +kernel) rfl ?_
  exact k
theorem S_X11_finds_34 {G : am_G} {d : Nat} {Q : Int → am_D → Prop} {σ : am_D} {v1 : Int} {v2 : Int} {v3 : Int} {v4 : Int} {v5 : Int} {v6 : Int} {v7 : Int} (hr1 : -2147483648 ≤ v7 ∧ v7 ≤ 2147483647) (k1 : 3 < v7 → am_X (am_FI G (d + 1) Q) mX11_finds (0, 0) 114 [none, none, none, none, none, none, none, none] [] (am_K0, σ)) (k2 : ¬ (3 < v7) → am_X (am_FI G (d + 1) Q) mX11_finds (0, 0) 40 [some (am_r (some 91)), some (am_i v1), some (am_i v2), some (am_i v3), some (am_i v4), some (am_i v5), some (am_i v6), some (am_i v7)] [] (am_K0, σ)) : am_X (am_FI G (d + 1) Q) mX11_finds (0, 0) 34 [some (am_r (some 91)), some (am_i v1), some (am_i v2), some (am_i v3), some (am_i v4), some (am_i v5), some (am_i v6), some (am_i v7)] [] (am_K0, σ) := by
  refine am_r_iload (nx := 36) rfl (show decode cX11_finds 34 = .ok (.iload 7, 2) by decide +kernel) rfl ?_
  refine am_r_iconst (nx := 37) (show decode cX11_finds 36 = .ok (.iconst 3, 1) by decide +kernel) rfl ?_
  refine am_r_icmp_gt (tg := 114) (nx := 40) (show decode cX11_finds 37 = .ok (.if_icmp .gt 77, 3) by decide +kernel) (by decide) rfl hr1 (by omega) ?_ ?_
  · exact fun q => am_x_fg [0, 1, 2, 3, 4, 5, 6, 7] (k1 q)
  · exact fun q => k2 q
theorem S_X11_finds_40 {G : am_G} {d : Nat} {Q : Int → am_D → Prop} {σ : am_D} {v1 : Int} {v2 : Int} {v3 : Int} {v4 : Int} {v5 : Int} {v6 : Int} {v7 : Int} (hr1 : -2147483648 ≤ v7 ∧ v7 ≤ 2147483647) (k1 : ¬ v7 = 3 → am_X (am_FI G (d + 1) Q) mX11_finds (0, 0) 54 [some (am_r (some 91)), some (am_i v1), some (am_i v2), some (am_i v3), some (am_i v4), some (am_i v5), some (am_i v6), some (am_i v7)] [] (am_K0, σ)) (k2 : ¬ (¬ v7 = 3) → am_X (am_FI G (d + 1) Q) mX11_finds (0, 0) 46 [some (am_r (some 91)), some (am_i v1), some (am_i v2), some (am_i v3), some (am_i v4), some (am_i v5), some (am_i v6), some (am_i v7)] [] (am_K0, σ)) : am_X (am_FI G (d + 1) Q) mX11_finds (0, 0) 40 [some (am_r (some 91)), some (am_i v1), some (am_i v2), some (am_i v3), some (am_i v4), some (am_i v5), some (am_i v6), some (am_i v7)] [] (am_K0, σ) := by
  refine am_r_iload (nx := 42) rfl (show decode cX11_finds 40 = .ok (.iload 7, 2) by decide +kernel) rfl ?_
  refine am_r_iconst (nx := 43) (show decode cX11_finds 42 = .ok (.iconst 3, 1) by decide +kernel) rfl ?_
  refine am_r_icmp_ne (tg := 54) (nx := 46) (show decode cX11_finds 43 = .ok (.if_icmp .ne 11, 3) by decide +kernel) (by decide) rfl hr1 (by omega) ?_ ?_
  · exact fun q => k1 q
  · exact fun q => k2 q
theorem S_X11_finds_46 {G : am_G} {d : Nat} {Q : Int → am_D → Prop} {σ : am_D} {v1 : Int} {v2 : Int} {v3 : Int} {v4 : Int} {v5 : Int} {v6 : Int} {v7 : Int} (hr1 : -2147483648 ≤ v6 ∧ v6 ≤ 2147483647) (k1 : ¬ v6 = 0 → am_X (am_FI G (d + 1) Q) mX11_finds (0, 0) 67 [some (am_r (some 91)), some (am_i v1), some (am_i v2), some (am_i v3), some (am_i v4), some (am_i v5), some (am_i v6), some (am_i v7)] [] (am_K0, σ)) (k2 : ¬ (¬ v6 = 0) → am_X (am_FI G (d + 1) Q) mX11_finds (0, 0) 51 [some (am_r (some 91)), some (am_i v1), some (am_i v2), some (am_i v3), some (am_i v4), some (am_i v5), some (am_i v6), some (am_i v7)] [] (am_K0, σ)) : am_X (am_FI G (d + 1) Q) mX11_finds (0, 0) 46 [some (am_r (some 91)), some (am_i v1), some (am_i v2), some (am_i v3), some (am_i v4), some (am_i v5), some (am_i v6), some (am_i v7)] [] (am_K0, σ) := by
  refine am_r_iload (nx := 48) rfl (show decode cX11_finds 46 = .ok (.iload 6, 2) by decide +kernel) rfl ?_
  refine am_r_if_ne (tg := 67) (nx := 51) (show decode cX11_finds 48 = .ok (.ifCond .ne 19, 3) by decide +kernel) (by decide) rfl hr1 ?_ ?_
  · exact fun q => k1 q
  · exact fun q => k2 q
theorem S_X11_finds_51 {G : am_G} {d : Nat} {Q : Int → am_D → Prop} {σ : am_D} {v1 : Int} {v2 : Int} {v3 : Int} {v4 : Int} {v5 : Int} {v6 : Int} {v7 : Int}  (k : am_X (am_FI G (d + 1) Q) mX11_finds (0, 0) 108 [some (am_r (some 91)), some (am_i v1), some (am_i v2), some (am_i v3), some (am_i v4), some (am_i v5), some (am_i v6), some (am_i v7)] [] (am_K0, σ)) : am_X (am_FI G (d + 1) Q) mX11_finds (0, 0) 51 [some (am_r (some 91)), some (am_i v1), some (am_i v2), some (am_i v3), some (am_i v4), some (am_i v5), some (am_i v6), some (am_i v7)] [] (am_K0, σ) := by
  refine am_r_goto (tg := 108) (show decode cX11_finds 51 = .ok (.goto 57, 3) by decide +kernel) (by decide) ?_
  exact k
theorem S_X11_finds_54 {G : am_G} {d : Nat} {Q : Int → am_D → Prop} {σ : am_D} {v1 : Int} {v2 : Int} {v3 : Int} {v4 : Int} {v5 : Int} {v6 : Int} {v7 : Int} (hr1 : -2147483648 ≤ v6 ∧ v6 ≤ 2147483647) (hr2 : -2147483648 ≤ (v5 - v4) ∧ (v5 - v4) ≤ 2147483647) (k1 : v6 < (v5 - v4) → am_X (am_FI G (d + 1) Q) mX11_finds (0, 0) 67 [some (am_r (some 91)), some (am_i v1), some (am_i v2), some (am_i v3), some (am_i v4), some (am_i v5), some (am_i v6), some (am_i v7)] [] (am_K0, σ)) (k2 : ¬ (v6 < (v5 - v4)) → am_X (am_FI G (d + 1) Q) mX11_finds (0, 0) 64 [some (am_r (some 91)), some (am_i v1), some (am_i v2), some (am_i v3), some (am_i v4), some (am_i v5), some (am_i v6), some (am_i v7)] [] (am_K0, σ)) : am_X (am_FI G (d + 1) Q) mX11_finds (0, 0) 54 [some (am_r (some 91)), some (am_i v1), some (am_i v2), some (am_i v3), some (am_i v4), some (am_i v5), some (am_i v6), some (am_i v7)] [] (am_K0, σ) := by
  refine am_r_iload (nx := 56) rfl (show decode cX11_finds 54 = .ok (.iload 6, 2) by decide +kernel) rfl ?_
  refine am_r_iload (nx := 58) rfl (show decode cX11_finds 56 = .ok (.iload 5, 2) by decide +kernel) rfl ?_
  refine am_r_iload (nx := 60) rfl (show decode cX11_finds 58 = .ok (.iload 4, 2) by decide +kernel) rfl ?_
  refine am_r_isub (nx := 61) (show decode cX11_finds 60 = .ok (.isub, 1) by decide +kernel) rfl ?_
  refine am_r_icmp_lt (tg := 67) (nx := 64) (show decode cX11_finds 61 = .ok (.if_icmp .lt 6, 3) by decide +kernel) (by decide) rfl hr1 hr2 ?_ ?_
  · exact fun q => k1 q
  · exact fun q => k2 q
theorem S_X11_finds_64 {G : am_G} {d : Nat} {Q : Int → am_D → Prop} {σ : am_D} {v1 : Int} {v2 : Int} {v3 : Int} {v4 : Int} {v5 : Int} {v6 : Int} {v7 : Int}  (k : am_X (am_FI G (d + 1) Q) mX11_finds (0, 0) 108 [some (am_r (some 91)), some (am_i v1), some (am_i v2), some (am_i v3), some (am_i v4), some (am_i v5), some (am_i v6), some (am_i v7)] [] (am_K0, σ)) : am_X (am_FI G (d + 1) Q) mX11_finds (0, 0) 64 [some (am_r (some 91)), some (am_i v1), some (am_i v2), some (am_i v3), some (am_i v4), some (am_i v5), some (am_i v6), some (am_i v7)] [] (am_K0, σ) := by
  refine am_r_goto (tg := 108) (show decode cX11_finds 64 = .ok (.goto 44, 3) by decide +kernel) (by decide) ?_
  exact k
theorem S_X11_finds_67 {G : am_G} {d : Nat} {Q : Int → am_D → Prop} {σ : am_D} {v1 : Int} {v2 : Int} {v3 : Int} {v4 : Int} {v5 : Int} {v6 : Int} {v7 : Int} (hi1 : 0 ≤ v4) (hj2 : v4 < 8) (k : am_X (am_FI G (d + 1) Q) mX11_finds (0, 0) 76 [some (am_r (some 91)), some (am_i v1), some (am_i v2), some (am_i v3), some (am_i v4), some (am_i v5), some (am_i v6), some (am_i v7)] [] (am_K0, (am_pI σ 131 v4 v7))) : am_X (am_FI G (d + 1) Q) mX11_finds (0, 0) 67 [some (am_r (some 91)), some (am_i v1), some (am_i v2), some (am_i v3), some (am_i v4), some (am_i v5), some (am_i v6), some (am_i v7)] [] (am_K0, σ) := by
  refine am_r_aload_n (nx := 68) rfl rfl (show decode cX11_finds 67 = .ok (.aload_n 0, 1) by decide +kernel) rfl ?_
  refine am_r_getF (nx := 71) 57 cw11 (by decide) rfl (Or.inl fl_X11_130) (ob_91) (fn_91_57) (show decode cX11_finds 68 = .ok (.getfield 130, 3) by decide +kernel) rfl ?_
  refine am_r_iload (nx := 73) rfl (show decode cX11_finds 71 = .ok (.iload 4, 2) by decide +kernel) rfl ?_
  refine am_r_iload (nx := 75) rfl (show decode cX11_finds 73 = .ok (.iload 7, 2) by decide +kernel) rfl ?_
  refine am_r_iast (nx := 76) (sh_131) (am_shle (sh_131)) hi1 hj2 (show decode cX11_finds 75 = .ok (.iastore, 1) by decide +kernel) rfl ?_
  exact k
theorem S_X11_finds_76 {G : am_G} {d : Nat} {Q : Int → am_D → Prop} {σ : am_D} {v1 : Int} {v2 : Int} {v3 : Int} {v4 : Int} {v5 : Int} {v6 : Int} {v7 : Int} (hr1 : -2147483648 ≤ v7 ∧ v7 ≤ 2147483647) (k1 : ¬ v7 = 3 → am_X (am_FI G (d + 1) Q) mX11_finds (0, 0) 98 [some (am_r (some 91)), some (am_i v1), some (am_i v2), some (am_i v3), some (am_i v4), some (am_i v5), some (am_i v6), some (am_i v7)] [am_i v6, am_i v5, am_i (v4 + 1), am_i v3, am_i v2, am_i v1, am_r (some 91)] (am_K0, σ)) (k2 : ¬ (¬ v7 = 3) → am_X (am_FI G (d + 1) Q) mX11_finds (0, 0) 94 [some (am_r (some 91)), some (am_i v1), some (am_i v2), some (am_i v3), some (am_i v4), some (am_i v5), some (am_i v6), some (am_i v7)] [am_i v6, am_i v5, am_i (v4 + 1), am_i v3, am_i v2, am_i v1, am_r (some 91)] (am_K0, σ)) : am_X (am_FI G (d + 1) Q) mX11_finds (0, 0) 76 [some (am_r (some 91)), some (am_i v1), some (am_i v2), some (am_i v3), some (am_i v4), some (am_i v5), some (am_i v6), some (am_i v7)] [] (am_K0, σ) := by
  refine am_r_aload_n (nx := 77) rfl rfl (show decode cX11_finds 76 = .ok (.aload_n 0, 1) by decide +kernel) rfl ?_
  refine am_r_iload_n (nx := 78) rfl rfl (show decode cX11_finds 77 = .ok (.iload_n 1, 1) by decide +kernel) rfl ?_
  refine am_r_iload_n (nx := 79) rfl rfl (show decode cX11_finds 78 = .ok (.iload_n 2, 1) by decide +kernel) rfl ?_
  refine am_r_iload_n (nx := 80) rfl rfl (show decode cX11_finds 79 = .ok (.iload_n 3, 1) by decide +kernel) rfl ?_
  refine am_r_iload (nx := 82) rfl (show decode cX11_finds 80 = .ok (.iload 4, 2) by decide +kernel) rfl ?_
  refine am_r_iconst (nx := 83) (show decode cX11_finds 82 = .ok (.iconst 1, 1) by decide +kernel) rfl ?_
  refine am_r_iadd (nx := 84) (show decode cX11_finds 83 = .ok (.iadd, 1) by decide +kernel) rfl ?_
  refine am_r_iload (nx := 86) rfl (show decode cX11_finds 84 = .ok (.iload 5, 2) by decide +kernel) rfl ?_
  refine am_r_iload (nx := 88) rfl (show decode cX11_finds 86 = .ok (.iload 6, 2) by decide +kernel) rfl ?_
  refine am_r_iload (nx := 90) rfl (show decode cX11_finds 88 = .ok (.iload 7, 2) by decide +kernel) rfl ?_
  refine am_r_iconst (nx := 91) (show decode cX11_finds 90 = .ok (.iconst 3, 1) by decide +kernel) rfl ?_
  refine am_r_icmp_ne (tg := 98) (nx := 94) (show decode cX11_finds 91 = .ok (.if_icmp .ne 7, 3) by decide +kernel) (by decide) rfl hr1 (by omega) ?_ ?_
  · exact fun q => k1 q
  · exact fun q => k2 q
theorem S_X11_finds_94 {G : am_G} {d : Nat} {Q : Int → am_D → Prop} {σ : am_D} {v1 : Int} {v2 : Int} {v3 : Int} {v4 : Int} {v5 : Int} {v6 : Int} {v7 : Int} {s1 : Int} {s2 : Int} {s3 : Int} {s4 : Int} {s5 : Int} {s6 : Int}  (k : am_X (am_FI G (d + 1) Q) mX11_finds (0, 0) 99 [some (am_r (some 91)), some (am_i v1), some (am_i v2), some (am_i v3), some (am_i v4), some (am_i v5), some (am_i v6), some (am_i v7)] [am_i (-1), am_i s6, am_i s5, am_i s4, am_i s3, am_i s2, am_i s1, am_r (some 91)] (am_K0, σ)) : am_X (am_FI G (d + 1) Q) mX11_finds (0, 0) 94 [some (am_r (some 91)), some (am_i v1), some (am_i v2), some (am_i v3), some (am_i v4), some (am_i v5), some (am_i v6), some (am_i v7)] [am_i s6, am_i s5, am_i s4, am_i s3, am_i s2, am_i s1, am_r (some 91)] (am_K0, σ) := by
  refine am_r_iconst (nx := 95) (show decode cX11_finds 94 = .ok (.iconst (-1), 1) by decide +kernel) rfl ?_
  refine am_r_goto (tg := 99) (show decode cX11_finds 95 = .ok (.goto 4, 3) by decide +kernel) (by decide) ?_
  exact k
theorem S_X11_finds_98 {G : am_G} {d : Nat} {Q : Int → am_D → Prop} {σ : am_D} {v1 : Int} {v2 : Int} {v3 : Int} {v4 : Int} {v5 : Int} {v6 : Int} {v7 : Int} {s1 : Int} {s2 : Int} {s3 : Int} {s4 : Int} {s5 : Int} {s6 : Int}  (k : am_X (am_FI G (d + 1) Q) mX11_finds (0, 0) 99 [some (am_r (some 91)), some (am_i v1), some (am_i v2), some (am_i v3), some (am_i v4), some (am_i v5), some (am_i v6), some (am_i v7)] [am_i 1, am_i s6, am_i s5, am_i s4, am_i s3, am_i s2, am_i s1, am_r (some 91)] (am_K0, σ)) : am_X (am_FI G (d + 1) Q) mX11_finds (0, 0) 98 [some (am_r (some 91)), some (am_i v1), some (am_i v2), some (am_i v3), some (am_i v4), some (am_i v5), some (am_i v6), some (am_i v7)] [am_i s6, am_i s5, am_i s4, am_i s3, am_i s2, am_i s1, am_r (some 91)] (am_K0, σ) := by
  refine am_r_iconst (nx := 99) (show decode cX11_finds 98 = .ok (.iconst 1, 1) by decide +kernel) rfl ?_
  exact k
theorem S_X11_finds_99 {G : am_G} {d : Nat} {Q : Int → am_D → Prop} {σ : am_D} {v1 : Int} {v2 : Int} {v3 : Int} {v4 : Int} {v5 : Int} {v6 : Int} {v7 : Int} {s1 : Int} {s2 : Int} {s3 : Int} {s4 : Int} {s5 : Int} {s6 : Int} {s7 : Int} {Q' : Int → am_D → Prop} (hc : am_MI G d mX11_finds [am_r (some 91), am_i s1, am_i s2, am_i s3, am_i s4, am_i s5, am_i (s6 + s7)] σ Q') (k : ∀ (x : Int) (σ' : am_D), Q' x σ' → am_X (am_FI G (d + 1) Q) mX11_finds (0, 0) 103 [some (am_r (some 91)), some (am_i v1), some (am_i v2), some (am_i v3), some (am_i v4), some (am_i v5), some (am_i v6), some (am_i v7)] [am_i x] (am_K0, σ')) : am_X (am_FI G (d + 1) Q) mX11_finds (0, 0) 99 [some (am_r (some 91)), some (am_i v1), some (am_i v2), some (am_i v3), some (am_i v4), some (am_i v5), some (am_i v6), some (am_i v7)] [am_i s7, am_i s6, am_i s5, am_i s4, am_i s3, am_i s2, am_i s1, am_r (some 91)] (am_K0, σ) := by
  refine am_r_iadd (nx := 100) (show decode cX11_finds 99 = .ok (.iadd, 1) by decide +kernel) rfl ?_
  refine am_r_callV (as := [am_i s1, am_i s2, am_i s3, am_i s4, am_i s5, am_i (s6 + s7)]) (st := []) hc mb_X11_finds mv_X11_finds (Or.inl ml_X11_418) (ob_91) (by omega) (r := (RX11, TX11, 63)) rfl rfl rfl rfl (Nat.le_of_ble_eq_true rfl) ⟨Nat.le_refl _, Nat.le_refl _⟩ ⟨Nat.le_refl _, Nat.le_refl _⟩ (show decode cX11_finds 100 = .ok (.invokevirtual 418, 3) by decide +kernel) ?_
  rintro _ _ ⟨x, σ', rfl, rfl, hq⟩ _
  exact (k x σ' hq)
theorem S_X11_finds_103 {G : am_G} {d : Nat} {Q : Int → am_D → Prop} {σ : am_D} {v1 : Int} {v2 : Int} {v3 : Int} {v4 : Int} {v5 : Int} {v6 : Int} {v7 : Int} {s0 : Int} (hr1 : -2147483648 ≤ s0 ∧ s0 ≤ 2147483647) (k1 : s0 = 0 → am_X (am_FI G (d + 1) Q) mX11_finds (0, 0) 108 [some (am_r (some 91)), some (am_i v1), some (am_i v2), some (am_i v3), some (am_i v4), some (am_i v5), some (am_i v6), some (am_i v7)] [] (am_K0, σ)) (k2 : ¬ (s0 = 0) → am_X (am_FI G (d + 1) Q) mX11_finds (0, 0) 106 [none, none, none, none, none, none, none, none] [] (am_K0, σ)) : am_X (am_FI G (d + 1) Q) mX11_finds (0, 0) 103 [some (am_r (some 91)), some (am_i v1), some (am_i v2), some (am_i v3), some (am_i v4), some (am_i v5), some (am_i v6), some (am_i v7)] [am_i s0] (am_K0, σ) := by
  refine am_r_if_eq (tg := 108) (nx := 106) (show decode cX11_finds 103 = .ok (.ifCond .eq 5, 3) by decide +kernel) (by decide) rfl hr1 ?_ ?_
  · exact fun q => k1 q
  · exact fun q => am_x_fg [0, 1, 2, 3, 4, 5, 6, 7] (k2 q)
theorem S_X11_finds_106 {G : am_G} {d : Nat} {Q : Int → am_D → Prop} {σ : am_D}   (k : Q 1 σ) : am_X (am_FI G (d + 1) Q) mX11_finds (0, 0) 106 [none, none, none, none, none, none, none, none] [] (am_K0, σ) := by
  refine am_r_iconst (nx := 107) (show decode cX11_finds 106 = .ok (.iconst 1, 1) by decide +kernel) rfl ?_
  exact am_r_iret rfl rfl (show decode cX11_finds 107 = .ok (.ireturn, 1) by decide +kernel) ⟨_, _, rfl, rfl, k⟩
theorem S_X11_finds_108 {G : am_G} {d : Nat} {Q : Int → am_D → Prop} {σ : am_D} {v1 : Int} {v2 : Int} {v3 : Int} {v4 : Int} {v5 : Int} {v6 : Int} {v7 : Int}  (k : am_X (am_FI G (d + 1) Q) mX11_finds (0, 0) 34 [some (am_r (some 91)), some (am_i v1), some (am_i v2), some (am_i v3), some (am_i v4), some (am_i v5), some (am_i v6), some (am_i (v7 + 1))] [] (am_K0, σ)) : am_X (am_FI G (d + 1) Q) mX11_finds (0, 0) 108 [some (am_r (some 91)), some (am_i v1), some (am_i v2), some (am_i v3), some (am_i v4), some (am_i v5), some (am_i v6), some (am_i v7)] [] (am_K0, σ) := by
  refine am_r_iinc (nx := 111) rfl rfl (show decode cX11_finds 108 = .ok (.iinc 7 1, 3) by decide +kernel) rfl ?_
  refine am_r_goto (tg := 34) (show decode cX11_finds 111 = .ok (.goto (-77), 3) by decide +kernel) (by decide) ?_
  exact k
theorem S_X11_finds_114 {G : am_G} {d : Nat} {Q : Int → am_D → Prop} {σ : am_D}   (k : Q 0 σ) : am_X (am_FI G (d + 1) Q) mX11_finds (0, 0) 114 [none, none, none, none, none, none, none, none] [] (am_K0, σ) := by
  refine am_r_iconst (nx := 115) (show decode cX11_finds 114 = .ok (.iconst 0, 1) by decide +kernel) rfl ?_
  exact am_r_iret rfl rfl (show decode cX11_finds 115 = .ok (.ireturn, 1) by decide +kernel) ⟨_, _, rfl, rfl, k⟩
theorem S_X11_found_0 {G : am_G} {d : Nat} {Q : Int → am_D → Prop} {σ : am_D} {v1 : Int} {v2 : Int} {v3 : Int} {v4 : Int} {Q' : Int → am_D → Prop} (hc : am_MI G d mX11_isMachine [am_r (some 91), am_i v1] σ Q') (k : ∀ (x : Int) (σ' : am_D), Q' x σ' → am_X (am_FI G (d + 1) Q) mX11_found (0, 0) 5 [some (am_r (some 91)), some (am_i v1), some (am_i v2), some (am_i v3), some (am_i v4), none, none] [am_i x] (am_K0, σ')) : am_X (am_FI G (d + 1) Q) mX11_found (0, 0) 0 [some (am_r (some 91)), some (am_i v1), some (am_i v2), some (am_i v3), some (am_i v4), none, none] [] (am_K0, σ) := by
  refine am_r_aload_n (nx := 1) rfl rfl (show decode cX11_found 0 = .ok (.aload_n 0, 1) by decide +kernel) rfl ?_
  refine am_r_iload_n (nx := 2) rfl rfl (show decode cX11_found 1 = .ok (.iload_n 1, 1) by decide +kernel) rfl ?_
  refine am_r_callV (as := [am_i v1]) (st := []) hc mb_X11_isMachine mv_X11_isMachine (Or.inl ml_X11_307) (ob_91) (by omega) (r := (RX11, TX11, 63)) rfl rfl rfl rfl (Nat.le_of_ble_eq_true rfl) ⟨Nat.le_refl _, Nat.le_refl _⟩ ⟨Nat.le_refl _, Nat.le_refl _⟩ (show decode cX11_found 2 = .ok (.invokevirtual 307, 3) by decide +kernel) ?_
  rintro _ _ ⟨x, σ', rfl, rfl, hq⟩ _
  exact (k x σ' hq)
theorem S_X11_found_5 {G : am_G} {d : Nat} {Q : Int → am_D → Prop} {σ : am_D} {v1 : Int} {v2 : Int} {v3 : Int} {v4 : Int} {s0 : Int} (hr1 : -2147483648 ≤ s0 ∧ s0 ≤ 2147483647) (k1 : s0 = 0 → am_X (am_FI G (d + 1) Q) mX11_found (0, 0) 25 [none, none, none, none, none, none, none] [] (am_K0, σ)) (k2 : ¬ (s0 = 0) → am_X (am_FI G (d + 1) Q) mX11_found (0, 0) 8 [some (am_r (some 91)), some (am_i v1), some (am_i v2), some (am_i v3), some (am_i v4), none, none] [] (am_K0, σ)) : am_X (am_FI G (d + 1) Q) mX11_found (0, 0) 5 [some (am_r (some 91)), some (am_i v1), some (am_i v2), some (am_i v3), some (am_i v4), none, none] [am_i s0] (am_K0, σ) := by
  refine am_r_if_eq (tg := 25) (nx := 8) (show decode cX11_found 5 = .ok (.ifCond .eq 20, 3) by decide +kernel) (by decide) rfl hr1 ?_ ?_
  · exact fun q => am_x_fg [0, 1, 2, 3, 4] (k1 q)
  · exact fun q => k2 q
theorem S_X11_found_8 {G : am_G} {d : Nat} {Q : Int → am_D → Prop} {σ : am_D} {v1 : Int} {v2 : Int} {v3 : Int} {v4 : Int} {Q' : Int → am_D → Prop} (hc : am_MI G d mX11_isMachine [am_r (some 91), am_i v2] σ Q') (k : ∀ (x : Int) (σ' : am_D), Q' x σ' → am_X (am_FI G (d + 1) Q) mX11_found (0, 0) 13 [some (am_r (some 91)), some (am_i v1), some (am_i v2), some (am_i v3), some (am_i v4), none, none] [am_i x] (am_K0, σ')) : am_X (am_FI G (d + 1) Q) mX11_found (0, 0) 8 [some (am_r (some 91)), some (am_i v1), some (am_i v2), some (am_i v3), some (am_i v4), none, none] [] (am_K0, σ) := by
  refine am_r_aload_n (nx := 9) rfl rfl (show decode cX11_found 8 = .ok (.aload_n 0, 1) by decide +kernel) rfl ?_
  refine am_r_iload_n (nx := 10) rfl rfl (show decode cX11_found 9 = .ok (.iload_n 2, 1) by decide +kernel) rfl ?_
  refine am_r_callV (as := [am_i v2]) (st := []) hc mb_X11_isMachine mv_X11_isMachine (Or.inl ml_X11_307) (ob_91) (by omega) (r := (RX11, TX11, 63)) rfl rfl rfl rfl (Nat.le_of_ble_eq_true rfl) ⟨Nat.le_refl _, Nat.le_refl _⟩ ⟨Nat.le_refl _, Nat.le_refl _⟩ (show decode cX11_found 10 = .ok (.invokevirtual 307, 3) by decide +kernel) ?_
  rintro _ _ ⟨x, σ', rfl, rfl, hq⟩ _
  exact (k x σ' hq)
theorem S_X11_found_13 {G : am_G} {d : Nat} {Q : Int → am_D → Prop} {σ : am_D} {v1 : Int} {v2 : Int} {v3 : Int} {v4 : Int} {s0 : Int} (hr1 : -2147483648 ≤ s0 ∧ s0 ≤ 2147483647) (k1 : s0 = 0 → am_X (am_FI G (d + 1) Q) mX11_found (0, 0) 25 [none, none, none, none, none, none, none] [] (am_K0, σ)) (k2 : ¬ (s0 = 0) → am_X (am_FI G (d + 1) Q) mX11_found (0, 0) 16 [some (am_r (some 91)), some (am_i v1), some (am_i v2), some (am_i v3), some (am_i v4), none, none] [] (am_K0, σ)) : am_X (am_FI G (d + 1) Q) mX11_found (0, 0) 13 [some (am_r (some 91)), some (am_i v1), some (am_i v2), some (am_i v3), some (am_i v4), none, none] [am_i s0] (am_K0, σ) := by
  refine am_r_if_eq (tg := 25) (nx := 16) (show decode cX11_found 13 = .ok (.ifCond .eq 12, 3) by decide +kernel) (by decide) rfl hr1 ?_ ?_
  · exact fun q => am_x_fg [0, 1, 2, 3, 4] (k1 q)
  · exact fun q => k2 q
theorem S_X11_found_16 {G : am_G} {d : Nat} {Q : Int → am_D → Prop} {σ : am_D} {v1 : Int} {v2 : Int} {v3 : Int} {v4 : Int} {Q' : Int → am_D → Prop} (hc : am_MI G d mX11_isIn [am_i v3, am_i 0, am_i 4] σ Q') (k : ∀ (x : Int) (σ' : am_D), Q' x σ' → am_X (am_FI G (d + 1) Q) mX11_found (0, 0) 22 [some (am_r (some 91)), some (am_i v1), some (am_i v2), some (am_i v3), some (am_i v4), none, none] [am_i x] (am_K0, σ')) : am_X (am_FI G (d + 1) Q) mX11_found (0, 0) 16 [some (am_r (some 91)), some (am_i v1), some (am_i v2), some (am_i v3), some (am_i v4), none, none] [] (am_K0, σ) := by
  refine am_r_iload_n (nx := 17) rfl rfl (show decode cX11_found 16 = .ok (.iload_n 3, 1) by decide +kernel) rfl ?_
  refine am_r_iconst (nx := 18) (show decode cX11_found 17 = .ok (.iconst 0, 1) by decide +kernel) rfl ?_
  refine am_r_iconst (nx := 19) (show decode cX11_found 18 = .ok (.iconst 4, 1) by decide +kernel) rfl ?_
  refine am_r_callS (as := [am_i v3, am_i 0, am_i 4]) (st := []) hc mb_X11_isIn mv_X11_isIn (Or.inl ml_X11_156) rfl rfl (Nat.le_of_ble_eq_true rfl) ⟨Nat.le_refl _, Nat.le_refl _⟩ ⟨Nat.le_refl _, Nat.le_refl _⟩ (show decode cX11_found 19 = .ok (.invokestatic 156, 3) by decide +kernel) ?_
  rintro _ _ ⟨x, σ', rfl, rfl, hq⟩ _
  exact (k x σ' hq)
theorem S_X11_found_22 {G : am_G} {d : Nat} {Q : Int → am_D → Prop} {σ : am_D} {v1 : Int} {v2 : Int} {v3 : Int} {v4 : Int} {s0 : Int} (hr1 : -2147483648 ≤ s0 ∧ s0 ≤ 2147483647) (k1 : ¬ s0 = 0 → am_X (am_FI G (d + 1) Q) mX11_found (0, 0) 28 [some (am_r (some 91)), some (am_i v1), some (am_i v2), some (am_i v3), some (am_i v4), none, none] [] (am_K0, σ)) (k2 : ¬ (¬ s0 = 0) → am_X (am_FI G (d + 1) Q) mX11_found (0, 0) 25 [none, none, none, none, none, none, none] [] (am_K0, σ)) : am_X (am_FI G (d + 1) Q) mX11_found (0, 0) 22 [some (am_r (some 91)), some (am_i v1), some (am_i v2), some (am_i v3), some (am_i v4), none, none] [am_i s0] (am_K0, σ) := by
  refine am_r_if_ne (tg := 28) (nx := 25) (show decode cX11_found 22 = .ok (.ifCond .ne 6, 3) by decide +kernel) (by decide) rfl hr1 ?_ ?_
  · exact fun q => k1 q
  · exact fun q => am_x_fg [0, 1, 2, 3, 4] (k2 q)
theorem S_X11_found_25 {G : am_G} {d : Nat} {Q : Int → am_D → Prop} {σ : am_D}   (k : Q (-2) σ) : am_X (am_FI G (d + 1) Q) mX11_found (0, 0) 25 [none, none, none, none, none, none, none] [] (am_K0, σ) := by
  refine am_r_bipush (nx := 27) rfl (show decode cX11_found 25 = .ok (.bipush (-2), 2) by decide +kernel) rfl ?_
  exact am_r_iret rfl rfl (show decode cX11_found 27 = .ok (.ireturn, 1) by decide +kernel) ⟨_, _, rfl, rfl, k⟩
theorem S_X11_found_28 {G : am_G} {d : Nat} {Q : Int → am_D → Prop} {σ : am_D} {v1 : Int} {v2 : Int} {v3 : Int} {v4 : Int}  (k : am_X (am_FI G (d + 1) Q) mX11_found (0, 0) 31 [some (am_r (some 91)), some (am_i v1), some (am_i v2), some (am_i v3), some (am_i v4), some (am_i 0), none] [] (am_K0, σ)) : am_X (am_FI G (d + 1) Q) mX11_found (0, 0) 28 [some (am_r (some 91)), some (am_i v1), some (am_i v2), some (am_i v3), some (am_i v4), none, none] [] (am_K0, σ) := by
  refine am_r_iconst (nx := 29) (show decode cX11_found 28 = .ok (.iconst 0, 1) by decide +kernel) rfl ?_
  refine am_r_istore (nx := 31) (by decide) rfl (show decode cX11_found 29 = .ok (.istore 5, 2) by decide +kernel) rfl ?_
  exact k
theorem S_X11_found_31 {G : am_G} {d : Nat} {Q : Int → am_D → Prop} {σ : am_D} {v1 : Int} {v2 : Int} {v3 : Int} {v4 : Int} {v5 : Int} (hr1 : -2147483648 ≤ v5 ∧ v5 ≤ 2147483647) (hr2 : -2147483648 ≤ v3 ∧ v3 ≤ 2147483647) (k1 : v3 < v5 → am_X (am_FI G (d + 1) Q) mX11_found (0, 0) 106 [none, none, none, none, none, none, none] [] (am_K0, σ)) (k2 : ¬ (v3 < v5) → am_X (am_FI G (d + 1) Q) mX11_found (0, 0) 37 [some (am_r (some 91)), some (am_i v1), some (am_i v2), some (am_i v3), some (am_i v4), some (am_i v5), none] [] (am_K0, σ)) : am_X (am_FI G (d + 1) Q) mX11_found (0, 0) 31 [some (am_r (some 91)), some (am_i v1), some (am_i v2), some (am_i v3), some (am_i v4), some (am_i v5), none] [] (am_K0, σ) := by
  refine am_r_iload (nx := 33) rfl (show decode cX11_found 31 = .ok (.iload 5, 2) by decide +kernel) rfl ?_
  refine am_r_iload_n (nx := 34) rfl rfl (show decode cX11_found 33 = .ok (.iload_n 3, 1) by decide +kernel) rfl ?_
  refine am_r_icmp_gt (tg := 106) (nx := 37) (show decode cX11_found 34 = .ok (.if_icmp .gt 72, 3) by decide +kernel) (by decide) rfl hr1 hr2 ?_ ?_
  · exact fun q => am_x_fg [0, 1, 2, 3, 4, 5] (k1 q)
  · exact fun q => k2 q
theorem S_X11_found_37 {G : am_G} {d : Nat} {Q : Int → am_D → Prop} {σ : am_D} {v1 : Int} {v2 : Int} {v3 : Int} {v4 : Int} {v5 : Int} {Q' : Int → am_D → Prop} (hc : am_MI G d mX11_finds [am_r (some 91), am_i v1, am_i v2, am_i v4, am_i 0, am_i (2 * v5), am_i 0] σ Q') (k : ∀ (x : Int) (σ' : am_D), Q' x σ' → am_X (am_FI G (d + 1) Q) mX11_found (0, 0) 51 [some (am_r (some 91)), some (am_i v1), some (am_i v2), some (am_i v3), some (am_i v4), some (am_i v5), none] [am_i x] (am_K0, σ')) : am_X (am_FI G (d + 1) Q) mX11_found (0, 0) 37 [some (am_r (some 91)), some (am_i v1), some (am_i v2), some (am_i v3), some (am_i v4), some (am_i v5), none] [] (am_K0, σ) := by
  refine am_r_aload_n (nx := 38) rfl rfl (show decode cX11_found 37 = .ok (.aload_n 0, 1) by decide +kernel) rfl ?_
  refine am_r_iload_n (nx := 39) rfl rfl (show decode cX11_found 38 = .ok (.iload_n 1, 1) by decide +kernel) rfl ?_
  refine am_r_iload_n (nx := 40) rfl rfl (show decode cX11_found 39 = .ok (.iload_n 2, 1) by decide +kernel) rfl ?_
  refine am_r_iload (nx := 42) rfl (show decode cX11_found 40 = .ok (.iload 4, 2) by decide +kernel) rfl ?_
  refine am_r_iconst (nx := 43) (show decode cX11_found 42 = .ok (.iconst 0, 1) by decide +kernel) rfl ?_
  refine am_r_iconst (nx := 44) (show decode cX11_found 43 = .ok (.iconst 2, 1) by decide +kernel) rfl ?_
  refine am_r_iload (nx := 46) rfl (show decode cX11_found 44 = .ok (.iload 5, 2) by decide +kernel) rfl ?_
  refine am_r_imul (nx := 47) (show decode cX11_found 46 = .ok (.imul, 1) by decide +kernel) rfl ?_
  refine am_r_iconst (nx := 48) (show decode cX11_found 47 = .ok (.iconst 0, 1) by decide +kernel) rfl ?_
  refine am_r_callV (as := [am_i v1, am_i v2, am_i v4, am_i 0, am_i (2 * v5), am_i 0]) (st := []) hc mb_X11_finds mv_X11_finds (Or.inl ml_X11_418) (ob_91) (by omega) (r := (RX11, TX11, 63)) rfl rfl rfl rfl (Nat.le_of_ble_eq_true rfl) ⟨Nat.le_refl _, Nat.le_refl _⟩ ⟨Nat.le_refl _, Nat.le_refl _⟩ (show decode cX11_found 48 = .ok (.invokevirtual 418, 3) by decide +kernel) ?_
  rintro _ _ ⟨x, σ', rfl, rfl, hq⟩ _
  exact (k x σ' hq)
theorem S_X11_found_51 {G : am_G} {d : Nat} {Q : Int → am_D → Prop} {σ : am_D} {v1 : Int} {v2 : Int} {v3 : Int} {v4 : Int} {v5 : Int} {s0 : Int} (hr1 : -2147483648 ≤ s0 ∧ s0 ≤ 2147483647) (k1 : ¬ s0 = 0 → am_X (am_FI G (d + 1) Q) mX11_found (0, 0) 57 [some (am_r (some 91)), none, none, none, none, some (am_i v5), none] [] (am_K0, σ)) (k2 : ¬ (¬ s0 = 0) → am_X (am_FI G (d + 1) Q) mX11_found (0, 0) 54 [some (am_r (some 91)), some (am_i v1), some (am_i v2), some (am_i v3), some (am_i v4), some (am_i v5), none] [] (am_K0, σ)) : am_X (am_FI G (d + 1) Q) mX11_found (0, 0) 51 [some (am_r (some 91)), some (am_i v1), some (am_i v2), some (am_i v3), some (am_i v4), some (am_i v5), none] [am_i s0] (am_K0, σ) := by
  refine am_r_if_ne (tg := 57) (nx := 54) (show decode cX11_found 51 = .ok (.ifCond .ne 6, 3) by decide +kernel) (by decide) rfl hr1 ?_ ?_
  · exact fun q => am_x_fg [1, 2, 3, 4] (k1 q)
  · exact fun q => k2 q
theorem S_X11_found_54 {G : am_G} {d : Nat} {Q : Int → am_D → Prop} {σ : am_D} {v1 : Int} {v2 : Int} {v3 : Int} {v4 : Int} {v5 : Int}  (k : am_X (am_FI G (d + 1) Q) mX11_found (0, 0) 100 [some (am_r (some 91)), some (am_i v1), some (am_i v2), some (am_i v3), some (am_i v4), some (am_i v5), none] [] (am_K0, σ)) : am_X (am_FI G (d + 1) Q) mX11_found (0, 0) 54 [some (am_r (some 91)), some (am_i v1), some (am_i v2), some (am_i v3), some (am_i v4), some (am_i v5), none] [] (am_K0, σ) := by
  refine am_r_goto (tg := 100) (show decode cX11_found 54 = .ok (.goto 46, 3) by decide +kernel) (by decide) ?_
  exact k
theorem S_X11_found_57 {G : am_G} {d : Nat} {Q : Int → am_D → Prop} {σ : am_D} {v5 : Int}  (k : am_X (am_FI G (d + 1) Q) mX11_found (0, 0) 65 [some (am_r (some 91)), none, none, none, none, some (am_i v5), none] [] (am_K0, (am_pI σ 91 25 (2 * v5)))) : am_X (am_FI G (d + 1) Q) mX11_found (0, 0) 57 [some (am_r (some 91)), none, none, none, none, some (am_i v5), none] [] (am_K0, σ) := by
  refine am_r_aload_n (nx := 58) rfl rfl (show decode cX11_found 57 = .ok (.aload_n 0, 1) by decide +kernel) rfl ?_
  refine am_r_iconst (nx := 59) (show decode cX11_found 58 = .ok (.iconst 2, 1) by decide +kernel) rfl ?_
  refine am_r_iload (nx := 61) rfl (show decode cX11_found 59 = .ok (.iload 5, 2) by decide +kernel) rfl ?_
  refine am_r_imul (nx := 62) (show decode cX11_found 61 = .ok (.imul, 1) by decide +kernel) rfl ?_
  refine am_r_putI (nx := 65) 25 cw11 (by decide) rfl (Or.inl fl_X11_299) (ob_91) rfl (Or.inl rfl) (show decode cX11_found 62 = .ok (.putfield 299, 3) by decide +kernel) rfl ?_
  exact k
theorem S_X11_found_65 {G : am_G} {d : Nat} {Q : Int → am_D → Prop} {σ : am_D} {v5 : Int}  (k : am_X (am_FI G (d + 1) Q) mX11_found (0, 0) 68 [some (am_r (some 91)), none, none, none, none, some (am_i v5), some (am_i 0)] [] (am_K0, σ)) : am_X (am_FI G (d + 1) Q) mX11_found (0, 0) 65 [some (am_r (some 91)), none, none, none, none, some (am_i v5), none] [] (am_K0, σ) := by
  refine am_r_iconst (nx := 66) (show decode cX11_found 65 = .ok (.iconst 0, 1) by decide +kernel) rfl ?_
  refine am_r_istore (nx := 68) (by decide) rfl (show decode cX11_found 66 = .ok (.istore 6, 2) by decide +kernel) rfl ?_
  exact k
theorem S_X11_found_68 {G : am_G} {d : Nat} {Q : Int → am_D → Prop} {σ : am_D} {v5 : Int} {v6 : Int} (hr1 : -2147483648 ≤ v6 ∧ v6 ≤ 2147483647) (hr2 : -2147483648 ≤ (2 * v5) ∧ (2 * v5) ≤ 2147483647) (k1 : (2 * v5) ≤ v6 → am_X (am_FI G (d + 1) Q) mX11_found (0, 0) 97 [none, none, none, none, none, some (am_i v5), none] [] (am_K0, σ)) (k2 : ¬ ((2 * v5) ≤ v6) → am_X (am_FI G (d + 1) Q) mX11_found (0, 0) 77 [some (am_r (some 91)), none, none, none, none, some (am_i v5), some (am_i v6)] [] (am_K0, σ)) : am_X (am_FI G (d + 1) Q) mX11_found (0, 0) 68 [some (am_r (some 91)), none, none, none, none, some (am_i v5), some (am_i v6)] [] (am_K0, σ) := by
  refine am_r_iload (nx := 70) rfl (show decode cX11_found 68 = .ok (.iload 6, 2) by decide +kernel) rfl ?_
  refine am_r_iconst (nx := 71) (show decode cX11_found 70 = .ok (.iconst 2, 1) by decide +kernel) rfl ?_
  refine am_r_iload (nx := 73) rfl (show decode cX11_found 71 = .ok (.iload 5, 2) by decide +kernel) rfl ?_
  refine am_r_imul (nx := 74) (show decode cX11_found 73 = .ok (.imul, 1) by decide +kernel) rfl ?_
  refine am_r_icmp_ge (tg := 97) (nx := 77) (show decode cX11_found 74 = .ok (.if_icmp .ge 23, 3) by decide +kernel) (by decide) rfl hr1 hr2 ?_ ?_
  · exact fun q => am_x_fg [0, 6] (k1 q)
  · exact fun q => k2 q
theorem S_X11_found_77 {G : am_G} {d : Nat} {Q : Int → am_D → Prop} {σ : am_D} {v5 : Int} {v6 : Int} (hi1 : 0 ≤ v6) (hj2 : v6 < 8) (hi3 : 0 ≤ v6) (hj4 : v6 < 80) (k : am_X (am_FI G (d + 1) Q) mX11_found (0, 0) 91 [some (am_r (some 91)), none, none, none, none, some (am_i v5), some (am_i v6)] [] (am_K0, (am_pI σ 107 v6 (σ.1 131 v6)))) : am_X (am_FI G (d + 1) Q) mX11_found (0, 0) 77 [some (am_r (some 91)), none, none, none, none, some (am_i v5), some (am_i v6)] [] (am_K0, σ) := by
  refine am_r_aload_n (nx := 78) rfl rfl (show decode cX11_found 77 = .ok (.aload_n 0, 1) by decide +kernel) rfl ?_
  refine am_r_getF (nx := 81) 22 cw11 (by decide) rfl (Or.inl fl_X11_57) (ob_91) (fn_91_22) (show decode cX11_found 78 = .ok (.getfield 57, 3) by decide +kernel) rfl ?_
  refine am_r_iload (nx := 83) rfl (show decode cX11_found 81 = .ok (.iload 6, 2) by decide +kernel) rfl ?_
  refine am_r_aload_n (nx := 84) rfl rfl (show decode cX11_found 83 = .ok (.aload_n 0, 1) by decide +kernel) rfl ?_
  refine am_r_getF (nx := 87) 57 cw11 (by decide) rfl (Or.inl fl_X11_130) (ob_91) (fn_91_57) (show decode cX11_found 84 = .ok (.getfield 130, 3) by decide +kernel) rfl ?_
  refine am_r_iload (nx := 89) rfl (show decode cX11_found 87 = .ok (.iload 6, 2) by decide +kernel) rfl ?_
  refine am_r_iald (nx := 90) (sh_131) (am_shle (sh_131)) hi1 hj2 (show decode cX11_found 89 = .ok (.iaload, 1) by decide +kernel) rfl ?_
  refine am_r_iast (nx := 91) (sh_107) (am_shle (sh_107)) hi3 hj4 (show decode cX11_found 90 = .ok (.iastore, 1) by decide +kernel) rfl ?_
  exact k
theorem S_X11_found_91 {G : am_G} {d : Nat} {Q : Int → am_D → Prop} {σ : am_D} {v5 : Int} {v6 : Int}  (k : am_X (am_FI G (d + 1) Q) mX11_found (0, 0) 68 [some (am_r (some 91)), none, none, none, none, some (am_i v5), some (am_i (v6 + 1))] [] (am_K0, σ)) : am_X (am_FI G (d + 1) Q) mX11_found (0, 0) 91 [some (am_r (some 91)), none, none, none, none, some (am_i v5), some (am_i v6)] [] (am_K0, σ) := by
  refine am_r_iinc (nx := 94) rfl rfl (show decode cX11_found 91 = .ok (.iinc 6 1, 3) by decide +kernel) rfl ?_
  refine am_r_goto (tg := 68) (show decode cX11_found 94 = .ok (.goto (-26), 3) by decide +kernel) (by decide) ?_
  exact k
theorem S_X11_found_97 {G : am_G} {d : Nat} {Q : Int → am_D → Prop} {σ : am_D} {v5 : Int}  (k : Q v5 σ) : am_X (am_FI G (d + 1) Q) mX11_found (0, 0) 97 [none, none, none, none, none, some (am_i v5), none] [] (am_K0, σ) := by
  refine am_r_iload (nx := 99) rfl (show decode cX11_found 97 = .ok (.iload 5, 2) by decide +kernel) rfl ?_
  exact am_r_iret rfl rfl (show decode cX11_found 99 = .ok (.ireturn, 1) by decide +kernel) ⟨_, _, rfl, rfl, k⟩
theorem S_X11_found_100 {G : am_G} {d : Nat} {Q : Int → am_D → Prop} {σ : am_D} {v1 : Int} {v2 : Int} {v3 : Int} {v4 : Int} {v5 : Int}  (k : am_X (am_FI G (d + 1) Q) mX11_found (0, 0) 31 [some (am_r (some 91)), some (am_i v1), some (am_i v2), some (am_i v3), some (am_i v4), some (am_i (v5 + 1)), none] [] (am_K0, σ)) : am_X (am_FI G (d + 1) Q) mX11_found (0, 0) 100 [some (am_r (some 91)), some (am_i v1), some (am_i v2), some (am_i v3), some (am_i v4), some (am_i v5), none] [] (am_K0, σ) := by
  refine am_r_iinc (nx := 103) rfl rfl (show decode cX11_found 100 = .ok (.iinc 5 1, 3) by decide +kernel) rfl ?_
  refine am_r_goto (tg := 31) (show decode cX11_found 103 = .ok (.goto (-72), 3) by decide +kernel) (by decide) ?_
  exact k
theorem S_X11_found_106 {G : am_G} {d : Nat} {Q : Int → am_D → Prop} {σ : am_D}   (k : Q (-1) σ) : am_X (am_FI G (d + 1) Q) mX11_found (0, 0) 106 [none, none, none, none, none, none, none] [] (am_K0, σ) := by
  refine am_r_iconst (nx := 107) (show decode cX11_found 106 = .ok (.iconst (-1), 1) by decide +kernel) rfl ?_
  exact am_r_iret rfl rfl (show decode cX11_found 107 = .ok (.ireturn, 1) by decide +kernel) ⟨_, _, rfl, rfl, k⟩
theorem S_X11_differ_0 {G : am_G} {d : Nat} {Q : Int → am_D → Prop} {σ : am_D} {v1 : Int} {v2 : Int} {v3 : Int} {Q' : Int → am_D → Prop} (hc : am_MI G d mX11_found [am_r (some 91), am_i v1, am_i v2, am_i v3, am_i 0] σ Q') (k : ∀ (x : Int) (σ' : am_D), Q' x σ' → Q x σ') : am_X (am_FI G (d + 1) Q) mX11_differ (0, 0) 0 [some (am_r (some 91)), some (am_i v1), some (am_i v2), some (am_i v3)] [] (am_K0, σ) := by
  refine am_r_aload_n (nx := 1) rfl rfl (show decode cX11_differ 0 = .ok (.aload_n 0, 1) by decide +kernel) rfl ?_
  refine am_r_iload_n (nx := 2) rfl rfl (show decode cX11_differ 1 = .ok (.iload_n 1, 1) by decide +kernel) rfl ?_
  refine am_r_iload_n (nx := 3) rfl rfl (show decode cX11_differ 2 = .ok (.iload_n 2, 1) by decide +kernel) rfl ?_
  refine am_r_iload_n (nx := 4) rfl rfl (show decode cX11_differ 3 = .ok (.iload_n 3, 1) by decide +kernel) rfl ?_
  refine am_r_iconst (nx := 5) (show decode cX11_differ 4 = .ok (.iconst 0, 1) by decide +kernel) rfl ?_
  refine am_r_callV (as := [am_i v1, am_i v2, am_i v3, am_i 0]) (st := []) hc mb_X11_found mv_X11_found (Or.inl ml_X11_422) (ob_91) (by omega) (r := (RX11, TX11, 63)) rfl rfl rfl rfl (Nat.le_of_ble_eq_true rfl) ⟨Nat.le_refl _, Nat.le_refl _⟩ ⟨Nat.le_refl _, Nat.le_refl _⟩ (show decode cX11_differ 5 = .ok (.invokevirtual 422, 3) by decide +kernel) ?_
  rintro _ _ ⟨x, σ', rfl, rfl, hq⟩ _
  exact am_r_iret rfl rfl (show decode cX11_differ 8 = .ok (.ireturn, 1) by decide +kernel) ⟨_, _, rfl, rfl, (k x σ' hq)⟩
theorem S_X11_spoils_0 {G : am_G} {d : Nat} {Q : Int → am_D → Prop} {σ : am_D} {v1 : Int} {v2 : Int} {v3 : Int} {Q' : Int → am_D → Prop} (hc : am_MI G d mX11_found [am_r (some 91), am_i v1, am_i v2, am_i v3, am_i 1] σ Q') (k : ∀ (x : Int) (σ' : am_D), Q' x σ' → Q x σ') : am_X (am_FI G (d + 1) Q) mX11_spoils (0, 0) 0 [some (am_r (some 91)), some (am_i v1), some (am_i v2), some (am_i v3)] [] (am_K0, σ) := by
  refine am_r_aload_n (nx := 1) rfl rfl (show decode cX11_spoils 0 = .ok (.aload_n 0, 1) by decide +kernel) rfl ?_
  refine am_r_iload_n (nx := 2) rfl rfl (show decode cX11_spoils 1 = .ok (.iload_n 1, 1) by decide +kernel) rfl ?_
  refine am_r_iload_n (nx := 3) rfl rfl (show decode cX11_spoils 2 = .ok (.iload_n 2, 1) by decide +kernel) rfl ?_
  refine am_r_iload_n (nx := 4) rfl rfl (show decode cX11_spoils 3 = .ok (.iload_n 3, 1) by decide +kernel) rfl ?_
  refine am_r_iconst (nx := 5) (show decode cX11_spoils 4 = .ok (.iconst 1, 1) by decide +kernel) rfl ?_
  refine am_r_callV (as := [am_i v1, am_i v2, am_i v3, am_i 1]) (st := []) hc mb_X11_found mv_X11_found (Or.inl ml_X11_422) (ob_91) (by omega) (r := (RX11, TX11, 63)) rfl rfl rfl rfl (Nat.le_of_ble_eq_true rfl) ⟨Nat.le_refl _, Nat.le_refl _⟩ ⟨Nat.le_refl _, Nat.le_refl _⟩ (show decode cX11_spoils 5 = .ok (.invokevirtual 422, 3) by decide +kernel) ?_
  rintro _ _ ⟨x, σ', rfl, rfl, hq⟩ _
  exact am_r_iret rfl rfl (show decode cX11_spoils 8 = .ok (.ireturn, 1) by decide +kernel) ⟨_, _, rfl, rfl, (k x σ' hq)⟩
theorem S_X11_by_0 {G : am_G} {d : Nat} {Q : Int → am_D → Prop} {σ : am_D} {v0 : Int} {v1 : Int} (hr1 : -2147483648 ≤ v1 ∧ v1 ≤ 2147483647) (k1 : ¬ v1 = 2 → am_X (am_FI G (d + 1) Q) mX11_by (0, 0) 9 [some (am_i v0), some (am_i v1)] [] (am_K0, σ)) (k2 : ¬ (¬ v1 = 2) → am_X (am_FI G (d + 1) Q) mX11_by (0, 0) 5 [none, none] [] (am_K0, σ)) : am_X (am_FI G (d + 1) Q) mX11_by (0, 0) 0 [some (am_i v0), some (am_i v1)] [] (am_K0, σ) := by
  refine am_r_iload_n (nx := 1) rfl rfl (show decode cX11_by 0 = .ok (.iload_n 1, 1) by decide +kernel) rfl ?_
  refine am_r_iconst (nx := 2) (show decode cX11_by 1 = .ok (.iconst 2, 1) by decide +kernel) rfl ?_
  refine am_r_icmp_ne (tg := 9) (nx := 5) (show decode cX11_by 2 = .ok (.if_icmp .ne 7, 3) by decide +kernel) (by decide) rfl hr1 (by omega) ?_ ?_
  · exact fun q => k1 q
  · exact fun q => am_x_fg [0, 1] (k2 q)
theorem S_X11_by_5 {G : am_G} {d : Nat} {Q : Int → am_D → Prop} {σ : am_D}   (k : am_X (am_FI G (d + 1) Q) mX11_by (0, 0) 22 [none, none] [am_i 2] (am_K0, σ)) : am_X (am_FI G (d + 1) Q) mX11_by (0, 0) 5 [none, none] [] (am_K0, σ) := by
  refine am_r_iconst (nx := 6) (show decode cX11_by 5 = .ok (.iconst 2, 1) by decide +kernel) rfl ?_
  refine am_r_goto (tg := 22) (show decode cX11_by 6 = .ok (.goto 16, 3) by decide +kernel) (by decide) ?_
  exact k
theorem S_X11_by_9 {G : am_G} {d : Nat} {Q : Int → am_D → Prop} {σ : am_D} {v0 : Int} {v1 : Int} (hr1 : -2147483648 ≤ v1 ∧ v1 ≤ 2147483647) (k1 : ¬ v1 = 0 → am_X (am_FI G (d + 1) Q) mX11_by (0, 0) 19 [some (am_i v0), none] [] (am_K0, σ)) (k2 : ¬ (¬ v1 = 0) → am_X (am_FI G (d + 1) Q) mX11_by (0, 0) 13 [some (am_i v0), none] [] (am_K0, σ)) : am_X (am_FI G (d + 1) Q) mX11_by (0, 0) 9 [some (am_i v0), some (am_i v1)] [] (am_K0, σ) := by
  refine am_r_iload_n (nx := 10) rfl rfl (show decode cX11_by 9 = .ok (.iload_n 1, 1) by decide +kernel) rfl ?_
  refine am_r_if_ne (tg := 19) (nx := 13) (show decode cX11_by 10 = .ok (.ifCond .ne 9, 3) by decide +kernel) (by decide) rfl hr1 ?_ ?_
  · exact fun q => am_x_fg [1] (k1 q)
  · exact fun q => am_x_fg [1] (k2 q)
theorem S_X11_by_13 {G : am_G} {d : Nat} {Q : Int → am_D → Prop} {σ : am_D} {v0 : Int} (hr1 : -2147483648 ≤ v0 ∧ v0 ≤ 2147483647) (k : am_X (am_FI G (d + 1) Q) mX11_by (0, 0) 22 [none, none] [am_i (Int.tmod v0 3)] (am_K0, σ)) : am_X (am_FI G (d + 1) Q) mX11_by (0, 0) 13 [some (am_i v0), none] [] (am_K0, σ) := by
  refine am_r_iload_n (nx := 14) rfl rfl (show decode cX11_by 13 = .ok (.iload_n 0, 1) by decide +kernel) rfl ?_
  refine am_r_iconst (nx := 15) (show decode cX11_by 14 = .ok (.iconst 3, 1) by decide +kernel) rfl ?_
  refine am_r_irem (nx := 16) hr1 (by omega) (show decode cX11_by 15 = .ok (.irem, 1) by decide +kernel) rfl ?_
  refine am_r_goto (tg := 22) (show decode cX11_by 16 = .ok (.goto 6, 3) by decide +kernel) (by decide) ?_
  exact am_x_fg [0] k
theorem S_X11_by_19 {G : am_G} {d : Nat} {Q : Int → am_D → Prop} {σ : am_D} {v0 : Int} (hr1 : -2147483648 ≤ v0 ∧ v0 ≤ 2147483647) (k : am_X (am_FI G (d + 1) Q) mX11_by (0, 0) 22 [none, none] [am_i (Int.tdiv v0 3)] (am_K0, σ)) : am_X (am_FI G (d + 1) Q) mX11_by (0, 0) 19 [some (am_i v0), none] [] (am_K0, σ) := by
  refine am_r_iload_n (nx := 20) rfl rfl (show decode cX11_by 19 = .ok (.iload_n 0, 1) by decide +kernel) rfl ?_
  refine am_r_iconst (nx := 21) (show decode cX11_by 20 = .ok (.iconst 3, 1) by decide +kernel) rfl ?_
  refine am_r_idiv (nx := 22) hr1 (by omega) (show decode cX11_by 21 = .ok (.idiv, 1) by decide +kernel) rfl ?_
  exact am_x_fg [0] k
theorem S_X11_by_22 {G : am_G} {d : Nat} {Q : Int → am_D → Prop} {σ : am_D} {s0 : Int}  (k : Q s0 σ) : am_X (am_FI G (d + 1) Q) mX11_by (0, 0) 22 [none, none] [am_i s0] (am_K0, σ) := by
  exact am_r_iret rfl rfl (show decode cX11_by 22 = .ok (.ireturn, 1) by decide +kernel) ⟨_, _, rfl, rfl, k⟩
theorem S_X11_then_0 {G : am_G} {d : Nat} {Q : Int → am_D → Prop} {σ : am_D} {v0 : Int} {v1 : Int} {Q' : Int → am_D → Prop} (hc : am_MI G d mX11_by [am_i v0, am_i 0] σ Q') (k : ∀ (x : Int) (σ' : am_D), Q' x σ' → am_X (am_FI G (d + 1) Q) mX11_then (0, 0) 6 [some (am_i v0), some (am_i v1)] [am_i x, am_i v1] (am_K0, σ')) : am_X (am_FI G (d + 1) Q) mX11_then (0, 0) 0 [some (am_i v0), some (am_i v1)] [] (am_K0, σ) := by
  refine am_r_iload_n (nx := 1) rfl rfl (show decode cX11_then 0 = .ok (.iload_n 1, 1) by decide +kernel) rfl ?_
  refine am_r_iload_n (nx := 2) rfl rfl (show decode cX11_then 1 = .ok (.iload_n 0, 1) by decide +kernel) rfl ?_
  refine am_r_iconst (nx := 3) (show decode cX11_then 2 = .ok (.iconst 0, 1) by decide +kernel) rfl ?_
  refine am_r_callS (as := [am_i v0, am_i 0]) (st := [am_i v1]) hc mb_X11_by mv_X11_by (Or.inl ml_X11_426) rfl rfl (Nat.le_of_ble_eq_true rfl) ⟨Nat.le_refl _, Nat.le_refl _⟩ ⟨Nat.le_refl _, Nat.le_refl _⟩ (show decode cX11_then 3 = .ok (.invokestatic 426, 3) by decide +kernel) ?_
  rintro _ _ ⟨x, σ', rfl, rfl, hq⟩ _
  exact (k x σ' hq)
theorem S_X11_then_6 {G : am_G} {d : Nat} {Q : Int → am_D → Prop} {σ : am_D} {v0 : Int} {v1 : Int} {s0 : Int} {s1 : Int} {Q' : Int → am_D → Prop} (hc : am_MI G d mX11_by [am_i s0, am_i s1] σ Q') (k : ∀ (x : Int) (σ' : am_D), Q' x σ' → am_X (am_FI G (d + 1) Q) mX11_then (0, 0) 9 [some (am_i v0), some (am_i v1)] [am_i x] (am_K0, σ')) : am_X (am_FI G (d + 1) Q) mX11_then (0, 0) 6 [some (am_i v0), some (am_i v1)] [am_i s1, am_i s0] (am_K0, σ) := by
  refine am_r_callS (as := [am_i s0, am_i s1]) (st := []) hc mb_X11_by mv_X11_by (Or.inl ml_X11_426) rfl rfl (Nat.le_of_ble_eq_true rfl) ⟨Nat.le_refl _, Nat.le_refl _⟩ ⟨Nat.le_refl _, Nat.le_refl _⟩ (show decode cX11_then 6 = .ok (.invokestatic 426, 3) by decide +kernel) ?_
  rintro _ _ ⟨x, σ', rfl, rfl, hq⟩ _
  exact (k x σ' hq)
theorem S_X11_then_9 {G : am_G} {d : Nat} {Q : Int → am_D → Prop} {σ : am_D} {v0 : Int} {v1 : Int} {s0 : Int} {Q' : Int → am_D → Prop} (hc : am_MI G d mX11_by [am_i v0, am_i 1] σ Q') (k : ∀ (x : Int) (σ' : am_D), Q' x σ' → am_X (am_FI G (d + 1) Q) mX11_then (0, 0) 16 [none, none] [am_i x, am_i v1, am_i 3, am_i s0] (am_K0, σ')) : am_X (am_FI G (d + 1) Q) mX11_then (0, 0) 9 [some (am_i v0), some (am_i v1)] [am_i s0] (am_K0, σ) := by
  refine am_r_iconst (nx := 10) (show decode cX11_then 9 = .ok (.iconst 3, 1) by decide +kernel) rfl ?_
  refine am_r_iload_n (nx := 11) rfl rfl (show decode cX11_then 10 = .ok (.iload_n 1, 1) by decide +kernel) rfl ?_
  refine am_r_iload_n (nx := 12) rfl rfl (show decode cX11_then 11 = .ok (.iload_n 0, 1) by decide +kernel) rfl ?_
  refine am_r_iconst (nx := 13) (show decode cX11_then 12 = .ok (.iconst 1, 1) by decide +kernel) rfl ?_
  refine am_r_callS (as := [am_i v0, am_i 1]) (st := [am_i v1, am_i 3, am_i s0]) hc mb_X11_by mv_X11_by (Or.inl ml_X11_426) rfl rfl (Nat.le_of_ble_eq_true rfl) ⟨Nat.le_refl _, Nat.le_refl _⟩ ⟨Nat.le_refl _, Nat.le_refl _⟩ (show decode cX11_then 13 = .ok (.invokestatic 426, 3) by decide +kernel) ?_
  rintro _ _ ⟨x, σ', rfl, rfl, hq⟩ _
  exact am_x_fg [0, 1] (k x σ' hq)
theorem S_X11_then_16 {G : am_G} {d : Nat} {Q : Int → am_D → Prop} {σ : am_D} {s0 : Int} {s1 : Int} {s2 : Int} {s3 : Int} {Q' : Int → am_D → Prop} (hc : am_MI G d mX11_by [am_i s2, am_i s3] σ Q') (k : ∀ (x : Int) (σ' : am_D), Q' x σ' → am_X (am_FI G (d + 1) Q) mX11_then (0, 0) 19 [none, none] [am_i x, am_i s1, am_i s0] (am_K0, σ')) : am_X (am_FI G (d + 1) Q) mX11_then (0, 0) 16 [none, none] [am_i s3, am_i s2, am_i s1, am_i s0] (am_K0, σ) := by
  refine am_r_callS (as := [am_i s2, am_i s3]) (st := [am_i s1, am_i s0]) hc mb_X11_by mv_X11_by (Or.inl ml_X11_426) rfl rfl (Nat.le_of_ble_eq_true rfl) ⟨Nat.le_refl _, Nat.le_refl _⟩ ⟨Nat.le_refl _, Nat.le_refl _⟩ (show decode cX11_then 16 = .ok (.invokestatic 426, 3) by decide +kernel) ?_
  rintro _ _ ⟨x, σ', rfl, rfl, hq⟩ _
  exact (k x σ' hq)
theorem S_X11_then_19 {G : am_G} {d : Nat} {Q : Int → am_D → Prop} {σ : am_D} {s0 : Int} {s1 : Int} {s2 : Int}  (k : Q (s0 + (s1 * s2)) σ) : am_X (am_FI G (d + 1) Q) mX11_then (0, 0) 19 [none, none] [am_i s2, am_i s1, am_i s0] (am_K0, σ) := by
  refine am_r_imul (nx := 20) (show decode cX11_then 19 = .ok (.imul, 1) by decide +kernel) rfl ?_
  refine am_r_iadd (nx := 21) (show decode cX11_then 20 = .ok (.iadd, 1) by decide +kernel) rfl ?_
  exact am_r_iret rfl rfl (show decode cX11_then 21 = .ok (.ireturn, 1) by decide +kernel) ⟨_, _, rfl, rfl, k⟩
theorem S_X11_within_0 {G : am_G} {d : Nat} {Q : Int → am_D → Prop} {σ : am_D} {v1 : Int} {v2 : Int} {v3 : Int} {v4 : Int} (hi1 : 0 ≤ v1) (hj2 : v1 < 6) (hr3 : -2147483648 ≤ v4 ∧ v4 ≤ 2147483647) (hr4 : -2147483648 ≤ (σ.1 94 v1) ∧ (σ.1 94 v1) ≤ 2147483647) (k1 : (σ.1 94 v1) ≤ v4 → am_X (am_FI G (d + 1) Q) mX11_within (0, 0) 27 [none, none, none, none, none, none, none] [] (am_K0, σ)) (k2 : ¬ ((σ.1 94 v1) ≤ v4) → am_X (am_FI G (d + 1) Q) mX11_within (0, 0) 11 [some (am_r (some 91)), some (am_i v1), some (am_i v2), some (am_i v3), some (am_i v4), none, none] [] (am_K0, σ)) : am_X (am_FI G (d + 1) Q) mX11_within (0, 0) 0 [some (am_r (some 91)), some (am_i v1), some (am_i v2), some (am_i v3), some (am_i v4), none, none] [] (am_K0, σ) := by
  refine am_r_iload (nx := 2) rfl (show decode cX11_within 0 = .ok (.iload 4, 2) by decide +kernel) rfl ?_
  refine am_r_aload_n (nx := 3) rfl rfl (show decode cX11_within 2 = .ok (.aload_n 0, 1) by decide +kernel) rfl ?_
  refine am_r_getF (nx := 6) 8 cw11 (by decide) rfl (Or.inl fl_X11_17) (ob_91) (fn_91_8) (show decode cX11_within 3 = .ok (.getfield 17, 3) by decide +kernel) rfl ?_
  refine am_r_iload_n (nx := 7) rfl rfl (show decode cX11_within 6 = .ok (.iload_n 1, 1) by decide +kernel) rfl ?_
  refine am_r_iald (nx := 8) (sh_94) (am_shle (sh_94)) hi1 hj2 (show decode cX11_within 7 = .ok (.iaload, 1) by decide +kernel) rfl ?_
  refine am_r_icmp_ge (tg := 27) (nx := 11) (show decode cX11_within 8 = .ok (.if_icmp .ge 19, 3) by decide +kernel) (by decide) rfl hr3 hr4 ?_ ?_
  · exact fun q => am_x_fg [0, 1, 2, 3, 4] (k1 q)
  · exact fun q => k2 q
theorem S_X11_within_11 {G : am_G} {d : Nat} {Q : Int → am_D → Prop} {σ : am_D} {v1 : Int} {v2 : Int} {v3 : Int} {v4 : Int} {Q' : Int → am_D → Prop} (hc : am_MI G d mX11_openAt [am_i v1, am_i v2, am_i v4] σ Q') (k : ∀ (x : Int) (σ' : am_D), Q' x σ' → am_X (am_FI G (d + 1) Q) mX11_within (0, 0) 22 [some (am_r (some 91)), some (am_i v1), some (am_i v2), some (am_i v3), some (am_i v4), none, none] [am_i x, am_r (some 98)] (am_K0, σ')) : am_X (am_FI G (d + 1) Q) mX11_within (0, 0) 11 [some (am_r (some 91)), some (am_i v1), some (am_i v2), some (am_i v3), some (am_i v4), none, none] [] (am_K0, σ) := by
  refine am_r_aload_n (nx := 12) rfl rfl (show decode cX11_within 11 = .ok (.aload_n 0, 1) by decide +kernel) rfl ?_
  refine am_r_getF (nx := 15) 12 cw11 (by decide) rfl (Or.inl fl_X11_30) (ob_91) (fn_91_12) (show decode cX11_within 12 = .ok (.getfield 30, 3) by decide +kernel) rfl ?_
  refine am_r_iload_n (nx := 16) rfl rfl (show decode cX11_within 15 = .ok (.iload_n 1, 1) by decide +kernel) rfl ?_
  refine am_r_iload_n (nx := 17) rfl rfl (show decode cX11_within 16 = .ok (.iload_n 2, 1) by decide +kernel) rfl ?_
  refine am_r_iload (nx := 19) rfl (show decode cX11_within 17 = .ok (.iload 4, 2) by decide +kernel) rfl ?_
  refine am_r_callS (as := [am_i v1, am_i v2, am_i v4]) (st := [am_r (some 98)]) hc mb_X11_openAt mv_X11_openAt (Or.inl ml_X11_246) rfl rfl (Nat.le_of_ble_eq_true rfl) ⟨Nat.le_refl _, Nat.le_refl _⟩ ⟨Nat.le_refl _, Nat.le_refl _⟩ (show decode cX11_within 19 = .ok (.invokestatic 246, 3) by decide +kernel) ?_
  rintro _ _ ⟨x, σ', rfl, rfl, hq⟩ _
  exact (k x σ' hq)
theorem S_X11_within_22 {G : am_G} {d : Nat} {Q : Int → am_D → Prop} {σ : am_D} {v1 : Int} {v2 : Int} {v3 : Int} {v4 : Int} {s1 : Int} {s0 : Nat} {n1 : Nat} (hs2 : am_sh am_SH s0 = (100, n1)) (hi3 : 0 ≤ s1) (hj4 : s1 < ((n1 : Nat) : Int)) (hr5 : -2147483648 ≤ (σ.1 s0 s1) ∧ (σ.1 s0 s1) ≤ 2147483647) (k1 : ¬ (σ.1 s0 s1) = (-1) → am_X (am_FI G (d + 1) Q) mX11_within (0, 0) 29 [some (am_r (some 91)), some (am_i v1), some (am_i v2), some (am_i v3), some (am_i v4), none, none] [] (am_K0, σ)) (k2 : ¬ (¬ (σ.1 s0 s1) = (-1)) → am_X (am_FI G (d + 1) Q) mX11_within (0, 0) 27 [none, none, none, none, none, none, none] [] (am_K0, σ)) : am_X (am_FI G (d + 1) Q) mX11_within (0, 0) 22 [some (am_r (some 91)), some (am_i v1), some (am_i v2), some (am_i v3), some (am_i v4), none, none] [am_i s1, am_r (some s0)] (am_K0, σ) := by
  refine am_r_iald (nx := 23) (hs2) (am_shle (hs2)) hi3 hj4 (show decode cX11_within 22 = .ok (.iaload, 1) by decide +kernel) rfl ?_
  refine am_r_iconst (nx := 24) (show decode cX11_within 23 = .ok (.iconst (-1), 1) by decide +kernel) rfl ?_
  refine am_r_icmp_ne (tg := 29) (nx := 27) (show decode cX11_within 24 = .ok (.if_icmp .ne 5, 3) by decide +kernel) (by decide) rfl hr5 (by omega) ?_ ?_
  · exact fun q => k1 q
  · exact fun q => am_x_fg [0, 1, 2, 3, 4] (k2 q)
theorem S_X11_within_27 {G : am_G} {d : Nat} {Q : Int → am_D → Prop} {σ : am_D}   (k : Q 2 σ) : am_X (am_FI G (d + 1) Q) mX11_within (0, 0) 27 [none, none, none, none, none, none, none] [] (am_K0, σ) := by
  refine am_r_iconst (nx := 28) (show decode cX11_within 27 = .ok (.iconst 2, 1) by decide +kernel) rfl ?_
  exact am_r_iret rfl rfl (show decode cX11_within 28 = .ok (.ireturn, 1) by decide +kernel) ⟨_, _, rfl, rfl, k⟩
theorem S_X11_within_29 {G : am_G} {d : Nat} {Q : Int → am_D → Prop} {σ : am_D} {v1 : Int} {v2 : Int} {v3 : Int} {v4 : Int} {Q' : Int → am_D → Prop} (hc : am_MI G d mX11_openAt [am_i v1, am_i v2, am_i v4] σ Q') (k : ∀ (x : Int) (σ' : am_D), Q' x σ' → am_X (am_FI G (d + 1) Q) mX11_within (0, 0) 41 [some (am_r (some 91)), some (am_i v1), some (am_i v2), none, some (am_i v4), none, none] [am_i x, am_r (some 98), am_i v3] (am_K0, σ')) : am_X (am_FI G (d + 1) Q) mX11_within (0, 0) 29 [some (am_r (some 91)), some (am_i v1), some (am_i v2), some (am_i v3), some (am_i v4), none, none] [] (am_K0, σ) := by
  refine am_r_iload_n (nx := 30) rfl rfl (show decode cX11_within 29 = .ok (.iload_n 3, 1) by decide +kernel) rfl ?_
  refine am_r_aload_n (nx := 31) rfl rfl (show decode cX11_within 30 = .ok (.aload_n 0, 1) by decide +kernel) rfl ?_
  refine am_r_getF (nx := 34) 12 cw11 (by decide) rfl (Or.inl fl_X11_30) (ob_91) (fn_91_12) (show decode cX11_within 31 = .ok (.getfield 30, 3) by decide +kernel) rfl ?_
  refine am_r_iload_n (nx := 35) rfl rfl (show decode cX11_within 34 = .ok (.iload_n 1, 1) by decide +kernel) rfl ?_
  refine am_r_iload_n (nx := 36) rfl rfl (show decode cX11_within 35 = .ok (.iload_n 2, 1) by decide +kernel) rfl ?_
  refine am_r_iload (nx := 38) rfl (show decode cX11_within 36 = .ok (.iload 4, 2) by decide +kernel) rfl ?_
  refine am_r_callS (as := [am_i v1, am_i v2, am_i v4]) (st := [am_r (some 98), am_i v3]) hc mb_X11_openAt mv_X11_openAt (Or.inl ml_X11_246) rfl rfl (Nat.le_of_ble_eq_true rfl) ⟨Nat.le_refl _, Nat.le_refl _⟩ ⟨Nat.le_refl _, Nat.le_refl _⟩ (show decode cX11_within 38 = .ok (.invokestatic 246, 3) by decide +kernel) ?_
  rintro _ _ ⟨x, σ', rfl, rfl, hq⟩ _
  exact am_x_fg [3] (k x σ' hq)
theorem S_X11_within_41 {G : am_G} {d : Nat} {Q : Int → am_D → Prop} {σ : am_D} {v1 : Int} {v2 : Int} {v4 : Int} {s0 : Int} {s2 : Int} {s1 : Nat} {n1 : Nat} {Q' : Int → am_D → Prop} (hs2 : am_sh am_SH s1 = (100, n1)) (hi3 : 0 ≤ s2) (hj4 : s2 < ((n1 : Nat) : Int)) (hc : am_MI G d mX11_by [am_i s0, am_i (σ.1 s1 s2)] σ Q') (k : ∀ (x : Int) (σ' : am_D), Q' x σ' → am_X (am_FI G (d + 1) Q) mX11_within (0, 0) 47 [some (am_r (some 91)), some (am_i v1), some (am_i v2), none, some (am_i v4), some (am_i x), none] [] (am_K0, σ')) : am_X (am_FI G (d + 1) Q) mX11_within (0, 0) 41 [some (am_r (some 91)), some (am_i v1), some (am_i v2), none, some (am_i v4), none, none] [am_i s2, am_r (some s1), am_i s0] (am_K0, σ) := by
  refine am_r_iald (nx := 42) (hs2) (am_shle (hs2)) hi3 hj4 (show decode cX11_within 41 = .ok (.iaload, 1) by decide +kernel) rfl ?_
  refine am_r_callS (as := [am_i s0, am_i (σ.1 s1 s2)]) (st := []) hc mb_X11_by mv_X11_by (Or.inl ml_X11_426) rfl rfl (Nat.le_of_ble_eq_true rfl) ⟨Nat.le_refl _, Nat.le_refl _⟩ ⟨Nat.le_refl _, Nat.le_refl _⟩ (show decode cX11_within 42 = .ok (.invokestatic 426, 3) by decide +kernel) ?_
  rintro _ _ ⟨x, σ', rfl, rfl, hq⟩ _
  refine am_r_istore (nx := 47) (by decide) rfl (show decode cX11_within 45 = .ok (.istore 5, 2) by decide +kernel) rfl ?_
  exact (k x σ' hq)
theorem S_X11_within_47 {G : am_G} {d : Nat} {Q : Int → am_D → Prop} {σ : am_D} {v1 : Int} {v2 : Int} {v4 : Int} {v5 : Int} (hr1 : -2147483648 ≤ v5 ∧ v5 ≤ 2147483647) (k1 : ¬ v5 = 2 → am_X (am_FI G (d + 1) Q) mX11_within (0, 0) 57 [some (am_r (some 91)), some (am_i v1), some (am_i v2), none, some (am_i v4), some (am_i v5), none] [] (am_K0, σ)) (k2 : ¬ (¬ v5 = 2) → am_X (am_FI G (d + 1) Q) mX11_within (0, 0) 53 [none, none, none, none, none, none, none] [] (am_K0, σ)) : am_X (am_FI G (d + 1) Q) mX11_within (0, 0) 47 [some (am_r (some 91)), some (am_i v1), some (am_i v2), none, some (am_i v4), some (am_i v5), none] [] (am_K0, σ) := by
  refine am_r_iload (nx := 49) rfl (show decode cX11_within 47 = .ok (.iload 5, 2) by decide +kernel) rfl ?_
  refine am_r_iconst (nx := 50) (show decode cX11_within 49 = .ok (.iconst 2, 1) by decide +kernel) rfl ?_
  refine am_r_icmp_ne (tg := 57) (nx := 53) (show decode cX11_within 50 = .ok (.if_icmp .ne 7, 3) by decide +kernel) (by decide) rfl hr1 (by omega) ?_ ?_
  · exact fun q => k1 q
  · exact fun q => am_x_fg [0, 1, 2, 4, 5] (k2 q)
theorem S_X11_within_53 {G : am_G} {d : Nat} {Q : Int → am_D → Prop} {σ : am_D}   (k : am_X (am_FI G (d + 1) Q) mX11_within (0, 0) 81 [none, none, none, none, none, none, none] [am_i (-1)] (am_K0, σ)) : am_X (am_FI G (d + 1) Q) mX11_within (0, 0) 53 [none, none, none, none, none, none, none] [] (am_K0, σ) := by
  refine am_r_iconst (nx := 54) (show decode cX11_within 53 = .ok (.iconst (-1), 1) by decide +kernel) rfl ?_
  refine am_r_goto (tg := 81) (show decode cX11_within 54 = .ok (.goto 27, 3) by decide +kernel) (by decide) ?_
  exact k
theorem S_X11_within_57 {G : am_G} {d : Nat} {Q : Int → am_D → Prop} {σ : am_D} {v1 : Int} {v2 : Int} {v4 : Int} {v5 : Int} {Q' : Int → am_D → Prop} (hc : am_MI G d mX11_openAt [am_i v1, am_i v2, am_i v4] σ Q') (k : ∀ (x : Int) (σ' : am_D), Q' x σ' → am_X (am_FI G (d + 1) Q) mX11_within (0, 0) 76 [none, none, none, none, none, none, none] [am_i x, am_r (some 99), am_i v5, am_i v2, am_i v1, am_r (some 100)] (am_K0, σ')) : am_X (am_FI G (d + 1) Q) mX11_within (0, 0) 57 [some (am_r (some 91)), some (am_i v1), some (am_i v2), none, some (am_i v4), some (am_i v5), none] [] (am_K0, σ) := by
  refine am_r_aload_n (nx := 58) rfl rfl (show decode cX11_within 57 = .ok (.aload_n 0, 1) by decide +kernel) rfl ?_
  refine am_r_getF (nx := 61) 14 cw11 (by decide) rfl (Or.inl fl_X11_36) (ob_91) (fn_91_14) (show decode cX11_within 58 = .ok (.getfield 36, 3) by decide +kernel) rfl ?_
  refine am_r_iload_n (nx := 62) rfl rfl (show decode cX11_within 61 = .ok (.iload_n 1, 1) by decide +kernel) rfl ?_
  refine am_r_iload_n (nx := 63) rfl rfl (show decode cX11_within 62 = .ok (.iload_n 2, 1) by decide +kernel) rfl ?_
  refine am_r_iload (nx := 65) rfl (show decode cX11_within 63 = .ok (.iload 5, 2) by decide +kernel) rfl ?_
  refine am_r_aload_n (nx := 66) rfl rfl (show decode cX11_within 65 = .ok (.aload_n 0, 1) by decide +kernel) rfl ?_
  refine am_r_getF (nx := 69) 13 cw11 (by decide) rfl (Or.inl fl_X11_33) (ob_91) (fn_91_13) (show decode cX11_within 66 = .ok (.getfield 33, 3) by decide +kernel) rfl ?_
  refine am_r_iload_n (nx := 70) rfl rfl (show decode cX11_within 69 = .ok (.iload_n 1, 1) by decide +kernel) rfl ?_
  refine am_r_iload_n (nx := 71) rfl rfl (show decode cX11_within 70 = .ok (.iload_n 2, 1) by decide +kernel) rfl ?_
  refine am_r_iload (nx := 73) rfl (show decode cX11_within 71 = .ok (.iload 4, 2) by decide +kernel) rfl ?_
  refine am_r_callS (as := [am_i v1, am_i v2, am_i v4]) (st := [am_r (some 99), am_i v5, am_i v2, am_i v1, am_r (some 100)]) hc mb_X11_openAt mv_X11_openAt (Or.inl ml_X11_246) rfl rfl (Nat.le_of_ble_eq_true rfl) ⟨Nat.le_refl _, Nat.le_refl _⟩ ⟨Nat.le_refl _, Nat.le_refl _⟩ (show decode cX11_within 73 = .ok (.invokestatic 246, 3) by decide +kernel) ?_
  rintro _ _ ⟨x, σ', rfl, rfl, hq⟩ _
  exact am_x_fg [0, 1, 2, 4, 5] (k x σ' hq)
theorem S_X11_within_76 {G : am_G} {d : Nat} {Q : Int → am_D → Prop} {σ : am_D} {s1 : Int} {s2 : Int} {s3 : Int} {s5 : Int} {s4 : Nat} {n1 : Nat} {Q' : Int → am_D → Prop} {s0 : Option Nat} (hs2 : am_sh am_SH s4 = (100, n1)) (hi3 : 0 ≤ s5) (hj4 : s5 < ((n1 : Nat) : Int)) (hc : am_MI G d mX11_closeAt [am_i s1, am_i s2, am_i s3, am_i (σ.1 s4 s5)] σ Q') (k : ∀ (x : Int) (σ' : am_D), Q' x σ' → am_X (am_FI G (d + 1) Q) mX11_within (0, 0) 80 [none, none, none, none, none, none, none] [am_i x, am_r s0] (am_K0, σ')) : am_X (am_FI G (d + 1) Q) mX11_within (0, 0) 76 [none, none, none, none, none, none, none] [am_i s5, am_r (some s4), am_i s3, am_i s2, am_i s1, am_r s0] (am_K0, σ) := by
  refine am_r_iald (nx := 77) (hs2) (am_shle (hs2)) hi3 hj4 (show decode cX11_within 76 = .ok (.iaload, 1) by decide +kernel) rfl ?_
  refine am_r_callS (as := [am_i s1, am_i s2, am_i s3, am_i (σ.1 s4 s5)]) (st := [am_r s0]) hc mb_X11_closeAt mv_X11_closeAt (Or.inl ml_X11_253) rfl rfl (Nat.le_of_ble_eq_true rfl) ⟨Nat.le_refl _, Nat.le_refl _⟩ ⟨Nat.le_refl _, Nat.le_refl _⟩ (show decode cX11_within 77 = .ok (.invokestatic 253, 3) by decide +kernel) ?_
  rintro _ _ ⟨x, σ', rfl, rfl, hq⟩ _
  exact (k x σ' hq)
theorem S_X11_within_80 {G : am_G} {d : Nat} {Q : Int → am_D → Prop} {σ : am_D} {s1 : Int} {s0 : Nat} {n1 : Nat} (hs2 : am_sh am_SH s0 = (100, n1)) (hi3 : 0 ≤ s1) (hj4 : s1 < ((n1 : Nat) : Int)) (k : am_X (am_FI G (d + 1) Q) mX11_within (0, 0) 81 [none, none, none, none, none, none, none] [am_i (σ.1 s0 s1)] (am_K0, σ)) : am_X (am_FI G (d + 1) Q) mX11_within (0, 0) 80 [none, none, none, none, none, none, none] [am_i s1, am_r (some s0)] (am_K0, σ) := by
  refine am_r_iald (nx := 81) (hs2) (am_shle (hs2)) hi3 hj4 (show decode cX11_within 80 = .ok (.iaload, 1) by decide +kernel) rfl ?_
  exact k
theorem S_X11_within_81 {G : am_G} {d : Nat} {Q : Int → am_D → Prop} {σ : am_D} {s0 : Int}  (k : am_X (am_FI G (d + 1) Q) mX11_within (0, 0) 83 [none, none, none, none, none, none, some (am_i s0)] [] (am_K0, σ)) : am_X (am_FI G (d + 1) Q) mX11_within (0, 0) 81 [none, none, none, none, none, none, none] [am_i s0] (am_K0, σ) := by
  refine am_r_istore (nx := 83) (by decide) rfl (show decode cX11_within 81 = .ok (.istore 6, 2) by decide +kernel) rfl ?_
  exact k
theorem S_X11_within_83 {G : am_G} {d : Nat} {Q : Int → am_D → Prop} {σ : am_D} {v6 : Int} (hr1 : -2147483648 ≤ v6 ∧ v6 ≤ 2147483647) (k1 : ¬ v6 = (-1) → am_X (am_FI G (d + 1) Q) mX11_within (0, 0) 93 [none, none, none, none, none, none, some (am_i v6)] [] (am_K0, σ)) (k2 : ¬ (¬ v6 = (-1)) → am_X (am_FI G (d + 1) Q) mX11_within (0, 0) 89 [none, none, none, none, none, none, none] [] (am_K0, σ)) : am_X (am_FI G (d + 1) Q) mX11_within (0, 0) 83 [none, none, none, none, none, none, some (am_i v6)] [] (am_K0, σ) := by
  refine am_r_iload (nx := 85) rfl (show decode cX11_within 83 = .ok (.iload 6, 2) by decide +kernel) rfl ?_
  refine am_r_iconst (nx := 86) (show decode cX11_within 85 = .ok (.iconst (-1), 1) by decide +kernel) rfl ?_
  refine am_r_icmp_ne (tg := 93) (nx := 89) (show decode cX11_within 86 = .ok (.if_icmp .ne 7, 3) by decide +kernel) (by decide) rfl hr1 (by omega) ?_ ?_
  · exact fun q => k1 q
  · exact fun q => am_x_fg [6] (k2 q)
theorem S_X11_within_89 {G : am_G} {d : Nat} {Q : Int → am_D → Prop} {σ : am_D}   (k : am_X (am_FI G (d + 1) Q) mX11_within (0, 0) 95 [none, none, none, none, none, none, none] [am_i 2] (am_K0, σ)) : am_X (am_FI G (d + 1) Q) mX11_within (0, 0) 89 [none, none, none, none, none, none, none] [] (am_K0, σ) := by
  refine am_r_iconst (nx := 90) (show decode cX11_within 89 = .ok (.iconst 2, 1) by decide +kernel) rfl ?_
  refine am_r_goto (tg := 95) (show decode cX11_within 90 = .ok (.goto 5, 3) by decide +kernel) (by decide) ?_
  exact k
theorem S_X11_within_93 {G : am_G} {d : Nat} {Q : Int → am_D → Prop} {σ : am_D} {v6 : Int}  (k : am_X (am_FI G (d + 1) Q) mX11_within (0, 0) 95 [none, none, none, none, none, none, none] [am_i v6] (am_K0, σ)) : am_X (am_FI G (d + 1) Q) mX11_within (0, 0) 93 [none, none, none, none, none, none, some (am_i v6)] [] (am_K0, σ) := by
  refine am_r_iload (nx := 95) rfl (show decode cX11_within 93 = .ok (.iload 6, 2) by decide +kernel) rfl ?_
  exact am_x_fg [6] k
theorem S_X11_within_95 {G : am_G} {d : Nat} {Q : Int → am_D → Prop} {σ : am_D} {s0 : Int}  (k : Q s0 σ) : am_X (am_FI G (d + 1) Q) mX11_within (0, 0) 95 [none, none, none, none, none, none, none] [am_i s0] (am_K0, σ) := by
  exact am_r_iret rfl rfl (show decode cX11_within 95 = .ok (.ireturn, 1) by decide +kernel) ⟨_, _, rfl, rfl, k⟩
theorem S_X11_does_0 {G : am_G} {d : Nat} {Q : Int → am_D → Prop} {σ : am_D} {v1 : Int} {v2 : Int} {v3 : Int} {v4 : Int}  (k : am_X (am_FI G (d + 1) Q) mX11_does (0, 0) 3 [some (am_r (some 91)), some (am_i v1), some (am_i v2), some (am_i v3), some (am_i v4), some (am_i 3), none, none, none, none] [] (am_K0, σ)) : am_X (am_FI G (d + 1) Q) mX11_does (0, 0) 0 [some (am_r (some 91)), some (am_i v1), some (am_i v2), some (am_i v3), some (am_i v4), none, none, none, none, none] [] (am_K0, σ) := by
  refine am_r_iconst (nx := 1) (show decode cX11_does 0 = .ok (.iconst 3, 1) by decide +kernel) rfl ?_
  refine am_r_istore (nx := 3) (by decide) rfl (show decode cX11_does 1 = .ok (.istore 5, 2) by decide +kernel) rfl ?_
  exact k
theorem S_X11_does_3 {G : am_G} {d : Nat} {Q : Int → am_D → Prop} {σ : am_D} {v1 : Int} {v2 : Int} {v3 : Int} {v4 : Int} {v5 : Int}  (k : am_X (am_FI G (d + 1) Q) mX11_does (0, 0) 6 [some (am_r (some 91)), some (am_i v1), some (am_i v2), some (am_i v3), some (am_i v4), some (am_i v5), some (am_i 0), none, none, none] [] (am_K0, σ)) : am_X (am_FI G (d + 1) Q) mX11_does (0, 0) 3 [some (am_r (some 91)), some (am_i v1), some (am_i v2), some (am_i v3), some (am_i v4), some (am_i v5), none, none, none, none] [] (am_K0, σ) := by
  refine am_r_iconst (nx := 4) (show decode cX11_does 3 = .ok (.iconst 0, 1) by decide +kernel) rfl ?_
  refine am_r_istore (nx := 6) (by decide) rfl (show decode cX11_does 4 = .ok (.istore 6, 2) by decide +kernel) rfl ?_
  exact k
theorem S_X11_does_6 {G : am_G} {d : Nat} {Q : Int → am_D → Prop} {σ : am_D} {v1 : Int} {v2 : Int} {v3 : Int} {v4 : Int} {v5 : Int} {v6 : Int} (hi1 : 0 ≤ (((72 * v1) + (3 * v3)) + v4)) (hj2 : (((72 * v1) + (3 * v3)) + v4) < 432) (k : am_X (am_FI G (d + 1) Q) mX11_does (0, 0) 24 [some (am_r (some 91)), some (am_i v1), some (am_i v2), some (am_i v3), some (am_i v4), some (am_i v5), some (am_i v6), some (am_i (σ.1 103 (((72 * v1) + (3 * v3)) + v4))), none, none] [] (am_K0, σ)) : am_X (am_FI G (d + 1) Q) mX11_does (0, 0) 6 [some (am_r (some 91)), some (am_i v1), some (am_i v2), some (am_i v3), some (am_i v4), some (am_i v5), some (am_i v6), none, none, none] [] (am_K0, σ) := by
  refine am_r_aload_n (nx := 7) rfl rfl (show decode cX11_does 6 = .ok (.aload_n 0, 1) by decide +kernel) rfl ?_
  refine am_r_getF (nx := 10) 17 cw11 (by decide) rfl (Or.inl fl_X11_45) (ob_91) (fn_91_17) (show decode cX11_does 7 = .ok (.getfield 45, 3) by decide +kernel) rfl ?_
  refine am_r_bipush (nx := 12) rfl (show decode cX11_does 10 = .ok (.bipush 72, 2) by decide +kernel) rfl ?_
  refine am_r_iload_n (nx := 13) rfl rfl (show decode cX11_does 12 = .ok (.iload_n 1, 1) by decide +kernel) rfl ?_
  refine am_r_imul (nx := 14) (show decode cX11_does 13 = .ok (.imul, 1) by decide +kernel) rfl ?_
  refine am_r_iconst (nx := 15) (show decode cX11_does 14 = .ok (.iconst 3, 1) by decide +kernel) rfl ?_
  refine am_r_iload_n (nx := 16) rfl rfl (show decode cX11_does 15 = .ok (.iload_n 3, 1) by decide +kernel) rfl ?_
  refine am_r_imul (nx := 17) (show decode cX11_does 16 = .ok (.imul, 1) by decide +kernel) rfl ?_
  refine am_r_iadd (nx := 18) (show decode cX11_does 17 = .ok (.iadd, 1) by decide +kernel) rfl ?_
  refine am_r_iload (nx := 20) rfl (show decode cX11_does 18 = .ok (.iload 4, 2) by decide +kernel) rfl ?_
  refine am_r_iadd (nx := 21) (show decode cX11_does 20 = .ok (.iadd, 1) by decide +kernel) rfl ?_
  refine am_r_iald (nx := 22) (sh_103) (am_shle (sh_103)) hi1 hj2 (show decode cX11_does 21 = .ok (.iaload, 1) by decide +kernel) rfl ?_
  refine am_r_istore (nx := 24) (by decide) rfl (show decode cX11_does 22 = .ok (.istore 7, 2) by decide +kernel) rfl ?_
  exact k
theorem S_X11_does_24 {G : am_G} {d : Nat} {Q : Int → am_D → Prop} {σ : am_D} {v1 : Int} {v2 : Int} {v3 : Int} {v4 : Int} {v5 : Int} {v6 : Int} {v7 : Int} (hi1 : 0 ≤ (((72 * v1) + (3 * v3)) + v4)) (hj2 : (((72 * v1) + (3 * v3)) + v4) < 432) (hr3 : -2147483648 ≤ v7 ∧ v7 ≤ 2147483647) (hr4 : -2147483648 ≤ (σ.1 104 (((72 * v1) + (3 * v3)) + v4)) ∧ (σ.1 104 (((72 * v1) + (3 * v3)) + v4)) ≤ 2147483647) (k1 : (σ.1 104 (((72 * v1) + (3 * v3)) + v4)) ≤ v7 → am_X (am_FI G (d + 1) Q) mX11_does (0, 0) 200 [none, none, none, none, none, some (am_i v5), none, none, none, none] [] (am_K0, σ)) (k2 : ¬ ((σ.1 104 (((72 * v1) + (3 * v3)) + v4)) ≤ v7) → am_X (am_FI G (d + 1) Q) mX11_does (0, 0) 45 [some (am_r (some 91)), some (am_i v1), some (am_i v2), some (am_i v3), some (am_i v4), some (am_i v5), some (am_i v6), some (am_i v7), none, none] [] (am_K0, σ)) : am_X (am_FI G (d + 1) Q) mX11_does (0, 0) 24 [some (am_r (some 91)), some (am_i v1), some (am_i v2), some (am_i v3), some (am_i v4), some (am_i v5), some (am_i v6), some (am_i v7), none, none] [] (am_K0, σ) := by
  refine am_r_iload (nx := 26) rfl (show decode cX11_does 24 = .ok (.iload 7, 2) by decide +kernel) rfl ?_
  refine am_r_aload_n (nx := 27) rfl rfl (show decode cX11_does 26 = .ok (.aload_n 0, 1) by decide +kernel) rfl ?_
  refine am_r_getF (nx := 30) 18 cw11 (by decide) rfl (Or.inl fl_X11_48) (ob_91) (fn_91_18) (show decode cX11_does 27 = .ok (.getfield 48, 3) by decide +kernel) rfl ?_
  refine am_r_bipush (nx := 32) rfl (show decode cX11_does 30 = .ok (.bipush 72, 2) by decide +kernel) rfl ?_
  refine am_r_iload_n (nx := 33) rfl rfl (show decode cX11_does 32 = .ok (.iload_n 1, 1) by decide +kernel) rfl ?_
  refine am_r_imul (nx := 34) (show decode cX11_does 33 = .ok (.imul, 1) by decide +kernel) rfl ?_
  refine am_r_iconst (nx := 35) (show decode cX11_does 34 = .ok (.iconst 3, 1) by decide +kernel) rfl ?_
  refine am_r_iload_n (nx := 36) rfl rfl (show decode cX11_does 35 = .ok (.iload_n 3, 1) by decide +kernel) rfl ?_
  refine am_r_imul (nx := 37) (show decode cX11_does 36 = .ok (.imul, 1) by decide +kernel) rfl ?_
  refine am_r_iadd (nx := 38) (show decode cX11_does 37 = .ok (.iadd, 1) by decide +kernel) rfl ?_
  refine am_r_iload (nx := 40) rfl (show decode cX11_does 38 = .ok (.iload 4, 2) by decide +kernel) rfl ?_
  refine am_r_iadd (nx := 41) (show decode cX11_does 40 = .ok (.iadd, 1) by decide +kernel) rfl ?_
  refine am_r_iald (nx := 42) (sh_104) (am_shle (sh_104)) hi1 hj2 (show decode cX11_does 41 = .ok (.iaload, 1) by decide +kernel) rfl ?_
  refine am_r_icmp_ge (tg := 200) (nx := 45) (show decode cX11_does 42 = .ok (.if_icmp .ge 158, 3) by decide +kernel) (by decide) rfl hr3 hr4 ?_ ?_
  · exact fun q => am_x_fg [0, 1, 2, 3, 4, 6, 7] (k1 q)
  · exact fun q => k2 q
theorem S_X11_does_45 {G : am_G} {d : Nat} {Q : Int → am_D → Prop} {σ : am_D} {v1 : Int} {v2 : Int} {v3 : Int} {v4 : Int} {v5 : Int} {v6 : Int} {v7 : Int} (hi1 : 0 ≤ ((600 * v1) + v7)) (hj2 : ((600 * v1) + v7) < 3600) (k : am_X (am_FI G (d + 1) Q) mX11_does (0, 0) 60 [some (am_r (some 91)), some (am_i v1), some (am_i v2), some (am_i v3), some (am_i v4), some (am_i v5), some (am_i v6), some (am_i v7), some (am_i (σ.1 106 ((600 * v1) + v7))), none] [] (am_K0, σ)) : am_X (am_FI G (d + 1) Q) mX11_does (0, 0) 45 [some (am_r (some 91)), some (am_i v1), some (am_i v2), some (am_i v3), some (am_i v4), some (am_i v5), some (am_i v6), some (am_i v7), none, none] [] (am_K0, σ) := by
  refine am_r_aload_n (nx := 46) rfl rfl (show decode cX11_does 45 = .ok (.aload_n 0, 1) by decide +kernel) rfl ?_
  refine am_r_getF (nx := 49) 20 cw11 (by decide) rfl (Or.inl fl_X11_54) (ob_91) (fn_91_20) (show decode cX11_does 46 = .ok (.getfield 54, 3) by decide +kernel) rfl ?_
  refine am_r_sipush (nx := 52) rfl (show decode cX11_does 49 = .ok (.sipush 600, 3) by decide +kernel) rfl ?_
  refine am_r_iload_n (nx := 53) rfl rfl (show decode cX11_does 52 = .ok (.iload_n 1, 1) by decide +kernel) rfl ?_
  refine am_r_imul (nx := 54) (show decode cX11_does 53 = .ok (.imul, 1) by decide +kernel) rfl ?_
  refine am_r_iload (nx := 56) rfl (show decode cX11_does 54 = .ok (.iload 7, 2) by decide +kernel) rfl ?_
  refine am_r_iadd (nx := 57) (show decode cX11_does 56 = .ok (.iadd, 1) by decide +kernel) rfl ?_
  refine am_r_iald (nx := 58) (sh_106) (am_shle (sh_106)) hi1 hj2 (show decode cX11_does 57 = .ok (.iaload, 1) by decide +kernel) rfl ?_
  refine am_r_istore (nx := 60) (by decide) rfl (show decode cX11_does 58 = .ok (.istore 8, 2) by decide +kernel) rfl ?_
  exact k
theorem S_X11_does_60 {G : am_G} {d : Nat} {Q : Int → am_D → Prop} {σ : am_D} {v1 : Int} {v2 : Int} {v3 : Int} {v4 : Int} {v5 : Int} {v6 : Int} {v7 : Int} {v8 : Int} (hr1 : -2147483648 ≤ v8 ∧ v8 ≤ 2147483647) (k1 : v8 < 20 → am_X (am_FI G (d + 1) Q) mX11_does (0, 0) 87 [some (am_r (some 91)), some (am_i v1), some (am_i v2), some (am_i v3), some (am_i v4), some (am_i v5), some (am_i v6), some (am_i v7), some (am_i v8), none] [] (am_K0, σ)) (k2 : ¬ (v8 < 20) → am_X (am_FI G (d + 1) Q) mX11_does (0, 0) 67 [some (am_r (some 91)), some (am_i v1), some (am_i v2), some (am_i v3), some (am_i v4), some (am_i v5), some (am_i v6), some (am_i v7), some (am_i v8), none] [] (am_K0, σ)) : am_X (am_FI G (d + 1) Q) mX11_does (0, 0) 60 [some (am_r (some 91)), some (am_i v1), some (am_i v2), some (am_i v3), some (am_i v4), some (am_i v5), some (am_i v6), some (am_i v7), some (am_i v8), none] [] (am_K0, σ) := by
  refine am_r_iload (nx := 62) rfl (show decode cX11_does 60 = .ok (.iload 8, 2) by decide +kernel) rfl ?_
  refine am_r_bipush (nx := 64) rfl (show decode cX11_does 62 = .ok (.bipush 20, 2) by decide +kernel) rfl ?_
  refine am_r_icmp_lt (tg := 87) (nx := 67) (show decode cX11_does 64 = .ok (.if_icmp .lt 23, 3) by decide +kernel) (by decide) rfl hr1 (by omega) ?_ ?_
  · exact fun q => k1 q
  · exact fun q => k2 q
theorem S_X11_does_67 {G : am_G} {d : Nat} {Q : Int → am_D → Prop} {σ : am_D} {v1 : Int} {v2 : Int} {v3 : Int} {v4 : Int} {v5 : Int} {v6 : Int} {v7 : Int} {v8 : Int} {Q' : Int → am_D → Prop} (hi1 : 0 ≤ (v8 - 20)) (hj2 : (v8 - 20) < 2) (hc : am_MI G d mX11_then [am_i v5, am_i (σ.1 134 (v8 - 20))] σ Q') (k : ∀ (x : Int) (σ' : am_D), Q' x σ' → am_X (am_FI G (d + 1) Q) mX11_does (0, 0) 84 [some (am_r (some 91)), some (am_i v1), some (am_i v2), some (am_i v3), some (am_i v4), some (am_i x), some (am_i v6), some (am_i v7), none, none] [] (am_K0, σ')) : am_X (am_FI G (d + 1) Q) mX11_does (0, 0) 67 [some (am_r (some 91)), some (am_i v1), some (am_i v2), some (am_i v3), some (am_i v4), some (am_i v5), some (am_i v6), some (am_i v7), some (am_i v8), none] [] (am_K0, σ) := by
  refine am_r_iload (nx := 69) rfl (show decode cX11_does 67 = .ok (.iload 5, 2) by decide +kernel) rfl ?_
  refine am_r_aload_n (nx := 70) rfl rfl (show decode cX11_does 69 = .ok (.aload_n 0, 1) by decide +kernel) rfl ?_
  refine am_r_getF (nx := 73) 60 cw11 (by decide) rfl (Or.inl fl_X11_139) (ob_91) (fn_91_60) (show decode cX11_does 70 = .ok (.getfield 139, 3) by decide +kernel) rfl ?_
  refine am_r_iload (nx := 75) rfl (show decode cX11_does 73 = .ok (.iload 8, 2) by decide +kernel) rfl ?_
  refine am_r_bipush (nx := 77) rfl (show decode cX11_does 75 = .ok (.bipush 20, 2) by decide +kernel) rfl ?_
  refine am_r_isub (nx := 78) (show decode cX11_does 77 = .ok (.isub, 1) by decide +kernel) rfl ?_
  refine am_r_iald (nx := 79) (sh_134) (am_shle (sh_134)) hi1 hj2 (show decode cX11_does 78 = .ok (.iaload, 1) by decide +kernel) rfl ?_
  refine am_r_callS (as := [am_i v5, am_i (σ.1 134 (v8 - 20))]) (st := []) hc mb_X11_then mv_X11_then (Or.inl ml_X11_429) rfl rfl (Nat.le_of_ble_eq_true rfl) ⟨Nat.le_refl _, Nat.le_refl _⟩ ⟨Nat.le_refl _, Nat.le_refl _⟩ (show decode cX11_does 79 = .ok (.invokestatic 429, 3) by decide +kernel) ?_
  rintro _ _ ⟨x, σ', rfl, rfl, hq⟩ _
  refine am_r_istore (nx := 84) (by decide) rfl (show decode cX11_does 82 = .ok (.istore 5, 2) by decide +kernel) rfl ?_
  exact am_x_fg [8] (k x σ' hq)
theorem S_X11_does_84 {G : am_G} {d : Nat} {Q : Int → am_D → Prop} {σ : am_D} {v1 : Int} {v2 : Int} {v3 : Int} {v4 : Int} {v5 : Int} {v6 : Int} {v7 : Int}  (k : am_X (am_FI G (d + 1) Q) mX11_does (0, 0) 194 [some (am_r (some 91)), some (am_i v1), some (am_i v2), some (am_i v3), some (am_i v4), some (am_i v5), some (am_i v6), some (am_i v7), none, none] [] (am_K0, σ)) : am_X (am_FI G (d + 1) Q) mX11_does (0, 0) 84 [some (am_r (some 91)), some (am_i v1), some (am_i v2), some (am_i v3), some (am_i v4), some (am_i v5), some (am_i v6), some (am_i v7), none, none] [] (am_K0, σ) := by
  refine am_r_goto (tg := 194) (show decode cX11_does 84 = .ok (.goto 110, 3) by decide +kernel) (by decide) ?_
  exact k
theorem S_X11_does_87 {G : am_G} {d : Nat} {Q : Int → am_D → Prop} {σ : am_D} {v1 : Int} {v2 : Int} {v3 : Int} {v4 : Int} {v5 : Int} {v6 : Int} {v7 : Int} {v8 : Int} (hr1 : -2147483648 ≤ v8 ∧ v8 ≤ 2147483647) (k1 : v8 < 10 → am_X (am_FI G (d + 1) Q) mX11_does (0, 0) 114 [some (am_r (some 91)), some (am_i v1), some (am_i v2), some (am_i v3), some (am_i v4), some (am_i v5), some (am_i v6), some (am_i v7), some (am_i v8), none] [] (am_K0, σ)) (k2 : ¬ (v8 < 10) → am_X (am_FI G (d + 1) Q) mX11_does (0, 0) 94 [some (am_r (some 91)), some (am_i v1), some (am_i v2), some (am_i v3), some (am_i v4), some (am_i v5), some (am_i v6), some (am_i v7), some (am_i v8), none] [] (am_K0, σ)) : am_X (am_FI G (d + 1) Q) mX11_does (0, 0) 87 [some (am_r (some 91)), some (am_i v1), some (am_i v2), some (am_i v3), some (am_i v4), some (am_i v5), some (am_i v6), some (am_i v7), some (am_i v8), none] [] (am_K0, σ) := by
  refine am_r_iload (nx := 89) rfl (show decode cX11_does 87 = .ok (.iload 8, 2) by decide +kernel) rfl ?_
  refine am_r_bipush (nx := 91) rfl (show decode cX11_does 89 = .ok (.bipush 10, 2) by decide +kernel) rfl ?_
  refine am_r_icmp_lt (tg := 114) (nx := 94) (show decode cX11_does 91 = .ok (.if_icmp .lt 23, 3) by decide +kernel) (by decide) rfl hr1 (by omega) ?_ ?_
  · exact fun q => k1 q
  · exact fun q => k2 q
theorem S_X11_does_94 {G : am_G} {d : Nat} {Q : Int → am_D → Prop} {σ : am_D} {v1 : Int} {v2 : Int} {v3 : Int} {v4 : Int} {v5 : Int} {v6 : Int} {v7 : Int} {v8 : Int} {Q' : Int → am_D → Prop} (hi1 : 0 ≤ (v8 - 10)) (hj2 : (v8 - 10) < 2) (hc : am_MI G d mX11_then [am_i v5, am_i (σ.1 133 (v8 - 10))] σ Q') (k : ∀ (x : Int) (σ' : am_D), Q' x σ' → am_X (am_FI G (d + 1) Q) mX11_does (0, 0) 111 [some (am_r (some 91)), some (am_i v1), some (am_i v2), some (am_i v3), some (am_i v4), some (am_i x), some (am_i v6), some (am_i v7), none, none] [] (am_K0, σ')) : am_X (am_FI G (d + 1) Q) mX11_does (0, 0) 94 [some (am_r (some 91)), some (am_i v1), some (am_i v2), some (am_i v3), some (am_i v4), some (am_i v5), some (am_i v6), some (am_i v7), some (am_i v8), none] [] (am_K0, σ) := by
  refine am_r_iload (nx := 96) rfl (show decode cX11_does 94 = .ok (.iload 5, 2) by decide +kernel) rfl ?_
  refine am_r_aload_n (nx := 97) rfl rfl (show decode cX11_does 96 = .ok (.aload_n 0, 1) by decide +kernel) rfl ?_
  refine am_r_getF (nx := 100) 59 cw11 (by decide) rfl (Or.inl fl_X11_136) (ob_91) (fn_91_59) (show decode cX11_does 97 = .ok (.getfield 136, 3) by decide +kernel) rfl ?_
  refine am_r_iload (nx := 102) rfl (show decode cX11_does 100 = .ok (.iload 8, 2) by decide +kernel) rfl ?_
  refine am_r_bipush (nx := 104) rfl (show decode cX11_does 102 = .ok (.bipush 10, 2) by decide +kernel) rfl ?_
  refine am_r_isub (nx := 105) (show decode cX11_does 104 = .ok (.isub, 1) by decide +kernel) rfl ?_
  refine am_r_iald (nx := 106) (sh_133) (am_shle (sh_133)) hi1 hj2 (show decode cX11_does 105 = .ok (.iaload, 1) by decide +kernel) rfl ?_
  refine am_r_callS (as := [am_i v5, am_i (σ.1 133 (v8 - 10))]) (st := []) hc mb_X11_then mv_X11_then (Or.inl ml_X11_429) rfl rfl (Nat.le_of_ble_eq_true rfl) ⟨Nat.le_refl _, Nat.le_refl _⟩ ⟨Nat.le_refl _, Nat.le_refl _⟩ (show decode cX11_does 106 = .ok (.invokestatic 429, 3) by decide +kernel) ?_
  rintro _ _ ⟨x, σ', rfl, rfl, hq⟩ _
  refine am_r_istore (nx := 111) (by decide) rfl (show decode cX11_does 109 = .ok (.istore 5, 2) by decide +kernel) rfl ?_
  exact am_x_fg [8] (k x σ' hq)
theorem S_X11_does_111 {G : am_G} {d : Nat} {Q : Int → am_D → Prop} {σ : am_D} {v1 : Int} {v2 : Int} {v3 : Int} {v4 : Int} {v5 : Int} {v6 : Int} {v7 : Int}  (k : am_X (am_FI G (d + 1) Q) mX11_does (0, 0) 194 [some (am_r (some 91)), some (am_i v1), some (am_i v2), some (am_i v3), some (am_i v4), some (am_i v5), some (am_i v6), some (am_i v7), none, none] [] (am_K0, σ)) : am_X (am_FI G (d + 1) Q) mX11_does (0, 0) 111 [some (am_r (some 91)), some (am_i v1), some (am_i v2), some (am_i v3), some (am_i v4), some (am_i v5), some (am_i v6), some (am_i v7), none, none] [] (am_K0, σ) := by
  refine am_r_goto (tg := 194) (show decode cX11_does 111 = .ok (.goto 83, 3) by decide +kernel) (by decide) ?_
  exact k
theorem S_X11_does_114 {G : am_G} {d : Nat} {Q : Int → am_D → Prop} {σ : am_D} {v1 : Int} {v2 : Int} {v3 : Int} {v4 : Int} {v5 : Int} {v6 : Int} {v7 : Int} {v8 : Int} (hr1 : -2147483648 ≤ v8 ∧ v8 ≤ 2147483647) (k1 : v8 = 3 → am_X (am_FI G (d + 1) Q) mX11_does (0, 0) 147 [some (am_r (some 91)), some (am_i v1), some (am_i v2), some (am_i v3), some (am_i v4), some (am_i v5), some (am_i v6), some (am_i v7), none, none] [] (am_K0, σ)) (k2 : ¬ (v8 = 3) → am_X (am_FI G (d + 1) Q) mX11_does (0, 0) 120 [some (am_r (some 91)), some (am_i v1), some (am_i v2), some (am_i v3), some (am_i v4), some (am_i v5), some (am_i v6), some (am_i v7), some (am_i v8), none] [] (am_K0, σ)) : am_X (am_FI G (d + 1) Q) mX11_does (0, 0) 114 [some (am_r (some 91)), some (am_i v1), some (am_i v2), some (am_i v3), some (am_i v4), some (am_i v5), some (am_i v6), some (am_i v7), some (am_i v8), none] [] (am_K0, σ) := by
  refine am_r_iload (nx := 116) rfl (show decode cX11_does 114 = .ok (.iload 8, 2) by decide +kernel) rfl ?_
  refine am_r_iconst (nx := 117) (show decode cX11_does 116 = .ok (.iconst 3, 1) by decide +kernel) rfl ?_
  refine am_r_icmp_eq (tg := 147) (nx := 120) (show decode cX11_does 117 = .ok (.if_icmp .eq 30, 3) by decide +kernel) (by decide) rfl hr1 (by omega) ?_ ?_
  · exact fun q => am_x_fg [8] (k1 q)
  · exact fun q => k2 q
theorem S_X11_does_120 {G : am_G} {d : Nat} {Q : Int → am_D → Prop} {σ : am_D} {v1 : Int} {v2 : Int} {v3 : Int} {v4 : Int} {v5 : Int} {v6 : Int} {v7 : Int} {v8 : Int} (hi1 : 0 ≤ v6) (hj2 : v6 < 8) (k : am_X (am_FI G (d + 1) Q) mX11_does (0, 0) 129 [some (am_r (some 91)), some (am_i v1), some (am_i v2), some (am_i v3), some (am_i v4), none, some (am_i v6), some (am_i v7), some (am_i v8), none] [] (am_K0, (am_pI σ 135 v6 v5))) : am_X (am_FI G (d + 1) Q) mX11_does (0, 0) 120 [some (am_r (some 91)), some (am_i v1), some (am_i v2), some (am_i v3), some (am_i v4), some (am_i v5), some (am_i v6), some (am_i v7), some (am_i v8), none] [] (am_K0, σ) := by
  refine am_r_aload_n (nx := 121) rfl rfl (show decode cX11_does 120 = .ok (.aload_n 0, 1) by decide +kernel) rfl ?_
  refine am_r_getF (nx := 124) 61 cw11 (by decide) rfl (Or.inl fl_X11_142) (ob_91) (fn_91_61) (show decode cX11_does 121 = .ok (.getfield 142, 3) by decide +kernel) rfl ?_
  refine am_r_iload (nx := 126) rfl (show decode cX11_does 124 = .ok (.iload 6, 2) by decide +kernel) rfl ?_
  refine am_r_iload (nx := 128) rfl (show decode cX11_does 126 = .ok (.iload 5, 2) by decide +kernel) rfl ?_
  refine am_r_iast (nx := 129) (sh_135) (am_shle (sh_135)) hi1 hj2 (show decode cX11_does 128 = .ok (.iastore, 1) by decide +kernel) rfl ?_
  exact am_x_fg [5] k
theorem S_X11_does_129 {G : am_G} {d : Nat} {Q : Int → am_D → Prop} {σ : am_D} {v1 : Int} {v2 : Int} {v3 : Int} {v4 : Int} {v6 : Int} {v7 : Int} {v8 : Int} (hi1 : 0 ≤ v6) (hj2 : v6 < 8) (k : am_X (am_FI G (d + 1) Q) mX11_does (0, 0) 138 [some (am_r (some 91)), some (am_i v1), some (am_i v2), some (am_i v3), some (am_i v4), none, some (am_i v6), some (am_i v7), none, none] [] (am_K0, (am_pI σ 136 v6 v8))) : am_X (am_FI G (d + 1) Q) mX11_does (0, 0) 129 [some (am_r (some 91)), some (am_i v1), some (am_i v2), some (am_i v3), some (am_i v4), none, some (am_i v6), some (am_i v7), some (am_i v8), none] [] (am_K0, σ) := by
  refine am_r_aload_n (nx := 130) rfl rfl (show decode cX11_does 129 = .ok (.aload_n 0, 1) by decide +kernel) rfl ?_
  refine am_r_getF (nx := 133) 62 cw11 (by decide) rfl (Or.inl fl_X11_145) (ob_91) (fn_91_62) (show decode cX11_does 130 = .ok (.getfield 145, 3) by decide +kernel) rfl ?_
  refine am_r_iload (nx := 135) rfl (show decode cX11_does 133 = .ok (.iload 6, 2) by decide +kernel) rfl ?_
  refine am_r_iload (nx := 137) rfl (show decode cX11_does 135 = .ok (.iload 8, 2) by decide +kernel) rfl ?_
  refine am_r_iast (nx := 138) (sh_136) (am_shle (sh_136)) hi1 hj2 (show decode cX11_does 137 = .ok (.iastore, 1) by decide +kernel) rfl ?_
  exact am_x_fg [8] k
theorem S_X11_does_138 {G : am_G} {d : Nat} {Q : Int → am_D → Prop} {σ : am_D} {v1 : Int} {v2 : Int} {v3 : Int} {v4 : Int} {v6 : Int} {v7 : Int}  (k : am_X (am_FI G (d + 1) Q) mX11_does (0, 0) 141 [some (am_r (some 91)), some (am_i v1), some (am_i v2), some (am_i v3), some (am_i v4), none, some (am_i (v6 + 1)), some (am_i v7), none, none] [] (am_K0, σ)) : am_X (am_FI G (d + 1) Q) mX11_does (0, 0) 138 [some (am_r (some 91)), some (am_i v1), some (am_i v2), some (am_i v3), some (am_i v4), none, some (am_i v6), some (am_i v7), none, none] [] (am_K0, σ) := by
  refine am_r_iinc (nx := 141) rfl rfl (show decode cX11_does 138 = .ok (.iinc 6 1, 3) by decide +kernel) rfl ?_
  exact k
theorem S_X11_does_141 {G : am_G} {d : Nat} {Q : Int → am_D → Prop} {σ : am_D} {v1 : Int} {v2 : Int} {v3 : Int} {v4 : Int} {v6 : Int} {v7 : Int}  (k : am_X (am_FI G (d + 1) Q) mX11_does (0, 0) 194 [some (am_r (some 91)), some (am_i v1), some (am_i v2), some (am_i v3), some (am_i v4), some (am_i 3), some (am_i v6), some (am_i v7), none, none] [] (am_K0, σ)) : am_X (am_FI G (d + 1) Q) mX11_does (0, 0) 141 [some (am_r (some 91)), some (am_i v1), some (am_i v2), some (am_i v3), some (am_i v4), none, some (am_i v6), some (am_i v7), none, none] [] (am_K0, σ) := by
  refine am_r_iconst (nx := 142) (show decode cX11_does 141 = .ok (.iconst 3, 1) by decide +kernel) rfl ?_
  refine am_r_istore (nx := 144) (by decide) rfl (show decode cX11_does 142 = .ok (.istore 5, 2) by decide +kernel) rfl ?_
  refine am_r_goto (tg := 194) (show decode cX11_does 144 = .ok (.goto 50, 3) by decide +kernel) (by decide) ?_
  exact k
theorem S_X11_does_147 {G : am_G} {d : Nat} {Q : Int → am_D → Prop} {σ : am_D} {v1 : Int} {v2 : Int} {v3 : Int} {v4 : Int} {v5 : Int} {v6 : Int} {v7 : Int}  (k : am_X (am_FI G (d + 1) Q) mX11_does (0, 0) 150 [some (am_r (some 91)), some (am_i v1), some (am_i v2), some (am_i v3), some (am_i v4), some (am_i v5), some (am_i (v6 + (-1))), some (am_i v7), none, none] [] (am_K0, σ)) : am_X (am_FI G (d + 1) Q) mX11_does (0, 0) 147 [some (am_r (some 91)), some (am_i v1), some (am_i v2), some (am_i v3), some (am_i v4), some (am_i v5), some (am_i v6), some (am_i v7), none, none] [] (am_K0, σ) := by
  refine am_r_iinc (nx := 150) rfl rfl (show decode cX11_does 147 = .ok (.iinc 6 (-1), 3) by decide +kernel) rfl ?_
  exact k
theorem S_X11_does_150 {G : am_G} {d : Nat} {Q : Int → am_D → Prop} {σ : am_D} {v1 : Int} {v2 : Int} {v3 : Int} {v4 : Int} {v5 : Int} {v6 : Int} {v7 : Int} (hi1 : 0 ≤ v6) (hj2 : v6 < 8) (k : am_X (am_FI G (d + 1) Q) mX11_does (0, 0) 159 [some (am_r (some 91)), some (am_i v1), some (am_i v2), some (am_i v3), some (am_i v4), some (am_i v5), some (am_i v6), some (am_i v7), none, some (am_i (σ.1 136 v6))] [] (am_K0, σ)) : am_X (am_FI G (d + 1) Q) mX11_does (0, 0) 150 [some (am_r (some 91)), some (am_i v1), some (am_i v2), some (am_i v3), some (am_i v4), some (am_i v5), some (am_i v6), some (am_i v7), none, none] [] (am_K0, σ) := by
  refine am_r_aload_n (nx := 151) rfl rfl (show decode cX11_does 150 = .ok (.aload_n 0, 1) by decide +kernel) rfl ?_
  refine am_r_getF (nx := 154) 62 cw11 (by decide) rfl (Or.inl fl_X11_145) (ob_91) (fn_91_62) (show decode cX11_does 151 = .ok (.getfield 145, 3) by decide +kernel) rfl ?_
  refine am_r_iload (nx := 156) rfl (show decode cX11_does 154 = .ok (.iload 6, 2) by decide +kernel) rfl ?_
  refine am_r_iald (nx := 157) (sh_136) (am_shle (sh_136)) hi1 hj2 (show decode cX11_does 156 = .ok (.iaload, 1) by decide +kernel) rfl ?_
  refine am_r_istore (nx := 159) (by decide) rfl (show decode cX11_does 157 = .ok (.istore 9, 2) by decide +kernel) rfl ?_
  exact k
theorem S_X11_does_159 {G : am_G} {d : Nat} {Q : Int → am_D → Prop} {σ : am_D} {v1 : Int} {v2 : Int} {v3 : Int} {v4 : Int} {v5 : Int} {v6 : Int} {v7 : Int} {v9 : Int} {Q' : Int → am_D → Prop} (hi1 : 0 ≤ v6) (hj2 : v6 < 8) (hc : am_MI G d mX11_within [am_r (some 91), am_i v2, am_i v9, am_i v5, am_i 0] σ Q') (k : ∀ (x : Int) (σ' : am_D), Q' x σ' → am_X (am_FI G (d + 1) Q) mX11_does (0, 0) 176 [some (am_r (some 91)), some (am_i v1), some (am_i v2), some (am_i v3), some (am_i v4), some (am_i v5), some (am_i v6), some (am_i v7), none, some (am_i v9)] [am_i x, am_i (σ.1 135 v6)] (am_K0, σ')) : am_X (am_FI G (d + 1) Q) mX11_does (0, 0) 159 [some (am_r (some 91)), some (am_i v1), some (am_i v2), some (am_i v3), some (am_i v4), some (am_i v5), some (am_i v6), some (am_i v7), none, some (am_i v9)] [] (am_K0, σ) := by
  refine am_r_aload_n (nx := 160) rfl rfl (show decode cX11_does 159 = .ok (.aload_n 0, 1) by decide +kernel) rfl ?_
  refine am_r_getF (nx := 163) 61 cw11 (by decide) rfl (Or.inl fl_X11_142) (ob_91) (fn_91_61) (show decode cX11_does 160 = .ok (.getfield 142, 3) by decide +kernel) rfl ?_
  refine am_r_iload (nx := 165) rfl (show decode cX11_does 163 = .ok (.iload 6, 2) by decide +kernel) rfl ?_
  refine am_r_iald (nx := 166) (sh_135) (am_shle (sh_135)) hi1 hj2 (show decode cX11_does 165 = .ok (.iaload, 1) by decide +kernel) rfl ?_
  refine am_r_aload_n (nx := 167) rfl rfl (show decode cX11_does 166 = .ok (.aload_n 0, 1) by decide +kernel) rfl ?_
  refine am_r_iload_n (nx := 168) rfl rfl (show decode cX11_does 167 = .ok (.iload_n 2, 1) by decide +kernel) rfl ?_
  refine am_r_iload (nx := 170) rfl (show decode cX11_does 168 = .ok (.iload 9, 2) by decide +kernel) rfl ?_
  refine am_r_iload (nx := 172) rfl (show decode cX11_does 170 = .ok (.iload 5, 2) by decide +kernel) rfl ?_
  refine am_r_iconst (nx := 173) (show decode cX11_does 172 = .ok (.iconst 0, 1) by decide +kernel) rfl ?_
  refine am_r_callV (as := [am_i v2, am_i v9, am_i v5, am_i 0]) (st := [am_i (σ.1 135 v6)]) hc mb_X11_within mv_X11_within (Or.inl ml_X11_432) (ob_91) (by omega) (r := (RX11, TX11, 63)) rfl rfl rfl rfl (Nat.le_of_ble_eq_true rfl) ⟨Nat.le_refl _, Nat.le_refl _⟩ ⟨Nat.le_refl _, Nat.le_refl _⟩ (show decode cX11_does 173 = .ok (.invokevirtual 432, 3) by decide +kernel) ?_
  rintro _ _ ⟨x, σ', rfl, rfl, hq⟩ _
  exact (k x σ' hq)
theorem S_X11_does_176 {G : am_G} {d : Nat} {Q : Int → am_D → Prop} {σ : am_D} {v1 : Int} {v2 : Int} {v3 : Int} {v4 : Int} {v5 : Int} {v6 : Int} {v7 : Int} {v9 : Int} {s0 : Int} {s1 : Int} {Q' : Int → am_D → Prop} (hc : am_MI G d mX11_within [am_r (some 91), am_i v2, am_i v9, am_i v5, am_i 1] σ Q') (k : ∀ (x : Int) (σ' : am_D), Q' x σ' → am_X (am_FI G (d + 1) Q) mX11_does (0, 0) 187 [some (am_r (some 91)), some (am_i v1), some (am_i v2), some (am_i v3), some (am_i v4), none, some (am_i v6), some (am_i v7), none, none] [am_i x, am_i 3, am_i s1, am_i s0] (am_K0, σ')) : am_X (am_FI G (d + 1) Q) mX11_does (0, 0) 176 [some (am_r (some 91)), some (am_i v1), some (am_i v2), some (am_i v3), some (am_i v4), some (am_i v5), some (am_i v6), some (am_i v7), none, some (am_i v9)] [am_i s1, am_i s0] (am_K0, σ) := by
  refine am_r_iconst (nx := 177) (show decode cX11_does 176 = .ok (.iconst 3, 1) by decide +kernel) rfl ?_
  refine am_r_aload_n (nx := 178) rfl rfl (show decode cX11_does 177 = .ok (.aload_n 0, 1) by decide +kernel) rfl ?_
  refine am_r_iload_n (nx := 179) rfl rfl (show decode cX11_does 178 = .ok (.iload_n 2, 1) by decide +kernel) rfl ?_
  refine am_r_iload (nx := 181) rfl (show decode cX11_does 179 = .ok (.iload 9, 2) by decide +kernel) rfl ?_
  refine am_r_iload (nx := 183) rfl (show decode cX11_does 181 = .ok (.iload 5, 2) by decide +kernel) rfl ?_
  refine am_r_iconst (nx := 184) (show decode cX11_does 183 = .ok (.iconst 1, 1) by decide +kernel) rfl ?_
  refine am_r_callV (as := [am_i v2, am_i v9, am_i v5, am_i 1]) (st := [am_i 3, am_i s1, am_i s0]) hc mb_X11_within mv_X11_within (Or.inl ml_X11_432) (ob_91) (by omega) (r := (RX11, TX11, 63)) rfl rfl rfl rfl (Nat.le_of_ble_eq_true rfl) ⟨Nat.le_refl _, Nat.le_refl _⟩ ⟨Nat.le_refl _, Nat.le_refl _⟩ (show decode cX11_does 184 = .ok (.invokevirtual 432, 3) by decide +kernel) ?_
  rintro _ _ ⟨x, σ', rfl, rfl, hq⟩ _
  exact am_x_fg [5, 9] (k x σ' hq)
theorem S_X11_does_187 {G : am_G} {d : Nat} {Q : Int → am_D → Prop} {σ : am_D} {v1 : Int} {v2 : Int} {v3 : Int} {v4 : Int} {v6 : Int} {v7 : Int} {s0 : Int} {s1 : Int} {s2 : Int} {s3 : Int} {Q' : Int → am_D → Prop} (hc : am_MI G d mX11_then [am_i s0, am_i (s1 + (s2 * s3))] σ Q') (k : ∀ (x : Int) (σ' : am_D), Q' x σ' → am_X (am_FI G (d + 1) Q) mX11_does (0, 0) 194 [some (am_r (some 91)), some (am_i v1), some (am_i v2), some (am_i v3), some (am_i v4), some (am_i x), some (am_i v6), some (am_i v7), none, none] [] (am_K0, σ')) : am_X (am_FI G (d + 1) Q) mX11_does (0, 0) 187 [some (am_r (some 91)), some (am_i v1), some (am_i v2), some (am_i v3), some (am_i v4), none, some (am_i v6), some (am_i v7), none, none] [am_i s3, am_i s2, am_i s1, am_i s0] (am_K0, σ) := by
  refine am_r_imul (nx := 188) (show decode cX11_does 187 = .ok (.imul, 1) by decide +kernel) rfl ?_
  refine am_r_iadd (nx := 189) (show decode cX11_does 188 = .ok (.iadd, 1) by decide +kernel) rfl ?_
  refine am_r_callS (as := [am_i s0, am_i (s1 + (s2 * s3))]) (st := []) hc mb_X11_then mv_X11_then (Or.inl ml_X11_429) rfl rfl (Nat.le_of_ble_eq_true rfl) ⟨Nat.le_refl _, Nat.le_refl _⟩ ⟨Nat.le_refl _, Nat.le_refl _⟩ (show decode cX11_does 189 = .ok (.invokestatic 429, 3) by decide +kernel) ?_
  rintro _ _ ⟨x, σ', rfl, rfl, hq⟩ _
  refine am_r_istore (nx := 194) (by decide) rfl (show decode cX11_does 192 = .ok (.istore 5, 2) by decide +kernel) rfl ?_
  exact (k x σ' hq)
theorem S_X11_does_194 {G : am_G} {d : Nat} {Q : Int → am_D → Prop} {σ : am_D} {v1 : Int} {v2 : Int} {v3 : Int} {v4 : Int} {v5 : Int} {v6 : Int} {v7 : Int}  (k : am_X (am_FI G (d + 1) Q) mX11_does (0, 0) 24 [some (am_r (some 91)), some (am_i v1), some (am_i v2), some (am_i v3), some (am_i v4), some (am_i v5), some (am_i v6), some (am_i (v7 + 1)), none, none] [] (am_K0, σ)) : am_X (am_FI G (d + 1) Q) mX11_does (0, 0) 194 [some (am_r (some 91)), some (am_i v1), some (am_i v2), some (am_i v3), some (am_i v4), some (am_i v5), some (am_i v6), some (am_i v7), none, none] [] (am_K0, σ) := by
  refine am_r_iinc (nx := 197) rfl rfl (show decode cX11_does 194 = .ok (.iinc 7 1, 3) by decide +kernel) rfl ?_
  refine am_r_goto (tg := 24) (show decode cX11_does 197 = .ok (.goto (-173), 3) by decide +kernel) (by decide) ?_
  exact k
theorem S_X11_does_200 {G : am_G} {d : Nat} {Q : Int → am_D → Prop} {σ : am_D} {v5 : Int}  (k : Q v5 σ) : am_X (am_FI G (d + 1) Q) mX11_does (0, 0) 200 [none, none, none, none, none, some (am_i v5), none, none, none, none] [] (am_K0, σ) := by
  refine am_r_iload (nx := 202) rfl (show decode cX11_does 200 = .ok (.iload 5, 2) by decide +kernel) rfl ?_
  exact am_r_iret rfl rfl (show decode cX11_does 202 = .ok (.ireturn, 1) by decide +kernel) ⟨_, _, rfl, rfl, k⟩
theorem S_X11_adds__0 {G : am_G} {d : Nat} {Q : Int → am_D → Prop} {σ : am_D} {v1 : Int} {v2 : Int} {v3 : Int} {v4 : Int} {v5 : Int} {v6 : Int} {Q' : Int → am_D → Prop} (hr1 : -2147483648 ≤ v4 ∧ v4 ≤ 2147483647) (hc : am_MI G d mX11_openAt [am_i v1, am_i v5, am_i (Int.tdiv v4 81)] σ Q') (k : ∀ (x : Int) (σ' : am_D), Q' x σ' → am_X (am_FI G (d + 1) Q) mX11_adds_ (0, 0) 13 [some (am_r (some 91)), some (am_i v1), some (am_i v2), some (am_i v3), some (am_i v4), some (am_i v5), some (am_i v6), some (am_i x), none, none, none, none, none] [] (am_K0, σ')) : am_X (am_FI G (d + 1) Q) mX11_adds_ (0, 0) 0 [some (am_r (some 91)), some (am_i v1), some (am_i v2), some (am_i v3), some (am_i v4), some (am_i v5), some (am_i v6), none, none, none, none, none, none] [] (am_K0, σ) := by
  refine am_r_iload_n (nx := 1) rfl rfl (show decode cX11_adds_ 0 = .ok (.iload_n 1, 1) by decide +kernel) rfl ?_
  refine am_r_iload (nx := 3) rfl (show decode cX11_adds_ 1 = .ok (.iload 5, 2) by decide +kernel) rfl ?_
  refine am_r_iload (nx := 5) rfl (show decode cX11_adds_ 3 = .ok (.iload 4, 2) by decide +kernel) rfl ?_
  refine am_r_bipush (nx := 7) rfl (show decode cX11_adds_ 5 = .ok (.bipush 81, 2) by decide +kernel) rfl ?_
  refine am_r_idiv (nx := 8) hr1 (by omega) (show decode cX11_adds_ 7 = .ok (.idiv, 1) by decide +kernel) rfl ?_
  refine am_r_callS (as := [am_i v1, am_i v5, am_i (Int.tdiv v4 81)]) (st := []) hc mb_X11_openAt mv_X11_openAt (Or.inl ml_X11_246) rfl rfl (Nat.le_of_ble_eq_true rfl) ⟨Nat.le_refl _, Nat.le_refl _⟩ ⟨Nat.le_refl _, Nat.le_refl _⟩ (show decode cX11_adds_ 8 = .ok (.invokestatic 246, 3) by decide +kernel) ?_
  rintro _ _ ⟨x, σ', rfl, rfl, hq⟩ _
  refine am_r_istore (nx := 13) (by decide) rfl (show decode cX11_adds_ 11 = .ok (.istore 7, 2) by decide +kernel) rfl ?_
  exact (k x σ' hq)
theorem S_X11_adds__13 {G : am_G} {d : Nat} {Q : Int → am_D → Prop} {σ : am_D} {v1 : Int} {v2 : Int} {v3 : Int} {v4 : Int} {v5 : Int} {v6 : Int} {v7 : Int} {Q' : Int → am_D → Prop} (hr1 : -2147483648 ≤ v6 ∧ v6 ≤ 2147483647) (hi2 : 0 ≤ v7) (hj3 : v7 < 108) (hc : am_MI G d mX11_closeAt [am_i v1, am_i v5, am_i (Int.tdiv v6 81), am_i (σ.1 99 v7)] σ Q') (k : ∀ (x : Int) (σ' : am_D), Q' x σ' → am_X (am_FI G (d + 1) Q) mX11_adds_ (0, 0) 33 [some (am_r (some 91)), some (am_i v1), some (am_i v2), some (am_i v3), some (am_i v4), none, some (am_i v6), none, some (am_i x), none, none, none, none] [] (am_K0, σ')) : am_X (am_FI G (d + 1) Q) mX11_adds_ (0, 0) 13 [some (am_r (some 91)), some (am_i v1), some (am_i v2), some (am_i v3), some (am_i v4), some (am_i v5), some (am_i v6), some (am_i v7), none, none, none, none, none] [] (am_K0, σ) := by
  refine am_r_iload_n (nx := 14) rfl rfl (show decode cX11_adds_ 13 = .ok (.iload_n 1, 1) by decide +kernel) rfl ?_
  refine am_r_iload (nx := 16) rfl (show decode cX11_adds_ 14 = .ok (.iload 5, 2) by decide +kernel) rfl ?_
  refine am_r_iload (nx := 18) rfl (show decode cX11_adds_ 16 = .ok (.iload 6, 2) by decide +kernel) rfl ?_
  refine am_r_bipush (nx := 20) rfl (show decode cX11_adds_ 18 = .ok (.bipush 81, 2) by decide +kernel) rfl ?_
  refine am_r_idiv (nx := 21) hr1 (by omega) (show decode cX11_adds_ 20 = .ok (.idiv, 1) by decide +kernel) rfl ?_
  refine am_r_aload_n (nx := 22) rfl rfl (show decode cX11_adds_ 21 = .ok (.aload_n 0, 1) by decide +kernel) rfl ?_
  refine am_r_getF (nx := 25) 13 cw11 (by decide) rfl (Or.inl fl_X11_33) (ob_91) (fn_91_13) (show decode cX11_adds_ 22 = .ok (.getfield 33, 3) by decide +kernel) rfl ?_
  refine am_r_iload (nx := 27) rfl (show decode cX11_adds_ 25 = .ok (.iload 7, 2) by decide +kernel) rfl ?_
  refine am_r_iald (nx := 28) (sh_99) (am_shle (sh_99)) hi2 hj3 (show decode cX11_adds_ 27 = .ok (.iaload, 1) by decide +kernel) rfl ?_
  refine am_r_callS (as := [am_i v1, am_i v5, am_i (Int.tdiv v6 81), am_i (σ.1 99 v7)]) (st := []) hc mb_X11_closeAt mv_X11_closeAt (Or.inl ml_X11_253) rfl rfl (Nat.le_of_ble_eq_true rfl) ⟨Nat.le_refl _, Nat.le_refl _⟩ ⟨Nat.le_refl _, Nat.le_refl _⟩ (show decode cX11_adds_ 28 = .ok (.invokestatic 253, 3) by decide +kernel) ?_
  rintro _ _ ⟨x, σ', rfl, rfl, hq⟩ _
  refine am_r_istore (nx := 33) (by decide) rfl (show decode cX11_adds_ 31 = .ok (.istore 8, 2) by decide +kernel) rfl ?_
  exact am_x_fg [5, 7] (k x σ' hq)
theorem S_X11_adds__33 {G : am_G} {d : Nat} {Q : Int → am_D → Prop} {σ : am_D} {v1 : Int} {v2 : Int} {v3 : Int} {v4 : Int} {v6 : Int} {v8 : Int} (hi1 : 0 ≤ v8) (hj2 : v8 < 648) (hr3 : -2147483648 ≤ (σ.1 100 v8) ∧ (σ.1 100 v8) ≤ 2147483647) (k1 : ¬ (σ.1 100 v8) = (-1) → am_X (am_FI G (d + 1) Q) mX11_adds_ (0, 0) 46 [some (am_r (some 91)), some (am_i v1), some (am_i v2), some (am_i v3), some (am_i v4), none, some (am_i v6), none, some (am_i v8), none, none, none, none] [] (am_K0, σ)) (k2 : ¬ (¬ (σ.1 100 v8) = (-1)) → am_X (am_FI G (d + 1) Q) mX11_adds_ (0, 0) 44 [none, none, none, none, none, none, none, none, none, none, none, none, none] [] (am_K0, σ)) : am_X (am_FI G (d + 1) Q) mX11_adds_ (0, 0) 33 [some (am_r (some 91)), some (am_i v1), some (am_i v2), some (am_i v3), some (am_i v4), none, some (am_i v6), none, some (am_i v8), none, none, none, none] [] (am_K0, σ) := by
  refine am_r_aload_n (nx := 34) rfl rfl (show decode cX11_adds_ 33 = .ok (.aload_n 0, 1) by decide +kernel) rfl ?_
  refine am_r_getF (nx := 37) 14 cw11 (by decide) rfl (Or.inl fl_X11_36) (ob_91) (fn_91_14) (show decode cX11_adds_ 34 = .ok (.getfield 36, 3) by decide +kernel) rfl ?_
  refine am_r_iload (nx := 39) rfl (show decode cX11_adds_ 37 = .ok (.iload 8, 2) by decide +kernel) rfl ?_
  refine am_r_iald (nx := 40) (sh_100) (am_shle (sh_100)) hi1 hj2 (show decode cX11_adds_ 39 = .ok (.iaload, 1) by decide +kernel) rfl ?_
  refine am_r_iconst (nx := 41) (show decode cX11_adds_ 40 = .ok (.iconst (-1), 1) by decide +kernel) rfl ?_
  refine am_r_icmp_ne (tg := 46) (nx := 44) (show decode cX11_adds_ 41 = .ok (.if_icmp .ne 5, 3) by decide +kernel) (by decide) rfl hr3 (by omega) ?_ ?_
  · exact fun q => k1 q
  · exact fun q => am_x_fg [0, 1, 2, 3, 4, 6, 8] (k2 q)
theorem S_X11_adds__44 {G : am_G} {d : Nat} {Q : Int → am_D → Prop} {σ : am_D}   (k : Q 0 σ) : am_X (am_FI G (d + 1) Q) mX11_adds_ (0, 0) 44 [none, none, none, none, none, none, none, none, none, none, none, none, none] [] (am_K0, σ) := by
  refine am_r_iconst (nx := 45) (show decode cX11_adds_ 44 = .ok (.iconst 0, 1) by decide +kernel) rfl ?_
  exact am_r_iret rfl rfl (show decode cX11_adds_ 45 = .ok (.ireturn, 1) by decide +kernel) ⟨_, _, rfl, rfl, k⟩
theorem S_X11_adds__46 {G : am_G} {d : Nat} {Q : Int → am_D → Prop} {σ : am_D} {v1 : Int} {v2 : Int} {v3 : Int} {v4 : Int} {v6 : Int} {v8 : Int} (hr1 : -2147483648 ≤ v4 ∧ v4 ≤ 2147483647) (hr2 : -2147483648 ≤ (Int.tdiv v4 9) ∧ (Int.tdiv v4 9) ≤ 2147483647) (k : am_X (am_FI G (d + 1) Q) mX11_adds_ (0, 0) 60 [some (am_r (some 91)), some (am_i v1), some (am_i v2), some (am_i v3), some (am_i v4), none, some (am_i v6), none, some (am_i v8), none, none, none, none] [] (am_K0, (am_pI σ 134 0 (Int.tmod (Int.tdiv v4 9) 9)))) : am_X (am_FI G (d + 1) Q) mX11_adds_ (0, 0) 46 [some (am_r (some 91)), some (am_i v1), some (am_i v2), some (am_i v3), some (am_i v4), none, some (am_i v6), none, some (am_i v8), none, none, none, none] [] (am_K0, σ) := by
  refine am_r_aload_n (nx := 47) rfl rfl (show decode cX11_adds_ 46 = .ok (.aload_n 0, 1) by decide +kernel) rfl ?_
  refine am_r_getF (nx := 50) 60 cw11 (by decide) rfl (Or.inl fl_X11_139) (ob_91) (fn_91_60) (show decode cX11_adds_ 47 = .ok (.getfield 139, 3) by decide +kernel) rfl ?_
  refine am_r_iconst (nx := 51) (show decode cX11_adds_ 50 = .ok (.iconst 0, 1) by decide +kernel) rfl ?_
  refine am_r_iload (nx := 53) rfl (show decode cX11_adds_ 51 = .ok (.iload 4, 2) by decide +kernel) rfl ?_
  refine am_r_bipush (nx := 55) rfl (show decode cX11_adds_ 53 = .ok (.bipush 9, 2) by decide +kernel) rfl ?_
  refine am_r_idiv (nx := 56) hr1 (by omega) (show decode cX11_adds_ 55 = .ok (.idiv, 1) by decide +kernel) rfl ?_
  refine am_r_bipush (nx := 58) rfl (show decode cX11_adds_ 56 = .ok (.bipush 9, 2) by decide +kernel) rfl ?_
  refine am_r_irem (nx := 59) hr2 (by omega) (show decode cX11_adds_ 58 = .ok (.irem, 1) by decide +kernel) rfl ?_
  refine am_r_iast (nx := 60) (sh_134) (am_shle (sh_134)) (by omega) (by omega) (show decode cX11_adds_ 59 = .ok (.iastore, 1) by decide +kernel) rfl ?_
  exact k
theorem S_X11_adds__60 {G : am_G} {d : Nat} {Q : Int → am_D → Prop} {σ : am_D} {v1 : Int} {v2 : Int} {v3 : Int} {v4 : Int} {v6 : Int} {v8 : Int} (hr1 : -2147483648 ≤ v4 ∧ v4 ≤ 2147483647) (k : am_X (am_FI G (d + 1) Q) mX11_adds_ (0, 0) 71 [some (am_r (some 91)), some (am_i v1), some (am_i v2), some (am_i v3), none, none, some (am_i v6), none, some (am_i v8), none, none, none, none] [] (am_K0, (am_pI σ 134 1 (Int.tmod v4 9)))) : am_X (am_FI G (d + 1) Q) mX11_adds_ (0, 0) 60 [some (am_r (some 91)), some (am_i v1), some (am_i v2), some (am_i v3), some (am_i v4), none, some (am_i v6), none, some (am_i v8), none, none, none, none] [] (am_K0, σ) := by
  refine am_r_aload_n (nx := 61) rfl rfl (show decode cX11_adds_ 60 = .ok (.aload_n 0, 1) by decide +kernel) rfl ?_
  refine am_r_getF (nx := 64) 60 cw11 (by decide) rfl (Or.inl fl_X11_139) (ob_91) (fn_91_60) (show decode cX11_adds_ 61 = .ok (.getfield 139, 3) by decide +kernel) rfl ?_
  refine am_r_iconst (nx := 65) (show decode cX11_adds_ 64 = .ok (.iconst 1, 1) by decide +kernel) rfl ?_
  refine am_r_iload (nx := 67) rfl (show decode cX11_adds_ 65 = .ok (.iload 4, 2) by decide +kernel) rfl ?_
  refine am_r_bipush (nx := 69) rfl (show decode cX11_adds_ 67 = .ok (.bipush 9, 2) by decide +kernel) rfl ?_
  refine am_r_irem (nx := 70) hr1 (by omega) (show decode cX11_adds_ 69 = .ok (.irem, 1) by decide +kernel) rfl ?_
  refine am_r_iast (nx := 71) (sh_134) (am_shle (sh_134)) (by omega) (by omega) (show decode cX11_adds_ 70 = .ok (.iastore, 1) by decide +kernel) rfl ?_
  exact am_x_fg [4] k
theorem S_X11_adds__71 {G : am_G} {d : Nat} {Q : Int → am_D → Prop} {σ : am_D} {v1 : Int} {v2 : Int} {v3 : Int} {v6 : Int} {v8 : Int} (hr1 : -2147483648 ≤ v6 ∧ v6 ≤ 2147483647) (hr2 : -2147483648 ≤ (Int.tdiv v6 9) ∧ (Int.tdiv v6 9) ≤ 2147483647) (k : am_X (am_FI G (d + 1) Q) mX11_adds_ (0, 0) 85 [some (am_r (some 91)), some (am_i v1), some (am_i v2), some (am_i v3), none, none, some (am_i v6), none, some (am_i v8), none, none, none, none] [] (am_K0, (am_pI σ 133 0 (Int.tmod (Int.tdiv v6 9) 9)))) : am_X (am_FI G (d + 1) Q) mX11_adds_ (0, 0) 71 [some (am_r (some 91)), some (am_i v1), some (am_i v2), some (am_i v3), none, none, some (am_i v6), none, some (am_i v8), none, none, none, none] [] (am_K0, σ) := by
  refine am_r_aload_n (nx := 72) rfl rfl (show decode cX11_adds_ 71 = .ok (.aload_n 0, 1) by decide +kernel) rfl ?_
  refine am_r_getF (nx := 75) 59 cw11 (by decide) rfl (Or.inl fl_X11_136) (ob_91) (fn_91_59) (show decode cX11_adds_ 72 = .ok (.getfield 136, 3) by decide +kernel) rfl ?_
  refine am_r_iconst (nx := 76) (show decode cX11_adds_ 75 = .ok (.iconst 0, 1) by decide +kernel) rfl ?_
  refine am_r_iload (nx := 78) rfl (show decode cX11_adds_ 76 = .ok (.iload 6, 2) by decide +kernel) rfl ?_
  refine am_r_bipush (nx := 80) rfl (show decode cX11_adds_ 78 = .ok (.bipush 9, 2) by decide +kernel) rfl ?_
  refine am_r_idiv (nx := 81) hr1 (by omega) (show decode cX11_adds_ 80 = .ok (.idiv, 1) by decide +kernel) rfl ?_
  refine am_r_bipush (nx := 83) rfl (show decode cX11_adds_ 81 = .ok (.bipush 9, 2) by decide +kernel) rfl ?_
  refine am_r_irem (nx := 84) hr2 (by omega) (show decode cX11_adds_ 83 = .ok (.irem, 1) by decide +kernel) rfl ?_
  refine am_r_iast (nx := 85) (sh_133) (am_shle (sh_133)) (by omega) (by omega) (show decode cX11_adds_ 84 = .ok (.iastore, 1) by decide +kernel) rfl ?_
  exact k
theorem S_X11_adds__85 {G : am_G} {d : Nat} {Q : Int → am_D → Prop} {σ : am_D} {v1 : Int} {v2 : Int} {v3 : Int} {v6 : Int} {v8 : Int} (hr1 : -2147483648 ≤ v6 ∧ v6 ≤ 2147483647) (k : am_X (am_FI G (d + 1) Q) mX11_adds_ (0, 0) 96 [some (am_r (some 91)), some (am_i v1), some (am_i v2), some (am_i v3), none, none, none, none, some (am_i v8), none, none, none, none] [] (am_K0, (am_pI σ 133 1 (Int.tmod v6 9)))) : am_X (am_FI G (d + 1) Q) mX11_adds_ (0, 0) 85 [some (am_r (some 91)), some (am_i v1), some (am_i v2), some (am_i v3), none, none, some (am_i v6), none, some (am_i v8), none, none, none, none] [] (am_K0, σ) := by
  refine am_r_aload_n (nx := 86) rfl rfl (show decode cX11_adds_ 85 = .ok (.aload_n 0, 1) by decide +kernel) rfl ?_
  refine am_r_getF (nx := 89) 59 cw11 (by decide) rfl (Or.inl fl_X11_136) (ob_91) (fn_91_59) (show decode cX11_adds_ 86 = .ok (.getfield 136, 3) by decide +kernel) rfl ?_
  refine am_r_iconst (nx := 90) (show decode cX11_adds_ 89 = .ok (.iconst 1, 1) by decide +kernel) rfl ?_
  refine am_r_iload (nx := 92) rfl (show decode cX11_adds_ 90 = .ok (.iload 6, 2) by decide +kernel) rfl ?_
  refine am_r_bipush (nx := 94) rfl (show decode cX11_adds_ 92 = .ok (.bipush 9, 2) by decide +kernel) rfl ?_
  refine am_r_irem (nx := 95) hr1 (by omega) (show decode cX11_adds_ 94 = .ok (.irem, 1) by decide +kernel) rfl ?_
  refine am_r_iast (nx := 96) (sh_133) (am_shle (sh_133)) (by omega) (by omega) (show decode cX11_adds_ 95 = .ok (.iastore, 1) by decide +kernel) rfl ?_
  exact am_x_fg [6] k
theorem S_X11_adds__96 {G : am_G} {d : Nat} {Q : Int → am_D → Prop} {σ : am_D} {v1 : Int} {v2 : Int} {v3 : Int} {v8 : Int} {Q' : Int → am_D → Prop} (hi1 : 0 ≤ v8) (hj2 : v8 < 648) (hc : am_MI G d mX11_does [am_r (some 91), am_i v1, am_i v2, am_i (σ.1 101 v8), am_i 0] σ Q') (k : ∀ (x : Int) (σ' : am_D), Q' x σ' → am_X (am_FI G (d + 1) Q) mX11_adds_ (0, 0) 112 [some (am_r (some 91)), some (am_i v1), some (am_i v2), some (am_i v3), none, none, none, none, some (am_i v8), some (am_i x), none, none, none] [] (am_K0, σ')) : am_X (am_FI G (d + 1) Q) mX11_adds_ (0, 0) 96 [some (am_r (some 91)), some (am_i v1), some (am_i v2), some (am_i v3), none, none, none, none, some (am_i v8), none, none, none, none] [] (am_K0, σ) := by
  refine am_r_aload_n (nx := 97) rfl rfl (show decode cX11_adds_ 96 = .ok (.aload_n 0, 1) by decide +kernel) rfl ?_
  refine am_r_iload_n (nx := 98) rfl rfl (show decode cX11_adds_ 97 = .ok (.iload_n 1, 1) by decide +kernel) rfl ?_
  refine am_r_iload_n (nx := 99) rfl rfl (show decode cX11_adds_ 98 = .ok (.iload_n 2, 1) by decide +kernel) rfl ?_
  refine am_r_aload_n (nx := 100) rfl rfl (show decode cX11_adds_ 99 = .ok (.aload_n 0, 1) by decide +kernel) rfl ?_
  refine am_r_getF (nx := 103) 15 cw11 (by decide) rfl (Or.inl fl_X11_39) (ob_91) (fn_91_15) (show decode cX11_adds_ 100 = .ok (.getfield 39, 3) by decide +kernel) rfl ?_
  refine am_r_iload (nx := 105) rfl (show decode cX11_adds_ 103 = .ok (.iload 8, 2) by decide +kernel) rfl ?_
  refine am_r_iald (nx := 106) (sh_101) (am_shle (sh_101)) hi1 hj2 (show decode cX11_adds_ 105 = .ok (.iaload, 1) by decide +kernel) rfl ?_
  refine am_r_iconst (nx := 107) (show decode cX11_adds_ 106 = .ok (.iconst 0, 1) by decide +kernel) rfl ?_
  refine am_r_callV (as := [am_i v1, am_i v2, am_i (σ.1 101 v8), am_i 0]) (st := []) hc mb_X11_does mv_X11_does (Or.inl ml_X11_435) (ob_91) (by omega) (r := (RX11, TX11, 63)) rfl rfl rfl rfl (Nat.le_of_ble_eq_true rfl) ⟨Nat.le_refl _, Nat.le_refl _⟩ ⟨Nat.le_refl _, Nat.le_refl _⟩ (show decode cX11_adds_ 107 = .ok (.invokevirtual 435, 3) by decide +kernel) ?_
  rintro _ _ ⟨x, σ', rfl, rfl, hq⟩ _
  refine am_r_istore (nx := 112) (by decide) rfl (show decode cX11_adds_ 110 = .ok (.istore 9, 2) by decide +kernel) rfl ?_
  exact (k x σ' hq)
theorem S_X11_adds__112 {G : am_G} {d : Nat} {Q : Int → am_D → Prop} {σ : am_D} {v1 : Int} {v2 : Int} {v3 : Int} {v8 : Int} {v9 : Int} (hi1 : 0 ≤ v1) (hj2 : v1 < 6) (hr3 : -2147483648 ≤ (σ.1 95 v1) ∧ (σ.1 95 v1) ≤ 2147483647) (k1 : (σ.1 95 v1) ≤ 1 → am_X (am_FI G (d + 1) Q) mX11_adds_ (0, 0) 139 [some (am_r (some 91)), none, none, some (am_i v3), none, none, none, none, some (am_i v8), some (am_i v9), none, none, none] [] (am_K0, σ)) (k2 : ¬ ((σ.1 95 v1) ≤ 1) → am_X (am_FI G (d + 1) Q) mX11_adds_ (0, 0) 122 [some (am_r (some 91)), some (am_i v1), some (am_i v2), some (am_i v3), none, none, none, none, some (am_i v8), some (am_i v9), none, none, none] [] (am_K0, σ)) : am_X (am_FI G (d + 1) Q) mX11_adds_ (0, 0) 112 [some (am_r (some 91)), some (am_i v1), some (am_i v2), some (am_i v3), none, none, none, none, some (am_i v8), some (am_i v9), none, none, none] [] (am_K0, σ) := by
  refine am_r_aload_n (nx := 113) rfl rfl (show decode cX11_adds_ 112 = .ok (.aload_n 0, 1) by decide +kernel) rfl ?_
  refine am_r_getF (nx := 116) 9 cw11 (by decide) rfl (Or.inl fl_X11_21) (ob_91) (fn_91_9) (show decode cX11_adds_ 113 = .ok (.getfield 21, 3) by decide +kernel) rfl ?_
  refine am_r_iload_n (nx := 117) rfl rfl (show decode cX11_adds_ 116 = .ok (.iload_n 1, 1) by decide +kernel) rfl ?_
  refine am_r_iald (nx := 118) (sh_95) (am_shle (sh_95)) hi1 hj2 (show decode cX11_adds_ 117 = .ok (.iaload, 1) by decide +kernel) rfl ?_
  refine am_r_iconst (nx := 119) (show decode cX11_adds_ 118 = .ok (.iconst 1, 1) by decide +kernel) rfl ?_
  refine am_r_icmp_le (tg := 139) (nx := 122) (show decode cX11_adds_ 119 = .ok (.if_icmp .le 20, 3) by decide +kernel) (by decide) rfl hr3 (by omega) ?_ ?_
  · exact fun q => am_x_fg [1, 2] (k1 q)
  · exact fun q => k2 q
theorem S_X11_adds__122 {G : am_G} {d : Nat} {Q : Int → am_D → Prop} {σ : am_D} {v1 : Int} {v2 : Int} {v3 : Int} {v8 : Int} {v9 : Int} {Q' : Int → am_D → Prop} (hi1 : 0 ≤ v8) (hj2 : v8 < 648) (hc : am_MI G d mX11_does [am_r (some 91), am_i v1, am_i v2, am_i (σ.1 101 v8), am_i 1] σ Q') (k : ∀ (x : Int) (σ' : am_D), Q' x σ' → am_X (am_FI G (d + 1) Q) mX11_adds_ (0, 0) 136 [some (am_r (some 91)), none, none, some (am_i v3), none, none, none, none, some (am_i v8), some (am_i v9), none, none, none] [am_i x] (am_K0, σ')) : am_X (am_FI G (d + 1) Q) mX11_adds_ (0, 0) 122 [some (am_r (some 91)), some (am_i v1), some (am_i v2), some (am_i v3), none, none, none, none, some (am_i v8), some (am_i v9), none, none, none] [] (am_K0, σ) := by
  refine am_r_aload_n (nx := 123) rfl rfl (show decode cX11_adds_ 122 = .ok (.aload_n 0, 1) by decide +kernel) rfl ?_
  refine am_r_iload_n (nx := 124) rfl rfl (show decode cX11_adds_ 123 = .ok (.iload_n 1, 1) by decide +kernel) rfl ?_
  refine am_r_iload_n (nx := 125) rfl rfl (show decode cX11_adds_ 124 = .ok (.iload_n 2, 1) by decide +kernel) rfl ?_
  refine am_r_aload_n (nx := 126) rfl rfl (show decode cX11_adds_ 125 = .ok (.aload_n 0, 1) by decide +kernel) rfl ?_
  refine am_r_getF (nx := 129) 15 cw11 (by decide) rfl (Or.inl fl_X11_39) (ob_91) (fn_91_15) (show decode cX11_adds_ 126 = .ok (.getfield 39, 3) by decide +kernel) rfl ?_
  refine am_r_iload (nx := 131) rfl (show decode cX11_adds_ 129 = .ok (.iload 8, 2) by decide +kernel) rfl ?_
  refine am_r_iald (nx := 132) (sh_101) (am_shle (sh_101)) hi1 hj2 (show decode cX11_adds_ 131 = .ok (.iaload, 1) by decide +kernel) rfl ?_
  refine am_r_iconst (nx := 133) (show decode cX11_adds_ 132 = .ok (.iconst 1, 1) by decide +kernel) rfl ?_
  refine am_r_callV (as := [am_i v1, am_i v2, am_i (σ.1 101 v8), am_i 1]) (st := []) hc mb_X11_does mv_X11_does (Or.inl ml_X11_435) (ob_91) (by omega) (r := (RX11, TX11, 63)) rfl rfl rfl rfl (Nat.le_of_ble_eq_true rfl) ⟨Nat.le_refl _, Nat.le_refl _⟩ ⟨Nat.le_refl _, Nat.le_refl _⟩ (show decode cX11_adds_ 133 = .ok (.invokevirtual 435, 3) by decide +kernel) ?_
  rintro _ _ ⟨x, σ', rfl, rfl, hq⟩ _
  exact am_x_fg [1, 2] (k x σ' hq)
theorem S_X11_adds__136 {G : am_G} {d : Nat} {Q : Int → am_D → Prop} {σ : am_D} {v3 : Int} {v8 : Int} {v9 : Int} {s0 : Int}  (k : am_X (am_FI G (d + 1) Q) mX11_adds_ (0, 0) 140 [some (am_r (some 91)), none, none, some (am_i v3), none, none, none, none, some (am_i v8), some (am_i v9), none, none, none] [am_i s0] (am_K0, σ)) : am_X (am_FI G (d + 1) Q) mX11_adds_ (0, 0) 136 [some (am_r (some 91)), none, none, some (am_i v3), none, none, none, none, some (am_i v8), some (am_i v9), none, none, none] [am_i s0] (am_K0, σ) := by
  refine am_r_goto (tg := 140) (show decode cX11_adds_ 136 = .ok (.goto 4, 3) by decide +kernel) (by decide) ?_
  exact k
theorem S_X11_adds__139 {G : am_G} {d : Nat} {Q : Int → am_D → Prop} {σ : am_D} {v3 : Int} {v8 : Int} {v9 : Int}  (k : am_X (am_FI G (d + 1) Q) mX11_adds_ (0, 0) 140 [some (am_r (some 91)), none, none, some (am_i v3), none, none, none, none, some (am_i v8), some (am_i v9), none, none, none] [am_i 3] (am_K0, σ)) : am_X (am_FI G (d + 1) Q) mX11_adds_ (0, 0) 139 [some (am_r (some 91)), none, none, some (am_i v3), none, none, none, none, some (am_i v8), some (am_i v9), none, none, none] [] (am_K0, σ) := by
  refine am_r_iconst (nx := 140) (show decode cX11_adds_ 139 = .ok (.iconst 3, 1) by decide +kernel) rfl ?_
  exact k
theorem S_X11_adds__140 {G : am_G} {d : Nat} {Q : Int → am_D → Prop} {σ : am_D} {v3 : Int} {v8 : Int} {v9 : Int} {s0 : Int}  (k : am_X (am_FI G (d + 1) Q) mX11_adds_ (0, 0) 142 [some (am_r (some 91)), none, none, some (am_i v3), none, none, none, none, some (am_i v8), some (am_i v9), some (am_i s0), none, none] [] (am_K0, σ)) : am_X (am_FI G (d + 1) Q) mX11_adds_ (0, 0) 140 [some (am_r (some 91)), none, none, some (am_i v3), none, none, none, none, some (am_i v8), some (am_i v9), none, none, none] [am_i s0] (am_K0, σ) := by
  refine am_r_istore (nx := 142) (by decide) rfl (show decode cX11_adds_ 140 = .ok (.istore 10, 2) by decide +kernel) rfl ?_
  exact k
theorem S_X11_adds__142 {G : am_G} {d : Nat} {Q : Int → am_D → Prop} {σ : am_D} {v3 : Int} {v8 : Int} {v9 : Int} {v10 : Int} (hi1 : 0 ≤ v8) (hj2 : v8 < 648) (k : am_X (am_FI G (d + 1) Q) mX11_adds_ (0, 0) 163 [some (am_r (some 91)), none, none, some (am_i v3), none, none, none, none, none, none, none, some (am_i (((81 * (σ.1 100 v8)) + (9 * v9)) + v10)), none] [] (am_K0, σ)) : am_X (am_FI G (d + 1) Q) mX11_adds_ (0, 0) 142 [some (am_r (some 91)), none, none, some (am_i v3), none, none, none, none, some (am_i v8), some (am_i v9), some (am_i v10), none, none] [] (am_K0, σ) := by
  refine am_r_bipush (nx := 144) rfl (show decode cX11_adds_ 142 = .ok (.bipush 81, 2) by decide +kernel) rfl ?_
  refine am_r_aload_n (nx := 145) rfl rfl (show decode cX11_adds_ 144 = .ok (.aload_n 0, 1) by decide +kernel) rfl ?_
  refine am_r_getF (nx := 148) 14 cw11 (by decide) rfl (Or.inl fl_X11_36) (ob_91) (fn_91_14) (show decode cX11_adds_ 145 = .ok (.getfield 36, 3) by decide +kernel) rfl ?_
  refine am_r_iload (nx := 150) rfl (show decode cX11_adds_ 148 = .ok (.iload 8, 2) by decide +kernel) rfl ?_
  refine am_r_iald (nx := 151) (sh_100) (am_shle (sh_100)) hi1 hj2 (show decode cX11_adds_ 150 = .ok (.iaload, 1) by decide +kernel) rfl ?_
  refine am_r_imul (nx := 152) (show decode cX11_adds_ 151 = .ok (.imul, 1) by decide +kernel) rfl ?_
  refine am_r_bipush (nx := 154) rfl (show decode cX11_adds_ 152 = .ok (.bipush 9, 2) by decide +kernel) rfl ?_
  refine am_r_iload (nx := 156) rfl (show decode cX11_adds_ 154 = .ok (.iload 9, 2) by decide +kernel) rfl ?_
  refine am_r_imul (nx := 157) (show decode cX11_adds_ 156 = .ok (.imul, 1) by decide +kernel) rfl ?_
  refine am_r_iadd (nx := 158) (show decode cX11_adds_ 157 = .ok (.iadd, 1) by decide +kernel) rfl ?_
  refine am_r_iload (nx := 160) rfl (show decode cX11_adds_ 158 = .ok (.iload 10, 2) by decide +kernel) rfl ?_
  refine am_r_iadd (nx := 161) (show decode cX11_adds_ 160 = .ok (.iadd, 1) by decide +kernel) rfl ?_
  refine am_r_istore (nx := 163) (by decide) rfl (show decode cX11_adds_ 161 = .ok (.istore 11, 2) by decide +kernel) rfl ?_
  exact am_x_fg [8, 9, 10] k
theorem S_X11_adds__163 {G : am_G} {d : Nat} {Q : Int → am_D → Prop} {σ : am_D} {v3 : Int} {v11 : Int} (hi1 : 0 ≤ ((243 * v3) + v11)) (hj2 : ((243 * v3) + v11) < 729) (hr3 : -2147483648 ≤ (σ.1 132 ((243 * v3) + v11)) ∧ (σ.1 132 ((243 * v3) + v11)) ≤ 2147483647) (k1 : ¬ (σ.1 132 ((243 * v3) + v11)) = 0 → am_X (am_FI G (d + 1) Q) mX11_adds_ (0, 0) 183 [some (am_r (some 91)), none, none, some (am_i v3), none, none, none, none, none, none, none, some (am_i v11), none] [] (am_K0, σ)) (k2 : ¬ (¬ (σ.1 132 ((243 * v3) + v11)) = 0) → am_X (am_FI G (d + 1) Q) mX11_adds_ (0, 0) 179 [some (am_r (some 91)), none, none, some (am_i v3), none, none, none, none, none, none, none, some (am_i v11), none] [] (am_K0, σ)) : am_X (am_FI G (d + 1) Q) mX11_adds_ (0, 0) 163 [some (am_r (some 91)), none, none, some (am_i v3), none, none, none, none, none, none, none, some (am_i v11), none] [] (am_K0, σ) := by
  refine am_r_aload_n (nx := 164) rfl rfl (show decode cX11_adds_ 163 = .ok (.aload_n 0, 1) by decide +kernel) rfl ?_
  refine am_r_getF (nx := 167) 58 cw11 (by decide) rfl (Or.inl fl_X11_133) (ob_91) (fn_91_58) (show decode cX11_adds_ 164 = .ok (.getfield 133, 3) by decide +kernel) rfl ?_
  refine am_r_sipush (nx := 170) rfl (show decode cX11_adds_ 167 = .ok (.sipush 243, 3) by decide +kernel) rfl ?_
  refine am_r_iload_n (nx := 171) rfl rfl (show decode cX11_adds_ 170 = .ok (.iload_n 3, 1) by decide +kernel) rfl ?_
  refine am_r_imul (nx := 172) (show decode cX11_adds_ 171 = .ok (.imul, 1) by decide +kernel) rfl ?_
  refine am_r_iload (nx := 174) rfl (show decode cX11_adds_ 172 = .ok (.iload 11, 2) by decide +kernel) rfl ?_
  refine am_r_iadd (nx := 175) (show decode cX11_adds_ 174 = .ok (.iadd, 1) by decide +kernel) rfl ?_
  refine am_r_zald (nx := 176) (sh_132) (am_shle (sh_132)) hi1 hj2 (show decode cX11_adds_ 175 = .ok (.baload, 1) by decide +kernel) rfl ?_
  refine am_r_if_ne (tg := 183) (nx := 179) (show decode cX11_adds_ 176 = .ok (.ifCond .ne 7, 3) by decide +kernel) (by decide) rfl hr3 ?_ ?_
  · exact fun q => k1 q
  · exact fun q => k2 q
theorem S_X11_adds__179 {G : am_G} {d : Nat} {Q : Int → am_D → Prop} {σ : am_D} {v3 : Int} {v11 : Int}  (k : am_X (am_FI G (d + 1) Q) mX11_adds_ (0, 0) 184 [some (am_r (some 91)), none, none, some (am_i v3), none, none, none, none, none, none, none, some (am_i v11), none] [am_i 1] (am_K0, σ)) : am_X (am_FI G (d + 1) Q) mX11_adds_ (0, 0) 179 [some (am_r (some 91)), none, none, some (am_i v3), none, none, none, none, none, none, none, some (am_i v11), none] [] (am_K0, σ) := by
  refine am_r_iconst (nx := 180) (show decode cX11_adds_ 179 = .ok (.iconst 1, 1) by decide +kernel) rfl ?_
  refine am_r_goto (tg := 184) (show decode cX11_adds_ 180 = .ok (.goto 4, 3) by decide +kernel) (by decide) ?_
  exact k
theorem S_X11_adds__183 {G : am_G} {d : Nat} {Q : Int → am_D → Prop} {σ : am_D} {v3 : Int} {v11 : Int}  (k : am_X (am_FI G (d + 1) Q) mX11_adds_ (0, 0) 184 [some (am_r (some 91)), none, none, some (am_i v3), none, none, none, none, none, none, none, some (am_i v11), none] [am_i 0] (am_K0, σ)) : am_X (am_FI G (d + 1) Q) mX11_adds_ (0, 0) 183 [some (am_r (some 91)), none, none, some (am_i v3), none, none, none, none, none, none, none, some (am_i v11), none] [] (am_K0, σ) := by
  refine am_r_iconst (nx := 184) (show decode cX11_adds_ 183 = .ok (.iconst 0, 1) by decide +kernel) rfl ?_
  exact k
theorem S_X11_adds__184 {G : am_G} {d : Nat} {Q : Int → am_D → Prop} {σ : am_D} {v3 : Int} {v11 : Int} {s0 : Int}  (k : am_X (am_FI G (d + 1) Q) mX11_adds_ (0, 0) 186 [some (am_r (some 91)), none, none, some (am_i v3), none, none, none, none, none, none, none, some (am_i v11), some (am_i s0)] [] (am_K0, σ)) : am_X (am_FI G (d + 1) Q) mX11_adds_ (0, 0) 184 [some (am_r (some 91)), none, none, some (am_i v3), none, none, none, none, none, none, none, some (am_i v11), none] [am_i s0] (am_K0, σ) := by
  refine am_r_istore (nx := 186) (by decide) rfl (show decode cX11_adds_ 184 = .ok (.istore 12, 2) by decide +kernel) rfl ?_
  exact k
theorem S_X11_adds__186 {G : am_G} {d : Nat} {Q : Int → am_D → Prop} {σ : am_D} {v3 : Int} {v11 : Int} {v12 : Int} (hi1 : 0 ≤ ((243 * v3) + v11)) (hj2 : ((243 * v3) + v11) < 729) (k : am_X (am_FI G (d + 1) Q) mX11_adds_ (0, 0) 200 [none, none, none, none, none, none, none, none, none, none, none, none, some (am_i v12)] [] (am_K0, (am_pI σ 132 ((243 * v3) + v11) 1))) : am_X (am_FI G (d + 1) Q) mX11_adds_ (0, 0) 186 [some (am_r (some 91)), none, none, some (am_i v3), none, none, none, none, none, none, none, some (am_i v11), some (am_i v12)] [] (am_K0, σ) := by
  refine am_r_aload_n (nx := 187) rfl rfl (show decode cX11_adds_ 186 = .ok (.aload_n 0, 1) by decide +kernel) rfl ?_
  refine am_r_getF (nx := 190) 58 cw11 (by decide) rfl (Or.inl fl_X11_133) (ob_91) (fn_91_58) (show decode cX11_adds_ 187 = .ok (.getfield 133, 3) by decide +kernel) rfl ?_
  refine am_r_sipush (nx := 193) rfl (show decode cX11_adds_ 190 = .ok (.sipush 243, 3) by decide +kernel) rfl ?_
  refine am_r_iload_n (nx := 194) rfl rfl (show decode cX11_adds_ 193 = .ok (.iload_n 3, 1) by decide +kernel) rfl ?_
  refine am_r_imul (nx := 195) (show decode cX11_adds_ 194 = .ok (.imul, 1) by decide +kernel) rfl ?_
  refine am_r_iload (nx := 197) rfl (show decode cX11_adds_ 195 = .ok (.iload 11, 2) by decide +kernel) rfl ?_
  refine am_r_iadd (nx := 198) (show decode cX11_adds_ 197 = .ok (.iadd, 1) by decide +kernel) rfl ?_
  refine am_r_iconst (nx := 199) (show decode cX11_adds_ 198 = .ok (.iconst 1, 1) by decide +kernel) rfl ?_
  refine am_r_zast (nx := 200) (sh_132) (am_shle (sh_132)) hi1 hj2 (by omega) (show decode cX11_adds_ 199 = .ok (.bastore, 1) by decide +kernel) rfl ?_
  exact am_x_fg [0, 3, 11] k
theorem S_X11_adds__200 {G : am_G} {d : Nat} {Q : Int → am_D → Prop} {σ : am_D} {v12 : Int} (hz : v12 = 0 ∨ v12 = 1) (k : Q v12 σ) : am_X (am_FI G (d + 1) Q) mX11_adds_ (0, 0) 200 [none, none, none, none, none, none, none, none, none, none, none, none, some (am_i v12)] [] (am_K0, σ) := by
  refine am_r_iload (nx := 202) rfl (show decode cX11_adds_ 200 = .ok (.iload 12, 2) by decide +kernel) rfl ?_
  exact am_r_iret rfl (by rcases hz with hz | hz <;> rw [hz] <;> rfl) (show decode cX11_adds_ 202 = .ok (.ireturn, 1) by decide +kernel) ⟨_, _, rfl, rfl, k⟩
theorem S_X11_goesOn_0 {G : am_G} {d : Nat} {Q : Int → am_D → Prop} {σ : am_D} {v1 : Int} {v2 : Int} {v3 : Int} {v4 : Int}  (k : am_X (am_FI G (d + 1) Q) mX11_goesOn (0, 0) 3 [some (am_r (some 91)), some (am_i v1), some (am_i v2), some (am_i v3), some (am_i v4), some (am_i 0), none, none, none] [] (am_K0, σ)) : am_X (am_FI G (d + 1) Q) mX11_goesOn (0, 0) 0 [some (am_r (some 91)), some (am_i v1), some (am_i v2), some (am_i v3), some (am_i v4), none, none, none, none] [] (am_K0, σ) := by
  refine am_r_iconst (nx := 1) (show decode cX11_goesOn 0 = .ok (.iconst 0, 1) by decide +kernel) rfl ?_
  refine am_r_istore (nx := 3) (by decide) rfl (show decode cX11_goesOn 1 = .ok (.istore 5, 2) by decide +kernel) rfl ?_
  exact k
theorem S_X11_goesOn_3 {G : am_G} {d : Nat} {Q : Int → am_D → Prop} {σ : am_D} {v1 : Int} {v2 : Int} {v3 : Int} {v4 : Int} {v5 : Int}  (k : am_X (am_FI G (d + 1) Q) mX11_goesOn (0, 0) 6 [some (am_r (some 91)), some (am_i v1), some (am_i v2), some (am_i v3), some (am_i v4), some (am_i v5), some (am_i 0), none, none] [] (am_K0, σ)) : am_X (am_FI G (d + 1) Q) mX11_goesOn (0, 0) 3 [some (am_r (some 91)), some (am_i v1), some (am_i v2), some (am_i v3), some (am_i v4), some (am_i v5), none, none, none] [] (am_K0, σ) := by
  refine am_r_iconst (nx := 4) (show decode cX11_goesOn 3 = .ok (.iconst 0, 1) by decide +kernel) rfl ?_
  refine am_r_istore (nx := 6) (by decide) rfl (show decode cX11_goesOn 4 = .ok (.istore 6, 2) by decide +kernel) rfl ?_
  exact k
theorem S_X11_goesOn_6 {G : am_G} {d : Nat} {Q : Int → am_D → Prop} {σ : am_D} {v1 : Int} {v2 : Int} {v3 : Int} {v4 : Int} {v5 : Int} {v6 : Int} (hr1 : -2147483648 ≤ v6 ∧ v6 ≤ 2147483647) (k1 : 3 ≤ v6 → am_X (am_FI G (d + 1) Q) mX11_goesOn (0, 0) 104 [none, none, none, none, none, some (am_i v5), none, none, none] [] (am_K0, σ)) (k2 : ¬ (3 ≤ v6) → am_X (am_FI G (d + 1) Q) mX11_goesOn (0, 0) 12 [some (am_r (some 91)), some (am_i v1), some (am_i v2), some (am_i v3), some (am_i v4), some (am_i v5), some (am_i v6), none, none] [] (am_K0, σ)) : am_X (am_FI G (d + 1) Q) mX11_goesOn (0, 0) 6 [some (am_r (some 91)), some (am_i v1), some (am_i v2), some (am_i v3), some (am_i v4), some (am_i v5), some (am_i v6), none, none] [] (am_K0, σ) := by
  refine am_r_iload (nx := 8) rfl (show decode cX11_goesOn 6 = .ok (.iload 6, 2) by decide +kernel) rfl ?_
  refine am_r_iconst (nx := 9) (show decode cX11_goesOn 8 = .ok (.iconst 3, 1) by decide +kernel) rfl ?_
  refine am_r_icmp_ge (tg := 104) (nx := 12) (show decode cX11_goesOn 9 = .ok (.if_icmp .ge 95, 3) by decide +kernel) (by decide) rfl hr1 (by omega) ?_ ?_
  · exact fun q => am_x_fg [0, 1, 2, 3, 4, 6] (k1 q)
  · exact fun q => k2 q
theorem S_X11_goesOn_12 {G : am_G} {d : Nat} {Q : Int → am_D → Prop} {σ : am_D} {v1 : Int} {v2 : Int} {v3 : Int} {v4 : Int} {v5 : Int} {v6 : Int} {Q' : Int → am_D → Prop} (hr1 : -2147483648 ≤ v4 ∧ v4 ≤ 2147483647) (hc : am_MI G d mX11_openAt [am_i v1, am_i v6, am_i (Int.tdiv v4 81)] σ Q') (k : ∀ (x : Int) (σ' : am_D), Q' x σ' → am_X (am_FI G (d + 1) Q) mX11_goesOn (0, 0) 27 [some (am_r (some 91)), some (am_i v1), some (am_i v2), some (am_i v3), some (am_i v4), some (am_i v5), some (am_i v6), none, none] [am_i x, am_r (some 98)] (am_K0, σ')) : am_X (am_FI G (d + 1) Q) mX11_goesOn (0, 0) 12 [some (am_r (some 91)), some (am_i v1), some (am_i v2), some (am_i v3), some (am_i v4), some (am_i v5), some (am_i v6), none, none] [] (am_K0, σ) := by
  refine am_r_aload_n (nx := 13) rfl rfl (show decode cX11_goesOn 12 = .ok (.aload_n 0, 1) by decide +kernel) rfl ?_
  refine am_r_getF (nx := 16) 12 cw11 (by decide) rfl (Or.inl fl_X11_30) (ob_91) (fn_91_12) (show decode cX11_goesOn 13 = .ok (.getfield 30, 3) by decide +kernel) rfl ?_
  refine am_r_iload_n (nx := 17) rfl rfl (show decode cX11_goesOn 16 = .ok (.iload_n 1, 1) by decide +kernel) rfl ?_
  refine am_r_iload (nx := 19) rfl (show decode cX11_goesOn 17 = .ok (.iload 6, 2) by decide +kernel) rfl ?_
  refine am_r_iload (nx := 21) rfl (show decode cX11_goesOn 19 = .ok (.iload 4, 2) by decide +kernel) rfl ?_
  refine am_r_bipush (nx := 23) rfl (show decode cX11_goesOn 21 = .ok (.bipush 81, 2) by decide +kernel) rfl ?_
  refine am_r_idiv (nx := 24) hr1 (by omega) (show decode cX11_goesOn 23 = .ok (.idiv, 1) by decide +kernel) rfl ?_
  refine am_r_callS (as := [am_i v1, am_i v6, am_i (Int.tdiv v4 81)]) (st := [am_r (some 98)]) hc mb_X11_openAt mv_X11_openAt (Or.inl ml_X11_246) rfl rfl (Nat.le_of_ble_eq_true rfl) ⟨Nat.le_refl _, Nat.le_refl _⟩ ⟨Nat.le_refl _, Nat.le_refl _⟩ (show decode cX11_goesOn 24 = .ok (.invokestatic 246, 3) by decide +kernel) ?_
  rintro _ _ ⟨x, σ', rfl, rfl, hq⟩ _
  exact (k x σ' hq)
theorem S_X11_goesOn_27 {G : am_G} {d : Nat} {Q : Int → am_D → Prop} {σ : am_D} {v1 : Int} {v2 : Int} {v3 : Int} {v4 : Int} {v5 : Int} {v6 : Int} {s1 : Int} {s0 : Nat} {n1 : Nat} (hs2 : am_sh am_SH s0 = (100, n1)) (hi3 : 0 ≤ s1) (hj4 : s1 < ((n1 : Nat) : Int)) (k : am_X (am_FI G (d + 1) Q) mX11_goesOn (0, 0) 30 [some (am_r (some 91)), some (am_i v1), some (am_i v2), some (am_i v3), some (am_i v4), some (am_i v5), some (am_i v6), some (am_i (σ.1 s0 s1)), none] [] (am_K0, σ)) : am_X (am_FI G (d + 1) Q) mX11_goesOn (0, 0) 27 [some (am_r (some 91)), some (am_i v1), some (am_i v2), some (am_i v3), some (am_i v4), some (am_i v5), some (am_i v6), none, none] [am_i s1, am_r (some s0)] (am_K0, σ) := by
  refine am_r_iald (nx := 28) (hs2) (am_shle (hs2)) hi3 hj4 (show decode cX11_goesOn 27 = .ok (.iaload, 1) by decide +kernel) rfl ?_
  refine am_r_istore (nx := 30) (by decide) rfl (show decode cX11_goesOn 28 = .ok (.istore 7, 2) by decide +kernel) rfl ?_
  exact k
theorem S_X11_goesOn_30 {G : am_G} {d : Nat} {Q : Int → am_D → Prop} {σ : am_D} {v1 : Int} {v2 : Int} {v3 : Int} {v4 : Int} {v5 : Int} {v6 : Int} {v7 : Int}  (k : am_X (am_FI G (d + 1) Q) mX11_goesOn (0, 0) 33 [some (am_r (some 91)), some (am_i v1), some (am_i v2), some (am_i v3), some (am_i v4), some (am_i v5), some (am_i v6), some (am_i v7), some (am_i 0)] [] (am_K0, σ)) : am_X (am_FI G (d + 1) Q) mX11_goesOn (0, 0) 30 [some (am_r (some 91)), some (am_i v1), some (am_i v2), some (am_i v3), some (am_i v4), some (am_i v5), some (am_i v6), some (am_i v7), none] [] (am_K0, σ) := by
  refine am_r_iconst (nx := 31) (show decode cX11_goesOn 30 = .ok (.iconst 0, 1) by decide +kernel) rfl ?_
  refine am_r_istore (nx := 33) (by decide) rfl (show decode cX11_goesOn 31 = .ok (.istore 8, 2) by decide +kernel) rfl ?_
  exact k
theorem S_X11_goesOn_33 {G : am_G} {d : Nat} {Q : Int → am_D → Prop} {σ : am_D} {v1 : Int} {v2 : Int} {v3 : Int} {v4 : Int} {v5 : Int} {v6 : Int} {v7 : Int} {v8 : Int} (hr1 : -2147483648 ≤ v8 ∧ v8 ≤ 2147483647) (k1 : 243 ≤ v8 → am_X (am_FI G (d + 1) Q) mX11_goesOn (0, 0) 98 [some (am_r (some 91)), some (am_i v1), some (am_i v2), some (am_i v3), some (am_i v4), some (am_i v5), some (am_i v6), none, none] [] (am_K0, σ)) (k2 : ¬ (243 ≤ v8) → am_X (am_FI G (d + 1) Q) mX11_goesOn (0, 0) 41 [some (am_r (some 91)), some (am_i v1), some (am_i v2), some (am_i v3), some (am_i v4), some (am_i v5), some (am_i v6), some (am_i v7), some (am_i v8)] [] (am_K0, σ)) : am_X (am_FI G (d + 1) Q) mX11_goesOn (0, 0) 33 [some (am_r (some 91)), some (am_i v1), some (am_i v2), some (am_i v3), some (am_i v4), some (am_i v5), some (am_i v6), some (am_i v7), some (am_i v8)] [] (am_K0, σ) := by
  refine am_r_iload (nx := 35) rfl (show decode cX11_goesOn 33 = .ok (.iload 8, 2) by decide +kernel) rfl ?_
  refine am_r_sipush (nx := 38) rfl (show decode cX11_goesOn 35 = .ok (.sipush 243, 3) by decide +kernel) rfl ?_
  refine am_r_icmp_ge (tg := 98) (nx := 41) (show decode cX11_goesOn 38 = .ok (.if_icmp .ge 60, 3) by decide +kernel) (by decide) rfl hr1 (by omega) ?_ ?_
  · exact fun q => am_x_fg [7, 8] (k1 q)
  · exact fun q => k2 q
theorem S_X11_goesOn_41 {G : am_G} {d : Nat} {Q : Int → am_D → Prop} {σ : am_D} {v1 : Int} {v2 : Int} {v3 : Int} {v4 : Int} {v5 : Int} {v6 : Int} {v7 : Int} {v8 : Int} (hr1 : -2147483648 ≤ v7 ∧ v7 ≤ 2147483647) (k1 : v7 = (-1) → am_X (am_FI G (d + 1) Q) mX11_goesOn (0, 0) 98 [some (am_r (some 91)), some (am_i v1), some (am_i v2), some (am_i v3), some (am_i v4), some (am_i v5), some (am_i v6), none, none] [] (am_K0, σ)) (k2 : ¬ (v7 = (-1)) → am_X (am_FI G (d + 1) Q) mX11_goesOn (0, 0) 47 [some (am_r (some 91)), some (am_i v1), some (am_i v2), some (am_i v3), some (am_i v4), some (am_i v5), some (am_i v6), some (am_i v7), some (am_i v8)] [] (am_K0, σ)) : am_X (am_FI G (d + 1) Q) mX11_goesOn (0, 0) 41 [some (am_r (some 91)), some (am_i v1), some (am_i v2), some (am_i v3), some (am_i v4), some (am_i v5), some (am_i v6), some (am_i v7), some (am_i v8)] [] (am_K0, σ) := by
  refine am_r_iload (nx := 43) rfl (show decode cX11_goesOn 41 = .ok (.iload 7, 2) by decide +kernel) rfl ?_
  refine am_r_iconst (nx := 44) (show decode cX11_goesOn 43 = .ok (.iconst (-1), 1) by decide +kernel) rfl ?_
  refine am_r_icmp_eq (tg := 98) (nx := 47) (show decode cX11_goesOn 44 = .ok (.if_icmp .eq 54, 3) by decide +kernel) (by decide) rfl hr1 (by omega) ?_ ?_
  · exact fun q => am_x_fg [7, 8] (k1 q)
  · exact fun q => k2 q
theorem S_X11_goesOn_47 {G : am_G} {d : Nat} {Q : Int → am_D → Prop} {σ : am_D} {v1 : Int} {v2 : Int} {v3 : Int} {v4 : Int} {v5 : Int} {v6 : Int} {v7 : Int} {v8 : Int} (hi1 : 0 ≤ ((243 * v7) + v8)) (hj2 : ((243 * v7) + v8) < 729) (hr3 : -2147483648 ≤ (σ.1 132 ((243 * v7) + v8)) ∧ (σ.1 132 ((243 * v7) + v8)) ≤ 2147483647) (k1 : (σ.1 132 ((243 * v7) + v8)) = 0 → am_X (am_FI G (d + 1) Q) mX11_goesOn (0, 0) 92 [some (am_r (some 91)), some (am_i v1), some (am_i v2), some (am_i v3), some (am_i v4), some (am_i v5), some (am_i v6), some (am_i v7), some (am_i v8)] [] (am_K0, σ)) (k2 : ¬ ((σ.1 132 ((243 * v7) + v8)) = 0) → am_X (am_FI G (d + 1) Q) mX11_goesOn (0, 0) 64 [some (am_r (some 91)), some (am_i v1), some (am_i v2), some (am_i v3), some (am_i v4), some (am_i v5), some (am_i v6), some (am_i v7), some (am_i v8)] [] (am_K0, σ)) : am_X (am_FI G (d + 1) Q) mX11_goesOn (0, 0) 47 [some (am_r (some 91)), some (am_i v1), some (am_i v2), some (am_i v3), some (am_i v4), some (am_i v5), some (am_i v6), some (am_i v7), some (am_i v8)] [] (am_K0, σ) := by
  refine am_r_aload_n (nx := 48) rfl rfl (show decode cX11_goesOn 47 = .ok (.aload_n 0, 1) by decide +kernel) rfl ?_
  refine am_r_getF (nx := 51) 58 cw11 (by decide) rfl (Or.inl fl_X11_133) (ob_91) (fn_91_58) (show decode cX11_goesOn 48 = .ok (.getfield 133, 3) by decide +kernel) rfl ?_
  refine am_r_sipush (nx := 54) rfl (show decode cX11_goesOn 51 = .ok (.sipush 243, 3) by decide +kernel) rfl ?_
  refine am_r_iload (nx := 56) rfl (show decode cX11_goesOn 54 = .ok (.iload 7, 2) by decide +kernel) rfl ?_
  refine am_r_imul (nx := 57) (show decode cX11_goesOn 56 = .ok (.imul, 1) by decide +kernel) rfl ?_
  refine am_r_iload (nx := 59) rfl (show decode cX11_goesOn 57 = .ok (.iload 8, 2) by decide +kernel) rfl ?_
  refine am_r_iadd (nx := 60) (show decode cX11_goesOn 59 = .ok (.iadd, 1) by decide +kernel) rfl ?_
  refine am_r_zald (nx := 61) (sh_132) (am_shle (sh_132)) hi1 hj2 (show decode cX11_goesOn 60 = .ok (.baload, 1) by decide +kernel) rfl ?_
  refine am_r_if_eq (tg := 92) (nx := 64) (show decode cX11_goesOn 61 = .ok (.ifCond .eq 31, 3) by decide +kernel) (by decide) rfl hr3 ?_ ?_
  · exact fun q => k1 q
  · exact fun q => k2 q
theorem S_X11_goesOn_64 {G : am_G} {d : Nat} {Q : Int → am_D → Prop} {σ : am_D} {v1 : Int} {v2 : Int} {v3 : Int} {v4 : Int} {v5 : Int} {v6 : Int} {v7 : Int} {v8 : Int} {Q' : Int → am_D → Prop} (hc : am_MI G d mX11_adds_ [am_r (some 91), am_i v1, am_i v2, am_i v3, am_i v4, am_i v6, am_i v8] σ Q') (k : ∀ (x : Int) (σ' : am_D), Q' x σ' → am_X (am_FI G (d + 1) Q) mX11_goesOn (0, 0) 77 [some (am_r (some 91)), some (am_i v1), some (am_i v2), some (am_i v3), some (am_i v4), some (am_i v5), some (am_i v6), some (am_i v7), some (am_i v8)] [am_i x] (am_K0, σ')) : am_X (am_FI G (d + 1) Q) mX11_goesOn (0, 0) 64 [some (am_r (some 91)), some (am_i v1), some (am_i v2), some (am_i v3), some (am_i v4), some (am_i v5), some (am_i v6), some (am_i v7), some (am_i v8)] [] (am_K0, σ) := by
  refine am_r_aload_n (nx := 65) rfl rfl (show decode cX11_goesOn 64 = .ok (.aload_n 0, 1) by decide +kernel) rfl ?_
  refine am_r_iload_n (nx := 66) rfl rfl (show decode cX11_goesOn 65 = .ok (.iload_n 1, 1) by decide +kernel) rfl ?_
  refine am_r_iload_n (nx := 67) rfl rfl (show decode cX11_goesOn 66 = .ok (.iload_n 2, 1) by decide +kernel) rfl ?_
  refine am_r_iload_n (nx := 68) rfl rfl (show decode cX11_goesOn 67 = .ok (.iload_n 3, 1) by decide +kernel) rfl ?_
  refine am_r_iload (nx := 70) rfl (show decode cX11_goesOn 68 = .ok (.iload 4, 2) by decide +kernel) rfl ?_
  refine am_r_iload (nx := 72) rfl (show decode cX11_goesOn 70 = .ok (.iload 6, 2) by decide +kernel) rfl ?_
  refine am_r_iload (nx := 74) rfl (show decode cX11_goesOn 72 = .ok (.iload 8, 2) by decide +kernel) rfl ?_
  refine am_r_callV (as := [am_i v1, am_i v2, am_i v3, am_i v4, am_i v6, am_i v8]) (st := []) hc mb_X11_adds_ mv_X11_adds_ (Or.inl ml_X11_438) (ob_91) (by omega) (r := (RX11, TX11, 63)) rfl rfl rfl rfl (Nat.le_of_ble_eq_true rfl) ⟨Nat.le_refl _, Nat.le_refl _⟩ ⟨Nat.le_refl _, Nat.le_refl _⟩ (show decode cX11_goesOn 74 = .ok (.invokevirtual 438, 3) by decide +kernel) ?_
  rintro _ _ ⟨x, σ', rfl, rfl, hq⟩ _
  exact (k x σ' hq)
theorem S_X11_goesOn_77 {G : am_G} {d : Nat} {Q : Int → am_D → Prop} {σ : am_D} {v1 : Int} {v2 : Int} {v3 : Int} {v4 : Int} {v5 : Int} {v6 : Int} {v7 : Int} {v8 : Int} {s0 : Int} (hr1 : -2147483648 ≤ s0 ∧ s0 ≤ 2147483647) (k1 : ¬ s0 = 0 → am_X (am_FI G (d + 1) Q) mX11_goesOn (0, 0) 85 [some (am_r (some 91)), some (am_i v1), some (am_i v2), some (am_i v3), some (am_i v4), none, some (am_i v6), some (am_i v7), some (am_i v8)] [] (am_K0, σ)) (k2 : ¬ (¬ s0 = 0) → am_X (am_FI G (d + 1) Q) mX11_goesOn (0, 0) 80 [some (am_r (some 91)), some (am_i v1), some (am_i v2), some (am_i v3), some (am_i v4), some (am_i v5), some (am_i v6), some (am_i v7), some (am_i v8)] [] (am_K0, σ)) : am_X (am_FI G (d + 1) Q) mX11_goesOn (0, 0) 77 [some (am_r (some 91)), some (am_i v1), some (am_i v2), some (am_i v3), some (am_i v4), some (am_i v5), some (am_i v6), some (am_i v7), some (am_i v8)] [am_i s0] (am_K0, σ) := by
  refine am_r_if_ne (tg := 85) (nx := 80) (show decode cX11_goesOn 77 = .ok (.ifCond .ne 8, 3) by decide +kernel) (by decide) rfl hr1 ?_ ?_
  · exact fun q => am_x_fg [5] (k1 q)
  · exact fun q => k2 q
theorem S_X11_goesOn_80 {G : am_G} {d : Nat} {Q : Int → am_D → Prop} {σ : am_D} {v1 : Int} {v2 : Int} {v3 : Int} {v4 : Int} {v5 : Int} {v6 : Int} {v7 : Int} {v8 : Int} (hr1 : -2147483648 ≤ v5 ∧ v5 ≤ 2147483647) (k1 : v5 = 0 → am_X (am_FI G (d + 1) Q) mX11_goesOn (0, 0) 89 [some (am_r (some 91)), some (am_i v1), some (am_i v2), some (am_i v3), some (am_i v4), none, some (am_i v6), some (am_i v7), some (am_i v8)] [] (am_K0, σ)) (k2 : ¬ (v5 = 0) → am_X (am_FI G (d + 1) Q) mX11_goesOn (0, 0) 85 [some (am_r (some 91)), some (am_i v1), some (am_i v2), some (am_i v3), some (am_i v4), none, some (am_i v6), some (am_i v7), some (am_i v8)] [] (am_K0, σ)) : am_X (am_FI G (d + 1) Q) mX11_goesOn (0, 0) 80 [some (am_r (some 91)), some (am_i v1), some (am_i v2), some (am_i v3), some (am_i v4), some (am_i v5), some (am_i v6), some (am_i v7), some (am_i v8)] [] (am_K0, σ) := by
  refine am_r_iload (nx := 82) rfl (show decode cX11_goesOn 80 = .ok (.iload 5, 2) by decide +kernel) rfl ?_
  refine am_r_if_eq (tg := 89) (nx := 85) (show decode cX11_goesOn 82 = .ok (.ifCond .eq 7, 3) by decide +kernel) (by decide) rfl hr1 ?_ ?_
  · exact fun q => am_x_fg [5] (k1 q)
  · exact fun q => am_x_fg [5] (k2 q)
theorem S_X11_goesOn_85 {G : am_G} {d : Nat} {Q : Int → am_D → Prop} {σ : am_D} {v1 : Int} {v2 : Int} {v3 : Int} {v4 : Int} {v6 : Int} {v7 : Int} {v8 : Int}  (k : am_X (am_FI G (d + 1) Q) mX11_goesOn (0, 0) 90 [some (am_r (some 91)), some (am_i v1), some (am_i v2), some (am_i v3), some (am_i v4), none, some (am_i v6), some (am_i v7), some (am_i v8)] [am_i 1] (am_K0, σ)) : am_X (am_FI G (d + 1) Q) mX11_goesOn (0, 0) 85 [some (am_r (some 91)), some (am_i v1), some (am_i v2), some (am_i v3), some (am_i v4), none, some (am_i v6), some (am_i v7), some (am_i v8)] [] (am_K0, σ) := by
  refine am_r_iconst (nx := 86) (show decode cX11_goesOn 85 = .ok (.iconst 1, 1) by decide +kernel) rfl ?_
  refine am_r_goto (tg := 90) (show decode cX11_goesOn 86 = .ok (.goto 4, 3) by decide +kernel) (by decide) ?_
  exact k
theorem S_X11_goesOn_89 {G : am_G} {d : Nat} {Q : Int → am_D → Prop} {σ : am_D} {v1 : Int} {v2 : Int} {v3 : Int} {v4 : Int} {v6 : Int} {v7 : Int} {v8 : Int}  (k : am_X (am_FI G (d + 1) Q) mX11_goesOn (0, 0) 90 [some (am_r (some 91)), some (am_i v1), some (am_i v2), some (am_i v3), some (am_i v4), none, some (am_i v6), some (am_i v7), some (am_i v8)] [am_i 0] (am_K0, σ)) : am_X (am_FI G (d + 1) Q) mX11_goesOn (0, 0) 89 [some (am_r (some 91)), some (am_i v1), some (am_i v2), some (am_i v3), some (am_i v4), none, some (am_i v6), some (am_i v7), some (am_i v8)] [] (am_K0, σ) := by
  refine am_r_iconst (nx := 90) (show decode cX11_goesOn 89 = .ok (.iconst 0, 1) by decide +kernel) rfl ?_
  exact k
theorem S_X11_goesOn_90 {G : am_G} {d : Nat} {Q : Int → am_D → Prop} {σ : am_D} {v1 : Int} {v2 : Int} {v3 : Int} {v4 : Int} {v6 : Int} {v7 : Int} {v8 : Int} {s0 : Int}  (k : am_X (am_FI G (d + 1) Q) mX11_goesOn (0, 0) 92 [some (am_r (some 91)), some (am_i v1), some (am_i v2), some (am_i v3), some (am_i v4), some (am_i s0), some (am_i v6), some (am_i v7), some (am_i v8)] [] (am_K0, σ)) : am_X (am_FI G (d + 1) Q) mX11_goesOn (0, 0) 90 [some (am_r (some 91)), some (am_i v1), some (am_i v2), some (am_i v3), some (am_i v4), none, some (am_i v6), some (am_i v7), some (am_i v8)] [am_i s0] (am_K0, σ) := by
  refine am_r_istore (nx := 92) (by decide) rfl (show decode cX11_goesOn 90 = .ok (.istore 5, 2) by decide +kernel) rfl ?_
  exact k
theorem S_X11_goesOn_92 {G : am_G} {d : Nat} {Q : Int → am_D → Prop} {σ : am_D} {v1 : Int} {v2 : Int} {v3 : Int} {v4 : Int} {v5 : Int} {v6 : Int} {v7 : Int} {v8 : Int}  (k : am_X (am_FI G (d + 1) Q) mX11_goesOn (0, 0) 33 [some (am_r (some 91)), some (am_i v1), some (am_i v2), some (am_i v3), some (am_i v4), some (am_i v5), some (am_i v6), some (am_i v7), some (am_i (v8 + 1))] [] (am_K0, σ)) : am_X (am_FI G (d + 1) Q) mX11_goesOn (0, 0) 92 [some (am_r (some 91)), some (am_i v1), some (am_i v2), some (am_i v3), some (am_i v4), some (am_i v5), some (am_i v6), some (am_i v7), some (am_i v8)] [] (am_K0, σ) := by
  refine am_r_iinc (nx := 95) rfl rfl (show decode cX11_goesOn 92 = .ok (.iinc 8 1, 3) by decide +kernel) rfl ?_
  refine am_r_goto (tg := 33) (show decode cX11_goesOn 95 = .ok (.goto (-62), 3) by decide +kernel) (by decide) ?_
  exact k
theorem S_X11_goesOn_98 {G : am_G} {d : Nat} {Q : Int → am_D → Prop} {σ : am_D} {v1 : Int} {v2 : Int} {v3 : Int} {v4 : Int} {v5 : Int} {v6 : Int}  (k : am_X (am_FI G (d + 1) Q) mX11_goesOn (0, 0) 6 [some (am_r (some 91)), some (am_i v1), some (am_i v2), some (am_i v3), some (am_i v4), some (am_i v5), some (am_i (v6 + 1)), none, none] [] (am_K0, σ)) : am_X (am_FI G (d + 1) Q) mX11_goesOn (0, 0) 98 [some (am_r (some 91)), some (am_i v1), some (am_i v2), some (am_i v3), some (am_i v4), some (am_i v5), some (am_i v6), none, none] [] (am_K0, σ) := by
  refine am_r_iinc (nx := 101) rfl rfl (show decode cX11_goesOn 98 = .ok (.iinc 6 1, 3) by decide +kernel) rfl ?_
  refine am_r_goto (tg := 6) (show decode cX11_goesOn 101 = .ok (.goto (-95), 3) by decide +kernel) (by decide) ?_
  exact k
theorem S_X11_goesOn_104 {G : am_G} {d : Nat} {Q : Int → am_D → Prop} {σ : am_D} {v5 : Int} (hz : v5 = 0 ∨ v5 = 1) (k : Q v5 σ) : am_X (am_FI G (d + 1) Q) mX11_goesOn (0, 0) 104 [none, none, none, none, none, some (am_i v5), none, none, none] [] (am_K0, σ) := by
  refine am_r_iload (nx := 106) rfl (show decode cX11_goesOn 104 = .ok (.iload 5, 2) by decide +kernel) rfl ?_
  exact am_r_iret rfl (by rcases hz with hz | hz <;> rw [hz] <;> rfl) (show decode cX11_goesOn 106 = .ok (.ireturn, 1) by decide +kernel) ⟨_, _, rfl, rfl, k⟩
theorem S_X11_isSpoiltHere_0 {G : am_G} {d : Nat} {Q : Int → am_D → Prop} {σ : am_D} {v1 : Int} {v2 : Int} {v3 : Int} (hr1 : -2147483648 ≤ v3 ∧ v3 ≤ 2147483647) (hi2 : 0 ≤ ((6 * v1) + (Int.tdiv v3 81))) (hj3 : ((6 * v1) + (Int.tdiv v3 81)) < 36) (k : am_X (am_FI G (d + 1) Q) mX11_isSpoiltHere (0, 0) 16 [some (am_r (some 91)), some (am_i v1), some (am_i v2), some (am_i v3), some (am_i (σ.1 102 ((6 * v1) + (Int.tdiv v3 81)))), none] [] (am_K0, σ)) : am_X (am_FI G (d + 1) Q) mX11_isSpoiltHere (0, 0) 0 [some (am_r (some 91)), some (am_i v1), some (am_i v2), some (am_i v3), none, none] [] (am_K0, σ) := by
  refine am_r_aload_n (nx := 1) rfl rfl (show decode cX11_isSpoiltHere 0 = .ok (.aload_n 0, 1) by decide +kernel) rfl ?_
  refine am_r_getF (nx := 4) 16 cw11 (by decide) rfl (Or.inl fl_X11_42) (ob_91) (fn_91_16) (show decode cX11_isSpoiltHere 1 = .ok (.getfield 42, 3) by decide +kernel) rfl ?_
  refine am_r_bipush (nx := 6) rfl (show decode cX11_isSpoiltHere 4 = .ok (.bipush 6, 2) by decide +kernel) rfl ?_
  refine am_r_iload_n (nx := 7) rfl rfl (show decode cX11_isSpoiltHere 6 = .ok (.iload_n 1, 1) by decide +kernel) rfl ?_
  refine am_r_imul (nx := 8) (show decode cX11_isSpoiltHere 7 = .ok (.imul, 1) by decide +kernel) rfl ?_
  refine am_r_iload_n (nx := 9) rfl rfl (show decode cX11_isSpoiltHere 8 = .ok (.iload_n 3, 1) by decide +kernel) rfl ?_
  refine am_r_bipush (nx := 11) rfl (show decode cX11_isSpoiltHere 9 = .ok (.bipush 81, 2) by decide +kernel) rfl ?_
  refine am_r_idiv (nx := 12) hr1 (by omega) (show decode cX11_isSpoiltHere 11 = .ok (.idiv, 1) by decide +kernel) rfl ?_
  refine am_r_iadd (nx := 13) (show decode cX11_isSpoiltHere 12 = .ok (.iadd, 1) by decide +kernel) rfl ?_
  refine am_r_iald (nx := 14) (sh_102) (am_shle (sh_102)) hi2 hj3 (show decode cX11_isSpoiltHere 13 = .ok (.iaload, 1) by decide +kernel) rfl ?_
  refine am_r_istore (nx := 16) (by decide) rfl (show decode cX11_isSpoiltHere 14 = .ok (.istore 4, 2) by decide +kernel) rfl ?_
  exact k
theorem S_X11_isSpoiltHere_16 {G : am_G} {d : Nat} {Q : Int → am_D → Prop} {σ : am_D} {v1 : Int} {v2 : Int} {v3 : Int} {v4 : Int} (hr1 : -2147483648 ≤ v4 ∧ v4 ≤ 2147483647) (k1 : ¬ v4 = (-1) → am_X (am_FI G (d + 1) Q) mX11_isSpoiltHere (0, 0) 24 [some (am_r (some 91)), some (am_i v1), some (am_i v2), some (am_i v3), some (am_i v4), none] [] (am_K0, σ)) (k2 : ¬ (¬ v4 = (-1)) → am_X (am_FI G (d + 1) Q) mX11_isSpoiltHere (0, 0) 22 [none, none, none, none, none, none] [] (am_K0, σ)) : am_X (am_FI G (d + 1) Q) mX11_isSpoiltHere (0, 0) 16 [some (am_r (some 91)), some (am_i v1), some (am_i v2), some (am_i v3), some (am_i v4), none] [] (am_K0, σ) := by
  refine am_r_iload (nx := 18) rfl (show decode cX11_isSpoiltHere 16 = .ok (.iload 4, 2) by decide +kernel) rfl ?_
  refine am_r_iconst (nx := 19) (show decode cX11_isSpoiltHere 18 = .ok (.iconst (-1), 1) by decide +kernel) rfl ?_
  refine am_r_icmp_ne (tg := 24) (nx := 22) (show decode cX11_isSpoiltHere 19 = .ok (.if_icmp .ne 5, 3) by decide +kernel) (by decide) rfl hr1 (by omega) ?_ ?_
  · exact fun q => k1 q
  · exact fun q => am_x_fg [0, 1, 2, 3, 4] (k2 q)
theorem S_X11_isSpoiltHere_22 {G : am_G} {d : Nat} {Q : Int → am_D → Prop} {σ : am_D}   (k : Q 0 σ) : am_X (am_FI G (d + 1) Q) mX11_isSpoiltHere (0, 0) 22 [none, none, none, none, none, none] [] (am_K0, σ) := by
  refine am_r_iconst (nx := 23) (show decode cX11_isSpoiltHere 22 = .ok (.iconst 0, 1) by decide +kernel) rfl ?_
  exact am_r_iret rfl rfl (show decode cX11_isSpoiltHere 23 = .ok (.ireturn, 1) by decide +kernel) ⟨_, _, rfl, rfl, k⟩
theorem S_X11_isSpoiltHere_24 {G : am_G} {d : Nat} {Q : Int → am_D → Prop} {σ : am_D} {v1 : Int} {v2 : Int} {v3 : Int} {v4 : Int} (hr1 : -2147483648 ≤ v3 ∧ v3 ≤ 2147483647) (hr2 : -2147483648 ≤ (Int.tdiv v3 9) ∧ (Int.tdiv v3 9) ≤ 2147483647) (k : am_X (am_FI G (d + 1) Q) mX11_isSpoiltHere (0, 0) 37 [some (am_r (some 91)), some (am_i v1), some (am_i v2), some (am_i v3), some (am_i v4), none] [] (am_K0, (am_pI σ 133 0 (Int.tmod (Int.tdiv v3 9) 9)))) : am_X (am_FI G (d + 1) Q) mX11_isSpoiltHere (0, 0) 24 [some (am_r (some 91)), some (am_i v1), some (am_i v2), some (am_i v3), some (am_i v4), none] [] (am_K0, σ) := by
  refine am_r_aload_n (nx := 25) rfl rfl (show decode cX11_isSpoiltHere 24 = .ok (.aload_n 0, 1) by decide +kernel) rfl ?_
  refine am_r_getF (nx := 28) 59 cw11 (by decide) rfl (Or.inl fl_X11_136) (ob_91) (fn_91_59) (show decode cX11_isSpoiltHere 25 = .ok (.getfield 136, 3) by decide +kernel) rfl ?_
  refine am_r_iconst (nx := 29) (show decode cX11_isSpoiltHere 28 = .ok (.iconst 0, 1) by decide +kernel) rfl ?_
  refine am_r_iload_n (nx := 30) rfl rfl (show decode cX11_isSpoiltHere 29 = .ok (.iload_n 3, 1) by decide +kernel) rfl ?_
  refine am_r_bipush (nx := 32) rfl (show decode cX11_isSpoiltHere 30 = .ok (.bipush 9, 2) by decide +kernel) rfl ?_
  refine am_r_idiv (nx := 33) hr1 (by omega) (show decode cX11_isSpoiltHere 32 = .ok (.idiv, 1) by decide +kernel) rfl ?_
  refine am_r_bipush (nx := 35) rfl (show decode cX11_isSpoiltHere 33 = .ok (.bipush 9, 2) by decide +kernel) rfl ?_
  refine am_r_irem (nx := 36) hr2 (by omega) (show decode cX11_isSpoiltHere 35 = .ok (.irem, 1) by decide +kernel) rfl ?_
  refine am_r_iast (nx := 37) (sh_133) (am_shle (sh_133)) (by omega) (by omega) (show decode cX11_isSpoiltHere 36 = .ok (.iastore, 1) by decide +kernel) rfl ?_
  exact k
theorem S_X11_isSpoiltHere_37 {G : am_G} {d : Nat} {Q : Int → am_D → Prop} {σ : am_D} {v1 : Int} {v2 : Int} {v3 : Int} {v4 : Int} (hr1 : -2147483648 ≤ v3 ∧ v3 ≤ 2147483647) (k : am_X (am_FI G (d + 1) Q) mX11_isSpoiltHere (0, 0) 47 [some (am_r (some 91)), some (am_i v1), some (am_i v2), none, some (am_i v4), none] [] (am_K0, (am_pI σ 133 1 (Int.tmod v3 9)))) : am_X (am_FI G (d + 1) Q) mX11_isSpoiltHere (0, 0) 37 [some (am_r (some 91)), some (am_i v1), some (am_i v2), some (am_i v3), some (am_i v4), none] [] (am_K0, σ) := by
  refine am_r_aload_n (nx := 38) rfl rfl (show decode cX11_isSpoiltHere 37 = .ok (.aload_n 0, 1) by decide +kernel) rfl ?_
  refine am_r_getF (nx := 41) 59 cw11 (by decide) rfl (Or.inl fl_X11_136) (ob_91) (fn_91_59) (show decode cX11_isSpoiltHere 38 = .ok (.getfield 136, 3) by decide +kernel) rfl ?_
  refine am_r_iconst (nx := 42) (show decode cX11_isSpoiltHere 41 = .ok (.iconst 1, 1) by decide +kernel) rfl ?_
  refine am_r_iload_n (nx := 43) rfl rfl (show decode cX11_isSpoiltHere 42 = .ok (.iload_n 3, 1) by decide +kernel) rfl ?_
  refine am_r_bipush (nx := 45) rfl (show decode cX11_isSpoiltHere 43 = .ok (.bipush 9, 2) by decide +kernel) rfl ?_
  refine am_r_irem (nx := 46) hr1 (by omega) (show decode cX11_isSpoiltHere 45 = .ok (.irem, 1) by decide +kernel) rfl ?_
  refine am_r_iast (nx := 47) (sh_133) (am_shle (sh_133)) (by omega) (by omega) (show decode cX11_isSpoiltHere 46 = .ok (.iastore, 1) by decide +kernel) rfl ?_
  exact am_x_fg [3] k
theorem S_X11_isSpoiltHere_47 {G : am_G} {d : Nat} {Q : Int → am_D → Prop} {σ : am_D} {v1 : Int} {v2 : Int} {v4 : Int} {Q' : Int → am_D → Prop} (hc : am_MI G d mX11_does [am_r (some 91), am_i v1, am_i v2, am_i v4, am_i 0] σ Q') (k : ∀ (x : Int) (σ' : am_D), Q' x σ' → am_X (am_FI G (d + 1) Q) mX11_isSpoiltHere (0, 0) 56 [some (am_r (some 91)), none, some (am_i v2), none, none, none] [am_i x] (am_K0, σ')) : am_X (am_FI G (d + 1) Q) mX11_isSpoiltHere (0, 0) 47 [some (am_r (some 91)), some (am_i v1), some (am_i v2), none, some (am_i v4), none] [] (am_K0, σ) := by
  refine am_r_aload_n (nx := 48) rfl rfl (show decode cX11_isSpoiltHere 47 = .ok (.aload_n 0, 1) by decide +kernel) rfl ?_
  refine am_r_iload_n (nx := 49) rfl rfl (show decode cX11_isSpoiltHere 48 = .ok (.iload_n 1, 1) by decide +kernel) rfl ?_
  refine am_r_iload_n (nx := 50) rfl rfl (show decode cX11_isSpoiltHere 49 = .ok (.iload_n 2, 1) by decide +kernel) rfl ?_
  refine am_r_iload (nx := 52) rfl (show decode cX11_isSpoiltHere 50 = .ok (.iload 4, 2) by decide +kernel) rfl ?_
  refine am_r_iconst (nx := 53) (show decode cX11_isSpoiltHere 52 = .ok (.iconst 0, 1) by decide +kernel) rfl ?_
  refine am_r_callV (as := [am_i v1, am_i v2, am_i v4, am_i 0]) (st := []) hc mb_X11_does mv_X11_does (Or.inl ml_X11_435) (ob_91) (by omega) (r := (RX11, TX11, 63)) rfl rfl rfl rfl (Nat.le_of_ble_eq_true rfl) ⟨Nat.le_refl _, Nat.le_refl _⟩ ⟨Nat.le_refl _, Nat.le_refl _⟩ (show decode cX11_isSpoiltHere 53 = .ok (.invokevirtual 435, 3) by decide +kernel) ?_
  rintro _ _ ⟨x, σ', rfl, rfl, hq⟩ _
  exact am_x_fg [1, 4] (k x σ' hq)
theorem S_X11_isSpoiltHere_56 {G : am_G} {d : Nat} {Q : Int → am_D → Prop} {σ : am_D} {v2 : Int} {s0 : Int} {Q' : Int → am_D → Prop} (hc : am_MI G d mX11_by [am_i s0, am_i 0] σ Q') (k : ∀ (x : Int) (σ' : am_D), Q' x σ' → am_X (am_FI G (d + 1) Q) mX11_isSpoiltHere (0, 0) 62 [some (am_r (some 91)), none, some (am_i v2), none, none, some (am_i x)] [] (am_K0, σ')) : am_X (am_FI G (d + 1) Q) mX11_isSpoiltHere (0, 0) 56 [some (am_r (some 91)), none, some (am_i v2), none, none, none] [am_i s0] (am_K0, σ) := by
  refine am_r_iconst (nx := 57) (show decode cX11_isSpoiltHere 56 = .ok (.iconst 0, 1) by decide +kernel) rfl ?_
  refine am_r_callS (as := [am_i s0, am_i 0]) (st := []) hc mb_X11_by mv_X11_by (Or.inl ml_X11_426) rfl rfl (Nat.le_of_ble_eq_true rfl) ⟨Nat.le_refl _, Nat.le_refl _⟩ ⟨Nat.le_refl _, Nat.le_refl _⟩ (show decode cX11_isSpoiltHere 57 = .ok (.invokestatic 426, 3) by decide +kernel) ?_
  rintro _ _ ⟨x, σ', rfl, rfl, hq⟩ _
  refine am_r_istore (nx := 62) (by decide) rfl (show decode cX11_isSpoiltHere 60 = .ok (.istore 5, 2) by decide +kernel) rfl ?_
  exact (k x σ' hq)
theorem S_X11_isSpoiltHere_62 {G : am_G} {d : Nat} {Q : Int → am_D → Prop} {σ : am_D} {v2 : Int} {v5 : Int} (hr1 : -2147483648 ≤ v5 ∧ v5 ≤ 2147483647) (k1 : v5 = 2 → am_X (am_FI G (d + 1) Q) mX11_isSpoiltHere (0, 0) 84 [none, none, none, none, none, none] [] (am_K0, σ)) (k2 : ¬ (v5 = 2) → am_X (am_FI G (d + 1) Q) mX11_isSpoiltHere (0, 0) 68 [some (am_r (some 91)), none, some (am_i v2), none, none, some (am_i v5)] [] (am_K0, σ)) : am_X (am_FI G (d + 1) Q) mX11_isSpoiltHere (0, 0) 62 [some (am_r (some 91)), none, some (am_i v2), none, none, some (am_i v5)] [] (am_K0, σ) := by
  refine am_r_iload (nx := 64) rfl (show decode cX11_isSpoiltHere 62 = .ok (.iload 5, 2) by decide +kernel) rfl ?_
  refine am_r_iconst (nx := 65) (show decode cX11_isSpoiltHere 64 = .ok (.iconst 2, 1) by decide +kernel) rfl ?_
  refine am_r_icmp_eq (tg := 84) (nx := 68) (show decode cX11_isSpoiltHere 65 = .ok (.if_icmp .eq 19, 3) by decide +kernel) (by decide) rfl hr1 (by omega) ?_ ?_
  · exact fun q => am_x_fg [0, 2, 5] (k1 q)
  · exact fun q => k2 q
theorem S_X11_isSpoiltHere_68 {G : am_G} {d : Nat} {Q : Int → am_D → Prop} {σ : am_D} {v2 : Int} {v5 : Int} (hi1 : 0 ≤ ((6 * v2) + v5)) (hj2 : ((6 * v2) + v5) < 36) (hr3 : -2147483648 ≤ (σ.1 102 ((6 * v2) + v5)) ∧ (σ.1 102 ((6 * v2) + v5)) ≤ 2147483647) (k1 : ¬ (σ.1 102 ((6 * v2) + v5)) = (-1) → am_X (am_FI G (d + 1) Q) mX11_isSpoiltHere (0, 0) 88 [none, none, none, none, none, none] [] (am_K0, σ)) (k2 : ¬ (¬ (σ.1 102 ((6 * v2) + v5)) = (-1)) → am_X (am_FI G (d + 1) Q) mX11_isSpoiltHere (0, 0) 84 [none, none, none, none, none, none] [] (am_K0, σ)) : am_X (am_FI G (d + 1) Q) mX11_isSpoiltHere (0, 0) 68 [some (am_r (some 91)), none, some (am_i v2), none, none, some (am_i v5)] [] (am_K0, σ) := by
  refine am_r_aload_n (nx := 69) rfl rfl (show decode cX11_isSpoiltHere 68 = .ok (.aload_n 0, 1) by decide +kernel) rfl ?_
  refine am_r_getF (nx := 72) 16 cw11 (by decide) rfl (Or.inl fl_X11_42) (ob_91) (fn_91_16) (show decode cX11_isSpoiltHere 69 = .ok (.getfield 42, 3) by decide +kernel) rfl ?_
  refine am_r_bipush (nx := 74) rfl (show decode cX11_isSpoiltHere 72 = .ok (.bipush 6, 2) by decide +kernel) rfl ?_
  refine am_r_iload_n (nx := 75) rfl rfl (show decode cX11_isSpoiltHere 74 = .ok (.iload_n 2, 1) by decide +kernel) rfl ?_
  refine am_r_imul (nx := 76) (show decode cX11_isSpoiltHere 75 = .ok (.imul, 1) by decide +kernel) rfl ?_
  refine am_r_iload (nx := 78) rfl (show decode cX11_isSpoiltHere 76 = .ok (.iload 5, 2) by decide +kernel) rfl ?_
  refine am_r_iadd (nx := 79) (show decode cX11_isSpoiltHere 78 = .ok (.iadd, 1) by decide +kernel) rfl ?_
  refine am_r_iald (nx := 80) (sh_102) (am_shle (sh_102)) hi1 hj2 (show decode cX11_isSpoiltHere 79 = .ok (.iaload, 1) by decide +kernel) rfl ?_
  refine am_r_iconst (nx := 81) (show decode cX11_isSpoiltHere 80 = .ok (.iconst (-1), 1) by decide +kernel) rfl ?_
  refine am_r_icmp_ne (tg := 88) (nx := 84) (show decode cX11_isSpoiltHere 81 = .ok (.if_icmp .ne 7, 3) by decide +kernel) (by decide) rfl hr3 (by omega) ?_ ?_
  · exact fun q => am_x_fg [0, 2, 5] (k1 q)
  · exact fun q => am_x_fg [0, 2, 5] (k2 q)
theorem S_X11_isSpoiltHere_84 {G : am_G} {d : Nat} {Q : Int → am_D → Prop} {σ : am_D}   (k : am_X (am_FI G (d + 1) Q) mX11_isSpoiltHere (0, 0) 89 [none, none, none, none, none, none] [am_i 1] (am_K0, σ)) : am_X (am_FI G (d + 1) Q) mX11_isSpoiltHere (0, 0) 84 [none, none, none, none, none, none] [] (am_K0, σ) := by
  refine am_r_iconst (nx := 85) (show decode cX11_isSpoiltHere 84 = .ok (.iconst 1, 1) by decide +kernel) rfl ?_
  refine am_r_goto (tg := 89) (show decode cX11_isSpoiltHere 85 = .ok (.goto 4, 3) by decide +kernel) (by decide) ?_
  exact k
theorem S_X11_isSpoiltHere_88 {G : am_G} {d : Nat} {Q : Int → am_D → Prop} {σ : am_D}   (k : am_X (am_FI G (d + 1) Q) mX11_isSpoiltHere (0, 0) 89 [none, none, none, none, none, none] [am_i 0] (am_K0, σ)) : am_X (am_FI G (d + 1) Q) mX11_isSpoiltHere (0, 0) 88 [none, none, none, none, none, none] [] (am_K0, σ) := by
  refine am_r_iconst (nx := 89) (show decode cX11_isSpoiltHere 88 = .ok (.iconst 0, 1) by decide +kernel) rfl ?_
  exact k
theorem S_X11_isSpoiltHere_89 {G : am_G} {d : Nat} {Q : Int → am_D → Prop} {σ : am_D} {s0 : Int} (hz : s0 = 0 ∨ s0 = 1) (k : Q s0 σ) : am_X (am_FI G (d + 1) Q) mX11_isSpoiltHere (0, 0) 89 [none, none, none, none, none, none] [am_i s0] (am_K0, σ) := by
  exact am_r_iret rfl (by rcases hz with hz | hz <;> rw [hz] <;> rfl) (show decode cX11_isSpoiltHere 89 = .ok (.ireturn, 1) by decide +kernel) ⟨_, _, rfl, rfl, k⟩
theorem S_X11_safe_0 {G : am_G} {d : Nat} {Q : Int → am_D → Prop} {σ : am_D} {v1 : Int} {v2 : Int} {Q' : Int → am_D → Prop} (hc : am_MI G d mX11_isMachine [am_r (some 91), am_i v1] σ Q') (k : ∀ (x : Int) (σ' : am_D), Q' x σ' → am_X (am_FI G (d + 1) Q) mX11_safe (0, 0) 5 [some (am_r (some 91)), some (am_i v1), some (am_i v2), none, none, none] [am_i x] (am_K0, σ')) : am_X (am_FI G (d + 1) Q) mX11_safe (0, 0) 0 [some (am_r (some 91)), some (am_i v1), some (am_i v2), none, none, none] [] (am_K0, σ) := by
  refine am_r_aload_n (nx := 1) rfl rfl (show decode cX11_safe 0 = .ok (.aload_n 0, 1) by decide +kernel) rfl ?_
  refine am_r_iload_n (nx := 2) rfl rfl (show decode cX11_safe 1 = .ok (.iload_n 1, 1) by decide +kernel) rfl ?_
  refine am_r_callV (as := [am_i v1]) (st := []) hc mb_X11_isMachine mv_X11_isMachine (Or.inl ml_X11_307) (ob_91) (by omega) (r := (RX11, TX11, 63)) rfl rfl rfl rfl (Nat.le_of_ble_eq_true rfl) ⟨Nat.le_refl _, Nat.le_refl _⟩ ⟨Nat.le_refl _, Nat.le_refl _⟩ (show decode cX11_safe 2 = .ok (.invokevirtual 307, 3) by decide +kernel) ?_
  rintro _ _ ⟨x, σ', rfl, rfl, hq⟩ _
  exact (k x σ' hq)
theorem S_X11_safe_5 {G : am_G} {d : Nat} {Q : Int → am_D → Prop} {σ : am_D} {v1 : Int} {v2 : Int} {s0 : Int} (hr1 : -2147483648 ≤ s0 ∧ s0 ≤ 2147483647) (k1 : s0 = 0 → am_X (am_FI G (d + 1) Q) mX11_safe (0, 0) 46 [none, none, none, none, none, none] [] (am_K0, σ)) (k2 : ¬ (s0 = 0) → am_X (am_FI G (d + 1) Q) mX11_safe (0, 0) 8 [some (am_r (some 91)), some (am_i v1), some (am_i v2), none, none, none] [] (am_K0, σ)) : am_X (am_FI G (d + 1) Q) mX11_safe (0, 0) 5 [some (am_r (some 91)), some (am_i v1), some (am_i v2), none, none, none] [am_i s0] (am_K0, σ) := by
  refine am_r_if_eq (tg := 46) (nx := 8) (show decode cX11_safe 5 = .ok (.ifCond .eq 41, 3) by decide +kernel) (by decide) rfl hr1 ?_ ?_
  · exact fun q => am_x_fg [0, 1, 2] (k1 q)
  · exact fun q => k2 q
theorem S_X11_safe_8 {G : am_G} {d : Nat} {Q : Int → am_D → Prop} {σ : am_D} {v1 : Int} {v2 : Int} {Q' : Int → am_D → Prop} (hc : am_MI G d mX11_isMachine [am_r (some 91), am_i v2] σ Q') (k : ∀ (x : Int) (σ' : am_D), Q' x σ' → am_X (am_FI G (d + 1) Q) mX11_safe (0, 0) 13 [some (am_r (some 91)), some (am_i v1), some (am_i v2), none, none, none] [am_i x] (am_K0, σ')) : am_X (am_FI G (d + 1) Q) mX11_safe (0, 0) 8 [some (am_r (some 91)), some (am_i v1), some (am_i v2), none, none, none] [] (am_K0, σ) := by
  refine am_r_aload_n (nx := 9) rfl rfl (show decode cX11_safe 8 = .ok (.aload_n 0, 1) by decide +kernel) rfl ?_
  refine am_r_iload_n (nx := 10) rfl rfl (show decode cX11_safe 9 = .ok (.iload_n 2, 1) by decide +kernel) rfl ?_
  refine am_r_callV (as := [am_i v2]) (st := []) hc mb_X11_isMachine mv_X11_isMachine (Or.inl ml_X11_307) (ob_91) (by omega) (r := (RX11, TX11, 63)) rfl rfl rfl rfl (Nat.le_of_ble_eq_true rfl) ⟨Nat.le_refl _, Nat.le_refl _⟩ ⟨Nat.le_refl _, Nat.le_refl _⟩ (show decode cX11_safe 10 = .ok (.invokevirtual 307, 3) by decide +kernel) ?_
  rintro _ _ ⟨x, σ', rfl, rfl, hq⟩ _
  exact (k x σ' hq)
theorem S_X11_safe_13 {G : am_G} {d : Nat} {Q : Int → am_D → Prop} {σ : am_D} {v1 : Int} {v2 : Int} {s0 : Int} (hr1 : -2147483648 ≤ s0 ∧ s0 ≤ 2147483647) (k1 : s0 = 0 → am_X (am_FI G (d + 1) Q) mX11_safe (0, 0) 46 [none, none, none, none, none, none] [] (am_K0, σ)) (k2 : ¬ (s0 = 0) → am_X (am_FI G (d + 1) Q) mX11_safe (0, 0) 16 [some (am_r (some 91)), some (am_i v1), some (am_i v2), none, none, none] [] (am_K0, σ)) : am_X (am_FI G (d + 1) Q) mX11_safe (0, 0) 13 [some (am_r (some 91)), some (am_i v1), some (am_i v2), none, none, none] [am_i s0] (am_K0, σ) := by
  refine am_r_if_eq (tg := 46) (nx := 16) (show decode cX11_safe 13 = .ok (.ifCond .eq 33, 3) by decide +kernel) (by decide) rfl hr1 ?_ ?_
  · exact fun q => am_x_fg [0, 1, 2] (k1 q)
  · exact fun q => k2 q
theorem S_X11_safe_16 {G : am_G} {d : Nat} {Q : Int → am_D → Prop} {σ : am_D} {v1 : Int} {v2 : Int} (hi1 : 0 ≤ v1) (hj2 : v1 < 6) (hr3 : -2147483648 ≤ (σ.1 94 v1) ∧ (σ.1 94 v1) ≤ 2147483647) (k1 : 3 < (σ.1 94 v1) → am_X (am_FI G (d + 1) Q) mX11_safe (0, 0) 46 [none, none, none, none, none, none] [] (am_K0, σ)) (k2 : ¬ (3 < (σ.1 94 v1)) → am_X (am_FI G (d + 1) Q) mX11_safe (0, 0) 26 [some (am_r (some 91)), some (am_i v1), some (am_i v2), none, none, none] [] (am_K0, σ)) : am_X (am_FI G (d + 1) Q) mX11_safe (0, 0) 16 [some (am_r (some 91)), some (am_i v1), some (am_i v2), none, none, none] [] (am_K0, σ) := by
  refine am_r_aload_n (nx := 17) rfl rfl (show decode cX11_safe 16 = .ok (.aload_n 0, 1) by decide +kernel) rfl ?_
  refine am_r_getF (nx := 20) 8 cw11 (by decide) rfl (Or.inl fl_X11_17) (ob_91) (fn_91_8) (show decode cX11_safe 17 = .ok (.getfield 17, 3) by decide +kernel) rfl ?_
  refine am_r_iload_n (nx := 21) rfl rfl (show decode cX11_safe 20 = .ok (.iload_n 1, 1) by decide +kernel) rfl ?_
  refine am_r_iald (nx := 22) (sh_94) (am_shle (sh_94)) hi1 hj2 (show decode cX11_safe 21 = .ok (.iaload, 1) by decide +kernel) rfl ?_
  refine am_r_iconst (nx := 23) (show decode cX11_safe 22 = .ok (.iconst 3, 1) by decide +kernel) rfl ?_
  refine am_r_icmp_gt (tg := 46) (nx := 26) (show decode cX11_safe 23 = .ok (.if_icmp .gt 23, 3) by decide +kernel) (by decide) rfl hr3 (by omega) ?_ ?_
  · exact fun q => am_x_fg [0, 1, 2] (k1 q)
  · exact fun q => k2 q
theorem S_X11_safe_26 {G : am_G} {d : Nat} {Q : Int → am_D → Prop} {σ : am_D} {v1 : Int} {v2 : Int} (hi1 : 0 ≤ v1) (hj2 : v1 < 6) (hr3 : -2147483648 ≤ (σ.1 95 v1) ∧ (σ.1 95 v1) ≤ 2147483647) (k1 : 2 < (σ.1 95 v1) → am_X (am_FI G (d + 1) Q) mX11_safe (0, 0) 46 [none, none, none, none, none, none] [] (am_K0, σ)) (k2 : ¬ (2 < (σ.1 95 v1)) → am_X (am_FI G (d + 1) Q) mX11_safe (0, 0) 36 [some (am_r (some 91)), some (am_i v1), some (am_i v2), none, none, none] [] (am_K0, σ)) : am_X (am_FI G (d + 1) Q) mX11_safe (0, 0) 26 [some (am_r (some 91)), some (am_i v1), some (am_i v2), none, none, none] [] (am_K0, σ) := by
  refine am_r_aload_n (nx := 27) rfl rfl (show decode cX11_safe 26 = .ok (.aload_n 0, 1) by decide +kernel) rfl ?_
  refine am_r_getF (nx := 30) 9 cw11 (by decide) rfl (Or.inl fl_X11_21) (ob_91) (fn_91_9) (show decode cX11_safe 27 = .ok (.getfield 21, 3) by decide +kernel) rfl ?_
  refine am_r_iload_n (nx := 31) rfl rfl (show decode cX11_safe 30 = .ok (.iload_n 1, 1) by decide +kernel) rfl ?_
  refine am_r_iald (nx := 32) (sh_95) (am_shle (sh_95)) hi1 hj2 (show decode cX11_safe 31 = .ok (.iaload, 1) by decide +kernel) rfl ?_
  refine am_r_iconst (nx := 33) (show decode cX11_safe 32 = .ok (.iconst 2, 1) by decide +kernel) rfl ?_
  refine am_r_icmp_gt (tg := 46) (nx := 36) (show decode cX11_safe 33 = .ok (.if_icmp .gt 13, 3) by decide +kernel) (by decide) rfl hr3 (by omega) ?_ ?_
  · exact fun q => am_x_fg [0, 1, 2] (k1 q)
  · exact fun q => k2 q
theorem S_X11_safe_36 {G : am_G} {d : Nat} {Q : Int → am_D → Prop} {σ : am_D} {v1 : Int} {v2 : Int} (hi1 : 0 ≤ v2) (hj2 : v2 < 6) (hr3 : -2147483648 ≤ (σ.1 94 v2) ∧ (σ.1 94 v2) ≤ 2147483647) (k1 : (σ.1 94 v2) ≤ 2 → am_X (am_FI G (d + 1) Q) mX11_safe (0, 0) 48 [some (am_r (some 91)), some (am_i v1), some (am_i v2), none, none, none] [] (am_K0, σ)) (k2 : ¬ ((σ.1 94 v2) ≤ 2) → am_X (am_FI G (d + 1) Q) mX11_safe (0, 0) 46 [none, none, none, none, none, none] [] (am_K0, σ)) : am_X (am_FI G (d + 1) Q) mX11_safe (0, 0) 36 [some (am_r (some 91)), some (am_i v1), some (am_i v2), none, none, none] [] (am_K0, σ) := by
  refine am_r_aload_n (nx := 37) rfl rfl (show decode cX11_safe 36 = .ok (.aload_n 0, 1) by decide +kernel) rfl ?_
  refine am_r_getF (nx := 40) 8 cw11 (by decide) rfl (Or.inl fl_X11_17) (ob_91) (fn_91_8) (show decode cX11_safe 37 = .ok (.getfield 17, 3) by decide +kernel) rfl ?_
  refine am_r_iload_n (nx := 41) rfl rfl (show decode cX11_safe 40 = .ok (.iload_n 2, 1) by decide +kernel) rfl ?_
  refine am_r_iald (nx := 42) (sh_94) (am_shle (sh_94)) hi1 hj2 (show decode cX11_safe 41 = .ok (.iaload, 1) by decide +kernel) rfl ?_
  refine am_r_iconst (nx := 43) (show decode cX11_safe 42 = .ok (.iconst 2, 1) by decide +kernel) rfl ?_
  refine am_r_icmp_le (tg := 48) (nx := 46) (show decode cX11_safe 43 = .ok (.if_icmp .le 5, 3) by decide +kernel) (by decide) rfl hr3 (by omega) ?_ ?_
  · exact fun q => k1 q
  · exact fun q => am_x_fg [0, 1, 2] (k2 q)
theorem S_X11_safe_46 {G : am_G} {d : Nat} {Q : Int → am_D → Prop} {σ : am_D}   (k : Q (-1) σ) : am_X (am_FI G (d + 1) Q) mX11_safe (0, 0) 46 [none, none, none, none, none, none] [] (am_K0, σ) := by
  refine am_r_iconst (nx := 47) (show decode cX11_safe 46 = .ok (.iconst (-1), 1) by decide +kernel) rfl ?_
  exact am_r_iret rfl rfl (show decode cX11_safe 47 = .ok (.ireturn, 1) by decide +kernel) ⟨_, _, rfl, rfl, k⟩
theorem S_X11_safe_48 {G : am_G} {d : Nat} {Q : Int → am_D → Prop} {σ : am_D} {v1 : Int} {v2 : Int}  (k : am_X (am_FI G (d + 1) Q) mX11_safe (0, 0) 50 [some (am_r (some 91)), some (am_i v1), some (am_i v2), some (am_i 0), none, none] [] (am_K0, σ)) : am_X (am_FI G (d + 1) Q) mX11_safe (0, 0) 48 [some (am_r (some 91)), some (am_i v1), some (am_i v2), none, none, none] [] (am_K0, σ) := by
  refine am_r_iconst (nx := 49) (show decode cX11_safe 48 = .ok (.iconst 0, 1) by decide +kernel) rfl ?_
  refine am_r_istore_n (nx := 50) rfl (by decide) rfl (show decode cX11_safe 49 = .ok (.istore_n 3, 1) by decide +kernel) rfl ?_
  exact k
theorem S_X11_safe_50 {G : am_G} {d : Nat} {Q : Int → am_D → Prop} {σ : am_D} {v1 : Int} {v2 : Int} {v3 : Int} (hr1 : -2147483648 ≤ v3 ∧ v3 ≤ 2147483647) (k1 : 729 ≤ v3 → am_X (am_FI G (d + 1) Q) mX11_safe (0, 0) 93 [some (am_r (some 91)), some (am_i v1), some (am_i v2), none, none, none] [] (am_K0, σ)) (k2 : ¬ (729 ≤ v3) → am_X (am_FI G (d + 1) Q) mX11_safe (0, 0) 57 [some (am_r (some 91)), some (am_i v1), some (am_i v2), some (am_i v3), none, none] [] (am_K0, σ)) : am_X (am_FI G (d + 1) Q) mX11_safe (0, 0) 50 [some (am_r (some 91)), some (am_i v1), some (am_i v2), some (am_i v3), none, none] [] (am_K0, σ) := by
  refine am_r_iload_n (nx := 51) rfl rfl (show decode cX11_safe 50 = .ok (.iload_n 3, 1) by decide +kernel) rfl ?_
  refine am_r_sipush (nx := 54) rfl (show decode cX11_safe 51 = .ok (.sipush 729, 3) by decide +kernel) rfl ?_
  refine am_r_icmp_ge (tg := 93) (nx := 57) (show decode cX11_safe 54 = .ok (.if_icmp .ge 39, 3) by decide +kernel) (by decide) rfl hr1 (by omega) ?_ ?_
  · exact fun q => am_x_fg [3] (k1 q)
  · exact fun q => k2 q
theorem S_X11_safe_57 {G : am_G} {d : Nat} {Q : Int → am_D → Prop} {σ : am_D} {v1 : Int} {v2 : Int} {v3 : Int} (hr1 : -2147483648 ≤ v3 ∧ v3 ≤ 2147483647) (hr2 : -2147483648 ≤ (Int.tmod v3 243) ∧ (Int.tmod v3 243) ≤ 2147483647) (hr3 : -2147483648 ≤ ((81 * (Int.tdiv v3 243)) + 30) ∧ ((81 * (Int.tdiv v3 243)) + 30) ≤ 2147483647) (k1 : ¬ (Int.tmod v3 243) = ((81 * (Int.tdiv v3 243)) + 30) → am_X (am_FI G (d + 1) Q) mX11_safe (0, 0) 85 [some (am_r (some 91)), some (am_i v1), some (am_i v2), some (am_i v3), none, none] [am_i v3, am_r (some 132)] (am_K0, σ)) (k2 : ¬ (¬ (Int.tmod v3 243) = ((81 * (Int.tdiv v3 243)) + 30)) → am_X (am_FI G (d + 1) Q) mX11_safe (0, 0) 81 [some (am_r (some 91)), some (am_i v1), some (am_i v2), some (am_i v3), none, none] [am_i v3, am_r (some 132)] (am_K0, σ)) : am_X (am_FI G (d + 1) Q) mX11_safe (0, 0) 57 [some (am_r (some 91)), some (am_i v1), some (am_i v2), some (am_i v3), none, none] [] (am_K0, σ) := by
  refine am_r_aload_n (nx := 58) rfl rfl (show decode cX11_safe 57 = .ok (.aload_n 0, 1) by decide +kernel) rfl ?_
  refine am_r_getF (nx := 61) 58 cw11 (by decide) rfl (Or.inl fl_X11_133) (ob_91) (fn_91_58) (show decode cX11_safe 58 = .ok (.getfield 133, 3) by decide +kernel) rfl ?_
  refine am_r_iload_n (nx := 62) rfl rfl (show decode cX11_safe 61 = .ok (.iload_n 3, 1) by decide +kernel) rfl ?_
  refine am_r_iload_n (nx := 63) rfl rfl (show decode cX11_safe 62 = .ok (.iload_n 3, 1) by decide +kernel) rfl ?_
  refine am_r_sipush (nx := 66) rfl (show decode cX11_safe 63 = .ok (.sipush 243, 3) by decide +kernel) rfl ?_
  refine am_r_irem (nx := 67) hr1 (by omega) (show decode cX11_safe 66 = .ok (.irem, 1) by decide +kernel) rfl ?_
  refine am_r_bipush (nx := 69) rfl (show decode cX11_safe 67 = .ok (.bipush 81, 2) by decide +kernel) rfl ?_
  refine am_r_iload_n (nx := 70) rfl rfl (show decode cX11_safe 69 = .ok (.iload_n 3, 1) by decide +kernel) rfl ?_
  refine am_r_sipush (nx := 73) rfl (show decode cX11_safe 70 = .ok (.sipush 243, 3) by decide +kernel) rfl ?_
  refine am_r_idiv (nx := 74) hr1 (by omega) (show decode cX11_safe 73 = .ok (.idiv, 1) by decide +kernel) rfl ?_
  refine am_r_imul (nx := 75) (show decode cX11_safe 74 = .ok (.imul, 1) by decide +kernel) rfl ?_
  refine am_r_bipush (nx := 77) rfl (show decode cX11_safe 75 = .ok (.bipush 30, 2) by decide +kernel) rfl ?_
  refine am_r_iadd (nx := 78) (show decode cX11_safe 77 = .ok (.iadd, 1) by decide +kernel) rfl ?_
  refine am_r_icmp_ne (tg := 85) (nx := 81) (show decode cX11_safe 78 = .ok (.if_icmp .ne 7, 3) by decide +kernel) (by decide) rfl hr2 hr3 ?_ ?_
  · exact fun q => k1 q
  · exact fun q => k2 q
theorem S_X11_safe_81 {G : am_G} {d : Nat} {Q : Int → am_D → Prop} {σ : am_D} {v1 : Int} {v2 : Int} {v3 : Int} {s1 : Int} {s0 : Option Nat}  (k : am_X (am_FI G (d + 1) Q) mX11_safe (0, 0) 86 [some (am_r (some 91)), some (am_i v1), some (am_i v2), some (am_i v3), none, none] [am_i 1, am_i s1, am_r s0] (am_K0, σ)) : am_X (am_FI G (d + 1) Q) mX11_safe (0, 0) 81 [some (am_r (some 91)), some (am_i v1), some (am_i v2), some (am_i v3), none, none] [am_i s1, am_r s0] (am_K0, σ) := by
  refine am_r_iconst (nx := 82) (show decode cX11_safe 81 = .ok (.iconst 1, 1) by decide +kernel) rfl ?_
  refine am_r_goto (tg := 86) (show decode cX11_safe 82 = .ok (.goto 4, 3) by decide +kernel) (by decide) ?_
  exact k
theorem S_X11_safe_85 {G : am_G} {d : Nat} {Q : Int → am_D → Prop} {σ : am_D} {v1 : Int} {v2 : Int} {v3 : Int} {s1 : Int} {s0 : Option Nat}  (k : am_X (am_FI G (d + 1) Q) mX11_safe (0, 0) 86 [some (am_r (some 91)), some (am_i v1), some (am_i v2), some (am_i v3), none, none] [am_i 0, am_i s1, am_r s0] (am_K0, σ)) : am_X (am_FI G (d + 1) Q) mX11_safe (0, 0) 85 [some (am_r (some 91)), some (am_i v1), some (am_i v2), some (am_i v3), none, none] [am_i s1, am_r s0] (am_K0, σ) := by
  refine am_r_iconst (nx := 86) (show decode cX11_safe 85 = .ok (.iconst 0, 1) by decide +kernel) rfl ?_
  exact k
theorem S_X11_safe_86 {G : am_G} {d : Nat} {Q : Int → am_D → Prop} {σ : am_D} {v1 : Int} {v2 : Int} {v3 : Int} {s1 : Int} {s2 : Int} {s0 : Nat} {n1 : Nat} (hs2 : am_sh am_SH s0 = (101, n1)) (hi3 : 0 ≤ s1) (hj4 : s1 < ((n1 : Nat) : Int)) (k : am_X (am_FI G (d + 1) Q) mX11_safe (0, 0) 87 [some (am_r (some 91)), some (am_i v1), some (am_i v2), some (am_i v3), none, none] [] (am_K0, (am_pI σ s0 s1 (am_i2b s2)))) : am_X (am_FI G (d + 1) Q) mX11_safe (0, 0) 86 [some (am_r (some 91)), some (am_i v1), some (am_i v2), some (am_i v3), none, none] [am_i s2, am_i s1, am_r (some s0)] (am_K0, σ) := by
  refine am_r_bast (nx := 87) (hs2) (am_shle (hs2)) hi3 hj4 (show decode cX11_safe 86 = .ok (.bastore, 1) by decide +kernel) rfl ?_
  exact k
theorem S_X11_safe_87 {G : am_G} {d : Nat} {Q : Int → am_D → Prop} {σ : am_D} {v1 : Int} {v2 : Int} {v3 : Int}  (k : am_X (am_FI G (d + 1) Q) mX11_safe (0, 0) 50 [some (am_r (some 91)), some (am_i v1), some (am_i v2), some (am_i (v3 + 1)), none, none] [] (am_K0, σ)) : am_X (am_FI G (d + 1) Q) mX11_safe (0, 0) 87 [some (am_r (some 91)), some (am_i v1), some (am_i v2), some (am_i v3), none, none] [] (am_K0, σ) := by
  refine am_r_iinc (nx := 90) rfl rfl (show decode cX11_safe 87 = .ok (.iinc 3 1, 3) by decide +kernel) rfl ?_
  refine am_r_goto (tg := 50) (show decode cX11_safe 90 = .ok (.goto (-40), 3) by decide +kernel) (by decide) ?_
  exact k
theorem S_X11_safe_93 {G : am_G} {d : Nat} {Q : Int → am_D → Prop} {σ : am_D} {v1 : Int} {v2 : Int}  (k : am_X (am_FI G (d + 1) Q) mX11_safe (0, 0) 95 [some (am_r (some 91)), some (am_i v1), some (am_i v2), some (am_i 1), none, none] [] (am_K0, σ)) : am_X (am_FI G (d + 1) Q) mX11_safe (0, 0) 93 [some (am_r (some 91)), some (am_i v1), some (am_i v2), none, none, none] [] (am_K0, σ) := by
  refine am_r_iconst (nx := 94) (show decode cX11_safe 93 = .ok (.iconst 1, 1) by decide +kernel) rfl ?_
  refine am_r_istore_n (nx := 95) rfl (by decide) rfl (show decode cX11_safe 94 = .ok (.istore_n 3, 1) by decide +kernel) rfl ?_
  exact k
theorem S_X11_safe_95 {G : am_G} {d : Nat} {Q : Int → am_D → Prop} {σ : am_D} {v1 : Int} {v2 : Int} {v3 : Int} (hr1 : -2147483648 ≤ v3 ∧ v3 ≤ 2147483647) (k1 : v3 = 0 → am_X (am_FI G (d + 1) Q) mX11_safe (0, 0) 181 [some (am_r (some 91)), some (am_i v1), some (am_i v2), none, none, none] [] (am_K0, σ)) (k2 : ¬ (v3 = 0) → am_X (am_FI G (d + 1) Q) mX11_safe (0, 0) 99 [some (am_r (some 91)), some (am_i v1), some (am_i v2), none, none, none] [] (am_K0, σ)) : am_X (am_FI G (d + 1) Q) mX11_safe (0, 0) 95 [some (am_r (some 91)), some (am_i v1), some (am_i v2), some (am_i v3), none, none] [] (am_K0, σ) := by
  refine am_r_iload_n (nx := 96) rfl rfl (show decode cX11_safe 95 = .ok (.iload_n 3, 1) by decide +kernel) rfl ?_
  refine am_r_if_eq (tg := 181) (nx := 99) (show decode cX11_safe 96 = .ok (.ifCond .eq 85, 3) by decide +kernel) (by decide) rfl hr1 ?_ ?_
  · exact fun q => am_x_fg [3] (k1 q)
  · exact fun q => am_x_fg [3] (k2 q)
theorem S_X11_safe_99 {G : am_G} {d : Nat} {Q : Int → am_D → Prop} {σ : am_D} {v1 : Int} {v2 : Int}  (k : am_X (am_FI G (d + 1) Q) mX11_safe (0, 0) 101 [some (am_r (some 91)), some (am_i v1), some (am_i v2), some (am_i 0), none, none] [] (am_K0, σ)) : am_X (am_FI G (d + 1) Q) mX11_safe (0, 0) 99 [some (am_r (some 91)), some (am_i v1), some (am_i v2), none, none, none] [] (am_K0, σ) := by
  refine am_r_iconst (nx := 100) (show decode cX11_safe 99 = .ok (.iconst 0, 1) by decide +kernel) rfl ?_
  refine am_r_istore_n (nx := 101) rfl (by decide) rfl (show decode cX11_safe 100 = .ok (.istore_n 3, 1) by decide +kernel) rfl ?_
  exact k
theorem S_X11_safe_101 {G : am_G} {d : Nat} {Q : Int → am_D → Prop} {σ : am_D} {v1 : Int} {v2 : Int} {v3 : Int}  (k : am_X (am_FI G (d + 1) Q) mX11_safe (0, 0) 104 [some (am_r (some 91)), some (am_i v1), some (am_i v2), some (am_i v3), some (am_i 0), none] [] (am_K0, σ)) : am_X (am_FI G (d + 1) Q) mX11_safe (0, 0) 101 [some (am_r (some 91)), some (am_i v1), some (am_i v2), some (am_i v3), none, none] [] (am_K0, σ) := by
  refine am_r_iconst (nx := 102) (show decode cX11_safe 101 = .ok (.iconst 0, 1) by decide +kernel) rfl ?_
  refine am_r_istore (nx := 104) (by decide) rfl (show decode cX11_safe 102 = .ok (.istore 4, 2) by decide +kernel) rfl ?_
  exact k
theorem S_X11_safe_104 {G : am_G} {d : Nat} {Q : Int → am_D → Prop} {σ : am_D} {v1 : Int} {v2 : Int} {v3 : Int} {v4 : Int} (hi1 : 0 ≤ v1) (hj2 : v1 < 6) (hr3 : -2147483648 ≤ v4 ∧ v4 ≤ 2147483647) (hr4 : -2147483648 ≤ (σ.1 94 v1) ∧ (σ.1 94 v1) ≤ 2147483647) (k1 : (σ.1 94 v1) ≤ v4 → am_X (am_FI G (d + 1) Q) mX11_safe (0, 0) 178 [some (am_r (some 91)), some (am_i v1), some (am_i v2), some (am_i v3), none, none] [] (am_K0, σ)) (k2 : ¬ ((σ.1 94 v1) ≤ v4) → am_X (am_FI G (d + 1) Q) mX11_safe (0, 0) 115 [some (am_r (some 91)), some (am_i v1), some (am_i v2), some (am_i v3), some (am_i v4), none] [] (am_K0, σ)) : am_X (am_FI G (d + 1) Q) mX11_safe (0, 0) 104 [some (am_r (some 91)), some (am_i v1), some (am_i v2), some (am_i v3), some (am_i v4), none] [] (am_K0, σ) := by
  refine am_r_iload (nx := 106) rfl (show decode cX11_safe 104 = .ok (.iload 4, 2) by decide +kernel) rfl ?_
  refine am_r_aload_n (nx := 107) rfl rfl (show decode cX11_safe 106 = .ok (.aload_n 0, 1) by decide +kernel) rfl ?_
  refine am_r_getF (nx := 110) 8 cw11 (by decide) rfl (Or.inl fl_X11_17) (ob_91) (fn_91_8) (show decode cX11_safe 107 = .ok (.getfield 17, 3) by decide +kernel) rfl ?_
  refine am_r_iload_n (nx := 111) rfl rfl (show decode cX11_safe 110 = .ok (.iload_n 1, 1) by decide +kernel) rfl ?_
  refine am_r_iald (nx := 112) (sh_94) (am_shle (sh_94)) hi1 hj2 (show decode cX11_safe 111 = .ok (.iaload, 1) by decide +kernel) rfl ?_
  refine am_r_icmp_ge (tg := 178) (nx := 115) (show decode cX11_safe 112 = .ok (.if_icmp .ge 66, 3) by decide +kernel) (by decide) rfl hr3 hr4 ?_ ?_
  · exact fun q => am_x_fg [4] (k1 q)
  · exact fun q => k2 q
theorem S_X11_safe_115 {G : am_G} {d : Nat} {Q : Int → am_D → Prop} {σ : am_D} {v1 : Int} {v2 : Int} {v3 : Int} {v4 : Int}  (k : am_X (am_FI G (d + 1) Q) mX11_safe (0, 0) 118 [some (am_r (some 91)), some (am_i v1), some (am_i v2), some (am_i v3), some (am_i v4), some (am_i 0)] [] (am_K0, σ)) : am_X (am_FI G (d + 1) Q) mX11_safe (0, 0) 115 [some (am_r (some 91)), some (am_i v1), some (am_i v2), some (am_i v3), some (am_i v4), none] [] (am_K0, σ) := by
  refine am_r_iconst (nx := 116) (show decode cX11_safe 115 = .ok (.iconst 0, 1) by decide +kernel) rfl ?_
  refine am_r_istore (nx := 118) (by decide) rfl (show decode cX11_safe 116 = .ok (.istore 5, 2) by decide +kernel) rfl ?_
  exact k
theorem S_X11_safe_118 {G : am_G} {d : Nat} {Q : Int → am_D → Prop} {σ : am_D} {v1 : Int} {v2 : Int} {v3 : Int} {v4 : Int} {v5 : Int} (hr1 : -2147483648 ≤ v5 ∧ v5 ≤ 2147483647) (k1 : 243 ≤ v5 → am_X (am_FI G (d + 1) Q) mX11_safe (0, 0) 172 [some (am_r (some 91)), some (am_i v1), some (am_i v2), some (am_i v3), some (am_i v4), none] [] (am_K0, σ)) (k2 : ¬ (243 ≤ v5) → am_X (am_FI G (d + 1) Q) mX11_safe (0, 0) 126 [some (am_r (some 91)), some (am_i v1), some (am_i v2), some (am_i v3), some (am_i v4), some (am_i v5)] [] (am_K0, σ)) : am_X (am_FI G (d + 1) Q) mX11_safe (0, 0) 118 [some (am_r (some 91)), some (am_i v1), some (am_i v2), some (am_i v3), some (am_i v4), some (am_i v5)] [] (am_K0, σ) := by
  refine am_r_iload (nx := 120) rfl (show decode cX11_safe 118 = .ok (.iload 5, 2) by decide +kernel) rfl ?_
  refine am_r_sipush (nx := 123) rfl (show decode cX11_safe 120 = .ok (.sipush 243, 3) by decide +kernel) rfl ?_
  refine am_r_icmp_ge (tg := 172) (nx := 126) (show decode cX11_safe 123 = .ok (.if_icmp .ge 49, 3) by decide +kernel) (by decide) rfl hr1 (by omega) ?_ ?_
  · exact fun q => am_x_fg [5] (k1 q)
  · exact fun q => k2 q
theorem S_X11_safe_126 {G : am_G} {d : Nat} {Q : Int → am_D → Prop} {σ : am_D} {v1 : Int} {v2 : Int} {v3 : Int} {v4 : Int} {v5 : Int} (hi1 : 0 ≤ ((243 * v4) + v5)) (hj2 : ((243 * v4) + v5) < 729) (hr3 : -2147483648 ≤ (σ.1 132 ((243 * v4) + v5)) ∧ (σ.1 132 ((243 * v4) + v5)) ≤ 2147483647) (k1 : (σ.1 132 ((243 * v4) + v5)) = 0 → am_X (am_FI G (d + 1) Q) mX11_safe (0, 0) 166 [some (am_r (some 91)), some (am_i v1), some (am_i v2), some (am_i v3), some (am_i v4), some (am_i v5)] [] (am_K0, σ)) (k2 : ¬ ((σ.1 132 ((243 * v4) + v5)) = 0) → am_X (am_FI G (d + 1) Q) mX11_safe (0, 0) 143 [some (am_r (some 91)), some (am_i v1), some (am_i v2), some (am_i v3), some (am_i v4), some (am_i v5)] [] (am_K0, σ)) : am_X (am_FI G (d + 1) Q) mX11_safe (0, 0) 126 [some (am_r (some 91)), some (am_i v1), some (am_i v2), some (am_i v3), some (am_i v4), some (am_i v5)] [] (am_K0, σ) := by
  refine am_r_aload_n (nx := 127) rfl rfl (show decode cX11_safe 126 = .ok (.aload_n 0, 1) by decide +kernel) rfl ?_
  refine am_r_getF (nx := 130) 58 cw11 (by decide) rfl (Or.inl fl_X11_133) (ob_91) (fn_91_58) (show decode cX11_safe 127 = .ok (.getfield 133, 3) by decide +kernel) rfl ?_
  refine am_r_sipush (nx := 133) rfl (show decode cX11_safe 130 = .ok (.sipush 243, 3) by decide +kernel) rfl ?_
  refine am_r_iload (nx := 135) rfl (show decode cX11_safe 133 = .ok (.iload 4, 2) by decide +kernel) rfl ?_
  refine am_r_imul (nx := 136) (show decode cX11_safe 135 = .ok (.imul, 1) by decide +kernel) rfl ?_
  refine am_r_iload (nx := 138) rfl (show decode cX11_safe 136 = .ok (.iload 5, 2) by decide +kernel) rfl ?_
  refine am_r_iadd (nx := 139) (show decode cX11_safe 138 = .ok (.iadd, 1) by decide +kernel) rfl ?_
  refine am_r_zald (nx := 140) (sh_132) (am_shle (sh_132)) hi1 hj2 (show decode cX11_safe 139 = .ok (.baload, 1) by decide +kernel) rfl ?_
  refine am_r_if_eq (tg := 166) (nx := 143) (show decode cX11_safe 140 = .ok (.ifCond .eq 26, 3) by decide +kernel) (by decide) rfl hr3 ?_ ?_
  · exact fun q => k1 q
  · exact fun q => k2 q
theorem S_X11_safe_143 {G : am_G} {d : Nat} {Q : Int → am_D → Prop} {σ : am_D} {v1 : Int} {v2 : Int} {v3 : Int} {v4 : Int} {v5 : Int} {Q' : Int → am_D → Prop} (hc : am_MI G d mX11_goesOn [am_r (some 91), am_i v1, am_i v2, am_i v4, am_i v5] σ Q') (k : ∀ (x : Int) (σ' : am_D), Q' x σ' → am_X (am_FI G (d + 1) Q) mX11_safe (0, 0) 153 [some (am_r (some 91)), some (am_i v1), some (am_i v2), some (am_i v3), some (am_i v4), some (am_i v5)] [am_i x] (am_K0, σ')) : am_X (am_FI G (d + 1) Q) mX11_safe (0, 0) 143 [some (am_r (some 91)), some (am_i v1), some (am_i v2), some (am_i v3), some (am_i v4), some (am_i v5)] [] (am_K0, σ) := by
  refine am_r_aload_n (nx := 144) rfl rfl (show decode cX11_safe 143 = .ok (.aload_n 0, 1) by decide +kernel) rfl ?_
  refine am_r_iload_n (nx := 145) rfl rfl (show decode cX11_safe 144 = .ok (.iload_n 1, 1) by decide +kernel) rfl ?_
  refine am_r_iload_n (nx := 146) rfl rfl (show decode cX11_safe 145 = .ok (.iload_n 2, 1) by decide +kernel) rfl ?_
  refine am_r_iload (nx := 148) rfl (show decode cX11_safe 146 = .ok (.iload 4, 2) by decide +kernel) rfl ?_
  refine am_r_iload (nx := 150) rfl (show decode cX11_safe 148 = .ok (.iload 5, 2) by decide +kernel) rfl ?_
  refine am_r_callV (as := [am_i v1, am_i v2, am_i v4, am_i v5]) (st := []) hc mb_X11_goesOn mv_X11_goesOn (Or.inl ml_X11_441) (ob_91) (by omega) (r := (RX11, TX11, 63)) rfl rfl rfl rfl (Nat.le_of_ble_eq_true rfl) ⟨Nat.le_refl _, Nat.le_refl _⟩ ⟨Nat.le_refl _, Nat.le_refl _⟩ (show decode cX11_safe 150 = .ok (.invokevirtual 441, 3) by decide +kernel) ?_
  rintro _ _ ⟨x, σ', rfl, rfl, hq⟩ _
  exact (k x σ' hq)
theorem S_X11_safe_153 {G : am_G} {d : Nat} {Q : Int → am_D → Prop} {σ : am_D} {v1 : Int} {v2 : Int} {v3 : Int} {v4 : Int} {v5 : Int} {s0 : Int} (hr1 : -2147483648 ≤ s0 ∧ s0 ≤ 2147483647) (k1 : ¬ s0 = 0 → am_X (am_FI G (d + 1) Q) mX11_safe (0, 0) 160 [some (am_r (some 91)), some (am_i v1), some (am_i v2), none, some (am_i v4), some (am_i v5)] [] (am_K0, σ)) (k2 : ¬ (¬ s0 = 0) → am_X (am_FI G (d + 1) Q) mX11_safe (0, 0) 156 [some (am_r (some 91)), some (am_i v1), some (am_i v2), some (am_i v3), some (am_i v4), some (am_i v5)] [] (am_K0, σ)) : am_X (am_FI G (d + 1) Q) mX11_safe (0, 0) 153 [some (am_r (some 91)), some (am_i v1), some (am_i v2), some (am_i v3), some (am_i v4), some (am_i v5)] [am_i s0] (am_K0, σ) := by
  refine am_r_if_ne (tg := 160) (nx := 156) (show decode cX11_safe 153 = .ok (.ifCond .ne 7, 3) by decide +kernel) (by decide) rfl hr1 ?_ ?_
  · exact fun q => am_x_fg [3] (k1 q)
  · exact fun q => k2 q
theorem S_X11_safe_156 {G : am_G} {d : Nat} {Q : Int → am_D → Prop} {σ : am_D} {v1 : Int} {v2 : Int} {v3 : Int} {v4 : Int} {v5 : Int} (hr1 : -2147483648 ≤ v3 ∧ v3 ≤ 2147483647) (k1 : v3 = 0 → am_X (am_FI G (d + 1) Q) mX11_safe (0, 0) 164 [some (am_r (some 91)), some (am_i v1), some (am_i v2), none, some (am_i v4), some (am_i v5)] [] (am_K0, σ)) (k2 : ¬ (v3 = 0) → am_X (am_FI G (d + 1) Q) mX11_safe (0, 0) 160 [some (am_r (some 91)), some (am_i v1), some (am_i v2), none, some (am_i v4), some (am_i v5)] [] (am_K0, σ)) : am_X (am_FI G (d + 1) Q) mX11_safe (0, 0) 156 [some (am_r (some 91)), some (am_i v1), some (am_i v2), some (am_i v3), some (am_i v4), some (am_i v5)] [] (am_K0, σ) := by
  refine am_r_iload_n (nx := 157) rfl rfl (show decode cX11_safe 156 = .ok (.iload_n 3, 1) by decide +kernel) rfl ?_
  refine am_r_if_eq (tg := 164) (nx := 160) (show decode cX11_safe 157 = .ok (.ifCond .eq 7, 3) by decide +kernel) (by decide) rfl hr1 ?_ ?_
  · exact fun q => am_x_fg [3] (k1 q)
  · exact fun q => am_x_fg [3] (k2 q)
theorem S_X11_safe_160 {G : am_G} {d : Nat} {Q : Int → am_D → Prop} {σ : am_D} {v1 : Int} {v2 : Int} {v4 : Int} {v5 : Int}  (k : am_X (am_FI G (d + 1) Q) mX11_safe (0, 0) 165 [some (am_r (some 91)), some (am_i v1), some (am_i v2), none, some (am_i v4), some (am_i v5)] [am_i 1] (am_K0, σ)) : am_X (am_FI G (d + 1) Q) mX11_safe (0, 0) 160 [some (am_r (some 91)), some (am_i v1), some (am_i v2), none, some (am_i v4), some (am_i v5)] [] (am_K0, σ) := by
  refine am_r_iconst (nx := 161) (show decode cX11_safe 160 = .ok (.iconst 1, 1) by decide +kernel) rfl ?_
  refine am_r_goto (tg := 165) (show decode cX11_safe 161 = .ok (.goto 4, 3) by decide +kernel) (by decide) ?_
  exact k
theorem S_X11_safe_164 {G : am_G} {d : Nat} {Q : Int → am_D → Prop} {σ : am_D} {v1 : Int} {v2 : Int} {v4 : Int} {v5 : Int}  (k : am_X (am_FI G (d + 1) Q) mX11_safe (0, 0) 165 [some (am_r (some 91)), some (am_i v1), some (am_i v2), none, some (am_i v4), some (am_i v5)] [am_i 0] (am_K0, σ)) : am_X (am_FI G (d + 1) Q) mX11_safe (0, 0) 164 [some (am_r (some 91)), some (am_i v1), some (am_i v2), none, some (am_i v4), some (am_i v5)] [] (am_K0, σ) := by
  refine am_r_iconst (nx := 165) (show decode cX11_safe 164 = .ok (.iconst 0, 1) by decide +kernel) rfl ?_
  exact k
theorem S_X11_safe_165 {G : am_G} {d : Nat} {Q : Int → am_D → Prop} {σ : am_D} {v1 : Int} {v2 : Int} {v4 : Int} {v5 : Int} {s0 : Int}  (k : am_X (am_FI G (d + 1) Q) mX11_safe (0, 0) 166 [some (am_r (some 91)), some (am_i v1), some (am_i v2), some (am_i s0), some (am_i v4), some (am_i v5)] [] (am_K0, σ)) : am_X (am_FI G (d + 1) Q) mX11_safe (0, 0) 165 [some (am_r (some 91)), some (am_i v1), some (am_i v2), none, some (am_i v4), some (am_i v5)] [am_i s0] (am_K0, σ) := by
  refine am_r_istore_n (nx := 166) rfl (by decide) rfl (show decode cX11_safe 165 = .ok (.istore_n 3, 1) by decide +kernel) rfl ?_
  exact k
theorem S_X11_safe_166 {G : am_G} {d : Nat} {Q : Int → am_D → Prop} {σ : am_D} {v1 : Int} {v2 : Int} {v3 : Int} {v4 : Int} {v5 : Int}  (k : am_X (am_FI G (d + 1) Q) mX11_safe (0, 0) 118 [some (am_r (some 91)), some (am_i v1), some (am_i v2), some (am_i v3), some (am_i v4), some (am_i (v5 + 1))] [] (am_K0, σ)) : am_X (am_FI G (d + 1) Q) mX11_safe (0, 0) 166 [some (am_r (some 91)), some (am_i v1), some (am_i v2), some (am_i v3), some (am_i v4), some (am_i v5)] [] (am_K0, σ) := by
  refine am_r_iinc (nx := 169) rfl rfl (show decode cX11_safe 166 = .ok (.iinc 5 1, 3) by decide +kernel) rfl ?_
  refine am_r_goto (tg := 118) (show decode cX11_safe 169 = .ok (.goto (-51), 3) by decide +kernel) (by decide) ?_
  exact k
theorem S_X11_safe_172 {G : am_G} {d : Nat} {Q : Int → am_D → Prop} {σ : am_D} {v1 : Int} {v2 : Int} {v3 : Int} {v4 : Int}  (k : am_X (am_FI G (d + 1) Q) mX11_safe (0, 0) 104 [some (am_r (some 91)), some (am_i v1), some (am_i v2), some (am_i v3), some (am_i (v4 + 1)), none] [] (am_K0, σ)) : am_X (am_FI G (d + 1) Q) mX11_safe (0, 0) 172 [some (am_r (some 91)), some (am_i v1), some (am_i v2), some (am_i v3), some (am_i v4), none] [] (am_K0, σ) := by
  refine am_r_iinc (nx := 175) rfl rfl (show decode cX11_safe 172 = .ok (.iinc 4 1, 3) by decide +kernel) rfl ?_
  refine am_r_goto (tg := 104) (show decode cX11_safe 175 = .ok (.goto (-71), 3) by decide +kernel) (by decide) ?_
  exact k
theorem S_X11_safe_178 {G : am_G} {d : Nat} {Q : Int → am_D → Prop} {σ : am_D} {v1 : Int} {v2 : Int} {v3 : Int}  (k : am_X (am_FI G (d + 1) Q) mX11_safe (0, 0) 95 [some (am_r (some 91)), some (am_i v1), some (am_i v2), some (am_i v3), none, none] [] (am_K0, σ)) : am_X (am_FI G (d + 1) Q) mX11_safe (0, 0) 178 [some (am_r (some 91)), some (am_i v1), some (am_i v2), some (am_i v3), none, none] [] (am_K0, σ) := by
  refine am_r_goto (tg := 95) (show decode cX11_safe 178 = .ok (.goto (-83), 3) by decide +kernel) (by decide) ?_
  exact k
theorem S_X11_safe_181 {G : am_G} {d : Nat} {Q : Int → am_D → Prop} {σ : am_D} {v1 : Int} {v2 : Int}  (k : am_X (am_FI G (d + 1) Q) mX11_safe (0, 0) 184 [some (am_r (some 91)), some (am_i v1), some (am_i v2), none, some (am_i 0), none] [] (am_K0, σ)) : am_X (am_FI G (d + 1) Q) mX11_safe (0, 0) 181 [some (am_r (some 91)), some (am_i v1), some (am_i v2), none, none, none] [] (am_K0, σ) := by
  refine am_r_iconst (nx := 182) (show decode cX11_safe 181 = .ok (.iconst 0, 1) by decide +kernel) rfl ?_
  refine am_r_istore (nx := 184) (by decide) rfl (show decode cX11_safe 182 = .ok (.istore 4, 2) by decide +kernel) rfl ?_
  exact k
theorem S_X11_safe_184 {G : am_G} {d : Nat} {Q : Int → am_D → Prop} {σ : am_D} {v1 : Int} {v2 : Int} {v4 : Int} (hr1 : -2147483648 ≤ v4 ∧ v4 ≤ 2147483647) (k1 : 243 ≤ v4 → am_X (am_FI G (d + 1) Q) mX11_safe (0, 0) 221 [none, none, none, none, none, none] [] (am_K0, σ)) (k2 : ¬ (243 ≤ v4) → am_X (am_FI G (d + 1) Q) mX11_safe (0, 0) 192 [some (am_r (some 91)), some (am_i v1), some (am_i v2), none, some (am_i v4), none] [] (am_K0, σ)) : am_X (am_FI G (d + 1) Q) mX11_safe (0, 0) 184 [some (am_r (some 91)), some (am_i v1), some (am_i v2), none, some (am_i v4), none] [] (am_K0, σ) := by
  refine am_r_iload (nx := 186) rfl (show decode cX11_safe 184 = .ok (.iload 4, 2) by decide +kernel) rfl ?_
  refine am_r_sipush (nx := 189) rfl (show decode cX11_safe 186 = .ok (.sipush 243, 3) by decide +kernel) rfl ?_
  refine am_r_icmp_ge (tg := 221) (nx := 192) (show decode cX11_safe 189 = .ok (.if_icmp .ge 32, 3) by decide +kernel) (by decide) rfl hr1 (by omega) ?_ ?_
  · exact fun q => am_x_fg [0, 1, 2, 4] (k1 q)
  · exact fun q => k2 q
theorem S_X11_safe_192 {G : am_G} {d : Nat} {Q : Int → am_D → Prop} {σ : am_D} {v1 : Int} {v2 : Int} {v4 : Int} (hi1 : 0 ≤ v4) (hj2 : v4 < 729) (hr3 : -2147483648 ≤ (σ.1 132 v4) ∧ (σ.1 132 v4) ≤ 2147483647) (k1 : (σ.1 132 v4) = 0 → am_X (am_FI G (d + 1) Q) mX11_safe (0, 0) 215 [some (am_r (some 91)), some (am_i v1), some (am_i v2), none, some (am_i v4), none] [] (am_K0, σ)) (k2 : ¬ ((σ.1 132 v4) = 0) → am_X (am_FI G (d + 1) Q) mX11_safe (0, 0) 202 [some (am_r (some 91)), some (am_i v1), some (am_i v2), none, some (am_i v4), none] [] (am_K0, σ)) : am_X (am_FI G (d + 1) Q) mX11_safe (0, 0) 192 [some (am_r (some 91)), some (am_i v1), some (am_i v2), none, some (am_i v4), none] [] (am_K0, σ) := by
  refine am_r_aload_n (nx := 193) rfl rfl (show decode cX11_safe 192 = .ok (.aload_n 0, 1) by decide +kernel) rfl ?_
  refine am_r_getF (nx := 196) 58 cw11 (by decide) rfl (Or.inl fl_X11_133) (ob_91) (fn_91_58) (show decode cX11_safe 193 = .ok (.getfield 133, 3) by decide +kernel) rfl ?_
  refine am_r_iload (nx := 198) rfl (show decode cX11_safe 196 = .ok (.iload 4, 2) by decide +kernel) rfl ?_
  refine am_r_zald (nx := 199) (sh_132) (am_shle (sh_132)) hi1 hj2 (show decode cX11_safe 198 = .ok (.baload, 1) by decide +kernel) rfl ?_
  refine am_r_if_eq (tg := 215) (nx := 202) (show decode cX11_safe 199 = .ok (.ifCond .eq 16, 3) by decide +kernel) (by decide) rfl hr3 ?_ ?_
  · exact fun q => k1 q
  · exact fun q => k2 q
theorem S_X11_safe_202 {G : am_G} {d : Nat} {Q : Int → am_D → Prop} {σ : am_D} {v1 : Int} {v2 : Int} {v4 : Int} {Q' : Int → am_D → Prop} (hc : am_MI G d mX11_isSpoiltHere [am_r (some 91), am_i v1, am_i v2, am_i v4] σ Q') (k : ∀ (x : Int) (σ' : am_D), Q' x σ' → am_X (am_FI G (d + 1) Q) mX11_safe (0, 0) 210 [some (am_r (some 91)), some (am_i v1), some (am_i v2), none, some (am_i v4), none] [am_i x] (am_K0, σ')) : am_X (am_FI G (d + 1) Q) mX11_safe (0, 0) 202 [some (am_r (some 91)), some (am_i v1), some (am_i v2), none, some (am_i v4), none] [] (am_K0, σ) := by
  refine am_r_aload_n (nx := 203) rfl rfl (show decode cX11_safe 202 = .ok (.aload_n 0, 1) by decide +kernel) rfl ?_
  refine am_r_iload_n (nx := 204) rfl rfl (show decode cX11_safe 203 = .ok (.iload_n 1, 1) by decide +kernel) rfl ?_
  refine am_r_iload_n (nx := 205) rfl rfl (show decode cX11_safe 204 = .ok (.iload_n 2, 1) by decide +kernel) rfl ?_
  refine am_r_iload (nx := 207) rfl (show decode cX11_safe 205 = .ok (.iload 4, 2) by decide +kernel) rfl ?_
  refine am_r_callV (as := [am_i v1, am_i v2, am_i v4]) (st := []) hc mb_X11_isSpoiltHere mv_X11_isSpoiltHere (Or.inl ml_X11_444) (ob_91) (by omega) (r := (RX11, TX11, 63)) rfl rfl rfl rfl (Nat.le_of_ble_eq_true rfl) ⟨Nat.le_refl _, Nat.le_refl _⟩ ⟨Nat.le_refl _, Nat.le_refl _⟩ (show decode cX11_safe 207 = .ok (.invokevirtual 444, 3) by decide +kernel) ?_
  rintro _ _ ⟨x, σ', rfl, rfl, hq⟩ _
  exact (k x σ' hq)
theorem S_X11_safe_210 {G : am_G} {d : Nat} {Q : Int → am_D → Prop} {σ : am_D} {v1 : Int} {v2 : Int} {v4 : Int} {s0 : Int} (hr1 : -2147483648 ≤ s0 ∧ s0 ≤ 2147483647) (k1 : s0 = 0 → am_X (am_FI G (d + 1) Q) mX11_safe (0, 0) 215 [some (am_r (some 91)), some (am_i v1), some (am_i v2), none, some (am_i v4), none] [] (am_K0, σ)) (k2 : ¬ (s0 = 0) → am_X (am_FI G (d + 1) Q) mX11_safe (0, 0) 213 [none, none, none, none, none, none] [] (am_K0, σ)) : am_X (am_FI G (d + 1) Q) mX11_safe (0, 0) 210 [some (am_r (some 91)), some (am_i v1), some (am_i v2), none, some (am_i v4), none] [am_i s0] (am_K0, σ) := by
  refine am_r_if_eq (tg := 215) (nx := 213) (show decode cX11_safe 210 = .ok (.ifCond .eq 5, 3) by decide +kernel) (by decide) rfl hr1 ?_ ?_
  · exact fun q => k1 q
  · exact fun q => am_x_fg [0, 1, 2, 4] (k2 q)
theorem S_X11_safe_213 {G : am_G} {d : Nat} {Q : Int → am_D → Prop} {σ : am_D}   (k : Q 0 σ) : am_X (am_FI G (d + 1) Q) mX11_safe (0, 0) 213 [none, none, none, none, none, none] [] (am_K0, σ) := by
  refine am_r_iconst (nx := 214) (show decode cX11_safe 213 = .ok (.iconst 0, 1) by decide +kernel) rfl ?_
  exact am_r_iret rfl rfl (show decode cX11_safe 214 = .ok (.ireturn, 1) by decide +kernel) ⟨_, _, rfl, rfl, k⟩
theorem S_X11_safe_215 {G : am_G} {d : Nat} {Q : Int → am_D → Prop} {σ : am_D} {v1 : Int} {v2 : Int} {v4 : Int}  (k : am_X (am_FI G (d + 1) Q) mX11_safe (0, 0) 184 [some (am_r (some 91)), some (am_i v1), some (am_i v2), none, some (am_i (v4 + 1)), none] [] (am_K0, σ)) : am_X (am_FI G (d + 1) Q) mX11_safe (0, 0) 215 [some (am_r (some 91)), some (am_i v1), some (am_i v2), none, some (am_i v4), none] [] (am_K0, σ) := by
  refine am_r_iinc (nx := 218) rfl rfl (show decode cX11_safe 215 = .ok (.iinc 4 1, 3) by decide +kernel) rfl ?_
  refine am_r_goto (tg := 184) (show decode cX11_safe 218 = .ok (.goto (-34), 3) by decide +kernel) (by decide) ?_
  exact k
theorem S_X11_safe_221 {G : am_G} {d : Nat} {Q : Int → am_D → Prop} {σ : am_D}   (k : Q 1 σ) : am_X (am_FI G (d + 1) Q) mX11_safe (0, 0) 221 [none, none, none, none, none, none] [] (am_K0, σ) := by
  refine am_r_iconst (nx := 222) (show decode cX11_safe 221 = .ok (.iconst 1, 1) by decide +kernel) rfl ?_
  exact am_r_iret rfl rfl (show decode cX11_safe 222 = .ok (.ireturn, 1) by decide +kernel) ⟨_, _, rfl, rfl, k⟩
end
