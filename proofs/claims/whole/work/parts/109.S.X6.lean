section
theorem S_X6_fewest_0 {G : am_G} {d : Nat} {Q : Int → am_D → Prop} {σ : am_D} {v3 : Int} {v4 : Int} {v1 : Option Nat} {v2 : Option Nat}  (k1 : v1 = none → am_X (am_FI G (d + 1) Q) mX6_fewest (0, 0) 17 [none, none, none, none, none, none, none, none, none] [] (am_K0, σ)) (k2 : ∀ a, v1 = some a → am_X (am_FI G (d + 1) Q) mX6_fewest (0, 0) 4 [some (am_r (some 30)), some (am_r v1), some (am_r v2), some (am_i v3), some (am_i v4), none, none, none, none] [] (am_K0, σ)) : am_X (am_FI G (d + 1) Q) mX6_fewest (0, 0) 0 [some (am_r (some 30)), some (am_r v1), some (am_r v2), some (am_i v3), some (am_i v4), none, none, none, none] [] (am_K0, σ) := by
  refine am_r_aload_n (nx := 1) rfl rfl (show decode cX6_fewest 0 = .ok (.aload_n 1, 1) by decide +kernel) rfl ?_
  refine am_r_ifnull (tg := 17) (nx := 4) (show decode cX6_fewest 1 = .ok (.ifnull 16, 3) by decide +kernel) (by decide) rfl ?_ ?_
  · exact fun q => am_x_fg [0, 1, 2, 3, 4] (k1 q)
  · exact fun a q => k2 a q
theorem S_X6_fewest_4 {G : am_G} {d : Nat} {Q : Int → am_D → Prop} {σ : am_D} {v3 : Int} {v4 : Int} {v2 : Option Nat} {v1 : Option Nat}  (k1 : v2 = none → am_X (am_FI G (d + 1) Q) mX6_fewest (0, 0) 17 [none, none, none, none, none, none, none, none, none] [] (am_K0, σ)) (k2 : ∀ a, v2 = some a → am_X (am_FI G (d + 1) Q) mX6_fewest (0, 0) 8 [some (am_r (some 30)), some (am_r v1), some (am_r v2), some (am_i v3), some (am_i v4), none, none, none, none] [] (am_K0, σ)) : am_X (am_FI G (d + 1) Q) mX6_fewest (0, 0) 4 [some (am_r (some 30)), some (am_r v1), some (am_r v2), some (am_i v3), some (am_i v4), none, none, none, none] [] (am_K0, σ) := by
  refine am_r_aload_n (nx := 5) rfl rfl (show decode cX6_fewest 4 = .ok (.aload_n 2, 1) by decide +kernel) rfl ?_
  refine am_r_ifnull (tg := 17) (nx := 8) (show decode cX6_fewest 5 = .ok (.ifnull 12, 3) by decide +kernel) (by decide) rfl ?_ ?_
  · exact fun q => am_x_fg [0, 1, 2, 3, 4] (k1 q)
  · exact fun a q => k2 a q
theorem S_X6_fewest_8 {G : am_G} {d : Nat} {Q : Int → am_D → Prop} {σ : am_D} {v3 : Int} {v4 : Int} {v1 : Option Nat} {v2 : Option Nat} (hr1 : -2147483648 ≤ v3 ∧ v3 ≤ 2147483647) (k1 : v3 < 0 → am_X (am_FI G (d + 1) Q) mX6_fewest (0, 0) 17 [none, none, none, none, none, none, none, none, none] [] (am_K0, σ)) (k2 : ¬ (v3 < 0) → am_X (am_FI G (d + 1) Q) mX6_fewest (0, 0) 12 [some (am_r (some 30)), some (am_r v1), some (am_r v2), some (am_i v3), some (am_i v4), none, none, none, none] [] (am_K0, σ)) : am_X (am_FI G (d + 1) Q) mX6_fewest (0, 0) 8 [some (am_r (some 30)), some (am_r v1), some (am_r v2), some (am_i v3), some (am_i v4), none, none, none, none] [] (am_K0, σ) := by
  refine am_r_iload_n (nx := 9) rfl rfl (show decode cX6_fewest 8 = .ok (.iload_n 3, 1) by decide +kernel) rfl ?_
  refine am_r_if_lt (tg := 17) (nx := 12) (show decode cX6_fewest 9 = .ok (.ifCond .lt 8, 3) by decide +kernel) (by decide) rfl hr1 ?_ ?_
  · exact fun q => am_x_fg [0, 1, 2, 3, 4] (k1 q)
  · exact fun q => k2 q
theorem S_X6_fewest_12 {G : am_G} {d : Nat} {Q : Int → am_D → Prop} {σ : am_D} {v3 : Int} {v4 : Int} {v1 : Option Nat} {v2 : Option Nat} (hr1 : -2147483648 ≤ v3 ∧ v3 ≤ 2147483647) (k1 : v3 ≤ 4 → am_X (am_FI G (d + 1) Q) mX6_fewest (0, 0) 20 [some (am_r (some 30)), some (am_r v1), some (am_r v2), some (am_i v3), some (am_i v4), none, none, none, none] [] (am_K0, σ)) (k2 : ¬ (v3 ≤ 4) → am_X (am_FI G (d + 1) Q) mX6_fewest (0, 0) 17 [none, none, none, none, none, none, none, none, none] [] (am_K0, σ)) : am_X (am_FI G (d + 1) Q) mX6_fewest (0, 0) 12 [some (am_r (some 30)), some (am_r v1), some (am_r v2), some (am_i v3), some (am_i v4), none, none, none, none] [] (am_K0, σ) := by
  refine am_r_iload_n (nx := 13) rfl rfl (show decode cX6_fewest 12 = .ok (.iload_n 3, 1) by decide +kernel) rfl ?_
  refine am_r_iconst (nx := 14) (show decode cX6_fewest 13 = .ok (.iconst 4, 1) by decide +kernel) rfl ?_
  refine am_r_icmp_le (tg := 20) (nx := 17) (show decode cX6_fewest 14 = .ok (.if_icmp .le 6, 3) by decide +kernel) (by decide) rfl hr1 (by omega) ?_ ?_
  · exact fun q => k1 q
  · exact fun q => am_x_fg [0, 1, 2, 3, 4] (k2 q)
theorem S_X6_fewest_17 {G : am_G} {d : Nat} {Q : Int → am_D → Prop} {σ : am_D}   (k : Q (-2) σ) : am_X (am_FI G (d + 1) Q) mX6_fewest (0, 0) 17 [none, none, none, none, none, none, none, none, none] [] (am_K0, σ) := by
  refine am_r_bipush (nx := 19) rfl (show decode cX6_fewest 17 = .ok (.bipush (-2), 2) by decide +kernel) rfl ?_
  exact am_r_iret rfl rfl (show decode cX6_fewest 19 = .ok (.ireturn, 1) by decide +kernel) ⟨_, _, rfl, rfl, k⟩
theorem S_X6_fewest_20 {G : am_G} {d : Nat} {Q : Int → am_D → Prop} {σ : am_D} {v3 : Int} {v4 : Int} {v1 : Option Nat} {v2 : Option Nat} {Q' : am_D → Prop} (hc : am_MV G d mX6_prepare [am_r (some 30), am_r v1, am_r v2, am_i v4] σ Q') (k : ∀ σ' : am_D, Q' σ' → am_X (am_FI G (d + 1) Q) mX6_fewest (0, 0) 28 [some (am_r (some 30)), none, none, some (am_i v3), none, none, none, none, none] [] (am_K0, σ')) : am_X (am_FI G (d + 1) Q) mX6_fewest (0, 0) 20 [some (am_r (some 30)), some (am_r v1), some (am_r v2), some (am_i v3), some (am_i v4), none, none, none, none] [] (am_K0, σ) := by
  refine am_r_aload_n (nx := 21) rfl rfl (show decode cX6_fewest 20 = .ok (.aload_n 0, 1) by decide +kernel) rfl ?_
  refine am_r_aload_n (nx := 22) rfl rfl (show decode cX6_fewest 21 = .ok (.aload_n 1, 1) by decide +kernel) rfl ?_
  refine am_r_aload_n (nx := 23) rfl rfl (show decode cX6_fewest 22 = .ok (.aload_n 2, 1) by decide +kernel) rfl ?_
  refine am_r_iload (nx := 25) rfl (show decode cX6_fewest 23 = .ok (.iload 4, 2) by decide +kernel) rfl ?_
  refine am_r_callV (as := [am_r v1, am_r v2, am_i v4]) (st := []) hc mb_X6_prepare mv_X6_prepare (Or.inl ml_X6_26) (ob_30) (by omega) (r := (RX6, TX6, 7)) rfl rfl rfl rfl (Nat.le_of_ble_eq_true rfl) ⟨Nat.le_refl _, Nat.le_refl _⟩ ⟨Nat.le_refl _, Nat.le_refl _⟩ (show decode cX6_fewest 25 = .ok (.invokevirtual 26, 3) by decide +kernel) ?_
  rintro _ _ ⟨σ', rfl, rfl, hq⟩ _
  exact am_x_fg [1, 2, 4] (k σ' hq)
theorem S_X6_fewest_28 {G : am_G} {d : Nat} {Q : Int → am_D → Prop} {σ : am_D} {v3 : Int}  (k : am_X (am_FI G (d + 1) Q) mX6_fewest (0, 0) 31 [some (am_r (some 30)), none, none, some (am_i v3), none, some (am_i 0), none, none, none] [] (am_K0, σ)) : am_X (am_FI G (d + 1) Q) mX6_fewest (0, 0) 28 [some (am_r (some 30)), none, none, some (am_i v3), none, none, none, none, none] [] (am_K0, σ) := by
  refine am_r_iconst (nx := 29) (show decode cX6_fewest 28 = .ok (.iconst 0, 1) by decide +kernel) rfl ?_
  refine am_r_istore (nx := 31) (by decide) rfl (show decode cX6_fewest 29 = .ok (.istore 5, 2) by decide +kernel) rfl ?_
  exact k
theorem S_X6_fewest_31 {G : am_G} {d : Nat} {Q : Int → am_D → Prop} {σ : am_D} {v3 : Int} {v5 : Int}  (k : am_X (am_FI G (d + 1) Q) mX6_fewest (0, 0) 34 [some (am_r (some 30)), none, none, some (am_i v3), none, some (am_i v5), some (am_i 0), none, none] [] (am_K0, σ)) : am_X (am_FI G (d + 1) Q) mX6_fewest (0, 0) 31 [some (am_r (some 30)), none, none, some (am_i v3), none, some (am_i v5), none, none, none] [] (am_K0, σ) := by
  refine am_r_iconst (nx := 32) (show decode cX6_fewest 31 = .ok (.iconst 0, 1) by decide +kernel) rfl ?_
  refine am_r_istore (nx := 34) (by decide) rfl (show decode cX6_fewest 32 = .ok (.istore 6, 2) by decide +kernel) rfl ?_
  exact k
theorem S_X6_fewest_34 {G : am_G} {d : Nat} {Q : Int → am_D → Prop} {σ : am_D} {v3 : Int} {v5 : Int} {v6 : Int}  (k : am_X (am_FI G (d + 1) Q) mX6_fewest (0, 0) 37 [some (am_r (some 30)), none, none, some (am_i v3), none, some (am_i v5), some (am_i v6), some (am_i 0), none] [] (am_K0, σ)) : am_X (am_FI G (d + 1) Q) mX6_fewest (0, 0) 34 [some (am_r (some 30)), none, none, some (am_i v3), none, some (am_i v5), some (am_i v6), none, none] [] (am_K0, σ) := by
  refine am_r_iconst (nx := 35) (show decode cX6_fewest 34 = .ok (.iconst 0, 1) by decide +kernel) rfl ?_
  refine am_r_istore (nx := 37) (by decide) rfl (show decode cX6_fewest 35 = .ok (.istore 7, 2) by decide +kernel) rfl ?_
  exact k
theorem S_X6_fewest_37 {G : am_G} {d : Nat} {Q : Int → am_D → Prop} {σ : am_D} {v3 : Int} {v5 : Int} {v6 : Int} {v7 : Int} (hr1 : -2147483648 ≤ v7 ∧ v7 ≤ 2147483647) (k1 : 1000000 ≤ v7 → am_X (am_FI G (d + 1) Q) mX6_fewest (0, 0) 208 [none, none, none, none, none, none, none, none, none] [] (am_K0, σ)) (k2 : ¬ (1000000 ≤ v7) → am_X (am_FI G (d + 1) Q) mX6_fewest (0, 0) 44 [some (am_r (some 30)), none, none, some (am_i v3), none, some (am_i v5), some (am_i v6), some (am_i v7), none] [] (am_K0, σ)) : am_X (am_FI G (d + 1) Q) mX6_fewest (0, 0) 37 [some (am_r (some 30)), none, none, some (am_i v3), none, some (am_i v5), some (am_i v6), some (am_i v7), none] [] (am_K0, σ) := by
  refine am_r_iload (nx := 39) rfl (show decode cX6_fewest 37 = .ok (.iload 7, 2) by decide +kernel) rfl ?_
  refine am_r_ldc (nx := 41) (n := 1000000) (am_mt 857 (by decide +kernel) rfl) (show decode cX6_fewest 39 = .ok (.ldc 30, 2) by decide +kernel) rfl ?_
  refine am_r_icmp_ge (tg := 208) (nx := 44) (show decode cX6_fewest 41 = .ok (.if_icmp .ge 167, 3) by decide +kernel) (by decide) rfl hr1 (by omega) ?_ ?_
  · exact fun q => am_x_fg [0, 3, 5, 6, 7] (k1 q)
  · exact fun q => k2 q
theorem S_X6_fewest_44 {G : am_G} {d : Nat} {Q : Int → am_D → Prop} {σ : am_D} {v3 : Int} {v5 : Int} {v6 : Int} {v7 : Int} {Q' : Int → am_D → Prop} (hc : am_MI G d mX0_size [am_r (some 8)] σ Q') (k : ∀ (x : Int) (σ' : am_D), Q' x σ' → am_X (am_FI G (d + 1) Q) mX6_fewest (0, 0) 51 [some (am_r (some 30)), none, none, some (am_i v3), none, some (am_i v5), some (am_i v6), some (am_i v7), none] [am_i x] (am_K0, σ')) : am_X (am_FI G (d + 1) Q) mX6_fewest (0, 0) 44 [some (am_r (some 30)), none, none, some (am_i v3), none, some (am_i v5), some (am_i v6), some (am_i v7), none] [] (am_K0, σ) := by
  refine am_r_aload_n (nx := 45) rfl rfl (show decode cX6_fewest 44 = .ok (.aload_n 0, 1) by decide +kernel) rfl ?_
  refine am_r_getF (nx := 48) 3 cw6 (by decide) rfl (Or.inl fl_X6_22) (ob_30) (fn_30_3) (show decode cX6_fewest 45 = .ok (.getfield 22, 3) by decide +kernel) rfl ?_
  refine am_r_callV (as := []) (st := []) hc mb_X0_size mv_X0_size (Or.inl ml_X6_31) (obE (by unfold am_isE; decide)) (by omega) (r := (RX0, TX0, 2)) rfl rfl rfl rfl (Nat.le_of_ble_eq_true rfl) ⟨Nat.le_refl _, Nat.le_refl _⟩ ⟨Nat.le_refl _, Nat.le_refl _⟩ (show decode cX6_fewest 48 = .ok (.invokevirtual 31, 3) by decide +kernel) ?_
  rintro _ _ ⟨x, σ', rfl, rfl, hq⟩ _
  exact (k x σ' hq)
theorem S_X6_fewest_51 {G : am_G} {d : Nat} {Q : Int → am_D → Prop} {σ : am_D} {v3 : Int} {v5 : Int} {v6 : Int} {v7 : Int} {s0 : Int} (hr1 : -2147483648 ≤ s0 ∧ s0 ≤ 2147483647) (hr2 : -2147483648 ≤ (2 * v5) ∧ (2 * v5) ≤ 2147483647) (k1 : ¬ s0 = (2 * v5) → am_X (am_FI G (d + 1) Q) mX6_fewest (0, 0) 62 [some (am_r (some 30)), none, none, some (am_i v3), none, some (am_i v5), some (am_i v6), some (am_i v7), none] [] (am_K0, σ)) (k2 : ¬ (¬ s0 = (2 * v5)) → am_X (am_FI G (d + 1) Q) mX6_fewest (0, 0) 58 [some (am_r (some 30)), none, none, some (am_i v3), none, some (am_i v5), some (am_i v6), some (am_i v7), none] [] (am_K0, σ)) : am_X (am_FI G (d + 1) Q) mX6_fewest (0, 0) 51 [some (am_r (some 30)), none, none, some (am_i v3), none, some (am_i v5), some (am_i v6), some (am_i v7), none] [am_i s0] (am_K0, σ) := by
  refine am_r_iconst (nx := 52) (show decode cX6_fewest 51 = .ok (.iconst 2, 1) by decide +kernel) rfl ?_
  refine am_r_iload (nx := 54) rfl (show decode cX6_fewest 52 = .ok (.iload 5, 2) by decide +kernel) rfl ?_
  refine am_r_imul (nx := 55) (show decode cX6_fewest 54 = .ok (.imul, 1) by decide +kernel) rfl ?_
  refine am_r_icmp_ne (tg := 62) (nx := 58) (show decode cX6_fewest 55 = .ok (.if_icmp .ne 7, 3) by decide +kernel) (by decide) rfl hr1 hr2 ?_ ?_
  · exact fun q => k1 q
  · exact fun q => k2 q
theorem S_X6_fewest_58 {G : am_G} {d : Nat} {Q : Int → am_D → Prop} {σ : am_D} {v3 : Int} {v5 : Int} {v6 : Int} {v7 : Int}  (k : am_X (am_FI G (d + 1) Q) mX6_fewest (0, 0) 63 [some (am_r (some 30)), none, none, some (am_i v3), none, some (am_i v5), some (am_i v6), some (am_i v7), none] [am_i 1] (am_K0, σ)) : am_X (am_FI G (d + 1) Q) mX6_fewest (0, 0) 58 [some (am_r (some 30)), none, none, some (am_i v3), none, some (am_i v5), some (am_i v6), some (am_i v7), none] [] (am_K0, σ) := by
  refine am_r_iconst (nx := 59) (show decode cX6_fewest 58 = .ok (.iconst 1, 1) by decide +kernel) rfl ?_
  refine am_r_goto (tg := 63) (show decode cX6_fewest 59 = .ok (.goto 4, 3) by decide +kernel) (by decide) ?_
  exact k
theorem S_X6_fewest_62 {G : am_G} {d : Nat} {Q : Int → am_D → Prop} {σ : am_D} {v3 : Int} {v5 : Int} {v6 : Int} {v7 : Int}  (k : am_X (am_FI G (d + 1) Q) mX6_fewest (0, 0) 63 [some (am_r (some 30)), none, none, some (am_i v3), none, some (am_i v5), some (am_i v6), some (am_i v7), none] [am_i 0] (am_K0, σ)) : am_X (am_FI G (d + 1) Q) mX6_fewest (0, 0) 62 [some (am_r (some 30)), none, none, some (am_i v3), none, some (am_i v5), some (am_i v6), some (am_i v7), none] [] (am_K0, σ) := by
  refine am_r_iconst (nx := 63) (show decode cX6_fewest 62 = .ok (.iconst 0, 1) by decide +kernel) rfl ?_
  exact k
theorem S_X6_fewest_63 {G : am_G} {d : Nat} {Q : Int → am_D → Prop} {σ : am_D} {v3 : Int} {v5 : Int} {v6 : Int} {v7 : Int} {s0 : Int}  (k : am_X (am_FI G (d + 1) Q) mX6_fewest (0, 0) 65 [some (am_r (some 30)), none, none, some (am_i v3), none, some (am_i v5), some (am_i v6), some (am_i v7), some (am_i s0)] [] (am_K0, σ)) : am_X (am_FI G (d + 1) Q) mX6_fewest (0, 0) 63 [some (am_r (some 30)), none, none, some (am_i v3), none, some (am_i v5), some (am_i v6), some (am_i v7), none] [am_i s0] (am_K0, σ) := by
  refine am_r_istore (nx := 65) (by decide) rfl (show decode cX6_fewest 63 = .ok (.istore 8, 2) by decide +kernel) rfl ?_
  exact k
theorem S_X6_fewest_65 {G : am_G} {d : Nat} {Q : Int → am_D → Prop} {σ : am_D} {v3 : Int} {v5 : Int} {v6 : Int} {v7 : Int} {v8 : Int} (hr1 : -2147483648 ≤ v8 ∧ v8 ≤ 2147483647) (k1 : v8 = 0 → am_X (am_FI G (d + 1) Q) mX6_fewest (0, 0) 97 [some (am_r (some 30)), none, none, some (am_i v3), none, some (am_i v5), some (am_i v6), some (am_i v7), some (am_i v8)] [] (am_K0, σ)) (k2 : ¬ (v8 = 0) → am_X (am_FI G (d + 1) Q) mX6_fewest (0, 0) 70 [some (am_r (some 30)), none, none, some (am_i v3), none, some (am_i v5), some (am_i v6), some (am_i v7), some (am_i v8)] [] (am_K0, σ)) : am_X (am_FI G (d + 1) Q) mX6_fewest (0, 0) 65 [some (am_r (some 30)), none, none, some (am_i v3), none, some (am_i v5), some (am_i v6), some (am_i v7), some (am_i v8)] [] (am_K0, σ) := by
  refine am_r_iload (nx := 67) rfl (show decode cX6_fewest 65 = .ok (.iload 8, 2) by decide +kernel) rfl ?_
  refine am_r_if_eq (tg := 97) (nx := 70) (show decode cX6_fewest 67 = .ok (.ifCond .eq 30, 3) by decide +kernel) (by decide) rfl hr1 ?_ ?_
  · exact fun q => k1 q
  · exact fun q => k2 q
theorem S_X6_fewest_70 {G : am_G} {d : Nat} {Q : Int → am_D → Prop} {σ : am_D} {v3 : Int} {v5 : Int} {v6 : Int} {v7 : Int} {v8 : Int} (hr1 : -2147483648 ≤ (σ.1 30 5) ∧ (σ.1 30 5) ≤ 2147483647) (k1 : (σ.1 30 5) = 0 → am_X (am_FI G (d + 1) Q) mX6_fewest (0, 0) 87 [some (am_r (some 30)), none, none, some (am_i v3), none, some (am_i v5), some (am_i v6), some (am_i v7), some (am_i v8)] [] (am_K0, σ)) (k2 : ¬ ((σ.1 30 5) = 0) → am_X (am_FI G (d + 1) Q) mX6_fewest (0, 0) 77 [some (am_r (some 30)), none, none, some (am_i v3), none, some (am_i v5), some (am_i v6), some (am_i v7), some (am_i v8)] [] (am_K0, σ)) : am_X (am_FI G (d + 1) Q) mX6_fewest (0, 0) 70 [some (am_r (some 30)), none, none, some (am_i v3), none, some (am_i v5), some (am_i v6), some (am_i v7), some (am_i v8)] [] (am_K0, σ) := by
  refine am_r_aload_n (nx := 71) rfl rfl (show decode cX6_fewest 70 = .ok (.aload_n 0, 1) by decide +kernel) rfl ?_
  refine am_r_getI (nx := 74) 5 cw6 (by decide) rfl (Or.inl fl_X6_37) (ob_30) (show decode cX6_fewest 71 = .ok (.getfield 37, 3) by decide +kernel) rfl ?_
  refine am_r_if_eq (tg := 87) (nx := 77) (show decode cX6_fewest 74 = .ok (.ifCond .eq 13, 3) by decide +kernel) (by decide) rfl hr1 ?_ ?_
  · exact fun q => k1 q
  · exact fun q => k2 q
theorem S_X6_fewest_77 {G : am_G} {d : Nat} {Q : Int → am_D → Prop} {σ : am_D} {v3 : Int} {v5 : Int} {v6 : Int} {v7 : Int} {v8 : Int} {Q' : Int → am_D → Prop} (hc : am_MI G d mX6_spoilt [am_r (some 30)] σ Q') (k : ∀ (x : Int) (σ' : am_D), Q' x σ' → am_X (am_FI G (d + 1) Q) mX6_fewest (0, 0) 81 [some (am_r (some 30)), none, none, some (am_i v3), none, some (am_i v5), some (am_i v6), some (am_i v7), some (am_i v8)] [am_i x] (am_K0, σ')) : am_X (am_FI G (d + 1) Q) mX6_fewest (0, 0) 77 [some (am_r (some 30)), none, none, some (am_i v3), none, some (am_i v5), some (am_i v6), some (am_i v7), some (am_i v8)] [] (am_K0, σ) := by
  refine am_r_aload_n (nx := 78) rfl rfl (show decode cX6_fewest 77 = .ok (.aload_n 0, 1) by decide +kernel) rfl ?_
  refine am_r_callV (as := []) (st := []) hc mb_X6_spoilt mv_X6_spoilt (Or.inl ml_X6_41) (ob_30) (by omega) (r := (RX6, TX6, 7)) rfl rfl rfl rfl (Nat.le_of_ble_eq_true rfl) ⟨Nat.le_refl _, Nat.le_refl _⟩ ⟨Nat.le_refl _, Nat.le_refl _⟩ (show decode cX6_fewest 78 = .ok (.invokevirtual 41, 3) by decide +kernel) ?_
  rintro _ _ ⟨x, σ', rfl, rfl, hq⟩ _
  exact (k x σ' hq)
theorem S_X6_fewest_81 {G : am_G} {d : Nat} {Q : Int → am_D → Prop} {σ : am_D} {v3 : Int} {v5 : Int} {v6 : Int} {v7 : Int} {v8 : Int} {s0 : Int} (hr1 : -2147483648 ≤ s0 ∧ s0 ≤ 2147483647) (k1 : s0 = 0 → am_X (am_FI G (d + 1) Q) mX6_fewest (0, 0) 97 [some (am_r (some 30)), none, none, some (am_i v3), none, some (am_i v5), some (am_i v6), some (am_i v7), some (am_i v8)] [] (am_K0, σ)) (k2 : ¬ (s0 = 0) → am_X (am_FI G (d + 1) Q) mX6_fewest (0, 0) 84 [none, none, none, none, none, some (am_i v5), none, none, none] [] (am_K0, σ)) : am_X (am_FI G (d + 1) Q) mX6_fewest (0, 0) 81 [some (am_r (some 30)), none, none, some (am_i v3), none, some (am_i v5), some (am_i v6), some (am_i v7), some (am_i v8)] [am_i s0] (am_K0, σ) := by
  refine am_r_if_eq (tg := 97) (nx := 84) (show decode cX6_fewest 81 = .ok (.ifCond .eq 16, 3) by decide +kernel) (by decide) rfl hr1 ?_ ?_
  · exact fun q => k1 q
  · exact fun q => am_x_fg [0, 3, 6, 7, 8] (k2 q)
theorem S_X6_fewest_84 {G : am_G} {d : Nat} {Q : Int → am_D → Prop} {σ : am_D} {v5 : Int}  (k : am_X (am_FI G (d + 1) Q) mX6_fewest (0, 0) 94 [none, none, none, none, none, some (am_i v5), none, none, none] [] (am_K0, σ)) : am_X (am_FI G (d + 1) Q) mX6_fewest (0, 0) 84 [none, none, none, none, none, some (am_i v5), none, none, none] [] (am_K0, σ) := by
  refine am_r_goto (tg := 94) (show decode cX6_fewest 84 = .ok (.goto 10, 3) by decide +kernel) (by decide) ?_
  exact k
theorem S_X6_fewest_87 {G : am_G} {d : Nat} {Q : Int → am_D → Prop} {σ : am_D} {v3 : Int} {v5 : Int} {v6 : Int} {v7 : Int} {v8 : Int} {Q' : Int → am_D → Prop} (hc : am_MI G d mX6_different [am_r (some 30)] σ Q') (k : ∀ (x : Int) (σ' : am_D), Q' x σ' → am_X (am_FI G (d + 1) Q) mX6_fewest (0, 0) 91 [some (am_r (some 30)), none, none, some (am_i v3), none, some (am_i v5), some (am_i v6), some (am_i v7), some (am_i v8)] [am_i x] (am_K0, σ')) : am_X (am_FI G (d + 1) Q) mX6_fewest (0, 0) 87 [some (am_r (some 30)), none, none, some (am_i v3), none, some (am_i v5), some (am_i v6), some (am_i v7), some (am_i v8)] [] (am_K0, σ) := by
  refine am_r_aload_n (nx := 88) rfl rfl (show decode cX6_fewest 87 = .ok (.aload_n 0, 1) by decide +kernel) rfl ?_
  refine am_r_callV (as := []) (st := []) hc mb_X6_different mv_X6_different (Or.inl ml_X6_45) (ob_30) (by omega) (r := (RX6, TX6, 7)) rfl rfl rfl rfl (Nat.le_of_ble_eq_true rfl) ⟨Nat.le_refl _, Nat.le_refl _⟩ ⟨Nat.le_refl _, Nat.le_refl _⟩ (show decode cX6_fewest 88 = .ok (.invokevirtual 45, 3) by decide +kernel) ?_
  rintro _ _ ⟨x, σ', rfl, rfl, hq⟩ _
  exact (k x σ' hq)
theorem S_X6_fewest_91 {G : am_G} {d : Nat} {Q : Int → am_D → Prop} {σ : am_D} {v3 : Int} {v5 : Int} {v6 : Int} {v7 : Int} {v8 : Int} {s0 : Int} (hr1 : -2147483648 ≤ s0 ∧ s0 ≤ 2147483647) (k1 : s0 = 0 → am_X (am_FI G (d + 1) Q) mX6_fewest (0, 0) 97 [some (am_r (some 30)), none, none, some (am_i v3), none, some (am_i v5), some (am_i v6), some (am_i v7), some (am_i v8)] [] (am_K0, σ)) (k2 : ¬ (s0 = 0) → am_X (am_FI G (d + 1) Q) mX6_fewest (0, 0) 94 [none, none, none, none, none, some (am_i v5), none, none, none] [] (am_K0, σ)) : am_X (am_FI G (d + 1) Q) mX6_fewest (0, 0) 91 [some (am_r (some 30)), none, none, some (am_i v3), none, some (am_i v5), some (am_i v6), some (am_i v7), some (am_i v8)] [am_i s0] (am_K0, σ) := by
  refine am_r_if_eq (tg := 97) (nx := 94) (show decode cX6_fewest 91 = .ok (.ifCond .eq 6, 3) by decide +kernel) (by decide) rfl hr1 ?_ ?_
  · exact fun q => k1 q
  · exact fun q => am_x_fg [0, 3, 6, 7, 8] (k2 q)
theorem S_X6_fewest_94 {G : am_G} {d : Nat} {Q : Int → am_D → Prop} {σ : am_D} {v5 : Int}  (k : Q v5 σ) : am_X (am_FI G (d + 1) Q) mX6_fewest (0, 0) 94 [none, none, none, none, none, some (am_i v5), none, none, none] [] (am_K0, σ) := by
  refine am_r_iload (nx := 96) rfl (show decode cX6_fewest 94 = .ok (.iload 5, 2) by decide +kernel) rfl ?_
  exact am_r_iret rfl rfl (show decode cX6_fewest 96 = .ok (.ireturn, 1) by decide +kernel) ⟨_, _, rfl, rfl, k⟩
theorem S_X6_fewest_97 {G : am_G} {d : Nat} {Q : Int → am_D → Prop} {σ : am_D} {v3 : Int} {v5 : Int} {v6 : Int} {v7 : Int} {v8 : Int} (hr1 : -2147483648 ≤ v8 ∧ v8 ≤ 2147483647) (k1 : ¬ v8 = 0 → am_X (am_FI G (d + 1) Q) mX6_fewest (0, 0) 115 [some (am_r (some 30)), none, none, some (am_i v3), none, some (am_i v5), none, some (am_i v7), none] [] (am_K0, σ)) (k2 : ¬ (¬ v8 = 0) → am_X (am_FI G (d + 1) Q) mX6_fewest (0, 0) 102 [some (am_r (some 30)), none, none, some (am_i v3), none, some (am_i v5), some (am_i v6), some (am_i v7), none] [] (am_K0, σ)) : am_X (am_FI G (d + 1) Q) mX6_fewest (0, 0) 97 [some (am_r (some 30)), none, none, some (am_i v3), none, some (am_i v5), some (am_i v6), some (am_i v7), some (am_i v8)] [] (am_K0, σ) := by
  refine am_r_iload (nx := 99) rfl (show decode cX6_fewest 97 = .ok (.iload 8, 2) by decide +kernel) rfl ?_
  refine am_r_if_ne (tg := 115) (nx := 102) (show decode cX6_fewest 99 = .ok (.ifCond .ne 16, 3) by decide +kernel) (by decide) rfl hr1 ?_ ?_
  · exact fun q => am_x_fg [6, 8] (k1 q)
  · exact fun q => am_x_fg [8] (k2 q)
theorem S_X6_fewest_102 {G : am_G} {d : Nat} {Q : Int → am_D → Prop} {σ : am_D} {v3 : Int} {v5 : Int} {v6 : Int} {v7 : Int} (hr1 : -2147483648 ≤ v6 ∧ v6 ≤ 2147483647) (k1 : 3 < v6 → am_X (am_FI G (d + 1) Q) mX6_fewest (0, 0) 115 [some (am_r (some 30)), none, none, some (am_i v3), none, some (am_i v5), none, some (am_i v7), none] [] (am_K0, σ)) (k2 : ¬ (3 < v6) → am_X (am_FI G (d + 1) Q) mX6_fewest (0, 0) 108 [some (am_r (some 30)), none, none, some (am_i v3), none, some (am_i v5), some (am_i v6), some (am_i v7), none] [] (am_K0, σ)) : am_X (am_FI G (d + 1) Q) mX6_fewest (0, 0) 102 [some (am_r (some 30)), none, none, some (am_i v3), none, some (am_i v5), some (am_i v6), some (am_i v7), none] [] (am_K0, σ) := by
  refine am_r_iload (nx := 104) rfl (show decode cX6_fewest 102 = .ok (.iload 6, 2) by decide +kernel) rfl ?_
  refine am_r_iconst (nx := 105) (show decode cX6_fewest 104 = .ok (.iconst 3, 1) by decide +kernel) rfl ?_
  refine am_r_icmp_gt (tg := 115) (nx := 108) (show decode cX6_fewest 105 = .ok (.if_icmp .gt 10, 3) by decide +kernel) (by decide) rfl hr1 (by omega) ?_ ?_
  · exact fun q => am_x_fg [6] (k1 q)
  · exact fun q => k2 q
theorem S_X6_fewest_108 {G : am_G} {d : Nat} {Q : Int → am_D → Prop} {σ : am_D} {v3 : Int} {v5 : Int} {v6 : Int} {v7 : Int} {Q' : Int → am_D → Prop} (hc : am_MI G d mX6_hopeless [am_r (some 30)] σ Q') (k : ∀ (x : Int) (σ' : am_D), Q' x σ' → am_X (am_FI G (d + 1) Q) mX6_fewest (0, 0) 112 [some (am_r (some 30)), none, none, some (am_i v3), none, some (am_i v5), some (am_i v6), some (am_i v7), none] [am_i x] (am_K0, σ')) : am_X (am_FI G (d + 1) Q) mX6_fewest (0, 0) 108 [some (am_r (some 30)), none, none, some (am_i v3), none, some (am_i v5), some (am_i v6), some (am_i v7), none] [] (am_K0, σ) := by
  refine am_r_aload_n (nx := 109) rfl rfl (show decode cX6_fewest 108 = .ok (.aload_n 0, 1) by decide +kernel) rfl ?_
  refine am_r_callV (as := []) (st := []) hc mb_X6_hopeless mv_X6_hopeless (Or.inl ml_X6_48) (ob_30) (by omega) (r := (RX6, TX6, 7)) rfl rfl rfl rfl (Nat.le_of_ble_eq_true rfl) ⟨Nat.le_refl _, Nat.le_refl _⟩ ⟨Nat.le_refl _, Nat.le_refl _⟩ (show decode cX6_fewest 109 = .ok (.invokevirtual 48, 3) by decide +kernel) ?_
  rintro _ _ ⟨x, σ', rfl, rfl, hq⟩ _
  exact (k x σ' hq)
theorem S_X6_fewest_112 {G : am_G} {d : Nat} {Q : Int → am_D → Prop} {σ : am_D} {v3 : Int} {v5 : Int} {v6 : Int} {v7 : Int} {s0 : Int} (hr1 : -2147483648 ≤ s0 ∧ s0 ≤ 2147483647) (k1 : s0 = 0 → am_X (am_FI G (d + 1) Q) mX6_fewest (0, 0) 153 [some (am_r (some 30)), none, none, some (am_i v3), none, some (am_i v5), some (am_i v6), some (am_i v7), none] [] (am_K0, σ)) (k2 : ¬ (s0 = 0) → am_X (am_FI G (d + 1) Q) mX6_fewest (0, 0) 115 [some (am_r (some 30)), none, none, some (am_i v3), none, some (am_i v5), none, some (am_i v7), none] [] (am_K0, σ)) : am_X (am_FI G (d + 1) Q) mX6_fewest (0, 0) 112 [some (am_r (some 30)), none, none, some (am_i v3), none, some (am_i v5), some (am_i v6), some (am_i v7), none] [am_i s0] (am_K0, σ) := by
  refine am_r_if_eq (tg := 153) (nx := 115) (show decode cX6_fewest 112 = .ok (.ifCond .eq 41, 3) by decide +kernel) (by decide) rfl hr1 ?_ ?_
  · exact fun q => k1 q
  · exact fun q => am_x_fg [6] (k2 q)
theorem S_X6_fewest_115 {G : am_G} {d : Nat} {Q : Int → am_D → Prop} {σ : am_D} {v3 : Int} {v5 : Int} {v7 : Int} {Q' : Int → am_D → Prop} (hc : am_MI G d mX0_size [am_r (some 8)] σ Q') (k : ∀ (x : Int) (σ' : am_D), Q' x σ' → am_X (am_FI G (d + 1) Q) mX6_fewest (0, 0) 122 [some (am_r (some 30)), none, none, some (am_i v3), none, some (am_i v5), none, some (am_i v7), none] [am_i x] (am_K0, σ')) : am_X (am_FI G (d + 1) Q) mX6_fewest (0, 0) 115 [some (am_r (some 30)), none, none, some (am_i v3), none, some (am_i v5), none, some (am_i v7), none] [] (am_K0, σ) := by
  refine am_r_aload_n (nx := 116) rfl rfl (show decode cX6_fewest 115 = .ok (.aload_n 0, 1) by decide +kernel) rfl ?_
  refine am_r_getF (nx := 119) 3 cw6 (by decide) rfl (Or.inl fl_X6_22) (ob_30) (fn_30_3) (show decode cX6_fewest 116 = .ok (.getfield 22, 3) by decide +kernel) rfl ?_
  refine am_r_callV (as := []) (st := []) hc mb_X0_size mv_X0_size (Or.inl ml_X6_31) (obE (by unfold am_isE; decide)) (by omega) (r := (RX0, TX0, 2)) rfl rfl rfl rfl (Nat.le_of_ble_eq_true rfl) ⟨Nat.le_refl _, Nat.le_refl _⟩ ⟨Nat.le_refl _, Nat.le_refl _⟩ (show decode cX6_fewest 119 = .ok (.invokevirtual 31, 3) by decide +kernel) ?_
  rintro _ _ ⟨x, σ', rfl, rfl, hq⟩ _
  exact (k x σ' hq)
theorem S_X6_fewest_122 {G : am_G} {d : Nat} {Q : Int → am_D → Prop} {σ : am_D} {v3 : Int} {v5 : Int} {v7 : Int} {s0 : Int} (hr1 : -2147483648 ≤ s0 ∧ s0 ≤ 2147483647) (k1 : s0 ≤ 0 → am_X (am_FI G (d + 1) Q) mX6_fewest (0, 0) 136 [some (am_r (some 30)), none, none, some (am_i v3), none, some (am_i v5), none, some (am_i v7), none] [] (am_K0, σ)) (k2 : ¬ (s0 ≤ 0) → am_X (am_FI G (d + 1) Q) mX6_fewest (0, 0) 125 [some (am_r (some 30)), none, none, some (am_i v3), none, some (am_i v5), none, some (am_i v7), none] [] (am_K0, σ)) : am_X (am_FI G (d + 1) Q) mX6_fewest (0, 0) 122 [some (am_r (some 30)), none, none, some (am_i v3), none, some (am_i v5), none, some (am_i v7), none] [am_i s0] (am_K0, σ) := by
  refine am_r_if_le (tg := 136) (nx := 125) (show decode cX6_fewest 122 = .ok (.ifCond .le 14, 3) by decide +kernel) (by decide) rfl hr1 ?_ ?_
  · exact fun q => k1 q
  · exact fun q => k2 q
theorem S_X6_fewest_125 {G : am_G} {d : Nat} {Q : Int → am_D → Prop} {σ : am_D} {v3 : Int} {v5 : Int} {v7 : Int} {Q' : Int → am_D → Prop} (hc : am_MI G d mX6_goBack [am_r (some 30)] σ Q') (k : ∀ (x : Int) (σ' : am_D), Q' x σ' → am_X (am_FI G (d + 1) Q) mX6_fewest (0, 0) 129 [some (am_r (some 30)), none, none, some (am_i v3), none, some (am_i v5), none, some (am_i v7), none] [am_i x] (am_K0, σ')) : am_X (am_FI G (d + 1) Q) mX6_fewest (0, 0) 125 [some (am_r (some 30)), none, none, some (am_i v3), none, some (am_i v5), none, some (am_i v7), none] [] (am_K0, σ) := by
  refine am_r_aload_n (nx := 126) rfl rfl (show decode cX6_fewest 125 = .ok (.aload_n 0, 1) by decide +kernel) rfl ?_
  refine am_r_callV (as := []) (st := []) hc mb_X6_goBack mv_X6_goBack (Or.inl ml_X6_51) (ob_30) (by omega) (r := (RX6, TX6, 7)) rfl rfl rfl rfl (Nat.le_of_ble_eq_true rfl) ⟨Nat.le_refl _, Nat.le_refl _⟩ ⟨Nat.le_refl _, Nat.le_refl _⟩ (show decode cX6_fewest 126 = .ok (.invokevirtual 51, 3) by decide +kernel) ?_
  rintro _ _ ⟨x, σ', rfl, rfl, hq⟩ _
  exact (k x σ' hq)
theorem S_X6_fewest_129 {G : am_G} {d : Nat} {Q : Int → am_D → Prop} {σ : am_D} {v3 : Int} {v5 : Int} {v7 : Int} {s0 : Int}  (k : am_X (am_FI G (d + 1) Q) mX6_fewest (0, 0) 202 [some (am_r (some 30)), none, none, some (am_i v3), none, some (am_i v5), some (am_i (s0 + 1)), some (am_i v7), none] [] (am_K0, σ)) : am_X (am_FI G (d + 1) Q) mX6_fewest (0, 0) 129 [some (am_r (some 30)), none, none, some (am_i v3), none, some (am_i v5), none, some (am_i v7), none] [am_i s0] (am_K0, σ) := by
  refine am_r_iconst (nx := 130) (show decode cX6_fewest 129 = .ok (.iconst 1, 1) by decide +kernel) rfl ?_
  refine am_r_iadd (nx := 131) (show decode cX6_fewest 130 = .ok (.iadd, 1) by decide +kernel) rfl ?_
  refine am_r_istore (nx := 133) (by decide) rfl (show decode cX6_fewest 131 = .ok (.istore 6, 2) by decide +kernel) rfl ?_
  refine am_r_goto (tg := 202) (show decode cX6_fewest 133 = .ok (.goto 69, 3) by decide +kernel) (by decide) ?_
  exact k
theorem S_X6_fewest_136 {G : am_G} {d : Nat} {Q : Int → am_D → Prop} {σ : am_D} {v3 : Int} {v5 : Int} {v7 : Int} (hr1 : -2147483648 ≤ v5 ∧ v5 ≤ 2147483647) (hr2 : -2147483648 ≤ v3 ∧ v3 ≤ 2147483647) (k1 : v3 ≤ v5 → am_X (am_FI G (d + 1) Q) mX6_fewest (0, 0) 151 [none, none, none, none, none, none, none, none, none] [] (am_K0, σ)) (k2 : ¬ (v3 ≤ v5) → am_X (am_FI G (d + 1) Q) mX6_fewest (0, 0) 142 [some (am_r (some 30)), none, none, some (am_i v3), none, some (am_i v5), none, some (am_i v7), none] [] (am_K0, σ)) : am_X (am_FI G (d + 1) Q) mX6_fewest (0, 0) 136 [some (am_r (some 30)), none, none, some (am_i v3), none, some (am_i v5), none, some (am_i v7), none] [] (am_K0, σ) := by
  refine am_r_iload (nx := 138) rfl (show decode cX6_fewest 136 = .ok (.iload 5, 2) by decide +kernel) rfl ?_
  refine am_r_iload_n (nx := 139) rfl rfl (show decode cX6_fewest 138 = .ok (.iload_n 3, 1) by decide +kernel) rfl ?_
  refine am_r_icmp_ge (tg := 151) (nx := 142) (show decode cX6_fewest 139 = .ok (.if_icmp .ge 12, 3) by decide +kernel) (by decide) rfl hr1 hr2 ?_ ?_
  · exact fun q => am_x_fg [0, 3, 5, 7] (k1 q)
  · exact fun q => k2 q
theorem S_X6_fewest_142 {G : am_G} {d : Nat} {Q : Int → am_D → Prop} {σ : am_D} {v3 : Int} {v5 : Int} {v7 : Int}  (k : am_X (am_FI G (d + 1) Q) mX6_fewest (0, 0) 145 [some (am_r (some 30)), none, none, some (am_i v3), none, some (am_i (v5 + 1)), none, some (am_i v7), none] [] (am_K0, σ)) : am_X (am_FI G (d + 1) Q) mX6_fewest (0, 0) 142 [some (am_r (some 30)), none, none, some (am_i v3), none, some (am_i v5), none, some (am_i v7), none] [] (am_K0, σ) := by
  refine am_r_iinc (nx := 145) rfl rfl (show decode cX6_fewest 142 = .ok (.iinc 5 1, 3) by decide +kernel) rfl ?_
  exact k
theorem S_X6_fewest_145 {G : am_G} {d : Nat} {Q : Int → am_D → Prop} {σ : am_D} {v3 : Int} {v5 : Int} {v7 : Int}  (k : am_X (am_FI G (d + 1) Q) mX6_fewest (0, 0) 202 [some (am_r (some 30)), none, none, some (am_i v3), none, some (am_i v5), some (am_i 0), some (am_i v7), none] [] (am_K0, σ)) : am_X (am_FI G (d + 1) Q) mX6_fewest (0, 0) 145 [some (am_r (some 30)), none, none, some (am_i v3), none, some (am_i v5), none, some (am_i v7), none] [] (am_K0, σ) := by
  refine am_r_iconst (nx := 146) (show decode cX6_fewest 145 = .ok (.iconst 0, 1) by decide +kernel) rfl ?_
  refine am_r_istore (nx := 148) (by decide) rfl (show decode cX6_fewest 146 = .ok (.istore 6, 2) by decide +kernel) rfl ?_
  refine am_r_goto (tg := 202) (show decode cX6_fewest 148 = .ok (.goto 54, 3) by decide +kernel) (by decide) ?_
  exact k
theorem S_X6_fewest_151 {G : am_G} {d : Nat} {Q : Int → am_D → Prop} {σ : am_D}   (k : Q (-1) σ) : am_X (am_FI G (d + 1) Q) mX6_fewest (0, 0) 151 [none, none, none, none, none, none, none, none, none] [] (am_K0, σ) := by
  refine am_r_iconst (nx := 152) (show decode cX6_fewest 151 = .ok (.iconst (-1), 1) by decide +kernel) rfl ?_
  exact am_r_iret rfl rfl (show decode cX6_fewest 152 = .ok (.ireturn, 1) by decide +kernel) ⟨_, _, rfl, rfl, k⟩
theorem S_X6_fewest_153 {G : am_G} {d : Nat} {Q : Int → am_D → Prop} {σ : am_D} {v3 : Int} {v5 : Int} {v6 : Int} {v7 : Int} (hr1 : -2147483648 ≤ v6 ∧ v6 ≤ 2147483647) (k1 : ¬ v6 = 3 → am_X (am_FI G (d + 1) Q) mX6_fewest (0, 0) 178 [some (am_r (some 30)), none, none, some (am_i v3), none, some (am_i v5), some (am_i v6), some (am_i v7), none] [] (am_K0, σ)) (k2 : ¬ (¬ v6 = 3) → am_X (am_FI G (d + 1) Q) mX6_fewest (0, 0) 159 [some (am_r (some 30)), none, none, some (am_i v3), none, some (am_i v5), some (am_i v6), some (am_i v7), none] [] (am_K0, σ)) : am_X (am_FI G (d + 1) Q) mX6_fewest (0, 0) 153 [some (am_r (some 30)), none, none, some (am_i v3), none, some (am_i v5), some (am_i v6), some (am_i v7), none] [] (am_K0, σ) := by
  refine am_r_iload (nx := 155) rfl (show decode cX6_fewest 153 = .ok (.iload 6, 2) by decide +kernel) rfl ?_
  refine am_r_iconst (nx := 156) (show decode cX6_fewest 155 = .ok (.iconst 3, 1) by decide +kernel) rfl ?_
  refine am_r_icmp_ne (tg := 178) (nx := 159) (show decode cX6_fewest 156 = .ok (.if_icmp .ne 22, 3) by decide +kernel) (by decide) rfl hr1 (by omega) ?_ ?_
  · exact fun q => k1 q
  · exact fun q => k2 q
theorem S_X6_fewest_159 {G : am_G} {d : Nat} {Q : Int → am_D → Prop} {σ : am_D} {v3 : Int} {v5 : Int} {v6 : Int} {v7 : Int} {Q' : Int → am_D → Prop} (hc : am_MI G d mX0_size [am_r (some 8)] σ Q') (k : ∀ (x : Int) (σ' : am_D), Q' x σ' → am_X (am_FI G (d + 1) Q) mX6_fewest (0, 0) 166 [some (am_r (some 30)), none, none, some (am_i v3), none, some (am_i v5), some (am_i v6), some (am_i v7), none] [am_i x] (am_K0, σ')) : am_X (am_FI G (d + 1) Q) mX6_fewest (0, 0) 159 [some (am_r (some 30)), none, none, some (am_i v3), none, some (am_i v5), some (am_i v6), some (am_i v7), none] [] (am_K0, σ) := by
  refine am_r_aload_n (nx := 160) rfl rfl (show decode cX6_fewest 159 = .ok (.aload_n 0, 1) by decide +kernel) rfl ?_
  refine am_r_getF (nx := 163) 3 cw6 (by decide) rfl (Or.inl fl_X6_22) (ob_30) (fn_30_3) (show decode cX6_fewest 160 = .ok (.getfield 22, 3) by decide +kernel) rfl ?_
  refine am_r_callV (as := []) (st := []) hc mb_X0_size mv_X0_size (Or.inl ml_X6_31) (obE (by unfold am_isE; decide)) (by omega) (r := (RX0, TX0, 2)) rfl rfl rfl rfl (Nat.le_of_ble_eq_true rfl) ⟨Nat.le_refl _, Nat.le_refl _⟩ ⟨Nat.le_refl _, Nat.le_refl _⟩ (show decode cX6_fewest 163 = .ok (.invokevirtual 31, 3) by decide +kernel) ?_
  rintro _ _ ⟨x, σ', rfl, rfl, hq⟩ _
  exact (k x σ' hq)
theorem S_X6_fewest_166 {G : am_G} {d : Nat} {Q : Int → am_D → Prop} {σ : am_D} {v3 : Int} {v5 : Int} {v6 : Int} {v7 : Int} {s0 : Int} (hr1 : -2147483648 ≤ s0 ∧ s0 ≤ 2147483647) (hr2 : -2147483648 ≤ (2 * (σ.1 30 6)) ∧ (2 * (σ.1 30 6)) ≤ 2147483647) (k1 : (2 * (σ.1 30 6)) ≤ s0 → am_X (am_FI G (d + 1) Q) mX6_fewest (0, 0) 199 [some (am_r (some 30)), none, none, some (am_i v3), none, some (am_i v5), some (am_i v6), some (am_i v7), none] [] (am_K0, σ)) (k2 : ¬ ((2 * (σ.1 30 6)) ≤ s0) → am_X (am_FI G (d + 1) Q) mX6_fewest (0, 0) 175 [some (am_r (some 30)), none, none, some (am_i v3), none, some (am_i v5), some (am_i v6), some (am_i v7), none] [] (am_K0, σ)) : am_X (am_FI G (d + 1) Q) mX6_fewest (0, 0) 166 [some (am_r (some 30)), none, none, some (am_i v3), none, some (am_i v5), some (am_i v6), some (am_i v7), none] [am_i s0] (am_K0, σ) := by
  refine am_r_iconst (nx := 167) (show decode cX6_fewest 166 = .ok (.iconst 2, 1) by decide +kernel) rfl ?_
  refine am_r_aload_n (nx := 168) rfl rfl (show decode cX6_fewest 167 = .ok (.aload_n 0, 1) by decide +kernel) rfl ?_
  refine am_r_getI (nx := 171) 6 cw6 (by decide) rfl (Or.inl fl_X6_54) (ob_30) (show decode cX6_fewest 168 = .ok (.getfield 54, 3) by decide +kernel) rfl ?_
  refine am_r_imul (nx := 172) (show decode cX6_fewest 171 = .ok (.imul, 1) by decide +kernel) rfl ?_
  refine am_r_icmp_ge (tg := 199) (nx := 175) (show decode cX6_fewest 172 = .ok (.if_icmp .ge 27, 3) by decide +kernel) (by decide) rfl hr1 hr2 ?_ ?_
  · exact fun q => k1 q
  · exact fun q => k2 q
theorem S_X6_fewest_175 {G : am_G} {d : Nat} {Q : Int → am_D → Prop} {σ : am_D} {v3 : Int} {v5 : Int} {v6 : Int} {v7 : Int}  (k : am_X (am_FI G (d + 1) Q) mX6_fewest (0, 0) 187 [some (am_r (some 30)), none, none, some (am_i v3), none, some (am_i v5), some (am_i v6), some (am_i v7), none] [] (am_K0, σ)) : am_X (am_FI G (d + 1) Q) mX6_fewest (0, 0) 175 [some (am_r (some 30)), none, none, some (am_i v3), none, some (am_i v5), some (am_i v6), some (am_i v7), none] [] (am_K0, σ) := by
  refine am_r_goto (tg := 187) (show decode cX6_fewest 175 = .ok (.goto 12, 3) by decide +kernel) (by decide) ?_
  exact k
theorem S_X6_fewest_178 {G : am_G} {d : Nat} {Q : Int → am_D → Prop} {σ : am_D} {v3 : Int} {v5 : Int} {v6 : Int} {v7 : Int} (hr1 : -2147483648 ≤ (σ.1 30 6) ∧ (σ.1 30 6) ≤ 2147483647) (hr2 : -2147483648 ≤ v5 ∧ v5 ≤ 2147483647) (k1 : v5 ≤ (σ.1 30 6) → am_X (am_FI G (d + 1) Q) mX6_fewest (0, 0) 199 [some (am_r (some 30)), none, none, some (am_i v3), none, some (am_i v5), some (am_i v6), some (am_i v7), none] [] (am_K0, σ)) (k2 : ¬ (v5 ≤ (σ.1 30 6)) → am_X (am_FI G (d + 1) Q) mX6_fewest (0, 0) 187 [some (am_r (some 30)), none, none, some (am_i v3), none, some (am_i v5), some (am_i v6), some (am_i v7), none] [] (am_K0, σ)) : am_X (am_FI G (d + 1) Q) mX6_fewest (0, 0) 178 [some (am_r (some 30)), none, none, some (am_i v3), none, some (am_i v5), some (am_i v6), some (am_i v7), none] [] (am_K0, σ) := by
  refine am_r_aload_n (nx := 179) rfl rfl (show decode cX6_fewest 178 = .ok (.aload_n 0, 1) by decide +kernel) rfl ?_
  refine am_r_getI (nx := 182) 6 cw6 (by decide) rfl (Or.inl fl_X6_54) (ob_30) (show decode cX6_fewest 179 = .ok (.getfield 54, 3) by decide +kernel) rfl ?_
  refine am_r_iload (nx := 184) rfl (show decode cX6_fewest 182 = .ok (.iload 5, 2) by decide +kernel) rfl ?_
  refine am_r_icmp_ge (tg := 199) (nx := 187) (show decode cX6_fewest 184 = .ok (.if_icmp .ge 15, 3) by decide +kernel) (by decide) rfl hr1 hr2 ?_ ?_
  · exact fun q => k1 q
  · exact fun q => k2 q
theorem S_X6_fewest_187 {G : am_G} {d : Nat} {Q : Int → am_D → Prop} {σ : am_D} {v3 : Int} {v5 : Int} {v6 : Int} {v7 : Int} {Q' : am_D → Prop} (hc : am_MV G d mX6_go [am_r (some 30), am_i v6] σ Q') (k : ∀ σ' : am_D, Q' σ' → am_X (am_FI G (d + 1) Q) mX6_fewest (0, 0) 193 [some (am_r (some 30)), none, none, some (am_i v3), none, some (am_i v5), none, some (am_i v7), none] [] (am_K0, σ')) : am_X (am_FI G (d + 1) Q) mX6_fewest (0, 0) 187 [some (am_r (some 30)), none, none, some (am_i v3), none, some (am_i v5), some (am_i v6), some (am_i v7), none] [] (am_K0, σ) := by
  refine am_r_aload_n (nx := 188) rfl rfl (show decode cX6_fewest 187 = .ok (.aload_n 0, 1) by decide +kernel) rfl ?_
  refine am_r_iload (nx := 190) rfl (show decode cX6_fewest 188 = .ok (.iload 6, 2) by decide +kernel) rfl ?_
  refine am_r_callV (as := [am_i v6]) (st := []) hc mb_X6_go mv_X6_go (Or.inl ml_X6_58) (ob_30) (by omega) (r := (RX6, TX6, 7)) rfl rfl rfl rfl (Nat.le_of_ble_eq_true rfl) ⟨Nat.le_refl _, Nat.le_refl _⟩ ⟨Nat.le_refl _, Nat.le_refl _⟩ (show decode cX6_fewest 190 = .ok (.invokevirtual 58, 3) by decide +kernel) ?_
  rintro _ _ ⟨σ', rfl, rfl, hq⟩ _
  exact am_x_fg [6] (k σ' hq)
theorem S_X6_fewest_193 {G : am_G} {d : Nat} {Q : Int → am_D → Prop} {σ : am_D} {v3 : Int} {v5 : Int} {v7 : Int}  (k : am_X (am_FI G (d + 1) Q) mX6_fewest (0, 0) 202 [some (am_r (some 30)), none, none, some (am_i v3), none, some (am_i v5), some (am_i 0), some (am_i v7), none] [] (am_K0, σ)) : am_X (am_FI G (d + 1) Q) mX6_fewest (0, 0) 193 [some (am_r (some 30)), none, none, some (am_i v3), none, some (am_i v5), none, some (am_i v7), none] [] (am_K0, σ) := by
  refine am_r_iconst (nx := 194) (show decode cX6_fewest 193 = .ok (.iconst 0, 1) by decide +kernel) rfl ?_
  refine am_r_istore (nx := 196) (by decide) rfl (show decode cX6_fewest 194 = .ok (.istore 6, 2) by decide +kernel) rfl ?_
  refine am_r_goto (tg := 202) (show decode cX6_fewest 196 = .ok (.goto 6, 3) by decide +kernel) (by decide) ?_
  exact k
theorem S_X6_fewest_199 {G : am_G} {d : Nat} {Q : Int → am_D → Prop} {σ : am_D} {v3 : Int} {v5 : Int} {v6 : Int} {v7 : Int}  (k : am_X (am_FI G (d + 1) Q) mX6_fewest (0, 0) 202 [some (am_r (some 30)), none, none, some (am_i v3), none, some (am_i v5), some (am_i (v6 + 1)), some (am_i v7), none] [] (am_K0, σ)) : am_X (am_FI G (d + 1) Q) mX6_fewest (0, 0) 199 [some (am_r (some 30)), none, none, some (am_i v3), none, some (am_i v5), some (am_i v6), some (am_i v7), none] [] (am_K0, σ) := by
  refine am_r_iinc (nx := 202) rfl rfl (show decode cX6_fewest 199 = .ok (.iinc 6 1, 3) by decide +kernel) rfl ?_
  exact k
theorem S_X6_fewest_202 {G : am_G} {d : Nat} {Q : Int → am_D → Prop} {σ : am_D} {v3 : Int} {v5 : Int} {v6 : Int} {v7 : Int}  (k : am_X (am_FI G (d + 1) Q) mX6_fewest (0, 0) 37 [some (am_r (some 30)), none, none, some (am_i v3), none, some (am_i v5), some (am_i v6), some (am_i (v7 + 1)), none] [] (am_K0, σ)) : am_X (am_FI G (d + 1) Q) mX6_fewest (0, 0) 202 [some (am_r (some 30)), none, none, some (am_i v3), none, some (am_i v5), some (am_i v6), some (am_i v7), none] [] (am_K0, σ) := by
  refine am_r_iinc (nx := 205) rfl rfl (show decode cX6_fewest 202 = .ok (.iinc 7 1, 3) by decide +kernel) rfl ?_
  refine am_r_goto (tg := 37) (show decode cX6_fewest 205 = .ok (.goto (-168), 3) by decide +kernel) (by decide) ?_
  exact k
theorem S_X6_fewest_208 {G : am_G} {d : Nat} {Q : Int → am_D → Prop} {σ : am_D}   (k : Q (-1) σ) : am_X (am_FI G (d + 1) Q) mX6_fewest (0, 0) 208 [none, none, none, none, none, none, none, none, none] [] (am_K0, σ) := by
  refine am_r_iconst (nx := 209) (show decode cX6_fewest 208 = .ok (.iconst (-1), 1) by decide +kernel) rfl ?_
  exact am_r_iret rfl rfl (show decode cX6_fewest 209 = .ok (.ireturn, 1) by decide +kernel) ⟨_, _, rfl, rfl, k⟩
theorem S_X6_prepare_0 {G : am_G} {d : Nat} {Q : am_D → Prop} {σ : am_D} {v3 : Int} {v1 : Option Nat} {v2 : Option Nat}  (k : am_X (am_FV G (d + 1) Q) mX6_prepare (0, 0) 5 [some (am_r (some 30)), some (am_r v1), some (am_r v2), some (am_i v3)] [] (am_K0, (am_pR σ 30 4 v2))) : am_X (am_FV G (d + 1) Q) mX6_prepare (0, 0) 0 [some (am_r (some 30)), some (am_r v1), some (am_r v2), some (am_i v3)] [] (am_K0, σ) := by
  refine am_r_aload_n (nx := 1) rfl rfl (show decode cX6_prepare 0 = .ok (.aload_n 0, 1) by decide +kernel) rfl ?_
  refine am_r_aload_n (nx := 2) rfl rfl (show decode cX6_prepare 1 = .ok (.aload_n 2, 1) by decide +kernel) rfl ?_
  refine am_r_putR (nx := 5) (C2 := "TreeStream$Machine") 4 cw6 (by decide) rfl (Or.inl fl_X6_62) (ob_30) rfl rfl (show decode cX6_prepare 2 = .ok (.putfield 62, 3) by decide +kernel) rfl ?_
  exact k
theorem S_X6_prepare_5 {G : am_G} {d : Nat} {Q : am_D → Prop} {σ : am_D} {v3 : Int} {v1 : Option Nat} {v2 : Option Nat} (hz1 : v3 = 0 ∨ v3 = 1) (k : am_X (am_FV G (d + 1) Q) mX6_prepare (0, 0) 10 [some (am_r (some 30)), some (am_r v1), some (am_r v2), none] [] (am_K0, (am_pI σ 30 5 v3))) : am_X (am_FV G (d + 1) Q) mX6_prepare (0, 0) 5 [some (am_r (some 30)), some (am_r v1), some (am_r v2), some (am_i v3)] [] (am_K0, σ) := by
  refine am_r_aload_n (nx := 6) rfl rfl (show decode cX6_prepare 5 = .ok (.aload_n 0, 1) by decide +kernel) rfl ?_
  refine am_r_iload_n (nx := 7) rfl rfl (show decode cX6_prepare 6 = .ok (.iload_n 3, 1) by decide +kernel) rfl ?_
  refine am_r_putI (nx := 10) 5 cw6 (by decide) rfl (Or.inl fl_X6_37) (ob_30) rfl (Or.inr ⟨rfl, hz1⟩) (show decode cX6_prepare 7 = .ok (.putfield 37, 3) by decide +kernel) rfl ?_
  exact am_x_fg [3] k
theorem S_X6_prepare_10 {G : am_G} {d : Nat} {Q : am_D → Prop} {σ : am_D} {v1 : Option Nat} {v2 : Option Nat}  (k : am_X (am_FV G (d + 1) Q) mX6_prepare (0, 0) 15 [some (am_r (some 30)), some (am_r v1), some (am_r v2), none] [] (am_K0, (am_pI σ 30 6 0))) : am_X (am_FV G (d + 1) Q) mX6_prepare (0, 0) 10 [some (am_r (some 30)), some (am_r v1), some (am_r v2), none] [] (am_K0, σ) := by
  refine am_r_aload_n (nx := 11) rfl rfl (show decode cX6_prepare 10 = .ok (.aload_n 0, 1) by decide +kernel) rfl ?_
  refine am_r_iconst (nx := 12) (show decode cX6_prepare 11 = .ok (.iconst 0, 1) by decide +kernel) rfl ?_
  refine am_r_putI (nx := 15) 6 cw6 (by decide) rfl (Or.inl fl_X6_54) (ob_30) rfl (Or.inl rfl) (show decode cX6_prepare 12 = .ok (.putfield 54, 3) by decide +kernel) rfl ?_
  exact k
theorem S_X6_prepare_15 {G : am_G} {d : Nat} {Q : am_D → Prop} {σ : am_D} {Q' : am_D → Prop} {v1 : Option Nat} {v2 : Option Nat} (hc : am_MV G d mX0_clear [am_r (some 8)] σ Q') (k : ∀ σ' : am_D, Q' σ' → am_X (am_FV G (d + 1) Q) mX6_prepare (0, 0) 22 [some (am_r (some 30)), some (am_r v1), some (am_r v2), none] [] (am_K0, σ')) : am_X (am_FV G (d + 1) Q) mX6_prepare (0, 0) 15 [some (am_r (some 30)), some (am_r v1), some (am_r v2), none] [] (am_K0, σ) := by
  refine am_r_aload_n (nx := 16) rfl rfl (show decode cX6_prepare 15 = .ok (.aload_n 0, 1) by decide +kernel) rfl ?_
  refine am_r_getF (nx := 19) 3 cw6 (by decide) rfl (Or.inl fl_X6_22) (ob_30) (fn_30_3) (show decode cX6_prepare 16 = .ok (.getfield 22, 3) by decide +kernel) rfl ?_
  refine am_r_callV (as := []) (st := []) hc mb_X0_clear mv_X0_clear (Or.inl ml_X6_66) (obE (by unfold am_isE; decide)) (by omega) (r := (RX0, TX0, 2)) rfl rfl rfl rfl (Nat.le_of_ble_eq_true rfl) ⟨Nat.le_refl _, Nat.le_refl _⟩ ⟨Nat.le_refl _, Nat.le_refl _⟩ (show decode cX6_prepare 19 = .ok (.invokevirtual 66, 3) by decide +kernel) ?_
  rintro _ _ ⟨σ', rfl, rfl, hq⟩ _
  exact (k σ' hq)
theorem S_X6_prepare_22 {G : am_G} {d : Nat} {Q : am_D → Prop} {σ : am_D} {v1 : Option Nat} {Q' : am_D → Prop} {v2 : Option Nat} (hc : am_MV G d mX3_start [am_r (some 16), am_r v1] σ Q') (k : ∀ σ' : am_D, Q' σ' → am_X (am_FV G (d + 1) Q) mX6_prepare (0, 0) 30 [some (am_r (some 30)), none, some (am_r v2), none] [] (am_K0, σ')) : am_X (am_FV G (d + 1) Q) mX6_prepare (0, 0) 22 [some (am_r (some 30)), some (am_r v1), some (am_r v2), none] [] (am_K0, σ) := by
  refine am_r_aload_n (nx := 23) rfl rfl (show decode cX6_prepare 22 = .ok (.aload_n 0, 1) by decide +kernel) rfl ?_
  refine am_r_getF (nx := 26) 0 cw6 (by decide) rfl (Or.inl fl_X6_9) (ob_30) (fn_30_0) (show decode cX6_prepare 23 = .ok (.getfield 9, 3) by decide +kernel) rfl ?_
  refine am_r_aload_n (nx := 27) rfl rfl (show decode cX6_prepare 26 = .ok (.aload_n 1, 1) by decide +kernel) rfl ?_
  refine am_r_callV (as := [am_r v1]) (st := []) hc mb_X3_start mv_X3_start (Or.inl ml_X6_69) (obR (by unfold am_isR; decide)) (by omega) (r := (RX3, TX3, 9)) rfl rfl rfl rfl (Nat.le_of_ble_eq_true rfl) ⟨Nat.le_refl _, Nat.le_refl _⟩ ⟨Nat.le_refl _, Nat.le_refl _⟩ (show decode cX6_prepare 27 = .ok (.invokevirtual 69, 3) by decide +kernel) ?_
  rintro _ _ ⟨σ', rfl, rfl, hq⟩ _
  exact am_x_fg [1] (k σ' hq)
theorem S_X6_prepare_30 {G : am_G} {d : Nat} {Q : am_D → Prop} {σ : am_D} {v2 : Option Nat} {Q' : am_D → Prop} (hc : am_MV G d mX3_start [am_r (some 20), am_r v2] σ Q') (k : ∀ σ' : am_D, Q' σ' → am_X (am_FV G (d + 1) Q) mX6_prepare (0, 0) 38 [none, none, none, none] [] (am_K0, σ')) : am_X (am_FV G (d + 1) Q) mX6_prepare (0, 0) 30 [some (am_r (some 30)), none, some (am_r v2), none] [] (am_K0, σ) := by
  refine am_r_aload_n (nx := 31) rfl rfl (show decode cX6_prepare 30 = .ok (.aload_n 0, 1) by decide +kernel) rfl ?_
  refine am_r_getF (nx := 34) 1 cw6 (by decide) rfl (Or.inl fl_X6_15) (ob_30) (fn_30_1) (show decode cX6_prepare 31 = .ok (.getfield 15, 3) by decide +kernel) rfl ?_
  refine am_r_aload_n (nx := 35) rfl rfl (show decode cX6_prepare 34 = .ok (.aload_n 2, 1) by decide +kernel) rfl ?_
  refine am_r_callV (as := [am_r v2]) (st := []) hc mb_X3_start mv_X3_start (Or.inl ml_X6_69) (obR (by unfold am_isR; decide)) (by omega) (r := (RX3, TX3, 9)) rfl rfl rfl rfl (Nat.le_of_ble_eq_true rfl) ⟨Nat.le_refl _, Nat.le_refl _⟩ ⟨Nat.le_refl _, Nat.le_refl _⟩ (show decode cX6_prepare 35 = .ok (.invokevirtual 69, 3) by decide +kernel) ?_
  rintro _ _ ⟨σ', rfl, rfl, hq⟩ _
  exact am_x_fg [0, 2] (k σ' hq)
theorem S_X6_prepare_38 {G : am_G} {d : Nat} {Q : am_D → Prop} {σ : am_D}   (k : Q σ) : am_X (am_FV G (d + 1) Q) mX6_prepare (0, 0) 38 [none, none, none, none] [] (am_K0, σ) := by
  exact am_r_vret rfl (show decode cX6_prepare 38 = .ok (.return_, 1) by decide +kernel) ⟨_, rfl, rfl, k⟩
theorem S_X6_reads_0 {G : am_G} {d : Nat} {Q : Int → am_D → Prop} {σ : am_D} {v1 : Nat} {Q' : Int → am_D → Prop} (hc1 : am_isR v1) (hc : am_MI G d mX0_size [am_r (some 8)] σ Q') (k : ∀ (x : Int) (σ' : am_D), Q' x σ' → am_X (am_FI G (d + 1) Q) mX6_reads (0, 0) 11 [none, none] [am_i x, am_i (σ.1 v1 5)] (am_K0, σ')) : am_X (am_FI G (d + 1) Q) mX6_reads (0, 0) 0 [some (am_r (some 30)), some (am_r (some v1))] [] (am_K0, σ) := by
  refine am_r_aload_n (nx := 1) rfl rfl (show decode cX6_reads 0 = .ok (.aload_n 1, 1) by decide +kernel) rfl ?_
  refine am_r_getI (nx := 4) 5 cw3 (by decide) rfl (Or.inr ⟨_, fl_X6_75⟩) (obR hc1) (show decode cX6_reads 1 = .ok (.getfield 75, 3) by decide +kernel) rfl ?_
  refine am_r_aload_n (nx := 5) rfl rfl (show decode cX6_reads 4 = .ok (.aload_n 0, 1) by decide +kernel) rfl ?_
  refine am_r_getF (nx := 8) 3 cw6 (by decide) rfl (Or.inl fl_X6_22) (ob_30) (fn_30_3) (show decode cX6_reads 5 = .ok (.getfield 22, 3) by decide +kernel) rfl ?_
  refine am_r_callV (as := []) (st := [am_i (σ.1 v1 5)]) hc mb_X0_size mv_X0_size (Or.inl ml_X6_31) (obE (by unfold am_isE; decide)) (by omega) (r := (RX0, TX0, 2)) rfl rfl rfl rfl (Nat.le_of_ble_eq_true rfl) ⟨Nat.le_refl _, Nat.le_refl _⟩ ⟨Nat.le_refl _, Nat.le_refl _⟩ (show decode cX6_reads 8 = .ok (.invokevirtual 31, 3) by decide +kernel) ?_
  rintro _ _ ⟨x, σ', rfl, rfl, hq⟩ _
  exact am_x_fg [0, 1] (k x σ' hq)
theorem S_X6_reads_11 {G : am_G} {d : Nat} {Q : Int → am_D → Prop} {σ : am_D} {s0 : Int} {s1 : Int} (hr1 : -2147483648 ≤ s0 ∧ s0 ≤ 2147483647) (hr2 : -2147483648 ≤ s1 ∧ s1 ≤ 2147483647) (k1 : ¬ s0 = s1 → am_X (am_FI G (d + 1) Q) mX6_reads (0, 0) 18 [none, none] [] (am_K0, σ)) (k2 : ¬ (¬ s0 = s1) → am_X (am_FI G (d + 1) Q) mX6_reads (0, 0) 14 [none, none] [] (am_K0, σ)) : am_X (am_FI G (d + 1) Q) mX6_reads (0, 0) 11 [none, none] [am_i s1, am_i s0] (am_K0, σ) := by
  refine am_r_icmp_ne (tg := 18) (nx := 14) (show decode cX6_reads 11 = .ok (.if_icmp .ne 7, 3) by decide +kernel) (by decide) rfl hr1 hr2 ?_ ?_
  · exact fun q => k1 q
  · exact fun q => k2 q
theorem S_X6_reads_14 {G : am_G} {d : Nat} {Q : Int → am_D → Prop} {σ : am_D}   (k : am_X (am_FI G (d + 1) Q) mX6_reads (0, 0) 19 [none, none] [am_i 1] (am_K0, σ)) : am_X (am_FI G (d + 1) Q) mX6_reads (0, 0) 14 [none, none] [] (am_K0, σ) := by
  refine am_r_iconst (nx := 15) (show decode cX6_reads 14 = .ok (.iconst 1, 1) by decide +kernel) rfl ?_
  refine am_r_goto (tg := 19) (show decode cX6_reads 15 = .ok (.goto 4, 3) by decide +kernel) (by decide) ?_
  exact k
theorem S_X6_reads_18 {G : am_G} {d : Nat} {Q : Int → am_D → Prop} {σ : am_D}   (k : am_X (am_FI G (d + 1) Q) mX6_reads (0, 0) 19 [none, none] [am_i 0] (am_K0, σ)) : am_X (am_FI G (d + 1) Q) mX6_reads (0, 0) 18 [none, none] [] (am_K0, σ) := by
  refine am_r_iconst (nx := 19) (show decode cX6_reads 18 = .ok (.iconst 0, 1) by decide +kernel) rfl ?_
  exact k
theorem S_X6_reads_19 {G : am_G} {d : Nat} {Q : Int → am_D → Prop} {σ : am_D} {s0 : Int} (hz : s0 = 0 ∨ s0 = 1) (k : Q s0 σ) : am_X (am_FI G (d + 1) Q) mX6_reads (0, 0) 19 [none, none] [am_i s0] (am_K0, σ) := by
  exact am_r_iret rfl (by rcases hz with hz | hz <;> rw [hz] <;> rfl) (show decode cX6_reads 19 = .ok (.ireturn, 1) by decide +kernel) ⟨_, _, rfl, rfl, k⟩
theorem S_X6_hopeless_0 {G : am_G} {d : Nat} {Q : Int → am_D → Prop} {σ : am_D} {Q' : Int → am_D → Prop} (hc : am_MI G d mX6_reads [am_r (some 30), am_r (some 16)] σ Q') (k : ∀ (x : Int) (σ' : am_D), Q' x σ' → am_X (am_FI G (d + 1) Q) mX6_hopeless (0, 0) 8 [some (am_r (some 30))] [am_i x] (am_K0, σ')) : am_X (am_FI G (d + 1) Q) mX6_hopeless (0, 0) 0 [some (am_r (some 30))] [] (am_K0, σ) := by
  refine am_r_aload_n (nx := 1) rfl rfl (show decode cX6_hopeless 0 = .ok (.aload_n 0, 1) by decide +kernel) rfl ?_
  refine am_r_aload_n (nx := 2) rfl rfl (show decode cX6_hopeless 1 = .ok (.aload_n 0, 1) by decide +kernel) rfl ?_
  refine am_r_getF (nx := 5) 0 cw6 (by decide) rfl (Or.inl fl_X6_9) (ob_30) (fn_30_0) (show decode cX6_hopeless 2 = .ok (.getfield 9, 3) by decide +kernel) rfl ?_
  refine am_r_callV (as := [am_r (some 16)]) (st := []) hc mb_X6_reads mv_X6_reads (Or.inl ml_X6_78) (ob_30) (by omega) (r := (RX6, TX6, 7)) rfl rfl rfl rfl (Nat.le_of_ble_eq_true rfl) ⟨Nat.le_refl _, Nat.le_refl _⟩ ⟨Nat.le_refl _, Nat.le_refl _⟩ (show decode cX6_hopeless 5 = .ok (.invokevirtual 78, 3) by decide +kernel) ?_
  rintro _ _ ⟨x, σ', rfl, rfl, hq⟩ _
  exact (k x σ' hq)
theorem S_X6_hopeless_8 {G : am_G} {d : Nat} {Q : Int → am_D → Prop} {σ : am_D} {s0 : Int} (hr1 : -2147483648 ≤ s0 ∧ s0 ≤ 2147483647) (k1 : ¬ s0 = 0 → am_X (am_FI G (d + 1) Q) mX6_hopeless (0, 0) 33 [none] [] (am_K0, σ)) (k2 : ¬ (¬ s0 = 0) → am_X (am_FI G (d + 1) Q) mX6_hopeless (0, 0) 11 [some (am_r (some 30))] [] (am_K0, σ)) : am_X (am_FI G (d + 1) Q) mX6_hopeless (0, 0) 8 [some (am_r (some 30))] [am_i s0] (am_K0, σ) := by
  refine am_r_if_ne (tg := 33) (nx := 11) (show decode cX6_hopeless 8 = .ok (.ifCond .ne 25, 3) by decide +kernel) (by decide) rfl hr1 ?_ ?_
  · exact fun q => am_x_fg [0] (k1 q)
  · exact fun q => k2 q
theorem S_X6_hopeless_11 {G : am_G} {d : Nat} {Q : Int → am_D → Prop} {σ : am_D}  (hr1 : -2147483648 ≤ (σ.1 30 5) ∧ (σ.1 30 5) ≤ 2147483647) (k1 : ¬ (σ.1 30 5) = 0 → am_X (am_FI G (d + 1) Q) mX6_hopeless (0, 0) 29 [none] [] (am_K0, σ)) (k2 : ¬ (¬ (σ.1 30 5) = 0) → am_X (am_FI G (d + 1) Q) mX6_hopeless (0, 0) 18 [some (am_r (some 30))] [] (am_K0, σ)) : am_X (am_FI G (d + 1) Q) mX6_hopeless (0, 0) 11 [some (am_r (some 30))] [] (am_K0, σ) := by
  refine am_r_aload_n (nx := 12) rfl rfl (show decode cX6_hopeless 11 = .ok (.aload_n 0, 1) by decide +kernel) rfl ?_
  refine am_r_getI (nx := 15) 5 cw6 (by decide) rfl (Or.inl fl_X6_37) (ob_30) (show decode cX6_hopeless 12 = .ok (.getfield 37, 3) by decide +kernel) rfl ?_
  refine am_r_if_ne (tg := 29) (nx := 18) (show decode cX6_hopeless 15 = .ok (.ifCond .ne 14, 3) by decide +kernel) (by decide) rfl hr1 ?_ ?_
  · exact fun q => am_x_fg [0] (k1 q)
  · exact fun q => k2 q
theorem S_X6_hopeless_18 {G : am_G} {d : Nat} {Q : Int → am_D → Prop} {σ : am_D} {Q' : Int → am_D → Prop} (hc : am_MI G d mX6_reads [am_r (some 30), am_r (some 20)] σ Q') (k : ∀ (x : Int) (σ' : am_D), Q' x σ' → am_X (am_FI G (d + 1) Q) mX6_hopeless (0, 0) 26 [none] [am_i x] (am_K0, σ')) : am_X (am_FI G (d + 1) Q) mX6_hopeless (0, 0) 18 [some (am_r (some 30))] [] (am_K0, σ) := by
  refine am_r_aload_n (nx := 19) rfl rfl (show decode cX6_hopeless 18 = .ok (.aload_n 0, 1) by decide +kernel) rfl ?_
  refine am_r_aload_n (nx := 20) rfl rfl (show decode cX6_hopeless 19 = .ok (.aload_n 0, 1) by decide +kernel) rfl ?_
  refine am_r_getF (nx := 23) 1 cw6 (by decide) rfl (Or.inl fl_X6_15) (ob_30) (fn_30_1) (show decode cX6_hopeless 20 = .ok (.getfield 15, 3) by decide +kernel) rfl ?_
  refine am_r_callV (as := [am_r (some 20)]) (st := []) hc mb_X6_reads mv_X6_reads (Or.inl ml_X6_78) (ob_30) (by omega) (r := (RX6, TX6, 7)) rfl rfl rfl rfl (Nat.le_of_ble_eq_true rfl) ⟨Nat.le_refl _, Nat.le_refl _⟩ ⟨Nat.le_refl _, Nat.le_refl _⟩ (show decode cX6_hopeless 23 = .ok (.invokevirtual 78, 3) by decide +kernel) ?_
  rintro _ _ ⟨x, σ', rfl, rfl, hq⟩ _
  exact am_x_fg [0] (k x σ' hq)
theorem S_X6_hopeless_26 {G : am_G} {d : Nat} {Q : Int → am_D → Prop} {σ : am_D} {s0 : Int} (hr1 : -2147483648 ≤ s0 ∧ s0 ≤ 2147483647) (k1 : ¬ s0 = 0 → am_X (am_FI G (d + 1) Q) mX6_hopeless (0, 0) 33 [none] [] (am_K0, σ)) (k2 : ¬ (¬ s0 = 0) → am_X (am_FI G (d + 1) Q) mX6_hopeless (0, 0) 29 [none] [] (am_K0, σ)) : am_X (am_FI G (d + 1) Q) mX6_hopeless (0, 0) 26 [none] [am_i s0] (am_K0, σ) := by
  refine am_r_if_ne (tg := 33) (nx := 29) (show decode cX6_hopeless 26 = .ok (.ifCond .ne 7, 3) by decide +kernel) (by decide) rfl hr1 ?_ ?_
  · exact fun q => k1 q
  · exact fun q => k2 q
theorem S_X6_hopeless_29 {G : am_G} {d : Nat} {Q : Int → am_D → Prop} {σ : am_D}   (k : am_X (am_FI G (d + 1) Q) mX6_hopeless (0, 0) 34 [none] [am_i 1] (am_K0, σ)) : am_X (am_FI G (d + 1) Q) mX6_hopeless (0, 0) 29 [none] [] (am_K0, σ) := by
  refine am_r_iconst (nx := 30) (show decode cX6_hopeless 29 = .ok (.iconst 1, 1) by decide +kernel) rfl ?_
  refine am_r_goto (tg := 34) (show decode cX6_hopeless 30 = .ok (.goto 4, 3) by decide +kernel) (by decide) ?_
  exact k
theorem S_X6_hopeless_33 {G : am_G} {d : Nat} {Q : Int → am_D → Prop} {σ : am_D}   (k : am_X (am_FI G (d + 1) Q) mX6_hopeless (0, 0) 34 [none] [am_i 0] (am_K0, σ)) : am_X (am_FI G (d + 1) Q) mX6_hopeless (0, 0) 33 [none] [] (am_K0, σ) := by
  refine am_r_iconst (nx := 34) (show decode cX6_hopeless 33 = .ok (.iconst 0, 1) by decide +kernel) rfl ?_
  exact k
theorem S_X6_hopeless_34 {G : am_G} {d : Nat} {Q : Int → am_D → Prop} {σ : am_D} {s0 : Int} (hz : s0 = 0 ∨ s0 = 1) (k : Q s0 σ) : am_X (am_FI G (d + 1) Q) mX6_hopeless (0, 0) 34 [none] [am_i s0] (am_K0, σ) := by
  exact am_r_iret rfl (by rcases hz with hz | hz <;> rw [hz] <;> rfl) (show decode cX6_hopeless 34 = .ok (.ireturn, 1) by decide +kernel) ⟨_, _, rfl, rfl, k⟩
theorem S_X6_go_0 {G : am_G} {d : Nat} {Q : am_D → Prop} {σ : am_D} {v1 : Int} {Q' : Int → am_D → Prop} (hc : am_MI G d mX6_reads [am_r (some 30), am_r (some 16)] σ Q') (k : ∀ (x : Int) (σ' : am_D), Q' x σ' → am_X (am_FV G (d + 1) Q) mX6_go (0, 0) 8 [some (am_r (some 30)), some (am_i v1)] [am_i x] (am_K0, σ')) : am_X (am_FV G (d + 1) Q) mX6_go (0, 0) 0 [some (am_r (some 30)), some (am_i v1)] [] (am_K0, σ) := by
  refine am_r_aload_n (nx := 1) rfl rfl (show decode cX6_go 0 = .ok (.aload_n 0, 1) by decide +kernel) rfl ?_
  refine am_r_aload_n (nx := 2) rfl rfl (show decode cX6_go 1 = .ok (.aload_n 0, 1) by decide +kernel) rfl ?_
  refine am_r_getF (nx := 5) 0 cw6 (by decide) rfl (Or.inl fl_X6_9) (ob_30) (fn_30_0) (show decode cX6_go 2 = .ok (.getfield 9, 3) by decide +kernel) rfl ?_
  refine am_r_callV (as := [am_r (some 16)]) (st := []) hc mb_X6_reads mv_X6_reads (Or.inl ml_X6_78) (ob_30) (by omega) (r := (RX6, TX6, 7)) rfl rfl rfl rfl (Nat.le_of_ble_eq_true rfl) ⟨Nat.le_refl _, Nat.le_refl _⟩ ⟨Nat.le_refl _, Nat.le_refl _⟩ (show decode cX6_go 5 = .ok (.invokevirtual 78, 3) by decide +kernel) ?_
  rintro _ _ ⟨x, σ', rfl, rfl, hq⟩ _
  exact (k x σ' hq)
theorem S_X6_go_8 {G : am_G} {d : Nat} {Q : am_D → Prop} {σ : am_D} {v1 : Int} {s0 : Int} (hr1 : -2147483648 ≤ s0 ∧ s0 ≤ 2147483647) (k1 : s0 = 0 → am_X (am_FV G (d + 1) Q) mX6_go (0, 0) 20 [some (am_r (some 30)), some (am_i v1)] [] (am_K0, σ)) (k2 : ¬ (s0 = 0) → am_X (am_FV G (d + 1) Q) mX6_go (0, 0) 11 [some (am_r (some 30)), some (am_i v1)] [] (am_K0, σ)) : am_X (am_FV G (d + 1) Q) mX6_go (0, 0) 8 [some (am_r (some 30)), some (am_i v1)] [am_i s0] (am_K0, σ) := by
  refine am_r_if_eq (tg := 20) (nx := 11) (show decode cX6_go 8 = .ok (.ifCond .eq 12, 3) by decide +kernel) (by decide) rfl hr1 ?_ ?_
  · exact fun q => k1 q
  · exact fun q => k2 q
theorem S_X6_go_11 {G : am_G} {d : Nat} {Q : am_D → Prop} {σ : am_D} {v1 : Int} {Q' : Int → am_D → Prop} (hc : am_MI G d mX3_step [am_r (some 16), am_i v1] σ Q') (k : ∀ (x : Int) (σ' : am_D), Q' x σ' → am_X (am_FV G (d + 1) Q) mX6_go (0, 0) 20 [some (am_r (some 30)), some (am_i v1)] [] (am_K0, σ')) : am_X (am_FV G (d + 1) Q) mX6_go (0, 0) 11 [some (am_r (some 30)), some (am_i v1)] [] (am_K0, σ) := by
  refine am_r_aload_n (nx := 12) rfl rfl (show decode cX6_go 11 = .ok (.aload_n 0, 1) by decide +kernel) rfl ?_
  refine am_r_getF (nx := 15) 0 cw6 (by decide) rfl (Or.inl fl_X6_9) (ob_30) (fn_30_0) (show decode cX6_go 12 = .ok (.getfield 9, 3) by decide +kernel) rfl ?_
  refine am_r_iload_n (nx := 16) rfl rfl (show decode cX6_go 15 = .ok (.iload_n 1, 1) by decide +kernel) rfl ?_
  refine am_r_callV (as := [am_i v1]) (st := []) hc mb_X3_step mv_X3_step (Or.inl ml_X6_82) (obR (by unfold am_isR; decide)) (by omega) (r := (RX3, TX3, 9)) rfl rfl rfl rfl (Nat.le_of_ble_eq_true rfl) ⟨Nat.le_refl _, Nat.le_refl _⟩ ⟨Nat.le_refl _, Nat.le_refl _⟩ (show decode cX6_go 16 = .ok (.invokevirtual 82, 3) by decide +kernel) ?_
  rintro _ _ ⟨x, σ', rfl, rfl, hq⟩ _
  refine am_r_pop (nx := 20) (show decode cX6_go 19 = .ok (.pop, 1) by decide +kernel) rfl ?_
  exact (k x σ' hq)
theorem S_X6_go_20 {G : am_G} {d : Nat} {Q : am_D → Prop} {σ : am_D} {v1 : Int} (hr1 : -2147483648 ≤ (σ.1 30 5) ∧ (σ.1 30 5) ≤ 2147483647) (k1 : ¬ (σ.1 30 5) = 0 → am_X (am_FV G (d + 1) Q) mX6_go (0, 0) 47 [some (am_r (some 30)), some (am_i v1)] [] (am_K0, σ)) (k2 : ¬ (¬ (σ.1 30 5) = 0) → am_X (am_FV G (d + 1) Q) mX6_go (0, 0) 27 [some (am_r (some 30)), some (am_i v1)] [] (am_K0, σ)) : am_X (am_FV G (d + 1) Q) mX6_go (0, 0) 20 [some (am_r (some 30)), some (am_i v1)] [] (am_K0, σ) := by
  refine am_r_aload_n (nx := 21) rfl rfl (show decode cX6_go 20 = .ok (.aload_n 0, 1) by decide +kernel) rfl ?_
  refine am_r_getI (nx := 24) 5 cw6 (by decide) rfl (Or.inl fl_X6_37) (ob_30) (show decode cX6_go 21 = .ok (.getfield 37, 3) by decide +kernel) rfl ?_
  refine am_r_if_ne (tg := 47) (nx := 27) (show decode cX6_go 24 = .ok (.ifCond .ne 23, 3) by decide +kernel) (by decide) rfl hr1 ?_ ?_
  · exact fun q => k1 q
  · exact fun q => k2 q
theorem S_X6_go_27 {G : am_G} {d : Nat} {Q : am_D → Prop} {σ : am_D} {v1 : Int} {Q' : Int → am_D → Prop} (hc : am_MI G d mX6_reads [am_r (some 30), am_r (some 20)] σ Q') (k : ∀ (x : Int) (σ' : am_D), Q' x σ' → am_X (am_FV G (d + 1) Q) mX6_go (0, 0) 35 [some (am_r (some 30)), some (am_i v1)] [am_i x] (am_K0, σ')) : am_X (am_FV G (d + 1) Q) mX6_go (0, 0) 27 [some (am_r (some 30)), some (am_i v1)] [] (am_K0, σ) := by
  refine am_r_aload_n (nx := 28) rfl rfl (show decode cX6_go 27 = .ok (.aload_n 0, 1) by decide +kernel) rfl ?_
  refine am_r_aload_n (nx := 29) rfl rfl (show decode cX6_go 28 = .ok (.aload_n 0, 1) by decide +kernel) rfl ?_
  refine am_r_getF (nx := 32) 1 cw6 (by decide) rfl (Or.inl fl_X6_15) (ob_30) (fn_30_1) (show decode cX6_go 29 = .ok (.getfield 15, 3) by decide +kernel) rfl ?_
  refine am_r_callV (as := [am_r (some 20)]) (st := []) hc mb_X6_reads mv_X6_reads (Or.inl ml_X6_78) (ob_30) (by omega) (r := (RX6, TX6, 7)) rfl rfl rfl rfl (Nat.le_of_ble_eq_true rfl) ⟨Nat.le_refl _, Nat.le_refl _⟩ ⟨Nat.le_refl _, Nat.le_refl _⟩ (show decode cX6_go 32 = .ok (.invokevirtual 78, 3) by decide +kernel) ?_
  rintro _ _ ⟨x, σ', rfl, rfl, hq⟩ _
  exact (k x σ' hq)
theorem S_X6_go_35 {G : am_G} {d : Nat} {Q : am_D → Prop} {σ : am_D} {v1 : Int} {s0 : Int} (hr1 : -2147483648 ≤ s0 ∧ s0 ≤ 2147483647) (k1 : s0 = 0 → am_X (am_FV G (d + 1) Q) mX6_go (0, 0) 47 [some (am_r (some 30)), some (am_i v1)] [] (am_K0, σ)) (k2 : ¬ (s0 = 0) → am_X (am_FV G (d + 1) Q) mX6_go (0, 0) 38 [some (am_r (some 30)), some (am_i v1)] [] (am_K0, σ)) : am_X (am_FV G (d + 1) Q) mX6_go (0, 0) 35 [some (am_r (some 30)), some (am_i v1)] [am_i s0] (am_K0, σ) := by
  refine am_r_if_eq (tg := 47) (nx := 38) (show decode cX6_go 35 = .ok (.ifCond .eq 12, 3) by decide +kernel) (by decide) rfl hr1 ?_ ?_
  · exact fun q => k1 q
  · exact fun q => k2 q
theorem S_X6_go_38 {G : am_G} {d : Nat} {Q : am_D → Prop} {σ : am_D} {v1 : Int} {Q' : Int → am_D → Prop} (hc : am_MI G d mX3_step [am_r (some 20), am_i v1] σ Q') (k : ∀ (x : Int) (σ' : am_D), Q' x σ' → am_X (am_FV G (d + 1) Q) mX6_go (0, 0) 47 [some (am_r (some 30)), some (am_i v1)] [] (am_K0, σ')) : am_X (am_FV G (d + 1) Q) mX6_go (0, 0) 38 [some (am_r (some 30)), some (am_i v1)] [] (am_K0, σ) := by
  refine am_r_aload_n (nx := 39) rfl rfl (show decode cX6_go 38 = .ok (.aload_n 0, 1) by decide +kernel) rfl ?_
  refine am_r_getF (nx := 42) 1 cw6 (by decide) rfl (Or.inl fl_X6_15) (ob_30) (fn_30_1) (show decode cX6_go 39 = .ok (.getfield 15, 3) by decide +kernel) rfl ?_
  refine am_r_iload_n (nx := 43) rfl rfl (show decode cX6_go 42 = .ok (.iload_n 1, 1) by decide +kernel) rfl ?_
  refine am_r_callV (as := [am_i v1]) (st := []) hc mb_X3_step mv_X3_step (Or.inl ml_X6_82) (obR (by unfold am_isR; decide)) (by omega) (r := (RX3, TX3, 9)) rfl rfl rfl rfl (Nat.le_of_ble_eq_true rfl) ⟨Nat.le_refl _, Nat.le_refl _⟩ ⟨Nat.le_refl _, Nat.le_refl _⟩ (show decode cX6_go 43 = .ok (.invokevirtual 82, 3) by decide +kernel) ?_
  rintro _ _ ⟨x, σ', rfl, rfl, hq⟩ _
  refine am_r_pop (nx := 47) (show decode cX6_go 46 = .ok (.pop, 1) by decide +kernel) rfl ?_
  exact (k x σ' hq)
theorem S_X6_go_47 {G : am_G} {d : Nat} {Q : am_D → Prop} {σ : am_D} {v1 : Int} {Q' : am_D → Prop} (hc : am_MV G d mX0_add [am_r (some 8), am_i v1] σ Q') (k : ∀ σ' : am_D, Q' σ' → am_X (am_FV G (d + 1) Q) mX6_go (0, 0) 55 [some (am_r (some 30)), some (am_i v1)] [] (am_K0, σ')) : am_X (am_FV G (d + 1) Q) mX6_go (0, 0) 47 [some (am_r (some 30)), some (am_i v1)] [] (am_K0, σ) := by
  refine am_r_aload_n (nx := 48) rfl rfl (show decode cX6_go 47 = .ok (.aload_n 0, 1) by decide +kernel) rfl ?_
  refine am_r_getF (nx := 51) 3 cw6 (by decide) rfl (Or.inl fl_X6_22) (ob_30) (fn_30_3) (show decode cX6_go 48 = .ok (.getfield 22, 3) by decide +kernel) rfl ?_
  refine am_r_iload_n (nx := 52) rfl rfl (show decode cX6_go 51 = .ok (.iload_n 1, 1) by decide +kernel) rfl ?_
  refine am_r_callV (as := [am_i v1]) (st := []) hc mb_X0_add mv_X0_add (Or.inl ml_X6_86) (obE (by unfold am_isE; decide)) (by omega) (r := (RX0, TX0, 2)) rfl rfl rfl rfl (Nat.le_of_ble_eq_true rfl) ⟨Nat.le_refl _, Nat.le_refl _⟩ ⟨Nat.le_refl _, Nat.le_refl _⟩ (show decode cX6_go 52 = .ok (.invokevirtual 86, 3) by decide +kernel) ?_
  rintro _ _ ⟨σ', rfl, rfl, hq⟩ _
  exact (k σ' hq)
theorem S_X6_go_55 {G : am_G} {d : Nat} {Q : am_D → Prop} {σ : am_D} {v1 : Int} (hr1 : -2147483648 ≤ v1 ∧ v1 ≤ 2147483647) (k1 : v1 = 3 → am_X (am_FV G (d + 1) Q) mX6_go (0, 0) 70 [none, none] [] (am_K0, σ)) (k2 : ¬ (v1 = 3) → am_X (am_FV G (d + 1) Q) mX6_go (0, 0) 60 [some (am_r (some 30)), none] [] (am_K0, σ)) : am_X (am_FV G (d + 1) Q) mX6_go (0, 0) 55 [some (am_r (some 30)), some (am_i v1)] [] (am_K0, σ) := by
  refine am_r_iload_n (nx := 56) rfl rfl (show decode cX6_go 55 = .ok (.iload_n 1, 1) by decide +kernel) rfl ?_
  refine am_r_iconst (nx := 57) (show decode cX6_go 56 = .ok (.iconst 3, 1) by decide +kernel) rfl ?_
  refine am_r_icmp_eq (tg := 70) (nx := 60) (show decode cX6_go 57 = .ok (.if_icmp .eq 13, 3) by decide +kernel) (by decide) rfl hr1 (by omega) ?_ ?_
  · exact fun q => am_x_fg [0, 1] (k1 q)
  · exact fun q => am_x_fg [1] (k2 q)
theorem S_X6_go_60 {G : am_G} {d : Nat} {Q : am_D → Prop} {σ : am_D}   (k : am_X (am_FV G (d + 1) Q) mX6_go (0, 0) 70 [none, none] [] (am_K0, (am_pI σ 30 6 ((σ.1 30 6) + 1)))) : am_X (am_FV G (d + 1) Q) mX6_go (0, 0) 60 [some (am_r (some 30)), none] [] (am_K0, σ) := by
  refine am_r_aload_n (nx := 61) rfl rfl (show decode cX6_go 60 = .ok (.aload_n 0, 1) by decide +kernel) rfl ?_
  refine am_r_dup (nx := 62) rfl (show decode cX6_go 61 = .ok (.dup, 1) by decide +kernel) rfl ?_
  refine am_r_getI (nx := 65) 6 cw6 (by decide) rfl (Or.inl fl_X6_54) (ob_30) (show decode cX6_go 62 = .ok (.getfield 54, 3) by decide +kernel) rfl ?_
  refine am_r_iconst (nx := 66) (show decode cX6_go 65 = .ok (.iconst 1, 1) by decide +kernel) rfl ?_
  refine am_r_iadd (nx := 67) (show decode cX6_go 66 = .ok (.iadd, 1) by decide +kernel) rfl ?_
  refine am_r_putI (nx := 70) 6 cw6 (by decide) rfl (Or.inl fl_X6_54) (ob_30) rfl (Or.inl rfl) (show decode cX6_go 67 = .ok (.putfield 54, 3) by decide +kernel) rfl ?_
  exact am_x_fg [0] k
theorem S_X6_go_70 {G : am_G} {d : Nat} {Q : am_D → Prop} {σ : am_D}   (k : Q σ) : am_X (am_FV G (d + 1) Q) mX6_go (0, 0) 70 [none, none] [] (am_K0, σ) := by
  exact am_r_vret rfl (show decode cX6_go 70 = .ok (.return_, 1) by decide +kernel) ⟨_, rfl, rfl, k⟩
theorem S_X6_goBack_0 {G : am_G} {d : Nat} {Q : Int → am_D → Prop} {σ : am_D} {Q' : Int → am_D → Prop} (hc : am_MI G d mX0_drop [am_r (some 8)] σ Q') (k : ∀ (x : Int) (σ' : am_D), Q' x σ' → am_X (am_FI G (d + 1) Q) mX6_goBack (0, 0) 8 [some (am_r (some 30)), some (am_i x)] [] (am_K0, σ')) : am_X (am_FI G (d + 1) Q) mX6_goBack (0, 0) 0 [some (am_r (some 30)), none] [] (am_K0, σ) := by
  refine am_r_aload_n (nx := 1) rfl rfl (show decode cX6_goBack 0 = .ok (.aload_n 0, 1) by decide +kernel) rfl ?_
  refine am_r_getF (nx := 4) 3 cw6 (by decide) rfl (Or.inl fl_X6_22) (ob_30) (fn_30_3) (show decode cX6_goBack 1 = .ok (.getfield 22, 3) by decide +kernel) rfl ?_
  refine am_r_callV (as := []) (st := []) hc mb_X0_drop mv_X0_drop (Or.inl ml_X6_89) (obE (by unfold am_isE; decide)) (by omega) (r := (RX0, TX0, 2)) rfl rfl rfl rfl (Nat.le_of_ble_eq_true rfl) ⟨Nat.le_refl _, Nat.le_refl _⟩ ⟨Nat.le_refl _, Nat.le_refl _⟩ (show decode cX6_goBack 4 = .ok (.invokevirtual 89, 3) by decide +kernel) ?_
  rintro _ _ ⟨x, σ', rfl, rfl, hq⟩ _
  refine am_r_istore_n (nx := 8) rfl (by decide) rfl (show decode cX6_goBack 7 = .ok (.istore_n 1, 1) by decide +kernel) rfl ?_
  exact (k x σ' hq)
theorem S_X6_goBack_8 {G : am_G} {d : Nat} {Q : Int → am_D → Prop} {σ : am_D} {v1 : Int} (hr1 : -2147483648 ≤ v1 ∧ v1 ≤ 2147483647) (k1 : v1 = 3 → am_X (am_FI G (d + 1) Q) mX6_goBack (0, 0) 23 [some (am_r (some 30)), some (am_i v1)] [] (am_K0, σ)) (k2 : ¬ (v1 = 3) → am_X (am_FI G (d + 1) Q) mX6_goBack (0, 0) 13 [some (am_r (some 30)), some (am_i v1)] [] (am_K0, σ)) : am_X (am_FI G (d + 1) Q) mX6_goBack (0, 0) 8 [some (am_r (some 30)), some (am_i v1)] [] (am_K0, σ) := by
  refine am_r_iload_n (nx := 9) rfl rfl (show decode cX6_goBack 8 = .ok (.iload_n 1, 1) by decide +kernel) rfl ?_
  refine am_r_iconst (nx := 10) (show decode cX6_goBack 9 = .ok (.iconst 3, 1) by decide +kernel) rfl ?_
  refine am_r_icmp_eq (tg := 23) (nx := 13) (show decode cX6_goBack 10 = .ok (.if_icmp .eq 13, 3) by decide +kernel) (by decide) rfl hr1 (by omega) ?_ ?_
  · exact fun q => k1 q
  · exact fun q => k2 q
theorem S_X6_goBack_13 {G : am_G} {d : Nat} {Q : Int → am_D → Prop} {σ : am_D} {v1 : Int}  (k : am_X (am_FI G (d + 1) Q) mX6_goBack (0, 0) 23 [some (am_r (some 30)), some (am_i v1)] [] (am_K0, (am_pI σ 30 6 ((σ.1 30 6) - 1)))) : am_X (am_FI G (d + 1) Q) mX6_goBack (0, 0) 13 [some (am_r (some 30)), some (am_i v1)] [] (am_K0, σ) := by
  refine am_r_aload_n (nx := 14) rfl rfl (show decode cX6_goBack 13 = .ok (.aload_n 0, 1) by decide +kernel) rfl ?_
  refine am_r_dup (nx := 15) rfl (show decode cX6_goBack 14 = .ok (.dup, 1) by decide +kernel) rfl ?_
  refine am_r_getI (nx := 18) 6 cw6 (by decide) rfl (Or.inl fl_X6_54) (ob_30) (show decode cX6_goBack 15 = .ok (.getfield 54, 3) by decide +kernel) rfl ?_
  refine am_r_iconst (nx := 19) (show decode cX6_goBack 18 = .ok (.iconst 1, 1) by decide +kernel) rfl ?_
  refine am_r_isub (nx := 20) (show decode cX6_goBack 19 = .ok (.isub, 1) by decide +kernel) rfl ?_
  refine am_r_putI (nx := 23) 6 cw6 (by decide) rfl (Or.inl fl_X6_54) (ob_30) rfl (Or.inl rfl) (show decode cX6_goBack 20 = .ok (.putfield 54, 3) by decide +kernel) rfl ?_
  exact k
theorem S_X6_goBack_23 {G : am_G} {d : Nat} {Q : Int → am_D → Prop} {σ : am_D} {v1 : Int} {Q' : Int → am_D → Prop} (hc : am_MI G d mX0_size [am_r (some 8)] σ Q') (k : ∀ (x : Int) (σ' : am_D), Q' x σ' → am_X (am_FI G (d + 1) Q) mX6_goBack (0, 0) 37 [some (am_r (some 30)), some (am_i v1)] [am_i x, am_i (σ.1 16 5)] (am_K0, σ')) : am_X (am_FI G (d + 1) Q) mX6_goBack (0, 0) 23 [some (am_r (some 30)), some (am_i v1)] [] (am_K0, σ) := by
  refine am_r_aload_n (nx := 24) rfl rfl (show decode cX6_goBack 23 = .ok (.aload_n 0, 1) by decide +kernel) rfl ?_
  refine am_r_getF (nx := 27) 0 cw6 (by decide) rfl (Or.inl fl_X6_9) (ob_30) (fn_30_0) (show decode cX6_goBack 24 = .ok (.getfield 9, 3) by decide +kernel) rfl ?_
  refine am_r_getI (nx := 30) 5 cw3 (by decide) rfl (Or.inr ⟨_, fl_X6_75⟩) (obR (by unfold am_isR; decide)) (show decode cX6_goBack 27 = .ok (.getfield 75, 3) by decide +kernel) rfl ?_
  refine am_r_aload_n (nx := 31) rfl rfl (show decode cX6_goBack 30 = .ok (.aload_n 0, 1) by decide +kernel) rfl ?_
  refine am_r_getF (nx := 34) 3 cw6 (by decide) rfl (Or.inl fl_X6_22) (ob_30) (fn_30_3) (show decode cX6_goBack 31 = .ok (.getfield 22, 3) by decide +kernel) rfl ?_
  refine am_r_callV (as := []) (st := [am_i (σ.1 16 5)]) hc mb_X0_size mv_X0_size (Or.inl ml_X6_31) (obE (by unfold am_isE; decide)) (by omega) (r := (RX0, TX0, 2)) rfl rfl rfl rfl (Nat.le_of_ble_eq_true rfl) ⟨Nat.le_refl _, Nat.le_refl _⟩ ⟨Nat.le_refl _, Nat.le_refl _⟩ (show decode cX6_goBack 34 = .ok (.invokevirtual 31, 3) by decide +kernel) ?_
  rintro _ _ ⟨x, σ', rfl, rfl, hq⟩ _
  exact (k x σ' hq)
theorem S_X6_goBack_37 {G : am_G} {d : Nat} {Q : Int → am_D → Prop} {σ : am_D} {v1 : Int} {s0 : Int} {s1 : Int} (hr1 : -2147483648 ≤ s0 ∧ s0 ≤ 2147483647) (hr2 : -2147483648 ≤ s1 ∧ s1 ≤ 2147483647) (k1 : s0 ≤ s1 → am_X (am_FI G (d + 1) Q) mX6_goBack (0, 0) 47 [some (am_r (some 30)), some (am_i v1)] [] (am_K0, σ)) (k2 : ¬ (s0 ≤ s1) → am_X (am_FI G (d + 1) Q) mX6_goBack (0, 0) 40 [some (am_r (some 30)), some (am_i v1)] [] (am_K0, σ)) : am_X (am_FI G (d + 1) Q) mX6_goBack (0, 0) 37 [some (am_r (some 30)), some (am_i v1)] [am_i s1, am_i s0] (am_K0, σ) := by
  refine am_r_icmp_le (tg := 47) (nx := 40) (show decode cX6_goBack 37 = .ok (.if_icmp .le 10, 3) by decide +kernel) (by decide) rfl hr1 hr2 ?_ ?_
  · exact fun q => k1 q
  · exact fun q => k2 q
theorem S_X6_goBack_40 {G : am_G} {d : Nat} {Q : Int → am_D → Prop} {σ : am_D} {v1 : Int} {Q' : am_D → Prop} (hc : am_MV G d mX3_stepBack [am_r (some 16)] σ Q') (k : ∀ σ' : am_D, Q' σ' → am_X (am_FI G (d + 1) Q) mX6_goBack (0, 0) 47 [some (am_r (some 30)), some (am_i v1)] [] (am_K0, σ')) : am_X (am_FI G (d + 1) Q) mX6_goBack (0, 0) 40 [some (am_r (some 30)), some (am_i v1)] [] (am_K0, σ) := by
  refine am_r_aload_n (nx := 41) rfl rfl (show decode cX6_goBack 40 = .ok (.aload_n 0, 1) by decide +kernel) rfl ?_
  refine am_r_getF (nx := 44) 0 cw6 (by decide) rfl (Or.inl fl_X6_9) (ob_30) (fn_30_0) (show decode cX6_goBack 41 = .ok (.getfield 9, 3) by decide +kernel) rfl ?_
  refine am_r_callV (as := []) (st := []) hc mb_X3_stepBack mv_X3_stepBack (Or.inl ml_X6_92) (obR (by unfold am_isR; decide)) (by omega) (r := (RX3, TX3, 9)) rfl rfl rfl rfl (Nat.le_of_ble_eq_true rfl) ⟨Nat.le_refl _, Nat.le_refl _⟩ ⟨Nat.le_refl _, Nat.le_refl _⟩ (show decode cX6_goBack 44 = .ok (.invokevirtual 92, 3) by decide +kernel) ?_
  rintro _ _ ⟨σ', rfl, rfl, hq⟩ _
  exact (k σ' hq)
theorem S_X6_goBack_47 {G : am_G} {d : Nat} {Q : Int → am_D → Prop} {σ : am_D} {v1 : Int} (hr1 : -2147483648 ≤ (σ.1 30 5) ∧ (σ.1 30 5) ≤ 2147483647) (k1 : ¬ (σ.1 30 5) = 0 → am_X (am_FI G (d + 1) Q) mX6_goBack (0, 0) 78 [none, some (am_i v1)] [] (am_K0, σ)) (k2 : ¬ (¬ (σ.1 30 5) = 0) → am_X (am_FI G (d + 1) Q) mX6_goBack (0, 0) 54 [some (am_r (some 30)), some (am_i v1)] [] (am_K0, σ)) : am_X (am_FI G (d + 1) Q) mX6_goBack (0, 0) 47 [some (am_r (some 30)), some (am_i v1)] [] (am_K0, σ) := by
  refine am_r_aload_n (nx := 48) rfl rfl (show decode cX6_goBack 47 = .ok (.aload_n 0, 1) by decide +kernel) rfl ?_
  refine am_r_getI (nx := 51) 5 cw6 (by decide) rfl (Or.inl fl_X6_37) (ob_30) (show decode cX6_goBack 48 = .ok (.getfield 37, 3) by decide +kernel) rfl ?_
  refine am_r_if_ne (tg := 78) (nx := 54) (show decode cX6_goBack 51 = .ok (.ifCond .ne 27, 3) by decide +kernel) (by decide) rfl hr1 ?_ ?_
  · exact fun q => am_x_fg [0] (k1 q)
  · exact fun q => k2 q
theorem S_X6_goBack_54 {G : am_G} {d : Nat} {Q : Int → am_D → Prop} {σ : am_D} {v1 : Int} {Q' : Int → am_D → Prop} (hc : am_MI G d mX0_size [am_r (some 8)] σ Q') (k : ∀ (x : Int) (σ' : am_D), Q' x σ' → am_X (am_FI G (d + 1) Q) mX6_goBack (0, 0) 68 [some (am_r (some 30)), some (am_i v1)] [am_i x, am_i (σ.1 20 5)] (am_K0, σ')) : am_X (am_FI G (d + 1) Q) mX6_goBack (0, 0) 54 [some (am_r (some 30)), some (am_i v1)] [] (am_K0, σ) := by
  refine am_r_aload_n (nx := 55) rfl rfl (show decode cX6_goBack 54 = .ok (.aload_n 0, 1) by decide +kernel) rfl ?_
  refine am_r_getF (nx := 58) 1 cw6 (by decide) rfl (Or.inl fl_X6_15) (ob_30) (fn_30_1) (show decode cX6_goBack 55 = .ok (.getfield 15, 3) by decide +kernel) rfl ?_
  refine am_r_getI (nx := 61) 5 cw3 (by decide) rfl (Or.inr ⟨_, fl_X6_75⟩) (obR (by unfold am_isR; decide)) (show decode cX6_goBack 58 = .ok (.getfield 75, 3) by decide +kernel) rfl ?_
  refine am_r_aload_n (nx := 62) rfl rfl (show decode cX6_goBack 61 = .ok (.aload_n 0, 1) by decide +kernel) rfl ?_
  refine am_r_getF (nx := 65) 3 cw6 (by decide) rfl (Or.inl fl_X6_22) (ob_30) (fn_30_3) (show decode cX6_goBack 62 = .ok (.getfield 22, 3) by decide +kernel) rfl ?_
  refine am_r_callV (as := []) (st := [am_i (σ.1 20 5)]) hc mb_X0_size mv_X0_size (Or.inl ml_X6_31) (obE (by unfold am_isE; decide)) (by omega) (r := (RX0, TX0, 2)) rfl rfl rfl rfl (Nat.le_of_ble_eq_true rfl) ⟨Nat.le_refl _, Nat.le_refl _⟩ ⟨Nat.le_refl _, Nat.le_refl _⟩ (show decode cX6_goBack 65 = .ok (.invokevirtual 31, 3) by decide +kernel) ?_
  rintro _ _ ⟨x, σ', rfl, rfl, hq⟩ _
  exact (k x σ' hq)
theorem S_X6_goBack_68 {G : am_G} {d : Nat} {Q : Int → am_D → Prop} {σ : am_D} {v1 : Int} {s0 : Int} {s1 : Int} (hr1 : -2147483648 ≤ s0 ∧ s0 ≤ 2147483647) (hr2 : -2147483648 ≤ s1 ∧ s1 ≤ 2147483647) (k1 : s0 ≤ s1 → am_X (am_FI G (d + 1) Q) mX6_goBack (0, 0) 78 [none, some (am_i v1)] [] (am_K0, σ)) (k2 : ¬ (s0 ≤ s1) → am_X (am_FI G (d + 1) Q) mX6_goBack (0, 0) 71 [some (am_r (some 30)), some (am_i v1)] [] (am_K0, σ)) : am_X (am_FI G (d + 1) Q) mX6_goBack (0, 0) 68 [some (am_r (some 30)), some (am_i v1)] [am_i s1, am_i s0] (am_K0, σ) := by
  refine am_r_icmp_le (tg := 78) (nx := 71) (show decode cX6_goBack 68 = .ok (.if_icmp .le 10, 3) by decide +kernel) (by decide) rfl hr1 hr2 ?_ ?_
  · exact fun q => am_x_fg [0] (k1 q)
  · exact fun q => k2 q
theorem S_X6_goBack_71 {G : am_G} {d : Nat} {Q : Int → am_D → Prop} {σ : am_D} {v1 : Int} {Q' : am_D → Prop} (hc : am_MV G d mX3_stepBack [am_r (some 20)] σ Q') (k : ∀ σ' : am_D, Q' σ' → am_X (am_FI G (d + 1) Q) mX6_goBack (0, 0) 78 [none, some (am_i v1)] [] (am_K0, σ')) : am_X (am_FI G (d + 1) Q) mX6_goBack (0, 0) 71 [some (am_r (some 30)), some (am_i v1)] [] (am_K0, σ) := by
  refine am_r_aload_n (nx := 72) rfl rfl (show decode cX6_goBack 71 = .ok (.aload_n 0, 1) by decide +kernel) rfl ?_
  refine am_r_getF (nx := 75) 1 cw6 (by decide) rfl (Or.inl fl_X6_15) (ob_30) (fn_30_1) (show decode cX6_goBack 72 = .ok (.getfield 15, 3) by decide +kernel) rfl ?_
  refine am_r_callV (as := []) (st := []) hc mb_X3_stepBack mv_X3_stepBack (Or.inl ml_X6_92) (obR (by unfold am_isR; decide)) (by omega) (r := (RX3, TX3, 9)) rfl rfl rfl rfl (Nat.le_of_ble_eq_true rfl) ⟨Nat.le_refl _, Nat.le_refl _⟩ ⟨Nat.le_refl _, Nat.le_refl _⟩ (show decode cX6_goBack 75 = .ok (.invokevirtual 92, 3) by decide +kernel) ?_
  rintro _ _ ⟨σ', rfl, rfl, hq⟩ _
  exact am_x_fg [0] (k σ' hq)
theorem S_X6_goBack_78 {G : am_G} {d : Nat} {Q : Int → am_D → Prop} {σ : am_D} {v1 : Int}  (k : Q v1 σ) : am_X (am_FI G (d + 1) Q) mX6_goBack (0, 0) 78 [none, some (am_i v1)] [] (am_K0, σ) := by
  refine am_r_iload_n (nx := 79) rfl rfl (show decode cX6_goBack 78 = .ok (.iload_n 1, 1) by decide +kernel) rfl ?_
  exact am_r_iret rfl rfl (show decode cX6_goBack 79 = .ok (.ireturn, 1) by decide +kernel) ⟨_, _, rfl, rfl, k⟩
theorem S_X6_spoilt_0 {G : am_G} {d : Nat} {Q : Int → am_D → Prop} {σ : am_D} {Q' : Int → am_D → Prop} (hc : am_MI G d mX6_reads [am_r (some 30), am_r (some 16)] σ Q') (k : ∀ (x : Int) (σ' : am_D), Q' x σ' → am_X (am_FI G (d + 1) Q) mX6_spoilt (0, 0) 8 [some (am_r (some 30))] [am_i x] (am_K0, σ')) : am_X (am_FI G (d + 1) Q) mX6_spoilt (0, 0) 0 [some (am_r (some 30))] [] (am_K0, σ) := by
  refine am_r_aload_n (nx := 1) rfl rfl (show decode cX6_spoilt 0 = .ok (.aload_n 0, 1) by decide +kernel) rfl ?_
  refine am_r_aload_n (nx := 2) rfl rfl (show decode cX6_spoilt 1 = .ok (.aload_n 0, 1) by decide +kernel) rfl ?_
  refine am_r_getF (nx := 5) 0 cw6 (by decide) rfl (Or.inl fl_X6_9) (ob_30) (fn_30_0) (show decode cX6_spoilt 2 = .ok (.getfield 9, 3) by decide +kernel) rfl ?_
  refine am_r_callV (as := [am_r (some 16)]) (st := []) hc mb_X6_reads mv_X6_reads (Or.inl ml_X6_78) (ob_30) (by omega) (r := (RX6, TX6, 7)) rfl rfl rfl rfl (Nat.le_of_ble_eq_true rfl) ⟨Nat.le_refl _, Nat.le_refl _⟩ ⟨Nat.le_refl _, Nat.le_refl _⟩ (show decode cX6_spoilt 5 = .ok (.invokevirtual 78, 3) by decide +kernel) ?_
  rintro _ _ ⟨x, σ', rfl, rfl, hq⟩ _
  exact (k x σ' hq)
theorem S_X6_spoilt_8 {G : am_G} {d : Nat} {Q : Int → am_D → Prop} {σ : am_D} {s0 : Int} (hr1 : -2147483648 ≤ s0 ∧ s0 ≤ 2147483647) (k1 : s0 = 0 → am_X (am_FI G (d + 1) Q) mX6_spoilt (0, 0) 21 [none] [] (am_K0, σ)) (k2 : ¬ (s0 = 0) → am_X (am_FI G (d + 1) Q) mX6_spoilt (0, 0) 11 [some (am_r (some 30))] [] (am_K0, σ)) : am_X (am_FI G (d + 1) Q) mX6_spoilt (0, 0) 8 [some (am_r (some 30))] [am_i s0] (am_K0, σ) := by
  refine am_r_if_eq (tg := 21) (nx := 11) (show decode cX6_spoilt 8 = .ok (.ifCond .eq 13, 3) by decide +kernel) (by decide) rfl hr1 ?_ ?_
  · exact fun q => am_x_fg [0] (k1 q)
  · exact fun q => k2 q
theorem S_X6_spoilt_11 {G : am_G} {d : Nat} {Q : Int → am_D → Prop} {σ : am_D} {Q' : Int → am_D → Prop} (hc : am_MI G d mX3_canEnd [am_r (some 16)] σ Q') (k : ∀ (x : Int) (σ' : am_D), Q' x σ' → am_X (am_FI G (d + 1) Q) mX6_spoilt (0, 0) 18 [some (am_r (some 30))] [am_i x] (am_K0, σ')) : am_X (am_FI G (d + 1) Q) mX6_spoilt (0, 0) 11 [some (am_r (some 30))] [] (am_K0, σ) := by
  refine am_r_aload_n (nx := 12) rfl rfl (show decode cX6_spoilt 11 = .ok (.aload_n 0, 1) by decide +kernel) rfl ?_
  refine am_r_getF (nx := 15) 0 cw6 (by decide) rfl (Or.inl fl_X6_9) (ob_30) (fn_30_0) (show decode cX6_spoilt 12 = .ok (.getfield 9, 3) by decide +kernel) rfl ?_
  refine am_r_callV (as := []) (st := []) hc mb_X3_canEnd mv_X3_canEnd (Or.inl ml_X6_95) (obR (by unfold am_isR; decide)) (by omega) (r := (RX3, TX3, 9)) rfl rfl rfl rfl (Nat.le_of_ble_eq_true rfl) ⟨Nat.le_refl _, Nat.le_refl _⟩ ⟨Nat.le_refl _, Nat.le_refl _⟩ (show decode cX6_spoilt 15 = .ok (.invokevirtual 95, 3) by decide +kernel) ?_
  rintro _ _ ⟨x, σ', rfl, rfl, hq⟩ _
  exact (k x σ' hq)
theorem S_X6_spoilt_18 {G : am_G} {d : Nat} {Q : Int → am_D → Prop} {σ : am_D} {s0 : Int} (hr1 : -2147483648 ≤ s0 ∧ s0 ≤ 2147483647) (k1 : ¬ s0 = 0 → am_X (am_FI G (d + 1) Q) mX6_spoilt (0, 0) 23 [some (am_r (some 30))] [] (am_K0, σ)) (k2 : ¬ (¬ s0 = 0) → am_X (am_FI G (d + 1) Q) mX6_spoilt (0, 0) 21 [none] [] (am_K0, σ)) : am_X (am_FI G (d + 1) Q) mX6_spoilt (0, 0) 18 [some (am_r (some 30))] [am_i s0] (am_K0, σ) := by
  refine am_r_if_ne (tg := 23) (nx := 21) (show decode cX6_spoilt 18 = .ok (.ifCond .ne 5, 3) by decide +kernel) (by decide) rfl hr1 ?_ ?_
  · exact fun q => k1 q
  · exact fun q => am_x_fg [0] (k2 q)
theorem S_X6_spoilt_21 {G : am_G} {d : Nat} {Q : Int → am_D → Prop} {σ : am_D}   (k : Q 0 σ) : am_X (am_FI G (d + 1) Q) mX6_spoilt (0, 0) 21 [none] [] (am_K0, σ) := by
  refine am_r_iconst (nx := 22) (show decode cX6_spoilt 21 = .ok (.iconst 0, 1) by decide +kernel) rfl ?_
  exact am_r_iret rfl rfl (show decode cX6_spoilt 22 = .ok (.ireturn, 1) by decide +kernel) ⟨_, _, rfl, rfl, k⟩
theorem S_X6_spoilt_23 {G : am_G} {d : Nat} {Q : Int → am_D → Prop} {σ : am_D} {Q' : am_D → Prop} (hc : am_MV G d mX3_write [am_r (some 16)] σ Q') (k : ∀ σ' : am_D, Q' σ' → am_X (am_FI G (d + 1) Q) mX6_spoilt (0, 0) 30 [some (am_r (some 30))] [] (am_K0, σ')) : am_X (am_FI G (d + 1) Q) mX6_spoilt (0, 0) 23 [some (am_r (some 30))] [] (am_K0, σ) := by
  refine am_r_aload_n (nx := 24) rfl rfl (show decode cX6_spoilt 23 = .ok (.aload_n 0, 1) by decide +kernel) rfl ?_
  refine am_r_getF (nx := 27) 0 cw6 (by decide) rfl (Or.inl fl_X6_9) (ob_30) (fn_30_0) (show decode cX6_spoilt 24 = .ok (.getfield 9, 3) by decide +kernel) rfl ?_
  refine am_r_callV (as := []) (st := []) hc mb_X3_write mv_X3_write (Or.inl ml_X6_98) (obR (by unfold am_isR; decide)) (by omega) (r := (RX3, TX3, 9)) rfl rfl rfl rfl (Nat.le_of_ble_eq_true rfl) ⟨Nat.le_refl _, Nat.le_refl _⟩ ⟨Nat.le_refl _, Nat.le_refl _⟩ (show decode cX6_spoilt 27 = .ok (.invokevirtual 98, 3) by decide +kernel) ?_
  rintro _ _ ⟨σ', rfl, rfl, hq⟩ _
  exact (k σ' hq)
theorem S_X6_spoilt_30 {G : am_G} {d : Nat} {Q : Int → am_D → Prop} {σ : am_D} {Q' : Int → am_D → Prop} (hc : am_MI G d mX5_canReadBehind [am_r (some 28), am_r (σ.2.2 30 4), am_r (some 16)] σ Q') (k : ∀ (x : Int) (σ' : am_D), Q' x σ' → am_X (am_FI G (d + 1) Q) mX6_spoilt (0, 0) 45 [none] [am_i x] (am_K0, σ')) : am_X (am_FI G (d + 1) Q) mX6_spoilt (0, 0) 30 [some (am_r (some 30))] [] (am_K0, σ) := by
  refine am_r_aload_n (nx := 31) rfl rfl (show decode cX6_spoilt 30 = .ok (.aload_n 0, 1) by decide +kernel) rfl ?_
  refine am_r_getF (nx := 34) 2 cw6 (by decide) rfl (Or.inl fl_X6_18) (ob_30) (fn_30_2) (show decode cX6_spoilt 31 = .ok (.getfield 18, 3) by decide +kernel) rfl ?_
  refine am_r_aload_n (nx := 35) rfl rfl (show decode cX6_spoilt 34 = .ok (.aload_n 0, 1) by decide +kernel) rfl ?_
  refine am_r_getR (nx := 38) 4 cw6 (by decide) rfl (Or.inl fl_X6_62) (ob_30) (show decode cX6_spoilt 35 = .ok (.getfield 62, 3) by decide +kernel) rfl ?_
  refine am_r_aload_n (nx := 39) rfl rfl (show decode cX6_spoilt 38 = .ok (.aload_n 0, 1) by decide +kernel) rfl ?_
  refine am_r_getF (nx := 42) 0 cw6 (by decide) rfl (Or.inl fl_X6_9) (ob_30) (fn_30_0) (show decode cX6_spoilt 39 = .ok (.getfield 9, 3) by decide +kernel) rfl ?_
  refine am_r_callV (as := [am_r (σ.2.2 30 4), am_r (some 16)]) (st := []) hc mb_X5_canReadBehind mv_X5_canReadBehind (Or.inl ml_X6_101) (ob_28) (by omega) (r := (RX5, TX5, 1)) rfl rfl rfl rfl (Nat.le_of_ble_eq_true rfl) ⟨Nat.le_refl _, Nat.le_refl _⟩ ⟨Nat.le_refl _, Nat.le_refl _⟩ (show decode cX6_spoilt 42 = .ok (.invokevirtual 101, 3) by decide +kernel) ?_
  rintro _ _ ⟨x, σ', rfl, rfl, hq⟩ _
  exact am_x_fg [0] (k x σ' hq)
theorem S_X6_spoilt_45 {G : am_G} {d : Nat} {Q : Int → am_D → Prop} {σ : am_D} {s0 : Int} (hr1 : -2147483648 ≤ s0 ∧ s0 ≤ 2147483647) (k1 : ¬ s0 = 0 → am_X (am_FI G (d + 1) Q) mX6_spoilt (0, 0) 52 [none] [] (am_K0, σ)) (k2 : ¬ (¬ s0 = 0) → am_X (am_FI G (d + 1) Q) mX6_spoilt (0, 0) 48 [none] [] (am_K0, σ)) : am_X (am_FI G (d + 1) Q) mX6_spoilt (0, 0) 45 [none] [am_i s0] (am_K0, σ) := by
  refine am_r_if_ne (tg := 52) (nx := 48) (show decode cX6_spoilt 45 = .ok (.ifCond .ne 7, 3) by decide +kernel) (by decide) rfl hr1 ?_ ?_
  · exact fun q => k1 q
  · exact fun q => k2 q
theorem S_X6_spoilt_48 {G : am_G} {d : Nat} {Q : Int → am_D → Prop} {σ : am_D}   (k : am_X (am_FI G (d + 1) Q) mX6_spoilt (0, 0) 53 [none] [am_i 1] (am_K0, σ)) : am_X (am_FI G (d + 1) Q) mX6_spoilt (0, 0) 48 [none] [] (am_K0, σ) := by
  refine am_r_iconst (nx := 49) (show decode cX6_spoilt 48 = .ok (.iconst 1, 1) by decide +kernel) rfl ?_
  refine am_r_goto (tg := 53) (show decode cX6_spoilt 49 = .ok (.goto 4, 3) by decide +kernel) (by decide) ?_
  exact k
theorem S_X6_spoilt_52 {G : am_G} {d : Nat} {Q : Int → am_D → Prop} {σ : am_D}   (k : am_X (am_FI G (d + 1) Q) mX6_spoilt (0, 0) 53 [none] [am_i 0] (am_K0, σ)) : am_X (am_FI G (d + 1) Q) mX6_spoilt (0, 0) 52 [none] [] (am_K0, σ) := by
  refine am_r_iconst (nx := 53) (show decode cX6_spoilt 52 = .ok (.iconst 0, 1) by decide +kernel) rfl ?_
  exact k
theorem S_X6_spoilt_53 {G : am_G} {d : Nat} {Q : Int → am_D → Prop} {σ : am_D} {s0 : Int} (hz : s0 = 0 ∨ s0 = 1) (k : Q s0 σ) : am_X (am_FI G (d + 1) Q) mX6_spoilt (0, 0) 53 [none] [am_i s0] (am_K0, σ) := by
  exact am_r_iret rfl (by rcases hz with hz | hz <;> rw [hz] <;> rfl) (show decode cX6_spoilt 53 = .ok (.ireturn, 1) by decide +kernel) ⟨_, _, rfl, rfl, k⟩
theorem S_X6_different_0 {G : am_G} {d : Nat} {Q : Int → am_D → Prop} {σ : am_D} {Q' : Int → am_D → Prop} (hc : am_MI G d mX6_reads [am_r (some 30), am_r (some 16)] σ Q') (k : ∀ (x : Int) (σ' : am_D), Q' x σ' → am_X (am_FI G (d + 1) Q) mX6_different (0, 0) 8 [some (am_r (some 30)), none, none] [am_i x] (am_K0, σ')) : am_X (am_FI G (d + 1) Q) mX6_different (0, 0) 0 [some (am_r (some 30)), none, none] [] (am_K0, σ) := by
  refine am_r_aload_n (nx := 1) rfl rfl (show decode cX6_different 0 = .ok (.aload_n 0, 1) by decide +kernel) rfl ?_
  refine am_r_aload_n (nx := 2) rfl rfl (show decode cX6_different 1 = .ok (.aload_n 0, 1) by decide +kernel) rfl ?_
  refine am_r_getF (nx := 5) 0 cw6 (by decide) rfl (Or.inl fl_X6_9) (ob_30) (fn_30_0) (show decode cX6_different 2 = .ok (.getfield 9, 3) by decide +kernel) rfl ?_
  refine am_r_callV (as := [am_r (some 16)]) (st := []) hc mb_X6_reads mv_X6_reads (Or.inl ml_X6_78) (ob_30) (by omega) (r := (RX6, TX6, 7)) rfl rfl rfl rfl (Nat.le_of_ble_eq_true rfl) ⟨Nat.le_refl _, Nat.le_refl _⟩ ⟨Nat.le_refl _, Nat.le_refl _⟩ (show decode cX6_different 5 = .ok (.invokevirtual 78, 3) by decide +kernel) ?_
  rintro _ _ ⟨x, σ', rfl, rfl, hq⟩ _
  exact (k x σ' hq)
theorem S_X6_different_8 {G : am_G} {d : Nat} {Q : Int → am_D → Prop} {σ : am_D} {s0 : Int} (hr1 : -2147483648 ≤ s0 ∧ s0 ≤ 2147483647) (k1 : s0 = 0 → am_X (am_FI G (d + 1) Q) mX6_different (0, 0) 25 [some (am_r (some 30)), none, none] [] (am_K0, σ)) (k2 : ¬ (s0 = 0) → am_X (am_FI G (d + 1) Q) mX6_different (0, 0) 11 [some (am_r (some 30)), none, none] [] (am_K0, σ)) : am_X (am_FI G (d + 1) Q) mX6_different (0, 0) 8 [some (am_r (some 30)), none, none] [am_i s0] (am_K0, σ) := by
  refine am_r_if_eq (tg := 25) (nx := 11) (show decode cX6_different 8 = .ok (.ifCond .eq 17, 3) by decide +kernel) (by decide) rfl hr1 ?_ ?_
  · exact fun q => k1 q
  · exact fun q => k2 q
theorem S_X6_different_11 {G : am_G} {d : Nat} {Q : Int → am_D → Prop} {σ : am_D} {Q' : Int → am_D → Prop} (hc : am_MI G d mX3_canEnd [am_r (some 16)] σ Q') (k : ∀ (x : Int) (σ' : am_D), Q' x σ' → am_X (am_FI G (d + 1) Q) mX6_different (0, 0) 18 [some (am_r (some 30)), none, none] [am_i x] (am_K0, σ')) : am_X (am_FI G (d + 1) Q) mX6_different (0, 0) 11 [some (am_r (some 30)), none, none] [] (am_K0, σ) := by
  refine am_r_aload_n (nx := 12) rfl rfl (show decode cX6_different 11 = .ok (.aload_n 0, 1) by decide +kernel) rfl ?_
  refine am_r_getF (nx := 15) 0 cw6 (by decide) rfl (Or.inl fl_X6_9) (ob_30) (fn_30_0) (show decode cX6_different 12 = .ok (.getfield 9, 3) by decide +kernel) rfl ?_
  refine am_r_callV (as := []) (st := []) hc mb_X3_canEnd mv_X3_canEnd (Or.inl ml_X6_95) (obR (by unfold am_isR; decide)) (by omega) (r := (RX3, TX3, 9)) rfl rfl rfl rfl (Nat.le_of_ble_eq_true rfl) ⟨Nat.le_refl _, Nat.le_refl _⟩ ⟨Nat.le_refl _, Nat.le_refl _⟩ (show decode cX6_different 15 = .ok (.invokevirtual 95, 3) by decide +kernel) ?_
  rintro _ _ ⟨x, σ', rfl, rfl, hq⟩ _
  exact (k x σ' hq)
theorem S_X6_different_18 {G : am_G} {d : Nat} {Q : Int → am_D → Prop} {σ : am_D} {s0 : Int} (hr1 : -2147483648 ≤ s0 ∧ s0 ≤ 2147483647) (k1 : s0 = 0 → am_X (am_FI G (d + 1) Q) mX6_different (0, 0) 25 [some (am_r (some 30)), none, none] [] (am_K0, σ)) (k2 : ¬ (s0 = 0) → am_X (am_FI G (d + 1) Q) mX6_different (0, 0) 21 [some (am_r (some 30)), none, none] [] (am_K0, σ)) : am_X (am_FI G (d + 1) Q) mX6_different (0, 0) 18 [some (am_r (some 30)), none, none] [am_i s0] (am_K0, σ) := by
  refine am_r_if_eq (tg := 25) (nx := 21) (show decode cX6_different 18 = .ok (.ifCond .eq 7, 3) by decide +kernel) (by decide) rfl hr1 ?_ ?_
  · exact fun q => k1 q
  · exact fun q => k2 q
theorem S_X6_different_21 {G : am_G} {d : Nat} {Q : Int → am_D → Prop} {σ : am_D}   (k : am_X (am_FI G (d + 1) Q) mX6_different (0, 0) 26 [some (am_r (some 30)), none, none] [am_i 1] (am_K0, σ)) : am_X (am_FI G (d + 1) Q) mX6_different (0, 0) 21 [some (am_r (some 30)), none, none] [] (am_K0, σ) := by
  refine am_r_iconst (nx := 22) (show decode cX6_different 21 = .ok (.iconst 1, 1) by decide +kernel) rfl ?_
  refine am_r_goto (tg := 26) (show decode cX6_different 22 = .ok (.goto 4, 3) by decide +kernel) (by decide) ?_
  exact k
theorem S_X6_different_25 {G : am_G} {d : Nat} {Q : Int → am_D → Prop} {σ : am_D}   (k : am_X (am_FI G (d + 1) Q) mX6_different (0, 0) 26 [some (am_r (some 30)), none, none] [am_i 0] (am_K0, σ)) : am_X (am_FI G (d + 1) Q) mX6_different (0, 0) 25 [some (am_r (some 30)), none, none] [] (am_K0, σ) := by
  refine am_r_iconst (nx := 26) (show decode cX6_different 25 = .ok (.iconst 0, 1) by decide +kernel) rfl ?_
  exact k
theorem S_X6_different_26 {G : am_G} {d : Nat} {Q : Int → am_D → Prop} {σ : am_D} {s0 : Int}  (k : am_X (am_FI G (d + 1) Q) mX6_different (0, 0) 27 [some (am_r (some 30)), some (am_i s0), none] [] (am_K0, σ)) : am_X (am_FI G (d + 1) Q) mX6_different (0, 0) 26 [some (am_r (some 30)), none, none] [am_i s0] (am_K0, σ) := by
  refine am_r_istore_n (nx := 27) rfl (by decide) rfl (show decode cX6_different 26 = .ok (.istore_n 1, 1) by decide +kernel) rfl ?_
  exact k
theorem S_X6_different_27 {G : am_G} {d : Nat} {Q : Int → am_D → Prop} {σ : am_D} {v1 : Int} {Q' : Int → am_D → Prop} (hc : am_MI G d mX6_reads [am_r (some 30), am_r (some 20)] σ Q') (k : ∀ (x : Int) (σ' : am_D), Q' x σ' → am_X (am_FI G (d + 1) Q) mX6_different (0, 0) 35 [some (am_r (some 30)), some (am_i v1), none] [am_i x] (am_K0, σ')) : am_X (am_FI G (d + 1) Q) mX6_different (0, 0) 27 [some (am_r (some 30)), some (am_i v1), none] [] (am_K0, σ) := by
  refine am_r_aload_n (nx := 28) rfl rfl (show decode cX6_different 27 = .ok (.aload_n 0, 1) by decide +kernel) rfl ?_
  refine am_r_aload_n (nx := 29) rfl rfl (show decode cX6_different 28 = .ok (.aload_n 0, 1) by decide +kernel) rfl ?_
  refine am_r_getF (nx := 32) 1 cw6 (by decide) rfl (Or.inl fl_X6_15) (ob_30) (fn_30_1) (show decode cX6_different 29 = .ok (.getfield 15, 3) by decide +kernel) rfl ?_
  refine am_r_callV (as := [am_r (some 20)]) (st := []) hc mb_X6_reads mv_X6_reads (Or.inl ml_X6_78) (ob_30) (by omega) (r := (RX6, TX6, 7)) rfl rfl rfl rfl (Nat.le_of_ble_eq_true rfl) ⟨Nat.le_refl _, Nat.le_refl _⟩ ⟨Nat.le_refl _, Nat.le_refl _⟩ (show decode cX6_different 32 = .ok (.invokevirtual 78, 3) by decide +kernel) ?_
  rintro _ _ ⟨x, σ', rfl, rfl, hq⟩ _
  exact (k x σ' hq)
theorem S_X6_different_35 {G : am_G} {d : Nat} {Q : Int → am_D → Prop} {σ : am_D} {v1 : Int} {s0 : Int} (hr1 : -2147483648 ≤ s0 ∧ s0 ≤ 2147483647) (k1 : s0 = 0 → am_X (am_FI G (d + 1) Q) mX6_different (0, 0) 52 [some (am_r (some 30)), some (am_i v1), none] [] (am_K0, σ)) (k2 : ¬ (s0 = 0) → am_X (am_FI G (d + 1) Q) mX6_different (0, 0) 38 [some (am_r (some 30)), some (am_i v1), none] [] (am_K0, σ)) : am_X (am_FI G (d + 1) Q) mX6_different (0, 0) 35 [some (am_r (some 30)), some (am_i v1), none] [am_i s0] (am_K0, σ) := by
  refine am_r_if_eq (tg := 52) (nx := 38) (show decode cX6_different 35 = .ok (.ifCond .eq 17, 3) by decide +kernel) (by decide) rfl hr1 ?_ ?_
  · exact fun q => k1 q
  · exact fun q => k2 q
theorem S_X6_different_38 {G : am_G} {d : Nat} {Q : Int → am_D → Prop} {σ : am_D} {v1 : Int} {Q' : Int → am_D → Prop} (hc : am_MI G d mX3_canEnd [am_r (some 20)] σ Q') (k : ∀ (x : Int) (σ' : am_D), Q' x σ' → am_X (am_FI G (d + 1) Q) mX6_different (0, 0) 45 [some (am_r (some 30)), some (am_i v1), none] [am_i x] (am_K0, σ')) : am_X (am_FI G (d + 1) Q) mX6_different (0, 0) 38 [some (am_r (some 30)), some (am_i v1), none] [] (am_K0, σ) := by
  refine am_r_aload_n (nx := 39) rfl rfl (show decode cX6_different 38 = .ok (.aload_n 0, 1) by decide +kernel) rfl ?_
  refine am_r_getF (nx := 42) 1 cw6 (by decide) rfl (Or.inl fl_X6_15) (ob_30) (fn_30_1) (show decode cX6_different 39 = .ok (.getfield 15, 3) by decide +kernel) rfl ?_
  refine am_r_callV (as := []) (st := []) hc mb_X3_canEnd mv_X3_canEnd (Or.inl ml_X6_95) (obR (by unfold am_isR; decide)) (by omega) (r := (RX3, TX3, 9)) rfl rfl rfl rfl (Nat.le_of_ble_eq_true rfl) ⟨Nat.le_refl _, Nat.le_refl _⟩ ⟨Nat.le_refl _, Nat.le_refl _⟩ (show decode cX6_different 42 = .ok (.invokevirtual 95, 3) by decide +kernel) ?_
  rintro _ _ ⟨x, σ', rfl, rfl, hq⟩ _
  exact (k x σ' hq)
theorem S_X6_different_45 {G : am_G} {d : Nat} {Q : Int → am_D → Prop} {σ : am_D} {v1 : Int} {s0 : Int} (hr1 : -2147483648 ≤ s0 ∧ s0 ≤ 2147483647) (k1 : s0 = 0 → am_X (am_FI G (d + 1) Q) mX6_different (0, 0) 52 [some (am_r (some 30)), some (am_i v1), none] [] (am_K0, σ)) (k2 : ¬ (s0 = 0) → am_X (am_FI G (d + 1) Q) mX6_different (0, 0) 48 [some (am_r (some 30)), some (am_i v1), none] [] (am_K0, σ)) : am_X (am_FI G (d + 1) Q) mX6_different (0, 0) 45 [some (am_r (some 30)), some (am_i v1), none] [am_i s0] (am_K0, σ) := by
  refine am_r_if_eq (tg := 52) (nx := 48) (show decode cX6_different 45 = .ok (.ifCond .eq 7, 3) by decide +kernel) (by decide) rfl hr1 ?_ ?_
  · exact fun q => k1 q
  · exact fun q => k2 q
theorem S_X6_different_48 {G : am_G} {d : Nat} {Q : Int → am_D → Prop} {σ : am_D} {v1 : Int}  (k : am_X (am_FI G (d + 1) Q) mX6_different (0, 0) 53 [some (am_r (some 30)), some (am_i v1), none] [am_i 1] (am_K0, σ)) : am_X (am_FI G (d + 1) Q) mX6_different (0, 0) 48 [some (am_r (some 30)), some (am_i v1), none] [] (am_K0, σ) := by
  refine am_r_iconst (nx := 49) (show decode cX6_different 48 = .ok (.iconst 1, 1) by decide +kernel) rfl ?_
  refine am_r_goto (tg := 53) (show decode cX6_different 49 = .ok (.goto 4, 3) by decide +kernel) (by decide) ?_
  exact k
theorem S_X6_different_52 {G : am_G} {d : Nat} {Q : Int → am_D → Prop} {σ : am_D} {v1 : Int}  (k : am_X (am_FI G (d + 1) Q) mX6_different (0, 0) 53 [some (am_r (some 30)), some (am_i v1), none] [am_i 0] (am_K0, σ)) : am_X (am_FI G (d + 1) Q) mX6_different (0, 0) 52 [some (am_r (some 30)), some (am_i v1), none] [] (am_K0, σ) := by
  refine am_r_iconst (nx := 53) (show decode cX6_different 52 = .ok (.iconst 0, 1) by decide +kernel) rfl ?_
  exact k
theorem S_X6_different_53 {G : am_G} {d : Nat} {Q : Int → am_D → Prop} {σ : am_D} {v1 : Int} {s0 : Int}  (k : am_X (am_FI G (d + 1) Q) mX6_different (0, 0) 54 [some (am_r (some 30)), some (am_i v1), some (am_i s0)] [] (am_K0, σ)) : am_X (am_FI G (d + 1) Q) mX6_different (0, 0) 53 [some (am_r (some 30)), some (am_i v1), none] [am_i s0] (am_K0, σ) := by
  refine am_r_istore_n (nx := 54) rfl (by decide) rfl (show decode cX6_different 53 = .ok (.istore_n 2, 1) by decide +kernel) rfl ?_
  exact k
theorem S_X6_different_54 {G : am_G} {d : Nat} {Q : Int → am_D → Prop} {σ : am_D} {v1 : Int} {v2 : Int} (hr1 : -2147483648 ≤ v1 ∧ v1 ≤ 2147483647) (k1 : v1 = 0 → am_X (am_FI G (d + 1) Q) mX6_different (0, 0) 62 [none, some (am_i v1), some (am_i v2)] [] (am_K0, σ)) (k2 : ¬ (v1 = 0) → am_X (am_FI G (d + 1) Q) mX6_different (0, 0) 58 [some (am_r (some 30)), some (am_i v1), some (am_i v2)] [] (am_K0, σ)) : am_X (am_FI G (d + 1) Q) mX6_different (0, 0) 54 [some (am_r (some 30)), some (am_i v1), some (am_i v2)] [] (am_K0, σ) := by
  refine am_r_iload_n (nx := 55) rfl rfl (show decode cX6_different 54 = .ok (.iload_n 1, 1) by decide +kernel) rfl ?_
  refine am_r_if_eq (tg := 62) (nx := 58) (show decode cX6_different 55 = .ok (.ifCond .eq 7, 3) by decide +kernel) (by decide) rfl hr1 ?_ ?_
  · exact fun q => am_x_fg [0] (k1 q)
  · exact fun q => k2 q
theorem S_X6_different_58 {G : am_G} {d : Nat} {Q : Int → am_D → Prop} {σ : am_D} {v1 : Int} {v2 : Int} (hr1 : -2147483648 ≤ v2 ∧ v2 ≤ 2147483647) (k1 : ¬ v2 = 0 → am_X (am_FI G (d + 1) Q) mX6_different (0, 0) 73 [some (am_r (some 30)), none, none] [] (am_K0, σ)) (k2 : ¬ (¬ v2 = 0) → am_X (am_FI G (d + 1) Q) mX6_different (0, 0) 62 [none, some (am_i v1), some (am_i v2)] [] (am_K0, σ)) : am_X (am_FI G (d + 1) Q) mX6_different (0, 0) 58 [some (am_r (some 30)), some (am_i v1), some (am_i v2)] [] (am_K0, σ) := by
  refine am_r_iload_n (nx := 59) rfl rfl (show decode cX6_different 58 = .ok (.iload_n 2, 1) by decide +kernel) rfl ?_
  refine am_r_if_ne (tg := 73) (nx := 62) (show decode cX6_different 59 = .ok (.ifCond .ne 14, 3) by decide +kernel) (by decide) rfl hr1 ?_ ?_
  · exact fun q => am_x_fg [1, 2] (k1 q)
  · exact fun q => am_x_fg [0] (k2 q)
theorem S_X6_different_62 {G : am_G} {d : Nat} {Q : Int → am_D → Prop} {σ : am_D} {v1 : Int} {v2 : Int} (hr1 : -2147483648 ≤ v1 ∧ v1 ≤ 2147483647) (hr2 : -2147483648 ≤ v2 ∧ v2 ≤ 2147483647) (k1 : v1 = v2 → am_X (am_FI G (d + 1) Q) mX6_different (0, 0) 71 [none, none, none] [] (am_K0, σ)) (k2 : ¬ (v1 = v2) → am_X (am_FI G (d + 1) Q) mX6_different (0, 0) 67 [none, none, none] [] (am_K0, σ)) : am_X (am_FI G (d + 1) Q) mX6_different (0, 0) 62 [none, some (am_i v1), some (am_i v2)] [] (am_K0, σ) := by
  refine am_r_iload_n (nx := 63) rfl rfl (show decode cX6_different 62 = .ok (.iload_n 1, 1) by decide +kernel) rfl ?_
  refine am_r_iload_n (nx := 64) rfl rfl (show decode cX6_different 63 = .ok (.iload_n 2, 1) by decide +kernel) rfl ?_
  refine am_r_icmp_eq (tg := 71) (nx := 67) (show decode cX6_different 64 = .ok (.if_icmp .eq 7, 3) by decide +kernel) (by decide) rfl hr1 hr2 ?_ ?_
  · exact fun q => am_x_fg [1, 2] (k1 q)
  · exact fun q => am_x_fg [1, 2] (k2 q)
theorem S_X6_different_67 {G : am_G} {d : Nat} {Q : Int → am_D → Prop} {σ : am_D}   (k : am_X (am_FI G (d + 1) Q) mX6_different (0, 0) 72 [none, none, none] [am_i 1] (am_K0, σ)) : am_X (am_FI G (d + 1) Q) mX6_different (0, 0) 67 [none, none, none] [] (am_K0, σ) := by
  refine am_r_iconst (nx := 68) (show decode cX6_different 67 = .ok (.iconst 1, 1) by decide +kernel) rfl ?_
  refine am_r_goto (tg := 72) (show decode cX6_different 68 = .ok (.goto 4, 3) by decide +kernel) (by decide) ?_
  exact k
theorem S_X6_different_71 {G : am_G} {d : Nat} {Q : Int → am_D → Prop} {σ : am_D}   (k : am_X (am_FI G (d + 1) Q) mX6_different (0, 0) 72 [none, none, none] [am_i 0] (am_K0, σ)) : am_X (am_FI G (d + 1) Q) mX6_different (0, 0) 71 [none, none, none] [] (am_K0, σ) := by
  refine am_r_iconst (nx := 72) (show decode cX6_different 71 = .ok (.iconst 0, 1) by decide +kernel) rfl ?_
  exact k
theorem S_X6_different_72 {G : am_G} {d : Nat} {Q : Int → am_D → Prop} {σ : am_D} {s0 : Int} (hz : s0 = 0 ∨ s0 = 1) (k : Q s0 σ) : am_X (am_FI G (d + 1) Q) mX6_different (0, 0) 72 [none, none, none] [am_i s0] (am_K0, σ) := by
  exact am_r_iret rfl (by rcases hz with hz | hz <;> rw [hz] <;> rfl) (show decode cX6_different 72 = .ok (.ireturn, 1) by decide +kernel) ⟨_, _, rfl, rfl, k⟩
theorem S_X6_different_73 {G : am_G} {d : Nat} {Q : Int → am_D → Prop} {σ : am_D} {Q' : am_D → Prop} (hc : am_MV G d mX3_write [am_r (some 16)] σ Q') (k : ∀ σ' : am_D, Q' σ' → am_X (am_FI G (d + 1) Q) mX6_different (0, 0) 80 [some (am_r (some 30)), none, none] [] (am_K0, σ')) : am_X (am_FI G (d + 1) Q) mX6_different (0, 0) 73 [some (am_r (some 30)), none, none] [] (am_K0, σ) := by
  refine am_r_aload_n (nx := 74) rfl rfl (show decode cX6_different 73 = .ok (.aload_n 0, 1) by decide +kernel) rfl ?_
  refine am_r_getF (nx := 77) 0 cw6 (by decide) rfl (Or.inl fl_X6_9) (ob_30) (fn_30_0) (show decode cX6_different 74 = .ok (.getfield 9, 3) by decide +kernel) rfl ?_
  refine am_r_callV (as := []) (st := []) hc mb_X3_write mv_X3_write (Or.inl ml_X6_98) (obR (by unfold am_isR; decide)) (by omega) (r := (RX3, TX3, 9)) rfl rfl rfl rfl (Nat.le_of_ble_eq_true rfl) ⟨Nat.le_refl _, Nat.le_refl _⟩ ⟨Nat.le_refl _, Nat.le_refl _⟩ (show decode cX6_different 77 = .ok (.invokevirtual 98, 3) by decide +kernel) ?_
  rintro _ _ ⟨σ', rfl, rfl, hq⟩ _
  exact (k σ' hq)
theorem S_X6_different_80 {G : am_G} {d : Nat} {Q : Int → am_D → Prop} {σ : am_D} {Q' : am_D → Prop} (hc : am_MV G d mX3_write [am_r (some 20)] σ Q') (k : ∀ σ' : am_D, Q' σ' → am_X (am_FI G (d + 1) Q) mX6_different (0, 0) 87 [some (am_r (some 30)), none, none] [] (am_K0, σ')) : am_X (am_FI G (d + 1) Q) mX6_different (0, 0) 80 [some (am_r (some 30)), none, none] [] (am_K0, σ) := by
  refine am_r_aload_n (nx := 81) rfl rfl (show decode cX6_different 80 = .ok (.aload_n 0, 1) by decide +kernel) rfl ?_
  refine am_r_getF (nx := 84) 1 cw6 (by decide) rfl (Or.inl fl_X6_15) (ob_30) (fn_30_1) (show decode cX6_different 81 = .ok (.getfield 15, 3) by decide +kernel) rfl ?_
  refine am_r_callV (as := []) (st := []) hc mb_X3_write mv_X3_write (Or.inl ml_X6_98) (obR (by unfold am_isR; decide)) (by omega) (r := (RX3, TX3, 9)) rfl rfl rfl rfl (Nat.le_of_ble_eq_true rfl) ⟨Nat.le_refl _, Nat.le_refl _⟩ ⟨Nat.le_refl _, Nat.le_refl _⟩ (show decode cX6_different 84 = .ok (.invokevirtual 98, 3) by decide +kernel) ?_
  rintro _ _ ⟨σ', rfl, rfl, hq⟩ _
  exact (k σ' hq)
theorem S_X6_different_87 {G : am_G} {d : Nat} {Q : Int → am_D → Prop} {σ : am_D} {Q' : Int → am_D → Prop} (hc : am_MI G d mX3_wroteAlike [am_r (some 16), am_r (some 20)] σ Q') (k : ∀ (x : Int) (σ' : am_D), Q' x σ' → am_X (am_FI G (d + 1) Q) mX6_different (0, 0) 98 [none, none, none] [am_i x] (am_K0, σ')) : am_X (am_FI G (d + 1) Q) mX6_different (0, 0) 87 [some (am_r (some 30)), none, none] [] (am_K0, σ) := by
  refine am_r_aload_n (nx := 88) rfl rfl (show decode cX6_different 87 = .ok (.aload_n 0, 1) by decide +kernel) rfl ?_
  refine am_r_getF (nx := 91) 0 cw6 (by decide) rfl (Or.inl fl_X6_9) (ob_30) (fn_30_0) (show decode cX6_different 88 = .ok (.getfield 9, 3) by decide +kernel) rfl ?_
  refine am_r_aload_n (nx := 92) rfl rfl (show decode cX6_different 91 = .ok (.aload_n 0, 1) by decide +kernel) rfl ?_
  refine am_r_getF (nx := 95) 1 cw6 (by decide) rfl (Or.inl fl_X6_15) (ob_30) (fn_30_1) (show decode cX6_different 92 = .ok (.getfield 15, 3) by decide +kernel) rfl ?_
  refine am_r_callV (as := [am_r (some 20)]) (st := []) hc mb_X3_wroteAlike mv_X3_wroteAlike (Or.inl ml_X6_107) (obR (by unfold am_isR; decide)) (by omega) (r := (RX3, TX3, 9)) rfl rfl rfl rfl (Nat.le_of_ble_eq_true rfl) ⟨Nat.le_refl _, Nat.le_refl _⟩ ⟨Nat.le_refl _, Nat.le_refl _⟩ (show decode cX6_different 95 = .ok (.invokevirtual 107, 3) by decide +kernel) ?_
  rintro _ _ ⟨x, σ', rfl, rfl, hq⟩ _
  exact am_x_fg [0] (k x σ' hq)
theorem S_X6_different_98 {G : am_G} {d : Nat} {Q : Int → am_D → Prop} {σ : am_D} {s0 : Int} (hr1 : -2147483648 ≤ s0 ∧ s0 ≤ 2147483647) (k1 : ¬ s0 = 0 → am_X (am_FI G (d + 1) Q) mX6_different (0, 0) 105 [none, none, none] [] (am_K0, σ)) (k2 : ¬ (¬ s0 = 0) → am_X (am_FI G (d + 1) Q) mX6_different (0, 0) 101 [none, none, none] [] (am_K0, σ)) : am_X (am_FI G (d + 1) Q) mX6_different (0, 0) 98 [none, none, none] [am_i s0] (am_K0, σ) := by
  refine am_r_if_ne (tg := 105) (nx := 101) (show decode cX6_different 98 = .ok (.ifCond .ne 7, 3) by decide +kernel) (by decide) rfl hr1 ?_ ?_
  · exact fun q => k1 q
  · exact fun q => k2 q
theorem S_X6_different_101 {G : am_G} {d : Nat} {Q : Int → am_D → Prop} {σ : am_D}   (k : am_X (am_FI G (d + 1) Q) mX6_different (0, 0) 106 [none, none, none] [am_i 1] (am_K0, σ)) : am_X (am_FI G (d + 1) Q) mX6_different (0, 0) 101 [none, none, none] [] (am_K0, σ) := by
  refine am_r_iconst (nx := 102) (show decode cX6_different 101 = .ok (.iconst 1, 1) by decide +kernel) rfl ?_
  refine am_r_goto (tg := 106) (show decode cX6_different 102 = .ok (.goto 4, 3) by decide +kernel) (by decide) ?_
  exact k
theorem S_X6_different_105 {G : am_G} {d : Nat} {Q : Int → am_D → Prop} {σ : am_D}   (k : am_X (am_FI G (d + 1) Q) mX6_different (0, 0) 106 [none, none, none] [am_i 0] (am_K0, σ)) : am_X (am_FI G (d + 1) Q) mX6_different (0, 0) 105 [none, none, none] [] (am_K0, σ) := by
  refine am_r_iconst (nx := 106) (show decode cX6_different 105 = .ok (.iconst 0, 1) by decide +kernel) rfl ?_
  exact k
theorem S_X6_different_106 {G : am_G} {d : Nat} {Q : Int → am_D → Prop} {σ : am_D} {s0 : Int} (hz : s0 = 0 ∨ s0 = 1) (k : Q s0 σ) : am_X (am_FI G (d + 1) Q) mX6_different (0, 0) 106 [none, none, none] [am_i s0] (am_K0, σ) := by
  exact am_r_iret rfl (by rcases hz with hz | hz <;> rw [hz] <;> rfl) (show decode cX6_different 106 = .ok (.ireturn, 1) by decide +kernel) ⟨_, _, rfl, rfl, k⟩
end
