section
theorem S_X1_to_0 {G : am_G} {d : Nat} {Q : Int → am_D → Prop} {σ : am_D} {v0 : Int} {v1 : Int} (hr1 : -2147483648 ≤ v1 ∧ v1 ≤ 2147483647) (k1 : v1 = 0 → am_X (am_FI G (d + 1) Q) mX1_to (0, 0) 9 [some (am_i v0), some (am_i v1)] [] (am_K0, σ)) (k2 : ¬ (v1 = 0) → am_X (am_FI G (d + 1) Q) mX1_to (0, 0) 4 [some (am_i v0), some (am_i v1)] [] (am_K0, σ)) : am_X (am_FI G (d + 1) Q) mX1_to (0, 0) 0 [some (am_i v0), some (am_i v1)] [] (am_K0, σ) := by
  refine am_r_iload_n (nx := 1) rfl rfl (show decode cX1_to 0 = .ok (.iload_n 1, 1) by decide +kernel) rfl ?_
  refine am_r_if_eq (tg := 9) (nx := 4) (show decode cX1_to 1 = .ok (.ifCond .eq 8, 3) by decide +kernel) (by decide) rfl hr1 ?_ ?_
  · exact fun q => k1 q
  · exact fun q => k2 q
theorem S_X1_to_4 {G : am_G} {d : Nat} {Q : Int → am_D → Prop} {σ : am_D} {v0 : Int} {v1 : Int} (hr1 : -2147483648 ≤ v1 ∧ v1 ≤ 2147483647) (k1 : ¬ v1 = 1 → am_X (am_FI G (d + 1) Q) mX1_to (0, 0) 19 [none, none] [] (am_K0, σ)) (k2 : ¬ (¬ v1 = 1) → am_X (am_FI G (d + 1) Q) mX1_to (0, 0) 9 [some (am_i v0), some (am_i v1)] [] (am_K0, σ)) : am_X (am_FI G (d + 1) Q) mX1_to (0, 0) 4 [some (am_i v0), some (am_i v1)] [] (am_K0, σ) := by
  refine am_r_iload_n (nx := 5) rfl rfl (show decode cX1_to 4 = .ok (.iload_n 1, 1) by decide +kernel) rfl ?_
  refine am_r_iconst (nx := 6) (show decode cX1_to 5 = .ok (.iconst 1, 1) by decide +kernel) rfl ?_
  refine am_r_icmp_ne (tg := 19) (nx := 9) (show decode cX1_to 6 = .ok (.if_icmp .ne 13, 3) by decide +kernel) (by decide) rfl hr1 (by omega) ?_ ?_
  · exact fun q => am_x_fg [0, 1] (k1 q)
  · exact fun q => k2 q
theorem S_X1_to_9 {G : am_G} {d : Nat} {Q : Int → am_D → Prop} {σ : am_D} {v0 : Int} {v1 : Int}  (k : am_X (am_FI G (d + 1) Q) mX1_to (0, 0) 20 [none, none] [am_i (am_and (am_shr v0 (2 * v1)) 3)] (am_K0, σ)) : am_X (am_FI G (d + 1) Q) mX1_to (0, 0) 9 [some (am_i v0), some (am_i v1)] [] (am_K0, σ) := by
  refine am_r_iload_n (nx := 10) rfl rfl (show decode cX1_to 9 = .ok (.iload_n 0, 1) by decide +kernel) rfl ?_
  refine am_r_iconst (nx := 11) (show decode cX1_to 10 = .ok (.iconst 2, 1) by decide +kernel) rfl ?_
  refine am_r_iload_n (nx := 12) rfl rfl (show decode cX1_to 11 = .ok (.iload_n 1, 1) by decide +kernel) rfl ?_
  refine am_r_imul (nx := 13) (show decode cX1_to 12 = .ok (.imul, 1) by decide +kernel) rfl ?_
  refine am_r_ishr (nx := 14) (show decode cX1_to 13 = .ok (.ishr, 1) by decide +kernel) rfl ?_
  refine am_r_iconst (nx := 15) (show decode cX1_to 14 = .ok (.iconst 3, 1) by decide +kernel) rfl ?_
  refine am_r_iand (nx := 16) (show decode cX1_to 15 = .ok (.iand, 1) by decide +kernel) rfl ?_
  refine am_r_goto (tg := 20) (show decode cX1_to 16 = .ok (.goto 4, 3) by decide +kernel) (by decide) ?_
  exact am_x_fg [0, 1] k
theorem S_X1_to_19 {G : am_G} {d : Nat} {Q : Int → am_D → Prop} {σ : am_D}   (k : am_X (am_FI G (d + 1) Q) mX1_to (0, 0) 20 [none, none] [am_i 2] (am_K0, σ)) : am_X (am_FI G (d + 1) Q) mX1_to (0, 0) 19 [none, none] [] (am_K0, σ) := by
  refine am_r_iconst (nx := 20) (show decode cX1_to 19 = .ok (.iconst 2, 1) by decide +kernel) rfl ?_
  exact k
theorem S_X1_to_20 {G : am_G} {d : Nat} {Q : Int → am_D → Prop} {σ : am_D} {s0 : Int}  (k : Q s0 σ) : am_X (am_FI G (d + 1) Q) mX1_to (0, 0) 20 [none, none] [am_i s0] (am_K0, σ) := by
  exact am_r_iret rfl rfl (show decode cX1_to 20 = .ok (.ireturn, 1) by decide +kernel) ⟨_, _, rfl, rfl, k⟩
theorem S_X1_learn_0 {G : am_G} {d : Nat} {Q : am_D → Prop} {σ : am_D} {v1 : Option Nat}  (k : am_X (am_FV G (d + 1) Q) mX1_learn (0, 0) 2 [some (am_r (some 32)), some (am_r v1), some (am_i 0), none, none] [] (am_K0, σ)) : am_X (am_FV G (d + 1) Q) mX1_learn (0, 0) 0 [some (am_r (some 32)), some (am_r v1), none, none, none] [] (am_K0, σ) := by
  refine am_r_iconst (nx := 1) (show decode cX1_learn 0 = .ok (.iconst 0, 1) by decide +kernel) rfl ?_
  refine am_r_istore_n (nx := 2) rfl (by decide) rfl (show decode cX1_learn 1 = .ok (.istore_n 2, 1) by decide +kernel) rfl ?_
  exact k
theorem S_X1_learn_2 {G : am_G} {d : Nat} {Q : am_D → Prop} {σ : am_D} {v2 : Int} {v1 : Option Nat} (hr1 : -2147483648 ≤ v2 ∧ v2 ≤ 2147483647) (k1 : 3 ≤ v2 → am_X (am_FV G (d + 1) Q) mX1_learn (0, 0) 61 [none, none, none, none, none] [] (am_K0, σ)) (k2 : ¬ (3 ≤ v2) → am_X (am_FV G (d + 1) Q) mX1_learn (0, 0) 7 [some (am_r (some 32)), some (am_r v1), some (am_i v2), none, none] [] (am_K0, σ)) : am_X (am_FV G (d + 1) Q) mX1_learn (0, 0) 2 [some (am_r (some 32)), some (am_r v1), some (am_i v2), none, none] [] (am_K0, σ) := by
  refine am_r_iload_n (nx := 3) rfl rfl (show decode cX1_learn 2 = .ok (.iload_n 2, 1) by decide +kernel) rfl ?_
  refine am_r_iconst (nx := 4) (show decode cX1_learn 3 = .ok (.iconst 3, 1) by decide +kernel) rfl ?_
  refine am_r_icmp_ge (tg := 61) (nx := 7) (show decode cX1_learn 4 = .ok (.if_icmp .ge 57, 3) by decide +kernel) (by decide) rfl hr1 (by omega) ?_ ?_
  · exact fun q => am_x_fg [0, 1, 2] (k1 q)
  · exact fun q => k2 q
theorem S_X1_learn_7 {G : am_G} {d : Nat} {Q : am_D → Prop} {σ : am_D} {v2 : Int} {v1 : Option Nat}  (k : am_X (am_FV G (d + 1) Q) mX1_learn (0, 0) 9 [some (am_r (some 32)), some (am_r v1), some (am_i v2), some (am_i 0), none] [] (am_K0, σ)) : am_X (am_FV G (d + 1) Q) mX1_learn (0, 0) 7 [some (am_r (some 32)), some (am_r v1), some (am_i v2), none, none] [] (am_K0, σ) := by
  refine am_r_iconst (nx := 8) (show decode cX1_learn 7 = .ok (.iconst 0, 1) by decide +kernel) rfl ?_
  refine am_r_istore_n (nx := 9) rfl (by decide) rfl (show decode cX1_learn 8 = .ok (.istore_n 3, 1) by decide +kernel) rfl ?_
  exact k
theorem S_X1_learn_9 {G : am_G} {d : Nat} {Q : am_D → Prop} {σ : am_D} {v2 : Int} {v3 : Int} {v1 : Option Nat} (hr1 : -2147483648 ≤ v3 ∧ v3 ≤ 2147483647) (k1 : 16 ≤ v3 → am_X (am_FV G (d + 1) Q) mX1_learn (0, 0) 55 [some (am_r (some 32)), some (am_r v1), some (am_i v2), none, none] [] (am_K0, σ)) (k2 : ¬ (16 ≤ v3) → am_X (am_FV G (d + 1) Q) mX1_learn (0, 0) 15 [some (am_r (some 32)), some (am_r v1), some (am_i v2), some (am_i v3), none] [] (am_K0, σ)) : am_X (am_FV G (d + 1) Q) mX1_learn (0, 0) 9 [some (am_r (some 32)), some (am_r v1), some (am_i v2), some (am_i v3), none] [] (am_K0, σ) := by
  refine am_r_iload_n (nx := 10) rfl rfl (show decode cX1_learn 9 = .ok (.iload_n 3, 1) by decide +kernel) rfl ?_
  refine am_r_bipush (nx := 12) rfl (show decode cX1_learn 10 = .ok (.bipush 16, 2) by decide +kernel) rfl ?_
  refine am_r_icmp_ge (tg := 55) (nx := 15) (show decode cX1_learn 12 = .ok (.if_icmp .ge 43, 3) by decide +kernel) (by decide) rfl hr1 (by omega) ?_ ?_
  · exact fun q => am_x_fg [3] (k1 q)
  · exact fun q => k2 q
theorem S_X1_learn_15 {G : am_G} {d : Nat} {Q : am_D → Prop} {σ : am_D} {v2 : Int} {v3 : Int} {v1 : Option Nat} {Q' : Int → am_D → Prop} (hc : am_MI G d mX1_passing [am_r v1, am_i v2, am_i v3, am_i 0] σ Q') (k : ∀ (x : Int) (σ' : am_D), Q' x σ' → am_X (am_FV G (d + 1) Q) mX1_learn (0, 0) 24 [some (am_r (some 32)), some (am_r v1), some (am_i v2), some (am_i v3), some (am_i x)] [] (am_K0, σ')) : am_X (am_FV G (d + 1) Q) mX1_learn (0, 0) 15 [some (am_r (some 32)), some (am_r v1), some (am_i v2), some (am_i v3), none] [] (am_K0, σ) := by
  refine am_r_aload_n (nx := 16) rfl rfl (show decode cX1_learn 15 = .ok (.aload_n 1, 1) by decide +kernel) rfl ?_
  refine am_r_iload_n (nx := 17) rfl rfl (show decode cX1_learn 16 = .ok (.iload_n 2, 1) by decide +kernel) rfl ?_
  refine am_r_iload_n (nx := 18) rfl rfl (show decode cX1_learn 17 = .ok (.iload_n 3, 1) by decide +kernel) rfl ?_
  refine am_r_iconst (nx := 19) (show decode cX1_learn 18 = .ok (.iconst 0, 1) by decide +kernel) rfl ?_
  refine am_r_callS (as := [am_r v1, am_i v2, am_i v3, am_i 0]) (st := []) hc mb_X1_passing mv_X1_passing (Or.inl ml_X1_22) rfl rfl (Nat.le_of_ble_eq_true rfl) ⟨Nat.le_refl _, Nat.le_refl _⟩ ⟨Nat.le_refl _, Nat.le_refl _⟩ (show decode cX1_learn 19 = .ok (.invokestatic 22, 3) by decide +kernel) ?_
  rintro _ _ ⟨x, σ', rfl, rfl, hq⟩ _
  refine am_r_istore (nx := 24) (by decide) rfl (show decode cX1_learn 22 = .ok (.istore 4, 2) by decide +kernel) rfl ?_
  exact (k x σ' hq)
theorem S_X1_learn_24 {G : am_G} {d : Nat} {Q : am_D → Prop} {σ : am_D} {v2 : Int} {v3 : Int} {v4 : Int} {v1 : Option Nat} {Q' : Int → am_D → Prop} (hc : am_MI G d mX1_passing [am_r v1, am_i v2, am_i v3, am_i 1] σ Q') (k : ∀ (x : Int) (σ' : am_D), Q' x σ' → am_X (am_FV G (d + 1) Q) mX1_learn (0, 0) 43 [some (am_r (some 32)), some (am_r v1), some (am_i v2), some (am_i v3), none] [am_i x, am_i v4, am_i ((v2 * 16) + v3), am_r (some 34)] (am_K0, σ')) : am_X (am_FV G (d + 1) Q) mX1_learn (0, 0) 24 [some (am_r (some 32)), some (am_r v1), some (am_i v2), some (am_i v3), some (am_i v4)] [] (am_K0, σ) := by
  refine am_r_aload_n (nx := 25) rfl rfl (show decode cX1_learn 24 = .ok (.aload_n 0, 1) by decide +kernel) rfl ?_
  refine am_r_getF (nx := 28) 1 cw1 (by decide) rfl (Or.inl fl_X1_15) (ob_32) (fn_32_1) (show decode cX1_learn 25 = .ok (.getfield 15, 3) by decide +kernel) rfl ?_
  refine am_r_iload_n (nx := 29) rfl rfl (show decode cX1_learn 28 = .ok (.iload_n 2, 1) by decide +kernel) rfl ?_
  refine am_r_bipush (nx := 31) rfl (show decode cX1_learn 29 = .ok (.bipush 16, 2) by decide +kernel) rfl ?_
  refine am_r_imul (nx := 32) (show decode cX1_learn 31 = .ok (.imul, 1) by decide +kernel) rfl ?_
  refine am_r_iload_n (nx := 33) rfl rfl (show decode cX1_learn 32 = .ok (.iload_n 3, 1) by decide +kernel) rfl ?_
  refine am_r_iadd (nx := 34) (show decode cX1_learn 33 = .ok (.iadd, 1) by decide +kernel) rfl ?_
  refine am_r_iload (nx := 36) rfl (show decode cX1_learn 34 = .ok (.iload 4, 2) by decide +kernel) rfl ?_
  refine am_r_aload_n (nx := 37) rfl rfl (show decode cX1_learn 36 = .ok (.aload_n 1, 1) by decide +kernel) rfl ?_
  refine am_r_iload_n (nx := 38) rfl rfl (show decode cX1_learn 37 = .ok (.iload_n 2, 1) by decide +kernel) rfl ?_
  refine am_r_iload_n (nx := 39) rfl rfl (show decode cX1_learn 38 = .ok (.iload_n 3, 1) by decide +kernel) rfl ?_
  refine am_r_iconst (nx := 40) (show decode cX1_learn 39 = .ok (.iconst 1, 1) by decide +kernel) rfl ?_
  refine am_r_callS (as := [am_r v1, am_i v2, am_i v3, am_i 1]) (st := [am_i v4, am_i ((v2 * 16) + v3), am_r (some 34)]) hc mb_X1_passing mv_X1_passing (Or.inl ml_X1_22) rfl rfl (Nat.le_of_ble_eq_true rfl) ⟨Nat.le_refl _, Nat.le_refl _⟩ ⟨Nat.le_refl _, Nat.le_refl _⟩ (show decode cX1_learn 40 = .ok (.invokestatic 22, 3) by decide +kernel) ?_
  rintro _ _ ⟨x, σ', rfl, rfl, hq⟩ _
  exact am_x_fg [4] (k x σ' hq)
theorem S_X1_learn_43 {G : am_G} {d : Nat} {Q : am_D → Prop} {σ : am_D} {v2 : Int} {v3 : Int} {s1 : Int} {s2 : Int} {s3 : Int} {s0 : Option Nat} {Q' : am_D → Prop} {v1 : Option Nat} (hc : am_MV G d mX10_put [am_r s0, am_i s1, am_i (s2 + (am_shl s3 2))] σ Q') (k : ∀ σ' : am_D, Q' σ' → am_X (am_FV G (d + 1) Q) mX1_learn (0, 0) 49 [some (am_r (some 32)), some (am_r v1), some (am_i v2), some (am_i v3), none] [] (am_K0, σ')) : am_X (am_FV G (d + 1) Q) mX1_learn (0, 0) 43 [some (am_r (some 32)), some (am_r v1), some (am_i v2), some (am_i v3), none] [am_i s3, am_i s2, am_i s1, am_r s0] (am_K0, σ) := by
  refine am_r_iconst (nx := 44) (show decode cX1_learn 43 = .ok (.iconst 2, 1) by decide +kernel) rfl ?_
  refine am_r_ishl (nx := 45) (show decode cX1_learn 44 = .ok (.ishl, 1) by decide +kernel) rfl ?_
  refine am_r_iadd (nx := 46) (show decode cX1_learn 45 = .ok (.iadd, 1) by decide +kernel) rfl ?_
  refine am_r_callS (as := [am_r s0, am_i s1, am_i (s2 + (am_shl s3 2))]) (st := []) hc mb_X10_put mv_X10_put (Or.inr ⟨_, ml_X1_26⟩) rfl rfl (Nat.le_of_ble_eq_true rfl) ⟨Nat.le_refl _, Nat.le_refl _⟩ ⟨Nat.le_refl _, Nat.le_refl _⟩ (show decode cX1_learn 46 = .ok (.invokestatic 26, 3) by decide +kernel) ?_
  rintro _ _ ⟨σ', rfl, rfl, hq⟩ _
  exact (k σ' hq)
theorem S_X1_learn_49 {G : am_G} {d : Nat} {Q : am_D → Prop} {σ : am_D} {v2 : Int} {v3 : Int} {v1 : Option Nat}  (k : am_X (am_FV G (d + 1) Q) mX1_learn (0, 0) 9 [some (am_r (some 32)), some (am_r v1), some (am_i v2), some (am_i (v3 + 1)), none] [] (am_K0, σ)) : am_X (am_FV G (d + 1) Q) mX1_learn (0, 0) 49 [some (am_r (some 32)), some (am_r v1), some (am_i v2), some (am_i v3), none] [] (am_K0, σ) := by
  refine am_r_iinc (nx := 52) rfl rfl (show decode cX1_learn 49 = .ok (.iinc 3 1, 3) by decide +kernel) rfl ?_
  refine am_r_goto (tg := 9) (show decode cX1_learn 52 = .ok (.goto (-43), 3) by decide +kernel) (by decide) ?_
  exact k
theorem S_X1_learn_55 {G : am_G} {d : Nat} {Q : am_D → Prop} {σ : am_D} {v2 : Int} {v1 : Option Nat}  (k : am_X (am_FV G (d + 1) Q) mX1_learn (0, 0) 2 [some (am_r (some 32)), some (am_r v1), some (am_i (v2 + 1)), none, none] [] (am_K0, σ)) : am_X (am_FV G (d + 1) Q) mX1_learn (0, 0) 55 [some (am_r (some 32)), some (am_r v1), some (am_i v2), none, none] [] (am_K0, σ) := by
  refine am_r_iinc (nx := 58) rfl rfl (show decode cX1_learn 55 = .ok (.iinc 2 1, 3) by decide +kernel) rfl ?_
  refine am_r_goto (tg := 2) (show decode cX1_learn 58 = .ok (.goto (-56), 3) by decide +kernel) (by decide) ?_
  exact k
theorem S_X1_learn_61 {G : am_G} {d : Nat} {Q : am_D → Prop} {σ : am_D}   (k : Q σ) : am_X (am_FV G (d + 1) Q) mX1_learn (0, 0) 61 [none, none, none, none, none] [] (am_K0, σ) := by
  exact am_r_vret rfl (show decode cX1_learn 61 = .ok (.return_, 1) by decide +kernel) ⟨_, rfl, rfl, k⟩
theorem S_X1_passing_0 {G : am_G} {d : Nat} {Q : Int → am_D → Prop} {σ : am_D} {v1 : Int} {v2 : Int} {v3 : Int} {v0 : Nat} {Q' : Int → am_D → Prop} (hc : am_MI G d mX2_opensTo [am_r (some v0), am_i v1, am_i v3] σ Q') (hc1 : am_isM v0) (k : ∀ (x : Int) (σ' : am_D), Q' x σ' → am_X (am_FI G (d + 1) Q) mX1_passing (0, 0) 8 [some (am_r (some v0)), some (am_i v1), some (am_i v2), some (am_i v3), some (am_i x), none, none] [] (am_K0, σ')) : am_X (am_FI G (d + 1) Q) mX1_passing (0, 0) 0 [some (am_r (some v0)), some (am_i v1), some (am_i v2), some (am_i v3), none, none, none] [] (am_K0, σ) := by
  refine am_r_aload_n (nx := 1) rfl rfl (show decode cX1_passing 0 = .ok (.aload_n 0, 1) by decide +kernel) rfl ?_
  refine am_r_iload_n (nx := 2) rfl rfl (show decode cX1_passing 1 = .ok (.iload_n 1, 1) by decide +kernel) rfl ?_
  refine am_r_iload_n (nx := 3) rfl rfl (show decode cX1_passing 2 = .ok (.iload_n 3, 1) by decide +kernel) rfl ?_
  refine am_r_callV (as := [am_i v1, am_i v3]) (st := []) hc mb_X2_opensTo mv_X2_opensTo (Or.inl ml_X1_30) (obM hc1) (by omega) (r := (RX2, TX2, 16)) rfl rfl rfl rfl (Nat.le_of_ble_eq_true rfl) ⟨Nat.le_refl _, Nat.le_refl _⟩ ⟨Nat.le_refl _, Nat.le_refl _⟩ (show decode cX1_passing 3 = .ok (.invokevirtual 30, 3) by decide +kernel) ?_
  rintro _ _ ⟨x, σ', rfl, rfl, hq⟩ _
  refine am_r_istore (nx := 8) (by decide) rfl (show decode cX1_passing 6 = .ok (.istore 4, 2) by decide +kernel) rfl ?_
  exact (k x σ' hq)
theorem S_X1_passing_8 {G : am_G} {d : Nat} {Q : Int → am_D → Prop} {σ : am_D} {v1 : Int} {v2 : Int} {v3 : Int} {v4 : Int} {v0 : Option Nat} (hr1 : -2147483648 ≤ v4 ∧ v4 ≤ 2147483647) (k1 : ¬ v4 = (-1) → am_X (am_FI G (d + 1) Q) mX1_passing (0, 0) 18 [some (am_r v0), some (am_i v1), some (am_i v2), some (am_i v3), some (am_i v4), none, none] [] (am_K0, σ)) (k2 : ¬ (¬ v4 = (-1)) → am_X (am_FI G (d + 1) Q) mX1_passing (0, 0) 14 [some (am_r v0), some (am_i v1), none, some (am_i v3), none, none, none] [] (am_K0, σ)) : am_X (am_FI G (d + 1) Q) mX1_passing (0, 0) 8 [some (am_r v0), some (am_i v1), some (am_i v2), some (am_i v3), some (am_i v4), none, none] [] (am_K0, σ) := by
  refine am_r_iload (nx := 10) rfl (show decode cX1_passing 8 = .ok (.iload 4, 2) by decide +kernel) rfl ?_
  refine am_r_iconst (nx := 11) (show decode cX1_passing 10 = .ok (.iconst (-1), 1) by decide +kernel) rfl ?_
  refine am_r_icmp_ne (tg := 18) (nx := 14) (show decode cX1_passing 11 = .ok (.if_icmp .ne 7, 3) by decide +kernel) (by decide) rfl hr1 (by omega) ?_ ?_
  · exact fun q => k1 q
  · exact fun q => am_x_fg [2, 4] (k2 q)
theorem S_X1_passing_14 {G : am_G} {d : Nat} {Q : Int → am_D → Prop} {σ : am_D} {v1 : Int} {v3 : Int} {v0 : Option Nat}  (k : am_X (am_FI G (d + 1) Q) mX1_passing (0, 0) 24 [some (am_r v0), some (am_i v1), none, some (am_i v3), none, none, none] [am_i 2] (am_K0, σ)) : am_X (am_FI G (d + 1) Q) mX1_passing (0, 0) 14 [some (am_r v0), some (am_i v1), none, some (am_i v3), none, none, none] [] (am_K0, σ) := by
  refine am_r_iconst (nx := 15) (show decode cX1_passing 14 = .ok (.iconst 2, 1) by decide +kernel) rfl ?_
  refine am_r_goto (tg := 24) (show decode cX1_passing 15 = .ok (.goto 9, 3) by decide +kernel) (by decide) ?_
  exact k
theorem S_X1_passing_18 {G : am_G} {d : Nat} {Q : Int → am_D → Prop} {σ : am_D} {v1 : Int} {v2 : Int} {v3 : Int} {v4 : Int} {Q' : Int → am_D → Prop} {v0 : Option Nat} (hc : am_MI G d mX1_to [am_i v2, am_i v4] σ Q') (k : ∀ (x : Int) (σ' : am_D), Q' x σ' → am_X (am_FI G (d + 1) Q) mX1_passing (0, 0) 24 [some (am_r v0), some (am_i v1), none, some (am_i v3), none, none, none] [am_i x] (am_K0, σ')) : am_X (am_FI G (d + 1) Q) mX1_passing (0, 0) 18 [some (am_r v0), some (am_i v1), some (am_i v2), some (am_i v3), some (am_i v4), none, none] [] (am_K0, σ) := by
  refine am_r_iload_n (nx := 19) rfl rfl (show decode cX1_passing 18 = .ok (.iload_n 2, 1) by decide +kernel) rfl ?_
  refine am_r_iload (nx := 21) rfl (show decode cX1_passing 19 = .ok (.iload 4, 2) by decide +kernel) rfl ?_
  refine am_r_callS (as := [am_i v2, am_i v4]) (st := []) hc mb_X1_to mv_X1_to (Or.inl ml_X1_18) rfl rfl (Nat.le_of_ble_eq_true rfl) ⟨Nat.le_refl _, Nat.le_refl _⟩ ⟨Nat.le_refl _, Nat.le_refl _⟩ (show decode cX1_passing 21 = .ok (.invokestatic 18, 3) by decide +kernel) ?_
  rintro _ _ ⟨x, σ', rfl, rfl, hq⟩ _
  exact am_x_fg [2, 4] (k x σ' hq)
theorem S_X1_passing_24 {G : am_G} {d : Nat} {Q : Int → am_D → Prop} {σ : am_D} {v1 : Int} {v3 : Int} {s0 : Int} {v0 : Option Nat}  (k : am_X (am_FI G (d + 1) Q) mX1_passing (0, 0) 26 [some (am_r v0), some (am_i v1), none, some (am_i v3), none, some (am_i s0), none] [] (am_K0, σ)) : am_X (am_FI G (d + 1) Q) mX1_passing (0, 0) 24 [some (am_r v0), some (am_i v1), none, some (am_i v3), none, none, none] [am_i s0] (am_K0, σ) := by
  refine am_r_istore (nx := 26) (by decide) rfl (show decode cX1_passing 24 = .ok (.istore 5, 2) by decide +kernel) rfl ?_
  exact k
theorem S_X1_passing_26 {G : am_G} {d : Nat} {Q : Int → am_D → Prop} {σ : am_D} {v1 : Int} {v3 : Int} {v5 : Int} {v0 : Option Nat} (hr1 : -2147483648 ≤ v5 ∧ v5 ≤ 2147483647) (k1 : ¬ v5 = 2 → am_X (am_FI G (d + 1) Q) mX1_passing (0, 0) 36 [some (am_r v0), some (am_i v1), none, some (am_i v3), none, some (am_i v5), none] [] (am_K0, σ)) (k2 : ¬ (¬ v5 = 2) → am_X (am_FI G (d + 1) Q) mX1_passing (0, 0) 32 [none, none, none, none, none, none, none] [] (am_K0, σ)) : am_X (am_FI G (d + 1) Q) mX1_passing (0, 0) 26 [some (am_r v0), some (am_i v1), none, some (am_i v3), none, some (am_i v5), none] [] (am_K0, σ) := by
  refine am_r_iload (nx := 28) rfl (show decode cX1_passing 26 = .ok (.iload 5, 2) by decide +kernel) rfl ?_
  refine am_r_iconst (nx := 29) (show decode cX1_passing 28 = .ok (.iconst 2, 1) by decide +kernel) rfl ?_
  refine am_r_icmp_ne (tg := 36) (nx := 32) (show decode cX1_passing 29 = .ok (.if_icmp .ne 7, 3) by decide +kernel) (by decide) rfl hr1 (by omega) ?_ ?_
  · exact fun q => k1 q
  · exact fun q => am_x_fg [0, 1, 3, 5] (k2 q)
theorem S_X1_passing_32 {G : am_G} {d : Nat} {Q : Int → am_D → Prop} {σ : am_D}   (k : am_X (am_FI G (d + 1) Q) mX1_passing (0, 0) 48 [none, none, none, none, none, none, none] [am_i (-1)] (am_K0, σ)) : am_X (am_FI G (d + 1) Q) mX1_passing (0, 0) 32 [none, none, none, none, none, none, none] [] (am_K0, σ) := by
  refine am_r_iconst (nx := 33) (show decode cX1_passing 32 = .ok (.iconst (-1), 1) by decide +kernel) rfl ?_
  refine am_r_goto (tg := 48) (show decode cX1_passing 33 = .ok (.goto 15, 3) by decide +kernel) (by decide) ?_
  exact k
theorem S_X1_passing_36 {G : am_G} {d : Nat} {Q : Int → am_D → Prop} {σ : am_D} {v1 : Int} {v3 : Int} {v5 : Int} {v0 : Nat} {Q' : Int → am_D → Prop} (hc : am_MI G d mX2_lays [am_r (some v0), am_i v1, am_i v3] σ Q') (hc1 : am_isM v0) (k : ∀ (x : Int) (σ' : am_D), Q' x σ' → am_X (am_FI G (d + 1) Q) mX1_passing (0, 0) 43 [none, none, none, none, none, some (am_i v5), none] [am_i x, am_r (some v0)] (am_K0, σ')) : am_X (am_FI G (d + 1) Q) mX1_passing (0, 0) 36 [some (am_r (some v0)), some (am_i v1), none, some (am_i v3), none, some (am_i v5), none] [] (am_K0, σ) := by
  refine am_r_aload_n (nx := 37) rfl rfl (show decode cX1_passing 36 = .ok (.aload_n 0, 1) by decide +kernel) rfl ?_
  refine am_r_aload_n (nx := 38) rfl rfl (show decode cX1_passing 37 = .ok (.aload_n 0, 1) by decide +kernel) rfl ?_
  refine am_r_iload_n (nx := 39) rfl rfl (show decode cX1_passing 38 = .ok (.iload_n 1, 1) by decide +kernel) rfl ?_
  refine am_r_iload_n (nx := 40) rfl rfl (show decode cX1_passing 39 = .ok (.iload_n 3, 1) by decide +kernel) rfl ?_
  refine am_r_callV (as := [am_i v1, am_i v3]) (st := [am_r (some v0)]) hc mb_X2_lays mv_X2_lays (Or.inl ml_X1_35) (obM hc1) (by omega) (r := (RX2, TX2, 16)) rfl rfl rfl rfl (Nat.le_of_ble_eq_true rfl) ⟨Nat.le_refl _, Nat.le_refl _⟩ ⟨Nat.le_refl _, Nat.le_refl _⟩ (show decode cX1_passing 40 = .ok (.invokevirtual 35, 3) by decide +kernel) ?_
  rintro _ _ ⟨x, σ', rfl, rfl, hq⟩ _
  exact am_x_fg [0, 1, 3] (k x σ' hq)
theorem S_X1_passing_43 {G : am_G} {d : Nat} {Q : Int → am_D → Prop} {σ : am_D} {v5 : Int} {s1 : Int} {s0 : Nat} {Q' : Int → am_D → Prop} (hc : am_MI G d mX2_closesTo [am_r (some s0), am_i s1, am_i v5] σ Q') (hc1 : am_isM s0) (k : ∀ (x : Int) (σ' : am_D), Q' x σ' → am_X (am_FI G (d + 1) Q) mX1_passing (0, 0) 48 [none, none, none, none, none, none, none] [am_i x] (am_K0, σ')) : am_X (am_FI G (d + 1) Q) mX1_passing (0, 0) 43 [none, none, none, none, none, some (am_i v5), none] [am_i s1, am_r (some s0)] (am_K0, σ) := by
  refine am_r_iload (nx := 45) rfl (show decode cX1_passing 43 = .ok (.iload 5, 2) by decide +kernel) rfl ?_
  refine am_r_callV (as := [am_i s1, am_i v5]) (st := []) hc mb_X2_closesTo mv_X2_closesTo (Or.inl ml_X1_38) (obM hc1) (by omega) (r := (RX2, TX2, 16)) rfl rfl rfl rfl (Nat.le_of_ble_eq_true rfl) ⟨Nat.le_refl _, Nat.le_refl _⟩ ⟨Nat.le_refl _, Nat.le_refl _⟩ (show decode cX1_passing 45 = .ok (.invokevirtual 38, 3) by decide +kernel) ?_
  rintro _ _ ⟨x, σ', rfl, rfl, hq⟩ _
  exact am_x_fg [5] (k x σ' hq)
theorem S_X1_passing_48 {G : am_G} {d : Nat} {Q : Int → am_D → Prop} {σ : am_D} {s0 : Int}  (k : am_X (am_FI G (d + 1) Q) mX1_passing (0, 0) 50 [none, none, none, none, none, none, some (am_i s0)] [] (am_K0, σ)) : am_X (am_FI G (d + 1) Q) mX1_passing (0, 0) 48 [none, none, none, none, none, none, none] [am_i s0] (am_K0, σ) := by
  refine am_r_istore (nx := 50) (by decide) rfl (show decode cX1_passing 48 = .ok (.istore 6, 2) by decide +kernel) rfl ?_
  exact k
theorem S_X1_passing_50 {G : am_G} {d : Nat} {Q : Int → am_D → Prop} {σ : am_D} {v6 : Int} (hr1 : -2147483648 ≤ v6 ∧ v6 ≤ 2147483647) (k1 : ¬ v6 = (-1) → am_X (am_FI G (d + 1) Q) mX1_passing (0, 0) 60 [none, none, none, none, none, none, some (am_i v6)] [] (am_K0, σ)) (k2 : ¬ (¬ v6 = (-1)) → am_X (am_FI G (d + 1) Q) mX1_passing (0, 0) 56 [none, none, none, none, none, none, none] [] (am_K0, σ)) : am_X (am_FI G (d + 1) Q) mX1_passing (0, 0) 50 [none, none, none, none, none, none, some (am_i v6)] [] (am_K0, σ) := by
  refine am_r_iload (nx := 52) rfl (show decode cX1_passing 50 = .ok (.iload 6, 2) by decide +kernel) rfl ?_
  refine am_r_iconst (nx := 53) (show decode cX1_passing 52 = .ok (.iconst (-1), 1) by decide +kernel) rfl ?_
  refine am_r_icmp_ne (tg := 60) (nx := 56) (show decode cX1_passing 53 = .ok (.if_icmp .ne 7, 3) by decide +kernel) (by decide) rfl hr1 (by omega) ?_ ?_
  · exact fun q => k1 q
  · exact fun q => am_x_fg [6] (k2 q)
theorem S_X1_passing_56 {G : am_G} {d : Nat} {Q : Int → am_D → Prop} {σ : am_D}   (k : am_X (am_FI G (d + 1) Q) mX1_passing (0, 0) 62 [none, none, none, none, none, none, none] [am_i 2] (am_K0, σ)) : am_X (am_FI G (d + 1) Q) mX1_passing (0, 0) 56 [none, none, none, none, none, none, none] [] (am_K0, σ) := by
  refine am_r_iconst (nx := 57) (show decode cX1_passing 56 = .ok (.iconst 2, 1) by decide +kernel) rfl ?_
  refine am_r_goto (tg := 62) (show decode cX1_passing 57 = .ok (.goto 5, 3) by decide +kernel) (by decide) ?_
  exact k
theorem S_X1_passing_60 {G : am_G} {d : Nat} {Q : Int → am_D → Prop} {σ : am_D} {v6 : Int}  (k : am_X (am_FI G (d + 1) Q) mX1_passing (0, 0) 62 [none, none, none, none, none, none, none] [am_i v6] (am_K0, σ)) : am_X (am_FI G (d + 1) Q) mX1_passing (0, 0) 60 [none, none, none, none, none, none, some (am_i v6)] [] (am_K0, σ) := by
  refine am_r_iload (nx := 62) rfl (show decode cX1_passing 60 = .ok (.iload 6, 2) by decide +kernel) rfl ?_
  exact am_x_fg [6] k
theorem S_X1_passing_62 {G : am_G} {d : Nat} {Q : Int → am_D → Prop} {σ : am_D} {s0 : Int}  (k : Q s0 σ) : am_X (am_FI G (d + 1) Q) mX1_passing (0, 0) 62 [none, none, none, none, none, none, none] [am_i s0] (am_K0, σ) := by
  exact am_r_iret rfl rfl (show decode cX1_passing 62 = .ok (.ireturn, 1) by decide +kernel) ⟨_, _, rfl, rfl, k⟩
theorem S_X1_join_0 {G : am_G} {d : Nat} {Q : Int → am_D → Prop} {σ : am_D} {v1 : Int} {v2 : Int}  (k : am_X (am_FI G (d + 1) Q) mX1_join (0, 0) 7 [some (am_r (some 32)), none, none, some (am_i ((v1 * 16) + v2))] [] (am_K0, σ)) : am_X (am_FI G (d + 1) Q) mX1_join (0, 0) 0 [some (am_r (some 32)), some (am_i v1), some (am_i v2), none] [] (am_K0, σ) := by
  refine am_r_iload_n (nx := 1) rfl rfl (show decode cX1_join 0 = .ok (.iload_n 1, 1) by decide +kernel) rfl ?_
  refine am_r_bipush (nx := 3) rfl (show decode cX1_join 1 = .ok (.bipush 16, 2) by decide +kernel) rfl ?_
  refine am_r_imul (nx := 4) (show decode cX1_join 3 = .ok (.imul, 1) by decide +kernel) rfl ?_
  refine am_r_iload_n (nx := 5) rfl rfl (show decode cX1_join 4 = .ok (.iload_n 2, 1) by decide +kernel) rfl ?_
  refine am_r_iadd (nx := 6) (show decode cX1_join 5 = .ok (.iadd, 1) by decide +kernel) rfl ?_
  refine am_r_istore_n (nx := 7) rfl (by decide) rfl (show decode cX1_join 6 = .ok (.istore_n 3, 1) by decide +kernel) rfl ?_
  exact am_x_fg [1, 2] k
theorem S_X1_join_7 {G : am_G} {d : Nat} {Q : Int → am_D → Prop} {σ : am_D} {v3 : Int} (hr1 : -2147483648 ≤ v3 ∧ v3 ≤ 2147483647) (k1 : v3 < 0 → am_X (am_FI G (d + 1) Q) mX1_join (0, 0) 29 [none, none, none, none] [] (am_K0, σ)) (k2 : ¬ (v3 < 0) → am_X (am_FI G (d + 1) Q) mX1_join (0, 0) 11 [some (am_r (some 32)), none, none, some (am_i v3)] [] (am_K0, σ)) : am_X (am_FI G (d + 1) Q) mX1_join (0, 0) 7 [some (am_r (some 32)), none, none, some (am_i v3)] [] (am_K0, σ) := by
  refine am_r_iload_n (nx := 8) rfl rfl (show decode cX1_join 7 = .ok (.iload_n 3, 1) by decide +kernel) rfl ?_
  refine am_r_if_lt (tg := 29) (nx := 11) (show decode cX1_join 8 = .ok (.ifCond .lt 21, 3) by decide +kernel) (by decide) rfl hr1 ?_ ?_
  · exact fun q => am_x_fg [0, 3] (k1 q)
  · exact fun q => k2 q
theorem S_X1_join_11 {G : am_G} {d : Nat} {Q : Int → am_D → Prop} {σ : am_D} {v3 : Int} (hr1 : -2147483648 ≤ v3 ∧ v3 ≤ 2147483647) (k1 : 256 ≤ v3 → am_X (am_FI G (d + 1) Q) mX1_join (0, 0) 29 [none, none, none, none] [] (am_K0, σ)) (k2 : ¬ (256 ≤ v3) → am_X (am_FI G (d + 1) Q) mX1_join (0, 0) 20 [some (am_r (some 32)), none, none, some (am_i v3)] [] (am_K0, σ)) : am_X (am_FI G (d + 1) Q) mX1_join (0, 0) 11 [some (am_r (some 32)), none, none, some (am_i v3)] [] (am_K0, σ) := by
  refine am_r_iload_n (nx := 12) rfl rfl (show decode cX1_join 11 = .ok (.iload_n 3, 1) by decide +kernel) rfl ?_
  refine am_r_aload_n (nx := 13) rfl rfl (show decode cX1_join 12 = .ok (.aload_n 0, 1) by decide +kernel) rfl ?_
  refine am_r_getF (nx := 16) 0 cw1 (by decide) rfl (Or.inl fl_X1_11) (ob_32) (fn_32_0) (show decode cX1_join 13 = .ok (.getfield 11, 3) by decide +kernel) rfl ?_
  refine am_r_alen (nx := 17) (sh_33) (by omega) (by omega) (show decode cX1_join 16 = .ok (.arraylength, 1) by decide +kernel) rfl ?_
  refine am_r_icmp_ge (tg := 29) (nx := 20) (show decode cX1_join 17 = .ok (.if_icmp .ge 12, 3) by decide +kernel) (by decide) rfl hr1 (by omega) ?_ ?_
  · exact fun q => am_x_fg [0, 3] (k1 q)
  · exact fun q => k2 q
theorem S_X1_join_20 {G : am_G} {d : Nat} {Q : Int → am_D → Prop} {σ : am_D} {v3 : Int} (hi1 : 0 ≤ v3) (hj2 : v3 < 256) (k : am_X (am_FI G (d + 1) Q) mX1_join (0, 0) 30 [none, none, none, none] [am_i (σ.1 33 v3)] (am_K0, σ)) : am_X (am_FI G (d + 1) Q) mX1_join (0, 0) 20 [some (am_r (some 32)), none, none, some (am_i v3)] [] (am_K0, σ) := by
  refine am_r_aload_n (nx := 21) rfl rfl (show decode cX1_join 20 = .ok (.aload_n 0, 1) by decide +kernel) rfl ?_
  refine am_r_getF (nx := 24) 0 cw1 (by decide) rfl (Or.inl fl_X1_11) (ob_32) (fn_32_0) (show decode cX1_join 21 = .ok (.getfield 11, 3) by decide +kernel) rfl ?_
  refine am_r_iload_n (nx := 25) rfl rfl (show decode cX1_join 24 = .ok (.iload_n 3, 1) by decide +kernel) rfl ?_
  refine am_r_iald (nx := 26) (sh_33) (am_shle (sh_33)) hi1 hj2 (show decode cX1_join 25 = .ok (.iaload, 1) by decide +kernel) rfl ?_
  refine am_r_goto (tg := 30) (show decode cX1_join 26 = .ok (.goto 4, 3) by decide +kernel) (by decide) ?_
  exact am_x_fg [0, 3] k
theorem S_X1_join_29 {G : am_G} {d : Nat} {Q : Int → am_D → Prop} {σ : am_D}   (k : am_X (am_FI G (d + 1) Q) mX1_join (0, 0) 30 [none, none, none, none] [am_i (-1)] (am_K0, σ)) : am_X (am_FI G (d + 1) Q) mX1_join (0, 0) 29 [none, none, none, none] [] (am_K0, σ) := by
  refine am_r_iconst (nx := 30) (show decode cX1_join 29 = .ok (.iconst (-1), 1) by decide +kernel) rfl ?_
  exact k
theorem S_X1_join_30 {G : am_G} {d : Nat} {Q : Int → am_D → Prop} {σ : am_D} {s0 : Int}  (k : Q s0 σ) : am_X (am_FI G (d + 1) Q) mX1_join (0, 0) 30 [none, none, none, none] [am_i s0] (am_K0, σ) := by
  exact am_r_iret rfl rfl (show decode cX1_join 30 = .ok (.ireturn, 1) by decide +kernel) ⟨_, _, rfl, rfl, k⟩
theorem S_X1_wrap_0 {G : am_G} {d : Nat} {Q : Int → am_D → Prop} {σ : am_D} {v1 : Int} {v2 : Int} {Q' : Int → am_D → Prop} (hc : am_MI G d mX10_at [am_r (some 34), am_i ((v1 * 16) + v2)] σ Q') (k : ∀ (x : Int) (σ' : am_D), Q' x σ' → Q x σ') : am_X (am_FI G (d + 1) Q) mX1_wrap (0, 0) 0 [some (am_r (some 32)), some (am_i v1), some (am_i v2)] [] (am_K0, σ) := by
  refine am_r_aload_n (nx := 1) rfl rfl (show decode cX1_wrap 0 = .ok (.aload_n 0, 1) by decide +kernel) rfl ?_
  refine am_r_getF (nx := 4) 1 cw1 (by decide) rfl (Or.inl fl_X1_15) (ob_32) (fn_32_1) (show decode cX1_wrap 1 = .ok (.getfield 15, 3) by decide +kernel) rfl ?_
  refine am_r_iload_n (nx := 5) rfl rfl (show decode cX1_wrap 4 = .ok (.iload_n 1, 1) by decide +kernel) rfl ?_
  refine am_r_bipush (nx := 7) rfl (show decode cX1_wrap 5 = .ok (.bipush 16, 2) by decide +kernel) rfl ?_
  refine am_r_imul (nx := 8) (show decode cX1_wrap 7 = .ok (.imul, 1) by decide +kernel) rfl ?_
  refine am_r_iload_n (nx := 9) rfl rfl (show decode cX1_wrap 8 = .ok (.iload_n 2, 1) by decide +kernel) rfl ?_
  refine am_r_iadd (nx := 10) (show decode cX1_wrap 9 = .ok (.iadd, 1) by decide +kernel) rfl ?_
  refine am_r_callS (as := [am_r (some 34), am_i ((v1 * 16) + v2)]) (st := []) hc mb_X10_at mv_X10_at (Or.inr ⟨_, ml_X1_41⟩) rfl rfl (Nat.le_of_ble_eq_true rfl) ⟨Nat.le_refl _, Nat.le_refl _⟩ ⟨Nat.le_refl _, Nat.le_refl _⟩ (show decode cX1_wrap 10 = .ok (.invokestatic 41, 3) by decide +kernel) ?_
  rintro _ _ ⟨x, σ', rfl, rfl, hq⟩ _
  exact am_r_iret rfl rfl (show decode cX1_wrap 13 = .ok (.ireturn, 1) by decide +kernel) ⟨_, _, rfl, rfl, (k x σ' hq)⟩
end
