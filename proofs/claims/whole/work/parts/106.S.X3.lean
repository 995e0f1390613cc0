section
theorem S_X3_start_0 {G : am_G} {d : Nat} {Q : am_D → Prop} {σ : am_D} {v0 : Nat} {v1 : Option Nat} (hc1 : am_isR v0) (k : am_X (am_FV G (d + 1) Q) mX3_start (0, 0) 5 [some (am_r (some v0)), none, none] [] (am_K0, (am_pR σ v0 4 v1))) : am_X (am_FV G (d + 1) Q) mX3_start (0, 0) 0 [some (am_r (some v0)), some (am_r v1), none] [] (am_K0, σ) := by
  refine am_r_aload_n (nx := 1) rfl rfl (show decode cX3_start 0 = .ok (.aload_n 0, 1) by decide +kernel) rfl ?_
  refine am_r_aload_n (nx := 2) rfl rfl (show decode cX3_start 1 = .ok (.aload_n 1, 1) by decide +kernel) rfl ?_
  refine am_r_putR (nx := 5) (C2 := "TreeStream$Machine") 4 cw3 (by decide) rfl (Or.inl fl_X3_27) (obR hc1) rfl rfl (show decode cX3_start 2 = .ok (.putfield 27, 3) by decide +kernel) rfl ?_
  exact am_x_fg [1] k
theorem S_X3_start_5 {G : am_G} {d : Nat} {Q : am_D → Prop} {σ : am_D} {v0 : Nat} (hc1 : am_isR v0) (k : am_X (am_FV G (d + 1) Q) mX3_start (0, 0) 10 [some (am_r (some v0)), none, none] [] (am_K0, (am_pI σ v0 5 0))) : am_X (am_FV G (d + 1) Q) mX3_start (0, 0) 5 [some (am_r (some v0)), none, none] [] (am_K0, σ) := by
  refine am_r_aload_n (nx := 6) rfl rfl (show decode cX3_start 5 = .ok (.aload_n 0, 1) by decide +kernel) rfl ?_
  refine am_r_iconst (nx := 7) (show decode cX3_start 6 = .ok (.iconst 0, 1) by decide +kernel) rfl ?_
  refine am_r_putI (nx := 10) 5 cw3 (by decide) rfl (Or.inl fl_X3_31) (obR hc1) rfl (Or.inl rfl) (show decode cX3_start 7 = .ok (.putfield 31, 3) by decide +kernel) rfl ?_
  exact k
theorem S_X3_start_10 {G : am_G} {d : Nat} {Q : am_D → Prop} {σ : am_D} {v0 : Option Nat}  (k : am_X (am_FV G (d + 1) Q) mX3_start (0, 0) 12 [some (am_r v0), none, some (am_i 0)] [] (am_K0, σ)) : am_X (am_FV G (d + 1) Q) mX3_start (0, 0) 10 [some (am_r v0), none, none] [] (am_K0, σ) := by
  refine am_r_iconst (nx := 11) (show decode cX3_start 10 = .ok (.iconst 0, 1) by decide +kernel) rfl ?_
  refine am_r_istore_n (nx := 12) rfl (by decide) rfl (show decode cX3_start 11 = .ok (.istore_n 2, 1) by decide +kernel) rfl ?_
  exact k
theorem S_X3_start_12 {G : am_G} {d : Nat} {Q : am_D → Prop} {σ : am_D} {v2 : Int} {v0 : Option Nat} (hr1 : -2147483648 ≤ v2 ∧ v2 ≤ 2147483647) (k1 : 16 ≤ v2 → am_X (am_FV G (d + 1) Q) mX3_start (0, 0) 33 [some (am_r v0), none, none] [] (am_K0, σ)) (k2 : ¬ (16 ≤ v2) → am_X (am_FV G (d + 1) Q) mX3_start (0, 0) 18 [some (am_r v0), none, some (am_i v2)] [] (am_K0, σ)) : am_X (am_FV G (d + 1) Q) mX3_start (0, 0) 12 [some (am_r v0), none, some (am_i v2)] [] (am_K0, σ) := by
  refine am_r_iload_n (nx := 13) rfl rfl (show decode cX3_start 12 = .ok (.iload_n 2, 1) by decide +kernel) rfl ?_
  refine am_r_bipush (nx := 15) rfl (show decode cX3_start 13 = .ok (.bipush 16, 2) by decide +kernel) rfl ?_
  refine am_r_icmp_ge (tg := 33) (nx := 18) (show decode cX3_start 15 = .ok (.if_icmp .ge 18, 3) by decide +kernel) (by decide) rfl hr1 (by omega) ?_ ?_
  · exact fun q => am_x_fg [2] (k1 q)
  · exact fun q => k2 q
theorem S_X3_start_18 {G : am_G} {d : Nat} {Q : am_D → Prop} {σ : am_D} {v2 : Int} {v0 : Nat} {Q' : am_D → Prop} (hc1 : am_isR v0) (hc : am_MV G d mX10_put [am_r (some (v0 + 1)), am_i v2, am_i 0] σ Q') (k : ∀ σ' : am_D, Q' σ' → am_X (am_FV G (d + 1) Q) mX3_start (0, 0) 27 [some (am_r (some v0)), none, some (am_i v2)] [] (am_K0, σ')) : am_X (am_FV G (d + 1) Q) mX3_start (0, 0) 18 [some (am_r (some v0)), none, some (am_i v2)] [] (am_K0, σ) := by
  refine am_r_aload_n (nx := 19) rfl rfl (show decode cX3_start 18 = .ok (.aload_n 0, 1) by decide +kernel) rfl ?_
  refine am_r_getF (nx := 22) 0 cw3 (by decide) rfl (Or.inl fl_X3_17) (obR hc1) (fnR0 hc1) (show decode cX3_start 19 = .ok (.getfield 17, 3) by decide +kernel) rfl ?_
  refine am_r_iload_n (nx := 23) rfl rfl (show decode cX3_start 22 = .ok (.iload_n 2, 1) by decide +kernel) rfl ?_
  refine am_r_iconst (nx := 24) (show decode cX3_start 23 = .ok (.iconst 0, 1) by decide +kernel) rfl ?_
  refine am_r_callS (as := [am_r (some (v0 + 1)), am_i v2, am_i 0]) (st := []) hc mb_X10_put mv_X10_put (Or.inr ⟨_, ml_X3_35⟩) rfl rfl (Nat.le_of_ble_eq_true rfl) ⟨Nat.le_refl _, Nat.le_refl _⟩ ⟨Nat.le_refl _, Nat.le_refl _⟩ (show decode cX3_start 24 = .ok (.invokestatic 35, 3) by decide +kernel) ?_
  rintro _ _ ⟨σ', rfl, rfl, hq⟩ _
  exact (k σ' hq)
theorem S_X3_start_27 {G : am_G} {d : Nat} {Q : am_D → Prop} {σ : am_D} {v2 : Int} {v0 : Option Nat}  (k : am_X (am_FV G (d + 1) Q) mX3_start (0, 0) 12 [some (am_r v0), none, some (am_i (v2 + 1))] [] (am_K0, σ)) : am_X (am_FV G (d + 1) Q) mX3_start (0, 0) 27 [some (am_r v0), none, some (am_i v2)] [] (am_K0, σ) := by
  refine am_r_iinc (nx := 30) rfl rfl (show decode cX3_start 27 = .ok (.iinc 2 1, 3) by decide +kernel) rfl ?_
  refine am_r_goto (tg := 12) (show decode cX3_start 30 = .ok (.goto (-18), 3) by decide +kernel) (by decide) ?_
  exact k
theorem S_X3_start_33 {G : am_G} {d : Nat} {Q : am_D → Prop} {σ : am_D} {v0 : Nat} {Q' : am_D → Prop} (hc1 : am_isR v0) (hc : am_MV G d mX10_put [am_r (some (v0 + 1)), am_i 4, am_i (-1)] σ Q') (k : ∀ σ' : am_D, Q' σ' → am_X (am_FV G (d + 1) Q) mX3_start (0, 0) 42 [some (am_r (some v0)), none, none] [] (am_K0, σ')) : am_X (am_FV G (d + 1) Q) mX3_start (0, 0) 33 [some (am_r (some v0)), none, none] [] (am_K0, σ) := by
  refine am_r_aload_n (nx := 34) rfl rfl (show decode cX3_start 33 = .ok (.aload_n 0, 1) by decide +kernel) rfl ?_
  refine am_r_getF (nx := 37) 0 cw3 (by decide) rfl (Or.inl fl_X3_17) (obR hc1) (fnR0 hc1) (show decode cX3_start 34 = .ok (.getfield 17, 3) by decide +kernel) rfl ?_
  refine am_r_iconst (nx := 38) (show decode cX3_start 37 = .ok (.iconst 4, 1) by decide +kernel) rfl ?_
  refine am_r_iconst (nx := 39) (show decode cX3_start 38 = .ok (.iconst (-1), 1) by decide +kernel) rfl ?_
  refine am_r_callS (as := [am_r (some (v0 + 1)), am_i 4, am_i (-1)]) (st := []) hc mb_X10_put mv_X10_put (Or.inr ⟨_, ml_X3_35⟩) rfl rfl (Nat.le_of_ble_eq_true rfl) ⟨Nat.le_refl _, Nat.le_refl _⟩ ⟨Nat.le_refl _, Nat.le_refl _⟩ (show decode cX3_start 39 = .ok (.invokestatic 35, 3) by decide +kernel) ?_
  rintro _ _ ⟨σ', rfl, rfl, hq⟩ _
  exact (k σ' hq)
theorem S_X3_start_42 {G : am_G} {d : Nat} {Q : am_D → Prop} {σ : am_D} {v0 : Nat} {Q' : am_D → Prop} (hc1 : am_isR v0) (hc : am_MV G d mX10_put [am_r (some (v0 + 1)), am_i 5, am_i (-1)] σ Q') (k : ∀ σ' : am_D, Q' σ' → am_X (am_FV G (d + 1) Q) mX3_start (0, 0) 51 [none, none, none] [] (am_K0, σ')) : am_X (am_FV G (d + 1) Q) mX3_start (0, 0) 42 [some (am_r (some v0)), none, none] [] (am_K0, σ) := by
  refine am_r_aload_n (nx := 43) rfl rfl (show decode cX3_start 42 = .ok (.aload_n 0, 1) by decide +kernel) rfl ?_
  refine am_r_getF (nx := 46) 0 cw3 (by decide) rfl (Or.inl fl_X3_17) (obR hc1) (fnR0 hc1) (show decode cX3_start 43 = .ok (.getfield 17, 3) by decide +kernel) rfl ?_
  refine am_r_iconst (nx := 47) (show decode cX3_start 46 = .ok (.iconst 5, 1) by decide +kernel) rfl ?_
  refine am_r_iconst (nx := 48) (show decode cX3_start 47 = .ok (.iconst (-1), 1) by decide +kernel) rfl ?_
  refine am_r_callS (as := [am_r (some (v0 + 1)), am_i 5, am_i (-1)]) (st := []) hc mb_X10_put mv_X10_put (Or.inr ⟨_, ml_X3_35⟩) rfl rfl (Nat.le_of_ble_eq_true rfl) ⟨Nat.le_refl _, Nat.le_refl _⟩ ⟨Nat.le_refl _, Nat.le_refl _⟩ (show decode cX3_start 48 = .ok (.invokestatic 35, 3) by decide +kernel) ?_
  rintro _ _ ⟨σ', rfl, rfl, hq⟩ _
  exact am_x_fg [0] (k σ' hq)
theorem S_X3_start_51 {G : am_G} {d : Nat} {Q : am_D → Prop} {σ : am_D}   (k : Q σ) : am_X (am_FV G (d + 1) Q) mX3_start (0, 0) 51 [none, none, none] [] (am_K0, σ) := by
  exact am_r_vret rfl (show decode cX3_start 51 = .ok (.return_, 1) by decide +kernel) ⟨_, rfl, rfl, k⟩
theorem S_X3_now_0 {G : am_G} {d : Nat} {Q : Int → am_D → Prop} {σ : am_D} {v1 : Int} {v0 : Nat} {Q' : Int → am_D → Prop} (hc1 : am_isR v0) (hc : am_MI G d mX10_at [am_r (some (v0 + 1)), am_i (((σ.1 v0 5) * 16) + v1)] σ Q') (k : ∀ (x : Int) (σ' : am_D), Q' x σ' → Q x σ') : am_X (am_FI G (d + 1) Q) mX3_now (0, 0) 0 [some (am_r (some v0)), some (am_i v1)] [] (am_K0, σ) := by
  refine am_r_aload_n (nx := 1) rfl rfl (show decode cX3_now 0 = .ok (.aload_n 0, 1) by decide +kernel) rfl ?_
  refine am_r_getF (nx := 4) 0 cw3 (by decide) rfl (Or.inl fl_X3_17) (obR hc1) (fnR0 hc1) (show decode cX3_now 1 = .ok (.getfield 17, 3) by decide +kernel) rfl ?_
  refine am_r_aload_n (nx := 5) rfl rfl (show decode cX3_now 4 = .ok (.aload_n 0, 1) by decide +kernel) rfl ?_
  refine am_r_getI (nx := 8) 5 cw3 (by decide) rfl (Or.inl fl_X3_31) (obR hc1) (show decode cX3_now 5 = .ok (.getfield 31, 3) by decide +kernel) rfl ?_
  refine am_r_bipush (nx := 10) rfl (show decode cX3_now 8 = .ok (.bipush 16, 2) by decide +kernel) rfl ?_
  refine am_r_imul (nx := 11) (show decode cX3_now 10 = .ok (.imul, 1) by decide +kernel) rfl ?_
  refine am_r_iload_n (nx := 12) rfl rfl (show decode cX3_now 11 = .ok (.iload_n 1, 1) by decide +kernel) rfl ?_
  refine am_r_iadd (nx := 13) (show decode cX3_now 12 = .ok (.iadd, 1) by decide +kernel) rfl ?_
  refine am_r_callS (as := [am_r (some (v0 + 1)), am_i (((σ.1 v0 5) * 16) + v1)]) (st := []) hc mb_X10_at mv_X10_at (Or.inr ⟨_, ml_X3_39⟩) rfl rfl (Nat.le_of_ble_eq_true rfl) ⟨Nat.le_refl _, Nat.le_refl _⟩ ⟨Nat.le_refl _, Nat.le_refl _⟩ (show decode cX3_now 13 = .ok (.invokestatic 39, 3) by decide +kernel) ?_
  rintro _ _ ⟨x, σ', rfl, rfl, hq⟩ _
  exact am_r_iret rfl rfl (show decode cX3_now 16 = .ok (.ireturn, 1) by decide +kernel) ⟨_, _, rfl, rfl, (k x σ' hq)⟩
theorem S_X3_opens_0 {G : am_G} {d : Nat} {Q : Int → am_D → Prop} {σ : am_D} {v0 : Nat} {Q' : Int → am_D → Prop} (hc1 : am_isR v0) (hc : am_MI G d mX3_now [am_r (some v0), am_i 1] σ Q') (k : ∀ (x : Int) (σ' : am_D), Q' x σ' → am_X (am_FI G (d + 1) Q) mX3_opens (0, 0) 9 [none] [am_i x, am_i (σ.1 v0 5)] (am_K0, σ')) : am_X (am_FI G (d + 1) Q) mX3_opens (0, 0) 0 [some (am_r (some v0))] [] (am_K0, σ) := by
  refine am_r_aload_n (nx := 1) rfl rfl (show decode cX3_opens 0 = .ok (.aload_n 0, 1) by decide +kernel) rfl ?_
  refine am_r_getI (nx := 4) 5 cw3 (by decide) rfl (Or.inl fl_X3_31) (obR hc1) (show decode cX3_opens 1 = .ok (.getfield 31, 3) by decide +kernel) rfl ?_
  refine am_r_aload_n (nx := 5) rfl rfl (show decode cX3_opens 4 = .ok (.aload_n 0, 1) by decide +kernel) rfl ?_
  refine am_r_iconst (nx := 6) (show decode cX3_opens 5 = .ok (.iconst 1, 1) by decide +kernel) rfl ?_
  refine am_r_callV (as := [am_i 1]) (st := [am_i (σ.1 v0 5)]) hc mb_X3_now mv_X3_now (Or.inl ml_X3_43) (obR hc1) (by omega) (r := (RX3, TX3, 9)) rfl rfl rfl rfl (Nat.le_of_ble_eq_true rfl) ⟨Nat.le_refl _, Nat.le_refl _⟩ ⟨Nat.le_refl _, Nat.le_refl _⟩ (show decode cX3_opens 6 = .ok (.invokevirtual 43, 3) by decide +kernel) ?_
  rintro _ _ ⟨x, σ', rfl, rfl, hq⟩ _
  exact am_x_fg [0] (k x σ' hq)
theorem S_X3_opens_9 {G : am_G} {d : Nat} {Q : Int → am_D → Prop} {σ : am_D} {s0 : Int} {s1 : Int} (hr1 : -2147483648 ≤ (s0 + s1) ∧ (s0 + s1) ≤ 2147483647) (k : Q (Int.tdiv (s0 + s1) 2) σ) : am_X (am_FI G (d + 1) Q) mX3_opens (0, 0) 9 [none] [am_i s1, am_i s0] (am_K0, σ) := by
  refine am_r_iadd (nx := 10) (show decode cX3_opens 9 = .ok (.iadd, 1) by decide +kernel) rfl ?_
  refine am_r_iconst (nx := 11) (show decode cX3_opens 10 = .ok (.iconst 2, 1) by decide +kernel) rfl ?_
  refine am_r_idiv (nx := 12) hr1 (by omega) (show decode cX3_opens 11 = .ok (.idiv, 1) by decide +kernel) rfl ?_
  exact am_r_iret rfl rfl (show decode cX3_opens 12 = .ok (.ireturn, 1) by decide +kernel) ⟨_, _, rfl, rfl, k⟩
theorem S_X3_step_0 {G : am_G} {d : Nat} {Q : Int → am_D → Prop} {σ : am_D} {v1 : Int} {v0 : Option Nat} (hr1 : -2147483648 ≤ v1 ∧ v1 ≤ 2147483647) (k1 : ¬ v1 = 3 → am_X (am_FI G (d + 1) Q) mX3_step (0, 0) 12 [some (am_r v0), some (am_i v1)] [] (am_K0, σ)) (k2 : ¬ (¬ v1 = 3) → am_X (am_FI G (d + 1) Q) mX3_step (0, 0) 5 [some (am_r v0), none] [] (am_K0, σ)) : am_X (am_FI G (d + 1) Q) mX3_step (0, 0) 0 [some (am_r v0), some (am_i v1)] [] (am_K0, σ) := by
  refine am_r_iload_n (nx := 1) rfl rfl (show decode cX3_step 0 = .ok (.iload_n 1, 1) by decide +kernel) rfl ?_
  refine am_r_iconst (nx := 2) (show decode cX3_step 1 = .ok (.iconst 3, 1) by decide +kernel) rfl ?_
  refine am_r_icmp_ne (tg := 12) (nx := 5) (show decode cX3_step 2 = .ok (.if_icmp .ne 10, 3) by decide +kernel) (by decide) rfl hr1 (by omega) ?_ ?_
  · exact fun q => k1 q
  · exact fun q => am_x_fg [1] (k2 q)
theorem S_X3_step_5 {G : am_G} {d : Nat} {Q : Int → am_D → Prop} {σ : am_D} {v0 : Nat} {Q' : Int → am_D → Prop} (hc : am_MI G d mX3_stepOut [am_r (some v0)] σ Q') (hc1 : am_isR v0) (k : ∀ (x : Int) (σ' : am_D), Q' x σ' → am_X (am_FI G (d + 1) Q) mX3_step (0, 0) 9 [none, none] [am_i x] (am_K0, σ')) : am_X (am_FI G (d + 1) Q) mX3_step (0, 0) 5 [some (am_r (some v0)), none] [] (am_K0, σ) := by
  refine am_r_aload_n (nx := 6) rfl rfl (show decode cX3_step 5 = .ok (.aload_n 0, 1) by decide +kernel) rfl ?_
  refine am_r_callV (as := []) (st := []) hc mb_X3_stepOut mv_X3_stepOut (Or.inl ml_X3_47) (obR hc1) (by omega) (r := (RX3, TX3, 9)) rfl rfl rfl rfl (Nat.le_of_ble_eq_true rfl) ⟨Nat.le_refl _, Nat.le_refl _⟩ ⟨Nat.le_refl _, Nat.le_refl _⟩ (show decode cX3_step 6 = .ok (.invokevirtual 47, 3) by decide +kernel) ?_
  rintro _ _ ⟨x, σ', rfl, rfl, hq⟩ _
  exact am_x_fg [0] (k x σ' hq)
theorem S_X3_step_9 {G : am_G} {d : Nat} {Q : Int → am_D → Prop} {σ : am_D} {s0 : Int}  (k : am_X (am_FI G (d + 1) Q) mX3_step (0, 0) 17 [none, none] [am_i s0] (am_K0, σ)) : am_X (am_FI G (d + 1) Q) mX3_step (0, 0) 9 [none, none] [am_i s0] (am_K0, σ) := by
  refine am_r_goto (tg := 17) (show decode cX3_step 9 = .ok (.goto 8, 3) by decide +kernel) (by decide) ?_
  exact k
theorem S_X3_step_12 {G : am_G} {d : Nat} {Q : Int → am_D → Prop} {σ : am_D} {v1 : Int} {v0 : Nat} {Q' : Int → am_D → Prop} (hc : am_MI G d mX3_stepIn [am_r (some v0), am_i v1] σ Q') (hc1 : am_isR v0) (k : ∀ (x : Int) (σ' : am_D), Q' x σ' → am_X (am_FI G (d + 1) Q) mX3_step (0, 0) 17 [none, none] [am_i x] (am_K0, σ')) : am_X (am_FI G (d + 1) Q) mX3_step (0, 0) 12 [some (am_r (some v0)), some (am_i v1)] [] (am_K0, σ) := by
  refine am_r_aload_n (nx := 13) rfl rfl (show decode cX3_step 12 = .ok (.aload_n 0, 1) by decide +kernel) rfl ?_
  refine am_r_iload_n (nx := 14) rfl rfl (show decode cX3_step 13 = .ok (.iload_n 1, 1) by decide +kernel) rfl ?_
  refine am_r_callV (as := [am_i v1]) (st := []) hc mb_X3_stepIn mv_X3_stepIn (Or.inl ml_X3_51) (obR hc1) (by omega) (r := (RX3, TX3, 9)) rfl rfl rfl rfl (Nat.le_of_ble_eq_true rfl) ⟨Nat.le_refl _, Nat.le_refl _⟩ ⟨Nat.le_refl _, Nat.le_refl _⟩ (show decode cX3_step 14 = .ok (.invokevirtual 51, 3) by decide +kernel) ?_
  rintro _ _ ⟨x, σ', rfl, rfl, hq⟩ _
  exact am_x_fg [0, 1] (k x σ' hq)
theorem S_X3_step_17 {G : am_G} {d : Nat} {Q : Int → am_D → Prop} {σ : am_D} {s0 : Int} (hz : s0 = 0 ∨ s0 = 1) (k : Q s0 σ) : am_X (am_FI G (d + 1) Q) mX3_step (0, 0) 17 [none, none] [am_i s0] (am_K0, σ) := by
  exact am_r_iret rfl (by rcases hz with hz | hz <;> rw [hz] <;> rfl) (show decode cX3_step 17 = .ok (.ireturn, 1) by decide +kernel) ⟨_, _, rfl, rfl, k⟩
theorem S_X3_stepIn_0 {G : am_G} {d : Nat} {Q : Int → am_D → Prop} {σ : am_D} {v1 : Int} {v0 : Nat} (hc1 : am_isR v0) (k : am_X (am_FI G (d + 1) Q) mX3_stepIn (0, 0) 8 [some (am_r (some v0)), some (am_i v1), some (am_i ((σ.1 v0 5) * 16)), none, none, none, none] [] (am_K0, σ)) : am_X (am_FI G (d + 1) Q) mX3_stepIn (0, 0) 0 [some (am_r (some v0)), some (am_i v1), none, none, none, none, none] [] (am_K0, σ) := by
  refine am_r_aload_n (nx := 1) rfl rfl (show decode cX3_stepIn 0 = .ok (.aload_n 0, 1) by decide +kernel) rfl ?_
  refine am_r_getI (nx := 4) 5 cw3 (by decide) rfl (Or.inl fl_X3_31) (obR hc1) (show decode cX3_stepIn 1 = .ok (.getfield 31, 3) by decide +kernel) rfl ?_
  refine am_r_bipush (nx := 6) rfl (show decode cX3_stepIn 4 = .ok (.bipush 16, 2) by decide +kernel) rfl ?_
  refine am_r_imul (nx := 7) (show decode cX3_stepIn 6 = .ok (.imul, 1) by decide +kernel) rfl ?_
  refine am_r_istore_n (nx := 8) rfl (by decide) rfl (show decode cX3_stepIn 7 = .ok (.istore_n 2, 1) by decide +kernel) rfl ?_
  exact k
theorem S_X3_stepIn_8 {G : am_G} {d : Nat} {Q : Int → am_D → Prop} {σ : am_D} {v1 : Int} {v2 : Int} {v0 : Option Nat}  (k : am_X (am_FI G (d + 1) Q) mX3_stepIn (0, 0) 13 [some (am_r v0), some (am_i v1), some (am_i v2), some (am_i (v2 + 16)), none, none, none] [] (am_K0, σ)) : am_X (am_FI G (d + 1) Q) mX3_stepIn (0, 0) 8 [some (am_r v0), some (am_i v1), some (am_i v2), none, none, none, none] [] (am_K0, σ) := by
  refine am_r_iload_n (nx := 9) rfl rfl (show decode cX3_stepIn 8 = .ok (.iload_n 2, 1) by decide +kernel) rfl ?_
  refine am_r_bipush (nx := 11) rfl (show decode cX3_stepIn 9 = .ok (.bipush 16, 2) by decide +kernel) rfl ?_
  refine am_r_iadd (nx := 12) (show decode cX3_stepIn 11 = .ok (.iadd, 1) by decide +kernel) rfl ?_
  refine am_r_istore_n (nx := 13) rfl (by decide) rfl (show decode cX3_stepIn 12 = .ok (.istore_n 3, 1) by decide +kernel) rfl ?_
  exact k
theorem S_X3_stepIn_13 {G : am_G} {d : Nat} {Q : Int → am_D → Prop} {σ : am_D} {v1 : Int} {v2 : Int} {v3 : Int} {v0 : Nat} (hc1 : am_isR v0) (k1 : (σ.2.2 v0 4) = none → am_X (am_FI G (d + 1) Q) mX3_stepIn (0, 0) 36 [none, none, none, none, none, none, none] [] (am_K0, σ)) (k2 : ∀ a, (σ.2.2 v0 4) = some a → am_X (am_FI G (d + 1) Q) mX3_stepIn (0, 0) 20 [some (am_r (some v0)), some (am_i v1), some (am_i v2), some (am_i v3), none, none, none] [] (am_K0, σ)) : am_X (am_FI G (d + 1) Q) mX3_stepIn (0, 0) 13 [some (am_r (some v0)), some (am_i v1), some (am_i v2), some (am_i v3), none, none, none] [] (am_K0, σ) := by
  refine am_r_aload_n (nx := 14) rfl rfl (show decode cX3_stepIn 13 = .ok (.aload_n 0, 1) by decide +kernel) rfl ?_
  refine am_r_getR (nx := 17) 4 cw3 (by decide) rfl (Or.inl fl_X3_27) (obR hc1) (show decode cX3_stepIn 14 = .ok (.getfield 27, 3) by decide +kernel) rfl ?_
  refine am_r_ifnull (tg := 36) (nx := 20) (show decode cX3_stepIn 17 = .ok (.ifnull 19, 3) by decide +kernel) (by decide) rfl ?_ ?_
  · exact fun q => am_x_fg [0, 1, 2, 3] (k1 q)
  · exact fun a q => k2 a q
theorem S_X3_stepIn_20 {G : am_G} {d : Nat} {Q : Int → am_D → Prop} {σ : am_D} {v1 : Int} {v2 : Int} {v3 : Int} {v0 : Option Nat} (hr1 : -2147483648 ≤ v2 ∧ v2 ≤ 2147483647) (k1 : v2 < 0 → am_X (am_FI G (d + 1) Q) mX3_stepIn (0, 0) 36 [none, none, none, none, none, none, none] [] (am_K0, σ)) (k2 : ¬ (v2 < 0) → am_X (am_FI G (d + 1) Q) mX3_stepIn (0, 0) 24 [some (am_r v0), some (am_i v1), some (am_i v2), some (am_i v3), none, none, none] [] (am_K0, σ)) : am_X (am_FI G (d + 1) Q) mX3_stepIn (0, 0) 20 [some (am_r v0), some (am_i v1), some (am_i v2), some (am_i v3), none, none, none] [] (am_K0, σ) := by
  refine am_r_iload_n (nx := 21) rfl rfl (show decode cX3_stepIn 20 = .ok (.iload_n 2, 1) by decide +kernel) rfl ?_
  refine am_r_if_lt (tg := 36) (nx := 24) (show decode cX3_stepIn 21 = .ok (.ifCond .lt 15, 3) by decide +kernel) (by decide) rfl hr1 ?_ ?_
  · exact fun q => am_x_fg [0, 1, 2, 3] (k1 q)
  · exact fun q => k2 q
theorem S_X3_stepIn_24 {G : am_G} {d : Nat} {Q : Int → am_D → Prop} {σ : am_D} {v1 : Int} {v2 : Int} {v3 : Int} {v0 : Nat} (hc1 : am_isR v0) (hr2 : -2147483648 ≤ (v3 + 16) ∧ (v3 + 16) ≤ 2147483647) (hr3 : -2147483648 ≤ (((am_rc v0) : Nat) : Int) ∧ (((am_rc v0) : Nat) : Int) ≤ 2147483647) (k1 : (v3 + 16) ≤ (((am_rc v0) : Nat) : Int) → am_X (am_FI G (d + 1) Q) mX3_stepIn (0, 0) 38 [some (am_r (some v0)), some (am_i v1), some (am_i v2), some (am_i v3), none, none, none] [] (am_K0, σ)) (k2 : ¬ ((v3 + 16) ≤ (((am_rc v0) : Nat) : Int)) → am_X (am_FI G (d + 1) Q) mX3_stepIn (0, 0) 36 [none, none, none, none, none, none, none] [] (am_K0, σ)) : am_X (am_FI G (d + 1) Q) mX3_stepIn (0, 0) 24 [some (am_r (some v0)), some (am_i v1), some (am_i v2), some (am_i v3), none, none, none] [] (am_K0, σ) := by
  refine am_r_iload_n (nx := 25) rfl rfl (show decode cX3_stepIn 24 = .ok (.iload_n 3, 1) by decide +kernel) rfl ?_
  refine am_r_bipush (nx := 27) rfl (show decode cX3_stepIn 25 = .ok (.bipush 16, 2) by decide +kernel) rfl ?_
  refine am_r_iadd (nx := 28) (show decode cX3_stepIn 27 = .ok (.iadd, 1) by decide +kernel) rfl ?_
  refine am_r_aload_n (nx := 29) rfl rfl (show decode cX3_stepIn 28 = .ok (.aload_n 0, 1) by decide +kernel) rfl ?_
  refine am_r_getF (nx := 32) 0 cw3 (by decide) rfl (Or.inl fl_X3_17) (obR hc1) (fnR0 hc1) (show decode cX3_stepIn 29 = .ok (.getfield 17, 3) by decide +kernel) rfl ?_
  refine am_r_alen (nx := 33) ((shR1 hc1)) (by omega) (by omega) (show decode cX3_stepIn 32 = .ok (.arraylength, 1) by decide +kernel) rfl ?_
  refine am_r_icmp_le (tg := 38) (nx := 36) (show decode cX3_stepIn 33 = .ok (.if_icmp .le 5, 3) by decide +kernel) (by decide) rfl hr2 hr3 ?_ ?_
  · exact fun q => k1 q
  · exact fun q => am_x_fg [0, 1, 2, 3] (k2 q)
theorem S_X3_stepIn_36 {G : am_G} {d : Nat} {Q : Int → am_D → Prop} {σ : am_D}   (k : Q 0 σ) : am_X (am_FI G (d + 1) Q) mX3_stepIn (0, 0) 36 [none, none, none, none, none, none, none] [] (am_K0, σ) := by
  refine am_r_iconst (nx := 37) (show decode cX3_stepIn 36 = .ok (.iconst 0, 1) by decide +kernel) rfl ?_
  exact am_r_iret rfl rfl (show decode cX3_stepIn 37 = .ok (.ireturn, 1) by decide +kernel) ⟨_, _, rfl, rfl, k⟩
theorem S_X3_stepIn_38 {G : am_G} {d : Nat} {Q : Int → am_D → Prop} {σ : am_D} {v1 : Int} {v2 : Int} {v3 : Int} {v0 : Nat} (hc1 : am_isR v0) (hi2 : 0 ≤ (v2 + 0)) (hj3 : (v2 + 0) < (((am_rc v0) : Nat) : Int)) (k : am_X (am_FI G (d + 1) Q) mX3_stepIn (0, 0) 48 [some (am_r (some v0)), some (am_i v1), some (am_i v2), some (am_i v3), some (am_i (σ.1 (v0 + 1) (v2 + 0))), none, none] [] (am_K0, σ)) : am_X (am_FI G (d + 1) Q) mX3_stepIn (0, 0) 38 [some (am_r (some v0)), some (am_i v1), some (am_i v2), some (am_i v3), none, none, none] [] (am_K0, σ) := by
  refine am_r_aload_n (nx := 39) rfl rfl (show decode cX3_stepIn 38 = .ok (.aload_n 0, 1) by decide +kernel) rfl ?_
  refine am_r_getF (nx := 42) 0 cw3 (by decide) rfl (Or.inl fl_X3_17) (obR hc1) (fnR0 hc1) (show decode cX3_stepIn 39 = .ok (.getfield 17, 3) by decide +kernel) rfl ?_
  refine am_r_iload_n (nx := 43) rfl rfl (show decode cX3_stepIn 42 = .ok (.iload_n 2, 1) by decide +kernel) rfl ?_
  refine am_r_iconst (nx := 44) (show decode cX3_stepIn 43 = .ok (.iconst 0, 1) by decide +kernel) rfl ?_
  refine am_r_iadd (nx := 45) (show decode cX3_stepIn 44 = .ok (.iadd, 1) by decide +kernel) rfl ?_
  refine am_r_iald (nx := 46) ((shR1 hc1)) (am_shle ((shR1 hc1))) hi2 hj3 (show decode cX3_stepIn 45 = .ok (.iaload, 1) by decide +kernel) rfl ?_
  refine am_r_istore (nx := 48) (by decide) rfl (show decode cX3_stepIn 46 = .ok (.istore 4, 2) by decide +kernel) rfl ?_
  exact k
theorem S_X3_stepIn_48 {G : am_G} {d : Nat} {Q : Int → am_D → Prop} {σ : am_D} {v1 : Int} {v2 : Int} {v3 : Int} {v4 : Int} {v0 : Nat} {a2 : Nat} {Q' : Int → am_D → Prop} (hc1 : am_isR v0) (ho3 : (σ.2.2 v0 4) = some a2) (hc : am_MI G d mX2_opensTo [am_r (some a2), am_i v1, am_i v4] σ Q') (hc4 : am_isM a2) (k : ∀ (x : Int) (σ' : am_D), Q' x σ' → am_X (am_FI G (d + 1) Q) mX3_stepIn (0, 0) 60 [some (am_r (some v0)), some (am_i v1), some (am_i v2), some (am_i v3), some (am_i v4), some (am_i x), none] [] (am_K0, σ')) : am_X (am_FI G (d + 1) Q) mX3_stepIn (0, 0) 48 [some (am_r (some v0)), some (am_i v1), some (am_i v2), some (am_i v3), some (am_i v4), none, none] [] (am_K0, σ) := by
  refine am_r_aload_n (nx := 49) rfl rfl (show decode cX3_stepIn 48 = .ok (.aload_n 0, 1) by decide +kernel) rfl ?_
  refine am_r_getRs (nx := 52) 4 ho3 cw3 (by decide) rfl (Or.inl fl_X3_27) (obR hc1) (show decode cX3_stepIn 49 = .ok (.getfield 27, 3) by decide +kernel) rfl ?_
  refine am_r_iload_n (nx := 53) rfl rfl (show decode cX3_stepIn 52 = .ok (.iload_n 1, 1) by decide +kernel) rfl ?_
  refine am_r_iload (nx := 55) rfl (show decode cX3_stepIn 53 = .ok (.iload 4, 2) by decide +kernel) rfl ?_
  refine am_r_callV (as := [am_i v1, am_i v4]) (st := []) hc mb_X2_opensTo mv_X2_opensTo (Or.inl ml_X3_55) (obM hc4) (by omega) (r := (RX2, TX2, 16)) rfl rfl rfl rfl (Nat.le_of_ble_eq_true rfl) ⟨Nat.le_refl _, Nat.le_refl _⟩ ⟨Nat.le_refl _, Nat.le_refl _⟩ (show decode cX3_stepIn 55 = .ok (.invokevirtual 55, 3) by decide +kernel) ?_
  rintro _ _ ⟨x, σ', rfl, rfl, hq⟩ _
  refine am_r_istore (nx := 60) (by decide) rfl (show decode cX3_stepIn 58 = .ok (.istore 5, 2) by decide +kernel) rfl ?_
  exact (k x σ' hq)
theorem S_X3_stepIn_60 {G : am_G} {d : Nat} {Q : Int → am_D → Prop} {σ : am_D} {v1 : Int} {v2 : Int} {v3 : Int} {v4 : Int} {v5 : Int} {v0 : Option Nat} (hr1 : -2147483648 ≤ v5 ∧ v5 ≤ 2147483647) (k1 : ¬ v5 = (-1) → am_X (am_FI G (d + 1) Q) mX3_stepIn (0, 0) 68 [some (am_r v0), some (am_i v1), some (am_i v2), some (am_i v3), some (am_i v4), some (am_i v5), none] [] (am_K0, σ)) (k2 : ¬ (¬ v5 = (-1)) → am_X (am_FI G (d + 1) Q) mX3_stepIn (0, 0) 66 [none, none, none, none, none, none, none] [] (am_K0, σ)) : am_X (am_FI G (d + 1) Q) mX3_stepIn (0, 0) 60 [some (am_r v0), some (am_i v1), some (am_i v2), some (am_i v3), some (am_i v4), some (am_i v5), none] [] (am_K0, σ) := by
  refine am_r_iload (nx := 62) rfl (show decode cX3_stepIn 60 = .ok (.iload 5, 2) by decide +kernel) rfl ?_
  refine am_r_iconst (nx := 63) (show decode cX3_stepIn 62 = .ok (.iconst (-1), 1) by decide +kernel) rfl ?_
  refine am_r_icmp_ne (tg := 68) (nx := 66) (show decode cX3_stepIn 63 = .ok (.if_icmp .ne 5, 3) by decide +kernel) (by decide) rfl hr1 (by omega) ?_ ?_
  · exact fun q => k1 q
  · exact fun q => am_x_fg [0, 1, 2, 3, 4, 5] (k2 q)
theorem S_X3_stepIn_66 {G : am_G} {d : Nat} {Q : Int → am_D → Prop} {σ : am_D}   (k : Q 0 σ) : am_X (am_FI G (d + 1) Q) mX3_stepIn (0, 0) 66 [none, none, none, none, none, none, none] [] (am_K0, σ) := by
  refine am_r_iconst (nx := 67) (show decode cX3_stepIn 66 = .ok (.iconst 0, 1) by decide +kernel) rfl ?_
  exact am_r_iret rfl rfl (show decode cX3_stepIn 67 = .ok (.ireturn, 1) by decide +kernel) ⟨_, _, rfl, rfl, k⟩
theorem S_X3_stepIn_68 {G : am_G} {d : Nat} {Q : Int → am_D → Prop} {σ : am_D} {v1 : Int} {v2 : Int} {v3 : Int} {v4 : Int} {v5 : Int} {v0 : Nat} (hc1 : am_isR v0) (hi2 : 0 ≤ (v3 + 0)) (hj3 : (v3 + 0) < (((am_rc v0) : Nat) : Int)) (k : am_X (am_FI G (d + 1) Q) mX3_stepIn (0, 0) 78 [some (am_r (some v0)), some (am_i v1), some (am_i v2), some (am_i v3), some (am_i v4), none, none] [] (am_K0, (am_pI σ (v0 + 1) (v3 + 0) v5))) : am_X (am_FI G (d + 1) Q) mX3_stepIn (0, 0) 68 [some (am_r (some v0)), some (am_i v1), some (am_i v2), some (am_i v3), some (am_i v4), some (am_i v5), none] [] (am_K0, σ) := by
  refine am_r_aload_n (nx := 69) rfl rfl (show decode cX3_stepIn 68 = .ok (.aload_n 0, 1) by decide +kernel) rfl ?_
  refine am_r_getF (nx := 72) 0 cw3 (by decide) rfl (Or.inl fl_X3_17) (obR hc1) (fnR0 hc1) (show decode cX3_stepIn 69 = .ok (.getfield 17, 3) by decide +kernel) rfl ?_
  refine am_r_iload_n (nx := 73) rfl rfl (show decode cX3_stepIn 72 = .ok (.iload_n 3, 1) by decide +kernel) rfl ?_
  refine am_r_iconst (nx := 74) (show decode cX3_stepIn 73 = .ok (.iconst 0, 1) by decide +kernel) rfl ?_
  refine am_r_iadd (nx := 75) (show decode cX3_stepIn 74 = .ok (.iadd, 1) by decide +kernel) rfl ?_
  refine am_r_iload (nx := 77) rfl (show decode cX3_stepIn 75 = .ok (.iload 5, 2) by decide +kernel) rfl ?_
  refine am_r_iast (nx := 78) ((shR1 hc1)) (am_shle ((shR1 hc1))) hi2 hj3 (show decode cX3_stepIn 77 = .ok (.iastore, 1) by decide +kernel) rfl ?_
  exact am_x_fg [5] k
theorem S_X3_stepIn_78 {G : am_G} {d : Nat} {Q : Int → am_D → Prop} {σ : am_D} {v1 : Int} {v2 : Int} {v3 : Int} {v4 : Int} {v0 : Nat} (hc1 : am_isR v0) (hi2 : 0 ≤ (v2 + 1)) (hj3 : (v2 + 1) < (((am_rc v0) : Nat) : Int)) (hi4 : 0 ≤ (v3 + 1)) (hj5 : (v3 + 1) < (((am_rc v0) : Nat) : Int)) (k : am_X (am_FI G (d + 1) Q) mX3_stepIn (0, 0) 96 [some (am_r (some v0)), some (am_i v1), some (am_i v2), some (am_i v3), some (am_i v4), none, none] [] (am_K0, (am_pI σ (v0 + 1) (v3 + 1) ((σ.1 (v0 + 1) (v2 + 1)) + 1)))) : am_X (am_FI G (d + 1) Q) mX3_stepIn (0, 0) 78 [some (am_r (some v0)), some (am_i v1), some (am_i v2), some (am_i v3), some (am_i v4), none, none] [] (am_K0, σ) := by
  refine am_r_aload_n (nx := 79) rfl rfl (show decode cX3_stepIn 78 = .ok (.aload_n 0, 1) by decide +kernel) rfl ?_
  refine am_r_getF (nx := 82) 0 cw3 (by decide) rfl (Or.inl fl_X3_17) (obR hc1) (fnR0 hc1) (show decode cX3_stepIn 79 = .ok (.getfield 17, 3) by decide +kernel) rfl ?_
  refine am_r_iload_n (nx := 83) rfl rfl (show decode cX3_stepIn 82 = .ok (.iload_n 3, 1) by decide +kernel) rfl ?_
  refine am_r_iconst (nx := 84) (show decode cX3_stepIn 83 = .ok (.iconst 1, 1) by decide +kernel) rfl ?_
  refine am_r_iadd (nx := 85) (show decode cX3_stepIn 84 = .ok (.iadd, 1) by decide +kernel) rfl ?_
  refine am_r_aload_n (nx := 86) rfl rfl (show decode cX3_stepIn 85 = .ok (.aload_n 0, 1) by decide +kernel) rfl ?_
  refine am_r_getF (nx := 89) 0 cw3 (by decide) rfl (Or.inl fl_X3_17) (obR hc1) (fnR0 hc1) (show decode cX3_stepIn 86 = .ok (.getfield 17, 3) by decide +kernel) rfl ?_
  refine am_r_iload_n (nx := 90) rfl rfl (show decode cX3_stepIn 89 = .ok (.iload_n 2, 1) by decide +kernel) rfl ?_
  refine am_r_iconst (nx := 91) (show decode cX3_stepIn 90 = .ok (.iconst 1, 1) by decide +kernel) rfl ?_
  refine am_r_iadd (nx := 92) (show decode cX3_stepIn 91 = .ok (.iadd, 1) by decide +kernel) rfl ?_
  refine am_r_iald (nx := 93) ((shR1 hc1)) (am_shle ((shR1 hc1))) hi2 hj3 (show decode cX3_stepIn 92 = .ok (.iaload, 1) by decide +kernel) rfl ?_
  refine am_r_iconst (nx := 94) (show decode cX3_stepIn 93 = .ok (.iconst 1, 1) by decide +kernel) rfl ?_
  refine am_r_iadd (nx := 95) (show decode cX3_stepIn 94 = .ok (.iadd, 1) by decide +kernel) rfl ?_
  refine am_r_iast (nx := 96) ((shR1 hc1)) (am_shle ((shR1 hc1))) hi4 hj5 (show decode cX3_stepIn 95 = .ok (.iastore, 1) by decide +kernel) rfl ?_
  exact k
theorem S_X3_stepIn_96 {G : am_G} {d : Nat} {Q : Int → am_D → Prop} {σ : am_D} {v1 : Int} {v2 : Int} {v3 : Int} {v4 : Int} {v0 : Nat} (hc1 : am_isR v0) (hi2 : 0 ≤ (v2 + 2)) (hj3 : (v2 + 2) < (((am_rc v0) : Nat) : Int)) (hi4 : 0 ≤ (v3 + 2)) (hj5 : (v3 + 2) < (((am_rc v0) : Nat) : Int)) (k : am_X (am_FI G (d + 1) Q) mX3_stepIn (0, 0) 112 [some (am_r (some v0)), some (am_i v1), some (am_i v2), some (am_i v3), some (am_i v4), none, none] [] (am_K0, (am_pI σ (v0 + 1) (v3 + 2) (σ.1 (v0 + 1) (v2 + 2))))) : am_X (am_FI G (d + 1) Q) mX3_stepIn (0, 0) 96 [some (am_r (some v0)), some (am_i v1), some (am_i v2), some (am_i v3), some (am_i v4), none, none] [] (am_K0, σ) := by
  refine am_r_aload_n (nx := 97) rfl rfl (show decode cX3_stepIn 96 = .ok (.aload_n 0, 1) by decide +kernel) rfl ?_
  refine am_r_getF (nx := 100) 0 cw3 (by decide) rfl (Or.inl fl_X3_17) (obR hc1) (fnR0 hc1) (show decode cX3_stepIn 97 = .ok (.getfield 17, 3) by decide +kernel) rfl ?_
  refine am_r_iload_n (nx := 101) rfl rfl (show decode cX3_stepIn 100 = .ok (.iload_n 3, 1) by decide +kernel) rfl ?_
  refine am_r_iconst (nx := 102) (show decode cX3_stepIn 101 = .ok (.iconst 2, 1) by decide +kernel) rfl ?_
  refine am_r_iadd (nx := 103) (show decode cX3_stepIn 102 = .ok (.iadd, 1) by decide +kernel) rfl ?_
  refine am_r_aload_n (nx := 104) rfl rfl (show decode cX3_stepIn 103 = .ok (.aload_n 0, 1) by decide +kernel) rfl ?_
  refine am_r_getF (nx := 107) 0 cw3 (by decide) rfl (Or.inl fl_X3_17) (obR hc1) (fnR0 hc1) (show decode cX3_stepIn 104 = .ok (.getfield 17, 3) by decide +kernel) rfl ?_
  refine am_r_iload_n (nx := 108) rfl rfl (show decode cX3_stepIn 107 = .ok (.iload_n 2, 1) by decide +kernel) rfl ?_
  refine am_r_iconst (nx := 109) (show decode cX3_stepIn 108 = .ok (.iconst 2, 1) by decide +kernel) rfl ?_
  refine am_r_iadd (nx := 110) (show decode cX3_stepIn 109 = .ok (.iadd, 1) by decide +kernel) rfl ?_
  refine am_r_iald (nx := 111) ((shR1 hc1)) (am_shle ((shR1 hc1))) hi2 hj3 (show decode cX3_stepIn 110 = .ok (.iaload, 1) by decide +kernel) rfl ?_
  refine am_r_iast (nx := 112) ((shR1 hc1)) (am_shle ((shR1 hc1))) hi4 hj5 (show decode cX3_stepIn 111 = .ok (.iastore, 1) by decide +kernel) rfl ?_
  exact k
theorem S_X3_stepIn_112 {G : am_G} {d : Nat} {Q : Int → am_D → Prop} {σ : am_D} {v1 : Int} {v2 : Int} {v3 : Int} {v4 : Int} {v0 : Nat} (hc1 : am_isR v0) (hi2 : 0 ≤ (v2 + 3)) (hj3 : (v2 + 3) < (((am_rc v0) : Nat) : Int)) (hi4 : 0 ≤ (v3 + 3)) (hj5 : (v3 + 3) < (((am_rc v0) : Nat) : Int)) (k : am_X (am_FI G (d + 1) Q) mX3_stepIn (0, 0) 128 [some (am_r (some v0)), some (am_i v1), some (am_i v2), some (am_i v3), some (am_i v4), none, none] [] (am_K0, (am_pI σ (v0 + 1) (v3 + 3) (σ.1 (v0 + 1) (v2 + 3))))) : am_X (am_FI G (d + 1) Q) mX3_stepIn (0, 0) 112 [some (am_r (some v0)), some (am_i v1), some (am_i v2), some (am_i v3), some (am_i v4), none, none] [] (am_K0, σ) := by
  refine am_r_aload_n (nx := 113) rfl rfl (show decode cX3_stepIn 112 = .ok (.aload_n 0, 1) by decide +kernel) rfl ?_
  refine am_r_getF (nx := 116) 0 cw3 (by decide) rfl (Or.inl fl_X3_17) (obR hc1) (fnR0 hc1) (show decode cX3_stepIn 113 = .ok (.getfield 17, 3) by decide +kernel) rfl ?_
  refine am_r_iload_n (nx := 117) rfl rfl (show decode cX3_stepIn 116 = .ok (.iload_n 3, 1) by decide +kernel) rfl ?_
  refine am_r_iconst (nx := 118) (show decode cX3_stepIn 117 = .ok (.iconst 3, 1) by decide +kernel) rfl ?_
  refine am_r_iadd (nx := 119) (show decode cX3_stepIn 118 = .ok (.iadd, 1) by decide +kernel) rfl ?_
  refine am_r_aload_n (nx := 120) rfl rfl (show decode cX3_stepIn 119 = .ok (.aload_n 0, 1) by decide +kernel) rfl ?_
  refine am_r_getF (nx := 123) 0 cw3 (by decide) rfl (Or.inl fl_X3_17) (obR hc1) (fnR0 hc1) (show decode cX3_stepIn 120 = .ok (.getfield 17, 3) by decide +kernel) rfl ?_
  refine am_r_iload_n (nx := 124) rfl rfl (show decode cX3_stepIn 123 = .ok (.iload_n 2, 1) by decide +kernel) rfl ?_
  refine am_r_iconst (nx := 125) (show decode cX3_stepIn 124 = .ok (.iconst 3, 1) by decide +kernel) rfl ?_
  refine am_r_iadd (nx := 126) (show decode cX3_stepIn 125 = .ok (.iadd, 1) by decide +kernel) rfl ?_
  refine am_r_iald (nx := 127) ((shR1 hc1)) (am_shle ((shR1 hc1))) hi2 hj3 (show decode cX3_stepIn 126 = .ok (.iaload, 1) by decide +kernel) rfl ?_
  refine am_r_iast (nx := 128) ((shR1 hc1)) (am_shle ((shR1 hc1))) hi4 hj5 (show decode cX3_stepIn 127 = .ok (.iastore, 1) by decide +kernel) rfl ?_
  exact k
theorem S_X3_stepIn_128 {G : am_G} {d : Nat} {Q : Int → am_D → Prop} {σ : am_D} {v1 : Int} {v2 : Int} {v3 : Int} {v4 : Int} {v0 : Nat} (hc1 : am_isR v0) (hi2 : 0 ≤ (v3 + 4)) (hj3 : (v3 + 4) < (((am_rc v0) : Nat) : Int)) (k : am_X (am_FI G (d + 1) Q) mX3_stepIn (0, 0) 137 [some (am_r (some v0)), some (am_i v1), some (am_i v2), some (am_i v3), some (am_i v4), none, none] [] (am_K0, (am_pI σ (v0 + 1) (v3 + 4) v2))) : am_X (am_FI G (d + 1) Q) mX3_stepIn (0, 0) 128 [some (am_r (some v0)), some (am_i v1), some (am_i v2), some (am_i v3), some (am_i v4), none, none] [] (am_K0, σ) := by
  refine am_r_aload_n (nx := 129) rfl rfl (show decode cX3_stepIn 128 = .ok (.aload_n 0, 1) by decide +kernel) rfl ?_
  refine am_r_getF (nx := 132) 0 cw3 (by decide) rfl (Or.inl fl_X3_17) (obR hc1) (fnR0 hc1) (show decode cX3_stepIn 129 = .ok (.getfield 17, 3) by decide +kernel) rfl ?_
  refine am_r_iload_n (nx := 133) rfl rfl (show decode cX3_stepIn 132 = .ok (.iload_n 3, 1) by decide +kernel) rfl ?_
  refine am_r_iconst (nx := 134) (show decode cX3_stepIn 133 = .ok (.iconst 4, 1) by decide +kernel) rfl ?_
  refine am_r_iadd (nx := 135) (show decode cX3_stepIn 134 = .ok (.iadd, 1) by decide +kernel) rfl ?_
  refine am_r_iload_n (nx := 136) rfl rfl (show decode cX3_stepIn 135 = .ok (.iload_n 2, 1) by decide +kernel) rfl ?_
  refine am_r_iast (nx := 137) ((shR1 hc1)) (am_shle ((shR1 hc1))) hi2 hj3 (show decode cX3_stepIn 136 = .ok (.iastore, 1) by decide +kernel) rfl ?_
  exact k
theorem S_X3_stepIn_137 {G : am_G} {d : Nat} {Q : Int → am_D → Prop} {σ : am_D} {v1 : Int} {v2 : Int} {v3 : Int} {v4 : Int} {v0 : Nat} {a2 : Nat} {Q' : Int → am_D → Prop} (hc1 : am_isR v0) (ho3 : (σ.2.2 v0 4) = some a2) (hc : am_MI G d mX2_lays [am_r (some a2), am_i v1, am_i v4] σ Q') (hc4 : am_isM a2) (k : ∀ (x : Int) (σ' : am_D), Q' x σ' → am_X (am_FI G (d + 1) Q) mX3_stepIn (0, 0) 154 [some (am_r (some v0)), none, some (am_i v2), some (am_i v3), none, none, none] [am_i x, am_i (v3 + 5), am_r (some (v0 + 1))] (am_K0, σ')) : am_X (am_FI G (d + 1) Q) mX3_stepIn (0, 0) 137 [some (am_r (some v0)), some (am_i v1), some (am_i v2), some (am_i v3), some (am_i v4), none, none] [] (am_K0, σ) := by
  refine am_r_aload_n (nx := 138) rfl rfl (show decode cX3_stepIn 137 = .ok (.aload_n 0, 1) by decide +kernel) rfl ?_
  refine am_r_getF (nx := 141) 0 cw3 (by decide) rfl (Or.inl fl_X3_17) (obR hc1) (fnR0 hc1) (show decode cX3_stepIn 138 = .ok (.getfield 17, 3) by decide +kernel) rfl ?_
  refine am_r_iload_n (nx := 142) rfl rfl (show decode cX3_stepIn 141 = .ok (.iload_n 3, 1) by decide +kernel) rfl ?_
  refine am_r_iconst (nx := 143) (show decode cX3_stepIn 142 = .ok (.iconst 5, 1) by decide +kernel) rfl ?_
  refine am_r_iadd (nx := 144) (show decode cX3_stepIn 143 = .ok (.iadd, 1) by decide +kernel) rfl ?_
  refine am_r_aload_n (nx := 145) rfl rfl (show decode cX3_stepIn 144 = .ok (.aload_n 0, 1) by decide +kernel) rfl ?_
  refine am_r_getRs (nx := 148) 4 ho3 cw3 (by decide) rfl (Or.inl fl_X3_27) (obR hc1) (show decode cX3_stepIn 145 = .ok (.getfield 27, 3) by decide +kernel) rfl ?_
  refine am_r_iload_n (nx := 149) rfl rfl (show decode cX3_stepIn 148 = .ok (.iload_n 1, 1) by decide +kernel) rfl ?_
  refine am_r_iload (nx := 151) rfl (show decode cX3_stepIn 149 = .ok (.iload 4, 2) by decide +kernel) rfl ?_
  refine am_r_callV (as := [am_i v1, am_i v4]) (st := [am_i (v3 + 5), am_r (some (v0 + 1))]) hc mb_X2_lays mv_X2_lays (Or.inl ml_X3_60) (obM hc4) (by omega) (r := (RX2, TX2, 16)) rfl rfl rfl rfl (Nat.le_of_ble_eq_true rfl) ⟨Nat.le_refl _, Nat.le_refl _⟩ ⟨Nat.le_refl _, Nat.le_refl _⟩ (show decode cX3_stepIn 151 = .ok (.invokevirtual 60, 3) by decide +kernel) ?_
  rintro _ _ ⟨x, σ', rfl, rfl, hq⟩ _
  exact am_x_fg [1, 4] (k x σ' hq)
theorem S_X3_stepIn_154 {G : am_G} {d : Nat} {Q : Int → am_D → Prop} {σ : am_D} {v2 : Int} {v3 : Int} {s1 : Int} {s2 : Int} {s0 : Nat} {n1 : Nat} {v0 : Option Nat} (hs2 : am_sh am_SH s0 = (100, n1)) (hi3 : 0 ≤ s1) (hj4 : s1 < ((n1 : Nat) : Int)) (k : am_X (am_FI G (d + 1) Q) mX3_stepIn (0, 0) 155 [some (am_r v0), none, some (am_i v2), some (am_i v3), none, none, none] [] (am_K0, (am_pI σ s0 s1 s2))) : am_X (am_FI G (d + 1) Q) mX3_stepIn (0, 0) 154 [some (am_r v0), none, some (am_i v2), some (am_i v3), none, none, none] [am_i s2, am_i s1, am_r (some s0)] (am_K0, σ) := by
  refine am_r_iast (nx := 155) (hs2) (am_shle (hs2)) hi3 hj4 (show decode cX3_stepIn 154 = .ok (.iastore, 1) by decide +kernel) rfl ?_
  exact k
theorem S_X3_stepIn_155 {G : am_G} {d : Nat} {Q : Int → am_D → Prop} {σ : am_D} {v2 : Int} {v3 : Int} {v0 : Nat} (hc1 : am_isR v0) (hi2 : 0 ≤ (v2 + 6)) (hj3 : (v2 + 6) < (((am_rc v0) : Nat) : Int)) (hi4 : 0 ≤ (v3 + 6)) (hj5 : (v3 + 6) < (((am_rc v0) : Nat) : Int)) (k : am_X (am_FI G (d + 1) Q) mX3_stepIn (0, 0) 173 [some (am_r (some v0)), none, none, some (am_i v3), none, none, none] [] (am_K0, (am_pI σ (v0 + 1) (v3 + 6) (σ.1 (v0 + 1) (v2 + 6))))) : am_X (am_FI G (d + 1) Q) mX3_stepIn (0, 0) 155 [some (am_r (some v0)), none, some (am_i v2), some (am_i v3), none, none, none] [] (am_K0, σ) := by
  refine am_r_aload_n (nx := 156) rfl rfl (show decode cX3_stepIn 155 = .ok (.aload_n 0, 1) by decide +kernel) rfl ?_
  refine am_r_getF (nx := 159) 0 cw3 (by decide) rfl (Or.inl fl_X3_17) (obR hc1) (fnR0 hc1) (show decode cX3_stepIn 156 = .ok (.getfield 17, 3) by decide +kernel) rfl ?_
  refine am_r_iload_n (nx := 160) rfl rfl (show decode cX3_stepIn 159 = .ok (.iload_n 3, 1) by decide +kernel) rfl ?_
  refine am_r_bipush (nx := 162) rfl (show decode cX3_stepIn 160 = .ok (.bipush 6, 2) by decide +kernel) rfl ?_
  refine am_r_iadd (nx := 163) (show decode cX3_stepIn 162 = .ok (.iadd, 1) by decide +kernel) rfl ?_
  refine am_r_aload_n (nx := 164) rfl rfl (show decode cX3_stepIn 163 = .ok (.aload_n 0, 1) by decide +kernel) rfl ?_
  refine am_r_getF (nx := 167) 0 cw3 (by decide) rfl (Or.inl fl_X3_17) (obR hc1) (fnR0 hc1) (show decode cX3_stepIn 164 = .ok (.getfield 17, 3) by decide +kernel) rfl ?_
  refine am_r_iload_n (nx := 168) rfl rfl (show decode cX3_stepIn 167 = .ok (.iload_n 2, 1) by decide +kernel) rfl ?_
  refine am_r_bipush (nx := 170) rfl (show decode cX3_stepIn 168 = .ok (.bipush 6, 2) by decide +kernel) rfl ?_
  refine am_r_iadd (nx := 171) (show decode cX3_stepIn 170 = .ok (.iadd, 1) by decide +kernel) rfl ?_
  refine am_r_iald (nx := 172) ((shR1 hc1)) (am_shle ((shR1 hc1))) hi2 hj3 (show decode cX3_stepIn 171 = .ok (.iaload, 1) by decide +kernel) rfl ?_
  refine am_r_iast (nx := 173) ((shR1 hc1)) (am_shle ((shR1 hc1))) hi4 hj5 (show decode cX3_stepIn 172 = .ok (.iastore, 1) by decide +kernel) rfl ?_
  exact am_x_fg [2] k
theorem S_X3_stepIn_173 {G : am_G} {d : Nat} {Q : Int → am_D → Prop} {σ : am_D} {v3 : Int} {v0 : Option Nat}  (k : am_X (am_FI G (d + 1) Q) mX3_stepIn (0, 0) 177 [some (am_r v0), none, none, some (am_i v3), none, none, some (am_i 7)] [] (am_K0, σ)) : am_X (am_FI G (d + 1) Q) mX3_stepIn (0, 0) 173 [some (am_r v0), none, none, some (am_i v3), none, none, none] [] (am_K0, σ) := by
  refine am_r_bipush (nx := 175) rfl (show decode cX3_stepIn 173 = .ok (.bipush 7, 2) by decide +kernel) rfl ?_
  refine am_r_istore (nx := 177) (by decide) rfl (show decode cX3_stepIn 175 = .ok (.istore 6, 2) by decide +kernel) rfl ?_
  exact k
theorem S_X3_stepIn_177 {G : am_G} {d : Nat} {Q : Int → am_D → Prop} {σ : am_D} {v3 : Int} {v6 : Int} {v0 : Option Nat} (hr1 : -2147483648 ≤ v6 ∧ v6 ≤ 2147483647) (k1 : 16 ≤ v6 → am_X (am_FI G (d + 1) Q) mX3_stepIn (0, 0) 202 [some (am_r v0), none, none, none, none, none, none] [] (am_K0, σ)) (k2 : ¬ (16 ≤ v6) → am_X (am_FI G (d + 1) Q) mX3_stepIn (0, 0) 184 [some (am_r v0), none, none, some (am_i v3), none, none, some (am_i v6)] [] (am_K0, σ)) : am_X (am_FI G (d + 1) Q) mX3_stepIn (0, 0) 177 [some (am_r v0), none, none, some (am_i v3), none, none, some (am_i v6)] [] (am_K0, σ) := by
  refine am_r_iload (nx := 179) rfl (show decode cX3_stepIn 177 = .ok (.iload 6, 2) by decide +kernel) rfl ?_
  refine am_r_bipush (nx := 181) rfl (show decode cX3_stepIn 179 = .ok (.bipush 16, 2) by decide +kernel) rfl ?_
  refine am_r_icmp_ge (tg := 202) (nx := 184) (show decode cX3_stepIn 181 = .ok (.if_icmp .ge 21, 3) by decide +kernel) (by decide) rfl hr1 (by omega) ?_ ?_
  · exact fun q => am_x_fg [3, 6] (k1 q)
  · exact fun q => k2 q
theorem S_X3_stepIn_184 {G : am_G} {d : Nat} {Q : Int → am_D → Prop} {σ : am_D} {v3 : Int} {v6 : Int} {v0 : Nat} (hc1 : am_isR v0) (hi2 : 0 ≤ ((v3 + v6) + 2)) (hj3 : ((v3 + v6) + 2) < (((am_rc v0) : Nat) : Int)) (k : am_X (am_FI G (d + 1) Q) mX3_stepIn (0, 0) 196 [some (am_r (some v0)), none, none, some (am_i v3), none, none, some (am_i v6)] [] (am_K0, (am_pI σ (v0 + 1) ((v3 + v6) + 2) 0))) : am_X (am_FI G (d + 1) Q) mX3_stepIn (0, 0) 184 [some (am_r (some v0)), none, none, some (am_i v3), none, none, some (am_i v6)] [] (am_K0, σ) := by
  refine am_r_aload_n (nx := 185) rfl rfl (show decode cX3_stepIn 184 = .ok (.aload_n 0, 1) by decide +kernel) rfl ?_
  refine am_r_getF (nx := 188) 0 cw3 (by decide) rfl (Or.inl fl_X3_17) (obR hc1) (fnR0 hc1) (show decode cX3_stepIn 185 = .ok (.getfield 17, 3) by decide +kernel) rfl ?_
  refine am_r_iload_n (nx := 189) rfl rfl (show decode cX3_stepIn 188 = .ok (.iload_n 3, 1) by decide +kernel) rfl ?_
  refine am_r_iload (nx := 191) rfl (show decode cX3_stepIn 189 = .ok (.iload 6, 2) by decide +kernel) rfl ?_
  refine am_r_iadd (nx := 192) (show decode cX3_stepIn 191 = .ok (.iadd, 1) by decide +kernel) rfl ?_
  refine am_r_iconst (nx := 193) (show decode cX3_stepIn 192 = .ok (.iconst 2, 1) by decide +kernel) rfl ?_
  refine am_r_iadd (nx := 194) (show decode cX3_stepIn 193 = .ok (.iadd, 1) by decide +kernel) rfl ?_
  refine am_r_iconst (nx := 195) (show decode cX3_stepIn 194 = .ok (.iconst 0, 1) by decide +kernel) rfl ?_
  refine am_r_iast (nx := 196) ((shR1 hc1)) (am_shle ((shR1 hc1))) hi2 hj3 (show decode cX3_stepIn 195 = .ok (.iastore, 1) by decide +kernel) rfl ?_
  exact k
theorem S_X3_stepIn_196 {G : am_G} {d : Nat} {Q : Int → am_D → Prop} {σ : am_D} {v3 : Int} {v6 : Int} {v0 : Option Nat}  (k : am_X (am_FI G (d + 1) Q) mX3_stepIn (0, 0) 177 [some (am_r v0), none, none, some (am_i v3), none, none, some (am_i (v6 + 3))] [] (am_K0, σ)) : am_X (am_FI G (d + 1) Q) mX3_stepIn (0, 0) 196 [some (am_r v0), none, none, some (am_i v3), none, none, some (am_i v6)] [] (am_K0, σ) := by
  refine am_r_iinc (nx := 199) rfl rfl (show decode cX3_stepIn 196 = .ok (.iinc 6 3, 3) by decide +kernel) rfl ?_
  refine am_r_goto (tg := 177) (show decode cX3_stepIn 199 = .ok (.goto (-22), 3) by decide +kernel) (by decide) ?_
  exact k
theorem S_X3_stepIn_202 {G : am_G} {d : Nat} {Q : Int → am_D → Prop} {σ : am_D} {v0 : Nat} (hc1 : am_isR v0) (k : am_X (am_FI G (d + 1) Q) mX3_stepIn (0, 0) 212 [none, none, none, none, none, none, none] [] (am_K0, (am_pI σ v0 5 ((σ.1 v0 5) + 1)))) : am_X (am_FI G (d + 1) Q) mX3_stepIn (0, 0) 202 [some (am_r (some v0)), none, none, none, none, none, none] [] (am_K0, σ) := by
  refine am_r_aload_n (nx := 203) rfl rfl (show decode cX3_stepIn 202 = .ok (.aload_n 0, 1) by decide +kernel) rfl ?_
  refine am_r_dup (nx := 204) rfl (show decode cX3_stepIn 203 = .ok (.dup, 1) by decide +kernel) rfl ?_
  refine am_r_getI (nx := 207) 5 cw3 (by decide) rfl (Or.inl fl_X3_31) (obR hc1) (show decode cX3_stepIn 204 = .ok (.getfield 31, 3) by decide +kernel) rfl ?_
  refine am_r_iconst (nx := 208) (show decode cX3_stepIn 207 = .ok (.iconst 1, 1) by decide +kernel) rfl ?_
  refine am_r_iadd (nx := 209) (show decode cX3_stepIn 208 = .ok (.iadd, 1) by decide +kernel) rfl ?_
  refine am_r_putI (nx := 212) 5 cw3 (by decide) rfl (Or.inl fl_X3_31) (obR hc1) rfl (Or.inl rfl) (show decode cX3_stepIn 209 = .ok (.putfield 31, 3) by decide +kernel) rfl ?_
  exact am_x_fg [0] k
theorem S_X3_stepIn_212 {G : am_G} {d : Nat} {Q : Int → am_D → Prop} {σ : am_D}   (k : Q 1 σ) : am_X (am_FI G (d + 1) Q) mX3_stepIn (0, 0) 212 [none, none, none, none, none, none, none] [] (am_K0, σ) := by
  refine am_r_iconst (nx := 213) (show decode cX3_stepIn 212 = .ok (.iconst 1, 1) by decide +kernel) rfl ?_
  exact am_r_iret rfl rfl (show decode cX3_stepIn 213 = .ok (.ireturn, 1) by decide +kernel) ⟨_, _, rfl, rfl, k⟩
theorem S_X3_stepOut_0 {G : am_G} {d : Nat} {Q : Int → am_D → Prop} {σ : am_D} {v0 : Nat} (hc1 : am_isR v0) (k : am_X (am_FI G (d + 1) Q) mX3_stepOut (0, 0) 8 [some (am_r (some v0)), some (am_i ((σ.1 v0 5) * 16)), none, none, none, none, none, none, none] [] (am_K0, σ)) : am_X (am_FI G (d + 1) Q) mX3_stepOut (0, 0) 0 [some (am_r (some v0)), none, none, none, none, none, none, none, none] [] (am_K0, σ) := by
  refine am_r_aload_n (nx := 1) rfl rfl (show decode cX3_stepOut 0 = .ok (.aload_n 0, 1) by decide +kernel) rfl ?_
  refine am_r_getI (nx := 4) 5 cw3 (by decide) rfl (Or.inl fl_X3_31) (obR hc1) (show decode cX3_stepOut 1 = .ok (.getfield 31, 3) by decide +kernel) rfl ?_
  refine am_r_bipush (nx := 6) rfl (show decode cX3_stepOut 4 = .ok (.bipush 16, 2) by decide +kernel) rfl ?_
  refine am_r_imul (nx := 7) (show decode cX3_stepOut 6 = .ok (.imul, 1) by decide +kernel) rfl ?_
  refine am_r_istore_n (nx := 8) rfl (by decide) rfl (show decode cX3_stepOut 7 = .ok (.istore_n 1, 1) by decide +kernel) rfl ?_
  exact k
theorem S_X3_stepOut_8 {G : am_G} {d : Nat} {Q : Int → am_D → Prop} {σ : am_D} {v1 : Int} {v0 : Option Nat}  (k : am_X (am_FI G (d + 1) Q) mX3_stepOut (0, 0) 13 [some (am_r v0), some (am_i v1), some (am_i (v1 + 16)), none, none, none, none, none, none] [] (am_K0, σ)) : am_X (am_FI G (d + 1) Q) mX3_stepOut (0, 0) 8 [some (am_r v0), some (am_i v1), none, none, none, none, none, none, none] [] (am_K0, σ) := by
  refine am_r_iload_n (nx := 9) rfl rfl (show decode cX3_stepOut 8 = .ok (.iload_n 1, 1) by decide +kernel) rfl ?_
  refine am_r_bipush (nx := 11) rfl (show decode cX3_stepOut 9 = .ok (.bipush 16, 2) by decide +kernel) rfl ?_
  refine am_r_iadd (nx := 12) (show decode cX3_stepOut 11 = .ok (.iadd, 1) by decide +kernel) rfl ?_
  refine am_r_istore_n (nx := 13) rfl (by decide) rfl (show decode cX3_stepOut 12 = .ok (.istore_n 2, 1) by decide +kernel) rfl ?_
  exact k
theorem S_X3_stepOut_13 {G : am_G} {d : Nat} {Q : Int → am_D → Prop} {σ : am_D} {v1 : Int} {v2 : Int} {v0 : Nat} (hc1 : am_isR v0) (k1 : (σ.2.2 v0 4) = none → am_X (am_FI G (d + 1) Q) mX3_stepOut (0, 0) 36 [none, none, none, none, none, none, none, none, none] [] (am_K0, σ)) (k2 : ∀ a, (σ.2.2 v0 4) = some a → am_X (am_FI G (d + 1) Q) mX3_stepOut (0, 0) 20 [some (am_r (some v0)), some (am_i v1), some (am_i v2), none, none, none, none, none, none] [] (am_K0, σ)) : am_X (am_FI G (d + 1) Q) mX3_stepOut (0, 0) 13 [some (am_r (some v0)), some (am_i v1), some (am_i v2), none, none, none, none, none, none] [] (am_K0, σ) := by
  refine am_r_aload_n (nx := 14) rfl rfl (show decode cX3_stepOut 13 = .ok (.aload_n 0, 1) by decide +kernel) rfl ?_
  refine am_r_getR (nx := 17) 4 cw3 (by decide) rfl (Or.inl fl_X3_27) (obR hc1) (show decode cX3_stepOut 14 = .ok (.getfield 27, 3) by decide +kernel) rfl ?_
  refine am_r_ifnull (tg := 36) (nx := 20) (show decode cX3_stepOut 17 = .ok (.ifnull 19, 3) by decide +kernel) (by decide) rfl ?_ ?_
  · exact fun q => am_x_fg [0, 1, 2] (k1 q)
  · exact fun a q => k2 a q
theorem S_X3_stepOut_20 {G : am_G} {d : Nat} {Q : Int → am_D → Prop} {σ : am_D} {v1 : Int} {v2 : Int} {v0 : Option Nat} (hr1 : -2147483648 ≤ v1 ∧ v1 ≤ 2147483647) (k1 : v1 < 0 → am_X (am_FI G (d + 1) Q) mX3_stepOut (0, 0) 36 [none, none, none, none, none, none, none, none, none] [] (am_K0, σ)) (k2 : ¬ (v1 < 0) → am_X (am_FI G (d + 1) Q) mX3_stepOut (0, 0) 24 [some (am_r v0), some (am_i v1), some (am_i v2), none, none, none, none, none, none] [] (am_K0, σ)) : am_X (am_FI G (d + 1) Q) mX3_stepOut (0, 0) 20 [some (am_r v0), some (am_i v1), some (am_i v2), none, none, none, none, none, none] [] (am_K0, σ) := by
  refine am_r_iload_n (nx := 21) rfl rfl (show decode cX3_stepOut 20 = .ok (.iload_n 1, 1) by decide +kernel) rfl ?_
  refine am_r_if_lt (tg := 36) (nx := 24) (show decode cX3_stepOut 21 = .ok (.ifCond .lt 15, 3) by decide +kernel) (by decide) rfl hr1 ?_ ?_
  · exact fun q => am_x_fg [0, 1, 2] (k1 q)
  · exact fun q => k2 q
theorem S_X3_stepOut_24 {G : am_G} {d : Nat} {Q : Int → am_D → Prop} {σ : am_D} {v1 : Int} {v2 : Int} {v0 : Nat} (hc1 : am_isR v0) (hr2 : -2147483648 ≤ (v2 + 16) ∧ (v2 + 16) ≤ 2147483647) (hr3 : -2147483648 ≤ (((am_rc v0) : Nat) : Int) ∧ (((am_rc v0) : Nat) : Int) ≤ 2147483647) (k1 : (v2 + 16) ≤ (((am_rc v0) : Nat) : Int) → am_X (am_FI G (d + 1) Q) mX3_stepOut (0, 0) 38 [some (am_r (some v0)), some (am_i v1), some (am_i v2), none, none, none, none, none, none] [] (am_K0, σ)) (k2 : ¬ ((v2 + 16) ≤ (((am_rc v0) : Nat) : Int)) → am_X (am_FI G (d + 1) Q) mX3_stepOut (0, 0) 36 [none, none, none, none, none, none, none, none, none] [] (am_K0, σ)) : am_X (am_FI G (d + 1) Q) mX3_stepOut (0, 0) 24 [some (am_r (some v0)), some (am_i v1), some (am_i v2), none, none, none, none, none, none] [] (am_K0, σ) := by
  refine am_r_iload_n (nx := 25) rfl rfl (show decode cX3_stepOut 24 = .ok (.iload_n 2, 1) by decide +kernel) rfl ?_
  refine am_r_bipush (nx := 27) rfl (show decode cX3_stepOut 25 = .ok (.bipush 16, 2) by decide +kernel) rfl ?_
  refine am_r_iadd (nx := 28) (show decode cX3_stepOut 27 = .ok (.iadd, 1) by decide +kernel) rfl ?_
  refine am_r_aload_n (nx := 29) rfl rfl (show decode cX3_stepOut 28 = .ok (.aload_n 0, 1) by decide +kernel) rfl ?_
  refine am_r_getF (nx := 32) 0 cw3 (by decide) rfl (Or.inl fl_X3_17) (obR hc1) (fnR0 hc1) (show decode cX3_stepOut 29 = .ok (.getfield 17, 3) by decide +kernel) rfl ?_
  refine am_r_alen (nx := 33) ((shR1 hc1)) (by omega) (by omega) (show decode cX3_stepOut 32 = .ok (.arraylength, 1) by decide +kernel) rfl ?_
  refine am_r_icmp_le (tg := 38) (nx := 36) (show decode cX3_stepOut 33 = .ok (.if_icmp .le 5, 3) by decide +kernel) (by decide) rfl hr2 hr3 ?_ ?_
  · exact fun q => k1 q
  · exact fun q => am_x_fg [0, 1, 2] (k2 q)
theorem S_X3_stepOut_36 {G : am_G} {d : Nat} {Q : Int → am_D → Prop} {σ : am_D}   (k : Q 0 σ) : am_X (am_FI G (d + 1) Q) mX3_stepOut (0, 0) 36 [none, none, none, none, none, none, none, none, none] [] (am_K0, σ) := by
  refine am_r_iconst (nx := 37) (show decode cX3_stepOut 36 = .ok (.iconst 0, 1) by decide +kernel) rfl ?_
  exact am_r_iret rfl rfl (show decode cX3_stepOut 37 = .ok (.ireturn, 1) by decide +kernel) ⟨_, _, rfl, rfl, k⟩
theorem S_X3_stepOut_38 {G : am_G} {d : Nat} {Q : Int → am_D → Prop} {σ : am_D} {v1 : Int} {v2 : Int} {v0 : Nat} (hc1 : am_isR v0) (hi2 : 0 ≤ (v1 + 4)) (hj3 : (v1 + 4) < (((am_rc v0) : Nat) : Int)) (k : am_X (am_FI G (d + 1) Q) mX3_stepOut (0, 0) 47 [some (am_r (some v0)), some (am_i v1), some (am_i v2), some (am_i (σ.1 (v0 + 1) (v1 + 4))), none, none, none, none, none] [] (am_K0, σ)) : am_X (am_FI G (d + 1) Q) mX3_stepOut (0, 0) 38 [some (am_r (some v0)), some (am_i v1), some (am_i v2), none, none, none, none, none, none] [] (am_K0, σ) := by
  refine am_r_aload_n (nx := 39) rfl rfl (show decode cX3_stepOut 38 = .ok (.aload_n 0, 1) by decide +kernel) rfl ?_
  refine am_r_getF (nx := 42) 0 cw3 (by decide) rfl (Or.inl fl_X3_17) (obR hc1) (fnR0 hc1) (show decode cX3_stepOut 39 = .ok (.getfield 17, 3) by decide +kernel) rfl ?_
  refine am_r_iload_n (nx := 43) rfl rfl (show decode cX3_stepOut 42 = .ok (.iload_n 1, 1) by decide +kernel) rfl ?_
  refine am_r_iconst (nx := 44) (show decode cX3_stepOut 43 = .ok (.iconst 4, 1) by decide +kernel) rfl ?_
  refine am_r_iadd (nx := 45) (show decode cX3_stepOut 44 = .ok (.iadd, 1) by decide +kernel) rfl ?_
  refine am_r_iald (nx := 46) ((shR1 hc1)) (am_shle ((shR1 hc1))) hi2 hj3 (show decode cX3_stepOut 45 = .ok (.iaload, 1) by decide +kernel) rfl ?_
  refine am_r_istore_n (nx := 47) rfl (by decide) rfl (show decode cX3_stepOut 46 = .ok (.istore_n 3, 1) by decide +kernel) rfl ?_
  exact k
theorem S_X3_stepOut_47 {G : am_G} {d : Nat} {Q : Int → am_D → Prop} {σ : am_D} {v1 : Int} {v2 : Int} {v3 : Int} {v0 : Nat} {a2 : Nat} {Q' : Int → am_D → Prop} (hc1 : am_isR v0) (ho3 : (σ.2.2 v0 4) = some a2) (hi4 : 0 ≤ (v1 + 5)) (hj5 : (v1 + 5) < (((am_rc v0) : Nat) : Int)) (hi6 : 0 ≤ (v1 + 0)) (hj7 : (v1 + 0) < (((am_rc v0) : Nat) : Int)) (hc : am_MI G d mX2_closesTo [am_r (some a2), am_i (σ.1 (v0 + 1) (v1 + 5)), am_i (σ.1 (v0 + 1) (v1 + 0))] σ Q') (hc8 : am_isM a2) (k : ∀ (x : Int) (σ' : am_D), Q' x σ' → am_X (am_FI G (d + 1) Q) mX3_stepOut (0, 0) 72 [some (am_r (some v0)), some (am_i v1), some (am_i v2), some (am_i v3), some (am_i x), none, none, none, none] [] (am_K0, σ')) : am_X (am_FI G (d + 1) Q) mX3_stepOut (0, 0) 47 [some (am_r (some v0)), some (am_i v1), some (am_i v2), some (am_i v3), none, none, none, none, none] [] (am_K0, σ) := by
  refine am_r_aload_n (nx := 48) rfl rfl (show decode cX3_stepOut 47 = .ok (.aload_n 0, 1) by decide +kernel) rfl ?_
  refine am_r_getRs (nx := 51) 4 ho3 cw3 (by decide) rfl (Or.inl fl_X3_27) (obR hc1) (show decode cX3_stepOut 48 = .ok (.getfield 27, 3) by decide +kernel) rfl ?_
  refine am_r_aload_n (nx := 52) rfl rfl (show decode cX3_stepOut 51 = .ok (.aload_n 0, 1) by decide +kernel) rfl ?_
  refine am_r_getF (nx := 55) 0 cw3 (by decide) rfl (Or.inl fl_X3_17) (obR hc1) (fnR0 hc1) (show decode cX3_stepOut 52 = .ok (.getfield 17, 3) by decide +kernel) rfl ?_
  refine am_r_iload_n (nx := 56) rfl rfl (show decode cX3_stepOut 55 = .ok (.iload_n 1, 1) by decide +kernel) rfl ?_
  refine am_r_iconst (nx := 57) (show decode cX3_stepOut 56 = .ok (.iconst 5, 1) by decide +kernel) rfl ?_
  refine am_r_iadd (nx := 58) (show decode cX3_stepOut 57 = .ok (.iadd, 1) by decide +kernel) rfl ?_
  refine am_r_iald (nx := 59) ((shR1 hc1)) (am_shle ((shR1 hc1))) hi4 hj5 (show decode cX3_stepOut 58 = .ok (.iaload, 1) by decide +kernel) rfl ?_
  refine am_r_aload_n (nx := 60) rfl rfl (show decode cX3_stepOut 59 = .ok (.aload_n 0, 1) by decide +kernel) rfl ?_
  refine am_r_getF (nx := 63) 0 cw3 (by decide) rfl (Or.inl fl_X3_17) (obR hc1) (fnR0 hc1) (show decode cX3_stepOut 60 = .ok (.getfield 17, 3) by decide +kernel) rfl ?_
  refine am_r_iload_n (nx := 64) rfl rfl (show decode cX3_stepOut 63 = .ok (.iload_n 1, 1) by decide +kernel) rfl ?_
  refine am_r_iconst (nx := 65) (show decode cX3_stepOut 64 = .ok (.iconst 0, 1) by decide +kernel) rfl ?_
  refine am_r_iadd (nx := 66) (show decode cX3_stepOut 65 = .ok (.iadd, 1) by decide +kernel) rfl ?_
  refine am_r_iald (nx := 67) ((shR1 hc1)) (am_shle ((shR1 hc1))) hi6 hj7 (show decode cX3_stepOut 66 = .ok (.iaload, 1) by decide +kernel) rfl ?_
  refine am_r_callV (as := [am_i (σ.1 (v0 + 1) (v1 + 5)), am_i (σ.1 (v0 + 1) (v1 + 0))]) (st := []) hc mb_X2_closesTo mv_X2_closesTo (Or.inl ml_X3_63) (obM hc8) (by omega) (r := (RX2, TX2, 16)) rfl rfl rfl rfl (Nat.le_of_ble_eq_true rfl) ⟨Nat.le_refl _, Nat.le_refl _⟩ ⟨Nat.le_refl _, Nat.le_refl _⟩ (show decode cX3_stepOut 67 = .ok (.invokevirtual 63, 3) by decide +kernel) ?_
  rintro _ _ ⟨x, σ', rfl, rfl, hq⟩ _
  refine am_r_istore (nx := 72) (by decide) rfl (show decode cX3_stepOut 70 = .ok (.istore 4, 2) by decide +kernel) rfl ?_
  exact (k x σ' hq)
theorem S_X3_stepOut_72 {G : am_G} {d : Nat} {Q : Int → am_D → Prop} {σ : am_D} {v1 : Int} {v2 : Int} {v3 : Int} {v4 : Int} {v0 : Option Nat} (hr1 : -2147483648 ≤ v3 ∧ v3 ≤ 2147483647) (k1 : v3 < 0 → am_X (am_FI G (d + 1) Q) mX3_stepOut (0, 0) 87 [none, none, none, none, none, none, none, none, none] [] (am_K0, σ)) (k2 : ¬ (v3 < 0) → am_X (am_FI G (d + 1) Q) mX3_stepOut (0, 0) 76 [some (am_r v0), some (am_i v1), some (am_i v2), some (am_i v3), some (am_i v4), none, none, none, none] [] (am_K0, σ)) : am_X (am_FI G (d + 1) Q) mX3_stepOut (0, 0) 72 [some (am_r v0), some (am_i v1), some (am_i v2), some (am_i v3), some (am_i v4), none, none, none, none] [] (am_K0, σ) := by
  refine am_r_iload_n (nx := 73) rfl rfl (show decode cX3_stepOut 72 = .ok (.iload_n 3, 1) by decide +kernel) rfl ?_
  refine am_r_if_lt (tg := 87) (nx := 76) (show decode cX3_stepOut 73 = .ok (.ifCond .lt 14, 3) by decide +kernel) (by decide) rfl hr1 ?_ ?_
  · exact fun q => am_x_fg [0, 1, 2, 3, 4] (k1 q)
  · exact fun q => k2 q
theorem S_X3_stepOut_76 {G : am_G} {d : Nat} {Q : Int → am_D → Prop} {σ : am_D} {v1 : Int} {v2 : Int} {v3 : Int} {v4 : Int} {v0 : Option Nat} (hr1 : -2147483648 ≤ v3 ∧ v3 ≤ 2147483647) (hr2 : -2147483648 ≤ v1 ∧ v1 ≤ 2147483647) (k1 : v1 ≤ v3 → am_X (am_FI G (d + 1) Q) mX3_stepOut (0, 0) 87 [none, none, none, none, none, none, none, none, none] [] (am_K0, σ)) (k2 : ¬ (v1 ≤ v3) → am_X (am_FI G (d + 1) Q) mX3_stepOut (0, 0) 81 [some (am_r v0), some (am_i v1), some (am_i v2), some (am_i v3), some (am_i v4), none, none, none, none] [] (am_K0, σ)) : am_X (am_FI G (d + 1) Q) mX3_stepOut (0, 0) 76 [some (am_r v0), some (am_i v1), some (am_i v2), some (am_i v3), some (am_i v4), none, none, none, none] [] (am_K0, σ) := by
  refine am_r_iload_n (nx := 77) rfl rfl (show decode cX3_stepOut 76 = .ok (.iload_n 3, 1) by decide +kernel) rfl ?_
  refine am_r_iload_n (nx := 78) rfl rfl (show decode cX3_stepOut 77 = .ok (.iload_n 1, 1) by decide +kernel) rfl ?_
  refine am_r_icmp_ge (tg := 87) (nx := 81) (show decode cX3_stepOut 78 = .ok (.if_icmp .ge 9, 3) by decide +kernel) (by decide) rfl hr1 hr2 ?_ ?_
  · exact fun q => am_x_fg [0, 1, 2, 3, 4] (k1 q)
  · exact fun q => k2 q
theorem S_X3_stepOut_81 {G : am_G} {d : Nat} {Q : Int → am_D → Prop} {σ : am_D} {v1 : Int} {v2 : Int} {v3 : Int} {v4 : Int} {v0 : Option Nat} (hr1 : -2147483648 ≤ v4 ∧ v4 ≤ 2147483647) (k1 : ¬ v4 = (-1) → am_X (am_FI G (d + 1) Q) mX3_stepOut (0, 0) 89 [some (am_r v0), some (am_i v1), some (am_i v2), some (am_i v3), some (am_i v4), none, none, none, none] [] (am_K0, σ)) (k2 : ¬ (¬ v4 = (-1)) → am_X (am_FI G (d + 1) Q) mX3_stepOut (0, 0) 87 [none, none, none, none, none, none, none, none, none] [] (am_K0, σ)) : am_X (am_FI G (d + 1) Q) mX3_stepOut (0, 0) 81 [some (am_r v0), some (am_i v1), some (am_i v2), some (am_i v3), some (am_i v4), none, none, none, none] [] (am_K0, σ) := by
  refine am_r_iload (nx := 83) rfl (show decode cX3_stepOut 81 = .ok (.iload 4, 2) by decide +kernel) rfl ?_
  refine am_r_iconst (nx := 84) (show decode cX3_stepOut 83 = .ok (.iconst (-1), 1) by decide +kernel) rfl ?_
  refine am_r_icmp_ne (tg := 89) (nx := 87) (show decode cX3_stepOut 84 = .ok (.if_icmp .ne 5, 3) by decide +kernel) (by decide) rfl hr1 (by omega) ?_ ?_
  · exact fun q => k1 q
  · exact fun q => am_x_fg [0, 1, 2, 3, 4] (k2 q)
theorem S_X3_stepOut_87 {G : am_G} {d : Nat} {Q : Int → am_D → Prop} {σ : am_D}   (k : Q 0 σ) : am_X (am_FI G (d + 1) Q) mX3_stepOut (0, 0) 87 [none, none, none, none, none, none, none, none, none] [] (am_K0, σ) := by
  refine am_r_iconst (nx := 88) (show decode cX3_stepOut 87 = .ok (.iconst 0, 1) by decide +kernel) rfl ?_
  exact am_r_iret rfl rfl (show decode cX3_stepOut 88 = .ok (.ireturn, 1) by decide +kernel) ⟨_, _, rfl, rfl, k⟩
theorem S_X3_stepOut_89 {G : am_G} {d : Nat} {Q : Int → am_D → Prop} {σ : am_D} {v1 : Int} {v2 : Int} {v3 : Int} {v4 : Int} {v0 : Nat} (hc1 : am_isR v0) (hi2 : 0 ≤ (v2 + 0)) (hj3 : (v2 + 0) < (((am_rc v0) : Nat) : Int)) (k : am_X (am_FI G (d + 1) Q) mX3_stepOut (0, 0) 99 [some (am_r (some v0)), some (am_i v1), some (am_i v2), some (am_i v3), none, none, none, none, none] [] (am_K0, (am_pI σ (v0 + 1) (v2 + 0) v4))) : am_X (am_FI G (d + 1) Q) mX3_stepOut (0, 0) 89 [some (am_r (some v0)), some (am_i v1), some (am_i v2), some (am_i v3), some (am_i v4), none, none, none, none] [] (am_K0, σ) := by
  refine am_r_aload_n (nx := 90) rfl rfl (show decode cX3_stepOut 89 = .ok (.aload_n 0, 1) by decide +kernel) rfl ?_
  refine am_r_getF (nx := 93) 0 cw3 (by decide) rfl (Or.inl fl_X3_17) (obR hc1) (fnR0 hc1) (show decode cX3_stepOut 90 = .ok (.getfield 17, 3) by decide +kernel) rfl ?_
  refine am_r_iload_n (nx := 94) rfl rfl (show decode cX3_stepOut 93 = .ok (.iload_n 2, 1) by decide +kernel) rfl ?_
  refine am_r_iconst (nx := 95) (show decode cX3_stepOut 94 = .ok (.iconst 0, 1) by decide +kernel) rfl ?_
  refine am_r_iadd (nx := 96) (show decode cX3_stepOut 95 = .ok (.iadd, 1) by decide +kernel) rfl ?_
  refine am_r_iload (nx := 98) rfl (show decode cX3_stepOut 96 = .ok (.iload 4, 2) by decide +kernel) rfl ?_
  refine am_r_iast (nx := 99) ((shR1 hc1)) (am_shle ((shR1 hc1))) hi2 hj3 (show decode cX3_stepOut 98 = .ok (.iastore, 1) by decide +kernel) rfl ?_
  exact am_x_fg [4] k
theorem S_X3_stepOut_99 {G : am_G} {d : Nat} {Q : Int → am_D → Prop} {σ : am_D} {v1 : Int} {v2 : Int} {v3 : Int} {v0 : Nat} (hc1 : am_isR v0) (hi2 : 0 ≤ (v3 + 1)) (hj3 : (v3 + 1) < (((am_rc v0) : Nat) : Int)) (hi4 : 0 ≤ (v2 + 1)) (hj5 : (v2 + 1) < (((am_rc v0) : Nat) : Int)) (k : am_X (am_FI G (d + 1) Q) mX3_stepOut (0, 0) 115 [some (am_r (some v0)), some (am_i v1), some (am_i v2), some (am_i v3), none, none, none, none, none] [] (am_K0, (am_pI σ (v0 + 1) (v2 + 1) (σ.1 (v0 + 1) (v3 + 1))))) : am_X (am_FI G (d + 1) Q) mX3_stepOut (0, 0) 99 [some (am_r (some v0)), some (am_i v1), some (am_i v2), some (am_i v3), none, none, none, none, none] [] (am_K0, σ) := by
  refine am_r_aload_n (nx := 100) rfl rfl (show decode cX3_stepOut 99 = .ok (.aload_n 0, 1) by decide +kernel) rfl ?_
  refine am_r_getF (nx := 103) 0 cw3 (by decide) rfl (Or.inl fl_X3_17) (obR hc1) (fnR0 hc1) (show decode cX3_stepOut 100 = .ok (.getfield 17, 3) by decide +kernel) rfl ?_
  refine am_r_iload_n (nx := 104) rfl rfl (show decode cX3_stepOut 103 = .ok (.iload_n 2, 1) by decide +kernel) rfl ?_
  refine am_r_iconst (nx := 105) (show decode cX3_stepOut 104 = .ok (.iconst 1, 1) by decide +kernel) rfl ?_
  refine am_r_iadd (nx := 106) (show decode cX3_stepOut 105 = .ok (.iadd, 1) by decide +kernel) rfl ?_
  refine am_r_aload_n (nx := 107) rfl rfl (show decode cX3_stepOut 106 = .ok (.aload_n 0, 1) by decide +kernel) rfl ?_
  refine am_r_getF (nx := 110) 0 cw3 (by decide) rfl (Or.inl fl_X3_17) (obR hc1) (fnR0 hc1) (show decode cX3_stepOut 107 = .ok (.getfield 17, 3) by decide +kernel) rfl ?_
  refine am_r_iload_n (nx := 111) rfl rfl (show decode cX3_stepOut 110 = .ok (.iload_n 3, 1) by decide +kernel) rfl ?_
  refine am_r_iconst (nx := 112) (show decode cX3_stepOut 111 = .ok (.iconst 1, 1) by decide +kernel) rfl ?_
  refine am_r_iadd (nx := 113) (show decode cX3_stepOut 112 = .ok (.iadd, 1) by decide +kernel) rfl ?_
  refine am_r_iald (nx := 114) ((shR1 hc1)) (am_shle ((shR1 hc1))) hi2 hj3 (show decode cX3_stepOut 113 = .ok (.iaload, 1) by decide +kernel) rfl ?_
  refine am_r_iast (nx := 115) ((shR1 hc1)) (am_shle ((shR1 hc1))) hi4 hj5 (show decode cX3_stepOut 114 = .ok (.iastore, 1) by decide +kernel) rfl ?_
  exact k
theorem S_X3_stepOut_115 {G : am_G} {d : Nat} {Q : Int → am_D → Prop} {σ : am_D} {v1 : Int} {v2 : Int} {v3 : Int} {v0 : Nat} (hc1 : am_isR v0) (hi2 : 0 ≤ (v3 + 4)) (hj3 : (v3 + 4) < (((am_rc v0) : Nat) : Int)) (hi4 : 0 ≤ (v2 + 4)) (hj5 : (v2 + 4) < (((am_rc v0) : Nat) : Int)) (k : am_X (am_FI G (d + 1) Q) mX3_stepOut (0, 0) 131 [some (am_r (some v0)), some (am_i v1), some (am_i v2), some (am_i v3), none, none, none, none, none] [] (am_K0, (am_pI σ (v0 + 1) (v2 + 4) (σ.1 (v0 + 1) (v3 + 4))))) : am_X (am_FI G (d + 1) Q) mX3_stepOut (0, 0) 115 [some (am_r (some v0)), some (am_i v1), some (am_i v2), some (am_i v3), none, none, none, none, none] [] (am_K0, σ) := by
  refine am_r_aload_n (nx := 116) rfl rfl (show decode cX3_stepOut 115 = .ok (.aload_n 0, 1) by decide +kernel) rfl ?_
  refine am_r_getF (nx := 119) 0 cw3 (by decide) rfl (Or.inl fl_X3_17) (obR hc1) (fnR0 hc1) (show decode cX3_stepOut 116 = .ok (.getfield 17, 3) by decide +kernel) rfl ?_
  refine am_r_iload_n (nx := 120) rfl rfl (show decode cX3_stepOut 119 = .ok (.iload_n 2, 1) by decide +kernel) rfl ?_
  refine am_r_iconst (nx := 121) (show decode cX3_stepOut 120 = .ok (.iconst 4, 1) by decide +kernel) rfl ?_
  refine am_r_iadd (nx := 122) (show decode cX3_stepOut 121 = .ok (.iadd, 1) by decide +kernel) rfl ?_
  refine am_r_aload_n (nx := 123) rfl rfl (show decode cX3_stepOut 122 = .ok (.aload_n 0, 1) by decide +kernel) rfl ?_
  refine am_r_getF (nx := 126) 0 cw3 (by decide) rfl (Or.inl fl_X3_17) (obR hc1) (fnR0 hc1) (show decode cX3_stepOut 123 = .ok (.getfield 17, 3) by decide +kernel) rfl ?_
  refine am_r_iload_n (nx := 127) rfl rfl (show decode cX3_stepOut 126 = .ok (.iload_n 3, 1) by decide +kernel) rfl ?_
  refine am_r_iconst (nx := 128) (show decode cX3_stepOut 127 = .ok (.iconst 4, 1) by decide +kernel) rfl ?_
  refine am_r_iadd (nx := 129) (show decode cX3_stepOut 128 = .ok (.iadd, 1) by decide +kernel) rfl ?_
  refine am_r_iald (nx := 130) ((shR1 hc1)) (am_shle ((shR1 hc1))) hi2 hj3 (show decode cX3_stepOut 129 = .ok (.iaload, 1) by decide +kernel) rfl ?_
  refine am_r_iast (nx := 131) ((shR1 hc1)) (am_shle ((shR1 hc1))) hi4 hj5 (show decode cX3_stepOut 130 = .ok (.iastore, 1) by decide +kernel) rfl ?_
  exact k
theorem S_X3_stepOut_131 {G : am_G} {d : Nat} {Q : Int → am_D → Prop} {σ : am_D} {v1 : Int} {v2 : Int} {v3 : Int} {v0 : Nat} (hc1 : am_isR v0) (hi2 : 0 ≤ (v3 + 5)) (hj3 : (v3 + 5) < (((am_rc v0) : Nat) : Int)) (hi4 : 0 ≤ (v2 + 5)) (hj5 : (v2 + 5) < (((am_rc v0) : Nat) : Int)) (k : am_X (am_FI G (d + 1) Q) mX3_stepOut (0, 0) 147 [some (am_r (some v0)), some (am_i v1), some (am_i v2), some (am_i v3), none, none, none, none, none] [] (am_K0, (am_pI σ (v0 + 1) (v2 + 5) (σ.1 (v0 + 1) (v3 + 5))))) : am_X (am_FI G (d + 1) Q) mX3_stepOut (0, 0) 131 [some (am_r (some v0)), some (am_i v1), some (am_i v2), some (am_i v3), none, none, none, none, none] [] (am_K0, σ) := by
  refine am_r_aload_n (nx := 132) rfl rfl (show decode cX3_stepOut 131 = .ok (.aload_n 0, 1) by decide +kernel) rfl ?_
  refine am_r_getF (nx := 135) 0 cw3 (by decide) rfl (Or.inl fl_X3_17) (obR hc1) (fnR0 hc1) (show decode cX3_stepOut 132 = .ok (.getfield 17, 3) by decide +kernel) rfl ?_
  refine am_r_iload_n (nx := 136) rfl rfl (show decode cX3_stepOut 135 = .ok (.iload_n 2, 1) by decide +kernel) rfl ?_
  refine am_r_iconst (nx := 137) (show decode cX3_stepOut 136 = .ok (.iconst 5, 1) by decide +kernel) rfl ?_
  refine am_r_iadd (nx := 138) (show decode cX3_stepOut 137 = .ok (.iadd, 1) by decide +kernel) rfl ?_
  refine am_r_aload_n (nx := 139) rfl rfl (show decode cX3_stepOut 138 = .ok (.aload_n 0, 1) by decide +kernel) rfl ?_
  refine am_r_getF (nx := 142) 0 cw3 (by decide) rfl (Or.inl fl_X3_17) (obR hc1) (fnR0 hc1) (show decode cX3_stepOut 139 = .ok (.getfield 17, 3) by decide +kernel) rfl ?_
  refine am_r_iload_n (nx := 143) rfl rfl (show decode cX3_stepOut 142 = .ok (.iload_n 3, 1) by decide +kernel) rfl ?_
  refine am_r_iconst (nx := 144) (show decode cX3_stepOut 143 = .ok (.iconst 5, 1) by decide +kernel) rfl ?_
  refine am_r_iadd (nx := 145) (show decode cX3_stepOut 144 = .ok (.iadd, 1) by decide +kernel) rfl ?_
  refine am_r_iald (nx := 146) ((shR1 hc1)) (am_shle ((shR1 hc1))) hi2 hj3 (show decode cX3_stepOut 145 = .ok (.iaload, 1) by decide +kernel) rfl ?_
  refine am_r_iast (nx := 147) ((shR1 hc1)) (am_shle ((shR1 hc1))) hi4 hj5 (show decode cX3_stepOut 146 = .ok (.iastore, 1) by decide +kernel) rfl ?_
  exact k
theorem S_X3_stepOut_147 {G : am_G} {d : Nat} {Q : Int → am_D → Prop} {σ : am_D} {v1 : Int} {v2 : Int} {v3 : Int} {v0 : Nat} {a2 : Nat} {Q' : Int → am_D → Prop} (hc1 : am_isR v0) (ho3 : (σ.2.2 v0 4) = some a2) (hi4 : 0 ≤ (v1 + 5)) (hj5 : (v1 + 5) < (((am_rc v0) : Nat) : Int)) (hi6 : 0 ≤ (v1 + 0)) (hj7 : (v1 + 0) < (((am_rc v0) : Nat) : Int)) (hc : am_MI G d mX2_closeTells [am_r (some a2), am_i (σ.1 (v0 + 1) (v1 + 5)), am_i (σ.1 (v0 + 1) (v1 + 0))] σ Q') (hc8 : am_isM a2) (k : ∀ (x : Int) (σ' : am_D), Q' x σ' → am_X (am_FI G (d + 1) Q) mX3_stepOut (0, 0) 172 [some (am_r (some v0)), some (am_i v1), some (am_i v2), some (am_i v3), none, some (am_i x), none, none, none] [] (am_K0, σ')) : am_X (am_FI G (d + 1) Q) mX3_stepOut (0, 0) 147 [some (am_r (some v0)), some (am_i v1), some (am_i v2), some (am_i v3), none, none, none, none, none] [] (am_K0, σ) := by
  refine am_r_aload_n (nx := 148) rfl rfl (show decode cX3_stepOut 147 = .ok (.aload_n 0, 1) by decide +kernel) rfl ?_
  refine am_r_getRs (nx := 151) 4 ho3 cw3 (by decide) rfl (Or.inl fl_X3_27) (obR hc1) (show decode cX3_stepOut 148 = .ok (.getfield 27, 3) by decide +kernel) rfl ?_
  refine am_r_aload_n (nx := 152) rfl rfl (show decode cX3_stepOut 151 = .ok (.aload_n 0, 1) by decide +kernel) rfl ?_
  refine am_r_getF (nx := 155) 0 cw3 (by decide) rfl (Or.inl fl_X3_17) (obR hc1) (fnR0 hc1) (show decode cX3_stepOut 152 = .ok (.getfield 17, 3) by decide +kernel) rfl ?_
  refine am_r_iload_n (nx := 156) rfl rfl (show decode cX3_stepOut 155 = .ok (.iload_n 1, 1) by decide +kernel) rfl ?_
  refine am_r_iconst (nx := 157) (show decode cX3_stepOut 156 = .ok (.iconst 5, 1) by decide +kernel) rfl ?_
  refine am_r_iadd (nx := 158) (show decode cX3_stepOut 157 = .ok (.iadd, 1) by decide +kernel) rfl ?_
  refine am_r_iald (nx := 159) ((shR1 hc1)) (am_shle ((shR1 hc1))) hi4 hj5 (show decode cX3_stepOut 158 = .ok (.iaload, 1) by decide +kernel) rfl ?_
  refine am_r_aload_n (nx := 160) rfl rfl (show decode cX3_stepOut 159 = .ok (.aload_n 0, 1) by decide +kernel) rfl ?_
  refine am_r_getF (nx := 163) 0 cw3 (by decide) rfl (Or.inl fl_X3_17) (obR hc1) (fnR0 hc1) (show decode cX3_stepOut 160 = .ok (.getfield 17, 3) by decide +kernel) rfl ?_
  refine am_r_iload_n (nx := 164) rfl rfl (show decode cX3_stepOut 163 = .ok (.iload_n 1, 1) by decide +kernel) rfl ?_
  refine am_r_iconst (nx := 165) (show decode cX3_stepOut 164 = .ok (.iconst 0, 1) by decide +kernel) rfl ?_
  refine am_r_iadd (nx := 166) (show decode cX3_stepOut 165 = .ok (.iadd, 1) by decide +kernel) rfl ?_
  refine am_r_iald (nx := 167) ((shR1 hc1)) (am_shle ((shR1 hc1))) hi6 hj7 (show decode cX3_stepOut 166 = .ok (.iaload, 1) by decide +kernel) rfl ?_
  refine am_r_callV (as := [am_i (σ.1 (v0 + 1) (v1 + 5)), am_i (σ.1 (v0 + 1) (v1 + 0))]) (st := []) hc mb_X2_closeTells mv_X2_closeTells (Or.inl ml_X3_66) (obM hc8) (by omega) (r := (RX2, TX2, 16)) rfl rfl rfl rfl (Nat.le_of_ble_eq_true rfl) ⟨Nat.le_refl _, Nat.le_refl _⟩ ⟨Nat.le_refl _, Nat.le_refl _⟩ (show decode cX3_stepOut 167 = .ok (.invokevirtual 66, 3) by decide +kernel) ?_
  rintro _ _ ⟨x, σ', rfl, rfl, hq⟩ _
  refine am_r_istore (nx := 172) (by decide) rfl (show decode cX3_stepOut 170 = .ok (.istore 5, 2) by decide +kernel) rfl ?_
  exact (k x σ' hq)
theorem S_X3_stepOut_172 {G : am_G} {d : Nat} {Q : Int → am_D → Prop} {σ : am_D} {v1 : Int} {v2 : Int} {v3 : Int} {v5 : Int} {v0 : Nat} (hc1 : am_isR v0) (hi2 : 0 ≤ (v1 + 2)) (hj3 : (v1 + 2) < (((am_rc v0) : Nat) : Int)) (k : am_X (am_FI G (d + 1) Q) mX3_stepOut (0, 0) 182 [some (am_r (some v0)), some (am_i v1), some (am_i v2), some (am_i v3), none, some (am_i v5), some (am_i (σ.1 (v0 + 1) (v1 + 2))), none, none] [] (am_K0, σ)) : am_X (am_FI G (d + 1) Q) mX3_stepOut (0, 0) 172 [some (am_r (some v0)), some (am_i v1), some (am_i v2), some (am_i v3), none, some (am_i v5), none, none, none] [] (am_K0, σ) := by
  refine am_r_aload_n (nx := 173) rfl rfl (show decode cX3_stepOut 172 = .ok (.aload_n 0, 1) by decide +kernel) rfl ?_
  refine am_r_getF (nx := 176) 0 cw3 (by decide) rfl (Or.inl fl_X3_17) (obR hc1) (fnR0 hc1) (show decode cX3_stepOut 173 = .ok (.getfield 17, 3) by decide +kernel) rfl ?_
  refine am_r_iload_n (nx := 177) rfl rfl (show decode cX3_stepOut 176 = .ok (.iload_n 1, 1) by decide +kernel) rfl ?_
  refine am_r_iconst (nx := 178) (show decode cX3_stepOut 177 = .ok (.iconst 2, 1) by decide +kernel) rfl ?_
  refine am_r_iadd (nx := 179) (show decode cX3_stepOut 178 = .ok (.iadd, 1) by decide +kernel) rfl ?_
  refine am_r_iald (nx := 180) ((shR1 hc1)) (am_shle ((shR1 hc1))) hi2 hj3 (show decode cX3_stepOut 179 = .ok (.iaload, 1) by decide +kernel) rfl ?_
  refine am_r_istore (nx := 182) (by decide) rfl (show decode cX3_stepOut 180 = .ok (.istore 6, 2) by decide +kernel) rfl ?_
  exact k
theorem S_X3_stepOut_182 {G : am_G} {d : Nat} {Q : Int → am_D → Prop} {σ : am_D} {v1 : Int} {v2 : Int} {v3 : Int} {v5 : Int} {v6 : Int} {v0 : Nat} (hc1 : am_isR v0) (hi2 : 0 ≤ (v1 + 6)) (hj3 : (v1 + 6) < (((am_rc v0) : Nat) : Int)) (k : am_X (am_FI G (d + 1) Q) mX3_stepOut (0, 0) 195 [some (am_r (some v0)), some (am_i v1), some (am_i v2), some (am_i v3), none, some (am_i v5), some (am_i v6), none, none] [] (am_K0, (am_pI σ v0 3 (σ.1 (v0 + 1) (v1 + 6))))) : am_X (am_FI G (d + 1) Q) mX3_stepOut (0, 0) 182 [some (am_r (some v0)), some (am_i v1), some (am_i v2), some (am_i v3), none, some (am_i v5), some (am_i v6), none, none] [] (am_K0, σ) := by
  refine am_r_aload_n (nx := 183) rfl rfl (show decode cX3_stepOut 182 = .ok (.aload_n 0, 1) by decide +kernel) rfl ?_
  refine am_r_aload_n (nx := 184) rfl rfl (show decode cX3_stepOut 183 = .ok (.aload_n 0, 1) by decide +kernel) rfl ?_
  refine am_r_getF (nx := 187) 0 cw3 (by decide) rfl (Or.inl fl_X3_17) (obR hc1) (fnR0 hc1) (show decode cX3_stepOut 184 = .ok (.getfield 17, 3) by decide +kernel) rfl ?_
  refine am_r_iload_n (nx := 188) rfl rfl (show decode cX3_stepOut 187 = .ok (.iload_n 1, 1) by decide +kernel) rfl ?_
  refine am_r_bipush (nx := 190) rfl (show decode cX3_stepOut 188 = .ok (.bipush 6, 2) by decide +kernel) rfl ?_
  refine am_r_iadd (nx := 191) (show decode cX3_stepOut 190 = .ok (.iadd, 1) by decide +kernel) rfl ?_
  refine am_r_iald (nx := 192) ((shR1 hc1)) (am_shle ((shR1 hc1))) hi2 hj3 (show decode cX3_stepOut 191 = .ok (.iaload, 1) by decide +kernel) rfl ?_
  refine am_r_putI (nx := 195) 3 cw3 (by decide) rfl (Or.inl fl_X3_69) (obR hc1) rfl (Or.inl rfl) (show decode cX3_stepOut 192 = .ok (.putfield 69, 3) by decide +kernel) rfl ?_
  exact k
theorem S_X3_stepOut_195 {G : am_G} {d : Nat} {Q : Int → am_D → Prop} {σ : am_D} {v1 : Int} {v2 : Int} {v3 : Int} {v5 : Int} {v6 : Int} {v0 : Option Nat}  (k : am_X (am_FI G (d + 1) Q) mX3_stepOut (0, 0) 198 [some (am_r v0), some (am_i v1), some (am_i v2), some (am_i v3), none, some (am_i v5), some (am_i v6), some (am_i 0), none] [] (am_K0, σ)) : am_X (am_FI G (d + 1) Q) mX3_stepOut (0, 0) 195 [some (am_r v0), some (am_i v1), some (am_i v2), some (am_i v3), none, some (am_i v5), some (am_i v6), none, none] [] (am_K0, σ) := by
  refine am_r_iconst (nx := 196) (show decode cX3_stepOut 195 = .ok (.iconst 0, 1) by decide +kernel) rfl ?_
  refine am_r_istore (nx := 198) (by decide) rfl (show decode cX3_stepOut 196 = .ok (.istore 7, 2) by decide +kernel) rfl ?_
  exact k
theorem S_X3_stepOut_198 {G : am_G} {d : Nat} {Q : Int → am_D → Prop} {σ : am_D} {v1 : Int} {v2 : Int} {v3 : Int} {v5 : Int} {v6 : Int} {v7 : Int} {v0 : Nat} {a2 : Nat} (hc1 : am_isR v0) (ho3 : (σ.2.2 v0 4) = some a2) (hc4 : am_isM a2) (hr5 : -2147483648 ≤ v7 ∧ v7 ≤ 2147483647) (hr6 : -2147483648 ≤ (σ.1 a2 1) ∧ (σ.1 a2 1) ≤ 2147483647) (k1 : (σ.1 a2 1) ≤ v7 → am_X (am_FI G (d + 1) Q) mX3_stepOut (0, 0) 320 [some (am_r (some v0)), some (am_i v1), some (am_i v2), none, none, none, some (am_i v6), none, none] [] (am_K0, σ)) (k2 : ¬ ((σ.1 a2 1) ≤ v7) → am_X (am_FI G (d + 1) Q) mX3_stepOut (0, 0) 210 [some (am_r (some v0)), some (am_i v1), some (am_i v2), some (am_i v3), none, some (am_i v5), some (am_i v6), some (am_i v7), none] [] (am_K0, σ)) : am_X (am_FI G (d + 1) Q) mX3_stepOut (0, 0) 198 [some (am_r (some v0)), some (am_i v1), some (am_i v2), some (am_i v3), none, some (am_i v5), some (am_i v6), some (am_i v7), none] [] (am_K0, σ) := by
  refine am_r_iload (nx := 200) rfl (show decode cX3_stepOut 198 = .ok (.iload 7, 2) by decide +kernel) rfl ?_
  refine am_r_aload_n (nx := 201) rfl rfl (show decode cX3_stepOut 200 = .ok (.aload_n 0, 1) by decide +kernel) rfl ?_
  refine am_r_getRs (nx := 204) 4 ho3 cw3 (by decide) rfl (Or.inl fl_X3_27) (obR hc1) (show decode cX3_stepOut 201 = .ok (.getfield 27, 3) by decide +kernel) rfl ?_
  refine am_r_getI (nx := 207) 1 cw2 (by decide) rfl (Or.inr ⟨_, fl_X3_72⟩) (obM hc4) (show decode cX3_stepOut 204 = .ok (.getfield 72, 3) by decide +kernel) rfl ?_
  refine am_r_icmp_ge (tg := 320) (nx := 210) (show decode cX3_stepOut 207 = .ok (.if_icmp .ge 113, 3) by decide +kernel) (by decide) rfl hr5 hr6 ?_ ?_
  · exact fun q => am_x_fg [3, 5, 7] (k1 q)
  · exact fun q => k2 q
theorem S_X3_stepOut_210 {G : am_G} {d : Nat} {Q : Int → am_D → Prop} {σ : am_D} {v1 : Int} {v2 : Int} {v3 : Int} {v5 : Int} {v6 : Int} {v7 : Int} {v0 : Option Nat} (hr1 : -2147483648 ≤ v7 ∧ v7 ≤ 2147483647) (k1 : 3 ≤ v7 → am_X (am_FI G (d + 1) Q) mX3_stepOut (0, 0) 320 [some (am_r v0), some (am_i v1), some (am_i v2), none, none, none, some (am_i v6), none, none] [] (am_K0, σ)) (k2 : ¬ (3 ≤ v7) → am_X (am_FI G (d + 1) Q) mX3_stepOut (0, 0) 216 [some (am_r v0), some (am_i v1), some (am_i v2), some (am_i v3), none, some (am_i v5), some (am_i v6), some (am_i v7), none] [] (am_K0, σ)) : am_X (am_FI G (d + 1) Q) mX3_stepOut (0, 0) 210 [some (am_r v0), some (am_i v1), some (am_i v2), some (am_i v3), none, some (am_i v5), some (am_i v6), some (am_i v7), none] [] (am_K0, σ) := by
  refine am_r_iload (nx := 212) rfl (show decode cX3_stepOut 210 = .ok (.iload 7, 2) by decide +kernel) rfl ?_
  refine am_r_iconst (nx := 213) (show decode cX3_stepOut 212 = .ok (.iconst 3, 1) by decide +kernel) rfl ?_
  refine am_r_icmp_ge (tg := 320) (nx := 216) (show decode cX3_stepOut 213 = .ok (.if_icmp .ge 107, 3) by decide +kernel) (by decide) rfl hr1 (by omega) ?_ ?_
  · exact fun q => am_x_fg [3, 5, 7] (k1 q)
  · exact fun q => k2 q
theorem S_X3_stepOut_216 {G : am_G} {d : Nat} {Q : Int → am_D → Prop} {σ : am_D} {v1 : Int} {v2 : Int} {v3 : Int} {v5 : Int} {v6 : Int} {v7 : Int} {v0 : Option Nat}  (k : am_X (am_FI G (d + 1) Q) mX3_stepOut (0, 0) 225 [some (am_r v0), some (am_i v1), some (am_i v2), some (am_i v3), none, some (am_i v5), some (am_i v6), some (am_i v7), some (am_i (7 + (3 * v7)))] [] (am_K0, σ)) : am_X (am_FI G (d + 1) Q) mX3_stepOut (0, 0) 216 [some (am_r v0), some (am_i v1), some (am_i v2), some (am_i v3), none, some (am_i v5), some (am_i v6), some (am_i v7), none] [] (am_K0, σ) := by
  refine am_r_bipush (nx := 218) rfl (show decode cX3_stepOut 216 = .ok (.bipush 7, 2) by decide +kernel) rfl ?_
  refine am_r_iconst (nx := 219) (show decode cX3_stepOut 218 = .ok (.iconst 3, 1) by decide +kernel) rfl ?_
  refine am_r_iload (nx := 221) rfl (show decode cX3_stepOut 219 = .ok (.iload 7, 2) by decide +kernel) rfl ?_
  refine am_r_imul (nx := 222) (show decode cX3_stepOut 221 = .ok (.imul, 1) by decide +kernel) rfl ?_
  refine am_r_iadd (nx := 223) (show decode cX3_stepOut 222 = .ok (.iadd, 1) by decide +kernel) rfl ?_
  refine am_r_istore (nx := 225) (by decide) rfl (show decode cX3_stepOut 223 = .ok (.istore 8, 2) by decide +kernel) rfl ?_
  exact k
theorem S_X3_stepOut_225 {G : am_G} {d : Nat} {Q : Int → am_D → Prop} {σ : am_D} {v1 : Int} {v2 : Int} {v3 : Int} {v5 : Int} {v6 : Int} {v7 : Int} {v8 : Int} {v0 : Nat} {Q' : am_D → Prop} (hc : am_MV G d mX3_putTogether [am_r (some v0), am_i (v5 + v7), am_i v1, am_i v3] σ Q') (hc1 : am_isR v0) (k : ∀ σ' : am_D, Q' σ' → am_X (am_FI G (d + 1) Q) mX3_stepOut (0, 0) 236 [some (am_r (some v0)), some (am_i v1), some (am_i v2), some (am_i v3), none, some (am_i v5), some (am_i v6), some (am_i v7), some (am_i v8)] [] (am_K0, σ')) : am_X (am_FI G (d + 1) Q) mX3_stepOut (0, 0) 225 [some (am_r (some v0)), some (am_i v1), some (am_i v2), some (am_i v3), none, some (am_i v5), some (am_i v6), some (am_i v7), some (am_i v8)] [] (am_K0, σ) := by
  refine am_r_aload_n (nx := 226) rfl rfl (show decode cX3_stepOut 225 = .ok (.aload_n 0, 1) by decide +kernel) rfl ?_
  refine am_r_iload (nx := 228) rfl (show decode cX3_stepOut 226 = .ok (.iload 5, 2) by decide +kernel) rfl ?_
  refine am_r_iload (nx := 230) rfl (show decode cX3_stepOut 228 = .ok (.iload 7, 2) by decide +kernel) rfl ?_
  refine am_r_iadd (nx := 231) (show decode cX3_stepOut 230 = .ok (.iadd, 1) by decide +kernel) rfl ?_
  refine am_r_iload_n (nx := 232) rfl rfl (show decode cX3_stepOut 231 = .ok (.iload_n 1, 1) by decide +kernel) rfl ?_
  refine am_r_iload_n (nx := 233) rfl rfl (show decode cX3_stepOut 232 = .ok (.iload_n 3, 1) by decide +kernel) rfl ?_
  refine am_r_callV (as := [am_i (v5 + v7), am_i v1, am_i v3]) (st := []) hc mb_X3_putTogether mv_X3_putTogether (Or.inl ml_X3_75) (obR hc1) (by omega) (r := (RX3, TX3, 9)) rfl rfl rfl rfl (Nat.le_of_ble_eq_true rfl) ⟨Nat.le_refl _, Nat.le_refl _⟩ ⟨Nat.le_refl _, Nat.le_refl _⟩ (show decode cX3_stepOut 233 = .ok (.invokevirtual 75, 3) by decide +kernel) ?_
  rintro _ _ ⟨σ', rfl, rfl, hq⟩ _
  exact (k σ' hq)
theorem S_X3_stepOut_236 {G : am_G} {d : Nat} {Q : Int → am_D → Prop} {σ : am_D} {v1 : Int} {v2 : Int} {v3 : Int} {v5 : Int} {v6 : Int} {v7 : Int} {v8 : Int} {v0 : Nat} (hc1 : am_isR v0) (hi2 : 0 ≤ (v2 + v8)) (hj3 : (v2 + v8) < (((am_rc v0) : Nat) : Int)) (k : am_X (am_FI G (d + 1) Q) mX3_stepOut (0, 0) 249 [some (am_r (some v0)), some (am_i v1), some (am_i v2), some (am_i v3), none, some (am_i v5), some (am_i v6), some (am_i v7), some (am_i v8)] [] (am_K0, (am_pI σ (v0 + 1) (v2 + v8) (σ.1 v0 6)))) : am_X (am_FI G (d + 1) Q) mX3_stepOut (0, 0) 236 [some (am_r (some v0)), some (am_i v1), some (am_i v2), some (am_i v3), none, some (am_i v5), some (am_i v6), some (am_i v7), some (am_i v8)] [] (am_K0, σ) := by
  refine am_r_aload_n (nx := 237) rfl rfl (show decode cX3_stepOut 236 = .ok (.aload_n 0, 1) by decide +kernel) rfl ?_
  refine am_r_getF (nx := 240) 0 cw3 (by decide) rfl (Or.inl fl_X3_17) (obR hc1) (fnR0 hc1) (show decode cX3_stepOut 237 = .ok (.getfield 17, 3) by decide +kernel) rfl ?_
  refine am_r_iload_n (nx := 241) rfl rfl (show decode cX3_stepOut 240 = .ok (.iload_n 2, 1) by decide +kernel) rfl ?_
  refine am_r_iload (nx := 243) rfl (show decode cX3_stepOut 241 = .ok (.iload 8, 2) by decide +kernel) rfl ?_
  refine am_r_iadd (nx := 244) (show decode cX3_stepOut 243 = .ok (.iadd, 1) by decide +kernel) rfl ?_
  refine am_r_aload_n (nx := 245) rfl rfl (show decode cX3_stepOut 244 = .ok (.aload_n 0, 1) by decide +kernel) rfl ?_
  refine am_r_getI (nx := 248) 6 cw3 (by decide) rfl (Or.inl fl_X3_79) (obR hc1) (show decode cX3_stepOut 245 = .ok (.getfield 79, 3) by decide +kernel) rfl ?_
  refine am_r_iast (nx := 249) ((shR1 hc1)) (am_shle ((shR1 hc1))) hi2 hj3 (show decode cX3_stepOut 248 = .ok (.iastore, 1) by decide +kernel) rfl ?_
  exact k
theorem S_X3_stepOut_249 {G : am_G} {d : Nat} {Q : Int → am_D → Prop} {σ : am_D} {v1 : Int} {v2 : Int} {v3 : Int} {v5 : Int} {v6 : Int} {v7 : Int} {v8 : Int} {v0 : Nat} (hc1 : am_isR v0) (hi2 : 0 ≤ ((v2 + v8) + 1)) (hj3 : ((v2 + v8) + 1) < (((am_rc v0) : Nat) : Int)) (k : am_X (am_FI G (d + 1) Q) mX3_stepOut (0, 0) 264 [some (am_r (some v0)), some (am_i v1), some (am_i v2), some (am_i v3), none, some (am_i v5), some (am_i v6), some (am_i v7), some (am_i v8)] [] (am_K0, (am_pI σ (v0 + 1) ((v2 + v8) + 1) (σ.1 v0 7)))) : am_X (am_FI G (d + 1) Q) mX3_stepOut (0, 0) 249 [some (am_r (some v0)), some (am_i v1), some (am_i v2), some (am_i v3), none, some (am_i v5), some (am_i v6), some (am_i v7), some (am_i v8)] [] (am_K0, σ) := by
  refine am_r_aload_n (nx := 250) rfl rfl (show decode cX3_stepOut 249 = .ok (.aload_n 0, 1) by decide +kernel) rfl ?_
  refine am_r_getF (nx := 253) 0 cw3 (by decide) rfl (Or.inl fl_X3_17) (obR hc1) (fnR0 hc1) (show decode cX3_stepOut 250 = .ok (.getfield 17, 3) by decide +kernel) rfl ?_
  refine am_r_iload_n (nx := 254) rfl rfl (show decode cX3_stepOut 253 = .ok (.iload_n 2, 1) by decide +kernel) rfl ?_
  refine am_r_iload (nx := 256) rfl (show decode cX3_stepOut 254 = .ok (.iload 8, 2) by decide +kernel) rfl ?_
  refine am_r_iadd (nx := 257) (show decode cX3_stepOut 256 = .ok (.iadd, 1) by decide +kernel) rfl ?_
  refine am_r_iconst (nx := 258) (show decode cX3_stepOut 257 = .ok (.iconst 1, 1) by decide +kernel) rfl ?_
  refine am_r_iadd (nx := 259) (show decode cX3_stepOut 258 = .ok (.iadd, 1) by decide +kernel) rfl ?_
  refine am_r_aload_n (nx := 260) rfl rfl (show decode cX3_stepOut 259 = .ok (.aload_n 0, 1) by decide +kernel) rfl ?_
  refine am_r_getI (nx := 263) 7 cw3 (by decide) rfl (Or.inl fl_X3_82) (obR hc1) (show decode cX3_stepOut 260 = .ok (.getfield 82, 3) by decide +kernel) rfl ?_
  refine am_r_iast (nx := 264) ((shR1 hc1)) (am_shle ((shR1 hc1))) hi2 hj3 (show decode cX3_stepOut 263 = .ok (.iastore, 1) by decide +kernel) rfl ?_
  exact k
theorem S_X3_stepOut_264 {G : am_G} {d : Nat} {Q : Int → am_D → Prop} {σ : am_D} {v1 : Int} {v2 : Int} {v3 : Int} {v5 : Int} {v6 : Int} {v7 : Int} {v8 : Int} {v0 : Nat} (hc1 : am_isR v0) (hi2 : 0 ≤ ((v2 + v8) + 2)) (hj3 : ((v2 + v8) + 2) < (((am_rc v0) : Nat) : Int)) (k : am_X (am_FI G (d + 1) Q) mX3_stepOut (0, 0) 279 [some (am_r (some v0)), some (am_i v1), some (am_i v2), some (am_i v3), none, some (am_i v5), some (am_i v6), some (am_i v7), some (am_i v8)] [] (am_K0, (am_pI σ (v0 + 1) ((v2 + v8) + 2) (σ.1 v0 8)))) : am_X (am_FI G (d + 1) Q) mX3_stepOut (0, 0) 264 [some (am_r (some v0)), some (am_i v1), some (am_i v2), some (am_i v3), none, some (am_i v5), some (am_i v6), some (am_i v7), some (am_i v8)] [] (am_K0, σ) := by
  refine am_r_aload_n (nx := 265) rfl rfl (show decode cX3_stepOut 264 = .ok (.aload_n 0, 1) by decide +kernel) rfl ?_
  refine am_r_getF (nx := 268) 0 cw3 (by decide) rfl (Or.inl fl_X3_17) (obR hc1) (fnR0 hc1) (show decode cX3_stepOut 265 = .ok (.getfield 17, 3) by decide +kernel) rfl ?_
  refine am_r_iload_n (nx := 269) rfl rfl (show decode cX3_stepOut 268 = .ok (.iload_n 2, 1) by decide +kernel) rfl ?_
  refine am_r_iload (nx := 271) rfl (show decode cX3_stepOut 269 = .ok (.iload 8, 2) by decide +kernel) rfl ?_
  refine am_r_iadd (nx := 272) (show decode cX3_stepOut 271 = .ok (.iadd, 1) by decide +kernel) rfl ?_
  refine am_r_iconst (nx := 273) (show decode cX3_stepOut 272 = .ok (.iconst 2, 1) by decide +kernel) rfl ?_
  refine am_r_iadd (nx := 274) (show decode cX3_stepOut 273 = .ok (.iadd, 1) by decide +kernel) rfl ?_
  refine am_r_aload_n (nx := 275) rfl rfl (show decode cX3_stepOut 274 = .ok (.aload_n 0, 1) by decide +kernel) rfl ?_
  refine am_r_getI (nx := 278) 8 cw3 (by decide) rfl (Or.inl fl_X3_85) (obR hc1) (show decode cX3_stepOut 275 = .ok (.getfield 85, 3) by decide +kernel) rfl ?_
  refine am_r_iast (nx := 279) ((shR1 hc1)) (am_shle ((shR1 hc1))) hi2 hj3 (show decode cX3_stepOut 278 = .ok (.iastore, 1) by decide +kernel) rfl ?_
  exact k
theorem S_X3_stepOut_279 {G : am_G} {d : Nat} {Q : Int → am_D → Prop} {σ : am_D} {v1 : Int} {v2 : Int} {v3 : Int} {v5 : Int} {v6 : Int} {v7 : Int} {v8 : Int} {v0 : Nat} (hc1 : am_isR v0) (hi2 : 0 ≤ ((v1 + v8) + 2)) (hj3 : ((v1 + v8) + 2) < (((am_rc v0) : Nat) : Int)) (hi4 : 0 ≤ ((v3 + v8) + 2)) (hj5 : ((v3 + v8) + 2) < (((am_rc v0) : Nat) : Int)) (hr6 : -2147483648 ≤ (((σ.1 v0 8) - (σ.1 (v0 + 1) ((v1 + v8) + 2))) - (σ.1 (v0 + 1) ((v3 + v8) + 2))) ∧ (((σ.1 v0 8) - (σ.1 (v0 + 1) ((v1 + v8) + 2))) - (σ.1 (v0 + 1) ((v3 + v8) + 2))) ≤ 2147483647) (k : am_X (am_FI G (d + 1) Q) mX3_stepOut (0, 0) 314 [some (am_r (some v0)), some (am_i v1), some (am_i v2), some (am_i v3), none, some (am_i v5), some (am_i (v6 + (Int.tdiv (((σ.1 v0 8) - (σ.1 (v0 + 1) ((v1 + v8) + 2))) - (σ.1 (v0 + 1) ((v3 + v8) + 2))) 2))), some (am_i v7), none] [] (am_K0, σ)) : am_X (am_FI G (d + 1) Q) mX3_stepOut (0, 0) 279 [some (am_r (some v0)), some (am_i v1), some (am_i v2), some (am_i v3), none, some (am_i v5), some (am_i v6), some (am_i v7), some (am_i v8)] [] (am_K0, σ) := by
  refine am_r_iload (nx := 281) rfl (show decode cX3_stepOut 279 = .ok (.iload 6, 2) by decide +kernel) rfl ?_
  refine am_r_aload_n (nx := 282) rfl rfl (show decode cX3_stepOut 281 = .ok (.aload_n 0, 1) by decide +kernel) rfl ?_
  refine am_r_getI (nx := 285) 8 cw3 (by decide) rfl (Or.inl fl_X3_85) (obR hc1) (show decode cX3_stepOut 282 = .ok (.getfield 85, 3) by decide +kernel) rfl ?_
  refine am_r_aload_n (nx := 286) rfl rfl (show decode cX3_stepOut 285 = .ok (.aload_n 0, 1) by decide +kernel) rfl ?_
  refine am_r_getF (nx := 289) 0 cw3 (by decide) rfl (Or.inl fl_X3_17) (obR hc1) (fnR0 hc1) (show decode cX3_stepOut 286 = .ok (.getfield 17, 3) by decide +kernel) rfl ?_
  refine am_r_iload_n (nx := 290) rfl rfl (show decode cX3_stepOut 289 = .ok (.iload_n 1, 1) by decide +kernel) rfl ?_
  refine am_r_iload (nx := 292) rfl (show decode cX3_stepOut 290 = .ok (.iload 8, 2) by decide +kernel) rfl ?_
  refine am_r_iadd (nx := 293) (show decode cX3_stepOut 292 = .ok (.iadd, 1) by decide +kernel) rfl ?_
  refine am_r_iconst (nx := 294) (show decode cX3_stepOut 293 = .ok (.iconst 2, 1) by decide +kernel) rfl ?_
  refine am_r_iadd (nx := 295) (show decode cX3_stepOut 294 = .ok (.iadd, 1) by decide +kernel) rfl ?_
  refine am_r_iald (nx := 296) ((shR1 hc1)) (am_shle ((shR1 hc1))) hi2 hj3 (show decode cX3_stepOut 295 = .ok (.iaload, 1) by decide +kernel) rfl ?_
  refine am_r_isub (nx := 297) (show decode cX3_stepOut 296 = .ok (.isub, 1) by decide +kernel) rfl ?_
  refine am_r_aload_n (nx := 298) rfl rfl (show decode cX3_stepOut 297 = .ok (.aload_n 0, 1) by decide +kernel) rfl ?_
  refine am_r_getF (nx := 301) 0 cw3 (by decide) rfl (Or.inl fl_X3_17) (obR hc1) (fnR0 hc1) (show decode cX3_stepOut 298 = .ok (.getfield 17, 3) by decide +kernel) rfl ?_
  refine am_r_iload_n (nx := 302) rfl rfl (show decode cX3_stepOut 301 = .ok (.iload_n 3, 1) by decide +kernel) rfl ?_
  refine am_r_iload (nx := 304) rfl (show decode cX3_stepOut 302 = .ok (.iload 8, 2) by decide +kernel) rfl ?_
  refine am_r_iadd (nx := 305) (show decode cX3_stepOut 304 = .ok (.iadd, 1) by decide +kernel) rfl ?_
  refine am_r_iconst (nx := 306) (show decode cX3_stepOut 305 = .ok (.iconst 2, 1) by decide +kernel) rfl ?_
  refine am_r_iadd (nx := 307) (show decode cX3_stepOut 306 = .ok (.iadd, 1) by decide +kernel) rfl ?_
  refine am_r_iald (nx := 308) ((shR1 hc1)) (am_shle ((shR1 hc1))) hi4 hj5 (show decode cX3_stepOut 307 = .ok (.iaload, 1) by decide +kernel) rfl ?_
  refine am_r_isub (nx := 309) (show decode cX3_stepOut 308 = .ok (.isub, 1) by decide +kernel) rfl ?_
  refine am_r_iconst (nx := 310) (show decode cX3_stepOut 309 = .ok (.iconst 2, 1) by decide +kernel) rfl ?_
  refine am_r_idiv (nx := 311) hr6 (by omega) (show decode cX3_stepOut 310 = .ok (.idiv, 1) by decide +kernel) rfl ?_
  refine am_r_iadd (nx := 312) (show decode cX3_stepOut 311 = .ok (.iadd, 1) by decide +kernel) rfl ?_
  refine am_r_istore (nx := 314) (by decide) rfl (show decode cX3_stepOut 312 = .ok (.istore 6, 2) by decide +kernel) rfl ?_
  exact am_x_fg [8] k
theorem S_X3_stepOut_314 {G : am_G} {d : Nat} {Q : Int → am_D → Prop} {σ : am_D} {v1 : Int} {v2 : Int} {v3 : Int} {v5 : Int} {v6 : Int} {v7 : Int} {v0 : Option Nat}  (k : am_X (am_FI G (d + 1) Q) mX3_stepOut (0, 0) 198 [some (am_r v0), some (am_i v1), some (am_i v2), some (am_i v3), none, some (am_i v5), some (am_i v6), some (am_i (v7 + 1)), none] [] (am_K0, σ)) : am_X (am_FI G (d + 1) Q) mX3_stepOut (0, 0) 314 [some (am_r v0), some (am_i v1), some (am_i v2), some (am_i v3), none, some (am_i v5), some (am_i v6), some (am_i v7), none] [] (am_K0, σ) := by
  refine am_r_iinc (nx := 317) rfl rfl (show decode cX3_stepOut 314 = .ok (.iinc 7 1, 3) by decide +kernel) rfl ?_
  refine am_r_goto (tg := 198) (show decode cX3_stepOut 317 = .ok (.goto (-119), 3) by decide +kernel) (by decide) ?_
  exact k
theorem S_X3_stepOut_320 {G : am_G} {d : Nat} {Q : Int → am_D → Prop} {σ : am_D} {v1 : Int} {v2 : Int} {v6 : Int} {v0 : Nat} (hc1 : am_isR v0) (hi2 : 0 ≤ (v2 + 2)) (hj3 : (v2 + 2) < (((am_rc v0) : Nat) : Int)) (k : am_X (am_FI G (d + 1) Q) mX3_stepOut (0, 0) 330 [some (am_r (some v0)), some (am_i v1), some (am_i v2), none, none, none, some (am_i v6), none, none] [] (am_K0, (am_pI σ (v0 + 1) (v2 + 2) v6))) : am_X (am_FI G (d + 1) Q) mX3_stepOut (0, 0) 320 [some (am_r (some v0)), some (am_i v1), some (am_i v2), none, none, none, some (am_i v6), none, none] [] (am_K0, σ) := by
  refine am_r_aload_n (nx := 321) rfl rfl (show decode cX3_stepOut 320 = .ok (.aload_n 0, 1) by decide +kernel) rfl ?_
  refine am_r_getF (nx := 324) 0 cw3 (by decide) rfl (Or.inl fl_X3_17) (obR hc1) (fnR0 hc1) (show decode cX3_stepOut 321 = .ok (.getfield 17, 3) by decide +kernel) rfl ?_
  refine am_r_iload_n (nx := 325) rfl rfl (show decode cX3_stepOut 324 = .ok (.iload_n 2, 1) by decide +kernel) rfl ?_
  refine am_r_iconst (nx := 326) (show decode cX3_stepOut 325 = .ok (.iconst 2, 1) by decide +kernel) rfl ?_
  refine am_r_iadd (nx := 327) (show decode cX3_stepOut 326 = .ok (.iadd, 1) by decide +kernel) rfl ?_
  refine am_r_iload (nx := 329) rfl (show decode cX3_stepOut 327 = .ok (.iload 6, 2) by decide +kernel) rfl ?_
  refine am_r_iast (nx := 330) ((shR1 hc1)) (am_shle ((shR1 hc1))) hi2 hj3 (show decode cX3_stepOut 329 = .ok (.iastore, 1) by decide +kernel) rfl ?_
  exact k
theorem S_X3_stepOut_330 {G : am_G} {d : Nat} {Q : Int → am_D → Prop} {σ : am_D} {v1 : Int} {v2 : Int} {v6 : Int} {v0 : Nat} {Q' : Int → am_D → Prop} (hc1 : am_isR v0) (hi2 : 0 ≤ (v1 + 3)) (hj3 : (v1 + 3) < (((am_rc v0) : Nat) : Int)) (hc : am_MI G d mJ9_max_7cf53 [am_i (σ.1 (v0 + 1) (v1 + 3)), am_i v6] σ Q') (k : ∀ (x : Int) (σ' : am_D), Q' x σ' → am_X (am_FI G (d + 1) Q) mX3_stepOut (0, 0) 350 [some (am_r (some v0)), none, some (am_i v2), none, none, none, none, none, none] [am_i x, am_i (v2 + 3), am_r (some (v0 + 1))] (am_K0, σ')) : am_X (am_FI G (d + 1) Q) mX3_stepOut (0, 0) 330 [some (am_r (some v0)), some (am_i v1), some (am_i v2), none, none, none, some (am_i v6), none, none] [] (am_K0, σ) := by
  refine am_r_aload_n (nx := 331) rfl rfl (show decode cX3_stepOut 330 = .ok (.aload_n 0, 1) by decide +kernel) rfl ?_
  refine am_r_getF (nx := 334) 0 cw3 (by decide) rfl (Or.inl fl_X3_17) (obR hc1) (fnR0 hc1) (show decode cX3_stepOut 331 = .ok (.getfield 17, 3) by decide +kernel) rfl ?_
  refine am_r_iload_n (nx := 335) rfl rfl (show decode cX3_stepOut 334 = .ok (.iload_n 2, 1) by decide +kernel) rfl ?_
  refine am_r_iconst (nx := 336) (show decode cX3_stepOut 335 = .ok (.iconst 3, 1) by decide +kernel) rfl ?_
  refine am_r_iadd (nx := 337) (show decode cX3_stepOut 336 = .ok (.iadd, 1) by decide +kernel) rfl ?_
  refine am_r_aload_n (nx := 338) rfl rfl (show decode cX3_stepOut 337 = .ok (.aload_n 0, 1) by decide +kernel) rfl ?_
  refine am_r_getF (nx := 341) 0 cw3 (by decide) rfl (Or.inl fl_X3_17) (obR hc1) (fnR0 hc1) (show decode cX3_stepOut 338 = .ok (.getfield 17, 3) by decide +kernel) rfl ?_
  refine am_r_iload_n (nx := 342) rfl rfl (show decode cX3_stepOut 341 = .ok (.iload_n 1, 1) by decide +kernel) rfl ?_
  refine am_r_iconst (nx := 343) (show decode cX3_stepOut 342 = .ok (.iconst 3, 1) by decide +kernel) rfl ?_
  refine am_r_iadd (nx := 344) (show decode cX3_stepOut 343 = .ok (.iadd, 1) by decide +kernel) rfl ?_
  refine am_r_iald (nx := 345) ((shR1 hc1)) (am_shle ((shR1 hc1))) hi2 hj3 (show decode cX3_stepOut 344 = .ok (.iaload, 1) by decide +kernel) rfl ?_
  refine am_r_iload (nx := 347) rfl (show decode cX3_stepOut 345 = .ok (.iload 6, 2) by decide +kernel) rfl ?_
  refine am_r_callS (as := [am_i (σ.1 (v0 + 1) (v1 + 3)), am_i v6]) (st := [am_i (v2 + 3), am_r (some (v0 + 1))]) hc mb_J9_max_7cf53 mv_J9_max_7cf53 (Or.inl ml_X3_11) rfl rfl (Nat.le_of_ble_eq_true rfl) ⟨Nat.le_refl _, Nat.le_refl _⟩ ⟨Nat.le_refl _, Nat.le_refl _⟩ (show decode cX3_stepOut 347 = .ok (.invokestatic 11, 3) by decide +kernel) ?_
  rintro _ _ ⟨x, σ', rfl, rfl, hq⟩ _
  exact am_x_fg [1, 6] (k x σ' hq)
theorem S_X3_stepOut_350 {G : am_G} {d : Nat} {Q : Int → am_D → Prop} {σ : am_D} {v2 : Int} {s1 : Int} {s2 : Int} {s0 : Nat} {n1 : Nat} {v0 : Option Nat} (hs2 : am_sh am_SH s0 = (100, n1)) (hi3 : 0 ≤ s1) (hj4 : s1 < ((n1 : Nat) : Int)) (k : am_X (am_FI G (d + 1) Q) mX3_stepOut (0, 0) 351 [some (am_r v0), none, some (am_i v2), none, none, none, none, none, none] [] (am_K0, (am_pI σ s0 s1 s2))) : am_X (am_FI G (d + 1) Q) mX3_stepOut (0, 0) 350 [some (am_r v0), none, some (am_i v2), none, none, none, none, none, none] [am_i s2, am_i s1, am_r (some s0)] (am_K0, σ) := by
  refine am_r_iast (nx := 351) (hs2) (am_shle (hs2)) hi3 hj4 (show decode cX3_stepOut 350 = .ok (.iastore, 1) by decide +kernel) rfl ?_
  exact k
theorem S_X3_stepOut_351 {G : am_G} {d : Nat} {Q : Int → am_D → Prop} {σ : am_D} {v2 : Int} {v0 : Nat} (hc1 : am_isR v0) (hi2 : 0 ≤ (v2 + 6)) (hj3 : (v2 + 6) < (((am_rc v0) : Nat) : Int)) (k : am_X (am_FI G (d + 1) Q) mX3_stepOut (0, 0) 364 [some (am_r (some v0)), none, none, none, none, none, none, none, none] [] (am_K0, (am_pI σ (v0 + 1) (v2 + 6) (σ.1 v0 3)))) : am_X (am_FI G (d + 1) Q) mX3_stepOut (0, 0) 351 [some (am_r (some v0)), none, some (am_i v2), none, none, none, none, none, none] [] (am_K0, σ) := by
  refine am_r_aload_n (nx := 352) rfl rfl (show decode cX3_stepOut 351 = .ok (.aload_n 0, 1) by decide +kernel) rfl ?_
  refine am_r_getF (nx := 355) 0 cw3 (by decide) rfl (Or.inl fl_X3_17) (obR hc1) (fnR0 hc1) (show decode cX3_stepOut 352 = .ok (.getfield 17, 3) by decide +kernel) rfl ?_
  refine am_r_iload_n (nx := 356) rfl rfl (show decode cX3_stepOut 355 = .ok (.iload_n 2, 1) by decide +kernel) rfl ?_
  refine am_r_bipush (nx := 358) rfl (show decode cX3_stepOut 356 = .ok (.bipush 6, 2) by decide +kernel) rfl ?_
  refine am_r_iadd (nx := 359) (show decode cX3_stepOut 358 = .ok (.iadd, 1) by decide +kernel) rfl ?_
  refine am_r_aload_n (nx := 360) rfl rfl (show decode cX3_stepOut 359 = .ok (.aload_n 0, 1) by decide +kernel) rfl ?_
  refine am_r_getI (nx := 363) 3 cw3 (by decide) rfl (Or.inl fl_X3_69) (obR hc1) (show decode cX3_stepOut 360 = .ok (.getfield 69, 3) by decide +kernel) rfl ?_
  refine am_r_iast (nx := 364) ((shR1 hc1)) (am_shle ((shR1 hc1))) hi2 hj3 (show decode cX3_stepOut 363 = .ok (.iastore, 1) by decide +kernel) rfl ?_
  exact am_x_fg [2] k
theorem S_X3_stepOut_364 {G : am_G} {d : Nat} {Q : Int → am_D → Prop} {σ : am_D} {v0 : Nat} (hc1 : am_isR v0) (k : am_X (am_FI G (d + 1) Q) mX3_stepOut (0, 0) 374 [none, none, none, none, none, none, none, none, none] [] (am_K0, (am_pI σ v0 5 ((σ.1 v0 5) + 1)))) : am_X (am_FI G (d + 1) Q) mX3_stepOut (0, 0) 364 [some (am_r (some v0)), none, none, none, none, none, none, none, none] [] (am_K0, σ) := by
  refine am_r_aload_n (nx := 365) rfl rfl (show decode cX3_stepOut 364 = .ok (.aload_n 0, 1) by decide +kernel) rfl ?_
  refine am_r_dup (nx := 366) rfl (show decode cX3_stepOut 365 = .ok (.dup, 1) by decide +kernel) rfl ?_
  refine am_r_getI (nx := 369) 5 cw3 (by decide) rfl (Or.inl fl_X3_31) (obR hc1) (show decode cX3_stepOut 366 = .ok (.getfield 31, 3) by decide +kernel) rfl ?_
  refine am_r_iconst (nx := 370) (show decode cX3_stepOut 369 = .ok (.iconst 1, 1) by decide +kernel) rfl ?_
  refine am_r_iadd (nx := 371) (show decode cX3_stepOut 370 = .ok (.iadd, 1) by decide +kernel) rfl ?_
  refine am_r_putI (nx := 374) 5 cw3 (by decide) rfl (Or.inl fl_X3_31) (obR hc1) rfl (Or.inl rfl) (show decode cX3_stepOut 371 = .ok (.putfield 31, 3) by decide +kernel) rfl ?_
  exact am_x_fg [0] k
theorem S_X3_stepOut_374 {G : am_G} {d : Nat} {Q : Int → am_D → Prop} {σ : am_D}   (k : Q 1 σ) : am_X (am_FI G (d + 1) Q) mX3_stepOut (0, 0) 374 [none, none, none, none, none, none, none, none, none] [] (am_K0, σ) := by
  refine am_r_iconst (nx := 375) (show decode cX3_stepOut 374 = .ok (.iconst 1, 1) by decide +kernel) rfl ?_
  exact am_r_iret rfl rfl (show decode cX3_stepOut 375 = .ok (.ireturn, 1) by decide +kernel) ⟨_, _, rfl, rfl, k⟩
theorem S_X3_stepBack_0 {G : am_G} {d : Nat} {Q : am_D → Prop} {σ : am_D} {v0 : Nat} (hc1 : am_isR v0) (hr2 : -2147483648 ≤ (σ.1 v0 5) ∧ (σ.1 v0 5) ≤ 2147483647) (k1 : (σ.1 v0 5) ≤ 0 → am_X (am_FV G (d + 1) Q) mX3_stepBack (0, 0) 17 [none] [] (am_K0, σ)) (k2 : ¬ ((σ.1 v0 5) ≤ 0) → am_X (am_FV G (d + 1) Q) mX3_stepBack (0, 0) 7 [some (am_r (some v0))] [] (am_K0, σ)) : am_X (am_FV G (d + 1) Q) mX3_stepBack (0, 0) 0 [some (am_r (some v0))] [] (am_K0, σ) := by
  refine am_r_aload_n (nx := 1) rfl rfl (show decode cX3_stepBack 0 = .ok (.aload_n 0, 1) by decide +kernel) rfl ?_
  refine am_r_getI (nx := 4) 5 cw3 (by decide) rfl (Or.inl fl_X3_31) (obR hc1) (show decode cX3_stepBack 1 = .ok (.getfield 31, 3) by decide +kernel) rfl ?_
  refine am_r_if_le (tg := 17) (nx := 7) (show decode cX3_stepBack 4 = .ok (.ifCond .le 13, 3) by decide +kernel) (by decide) rfl hr2 ?_ ?_
  · exact fun q => am_x_fg [0] (k1 q)
  · exact fun q => k2 q
theorem S_X3_stepBack_7 {G : am_G} {d : Nat} {Q : am_D → Prop} {σ : am_D} {v0 : Nat} (hc1 : am_isR v0) (k : am_X (am_FV G (d + 1) Q) mX3_stepBack (0, 0) 17 [none] [] (am_K0, (am_pI σ v0 5 ((σ.1 v0 5) - 1)))) : am_X (am_FV G (d + 1) Q) mX3_stepBack (0, 0) 7 [some (am_r (some v0))] [] (am_K0, σ) := by
  refine am_r_aload_n (nx := 8) rfl rfl (show decode cX3_stepBack 7 = .ok (.aload_n 0, 1) by decide +kernel) rfl ?_
  refine am_r_dup (nx := 9) rfl (show decode cX3_stepBack 8 = .ok (.dup, 1) by decide +kernel) rfl ?_
  refine am_r_getI (nx := 12) 5 cw3 (by decide) rfl (Or.inl fl_X3_31) (obR hc1) (show decode cX3_stepBack 9 = .ok (.getfield 31, 3) by decide +kernel) rfl ?_
  refine am_r_iconst (nx := 13) (show decode cX3_stepBack 12 = .ok (.iconst 1, 1) by decide +kernel) rfl ?_
  refine am_r_isub (nx := 14) (show decode cX3_stepBack 13 = .ok (.isub, 1) by decide +kernel) rfl ?_
  refine am_r_putI (nx := 17) 5 cw3 (by decide) rfl (Or.inl fl_X3_31) (obR hc1) rfl (Or.inl rfl) (show decode cX3_stepBack 14 = .ok (.putfield 31, 3) by decide +kernel) rfl ?_
  exact am_x_fg [0] k
theorem S_X3_stepBack_17 {G : am_G} {d : Nat} {Q : am_D → Prop} {σ : am_D}   (k : Q σ) : am_X (am_FV G (d + 1) Q) mX3_stepBack (0, 0) 17 [none] [] (am_K0, σ) := by
  exact am_r_vret rfl (show decode cX3_stepBack 17 = .ok (.return_, 1) by decide +kernel) ⟨_, rfl, rfl, k⟩
theorem S_X3_canEnd_0 {G : am_G} {d : Nat} {Q : Int → am_D → Prop} {σ : am_D} {v0 : Nat} (hc1 : am_isR v0) (k1 : (σ.2.2 v0 4) = none → am_X (am_FI G (d + 1) Q) mX3_canEnd (0, 0) 35 [none] [] (am_K0, σ)) (k2 : ∀ a, (σ.2.2 v0 4) = some a → am_X (am_FI G (d + 1) Q) mX3_canEnd (0, 0) 7 [some (am_r (some v0))] [] (am_K0, σ)) : am_X (am_FI G (d + 1) Q) mX3_canEnd (0, 0) 0 [some (am_r (some v0))] [] (am_K0, σ) := by
  refine am_r_aload_n (nx := 1) rfl rfl (show decode cX3_canEnd 0 = .ok (.aload_n 0, 1) by decide +kernel) rfl ?_
  refine am_r_getR (nx := 4) 4 cw3 (by decide) rfl (Or.inl fl_X3_27) (obR hc1) (show decode cX3_canEnd 1 = .ok (.getfield 27, 3) by decide +kernel) rfl ?_
  refine am_r_ifnull (tg := 35) (nx := 7) (show decode cX3_canEnd 4 = .ok (.ifnull 31, 3) by decide +kernel) (by decide) rfl ?_ ?_
  · exact fun q => am_x_fg [0] (k1 q)
  · exact fun a q => k2 a q
theorem S_X3_canEnd_7 {G : am_G} {d : Nat} {Q : Int → am_D → Prop} {σ : am_D} {v0 : Nat} {Q' : Int → am_D → Prop} (hc : am_MI G d mX3_now [am_r (some v0), am_i 1] σ Q') (hc1 : am_isR v0) (k : ∀ (x : Int) (σ' : am_D), Q' x σ' → am_X (am_FI G (d + 1) Q) mX3_canEnd (0, 0) 12 [some (am_r (some v0))] [am_i x] (am_K0, σ')) : am_X (am_FI G (d + 1) Q) mX3_canEnd (0, 0) 7 [some (am_r (some v0))] [] (am_K0, σ) := by
  refine am_r_aload_n (nx := 8) rfl rfl (show decode cX3_canEnd 7 = .ok (.aload_n 0, 1) by decide +kernel) rfl ?_
  refine am_r_iconst (nx := 9) (show decode cX3_canEnd 8 = .ok (.iconst 1, 1) by decide +kernel) rfl ?_
  refine am_r_callV (as := [am_i 1]) (st := []) hc mb_X3_now mv_X3_now (Or.inl ml_X3_43) (obR hc1) (by omega) (r := (RX3, TX3, 9)) rfl rfl rfl rfl (Nat.le_of_ble_eq_true rfl) ⟨Nat.le_refl _, Nat.le_refl _⟩ ⟨Nat.le_refl _, Nat.le_refl _⟩ (show decode cX3_canEnd 9 = .ok (.invokevirtual 43, 3) by decide +kernel) ?_
  rintro _ _ ⟨x, σ', rfl, rfl, hq⟩ _
  exact (k x σ' hq)
theorem S_X3_canEnd_12 {G : am_G} {d : Nat} {Q : Int → am_D → Prop} {σ : am_D} {s0 : Int} {v0 : Option Nat} (hr1 : -2147483648 ≤ s0 ∧ s0 ≤ 2147483647) (k1 : ¬ s0 = 0 → am_X (am_FI G (d + 1) Q) mX3_canEnd (0, 0) 35 [none] [] (am_K0, σ)) (k2 : ¬ (¬ s0 = 0) → am_X (am_FI G (d + 1) Q) mX3_canEnd (0, 0) 15 [some (am_r v0)] [] (am_K0, σ)) : am_X (am_FI G (d + 1) Q) mX3_canEnd (0, 0) 12 [some (am_r v0)] [am_i s0] (am_K0, σ) := by
  refine am_r_if_ne (tg := 35) (nx := 15) (show decode cX3_canEnd 12 = .ok (.ifCond .ne 23, 3) by decide +kernel) (by decide) rfl hr1 ?_ ?_
  · exact fun q => am_x_fg [0] (k1 q)
  · exact fun q => k2 q
theorem S_X3_canEnd_15 {G : am_G} {d : Nat} {Q : Int → am_D → Prop} {σ : am_D} {v0 : Nat} {Q' : Int → am_D → Prop} (hc1 : am_isR v0) (hc : am_MI G d mX3_now [am_r (some v0), am_i 0] σ Q') (k : ∀ (x : Int) (σ' : am_D), Q' x σ' → am_X (am_FI G (d + 1) Q) mX3_canEnd (0, 0) 24 [none] [am_i x, am_r (σ.2.2 v0 4)] (am_K0, σ')) : am_X (am_FI G (d + 1) Q) mX3_canEnd (0, 0) 15 [some (am_r (some v0))] [] (am_K0, σ) := by
  refine am_r_aload_n (nx := 16) rfl rfl (show decode cX3_canEnd 15 = .ok (.aload_n 0, 1) by decide +kernel) rfl ?_
  refine am_r_getR (nx := 19) 4 cw3 (by decide) rfl (Or.inl fl_X3_27) (obR hc1) (show decode cX3_canEnd 16 = .ok (.getfield 27, 3) by decide +kernel) rfl ?_
  refine am_r_aload_n (nx := 20) rfl rfl (show decode cX3_canEnd 19 = .ok (.aload_n 0, 1) by decide +kernel) rfl ?_
  refine am_r_iconst (nx := 21) (show decode cX3_canEnd 20 = .ok (.iconst 0, 1) by decide +kernel) rfl ?_
  refine am_r_callV (as := [am_i 0]) (st := [am_r (σ.2.2 v0 4)]) hc mb_X3_now mv_X3_now (Or.inl ml_X3_43) (obR hc1) (by omega) (r := (RX3, TX3, 9)) rfl rfl rfl rfl (Nat.le_of_ble_eq_true rfl) ⟨Nat.le_refl _, Nat.le_refl _⟩ ⟨Nat.le_refl _, Nat.le_refl _⟩ (show decode cX3_canEnd 21 = .ok (.invokevirtual 43, 3) by decide +kernel) ?_
  rintro _ _ ⟨x, σ', rfl, rfl, hq⟩ _
  exact am_x_fg [0] (k x σ' hq)
theorem S_X3_canEnd_24 {G : am_G} {d : Nat} {Q : Int → am_D → Prop} {σ : am_D} {s1 : Int} {s0 : Nat} {Q' : Int → am_D → Prop} (hc : am_MI G d mX2_endTells [am_r (some s0), am_i s1] σ Q') (hc1 : am_isM s0) (k : ∀ (x : Int) (σ' : am_D), Q' x σ' → am_X (am_FI G (d + 1) Q) mX3_canEnd (0, 0) 27 [none] [am_i x] (am_K0, σ')) : am_X (am_FI G (d + 1) Q) mX3_canEnd (0, 0) 24 [none] [am_i s1, am_r (some s0)] (am_K0, σ) := by
  refine am_r_callV (as := [am_i s1]) (st := []) hc mb_X2_endTells mv_X2_endTells (Or.inl ml_X3_88) (obM hc1) (by omega) (r := (RX2, TX2, 16)) rfl rfl rfl rfl (Nat.le_of_ble_eq_true rfl) ⟨Nat.le_refl _, Nat.le_refl _⟩ ⟨Nat.le_refl _, Nat.le_refl _⟩ (show decode cX3_canEnd 24 = .ok (.invokevirtual 88, 3) by decide +kernel) ?_
  rintro _ _ ⟨x, σ', rfl, rfl, hq⟩ _
  exact (k x σ' hq)
theorem S_X3_canEnd_27 {G : am_G} {d : Nat} {Q : Int → am_D → Prop} {σ : am_D} {s0 : Int} (hr1 : -2147483648 ≤ s0 ∧ s0 ≤ 2147483647) (k1 : s0 = (-1) → am_X (am_FI G (d + 1) Q) mX3_canEnd (0, 0) 35 [none] [] (am_K0, σ)) (k2 : ¬ (s0 = (-1)) → am_X (am_FI G (d + 1) Q) mX3_canEnd (0, 0) 31 [none] [] (am_K0, σ)) : am_X (am_FI G (d + 1) Q) mX3_canEnd (0, 0) 27 [none] [am_i s0] (am_K0, σ) := by
  refine am_r_iconst (nx := 28) (show decode cX3_canEnd 27 = .ok (.iconst (-1), 1) by decide +kernel) rfl ?_
  refine am_r_icmp_eq (tg := 35) (nx := 31) (show decode cX3_canEnd 28 = .ok (.if_icmp .eq 7, 3) by decide +kernel) (by decide) rfl hr1 (by omega) ?_ ?_
  · exact fun q => k1 q
  · exact fun q => k2 q
theorem S_X3_canEnd_31 {G : am_G} {d : Nat} {Q : Int → am_D → Prop} {σ : am_D}   (k : am_X (am_FI G (d + 1) Q) mX3_canEnd (0, 0) 36 [none] [am_i 1] (am_K0, σ)) : am_X (am_FI G (d + 1) Q) mX3_canEnd (0, 0) 31 [none] [] (am_K0, σ) := by
  refine am_r_iconst (nx := 32) (show decode cX3_canEnd 31 = .ok (.iconst 1, 1) by decide +kernel) rfl ?_
  refine am_r_goto (tg := 36) (show decode cX3_canEnd 32 = .ok (.goto 4, 3) by decide +kernel) (by decide) ?_
  exact k
theorem S_X3_canEnd_35 {G : am_G} {d : Nat} {Q : Int → am_D → Prop} {σ : am_D}   (k : am_X (am_FI G (d + 1) Q) mX3_canEnd (0, 0) 36 [none] [am_i 0] (am_K0, σ)) : am_X (am_FI G (d + 1) Q) mX3_canEnd (0, 0) 35 [none] [] (am_K0, σ) := by
  refine am_r_iconst (nx := 36) (show decode cX3_canEnd 35 = .ok (.iconst 0, 1) by decide +kernel) rfl ?_
  exact k
theorem S_X3_canEnd_36 {G : am_G} {d : Nat} {Q : Int → am_D → Prop} {σ : am_D} {s0 : Int} (hz : s0 = 0 ∨ s0 = 1) (k : Q s0 σ) : am_X (am_FI G (d + 1) Q) mX3_canEnd (0, 0) 36 [none] [am_i s0] (am_K0, σ) := by
  exact am_r_iret rfl (by rcases hz with hz | hz <;> rw [hz] <;> rfl) (show decode cX3_canEnd 36 = .ok (.ireturn, 1) by decide +kernel) ⟨_, _, rfl, rfl, k⟩
theorem S_X3_write_0 {G : am_G} {d : Nat} {Q : am_D → Prop} {σ : am_D} {v0 : Nat} {Q' : Int → am_D → Prop} (hc : am_MI G d mX3_canEnd [am_r (some v0)] σ Q') (hc1 : am_isR v0) (k : ∀ (x : Int) (σ' : am_D), Q' x σ' → am_X (am_FV G (d + 1) Q) mX3_write (0, 0) 4 [some (am_r (some v0))] [am_i x] (am_K0, σ')) : am_X (am_FV G (d + 1) Q) mX3_write (0, 0) 0 [some (am_r (some v0))] [] (am_K0, σ) := by
  refine am_r_aload_n (nx := 1) rfl rfl (show decode cX3_write 0 = .ok (.aload_n 0, 1) by decide +kernel) rfl ?_
  refine am_r_callV (as := []) (st := []) hc mb_X3_canEnd mv_X3_canEnd (Or.inl ml_X3_91) (obR hc1) (by omega) (r := (RX3, TX3, 9)) rfl rfl rfl rfl (Nat.le_of_ble_eq_true rfl) ⟨Nat.le_refl _, Nat.le_refl _⟩ ⟨Nat.le_refl _, Nat.le_refl _⟩ (show decode cX3_write 1 = .ok (.invokevirtual 91, 3) by decide +kernel) ?_
  rintro _ _ ⟨x, σ', rfl, rfl, hq⟩ _
  exact (k x σ' hq)
theorem S_X3_write_4 {G : am_G} {d : Nat} {Q : am_D → Prop} {σ : am_D} {s0 : Int} {v0 : Option Nat} (hr1 : -2147483648 ≤ s0 ∧ s0 ≤ 2147483647) (k1 : s0 = 0 → am_X (am_FV G (d + 1) Q) mX3_write (0, 0) 47 [none] [] (am_K0, σ)) (k2 : ¬ (s0 = 0) → am_X (am_FV G (d + 1) Q) mX3_write (0, 0) 7 [some (am_r v0)] [] (am_K0, σ)) : am_X (am_FV G (d + 1) Q) mX3_write (0, 0) 4 [some (am_r v0)] [am_i s0] (am_K0, σ) := by
  refine am_r_if_eq (tg := 47) (nx := 7) (show decode cX3_write 4 = .ok (.ifCond .eq 43, 3) by decide +kernel) (by decide) rfl hr1 ?_ ?_
  · exact fun q => am_x_fg [0] (k1 q)
  · exact fun q => k2 q
theorem S_X3_write_7 {G : am_G} {d : Nat} {Q : am_D → Prop} {σ : am_D} {v0 : Nat} {Q' : Int → am_D → Prop} (hc : am_MI G d mX3_now [am_r (some v0), am_i 6] σ Q') (hc1 : am_isR v0) (k : ∀ (x : Int) (σ' : am_D), Q' x σ' → am_X (am_FV G (d + 1) Q) mX3_write (0, 0) 14 [some (am_r (some v0))] [am_i x, am_r (some v0)] (am_K0, σ')) : am_X (am_FV G (d + 1) Q) mX3_write (0, 0) 7 [some (am_r (some v0))] [] (am_K0, σ) := by
  refine am_r_aload_n (nx := 8) rfl rfl (show decode cX3_write 7 = .ok (.aload_n 0, 1) by decide +kernel) rfl ?_
  refine am_r_aload_n (nx := 9) rfl rfl (show decode cX3_write 8 = .ok (.aload_n 0, 1) by decide +kernel) rfl ?_
  refine am_r_bipush (nx := 11) rfl (show decode cX3_write 9 = .ok (.bipush 6, 2) by decide +kernel) rfl ?_
  refine am_r_callV (as := [am_i 6]) (st := [am_r (some v0)]) hc mb_X3_now mv_X3_now (Or.inl ml_X3_43) (obR hc1) (by omega) (r := (RX3, TX3, 9)) rfl rfl rfl rfl (Nat.le_of_ble_eq_true rfl) ⟨Nat.le_refl _, Nat.le_refl _⟩ ⟨Nat.le_refl _, Nat.le_refl _⟩ (show decode cX3_write 11 = .ok (.invokevirtual 43, 3) by decide +kernel) ?_
  rintro _ _ ⟨x, σ', rfl, rfl, hq⟩ _
  exact (k x σ' hq)
theorem S_X3_write_14 {G : am_G} {d : Nat} {Q : am_D → Prop} {σ : am_D} {s1 : Int} {s0 : Nat} {v0 : Option Nat} (hc1 : am_isR s0) (k : am_X (am_FV G (d + 1) Q) mX3_write (0, 0) 17 [some (am_r v0)] [] (am_K0, (am_pI σ s0 3 s1))) : am_X (am_FV G (d + 1) Q) mX3_write (0, 0) 14 [some (am_r v0)] [am_i s1, am_r (some s0)] (am_K0, σ) := by
  refine am_r_putI (nx := 17) 3 cw3 (by decide) rfl (Or.inl fl_X3_69) (obR hc1) rfl (Or.inl rfl) (show decode cX3_write 14 = .ok (.putfield 69, 3) by decide +kernel) rfl ?_
  exact k
theorem S_X3_write_17 {G : am_G} {d : Nat} {Q : am_D → Prop} {σ : am_D} {v0 : Nat} {Q' : Int → am_D → Prop} (hc1 : am_isR v0) (hc : am_MI G d mX3_now [am_r (some v0), am_i 0] σ Q') (k : ∀ (x : Int) (σ' : am_D), Q' x σ' → am_X (am_FV G (d + 1) Q) mX3_write (0, 0) 27 [some (am_r (some v0))] [am_i x, am_r (σ.2.2 v0 4), am_r (some v0)] (am_K0, σ')) : am_X (am_FV G (d + 1) Q) mX3_write (0, 0) 17 [some (am_r (some v0))] [] (am_K0, σ) := by
  refine am_r_aload_n (nx := 18) rfl rfl (show decode cX3_write 17 = .ok (.aload_n 0, 1) by decide +kernel) rfl ?_
  refine am_r_aload_n (nx := 19) rfl rfl (show decode cX3_write 18 = .ok (.aload_n 0, 1) by decide +kernel) rfl ?_
  refine am_r_getR (nx := 22) 4 cw3 (by decide) rfl (Or.inl fl_X3_27) (obR hc1) (show decode cX3_write 19 = .ok (.getfield 27, 3) by decide +kernel) rfl ?_
  refine am_r_aload_n (nx := 23) rfl rfl (show decode cX3_write 22 = .ok (.aload_n 0, 1) by decide +kernel) rfl ?_
  refine am_r_iconst (nx := 24) (show decode cX3_write 23 = .ok (.iconst 0, 1) by decide +kernel) rfl ?_
  refine am_r_callV (as := [am_i 0]) (st := [am_r (σ.2.2 v0 4), am_r (some v0)]) hc mb_X3_now mv_X3_now (Or.inl ml_X3_43) (obR hc1) (by omega) (r := (RX3, TX3, 9)) rfl rfl rfl rfl (Nat.le_of_ble_eq_true rfl) ⟨Nat.le_refl _, Nat.le_refl _⟩ ⟨Nat.le_refl _, Nat.le_refl _⟩ (show decode cX3_write 24 = .ok (.invokevirtual 43, 3) by decide +kernel) ?_
  rintro _ _ ⟨x, σ', rfl, rfl, hq⟩ _
  exact (k x σ' hq)
theorem S_X3_write_27 {G : am_G} {d : Nat} {Q : am_D → Prop} {σ : am_D} {s2 : Int} {s1 : Nat} {Q' : Int → am_D → Prop} {v0 : Option Nat} {s0 : Option Nat} (hc : am_MI G d mX2_endTells [am_r (some s1), am_i s2] σ Q') (hc1 : am_isM s1) (k : ∀ (x : Int) (σ' : am_D), Q' x σ' → am_X (am_FV G (d + 1) Q) mX3_write (0, 0) 30 [some (am_r v0)] [am_i x, am_r s0] (am_K0, σ')) : am_X (am_FV G (d + 1) Q) mX3_write (0, 0) 27 [some (am_r v0)] [am_i s2, am_r (some s1), am_r s0] (am_K0, σ) := by
  refine am_r_callV (as := [am_i s2]) (st := [am_r s0]) hc mb_X2_endTells mv_X2_endTells (Or.inl ml_X3_88) (obM hc1) (by omega) (r := (RX2, TX2, 16)) rfl rfl rfl rfl (Nat.le_of_ble_eq_true rfl) ⟨Nat.le_refl _, Nat.le_refl _⟩ ⟨Nat.le_refl _, Nat.le_refl _⟩ (show decode cX3_write 27 = .ok (.invokevirtual 88, 3) by decide +kernel) ?_
  rintro _ _ ⟨x, σ', rfl, rfl, hq⟩ _
  exact (k x σ' hq)
theorem S_X3_write_30 {G : am_G} {d : Nat} {Q : am_D → Prop} {σ : am_D} {s1 : Int} {v0 : Nat} {s0 : Nat} {Q' : am_D → Prop} (hc1 : am_isR v0) (hc : am_MV G d mX3_putTogether [am_r (some s0), am_i s1, am_i ((σ.1 v0 5) * 16), am_i ((σ.1 v0 5) * 16)] σ Q') (hc2 : am_isR s0) (k : ∀ σ' : am_D, Q' σ' → am_X (am_FV G (d + 1) Q) mX3_write (0, 0) 47 [none] [] (am_K0, σ')) : am_X (am_FV G (d + 1) Q) mX3_write (0, 0) 30 [some (am_r (some v0))] [am_i s1, am_r (some s0)] (am_K0, σ) := by
  refine am_r_aload_n (nx := 31) rfl rfl (show decode cX3_write 30 = .ok (.aload_n 0, 1) by decide +kernel) rfl ?_
  refine am_r_getI (nx := 34) 5 cw3 (by decide) rfl (Or.inl fl_X3_31) (obR hc1) (show decode cX3_write 31 = .ok (.getfield 31, 3) by decide +kernel) rfl ?_
  refine am_r_bipush (nx := 36) rfl (show decode cX3_write 34 = .ok (.bipush 16, 2) by decide +kernel) rfl ?_
  refine am_r_imul (nx := 37) (show decode cX3_write 36 = .ok (.imul, 1) by decide +kernel) rfl ?_
  refine am_r_aload_n (nx := 38) rfl rfl (show decode cX3_write 37 = .ok (.aload_n 0, 1) by decide +kernel) rfl ?_
  refine am_r_getI (nx := 41) 5 cw3 (by decide) rfl (Or.inl fl_X3_31) (obR hc1) (show decode cX3_write 38 = .ok (.getfield 31, 3) by decide +kernel) rfl ?_
  refine am_r_bipush (nx := 43) rfl (show decode cX3_write 41 = .ok (.bipush 16, 2) by decide +kernel) rfl ?_
  refine am_r_imul (nx := 44) (show decode cX3_write 43 = .ok (.imul, 1) by decide +kernel) rfl ?_
  refine am_r_callV (as := [am_i s1, am_i ((σ.1 v0 5) * 16), am_i ((σ.1 v0 5) * 16)]) (st := []) hc mb_X3_putTogether mv_X3_putTogether (Or.inl ml_X3_75) (obR hc2) (by omega) (r := (RX3, TX3, 9)) rfl rfl rfl rfl (Nat.le_of_ble_eq_true rfl) ⟨Nat.le_refl _, Nat.le_refl _⟩ ⟨Nat.le_refl _, Nat.le_refl _⟩ (show decode cX3_write 44 = .ok (.invokevirtual 75, 3) by decide +kernel) ?_
  rintro _ _ ⟨σ', rfl, rfl, hq⟩ _
  exact am_x_fg [0] (k σ' hq)
theorem S_X3_write_47 {G : am_G} {d : Nat} {Q : am_D → Prop} {σ : am_D}   (k : Q σ) : am_X (am_FV G (d + 1) Q) mX3_write (0, 0) 47 [none] [] (am_K0, σ) := by
  exact am_r_vret rfl (show decode cX3_write 47 = .ok (.return_, 1) by decide +kernel) ⟨_, rfl, rfl, k⟩
theorem S_X3_refusal_0 {G : am_G} {d : Nat} {Q : Int → am_D → Prop} {σ : am_D} {v0 : Nat} {v1 : Option Nat} {Q' : am_D → Prop} {v2 : Option Nat} (hc : am_MV G d mX3_start [am_r (some v0), am_r v1] σ Q') (hc1 : am_isR v0) (k : ∀ σ' : am_D, Q' σ' → am_X (am_FI G (d + 1) Q) mX3_refusal (0, 0) 5 [some (am_r (some v0)), none, some (am_r v2), none] [] (am_K0, σ')) : am_X (am_FI G (d + 1) Q) mX3_refusal (0, 0) 0 [some (am_r (some v0)), some (am_r v1), some (am_r v2), none] [] (am_K0, σ) := by
  refine am_r_aload_n (nx := 1) rfl rfl (show decode cX3_refusal 0 = .ok (.aload_n 0, 1) by decide +kernel) rfl ?_
  refine am_r_aload_n (nx := 2) rfl rfl (show decode cX3_refusal 1 = .ok (.aload_n 1, 1) by decide +kernel) rfl ?_
  refine am_r_callV (as := [am_r v1]) (st := []) hc mb_X3_start mv_X3_start (Or.inl ml_X3_94) (obR hc1) (by omega) (r := (RX3, TX3, 9)) rfl rfl rfl rfl (Nat.le_of_ble_eq_true rfl) ⟨Nat.le_refl _, Nat.le_refl _⟩ ⟨Nat.le_refl _, Nat.le_refl _⟩ (show decode cX3_refusal 2 = .ok (.invokevirtual 94, 3) by decide +kernel) ?_
  rintro _ _ ⟨σ', rfl, rfl, hq⟩ _
  exact am_x_fg [1] (k σ' hq)
theorem S_X3_refusal_5 {G : am_G} {d : Nat} {Q : Int → am_D → Prop} {σ : am_D} {v0 : Option Nat} {v2 : Option Nat}  (k : am_X (am_FI G (d + 1) Q) mX3_refusal (0, 0) 7 [some (am_r v0), none, some (am_r v2), some (am_i 0)] [] (am_K0, σ)) : am_X (am_FI G (d + 1) Q) mX3_refusal (0, 0) 5 [some (am_r v0), none, some (am_r v2), none] [] (am_K0, σ) := by
  refine am_r_iconst (nx := 6) (show decode cX3_refusal 5 = .ok (.iconst 0, 1) by decide +kernel) rfl ?_
  refine am_r_istore_n (nx := 7) rfl (by decide) rfl (show decode cX3_refusal 6 = .ok (.istore_n 3, 1) by decide +kernel) rfl ?_
  exact k
theorem S_X3_refusal_7 {G : am_G} {d : Nat} {Q : Int → am_D → Prop} {σ : am_D} {v3 : Int} {v2 : Nat} {Q' : Int → am_D → Prop} {v0 : Option Nat} (hc : am_MI G d mX0_size [am_r (some v2)] σ Q') (hc1 : am_isE v2) (k : ∀ (x : Int) (σ' : am_D), Q' x σ' → am_X (am_FI G (d + 1) Q) mX3_refusal (0, 0) 12 [some (am_r v0), none, some (am_r (some v2)), some (am_i v3)] [am_i x, am_i v3] (am_K0, σ')) : am_X (am_FI G (d + 1) Q) mX3_refusal (0, 0) 7 [some (am_r v0), none, some (am_r (some v2)), some (am_i v3)] [] (am_K0, σ) := by
  refine am_r_iload_n (nx := 8) rfl rfl (show decode cX3_refusal 7 = .ok (.iload_n 3, 1) by decide +kernel) rfl ?_
  refine am_r_aload_n (nx := 9) rfl rfl (show decode cX3_refusal 8 = .ok (.aload_n 2, 1) by decide +kernel) rfl ?_
  refine am_r_callV (as := []) (st := [am_i v3]) hc mb_X0_size mv_X0_size (Or.inl ml_X3_98) (obE hc1) (by omega) (r := (RX0, TX0, 2)) rfl rfl rfl rfl (Nat.le_of_ble_eq_true rfl) ⟨Nat.le_refl _, Nat.le_refl _⟩ ⟨Nat.le_refl _, Nat.le_refl _⟩ (show decode cX3_refusal 9 = .ok (.invokevirtual 98, 3) by decide +kernel) ?_
  rintro _ _ ⟨x, σ', rfl, rfl, hq⟩ _
  exact (k x σ' hq)
theorem S_X3_refusal_12 {G : am_G} {d : Nat} {Q : Int → am_D → Prop} {σ : am_D} {v3 : Int} {s0 : Int} {s1 : Int} {v0 : Option Nat} {v2 : Option Nat} (hr1 : -2147483648 ≤ s0 ∧ s0 ≤ 2147483647) (hr2 : -2147483648 ≤ s1 ∧ s1 ≤ 2147483647) (k1 : s1 ≤ s0 → am_X (am_FI G (d + 1) Q) mX3_refusal (0, 0) 35 [some (am_r v0), none, some (am_r v2), none] [] (am_K0, σ)) (k2 : ¬ (s1 ≤ s0) → am_X (am_FI G (d + 1) Q) mX3_refusal (0, 0) 15 [some (am_r v0), none, some (am_r v2), some (am_i v3)] [] (am_K0, σ)) : am_X (am_FI G (d + 1) Q) mX3_refusal (0, 0) 12 [some (am_r v0), none, some (am_r v2), some (am_i v3)] [am_i s1, am_i s0] (am_K0, σ) := by
  refine am_r_icmp_ge (tg := 35) (nx := 15) (show decode cX3_refusal 12 = .ok (.if_icmp .ge 23, 3) by decide +kernel) (by decide) rfl hr1 hr2 ?_ ?_
  · exact fun q => am_x_fg [3] (k1 q)
  · exact fun q => k2 q
theorem S_X3_refusal_15 {G : am_G} {d : Nat} {Q : Int → am_D → Prop} {σ : am_D} {v3 : Int} {v2 : Nat} {Q' : Int → am_D → Prop} {v0 : Option Nat} (hc : am_MI G d mX0_signAt [am_r (some v2), am_i v3] σ Q') (hc1 : am_isE v2) (k : ∀ (x : Int) (σ' : am_D), Q' x σ' → am_X (am_FI G (d + 1) Q) mX3_refusal (0, 0) 21 [some (am_r v0), none, some (am_r (some v2)), some (am_i v3)] [am_i x, am_r v0] (am_K0, σ')) : am_X (am_FI G (d + 1) Q) mX3_refusal (0, 0) 15 [some (am_r v0), none, some (am_r (some v2)), some (am_i v3)] [] (am_K0, σ) := by
  refine am_r_aload_n (nx := 16) rfl rfl (show decode cX3_refusal 15 = .ok (.aload_n 0, 1) by decide +kernel) rfl ?_
  refine am_r_aload_n (nx := 17) rfl rfl (show decode cX3_refusal 16 = .ok (.aload_n 2, 1) by decide +kernel) rfl ?_
  refine am_r_iload_n (nx := 18) rfl rfl (show decode cX3_refusal 17 = .ok (.iload_n 3, 1) by decide +kernel) rfl ?_
  refine am_r_callV (as := [am_i v3]) (st := [am_r v0]) hc mb_X0_signAt mv_X0_signAt (Or.inl ml_X3_103) (obE hc1) (by omega) (r := (RX0, TX0, 2)) rfl rfl rfl rfl (Nat.le_of_ble_eq_true rfl) ⟨Nat.le_refl _, Nat.le_refl _⟩ ⟨Nat.le_refl _, Nat.le_refl _⟩ (show decode cX3_refusal 18 = .ok (.invokevirtual 103, 3) by decide +kernel) ?_
  rintro _ _ ⟨x, σ', rfl, rfl, hq⟩ _
  exact (k x σ' hq)
theorem S_X3_refusal_21 {G : am_G} {d : Nat} {Q : Int → am_D → Prop} {σ : am_D} {v3 : Int} {s1 : Int} {s0 : Nat} {Q' : Int → am_D → Prop} {v0 : Option Nat} {v2 : Option Nat} (hc : am_MI G d mX3_step [am_r (some s0), am_i s1] σ Q') (hc1 : am_isR s0) (k : ∀ (x : Int) (σ' : am_D), Q' x σ' → am_X (am_FI G (d + 1) Q) mX3_refusal (0, 0) 24 [some (am_r v0), none, some (am_r v2), some (am_i v3)] [am_i x] (am_K0, σ')) : am_X (am_FI G (d + 1) Q) mX3_refusal (0, 0) 21 [some (am_r v0), none, some (am_r v2), some (am_i v3)] [am_i s1, am_r (some s0)] (am_K0, σ) := by
  refine am_r_callV (as := [am_i s1]) (st := []) hc mb_X3_step mv_X3_step (Or.inl ml_X3_106) (obR hc1) (by omega) (r := (RX3, TX3, 9)) rfl rfl rfl rfl (Nat.le_of_ble_eq_true rfl) ⟨Nat.le_refl _, Nat.le_refl _⟩ ⟨Nat.le_refl _, Nat.le_refl _⟩ (show decode cX3_refusal 21 = .ok (.invokevirtual 106, 3) by decide +kernel) ?_
  rintro _ _ ⟨x, σ', rfl, rfl, hq⟩ _
  exact (k x σ' hq)
theorem S_X3_refusal_24 {G : am_G} {d : Nat} {Q : Int → am_D → Prop} {σ : am_D} {v3 : Int} {s0 : Int} {v0 : Option Nat} {v2 : Option Nat} (hr1 : -2147483648 ≤ s0 ∧ s0 ≤ 2147483647) (k1 : ¬ s0 = 0 → am_X (am_FI G (d + 1) Q) mX3_refusal (0, 0) 29 [some (am_r v0), none, some (am_r v2), some (am_i v3)] [] (am_K0, σ)) (k2 : ¬ (¬ s0 = 0) → am_X (am_FI G (d + 1) Q) mX3_refusal (0, 0) 27 [none, none, none, some (am_i v3)] [] (am_K0, σ)) : am_X (am_FI G (d + 1) Q) mX3_refusal (0, 0) 24 [some (am_r v0), none, some (am_r v2), some (am_i v3)] [am_i s0] (am_K0, σ) := by
  refine am_r_if_ne (tg := 29) (nx := 27) (show decode cX3_refusal 24 = .ok (.ifCond .ne 5, 3) by decide +kernel) (by decide) rfl hr1 ?_ ?_
  · exact fun q => k1 q
  · exact fun q => am_x_fg [0, 2] (k2 q)
theorem S_X3_refusal_27 {G : am_G} {d : Nat} {Q : Int → am_D → Prop} {σ : am_D} {v3 : Int}  (k : Q v3 σ) : am_X (am_FI G (d + 1) Q) mX3_refusal (0, 0) 27 [none, none, none, some (am_i v3)] [] (am_K0, σ) := by
  refine am_r_iload_n (nx := 28) rfl rfl (show decode cX3_refusal 27 = .ok (.iload_n 3, 1) by decide +kernel) rfl ?_
  exact am_r_iret rfl rfl (show decode cX3_refusal 28 = .ok (.ireturn, 1) by decide +kernel) ⟨_, _, rfl, rfl, k⟩
theorem S_X3_refusal_29 {G : am_G} {d : Nat} {Q : Int → am_D → Prop} {σ : am_D} {v3 : Int} {v0 : Option Nat} {v2 : Option Nat}  (k : am_X (am_FI G (d + 1) Q) mX3_refusal (0, 0) 7 [some (am_r v0), none, some (am_r v2), some (am_i (v3 + 1))] [] (am_K0, σ)) : am_X (am_FI G (d + 1) Q) mX3_refusal (0, 0) 29 [some (am_r v0), none, some (am_r v2), some (am_i v3)] [] (am_K0, σ) := by
  refine am_r_iinc (nx := 32) rfl rfl (show decode cX3_refusal 29 = .ok (.iinc 3 1, 3) by decide +kernel) rfl ?_
  refine am_r_goto (tg := 7) (show decode cX3_refusal 32 = .ok (.goto (-25), 3) by decide +kernel) (by decide) ?_
  exact k
theorem S_X3_refusal_35 {G : am_G} {d : Nat} {Q : Int → am_D → Prop} {σ : am_D} {v0 : Nat} {Q' : Int → am_D → Prop} {v2 : Option Nat} (hc : am_MI G d mX3_canEnd [am_r (some v0)] σ Q') (hc1 : am_isR v0) (k : ∀ (x : Int) (σ' : am_D), Q' x σ' → am_X (am_FI G (d + 1) Q) mX3_refusal (0, 0) 39 [none, none, some (am_r v2), none] [am_i x] (am_K0, σ')) : am_X (am_FI G (d + 1) Q) mX3_refusal (0, 0) 35 [some (am_r (some v0)), none, some (am_r v2), none] [] (am_K0, σ) := by
  refine am_r_aload_n (nx := 36) rfl rfl (show decode cX3_refusal 35 = .ok (.aload_n 0, 1) by decide +kernel) rfl ?_
  refine am_r_callV (as := []) (st := []) hc mb_X3_canEnd mv_X3_canEnd (Or.inl ml_X3_91) (obR hc1) (by omega) (r := (RX3, TX3, 9)) rfl rfl rfl rfl (Nat.le_of_ble_eq_true rfl) ⟨Nat.le_refl _, Nat.le_refl _⟩ ⟨Nat.le_refl _, Nat.le_refl _⟩ (show decode cX3_refusal 36 = .ok (.invokevirtual 91, 3) by decide +kernel) ?_
  rintro _ _ ⟨x, σ', rfl, rfl, hq⟩ _
  exact am_x_fg [0] (k x σ' hq)
theorem S_X3_refusal_39 {G : am_G} {d : Nat} {Q : Int → am_D → Prop} {σ : am_D} {s0 : Int} {v2 : Option Nat} (hr1 : -2147483648 ≤ s0 ∧ s0 ≤ 2147483647) (k1 : s0 = 0 → am_X (am_FI G (d + 1) Q) mX3_refusal (0, 0) 46 [none, none, some (am_r v2), none] [] (am_K0, σ)) (k2 : ¬ (s0 = 0) → am_X (am_FI G (d + 1) Q) mX3_refusal (0, 0) 42 [none, none, none, none] [] (am_K0, σ)) : am_X (am_FI G (d + 1) Q) mX3_refusal (0, 0) 39 [none, none, some (am_r v2), none] [am_i s0] (am_K0, σ) := by
  refine am_r_if_eq (tg := 46) (nx := 42) (show decode cX3_refusal 39 = .ok (.ifCond .eq 7, 3) by decide +kernel) (by decide) rfl hr1 ?_ ?_
  · exact fun q => k1 q
  · exact fun q => am_x_fg [2] (k2 q)
theorem S_X3_refusal_42 {G : am_G} {d : Nat} {Q : Int → am_D → Prop} {σ : am_D}   (k : am_X (am_FI G (d + 1) Q) mX3_refusal (0, 0) 50 [none, none, none, none] [am_i (-1)] (am_K0, σ)) : am_X (am_FI G (d + 1) Q) mX3_refusal (0, 0) 42 [none, none, none, none] [] (am_K0, σ) := by
  refine am_r_iconst (nx := 43) (show decode cX3_refusal 42 = .ok (.iconst (-1), 1) by decide +kernel) rfl ?_
  refine am_r_goto (tg := 50) (show decode cX3_refusal 43 = .ok (.goto 7, 3) by decide +kernel) (by decide) ?_
  exact k
theorem S_X3_refusal_46 {G : am_G} {d : Nat} {Q : Int → am_D → Prop} {σ : am_D} {v2 : Nat} {Q' : Int → am_D → Prop} (hc : am_MI G d mX0_size [am_r (some v2)] σ Q') (hc1 : am_isE v2) (k : ∀ (x : Int) (σ' : am_D), Q' x σ' → am_X (am_FI G (d + 1) Q) mX3_refusal (0, 0) 50 [none, none, none, none] [am_i x] (am_K0, σ')) : am_X (am_FI G (d + 1) Q) mX3_refusal (0, 0) 46 [none, none, some (am_r (some v2)), none] [] (am_K0, σ) := by
  refine am_r_aload_n (nx := 47) rfl rfl (show decode cX3_refusal 46 = .ok (.aload_n 2, 1) by decide +kernel) rfl ?_
  refine am_r_callV (as := []) (st := []) hc mb_X0_size mv_X0_size (Or.inl ml_X3_98) (obE hc1) (by omega) (r := (RX0, TX0, 2)) rfl rfl rfl rfl (Nat.le_of_ble_eq_true rfl) ⟨Nat.le_refl _, Nat.le_refl _⟩ ⟨Nat.le_refl _, Nat.le_refl _⟩ (show decode cX3_refusal 47 = .ok (.invokevirtual 98, 3) by decide +kernel) ?_
  rintro _ _ ⟨x, σ', rfl, rfl, hq⟩ _
  exact am_x_fg [2] (k x σ' hq)
theorem S_X3_refusal_50 {G : am_G} {d : Nat} {Q : Int → am_D → Prop} {σ : am_D} {s0 : Int}  (k : Q s0 σ) : am_X (am_FI G (d + 1) Q) mX3_refusal (0, 0) 50 [none, none, none, none] [am_i s0] (am_K0, σ) := by
  exact am_r_iret rfl rfl (show decode cX3_refusal 50 = .ok (.ireturn, 1) by decide +kernel) ⟨_, _, rfl, rfl, k⟩
theorem S_X3_readBehind_0 {G : am_G} {d : Nat} {Q : Int → am_D → Prop} {σ : am_D} {v0 : Nat} {v1 : Option Nat} {Q' : am_D → Prop} {v2 : Option Nat} (hc : am_MV G d mX3_start [am_r (some v0), am_r v1] σ Q') (hc1 : am_isR v0) (k : ∀ σ' : am_D, Q' σ' → am_X (am_FI G (d + 1) Q) mX3_readBehind (0, 0) 5 [some (am_r (some v0)), none, some (am_r v2), none, none] [] (am_K0, σ')) : am_X (am_FI G (d + 1) Q) mX3_readBehind (0, 0) 0 [some (am_r (some v0)), some (am_r v1), some (am_r v2), none, none] [] (am_K0, σ) := by
  refine am_r_aload_n (nx := 1) rfl rfl (show decode cX3_readBehind 0 = .ok (.aload_n 0, 1) by decide +kernel) rfl ?_
  refine am_r_aload_n (nx := 2) rfl rfl (show decode cX3_readBehind 1 = .ok (.aload_n 1, 1) by decide +kernel) rfl ?_
  refine am_r_callV (as := [am_r v1]) (st := []) hc mb_X3_start mv_X3_start (Or.inl ml_X3_94) (obR hc1) (by omega) (r := (RX3, TX3, 9)) rfl rfl rfl rfl (Nat.le_of_ble_eq_true rfl) ⟨Nat.le_refl _, Nat.le_refl _⟩ ⟨Nat.le_refl _, Nat.le_refl _⟩ (show decode cX3_readBehind 2 = .ok (.invokevirtual 94, 3) by decide +kernel) ?_
  rintro _ _ ⟨σ', rfl, rfl, hq⟩ _
  exact am_x_fg [1] (k σ' hq)
theorem S_X3_readBehind_5 {G : am_G} {d : Nat} {Q : Int → am_D → Prop} {σ : am_D} {v2 : Nat} {v0 : Option Nat} (hc1 : am_isR v2) (k : am_X (am_FI G (d + 1) Q) mX3_readBehind (0, 0) 10 [some (am_r v0), none, some (am_r (some v2)), some (am_i (σ.1 v2 6)), none] [] (am_K0, σ)) : am_X (am_FI G (d + 1) Q) mX3_readBehind (0, 0) 5 [some (am_r v0), none, some (am_r (some v2)), none, none] [] (am_K0, σ) := by
  refine am_r_aload_n (nx := 6) rfl rfl (show decode cX3_readBehind 5 = .ok (.aload_n 2, 1) by decide +kernel) rfl ?_
  refine am_r_getI (nx := 9) 6 cw3 (by decide) rfl (Or.inl fl_X3_79) (obR hc1) (show decode cX3_readBehind 6 = .ok (.getfield 79, 3) by decide +kernel) rfl ?_
  refine am_r_istore_n (nx := 10) rfl (by decide) rfl (show decode cX3_readBehind 9 = .ok (.istore_n 3, 1) by decide +kernel) rfl ?_
  exact k
theorem S_X3_readBehind_10 {G : am_G} {d : Nat} {Q : Int → am_D → Prop} {σ : am_D} {v3 : Int} {v0 : Option Nat} {v2 : Option Nat}  (k : am_X (am_FI G (d + 1) Q) mX3_readBehind (0, 0) 13 [some (am_r v0), none, some (am_r v2), some (am_i v3), some (am_i 0)] [] (am_K0, σ)) : am_X (am_FI G (d + 1) Q) mX3_readBehind (0, 0) 10 [some (am_r v0), none, some (am_r v2), some (am_i v3), none] [] (am_K0, σ) := by
  refine am_r_iconst (nx := 11) (show decode cX3_readBehind 10 = .ok (.iconst 0, 1) by decide +kernel) rfl ?_
  refine am_r_istore (nx := 13) (by decide) rfl (show decode cX3_readBehind 11 = .ok (.istore 4, 2) by decide +kernel) rfl ?_
  exact k
theorem S_X3_readBehind_13 {G : am_G} {d : Nat} {Q : Int → am_D → Prop} {σ : am_D} {v3 : Int} {v4 : Int} {v2 : Nat} {v0 : Option Nat} (hc1 : am_isR v2) (hr2 : -2147483648 ≤ v4 ∧ v4 ≤ 2147483647) (hr3 : -2147483648 ≤ (σ.1 v2 8) ∧ (σ.1 v2 8) ≤ 2147483647) (k1 : (σ.1 v2 8) ≤ v4 → am_X (am_FI G (d + 1) Q) mX3_readBehind (0, 0) 54 [some (am_r v0), none, none, none, none] [] (am_K0, σ)) (k2 : ¬ ((σ.1 v2 8) ≤ v4) → am_X (am_FI G (d + 1) Q) mX3_readBehind (0, 0) 22 [some (am_r v0), none, some (am_r (some v2)), some (am_i v3), some (am_i v4)] [] (am_K0, σ)) : am_X (am_FI G (d + 1) Q) mX3_readBehind (0, 0) 13 [some (am_r v0), none, some (am_r (some v2)), some (am_i v3), some (am_i v4)] [] (am_K0, σ) := by
  refine am_r_iload (nx := 15) rfl (show decode cX3_readBehind 13 = .ok (.iload 4, 2) by decide +kernel) rfl ?_
  refine am_r_aload_n (nx := 16) rfl rfl (show decode cX3_readBehind 15 = .ok (.aload_n 2, 1) by decide +kernel) rfl ?_
  refine am_r_getI (nx := 19) 8 cw3 (by decide) rfl (Or.inl fl_X3_85) (obR hc1) (show decode cX3_readBehind 16 = .ok (.getfield 85, 3) by decide +kernel) rfl ?_
  refine am_r_icmp_ge (tg := 54) (nx := 22) (show decode cX3_readBehind 19 = .ok (.if_icmp .ge 35, 3) by decide +kernel) (by decide) rfl hr2 hr3 ?_ ?_
  · exact fun q => am_x_fg [2, 3, 4] (k1 q)
  · exact fun q => k2 q
theorem S_X3_readBehind_22 {G : am_G} {d : Nat} {Q : Int → am_D → Prop} {σ : am_D} {v3 : Int} {v4 : Int} {v2 : Nat} {Q' : Int → am_D → Prop} {v0 : Option Nat} (hc1 : am_isR v2) (hc : am_MI G d mX10_at [am_r (some (v2 + 2)), am_i v3] σ Q') (k : ∀ (x : Int) (σ' : am_D), Q' x σ' → am_X (am_FI G (d + 1) Q) mX3_readBehind (0, 0) 31 [some (am_r v0), none, some (am_r (some v2)), some (am_i v3), some (am_i v4)] [am_i x, am_r v0] (am_K0, σ')) : am_X (am_FI G (d + 1) Q) mX3_readBehind (0, 0) 22 [some (am_r v0), none, some (am_r (some v2)), some (am_i v3), some (am_i v4)] [] (am_K0, σ) := by
  refine am_r_aload_n (nx := 23) rfl rfl (show decode cX3_readBehind 22 = .ok (.aload_n 0, 1) by decide +kernel) rfl ?_
  refine am_r_aload_n (nx := 24) rfl rfl (show decode cX3_readBehind 23 = .ok (.aload_n 2, 1) by decide +kernel) rfl ?_
  refine am_r_getF (nx := 27) 1 cw3 (by decide) rfl (Or.inl fl_X3_21) (obR hc1) (fnR1 hc1) (show decode cX3_readBehind 24 = .ok (.getfield 21, 3) by decide +kernel) rfl ?_
  refine am_r_iload_n (nx := 28) rfl rfl (show decode cX3_readBehind 27 = .ok (.iload_n 3, 1) by decide +kernel) rfl ?_
  refine am_r_callS (as := [am_r (some (v2 + 2)), am_i v3]) (st := [am_r v0]) hc mb_X10_at mv_X10_at (Or.inr ⟨_, ml_X3_39⟩) rfl rfl (Nat.le_of_ble_eq_true rfl) ⟨Nat.le_refl _, Nat.le_refl _⟩ ⟨Nat.le_refl _, Nat.le_refl _⟩ (show decode cX3_readBehind 28 = .ok (.invokestatic 39, 3) by decide +kernel) ?_
  rintro _ _ ⟨x, σ', rfl, rfl, hq⟩ _
  exact (k x σ' hq)
theorem S_X3_readBehind_31 {G : am_G} {d : Nat} {Q : Int → am_D → Prop} {σ : am_D} {v3 : Int} {v4 : Int} {s1 : Int} {s0 : Nat} {Q' : Int → am_D → Prop} {v0 : Option Nat} {v2 : Option Nat} (hc : am_MI G d mX3_step [am_r (some s0), am_i s1] σ Q') (hc1 : am_isR s0) (k : ∀ (x : Int) (σ' : am_D), Q' x σ' → am_X (am_FI G (d + 1) Q) mX3_readBehind (0, 0) 34 [some (am_r v0), none, some (am_r v2), some (am_i v3), some (am_i v4)] [am_i x] (am_K0, σ')) : am_X (am_FI G (d + 1) Q) mX3_readBehind (0, 0) 31 [some (am_r v0), none, some (am_r v2), some (am_i v3), some (am_i v4)] [am_i s1, am_r (some s0)] (am_K0, σ) := by
  refine am_r_callV (as := [am_i s1]) (st := []) hc mb_X3_step mv_X3_step (Or.inl ml_X3_106) (obR hc1) (by omega) (r := (RX3, TX3, 9)) rfl rfl rfl rfl (Nat.le_of_ble_eq_true rfl) ⟨Nat.le_refl _, Nat.le_refl _⟩ ⟨Nat.le_refl _, Nat.le_refl _⟩ (show decode cX3_readBehind 31 = .ok (.invokevirtual 106, 3) by decide +kernel) ?_
  rintro _ _ ⟨x, σ', rfl, rfl, hq⟩ _
  exact (k x σ' hq)
theorem S_X3_readBehind_34 {G : am_G} {d : Nat} {Q : Int → am_D → Prop} {σ : am_D} {v3 : Int} {v4 : Int} {s0 : Int} {v0 : Option Nat} {v2 : Option Nat} (hr1 : -2147483648 ≤ s0 ∧ s0 ≤ 2147483647) (k1 : ¬ s0 = 0 → am_X (am_FI G (d + 1) Q) mX3_readBehind (0, 0) 39 [some (am_r v0), none, some (am_r v2), some (am_i v3), some (am_i v4)] [] (am_K0, σ)) (k2 : ¬ (¬ s0 = 0) → am_X (am_FI G (d + 1) Q) mX3_readBehind (0, 0) 37 [none, none, none, none, none] [] (am_K0, σ)) : am_X (am_FI G (d + 1) Q) mX3_readBehind (0, 0) 34 [some (am_r v0), none, some (am_r v2), some (am_i v3), some (am_i v4)] [am_i s0] (am_K0, σ) := by
  refine am_r_if_ne (tg := 39) (nx := 37) (show decode cX3_readBehind 34 = .ok (.ifCond .ne 5, 3) by decide +kernel) (by decide) rfl hr1 ?_ ?_
  · exact fun q => k1 q
  · exact fun q => am_x_fg [0, 2, 3, 4] (k2 q)
theorem S_X3_readBehind_37 {G : am_G} {d : Nat} {Q : Int → am_D → Prop} {σ : am_D}   (k : Q 0 σ) : am_X (am_FI G (d + 1) Q) mX3_readBehind (0, 0) 37 [none, none, none, none, none] [] (am_K0, σ) := by
  refine am_r_iconst (nx := 38) (show decode cX3_readBehind 37 = .ok (.iconst 0, 1) by decide +kernel) rfl ?_
  exact am_r_iret rfl rfl (show decode cX3_readBehind 38 = .ok (.ireturn, 1) by decide +kernel) ⟨_, _, rfl, rfl, k⟩
theorem S_X3_readBehind_39 {G : am_G} {d : Nat} {Q : Int → am_D → Prop} {σ : am_D} {v3 : Int} {v4 : Int} {v2 : Nat} {Q' : Int → am_D → Prop} {v0 : Option Nat} (hc1 : am_isR v2) (hc : am_MI G d mX10_at [am_r (some (v2 + 3)), am_i v3] σ Q') (k : ∀ (x : Int) (σ' : am_D), Q' x σ' → am_X (am_FI G (d + 1) Q) mX3_readBehind (0, 0) 48 [some (am_r v0), none, some (am_r (some v2)), some (am_i x), some (am_i v4)] [] (am_K0, σ')) : am_X (am_FI G (d + 1) Q) mX3_readBehind (0, 0) 39 [some (am_r v0), none, some (am_r (some v2)), some (am_i v3), some (am_i v4)] [] (am_K0, σ) := by
  refine am_r_aload_n (nx := 40) rfl rfl (show decode cX3_readBehind 39 = .ok (.aload_n 2, 1) by decide +kernel) rfl ?_
  refine am_r_getF (nx := 43) 2 cw3 (by decide) rfl (Or.inl fl_X3_24) (obR hc1) (fnR2 hc1) (show decode cX3_readBehind 40 = .ok (.getfield 24, 3) by decide +kernel) rfl ?_
  refine am_r_iload_n (nx := 44) rfl rfl (show decode cX3_readBehind 43 = .ok (.iload_n 3, 1) by decide +kernel) rfl ?_
  refine am_r_callS (as := [am_r (some (v2 + 3)), am_i v3]) (st := []) hc mb_X10_at mv_X10_at (Or.inr ⟨_, ml_X3_39⟩) rfl rfl (Nat.le_of_ble_eq_true rfl) ⟨Nat.le_refl _, Nat.le_refl _⟩ ⟨Nat.le_refl _, Nat.le_refl _⟩ (show decode cX3_readBehind 44 = .ok (.invokestatic 39, 3) by decide +kernel) ?_
  rintro _ _ ⟨x, σ', rfl, rfl, hq⟩ _
  refine am_r_istore_n (nx := 48) rfl (by decide) rfl (show decode cX3_readBehind 47 = .ok (.istore_n 3, 1) by decide +kernel) rfl ?_
  exact (k x σ' hq)
theorem S_X3_readBehind_48 {G : am_G} {d : Nat} {Q : Int → am_D → Prop} {σ : am_D} {v3 : Int} {v4 : Int} {v0 : Option Nat} {v2 : Option Nat}  (k : am_X (am_FI G (d + 1) Q) mX3_readBehind (0, 0) 13 [some (am_r v0), none, some (am_r v2), some (am_i v3), some (am_i (v4 + 1))] [] (am_K0, σ)) : am_X (am_FI G (d + 1) Q) mX3_readBehind (0, 0) 48 [some (am_r v0), none, some (am_r v2), some (am_i v3), some (am_i v4)] [] (am_K0, σ) := by
  refine am_r_iinc (nx := 51) rfl rfl (show decode cX3_readBehind 48 = .ok (.iinc 4 1, 3) by decide +kernel) rfl ?_
  refine am_r_goto (tg := 13) (show decode cX3_readBehind 51 = .ok (.goto (-38), 3) by decide +kernel) (by decide) ?_
  exact k
theorem S_X3_readBehind_54 {G : am_G} {d : Nat} {Q : Int → am_D → Prop} {σ : am_D} {v0 : Nat} {Q' : Int → am_D → Prop} (hc : am_MI G d mX3_canEnd [am_r (some v0)] σ Q') (hc1 : am_isR v0) (k : ∀ (x : Int) (σ' : am_D), Q' x σ' → (x = 0 ∨ x = 1) ∧ Q x σ') : am_X (am_FI G (d + 1) Q) mX3_readBehind (0, 0) 54 [some (am_r (some v0)), none, none, none, none] [] (am_K0, σ) := by
  refine am_r_aload_n (nx := 55) rfl rfl (show decode cX3_readBehind 54 = .ok (.aload_n 0, 1) by decide +kernel) rfl ?_
  refine am_r_callV (as := []) (st := []) hc mb_X3_canEnd mv_X3_canEnd (Or.inl ml_X3_91) (obR hc1) (by omega) (r := (RX3, TX3, 9)) rfl rfl rfl rfl (Nat.le_of_ble_eq_true rfl) ⟨Nat.le_refl _, Nat.le_refl _⟩ ⟨Nat.le_refl _, Nat.le_refl _⟩ (show decode cX3_readBehind 55 = .ok (.invokevirtual 91, 3) by decide +kernel) ?_
  rintro _ _ ⟨x, σ', rfl, rfl, hq⟩ _
  exact am_r_iret rfl (by rcases (k x σ' hq).1 with hz | hz <;> rw [hz] <;> rfl) (show decode cX3_readBehind 58 = .ok (.ireturn, 1) by decide +kernel) ⟨_, _, rfl, rfl, (k x σ' hq).2⟩
theorem S_X3_wroteAlike_0 {G : am_G} {d : Nat} {Q : Int → am_D → Prop} {σ : am_D} {v0 : Nat} {v1 : Nat} (hc1 : am_isR v0) (hc2 : am_isR v1) (hr3 : -2147483648 ≤ (σ.1 v0 8) ∧ (σ.1 v0 8) ≤ 2147483647) (hr4 : -2147483648 ≤ (σ.1 v1 8) ∧ (σ.1 v1 8) ≤ 2147483647) (k1 : (σ.1 v0 8) = (σ.1 v1 8) → am_X (am_FI G (d + 1) Q) mX3_wroteAlike (0, 0) 13 [some (am_r (some v0)), some (am_r (some v1)), none, none, none] [] (am_K0, σ)) (k2 : ¬ ((σ.1 v0 8) = (σ.1 v1 8)) → am_X (am_FI G (d + 1) Q) mX3_wroteAlike (0, 0) 11 [none, none, none, none, none] [] (am_K0, σ)) : am_X (am_FI G (d + 1) Q) mX3_wroteAlike (0, 0) 0 [some (am_r (some v0)), some (am_r (some v1)), none, none, none] [] (am_K0, σ) := by
  refine am_r_aload_n (nx := 1) rfl rfl (show decode cX3_wroteAlike 0 = .ok (.aload_n 0, 1) by decide +kernel) rfl ?_
  refine am_r_getI (nx := 4) 8 cw3 (by decide) rfl (Or.inl fl_X3_85) (obR hc1) (show decode cX3_wroteAlike 1 = .ok (.getfield 85, 3) by decide +kernel) rfl ?_
  refine am_r_aload_n (nx := 5) rfl rfl (show decode cX3_wroteAlike 4 = .ok (.aload_n 1, 1) by decide +kernel) rfl ?_
  refine am_r_getI (nx := 8) 8 cw3 (by decide) rfl (Or.inl fl_X3_85) (obR hc2) (show decode cX3_wroteAlike 5 = .ok (.getfield 85, 3) by decide +kernel) rfl ?_
  refine am_r_icmp_eq (tg := 13) (nx := 11) (show decode cX3_wroteAlike 8 = .ok (.if_icmp .eq 5, 3) by decide +kernel) (by decide) rfl hr3 hr4 ?_ ?_
  · exact fun q => k1 q
  · exact fun q => am_x_fg [0, 1] (k2 q)
theorem S_X3_wroteAlike_11 {G : am_G} {d : Nat} {Q : Int → am_D → Prop} {σ : am_D}   (k : Q 0 σ) : am_X (am_FI G (d + 1) Q) mX3_wroteAlike (0, 0) 11 [none, none, none, none, none] [] (am_K0, σ) := by
  refine am_r_iconst (nx := 12) (show decode cX3_wroteAlike 11 = .ok (.iconst 0, 1) by decide +kernel) rfl ?_
  exact am_r_iret rfl rfl (show decode cX3_wroteAlike 12 = .ok (.ireturn, 1) by decide +kernel) ⟨_, _, rfl, rfl, k⟩
theorem S_X3_wroteAlike_13 {G : am_G} {d : Nat} {Q : Int → am_D → Prop} {σ : am_D} {v0 : Nat} {v1 : Option Nat} (hc1 : am_isR v0) (k : am_X (am_FI G (d + 1) Q) mX3_wroteAlike (0, 0) 18 [some (am_r (some v0)), some (am_r v1), some (am_i (σ.1 v0 6)), none, none] [] (am_K0, σ)) : am_X (am_FI G (d + 1) Q) mX3_wroteAlike (0, 0) 13 [some (am_r (some v0)), some (am_r v1), none, none, none] [] (am_K0, σ) := by
  refine am_r_aload_n (nx := 14) rfl rfl (show decode cX3_wroteAlike 13 = .ok (.aload_n 0, 1) by decide +kernel) rfl ?_
  refine am_r_getI (nx := 17) 6 cw3 (by decide) rfl (Or.inl fl_X3_79) (obR hc1) (show decode cX3_wroteAlike 14 = .ok (.getfield 79, 3) by decide +kernel) rfl ?_
  refine am_r_istore_n (nx := 18) rfl (by decide) rfl (show decode cX3_wroteAlike 17 = .ok (.istore_n 2, 1) by decide +kernel) rfl ?_
  exact k
theorem S_X3_wroteAlike_18 {G : am_G} {d : Nat} {Q : Int → am_D → Prop} {σ : am_D} {v2 : Int} {v1 : Nat} {v0 : Option Nat} (hc1 : am_isR v1) (k : am_X (am_FI G (d + 1) Q) mX3_wroteAlike (0, 0) 23 [some (am_r v0), some (am_r (some v1)), some (am_i v2), some (am_i (σ.1 v1 6)), none] [] (am_K0, σ)) : am_X (am_FI G (d + 1) Q) mX3_wroteAlike (0, 0) 18 [some (am_r v0), some (am_r (some v1)), some (am_i v2), none, none] [] (am_K0, σ) := by
  refine am_r_aload_n (nx := 19) rfl rfl (show decode cX3_wroteAlike 18 = .ok (.aload_n 1, 1) by decide +kernel) rfl ?_
  refine am_r_getI (nx := 22) 6 cw3 (by decide) rfl (Or.inl fl_X3_79) (obR hc1) (show decode cX3_wroteAlike 19 = .ok (.getfield 79, 3) by decide +kernel) rfl ?_
  refine am_r_istore_n (nx := 23) rfl (by decide) rfl (show decode cX3_wroteAlike 22 = .ok (.istore_n 3, 1) by decide +kernel) rfl ?_
  exact k
theorem S_X3_wroteAlike_23 {G : am_G} {d : Nat} {Q : Int → am_D → Prop} {σ : am_D} {v2 : Int} {v3 : Int} {v0 : Option Nat} {v1 : Option Nat}  (k : am_X (am_FI G (d + 1) Q) mX3_wroteAlike (0, 0) 26 [some (am_r v0), some (am_r v1), some (am_i v2), some (am_i v3), some (am_i 0)] [] (am_K0, σ)) : am_X (am_FI G (d + 1) Q) mX3_wroteAlike (0, 0) 23 [some (am_r v0), some (am_r v1), some (am_i v2), some (am_i v3), none] [] (am_K0, σ) := by
  refine am_r_iconst (nx := 24) (show decode cX3_wroteAlike 23 = .ok (.iconst 0, 1) by decide +kernel) rfl ?_
  refine am_r_istore (nx := 26) (by decide) rfl (show decode cX3_wroteAlike 24 = .ok (.istore 4, 2) by decide +kernel) rfl ?_
  exact k
theorem S_X3_wroteAlike_26 {G : am_G} {d : Nat} {Q : Int → am_D → Prop} {σ : am_D} {v2 : Int} {v3 : Int} {v4 : Int} {v0 : Nat} {v1 : Option Nat} (hc1 : am_isR v0) (hr2 : -2147483648 ≤ v4 ∧ v4 ≤ 2147483647) (hr3 : -2147483648 ≤ (σ.1 v0 8) ∧ (σ.1 v0 8) ≤ 2147483647) (k1 : (σ.1 v0 8) ≤ v4 → am_X (am_FI G (d + 1) Q) mX3_wroteAlike (0, 0) 80 [none, none, none, none, none] [] (am_K0, σ)) (k2 : ¬ ((σ.1 v0 8) ≤ v4) → am_X (am_FI G (d + 1) Q) mX3_wroteAlike (0, 0) 35 [some (am_r (some v0)), some (am_r v1), some (am_i v2), some (am_i v3), some (am_i v4)] [] (am_K0, σ)) : am_X (am_FI G (d + 1) Q) mX3_wroteAlike (0, 0) 26 [some (am_r (some v0)), some (am_r v1), some (am_i v2), some (am_i v3), some (am_i v4)] [] (am_K0, σ) := by
  refine am_r_iload (nx := 28) rfl (show decode cX3_wroteAlike 26 = .ok (.iload 4, 2) by decide +kernel) rfl ?_
  refine am_r_aload_n (nx := 29) rfl rfl (show decode cX3_wroteAlike 28 = .ok (.aload_n 0, 1) by decide +kernel) rfl ?_
  refine am_r_getI (nx := 32) 8 cw3 (by decide) rfl (Or.inl fl_X3_85) (obR hc1) (show decode cX3_wroteAlike 29 = .ok (.getfield 85, 3) by decide +kernel) rfl ?_
  refine am_r_icmp_ge (tg := 80) (nx := 35) (show decode cX3_wroteAlike 32 = .ok (.if_icmp .ge 48, 3) by decide +kernel) (by decide) rfl hr2 hr3 ?_ ?_
  · exact fun q => am_x_fg [0, 1, 2, 3, 4] (k1 q)
  · exact fun q => k2 q
theorem S_X3_wroteAlike_35 {G : am_G} {d : Nat} {Q : Int → am_D → Prop} {σ : am_D} {v2 : Int} {v3 : Int} {v4 : Int} {v0 : Nat} {Q' : Int → am_D → Prop} {v1 : Option Nat} (hc1 : am_isR v0) (hc : am_MI G d mX10_at [am_r (some (v0 + 2)), am_i v2] σ Q') (k : ∀ (x : Int) (σ' : am_D), Q' x σ' → am_X (am_FI G (d + 1) Q) mX3_wroteAlike (0, 0) 43 [some (am_r (some v0)), some (am_r v1), some (am_i v2), some (am_i v3), some (am_i v4)] [am_i x] (am_K0, σ')) : am_X (am_FI G (d + 1) Q) mX3_wroteAlike (0, 0) 35 [some (am_r (some v0)), some (am_r v1), some (am_i v2), some (am_i v3), some (am_i v4)] [] (am_K0, σ) := by
  refine am_r_aload_n (nx := 36) rfl rfl (show decode cX3_wroteAlike 35 = .ok (.aload_n 0, 1) by decide +kernel) rfl ?_
  refine am_r_getF (nx := 39) 1 cw3 (by decide) rfl (Or.inl fl_X3_21) (obR hc1) (fnR1 hc1) (show decode cX3_wroteAlike 36 = .ok (.getfield 21, 3) by decide +kernel) rfl ?_
  refine am_r_iload_n (nx := 40) rfl rfl (show decode cX3_wroteAlike 39 = .ok (.iload_n 2, 1) by decide +kernel) rfl ?_
  refine am_r_callS (as := [am_r (some (v0 + 2)), am_i v2]) (st := []) hc mb_X10_at mv_X10_at (Or.inr ⟨_, ml_X3_39⟩) rfl rfl (Nat.le_of_ble_eq_true rfl) ⟨Nat.le_refl _, Nat.le_refl _⟩ ⟨Nat.le_refl _, Nat.le_refl _⟩ (show decode cX3_wroteAlike 40 = .ok (.invokestatic 39, 3) by decide +kernel) ?_
  rintro _ _ ⟨x, σ', rfl, rfl, hq⟩ _
  exact (k x σ' hq)
theorem S_X3_wroteAlike_43 {G : am_G} {d : Nat} {Q : Int → am_D → Prop} {σ : am_D} {v2 : Int} {v3 : Int} {v4 : Int} {s0 : Int} {v1 : Nat} {Q' : Int → am_D → Prop} {v0 : Option Nat} (hc1 : am_isR v1) (hc : am_MI G d mX10_at [am_r (some (v1 + 2)), am_i v3] σ Q') (k : ∀ (x : Int) (σ' : am_D), Q' x σ' → am_X (am_FI G (d + 1) Q) mX3_wroteAlike (0, 0) 51 [some (am_r v0), some (am_r (some v1)), some (am_i v2), some (am_i v3), some (am_i v4)] [am_i x, am_i s0] (am_K0, σ')) : am_X (am_FI G (d + 1) Q) mX3_wroteAlike (0, 0) 43 [some (am_r v0), some (am_r (some v1)), some (am_i v2), some (am_i v3), some (am_i v4)] [am_i s0] (am_K0, σ) := by
  refine am_r_aload_n (nx := 44) rfl rfl (show decode cX3_wroteAlike 43 = .ok (.aload_n 1, 1) by decide +kernel) rfl ?_
  refine am_r_getF (nx := 47) 1 cw3 (by decide) rfl (Or.inl fl_X3_21) (obR hc1) (fnR1 hc1) (show decode cX3_wroteAlike 44 = .ok (.getfield 21, 3) by decide +kernel) rfl ?_
  refine am_r_iload_n (nx := 48) rfl rfl (show decode cX3_wroteAlike 47 = .ok (.iload_n 3, 1) by decide +kernel) rfl ?_
  refine am_r_callS (as := [am_r (some (v1 + 2)), am_i v3]) (st := [am_i s0]) hc mb_X10_at mv_X10_at (Or.inr ⟨_, ml_X3_39⟩) rfl rfl (Nat.le_of_ble_eq_true rfl) ⟨Nat.le_refl _, Nat.le_refl _⟩ ⟨Nat.le_refl _, Nat.le_refl _⟩ (show decode cX3_wroteAlike 48 = .ok (.invokestatic 39, 3) by decide +kernel) ?_
  rintro _ _ ⟨x, σ', rfl, rfl, hq⟩ _
  exact (k x σ' hq)
theorem S_X3_wroteAlike_51 {G : am_G} {d : Nat} {Q : Int → am_D → Prop} {σ : am_D} {v2 : Int} {v3 : Int} {v4 : Int} {s0 : Int} {s1 : Int} {v0 : Option Nat} {v1 : Option Nat} (hr1 : -2147483648 ≤ s0 ∧ s0 ≤ 2147483647) (hr2 : -2147483648 ≤ s1 ∧ s1 ≤ 2147483647) (k1 : s0 = s1 → am_X (am_FI G (d + 1) Q) mX3_wroteAlike (0, 0) 56 [some (am_r v0), some (am_r v1), some (am_i v2), some (am_i v3), some (am_i v4)] [] (am_K0, σ)) (k2 : ¬ (s0 = s1) → am_X (am_FI G (d + 1) Q) mX3_wroteAlike (0, 0) 54 [none, none, none, none, none] [] (am_K0, σ)) : am_X (am_FI G (d + 1) Q) mX3_wroteAlike (0, 0) 51 [some (am_r v0), some (am_r v1), some (am_i v2), some (am_i v3), some (am_i v4)] [am_i s1, am_i s0] (am_K0, σ) := by
  refine am_r_icmp_eq (tg := 56) (nx := 54) (show decode cX3_wroteAlike 51 = .ok (.if_icmp .eq 5, 3) by decide +kernel) (by decide) rfl hr1 hr2 ?_ ?_
  · exact fun q => k1 q
  · exact fun q => am_x_fg [0, 1, 2, 3, 4] (k2 q)
theorem S_X3_wroteAlike_54 {G : am_G} {d : Nat} {Q : Int → am_D → Prop} {σ : am_D}   (k : Q 0 σ) : am_X (am_FI G (d + 1) Q) mX3_wroteAlike (0, 0) 54 [none, none, none, none, none] [] (am_K0, σ) := by
  refine am_r_iconst (nx := 55) (show decode cX3_wroteAlike 54 = .ok (.iconst 0, 1) by decide +kernel) rfl ?_
  exact am_r_iret rfl rfl (show decode cX3_wroteAlike 55 = .ok (.ireturn, 1) by decide +kernel) ⟨_, _, rfl, rfl, k⟩
theorem S_X3_wroteAlike_56 {G : am_G} {d : Nat} {Q : Int → am_D → Prop} {σ : am_D} {v2 : Int} {v3 : Int} {v4 : Int} {v0 : Nat} {Q' : Int → am_D → Prop} {v1 : Option Nat} (hc1 : am_isR v0) (hc : am_MI G d mX10_at [am_r (some (v0 + 3)), am_i v2] σ Q') (k : ∀ (x : Int) (σ' : am_D), Q' x σ' → am_X (am_FI G (d + 1) Q) mX3_wroteAlike (0, 0) 65 [some (am_r (some v0)), some (am_r v1), some (am_i x), some (am_i v3), some (am_i v4)] [] (am_K0, σ')) : am_X (am_FI G (d + 1) Q) mX3_wroteAlike (0, 0) 56 [some (am_r (some v0)), some (am_r v1), some (am_i v2), some (am_i v3), some (am_i v4)] [] (am_K0, σ) := by
  refine am_r_aload_n (nx := 57) rfl rfl (show decode cX3_wroteAlike 56 = .ok (.aload_n 0, 1) by decide +kernel) rfl ?_
  refine am_r_getF (nx := 60) 2 cw3 (by decide) rfl (Or.inl fl_X3_24) (obR hc1) (fnR2 hc1) (show decode cX3_wroteAlike 57 = .ok (.getfield 24, 3) by decide +kernel) rfl ?_
  refine am_r_iload_n (nx := 61) rfl rfl (show decode cX3_wroteAlike 60 = .ok (.iload_n 2, 1) by decide +kernel) rfl ?_
  refine am_r_callS (as := [am_r (some (v0 + 3)), am_i v2]) (st := []) hc mb_X10_at mv_X10_at (Or.inr ⟨_, ml_X3_39⟩) rfl rfl (Nat.le_of_ble_eq_true rfl) ⟨Nat.le_refl _, Nat.le_refl _⟩ ⟨Nat.le_refl _, Nat.le_refl _⟩ (show decode cX3_wroteAlike 61 = .ok (.invokestatic 39, 3) by decide +kernel) ?_
  rintro _ _ ⟨x, σ', rfl, rfl, hq⟩ _
  refine am_r_istore_n (nx := 65) rfl (by decide) rfl (show decode cX3_wroteAlike 64 = .ok (.istore_n 2, 1) by decide +kernel) rfl ?_
  exact (k x σ' hq)
theorem S_X3_wroteAlike_65 {G : am_G} {d : Nat} {Q : Int → am_D → Prop} {σ : am_D} {v2 : Int} {v3 : Int} {v4 : Int} {v1 : Nat} {Q' : Int → am_D → Prop} {v0 : Option Nat} (hc1 : am_isR v1) (hc : am_MI G d mX10_at [am_r (some (v1 + 3)), am_i v3] σ Q') (k : ∀ (x : Int) (σ' : am_D), Q' x σ' → am_X (am_FI G (d + 1) Q) mX3_wroteAlike (0, 0) 74 [some (am_r v0), some (am_r (some v1)), some (am_i v2), some (am_i x), some (am_i v4)] [] (am_K0, σ')) : am_X (am_FI G (d + 1) Q) mX3_wroteAlike (0, 0) 65 [some (am_r v0), some (am_r (some v1)), some (am_i v2), some (am_i v3), some (am_i v4)] [] (am_K0, σ) := by
  refine am_r_aload_n (nx := 66) rfl rfl (show decode cX3_wroteAlike 65 = .ok (.aload_n 1, 1) by decide +kernel) rfl ?_
  refine am_r_getF (nx := 69) 2 cw3 (by decide) rfl (Or.inl fl_X3_24) (obR hc1) (fnR2 hc1) (show decode cX3_wroteAlike 66 = .ok (.getfield 24, 3) by decide +kernel) rfl ?_
  refine am_r_iload_n (nx := 70) rfl rfl (show decode cX3_wroteAlike 69 = .ok (.iload_n 3, 1) by decide +kernel) rfl ?_
  refine am_r_callS (as := [am_r (some (v1 + 3)), am_i v3]) (st := []) hc mb_X10_at mv_X10_at (Or.inr ⟨_, ml_X3_39⟩) rfl rfl (Nat.le_of_ble_eq_true rfl) ⟨Nat.le_refl _, Nat.le_refl _⟩ ⟨Nat.le_refl _, Nat.le_refl _⟩ (show decode cX3_wroteAlike 70 = .ok (.invokestatic 39, 3) by decide +kernel) ?_
  rintro _ _ ⟨x, σ', rfl, rfl, hq⟩ _
  refine am_r_istore_n (nx := 74) rfl (by decide) rfl (show decode cX3_wroteAlike 73 = .ok (.istore_n 3, 1) by decide +kernel) rfl ?_
  exact (k x σ' hq)
theorem S_X3_wroteAlike_74 {G : am_G} {d : Nat} {Q : Int → am_D → Prop} {σ : am_D} {v2 : Int} {v3 : Int} {v4 : Int} {v0 : Option Nat} {v1 : Option Nat}  (k : am_X (am_FI G (d + 1) Q) mX3_wroteAlike (0, 0) 26 [some (am_r v0), some (am_r v1), some (am_i v2), some (am_i v3), some (am_i (v4 + 1))] [] (am_K0, σ)) : am_X (am_FI G (d + 1) Q) mX3_wroteAlike (0, 0) 74 [some (am_r v0), some (am_r v1), some (am_i v2), some (am_i v3), some (am_i v4)] [] (am_K0, σ) := by
  refine am_r_iinc (nx := 77) rfl rfl (show decode cX3_wroteAlike 74 = .ok (.iinc 4 1, 3) by decide +kernel) rfl ?_
  refine am_r_goto (tg := 26) (show decode cX3_wroteAlike 77 = .ok (.goto (-51), 3) by decide +kernel) (by decide) ?_
  exact k
theorem S_X3_wroteAlike_80 {G : am_G} {d : Nat} {Q : Int → am_D → Prop} {σ : am_D}   (k : Q 1 σ) : am_X (am_FI G (d + 1) Q) mX3_wroteAlike (0, 0) 80 [none, none, none, none, none] [] (am_K0, σ) := by
  refine am_r_iconst (nx := 81) (show decode cX3_wroteAlike 80 = .ok (.iconst 1, 1) by decide +kernel) rfl ?_
  exact am_r_iret rfl rfl (show decode cX3_wroteAlike 81 = .ok (.ireturn, 1) by decide +kernel) ⟨_, _, rfl, rfl, k⟩
theorem S_X3_layingWith_0 {G : am_G} {d : Nat} {Q : Int → am_D → Prop} {σ : am_D} {v1 : Int} {v0 : Option Nat} (hr1 : -2147483648 ≤ v1 ∧ v1 ≤ 2147483647) (k1 : v1 < (-1) → am_X (am_FI G (d + 1) Q) mX3_layingWith (0, 0) 14 [none, none, none, none] [] (am_K0, σ)) (k2 : ¬ (v1 < (-1)) → am_X (am_FI G (d + 1) Q) mX3_layingWith (0, 0) 5 [some (am_r v0), some (am_i v1), none, none] [] (am_K0, σ)) : am_X (am_FI G (d + 1) Q) mX3_layingWith (0, 0) 0 [some (am_r v0), some (am_i v1), none, none] [] (am_K0, σ) := by
  refine am_r_iload_n (nx := 1) rfl rfl (show decode cX3_layingWith 0 = .ok (.iload_n 1, 1) by decide +kernel) rfl ?_
  refine am_r_iconst (nx := 2) (show decode cX3_layingWith 1 = .ok (.iconst (-1), 1) by decide +kernel) rfl ?_
  refine am_r_icmp_lt (tg := 14) (nx := 5) (show decode cX3_layingWith 2 = .ok (.if_icmp .lt 12, 3) by decide +kernel) (by decide) rfl hr1 (by omega) ?_ ?_
  · exact fun q => am_x_fg [0, 1] (k1 q)
  · exact fun q => k2 q
theorem S_X3_layingWith_5 {G : am_G} {d : Nat} {Q : Int → am_D → Prop} {σ : am_D} {v1 : Int} {v0 : Nat} {Q' : Int → am_D → Prop} (hc : am_MI G d mX3_now [am_r (some v0), am_i 1] σ Q') (hc1 : am_isR v0) (k : ∀ (x : Int) (σ' : am_D), Q' x σ' → am_X (am_FI G (d + 1) Q) mX3_layingWith (0, 0) 11 [some (am_r (some v0)), some (am_i v1), none, none] [am_i x, am_i v1] (am_K0, σ')) : am_X (am_FI G (d + 1) Q) mX3_layingWith (0, 0) 5 [some (am_r (some v0)), some (am_i v1), none, none] [] (am_K0, σ) := by
  refine am_r_iload_n (nx := 6) rfl rfl (show decode cX3_layingWith 5 = .ok (.iload_n 1, 1) by decide +kernel) rfl ?_
  refine am_r_aload_n (nx := 7) rfl rfl (show decode cX3_layingWith 6 = .ok (.aload_n 0, 1) by decide +kernel) rfl ?_
  refine am_r_iconst (nx := 8) (show decode cX3_layingWith 7 = .ok (.iconst 1, 1) by decide +kernel) rfl ?_
  refine am_r_callV (as := [am_i 1]) (st := [am_i v1]) hc mb_X3_now mv_X3_now (Or.inl ml_X3_43) (obR hc1) (by omega) (r := (RX3, TX3, 9)) rfl rfl rfl rfl (Nat.le_of_ble_eq_true rfl) ⟨Nat.le_refl _, Nat.le_refl _⟩ ⟨Nat.le_refl _, Nat.le_refl _⟩ (show decode cX3_layingWith 8 = .ok (.invokevirtual 43, 3) by decide +kernel) ?_
  rintro _ _ ⟨x, σ', rfl, rfl, hq⟩ _
  exact (k x σ' hq)
theorem S_X3_layingWith_11 {G : am_G} {d : Nat} {Q : Int → am_D → Prop} {σ : am_D} {v1 : Int} {s0 : Int} {s1 : Int} {v0 : Option Nat} (hr1 : -2147483648 ≤ s0 ∧ s0 ≤ 2147483647) (hr2 : -2147483648 ≤ s1 ∧ s1 ≤ 2147483647) (k1 : s0 < s1 → am_X (am_FI G (d + 1) Q) mX3_layingWith (0, 0) 16 [some (am_r v0), some (am_i v1), none, none] [] (am_K0, σ)) (k2 : ¬ (s0 < s1) → am_X (am_FI G (d + 1) Q) mX3_layingWith (0, 0) 14 [none, none, none, none] [] (am_K0, σ)) : am_X (am_FI G (d + 1) Q) mX3_layingWith (0, 0) 11 [some (am_r v0), some (am_i v1), none, none] [am_i s1, am_i s0] (am_K0, σ) := by
  refine am_r_icmp_lt (tg := 16) (nx := 14) (show decode cX3_layingWith 11 = .ok (.if_icmp .lt 5, 3) by decide +kernel) (by decide) rfl hr1 hr2 ?_ ?_
  · exact fun q => k1 q
  · exact fun q => am_x_fg [0, 1] (k2 q)
theorem S_X3_layingWith_14 {G : am_G} {d : Nat} {Q : Int → am_D → Prop} {σ : am_D}   (k : Q (-1) σ) : am_X (am_FI G (d + 1) Q) mX3_layingWith (0, 0) 14 [none, none, none, none] [] (am_K0, σ) := by
  refine am_r_iconst (nx := 15) (show decode cX3_layingWith 14 = .ok (.iconst (-1), 1) by decide +kernel) rfl ?_
  exact am_r_iret rfl rfl (show decode cX3_layingWith 15 = .ok (.ireturn, 1) by decide +kernel) ⟨_, _, rfl, rfl, k⟩
theorem S_X3_layingWith_16 {G : am_G} {d : Nat} {Q : Int → am_D → Prop} {σ : am_D} {v1 : Int} {v0 : Nat} (hc1 : am_isR v0) (k : am_X (am_FI G (d + 1) Q) mX3_layingWith (0, 0) 24 [some (am_r (some v0)), some (am_i v1), some (am_i ((σ.1 v0 5) * 16)), none] [] (am_K0, σ)) : am_X (am_FI G (d + 1) Q) mX3_layingWith (0, 0) 16 [some (am_r (some v0)), some (am_i v1), none, none] [] (am_K0, σ) := by
  refine am_r_aload_n (nx := 17) rfl rfl (show decode cX3_layingWith 16 = .ok (.aload_n 0, 1) by decide +kernel) rfl ?_
  refine am_r_getI (nx := 20) 5 cw3 (by decide) rfl (Or.inl fl_X3_31) (obR hc1) (show decode cX3_layingWith 17 = .ok (.getfield 31, 3) by decide +kernel) rfl ?_
  refine am_r_bipush (nx := 22) rfl (show decode cX3_layingWith 20 = .ok (.bipush 16, 2) by decide +kernel) rfl ?_
  refine am_r_imul (nx := 23) (show decode cX3_layingWith 22 = .ok (.imul, 1) by decide +kernel) rfl ?_
  refine am_r_istore_n (nx := 24) rfl (by decide) rfl (show decode cX3_layingWith 23 = .ok (.istore_n 2, 1) by decide +kernel) rfl ?_
  exact k
theorem S_X3_layingWith_24 {G : am_G} {d : Nat} {Q : Int → am_D → Prop} {σ : am_D} {v1 : Int} {v2 : Int} {v0 : Option Nat}  (k : am_X (am_FI G (d + 1) Q) mX3_layingWith (0, 0) 26 [some (am_r v0), some (am_i v1), some (am_i v2), some (am_i 0)] [] (am_K0, σ)) : am_X (am_FI G (d + 1) Q) mX3_layingWith (0, 0) 24 [some (am_r v0), some (am_i v1), some (am_i v2), none] [] (am_K0, σ) := by
  refine am_r_iconst (nx := 25) (show decode cX3_layingWith 24 = .ok (.iconst 0, 1) by decide +kernel) rfl ?_
  refine am_r_istore_n (nx := 26) rfl (by decide) rfl (show decode cX3_layingWith 25 = .ok (.istore_n 3, 1) by decide +kernel) rfl ?_
  exact k
theorem S_X3_layingWith_26 {G : am_G} {d : Nat} {Q : Int → am_D → Prop} {σ : am_D} {v1 : Int} {v2 : Int} {v3 : Int} {v0 : Option Nat} (hr1 : -2147483648 ≤ v3 ∧ v3 ≤ 2147483647) (hr2 : -2147483648 ≤ v1 ∧ v1 ≤ 2147483647) (k1 : v1 < v3 → am_X (am_FI G (d + 1) Q) mX3_layingWith (0, 0) 48 [none, none, some (am_i v2), none] [] (am_K0, σ)) (k2 : ¬ (v1 < v3) → am_X (am_FI G (d + 1) Q) mX3_layingWith (0, 0) 31 [some (am_r v0), some (am_i v1), some (am_i v2), some (am_i v3)] [] (am_K0, σ)) : am_X (am_FI G (d + 1) Q) mX3_layingWith (0, 0) 26 [some (am_r v0), some (am_i v1), some (am_i v2), some (am_i v3)] [] (am_K0, σ) := by
  refine am_r_iload_n (nx := 27) rfl rfl (show decode cX3_layingWith 26 = .ok (.iload_n 3, 1) by decide +kernel) rfl ?_
  refine am_r_iload_n (nx := 28) rfl rfl (show decode cX3_layingWith 27 = .ok (.iload_n 1, 1) by decide +kernel) rfl ?_
  refine am_r_icmp_gt (tg := 48) (nx := 31) (show decode cX3_layingWith 28 = .ok (.if_icmp .gt 20, 3) by decide +kernel) (by decide) rfl hr1 hr2 ?_ ?_
  · exact fun q => am_x_fg [0, 1, 3] (k1 q)
  · exact fun q => k2 q
theorem S_X3_layingWith_31 {G : am_G} {d : Nat} {Q : Int → am_D → Prop} {σ : am_D} {v1 : Int} {v2 : Int} {v3 : Int} {v0 : Nat} {Q' : Int → am_D → Prop} (hc1 : am_isR v0) (hc : am_MI G d mX10_at [am_r (some (v0 + 1)), am_i (v2 + 4)] σ Q') (k : ∀ (x : Int) (σ' : am_D), Q' x σ' → am_X (am_FI G (d + 1) Q) mX3_layingWith (0, 0) 42 [some (am_r (some v0)), some (am_i v1), some (am_i x), some (am_i v3)] [] (am_K0, σ')) : am_X (am_FI G (d + 1) Q) mX3_layingWith (0, 0) 31 [some (am_r (some v0)), some (am_i v1), some (am_i v2), some (am_i v3)] [] (am_K0, σ) := by
  refine am_r_aload_n (nx := 32) rfl rfl (show decode cX3_layingWith 31 = .ok (.aload_n 0, 1) by decide +kernel) rfl ?_
  refine am_r_getF (nx := 35) 0 cw3 (by decide) rfl (Or.inl fl_X3_17) (obR hc1) (fnR0 hc1) (show decode cX3_layingWith 32 = .ok (.getfield 17, 3) by decide +kernel) rfl ?_
  refine am_r_iload_n (nx := 36) rfl rfl (show decode cX3_layingWith 35 = .ok (.iload_n 2, 1) by decide +kernel) rfl ?_
  refine am_r_iconst (nx := 37) (show decode cX3_layingWith 36 = .ok (.iconst 4, 1) by decide +kernel) rfl ?_
  refine am_r_iadd (nx := 38) (show decode cX3_layingWith 37 = .ok (.iadd, 1) by decide +kernel) rfl ?_
  refine am_r_callS (as := [am_r (some (v0 + 1)), am_i (v2 + 4)]) (st := []) hc mb_X10_at mv_X10_at (Or.inr ⟨_, ml_X3_39⟩) rfl rfl (Nat.le_of_ble_eq_true rfl) ⟨Nat.le_refl _, Nat.le_refl _⟩ ⟨Nat.le_refl _, Nat.le_refl _⟩ (show decode cX3_layingWith 38 = .ok (.invokestatic 39, 3) by decide +kernel) ?_
  rintro _ _ ⟨x, σ', rfl, rfl, hq⟩ _
  refine am_r_istore_n (nx := 42) rfl (by decide) rfl (show decode cX3_layingWith 41 = .ok (.istore_n 2, 1) by decide +kernel) rfl ?_
  exact (k x σ' hq)
theorem S_X3_layingWith_42 {G : am_G} {d : Nat} {Q : Int → am_D → Prop} {σ : am_D} {v1 : Int} {v2 : Int} {v3 : Int} {v0 : Option Nat}  (k : am_X (am_FI G (d + 1) Q) mX3_layingWith (0, 0) 26 [some (am_r v0), some (am_i v1), some (am_i v2), some (am_i (v3 + 1))] [] (am_K0, σ)) : am_X (am_FI G (d + 1) Q) mX3_layingWith (0, 0) 42 [some (am_r v0), some (am_i v1), some (am_i v2), some (am_i v3)] [] (am_K0, σ) := by
  refine am_r_iinc (nx := 45) rfl rfl (show decode cX3_layingWith 42 = .ok (.iinc 3 1, 3) by decide +kernel) rfl ?_
  refine am_r_goto (tg := 26) (show decode cX3_layingWith 45 = .ok (.goto (-19), 3) by decide +kernel) (by decide) ?_
  exact k
theorem S_X3_layingWith_48 {G : am_G} {d : Nat} {Q : Int → am_D → Prop} {σ : am_D} {v2 : Int}  (k : Q v2 σ) : am_X (am_FI G (d + 1) Q) mX3_layingWith (0, 0) 48 [none, none, some (am_i v2), none] [] (am_K0, σ) := by
  refine am_r_iload_n (nx := 49) rfl rfl (show decode cX3_layingWith 48 = .ok (.iload_n 2, 1) by decide +kernel) rfl ?_
  exact am_r_iret rfl rfl (show decode cX3_layingWith 49 = .ok (.ireturn, 1) by decide +kernel) ⟨_, _, rfl, rfl, k⟩
theorem S_X3_sizeOf_0 {G : am_G} {d : Nat} {Q : Int → am_D → Prop} {σ : am_D} {v1 : Int} {v2 : Int} {v0 : Nat} {Q' : Int → am_D → Prop} (hc1 : am_isR v0) (hc : am_MI G d mX10_at [am_r (some (v0 + 1)), am_i (((v1 + 7) + (3 * v2)) + 2)] σ Q') (k : ∀ (x : Int) (σ' : am_D), Q' x σ' → Q x σ') : am_X (am_FI G (d + 1) Q) mX3_sizeOf (0, 0) 0 [some (am_r (some v0)), some (am_i v1), some (am_i v2)] [] (am_K0, σ) := by
  refine am_r_aload_n (nx := 1) rfl rfl (show decode cX3_sizeOf 0 = .ok (.aload_n 0, 1) by decide +kernel) rfl ?_
  refine am_r_getF (nx := 4) 0 cw3 (by decide) rfl (Or.inl fl_X3_17) (obR hc1) (fnR0 hc1) (show decode cX3_sizeOf 1 = .ok (.getfield 17, 3) by decide +kernel) rfl ?_
  refine am_r_iload_n (nx := 5) rfl rfl (show decode cX3_sizeOf 4 = .ok (.iload_n 1, 1) by decide +kernel) rfl ?_
  refine am_r_bipush (nx := 7) rfl (show decode cX3_sizeOf 5 = .ok (.bipush 7, 2) by decide +kernel) rfl ?_
  refine am_r_iadd (nx := 8) (show decode cX3_sizeOf 7 = .ok (.iadd, 1) by decide +kernel) rfl ?_
  refine am_r_iconst (nx := 9) (show decode cX3_sizeOf 8 = .ok (.iconst 3, 1) by decide +kernel) rfl ?_
  refine am_r_iload_n (nx := 10) rfl rfl (show decode cX3_sizeOf 9 = .ok (.iload_n 2, 1) by decide +kernel) rfl ?_
  refine am_r_imul (nx := 11) (show decode cX3_sizeOf 10 = .ok (.imul, 1) by decide +kernel) rfl ?_
  refine am_r_iadd (nx := 12) (show decode cX3_sizeOf 11 = .ok (.iadd, 1) by decide +kernel) rfl ?_
  refine am_r_iconst (nx := 13) (show decode cX3_sizeOf 12 = .ok (.iconst 2, 1) by decide +kernel) rfl ?_
  refine am_r_iadd (nx := 14) (show decode cX3_sizeOf 13 = .ok (.iadd, 1) by decide +kernel) rfl ?_
  refine am_r_callS (as := [am_r (some (v0 + 1)), am_i (((v1 + 7) + (3 * v2)) + 2)]) (st := []) hc mb_X10_at mv_X10_at (Or.inr ⟨_, ml_X3_39⟩) rfl rfl (Nat.le_of_ble_eq_true rfl) ⟨Nat.le_refl _, Nat.le_refl _⟩ ⟨Nat.le_refl _, Nat.le_refl _⟩ (show decode cX3_sizeOf 14 = .ok (.invokestatic 39, 3) by decide +kernel) ?_
  rintro _ _ ⟨x, σ', rfl, rfl, hq⟩ _
  exact am_r_iret rfl rfl (show decode cX3_sizeOf 17 = .ok (.ireturn, 1) by decide +kernel) ⟨_, _, rfl, rfl, (k x σ' hq)⟩
theorem S_X3_signOf_0 {G : am_G} {d : Nat} {Q : Int → am_D → Prop} {σ : am_D} {v1 : Int} {v2 : Int} {v3 : Int} {v0 : Option Nat} (hr1 : -2147483648 ≤ v3 ∧ v3 ≤ 2147483647) (k1 : v3 < 0 → am_X (am_FI G (d + 1) Q) mX3_signOf (0, 0) 14 [none, none, none, none, none, none] [] (am_K0, σ)) (k2 : ¬ (v3 < 0) → am_X (am_FI G (d + 1) Q) mX3_signOf (0, 0) 4 [some (am_r v0), some (am_i v1), some (am_i v2), some (am_i v3), none, none] [] (am_K0, σ)) : am_X (am_FI G (d + 1) Q) mX3_signOf (0, 0) 0 [some (am_r v0), some (am_i v1), some (am_i v2), some (am_i v3), none, none] [] (am_K0, σ) := by
  refine am_r_iload_n (nx := 1) rfl rfl (show decode cX3_signOf 0 = .ok (.iload_n 3, 1) by decide +kernel) rfl ?_
  refine am_r_if_lt (tg := 14) (nx := 4) (show decode cX3_signOf 1 = .ok (.ifCond .lt 13, 3) by decide +kernel) (by decide) rfl hr1 ?_ ?_
  · exact fun q => am_x_fg [0, 1, 2, 3] (k1 q)
  · exact fun q => k2 q
theorem S_X3_signOf_4 {G : am_G} {d : Nat} {Q : Int → am_D → Prop} {σ : am_D} {v1 : Int} {v2 : Int} {v3 : Int} {v0 : Nat} {Q' : Int → am_D → Prop} (hc : am_MI G d mX3_sizeOf [am_r (some v0), am_i v1, am_i v2] σ Q') (hc1 : am_isR v0) (k : ∀ (x : Int) (σ' : am_D), Q' x σ' → am_X (am_FI G (d + 1) Q) mX3_signOf (0, 0) 11 [some (am_r (some v0)), some (am_i v1), some (am_i v2), some (am_i v3), none, none] [am_i x, am_i v3] (am_K0, σ')) : am_X (am_FI G (d + 1) Q) mX3_signOf (0, 0) 4 [some (am_r (some v0)), some (am_i v1), some (am_i v2), some (am_i v3), none, none] [] (am_K0, σ) := by
  refine am_r_iload_n (nx := 5) rfl rfl (show decode cX3_signOf 4 = .ok (.iload_n 3, 1) by decide +kernel) rfl ?_
  refine am_r_aload_n (nx := 6) rfl rfl (show decode cX3_signOf 5 = .ok (.aload_n 0, 1) by decide +kernel) rfl ?_
  refine am_r_iload_n (nx := 7) rfl rfl (show decode cX3_signOf 6 = .ok (.iload_n 1, 1) by decide +kernel) rfl ?_
  refine am_r_iload_n (nx := 8) rfl rfl (show decode cX3_signOf 7 = .ok (.iload_n 2, 1) by decide +kernel) rfl ?_
  refine am_r_callV (as := [am_i v1, am_i v2]) (st := [am_i v3]) hc mb_X3_sizeOf mv_X3_sizeOf (Or.inl ml_X3_109) (obR hc1) (by omega) (r := (RX3, TX3, 9)) rfl rfl rfl rfl (Nat.le_of_ble_eq_true rfl) ⟨Nat.le_refl _, Nat.le_refl _⟩ ⟨Nat.le_refl _, Nat.le_refl _⟩ (show decode cX3_signOf 8 = .ok (.invokevirtual 109, 3) by decide +kernel) ?_
  rintro _ _ ⟨x, σ', rfl, rfl, hq⟩ _
  exact (k x σ' hq)
theorem S_X3_signOf_11 {G : am_G} {d : Nat} {Q : Int → am_D → Prop} {σ : am_D} {v1 : Int} {v2 : Int} {v3 : Int} {s0 : Int} {s1 : Int} {v0 : Option Nat} (hr1 : -2147483648 ≤ s0 ∧ s0 ≤ 2147483647) (hr2 : -2147483648 ≤ s1 ∧ s1 ≤ 2147483647) (k1 : s0 < s1 → am_X (am_FI G (d + 1) Q) mX3_signOf (0, 0) 16 [some (am_r v0), some (am_i v1), some (am_i v2), some (am_i v3), none, none] [] (am_K0, σ)) (k2 : ¬ (s0 < s1) → am_X (am_FI G (d + 1) Q) mX3_signOf (0, 0) 14 [none, none, none, none, none, none] [] (am_K0, σ)) : am_X (am_FI G (d + 1) Q) mX3_signOf (0, 0) 11 [some (am_r v0), some (am_i v1), some (am_i v2), some (am_i v3), none, none] [am_i s1, am_i s0] (am_K0, σ) := by
  refine am_r_icmp_lt (tg := 16) (nx := 14) (show decode cX3_signOf 11 = .ok (.if_icmp .lt 5, 3) by decide +kernel) (by decide) rfl hr1 hr2 ?_ ?_
  · exact fun q => k1 q
  · exact fun q => am_x_fg [0, 1, 2, 3] (k2 q)
theorem S_X3_signOf_14 {G : am_G} {d : Nat} {Q : Int → am_D → Prop} {σ : am_D}   (k : Q (-1) σ) : am_X (am_FI G (d + 1) Q) mX3_signOf (0, 0) 14 [none, none, none, none, none, none] [] (am_K0, σ) := by
  refine am_r_iconst (nx := 15) (show decode cX3_signOf 14 = .ok (.iconst (-1), 1) by decide +kernel) rfl ?_
  exact am_r_iret rfl rfl (show decode cX3_signOf 15 = .ok (.ireturn, 1) by decide +kernel) ⟨_, _, rfl, rfl, k⟩
theorem S_X3_signOf_16 {G : am_G} {d : Nat} {Q : Int → am_D → Prop} {σ : am_D} {v1 : Int} {v2 : Int} {v3 : Int} {v0 : Nat} {Q' : Int → am_D → Prop} (hc1 : am_isR v0) (hc : am_MI G d mX10_at [am_r (some (v0 + 1)), am_i ((v1 + 7) + (3 * v2))] σ Q') (k : ∀ (x : Int) (σ' : am_D), Q' x σ' → am_X (am_FI G (d + 1) Q) mX3_signOf (0, 0) 33 [some (am_r (some v0)), none, none, some (am_i v3), some (am_i x), none] [] (am_K0, σ')) : am_X (am_FI G (d + 1) Q) mX3_signOf (0, 0) 16 [some (am_r (some v0)), some (am_i v1), some (am_i v2), some (am_i v3), none, none] [] (am_K0, σ) := by
  refine am_r_aload_n (nx := 17) rfl rfl (show decode cX3_signOf 16 = .ok (.aload_n 0, 1) by decide +kernel) rfl ?_
  refine am_r_getF (nx := 20) 0 cw3 (by decide) rfl (Or.inl fl_X3_17) (obR hc1) (fnR0 hc1) (show decode cX3_signOf 17 = .ok (.getfield 17, 3) by decide +kernel) rfl ?_
  refine am_r_iload_n (nx := 21) rfl rfl (show decode cX3_signOf 20 = .ok (.iload_n 1, 1) by decide +kernel) rfl ?_
  refine am_r_bipush (nx := 23) rfl (show decode cX3_signOf 21 = .ok (.bipush 7, 2) by decide +kernel) rfl ?_
  refine am_r_iadd (nx := 24) (show decode cX3_signOf 23 = .ok (.iadd, 1) by decide +kernel) rfl ?_
  refine am_r_iconst (nx := 25) (show decode cX3_signOf 24 = .ok (.iconst 3, 1) by decide +kernel) rfl ?_
  refine am_r_iload_n (nx := 26) rfl rfl (show decode cX3_signOf 25 = .ok (.iload_n 2, 1) by decide +kernel) rfl ?_
  refine am_r_imul (nx := 27) (show decode cX3_signOf 26 = .ok (.imul, 1) by decide +kernel) rfl ?_
  refine am_r_iadd (nx := 28) (show decode cX3_signOf 27 = .ok (.iadd, 1) by decide +kernel) rfl ?_
  refine am_r_callS (as := [am_r (some (v0 + 1)), am_i ((v1 + 7) + (3 * v2))]) (st := []) hc mb_X10_at mv_X10_at (Or.inr ⟨_, ml_X3_39⟩) rfl rfl (Nat.le_of_ble_eq_true rfl) ⟨Nat.le_refl _, Nat.le_refl _⟩ ⟨Nat.le_refl _, Nat.le_refl _⟩ (show decode cX3_signOf 28 = .ok (.invokestatic 39, 3) by decide +kernel) ?_
  rintro _ _ ⟨x, σ', rfl, rfl, hq⟩ _
  refine am_r_istore (nx := 33) (by decide) rfl (show decode cX3_signOf 31 = .ok (.istore 4, 2) by decide +kernel) rfl ?_
  exact am_x_fg [1, 2] (k x σ' hq)
theorem S_X3_signOf_33 {G : am_G} {d : Nat} {Q : Int → am_D → Prop} {σ : am_D} {v3 : Int} {v4 : Int} {v0 : Option Nat}  (k : am_X (am_FI G (d + 1) Q) mX3_signOf (0, 0) 36 [some (am_r v0), none, none, some (am_i v3), some (am_i v4), some (am_i 0)] [] (am_K0, σ)) : am_X (am_FI G (d + 1) Q) mX3_signOf (0, 0) 33 [some (am_r v0), none, none, some (am_i v3), some (am_i v4), none] [] (am_K0, σ) := by
  refine am_r_iconst (nx := 34) (show decode cX3_signOf 33 = .ok (.iconst 0, 1) by decide +kernel) rfl ?_
  refine am_r_istore (nx := 36) (by decide) rfl (show decode cX3_signOf 34 = .ok (.istore 5, 2) by decide +kernel) rfl ?_
  exact k
theorem S_X3_signOf_36 {G : am_G} {d : Nat} {Q : Int → am_D → Prop} {σ : am_D} {v3 : Int} {v4 : Int} {v5 : Int} {v0 : Option Nat} (hr1 : -2147483648 ≤ v5 ∧ v5 ≤ 2147483647) (hr2 : -2147483648 ≤ v3 ∧ v3 ≤ 2147483647) (k1 : v3 ≤ v5 → am_X (am_FI G (d + 1) Q) mX3_signOf (0, 0) 59 [some (am_r v0), none, none, none, some (am_i v4), none] [] (am_K0, σ)) (k2 : ¬ (v3 ≤ v5) → am_X (am_FI G (d + 1) Q) mX3_signOf (0, 0) 42 [some (am_r v0), none, none, some (am_i v3), some (am_i v4), some (am_i v5)] [] (am_K0, σ)) : am_X (am_FI G (d + 1) Q) mX3_signOf (0, 0) 36 [some (am_r v0), none, none, some (am_i v3), some (am_i v4), some (am_i v5)] [] (am_K0, σ) := by
  refine am_r_iload (nx := 38) rfl (show decode cX3_signOf 36 = .ok (.iload 5, 2) by decide +kernel) rfl ?_
  refine am_r_iload_n (nx := 39) rfl rfl (show decode cX3_signOf 38 = .ok (.iload_n 3, 1) by decide +kernel) rfl ?_
  refine am_r_icmp_ge (tg := 59) (nx := 42) (show decode cX3_signOf 39 = .ok (.if_icmp .ge 20, 3) by decide +kernel) (by decide) rfl hr1 hr2 ?_ ?_
  · exact fun q => am_x_fg [3, 5] (k1 q)
  · exact fun q => k2 q
theorem S_X3_signOf_42 {G : am_G} {d : Nat} {Q : Int → am_D → Prop} {σ : am_D} {v3 : Int} {v4 : Int} {v5 : Int} {v0 : Nat} {Q' : Int → am_D → Prop} (hc1 : am_isR v0) (hc : am_MI G d mX10_at [am_r (some (v0 + 3)), am_i v4] σ Q') (k : ∀ (x : Int) (σ' : am_D), Q' x σ' → am_X (am_FI G (d + 1) Q) mX3_signOf (0, 0) 53 [some (am_r (some v0)), none, none, some (am_i v3), some (am_i x), some (am_i v5)] [] (am_K0, σ')) : am_X (am_FI G (d + 1) Q) mX3_signOf (0, 0) 42 [some (am_r (some v0)), none, none, some (am_i v3), some (am_i v4), some (am_i v5)] [] (am_K0, σ) := by
  refine am_r_aload_n (nx := 43) rfl rfl (show decode cX3_signOf 42 = .ok (.aload_n 0, 1) by decide +kernel) rfl ?_
  refine am_r_getF (nx := 46) 2 cw3 (by decide) rfl (Or.inl fl_X3_24) (obR hc1) (fnR2 hc1) (show decode cX3_signOf 43 = .ok (.getfield 24, 3) by decide +kernel) rfl ?_
  refine am_r_iload (nx := 48) rfl (show decode cX3_signOf 46 = .ok (.iload 4, 2) by decide +kernel) rfl ?_
  refine am_r_callS (as := [am_r (some (v0 + 3)), am_i v4]) (st := []) hc mb_X10_at mv_X10_at (Or.inr ⟨_, ml_X3_39⟩) rfl rfl (Nat.le_of_ble_eq_true rfl) ⟨Nat.le_refl _, Nat.le_refl _⟩ ⟨Nat.le_refl _, Nat.le_refl _⟩ (show decode cX3_signOf 48 = .ok (.invokestatic 39, 3) by decide +kernel) ?_
  rintro _ _ ⟨x, σ', rfl, rfl, hq⟩ _
  refine am_r_istore (nx := 53) (by decide) rfl (show decode cX3_signOf 51 = .ok (.istore 4, 2) by decide +kernel) rfl ?_
  exact (k x σ' hq)
theorem S_X3_signOf_53 {G : am_G} {d : Nat} {Q : Int → am_D → Prop} {σ : am_D} {v3 : Int} {v4 : Int} {v5 : Int} {v0 : Option Nat}  (k : am_X (am_FI G (d + 1) Q) mX3_signOf (0, 0) 36 [some (am_r v0), none, none, some (am_i v3), some (am_i v4), some (am_i (v5 + 1))] [] (am_K0, σ)) : am_X (am_FI G (d + 1) Q) mX3_signOf (0, 0) 53 [some (am_r v0), none, none, some (am_i v3), some (am_i v4), some (am_i v5)] [] (am_K0, σ) := by
  refine am_r_iinc (nx := 56) rfl rfl (show decode cX3_signOf 53 = .ok (.iinc 5 1, 3) by decide +kernel) rfl ?_
  refine am_r_goto (tg := 36) (show decode cX3_signOf 56 = .ok (.goto (-20), 3) by decide +kernel) (by decide) ?_
  exact k
theorem S_X3_signOf_59 {G : am_G} {d : Nat} {Q : Int → am_D → Prop} {σ : am_D} {v4 : Int} {v0 : Nat} {Q' : Int → am_D → Prop} (hc1 : am_isR v0) (hc : am_MI G d mX10_at [am_r (some (v0 + 2)), am_i v4] σ Q') (k : ∀ (x : Int) (σ' : am_D), Q' x σ' → Q x σ') : am_X (am_FI G (d + 1) Q) mX3_signOf (0, 0) 59 [some (am_r (some v0)), none, none, none, some (am_i v4), none] [] (am_K0, σ) := by
  refine am_r_aload_n (nx := 60) rfl rfl (show decode cX3_signOf 59 = .ok (.aload_n 0, 1) by decide +kernel) rfl ?_
  refine am_r_getF (nx := 63) 1 cw3 (by decide) rfl (Or.inl fl_X3_21) (obR hc1) (fnR1 hc1) (show decode cX3_signOf 60 = .ok (.getfield 21, 3) by decide +kernel) rfl ?_
  refine am_r_iload (nx := 65) rfl (show decode cX3_signOf 63 = .ok (.iload 4, 2) by decide +kernel) rfl ?_
  refine am_r_callS (as := [am_r (some (v0 + 2)), am_i v4]) (st := []) hc mb_X10_at mv_X10_at (Or.inr ⟨_, ml_X3_39⟩) rfl rfl (Nat.le_of_ble_eq_true rfl) ⟨Nat.le_refl _, Nat.le_refl _⟩ ⟨Nat.le_refl _, Nat.le_refl _⟩ (show decode cX3_signOf 65 = .ok (.invokestatic 39, 3) by decide +kernel) ?_
  rintro _ _ ⟨x, σ', rfl, rfl, hq⟩ _
  exact am_r_iret rfl rfl (show decode cX3_signOf 68 = .ok (.ireturn, 1) by decide +kernel) ⟨_, _, rfl, rfl, (k x σ' hq)⟩
theorem S_X3_putTogether_0 {G : am_G} {d : Nat} {Q : am_D → Prop} {σ : am_D} {v1 : Int} {v2 : Int} {v3 : Int} {v0 : Nat} {a2 : Nat} {Q' : Int → am_D → Prop} (hc1 : am_isR v0) (ho3 : (σ.2.2 v0 4) = some a2) (hc4 : am_isM a2) (hc : am_MI G d mX10_at [am_r (some (a2 + 7)), am_i (v1 + 1)] σ Q') (k : ∀ (x : Int) (σ' : am_D), Q' x σ' → am_X (am_FV G (d + 1) Q) mX3_putTogether (0, 0) 15 [some (am_r (some v0)), some (am_i v1), some (am_i v2), some (am_i v3), some (am_i x), none, none, none] [] (am_K0, σ')) : am_X (am_FV G (d + 1) Q) mX3_putTogether (0, 0) 0 [some (am_r (some v0)), some (am_i v1), some (am_i v2), some (am_i v3), none, none, none, none] [] (am_K0, σ) := by
  refine am_r_aload_n (nx := 1) rfl rfl (show decode cX3_putTogether 0 = .ok (.aload_n 0, 1) by decide +kernel) rfl ?_
  refine am_r_getRs (nx := 4) 4 ho3 cw3 (by decide) rfl (Or.inl fl_X3_27) (obR hc1) (show decode cX3_putTogether 1 = .ok (.getfield 27, 3) by decide +kernel) rfl ?_
  refine am_r_getF (nx := 7) 13 cw2 (by decide) rfl (Or.inr ⟨_, fl_X3_112⟩) (obM hc4) (fnM13 hc4) (show decode cX3_putTogether 4 = .ok (.getfield 112, 3) by decide +kernel) rfl ?_
  refine am_r_iload_n (nx := 8) rfl rfl (show decode cX3_putTogether 7 = .ok (.iload_n 1, 1) by decide +kernel) rfl ?_
  refine am_r_iconst (nx := 9) (show decode cX3_putTogether 8 = .ok (.iconst 1, 1) by decide +kernel) rfl ?_
  refine am_r_iadd (nx := 10) (show decode cX3_putTogether 9 = .ok (.iadd, 1) by decide +kernel) rfl ?_
  refine am_r_callS (as := [am_r (some (a2 + 7)), am_i (v1 + 1)]) (st := []) hc mb_X10_at mv_X10_at (Or.inr ⟨_, ml_X3_39⟩) rfl rfl (Nat.le_of_ble_eq_true rfl) ⟨Nat.le_refl _, Nat.le_refl _⟩ ⟨Nat.le_refl _, Nat.le_refl _⟩ (show decode cX3_putTogether 10 = .ok (.invokestatic 39, 3) by decide +kernel) ?_
  rintro _ _ ⟨x, σ', rfl, rfl, hq⟩ _
  refine am_r_istore (nx := 15) (by decide) rfl (show decode cX3_putTogether 13 = .ok (.istore 4, 2) by decide +kernel) rfl ?_
  exact (k x σ' hq)
theorem S_X3_putTogether_15 {G : am_G} {d : Nat} {Q : am_D → Prop} {σ : am_D} {v1 : Int} {v2 : Int} {v3 : Int} {v4 : Int} {v0 : Nat} (hc1 : am_isR v0) (k : am_X (am_FV G (d + 1) Q) mX3_putTogether (0, 0) 20 [some (am_r (some v0)), some (am_i v1), some (am_i v2), some (am_i v3), some (am_i v4), none, none, none] [] (am_K0, (am_pI σ v0 6 (-1)))) : am_X (am_FV G (d + 1) Q) mX3_putTogether (0, 0) 15 [some (am_r (some v0)), some (am_i v1), some (am_i v2), some (am_i v3), some (am_i v4), none, none, none] [] (am_K0, σ) := by
  refine am_r_aload_n (nx := 16) rfl rfl (show decode cX3_putTogether 15 = .ok (.aload_n 0, 1) by decide +kernel) rfl ?_
  refine am_r_iconst (nx := 17) (show decode cX3_putTogether 16 = .ok (.iconst (-1), 1) by decide +kernel) rfl ?_
  refine am_r_putI (nx := 20) 6 cw3 (by decide) rfl (Or.inl fl_X3_79) (obR hc1) rfl (Or.inl rfl) (show decode cX3_putTogether 17 = .ok (.putfield 79, 3) by decide +kernel) rfl ?_
  exact k
theorem S_X3_putTogether_20 {G : am_G} {d : Nat} {Q : am_D → Prop} {σ : am_D} {v1 : Int} {v2 : Int} {v3 : Int} {v4 : Int} {v0 : Nat} (hc1 : am_isR v0) (k : am_X (am_FV G (d + 1) Q) mX3_putTogether (0, 0) 25 [some (am_r (some v0)), some (am_i v1), some (am_i v2), some (am_i v3), some (am_i v4), none, none, none] [] (am_K0, (am_pI σ v0 7 (-1)))) : am_X (am_FV G (d + 1) Q) mX3_putTogether (0, 0) 20 [some (am_r (some v0)), some (am_i v1), some (am_i v2), some (am_i v3), some (am_i v4), none, none, none] [] (am_K0, σ) := by
  refine am_r_aload_n (nx := 21) rfl rfl (show decode cX3_putTogether 20 = .ok (.aload_n 0, 1) by decide +kernel) rfl ?_
  refine am_r_iconst (nx := 22) (show decode cX3_putTogether 21 = .ok (.iconst (-1), 1) by decide +kernel) rfl ?_
  refine am_r_putI (nx := 25) 7 cw3 (by decide) rfl (Or.inl fl_X3_82) (obR hc1) rfl (Or.inl rfl) (show decode cX3_putTogether 22 = .ok (.putfield 82, 3) by decide +kernel) rfl ?_
  exact k
theorem S_X3_putTogether_25 {G : am_G} {d : Nat} {Q : am_D → Prop} {σ : am_D} {v1 : Int} {v2 : Int} {v3 : Int} {v4 : Int} {v0 : Nat} (hc1 : am_isR v0) (k : am_X (am_FV G (d + 1) Q) mX3_putTogether (0, 0) 30 [some (am_r (some v0)), some (am_i v1), some (am_i v2), some (am_i v3), some (am_i v4), none, none, none] [] (am_K0, (am_pI σ v0 8 0))) : am_X (am_FV G (d + 1) Q) mX3_putTogether (0, 0) 25 [some (am_r (some v0)), some (am_i v1), some (am_i v2), some (am_i v3), some (am_i v4), none, none, none] [] (am_K0, σ) := by
  refine am_r_aload_n (nx := 26) rfl rfl (show decode cX3_putTogether 25 = .ok (.aload_n 0, 1) by decide +kernel) rfl ?_
  refine am_r_iconst (nx := 27) (show decode cX3_putTogether 26 = .ok (.iconst 0, 1) by decide +kernel) rfl ?_
  refine am_r_putI (nx := 30) 8 cw3 (by decide) rfl (Or.inl fl_X3_85) (obR hc1) rfl (Or.inl rfl) (show decode cX3_putTogether 27 = .ok (.putfield 85, 3) by decide +kernel) rfl ?_
  exact k
theorem S_X3_putTogether_30 {G : am_G} {d : Nat} {Q : am_D → Prop} {σ : am_D} {v1 : Int} {v2 : Int} {v3 : Int} {v4 : Int} {v0 : Nat} {a2 : Nat} {Q' : Int → am_D → Prop} (hc1 : am_isR v0) (ho3 : (σ.2.2 v0 4) = some a2) (hc4 : am_isM a2) (hc : am_MI G d mX10_at [am_r (some (a2 + 7)), am_i v1] σ Q') (k : ∀ (x : Int) (σ' : am_D), Q' x σ' → am_X (am_FV G (d + 1) Q) mX3_putTogether (0, 0) 43 [some (am_r (some v0)), none, some (am_i v2), some (am_i v3), some (am_i v4), some (am_i x), none, none] [] (am_K0, σ')) : am_X (am_FV G (d + 1) Q) mX3_putTogether (0, 0) 30 [some (am_r (some v0)), some (am_i v1), some (am_i v2), some (am_i v3), some (am_i v4), none, none, none] [] (am_K0, σ) := by
  refine am_r_aload_n (nx := 31) rfl rfl (show decode cX3_putTogether 30 = .ok (.aload_n 0, 1) by decide +kernel) rfl ?_
  refine am_r_getRs (nx := 34) 4 ho3 cw3 (by decide) rfl (Or.inl fl_X3_27) (obR hc1) (show decode cX3_putTogether 31 = .ok (.getfield 27, 3) by decide +kernel) rfl ?_
  refine am_r_getF (nx := 37) 13 cw2 (by decide) rfl (Or.inr ⟨_, fl_X3_112⟩) (obM hc4) (fnM13 hc4) (show decode cX3_putTogether 34 = .ok (.getfield 112, 3) by decide +kernel) rfl ?_
  refine am_r_iload_n (nx := 38) rfl rfl (show decode cX3_putTogether 37 = .ok (.iload_n 1, 1) by decide +kernel) rfl ?_
  refine am_r_callS (as := [am_r (some (a2 + 7)), am_i v1]) (st := []) hc mb_X10_at mv_X10_at (Or.inr ⟨_, ml_X3_39⟩) rfl rfl (Nat.le_of_ble_eq_true rfl) ⟨Nat.le_refl _, Nat.le_refl _⟩ ⟨Nat.le_refl _, Nat.le_refl _⟩ (show decode cX3_putTogether 38 = .ok (.invokestatic 39, 3) by decide +kernel) ?_
  rintro _ _ ⟨x, σ', rfl, rfl, hq⟩ _
  refine am_r_istore (nx := 43) (by decide) rfl (show decode cX3_putTogether 41 = .ok (.istore 5, 2) by decide +kernel) rfl ?_
  exact am_x_fg [1] (k x σ' hq)
theorem S_X3_putTogether_43 {G : am_G} {d : Nat} {Q : am_D → Prop} {σ : am_D} {v2 : Int} {v3 : Int} {v4 : Int} {v5 : Int} {v0 : Option Nat} (hr1 : -2147483648 ≤ v5 ∧ v5 ≤ 2147483647) (hr2 : -2147483648 ≤ v4 ∧ v4 ≤ 2147483647) (k1 : v4 ≤ v5 → am_X (am_FV G (d + 1) Q) mX3_putTogether (0, 0) 197 [none, none, none, none, none, none, none, none] [] (am_K0, σ)) (k2 : ¬ (v4 ≤ v5) → am_X (am_FV G (d + 1) Q) mX3_putTogether (0, 0) 50 [some (am_r v0), none, some (am_i v2), some (am_i v3), some (am_i v4), some (am_i v5), none, none] [] (am_K0, σ)) : am_X (am_FV G (d + 1) Q) mX3_putTogether (0, 0) 43 [some (am_r v0), none, some (am_i v2), some (am_i v3), some (am_i v4), some (am_i v5), none, none] [] (am_K0, σ) := by
  refine am_r_iload (nx := 45) rfl (show decode cX3_putTogether 43 = .ok (.iload 5, 2) by decide +kernel) rfl ?_
  refine am_r_iload (nx := 47) rfl (show decode cX3_putTogether 45 = .ok (.iload 4, 2) by decide +kernel) rfl ?_
  refine am_r_icmp_ge (tg := 197) (nx := 50) (show decode cX3_putTogether 47 = .ok (.if_icmp .ge 150, 3) by decide +kernel) (by decide) rfl hr1 hr2 ?_ ?_
  · exact fun q => am_x_fg [0, 2, 3, 4, 5] (k1 q)
  · exact fun q => k2 q
theorem S_X3_putTogether_50 {G : am_G} {d : Nat} {Q : am_D → Prop} {σ : am_D} {v2 : Int} {v3 : Int} {v4 : Int} {v5 : Int} {v0 : Nat} {a2 : Nat} {Q' : Int → am_D → Prop} (hc1 : am_isR v0) (ho3 : (σ.2.2 v0 4) = some a2) (hc4 : am_isM a2) (hc : am_MI G d mX10_at [am_r (some (a2 + 6)), am_i v5] σ Q') (k : ∀ (x : Int) (σ' : am_D), Q' x σ' → am_X (am_FV G (d + 1) Q) mX3_putTogether (0, 0) 64 [some (am_r (some v0)), none, some (am_i v2), some (am_i v3), some (am_i v4), some (am_i v5), some (am_i x), none] [] (am_K0, σ')) : am_X (am_FV G (d + 1) Q) mX3_putTogether (0, 0) 50 [some (am_r (some v0)), none, some (am_i v2), some (am_i v3), some (am_i v4), some (am_i v5), none, none] [] (am_K0, σ) := by
  refine am_r_aload_n (nx := 51) rfl rfl (show decode cX3_putTogether 50 = .ok (.aload_n 0, 1) by decide +kernel) rfl ?_
  refine am_r_getRs (nx := 54) 4 ho3 cw3 (by decide) rfl (Or.inl fl_X3_27) (obR hc1) (show decode cX3_putTogether 51 = .ok (.getfield 27, 3) by decide +kernel) rfl ?_
  refine am_r_getF (nx := 57) 12 cw2 (by decide) rfl (Or.inr ⟨_, fl_X3_115⟩) (obM hc4) (fnM12 hc4) (show decode cX3_putTogether 54 = .ok (.getfield 115, 3) by decide +kernel) rfl ?_
  refine am_r_iload (nx := 59) rfl (show decode cX3_putTogether 57 = .ok (.iload 5, 2) by decide +kernel) rfl ?_
  refine am_r_callS (as := [am_r (some (a2 + 6)), am_i v5]) (st := []) hc mb_X10_at mv_X10_at (Or.inr ⟨_, ml_X3_39⟩) rfl rfl (Nat.le_of_ble_eq_true rfl) ⟨Nat.le_refl _, Nat.le_refl _⟩ ⟨Nat.le_refl _, Nat.le_refl _⟩ (show decode cX3_putTogether 59 = .ok (.invokestatic 39, 3) by decide +kernel) ?_
  rintro _ _ ⟨x, σ', rfl, rfl, hq⟩ _
  refine am_r_istore (nx := 64) (by decide) rfl (show decode cX3_putTogether 62 = .ok (.istore 6, 2) by decide +kernel) rfl ?_
  exact (k x σ' hq)
theorem S_X3_putTogether_64 {G : am_G} {d : Nat} {Q : am_D → Prop} {σ : am_D} {v2 : Int} {v3 : Int} {v4 : Int} {v5 : Int} {v6 : Int} {v0 : Option Nat} (hr1 : -2147483648 ≤ v6 ∧ v6 ≤ 2147483647) (k1 : 4 ≤ v6 → am_X (am_FV G (d + 1) Q) mX3_putTogether (0, 0) 109 [some (am_r v0), none, some (am_i v2), some (am_i v3), some (am_i v4), some (am_i v5), some (am_i v6), none] [] (am_K0, σ)) (k2 : ¬ (4 ≤ v6) → am_X (am_FV G (d + 1) Q) mX3_putTogether (0, 0) 70 [some (am_r v0), none, some (am_i v2), some (am_i v3), some (am_i v4), some (am_i v5), some (am_i v6), none] [] (am_K0, σ)) : am_X (am_FV G (d + 1) Q) mX3_putTogether (0, 0) 64 [some (am_r v0), none, some (am_i v2), some (am_i v3), some (am_i v4), some (am_i v5), some (am_i v6), none] [] (am_K0, σ) := by
  refine am_r_iload (nx := 66) rfl (show decode cX3_putTogether 64 = .ok (.iload 6, 2) by decide +kernel) rfl ?_
  refine am_r_iconst (nx := 67) (show decode cX3_putTogether 66 = .ok (.iconst 4, 1) by decide +kernel) rfl ?_
  refine am_r_icmp_ge (tg := 109) (nx := 70) (show decode cX3_putTogether 67 = .ok (.if_icmp .ge 42, 3) by decide +kernel) (by decide) rfl hr1 (by omega) ?_ ?_
  · exact fun q => k1 q
  · exact fun q => k2 q
theorem S_X3_putTogether_70 {G : am_G} {d : Nat} {Q : am_D → Prop} {σ : am_D} {v2 : Int} {v3 : Int} {v4 : Int} {v5 : Int} {v6 : Int} {v0 : Nat} {Q' : am_D → Prop} (hc1 : am_isR v0) (hc : am_MV G d mX10_put [am_r (some (v0 + 2)), am_i (σ.1 v0 3), am_i v6] σ Q') (k : ∀ σ' : am_D, Q' σ' → am_X (am_FV G (d + 1) Q) mX3_putTogether (0, 0) 83 [some (am_r (some v0)), none, some (am_i v2), some (am_i v3), some (am_i v4), some (am_i v5), none, none] [] (am_K0, σ')) : am_X (am_FV G (d + 1) Q) mX3_putTogether (0, 0) 70 [some (am_r (some v0)), none, some (am_i v2), some (am_i v3), some (am_i v4), some (am_i v5), some (am_i v6), none] [] (am_K0, σ) := by
  refine am_r_aload_n (nx := 71) rfl rfl (show decode cX3_putTogether 70 = .ok (.aload_n 0, 1) by decide +kernel) rfl ?_
  refine am_r_getF (nx := 74) 1 cw3 (by decide) rfl (Or.inl fl_X3_21) (obR hc1) (fnR1 hc1) (show decode cX3_putTogether 71 = .ok (.getfield 21, 3) by decide +kernel) rfl ?_
  refine am_r_aload_n (nx := 75) rfl rfl (show decode cX3_putTogether 74 = .ok (.aload_n 0, 1) by decide +kernel) rfl ?_
  refine am_r_getI (nx := 78) 3 cw3 (by decide) rfl (Or.inl fl_X3_69) (obR hc1) (show decode cX3_putTogether 75 = .ok (.getfield 69, 3) by decide +kernel) rfl ?_
  refine am_r_iload (nx := 80) rfl (show decode cX3_putTogether 78 = .ok (.iload 6, 2) by decide +kernel) rfl ?_
  refine am_r_callS (as := [am_r (some (v0 + 2)), am_i (σ.1 v0 3), am_i v6]) (st := []) hc mb_X10_put mv_X10_put (Or.inr ⟨_, ml_X3_35⟩) rfl rfl (Nat.le_of_ble_eq_true rfl) ⟨Nat.le_refl _, Nat.le_refl _⟩ ⟨Nat.le_refl _, Nat.le_refl _⟩ (show decode cX3_putTogether 80 = .ok (.invokestatic 35, 3) by decide +kernel) ?_
  rintro _ _ ⟨σ', rfl, rfl, hq⟩ _
  exact am_x_fg [6] (k σ' hq)
theorem S_X3_putTogether_83 {G : am_G} {d : Nat} {Q : am_D → Prop} {σ : am_D} {v2 : Int} {v3 : Int} {v4 : Int} {v5 : Int} {v0 : Nat} {Q' : am_D → Prop} (hc1 : am_isR v0) (hc : am_MV G d mX3_join [am_r (some v0), am_i (σ.1 v0 3), am_i (σ.1 v0 3), am_i 1] σ Q') (k : ∀ σ' : am_D, Q' σ' → am_X (am_FV G (d + 1) Q) mX3_putTogether (0, 0) 96 [some (am_r (some v0)), none, some (am_i v2), some (am_i v3), some (am_i v4), some (am_i v5), none, none] [] (am_K0, σ')) : am_X (am_FV G (d + 1) Q) mX3_putTogether (0, 0) 83 [some (am_r (some v0)), none, some (am_i v2), some (am_i v3), some (am_i v4), some (am_i v5), none, none] [] (am_K0, σ) := by
  refine am_r_aload_n (nx := 84) rfl rfl (show decode cX3_putTogether 83 = .ok (.aload_n 0, 1) by decide +kernel) rfl ?_
  refine am_r_aload_n (nx := 85) rfl rfl (show decode cX3_putTogether 84 = .ok (.aload_n 0, 1) by decide +kernel) rfl ?_
  refine am_r_getI (nx := 88) 3 cw3 (by decide) rfl (Or.inl fl_X3_69) (obR hc1) (show decode cX3_putTogether 85 = .ok (.getfield 69, 3) by decide +kernel) rfl ?_
  refine am_r_aload_n (nx := 89) rfl rfl (show decode cX3_putTogether 88 = .ok (.aload_n 0, 1) by decide +kernel) rfl ?_
  refine am_r_getI (nx := 92) 3 cw3 (by decide) rfl (Or.inl fl_X3_69) (obR hc1) (show decode cX3_putTogether 89 = .ok (.getfield 69, 3) by decide +kernel) rfl ?_
  refine am_r_iconst (nx := 93) (show decode cX3_putTogether 92 = .ok (.iconst 1, 1) by decide +kernel) rfl ?_
  refine am_r_callV (as := [am_i (σ.1 v0 3), am_i (σ.1 v0 3), am_i 1]) (st := []) hc mb_X3_join mv_X3_join (Or.inl ml_X3_116) (obR hc1) (by omega) (r := (RX3, TX3, 9)) rfl rfl rfl rfl (Nat.le_of_ble_eq_true rfl) ⟨Nat.le_refl _, Nat.le_refl _⟩ ⟨Nat.le_refl _, Nat.le_refl _⟩ (show decode cX3_putTogether 93 = .ok (.invokevirtual 116, 3) by decide +kernel) ?_
  rintro _ _ ⟨σ', rfl, rfl, hq⟩ _
  exact (k σ' hq)
theorem S_X3_putTogether_96 {G : am_G} {d : Nat} {Q : am_D → Prop} {σ : am_D} {v2 : Int} {v3 : Int} {v4 : Int} {v5 : Int} {v0 : Nat} (hc1 : am_isR v0) (k : am_X (am_FV G (d + 1) Q) mX3_putTogether (0, 0) 191 [some (am_r (some v0)), none, some (am_i v2), some (am_i v3), some (am_i v4), some (am_i v5), none, none] [] (am_K0, (am_pI σ v0 3 ((σ.1 v0 3) + 1)))) : am_X (am_FV G (d + 1) Q) mX3_putTogether (0, 0) 96 [some (am_r (some v0)), none, some (am_i v2), some (am_i v3), some (am_i v4), some (am_i v5), none, none] [] (am_K0, σ) := by
  refine am_r_aload_n (nx := 97) rfl rfl (show decode cX3_putTogether 96 = .ok (.aload_n 0, 1) by decide +kernel) rfl ?_
  refine am_r_dup (nx := 98) rfl (show decode cX3_putTogether 97 = .ok (.dup, 1) by decide +kernel) rfl ?_
  refine am_r_getI (nx := 101) 3 cw3 (by decide) rfl (Or.inl fl_X3_69) (obR hc1) (show decode cX3_putTogether 98 = .ok (.getfield 69, 3) by decide +kernel) rfl ?_
  refine am_r_iconst (nx := 102) (show decode cX3_putTogether 101 = .ok (.iconst 1, 1) by decide +kernel) rfl ?_
  refine am_r_iadd (nx := 103) (show decode cX3_putTogether 102 = .ok (.iadd, 1) by decide +kernel) rfl ?_
  refine am_r_putI (nx := 106) 3 cw3 (by decide) rfl (Or.inl fl_X3_69) (obR hc1) rfl (Or.inl rfl) (show decode cX3_putTogether 103 = .ok (.putfield 69, 3) by decide +kernel) rfl ?_
  refine am_r_goto (tg := 191) (show decode cX3_putTogether 106 = .ok (.goto 85, 3) by decide +kernel) (by decide) ?_
  exact k
theorem S_X3_putTogether_109 {G : am_G} {d : Nat} {Q : am_D → Prop} {σ : am_D} {v2 : Int} {v3 : Int} {v4 : Int} {v5 : Int} {v6 : Int} {v0 : Option Nat} (hr1 : -2147483648 ≤ v6 ∧ v6 ≤ 2147483647) (k1 : 8 ≤ v6 → am_X (am_FV G (d + 1) Q) mX3_putTogether (0, 0) 120 [some (am_r v0), none, some (am_i v2), some (am_i v3), some (am_i v4), some (am_i v5), some (am_i v6), none] [] (am_K0, σ)) (k2 : ¬ (8 ≤ v6) → am_X (am_FV G (d + 1) Q) mX3_putTogether (0, 0) 116 [some (am_r v0), none, some (am_i v2), some (am_i v3), some (am_i v4), some (am_i v5), some (am_i v6), none] [] (am_K0, σ)) : am_X (am_FV G (d + 1) Q) mX3_putTogether (0, 0) 109 [some (am_r v0), none, some (am_i v2), some (am_i v3), some (am_i v4), some (am_i v5), some (am_i v6), none] [] (am_K0, σ) := by
  refine am_r_iload (nx := 111) rfl (show decode cX3_putTogether 109 = .ok (.iload 6, 2) by decide +kernel) rfl ?_
  refine am_r_bipush (nx := 113) rfl (show decode cX3_putTogether 111 = .ok (.bipush 8, 2) by decide +kernel) rfl ?_
  refine am_r_icmp_ge (tg := 120) (nx := 116) (show decode cX3_putTogether 113 = .ok (.if_icmp .ge 7, 3) by decide +kernel) (by decide) rfl hr1 (by omega) ?_ ?_
  · exact fun q => k1 q
  · exact fun q => k2 q
theorem S_X3_putTogether_116 {G : am_G} {d : Nat} {Q : am_D → Prop} {σ : am_D} {v2 : Int} {v3 : Int} {v4 : Int} {v5 : Int} {v6 : Int} {v0 : Option Nat}  (k : am_X (am_FV G (d + 1) Q) mX3_putTogether (0, 0) 121 [some (am_r v0), none, some (am_i v2), some (am_i v3), some (am_i v4), some (am_i v5), some (am_i v6), none] [am_i v2] (am_K0, σ)) : am_X (am_FV G (d + 1) Q) mX3_putTogether (0, 0) 116 [some (am_r v0), none, some (am_i v2), some (am_i v3), some (am_i v4), some (am_i v5), some (am_i v6), none] [] (am_K0, σ) := by
  refine am_r_iload_n (nx := 117) rfl rfl (show decode cX3_putTogether 116 = .ok (.iload_n 2, 1) by decide +kernel) rfl ?_
  refine am_r_goto (tg := 121) (show decode cX3_putTogether 117 = .ok (.goto 4, 3) by decide +kernel) (by decide) ?_
  exact k
theorem S_X3_putTogether_120 {G : am_G} {d : Nat} {Q : am_D → Prop} {σ : am_D} {v2 : Int} {v3 : Int} {v4 : Int} {v5 : Int} {v6 : Int} {v0 : Option Nat}  (k : am_X (am_FV G (d + 1) Q) mX3_putTogether (0, 0) 121 [some (am_r v0), none, some (am_i v2), some (am_i v3), some (am_i v4), some (am_i v5), some (am_i v6), none] [am_i v3] (am_K0, σ)) : am_X (am_FV G (d + 1) Q) mX3_putTogether (0, 0) 120 [some (am_r v0), none, some (am_i v2), some (am_i v3), some (am_i v4), some (am_i v5), some (am_i v6), none] [] (am_K0, σ) := by
  refine am_r_iload_n (nx := 121) rfl rfl (show decode cX3_putTogether 120 = .ok (.iload_n 3, 1) by decide +kernel) rfl ?_
  exact k
theorem S_X3_putTogether_121 {G : am_G} {d : Nat} {Q : am_D → Prop} {σ : am_D} {v2 : Int} {v3 : Int} {v4 : Int} {v5 : Int} {v6 : Int} {s0 : Int} {v0 : Option Nat}  (k : am_X (am_FV G (d + 1) Q) mX3_putTogether (0, 0) 133 [some (am_r v0), none, some (am_i v2), some (am_i v3), some (am_i v4), some (am_i v5), none, some (am_i ((s0 + 7) + (3 * (am_and v6 3))))] [] (am_K0, σ)) : am_X (am_FV G (d + 1) Q) mX3_putTogether (0, 0) 121 [some (am_r v0), none, some (am_i v2), some (am_i v3), some (am_i v4), some (am_i v5), some (am_i v6), none] [am_i s0] (am_K0, σ) := by
  refine am_r_bipush (nx := 123) rfl (show decode cX3_putTogether 121 = .ok (.bipush 7, 2) by decide +kernel) rfl ?_
  refine am_r_iadd (nx := 124) (show decode cX3_putTogether 123 = .ok (.iadd, 1) by decide +kernel) rfl ?_
  refine am_r_iconst (nx := 125) (show decode cX3_putTogether 124 = .ok (.iconst 3, 1) by decide +kernel) rfl ?_
  refine am_r_iload (nx := 127) rfl (show decode cX3_putTogether 125 = .ok (.iload 6, 2) by decide +kernel) rfl ?_
  refine am_r_iconst (nx := 128) (show decode cX3_putTogether 127 = .ok (.iconst 3, 1) by decide +kernel) rfl ?_
  refine am_r_iand (nx := 129) (show decode cX3_putTogether 128 = .ok (.iand, 1) by decide +kernel) rfl ?_
  refine am_r_imul (nx := 130) (show decode cX3_putTogether 129 = .ok (.imul, 1) by decide +kernel) rfl ?_
  refine am_r_iadd (nx := 131) (show decode cX3_putTogether 130 = .ok (.iadd, 1) by decide +kernel) rfl ?_
  refine am_r_istore (nx := 133) (by decide) rfl (show decode cX3_putTogether 131 = .ok (.istore 7, 2) by decide +kernel) rfl ?_
  exact am_x_fg [6] k
theorem S_X3_putTogether_133 {G : am_G} {d : Nat} {Q : am_D → Prop} {σ : am_D} {v2 : Int} {v3 : Int} {v4 : Int} {v5 : Int} {v7 : Int} {v0 : Option Nat} (hr1 : -2147483648 ≤ v7 ∧ v7 ≤ 2147483647) (k1 : v7 < 0 → am_X (am_FV G (d + 1) Q) mX3_putTogether (0, 0) 191 [some (am_r v0), none, some (am_i v2), some (am_i v3), some (am_i v4), some (am_i v5), none, none] [] (am_K0, σ)) (k2 : ¬ (v7 < 0) → am_X (am_FV G (d + 1) Q) mX3_putTogether (0, 0) 138 [some (am_r v0), none, some (am_i v2), some (am_i v3), some (am_i v4), some (am_i v5), none, some (am_i v7)] [] (am_K0, σ)) : am_X (am_FV G (d + 1) Q) mX3_putTogether (0, 0) 133 [some (am_r v0), none, some (am_i v2), some (am_i v3), some (am_i v4), some (am_i v5), none, some (am_i v7)] [] (am_K0, σ) := by
  refine am_r_iload (nx := 135) rfl (show decode cX3_putTogether 133 = .ok (.iload 7, 2) by decide +kernel) rfl ?_
  refine am_r_if_lt (tg := 191) (nx := 138) (show decode cX3_putTogether 135 = .ok (.ifCond .lt 56, 3) by decide +kernel) (by decide) rfl hr1 ?_ ?_
  · exact fun q => am_x_fg [7] (k1 q)
  · exact fun q => k2 q
theorem S_X3_putTogether_138 {G : am_G} {d : Nat} {Q : am_D → Prop} {σ : am_D} {v2 : Int} {v3 : Int} {v4 : Int} {v5 : Int} {v7 : Int} {v0 : Nat} (hc1 : am_isR v0) (hr2 : -2147483648 ≤ (v7 + 2) ∧ (v7 + 2) ≤ 2147483647) (hr3 : -2147483648 ≤ (((am_rc v0) : Nat) : Int) ∧ (((am_rc v0) : Nat) : Int) ≤ 2147483647) (k1 : (((am_rc v0) : Nat) : Int) ≤ (v7 + 2) → am_X (am_FV G (d + 1) Q) mX3_putTogether (0, 0) 191 [some (am_r (some v0)), none, some (am_i v2), some (am_i v3), some (am_i v4), some (am_i v5), none, none] [] (am_K0, σ)) (k2 : ¬ ((((am_rc v0) : Nat) : Int) ≤ (v7 + 2)) → am_X (am_FV G (d + 1) Q) mX3_putTogether (0, 0) 150 [some (am_r (some v0)), none, some (am_i v2), some (am_i v3), some (am_i v4), some (am_i v5), none, some (am_i v7)] [] (am_K0, σ)) : am_X (am_FV G (d + 1) Q) mX3_putTogether (0, 0) 138 [some (am_r (some v0)), none, some (am_i v2), some (am_i v3), some (am_i v4), some (am_i v5), none, some (am_i v7)] [] (am_K0, σ) := by
  refine am_r_iload (nx := 140) rfl (show decode cX3_putTogether 138 = .ok (.iload 7, 2) by decide +kernel) rfl ?_
  refine am_r_iconst (nx := 141) (show decode cX3_putTogether 140 = .ok (.iconst 2, 1) by decide +kernel) rfl ?_
  refine am_r_iadd (nx := 142) (show decode cX3_putTogether 141 = .ok (.iadd, 1) by decide +kernel) rfl ?_
  refine am_r_aload_n (nx := 143) rfl rfl (show decode cX3_putTogether 142 = .ok (.aload_n 0, 1) by decide +kernel) rfl ?_
  refine am_r_getF (nx := 146) 0 cw3 (by decide) rfl (Or.inl fl_X3_17) (obR hc1) (fnR0 hc1) (show decode cX3_putTogether 143 = .ok (.getfield 17, 3) by decide +kernel) rfl ?_
  refine am_r_alen (nx := 147) ((shR1 hc1)) (by omega) (by omega) (show decode cX3_putTogether 146 = .ok (.arraylength, 1) by decide +kernel) rfl ?_
  refine am_r_icmp_ge (tg := 191) (nx := 150) (show decode cX3_putTogether 147 = .ok (.if_icmp .ge 44, 3) by decide +kernel) (by decide) rfl hr2 hr3 ?_ ?_
  · exact fun q => am_x_fg [7] (k1 q)
  · exact fun q => k2 q
theorem S_X3_putTogether_150 {G : am_G} {d : Nat} {Q : am_D → Prop} {σ : am_D} {v2 : Int} {v3 : Int} {v4 : Int} {v5 : Int} {v7 : Int} {v0 : Nat} (hc1 : am_isR v0) (hi2 : 0 ≤ (v7 + 2)) (hj3 : (v7 + 2) < (((am_rc v0) : Nat) : Int)) (hr4 : -2147483648 ≤ (σ.1 (v0 + 1) (v7 + 2)) ∧ (σ.1 (v0 + 1) (v7 + 2)) ≤ 2147483647) (k1 : (σ.1 (v0 + 1) (v7 + 2)) ≤ 0 → am_X (am_FV G (d + 1) Q) mX3_putTogether (0, 0) 191 [some (am_r (some v0)), none, some (am_i v2), some (am_i v3), some (am_i v4), some (am_i v5), none, none] [] (am_K0, σ)) (k2 : ¬ ((σ.1 (v0 + 1) (v7 + 2)) ≤ 0) → am_X (am_FV G (d + 1) Q) mX3_putTogether (0, 0) 162 [some (am_r (some v0)), none, some (am_i v2), some (am_i v3), some (am_i v4), some (am_i v5), none, some (am_i v7)] [] (am_K0, σ)) : am_X (am_FV G (d + 1) Q) mX3_putTogether (0, 0) 150 [some (am_r (some v0)), none, some (am_i v2), some (am_i v3), some (am_i v4), some (am_i v5), none, some (am_i v7)] [] (am_K0, σ) := by
  refine am_r_aload_n (nx := 151) rfl rfl (show decode cX3_putTogether 150 = .ok (.aload_n 0, 1) by decide +kernel) rfl ?_
  refine am_r_getF (nx := 154) 0 cw3 (by decide) rfl (Or.inl fl_X3_17) (obR hc1) (fnR0 hc1) (show decode cX3_putTogether 151 = .ok (.getfield 17, 3) by decide +kernel) rfl ?_
  refine am_r_iload (nx := 156) rfl (show decode cX3_putTogether 154 = .ok (.iload 7, 2) by decide +kernel) rfl ?_
  refine am_r_iconst (nx := 157) (show decode cX3_putTogether 156 = .ok (.iconst 2, 1) by decide +kernel) rfl ?_
  refine am_r_iadd (nx := 158) (show decode cX3_putTogether 157 = .ok (.iadd, 1) by decide +kernel) rfl ?_
  refine am_r_iald (nx := 159) ((shR1 hc1)) (am_shle ((shR1 hc1))) hi2 hj3 (show decode cX3_putTogether 158 = .ok (.iaload, 1) by decide +kernel) rfl ?_
  refine am_r_if_le (tg := 191) (nx := 162) (show decode cX3_putTogether 159 = .ok (.ifCond .le 32, 3) by decide +kernel) (by decide) rfl hr4 ?_ ?_
  · exact fun q => am_x_fg [7] (k1 q)
  · exact fun q => k2 q
theorem S_X3_putTogether_162 {G : am_G} {d : Nat} {Q : am_D → Prop} {σ : am_D} {v2 : Int} {v3 : Int} {v4 : Int} {v5 : Int} {v7 : Int} {v0 : Nat} {Q' : am_D → Prop} (hc1 : am_isR v0) (hi2 : 0 ≤ v7) (hj3 : v7 < (((am_rc v0) : Nat) : Int)) (hi4 : 0 ≤ (v7 + 1)) (hj5 : (v7 + 1) < (((am_rc v0) : Nat) : Int)) (hi6 : 0 ≤ (v7 + 2)) (hj7 : (v7 + 2) < (((am_rc v0) : Nat) : Int)) (hc : am_MV G d mX3_join [am_r (some v0), am_i (σ.1 (v0 + 1) v7), am_i (σ.1 (v0 + 1) (v7 + 1)), am_i (σ.1 (v0 + 1) (v7 + 2))] σ Q') (k : ∀ σ' : am_D, Q' σ' → am_X (am_FV G (d + 1) Q) mX3_putTogether (0, 0) 191 [some (am_r (some v0)), none, some (am_i v2), some (am_i v3), some (am_i v4), some (am_i v5), none, none] [] (am_K0, σ')) : am_X (am_FV G (d + 1) Q) mX3_putTogether (0, 0) 162 [some (am_r (some v0)), none, some (am_i v2), some (am_i v3), some (am_i v4), some (am_i v5), none, some (am_i v7)] [] (am_K0, σ) := by
  refine am_r_aload_n (nx := 163) rfl rfl (show decode cX3_putTogether 162 = .ok (.aload_n 0, 1) by decide +kernel) rfl ?_
  refine am_r_aload_n (nx := 164) rfl rfl (show decode cX3_putTogether 163 = .ok (.aload_n 0, 1) by decide +kernel) rfl ?_
  refine am_r_getF (nx := 167) 0 cw3 (by decide) rfl (Or.inl fl_X3_17) (obR hc1) (fnR0 hc1) (show decode cX3_putTogether 164 = .ok (.getfield 17, 3) by decide +kernel) rfl ?_
  refine am_r_iload (nx := 169) rfl (show decode cX3_putTogether 167 = .ok (.iload 7, 2) by decide +kernel) rfl ?_
  refine am_r_iald (nx := 170) ((shR1 hc1)) (am_shle ((shR1 hc1))) hi2 hj3 (show decode cX3_putTogether 169 = .ok (.iaload, 1) by decide +kernel) rfl ?_
  refine am_r_aload_n (nx := 171) rfl rfl (show decode cX3_putTogether 170 = .ok (.aload_n 0, 1) by decide +kernel) rfl ?_
  refine am_r_getF (nx := 174) 0 cw3 (by decide) rfl (Or.inl fl_X3_17) (obR hc1) (fnR0 hc1) (show decode cX3_putTogether 171 = .ok (.getfield 17, 3) by decide +kernel) rfl ?_
  refine am_r_iload (nx := 176) rfl (show decode cX3_putTogether 174 = .ok (.iload 7, 2) by decide +kernel) rfl ?_
  refine am_r_iconst (nx := 177) (show decode cX3_putTogether 176 = .ok (.iconst 1, 1) by decide +kernel) rfl ?_
  refine am_r_iadd (nx := 178) (show decode cX3_putTogether 177 = .ok (.iadd, 1) by decide +kernel) rfl ?_
  refine am_r_iald (nx := 179) ((shR1 hc1)) (am_shle ((shR1 hc1))) hi4 hj5 (show decode cX3_putTogether 178 = .ok (.iaload, 1) by decide +kernel) rfl ?_
  refine am_r_aload_n (nx := 180) rfl rfl (show decode cX3_putTogether 179 = .ok (.aload_n 0, 1) by decide +kernel) rfl ?_
  refine am_r_getF (nx := 183) 0 cw3 (by decide) rfl (Or.inl fl_X3_17) (obR hc1) (fnR0 hc1) (show decode cX3_putTogether 180 = .ok (.getfield 17, 3) by decide +kernel) rfl ?_
  refine am_r_iload (nx := 185) rfl (show decode cX3_putTogether 183 = .ok (.iload 7, 2) by decide +kernel) rfl ?_
  refine am_r_iconst (nx := 186) (show decode cX3_putTogether 185 = .ok (.iconst 2, 1) by decide +kernel) rfl ?_
  refine am_r_iadd (nx := 187) (show decode cX3_putTogether 186 = .ok (.iadd, 1) by decide +kernel) rfl ?_
  refine am_r_iald (nx := 188) ((shR1 hc1)) (am_shle ((shR1 hc1))) hi6 hj7 (show decode cX3_putTogether 187 = .ok (.iaload, 1) by decide +kernel) rfl ?_
  refine am_r_callV (as := [am_i (σ.1 (v0 + 1) v7), am_i (σ.1 (v0 + 1) (v7 + 1)), am_i (σ.1 (v0 + 1) (v7 + 2))]) (st := []) hc mb_X3_join mv_X3_join (Or.inl ml_X3_116) (obR hc1) (by omega) (r := (RX3, TX3, 9)) rfl rfl rfl rfl (Nat.le_of_ble_eq_true rfl) ⟨Nat.le_refl _, Nat.le_refl _⟩ ⟨Nat.le_refl _, Nat.le_refl _⟩ (show decode cX3_putTogether 188 = .ok (.invokevirtual 116, 3) by decide +kernel) ?_
  rintro _ _ ⟨σ', rfl, rfl, hq⟩ _
  exact am_x_fg [7] (k σ' hq)
theorem S_X3_putTogether_191 {G : am_G} {d : Nat} {Q : am_D → Prop} {σ : am_D} {v2 : Int} {v3 : Int} {v4 : Int} {v5 : Int} {v0 : Option Nat}  (k : am_X (am_FV G (d + 1) Q) mX3_putTogether (0, 0) 43 [some (am_r v0), none, some (am_i v2), some (am_i v3), some (am_i v4), some (am_i (v5 + 1)), none, none] [] (am_K0, σ)) : am_X (am_FV G (d + 1) Q) mX3_putTogether (0, 0) 191 [some (am_r v0), none, some (am_i v2), some (am_i v3), some (am_i v4), some (am_i v5), none, none] [] (am_K0, σ) := by
  refine am_r_iinc (nx := 194) rfl rfl (show decode cX3_putTogether 191 = .ok (.iinc 5 1, 3) by decide +kernel) rfl ?_
  refine am_r_goto (tg := 43) (show decode cX3_putTogether 194 = .ok (.goto (-151), 3) by decide +kernel) (by decide) ?_
  exact k
theorem S_X3_putTogether_197 {G : am_G} {d : Nat} {Q : am_D → Prop} {σ : am_D}   (k : Q σ) : am_X (am_FV G (d + 1) Q) mX3_putTogether (0, 0) 197 [none, none, none, none, none, none, none, none] [] (am_K0, σ) := by
  exact am_r_vret rfl (show decode cX3_putTogether 197 = .ok (.return_, 1) by decide +kernel) ⟨_, rfl, rfl, k⟩
theorem S_X3_join_0 {G : am_G} {d : Nat} {Q : am_D → Prop} {σ : am_D} {v1 : Int} {v2 : Int} {v3 : Int} {v0 : Nat} (hc1 : am_isR v0) (hr2 : -2147483648 ≤ (σ.1 v0 8) ∧ (σ.1 v0 8) ≤ 2147483647) (k1 : ¬ (σ.1 v0 8) = 0 → am_X (am_FV G (d + 1) Q) mX3_join (0, 0) 15 [some (am_r (some v0)), some (am_i v1), some (am_i v2), some (am_i v3)] [] (am_K0, σ)) (k2 : ¬ (¬ (σ.1 v0 8) = 0) → am_X (am_FV G (d + 1) Q) mX3_join (0, 0) 7 [some (am_r (some v0)), some (am_i v1), some (am_i v2), some (am_i v3)] [] (am_K0, σ)) : am_X (am_FV G (d + 1) Q) mX3_join (0, 0) 0 [some (am_r (some v0)), some (am_i v1), some (am_i v2), some (am_i v3)] [] (am_K0, σ) := by
  refine am_r_aload_n (nx := 1) rfl rfl (show decode cX3_join 0 = .ok (.aload_n 0, 1) by decide +kernel) rfl ?_
  refine am_r_getI (nx := 4) 8 cw3 (by decide) rfl (Or.inl fl_X3_85) (obR hc1) (show decode cX3_join 1 = .ok (.getfield 85, 3) by decide +kernel) rfl ?_
  refine am_r_if_ne (tg := 15) (nx := 7) (show decode cX3_join 4 = .ok (.ifCond .ne 11, 3) by decide +kernel) (by decide) rfl hr2 ?_ ?_
  · exact fun q => k1 q
  · exact fun q => k2 q
theorem S_X3_join_7 {G : am_G} {d : Nat} {Q : am_D → Prop} {σ : am_D} {v1 : Int} {v2 : Int} {v3 : Int} {v0 : Nat} (hc1 : am_isR v0) (k : am_X (am_FV G (d + 1) Q) mX3_join (0, 0) 44 [some (am_r (some v0)), none, some (am_i v2), some (am_i v3)] [] (am_K0, (am_pI σ v0 6 v1))) : am_X (am_FV G (d + 1) Q) mX3_join (0, 0) 7 [some (am_r (some v0)), some (am_i v1), some (am_i v2), some (am_i v3)] [] (am_K0, σ) := by
  refine am_r_aload_n (nx := 8) rfl rfl (show decode cX3_join 7 = .ok (.aload_n 0, 1) by decide +kernel) rfl ?_
  refine am_r_iload_n (nx := 9) rfl rfl (show decode cX3_join 8 = .ok (.iload_n 1, 1) by decide +kernel) rfl ?_
  refine am_r_putI (nx := 12) 6 cw3 (by decide) rfl (Or.inl fl_X3_79) (obR hc1) rfl (Or.inl rfl) (show decode cX3_join 9 = .ok (.putfield 79, 3) by decide +kernel) rfl ?_
  refine am_r_goto (tg := 44) (show decode cX3_join 12 = .ok (.goto 32, 3) by decide +kernel) (by decide) ?_
  exact am_x_fg [1] k
theorem S_X3_join_15 {G : am_G} {d : Nat} {Q : am_D → Prop} {σ : am_D} {v1 : Int} {v2 : Int} {v3 : Int} {v0 : Nat} (hc1 : am_isR v0) (hr2 : -2147483648 ≤ (σ.1 v0 7) ∧ (σ.1 v0 7) ≤ 2147483647) (k1 : (σ.1 v0 7) < 0 → am_X (am_FV G (d + 1) Q) mX3_join (0, 0) 44 [some (am_r (some v0)), none, some (am_i v2), some (am_i v3)] [] (am_K0, σ)) (k2 : ¬ ((σ.1 v0 7) < 0) → am_X (am_FV G (d + 1) Q) mX3_join (0, 0) 22 [some (am_r (some v0)), some (am_i v1), some (am_i v2), some (am_i v3)] [] (am_K0, σ)) : am_X (am_FV G (d + 1) Q) mX3_join (0, 0) 15 [some (am_r (some v0)), some (am_i v1), some (am_i v2), some (am_i v3)] [] (am_K0, σ) := by
  refine am_r_aload_n (nx := 16) rfl rfl (show decode cX3_join 15 = .ok (.aload_n 0, 1) by decide +kernel) rfl ?_
  refine am_r_getI (nx := 19) 7 cw3 (by decide) rfl (Or.inl fl_X3_82) (obR hc1) (show decode cX3_join 16 = .ok (.getfield 82, 3) by decide +kernel) rfl ?_
  refine am_r_if_lt (tg := 44) (nx := 22) (show decode cX3_join 19 = .ok (.ifCond .lt 25, 3) by decide +kernel) (by decide) rfl hr2 ?_ ?_
  · exact fun q => am_x_fg [1] (k1 q)
  · exact fun q => k2 q
theorem S_X3_join_22 {G : am_G} {d : Nat} {Q : am_D → Prop} {σ : am_D} {v1 : Int} {v2 : Int} {v3 : Int} {v0 : Nat} (hc1 : am_isR v0) (hr2 : -2147483648 ≤ (σ.1 v0 7) ∧ (σ.1 v0 7) ≤ 2147483647) (hr3 : -2147483648 ≤ (((am_rs v0) : Nat) : Int) ∧ (((am_rs v0) : Nat) : Int) ≤ 2147483647) (k1 : (((am_rs v0) : Nat) : Int) ≤ (σ.1 v0 7) → am_X (am_FV G (d + 1) Q) mX3_join (0, 0) 44 [some (am_r (some v0)), none, some (am_i v2), some (am_i v3)] [] (am_K0, σ)) (k2 : ¬ ((((am_rs v0) : Nat) : Int) ≤ (σ.1 v0 7)) → am_X (am_FV G (d + 1) Q) mX3_join (0, 0) 34 [some (am_r (some v0)), some (am_i v1), some (am_i v2), some (am_i v3)] [] (am_K0, σ)) : am_X (am_FV G (d + 1) Q) mX3_join (0, 0) 22 [some (am_r (some v0)), some (am_i v1), some (am_i v2), some (am_i v3)] [] (am_K0, σ) := by
  refine am_r_aload_n (nx := 23) rfl rfl (show decode cX3_join 22 = .ok (.aload_n 0, 1) by decide +kernel) rfl ?_
  refine am_r_getI (nx := 26) 7 cw3 (by decide) rfl (Or.inl fl_X3_82) (obR hc1) (show decode cX3_join 23 = .ok (.getfield 82, 3) by decide +kernel) rfl ?_
  refine am_r_aload_n (nx := 27) rfl rfl (show decode cX3_join 26 = .ok (.aload_n 0, 1) by decide +kernel) rfl ?_
  refine am_r_getF (nx := 30) 2 cw3 (by decide) rfl (Or.inl fl_X3_24) (obR hc1) (fnR2 hc1) (show decode cX3_join 27 = .ok (.getfield 24, 3) by decide +kernel) rfl ?_
  refine am_r_alen (nx := 31) ((shR3 hc1)) (by omega) (by omega) (show decode cX3_join 30 = .ok (.arraylength, 1) by decide +kernel) rfl ?_
  refine am_r_icmp_ge (tg := 44) (nx := 34) (show decode cX3_join 31 = .ok (.if_icmp .ge 13, 3) by decide +kernel) (by decide) rfl hr2 hr3 ?_ ?_
  · exact fun q => am_x_fg [1] (k1 q)
  · exact fun q => k2 q
theorem S_X3_join_34 {G : am_G} {d : Nat} {Q : am_D → Prop} {σ : am_D} {v1 : Int} {v2 : Int} {v3 : Int} {v0 : Nat} (hc1 : am_isR v0) (hi2 : 0 ≤ (σ.1 v0 7)) (hj3 : (σ.1 v0 7) < (((am_rs v0) : Nat) : Int)) (k : am_X (am_FV G (d + 1) Q) mX3_join (0, 0) 44 [some (am_r (some v0)), none, some (am_i v2), some (am_i v3)] [] (am_K0, (am_pI σ (v0 + 3) (σ.1 v0 7) v1))) : am_X (am_FV G (d + 1) Q) mX3_join (0, 0) 34 [some (am_r (some v0)), some (am_i v1), some (am_i v2), some (am_i v3)] [] (am_K0, σ) := by
  refine am_r_aload_n (nx := 35) rfl rfl (show decode cX3_join 34 = .ok (.aload_n 0, 1) by decide +kernel) rfl ?_
  refine am_r_getF (nx := 38) 2 cw3 (by decide) rfl (Or.inl fl_X3_24) (obR hc1) (fnR2 hc1) (show decode cX3_join 35 = .ok (.getfield 24, 3) by decide +kernel) rfl ?_
  refine am_r_aload_n (nx := 39) rfl rfl (show decode cX3_join 38 = .ok (.aload_n 0, 1) by decide +kernel) rfl ?_
  refine am_r_getI (nx := 42) 7 cw3 (by decide) rfl (Or.inl fl_X3_82) (obR hc1) (show decode cX3_join 39 = .ok (.getfield 82, 3) by decide +kernel) rfl ?_
  refine am_r_iload_n (nx := 43) rfl rfl (show decode cX3_join 42 = .ok (.iload_n 1, 1) by decide +kernel) rfl ?_
  refine am_r_iast (nx := 44) ((shR3 hc1)) (am_shle ((shR3 hc1))) hi2 hj3 (show decode cX3_join 43 = .ok (.iastore, 1) by decide +kernel) rfl ?_
  exact am_x_fg [1] k
theorem S_X3_join_44 {G : am_G} {d : Nat} {Q : am_D → Prop} {σ : am_D} {v2 : Int} {v3 : Int} {v0 : Nat} (hc1 : am_isR v0) (k : am_X (am_FV G (d + 1) Q) mX3_join (0, 0) 49 [some (am_r (some v0)), none, none, some (am_i v3)] [] (am_K0, (am_pI σ v0 7 v2))) : am_X (am_FV G (d + 1) Q) mX3_join (0, 0) 44 [some (am_r (some v0)), none, some (am_i v2), some (am_i v3)] [] (am_K0, σ) := by
  refine am_r_aload_n (nx := 45) rfl rfl (show decode cX3_join 44 = .ok (.aload_n 0, 1) by decide +kernel) rfl ?_
  refine am_r_iload_n (nx := 46) rfl rfl (show decode cX3_join 45 = .ok (.iload_n 2, 1) by decide +kernel) rfl ?_
  refine am_r_putI (nx := 49) 7 cw3 (by decide) rfl (Or.inl fl_X3_82) (obR hc1) rfl (Or.inl rfl) (show decode cX3_join 46 = .ok (.putfield 82, 3) by decide +kernel) rfl ?_
  exact am_x_fg [2] k
theorem S_X3_join_49 {G : am_G} {d : Nat} {Q : am_D → Prop} {σ : am_D} {v3 : Int} {v0 : Nat} (hc1 : am_isR v0) (k : am_X (am_FV G (d + 1) Q) mX3_join (0, 0) 59 [none, none, none, none] [] (am_K0, (am_pI σ v0 8 ((σ.1 v0 8) + v3)))) : am_X (am_FV G (d + 1) Q) mX3_join (0, 0) 49 [some (am_r (some v0)), none, none, some (am_i v3)] [] (am_K0, σ) := by
  refine am_r_aload_n (nx := 50) rfl rfl (show decode cX3_join 49 = .ok (.aload_n 0, 1) by decide +kernel) rfl ?_
  refine am_r_dup (nx := 51) rfl (show decode cX3_join 50 = .ok (.dup, 1) by decide +kernel) rfl ?_
  refine am_r_getI (nx := 54) 8 cw3 (by decide) rfl (Or.inl fl_X3_85) (obR hc1) (show decode cX3_join 51 = .ok (.getfield 85, 3) by decide +kernel) rfl ?_
  refine am_r_iload_n (nx := 55) rfl rfl (show decode cX3_join 54 = .ok (.iload_n 3, 1) by decide +kernel) rfl ?_
  refine am_r_iadd (nx := 56) (show decode cX3_join 55 = .ok (.iadd, 1) by decide +kernel) rfl ?_
  refine am_r_putI (nx := 59) 8 cw3 (by decide) rfl (Or.inl fl_X3_85) (obR hc1) rfl (Or.inl rfl) (show decode cX3_join 56 = .ok (.putfield 85, 3) by decide +kernel) rfl ?_
  exact am_x_fg [0, 3] k
theorem S_X3_join_59 {G : am_G} {d : Nat} {Q : am_D → Prop} {σ : am_D}   (k : Q σ) : am_X (am_FV G (d + 1) Q) mX3_join (0, 0) 59 [none, none, none, none] [] (am_K0, σ) := by
  exact am_r_vret rfl (show decode cX3_join 59 = .ok (.return_, 1) by decide +kernel) ⟨_, rfl, rfl, k⟩
end
