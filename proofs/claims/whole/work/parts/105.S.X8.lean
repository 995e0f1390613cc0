section
theorem S_X8_readDocument_0 {G : am_G} {d : Nat} {Q : am_D → Prop} {σ : am_D} {v1 : Option Nat}  (k : am_X (am_FV G (d + 1) Q) mX8_readDocument (0, 0) 2 [some (am_r (some 3)), some (am_r v1), some (am_i 0), none, none] [] (am_K0, σ)) : am_X (am_FV G (d + 1) Q) mX8_readDocument (0, 0) 0 [some (am_r (some 3)), some (am_r v1), none, none, none] [] (am_K0, σ) := by
  refine am_r_iconst (nx := 1) (show decode cX8_readDocument 0 = .ok (.iconst 0, 1) by decide +kernel) rfl ?_
  refine am_r_istore_n (nx := 2) rfl (by decide) rfl (show decode cX8_readDocument 1 = .ok (.istore_n 2, 1) by decide +kernel) rfl ?_
  exact k
theorem S_X8_readDocument_2 {G : am_G} {d : Nat} {Q : am_D → Prop} {σ : am_D} {v2 : Int} {v1 : Option Nat}  (k : am_X (am_FV G (d + 1) Q) mX8_readDocument (0, 0) 4 [some (am_r (some 3)), some (am_r v1), some (am_i v2), some (am_i 0), none] [] (am_K0, σ)) : am_X (am_FV G (d + 1) Q) mX8_readDocument (0, 0) 2 [some (am_r (some 3)), some (am_r v1), some (am_i v2), none, none] [] (am_K0, σ) := by
  refine am_r_iconst (nx := 3) (show decode cX8_readDocument 2 = .ok (.iconst 0, 1) by decide +kernel) rfl ?_
  refine am_r_istore_n (nx := 4) rfl (by decide) rfl (show decode cX8_readDocument 3 = .ok (.istore_n 3, 1) by decide +kernel) rfl ?_
  exact k
theorem S_X8_readDocument_4 {G : am_G} {d : Nat} {Q : am_D → Prop} {σ : am_D} {v2 : Int} {v3 : Int} {v1 : Nat} {Q' : am_D → Prop} (hc : am_MV G d mX0_clear [am_r (some v1)] σ Q') (hc1 : am_isE v1) (k : ∀ σ' : am_D, Q' σ' → am_X (am_FV G (d + 1) Q) mX8_readDocument (0, 0) 8 [some (am_r (some 3)), some (am_r (some v1)), some (am_i v2), some (am_i v3), none] [] (am_K0, σ')) : am_X (am_FV G (d + 1) Q) mX8_readDocument (0, 0) 4 [some (am_r (some 3)), some (am_r (some v1)), some (am_i v2), some (am_i v3), none] [] (am_K0, σ) := by
  refine am_r_aload_n (nx := 5) rfl rfl (show decode cX8_readDocument 4 = .ok (.aload_n 1, 1) by decide +kernel) rfl ?_
  refine am_r_callV (as := []) (st := []) hc mb_X0_clear mv_X0_clear (Or.inl ml_X8_15) (obE hc1) (by omega) (r := (RX0, TX0, 2)) rfl rfl rfl rfl (Nat.le_of_ble_eq_true rfl) ⟨Nat.le_refl _, Nat.le_refl _⟩ ⟨Nat.le_refl _, Nat.le_refl _⟩ (show decode cX8_readDocument 5 = .ok (.invokevirtual 15, 3) by decide +kernel) ?_
  rintro _ _ ⟨σ', rfl, rfl, hq⟩ _
  exact (k σ' hq)
theorem S_X8_readDocument_8 {G : am_G} {d : Nat} {Q : am_D → Prop} {σ : am_D} {v2 : Int} {v3 : Int} {Q' : am_D → Prop} {v1 : Option Nat} (hc : am_MV G d mX7_rewind [am_r (some 1)] σ Q') (k : ∀ σ' : am_D, Q' σ' → am_X (am_FV G (d + 1) Q) mX8_readDocument (0, 0) 15 [some (am_r (some 3)), some (am_r v1), some (am_i v2), some (am_i v3), none] [] (am_K0, σ')) : am_X (am_FV G (d + 1) Q) mX8_readDocument (0, 0) 8 [some (am_r (some 3)), some (am_r v1), some (am_i v2), some (am_i v3), none] [] (am_K0, σ) := by
  refine am_r_aload_n (nx := 9) rfl rfl (show decode cX8_readDocument 8 = .ok (.aload_n 0, 1) by decide +kernel) rfl ?_
  refine am_r_getF (nx := 12) 0 cw8 (by decide) rfl (Or.inl fl_X8_9) (ob_3) (fn_3_0) (show decode cX8_readDocument 9 = .ok (.getfield 9, 3) by decide +kernel) rfl ?_
  refine am_r_callV (as := []) (st := []) hc mb_X7_rewind mv_X7_rewind (Or.inl ml_X8_20) (ob_1) (by omega) (r := (RX7, TX7, 6)) rfl rfl rfl rfl (Nat.le_of_ble_eq_true rfl) ⟨Nat.le_refl _, Nat.le_refl _⟩ ⟨Nat.le_refl _, Nat.le_refl _⟩ (show decode cX8_readDocument 12 = .ok (.invokevirtual 20, 3) by decide +kernel) ?_
  rintro _ _ ⟨σ', rfl, rfl, hq⟩ _
  exact (k σ' hq)
theorem S_X8_readDocument_15 {G : am_G} {d : Nat} {Q : am_D → Prop} {σ : am_D} {v2 : Int} {v3 : Int} {Q' : am_D → Prop} {v1 : Option Nat} (hc : am_MV G d mX7_advance [am_r (some 1)] σ Q') (k : ∀ σ' : am_D, Q' σ' → am_X (am_FV G (d + 1) Q) mX8_readDocument (0, 0) 22 [some (am_r (some 3)), some (am_r v1), some (am_i v2), some (am_i v3), none] [] (am_K0, σ')) : am_X (am_FV G (d + 1) Q) mX8_readDocument (0, 0) 15 [some (am_r (some 3)), some (am_r v1), some (am_i v2), some (am_i v3), none] [] (am_K0, σ) := by
  refine am_r_aload_n (nx := 16) rfl rfl (show decode cX8_readDocument 15 = .ok (.aload_n 0, 1) by decide +kernel) rfl ?_
  refine am_r_getF (nx := 19) 0 cw8 (by decide) rfl (Or.inl fl_X8_9) (ob_3) (fn_3_0) (show decode cX8_readDocument 16 = .ok (.getfield 9, 3) by decide +kernel) rfl ?_
  refine am_r_callV (as := []) (st := []) hc mb_X7_advance mv_X7_advance (Or.inl ml_X8_25) (ob_1) (by omega) (r := (RX7, TX7, 6)) rfl rfl rfl rfl (Nat.le_of_ble_eq_true rfl) ⟨Nat.le_refl _, Nat.le_refl _⟩ ⟨Nat.le_refl _, Nat.le_refl _⟩ (show decode cX8_readDocument 19 = .ok (.invokevirtual 25, 3) by decide +kernel) ?_
  rintro _ _ ⟨σ', rfl, rfl, hq⟩ _
  exact (k σ' hq)
theorem S_X8_readDocument_22 {G : am_G} {d : Nat} {Q : am_D → Prop} {σ : am_D} {v2 : Int} {v3 : Int} {v1 : Option Nat}  (k : am_X (am_FV G (d + 1) Q) mX8_readDocument (0, 0) 25 [some (am_r (some 3)), some (am_r v1), some (am_i v2), some (am_i v3), some (am_i 0)] [] (am_K0, σ)) : am_X (am_FV G (d + 1) Q) mX8_readDocument (0, 0) 22 [some (am_r (some 3)), some (am_r v1), some (am_i v2), some (am_i v3), none] [] (am_K0, σ) := by
  refine am_r_iconst (nx := 23) (show decode cX8_readDocument 22 = .ok (.iconst 0, 1) by decide +kernel) rfl ?_
  refine am_r_istore (nx := 25) (by decide) rfl (show decode cX8_readDocument 23 = .ok (.istore 4, 2) by decide +kernel) rfl ?_
  exact k
theorem S_X8_readDocument_25 {G : am_G} {d : Nat} {Q : am_D → Prop} {σ : am_D} {v2 : Int} {v3 : Int} {v4 : Int} {v1 : Option Nat} (hr1 : -2147483648 ≤ v4 ∧ v4 ≤ 2147483647) (k1 : 600 < v4 → am_X (am_FV G (d + 1) Q) mX8_readDocument (0, 0) 147 [some (am_r (some 3)), none, none, some (am_i v3), none] [] (am_K0, σ)) (k2 : ¬ (600 < v4) → am_X (am_FV G (d + 1) Q) mX8_readDocument (0, 0) 33 [some (am_r (some 3)), some (am_r v1), some (am_i v2), some (am_i v3), some (am_i v4)] [] (am_K0, σ)) : am_X (am_FV G (d + 1) Q) mX8_readDocument (0, 0) 25 [some (am_r (some 3)), some (am_r v1), some (am_i v2), some (am_i v3), some (am_i v4)] [] (am_K0, σ) := by
  refine am_r_iload (nx := 27) rfl (show decode cX8_readDocument 25 = .ok (.iload 4, 2) by decide +kernel) rfl ?_
  refine am_r_sipush (nx := 30) rfl (show decode cX8_readDocument 27 = .ok (.sipush 600, 3) by decide +kernel) rfl ?_
  refine am_r_icmp_gt (tg := 147) (nx := 33) (show decode cX8_readDocument 30 = .ok (.if_icmp .gt 117, 3) by decide +kernel) (by decide) rfl hr1 (by omega) ?_ ?_
  · exact fun q => am_x_fg [1, 2, 4] (k1 q)
  · exact fun q => k2 q
theorem S_X8_readDocument_33 {G : am_G} {d : Nat} {Q : am_D → Prop} {σ : am_D} {v2 : Int} {v3 : Int} {v4 : Int} {v1 : Option Nat} (hr1 : -2147483648 ≤ (σ.1 1 2) ∧ (σ.1 1 2) ≤ 2147483647) (k1 : (σ.1 1 2) = 0 → am_X (am_FV G (d + 1) Q) mX8_readDocument (0, 0) 147 [some (am_r (some 3)), none, none, some (am_i v3), none] [] (am_K0, σ)) (k2 : ¬ ((σ.1 1 2) = 0) → am_X (am_FV G (d + 1) Q) mX8_readDocument (0, 0) 43 [some (am_r (some 3)), some (am_r v1), some (am_i v2), some (am_i v3), some (am_i v4)] [] (am_K0, σ)) : am_X (am_FV G (d + 1) Q) mX8_readDocument (0, 0) 33 [some (am_r (some 3)), some (am_r v1), some (am_i v2), some (am_i v3), some (am_i v4)] [] (am_K0, σ) := by
  refine am_r_aload_n (nx := 34) rfl rfl (show decode cX8_readDocument 33 = .ok (.aload_n 0, 1) by decide +kernel) rfl ?_
  refine am_r_getF (nx := 37) 0 cw8 (by decide) rfl (Or.inl fl_X8_9) (ob_3) (fn_3_0) (show decode cX8_readDocument 34 = .ok (.getfield 9, 3) by decide +kernel) rfl ?_
  refine am_r_getI (nx := 40) 2 cw7 (by decide) rfl (Or.inr ⟨_, fl_X8_28⟩) (ob_1) (show decode cX8_readDocument 37 = .ok (.getfield 28, 3) by decide +kernel) rfl ?_
  refine am_r_if_eq (tg := 147) (nx := 43) (show decode cX8_readDocument 40 = .ok (.ifCond .eq 107, 3) by decide +kernel) (by decide) rfl hr1 ?_ ?_
  · exact fun q => am_x_fg [1, 2, 4] (k1 q)
  · exact fun q => k2 q
theorem S_X8_readDocument_43 {G : am_G} {d : Nat} {Q : am_D → Prop} {σ : am_D} {v2 : Int} {v3 : Int} {v4 : Int} {v1 : Option Nat} (hr1 : -2147483648 ≤ (σ.1 1 5) ∧ (σ.1 1 5) ≤ 2147483647) (k1 : ¬ (σ.1 1 5) = 0 → am_X (am_FV G (d + 1) Q) mX8_readDocument (0, 0) 147 [some (am_r (some 3)), none, none, some (am_i v3), none] [] (am_K0, σ)) (k2 : ¬ (¬ (σ.1 1 5) = 0) → am_X (am_FV G (d + 1) Q) mX8_readDocument (0, 0) 53 [some (am_r (some 3)), some (am_r v1), some (am_i v2), some (am_i v3), some (am_i v4)] [] (am_K0, σ)) : am_X (am_FV G (d + 1) Q) mX8_readDocument (0, 0) 43 [some (am_r (some 3)), some (am_r v1), some (am_i v2), some (am_i v3), some (am_i v4)] [] (am_K0, σ) := by
  refine am_r_aload_n (nx := 44) rfl rfl (show decode cX8_readDocument 43 = .ok (.aload_n 0, 1) by decide +kernel) rfl ?_
  refine am_r_getF (nx := 47) 0 cw8 (by decide) rfl (Or.inl fl_X8_9) (ob_3) (fn_3_0) (show decode cX8_readDocument 44 = .ok (.getfield 9, 3) by decide +kernel) rfl ?_
  refine am_r_getI (nx := 50) 5 cw7 (by decide) rfl (Or.inr ⟨_, fl_X8_32⟩) (ob_1) (show decode cX8_readDocument 47 = .ok (.getfield 32, 3) by decide +kernel) rfl ?_
  refine am_r_if_ne (tg := 147) (nx := 53) (show decode cX8_readDocument 50 = .ok (.ifCond .ne 97, 3) by decide +kernel) (by decide) rfl hr1 ?_ ?_
  · exact fun q => am_x_fg [1, 2, 4] (k1 q)
  · exact fun q => k2 q
theorem S_X8_readDocument_53 {G : am_G} {d : Nat} {Q : am_D → Prop} {σ : am_D} {v2 : Int} {v3 : Int} {v4 : Int} {v1 : Option Nat} (hr1 : -2147483648 ≤ (σ.1 1 2) ∧ (σ.1 1 2) ≤ 2147483647) (k1 : ¬ (σ.1 1 2) = 60 → am_X (am_FV G (d + 1) Q) mX8_readDocument (0, 0) 99 [some (am_r (some 3)), some (am_r v1), some (am_i v2), some (am_i v3), some (am_i v4)] [] (am_K0, σ)) (k2 : ¬ (¬ (σ.1 1 2) = 60) → am_X (am_FV G (d + 1) Q) mX8_readDocument (0, 0) 65 [some (am_r (some 3)), some (am_r v1), some (am_i v2), some (am_i v3), some (am_i v4)] [] (am_K0, σ)) : am_X (am_FV G (d + 1) Q) mX8_readDocument (0, 0) 53 [some (am_r (some 3)), some (am_r v1), some (am_i v2), some (am_i v3), some (am_i v4)] [] (am_K0, σ) := by
  refine am_r_aload_n (nx := 54) rfl rfl (show decode cX8_readDocument 53 = .ok (.aload_n 0, 1) by decide +kernel) rfl ?_
  refine am_r_getF (nx := 57) 0 cw8 (by decide) rfl (Or.inl fl_X8_9) (ob_3) (fn_3_0) (show decode cX8_readDocument 54 = .ok (.getfield 9, 3) by decide +kernel) rfl ?_
  refine am_r_getI (nx := 60) 2 cw7 (by decide) rfl (Or.inr ⟨_, fl_X8_28⟩) (ob_1) (show decode cX8_readDocument 57 = .ok (.getfield 28, 3) by decide +kernel) rfl ?_
  refine am_r_bipush (nx := 62) rfl (show decode cX8_readDocument 60 = .ok (.bipush 60, 2) by decide +kernel) rfl ?_
  refine am_r_icmp_ne (tg := 99) (nx := 65) (show decode cX8_readDocument 62 = .ok (.if_icmp .ne 37, 3) by decide +kernel) (by decide) rfl hr1 (by omega) ?_ ?_
  · exact fun q => k1 q
  · exact fun q => k2 q
theorem S_X8_readDocument_65 {G : am_G} {d : Nat} {Q : am_D → Prop} {σ : am_D} {v2 : Int} {v3 : Int} {v4 : Int} {v1 : Option Nat} (hr1 : -2147483648 ≤ v2 ∧ v2 ≤ 2147483647) (k1 : v2 < 40 → am_X (am_FV G (d + 1) Q) mX8_readDocument (0, 0) 79 [some (am_r (some 3)), some (am_r v1), some (am_i v2), some (am_i v3), some (am_i v4)] [] (am_K0, σ)) (k2 : ¬ (v2 < 40) → am_X (am_FV G (d + 1) Q) mX8_readDocument (0, 0) 71 [some (am_r (some 3)), some (am_r v1), some (am_i v2), some (am_i v3), some (am_i v4)] [] (am_K0, σ)) : am_X (am_FV G (d + 1) Q) mX8_readDocument (0, 0) 65 [some (am_r (some 3)), some (am_r v1), some (am_i v2), some (am_i v3), some (am_i v4)] [] (am_K0, σ) := by
  refine am_r_iload_n (nx := 66) rfl rfl (show decode cX8_readDocument 65 = .ok (.iload_n 2, 1) by decide +kernel) rfl ?_
  refine am_r_bipush (nx := 68) rfl (show decode cX8_readDocument 66 = .ok (.bipush 40, 2) by decide +kernel) rfl ?_
  refine am_r_icmp_lt (tg := 79) (nx := 71) (show decode cX8_readDocument 68 = .ok (.if_icmp .lt 11, 3) by decide +kernel) (by decide) rfl hr1 (by omega) ?_ ?_
  · exact fun q => k1 q
  · exact fun q => k2 q
theorem S_X8_readDocument_71 {G : am_G} {d : Nat} {Q : am_D → Prop} {σ : am_D} {v2 : Int} {v3 : Int} {v4 : Int} {Q' : am_D → Prop} {v1 : Option Nat} (hc : am_MV G d mX7_fail [am_r (some 1), am_i 5] σ Q') (k : ∀ σ' : am_D, Q' σ' → am_X (am_FV G (d + 1) Q) mX8_readDocument (0, 0) 79 [some (am_r (some 3)), some (am_r v1), some (am_i v2), some (am_i v3), some (am_i v4)] [] (am_K0, σ')) : am_X (am_FV G (d + 1) Q) mX8_readDocument (0, 0) 71 [some (am_r (some 3)), some (am_r v1), some (am_i v2), some (am_i v3), some (am_i v4)] [] (am_K0, σ) := by
  refine am_r_aload_n (nx := 72) rfl rfl (show decode cX8_readDocument 71 = .ok (.aload_n 0, 1) by decide +kernel) rfl ?_
  refine am_r_getF (nx := 75) 0 cw8 (by decide) rfl (Or.inl fl_X8_9) (ob_3) (fn_3_0) (show decode cX8_readDocument 72 = .ok (.getfield 9, 3) by decide +kernel) rfl ?_
  refine am_r_iconst (nx := 76) (show decode cX8_readDocument 75 = .ok (.iconst 5, 1) by decide +kernel) rfl ?_
  refine am_r_callV (as := [am_i 5]) (st := []) hc mb_X7_fail mv_X7_fail (Or.inl ml_X8_35) (ob_1) (by omega) (r := (RX7, TX7, 6)) rfl rfl rfl rfl (Nat.le_of_ble_eq_true rfl) ⟨Nat.le_refl _, Nat.le_refl _⟩ ⟨Nat.le_refl _, Nat.le_refl _⟩ (show decode cX8_readDocument 76 = .ok (.invokevirtual 35, 3) by decide +kernel) ?_
  rintro _ _ ⟨σ', rfl, rfl, hq⟩ _
  exact (k σ' hq)
theorem S_X8_readDocument_79 {G : am_G} {d : Nat} {Q : am_D → Prop} {σ : am_D} {v2 : Int} {v3 : Int} {v4 : Int} {Q' : Int → am_D → Prop} {v1 : Option Nat} (hc : am_MI G d mX7_letter [am_r (some 1)] σ Q') (k : ∀ (x : Int) (σ' : am_D), Q' x σ' → am_X (am_FV G (d + 1) Q) mX8_readDocument (0, 0) 87 [some (am_r (some 3)), some (am_r v1), some (am_i v2), some (am_i v3), some (am_i v4)] [am_i x, am_r v1] (am_K0, σ')) : am_X (am_FV G (d + 1) Q) mX8_readDocument (0, 0) 79 [some (am_r (some 3)), some (am_r v1), some (am_i v2), some (am_i v3), some (am_i v4)] [] (am_K0, σ) := by
  refine am_r_aload_n (nx := 80) rfl rfl (show decode cX8_readDocument 79 = .ok (.aload_n 1, 1) by decide +kernel) rfl ?_
  refine am_r_aload_n (nx := 81) rfl rfl (show decode cX8_readDocument 80 = .ok (.aload_n 0, 1) by decide +kernel) rfl ?_
  refine am_r_getF (nx := 84) 0 cw8 (by decide) rfl (Or.inl fl_X8_9) (ob_3) (fn_3_0) (show decode cX8_readDocument 81 = .ok (.getfield 9, 3) by decide +kernel) rfl ?_
  refine am_r_callV (as := []) (st := [am_r v1]) hc mb_X7_letter mv_X7_letter (Or.inl ml_X8_39) (ob_1) (by omega) (r := (RX7, TX7, 6)) rfl rfl rfl rfl (Nat.le_of_ble_eq_true rfl) ⟨Nat.le_refl _, Nat.le_refl _⟩ ⟨Nat.le_refl _, Nat.le_refl _⟩ (show decode cX8_readDocument 84 = .ok (.invokevirtual 39, 3) by decide +kernel) ?_
  rintro _ _ ⟨x, σ', rfl, rfl, hq⟩ _
  exact (k x σ' hq)
theorem S_X8_readDocument_87 {G : am_G} {d : Nat} {Q : am_D → Prop} {σ : am_D} {v2 : Int} {v3 : Int} {v4 : Int} {s1 : Int} {s0 : Nat} {Q' : am_D → Prop} {v1 : Option Nat} (hc : am_MV G d mX0_add [am_r (some s0), am_i s1] σ Q') (hc1 : am_isE s0) (k : ∀ σ' : am_D, Q' σ' → am_X (am_FV G (d + 1) Q) mX8_readDocument (0, 0) 90 [some (am_r (some 3)), some (am_r v1), some (am_i v2), some (am_i v3), some (am_i v4)] [] (am_K0, σ')) : am_X (am_FV G (d + 1) Q) mX8_readDocument (0, 0) 87 [some (am_r (some 3)), some (am_r v1), some (am_i v2), some (am_i v3), some (am_i v4)] [am_i s1, am_r (some s0)] (am_K0, σ) := by
  refine am_r_callV (as := [am_i s1]) (st := []) hc mb_X0_add mv_X0_add (Or.inl ml_X8_43) (obE hc1) (by omega) (r := (RX0, TX0, 2)) rfl rfl rfl rfl (Nat.le_of_ble_eq_true rfl) ⟨Nat.le_refl _, Nat.le_refl _⟩ ⟨Nat.le_refl _, Nat.le_refl _⟩ (show decode cX8_readDocument 87 = .ok (.invokevirtual 43, 3) by decide +kernel) ?_
  rintro _ _ ⟨σ', rfl, rfl, hq⟩ _
  exact (k σ' hq)
theorem S_X8_readDocument_90 {G : am_G} {d : Nat} {Q : am_D → Prop} {σ : am_D} {v2 : Int} {v3 : Int} {v4 : Int} {v1 : Option Nat}  (k : am_X (am_FV G (d + 1) Q) mX8_readDocument (0, 0) 93 [some (am_r (some 3)), some (am_r v1), some (am_i (v2 + 1)), some (am_i v3), some (am_i v4)] [] (am_K0, σ)) : am_X (am_FV G (d + 1) Q) mX8_readDocument (0, 0) 90 [some (am_r (some 3)), some (am_r v1), some (am_i v2), some (am_i v3), some (am_i v4)] [] (am_K0, σ) := by
  refine am_r_iinc (nx := 93) rfl rfl (show decode cX8_readDocument 90 = .ok (.iinc 2 1, 3) by decide +kernel) rfl ?_
  exact k
theorem S_X8_readDocument_93 {G : am_G} {d : Nat} {Q : am_D → Prop} {σ : am_D} {v2 : Int} {v3 : Int} {v4 : Int} {v1 : Option Nat}  (k : am_X (am_FV G (d + 1) Q) mX8_readDocument (0, 0) 134 [some (am_r (some 3)), some (am_r v1), some (am_i v2), some (am_i (v3 + 1)), some (am_i v4)] [] (am_K0, σ)) : am_X (am_FV G (d + 1) Q) mX8_readDocument (0, 0) 93 [some (am_r (some 3)), some (am_r v1), some (am_i v2), some (am_i v3), some (am_i v4)] [] (am_K0, σ) := by
  refine am_r_iinc (nx := 96) rfl rfl (show decode cX8_readDocument 93 = .ok (.iinc 3 1, 3) by decide +kernel) rfl ?_
  refine am_r_goto (tg := 134) (show decode cX8_readDocument 96 = .ok (.goto 38, 3) by decide +kernel) (by decide) ?_
  exact k
theorem S_X8_readDocument_99 {G : am_G} {d : Nat} {Q : am_D → Prop} {σ : am_D} {v2 : Int} {v3 : Int} {v4 : Int} {v1 : Option Nat} (hr1 : -2147483648 ≤ (σ.1 1 2) ∧ (σ.1 1 2) ≤ 2147483647) (k1 : ¬ (σ.1 1 2) = 62 → am_X (am_FV G (d + 1) Q) mX8_readDocument (0, 0) 126 [some (am_r (some 3)), some (am_r v1), some (am_i v2), some (am_i v3), some (am_i v4)] [] (am_K0, σ)) (k2 : ¬ (¬ (σ.1 1 2) = 62) → am_X (am_FV G (d + 1) Q) mX8_readDocument (0, 0) 111 [some (am_r (some 3)), some (am_r v1), some (am_i v2), some (am_i v3), some (am_i v4)] [] (am_K0, σ)) : am_X (am_FV G (d + 1) Q) mX8_readDocument (0, 0) 99 [some (am_r (some 3)), some (am_r v1), some (am_i v2), some (am_i v3), some (am_i v4)] [] (am_K0, σ) := by
  refine am_r_aload_n (nx := 100) rfl rfl (show decode cX8_readDocument 99 = .ok (.aload_n 0, 1) by decide +kernel) rfl ?_
  refine am_r_getF (nx := 103) 0 cw8 (by decide) rfl (Or.inl fl_X8_9) (ob_3) (fn_3_0) (show decode cX8_readDocument 100 = .ok (.getfield 9, 3) by decide +kernel) rfl ?_
  refine am_r_getI (nx := 106) 2 cw7 (by decide) rfl (Or.inr ⟨_, fl_X8_28⟩) (ob_1) (show decode cX8_readDocument 103 = .ok (.getfield 28, 3) by decide +kernel) rfl ?_
  refine am_r_bipush (nx := 108) rfl (show decode cX8_readDocument 106 = .ok (.bipush 62, 2) by decide +kernel) rfl ?_
  refine am_r_icmp_ne (tg := 126) (nx := 111) (show decode cX8_readDocument 108 = .ok (.if_icmp .ne 18, 3) by decide +kernel) (by decide) rfl hr1 (by omega) ?_ ?_
  · exact fun q => k1 q
  · exact fun q => k2 q
theorem S_X8_readDocument_111 {G : am_G} {d : Nat} {Q : am_D → Prop} {σ : am_D} {v2 : Int} {v3 : Int} {v4 : Int} {v1 : Option Nat} (hr1 : -2147483648 ≤ v3 ∧ v3 ≤ 2147483647) (k1 : v3 ≤ 0 → am_X (am_FV G (d + 1) Q) mX8_readDocument (0, 0) 126 [some (am_r (some 3)), some (am_r v1), some (am_i v2), some (am_i v3), some (am_i v4)] [] (am_K0, σ)) (k2 : ¬ (v3 ≤ 0) → am_X (am_FV G (d + 1) Q) mX8_readDocument (0, 0) 115 [some (am_r (some 3)), some (am_r v1), some (am_i v2), some (am_i v3), some (am_i v4)] [] (am_K0, σ)) : am_X (am_FV G (d + 1) Q) mX8_readDocument (0, 0) 111 [some (am_r (some 3)), some (am_r v1), some (am_i v2), some (am_i v3), some (am_i v4)] [] (am_K0, σ) := by
  refine am_r_iload_n (nx := 112) rfl rfl (show decode cX8_readDocument 111 = .ok (.iload_n 3, 1) by decide +kernel) rfl ?_
  refine am_r_if_le (tg := 126) (nx := 115) (show decode cX8_readDocument 112 = .ok (.ifCond .le 14, 3) by decide +kernel) (by decide) rfl hr1 ?_ ?_
  · exact fun q => k1 q
  · exact fun q => k2 q
theorem S_X8_readDocument_115 {G : am_G} {d : Nat} {Q : am_D → Prop} {σ : am_D} {v2 : Int} {v3 : Int} {v4 : Int} {v1 : Nat} {Q' : am_D → Prop} (hc : am_MV G d mX0_add [am_r (some v1), am_i 3] σ Q') (hc1 : am_isE v1) (k : ∀ σ' : am_D, Q' σ' → am_X (am_FV G (d + 1) Q) mX8_readDocument (0, 0) 120 [some (am_r (some 3)), some (am_r (some v1)), some (am_i v2), some (am_i v3), some (am_i v4)] [] (am_K0, σ')) : am_X (am_FV G (d + 1) Q) mX8_readDocument (0, 0) 115 [some (am_r (some 3)), some (am_r (some v1)), some (am_i v2), some (am_i v3), some (am_i v4)] [] (am_K0, σ) := by
  refine am_r_aload_n (nx := 116) rfl rfl (show decode cX8_readDocument 115 = .ok (.aload_n 1, 1) by decide +kernel) rfl ?_
  refine am_r_iconst (nx := 117) (show decode cX8_readDocument 116 = .ok (.iconst 3, 1) by decide +kernel) rfl ?_
  refine am_r_callV (as := [am_i 3]) (st := []) hc mb_X0_add mv_X0_add (Or.inl ml_X8_43) (obE hc1) (by omega) (r := (RX0, TX0, 2)) rfl rfl rfl rfl (Nat.le_of_ble_eq_true rfl) ⟨Nat.le_refl _, Nat.le_refl _⟩ ⟨Nat.le_refl _, Nat.le_refl _⟩ (show decode cX8_readDocument 117 = .ok (.invokevirtual 43, 3) by decide +kernel) ?_
  rintro _ _ ⟨σ', rfl, rfl, hq⟩ _
  exact (k σ' hq)
theorem S_X8_readDocument_120 {G : am_G} {d : Nat} {Q : am_D → Prop} {σ : am_D} {v2 : Int} {v3 : Int} {v4 : Int} {v1 : Option Nat}  (k : am_X (am_FV G (d + 1) Q) mX8_readDocument (0, 0) 134 [some (am_r (some 3)), some (am_r v1), some (am_i v2), some (am_i (v3 + (-1))), some (am_i v4)] [] (am_K0, σ)) : am_X (am_FV G (d + 1) Q) mX8_readDocument (0, 0) 120 [some (am_r (some 3)), some (am_r v1), some (am_i v2), some (am_i v3), some (am_i v4)] [] (am_K0, σ) := by
  refine am_r_iinc (nx := 123) rfl rfl (show decode cX8_readDocument 120 = .ok (.iinc 3 (-1), 3) by decide +kernel) rfl ?_
  refine am_r_goto (tg := 134) (show decode cX8_readDocument 123 = .ok (.goto 11, 3) by decide +kernel) (by decide) ?_
  exact k
theorem S_X8_readDocument_126 {G : am_G} {d : Nat} {Q : am_D → Prop} {σ : am_D} {v2 : Int} {v3 : Int} {v4 : Int} {Q' : am_D → Prop} {v1 : Option Nat} (hc : am_MV G d mX7_fail [am_r (some 1), am_i 1] σ Q') (k : ∀ σ' : am_D, Q' σ' → am_X (am_FV G (d + 1) Q) mX8_readDocument (0, 0) 134 [some (am_r (some 3)), some (am_r v1), some (am_i v2), some (am_i v3), some (am_i v4)] [] (am_K0, σ')) : am_X (am_FV G (d + 1) Q) mX8_readDocument (0, 0) 126 [some (am_r (some 3)), some (am_r v1), some (am_i v2), some (am_i v3), some (am_i v4)] [] (am_K0, σ) := by
  refine am_r_aload_n (nx := 127) rfl rfl (show decode cX8_readDocument 126 = .ok (.aload_n 0, 1) by decide +kernel) rfl ?_
  refine am_r_getF (nx := 130) 0 cw8 (by decide) rfl (Or.inl fl_X8_9) (ob_3) (fn_3_0) (show decode cX8_readDocument 127 = .ok (.getfield 9, 3) by decide +kernel) rfl ?_
  refine am_r_iconst (nx := 131) (show decode cX8_readDocument 130 = .ok (.iconst 1, 1) by decide +kernel) rfl ?_
  refine am_r_callV (as := [am_i 1]) (st := []) hc mb_X7_fail mv_X7_fail (Or.inl ml_X8_35) (ob_1) (by omega) (r := (RX7, TX7, 6)) rfl rfl rfl rfl (Nat.le_of_ble_eq_true rfl) ⟨Nat.le_refl _, Nat.le_refl _⟩ ⟨Nat.le_refl _, Nat.le_refl _⟩ (show decode cX8_readDocument 131 = .ok (.invokevirtual 35, 3) by decide +kernel) ?_
  rintro _ _ ⟨σ', rfl, rfl, hq⟩ _
  exact (k σ' hq)
theorem S_X8_readDocument_134 {G : am_G} {d : Nat} {Q : am_D → Prop} {σ : am_D} {v2 : Int} {v3 : Int} {v4 : Int} {Q' : am_D → Prop} {v1 : Option Nat} (hc : am_MV G d mX7_advance [am_r (some 1)] σ Q') (k : ∀ σ' : am_D, Q' σ' → am_X (am_FV G (d + 1) Q) mX8_readDocument (0, 0) 141 [some (am_r (some 3)), some (am_r v1), some (am_i v2), some (am_i v3), some (am_i v4)] [] (am_K0, σ')) : am_X (am_FV G (d + 1) Q) mX8_readDocument (0, 0) 134 [some (am_r (some 3)), some (am_r v1), some (am_i v2), some (am_i v3), some (am_i v4)] [] (am_K0, σ) := by
  refine am_r_aload_n (nx := 135) rfl rfl (show decode cX8_readDocument 134 = .ok (.aload_n 0, 1) by decide +kernel) rfl ?_
  refine am_r_getF (nx := 138) 0 cw8 (by decide) rfl (Or.inl fl_X8_9) (ob_3) (fn_3_0) (show decode cX8_readDocument 135 = .ok (.getfield 9, 3) by decide +kernel) rfl ?_
  refine am_r_callV (as := []) (st := []) hc mb_X7_advance mv_X7_advance (Or.inl ml_X8_25) (ob_1) (by omega) (r := (RX7, TX7, 6)) rfl rfl rfl rfl (Nat.le_of_ble_eq_true rfl) ⟨Nat.le_refl _, Nat.le_refl _⟩ ⟨Nat.le_refl _, Nat.le_refl _⟩ (show decode cX8_readDocument 138 = .ok (.invokevirtual 25, 3) by decide +kernel) ?_
  rintro _ _ ⟨σ', rfl, rfl, hq⟩ _
  exact (k σ' hq)
theorem S_X8_readDocument_141 {G : am_G} {d : Nat} {Q : am_D → Prop} {σ : am_D} {v2 : Int} {v3 : Int} {v4 : Int} {v1 : Option Nat}  (k : am_X (am_FV G (d + 1) Q) mX8_readDocument (0, 0) 25 [some (am_r (some 3)), some (am_r v1), some (am_i v2), some (am_i v3), some (am_i (v4 + 1))] [] (am_K0, σ)) : am_X (am_FV G (d + 1) Q) mX8_readDocument (0, 0) 141 [some (am_r (some 3)), some (am_r v1), some (am_i v2), some (am_i v3), some (am_i v4)] [] (am_K0, σ) := by
  refine am_r_iinc (nx := 144) rfl rfl (show decode cX8_readDocument 141 = .ok (.iinc 4 1, 3) by decide +kernel) rfl ?_
  refine am_r_goto (tg := 25) (show decode cX8_readDocument 144 = .ok (.goto (-119), 3) by decide +kernel) (by decide) ?_
  exact k
theorem S_X8_readDocument_147 {G : am_G} {d : Nat} {Q : am_D → Prop} {σ : am_D} {v3 : Int} (hr1 : -2147483648 ≤ v3 ∧ v3 ≤ 2147483647) (k1 : v3 ≤ 0 → am_X (am_FV G (d + 1) Q) mX8_readDocument (0, 0) 159 [some (am_r (some 3)), none, none, none, none] [] (am_K0, σ)) (k2 : ¬ (v3 ≤ 0) → am_X (am_FV G (d + 1) Q) mX8_readDocument (0, 0) 151 [some (am_r (some 3)), none, none, none, none] [] (am_K0, σ)) : am_X (am_FV G (d + 1) Q) mX8_readDocument (0, 0) 147 [some (am_r (some 3)), none, none, some (am_i v3), none] [] (am_K0, σ) := by
  refine am_r_iload_n (nx := 148) rfl rfl (show decode cX8_readDocument 147 = .ok (.iload_n 3, 1) by decide +kernel) rfl ?_
  refine am_r_if_le (tg := 159) (nx := 151) (show decode cX8_readDocument 148 = .ok (.ifCond .le 11, 3) by decide +kernel) (by decide) rfl hr1 ?_ ?_
  · exact fun q => am_x_fg [3] (k1 q)
  · exact fun q => am_x_fg [3] (k2 q)
theorem S_X8_readDocument_151 {G : am_G} {d : Nat} {Q : am_D → Prop} {σ : am_D} {Q' : am_D → Prop} (hc : am_MV G d mX7_fail [am_r (some 1), am_i 1] σ Q') (k : ∀ σ' : am_D, Q' σ' → am_X (am_FV G (d + 1) Q) mX8_readDocument (0, 0) 159 [some (am_r (some 3)), none, none, none, none] [] (am_K0, σ')) : am_X (am_FV G (d + 1) Q) mX8_readDocument (0, 0) 151 [some (am_r (some 3)), none, none, none, none] [] (am_K0, σ) := by
  refine am_r_aload_n (nx := 152) rfl rfl (show decode cX8_readDocument 151 = .ok (.aload_n 0, 1) by decide +kernel) rfl ?_
  refine am_r_getF (nx := 155) 0 cw8 (by decide) rfl (Or.inl fl_X8_9) (ob_3) (fn_3_0) (show decode cX8_readDocument 152 = .ok (.getfield 9, 3) by decide +kernel) rfl ?_
  refine am_r_iconst (nx := 156) (show decode cX8_readDocument 155 = .ok (.iconst 1, 1) by decide +kernel) rfl ?_
  refine am_r_callV (as := [am_i 1]) (st := []) hc mb_X7_fail mv_X7_fail (Or.inl ml_X8_35) (ob_1) (by omega) (r := (RX7, TX7, 6)) rfl rfl rfl rfl (Nat.le_of_ble_eq_true rfl) ⟨Nat.le_refl _, Nat.le_refl _⟩ ⟨Nat.le_refl _, Nat.le_refl _⟩ (show decode cX8_readDocument 156 = .ok (.invokevirtual 35, 3) by decide +kernel) ?_
  rintro _ _ ⟨σ', rfl, rfl, hq⟩ _
  exact (k σ' hq)
theorem S_X8_readDocument_159 {G : am_G} {d : Nat} {Q : am_D → Prop} {σ : am_D}   (k : am_X (am_FV G (d + 1) Q) mX8_readDocument (0, 0) 167 [none, none, none, none, none] [] (am_K0, (am_pI σ 1 1 0))) : am_X (am_FV G (d + 1) Q) mX8_readDocument (0, 0) 159 [some (am_r (some 3)), none, none, none, none] [] (am_K0, σ) := by
  refine am_r_aload_n (nx := 160) rfl rfl (show decode cX8_readDocument 159 = .ok (.aload_n 0, 1) by decide +kernel) rfl ?_
  refine am_r_getF (nx := 163) 0 cw8 (by decide) rfl (Or.inl fl_X8_9) (ob_3) (fn_3_0) (show decode cX8_readDocument 160 = .ok (.getfield 9, 3) by decide +kernel) rfl ?_
  refine am_r_iconst (nx := 164) (show decode cX8_readDocument 163 = .ok (.iconst 0, 1) by decide +kernel) rfl ?_
  refine am_r_putI (nx := 167) 1 cw7 (by decide) rfl (Or.inr ⟨_, fl_X8_46⟩) (ob_1) rfl (Or.inl rfl) (show decode cX8_readDocument 164 = .ok (.putfield 46, 3) by decide +kernel) rfl ?_
  exact am_x_fg [0] k
theorem S_X8_readDocument_167 {G : am_G} {d : Nat} {Q : am_D → Prop} {σ : am_D}   (k : Q σ) : am_X (am_FV G (d + 1) Q) mX8_readDocument (0, 0) 167 [none, none, none, none, none] [] (am_K0, σ) := by
  exact am_r_vret rfl (show decode cX8_readDocument 167 = .ok (.return_, 1) by decide +kernel) ⟨_, rfl, rfl, k⟩
theorem S_X8_readMachine_0 {G : am_G} {d : Nat} {Q : am_D → Prop} {σ : am_D} {v1 : Nat} {Q' : am_D → Prop} (hc : am_MV G d mX2_clear [am_r (some v1)] σ Q') (hc1 : am_isM v1) (k : ∀ σ' : am_D, Q' σ' → am_X (am_FV G (d + 1) Q) mX8_readMachine (0, 0) 4 [some (am_r (some 3)), some (am_r (some v1)), none] [] (am_K0, σ')) : am_X (am_FV G (d + 1) Q) mX8_readMachine (0, 0) 0 [some (am_r (some 3)), some (am_r (some v1)), none] [] (am_K0, σ) := by
  refine am_r_aload_n (nx := 1) rfl rfl (show decode cX8_readMachine 0 = .ok (.aload_n 1, 1) by decide +kernel) rfl ?_
  refine am_r_callV (as := []) (st := []) hc mb_X2_clear mv_X2_clear (Or.inl ml_X8_49) (obM hc1) (by omega) (r := (RX2, TX2, 16)) rfl rfl rfl rfl (Nat.le_of_ble_eq_true rfl) ⟨Nat.le_refl _, Nat.le_refl _⟩ ⟨Nat.le_refl _, Nat.le_refl _⟩ (show decode cX8_readMachine 1 = .ok (.invokevirtual 49, 3) by decide +kernel) ?_
  rintro _ _ ⟨σ', rfl, rfl, hq⟩ _
  exact (k σ' hq)
theorem S_X8_readMachine_4 {G : am_G} {d : Nat} {Q : am_D → Prop} {σ : am_D} {Q' : am_D → Prop} {v1 : Option Nat} (hc : am_MV G d mX7_rewind [am_r (some 1)] σ Q') (k : ∀ σ' : am_D, Q' σ' → am_X (am_FV G (d + 1) Q) mX8_readMachine (0, 0) 11 [some (am_r (some 3)), some (am_r v1), none] [] (am_K0, σ')) : am_X (am_FV G (d + 1) Q) mX8_readMachine (0, 0) 4 [some (am_r (some 3)), some (am_r v1), none] [] (am_K0, σ) := by
  refine am_r_aload_n (nx := 5) rfl rfl (show decode cX8_readMachine 4 = .ok (.aload_n 0, 1) by decide +kernel) rfl ?_
  refine am_r_getF (nx := 8) 0 cw8 (by decide) rfl (Or.inl fl_X8_9) (ob_3) (fn_3_0) (show decode cX8_readMachine 5 = .ok (.getfield 9, 3) by decide +kernel) rfl ?_
  refine am_r_callV (as := []) (st := []) hc mb_X7_rewind mv_X7_rewind (Or.inl ml_X8_20) (ob_1) (by omega) (r := (RX7, TX7, 6)) rfl rfl rfl rfl (Nat.le_of_ble_eq_true rfl) ⟨Nat.le_refl _, Nat.le_refl _⟩ ⟨Nat.le_refl _, Nat.le_refl _⟩ (show decode cX8_readMachine 8 = .ok (.invokevirtual 20, 3) by decide +kernel) ?_
  rintro _ _ ⟨σ', rfl, rfl, hq⟩ _
  exact (k σ' hq)
theorem S_X8_readMachine_11 {G : am_G} {d : Nat} {Q : am_D → Prop} {σ : am_D} {Q' : am_D → Prop} {v1 : Option Nat} (hc : am_MV G d mX7_advance [am_r (some 1)] σ Q') (k : ∀ σ' : am_D, Q' σ' → am_X (am_FV G (d + 1) Q) mX8_readMachine (0, 0) 18 [some (am_r (some 3)), some (am_r v1), none] [] (am_K0, σ')) : am_X (am_FV G (d + 1) Q) mX8_readMachine (0, 0) 11 [some (am_r (some 3)), some (am_r v1), none] [] (am_K0, σ) := by
  refine am_r_aload_n (nx := 12) rfl rfl (show decode cX8_readMachine 11 = .ok (.aload_n 0, 1) by decide +kernel) rfl ?_
  refine am_r_getF (nx := 15) 0 cw8 (by decide) rfl (Or.inl fl_X8_9) (ob_3) (fn_3_0) (show decode cX8_readMachine 12 = .ok (.getfield 9, 3) by decide +kernel) rfl ?_
  refine am_r_callV (as := []) (st := []) hc mb_X7_advance mv_X7_advance (Or.inl ml_X8_25) (ob_1) (by omega) (r := (RX7, TX7, 6)) rfl rfl rfl rfl (Nat.le_of_ble_eq_true rfl) ⟨Nat.le_refl _, Nat.le_refl _⟩ ⟨Nat.le_refl _, Nat.le_refl _⟩ (show decode cX8_readMachine 15 = .ok (.invokevirtual 25, 3) by decide +kernel) ?_
  rintro _ _ ⟨σ', rfl, rfl, hq⟩ _
  exact (k σ' hq)
theorem S_X8_readMachine_18 {G : am_G} {d : Nat} {Q : am_D → Prop} {σ : am_D} {Q' : Int → am_D → Prop} {v1 : Option Nat} (hc : am_MI G d mX7_isWord [am_r (some 1), am_s 0] σ Q') (k : ∀ (x : Int) (σ' : am_D), Q' x σ' → am_X (am_FV G (d + 1) Q) mX8_readMachine (0, 0) 27 [some (am_r (some 3)), some (am_r v1), none] [am_i x] (am_K0, σ')) : am_X (am_FV G (d + 1) Q) mX8_readMachine (0, 0) 18 [some (am_r (some 3)), some (am_r v1), none] [] (am_K0, σ) := by
  refine am_r_aload_n (nx := 19) rfl rfl (show decode cX8_readMachine 18 = .ok (.aload_n 0, 1) by decide +kernel) rfl ?_
  refine am_r_getF (nx := 22) 0 cw8 (by decide) rfl (Or.inl fl_X8_9) (ob_3) (fn_3_0) (show decode cX8_readMachine 19 = .ok (.getfield 9, 3) by decide +kernel) rfl ?_
  refine am_r_ldcS (nx := 24) (i := 0) (tx := "machine") (by decide +kernel) (show decode cX8_readMachine 22 = .ok (.ldc 52, 2) by decide +kernel) rfl ?_
  refine am_r_callV (as := [am_s 0]) (st := []) hc mb_X7_isWord mv_X7_isWord (Or.inl ml_X8_54) (ob_1) (by omega) (r := (RX7, TX7, 6)) rfl rfl rfl rfl (Nat.le_of_ble_eq_true rfl) ⟨Nat.le_refl _, Nat.le_refl _⟩ ⟨Nat.le_refl _, Nat.le_refl _⟩ (show decode cX8_readMachine 24 = .ok (.invokevirtual 54, 3) by decide +kernel) ?_
  rintro _ _ ⟨x, σ', rfl, rfl, hq⟩ _
  exact (k x σ' hq)
theorem S_X8_readMachine_27 {G : am_G} {d : Nat} {Q : am_D → Prop} {σ : am_D} {s0 : Int} {v1 : Option Nat} (hr1 : -2147483648 ≤ s0 ∧ s0 ≤ 2147483647) (k1 : ¬ s0 = 0 → am_X (am_FV G (d + 1) Q) mX8_readMachine (0, 0) 38 [some (am_r (some 3)), some (am_r v1), none] [] (am_K0, σ)) (k2 : ¬ (¬ s0 = 0) → am_X (am_FV G (d + 1) Q) mX8_readMachine (0, 0) 30 [some (am_r (some 3)), some (am_r v1), none] [] (am_K0, σ)) : am_X (am_FV G (d + 1) Q) mX8_readMachine (0, 0) 27 [some (am_r (some 3)), some (am_r v1), none] [am_i s0] (am_K0, σ) := by
  refine am_r_if_ne (tg := 38) (nx := 30) (show decode cX8_readMachine 27 = .ok (.ifCond .ne 11, 3) by decide +kernel) (by decide) rfl hr1 ?_ ?_
  · exact fun q => k1 q
  · exact fun q => k2 q
theorem S_X8_readMachine_30 {G : am_G} {d : Nat} {Q : am_D → Prop} {σ : am_D} {Q' : am_D → Prop} {v1 : Option Nat} (hc : am_MV G d mX7_fail [am_r (some 1), am_i 1] σ Q') (k : ∀ σ' : am_D, Q' σ' → am_X (am_FV G (d + 1) Q) mX8_readMachine (0, 0) 38 [some (am_r (some 3)), some (am_r v1), none] [] (am_K0, σ')) : am_X (am_FV G (d + 1) Q) mX8_readMachine (0, 0) 30 [some (am_r (some 3)), some (am_r v1), none] [] (am_K0, σ) := by
  refine am_r_aload_n (nx := 31) rfl rfl (show decode cX8_readMachine 30 = .ok (.aload_n 0, 1) by decide +kernel) rfl ?_
  refine am_r_getF (nx := 34) 0 cw8 (by decide) rfl (Or.inl fl_X8_9) (ob_3) (fn_3_0) (show decode cX8_readMachine 31 = .ok (.getfield 9, 3) by decide +kernel) rfl ?_
  refine am_r_iconst (nx := 35) (show decode cX8_readMachine 34 = .ok (.iconst 1, 1) by decide +kernel) rfl ?_
  refine am_r_callV (as := [am_i 1]) (st := []) hc mb_X7_fail mv_X7_fail (Or.inl ml_X8_35) (ob_1) (by omega) (r := (RX7, TX7, 6)) rfl rfl rfl rfl (Nat.le_of_ble_eq_true rfl) ⟨Nat.le_refl _, Nat.le_refl _⟩ ⟨Nat.le_refl _, Nat.le_refl _⟩ (show decode cX8_readMachine 35 = .ok (.invokevirtual 35, 3) by decide +kernel) ?_
  rintro _ _ ⟨σ', rfl, rfl, hq⟩ _
  exact (k σ' hq)
theorem S_X8_readMachine_38 {G : am_G} {d : Nat} {Q : am_D → Prop} {σ : am_D} {Q' : Int → am_D → Prop} {v1 : Option Nat} (hc : am_MI G d mX7_digit [am_r (some 1), am_i 1, am_i 6] σ Q') (k : ∀ (x : Int) (σ' : am_D), Q' x σ' → am_X (am_FV G (d + 1) Q) mX8_readMachine (0, 0) 49 [some (am_r (some 3)), some (am_r v1), none] [am_i x, am_r v1] (am_K0, σ')) : am_X (am_FV G (d + 1) Q) mX8_readMachine (0, 0) 38 [some (am_r (some 3)), some (am_r v1), none] [] (am_K0, σ) := by
  refine am_r_aload_n (nx := 39) rfl rfl (show decode cX8_readMachine 38 = .ok (.aload_n 1, 1) by decide +kernel) rfl ?_
  refine am_r_aload_n (nx := 40) rfl rfl (show decode cX8_readMachine 39 = .ok (.aload_n 0, 1) by decide +kernel) rfl ?_
  refine am_r_getF (nx := 43) 0 cw8 (by decide) rfl (Or.inl fl_X8_9) (ob_3) (fn_3_0) (show decode cX8_readMachine 40 = .ok (.getfield 9, 3) by decide +kernel) rfl ?_
  refine am_r_iconst (nx := 44) (show decode cX8_readMachine 43 = .ok (.iconst 1, 1) by decide +kernel) rfl ?_
  refine am_r_bipush (nx := 46) rfl (show decode cX8_readMachine 44 = .ok (.bipush 6, 2) by decide +kernel) rfl ?_
  refine am_r_callV (as := [am_i 1, am_i 6]) (st := [am_r v1]) hc mb_X7_digit mv_X7_digit (Or.inl ml_X8_58) (ob_1) (by omega) (r := (RX7, TX7, 6)) rfl rfl rfl rfl (Nat.le_of_ble_eq_true rfl) ⟨Nat.le_refl _, Nat.le_refl _⟩ ⟨Nat.le_refl _, Nat.le_refl _⟩ (show decode cX8_readMachine 46 = .ok (.invokevirtual 58, 3) by decide +kernel) ?_
  rintro _ _ ⟨x, σ', rfl, rfl, hq⟩ _
  exact (k x σ' hq)
theorem S_X8_readMachine_49 {G : am_G} {d : Nat} {Q : am_D → Prop} {σ : am_D} {s1 : Int} {s0 : Nat} {v1 : Option Nat} (hc1 : am_isM s0) (k : am_X (am_FV G (d + 1) Q) mX8_readMachine (0, 0) 52 [some (am_r (some 3)), some (am_r v1), none] [] (am_K0, (am_pI σ s0 0 s1))) : am_X (am_FV G (d + 1) Q) mX8_readMachine (0, 0) 49 [some (am_r (some 3)), some (am_r v1), none] [am_i s1, am_r (some s0)] (am_K0, σ) := by
  refine am_r_putI (nx := 52) 0 cw2 (by decide) rfl (Or.inr ⟨_, fl_X8_62⟩) (obM hc1) rfl (Or.inl rfl) (show decode cX8_readMachine 49 = .ok (.putfield 62, 3) by decide +kernel) rfl ?_
  exact k
theorem S_X8_readMachine_52 {G : am_G} {d : Nat} {Q : am_D → Prop} {σ : am_D} {Q' : Int → am_D → Prop} {v1 : Option Nat} (hc : am_MI G d mX7_digit [am_r (some 1), am_i 1, am_i 3] σ Q') (k : ∀ (x : Int) (σ' : am_D), Q' x σ' → am_X (am_FV G (d + 1) Q) mX8_readMachine (0, 0) 62 [some (am_r (some 3)), some (am_r v1), none] [am_i x, am_r v1] (am_K0, σ')) : am_X (am_FV G (d + 1) Q) mX8_readMachine (0, 0) 52 [some (am_r (some 3)), some (am_r v1), none] [] (am_K0, σ) := by
  refine am_r_aload_n (nx := 53) rfl rfl (show decode cX8_readMachine 52 = .ok (.aload_n 1, 1) by decide +kernel) rfl ?_
  refine am_r_aload_n (nx := 54) rfl rfl (show decode cX8_readMachine 53 = .ok (.aload_n 0, 1) by decide +kernel) rfl ?_
  refine am_r_getF (nx := 57) 0 cw8 (by decide) rfl (Or.inl fl_X8_9) (ob_3) (fn_3_0) (show decode cX8_readMachine 54 = .ok (.getfield 9, 3) by decide +kernel) rfl ?_
  refine am_r_iconst (nx := 58) (show decode cX8_readMachine 57 = .ok (.iconst 1, 1) by decide +kernel) rfl ?_
  refine am_r_iconst (nx := 59) (show decode cX8_readMachine 58 = .ok (.iconst 3, 1) by decide +kernel) rfl ?_
  refine am_r_callV (as := [am_i 1, am_i 3]) (st := [am_r v1]) hc mb_X7_digit mv_X7_digit (Or.inl ml_X8_58) (ob_1) (by omega) (r := (RX7, TX7, 6)) rfl rfl rfl rfl (Nat.le_of_ble_eq_true rfl) ⟨Nat.le_refl _, Nat.le_refl _⟩ ⟨Nat.le_refl _, Nat.le_refl _⟩ (show decode cX8_readMachine 59 = .ok (.invokevirtual 58, 3) by decide +kernel) ?_
  rintro _ _ ⟨x, σ', rfl, rfl, hq⟩ _
  exact (k x σ' hq)
theorem S_X8_readMachine_62 {G : am_G} {d : Nat} {Q : am_D → Prop} {σ : am_D} {s1 : Int} {s0 : Nat} {v1 : Option Nat} (hc1 : am_isM s0) (k : am_X (am_FV G (d + 1) Q) mX8_readMachine (0, 0) 65 [some (am_r (some 3)), some (am_r v1), none] [] (am_K0, (am_pI σ s0 1 s1))) : am_X (am_FV G (d + 1) Q) mX8_readMachine (0, 0) 62 [some (am_r (some 3)), some (am_r v1), none] [am_i s1, am_r (some s0)] (am_K0, σ) := by
  refine am_r_putI (nx := 65) 1 cw2 (by decide) rfl (Or.inr ⟨_, fl_X8_65⟩) (obM hc1) rfl (Or.inl rfl) (show decode cX8_readMachine 62 = .ok (.putfield 65, 3) by decide +kernel) rfl ?_
  exact k
theorem S_X8_readMachine_65 {G : am_G} {d : Nat} {Q : am_D → Prop} {σ : am_D} {Q' : am_D → Prop} {v1 : Option Nat} (hc : am_MV G d mX7_advance [am_r (some 1)] σ Q') (k : ∀ σ' : am_D, Q' σ' → am_X (am_FV G (d + 1) Q) mX8_readMachine (0, 0) 72 [some (am_r (some 3)), some (am_r v1), none] [] (am_K0, σ')) : am_X (am_FV G (d + 1) Q) mX8_readMachine (0, 0) 65 [some (am_r (some 3)), some (am_r v1), none] [] (am_K0, σ) := by
  refine am_r_aload_n (nx := 66) rfl rfl (show decode cX8_readMachine 65 = .ok (.aload_n 0, 1) by decide +kernel) rfl ?_
  refine am_r_getF (nx := 69) 0 cw8 (by decide) rfl (Or.inl fl_X8_9) (ob_3) (fn_3_0) (show decode cX8_readMachine 66 = .ok (.getfield 9, 3) by decide +kernel) rfl ?_
  refine am_r_callV (as := []) (st := []) hc mb_X7_advance mv_X7_advance (Or.inl ml_X8_25) (ob_1) (by omega) (r := (RX7, TX7, 6)) rfl rfl rfl rfl (Nat.le_of_ble_eq_true rfl) ⟨Nat.le_refl _, Nat.le_refl _⟩ ⟨Nat.le_refl _, Nat.le_refl _⟩ (show decode cX8_readMachine 69 = .ok (.invokevirtual 25, 3) by decide +kernel) ?_
  rintro _ _ ⟨σ', rfl, rfl, hq⟩ _
  exact (k σ' hq)
theorem S_X8_readMachine_72 {G : am_G} {d : Nat} {Q : am_D → Prop} {σ : am_D} {v1 : Option Nat}  (k : am_X (am_FV G (d + 1) Q) mX8_readMachine (0, 0) 74 [some (am_r (some 3)), some (am_r v1), some (am_i 0)] [] (am_K0, σ)) : am_X (am_FV G (d + 1) Q) mX8_readMachine (0, 0) 72 [some (am_r (some 3)), some (am_r v1), none] [] (am_K0, σ) := by
  refine am_r_iconst (nx := 73) (show decode cX8_readMachine 72 = .ok (.iconst 0, 1) by decide +kernel) rfl ?_
  refine am_r_istore_n (nx := 74) rfl (by decide) rfl (show decode cX8_readMachine 73 = .ok (.istore_n 2, 1) by decide +kernel) rfl ?_
  exact k
theorem S_X8_readMachine_74 {G : am_G} {d : Nat} {Q : am_D → Prop} {σ : am_D} {v2 : Int} {v1 : Option Nat} (hr1 : -2147483648 ≤ v2 ∧ v2 ≤ 2147483647) (k1 : 600 < v2 → am_X (am_FV G (d + 1) Q) mX8_readMachine (0, 0) 159 [some (am_r (some 3)), none, none] [] (am_K0, σ)) (k2 : ¬ (600 < v2) → am_X (am_FV G (d + 1) Q) mX8_readMachine (0, 0) 81 [some (am_r (some 3)), some (am_r v1), some (am_i v2)] [] (am_K0, σ)) : am_X (am_FV G (d + 1) Q) mX8_readMachine (0, 0) 74 [some (am_r (some 3)), some (am_r v1), some (am_i v2)] [] (am_K0, σ) := by
  refine am_r_iload_n (nx := 75) rfl rfl (show decode cX8_readMachine 74 = .ok (.iload_n 2, 1) by decide +kernel) rfl ?_
  refine am_r_sipush (nx := 78) rfl (show decode cX8_readMachine 75 = .ok (.sipush 600, 3) by decide +kernel) rfl ?_
  refine am_r_icmp_gt (tg := 159) (nx := 81) (show decode cX8_readMachine 78 = .ok (.if_icmp .gt 81, 3) by decide +kernel) (by decide) rfl hr1 (by omega) ?_ ?_
  · exact fun q => am_x_fg [1, 2] (k1 q)
  · exact fun q => k2 q
theorem S_X8_readMachine_81 {G : am_G} {d : Nat} {Q : am_D → Prop} {σ : am_D} {v2 : Int} {v1 : Option Nat} (hr1 : -2147483648 ≤ (σ.1 1 2) ∧ (σ.1 1 2) ≤ 2147483647) (k1 : ¬ (σ.1 1 2) = 59 → am_X (am_FV G (d + 1) Q) mX8_readMachine (0, 0) 159 [some (am_r (some 3)), none, none] [] (am_K0, σ)) (k2 : ¬ (¬ (σ.1 1 2) = 59) → am_X (am_FV G (d + 1) Q) mX8_readMachine (0, 0) 93 [some (am_r (some 3)), some (am_r v1), some (am_i v2)] [] (am_K0, σ)) : am_X (am_FV G (d + 1) Q) mX8_readMachine (0, 0) 81 [some (am_r (some 3)), some (am_r v1), some (am_i v2)] [] (am_K0, σ) := by
  refine am_r_aload_n (nx := 82) rfl rfl (show decode cX8_readMachine 81 = .ok (.aload_n 0, 1) by decide +kernel) rfl ?_
  refine am_r_getF (nx := 85) 0 cw8 (by decide) rfl (Or.inl fl_X8_9) (ob_3) (fn_3_0) (show decode cX8_readMachine 82 = .ok (.getfield 9, 3) by decide +kernel) rfl ?_
  refine am_r_getI (nx := 88) 2 cw7 (by decide) rfl (Or.inr ⟨_, fl_X8_28⟩) (ob_1) (show decode cX8_readMachine 85 = .ok (.getfield 28, 3) by decide +kernel) rfl ?_
  refine am_r_bipush (nx := 90) rfl (show decode cX8_readMachine 88 = .ok (.bipush 59, 2) by decide +kernel) rfl ?_
  refine am_r_icmp_ne (tg := 159) (nx := 93) (show decode cX8_readMachine 90 = .ok (.if_icmp .ne 69, 3) by decide +kernel) (by decide) rfl hr1 (by omega) ?_ ?_
  · exact fun q => am_x_fg [1, 2] (k1 q)
  · exact fun q => k2 q
theorem S_X8_readMachine_93 {G : am_G} {d : Nat} {Q : am_D → Prop} {σ : am_D} {v2 : Int} {v1 : Option Nat} (hr1 : -2147483648 ≤ (σ.1 1 5) ∧ (σ.1 1 5) ≤ 2147483647) (k1 : ¬ (σ.1 1 5) = 0 → am_X (am_FV G (d + 1) Q) mX8_readMachine (0, 0) 159 [some (am_r (some 3)), none, none] [] (am_K0, σ)) (k2 : ¬ (¬ (σ.1 1 5) = 0) → am_X (am_FV G (d + 1) Q) mX8_readMachine (0, 0) 103 [some (am_r (some 3)), some (am_r v1), some (am_i v2)] [] (am_K0, σ)) : am_X (am_FV G (d + 1) Q) mX8_readMachine (0, 0) 93 [some (am_r (some 3)), some (am_r v1), some (am_i v2)] [] (am_K0, σ) := by
  refine am_r_aload_n (nx := 94) rfl rfl (show decode cX8_readMachine 93 = .ok (.aload_n 0, 1) by decide +kernel) rfl ?_
  refine am_r_getF (nx := 97) 0 cw8 (by decide) rfl (Or.inl fl_X8_9) (ob_3) (fn_3_0) (show decode cX8_readMachine 94 = .ok (.getfield 9, 3) by decide +kernel) rfl ?_
  refine am_r_getI (nx := 100) 5 cw7 (by decide) rfl (Or.inr ⟨_, fl_X8_32⟩) (ob_1) (show decode cX8_readMachine 97 = .ok (.getfield 32, 3) by decide +kernel) rfl ?_
  refine am_r_if_ne (tg := 159) (nx := 103) (show decode cX8_readMachine 100 = .ok (.ifCond .ne 59, 3) by decide +kernel) (by decide) rfl hr1 ?_ ?_
  · exact fun q => am_x_fg [1, 2] (k1 q)
  · exact fun q => k2 q
theorem S_X8_readMachine_103 {G : am_G} {d : Nat} {Q : am_D → Prop} {σ : am_D} {v2 : Int} {v1 : Option Nat} {Q' : am_D → Prop} (hc : am_MV G d mX8_startRule [am_r (some 3), am_r v1] σ Q') (k : ∀ σ' : am_D, Q' σ' → am_X (am_FV G (d + 1) Q) mX8_readMachine (0, 0) 108 [some (am_r (some 3)), some (am_r v1), some (am_i v2)] [] (am_K0, σ')) : am_X (am_FV G (d + 1) Q) mX8_readMachine (0, 0) 103 [some (am_r (some 3)), some (am_r v1), some (am_i v2)] [] (am_K0, σ) := by
  refine am_r_aload_n (nx := 104) rfl rfl (show decode cX8_readMachine 103 = .ok (.aload_n 0, 1) by decide +kernel) rfl ?_
  refine am_r_aload_n (nx := 105) rfl rfl (show decode cX8_readMachine 104 = .ok (.aload_n 1, 1) by decide +kernel) rfl ?_
  refine am_r_callV (as := [am_r v1]) (st := []) hc mb_X8_startRule mv_X8_startRule (Or.inl ml_X8_68) (ob_3) (by omega) (r := (RX8, TX8, 3)) rfl rfl rfl rfl (Nat.le_of_ble_eq_true rfl) ⟨Nat.le_refl _, Nat.le_refl _⟩ ⟨Nat.le_refl _, Nat.le_refl _⟩ (show decode cX8_readMachine 105 = .ok (.invokevirtual 68, 3) by decide +kernel) ?_
  rintro _ _ ⟨σ', rfl, rfl, hq⟩ _
  exact (k σ' hq)
theorem S_X8_readMachine_108 {G : am_G} {d : Nat} {Q : am_D → Prop} {σ : am_D} {v2 : Int} {Q' : Int → am_D → Prop} {v1 : Option Nat} (hc : am_MI G d mX7_isWord [am_r (some 1), am_s 1] σ Q') (k : ∀ (x : Int) (σ' : am_D), Q' x σ' → am_X (am_FV G (d + 1) Q) mX8_readMachine (0, 0) 117 [some (am_r (some 3)), some (am_r v1), some (am_i v2)] [am_i x] (am_K0, σ')) : am_X (am_FV G (d + 1) Q) mX8_readMachine (0, 0) 108 [some (am_r (some 3)), some (am_r v1), some (am_i v2)] [] (am_K0, σ) := by
  refine am_r_aload_n (nx := 109) rfl rfl (show decode cX8_readMachine 108 = .ok (.aload_n 0, 1) by decide +kernel) rfl ?_
  refine am_r_getF (nx := 112) 0 cw8 (by decide) rfl (Or.inl fl_X8_9) (ob_3) (fn_3_0) (show decode cX8_readMachine 109 = .ok (.getfield 9, 3) by decide +kernel) rfl ?_
  refine am_r_ldcS (nx := 114) (i := 1) (tx := "open") (by decide +kernel) (show decode cX8_readMachine 112 = .ok (.ldc 72, 2) by decide +kernel) rfl ?_
  refine am_r_callV (as := [am_s 1]) (st := []) hc mb_X7_isWord mv_X7_isWord (Or.inl ml_X8_54) (ob_1) (by omega) (r := (RX7, TX7, 6)) rfl rfl rfl rfl (Nat.le_of_ble_eq_true rfl) ⟨Nat.le_refl _, Nat.le_refl _⟩ ⟨Nat.le_refl _, Nat.le_refl _⟩ (show decode cX8_readMachine 114 = .ok (.invokevirtual 54, 3) by decide +kernel) ?_
  rintro _ _ ⟨x, σ', rfl, rfl, hq⟩ _
  exact (k x σ' hq)
theorem S_X8_readMachine_117 {G : am_G} {d : Nat} {Q : am_D → Prop} {σ : am_D} {v2 : Int} {s0 : Int} {v1 : Option Nat} (hr1 : -2147483648 ≤ s0 ∧ s0 ≤ 2147483647) (k1 : s0 = 0 → am_X (am_FV G (d + 1) Q) mX8_readMachine (0, 0) 128 [some (am_r (some 3)), some (am_r v1), some (am_i v2)] [] (am_K0, σ)) (k2 : ¬ (s0 = 0) → am_X (am_FV G (d + 1) Q) mX8_readMachine (0, 0) 120 [some (am_r (some 3)), some (am_r v1), some (am_i v2)] [] (am_K0, σ)) : am_X (am_FV G (d + 1) Q) mX8_readMachine (0, 0) 117 [some (am_r (some 3)), some (am_r v1), some (am_i v2)] [am_i s0] (am_K0, σ) := by
  refine am_r_if_eq (tg := 128) (nx := 120) (show decode cX8_readMachine 117 = .ok (.ifCond .eq 11, 3) by decide +kernel) (by decide) rfl hr1 ?_ ?_
  · exact fun q => k1 q
  · exact fun q => k2 q
theorem S_X8_readMachine_120 {G : am_G} {d : Nat} {Q : am_D → Prop} {σ : am_D} {v2 : Int} {v1 : Option Nat} {Q' : am_D → Prop} (hc : am_MV G d mX8_readOpen [am_r (some 3), am_r v1] σ Q') (k : ∀ σ' : am_D, Q' σ' → am_X (am_FV G (d + 1) Q) mX8_readMachine (0, 0) 125 [some (am_r (some 3)), some (am_r v1), some (am_i v2)] [] (am_K0, σ')) : am_X (am_FV G (d + 1) Q) mX8_readMachine (0, 0) 120 [some (am_r (some 3)), some (am_r v1), some (am_i v2)] [] (am_K0, σ) := by
  refine am_r_aload_n (nx := 121) rfl rfl (show decode cX8_readMachine 120 = .ok (.aload_n 0, 1) by decide +kernel) rfl ?_
  refine am_r_aload_n (nx := 122) rfl rfl (show decode cX8_readMachine 121 = .ok (.aload_n 1, 1) by decide +kernel) rfl ?_
  refine am_r_callV (as := [am_r v1]) (st := []) hc mb_X8_readOpen mv_X8_readOpen (Or.inl ml_X8_74) (ob_3) (by omega) (r := (RX8, TX8, 3)) rfl rfl rfl rfl (Nat.le_of_ble_eq_true rfl) ⟨Nat.le_refl _, Nat.le_refl _⟩ ⟨Nat.le_refl _, Nat.le_refl _⟩ (show decode cX8_readMachine 122 = .ok (.invokevirtual 74, 3) by decide +kernel) ?_
  rintro _ _ ⟨σ', rfl, rfl, hq⟩ _
  exact (k σ' hq)
theorem S_X8_readMachine_125 {G : am_G} {d : Nat} {Q : am_D → Prop} {σ : am_D} {v2 : Int} {v1 : Option Nat}  (k : am_X (am_FV G (d + 1) Q) mX8_readMachine (0, 0) 153 [some (am_r (some 3)), some (am_r v1), some (am_i v2)] [] (am_K0, σ)) : am_X (am_FV G (d + 1) Q) mX8_readMachine (0, 0) 125 [some (am_r (some 3)), some (am_r v1), some (am_i v2)] [] (am_K0, σ) := by
  refine am_r_goto (tg := 153) (show decode cX8_readMachine 125 = .ok (.goto 28, 3) by decide +kernel) (by decide) ?_
  exact k
theorem S_X8_readMachine_128 {G : am_G} {d : Nat} {Q : am_D → Prop} {σ : am_D} {v2 : Int} {Q' : Int → am_D → Prop} {v1 : Option Nat} (hc : am_MI G d mX7_isWord [am_r (some 1), am_s 2] σ Q') (k : ∀ (x : Int) (σ' : am_D), Q' x σ' → am_X (am_FV G (d + 1) Q) mX8_readMachine (0, 0) 137 [some (am_r (some 3)), some (am_r v1), some (am_i v2)] [am_i x] (am_K0, σ')) : am_X (am_FV G (d + 1) Q) mX8_readMachine (0, 0) 128 [some (am_r (some 3)), some (am_r v1), some (am_i v2)] [] (am_K0, σ) := by
  refine am_r_aload_n (nx := 129) rfl rfl (show decode cX8_readMachine 128 = .ok (.aload_n 0, 1) by decide +kernel) rfl ?_
  refine am_r_getF (nx := 132) 0 cw8 (by decide) rfl (Or.inl fl_X8_9) (ob_3) (fn_3_0) (show decode cX8_readMachine 129 = .ok (.getfield 9, 3) by decide +kernel) rfl ?_
  refine am_r_ldcS (nx := 134) (i := 2) (tx := "close") (by decide +kernel) (show decode cX8_readMachine 132 = .ok (.ldc 77, 2) by decide +kernel) rfl ?_
  refine am_r_callV (as := [am_s 2]) (st := []) hc mb_X7_isWord mv_X7_isWord (Or.inl ml_X8_54) (ob_1) (by omega) (r := (RX7, TX7, 6)) rfl rfl rfl rfl (Nat.le_of_ble_eq_true rfl) ⟨Nat.le_refl _, Nat.le_refl _⟩ ⟨Nat.le_refl _, Nat.le_refl _⟩ (show decode cX8_readMachine 134 = .ok (.invokevirtual 54, 3) by decide +kernel) ?_
  rintro _ _ ⟨x, σ', rfl, rfl, hq⟩ _
  exact (k x σ' hq)
theorem S_X8_readMachine_137 {G : am_G} {d : Nat} {Q : am_D → Prop} {σ : am_D} {v2 : Int} {s0 : Int} {v1 : Option Nat} (hr1 : -2147483648 ≤ s0 ∧ s0 ≤ 2147483647) (k1 : s0 = 0 → am_X (am_FV G (d + 1) Q) mX8_readMachine (0, 0) 148 [some (am_r (some 3)), some (am_r v1), some (am_i v2)] [] (am_K0, σ)) (k2 : ¬ (s0 = 0) → am_X (am_FV G (d + 1) Q) mX8_readMachine (0, 0) 140 [some (am_r (some 3)), some (am_r v1), some (am_i v2)] [] (am_K0, σ)) : am_X (am_FV G (d + 1) Q) mX8_readMachine (0, 0) 137 [some (am_r (some 3)), some (am_r v1), some (am_i v2)] [am_i s0] (am_K0, σ) := by
  refine am_r_if_eq (tg := 148) (nx := 140) (show decode cX8_readMachine 137 = .ok (.ifCond .eq 11, 3) by decide +kernel) (by decide) rfl hr1 ?_ ?_
  · exact fun q => k1 q
  · exact fun q => k2 q
theorem S_X8_readMachine_140 {G : am_G} {d : Nat} {Q : am_D → Prop} {σ : am_D} {v2 : Int} {v1 : Option Nat} {Q' : am_D → Prop} (hc : am_MV G d mX8_readClose [am_r (some 3), am_r v1] σ Q') (k : ∀ σ' : am_D, Q' σ' → am_X (am_FV G (d + 1) Q) mX8_readMachine (0, 0) 145 [some (am_r (some 3)), some (am_r v1), some (am_i v2)] [] (am_K0, σ')) : am_X (am_FV G (d + 1) Q) mX8_readMachine (0, 0) 140 [some (am_r (some 3)), some (am_r v1), some (am_i v2)] [] (am_K0, σ) := by
  refine am_r_aload_n (nx := 141) rfl rfl (show decode cX8_readMachine 140 = .ok (.aload_n 0, 1) by decide +kernel) rfl ?_
  refine am_r_aload_n (nx := 142) rfl rfl (show decode cX8_readMachine 141 = .ok (.aload_n 1, 1) by decide +kernel) rfl ?_
  refine am_r_callV (as := [am_r v1]) (st := []) hc mb_X8_readClose mv_X8_readClose (Or.inl ml_X8_79) (ob_3) (by omega) (r := (RX8, TX8, 3)) rfl rfl rfl rfl (Nat.le_of_ble_eq_true rfl) ⟨Nat.le_refl _, Nat.le_refl _⟩ ⟨Nat.le_refl _, Nat.le_refl _⟩ (show decode cX8_readMachine 142 = .ok (.invokevirtual 79, 3) by decide +kernel) ?_
  rintro _ _ ⟨σ', rfl, rfl, hq⟩ _
  exact (k σ' hq)
theorem S_X8_readMachine_145 {G : am_G} {d : Nat} {Q : am_D → Prop} {σ : am_D} {v2 : Int} {v1 : Option Nat}  (k : am_X (am_FV G (d + 1) Q) mX8_readMachine (0, 0) 153 [some (am_r (some 3)), some (am_r v1), some (am_i v2)] [] (am_K0, σ)) : am_X (am_FV G (d + 1) Q) mX8_readMachine (0, 0) 145 [some (am_r (some 3)), some (am_r v1), some (am_i v2)] [] (am_K0, σ) := by
  refine am_r_goto (tg := 153) (show decode cX8_readMachine 145 = .ok (.goto 8, 3) by decide +kernel) (by decide) ?_
  exact k
theorem S_X8_readMachine_148 {G : am_G} {d : Nat} {Q : am_D → Prop} {σ : am_D} {v2 : Int} {v1 : Option Nat} {Q' : am_D → Prop} (hc : am_MV G d mX8_readEnd [am_r (some 3), am_r v1] σ Q') (k : ∀ σ' : am_D, Q' σ' → am_X (am_FV G (d + 1) Q) mX8_readMachine (0, 0) 153 [some (am_r (some 3)), some (am_r v1), some (am_i v2)] [] (am_K0, σ')) : am_X (am_FV G (d + 1) Q) mX8_readMachine (0, 0) 148 [some (am_r (some 3)), some (am_r v1), some (am_i v2)] [] (am_K0, σ) := by
  refine am_r_aload_n (nx := 149) rfl rfl (show decode cX8_readMachine 148 = .ok (.aload_n 0, 1) by decide +kernel) rfl ?_
  refine am_r_aload_n (nx := 150) rfl rfl (show decode cX8_readMachine 149 = .ok (.aload_n 1, 1) by decide +kernel) rfl ?_
  refine am_r_callV (as := [am_r v1]) (st := []) hc mb_X8_readEnd mv_X8_readEnd (Or.inl ml_X8_82) (ob_3) (by omega) (r := (RX8, TX8, 3)) rfl rfl rfl rfl (Nat.le_of_ble_eq_true rfl) ⟨Nat.le_refl _, Nat.le_refl _⟩ ⟨Nat.le_refl _, Nat.le_refl _⟩ (show decode cX8_readMachine 150 = .ok (.invokevirtual 82, 3) by decide +kernel) ?_
  rintro _ _ ⟨σ', rfl, rfl, hq⟩ _
  exact (k σ' hq)
theorem S_X8_readMachine_153 {G : am_G} {d : Nat} {Q : am_D → Prop} {σ : am_D} {v2 : Int} {v1 : Option Nat}  (k : am_X (am_FV G (d + 1) Q) mX8_readMachine (0, 0) 74 [some (am_r (some 3)), some (am_r v1), some (am_i (v2 + 1))] [] (am_K0, σ)) : am_X (am_FV G (d + 1) Q) mX8_readMachine (0, 0) 153 [some (am_r (some 3)), some (am_r v1), some (am_i v2)] [] (am_K0, σ) := by
  refine am_r_iinc (nx := 156) rfl rfl (show decode cX8_readMachine 153 = .ok (.iinc 2 1, 3) by decide +kernel) rfl ?_
  refine am_r_goto (tg := 74) (show decode cX8_readMachine 156 = .ok (.goto (-82), 3) by decide +kernel) (by decide) ?_
  exact k
theorem S_X8_readMachine_159 {G : am_G} {d : Nat} {Q : am_D → Prop} {σ : am_D}  (hr1 : -2147483648 ≤ (σ.1 1 2) ∧ (σ.1 1 2) ≤ 2147483647) (k1 : (σ.1 1 2) = 0 → am_X (am_FV G (d + 1) Q) mX8_readMachine (0, 0) 177 [some (am_r (some 3)), none, none] [] (am_K0, σ)) (k2 : ¬ ((σ.1 1 2) = 0) → am_X (am_FV G (d + 1) Q) mX8_readMachine (0, 0) 169 [some (am_r (some 3)), none, none] [] (am_K0, σ)) : am_X (am_FV G (d + 1) Q) mX8_readMachine (0, 0) 159 [some (am_r (some 3)), none, none] [] (am_K0, σ) := by
  refine am_r_aload_n (nx := 160) rfl rfl (show decode cX8_readMachine 159 = .ok (.aload_n 0, 1) by decide +kernel) rfl ?_
  refine am_r_getF (nx := 163) 0 cw8 (by decide) rfl (Or.inl fl_X8_9) (ob_3) (fn_3_0) (show decode cX8_readMachine 160 = .ok (.getfield 9, 3) by decide +kernel) rfl ?_
  refine am_r_getI (nx := 166) 2 cw7 (by decide) rfl (Or.inr ⟨_, fl_X8_28⟩) (ob_1) (show decode cX8_readMachine 163 = .ok (.getfield 28, 3) by decide +kernel) rfl ?_
  refine am_r_if_eq (tg := 177) (nx := 169) (show decode cX8_readMachine 166 = .ok (.ifCond .eq 11, 3) by decide +kernel) (by decide) rfl hr1 ?_ ?_
  · exact fun q => k1 q
  · exact fun q => k2 q
theorem S_X8_readMachine_169 {G : am_G} {d : Nat} {Q : am_D → Prop} {σ : am_D} {Q' : am_D → Prop} (hc : am_MV G d mX7_fail [am_r (some 1), am_i 1] σ Q') (k : ∀ σ' : am_D, Q' σ' → am_X (am_FV G (d + 1) Q) mX8_readMachine (0, 0) 177 [some (am_r (some 3)), none, none] [] (am_K0, σ')) : am_X (am_FV G (d + 1) Q) mX8_readMachine (0, 0) 169 [some (am_r (some 3)), none, none] [] (am_K0, σ) := by
  refine am_r_aload_n (nx := 170) rfl rfl (show decode cX8_readMachine 169 = .ok (.aload_n 0, 1) by decide +kernel) rfl ?_
  refine am_r_getF (nx := 173) 0 cw8 (by decide) rfl (Or.inl fl_X8_9) (ob_3) (fn_3_0) (show decode cX8_readMachine 170 = .ok (.getfield 9, 3) by decide +kernel) rfl ?_
  refine am_r_iconst (nx := 174) (show decode cX8_readMachine 173 = .ok (.iconst 1, 1) by decide +kernel) rfl ?_
  refine am_r_callV (as := [am_i 1]) (st := []) hc mb_X7_fail mv_X7_fail (Or.inl ml_X8_35) (ob_1) (by omega) (r := (RX7, TX7, 6)) rfl rfl rfl rfl (Nat.le_of_ble_eq_true rfl) ⟨Nat.le_refl _, Nat.le_refl _⟩ ⟨Nat.le_refl _, Nat.le_refl _⟩ (show decode cX8_readMachine 174 = .ok (.invokevirtual 35, 3) by decide +kernel) ?_
  rintro _ _ ⟨σ', rfl, rfl, hq⟩ _
  exact (k σ' hq)
theorem S_X8_readMachine_177 {G : am_G} {d : Nat} {Q : am_D → Prop} {σ : am_D}   (k : am_X (am_FV G (d + 1) Q) mX8_readMachine (0, 0) 185 [none, none, none] [] (am_K0, (am_pI σ 1 1 0))) : am_X (am_FV G (d + 1) Q) mX8_readMachine (0, 0) 177 [some (am_r (some 3)), none, none] [] (am_K0, σ) := by
  refine am_r_aload_n (nx := 178) rfl rfl (show decode cX8_readMachine 177 = .ok (.aload_n 0, 1) by decide +kernel) rfl ?_
  refine am_r_getF (nx := 181) 0 cw8 (by decide) rfl (Or.inl fl_X8_9) (ob_3) (fn_3_0) (show decode cX8_readMachine 178 = .ok (.getfield 9, 3) by decide +kernel) rfl ?_
  refine am_r_iconst (nx := 182) (show decode cX8_readMachine 181 = .ok (.iconst 0, 1) by decide +kernel) rfl ?_
  refine am_r_putI (nx := 185) 1 cw7 (by decide) rfl (Or.inr ⟨_, fl_X8_46⟩) (ob_1) rfl (Or.inl rfl) (show decode cX8_readMachine 182 = .ok (.putfield 46, 3) by decide +kernel) rfl ?_
  exact am_x_fg [0] k
theorem S_X8_readMachine_185 {G : am_G} {d : Nat} {Q : am_D → Prop} {σ : am_D}   (k : Q σ) : am_X (am_FV G (d + 1) Q) mX8_readMachine (0, 0) 185 [none, none, none] [] (am_K0, σ) := by
  exact am_r_vret rfl (show decode cX8_readMachine 185 = .ok (.return_, 1) by decide +kernel) ⟨_, rfl, rfl, k⟩
theorem S_X8_startRule_0 {G : am_G} {d : Nat} {Q : am_D → Prop} {σ : am_D} {Q' : am_D → Prop} {v1 : Option Nat} (hc : am_MV G d mX7_advance [am_r (some 1)] σ Q') (k : ∀ σ' : am_D, Q' σ' → am_X (am_FV G (d + 1) Q) mX8_startRule (0, 0) 7 [some (am_r (some 3)), some (am_r v1)] [] (am_K0, σ')) : am_X (am_FV G (d + 1) Q) mX8_startRule (0, 0) 0 [some (am_r (some 3)), some (am_r v1)] [] (am_K0, σ) := by
  refine am_r_aload_n (nx := 1) rfl rfl (show decode cX8_startRule 0 = .ok (.aload_n 0, 1) by decide +kernel) rfl ?_
  refine am_r_getF (nx := 4) 0 cw8 (by decide) rfl (Or.inl fl_X8_9) (ob_3) (fn_3_0) (show decode cX8_startRule 1 = .ok (.getfield 9, 3) by decide +kernel) rfl ?_
  refine am_r_callV (as := []) (st := []) hc mb_X7_advance mv_X7_advance (Or.inl ml_X8_25) (ob_1) (by omega) (r := (RX7, TX7, 6)) rfl rfl rfl rfl (Nat.le_of_ble_eq_true rfl) ⟨Nat.le_refl _, Nat.le_refl _⟩ ⟨Nat.le_refl _, Nat.le_refl _⟩ (show decode cX8_startRule 4 = .ok (.invokevirtual 25, 3) by decide +kernel) ?_
  rintro _ _ ⟨σ', rfl, rfl, hq⟩ _
  exact (k σ' hq)
theorem S_X8_startRule_7 {G : am_G} {d : Nat} {Q : am_D → Prop} {σ : am_D} {Q' : Int → am_D → Prop} {v1 : Option Nat} (hc : am_MI G d mX7_isWord [am_r (some 1), am_s 1] σ Q') (k : ∀ (x : Int) (σ' : am_D), Q' x σ' → am_X (am_FV G (d + 1) Q) mX8_startRule (0, 0) 16 [some (am_r (some 3)), some (am_r v1)] [am_i x] (am_K0, σ')) : am_X (am_FV G (d + 1) Q) mX8_startRule (0, 0) 7 [some (am_r (some 3)), some (am_r v1)] [] (am_K0, σ) := by
  refine am_r_aload_n (nx := 8) rfl rfl (show decode cX8_startRule 7 = .ok (.aload_n 0, 1) by decide +kernel) rfl ?_
  refine am_r_getF (nx := 11) 0 cw8 (by decide) rfl (Or.inl fl_X8_9) (ob_3) (fn_3_0) (show decode cX8_startRule 8 = .ok (.getfield 9, 3) by decide +kernel) rfl ?_
  refine am_r_ldcS (nx := 13) (i := 1) (tx := "open") (by decide +kernel) (show decode cX8_startRule 11 = .ok (.ldc 72, 2) by decide +kernel) rfl ?_
  refine am_r_callV (as := [am_s 1]) (st := []) hc mb_X7_isWord mv_X7_isWord (Or.inl ml_X8_54) (ob_1) (by omega) (r := (RX7, TX7, 6)) rfl rfl rfl rfl (Nat.le_of_ble_eq_true rfl) ⟨Nat.le_refl _, Nat.le_refl _⟩ ⟨Nat.le_refl _, Nat.le_refl _⟩ (show decode cX8_startRule 13 = .ok (.invokevirtual 54, 3) by decide +kernel) ?_
  rintro _ _ ⟨x, σ', rfl, rfl, hq⟩ _
  exact (k x σ' hq)
theorem S_X8_startRule_16 {G : am_G} {d : Nat} {Q : am_D → Prop} {σ : am_D} {s0 : Int} {v1 : Option Nat} (hr1 : -2147483648 ≤ s0 ∧ s0 ≤ 2147483647) (k1 : ¬ s0 = 0 → am_X (am_FV G (d + 1) Q) mX8_startRule (0, 0) 51 [some (am_r (some 3)), some (am_r v1)] [] (am_K0, σ)) (k2 : ¬ (¬ s0 = 0) → am_X (am_FV G (d + 1) Q) mX8_startRule (0, 0) 19 [some (am_r (some 3)), some (am_r v1)] [] (am_K0, σ)) : am_X (am_FV G (d + 1) Q) mX8_startRule (0, 0) 16 [some (am_r (some 3)), some (am_r v1)] [am_i s0] (am_K0, σ) := by
  refine am_r_if_ne (tg := 51) (nx := 19) (show decode cX8_startRule 16 = .ok (.ifCond .ne 35, 3) by decide +kernel) (by decide) rfl hr1 ?_ ?_
  · exact fun q => k1 q
  · exact fun q => k2 q
theorem S_X8_startRule_19 {G : am_G} {d : Nat} {Q : am_D → Prop} {σ : am_D} {Q' : Int → am_D → Prop} {v1 : Option Nat} (hc : am_MI G d mX7_isWord [am_r (some 1), am_s 2] σ Q') (k : ∀ (x : Int) (σ' : am_D), Q' x σ' → am_X (am_FV G (d + 1) Q) mX8_startRule (0, 0) 28 [some (am_r (some 3)), some (am_r v1)] [am_i x] (am_K0, σ')) : am_X (am_FV G (d + 1) Q) mX8_startRule (0, 0) 19 [some (am_r (some 3)), some (am_r v1)] [] (am_K0, σ) := by
  refine am_r_aload_n (nx := 20) rfl rfl (show decode cX8_startRule 19 = .ok (.aload_n 0, 1) by decide +kernel) rfl ?_
  refine am_r_getF (nx := 23) 0 cw8 (by decide) rfl (Or.inl fl_X8_9) (ob_3) (fn_3_0) (show decode cX8_startRule 20 = .ok (.getfield 9, 3) by decide +kernel) rfl ?_
  refine am_r_ldcS (nx := 25) (i := 2) (tx := "close") (by decide +kernel) (show decode cX8_startRule 23 = .ok (.ldc 77, 2) by decide +kernel) rfl ?_
  refine am_r_callV (as := [am_s 2]) (st := []) hc mb_X7_isWord mv_X7_isWord (Or.inl ml_X8_54) (ob_1) (by omega) (r := (RX7, TX7, 6)) rfl rfl rfl rfl (Nat.le_of_ble_eq_true rfl) ⟨Nat.le_refl _, Nat.le_refl _⟩ ⟨Nat.le_refl _, Nat.le_refl _⟩ (show decode cX8_startRule 25 = .ok (.invokevirtual 54, 3) by decide +kernel) ?_
  rintro _ _ ⟨x, σ', rfl, rfl, hq⟩ _
  exact (k x σ' hq)
theorem S_X8_startRule_28 {G : am_G} {d : Nat} {Q : am_D → Prop} {σ : am_D} {s0 : Int} {v1 : Option Nat} (hr1 : -2147483648 ≤ s0 ∧ s0 ≤ 2147483647) (k1 : ¬ s0 = 0 → am_X (am_FV G (d + 1) Q) mX8_startRule (0, 0) 51 [some (am_r (some 3)), some (am_r v1)] [] (am_K0, σ)) (k2 : ¬ (¬ s0 = 0) → am_X (am_FV G (d + 1) Q) mX8_startRule (0, 0) 31 [some (am_r (some 3)), some (am_r v1)] [] (am_K0, σ)) : am_X (am_FV G (d + 1) Q) mX8_startRule (0, 0) 28 [some (am_r (some 3)), some (am_r v1)] [am_i s0] (am_K0, σ) := by
  refine am_r_if_ne (tg := 51) (nx := 31) (show decode cX8_startRule 28 = .ok (.ifCond .ne 23, 3) by decide +kernel) (by decide) rfl hr1 ?_ ?_
  · exact fun q => k1 q
  · exact fun q => k2 q
theorem S_X8_startRule_31 {G : am_G} {d : Nat} {Q : am_D → Prop} {σ : am_D} {Q' : Int → am_D → Prop} {v1 : Option Nat} (hc : am_MI G d mX7_isWord [am_r (some 1), am_s 3] σ Q') (k : ∀ (x : Int) (σ' : am_D), Q' x σ' → am_X (am_FV G (d + 1) Q) mX8_startRule (0, 0) 40 [some (am_r (some 3)), some (am_r v1)] [am_i x] (am_K0, σ')) : am_X (am_FV G (d + 1) Q) mX8_startRule (0, 0) 31 [some (am_r (some 3)), some (am_r v1)] [] (am_K0, σ) := by
  refine am_r_aload_n (nx := 32) rfl rfl (show decode cX8_startRule 31 = .ok (.aload_n 0, 1) by decide +kernel) rfl ?_
  refine am_r_getF (nx := 35) 0 cw8 (by decide) rfl (Or.inl fl_X8_9) (ob_3) (fn_3_0) (show decode cX8_startRule 32 = .ok (.getfield 9, 3) by decide +kernel) rfl ?_
  refine am_r_ldcS (nx := 37) (i := 3) (tx := "end") (by decide +kernel) (show decode cX8_startRule 35 = .ok (.ldc 85, 2) by decide +kernel) rfl ?_
  refine am_r_callV (as := [am_s 3]) (st := []) hc mb_X7_isWord mv_X7_isWord (Or.inl ml_X8_54) (ob_1) (by omega) (r := (RX7, TX7, 6)) rfl rfl rfl rfl (Nat.le_of_ble_eq_true rfl) ⟨Nat.le_refl _, Nat.le_refl _⟩ ⟨Nat.le_refl _, Nat.le_refl _⟩ (show decode cX8_startRule 37 = .ok (.invokevirtual 54, 3) by decide +kernel) ?_
  rintro _ _ ⟨x, σ', rfl, rfl, hq⟩ _
  exact (k x σ' hq)
theorem S_X8_startRule_40 {G : am_G} {d : Nat} {Q : am_D → Prop} {σ : am_D} {s0 : Int} {v1 : Option Nat} (hr1 : -2147483648 ≤ s0 ∧ s0 ≤ 2147483647) (k1 : ¬ s0 = 0 → am_X (am_FV G (d + 1) Q) mX8_startRule (0, 0) 51 [some (am_r (some 3)), some (am_r v1)] [] (am_K0, σ)) (k2 : ¬ (¬ s0 = 0) → am_X (am_FV G (d + 1) Q) mX8_startRule (0, 0) 43 [some (am_r (some 3)), some (am_r v1)] [] (am_K0, σ)) : am_X (am_FV G (d + 1) Q) mX8_startRule (0, 0) 40 [some (am_r (some 3)), some (am_r v1)] [am_i s0] (am_K0, σ) := by
  refine am_r_if_ne (tg := 51) (nx := 43) (show decode cX8_startRule 40 = .ok (.ifCond .ne 11, 3) by decide +kernel) (by decide) rfl hr1 ?_ ?_
  · exact fun q => k1 q
  · exact fun q => k2 q
theorem S_X8_startRule_43 {G : am_G} {d : Nat} {Q : am_D → Prop} {σ : am_D} {Q' : am_D → Prop} {v1 : Option Nat} (hc : am_MV G d mX7_fail [am_r (some 1), am_i 1] σ Q') (k : ∀ σ' : am_D, Q' σ' → am_X (am_FV G (d + 1) Q) mX8_startRule (0, 0) 51 [some (am_r (some 3)), some (am_r v1)] [] (am_K0, σ')) : am_X (am_FV G (d + 1) Q) mX8_startRule (0, 0) 43 [some (am_r (some 3)), some (am_r v1)] [] (am_K0, σ) := by
  refine am_r_aload_n (nx := 44) rfl rfl (show decode cX8_startRule 43 = .ok (.aload_n 0, 1) by decide +kernel) rfl ?_
  refine am_r_getF (nx := 47) 0 cw8 (by decide) rfl (Or.inl fl_X8_9) (ob_3) (fn_3_0) (show decode cX8_startRule 44 = .ok (.getfield 9, 3) by decide +kernel) rfl ?_
  refine am_r_iconst (nx := 48) (show decode cX8_startRule 47 = .ok (.iconst 1, 1) by decide +kernel) rfl ?_
  refine am_r_callV (as := [am_i 1]) (st := []) hc mb_X7_fail mv_X7_fail (Or.inl ml_X8_35) (ob_1) (by omega) (r := (RX7, TX7, 6)) rfl rfl rfl rfl (Nat.le_of_ble_eq_true rfl) ⟨Nat.le_refl _, Nat.le_refl _⟩ ⟨Nat.le_refl _, Nat.le_refl _⟩ (show decode cX8_startRule 48 = .ok (.invokevirtual 35, 3) by decide +kernel) ?_
  rintro _ _ ⟨σ', rfl, rfl, hq⟩ _
  exact (k σ' hq)
theorem S_X8_startRule_51 {G : am_G} {d : Nat} {Q : am_D → Prop} {σ : am_D} {v1 : Nat} {Q' : Int → am_D → Prop} (hc : am_MI G d mX2_rules [am_r (some v1)] σ Q') (hc1 : am_isM v1) (k : ∀ (x : Int) (σ' : am_D), Q' x σ' → am_X (am_FV G (d + 1) Q) mX8_startRule (0, 0) 55 [some (am_r (some 3)), none] [am_i x] (am_K0, σ')) : am_X (am_FV G (d + 1) Q) mX8_startRule (0, 0) 51 [some (am_r (some 3)), some (am_r (some v1))] [] (am_K0, σ) := by
  refine am_r_aload_n (nx := 52) rfl rfl (show decode cX8_startRule 51 = .ok (.aload_n 1, 1) by decide +kernel) rfl ?_
  refine am_r_callV (as := []) (st := []) hc mb_X2_rules mv_X2_rules (Or.inl ml_X8_87) (obM hc1) (by omega) (r := (RX2, TX2, 16)) rfl rfl rfl rfl (Nat.le_of_ble_eq_true rfl) ⟨Nat.le_refl _, Nat.le_refl _⟩ ⟨Nat.le_refl _, Nat.le_refl _⟩ (show decode cX8_startRule 52 = .ok (.invokevirtual 87, 3) by decide +kernel) ?_
  rintro _ _ ⟨x, σ', rfl, rfl, hq⟩ _
  exact am_x_fg [1] (k x σ' hq)
theorem S_X8_startRule_55 {G : am_G} {d : Nat} {Q : am_D → Prop} {σ : am_D} {s0 : Int} (hr1 : -2147483648 ≤ s0 ∧ s0 ≤ 2147483647) (k1 : s0 < 24 → am_X (am_FV G (d + 1) Q) mX8_startRule (0, 0) 68 [some (am_r (some 3)), none] [] (am_K0, σ)) (k2 : ¬ (s0 < 24) → am_X (am_FV G (d + 1) Q) mX8_startRule (0, 0) 60 [some (am_r (some 3)), none] [] (am_K0, σ)) : am_X (am_FV G (d + 1) Q) mX8_startRule (0, 0) 55 [some (am_r (some 3)), none] [am_i s0] (am_K0, σ) := by
  refine am_r_bipush (nx := 57) rfl (show decode cX8_startRule 55 = .ok (.bipush 24, 2) by decide +kernel) rfl ?_
  refine am_r_icmp_lt (tg := 68) (nx := 60) (show decode cX8_startRule 57 = .ok (.if_icmp .lt 11, 3) by decide +kernel) (by decide) rfl hr1 (by omega) ?_ ?_
  · exact fun q => k1 q
  · exact fun q => k2 q
theorem S_X8_startRule_60 {G : am_G} {d : Nat} {Q : am_D → Prop} {σ : am_D} {Q' : am_D → Prop} (hc : am_MV G d mX7_fail [am_r (some 1), am_i 5] σ Q') (k : ∀ σ' : am_D, Q' σ' → am_X (am_FV G (d + 1) Q) mX8_startRule (0, 0) 68 [some (am_r (some 3)), none] [] (am_K0, σ')) : am_X (am_FV G (d + 1) Q) mX8_startRule (0, 0) 60 [some (am_r (some 3)), none] [] (am_K0, σ) := by
  refine am_r_aload_n (nx := 61) rfl rfl (show decode cX8_startRule 60 = .ok (.aload_n 0, 1) by decide +kernel) rfl ?_
  refine am_r_getF (nx := 64) 0 cw8 (by decide) rfl (Or.inl fl_X8_9) (ob_3) (fn_3_0) (show decode cX8_startRule 61 = .ok (.getfield 9, 3) by decide +kernel) rfl ?_
  refine am_r_iconst (nx := 65) (show decode cX8_startRule 64 = .ok (.iconst 5, 1) by decide +kernel) rfl ?_
  refine am_r_callV (as := [am_i 5]) (st := []) hc mb_X7_fail mv_X7_fail (Or.inl ml_X8_35) (ob_1) (by omega) (r := (RX7, TX7, 6)) rfl rfl rfl rfl (Nat.le_of_ble_eq_true rfl) ⟨Nat.le_refl _, Nat.le_refl _⟩ ⟨Nat.le_refl _, Nat.le_refl _⟩ (show decode cX8_startRule 65 = .ok (.invokevirtual 35, 3) by decide +kernel) ?_
  rintro _ _ ⟨σ', rfl, rfl, hq⟩ _
  exact (k σ' hq)
theorem S_X8_startRule_68 {G : am_G} {d : Nat} {Q : am_D → Prop} {σ : am_D}   (k : am_X (am_FV G (d + 1) Q) mX8_startRule (0, 0) 73 [some (am_r (some 3)), none] [] (am_K0, (am_pI σ 3 1 0))) : am_X (am_FV G (d + 1) Q) mX8_startRule (0, 0) 68 [some (am_r (some 3)), none] [] (am_K0, σ) := by
  refine am_r_aload_n (nx := 69) rfl rfl (show decode cX8_startRule 68 = .ok (.aload_n 0, 1) by decide +kernel) rfl ?_
  refine am_r_iconst (nx := 70) (show decode cX8_startRule 69 = .ok (.iconst 0, 1) by decide +kernel) rfl ?_
  refine am_r_putI (nx := 73) 1 cw8 (by decide) rfl (Or.inl fl_X8_90) (ob_3) rfl (Or.inl rfl) (show decode cX8_startRule 70 = .ok (.putfield 90, 3) by decide +kernel) rfl ?_
  exact k
theorem S_X8_startRule_73 {G : am_G} {d : Nat} {Q : am_D → Prop} {σ : am_D}   (k : am_X (am_FV G (d + 1) Q) mX8_startRule (0, 0) 78 [none, none] [] (am_K0, (am_pI σ 3 2 0))) : am_X (am_FV G (d + 1) Q) mX8_startRule (0, 0) 73 [some (am_r (some 3)), none] [] (am_K0, σ) := by
  refine am_r_aload_n (nx := 74) rfl rfl (show decode cX8_startRule 73 = .ok (.aload_n 0, 1) by decide +kernel) rfl ?_
  refine am_r_iconst (nx := 75) (show decode cX8_startRule 74 = .ok (.iconst 0, 1) by decide +kernel) rfl ?_
  refine am_r_putI (nx := 78) 2 cw8 (by decide) rfl (Or.inl fl_X8_93) (ob_3) rfl (Or.inl rfl) (show decode cX8_startRule 75 = .ok (.putfield 93, 3) by decide +kernel) rfl ?_
  exact am_x_fg [0] k
theorem S_X8_startRule_78 {G : am_G} {d : Nat} {Q : am_D → Prop} {σ : am_D}   (k : Q σ) : am_X (am_FV G (d + 1) Q) mX8_startRule (0, 0) 78 [none, none] [] (am_K0, σ) := by
  exact am_r_vret rfl (show decode cX8_startRule 78 = .ok (.return_, 1) by decide +kernel) ⟨_, rfl, rfl, k⟩
theorem S_X8_readOpen_0 {G : am_G} {d : Nat} {Q : am_D → Prop} {σ : am_D} {Q' : Int → am_D → Prop} {v1 : Option Nat} (hc : am_MI G d mX7_letter [am_r (some 1)] σ Q') (k : ∀ (x : Int) (σ' : am_D), Q' x σ' → am_X (am_FV G (d + 1) Q) mX8_readOpen (0, 0) 8 [some (am_r (some 3)), some (am_r v1), some (am_i x), none, none, none] [] (am_K0, σ')) : am_X (am_FV G (d + 1) Q) mX8_readOpen (0, 0) 0 [some (am_r (some 3)), some (am_r v1), none, none, none, none] [] (am_K0, σ) := by
  refine am_r_aload_n (nx := 1) rfl rfl (show decode cX8_readOpen 0 = .ok (.aload_n 0, 1) by decide +kernel) rfl ?_
  refine am_r_getF (nx := 4) 0 cw8 (by decide) rfl (Or.inl fl_X8_9) (ob_3) (fn_3_0) (show decode cX8_readOpen 1 = .ok (.getfield 9, 3) by decide +kernel) rfl ?_
  refine am_r_callV (as := []) (st := []) hc mb_X7_letter mv_X7_letter (Or.inl ml_X8_39) (ob_1) (by omega) (r := (RX7, TX7, 6)) rfl rfl rfl rfl (Nat.le_of_ble_eq_true rfl) ⟨Nat.le_refl _, Nat.le_refl _⟩ ⟨Nat.le_refl _, Nat.le_refl _⟩ (show decode cX8_readOpen 4 = .ok (.invokevirtual 39, 3) by decide +kernel) ?_
  rintro _ _ ⟨x, σ', rfl, rfl, hq⟩ _
  refine am_r_istore_n (nx := 8) rfl (by decide) rfl (show decode cX8_readOpen 7 = .ok (.istore_n 2, 1) by decide +kernel) rfl ?_
  exact (k x σ' hq)
theorem S_X8_readOpen_8 {G : am_G} {d : Nat} {Q : am_D → Prop} {σ : am_D} {v2 : Int} {v1 : Nat} {Q' : Int → am_D → Prop} (hc1 : am_isM v1) (hc : am_MI G d mX7_digit [am_r (some 1), am_i 0, am_i ((σ.1 v1 0) - 1)] σ Q') (k : ∀ (x : Int) (σ' : am_D), Q' x σ' → am_X (am_FV G (d + 1) Q) mX8_readOpen (0, 0) 23 [some (am_r (some 3)), some (am_r (some v1)), some (am_i v2), some (am_i x), none, none] [] (am_K0, σ')) : am_X (am_FV G (d + 1) Q) mX8_readOpen (0, 0) 8 [some (am_r (some 3)), some (am_r (some v1)), some (am_i v2), none, none, none] [] (am_K0, σ) := by
  refine am_r_aload_n (nx := 9) rfl rfl (show decode cX8_readOpen 8 = .ok (.aload_n 0, 1) by decide +kernel) rfl ?_
  refine am_r_getF (nx := 12) 0 cw8 (by decide) rfl (Or.inl fl_X8_9) (ob_3) (fn_3_0) (show decode cX8_readOpen 9 = .ok (.getfield 9, 3) by decide +kernel) rfl ?_
  refine am_r_iconst (nx := 13) (show decode cX8_readOpen 12 = .ok (.iconst 0, 1) by decide +kernel) rfl ?_
  refine am_r_aload_n (nx := 14) rfl rfl (show decode cX8_readOpen 13 = .ok (.aload_n 1, 1) by decide +kernel) rfl ?_
  refine am_r_getI (nx := 17) 0 cw2 (by decide) rfl (Or.inr ⟨_, fl_X8_62⟩) (obM hc1) (show decode cX8_readOpen 14 = .ok (.getfield 62, 3) by decide +kernel) rfl ?_
  refine am_r_iconst (nx := 18) (show decode cX8_readOpen 17 = .ok (.iconst 1, 1) by decide +kernel) rfl ?_
  refine am_r_isub (nx := 19) (show decode cX8_readOpen 18 = .ok (.isub, 1) by decide +kernel) rfl ?_
  refine am_r_callV (as := [am_i 0, am_i ((σ.1 v1 0) - 1)]) (st := []) hc mb_X7_digit mv_X7_digit (Or.inl ml_X8_58) (ob_1) (by omega) (r := (RX7, TX7, 6)) rfl rfl rfl rfl (Nat.le_of_ble_eq_true rfl) ⟨Nat.le_refl _, Nat.le_refl _⟩ ⟨Nat.le_refl _, Nat.le_refl _⟩ (show decode cX8_readOpen 19 = .ok (.invokevirtual 58, 3) by decide +kernel) ?_
  rintro _ _ ⟨x, σ', rfl, rfl, hq⟩ _
  refine am_r_istore_n (nx := 23) rfl (by decide) rfl (show decode cX8_readOpen 22 = .ok (.istore_n 3, 1) by decide +kernel) rfl ?_
  exact (k x σ' hq)
theorem S_X8_readOpen_23 {G : am_G} {d : Nat} {Q : am_D → Prop} {σ : am_D} {v2 : Int} {v3 : Int} {v1 : Nat} {Q' : Int → am_D → Prop} (hc : am_MI G d mX2_opensTo [am_r (some v1), am_i v2, am_i v3] σ Q') (hc1 : am_isM v1) (k : ∀ (x : Int) (σ' : am_D), Q' x σ' → am_X (am_FV G (d + 1) Q) mX8_readOpen (0, 0) 29 [some (am_r (some 3)), some (am_r (some v1)), some (am_i v2), some (am_i v3), none, none] [am_i x] (am_K0, σ')) : am_X (am_FV G (d + 1) Q) mX8_readOpen (0, 0) 23 [some (am_r (some 3)), some (am_r (some v1)), some (am_i v2), some (am_i v3), none, none] [] (am_K0, σ) := by
  refine am_r_aload_n (nx := 24) rfl rfl (show decode cX8_readOpen 23 = .ok (.aload_n 1, 1) by decide +kernel) rfl ?_
  refine am_r_iload_n (nx := 25) rfl rfl (show decode cX8_readOpen 24 = .ok (.iload_n 2, 1) by decide +kernel) rfl ?_
  refine am_r_iload_n (nx := 26) rfl rfl (show decode cX8_readOpen 25 = .ok (.iload_n 3, 1) by decide +kernel) rfl ?_
  refine am_r_callV (as := [am_i v2, am_i v3]) (st := []) hc mb_X2_opensTo mv_X2_opensTo (Or.inl ml_X8_96) (obM hc1) (by omega) (r := (RX2, TX2, 16)) rfl rfl rfl rfl (Nat.le_of_ble_eq_true rfl) ⟨Nat.le_refl _, Nat.le_refl _⟩ ⟨Nat.le_refl _, Nat.le_refl _⟩ (show decode cX8_readOpen 26 = .ok (.invokevirtual 96, 3) by decide +kernel) ?_
  rintro _ _ ⟨x, σ', rfl, rfl, hq⟩ _
  exact (k x σ' hq)
theorem S_X8_readOpen_29 {G : am_G} {d : Nat} {Q : am_D → Prop} {σ : am_D} {v2 : Int} {v3 : Int} {s0 : Int} {v1 : Option Nat} (hr1 : -2147483648 ≤ s0 ∧ s0 ≤ 2147483647) (k1 : s0 = (-1) → am_X (am_FV G (d + 1) Q) mX8_readOpen (0, 0) 41 [some (am_r (some 3)), some (am_r v1), some (am_i v2), some (am_i v3), none, none] [] (am_K0, σ)) (k2 : ¬ (s0 = (-1)) → am_X (am_FV G (d + 1) Q) mX8_readOpen (0, 0) 33 [some (am_r (some 3)), some (am_r v1), some (am_i v2), some (am_i v3), none, none] [] (am_K0, σ)) : am_X (am_FV G (d + 1) Q) mX8_readOpen (0, 0) 29 [some (am_r (some 3)), some (am_r v1), some (am_i v2), some (am_i v3), none, none] [am_i s0] (am_K0, σ) := by
  refine am_r_iconst (nx := 30) (show decode cX8_readOpen 29 = .ok (.iconst (-1), 1) by decide +kernel) rfl ?_
  refine am_r_icmp_eq (tg := 41) (nx := 33) (show decode cX8_readOpen 30 = .ok (.if_icmp .eq 11, 3) by decide +kernel) (by decide) rfl hr1 (by omega) ?_ ?_
  · exact fun q => k1 q
  · exact fun q => k2 q
theorem S_X8_readOpen_33 {G : am_G} {d : Nat} {Q : am_D → Prop} {σ : am_D} {v2 : Int} {v3 : Int} {Q' : am_D → Prop} {v1 : Option Nat} (hc : am_MV G d mX7_fail [am_r (some 1), am_i 3] σ Q') (k : ∀ σ' : am_D, Q' σ' → am_X (am_FV G (d + 1) Q) mX8_readOpen (0, 0) 41 [some (am_r (some 3)), some (am_r v1), some (am_i v2), some (am_i v3), none, none] [] (am_K0, σ')) : am_X (am_FV G (d + 1) Q) mX8_readOpen (0, 0) 33 [some (am_r (some 3)), some (am_r v1), some (am_i v2), some (am_i v3), none, none] [] (am_K0, σ) := by
  refine am_r_aload_n (nx := 34) rfl rfl (show decode cX8_readOpen 33 = .ok (.aload_n 0, 1) by decide +kernel) rfl ?_
  refine am_r_getF (nx := 37) 0 cw8 (by decide) rfl (Or.inl fl_X8_9) (ob_3) (fn_3_0) (show decode cX8_readOpen 34 = .ok (.getfield 9, 3) by decide +kernel) rfl ?_
  refine am_r_iconst (nx := 38) (show decode cX8_readOpen 37 = .ok (.iconst 3, 1) by decide +kernel) rfl ?_
  refine am_r_callV (as := [am_i 3]) (st := []) hc mb_X7_fail mv_X7_fail (Or.inl ml_X8_35) (ob_1) (by omega) (r := (RX7, TX7, 6)) rfl rfl rfl rfl (Nat.le_of_ble_eq_true rfl) ⟨Nat.le_refl _, Nat.le_refl _⟩ ⟨Nat.le_refl _, Nat.le_refl _⟩ (show decode cX8_readOpen 38 = .ok (.invokevirtual 35, 3) by decide +kernel) ?_
  rintro _ _ ⟨σ', rfl, rfl, hq⟩ _
  exact (k σ' hq)
theorem S_X8_readOpen_41 {G : am_G} {d : Nat} {Q : am_D → Prop} {σ : am_D} {v2 : Int} {v3 : Int} {v1 : Nat} {Q' : Int → am_D → Prop} (hc1 : am_isM v1) (hc : am_MI G d mX7_digit [am_r (some 1), am_i 0, am_i ((σ.1 v1 0) - 1)] σ Q') (k : ∀ (x : Int) (σ' : am_D), Q' x σ' → am_X (am_FV G (d + 1) Q) mX8_readOpen (0, 0) 57 [some (am_r (some 3)), some (am_r (some v1)), some (am_i v2), some (am_i v3), some (am_i x), none] [] (am_K0, σ')) : am_X (am_FV G (d + 1) Q) mX8_readOpen (0, 0) 41 [some (am_r (some 3)), some (am_r (some v1)), some (am_i v2), some (am_i v3), none, none] [] (am_K0, σ) := by
  refine am_r_aload_n (nx := 42) rfl rfl (show decode cX8_readOpen 41 = .ok (.aload_n 0, 1) by decide +kernel) rfl ?_
  refine am_r_getF (nx := 45) 0 cw8 (by decide) rfl (Or.inl fl_X8_9) (ob_3) (fn_3_0) (show decode cX8_readOpen 42 = .ok (.getfield 9, 3) by decide +kernel) rfl ?_
  refine am_r_iconst (nx := 46) (show decode cX8_readOpen 45 = .ok (.iconst 0, 1) by decide +kernel) rfl ?_
  refine am_r_aload_n (nx := 47) rfl rfl (show decode cX8_readOpen 46 = .ok (.aload_n 1, 1) by decide +kernel) rfl ?_
  refine am_r_getI (nx := 50) 0 cw2 (by decide) rfl (Or.inr ⟨_, fl_X8_62⟩) (obM hc1) (show decode cX8_readOpen 47 = .ok (.getfield 62, 3) by decide +kernel) rfl ?_
  refine am_r_iconst (nx := 51) (show decode cX8_readOpen 50 = .ok (.iconst 1, 1) by decide +kernel) rfl ?_
  refine am_r_isub (nx := 52) (show decode cX8_readOpen 51 = .ok (.isub, 1) by decide +kernel) rfl ?_
  refine am_r_callV (as := [am_i 0, am_i ((σ.1 v1 0) - 1)]) (st := []) hc mb_X7_digit mv_X7_digit (Or.inl ml_X8_58) (ob_1) (by omega) (r := (RX7, TX7, 6)) rfl rfl rfl rfl (Nat.le_of_ble_eq_true rfl) ⟨Nat.le_refl _, Nat.le_refl _⟩ ⟨Nat.le_refl _, Nat.le_refl _⟩ (show decode cX8_readOpen 52 = .ok (.invokevirtual 58, 3) by decide +kernel) ?_
  rintro _ _ ⟨x, σ', rfl, rfl, hq⟩ _
  refine am_r_istore (nx := 57) (by decide) rfl (show decode cX8_readOpen 55 = .ok (.istore 4, 2) by decide +kernel) rfl ?_
  exact (k x σ' hq)
theorem S_X8_readOpen_57 {G : am_G} {d : Nat} {Q : am_D → Prop} {σ : am_D} {v2 : Int} {v3 : Int} {v4 : Int} {Q' : Int → am_D → Prop} {v1 : Option Nat} (hc : am_MI G d mX7_digit [am_r (some 1), am_i 0, am_i 5] σ Q') (k : ∀ (x : Int) (σ' : am_D), Q' x σ' → am_X (am_FV G (d + 1) Q) mX8_readOpen (0, 0) 68 [some (am_r (some 3)), some (am_r v1), some (am_i v2), some (am_i v3), some (am_i v4), some (am_i x)] [] (am_K0, σ')) : am_X (am_FV G (d + 1) Q) mX8_readOpen (0, 0) 57 [some (am_r (some 3)), some (am_r v1), some (am_i v2), some (am_i v3), some (am_i v4), none] [] (am_K0, σ) := by
  refine am_r_aload_n (nx := 58) rfl rfl (show decode cX8_readOpen 57 = .ok (.aload_n 0, 1) by decide +kernel) rfl ?_
  refine am_r_getF (nx := 61) 0 cw8 (by decide) rfl (Or.inl fl_X8_9) (ob_3) (fn_3_0) (show decode cX8_readOpen 58 = .ok (.getfield 9, 3) by decide +kernel) rfl ?_
  refine am_r_iconst (nx := 62) (show decode cX8_readOpen 61 = .ok (.iconst 0, 1) by decide +kernel) rfl ?_
  refine am_r_iconst (nx := 63) (show decode cX8_readOpen 62 = .ok (.iconst 5, 1) by decide +kernel) rfl ?_
  refine am_r_callV (as := [am_i 0, am_i 5]) (st := []) hc mb_X7_digit mv_X7_digit (Or.inl ml_X8_58) (ob_1) (by omega) (r := (RX7, TX7, 6)) rfl rfl rfl rfl (Nat.le_of_ble_eq_true rfl) ⟨Nat.le_refl _, Nat.le_refl _⟩ ⟨Nat.le_refl _, Nat.le_refl _⟩ (show decode cX8_readOpen 63 = .ok (.invokevirtual 58, 3) by decide +kernel) ?_
  rintro _ _ ⟨x, σ', rfl, rfl, hq⟩ _
  refine am_r_istore (nx := 68) (by decide) rfl (show decode cX8_readOpen 66 = .ok (.istore 5, 2) by decide +kernel) rfl ?_
  exact (k x σ' hq)
theorem S_X8_readOpen_68 {G : am_G} {d : Nat} {Q : am_D → Prop} {σ : am_D} {v2 : Int} {v3 : Int} {v4 : Int} {v5 : Int} {v1 : Option Nat} (hr1 : -2147483648 ≤ (σ.1 1 5) ∧ (σ.1 1 5) ≤ 2147483647) (k1 : ¬ (σ.1 1 5) = 0 → am_X (am_FV G (d + 1) Q) mX8_readOpen (0, 0) 88 [some (am_r (some 3)), none, none, none, none, none] [] (am_K0, σ)) (k2 : ¬ (¬ (σ.1 1 5) = 0) → am_X (am_FV G (d + 1) Q) mX8_readOpen (0, 0) 78 [some (am_r (some 3)), some (am_r v1), some (am_i v2), some (am_i v3), some (am_i v4), some (am_i v5)] [] (am_K0, σ)) : am_X (am_FV G (d + 1) Q) mX8_readOpen (0, 0) 68 [some (am_r (some 3)), some (am_r v1), some (am_i v2), some (am_i v3), some (am_i v4), some (am_i v5)] [] (am_K0, σ) := by
  refine am_r_aload_n (nx := 69) rfl rfl (show decode cX8_readOpen 68 = .ok (.aload_n 0, 1) by decide +kernel) rfl ?_
  refine am_r_getF (nx := 72) 0 cw8 (by decide) rfl (Or.inl fl_X8_9) (ob_3) (fn_3_0) (show decode cX8_readOpen 69 = .ok (.getfield 9, 3) by decide +kernel) rfl ?_
  refine am_r_getI (nx := 75) 5 cw7 (by decide) rfl (Or.inr ⟨_, fl_X8_32⟩) (ob_1) (show decode cX8_readOpen 72 = .ok (.getfield 32, 3) by decide +kernel) rfl ?_
  refine am_r_if_ne (tg := 88) (nx := 78) (show decode cX8_readOpen 75 = .ok (.ifCond .ne 13, 3) by decide +kernel) (by decide) rfl hr1 ?_ ?_
  · exact fun q => am_x_fg [1, 2, 3, 4, 5] (k1 q)
  · exact fun q => k2 q
theorem S_X8_readOpen_78 {G : am_G} {d : Nat} {Q : am_D → Prop} {σ : am_D} {v2 : Int} {v3 : Int} {v4 : Int} {v5 : Int} {v1 : Nat} {Q' : am_D → Prop} (hc : am_MV G d mX2_addOpen [am_r (some v1), am_i v2, am_i v3, am_i v4, am_i v5] σ Q') (hc1 : am_isM v1) (k : ∀ σ' : am_D, Q' σ' → am_X (am_FV G (d + 1) Q) mX8_readOpen (0, 0) 88 [some (am_r (some 3)), none, none, none, none, none] [] (am_K0, σ')) : am_X (am_FV G (d + 1) Q) mX8_readOpen (0, 0) 78 [some (am_r (some 3)), some (am_r (some v1)), some (am_i v2), some (am_i v3), some (am_i v4), some (am_i v5)] [] (am_K0, σ) := by
  refine am_r_aload_n (nx := 79) rfl rfl (show decode cX8_readOpen 78 = .ok (.aload_n 1, 1) by decide +kernel) rfl ?_
  refine am_r_iload_n (nx := 80) rfl rfl (show decode cX8_readOpen 79 = .ok (.iload_n 2, 1) by decide +kernel) rfl ?_
  refine am_r_iload_n (nx := 81) rfl rfl (show decode cX8_readOpen 80 = .ok (.iload_n 3, 1) by decide +kernel) rfl ?_
  refine am_r_iload (nx := 83) rfl (show decode cX8_readOpen 81 = .ok (.iload 4, 2) by decide +kernel) rfl ?_
  refine am_r_iload (nx := 85) rfl (show decode cX8_readOpen 83 = .ok (.iload 5, 2) by decide +kernel) rfl ?_
  refine am_r_callV (as := [am_i v2, am_i v3, am_i v4, am_i v5]) (st := []) hc mb_X2_addOpen mv_X2_addOpen (Or.inl ml_X8_99) (obM hc1) (by omega) (r := (RX2, TX2, 16)) rfl rfl rfl rfl (Nat.le_of_ble_eq_true rfl) ⟨Nat.le_refl _, Nat.le_refl _⟩ ⟨Nat.le_refl _, Nat.le_refl _⟩ (show decode cX8_readOpen 85 = .ok (.invokevirtual 99, 3) by decide +kernel) ?_
  rintro _ _ ⟨σ', rfl, rfl, hq⟩ _
  exact am_x_fg [1, 2, 3, 4, 5] (k σ' hq)
theorem S_X8_readOpen_88 {G : am_G} {d : Nat} {Q : am_D → Prop} {σ : am_D} {Q' : am_D → Prop} (hc : am_MV G d mX7_advance [am_r (some 1)] σ Q') (k : ∀ σ' : am_D, Q' σ' → am_X (am_FV G (d + 1) Q) mX8_readOpen (0, 0) 95 [none, none, none, none, none, none] [] (am_K0, σ')) : am_X (am_FV G (d + 1) Q) mX8_readOpen (0, 0) 88 [some (am_r (some 3)), none, none, none, none, none] [] (am_K0, σ) := by
  refine am_r_aload_n (nx := 89) rfl rfl (show decode cX8_readOpen 88 = .ok (.aload_n 0, 1) by decide +kernel) rfl ?_
  refine am_r_getF (nx := 92) 0 cw8 (by decide) rfl (Or.inl fl_X8_9) (ob_3) (fn_3_0) (show decode cX8_readOpen 89 = .ok (.getfield 9, 3) by decide +kernel) rfl ?_
  refine am_r_callV (as := []) (st := []) hc mb_X7_advance mv_X7_advance (Or.inl ml_X8_25) (ob_1) (by omega) (r := (RX7, TX7, 6)) rfl rfl rfl rfl (Nat.le_of_ble_eq_true rfl) ⟨Nat.le_refl _, Nat.le_refl _⟩ ⟨Nat.le_refl _, Nat.le_refl _⟩ (show decode cX8_readOpen 92 = .ok (.invokevirtual 25, 3) by decide +kernel) ?_
  rintro _ _ ⟨σ', rfl, rfl, hq⟩ _
  exact am_x_fg [0] (k σ' hq)
theorem S_X8_readOpen_95 {G : am_G} {d : Nat} {Q : am_D → Prop} {σ : am_D}   (k : Q σ) : am_X (am_FV G (d + 1) Q) mX8_readOpen (0, 0) 95 [none, none, none, none, none, none] [] (am_K0, σ) := by
  exact am_r_vret rfl (show decode cX8_readOpen 95 = .ok (.return_, 1) by decide +kernel) ⟨_, rfl, rfl, k⟩
theorem S_X8_readClose_0 {G : am_G} {d : Nat} {Q : am_D → Prop} {σ : am_D} {Q' : Int → am_D → Prop} {v1 : Option Nat} (hc : am_MI G d mX7_letter [am_r (some 1)] σ Q') (k : ∀ (x : Int) (σ' : am_D), Q' x σ' → am_X (am_FV G (d + 1) Q) mX8_readClose (0, 0) 8 [some (am_r (some 3)), some (am_r v1), some (am_i x), none, none, none, none, none] [] (am_K0, σ')) : am_X (am_FV G (d + 1) Q) mX8_readClose (0, 0) 0 [some (am_r (some 3)), some (am_r v1), none, none, none, none, none, none] [] (am_K0, σ) := by
  refine am_r_aload_n (nx := 1) rfl rfl (show decode cX8_readClose 0 = .ok (.aload_n 0, 1) by decide +kernel) rfl ?_
  refine am_r_getF (nx := 4) 0 cw8 (by decide) rfl (Or.inl fl_X8_9) (ob_3) (fn_3_0) (show decode cX8_readClose 1 = .ok (.getfield 9, 3) by decide +kernel) rfl ?_
  refine am_r_callV (as := []) (st := []) hc mb_X7_letter mv_X7_letter (Or.inl ml_X8_39) (ob_1) (by omega) (r := (RX7, TX7, 6)) rfl rfl rfl rfl (Nat.le_of_ble_eq_true rfl) ⟨Nat.le_refl _, Nat.le_refl _⟩ ⟨Nat.le_refl _, Nat.le_refl _⟩ (show decode cX8_readClose 4 = .ok (.invokevirtual 39, 3) by decide +kernel) ?_
  rintro _ _ ⟨x, σ', rfl, rfl, hq⟩ _
  refine am_r_istore_n (nx := 8) rfl (by decide) rfl (show decode cX8_readClose 7 = .ok (.istore_n 2, 1) by decide +kernel) rfl ?_
  exact (k x σ' hq)
theorem S_X8_readClose_8 {G : am_G} {d : Nat} {Q : am_D → Prop} {σ : am_D} {v2 : Int} {v1 : Nat} {Q' : Int → am_D → Prop} (hc1 : am_isM v1) (hc : am_MI G d mX7_digit [am_r (some 1), am_i 0, am_i ((σ.1 v1 0) - 1)] σ Q') (k : ∀ (x : Int) (σ' : am_D), Q' x σ' → am_X (am_FV G (d + 1) Q) mX8_readClose (0, 0) 23 [some (am_r (some 3)), some (am_r (some v1)), some (am_i v2), some (am_i x), none, none, none, none] [] (am_K0, σ')) : am_X (am_FV G (d + 1) Q) mX8_readClose (0, 0) 8 [some (am_r (some 3)), some (am_r (some v1)), some (am_i v2), none, none, none, none, none] [] (am_K0, σ) := by
  refine am_r_aload_n (nx := 9) rfl rfl (show decode cX8_readClose 8 = .ok (.aload_n 0, 1) by decide +kernel) rfl ?_
  refine am_r_getF (nx := 12) 0 cw8 (by decide) rfl (Or.inl fl_X8_9) (ob_3) (fn_3_0) (show decode cX8_readClose 9 = .ok (.getfield 9, 3) by decide +kernel) rfl ?_
  refine am_r_iconst (nx := 13) (show decode cX8_readClose 12 = .ok (.iconst 0, 1) by decide +kernel) rfl ?_
  refine am_r_aload_n (nx := 14) rfl rfl (show decode cX8_readClose 13 = .ok (.aload_n 1, 1) by decide +kernel) rfl ?_
  refine am_r_getI (nx := 17) 0 cw2 (by decide) rfl (Or.inr ⟨_, fl_X8_62⟩) (obM hc1) (show decode cX8_readClose 14 = .ok (.getfield 62, 3) by decide +kernel) rfl ?_
  refine am_r_iconst (nx := 18) (show decode cX8_readClose 17 = .ok (.iconst 1, 1) by decide +kernel) rfl ?_
  refine am_r_isub (nx := 19) (show decode cX8_readClose 18 = .ok (.isub, 1) by decide +kernel) rfl ?_
  refine am_r_callV (as := [am_i 0, am_i ((σ.1 v1 0) - 1)]) (st := []) hc mb_X7_digit mv_X7_digit (Or.inl ml_X8_58) (ob_1) (by omega) (r := (RX7, TX7, 6)) rfl rfl rfl rfl (Nat.le_of_ble_eq_true rfl) ⟨Nat.le_refl _, Nat.le_refl _⟩ ⟨Nat.le_refl _, Nat.le_refl _⟩ (show decode cX8_readClose 19 = .ok (.invokevirtual 58, 3) by decide +kernel) ?_
  rintro _ _ ⟨x, σ', rfl, rfl, hq⟩ _
  refine am_r_istore_n (nx := 23) rfl (by decide) rfl (show decode cX8_readClose 22 = .ok (.istore_n 3, 1) by decide +kernel) rfl ?_
  exact (k x σ' hq)
theorem S_X8_readClose_23 {G : am_G} {d : Nat} {Q : am_D → Prop} {σ : am_D} {v2 : Int} {v3 : Int} {Q' : Int → am_D → Prop} {v1 : Option Nat} (hc : am_MI G d mX7_digit [am_r (some 1), am_i 0, am_i 5] σ Q') (k : ∀ (x : Int) (σ' : am_D), Q' x σ' → am_X (am_FV G (d + 1) Q) mX8_readClose (0, 0) 34 [some (am_r (some 3)), some (am_r v1), some (am_i v2), some (am_i v3), some (am_i x), none, none, none] [] (am_K0, σ')) : am_X (am_FV G (d + 1) Q) mX8_readClose (0, 0) 23 [some (am_r (some 3)), some (am_r v1), some (am_i v2), some (am_i v3), none, none, none, none] [] (am_K0, σ) := by
  refine am_r_aload_n (nx := 24) rfl rfl (show decode cX8_readClose 23 = .ok (.aload_n 0, 1) by decide +kernel) rfl ?_
  refine am_r_getF (nx := 27) 0 cw8 (by decide) rfl (Or.inl fl_X8_9) (ob_3) (fn_3_0) (show decode cX8_readClose 24 = .ok (.getfield 9, 3) by decide +kernel) rfl ?_
  refine am_r_iconst (nx := 28) (show decode cX8_readClose 27 = .ok (.iconst 0, 1) by decide +kernel) rfl ?_
  refine am_r_iconst (nx := 29) (show decode cX8_readClose 28 = .ok (.iconst 5, 1) by decide +kernel) rfl ?_
  refine am_r_callV (as := [am_i 0, am_i 5]) (st := []) hc mb_X7_digit mv_X7_digit (Or.inl ml_X8_58) (ob_1) (by omega) (r := (RX7, TX7, 6)) rfl rfl rfl rfl (Nat.le_of_ble_eq_true rfl) ⟨Nat.le_refl _, Nat.le_refl _⟩ ⟨Nat.le_refl _, Nat.le_refl _⟩ (show decode cX8_readClose 29 = .ok (.invokevirtual 58, 3) by decide +kernel) ?_
  rintro _ _ ⟨x, σ', rfl, rfl, hq⟩ _
  refine am_r_istore (nx := 34) (by decide) rfl (show decode cX8_readClose 32 = .ok (.istore 4, 2) by decide +kernel) rfl ?_
  exact (k x σ' hq)
theorem S_X8_readClose_34 {G : am_G} {d : Nat} {Q : am_D → Prop} {σ : am_D} {v2 : Int} {v3 : Int} {v4 : Int} {Q' : Int → am_D → Prop} {v1 : Option Nat} (hc : am_MI G d mX10_laying [am_i v2, am_i v4] σ Q') (k : ∀ (x : Int) (σ' : am_D), Q' x σ' → am_X (am_FV G (d + 1) Q) mX8_readClose (0, 0) 42 [some (am_r (some 3)), some (am_r v1), none, some (am_i v3), none, some (am_i x), none, none] [] (am_K0, σ')) : am_X (am_FV G (d + 1) Q) mX8_readClose (0, 0) 34 [some (am_r (some 3)), some (am_r v1), some (am_i v2), some (am_i v3), some (am_i v4), none, none, none] [] (am_K0, σ) := by
  refine am_r_iload_n (nx := 35) rfl rfl (show decode cX8_readClose 34 = .ok (.iload_n 2, 1) by decide +kernel) rfl ?_
  refine am_r_iload (nx := 37) rfl (show decode cX8_readClose 35 = .ok (.iload 4, 2) by decide +kernel) rfl ?_
  refine am_r_callS (as := [am_i v2, am_i v4]) (st := []) hc mb_X10_laying mv_X10_laying (Or.inr ⟨_, ml_X8_103⟩) rfl rfl (Nat.le_of_ble_eq_true rfl) ⟨Nat.le_refl _, Nat.le_refl _⟩ ⟨Nat.le_refl _, Nat.le_refl _⟩ (show decode cX8_readClose 37 = .ok (.invokestatic 103, 3) by decide +kernel) ?_
  rintro _ _ ⟨x, σ', rfl, rfl, hq⟩ _
  refine am_r_istore (nx := 42) (by decide) rfl (show decode cX8_readClose 40 = .ok (.istore 5, 2) by decide +kernel) rfl ?_
  exact am_x_fg [2, 4] (k x σ' hq)
theorem S_X8_readClose_42 {G : am_G} {d : Nat} {Q : am_D → Prop} {σ : am_D} {v3 : Int} {v5 : Int} {v1 : Nat} {Q' : Int → am_D → Prop} (hc : am_MI G d mX2_closesTo [am_r (some v1), am_i v5, am_i v3] σ Q') (hc1 : am_isM v1) (k : ∀ (x : Int) (σ' : am_D), Q' x σ' → am_X (am_FV G (d + 1) Q) mX8_readClose (0, 0) 49 [some (am_r (some 3)), some (am_r (some v1)), none, some (am_i v3), none, some (am_i v5), none, none] [am_i x] (am_K0, σ')) : am_X (am_FV G (d + 1) Q) mX8_readClose (0, 0) 42 [some (am_r (some 3)), some (am_r (some v1)), none, some (am_i v3), none, some (am_i v5), none, none] [] (am_K0, σ) := by
  refine am_r_aload_n (nx := 43) rfl rfl (show decode cX8_readClose 42 = .ok (.aload_n 1, 1) by decide +kernel) rfl ?_
  refine am_r_iload (nx := 45) rfl (show decode cX8_readClose 43 = .ok (.iload 5, 2) by decide +kernel) rfl ?_
  refine am_r_iload_n (nx := 46) rfl rfl (show decode cX8_readClose 45 = .ok (.iload_n 3, 1) by decide +kernel) rfl ?_
  refine am_r_callV (as := [am_i v5, am_i v3]) (st := []) hc mb_X2_closesTo mv_X2_closesTo (Or.inl ml_X8_106) (obM hc1) (by omega) (r := (RX2, TX2, 16)) rfl rfl rfl rfl (Nat.le_of_ble_eq_true rfl) ⟨Nat.le_refl _, Nat.le_refl _⟩ ⟨Nat.le_refl _, Nat.le_refl _⟩ (show decode cX8_readClose 46 = .ok (.invokevirtual 106, 3) by decide +kernel) ?_
  rintro _ _ ⟨x, σ', rfl, rfl, hq⟩ _
  exact (k x σ' hq)
theorem S_X8_readClose_49 {G : am_G} {d : Nat} {Q : am_D → Prop} {σ : am_D} {v3 : Int} {v5 : Int} {s0 : Int} {v1 : Option Nat} (hr1 : -2147483648 ≤ s0 ∧ s0 ≤ 2147483647) (k1 : s0 = (-1) → am_X (am_FV G (d + 1) Q) mX8_readClose (0, 0) 61 [some (am_r (some 3)), some (am_r v1), none, some (am_i v3), none, some (am_i v5), none, none] [] (am_K0, σ)) (k2 : ¬ (s0 = (-1)) → am_X (am_FV G (d + 1) Q) mX8_readClose (0, 0) 53 [some (am_r (some 3)), some (am_r v1), none, some (am_i v3), none, some (am_i v5), none, none] [] (am_K0, σ)) : am_X (am_FV G (d + 1) Q) mX8_readClose (0, 0) 49 [some (am_r (some 3)), some (am_r v1), none, some (am_i v3), none, some (am_i v5), none, none] [am_i s0] (am_K0, σ) := by
  refine am_r_iconst (nx := 50) (show decode cX8_readClose 49 = .ok (.iconst (-1), 1) by decide +kernel) rfl ?_
  refine am_r_icmp_eq (tg := 61) (nx := 53) (show decode cX8_readClose 50 = .ok (.if_icmp .eq 11, 3) by decide +kernel) (by decide) rfl hr1 (by omega) ?_ ?_
  · exact fun q => k1 q
  · exact fun q => k2 q
theorem S_X8_readClose_53 {G : am_G} {d : Nat} {Q : am_D → Prop} {σ : am_D} {v3 : Int} {v5 : Int} {Q' : am_D → Prop} {v1 : Option Nat} (hc : am_MV G d mX7_fail [am_r (some 1), am_i 3] σ Q') (k : ∀ σ' : am_D, Q' σ' → am_X (am_FV G (d + 1) Q) mX8_readClose (0, 0) 61 [some (am_r (some 3)), some (am_r v1), none, some (am_i v3), none, some (am_i v5), none, none] [] (am_K0, σ')) : am_X (am_FV G (d + 1) Q) mX8_readClose (0, 0) 53 [some (am_r (some 3)), some (am_r v1), none, some (am_i v3), none, some (am_i v5), none, none] [] (am_K0, σ) := by
  refine am_r_aload_n (nx := 54) rfl rfl (show decode cX8_readClose 53 = .ok (.aload_n 0, 1) by decide +kernel) rfl ?_
  refine am_r_getF (nx := 57) 0 cw8 (by decide) rfl (Or.inl fl_X8_9) (ob_3) (fn_3_0) (show decode cX8_readClose 54 = .ok (.getfield 9, 3) by decide +kernel) rfl ?_
  refine am_r_iconst (nx := 58) (show decode cX8_readClose 57 = .ok (.iconst 3, 1) by decide +kernel) rfl ?_
  refine am_r_callV (as := [am_i 3]) (st := []) hc mb_X7_fail mv_X7_fail (Or.inl ml_X8_35) (ob_1) (by omega) (r := (RX7, TX7, 6)) rfl rfl rfl rfl (Nat.le_of_ble_eq_true rfl) ⟨Nat.le_refl _, Nat.le_refl _⟩ ⟨Nat.le_refl _, Nat.le_refl _⟩ (show decode cX8_readClose 58 = .ok (.invokevirtual 35, 3) by decide +kernel) ?_
  rintro _ _ ⟨σ', rfl, rfl, hq⟩ _
  exact (k σ' hq)
theorem S_X8_readClose_61 {G : am_G} {d : Nat} {Q : am_D → Prop} {σ : am_D} {v3 : Int} {v5 : Int} {v1 : Nat} {Q' : Int → am_D → Prop} (hc1 : am_isM v1) (hc : am_MI G d mX7_digit [am_r (some 1), am_i 0, am_i ((σ.1 v1 0) - 1)] σ Q') (k : ∀ (x : Int) (σ' : am_D), Q' x σ' → am_X (am_FV G (d + 1) Q) mX8_readClose (0, 0) 77 [some (am_r (some 3)), some (am_r (some v1)), none, some (am_i v3), none, some (am_i v5), some (am_i x), none] [] (am_K0, σ')) : am_X (am_FV G (d + 1) Q) mX8_readClose (0, 0) 61 [some (am_r (some 3)), some (am_r (some v1)), none, some (am_i v3), none, some (am_i v5), none, none] [] (am_K0, σ) := by
  refine am_r_aload_n (nx := 62) rfl rfl (show decode cX8_readClose 61 = .ok (.aload_n 0, 1) by decide +kernel) rfl ?_
  refine am_r_getF (nx := 65) 0 cw8 (by decide) rfl (Or.inl fl_X8_9) (ob_3) (fn_3_0) (show decode cX8_readClose 62 = .ok (.getfield 9, 3) by decide +kernel) rfl ?_
  refine am_r_iconst (nx := 66) (show decode cX8_readClose 65 = .ok (.iconst 0, 1) by decide +kernel) rfl ?_
  refine am_r_aload_n (nx := 67) rfl rfl (show decode cX8_readClose 66 = .ok (.aload_n 1, 1) by decide +kernel) rfl ?_
  refine am_r_getI (nx := 70) 0 cw2 (by decide) rfl (Or.inr ⟨_, fl_X8_62⟩) (obM hc1) (show decode cX8_readClose 67 = .ok (.getfield 62, 3) by decide +kernel) rfl ?_
  refine am_r_iconst (nx := 71) (show decode cX8_readClose 70 = .ok (.iconst 1, 1) by decide +kernel) rfl ?_
  refine am_r_isub (nx := 72) (show decode cX8_readClose 71 = .ok (.isub, 1) by decide +kernel) rfl ?_
  refine am_r_callV (as := [am_i 0, am_i ((σ.1 v1 0) - 1)]) (st := []) hc mb_X7_digit mv_X7_digit (Or.inl ml_X8_58) (ob_1) (by omega) (r := (RX7, TX7, 6)) rfl rfl rfl rfl (Nat.le_of_ble_eq_true rfl) ⟨Nat.le_refl _, Nat.le_refl _⟩ ⟨Nat.le_refl _, Nat.le_refl _⟩ (show decode cX8_readClose 72 = .ok (.invokevirtual 58, 3) by decide +kernel) ?_
  rintro _ _ ⟨x, σ', rfl, rfl, hq⟩ _
  refine am_r_istore (nx := 77) (by decide) rfl (show decode cX8_readClose 75 = .ok (.istore 6, 2) by decide +kernel) rfl ?_
  exact (k x σ' hq)
theorem S_X8_readClose_77 {G : am_G} {d : Nat} {Q : am_D → Prop} {σ : am_D} {v3 : Int} {v5 : Int} {v6 : Int} {Q' : am_D → Prop} {v1 : Option Nat} (hc : am_MV G d mX7_sign [am_r (some 1), am_i 61] σ Q') (k : ∀ σ' : am_D, Q' σ' → am_X (am_FV G (d + 1) Q) mX8_readClose (0, 0) 86 [some (am_r (some 3)), some (am_r v1), none, some (am_i v3), none, some (am_i v5), some (am_i v6), none] [] (am_K0, σ')) : am_X (am_FV G (d + 1) Q) mX8_readClose (0, 0) 77 [some (am_r (some 3)), some (am_r v1), none, some (am_i v3), none, some (am_i v5), some (am_i v6), none] [] (am_K0, σ) := by
  refine am_r_aload_n (nx := 78) rfl rfl (show decode cX8_readClose 77 = .ok (.aload_n 0, 1) by decide +kernel) rfl ?_
  refine am_r_getF (nx := 81) 0 cw8 (by decide) rfl (Or.inl fl_X8_9) (ob_3) (fn_3_0) (show decode cX8_readClose 78 = .ok (.getfield 9, 3) by decide +kernel) rfl ?_
  refine am_r_bipush (nx := 83) rfl (show decode cX8_readClose 81 = .ok (.bipush 61, 2) by decide +kernel) rfl ?_
  refine am_r_callV (as := [am_i 61]) (st := []) hc mb_X7_sign mv_X7_sign (Or.inl ml_X8_109) (ob_1) (by omega) (r := (RX7, TX7, 6)) rfl rfl rfl rfl (Nat.le_of_ble_eq_true rfl) ⟨Nat.le_refl _, Nat.le_refl _⟩ ⟨Nat.le_refl _, Nat.le_refl _⟩ (show decode cX8_readClose 83 = .ok (.invokevirtual 109, 3) by decide +kernel) ?_
  rintro _ _ ⟨σ', rfl, rfl, hq⟩ _
  exact (k σ' hq)
theorem S_X8_readClose_86 {G : am_G} {d : Nat} {Q : am_D → Prop} {σ : am_D} {v3 : Int} {v5 : Int} {v6 : Int} {v1 : Option Nat} (hr1 : -2147483648 ≤ (σ.1 1 5) ∧ (σ.1 1 5) ≤ 2147483647) (k1 : ¬ (σ.1 1 5) = 0 → am_X (am_FV G (d + 1) Q) mX8_readClose (0, 0) 105 [some (am_r (some 3)), some (am_r v1), none, none, none, none, none, none] [] (am_K0, σ)) (k2 : ¬ (¬ (σ.1 1 5) = 0) → am_X (am_FV G (d + 1) Q) mX8_readClose (0, 0) 96 [some (am_r (some 3)), some (am_r v1), none, some (am_i v3), none, some (am_i v5), some (am_i v6), none] [] (am_K0, σ)) : am_X (am_FV G (d + 1) Q) mX8_readClose (0, 0) 86 [some (am_r (some 3)), some (am_r v1), none, some (am_i v3), none, some (am_i v5), some (am_i v6), none] [] (am_K0, σ) := by
  refine am_r_aload_n (nx := 87) rfl rfl (show decode cX8_readClose 86 = .ok (.aload_n 0, 1) by decide +kernel) rfl ?_
  refine am_r_getF (nx := 90) 0 cw8 (by decide) rfl (Or.inl fl_X8_9) (ob_3) (fn_3_0) (show decode cX8_readClose 87 = .ok (.getfield 9, 3) by decide +kernel) rfl ?_
  refine am_r_getI (nx := 93) 5 cw7 (by decide) rfl (Or.inr ⟨_, fl_X8_32⟩) (ob_1) (show decode cX8_readClose 90 = .ok (.getfield 32, 3) by decide +kernel) rfl ?_
  refine am_r_if_ne (tg := 105) (nx := 96) (show decode cX8_readClose 93 = .ok (.ifCond .ne 12, 3) by decide +kernel) (by decide) rfl hr1 ?_ ?_
  · exact fun q => am_x_fg [3, 5, 6] (k1 q)
  · exact fun q => k2 q
theorem S_X8_readClose_96 {G : am_G} {d : Nat} {Q : am_D → Prop} {σ : am_D} {v3 : Int} {v5 : Int} {v6 : Int} {v1 : Nat} {Q' : am_D → Prop} (hc : am_MV G d mX2_addClose [am_r (some v1), am_i v5, am_i v3, am_i v6] σ Q') (hc1 : am_isM v1) (k : ∀ σ' : am_D, Q' σ' → am_X (am_FV G (d + 1) Q) mX8_readClose (0, 0) 105 [some (am_r (some 3)), some (am_r (some v1)), none, none, none, none, none, none] [] (am_K0, σ')) : am_X (am_FV G (d + 1) Q) mX8_readClose (0, 0) 96 [some (am_r (some 3)), some (am_r (some v1)), none, some (am_i v3), none, some (am_i v5), some (am_i v6), none] [] (am_K0, σ) := by
  refine am_r_aload_n (nx := 97) rfl rfl (show decode cX8_readClose 96 = .ok (.aload_n 1, 1) by decide +kernel) rfl ?_
  refine am_r_iload (nx := 99) rfl (show decode cX8_readClose 97 = .ok (.iload 5, 2) by decide +kernel) rfl ?_
  refine am_r_iload_n (nx := 100) rfl rfl (show decode cX8_readClose 99 = .ok (.iload_n 3, 1) by decide +kernel) rfl ?_
  refine am_r_iload (nx := 102) rfl (show decode cX8_readClose 100 = .ok (.iload 6, 2) by decide +kernel) rfl ?_
  refine am_r_callV (as := [am_i v5, am_i v3, am_i v6]) (st := []) hc mb_X2_addClose mv_X2_addClose (Or.inl ml_X8_112) (obM hc1) (by omega) (r := (RX2, TX2, 16)) rfl rfl rfl rfl (Nat.le_of_ble_eq_true rfl) ⟨Nat.le_refl _, Nat.le_refl _⟩ ⟨Nat.le_refl _, Nat.le_refl _⟩ (show decode cX8_readClose 102 = .ok (.invokevirtual 112, 3) by decide +kernel) ?_
  rintro _ _ ⟨σ', rfl, rfl, hq⟩ _
  exact am_x_fg [3, 5, 6] (k σ' hq)
theorem S_X8_readClose_105 {G : am_G} {d : Nat} {Q : am_D → Prop} {σ : am_D} {v1 : Option Nat}  (k : am_X (am_FV G (d + 1) Q) mX8_readClose (0, 0) 108 [some (am_r (some 3)), some (am_r v1), none, none, none, none, none, some (am_i 0)] [] (am_K0, σ)) : am_X (am_FV G (d + 1) Q) mX8_readClose (0, 0) 105 [some (am_r (some 3)), some (am_r v1), none, none, none, none, none, none] [] (am_K0, σ) := by
  refine am_r_iconst (nx := 106) (show decode cX8_readClose 105 = .ok (.iconst 0, 1) by decide +kernel) rfl ?_
  refine am_r_istore (nx := 108) (by decide) rfl (show decode cX8_readClose 106 = .ok (.istore 7, 2) by decide +kernel) rfl ?_
  exact k
theorem S_X8_readClose_108 {G : am_G} {d : Nat} {Q : am_D → Prop} {σ : am_D} {v7 : Int} {v1 : Nat} (hc1 : am_isM v1) (hr2 : -2147483648 ≤ v7 ∧ v7 ≤ 2147483647) (hr3 : -2147483648 ≤ (σ.1 v1 1) ∧ (σ.1 v1 1) ≤ 2147483647) (k1 : (σ.1 v1 1) ≤ v7 → am_X (am_FV G (d + 1) Q) mX8_readClose (0, 0) 164 [some (am_r (some 3)), some (am_r (some v1)), none, none, none, none, none, none] [] (am_K0, σ)) (k2 : ¬ ((σ.1 v1 1) ≤ v7) → am_X (am_FV G (d + 1) Q) mX8_readClose (0, 0) 117 [some (am_r (some 3)), some (am_r (some v1)), none, none, none, none, none, some (am_i v7)] [] (am_K0, σ)) : am_X (am_FV G (d + 1) Q) mX8_readClose (0, 0) 108 [some (am_r (some 3)), some (am_r (some v1)), none, none, none, none, none, some (am_i v7)] [] (am_K0, σ) := by
  refine am_r_iload (nx := 110) rfl (show decode cX8_readClose 108 = .ok (.iload 7, 2) by decide +kernel) rfl ?_
  refine am_r_aload_n (nx := 111) rfl rfl (show decode cX8_readClose 110 = .ok (.aload_n 1, 1) by decide +kernel) rfl ?_
  refine am_r_getI (nx := 114) 1 cw2 (by decide) rfl (Or.inr ⟨_, fl_X8_65⟩) (obM hc1) (show decode cX8_readClose 111 = .ok (.getfield 65, 3) by decide +kernel) rfl ?_
  refine am_r_icmp_ge (tg := 164) (nx := 117) (show decode cX8_readClose 114 = .ok (.if_icmp .ge 50, 3) by decide +kernel) (by decide) rfl hr2 hr3 ?_ ?_
  · exact fun q => am_x_fg [7] (k1 q)
  · exact fun q => k2 q
theorem S_X8_readClose_117 {G : am_G} {d : Nat} {Q : am_D → Prop} {σ : am_D} {v7 : Int} {v1 : Option Nat} (hr1 : -2147483648 ≤ (σ.1 1 5) ∧ (σ.1 1 5) ≤ 2147483647) (k1 : ¬ (σ.1 1 5) = 0 → am_X (am_FV G (d + 1) Q) mX8_readClose (0, 0) 164 [some (am_r (some 3)), some (am_r v1), none, none, none, none, none, none] [] (am_K0, σ)) (k2 : ¬ (¬ (σ.1 1 5) = 0) → am_X (am_FV G (d + 1) Q) mX8_readClose (0, 0) 127 [some (am_r (some 3)), some (am_r v1), none, none, none, none, none, some (am_i v7)] [] (am_K0, σ)) : am_X (am_FV G (d + 1) Q) mX8_readClose (0, 0) 117 [some (am_r (some 3)), some (am_r v1), none, none, none, none, none, some (am_i v7)] [] (am_K0, σ) := by
  refine am_r_aload_n (nx := 118) rfl rfl (show decode cX8_readClose 117 = .ok (.aload_n 0, 1) by decide +kernel) rfl ?_
  refine am_r_getF (nx := 121) 0 cw8 (by decide) rfl (Or.inl fl_X8_9) (ob_3) (fn_3_0) (show decode cX8_readClose 118 = .ok (.getfield 9, 3) by decide +kernel) rfl ?_
  refine am_r_getI (nx := 124) 5 cw7 (by decide) rfl (Or.inr ⟨_, fl_X8_32⟩) (ob_1) (show decode cX8_readClose 121 = .ok (.getfield 32, 3) by decide +kernel) rfl ?_
  refine am_r_if_ne (tg := 164) (nx := 127) (show decode cX8_readClose 124 = .ok (.ifCond .ne 40, 3) by decide +kernel) (by decide) rfl hr1 ?_ ?_
  · exact fun q => am_x_fg [7] (k1 q)
  · exact fun q => k2 q
theorem S_X8_readClose_127 {G : am_G} {d : Nat} {Q : am_D → Prop} {σ : am_D} {v7 : Int} {v1 : Option Nat} (hr1 : -2147483648 ≤ v7 ∧ v7 ≤ 2147483647) (k1 : v7 ≤ 0 → am_X (am_FV G (d + 1) Q) mX8_readClose (0, 0) 152 [some (am_r (some 3)), some (am_r v1), none, none, none, none, none, some (am_i v7)] [] (am_K0, σ)) (k2 : ¬ (v7 ≤ 0) → am_X (am_FV G (d + 1) Q) mX8_readClose (0, 0) 132 [some (am_r (some 3)), some (am_r v1), none, none, none, none, none, some (am_i v7)] [] (am_K0, σ)) : am_X (am_FV G (d + 1) Q) mX8_readClose (0, 0) 127 [some (am_r (some 3)), some (am_r v1), none, none, none, none, none, some (am_i v7)] [] (am_K0, σ) := by
  refine am_r_iload (nx := 129) rfl (show decode cX8_readClose 127 = .ok (.iload 7, 2) by decide +kernel) rfl ?_
  refine am_r_if_le (tg := 152) (nx := 132) (show decode cX8_readClose 129 = .ok (.ifCond .le 23, 3) by decide +kernel) (by decide) rfl hr1 ?_ ?_
  · exact fun q => k1 q
  · exact fun q => k2 q
theorem S_X8_readClose_132 {G : am_G} {d : Nat} {Q : am_D → Prop} {σ : am_D} {v7 : Int} {v1 : Option Nat} (hr1 : -2147483648 ≤ (σ.1 1 2) ∧ (σ.1 1 2) ≤ 2147483647) (k1 : (σ.1 1 2) = 44 → am_X (am_FV G (d + 1) Q) mX8_readClose (0, 0) 152 [some (am_r (some 3)), some (am_r v1), none, none, none, none, none, some (am_i v7)] [] (am_K0, σ)) (k2 : ¬ ((σ.1 1 2) = 44) → am_X (am_FV G (d + 1) Q) mX8_readClose (0, 0) 144 [some (am_r (some 3)), some (am_r v1), none, none, none, none, none, some (am_i v7)] [] (am_K0, σ)) : am_X (am_FV G (d + 1) Q) mX8_readClose (0, 0) 132 [some (am_r (some 3)), some (am_r v1), none, none, none, none, none, some (am_i v7)] [] (am_K0, σ) := by
  refine am_r_aload_n (nx := 133) rfl rfl (show decode cX8_readClose 132 = .ok (.aload_n 0, 1) by decide +kernel) rfl ?_
  refine am_r_getF (nx := 136) 0 cw8 (by decide) rfl (Or.inl fl_X8_9) (ob_3) (fn_3_0) (show decode cX8_readClose 133 = .ok (.getfield 9, 3) by decide +kernel) rfl ?_
  refine am_r_getI (nx := 139) 2 cw7 (by decide) rfl (Or.inr ⟨_, fl_X8_28⟩) (ob_1) (show decode cX8_readClose 136 = .ok (.getfield 28, 3) by decide +kernel) rfl ?_
  refine am_r_bipush (nx := 141) rfl (show decode cX8_readClose 139 = .ok (.bipush 44, 2) by decide +kernel) rfl ?_
  refine am_r_icmp_eq (tg := 152) (nx := 144) (show decode cX8_readClose 141 = .ok (.if_icmp .eq 11, 3) by decide +kernel) (by decide) rfl hr1 (by omega) ?_ ?_
  · exact fun q => k1 q
  · exact fun q => k2 q
theorem S_X8_readClose_144 {G : am_G} {d : Nat} {Q : am_D → Prop} {σ : am_D} {v7 : Int} {Q' : am_D → Prop} {v1 : Option Nat} (hc : am_MV G d mX7_fail [am_r (some 1), am_i 1] σ Q') (k : ∀ σ' : am_D, Q' σ' → am_X (am_FV G (d + 1) Q) mX8_readClose (0, 0) 152 [some (am_r (some 3)), some (am_r v1), none, none, none, none, none, some (am_i v7)] [] (am_K0, σ')) : am_X (am_FV G (d + 1) Q) mX8_readClose (0, 0) 144 [some (am_r (some 3)), some (am_r v1), none, none, none, none, none, some (am_i v7)] [] (am_K0, σ) := by
  refine am_r_aload_n (nx := 145) rfl rfl (show decode cX8_readClose 144 = .ok (.aload_n 0, 1) by decide +kernel) rfl ?_
  refine am_r_getF (nx := 148) 0 cw8 (by decide) rfl (Or.inl fl_X8_9) (ob_3) (fn_3_0) (show decode cX8_readClose 145 = .ok (.getfield 9, 3) by decide +kernel) rfl ?_
  refine am_r_iconst (nx := 149) (show decode cX8_readClose 148 = .ok (.iconst 1, 1) by decide +kernel) rfl ?_
  refine am_r_callV (as := [am_i 1]) (st := []) hc mb_X7_fail mv_X7_fail (Or.inl ml_X8_35) (ob_1) (by omega) (r := (RX7, TX7, 6)) rfl rfl rfl rfl (Nat.le_of_ble_eq_true rfl) ⟨Nat.le_refl _, Nat.le_refl _⟩ ⟨Nat.le_refl _, Nat.le_refl _⟩ (show decode cX8_readClose 149 = .ok (.invokevirtual 35, 3) by decide +kernel) ?_
  rintro _ _ ⟨σ', rfl, rfl, hq⟩ _
  exact (k σ' hq)
theorem S_X8_readClose_152 {G : am_G} {d : Nat} {Q : am_D → Prop} {σ : am_D} {v7 : Int} {v1 : Option Nat} {Q' : am_D → Prop} (hc : am_MV G d mX8_readExpression [am_r (some 3), am_r v1, am_i 1] σ Q') (k : ∀ σ' : am_D, Q' σ' → am_X (am_FV G (d + 1) Q) mX8_readClose (0, 0) 158 [some (am_r (some 3)), some (am_r v1), none, none, none, none, none, some (am_i v7)] [] (am_K0, σ')) : am_X (am_FV G (d + 1) Q) mX8_readClose (0, 0) 152 [some (am_r (some 3)), some (am_r v1), none, none, none, none, none, some (am_i v7)] [] (am_K0, σ) := by
  refine am_r_aload_n (nx := 153) rfl rfl (show decode cX8_readClose 152 = .ok (.aload_n 0, 1) by decide +kernel) rfl ?_
  refine am_r_aload_n (nx := 154) rfl rfl (show decode cX8_readClose 153 = .ok (.aload_n 1, 1) by decide +kernel) rfl ?_
  refine am_r_iconst (nx := 155) (show decode cX8_readClose 154 = .ok (.iconst 1, 1) by decide +kernel) rfl ?_
  refine am_r_callV (as := [am_r v1, am_i 1]) (st := []) hc mb_X8_readExpression mv_X8_readExpression (Or.inl ml_X8_116) (ob_3) (by omega) (r := (RX8, TX8, 3)) rfl rfl rfl rfl (Nat.le_of_ble_eq_true rfl) ⟨Nat.le_refl _, Nat.le_refl _⟩ ⟨Nat.le_refl _, Nat.le_refl _⟩ (show decode cX8_readClose 155 = .ok (.invokevirtual 116, 3) by decide +kernel) ?_
  rintro _ _ ⟨σ', rfl, rfl, hq⟩ _
  exact (k σ' hq)
theorem S_X8_readClose_158 {G : am_G} {d : Nat} {Q : am_D → Prop} {σ : am_D} {v7 : Int} {v1 : Option Nat}  (k : am_X (am_FV G (d + 1) Q) mX8_readClose (0, 0) 108 [some (am_r (some 3)), some (am_r v1), none, none, none, none, none, some (am_i (v7 + 1))] [] (am_K0, σ)) : am_X (am_FV G (d + 1) Q) mX8_readClose (0, 0) 158 [some (am_r (some 3)), some (am_r v1), none, none, none, none, none, some (am_i v7)] [] (am_K0, σ) := by
  refine am_r_iinc (nx := 161) rfl rfl (show decode cX8_readClose 158 = .ok (.iinc 7 1, 3) by decide +kernel) rfl ?_
  refine am_r_goto (tg := 108) (show decode cX8_readClose 161 = .ok (.goto (-53), 3) by decide +kernel) (by decide) ?_
  exact k
theorem S_X8_readClose_164 {G : am_G} {d : Nat} {Q : am_D → Prop} {σ : am_D} {v1 : Nat} {Q' : Int → am_D → Prop} (hc1 : am_isM v1) (hc : am_MI G d mJ9_max_7cf53 [am_i (σ.1 v1 5), am_i (σ.1 3 1)] σ Q') (k : ∀ (x : Int) (σ' : am_D), Q' x σ' → am_X (am_FV G (d + 1) Q) mX8_readClose (0, 0) 176 [none, none, none, none, none, none, none, none] [am_i x, am_r (some v1)] (am_K0, σ')) : am_X (am_FV G (d + 1) Q) mX8_readClose (0, 0) 164 [some (am_r (some 3)), some (am_r (some v1)), none, none, none, none, none, none] [] (am_K0, σ) := by
  refine am_r_aload_n (nx := 165) rfl rfl (show decode cX8_readClose 164 = .ok (.aload_n 1, 1) by decide +kernel) rfl ?_
  refine am_r_aload_n (nx := 166) rfl rfl (show decode cX8_readClose 165 = .ok (.aload_n 1, 1) by decide +kernel) rfl ?_
  refine am_r_getI (nx := 169) 5 cw2 (by decide) rfl (Or.inr ⟨_, fl_X8_120⟩) (obM hc1) (show decode cX8_readClose 166 = .ok (.getfield 120, 3) by decide +kernel) rfl ?_
  refine am_r_aload_n (nx := 170) rfl rfl (show decode cX8_readClose 169 = .ok (.aload_n 0, 1) by decide +kernel) rfl ?_
  refine am_r_getI (nx := 173) 1 cw8 (by decide) rfl (Or.inl fl_X8_90) (ob_3) (show decode cX8_readClose 170 = .ok (.getfield 90, 3) by decide +kernel) rfl ?_
  refine am_r_callS (as := [am_i (σ.1 v1 5), am_i (σ.1 3 1)]) (st := [am_r (some v1)]) hc mb_J9_max_7cf53 mv_J9_max_7cf53 (Or.inl ml_X8_123) rfl rfl (Nat.le_of_ble_eq_true rfl) ⟨Nat.le_refl _, Nat.le_refl _⟩ ⟨Nat.le_refl _, Nat.le_refl _⟩ (show decode cX8_readClose 173 = .ok (.invokestatic 123, 3) by decide +kernel) ?_
  rintro _ _ ⟨x, σ', rfl, rfl, hq⟩ _
  exact am_x_fg [0, 1] (k x σ' hq)
theorem S_X8_readClose_176 {G : am_G} {d : Nat} {Q : am_D → Prop} {σ : am_D} {s1 : Int} {s0 : Nat} (hc1 : am_isM s0) (k : am_X (am_FV G (d + 1) Q) mX8_readClose (0, 0) 179 [none, none, none, none, none, none, none, none] [] (am_K0, (am_pI σ s0 5 s1))) : am_X (am_FV G (d + 1) Q) mX8_readClose (0, 0) 176 [none, none, none, none, none, none, none, none] [am_i s1, am_r (some s0)] (am_K0, σ) := by
  refine am_r_putI (nx := 179) 5 cw2 (by decide) rfl (Or.inr ⟨_, fl_X8_120⟩) (obM hc1) rfl (Or.inl rfl) (show decode cX8_readClose 176 = .ok (.putfield 120, 3) by decide +kernel) rfl ?_
  exact k
theorem S_X8_readClose_179 {G : am_G} {d : Nat} {Q : am_D → Prop} {σ : am_D}   (k : Q σ) : am_X (am_FV G (d + 1) Q) mX8_readClose (0, 0) 179 [none, none, none, none, none, none, none, none] [] (am_K0, σ) := by
  exact am_r_vret rfl (show decode cX8_readClose 179 = .ok (.return_, 1) by decide +kernel) ⟨_, rfl, rfl, k⟩
theorem S_X8_readEnd_0 {G : am_G} {d : Nat} {Q : am_D → Prop} {σ : am_D} {v1 : Nat} {Q' : Int → am_D → Prop} (hc1 : am_isM v1) (hc : am_MI G d mX7_digit [am_r (some 1), am_i 0, am_i ((σ.1 v1 0) - 1)] σ Q') (k : ∀ (x : Int) (σ' : am_D), Q' x σ' → am_X (am_FV G (d + 1) Q) mX8_readEnd (0, 0) 15 [some (am_r (some 3)), some (am_r (some v1)), some (am_i x)] [] (am_K0, σ')) : am_X (am_FV G (d + 1) Q) mX8_readEnd (0, 0) 0 [some (am_r (some 3)), some (am_r (some v1)), none] [] (am_K0, σ) := by
  refine am_r_aload_n (nx := 1) rfl rfl (show decode cX8_readEnd 0 = .ok (.aload_n 0, 1) by decide +kernel) rfl ?_
  refine am_r_getF (nx := 4) 0 cw8 (by decide) rfl (Or.inl fl_X8_9) (ob_3) (fn_3_0) (show decode cX8_readEnd 1 = .ok (.getfield 9, 3) by decide +kernel) rfl ?_
  refine am_r_iconst (nx := 5) (show decode cX8_readEnd 4 = .ok (.iconst 0, 1) by decide +kernel) rfl ?_
  refine am_r_aload_n (nx := 6) rfl rfl (show decode cX8_readEnd 5 = .ok (.aload_n 1, 1) by decide +kernel) rfl ?_
  refine am_r_getI (nx := 9) 0 cw2 (by decide) rfl (Or.inr ⟨_, fl_X8_62⟩) (obM hc1) (show decode cX8_readEnd 6 = .ok (.getfield 62, 3) by decide +kernel) rfl ?_
  refine am_r_iconst (nx := 10) (show decode cX8_readEnd 9 = .ok (.iconst 1, 1) by decide +kernel) rfl ?_
  refine am_r_isub (nx := 11) (show decode cX8_readEnd 10 = .ok (.isub, 1) by decide +kernel) rfl ?_
  refine am_r_callV (as := [am_i 0, am_i ((σ.1 v1 0) - 1)]) (st := []) hc mb_X7_digit mv_X7_digit (Or.inl ml_X8_58) (ob_1) (by omega) (r := (RX7, TX7, 6)) rfl rfl rfl rfl (Nat.le_of_ble_eq_true rfl) ⟨Nat.le_refl _, Nat.le_refl _⟩ ⟨Nat.le_refl _, Nat.le_refl _⟩ (show decode cX8_readEnd 11 = .ok (.invokevirtual 58, 3) by decide +kernel) ?_
  rintro _ _ ⟨x, σ', rfl, rfl, hq⟩ _
  refine am_r_istore_n (nx := 15) rfl (by decide) rfl (show decode cX8_readEnd 14 = .ok (.istore_n 2, 1) by decide +kernel) rfl ?_
  exact (k x σ' hq)
theorem S_X8_readEnd_15 {G : am_G} {d : Nat} {Q : am_D → Prop} {σ : am_D} {v2 : Int} {v1 : Nat} {Q' : Int → am_D → Prop} (hc : am_MI G d mX2_endTells [am_r (some v1), am_i v2] σ Q') (hc1 : am_isM v1) (k : ∀ (x : Int) (σ' : am_D), Q' x σ' → am_X (am_FV G (d + 1) Q) mX8_readEnd (0, 0) 20 [some (am_r (some 3)), some (am_r (some v1)), some (am_i v2)] [am_i x] (am_K0, σ')) : am_X (am_FV G (d + 1) Q) mX8_readEnd (0, 0) 15 [some (am_r (some 3)), some (am_r (some v1)), some (am_i v2)] [] (am_K0, σ) := by
  refine am_r_aload_n (nx := 16) rfl rfl (show decode cX8_readEnd 15 = .ok (.aload_n 1, 1) by decide +kernel) rfl ?_
  refine am_r_iload_n (nx := 17) rfl rfl (show decode cX8_readEnd 16 = .ok (.iload_n 2, 1) by decide +kernel) rfl ?_
  refine am_r_callV (as := [am_i v2]) (st := []) hc mb_X2_endTells mv_X2_endTells (Or.inl ml_X8_128) (obM hc1) (by omega) (r := (RX2, TX2, 16)) rfl rfl rfl rfl (Nat.le_of_ble_eq_true rfl) ⟨Nat.le_refl _, Nat.le_refl _⟩ ⟨Nat.le_refl _, Nat.le_refl _⟩ (show decode cX8_readEnd 17 = .ok (.invokevirtual 128, 3) by decide +kernel) ?_
  rintro _ _ ⟨x, σ', rfl, rfl, hq⟩ _
  exact (k x σ' hq)
theorem S_X8_readEnd_20 {G : am_G} {d : Nat} {Q : am_D → Prop} {σ : am_D} {v2 : Int} {s0 : Int} {v1 : Option Nat} (hr1 : -2147483648 ≤ s0 ∧ s0 ≤ 2147483647) (k1 : s0 = (-1) → am_X (am_FV G (d + 1) Q) mX8_readEnd (0, 0) 32 [some (am_r (some 3)), some (am_r v1), some (am_i v2)] [] (am_K0, σ)) (k2 : ¬ (s0 = (-1)) → am_X (am_FV G (d + 1) Q) mX8_readEnd (0, 0) 24 [some (am_r (some 3)), some (am_r v1), some (am_i v2)] [] (am_K0, σ)) : am_X (am_FV G (d + 1) Q) mX8_readEnd (0, 0) 20 [some (am_r (some 3)), some (am_r v1), some (am_i v2)] [am_i s0] (am_K0, σ) := by
  refine am_r_iconst (nx := 21) (show decode cX8_readEnd 20 = .ok (.iconst (-1), 1) by decide +kernel) rfl ?_
  refine am_r_icmp_eq (tg := 32) (nx := 24) (show decode cX8_readEnd 21 = .ok (.if_icmp .eq 11, 3) by decide +kernel) (by decide) rfl hr1 (by omega) ?_ ?_
  · exact fun q => k1 q
  · exact fun q => k2 q
theorem S_X8_readEnd_24 {G : am_G} {d : Nat} {Q : am_D → Prop} {σ : am_D} {v2 : Int} {Q' : am_D → Prop} {v1 : Option Nat} (hc : am_MV G d mX7_fail [am_r (some 1), am_i 3] σ Q') (k : ∀ σ' : am_D, Q' σ' → am_X (am_FV G (d + 1) Q) mX8_readEnd (0, 0) 32 [some (am_r (some 3)), some (am_r v1), some (am_i v2)] [] (am_K0, σ')) : am_X (am_FV G (d + 1) Q) mX8_readEnd (0, 0) 24 [some (am_r (some 3)), some (am_r v1), some (am_i v2)] [] (am_K0, σ) := by
  refine am_r_aload_n (nx := 25) rfl rfl (show decode cX8_readEnd 24 = .ok (.aload_n 0, 1) by decide +kernel) rfl ?_
  refine am_r_getF (nx := 28) 0 cw8 (by decide) rfl (Or.inl fl_X8_9) (ob_3) (fn_3_0) (show decode cX8_readEnd 25 = .ok (.getfield 9, 3) by decide +kernel) rfl ?_
  refine am_r_iconst (nx := 29) (show decode cX8_readEnd 28 = .ok (.iconst 3, 1) by decide +kernel) rfl ?_
  refine am_r_callV (as := [am_i 3]) (st := []) hc mb_X7_fail mv_X7_fail (Or.inl ml_X8_35) (ob_1) (by omega) (r := (RX7, TX7, 6)) rfl rfl rfl rfl (Nat.le_of_ble_eq_true rfl) ⟨Nat.le_refl _, Nat.le_refl _⟩ ⟨Nat.le_refl _, Nat.le_refl _⟩ (show decode cX8_readEnd 29 = .ok (.invokevirtual 35, 3) by decide +kernel) ?_
  rintro _ _ ⟨σ', rfl, rfl, hq⟩ _
  exact (k σ' hq)
theorem S_X8_readEnd_32 {G : am_G} {d : Nat} {Q : am_D → Prop} {σ : am_D} {v2 : Int} {Q' : am_D → Prop} {v1 : Option Nat} (hc : am_MV G d mX7_sign [am_r (some 1), am_i 61] σ Q') (k : ∀ σ' : am_D, Q' σ' → am_X (am_FV G (d + 1) Q) mX8_readEnd (0, 0) 41 [some (am_r (some 3)), some (am_r v1), some (am_i v2)] [] (am_K0, σ')) : am_X (am_FV G (d + 1) Q) mX8_readEnd (0, 0) 32 [some (am_r (some 3)), some (am_r v1), some (am_i v2)] [] (am_K0, σ) := by
  refine am_r_aload_n (nx := 33) rfl rfl (show decode cX8_readEnd 32 = .ok (.aload_n 0, 1) by decide +kernel) rfl ?_
  refine am_r_getF (nx := 36) 0 cw8 (by decide) rfl (Or.inl fl_X8_9) (ob_3) (fn_3_0) (show decode cX8_readEnd 33 = .ok (.getfield 9, 3) by decide +kernel) rfl ?_
  refine am_r_bipush (nx := 38) rfl (show decode cX8_readEnd 36 = .ok (.bipush 61, 2) by decide +kernel) rfl ?_
  refine am_r_callV (as := [am_i 61]) (st := []) hc mb_X7_sign mv_X7_sign (Or.inl ml_X8_109) (ob_1) (by omega) (r := (RX7, TX7, 6)) rfl rfl rfl rfl (Nat.le_of_ble_eq_true rfl) ⟨Nat.le_refl _, Nat.le_refl _⟩ ⟨Nat.le_refl _, Nat.le_refl _⟩ (show decode cX8_readEnd 38 = .ok (.invokevirtual 109, 3) by decide +kernel) ?_
  rintro _ _ ⟨σ', rfl, rfl, hq⟩ _
  exact (k σ' hq)
theorem S_X8_readEnd_41 {G : am_G} {d : Nat} {Q : am_D → Prop} {σ : am_D} {v2 : Int} {v1 : Option Nat} (hr1 : -2147483648 ≤ (σ.1 1 5) ∧ (σ.1 1 5) ≤ 2147483647) (k1 : ¬ (σ.1 1 5) = 0 → am_X (am_FV G (d + 1) Q) mX8_readEnd (0, 0) 62 [some (am_r (some 3)), some (am_r v1), none] [] (am_K0, σ)) (k2 : ¬ (¬ (σ.1 1 5) = 0) → am_X (am_FV G (d + 1) Q) mX8_readEnd (0, 0) 51 [some (am_r (some 3)), some (am_r v1), some (am_i v2)] [] (am_K0, σ)) : am_X (am_FV G (d + 1) Q) mX8_readEnd (0, 0) 41 [some (am_r (some 3)), some (am_r v1), some (am_i v2)] [] (am_K0, σ) := by
  refine am_r_aload_n (nx := 42) rfl rfl (show decode cX8_readEnd 41 = .ok (.aload_n 0, 1) by decide +kernel) rfl ?_
  refine am_r_getF (nx := 45) 0 cw8 (by decide) rfl (Or.inl fl_X8_9) (ob_3) (fn_3_0) (show decode cX8_readEnd 42 = .ok (.getfield 9, 3) by decide +kernel) rfl ?_
  refine am_r_getI (nx := 48) 5 cw7 (by decide) rfl (Or.inr ⟨_, fl_X8_32⟩) (ob_1) (show decode cX8_readEnd 45 = .ok (.getfield 32, 3) by decide +kernel) rfl ?_
  refine am_r_if_ne (tg := 62) (nx := 51) (show decode cX8_readEnd 48 = .ok (.ifCond .ne 14, 3) by decide +kernel) (by decide) rfl hr1 ?_ ?_
  · exact fun q => am_x_fg [2] (k1 q)
  · exact fun q => k2 q
theorem S_X8_readEnd_51 {G : am_G} {d : Nat} {Q : am_D → Prop} {σ : am_D} {v2 : Int} {v1 : Nat} {Q' : am_D → Prop} (hc : am_MV G d mX2_addEnd [am_r (some v1), am_i v2] σ Q') (hc1 : am_isM v1) (k : ∀ σ' : am_D, Q' σ' → am_X (am_FV G (d + 1) Q) mX8_readEnd (0, 0) 56 [some (am_r (some 3)), some (am_r (some v1)), none] [] (am_K0, σ')) : am_X (am_FV G (d + 1) Q) mX8_readEnd (0, 0) 51 [some (am_r (some 3)), some (am_r (some v1)), some (am_i v2)] [] (am_K0, σ) := by
  refine am_r_aload_n (nx := 52) rfl rfl (show decode cX8_readEnd 51 = .ok (.aload_n 1, 1) by decide +kernel) rfl ?_
  refine am_r_iload_n (nx := 53) rfl rfl (show decode cX8_readEnd 52 = .ok (.iload_n 2, 1) by decide +kernel) rfl ?_
  refine am_r_callV (as := [am_i v2]) (st := []) hc mb_X2_addEnd mv_X2_addEnd (Or.inl ml_X8_132) (obM hc1) (by omega) (r := (RX2, TX2, 16)) rfl rfl rfl rfl (Nat.le_of_ble_eq_true rfl) ⟨Nat.le_refl _, Nat.le_refl _⟩ ⟨Nat.le_refl _, Nat.le_refl _⟩ (show decode cX8_readEnd 53 = .ok (.invokevirtual 132, 3) by decide +kernel) ?_
  rintro _ _ ⟨σ', rfl, rfl, hq⟩ _
  exact am_x_fg [2] (k σ' hq)
theorem S_X8_readEnd_56 {G : am_G} {d : Nat} {Q : am_D → Prop} {σ : am_D} {v1 : Option Nat} {Q' : am_D → Prop} (hc : am_MV G d mX8_readExpression [am_r (some 3), am_r v1, am_i 0] σ Q') (k : ∀ σ' : am_D, Q' σ' → am_X (am_FV G (d + 1) Q) mX8_readEnd (0, 0) 62 [some (am_r (some 3)), some (am_r v1), none] [] (am_K0, σ')) : am_X (am_FV G (d + 1) Q) mX8_readEnd (0, 0) 56 [some (am_r (some 3)), some (am_r v1), none] [] (am_K0, σ) := by
  refine am_r_aload_n (nx := 57) rfl rfl (show decode cX8_readEnd 56 = .ok (.aload_n 0, 1) by decide +kernel) rfl ?_
  refine am_r_aload_n (nx := 58) rfl rfl (show decode cX8_readEnd 57 = .ok (.aload_n 1, 1) by decide +kernel) rfl ?_
  refine am_r_iconst (nx := 59) (show decode cX8_readEnd 58 = .ok (.iconst 0, 1) by decide +kernel) rfl ?_
  refine am_r_callV (as := [am_r v1, am_i 0]) (st := []) hc mb_X8_readExpression mv_X8_readExpression (Or.inl ml_X8_116) (ob_3) (by omega) (r := (RX8, TX8, 3)) rfl rfl rfl rfl (Nat.le_of_ble_eq_true rfl) ⟨Nat.le_refl _, Nat.le_refl _⟩ ⟨Nat.le_refl _, Nat.le_refl _⟩ (show decode cX8_readEnd 59 = .ok (.invokevirtual 116, 3) by decide +kernel) ?_
  rintro _ _ ⟨σ', rfl, rfl, hq⟩ _
  exact (k σ' hq)
theorem S_X8_readEnd_62 {G : am_G} {d : Nat} {Q : am_D → Prop} {σ : am_D} {v1 : Nat} {Q' : Int → am_D → Prop} (hc1 : am_isM v1) (hc : am_MI G d mJ9_max_7cf53 [am_i (σ.1 v1 6), am_i (σ.1 3 1)] σ Q') (k : ∀ (x : Int) (σ' : am_D), Q' x σ' → am_X (am_FV G (d + 1) Q) mX8_readEnd (0, 0) 74 [none, none, none] [am_i x, am_r (some v1)] (am_K0, σ')) : am_X (am_FV G (d + 1) Q) mX8_readEnd (0, 0) 62 [some (am_r (some 3)), some (am_r (some v1)), none] [] (am_K0, σ) := by
  refine am_r_aload_n (nx := 63) rfl rfl (show decode cX8_readEnd 62 = .ok (.aload_n 1, 1) by decide +kernel) rfl ?_
  refine am_r_aload_n (nx := 64) rfl rfl (show decode cX8_readEnd 63 = .ok (.aload_n 1, 1) by decide +kernel) rfl ?_
  refine am_r_getI (nx := 67) 6 cw2 (by decide) rfl (Or.inr ⟨_, fl_X8_135⟩) (obM hc1) (show decode cX8_readEnd 64 = .ok (.getfield 135, 3) by decide +kernel) rfl ?_
  refine am_r_aload_n (nx := 68) rfl rfl (show decode cX8_readEnd 67 = .ok (.aload_n 0, 1) by decide +kernel) rfl ?_
  refine am_r_getI (nx := 71) 1 cw8 (by decide) rfl (Or.inl fl_X8_90) (ob_3) (show decode cX8_readEnd 68 = .ok (.getfield 90, 3) by decide +kernel) rfl ?_
  refine am_r_callS (as := [am_i (σ.1 v1 6), am_i (σ.1 3 1)]) (st := [am_r (some v1)]) hc mb_J9_max_7cf53 mv_J9_max_7cf53 (Or.inl ml_X8_123) rfl rfl (Nat.le_of_ble_eq_true rfl) ⟨Nat.le_refl _, Nat.le_refl _⟩ ⟨Nat.le_refl _, Nat.le_refl _⟩ (show decode cX8_readEnd 71 = .ok (.invokestatic 123, 3) by decide +kernel) ?_
  rintro _ _ ⟨x, σ', rfl, rfl, hq⟩ _
  exact am_x_fg [0, 1] (k x σ' hq)
theorem S_X8_readEnd_74 {G : am_G} {d : Nat} {Q : am_D → Prop} {σ : am_D} {s1 : Int} {s0 : Nat} (hc1 : am_isM s0) (k : am_X (am_FV G (d + 1) Q) mX8_readEnd (0, 0) 77 [none, none, none] [] (am_K0, (am_pI σ s0 6 s1))) : am_X (am_FV G (d + 1) Q) mX8_readEnd (0, 0) 74 [none, none, none] [am_i s1, am_r (some s0)] (am_K0, σ) := by
  refine am_r_putI (nx := 77) 6 cw2 (by decide) rfl (Or.inr ⟨_, fl_X8_135⟩) (obM hc1) rfl (Or.inl rfl) (show decode cX8_readEnd 74 = .ok (.putfield 135, 3) by decide +kernel) rfl ?_
  exact k
theorem S_X8_readEnd_77 {G : am_G} {d : Nat} {Q : am_D → Prop} {σ : am_D}   (k : Q σ) : am_X (am_FV G (d + 1) Q) mX8_readEnd (0, 0) 77 [none, none, none] [] (am_K0, σ) := by
  exact am_r_vret rfl (show decode cX8_readEnd 77 = .ok (.return_, 1) by decide +kernel) ⟨_, rfl, rfl, k⟩
theorem S_X8_readExpression_0 {G : am_G} {d : Nat} {Q : am_D → Prop} {σ : am_D} {v2 : Int} {v1 : Option Nat}  (k : am_X (am_FV G (d + 1) Q) mX8_readExpression (0, 0) 2 [some (am_r (some 3)), some (am_r v1), some (am_i v2), some (am_i 0), none, none] [] (am_K0, σ)) : am_X (am_FV G (d + 1) Q) mX8_readExpression (0, 0) 0 [some (am_r (some 3)), some (am_r v1), some (am_i v2), none, none, none] [] (am_K0, σ) := by
  refine am_r_iconst (nx := 1) (show decode cX8_readExpression 0 = .ok (.iconst 0, 1) by decide +kernel) rfl ?_
  refine am_r_istore_n (nx := 2) rfl (by decide) rfl (show decode cX8_readExpression 1 = .ok (.istore_n 3, 1) by decide +kernel) rfl ?_
  exact k
theorem S_X8_readExpression_2 {G : am_G} {d : Nat} {Q : am_D → Prop} {σ : am_D} {v2 : Int} {v3 : Int} {v1 : Option Nat}  (k : am_X (am_FV G (d + 1) Q) mX8_readExpression (0, 0) 5 [some (am_r (some 3)), some (am_r v1), some (am_i v2), some (am_i v3), some (am_i 1), none] [] (am_K0, σ)) : am_X (am_FV G (d + 1) Q) mX8_readExpression (0, 0) 2 [some (am_r (some 3)), some (am_r v1), some (am_i v2), some (am_i v3), none, none] [] (am_K0, σ) := by
  refine am_r_iconst (nx := 3) (show decode cX8_readExpression 2 = .ok (.iconst 1, 1) by decide +kernel) rfl ?_
  refine am_r_istore (nx := 5) (by decide) rfl (show decode cX8_readExpression 3 = .ok (.istore 4, 2) by decide +kernel) rfl ?_
  exact k
theorem S_X8_readExpression_5 {G : am_G} {d : Nat} {Q : am_D → Prop} {σ : am_D} {v2 : Int} {v3 : Int} {v4 : Int} {v1 : Nat} {Q' : am_D → Prop} (hc : am_MV G d mX2_startExpression [am_r (some v1)] σ Q') (hc1 : am_isM v1) (k : ∀ σ' : am_D, Q' σ' → am_X (am_FV G (d + 1) Q) mX8_readExpression (0, 0) 9 [some (am_r (some 3)), some (am_r (some v1)), some (am_i v2), some (am_i v3), some (am_i v4), none] [] (am_K0, σ')) : am_X (am_FV G (d + 1) Q) mX8_readExpression (0, 0) 5 [some (am_r (some 3)), some (am_r (some v1)), some (am_i v2), some (am_i v3), some (am_i v4), none] [] (am_K0, σ) := by
  refine am_r_aload_n (nx := 6) rfl rfl (show decode cX8_readExpression 5 = .ok (.aload_n 1, 1) by decide +kernel) rfl ?_
  refine am_r_callV (as := []) (st := []) hc mb_X2_startExpression mv_X2_startExpression (Or.inl ml_X8_138) (obM hc1) (by omega) (r := (RX2, TX2, 16)) rfl rfl rfl rfl (Nat.le_of_ble_eq_true rfl) ⟨Nat.le_refl _, Nat.le_refl _⟩ ⟨Nat.le_refl _, Nat.le_refl _⟩ (show decode cX8_readExpression 6 = .ok (.invokevirtual 138, 3) by decide +kernel) ?_
  rintro _ _ ⟨σ', rfl, rfl, hq⟩ _
  exact (k σ' hq)
theorem S_X8_readExpression_9 {G : am_G} {d : Nat} {Q : am_D → Prop} {σ : am_D} {v2 : Int} {v3 : Int} {v4 : Int} {Q' : am_D → Prop} {v1 : Option Nat} (hc : am_MV G d mX7_advance [am_r (some 1)] σ Q') (k : ∀ σ' : am_D, Q' σ' → am_X (am_FV G (d + 1) Q) mX8_readExpression (0, 0) 16 [some (am_r (some 3)), some (am_r v1), some (am_i v2), some (am_i v3), some (am_i v4), none] [] (am_K0, σ')) : am_X (am_FV G (d + 1) Q) mX8_readExpression (0, 0) 9 [some (am_r (some 3)), some (am_r v1), some (am_i v2), some (am_i v3), some (am_i v4), none] [] (am_K0, σ) := by
  refine am_r_aload_n (nx := 10) rfl rfl (show decode cX8_readExpression 9 = .ok (.aload_n 0, 1) by decide +kernel) rfl ?_
  refine am_r_getF (nx := 13) 0 cw8 (by decide) rfl (Or.inl fl_X8_9) (ob_3) (fn_3_0) (show decode cX8_readExpression 10 = .ok (.getfield 9, 3) by decide +kernel) rfl ?_
  refine am_r_callV (as := []) (st := []) hc mb_X7_advance mv_X7_advance (Or.inl ml_X8_25) (ob_1) (by omega) (r := (RX7, TX7, 6)) rfl rfl rfl rfl (Nat.le_of_ble_eq_true rfl) ⟨Nat.le_refl _, Nat.le_refl _⟩ ⟨Nat.le_refl _, Nat.le_refl _⟩ (show decode cX8_readExpression 13 = .ok (.invokevirtual 25, 3) by decide +kernel) ?_
  rintro _ _ ⟨σ', rfl, rfl, hq⟩ _
  exact (k σ' hq)
theorem S_X8_readExpression_16 {G : am_G} {d : Nat} {Q : am_D → Prop} {σ : am_D} {v2 : Int} {v3 : Int} {v4 : Int} {v1 : Option Nat}  (k : am_X (am_FV G (d + 1) Q) mX8_readExpression (0, 0) 19 [some (am_r (some 3)), some (am_r v1), some (am_i v2), some (am_i v3), some (am_i v4), some (am_i 0)] [] (am_K0, σ)) : am_X (am_FV G (d + 1) Q) mX8_readExpression (0, 0) 16 [some (am_r (some 3)), some (am_r v1), some (am_i v2), some (am_i v3), some (am_i v4), none] [] (am_K0, σ) := by
  refine am_r_iconst (nx := 17) (show decode cX8_readExpression 16 = .ok (.iconst 0, 1) by decide +kernel) rfl ?_
  refine am_r_istore (nx := 19) (by decide) rfl (show decode cX8_readExpression 17 = .ok (.istore 5, 2) by decide +kernel) rfl ?_
  exact k
theorem S_X8_readExpression_19 {G : am_G} {d : Nat} {Q : am_D → Prop} {σ : am_D} {v2 : Int} {v3 : Int} {v4 : Int} {v5 : Int} {v1 : Option Nat} (hr1 : -2147483648 ≤ v5 ∧ v5 ≤ 2147483647) (k1 : 600 < v5 → am_X (am_FV G (d + 1) Q) mX8_readExpression (0, 0) 172 [some (am_r (some 3)), some (am_r v1), none, some (am_i v3), none, none] [] (am_K0, σ)) (k2 : ¬ (600 < v5) → am_X (am_FV G (d + 1) Q) mX8_readExpression (0, 0) 27 [some (am_r (some 3)), some (am_r v1), some (am_i v2), some (am_i v3), some (am_i v4), some (am_i v5)] [] (am_K0, σ)) : am_X (am_FV G (d + 1) Q) mX8_readExpression (0, 0) 19 [some (am_r (some 3)), some (am_r v1), some (am_i v2), some (am_i v3), some (am_i v4), some (am_i v5)] [] (am_K0, σ) := by
  refine am_r_iload (nx := 21) rfl (show decode cX8_readExpression 19 = .ok (.iload 5, 2) by decide +kernel) rfl ?_
  refine am_r_sipush (nx := 24) rfl (show decode cX8_readExpression 21 = .ok (.sipush 600, 3) by decide +kernel) rfl ?_
  refine am_r_icmp_gt (tg := 172) (nx := 27) (show decode cX8_readExpression 24 = .ok (.if_icmp .gt 148, 3) by decide +kernel) (by decide) rfl hr1 (by omega) ?_ ?_
  · exact fun q => am_x_fg [2, 4, 5] (k1 q)
  · exact fun q => k2 q
theorem S_X8_readExpression_27 {G : am_G} {d : Nat} {Q : am_D → Prop} {σ : am_D} {v2 : Int} {v3 : Int} {v4 : Int} {v5 : Int} {v1 : Option Nat} (hr1 : -2147483648 ≤ v4 ∧ v4 ≤ 2147483647) (k1 : v4 = 0 → am_X (am_FV G (d + 1) Q) mX8_readExpression (0, 0) 172 [some (am_r (some 3)), some (am_r v1), none, some (am_i v3), none, none] [] (am_K0, σ)) (k2 : ¬ (v4 = 0) → am_X (am_FV G (d + 1) Q) mX8_readExpression (0, 0) 32 [some (am_r (some 3)), some (am_r v1), some (am_i v2), some (am_i v3), some (am_i v4), some (am_i v5)] [] (am_K0, σ)) : am_X (am_FV G (d + 1) Q) mX8_readExpression (0, 0) 27 [some (am_r (some 3)), some (am_r v1), some (am_i v2), some (am_i v3), some (am_i v4), some (am_i v5)] [] (am_K0, σ) := by
  refine am_r_iload (nx := 29) rfl (show decode cX8_readExpression 27 = .ok (.iload 4, 2) by decide +kernel) rfl ?_
  refine am_r_if_eq (tg := 172) (nx := 32) (show decode cX8_readExpression 29 = .ok (.ifCond .eq 143, 3) by decide +kernel) (by decide) rfl hr1 ?_ ?_
  · exact fun q => am_x_fg [2, 4, 5] (k1 q)
  · exact fun q => k2 q
theorem S_X8_readExpression_32 {G : am_G} {d : Nat} {Q : am_D → Prop} {σ : am_D} {v2 : Int} {v3 : Int} {v4 : Int} {v5 : Int} {v1 : Option Nat} (hr1 : -2147483648 ≤ (σ.1 1 2) ∧ (σ.1 1 2) ≤ 2147483647) (k1 : ¬ (σ.1 1 2) = 60 → am_X (am_FV G (d + 1) Q) mX8_readExpression (0, 0) 55 [some (am_r (some 3)), some (am_r v1), some (am_i v2), some (am_i v3), some (am_i v4), some (am_i v5)] [] (am_K0, σ)) (k2 : ¬ (¬ (σ.1 1 2) = 60) → am_X (am_FV G (d + 1) Q) mX8_readExpression (0, 0) 44 [some (am_r (some 3)), some (am_r v1), some (am_i v2), some (am_i v3), some (am_i v4), some (am_i v5)] [] (am_K0, σ)) : am_X (am_FV G (d + 1) Q) mX8_readExpression (0, 0) 32 [some (am_r (some 3)), some (am_r v1), some (am_i v2), some (am_i v3), some (am_i v4), some (am_i v5)] [] (am_K0, σ) := by
  refine am_r_aload_n (nx := 33) rfl rfl (show decode cX8_readExpression 32 = .ok (.aload_n 0, 1) by decide +kernel) rfl ?_
  refine am_r_getF (nx := 36) 0 cw8 (by decide) rfl (Or.inl fl_X8_9) (ob_3) (fn_3_0) (show decode cX8_readExpression 33 = .ok (.getfield 9, 3) by decide +kernel) rfl ?_
  refine am_r_getI (nx := 39) 2 cw7 (by decide) rfl (Or.inr ⟨_, fl_X8_28⟩) (ob_1) (show decode cX8_readExpression 36 = .ok (.getfield 28, 3) by decide +kernel) rfl ?_
  refine am_r_bipush (nx := 41) rfl (show decode cX8_readExpression 39 = .ok (.bipush 60, 2) by decide +kernel) rfl ?_
  refine am_r_icmp_ne (tg := 55) (nx := 44) (show decode cX8_readExpression 41 = .ok (.if_icmp .ne 14, 3) by decide +kernel) (by decide) rfl hr1 (by omega) ?_ ?_
  · exact fun q => k1 q
  · exact fun q => k2 q
theorem S_X8_readExpression_44 {G : am_G} {d : Nat} {Q : am_D → Prop} {σ : am_D} {v2 : Int} {v3 : Int} {v4 : Int} {v5 : Int} {v1 : Option Nat} {Q' : am_D → Prop} (hc : am_MV G d mX8_readElement [am_r (some 3), am_r v1] σ Q') (k : ∀ σ' : am_D, Q' σ' → am_X (am_FV G (d + 1) Q) mX8_readExpression (0, 0) 49 [some (am_r (some 3)), some (am_r v1), some (am_i v2), some (am_i v3), some (am_i v4), some (am_i v5)] [] (am_K0, σ')) : am_X (am_FV G (d + 1) Q) mX8_readExpression (0, 0) 44 [some (am_r (some 3)), some (am_r v1), some (am_i v2), some (am_i v3), some (am_i v4), some (am_i v5)] [] (am_K0, σ) := by
  refine am_r_aload_n (nx := 45) rfl rfl (show decode cX8_readExpression 44 = .ok (.aload_n 0, 1) by decide +kernel) rfl ?_
  refine am_r_aload_n (nx := 46) rfl rfl (show decode cX8_readExpression 45 = .ok (.aload_n 1, 1) by decide +kernel) rfl ?_
  refine am_r_callV (as := [am_r v1]) (st := []) hc mb_X8_readElement mv_X8_readElement (Or.inl ml_X8_141) (ob_3) (by omega) (r := (RX8, TX8, 3)) rfl rfl rfl rfl (Nat.le_of_ble_eq_true rfl) ⟨Nat.le_refl _, Nat.le_refl _⟩ ⟨Nat.le_refl _, Nat.le_refl _⟩ (show decode cX8_readExpression 46 = .ok (.invokevirtual 141, 3) by decide +kernel) ?_
  rintro _ _ ⟨σ', rfl, rfl, hq⟩ _
  exact (k σ' hq)
theorem S_X8_readExpression_49 {G : am_G} {d : Nat} {Q : am_D → Prop} {σ : am_D} {v2 : Int} {v3 : Int} {v4 : Int} {v5 : Int} {v1 : Option Nat}  (k : am_X (am_FV G (d + 1) Q) mX8_readExpression (0, 0) 132 [some (am_r (some 3)), some (am_r v1), some (am_i v2), some (am_i (v3 + 1)), some (am_i v4), some (am_i v5)] [] (am_K0, σ)) : am_X (am_FV G (d + 1) Q) mX8_readExpression (0, 0) 49 [some (am_r (some 3)), some (am_r v1), some (am_i v2), some (am_i v3), some (am_i v4), some (am_i v5)] [] (am_K0, σ) := by
  refine am_r_iinc (nx := 52) rfl rfl (show decode cX8_readExpression 49 = .ok (.iinc 3 1, 3) by decide +kernel) rfl ?_
  refine am_r_goto (tg := 132) (show decode cX8_readExpression 52 = .ok (.goto 80, 3) by decide +kernel) (by decide) ?_
  exact k
theorem S_X8_readExpression_55 {G : am_G} {d : Nat} {Q : am_D → Prop} {σ : am_D} {v2 : Int} {v3 : Int} {v4 : Int} {v5 : Int} {v1 : Option Nat} (hr1 : -2147483648 ≤ (σ.1 1 2) ∧ (σ.1 1 2) ≤ 2147483647) (k1 : ¬ (σ.1 1 2) = 62 → am_X (am_FV G (d + 1) Q) mX8_readExpression (0, 0) 82 [some (am_r (some 3)), some (am_r v1), some (am_i v2), some (am_i v3), some (am_i v4), some (am_i v5)] [] (am_K0, σ)) (k2 : ¬ (¬ (σ.1 1 2) = 62) → am_X (am_FV G (d + 1) Q) mX8_readExpression (0, 0) 67 [some (am_r (some 3)), some (am_r v1), some (am_i v2), some (am_i v3), some (am_i v4), some (am_i v5)] [] (am_K0, σ)) : am_X (am_FV G (d + 1) Q) mX8_readExpression (0, 0) 55 [some (am_r (some 3)), some (am_r v1), some (am_i v2), some (am_i v3), some (am_i v4), some (am_i v5)] [] (am_K0, σ) := by
  refine am_r_aload_n (nx := 56) rfl rfl (show decode cX8_readExpression 55 = .ok (.aload_n 0, 1) by decide +kernel) rfl ?_
  refine am_r_getF (nx := 59) 0 cw8 (by decide) rfl (Or.inl fl_X8_9) (ob_3) (fn_3_0) (show decode cX8_readExpression 56 = .ok (.getfield 9, 3) by decide +kernel) rfl ?_
  refine am_r_getI (nx := 62) 2 cw7 (by decide) rfl (Or.inr ⟨_, fl_X8_28⟩) (ob_1) (show decode cX8_readExpression 59 = .ok (.getfield 28, 3) by decide +kernel) rfl ?_
  refine am_r_bipush (nx := 64) rfl (show decode cX8_readExpression 62 = .ok (.bipush 62, 2) by decide +kernel) rfl ?_
  refine am_r_icmp_ne (tg := 82) (nx := 67) (show decode cX8_readExpression 64 = .ok (.if_icmp .ne 18, 3) by decide +kernel) (by decide) rfl hr1 (by omega) ?_ ?_
  · exact fun q => k1 q
  · exact fun q => k2 q
theorem S_X8_readExpression_67 {G : am_G} {d : Nat} {Q : am_D → Prop} {σ : am_D} {v2 : Int} {v3 : Int} {v4 : Int} {v5 : Int} {v1 : Option Nat} (hr1 : -2147483648 ≤ v3 ∧ v3 ≤ 2147483647) (k1 : v3 ≤ 0 → am_X (am_FV G (d + 1) Q) mX8_readExpression (0, 0) 82 [some (am_r (some 3)), some (am_r v1), some (am_i v2), some (am_i v3), some (am_i v4), some (am_i v5)] [] (am_K0, σ)) (k2 : ¬ (v3 ≤ 0) → am_X (am_FV G (d + 1) Q) mX8_readExpression (0, 0) 71 [some (am_r (some 3)), some (am_r v1), some (am_i v2), some (am_i v3), some (am_i v4), some (am_i v5)] [] (am_K0, σ)) : am_X (am_FV G (d + 1) Q) mX8_readExpression (0, 0) 67 [some (am_r (some 3)), some (am_r v1), some (am_i v2), some (am_i v3), some (am_i v4), some (am_i v5)] [] (am_K0, σ) := by
  refine am_r_iload_n (nx := 68) rfl rfl (show decode cX8_readExpression 67 = .ok (.iload_n 3, 1) by decide +kernel) rfl ?_
  refine am_r_if_le (tg := 82) (nx := 71) (show decode cX8_readExpression 68 = .ok (.ifCond .le 14, 3) by decide +kernel) (by decide) rfl hr1 ?_ ?_
  · exact fun q => k1 q
  · exact fun q => k2 q
theorem S_X8_readExpression_71 {G : am_G} {d : Nat} {Q : am_D → Prop} {σ : am_D} {v2 : Int} {v3 : Int} {v4 : Int} {v5 : Int} {v1 : Nat} {Q' : am_D → Prop} (hc : am_MV G d mX2_addSign [am_r (some v1), am_i 3] σ Q') (hc1 : am_isM v1) (k : ∀ σ' : am_D, Q' σ' → am_X (am_FV G (d + 1) Q) mX8_readExpression (0, 0) 76 [some (am_r (some 3)), some (am_r (some v1)), some (am_i v2), some (am_i v3), some (am_i v4), some (am_i v5)] [] (am_K0, σ')) : am_X (am_FV G (d + 1) Q) mX8_readExpression (0, 0) 71 [some (am_r (some 3)), some (am_r (some v1)), some (am_i v2), some (am_i v3), some (am_i v4), some (am_i v5)] [] (am_K0, σ) := by
  refine am_r_aload_n (nx := 72) rfl rfl (show decode cX8_readExpression 71 = .ok (.aload_n 1, 1) by decide +kernel) rfl ?_
  refine am_r_iconst (nx := 73) (show decode cX8_readExpression 72 = .ok (.iconst 3, 1) by decide +kernel) rfl ?_
  refine am_r_callV (as := [am_i 3]) (st := []) hc mb_X2_addSign mv_X2_addSign (Or.inl ml_X8_144) (obM hc1) (by omega) (r := (RX2, TX2, 16)) rfl rfl rfl rfl (Nat.le_of_ble_eq_true rfl) ⟨Nat.le_refl _, Nat.le_refl _⟩ ⟨Nat.le_refl _, Nat.le_refl _⟩ (show decode cX8_readExpression 73 = .ok (.invokevirtual 144, 3) by decide +kernel) ?_
  rintro _ _ ⟨σ', rfl, rfl, hq⟩ _
  exact (k σ' hq)
theorem S_X8_readExpression_76 {G : am_G} {d : Nat} {Q : am_D → Prop} {σ : am_D} {v2 : Int} {v3 : Int} {v4 : Int} {v5 : Int} {v1 : Option Nat}  (k : am_X (am_FV G (d + 1) Q) mX8_readExpression (0, 0) 132 [some (am_r (some 3)), some (am_r v1), some (am_i v2), some (am_i (v3 + (-1))), some (am_i v4), some (am_i v5)] [] (am_K0, σ)) : am_X (am_FV G (d + 1) Q) mX8_readExpression (0, 0) 76 [some (am_r (some 3)), some (am_r v1), some (am_i v2), some (am_i v3), some (am_i v4), some (am_i v5)] [] (am_K0, σ) := by
  refine am_r_iinc (nx := 79) rfl rfl (show decode cX8_readExpression 76 = .ok (.iinc 3 (-1), 3) by decide +kernel) rfl ?_
  refine am_r_goto (tg := 132) (show decode cX8_readExpression 79 = .ok (.goto 53, 3) by decide +kernel) (by decide) ?_
  exact k
theorem S_X8_readExpression_82 {G : am_G} {d : Nat} {Q : am_D → Prop} {σ : am_D} {v2 : Int} {v3 : Int} {v4 : Int} {v5 : Int} {Q' : Int → am_D → Prop} {v1 : Option Nat} (hc : am_MI G d mX7_isWord [am_r (some 1), am_s 4] σ Q') (k : ∀ (x : Int) (σ' : am_D), Q' x σ' → am_X (am_FV G (d + 1) Q) mX8_readExpression (0, 0) 91 [some (am_r (some 3)), some (am_r v1), some (am_i v2), some (am_i v3), some (am_i v4), some (am_i v5)] [am_i x] (am_K0, σ')) : am_X (am_FV G (d + 1) Q) mX8_readExpression (0, 0) 82 [some (am_r (some 3)), some (am_r v1), some (am_i v2), some (am_i v3), some (am_i v4), some (am_i v5)] [] (am_K0, σ) := by
  refine am_r_aload_n (nx := 83) rfl rfl (show decode cX8_readExpression 82 = .ok (.aload_n 0, 1) by decide +kernel) rfl ?_
  refine am_r_getF (nx := 86) 0 cw8 (by decide) rfl (Or.inl fl_X8_9) (ob_3) (fn_3_0) (show decode cX8_readExpression 83 = .ok (.getfield 9, 3) by decide +kernel) rfl ?_
  refine am_r_ldcS (nx := 88) (i := 4) (tx := "x") (by decide +kernel) (show decode cX8_readExpression 86 = .ok (.ldc 147, 2) by decide +kernel) rfl ?_
  refine am_r_callV (as := [am_s 4]) (st := []) hc mb_X7_isWord mv_X7_isWord (Or.inl ml_X8_54) (ob_1) (by omega) (r := (RX7, TX7, 6)) rfl rfl rfl rfl (Nat.le_of_ble_eq_true rfl) ⟨Nat.le_refl _, Nat.le_refl _⟩ ⟨Nat.le_refl _, Nat.le_refl _⟩ (show decode cX8_readExpression 88 = .ok (.invokevirtual 54, 3) by decide +kernel) ?_
  rintro _ _ ⟨x, σ', rfl, rfl, hq⟩ _
  exact (k x σ' hq)
theorem S_X8_readExpression_91 {G : am_G} {d : Nat} {Q : am_D → Prop} {σ : am_D} {v2 : Int} {v3 : Int} {v4 : Int} {v5 : Int} {s0 : Int} {v1 : Option Nat} (hr1 : -2147483648 ≤ s0 ∧ s0 ≤ 2147483647) (k1 : s0 = 0 → am_X (am_FV G (d + 1) Q) mX8_readExpression (0, 0) 103 [some (am_r (some 3)), some (am_r v1), some (am_i v2), some (am_i v3), some (am_i v4), some (am_i v5)] [] (am_K0, σ)) (k2 : ¬ (s0 = 0) → am_X (am_FV G (d + 1) Q) mX8_readExpression (0, 0) 94 [some (am_r (some 3)), some (am_r v1), some (am_i v2), some (am_i v3), some (am_i v4), some (am_i v5)] [] (am_K0, σ)) : am_X (am_FV G (d + 1) Q) mX8_readExpression (0, 0) 91 [some (am_r (some 3)), some (am_r v1), some (am_i v2), some (am_i v3), some (am_i v4), some (am_i v5)] [am_i s0] (am_K0, σ) := by
  refine am_r_if_eq (tg := 103) (nx := 94) (show decode cX8_readExpression 91 = .ok (.ifCond .eq 12, 3) by decide +kernel) (by decide) rfl hr1 ?_ ?_
  · exact fun q => k1 q
  · exact fun q => k2 q
theorem S_X8_readExpression_94 {G : am_G} {d : Nat} {Q : am_D → Prop} {σ : am_D} {v2 : Int} {v3 : Int} {v4 : Int} {v5 : Int} {v1 : Option Nat} {Q' : am_D → Prop} (hc : am_MV G d mX8_readRegister [am_r (some 3), am_r v1, am_i 4] σ Q') (k : ∀ σ' : am_D, Q' σ' → am_X (am_FV G (d + 1) Q) mX8_readExpression (0, 0) 100 [some (am_r (some 3)), some (am_r v1), some (am_i v2), some (am_i v3), some (am_i v4), some (am_i v5)] [] (am_K0, σ')) : am_X (am_FV G (d + 1) Q) mX8_readExpression (0, 0) 94 [some (am_r (some 3)), some (am_r v1), some (am_i v2), some (am_i v3), some (am_i v4), some (am_i v5)] [] (am_K0, σ) := by
  refine am_r_aload_n (nx := 95) rfl rfl (show decode cX8_readExpression 94 = .ok (.aload_n 0, 1) by decide +kernel) rfl ?_
  refine am_r_aload_n (nx := 96) rfl rfl (show decode cX8_readExpression 95 = .ok (.aload_n 1, 1) by decide +kernel) rfl ?_
  refine am_r_iconst (nx := 97) (show decode cX8_readExpression 96 = .ok (.iconst 4, 1) by decide +kernel) rfl ?_
  refine am_r_callV (as := [am_r v1, am_i 4]) (st := []) hc mb_X8_readRegister mv_X8_readRegister (Or.inl ml_X8_149) (ob_3) (by omega) (r := (RX8, TX8, 3)) rfl rfl rfl rfl (Nat.le_of_ble_eq_true rfl) ⟨Nat.le_refl _, Nat.le_refl _⟩ ⟨Nat.le_refl _, Nat.le_refl _⟩ (show decode cX8_readExpression 97 = .ok (.invokevirtual 149, 3) by decide +kernel) ?_
  rintro _ _ ⟨σ', rfl, rfl, hq⟩ _
  exact (k σ' hq)
theorem S_X8_readExpression_100 {G : am_G} {d : Nat} {Q : am_D → Prop} {σ : am_D} {v2 : Int} {v3 : Int} {v4 : Int} {v5 : Int} {v1 : Option Nat}  (k : am_X (am_FV G (d + 1) Q) mX8_readExpression (0, 0) 132 [some (am_r (some 3)), some (am_r v1), some (am_i v2), some (am_i v3), some (am_i v4), some (am_i v5)] [] (am_K0, σ)) : am_X (am_FV G (d + 1) Q) mX8_readExpression (0, 0) 100 [some (am_r (some 3)), some (am_r v1), some (am_i v2), some (am_i v3), some (am_i v4), some (am_i v5)] [] (am_K0, σ) := by
  refine am_r_goto (tg := 132) (show decode cX8_readExpression 100 = .ok (.goto 32, 3) by decide +kernel) (by decide) ?_
  exact k
theorem S_X8_readExpression_103 {G : am_G} {d : Nat} {Q : am_D → Prop} {σ : am_D} {v2 : Int} {v3 : Int} {v4 : Int} {v5 : Int} {v1 : Option Nat} (hr1 : -2147483648 ≤ v2 ∧ v2 ≤ 2147483647) (k1 : v2 = 0 → am_X (am_FV G (d + 1) Q) mX8_readExpression (0, 0) 129 [some (am_r (some 3)), some (am_r v1), some (am_i v2), some (am_i v3), none, some (am_i v5)] [] (am_K0, σ)) (k2 : ¬ (v2 = 0) → am_X (am_FV G (d + 1) Q) mX8_readExpression (0, 0) 107 [some (am_r (some 3)), some (am_r v1), some (am_i v2), some (am_i v3), some (am_i v4), some (am_i v5)] [] (am_K0, σ)) : am_X (am_FV G (d + 1) Q) mX8_readExpression (0, 0) 103 [some (am_r (some 3)), some (am_r v1), some (am_i v2), some (am_i v3), some (am_i v4), some (am_i v5)] [] (am_K0, σ) := by
  refine am_r_iload_n (nx := 104) rfl rfl (show decode cX8_readExpression 103 = .ok (.iload_n 2, 1) by decide +kernel) rfl ?_
  refine am_r_if_eq (tg := 129) (nx := 107) (show decode cX8_readExpression 104 = .ok (.ifCond .eq 25, 3) by decide +kernel) (by decide) rfl hr1 ?_ ?_
  · exact fun q => am_x_fg [4] (k1 q)
  · exact fun q => k2 q
theorem S_X8_readExpression_107 {G : am_G} {d : Nat} {Q : am_D → Prop} {σ : am_D} {v2 : Int} {v3 : Int} {v4 : Int} {v5 : Int} {Q' : Int → am_D → Prop} {v1 : Option Nat} (hc : am_MI G d mX7_isWord [am_r (some 1), am_s 5] σ Q') (k : ∀ (x : Int) (σ' : am_D), Q' x σ' → am_X (am_FV G (d + 1) Q) mX8_readExpression (0, 0) 116 [some (am_r (some 3)), some (am_r v1), some (am_i v2), some (am_i v3), some (am_i v4), some (am_i v5)] [am_i x] (am_K0, σ')) : am_X (am_FV G (d + 1) Q) mX8_readExpression (0, 0) 107 [some (am_r (some 3)), some (am_r v1), some (am_i v2), some (am_i v3), some (am_i v4), some (am_i v5)] [] (am_K0, σ) := by
  refine am_r_aload_n (nx := 108) rfl rfl (show decode cX8_readExpression 107 = .ok (.aload_n 0, 1) by decide +kernel) rfl ?_
  refine am_r_getF (nx := 111) 0 cw8 (by decide) rfl (Or.inl fl_X8_9) (ob_3) (fn_3_0) (show decode cX8_readExpression 108 = .ok (.getfield 9, 3) by decide +kernel) rfl ?_
  refine am_r_ldcS (nx := 113) (i := 5) (tx := "y") (by decide +kernel) (show decode cX8_readExpression 111 = .ok (.ldc 153, 2) by decide +kernel) rfl ?_
  refine am_r_callV (as := [am_s 5]) (st := []) hc mb_X7_isWord mv_X7_isWord (Or.inl ml_X8_54) (ob_1) (by omega) (r := (RX7, TX7, 6)) rfl rfl rfl rfl (Nat.le_of_ble_eq_true rfl) ⟨Nat.le_refl _, Nat.le_refl _⟩ ⟨Nat.le_refl _, Nat.le_refl _⟩ (show decode cX8_readExpression 113 = .ok (.invokevirtual 54, 3) by decide +kernel) ?_
  rintro _ _ ⟨x, σ', rfl, rfl, hq⟩ _
  exact (k x σ' hq)
theorem S_X8_readExpression_116 {G : am_G} {d : Nat} {Q : am_D → Prop} {σ : am_D} {v2 : Int} {v3 : Int} {v4 : Int} {v5 : Int} {s0 : Int} {v1 : Option Nat} (hr1 : -2147483648 ≤ s0 ∧ s0 ≤ 2147483647) (k1 : s0 = 0 → am_X (am_FV G (d + 1) Q) mX8_readExpression (0, 0) 129 [some (am_r (some 3)), some (am_r v1), some (am_i v2), some (am_i v3), none, some (am_i v5)] [] (am_K0, σ)) (k2 : ¬ (s0 = 0) → am_X (am_FV G (d + 1) Q) mX8_readExpression (0, 0) 119 [some (am_r (some 3)), some (am_r v1), some (am_i v2), some (am_i v3), some (am_i v4), some (am_i v5)] [] (am_K0, σ)) : am_X (am_FV G (d + 1) Q) mX8_readExpression (0, 0) 116 [some (am_r (some 3)), some (am_r v1), some (am_i v2), some (am_i v3), some (am_i v4), some (am_i v5)] [am_i s0] (am_K0, σ) := by
  refine am_r_if_eq (tg := 129) (nx := 119) (show decode cX8_readExpression 116 = .ok (.ifCond .eq 13, 3) by decide +kernel) (by decide) rfl hr1 ?_ ?_
  · exact fun q => am_x_fg [4] (k1 q)
  · exact fun q => k2 q
theorem S_X8_readExpression_119 {G : am_G} {d : Nat} {Q : am_D → Prop} {σ : am_D} {v2 : Int} {v3 : Int} {v4 : Int} {v5 : Int} {v1 : Option Nat} {Q' : am_D → Prop} (hc : am_MV G d mX8_readRegister [am_r (some 3), am_r v1, am_i 8] σ Q') (k : ∀ σ' : am_D, Q' σ' → am_X (am_FV G (d + 1) Q) mX8_readExpression (0, 0) 126 [some (am_r (some 3)), some (am_r v1), some (am_i v2), some (am_i v3), some (am_i v4), some (am_i v5)] [] (am_K0, σ')) : am_X (am_FV G (d + 1) Q) mX8_readExpression (0, 0) 119 [some (am_r (some 3)), some (am_r v1), some (am_i v2), some (am_i v3), some (am_i v4), some (am_i v5)] [] (am_K0, σ) := by
  refine am_r_aload_n (nx := 120) rfl rfl (show decode cX8_readExpression 119 = .ok (.aload_n 0, 1) by decide +kernel) rfl ?_
  refine am_r_aload_n (nx := 121) rfl rfl (show decode cX8_readExpression 120 = .ok (.aload_n 1, 1) by decide +kernel) rfl ?_
  refine am_r_bipush (nx := 123) rfl (show decode cX8_readExpression 121 = .ok (.bipush 8, 2) by decide +kernel) rfl ?_
  refine am_r_callV (as := [am_r v1, am_i 8]) (st := []) hc mb_X8_readRegister mv_X8_readRegister (Or.inl ml_X8_149) (ob_3) (by omega) (r := (RX8, TX8, 3)) rfl rfl rfl rfl (Nat.le_of_ble_eq_true rfl) ⟨Nat.le_refl _, Nat.le_refl _⟩ ⟨Nat.le_refl _, Nat.le_refl _⟩ (show decode cX8_readExpression 123 = .ok (.invokevirtual 149, 3) by decide +kernel) ?_
  rintro _ _ ⟨σ', rfl, rfl, hq⟩ _
  exact (k σ' hq)
theorem S_X8_readExpression_126 {G : am_G} {d : Nat} {Q : am_D → Prop} {σ : am_D} {v2 : Int} {v3 : Int} {v4 : Int} {v5 : Int} {v1 : Option Nat}  (k : am_X (am_FV G (d + 1) Q) mX8_readExpression (0, 0) 132 [some (am_r (some 3)), some (am_r v1), some (am_i v2), some (am_i v3), some (am_i v4), some (am_i v5)] [] (am_K0, σ)) : am_X (am_FV G (d + 1) Q) mX8_readExpression (0, 0) 126 [some (am_r (some 3)), some (am_r v1), some (am_i v2), some (am_i v3), some (am_i v4), some (am_i v5)] [] (am_K0, σ) := by
  refine am_r_goto (tg := 132) (show decode cX8_readExpression 126 = .ok (.goto 6, 3) by decide +kernel) (by decide) ?_
  exact k
theorem S_X8_readExpression_129 {G : am_G} {d : Nat} {Q : am_D → Prop} {σ : am_D} {v2 : Int} {v3 : Int} {v5 : Int} {v1 : Option Nat}  (k : am_X (am_FV G (d + 1) Q) mX8_readExpression (0, 0) 132 [some (am_r (some 3)), some (am_r v1), some (am_i v2), some (am_i v3), some (am_i 0), some (am_i v5)] [] (am_K0, σ)) : am_X (am_FV G (d + 1) Q) mX8_readExpression (0, 0) 129 [some (am_r (some 3)), some (am_r v1), some (am_i v2), some (am_i v3), none, some (am_i v5)] [] (am_K0, σ) := by
  refine am_r_iconst (nx := 130) (show decode cX8_readExpression 129 = .ok (.iconst 0, 1) by decide +kernel) rfl ?_
  refine am_r_istore (nx := 132) (by decide) rfl (show decode cX8_readExpression 130 = .ok (.istore 4, 2) by decide +kernel) rfl ?_
  exact k
theorem S_X8_readExpression_132 {G : am_G} {d : Nat} {Q : am_D → Prop} {σ : am_D} {v2 : Int} {v3 : Int} {v4 : Int} {v5 : Int} {v1 : Option Nat} (hr1 : -2147483648 ≤ v4 ∧ v4 ≤ 2147483647) (k1 : v4 = 0 → am_X (am_FV G (d + 1) Q) mX8_readExpression (0, 0) 151 [some (am_r (some 3)), some (am_r v1), some (am_i v2), some (am_i v3), none, some (am_i v5)] [] (am_K0, σ)) (k2 : ¬ (v4 = 0) → am_X (am_FV G (d + 1) Q) mX8_readExpression (0, 0) 137 [some (am_r (some 3)), some (am_r v1), some (am_i v2), some (am_i v3), none, some (am_i v5)] [] (am_K0, σ)) : am_X (am_FV G (d + 1) Q) mX8_readExpression (0, 0) 132 [some (am_r (some 3)), some (am_r v1), some (am_i v2), some (am_i v3), some (am_i v4), some (am_i v5)] [] (am_K0, σ) := by
  refine am_r_iload (nx := 134) rfl (show decode cX8_readExpression 132 = .ok (.iload 4, 2) by decide +kernel) rfl ?_
  refine am_r_if_eq (tg := 151) (nx := 137) (show decode cX8_readExpression 134 = .ok (.ifCond .eq 17, 3) by decide +kernel) (by decide) rfl hr1 ?_ ?_
  · exact fun q => am_x_fg [4] (k1 q)
  · exact fun q => am_x_fg [4] (k2 q)
theorem S_X8_readExpression_137 {G : am_G} {d : Nat} {Q : am_D → Prop} {σ : am_D} {v2 : Int} {v3 : Int} {v5 : Int} {v1 : Option Nat} (hr1 : -2147483648 ≤ (σ.1 1 5) ∧ (σ.1 1 5) ≤ 2147483647) (k1 : ¬ (σ.1 1 5) = 0 → am_X (am_FV G (d + 1) Q) mX8_readExpression (0, 0) 151 [some (am_r (some 3)), some (am_r v1), some (am_i v2), some (am_i v3), none, some (am_i v5)] [] (am_K0, σ)) (k2 : ¬ (¬ (σ.1 1 5) = 0) → am_X (am_FV G (d + 1) Q) mX8_readExpression (0, 0) 147 [some (am_r (some 3)), some (am_r v1), some (am_i v2), some (am_i v3), none, some (am_i v5)] [] (am_K0, σ)) : am_X (am_FV G (d + 1) Q) mX8_readExpression (0, 0) 137 [some (am_r (some 3)), some (am_r v1), some (am_i v2), some (am_i v3), none, some (am_i v5)] [] (am_K0, σ) := by
  refine am_r_aload_n (nx := 138) rfl rfl (show decode cX8_readExpression 137 = .ok (.aload_n 0, 1) by decide +kernel) rfl ?_
  refine am_r_getF (nx := 141) 0 cw8 (by decide) rfl (Or.inl fl_X8_9) (ob_3) (fn_3_0) (show decode cX8_readExpression 138 = .ok (.getfield 9, 3) by decide +kernel) rfl ?_
  refine am_r_getI (nx := 144) 5 cw7 (by decide) rfl (Or.inr ⟨_, fl_X8_32⟩) (ob_1) (show decode cX8_readExpression 141 = .ok (.getfield 32, 3) by decide +kernel) rfl ?_
  refine am_r_if_ne (tg := 151) (nx := 147) (show decode cX8_readExpression 144 = .ok (.ifCond .ne 7, 3) by decide +kernel) (by decide) rfl hr1 ?_ ?_
  · exact fun q => k1 q
  · exact fun q => k2 q
theorem S_X8_readExpression_147 {G : am_G} {d : Nat} {Q : am_D → Prop} {σ : am_D} {v2 : Int} {v3 : Int} {v5 : Int} {v1 : Option Nat}  (k : am_X (am_FV G (d + 1) Q) mX8_readExpression (0, 0) 152 [some (am_r (some 3)), some (am_r v1), some (am_i v2), some (am_i v3), none, some (am_i v5)] [am_i 1] (am_K0, σ)) : am_X (am_FV G (d + 1) Q) mX8_readExpression (0, 0) 147 [some (am_r (some 3)), some (am_r v1), some (am_i v2), some (am_i v3), none, some (am_i v5)] [] (am_K0, σ) := by
  refine am_r_iconst (nx := 148) (show decode cX8_readExpression 147 = .ok (.iconst 1, 1) by decide +kernel) rfl ?_
  refine am_r_goto (tg := 152) (show decode cX8_readExpression 148 = .ok (.goto 4, 3) by decide +kernel) (by decide) ?_
  exact k
theorem S_X8_readExpression_151 {G : am_G} {d : Nat} {Q : am_D → Prop} {σ : am_D} {v2 : Int} {v3 : Int} {v5 : Int} {v1 : Option Nat}  (k : am_X (am_FV G (d + 1) Q) mX8_readExpression (0, 0) 152 [some (am_r (some 3)), some (am_r v1), some (am_i v2), some (am_i v3), none, some (am_i v5)] [am_i 0] (am_K0, σ)) : am_X (am_FV G (d + 1) Q) mX8_readExpression (0, 0) 151 [some (am_r (some 3)), some (am_r v1), some (am_i v2), some (am_i v3), none, some (am_i v5)] [] (am_K0, σ) := by
  refine am_r_iconst (nx := 152) (show decode cX8_readExpression 151 = .ok (.iconst 0, 1) by decide +kernel) rfl ?_
  exact k
theorem S_X8_readExpression_152 {G : am_G} {d : Nat} {Q : am_D → Prop} {σ : am_D} {v2 : Int} {v3 : Int} {v5 : Int} {s0 : Int} {v1 : Option Nat}  (k : am_X (am_FV G (d + 1) Q) mX8_readExpression (0, 0) 154 [some (am_r (some 3)), some (am_r v1), some (am_i v2), some (am_i v3), some (am_i s0), some (am_i v5)] [] (am_K0, σ)) : am_X (am_FV G (d + 1) Q) mX8_readExpression (0, 0) 152 [some (am_r (some 3)), some (am_r v1), some (am_i v2), some (am_i v3), none, some (am_i v5)] [am_i s0] (am_K0, σ) := by
  refine am_r_istore (nx := 154) (by decide) rfl (show decode cX8_readExpression 152 = .ok (.istore 4, 2) by decide +kernel) rfl ?_
  exact k
theorem S_X8_readExpression_154 {G : am_G} {d : Nat} {Q : am_D → Prop} {σ : am_D} {v2 : Int} {v3 : Int} {v4 : Int} {v5 : Int} {v1 : Option Nat} (hr1 : -2147483648 ≤ v4 ∧ v4 ≤ 2147483647) (k1 : v4 = 0 → am_X (am_FV G (d + 1) Q) mX8_readExpression (0, 0) 166 [some (am_r (some 3)), some (am_r v1), some (am_i v2), some (am_i v3), some (am_i v4), some (am_i v5)] [] (am_K0, σ)) (k2 : ¬ (v4 = 0) → am_X (am_FV G (d + 1) Q) mX8_readExpression (0, 0) 159 [some (am_r (some 3)), some (am_r v1), some (am_i v2), some (am_i v3), some (am_i v4), some (am_i v5)] [] (am_K0, σ)) : am_X (am_FV G (d + 1) Q) mX8_readExpression (0, 0) 154 [some (am_r (some 3)), some (am_r v1), some (am_i v2), some (am_i v3), some (am_i v4), some (am_i v5)] [] (am_K0, σ) := by
  refine am_r_iload (nx := 156) rfl (show decode cX8_readExpression 154 = .ok (.iload 4, 2) by decide +kernel) rfl ?_
  refine am_r_if_eq (tg := 166) (nx := 159) (show decode cX8_readExpression 156 = .ok (.ifCond .eq 10, 3) by decide +kernel) (by decide) rfl hr1 ?_ ?_
  · exact fun q => k1 q
  · exact fun q => k2 q
theorem S_X8_readExpression_159 {G : am_G} {d : Nat} {Q : am_D → Prop} {σ : am_D} {v2 : Int} {v3 : Int} {v4 : Int} {v5 : Int} {Q' : am_D → Prop} {v1 : Option Nat} (hc : am_MV G d mX7_advance [am_r (some 1)] σ Q') (k : ∀ σ' : am_D, Q' σ' → am_X (am_FV G (d + 1) Q) mX8_readExpression (0, 0) 166 [some (am_r (some 3)), some (am_r v1), some (am_i v2), some (am_i v3), some (am_i v4), some (am_i v5)] [] (am_K0, σ')) : am_X (am_FV G (d + 1) Q) mX8_readExpression (0, 0) 159 [some (am_r (some 3)), some (am_r v1), some (am_i v2), some (am_i v3), some (am_i v4), some (am_i v5)] [] (am_K0, σ) := by
  refine am_r_aload_n (nx := 160) rfl rfl (show decode cX8_readExpression 159 = .ok (.aload_n 0, 1) by decide +kernel) rfl ?_
  refine am_r_getF (nx := 163) 0 cw8 (by decide) rfl (Or.inl fl_X8_9) (ob_3) (fn_3_0) (show decode cX8_readExpression 160 = .ok (.getfield 9, 3) by decide +kernel) rfl ?_
  refine am_r_callV (as := []) (st := []) hc mb_X7_advance mv_X7_advance (Or.inl ml_X8_25) (ob_1) (by omega) (r := (RX7, TX7, 6)) rfl rfl rfl rfl (Nat.le_of_ble_eq_true rfl) ⟨Nat.le_refl _, Nat.le_refl _⟩ ⟨Nat.le_refl _, Nat.le_refl _⟩ (show decode cX8_readExpression 163 = .ok (.invokevirtual 25, 3) by decide +kernel) ?_
  rintro _ _ ⟨σ', rfl, rfl, hq⟩ _
  exact (k σ' hq)
theorem S_X8_readExpression_166 {G : am_G} {d : Nat} {Q : am_D → Prop} {σ : am_D} {v2 : Int} {v3 : Int} {v4 : Int} {v5 : Int} {v1 : Option Nat}  (k : am_X (am_FV G (d + 1) Q) mX8_readExpression (0, 0) 19 [some (am_r (some 3)), some (am_r v1), some (am_i v2), some (am_i v3), some (am_i v4), some (am_i (v5 + 1))] [] (am_K0, σ)) : am_X (am_FV G (d + 1) Q) mX8_readExpression (0, 0) 166 [some (am_r (some 3)), some (am_r v1), some (am_i v2), some (am_i v3), some (am_i v4), some (am_i v5)] [] (am_K0, σ) := by
  refine am_r_iinc (nx := 169) rfl rfl (show decode cX8_readExpression 166 = .ok (.iinc 5 1, 3) by decide +kernel) rfl ?_
  refine am_r_goto (tg := 19) (show decode cX8_readExpression 169 = .ok (.goto (-150), 3) by decide +kernel) (by decide) ?_
  exact k
theorem S_X8_readExpression_172 {G : am_G} {d : Nat} {Q : am_D → Prop} {σ : am_D} {v3 : Int} {v1 : Option Nat} (hr1 : -2147483648 ≤ v3 ∧ v3 ≤ 2147483647) (k1 : v3 ≤ 0 → am_X (am_FV G (d + 1) Q) mX8_readExpression (0, 0) 184 [none, some (am_r v1), none, none, none, none] [] (am_K0, σ)) (k2 : ¬ (v3 ≤ 0) → am_X (am_FV G (d + 1) Q) mX8_readExpression (0, 0) 176 [some (am_r (some 3)), some (am_r v1), none, none, none, none] [] (am_K0, σ)) : am_X (am_FV G (d + 1) Q) mX8_readExpression (0, 0) 172 [some (am_r (some 3)), some (am_r v1), none, some (am_i v3), none, none] [] (am_K0, σ) := by
  refine am_r_iload_n (nx := 173) rfl rfl (show decode cX8_readExpression 172 = .ok (.iload_n 3, 1) by decide +kernel) rfl ?_
  refine am_r_if_le (tg := 184) (nx := 176) (show decode cX8_readExpression 173 = .ok (.ifCond .le 11, 3) by decide +kernel) (by decide) rfl hr1 ?_ ?_
  · exact fun q => am_x_fg [0, 3] (k1 q)
  · exact fun q => am_x_fg [3] (k2 q)
theorem S_X8_readExpression_176 {G : am_G} {d : Nat} {Q : am_D → Prop} {σ : am_D} {Q' : am_D → Prop} {v1 : Option Nat} (hc : am_MV G d mX7_fail [am_r (some 1), am_i 1] σ Q') (k : ∀ σ' : am_D, Q' σ' → am_X (am_FV G (d + 1) Q) mX8_readExpression (0, 0) 184 [none, some (am_r v1), none, none, none, none] [] (am_K0, σ')) : am_X (am_FV G (d + 1) Q) mX8_readExpression (0, 0) 176 [some (am_r (some 3)), some (am_r v1), none, none, none, none] [] (am_K0, σ) := by
  refine am_r_aload_n (nx := 177) rfl rfl (show decode cX8_readExpression 176 = .ok (.aload_n 0, 1) by decide +kernel) rfl ?_
  refine am_r_getF (nx := 180) 0 cw8 (by decide) rfl (Or.inl fl_X8_9) (ob_3) (fn_3_0) (show decode cX8_readExpression 177 = .ok (.getfield 9, 3) by decide +kernel) rfl ?_
  refine am_r_iconst (nx := 181) (show decode cX8_readExpression 180 = .ok (.iconst 1, 1) by decide +kernel) rfl ?_
  refine am_r_callV (as := [am_i 1]) (st := []) hc mb_X7_fail mv_X7_fail (Or.inl ml_X8_35) (ob_1) (by omega) (r := (RX7, TX7, 6)) rfl rfl rfl rfl (Nat.le_of_ble_eq_true rfl) ⟨Nat.le_refl _, Nat.le_refl _⟩ ⟨Nat.le_refl _, Nat.le_refl _⟩ (show decode cX8_readExpression 181 = .ok (.invokevirtual 35, 3) by decide +kernel) ?_
  rintro _ _ ⟨σ', rfl, rfl, hq⟩ _
  exact am_x_fg [0] (k σ' hq)
theorem S_X8_readExpression_184 {G : am_G} {d : Nat} {Q : am_D → Prop} {σ : am_D} {v1 : Nat} {Q' : am_D → Prop} (hc : am_MV G d mX2_stopExpression [am_r (some v1)] σ Q') (hc1 : am_isM v1) (k : ∀ σ' : am_D, Q' σ' → am_X (am_FV G (d + 1) Q) mX8_readExpression (0, 0) 188 [none, none, none, none, none, none] [] (am_K0, σ')) : am_X (am_FV G (d + 1) Q) mX8_readExpression (0, 0) 184 [none, some (am_r (some v1)), none, none, none, none] [] (am_K0, σ) := by
  refine am_r_aload_n (nx := 185) rfl rfl (show decode cX8_readExpression 184 = .ok (.aload_n 1, 1) by decide +kernel) rfl ?_
  refine am_r_callV (as := []) (st := []) hc mb_X2_stopExpression mv_X2_stopExpression (Or.inl ml_X8_155) (obM hc1) (by omega) (r := (RX2, TX2, 16)) rfl rfl rfl rfl (Nat.le_of_ble_eq_true rfl) ⟨Nat.le_refl _, Nat.le_refl _⟩ ⟨Nat.le_refl _, Nat.le_refl _⟩ (show decode cX8_readExpression 185 = .ok (.invokevirtual 155, 3) by decide +kernel) ?_
  rintro _ _ ⟨σ', rfl, rfl, hq⟩ _
  exact am_x_fg [1] (k σ' hq)
theorem S_X8_readExpression_188 {G : am_G} {d : Nat} {Q : am_D → Prop} {σ : am_D}   (k : Q σ) : am_X (am_FV G (d + 1) Q) mX8_readExpression (0, 0) 188 [none, none, none, none, none, none] [] (am_K0, σ) := by
  exact am_r_vret rfl (show decode cX8_readExpression 188 = .ok (.return_, 1) by decide +kernel) ⟨_, rfl, rfl, k⟩
theorem S_X8_readElement_0 {G : am_G} {d : Nat} {Q : am_D → Prop} {σ : am_D} {v1 : Option Nat} (hr1 : -2147483648 ≤ (σ.1 3 1) ∧ (σ.1 3 1) ≤ 2147483647) (k1 : (σ.1 3 1) < 6 → am_X (am_FV G (d + 1) Q) mX8_readElement (0, 0) 17 [some (am_r (some 3)), some (am_r v1)] [] (am_K0, σ)) (k2 : ¬ ((σ.1 3 1) < 6) → am_X (am_FV G (d + 1) Q) mX8_readElement (0, 0) 9 [some (am_r (some 3)), some (am_r v1)] [] (am_K0, σ)) : am_X (am_FV G (d + 1) Q) mX8_readElement (0, 0) 0 [some (am_r (some 3)), some (am_r v1)] [] (am_K0, σ) := by
  refine am_r_aload_n (nx := 1) rfl rfl (show decode cX8_readElement 0 = .ok (.aload_n 0, 1) by decide +kernel) rfl ?_
  refine am_r_getI (nx := 4) 1 cw8 (by decide) rfl (Or.inl fl_X8_90) (ob_3) (show decode cX8_readElement 1 = .ok (.getfield 90, 3) by decide +kernel) rfl ?_
  refine am_r_bipush (nx := 6) rfl (show decode cX8_readElement 4 = .ok (.bipush 6, 2) by decide +kernel) rfl ?_
  refine am_r_icmp_lt (tg := 17) (nx := 9) (show decode cX8_readElement 6 = .ok (.if_icmp .lt 11, 3) by decide +kernel) (by decide) rfl hr1 (by omega) ?_ ?_
  · exact fun q => k1 q
  · exact fun q => k2 q
theorem S_X8_readElement_9 {G : am_G} {d : Nat} {Q : am_D → Prop} {σ : am_D} {Q' : am_D → Prop} {v1 : Option Nat} (hc : am_MV G d mX7_fail [am_r (some 1), am_i 5] σ Q') (k : ∀ σ' : am_D, Q' σ' → am_X (am_FV G (d + 1) Q) mX8_readElement (0, 0) 17 [some (am_r (some 3)), some (am_r v1)] [] (am_K0, σ')) : am_X (am_FV G (d + 1) Q) mX8_readElement (0, 0) 9 [some (am_r (some 3)), some (am_r v1)] [] (am_K0, σ) := by
  refine am_r_aload_n (nx := 10) rfl rfl (show decode cX8_readElement 9 = .ok (.aload_n 0, 1) by decide +kernel) rfl ?_
  refine am_r_getF (nx := 13) 0 cw8 (by decide) rfl (Or.inl fl_X8_9) (ob_3) (fn_3_0) (show decode cX8_readElement 10 = .ok (.getfield 9, 3) by decide +kernel) rfl ?_
  refine am_r_iconst (nx := 14) (show decode cX8_readElement 13 = .ok (.iconst 5, 1) by decide +kernel) rfl ?_
  refine am_r_callV (as := [am_i 5]) (st := []) hc mb_X7_fail mv_X7_fail (Or.inl ml_X8_35) (ob_1) (by omega) (r := (RX7, TX7, 6)) rfl rfl rfl rfl (Nat.le_of_ble_eq_true rfl) ⟨Nat.le_refl _, Nat.le_refl _⟩ ⟨Nat.le_refl _, Nat.le_refl _⟩ (show decode cX8_readElement 14 = .ok (.invokevirtual 35, 3) by decide +kernel) ?_
  rintro _ _ ⟨σ', rfl, rfl, hq⟩ _
  exact (k σ' hq)
theorem S_X8_readElement_17 {G : am_G} {d : Nat} {Q : am_D → Prop} {σ : am_D} {v1 : Option Nat}  (k : am_X (am_FV G (d + 1) Q) mX8_readElement (0, 0) 27 [some (am_r (some 3)), some (am_r v1)] [] (am_K0, (am_pI σ 3 1 ((σ.1 3 1) + 1)))) : am_X (am_FV G (d + 1) Q) mX8_readElement (0, 0) 17 [some (am_r (some 3)), some (am_r v1)] [] (am_K0, σ) := by
  refine am_r_aload_n (nx := 18) rfl rfl (show decode cX8_readElement 17 = .ok (.aload_n 0, 1) by decide +kernel) rfl ?_
  refine am_r_dup (nx := 19) rfl (show decode cX8_readElement 18 = .ok (.dup, 1) by decide +kernel) rfl ?_
  refine am_r_getI (nx := 22) 1 cw8 (by decide) rfl (Or.inl fl_X8_90) (ob_3) (show decode cX8_readElement 19 = .ok (.getfield 90, 3) by decide +kernel) rfl ?_
  refine am_r_iconst (nx := 23) (show decode cX8_readElement 22 = .ok (.iconst 1, 1) by decide +kernel) rfl ?_
  refine am_r_iadd (nx := 24) (show decode cX8_readElement 23 = .ok (.iadd, 1) by decide +kernel) rfl ?_
  refine am_r_putI (nx := 27) 1 cw8 (by decide) rfl (Or.inl fl_X8_90) (ob_3) rfl (Or.inl rfl) (show decode cX8_readElement 24 = .ok (.putfield 90, 3) by decide +kernel) rfl ?_
  exact k
theorem S_X8_readElement_27 {G : am_G} {d : Nat} {Q : am_D → Prop} {σ : am_D} {Q' : Int → am_D → Prop} {v1 : Option Nat} (hc : am_MI G d mX7_letter [am_r (some 1)] σ Q') (k : ∀ (x : Int) (σ' : am_D), Q' x σ' → am_X (am_FV G (d + 1) Q) mX8_readElement (0, 0) 35 [none, none] [am_i x, am_r v1] (am_K0, σ')) : am_X (am_FV G (d + 1) Q) mX8_readElement (0, 0) 27 [some (am_r (some 3)), some (am_r v1)] [] (am_K0, σ) := by
  refine am_r_aload_n (nx := 28) rfl rfl (show decode cX8_readElement 27 = .ok (.aload_n 1, 1) by decide +kernel) rfl ?_
  refine am_r_aload_n (nx := 29) rfl rfl (show decode cX8_readElement 28 = .ok (.aload_n 0, 1) by decide +kernel) rfl ?_
  refine am_r_getF (nx := 32) 0 cw8 (by decide) rfl (Or.inl fl_X8_9) (ob_3) (fn_3_0) (show decode cX8_readElement 29 = .ok (.getfield 9, 3) by decide +kernel) rfl ?_
  refine am_r_callV (as := []) (st := [am_r v1]) hc mb_X7_letter mv_X7_letter (Or.inl ml_X8_39) (ob_1) (by omega) (r := (RX7, TX7, 6)) rfl rfl rfl rfl (Nat.le_of_ble_eq_true rfl) ⟨Nat.le_refl _, Nat.le_refl _⟩ ⟨Nat.le_refl _, Nat.le_refl _⟩ (show decode cX8_readElement 32 = .ok (.invokevirtual 39, 3) by decide +kernel) ?_
  rintro _ _ ⟨x, σ', rfl, rfl, hq⟩ _
  exact am_x_fg [0, 1] (k x σ' hq)
theorem S_X8_readElement_35 {G : am_G} {d : Nat} {Q : am_D → Prop} {σ : am_D} {s1 : Int} {s0 : Nat} {Q' : am_D → Prop} (hc : am_MV G d mX2_addSign [am_r (some s0), am_i s1] σ Q') (hc1 : am_isM s0) (k : ∀ σ' : am_D, Q' σ' → am_X (am_FV G (d + 1) Q) mX8_readElement (0, 0) 38 [none, none] [] (am_K0, σ')) : am_X (am_FV G (d + 1) Q) mX8_readElement (0, 0) 35 [none, none] [am_i s1, am_r (some s0)] (am_K0, σ) := by
  refine am_r_callV (as := [am_i s1]) (st := []) hc mb_X2_addSign mv_X2_addSign (Or.inl ml_X8_144) (obM hc1) (by omega) (r := (RX2, TX2, 16)) rfl rfl rfl rfl (Nat.le_of_ble_eq_true rfl) ⟨Nat.le_refl _, Nat.le_refl _⟩ ⟨Nat.le_refl _, Nat.le_refl _⟩ (show decode cX8_readElement 35 = .ok (.invokevirtual 144, 3) by decide +kernel) ?_
  rintro _ _ ⟨σ', rfl, rfl, hq⟩ _
  exact (k σ' hq)
theorem S_X8_readElement_38 {G : am_G} {d : Nat} {Q : am_D → Prop} {σ : am_D}   (k : Q σ) : am_X (am_FV G (d + 1) Q) mX8_readElement (0, 0) 38 [none, none] [] (am_K0, σ) := by
  exact am_r_vret rfl (show decode cX8_readElement 38 = .ok (.return_, 1) by decide +kernel) ⟨_, rfl, rfl, k⟩
theorem S_X8_readRegister_0 {G : am_G} {d : Nat} {Q : am_D → Prop} {σ : am_D} {v2 : Int} {v1 : Nat} {Q' : Int → am_D → Prop} (hc1 : am_isM v1) (hc : am_MI G d mX7_digit [am_r (some 1), am_i 0, am_i ((σ.1 v1 1) - 1)] σ Q') (k : ∀ (x : Int) (σ' : am_D), Q' x σ' → am_X (am_FV G (d + 1) Q) mX8_readRegister (0, 0) 15 [some (am_r (some 3)), some (am_r (some v1)), some (am_i v2), some (am_i x), none] [] (am_K0, σ')) : am_X (am_FV G (d + 1) Q) mX8_readRegister (0, 0) 0 [some (am_r (some 3)), some (am_r (some v1)), some (am_i v2), none, none] [] (am_K0, σ) := by
  refine am_r_aload_n (nx := 1) rfl rfl (show decode cX8_readRegister 0 = .ok (.aload_n 0, 1) by decide +kernel) rfl ?_
  refine am_r_getF (nx := 4) 0 cw8 (by decide) rfl (Or.inl fl_X8_9) (ob_3) (fn_3_0) (show decode cX8_readRegister 1 = .ok (.getfield 9, 3) by decide +kernel) rfl ?_
  refine am_r_iconst (nx := 5) (show decode cX8_readRegister 4 = .ok (.iconst 0, 1) by decide +kernel) rfl ?_
  refine am_r_aload_n (nx := 6) rfl rfl (show decode cX8_readRegister 5 = .ok (.aload_n 1, 1) by decide +kernel) rfl ?_
  refine am_r_getI (nx := 9) 1 cw2 (by decide) rfl (Or.inr ⟨_, fl_X8_65⟩) (obM hc1) (show decode cX8_readRegister 6 = .ok (.getfield 65, 3) by decide +kernel) rfl ?_
  refine am_r_iconst (nx := 10) (show decode cX8_readRegister 9 = .ok (.iconst 1, 1) by decide +kernel) rfl ?_
  refine am_r_isub (nx := 11) (show decode cX8_readRegister 10 = .ok (.isub, 1) by decide +kernel) rfl ?_
  refine am_r_callV (as := [am_i 0, am_i ((σ.1 v1 1) - 1)]) (st := []) hc mb_X7_digit mv_X7_digit (Or.inl ml_X8_58) (ob_1) (by omega) (r := (RX7, TX7, 6)) rfl rfl rfl rfl (Nat.le_of_ble_eq_true rfl) ⟨Nat.le_refl _, Nat.le_refl _⟩ ⟨Nat.le_refl _, Nat.le_refl _⟩ (show decode cX8_readRegister 11 = .ok (.invokevirtual 58, 3) by decide +kernel) ?_
  rintro _ _ ⟨x, σ', rfl, rfl, hq⟩ _
  refine am_r_istore_n (nx := 15) rfl (by decide) rfl (show decode cX8_readRegister 14 = .ok (.istore_n 3, 1) by decide +kernel) rfl ?_
  exact (k x σ' hq)
theorem S_X8_readRegister_15 {G : am_G} {d : Nat} {Q : am_D → Prop} {σ : am_D} {v2 : Int} {v3 : Int} {v1 : Option Nat} (hr1 : -2147483648 ≤ v3 ∧ v3 ≤ 2147483647) (k1 : ¬ v3 = (-1) → am_X (am_FV G (d + 1) Q) mX8_readRegister (0, 0) 21 [some (am_r (some 3)), some (am_r v1), some (am_i v2), some (am_i v3), none] [] (am_K0, σ)) (k2 : ¬ (¬ v3 = (-1)) → am_X (am_FV G (d + 1) Q) mX8_readRegister (0, 0) 20 [none, none, none, none, none] [] (am_K0, σ)) : am_X (am_FV G (d + 1) Q) mX8_readRegister (0, 0) 15 [some (am_r (some 3)), some (am_r v1), some (am_i v2), some (am_i v3), none] [] (am_K0, σ) := by
  refine am_r_iload_n (nx := 16) rfl rfl (show decode cX8_readRegister 15 = .ok (.iload_n 3, 1) by decide +kernel) rfl ?_
  refine am_r_iconst (nx := 17) (show decode cX8_readRegister 16 = .ok (.iconst (-1), 1) by decide +kernel) rfl ?_
  refine am_r_icmp_ne (tg := 21) (nx := 20) (show decode cX8_readRegister 17 = .ok (.if_icmp .ne 4, 3) by decide +kernel) (by decide) rfl hr1 (by omega) ?_ ?_
  · exact fun q => k1 q
  · exact fun q => am_x_fg [0, 1, 2, 3] (k2 q)
theorem S_X8_readRegister_20 {G : am_G} {d : Nat} {Q : am_D → Prop} {σ : am_D}   (k : Q σ) : am_X (am_FV G (d + 1) Q) mX8_readRegister (0, 0) 20 [none, none, none, none, none] [] (am_K0, σ) := by
  exact am_r_vret rfl (show decode cX8_readRegister 20 = .ok (.return_, 1) by decide +kernel) ⟨_, rfl, rfl, k⟩
theorem S_X8_readRegister_21 {G : am_G} {d : Nat} {Q : am_D → Prop} {σ : am_D} {v2 : Int} {v3 : Int} {v1 : Option Nat}  (k : am_X (am_FV G (d + 1) Q) mX8_readRegister (0, 0) 26 [some (am_r (some 3)), some (am_r v1), none, none, some (am_i (v2 + v3))] [] (am_K0, σ)) : am_X (am_FV G (d + 1) Q) mX8_readRegister (0, 0) 21 [some (am_r (some 3)), some (am_r v1), some (am_i v2), some (am_i v3), none] [] (am_K0, σ) := by
  refine am_r_iload_n (nx := 22) rfl rfl (show decode cX8_readRegister 21 = .ok (.iload_n 2, 1) by decide +kernel) rfl ?_
  refine am_r_iload_n (nx := 23) rfl rfl (show decode cX8_readRegister 22 = .ok (.iload_n 3, 1) by decide +kernel) rfl ?_
  refine am_r_iadd (nx := 24) (show decode cX8_readRegister 23 = .ok (.iadd, 1) by decide +kernel) rfl ?_
  refine am_r_istore (nx := 26) (by decide) rfl (show decode cX8_readRegister 24 = .ok (.istore 4, 2) by decide +kernel) rfl ?_
  exact am_x_fg [2, 3] k
theorem S_X8_readRegister_26 {G : am_G} {d : Nat} {Q : am_D → Prop} {σ : am_D} {v4 : Int} {v1 : Option Nat} (hr1 : -2147483648 ≤ (am_and (am_shr (σ.1 3 2) v4) 1) ∧ (am_and (am_shr (σ.1 3 2) v4) 1) ≤ 2147483647) (k1 : ¬ (am_and (am_shr (σ.1 3 2) v4) 1) = 1 → am_X (am_FV G (d + 1) Q) mX8_readRegister (0, 0) 47 [some (am_r (some 3)), some (am_r v1), none, none, some (am_i v4)] [] (am_K0, σ)) (k2 : ¬ (¬ (am_and (am_shr (σ.1 3 2) v4) 1) = 1) → am_X (am_FV G (d + 1) Q) mX8_readRegister (0, 0) 39 [some (am_r (some 3)), some (am_r v1), none, none, some (am_i v4)] [] (am_K0, σ)) : am_X (am_FV G (d + 1) Q) mX8_readRegister (0, 0) 26 [some (am_r (some 3)), some (am_r v1), none, none, some (am_i v4)] [] (am_K0, σ) := by
  refine am_r_aload_n (nx := 27) rfl rfl (show decode cX8_readRegister 26 = .ok (.aload_n 0, 1) by decide +kernel) rfl ?_
  refine am_r_getI (nx := 30) 2 cw8 (by decide) rfl (Or.inl fl_X8_93) (ob_3) (show decode cX8_readRegister 27 = .ok (.getfield 93, 3) by decide +kernel) rfl ?_
  refine am_r_iload (nx := 32) rfl (show decode cX8_readRegister 30 = .ok (.iload 4, 2) by decide +kernel) rfl ?_
  refine am_r_ishr (nx := 33) (show decode cX8_readRegister 32 = .ok (.ishr, 1) by decide +kernel) rfl ?_
  refine am_r_iconst (nx := 34) (show decode cX8_readRegister 33 = .ok (.iconst 1, 1) by decide +kernel) rfl ?_
  refine am_r_iand (nx := 35) (show decode cX8_readRegister 34 = .ok (.iand, 1) by decide +kernel) rfl ?_
  refine am_r_iconst (nx := 36) (show decode cX8_readRegister 35 = .ok (.iconst 1, 1) by decide +kernel) rfl ?_
  refine am_r_icmp_ne (tg := 47) (nx := 39) (show decode cX8_readRegister 36 = .ok (.if_icmp .ne 11, 3) by decide +kernel) (by decide) rfl hr1 (by omega) ?_ ?_
  · exact fun q => k1 q
  · exact fun q => k2 q
theorem S_X8_readRegister_39 {G : am_G} {d : Nat} {Q : am_D → Prop} {σ : am_D} {v4 : Int} {Q' : am_D → Prop} {v1 : Option Nat} (hc : am_MV G d mX7_fail [am_r (some 1), am_i 4] σ Q') (k : ∀ σ' : am_D, Q' σ' → am_X (am_FV G (d + 1) Q) mX8_readRegister (0, 0) 47 [some (am_r (some 3)), some (am_r v1), none, none, some (am_i v4)] [] (am_K0, σ')) : am_X (am_FV G (d + 1) Q) mX8_readRegister (0, 0) 39 [some (am_r (some 3)), some (am_r v1), none, none, some (am_i v4)] [] (am_K0, σ) := by
  refine am_r_aload_n (nx := 40) rfl rfl (show decode cX8_readRegister 39 = .ok (.aload_n 0, 1) by decide +kernel) rfl ?_
  refine am_r_getF (nx := 43) 0 cw8 (by decide) rfl (Or.inl fl_X8_9) (ob_3) (fn_3_0) (show decode cX8_readRegister 40 = .ok (.getfield 9, 3) by decide +kernel) rfl ?_
  refine am_r_iconst (nx := 44) (show decode cX8_readRegister 43 = .ok (.iconst 4, 1) by decide +kernel) rfl ?_
  refine am_r_callV (as := [am_i 4]) (st := []) hc mb_X7_fail mv_X7_fail (Or.inl ml_X8_35) (ob_1) (by omega) (r := (RX7, TX7, 6)) rfl rfl rfl rfl (Nat.le_of_ble_eq_true rfl) ⟨Nat.le_refl _, Nat.le_refl _⟩ ⟨Nat.le_refl _, Nat.le_refl _⟩ (show decode cX8_readRegister 44 = .ok (.invokevirtual 35, 3) by decide +kernel) ?_
  rintro _ _ ⟨σ', rfl, rfl, hq⟩ _
  exact (k σ' hq)
theorem S_X8_readRegister_47 {G : am_G} {d : Nat} {Q : am_D → Prop} {σ : am_D} {v4 : Int} {v1 : Option Nat}  (k : am_X (am_FV G (d + 1) Q) mX8_readRegister (0, 0) 60 [none, some (am_r v1), none, none, some (am_i v4)] [] (am_K0, (am_pI σ 3 2 (am_or (σ.1 3 2) (am_shl 1 v4))))) : am_X (am_FV G (d + 1) Q) mX8_readRegister (0, 0) 47 [some (am_r (some 3)), some (am_r v1), none, none, some (am_i v4)] [] (am_K0, σ) := by
  refine am_r_aload_n (nx := 48) rfl rfl (show decode cX8_readRegister 47 = .ok (.aload_n 0, 1) by decide +kernel) rfl ?_
  refine am_r_dup (nx := 49) rfl (show decode cX8_readRegister 48 = .ok (.dup, 1) by decide +kernel) rfl ?_
  refine am_r_getI (nx := 52) 2 cw8 (by decide) rfl (Or.inl fl_X8_93) (ob_3) (show decode cX8_readRegister 49 = .ok (.getfield 93, 3) by decide +kernel) rfl ?_
  refine am_r_iconst (nx := 53) (show decode cX8_readRegister 52 = .ok (.iconst 1, 1) by decide +kernel) rfl ?_
  refine am_r_iload (nx := 55) rfl (show decode cX8_readRegister 53 = .ok (.iload 4, 2) by decide +kernel) rfl ?_
  refine am_r_ishl (nx := 56) (show decode cX8_readRegister 55 = .ok (.ishl, 1) by decide +kernel) rfl ?_
  refine am_r_ior (nx := 57) (show decode cX8_readRegister 56 = .ok (.ior, 1) by decide +kernel) rfl ?_
  refine am_r_putI (nx := 60) 2 cw8 (by decide) rfl (Or.inl fl_X8_93) (ob_3) rfl (Or.inl rfl) (show decode cX8_readRegister 57 = .ok (.putfield 93, 3) by decide +kernel) rfl ?_
  exact am_x_fg [0] k
theorem S_X8_readRegister_60 {G : am_G} {d : Nat} {Q : am_D → Prop} {σ : am_D} {v4 : Int} {v1 : Nat} {Q' : am_D → Prop} (hc : am_MV G d mX2_addSign [am_r (some v1), am_i v4] σ Q') (hc1 : am_isM v1) (k : ∀ σ' : am_D, Q' σ' → am_X (am_FV G (d + 1) Q) mX8_readRegister (0, 0) 66 [none, none, none, none, none] [] (am_K0, σ')) : am_X (am_FV G (d + 1) Q) mX8_readRegister (0, 0) 60 [none, some (am_r (some v1)), none, none, some (am_i v4)] [] (am_K0, σ) := by
  refine am_r_aload_n (nx := 61) rfl rfl (show decode cX8_readRegister 60 = .ok (.aload_n 1, 1) by decide +kernel) rfl ?_
  refine am_r_iload (nx := 63) rfl (show decode cX8_readRegister 61 = .ok (.iload 4, 2) by decide +kernel) rfl ?_
  refine am_r_callV (as := [am_i v4]) (st := []) hc mb_X2_addSign mv_X2_addSign (Or.inl ml_X8_144) (obM hc1) (by omega) (r := (RX2, TX2, 16)) rfl rfl rfl rfl (Nat.le_of_ble_eq_true rfl) ⟨Nat.le_refl _, Nat.le_refl _⟩ ⟨Nat.le_refl _, Nat.le_refl _⟩ (show decode cX8_readRegister 63 = .ok (.invokevirtual 144, 3) by decide +kernel) ?_
  rintro _ _ ⟨σ', rfl, rfl, hq⟩ _
  exact am_x_fg [1, 4] (k σ' hq)
theorem S_X8_readRegister_66 {G : am_G} {d : Nat} {Q : am_D → Prop} {σ : am_D}   (k : Q σ) : am_X (am_FV G (d + 1) Q) mX8_readRegister (0, 0) 66 [none, none, none, none, none] [] (am_K0, σ) := by
  exact am_r_vret rfl (show decode cX8_readRegister 66 = .ok (.return_, 1) by decide +kernel) ⟨_, rfl, rfl, k⟩
end
