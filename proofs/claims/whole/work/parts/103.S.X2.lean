section
theorem S_X2_clear_0 {G : am_G} {d : Nat} {Q : am_D → Prop} {σ : am_D} {v0 : Nat} (hc1 : am_isM v0) (k : am_X (am_FV G (d + 1) Q) mX2_clear (0, 0) 5 [some (am_r (some v0))] [] (am_K0, (am_pI σ v0 2 0))) : am_X (am_FV G (d + 1) Q) mX2_clear (0, 0) 0 [some (am_r (some v0))] [] (am_K0, σ) := by
  refine am_r_aload_n (nx := 1) rfl rfl (show decode cX2_clear 0 = .ok (.aload_n 0, 1) by decide +kernel) rfl ?_
  refine am_r_iconst (nx := 2) (show decode cX2_clear 1 = .ok (.iconst 0, 1) by decide +kernel) rfl ?_
  refine am_r_putI (nx := 5) 2 cw2 (by decide) rfl (Or.inl fl_X2_33) (obM hc1) rfl (Or.inl rfl) (show decode cX2_clear 2 = .ok (.putfield 33, 3) by decide +kernel) rfl ?_
  exact k
theorem S_X2_clear_5 {G : am_G} {d : Nat} {Q : am_D → Prop} {σ : am_D} {v0 : Nat} (hc1 : am_isM v0) (k : am_X (am_FV G (d + 1) Q) mX2_clear (0, 0) 10 [some (am_r (some v0))] [] (am_K0, (am_pI σ v0 3 0))) : am_X (am_FV G (d + 1) Q) mX2_clear (0, 0) 5 [some (am_r (some v0))] [] (am_K0, σ) := by
  refine am_r_aload_n (nx := 6) rfl rfl (show decode cX2_clear 5 = .ok (.aload_n 0, 1) by decide +kernel) rfl ?_
  refine am_r_iconst (nx := 7) (show decode cX2_clear 6 = .ok (.iconst 0, 1) by decide +kernel) rfl ?_
  refine am_r_putI (nx := 10) 3 cw2 (by decide) rfl (Or.inl fl_X2_37) (obM hc1) rfl (Or.inl rfl) (show decode cX2_clear 7 = .ok (.putfield 37, 3) by decide +kernel) rfl ?_
  exact k
theorem S_X2_clear_10 {G : am_G} {d : Nat} {Q : am_D → Prop} {σ : am_D} {v0 : Nat} (hc1 : am_isM v0) (k : am_X (am_FV G (d + 1) Q) mX2_clear (0, 0) 15 [some (am_r (some v0))] [] (am_K0, (am_pI σ v0 4 0))) : am_X (am_FV G (d + 1) Q) mX2_clear (0, 0) 10 [some (am_r (some v0))] [] (am_K0, σ) := by
  refine am_r_aload_n (nx := 11) rfl rfl (show decode cX2_clear 10 = .ok (.aload_n 0, 1) by decide +kernel) rfl ?_
  refine am_r_iconst (nx := 12) (show decode cX2_clear 11 = .ok (.iconst 0, 1) by decide +kernel) rfl ?_
  refine am_r_putI (nx := 15) 4 cw2 (by decide) rfl (Or.inl fl_X2_40) (obM hc1) rfl (Or.inl rfl) (show decode cX2_clear 12 = .ok (.putfield 40, 3) by decide +kernel) rfl ?_
  exact k
theorem S_X2_clear_15 {G : am_G} {d : Nat} {Q : am_D → Prop} {σ : am_D} {v0 : Nat} (hc1 : am_isM v0) (k : am_X (am_FV G (d + 1) Q) mX2_clear (0, 0) 20 [some (am_r (some v0))] [] (am_K0, (am_pI σ v0 5 0))) : am_X (am_FV G (d + 1) Q) mX2_clear (0, 0) 15 [some (am_r (some v0))] [] (am_K0, σ) := by
  refine am_r_aload_n (nx := 16) rfl rfl (show decode cX2_clear 15 = .ok (.aload_n 0, 1) by decide +kernel) rfl ?_
  refine am_r_iconst (nx := 17) (show decode cX2_clear 16 = .ok (.iconst 0, 1) by decide +kernel) rfl ?_
  refine am_r_putI (nx := 20) 5 cw2 (by decide) rfl (Or.inl fl_X2_43) (obM hc1) rfl (Or.inl rfl) (show decode cX2_clear 17 = .ok (.putfield 43, 3) by decide +kernel) rfl ?_
  exact k
theorem S_X2_clear_20 {G : am_G} {d : Nat} {Q : am_D → Prop} {σ : am_D} {v0 : Nat} (hc1 : am_isM v0) (k : am_X (am_FV G (d + 1) Q) mX2_clear (0, 0) 25 [some (am_r (some v0))] [] (am_K0, (am_pI σ v0 6 0))) : am_X (am_FV G (d + 1) Q) mX2_clear (0, 0) 20 [some (am_r (some v0))] [] (am_K0, σ) := by
  refine am_r_aload_n (nx := 21) rfl rfl (show decode cX2_clear 20 = .ok (.aload_n 0, 1) by decide +kernel) rfl ?_
  refine am_r_iconst (nx := 22) (show decode cX2_clear 21 = .ok (.iconst 0, 1) by decide +kernel) rfl ?_
  refine am_r_putI (nx := 25) 6 cw2 (by decide) rfl (Or.inl fl_X2_46) (obM hc1) rfl (Or.inl rfl) (show decode cX2_clear 22 = .ok (.putfield 46, 3) by decide +kernel) rfl ?_
  exact k
theorem S_X2_clear_25 {G : am_G} {d : Nat} {Q : am_D → Prop} {σ : am_D} {v0 : Nat} (hc1 : am_isM v0) (k : am_X (am_FV G (d + 1) Q) mX2_clear (0, 0) 30 [some (am_r (some v0))] [] (am_K0, (am_pI σ v0 14 0))) : am_X (am_FV G (d + 1) Q) mX2_clear (0, 0) 25 [some (am_r (some v0))] [] (am_K0, σ) := by
  refine am_r_aload_n (nx := 26) rfl rfl (show decode cX2_clear 25 = .ok (.aload_n 0, 1) by decide +kernel) rfl ?_
  refine am_r_iconst (nx := 27) (show decode cX2_clear 26 = .ok (.iconst 0, 1) by decide +kernel) rfl ?_
  refine am_r_putI (nx := 30) 14 cw2 (by decide) rfl (Or.inl fl_X2_49) (obM hc1) rfl (Or.inl rfl) (show decode cX2_clear 27 = .ok (.putfield 49, 3) by decide +kernel) rfl ?_
  exact k
theorem S_X2_clear_30 {G : am_G} {d : Nat} {Q : am_D → Prop} {σ : am_D} {v0 : Nat} (hc1 : am_isM v0) (k : am_X (am_FV G (d + 1) Q) mX2_clear (0, 0) 35 [some (am_r (some v0))] [] (am_K0, (am_pI σ v0 15 0))) : am_X (am_FV G (d + 1) Q) mX2_clear (0, 0) 30 [some (am_r (some v0))] [] (am_K0, σ) := by
  refine am_r_aload_n (nx := 31) rfl rfl (show decode cX2_clear 30 = .ok (.aload_n 0, 1) by decide +kernel) rfl ?_
  refine am_r_iconst (nx := 32) (show decode cX2_clear 31 = .ok (.iconst 0, 1) by decide +kernel) rfl ?_
  refine am_r_putI (nx := 35) 15 cw2 (by decide) rfl (Or.inl fl_X2_52) (obM hc1) rfl (Or.inl rfl) (show decode cX2_clear 32 = .ok (.putfield 52, 3) by decide +kernel) rfl ?_
  exact k
theorem S_X2_clear_35 {G : am_G} {d : Nat} {Q : am_D → Prop} {σ : am_D} {v0 : Nat} {Q' : am_D → Prop} (hc1 : am_isM v0) (hc : am_MV G d mJ7_fill_53178 [am_r (some (v0 + 1)), am_i (-1)] σ Q') (k : ∀ σ' : am_D, Q' σ' → am_X (am_FV G (d + 1) Q) mX2_clear (0, 0) 43 [some (am_r (some v0))] [] (am_K0, σ')) : am_X (am_FV G (d + 1) Q) mX2_clear (0, 0) 35 [some (am_r (some v0))] [] (am_K0, σ) := by
  refine am_r_aload_n (nx := 36) rfl rfl (show decode cX2_clear 35 = .ok (.aload_n 0, 1) by decide +kernel) rfl ?_
  refine am_r_getF (nx := 39) 7 cw2 (by decide) rfl (Or.inl fl_X2_9) (obM hc1) (fnM7 hc1) (show decode cX2_clear 36 = .ok (.getfield 9, 3) by decide +kernel) rfl ?_
  refine am_r_iconst (nx := 40) (show decode cX2_clear 39 = .ok (.iconst (-1), 1) by decide +kernel) rfl ?_
  refine am_r_callS (as := [am_r (some (v0 + 1)), am_i (-1)]) (st := []) hc mb_J7_fill_53178 mv_J7_fill_53178 (Or.inl ml_X2_55) rfl rfl (Nat.le_of_ble_eq_true rfl) ⟨Nat.le_refl _, Nat.le_refl _⟩ ⟨Nat.le_refl _, Nat.le_refl _⟩ (show decode cX2_clear 40 = .ok (.invokestatic 55, 3) by decide +kernel) ?_
  rintro _ _ ⟨σ', rfl, rfl, hq⟩ _
  exact (k σ' hq)
theorem S_X2_clear_43 {G : am_G} {d : Nat} {Q : am_D → Prop} {σ : am_D} {v0 : Nat} {Q' : am_D → Prop} (hc1 : am_isM v0) (hc : am_MV G d mJ7_fill_53178 [am_r (some (v0 + 3)), am_i (-1)] σ Q') (k : ∀ σ' : am_D, Q' σ' → am_X (am_FV G (d + 1) Q) mX2_clear (0, 0) 51 [some (am_r (some v0))] [] (am_K0, σ')) : am_X (am_FV G (d + 1) Q) mX2_clear (0, 0) 43 [some (am_r (some v0))] [] (am_K0, σ) := by
  refine am_r_aload_n (nx := 44) rfl rfl (show decode cX2_clear 43 = .ok (.aload_n 0, 1) by decide +kernel) rfl ?_
  refine am_r_getF (nx := 47) 9 cw2 (by decide) rfl (Or.inl fl_X2_18) (obM hc1) (fnM9 hc1) (show decode cX2_clear 44 = .ok (.getfield 18, 3) by decide +kernel) rfl ?_
  refine am_r_iconst (nx := 48) (show decode cX2_clear 47 = .ok (.iconst (-1), 1) by decide +kernel) rfl ?_
  refine am_r_callS (as := [am_r (some (v0 + 3)), am_i (-1)]) (st := []) hc mb_J7_fill_53178 mv_J7_fill_53178 (Or.inl ml_X2_55) rfl rfl (Nat.le_of_ble_eq_true rfl) ⟨Nat.le_refl _, Nat.le_refl _⟩ ⟨Nat.le_refl _, Nat.le_refl _⟩ (show decode cX2_clear 48 = .ok (.invokestatic 55, 3) by decide +kernel) ?_
  rintro _ _ ⟨σ', rfl, rfl, hq⟩ _
  exact (k σ' hq)
theorem S_X2_clear_51 {G : am_G} {d : Nat} {Q : am_D → Prop} {σ : am_D} {v0 : Nat} {Q' : am_D → Prop} (hc1 : am_isM v0) (hc : am_MV G d mJ7_fill_53178 [am_r (some (v0 + 5)), am_i (-1)] σ Q') (k : ∀ σ' : am_D, Q' σ' → am_X (am_FV G (d + 1) Q) mX2_clear (0, 0) 59 [none] [] (am_K0, σ')) : am_X (am_FV G (d + 1) Q) mX2_clear (0, 0) 51 [some (am_r (some v0))] [] (am_K0, σ) := by
  refine am_r_aload_n (nx := 52) rfl rfl (show decode cX2_clear 51 = .ok (.aload_n 0, 1) by decide +kernel) rfl ?_
  refine am_r_getF (nx := 55) 11 cw2 (by decide) rfl (Or.inl fl_X2_24) (obM hc1) (fnM11 hc1) (show decode cX2_clear 52 = .ok (.getfield 24, 3) by decide +kernel) rfl ?_
  refine am_r_iconst (nx := 56) (show decode cX2_clear 55 = .ok (.iconst (-1), 1) by decide +kernel) rfl ?_
  refine am_r_callS (as := [am_r (some (v0 + 5)), am_i (-1)]) (st := []) hc mb_J7_fill_53178 mv_J7_fill_53178 (Or.inl ml_X2_55) rfl rfl (Nat.le_of_ble_eq_true rfl) ⟨Nat.le_refl _, Nat.le_refl _⟩ ⟨Nat.le_refl _, Nat.le_refl _⟩ (show decode cX2_clear 56 = .ok (.invokestatic 55, 3) by decide +kernel) ?_
  rintro _ _ ⟨σ', rfl, rfl, hq⟩ _
  exact am_x_fg [0] (k σ' hq)
theorem S_X2_clear_59 {G : am_G} {d : Nat} {Q : am_D → Prop} {σ : am_D}   (k : Q σ) : am_X (am_FV G (d + 1) Q) mX2_clear (0, 0) 59 [none] [] (am_K0, σ) := by
  exact am_r_vret rfl (show decode cX2_clear 59 = .ok (.return_, 1) by decide +kernel) ⟨_, rfl, rfl, k⟩
theorem S_X2_rules_0 {G : am_G} {d : Nat} {Q : Int → am_D → Prop} {σ : am_D} {v0 : Nat} (hc1 : am_isM v0) (k : Q (((σ.1 v0 2) + (σ.1 v0 3)) + (σ.1 v0 4)) σ) : am_X (am_FI G (d + 1) Q) mX2_rules (0, 0) 0 [some (am_r (some v0))] [] (am_K0, σ) := by
  refine am_r_aload_n (nx := 1) rfl rfl (show decode cX2_rules 0 = .ok (.aload_n 0, 1) by decide +kernel) rfl ?_
  refine am_r_getI (nx := 4) 2 cw2 (by decide) rfl (Or.inl fl_X2_33) (obM hc1) (show decode cX2_rules 1 = .ok (.getfield 33, 3) by decide +kernel) rfl ?_
  refine am_r_aload_n (nx := 5) rfl rfl (show decode cX2_rules 4 = .ok (.aload_n 0, 1) by decide +kernel) rfl ?_
  refine am_r_getI (nx := 8) 3 cw2 (by decide) rfl (Or.inl fl_X2_37) (obM hc1) (show decode cX2_rules 5 = .ok (.getfield 37, 3) by decide +kernel) rfl ?_
  refine am_r_iadd (nx := 9) (show decode cX2_rules 8 = .ok (.iadd, 1) by decide +kernel) rfl ?_
  refine am_r_aload_n (nx := 10) rfl rfl (show decode cX2_rules 9 = .ok (.aload_n 0, 1) by decide +kernel) rfl ?_
  refine am_r_getI (nx := 13) 4 cw2 (by decide) rfl (Or.inl fl_X2_40) (obM hc1) (show decode cX2_rules 10 = .ok (.getfield 40, 3) by decide +kernel) rfl ?_
  refine am_r_iadd (nx := 14) (show decode cX2_rules 13 = .ok (.iadd, 1) by decide +kernel) rfl ?_
  exact am_r_iret rfl rfl (show decode cX2_rules 14 = .ok (.ireturn, 1) by decide +kernel) ⟨_, _, rfl, rfl, k⟩
theorem S_X2_opensTo_0 {G : am_G} {d : Nat} {Q : Int → am_D → Prop} {σ : am_D} {v1 : Int} {v2 : Int} {v0 : Option Nat}  (k : am_X (am_FI G (d + 1) Q) mX2_opensTo (0, 0) 7 [some (am_r v0), none, none, some (am_i ((v1 * 6) + v2))] [] (am_K0, σ)) : am_X (am_FI G (d + 1) Q) mX2_opensTo (0, 0) 0 [some (am_r v0), some (am_i v1), some (am_i v2), none] [] (am_K0, σ) := by
  refine am_r_iload_n (nx := 1) rfl rfl (show decode cX2_opensTo 0 = .ok (.iload_n 1, 1) by decide +kernel) rfl ?_
  refine am_r_bipush (nx := 3) rfl (show decode cX2_opensTo 1 = .ok (.bipush 6, 2) by decide +kernel) rfl ?_
  refine am_r_imul (nx := 4) (show decode cX2_opensTo 3 = .ok (.imul, 1) by decide +kernel) rfl ?_
  refine am_r_iload_n (nx := 5) rfl rfl (show decode cX2_opensTo 4 = .ok (.iload_n 2, 1) by decide +kernel) rfl ?_
  refine am_r_iadd (nx := 6) (show decode cX2_opensTo 5 = .ok (.iadd, 1) by decide +kernel) rfl ?_
  refine am_r_istore_n (nx := 7) rfl (by decide) rfl (show decode cX2_opensTo 6 = .ok (.istore_n 3, 1) by decide +kernel) rfl ?_
  exact am_x_fg [1, 2] k
theorem S_X2_opensTo_7 {G : am_G} {d : Nat} {Q : Int → am_D → Prop} {σ : am_D} {v3 : Int} {v0 : Option Nat} (hr1 : -2147483648 ≤ v3 ∧ v3 ≤ 2147483647) (k1 : v3 < 0 → am_X (am_FI G (d + 1) Q) mX2_opensTo (0, 0) 29 [none, none, none, none] [] (am_K0, σ)) (k2 : ¬ (v3 < 0) → am_X (am_FI G (d + 1) Q) mX2_opensTo (0, 0) 11 [some (am_r v0), none, none, some (am_i v3)] [] (am_K0, σ)) : am_X (am_FI G (d + 1) Q) mX2_opensTo (0, 0) 7 [some (am_r v0), none, none, some (am_i v3)] [] (am_K0, σ) := by
  refine am_r_iload_n (nx := 8) rfl rfl (show decode cX2_opensTo 7 = .ok (.iload_n 3, 1) by decide +kernel) rfl ?_
  refine am_r_if_lt (tg := 29) (nx := 11) (show decode cX2_opensTo 8 = .ok (.ifCond .lt 21, 3) by decide +kernel) (by decide) rfl hr1 ?_ ?_
  · exact fun q => am_x_fg [0, 3] (k1 q)
  · exact fun q => k2 q
theorem S_X2_opensTo_11 {G : am_G} {d : Nat} {Q : Int → am_D → Prop} {σ : am_D} {v3 : Int} {v0 : Nat} (hc1 : am_isM v0) (hr2 : -2147483648 ≤ v3 ∧ v3 ≤ 2147483647) (k1 : 18 ≤ v3 → am_X (am_FI G (d + 1) Q) mX2_opensTo (0, 0) 29 [none, none, none, none] [] (am_K0, σ)) (k2 : ¬ (18 ≤ v3) → am_X (am_FI G (d + 1) Q) mX2_opensTo (0, 0) 20 [some (am_r (some v0)), none, none, some (am_i v3)] [] (am_K0, σ)) : am_X (am_FI G (d + 1) Q) mX2_opensTo (0, 0) 11 [some (am_r (some v0)), none, none, some (am_i v3)] [] (am_K0, σ) := by
  refine am_r_iload_n (nx := 12) rfl rfl (show decode cX2_opensTo 11 = .ok (.iload_n 3, 1) by decide +kernel) rfl ?_
  refine am_r_aload_n (nx := 13) rfl rfl (show decode cX2_opensTo 12 = .ok (.aload_n 0, 1) by decide +kernel) rfl ?_
  refine am_r_getF (nx := 16) 7 cw2 (by decide) rfl (Or.inl fl_X2_9) (obM hc1) (fnM7 hc1) (show decode cX2_opensTo 13 = .ok (.getfield 9, 3) by decide +kernel) rfl ?_
  refine am_r_alen (nx := 17) ((shM1 hc1)) (by omega) (by omega) (show decode cX2_opensTo 16 = .ok (.arraylength, 1) by decide +kernel) rfl ?_
  refine am_r_icmp_ge (tg := 29) (nx := 20) (show decode cX2_opensTo 17 = .ok (.if_icmp .ge 12, 3) by decide +kernel) (by decide) rfl hr2 (by omega) ?_ ?_
  · exact fun q => am_x_fg [0, 3] (k1 q)
  · exact fun q => k2 q
theorem S_X2_opensTo_20 {G : am_G} {d : Nat} {Q : Int → am_D → Prop} {σ : am_D} {v3 : Int} {v0 : Nat} (hc1 : am_isM v0) (hi2 : 0 ≤ v3) (hj3 : v3 < 18) (k : am_X (am_FI G (d + 1) Q) mX2_opensTo (0, 0) 30 [none, none, none, none] [am_i (σ.1 (v0 + 1) v3)] (am_K0, σ)) : am_X (am_FI G (d + 1) Q) mX2_opensTo (0, 0) 20 [some (am_r (some v0)), none, none, some (am_i v3)] [] (am_K0, σ) := by
  refine am_r_aload_n (nx := 21) rfl rfl (show decode cX2_opensTo 20 = .ok (.aload_n 0, 1) by decide +kernel) rfl ?_
  refine am_r_getF (nx := 24) 7 cw2 (by decide) rfl (Or.inl fl_X2_9) (obM hc1) (fnM7 hc1) (show decode cX2_opensTo 21 = .ok (.getfield 9, 3) by decide +kernel) rfl ?_
  refine am_r_iload_n (nx := 25) rfl rfl (show decode cX2_opensTo 24 = .ok (.iload_n 3, 1) by decide +kernel) rfl ?_
  refine am_r_iald (nx := 26) ((shM1 hc1)) (am_shle ((shM1 hc1))) hi2 hj3 (show decode cX2_opensTo 25 = .ok (.iaload, 1) by decide +kernel) rfl ?_
  refine am_r_goto (tg := 30) (show decode cX2_opensTo 26 = .ok (.goto 4, 3) by decide +kernel) (by decide) ?_
  exact am_x_fg [0, 3] k
theorem S_X2_opensTo_29 {G : am_G} {d : Nat} {Q : Int → am_D → Prop} {σ : am_D}   (k : am_X (am_FI G (d + 1) Q) mX2_opensTo (0, 0) 30 [none, none, none, none] [am_i (-1)] (am_K0, σ)) : am_X (am_FI G (d + 1) Q) mX2_opensTo (0, 0) 29 [none, none, none, none] [] (am_K0, σ) := by
  refine am_r_iconst (nx := 30) (show decode cX2_opensTo 29 = .ok (.iconst (-1), 1) by decide +kernel) rfl ?_
  exact k
theorem S_X2_opensTo_30 {G : am_G} {d : Nat} {Q : Int → am_D → Prop} {σ : am_D} {s0 : Int}  (k : Q s0 σ) : am_X (am_FI G (d + 1) Q) mX2_opensTo (0, 0) 30 [none, none, none, none] [am_i s0] (am_K0, σ) := by
  exact am_r_iret rfl rfl (show decode cX2_opensTo 30 = .ok (.ireturn, 1) by decide +kernel) ⟨_, _, rfl, rfl, k⟩
theorem S_X2_lays_0 {G : am_G} {d : Nat} {Q : Int → am_D → Prop} {σ : am_D} {v1 : Int} {v2 : Int} {v0 : Option Nat}  (k : am_X (am_FI G (d + 1) Q) mX2_lays (0, 0) 7 [some (am_r v0), none, none, some (am_i ((v1 * 6) + v2))] [] (am_K0, σ)) : am_X (am_FI G (d + 1) Q) mX2_lays (0, 0) 0 [some (am_r v0), some (am_i v1), some (am_i v2), none] [] (am_K0, σ) := by
  refine am_r_iload_n (nx := 1) rfl rfl (show decode cX2_lays 0 = .ok (.iload_n 1, 1) by decide +kernel) rfl ?_
  refine am_r_bipush (nx := 3) rfl (show decode cX2_lays 1 = .ok (.bipush 6, 2) by decide +kernel) rfl ?_
  refine am_r_imul (nx := 4) (show decode cX2_lays 3 = .ok (.imul, 1) by decide +kernel) rfl ?_
  refine am_r_iload_n (nx := 5) rfl rfl (show decode cX2_lays 4 = .ok (.iload_n 2, 1) by decide +kernel) rfl ?_
  refine am_r_iadd (nx := 6) (show decode cX2_lays 5 = .ok (.iadd, 1) by decide +kernel) rfl ?_
  refine am_r_istore_n (nx := 7) rfl (by decide) rfl (show decode cX2_lays 6 = .ok (.istore_n 3, 1) by decide +kernel) rfl ?_
  exact am_x_fg [1, 2] k
theorem S_X2_lays_7 {G : am_G} {d : Nat} {Q : Int → am_D → Prop} {σ : am_D} {v3 : Int} {v0 : Option Nat} (hr1 : -2147483648 ≤ v3 ∧ v3 ≤ 2147483647) (k1 : v3 < 0 → am_X (am_FI G (d + 1) Q) mX2_lays (0, 0) 29 [none, none, none, none] [] (am_K0, σ)) (k2 : ¬ (v3 < 0) → am_X (am_FI G (d + 1) Q) mX2_lays (0, 0) 11 [some (am_r v0), none, none, some (am_i v3)] [] (am_K0, σ)) : am_X (am_FI G (d + 1) Q) mX2_lays (0, 0) 7 [some (am_r v0), none, none, some (am_i v3)] [] (am_K0, σ) := by
  refine am_r_iload_n (nx := 8) rfl rfl (show decode cX2_lays 7 = .ok (.iload_n 3, 1) by decide +kernel) rfl ?_
  refine am_r_if_lt (tg := 29) (nx := 11) (show decode cX2_lays 8 = .ok (.ifCond .lt 21, 3) by decide +kernel) (by decide) rfl hr1 ?_ ?_
  · exact fun q => am_x_fg [0, 3] (k1 q)
  · exact fun q => k2 q
theorem S_X2_lays_11 {G : am_G} {d : Nat} {Q : Int → am_D → Prop} {σ : am_D} {v3 : Int} {v0 : Nat} (hc1 : am_isM v0) (hr2 : -2147483648 ≤ v3 ∧ v3 ≤ 2147483647) (k1 : 18 ≤ v3 → am_X (am_FI G (d + 1) Q) mX2_lays (0, 0) 29 [none, none, none, none] [] (am_K0, σ)) (k2 : ¬ (18 ≤ v3) → am_X (am_FI G (d + 1) Q) mX2_lays (0, 0) 20 [some (am_r (some v0)), none, none, some (am_i v3)] [] (am_K0, σ)) : am_X (am_FI G (d + 1) Q) mX2_lays (0, 0) 11 [some (am_r (some v0)), none, none, some (am_i v3)] [] (am_K0, σ) := by
  refine am_r_iload_n (nx := 12) rfl rfl (show decode cX2_lays 11 = .ok (.iload_n 3, 1) by decide +kernel) rfl ?_
  refine am_r_aload_n (nx := 13) rfl rfl (show decode cX2_lays 12 = .ok (.aload_n 0, 1) by decide +kernel) rfl ?_
  refine am_r_getF (nx := 16) 8 cw2 (by decide) rfl (Or.inl fl_X2_15) (obM hc1) (fnM8 hc1) (show decode cX2_lays 13 = .ok (.getfield 15, 3) by decide +kernel) rfl ?_
  refine am_r_alen (nx := 17) ((shM2 hc1)) (by omega) (by omega) (show decode cX2_lays 16 = .ok (.arraylength, 1) by decide +kernel) rfl ?_
  refine am_r_icmp_ge (tg := 29) (nx := 20) (show decode cX2_lays 17 = .ok (.if_icmp .ge 12, 3) by decide +kernel) (by decide) rfl hr2 (by omega) ?_ ?_
  · exact fun q => am_x_fg [0, 3] (k1 q)
  · exact fun q => k2 q
theorem S_X2_lays_20 {G : am_G} {d : Nat} {Q : Int → am_D → Prop} {σ : am_D} {v3 : Int} {v0 : Nat} (hc1 : am_isM v0) (hi2 : 0 ≤ v3) (hj3 : v3 < 18) (k : am_X (am_FI G (d + 1) Q) mX2_lays (0, 0) 30 [none, none, none, none] [am_i (σ.1 (v0 + 2) v3)] (am_K0, σ)) : am_X (am_FI G (d + 1) Q) mX2_lays (0, 0) 20 [some (am_r (some v0)), none, none, some (am_i v3)] [] (am_K0, σ) := by
  refine am_r_aload_n (nx := 21) rfl rfl (show decode cX2_lays 20 = .ok (.aload_n 0, 1) by decide +kernel) rfl ?_
  refine am_r_getF (nx := 24) 8 cw2 (by decide) rfl (Or.inl fl_X2_15) (obM hc1) (fnM8 hc1) (show decode cX2_lays 21 = .ok (.getfield 15, 3) by decide +kernel) rfl ?_
  refine am_r_iload_n (nx := 25) rfl rfl (show decode cX2_lays 24 = .ok (.iload_n 3, 1) by decide +kernel) rfl ?_
  refine am_r_iald (nx := 26) ((shM2 hc1)) (am_shle ((shM2 hc1))) hi2 hj3 (show decode cX2_lays 25 = .ok (.iaload, 1) by decide +kernel) rfl ?_
  refine am_r_goto (tg := 30) (show decode cX2_lays 26 = .ok (.goto 4, 3) by decide +kernel) (by decide) ?_
  exact am_x_fg [0, 3] k
theorem S_X2_lays_29 {G : am_G} {d : Nat} {Q : Int → am_D → Prop} {σ : am_D}   (k : am_X (am_FI G (d + 1) Q) mX2_lays (0, 0) 30 [none, none, none, none] [am_i (-1)] (am_K0, σ)) : am_X (am_FI G (d + 1) Q) mX2_lays (0, 0) 29 [none, none, none, none] [] (am_K0, σ) := by
  refine am_r_iconst (nx := 30) (show decode cX2_lays 29 = .ok (.iconst (-1), 1) by decide +kernel) rfl ?_
  exact k
theorem S_X2_lays_30 {G : am_G} {d : Nat} {Q : Int → am_D → Prop} {σ : am_D} {s0 : Int}  (k : Q s0 σ) : am_X (am_FI G (d + 1) Q) mX2_lays (0, 0) 30 [none, none, none, none] [am_i s0] (am_K0, σ) := by
  exact am_r_iret rfl rfl (show decode cX2_lays 30 = .ok (.ireturn, 1) by decide +kernel) ⟨_, _, rfl, rfl, k⟩
theorem S_X2_closesTo_0 {G : am_G} {d : Nat} {Q : Int → am_D → Prop} {σ : am_D} {v1 : Int} {v2 : Int} {v0 : Option Nat}  (k : am_X (am_FI G (d + 1) Q) mX2_closesTo (0, 0) 7 [some (am_r v0), none, none, some (am_i ((v1 * 6) + v2))] [] (am_K0, σ)) : am_X (am_FI G (d + 1) Q) mX2_closesTo (0, 0) 0 [some (am_r v0), some (am_i v1), some (am_i v2), none] [] (am_K0, σ) := by
  refine am_r_iload_n (nx := 1) rfl rfl (show decode cX2_closesTo 0 = .ok (.iload_n 1, 1) by decide +kernel) rfl ?_
  refine am_r_bipush (nx := 3) rfl (show decode cX2_closesTo 1 = .ok (.bipush 6, 2) by decide +kernel) rfl ?_
  refine am_r_imul (nx := 4) (show decode cX2_closesTo 3 = .ok (.imul, 1) by decide +kernel) rfl ?_
  refine am_r_iload_n (nx := 5) rfl rfl (show decode cX2_closesTo 4 = .ok (.iload_n 2, 1) by decide +kernel) rfl ?_
  refine am_r_iadd (nx := 6) (show decode cX2_closesTo 5 = .ok (.iadd, 1) by decide +kernel) rfl ?_
  refine am_r_istore_n (nx := 7) rfl (by decide) rfl (show decode cX2_closesTo 6 = .ok (.istore_n 3, 1) by decide +kernel) rfl ?_
  exact am_x_fg [1, 2] k
theorem S_X2_closesTo_7 {G : am_G} {d : Nat} {Q : Int → am_D → Prop} {σ : am_D} {v3 : Int} {v0 : Option Nat} (hr1 : -2147483648 ≤ v3 ∧ v3 ≤ 2147483647) (k1 : v3 < 0 → am_X (am_FI G (d + 1) Q) mX2_closesTo (0, 0) 29 [none, none, none, none] [] (am_K0, σ)) (k2 : ¬ (v3 < 0) → am_X (am_FI G (d + 1) Q) mX2_closesTo (0, 0) 11 [some (am_r v0), none, none, some (am_i v3)] [] (am_K0, σ)) : am_X (am_FI G (d + 1) Q) mX2_closesTo (0, 0) 7 [some (am_r v0), none, none, some (am_i v3)] [] (am_K0, σ) := by
  refine am_r_iload_n (nx := 8) rfl rfl (show decode cX2_closesTo 7 = .ok (.iload_n 3, 1) by decide +kernel) rfl ?_
  refine am_r_if_lt (tg := 29) (nx := 11) (show decode cX2_closesTo 8 = .ok (.ifCond .lt 21, 3) by decide +kernel) (by decide) rfl hr1 ?_ ?_
  · exact fun q => am_x_fg [0, 3] (k1 q)
  · exact fun q => k2 q
theorem S_X2_closesTo_11 {G : am_G} {d : Nat} {Q : Int → am_D → Prop} {σ : am_D} {v3 : Int} {v0 : Nat} (hc1 : am_isM v0) (hr2 : -2147483648 ≤ v3 ∧ v3 ≤ 2147483647) (k1 : 108 ≤ v3 → am_X (am_FI G (d + 1) Q) mX2_closesTo (0, 0) 29 [none, none, none, none] [] (am_K0, σ)) (k2 : ¬ (108 ≤ v3) → am_X (am_FI G (d + 1) Q) mX2_closesTo (0, 0) 20 [some (am_r (some v0)), none, none, some (am_i v3)] [] (am_K0, σ)) : am_X (am_FI G (d + 1) Q) mX2_closesTo (0, 0) 11 [some (am_r (some v0)), none, none, some (am_i v3)] [] (am_K0, σ) := by
  refine am_r_iload_n (nx := 12) rfl rfl (show decode cX2_closesTo 11 = .ok (.iload_n 3, 1) by decide +kernel) rfl ?_
  refine am_r_aload_n (nx := 13) rfl rfl (show decode cX2_closesTo 12 = .ok (.aload_n 0, 1) by decide +kernel) rfl ?_
  refine am_r_getF (nx := 16) 9 cw2 (by decide) rfl (Or.inl fl_X2_18) (obM hc1) (fnM9 hc1) (show decode cX2_closesTo 13 = .ok (.getfield 18, 3) by decide +kernel) rfl ?_
  refine am_r_alen (nx := 17) ((shM3 hc1)) (by omega) (by omega) (show decode cX2_closesTo 16 = .ok (.arraylength, 1) by decide +kernel) rfl ?_
  refine am_r_icmp_ge (tg := 29) (nx := 20) (show decode cX2_closesTo 17 = .ok (.if_icmp .ge 12, 3) by decide +kernel) (by decide) rfl hr2 (by omega) ?_ ?_
  · exact fun q => am_x_fg [0, 3] (k1 q)
  · exact fun q => k2 q
theorem S_X2_closesTo_20 {G : am_G} {d : Nat} {Q : Int → am_D → Prop} {σ : am_D} {v3 : Int} {v0 : Nat} (hc1 : am_isM v0) (hi2 : 0 ≤ v3) (hj3 : v3 < 108) (k : am_X (am_FI G (d + 1) Q) mX2_closesTo (0, 0) 30 [none, none, none, none] [am_i (σ.1 (v0 + 3) v3)] (am_K0, σ)) : am_X (am_FI G (d + 1) Q) mX2_closesTo (0, 0) 20 [some (am_r (some v0)), none, none, some (am_i v3)] [] (am_K0, σ) := by
  refine am_r_aload_n (nx := 21) rfl rfl (show decode cX2_closesTo 20 = .ok (.aload_n 0, 1) by decide +kernel) rfl ?_
  refine am_r_getF (nx := 24) 9 cw2 (by decide) rfl (Or.inl fl_X2_18) (obM hc1) (fnM9 hc1) (show decode cX2_closesTo 21 = .ok (.getfield 18, 3) by decide +kernel) rfl ?_
  refine am_r_iload_n (nx := 25) rfl rfl (show decode cX2_closesTo 24 = .ok (.iload_n 3, 1) by decide +kernel) rfl ?_
  refine am_r_iald (nx := 26) ((shM3 hc1)) (am_shle ((shM3 hc1))) hi2 hj3 (show decode cX2_closesTo 25 = .ok (.iaload, 1) by decide +kernel) rfl ?_
  refine am_r_goto (tg := 30) (show decode cX2_closesTo 26 = .ok (.goto 4, 3) by decide +kernel) (by decide) ?_
  exact am_x_fg [0, 3] k
theorem S_X2_closesTo_29 {G : am_G} {d : Nat} {Q : Int → am_D → Prop} {σ : am_D}   (k : am_X (am_FI G (d + 1) Q) mX2_closesTo (0, 0) 30 [none, none, none, none] [am_i (-1)] (am_K0, σ)) : am_X (am_FI G (d + 1) Q) mX2_closesTo (0, 0) 29 [none, none, none, none] [] (am_K0, σ) := by
  refine am_r_iconst (nx := 30) (show decode cX2_closesTo 29 = .ok (.iconst (-1), 1) by decide +kernel) rfl ?_
  exact k
theorem S_X2_closesTo_30 {G : am_G} {d : Nat} {Q : Int → am_D → Prop} {σ : am_D} {s0 : Int}  (k : Q s0 σ) : am_X (am_FI G (d + 1) Q) mX2_closesTo (0, 0) 30 [none, none, none, none] [am_i s0] (am_K0, σ) := by
  exact am_r_iret rfl rfl (show decode cX2_closesTo 30 = .ok (.ireturn, 1) by decide +kernel) ⟨_, _, rfl, rfl, k⟩
theorem S_X2_closeTells_0 {G : am_G} {d : Nat} {Q : Int → am_D → Prop} {σ : am_D} {v1 : Int} {v2 : Int} {v0 : Nat} {Q' : Int → am_D → Prop} (hc1 : am_isM v0) (hc : am_MI G d mX10_at [am_r (some (v0 + 4)), am_i ((v1 * 6) + v2)] σ Q') (k : ∀ (x : Int) (σ' : am_D), Q' x σ' → Q x σ') : am_X (am_FI G (d + 1) Q) mX2_closeTells (0, 0) 0 [some (am_r (some v0)), some (am_i v1), some (am_i v2)] [] (am_K0, σ) := by
  refine am_r_aload_n (nx := 1) rfl rfl (show decode cX2_closeTells 0 = .ok (.aload_n 0, 1) by decide +kernel) rfl ?_
  refine am_r_getF (nx := 4) 10 cw2 (by decide) rfl (Or.inl fl_X2_21) (obM hc1) (fnM10 hc1) (show decode cX2_closeTells 1 = .ok (.getfield 21, 3) by decide +kernel) rfl ?_
  refine am_r_iload_n (nx := 5) rfl rfl (show decode cX2_closeTells 4 = .ok (.iload_n 1, 1) by decide +kernel) rfl ?_
  refine am_r_bipush (nx := 7) rfl (show decode cX2_closeTells 5 = .ok (.bipush 6, 2) by decide +kernel) rfl ?_
  refine am_r_imul (nx := 8) (show decode cX2_closeTells 7 = .ok (.imul, 1) by decide +kernel) rfl ?_
  refine am_r_iload_n (nx := 9) rfl rfl (show decode cX2_closeTells 8 = .ok (.iload_n 2, 1) by decide +kernel) rfl ?_
  refine am_r_iadd (nx := 10) (show decode cX2_closeTells 9 = .ok (.iadd, 1) by decide +kernel) rfl ?_
  refine am_r_callS (as := [am_r (some (v0 + 4)), am_i ((v1 * 6) + v2)]) (st := []) hc mb_X10_at mv_X10_at (Or.inr ⟨_, ml_X2_61⟩) rfl rfl (Nat.le_of_ble_eq_true rfl) ⟨Nat.le_refl _, Nat.le_refl _⟩ ⟨Nat.le_refl _, Nat.le_refl _⟩ (show decode cX2_closeTells 10 = .ok (.invokestatic 61, 3) by decide +kernel) ?_
  rintro _ _ ⟨x, σ', rfl, rfl, hq⟩ _
  exact am_r_iret rfl rfl (show decode cX2_closeTells 13 = .ok (.ireturn, 1) by decide +kernel) ⟨_, _, rfl, rfl, (k x σ' hq)⟩
theorem S_X2_endTells_0 {G : am_G} {d : Nat} {Q : Int → am_D → Prop} {σ : am_D} {v1 : Int} {v0 : Nat} {Q' : Int → am_D → Prop} (hc1 : am_isM v0) (hc : am_MI G d mX10_at [am_r (some (v0 + 5)), am_i v1] σ Q') (k : ∀ (x : Int) (σ' : am_D), Q' x σ' → Q x σ') : am_X (am_FI G (d + 1) Q) mX2_endTells (0, 0) 0 [some (am_r (some v0)), some (am_i v1)] [] (am_K0, σ) := by
  refine am_r_aload_n (nx := 1) rfl rfl (show decode cX2_endTells 0 = .ok (.aload_n 0, 1) by decide +kernel) rfl ?_
  refine am_r_getF (nx := 4) 11 cw2 (by decide) rfl (Or.inl fl_X2_24) (obM hc1) (fnM11 hc1) (show decode cX2_endTells 1 = .ok (.getfield 24, 3) by decide +kernel) rfl ?_
  refine am_r_iload_n (nx := 5) rfl rfl (show decode cX2_endTells 4 = .ok (.iload_n 1, 1) by decide +kernel) rfl ?_
  refine am_r_callS (as := [am_r (some (v0 + 5)), am_i v1]) (st := []) hc mb_X10_at mv_X10_at (Or.inr ⟨_, ml_X2_61⟩) rfl rfl (Nat.le_of_ble_eq_true rfl) ⟨Nat.le_refl _, Nat.le_refl _⟩ ⟨Nat.le_refl _, Nat.le_refl _⟩ (show decode cX2_endTells 5 = .ok (.invokestatic 61, 3) by decide +kernel) ?_
  rintro _ _ ⟨x, σ', rfl, rfl, hq⟩ _
  exact am_r_iret rfl rfl (show decode cX2_endTells 8 = .ok (.ireturn, 1) by decide +kernel) ⟨_, _, rfl, rfl, (k x σ' hq)⟩
theorem S_X2_addOpen_0 {G : am_G} {d : Nat} {Q : am_D → Prop} {σ : am_D} {v1 : Int} {v2 : Int} {v3 : Int} {v4 : Int} {v0 : Nat} {Q' : am_D → Prop} (hc1 : am_isM v0) (hc : am_MV G d mX10_put [am_r (some (v0 + 1)), am_i ((v1 * 6) + v2), am_i v3] σ Q') (k : ∀ σ' : am_D, Q' σ' → am_X (am_FV G (d + 1) Q) mX2_addOpen (0, 0) 14 [some (am_r (some v0)), some (am_i v1), some (am_i v2), none, some (am_i v4)] [] (am_K0, σ')) : am_X (am_FV G (d + 1) Q) mX2_addOpen (0, 0) 0 [some (am_r (some v0)), some (am_i v1), some (am_i v2), some (am_i v3), some (am_i v4)] [] (am_K0, σ) := by
  refine am_r_aload_n (nx := 1) rfl rfl (show decode cX2_addOpen 0 = .ok (.aload_n 0, 1) by decide +kernel) rfl ?_
  refine am_r_getF (nx := 4) 7 cw2 (by decide) rfl (Or.inl fl_X2_9) (obM hc1) (fnM7 hc1) (show decode cX2_addOpen 1 = .ok (.getfield 9, 3) by decide +kernel) rfl ?_
  refine am_r_iload_n (nx := 5) rfl rfl (show decode cX2_addOpen 4 = .ok (.iload_n 1, 1) by decide +kernel) rfl ?_
  refine am_r_bipush (nx := 7) rfl (show decode cX2_addOpen 5 = .ok (.bipush 6, 2) by decide +kernel) rfl ?_
  refine am_r_imul (nx := 8) (show decode cX2_addOpen 7 = .ok (.imul, 1) by decide +kernel) rfl ?_
  refine am_r_iload_n (nx := 9) rfl rfl (show decode cX2_addOpen 8 = .ok (.iload_n 2, 1) by decide +kernel) rfl ?_
  refine am_r_iadd (nx := 10) (show decode cX2_addOpen 9 = .ok (.iadd, 1) by decide +kernel) rfl ?_
  refine am_r_iload_n (nx := 11) rfl rfl (show decode cX2_addOpen 10 = .ok (.iload_n 3, 1) by decide +kernel) rfl ?_
  refine am_r_callS (as := [am_r (some (v0 + 1)), am_i ((v1 * 6) + v2), am_i v3]) (st := []) hc mb_X10_put mv_X10_put (Or.inr ⟨_, ml_X2_65⟩) rfl rfl (Nat.le_of_ble_eq_true rfl) ⟨Nat.le_refl _, Nat.le_refl _⟩ ⟨Nat.le_refl _, Nat.le_refl _⟩ (show decode cX2_addOpen 11 = .ok (.invokestatic 65, 3) by decide +kernel) ?_
  rintro _ _ ⟨σ', rfl, rfl, hq⟩ _
  exact am_x_fg [3] (k σ' hq)
theorem S_X2_addOpen_14 {G : am_G} {d : Nat} {Q : am_D → Prop} {σ : am_D} {v1 : Int} {v2 : Int} {v4 : Int} {v0 : Nat} {Q' : Int → am_D → Prop} (hc1 : am_isM v0) (hc : am_MI G d mX10_laying [am_i v1, am_i v4] σ Q') (k : ∀ (x : Int) (σ' : am_D), Q' x σ' → am_X (am_FV G (d + 1) Q) mX2_addOpen (0, 0) 30 [some (am_r (some v0)), none, none, none, none] [am_i x, am_i ((v1 * 6) + v2), am_r (some (v0 + 2))] (am_K0, σ')) : am_X (am_FV G (d + 1) Q) mX2_addOpen (0, 0) 14 [some (am_r (some v0)), some (am_i v1), some (am_i v2), none, some (am_i v4)] [] (am_K0, σ) := by
  refine am_r_aload_n (nx := 15) rfl rfl (show decode cX2_addOpen 14 = .ok (.aload_n 0, 1) by decide +kernel) rfl ?_
  refine am_r_getF (nx := 18) 8 cw2 (by decide) rfl (Or.inl fl_X2_15) (obM hc1) (fnM8 hc1) (show decode cX2_addOpen 15 = .ok (.getfield 15, 3) by decide +kernel) rfl ?_
  refine am_r_iload_n (nx := 19) rfl rfl (show decode cX2_addOpen 18 = .ok (.iload_n 1, 1) by decide +kernel) rfl ?_
  refine am_r_bipush (nx := 21) rfl (show decode cX2_addOpen 19 = .ok (.bipush 6, 2) by decide +kernel) rfl ?_
  refine am_r_imul (nx := 22) (show decode cX2_addOpen 21 = .ok (.imul, 1) by decide +kernel) rfl ?_
  refine am_r_iload_n (nx := 23) rfl rfl (show decode cX2_addOpen 22 = .ok (.iload_n 2, 1) by decide +kernel) rfl ?_
  refine am_r_iadd (nx := 24) (show decode cX2_addOpen 23 = .ok (.iadd, 1) by decide +kernel) rfl ?_
  refine am_r_iload_n (nx := 25) rfl rfl (show decode cX2_addOpen 24 = .ok (.iload_n 1, 1) by decide +kernel) rfl ?_
  refine am_r_iload (nx := 27) rfl (show decode cX2_addOpen 25 = .ok (.iload 4, 2) by decide +kernel) rfl ?_
  refine am_r_callS (as := [am_i v1, am_i v4]) (st := [am_i ((v1 * 6) + v2), am_r (some (v0 + 2))]) hc mb_X10_laying mv_X10_laying (Or.inr ⟨_, ml_X2_69⟩) rfl rfl (Nat.le_of_ble_eq_true rfl) ⟨Nat.le_refl _, Nat.le_refl _⟩ ⟨Nat.le_refl _, Nat.le_refl _⟩ (show decode cX2_addOpen 27 = .ok (.invokestatic 69, 3) by decide +kernel) ?_
  rintro _ _ ⟨x, σ', rfl, rfl, hq⟩ _
  exact am_x_fg [1, 2, 4] (k x σ' hq)
theorem S_X2_addOpen_30 {G : am_G} {d : Nat} {Q : am_D → Prop} {σ : am_D} {s1 : Int} {s2 : Int} {s0 : Option Nat} {Q' : am_D → Prop} {v0 : Option Nat} (hc : am_MV G d mX10_put [am_r s0, am_i s1, am_i s2] σ Q') (k : ∀ σ' : am_D, Q' σ' → am_X (am_FV G (d + 1) Q) mX2_addOpen (0, 0) 33 [some (am_r v0), none, none, none, none] [] (am_K0, σ')) : am_X (am_FV G (d + 1) Q) mX2_addOpen (0, 0) 30 [some (am_r v0), none, none, none, none] [am_i s2, am_i s1, am_r s0] (am_K0, σ) := by
  refine am_r_callS (as := [am_r s0, am_i s1, am_i s2]) (st := []) hc mb_X10_put mv_X10_put (Or.inr ⟨_, ml_X2_65⟩) rfl rfl (Nat.le_of_ble_eq_true rfl) ⟨Nat.le_refl _, Nat.le_refl _⟩ ⟨Nat.le_refl _, Nat.le_refl _⟩ (show decode cX2_addOpen 30 = .ok (.invokestatic 65, 3) by decide +kernel) ?_
  rintro _ _ ⟨σ', rfl, rfl, hq⟩ _
  exact (k σ' hq)
theorem S_X2_addOpen_33 {G : am_G} {d : Nat} {Q : am_D → Prop} {σ : am_D} {v0 : Nat} (hc1 : am_isM v0) (k : am_X (am_FV G (d + 1) Q) mX2_addOpen (0, 0) 43 [none, none, none, none, none] [] (am_K0, (am_pI σ v0 2 ((σ.1 v0 2) + 1)))) : am_X (am_FV G (d + 1) Q) mX2_addOpen (0, 0) 33 [some (am_r (some v0)), none, none, none, none] [] (am_K0, σ) := by
  refine am_r_aload_n (nx := 34) rfl rfl (show decode cX2_addOpen 33 = .ok (.aload_n 0, 1) by decide +kernel) rfl ?_
  refine am_r_dup (nx := 35) rfl (show decode cX2_addOpen 34 = .ok (.dup, 1) by decide +kernel) rfl ?_
  refine am_r_getI (nx := 38) 2 cw2 (by decide) rfl (Or.inl fl_X2_33) (obM hc1) (show decode cX2_addOpen 35 = .ok (.getfield 33, 3) by decide +kernel) rfl ?_
  refine am_r_iconst (nx := 39) (show decode cX2_addOpen 38 = .ok (.iconst 1, 1) by decide +kernel) rfl ?_
  refine am_r_iadd (nx := 40) (show decode cX2_addOpen 39 = .ok (.iadd, 1) by decide +kernel) rfl ?_
  refine am_r_putI (nx := 43) 2 cw2 (by decide) rfl (Or.inl fl_X2_33) (obM hc1) rfl (Or.inl rfl) (show decode cX2_addOpen 40 = .ok (.putfield 33, 3) by decide +kernel) rfl ?_
  exact am_x_fg [0] k
theorem S_X2_addOpen_43 {G : am_G} {d : Nat} {Q : am_D → Prop} {σ : am_D}   (k : Q σ) : am_X (am_FV G (d + 1) Q) mX2_addOpen (0, 0) 43 [none, none, none, none, none] [] (am_K0, σ) := by
  exact am_r_vret rfl (show decode cX2_addOpen 43 = .ok (.return_, 1) by decide +kernel) ⟨_, rfl, rfl, k⟩
theorem S_X2_addClose_0 {G : am_G} {d : Nat} {Q : am_D → Prop} {σ : am_D} {v1 : Int} {v2 : Int} {v3 : Int} {v0 : Nat} {Q' : am_D → Prop} (hc1 : am_isM v0) (hc : am_MV G d mX10_put [am_r (some (v0 + 3)), am_i ((v1 * 6) + v2), am_i v3] σ Q') (k : ∀ σ' : am_D, Q' σ' → am_X (am_FV G (d + 1) Q) mX2_addClose (0, 0) 14 [some (am_r (some v0)), some (am_i v1), some (am_i v2), none] [] (am_K0, σ')) : am_X (am_FV G (d + 1) Q) mX2_addClose (0, 0) 0 [some (am_r (some v0)), some (am_i v1), some (am_i v2), some (am_i v3)] [] (am_K0, σ) := by
  refine am_r_aload_n (nx := 1) rfl rfl (show decode cX2_addClose 0 = .ok (.aload_n 0, 1) by decide +kernel) rfl ?_
  refine am_r_getF (nx := 4) 9 cw2 (by decide) rfl (Or.inl fl_X2_18) (obM hc1) (fnM9 hc1) (show decode cX2_addClose 1 = .ok (.getfield 18, 3) by decide +kernel) rfl ?_
  refine am_r_iload_n (nx := 5) rfl rfl (show decode cX2_addClose 4 = .ok (.iload_n 1, 1) by decide +kernel) rfl ?_
  refine am_r_bipush (nx := 7) rfl (show decode cX2_addClose 5 = .ok (.bipush 6, 2) by decide +kernel) rfl ?_
  refine am_r_imul (nx := 8) (show decode cX2_addClose 7 = .ok (.imul, 1) by decide +kernel) rfl ?_
  refine am_r_iload_n (nx := 9) rfl rfl (show decode cX2_addClose 8 = .ok (.iload_n 2, 1) by decide +kernel) rfl ?_
  refine am_r_iadd (nx := 10) (show decode cX2_addClose 9 = .ok (.iadd, 1) by decide +kernel) rfl ?_
  refine am_r_iload_n (nx := 11) rfl rfl (show decode cX2_addClose 10 = .ok (.iload_n 3, 1) by decide +kernel) rfl ?_
  refine am_r_callS (as := [am_r (some (v0 + 3)), am_i ((v1 * 6) + v2), am_i v3]) (st := []) hc mb_X10_put mv_X10_put (Or.inr ⟨_, ml_X2_65⟩) rfl rfl (Nat.le_of_ble_eq_true rfl) ⟨Nat.le_refl _, Nat.le_refl _⟩ ⟨Nat.le_refl _, Nat.le_refl _⟩ (show decode cX2_addClose 11 = .ok (.invokestatic 65, 3) by decide +kernel) ?_
  rintro _ _ ⟨σ', rfl, rfl, hq⟩ _
  exact am_x_fg [3] (k σ' hq)
theorem S_X2_addClose_14 {G : am_G} {d : Nat} {Q : am_D → Prop} {σ : am_D} {v1 : Int} {v2 : Int} {v0 : Nat} {Q' : am_D → Prop} (hc1 : am_isM v0) (hc : am_MV G d mX10_put [am_r (some (v0 + 4)), am_i ((v1 * 6) + v2), am_i (σ.1 v0 14)] σ Q') (k : ∀ σ' : am_D, Q' σ' → am_X (am_FV G (d + 1) Q) mX2_addClose (0, 0) 31 [some (am_r (some v0)), none, none, none] [] (am_K0, σ')) : am_X (am_FV G (d + 1) Q) mX2_addClose (0, 0) 14 [some (am_r (some v0)), some (am_i v1), some (am_i v2), none] [] (am_K0, σ) := by
  refine am_r_aload_n (nx := 15) rfl rfl (show decode cX2_addClose 14 = .ok (.aload_n 0, 1) by decide +kernel) rfl ?_
  refine am_r_getF (nx := 18) 10 cw2 (by decide) rfl (Or.inl fl_X2_21) (obM hc1) (fnM10 hc1) (show decode cX2_addClose 15 = .ok (.getfield 21, 3) by decide +kernel) rfl ?_
  refine am_r_iload_n (nx := 19) rfl rfl (show decode cX2_addClose 18 = .ok (.iload_n 1, 1) by decide +kernel) rfl ?_
  refine am_r_bipush (nx := 21) rfl (show decode cX2_addClose 19 = .ok (.bipush 6, 2) by decide +kernel) rfl ?_
  refine am_r_imul (nx := 22) (show decode cX2_addClose 21 = .ok (.imul, 1) by decide +kernel) rfl ?_
  refine am_r_iload_n (nx := 23) rfl rfl (show decode cX2_addClose 22 = .ok (.iload_n 2, 1) by decide +kernel) rfl ?_
  refine am_r_iadd (nx := 24) (show decode cX2_addClose 23 = .ok (.iadd, 1) by decide +kernel) rfl ?_
  refine am_r_aload_n (nx := 25) rfl rfl (show decode cX2_addClose 24 = .ok (.aload_n 0, 1) by decide +kernel) rfl ?_
  refine am_r_getI (nx := 28) 14 cw2 (by decide) rfl (Or.inl fl_X2_49) (obM hc1) (show decode cX2_addClose 25 = .ok (.getfield 49, 3) by decide +kernel) rfl ?_
  refine am_r_callS (as := [am_r (some (v0 + 4)), am_i ((v1 * 6) + v2), am_i (σ.1 v0 14)]) (st := []) hc mb_X10_put mv_X10_put (Or.inr ⟨_, ml_X2_65⟩) rfl rfl (Nat.le_of_ble_eq_true rfl) ⟨Nat.le_refl _, Nat.le_refl _⟩ ⟨Nat.le_refl _, Nat.le_refl _⟩ (show decode cX2_addClose 28 = .ok (.invokestatic 65, 3) by decide +kernel) ?_
  rintro _ _ ⟨σ', rfl, rfl, hq⟩ _
  exact am_x_fg [1, 2] (k σ' hq)
theorem S_X2_addClose_31 {G : am_G} {d : Nat} {Q : am_D → Prop} {σ : am_D} {v0 : Nat} (hc1 : am_isM v0) (k : am_X (am_FV G (d + 1) Q) mX2_addClose (0, 0) 41 [none, none, none, none] [] (am_K0, (am_pI σ v0 3 ((σ.1 v0 3) + 1)))) : am_X (am_FV G (d + 1) Q) mX2_addClose (0, 0) 31 [some (am_r (some v0)), none, none, none] [] (am_K0, σ) := by
  refine am_r_aload_n (nx := 32) rfl rfl (show decode cX2_addClose 31 = .ok (.aload_n 0, 1) by decide +kernel) rfl ?_
  refine am_r_dup (nx := 33) rfl (show decode cX2_addClose 32 = .ok (.dup, 1) by decide +kernel) rfl ?_
  refine am_r_getI (nx := 36) 3 cw2 (by decide) rfl (Or.inl fl_X2_37) (obM hc1) (show decode cX2_addClose 33 = .ok (.getfield 37, 3) by decide +kernel) rfl ?_
  refine am_r_iconst (nx := 37) (show decode cX2_addClose 36 = .ok (.iconst 1, 1) by decide +kernel) rfl ?_
  refine am_r_iadd (nx := 38) (show decode cX2_addClose 37 = .ok (.iadd, 1) by decide +kernel) rfl ?_
  refine am_r_putI (nx := 41) 3 cw2 (by decide) rfl (Or.inl fl_X2_37) (obM hc1) rfl (Or.inl rfl) (show decode cX2_addClose 38 = .ok (.putfield 37, 3) by decide +kernel) rfl ?_
  exact am_x_fg [0] k
theorem S_X2_addClose_41 {G : am_G} {d : Nat} {Q : am_D → Prop} {σ : am_D}   (k : Q σ) : am_X (am_FV G (d + 1) Q) mX2_addClose (0, 0) 41 [none, none, none, none] [] (am_K0, σ) := by
  exact am_r_vret rfl (show decode cX2_addClose 41 = .ok (.return_, 1) by decide +kernel) ⟨_, rfl, rfl, k⟩
theorem S_X2_addEnd_0 {G : am_G} {d : Nat} {Q : am_D → Prop} {σ : am_D} {v1 : Int} {v0 : Nat} {Q' : am_D → Prop} (hc1 : am_isM v0) (hc : am_MV G d mX10_put [am_r (some (v0 + 5)), am_i v1, am_i (σ.1 v0 14)] σ Q') (k : ∀ σ' : am_D, Q' σ' → am_X (am_FV G (d + 1) Q) mX2_addEnd (0, 0) 12 [some (am_r (some v0)), none] [] (am_K0, σ')) : am_X (am_FV G (d + 1) Q) mX2_addEnd (0, 0) 0 [some (am_r (some v0)), some (am_i v1)] [] (am_K0, σ) := by
  refine am_r_aload_n (nx := 1) rfl rfl (show decode cX2_addEnd 0 = .ok (.aload_n 0, 1) by decide +kernel) rfl ?_
  refine am_r_getF (nx := 4) 11 cw2 (by decide) rfl (Or.inl fl_X2_24) (obM hc1) (fnM11 hc1) (show decode cX2_addEnd 1 = .ok (.getfield 24, 3) by decide +kernel) rfl ?_
  refine am_r_iload_n (nx := 5) rfl rfl (show decode cX2_addEnd 4 = .ok (.iload_n 1, 1) by decide +kernel) rfl ?_
  refine am_r_aload_n (nx := 6) rfl rfl (show decode cX2_addEnd 5 = .ok (.aload_n 0, 1) by decide +kernel) rfl ?_
  refine am_r_getI (nx := 9) 14 cw2 (by decide) rfl (Or.inl fl_X2_49) (obM hc1) (show decode cX2_addEnd 6 = .ok (.getfield 49, 3) by decide +kernel) rfl ?_
  refine am_r_callS (as := [am_r (some (v0 + 5)), am_i v1, am_i (σ.1 v0 14)]) (st := []) hc mb_X10_put mv_X10_put (Or.inr ⟨_, ml_X2_65⟩) rfl rfl (Nat.le_of_ble_eq_true rfl) ⟨Nat.le_refl _, Nat.le_refl _⟩ ⟨Nat.le_refl _, Nat.le_refl _⟩ (show decode cX2_addEnd 9 = .ok (.invokestatic 65, 3) by decide +kernel) ?_
  rintro _ _ ⟨σ', rfl, rfl, hq⟩ _
  exact am_x_fg [1] (k σ' hq)
theorem S_X2_addEnd_12 {G : am_G} {d : Nat} {Q : am_D → Prop} {σ : am_D} {v0 : Nat} (hc1 : am_isM v0) (k : am_X (am_FV G (d + 1) Q) mX2_addEnd (0, 0) 22 [none, none] [] (am_K0, (am_pI σ v0 4 ((σ.1 v0 4) + 1)))) : am_X (am_FV G (d + 1) Q) mX2_addEnd (0, 0) 12 [some (am_r (some v0)), none] [] (am_K0, σ) := by
  refine am_r_aload_n (nx := 13) rfl rfl (show decode cX2_addEnd 12 = .ok (.aload_n 0, 1) by decide +kernel) rfl ?_
  refine am_r_dup (nx := 14) rfl (show decode cX2_addEnd 13 = .ok (.dup, 1) by decide +kernel) rfl ?_
  refine am_r_getI (nx := 17) 4 cw2 (by decide) rfl (Or.inl fl_X2_40) (obM hc1) (show decode cX2_addEnd 14 = .ok (.getfield 40, 3) by decide +kernel) rfl ?_
  refine am_r_iconst (nx := 18) (show decode cX2_addEnd 17 = .ok (.iconst 1, 1) by decide +kernel) rfl ?_
  refine am_r_iadd (nx := 19) (show decode cX2_addEnd 18 = .ok (.iadd, 1) by decide +kernel) rfl ?_
  refine am_r_putI (nx := 22) 4 cw2 (by decide) rfl (Or.inl fl_X2_40) (obM hc1) rfl (Or.inl rfl) (show decode cX2_addEnd 19 = .ok (.putfield 40, 3) by decide +kernel) rfl ?_
  exact am_x_fg [0] k
theorem S_X2_addEnd_22 {G : am_G} {d : Nat} {Q : am_D → Prop} {σ : am_D}   (k : Q σ) : am_X (am_FV G (d + 1) Q) mX2_addEnd (0, 0) 22 [none, none] [] (am_K0, σ) := by
  exact am_r_vret rfl (show decode cX2_addEnd 22 = .ok (.return_, 1) by decide +kernel) ⟨_, rfl, rfl, k⟩
theorem S_X2_startExpression_0 {G : am_G} {d : Nat} {Q : am_D → Prop} {σ : am_D} {v0 : Nat} {Q' : am_D → Prop} (hc1 : am_isM v0) (hc : am_MV G d mX10_put [am_r (some (v0 + 7)), am_i (σ.1 v0 14), am_i (σ.1 v0 15)] σ Q') (k : ∀ σ' : am_D, Q' σ' → am_X (am_FV G (d + 1) Q) mX2_startExpression (0, 0) 15 [none] [] (am_K0, σ')) : am_X (am_FV G (d + 1) Q) mX2_startExpression (0, 0) 0 [some (am_r (some v0))] [] (am_K0, σ) := by
  refine am_r_aload_n (nx := 1) rfl rfl (show decode cX2_startExpression 0 = .ok (.aload_n 0, 1) by decide +kernel) rfl ?_
  refine am_r_getF (nx := 4) 13 cw2 (by decide) rfl (Or.inl fl_X2_30) (obM hc1) (fnM13 hc1) (show decode cX2_startExpression 1 = .ok (.getfield 30, 3) by decide +kernel) rfl ?_
  refine am_r_aload_n (nx := 5) rfl rfl (show decode cX2_startExpression 4 = .ok (.aload_n 0, 1) by decide +kernel) rfl ?_
  refine am_r_getI (nx := 8) 14 cw2 (by decide) rfl (Or.inl fl_X2_49) (obM hc1) (show decode cX2_startExpression 5 = .ok (.getfield 49, 3) by decide +kernel) rfl ?_
  refine am_r_aload_n (nx := 9) rfl rfl (show decode cX2_startExpression 8 = .ok (.aload_n 0, 1) by decide +kernel) rfl ?_
  refine am_r_getI (nx := 12) 15 cw2 (by decide) rfl (Or.inl fl_X2_52) (obM hc1) (show decode cX2_startExpression 9 = .ok (.getfield 52, 3) by decide +kernel) rfl ?_
  refine am_r_callS (as := [am_r (some (v0 + 7)), am_i (σ.1 v0 14), am_i (σ.1 v0 15)]) (st := []) hc mb_X10_put mv_X10_put (Or.inr ⟨_, ml_X2_65⟩) rfl rfl (Nat.le_of_ble_eq_true rfl) ⟨Nat.le_refl _, Nat.le_refl _⟩ ⟨Nat.le_refl _, Nat.le_refl _⟩ (show decode cX2_startExpression 12 = .ok (.invokestatic 65, 3) by decide +kernel) ?_
  rintro _ _ ⟨σ', rfl, rfl, hq⟩ _
  exact am_x_fg [0] (k σ' hq)
theorem S_X2_startExpression_15 {G : am_G} {d : Nat} {Q : am_D → Prop} {σ : am_D}   (k : Q σ) : am_X (am_FV G (d + 1) Q) mX2_startExpression (0, 0) 15 [none] [] (am_K0, σ) := by
  exact am_r_vret rfl (show decode cX2_startExpression 15 = .ok (.return_, 1) by decide +kernel) ⟨_, rfl, rfl, k⟩
theorem S_X2_addSign_0 {G : am_G} {d : Nat} {Q : am_D → Prop} {σ : am_D} {v1 : Int} {v0 : Nat} {Q' : am_D → Prop} (hc1 : am_isM v0) (hc : am_MV G d mX10_put [am_r (some (v0 + 6)), am_i (σ.1 v0 15), am_i v1] σ Q') (k : ∀ σ' : am_D, Q' σ' → am_X (am_FV G (d + 1) Q) mX2_addSign (0, 0) 12 [some (am_r (some v0)), none] [] (am_K0, σ')) : am_X (am_FV G (d + 1) Q) mX2_addSign (0, 0) 0 [some (am_r (some v0)), some (am_i v1)] [] (am_K0, σ) := by
  refine am_r_aload_n (nx := 1) rfl rfl (show decode cX2_addSign 0 = .ok (.aload_n 0, 1) by decide +kernel) rfl ?_
  refine am_r_getF (nx := 4) 12 cw2 (by decide) rfl (Or.inl fl_X2_27) (obM hc1) (fnM12 hc1) (show decode cX2_addSign 1 = .ok (.getfield 27, 3) by decide +kernel) rfl ?_
  refine am_r_aload_n (nx := 5) rfl rfl (show decode cX2_addSign 4 = .ok (.aload_n 0, 1) by decide +kernel) rfl ?_
  refine am_r_getI (nx := 8) 15 cw2 (by decide) rfl (Or.inl fl_X2_52) (obM hc1) (show decode cX2_addSign 5 = .ok (.getfield 52, 3) by decide +kernel) rfl ?_
  refine am_r_iload_n (nx := 9) rfl rfl (show decode cX2_addSign 8 = .ok (.iload_n 1, 1) by decide +kernel) rfl ?_
  refine am_r_callS (as := [am_r (some (v0 + 6)), am_i (σ.1 v0 15), am_i v1]) (st := []) hc mb_X10_put mv_X10_put (Or.inr ⟨_, ml_X2_65⟩) rfl rfl (Nat.le_of_ble_eq_true rfl) ⟨Nat.le_refl _, Nat.le_refl _⟩ ⟨Nat.le_refl _, Nat.le_refl _⟩ (show decode cX2_addSign 9 = .ok (.invokestatic 65, 3) by decide +kernel) ?_
  rintro _ _ ⟨σ', rfl, rfl, hq⟩ _
  exact am_x_fg [1] (k σ' hq)
theorem S_X2_addSign_12 {G : am_G} {d : Nat} {Q : am_D → Prop} {σ : am_D} {v0 : Nat} (hc1 : am_isM v0) (k : am_X (am_FV G (d + 1) Q) mX2_addSign (0, 0) 22 [none, none] [] (am_K0, (am_pI σ v0 15 ((σ.1 v0 15) + 1)))) : am_X (am_FV G (d + 1) Q) mX2_addSign (0, 0) 12 [some (am_r (some v0)), none] [] (am_K0, σ) := by
  refine am_r_aload_n (nx := 13) rfl rfl (show decode cX2_addSign 12 = .ok (.aload_n 0, 1) by decide +kernel) rfl ?_
  refine am_r_dup (nx := 14) rfl (show decode cX2_addSign 13 = .ok (.dup, 1) by decide +kernel) rfl ?_
  refine am_r_getI (nx := 17) 15 cw2 (by decide) rfl (Or.inl fl_X2_52) (obM hc1) (show decode cX2_addSign 14 = .ok (.getfield 52, 3) by decide +kernel) rfl ?_
  refine am_r_iconst (nx := 18) (show decode cX2_addSign 17 = .ok (.iconst 1, 1) by decide +kernel) rfl ?_
  refine am_r_iadd (nx := 19) (show decode cX2_addSign 18 = .ok (.iadd, 1) by decide +kernel) rfl ?_
  refine am_r_putI (nx := 22) 15 cw2 (by decide) rfl (Or.inl fl_X2_52) (obM hc1) rfl (Or.inl rfl) (show decode cX2_addSign 19 = .ok (.putfield 52, 3) by decide +kernel) rfl ?_
  exact am_x_fg [0] k
theorem S_X2_addSign_22 {G : am_G} {d : Nat} {Q : am_D → Prop} {σ : am_D}   (k : Q σ) : am_X (am_FV G (d + 1) Q) mX2_addSign (0, 0) 22 [none, none] [] (am_K0, σ) := by
  exact am_r_vret rfl (show decode cX2_addSign 22 = .ok (.return_, 1) by decide +kernel) ⟨_, rfl, rfl, k⟩
theorem S_X2_stopExpression_0 {G : am_G} {d : Nat} {Q : am_D → Prop} {σ : am_D} {v0 : Nat} (hc1 : am_isM v0) (k : am_X (am_FV G (d + 1) Q) mX2_stopExpression (0, 0) 10 [some (am_r (some v0))] [] (am_K0, (am_pI σ v0 14 ((σ.1 v0 14) + 1)))) : am_X (am_FV G (d + 1) Q) mX2_stopExpression (0, 0) 0 [some (am_r (some v0))] [] (am_K0, σ) := by
  refine am_r_aload_n (nx := 1) rfl rfl (show decode cX2_stopExpression 0 = .ok (.aload_n 0, 1) by decide +kernel) rfl ?_
  refine am_r_dup (nx := 2) rfl (show decode cX2_stopExpression 1 = .ok (.dup, 1) by decide +kernel) rfl ?_
  refine am_r_getI (nx := 5) 14 cw2 (by decide) rfl (Or.inl fl_X2_49) (obM hc1) (show decode cX2_stopExpression 2 = .ok (.getfield 49, 3) by decide +kernel) rfl ?_
  refine am_r_iconst (nx := 6) (show decode cX2_stopExpression 5 = .ok (.iconst 1, 1) by decide +kernel) rfl ?_
  refine am_r_iadd (nx := 7) (show decode cX2_stopExpression 6 = .ok (.iadd, 1) by decide +kernel) rfl ?_
  refine am_r_putI (nx := 10) 14 cw2 (by decide) rfl (Or.inl fl_X2_49) (obM hc1) rfl (Or.inl rfl) (show decode cX2_stopExpression 7 = .ok (.putfield 49, 3) by decide +kernel) rfl ?_
  exact k
theorem S_X2_stopExpression_10 {G : am_G} {d : Nat} {Q : am_D → Prop} {σ : am_D} {v0 : Nat} {Q' : am_D → Prop} (hc1 : am_isM v0) (hc : am_MV G d mX10_put [am_r (some (v0 + 7)), am_i (σ.1 v0 14), am_i (σ.1 v0 15)] σ Q') (k : ∀ σ' : am_D, Q' σ' → am_X (am_FV G (d + 1) Q) mX2_stopExpression (0, 0) 25 [none] [] (am_K0, σ')) : am_X (am_FV G (d + 1) Q) mX2_stopExpression (0, 0) 10 [some (am_r (some v0))] [] (am_K0, σ) := by
  refine am_r_aload_n (nx := 11) rfl rfl (show decode cX2_stopExpression 10 = .ok (.aload_n 0, 1) by decide +kernel) rfl ?_
  refine am_r_getF (nx := 14) 13 cw2 (by decide) rfl (Or.inl fl_X2_30) (obM hc1) (fnM13 hc1) (show decode cX2_stopExpression 11 = .ok (.getfield 30, 3) by decide +kernel) rfl ?_
  refine am_r_aload_n (nx := 15) rfl rfl (show decode cX2_stopExpression 14 = .ok (.aload_n 0, 1) by decide +kernel) rfl ?_
  refine am_r_getI (nx := 18) 14 cw2 (by decide) rfl (Or.inl fl_X2_49) (obM hc1) (show decode cX2_stopExpression 15 = .ok (.getfield 49, 3) by decide +kernel) rfl ?_
  refine am_r_aload_n (nx := 19) rfl rfl (show decode cX2_stopExpression 18 = .ok (.aload_n 0, 1) by decide +kernel) rfl ?_
  refine am_r_getI (nx := 22) 15 cw2 (by decide) rfl (Or.inl fl_X2_52) (obM hc1) (show decode cX2_stopExpression 19 = .ok (.getfield 52, 3) by decide +kernel) rfl ?_
  refine am_r_callS (as := [am_r (some (v0 + 7)), am_i (σ.1 v0 14), am_i (σ.1 v0 15)]) (st := []) hc mb_X10_put mv_X10_put (Or.inr ⟨_, ml_X2_65⟩) rfl rfl (Nat.le_of_ble_eq_true rfl) ⟨Nat.le_refl _, Nat.le_refl _⟩ ⟨Nat.le_refl _, Nat.le_refl _⟩ (show decode cX2_stopExpression 22 = .ok (.invokestatic 65, 3) by decide +kernel) ?_
  rintro _ _ ⟨σ', rfl, rfl, hq⟩ _
  exact am_x_fg [0] (k σ' hq)
theorem S_X2_stopExpression_25 {G : am_G} {d : Nat} {Q : am_D → Prop} {σ : am_D}   (k : Q σ) : am_X (am_FV G (d + 1) Q) mX2_stopExpression (0, 0) 25 [none] [] (am_K0, σ) := by
  exact am_r_vret rfl (show decode cX2_stopExpression 25 = .ok (.return_, 1) by decide +kernel) ⟨_, rfl, rfl, k⟩
end
