section
variable {G : am_G} {sh : List (Nat × Nat)} {F : Nat → Int → Option Nat} {D : am_D}
theorem k_X0_init (d : Nat) {a n e : Nat} (he : e ≤ 5000) (v : am_vg ((sh, F), D)) (hn : sh.length = n) (hs : (am_sh sh a).1 = 0) : am_M G (d + 2) 1 (2 * e) mX0_init [am_r (some a), am_i (e : Int)] ((sh, F), D) (fun w h' => w = none ∧ h' = ((sh ++ [(100, 2 * e)], am_up F a ((0 : Nat) : Int) (some n)), D) ∧ am_vg h') := by
  have ha := am_sh_lt hs (by decide)
  refine am_M.of (by decide) (Nat.le_of_ble_eq_true rfl) rfl ?_
  refine am_r_aload_n (nx := 1) rfl rfl (show decode cX0_init 0 = .ok (.aload_n 0, 1) by decide +kernel) rfl ?_
  refine am_r_obj (nx := 4) (am_mt 81 (by decide +kernel) (by decide +kernel)) wd_oin wd_ocd (Nat.le_of_ble_eq_true rfl) ⟨by show 1 ≤ d + 2; omega, by show 40 ≤ 40 * (d + 2); omega⟩ (show decode cX0_init 1 = .ok (.invokespecial 3, 3) by decide +kernel) rfl ?_
  refine am_r_aload_n (nx := 5) rfl rfl (show decode cX0_init 4 = .ok (.aload_n 0, 1) by decide +kernel) rfl ?_
  refine am_r_iconst (nx := 6) (show decode cX0_init 5 = .ok (.iconst 2, 1) by decide +kernel) rfl ?_
  refine am_r_iconst (nx := 7) (show decode cX0_init 6 = .ok (.iconst 0, 1) by decide +kernel) rfl ?_
  refine am_r_iload_n (nx := 8) rfl rfl (show decode cX0_init 7 = .ok (.iload_n 1, 1) by decide +kernel) rfl ?_
  refine am_r_callS (as := [am_i 0, am_i (e : Int)]) (st := [am_i 2, am_r (some a)]) (g_max d ⟨by omega, by omega⟩ ⟨by omega, by omega⟩) mb_J9_max_7cf53 mv_J9_max_7cf53 (Or.inl ml_X0_9) rfl rfl (Nat.le_of_ble_eq_true rfl) ⟨Nat.le_refl _, Nat.le_refl _⟩ ⟨Nat.le_of_ble_eq_true rfl, Nat.zero_le _⟩ (show decode cX0_init 8 = .ok (.invokestatic 9, 3) by decide +kernel) ?_
  rintro _ _ ⟨rfl, rfl⟩ _
  refine am_r_imul (nx := 12) (show decode cX0_init 11 = .ok (.imul, 1) by decide +kernel) rfl ?_
  refine am_n_I (sh' := sh ++ [(100, 2 * e)]) (n := n) (N := 2 * e) (cs' := (1, 2 * e)) (nx := 14) wd_int (by omega) (by omega) v hn rfl (by simp) (Nat.le_refl _) (Nat.le_refl _) (show decode cX0_init 12 = .ok (.newarray .int, 2) by decide +kernel) rfl ?_
  refine am_r_putF (nx := 17) 0 cw0 (by decide) rfl fl_X0_15 (am_sh_ap hs (by decide)) rfl rfl rfl (Or.inr ⟨_, rfl⟩) (show decode cX0_init 14 = .ok (.putfield 15, 3) by decide +kernel) rfl ?_
  exact am_r_vret rfl (show decode cX0_init 17 = .ok (.return_, 1) by decide +kernel) ⟨rfl, rfl, (v.app.fin (am_lt_ap ha))⟩
theorem k_X3_init (d : Nat) {a n e : Nat} (he : e ≤ 500) (v : am_vg ((sh, F), D)) (hn : sh.length = n) (hs : (am_sh sh a).1 = 3) : am_M G (d + 2) 3 ((2 * e + 1) * 16 + 12 * (e + 1) + 12 * (e + 1)) mX3_init [am_r (some a), am_i (e : Int)] ((sh, F), D) (fun w h' => w = none ∧ h' = ((sh ++ [(100, (2 * e + 1) * 16), (100, 12 * (e + 1)), (100, 12 * (e + 1))], am_up (am_up (am_up F a ((0 : Nat) : Int) (some n)) a ((1 : Nat) : Int) (some (n + 1))) a ((2 : Nat) : Int) (some (n + 2))), D) ∧ am_vg h') := by
  have ha := am_sh_lt hs (by decide)
  have hm : max 0 (e : Int) = e := by omega
  refine am_M.of (by decide) (Nat.le_of_ble_eq_true rfl) rfl ?_
  refine am_r_aload_n (nx := 1) rfl rfl (show decode cX3_init 0 = .ok (.aload_n 0, 1) by decide +kernel) rfl ?_
  refine am_r_obj (nx := 4) (am_mt 97 (by decide +kernel) (by decide +kernel)) wd_oin wd_ocd (Nat.le_of_ble_eq_true rfl) ⟨by show 1 ≤ d + 2; omega, by show 40 ≤ 40 * (d + 2); omega⟩ (show decode cX3_init 1 = .ok (.invokespecial 5, 3) by decide +kernel) rfl ?_
  refine am_r_iconst (nx := 5) (show decode cX3_init 4 = .ok (.iconst 0, 1) by decide +kernel) rfl ?_
  refine am_r_iload_n (nx := 6) rfl rfl (show decode cX3_init 5 = .ok (.iload_n 1, 1) by decide +kernel) rfl ?_
  refine am_r_callS (as := [am_i 0, am_i (e : Int)]) (st := []) (g_max d ⟨by omega, by omega⟩ ⟨by omega, by omega⟩) mb_J9_max_7cf53 mv_J9_max_7cf53 (Or.inl ml_X3_11) rfl rfl (Nat.le_of_ble_eq_true rfl) ⟨Nat.le_refl _, Nat.le_refl _⟩ ⟨Nat.le_of_ble_eq_true rfl, Nat.zero_le _⟩ (show decode cX3_init 6 = .ok (.invokestatic 11, 3) by decide +kernel) ?_
  rintro _ _ ⟨rfl, rfl⟩ _
  rw [hm]
  refine am_r_istore_n (nx := 10) rfl (by decide) rfl (show decode cX3_init 9 = .ok (.istore_n 2, 1) by decide +kernel) rfl ?_
  refine am_r_aload_n (nx := 11) rfl rfl (show decode cX3_init 10 = .ok (.aload_n 0, 1) by decide +kernel) rfl ?_
  refine am_r_iconst (nx := 12) (show decode cX3_init 11 = .ok (.iconst 2, 1) by decide +kernel) rfl ?_
  refine am_r_iload_n (nx := 13) rfl rfl (show decode cX3_init 12 = .ok (.iload_n 2, 1) by decide +kernel) rfl ?_
  refine am_r_imul (nx := 14) (show decode cX3_init 13 = .ok (.imul, 1) by decide +kernel) rfl ?_
  refine am_r_iconst (nx := 15) (show decode cX3_init 14 = .ok (.iconst 1, 1) by decide +kernel) rfl ?_
  refine am_r_iadd (nx := 16) (show decode cX3_init 15 = .ok (.iadd, 1) by decide +kernel) rfl ?_
  refine am_r_bipush (nx := 18) rfl (show decode cX3_init 16 = .ok (.bipush 16, 2) by decide +kernel) rfl ?_
  refine am_r_imul (nx := 19) (show decode cX3_init 18 = .ok (.imul, 1) by decide +kernel) rfl ?_
  refine am_n_I (sh' := sh ++ [(100, (2 * e + 1) * 16)]) (n := n) (N := (2 * e + 1) * 16) (cs' := (1, (2 * e + 1) * 16)) (nx := 21) wd_int (by omega) (by omega) v hn rfl (by simp) (Nat.le_of_ble_eq_true rfl) (by show (2 * e + 1) * 16 ≤ (2 * e + 1) * 16 + 12 * (e + 1) + 12 * (e + 1); omega) (show decode cX3_init 19 = .ok (.newarray .int, 2) by decide +kernel) rfl ?_
  refine am_r_putF (nx := 24) 0 cw3 (by decide) rfl fl_X3_17 (am_sh_ap hs (by decide)) rfl rfl rfl (Or.inr ⟨_, rfl⟩) (show decode cX3_init 21 = .ok (.putfield 17, 3) by decide +kernel) rfl ?_
  refine am_r_aload_n (nx := 25) rfl rfl (show decode cX3_init 24 = .ok (.aload_n 0, 1) by decide +kernel) rfl ?_
  refine am_r_bipush (nx := 27) rfl (show decode cX3_init 25 = .ok (.bipush 12, 2) by decide +kernel) rfl ?_
  refine am_r_iload_n (nx := 28) rfl rfl (show decode cX3_init 27 = .ok (.iload_n 2, 1) by decide +kernel) rfl ?_
  refine am_r_iconst (nx := 29) (show decode cX3_init 28 = .ok (.iconst 1, 1) by decide +kernel) rfl ?_
  refine am_r_iadd (nx := 30) (show decode cX3_init 29 = .ok (.iadd, 1) by decide +kernel) rfl ?_
  refine am_r_imul (nx := 31) (show decode cX3_init 30 = .ok (.imul, 1) by decide +kernel) rfl ?_
  refine am_n_I (sh' := sh ++ [(100, (2 * e + 1) * 16), (100, 12 * (e + 1))]) (n := n + 1) (N := 12 * (e + 1)) (cs' := (2, (2 * e + 1) * 16 + 12 * (e + 1))) (nx := 33) wd_int (by omega) (by omega) (v.app.fin (am_lt_ap ha)) (am_ln_ap hn rfl) (List.append_assoc _ _ _) rfl (Nat.le_of_ble_eq_true rfl) (by show (2 * e + 1) * 16 + 12 * (e + 1) ≤ (2 * e + 1) * 16 + 12 * (e + 1) + 12 * (e + 1); omega) (show decode cX3_init 31 = .ok (.newarray .int, 2) by decide +kernel) rfl ?_
  refine am_r_putF (nx := 36) 1 cw3 (by decide) rfl fl_X3_21 (am_sh_ap hs (by decide)) rfl rfl rfl (Or.inr ⟨_, rfl⟩) (show decode cX3_init 33 = .ok (.putfield 21, 3) by decide +kernel) rfl ?_
  refine am_r_aload_n (nx := 37) rfl rfl (show decode cX3_init 36 = .ok (.aload_n 0, 1) by decide +kernel) rfl ?_
  refine am_r_bipush (nx := 39) rfl (show decode cX3_init 37 = .ok (.bipush 12, 2) by decide +kernel) rfl ?_
  refine am_r_iload_n (nx := 40) rfl rfl (show decode cX3_init 39 = .ok (.iload_n 2, 1) by decide +kernel) rfl ?_
  refine am_r_iconst (nx := 41) (show decode cX3_init 40 = .ok (.iconst 1, 1) by decide +kernel) rfl ?_
  refine am_r_iadd (nx := 42) (show decode cX3_init 41 = .ok (.iadd, 1) by decide +kernel) rfl ?_
  refine am_r_imul (nx := 43) (show decode cX3_init 42 = .ok (.imul, 1) by decide +kernel) rfl ?_
  refine am_n_I (sh' := sh ++ [(100, (2 * e + 1) * 16), (100, 12 * (e + 1)), (100, 12 * (e + 1))]) (n := n + 2) (N := 12 * (e + 1)) (cs' := (3, (2 * e + 1) * 16 + 12 * (e + 1) + 12 * (e + 1))) (nx := 45) wd_int (by omega) (by omega) ((v.app.fin (am_lt_ap ha)).fin (am_lt_ap ha)) (am_ln_ap hn rfl) (List.append_assoc _ _ _) rfl (Nat.le_refl _) (Nat.le_refl _) (show decode cX3_init 43 = .ok (.newarray .int, 2) by decide +kernel) rfl ?_
  refine am_r_putF (nx := 48) 2 cw3 (by decide) rfl fl_X3_24 (am_sh_ap hs (by decide)) rfl rfl rfl (Or.inr ⟨_, rfl⟩) (show decode cX3_init 45 = .ok (.putfield 24, 3) by decide +kernel) rfl ?_
  exact am_r_vret rfl (show decode cX3_init 48 = .ok (.return_, 1) by decide +kernel) ⟨rfl, rfl, (((v.app.fin (am_lt_ap ha)).fin (am_lt_ap ha)).fin (am_lt_ap ha))⟩
theorem k_X2_init (d : Nat) {a n : Nat} (v : am_vg ((sh, F), D)) (hn : sh.length = n) (hs : (am_sh sh a).1 = 2) : am_M G (d + 1) 7 763 mX2_init [am_r (some a)] ((sh, F), D) (fun w h' => w = none ∧ h' = ((sh ++ [(100, 18), (100, 18), (100, 108), (100, 108), (100, 6), (100, 432), (100, 73)], (am_up (am_up (am_up (am_up (am_up (am_up (am_up F a ((7 : Nat) : Int) (some n)) a ((8 : Nat) : Int) (some (n + 1))) a ((9 : Nat) : Int) (some (n + 2))) a ((10 : Nat) : Int) (some (n + 3))) a ((11 : Nat) : Int) (some (n + 4))) a ((12 : Nat) : Int) (some (n + 5))) a ((13 : Nat) : Int) (some (n + 6)))), D) ∧ am_vg h') := by
  have ha := am_sh_lt hs (by decide)
  refine am_M.of (by decide) (Nat.le_of_ble_eq_true rfl) rfl ?_
  refine am_r_aload_n (nx := 1) rfl rfl (show decode cX2_init 0 = .ok (.aload_n 0, 1) by decide +kernel) rfl ?_
  refine am_r_obj (nx := 4) (am_mt 257 (by decide +kernel) (by decide +kernel)) wd_oin wd_ocd (Nat.le_of_ble_eq_true rfl) ⟨by show 1 ≤ d + 1; omega, by show 40 ≤ 40 * (d + 1); omega⟩ (show decode cX2_init 1 = .ok (.invokespecial 3, 3) by decide +kernel) rfl ?_
  refine am_r_aload_n (nx := 5) rfl rfl (show decode cX2_init 4 = .ok (.aload_n 0, 1) by decide +kernel) rfl ?_
  refine am_r_bipush (nx := 7) rfl (show decode cX2_init 5 = .ok (.bipush 18, 2) by decide +kernel) rfl ?_
  refine am_n_I (sh' := sh ++ [(100, 18)]) (n := n) (N := 18) (cs' := (1, 18)) (nx := 9) wd_int rfl (by omega) v hn rfl rfl (Nat.le_of_ble_eq_true rfl) (Nat.le_of_ble_eq_true rfl) (show decode cX2_init 7 = .ok (.newarray .int, 2) by decide +kernel) rfl ?_
  refine am_r_putF (nx := 12) 7 cw2 (by decide) rfl fl_X2_9 (am_sh_ap hs (by decide)) rfl rfl rfl (Or.inr ⟨_, rfl⟩) (show decode cX2_init 9 = .ok (.putfield 9, 3) by decide +kernel) rfl ?_
  refine am_r_aload_n (nx := 13) rfl rfl (show decode cX2_init 12 = .ok (.aload_n 0, 1) by decide +kernel) rfl ?_
  refine am_r_bipush (nx := 15) rfl (show decode cX2_init 13 = .ok (.bipush 18, 2) by decide +kernel) rfl ?_
  refine am_n_I (sh' := sh ++ [(100, 18), (100, 18)]) (n := (n + 1)) (N := 18) (cs' := (2, 36)) (nx := 17) wd_int rfl (by omega) ((v.app (L := [(100, 18)])).fin (am_lt_ap ha)) (am_ln_ap hn rfl) (List.append_assoc _ _ _) rfl (Nat.le_of_ble_eq_true rfl) (Nat.le_of_ble_eq_true rfl) (show decode cX2_init 15 = .ok (.newarray .int, 2) by decide +kernel) rfl ?_
  refine am_r_putF (nx := 20) 8 cw2 (by decide) rfl fl_X2_15 (am_sh_ap hs (by decide)) rfl rfl rfl (Or.inr ⟨_, rfl⟩) (show decode cX2_init 17 = .ok (.putfield 15, 3) by decide +kernel) rfl ?_
  refine am_r_aload_n (nx := 21) rfl rfl (show decode cX2_init 20 = .ok (.aload_n 0, 1) by decide +kernel) rfl ?_
  refine am_r_bipush (nx := 23) rfl (show decode cX2_init 21 = .ok (.bipush 108, 2) by decide +kernel) rfl ?_
  refine am_n_I (sh' := sh ++ [(100, 18), (100, 18), (100, 108)]) (n := (n + 2)) (N := 108) (cs' := (3, 144)) (nx := 25) wd_int rfl (by omega) (((v.app (L := [(100, 18), (100, 18)])).fin (am_lt_ap ha)).fin (am_lt_ap ha)) (am_ln_ap hn rfl) (List.append_assoc _ _ _) rfl (Nat.le_of_ble_eq_true rfl) (Nat.le_of_ble_eq_true rfl) (show decode cX2_init 23 = .ok (.newarray .int, 2) by decide +kernel) rfl ?_
  refine am_r_putF (nx := 28) 9 cw2 (by decide) rfl fl_X2_18 (am_sh_ap hs (by decide)) rfl rfl rfl (Or.inr ⟨_, rfl⟩) (show decode cX2_init 25 = .ok (.putfield 18, 3) by decide +kernel) rfl ?_
  refine am_r_aload_n (nx := 29) rfl rfl (show decode cX2_init 28 = .ok (.aload_n 0, 1) by decide +kernel) rfl ?_
  refine am_r_bipush (nx := 31) rfl (show decode cX2_init 29 = .ok (.bipush 108, 2) by decide +kernel) rfl ?_
  refine am_n_I (sh' := sh ++ [(100, 18), (100, 18), (100, 108), (100, 108)]) (n := (n + 3)) (N := 108) (cs' := (4, 252)) (nx := 33) wd_int rfl (by omega) ((((v.app (L := [(100, 18), (100, 18), (100, 108)])).fin (am_lt_ap ha)).fin (am_lt_ap ha)).fin (am_lt_ap ha)) (am_ln_ap hn rfl) (List.append_assoc _ _ _) rfl (Nat.le_of_ble_eq_true rfl) (Nat.le_of_ble_eq_true rfl) (show decode cX2_init 31 = .ok (.newarray .int, 2) by decide +kernel) rfl ?_
  refine am_r_putF (nx := 36) 10 cw2 (by decide) rfl fl_X2_21 (am_sh_ap hs (by decide)) rfl rfl rfl (Or.inr ⟨_, rfl⟩) (show decode cX2_init 33 = .ok (.putfield 21, 3) by decide +kernel) rfl ?_
  refine am_r_aload_n (nx := 37) rfl rfl (show decode cX2_init 36 = .ok (.aload_n 0, 1) by decide +kernel) rfl ?_
  refine am_r_bipush (nx := 39) rfl (show decode cX2_init 37 = .ok (.bipush 6, 2) by decide +kernel) rfl ?_
  refine am_n_I (sh' := sh ++ [(100, 18), (100, 18), (100, 108), (100, 108), (100, 6)]) (n := (n + 4)) (N := 6) (cs' := (5, 258)) (nx := 41) wd_int rfl (by omega) (((((v.app (L := [(100, 18), (100, 18), (100, 108), (100, 108)])).fin (am_lt_ap ha)).fin (am_lt_ap ha)).fin (am_lt_ap ha)).fin (am_lt_ap ha)) (am_ln_ap hn rfl) (List.append_assoc _ _ _) rfl (Nat.le_of_ble_eq_true rfl) (Nat.le_of_ble_eq_true rfl) (show decode cX2_init 39 = .ok (.newarray .int, 2) by decide +kernel) rfl ?_
  refine am_r_putF (nx := 44) 11 cw2 (by decide) rfl fl_X2_24 (am_sh_ap hs (by decide)) rfl rfl rfl (Or.inr ⟨_, rfl⟩) (show decode cX2_init 41 = .ok (.putfield 24, 3) by decide +kernel) rfl ?_
  refine am_r_aload_n (nx := 45) rfl rfl (show decode cX2_init 44 = .ok (.aload_n 0, 1) by decide +kernel) rfl ?_
  refine am_r_sipush (nx := 48) rfl (show decode cX2_init 45 = .ok (.sipush 432, 3) by decide +kernel) rfl ?_
  refine am_n_I (sh' := sh ++ [(100, 18), (100, 18), (100, 108), (100, 108), (100, 6), (100, 432)]) (n := (n + 5)) (N := 432) (cs' := (6, 690)) (nx := 50) wd_int rfl (by omega) ((((((v.app (L := [(100, 18), (100, 18), (100, 108), (100, 108), (100, 6)])).fin (am_lt_ap ha)).fin (am_lt_ap ha)).fin (am_lt_ap ha)).fin (am_lt_ap ha)).fin (am_lt_ap ha)) (am_ln_ap hn rfl) (List.append_assoc _ _ _) rfl (Nat.le_of_ble_eq_true rfl) (Nat.le_of_ble_eq_true rfl) (show decode cX2_init 48 = .ok (.newarray .int, 2) by decide +kernel) rfl ?_
  refine am_r_putF (nx := 53) 12 cw2 (by decide) rfl fl_X2_27 (am_sh_ap hs (by decide)) rfl rfl rfl (Or.inr ⟨_, rfl⟩) (show decode cX2_init 50 = .ok (.putfield 27, 3) by decide +kernel) rfl ?_
  refine am_r_aload_n (nx := 54) rfl rfl (show decode cX2_init 53 = .ok (.aload_n 0, 1) by decide +kernel) rfl ?_
  refine am_r_bipush (nx := 56) rfl (show decode cX2_init 54 = .ok (.bipush 73, 2) by decide +kernel) rfl ?_
  refine am_n_I (sh' := sh ++ [(100, 18), (100, 18), (100, 108), (100, 108), (100, 6), (100, 432), (100, 73)]) (n := (n + 6)) (N := 73) (cs' := (7, 763)) (nx := 58) wd_int rfl (by omega) (((((((v.app (L := [(100, 18), (100, 18), (100, 108), (100, 108), (100, 6), (100, 432)])).fin (am_lt_ap ha)).fin (am_lt_ap ha)).fin (am_lt_ap ha)).fin (am_lt_ap ha)).fin (am_lt_ap ha)).fin (am_lt_ap ha)) (am_ln_ap hn rfl) (List.append_assoc _ _ _) rfl (Nat.le_of_ble_eq_true rfl) (Nat.le_of_ble_eq_true rfl) (show decode cX2_init 56 = .ok (.newarray .int, 2) by decide +kernel) rfl ?_
  refine am_r_putF (nx := 61) 13 cw2 (by decide) rfl fl_X2_30 (am_sh_ap hs (by decide)) rfl rfl rfl (Or.inr ⟨_, rfl⟩) (show decode cX2_init 58 = .ok (.putfield 30, 3) by decide +kernel) rfl ?_
  exact am_r_vret rfl (show decode cX2_init 61 = .ok (.return_, 1) by decide +kernel) ⟨rfl, rfl, ((((((((v.app (L := [(100, 18), (100, 18), (100, 108), (100, 108), (100, 6), (100, 432), (100, 73)])).fin (am_lt_ap ha)).fin (am_lt_ap ha)).fin (am_lt_ap ha)).fin (am_lt_ap ha)).fin (am_lt_ap ha)).fin (am_lt_ap ha)).fin (am_lt_ap ha))⟩
theorem k_X5_init (d : Nat) {a n : Nat} (v : am_vg ((sh, F), D)) (hn : sh.length = n) (hs : (am_sh sh a).1 = 5) : am_M G (d + 1) 1 246 mX5_init [am_r (some a)] ((sh, F), D) (fun w h' => w = none ∧ h' = ((sh ++ [(100, 246)], (am_up F a ((0 : Nat) : Int) (some n))), D) ∧ am_vg h') := by
  have ha := am_sh_lt hs (by decide)
  refine am_M.of (by decide) (Nat.le_of_ble_eq_true rfl) rfl ?_
  refine am_r_aload_n (nx := 1) rfl rfl (show decode cX5_init 0 = .ok (.aload_n 0, 1) by decide +kernel) rfl ?_
  refine am_r_obj (nx := 4) (am_mt 160 (by decide +kernel) (by decide +kernel)) wd_oin wd_ocd (Nat.le_of_ble_eq_true rfl) ⟨by show 1 ≤ d + 1; omega, by show 40 ≤ 40 * (d + 1); omega⟩ (show decode cX5_init 1 = .ok (.invokespecial 3, 3) by decide +kernel) rfl ?_
  refine am_r_aload_n (nx := 5) rfl rfl (show decode cX5_init 4 = .ok (.aload_n 0, 1) by decide +kernel) rfl ?_
  refine am_r_sipush (nx := 8) rfl (show decode cX5_init 5 = .ok (.sipush 246, 3) by decide +kernel) rfl ?_
  refine am_n_I (sh' := sh ++ [(100, 246)]) (n := n) (N := 246) (cs' := (1, 246)) (nx := 10) wd_int rfl (by omega) v hn rfl rfl (Nat.le_of_ble_eq_true rfl) (Nat.le_of_ble_eq_true rfl) (show decode cX5_init 8 = .ok (.newarray .int, 2) by decide +kernel) rfl ?_
  refine am_r_putF (nx := 13) 0 cw5 (by decide) rfl fl_X5_9 (am_sh_ap hs (by decide)) rfl rfl rfl (Or.inr ⟨_, rfl⟩) (show decode cX5_init 10 = .ok (.putfield 9, 3) by decide +kernel) rfl ?_
  exact am_r_vret rfl (show decode cX5_init 13 = .ok (.return_, 1) by decide +kernel) ⟨rfl, rfl, ((v.app (L := [(100, 246)])).fin (am_lt_ap ha))⟩
theorem k_X6_init (d : Nat) {a n o1 o2 o3 o4 : Nat} (v : am_vg ((sh, F), D)) (hn : sh.length = n) (hs : (am_sh sh a).1 = 6) : am_M G (d + 1) 0 0 mX6_init [am_r (some a), am_r (some o1), am_r (some o2), am_r (some o3), am_r (some o4)] ((sh, F), D) (fun w h' => w = none ∧ h' = ((sh, (am_up (am_up (am_up (am_up F a ((0 : Nat) : Int) (some o1)) a ((1 : Nat) : Int) (some o2)) a ((2 : Nat) : Int) (some o3)) a ((3 : Nat) : Int) (some o4))), D) ∧ am_vg h') := by
  have ha := am_sh_lt hs (by decide)
  refine am_M.of (by decide) (Nat.le_of_ble_eq_true rfl) rfl ?_
  refine am_r_aload_n (nx := 1) rfl rfl (show decode cX6_init 0 = .ok (.aload_n 0, 1) by decide +kernel) rfl ?_
  refine am_r_obj (nx := 4) (am_mt 170 (by decide +kernel) (by decide +kernel)) wd_oin wd_ocd (Nat.le_of_ble_eq_true rfl) ⟨by show 1 ≤ d + 1; omega, by show 40 ≤ 40 * (d + 1); omega⟩ (show decode cX6_init 1 = .ok (.invokespecial 3, 3) by decide +kernel) rfl ?_
  refine am_r_aload_n (nx := 5) rfl rfl (show decode cX6_init 4 = .ok (.aload_n 0, 1) by decide +kernel) rfl ?_
  refine am_r_aload_n (nx := 6) rfl rfl (show decode cX6_init 5 = .ok (.aload_n 1, 1) by decide +kernel) rfl ?_
  refine am_r_putF (nx := 9) 0 cw6 (by decide) rfl fl_X6_9 hs rfl rfl rfl (Or.inl ⟨_, rfl⟩) (show decode cX6_init 6 = .ok (.putfield 9, 3) by decide +kernel) rfl ?_
  refine am_r_aload_n (nx := 10) rfl rfl (show decode cX6_init 9 = .ok (.aload_n 0, 1) by decide +kernel) rfl ?_
  refine am_r_aload_n (nx := 11) rfl rfl (show decode cX6_init 10 = .ok (.aload_n 2, 1) by decide +kernel) rfl ?_
  refine am_r_putF (nx := 14) 1 cw6 (by decide) rfl fl_X6_15 hs rfl rfl rfl (Or.inl ⟨_, rfl⟩) (show decode cX6_init 11 = .ok (.putfield 15, 3) by decide +kernel) rfl ?_
  refine am_r_aload_n (nx := 15) rfl rfl (show decode cX6_init 14 = .ok (.aload_n 0, 1) by decide +kernel) rfl ?_
  refine am_r_aload_n (nx := 16) rfl rfl (show decode cX6_init 15 = .ok (.aload_n 3, 1) by decide +kernel) rfl ?_
  refine am_r_putF (nx := 19) 2 cw6 (by decide) rfl fl_X6_18 hs rfl rfl rfl (Or.inl ⟨_, rfl⟩) (show decode cX6_init 16 = .ok (.putfield 18, 3) by decide +kernel) rfl ?_
  refine am_r_aload_n (nx := 20) rfl rfl (show decode cX6_init 19 = .ok (.aload_n 0, 1) by decide +kernel) rfl ?_
  refine am_r_aload (nx := 22) rfl (show decode cX6_init 20 = .ok (.aload 4, 2) by decide +kernel) rfl ?_
  refine am_r_putF (nx := 25) 3 cw6 (by decide) rfl fl_X6_22 hs rfl rfl rfl (Or.inl ⟨_, rfl⟩) (show decode cX6_init 22 = .ok (.putfield 22, 3) by decide +kernel) rfl ?_
  exact am_r_vret rfl (show decode cX6_init 25 = .ok (.return_, 1) by decide +kernel) ⟨rfl, rfl, ((((v.fin ha).fin ha).fin ha).fin ha)⟩
theorem k_X7_init (d : Nat) {a n : Nat} (v : am_vg ((sh, F), D)) (hn : sh.length = n) (hs : (am_sh sh a).1 = 7) : am_M G (d + 1) 1 600 mX7_init [am_r (some a)] ((sh, F), D) (fun w h' => w = none ∧ h' = ((sh ++ [(100, 600)], (am_up F a ((0 : Nat) : Int) (some n))), D) ∧ am_vg h') := by
  have ha := am_sh_lt hs (by decide)
  refine am_M.of (by decide) (Nat.le_of_ble_eq_true rfl) rfl ?_
  refine am_r_aload_n (nx := 1) rfl rfl (show decode cX7_init 0 = .ok (.aload_n 0, 1) by decide +kernel) rfl ?_
  refine am_r_obj (nx := 4) (am_mt 32 (by decide +kernel) (by decide +kernel)) wd_oin wd_ocd (Nat.le_of_ble_eq_true rfl) ⟨by show 1 ≤ d + 1; omega, by show 40 ≤ 40 * (d + 1); omega⟩ (show decode cX7_init 1 = .ok (.invokespecial 3, 3) by decide +kernel) rfl ?_
  refine am_r_aload_n (nx := 5) rfl rfl (show decode cX7_init 4 = .ok (.aload_n 0, 1) by decide +kernel) rfl ?_
  refine am_r_sipush (nx := 8) rfl (show decode cX7_init 5 = .ok (.sipush 600, 3) by decide +kernel) rfl ?_
  refine am_n_I (sh' := sh ++ [(100, 600)]) (n := n) (N := 600) (cs' := (1, 600)) (nx := 10) wd_int rfl (by omega) v hn rfl rfl (Nat.le_of_ble_eq_true rfl) (Nat.le_of_ble_eq_true rfl) (show decode cX7_init 8 = .ok (.newarray .int, 2) by decide +kernel) rfl ?_
  refine am_r_putF (nx := 13) 0 cw7 (by decide) rfl fl_X7_9 (am_sh_ap hs (by decide)) rfl rfl rfl (Or.inr ⟨_, rfl⟩) (show decode cX7_init 10 = .ok (.putfield 9, 3) by decide +kernel) rfl ?_
  exact am_r_vret rfl (show decode cX7_init 13 = .ok (.return_, 1) by decide +kernel) ⟨rfl, rfl, ((v.app (L := [(100, 600)])).fin (am_lt_ap ha))⟩
theorem k_X8_init (d : Nat) {a n o1 : Nat} (v : am_vg ((sh, F), D)) (hn : sh.length = n) (hs : (am_sh sh a).1 = 8) : am_M G (d + 1) 0 0 mX8_init [am_r (some a), am_r (some o1)] ((sh, F), D) (fun w h' => w = none ∧ h' = ((sh, (am_up F a ((0 : Nat) : Int) (some o1))), D) ∧ am_vg h') := by
  have ha := am_sh_lt hs (by decide)
  refine am_M.of (by decide) (Nat.le_of_ble_eq_true rfl) rfl ?_
  refine am_r_aload_n (nx := 1) rfl rfl (show decode cX8_init 0 = .ok (.aload_n 0, 1) by decide +kernel) rfl ?_
  refine am_r_obj (nx := 4) (am_mt 63 (by decide +kernel) (by decide +kernel)) wd_oin wd_ocd (Nat.le_of_ble_eq_true rfl) ⟨by show 1 ≤ d + 1; omega, by show 40 ≤ 40 * (d + 1); omega⟩ (show decode cX8_init 1 = .ok (.invokespecial 3, 3) by decide +kernel) rfl ?_
  refine am_r_aload_n (nx := 5) rfl rfl (show decode cX8_init 4 = .ok (.aload_n 0, 1) by decide +kernel) rfl ?_
  refine am_r_aload_n (nx := 6) rfl rfl (show decode cX8_init 5 = .ok (.aload_n 1, 1) by decide +kernel) rfl ?_
  refine am_r_putF (nx := 9) 0 cw8 (by decide) rfl fl_X8_9 hs rfl rfl rfl (Or.inl ⟨_, rfl⟩) (show decode cX8_init 6 = .ok (.putfield 9, 3) by decide +kernel) rfl ?_
  exact am_r_vret rfl (show decode cX8_init 9 = .ok (.return_, 1) by decide +kernel) ⟨rfl, rfl, (v.fin ha)⟩
theorem k_X9_init (d : Nat) {a n : Nat} (v : am_vg ((sh, F), D)) (hn : sh.length = n) (hs : (am_sh sh a).1 = 9) : am_M G (d + 1) 3 1260 mX9_init [am_r (some a)] ((sh, F), D) (fun w h' => w = none ∧ h' = ((sh ++ [(103, 36), (103, 612), (103, 612)], (am_up (am_up (am_up F a ((0 : Nat) : Int) (some n)) a ((1 : Nat) : Int) (some (n + 1))) a ((2 : Nat) : Int) (some (n + 2)))), D) ∧ am_vg h') := by
  have ha := am_sh_lt hs (by decide)
  refine am_M.of (by decide) (Nat.le_of_ble_eq_true rfl) rfl ?_
  refine am_r_aload_n (nx := 1) rfl rfl (show decode cX9_init 0 = .ok (.aload_n 0, 1) by decide +kernel) rfl ?_
  refine am_r_obj (nx := 4) (am_mt 143 (by decide +kernel) (by decide +kernel)) wd_oin wd_ocd (Nat.le_of_ble_eq_true rfl) ⟨by show 1 ≤ d + 1; omega, by show 40 ≤ 40 * (d + 1); omega⟩ (show decode cX9_init 1 = .ok (.invokespecial 5, 3) by decide +kernel) rfl ?_
  refine am_r_aload_n (nx := 5) rfl rfl (show decode cX9_init 4 = .ok (.aload_n 0, 1) by decide +kernel) rfl ?_
  refine am_r_bipush (nx := 7) rfl (show decode cX9_init 5 = .ok (.bipush 36, 2) by decide +kernel) rfl ?_
  refine am_n_J (sh' := sh ++ [(103, 36)]) (n := n) (N := 36) (cs' := (1, 36)) (nx := 9) wd_long rfl (by omega) v hn rfl rfl (Nat.le_of_ble_eq_true rfl) (Nat.le_of_ble_eq_true rfl) (show decode cX9_init 7 = .ok (.newarray .long, 2) by decide +kernel) rfl ?_
  refine am_r_putF (nx := 12) 0 cw9 (by decide) rfl fl_X9_11 (am_sh_ap hs (by decide)) rfl rfl rfl (Or.inr ⟨_, rfl⟩) (show decode cX9_init 9 = .ok (.putfield 11, 3) by decide +kernel) rfl ?_
  refine am_r_aload_n (nx := 13) rfl rfl (show decode cX9_init 12 = .ok (.aload_n 0, 1) by decide +kernel) rfl ?_
  refine am_r_sipush (nx := 16) rfl (show decode cX9_init 13 = .ok (.sipush 612, 3) by decide +kernel) rfl ?_
  refine am_n_J (sh' := sh ++ [(103, 36), (103, 612)]) (n := (n + 1)) (N := 612) (cs' := (2, 648)) (nx := 18) wd_long rfl (by omega) ((v.app (L := [(103, 36)])).fin (am_lt_ap ha)) (am_ln_ap hn rfl) (List.append_assoc _ _ _) rfl (Nat.le_of_ble_eq_true rfl) (Nat.le_of_ble_eq_true rfl) (show decode cX9_init 16 = .ok (.newarray .long, 2) by decide +kernel) rfl ?_
  refine am_r_putF (nx := 21) 1 cw9 (by decide) rfl fl_X9_15 (am_sh_ap hs (by decide)) rfl rfl rfl (Or.inr ⟨_, rfl⟩) (show decode cX9_init 18 = .ok (.putfield 15, 3) by decide +kernel) rfl ?_
  refine am_r_aload_n (nx := 22) rfl rfl (show decode cX9_init 21 = .ok (.aload_n 0, 1) by decide +kernel) rfl ?_
  refine am_r_sipush (nx := 25) rfl (show decode cX9_init 22 = .ok (.sipush 612, 3) by decide +kernel) rfl ?_
  refine am_n_J (sh' := sh ++ [(103, 36), (103, 612), (103, 612)]) (n := (n + 2)) (N := 612) (cs' := (3, 1260)) (nx := 27) wd_long rfl (by omega) (((v.app (L := [(103, 36), (103, 612)])).fin (am_lt_ap ha)).fin (am_lt_ap ha)) (am_ln_ap hn rfl) (List.append_assoc _ _ _) rfl (Nat.le_of_ble_eq_true rfl) (Nat.le_of_ble_eq_true rfl) (show decode cX9_init 25 = .ok (.newarray .long, 2) by decide +kernel) rfl ?_
  refine am_r_putF (nx := 30) 2 cw9 (by decide) rfl fl_X9_18 (am_sh_ap hs (by decide)) rfl rfl rfl (Or.inr ⟨_, rfl⟩) (show decode cX9_init 27 = .ok (.putfield 18, 3) by decide +kernel) rfl ?_
  exact am_r_vret rfl (show decode cX9_init 30 = .ok (.return_, 1) by decide +kernel) ⟨rfl, rfl, ((((v.app (L := [(103, 36), (103, 612), (103, 612)])).fin (am_lt_ap ha)).fin (am_lt_ap ha)).fin (am_lt_ap ha))⟩
end
