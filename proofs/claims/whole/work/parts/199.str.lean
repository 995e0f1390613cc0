section
/-! length() and charAt() of the String constants -/
variable {G : am_G} {σ : am_D}
theorem am_lens : ∀ i, i < 9 → am_len.getD i 0 = (am_chr i).length ∧ (am_chr i).length ≤ 7 := by decide +kernel
theorem am_chars : ∀ i, i < 9 → ∀ j, j < (am_chr i).length → (am_byt.getD i []).getD j 0 = Int32.ofInt ((am_chr i).getD j 0) ∧ am_i2c (am_and ((am_chr i).getD j 0) 255) = (am_chr i).getD j 0 ∧ narrow .char (.int (Int32.ofInt ((am_chr i).getD j 0))) = .int (Int32.ofInt ((am_chr i).getD j 0)) := by decide +kernel
theorem c_coder (d : Nat) {i : Nat} (hi : i < 9) : am_MI G (d + 1) mJ0_coder_7d493 [am_s i] σ (fun x σ' => x = 0 ∧ σ = σ') := by
  refine am_M.go (by decide +kernel) (Nat.le_of_ble_eq_true rfl) rfl ?_
  refine am_r_getCS (nx := 3) (am_mt 432 (by decide +kernel) (by decide +kernel)) (show decode cJ0_coder_7d493 0 = .ok (.getstatic 38, 3) by decide +kernel) rfl ?_
  refine am_r_if_eq (tg := 13) (nx := 6) (show decode cJ0_coder_7d493 3 = .ok (.ifCond .eq 10, 3) by decide +kernel) (by decide) rfl (by omega) (fun q => absurd q (by omega)) (fun _ => ?_)
  refine am_r_aload_nS (nx := 7) rfl rfl (show decode cJ0_coder_7d493 6 = .ok (.aload_n 0, 1) by decide +kernel) rfl ?_
  refine am_r_getSc (nx := 10) hi (am_mt 1522 (by decide +kernel) (by decide +kernel)) (show decode cJ0_coder_7d493 7 = .ok (.getfield 15, 3) by decide +kernel) rfl ?_
  refine am_r_goto (tg := 14) (show decode cJ0_coder_7d493 10 = .ok (.goto 4, 3) by decide +kernel) (by decide) ?_
  exact am_r_iret rfl rfl (show decode cJ0_coder_7d493 14 = .ok (.ireturn, 1) by decide +kernel) ⟨_, _, rfl, rfl, rfl, rfl⟩
theorem c_isLatin1 (d : Nat) {i : Nat} (hi : i < 9) : am_MI G (d + 1) mJ0_isLatin1_aae02 [am_s i] σ (fun x σ' => x = 1 ∧ σ = σ') := by
  refine am_M.go (by decide +kernel) (Nat.le_of_ble_eq_true rfl) rfl ?_
  refine am_r_getCS (nx := 3) (am_mt 432 (by decide +kernel) (by decide +kernel)) (show decode cJ0_isLatin1_aae02 0 = .ok (.getstatic 38, 3) by decide +kernel) rfl ?_
  refine am_r_if_eq (tg := 17) (nx := 6) (show decode cJ0_isLatin1_aae02 3 = .ok (.ifCond .eq 14, 3) by decide +kernel) (by decide) rfl (by omega) (fun q => absurd q (by omega)) (fun _ => ?_)
  refine am_r_aload_nS (nx := 7) rfl rfl (show decode cJ0_isLatin1_aae02 6 = .ok (.aload_n 0, 1) by decide +kernel) rfl ?_
  refine am_r_getSc (nx := 10) hi (am_mt 1522 (by decide +kernel) (by decide +kernel)) (show decode cJ0_isLatin1_aae02 7 = .ok (.getfield 15, 3) by decide +kernel) rfl ?_
  refine am_r_if_ne (tg := 17) (nx := 13) (show decode cJ0_isLatin1_aae02 10 = .ok (.ifCond .ne 7, 3) by decide +kernel) (by decide) rfl (by omega) (fun q => absurd rfl q) (fun _ => ?_)
  refine am_r_iconst (nx := 14) (show decode cJ0_isLatin1_aae02 13 = .ok (.iconst 1, 1) by decide +kernel) rfl ?_
  refine am_r_goto (tg := 18) (show decode cJ0_isLatin1_aae02 14 = .ok (.goto 4, 3) by decide +kernel) (by decide) ?_
  exact am_r_iret rfl rfl (show decode cJ0_isLatin1_aae02 18 = .ok (.ireturn, 1) by decide +kernel) ⟨_, _, rfl, rfl, rfl, rfl⟩
theorem am_shr0 : ∀ i, i < 9 → am_shr ((am_chr i).length : Int) 0 = ((am_chr i).length : Int) := by decide +kernel
theorem c_slen (d : Nat) {i : Nat} (hi : i < 9) : am_MI G (d + 2) mJ0_length_8abf5 [am_s i] σ (fun x σ' => x = (am_chr i).length ∧ σ = σ') := by
  obtain ⟨hl, hl2⟩ := am_lens i hi
  refine am_M.go (by decide +kernel) (Nat.le_of_ble_eq_true rfl) rfl ?_
  refine am_r_aload_nS (nx := 1) rfl rfl (show decode cJ0_length_8abf5 0 = .ok (.aload_n 0, 1) by decide +kernel) rfl ?_
  refine am_r_getSv (nx := 4) hi (am_mt 1521 (by decide +kernel) (by decide +kernel)) (show decode cJ0_length_8abf5 1 = .ok (.getfield 9, 3) by decide +kernel) rfl ?_
  refine am_r_alenS (nx := 5) (n := (am_chr i).length) hi (by rw [hl]; exact Int32.ofInt_eq_ofNat.symm) (show decode cJ0_length_8abf5 4 = .ok (.arraylength, 1) by decide +kernel) rfl ?_
  refine am_r_aload_nS (nx := 6) rfl rfl (show decode cJ0_length_8abf5 5 = .ok (.aload_n 0, 1) by decide +kernel) rfl ?_
  refine am_r_callT (as := []) (st := [am_i (am_chr i).length]) (c_coder d hi) mb_J0_coder_7d493 mv_J0_coder_7d493 (Or.inl ml_J0_335) hi rfl rfl rfl (Nat.le_of_ble_eq_true rfl) ⟨Nat.le_refl _, Nat.le_refl _⟩ ⟨Nat.le_refl _, Nat.le_refl _⟩ (show decode cJ0_length_8abf5 6 = .ok (.invokevirtual 335, 3) by decide +kernel) ?_
  rintro _ _ ⟨_, _, rfl, rfl, rfl, rfl⟩ _
  refine am_r_ishr (nx := 10) (show decode cJ0_length_8abf5 9 = .ok (.ishr, 1) by decide +kernel) rfl ?_
  exact am_r_iret rfl rfl (show decode cJ0_length_8abf5 10 = .ok (.ireturn, 1) by decide +kernel) ⟨_, _, rfl, rfl, am_shr0 i hi, rfl⟩
theorem c_pcheckn (d : Nat) {x y : Int} (h0 : 0 ≤ x) (h1 : x < y) (h2 : y ≤ 1000) : am_MI G (d + 1) mJ3_checkIndex_8e157 [am_i x, am_i y, am_r none] σ (fun z σ' => z = x ∧ σ = σ') := by
  refine am_M.go (by decide +kernel) (Nat.le_of_ble_eq_true rfl) rfl ?_
  refine am_r_iload_n (nx := 1) rfl rfl (show decode cJ3_checkIndex_8e157 0 = .ok (.iload_n 0, 1) by decide +kernel) rfl ?_
  refine am_r_if_lt (tg := 9) (nx := 4) (show decode cJ3_checkIndex_8e157 1 = .ok (.ifCond .lt 8, 3) by decide +kernel) (by decide) rfl (by omega) (fun q => absurd q (by omega)) (fun _ => ?_)
  refine am_r_iload_n (nx := 5) rfl rfl (show decode cJ3_checkIndex_8e157 4 = .ok (.iload_n 0, 1) by decide +kernel) rfl ?_
  refine am_r_iload_n (nx := 6) rfl rfl (show decode cJ3_checkIndex_8e157 5 = .ok (.iload_n 1, 1) by decide +kernel) rfl ?_
  refine am_r_icmp_lt (tg := 16) (nx := 9) (show decode cJ3_checkIndex_8e157 6 = .ok (.if_icmp .lt 10, 3) by decide +kernel) (by decide) rfl (by omega) (by omega) (fun _ => ?_) (fun q => absurd h1 q)
  refine am_r_iload_n (nx := 17) rfl rfl (show decode cJ3_checkIndex_8e157 16 = .ok (.iload_n 0, 1) by decide +kernel) rfl ?_
  exact am_r_iret rfl rfl (show decode cJ3_checkIndex_8e157 17 = .ok (.ireturn, 1) by decide +kernel) ⟨_, _, rfl, rfl, rfl, rfl⟩
theorem c_pchecks (d : Nat) {x y : Int} (h0 : 0 ≤ x) (h1 : x < y) (h2 : y ≤ 1000) : am_MI G (d + 1) mJ3_checkIndex_8e157 [am_i x, am_i y, am_s 98] σ (fun z σ' => z = x ∧ σ = σ') := by
  refine am_M.go (by decide +kernel) (Nat.le_of_ble_eq_true rfl) rfl ?_
  refine am_r_iload_n (nx := 1) rfl rfl (show decode cJ3_checkIndex_8e157 0 = .ok (.iload_n 0, 1) by decide +kernel) rfl ?_
  refine am_r_if_lt (tg := 9) (nx := 4) (show decode cJ3_checkIndex_8e157 1 = .ok (.ifCond .lt 8, 3) by decide +kernel) (by decide) rfl (by omega) (fun q => absurd q (by omega)) (fun _ => ?_)
  refine am_r_iload_n (nx := 5) rfl rfl (show decode cJ3_checkIndex_8e157 4 = .ok (.iload_n 0, 1) by decide +kernel) rfl ?_
  refine am_r_iload_n (nx := 6) rfl rfl (show decode cJ3_checkIndex_8e157 5 = .ok (.iload_n 1, 1) by decide +kernel) rfl ?_
  refine am_r_icmp_lt (tg := 16) (nx := 9) (show decode cJ3_checkIndex_8e157 6 = .ok (.if_icmp .lt 10, 3) by decide +kernel) (by decide) rfl (by omega) (by omega) (fun _ => ?_) (fun q => absurd h1 q)
  refine am_r_iload_n (nx := 17) rfl rfl (show decode cJ3_checkIndex_8e157 16 = .ok (.iload_n 0, 1) by decide +kernel) rfl ?_
  exact am_r_iret rfl rfl (show decode cJ3_checkIndex_8e157 17 = .ok (.ireturn, 1) by decide +kernel) ⟨_, _, rfl, rfl, rfl, rfl⟩
theorem c_scheck (d : Nat) {x y : Int} (h0 : 0 ≤ x) (h1 : x < y) (h2 : y ≤ 1000) : am_MV G (d + 2) mJ0_checkIndex_df160 [am_i x, am_i y] σ (fun σ' => σ = σ') := by
  refine am_M.go (by decide +kernel) (Nat.le_of_ble_eq_true rfl) rfl ?_
  refine am_r_iload_n (nx := 1) rfl rfl (show decode cJ0_checkIndex_df160 0 = .ok (.iload_n 0, 1) by decide +kernel) rfl ?_
  refine am_r_iload_n (nx := 2) rfl rfl (show decode cJ0_checkIndex_df160 1 = .ok (.iload_n 1, 1) by decide +kernel) rfl ?_
  refine am_r_getSF (nx := 5) (am_mt 448 (by decide +kernel) (by decide +kernel)) (show decode cJ0_checkIndex_df160 2 = .ok (.getstatic 1053, 3) by decide +kernel) rfl ?_ ?_
  · refine am_r_callS (as := [am_i x, am_i y, am_r none]) (st := []) (c_pcheckn d h0 h1 h2) mb_J3_checkIndex_8e157 mv_J3_checkIndex_8e157 (Or.inl ml_J0_1059) rfl rfl (Nat.le_of_ble_eq_true rfl) ⟨Nat.le_refl _, Nat.le_refl _⟩ ⟨Nat.le_refl _, Nat.le_refl _⟩ (show decode cJ0_checkIndex_df160 5 = .ok (.invokestatic 1059, 3) by decide +kernel) ?_
    rintro _ _ ⟨_, _, rfl, rfl, rfl, rfl⟩ _
    refine am_r_pop (nx := 9) (show decode cJ0_checkIndex_df160 8 = .ok (.pop, 1) by decide +kernel) rfl ?_
    exact am_r_vret rfl (show decode cJ0_checkIndex_df160 9 = .ok (.return_, 1) by decide +kernel) ⟨_, rfl, rfl, rfl⟩
  · refine am_r_callS (as := [am_i x, am_i y, am_s 98]) (st := []) (c_pchecks d h0 h1 h2) mb_J3_checkIndex_8e157 mv_J3_checkIndex_8e157 (Or.inl ml_J0_1059) rfl rfl (Nat.le_of_ble_eq_true rfl) ⟨Nat.le_refl _, Nat.le_refl _⟩ ⟨Nat.le_refl _, Nat.le_refl _⟩ (show decode cJ0_checkIndex_df160 5 = .ok (.invokestatic 1059, 3) by decide +kernel) ?_
    rintro _ _ ⟨_, _, rfl, rfl, rfl, rfl⟩ _
    refine am_r_pop (nx := 9) (show decode cJ0_checkIndex_df160 8 = .ok (.pop, 1) by decide +kernel) rfl ?_
    exact am_r_vret rfl (show decode cJ0_checkIndex_df160 9 = .ok (.return_, 1) by decide +kernel) ⟨_, rfl, rfl, rfl⟩
theorem c_lcharAt (d : Nat) {i j : Nat} (hi : i < 9) (hj : j < (am_chr i).length) : am_MI G (d + 3) mJ1_charAt_3b067 [am_s (50 + i), am_i j] σ (fun x σ' => x = (am_chr i).getD j 0 ∧ σ = σ') := by
  obtain ⟨hl, hl2⟩ := am_lens i hi
  obtain ⟨hc1, hc2, hc3⟩ := am_chars i hi j hj
  refine am_M.go (by decide +kernel) (Nat.le_of_ble_eq_true rfl) rfl ?_
  refine am_r_iload_n (nx := 1) rfl rfl (show decode cJ1_charAt_3b067 0 = .ok (.iload_n 1, 1) by decide +kernel) rfl ?_
  refine am_r_aload_nS (nx := 2) rfl rfl (show decode cJ1_charAt_3b067 1 = .ok (.aload_n 0, 1) by decide +kernel) rfl ?_
  refine am_r_alenS (nx := 3) (n := (am_chr i).length) hi (by rw [hl]; exact Int32.ofInt_eq_ofNat.symm) (show decode cJ1_charAt_3b067 2 = .ok (.arraylength, 1) by decide +kernel) rfl ?_
  refine am_r_callS (as := [am_i j, am_i (am_chr i).length]) (st := []) (c_scheck d (by omega) (by omega) (by omega)) mb_J0_checkIndex_df160 mv_J0_checkIndex_df160 (Or.inl ml_J1_9) rfl rfl (Nat.le_of_ble_eq_true rfl) ⟨Nat.le_refl _, Nat.le_refl _⟩ ⟨Nat.le_refl _, Nat.le_refl _⟩ (show decode cJ1_charAt_3b067 3 = .ok (.invokestatic 9, 3) by decide +kernel) ?_
  rintro _ _ ⟨_, rfl, rfl, rfl⟩ _
  refine am_r_aload_nS (nx := 7) rfl rfl (show decode cJ1_charAt_3b067 6 = .ok (.aload_n 0, 1) by decide +kernel) rfl ?_
  refine am_r_iload_n (nx := 8) rfl rfl (show decode cJ1_charAt_3b067 7 = .ok (.iload_n 1, 1) by decide +kernel) rfl ?_
  refine am_r_baldS (nx := 9) (x := (am_chr i).getD j 0) hi (by omega) (by rw [hl]; omega) (by rw [hl]; omega) (by rw [Int.toNat_natCast]; exact hc1) (show decode cJ1_charAt_3b067 8 = .ok (.baload, 1) by decide +kernel) rfl ?_
  refine am_r_sipush (nx := 12) rfl (show decode cJ1_charAt_3b067 9 = .ok (.sipush 255, 3) by decide +kernel) rfl ?_
  refine am_r_iand (nx := 13) (show decode cJ1_charAt_3b067 12 = .ok (.iand, 1) by decide +kernel) rfl ?_
  refine am_r_i2c (nx := 14) (show decode cJ1_charAt_3b067 13 = .ok (.i2c, 1) by decide +kernel) rfl ?_
  rw [hc2]
  exact am_r_iret rfl hc3 (show decode cJ1_charAt_3b067 14 = .ok (.ireturn, 1) by decide +kernel) ⟨_, _, rfl, rfl, rfl, rfl⟩
theorem c_charAt (d : Nat) {i j : Nat} (hi : i < 9) (hj : j < (am_chr i).length) : am_MI G (d + 4) mJ0_charAt_5068e [am_s i, am_i j] σ (fun x σ' => x = (am_chr i).getD j 0 ∧ σ = σ') := by
  obtain ⟨hc1, hc2, hc3⟩ := am_chars i hi j hj
  refine am_M.go (by decide +kernel) (Nat.le_of_ble_eq_true rfl) rfl ?_
  refine am_r_aload_nS (nx := 1) rfl rfl (show decode cJ0_charAt_5068e 0 = .ok (.aload_n 0, 1) by decide +kernel) rfl ?_
  refine am_r_callT (as := []) (st := []) (c_isLatin1 (d + 2) hi) mb_J0_isLatin1_aae02 mv_J0_isLatin1_aae02 (Or.inl ml_J0_492) hi rfl rfl rfl (Nat.le_of_ble_eq_true rfl) ⟨Nat.le_refl _, Nat.le_refl _⟩ ⟨Nat.le_refl _, Nat.le_refl _⟩ (show decode cJ0_charAt_5068e 1 = .ok (.invokevirtual 492, 3) by decide +kernel) ?_
  rintro _ _ ⟨_, _, rfl, rfl, rfl, rfl⟩ _
  refine am_r_if_eq (tg := 16) (nx := 7) (show decode cJ0_charAt_5068e 4 = .ok (.ifCond .eq 12, 3) by decide +kernel) (by decide) rfl (by omega) (fun q => absurd q (by omega)) (fun _ => ?_)
  refine am_r_aload_nS (nx := 8) rfl rfl (show decode cJ0_charAt_5068e 7 = .ok (.aload_n 0, 1) by decide +kernel) rfl ?_
  refine am_r_getSv (nx := 11) hi (am_mt 1521 (by decide +kernel) (by decide +kernel)) (show decode cJ0_charAt_5068e 8 = .ok (.getfield 9, 3) by decide +kernel) rfl ?_
  refine am_r_iload_n (nx := 12) rfl rfl (show decode cJ0_charAt_5068e 11 = .ok (.iload_n 1, 1) by decide +kernel) rfl ?_
  refine am_r_callS (as := [am_s (50 + i), am_i j]) (st := []) (c_lcharAt d hi hj) mb_J1_charAt_3b067 mv_J1_charAt_3b067 (Or.inl ml_J0_495) rfl rfl (Nat.le_of_ble_eq_true rfl) ⟨Nat.le_refl _, Nat.le_refl _⟩ ⟨Nat.le_refl _, Nat.le_refl _⟩ (show decode cJ0_charAt_5068e 12 = .ok (.invokestatic 495, 3) by decide +kernel) ?_
  rintro _ _ ⟨_, _, rfl, rfl, rfl, rfl⟩ _
  exact am_r_iret rfl hc3 (show decode cJ0_charAt_5068e 15 = .ok (.ireturn, 1) by decide +kernel) ⟨_, _, rfl, rfl, rfl, rfl⟩
end
