section
theorem S_X10_feed_0 {G : am_G} {d : Nat} {Q : Int → am_D → Prop} {σ : am_D} {v1 : Int} {v2 : Int} {v3 : Int} {v4 : Int} {v5 : Int} {Q' : Int → am_D → Prop} (hc : am_MI G d mX7_hasRoom [am_r (some 1)] σ Q') (k : ∀ (x : Int) (σ' : am_D), Q' x σ' → am_X (am_FI G (d + 1) Q) mX10_feed (0, 0) 7 [some (am_r (some 0)), some (am_i v1), some (am_i v2), some (am_i v3), some (am_i v4), some (am_i v5)] [am_i x] (am_K0, σ')) : am_X (am_FI G (d + 1) Q) mX10_feed (0, 0) 0 [some (am_r (some 0)), some (am_i v1), some (am_i v2), some (am_i v3), some (am_i v4), some (am_i v5)] [] (am_K0, σ) := by
  refine am_r_aload_n (nx := 1) rfl rfl (show decode cX10_feed 0 = .ok (.aload_n 0, 1) by decide +kernel) rfl ?_
  refine am_r_getF (nx := 4) 0 cw10 (by decide) rfl (Or.inl fl_X10_12) (ob_0) (fn_0_0) (show decode cX10_feed 1 = .ok (.getfield 12, 3) by decide +kernel) rfl ?_
  refine am_r_callV (as := []) (st := []) hc mb_X7_hasRoom mv_X7_hasRoom (Or.inl ml_X10_93) (ob_1) (by omega) (r := (RX7, TX7, 6)) rfl rfl rfl rfl (Nat.le_of_ble_eq_true rfl) ⟨Nat.le_refl _, Nat.le_refl _⟩ ⟨Nat.le_refl _, Nat.le_refl _⟩ (show decode cX10_feed 4 = .ok (.invokevirtual 93, 3) by decide +kernel) ?_
  rintro _ _ ⟨x, σ', rfl, rfl, hq⟩ _
  exact (k x σ' hq)
theorem S_X10_feed_7 {G : am_G} {d : Nat} {Q : Int → am_D → Prop} {σ : am_D} {v1 : Int} {v2 : Int} {v3 : Int} {v4 : Int} {v5 : Int} {s0 : Int} (hr1 : -2147483648 ≤ s0 ∧ s0 ≤ 2147483647) (k1 : ¬ s0 = 0 → am_X (am_FI G (d + 1) Q) mX10_feed (0, 0) 12 [some (am_r (some 0)), some (am_i v1), some (am_i v2), some (am_i v3), some (am_i v4), some (am_i v5)] [] (am_K0, σ)) (k2 : ¬ (¬ s0 = 0) → am_X (am_FI G (d + 1) Q) mX10_feed (0, 0) 10 [none, none, none, none, none, none] [] (am_K0, σ)) : am_X (am_FI G (d + 1) Q) mX10_feed (0, 0) 7 [some (am_r (some 0)), some (am_i v1), some (am_i v2), some (am_i v3), some (am_i v4), some (am_i v5)] [am_i s0] (am_K0, σ) := by
  refine am_r_if_ne (tg := 12) (nx := 10) (show decode cX10_feed 7 = .ok (.ifCond .ne 5, 3) by decide +kernel) (by decide) rfl hr1 ?_ ?_
  · exact fun q => k1 q
  · exact fun q => am_x_fg [0, 1, 2, 3, 4, 5] (k2 q)
theorem S_X10_feed_10 {G : am_G} {d : Nat} {Q : Int → am_D → Prop} {σ : am_D}   (k : Q (-1) σ) : am_X (am_FI G (d + 1) Q) mX10_feed (0, 0) 10 [none, none, none, none, none, none] [] (am_K0, σ) := by
  refine am_r_iconst (nx := 11) (show decode cX10_feed 10 = .ok (.iconst (-1), 1) by decide +kernel) rfl ?_
  exact am_r_iret rfl rfl (show decode cX10_feed 11 = .ok (.ireturn, 1) by decide +kernel) ⟨_, _, rfl, rfl, k⟩
theorem S_X10_feed_12 {G : am_G} {d : Nat} {Q : Int → am_D → Prop} {σ : am_D} {v1 : Int} {v2 : Int} {v3 : Int} {v4 : Int} {v5 : Int} {Q' : am_D → Prop} (hc : am_MV G d mX7_append [am_r (some 1), am_i v1] σ Q') (k : ∀ σ' : am_D, Q' σ' → am_X (am_FI G (d + 1) Q) mX10_feed (0, 0) 20 [some (am_r (some 0)), none, some (am_i v2), some (am_i v3), some (am_i v4), some (am_i v5)] [] (am_K0, σ')) : am_X (am_FI G (d + 1) Q) mX10_feed (0, 0) 12 [some (am_r (some 0)), some (am_i v1), some (am_i v2), some (am_i v3), some (am_i v4), some (am_i v5)] [] (am_K0, σ) := by
  refine am_r_aload_n (nx := 13) rfl rfl (show decode cX10_feed 12 = .ok (.aload_n 0, 1) by decide +kernel) rfl ?_
  refine am_r_getF (nx := 16) 0 cw10 (by decide) rfl (Or.inl fl_X10_12) (ob_0) (fn_0_0) (show decode cX10_feed 13 = .ok (.getfield 12, 3) by decide +kernel) rfl ?_
  refine am_r_iload_n (nx := 17) rfl rfl (show decode cX10_feed 16 = .ok (.iload_n 1, 1) by decide +kernel) rfl ?_
  refine am_r_callV (as := [am_i v1]) (st := []) hc mb_X7_append mv_X7_append (Or.inl ml_X10_97) (ob_1) (by omega) (r := (RX7, TX7, 6)) rfl rfl rfl rfl (Nat.le_of_ble_eq_true rfl) ⟨Nat.le_refl _, Nat.le_refl _⟩ ⟨Nat.le_refl _, Nat.le_refl _⟩ (show decode cX10_feed 17 = .ok (.invokevirtual 97, 3) by decide +kernel) ?_
  rintro _ _ ⟨σ', rfl, rfl, hq⟩ _
  exact am_x_fg [1] (k σ' hq)
theorem S_X10_feed_20 {G : am_G} {d : Nat} {Q : Int → am_D → Prop} {σ : am_D} {v2 : Int} {v3 : Int} {v4 : Int} {v5 : Int} {Q' : am_D → Prop} (hc : am_MV G d mX7_append [am_r (some 1), am_i v2] σ Q') (k : ∀ σ' : am_D, Q' σ' → am_X (am_FI G (d + 1) Q) mX10_feed (0, 0) 28 [some (am_r (some 0)), none, none, some (am_i v3), some (am_i v4), some (am_i v5)] [] (am_K0, σ')) : am_X (am_FI G (d + 1) Q) mX10_feed (0, 0) 20 [some (am_r (some 0)), none, some (am_i v2), some (am_i v3), some (am_i v4), some (am_i v5)] [] (am_K0, σ) := by
  refine am_r_aload_n (nx := 21) rfl rfl (show decode cX10_feed 20 = .ok (.aload_n 0, 1) by decide +kernel) rfl ?_
  refine am_r_getF (nx := 24) 0 cw10 (by decide) rfl (Or.inl fl_X10_12) (ob_0) (fn_0_0) (show decode cX10_feed 21 = .ok (.getfield 12, 3) by decide +kernel) rfl ?_
  refine am_r_iload_n (nx := 25) rfl rfl (show decode cX10_feed 24 = .ok (.iload_n 2, 1) by decide +kernel) rfl ?_
  refine am_r_callV (as := [am_i v2]) (st := []) hc mb_X7_append mv_X7_append (Or.inl ml_X10_97) (ob_1) (by omega) (r := (RX7, TX7, 6)) rfl rfl rfl rfl (Nat.le_of_ble_eq_true rfl) ⟨Nat.le_refl _, Nat.le_refl _⟩ ⟨Nat.le_refl _, Nat.le_refl _⟩ (show decode cX10_feed 25 = .ok (.invokevirtual 97, 3) by decide +kernel) ?_
  rintro _ _ ⟨σ', rfl, rfl, hq⟩ _
  exact am_x_fg [2] (k σ' hq)
theorem S_X10_feed_28 {G : am_G} {d : Nat} {Q : Int → am_D → Prop} {σ : am_D} {v3 : Int} {v4 : Int} {v5 : Int} {Q' : am_D → Prop} (hc : am_MV G d mX7_append [am_r (some 1), am_i v3] σ Q') (k : ∀ σ' : am_D, Q' σ' → am_X (am_FI G (d + 1) Q) mX10_feed (0, 0) 36 [some (am_r (some 0)), none, none, none, some (am_i v4), some (am_i v5)] [] (am_K0, σ')) : am_X (am_FI G (d + 1) Q) mX10_feed (0, 0) 28 [some (am_r (some 0)), none, none, some (am_i v3), some (am_i v4), some (am_i v5)] [] (am_K0, σ) := by
  refine am_r_aload_n (nx := 29) rfl rfl (show decode cX10_feed 28 = .ok (.aload_n 0, 1) by decide +kernel) rfl ?_
  refine am_r_getF (nx := 32) 0 cw10 (by decide) rfl (Or.inl fl_X10_12) (ob_0) (fn_0_0) (show decode cX10_feed 29 = .ok (.getfield 12, 3) by decide +kernel) rfl ?_
  refine am_r_iload_n (nx := 33) rfl rfl (show decode cX10_feed 32 = .ok (.iload_n 3, 1) by decide +kernel) rfl ?_
  refine am_r_callV (as := [am_i v3]) (st := []) hc mb_X7_append mv_X7_append (Or.inl ml_X10_97) (ob_1) (by omega) (r := (RX7, TX7, 6)) rfl rfl rfl rfl (Nat.le_of_ble_eq_true rfl) ⟨Nat.le_refl _, Nat.le_refl _⟩ ⟨Nat.le_refl _, Nat.le_refl _⟩ (show decode cX10_feed 33 = .ok (.invokevirtual 97, 3) by decide +kernel) ?_
  rintro _ _ ⟨σ', rfl, rfl, hq⟩ _
  exact am_x_fg [3] (k σ' hq)
theorem S_X10_feed_36 {G : am_G} {d : Nat} {Q : Int → am_D → Prop} {σ : am_D} {v4 : Int} {v5 : Int} {Q' : am_D → Prop} (hc : am_MV G d mX7_append [am_r (some 1), am_i v4] σ Q') (k : ∀ σ' : am_D, Q' σ' → am_X (am_FI G (d + 1) Q) mX10_feed (0, 0) 45 [some (am_r (some 0)), none, none, none, none, some (am_i v5)] [] (am_K0, σ')) : am_X (am_FI G (d + 1) Q) mX10_feed (0, 0) 36 [some (am_r (some 0)), none, none, none, some (am_i v4), some (am_i v5)] [] (am_K0, σ) := by
  refine am_r_aload_n (nx := 37) rfl rfl (show decode cX10_feed 36 = .ok (.aload_n 0, 1) by decide +kernel) rfl ?_
  refine am_r_getF (nx := 40) 0 cw10 (by decide) rfl (Or.inl fl_X10_12) (ob_0) (fn_0_0) (show decode cX10_feed 37 = .ok (.getfield 12, 3) by decide +kernel) rfl ?_
  refine am_r_iload (nx := 42) rfl (show decode cX10_feed 40 = .ok (.iload 4, 2) by decide +kernel) rfl ?_
  refine am_r_callV (as := [am_i v4]) (st := []) hc mb_X7_append mv_X7_append (Or.inl ml_X10_97) (ob_1) (by omega) (r := (RX7, TX7, 6)) rfl rfl rfl rfl (Nat.le_of_ble_eq_true rfl) ⟨Nat.le_refl _, Nat.le_refl _⟩ ⟨Nat.le_refl _, Nat.le_refl _⟩ (show decode cX10_feed 42 = .ok (.invokevirtual 97, 3) by decide +kernel) ?_
  rintro _ _ ⟨σ', rfl, rfl, hq⟩ _
  exact am_x_fg [4] (k σ' hq)
theorem S_X10_feed_45 {G : am_G} {d : Nat} {Q : Int → am_D → Prop} {σ : am_D} {v5 : Int} {Q' : am_D → Prop} (hc : am_MV G d mX7_append [am_r (some 1), am_i v5] σ Q') (k : ∀ σ' : am_D, Q' σ' → am_X (am_FI G (d + 1) Q) mX10_feed (0, 0) 54 [some (am_r (some 0)), none, none, none, none, none] [] (am_K0, σ')) : am_X (am_FI G (d + 1) Q) mX10_feed (0, 0) 45 [some (am_r (some 0)), none, none, none, none, some (am_i v5)] [] (am_K0, σ) := by
  refine am_r_aload_n (nx := 46) rfl rfl (show decode cX10_feed 45 = .ok (.aload_n 0, 1) by decide +kernel) rfl ?_
  refine am_r_getF (nx := 49) 0 cw10 (by decide) rfl (Or.inl fl_X10_12) (ob_0) (fn_0_0) (show decode cX10_feed 46 = .ok (.getfield 12, 3) by decide +kernel) rfl ?_
  refine am_r_iload (nx := 51) rfl (show decode cX10_feed 49 = .ok (.iload 5, 2) by decide +kernel) rfl ?_
  refine am_r_callV (as := [am_i v5]) (st := []) hc mb_X7_append mv_X7_append (Or.inl ml_X10_97) (ob_1) (by omega) (r := (RX7, TX7, 6)) rfl rfl rfl rfl (Nat.le_of_ble_eq_true rfl) ⟨Nat.le_refl _, Nat.le_refl _⟩ ⟨Nat.le_refl _, Nat.le_refl _⟩ (show decode cX10_feed 51 = .ok (.invokevirtual 97, 3) by decide +kernel) ?_
  rintro _ _ ⟨σ', rfl, rfl, hq⟩ _
  exact am_x_fg [5] (k σ' hq)
theorem S_X10_feed_54 {G : am_G} {d : Nat} {Q : Int → am_D → Prop} {σ : am_D}   (k : Q (σ.1 1 1) σ) : am_X (am_FI G (d + 1) Q) mX10_feed (0, 0) 54 [some (am_r (some 0)), none, none, none, none, none] [] (am_K0, σ) := by
  refine am_r_aload_n (nx := 55) rfl rfl (show decode cX10_feed 54 = .ok (.aload_n 0, 1) by decide +kernel) rfl ?_
  refine am_r_getF (nx := 58) 0 cw10 (by decide) rfl (Or.inl fl_X10_12) (ob_0) (fn_0_0) (show decode cX10_feed 55 = .ok (.getfield 12, 3) by decide +kernel) rfl ?_
  refine am_r_getI (nx := 61) 1 cw7 (by decide) rfl (Or.inr ⟨_, fl_X10_100⟩) (ob_1) (show decode cX10_feed 58 = .ok (.getfield 100, 3) by decide +kernel) rfl ?_
  exact am_r_iret rfl rfl (show decode cX10_feed 61 = .ok (.ireturn, 1) by decide +kernel) ⟨_, _, rfl, rfl, k⟩
theorem S_X10_end_0 {G : am_G} {d : Nat} {Q : Int → am_D → Prop} {σ : am_D} {v1 : Int} (hr1 : -2147483648 ≤ v1 ∧ v1 ≤ 2147483647) (k1 : v1 < 0 → am_X (am_FI G (d + 1) Q) mX10_end (0, 0) 15 [none, none] [] (am_K0, σ)) (k2 : ¬ (v1 < 0) → am_X (am_FI G (d + 1) Q) mX10_end (0, 0) 4 [some (am_r (some 0)), some (am_i v1)] [] (am_K0, σ)) : am_X (am_FI G (d + 1) Q) mX10_end (0, 0) 0 [some (am_r (some 0)), some (am_i v1)] [] (am_K0, σ) := by
  refine am_r_iload_n (nx := 1) rfl rfl (show decode cX10_end 0 = .ok (.iload_n 1, 1) by decide +kernel) rfl ?_
  refine am_r_if_lt (tg := 15) (nx := 4) (show decode cX10_end 1 = .ok (.ifCond .lt 14, 3) by decide +kernel) (by decide) rfl hr1 ?_ ?_
  · exact fun q => am_x_fg [0, 1] (k1 q)
  · exact fun q => k2 q
theorem S_X10_end_4 {G : am_G} {d : Nat} {Q : Int → am_D → Prop} {σ : am_D} {v1 : Int} (hr1 : -2147483648 ≤ v1 ∧ v1 ≤ 2147483647) (hr2 : -2147483648 ≤ (σ.1 1 1) ∧ (σ.1 1 1) ≤ 2147483647) (k1 : v1 ≤ (σ.1 1 1) → am_X (am_FI G (d + 1) Q) mX10_end (0, 0) 17 [some (am_r (some 0)), some (am_i v1)] [] (am_K0, σ)) (k2 : ¬ (v1 ≤ (σ.1 1 1)) → am_X (am_FI G (d + 1) Q) mX10_end (0, 0) 15 [none, none] [] (am_K0, σ)) : am_X (am_FI G (d + 1) Q) mX10_end (0, 0) 4 [some (am_r (some 0)), some (am_i v1)] [] (am_K0, σ) := by
  refine am_r_iload_n (nx := 5) rfl rfl (show decode cX10_end 4 = .ok (.iload_n 1, 1) by decide +kernel) rfl ?_
  refine am_r_aload_n (nx := 6) rfl rfl (show decode cX10_end 5 = .ok (.aload_n 0, 1) by decide +kernel) rfl ?_
  refine am_r_getF (nx := 9) 0 cw10 (by decide) rfl (Or.inl fl_X10_12) (ob_0) (fn_0_0) (show decode cX10_end 6 = .ok (.getfield 12, 3) by decide +kernel) rfl ?_
  refine am_r_getI (nx := 12) 1 cw7 (by decide) rfl (Or.inr ⟨_, fl_X10_100⟩) (ob_1) (show decode cX10_end 9 = .ok (.getfield 100, 3) by decide +kernel) rfl ?_
  refine am_r_icmp_le (tg := 17) (nx := 15) (show decode cX10_end 12 = .ok (.if_icmp .le 5, 3) by decide +kernel) (by decide) rfl hr1 hr2 ?_ ?_
  · exact fun q => k1 q
  · exact fun q => am_x_fg [0, 1] (k2 q)
theorem S_X10_end_15 {G : am_G} {d : Nat} {Q : Int → am_D → Prop} {σ : am_D}   (k : Q 0 σ) : am_X (am_FI G (d + 1) Q) mX10_end (0, 0) 15 [none, none] [] (am_K0, σ) := by
  refine am_r_iconst (nx := 16) (show decode cX10_end 15 = .ok (.iconst 0, 1) by decide +kernel) rfl ?_
  exact am_r_iret rfl rfl (show decode cX10_end 16 = .ok (.ireturn, 1) by decide +kernel) ⟨_, _, rfl, rfl, k⟩
theorem S_X10_end_17 {G : am_G} {d : Nat} {Q : Int → am_D → Prop} {σ : am_D} {v1 : Int}  (k : am_X (am_FI G (d + 1) Q) mX10_end (0, 0) 25 [none, none] [] (am_K0, (am_pI σ 1 1 v1))) : am_X (am_FI G (d + 1) Q) mX10_end (0, 0) 17 [some (am_r (some 0)), some (am_i v1)] [] (am_K0, σ) := by
  refine am_r_aload_n (nx := 18) rfl rfl (show decode cX10_end 17 = .ok (.aload_n 0, 1) by decide +kernel) rfl ?_
  refine am_r_getF (nx := 21) 0 cw10 (by decide) rfl (Or.inl fl_X10_12) (ob_0) (fn_0_0) (show decode cX10_end 18 = .ok (.getfield 12, 3) by decide +kernel) rfl ?_
  refine am_r_iload_n (nx := 22) rfl rfl (show decode cX10_end 21 = .ok (.iload_n 1, 1) by decide +kernel) rfl ?_
  refine am_r_putI (nx := 25) 1 cw7 (by decide) rfl (Or.inr ⟨_, fl_X10_100⟩) (ob_1) rfl (Or.inl rfl) (show decode cX10_end 22 = .ok (.putfield 100, 3) by decide +kernel) rfl ?_
  exact am_x_fg [0, 1] k
theorem S_X10_end_25 {G : am_G} {d : Nat} {Q : Int → am_D → Prop} {σ : am_D}   (k : Q 1 σ) : am_X (am_FI G (d + 1) Q) mX10_end (0, 0) 25 [none, none] [] (am_K0, σ) := by
  refine am_r_iconst (nx := 26) (show decode cX10_end 25 = .ok (.iconst 1, 1) by decide +kernel) rfl ?_
  exact am_r_iret rfl rfl (show decode cX10_end 26 = .ok (.ireturn, 1) by decide +kernel) ⟨_, _, rfl, rfl, k⟩
theorem S_X10_machine_0 {G : am_G} {d : Nat} {Q : Int → am_D → Prop} {σ : am_D} {v1 : Int} (hr1 : -2147483648 ≤ v1 ∧ v1 ≤ 2147483647) (k1 : v1 < 0 → am_X (am_FI G (d + 1) Q) mX10_machine (0, 0) 13 [none, none, none] [] (am_K0, σ)) (k2 : ¬ (v1 < 0) → am_X (am_FI G (d + 1) Q) mX10_machine (0, 0) 4 [some (am_r (some 0)), some (am_i v1), none] [] (am_K0, σ)) : am_X (am_FI G (d + 1) Q) mX10_machine (0, 0) 0 [some (am_r (some 0)), some (am_i v1), none] [] (am_K0, σ) := by
  refine am_r_iload_n (nx := 1) rfl rfl (show decode cX10_machine 0 = .ok (.iload_n 1, 1) by decide +kernel) rfl ?_
  refine am_r_if_lt (tg := 13) (nx := 4) (show decode cX10_machine 1 = .ok (.ifCond .lt 12, 3) by decide +kernel) (by decide) rfl hr1 ?_ ?_
  · exact fun q => am_x_fg [0, 1] (k1 q)
  · exact fun q => k2 q
theorem S_X10_machine_4 {G : am_G} {d : Nat} {Q : Int → am_D → Prop} {σ : am_D} {v1 : Int} (hr1 : -2147483648 ≤ v1 ∧ v1 ≤ 2147483647) (k1 : v1 < 4 → am_X (am_FI G (d + 1) Q) mX10_machine (0, 0) 15 [some (am_r (some 0)), some (am_i v1), none] [] (am_K0, σ)) (k2 : ¬ (v1 < 4) → am_X (am_FI G (d + 1) Q) mX10_machine (0, 0) 13 [none, none, none] [] (am_K0, σ)) : am_X (am_FI G (d + 1) Q) mX10_machine (0, 0) 4 [some (am_r (some 0)), some (am_i v1), none] [] (am_K0, σ) := by
  refine am_r_iload_n (nx := 5) rfl rfl (show decode cX10_machine 4 = .ok (.iload_n 1, 1) by decide +kernel) rfl ?_
  refine am_r_aload_n (nx := 6) rfl rfl (show decode cX10_machine 5 = .ok (.aload_n 0, 1) by decide +kernel) rfl ?_
  refine am_r_getF (nx := 9) 2 cw10 (by decide) rfl (Or.inl fl_X10_27) (ob_0) (fn_0_2) (show decode cX10_machine 6 = .ok (.getfield 27, 3) by decide +kernel) rfl ?_
  refine am_r_alen (nx := 10) (sh_4) (by omega) (by omega) (show decode cX10_machine 9 = .ok (.arraylength, 1) by decide +kernel) rfl ?_
  refine am_r_icmp_lt (tg := 15) (nx := 13) (show decode cX10_machine 10 = .ok (.if_icmp .lt 5, 3) by decide +kernel) (by decide) rfl hr1 (by omega) ?_ ?_
  · exact fun q => k1 q
  · exact fun q => am_x_fg [0, 1] (k2 q)
theorem S_X10_machine_13 {G : am_G} {d : Nat} {Q : Int → am_D → Prop} {σ : am_D}   (k : Q (-1) σ) : am_X (am_FI G (d + 1) Q) mX10_machine (0, 0) 13 [none, none, none] [] (am_K0, σ) := by
  refine am_r_iconst (nx := 14) (show decode cX10_machine 13 = .ok (.iconst (-1), 1) by decide +kernel) rfl ?_
  exact am_r_iret rfl rfl (show decode cX10_machine 14 = .ok (.ireturn, 1) by decide +kernel) ⟨_, _, rfl, rfl, k⟩
theorem S_X10_machine_15 {G : am_G} {d : Nat} {Q : Int → am_D → Prop} {σ : am_D} {v1 : Int} {Q' : Option Nat → am_D → Prop} (hc : am_MR G d mX10_unused [am_r (some 0)] σ Q') (k : ∀ (x : Option Nat) (σ' : am_D), Q' x σ' → am_X (am_FI G (d + 1) Q) mX10_machine (0, 0) 20 [some (am_r (some 0)), some (am_i v1), some (am_r x)] [] (am_K0, σ')) : am_X (am_FI G (d + 1) Q) mX10_machine (0, 0) 15 [some (am_r (some 0)), some (am_i v1), none] [] (am_K0, σ) := by
  refine am_r_aload_n (nx := 16) rfl rfl (show decode cX10_machine 15 = .ok (.aload_n 0, 1) by decide +kernel) rfl ?_
  refine am_r_callV (as := []) (st := []) hc mb_X10_unused mv_X10_unused (Or.inl ml_X10_104) (ob_0) (by omega) (r := (RX10, TX10, 14)) rfl rfl rfl rfl (Nat.le_of_ble_eq_true rfl) ⟨Nat.le_refl _, Nat.le_refl _⟩ ⟨Nat.le_refl _, Nat.le_refl _⟩ (show decode cX10_machine 16 = .ok (.invokevirtual 104, 3) by decide +kernel) ?_
  rintro _ _ ⟨x, σ', rfl, rfl, hq⟩ _
  refine am_r_astore_n (nx := 20) rfl (by decide) rfl (show decode cX10_machine 19 = .ok (.astore_n 2, 1) by decide +kernel) rfl ?_
  exact (k x σ' hq)
theorem S_X10_machine_20 {G : am_G} {d : Nat} {Q : Int → am_D → Prop} {σ : am_D} {v1 : Int} {v2 : Option Nat} {Q' : am_D → Prop} (hc : am_MV G d mX8_readMachine [am_r (some 3), am_r v2] σ Q') (k : ∀ σ' : am_D, Q' σ' → am_X (am_FI G (d + 1) Q) mX10_machine (0, 0) 28 [some (am_r (some 0)), some (am_i v1), some (am_r v2)] [] (am_K0, σ')) : am_X (am_FI G (d + 1) Q) mX10_machine (0, 0) 20 [some (am_r (some 0)), some (am_i v1), some (am_r v2)] [] (am_K0, σ) := by
  refine am_r_aload_n (nx := 21) rfl rfl (show decode cX10_machine 20 = .ok (.aload_n 0, 1) by decide +kernel) rfl ?_
  refine am_r_getF (nx := 24) 1 cw10 (by decide) rfl (Or.inl fl_X10_21) (ob_0) (fn_0_1) (show decode cX10_machine 21 = .ok (.getfield 21, 3) by decide +kernel) rfl ?_
  refine am_r_aload_n (nx := 25) rfl rfl (show decode cX10_machine 24 = .ok (.aload_n 2, 1) by decide +kernel) rfl ?_
  refine am_r_callV (as := [am_r v2]) (st := []) hc mb_X8_readMachine mv_X8_readMachine (Or.inl ml_X10_108) (ob_3) (by omega) (r := (RX8, TX8, 3)) rfl rfl rfl rfl (Nat.le_of_ble_eq_true rfl) ⟨Nat.le_refl _, Nat.le_refl _⟩ ⟨Nat.le_refl _, Nat.le_refl _⟩ (show decode cX10_machine 25 = .ok (.invokevirtual 108, 3) by decide +kernel) ?_
  rintro _ _ ⟨σ', rfl, rfl, hq⟩ _
  exact (k σ' hq)
theorem S_X10_machine_28 {G : am_G} {d : Nat} {Q : Int → am_D → Prop} {σ : am_D} {v1 : Int} {v2 : Option Nat} (hr1 : -2147483648 ≤ (σ.1 1 5) ∧ (σ.1 1 5) ≤ 2147483647) (k1 : (σ.1 1 5) = 0 → am_X (am_FI G (d + 1) Q) mX10_machine (0, 0) 41 [some (am_r (some 0)), some (am_i v1), some (am_r v2)] [] (am_K0, σ)) (k2 : ¬ ((σ.1 1 5) = 0) → am_X (am_FI G (d + 1) Q) mX10_machine (0, 0) 38 [none, none, none] [] (am_K0, σ)) : am_X (am_FI G (d + 1) Q) mX10_machine (0, 0) 28 [some (am_r (some 0)), some (am_i v1), some (am_r v2)] [] (am_K0, σ) := by
  refine am_r_aload_n (nx := 29) rfl rfl (show decode cX10_machine 28 = .ok (.aload_n 0, 1) by decide +kernel) rfl ?_
  refine am_r_getF (nx := 32) 0 cw10 (by decide) rfl (Or.inl fl_X10_12) (ob_0) (fn_0_0) (show decode cX10_machine 29 = .ok (.getfield 12, 3) by decide +kernel) rfl ?_
  refine am_r_getI (nx := 35) 5 cw7 (by decide) rfl (Or.inr ⟨_, fl_X10_112⟩) (ob_1) (show decode cX10_machine 32 = .ok (.getfield 112, 3) by decide +kernel) rfl ?_
  refine am_r_if_eq (tg := 41) (nx := 38) (show decode cX10_machine 35 = .ok (.ifCond .eq 6, 3) by decide +kernel) (by decide) rfl hr1 ?_ ?_
  · exact fun q => k1 q
  · exact fun q => am_x_fg [0, 1, 2] (k2 q)
theorem S_X10_machine_38 {G : am_G} {d : Nat} {Q : Int → am_D → Prop} {σ : am_D}   (k : Q (-2) σ) : am_X (am_FI G (d + 1) Q) mX10_machine (0, 0) 38 [none, none, none] [] (am_K0, σ) := by
  refine am_r_bipush (nx := 40) rfl (show decode cX10_machine 38 = .ok (.bipush (-2), 2) by decide +kernel) rfl ?_
  exact am_r_iret rfl rfl (show decode cX10_machine 40 = .ok (.ireturn, 1) by decide +kernel) ⟨_, _, rfl, rfl, k⟩
theorem S_X10_machine_41 {G : am_G} {d : Nat} {Q : Int → am_D → Prop} {σ : am_D} {v1 : Int} {v2 : Nat} (hi1 : 0 ≤ v1) (hj2 : v1 < 4) (hc3 : am_isM v2) (k : am_X (am_FI G (d + 1) Q) mX10_machine (0, 0) 48 [none, none, some (am_r (some v2))] [] (am_K0, (am_pR σ 4 v1 (some v2)))) : am_X (am_FI G (d + 1) Q) mX10_machine (0, 0) 41 [some (am_r (some 0)), some (am_i v1), some (am_r (some v2))] [] (am_K0, σ) := by
  refine am_r_aload_n (nx := 42) rfl rfl (show decode cX10_machine 41 = .ok (.aload_n 0, 1) by decide +kernel) rfl ?_
  refine am_r_getF (nx := 45) 2 cw10 (by decide) rfl (Or.inl fl_X10_27) (ob_0) (fn_0_2) (show decode cX10_machine 42 = .ok (.getfield 27, 3) by decide +kernel) rfl ?_
  refine am_r_iload_n (nx := 46) rfl rfl (show decode cX10_machine 45 = .ok (.iload_n 1, 1) by decide +kernel) rfl ?_
  refine am_r_aload_n (nx := 47) rfl rfl (show decode cX10_machine 46 = .ok (.aload_n 2, 1) by decide +kernel) rfl ?_
  refine am_r_aast (nx := 48) (sh_4) (am_shle (sh_4)) hi1 hj2 (obM hc3) (show decode cX10_machine 47 = .ok (.aastore, 1) by decide +kernel) rfl ?_
  exact am_x_fg [0, 1] k
theorem S_X10_machine_48 {G : am_G} {d : Nat} {Q : Int → am_D → Prop} {σ : am_D} {v2 : Nat} {Q' : Int → am_D → Prop} (hc : am_MI G d mX2_rules [am_r (some v2)] σ Q') (hc1 : am_isM v2) (k : ∀ (x : Int) (σ' : am_D), Q' x σ' → Q x σ') : am_X (am_FI G (d + 1) Q) mX10_machine (0, 0) 48 [none, none, some (am_r (some v2))] [] (am_K0, σ) := by
  refine am_r_aload_n (nx := 49) rfl rfl (show decode cX10_machine 48 = .ok (.aload_n 2, 1) by decide +kernel) rfl ?_
  refine am_r_callV (as := []) (st := []) hc mb_X2_rules mv_X2_rules (Or.inl ml_X10_115) (obM hc1) (by omega) (r := (RX2, TX2, 16)) rfl rfl rfl rfl (Nat.le_of_ble_eq_true rfl) ⟨Nat.le_refl _, Nat.le_refl _⟩ ⟨Nat.le_refl _, Nat.le_refl _⟩ (show decode cX10_machine 49 = .ok (.invokevirtual 115, 3) by decide +kernel) ?_
  rintro _ _ ⟨x, σ', rfl, rfl, hq⟩ _
  exact am_r_iret rfl rfl (show decode cX10_machine 52 = .ok (.ireturn, 1) by decide +kernel) ⟨_, _, rfl, rfl, (k x σ' hq)⟩
theorem S_X10_document_0 {G : am_G} {d : Nat} {Q : Int → am_D → Prop} {σ : am_D} {Q' : am_D → Prop} (hc : am_MV G d mX8_readDocument [am_r (some 3), am_r (some 8)] σ Q') (k : ∀ σ' : am_D, Q' σ' → am_X (am_FI G (d + 1) Q) mX10_document (0, 0) 11 [some (am_r (some 0))] [] (am_K0, σ')) : am_X (am_FI G (d + 1) Q) mX10_document (0, 0) 0 [some (am_r (some 0))] [] (am_K0, σ) := by
  refine am_r_aload_n (nx := 1) rfl rfl (show decode cX10_document 0 = .ok (.aload_n 0, 1) by decide +kernel) rfl ?_
  refine am_r_getF (nx := 4) 1 cw10 (by decide) rfl (Or.inl fl_X10_21) (ob_0) (fn_0_1) (show decode cX10_document 1 = .ok (.getfield 21, 3) by decide +kernel) rfl ?_
  refine am_r_aload_n (nx := 5) rfl rfl (show decode cX10_document 4 = .ok (.aload_n 0, 1) by decide +kernel) rfl ?_
  refine am_r_getF (nx := 8) 5 cw10 (by decide) rfl (Or.inl fl_X10_43) (ob_0) (fn_0_5) (show decode cX10_document 5 = .ok (.getfield 43, 3) by decide +kernel) rfl ?_
  refine am_r_callV (as := [am_r (some 8)]) (st := []) hc mb_X8_readDocument mv_X8_readDocument (Or.inl ml_X10_119) (ob_3) (by omega) (r := (RX8, TX8, 3)) rfl rfl rfl rfl (Nat.le_of_ble_eq_true rfl) ⟨Nat.le_refl _, Nat.le_refl _⟩ ⟨Nat.le_refl _, Nat.le_refl _⟩ (show decode cX10_document 8 = .ok (.invokevirtual 119, 3) by decide +kernel) ?_
  rintro _ _ ⟨σ', rfl, rfl, hq⟩ _
  exact (k σ' hq)
theorem S_X10_document_11 {G : am_G} {d : Nat} {Q : Int → am_D → Prop} {σ : am_D}  (hr1 : -2147483648 ≤ (σ.1 1 5) ∧ (σ.1 1 5) ≤ 2147483647) (k1 : (σ.1 1 5) = 0 → am_X (am_FI G (d + 1) Q) mX10_document (0, 0) 24 [some (am_r (some 0))] [] (am_K0, σ)) (k2 : ¬ ((σ.1 1 5) = 0) → am_X (am_FI G (d + 1) Q) mX10_document (0, 0) 21 [none] [] (am_K0, σ)) : am_X (am_FI G (d + 1) Q) mX10_document (0, 0) 11 [some (am_r (some 0))] [] (am_K0, σ) := by
  refine am_r_aload_n (nx := 12) rfl rfl (show decode cX10_document 11 = .ok (.aload_n 0, 1) by decide +kernel) rfl ?_
  refine am_r_getF (nx := 15) 0 cw10 (by decide) rfl (Or.inl fl_X10_12) (ob_0) (fn_0_0) (show decode cX10_document 12 = .ok (.getfield 12, 3) by decide +kernel) rfl ?_
  refine am_r_getI (nx := 18) 5 cw7 (by decide) rfl (Or.inr ⟨_, fl_X10_112⟩) (ob_1) (show decode cX10_document 15 = .ok (.getfield 112, 3) by decide +kernel) rfl ?_
  refine am_r_if_eq (tg := 24) (nx := 21) (show decode cX10_document 18 = .ok (.ifCond .eq 6, 3) by decide +kernel) (by decide) rfl hr1 ?_ ?_
  · exact fun q => k1 q
  · exact fun q => am_x_fg [0] (k2 q)
theorem S_X10_document_21 {G : am_G} {d : Nat} {Q : Int → am_D → Prop} {σ : am_D}   (k : Q (-2) σ) : am_X (am_FI G (d + 1) Q) mX10_document (0, 0) 21 [none] [] (am_K0, σ) := by
  refine am_r_bipush (nx := 23) rfl (show decode cX10_document 21 = .ok (.bipush (-2), 2) by decide +kernel) rfl ?_
  exact am_r_iret rfl rfl (show decode cX10_document 23 = .ok (.ireturn, 1) by decide +kernel) ⟨_, _, rfl, rfl, k⟩
theorem S_X10_document_24 {G : am_G} {d : Nat} {Q : Int → am_D → Prop} {σ : am_D} {Q' : am_D → Prop} (hc : am_MV G d mX0_become [am_r (some 6), am_r (some 8)] σ Q') (k : ∀ σ' : am_D, Q' σ' → am_X (am_FI G (d + 1) Q) mX10_document (0, 0) 35 [some (am_r (some 0))] [] (am_K0, σ')) : am_X (am_FI G (d + 1) Q) mX10_document (0, 0) 24 [some (am_r (some 0))] [] (am_K0, σ) := by
  refine am_r_aload_n (nx := 25) rfl rfl (show decode cX10_document 24 = .ok (.aload_n 0, 1) by decide +kernel) rfl ?_
  refine am_r_getF (nx := 28) 4 cw10 (by decide) rfl (Or.inl fl_X10_39) (ob_0) (fn_0_4) (show decode cX10_document 25 = .ok (.getfield 39, 3) by decide +kernel) rfl ?_
  refine am_r_aload_n (nx := 29) rfl rfl (show decode cX10_document 28 = .ok (.aload_n 0, 1) by decide +kernel) rfl ?_
  refine am_r_getF (nx := 32) 5 cw10 (by decide) rfl (Or.inl fl_X10_43) (ob_0) (fn_0_5) (show decode cX10_document 29 = .ok (.getfield 43, 3) by decide +kernel) rfl ?_
  refine am_r_callV (as := [am_r (some 8)]) (st := []) hc mb_X0_become mv_X0_become (Or.inl ml_X10_123) (obE (by unfold am_isE; decide)) (by omega) (r := (RX0, TX0, 2)) rfl rfl rfl rfl (Nat.le_of_ble_eq_true rfl) ⟨Nat.le_refl _, Nat.le_refl _⟩ ⟨Nat.le_refl _, Nat.le_refl _⟩ (show decode cX10_document 32 = .ok (.invokevirtual 123, 3) by decide +kernel) ?_
  rintro _ _ ⟨σ', rfl, rfl, hq⟩ _
  exact (k σ' hq)
theorem S_X10_document_35 {G : am_G} {d : Nat} {Q : Int → am_D → Prop} {σ : am_D} {Q' : Int → am_D → Prop} (hc : am_MI G d mX0_elements [am_r (some 6)] σ Q') (k : ∀ (x : Int) (σ' : am_D), Q' x σ' → Q x σ') : am_X (am_FI G (d + 1) Q) mX10_document (0, 0) 35 [some (am_r (some 0))] [] (am_K0, σ) := by
  refine am_r_aload_n (nx := 36) rfl rfl (show decode cX10_document 35 = .ok (.aload_n 0, 1) by decide +kernel) rfl ?_
  refine am_r_getF (nx := 39) 4 cw10 (by decide) rfl (Or.inl fl_X10_39) (ob_0) (fn_0_4) (show decode cX10_document 36 = .ok (.getfield 39, 3) by decide +kernel) rfl ?_
  refine am_r_callV (as := []) (st := []) hc mb_X0_elements mv_X0_elements (Or.inl ml_X10_126) (obE (by unfold am_isE; decide)) (by omega) (r := (RX0, TX0, 2)) rfl rfl rfl rfl (Nat.le_of_ble_eq_true rfl) ⟨Nat.le_refl _, Nat.le_refl _⟩ ⟨Nat.le_refl _, Nat.le_refl _⟩ (show decode cX10_document 39 = .ok (.invokevirtual 126, 3) by decide +kernel) ?_
  rintro _ _ ⟨x, σ', rfl, rfl, hq⟩ _
  exact am_r_iret rfl rfl (show decode cX10_document 42 = .ok (.ireturn, 1) by decide +kernel) ⟨_, _, rfl, rfl, (k x σ' hq)⟩
theorem S_X10_fault_0 {G : am_G} {d : Nat} {Q : Int → am_D → Prop} {σ : am_D}   (k : Q (σ.1 1 5) σ) : am_X (am_FI G (d + 1) Q) mX10_fault (0, 0) 0 [some (am_r (some 0))] [] (am_K0, σ) := by
  refine am_r_aload_n (nx := 1) rfl rfl (show decode cX10_fault 0 = .ok (.aload_n 0, 1) by decide +kernel) rfl ?_
  refine am_r_getF (nx := 4) 0 cw10 (by decide) rfl (Or.inl fl_X10_12) (ob_0) (fn_0_0) (show decode cX10_fault 1 = .ok (.getfield 12, 3) by decide +kernel) rfl ?_
  refine am_r_getI (nx := 7) 5 cw7 (by decide) rfl (Or.inr ⟨_, fl_X10_112⟩) (ob_1) (show decode cX10_fault 4 = .ok (.getfield 112, 3) by decide +kernel) rfl ?_
  exact am_r_iret rfl rfl (show decode cX10_fault 7 = .ok (.ireturn, 1) by decide +kernel) ⟨_, _, rfl, rfl, k⟩
theorem S_X10_of_0 {G : am_G} {d : Nat} {Q : Int → am_D → Prop} {σ : am_D} {v1 : Int} {v2 : Int} {Q' : Option Nat → am_D → Prop} (hc : am_MR G d mX10_told [am_r (some 0), am_i v1] σ Q') (k : ∀ (x : Option Nat) (σ' : am_D), Q' x σ' → am_X (am_FI G (d + 1) Q) mX10_of (0, 0) 6 [none, none, some (am_i v2), some (am_r x)] [] (am_K0, σ')) : am_X (am_FI G (d + 1) Q) mX10_of (0, 0) 0 [some (am_r (some 0)), some (am_i v1), some (am_i v2), none] [] (am_K0, σ) := by
  refine am_r_aload_n (nx := 1) rfl rfl (show decode cX10_of 0 = .ok (.aload_n 0, 1) by decide +kernel) rfl ?_
  refine am_r_iload_n (nx := 2) rfl rfl (show decode cX10_of 1 = .ok (.iload_n 1, 1) by decide +kernel) rfl ?_
  refine am_r_callV (as := [am_i v1]) (st := []) hc mb_X10_told mv_X10_told (Or.inl ml_X10_129) (ob_0) (by omega) (r := (RX10, TX10, 14)) rfl rfl rfl rfl (Nat.le_of_ble_eq_true rfl) ⟨Nat.le_refl _, Nat.le_refl _⟩ ⟨Nat.le_refl _, Nat.le_refl _⟩ (show decode cX10_of 2 = .ok (.invokevirtual 129, 3) by decide +kernel) ?_
  rintro _ _ ⟨x, σ', rfl, rfl, hq⟩ _
  refine am_r_astore_n (nx := 6) rfl (by decide) rfl (show decode cX10_of 5 = .ok (.astore_n 3, 1) by decide +kernel) rfl ?_
  exact am_x_fg [0, 1] (k x σ' hq)
theorem S_X10_of_6 {G : am_G} {d : Nat} {Q : Int → am_D → Prop} {σ : am_D} {v2 : Int} {v3 : Option Nat}  (k1 : v3 = none → am_X (am_FI G (d + 1) Q) mX10_of (0, 0) 10 [none, none, none, none] [] (am_K0, σ)) (k2 : ∀ a, v3 = some a → am_X (am_FI G (d + 1) Q) mX10_of (0, 0) 12 [none, none, some (am_i v2), some (am_r v3)] [] (am_K0, σ)) : am_X (am_FI G (d + 1) Q) mX10_of (0, 0) 6 [none, none, some (am_i v2), some (am_r v3)] [] (am_K0, σ) := by
  refine am_r_aload_n (nx := 7) rfl rfl (show decode cX10_of 6 = .ok (.aload_n 3, 1) by decide +kernel) rfl ?_
  refine am_r_ifnonnull (tg := 12) (nx := 10) (show decode cX10_of 7 = .ok (.ifnonnull 5, 3) by decide +kernel) (by decide) rfl ?_ ?_
  · exact fun q => am_x_fg [2, 3] (k1 q)
  · exact fun a q => k2 a q
theorem S_X10_of_10 {G : am_G} {d : Nat} {Q : Int → am_D → Prop} {σ : am_D}   (k : Q (-1) σ) : am_X (am_FI G (d + 1) Q) mX10_of (0, 0) 10 [none, none, none, none] [] (am_K0, σ) := by
  refine am_r_iconst (nx := 11) (show decode cX10_of 10 = .ok (.iconst (-1), 1) by decide +kernel) rfl ?_
  exact am_r_iret rfl rfl (show decode cX10_of 11 = .ok (.ireturn, 1) by decide +kernel) ⟨_, _, rfl, rfl, k⟩
theorem S_X10_of_12 {G : am_G} {d : Nat} {Q : Int → am_D → Prop} {σ : am_D} {v2 : Int} {v3 : Option Nat} (hr1 : -2147483648 ≤ v2 ∧ v2 ≤ 2147483647) (k0 : v2 < 0 ∨ 5 < v2 → am_X (am_FI G (d + 1) Q) mX10_of (0, 0) 89 [none, none, none, none] [] (am_K0, σ)) (k1 : v2 = 0 → am_X (am_FI G (d + 1) Q) mX10_of (0, 0) 52 [none, none, none, some (am_r v3)] [] (am_K0, σ)) (k2 : v2 = 1 → am_X (am_FI G (d + 1) Q) mX10_of (0, 0) 57 [none, none, none, some (am_r v3)] [] (am_K0, σ)) (k3 : v2 = 2 → am_X (am_FI G (d + 1) Q) mX10_of (0, 0) 62 [none, none, none, some (am_r v3)] [] (am_K0, σ)) (k4 : v2 = 3 → am_X (am_FI G (d + 1) Q) mX10_of (0, 0) 67 [none, none, none, some (am_r v3)] [] (am_K0, σ)) (k5 : v2 = 4 → am_X (am_FI G (d + 1) Q) mX10_of (0, 0) 72 [none, none, none, some (am_r v3)] [] (am_K0, σ)) (k6 : v2 = 5 → am_X (am_FI G (d + 1) Q) mX10_of (0, 0) 77 [none, none, none, some (am_r v3)] [] (am_K0, σ)) : am_X (am_FI G (d + 1) Q) mX10_of (0, 0) 12 [none, none, some (am_i v2), some (am_r v3)] [] (am_K0, σ) := by
  refine am_r_iload_n (nx := 13) rfl rfl (show decode cX10_of 12 = .ok (.iload_n 2, 1) by decide +kernel) rfl ?_
  by_cases hq : v2 < 0 ∨ 5 < v2
  · exact am_r_tabOut (show decode cX10_of 13 = .ok (.tableswitch 76 0 5 #[39, 44, 49, 54, 59, 64], 39) by decide +kernel) hr1 hq (by decide) (am_x_fg [2, 3] (k0 hq))
  · have hq2 : v2 = 0 ∨ v2 = 1 ∨ v2 = 2 ∨ v2 = 3 ∨ v2 = 4 ∨ v2 = 5 := by omega
    rcases hq2 with hq2 | hq2 | hq2 | hq2 | hq2 | hq2
    · exact am_r_tabIn (off := 39) (tg := 52) (show decode cX10_of 13 = .ok (.tableswitch 76 0 5 #[39, 44, 49, 54, 59, 64], 39) by decide +kernel) hr1 (by omega) (by omega) (by rw [hq2]; decide) (by decide) (am_x_fg [2] (k1 hq2))
    · exact am_r_tabIn (off := 44) (tg := 57) (show decode cX10_of 13 = .ok (.tableswitch 76 0 5 #[39, 44, 49, 54, 59, 64], 39) by decide +kernel) hr1 (by omega) (by omega) (by rw [hq2]; decide) (by decide) (am_x_fg [2] (k2 hq2))
    · exact am_r_tabIn (off := 49) (tg := 62) (show decode cX10_of 13 = .ok (.tableswitch 76 0 5 #[39, 44, 49, 54, 59, 64], 39) by decide +kernel) hr1 (by omega) (by omega) (by rw [hq2]; decide) (by decide) (am_x_fg [2] (k3 hq2))
    · exact am_r_tabIn (off := 54) (tg := 67) (show decode cX10_of 13 = .ok (.tableswitch 76 0 5 #[39, 44, 49, 54, 59, 64], 39) by decide +kernel) hr1 (by omega) (by omega) (by rw [hq2]; decide) (by decide) (am_x_fg [2] (k4 hq2))
    · exact am_r_tabIn (off := 59) (tg := 72) (show decode cX10_of 13 = .ok (.tableswitch 76 0 5 #[39, 44, 49, 54, 59, 64], 39) by decide +kernel) hr1 (by omega) (by omega) (by rw [hq2]; decide) (by decide) (am_x_fg [2] (k5 hq2))
    · exact am_r_tabIn (off := 64) (tg := 77) (show decode cX10_of 13 = .ok (.tableswitch 76 0 5 #[39, 44, 49, 54, 59, 64], 39) by decide +kernel) hr1 (by omega) (by omega) (by rw [hq2]; decide) (by decide) (am_x_fg [2] (k6 hq2))
theorem S_X10_of_52 {G : am_G} {d : Nat} {Q : Int → am_D → Prop} {σ : am_D} {v3 : Nat} (hc1 : am_isM v3) (k : Q (σ.1 v3 0) σ) : am_X (am_FI G (d + 1) Q) mX10_of (0, 0) 52 [none, none, none, some (am_r (some v3))] [] (am_K0, σ) := by
  refine am_r_aload_n (nx := 53) rfl rfl (show decode cX10_of 52 = .ok (.aload_n 3, 1) by decide +kernel) rfl ?_
  refine am_r_getI (nx := 56) 0 cw2 (by decide) rfl (Or.inr ⟨_, fl_X10_133⟩) (obM hc1) (show decode cX10_of 53 = .ok (.getfield 133, 3) by decide +kernel) rfl ?_
  exact am_r_iret rfl rfl (show decode cX10_of 56 = .ok (.ireturn, 1) by decide +kernel) ⟨_, _, rfl, rfl, k⟩
theorem S_X10_of_57 {G : am_G} {d : Nat} {Q : Int → am_D → Prop} {σ : am_D} {v3 : Nat} (hc1 : am_isM v3) (k : Q (σ.1 v3 1) σ) : am_X (am_FI G (d + 1) Q) mX10_of (0, 0) 57 [none, none, none, some (am_r (some v3))] [] (am_K0, σ) := by
  refine am_r_aload_n (nx := 58) rfl rfl (show decode cX10_of 57 = .ok (.aload_n 3, 1) by decide +kernel) rfl ?_
  refine am_r_getI (nx := 61) 1 cw2 (by decide) rfl (Or.inr ⟨_, fl_X10_136⟩) (obM hc1) (show decode cX10_of 58 = .ok (.getfield 136, 3) by decide +kernel) rfl ?_
  exact am_r_iret rfl rfl (show decode cX10_of 61 = .ok (.ireturn, 1) by decide +kernel) ⟨_, _, rfl, rfl, k⟩
theorem S_X10_of_62 {G : am_G} {d : Nat} {Q : Int → am_D → Prop} {σ : am_D} {v3 : Nat} (hc1 : am_isM v3) (k : Q (σ.1 v3 2) σ) : am_X (am_FI G (d + 1) Q) mX10_of (0, 0) 62 [none, none, none, some (am_r (some v3))] [] (am_K0, σ) := by
  refine am_r_aload_n (nx := 63) rfl rfl (show decode cX10_of 62 = .ok (.aload_n 3, 1) by decide +kernel) rfl ?_
  refine am_r_getI (nx := 66) 2 cw2 (by decide) rfl (Or.inr ⟨_, fl_X10_139⟩) (obM hc1) (show decode cX10_of 63 = .ok (.getfield 139, 3) by decide +kernel) rfl ?_
  exact am_r_iret rfl rfl (show decode cX10_of 66 = .ok (.ireturn, 1) by decide +kernel) ⟨_, _, rfl, rfl, k⟩
theorem S_X10_of_67 {G : am_G} {d : Nat} {Q : Int → am_D → Prop} {σ : am_D} {v3 : Nat} (hc1 : am_isM v3) (k : Q (σ.1 v3 3) σ) : am_X (am_FI G (d + 1) Q) mX10_of (0, 0) 67 [none, none, none, some (am_r (some v3))] [] (am_K0, σ) := by
  refine am_r_aload_n (nx := 68) rfl rfl (show decode cX10_of 67 = .ok (.aload_n 3, 1) by decide +kernel) rfl ?_
  refine am_r_getI (nx := 71) 3 cw2 (by decide) rfl (Or.inr ⟨_, fl_X10_142⟩) (obM hc1) (show decode cX10_of 68 = .ok (.getfield 142, 3) by decide +kernel) rfl ?_
  exact am_r_iret rfl rfl (show decode cX10_of 71 = .ok (.ireturn, 1) by decide +kernel) ⟨_, _, rfl, rfl, k⟩
theorem S_X10_of_72 {G : am_G} {d : Nat} {Q : Int → am_D → Prop} {σ : am_D} {v3 : Nat} (hc1 : am_isM v3) (k : Q (σ.1 v3 4) σ) : am_X (am_FI G (d + 1) Q) mX10_of (0, 0) 72 [none, none, none, some (am_r (some v3))] [] (am_K0, σ) := by
  refine am_r_aload_n (nx := 73) rfl rfl (show decode cX10_of 72 = .ok (.aload_n 3, 1) by decide +kernel) rfl ?_
  refine am_r_getI (nx := 76) 4 cw2 (by decide) rfl (Or.inr ⟨_, fl_X10_145⟩) (obM hc1) (show decode cX10_of 73 = .ok (.getfield 145, 3) by decide +kernel) rfl ?_
  exact am_r_iret rfl rfl (show decode cX10_of 76 = .ok (.ireturn, 1) by decide +kernel) ⟨_, _, rfl, rfl, k⟩
theorem S_X10_of_77 {G : am_G} {d : Nat} {Q : Int → am_D → Prop} {σ : am_D} {v3 : Nat} {Q' : Int → am_D → Prop} (hc1 : am_isM v3) (hc : am_MI G d mJ9_max_7cf53 [am_i (σ.1 v3 5), am_i (σ.1 v3 6)] σ Q') (k : ∀ (x : Int) (σ' : am_D), Q' x σ' → Q x σ') : am_X (am_FI G (d + 1) Q) mX10_of (0, 0) 77 [none, none, none, some (am_r (some v3))] [] (am_K0, σ) := by
  refine am_r_aload_n (nx := 78) rfl rfl (show decode cX10_of 77 = .ok (.aload_n 3, 1) by decide +kernel) rfl ?_
  refine am_r_getI (nx := 81) 5 cw2 (by decide) rfl (Or.inr ⟨_, fl_X10_148⟩) (obM hc1) (show decode cX10_of 78 = .ok (.getfield 148, 3) by decide +kernel) rfl ?_
  refine am_r_aload_n (nx := 82) rfl rfl (show decode cX10_of 81 = .ok (.aload_n 3, 1) by decide +kernel) rfl ?_
  refine am_r_getI (nx := 85) 6 cw2 (by decide) rfl (Or.inr ⟨_, fl_X10_151⟩) (obM hc1) (show decode cX10_of 82 = .ok (.getfield 151, 3) by decide +kernel) rfl ?_
  refine am_r_callS (as := [am_i (σ.1 v3 5), am_i (σ.1 v3 6)]) (st := []) hc mb_J9_max_7cf53 mv_J9_max_7cf53 (Or.inl ml_X10_154) rfl rfl (Nat.le_of_ble_eq_true rfl) ⟨Nat.le_refl _, Nat.le_refl _⟩ ⟨Nat.le_refl _, Nat.le_refl _⟩ (show decode cX10_of 85 = .ok (.invokestatic 154, 3) by decide +kernel) ?_
  rintro _ _ ⟨x, σ', rfl, rfl, hq⟩ _
  exact am_r_iret rfl rfl (show decode cX10_of 88 = .ok (.ireturn, 1) by decide +kernel) ⟨_, _, rfl, rfl, (k x σ' hq)⟩
theorem S_X10_of_89 {G : am_G} {d : Nat} {Q : Int → am_D → Prop} {σ : am_D}   (k : Q (-1) σ) : am_X (am_FI G (d + 1) Q) mX10_of (0, 0) 89 [none, none, none, none] [] (am_K0, σ) := by
  refine am_r_iconst (nx := 90) (show decode cX10_of 89 = .ok (.iconst (-1), 1) by decide +kernel) rfl ?_
  exact am_r_iret rfl rfl (show decode cX10_of 90 = .ok (.ireturn, 1) by decide +kernel) ⟨_, _, rfl, rfl, k⟩
theorem S_X10_count_0 {G : am_G} {d : Nat} {Q : Int → am_D → Prop} {σ : am_D} {v1 : Int} (hr1 : -2147483648 ≤ v1 ∧ v1 ≤ 2147483647) (k0 : v1 < 0 ∨ 9 < v1 → am_X (am_FI G (d + 1) Q) mX10_count (0, 0) 192 [none, none] [] (am_K0, σ)) (k1 : v1 = 0 → am_X (am_FI G (d + 1) Q) mX10_count (0, 0) 56 [some (am_r (some 0)), none] [] (am_K0, σ)) (k2 : v1 = 1 → am_X (am_FI G (d + 1) Q) mX10_count (0, 0) 61 [some (am_r (some 0)), none] [] (am_K0, σ)) (k3 : v1 = 2 → am_X (am_FI G (d + 1) Q) mX10_count (0, 0) 69 [some (am_r (some 0)), none] [] (am_K0, σ)) (k4 : v1 = 3 → am_X (am_FI G (d + 1) Q) mX10_count (0, 0) 77 [some (am_r (some 0)), none] [] (am_K0, σ)) (k5 : v1 = 4 → am_X (am_FI G (d + 1) Q) mX10_count (0, 0) 85 [some (am_r (some 0)), none] [] (am_K0, σ)) (k6 : v1 = 5 → am_X (am_FI G (d + 1) Q) mX10_count (0, 0) 93 [some (am_r (some 0)), none] [] (am_K0, σ)) (k7 : v1 = 6 → am_X (am_FI G (d + 1) Q) mX10_count (0, 0) 115 [some (am_r (some 0)), none] [] (am_K0, σ)) (k8 : v1 = 7 → am_X (am_FI G (d + 1) Q) mX10_count (0, 0) 138 [some (am_r (some 0)), none] [] (am_K0, σ)) (k9 : v1 = 8 → am_X (am_FI G (d + 1) Q) mX10_count (0, 0) 161 [some (am_r (some 0)), none] [] (am_K0, σ)) (k10 : v1 = 9 → am_X (am_FI G (d + 1) Q) mX10_count (0, 0) 184 [some (am_r (some 0)), none] [] (am_K0, σ)) : am_X (am_FI G (d + 1) Q) mX10_count (0, 0) 0 [some (am_r (some 0)), some (am_i v1)] [] (am_K0, σ) := by
  refine am_r_iload_n (nx := 1) rfl rfl (show decode cX10_count 0 = .ok (.iload_n 1, 1) by decide +kernel) rfl ?_
  by_cases hq : v1 < 0 ∨ 9 < v1
  · exact am_r_tabOut (show decode cX10_count 1 = .ok (.tableswitch 191 0 9 #[55, 60, 68, 76, 84, 92, 114, 137, 160, 183], 55) by decide +kernel) hr1 hq (by decide) (am_x_fg [0, 1] (k0 hq))
  · have hq2 : v1 = 0 ∨ v1 = 1 ∨ v1 = 2 ∨ v1 = 3 ∨ v1 = 4 ∨ v1 = 5 ∨ v1 = 6 ∨ v1 = 7 ∨ v1 = 8 ∨ v1 = 9 := by omega
    rcases hq2 with hq2 | hq2 | hq2 | hq2 | hq2 | hq2 | hq2 | hq2 | hq2 | hq2
    · exact am_r_tabIn (off := 55) (tg := 56) (show decode cX10_count 1 = .ok (.tableswitch 191 0 9 #[55, 60, 68, 76, 84, 92, 114, 137, 160, 183], 55) by decide +kernel) hr1 (by omega) (by omega) (by rw [hq2]; decide) (by decide) (am_x_fg [1] (k1 hq2))
    · exact am_r_tabIn (off := 60) (tg := 61) (show decode cX10_count 1 = .ok (.tableswitch 191 0 9 #[55, 60, 68, 76, 84, 92, 114, 137, 160, 183], 55) by decide +kernel) hr1 (by omega) (by omega) (by rw [hq2]; decide) (by decide) (am_x_fg [1] (k2 hq2))
    · exact am_r_tabIn (off := 68) (tg := 69) (show decode cX10_count 1 = .ok (.tableswitch 191 0 9 #[55, 60, 68, 76, 84, 92, 114, 137, 160, 183], 55) by decide +kernel) hr1 (by omega) (by omega) (by rw [hq2]; decide) (by decide) (am_x_fg [1] (k3 hq2))
    · exact am_r_tabIn (off := 76) (tg := 77) (show decode cX10_count 1 = .ok (.tableswitch 191 0 9 #[55, 60, 68, 76, 84, 92, 114, 137, 160, 183], 55) by decide +kernel) hr1 (by omega) (by omega) (by rw [hq2]; decide) (by decide) (am_x_fg [1] (k4 hq2))
    · exact am_r_tabIn (off := 84) (tg := 85) (show decode cX10_count 1 = .ok (.tableswitch 191 0 9 #[55, 60, 68, 76, 84, 92, 114, 137, 160, 183], 55) by decide +kernel) hr1 (by omega) (by omega) (by rw [hq2]; decide) (by decide) (am_x_fg [1] (k5 hq2))
    · exact am_r_tabIn (off := 92) (tg := 93) (show decode cX10_count 1 = .ok (.tableswitch 191 0 9 #[55, 60, 68, 76, 84, 92, 114, 137, 160, 183], 55) by decide +kernel) hr1 (by omega) (by omega) (by rw [hq2]; decide) (by decide) (am_x_fg [1] (k6 hq2))
    · exact am_r_tabIn (off := 114) (tg := 115) (show decode cX10_count 1 = .ok (.tableswitch 191 0 9 #[55, 60, 68, 76, 84, 92, 114, 137, 160, 183], 55) by decide +kernel) hr1 (by omega) (by omega) (by rw [hq2]; decide) (by decide) (am_x_fg [1] (k7 hq2))
    · exact am_r_tabIn (off := 137) (tg := 138) (show decode cX10_count 1 = .ok (.tableswitch 191 0 9 #[55, 60, 68, 76, 84, 92, 114, 137, 160, 183], 55) by decide +kernel) hr1 (by omega) (by omega) (by rw [hq2]; decide) (by decide) (am_x_fg [1] (k8 hq2))
    · exact am_r_tabIn (off := 160) (tg := 161) (show decode cX10_count 1 = .ok (.tableswitch 191 0 9 #[55, 60, 68, 76, 84, 92, 114, 137, 160, 183], 55) by decide +kernel) hr1 (by omega) (by omega) (by rw [hq2]; decide) (by decide) (am_x_fg [1] (k9 hq2))
    · exact am_r_tabIn (off := 183) (tg := 184) (show decode cX10_count 1 = .ok (.tableswitch 191 0 9 #[55, 60, 68, 76, 84, 92, 114, 137, 160, 183], 55) by decide +kernel) hr1 (by omega) (by omega) (by rw [hq2]; decide) (by decide) (am_x_fg [1] (k10 hq2))
theorem S_X10_count_56 {G : am_G} {d : Nat} {Q : Int → am_D → Prop} {σ : am_D} {Q' : Int → am_D → Prop} (hc : am_MI G d mX10_toldMachines [am_r (some 0)] σ Q') (k : ∀ (x : Int) (σ' : am_D), Q' x σ' → Q x σ') : am_X (am_FI G (d + 1) Q) mX10_count (0, 0) 56 [some (am_r (some 0)), none] [] (am_K0, σ) := by
  refine am_r_aload_n (nx := 57) rfl rfl (show decode cX10_count 56 = .ok (.aload_n 0, 1) by decide +kernel) rfl ?_
  refine am_r_callV (as := []) (st := []) hc mb_X10_toldMachines mv_X10_toldMachines (Or.inl ml_X10_160) (ob_0) (by omega) (r := (RX10, TX10, 14)) rfl rfl rfl rfl (Nat.le_of_ble_eq_true rfl) ⟨Nat.le_refl _, Nat.le_refl _⟩ ⟨Nat.le_refl _, Nat.le_refl _⟩ (show decode cX10_count 57 = .ok (.invokevirtual 160, 3) by decide +kernel) ?_
  rintro _ _ ⟨x, σ', rfl, rfl, hq⟩ _
  exact am_r_iret rfl rfl (show decode cX10_count 60 = .ok (.ireturn, 1) by decide +kernel) ⟨_, _, rfl, rfl, (k x σ' hq)⟩
theorem S_X10_count_61 {G : am_G} {d : Nat} {Q : Int → am_D → Prop} {σ : am_D} {Q' : Int → am_D → Prop} (hc : am_MI G d mX0_elements [am_r (some 6)] σ Q') (k : ∀ (x : Int) (σ' : am_D), Q' x σ' → Q x σ') : am_X (am_FI G (d + 1) Q) mX10_count (0, 0) 61 [some (am_r (some 0)), none] [] (am_K0, σ) := by
  refine am_r_aload_n (nx := 62) rfl rfl (show decode cX10_count 61 = .ok (.aload_n 0, 1) by decide +kernel) rfl ?_
  refine am_r_getF (nx := 65) 4 cw10 (by decide) rfl (Or.inl fl_X10_39) (ob_0) (fn_0_4) (show decode cX10_count 62 = .ok (.getfield 39, 3) by decide +kernel) rfl ?_
  refine am_r_callV (as := []) (st := []) hc mb_X0_elements mv_X0_elements (Or.inl ml_X10_126) (obE (by unfold am_isE; decide)) (by omega) (r := (RX0, TX0, 2)) rfl rfl rfl rfl (Nat.le_of_ble_eq_true rfl) ⟨Nat.le_refl _, Nat.le_refl _⟩ ⟨Nat.le_refl _, Nat.le_refl _⟩ (show decode cX10_count 65 = .ok (.invokevirtual 126, 3) by decide +kernel) ?_
  rintro _ _ ⟨x, σ', rfl, rfl, hq⟩ _
  exact am_r_iret rfl rfl (show decode cX10_count 68 = .ok (.ireturn, 1) by decide +kernel) ⟨_, _, rfl, rfl, (k x σ' hq)⟩
theorem S_X10_count_69 {G : am_G} {d : Nat} {Q : Int → am_D → Prop} {σ : am_D} {Q' : Int → am_D → Prop} (hc : am_MI G d mX0_depth [am_r (some 6)] σ Q') (k : ∀ (x : Int) (σ' : am_D), Q' x σ' → Q x σ') : am_X (am_FI G (d + 1) Q) mX10_count (0, 0) 69 [some (am_r (some 0)), none] [] (am_K0, σ) := by
  refine am_r_aload_n (nx := 70) rfl rfl (show decode cX10_count 69 = .ok (.aload_n 0, 1) by decide +kernel) rfl ?_
  refine am_r_getF (nx := 73) 4 cw10 (by decide) rfl (Or.inl fl_X10_39) (ob_0) (fn_0_4) (show decode cX10_count 70 = .ok (.getfield 39, 3) by decide +kernel) rfl ?_
  refine am_r_callV (as := []) (st := []) hc mb_X0_depth mv_X0_depth (Or.inl ml_X10_163) (obE (by unfold am_isE; decide)) (by omega) (r := (RX0, TX0, 2)) rfl rfl rfl rfl (Nat.le_of_ble_eq_true rfl) ⟨Nat.le_refl _, Nat.le_refl _⟩ ⟨Nat.le_refl _, Nat.le_refl _⟩ (show decode cX10_count 73 = .ok (.invokevirtual 163, 3) by decide +kernel) ?_
  rintro _ _ ⟨x, σ', rfl, rfl, hq⟩ _
  exact am_r_iret rfl rfl (show decode cX10_count 76 = .ok (.ireturn, 1) by decide +kernel) ⟨_, _, rfl, rfl, (k x σ' hq)⟩
theorem S_X10_count_77 {G : am_G} {d : Nat} {Q : Int → am_D → Prop} {σ : am_D} {Q' : Int → am_D → Prop} (hc : am_MI G d mX0_elements [am_r (some 10)] σ Q') (k : ∀ (x : Int) (σ' : am_D), Q' x σ' → Q x σ') : am_X (am_FI G (d + 1) Q) mX10_count (0, 0) 77 [some (am_r (some 0)), none] [] (am_K0, σ) := by
  refine am_r_aload_n (nx := 78) rfl rfl (show decode cX10_count 77 = .ok (.aload_n 0, 1) by decide +kernel) rfl ?_
  refine am_r_getF (nx := 81) 6 cw10 (by decide) rfl (Or.inl fl_X10_46) (ob_0) (fn_0_6) (show decode cX10_count 78 = .ok (.getfield 46, 3) by decide +kernel) rfl ?_
  refine am_r_callV (as := []) (st := []) hc mb_X0_elements mv_X0_elements (Or.inl ml_X10_126) (obE (by unfold am_isE; decide)) (by omega) (r := (RX0, TX0, 2)) rfl rfl rfl rfl (Nat.le_of_ble_eq_true rfl) ⟨Nat.le_refl _, Nat.le_refl _⟩ ⟨Nat.le_refl _, Nat.le_refl _⟩ (show decode cX10_count 81 = .ok (.invokevirtual 126, 3) by decide +kernel) ?_
  rintro _ _ ⟨x, σ', rfl, rfl, hq⟩ _
  exact am_r_iret rfl rfl (show decode cX10_count 84 = .ok (.ireturn, 1) by decide +kernel) ⟨_, _, rfl, rfl, (k x σ' hq)⟩
theorem S_X10_count_85 {G : am_G} {d : Nat} {Q : Int → am_D → Prop} {σ : am_D} {Q' : Int → am_D → Prop} (hc : am_MI G d mX0_depth [am_r (some 10)] σ Q') (k : ∀ (x : Int) (σ' : am_D), Q' x σ' → Q x σ') : am_X (am_FI G (d + 1) Q) mX10_count (0, 0) 85 [some (am_r (some 0)), none] [] (am_K0, σ) := by
  refine am_r_aload_n (nx := 86) rfl rfl (show decode cX10_count 85 = .ok (.aload_n 0, 1) by decide +kernel) rfl ?_
  refine am_r_getF (nx := 89) 6 cw10 (by decide) rfl (Or.inl fl_X10_46) (ob_0) (fn_0_6) (show decode cX10_count 86 = .ok (.getfield 46, 3) by decide +kernel) rfl ?_
  refine am_r_callV (as := []) (st := []) hc mb_X0_depth mv_X0_depth (Or.inl ml_X10_163) (obE (by unfold am_isE; decide)) (by omega) (r := (RX0, TX0, 2)) rfl rfl rfl rfl (Nat.le_of_ble_eq_true rfl) ⟨Nat.le_refl _, Nat.le_refl _⟩ ⟨Nat.le_refl _, Nat.le_refl _⟩ (show decode cX10_count 89 = .ok (.invokevirtual 163, 3) by decide +kernel) ?_
  rintro _ _ ⟨x, σ', rfl, rfl, hq⟩ _
  exact am_r_iret rfl rfl (show decode cX10_count 92 = .ok (.ireturn, 1) by decide +kernel) ⟨_, _, rfl, rfl, (k x σ' hq)⟩
theorem S_X10_count_93 {G : am_G} {d : Nat} {Q : Int → am_D → Prop} {σ : am_D}   (k1 : (σ.2.2 12 4) = none → am_X (am_FI G (d + 1) Q) mX10_count (0, 0) 103 [none, none] [] (am_K0, σ)) (k2 : ∀ a, (σ.2.2 12 4) = some a → am_X (am_FI G (d + 1) Q) mX10_count (0, 0) 107 [some (am_r (some 0)), none] [] (am_K0, σ)) : am_X (am_FI G (d + 1) Q) mX10_count (0, 0) 93 [some (am_r (some 0)), none] [] (am_K0, σ) := by
  refine am_r_aload_n (nx := 94) rfl rfl (show decode cX10_count 93 = .ok (.aload_n 0, 1) by decide +kernel) rfl ?_
  refine am_r_getF (nx := 97) 7 cw10 (by decide) rfl (Or.inl fl_X10_52) (ob_0) (fn_0_7) (show decode cX10_count 94 = .ok (.getfield 52, 3) by decide +kernel) rfl ?_
  refine am_r_getR (nx := 100) 4 cw3 (by decide) rfl (Or.inr ⟨_, fl_X10_166⟩) (obR (by unfold am_isR; decide)) (show decode cX10_count 97 = .ok (.getfield 166, 3) by decide +kernel) rfl ?_
  refine am_r_ifnonnull (tg := 107) (nx := 103) (show decode cX10_count 100 = .ok (.ifnonnull 7, 3) by decide +kernel) (by decide) rfl ?_ ?_
  · exact fun q => am_x_fg [0] (k1 q)
  · exact fun a q => k2 a q
theorem S_X10_count_103 {G : am_G} {d : Nat} {Q : Int → am_D → Prop} {σ : am_D}   (k : am_X (am_FI G (d + 1) Q) mX10_count (0, 0) 114 [none, none] [am_i 0] (am_K0, σ)) : am_X (am_FI G (d + 1) Q) mX10_count (0, 0) 103 [none, none] [] (am_K0, σ) := by
  refine am_r_iconst (nx := 104) (show decode cX10_count 103 = .ok (.iconst 0, 1) by decide +kernel) rfl ?_
  refine am_r_goto (tg := 114) (show decode cX10_count 104 = .ok (.goto 10, 3) by decide +kernel) (by decide) ?_
  exact k
theorem S_X10_count_107 {G : am_G} {d : Nat} {Q : Int → am_D → Prop} {σ : am_D}   (k : am_X (am_FI G (d + 1) Q) mX10_count (0, 0) 114 [none, none] [am_i (σ.1 12 5)] (am_K0, σ)) : am_X (am_FI G (d + 1) Q) mX10_count (0, 0) 107 [some (am_r (some 0)), none] [] (am_K0, σ) := by
  refine am_r_aload_n (nx := 108) rfl rfl (show decode cX10_count 107 = .ok (.aload_n 0, 1) by decide +kernel) rfl ?_
  refine am_r_getF (nx := 111) 7 cw10 (by decide) rfl (Or.inl fl_X10_52) (ob_0) (fn_0_7) (show decode cX10_count 108 = .ok (.getfield 52, 3) by decide +kernel) rfl ?_
  refine am_r_getI (nx := 114) 5 cw3 (by decide) rfl (Or.inr ⟨_, fl_X10_170⟩) (obR (by unfold am_isR; decide)) (show decode cX10_count 111 = .ok (.getfield 170, 3) by decide +kernel) rfl ?_
  exact am_x_fg [0] k
theorem S_X10_count_114 {G : am_G} {d : Nat} {Q : Int → am_D → Prop} {σ : am_D} {s0 : Int}  (k : Q s0 σ) : am_X (am_FI G (d + 1) Q) mX10_count (0, 0) 114 [none, none] [am_i s0] (am_K0, σ) := by
  exact am_r_iret rfl rfl (show decode cX10_count 114 = .ok (.ireturn, 1) by decide +kernel) ⟨_, _, rfl, rfl, k⟩
theorem S_X10_count_115 {G : am_G} {d : Nat} {Q : Int → am_D → Prop} {σ : am_D}   (k1 : (σ.2.2 12 4) = none → am_X (am_FI G (d + 1) Q) mX10_count (0, 0) 125 [none, none] [] (am_K0, σ)) (k2 : ∀ a, (σ.2.2 12 4) = some a → am_X (am_FI G (d + 1) Q) mX10_count (0, 0) 129 [some (am_r (some 0)), none] [] (am_K0, σ)) : am_X (am_FI G (d + 1) Q) mX10_count (0, 0) 115 [some (am_r (some 0)), none] [] (am_K0, σ) := by
  refine am_r_aload_n (nx := 116) rfl rfl (show decode cX10_count 115 = .ok (.aload_n 0, 1) by decide +kernel) rfl ?_
  refine am_r_getF (nx := 119) 7 cw10 (by decide) rfl (Or.inl fl_X10_52) (ob_0) (fn_0_7) (show decode cX10_count 116 = .ok (.getfield 52, 3) by decide +kernel) rfl ?_
  refine am_r_getR (nx := 122) 4 cw3 (by decide) rfl (Or.inr ⟨_, fl_X10_166⟩) (obR (by unfold am_isR; decide)) (show decode cX10_count 119 = .ok (.getfield 166, 3) by decide +kernel) rfl ?_
  refine am_r_ifnonnull (tg := 129) (nx := 125) (show decode cX10_count 122 = .ok (.ifnonnull 7, 3) by decide +kernel) (by decide) rfl ?_ ?_
  · exact fun q => am_x_fg [0] (k1 q)
  · exact fun a q => k2 a q
theorem S_X10_count_125 {G : am_G} {d : Nat} {Q : Int → am_D → Prop} {σ : am_D}   (k : am_X (am_FI G (d + 1) Q) mX10_count (0, 0) 137 [none, none] [am_i 0] (am_K0, σ)) : am_X (am_FI G (d + 1) Q) mX10_count (0, 0) 125 [none, none] [] (am_K0, σ) := by
  refine am_r_iconst (nx := 126) (show decode cX10_count 125 = .ok (.iconst 0, 1) by decide +kernel) rfl ?_
  refine am_r_goto (tg := 137) (show decode cX10_count 126 = .ok (.goto 11, 3) by decide +kernel) (by decide) ?_
  exact k
theorem S_X10_count_129 {G : am_G} {d : Nat} {Q : Int → am_D → Prop} {σ : am_D} {Q' : Int → am_D → Prop} (hc : am_MI G d mX3_now [am_r (some 12), am_i 1] σ Q') (k : ∀ (x : Int) (σ' : am_D), Q' x σ' → am_X (am_FI G (d + 1) Q) mX10_count (0, 0) 137 [none, none] [am_i x] (am_K0, σ')) : am_X (am_FI G (d + 1) Q) mX10_count (0, 0) 129 [some (am_r (some 0)), none] [] (am_K0, σ) := by
  refine am_r_aload_n (nx := 130) rfl rfl (show decode cX10_count 129 = .ok (.aload_n 0, 1) by decide +kernel) rfl ?_
  refine am_r_getF (nx := 133) 7 cw10 (by decide) rfl (Or.inl fl_X10_52) (ob_0) (fn_0_7) (show decode cX10_count 130 = .ok (.getfield 52, 3) by decide +kernel) rfl ?_
  refine am_r_iconst (nx := 134) (show decode cX10_count 133 = .ok (.iconst 1, 1) by decide +kernel) rfl ?_
  refine am_r_callV (as := [am_i 1]) (st := []) hc mb_X3_now mv_X3_now (Or.inl ml_X10_173) (obR (by unfold am_isR; decide)) (by omega) (r := (RX3, TX3, 9)) rfl rfl rfl rfl (Nat.le_of_ble_eq_true rfl) ⟨Nat.le_refl _, Nat.le_refl _⟩ ⟨Nat.le_refl _, Nat.le_refl _⟩ (show decode cX10_count 134 = .ok (.invokevirtual 173, 3) by decide +kernel) ?_
  rintro _ _ ⟨x, σ', rfl, rfl, hq⟩ _
  exact am_x_fg [0] (k x σ' hq)
theorem S_X10_count_137 {G : am_G} {d : Nat} {Q : Int → am_D → Prop} {σ : am_D} {s0 : Int}  (k : Q s0 σ) : am_X (am_FI G (d + 1) Q) mX10_count (0, 0) 137 [none, none] [am_i s0] (am_K0, σ) := by
  exact am_r_iret rfl rfl (show decode cX10_count 137 = .ok (.ireturn, 1) by decide +kernel) ⟨_, _, rfl, rfl, k⟩
theorem S_X10_count_138 {G : am_G} {d : Nat} {Q : Int → am_D → Prop} {σ : am_D}   (k1 : (σ.2.2 12 4) = none → am_X (am_FI G (d + 1) Q) mX10_count (0, 0) 148 [none, none] [] (am_K0, σ)) (k2 : ∀ a, (σ.2.2 12 4) = some a → am_X (am_FI G (d + 1) Q) mX10_count (0, 0) 152 [some (am_r (some 0)), none] [] (am_K0, σ)) : am_X (am_FI G (d + 1) Q) mX10_count (0, 0) 138 [some (am_r (some 0)), none] [] (am_K0, σ) := by
  refine am_r_aload_n (nx := 139) rfl rfl (show decode cX10_count 138 = .ok (.aload_n 0, 1) by decide +kernel) rfl ?_
  refine am_r_getF (nx := 142) 7 cw10 (by decide) rfl (Or.inl fl_X10_52) (ob_0) (fn_0_7) (show decode cX10_count 139 = .ok (.getfield 52, 3) by decide +kernel) rfl ?_
  refine am_r_getR (nx := 145) 4 cw3 (by decide) rfl (Or.inr ⟨_, fl_X10_166⟩) (obR (by unfold am_isR; decide)) (show decode cX10_count 142 = .ok (.getfield 166, 3) by decide +kernel) rfl ?_
  refine am_r_ifnonnull (tg := 152) (nx := 148) (show decode cX10_count 145 = .ok (.ifnonnull 7, 3) by decide +kernel) (by decide) rfl ?_ ?_
  · exact fun q => am_x_fg [0] (k1 q)
  · exact fun a q => k2 a q
theorem S_X10_count_148 {G : am_G} {d : Nat} {Q : Int → am_D → Prop} {σ : am_D}   (k : am_X (am_FI G (d + 1) Q) mX10_count (0, 0) 160 [none, none] [am_i 0] (am_K0, σ)) : am_X (am_FI G (d + 1) Q) mX10_count (0, 0) 148 [none, none] [] (am_K0, σ) := by
  refine am_r_iconst (nx := 149) (show decode cX10_count 148 = .ok (.iconst 0, 1) by decide +kernel) rfl ?_
  refine am_r_goto (tg := 160) (show decode cX10_count 149 = .ok (.goto 11, 3) by decide +kernel) (by decide) ?_
  exact k
theorem S_X10_count_152 {G : am_G} {d : Nat} {Q : Int → am_D → Prop} {σ : am_D} {Q' : Int → am_D → Prop} (hc : am_MI G d mX3_now [am_r (some 12), am_i 2] σ Q') (k : ∀ (x : Int) (σ' : am_D), Q' x σ' → am_X (am_FI G (d + 1) Q) mX10_count (0, 0) 160 [none, none] [am_i x] (am_K0, σ')) : am_X (am_FI G (d + 1) Q) mX10_count (0, 0) 152 [some (am_r (some 0)), none] [] (am_K0, σ) := by
  refine am_r_aload_n (nx := 153) rfl rfl (show decode cX10_count 152 = .ok (.aload_n 0, 1) by decide +kernel) rfl ?_
  refine am_r_getF (nx := 156) 7 cw10 (by decide) rfl (Or.inl fl_X10_52) (ob_0) (fn_0_7) (show decode cX10_count 153 = .ok (.getfield 52, 3) by decide +kernel) rfl ?_
  refine am_r_iconst (nx := 157) (show decode cX10_count 156 = .ok (.iconst 2, 1) by decide +kernel) rfl ?_
  refine am_r_callV (as := [am_i 2]) (st := []) hc mb_X3_now mv_X3_now (Or.inl ml_X10_173) (obR (by unfold am_isR; decide)) (by omega) (r := (RX3, TX3, 9)) rfl rfl rfl rfl (Nat.le_of_ble_eq_true rfl) ⟨Nat.le_refl _, Nat.le_refl _⟩ ⟨Nat.le_refl _, Nat.le_refl _⟩ (show decode cX10_count 157 = .ok (.invokevirtual 173, 3) by decide +kernel) ?_
  rintro _ _ ⟨x, σ', rfl, rfl, hq⟩ _
  exact am_x_fg [0] (k x σ' hq)
theorem S_X10_count_160 {G : am_G} {d : Nat} {Q : Int → am_D → Prop} {σ : am_D} {s0 : Int}  (k : Q s0 σ) : am_X (am_FI G (d + 1) Q) mX10_count (0, 0) 160 [none, none] [am_i s0] (am_K0, σ) := by
  exact am_r_iret rfl rfl (show decode cX10_count 160 = .ok (.ireturn, 1) by decide +kernel) ⟨_, _, rfl, rfl, k⟩
theorem S_X10_count_161 {G : am_G} {d : Nat} {Q : Int → am_D → Prop} {σ : am_D}   (k1 : (σ.2.2 12 4) = none → am_X (am_FI G (d + 1) Q) mX10_count (0, 0) 171 [none, none] [] (am_K0, σ)) (k2 : ∀ a, (σ.2.2 12 4) = some a → am_X (am_FI G (d + 1) Q) mX10_count (0, 0) 175 [some (am_r (some 0)), none] [] (am_K0, σ)) : am_X (am_FI G (d + 1) Q) mX10_count (0, 0) 161 [some (am_r (some 0)), none] [] (am_K0, σ) := by
  refine am_r_aload_n (nx := 162) rfl rfl (show decode cX10_count 161 = .ok (.aload_n 0, 1) by decide +kernel) rfl ?_
  refine am_r_getF (nx := 165) 7 cw10 (by decide) rfl (Or.inl fl_X10_52) (ob_0) (fn_0_7) (show decode cX10_count 162 = .ok (.getfield 52, 3) by decide +kernel) rfl ?_
  refine am_r_getR (nx := 168) 4 cw3 (by decide) rfl (Or.inr ⟨_, fl_X10_166⟩) (obR (by unfold am_isR; decide)) (show decode cX10_count 165 = .ok (.getfield 166, 3) by decide +kernel) rfl ?_
  refine am_r_ifnonnull (tg := 175) (nx := 171) (show decode cX10_count 168 = .ok (.ifnonnull 7, 3) by decide +kernel) (by decide) rfl ?_ ?_
  · exact fun q => am_x_fg [0] (k1 q)
  · exact fun a q => k2 a q
theorem S_X10_count_171 {G : am_G} {d : Nat} {Q : Int → am_D → Prop} {σ : am_D}   (k : am_X (am_FI G (d + 1) Q) mX10_count (0, 0) 183 [none, none] [am_i 0] (am_K0, σ)) : am_X (am_FI G (d + 1) Q) mX10_count (0, 0) 171 [none, none] [] (am_K0, σ) := by
  refine am_r_iconst (nx := 172) (show decode cX10_count 171 = .ok (.iconst 0, 1) by decide +kernel) rfl ?_
  refine am_r_goto (tg := 183) (show decode cX10_count 172 = .ok (.goto 11, 3) by decide +kernel) (by decide) ?_
  exact k
theorem S_X10_count_175 {G : am_G} {d : Nat} {Q : Int → am_D → Prop} {σ : am_D} {Q' : Int → am_D → Prop} (hc : am_MI G d mX3_now [am_r (some 12), am_i 3] σ Q') (k : ∀ (x : Int) (σ' : am_D), Q' x σ' → am_X (am_FI G (d + 1) Q) mX10_count (0, 0) 183 [none, none] [am_i x] (am_K0, σ')) : am_X (am_FI G (d + 1) Q) mX10_count (0, 0) 175 [some (am_r (some 0)), none] [] (am_K0, σ) := by
  refine am_r_aload_n (nx := 176) rfl rfl (show decode cX10_count 175 = .ok (.aload_n 0, 1) by decide +kernel) rfl ?_
  refine am_r_getF (nx := 179) 7 cw10 (by decide) rfl (Or.inl fl_X10_52) (ob_0) (fn_0_7) (show decode cX10_count 176 = .ok (.getfield 52, 3) by decide +kernel) rfl ?_
  refine am_r_iconst (nx := 180) (show decode cX10_count 179 = .ok (.iconst 3, 1) by decide +kernel) rfl ?_
  refine am_r_callV (as := [am_i 3]) (st := []) hc mb_X3_now mv_X3_now (Or.inl ml_X10_173) (obR (by unfold am_isR; decide)) (by omega) (r := (RX3, TX3, 9)) rfl rfl rfl rfl (Nat.le_of_ble_eq_true rfl) ⟨Nat.le_refl _, Nat.le_refl _⟩ ⟨Nat.le_refl _, Nat.le_refl _⟩ (show decode cX10_count 180 = .ok (.invokevirtual 173, 3) by decide +kernel) ?_
  rintro _ _ ⟨x, σ', rfl, rfl, hq⟩ _
  exact am_x_fg [0] (k x σ' hq)
theorem S_X10_count_183 {G : am_G} {d : Nat} {Q : Int → am_D → Prop} {σ : am_D} {s0 : Int}  (k : Q s0 σ) : am_X (am_FI G (d + 1) Q) mX10_count (0, 0) 183 [none, none] [am_i s0] (am_K0, σ) := by
  exact am_r_iret rfl rfl (show decode cX10_count 183 = .ok (.ireturn, 1) by decide +kernel) ⟨_, _, rfl, rfl, k⟩
theorem S_X10_count_184 {G : am_G} {d : Nat} {Q : Int → am_D → Prop} {σ : am_D}   (k : Q (σ.1 1 1) σ) : am_X (am_FI G (d + 1) Q) mX10_count (0, 0) 184 [some (am_r (some 0)), none] [] (am_K0, σ) := by
  refine am_r_aload_n (nx := 185) rfl rfl (show decode cX10_count 184 = .ok (.aload_n 0, 1) by decide +kernel) rfl ?_
  refine am_r_getF (nx := 188) 0 cw10 (by decide) rfl (Or.inl fl_X10_12) (ob_0) (fn_0_0) (show decode cX10_count 185 = .ok (.getfield 12, 3) by decide +kernel) rfl ?_
  refine am_r_getI (nx := 191) 1 cw7 (by decide) rfl (Or.inr ⟨_, fl_X10_100⟩) (ob_1) (show decode cX10_count 188 = .ok (.getfield 100, 3) by decide +kernel) rfl ?_
  exact am_r_iret rfl rfl (show decode cX10_count 191 = .ok (.ireturn, 1) by decide +kernel) ⟨_, _, rfl, rfl, k⟩
theorem S_X10_count_192 {G : am_G} {d : Nat} {Q : Int → am_D → Prop} {σ : am_D}   (k : Q (-1) σ) : am_X (am_FI G (d + 1) Q) mX10_count (0, 0) 192 [none, none] [] (am_K0, σ) := by
  refine am_r_iconst (nx := 193) (show decode cX10_count 192 = .ok (.iconst (-1), 1) by decide +kernel) rfl ?_
  exact am_r_iret rfl rfl (show decode cX10_count 193 = .ok (.ireturn, 1) by decide +kernel) ⟨_, _, rfl, rfl, k⟩
theorem S_X10_event_0 {G : am_G} {d : Nat} {Q : Int → am_D → Prop} {σ : am_D} {v1 : Int} {v2 : Int} (hr1 : -2147483648 ≤ v2 ∧ v2 ≤ 2147483647) (k1 : v2 = 0 → am_X (am_FI G (d + 1) Q) mX10_event (0, 0) 15 [some (am_r (some 0)), some (am_i v1), none] [] (am_K0, σ)) (k2 : ¬ (v2 = 0) → am_X (am_FI G (d + 1) Q) mX10_event (0, 0) 4 [some (am_r (some 0)), some (am_i v1), none] [] (am_K0, σ)) : am_X (am_FI G (d + 1) Q) mX10_event (0, 0) 0 [some (am_r (some 0)), some (am_i v1), some (am_i v2)] [] (am_K0, σ) := by
  refine am_r_iload_n (nx := 1) rfl rfl (show decode cX10_event 0 = .ok (.iload_n 2, 1) by decide +kernel) rfl ?_
  refine am_r_if_eq (tg := 15) (nx := 4) (show decode cX10_event 1 = .ok (.ifCond .eq 14, 3) by decide +kernel) (by decide) rfl hr1 ?_ ?_
  · exact fun q => am_x_fg [2] (k1 q)
  · exact fun q => am_x_fg [2] (k2 q)
theorem S_X10_event_4 {G : am_G} {d : Nat} {Q : Int → am_D → Prop} {σ : am_D} {v1 : Int} {Q' : Int → am_D → Prop} (hc : am_MI G d mX0_signAt [am_r (some 10), am_i v1] σ Q') (k : ∀ (x : Int) (σ' : am_D), Q' x σ' → am_X (am_FI G (d + 1) Q) mX10_event (0, 0) 12 [none, none, none] [am_i x] (am_K0, σ')) : am_X (am_FI G (d + 1) Q) mX10_event (0, 0) 4 [some (am_r (some 0)), some (am_i v1), none] [] (am_K0, σ) := by
  refine am_r_aload_n (nx := 5) rfl rfl (show decode cX10_event 4 = .ok (.aload_n 0, 1) by decide +kernel) rfl ?_
  refine am_r_getF (nx := 8) 6 cw10 (by decide) rfl (Or.inl fl_X10_46) (ob_0) (fn_0_6) (show decode cX10_event 5 = .ok (.getfield 46, 3) by decide +kernel) rfl ?_
  refine am_r_iload_n (nx := 9) rfl rfl (show decode cX10_event 8 = .ok (.iload_n 1, 1) by decide +kernel) rfl ?_
  refine am_r_callV (as := [am_i v1]) (st := []) hc mb_X0_signAt mv_X0_signAt (Or.inl ml_X10_177) (obE (by unfold am_isE; decide)) (by omega) (r := (RX0, TX0, 2)) rfl rfl rfl rfl (Nat.le_of_ble_eq_true rfl) ⟨Nat.le_refl _, Nat.le_refl _⟩ ⟨Nat.le_refl _, Nat.le_refl _⟩ (show decode cX10_event 9 = .ok (.invokevirtual 177, 3) by decide +kernel) ?_
  rintro _ _ ⟨x, σ', rfl, rfl, hq⟩ _
  exact am_x_fg [0, 1] (k x σ' hq)
theorem S_X10_event_12 {G : am_G} {d : Nat} {Q : Int → am_D → Prop} {σ : am_D} {s0 : Int}  (k : am_X (am_FI G (d + 1) Q) mX10_event (0, 0) 23 [none, none, none] [am_i s0] (am_K0, σ)) : am_X (am_FI G (d + 1) Q) mX10_event (0, 0) 12 [none, none, none] [am_i s0] (am_K0, σ) := by
  refine am_r_goto (tg := 23) (show decode cX10_event 12 = .ok (.goto 11, 3) by decide +kernel) (by decide) ?_
  exact k
theorem S_X10_event_15 {G : am_G} {d : Nat} {Q : Int → am_D → Prop} {σ : am_D} {v1 : Int} {Q' : Int → am_D → Prop} (hc : am_MI G d mX0_signAt [am_r (some 6), am_i v1] σ Q') (k : ∀ (x : Int) (σ' : am_D), Q' x σ' → am_X (am_FI G (d + 1) Q) mX10_event (0, 0) 23 [none, none, none] [am_i x] (am_K0, σ')) : am_X (am_FI G (d + 1) Q) mX10_event (0, 0) 15 [some (am_r (some 0)), some (am_i v1), none] [] (am_K0, σ) := by
  refine am_r_aload_n (nx := 16) rfl rfl (show decode cX10_event 15 = .ok (.aload_n 0, 1) by decide +kernel) rfl ?_
  refine am_r_getF (nx := 19) 4 cw10 (by decide) rfl (Or.inl fl_X10_39) (ob_0) (fn_0_4) (show decode cX10_event 16 = .ok (.getfield 39, 3) by decide +kernel) rfl ?_
  refine am_r_iload_n (nx := 20) rfl rfl (show decode cX10_event 19 = .ok (.iload_n 1, 1) by decide +kernel) rfl ?_
  refine am_r_callV (as := [am_i v1]) (st := []) hc mb_X0_signAt mv_X0_signAt (Or.inl ml_X10_177) (obE (by unfold am_isE; decide)) (by omega) (r := (RX0, TX0, 2)) rfl rfl rfl rfl (Nat.le_of_ble_eq_true rfl) ⟨Nat.le_refl _, Nat.le_refl _⟩ ⟨Nat.le_refl _, Nat.le_refl _⟩ (show decode cX10_event 20 = .ok (.invokevirtual 177, 3) by decide +kernel) ?_
  rintro _ _ ⟨x, σ', rfl, rfl, hq⟩ _
  exact am_x_fg [0, 1] (k x σ' hq)
theorem S_X10_event_23 {G : am_G} {d : Nat} {Q : Int → am_D → Prop} {σ : am_D} {s0 : Int}  (k : Q s0 σ) : am_X (am_FI G (d + 1) Q) mX10_event (0, 0) 23 [none, none, none] [am_i s0] (am_K0, σ) := by
  exact am_r_iret rfl rfl (show decode cX10_event 23 = .ok (.ireturn, 1) by decide +kernel) ⟨_, _, rfl, rfl, k⟩
theorem S_X10_take_0 {G : am_G} {d : Nat} {Q : Int → am_D → Prop} {σ : am_D} {Q' : Int → am_D → Prop} (hc : am_MI G d mX0_elements [am_r (some 10)] σ Q') (k : ∀ (x : Int) (σ' : am_D), Q' x σ' → am_X (am_FI G (d + 1) Q) mX10_take (0, 0) 7 [some (am_r (some 0))] [am_i x] (am_K0, σ')) : am_X (am_FI G (d + 1) Q) mX10_take (0, 0) 0 [some (am_r (some 0))] [] (am_K0, σ) := by
  refine am_r_aload_n (nx := 1) rfl rfl (show decode cX10_take 0 = .ok (.aload_n 0, 1) by decide +kernel) rfl ?_
  refine am_r_getF (nx := 4) 6 cw10 (by decide) rfl (Or.inl fl_X10_46) (ob_0) (fn_0_6) (show decode cX10_take 1 = .ok (.getfield 46, 3) by decide +kernel) rfl ?_
  refine am_r_callV (as := []) (st := []) hc mb_X0_elements mv_X0_elements (Or.inl ml_X10_126) (obE (by unfold am_isE; decide)) (by omega) (r := (RX0, TX0, 2)) rfl rfl rfl rfl (Nat.le_of_ble_eq_true rfl) ⟨Nat.le_refl _, Nat.le_refl _⟩ ⟨Nat.le_refl _, Nat.le_refl _⟩ (show decode cX10_take 4 = .ok (.invokevirtual 126, 3) by decide +kernel) ?_
  rintro _ _ ⟨x, σ', rfl, rfl, hq⟩ _
  exact (k x σ' hq)
theorem S_X10_take_7 {G : am_G} {d : Nat} {Q : Int → am_D → Prop} {σ : am_D} {s0 : Int} (hr1 : -2147483648 ≤ s0 ∧ s0 ≤ 2147483647) (k1 : s0 ≤ 40 → am_X (am_FI G (d + 1) Q) mX10_take (0, 0) 14 [some (am_r (some 0))] [] (am_K0, σ)) (k2 : ¬ (s0 ≤ 40) → am_X (am_FI G (d + 1) Q) mX10_take (0, 0) 12 [none] [] (am_K0, σ)) : am_X (am_FI G (d + 1) Q) mX10_take (0, 0) 7 [some (am_r (some 0))] [am_i s0] (am_K0, σ) := by
  refine am_r_bipush (nx := 9) rfl (show decode cX10_take 7 = .ok (.bipush 40, 2) by decide +kernel) rfl ?_
  refine am_r_icmp_le (tg := 14) (nx := 12) (show decode cX10_take 9 = .ok (.if_icmp .le 5, 3) by decide +kernel) (by decide) rfl hr1 (by omega) ?_ ?_
  · exact fun q => k1 q
  · exact fun q => am_x_fg [0] (k2 q)
theorem S_X10_take_12 {G : am_G} {d : Nat} {Q : Int → am_D → Prop} {σ : am_D}   (k : Q (-1) σ) : am_X (am_FI G (d + 1) Q) mX10_take (0, 0) 12 [none] [] (am_K0, σ) := by
  refine am_r_iconst (nx := 13) (show decode cX10_take 12 = .ok (.iconst (-1), 1) by decide +kernel) rfl ?_
  exact am_r_iret rfl rfl (show decode cX10_take 13 = .ok (.ireturn, 1) by decide +kernel) ⟨_, _, rfl, rfl, k⟩
theorem S_X10_take_14 {G : am_G} {d : Nat} {Q : Int → am_D → Prop} {σ : am_D} {Q' : am_D → Prop} (hc : am_MV G d mX0_become [am_r (some 6), am_r (some 10)] σ Q') (k : ∀ σ' : am_D, Q' σ' → am_X (am_FI G (d + 1) Q) mX10_take (0, 0) 25 [some (am_r (some 0))] [] (am_K0, σ')) : am_X (am_FI G (d + 1) Q) mX10_take (0, 0) 14 [some (am_r (some 0))] [] (am_K0, σ) := by
  refine am_r_aload_n (nx := 15) rfl rfl (show decode cX10_take 14 = .ok (.aload_n 0, 1) by decide +kernel) rfl ?_
  refine am_r_getF (nx := 18) 4 cw10 (by decide) rfl (Or.inl fl_X10_39) (ob_0) (fn_0_4) (show decode cX10_take 15 = .ok (.getfield 39, 3) by decide +kernel) rfl ?_
  refine am_r_aload_n (nx := 19) rfl rfl (show decode cX10_take 18 = .ok (.aload_n 0, 1) by decide +kernel) rfl ?_
  refine am_r_getF (nx := 22) 6 cw10 (by decide) rfl (Or.inl fl_X10_46) (ob_0) (fn_0_6) (show decode cX10_take 19 = .ok (.getfield 46, 3) by decide +kernel) rfl ?_
  refine am_r_callV (as := [am_r (some 10)]) (st := []) hc mb_X0_become mv_X0_become (Or.inl ml_X10_123) (obE (by unfold am_isE; decide)) (by omega) (r := (RX0, TX0, 2)) rfl rfl rfl rfl (Nat.le_of_ble_eq_true rfl) ⟨Nat.le_refl _, Nat.le_refl _⟩ ⟨Nat.le_refl _, Nat.le_refl _⟩ (show decode cX10_take 22 = .ok (.invokevirtual 123, 3) by decide +kernel) ?_
  rintro _ _ ⟨σ', rfl, rfl, hq⟩ _
  exact (k σ' hq)
theorem S_X10_take_25 {G : am_G} {d : Nat} {Q : Int → am_D → Prop} {σ : am_D} {Q' : Int → am_D → Prop} (hc : am_MI G d mX0_elements [am_r (some 6)] σ Q') (k : ∀ (x : Int) (σ' : am_D), Q' x σ' → Q x σ') : am_X (am_FI G (d + 1) Q) mX10_take (0, 0) 25 [some (am_r (some 0))] [] (am_K0, σ) := by
  refine am_r_aload_n (nx := 26) rfl rfl (show decode cX10_take 25 = .ok (.aload_n 0, 1) by decide +kernel) rfl ?_
  refine am_r_getF (nx := 29) 4 cw10 (by decide) rfl (Or.inl fl_X10_39) (ob_0) (fn_0_4) (show decode cX10_take 26 = .ok (.getfield 39, 3) by decide +kernel) rfl ?_
  refine am_r_callV (as := []) (st := []) hc mb_X0_elements mv_X0_elements (Or.inl ml_X10_126) (obE (by unfold am_isE; decide)) (by omega) (r := (RX0, TX0, 2)) rfl rfl rfl rfl (Nat.le_of_ble_eq_true rfl) ⟨Nat.le_refl _, Nat.le_refl _⟩ ⟨Nat.le_refl _, Nat.le_refl _⟩ (show decode cX10_take 29 = .ok (.invokevirtual 126, 3) by decide +kernel) ?_
  rintro _ _ ⟨x, σ', rfl, rfl, hq⟩ _
  exact am_r_iret rfl rfl (show decode cX10_take 32 = .ok (.ireturn, 1) by decide +kernel) ⟨_, _, rfl, rfl, (k x σ' hq)⟩
theorem S_X10_begin_0 {G : am_G} {d : Nat} {Q : Int → am_D → Prop} {σ : am_D} {v1 : Int} {Q' : Option Nat → am_D → Prop} (hc : am_MR G d mX10_told [am_r (some 0), am_i v1] σ Q') (k : ∀ (x : Option Nat) (σ' : am_D), Q' x σ' → am_X (am_FI G (d + 1) Q) mX10_begin (0, 0) 6 [some (am_r (some 0)), none, some (am_r x)] [] (am_K0, σ')) : am_X (am_FI G (d + 1) Q) mX10_begin (0, 0) 0 [some (am_r (some 0)), some (am_i v1), none] [] (am_K0, σ) := by
  refine am_r_aload_n (nx := 1) rfl rfl (show decode cX10_begin 0 = .ok (.aload_n 0, 1) by decide +kernel) rfl ?_
  refine am_r_iload_n (nx := 2) rfl rfl (show decode cX10_begin 1 = .ok (.iload_n 1, 1) by decide +kernel) rfl ?_
  refine am_r_callV (as := [am_i v1]) (st := []) hc mb_X10_told mv_X10_told (Or.inl ml_X10_129) (ob_0) (by omega) (r := (RX10, TX10, 14)) rfl rfl rfl rfl (Nat.le_of_ble_eq_true rfl) ⟨Nat.le_refl _, Nat.le_refl _⟩ ⟨Nat.le_refl _, Nat.le_refl _⟩ (show decode cX10_begin 2 = .ok (.invokevirtual 129, 3) by decide +kernel) ?_
  rintro _ _ ⟨x, σ', rfl, rfl, hq⟩ _
  refine am_r_astore_n (nx := 6) rfl (by decide) rfl (show decode cX10_begin 5 = .ok (.astore_n 2, 1) by decide +kernel) rfl ?_
  exact am_x_fg [1] (k x σ' hq)
theorem S_X10_begin_6 {G : am_G} {d : Nat} {Q : Int → am_D → Prop} {σ : am_D} {v2 : Option Nat}  (k1 : v2 = none → am_X (am_FI G (d + 1) Q) mX10_begin (0, 0) 10 [none, none, none] [] (am_K0, σ)) (k2 : ∀ a, v2 = some a → am_X (am_FI G (d + 1) Q) mX10_begin (0, 0) 12 [some (am_r (some 0)), none, some (am_r v2)] [] (am_K0, σ)) : am_X (am_FI G (d + 1) Q) mX10_begin (0, 0) 6 [some (am_r (some 0)), none, some (am_r v2)] [] (am_K0, σ) := by
  refine am_r_aload_n (nx := 7) rfl rfl (show decode cX10_begin 6 = .ok (.aload_n 2, 1) by decide +kernel) rfl ?_
  refine am_r_ifnonnull (tg := 12) (nx := 10) (show decode cX10_begin 7 = .ok (.ifnonnull 5, 3) by decide +kernel) (by decide) rfl ?_ ?_
  · exact fun q => am_x_fg [0, 2] (k1 q)
  · exact fun a q => k2 a q
theorem S_X10_begin_10 {G : am_G} {d : Nat} {Q : Int → am_D → Prop} {σ : am_D}   (k : Q (-1) σ) : am_X (am_FI G (d + 1) Q) mX10_begin (0, 0) 10 [none, none, none] [] (am_K0, σ) := by
  refine am_r_iconst (nx := 11) (show decode cX10_begin 10 = .ok (.iconst (-1), 1) by decide +kernel) rfl ?_
  exact am_r_iret rfl rfl (show decode cX10_begin 11 = .ok (.ireturn, 1) by decide +kernel) ⟨_, _, rfl, rfl, k⟩
theorem S_X10_begin_12 {G : am_G} {d : Nat} {Q : Int → am_D → Prop} {σ : am_D} {v2 : Option Nat} {Q' : am_D → Prop} (hc : am_MV G d mX3_start [am_r (some 12), am_r v2] σ Q') (k : ∀ σ' : am_D, Q' σ' → am_X (am_FI G (d + 1) Q) mX10_begin (0, 0) 20 [some (am_r (some 0)), none, none] [] (am_K0, σ')) : am_X (am_FI G (d + 1) Q) mX10_begin (0, 0) 12 [some (am_r (some 0)), none, some (am_r v2)] [] (am_K0, σ) := by
  refine am_r_aload_n (nx := 13) rfl rfl (show decode cX10_begin 12 = .ok (.aload_n 0, 1) by decide +kernel) rfl ?_
  refine am_r_getF (nx := 16) 7 cw10 (by decide) rfl (Or.inl fl_X10_52) (ob_0) (fn_0_7) (show decode cX10_begin 13 = .ok (.getfield 52, 3) by decide +kernel) rfl ?_
  refine am_r_aload_n (nx := 17) rfl rfl (show decode cX10_begin 16 = .ok (.aload_n 2, 1) by decide +kernel) rfl ?_
  refine am_r_callV (as := [am_r v2]) (st := []) hc mb_X3_start mv_X3_start (Or.inl ml_X10_180) (obR (by unfold am_isR; decide)) (by omega) (r := (RX3, TX3, 9)) rfl rfl rfl rfl (Nat.le_of_ble_eq_true rfl) ⟨Nat.le_refl _, Nat.le_refl _⟩ ⟨Nat.le_refl _, Nat.le_refl _⟩ (show decode cX10_begin 17 = .ok (.invokevirtual 180, 3) by decide +kernel) ?_
  rintro _ _ ⟨σ', rfl, rfl, hq⟩ _
  exact am_x_fg [2] (k σ' hq)
theorem S_X10_begin_20 {G : am_G} {d : Nat} {Q : Int → am_D → Prop} {σ : am_D} {Q' : Int → am_D → Prop} (hc : am_MI G d mX3_now [am_r (some 12), am_i 0] σ Q') (k : ∀ (x : Int) (σ' : am_D), Q' x σ' → Q x σ') : am_X (am_FI G (d + 1) Q) mX10_begin (0, 0) 20 [some (am_r (some 0)), none, none] [] (am_K0, σ) := by
  refine am_r_aload_n (nx := 21) rfl rfl (show decode cX10_begin 20 = .ok (.aload_n 0, 1) by decide +kernel) rfl ?_
  refine am_r_getF (nx := 24) 7 cw10 (by decide) rfl (Or.inl fl_X10_52) (ob_0) (fn_0_7) (show decode cX10_begin 21 = .ok (.getfield 52, 3) by decide +kernel) rfl ?_
  refine am_r_iconst (nx := 25) (show decode cX10_begin 24 = .ok (.iconst 0, 1) by decide +kernel) rfl ?_
  refine am_r_callV (as := [am_i 0]) (st := []) hc mb_X3_now mv_X3_now (Or.inl ml_X10_173) (obR (by unfold am_isR; decide)) (by omega) (r := (RX3, TX3, 9)) rfl rfl rfl rfl (Nat.le_of_ble_eq_true rfl) ⟨Nat.le_refl _, Nat.le_refl _⟩ ⟨Nat.le_refl _, Nat.le_refl _⟩ (show decode cX10_begin 25 = .ok (.invokevirtual 173, 3) by decide +kernel) ?_
  rintro _ _ ⟨x, σ', rfl, rfl, hq⟩ _
  exact am_r_iret rfl rfl (show decode cX10_begin 28 = .ok (.ireturn, 1) by decide +kernel) ⟨_, _, rfl, rfl, (k x σ' hq)⟩
theorem S_X10_next_0 {G : am_G} {d : Nat} {Q : Int → am_D → Prop} {σ : am_D} {v1 : Int}  (k1 : (σ.2.2 12 4) = none → am_X (am_FI G (d + 1) Q) mX10_next (0, 0) 19 [none, none, none] [] (am_K0, σ)) (k2 : ∀ a, (σ.2.2 12 4) = some a → am_X (am_FI G (d + 1) Q) mX10_next (0, 0) 10 [some (am_r (some 0)), some (am_i v1), none] [] (am_K0, σ)) : am_X (am_FI G (d + 1) Q) mX10_next (0, 0) 0 [some (am_r (some 0)), some (am_i v1), none] [] (am_K0, σ) := by
  refine am_r_aload_n (nx := 1) rfl rfl (show decode cX10_next 0 = .ok (.aload_n 0, 1) by decide +kernel) rfl ?_
  refine am_r_getF (nx := 4) 7 cw10 (by decide) rfl (Or.inl fl_X10_52) (ob_0) (fn_0_7) (show decode cX10_next 1 = .ok (.getfield 52, 3) by decide +kernel) rfl ?_
  refine am_r_getR (nx := 7) 4 cw3 (by decide) rfl (Or.inr ⟨_, fl_X10_166⟩) (obR (by unfold am_isR; decide)) (show decode cX10_next 4 = .ok (.getfield 166, 3) by decide +kernel) rfl ?_
  refine am_r_ifnull (tg := 19) (nx := 10) (show decode cX10_next 7 = .ok (.ifnull 12, 3) by decide +kernel) (by decide) rfl ?_ ?_
  · exact fun q => am_x_fg [0, 1] (k1 q)
  · exact fun a q => k2 a q
theorem S_X10_next_10 {G : am_G} {d : Nat} {Q : Int → am_D → Prop} {σ : am_D} {v1 : Int} (hr1 : -2147483648 ≤ v1 ∧ v1 ≤ 2147483647) (k1 : v1 < 0 → am_X (am_FI G (d + 1) Q) mX10_next (0, 0) 19 [none, none, none] [] (am_K0, σ)) (k2 : ¬ (v1 < 0) → am_X (am_FI G (d + 1) Q) mX10_next (0, 0) 14 [some (am_r (some 0)), some (am_i v1), none] [] (am_K0, σ)) : am_X (am_FI G (d + 1) Q) mX10_next (0, 0) 10 [some (am_r (some 0)), some (am_i v1), none] [] (am_K0, σ) := by
  refine am_r_iload_n (nx := 11) rfl rfl (show decode cX10_next 10 = .ok (.iload_n 1, 1) by decide +kernel) rfl ?_
  refine am_r_if_lt (tg := 19) (nx := 14) (show decode cX10_next 11 = .ok (.ifCond .lt 8, 3) by decide +kernel) (by decide) rfl hr1 ?_ ?_
  · exact fun q => am_x_fg [0, 1] (k1 q)
  · exact fun q => k2 q
theorem S_X10_next_14 {G : am_G} {d : Nat} {Q : Int → am_D → Prop} {σ : am_D} {v1 : Int} (hr1 : -2147483648 ≤ v1 ∧ v1 ≤ 2147483647) (k1 : v1 ≤ 3 → am_X (am_FI G (d + 1) Q) mX10_next (0, 0) 21 [some (am_r (some 0)), some (am_i v1), none] [] (am_K0, σ)) (k2 : ¬ (v1 ≤ 3) → am_X (am_FI G (d + 1) Q) mX10_next (0, 0) 19 [none, none, none] [] (am_K0, σ)) : am_X (am_FI G (d + 1) Q) mX10_next (0, 0) 14 [some (am_r (some 0)), some (am_i v1), none] [] (am_K0, σ) := by
  refine am_r_iload_n (nx := 15) rfl rfl (show decode cX10_next 14 = .ok (.iload_n 1, 1) by decide +kernel) rfl ?_
  refine am_r_iconst (nx := 16) (show decode cX10_next 15 = .ok (.iconst 3, 1) by decide +kernel) rfl ?_
  refine am_r_icmp_le (tg := 21) (nx := 19) (show decode cX10_next 16 = .ok (.if_icmp .le 5, 3) by decide +kernel) (by decide) rfl hr1 (by omega) ?_ ?_
  · exact fun q => k1 q
  · exact fun q => am_x_fg [0, 1] (k2 q)
theorem S_X10_next_19 {G : am_G} {d : Nat} {Q : Int → am_D → Prop} {σ : am_D}   (k : Q (-1) σ) : am_X (am_FI G (d + 1) Q) mX10_next (0, 0) 19 [none, none, none] [] (am_K0, σ) := by
  refine am_r_iconst (nx := 20) (show decode cX10_next 19 = .ok (.iconst (-1), 1) by decide +kernel) rfl ?_
  exact am_r_iret rfl rfl (show decode cX10_next 20 = .ok (.ireturn, 1) by decide +kernel) ⟨_, _, rfl, rfl, k⟩
theorem S_X10_next_21 {G : am_G} {d : Nat} {Q : Int → am_D → Prop} {σ : am_D} {v1 : Int} {Q' : Int → am_D → Prop} (hc : am_MI G d mX3_now [am_r (some 12), am_i 1] σ Q') (k : ∀ (x : Int) (σ' : am_D), Q' x σ' → am_X (am_FI G (d + 1) Q) mX10_next (0, 0) 30 [some (am_r (some 0)), some (am_i v1), some (am_i x)] [] (am_K0, σ')) : am_X (am_FI G (d + 1) Q) mX10_next (0, 0) 21 [some (am_r (some 0)), some (am_i v1), none] [] (am_K0, σ) := by
  refine am_r_aload_n (nx := 22) rfl rfl (show decode cX10_next 21 = .ok (.aload_n 0, 1) by decide +kernel) rfl ?_
  refine am_r_getF (nx := 25) 7 cw10 (by decide) rfl (Or.inl fl_X10_52) (ob_0) (fn_0_7) (show decode cX10_next 22 = .ok (.getfield 52, 3) by decide +kernel) rfl ?_
  refine am_r_iconst (nx := 26) (show decode cX10_next 25 = .ok (.iconst 1, 1) by decide +kernel) rfl ?_
  refine am_r_callV (as := [am_i 1]) (st := []) hc mb_X3_now mv_X3_now (Or.inl ml_X10_173) (obR (by unfold am_isR; decide)) (by omega) (r := (RX3, TX3, 9)) rfl rfl rfl rfl (Nat.le_of_ble_eq_true rfl) ⟨Nat.le_refl _, Nat.le_refl _⟩ ⟨Nat.le_refl _, Nat.le_refl _⟩ (show decode cX10_next 26 = .ok (.invokevirtual 173, 3) by decide +kernel) ?_
  rintro _ _ ⟨x, σ', rfl, rfl, hq⟩ _
  refine am_r_istore_n (nx := 30) rfl (by decide) rfl (show decode cX10_next 29 = .ok (.istore_n 2, 1) by decide +kernel) rfl ?_
  exact (k x σ' hq)
theorem S_X10_next_30 {G : am_G} {d : Nat} {Q : Int → am_D → Prop} {σ : am_D} {v1 : Int} {v2 : Int} (hr1 : -2147483648 ≤ v1 ∧ v1 ≤ 2147483647) (k1 : ¬ v1 = 3 → am_X (am_FI G (d + 1) Q) mX10_next (0, 0) 42 [some (am_r (some 0)), some (am_i v1), some (am_i v2)] [] (am_K0, σ)) (k2 : ¬ (¬ v1 = 3) → am_X (am_FI G (d + 1) Q) mX10_next (0, 0) 35 [some (am_r (some 0)), some (am_i v1), some (am_i v2)] [] (am_K0, σ)) : am_X (am_FI G (d + 1) Q) mX10_next (0, 0) 30 [some (am_r (some 0)), some (am_i v1), some (am_i v2)] [] (am_K0, σ) := by
  refine am_r_iload_n (nx := 31) rfl rfl (show decode cX10_next 30 = .ok (.iload_n 1, 1) by decide +kernel) rfl ?_
  refine am_r_iconst (nx := 32) (show decode cX10_next 31 = .ok (.iconst 3, 1) by decide +kernel) rfl ?_
  refine am_r_icmp_ne (tg := 42) (nx := 35) (show decode cX10_next 32 = .ok (.if_icmp .ne 10, 3) by decide +kernel) (by decide) rfl hr1 (by omega) ?_ ?_
  · exact fun q => k1 q
  · exact fun q => k2 q
theorem S_X10_next_35 {G : am_G} {d : Nat} {Q : Int → am_D → Prop} {σ : am_D} {v1 : Int} {v2 : Int} (hr1 : -2147483648 ≤ v2 ∧ v2 ≤ 2147483647) (k1 : ¬ v2 = 0 → am_X (am_FI G (d + 1) Q) mX10_next (0, 0) 42 [some (am_r (some 0)), some (am_i v1), some (am_i v2)] [] (am_K0, σ)) (k2 : ¬ (¬ v2 = 0) → am_X (am_FI G (d + 1) Q) mX10_next (0, 0) 39 [none, none, none] [] (am_K0, σ)) : am_X (am_FI G (d + 1) Q) mX10_next (0, 0) 35 [some (am_r (some 0)), some (am_i v1), some (am_i v2)] [] (am_K0, σ) := by
  refine am_r_iload_n (nx := 36) rfl rfl (show decode cX10_next 35 = .ok (.iload_n 2, 1) by decide +kernel) rfl ?_
  refine am_r_if_ne (tg := 42) (nx := 39) (show decode cX10_next 36 = .ok (.ifCond .ne 6, 3) by decide +kernel) (by decide) rfl hr1 ?_ ?_
  · exact fun q => k1 q
  · exact fun q => am_x_fg [0, 1, 2] (k2 q)
theorem S_X10_next_39 {G : am_G} {d : Nat} {Q : Int → am_D → Prop} {σ : am_D}   (k : Q (-2) σ) : am_X (am_FI G (d + 1) Q) mX10_next (0, 0) 39 [none, none, none] [] (am_K0, σ) := by
  refine am_r_bipush (nx := 41) rfl (show decode cX10_next 39 = .ok (.bipush (-2), 2) by decide +kernel) rfl ?_
  exact am_r_iret rfl rfl (show decode cX10_next 41 = .ok (.ireturn, 1) by decide +kernel) ⟨_, _, rfl, rfl, k⟩
theorem S_X10_next_42 {G : am_G} {d : Nat} {Q : Int → am_D → Prop} {σ : am_D} {v1 : Int} {v2 : Int} (hr1 : -2147483648 ≤ v1 ∧ v1 ≤ 2147483647) (k1 : v1 = 3 → am_X (am_FI G (d + 1) Q) mX10_next (0, 0) 69 [some (am_r (some 0)), some (am_i v1), none] [] (am_K0, σ)) (k2 : ¬ (v1 = 3) → am_X (am_FI G (d + 1) Q) mX10_next (0, 0) 47 [some (am_r (some 0)), some (am_i v1), some (am_i v2)] [] (am_K0, σ)) : am_X (am_FI G (d + 1) Q) mX10_next (0, 0) 42 [some (am_r (some 0)), some (am_i v1), some (am_i v2)] [] (am_K0, σ) := by
  refine am_r_iload_n (nx := 43) rfl rfl (show decode cX10_next 42 = .ok (.iload_n 1, 1) by decide +kernel) rfl ?_
  refine am_r_iconst (nx := 44) (show decode cX10_next 43 = .ok (.iconst 3, 1) by decide +kernel) rfl ?_
  refine am_r_icmp_eq (tg := 69) (nx := 47) (show decode cX10_next 44 = .ok (.if_icmp .eq 25, 3) by decide +kernel) (by decide) rfl hr1 (by omega) ?_ ?_
  · exact fun q => am_x_fg [2] (k1 q)
  · exact fun q => k2 q
theorem S_X10_next_47 {G : am_G} {d : Nat} {Q : Int → am_D → Prop} {σ : am_D} {v1 : Int} {v2 : Int} (hr1 : -2147483648 ≤ v2 ∧ v2 ≤ 2147483647) (k1 : 60 ≤ v2 → am_X (am_FI G (d + 1) Q) mX10_next (0, 0) 66 [none, none, none] [] (am_K0, σ)) (k2 : ¬ (60 ≤ v2) → am_X (am_FI G (d + 1) Q) mX10_next (0, 0) 53 [some (am_r (some 0)), some (am_i v1), none] [] (am_K0, σ)) : am_X (am_FI G (d + 1) Q) mX10_next (0, 0) 47 [some (am_r (some 0)), some (am_i v1), some (am_i v2)] [] (am_K0, σ) := by
  refine am_r_iload_n (nx := 48) rfl rfl (show decode cX10_next 47 = .ok (.iload_n 2, 1) by decide +kernel) rfl ?_
  refine am_r_bipush (nx := 50) rfl (show decode cX10_next 48 = .ok (.bipush 60, 2) by decide +kernel) rfl ?_
  refine am_r_icmp_ge (tg := 66) (nx := 53) (show decode cX10_next 50 = .ok (.if_icmp .ge 16, 3) by decide +kernel) (by decide) rfl hr1 (by omega) ?_ ?_
  · exact fun q => am_x_fg [0, 1, 2] (k1 q)
  · exact fun q => am_x_fg [2] (k2 q)
theorem S_X10_next_53 {G : am_G} {d : Nat} {Q : Int → am_D → Prop} {σ : am_D} {v1 : Int} {Q' : Int → am_D → Prop} (hc : am_MI G d mX3_opens [am_r (some 12)] σ Q') (k : ∀ (x : Int) (σ' : am_D), Q' x σ' → am_X (am_FI G (d + 1) Q) mX10_next (0, 0) 60 [some (am_r (some 0)), some (am_i v1), none] [am_i x] (am_K0, σ')) : am_X (am_FI G (d + 1) Q) mX10_next (0, 0) 53 [some (am_r (some 0)), some (am_i v1), none] [] (am_K0, σ) := by
  refine am_r_aload_n (nx := 54) rfl rfl (show decode cX10_next 53 = .ok (.aload_n 0, 1) by decide +kernel) rfl ?_
  refine am_r_getF (nx := 57) 7 cw10 (by decide) rfl (Or.inl fl_X10_52) (ob_0) (fn_0_7) (show decode cX10_next 54 = .ok (.getfield 52, 3) by decide +kernel) rfl ?_
  refine am_r_callV (as := []) (st := []) hc mb_X3_opens mv_X3_opens (Or.inl ml_X10_183) (obR (by unfold am_isR; decide)) (by omega) (r := (RX3, TX3, 9)) rfl rfl rfl rfl (Nat.le_of_ble_eq_true rfl) ⟨Nat.le_refl _, Nat.le_refl _⟩ ⟨Nat.le_refl _, Nat.le_refl _⟩ (show decode cX10_next 57 = .ok (.invokevirtual 183, 3) by decide +kernel) ?_
  rintro _ _ ⟨x, σ', rfl, rfl, hq⟩ _
  exact (k x σ' hq)
theorem S_X10_next_60 {G : am_G} {d : Nat} {Q : Int → am_D → Prop} {σ : am_D} {v1 : Int} {s0 : Int} (hr1 : -2147483648 ≤ s0 ∧ s0 ≤ 2147483647) (k1 : s0 < 400 → am_X (am_FI G (d + 1) Q) mX10_next (0, 0) 69 [some (am_r (some 0)), some (am_i v1), none] [] (am_K0, σ)) (k2 : ¬ (s0 < 400) → am_X (am_FI G (d + 1) Q) mX10_next (0, 0) 66 [none, none, none] [] (am_K0, σ)) : am_X (am_FI G (d + 1) Q) mX10_next (0, 0) 60 [some (am_r (some 0)), some (am_i v1), none] [am_i s0] (am_K0, σ) := by
  refine am_r_sipush (nx := 63) rfl (show decode cX10_next 60 = .ok (.sipush 400, 3) by decide +kernel) rfl ?_
  refine am_r_icmp_lt (tg := 69) (nx := 66) (show decode cX10_next 63 = .ok (.if_icmp .lt 6, 3) by decide +kernel) (by decide) rfl hr1 (by omega) ?_ ?_
  · exact fun q => k1 q
  · exact fun q => am_x_fg [0, 1] (k2 q)
theorem S_X10_next_66 {G : am_G} {d : Nat} {Q : Int → am_D → Prop} {σ : am_D}   (k : Q (-2) σ) : am_X (am_FI G (d + 1) Q) mX10_next (0, 0) 66 [none, none, none] [] (am_K0, σ) := by
  refine am_r_bipush (nx := 68) rfl (show decode cX10_next 66 = .ok (.bipush (-2), 2) by decide +kernel) rfl ?_
  exact am_r_iret rfl rfl (show decode cX10_next 68 = .ok (.ireturn, 1) by decide +kernel) ⟨_, _, rfl, rfl, k⟩
theorem S_X10_next_69 {G : am_G} {d : Nat} {Q : Int → am_D → Prop} {σ : am_D} {v1 : Int} {Q' : Int → am_D → Prop} (hc : am_MI G d mX3_step [am_r (some 12), am_i v1] σ Q') (k : ∀ (x : Int) (σ' : am_D), Q' x σ' → am_X (am_FI G (d + 1) Q) mX10_next (0, 0) 77 [some (am_r (some 0)), none, none] [am_i x] (am_K0, σ')) : am_X (am_FI G (d + 1) Q) mX10_next (0, 0) 69 [some (am_r (some 0)), some (am_i v1), none] [] (am_K0, σ) := by
  refine am_r_aload_n (nx := 70) rfl rfl (show decode cX10_next 69 = .ok (.aload_n 0, 1) by decide +kernel) rfl ?_
  refine am_r_getF (nx := 73) 7 cw10 (by decide) rfl (Or.inl fl_X10_52) (ob_0) (fn_0_7) (show decode cX10_next 70 = .ok (.getfield 52, 3) by decide +kernel) rfl ?_
  refine am_r_iload_n (nx := 74) rfl rfl (show decode cX10_next 73 = .ok (.iload_n 1, 1) by decide +kernel) rfl ?_
  refine am_r_callV (as := [am_i v1]) (st := []) hc mb_X3_step mv_X3_step (Or.inl ml_X10_186) (obR (by unfold am_isR; decide)) (by omega) (r := (RX3, TX3, 9)) rfl rfl rfl rfl (Nat.le_of_ble_eq_true rfl) ⟨Nat.le_refl _, Nat.le_refl _⟩ ⟨Nat.le_refl _, Nat.le_refl _⟩ (show decode cX10_next 74 = .ok (.invokevirtual 186, 3) by decide +kernel) ?_
  rintro _ _ ⟨x, σ', rfl, rfl, hq⟩ _
  exact am_x_fg [1] (k x σ' hq)
theorem S_X10_next_77 {G : am_G} {d : Nat} {Q : Int → am_D → Prop} {σ : am_D} {s0 : Int} (hr1 : -2147483648 ≤ s0 ∧ s0 ≤ 2147483647) (k1 : s0 = 0 → am_X (am_FI G (d + 1) Q) mX10_next (0, 0) 91 [none, none, none] [] (am_K0, σ)) (k2 : ¬ (s0 = 0) → am_X (am_FI G (d + 1) Q) mX10_next (0, 0) 80 [some (am_r (some 0)), none, none] [] (am_K0, σ)) : am_X (am_FI G (d + 1) Q) mX10_next (0, 0) 77 [some (am_r (some 0)), none, none] [am_i s0] (am_K0, σ) := by
  refine am_r_if_eq (tg := 91) (nx := 80) (show decode cX10_next 77 = .ok (.ifCond .eq 14, 3) by decide +kernel) (by decide) rfl hr1 ?_ ?_
  · exact fun q => am_x_fg [0] (k1 q)
  · exact fun q => k2 q
theorem S_X10_next_80 {G : am_G} {d : Nat} {Q : Int → am_D → Prop} {σ : am_D} {Q' : Int → am_D → Prop} (hc : am_MI G d mX3_now [am_r (some 12), am_i 0] σ Q') (k : ∀ (x : Int) (σ' : am_D), Q' x σ' → am_X (am_FI G (d + 1) Q) mX10_next (0, 0) 88 [none, none, none] [am_i x] (am_K0, σ')) : am_X (am_FI G (d + 1) Q) mX10_next (0, 0) 80 [some (am_r (some 0)), none, none] [] (am_K0, σ) := by
  refine am_r_aload_n (nx := 81) rfl rfl (show decode cX10_next 80 = .ok (.aload_n 0, 1) by decide +kernel) rfl ?_
  refine am_r_getF (nx := 84) 7 cw10 (by decide) rfl (Or.inl fl_X10_52) (ob_0) (fn_0_7) (show decode cX10_next 81 = .ok (.getfield 52, 3) by decide +kernel) rfl ?_
  refine am_r_iconst (nx := 85) (show decode cX10_next 84 = .ok (.iconst 0, 1) by decide +kernel) rfl ?_
  refine am_r_callV (as := [am_i 0]) (st := []) hc mb_X3_now mv_X3_now (Or.inl ml_X10_173) (obR (by unfold am_isR; decide)) (by omega) (r := (RX3, TX3, 9)) rfl rfl rfl rfl (Nat.le_of_ble_eq_true rfl) ⟨Nat.le_refl _, Nat.le_refl _⟩ ⟨Nat.le_refl _, Nat.le_refl _⟩ (show decode cX10_next 85 = .ok (.invokevirtual 173, 3) by decide +kernel) ?_
  rintro _ _ ⟨x, σ', rfl, rfl, hq⟩ _
  exact am_x_fg [0] (k x σ' hq)
theorem S_X10_next_88 {G : am_G} {d : Nat} {Q : Int → am_D → Prop} {σ : am_D} {s0 : Int}  (k : am_X (am_FI G (d + 1) Q) mX10_next (0, 0) 92 [none, none, none] [am_i s0] (am_K0, σ)) : am_X (am_FI G (d + 1) Q) mX10_next (0, 0) 88 [none, none, none] [am_i s0] (am_K0, σ) := by
  refine am_r_goto (tg := 92) (show decode cX10_next 88 = .ok (.goto 4, 3) by decide +kernel) (by decide) ?_
  exact k
theorem S_X10_next_91 {G : am_G} {d : Nat} {Q : Int → am_D → Prop} {σ : am_D}   (k : am_X (am_FI G (d + 1) Q) mX10_next (0, 0) 92 [none, none, none] [am_i (-1)] (am_K0, σ)) : am_X (am_FI G (d + 1) Q) mX10_next (0, 0) 91 [none, none, none] [] (am_K0, σ) := by
  refine am_r_iconst (nx := 92) (show decode cX10_next 91 = .ok (.iconst (-1), 1) by decide +kernel) rfl ?_
  exact k
theorem S_X10_next_92 {G : am_G} {d : Nat} {Q : Int → am_D → Prop} {σ : am_D} {s0 : Int}  (k : Q s0 σ) : am_X (am_FI G (d + 1) Q) mX10_next (0, 0) 92 [none, none, none] [am_i s0] (am_K0, σ) := by
  exact am_r_iret rfl rfl (show decode cX10_next 92 = .ok (.ireturn, 1) by decide +kernel) ⟨_, _, rfl, rfl, k⟩
theorem S_X10_state_0 {G : am_G} {d : Nat} {Q : Int → am_D → Prop} {σ : am_D}   (k1 : (σ.2.2 12 4) = none → am_X (am_FI G (d + 1) Q) mX10_state (0, 0) 10 [none] [] (am_K0, σ)) (k2 : ∀ a, (σ.2.2 12 4) = some a → am_X (am_FI G (d + 1) Q) mX10_state (0, 0) 14 [some (am_r (some 0))] [] (am_K0, σ)) : am_X (am_FI G (d + 1) Q) mX10_state (0, 0) 0 [some (am_r (some 0))] [] (am_K0, σ) := by
  refine am_r_aload_n (nx := 1) rfl rfl (show decode cX10_state 0 = .ok (.aload_n 0, 1) by decide +kernel) rfl ?_
  refine am_r_getF (nx := 4) 7 cw10 (by decide) rfl (Or.inl fl_X10_52) (ob_0) (fn_0_7) (show decode cX10_state 1 = .ok (.getfield 52, 3) by decide +kernel) rfl ?_
  refine am_r_getR (nx := 7) 4 cw3 (by decide) rfl (Or.inr ⟨_, fl_X10_166⟩) (obR (by unfold am_isR; decide)) (show decode cX10_state 4 = .ok (.getfield 166, 3) by decide +kernel) rfl ?_
  refine am_r_ifnonnull (tg := 14) (nx := 10) (show decode cX10_state 7 = .ok (.ifnonnull 7, 3) by decide +kernel) (by decide) rfl ?_ ?_
  · exact fun q => am_x_fg [0] (k1 q)
  · exact fun a q => k2 a q
theorem S_X10_state_10 {G : am_G} {d : Nat} {Q : Int → am_D → Prop} {σ : am_D}   (k : am_X (am_FI G (d + 1) Q) mX10_state (0, 0) 22 [none] [am_i (-1)] (am_K0, σ)) : am_X (am_FI G (d + 1) Q) mX10_state (0, 0) 10 [none] [] (am_K0, σ) := by
  refine am_r_iconst (nx := 11) (show decode cX10_state 10 = .ok (.iconst (-1), 1) by decide +kernel) rfl ?_
  refine am_r_goto (tg := 22) (show decode cX10_state 11 = .ok (.goto 11, 3) by decide +kernel) (by decide) ?_
  exact k
theorem S_X10_state_14 {G : am_G} {d : Nat} {Q : Int → am_D → Prop} {σ : am_D} {Q' : Int → am_D → Prop} (hc : am_MI G d mX3_now [am_r (some 12), am_i 0] σ Q') (k : ∀ (x : Int) (σ' : am_D), Q' x σ' → am_X (am_FI G (d + 1) Q) mX10_state (0, 0) 22 [none] [am_i x] (am_K0, σ')) : am_X (am_FI G (d + 1) Q) mX10_state (0, 0) 14 [some (am_r (some 0))] [] (am_K0, σ) := by
  refine am_r_aload_n (nx := 15) rfl rfl (show decode cX10_state 14 = .ok (.aload_n 0, 1) by decide +kernel) rfl ?_
  refine am_r_getF (nx := 18) 7 cw10 (by decide) rfl (Or.inl fl_X10_52) (ob_0) (fn_0_7) (show decode cX10_state 15 = .ok (.getfield 52, 3) by decide +kernel) rfl ?_
  refine am_r_iconst (nx := 19) (show decode cX10_state 18 = .ok (.iconst 0, 1) by decide +kernel) rfl ?_
  refine am_r_callV (as := [am_i 0]) (st := []) hc mb_X3_now mv_X3_now (Or.inl ml_X10_173) (obR (by unfold am_isR; decide)) (by omega) (r := (RX3, TX3, 9)) rfl rfl rfl rfl (Nat.le_of_ble_eq_true rfl) ⟨Nat.le_refl _, Nat.le_refl _⟩ ⟨Nat.le_refl _, Nat.le_refl _⟩ (show decode cX10_state 19 = .ok (.invokevirtual 173, 3) by decide +kernel) ?_
  rintro _ _ ⟨x, σ', rfl, rfl, hq⟩ _
  exact am_x_fg [0] (k x σ' hq)
theorem S_X10_state_22 {G : am_G} {d : Nat} {Q : Int → am_D → Prop} {σ : am_D} {s0 : Int}  (k : Q s0 σ) : am_X (am_FI G (d + 1) Q) mX10_state (0, 0) 22 [none] [am_i s0] (am_K0, σ) := by
  exact am_r_iret rfl rfl (show decode cX10_state 22 = .ok (.ireturn, 1) by decide +kernel) ⟨_, _, rfl, rfl, k⟩
theorem S_X10_held_0 {G : am_G} {d : Nat} {Q : Int → am_D → Prop} {σ : am_D} {v1 : Int} {v2 : Int} {v3 : Int}  (k : am_X (am_FI G (d + 1) Q) mX10_held (0, 0) 9 [some (am_r (some 0)), some (am_i v1), some (am_i v2), some (am_i v3), some (am_r (σ.2.2 12 4)), none] [] (am_K0, σ)) : am_X (am_FI G (d + 1) Q) mX10_held (0, 0) 0 [some (am_r (some 0)), some (am_i v1), some (am_i v2), some (am_i v3), none, none] [] (am_K0, σ) := by
  refine am_r_aload_n (nx := 1) rfl rfl (show decode cX10_held 0 = .ok (.aload_n 0, 1) by decide +kernel) rfl ?_
  refine am_r_getF (nx := 4) 7 cw10 (by decide) rfl (Or.inl fl_X10_52) (ob_0) (fn_0_7) (show decode cX10_held 1 = .ok (.getfield 52, 3) by decide +kernel) rfl ?_
  refine am_r_getR (nx := 7) 4 cw3 (by decide) rfl (Or.inr ⟨_, fl_X10_166⟩) (obR (by unfold am_isR; decide)) (show decode cX10_held 4 = .ok (.getfield 166, 3) by decide +kernel) rfl ?_
  refine am_r_astore (nx := 9) (by decide) rfl (show decode cX10_held 7 = .ok (.astore 4, 2) by decide +kernel) rfl ?_
  exact k
theorem S_X10_held_9 {G : am_G} {d : Nat} {Q : Int → am_D → Prop} {σ : am_D} {v1 : Int} {v2 : Int} {v3 : Int} {v4 : Option Nat}  (k1 : v4 = none → am_X (am_FI G (d + 1) Q) mX10_held (0, 0) 32 [none, none, none, none, none, none] [] (am_K0, σ)) (k2 : ∀ a, v4 = some a → am_X (am_FI G (d + 1) Q) mX10_held (0, 0) 14 [some (am_r (some 0)), some (am_i v1), some (am_i v2), some (am_i v3), some (am_r v4), none] [] (am_K0, σ)) : am_X (am_FI G (d + 1) Q) mX10_held (0, 0) 9 [some (am_r (some 0)), some (am_i v1), some (am_i v2), some (am_i v3), some (am_r v4), none] [] (am_K0, σ) := by
  refine am_r_aload (nx := 11) rfl (show decode cX10_held 9 = .ok (.aload 4, 2) by decide +kernel) rfl ?_
  refine am_r_ifnull (tg := 32) (nx := 14) (show decode cX10_held 11 = .ok (.ifnull 21, 3) by decide +kernel) (by decide) rfl ?_ ?_
  · exact fun q => am_x_fg [0, 1, 2, 3, 4] (k1 q)
  · exact fun a q => k2 a q
theorem S_X10_held_14 {G : am_G} {d : Nat} {Q : Int → am_D → Prop} {σ : am_D} {v1 : Int} {v2 : Int} {v3 : Int} {v4 : Option Nat} (hr1 : -2147483648 ≤ v2 ∧ v2 ≤ 2147483647) (k1 : v2 < 0 → am_X (am_FI G (d + 1) Q) mX10_held (0, 0) 32 [none, none, none, none, none, none] [] (am_K0, σ)) (k2 : ¬ (v2 < 0) → am_X (am_FI G (d + 1) Q) mX10_held (0, 0) 18 [some (am_r (some 0)), some (am_i v1), some (am_i v2), some (am_i v3), some (am_r v4), none] [] (am_K0, σ)) : am_X (am_FI G (d + 1) Q) mX10_held (0, 0) 14 [some (am_r (some 0)), some (am_i v1), some (am_i v2), some (am_i v3), some (am_r v4), none] [] (am_K0, σ) := by
  refine am_r_iload_n (nx := 15) rfl rfl (show decode cX10_held 14 = .ok (.iload_n 2, 1) by decide +kernel) rfl ?_
  refine am_r_if_lt (tg := 32) (nx := 18) (show decode cX10_held 15 = .ok (.ifCond .lt 17, 3) by decide +kernel) (by decide) rfl hr1 ?_ ?_
  · exact fun q => am_x_fg [0, 1, 2, 3, 4] (k1 q)
  · exact fun q => k2 q
theorem S_X10_held_18 {G : am_G} {d : Nat} {Q : Int → am_D → Prop} {σ : am_D} {v1 : Int} {v2 : Int} {v3 : Int} {v4 : Nat} (hc1 : am_isM v4) (hr2 : -2147483648 ≤ v2 ∧ v2 ≤ 2147483647) (hr3 : -2147483648 ≤ (σ.1 v4 1) ∧ (σ.1 v4 1) ≤ 2147483647) (k1 : (σ.1 v4 1) ≤ v2 → am_X (am_FI G (d + 1) Q) mX10_held (0, 0) 32 [none, none, none, none, none, none] [] (am_K0, σ)) (k2 : ¬ ((σ.1 v4 1) ≤ v2) → am_X (am_FI G (d + 1) Q) mX10_held (0, 0) 27 [some (am_r (some 0)), some (am_i v1), some (am_i v2), some (am_i v3), none, none] [] (am_K0, σ)) : am_X (am_FI G (d + 1) Q) mX10_held (0, 0) 18 [some (am_r (some 0)), some (am_i v1), some (am_i v2), some (am_i v3), some (am_r (some v4)), none] [] (am_K0, σ) := by
  refine am_r_iload_n (nx := 19) rfl rfl (show decode cX10_held 18 = .ok (.iload_n 2, 1) by decide +kernel) rfl ?_
  refine am_r_aload (nx := 21) rfl (show decode cX10_held 19 = .ok (.aload 4, 2) by decide +kernel) rfl ?_
  refine am_r_getI (nx := 24) 1 cw2 (by decide) rfl (Or.inr ⟨_, fl_X10_136⟩) (obM hc1) (show decode cX10_held 21 = .ok (.getfield 136, 3) by decide +kernel) rfl ?_
  refine am_r_icmp_ge (tg := 32) (nx := 27) (show decode cX10_held 24 = .ok (.if_icmp .ge 8, 3) by decide +kernel) (by decide) rfl hr2 hr3 ?_ ?_
  · exact fun q => am_x_fg [0, 1, 2, 3, 4] (k1 q)
  · exact fun q => am_x_fg [4] (k2 q)
theorem S_X10_held_27 {G : am_G} {d : Nat} {Q : Int → am_D → Prop} {σ : am_D} {v1 : Int} {v2 : Int} {v3 : Int} (hr1 : -2147483648 ≤ v3 ∧ v3 ≤ 2147483647) (k1 : (-1) ≤ v3 → am_X (am_FI G (d + 1) Q) mX10_held (0, 0) 34 [some (am_r (some 0)), some (am_i v1), some (am_i v2), some (am_i v3), none, none] [] (am_K0, σ)) (k2 : ¬ ((-1) ≤ v3) → am_X (am_FI G (d + 1) Q) mX10_held (0, 0) 32 [none, none, none, none, none, none] [] (am_K0, σ)) : am_X (am_FI G (d + 1) Q) mX10_held (0, 0) 27 [some (am_r (some 0)), some (am_i v1), some (am_i v2), some (am_i v3), none, none] [] (am_K0, σ) := by
  refine am_r_iload_n (nx := 28) rfl rfl (show decode cX10_held 27 = .ok (.iload_n 3, 1) by decide +kernel) rfl ?_
  refine am_r_iconst (nx := 29) (show decode cX10_held 28 = .ok (.iconst (-1), 1) by decide +kernel) rfl ?_
  refine am_r_icmp_ge (tg := 34) (nx := 32) (show decode cX10_held 29 = .ok (.if_icmp .ge 5, 3) by decide +kernel) (by decide) rfl hr1 (by omega) ?_ ?_
  · exact fun q => k1 q
  · exact fun q => am_x_fg [0, 1, 2, 3] (k2 q)
theorem S_X10_held_32 {G : am_G} {d : Nat} {Q : Int → am_D → Prop} {σ : am_D}   (k : Q (-1) σ) : am_X (am_FI G (d + 1) Q) mX10_held (0, 0) 32 [none, none, none, none, none, none] [] (am_K0, σ) := by
  refine am_r_iconst (nx := 33) (show decode cX10_held 32 = .ok (.iconst (-1), 1) by decide +kernel) rfl ?_
  exact am_r_iret rfl rfl (show decode cX10_held 33 = .ok (.ireturn, 1) by decide +kernel) ⟨_, _, rfl, rfl, k⟩
theorem S_X10_held_34 {G : am_G} {d : Nat} {Q : Int → am_D → Prop} {σ : am_D} {v1 : Int} {v2 : Int} {v3 : Int} {Q' : Int → am_D → Prop} (hc : am_MI G d mX3_layingWith [am_r (some 12), am_i v1] σ Q') (k : ∀ (x : Int) (σ' : am_D), Q' x σ' → am_X (am_FI G (d + 1) Q) mX10_held (0, 0) 44 [some (am_r (some 0)), none, some (am_i v2), some (am_i v3), none, some (am_i x)] [] (am_K0, σ')) : am_X (am_FI G (d + 1) Q) mX10_held (0, 0) 34 [some (am_r (some 0)), some (am_i v1), some (am_i v2), some (am_i v3), none, none] [] (am_K0, σ) := by
  refine am_r_aload_n (nx := 35) rfl rfl (show decode cX10_held 34 = .ok (.aload_n 0, 1) by decide +kernel) rfl ?_
  refine am_r_getF (nx := 38) 7 cw10 (by decide) rfl (Or.inl fl_X10_52) (ob_0) (fn_0_7) (show decode cX10_held 35 = .ok (.getfield 52, 3) by decide +kernel) rfl ?_
  refine am_r_iload_n (nx := 39) rfl rfl (show decode cX10_held 38 = .ok (.iload_n 1, 1) by decide +kernel) rfl ?_
  refine am_r_callV (as := [am_i v1]) (st := []) hc mb_X3_layingWith mv_X3_layingWith (Or.inl ml_X10_190) (obR (by unfold am_isR; decide)) (by omega) (r := (RX3, TX3, 9)) rfl rfl rfl rfl (Nat.le_of_ble_eq_true rfl) ⟨Nat.le_refl _, Nat.le_refl _⟩ ⟨Nat.le_refl _, Nat.le_refl _⟩ (show decode cX10_held 39 = .ok (.invokevirtual 190, 3) by decide +kernel) ?_
  rintro _ _ ⟨x, σ', rfl, rfl, hq⟩ _
  refine am_r_istore (nx := 44) (by decide) rfl (show decode cX10_held 42 = .ok (.istore 5, 2) by decide +kernel) rfl ?_
  exact am_x_fg [1] (k x σ' hq)
theorem S_X10_held_44 {G : am_G} {d : Nat} {Q : Int → am_D → Prop} {σ : am_D} {v2 : Int} {v3 : Int} {v5 : Int} (hr1 : -2147483648 ≤ v5 ∧ v5 ≤ 2147483647) (k1 : ¬ v5 = (-1) → am_X (am_FI G (d + 1) Q) mX10_held (0, 0) 52 [some (am_r (some 0)), none, some (am_i v2), some (am_i v3), none, some (am_i v5)] [] (am_K0, σ)) (k2 : ¬ (¬ v5 = (-1)) → am_X (am_FI G (d + 1) Q) mX10_held (0, 0) 50 [none, none, none, none, none, none] [] (am_K0, σ)) : am_X (am_FI G (d + 1) Q) mX10_held (0, 0) 44 [some (am_r (some 0)), none, some (am_i v2), some (am_i v3), none, some (am_i v5)] [] (am_K0, σ) := by
  refine am_r_iload (nx := 46) rfl (show decode cX10_held 44 = .ok (.iload 5, 2) by decide +kernel) rfl ?_
  refine am_r_iconst (nx := 47) (show decode cX10_held 46 = .ok (.iconst (-1), 1) by decide +kernel) rfl ?_
  refine am_r_icmp_ne (tg := 52) (nx := 50) (show decode cX10_held 47 = .ok (.if_icmp .ne 5, 3) by decide +kernel) (by decide) rfl hr1 (by omega) ?_ ?_
  · exact fun q => k1 q
  · exact fun q => am_x_fg [0, 2, 3, 5] (k2 q)
theorem S_X10_held_50 {G : am_G} {d : Nat} {Q : Int → am_D → Prop} {σ : am_D}   (k : Q (-1) σ) : am_X (am_FI G (d + 1) Q) mX10_held (0, 0) 50 [none, none, none, none, none, none] [] (am_K0, σ) := by
  refine am_r_iconst (nx := 51) (show decode cX10_held 50 = .ok (.iconst (-1), 1) by decide +kernel) rfl ?_
  exact am_r_iret rfl rfl (show decode cX10_held 51 = .ok (.ireturn, 1) by decide +kernel) ⟨_, _, rfl, rfl, k⟩
theorem S_X10_held_52 {G : am_G} {d : Nat} {Q : Int → am_D → Prop} {σ : am_D} {v2 : Int} {v3 : Int} {v5 : Int} (hr1 : -2147483648 ≤ v3 ∧ v3 ≤ 2147483647) (k1 : ¬ v3 = (-1) → am_X (am_FI G (d + 1) Q) mX10_held (0, 0) 70 [some (am_r (some 0)), none, some (am_i v2), some (am_i v3), none, some (am_i v5)] [] (am_K0, σ)) (k2 : ¬ (¬ v3 = (-1)) → am_X (am_FI G (d + 1) Q) mX10_held (0, 0) 57 [some (am_r (some 0)), none, some (am_i v2), none, none, some (am_i v5)] [] (am_K0, σ)) : am_X (am_FI G (d + 1) Q) mX10_held (0, 0) 52 [some (am_r (some 0)), none, some (am_i v2), some (am_i v3), none, some (am_i v5)] [] (am_K0, σ) := by
  refine am_r_iload_n (nx := 53) rfl rfl (show decode cX10_held 52 = .ok (.iload_n 3, 1) by decide +kernel) rfl ?_
  refine am_r_iconst (nx := 54) (show decode cX10_held 53 = .ok (.iconst (-1), 1) by decide +kernel) rfl ?_
  refine am_r_icmp_ne (tg := 70) (nx := 57) (show decode cX10_held 54 = .ok (.if_icmp .ne 16, 3) by decide +kernel) (by decide) rfl hr1 (by omega) ?_ ?_
  · exact fun q => k1 q
  · exact fun q => am_x_fg [3] (k2 q)
theorem S_X10_held_57 {G : am_G} {d : Nat} {Q : Int → am_D → Prop} {σ : am_D} {v2 : Int} {v5 : Int} {Q' : Int → am_D → Prop} (hc : am_MI G d mX3_sizeOf [am_r (some 12), am_i v5, am_i v2] σ Q') (k : ∀ (x : Int) (σ' : am_D), Q' x σ' → am_X (am_FI G (d + 1) Q) mX10_held (0, 0) 67 [none, none, none, none, none, none] [am_i x] (am_K0, σ')) : am_X (am_FI G (d + 1) Q) mX10_held (0, 0) 57 [some (am_r (some 0)), none, some (am_i v2), none, none, some (am_i v5)] [] (am_K0, σ) := by
  refine am_r_aload_n (nx := 58) rfl rfl (show decode cX10_held 57 = .ok (.aload_n 0, 1) by decide +kernel) rfl ?_
  refine am_r_getF (nx := 61) 7 cw10 (by decide) rfl (Or.inl fl_X10_52) (ob_0) (fn_0_7) (show decode cX10_held 58 = .ok (.getfield 52, 3) by decide +kernel) rfl ?_
  refine am_r_iload (nx := 63) rfl (show decode cX10_held 61 = .ok (.iload 5, 2) by decide +kernel) rfl ?_
  refine am_r_iload_n (nx := 64) rfl rfl (show decode cX10_held 63 = .ok (.iload_n 2, 1) by decide +kernel) rfl ?_
  refine am_r_callV (as := [am_i v5, am_i v2]) (st := []) hc mb_X3_sizeOf mv_X3_sizeOf (Or.inl ml_X10_193) (obR (by unfold am_isR; decide)) (by omega) (r := (RX3, TX3, 9)) rfl rfl rfl rfl (Nat.le_of_ble_eq_true rfl) ⟨Nat.le_refl _, Nat.le_refl _⟩ ⟨Nat.le_refl _, Nat.le_refl _⟩ (show decode cX10_held 64 = .ok (.invokevirtual 193, 3) by decide +kernel) ?_
  rintro _ _ ⟨x, σ', rfl, rfl, hq⟩ _
  exact am_x_fg [0, 2, 5] (k x σ' hq)
theorem S_X10_held_67 {G : am_G} {d : Nat} {Q : Int → am_D → Prop} {σ : am_D} {s0 : Int}  (k : am_X (am_FI G (d + 1) Q) mX10_held (0, 0) 81 [none, none, none, none, none, none] [am_i s0] (am_K0, σ)) : am_X (am_FI G (d + 1) Q) mX10_held (0, 0) 67 [none, none, none, none, none, none] [am_i s0] (am_K0, σ) := by
  refine am_r_goto (tg := 81) (show decode cX10_held 67 = .ok (.goto 14, 3) by decide +kernel) (by decide) ?_
  exact k
theorem S_X10_held_70 {G : am_G} {d : Nat} {Q : Int → am_D → Prop} {σ : am_D} {v2 : Int} {v3 : Int} {v5 : Int} {Q' : Int → am_D → Prop} (hc : am_MI G d mX3_signOf [am_r (some 12), am_i v5, am_i v2, am_i v3] σ Q') (k : ∀ (x : Int) (σ' : am_D), Q' x σ' → am_X (am_FI G (d + 1) Q) mX10_held (0, 0) 81 [none, none, none, none, none, none] [am_i x] (am_K0, σ')) : am_X (am_FI G (d + 1) Q) mX10_held (0, 0) 70 [some (am_r (some 0)), none, some (am_i v2), some (am_i v3), none, some (am_i v5)] [] (am_K0, σ) := by
  refine am_r_aload_n (nx := 71) rfl rfl (show decode cX10_held 70 = .ok (.aload_n 0, 1) by decide +kernel) rfl ?_
  refine am_r_getF (nx := 74) 7 cw10 (by decide) rfl (Or.inl fl_X10_52) (ob_0) (fn_0_7) (show decode cX10_held 71 = .ok (.getfield 52, 3) by decide +kernel) rfl ?_
  refine am_r_iload (nx := 76) rfl (show decode cX10_held 74 = .ok (.iload 5, 2) by decide +kernel) rfl ?_
  refine am_r_iload_n (nx := 77) rfl rfl (show decode cX10_held 76 = .ok (.iload_n 2, 1) by decide +kernel) rfl ?_
  refine am_r_iload_n (nx := 78) rfl rfl (show decode cX10_held 77 = .ok (.iload_n 3, 1) by decide +kernel) rfl ?_
  refine am_r_callV (as := [am_i v5, am_i v2, am_i v3]) (st := []) hc mb_X3_signOf mv_X3_signOf (Or.inl ml_X10_196) (obR (by unfold am_isR; decide)) (by omega) (r := (RX3, TX3, 9)) rfl rfl rfl rfl (Nat.le_of_ble_eq_true rfl) ⟨Nat.le_refl _, Nat.le_refl _⟩ ⟨Nat.le_refl _, Nat.le_refl _⟩ (show decode cX10_held 78 = .ok (.invokevirtual 196, 3) by decide +kernel) ?_
  rintro _ _ ⟨x, σ', rfl, rfl, hq⟩ _
  exact am_x_fg [0, 2, 3, 5] (k x σ' hq)
theorem S_X10_held_81 {G : am_G} {d : Nat} {Q : Int → am_D → Prop} {σ : am_D} {s0 : Int}  (k : Q s0 σ) : am_X (am_FI G (d + 1) Q) mX10_held (0, 0) 81 [none, none, none, none, none, none] [am_i s0] (am_K0, σ) := by
  exact am_r_iret rfl rfl (show decode cX10_held 81 = .ok (.ireturn, 1) by decide +kernel) ⟨_, _, rfl, rfl, k⟩
theorem S_X10_finish_0 {G : am_G} {d : Nat} {Q : Int → am_D → Prop} {σ : am_D}   (k1 : (σ.2.2 12 4) = none → am_X (am_FI G (d + 1) Q) mX10_finish (0, 0) 20 [none] [] (am_K0, σ)) (k2 : ∀ a, (σ.2.2 12 4) = some a → am_X (am_FI G (d + 1) Q) mX10_finish (0, 0) 10 [some (am_r (some 0))] [] (am_K0, σ)) : am_X (am_FI G (d + 1) Q) mX10_finish (0, 0) 0 [some (am_r (some 0))] [] (am_K0, σ) := by
  refine am_r_aload_n (nx := 1) rfl rfl (show decode cX10_finish 0 = .ok (.aload_n 0, 1) by decide +kernel) rfl ?_
  refine am_r_getF (nx := 4) 7 cw10 (by decide) rfl (Or.inl fl_X10_52) (ob_0) (fn_0_7) (show decode cX10_finish 1 = .ok (.getfield 52, 3) by decide +kernel) rfl ?_
  refine am_r_getR (nx := 7) 4 cw3 (by decide) rfl (Or.inr ⟨_, fl_X10_166⟩) (obR (by unfold am_isR; decide)) (show decode cX10_finish 4 = .ok (.getfield 166, 3) by decide +kernel) rfl ?_
  refine am_r_ifnull (tg := 20) (nx := 10) (show decode cX10_finish 7 = .ok (.ifnull 13, 3) by decide +kernel) (by decide) rfl ?_ ?_
  · exact fun q => am_x_fg [0] (k1 q)
  · exact fun a q => k2 a q
theorem S_X10_finish_10 {G : am_G} {d : Nat} {Q : Int → am_D → Prop} {σ : am_D} {Q' : Int → am_D → Prop} (hc : am_MI G d mX3_canEnd [am_r (some 12)] σ Q') (k : ∀ (x : Int) (σ' : am_D), Q' x σ' → am_X (am_FI G (d + 1) Q) mX10_finish (0, 0) 17 [some (am_r (some 0))] [am_i x] (am_K0, σ')) : am_X (am_FI G (d + 1) Q) mX10_finish (0, 0) 10 [some (am_r (some 0))] [] (am_K0, σ) := by
  refine am_r_aload_n (nx := 11) rfl rfl (show decode cX10_finish 10 = .ok (.aload_n 0, 1) by decide +kernel) rfl ?_
  refine am_r_getF (nx := 14) 7 cw10 (by decide) rfl (Or.inl fl_X10_52) (ob_0) (fn_0_7) (show decode cX10_finish 11 = .ok (.getfield 52, 3) by decide +kernel) rfl ?_
  refine am_r_callV (as := []) (st := []) hc mb_X3_canEnd mv_X3_canEnd (Or.inl ml_X10_200) (obR (by unfold am_isR; decide)) (by omega) (r := (RX3, TX3, 9)) rfl rfl rfl rfl (Nat.le_of_ble_eq_true rfl) ⟨Nat.le_refl _, Nat.le_refl _⟩ ⟨Nat.le_refl _, Nat.le_refl _⟩ (show decode cX10_finish 14 = .ok (.invokevirtual 200, 3) by decide +kernel) ?_
  rintro _ _ ⟨x, σ', rfl, rfl, hq⟩ _
  exact (k x σ' hq)
theorem S_X10_finish_17 {G : am_G} {d : Nat} {Q : Int → am_D → Prop} {σ : am_D} {s0 : Int} (hr1 : -2147483648 ≤ s0 ∧ s0 ≤ 2147483647) (k1 : ¬ s0 = 0 → am_X (am_FI G (d + 1) Q) mX10_finish (0, 0) 22 [some (am_r (some 0))] [] (am_K0, σ)) (k2 : ¬ (¬ s0 = 0) → am_X (am_FI G (d + 1) Q) mX10_finish (0, 0) 20 [none] [] (am_K0, σ)) : am_X (am_FI G (d + 1) Q) mX10_finish (0, 0) 17 [some (am_r (some 0))] [am_i s0] (am_K0, σ) := by
  refine am_r_if_ne (tg := 22) (nx := 20) (show decode cX10_finish 17 = .ok (.ifCond .ne 5, 3) by decide +kernel) (by decide) rfl hr1 ?_ ?_
  · exact fun q => k1 q
  · exact fun q => am_x_fg [0] (k2 q)
theorem S_X10_finish_20 {G : am_G} {d : Nat} {Q : Int → am_D → Prop} {σ : am_D}   (k : Q (-1) σ) : am_X (am_FI G (d + 1) Q) mX10_finish (0, 0) 20 [none] [] (am_K0, σ) := by
  refine am_r_iconst (nx := 21) (show decode cX10_finish 20 = .ok (.iconst (-1), 1) by decide +kernel) rfl ?_
  exact am_r_iret rfl rfl (show decode cX10_finish 21 = .ok (.ireturn, 1) by decide +kernel) ⟨_, _, rfl, rfl, k⟩
theorem S_X10_finish_22 {G : am_G} {d : Nat} {Q : Int → am_D → Prop} {σ : am_D} {Q' : am_D → Prop} (hc : am_MV G d mX3_write [am_r (some 12)] σ Q') (k : ∀ σ' : am_D, Q' σ' → am_X (am_FI G (d + 1) Q) mX10_finish (0, 0) 29 [some (am_r (some 0))] [] (am_K0, σ')) : am_X (am_FI G (d + 1) Q) mX10_finish (0, 0) 22 [some (am_r (some 0))] [] (am_K0, σ) := by
  refine am_r_aload_n (nx := 23) rfl rfl (show decode cX10_finish 22 = .ok (.aload_n 0, 1) by decide +kernel) rfl ?_
  refine am_r_getF (nx := 26) 7 cw10 (by decide) rfl (Or.inl fl_X10_52) (ob_0) (fn_0_7) (show decode cX10_finish 23 = .ok (.getfield 52, 3) by decide +kernel) rfl ?_
  refine am_r_callV (as := []) (st := []) hc mb_X3_write mv_X3_write (Or.inl ml_X10_203) (obR (by unfold am_isR; decide)) (by omega) (r := (RX3, TX3, 9)) rfl rfl rfl rfl (Nat.le_of_ble_eq_true rfl) ⟨Nat.le_refl _, Nat.le_refl _⟩ ⟨Nat.le_refl _, Nat.le_refl _⟩ (show decode cX10_finish 26 = .ok (.invokevirtual 203, 3) by decide +kernel) ?_
  rintro _ _ ⟨σ', rfl, rfl, hq⟩ _
  exact (k σ' hq)
theorem S_X10_finish_29 {G : am_G} {d : Nat} {Q : Int → am_D → Prop} {σ : am_D} {Q' : am_D → Prop} (hc : am_MV G d mX0_receive [am_r (some 10), am_r (some 12)] σ Q') (k : ∀ σ' : am_D, Q' σ' → am_X (am_FI G (d + 1) Q) mX10_finish (0, 0) 40 [some (am_r (some 0))] [] (am_K0, σ')) : am_X (am_FI G (d + 1) Q) mX10_finish (0, 0) 29 [some (am_r (some 0))] [] (am_K0, σ) := by
  refine am_r_aload_n (nx := 30) rfl rfl (show decode cX10_finish 29 = .ok (.aload_n 0, 1) by decide +kernel) rfl ?_
  refine am_r_getF (nx := 33) 6 cw10 (by decide) rfl (Or.inl fl_X10_46) (ob_0) (fn_0_6) (show decode cX10_finish 30 = .ok (.getfield 46, 3) by decide +kernel) rfl ?_
  refine am_r_aload_n (nx := 34) rfl rfl (show decode cX10_finish 33 = .ok (.aload_n 0, 1) by decide +kernel) rfl ?_
  refine am_r_getF (nx := 37) 7 cw10 (by decide) rfl (Or.inl fl_X10_52) (ob_0) (fn_0_7) (show decode cX10_finish 34 = .ok (.getfield 52, 3) by decide +kernel) rfl ?_
  refine am_r_callV (as := [am_r (some 12)]) (st := []) hc mb_X0_receive mv_X0_receive (Or.inl ml_X10_206) (obE (by unfold am_isE; decide)) (by omega) (r := (RX0, TX0, 2)) rfl rfl rfl rfl (Nat.le_of_ble_eq_true rfl) ⟨Nat.le_refl _, Nat.le_refl _⟩ ⟨Nat.le_refl _, Nat.le_refl _⟩ (show decode cX10_finish 37 = .ok (.invokevirtual 206, 3) by decide +kernel) ?_
  rintro _ _ ⟨σ', rfl, rfl, hq⟩ _
  exact (k σ' hq)
theorem S_X10_finish_40 {G : am_G} {d : Nat} {Q : Int → am_D → Prop} {σ : am_D}   (k : am_X (am_FI G (d + 1) Q) mX10_finish (0, 0) 48 [some (am_r (some 0))] [] (am_K0, (am_pR σ 12 4 none))) : am_X (am_FI G (d + 1) Q) mX10_finish (0, 0) 40 [some (am_r (some 0))] [] (am_K0, σ) := by
  refine am_r_aload_n (nx := 41) rfl rfl (show decode cX10_finish 40 = .ok (.aload_n 0, 1) by decide +kernel) rfl ?_
  refine am_r_getF (nx := 44) 7 cw10 (by decide) rfl (Or.inl fl_X10_52) (ob_0) (fn_0_7) (show decode cX10_finish 41 = .ok (.getfield 52, 3) by decide +kernel) rfl ?_
  refine am_r_null (nx := 45) (show decode cX10_finish 44 = .ok (.aconst_null, 1) by decide +kernel) rfl ?_
  refine am_r_putR (nx := 48) (C2 := "TreeStream$Machine") 4 cw3 (by decide) rfl (Or.inr ⟨_, fl_X10_166⟩) (obR (by unfold am_isR; decide)) rfl rfl (show decode cX10_finish 45 = .ok (.putfield 166, 3) by decide +kernel) rfl ?_
  exact k
theorem S_X10_finish_48 {G : am_G} {d : Nat} {Q : Int → am_D → Prop} {σ : am_D} {Q' : Int → am_D → Prop} (hc : am_MI G d mX0_elements [am_r (some 10)] σ Q') (k : ∀ (x : Int) (σ' : am_D), Q' x σ' → Q x σ') : am_X (am_FI G (d + 1) Q) mX10_finish (0, 0) 48 [some (am_r (some 0))] [] (am_K0, σ) := by
  refine am_r_aload_n (nx := 49) rfl rfl (show decode cX10_finish 48 = .ok (.aload_n 0, 1) by decide +kernel) rfl ?_
  refine am_r_getF (nx := 52) 6 cw10 (by decide) rfl (Or.inl fl_X10_46) (ob_0) (fn_0_6) (show decode cX10_finish 49 = .ok (.getfield 46, 3) by decide +kernel) rfl ?_
  refine am_r_callV (as := []) (st := []) hc mb_X0_elements mv_X0_elements (Or.inl ml_X10_126) (obE (by unfold am_isE; decide)) (by omega) (r := (RX0, TX0, 2)) rfl rfl rfl rfl (Nat.le_of_ble_eq_true rfl) ⟨Nat.le_refl _, Nat.le_refl _⟩ ⟨Nat.le_refl _, Nat.le_refl _⟩ (show decode cX10_finish 52 = .ok (.invokevirtual 126, 3) by decide +kernel) ?_
  rintro _ _ ⟨x, σ', rfl, rfl, hq⟩ _
  exact am_r_iret rfl rfl (show decode cX10_finish 55 = .ok (.ireturn, 1) by decide +kernel) ⟨_, _, rfl, rfl, (k x σ' hq)⟩
theorem S_X10_run_0 {G : am_G} {d : Nat} {Q : Int → am_D → Prop} {σ : am_D} {v1 : Int} {Q' : Option Nat → am_D → Prop} (hc : am_MR G d mX10_told [am_r (some 0), am_i v1] σ Q') (k : ∀ (x : Option Nat) (σ' : am_D), Q' x σ' → am_X (am_FI G (d + 1) Q) mX10_run (0, 0) 6 [some (am_r (some 0)), none, some (am_r x)] [] (am_K0, σ')) : am_X (am_FI G (d + 1) Q) mX10_run (0, 0) 0 [some (am_r (some 0)), some (am_i v1), none] [] (am_K0, σ) := by
  refine am_r_aload_n (nx := 1) rfl rfl (show decode cX10_run 0 = .ok (.aload_n 0, 1) by decide +kernel) rfl ?_
  refine am_r_iload_n (nx := 2) rfl rfl (show decode cX10_run 1 = .ok (.iload_n 1, 1) by decide +kernel) rfl ?_
  refine am_r_callV (as := [am_i v1]) (st := []) hc mb_X10_told mv_X10_told (Or.inl ml_X10_129) (ob_0) (by omega) (r := (RX10, TX10, 14)) rfl rfl rfl rfl (Nat.le_of_ble_eq_true rfl) ⟨Nat.le_refl _, Nat.le_refl _⟩ ⟨Nat.le_refl _, Nat.le_refl _⟩ (show decode cX10_run 2 = .ok (.invokevirtual 129, 3) by decide +kernel) ?_
  rintro _ _ ⟨x, σ', rfl, rfl, hq⟩ _
  refine am_r_astore_n (nx := 6) rfl (by decide) rfl (show decode cX10_run 5 = .ok (.astore_n 2, 1) by decide +kernel) rfl ?_
  exact am_x_fg [1] (k x σ' hq)
theorem S_X10_run_6 {G : am_G} {d : Nat} {Q : Int → am_D → Prop} {σ : am_D} {v2 : Option Nat}  (k1 : v2 = none → am_X (am_FI G (d + 1) Q) mX10_run (0, 0) 26 [none, none, none] [] (am_K0, σ)) (k2 : ∀ a, v2 = some a → am_X (am_FI G (d + 1) Q) mX10_run (0, 0) 10 [some (am_r (some 0)), none, some (am_r v2)] [] (am_K0, σ)) : am_X (am_FI G (d + 1) Q) mX10_run (0, 0) 6 [some (am_r (some 0)), none, some (am_r v2)] [] (am_K0, σ) := by
  refine am_r_aload_n (nx := 7) rfl rfl (show decode cX10_run 6 = .ok (.aload_n 2, 1) by decide +kernel) rfl ?_
  refine am_r_ifnull (tg := 26) (nx := 10) (show decode cX10_run 7 = .ok (.ifnull 19, 3) by decide +kernel) (by decide) rfl ?_ ?_
  · exact fun q => am_x_fg [0, 2] (k1 q)
  · exact fun a q => k2 a q
theorem S_X10_run_10 {G : am_G} {d : Nat} {Q : Int → am_D → Prop} {σ : am_D} {v2 : Option Nat} {Q' : Int → am_D → Prop} (hc : am_MI G d mX3_refusal [am_r (some 16), am_r v2, am_r (some 6)] σ Q') (k : ∀ (x : Int) (σ' : am_D), Q' x σ' → am_X (am_FI G (d + 1) Q) mX10_run (0, 0) 22 [some (am_r (some 0)), none, none] [am_i x] (am_K0, σ')) : am_X (am_FI G (d + 1) Q) mX10_run (0, 0) 10 [some (am_r (some 0)), none, some (am_r v2)] [] (am_K0, σ) := by
  refine am_r_aload_n (nx := 11) rfl rfl (show decode cX10_run 10 = .ok (.aload_n 0, 1) by decide +kernel) rfl ?_
  refine am_r_getF (nx := 14) 8 cw10 (by decide) rfl (Or.inl fl_X10_56) (ob_0) (fn_0_8) (show decode cX10_run 11 = .ok (.getfield 56, 3) by decide +kernel) rfl ?_
  refine am_r_aload_n (nx := 15) rfl rfl (show decode cX10_run 14 = .ok (.aload_n 2, 1) by decide +kernel) rfl ?_
  refine am_r_aload_n (nx := 16) rfl rfl (show decode cX10_run 15 = .ok (.aload_n 0, 1) by decide +kernel) rfl ?_
  refine am_r_getF (nx := 19) 4 cw10 (by decide) rfl (Or.inl fl_X10_39) (ob_0) (fn_0_4) (show decode cX10_run 16 = .ok (.getfield 39, 3) by decide +kernel) rfl ?_
  refine am_r_callV (as := [am_r v2, am_r (some 6)]) (st := []) hc mb_X3_refusal mv_X3_refusal (Or.inl ml_X10_210) (obR (by unfold am_isR; decide)) (by omega) (r := (RX3, TX3, 9)) rfl rfl rfl rfl (Nat.le_of_ble_eq_true rfl) ⟨Nat.le_refl _, Nat.le_refl _⟩ ⟨Nat.le_refl _, Nat.le_refl _⟩ (show decode cX10_run 19 = .ok (.invokevirtual 210, 3) by decide +kernel) ?_
  rintro _ _ ⟨x, σ', rfl, rfl, hq⟩ _
  exact am_x_fg [2] (k x σ' hq)
theorem S_X10_run_22 {G : am_G} {d : Nat} {Q : Int → am_D → Prop} {σ : am_D} {s0 : Int} (hr1 : -2147483648 ≤ s0 ∧ s0 ≤ 2147483647) (k1 : s0 = (-1) → am_X (am_FI G (d + 1) Q) mX10_run (0, 0) 28 [some (am_r (some 0)), none, none] [] (am_K0, σ)) (k2 : ¬ (s0 = (-1)) → am_X (am_FI G (d + 1) Q) mX10_run (0, 0) 26 [none, none, none] [] (am_K0, σ)) : am_X (am_FI G (d + 1) Q) mX10_run (0, 0) 22 [some (am_r (some 0)), none, none] [am_i s0] (am_K0, σ) := by
  refine am_r_iconst (nx := 23) (show decode cX10_run 22 = .ok (.iconst (-1), 1) by decide +kernel) rfl ?_
  refine am_r_icmp_eq (tg := 28) (nx := 26) (show decode cX10_run 23 = .ok (.if_icmp .eq 5, 3) by decide +kernel) (by decide) rfl hr1 (by omega) ?_ ?_
  · exact fun q => k1 q
  · exact fun q => am_x_fg [0] (k2 q)
theorem S_X10_run_26 {G : am_G} {d : Nat} {Q : Int → am_D → Prop} {σ : am_D}   (k : Q (-1) σ) : am_X (am_FI G (d + 1) Q) mX10_run (0, 0) 26 [none, none, none] [] (am_K0, σ) := by
  refine am_r_iconst (nx := 27) (show decode cX10_run 26 = .ok (.iconst (-1), 1) by decide +kernel) rfl ?_
  exact am_r_iret rfl rfl (show decode cX10_run 27 = .ok (.ireturn, 1) by decide +kernel) ⟨_, _, rfl, rfl, k⟩
theorem S_X10_run_28 {G : am_G} {d : Nat} {Q : Int → am_D → Prop} {σ : am_D} {Q' : am_D → Prop} (hc : am_MV G d mX3_write [am_r (some 16)] σ Q') (k : ∀ σ' : am_D, Q' σ' → am_X (am_FI G (d + 1) Q) mX10_run (0, 0) 35 [some (am_r (some 0)), none, none] [] (am_K0, σ')) : am_X (am_FI G (d + 1) Q) mX10_run (0, 0) 28 [some (am_r (some 0)), none, none] [] (am_K0, σ) := by
  refine am_r_aload_n (nx := 29) rfl rfl (show decode cX10_run 28 = .ok (.aload_n 0, 1) by decide +kernel) rfl ?_
  refine am_r_getF (nx := 32) 8 cw10 (by decide) rfl (Or.inl fl_X10_56) (ob_0) (fn_0_8) (show decode cX10_run 29 = .ok (.getfield 56, 3) by decide +kernel) rfl ?_
  refine am_r_callV (as := []) (st := []) hc mb_X3_write mv_X3_write (Or.inl ml_X10_203) (obR (by unfold am_isR; decide)) (by omega) (r := (RX3, TX3, 9)) rfl rfl rfl rfl (Nat.le_of_ble_eq_true rfl) ⟨Nat.le_refl _, Nat.le_refl _⟩ ⟨Nat.le_refl _, Nat.le_refl _⟩ (show decode cX10_run 32 = .ok (.invokevirtual 203, 3) by decide +kernel) ?_
  rintro _ _ ⟨σ', rfl, rfl, hq⟩ _
  exact (k σ' hq)
theorem S_X10_run_35 {G : am_G} {d : Nat} {Q : Int → am_D → Prop} {σ : am_D} {Q' : am_D → Prop} (hc : am_MV G d mX0_receive [am_r (some 10), am_r (some 16)] σ Q') (k : ∀ σ' : am_D, Q' σ' → am_X (am_FI G (d + 1) Q) mX10_run (0, 0) 46 [some (am_r (some 0)), none, none] [] (am_K0, σ')) : am_X (am_FI G (d + 1) Q) mX10_run (0, 0) 35 [some (am_r (some 0)), none, none] [] (am_K0, σ) := by
  refine am_r_aload_n (nx := 36) rfl rfl (show decode cX10_run 35 = .ok (.aload_n 0, 1) by decide +kernel) rfl ?_
  refine am_r_getF (nx := 39) 6 cw10 (by decide) rfl (Or.inl fl_X10_46) (ob_0) (fn_0_6) (show decode cX10_run 36 = .ok (.getfield 46, 3) by decide +kernel) rfl ?_
  refine am_r_aload_n (nx := 40) rfl rfl (show decode cX10_run 39 = .ok (.aload_n 0, 1) by decide +kernel) rfl ?_
  refine am_r_getF (nx := 43) 8 cw10 (by decide) rfl (Or.inl fl_X10_56) (ob_0) (fn_0_8) (show decode cX10_run 40 = .ok (.getfield 56, 3) by decide +kernel) rfl ?_
  refine am_r_callV (as := [am_r (some 16)]) (st := []) hc mb_X0_receive mv_X0_receive (Or.inl ml_X10_206) (obE (by unfold am_isE; decide)) (by omega) (r := (RX0, TX0, 2)) rfl rfl rfl rfl (Nat.le_of_ble_eq_true rfl) ⟨Nat.le_refl _, Nat.le_refl _⟩ ⟨Nat.le_refl _, Nat.le_refl _⟩ (show decode cX10_run 43 = .ok (.invokevirtual 206, 3) by decide +kernel) ?_
  rintro _ _ ⟨σ', rfl, rfl, hq⟩ _
  exact (k σ' hq)
theorem S_X10_run_46 {G : am_G} {d : Nat} {Q : Int → am_D → Prop} {σ : am_D} {Q' : Int → am_D → Prop} (hc : am_MI G d mX0_elements [am_r (some 10)] σ Q') (k : ∀ (x : Int) (σ' : am_D), Q' x σ' → Q x σ') : am_X (am_FI G (d + 1) Q) mX10_run (0, 0) 46 [some (am_r (some 0)), none, none] [] (am_K0, σ) := by
  refine am_r_aload_n (nx := 47) rfl rfl (show decode cX10_run 46 = .ok (.aload_n 0, 1) by decide +kernel) rfl ?_
  refine am_r_getF (nx := 50) 6 cw10 (by decide) rfl (Or.inl fl_X10_46) (ob_0) (fn_0_6) (show decode cX10_run 47 = .ok (.getfield 46, 3) by decide +kernel) rfl ?_
  refine am_r_callV (as := []) (st := []) hc mb_X0_elements mv_X0_elements (Or.inl ml_X10_126) (obE (by unfold am_isE; decide)) (by omega) (r := (RX0, TX0, 2)) rfl rfl rfl rfl (Nat.le_of_ble_eq_true rfl) ⟨Nat.le_refl _, Nat.le_refl _⟩ ⟨Nat.le_refl _, Nat.le_refl _⟩ (show decode cX10_run 50 = .ok (.invokevirtual 126, 3) by decide +kernel) ?_
  rintro _ _ ⟨x, σ', rfl, rfl, hq⟩ _
  exact am_r_iret rfl rfl (show decode cX10_run 53 = .ok (.ireturn, 1) by decide +kernel) ⟨_, _, rfl, rfl, (k x σ' hq)⟩
theorem S_X10_through_0 {G : am_G} {d : Nat} {Q : Int → am_D → Prop} {σ : am_D} {v1 : Int} {v2 : Int} {Q' : Option Nat → am_D → Prop} (hc : am_MR G d mX10_told [am_r (some 0), am_i v1] σ Q') (k : ∀ (x : Option Nat) (σ' : am_D), Q' x σ' → am_X (am_FI G (d + 1) Q) mX10_through (0, 0) 6 [some (am_r (some 0)), none, some (am_i v2), some (am_r x), none] [] (am_K0, σ')) : am_X (am_FI G (d + 1) Q) mX10_through (0, 0) 0 [some (am_r (some 0)), some (am_i v1), some (am_i v2), none, none] [] (am_K0, σ) := by
  refine am_r_aload_n (nx := 1) rfl rfl (show decode cX10_through 0 = .ok (.aload_n 0, 1) by decide +kernel) rfl ?_
  refine am_r_iload_n (nx := 2) rfl rfl (show decode cX10_through 1 = .ok (.iload_n 1, 1) by decide +kernel) rfl ?_
  refine am_r_callV (as := [am_i v1]) (st := []) hc mb_X10_told mv_X10_told (Or.inl ml_X10_129) (ob_0) (by omega) (r := (RX10, TX10, 14)) rfl rfl rfl rfl (Nat.le_of_ble_eq_true rfl) ⟨Nat.le_refl _, Nat.le_refl _⟩ ⟨Nat.le_refl _, Nat.le_refl _⟩ (show decode cX10_through 2 = .ok (.invokevirtual 129, 3) by decide +kernel) ?_
  rintro _ _ ⟨x, σ', rfl, rfl, hq⟩ _
  refine am_r_astore_n (nx := 6) rfl (by decide) rfl (show decode cX10_through 5 = .ok (.astore_n 3, 1) by decide +kernel) rfl ?_
  exact am_x_fg [1] (k x σ' hq)
theorem S_X10_through_6 {G : am_G} {d : Nat} {Q : Int → am_D → Prop} {σ : am_D} {v2 : Int} {Q' : Option Nat → am_D → Prop} {v3 : Option Nat} (hc : am_MR G d mX10_told [am_r (some 0), am_i v2] σ Q') (k : ∀ (x : Option Nat) (σ' : am_D), Q' x σ' → am_X (am_FI G (d + 1) Q) mX10_through (0, 0) 13 [some (am_r (some 0)), none, none, some (am_r v3), some (am_r x)] [] (am_K0, σ')) : am_X (am_FI G (d + 1) Q) mX10_through (0, 0) 6 [some (am_r (some 0)), none, some (am_i v2), some (am_r v3), none] [] (am_K0, σ) := by
  refine am_r_aload_n (nx := 7) rfl rfl (show decode cX10_through 6 = .ok (.aload_n 0, 1) by decide +kernel) rfl ?_
  refine am_r_iload_n (nx := 8) rfl rfl (show decode cX10_through 7 = .ok (.iload_n 2, 1) by decide +kernel) rfl ?_
  refine am_r_callV (as := [am_i v2]) (st := []) hc mb_X10_told mv_X10_told (Or.inl ml_X10_129) (ob_0) (by omega) (r := (RX10, TX10, 14)) rfl rfl rfl rfl (Nat.le_of_ble_eq_true rfl) ⟨Nat.le_refl _, Nat.le_refl _⟩ ⟨Nat.le_refl _, Nat.le_refl _⟩ (show decode cX10_through 8 = .ok (.invokevirtual 129, 3) by decide +kernel) ?_
  rintro _ _ ⟨x, σ', rfl, rfl, hq⟩ _
  refine am_r_astore (nx := 13) (by decide) rfl (show decode cX10_through 11 = .ok (.astore 4, 2) by decide +kernel) rfl ?_
  exact am_x_fg [2] (k x σ' hq)
theorem S_X10_through_13 {G : am_G} {d : Nat} {Q : Int → am_D → Prop} {σ : am_D} {v3 : Option Nat} {v4 : Option Nat}  (k1 : v3 = none → am_X (am_FI G (d + 1) Q) mX10_through (0, 0) 38 [none, none, none, none, none] [] (am_K0, σ)) (k2 : ∀ a, v3 = some a → am_X (am_FI G (d + 1) Q) mX10_through (0, 0) 17 [some (am_r (some 0)), none, none, some (am_r v3), some (am_r v4)] [] (am_K0, σ)) : am_X (am_FI G (d + 1) Q) mX10_through (0, 0) 13 [some (am_r (some 0)), none, none, some (am_r v3), some (am_r v4)] [] (am_K0, σ) := by
  refine am_r_aload_n (nx := 14) rfl rfl (show decode cX10_through 13 = .ok (.aload_n 3, 1) by decide +kernel) rfl ?_
  refine am_r_ifnull (tg := 38) (nx := 17) (show decode cX10_through 14 = .ok (.ifnull 24, 3) by decide +kernel) (by decide) rfl ?_ ?_
  · exact fun q => am_x_fg [0, 3, 4] (k1 q)
  · exact fun a q => k2 a q
theorem S_X10_through_17 {G : am_G} {d : Nat} {Q : Int → am_D → Prop} {σ : am_D} {v4 : Option Nat} {v3 : Option Nat}  (k1 : v4 = none → am_X (am_FI G (d + 1) Q) mX10_through (0, 0) 38 [none, none, none, none, none] [] (am_K0, σ)) (k2 : ∀ a, v4 = some a → am_X (am_FI G (d + 1) Q) mX10_through (0, 0) 22 [some (am_r (some 0)), none, none, some (am_r v3), some (am_r v4)] [] (am_K0, σ)) : am_X (am_FI G (d + 1) Q) mX10_through (0, 0) 17 [some (am_r (some 0)), none, none, some (am_r v3), some (am_r v4)] [] (am_K0, σ) := by
  refine am_r_aload (nx := 19) rfl (show decode cX10_through 17 = .ok (.aload 4, 2) by decide +kernel) rfl ?_
  refine am_r_ifnull (tg := 38) (nx := 22) (show decode cX10_through 19 = .ok (.ifnull 19, 3) by decide +kernel) (by decide) rfl ?_ ?_
  · exact fun q => am_x_fg [0, 3, 4] (k1 q)
  · exact fun a q => k2 a q
theorem S_X10_through_22 {G : am_G} {d : Nat} {Q : Int → am_D → Prop} {σ : am_D} {v3 : Option Nat} {Q' : Int → am_D → Prop} {v4 : Option Nat} (hc : am_MI G d mX3_refusal [am_r (some 16), am_r v3, am_r (some 6)] σ Q') (k : ∀ (x : Int) (σ' : am_D), Q' x σ' → am_X (am_FI G (d + 1) Q) mX10_through (0, 0) 34 [some (am_r (some 0)), none, none, none, some (am_r v4)] [am_i x] (am_K0, σ')) : am_X (am_FI G (d + 1) Q) mX10_through (0, 0) 22 [some (am_r (some 0)), none, none, some (am_r v3), some (am_r v4)] [] (am_K0, σ) := by
  refine am_r_aload_n (nx := 23) rfl rfl (show decode cX10_through 22 = .ok (.aload_n 0, 1) by decide +kernel) rfl ?_
  refine am_r_getF (nx := 26) 8 cw10 (by decide) rfl (Or.inl fl_X10_56) (ob_0) (fn_0_8) (show decode cX10_through 23 = .ok (.getfield 56, 3) by decide +kernel) rfl ?_
  refine am_r_aload_n (nx := 27) rfl rfl (show decode cX10_through 26 = .ok (.aload_n 3, 1) by decide +kernel) rfl ?_
  refine am_r_aload_n (nx := 28) rfl rfl (show decode cX10_through 27 = .ok (.aload_n 0, 1) by decide +kernel) rfl ?_
  refine am_r_getF (nx := 31) 4 cw10 (by decide) rfl (Or.inl fl_X10_39) (ob_0) (fn_0_4) (show decode cX10_through 28 = .ok (.getfield 39, 3) by decide +kernel) rfl ?_
  refine am_r_callV (as := [am_r v3, am_r (some 6)]) (st := []) hc mb_X3_refusal mv_X3_refusal (Or.inl ml_X10_210) (obR (by unfold am_isR; decide)) (by omega) (r := (RX3, TX3, 9)) rfl rfl rfl rfl (Nat.le_of_ble_eq_true rfl) ⟨Nat.le_refl _, Nat.le_refl _⟩ ⟨Nat.le_refl _, Nat.le_refl _⟩ (show decode cX10_through 31 = .ok (.invokevirtual 210, 3) by decide +kernel) ?_
  rintro _ _ ⟨x, σ', rfl, rfl, hq⟩ _
  exact am_x_fg [3] (k x σ' hq)
theorem S_X10_through_34 {G : am_G} {d : Nat} {Q : Int → am_D → Prop} {σ : am_D} {s0 : Int} {v4 : Option Nat} (hr1 : -2147483648 ≤ s0 ∧ s0 ≤ 2147483647) (k1 : s0 = (-1) → am_X (am_FI G (d + 1) Q) mX10_through (0, 0) 40 [some (am_r (some 0)), none, none, none, some (am_r v4)] [] (am_K0, σ)) (k2 : ¬ (s0 = (-1)) → am_X (am_FI G (d + 1) Q) mX10_through (0, 0) 38 [none, none, none, none, none] [] (am_K0, σ)) : am_X (am_FI G (d + 1) Q) mX10_through (0, 0) 34 [some (am_r (some 0)), none, none, none, some (am_r v4)] [am_i s0] (am_K0, σ) := by
  refine am_r_iconst (nx := 35) (show decode cX10_through 34 = .ok (.iconst (-1), 1) by decide +kernel) rfl ?_
  refine am_r_icmp_eq (tg := 40) (nx := 38) (show decode cX10_through 35 = .ok (.if_icmp .eq 5, 3) by decide +kernel) (by decide) rfl hr1 (by omega) ?_ ?_
  · exact fun q => k1 q
  · exact fun q => am_x_fg [0, 4] (k2 q)
theorem S_X10_through_38 {G : am_G} {d : Nat} {Q : Int → am_D → Prop} {σ : am_D}   (k : Q (-1) σ) : am_X (am_FI G (d + 1) Q) mX10_through (0, 0) 38 [none, none, none, none, none] [] (am_K0, σ) := by
  refine am_r_iconst (nx := 39) (show decode cX10_through 38 = .ok (.iconst (-1), 1) by decide +kernel) rfl ?_
  exact am_r_iret rfl rfl (show decode cX10_through 39 = .ok (.ireturn, 1) by decide +kernel) ⟨_, _, rfl, rfl, k⟩
theorem S_X10_through_40 {G : am_G} {d : Nat} {Q : Int → am_D → Prop} {σ : am_D} {Q' : am_D → Prop} {v4 : Option Nat} (hc : am_MV G d mX3_write [am_r (some 16)] σ Q') (k : ∀ σ' : am_D, Q' σ' → am_X (am_FI G (d + 1) Q) mX10_through (0, 0) 47 [some (am_r (some 0)), none, none, none, some (am_r v4)] [] (am_K0, σ')) : am_X (am_FI G (d + 1) Q) mX10_through (0, 0) 40 [some (am_r (some 0)), none, none, none, some (am_r v4)] [] (am_K0, σ) := by
  refine am_r_aload_n (nx := 41) rfl rfl (show decode cX10_through 40 = .ok (.aload_n 0, 1) by decide +kernel) rfl ?_
  refine am_r_getF (nx := 44) 8 cw10 (by decide) rfl (Or.inl fl_X10_56) (ob_0) (fn_0_8) (show decode cX10_through 41 = .ok (.getfield 56, 3) by decide +kernel) rfl ?_
  refine am_r_callV (as := []) (st := []) hc mb_X3_write mv_X3_write (Or.inl ml_X10_203) (obR (by unfold am_isR; decide)) (by omega) (r := (RX3, TX3, 9)) rfl rfl rfl rfl (Nat.le_of_ble_eq_true rfl) ⟨Nat.le_refl _, Nat.le_refl _⟩ ⟨Nat.le_refl _, Nat.le_refl _⟩ (show decode cX10_through 44 = .ok (.invokevirtual 203, 3) by decide +kernel) ?_
  rintro _ _ ⟨σ', rfl, rfl, hq⟩ _
  exact (k σ' hq)
theorem S_X10_through_47 {G : am_G} {d : Nat} {Q : Int → am_D → Prop} {σ : am_D} {v4 : Option Nat} {Q' : Int → am_D → Prop} (hc : am_MI G d mX3_readBehind [am_r (some 20), am_r v4, am_r (some 16)] σ Q') (k : ∀ (x : Int) (σ' : am_D), Q' x σ' → am_X (am_FI G (d + 1) Q) mX10_through (0, 0) 60 [some (am_r (some 0)), none, none, none, none] [am_i x] (am_K0, σ')) : am_X (am_FI G (d + 1) Q) mX10_through (0, 0) 47 [some (am_r (some 0)), none, none, none, some (am_r v4)] [] (am_K0, σ) := by
  refine am_r_aload_n (nx := 48) rfl rfl (show decode cX10_through 47 = .ok (.aload_n 0, 1) by decide +kernel) rfl ?_
  refine am_r_getF (nx := 51) 9 cw10 (by decide) rfl (Or.inl fl_X10_59) (ob_0) (fn_0_9) (show decode cX10_through 48 = .ok (.getfield 59, 3) by decide +kernel) rfl ?_
  refine am_r_aload (nx := 53) rfl (show decode cX10_through 51 = .ok (.aload 4, 2) by decide +kernel) rfl ?_
  refine am_r_aload_n (nx := 54) rfl rfl (show decode cX10_through 53 = .ok (.aload_n 0, 1) by decide +kernel) rfl ?_
  refine am_r_getF (nx := 57) 8 cw10 (by decide) rfl (Or.inl fl_X10_56) (ob_0) (fn_0_8) (show decode cX10_through 54 = .ok (.getfield 56, 3) by decide +kernel) rfl ?_
  refine am_r_callV (as := [am_r v4, am_r (some 16)]) (st := []) hc mb_X3_readBehind mv_X3_readBehind (Or.inl ml_X10_214) (obR (by unfold am_isR; decide)) (by omega) (r := (RX3, TX3, 9)) rfl rfl rfl rfl (Nat.le_of_ble_eq_true rfl) ⟨Nat.le_refl _, Nat.le_refl _⟩ ⟨Nat.le_refl _, Nat.le_refl _⟩ (show decode cX10_through 57 = .ok (.invokevirtual 214, 3) by decide +kernel) ?_
  rintro _ _ ⟨x, σ', rfl, rfl, hq⟩ _
  exact am_x_fg [4] (k x σ' hq)
theorem S_X10_through_60 {G : am_G} {d : Nat} {Q : Int → am_D → Prop} {σ : am_D} {s0 : Int} (hr1 : -2147483648 ≤ s0 ∧ s0 ≤ 2147483647) (k1 : ¬ s0 = 0 → am_X (am_FI G (d + 1) Q) mX10_through (0, 0) 65 [some (am_r (some 0)), none, none, none, none] [] (am_K0, σ)) (k2 : ¬ (¬ s0 = 0) → am_X (am_FI G (d + 1) Q) mX10_through (0, 0) 63 [none, none, none, none, none] [] (am_K0, σ)) : am_X (am_FI G (d + 1) Q) mX10_through (0, 0) 60 [some (am_r (some 0)), none, none, none, none] [am_i s0] (am_K0, σ) := by
  refine am_r_if_ne (tg := 65) (nx := 63) (show decode cX10_through 60 = .ok (.ifCond .ne 5, 3) by decide +kernel) (by decide) rfl hr1 ?_ ?_
  · exact fun q => k1 q
  · exact fun q => am_x_fg [0] (k2 q)
theorem S_X10_through_63 {G : am_G} {d : Nat} {Q : Int → am_D → Prop} {σ : am_D}   (k : Q (-1) σ) : am_X (am_FI G (d + 1) Q) mX10_through (0, 0) 63 [none, none, none, none, none] [] (am_K0, σ) := by
  refine am_r_iconst (nx := 64) (show decode cX10_through 63 = .ok (.iconst (-1), 1) by decide +kernel) rfl ?_
  exact am_r_iret rfl rfl (show decode cX10_through 64 = .ok (.ireturn, 1) by decide +kernel) ⟨_, _, rfl, rfl, k⟩
theorem S_X10_through_65 {G : am_G} {d : Nat} {Q : Int → am_D → Prop} {σ : am_D} {Q' : am_D → Prop} (hc : am_MV G d mX3_write [am_r (some 20)] σ Q') (k : ∀ σ' : am_D, Q' σ' → am_X (am_FI G (d + 1) Q) mX10_through (0, 0) 72 [some (am_r (some 0)), none, none, none, none] [] (am_K0, σ')) : am_X (am_FI G (d + 1) Q) mX10_through (0, 0) 65 [some (am_r (some 0)), none, none, none, none] [] (am_K0, σ) := by
  refine am_r_aload_n (nx := 66) rfl rfl (show decode cX10_through 65 = .ok (.aload_n 0, 1) by decide +kernel) rfl ?_
  refine am_r_getF (nx := 69) 9 cw10 (by decide) rfl (Or.inl fl_X10_59) (ob_0) (fn_0_9) (show decode cX10_through 66 = .ok (.getfield 59, 3) by decide +kernel) rfl ?_
  refine am_r_callV (as := []) (st := []) hc mb_X3_write mv_X3_write (Or.inl ml_X10_203) (obR (by unfold am_isR; decide)) (by omega) (r := (RX3, TX3, 9)) rfl rfl rfl rfl (Nat.le_of_ble_eq_true rfl) ⟨Nat.le_refl _, Nat.le_refl _⟩ ⟨Nat.le_refl _, Nat.le_refl _⟩ (show decode cX10_through 69 = .ok (.invokevirtual 203, 3) by decide +kernel) ?_
  rintro _ _ ⟨σ', rfl, rfl, hq⟩ _
  exact (k σ' hq)
theorem S_X10_through_72 {G : am_G} {d : Nat} {Q : Int → am_D → Prop} {σ : am_D} {Q' : am_D → Prop} (hc : am_MV G d mX0_receive [am_r (some 10), am_r (some 20)] σ Q') (k : ∀ σ' : am_D, Q' σ' → am_X (am_FI G (d + 1) Q) mX10_through (0, 0) 83 [some (am_r (some 0)), none, none, none, none] [] (am_K0, σ')) : am_X (am_FI G (d + 1) Q) mX10_through (0, 0) 72 [some (am_r (some 0)), none, none, none, none] [] (am_K0, σ) := by
  refine am_r_aload_n (nx := 73) rfl rfl (show decode cX10_through 72 = .ok (.aload_n 0, 1) by decide +kernel) rfl ?_
  refine am_r_getF (nx := 76) 6 cw10 (by decide) rfl (Or.inl fl_X10_46) (ob_0) (fn_0_6) (show decode cX10_through 73 = .ok (.getfield 46, 3) by decide +kernel) rfl ?_
  refine am_r_aload_n (nx := 77) rfl rfl (show decode cX10_through 76 = .ok (.aload_n 0, 1) by decide +kernel) rfl ?_
  refine am_r_getF (nx := 80) 9 cw10 (by decide) rfl (Or.inl fl_X10_59) (ob_0) (fn_0_9) (show decode cX10_through 77 = .ok (.getfield 59, 3) by decide +kernel) rfl ?_
  refine am_r_callV (as := [am_r (some 20)]) (st := []) hc mb_X0_receive mv_X0_receive (Or.inl ml_X10_206) (obE (by unfold am_isE; decide)) (by omega) (r := (RX0, TX0, 2)) rfl rfl rfl rfl (Nat.le_of_ble_eq_true rfl) ⟨Nat.le_refl _, Nat.le_refl _⟩ ⟨Nat.le_refl _, Nat.le_refl _⟩ (show decode cX10_through 80 = .ok (.invokevirtual 206, 3) by decide +kernel) ?_
  rintro _ _ ⟨σ', rfl, rfl, hq⟩ _
  exact (k σ' hq)
theorem S_X10_through_83 {G : am_G} {d : Nat} {Q : Int → am_D → Prop} {σ : am_D} {Q' : Int → am_D → Prop} (hc : am_MI G d mX0_elements [am_r (some 10)] σ Q') (k : ∀ (x : Int) (σ' : am_D), Q' x σ' → Q x σ') : am_X (am_FI G (d + 1) Q) mX10_through (0, 0) 83 [some (am_r (some 0)), none, none, none, none] [] (am_K0, σ) := by
  refine am_r_aload_n (nx := 84) rfl rfl (show decode cX10_through 83 = .ok (.aload_n 0, 1) by decide +kernel) rfl ?_
  refine am_r_getF (nx := 87) 6 cw10 (by decide) rfl (Or.inl fl_X10_46) (ob_0) (fn_0_6) (show decode cX10_through 84 = .ok (.getfield 46, 3) by decide +kernel) rfl ?_
  refine am_r_callV (as := []) (st := []) hc mb_X0_elements mv_X0_elements (Or.inl ml_X10_126) (obE (by unfold am_isE; decide)) (by omega) (r := (RX0, TX0, 2)) rfl rfl rfl rfl (Nat.le_of_ble_eq_true rfl) ⟨Nat.le_refl _, Nat.le_refl _⟩ ⟨Nat.le_refl _, Nat.le_refl _⟩ (show decode cX10_through 87 = .ok (.invokevirtual 126, 3) by decide +kernel) ?_
  rintro _ _ ⟨x, σ', rfl, rfl, hq⟩ _
  exact am_r_iret rfl rfl (show decode cX10_through 90 = .ok (.ireturn, 1) by decide +kernel) ⟨_, _, rfl, rfl, (k x σ' hq)⟩
theorem S_X10_refused_0 {G : am_G} {d : Nat} {Q : Int → am_D → Prop} {σ : am_D} {v1 : Int} {Q' : Option Nat → am_D → Prop} (hc : am_MR G d mX10_told [am_r (some 0), am_i v1] σ Q') (k : ∀ (x : Option Nat) (σ' : am_D), Q' x σ' → am_X (am_FI G (d + 1) Q) mX10_refused (0, 0) 6 [some (am_r (some 0)), none, some (am_r x)] [] (am_K0, σ')) : am_X (am_FI G (d + 1) Q) mX10_refused (0, 0) 0 [some (am_r (some 0)), some (am_i v1), none] [] (am_K0, σ) := by
  refine am_r_aload_n (nx := 1) rfl rfl (show decode cX10_refused 0 = .ok (.aload_n 0, 1) by decide +kernel) rfl ?_
  refine am_r_iload_n (nx := 2) rfl rfl (show decode cX10_refused 1 = .ok (.iload_n 1, 1) by decide +kernel) rfl ?_
  refine am_r_callV (as := [am_i v1]) (st := []) hc mb_X10_told mv_X10_told (Or.inl ml_X10_129) (ob_0) (by omega) (r := (RX10, TX10, 14)) rfl rfl rfl rfl (Nat.le_of_ble_eq_true rfl) ⟨Nat.le_refl _, Nat.le_refl _⟩ ⟨Nat.le_refl _, Nat.le_refl _⟩ (show decode cX10_refused 2 = .ok (.invokevirtual 129, 3) by decide +kernel) ?_
  rintro _ _ ⟨x, σ', rfl, rfl, hq⟩ _
  refine am_r_astore_n (nx := 6) rfl (by decide) rfl (show decode cX10_refused 5 = .ok (.astore_n 2, 1) by decide +kernel) rfl ?_
  exact am_x_fg [1] (k x σ' hq)
theorem S_X10_refused_6 {G : am_G} {d : Nat} {Q : Int → am_D → Prop} {σ : am_D} {v2 : Option Nat}  (k1 : v2 = none → am_X (am_FI G (d + 1) Q) mX10_refused (0, 0) 10 [none, none, none] [] (am_K0, σ)) (k2 : ∀ a, v2 = some a → am_X (am_FI G (d + 1) Q) mX10_refused (0, 0) 15 [some (am_r (some 0)), none, some (am_r v2)] [] (am_K0, σ)) : am_X (am_FI G (d + 1) Q) mX10_refused (0, 0) 6 [some (am_r (some 0)), none, some (am_r v2)] [] (am_K0, σ) := by
  refine am_r_aload_n (nx := 7) rfl rfl (show decode cX10_refused 6 = .ok (.aload_n 2, 1) by decide +kernel) rfl ?_
  refine am_r_ifnonnull (tg := 15) (nx := 10) (show decode cX10_refused 7 = .ok (.ifnonnull 8, 3) by decide +kernel) (by decide) rfl ?_ ?_
  · exact fun q => am_x_fg [0, 2] (k1 q)
  · exact fun a q => k2 a q
theorem S_X10_refused_10 {G : am_G} {d : Nat} {Q : Int → am_D → Prop} {σ : am_D}   (k : am_X (am_FI G (d + 1) Q) mX10_refused (0, 0) 27 [none, none, none] [am_i (-2)] (am_K0, σ)) : am_X (am_FI G (d + 1) Q) mX10_refused (0, 0) 10 [none, none, none] [] (am_K0, σ) := by
  refine am_r_bipush (nx := 12) rfl (show decode cX10_refused 10 = .ok (.bipush (-2), 2) by decide +kernel) rfl ?_
  refine am_r_goto (tg := 27) (show decode cX10_refused 12 = .ok (.goto 15, 3) by decide +kernel) (by decide) ?_
  exact k
theorem S_X10_refused_15 {G : am_G} {d : Nat} {Q : Int → am_D → Prop} {σ : am_D} {v2 : Option Nat} {Q' : Int → am_D → Prop} (hc : am_MI G d mX3_refusal [am_r (some 16), am_r v2, am_r (some 6)] σ Q') (k : ∀ (x : Int) (σ' : am_D), Q' x σ' → am_X (am_FI G (d + 1) Q) mX10_refused (0, 0) 27 [none, none, none] [am_i x] (am_K0, σ')) : am_X (am_FI G (d + 1) Q) mX10_refused (0, 0) 15 [some (am_r (some 0)), none, some (am_r v2)] [] (am_K0, σ) := by
  refine am_r_aload_n (nx := 16) rfl rfl (show decode cX10_refused 15 = .ok (.aload_n 0, 1) by decide +kernel) rfl ?_
  refine am_r_getF (nx := 19) 8 cw10 (by decide) rfl (Or.inl fl_X10_56) (ob_0) (fn_0_8) (show decode cX10_refused 16 = .ok (.getfield 56, 3) by decide +kernel) rfl ?_
  refine am_r_aload_n (nx := 20) rfl rfl (show decode cX10_refused 19 = .ok (.aload_n 2, 1) by decide +kernel) rfl ?_
  refine am_r_aload_n (nx := 21) rfl rfl (show decode cX10_refused 20 = .ok (.aload_n 0, 1) by decide +kernel) rfl ?_
  refine am_r_getF (nx := 24) 4 cw10 (by decide) rfl (Or.inl fl_X10_39) (ob_0) (fn_0_4) (show decode cX10_refused 21 = .ok (.getfield 39, 3) by decide +kernel) rfl ?_
  refine am_r_callV (as := [am_r v2, am_r (some 6)]) (st := []) hc mb_X3_refusal mv_X3_refusal (Or.inl ml_X10_210) (obR (by unfold am_isR; decide)) (by omega) (r := (RX3, TX3, 9)) rfl rfl rfl rfl (Nat.le_of_ble_eq_true rfl) ⟨Nat.le_refl _, Nat.le_refl _⟩ ⟨Nat.le_refl _, Nat.le_refl _⟩ (show decode cX10_refused 24 = .ok (.invokevirtual 210, 3) by decide +kernel) ?_
  rintro _ _ ⟨x, σ', rfl, rfl, hq⟩ _
  exact am_x_fg [0, 2] (k x σ' hq)
theorem S_X10_refused_27 {G : am_G} {d : Nat} {Q : Int → am_D → Prop} {σ : am_D} {s0 : Int}  (k : Q s0 σ) : am_X (am_FI G (d + 1) Q) mX10_refused (0, 0) 27 [none, none, none] [am_i s0] (am_K0, σ) := by
  exact am_r_iret rfl rfl (show decode cX10_refused 27 = .ok (.ireturn, 1) by decide +kernel) ⟨_, _, rfl, rfl, k⟩
theorem S_X10_ahead_0 {G : am_G} {d : Nat} {Q : Int → am_D → Prop} {σ : am_D} {v1 : Int} {v2 : Int} {Q' : Option Nat → am_D → Prop} (hc : am_MR G d mX10_told [am_r (some 0), am_i v1] σ Q') (k : ∀ (x : Option Nat) (σ' : am_D), Q' x σ' → am_X (am_FI G (d + 1) Q) mX10_ahead (0, 0) 6 [some (am_r (some 0)), none, some (am_i v2), some (am_r x), none] [] (am_K0, σ')) : am_X (am_FI G (d + 1) Q) mX10_ahead (0, 0) 0 [some (am_r (some 0)), some (am_i v1), some (am_i v2), none, none] [] (am_K0, σ) := by
  refine am_r_aload_n (nx := 1) rfl rfl (show decode cX10_ahead 0 = .ok (.aload_n 0, 1) by decide +kernel) rfl ?_
  refine am_r_iload_n (nx := 2) rfl rfl (show decode cX10_ahead 1 = .ok (.iload_n 1, 1) by decide +kernel) rfl ?_
  refine am_r_callV (as := [am_i v1]) (st := []) hc mb_X10_told mv_X10_told (Or.inl ml_X10_129) (ob_0) (by omega) (r := (RX10, TX10, 14)) rfl rfl rfl rfl (Nat.le_of_ble_eq_true rfl) ⟨Nat.le_refl _, Nat.le_refl _⟩ ⟨Nat.le_refl _, Nat.le_refl _⟩ (show decode cX10_ahead 2 = .ok (.invokevirtual 129, 3) by decide +kernel) ?_
  rintro _ _ ⟨x, σ', rfl, rfl, hq⟩ _
  refine am_r_astore_n (nx := 6) rfl (by decide) rfl (show decode cX10_ahead 5 = .ok (.astore_n 3, 1) by decide +kernel) rfl ?_
  exact am_x_fg [1] (k x σ' hq)
theorem S_X10_ahead_6 {G : am_G} {d : Nat} {Q : Int → am_D → Prop} {σ : am_D} {v2 : Int} {Q' : Option Nat → am_D → Prop} {v3 : Option Nat} (hc : am_MR G d mX10_told [am_r (some 0), am_i v2] σ Q') (k : ∀ (x : Option Nat) (σ' : am_D), Q' x σ' → am_X (am_FI G (d + 1) Q) mX10_ahead (0, 0) 13 [some (am_r (some 0)), none, none, some (am_r v3), some (am_r x)] [] (am_K0, σ')) : am_X (am_FI G (d + 1) Q) mX10_ahead (0, 0) 6 [some (am_r (some 0)), none, some (am_i v2), some (am_r v3), none] [] (am_K0, σ) := by
  refine am_r_aload_n (nx := 7) rfl rfl (show decode cX10_ahead 6 = .ok (.aload_n 0, 1) by decide +kernel) rfl ?_
  refine am_r_iload_n (nx := 8) rfl rfl (show decode cX10_ahead 7 = .ok (.iload_n 2, 1) by decide +kernel) rfl ?_
  refine am_r_callV (as := [am_i v2]) (st := []) hc mb_X10_told mv_X10_told (Or.inl ml_X10_129) (ob_0) (by omega) (r := (RX10, TX10, 14)) rfl rfl rfl rfl (Nat.le_of_ble_eq_true rfl) ⟨Nat.le_refl _, Nat.le_refl _⟩ ⟨Nat.le_refl _, Nat.le_refl _⟩ (show decode cX10_ahead 8 = .ok (.invokevirtual 129, 3) by decide +kernel) ?_
  rintro _ _ ⟨x, σ', rfl, rfl, hq⟩ _
  refine am_r_astore (nx := 13) (by decide) rfl (show decode cX10_ahead 11 = .ok (.astore 4, 2) by decide +kernel) rfl ?_
  exact am_x_fg [2] (k x σ' hq)
theorem S_X10_ahead_13 {G : am_G} {d : Nat} {Q : Int → am_D → Prop} {σ : am_D} {v3 : Option Nat} {v4 : Option Nat}  (k1 : v3 = none → am_X (am_FI G (d + 1) Q) mX10_ahead (0, 0) 22 [none, none, none, none, none] [] (am_K0, σ)) (k2 : ∀ a, v3 = some a → am_X (am_FI G (d + 1) Q) mX10_ahead (0, 0) 17 [some (am_r (some 0)), none, none, some (am_r v3), some (am_r v4)] [] (am_K0, σ)) : am_X (am_FI G (d + 1) Q) mX10_ahead (0, 0) 13 [some (am_r (some 0)), none, none, some (am_r v3), some (am_r v4)] [] (am_K0, σ) := by
  refine am_r_aload_n (nx := 14) rfl rfl (show decode cX10_ahead 13 = .ok (.aload_n 3, 1) by decide +kernel) rfl ?_
  refine am_r_ifnull (tg := 22) (nx := 17) (show decode cX10_ahead 14 = .ok (.ifnull 8, 3) by decide +kernel) (by decide) rfl ?_ ?_
  · exact fun q => am_x_fg [0, 3, 4] (k1 q)
  · exact fun a q => k2 a q
theorem S_X10_ahead_17 {G : am_G} {d : Nat} {Q : Int → am_D → Prop} {σ : am_D} {v4 : Option Nat} {v3 : Option Nat}  (k1 : v4 = none → am_X (am_FI G (d + 1) Q) mX10_ahead (0, 0) 22 [none, none, none, none, none] [] (am_K0, σ)) (k2 : ∀ a, v4 = some a → am_X (am_FI G (d + 1) Q) mX10_ahead (0, 0) 24 [some (am_r (some 0)), none, none, some (am_r v3), some (am_r v4)] [] (am_K0, σ)) : am_X (am_FI G (d + 1) Q) mX10_ahead (0, 0) 17 [some (am_r (some 0)), none, none, some (am_r v3), some (am_r v4)] [] (am_K0, σ) := by
  refine am_r_aload (nx := 19) rfl (show decode cX10_ahead 17 = .ok (.aload 4, 2) by decide +kernel) rfl ?_
  refine am_r_ifnonnull (tg := 24) (nx := 22) (show decode cX10_ahead 19 = .ok (.ifnonnull 5, 3) by decide +kernel) (by decide) rfl ?_ ?_
  · exact fun q => am_x_fg [0, 3, 4] (k1 q)
  · exact fun a q => k2 a q
theorem S_X10_ahead_22 {G : am_G} {d : Nat} {Q : Int → am_D → Prop} {σ : am_D}   (k : Q (-1) σ) : am_X (am_FI G (d + 1) Q) mX10_ahead (0, 0) 22 [none, none, none, none, none] [] (am_K0, σ) := by
  refine am_r_iconst (nx := 23) (show decode cX10_ahead 22 = .ok (.iconst (-1), 1) by decide +kernel) rfl ?_
  exact am_r_iret rfl rfl (show decode cX10_ahead 23 = .ok (.ireturn, 1) by decide +kernel) ⟨_, _, rfl, rfl, k⟩
theorem S_X10_ahead_24 {G : am_G} {d : Nat} {Q : Int → am_D → Prop} {σ : am_D} {v3 : Option Nat} {Q' : Int → am_D → Prop} {v4 : Option Nat} (hc : am_MI G d mX3_refusal [am_r (some 16), am_r v3, am_r (some 6)] σ Q') (k : ∀ (x : Int) (σ' : am_D), Q' x σ' → am_X (am_FI G (d + 1) Q) mX10_ahead (0, 0) 36 [some (am_r (some 0)), none, none, none, some (am_r v4)] [am_i x] (am_K0, σ')) : am_X (am_FI G (d + 1) Q) mX10_ahead (0, 0) 24 [some (am_r (some 0)), none, none, some (am_r v3), some (am_r v4)] [] (am_K0, σ) := by
  refine am_r_aload_n (nx := 25) rfl rfl (show decode cX10_ahead 24 = .ok (.aload_n 0, 1) by decide +kernel) rfl ?_
  refine am_r_getF (nx := 28) 8 cw10 (by decide) rfl (Or.inl fl_X10_56) (ob_0) (fn_0_8) (show decode cX10_ahead 25 = .ok (.getfield 56, 3) by decide +kernel) rfl ?_
  refine am_r_aload_n (nx := 29) rfl rfl (show decode cX10_ahead 28 = .ok (.aload_n 3, 1) by decide +kernel) rfl ?_
  refine am_r_aload_n (nx := 30) rfl rfl (show decode cX10_ahead 29 = .ok (.aload_n 0, 1) by decide +kernel) rfl ?_
  refine am_r_getF (nx := 33) 4 cw10 (by decide) rfl (Or.inl fl_X10_39) (ob_0) (fn_0_4) (show decode cX10_ahead 30 = .ok (.getfield 39, 3) by decide +kernel) rfl ?_
  refine am_r_callV (as := [am_r v3, am_r (some 6)]) (st := []) hc mb_X3_refusal mv_X3_refusal (Or.inl ml_X10_210) (obR (by unfold am_isR; decide)) (by omega) (r := (RX3, TX3, 9)) rfl rfl rfl rfl (Nat.le_of_ble_eq_true rfl) ⟨Nat.le_refl _, Nat.le_refl _⟩ ⟨Nat.le_refl _, Nat.le_refl _⟩ (show decode cX10_ahead 33 = .ok (.invokevirtual 210, 3) by decide +kernel) ?_
  rintro _ _ ⟨x, σ', rfl, rfl, hq⟩ _
  exact am_x_fg [3] (k x σ' hq)
theorem S_X10_ahead_36 {G : am_G} {d : Nat} {Q : Int → am_D → Prop} {σ : am_D} {s0 : Int} {v4 : Option Nat} (hr1 : -2147483648 ≤ s0 ∧ s0 ≤ 2147483647) (k1 : s0 = (-1) → am_X (am_FI G (d + 1) Q) mX10_ahead (0, 0) 42 [some (am_r (some 0)), none, none, none, some (am_r v4)] [] (am_K0, σ)) (k2 : ¬ (s0 = (-1)) → am_X (am_FI G (d + 1) Q) mX10_ahead (0, 0) 40 [none, none, none, none, none] [] (am_K0, σ)) : am_X (am_FI G (d + 1) Q) mX10_ahead (0, 0) 36 [some (am_r (some 0)), none, none, none, some (am_r v4)] [am_i s0] (am_K0, σ) := by
  refine am_r_iconst (nx := 37) (show decode cX10_ahead 36 = .ok (.iconst (-1), 1) by decide +kernel) rfl ?_
  refine am_r_icmp_eq (tg := 42) (nx := 40) (show decode cX10_ahead 37 = .ok (.if_icmp .eq 5, 3) by decide +kernel) (by decide) rfl hr1 (by omega) ?_ ?_
  · exact fun q => k1 q
  · exact fun q => am_x_fg [0, 4] (k2 q)
theorem S_X10_ahead_40 {G : am_G} {d : Nat} {Q : Int → am_D → Prop} {σ : am_D}   (k : Q 0 σ) : am_X (am_FI G (d + 1) Q) mX10_ahead (0, 0) 40 [none, none, none, none, none] [] (am_K0, σ) := by
  refine am_r_iconst (nx := 41) (show decode cX10_ahead 40 = .ok (.iconst 0, 1) by decide +kernel) rfl ?_
  exact am_r_iret rfl rfl (show decode cX10_ahead 41 = .ok (.ireturn, 1) by decide +kernel) ⟨_, _, rfl, rfl, k⟩
theorem S_X10_ahead_42 {G : am_G} {d : Nat} {Q : Int → am_D → Prop} {σ : am_D} {Q' : am_D → Prop} {v4 : Option Nat} (hc : am_MV G d mX3_write [am_r (some 16)] σ Q') (k : ∀ σ' : am_D, Q' σ' → am_X (am_FI G (d + 1) Q) mX10_ahead (0, 0) 49 [some (am_r (some 0)), none, none, none, some (am_r v4)] [] (am_K0, σ')) : am_X (am_FI G (d + 1) Q) mX10_ahead (0, 0) 42 [some (am_r (some 0)), none, none, none, some (am_r v4)] [] (am_K0, σ) := by
  refine am_r_aload_n (nx := 43) rfl rfl (show decode cX10_ahead 42 = .ok (.aload_n 0, 1) by decide +kernel) rfl ?_
  refine am_r_getF (nx := 46) 8 cw10 (by decide) rfl (Or.inl fl_X10_56) (ob_0) (fn_0_8) (show decode cX10_ahead 43 = .ok (.getfield 56, 3) by decide +kernel) rfl ?_
  refine am_r_callV (as := []) (st := []) hc mb_X3_write mv_X3_write (Or.inl ml_X10_203) (obR (by unfold am_isR; decide)) (by omega) (r := (RX3, TX3, 9)) rfl rfl rfl rfl (Nat.le_of_ble_eq_true rfl) ⟨Nat.le_refl _, Nat.le_refl _⟩ ⟨Nat.le_refl _, Nat.le_refl _⟩ (show decode cX10_ahead 46 = .ok (.invokevirtual 203, 3) by decide +kernel) ?_
  rintro _ _ ⟨σ', rfl, rfl, hq⟩ _
  exact (k σ' hq)
theorem S_X10_ahead_49 {G : am_G} {d : Nat} {Q : Int → am_D → Prop} {σ : am_D} {v4 : Option Nat} {Q' : Int → am_D → Prop} (hc : am_MI G d mX5_canReadBehind [am_r (some 28), am_r v4, am_r (some 16)] σ Q') (k : ∀ (x : Int) (σ' : am_D), Q' x σ' → am_X (am_FI G (d + 1) Q) mX10_ahead (0, 0) 62 [none, none, none, none, none] [am_i x] (am_K0, σ')) : am_X (am_FI G (d + 1) Q) mX10_ahead (0, 0) 49 [some (am_r (some 0)), none, none, none, some (am_r v4)] [] (am_K0, σ) := by
  refine am_r_aload_n (nx := 50) rfl rfl (show decode cX10_ahead 49 = .ok (.aload_n 0, 1) by decide +kernel) rfl ?_
  refine am_r_getF (nx := 53) 11 cw10 (by decide) rfl (Or.inl fl_X10_72) (ob_0) (fn_0_11) (show decode cX10_ahead 50 = .ok (.getfield 72, 3) by decide +kernel) rfl ?_
  refine am_r_aload (nx := 55) rfl (show decode cX10_ahead 53 = .ok (.aload 4, 2) by decide +kernel) rfl ?_
  refine am_r_aload_n (nx := 56) rfl rfl (show decode cX10_ahead 55 = .ok (.aload_n 0, 1) by decide +kernel) rfl ?_
  refine am_r_getF (nx := 59) 8 cw10 (by decide) rfl (Or.inl fl_X10_56) (ob_0) (fn_0_8) (show decode cX10_ahead 56 = .ok (.getfield 56, 3) by decide +kernel) rfl ?_
  refine am_r_callV (as := [am_r v4, am_r (some 16)]) (st := []) hc mb_X5_canReadBehind mv_X5_canReadBehind (Or.inl ml_X10_218) (ob_28) (by omega) (r := (RX5, TX5, 1)) rfl rfl rfl rfl (Nat.le_of_ble_eq_true rfl) ⟨Nat.le_refl _, Nat.le_refl _⟩ ⟨Nat.le_refl _, Nat.le_refl _⟩ (show decode cX10_ahead 59 = .ok (.invokevirtual 218, 3) by decide +kernel) ?_
  rintro _ _ ⟨x, σ', rfl, rfl, hq⟩ _
  exact am_x_fg [0, 4] (k x σ' hq)
theorem S_X10_ahead_62 {G : am_G} {d : Nat} {Q : Int → am_D → Prop} {σ : am_D} {s0 : Int} (hr1 : -2147483648 ≤ s0 ∧ s0 ≤ 2147483647) (k1 : s0 = 0 → am_X (am_FI G (d + 1) Q) mX10_ahead (0, 0) 69 [none, none, none, none, none] [] (am_K0, σ)) (k2 : ¬ (s0 = 0) → am_X (am_FI G (d + 1) Q) mX10_ahead (0, 0) 65 [none, none, none, none, none] [] (am_K0, σ)) : am_X (am_FI G (d + 1) Q) mX10_ahead (0, 0) 62 [none, none, none, none, none] [am_i s0] (am_K0, σ) := by
  refine am_r_if_eq (tg := 69) (nx := 65) (show decode cX10_ahead 62 = .ok (.ifCond .eq 7, 3) by decide +kernel) (by decide) rfl hr1 ?_ ?_
  · exact fun q => k1 q
  · exact fun q => k2 q
theorem S_X10_ahead_65 {G : am_G} {d : Nat} {Q : Int → am_D → Prop} {σ : am_D}   (k : am_X (am_FI G (d + 1) Q) mX10_ahead (0, 0) 70 [none, none, none, none, none] [am_i 1] (am_K0, σ)) : am_X (am_FI G (d + 1) Q) mX10_ahead (0, 0) 65 [none, none, none, none, none] [] (am_K0, σ) := by
  refine am_r_iconst (nx := 66) (show decode cX10_ahead 65 = .ok (.iconst 1, 1) by decide +kernel) rfl ?_
  refine am_r_goto (tg := 70) (show decode cX10_ahead 66 = .ok (.goto 4, 3) by decide +kernel) (by decide) ?_
  exact k
theorem S_X10_ahead_69 {G : am_G} {d : Nat} {Q : Int → am_D → Prop} {σ : am_D}   (k : am_X (am_FI G (d + 1) Q) mX10_ahead (0, 0) 70 [none, none, none, none, none] [am_i 0] (am_K0, σ)) : am_X (am_FI G (d + 1) Q) mX10_ahead (0, 0) 69 [none, none, none, none, none] [] (am_K0, σ) := by
  refine am_r_iconst (nx := 70) (show decode cX10_ahead 69 = .ok (.iconst 0, 1) by decide +kernel) rfl ?_
  exact k
theorem S_X10_ahead_70 {G : am_G} {d : Nat} {Q : Int → am_D → Prop} {σ : am_D} {s0 : Int}  (k : Q s0 σ) : am_X (am_FI G (d + 1) Q) mX10_ahead (0, 0) 70 [none, none, none, none, none] [am_i s0] (am_K0, σ) := by
  exact am_r_iret rfl rfl (show decode cX10_ahead 70 = .ok (.ireturn, 1) by decide +kernel) ⟨_, _, rfl, rfl, k⟩
theorem S_X10_peak_0 {G : am_G} {d : Nat} {Q : Int → am_D → Prop} {σ : am_D} {v1 : Int} {Q' : Option Nat → am_D → Prop} (hc : am_MR G d mX10_told [am_r (some 0), am_i v1] σ Q') (k : ∀ (x : Option Nat) (σ' : am_D), Q' x σ' → am_X (am_FI G (d + 1) Q) mX10_peak (0, 0) 6 [some (am_r (some 0)), none, some (am_r x)] [] (am_K0, σ')) : am_X (am_FI G (d + 1) Q) mX10_peak (0, 0) 0 [some (am_r (some 0)), some (am_i v1), none] [] (am_K0, σ) := by
  refine am_r_aload_n (nx := 1) rfl rfl (show decode cX10_peak 0 = .ok (.aload_n 0, 1) by decide +kernel) rfl ?_
  refine am_r_iload_n (nx := 2) rfl rfl (show decode cX10_peak 1 = .ok (.iload_n 1, 1) by decide +kernel) rfl ?_
  refine am_r_callV (as := [am_i v1]) (st := []) hc mb_X10_told mv_X10_told (Or.inl ml_X10_129) (ob_0) (by omega) (r := (RX10, TX10, 14)) rfl rfl rfl rfl (Nat.le_of_ble_eq_true rfl) ⟨Nat.le_refl _, Nat.le_refl _⟩ ⟨Nat.le_refl _, Nat.le_refl _⟩ (show decode cX10_peak 2 = .ok (.invokevirtual 129, 3) by decide +kernel) ?_
  rintro _ _ ⟨x, σ', rfl, rfl, hq⟩ _
  refine am_r_astore_n (nx := 6) rfl (by decide) rfl (show decode cX10_peak 5 = .ok (.astore_n 2, 1) by decide +kernel) rfl ?_
  exact am_x_fg [1] (k x σ' hq)
theorem S_X10_peak_6 {G : am_G} {d : Nat} {Q : Int → am_D → Prop} {σ : am_D} {v2 : Option Nat}  (k1 : v2 = none → am_X (am_FI G (d + 1) Q) mX10_peak (0, 0) 26 [none, none, none] [] (am_K0, σ)) (k2 : ∀ a, v2 = some a → am_X (am_FI G (d + 1) Q) mX10_peak (0, 0) 10 [some (am_r (some 0)), none, some (am_r v2)] [] (am_K0, σ)) : am_X (am_FI G (d + 1) Q) mX10_peak (0, 0) 6 [some (am_r (some 0)), none, some (am_r v2)] [] (am_K0, σ) := by
  refine am_r_aload_n (nx := 7) rfl rfl (show decode cX10_peak 6 = .ok (.aload_n 2, 1) by decide +kernel) rfl ?_
  refine am_r_ifnull (tg := 26) (nx := 10) (show decode cX10_peak 7 = .ok (.ifnull 19, 3) by decide +kernel) (by decide) rfl ?_ ?_
  · exact fun q => am_x_fg [0, 2] (k1 q)
  · exact fun a q => k2 a q
theorem S_X10_peak_10 {G : am_G} {d : Nat} {Q : Int → am_D → Prop} {σ : am_D} {v2 : Option Nat} {Q' : Int → am_D → Prop} (hc : am_MI G d mX3_refusal [am_r (some 16), am_r v2, am_r (some 6)] σ Q') (k : ∀ (x : Int) (σ' : am_D), Q' x σ' → am_X (am_FI G (d + 1) Q) mX10_peak (0, 0) 22 [some (am_r (some 0)), none, none] [am_i x] (am_K0, σ')) : am_X (am_FI G (d + 1) Q) mX10_peak (0, 0) 10 [some (am_r (some 0)), none, some (am_r v2)] [] (am_K0, σ) := by
  refine am_r_aload_n (nx := 11) rfl rfl (show decode cX10_peak 10 = .ok (.aload_n 0, 1) by decide +kernel) rfl ?_
  refine am_r_getF (nx := 14) 8 cw10 (by decide) rfl (Or.inl fl_X10_56) (ob_0) (fn_0_8) (show decode cX10_peak 11 = .ok (.getfield 56, 3) by decide +kernel) rfl ?_
  refine am_r_aload_n (nx := 15) rfl rfl (show decode cX10_peak 14 = .ok (.aload_n 2, 1) by decide +kernel) rfl ?_
  refine am_r_aload_n (nx := 16) rfl rfl (show decode cX10_peak 15 = .ok (.aload_n 0, 1) by decide +kernel) rfl ?_
  refine am_r_getF (nx := 19) 4 cw10 (by decide) rfl (Or.inl fl_X10_39) (ob_0) (fn_0_4) (show decode cX10_peak 16 = .ok (.getfield 39, 3) by decide +kernel) rfl ?_
  refine am_r_callV (as := [am_r v2, am_r (some 6)]) (st := []) hc mb_X3_refusal mv_X3_refusal (Or.inl ml_X10_210) (obR (by unfold am_isR; decide)) (by omega) (r := (RX3, TX3, 9)) rfl rfl rfl rfl (Nat.le_of_ble_eq_true rfl) ⟨Nat.le_refl _, Nat.le_refl _⟩ ⟨Nat.le_refl _, Nat.le_refl _⟩ (show decode cX10_peak 19 = .ok (.invokevirtual 210, 3) by decide +kernel) ?_
  rintro _ _ ⟨x, σ', rfl, rfl, hq⟩ _
  exact am_x_fg [2] (k x σ' hq)
theorem S_X10_peak_22 {G : am_G} {d : Nat} {Q : Int → am_D → Prop} {σ : am_D} {s0 : Int} (hr1 : -2147483648 ≤ s0 ∧ s0 ≤ 2147483647) (k1 : s0 = (-1) → am_X (am_FI G (d + 1) Q) mX10_peak (0, 0) 28 [some (am_r (some 0)), none, none] [] (am_K0, σ)) (k2 : ¬ (s0 = (-1)) → am_X (am_FI G (d + 1) Q) mX10_peak (0, 0) 26 [none, none, none] [] (am_K0, σ)) : am_X (am_FI G (d + 1) Q) mX10_peak (0, 0) 22 [some (am_r (some 0)), none, none] [am_i s0] (am_K0, σ) := by
  refine am_r_iconst (nx := 23) (show decode cX10_peak 22 = .ok (.iconst (-1), 1) by decide +kernel) rfl ?_
  refine am_r_icmp_eq (tg := 28) (nx := 26) (show decode cX10_peak 23 = .ok (.if_icmp .eq 5, 3) by decide +kernel) (by decide) rfl hr1 (by omega) ?_ ?_
  · exact fun q => k1 q
  · exact fun q => am_x_fg [0] (k2 q)
theorem S_X10_peak_26 {G : am_G} {d : Nat} {Q : Int → am_D → Prop} {σ : am_D}   (k : Q (-1) σ) : am_X (am_FI G (d + 1) Q) mX10_peak (0, 0) 26 [none, none, none] [] (am_K0, σ) := by
  refine am_r_iconst (nx := 27) (show decode cX10_peak 26 = .ok (.iconst (-1), 1) by decide +kernel) rfl ?_
  exact am_r_iret rfl rfl (show decode cX10_peak 27 = .ok (.ireturn, 1) by decide +kernel) ⟨_, _, rfl, rfl, k⟩
theorem S_X10_peak_28 {G : am_G} {d : Nat} {Q : Int → am_D → Prop} {σ : am_D} {Q' : Int → am_D → Prop} (hc : am_MI G d mX3_now [am_r (some 16), am_i 3] σ Q') (k : ∀ (x : Int) (σ' : am_D), Q' x σ' → Q x σ') : am_X (am_FI G (d + 1) Q) mX10_peak (0, 0) 28 [some (am_r (some 0)), none, none] [] (am_K0, σ) := by
  refine am_r_aload_n (nx := 29) rfl rfl (show decode cX10_peak 28 = .ok (.aload_n 0, 1) by decide +kernel) rfl ?_
  refine am_r_getF (nx := 32) 8 cw10 (by decide) rfl (Or.inl fl_X10_56) (ob_0) (fn_0_8) (show decode cX10_peak 29 = .ok (.getfield 56, 3) by decide +kernel) rfl ?_
  refine am_r_iconst (nx := 33) (show decode cX10_peak 32 = .ok (.iconst 3, 1) by decide +kernel) rfl ?_
  refine am_r_callV (as := [am_i 3]) (st := []) hc mb_X3_now mv_X3_now (Or.inl ml_X10_173) (obR (by unfold am_isR; decide)) (by omega) (r := (RX3, TX3, 9)) rfl rfl rfl rfl (Nat.le_of_ble_eq_true rfl) ⟨Nat.le_refl _, Nat.le_refl _⟩ ⟨Nat.le_refl _, Nat.le_refl _⟩ (show decode cX10_peak 33 = .ok (.invokevirtual 173, 3) by decide +kernel) ?_
  rintro _ _ ⟨x, σ', rfl, rfl, hq⟩ _
  exact am_r_iret rfl rfl (show decode cX10_peak 36 = .ok (.ireturn, 1) by decide +kernel) ⟨_, _, rfl, rfl, (k x σ' hq)⟩
theorem S_X10_bound_0 {G : am_G} {d : Nat} {Q : Int → am_D → Prop} {σ : am_D} {v1 : Int} {v2 : Int} {Q' : Option Nat → am_D → Prop} (hc : am_MR G d mX10_told [am_r (some 0), am_i v1] σ Q') (k : ∀ (x : Option Nat) (σ' : am_D), Q' x σ' → am_X (am_FI G (d + 1) Q) mX10_bound (0, 0) 6 [none, none, some (am_i v2), some (am_r x)] [] (am_K0, σ')) : am_X (am_FI G (d + 1) Q) mX10_bound (0, 0) 0 [some (am_r (some 0)), some (am_i v1), some (am_i v2), none] [] (am_K0, σ) := by
  refine am_r_aload_n (nx := 1) rfl rfl (show decode cX10_bound 0 = .ok (.aload_n 0, 1) by decide +kernel) rfl ?_
  refine am_r_iload_n (nx := 2) rfl rfl (show decode cX10_bound 1 = .ok (.iload_n 1, 1) by decide +kernel) rfl ?_
  refine am_r_callV (as := [am_i v1]) (st := []) hc mb_X10_told mv_X10_told (Or.inl ml_X10_129) (ob_0) (by omega) (r := (RX10, TX10, 14)) rfl rfl rfl rfl (Nat.le_of_ble_eq_true rfl) ⟨Nat.le_refl _, Nat.le_refl _⟩ ⟨Nat.le_refl _, Nat.le_refl _⟩ (show decode cX10_bound 2 = .ok (.invokevirtual 129, 3) by decide +kernel) ?_
  rintro _ _ ⟨x, σ', rfl, rfl, hq⟩ _
  refine am_r_astore_n (nx := 6) rfl (by decide) rfl (show decode cX10_bound 5 = .ok (.astore_n 3, 1) by decide +kernel) rfl ?_
  exact am_x_fg [0, 1] (k x σ' hq)
theorem S_X10_bound_6 {G : am_G} {d : Nat} {Q : Int → am_D → Prop} {σ : am_D} {v2 : Int} {v3 : Option Nat}  (k1 : v3 = none → am_X (am_FI G (d + 1) Q) mX10_bound (0, 0) 21 [none, none, none, none] [] (am_K0, σ)) (k2 : ∀ a, v3 = some a → am_X (am_FI G (d + 1) Q) mX10_bound (0, 0) 10 [none, none, some (am_i v2), some (am_r v3)] [] (am_K0, σ)) : am_X (am_FI G (d + 1) Q) mX10_bound (0, 0) 6 [none, none, some (am_i v2), some (am_r v3)] [] (am_K0, σ) := by
  refine am_r_aload_n (nx := 7) rfl rfl (show decode cX10_bound 6 = .ok (.aload_n 3, 1) by decide +kernel) rfl ?_
  refine am_r_ifnull (tg := 21) (nx := 10) (show decode cX10_bound 7 = .ok (.ifnull 14, 3) by decide +kernel) (by decide) rfl ?_ ?_
  · exact fun q => am_x_fg [2, 3] (k1 q)
  · exact fun a q => k2 a q
theorem S_X10_bound_10 {G : am_G} {d : Nat} {Q : Int → am_D → Prop} {σ : am_D} {v2 : Int} {v3 : Option Nat} (hr1 : -2147483648 ≤ v2 ∧ v2 ≤ 2147483647) (k1 : v2 < 0 → am_X (am_FI G (d + 1) Q) mX10_bound (0, 0) 21 [none, none, none, none] [] (am_K0, σ)) (k2 : ¬ (v2 < 0) → am_X (am_FI G (d + 1) Q) mX10_bound (0, 0) 14 [none, none, some (am_i v2), some (am_r v3)] [] (am_K0, σ)) : am_X (am_FI G (d + 1) Q) mX10_bound (0, 0) 10 [none, none, some (am_i v2), some (am_r v3)] [] (am_K0, σ) := by
  refine am_r_iload_n (nx := 11) rfl rfl (show decode cX10_bound 10 = .ok (.iload_n 2, 1) by decide +kernel) rfl ?_
  refine am_r_if_lt (tg := 21) (nx := 14) (show decode cX10_bound 11 = .ok (.ifCond .lt 10, 3) by decide +kernel) (by decide) rfl hr1 ?_ ?_
  · exact fun q => am_x_fg [2, 3] (k1 q)
  · exact fun q => k2 q
theorem S_X10_bound_14 {G : am_G} {d : Nat} {Q : Int → am_D → Prop} {σ : am_D} {v2 : Int} {v3 : Option Nat} (hr1 : -2147483648 ≤ v2 ∧ v2 ≤ 2147483647) (k1 : v2 ≤ 1000 → am_X (am_FI G (d + 1) Q) mX10_bound (0, 0) 23 [none, none, some (am_i v2), some (am_r v3)] [] (am_K0, σ)) (k2 : ¬ (v2 ≤ 1000) → am_X (am_FI G (d + 1) Q) mX10_bound (0, 0) 21 [none, none, none, none] [] (am_K0, σ)) : am_X (am_FI G (d + 1) Q) mX10_bound (0, 0) 14 [none, none, some (am_i v2), some (am_r v3)] [] (am_K0, σ) := by
  refine am_r_iload_n (nx := 15) rfl rfl (show decode cX10_bound 14 = .ok (.iload_n 2, 1) by decide +kernel) rfl ?_
  refine am_r_sipush (nx := 18) rfl (show decode cX10_bound 15 = .ok (.sipush 1000, 3) by decide +kernel) rfl ?_
  refine am_r_icmp_le (tg := 23) (nx := 21) (show decode cX10_bound 18 = .ok (.if_icmp .le 5, 3) by decide +kernel) (by decide) rfl hr1 (by omega) ?_ ?_
  · exact fun q => k1 q
  · exact fun q => am_x_fg [2, 3] (k2 q)
theorem S_X10_bound_21 {G : am_G} {d : Nat} {Q : Int → am_D → Prop} {σ : am_D}   (k : Q (-1) σ) : am_X (am_FI G (d + 1) Q) mX10_bound (0, 0) 21 [none, none, none, none] [] (am_K0, σ) := by
  refine am_r_iconst (nx := 22) (show decode cX10_bound 21 = .ok (.iconst (-1), 1) by decide +kernel) rfl ?_
  exact am_r_iret rfl rfl (show decode cX10_bound 22 = .ok (.ireturn, 1) by decide +kernel) ⟨_, _, rfl, rfl, k⟩
theorem S_X10_bound_23 {G : am_G} {d : Nat} {Q : Int → am_D → Prop} {σ : am_D} {v2 : Int} {v3 : Nat} (hc1 : am_isM v3) (k : Q ((v2 * (σ.1 v3 5)) + (σ.1 v3 6)) σ) : am_X (am_FI G (d + 1) Q) mX10_bound (0, 0) 23 [none, none, some (am_i v2), some (am_r (some v3))] [] (am_K0, σ) := by
  refine am_r_iload_n (nx := 24) rfl rfl (show decode cX10_bound 23 = .ok (.iload_n 2, 1) by decide +kernel) rfl ?_
  refine am_r_aload_n (nx := 25) rfl rfl (show decode cX10_bound 24 = .ok (.aload_n 3, 1) by decide +kernel) rfl ?_
  refine am_r_getI (nx := 28) 5 cw2 (by decide) rfl (Or.inr ⟨_, fl_X10_148⟩) (obM hc1) (show decode cX10_bound 25 = .ok (.getfield 148, 3) by decide +kernel) rfl ?_
  refine am_r_imul (nx := 29) (show decode cX10_bound 28 = .ok (.imul, 1) by decide +kernel) rfl ?_
  refine am_r_aload_n (nx := 30) rfl rfl (show decode cX10_bound 29 = .ok (.aload_n 3, 1) by decide +kernel) rfl ?_
  refine am_r_getI (nx := 33) 6 cw2 (by decide) rfl (Or.inr ⟨_, fl_X10_151⟩) (obM hc1) (show decode cX10_bound 30 = .ok (.getfield 151, 3) by decide +kernel) rfl ?_
  refine am_r_iadd (nx := 34) (show decode cX10_bound 33 = .ok (.iadd, 1) by decide +kernel) rfl ?_
  exact am_r_iret rfl rfl (show decode cX10_bound 34 = .ok (.ireturn, 1) by decide +kernel) ⟨_, _, rfl, rfl, k⟩
theorem S_X10_states_0 {G : am_G} {d : Nat} {Q : Int → am_D → Prop} {σ : am_D} {v1 : Int} {Q' : Option Nat → am_D → Prop} (hc : am_MR G d mX10_told [am_r (some 0), am_i v1] σ Q') (k : ∀ (x : Option Nat) (σ' : am_D), Q' x σ' → am_X (am_FI G (d + 1) Q) mX10_states (0, 0) 6 [some (am_r (some 0)), none, some (am_r x)] [] (am_K0, σ')) : am_X (am_FI G (d + 1) Q) mX10_states (0, 0) 0 [some (am_r (some 0)), some (am_i v1), none] [] (am_K0, σ) := by
  refine am_r_aload_n (nx := 1) rfl rfl (show decode cX10_states 0 = .ok (.aload_n 0, 1) by decide +kernel) rfl ?_
  refine am_r_iload_n (nx := 2) rfl rfl (show decode cX10_states 1 = .ok (.iload_n 1, 1) by decide +kernel) rfl ?_
  refine am_r_callV (as := [am_i v1]) (st := []) hc mb_X10_told mv_X10_told (Or.inl ml_X10_129) (ob_0) (by omega) (r := (RX10, TX10, 14)) rfl rfl rfl rfl (Nat.le_of_ble_eq_true rfl) ⟨Nat.le_refl _, Nat.le_refl _⟩ ⟨Nat.le_refl _, Nat.le_refl _⟩ (show decode cX10_states 2 = .ok (.invokevirtual 129, 3) by decide +kernel) ?_
  rintro _ _ ⟨x, σ', rfl, rfl, hq⟩ _
  refine am_r_astore_n (nx := 6) rfl (by decide) rfl (show decode cX10_states 5 = .ok (.astore_n 2, 1) by decide +kernel) rfl ?_
  exact am_x_fg [1] (k x σ' hq)
theorem S_X10_states_6 {G : am_G} {d : Nat} {Q : Int → am_D → Prop} {σ : am_D} {v2 : Option Nat}  (k1 : v2 = none → am_X (am_FI G (d + 1) Q) mX10_states (0, 0) 10 [none, none, none] [] (am_K0, σ)) (k2 : ∀ a, v2 = some a → am_X (am_FI G (d + 1) Q) mX10_states (0, 0) 14 [some (am_r (some 0)), none, some (am_r v2)] [] (am_K0, σ)) : am_X (am_FI G (d + 1) Q) mX10_states (0, 0) 6 [some (am_r (some 0)), none, some (am_r v2)] [] (am_K0, σ) := by
  refine am_r_aload_n (nx := 7) rfl rfl (show decode cX10_states 6 = .ok (.aload_n 2, 1) by decide +kernel) rfl ?_
  refine am_r_ifnonnull (tg := 14) (nx := 10) (show decode cX10_states 7 = .ok (.ifnonnull 7, 3) by decide +kernel) (by decide) rfl ?_ ?_
  · exact fun q => am_x_fg [0, 2] (k1 q)
  · exact fun a q => k2 a q
theorem S_X10_states_10 {G : am_G} {d : Nat} {Q : Int → am_D → Prop} {σ : am_D}   (k : am_X (am_FI G (d + 1) Q) mX10_states (0, 0) 22 [none, none, none] [am_i (-1)] (am_K0, σ)) : am_X (am_FI G (d + 1) Q) mX10_states (0, 0) 10 [none, none, none] [] (am_K0, σ) := by
  refine am_r_iconst (nx := 11) (show decode cX10_states 10 = .ok (.iconst (-1), 1) by decide +kernel) rfl ?_
  refine am_r_goto (tg := 22) (show decode cX10_states 11 = .ok (.goto 11, 3) by decide +kernel) (by decide) ?_
  exact k
theorem S_X10_states_14 {G : am_G} {d : Nat} {Q : Int → am_D → Prop} {σ : am_D} {v2 : Option Nat} {Q' : Int → am_D → Prop} (hc : am_MI G d mX9_reached [am_r (some 24), am_r v2] σ Q') (k : ∀ (x : Int) (σ' : am_D), Q' x σ' → am_X (am_FI G (d + 1) Q) mX10_states (0, 0) 22 [none, none, none] [am_i x] (am_K0, σ')) : am_X (am_FI G (d + 1) Q) mX10_states (0, 0) 14 [some (am_r (some 0)), none, some (am_r v2)] [] (am_K0, σ) := by
  refine am_r_aload_n (nx := 15) rfl rfl (show decode cX10_states 14 = .ok (.aload_n 0, 1) by decide +kernel) rfl ?_
  refine am_r_getF (nx := 18) 10 cw10 (by decide) rfl (Or.inl fl_X10_65) (ob_0) (fn_0_10) (show decode cX10_states 15 = .ok (.getfield 65, 3) by decide +kernel) rfl ?_
  refine am_r_aload_n (nx := 19) rfl rfl (show decode cX10_states 18 = .ok (.aload_n 2, 1) by decide +kernel) rfl ?_
  refine am_r_callV (as := [am_r v2]) (st := []) hc mb_X9_reached mv_X9_reached (Or.inl ml_X10_221) (ob_24) (by omega) (r := (RX9, TX9, 3)) rfl rfl rfl rfl (Nat.le_of_ble_eq_true rfl) ⟨Nat.le_refl _, Nat.le_refl _⟩ ⟨Nat.le_refl _, Nat.le_refl _⟩ (show decode cX10_states 19 = .ok (.invokevirtual 221, 3) by decide +kernel) ?_
  rintro _ _ ⟨x, σ', rfl, rfl, hq⟩ _
  exact am_x_fg [0, 2] (k x σ' hq)
theorem S_X10_states_22 {G : am_G} {d : Nat} {Q : Int → am_D → Prop} {σ : am_D} {s0 : Int}  (k : Q s0 σ) : am_X (am_FI G (d + 1) Q) mX10_states (0, 0) 22 [none, none, none] [am_i s0] (am_K0, σ) := by
  exact am_r_iret rfl rfl (show decode cX10_states 22 = .ok (.ireturn, 1) by decide +kernel) ⟨_, _, rfl, rfl, k⟩
theorem S_X10_many_0 {G : am_G} {d : Nat} {Q : Int64 → am_D → Prop} {σ : am_D} {v1 : Int} {v2 : Int} {Q' : Option Nat → am_D → Prop} (hc : am_MR G d mX10_told [am_r (some 0), am_i v1] σ Q') (k : ∀ (x : Option Nat) (σ' : am_D), Q' x σ' → am_X (am_FJ G (d + 1) Q) mX10_many (0, 0) 6 [some (am_r (some 0)), none, some (am_i v2), some (am_r x)] [] (am_K0, σ')) : am_X (am_FJ G (d + 1) Q) mX10_many (0, 0) 0 [some (am_r (some 0)), some (am_i v1), some (am_i v2), none] [] (am_K0, σ) := by
  refine am_r_aload_n (nx := 1) rfl rfl (show decode cX10_many 0 = .ok (.aload_n 0, 1) by decide +kernel) rfl ?_
  refine am_r_iload_n (nx := 2) rfl rfl (show decode cX10_many 1 = .ok (.iload_n 1, 1) by decide +kernel) rfl ?_
  refine am_r_callV (as := [am_i v1]) (st := []) hc mb_X10_told mv_X10_told (Or.inl ml_X10_129) (ob_0) (by omega) (r := (RX10, TX10, 14)) rfl rfl rfl rfl (Nat.le_of_ble_eq_true rfl) ⟨Nat.le_refl _, Nat.le_refl _⟩ ⟨Nat.le_refl _, Nat.le_refl _⟩ (show decode cX10_many 2 = .ok (.invokevirtual 129, 3) by decide +kernel) ?_
  rintro _ _ ⟨x, σ', rfl, rfl, hq⟩ _
  refine am_r_astore_n (nx := 6) rfl (by decide) rfl (show decode cX10_many 5 = .ok (.astore_n 3, 1) by decide +kernel) rfl ?_
  exact am_x_fg [1] (k x σ' hq)
theorem S_X10_many_6 {G : am_G} {d : Nat} {Q : Int64 → am_D → Prop} {σ : am_D} {v2 : Int} {v3 : Option Nat}  (k1 : v3 = none → am_X (am_FJ G (d + 1) Q) mX10_many (0, 0) 20 [none, none, none, none] [] (am_K0, σ)) (k2 : ∀ a, v3 = some a → am_X (am_FJ G (d + 1) Q) mX10_many (0, 0) 10 [some (am_r (some 0)), none, some (am_i v2), some (am_r v3)] [] (am_K0, σ)) : am_X (am_FJ G (d + 1) Q) mX10_many (0, 0) 6 [some (am_r (some 0)), none, some (am_i v2), some (am_r v3)] [] (am_K0, σ) := by
  refine am_r_aload_n (nx := 7) rfl rfl (show decode cX10_many 6 = .ok (.aload_n 3, 1) by decide +kernel) rfl ?_
  refine am_r_ifnull (tg := 20) (nx := 10) (show decode cX10_many 7 = .ok (.ifnull 13, 3) by decide +kernel) (by decide) rfl ?_ ?_
  · exact fun q => am_x_fg [0, 2, 3] (k1 q)
  · exact fun a q => k2 a q
theorem S_X10_many_10 {G : am_G} {d : Nat} {Q : Int64 → am_D → Prop} {σ : am_D} {v2 : Int} {v3 : Option Nat} (hr1 : -2147483648 ≤ v2 ∧ v2 ≤ 2147483647) (k1 : v2 < 0 → am_X (am_FJ G (d + 1) Q) mX10_many (0, 0) 20 [none, none, none, none] [] (am_K0, σ)) (k2 : ¬ (v2 < 0) → am_X (am_FJ G (d + 1) Q) mX10_many (0, 0) 14 [some (am_r (some 0)), none, some (am_i v2), some (am_r v3)] [] (am_K0, σ)) : am_X (am_FJ G (d + 1) Q) mX10_many (0, 0) 10 [some (am_r (some 0)), none, some (am_i v2), some (am_r v3)] [] (am_K0, σ) := by
  refine am_r_iload_n (nx := 11) rfl rfl (show decode cX10_many 10 = .ok (.iload_n 2, 1) by decide +kernel) rfl ?_
  refine am_r_if_lt (tg := 20) (nx := 14) (show decode cX10_many 11 = .ok (.ifCond .lt 9, 3) by decide +kernel) (by decide) rfl hr1 ?_ ?_
  · exact fun q => am_x_fg [0, 2, 3] (k1 q)
  · exact fun q => k2 q
theorem S_X10_many_14 {G : am_G} {d : Nat} {Q : Int64 → am_D → Prop} {σ : am_D} {v2 : Int} {v3 : Option Nat} (hr1 : -2147483648 ≤ v2 ∧ v2 ≤ 2147483647) (k1 : v2 ≤ 16 → am_X (am_FJ G (d + 1) Q) mX10_many (0, 0) 24 [some (am_r (some 0)), none, some (am_i v2), some (am_r v3)] [] (am_K0, σ)) (k2 : ¬ (v2 ≤ 16) → am_X (am_FJ G (d + 1) Q) mX10_many (0, 0) 20 [none, none, none, none] [] (am_K0, σ)) : am_X (am_FJ G (d + 1) Q) mX10_many (0, 0) 14 [some (am_r (some 0)), none, some (am_i v2), some (am_r v3)] [] (am_K0, σ) := by
  refine am_r_iload_n (nx := 15) rfl rfl (show decode cX10_many 14 = .ok (.iload_n 2, 1) by decide +kernel) rfl ?_
  refine am_r_bipush (nx := 17) rfl (show decode cX10_many 15 = .ok (.bipush 16, 2) by decide +kernel) rfl ?_
  refine am_r_icmp_le (tg := 24) (nx := 20) (show decode cX10_many 17 = .ok (.if_icmp .le 7, 3) by decide +kernel) (by decide) rfl hr1 (by omega) ?_ ?_
  · exact fun q => k1 q
  · exact fun q => am_x_fg [0, 2, 3] (k2 q)
theorem S_X10_many_20 {G : am_G} {d : Nat} {Q : Int64 → am_D → Prop} {σ : am_D}   (k : Q (-1) σ) : am_X (am_FJ G (d + 1) Q) mX10_many (0, 0) 20 [none, none, none, none] [] (am_K0, σ) := by
  refine am_r_ldc2 (nx := 23) (n := (-1)) (am_mt 818 (by decide +kernel) rfl) (show decode cX10_many 20 = .ok (.ldc2_w 225, 3) by decide +kernel) rfl ?_
  exact am_r_lret rfl (show decode cX10_many 23 = .ok (.lreturn, 1) by decide +kernel) ⟨_, _, rfl, rfl, k⟩
theorem S_X10_many_24 {G : am_G} {d : Nat} {Q : Int64 → am_D → Prop} {σ : am_D} {v2 : Int} {v3 : Option Nat} {Q' : Int64 → am_D → Prop} (hc : am_MJ G d mX9_readable [am_r (some 24), am_r v3, am_i v2] σ Q') (k : ∀ (x : Int64) (σ' : am_D), Q' x σ' → Q x σ') : am_X (am_FJ G (d + 1) Q) mX10_many (0, 0) 24 [some (am_r (some 0)), none, some (am_i v2), some (am_r v3)] [] (am_K0, σ) := by
  refine am_r_aload_n (nx := 25) rfl rfl (show decode cX10_many 24 = .ok (.aload_n 0, 1) by decide +kernel) rfl ?_
  refine am_r_getF (nx := 28) 10 cw10 (by decide) rfl (Or.inl fl_X10_65) (ob_0) (fn_0_10) (show decode cX10_many 25 = .ok (.getfield 65, 3) by decide +kernel) rfl ?_
  refine am_r_aload_n (nx := 29) rfl rfl (show decode cX10_many 28 = .ok (.aload_n 3, 1) by decide +kernel) rfl ?_
  refine am_r_iload_n (nx := 30) rfl rfl (show decode cX10_many 29 = .ok (.iload_n 2, 1) by decide +kernel) rfl ?_
  refine am_r_callV (as := [am_r v3, am_i v2]) (st := []) hc mb_X9_readable mv_X9_readable (Or.inl ml_X10_227) (ob_24) (by omega) (r := (RX9, TX9, 3)) rfl rfl rfl rfl (Nat.le_of_ble_eq_true rfl) ⟨Nat.le_refl _, Nat.le_refl _⟩ ⟨Nat.le_refl _, Nat.le_refl _⟩ (show decode cX10_many 30 = .ok (.invokevirtual 227, 3) by decide +kernel) ?_
  rintro _ _ ⟨x, σ', rfl, rfl, hq⟩ _
  exact am_r_lret rfl (show decode cX10_many 33 = .ok (.lreturn, 1) by decide +kernel) ⟨_, _, rfl, rfl, k x σ' hq⟩
theorem S_X10_least_0 {G : am_G} {d : Nat} {Q : Int → am_D → Prop} {σ : am_D} {v1 : Int} {Q' : Option Nat → am_D → Prop} (hc : am_MR G d mX10_told [am_r (some 0), am_i v1] σ Q') (k : ∀ (x : Option Nat) (σ' : am_D), Q' x σ' → am_X (am_FI G (d + 1) Q) mX10_least (0, 0) 6 [some (am_r (some 0)), none, some (am_r x)] [] (am_K0, σ')) : am_X (am_FI G (d + 1) Q) mX10_least (0, 0) 0 [some (am_r (some 0)), some (am_i v1), none] [] (am_K0, σ) := by
  refine am_r_aload_n (nx := 1) rfl rfl (show decode cX10_least 0 = .ok (.aload_n 0, 1) by decide +kernel) rfl ?_
  refine am_r_iload_n (nx := 2) rfl rfl (show decode cX10_least 1 = .ok (.iload_n 1, 1) by decide +kernel) rfl ?_
  refine am_r_callV (as := [am_i v1]) (st := []) hc mb_X10_told mv_X10_told (Or.inl ml_X10_129) (ob_0) (by omega) (r := (RX10, TX10, 14)) rfl rfl rfl rfl (Nat.le_of_ble_eq_true rfl) ⟨Nat.le_refl _, Nat.le_refl _⟩ ⟨Nat.le_refl _, Nat.le_refl _⟩ (show decode cX10_least 2 = .ok (.invokevirtual 129, 3) by decide +kernel) ?_
  rintro _ _ ⟨x, σ', rfl, rfl, hq⟩ _
  refine am_r_astore_n (nx := 6) rfl (by decide) rfl (show decode cX10_least 5 = .ok (.astore_n 2, 1) by decide +kernel) rfl ?_
  exact am_x_fg [1] (k x σ' hq)
theorem S_X10_least_6 {G : am_G} {d : Nat} {Q : Int → am_D → Prop} {σ : am_D} {v2 : Option Nat}  (k1 : v2 = none → am_X (am_FI G (d + 1) Q) mX10_least (0, 0) 10 [none, none, none] [] (am_K0, σ)) (k2 : ∀ a, v2 = some a → am_X (am_FI G (d + 1) Q) mX10_least (0, 0) 14 [some (am_r (some 0)), none, some (am_r v2)] [] (am_K0, σ)) : am_X (am_FI G (d + 1) Q) mX10_least (0, 0) 6 [some (am_r (some 0)), none, some (am_r v2)] [] (am_K0, σ) := by
  refine am_r_aload_n (nx := 7) rfl rfl (show decode cX10_least 6 = .ok (.aload_n 2, 1) by decide +kernel) rfl ?_
  refine am_r_ifnonnull (tg := 14) (nx := 10) (show decode cX10_least 7 = .ok (.ifnonnull 7, 3) by decide +kernel) (by decide) rfl ?_ ?_
  · exact fun q => am_x_fg [0, 2] (k1 q)
  · exact fun a q => k2 a q
theorem S_X10_least_10 {G : am_G} {d : Nat} {Q : Int → am_D → Prop} {σ : am_D}   (k : am_X (am_FI G (d + 1) Q) mX10_least (0, 0) 22 [none, none, none] [am_i (-1)] (am_K0, σ)) : am_X (am_FI G (d + 1) Q) mX10_least (0, 0) 10 [none, none, none] [] (am_K0, σ) := by
  refine am_r_iconst (nx := 11) (show decode cX10_least 10 = .ok (.iconst (-1), 1) by decide +kernel) rfl ?_
  refine am_r_goto (tg := 22) (show decode cX10_least 11 = .ok (.goto 11, 3) by decide +kernel) (by decide) ?_
  exact k
theorem S_X10_least_14 {G : am_G} {d : Nat} {Q : Int → am_D → Prop} {σ : am_D} {v2 : Option Nat} {Q' : Int → am_D → Prop} (hc : am_MI G d mX9_smallest [am_r (some 24), am_r v2] σ Q') (k : ∀ (x : Int) (σ' : am_D), Q' x σ' → am_X (am_FI G (d + 1) Q) mX10_least (0, 0) 22 [none, none, none] [am_i x] (am_K0, σ')) : am_X (am_FI G (d + 1) Q) mX10_least (0, 0) 14 [some (am_r (some 0)), none, some (am_r v2)] [] (am_K0, σ) := by
  refine am_r_aload_n (nx := 15) rfl rfl (show decode cX10_least 14 = .ok (.aload_n 0, 1) by decide +kernel) rfl ?_
  refine am_r_getF (nx := 18) 10 cw10 (by decide) rfl (Or.inl fl_X10_65) (ob_0) (fn_0_10) (show decode cX10_least 15 = .ok (.getfield 65, 3) by decide +kernel) rfl ?_
  refine am_r_aload_n (nx := 19) rfl rfl (show decode cX10_least 18 = .ok (.aload_n 2, 1) by decide +kernel) rfl ?_
  refine am_r_callV (as := [am_r v2]) (st := []) hc mb_X9_smallest mv_X9_smallest (Or.inl ml_X10_231) (ob_24) (by omega) (r := (RX9, TX9, 3)) rfl rfl rfl rfl (Nat.le_of_ble_eq_true rfl) ⟨Nat.le_refl _, Nat.le_refl _⟩ ⟨Nat.le_refl _, Nat.le_refl _⟩ (show decode cX10_least 19 = .ok (.invokevirtual 231, 3) by decide +kernel) ?_
  rintro _ _ ⟨x, σ', rfl, rfl, hq⟩ _
  exact am_x_fg [0, 2] (k x σ' hq)
theorem S_X10_least_22 {G : am_G} {d : Nat} {Q : Int → am_D → Prop} {σ : am_D} {s0 : Int}  (k : Q s0 σ) : am_X (am_FI G (d + 1) Q) mX10_least (0, 0) 22 [none, none, none] [am_i s0] (am_K0, σ) := by
  exact am_r_iret rfl rfl (show decode cX10_least 22 = .ok (.ireturn, 1) by decide +kernel) ⟨_, _, rfl, rfl, k⟩
theorem S_X10_differ_0 {G : am_G} {d : Nat} {Q : Int → am_D → Prop} {σ : am_D} {v1 : Int} {v2 : Int} {v3 : Int} {Q' : Option Nat → am_D → Prop} (hc : am_MR G d mX10_told [am_r (some 0), am_i v1] σ Q') (k : ∀ (x : Option Nat) (σ' : am_D), Q' x σ' → am_X (am_FI G (d + 1) Q) mX10_differ (0, 0) 10 [some (am_r (some 0)), none, some (am_i v2), some (am_i v3)] [am_r x, am_r (some 30), am_r (some 0)] (am_K0, σ')) : am_X (am_FI G (d + 1) Q) mX10_differ (0, 0) 0 [some (am_r (some 0)), some (am_i v1), some (am_i v2), some (am_i v3)] [] (am_K0, σ) := by
  refine am_r_aload_n (nx := 1) rfl rfl (show decode cX10_differ 0 = .ok (.aload_n 0, 1) by decide +kernel) rfl ?_
  refine am_r_aload_n (nx := 2) rfl rfl (show decode cX10_differ 1 = .ok (.aload_n 0, 1) by decide +kernel) rfl ?_
  refine am_r_getF (nx := 5) 12 cw10 (by decide) rfl (Or.inl fl_X10_81) (ob_0) (fn_0_12) (show decode cX10_differ 2 = .ok (.getfield 81, 3) by decide +kernel) rfl ?_
  refine am_r_aload_n (nx := 6) rfl rfl (show decode cX10_differ 5 = .ok (.aload_n 0, 1) by decide +kernel) rfl ?_
  refine am_r_iload_n (nx := 7) rfl rfl (show decode cX10_differ 6 = .ok (.iload_n 1, 1) by decide +kernel) rfl ?_
  refine am_r_callV (as := [am_i v1]) (st := [am_r (some 30), am_r (some 0)]) hc mb_X10_told mv_X10_told (Or.inl ml_X10_129) (ob_0) (by omega) (r := (RX10, TX10, 14)) rfl rfl rfl rfl (Nat.le_of_ble_eq_true rfl) ⟨Nat.le_refl _, Nat.le_refl _⟩ ⟨Nat.le_refl _, Nat.le_refl _⟩ (show decode cX10_differ 7 = .ok (.invokevirtual 129, 3) by decide +kernel) ?_
  rintro _ _ ⟨x, σ', rfl, rfl, hq⟩ _
  exact am_x_fg [1] (k x σ' hq)
theorem S_X10_differ_10 {G : am_G} {d : Nat} {Q : Int → am_D → Prop} {σ : am_D} {v2 : Int} {v3 : Int} {Q' : Option Nat → am_D → Prop} {s2 : Option Nat} (hc : am_MR G d mX10_told [am_r (some 0), am_i v2] σ Q') (k : ∀ (x : Option Nat) (σ' : am_D), Q' x σ' → am_X (am_FI G (d + 1) Q) mX10_differ (0, 0) 15 [none, none, none, some (am_i v3)] [am_r x, am_r s2, am_r (some 30), am_r (some 0)] (am_K0, σ')) : am_X (am_FI G (d + 1) Q) mX10_differ (0, 0) 10 [some (am_r (some 0)), none, some (am_i v2), some (am_i v3)] [am_r s2, am_r (some 30), am_r (some 0)] (am_K0, σ) := by
  refine am_r_aload_n (nx := 11) rfl rfl (show decode cX10_differ 10 = .ok (.aload_n 0, 1) by decide +kernel) rfl ?_
  refine am_r_iload_n (nx := 12) rfl rfl (show decode cX10_differ 11 = .ok (.iload_n 2, 1) by decide +kernel) rfl ?_
  refine am_r_callV (as := [am_i v2]) (st := [am_r s2, am_r (some 30), am_r (some 0)]) hc mb_X10_told mv_X10_told (Or.inl ml_X10_129) (ob_0) (by omega) (r := (RX10, TX10, 14)) rfl rfl rfl rfl (Nat.le_of_ble_eq_true rfl) ⟨Nat.le_refl _, Nat.le_refl _⟩ ⟨Nat.le_refl _, Nat.le_refl _⟩ (show decode cX10_differ 12 = .ok (.invokevirtual 129, 3) by decide +kernel) ?_
  rintro _ _ ⟨x, σ', rfl, rfl, hq⟩ _
  exact am_x_fg [0, 2] (k x σ' hq)
theorem S_X10_differ_15 {G : am_G} {d : Nat} {Q : Int → am_D → Prop} {σ : am_D} {v3 : Int} {s2 : Option Nat} {s3 : Option Nat} {Q' : Int → am_D → Prop} (hc : am_MI G d mX6_fewest [am_r (some 30), am_r s2, am_r s3, am_i v3, am_i 0] σ Q') (k : ∀ (x : Int) (σ' : am_D), Q' x σ' → am_X (am_FI G (d + 1) Q) mX10_differ (0, 0) 20 [none, none, none, none] [am_i x, am_r (some 0)] (am_K0, σ')) : am_X (am_FI G (d + 1) Q) mX10_differ (0, 0) 15 [none, none, none, some (am_i v3)] [am_r s3, am_r s2, am_r (some 30), am_r (some 0)] (am_K0, σ) := by
  refine am_r_iload_n (nx := 16) rfl rfl (show decode cX10_differ 15 = .ok (.iload_n 3, 1) by decide +kernel) rfl ?_
  refine am_r_iconst (nx := 17) (show decode cX10_differ 16 = .ok (.iconst 0, 1) by decide +kernel) rfl ?_
  refine am_r_callV (as := [am_r s2, am_r s3, am_i v3, am_i 0]) (st := [am_r (some 0)]) hc mb_X6_fewest mv_X6_fewest (Or.inl ml_X10_234) (ob_30) (by omega) (r := (RX6, TX6, 7)) rfl rfl rfl rfl (Nat.le_of_ble_eq_true rfl) ⟨Nat.le_refl _, Nat.le_refl _⟩ ⟨Nat.le_refl _, Nat.le_refl _⟩ (show decode cX10_differ 17 = .ok (.invokevirtual 234, 3) by decide +kernel) ?_
  rintro _ _ ⟨x, σ', rfl, rfl, hq⟩ _
  exact am_x_fg [3] (k x σ' hq)
theorem S_X10_differ_20 {G : am_G} {d : Nat} {Q : Int → am_D → Prop} {σ : am_D} {s1 : Int} {Q' : Int → am_D → Prop} (hc : am_MI G d mX10_found [am_r (some 0), am_i s1] σ Q') (k : ∀ (x : Int) (σ' : am_D), Q' x σ' → Q x σ') : am_X (am_FI G (d + 1) Q) mX10_differ (0, 0) 20 [none, none, none, none] [am_i s1, am_r (some 0)] (am_K0, σ) := by
  refine am_r_callV (as := [am_i s1]) (st := []) hc mb_X10_found mv_X10_found (Or.inl ml_X10_238) (ob_0) (by omega) (r := (RX10, TX10, 14)) rfl rfl rfl rfl (Nat.le_of_ble_eq_true rfl) ⟨Nat.le_refl _, Nat.le_refl _⟩ ⟨Nat.le_refl _, Nat.le_refl _⟩ (show decode cX10_differ 20 = .ok (.invokevirtual 238, 3) by decide +kernel) ?_
  rintro _ _ ⟨x, σ', rfl, rfl, hq⟩ _
  exact am_r_iret rfl rfl (show decode cX10_differ 23 = .ok (.ireturn, 1) by decide +kernel) ⟨_, _, rfl, rfl, (k x σ' hq)⟩
theorem S_X10_spoils_0 {G : am_G} {d : Nat} {Q : Int → am_D → Prop} {σ : am_D} {v1 : Int} {v2 : Int} {v3 : Int} {Q' : Option Nat → am_D → Prop} (hc : am_MR G d mX10_told [am_r (some 0), am_i v1] σ Q') (k : ∀ (x : Option Nat) (σ' : am_D), Q' x σ' → am_X (am_FI G (d + 1) Q) mX10_spoils (0, 0) 10 [some (am_r (some 0)), none, some (am_i v2), some (am_i v3)] [am_r x, am_r (some 30), am_r (some 0)] (am_K0, σ')) : am_X (am_FI G (d + 1) Q) mX10_spoils (0, 0) 0 [some (am_r (some 0)), some (am_i v1), some (am_i v2), some (am_i v3)] [] (am_K0, σ) := by
  refine am_r_aload_n (nx := 1) rfl rfl (show decode cX10_spoils 0 = .ok (.aload_n 0, 1) by decide +kernel) rfl ?_
  refine am_r_aload_n (nx := 2) rfl rfl (show decode cX10_spoils 1 = .ok (.aload_n 0, 1) by decide +kernel) rfl ?_
  refine am_r_getF (nx := 5) 12 cw10 (by decide) rfl (Or.inl fl_X10_81) (ob_0) (fn_0_12) (show decode cX10_spoils 2 = .ok (.getfield 81, 3) by decide +kernel) rfl ?_
  refine am_r_aload_n (nx := 6) rfl rfl (show decode cX10_spoils 5 = .ok (.aload_n 0, 1) by decide +kernel) rfl ?_
  refine am_r_iload_n (nx := 7) rfl rfl (show decode cX10_spoils 6 = .ok (.iload_n 1, 1) by decide +kernel) rfl ?_
  refine am_r_callV (as := [am_i v1]) (st := [am_r (some 30), am_r (some 0)]) hc mb_X10_told mv_X10_told (Or.inl ml_X10_129) (ob_0) (by omega) (r := (RX10, TX10, 14)) rfl rfl rfl rfl (Nat.le_of_ble_eq_true rfl) ⟨Nat.le_refl _, Nat.le_refl _⟩ ⟨Nat.le_refl _, Nat.le_refl _⟩ (show decode cX10_spoils 7 = .ok (.invokevirtual 129, 3) by decide +kernel) ?_
  rintro _ _ ⟨x, σ', rfl, rfl, hq⟩ _
  exact am_x_fg [1] (k x σ' hq)
theorem S_X10_spoils_10 {G : am_G} {d : Nat} {Q : Int → am_D → Prop} {σ : am_D} {v2 : Int} {v3 : Int} {Q' : Option Nat → am_D → Prop} {s2 : Option Nat} (hc : am_MR G d mX10_told [am_r (some 0), am_i v2] σ Q') (k : ∀ (x : Option Nat) (σ' : am_D), Q' x σ' → am_X (am_FI G (d + 1) Q) mX10_spoils (0, 0) 15 [none, none, none, some (am_i v3)] [am_r x, am_r s2, am_r (some 30), am_r (some 0)] (am_K0, σ')) : am_X (am_FI G (d + 1) Q) mX10_spoils (0, 0) 10 [some (am_r (some 0)), none, some (am_i v2), some (am_i v3)] [am_r s2, am_r (some 30), am_r (some 0)] (am_K0, σ) := by
  refine am_r_aload_n (nx := 11) rfl rfl (show decode cX10_spoils 10 = .ok (.aload_n 0, 1) by decide +kernel) rfl ?_
  refine am_r_iload_n (nx := 12) rfl rfl (show decode cX10_spoils 11 = .ok (.iload_n 2, 1) by decide +kernel) rfl ?_
  refine am_r_callV (as := [am_i v2]) (st := [am_r s2, am_r (some 30), am_r (some 0)]) hc mb_X10_told mv_X10_told (Or.inl ml_X10_129) (ob_0) (by omega) (r := (RX10, TX10, 14)) rfl rfl rfl rfl (Nat.le_of_ble_eq_true rfl) ⟨Nat.le_refl _, Nat.le_refl _⟩ ⟨Nat.le_refl _, Nat.le_refl _⟩ (show decode cX10_spoils 12 = .ok (.invokevirtual 129, 3) by decide +kernel) ?_
  rintro _ _ ⟨x, σ', rfl, rfl, hq⟩ _
  exact am_x_fg [0, 2] (k x σ' hq)
theorem S_X10_spoils_15 {G : am_G} {d : Nat} {Q : Int → am_D → Prop} {σ : am_D} {v3 : Int} {s2 : Option Nat} {s3 : Option Nat} {Q' : Int → am_D → Prop} (hc : am_MI G d mX6_fewest [am_r (some 30), am_r s2, am_r s3, am_i v3, am_i 1] σ Q') (k : ∀ (x : Int) (σ' : am_D), Q' x σ' → am_X (am_FI G (d + 1) Q) mX10_spoils (0, 0) 20 [none, none, none, none] [am_i x, am_r (some 0)] (am_K0, σ')) : am_X (am_FI G (d + 1) Q) mX10_spoils (0, 0) 15 [none, none, none, some (am_i v3)] [am_r s3, am_r s2, am_r (some 30), am_r (some 0)] (am_K0, σ) := by
  refine am_r_iload_n (nx := 16) rfl rfl (show decode cX10_spoils 15 = .ok (.iload_n 3, 1) by decide +kernel) rfl ?_
  refine am_r_iconst (nx := 17) (show decode cX10_spoils 16 = .ok (.iconst 1, 1) by decide +kernel) rfl ?_
  refine am_r_callV (as := [am_r s2, am_r s3, am_i v3, am_i 1]) (st := [am_r (some 0)]) hc mb_X6_fewest mv_X6_fewest (Or.inl ml_X10_234) (ob_30) (by omega) (r := (RX6, TX6, 7)) rfl rfl rfl rfl (Nat.le_of_ble_eq_true rfl) ⟨Nat.le_refl _, Nat.le_refl _⟩ ⟨Nat.le_refl _, Nat.le_refl _⟩ (show decode cX10_spoils 17 = .ok (.invokevirtual 234, 3) by decide +kernel) ?_
  rintro _ _ ⟨x, σ', rfl, rfl, hq⟩ _
  exact am_x_fg [3] (k x σ' hq)
theorem S_X10_spoils_20 {G : am_G} {d : Nat} {Q : Int → am_D → Prop} {σ : am_D} {s1 : Int} {Q' : Int → am_D → Prop} (hc : am_MI G d mX10_found [am_r (some 0), am_i s1] σ Q') (k : ∀ (x : Int) (σ' : am_D), Q' x σ' → Q x σ') : am_X (am_FI G (d + 1) Q) mX10_spoils (0, 0) 20 [none, none, none, none] [am_i s1, am_r (some 0)] (am_K0, σ) := by
  refine am_r_callV (as := [am_i s1]) (st := []) hc mb_X10_found mv_X10_found (Or.inl ml_X10_238) (ob_0) (by omega) (r := (RX10, TX10, 14)) rfl rfl rfl rfl (Nat.le_of_ble_eq_true rfl) ⟨Nat.le_refl _, Nat.le_refl _⟩ ⟨Nat.le_refl _, Nat.le_refl _⟩ (show decode cX10_spoils 20 = .ok (.invokevirtual 238, 3) by decide +kernel) ?_
  rintro _ _ ⟨x, σ', rfl, rfl, hq⟩ _
  exact am_r_iret rfl rfl (show decode cX10_spoils 23 = .ok (.ireturn, 1) by decide +kernel) ⟨_, _, rfl, rfl, (k x σ' hq)⟩
theorem S_X10_safe_0 {G : am_G} {d : Nat} {Q : Int → am_D → Prop} {σ : am_D} {v1 : Int} {v2 : Int} {Q' : Option Nat → am_D → Prop} (hc : am_MR G d mX10_told [am_r (some 0), am_i v1] σ Q') (k : ∀ (x : Option Nat) (σ' : am_D), Q' x σ' → am_X (am_FI G (d + 1) Q) mX10_safe (0, 0) 6 [some (am_r (some 0)), none, some (am_i v2), some (am_r x), none] [] (am_K0, σ')) : am_X (am_FI G (d + 1) Q) mX10_safe (0, 0) 0 [some (am_r (some 0)), some (am_i v1), some (am_i v2), none, none] [] (am_K0, σ) := by
  refine am_r_aload_n (nx := 1) rfl rfl (show decode cX10_safe 0 = .ok (.aload_n 0, 1) by decide +kernel) rfl ?_
  refine am_r_iload_n (nx := 2) rfl rfl (show decode cX10_safe 1 = .ok (.iload_n 1, 1) by decide +kernel) rfl ?_
  refine am_r_callV (as := [am_i v1]) (st := []) hc mb_X10_told mv_X10_told (Or.inl ml_X10_129) (ob_0) (by omega) (r := (RX10, TX10, 14)) rfl rfl rfl rfl (Nat.le_of_ble_eq_true rfl) ⟨Nat.le_refl _, Nat.le_refl _⟩ ⟨Nat.le_refl _, Nat.le_refl _⟩ (show decode cX10_safe 2 = .ok (.invokevirtual 129, 3) by decide +kernel) ?_
  rintro _ _ ⟨x, σ', rfl, rfl, hq⟩ _
  refine am_r_astore_n (nx := 6) rfl (by decide) rfl (show decode cX10_safe 5 = .ok (.astore_n 3, 1) by decide +kernel) rfl ?_
  exact am_x_fg [1] (k x σ' hq)
theorem S_X10_safe_6 {G : am_G} {d : Nat} {Q : Int → am_D → Prop} {σ : am_D} {v2 : Int} {Q' : Option Nat → am_D → Prop} {v3 : Option Nat} (hc : am_MR G d mX10_told [am_r (some 0), am_i v2] σ Q') (k : ∀ (x : Option Nat) (σ' : am_D), Q' x σ' → am_X (am_FI G (d + 1) Q) mX10_safe (0, 0) 13 [some (am_r (some 0)), none, none, some (am_r v3), some (am_r x)] [] (am_K0, σ')) : am_X (am_FI G (d + 1) Q) mX10_safe (0, 0) 6 [some (am_r (some 0)), none, some (am_i v2), some (am_r v3), none] [] (am_K0, σ) := by
  refine am_r_aload_n (nx := 7) rfl rfl (show decode cX10_safe 6 = .ok (.aload_n 0, 1) by decide +kernel) rfl ?_
  refine am_r_iload_n (nx := 8) rfl rfl (show decode cX10_safe 7 = .ok (.iload_n 2, 1) by decide +kernel) rfl ?_
  refine am_r_callV (as := [am_i v2]) (st := []) hc mb_X10_told mv_X10_told (Or.inl ml_X10_129) (ob_0) (by omega) (r := (RX10, TX10, 14)) rfl rfl rfl rfl (Nat.le_of_ble_eq_true rfl) ⟨Nat.le_refl _, Nat.le_refl _⟩ ⟨Nat.le_refl _, Nat.le_refl _⟩ (show decode cX10_safe 8 = .ok (.invokevirtual 129, 3) by decide +kernel) ?_
  rintro _ _ ⟨x, σ', rfl, rfl, hq⟩ _
  refine am_r_astore (nx := 13) (by decide) rfl (show decode cX10_safe 11 = .ok (.astore 4, 2) by decide +kernel) rfl ?_
  exact am_x_fg [2] (k x σ' hq)
theorem S_X10_safe_13 {G : am_G} {d : Nat} {Q : Int → am_D → Prop} {σ : am_D} {v3 : Option Nat} {v4 : Option Nat}  (k1 : v3 = none → am_X (am_FI G (d + 1) Q) mX10_safe (0, 0) 22 [none, none, none, none, none] [] (am_K0, σ)) (k2 : ∀ a, v3 = some a → am_X (am_FI G (d + 1) Q) mX10_safe (0, 0) 17 [some (am_r (some 0)), none, none, some (am_r v3), some (am_r v4)] [] (am_K0, σ)) : am_X (am_FI G (d + 1) Q) mX10_safe (0, 0) 13 [some (am_r (some 0)), none, none, some (am_r v3), some (am_r v4)] [] (am_K0, σ) := by
  refine am_r_aload_n (nx := 14) rfl rfl (show decode cX10_safe 13 = .ok (.aload_n 3, 1) by decide +kernel) rfl ?_
  refine am_r_ifnull (tg := 22) (nx := 17) (show decode cX10_safe 14 = .ok (.ifnull 8, 3) by decide +kernel) (by decide) rfl ?_ ?_
  · exact fun q => am_x_fg [0, 3, 4] (k1 q)
  · exact fun a q => k2 a q
theorem S_X10_safe_17 {G : am_G} {d : Nat} {Q : Int → am_D → Prop} {σ : am_D} {v4 : Option Nat} {v3 : Option Nat}  (k1 : v4 = none → am_X (am_FI G (d + 1) Q) mX10_safe (0, 0) 22 [none, none, none, none, none] [] (am_K0, σ)) (k2 : ∀ a, v4 = some a → am_X (am_FI G (d + 1) Q) mX10_safe (0, 0) 24 [some (am_r (some 0)), none, none, some (am_r v3), some (am_r v4)] [] (am_K0, σ)) : am_X (am_FI G (d + 1) Q) mX10_safe (0, 0) 17 [some (am_r (some 0)), none, none, some (am_r v3), some (am_r v4)] [] (am_K0, σ) := by
  refine am_r_aload (nx := 19) rfl (show decode cX10_safe 17 = .ok (.aload 4, 2) by decide +kernel) rfl ?_
  refine am_r_ifnonnull (tg := 24) (nx := 22) (show decode cX10_safe 19 = .ok (.ifnonnull 5, 3) by decide +kernel) (by decide) rfl ?_ ?_
  · exact fun q => am_x_fg [0, 3, 4] (k1 q)
  · exact fun a q => k2 a q
theorem S_X10_safe_22 {G : am_G} {d : Nat} {Q : Int → am_D → Prop} {σ : am_D}   (k : Q (-1) σ) : am_X (am_FI G (d + 1) Q) mX10_safe (0, 0) 22 [none, none, none, none, none] [] (am_K0, σ) := by
  refine am_r_iconst (nx := 23) (show decode cX10_safe 22 = .ok (.iconst (-1), 1) by decide +kernel) rfl ?_
  exact am_r_iret rfl rfl (show decode cX10_safe 23 = .ok (.ireturn, 1) by decide +kernel) ⟨_, _, rfl, rfl, k⟩
theorem S_X10_safe_24 {G : am_G} {d : Nat} {Q : Int → am_D → Prop} {σ : am_D} {v3 : Nat} {v4 : Option Nat} (hc1 : am_isM v3) (hr2 : -2147483648 ≤ (σ.1 v3 0) ∧ (σ.1 v3 0) ≤ 2147483647) (k1 : 3 < (σ.1 v3 0) → am_X (am_FI G (d + 1) Q) mX10_safe (0, 0) 49 [none, none, none, none, none] [] (am_K0, σ)) (k2 : ¬ (3 < (σ.1 v3 0)) → am_X (am_FI G (d + 1) Q) mX10_safe (0, 0) 32 [some (am_r (some 0)), none, none, some (am_r (some v3)), some (am_r v4)] [] (am_K0, σ)) : am_X (am_FI G (d + 1) Q) mX10_safe (0, 0) 24 [some (am_r (some 0)), none, none, some (am_r (some v3)), some (am_r v4)] [] (am_K0, σ) := by
  refine am_r_aload_n (nx := 25) rfl rfl (show decode cX10_safe 24 = .ok (.aload_n 3, 1) by decide +kernel) rfl ?_
  refine am_r_getI (nx := 28) 0 cw2 (by decide) rfl (Or.inr ⟨_, fl_X10_133⟩) (obM hc1) (show decode cX10_safe 25 = .ok (.getfield 133, 3) by decide +kernel) rfl ?_
  refine am_r_iconst (nx := 29) (show decode cX10_safe 28 = .ok (.iconst 3, 1) by decide +kernel) rfl ?_
  refine am_r_icmp_gt (tg := 49) (nx := 32) (show decode cX10_safe 29 = .ok (.if_icmp .gt 20, 3) by decide +kernel) (by decide) rfl hr2 (by omega) ?_ ?_
  · exact fun q => am_x_fg [0, 3, 4] (k1 q)
  · exact fun q => k2 q
theorem S_X10_safe_32 {G : am_G} {d : Nat} {Q : Int → am_D → Prop} {σ : am_D} {v3 : Nat} {v4 : Option Nat} (hc1 : am_isM v3) (hr2 : -2147483648 ≤ (σ.1 v3 1) ∧ (σ.1 v3 1) ≤ 2147483647) (k1 : 2 < (σ.1 v3 1) → am_X (am_FI G (d + 1) Q) mX10_safe (0, 0) 49 [none, none, none, none, none] [] (am_K0, σ)) (k2 : ¬ (2 < (σ.1 v3 1)) → am_X (am_FI G (d + 1) Q) mX10_safe (0, 0) 40 [some (am_r (some 0)), none, none, some (am_r (some v3)), some (am_r v4)] [] (am_K0, σ)) : am_X (am_FI G (d + 1) Q) mX10_safe (0, 0) 32 [some (am_r (some 0)), none, none, some (am_r (some v3)), some (am_r v4)] [] (am_K0, σ) := by
  refine am_r_aload_n (nx := 33) rfl rfl (show decode cX10_safe 32 = .ok (.aload_n 3, 1) by decide +kernel) rfl ?_
  refine am_r_getI (nx := 36) 1 cw2 (by decide) rfl (Or.inr ⟨_, fl_X10_136⟩) (obM hc1) (show decode cX10_safe 33 = .ok (.getfield 136, 3) by decide +kernel) rfl ?_
  refine am_r_iconst (nx := 37) (show decode cX10_safe 36 = .ok (.iconst 2, 1) by decide +kernel) rfl ?_
  refine am_r_icmp_gt (tg := 49) (nx := 40) (show decode cX10_safe 37 = .ok (.if_icmp .gt 12, 3) by decide +kernel) (by decide) rfl hr2 (by omega) ?_ ?_
  · exact fun q => am_x_fg [0, 3, 4] (k1 q)
  · exact fun q => k2 q
theorem S_X10_safe_40 {G : am_G} {d : Nat} {Q : Int → am_D → Prop} {σ : am_D} {v4 : Nat} {v3 : Option Nat} (hc1 : am_isM v4) (hr2 : -2147483648 ≤ (σ.1 v4 0) ∧ (σ.1 v4 0) ≤ 2147483647) (k1 : (σ.1 v4 0) ≤ 2 → am_X (am_FI G (d + 1) Q) mX10_safe (0, 0) 51 [some (am_r (some 0)), none, none, some (am_r v3), some (am_r (some v4))] [] (am_K0, σ)) (k2 : ¬ ((σ.1 v4 0) ≤ 2) → am_X (am_FI G (d + 1) Q) mX10_safe (0, 0) 49 [none, none, none, none, none] [] (am_K0, σ)) : am_X (am_FI G (d + 1) Q) mX10_safe (0, 0) 40 [some (am_r (some 0)), none, none, some (am_r v3), some (am_r (some v4))] [] (am_K0, σ) := by
  refine am_r_aload (nx := 42) rfl (show decode cX10_safe 40 = .ok (.aload 4, 2) by decide +kernel) rfl ?_
  refine am_r_getI (nx := 45) 0 cw2 (by decide) rfl (Or.inr ⟨_, fl_X10_133⟩) (obM hc1) (show decode cX10_safe 42 = .ok (.getfield 133, 3) by decide +kernel) rfl ?_
  refine am_r_iconst (nx := 46) (show decode cX10_safe 45 = .ok (.iconst 2, 1) by decide +kernel) rfl ?_
  refine am_r_icmp_le (tg := 51) (nx := 49) (show decode cX10_safe 46 = .ok (.if_icmp .le 5, 3) by decide +kernel) (by decide) rfl hr2 (by omega) ?_ ?_
  · exact fun q => k1 q
  · exact fun q => am_x_fg [0, 3, 4] (k2 q)
theorem S_X10_safe_49 {G : am_G} {d : Nat} {Q : Int → am_D → Prop} {σ : am_D}   (k : Q (-1) σ) : am_X (am_FI G (d + 1) Q) mX10_safe (0, 0) 49 [none, none, none, none, none] [] (am_K0, σ) := by
  refine am_r_iconst (nx := 50) (show decode cX10_safe 49 = .ok (.iconst (-1), 1) by decide +kernel) rfl ?_
  exact am_r_iret rfl rfl (show decode cX10_safe 50 = .ok (.ireturn, 1) by decide +kernel) ⟨_, _, rfl, rfl, k⟩
theorem S_X10_safe_51 {G : am_G} {d : Nat} {Q : Int → am_D → Prop} {σ : am_D} {v3 : Option Nat} {v4 : Option Nat} {Q' : Int → am_D → Prop} (hc : am_MI G d mX4_neverSpoils [am_r (some 31), am_r v3, am_r v4] σ Q') (k : ∀ (x : Int) (σ' : am_D), Q' x σ' → am_X (am_FI G (d + 1) Q) mX10_safe (0, 0) 61 [none, none, none, none, none] [am_i x] (am_K0, σ')) : am_X (am_FI G (d + 1) Q) mX10_safe (0, 0) 51 [some (am_r (some 0)), none, none, some (am_r v3), some (am_r v4)] [] (am_K0, σ) := by
  refine am_r_aload_n (nx := 52) rfl rfl (show decode cX10_safe 51 = .ok (.aload_n 0, 1) by decide +kernel) rfl ?_
  refine am_r_getF (nx := 55) 13 cw10 (by decide) rfl (Or.inl fl_X10_88) (ob_0) (fn_0_13) (show decode cX10_safe 52 = .ok (.getfield 88, 3) by decide +kernel) rfl ?_
  refine am_r_aload_n (nx := 56) rfl rfl (show decode cX10_safe 55 = .ok (.aload_n 3, 1) by decide +kernel) rfl ?_
  refine am_r_aload (nx := 58) rfl (show decode cX10_safe 56 = .ok (.aload 4, 2) by decide +kernel) rfl ?_
  refine am_r_callV (as := [am_r v3, am_r v4]) (st := []) hc mb_X4_neverSpoils mv_X4_neverSpoils (Or.inl ml_X10_241) (ob_31) (by omega) (r := (RX4, TX4, 12)) rfl rfl rfl rfl (Nat.le_of_ble_eq_true rfl) ⟨Nat.le_refl _, Nat.le_refl _⟩ ⟨Nat.le_refl _, Nat.le_refl _⟩ (show decode cX10_safe 58 = .ok (.invokevirtual 241, 3) by decide +kernel) ?_
  rintro _ _ ⟨x, σ', rfl, rfl, hq⟩ _
  exact am_x_fg [0, 3, 4] (k x σ' hq)
theorem S_X10_safe_61 {G : am_G} {d : Nat} {Q : Int → am_D → Prop} {σ : am_D} {s0 : Int} (hr1 : -2147483648 ≤ s0 ∧ s0 ≤ 2147483647) (k1 : s0 = 0 → am_X (am_FI G (d + 1) Q) mX10_safe (0, 0) 68 [none, none, none, none, none] [] (am_K0, σ)) (k2 : ¬ (s0 = 0) → am_X (am_FI G (d + 1) Q) mX10_safe (0, 0) 64 [none, none, none, none, none] [] (am_K0, σ)) : am_X (am_FI G (d + 1) Q) mX10_safe (0, 0) 61 [none, none, none, none, none] [am_i s0] (am_K0, σ) := by
  refine am_r_if_eq (tg := 68) (nx := 64) (show decode cX10_safe 61 = .ok (.ifCond .eq 7, 3) by decide +kernel) (by decide) rfl hr1 ?_ ?_
  · exact fun q => k1 q
  · exact fun q => k2 q
theorem S_X10_safe_64 {G : am_G} {d : Nat} {Q : Int → am_D → Prop} {σ : am_D}   (k : am_X (am_FI G (d + 1) Q) mX10_safe (0, 0) 69 [none, none, none, none, none] [am_i 1] (am_K0, σ)) : am_X (am_FI G (d + 1) Q) mX10_safe (0, 0) 64 [none, none, none, none, none] [] (am_K0, σ) := by
  refine am_r_iconst (nx := 65) (show decode cX10_safe 64 = .ok (.iconst 1, 1) by decide +kernel) rfl ?_
  refine am_r_goto (tg := 69) (show decode cX10_safe 65 = .ok (.goto 4, 3) by decide +kernel) (by decide) ?_
  exact k
theorem S_X10_safe_68 {G : am_G} {d : Nat} {Q : Int → am_D → Prop} {σ : am_D}   (k : am_X (am_FI G (d + 1) Q) mX10_safe (0, 0) 69 [none, none, none, none, none] [am_i 0] (am_K0, σ)) : am_X (am_FI G (d + 1) Q) mX10_safe (0, 0) 68 [none, none, none, none, none] [] (am_K0, σ) := by
  refine am_r_iconst (nx := 69) (show decode cX10_safe 68 = .ok (.iconst 0, 1) by decide +kernel) rfl ?_
  exact k
theorem S_X10_safe_69 {G : am_G} {d : Nat} {Q : Int → am_D → Prop} {σ : am_D} {s0 : Int}  (k : Q s0 σ) : am_X (am_FI G (d + 1) Q) mX10_safe (0, 0) 69 [none, none, none, none, none] [am_i s0] (am_K0, σ) := by
  exact am_r_iret rfl rfl (show decode cX10_safe 69 = .ok (.ireturn, 1) by decide +kernel) ⟨_, _, rfl, rfl, k⟩
theorem S_X10_found_0 {G : am_G} {d : Nat} {Q : Int → am_D → Prop} {σ : am_D} {v1 : Int} (hr1 : -2147483648 ≤ v1 ∧ v1 ≤ 2147483647) (k1 : v1 < 0 → am_X (am_FI G (d + 1) Q) mX10_found (0, 0) 15 [none, some (am_i v1)] [] (am_K0, σ)) (k2 : ¬ (v1 < 0) → am_X (am_FI G (d + 1) Q) mX10_found (0, 0) 4 [some (am_r (some 0)), some (am_i v1)] [] (am_K0, σ)) : am_X (am_FI G (d + 1) Q) mX10_found (0, 0) 0 [some (am_r (some 0)), some (am_i v1)] [] (am_K0, σ) := by
  refine am_r_iload_n (nx := 1) rfl rfl (show decode cX10_found 0 = .ok (.iload_n 1, 1) by decide +kernel) rfl ?_
  refine am_r_if_lt (tg := 15) (nx := 4) (show decode cX10_found 1 = .ok (.ifCond .lt 14, 3) by decide +kernel) (by decide) rfl hr1 ?_ ?_
  · exact fun q => am_x_fg [0] (k1 q)
  · exact fun q => k2 q
theorem S_X10_found_4 {G : am_G} {d : Nat} {Q : Int → am_D → Prop} {σ : am_D} {v1 : Int} {Q' : am_D → Prop} (hc : am_MV G d mX0_become [am_r (some 6), am_r (some 8)] σ Q') (k : ∀ σ' : am_D, Q' σ' → am_X (am_FI G (d + 1) Q) mX10_found (0, 0) 15 [none, some (am_i v1)] [] (am_K0, σ')) : am_X (am_FI G (d + 1) Q) mX10_found (0, 0) 4 [some (am_r (some 0)), some (am_i v1)] [] (am_K0, σ) := by
  refine am_r_aload_n (nx := 5) rfl rfl (show decode cX10_found 4 = .ok (.aload_n 0, 1) by decide +kernel) rfl ?_
  refine am_r_getF (nx := 8) 4 cw10 (by decide) rfl (Or.inl fl_X10_39) (ob_0) (fn_0_4) (show decode cX10_found 5 = .ok (.getfield 39, 3) by decide +kernel) rfl ?_
  refine am_r_aload_n (nx := 9) rfl rfl (show decode cX10_found 8 = .ok (.aload_n 0, 1) by decide +kernel) rfl ?_
  refine am_r_getF (nx := 12) 5 cw10 (by decide) rfl (Or.inl fl_X10_43) (ob_0) (fn_0_5) (show decode cX10_found 9 = .ok (.getfield 43, 3) by decide +kernel) rfl ?_
  refine am_r_callV (as := [am_r (some 8)]) (st := []) hc mb_X0_become mv_X0_become (Or.inl ml_X10_123) (obE (by unfold am_isE; decide)) (by omega) (r := (RX0, TX0, 2)) rfl rfl rfl rfl (Nat.le_of_ble_eq_true rfl) ⟨Nat.le_refl _, Nat.le_refl _⟩ ⟨Nat.le_refl _, Nat.le_refl _⟩ (show decode cX10_found 12 = .ok (.invokevirtual 123, 3) by decide +kernel) ?_
  rintro _ _ ⟨σ', rfl, rfl, hq⟩ _
  exact am_x_fg [0] (k σ' hq)
theorem S_X10_found_15 {G : am_G} {d : Nat} {Q : Int → am_D → Prop} {σ : am_D} {v1 : Int}  (k : Q v1 σ) : am_X (am_FI G (d + 1) Q) mX10_found (0, 0) 15 [none, some (am_i v1)] [] (am_K0, σ) := by
  refine am_r_iload_n (nx := 16) rfl rfl (show decode cX10_found 15 = .ok (.iload_n 1, 1) by decide +kernel) rfl ?_
  exact am_r_iret rfl rfl (show decode cX10_found 16 = .ok (.ireturn, 1) by decide +kernel) ⟨_, _, rfl, rfl, k⟩
theorem S_X10_told_0 {G : am_G} {d : Nat} {Q : Option Nat → am_D → Prop} {σ : am_D} {v1 : Int} (hr1 : -2147483648 ≤ v1 ∧ v1 ≤ 2147483647) (k1 : v1 < 0 → am_X (am_FR G (d + 1) Q) mX10_told (0, 0) 22 [none, none] [] (am_K0, σ)) (k2 : ¬ (v1 < 0) → am_X (am_FR G (d + 1) Q) mX10_told (0, 0) 4 [some (am_r (some 0)), some (am_i v1)] [] (am_K0, σ)) : am_X (am_FR G (d + 1) Q) mX10_told (0, 0) 0 [some (am_r (some 0)), some (am_i v1)] [] (am_K0, σ) := by
  refine am_r_iload_n (nx := 1) rfl rfl (show decode cX10_told 0 = .ok (.iload_n 1, 1) by decide +kernel) rfl ?_
  refine am_r_if_lt (tg := 22) (nx := 4) (show decode cX10_told 1 = .ok (.ifCond .lt 21, 3) by decide +kernel) (by decide) rfl hr1 ?_ ?_
  · exact fun q => am_x_fg [0, 1] (k1 q)
  · exact fun q => k2 q
theorem S_X10_told_4 {G : am_G} {d : Nat} {Q : Option Nat → am_D → Prop} {σ : am_D} {v1 : Int} (hr1 : -2147483648 ≤ v1 ∧ v1 ≤ 2147483647) (k1 : 4 ≤ v1 → am_X (am_FR G (d + 1) Q) mX10_told (0, 0) 22 [none, none] [] (am_K0, σ)) (k2 : ¬ (4 ≤ v1) → am_X (am_FR G (d + 1) Q) mX10_told (0, 0) 13 [some (am_r (some 0)), some (am_i v1)] [] (am_K0, σ)) : am_X (am_FR G (d + 1) Q) mX10_told (0, 0) 4 [some (am_r (some 0)), some (am_i v1)] [] (am_K0, σ) := by
  refine am_r_iload_n (nx := 5) rfl rfl (show decode cX10_told 4 = .ok (.iload_n 1, 1) by decide +kernel) rfl ?_
  refine am_r_aload_n (nx := 6) rfl rfl (show decode cX10_told 5 = .ok (.aload_n 0, 1) by decide +kernel) rfl ?_
  refine am_r_getF (nx := 9) 2 cw10 (by decide) rfl (Or.inl fl_X10_27) (ob_0) (fn_0_2) (show decode cX10_told 6 = .ok (.getfield 27, 3) by decide +kernel) rfl ?_
  refine am_r_alen (nx := 10) (sh_4) (by omega) (by omega) (show decode cX10_told 9 = .ok (.arraylength, 1) by decide +kernel) rfl ?_
  refine am_r_icmp_ge (tg := 22) (nx := 13) (show decode cX10_told 10 = .ok (.if_icmp .ge 12, 3) by decide +kernel) (by decide) rfl hr1 (by omega) ?_ ?_
  · exact fun q => am_x_fg [0, 1] (k1 q)
  · exact fun q => k2 q
theorem S_X10_told_13 {G : am_G} {d : Nat} {Q : Option Nat → am_D → Prop} {σ : am_D} {v1 : Int} (hi1 : 0 ≤ v1) (hj2 : v1 < 4) (k : am_X (am_FR G (d + 1) Q) mX10_told (0, 0) 23 [none, none] [am_r (σ.2.2 4 v1)] (am_K0, σ)) : am_X (am_FR G (d + 1) Q) mX10_told (0, 0) 13 [some (am_r (some 0)), some (am_i v1)] [] (am_K0, σ) := by
  refine am_r_aload_n (nx := 14) rfl rfl (show decode cX10_told 13 = .ok (.aload_n 0, 1) by decide +kernel) rfl ?_
  refine am_r_getF (nx := 17) 2 cw10 (by decide) rfl (Or.inl fl_X10_27) (ob_0) (fn_0_2) (show decode cX10_told 14 = .ok (.getfield 27, 3) by decide +kernel) rfl ?_
  refine am_r_iload_n (nx := 18) rfl rfl (show decode cX10_told 17 = .ok (.iload_n 1, 1) by decide +kernel) rfl ?_
  refine am_r_aald (nx := 19) (sh_4) (am_shle (sh_4)) hi1 hj2 (show decode cX10_told 18 = .ok (.aaload, 1) by decide +kernel) rfl ?_
  refine am_r_goto (tg := 23) (show decode cX10_told 19 = .ok (.goto 4, 3) by decide +kernel) (by decide) ?_
  exact am_x_fg [0, 1] k
theorem S_X10_told_22 {G : am_G} {d : Nat} {Q : Option Nat → am_D → Prop} {σ : am_D}   (k : am_X (am_FR G (d + 1) Q) mX10_told (0, 0) 23 [none, none] [am_r none] (am_K0, σ)) : am_X (am_FR G (d + 1) Q) mX10_told (0, 0) 22 [none, none] [] (am_K0, σ) := by
  refine am_r_null (nx := 23) (show decode cX10_told 22 = .ok (.aconst_null, 1) by decide +kernel) rfl ?_
  exact k
theorem S_X10_told_23 {G : am_G} {d : Nat} {Q : Option Nat → am_D → Prop} {σ : am_D} {s0 : Option Nat}  (k : Q s0 σ) : am_X (am_FR G (d + 1) Q) mX10_told (0, 0) 23 [none, none] [am_r s0] (am_K0, σ) := by
  exact am_r_aret (C2 := "TreeStream$Machine") rfl (show decode cX10_told 23 = .ok (.areturn, 1) by decide +kernel) ⟨_, _, rfl, rfl, k⟩
theorem S_X10_toldMachines_0 {G : am_G} {d : Nat} {Q : Int → am_D → Prop} {σ : am_D}   (k : am_X (am_FI G (d + 1) Q) mX10_toldMachines (0, 0) 2 [some (am_r (some 0)), some (am_i 0), none] [] (am_K0, σ)) : am_X (am_FI G (d + 1) Q) mX10_toldMachines (0, 0) 0 [some (am_r (some 0)), none, none] [] (am_K0, σ) := by
  refine am_r_iconst (nx := 1) (show decode cX10_toldMachines 0 = .ok (.iconst 0, 1) by decide +kernel) rfl ?_
  refine am_r_istore_n (nx := 2) rfl (by decide) rfl (show decode cX10_toldMachines 1 = .ok (.istore_n 1, 1) by decide +kernel) rfl ?_
  exact k
theorem S_X10_toldMachines_2 {G : am_G} {d : Nat} {Q : Int → am_D → Prop} {σ : am_D} {v1 : Int}  (k : am_X (am_FI G (d + 1) Q) mX10_toldMachines (0, 0) 4 [some (am_r (some 0)), some (am_i v1), some (am_i 0)] [] (am_K0, σ)) : am_X (am_FI G (d + 1) Q) mX10_toldMachines (0, 0) 2 [some (am_r (some 0)), some (am_i v1), none] [] (am_K0, σ) := by
  refine am_r_iconst (nx := 3) (show decode cX10_toldMachines 2 = .ok (.iconst 0, 1) by decide +kernel) rfl ?_
  refine am_r_istore_n (nx := 4) rfl (by decide) rfl (show decode cX10_toldMachines 3 = .ok (.istore_n 2, 1) by decide +kernel) rfl ?_
  exact k
theorem S_X10_toldMachines_4 {G : am_G} {d : Nat} {Q : Int → am_D → Prop} {σ : am_D} {v1 : Int} {v2 : Int} (hr1 : -2147483648 ≤ v2 ∧ v2 ≤ 2147483647) (k1 : 4 ≤ v2 → am_X (am_FI G (d + 1) Q) mX10_toldMachines (0, 0) 31 [none, some (am_i v1), none] [] (am_K0, σ)) (k2 : ¬ (4 ≤ v2) → am_X (am_FI G (d + 1) Q) mX10_toldMachines (0, 0) 13 [some (am_r (some 0)), some (am_i v1), some (am_i v2)] [] (am_K0, σ)) : am_X (am_FI G (d + 1) Q) mX10_toldMachines (0, 0) 4 [some (am_r (some 0)), some (am_i v1), some (am_i v2)] [] (am_K0, σ) := by
  refine am_r_iload_n (nx := 5) rfl rfl (show decode cX10_toldMachines 4 = .ok (.iload_n 2, 1) by decide +kernel) rfl ?_
  refine am_r_aload_n (nx := 6) rfl rfl (show decode cX10_toldMachines 5 = .ok (.aload_n 0, 1) by decide +kernel) rfl ?_
  refine am_r_getF (nx := 9) 2 cw10 (by decide) rfl (Or.inl fl_X10_27) (ob_0) (fn_0_2) (show decode cX10_toldMachines 6 = .ok (.getfield 27, 3) by decide +kernel) rfl ?_
  refine am_r_alen (nx := 10) (sh_4) (by omega) (by omega) (show decode cX10_toldMachines 9 = .ok (.arraylength, 1) by decide +kernel) rfl ?_
  refine am_r_icmp_ge (tg := 31) (nx := 13) (show decode cX10_toldMachines 10 = .ok (.if_icmp .ge 21, 3) by decide +kernel) (by decide) rfl hr1 (by omega) ?_ ?_
  · exact fun q => am_x_fg [0, 2] (k1 q)
  · exact fun q => k2 q
theorem S_X10_toldMachines_13 {G : am_G} {d : Nat} {Q : Int → am_D → Prop} {σ : am_D} {v1 : Int} {v2 : Int} (hi1 : 0 ≤ v2) (hj2 : v2 < 4) (k1 : (σ.2.2 4 v2) = none → am_X (am_FI G (d + 1) Q) mX10_toldMachines (0, 0) 25 [some (am_r (some 0)), some (am_i v1), some (am_i v2)] [] (am_K0, σ)) (k2 : ∀ a, (σ.2.2 4 v2) = some a → am_X (am_FI G (d + 1) Q) mX10_toldMachines (0, 0) 22 [some (am_r (some 0)), some (am_i v1), some (am_i v2)] [] (am_K0, σ)) : am_X (am_FI G (d + 1) Q) mX10_toldMachines (0, 0) 13 [some (am_r (some 0)), some (am_i v1), some (am_i v2)] [] (am_K0, σ) := by
  refine am_r_aload_n (nx := 14) rfl rfl (show decode cX10_toldMachines 13 = .ok (.aload_n 0, 1) by decide +kernel) rfl ?_
  refine am_r_getF (nx := 17) 2 cw10 (by decide) rfl (Or.inl fl_X10_27) (ob_0) (fn_0_2) (show decode cX10_toldMachines 14 = .ok (.getfield 27, 3) by decide +kernel) rfl ?_
  refine am_r_iload_n (nx := 18) rfl rfl (show decode cX10_toldMachines 17 = .ok (.iload_n 2, 1) by decide +kernel) rfl ?_
  refine am_r_aald (nx := 19) (sh_4) (am_shle (sh_4)) hi1 hj2 (show decode cX10_toldMachines 18 = .ok (.aaload, 1) by decide +kernel) rfl ?_
  refine am_r_ifnull (tg := 25) (nx := 22) (show decode cX10_toldMachines 19 = .ok (.ifnull 6, 3) by decide +kernel) (by decide) rfl ?_ ?_
  · exact fun q => k1 q
  · exact fun a q => k2 a q
theorem S_X10_toldMachines_22 {G : am_G} {d : Nat} {Q : Int → am_D → Prop} {σ : am_D} {v1 : Int} {v2 : Int}  (k : am_X (am_FI G (d + 1) Q) mX10_toldMachines (0, 0) 25 [some (am_r (some 0)), some (am_i (v1 + 1)), some (am_i v2)] [] (am_K0, σ)) : am_X (am_FI G (d + 1) Q) mX10_toldMachines (0, 0) 22 [some (am_r (some 0)), some (am_i v1), some (am_i v2)] [] (am_K0, σ) := by
  refine am_r_iinc (nx := 25) rfl rfl (show decode cX10_toldMachines 22 = .ok (.iinc 1 1, 3) by decide +kernel) rfl ?_
  exact k
theorem S_X10_toldMachines_25 {G : am_G} {d : Nat} {Q : Int → am_D → Prop} {σ : am_D} {v1 : Int} {v2 : Int}  (k : am_X (am_FI G (d + 1) Q) mX10_toldMachines (0, 0) 4 [some (am_r (some 0)), some (am_i v1), some (am_i (v2 + 1))] [] (am_K0, σ)) : am_X (am_FI G (d + 1) Q) mX10_toldMachines (0, 0) 25 [some (am_r (some 0)), some (am_i v1), some (am_i v2)] [] (am_K0, σ) := by
  refine am_r_iinc (nx := 28) rfl rfl (show decode cX10_toldMachines 25 = .ok (.iinc 2 1, 3) by decide +kernel) rfl ?_
  refine am_r_goto (tg := 4) (show decode cX10_toldMachines 28 = .ok (.goto (-24), 3) by decide +kernel) (by decide) ?_
  exact k
theorem S_X10_toldMachines_31 {G : am_G} {d : Nat} {Q : Int → am_D → Prop} {σ : am_D} {v1 : Int}  (k : Q v1 σ) : am_X (am_FI G (d + 1) Q) mX10_toldMachines (0, 0) 31 [none, some (am_i v1), none] [] (am_K0, σ) := by
  refine am_r_iload_n (nx := 32) rfl rfl (show decode cX10_toldMachines 31 = .ok (.iload_n 1, 1) by decide +kernel) rfl ?_
  exact am_r_iret rfl rfl (show decode cX10_toldMachines 32 = .ok (.ireturn, 1) by decide +kernel) ⟨_, _, rfl, rfl, k⟩
theorem S_X10_unused_0 {G : am_G} {d : Nat} {Q : Option Nat → am_D → Prop} {σ : am_D}   (k : am_X (am_FR G (d + 1) Q) mX10_unused (0, 0) 2 [some (am_r (some 0)), some (am_i 0), none, none, none] [] (am_K0, σ)) : am_X (am_FR G (d + 1) Q) mX10_unused (0, 0) 0 [some (am_r (some 0)), none, none, none, none] [] (am_K0, σ) := by
  refine am_r_iconst (nx := 1) (show decode cX10_unused 0 = .ok (.iconst 0, 1) by decide +kernel) rfl ?_
  refine am_r_istore_n (nx := 2) rfl (by decide) rfl (show decode cX10_unused 1 = .ok (.istore_n 1, 1) by decide +kernel) rfl ?_
  exact k
theorem S_X10_unused_2 {G : am_G} {d : Nat} {Q : Option Nat → am_D → Prop} {σ : am_D} {v1 : Int} (hr1 : -2147483648 ≤ v1 ∧ v1 ≤ 2147483647) (k1 : 6 ≤ v1 → am_X (am_FR G (d + 1) Q) mX10_unused (0, 0) 91 [none, none, none, none, none] [] (am_K0, σ)) (k2 : ¬ (6 ≤ v1) → am_X (am_FR G (d + 1) Q) mX10_unused (0, 0) 11 [some (am_r (some 0)), some (am_i v1), none, none, none] [] (am_K0, σ)) : am_X (am_FR G (d + 1) Q) mX10_unused (0, 0) 2 [some (am_r (some 0)), some (am_i v1), none, none, none] [] (am_K0, σ) := by
  refine am_r_iload_n (nx := 3) rfl rfl (show decode cX10_unused 2 = .ok (.iload_n 1, 1) by decide +kernel) rfl ?_
  refine am_r_aload_n (nx := 4) rfl rfl (show decode cX10_unused 3 = .ok (.aload_n 0, 1) by decide +kernel) rfl ?_
  refine am_r_getF (nx := 7) 3 cw10 (by decide) rfl (Or.inl fl_X10_31) (ob_0) (fn_0_3) (show decode cX10_unused 4 = .ok (.getfield 31, 3) by decide +kernel) rfl ?_
  refine am_r_alen (nx := 8) (sh_5) (by omega) (by omega) (show decode cX10_unused 7 = .ok (.arraylength, 1) by decide +kernel) rfl ?_
  refine am_r_icmp_ge (tg := 91) (nx := 11) (show decode cX10_unused 8 = .ok (.if_icmp .ge 83, 3) by decide +kernel) (by decide) rfl hr1 (by omega) ?_ ?_
  · exact fun q => am_x_fg [0, 1] (k1 q)
  · exact fun q => k2 q
theorem S_X10_unused_11 {G : am_G} {d : Nat} {Q : Option Nat → am_D → Prop} {σ : am_D} {v1 : Int} (hi1 : 0 ≤ v1) (hj2 : v1 < 6) (k : am_X (am_FR G (d + 1) Q) mX10_unused (0, 0) 18 [some (am_r (some 0)), some (am_i v1), some (am_r (σ.2.2 5 v1)), none, none] [] (am_K0, σ)) : am_X (am_FR G (d + 1) Q) mX10_unused (0, 0) 11 [some (am_r (some 0)), some (am_i v1), none, none, none] [] (am_K0, σ) := by
  refine am_r_aload_n (nx := 12) rfl rfl (show decode cX10_unused 11 = .ok (.aload_n 0, 1) by decide +kernel) rfl ?_
  refine am_r_getF (nx := 15) 3 cw10 (by decide) rfl (Or.inl fl_X10_31) (ob_0) (fn_0_3) (show decode cX10_unused 12 = .ok (.getfield 31, 3) by decide +kernel) rfl ?_
  refine am_r_iload_n (nx := 16) rfl rfl (show decode cX10_unused 15 = .ok (.iload_n 1, 1) by decide +kernel) rfl ?_
  refine am_r_aald (nx := 17) (sh_5) (am_shle (sh_5)) hi1 hj2 (show decode cX10_unused 16 = .ok (.aaload, 1) by decide +kernel) rfl ?_
  refine am_r_astore_n (nx := 18) rfl (by decide) rfl (show decode cX10_unused 17 = .ok (.astore_n 2, 1) by decide +kernel) rfl ?_
  exact k
theorem S_X10_unused_18 {G : am_G} {d : Nat} {Q : Option Nat → am_D → Prop} {σ : am_D} {v1 : Int} {v2 : Option Nat}  (k1 : ¬ v2 = (σ.2.2 12 4) → am_X (am_FR G (d + 1) Q) mX10_unused (0, 0) 33 [some (am_r (some 0)), some (am_i v1), some (am_r v2), none, none] [] (am_K0, σ)) (k2 : v2 = (σ.2.2 12 4) → am_X (am_FR G (d + 1) Q) mX10_unused (0, 0) 29 [some (am_r (some 0)), some (am_i v1), some (am_r v2), none, none] [] (am_K0, σ)) : am_X (am_FR G (d + 1) Q) mX10_unused (0, 0) 18 [some (am_r (some 0)), some (am_i v1), some (am_r v2), none, none] [] (am_K0, σ) := by
  refine am_r_aload_n (nx := 19) rfl rfl (show decode cX10_unused 18 = .ok (.aload_n 2, 1) by decide +kernel) rfl ?_
  refine am_r_aload_n (nx := 20) rfl rfl (show decode cX10_unused 19 = .ok (.aload_n 0, 1) by decide +kernel) rfl ?_
  refine am_r_getF (nx := 23) 7 cw10 (by decide) rfl (Or.inl fl_X10_52) (ob_0) (fn_0_7) (show decode cX10_unused 20 = .ok (.getfield 52, 3) by decide +kernel) rfl ?_
  refine am_r_getR (nx := 26) 4 cw3 (by decide) rfl (Or.inr ⟨_, fl_X10_166⟩) (obR (by unfold am_isR; decide)) (show decode cX10_unused 23 = .ok (.getfield 166, 3) by decide +kernel) rfl ?_
  refine am_r_acmp_ne (tg := 33) (nx := 29) (show decode cX10_unused 26 = .ok (.if_acmp .ne 7, 3) by decide +kernel) (by decide) rfl ?_ ?_
  · exact fun q => k1 q
  · exact fun q => k2 q
theorem S_X10_unused_29 {G : am_G} {d : Nat} {Q : Option Nat → am_D → Prop} {σ : am_D} {v1 : Int} {v2 : Option Nat}  (k : am_X (am_FR G (d + 1) Q) mX10_unused (0, 0) 34 [some (am_r (some 0)), some (am_i v1), some (am_r v2), none, none] [am_i 1] (am_K0, σ)) : am_X (am_FR G (d + 1) Q) mX10_unused (0, 0) 29 [some (am_r (some 0)), some (am_i v1), some (am_r v2), none, none] [] (am_K0, σ) := by
  refine am_r_iconst (nx := 30) (show decode cX10_unused 29 = .ok (.iconst 1, 1) by decide +kernel) rfl ?_
  refine am_r_goto (tg := 34) (show decode cX10_unused 30 = .ok (.goto 4, 3) by decide +kernel) (by decide) ?_
  exact k
theorem S_X10_unused_33 {G : am_G} {d : Nat} {Q : Option Nat → am_D → Prop} {σ : am_D} {v1 : Int} {v2 : Option Nat}  (k : am_X (am_FR G (d + 1) Q) mX10_unused (0, 0) 34 [some (am_r (some 0)), some (am_i v1), some (am_r v2), none, none] [am_i 0] (am_K0, σ)) : am_X (am_FR G (d + 1) Q) mX10_unused (0, 0) 33 [some (am_r (some 0)), some (am_i v1), some (am_r v2), none, none] [] (am_K0, σ) := by
  refine am_r_iconst (nx := 34) (show decode cX10_unused 33 = .ok (.iconst 0, 1) by decide +kernel) rfl ?_
  exact k
theorem S_X10_unused_34 {G : am_G} {d : Nat} {Q : Option Nat → am_D → Prop} {σ : am_D} {v1 : Int} {s0 : Int} {v2 : Option Nat}  (k : am_X (am_FR G (d + 1) Q) mX10_unused (0, 0) 35 [some (am_r (some 0)), some (am_i v1), some (am_r v2), some (am_i s0), none] [] (am_K0, σ)) : am_X (am_FR G (d + 1) Q) mX10_unused (0, 0) 34 [some (am_r (some 0)), some (am_i v1), some (am_r v2), none, none] [am_i s0] (am_K0, σ) := by
  refine am_r_istore_n (nx := 35) rfl (by decide) rfl (show decode cX10_unused 34 = .ok (.istore_n 3, 1) by decide +kernel) rfl ?_
  exact k
theorem S_X10_unused_35 {G : am_G} {d : Nat} {Q : Option Nat → am_D → Prop} {σ : am_D} {v1 : Int} {v3 : Int} {v2 : Option Nat}  (k : am_X (am_FR G (d + 1) Q) mX10_unused (0, 0) 38 [some (am_r (some 0)), some (am_i v1), some (am_r v2), some (am_i v3), some (am_i 0)] [] (am_K0, σ)) : am_X (am_FR G (d + 1) Q) mX10_unused (0, 0) 35 [some (am_r (some 0)), some (am_i v1), some (am_r v2), some (am_i v3), none] [] (am_K0, σ) := by
  refine am_r_iconst (nx := 36) (show decode cX10_unused 35 = .ok (.iconst 0, 1) by decide +kernel) rfl ?_
  refine am_r_istore (nx := 38) (by decide) rfl (show decode cX10_unused 36 = .ok (.istore 4, 2) by decide +kernel) rfl ?_
  exact k
theorem S_X10_unused_38 {G : am_G} {d : Nat} {Q : Option Nat → am_D → Prop} {σ : am_D} {v1 : Int} {v3 : Int} {v4 : Int} {v2 : Option Nat} (hr1 : -2147483648 ≤ v4 ∧ v4 ≤ 2147483647) (k1 : 4 ≤ v4 → am_X (am_FR G (d + 1) Q) mX10_unused (0, 0) 75 [some (am_r (some 0)), some (am_i v1), some (am_r v2), some (am_i v3), none] [] (am_K0, σ)) (k2 : ¬ (4 ≤ v4) → am_X (am_FR G (d + 1) Q) mX10_unused (0, 0) 48 [some (am_r (some 0)), some (am_i v1), some (am_r v2), some (am_i v3), some (am_i v4)] [] (am_K0, σ)) : am_X (am_FR G (d + 1) Q) mX10_unused (0, 0) 38 [some (am_r (some 0)), some (am_i v1), some (am_r v2), some (am_i v3), some (am_i v4)] [] (am_K0, σ) := by
  refine am_r_iload (nx := 40) rfl (show decode cX10_unused 38 = .ok (.iload 4, 2) by decide +kernel) rfl ?_
  refine am_r_aload_n (nx := 41) rfl rfl (show decode cX10_unused 40 = .ok (.aload_n 0, 1) by decide +kernel) rfl ?_
  refine am_r_getF (nx := 44) 2 cw10 (by decide) rfl (Or.inl fl_X10_27) (ob_0) (fn_0_2) (show decode cX10_unused 41 = .ok (.getfield 27, 3) by decide +kernel) rfl ?_
  refine am_r_alen (nx := 45) (sh_4) (by omega) (by omega) (show decode cX10_unused 44 = .ok (.arraylength, 1) by decide +kernel) rfl ?_
  refine am_r_icmp_ge (tg := 75) (nx := 48) (show decode cX10_unused 45 = .ok (.if_icmp .ge 30, 3) by decide +kernel) (by decide) rfl hr1 (by omega) ?_ ?_
  · exact fun q => am_x_fg [4] (k1 q)
  · exact fun q => k2 q
theorem S_X10_unused_48 {G : am_G} {d : Nat} {Q : Option Nat → am_D → Prop} {σ : am_D} {v1 : Int} {v3 : Int} {v4 : Int} {v2 : Option Nat} (hr1 : -2147483648 ≤ v3 ∧ v3 ≤ 2147483647) (k1 : ¬ v3 = 0 → am_X (am_FR G (d + 1) Q) mX10_unused (0, 0) 63 [some (am_r (some 0)), some (am_i v1), some (am_r v2), none, some (am_i v4)] [] (am_K0, σ)) (k2 : ¬ (¬ v3 = 0) → am_X (am_FR G (d + 1) Q) mX10_unused (0, 0) 52 [some (am_r (some 0)), some (am_i v1), some (am_r v2), none, some (am_i v4)] [] (am_K0, σ)) : am_X (am_FR G (d + 1) Q) mX10_unused (0, 0) 48 [some (am_r (some 0)), some (am_i v1), some (am_r v2), some (am_i v3), some (am_i v4)] [] (am_K0, σ) := by
  refine am_r_iload_n (nx := 49) rfl rfl (show decode cX10_unused 48 = .ok (.iload_n 3, 1) by decide +kernel) rfl ?_
  refine am_r_if_ne (tg := 63) (nx := 52) (show decode cX10_unused 49 = .ok (.ifCond .ne 14, 3) by decide +kernel) (by decide) rfl hr1 ?_ ?_
  · exact fun q => am_x_fg [3] (k1 q)
  · exact fun q => am_x_fg [3] (k2 q)
theorem S_X10_unused_52 {G : am_G} {d : Nat} {Q : Option Nat → am_D → Prop} {σ : am_D} {v1 : Int} {v4 : Int} {v2 : Option Nat} (hi1 : 0 ≤ v4) (hj2 : v4 < 4) (k1 : ¬ v2 = (σ.2.2 4 v4) → am_X (am_FR G (d + 1) Q) mX10_unused (0, 0) 67 [some (am_r (some 0)), some (am_i v1), some (am_r v2), none, some (am_i v4)] [] (am_K0, σ)) (k2 : v2 = (σ.2.2 4 v4) → am_X (am_FR G (d + 1) Q) mX10_unused (0, 0) 63 [some (am_r (some 0)), some (am_i v1), some (am_r v2), none, some (am_i v4)] [] (am_K0, σ)) : am_X (am_FR G (d + 1) Q) mX10_unused (0, 0) 52 [some (am_r (some 0)), some (am_i v1), some (am_r v2), none, some (am_i v4)] [] (am_K0, σ) := by
  refine am_r_aload_n (nx := 53) rfl rfl (show decode cX10_unused 52 = .ok (.aload_n 2, 1) by decide +kernel) rfl ?_
  refine am_r_aload_n (nx := 54) rfl rfl (show decode cX10_unused 53 = .ok (.aload_n 0, 1) by decide +kernel) rfl ?_
  refine am_r_getF (nx := 57) 2 cw10 (by decide) rfl (Or.inl fl_X10_27) (ob_0) (fn_0_2) (show decode cX10_unused 54 = .ok (.getfield 27, 3) by decide +kernel) rfl ?_
  refine am_r_iload (nx := 59) rfl (show decode cX10_unused 57 = .ok (.iload 4, 2) by decide +kernel) rfl ?_
  refine am_r_aald (nx := 60) (sh_4) (am_shle (sh_4)) hi1 hj2 (show decode cX10_unused 59 = .ok (.aaload, 1) by decide +kernel) rfl ?_
  refine am_r_acmp_ne (tg := 67) (nx := 63) (show decode cX10_unused 60 = .ok (.if_acmp .ne 7, 3) by decide +kernel) (by decide) rfl ?_ ?_
  · exact fun q => k1 q
  · exact fun q => k2 q
theorem S_X10_unused_63 {G : am_G} {d : Nat} {Q : Option Nat → am_D → Prop} {σ : am_D} {v1 : Int} {v4 : Int} {v2 : Option Nat}  (k : am_X (am_FR G (d + 1) Q) mX10_unused (0, 0) 68 [some (am_r (some 0)), some (am_i v1), some (am_r v2), none, some (am_i v4)] [am_i 1] (am_K0, σ)) : am_X (am_FR G (d + 1) Q) mX10_unused (0, 0) 63 [some (am_r (some 0)), some (am_i v1), some (am_r v2), none, some (am_i v4)] [] (am_K0, σ) := by
  refine am_r_iconst (nx := 64) (show decode cX10_unused 63 = .ok (.iconst 1, 1) by decide +kernel) rfl ?_
  refine am_r_goto (tg := 68) (show decode cX10_unused 64 = .ok (.goto 4, 3) by decide +kernel) (by decide) ?_
  exact k
theorem S_X10_unused_67 {G : am_G} {d : Nat} {Q : Option Nat → am_D → Prop} {σ : am_D} {v1 : Int} {v4 : Int} {v2 : Option Nat}  (k : am_X (am_FR G (d + 1) Q) mX10_unused (0, 0) 68 [some (am_r (some 0)), some (am_i v1), some (am_r v2), none, some (am_i v4)] [am_i 0] (am_K0, σ)) : am_X (am_FR G (d + 1) Q) mX10_unused (0, 0) 67 [some (am_r (some 0)), some (am_i v1), some (am_r v2), none, some (am_i v4)] [] (am_K0, σ) := by
  refine am_r_iconst (nx := 68) (show decode cX10_unused 67 = .ok (.iconst 0, 1) by decide +kernel) rfl ?_
  exact k
theorem S_X10_unused_68 {G : am_G} {d : Nat} {Q : Option Nat → am_D → Prop} {σ : am_D} {v1 : Int} {v4 : Int} {s0 : Int} {v2 : Option Nat}  (k : am_X (am_FR G (d + 1) Q) mX10_unused (0, 0) 69 [some (am_r (some 0)), some (am_i v1), some (am_r v2), some (am_i s0), some (am_i v4)] [] (am_K0, σ)) : am_X (am_FR G (d + 1) Q) mX10_unused (0, 0) 68 [some (am_r (some 0)), some (am_i v1), some (am_r v2), none, some (am_i v4)] [am_i s0] (am_K0, σ) := by
  refine am_r_istore_n (nx := 69) rfl (by decide) rfl (show decode cX10_unused 68 = .ok (.istore_n 3, 1) by decide +kernel) rfl ?_
  exact k
theorem S_X10_unused_69 {G : am_G} {d : Nat} {Q : Option Nat → am_D → Prop} {σ : am_D} {v1 : Int} {v3 : Int} {v4 : Int} {v2 : Option Nat}  (k : am_X (am_FR G (d + 1) Q) mX10_unused (0, 0) 38 [some (am_r (some 0)), some (am_i v1), some (am_r v2), some (am_i v3), some (am_i (v4 + 1))] [] (am_K0, σ)) : am_X (am_FR G (d + 1) Q) mX10_unused (0, 0) 69 [some (am_r (some 0)), some (am_i v1), some (am_r v2), some (am_i v3), some (am_i v4)] [] (am_K0, σ) := by
  refine am_r_iinc (nx := 72) rfl rfl (show decode cX10_unused 69 = .ok (.iinc 4 1, 3) by decide +kernel) rfl ?_
  refine am_r_goto (tg := 38) (show decode cX10_unused 72 = .ok (.goto (-34), 3) by decide +kernel) (by decide) ?_
  exact k
theorem S_X10_unused_75 {G : am_G} {d : Nat} {Q : Option Nat → am_D → Prop} {σ : am_D} {v1 : Int} {v3 : Int} {v2 : Option Nat}  (k1 : v2 = none → am_X (am_FR G (d + 1) Q) mX10_unused (0, 0) 85 [some (am_r (some 0)), some (am_i v1), none, none, none] [] (am_K0, σ)) (k2 : ∀ a, v2 = some a → am_X (am_FR G (d + 1) Q) mX10_unused (0, 0) 79 [some (am_r (some 0)), some (am_i v1), some (am_r v2), some (am_i v3), none] [] (am_K0, σ)) : am_X (am_FR G (d + 1) Q) mX10_unused (0, 0) 75 [some (am_r (some 0)), some (am_i v1), some (am_r v2), some (am_i v3), none] [] (am_K0, σ) := by
  refine am_r_aload_n (nx := 76) rfl rfl (show decode cX10_unused 75 = .ok (.aload_n 2, 1) by decide +kernel) rfl ?_
  refine am_r_ifnull (tg := 85) (nx := 79) (show decode cX10_unused 76 = .ok (.ifnull 9, 3) by decide +kernel) (by decide) rfl ?_ ?_
  · exact fun q => am_x_fg [2, 3] (k1 q)
  · exact fun a q => k2 a q
theorem S_X10_unused_79 {G : am_G} {d : Nat} {Q : Option Nat → am_D → Prop} {σ : am_D} {v1 : Int} {v3 : Int} {v2 : Option Nat} (hr1 : -2147483648 ≤ v3 ∧ v3 ≤ 2147483647) (k1 : ¬ v3 = 0 → am_X (am_FR G (d + 1) Q) mX10_unused (0, 0) 85 [some (am_r (some 0)), some (am_i v1), none, none, none] [] (am_K0, σ)) (k2 : ¬ (¬ v3 = 0) → am_X (am_FR G (d + 1) Q) mX10_unused (0, 0) 83 [none, none, some (am_r v2), none, none] [] (am_K0, σ)) : am_X (am_FR G (d + 1) Q) mX10_unused (0, 0) 79 [some (am_r (some 0)), some (am_i v1), some (am_r v2), some (am_i v3), none] [] (am_K0, σ) := by
  refine am_r_iload_n (nx := 80) rfl rfl (show decode cX10_unused 79 = .ok (.iload_n 3, 1) by decide +kernel) rfl ?_
  refine am_r_if_ne (tg := 85) (nx := 83) (show decode cX10_unused 80 = .ok (.ifCond .ne 5, 3) by decide +kernel) (by decide) rfl hr1 ?_ ?_
  · exact fun q => am_x_fg [2, 3] (k1 q)
  · exact fun q => am_x_fg [0, 1, 3] (k2 q)
theorem S_X10_unused_83 {G : am_G} {d : Nat} {Q : Option Nat → am_D → Prop} {σ : am_D} {v2 : Option Nat}  (k : Q v2 σ) : am_X (am_FR G (d + 1) Q) mX10_unused (0, 0) 83 [none, none, some (am_r v2), none, none] [] (am_K0, σ) := by
  refine am_r_aload_n (nx := 84) rfl rfl (show decode cX10_unused 83 = .ok (.aload_n 2, 1) by decide +kernel) rfl ?_
  exact am_r_aret (C2 := "TreeStream$Machine") rfl (show decode cX10_unused 84 = .ok (.areturn, 1) by decide +kernel) ⟨_, _, rfl, rfl, k⟩
theorem S_X10_unused_85 {G : am_G} {d : Nat} {Q : Option Nat → am_D → Prop} {σ : am_D} {v1 : Int}  (k : am_X (am_FR G (d + 1) Q) mX10_unused (0, 0) 2 [some (am_r (some 0)), some (am_i (v1 + 1)), none, none, none] [] (am_K0, σ)) : am_X (am_FR G (d + 1) Q) mX10_unused (0, 0) 85 [some (am_r (some 0)), some (am_i v1), none, none, none] [] (am_K0, σ) := by
  refine am_r_iinc (nx := 88) rfl rfl (show decode cX10_unused 85 = .ok (.iinc 1 1, 3) by decide +kernel) rfl ?_
  refine am_r_goto (tg := 2) (show decode cX10_unused 88 = .ok (.goto (-86), 3) by decide +kernel) (by decide) ?_
  exact k
end
