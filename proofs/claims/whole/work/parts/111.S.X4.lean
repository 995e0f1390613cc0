section
theorem S_X4_neverSpoils_0 {G : am_G} {d : Nat} {Q : Int → am_D → Prop} {σ : am_D} {v1 : Option Nat} {v2 : Option Nat} {Q' : am_D → Prop} (hc : am_MV G d mX4_start [am_r (some 31), am_r v1, am_r v2] σ Q') (k : ∀ σ' : am_D, Q' σ' → am_X (am_FI G (d + 1) Q) mX4_neverSpoils (0, 0) 6 [some (am_r (some 31)), none, none, none, none] [] (am_K0, σ')) : am_X (am_FI G (d + 1) Q) mX4_neverSpoils (0, 0) 0 [some (am_r (some 31)), some (am_r v1), some (am_r v2), none, none] [] (am_K0, σ) := by
  refine am_r_aload_n (nx := 1) rfl rfl (show decode cX4_neverSpoils 0 = .ok (.aload_n 0, 1) by decide +kernel) rfl ?_
  refine am_r_aload_n (nx := 2) rfl rfl (show decode cX4_neverSpoils 1 = .ok (.aload_n 1, 1) by decide +kernel) rfl ?_
  refine am_r_aload_n (nx := 3) rfl rfl (show decode cX4_neverSpoils 2 = .ok (.aload_n 2, 1) by decide +kernel) rfl ?_
  refine am_r_callV (as := [am_r v1, am_r v2]) (st := []) hc mb_X4_start mv_X4_start (Or.inl ml_X4_44) (ob_31) (by omega) (r := (RX4, TX4, 12)) rfl rfl rfl rfl (Nat.le_of_ble_eq_true rfl) ⟨Nat.le_refl _, Nat.le_refl _⟩ ⟨Nat.le_refl _, Nat.le_refl _⟩ (show decode cX4_neverSpoils 3 = .ok (.invokevirtual 44, 3) by decide +kernel) ?_
  rintro _ _ ⟨σ', rfl, rfl, hq⟩ _
  exact am_x_fg [1, 2] (k σ' hq)
theorem S_X4_neverSpoils_6 {G : am_G} {d : Nat} {Q : Int → am_D → Prop} {σ : am_D} {Q' : am_D → Prop} (hc : am_MV G d mX4_note [am_r (some 31), am_i 0, am_i 0, am_i 68] σ Q') (k : ∀ σ' : am_D, Q' σ' → am_X (am_FI G (d + 1) Q) mX4_neverSpoils (0, 0) 14 [some (am_r (some 31)), none, none, none, none] [] (am_K0, σ')) : am_X (am_FI G (d + 1) Q) mX4_neverSpoils (0, 0) 6 [some (am_r (some 31)), none, none, none, none] [] (am_K0, σ) := by
  refine am_r_aload_n (nx := 7) rfl rfl (show decode cX4_neverSpoils 6 = .ok (.aload_n 0, 1) by decide +kernel) rfl ?_
  refine am_r_iconst (nx := 8) (show decode cX4_neverSpoils 7 = .ok (.iconst 0, 1) by decide +kernel) rfl ?_
  refine am_r_iconst (nx := 9) (show decode cX4_neverSpoils 8 = .ok (.iconst 0, 1) by decide +kernel) rfl ?_
  refine am_r_bipush (nx := 11) rfl (show decode cX4_neverSpoils 9 = .ok (.bipush 68, 2) by decide +kernel) rfl ?_
  refine am_r_callV (as := [am_i 0, am_i 0, am_i 68]) (st := []) hc mb_X4_note mv_X4_note (Or.inl ml_X4_48) (ob_31) (by omega) (r := (RX4, TX4, 12)) rfl rfl rfl rfl (Nat.le_of_ble_eq_true rfl) ⟨Nat.le_refl _, Nat.le_refl _⟩ ⟨Nat.le_refl _, Nat.le_refl _⟩ (show decode cX4_neverSpoils 11 = .ok (.invokevirtual 48, 3) by decide +kernel) ?_
  rintro _ _ ⟨σ', rfl, rfl, hq⟩ _
  exact (k σ' hq)
theorem S_X4_neverSpoils_14 {G : am_G} {d : Nat} {Q : Int → am_D → Prop} {σ : am_D}   (k : am_X (am_FI G (d + 1) Q) mX4_neverSpoils (0, 0) 16 [some (am_r (some 31)), none, none, some (am_i 0), none] [] (am_K0, σ)) : am_X (am_FI G (d + 1) Q) mX4_neverSpoils (0, 0) 14 [some (am_r (some 31)), none, none, none, none] [] (am_K0, σ) := by
  refine am_r_iconst (nx := 15) (show decode cX4_neverSpoils 14 = .ok (.iconst 0, 1) by decide +kernel) rfl ?_
  refine am_r_istore_n (nx := 16) rfl (by decide) rfl (show decode cX4_neverSpoils 15 = .ok (.istore_n 3, 1) by decide +kernel) rfl ?_
  exact k
theorem S_X4_neverSpoils_16 {G : am_G} {d : Nat} {Q : Int → am_D → Prop} {σ : am_D} {v3 : Int} (hr1 : -2147483648 ≤ v3 ∧ v3 ≤ 2147483647) (hr2 : -2147483648 ≤ (σ.1 31 3) ∧ (σ.1 31 3) ≤ 2147483647) (k1 : (σ.1 31 3) ≤ v3 → am_X (am_FI G (d + 1) Q) mX4_neverSpoils (0, 0) 136 [none, none, none, none, none] [] (am_K0, σ)) (k2 : ¬ ((σ.1 31 3) ≤ v3) → am_X (am_FI G (d + 1) Q) mX4_neverSpoils (0, 0) 24 [some (am_r (some 31)), none, none, some (am_i v3), none] [] (am_K0, σ)) : am_X (am_FI G (d + 1) Q) mX4_neverSpoils (0, 0) 16 [some (am_r (some 31)), none, none, some (am_i v3), none] [] (am_K0, σ) := by
  refine am_r_iload_n (nx := 17) rfl rfl (show decode cX4_neverSpoils 16 = .ok (.iload_n 3, 1) by decide +kernel) rfl ?_
  refine am_r_aload_n (nx := 18) rfl rfl (show decode cX4_neverSpoils 17 = .ok (.aload_n 0, 1) by decide +kernel) rfl ?_
  refine am_r_getI (nx := 21) 3 cw4 (by decide) rfl (Or.inl fl_X4_52) (ob_31) (show decode cX4_neverSpoils 18 = .ok (.getfield 52, 3) by decide +kernel) rfl ?_
  refine am_r_icmp_ge (tg := 136) (nx := 24) (show decode cX4_neverSpoils 21 = .ok (.if_icmp .ge 115, 3) by decide +kernel) (by decide) rfl hr1 hr2 ?_ ?_
  · exact fun q => am_x_fg [0, 3] (k1 q)
  · exact fun q => k2 q
theorem S_X4_neverSpoils_24 {G : am_G} {d : Nat} {Q : Int → am_D → Prop} {σ : am_D} {v3 : Int} (hr1 : -2147483648 ≤ v3 ∧ v3 ≤ 2147483647) (k1 : 729 ≤ v3 → am_X (am_FI G (d + 1) Q) mX4_neverSpoils (0, 0) 136 [none, none, none, none, none] [] (am_K0, σ)) (k2 : ¬ (729 ≤ v3) → am_X (am_FI G (d + 1) Q) mX4_neverSpoils (0, 0) 31 [some (am_r (some 31)), none, none, some (am_i v3), none] [] (am_K0, σ)) : am_X (am_FI G (d + 1) Q) mX4_neverSpoils (0, 0) 24 [some (am_r (some 31)), none, none, some (am_i v3), none] [] (am_K0, σ) := by
  refine am_r_iload_n (nx := 25) rfl rfl (show decode cX4_neverSpoils 24 = .ok (.iload_n 3, 1) by decide +kernel) rfl ?_
  refine am_r_sipush (nx := 28) rfl (show decode cX4_neverSpoils 25 = .ok (.sipush 729, 3) by decide +kernel) rfl ?_
  refine am_r_icmp_ge (tg := 136) (nx := 31) (show decode cX4_neverSpoils 28 = .ok (.if_icmp .ge 108, 3) by decide +kernel) (by decide) rfl hr1 (by omega) ?_ ?_
  · exact fun q => am_x_fg [0, 3] (k1 q)
  · exact fun q => k2 q
theorem S_X4_neverSpoils_31 {G : am_G} {d : Nat} {Q : Int → am_D → Prop} {σ : am_D} {v3 : Int} {Q' : Int → am_D → Prop} (hc : am_MI G d mX10_at [am_r (some 36), am_i v3] σ Q') (k : ∀ (x : Int) (σ' : am_D), Q' x σ' → am_X (am_FI G (d + 1) Q) mX4_neverSpoils (0, 0) 41 [some (am_r (some 31)), none, none, some (am_i v3), some (am_i x)] [] (am_K0, σ')) : am_X (am_FI G (d + 1) Q) mX4_neverSpoils (0, 0) 31 [some (am_r (some 31)), none, none, some (am_i v3), none] [] (am_K0, σ) := by
  refine am_r_aload_n (nx := 32) rfl rfl (show decode cX4_neverSpoils 31 = .ok (.aload_n 0, 1) by decide +kernel) rfl ?_
  refine am_r_getF (nx := 35) 2 cw4 (by decide) rfl (Or.inl fl_X4_22) (ob_31) (fn_31_2) (show decode cX4_neverSpoils 32 = .ok (.getfield 22, 3) by decide +kernel) rfl ?_
  refine am_r_iload_n (nx := 36) rfl rfl (show decode cX4_neverSpoils 35 = .ok (.iload_n 3, 1) by decide +kernel) rfl ?_
  refine am_r_callS (as := [am_r (some 36), am_i v3]) (st := []) hc mb_X10_at mv_X10_at (Or.inr ⟨_, ml_X4_56⟩) rfl rfl (Nat.le_of_ble_eq_true rfl) ⟨Nat.le_refl _, Nat.le_refl _⟩ ⟨Nat.le_refl _, Nat.le_refl _⟩ (show decode cX4_neverSpoils 36 = .ok (.invokestatic 56, 3) by decide +kernel) ?_
  rintro _ _ ⟨x, σ', rfl, rfl, hq⟩ _
  refine am_r_istore (nx := 41) (by decide) rfl (show decode cX4_neverSpoils 39 = .ok (.istore 4, 2) by decide +kernel) rfl ?_
  exact (k x σ' hq)
theorem S_X4_neverSpoils_41 {G : am_G} {d : Nat} {Q : Int → am_D → Prop} {σ : am_D} {v3 : Int} {v4 : Int} {Q' : Int → am_D → Prop} (hc : am_MI G d mX4_spoilsAtEnd [am_r (some 31), am_i v4] σ Q') (k : ∀ (x : Int) (σ' : am_D), Q' x σ' → am_X (am_FI G (d + 1) Q) mX4_neverSpoils (0, 0) 47 [some (am_r (some 31)), none, none, some (am_i v3), some (am_i v4)] [am_i x] (am_K0, σ')) : am_X (am_FI G (d + 1) Q) mX4_neverSpoils (0, 0) 41 [some (am_r (some 31)), none, none, some (am_i v3), some (am_i v4)] [] (am_K0, σ) := by
  refine am_r_aload_n (nx := 42) rfl rfl (show decode cX4_neverSpoils 41 = .ok (.aload_n 0, 1) by decide +kernel) rfl ?_
  refine am_r_iload (nx := 44) rfl (show decode cX4_neverSpoils 42 = .ok (.iload 4, 2) by decide +kernel) rfl ?_
  refine am_r_callV (as := [am_i v4]) (st := []) hc mb_X4_spoilsAtEnd mv_X4_spoilsAtEnd (Or.inl ml_X4_60) (ob_31) (by omega) (r := (RX4, TX4, 12)) rfl rfl rfl rfl (Nat.le_of_ble_eq_true rfl) ⟨Nat.le_refl _, Nat.le_refl _⟩ ⟨Nat.le_refl _, Nat.le_refl _⟩ (show decode cX4_neverSpoils 44 = .ok (.invokevirtual 60, 3) by decide +kernel) ?_
  rintro _ _ ⟨x, σ', rfl, rfl, hq⟩ _
  exact (k x σ' hq)
theorem S_X4_neverSpoils_47 {G : am_G} {d : Nat} {Q : Int → am_D → Prop} {σ : am_D} {v3 : Int} {v4 : Int} {s0 : Int} (hr1 : -2147483648 ≤ s0 ∧ s0 ≤ 2147483647) (k1 : s0 = 0 → am_X (am_FI G (d + 1) Q) mX4_neverSpoils (0, 0) 52 [some (am_r (some 31)), none, none, some (am_i v3), some (am_i v4)] [] (am_K0, σ)) (k2 : ¬ (s0 = 0) → am_X (am_FI G (d + 1) Q) mX4_neverSpoils (0, 0) 50 [none, none, none, none, none] [] (am_K0, σ)) : am_X (am_FI G (d + 1) Q) mX4_neverSpoils (0, 0) 47 [some (am_r (some 31)), none, none, some (am_i v3), some (am_i v4)] [am_i s0] (am_K0, σ) := by
  refine am_r_if_eq (tg := 52) (nx := 50) (show decode cX4_neverSpoils 47 = .ok (.ifCond .eq 5, 3) by decide +kernel) (by decide) rfl hr1 ?_ ?_
  · exact fun q => k1 q
  · exact fun q => am_x_fg [0, 3, 4] (k2 q)
theorem S_X4_neverSpoils_50 {G : am_G} {d : Nat} {Q : Int → am_D → Prop} {σ : am_D}   (k : Q 0 σ) : am_X (am_FI G (d + 1) Q) mX4_neverSpoils (0, 0) 50 [none, none, none, none, none] [] (am_K0, σ) := by
  refine am_r_iconst (nx := 51) (show decode cX4_neverSpoils 50 = .ok (.iconst 0, 1) by decide +kernel) rfl ?_
  exact am_r_iret rfl rfl (show decode cX4_neverSpoils 51 = .ok (.ireturn, 1) by decide +kernel) ⟨_, _, rfl, rfl, k⟩
theorem S_X4_neverSpoils_52 {G : am_G} {d : Nat} {Q : Int → am_D → Prop} {σ : am_D} {v3 : Int} {v4 : Int} {Q' : Int → am_D → Prop} (hc : am_MI G d mX4_beginOf [am_i v4] σ Q') (k : ∀ (x : Int) (σ' : am_D), Q' x σ' → am_X (am_FI G (d + 1) Q) mX4_neverSpoils (0, 0) 66 [some (am_r (some 31)), none, none, some (am_i v3), some (am_i v4)] [am_i x, am_r (some 37), am_i v3, am_r (some 39)] (am_K0, σ')) : am_X (am_FI G (d + 1) Q) mX4_neverSpoils (0, 0) 52 [some (am_r (some 31)), none, none, some (am_i v3), some (am_i v4)] [] (am_K0, σ) := by
  refine am_r_aload_n (nx := 53) rfl rfl (show decode cX4_neverSpoils 52 = .ok (.aload_n 0, 1) by decide +kernel) rfl ?_
  refine am_r_getF (nx := 56) 6 cw4 (by decide) rfl (Or.inl fl_X4_32) (ob_31) (fn_31_6) (show decode cX4_neverSpoils 53 = .ok (.getfield 32, 3) by decide +kernel) rfl ?_
  refine am_r_iload_n (nx := 57) rfl rfl (show decode cX4_neverSpoils 56 = .ok (.iload_n 3, 1) by decide +kernel) rfl ?_
  refine am_r_aload_n (nx := 58) rfl rfl (show decode cX4_neverSpoils 57 = .ok (.aload_n 0, 1) by decide +kernel) rfl ?_
  refine am_r_getF (nx := 61) 4 cw4 (by decide) rfl (Or.inl fl_X4_26) (ob_31) (fn_31_4) (show decode cX4_neverSpoils 58 = .ok (.getfield 26, 3) by decide +kernel) rfl ?_
  refine am_r_iload (nx := 63) rfl (show decode cX4_neverSpoils 61 = .ok (.iload 4, 2) by decide +kernel) rfl ?_
  refine am_r_callS (as := [am_i v4]) (st := [am_r (some 37), am_i v3, am_r (some 39)]) hc mb_X4_beginOf mv_X4_beginOf (Or.inl ml_X4_64) rfl rfl (Nat.le_of_ble_eq_true rfl) ⟨Nat.le_refl _, Nat.le_refl _⟩ ⟨Nat.le_refl _, Nat.le_refl _⟩ (show decode cX4_neverSpoils 63 = .ok (.invokestatic 64, 3) by decide +kernel) ?_
  rintro _ _ ⟨x, σ', rfl, rfl, hq⟩ _
  exact (k x σ' hq)
theorem S_X4_neverSpoils_66 {G : am_G} {d : Nat} {Q : Int → am_D → Prop} {σ : am_D} {v3 : Int} {v4 : Int} {s1 : Int} {s3 : Int} {s2 : Option Nat} {Q' : Int → am_D → Prop} {s0 : Option Nat} (hc : am_MI G d mX10_at [am_r s2, am_i s3] σ Q') (k : ∀ (x : Int) (σ' : am_D), Q' x σ' → am_X (am_FI G (d + 1) Q) mX4_neverSpoils (0, 0) 69 [some (am_r (some 31)), none, none, some (am_i v3), some (am_i v4)] [am_i x, am_i s1, am_r s0] (am_K0, σ')) : am_X (am_FI G (d + 1) Q) mX4_neverSpoils (0, 0) 66 [some (am_r (some 31)), none, none, some (am_i v3), some (am_i v4)] [am_i s3, am_r s2, am_i s1, am_r s0] (am_K0, σ) := by
  refine am_r_callS (as := [am_r s2, am_i s3]) (st := [am_i s1, am_r s0]) hc mb_X10_at mv_X10_at (Or.inr ⟨_, ml_X4_56⟩) rfl rfl (Nat.le_of_ble_eq_true rfl) ⟨Nat.le_refl _, Nat.le_refl _⟩ ⟨Nat.le_refl _, Nat.le_refl _⟩ (show decode cX4_neverSpoils 66 = .ok (.invokestatic 56, 3) by decide +kernel) ?_
  rintro _ _ ⟨x, σ', rfl, rfl, hq⟩ _
  exact (k x σ' hq)
theorem S_X4_neverSpoils_69 {G : am_G} {d : Nat} {Q : Int → am_D → Prop} {σ : am_D} {v3 : Int} {v4 : Int} {s1 : Int} {s2 : Int} {s0 : Option Nat} {Q' : am_D → Prop} (hc : am_MV G d mX10_put [am_r s0, am_i s1, am_i s2] σ Q') (k : ∀ σ' : am_D, Q' σ' → am_X (am_FI G (d + 1) Q) mX4_neverSpoils (0, 0) 72 [some (am_r (some 31)), none, none, some (am_i v3), some (am_i v4)] [] (am_K0, σ')) : am_X (am_FI G (d + 1) Q) mX4_neverSpoils (0, 0) 69 [some (am_r (some 31)), none, none, some (am_i v3), some (am_i v4)] [am_i s2, am_i s1, am_r s0] (am_K0, σ) := by
  refine am_r_callS (as := [am_r s0, am_i s1, am_i s2]) (st := []) hc mb_X10_put mv_X10_put (Or.inr ⟨_, ml_X4_68⟩) rfl rfl (Nat.le_of_ble_eq_true rfl) ⟨Nat.le_refl _, Nat.le_refl _⟩ ⟨Nat.le_refl _, Nat.le_refl _⟩ (show decode cX4_neverSpoils 69 = .ok (.invokestatic 68, 3) by decide +kernel) ?_
  rintro _ _ ⟨σ', rfl, rfl, hq⟩ _
  exact (k σ' hq)
theorem S_X4_neverSpoils_72 {G : am_G} {d : Nat} {Q : Int → am_D → Prop} {σ : am_D} {v3 : Int} {v4 : Int} {Q' : Int → am_D → Prop} (hc : am_MI G d mX4_beginOf [am_i v4] σ Q') (k : ∀ (x : Int) (σ' : am_D), Q' x σ' → am_X (am_FI G (d + 1) Q) mX4_neverSpoils (0, 0) 81 [some (am_r (some 31)), none, none, some (am_i v3), some (am_i v4)] [am_i x, am_r (some 37)] (am_K0, σ')) : am_X (am_FI G (d + 1) Q) mX4_neverSpoils (0, 0) 72 [some (am_r (some 31)), none, none, some (am_i v3), some (am_i v4)] [] (am_K0, σ) := by
  refine am_r_aload_n (nx := 73) rfl rfl (show decode cX4_neverSpoils 72 = .ok (.aload_n 0, 1) by decide +kernel) rfl ?_
  refine am_r_getF (nx := 76) 4 cw4 (by decide) rfl (Or.inl fl_X4_26) (ob_31) (fn_31_4) (show decode cX4_neverSpoils 73 = .ok (.getfield 26, 3) by decide +kernel) rfl ?_
  refine am_r_iload (nx := 78) rfl (show decode cX4_neverSpoils 76 = .ok (.iload 4, 2) by decide +kernel) rfl ?_
  refine am_r_callS (as := [am_i v4]) (st := [am_r (some 37)]) hc mb_X4_beginOf mv_X4_beginOf (Or.inl ml_X4_64) rfl rfl (Nat.le_of_ble_eq_true rfl) ⟨Nat.le_refl _, Nat.le_refl _⟩ ⟨Nat.le_refl _, Nat.le_refl _⟩ (show decode cX4_neverSpoils 78 = .ok (.invokestatic 64, 3) by decide +kernel) ?_
  rintro _ _ ⟨x, σ', rfl, rfl, hq⟩ _
  exact (k x σ' hq)
theorem S_X4_neverSpoils_81 {G : am_G} {d : Nat} {Q : Int → am_D → Prop} {σ : am_D} {v3 : Int} {v4 : Int} {s1 : Int} {s0 : Option Nat} {Q' : am_D → Prop} (hc : am_MV G d mX10_put [am_r s0, am_i s1, am_i v3] σ Q') (k : ∀ σ' : am_D, Q' σ' → am_X (am_FI G (d + 1) Q) mX4_neverSpoils (0, 0) 85 [some (am_r (some 31)), none, none, some (am_i v3), some (am_i v4)] [] (am_K0, σ')) : am_X (am_FI G (d + 1) Q) mX4_neverSpoils (0, 0) 81 [some (am_r (some 31)), none, none, some (am_i v3), some (am_i v4)] [am_i s1, am_r s0] (am_K0, σ) := by
  refine am_r_iload_n (nx := 82) rfl rfl (show decode cX4_neverSpoils 81 = .ok (.iload_n 3, 1) by decide +kernel) rfl ?_
  refine am_r_callS (as := [am_r s0, am_i s1, am_i v3]) (st := []) hc mb_X10_put mv_X10_put (Or.inr ⟨_, ml_X4_68⟩) rfl rfl (Nat.le_of_ble_eq_true rfl) ⟨Nat.le_refl _, Nat.le_refl _⟩ ⟨Nat.le_refl _, Nat.le_refl _⟩ (show decode cX4_neverSpoils 82 = .ok (.invokestatic 68, 3) by decide +kernel) ?_
  rintro _ _ ⟨σ', rfl, rfl, hq⟩ _
  exact (k σ' hq)
theorem S_X4_neverSpoils_85 {G : am_G} {d : Nat} {Q : Int → am_D → Prop} {σ : am_D} {v3 : Int} {v4 : Int} {Q' : am_D → Prop} (hc : am_MV G d mX4_asOuter [am_r (some 31), am_i v4] σ Q') (k : ∀ σ' : am_D, Q' σ' → am_X (am_FI G (d + 1) Q) mX4_neverSpoils (0, 0) 91 [some (am_r (some 31)), none, none, some (am_i v3), some (am_i v4)] [] (am_K0, σ')) : am_X (am_FI G (d + 1) Q) mX4_neverSpoils (0, 0) 85 [some (am_r (some 31)), none, none, some (am_i v3), some (am_i v4)] [] (am_K0, σ) := by
  refine am_r_aload_n (nx := 86) rfl rfl (show decode cX4_neverSpoils 85 = .ok (.aload_n 0, 1) by decide +kernel) rfl ?_
  refine am_r_iload (nx := 88) rfl (show decode cX4_neverSpoils 86 = .ok (.iload 4, 2) by decide +kernel) rfl ?_
  refine am_r_callV (as := [am_i v4]) (st := []) hc mb_X4_asOuter mv_X4_asOuter (Or.inl ml_X4_72) (ob_31) (by omega) (r := (RX4, TX4, 12)) rfl rfl rfl rfl (Nat.le_of_ble_eq_true rfl) ⟨Nat.le_refl _, Nat.le_refl _⟩ ⟨Nat.le_refl _, Nat.le_refl _⟩ (show decode cX4_neverSpoils 88 = .ok (.invokevirtual 72, 3) by decide +kernel) ?_
  rintro _ _ ⟨σ', rfl, rfl, hq⟩ _
  exact (k σ' hq)
theorem S_X4_neverSpoils_91 {G : am_G} {d : Nat} {Q : Int → am_D → Prop} {σ : am_D} {v3 : Int} {v4 : Int} {Q' : am_D → Prop} (hc : am_MV G d mX4_asInner [am_r (some 31), am_i v4] σ Q') (k : ∀ σ' : am_D, Q' σ' → am_X (am_FI G (d + 1) Q) mX4_neverSpoils (0, 0) 97 [some (am_r (some 31)), none, none, some (am_i v3), some (am_i v4)] [] (am_K0, σ')) : am_X (am_FI G (d + 1) Q) mX4_neverSpoils (0, 0) 91 [some (am_r (some 31)), none, none, some (am_i v3), some (am_i v4)] [] (am_K0, σ) := by
  refine am_r_aload_n (nx := 92) rfl rfl (show decode cX4_neverSpoils 91 = .ok (.aload_n 0, 1) by decide +kernel) rfl ?_
  refine am_r_iload (nx := 94) rfl (show decode cX4_neverSpoils 92 = .ok (.iload 4, 2) by decide +kernel) rfl ?_
  refine am_r_callV (as := [am_i v4]) (st := []) hc mb_X4_asInner mv_X4_asInner (Or.inl ml_X4_76) (ob_31) (by omega) (r := (RX4, TX4, 12)) rfl rfl rfl rfl (Nat.le_of_ble_eq_true rfl) ⟨Nat.le_refl _, Nat.le_refl _⟩ ⟨Nat.le_refl _, Nat.le_refl _⟩ (show decode cX4_neverSpoils 94 = .ok (.invokevirtual 76, 3) by decide +kernel) ?_
  rintro _ _ ⟨σ', rfl, rfl, hq⟩ _
  exact (k σ' hq)
theorem S_X4_neverSpoils_97 {G : am_G} {d : Nat} {Q : Int → am_D → Prop} {σ : am_D} {v3 : Int} {v4 : Int} {Q' : Int → am_D → Prop} (hc : am_MI G d mX4_stateOf [am_i v4] σ Q') (k : ∀ (x : Int) (σ' : am_D), Q' x σ' → am_X (am_FI G (d + 1) Q) mX4_neverSpoils (0, 0) 111 [some (am_r (some 31)), none, none, some (am_i v3), some (am_i v4)] [am_i x, am_r (some 38), am_i v3, am_r (some 40)] (am_K0, σ')) : am_X (am_FI G (d + 1) Q) mX4_neverSpoils (0, 0) 97 [some (am_r (some 31)), none, none, some (am_i v3), some (am_i v4)] [] (am_K0, σ) := by
  refine am_r_aload_n (nx := 98) rfl rfl (show decode cX4_neverSpoils 97 = .ok (.aload_n 0, 1) by decide +kernel) rfl ?_
  refine am_r_getF (nx := 101) 7 cw4 (by decide) rfl (Or.inl fl_X4_35) (ob_31) (fn_31_7) (show decode cX4_neverSpoils 98 = .ok (.getfield 35, 3) by decide +kernel) rfl ?_
  refine am_r_iload_n (nx := 102) rfl rfl (show decode cX4_neverSpoils 101 = .ok (.iload_n 3, 1) by decide +kernel) rfl ?_
  refine am_r_aload_n (nx := 103) rfl rfl (show decode cX4_neverSpoils 102 = .ok (.aload_n 0, 1) by decide +kernel) rfl ?_
  refine am_r_getF (nx := 106) 5 cw4 (by decide) rfl (Or.inl fl_X4_29) (ob_31) (fn_31_5) (show decode cX4_neverSpoils 103 = .ok (.getfield 29, 3) by decide +kernel) rfl ?_
  refine am_r_iload (nx := 108) rfl (show decode cX4_neverSpoils 106 = .ok (.iload 4, 2) by decide +kernel) rfl ?_
  refine am_r_callS (as := [am_i v4]) (st := [am_r (some 38), am_i v3, am_r (some 40)]) hc mb_X4_stateOf mv_X4_stateOf (Or.inl ml_X4_79) rfl rfl (Nat.le_of_ble_eq_true rfl) ⟨Nat.le_refl _, Nat.le_refl _⟩ ⟨Nat.le_refl _, Nat.le_refl _⟩ (show decode cX4_neverSpoils 108 = .ok (.invokestatic 79, 3) by decide +kernel) ?_
  rintro _ _ ⟨x, σ', rfl, rfl, hq⟩ _
  exact (k x σ' hq)
theorem S_X4_neverSpoils_111 {G : am_G} {d : Nat} {Q : Int → am_D → Prop} {σ : am_D} {v3 : Int} {v4 : Int} {s1 : Int} {s3 : Int} {s2 : Option Nat} {Q' : Int → am_D → Prop} {s0 : Option Nat} (hc : am_MI G d mX10_at [am_r s2, am_i s3] σ Q') (k : ∀ (x : Int) (σ' : am_D), Q' x σ' → am_X (am_FI G (d + 1) Q) mX4_neverSpoils (0, 0) 114 [some (am_r (some 31)), none, none, some (am_i v3), some (am_i v4)] [am_i x, am_i s1, am_r s0] (am_K0, σ')) : am_X (am_FI G (d + 1) Q) mX4_neverSpoils (0, 0) 111 [some (am_r (some 31)), none, none, some (am_i v3), some (am_i v4)] [am_i s3, am_r s2, am_i s1, am_r s0] (am_K0, σ) := by
  refine am_r_callS (as := [am_r s2, am_i s3]) (st := [am_i s1, am_r s0]) hc mb_X10_at mv_X10_at (Or.inr ⟨_, ml_X4_56⟩) rfl rfl (Nat.le_of_ble_eq_true rfl) ⟨Nat.le_refl _, Nat.le_refl _⟩ ⟨Nat.le_refl _, Nat.le_refl _⟩ (show decode cX4_neverSpoils 111 = .ok (.invokestatic 56, 3) by decide +kernel) ?_
  rintro _ _ ⟨x, σ', rfl, rfl, hq⟩ _
  exact (k x σ' hq)
theorem S_X4_neverSpoils_114 {G : am_G} {d : Nat} {Q : Int → am_D → Prop} {σ : am_D} {v3 : Int} {v4 : Int} {s1 : Int} {s2 : Int} {s0 : Option Nat} {Q' : am_D → Prop} (hc : am_MV G d mX10_put [am_r s0, am_i s1, am_i s2] σ Q') (k : ∀ σ' : am_D, Q' σ' → am_X (am_FI G (d + 1) Q) mX4_neverSpoils (0, 0) 117 [some (am_r (some 31)), none, none, some (am_i v3), some (am_i v4)] [] (am_K0, σ')) : am_X (am_FI G (d + 1) Q) mX4_neverSpoils (0, 0) 114 [some (am_r (some 31)), none, none, some (am_i v3), some (am_i v4)] [am_i s2, am_i s1, am_r s0] (am_K0, σ) := by
  refine am_r_callS (as := [am_r s0, am_i s1, am_i s2]) (st := []) hc mb_X10_put mv_X10_put (Or.inr ⟨_, ml_X4_68⟩) rfl rfl (Nat.le_of_ble_eq_true rfl) ⟨Nat.le_refl _, Nat.le_refl _⟩ ⟨Nat.le_refl _, Nat.le_refl _⟩ (show decode cX4_neverSpoils 114 = .ok (.invokestatic 68, 3) by decide +kernel) ?_
  rintro _ _ ⟨σ', rfl, rfl, hq⟩ _
  exact (k σ' hq)
theorem S_X4_neverSpoils_117 {G : am_G} {d : Nat} {Q : Int → am_D → Prop} {σ : am_D} {v3 : Int} {v4 : Int} {Q' : Int → am_D → Prop} (hc : am_MI G d mX4_stateOf [am_i v4] σ Q') (k : ∀ (x : Int) (σ' : am_D), Q' x σ' → am_X (am_FI G (d + 1) Q) mX4_neverSpoils (0, 0) 126 [some (am_r (some 31)), none, none, some (am_i v3), none] [am_i x, am_r (some 38)] (am_K0, σ')) : am_X (am_FI G (d + 1) Q) mX4_neverSpoils (0, 0) 117 [some (am_r (some 31)), none, none, some (am_i v3), some (am_i v4)] [] (am_K0, σ) := by
  refine am_r_aload_n (nx := 118) rfl rfl (show decode cX4_neverSpoils 117 = .ok (.aload_n 0, 1) by decide +kernel) rfl ?_
  refine am_r_getF (nx := 121) 5 cw4 (by decide) rfl (Or.inl fl_X4_29) (ob_31) (fn_31_5) (show decode cX4_neverSpoils 118 = .ok (.getfield 29, 3) by decide +kernel) rfl ?_
  refine am_r_iload (nx := 123) rfl (show decode cX4_neverSpoils 121 = .ok (.iload 4, 2) by decide +kernel) rfl ?_
  refine am_r_callS (as := [am_i v4]) (st := [am_r (some 38)]) hc mb_X4_stateOf mv_X4_stateOf (Or.inl ml_X4_79) rfl rfl (Nat.le_of_ble_eq_true rfl) ⟨Nat.le_refl _, Nat.le_refl _⟩ ⟨Nat.le_refl _, Nat.le_refl _⟩ (show decode cX4_neverSpoils 123 = .ok (.invokestatic 79, 3) by decide +kernel) ?_
  rintro _ _ ⟨x, σ', rfl, rfl, hq⟩ _
  exact am_x_fg [4] (k x σ' hq)
theorem S_X4_neverSpoils_126 {G : am_G} {d : Nat} {Q : Int → am_D → Prop} {σ : am_D} {v3 : Int} {s1 : Int} {s0 : Option Nat} {Q' : am_D → Prop} (hc : am_MV G d mX10_put [am_r s0, am_i s1, am_i v3] σ Q') (k : ∀ σ' : am_D, Q' σ' → am_X (am_FI G (d + 1) Q) mX4_neverSpoils (0, 0) 130 [some (am_r (some 31)), none, none, some (am_i v3), none] [] (am_K0, σ')) : am_X (am_FI G (d + 1) Q) mX4_neverSpoils (0, 0) 126 [some (am_r (some 31)), none, none, some (am_i v3), none] [am_i s1, am_r s0] (am_K0, σ) := by
  refine am_r_iload_n (nx := 127) rfl rfl (show decode cX4_neverSpoils 126 = .ok (.iload_n 3, 1) by decide +kernel) rfl ?_
  refine am_r_callS (as := [am_r s0, am_i s1, am_i v3]) (st := []) hc mb_X10_put mv_X10_put (Or.inr ⟨_, ml_X4_68⟩) rfl rfl (Nat.le_of_ble_eq_true rfl) ⟨Nat.le_refl _, Nat.le_refl _⟩ ⟨Nat.le_refl _, Nat.le_refl _⟩ (show decode cX4_neverSpoils 127 = .ok (.invokestatic 68, 3) by decide +kernel) ?_
  rintro _ _ ⟨σ', rfl, rfl, hq⟩ _
  exact (k σ' hq)
theorem S_X4_neverSpoils_130 {G : am_G} {d : Nat} {Q : Int → am_D → Prop} {σ : am_D} {v3 : Int}  (k : am_X (am_FI G (d + 1) Q) mX4_neverSpoils (0, 0) 16 [some (am_r (some 31)), none, none, some (am_i (v3 + 1)), none] [] (am_K0, σ)) : am_X (am_FI G (d + 1) Q) mX4_neverSpoils (0, 0) 130 [some (am_r (some 31)), none, none, some (am_i v3), none] [] (am_K0, σ) := by
  refine am_r_iinc (nx := 133) rfl rfl (show decode cX4_neverSpoils 130 = .ok (.iinc 3 1, 3) by decide +kernel) rfl ?_
  refine am_r_goto (tg := 16) (show decode cX4_neverSpoils 133 = .ok (.goto (-117), 3) by decide +kernel) (by decide) ?_
  exact k
theorem S_X4_neverSpoils_136 {G : am_G} {d : Nat} {Q : Int → am_D → Prop} {σ : am_D}   (k : Q 1 σ) : am_X (am_FI G (d + 1) Q) mX4_neverSpoils (0, 0) 136 [none, none, none, none, none] [] (am_K0, σ) := by
  refine am_r_iconst (nx := 137) (show decode cX4_neverSpoils 136 = .ok (.iconst 1, 1) by decide +kernel) rfl ?_
  exact am_r_iret rfl rfl (show decode cX4_neverSpoils 137 = .ok (.ireturn, 1) by decide +kernel) ⟨_, _, rfl, rfl, k⟩
theorem S_X4_start_0 {G : am_G} {d : Nat} {Q : am_D → Prop} {σ : am_D} {v1 : Option Nat} {v2 : Option Nat}  (k : am_X (am_FV G (d + 1) Q) mX4_start (0, 0) 5 [some (am_r (some 31)), none, some (am_r v2), none] [] (am_K0, (am_pR σ 31 10 v1))) : am_X (am_FV G (d + 1) Q) mX4_start (0, 0) 0 [some (am_r (some 31)), some (am_r v1), some (am_r v2), none] [] (am_K0, σ) := by
  refine am_r_aload_n (nx := 1) rfl rfl (show decode cX4_start 0 = .ok (.aload_n 0, 1) by decide +kernel) rfl ?_
  refine am_r_aload_n (nx := 2) rfl rfl (show decode cX4_start 1 = .ok (.aload_n 1, 1) by decide +kernel) rfl ?_
  refine am_r_putR (nx := 5) (C2 := "TreeStream$Machine") 10 cw4 (by decide) rfl (Or.inl fl_X4_82) (ob_31) rfl rfl (show decode cX4_start 2 = .ok (.putfield 82, 3) by decide +kernel) rfl ?_
  exact am_x_fg [1] k
theorem S_X4_start_5 {G : am_G} {d : Nat} {Q : am_D → Prop} {σ : am_D} {v2 : Option Nat}  (k : am_X (am_FV G (d + 1) Q) mX4_start (0, 0) 10 [some (am_r (some 31)), none, some (am_r v2), none] [] (am_K0, (am_pR σ 31 11 v2))) : am_X (am_FV G (d + 1) Q) mX4_start (0, 0) 5 [some (am_r (some 31)), none, some (am_r v2), none] [] (am_K0, σ) := by
  refine am_r_aload_n (nx := 6) rfl rfl (show decode cX4_start 5 = .ok (.aload_n 0, 1) by decide +kernel) rfl ?_
  refine am_r_aload_n (nx := 7) rfl rfl (show decode cX4_start 6 = .ok (.aload_n 2, 1) by decide +kernel) rfl ?_
  refine am_r_putR (nx := 10) (C2 := "TreeStream$Machine") 11 cw4 (by decide) rfl (Or.inl fl_X4_86) (ob_31) rfl rfl (show decode cX4_start 7 = .ok (.putfield 86, 3) by decide +kernel) rfl ?_
  exact k
theorem S_X4_start_10 {G : am_G} {d : Nat} {Q : am_D → Prop} {σ : am_D} {v2 : Option Nat} {Q' : am_D → Prop} (hc : am_MV G d mX1_learn [am_r (some 32), am_r v2] σ Q') (k : ∀ σ' : am_D, Q' σ' → am_X (am_FV G (d + 1) Q) mX4_start (0, 0) 18 [some (am_r (some 31)), none, none, none] [] (am_K0, σ')) : am_X (am_FV G (d + 1) Q) mX4_start (0, 0) 10 [some (am_r (some 31)), none, some (am_r v2), none] [] (am_K0, σ) := by
  refine am_r_aload_n (nx := 11) rfl rfl (show decode cX4_start 10 = .ok (.aload_n 0, 1) by decide +kernel) rfl ?_
  refine am_r_getF (nx := 14) 0 cw4 (by decide) rfl (Or.inl fl_X4_14) (ob_31) (fn_31_0) (show decode cX4_start 11 = .ok (.getfield 14, 3) by decide +kernel) rfl ?_
  refine am_r_aload_n (nx := 15) rfl rfl (show decode cX4_start 14 = .ok (.aload_n 2, 1) by decide +kernel) rfl ?_
  refine am_r_callV (as := [am_r v2]) (st := []) hc mb_X1_learn mv_X1_learn (Or.inl ml_X4_89) (ob_32) (by omega) (r := (RX1, TX1, 2)) rfl rfl rfl rfl (Nat.le_of_ble_eq_true rfl) ⟨Nat.le_refl _, Nat.le_refl _⟩ ⟨Nat.le_refl _, Nat.le_refl _⟩ (show decode cX4_start 15 = .ok (.invokevirtual 89, 3) by decide +kernel) ?_
  rintro _ _ ⟨σ', rfl, rfl, hq⟩ _
  exact am_x_fg [2] (k σ' hq)
theorem S_X4_start_18 {G : am_G} {d : Nat} {Q : am_D → Prop} {σ : am_D}   (k : am_X (am_FV G (d + 1) Q) mX4_start (0, 0) 23 [some (am_r (some 31)), none, none, none] [] (am_K0, (am_pI σ 31 3 0))) : am_X (am_FV G (d + 1) Q) mX4_start (0, 0) 18 [some (am_r (some 31)), none, none, none] [] (am_K0, σ) := by
  refine am_r_aload_n (nx := 19) rfl rfl (show decode cX4_start 18 = .ok (.aload_n 0, 1) by decide +kernel) rfl ?_
  refine am_r_iconst (nx := 20) (show decode cX4_start 19 = .ok (.iconst 0, 1) by decide +kernel) rfl ?_
  refine am_r_putI (nx := 23) 3 cw4 (by decide) rfl (Or.inl fl_X4_52) (ob_31) rfl (Or.inl rfl) (show decode cX4_start 20 = .ok (.putfield 52, 3) by decide +kernel) rfl ?_
  exact k
theorem S_X4_start_23 {G : am_G} {d : Nat} {Q : am_D → Prop} {σ : am_D}   (k : am_X (am_FV G (d + 1) Q) mX4_start (0, 0) 25 [some (am_r (some 31)), none, none, some (am_i 0)] [] (am_K0, σ)) : am_X (am_FV G (d + 1) Q) mX4_start (0, 0) 23 [some (am_r (some 31)), none, none, none] [] (am_K0, σ) := by
  refine am_r_iconst (nx := 24) (show decode cX4_start 23 = .ok (.iconst 0, 1) by decide +kernel) rfl ?_
  refine am_r_istore_n (nx := 25) rfl (by decide) rfl (show decode cX4_start 24 = .ok (.istore_n 3, 1) by decide +kernel) rfl ?_
  exact k
theorem S_X4_start_25 {G : am_G} {d : Nat} {Q : am_D → Prop} {σ : am_D} {v3 : Int} (hr1 : -2147483648 ≤ v3 ∧ v3 ≤ 2147483647) (k1 : 4096 ≤ v3 → am_X (am_FV G (d + 1) Q) mX4_start (0, 0) 47 [some (am_r (some 31)), none, none, none] [] (am_K0, σ)) (k2 : ¬ (4096 ≤ v3) → am_X (am_FV G (d + 1) Q) mX4_start (0, 0) 34 [some (am_r (some 31)), none, none, some (am_i v3)] [] (am_K0, σ)) : am_X (am_FV G (d + 1) Q) mX4_start (0, 0) 25 [some (am_r (some 31)), none, none, some (am_i v3)] [] (am_K0, σ) := by
  refine am_r_iload_n (nx := 26) rfl rfl (show decode cX4_start 25 = .ok (.iload_n 3, 1) by decide +kernel) rfl ?_
  refine am_r_aload_n (nx := 27) rfl rfl (show decode cX4_start 26 = .ok (.aload_n 0, 1) by decide +kernel) rfl ?_
  refine am_r_getF (nx := 30) 1 cw4 (by decide) rfl (Or.inl fl_X4_18) (ob_31) (fn_31_1) (show decode cX4_start 27 = .ok (.getfield 18, 3) by decide +kernel) rfl ?_
  refine am_r_alen (nx := 31) (sh_35) (by omega) (by omega) (show decode cX4_start 30 = .ok (.arraylength, 1) by decide +kernel) rfl ?_
  refine am_r_icmp_ge (tg := 47) (nx := 34) (show decode cX4_start 31 = .ok (.if_icmp .ge 16, 3) by decide +kernel) (by decide) rfl hr1 (by omega) ?_ ?_
  · exact fun q => am_x_fg [3] (k1 q)
  · exact fun q => k2 q
theorem S_X4_start_34 {G : am_G} {d : Nat} {Q : am_D → Prop} {σ : am_D} {v3 : Int} (hi1 : 0 ≤ v3) (hj2 : v3 < 4096) (k : am_X (am_FV G (d + 1) Q) mX4_start (0, 0) 41 [some (am_r (some 31)), none, none, some (am_i v3)] [] (am_K0, (am_pI σ 35 v3 0))) : am_X (am_FV G (d + 1) Q) mX4_start (0, 0) 34 [some (am_r (some 31)), none, none, some (am_i v3)] [] (am_K0, σ) := by
  refine am_r_aload_n (nx := 35) rfl rfl (show decode cX4_start 34 = .ok (.aload_n 0, 1) by decide +kernel) rfl ?_
  refine am_r_getF (nx := 38) 1 cw4 (by decide) rfl (Or.inl fl_X4_18) (ob_31) (fn_31_1) (show decode cX4_start 35 = .ok (.getfield 18, 3) by decide +kernel) rfl ?_
  refine am_r_iload_n (nx := 39) rfl rfl (show decode cX4_start 38 = .ok (.iload_n 3, 1) by decide +kernel) rfl ?_
  refine am_r_iconst (nx := 40) (show decode cX4_start 39 = .ok (.iconst 0, 1) by decide +kernel) rfl ?_
  refine am_r_zast (nx := 41) (sh_35) (am_shle (sh_35)) hi1 hj2 (by omega) (show decode cX4_start 40 = .ok (.bastore, 1) by decide +kernel) rfl ?_
  exact k
theorem S_X4_start_41 {G : am_G} {d : Nat} {Q : am_D → Prop} {σ : am_D} {v3 : Int}  (k : am_X (am_FV G (d + 1) Q) mX4_start (0, 0) 25 [some (am_r (some 31)), none, none, some (am_i (v3 + 1))] [] (am_K0, σ)) : am_X (am_FV G (d + 1) Q) mX4_start (0, 0) 41 [some (am_r (some 31)), none, none, some (am_i v3)] [] (am_K0, σ) := by
  refine am_r_iinc (nx := 44) rfl rfl (show decode cX4_start 41 = .ok (.iinc 3 1, 3) by decide +kernel) rfl ?_
  refine am_r_goto (tg := 25) (show decode cX4_start 44 = .ok (.goto (-19), 3) by decide +kernel) (by decide) ?_
  exact k
theorem S_X4_start_47 {G : am_G} {d : Nat} {Q : am_D → Prop} {σ : am_D} {Q' : am_D → Prop} (hc : am_MV G d mJ7_fill_53178 [am_r (some 37), am_i (-1)] σ Q') (k : ∀ σ' : am_D, Q' σ' → am_X (am_FV G (d + 1) Q) mX4_start (0, 0) 55 [some (am_r (some 31)), none, none, none] [] (am_K0, σ')) : am_X (am_FV G (d + 1) Q) mX4_start (0, 0) 47 [some (am_r (some 31)), none, none, none] [] (am_K0, σ) := by
  refine am_r_aload_n (nx := 48) rfl rfl (show decode cX4_start 47 = .ok (.aload_n 0, 1) by decide +kernel) rfl ?_
  refine am_r_getF (nx := 51) 4 cw4 (by decide) rfl (Or.inl fl_X4_26) (ob_31) (fn_31_4) (show decode cX4_start 48 = .ok (.getfield 26, 3) by decide +kernel) rfl ?_
  refine am_r_iconst (nx := 52) (show decode cX4_start 51 = .ok (.iconst (-1), 1) by decide +kernel) rfl ?_
  refine am_r_callS (as := [am_r (some 37), am_i (-1)]) (st := []) hc mb_J7_fill_53178 mv_J7_fill_53178 (Or.inl ml_X4_93) rfl rfl (Nat.le_of_ble_eq_true rfl) ⟨Nat.le_refl _, Nat.le_refl _⟩ ⟨Nat.le_refl _, Nat.le_refl _⟩ (show decode cX4_start 52 = .ok (.invokestatic 93, 3) by decide +kernel) ?_
  rintro _ _ ⟨σ', rfl, rfl, hq⟩ _
  exact (k σ' hq)
theorem S_X4_start_55 {G : am_G} {d : Nat} {Q : am_D → Prop} {σ : am_D} {Q' : am_D → Prop} (hc : am_MV G d mJ7_fill_53178 [am_r (some 38), am_i (-1)] σ Q') (k : ∀ σ' : am_D, Q' σ' → am_X (am_FV G (d + 1) Q) mX4_start (0, 0) 63 [none, none, none, none] [] (am_K0, σ')) : am_X (am_FV G (d + 1) Q) mX4_start (0, 0) 55 [some (am_r (some 31)), none, none, none] [] (am_K0, σ) := by
  refine am_r_aload_n (nx := 56) rfl rfl (show decode cX4_start 55 = .ok (.aload_n 0, 1) by decide +kernel) rfl ?_
  refine am_r_getF (nx := 59) 5 cw4 (by decide) rfl (Or.inl fl_X4_29) (ob_31) (fn_31_5) (show decode cX4_start 56 = .ok (.getfield 29, 3) by decide +kernel) rfl ?_
  refine am_r_iconst (nx := 60) (show decode cX4_start 59 = .ok (.iconst (-1), 1) by decide +kernel) rfl ?_
  refine am_r_callS (as := [am_r (some 38), am_i (-1)]) (st := []) hc mb_J7_fill_53178 mv_J7_fill_53178 (Or.inl ml_X4_93) rfl rfl (Nat.le_of_ble_eq_true rfl) ⟨Nat.le_refl _, Nat.le_refl _⟩ ⟨Nat.le_refl _, Nat.le_refl _⟩ (show decode cX4_start 60 = .ok (.invokestatic 93, 3) by decide +kernel) ?_
  rintro _ _ ⟨σ', rfl, rfl, hq⟩ _
  exact am_x_fg [0] (k σ' hq)
theorem S_X4_start_63 {G : am_G} {d : Nat} {Q : am_D → Prop} {σ : am_D}   (k : Q σ) : am_X (am_FV G (d + 1) Q) mX4_start (0, 0) 63 [none, none, none, none] [] (am_K0, σ) := by
  exact am_r_vret rfl (show decode cX4_start 63 = .ok (.return_, 1) by decide +kernel) ⟨_, rfl, rfl, k⟩
theorem S_X4_beginOf_0 {G : am_G} {d : Nat} {Q : Int → am_D → Prop} {σ : am_D} {v0 : Int}  (k : Q (am_shr v0 10) σ) : am_X (am_FI G (d + 1) Q) mX4_beginOf (0, 0) 0 [some (am_i v0)] [] (am_K0, σ) := by
  refine am_r_iload_n (nx := 1) rfl rfl (show decode cX4_beginOf 0 = .ok (.iload_n 0, 1) by decide +kernel) rfl ?_
  refine am_r_bipush (nx := 3) rfl (show decode cX4_beginOf 1 = .ok (.bipush 10, 2) by decide +kernel) rfl ?_
  refine am_r_ishr (nx := 4) (show decode cX4_beginOf 3 = .ok (.ishr, 1) by decide +kernel) rfl ?_
  exact am_r_iret rfl rfl (show decode cX4_beginOf 4 = .ok (.ireturn, 1) by decide +kernel) ⟨_, _, rfl, rfl, k⟩
theorem S_X4_stateOf_0 {G : am_G} {d : Nat} {Q : Int → am_D → Prop} {σ : am_D} {v0 : Int}  (k : Q (am_and (am_shr v0 8) 3) σ) : am_X (am_FI G (d + 1) Q) mX4_stateOf (0, 0) 0 [some (am_i v0)] [] (am_K0, σ) := by
  refine am_r_iload_n (nx := 1) rfl rfl (show decode cX4_stateOf 0 = .ok (.iload_n 0, 1) by decide +kernel) rfl ?_
  refine am_r_bipush (nx := 3) rfl (show decode cX4_stateOf 1 = .ok (.bipush 8, 2) by decide +kernel) rfl ?_
  refine am_r_ishr (nx := 4) (show decode cX4_stateOf 3 = .ok (.ishr, 1) by decide +kernel) rfl ?_
  refine am_r_iconst (nx := 5) (show decode cX4_stateOf 4 = .ok (.iconst 3, 1) by decide +kernel) rfl ?_
  refine am_r_iand (nx := 6) (show decode cX4_stateOf 5 = .ok (.iand, 1) by decide +kernel) rfl ?_
  exact am_r_iret rfl rfl (show decode cX4_stateOf 6 = .ok (.ireturn, 1) by decide +kernel) ⟨_, _, rfl, rfl, k⟩
theorem S_X4_note_0 {G : am_G} {d : Nat} {Q : am_D → Prop} {σ : am_D} {v1 : Int} {v2 : Int} {v3 : Int}  (k : am_X (am_FV G (d + 1) Q) mX4_note (0, 0) 13 [some (am_r (some 31)), none, none, none, some (am_i (((am_shl v1 10) + (am_shl v2 8)) + v3))] [] (am_K0, σ)) : am_X (am_FV G (d + 1) Q) mX4_note (0, 0) 0 [some (am_r (some 31)), some (am_i v1), some (am_i v2), some (am_i v3), none] [] (am_K0, σ) := by
  refine am_r_iload_n (nx := 1) rfl rfl (show decode cX4_note 0 = .ok (.iload_n 1, 1) by decide +kernel) rfl ?_
  refine am_r_bipush (nx := 3) rfl (show decode cX4_note 1 = .ok (.bipush 10, 2) by decide +kernel) rfl ?_
  refine am_r_ishl (nx := 4) (show decode cX4_note 3 = .ok (.ishl, 1) by decide +kernel) rfl ?_
  refine am_r_iload_n (nx := 5) rfl rfl (show decode cX4_note 4 = .ok (.iload_n 2, 1) by decide +kernel) rfl ?_
  refine am_r_bipush (nx := 7) rfl (show decode cX4_note 5 = .ok (.bipush 8, 2) by decide +kernel) rfl ?_
  refine am_r_ishl (nx := 8) (show decode cX4_note 7 = .ok (.ishl, 1) by decide +kernel) rfl ?_
  refine am_r_iadd (nx := 9) (show decode cX4_note 8 = .ok (.iadd, 1) by decide +kernel) rfl ?_
  refine am_r_iload_n (nx := 10) rfl rfl (show decode cX4_note 9 = .ok (.iload_n 3, 1) by decide +kernel) rfl ?_
  refine am_r_iadd (nx := 11) (show decode cX4_note 10 = .ok (.iadd, 1) by decide +kernel) rfl ?_
  refine am_r_istore (nx := 13) (by decide) rfl (show decode cX4_note 11 = .ok (.istore 4, 2) by decide +kernel) rfl ?_
  exact am_x_fg [1, 2, 3] k
theorem S_X4_note_13 {G : am_G} {d : Nat} {Q : am_D → Prop} {σ : am_D} {v4 : Int} (hr1 : -2147483648 ≤ v4 ∧ v4 ≤ 2147483647) (k1 : v4 < 0 → am_X (am_FV G (d + 1) Q) mX4_note (0, 0) 69 [none, none, none, none, none] [] (am_K0, σ)) (k2 : ¬ (v4 < 0) → am_X (am_FV G (d + 1) Q) mX4_note (0, 0) 18 [some (am_r (some 31)), none, none, none, some (am_i v4)] [] (am_K0, σ)) : am_X (am_FV G (d + 1) Q) mX4_note (0, 0) 13 [some (am_r (some 31)), none, none, none, some (am_i v4)] [] (am_K0, σ) := by
  refine am_r_iload (nx := 15) rfl (show decode cX4_note 13 = .ok (.iload 4, 2) by decide +kernel) rfl ?_
  refine am_r_if_lt (tg := 69) (nx := 18) (show decode cX4_note 15 = .ok (.ifCond .lt 54, 3) by decide +kernel) (by decide) rfl hr1 ?_ ?_
  · exact fun q => am_x_fg [0, 4] (k1 q)
  · exact fun q => k2 q
theorem S_X4_note_18 {G : am_G} {d : Nat} {Q : am_D → Prop} {σ : am_D} {v4 : Int} (hr1 : -2147483648 ≤ v4 ∧ v4 ≤ 2147483647) (k1 : 4096 ≤ v4 → am_X (am_FV G (d + 1) Q) mX4_note (0, 0) 69 [none, none, none, none, none] [] (am_K0, σ)) (k2 : ¬ (4096 ≤ v4) → am_X (am_FV G (d + 1) Q) mX4_note (0, 0) 28 [some (am_r (some 31)), none, none, none, some (am_i v4)] [] (am_K0, σ)) : am_X (am_FV G (d + 1) Q) mX4_note (0, 0) 18 [some (am_r (some 31)), none, none, none, some (am_i v4)] [] (am_K0, σ) := by
  refine am_r_iload (nx := 20) rfl (show decode cX4_note 18 = .ok (.iload 4, 2) by decide +kernel) rfl ?_
  refine am_r_aload_n (nx := 21) rfl rfl (show decode cX4_note 20 = .ok (.aload_n 0, 1) by decide +kernel) rfl ?_
  refine am_r_getF (nx := 24) 1 cw4 (by decide) rfl (Or.inl fl_X4_18) (ob_31) (fn_31_1) (show decode cX4_note 21 = .ok (.getfield 18, 3) by decide +kernel) rfl ?_
  refine am_r_alen (nx := 25) (sh_35) (by omega) (by omega) (show decode cX4_note 24 = .ok (.arraylength, 1) by decide +kernel) rfl ?_
  refine am_r_icmp_ge (tg := 69) (nx := 28) (show decode cX4_note 25 = .ok (.if_icmp .ge 44, 3) by decide +kernel) (by decide) rfl hr1 (by omega) ?_ ?_
  · exact fun q => am_x_fg [0, 4] (k1 q)
  · exact fun q => k2 q
theorem S_X4_note_28 {G : am_G} {d : Nat} {Q : am_D → Prop} {σ : am_D} {v4 : Int} (hi1 : 0 ≤ v4) (hj2 : v4 < 4096) (hr3 : -2147483648 ≤ (σ.1 35 v4) ∧ (σ.1 35 v4) ≤ 2147483647) (k1 : ¬ (σ.1 35 v4) = 0 → am_X (am_FV G (d + 1) Q) mX4_note (0, 0) 69 [none, none, none, none, none] [] (am_K0, σ)) (k2 : ¬ (¬ (σ.1 35 v4) = 0) → am_X (am_FV G (d + 1) Q) mX4_note (0, 0) 38 [some (am_r (some 31)), none, none, none, some (am_i v4)] [] (am_K0, σ)) : am_X (am_FV G (d + 1) Q) mX4_note (0, 0) 28 [some (am_r (some 31)), none, none, none, some (am_i v4)] [] (am_K0, σ) := by
  refine am_r_aload_n (nx := 29) rfl rfl (show decode cX4_note 28 = .ok (.aload_n 0, 1) by decide +kernel) rfl ?_
  refine am_r_getF (nx := 32) 1 cw4 (by decide) rfl (Or.inl fl_X4_18) (ob_31) (fn_31_1) (show decode cX4_note 29 = .ok (.getfield 18, 3) by decide +kernel) rfl ?_
  refine am_r_iload (nx := 34) rfl (show decode cX4_note 32 = .ok (.iload 4, 2) by decide +kernel) rfl ?_
  refine am_r_zald (nx := 35) (sh_35) (am_shle (sh_35)) hi1 hj2 (show decode cX4_note 34 = .ok (.baload, 1) by decide +kernel) rfl ?_
  refine am_r_if_ne (tg := 69) (nx := 38) (show decode cX4_note 35 = .ok (.ifCond .ne 34, 3) by decide +kernel) (by decide) rfl hr3 ?_ ?_
  · exact fun q => am_x_fg [0, 4] (k1 q)
  · exact fun q => k2 q
theorem S_X4_note_38 {G : am_G} {d : Nat} {Q : am_D → Prop} {σ : am_D} {v4 : Int} (hi1 : 0 ≤ v4) (hj2 : v4 < 4096) (k : am_X (am_FV G (d + 1) Q) mX4_note (0, 0) 46 [some (am_r (some 31)), none, none, none, some (am_i v4)] [] (am_K0, (am_pI σ 35 v4 1))) : am_X (am_FV G (d + 1) Q) mX4_note (0, 0) 38 [some (am_r (some 31)), none, none, none, some (am_i v4)] [] (am_K0, σ) := by
  refine am_r_aload_n (nx := 39) rfl rfl (show decode cX4_note 38 = .ok (.aload_n 0, 1) by decide +kernel) rfl ?_
  refine am_r_getF (nx := 42) 1 cw4 (by decide) rfl (Or.inl fl_X4_18) (ob_31) (fn_31_1) (show decode cX4_note 39 = .ok (.getfield 18, 3) by decide +kernel) rfl ?_
  refine am_r_iload (nx := 44) rfl (show decode cX4_note 42 = .ok (.iload 4, 2) by decide +kernel) rfl ?_
  refine am_r_iconst (nx := 45) (show decode cX4_note 44 = .ok (.iconst 1, 1) by decide +kernel) rfl ?_
  refine am_r_zast (nx := 46) (sh_35) (am_shle (sh_35)) hi1 hj2 (by omega) (show decode cX4_note 45 = .ok (.bastore, 1) by decide +kernel) rfl ?_
  exact k
theorem S_X4_note_46 {G : am_G} {d : Nat} {Q : am_D → Prop} {σ : am_D} {v4 : Int} {Q' : am_D → Prop} (hc : am_MV G d mX10_put [am_r (some 36), am_i (σ.1 31 3), am_i v4] σ Q') (k : ∀ σ' : am_D, Q' σ' → am_X (am_FV G (d + 1) Q) mX4_note (0, 0) 59 [some (am_r (some 31)), none, none, none, none] [] (am_K0, σ')) : am_X (am_FV G (d + 1) Q) mX4_note (0, 0) 46 [some (am_r (some 31)), none, none, none, some (am_i v4)] [] (am_K0, σ) := by
  refine am_r_aload_n (nx := 47) rfl rfl (show decode cX4_note 46 = .ok (.aload_n 0, 1) by decide +kernel) rfl ?_
  refine am_r_getF (nx := 50) 2 cw4 (by decide) rfl (Or.inl fl_X4_22) (ob_31) (fn_31_2) (show decode cX4_note 47 = .ok (.getfield 22, 3) by decide +kernel) rfl ?_
  refine am_r_aload_n (nx := 51) rfl rfl (show decode cX4_note 50 = .ok (.aload_n 0, 1) by decide +kernel) rfl ?_
  refine am_r_getI (nx := 54) 3 cw4 (by decide) rfl (Or.inl fl_X4_52) (ob_31) (show decode cX4_note 51 = .ok (.getfield 52, 3) by decide +kernel) rfl ?_
  refine am_r_iload (nx := 56) rfl (show decode cX4_note 54 = .ok (.iload 4, 2) by decide +kernel) rfl ?_
  refine am_r_callS (as := [am_r (some 36), am_i (σ.1 31 3), am_i v4]) (st := []) hc mb_X10_put mv_X10_put (Or.inr ⟨_, ml_X4_68⟩) rfl rfl (Nat.le_of_ble_eq_true rfl) ⟨Nat.le_refl _, Nat.le_refl _⟩ ⟨Nat.le_refl _, Nat.le_refl _⟩ (show decode cX4_note 56 = .ok (.invokestatic 68, 3) by decide +kernel) ?_
  rintro _ _ ⟨σ', rfl, rfl, hq⟩ _
  exact am_x_fg [4] (k σ' hq)
theorem S_X4_note_59 {G : am_G} {d : Nat} {Q : am_D → Prop} {σ : am_D}   (k : am_X (am_FV G (d + 1) Q) mX4_note (0, 0) 69 [none, none, none, none, none] [] (am_K0, (am_pI σ 31 3 ((σ.1 31 3) + 1)))) : am_X (am_FV G (d + 1) Q) mX4_note (0, 0) 59 [some (am_r (some 31)), none, none, none, none] [] (am_K0, σ) := by
  refine am_r_aload_n (nx := 60) rfl rfl (show decode cX4_note 59 = .ok (.aload_n 0, 1) by decide +kernel) rfl ?_
  refine am_r_dup (nx := 61) rfl (show decode cX4_note 60 = .ok (.dup, 1) by decide +kernel) rfl ?_
  refine am_r_getI (nx := 64) 3 cw4 (by decide) rfl (Or.inl fl_X4_52) (ob_31) (show decode cX4_note 61 = .ok (.getfield 52, 3) by decide +kernel) rfl ?_
  refine am_r_iconst (nx := 65) (show decode cX4_note 64 = .ok (.iconst 1, 1) by decide +kernel) rfl ?_
  refine am_r_iadd (nx := 66) (show decode cX4_note 65 = .ok (.iadd, 1) by decide +kernel) rfl ?_
  refine am_r_putI (nx := 69) 3 cw4 (by decide) rfl (Or.inl fl_X4_52) (ob_31) rfl (Or.inl rfl) (show decode cX4_note 66 = .ok (.putfield 52, 3) by decide +kernel) rfl ?_
  exact am_x_fg [0] k
theorem S_X4_note_69 {G : am_G} {d : Nat} {Q : am_D → Prop} {σ : am_D}   (k : Q σ) : am_X (am_FV G (d + 1) Q) mX4_note (0, 0) 69 [none, none, none, none, none] [] (am_K0, σ) := by
  exact am_r_vret rfl (show decode cX4_note 69 = .ok (.return_, 1) by decide +kernel) ⟨_, rfl, rfl, k⟩
theorem S_X4_asOuter_0 {G : am_G} {d : Nat} {Q : am_D → Prop} {σ : am_D} {v1 : Int}  (k : am_X (am_FV G (d + 1) Q) mX4_asOuter (0, 0) 2 [some (am_r (some 31)), some (am_i v1), some (am_i 0), none, none, none, none] [] (am_K0, σ)) : am_X (am_FV G (d + 1) Q) mX4_asOuter (0, 0) 0 [some (am_r (some 31)), some (am_i v1), none, none, none, none, none] [] (am_K0, σ) := by
  refine am_r_iconst (nx := 1) (show decode cX4_asOuter 0 = .ok (.iconst 0, 1) by decide +kernel) rfl ?_
  refine am_r_istore_n (nx := 2) rfl (by decide) rfl (show decode cX4_asOuter 1 = .ok (.istore_n 2, 1) by decide +kernel) rfl ?_
  exact k
theorem S_X4_asOuter_2 {G : am_G} {d : Nat} {Q : am_D → Prop} {σ : am_D} {v1 : Int} {v2 : Int} (hr1 : -2147483648 ≤ v2 ∧ v2 ≤ 2147483647) (k1 : 3 ≤ v2 → am_X (am_FV G (d + 1) Q) mX4_asOuter (0, 0) 113 [none, none, none, none, none, none, none] [] (am_K0, σ)) (k2 : ¬ (3 ≤ v2) → am_X (am_FV G (d + 1) Q) mX4_asOuter (0, 0) 7 [some (am_r (some 31)), some (am_i v1), some (am_i v2), none, none, none, none] [] (am_K0, σ)) : am_X (am_FV G (d + 1) Q) mX4_asOuter (0, 0) 2 [some (am_r (some 31)), some (am_i v1), some (am_i v2), none, none, none, none] [] (am_K0, σ) := by
  refine am_r_iload_n (nx := 3) rfl rfl (show decode cX4_asOuter 2 = .ok (.iload_n 2, 1) by decide +kernel) rfl ?_
  refine am_r_iconst (nx := 4) (show decode cX4_asOuter 3 = .ok (.iconst 3, 1) by decide +kernel) rfl ?_
  refine am_r_icmp_ge (tg := 113) (nx := 7) (show decode cX4_asOuter 4 = .ok (.if_icmp .ge 109, 3) by decide +kernel) (by decide) rfl hr1 (by omega) ?_ ?_
  · exact fun q => am_x_fg [0, 1, 2] (k1 q)
  · exact fun q => k2 q
theorem S_X4_asOuter_7 {G : am_G} {d : Nat} {Q : am_D → Prop} {σ : am_D} {v1 : Int} {v2 : Int} {Q' : Int → am_D → Prop} (hc : am_MI G d mX4_stateOf [am_i v1] σ Q') (k : ∀ (x : Int) (σ' : am_D), Q' x σ' → am_X (am_FV G (d + 1) Q) mX4_asOuter (0, 0) 16 [some (am_r (some 31)), some (am_i v1), some (am_i v2), none, none, none, none] [am_i x, am_i v2, am_r (σ.2.2 31 10)] (am_K0, σ')) : am_X (am_FV G (d + 1) Q) mX4_asOuter (0, 0) 7 [some (am_r (some 31)), some (am_i v1), some (am_i v2), none, none, none, none] [] (am_K0, σ) := by
  refine am_r_aload_n (nx := 8) rfl rfl (show decode cX4_asOuter 7 = .ok (.aload_n 0, 1) by decide +kernel) rfl ?_
  refine am_r_getR (nx := 11) 10 cw4 (by decide) rfl (Or.inl fl_X4_82) (ob_31) (show decode cX4_asOuter 8 = .ok (.getfield 82, 3) by decide +kernel) rfl ?_
  refine am_r_iload_n (nx := 12) rfl rfl (show decode cX4_asOuter 11 = .ok (.iload_n 2, 1) by decide +kernel) rfl ?_
  refine am_r_iload_n (nx := 13) rfl rfl (show decode cX4_asOuter 12 = .ok (.iload_n 1, 1) by decide +kernel) rfl ?_
  refine am_r_callS (as := [am_i v1]) (st := [am_i v2, am_r (σ.2.2 31 10)]) hc mb_X4_stateOf mv_X4_stateOf (Or.inl ml_X4_79) rfl rfl (Nat.le_of_ble_eq_true rfl) ⟨Nat.le_refl _, Nat.le_refl _⟩ ⟨Nat.le_refl _, Nat.le_refl _⟩ (show decode cX4_asOuter 13 = .ok (.invokestatic 79, 3) by decide +kernel) ?_
  rintro _ _ ⟨x, σ', rfl, rfl, hq⟩ _
  exact (k x σ' hq)
theorem S_X4_asOuter_16 {G : am_G} {d : Nat} {Q : am_D → Prop} {σ : am_D} {v1 : Int} {v2 : Int} {s1 : Int} {s2 : Int} {s0 : Nat} {Q' : Int → am_D → Prop} (hc : am_MI G d mX2_opensTo [am_r (some s0), am_i s1, am_i s2] σ Q') (hc1 : am_isM s0) (k : ∀ (x : Int) (σ' : am_D), Q' x σ' → am_X (am_FV G (d + 1) Q) mX4_asOuter (0, 0) 20 [some (am_r (some 31)), some (am_i v1), some (am_i v2), some (am_i x), none, none, none] [] (am_K0, σ')) : am_X (am_FV G (d + 1) Q) mX4_asOuter (0, 0) 16 [some (am_r (some 31)), some (am_i v1), some (am_i v2), none, none, none, none] [am_i s2, am_i s1, am_r (some s0)] (am_K0, σ) := by
  refine am_r_callV (as := [am_i s1, am_i s2]) (st := []) hc mb_X2_opensTo mv_X2_opensTo (Or.inl ml_X4_99) (obM hc1) (by omega) (r := (RX2, TX2, 16)) rfl rfl rfl rfl (Nat.le_of_ble_eq_true rfl) ⟨Nat.le_refl _, Nat.le_refl _⟩ ⟨Nat.le_refl _, Nat.le_refl _⟩ (show decode cX4_asOuter 16 = .ok (.invokevirtual 99, 3) by decide +kernel) ?_
  rintro _ _ ⟨x, σ', rfl, rfl, hq⟩ _
  refine am_r_istore_n (nx := 20) rfl (by decide) rfl (show decode cX4_asOuter 19 = .ok (.istore_n 3, 1) by decide +kernel) rfl ?_
  exact (k x σ' hq)
theorem S_X4_asOuter_20 {G : am_G} {d : Nat} {Q : am_D → Prop} {σ : am_D} {v1 : Int} {v2 : Int} {v3 : Int} (hr1 : -2147483648 ≤ v3 ∧ v3 ≤ 2147483647) (k1 : v3 = (-1) → am_X (am_FV G (d + 1) Q) mX4_asOuter (0, 0) 107 [some (am_r (some 31)), some (am_i v1), some (am_i v2), none, none, none, none] [] (am_K0, σ)) (k2 : ¬ (v3 = (-1)) → am_X (am_FV G (d + 1) Q) mX4_asOuter (0, 0) 25 [some (am_r (some 31)), some (am_i v1), some (am_i v2), some (am_i v3), none, none, none] [] (am_K0, σ)) : am_X (am_FV G (d + 1) Q) mX4_asOuter (0, 0) 20 [some (am_r (some 31)), some (am_i v1), some (am_i v2), some (am_i v3), none, none, none] [] (am_K0, σ) := by
  refine am_r_iload_n (nx := 21) rfl rfl (show decode cX4_asOuter 20 = .ok (.iload_n 3, 1) by decide +kernel) rfl ?_
  refine am_r_iconst (nx := 22) (show decode cX4_asOuter 21 = .ok (.iconst (-1), 1) by decide +kernel) rfl ?_
  refine am_r_icmp_eq (tg := 107) (nx := 25) (show decode cX4_asOuter 22 = .ok (.if_icmp .eq 85, 3) by decide +kernel) (by decide) rfl hr1 (by omega) ?_ ?_
  · exact fun q => am_x_fg [3] (k1 q)
  · exact fun q => k2 q
theorem S_X4_asOuter_25 {G : am_G} {d : Nat} {Q : am_D → Prop} {σ : am_D} {v1 : Int} {v2 : Int} {v3 : Int} {Q' : am_D → Prop} (hc : am_MV G d mX4_note [am_r (some 31), am_i v3, am_i v3, am_i 68] σ Q') (k : ∀ σ' : am_D, Q' σ' → am_X (am_FV G (d + 1) Q) mX4_asOuter (0, 0) 33 [some (am_r (some 31)), some (am_i v1), some (am_i v2), some (am_i v3), none, none, none] [] (am_K0, σ')) : am_X (am_FV G (d + 1) Q) mX4_asOuter (0, 0) 25 [some (am_r (some 31)), some (am_i v1), some (am_i v2), some (am_i v3), none, none, none] [] (am_K0, σ) := by
  refine am_r_aload_n (nx := 26) rfl rfl (show decode cX4_asOuter 25 = .ok (.aload_n 0, 1) by decide +kernel) rfl ?_
  refine am_r_iload_n (nx := 27) rfl rfl (show decode cX4_asOuter 26 = .ok (.iload_n 3, 1) by decide +kernel) rfl ?_
  refine am_r_iload_n (nx := 28) rfl rfl (show decode cX4_asOuter 27 = .ok (.iload_n 3, 1) by decide +kernel) rfl ?_
  refine am_r_bipush (nx := 30) rfl (show decode cX4_asOuter 28 = .ok (.bipush 68, 2) by decide +kernel) rfl ?_
  refine am_r_callV (as := [am_i v3, am_i v3, am_i 68]) (st := []) hc mb_X4_note mv_X4_note (Or.inl ml_X4_48) (ob_31) (by omega) (r := (RX4, TX4, 12)) rfl rfl rfl rfl (Nat.le_of_ble_eq_true rfl) ⟨Nat.le_refl _, Nat.le_refl _⟩ ⟨Nat.le_refl _, Nat.le_refl _⟩ (show decode cX4_asOuter 30 = .ok (.invokevirtual 48, 3) by decide +kernel) ?_
  rintro _ _ ⟨σ', rfl, rfl, hq⟩ _
  exact (k σ' hq)
theorem S_X4_asOuter_33 {G : am_G} {d : Nat} {Q : am_D → Prop} {σ : am_D} {v1 : Int} {v2 : Int} {v3 : Int} {Q' : Int → am_D → Prop} (hc : am_MI G d mX4_stateOf [am_i v1] σ Q') (k : ∀ (x : Int) (σ' : am_D), Q' x σ' → am_X (am_FV G (d + 1) Q) mX4_asOuter (0, 0) 42 [some (am_r (some 31)), some (am_i v1), some (am_i v2), some (am_i v3), none, none, none] [am_i x, am_i v2, am_r (σ.2.2 31 10)] (am_K0, σ')) : am_X (am_FV G (d + 1) Q) mX4_asOuter (0, 0) 33 [some (am_r (some 31)), some (am_i v1), some (am_i v2), some (am_i v3), none, none, none] [] (am_K0, σ) := by
  refine am_r_aload_n (nx := 34) rfl rfl (show decode cX4_asOuter 33 = .ok (.aload_n 0, 1) by decide +kernel) rfl ?_
  refine am_r_getR (nx := 37) 10 cw4 (by decide) rfl (Or.inl fl_X4_82) (ob_31) (show decode cX4_asOuter 34 = .ok (.getfield 82, 3) by decide +kernel) rfl ?_
  refine am_r_iload_n (nx := 38) rfl rfl (show decode cX4_asOuter 37 = .ok (.iload_n 2, 1) by decide +kernel) rfl ?_
  refine am_r_iload_n (nx := 39) rfl rfl (show decode cX4_asOuter 38 = .ok (.iload_n 1, 1) by decide +kernel) rfl ?_
  refine am_r_callS (as := [am_i v1]) (st := [am_i v2, am_r (σ.2.2 31 10)]) hc mb_X4_stateOf mv_X4_stateOf (Or.inl ml_X4_79) rfl rfl (Nat.le_of_ble_eq_true rfl) ⟨Nat.le_refl _, Nat.le_refl _⟩ ⟨Nat.le_refl _, Nat.le_refl _⟩ (show decode cX4_asOuter 39 = .ok (.invokestatic 79, 3) by decide +kernel) ?_
  rintro _ _ ⟨x, σ', rfl, rfl, hq⟩ _
  exact (k x σ' hq)
theorem S_X4_asOuter_42 {G : am_G} {d : Nat} {Q : am_D → Prop} {σ : am_D} {v1 : Int} {v2 : Int} {v3 : Int} {s1 : Int} {s2 : Int} {s0 : Nat} {Q' : Int → am_D → Prop} (hc : am_MI G d mX2_lays [am_r (some s0), am_i s1, am_i s2] σ Q') (hc1 : am_isM s0) (k : ∀ (x : Int) (σ' : am_D), Q' x σ' → am_X (am_FV G (d + 1) Q) mX4_asOuter (0, 0) 47 [some (am_r (some 31)), some (am_i v1), some (am_i v2), some (am_i v3), some (am_i x), none, none] [] (am_K0, σ')) : am_X (am_FV G (d + 1) Q) mX4_asOuter (0, 0) 42 [some (am_r (some 31)), some (am_i v1), some (am_i v2), some (am_i v3), none, none, none] [am_i s2, am_i s1, am_r (some s0)] (am_K0, σ) := by
  refine am_r_callV (as := [am_i s1, am_i s2]) (st := []) hc mb_X2_lays mv_X2_lays (Or.inl ml_X4_105) (obM hc1) (by omega) (r := (RX2, TX2, 16)) rfl rfl rfl rfl (Nat.le_of_ble_eq_true rfl) ⟨Nat.le_refl _, Nat.le_refl _⟩ ⟨Nat.le_refl _, Nat.le_refl _⟩ (show decode cX4_asOuter 42 = .ok (.invokevirtual 105, 3) by decide +kernel) ?_
  rintro _ _ ⟨x, σ', rfl, rfl, hq⟩ _
  refine am_r_istore (nx := 47) (by decide) rfl (show decode cX4_asOuter 45 = .ok (.istore 4, 2) by decide +kernel) rfl ?_
  exact (k x σ' hq)
theorem S_X4_asOuter_47 {G : am_G} {d : Nat} {Q : am_D → Prop} {σ : am_D} {v1 : Int} {v2 : Int} {v3 : Int} {v4 : Int} {Q' : Int → am_D → Prop} (hc : am_MI G d mX10_at [am_r (some 37), am_i v3] σ Q') (k : ∀ (x : Int) (σ' : am_D), Q' x σ' → am_X (am_FV G (d + 1) Q) mX4_asOuter (0, 0) 57 [some (am_r (some 31)), some (am_i v1), some (am_i v2), none, some (am_i v4), some (am_i x), none] [] (am_K0, σ')) : am_X (am_FV G (d + 1) Q) mX4_asOuter (0, 0) 47 [some (am_r (some 31)), some (am_i v1), some (am_i v2), some (am_i v3), some (am_i v4), none, none] [] (am_K0, σ) := by
  refine am_r_aload_n (nx := 48) rfl rfl (show decode cX4_asOuter 47 = .ok (.aload_n 0, 1) by decide +kernel) rfl ?_
  refine am_r_getF (nx := 51) 4 cw4 (by decide) rfl (Or.inl fl_X4_26) (ob_31) (fn_31_4) (show decode cX4_asOuter 48 = .ok (.getfield 26, 3) by decide +kernel) rfl ?_
  refine am_r_iload_n (nx := 52) rfl rfl (show decode cX4_asOuter 51 = .ok (.iload_n 3, 1) by decide +kernel) rfl ?_
  refine am_r_callS (as := [am_r (some 37), am_i v3]) (st := []) hc mb_X10_at mv_X10_at (Or.inr ⟨_, ml_X4_56⟩) rfl rfl (Nat.le_of_ble_eq_true rfl) ⟨Nat.le_refl _, Nat.le_refl _⟩ ⟨Nat.le_refl _, Nat.le_refl _⟩ (show decode cX4_asOuter 52 = .ok (.invokestatic 56, 3) by decide +kernel) ?_
  rintro _ _ ⟨x, σ', rfl, rfl, hq⟩ _
  refine am_r_istore (nx := 57) (by decide) rfl (show decode cX4_asOuter 55 = .ok (.istore 5, 2) by decide +kernel) rfl ?_
  exact am_x_fg [3] (k x σ' hq)
theorem S_X4_asOuter_57 {G : am_G} {d : Nat} {Q : am_D → Prop} {σ : am_D} {v1 : Int} {v2 : Int} {v4 : Int} {v5 : Int}  (k : am_X (am_FV G (d + 1) Q) mX4_asOuter (0, 0) 60 [some (am_r (some 31)), some (am_i v1), some (am_i v2), none, some (am_i v4), some (am_i v5), some (am_i 0)] [] (am_K0, σ)) : am_X (am_FV G (d + 1) Q) mX4_asOuter (0, 0) 57 [some (am_r (some 31)), some (am_i v1), some (am_i v2), none, some (am_i v4), some (am_i v5), none] [] (am_K0, σ) := by
  refine am_r_iconst (nx := 58) (show decode cX4_asOuter 57 = .ok (.iconst 0, 1) by decide +kernel) rfl ?_
  refine am_r_istore (nx := 60) (by decide) rfl (show decode cX4_asOuter 58 = .ok (.istore 6, 2) by decide +kernel) rfl ?_
  exact k
theorem S_X4_asOuter_60 {G : am_G} {d : Nat} {Q : am_D → Prop} {σ : am_D} {v1 : Int} {v2 : Int} {v4 : Int} {v5 : Int} {v6 : Int} (hr1 : -2147483648 ≤ v5 ∧ v5 ≤ 2147483647) (k1 : v5 = (-1) → am_X (am_FV G (d + 1) Q) mX4_asOuter (0, 0) 107 [some (am_r (some 31)), some (am_i v1), some (am_i v2), none, none, none, none] [] (am_K0, σ)) (k2 : ¬ (v5 = (-1)) → am_X (am_FV G (d + 1) Q) mX4_asOuter (0, 0) 66 [some (am_r (some 31)), some (am_i v1), some (am_i v2), none, some (am_i v4), some (am_i v5), some (am_i v6)] [] (am_K0, σ)) : am_X (am_FV G (d + 1) Q) mX4_asOuter (0, 0) 60 [some (am_r (some 31)), some (am_i v1), some (am_i v2), none, some (am_i v4), some (am_i v5), some (am_i v6)] [] (am_K0, σ) := by
  refine am_r_iload (nx := 62) rfl (show decode cX4_asOuter 60 = .ok (.iload 5, 2) by decide +kernel) rfl ?_
  refine am_r_iconst (nx := 63) (show decode cX4_asOuter 62 = .ok (.iconst (-1), 1) by decide +kernel) rfl ?_
  refine am_r_icmp_eq (tg := 107) (nx := 66) (show decode cX4_asOuter 63 = .ok (.if_icmp .eq 44, 3) by decide +kernel) (by decide) rfl hr1 (by omega) ?_ ?_
  · exact fun q => am_x_fg [4, 5, 6] (k1 q)
  · exact fun q => k2 q
theorem S_X4_asOuter_66 {G : am_G} {d : Nat} {Q : am_D → Prop} {σ : am_D} {v1 : Int} {v2 : Int} {v4 : Int} {v5 : Int} {v6 : Int} (hr1 : -2147483648 ≤ v6 ∧ v6 ≤ 2147483647) (k1 : 729 ≤ v6 → am_X (am_FV G (d + 1) Q) mX4_asOuter (0, 0) 107 [some (am_r (some 31)), some (am_i v1), some (am_i v2), none, none, none, none] [] (am_K0, σ)) (k2 : ¬ (729 ≤ v6) → am_X (am_FV G (d + 1) Q) mX4_asOuter (0, 0) 74 [some (am_r (some 31)), some (am_i v1), some (am_i v2), none, some (am_i v4), some (am_i v5), some (am_i v6)] [] (am_K0, σ)) : am_X (am_FV G (d + 1) Q) mX4_asOuter (0, 0) 66 [some (am_r (some 31)), some (am_i v1), some (am_i v2), none, some (am_i v4), some (am_i v5), some (am_i v6)] [] (am_K0, σ) := by
  refine am_r_iload (nx := 68) rfl (show decode cX4_asOuter 66 = .ok (.iload 6, 2) by decide +kernel) rfl ?_
  refine am_r_sipush (nx := 71) rfl (show decode cX4_asOuter 68 = .ok (.sipush 729, 3) by decide +kernel) rfl ?_
  refine am_r_icmp_ge (tg := 107) (nx := 74) (show decode cX4_asOuter 71 = .ok (.if_icmp .ge 36, 3) by decide +kernel) (by decide) rfl hr1 (by omega) ?_ ?_
  · exact fun q => am_x_fg [4, 5, 6] (k1 q)
  · exact fun q => k2 q
theorem S_X4_asOuter_74 {G : am_G} {d : Nat} {Q : am_D → Prop} {σ : am_D} {v1 : Int} {v2 : Int} {v4 : Int} {v5 : Int} {v6 : Int} {Q' : Int → am_D → Prop} (hc : am_MI G d mX10_at [am_r (some 36), am_i v5] σ Q') (k : ∀ (x : Int) (σ' : am_D), Q' x σ' → am_X (am_FV G (d + 1) Q) mX4_asOuter (0, 0) 85 [some (am_r (some 31)), some (am_i v1), some (am_i v2), none, some (am_i v4), some (am_i v5), some (am_i v6)] [am_i x, am_i v1, am_r (some 31)] (am_K0, σ')) : am_X (am_FV G (d + 1) Q) mX4_asOuter (0, 0) 74 [some (am_r (some 31)), some (am_i v1), some (am_i v2), none, some (am_i v4), some (am_i v5), some (am_i v6)] [] (am_K0, σ) := by
  refine am_r_aload_n (nx := 75) rfl rfl (show decode cX4_asOuter 74 = .ok (.aload_n 0, 1) by decide +kernel) rfl ?_
  refine am_r_iload_n (nx := 76) rfl rfl (show decode cX4_asOuter 75 = .ok (.iload_n 1, 1) by decide +kernel) rfl ?_
  refine am_r_aload_n (nx := 77) rfl rfl (show decode cX4_asOuter 76 = .ok (.aload_n 0, 1) by decide +kernel) rfl ?_
  refine am_r_getF (nx := 80) 2 cw4 (by decide) rfl (Or.inl fl_X4_22) (ob_31) (fn_31_2) (show decode cX4_asOuter 77 = .ok (.getfield 22, 3) by decide +kernel) rfl ?_
  refine am_r_iload (nx := 82) rfl (show decode cX4_asOuter 80 = .ok (.iload 5, 2) by decide +kernel) rfl ?_
  refine am_r_callS (as := [am_r (some 36), am_i v5]) (st := [am_i v1, am_r (some 31)]) hc mb_X10_at mv_X10_at (Or.inr ⟨_, ml_X4_56⟩) rfl rfl (Nat.le_of_ble_eq_true rfl) ⟨Nat.le_refl _, Nat.le_refl _⟩ ⟨Nat.le_refl _, Nat.le_refl _⟩ (show decode cX4_asOuter 82 = .ok (.invokestatic 56, 3) by decide +kernel) ?_
  rintro _ _ ⟨x, σ', rfl, rfl, hq⟩ _
  exact (k x σ' hq)
theorem S_X4_asOuter_85 {G : am_G} {d : Nat} {Q : am_D → Prop} {σ : am_D} {v1 : Int} {v2 : Int} {v4 : Int} {v5 : Int} {v6 : Int} {s1 : Int} {s2 : Int} {Q' : am_D → Prop} (hc : am_MV G d mX4_nest [am_r (some 31), am_i s1, am_i s2, am_i v4] σ Q') (k : ∀ σ' : am_D, Q' σ' → am_X (am_FV G (d + 1) Q) mX4_asOuter (0, 0) 90 [some (am_r (some 31)), some (am_i v1), some (am_i v2), none, some (am_i v4), some (am_i v5), some (am_i v6)] [] (am_K0, σ')) : am_X (am_FV G (d + 1) Q) mX4_asOuter (0, 0) 85 [some (am_r (some 31)), some (am_i v1), some (am_i v2), none, some (am_i v4), some (am_i v5), some (am_i v6)] [am_i s2, am_i s1, am_r (some 31)] (am_K0, σ) := by
  refine am_r_iload (nx := 87) rfl (show decode cX4_asOuter 85 = .ok (.iload 4, 2) by decide +kernel) rfl ?_
  refine am_r_callV (as := [am_i s1, am_i s2, am_i v4]) (st := []) hc mb_X4_nest mv_X4_nest (Or.inl ml_X4_108) (ob_31) (by omega) (r := (RX4, TX4, 12)) rfl rfl rfl rfl (Nat.le_of_ble_eq_true rfl) ⟨Nat.le_refl _, Nat.le_refl _⟩ ⟨Nat.le_refl _, Nat.le_refl _⟩ (show decode cX4_asOuter 87 = .ok (.invokevirtual 108, 3) by decide +kernel) ?_
  rintro _ _ ⟨σ', rfl, rfl, hq⟩ _
  exact (k σ' hq)
theorem S_X4_asOuter_90 {G : am_G} {d : Nat} {Q : am_D → Prop} {σ : am_D} {v1 : Int} {v2 : Int} {v4 : Int} {v5 : Int} {v6 : Int} {Q' : Int → am_D → Prop} (hc : am_MI G d mX10_at [am_r (some 39), am_i v5] σ Q') (k : ∀ (x : Int) (σ' : am_D), Q' x σ' → am_X (am_FV G (d + 1) Q) mX4_asOuter (0, 0) 101 [some (am_r (some 31)), some (am_i v1), some (am_i v2), none, some (am_i v4), some (am_i x), some (am_i v6)] [] (am_K0, σ')) : am_X (am_FV G (d + 1) Q) mX4_asOuter (0, 0) 90 [some (am_r (some 31)), some (am_i v1), some (am_i v2), none, some (am_i v4), some (am_i v5), some (am_i v6)] [] (am_K0, σ) := by
  refine am_r_aload_n (nx := 91) rfl rfl (show decode cX4_asOuter 90 = .ok (.aload_n 0, 1) by decide +kernel) rfl ?_
  refine am_r_getF (nx := 94) 6 cw4 (by decide) rfl (Or.inl fl_X4_32) (ob_31) (fn_31_6) (show decode cX4_asOuter 91 = .ok (.getfield 32, 3) by decide +kernel) rfl ?_
  refine am_r_iload (nx := 96) rfl (show decode cX4_asOuter 94 = .ok (.iload 5, 2) by decide +kernel) rfl ?_
  refine am_r_callS (as := [am_r (some 39), am_i v5]) (st := []) hc mb_X10_at mv_X10_at (Or.inr ⟨_, ml_X4_56⟩) rfl rfl (Nat.le_of_ble_eq_true rfl) ⟨Nat.le_refl _, Nat.le_refl _⟩ ⟨Nat.le_refl _, Nat.le_refl _⟩ (show decode cX4_asOuter 96 = .ok (.invokestatic 56, 3) by decide +kernel) ?_
  rintro _ _ ⟨x, σ', rfl, rfl, hq⟩ _
  refine am_r_istore (nx := 101) (by decide) rfl (show decode cX4_asOuter 99 = .ok (.istore 5, 2) by decide +kernel) rfl ?_
  exact (k x σ' hq)
theorem S_X4_asOuter_101 {G : am_G} {d : Nat} {Q : am_D → Prop} {σ : am_D} {v1 : Int} {v2 : Int} {v4 : Int} {v5 : Int} {v6 : Int}  (k : am_X (am_FV G (d + 1) Q) mX4_asOuter (0, 0) 60 [some (am_r (some 31)), some (am_i v1), some (am_i v2), none, some (am_i v4), some (am_i v5), some (am_i (v6 + 1))] [] (am_K0, σ)) : am_X (am_FV G (d + 1) Q) mX4_asOuter (0, 0) 101 [some (am_r (some 31)), some (am_i v1), some (am_i v2), none, some (am_i v4), some (am_i v5), some (am_i v6)] [] (am_K0, σ) := by
  refine am_r_iinc (nx := 104) rfl rfl (show decode cX4_asOuter 101 = .ok (.iinc 6 1, 3) by decide +kernel) rfl ?_
  refine am_r_goto (tg := 60) (show decode cX4_asOuter 104 = .ok (.goto (-44), 3) by decide +kernel) (by decide) ?_
  exact k
theorem S_X4_asOuter_107 {G : am_G} {d : Nat} {Q : am_D → Prop} {σ : am_D} {v1 : Int} {v2 : Int}  (k : am_X (am_FV G (d + 1) Q) mX4_asOuter (0, 0) 2 [some (am_r (some 31)), some (am_i v1), some (am_i (v2 + 1)), none, none, none, none] [] (am_K0, σ)) : am_X (am_FV G (d + 1) Q) mX4_asOuter (0, 0) 107 [some (am_r (some 31)), some (am_i v1), some (am_i v2), none, none, none, none] [] (am_K0, σ) := by
  refine am_r_iinc (nx := 110) rfl rfl (show decode cX4_asOuter 107 = .ok (.iinc 2 1, 3) by decide +kernel) rfl ?_
  refine am_r_goto (tg := 2) (show decode cX4_asOuter 110 = .ok (.goto (-108), 3) by decide +kernel) (by decide) ?_
  exact k
theorem S_X4_asOuter_113 {G : am_G} {d : Nat} {Q : am_D → Prop} {σ : am_D}   (k : Q σ) : am_X (am_FV G (d + 1) Q) mX4_asOuter (0, 0) 113 [none, none, none, none, none, none, none] [] (am_K0, σ) := by
  exact am_r_vret rfl (show decode cX4_asOuter 113 = .ok (.return_, 1) by decide +kernel) ⟨_, rfl, rfl, k⟩
theorem S_X4_asInner_0 {G : am_G} {d : Nat} {Q : am_D → Prop} {σ : am_D} {v1 : Int}  (k : am_X (am_FV G (d + 1) Q) mX4_asInner (0, 0) 2 [some (am_r (some 31)), some (am_i v1), some (am_i 0), none, none, none, none] [] (am_K0, σ)) : am_X (am_FV G (d + 1) Q) mX4_asInner (0, 0) 0 [some (am_r (some 31)), some (am_i v1), none, none, none, none, none] [] (am_K0, σ) := by
  refine am_r_iconst (nx := 1) (show decode cX4_asInner 0 = .ok (.iconst 0, 1) by decide +kernel) rfl ?_
  refine am_r_istore_n (nx := 2) rfl (by decide) rfl (show decode cX4_asInner 1 = .ok (.istore_n 2, 1) by decide +kernel) rfl ?_
  exact k
theorem S_X4_asInner_2 {G : am_G} {d : Nat} {Q : am_D → Prop} {σ : am_D} {v1 : Int} {v2 : Int} {a1 : Nat} (ho2 : (σ.2.2 31 10) = some a1) (hc3 : am_isM a1) (hr4 : -2147483648 ≤ v2 ∧ v2 ≤ 2147483647) (hr5 : -2147483648 ≤ (σ.1 a1 0) ∧ (σ.1 a1 0) ≤ 2147483647) (k1 : (σ.1 a1 0) ≤ v2 → am_X (am_FV G (d + 1) Q) mX4_asInner (0, 0) 119 [none, none, none, none, none, none, none] [] (am_K0, σ)) (k2 : ¬ ((σ.1 a1 0) ≤ v2) → am_X (am_FV G (d + 1) Q) mX4_asInner (0, 0) 13 [some (am_r (some 31)), some (am_i v1), some (am_i v2), none, none, none, none] [] (am_K0, σ)) : am_X (am_FV G (d + 1) Q) mX4_asInner (0, 0) 2 [some (am_r (some 31)), some (am_i v1), some (am_i v2), none, none, none, none] [] (am_K0, σ) := by
  refine am_r_iload_n (nx := 3) rfl rfl (show decode cX4_asInner 2 = .ok (.iload_n 2, 1) by decide +kernel) rfl ?_
  refine am_r_aload_n (nx := 4) rfl rfl (show decode cX4_asInner 3 = .ok (.aload_n 0, 1) by decide +kernel) rfl ?_
  refine am_r_getRs (nx := 7) 10 ho2 cw4 (by decide) rfl (Or.inl fl_X4_82) (ob_31) (show decode cX4_asInner 4 = .ok (.getfield 82, 3) by decide +kernel) rfl ?_
  refine am_r_getI (nx := 10) 0 cw2 (by decide) rfl (Or.inr ⟨_, fl_X4_111⟩) (obM hc3) (show decode cX4_asInner 7 = .ok (.getfield 111, 3) by decide +kernel) rfl ?_
  refine am_r_icmp_ge (tg := 119) (nx := 13) (show decode cX4_asInner 10 = .ok (.if_icmp .ge 109, 3) by decide +kernel) (by decide) rfl hr4 hr5 ?_ ?_
  · exact fun q => am_x_fg [0, 1, 2] (k1 q)
  · exact fun q => k2 q
theorem S_X4_asInner_13 {G : am_G} {d : Nat} {Q : am_D → Prop} {σ : am_D} {v1 : Int} {v2 : Int}  (k : am_X (am_FV G (d + 1) Q) mX4_asInner (0, 0) 15 [some (am_r (some 31)), some (am_i v1), some (am_i v2), some (am_i 0), none, none, none] [] (am_K0, σ)) : am_X (am_FV G (d + 1) Q) mX4_asInner (0, 0) 13 [some (am_r (some 31)), some (am_i v1), some (am_i v2), none, none, none, none] [] (am_K0, σ) := by
  refine am_r_iconst (nx := 14) (show decode cX4_asInner 13 = .ok (.iconst 0, 1) by decide +kernel) rfl ?_
  refine am_r_istore_n (nx := 15) rfl (by decide) rfl (show decode cX4_asInner 14 = .ok (.istore_n 3, 1) by decide +kernel) rfl ?_
  exact k
theorem S_X4_asInner_15 {G : am_G} {d : Nat} {Q : am_D → Prop} {σ : am_D} {v1 : Int} {v2 : Int} {v3 : Int} (hr1 : -2147483648 ≤ v3 ∧ v3 ≤ 2147483647) (k1 : 3 ≤ v3 → am_X (am_FV G (d + 1) Q) mX4_asInner (0, 0) 113 [some (am_r (some 31)), some (am_i v1), some (am_i v2), none, none, none, none] [] (am_K0, σ)) (k2 : ¬ (3 ≤ v3) → am_X (am_FV G (d + 1) Q) mX4_asInner (0, 0) 20 [some (am_r (some 31)), some (am_i v1), some (am_i v2), some (am_i v3), none, none, none] [] (am_K0, σ)) : am_X (am_FV G (d + 1) Q) mX4_asInner (0, 0) 15 [some (am_r (some 31)), some (am_i v1), some (am_i v2), some (am_i v3), none, none, none] [] (am_K0, σ) := by
  refine am_r_iload_n (nx := 16) rfl rfl (show decode cX4_asInner 15 = .ok (.iload_n 3, 1) by decide +kernel) rfl ?_
  refine am_r_iconst (nx := 17) (show decode cX4_asInner 16 = .ok (.iconst 3, 1) by decide +kernel) rfl ?_
  refine am_r_icmp_ge (tg := 113) (nx := 20) (show decode cX4_asInner 17 = .ok (.if_icmp .ge 96, 3) by decide +kernel) (by decide) rfl hr1 (by omega) ?_ ?_
  · exact fun q => am_x_fg [3] (k1 q)
  · exact fun q => k2 q
theorem S_X4_asInner_20 {G : am_G} {d : Nat} {Q : am_D → Prop} {σ : am_D} {v1 : Int} {v2 : Int} {v3 : Int} {a1 : Nat} {Q' : Int → am_D → Prop} (ho2 : (σ.2.2 31 10) = some a1) (hc : am_MI G d mX2_opensTo [am_r (some a1), am_i v3, am_i v2] σ Q') (hc3 : am_isM a1) (k : ∀ (x : Int) (σ' : am_D), Q' x σ' → am_X (am_FV G (d + 1) Q) mX4_asInner (0, 0) 29 [some (am_r (some 31)), some (am_i v1), some (am_i v2), some (am_i v3), none, none, none] [am_i x] (am_K0, σ')) : am_X (am_FV G (d + 1) Q) mX4_asInner (0, 0) 20 [some (am_r (some 31)), some (am_i v1), some (am_i v2), some (am_i v3), none, none, none] [] (am_K0, σ) := by
  refine am_r_aload_n (nx := 21) rfl rfl (show decode cX4_asInner 20 = .ok (.aload_n 0, 1) by decide +kernel) rfl ?_
  refine am_r_getRs (nx := 24) 10 ho2 cw4 (by decide) rfl (Or.inl fl_X4_82) (ob_31) (show decode cX4_asInner 21 = .ok (.getfield 82, 3) by decide +kernel) rfl ?_
  refine am_r_iload_n (nx := 25) rfl rfl (show decode cX4_asInner 24 = .ok (.iload_n 3, 1) by decide +kernel) rfl ?_
  refine am_r_iload_n (nx := 26) rfl rfl (show decode cX4_asInner 25 = .ok (.iload_n 2, 1) by decide +kernel) rfl ?_
  refine am_r_callV (as := [am_i v3, am_i v2]) (st := []) hc mb_X2_opensTo mv_X2_opensTo (Or.inl ml_X4_99) (obM hc3) (by omega) (r := (RX2, TX2, 16)) rfl rfl rfl rfl (Nat.le_of_ble_eq_true rfl) ⟨Nat.le_refl _, Nat.le_refl _⟩ ⟨Nat.le_refl _, Nat.le_refl _⟩ (show decode cX4_asInner 26 = .ok (.invokevirtual 99, 3) by decide +kernel) ?_
  rintro _ _ ⟨x, σ', rfl, rfl, hq⟩ _
  exact (k x σ' hq)
theorem S_X4_asInner_29 {G : am_G} {d : Nat} {Q : am_D → Prop} {σ : am_D} {v1 : Int} {v2 : Int} {v3 : Int} {s0 : Int} {Q' : Int → am_D → Prop} (hc : am_MI G d mX4_beginOf [am_i v1] σ Q') (k : ∀ (x : Int) (σ' : am_D), Q' x σ' → am_X (am_FV G (d + 1) Q) mX4_asInner (0, 0) 33 [some (am_r (some 31)), some (am_i v1), some (am_i v2), some (am_i v3), none, none, none] [am_i x, am_i s0] (am_K0, σ')) : am_X (am_FV G (d + 1) Q) mX4_asInner (0, 0) 29 [some (am_r (some 31)), some (am_i v1), some (am_i v2), some (am_i v3), none, none, none] [am_i s0] (am_K0, σ) := by
  refine am_r_iload_n (nx := 30) rfl rfl (show decode cX4_asInner 29 = .ok (.iload_n 1, 1) by decide +kernel) rfl ?_
  refine am_r_callS (as := [am_i v1]) (st := [am_i s0]) hc mb_X4_beginOf mv_X4_beginOf (Or.inl ml_X4_64) rfl rfl (Nat.le_of_ble_eq_true rfl) ⟨Nat.le_refl _, Nat.le_refl _⟩ ⟨Nat.le_refl _, Nat.le_refl _⟩ (show decode cX4_asInner 30 = .ok (.invokestatic 64, 3) by decide +kernel) ?_
  rintro _ _ ⟨x, σ', rfl, rfl, hq⟩ _
  exact (k x σ' hq)
theorem S_X4_asInner_33 {G : am_G} {d : Nat} {Q : am_D → Prop} {σ : am_D} {v1 : Int} {v2 : Int} {v3 : Int} {s0 : Int} {s1 : Int} (hr1 : -2147483648 ≤ s0 ∧ s0 ≤ 2147483647) (hr2 : -2147483648 ≤ s1 ∧ s1 ≤ 2147483647) (k1 : ¬ s0 = s1 → am_X (am_FV G (d + 1) Q) mX4_asInner (0, 0) 107 [some (am_r (some 31)), some (am_i v1), some (am_i v2), some (am_i v3), none, none, none] [] (am_K0, σ)) (k2 : ¬ (¬ s0 = s1) → am_X (am_FV G (d + 1) Q) mX4_asInner (0, 0) 36 [some (am_r (some 31)), some (am_i v1), some (am_i v2), some (am_i v3), none, none, none] [] (am_K0, σ)) : am_X (am_FV G (d + 1) Q) mX4_asInner (0, 0) 33 [some (am_r (some 31)), some (am_i v1), some (am_i v2), some (am_i v3), none, none, none] [am_i s1, am_i s0] (am_K0, σ) := by
  refine am_r_icmp_ne (tg := 107) (nx := 36) (show decode cX4_asInner 33 = .ok (.if_icmp .ne 74, 3) by decide +kernel) (by decide) rfl hr1 hr2 ?_ ?_
  · exact fun q => k1 q
  · exact fun q => k2 q
theorem S_X4_asInner_36 {G : am_G} {d : Nat} {Q : am_D → Prop} {σ : am_D} {v1 : Int} {v2 : Int} {v3 : Int} {a1 : Nat} {Q' : Int → am_D → Prop} (ho2 : (σ.2.2 31 10) = some a1) (hc : am_MI G d mX2_lays [am_r (some a1), am_i v3, am_i v2] σ Q') (hc3 : am_isM a1) (k : ∀ (x : Int) (σ' : am_D), Q' x σ' → am_X (am_FV G (d + 1) Q) mX4_asInner (0, 0) 47 [some (am_r (some 31)), some (am_i v1), some (am_i v2), some (am_i v3), some (am_i x), none, none] [] (am_K0, σ')) : am_X (am_FV G (d + 1) Q) mX4_asInner (0, 0) 36 [some (am_r (some 31)), some (am_i v1), some (am_i v2), some (am_i v3), none, none, none] [] (am_K0, σ) := by
  refine am_r_aload_n (nx := 37) rfl rfl (show decode cX4_asInner 36 = .ok (.aload_n 0, 1) by decide +kernel) rfl ?_
  refine am_r_getRs (nx := 40) 10 ho2 cw4 (by decide) rfl (Or.inl fl_X4_82) (ob_31) (show decode cX4_asInner 37 = .ok (.getfield 82, 3) by decide +kernel) rfl ?_
  refine am_r_iload_n (nx := 41) rfl rfl (show decode cX4_asInner 40 = .ok (.iload_n 3, 1) by decide +kernel) rfl ?_
  refine am_r_iload_n (nx := 42) rfl rfl (show decode cX4_asInner 41 = .ok (.iload_n 2, 1) by decide +kernel) rfl ?_
  refine am_r_callV (as := [am_i v3, am_i v2]) (st := []) hc mb_X2_lays mv_X2_lays (Or.inl ml_X4_105) (obM hc3) (by omega) (r := (RX2, TX2, 16)) rfl rfl rfl rfl (Nat.le_of_ble_eq_true rfl) ⟨Nat.le_refl _, Nat.le_refl _⟩ ⟨Nat.le_refl _, Nat.le_refl _⟩ (show decode cX4_asInner 42 = .ok (.invokevirtual 105, 3) by decide +kernel) ?_
  rintro _ _ ⟨x, σ', rfl, rfl, hq⟩ _
  refine am_r_istore (nx := 47) (by decide) rfl (show decode cX4_asInner 45 = .ok (.istore 4, 2) by decide +kernel) rfl ?_
  exact (k x σ' hq)
theorem S_X4_asInner_47 {G : am_G} {d : Nat} {Q : am_D → Prop} {σ : am_D} {v1 : Int} {v2 : Int} {v3 : Int} {v4 : Int} {Q' : Int → am_D → Prop} (hc : am_MI G d mX10_at [am_r (some 38), am_i v2] σ Q') (k : ∀ (x : Int) (σ' : am_D), Q' x σ' → am_X (am_FV G (d + 1) Q) mX4_asInner (0, 0) 57 [some (am_r (some 31)), some (am_i v1), some (am_i v2), some (am_i v3), some (am_i v4), some (am_i x), none] [] (am_K0, σ')) : am_X (am_FV G (d + 1) Q) mX4_asInner (0, 0) 47 [some (am_r (some 31)), some (am_i v1), some (am_i v2), some (am_i v3), some (am_i v4), none, none] [] (am_K0, σ) := by
  refine am_r_aload_n (nx := 48) rfl rfl (show decode cX4_asInner 47 = .ok (.aload_n 0, 1) by decide +kernel) rfl ?_
  refine am_r_getF (nx := 51) 5 cw4 (by decide) rfl (Or.inl fl_X4_29) (ob_31) (fn_31_5) (show decode cX4_asInner 48 = .ok (.getfield 29, 3) by decide +kernel) rfl ?_
  refine am_r_iload_n (nx := 52) rfl rfl (show decode cX4_asInner 51 = .ok (.iload_n 2, 1) by decide +kernel) rfl ?_
  refine am_r_callS (as := [am_r (some 38), am_i v2]) (st := []) hc mb_X10_at mv_X10_at (Or.inr ⟨_, ml_X4_56⟩) rfl rfl (Nat.le_of_ble_eq_true rfl) ⟨Nat.le_refl _, Nat.le_refl _⟩ ⟨Nat.le_refl _, Nat.le_refl _⟩ (show decode cX4_asInner 52 = .ok (.invokestatic 56, 3) by decide +kernel) ?_
  rintro _ _ ⟨x, σ', rfl, rfl, hq⟩ _
  refine am_r_istore (nx := 57) (by decide) rfl (show decode cX4_asInner 55 = .ok (.istore 5, 2) by decide +kernel) rfl ?_
  exact (k x σ' hq)
theorem S_X4_asInner_57 {G : am_G} {d : Nat} {Q : am_D → Prop} {σ : am_D} {v1 : Int} {v2 : Int} {v3 : Int} {v4 : Int} {v5 : Int}  (k : am_X (am_FV G (d + 1) Q) mX4_asInner (0, 0) 60 [some (am_r (some 31)), some (am_i v1), some (am_i v2), some (am_i v3), some (am_i v4), some (am_i v5), some (am_i 0)] [] (am_K0, σ)) : am_X (am_FV G (d + 1) Q) mX4_asInner (0, 0) 57 [some (am_r (some 31)), some (am_i v1), some (am_i v2), some (am_i v3), some (am_i v4), some (am_i v5), none] [] (am_K0, σ) := by
  refine am_r_iconst (nx := 58) (show decode cX4_asInner 57 = .ok (.iconst 0, 1) by decide +kernel) rfl ?_
  refine am_r_istore (nx := 60) (by decide) rfl (show decode cX4_asInner 58 = .ok (.istore 6, 2) by decide +kernel) rfl ?_
  exact k
theorem S_X4_asInner_60 {G : am_G} {d : Nat} {Q : am_D → Prop} {σ : am_D} {v1 : Int} {v2 : Int} {v3 : Int} {v4 : Int} {v5 : Int} {v6 : Int} (hr1 : -2147483648 ≤ v5 ∧ v5 ≤ 2147483647) (k1 : v5 = (-1) → am_X (am_FV G (d + 1) Q) mX4_asInner (0, 0) 107 [some (am_r (some 31)), some (am_i v1), some (am_i v2), some (am_i v3), none, none, none] [] (am_K0, σ)) (k2 : ¬ (v5 = (-1)) → am_X (am_FV G (d + 1) Q) mX4_asInner (0, 0) 66 [some (am_r (some 31)), some (am_i v1), some (am_i v2), some (am_i v3), some (am_i v4), some (am_i v5), some (am_i v6)] [] (am_K0, σ)) : am_X (am_FV G (d + 1) Q) mX4_asInner (0, 0) 60 [some (am_r (some 31)), some (am_i v1), some (am_i v2), some (am_i v3), some (am_i v4), some (am_i v5), some (am_i v6)] [] (am_K0, σ) := by
  refine am_r_iload (nx := 62) rfl (show decode cX4_asInner 60 = .ok (.iload 5, 2) by decide +kernel) rfl ?_
  refine am_r_iconst (nx := 63) (show decode cX4_asInner 62 = .ok (.iconst (-1), 1) by decide +kernel) rfl ?_
  refine am_r_icmp_eq (tg := 107) (nx := 66) (show decode cX4_asInner 63 = .ok (.if_icmp .eq 44, 3) by decide +kernel) (by decide) rfl hr1 (by omega) ?_ ?_
  · exact fun q => am_x_fg [4, 5, 6] (k1 q)
  · exact fun q => k2 q
theorem S_X4_asInner_66 {G : am_G} {d : Nat} {Q : am_D → Prop} {σ : am_D} {v1 : Int} {v2 : Int} {v3 : Int} {v4 : Int} {v5 : Int} {v6 : Int} (hr1 : -2147483648 ≤ v6 ∧ v6 ≤ 2147483647) (k1 : 729 ≤ v6 → am_X (am_FV G (d + 1) Q) mX4_asInner (0, 0) 107 [some (am_r (some 31)), some (am_i v1), some (am_i v2), some (am_i v3), none, none, none] [] (am_K0, σ)) (k2 : ¬ (729 ≤ v6) → am_X (am_FV G (d + 1) Q) mX4_asInner (0, 0) 74 [some (am_r (some 31)), some (am_i v1), some (am_i v2), some (am_i v3), some (am_i v4), some (am_i v5), some (am_i v6)] [] (am_K0, σ)) : am_X (am_FV G (d + 1) Q) mX4_asInner (0, 0) 66 [some (am_r (some 31)), some (am_i v1), some (am_i v2), some (am_i v3), some (am_i v4), some (am_i v5), some (am_i v6)] [] (am_K0, σ) := by
  refine am_r_iload (nx := 68) rfl (show decode cX4_asInner 66 = .ok (.iload 6, 2) by decide +kernel) rfl ?_
  refine am_r_sipush (nx := 71) rfl (show decode cX4_asInner 68 = .ok (.sipush 729, 3) by decide +kernel) rfl ?_
  refine am_r_icmp_ge (tg := 107) (nx := 74) (show decode cX4_asInner 71 = .ok (.if_icmp .ge 36, 3) by decide +kernel) (by decide) rfl hr1 (by omega) ?_ ?_
  · exact fun q => am_x_fg [4, 5, 6] (k1 q)
  · exact fun q => k2 q
theorem S_X4_asInner_74 {G : am_G} {d : Nat} {Q : am_D → Prop} {σ : am_D} {v1 : Int} {v2 : Int} {v3 : Int} {v4 : Int} {v5 : Int} {v6 : Int} {Q' : Int → am_D → Prop} (hc : am_MI G d mX10_at [am_r (some 36), am_i v5] σ Q') (k : ∀ (x : Int) (σ' : am_D), Q' x σ' → am_X (am_FV G (d + 1) Q) mX4_asInner (0, 0) 84 [some (am_r (some 31)), some (am_i v1), some (am_i v2), some (am_i v3), some (am_i v4), some (am_i v5), some (am_i v6)] [am_i x, am_r (some 31)] (am_K0, σ')) : am_X (am_FV G (d + 1) Q) mX4_asInner (0, 0) 74 [some (am_r (some 31)), some (am_i v1), some (am_i v2), some (am_i v3), some (am_i v4), some (am_i v5), some (am_i v6)] [] (am_K0, σ) := by
  refine am_r_aload_n (nx := 75) rfl rfl (show decode cX4_asInner 74 = .ok (.aload_n 0, 1) by decide +kernel) rfl ?_
  refine am_r_aload_n (nx := 76) rfl rfl (show decode cX4_asInner 75 = .ok (.aload_n 0, 1) by decide +kernel) rfl ?_
  refine am_r_getF (nx := 79) 2 cw4 (by decide) rfl (Or.inl fl_X4_22) (ob_31) (fn_31_2) (show decode cX4_asInner 76 = .ok (.getfield 22, 3) by decide +kernel) rfl ?_
  refine am_r_iload (nx := 81) rfl (show decode cX4_asInner 79 = .ok (.iload 5, 2) by decide +kernel) rfl ?_
  refine am_r_callS (as := [am_r (some 36), am_i v5]) (st := [am_r (some 31)]) hc mb_X10_at mv_X10_at (Or.inr ⟨_, ml_X4_56⟩) rfl rfl (Nat.le_of_ble_eq_true rfl) ⟨Nat.le_refl _, Nat.le_refl _⟩ ⟨Nat.le_refl _, Nat.le_refl _⟩ (show decode cX4_asInner 81 = .ok (.invokestatic 56, 3) by decide +kernel) ?_
  rintro _ _ ⟨x, σ', rfl, rfl, hq⟩ _
  exact (k x σ' hq)
theorem S_X4_asInner_84 {G : am_G} {d : Nat} {Q : am_D → Prop} {σ : am_D} {v1 : Int} {v2 : Int} {v3 : Int} {v4 : Int} {v5 : Int} {v6 : Int} {s1 : Int} {Q' : am_D → Prop} (hc : am_MV G d mX4_nest [am_r (some 31), am_i s1, am_i v1, am_i v4] σ Q') (k : ∀ σ' : am_D, Q' σ' → am_X (am_FV G (d + 1) Q) mX4_asInner (0, 0) 90 [some (am_r (some 31)), some (am_i v1), some (am_i v2), some (am_i v3), some (am_i v4), some (am_i v5), some (am_i v6)] [] (am_K0, σ')) : am_X (am_FV G (d + 1) Q) mX4_asInner (0, 0) 84 [some (am_r (some 31)), some (am_i v1), some (am_i v2), some (am_i v3), some (am_i v4), some (am_i v5), some (am_i v6)] [am_i s1, am_r (some 31)] (am_K0, σ) := by
  refine am_r_iload_n (nx := 85) rfl rfl (show decode cX4_asInner 84 = .ok (.iload_n 1, 1) by decide +kernel) rfl ?_
  refine am_r_iload (nx := 87) rfl (show decode cX4_asInner 85 = .ok (.iload 4, 2) by decide +kernel) rfl ?_
  refine am_r_callV (as := [am_i s1, am_i v1, am_i v4]) (st := []) hc mb_X4_nest mv_X4_nest (Or.inl ml_X4_108) (ob_31) (by omega) (r := (RX4, TX4, 12)) rfl rfl rfl rfl (Nat.le_of_ble_eq_true rfl) ⟨Nat.le_refl _, Nat.le_refl _⟩ ⟨Nat.le_refl _, Nat.le_refl _⟩ (show decode cX4_asInner 87 = .ok (.invokevirtual 108, 3) by decide +kernel) ?_
  rintro _ _ ⟨σ', rfl, rfl, hq⟩ _
  exact (k σ' hq)
theorem S_X4_asInner_90 {G : am_G} {d : Nat} {Q : am_D → Prop} {σ : am_D} {v1 : Int} {v2 : Int} {v3 : Int} {v4 : Int} {v5 : Int} {v6 : Int} {Q' : Int → am_D → Prop} (hc : am_MI G d mX10_at [am_r (some 40), am_i v5] σ Q') (k : ∀ (x : Int) (σ' : am_D), Q' x σ' → am_X (am_FV G (d + 1) Q) mX4_asInner (0, 0) 101 [some (am_r (some 31)), some (am_i v1), some (am_i v2), some (am_i v3), some (am_i v4), some (am_i x), some (am_i v6)] [] (am_K0, σ')) : am_X (am_FV G (d + 1) Q) mX4_asInner (0, 0) 90 [some (am_r (some 31)), some (am_i v1), some (am_i v2), some (am_i v3), some (am_i v4), some (am_i v5), some (am_i v6)] [] (am_K0, σ) := by
  refine am_r_aload_n (nx := 91) rfl rfl (show decode cX4_asInner 90 = .ok (.aload_n 0, 1) by decide +kernel) rfl ?_
  refine am_r_getF (nx := 94) 7 cw4 (by decide) rfl (Or.inl fl_X4_35) (ob_31) (fn_31_7) (show decode cX4_asInner 91 = .ok (.getfield 35, 3) by decide +kernel) rfl ?_
  refine am_r_iload (nx := 96) rfl (show decode cX4_asInner 94 = .ok (.iload 5, 2) by decide +kernel) rfl ?_
  refine am_r_callS (as := [am_r (some 40), am_i v5]) (st := []) hc mb_X10_at mv_X10_at (Or.inr ⟨_, ml_X4_56⟩) rfl rfl (Nat.le_of_ble_eq_true rfl) ⟨Nat.le_refl _, Nat.le_refl _⟩ ⟨Nat.le_refl _, Nat.le_refl _⟩ (show decode cX4_asInner 96 = .ok (.invokestatic 56, 3) by decide +kernel) ?_
  rintro _ _ ⟨x, σ', rfl, rfl, hq⟩ _
  refine am_r_istore (nx := 101) (by decide) rfl (show decode cX4_asInner 99 = .ok (.istore 5, 2) by decide +kernel) rfl ?_
  exact (k x σ' hq)
theorem S_X4_asInner_101 {G : am_G} {d : Nat} {Q : am_D → Prop} {σ : am_D} {v1 : Int} {v2 : Int} {v3 : Int} {v4 : Int} {v5 : Int} {v6 : Int}  (k : am_X (am_FV G (d + 1) Q) mX4_asInner (0, 0) 60 [some (am_r (some 31)), some (am_i v1), some (am_i v2), some (am_i v3), some (am_i v4), some (am_i v5), some (am_i (v6 + 1))] [] (am_K0, σ)) : am_X (am_FV G (d + 1) Q) mX4_asInner (0, 0) 101 [some (am_r (some 31)), some (am_i v1), some (am_i v2), some (am_i v3), some (am_i v4), some (am_i v5), some (am_i v6)] [] (am_K0, σ) := by
  refine am_r_iinc (nx := 104) rfl rfl (show decode cX4_asInner 101 = .ok (.iinc 6 1, 3) by decide +kernel) rfl ?_
  refine am_r_goto (tg := 60) (show decode cX4_asInner 104 = .ok (.goto (-44), 3) by decide +kernel) (by decide) ?_
  exact k
theorem S_X4_asInner_107 {G : am_G} {d : Nat} {Q : am_D → Prop} {σ : am_D} {v1 : Int} {v2 : Int} {v3 : Int}  (k : am_X (am_FV G (d + 1) Q) mX4_asInner (0, 0) 15 [some (am_r (some 31)), some (am_i v1), some (am_i v2), some (am_i (v3 + 1)), none, none, none] [] (am_K0, σ)) : am_X (am_FV G (d + 1) Q) mX4_asInner (0, 0) 107 [some (am_r (some 31)), some (am_i v1), some (am_i v2), some (am_i v3), none, none, none] [] (am_K0, σ) := by
  refine am_r_iinc (nx := 110) rfl rfl (show decode cX4_asInner 107 = .ok (.iinc 3 1, 3) by decide +kernel) rfl ?_
  refine am_r_goto (tg := 15) (show decode cX4_asInner 110 = .ok (.goto (-95), 3) by decide +kernel) (by decide) ?_
  exact k
theorem S_X4_asInner_113 {G : am_G} {d : Nat} {Q : am_D → Prop} {σ : am_D} {v1 : Int} {v2 : Int}  (k : am_X (am_FV G (d + 1) Q) mX4_asInner (0, 0) 2 [some (am_r (some 31)), some (am_i v1), some (am_i (v2 + 1)), none, none, none, none] [] (am_K0, σ)) : am_X (am_FV G (d + 1) Q) mX4_asInner (0, 0) 113 [some (am_r (some 31)), some (am_i v1), some (am_i v2), none, none, none, none] [] (am_K0, σ) := by
  refine am_r_iinc (nx := 116) rfl rfl (show decode cX4_asInner 113 = .ok (.iinc 2 1, 3) by decide +kernel) rfl ?_
  refine am_r_goto (tg := 2) (show decode cX4_asInner 116 = .ok (.goto (-114), 3) by decide +kernel) (by decide) ?_
  exact k
theorem S_X4_asInner_119 {G : am_G} {d : Nat} {Q : am_D → Prop} {σ : am_D}   (k : Q σ) : am_X (am_FV G (d + 1) Q) mX4_asInner (0, 0) 119 [none, none, none, none, none, none, none] [] (am_K0, σ) := by
  exact am_r_vret rfl (show decode cX4_asInner 119 = .ok (.return_, 1) by decide +kernel) ⟨_, rfl, rfl, k⟩
theorem S_X4_nest_0 {G : am_G} {d : Nat} {Q : am_D → Prop} {σ : am_D} {v1 : Int} {v2 : Int} {v3 : Int} {Q' : Int → am_D → Prop} (hc : am_MI G d mX4_stateOf [am_i v2] σ Q') (k : ∀ (x : Int) (σ' : am_D), Q' x σ' → am_X (am_FV G (d + 1) Q) mX4_nest (0, 0) 9 [some (am_r (some 31)), some (am_i v1), some (am_i v2), some (am_i v3), none, none, none] [am_i x, am_i v3, am_r (σ.2.2 31 10)] (am_K0, σ')) : am_X (am_FV G (d + 1) Q) mX4_nest (0, 0) 0 [some (am_r (some 31)), some (am_i v1), some (am_i v2), some (am_i v3), none, none, none] [] (am_K0, σ) := by
  refine am_r_aload_n (nx := 1) rfl rfl (show decode cX4_nest 0 = .ok (.aload_n 0, 1) by decide +kernel) rfl ?_
  refine am_r_getR (nx := 4) 10 cw4 (by decide) rfl (Or.inl fl_X4_82) (ob_31) (show decode cX4_nest 1 = .ok (.getfield 82, 3) by decide +kernel) rfl ?_
  refine am_r_iload_n (nx := 5) rfl rfl (show decode cX4_nest 4 = .ok (.iload_n 3, 1) by decide +kernel) rfl ?_
  refine am_r_iload_n (nx := 6) rfl rfl (show decode cX4_nest 5 = .ok (.iload_n 2, 1) by decide +kernel) rfl ?_
  refine am_r_callS (as := [am_i v2]) (st := [am_i v3, am_r (σ.2.2 31 10)]) hc mb_X4_stateOf mv_X4_stateOf (Or.inl ml_X4_79) rfl rfl (Nat.le_of_ble_eq_true rfl) ⟨Nat.le_refl _, Nat.le_refl _⟩ ⟨Nat.le_refl _, Nat.le_refl _⟩ (show decode cX4_nest 6 = .ok (.invokestatic 79, 3) by decide +kernel) ?_
  rintro _ _ ⟨x, σ', rfl, rfl, hq⟩ _
  exact (k x σ' hq)
theorem S_X4_nest_9 {G : am_G} {d : Nat} {Q : am_D → Prop} {σ : am_D} {v1 : Int} {v2 : Int} {v3 : Int} {s1 : Int} {s2 : Int} {s0 : Nat} {Q' : Int → am_D → Prop} (hc : am_MI G d mX2_closesTo [am_r (some s0), am_i s1, am_i s2] σ Q') (hc1 : am_isM s0) (k : ∀ (x : Int) (σ' : am_D), Q' x σ' → am_X (am_FV G (d + 1) Q) mX4_nest (0, 0) 14 [some (am_r (some 31)), some (am_i v1), some (am_i v2), some (am_i v3), some (am_i x), none, none] [] (am_K0, σ')) : am_X (am_FV G (d + 1) Q) mX4_nest (0, 0) 9 [some (am_r (some 31)), some (am_i v1), some (am_i v2), some (am_i v3), none, none, none] [am_i s2, am_i s1, am_r (some s0)] (am_K0, σ) := by
  refine am_r_callV (as := [am_i s1, am_i s2]) (st := []) hc mb_X2_closesTo mv_X2_closesTo (Or.inl ml_X4_114) (obM hc1) (by omega) (r := (RX2, TX2, 16)) rfl rfl rfl rfl (Nat.le_of_ble_eq_true rfl) ⟨Nat.le_refl _, Nat.le_refl _⟩ ⟨Nat.le_refl _, Nat.le_refl _⟩ (show decode cX4_nest 9 = .ok (.invokevirtual 114, 3) by decide +kernel) ?_
  rintro _ _ ⟨x, σ', rfl, rfl, hq⟩ _
  refine am_r_istore (nx := 14) (by decide) rfl (show decode cX4_nest 12 = .ok (.istore 4, 2) by decide +kernel) rfl ?_
  exact (k x σ' hq)
theorem S_X4_nest_14 {G : am_G} {d : Nat} {Q : am_D → Prop} {σ : am_D} {v1 : Int} {v2 : Int} {v3 : Int} {v4 : Int} (hr1 : -2147483648 ≤ v4 ∧ v4 ≤ 2147483647) (k1 : ¬ v4 = (-1) → am_X (am_FV G (d + 1) Q) mX4_nest (0, 0) 21 [some (am_r (some 31)), some (am_i v1), some (am_i v2), some (am_i v3), some (am_i v4), none, none] [] (am_K0, σ)) (k2 : ¬ (¬ v4 = (-1)) → am_X (am_FV G (d + 1) Q) mX4_nest (0, 0) 20 [none, none, none, none, none, none, none] [] (am_K0, σ)) : am_X (am_FV G (d + 1) Q) mX4_nest (0, 0) 14 [some (am_r (some 31)), some (am_i v1), some (am_i v2), some (am_i v3), some (am_i v4), none, none] [] (am_K0, σ) := by
  refine am_r_iload (nx := 16) rfl (show decode cX4_nest 14 = .ok (.iload 4, 2) by decide +kernel) rfl ?_
  refine am_r_iconst (nx := 17) (show decode cX4_nest 16 = .ok (.iconst (-1), 1) by decide +kernel) rfl ?_
  refine am_r_icmp_ne (tg := 21) (nx := 20) (show decode cX4_nest 17 = .ok (.if_icmp .ne 4, 3) by decide +kernel) (by decide) rfl hr1 (by omega) ?_ ?_
  · exact fun q => k1 q
  · exact fun q => am_x_fg [0, 1, 2, 3, 4] (k2 q)
theorem S_X4_nest_20 {G : am_G} {d : Nat} {Q : am_D → Prop} {σ : am_D}   (k : Q σ) : am_X (am_FV G (d + 1) Q) mX4_nest (0, 0) 20 [none, none, none, none, none, none, none] [] (am_K0, σ) := by
  exact am_r_vret rfl (show decode cX4_nest 20 = .ok (.return_, 1) by decide +kernel) ⟨_, rfl, rfl, k⟩
theorem S_X4_nest_21 {G : am_G} {d : Nat} {Q : am_D → Prop} {σ : am_D} {v1 : Int} {v2 : Int} {v3 : Int} {v4 : Int} {Q' : Int → am_D → Prop} (hc : am_MI G d mX4_stateOf [am_i v2] σ Q') (k : ∀ (x : Int) (σ' : am_D), Q' x σ' → am_X (am_FV G (d + 1) Q) mX4_nest (0, 0) 30 [some (am_r (some 31)), some (am_i v1), some (am_i v2), none, some (am_i v4), none, none] [am_i x, am_i v3, am_r (σ.2.2 31 10)] (am_K0, σ')) : am_X (am_FV G (d + 1) Q) mX4_nest (0, 0) 21 [some (am_r (some 31)), some (am_i v1), some (am_i v2), some (am_i v3), some (am_i v4), none, none] [] (am_K0, σ) := by
  refine am_r_aload_n (nx := 22) rfl rfl (show decode cX4_nest 21 = .ok (.aload_n 0, 1) by decide +kernel) rfl ?_
  refine am_r_getR (nx := 25) 10 cw4 (by decide) rfl (Or.inl fl_X4_82) (ob_31) (show decode cX4_nest 22 = .ok (.getfield 82, 3) by decide +kernel) rfl ?_
  refine am_r_iload_n (nx := 26) rfl rfl (show decode cX4_nest 25 = .ok (.iload_n 3, 1) by decide +kernel) rfl ?_
  refine am_r_iload_n (nx := 27) rfl rfl (show decode cX4_nest 26 = .ok (.iload_n 2, 1) by decide +kernel) rfl ?_
  refine am_r_callS (as := [am_i v2]) (st := [am_i v3, am_r (σ.2.2 31 10)]) hc mb_X4_stateOf mv_X4_stateOf (Or.inl ml_X4_79) rfl rfl (Nat.le_of_ble_eq_true rfl) ⟨Nat.le_refl _, Nat.le_refl _⟩ ⟨Nat.le_refl _, Nat.le_refl _⟩ (show decode cX4_nest 27 = .ok (.invokestatic 79, 3) by decide +kernel) ?_
  rintro _ _ ⟨x, σ', rfl, rfl, hq⟩ _
  exact am_x_fg [3] (k x σ' hq)
theorem S_X4_nest_30 {G : am_G} {d : Nat} {Q : am_D → Prop} {σ : am_D} {v1 : Int} {v2 : Int} {v4 : Int} {s1 : Int} {s2 : Int} {s0 : Nat} {Q' : Int → am_D → Prop} (hc : am_MI G d mX2_closeTells [am_r (some s0), am_i s1, am_i s2] σ Q') (hc1 : am_isM s0) (k : ∀ (x : Int) (σ' : am_D), Q' x σ' → am_X (am_FV G (d + 1) Q) mX4_nest (0, 0) 35 [some (am_r (some 31)), some (am_i v1), some (am_i v2), none, some (am_i v4), some (am_i x), none] [] (am_K0, σ')) : am_X (am_FV G (d + 1) Q) mX4_nest (0, 0) 30 [some (am_r (some 31)), some (am_i v1), some (am_i v2), none, some (am_i v4), none, none] [am_i s2, am_i s1, am_r (some s0)] (am_K0, σ) := by
  refine am_r_callV (as := [am_i s1, am_i s2]) (st := []) hc mb_X2_closeTells mv_X2_closeTells (Or.inl ml_X4_117) (obM hc1) (by omega) (r := (RX2, TX2, 16)) rfl rfl rfl rfl (Nat.le_of_ble_eq_true rfl) ⟨Nat.le_refl _, Nat.le_refl _⟩ ⟨Nat.le_refl _, Nat.le_refl _⟩ (show decode cX4_nest 30 = .ok (.invokevirtual 117, 3) by decide +kernel) ?_
  rintro _ _ ⟨x, σ', rfl, rfl, hq⟩ _
  refine am_r_istore (nx := 35) (by decide) rfl (show decode cX4_nest 33 = .ok (.istore 5, 2) by decide +kernel) rfl ?_
  exact (k x σ' hq)
theorem S_X4_nest_35 {G : am_G} {d : Nat} {Q : am_D → Prop} {σ : am_D} {v1 : Int} {v2 : Int} {v4 : Int} {v5 : Int} {a1 : Nat} (ho2 : (σ.2.2 31 10) = some a1) (hc3 : am_isM a1) (hr4 : -2147483648 ≤ (σ.1 a1 1) ∧ (σ.1 a1 1) ≤ 2147483647) (k1 : ¬ (σ.1 a1 1) = 1 → am_X (am_FV G (d + 1) Q) mX4_nest (0, 0) 50 [some (am_r (some 31)), some (am_i v1), some (am_i v2), none, some (am_i v4), some (am_i v5), none] [] (am_K0, σ)) (k2 : ¬ (¬ (σ.1 a1 1) = 1) → am_X (am_FV G (d + 1) Q) mX4_nest (0, 0) 46 [some (am_r (some 31)), some (am_i v1), some (am_i v2), none, some (am_i v4), some (am_i v5), none] [] (am_K0, σ)) : am_X (am_FV G (d + 1) Q) mX4_nest (0, 0) 35 [some (am_r (some 31)), some (am_i v1), some (am_i v2), none, some (am_i v4), some (am_i v5), none] [] (am_K0, σ) := by
  refine am_r_aload_n (nx := 36) rfl rfl (show decode cX4_nest 35 = .ok (.aload_n 0, 1) by decide +kernel) rfl ?_
  refine am_r_getRs (nx := 39) 10 ho2 cw4 (by decide) rfl (Or.inl fl_X4_82) (ob_31) (show decode cX4_nest 36 = .ok (.getfield 82, 3) by decide +kernel) rfl ?_
  refine am_r_getI (nx := 42) 1 cw2 (by decide) rfl (Or.inr ⟨_, fl_X4_120⟩) (obM hc3) (show decode cX4_nest 39 = .ok (.getfield 120, 3) by decide +kernel) rfl ?_
  refine am_r_iconst (nx := 43) (show decode cX4_nest 42 = .ok (.iconst 1, 1) by decide +kernel) rfl ?_
  refine am_r_icmp_ne (tg := 50) (nx := 46) (show decode cX4_nest 43 = .ok (.if_icmp .ne 7, 3) by decide +kernel) (by decide) rfl hr4 (by omega) ?_ ?_
  · exact fun q => k1 q
  · exact fun q => k2 q
theorem S_X4_nest_46 {G : am_G} {d : Nat} {Q : am_D → Prop} {σ : am_D} {v1 : Int} {v2 : Int} {v4 : Int} {v5 : Int}  (k : am_X (am_FV G (d + 1) Q) mX4_nest (0, 0) 60 [some (am_r (some 31)), some (am_i v1), some (am_i v2), none, some (am_i v4), some (am_i v5), none] [am_i 4] (am_K0, σ)) : am_X (am_FV G (d + 1) Q) mX4_nest (0, 0) 46 [some (am_r (some 31)), some (am_i v1), some (am_i v2), none, some (am_i v4), some (am_i v5), none] [] (am_K0, σ) := by
  refine am_r_iconst (nx := 47) (show decode cX4_nest 46 = .ok (.iconst 4, 1) by decide +kernel) rfl ?_
  refine am_r_goto (tg := 60) (show decode cX4_nest 47 = .ok (.goto 13, 3) by decide +kernel) (by decide) ?_
  exact k
theorem S_X4_nest_50 {G : am_G} {d : Nat} {Q : am_D → Prop} {σ : am_D} {v1 : Int} {v2 : Int} {v4 : Int} {v5 : Int} {Q' : Int → am_D → Prop} (hc : am_MI G d mX4_kindOf [am_r (some 31), am_i (v5 + 1), am_i v1, am_i v2] σ Q') (k : ∀ (x : Int) (σ' : am_D), Q' x σ' → am_X (am_FV G (d + 1) Q) mX4_nest (0, 0) 60 [some (am_r (some 31)), some (am_i v1), some (am_i v2), none, some (am_i v4), some (am_i v5), none] [am_i x] (am_K0, σ')) : am_X (am_FV G (d + 1) Q) mX4_nest (0, 0) 50 [some (am_r (some 31)), some (am_i v1), some (am_i v2), none, some (am_i v4), some (am_i v5), none] [] (am_K0, σ) := by
  refine am_r_aload_n (nx := 51) rfl rfl (show decode cX4_nest 50 = .ok (.aload_n 0, 1) by decide +kernel) rfl ?_
  refine am_r_iload (nx := 53) rfl (show decode cX4_nest 51 = .ok (.iload 5, 2) by decide +kernel) rfl ?_
  refine am_r_iconst (nx := 54) (show decode cX4_nest 53 = .ok (.iconst 1, 1) by decide +kernel) rfl ?_
  refine am_r_iadd (nx := 55) (show decode cX4_nest 54 = .ok (.iadd, 1) by decide +kernel) rfl ?_
  refine am_r_iload_n (nx := 56) rfl rfl (show decode cX4_nest 55 = .ok (.iload_n 1, 1) by decide +kernel) rfl ?_
  refine am_r_iload_n (nx := 57) rfl rfl (show decode cX4_nest 56 = .ok (.iload_n 2, 1) by decide +kernel) rfl ?_
  refine am_r_callV (as := [am_i (v5 + 1), am_i v1, am_i v2]) (st := []) hc mb_X4_kindOf mv_X4_kindOf (Or.inl ml_X4_123) (ob_31) (by omega) (r := (RX4, TX4, 12)) rfl rfl rfl rfl (Nat.le_of_ble_eq_true rfl) ⟨Nat.le_refl _, Nat.le_refl _⟩ ⟨Nat.le_refl _, Nat.le_refl _⟩ (show decode cX4_nest 57 = .ok (.invokevirtual 123, 3) by decide +kernel) ?_
  rintro _ _ ⟨x, σ', rfl, rfl, hq⟩ _
  exact (k x σ' hq)
theorem S_X4_nest_60 {G : am_G} {d : Nat} {Q : am_D → Prop} {σ : am_D} {v1 : Int} {v2 : Int} {v4 : Int} {v5 : Int} {s0 : Int}  (k : am_X (am_FV G (d + 1) Q) mX4_nest (0, 0) 62 [some (am_r (some 31)), some (am_i v1), some (am_i v2), none, some (am_i v4), some (am_i v5), some (am_i s0)] [] (am_K0, σ)) : am_X (am_FV G (d + 1) Q) mX4_nest (0, 0) 60 [some (am_r (some 31)), some (am_i v1), some (am_i v2), none, some (am_i v4), some (am_i v5), none] [am_i s0] (am_K0, σ) := by
  refine am_r_istore (nx := 62) (by decide) rfl (show decode cX4_nest 60 = .ok (.istore 6, 2) by decide +kernel) rfl ?_
  exact k
theorem S_X4_nest_62 {G : am_G} {d : Nat} {Q : am_D → Prop} {σ : am_D} {v1 : Int} {v2 : Int} {v4 : Int} {v5 : Int} {v6 : Int} {Q' : Int → am_D → Prop} (hc : am_MI G d mX4_beginOf [am_i v1] σ Q') (k : ∀ (x : Int) (σ' : am_D), Q' x σ' → am_X (am_FV G (d + 1) Q) mX4_nest (0, 0) 67 [some (am_r (some 31)), some (am_i v1), some (am_i v2), none, some (am_i v4), some (am_i v5), some (am_i v6)] [am_i x, am_r (some 31)] (am_K0, σ')) : am_X (am_FV G (d + 1) Q) mX4_nest (0, 0) 62 [some (am_r (some 31)), some (am_i v1), some (am_i v2), none, some (am_i v4), some (am_i v5), some (am_i v6)] [] (am_K0, σ) := by
  refine am_r_aload_n (nx := 63) rfl rfl (show decode cX4_nest 62 = .ok (.aload_n 0, 1) by decide +kernel) rfl ?_
  refine am_r_iload_n (nx := 64) rfl rfl (show decode cX4_nest 63 = .ok (.iload_n 1, 1) by decide +kernel) rfl ?_
  refine am_r_callS (as := [am_i v1]) (st := [am_r (some 31)]) hc mb_X4_beginOf mv_X4_beginOf (Or.inl ml_X4_64) rfl rfl (Nat.le_of_ble_eq_true rfl) ⟨Nat.le_refl _, Nat.le_refl _⟩ ⟨Nat.le_refl _, Nat.le_refl _⟩ (show decode cX4_nest 64 = .ok (.invokestatic 64, 3) by decide +kernel) ?_
  rintro _ _ ⟨x, σ', rfl, rfl, hq⟩ _
  exact (k x σ' hq)
theorem S_X4_nest_67 {G : am_G} {d : Nat} {Q : am_D → Prop} {σ : am_D} {v1 : Int} {v2 : Int} {v4 : Int} {v5 : Int} {v6 : Int} {s1 : Int} {Q' : Int → am_D → Prop} (hc : am_MI G d mX4_kindOf [am_r (some 31), am_i v5, am_i v1, am_i v2] σ Q') (k : ∀ (x : Int) (σ' : am_D), Q' x σ' → am_X (am_FV G (d + 1) Q) mX4_nest (0, 0) 77 [none, none, none, none, none, none, some (am_i v6)] [am_i x, am_i v4, am_i s1, am_r (some 31)] (am_K0, σ')) : am_X (am_FV G (d + 1) Q) mX4_nest (0, 0) 67 [some (am_r (some 31)), some (am_i v1), some (am_i v2), none, some (am_i v4), some (am_i v5), some (am_i v6)] [am_i s1, am_r (some 31)] (am_K0, σ) := by
  refine am_r_iload (nx := 69) rfl (show decode cX4_nest 67 = .ok (.iload 4, 2) by decide +kernel) rfl ?_
  refine am_r_aload_n (nx := 70) rfl rfl (show decode cX4_nest 69 = .ok (.aload_n 0, 1) by decide +kernel) rfl ?_
  refine am_r_iload (nx := 72) rfl (show decode cX4_nest 70 = .ok (.iload 5, 2) by decide +kernel) rfl ?_
  refine am_r_iload_n (nx := 73) rfl rfl (show decode cX4_nest 72 = .ok (.iload_n 1, 1) by decide +kernel) rfl ?_
  refine am_r_iload_n (nx := 74) rfl rfl (show decode cX4_nest 73 = .ok (.iload_n 2, 1) by decide +kernel) rfl ?_
  refine am_r_callV (as := [am_i v5, am_i v1, am_i v2]) (st := [am_i v4, am_i s1, am_r (some 31)]) hc mb_X4_kindOf mv_X4_kindOf (Or.inl ml_X4_123) (ob_31) (by omega) (r := (RX4, TX4, 12)) rfl rfl rfl rfl (Nat.le_of_ble_eq_true rfl) ⟨Nat.le_refl _, Nat.le_refl _⟩ ⟨Nat.le_refl _, Nat.le_refl _⟩ (show decode cX4_nest 74 = .ok (.invokevirtual 123, 3) by decide +kernel) ?_
  rintro _ _ ⟨x, σ', rfl, rfl, hq⟩ _
  exact am_x_fg [0, 1, 2, 4, 5] (k x σ' hq)
theorem S_X4_nest_77 {G : am_G} {d : Nat} {Q : am_D → Prop} {σ : am_D} {v6 : Int} {s1 : Int} {s2 : Int} {s3 : Int} {Q' : am_D → Prop} (hc : am_MV G d mX4_note [am_r (some 31), am_i s1, am_i s2, am_i (s3 + (am_shl v6 4))] σ Q') (k : ∀ σ' : am_D, Q' σ' → am_X (am_FV G (d + 1) Q) mX4_nest (0, 0) 85 [none, none, none, none, none, none, none] [] (am_K0, σ')) : am_X (am_FV G (d + 1) Q) mX4_nest (0, 0) 77 [none, none, none, none, none, none, some (am_i v6)] [am_i s3, am_i s2, am_i s1, am_r (some 31)] (am_K0, σ) := by
  refine am_r_iload (nx := 79) rfl (show decode cX4_nest 77 = .ok (.iload 6, 2) by decide +kernel) rfl ?_
  refine am_r_iconst (nx := 80) (show decode cX4_nest 79 = .ok (.iconst 4, 1) by decide +kernel) rfl ?_
  refine am_r_ishl (nx := 81) (show decode cX4_nest 80 = .ok (.ishl, 1) by decide +kernel) rfl ?_
  refine am_r_iadd (nx := 82) (show decode cX4_nest 81 = .ok (.iadd, 1) by decide +kernel) rfl ?_
  refine am_r_callV (as := [am_i s1, am_i s2, am_i (s3 + (am_shl v6 4))]) (st := []) hc mb_X4_note mv_X4_note (Or.inl ml_X4_48) (ob_31) (by omega) (r := (RX4, TX4, 12)) rfl rfl rfl rfl (Nat.le_of_ble_eq_true rfl) ⟨Nat.le_refl _, Nat.le_refl _⟩ ⟨Nat.le_refl _, Nat.le_refl _⟩ (show decode cX4_nest 82 = .ok (.invokevirtual 48, 3) by decide +kernel) ?_
  rintro _ _ ⟨σ', rfl, rfl, hq⟩ _
  exact am_x_fg [6] (k σ' hq)
theorem S_X4_nest_85 {G : am_G} {d : Nat} {Q : am_D → Prop} {σ : am_D}   (k : Q σ) : am_X (am_FV G (d + 1) Q) mX4_nest (0, 0) 85 [none, none, none, none, none, none, none] [] (am_K0, σ) := by
  exact am_r_vret rfl (show decode cX4_nest 85 = .ok (.return_, 1) by decide +kernel) ⟨_, rfl, rfl, k⟩
theorem S_X4_spoilsAtEnd_0 {G : am_G} {d : Nat} {Q : Int → am_D → Prop} {σ : am_D} {v1 : Int} {Q' : Int → am_D → Prop} (hc : am_MI G d mX4_stateOf [am_i v1] σ Q') (k : ∀ (x : Int) (σ' : am_D), Q' x σ' → am_X (am_FI G (d + 1) Q) mX4_spoilsAtEnd (0, 0) 8 [some (am_r (some 31)), some (am_i v1), none, none] [am_i x, am_r (σ.2.2 31 10)] (am_K0, σ')) : am_X (am_FI G (d + 1) Q) mX4_spoilsAtEnd (0, 0) 0 [some (am_r (some 31)), some (am_i v1), none, none] [] (am_K0, σ) := by
  refine am_r_aload_n (nx := 1) rfl rfl (show decode cX4_spoilsAtEnd 0 = .ok (.aload_n 0, 1) by decide +kernel) rfl ?_
  refine am_r_getR (nx := 4) 10 cw4 (by decide) rfl (Or.inl fl_X4_82) (ob_31) (show decode cX4_spoilsAtEnd 1 = .ok (.getfield 82, 3) by decide +kernel) rfl ?_
  refine am_r_iload_n (nx := 5) rfl rfl (show decode cX4_spoilsAtEnd 4 = .ok (.iload_n 1, 1) by decide +kernel) rfl ?_
  refine am_r_callS (as := [am_i v1]) (st := [am_r (σ.2.2 31 10)]) hc mb_X4_stateOf mv_X4_stateOf (Or.inl ml_X4_79) rfl rfl (Nat.le_of_ble_eq_true rfl) ⟨Nat.le_refl _, Nat.le_refl _⟩ ⟨Nat.le_refl _, Nat.le_refl _⟩ (show decode cX4_spoilsAtEnd 5 = .ok (.invokestatic 79, 3) by decide +kernel) ?_
  rintro _ _ ⟨x, σ', rfl, rfl, hq⟩ _
  exact (k x σ' hq)
theorem S_X4_spoilsAtEnd_8 {G : am_G} {d : Nat} {Q : Int → am_D → Prop} {σ : am_D} {v1 : Int} {s1 : Int} {s0 : Nat} {Q' : Int → am_D → Prop} (hc : am_MI G d mX2_endTells [am_r (some s0), am_i s1] σ Q') (hc1 : am_isM s0) (k : ∀ (x : Int) (σ' : am_D), Q' x σ' → am_X (am_FI G (d + 1) Q) mX4_spoilsAtEnd (0, 0) 12 [some (am_r (some 31)), some (am_i v1), some (am_i x), none] [] (am_K0, σ')) : am_X (am_FI G (d + 1) Q) mX4_spoilsAtEnd (0, 0) 8 [some (am_r (some 31)), some (am_i v1), none, none] [am_i s1, am_r (some s0)] (am_K0, σ) := by
  refine am_r_callV (as := [am_i s1]) (st := []) hc mb_X2_endTells mv_X2_endTells (Or.inl ml_X4_127) (obM hc1) (by omega) (r := (RX2, TX2, 16)) rfl rfl rfl rfl (Nat.le_of_ble_eq_true rfl) ⟨Nat.le_refl _, Nat.le_refl _⟩ ⟨Nat.le_refl _, Nat.le_refl _⟩ (show decode cX4_spoilsAtEnd 8 = .ok (.invokevirtual 127, 3) by decide +kernel) ?_
  rintro _ _ ⟨x, σ', rfl, rfl, hq⟩ _
  refine am_r_istore_n (nx := 12) rfl (by decide) rfl (show decode cX4_spoilsAtEnd 11 = .ok (.istore_n 2, 1) by decide +kernel) rfl ?_
  exact (k x σ' hq)
theorem S_X4_spoilsAtEnd_12 {G : am_G} {d : Nat} {Q : Int → am_D → Prop} {σ : am_D} {v1 : Int} {v2 : Int} {Q' : Int → am_D → Prop} (hc : am_MI G d mX4_beginOf [am_i v1] σ Q') (k : ∀ (x : Int) (σ' : am_D), Q' x σ' → am_X (am_FI G (d + 1) Q) mX4_spoilsAtEnd (0, 0) 16 [some (am_r (some 31)), some (am_i v1), some (am_i v2), none] [am_i x] (am_K0, σ')) : am_X (am_FI G (d + 1) Q) mX4_spoilsAtEnd (0, 0) 12 [some (am_r (some 31)), some (am_i v1), some (am_i v2), none] [] (am_K0, σ) := by
  refine am_r_iload_n (nx := 13) rfl rfl (show decode cX4_spoilsAtEnd 12 = .ok (.iload_n 1, 1) by decide +kernel) rfl ?_
  refine am_r_callS (as := [am_i v1]) (st := []) hc mb_X4_beginOf mv_X4_beginOf (Or.inl ml_X4_64) rfl rfl (Nat.le_of_ble_eq_true rfl) ⟨Nat.le_refl _, Nat.le_refl _⟩ ⟨Nat.le_refl _, Nat.le_refl _⟩ (show decode cX4_spoilsAtEnd 13 = .ok (.invokestatic 64, 3) by decide +kernel) ?_
  rintro _ _ ⟨x, σ', rfl, rfl, hq⟩ _
  exact (k x σ' hq)
theorem S_X4_spoilsAtEnd_16 {G : am_G} {d : Nat} {Q : Int → am_D → Prop} {σ : am_D} {v1 : Int} {v2 : Int} {s0 : Int} (hr1 : -2147483648 ≤ s0 ∧ s0 ≤ 2147483647) (k1 : ¬ s0 = 0 → am_X (am_FI G (d + 1) Q) mX4_spoilsAtEnd (0, 0) 24 [none, none, none, none] [] (am_K0, σ)) (k2 : ¬ (¬ s0 = 0) → am_X (am_FI G (d + 1) Q) mX4_spoilsAtEnd (0, 0) 19 [some (am_r (some 31)), some (am_i v1), some (am_i v2), none] [] (am_K0, σ)) : am_X (am_FI G (d + 1) Q) mX4_spoilsAtEnd (0, 0) 16 [some (am_r (some 31)), some (am_i v1), some (am_i v2), none] [am_i s0] (am_K0, σ) := by
  refine am_r_if_ne (tg := 24) (nx := 19) (show decode cX4_spoilsAtEnd 16 = .ok (.ifCond .ne 8, 3) by decide +kernel) (by decide) rfl hr1 ?_ ?_
  · exact fun q => am_x_fg [0, 1, 2] (k1 q)
  · exact fun q => k2 q
theorem S_X4_spoilsAtEnd_19 {G : am_G} {d : Nat} {Q : Int → am_D → Prop} {σ : am_D} {v1 : Int} {v2 : Int} (hr1 : -2147483648 ≤ v2 ∧ v2 ≤ 2147483647) (k1 : ¬ v2 = (-1) → am_X (am_FI G (d + 1) Q) mX4_spoilsAtEnd (0, 0) 26 [some (am_r (some 31)), some (am_i v1), some (am_i v2), none] [] (am_K0, σ)) (k2 : ¬ (¬ v2 = (-1)) → am_X (am_FI G (d + 1) Q) mX4_spoilsAtEnd (0, 0) 24 [none, none, none, none] [] (am_K0, σ)) : am_X (am_FI G (d + 1) Q) mX4_spoilsAtEnd (0, 0) 19 [some (am_r (some 31)), some (am_i v1), some (am_i v2), none] [] (am_K0, σ) := by
  refine am_r_iload_n (nx := 20) rfl rfl (show decode cX4_spoilsAtEnd 19 = .ok (.iload_n 2, 1) by decide +kernel) rfl ?_
  refine am_r_iconst (nx := 21) (show decode cX4_spoilsAtEnd 20 = .ok (.iconst (-1), 1) by decide +kernel) rfl ?_
  refine am_r_icmp_ne (tg := 26) (nx := 24) (show decode cX4_spoilsAtEnd 21 = .ok (.if_icmp .ne 5, 3) by decide +kernel) (by decide) rfl hr1 (by omega) ?_ ?_
  · exact fun q => k1 q
  · exact fun q => am_x_fg [0, 1, 2] (k2 q)
theorem S_X4_spoilsAtEnd_24 {G : am_G} {d : Nat} {Q : Int → am_D → Prop} {σ : am_D}   (k : Q 0 σ) : am_X (am_FI G (d + 1) Q) mX4_spoilsAtEnd (0, 0) 24 [none, none, none, none] [] (am_K0, σ) := by
  refine am_r_iconst (nx := 25) (show decode cX4_spoilsAtEnd 24 = .ok (.iconst 0, 1) by decide +kernel) rfl ?_
  exact am_r_iret rfl rfl (show decode cX4_spoilsAtEnd 25 = .ok (.ireturn, 1) by decide +kernel) ⟨_, _, rfl, rfl, k⟩
theorem S_X4_spoilsAtEnd_26 {G : am_G} {d : Nat} {Q : Int → am_D → Prop} {σ : am_D} {v1 : Int} {v2 : Int} {Q' : Int → am_D → Prop} (hc : am_MI G d mX4_kindOf [am_r (some 31), am_i v2, am_i v1, am_i v1] σ Q') (k : ∀ (x : Int) (σ' : am_D), Q' x σ' → am_X (am_FI G (d + 1) Q) mX4_spoilsAtEnd (0, 0) 33 [some (am_r (some 31)), none, none, none] [am_i x] (am_K0, σ')) : am_X (am_FI G (d + 1) Q) mX4_spoilsAtEnd (0, 0) 26 [some (am_r (some 31)), some (am_i v1), some (am_i v2), none] [] (am_K0, σ) := by
  refine am_r_aload_n (nx := 27) rfl rfl (show decode cX4_spoilsAtEnd 26 = .ok (.aload_n 0, 1) by decide +kernel) rfl ?_
  refine am_r_iload_n (nx := 28) rfl rfl (show decode cX4_spoilsAtEnd 27 = .ok (.iload_n 2, 1) by decide +kernel) rfl ?_
  refine am_r_iload_n (nx := 29) rfl rfl (show decode cX4_spoilsAtEnd 28 = .ok (.iload_n 1, 1) by decide +kernel) rfl ?_
  refine am_r_iload_n (nx := 30) rfl rfl (show decode cX4_spoilsAtEnd 29 = .ok (.iload_n 1, 1) by decide +kernel) rfl ?_
  refine am_r_callV (as := [am_i v2, am_i v1, am_i v1]) (st := []) hc mb_X4_kindOf mv_X4_kindOf (Or.inl ml_X4_123) (ob_31) (by omega) (r := (RX4, TX4, 12)) rfl rfl rfl rfl (Nat.le_of_ble_eq_true rfl) ⟨Nat.le_refl _, Nat.le_refl _⟩ ⟨Nat.le_refl _, Nat.le_refl _⟩ (show decode cX4_spoilsAtEnd 30 = .ok (.invokevirtual 123, 3) by decide +kernel) ?_
  rintro _ _ ⟨x, σ', rfl, rfl, hq⟩ _
  exact am_x_fg [1, 2] (k x σ' hq)
theorem S_X4_spoilsAtEnd_33 {G : am_G} {d : Nat} {Q : Int → am_D → Prop} {σ : am_D} {s0 : Int} {Q' : Int → am_D → Prop} (hc : am_MI G d mX1_to [am_i s0, am_i 0] σ Q') (k : ∀ (x : Int) (σ' : am_D), Q' x σ' → am_X (am_FI G (d + 1) Q) mX4_spoilsAtEnd (0, 0) 38 [some (am_r (some 31)), none, none, some (am_i x)] [] (am_K0, σ')) : am_X (am_FI G (d + 1) Q) mX4_spoilsAtEnd (0, 0) 33 [some (am_r (some 31)), none, none, none] [am_i s0] (am_K0, σ) := by
  refine am_r_iconst (nx := 34) (show decode cX4_spoilsAtEnd 33 = .ok (.iconst 0, 1) by decide +kernel) rfl ?_
  refine am_r_callS (as := [am_i s0, am_i 0]) (st := []) hc mb_X1_to mv_X1_to (Or.inl ml_X4_130) rfl rfl (Nat.le_of_ble_eq_true rfl) ⟨Nat.le_refl _, Nat.le_refl _⟩ ⟨Nat.le_refl _, Nat.le_refl _⟩ (show decode cX4_spoilsAtEnd 34 = .ok (.invokestatic 130, 3) by decide +kernel) ?_
  rintro _ _ ⟨x, σ', rfl, rfl, hq⟩ _
  refine am_r_istore_n (nx := 38) rfl (by decide) rfl (show decode cX4_spoilsAtEnd 37 = .ok (.istore_n 3, 1) by decide +kernel) rfl ?_
  exact (k x σ' hq)
theorem S_X4_spoilsAtEnd_38 {G : am_G} {d : Nat} {Q : Int → am_D → Prop} {σ : am_D} {v3 : Int} (hr1 : -2147483648 ≤ v3 ∧ v3 ≤ 2147483647) (k1 : v3 = 2 → am_X (am_FI G (d + 1) Q) mX4_spoilsAtEnd (0, 0) 55 [none, none, none, none] [] (am_K0, σ)) (k2 : ¬ (v3 = 2) → am_X (am_FI G (d + 1) Q) mX4_spoilsAtEnd (0, 0) 43 [some (am_r (some 31)), none, none, some (am_i v3)] [] (am_K0, σ)) : am_X (am_FI G (d + 1) Q) mX4_spoilsAtEnd (0, 0) 38 [some (am_r (some 31)), none, none, some (am_i v3)] [] (am_K0, σ) := by
  refine am_r_iload_n (nx := 39) rfl rfl (show decode cX4_spoilsAtEnd 38 = .ok (.iload_n 3, 1) by decide +kernel) rfl ?_
  refine am_r_iconst (nx := 40) (show decode cX4_spoilsAtEnd 39 = .ok (.iconst 2, 1) by decide +kernel) rfl ?_
  refine am_r_icmp_eq (tg := 55) (nx := 43) (show decode cX4_spoilsAtEnd 40 = .ok (.if_icmp .eq 15, 3) by decide +kernel) (by decide) rfl hr1 (by omega) ?_ ?_
  · exact fun q => am_x_fg [0, 3] (k1 q)
  · exact fun q => k2 q
theorem S_X4_spoilsAtEnd_43 {G : am_G} {d : Nat} {Q : Int → am_D → Prop} {σ : am_D} {v3 : Int} {a1 : Nat} {Q' : Int → am_D → Prop} (ho2 : (σ.2.2 31 11) = some a1) (hc : am_MI G d mX2_endTells [am_r (some a1), am_i v3] σ Q') (hc3 : am_isM a1) (k : ∀ (x : Int) (σ' : am_D), Q' x σ' → am_X (am_FI G (d + 1) Q) mX4_spoilsAtEnd (0, 0) 51 [none, none, none, none] [am_i x] (am_K0, σ')) : am_X (am_FI G (d + 1) Q) mX4_spoilsAtEnd (0, 0) 43 [some (am_r (some 31)), none, none, some (am_i v3)] [] (am_K0, σ) := by
  refine am_r_aload_n (nx := 44) rfl rfl (show decode cX4_spoilsAtEnd 43 = .ok (.aload_n 0, 1) by decide +kernel) rfl ?_
  refine am_r_getRs (nx := 47) 11 ho2 cw4 (by decide) rfl (Or.inl fl_X4_86) (ob_31) (show decode cX4_spoilsAtEnd 44 = .ok (.getfield 86, 3) by decide +kernel) rfl ?_
  refine am_r_iload_n (nx := 48) rfl rfl (show decode cX4_spoilsAtEnd 47 = .ok (.iload_n 3, 1) by decide +kernel) rfl ?_
  refine am_r_callV (as := [am_i v3]) (st := []) hc mb_X2_endTells mv_X2_endTells (Or.inl ml_X4_127) (obM hc3) (by omega) (r := (RX2, TX2, 16)) rfl rfl rfl rfl (Nat.le_of_ble_eq_true rfl) ⟨Nat.le_refl _, Nat.le_refl _⟩ ⟨Nat.le_refl _, Nat.le_refl _⟩ (show decode cX4_spoilsAtEnd 48 = .ok (.invokevirtual 127, 3) by decide +kernel) ?_
  rintro _ _ ⟨x, σ', rfl, rfl, hq⟩ _
  exact am_x_fg [0, 3] (k x σ' hq)
theorem S_X4_spoilsAtEnd_51 {G : am_G} {d : Nat} {Q : Int → am_D → Prop} {σ : am_D} {s0 : Int} (hr1 : -2147483648 ≤ s0 ∧ s0 ≤ 2147483647) (k1 : ¬ s0 = (-1) → am_X (am_FI G (d + 1) Q) mX4_spoilsAtEnd (0, 0) 59 [none, none, none, none] [] (am_K0, σ)) (k2 : ¬ (¬ s0 = (-1)) → am_X (am_FI G (d + 1) Q) mX4_spoilsAtEnd (0, 0) 55 [none, none, none, none] [] (am_K0, σ)) : am_X (am_FI G (d + 1) Q) mX4_spoilsAtEnd (0, 0) 51 [none, none, none, none] [am_i s0] (am_K0, σ) := by
  refine am_r_iconst (nx := 52) (show decode cX4_spoilsAtEnd 51 = .ok (.iconst (-1), 1) by decide +kernel) rfl ?_
  refine am_r_icmp_ne (tg := 59) (nx := 55) (show decode cX4_spoilsAtEnd 52 = .ok (.if_icmp .ne 7, 3) by decide +kernel) (by decide) rfl hr1 (by omega) ?_ ?_
  · exact fun q => k1 q
  · exact fun q => k2 q
theorem S_X4_spoilsAtEnd_55 {G : am_G} {d : Nat} {Q : Int → am_D → Prop} {σ : am_D}   (k : am_X (am_FI G (d + 1) Q) mX4_spoilsAtEnd (0, 0) 60 [none, none, none, none] [am_i 1] (am_K0, σ)) : am_X (am_FI G (d + 1) Q) mX4_spoilsAtEnd (0, 0) 55 [none, none, none, none] [] (am_K0, σ) := by
  refine am_r_iconst (nx := 56) (show decode cX4_spoilsAtEnd 55 = .ok (.iconst 1, 1) by decide +kernel) rfl ?_
  refine am_r_goto (tg := 60) (show decode cX4_spoilsAtEnd 56 = .ok (.goto 4, 3) by decide +kernel) (by decide) ?_
  exact k
theorem S_X4_spoilsAtEnd_59 {G : am_G} {d : Nat} {Q : Int → am_D → Prop} {σ : am_D}   (k : am_X (am_FI G (d + 1) Q) mX4_spoilsAtEnd (0, 0) 60 [none, none, none, none] [am_i 0] (am_K0, σ)) : am_X (am_FI G (d + 1) Q) mX4_spoilsAtEnd (0, 0) 59 [none, none, none, none] [] (am_K0, σ) := by
  refine am_r_iconst (nx := 60) (show decode cX4_spoilsAtEnd 59 = .ok (.iconst 0, 1) by decide +kernel) rfl ?_
  exact k
theorem S_X4_spoilsAtEnd_60 {G : am_G} {d : Nat} {Q : Int → am_D → Prop} {σ : am_D} {s0 : Int} (hz : s0 = 0 ∨ s0 = 1) (k : Q s0 σ) : am_X (am_FI G (d + 1) Q) mX4_spoilsAtEnd (0, 0) 60 [none, none, none, none] [am_i s0] (am_K0, σ) := by
  exact am_r_iret rfl (by rcases hz with hz | hz <;> rw [hz] <;> rfl) (show decode cX4_spoilsAtEnd 60 = .ok (.ireturn, 1) by decide +kernel) ⟨_, _, rfl, rfl, k⟩
theorem S_X4_kindOf_0 {G : am_G} {d : Nat} {Q : Int → am_D → Prop} {σ : am_D} {v1 : Int} {v2 : Int} {v3 : Int}  (k : am_X (am_FI G (d + 1) Q) mX4_kindOf (0, 0) 3 [some (am_r (some 31)), some (am_i v1), some (am_i v2), some (am_i v3), some (am_i 4), none, none, none, none, none] [] (am_K0, σ)) : am_X (am_FI G (d + 1) Q) mX4_kindOf (0, 0) 0 [some (am_r (some 31)), some (am_i v1), some (am_i v2), some (am_i v3), none, none, none, none, none, none] [] (am_K0, σ) := by
  refine am_r_iconst (nx := 1) (show decode cX4_kindOf 0 = .ok (.iconst 4, 1) by decide +kernel) rfl ?_
  refine am_r_istore (nx := 3) (by decide) rfl (show decode cX4_kindOf 1 = .ok (.istore 4, 2) by decide +kernel) rfl ?_
  exact k
theorem S_X4_kindOf_3 {G : am_G} {d : Nat} {Q : Int → am_D → Prop} {σ : am_D} {v1 : Int} {v2 : Int} {v3 : Int} {v4 : Int}  (k : am_X (am_FI G (d + 1) Q) mX4_kindOf (0, 0) 6 [some (am_r (some 31)), some (am_i v1), some (am_i v2), some (am_i v3), some (am_i v4), some (am_i 0), none, none, none, none] [] (am_K0, σ)) : am_X (am_FI G (d + 1) Q) mX4_kindOf (0, 0) 3 [some (am_r (some 31)), some (am_i v1), some (am_i v2), some (am_i v3), some (am_i v4), none, none, none, none, none] [] (am_K0, σ) := by
  refine am_r_iconst (nx := 4) (show decode cX4_kindOf 3 = .ok (.iconst 0, 1) by decide +kernel) rfl ?_
  refine am_r_istore (nx := 6) (by decide) rfl (show decode cX4_kindOf 4 = .ok (.istore 5, 2) by decide +kernel) rfl ?_
  exact k
theorem S_X4_kindOf_6 {G : am_G} {d : Nat} {Q : Int → am_D → Prop} {σ : am_D} {v1 : Int} {v2 : Int} {v3 : Int} {v4 : Int} {v5 : Int} {a1 : Nat} {Q' : Int → am_D → Prop} (ho2 : (σ.2.2 31 10) = some a1) (hc3 : am_isM a1) (hc : am_MI G d mX10_at [am_r (some (a1 + 7)), am_i (v1 + 1)] σ Q') (k : ∀ (x : Int) (σ' : am_D), Q' x σ' → am_X (am_FI G (d + 1) Q) mX4_kindOf (0, 0) 21 [some (am_r (some 31)), some (am_i v1), some (am_i v2), some (am_i v3), some (am_i v4), some (am_i v5), some (am_i x), none, none, none] [] (am_K0, σ')) : am_X (am_FI G (d + 1) Q) mX4_kindOf (0, 0) 6 [some (am_r (some 31)), some (am_i v1), some (am_i v2), some (am_i v3), some (am_i v4), some (am_i v5), none, none, none, none] [] (am_K0, σ) := by
  refine am_r_aload_n (nx := 7) rfl rfl (show decode cX4_kindOf 6 = .ok (.aload_n 0, 1) by decide +kernel) rfl ?_
  refine am_r_getRs (nx := 10) 10 ho2 cw4 (by decide) rfl (Or.inl fl_X4_82) (ob_31) (show decode cX4_kindOf 7 = .ok (.getfield 82, 3) by decide +kernel) rfl ?_
  refine am_r_getF (nx := 13) 13 cw2 (by decide) rfl (Or.inr ⟨_, fl_X4_133⟩) (obM hc3) (fnM13 hc3) (show decode cX4_kindOf 10 = .ok (.getfield 133, 3) by decide +kernel) rfl ?_
  refine am_r_iload_n (nx := 14) rfl rfl (show decode cX4_kindOf 13 = .ok (.iload_n 1, 1) by decide +kernel) rfl ?_
  refine am_r_iconst (nx := 15) (show decode cX4_kindOf 14 = .ok (.iconst 1, 1) by decide +kernel) rfl ?_
  refine am_r_iadd (nx := 16) (show decode cX4_kindOf 15 = .ok (.iadd, 1) by decide +kernel) rfl ?_
  refine am_r_callS (as := [am_r (some (a1 + 7)), am_i (v1 + 1)]) (st := []) hc mb_X10_at mv_X10_at (Or.inr ⟨_, ml_X4_56⟩) rfl rfl (Nat.le_of_ble_eq_true rfl) ⟨Nat.le_refl _, Nat.le_refl _⟩ ⟨Nat.le_refl _, Nat.le_refl _⟩ (show decode cX4_kindOf 16 = .ok (.invokestatic 56, 3) by decide +kernel) ?_
  rintro _ _ ⟨x, σ', rfl, rfl, hq⟩ _
  refine am_r_istore (nx := 21) (by decide) rfl (show decode cX4_kindOf 19 = .ok (.istore 6, 2) by decide +kernel) rfl ?_
  exact (k x σ' hq)
theorem S_X4_kindOf_21 {G : am_G} {d : Nat} {Q : Int → am_D → Prop} {σ : am_D} {v1 : Int} {v2 : Int} {v3 : Int} {v4 : Int} {v5 : Int} {v6 : Int} {a1 : Nat} {Q' : Int → am_D → Prop} (ho2 : (σ.2.2 31 10) = some a1) (hc3 : am_isM a1) (hc : am_MI G d mX10_at [am_r (some (a1 + 7)), am_i v1] σ Q') (k : ∀ (x : Int) (σ' : am_D), Q' x σ' → am_X (am_FI G (d + 1) Q) mX4_kindOf (0, 0) 34 [some (am_r (some 31)), none, some (am_i v2), some (am_i v3), some (am_i v4), some (am_i v5), some (am_i v6), some (am_i x), none, none] [] (am_K0, σ')) : am_X (am_FI G (d + 1) Q) mX4_kindOf (0, 0) 21 [some (am_r (some 31)), some (am_i v1), some (am_i v2), some (am_i v3), some (am_i v4), some (am_i v5), some (am_i v6), none, none, none] [] (am_K0, σ) := by
  refine am_r_aload_n (nx := 22) rfl rfl (show decode cX4_kindOf 21 = .ok (.aload_n 0, 1) by decide +kernel) rfl ?_
  refine am_r_getRs (nx := 25) 10 ho2 cw4 (by decide) rfl (Or.inl fl_X4_82) (ob_31) (show decode cX4_kindOf 22 = .ok (.getfield 82, 3) by decide +kernel) rfl ?_
  refine am_r_getF (nx := 28) 13 cw2 (by decide) rfl (Or.inr ⟨_, fl_X4_133⟩) (obM hc3) (fnM13 hc3) (show decode cX4_kindOf 25 = .ok (.getfield 133, 3) by decide +kernel) rfl ?_
  refine am_r_iload_n (nx := 29) rfl rfl (show decode cX4_kindOf 28 = .ok (.iload_n 1, 1) by decide +kernel) rfl ?_
  refine am_r_callS (as := [am_r (some (a1 + 7)), am_i v1]) (st := []) hc mb_X10_at mv_X10_at (Or.inr ⟨_, ml_X4_56⟩) rfl rfl (Nat.le_of_ble_eq_true rfl) ⟨Nat.le_refl _, Nat.le_refl _⟩ ⟨Nat.le_refl _, Nat.le_refl _⟩ (show decode cX4_kindOf 29 = .ok (.invokestatic 56, 3) by decide +kernel) ?_
  rintro _ _ ⟨x, σ', rfl, rfl, hq⟩ _
  refine am_r_istore (nx := 34) (by decide) rfl (show decode cX4_kindOf 32 = .ok (.istore 7, 2) by decide +kernel) rfl ?_
  exact am_x_fg [1] (k x σ' hq)
theorem S_X4_kindOf_34 {G : am_G} {d : Nat} {Q : Int → am_D → Prop} {σ : am_D} {v2 : Int} {v3 : Int} {v4 : Int} {v5 : Int} {v6 : Int} {v7 : Int} (hr1 : -2147483648 ≤ v7 ∧ v7 ≤ 2147483647) (hr2 : -2147483648 ≤ v6 ∧ v6 ≤ 2147483647) (k1 : v6 ≤ v7 → am_X (am_FI G (d + 1) Q) mX4_kindOf (0, 0) 183 [none, none, none, none, some (am_i v4), none, none, none, none, none] [] (am_K0, σ)) (k2 : ¬ (v6 ≤ v7) → am_X (am_FI G (d + 1) Q) mX4_kindOf (0, 0) 41 [some (am_r (some 31)), none, some (am_i v2), some (am_i v3), some (am_i v4), some (am_i v5), some (am_i v6), some (am_i v7), none, none] [] (am_K0, σ)) : am_X (am_FI G (d + 1) Q) mX4_kindOf (0, 0) 34 [some (am_r (some 31)), none, some (am_i v2), some (am_i v3), some (am_i v4), some (am_i v5), some (am_i v6), some (am_i v7), none, none] [] (am_K0, σ) := by
  refine am_r_iload (nx := 36) rfl (show decode cX4_kindOf 34 = .ok (.iload 7, 2) by decide +kernel) rfl ?_
  refine am_r_iload (nx := 38) rfl (show decode cX4_kindOf 36 = .ok (.iload 6, 2) by decide +kernel) rfl ?_
  refine am_r_icmp_ge (tg := 183) (nx := 41) (show decode cX4_kindOf 38 = .ok (.if_icmp .ge 145, 3) by decide +kernel) (by decide) rfl hr1 hr2 ?_ ?_
  · exact fun q => am_x_fg [0, 2, 3, 5, 6, 7] (k1 q)
  · exact fun q => k2 q
theorem S_X4_kindOf_41 {G : am_G} {d : Nat} {Q : Int → am_D → Prop} {σ : am_D} {v2 : Int} {v3 : Int} {v4 : Int} {v5 : Int} {v6 : Int} {v7 : Int} {a1 : Nat} {Q' : Int → am_D → Prop} (ho2 : (σ.2.2 31 10) = some a1) (hc3 : am_isM a1) (hc : am_MI G d mX10_at [am_r (some (a1 + 6)), am_i v7] σ Q') (k : ∀ (x : Int) (σ' : am_D), Q' x σ' → am_X (am_FI G (d + 1) Q) mX4_kindOf (0, 0) 55 [some (am_r (some 31)), none, some (am_i v2), some (am_i v3), some (am_i v4), some (am_i v5), some (am_i v6), some (am_i v7), some (am_i x), none] [] (am_K0, σ')) : am_X (am_FI G (d + 1) Q) mX4_kindOf (0, 0) 41 [some (am_r (some 31)), none, some (am_i v2), some (am_i v3), some (am_i v4), some (am_i v5), some (am_i v6), some (am_i v7), none, none] [] (am_K0, σ) := by
  refine am_r_aload_n (nx := 42) rfl rfl (show decode cX4_kindOf 41 = .ok (.aload_n 0, 1) by decide +kernel) rfl ?_
  refine am_r_getRs (nx := 45) 10 ho2 cw4 (by decide) rfl (Or.inl fl_X4_82) (ob_31) (show decode cX4_kindOf 42 = .ok (.getfield 82, 3) by decide +kernel) rfl ?_
  refine am_r_getF (nx := 48) 12 cw2 (by decide) rfl (Or.inr ⟨_, fl_X4_136⟩) (obM hc3) (fnM12 hc3) (show decode cX4_kindOf 45 = .ok (.getfield 136, 3) by decide +kernel) rfl ?_
  refine am_r_iload (nx := 50) rfl (show decode cX4_kindOf 48 = .ok (.iload 7, 2) by decide +kernel) rfl ?_
  refine am_r_callS (as := [am_r (some (a1 + 6)), am_i v7]) (st := []) hc mb_X10_at mv_X10_at (Or.inr ⟨_, ml_X4_56⟩) rfl rfl (Nat.le_of_ble_eq_true rfl) ⟨Nat.le_refl _, Nat.le_refl _⟩ ⟨Nat.le_refl _, Nat.le_refl _⟩ (show decode cX4_kindOf 50 = .ok (.invokestatic 56, 3) by decide +kernel) ?_
  rintro _ _ ⟨x, σ', rfl, rfl, hq⟩ _
  refine am_r_istore (nx := 55) (by decide) rfl (show decode cX4_kindOf 53 = .ok (.istore 8, 2) by decide +kernel) rfl ?_
  exact (k x σ' hq)
theorem S_X4_kindOf_55 {G : am_G} {d : Nat} {Q : Int → am_D → Prop} {σ : am_D} {v2 : Int} {v3 : Int} {v4 : Int} {v5 : Int} {v6 : Int} {v7 : Int} {v8 : Int} (hr1 : -2147483648 ≤ v8 ∧ v8 ≤ 2147483647) (k1 : 3 ≤ v8 → am_X (am_FI G (d + 1) Q) mX4_kindOf (0, 0) 92 [some (am_r (some 31)), none, some (am_i v2), some (am_i v3), some (am_i v4), some (am_i v5), some (am_i v6), some (am_i v7), some (am_i v8), none] [] (am_K0, σ)) (k2 : ¬ (3 ≤ v8) → am_X (am_FI G (d + 1) Q) mX4_kindOf (0, 0) 61 [some (am_r (some 31)), none, some (am_i v2), some (am_i v3), some (am_i v4), some (am_i v5), some (am_i v6), some (am_i v7), some (am_i v8), none] [] (am_K0, σ)) : am_X (am_FI G (d + 1) Q) mX4_kindOf (0, 0) 55 [some (am_r (some 31)), none, some (am_i v2), some (am_i v3), some (am_i v4), some (am_i v5), some (am_i v6), some (am_i v7), some (am_i v8), none] [] (am_K0, σ) := by
  refine am_r_iload (nx := 57) rfl (show decode cX4_kindOf 55 = .ok (.iload 8, 2) by decide +kernel) rfl ?_
  refine am_r_iconst (nx := 58) (show decode cX4_kindOf 57 = .ok (.iconst 3, 1) by decide +kernel) rfl ?_
  refine am_r_icmp_ge (tg := 92) (nx := 61) (show decode cX4_kindOf 58 = .ok (.if_icmp .ge 34, 3) by decide +kernel) (by decide) rfl hr1 (by omega) ?_ ?_
  · exact fun q => k1 q
  · exact fun q => k2 q
theorem S_X4_kindOf_61 {G : am_G} {d : Nat} {Q : Int → am_D → Prop} {σ : am_D} {v2 : Int} {v3 : Int} {v4 : Int} {v5 : Int} {v6 : Int} {v7 : Int} {v8 : Int} {Q' : am_D → Prop} (hc : am_MV G d mX10_put [am_r (some 41), am_i v5, am_i v4] σ Q') (k : ∀ σ' : am_D, Q' σ' → am_X (am_FI G (d + 1) Q) mX4_kindOf (0, 0) 72 [some (am_r (some 31)), none, some (am_i v2), some (am_i v3), none, some (am_i v5), some (am_i v6), some (am_i v7), some (am_i v8), none] [] (am_K0, σ')) : am_X (am_FI G (d + 1) Q) mX4_kindOf (0, 0) 61 [some (am_r (some 31)), none, some (am_i v2), some (am_i v3), some (am_i v4), some (am_i v5), some (am_i v6), some (am_i v7), some (am_i v8), none] [] (am_K0, σ) := by
  refine am_r_aload_n (nx := 62) rfl rfl (show decode cX4_kindOf 61 = .ok (.aload_n 0, 1) by decide +kernel) rfl ?_
  refine am_r_getF (nx := 65) 8 cw4 (by decide) rfl (Or.inl fl_X4_38) (ob_31) (fn_31_8) (show decode cX4_kindOf 62 = .ok (.getfield 38, 3) by decide +kernel) rfl ?_
  refine am_r_iload (nx := 67) rfl (show decode cX4_kindOf 65 = .ok (.iload 5, 2) by decide +kernel) rfl ?_
  refine am_r_iload (nx := 69) rfl (show decode cX4_kindOf 67 = .ok (.iload 4, 2) by decide +kernel) rfl ?_
  refine am_r_callS (as := [am_r (some 41), am_i v5, am_i v4]) (st := []) hc mb_X10_put mv_X10_put (Or.inr ⟨_, ml_X4_68⟩) rfl rfl (Nat.le_of_ble_eq_true rfl) ⟨Nat.le_refl _, Nat.le_refl _⟩ ⟨Nat.le_refl _, Nat.le_refl _⟩ (show decode cX4_kindOf 69 = .ok (.invokestatic 68, 3) by decide +kernel) ?_
  rintro _ _ ⟨σ', rfl, rfl, hq⟩ _
  exact am_x_fg [4] (k σ' hq)
theorem S_X4_kindOf_72 {G : am_G} {d : Nat} {Q : Int → am_D → Prop} {σ : am_D} {v2 : Int} {v3 : Int} {v5 : Int} {v6 : Int} {v7 : Int} {v8 : Int} {Q' : am_D → Prop} (hc : am_MV G d mX10_put [am_r (some 42), am_i v5, am_i v8] σ Q') (k : ∀ σ' : am_D, Q' σ' → am_X (am_FI G (d + 1) Q) mX4_kindOf (0, 0) 83 [some (am_r (some 31)), none, some (am_i v2), some (am_i v3), none, some (am_i v5), some (am_i v6), some (am_i v7), none, none] [] (am_K0, σ')) : am_X (am_FI G (d + 1) Q) mX4_kindOf (0, 0) 72 [some (am_r (some 31)), none, some (am_i v2), some (am_i v3), none, some (am_i v5), some (am_i v6), some (am_i v7), some (am_i v8), none] [] (am_K0, σ) := by
  refine am_r_aload_n (nx := 73) rfl rfl (show decode cX4_kindOf 72 = .ok (.aload_n 0, 1) by decide +kernel) rfl ?_
  refine am_r_getF (nx := 76) 9 cw4 (by decide) rfl (Or.inl fl_X4_41) (ob_31) (fn_31_9) (show decode cX4_kindOf 73 = .ok (.getfield 41, 3) by decide +kernel) rfl ?_
  refine am_r_iload (nx := 78) rfl (show decode cX4_kindOf 76 = .ok (.iload 5, 2) by decide +kernel) rfl ?_
  refine am_r_iload (nx := 80) rfl (show decode cX4_kindOf 78 = .ok (.iload 8, 2) by decide +kernel) rfl ?_
  refine am_r_callS (as := [am_r (some 42), am_i v5, am_i v8]) (st := []) hc mb_X10_put mv_X10_put (Or.inr ⟨_, ml_X4_68⟩) rfl rfl (Nat.le_of_ble_eq_true rfl) ⟨Nat.le_refl _, Nat.le_refl _⟩ ⟨Nat.le_refl _, Nat.le_refl _⟩ (show decode cX4_kindOf 80 = .ok (.invokestatic 68, 3) by decide +kernel) ?_
  rintro _ _ ⟨σ', rfl, rfl, hq⟩ _
  exact am_x_fg [8] (k σ' hq)
theorem S_X4_kindOf_83 {G : am_G} {d : Nat} {Q : Int → am_D → Prop} {σ : am_D} {v2 : Int} {v3 : Int} {v5 : Int} {v6 : Int} {v7 : Int}  (k : am_X (am_FI G (d + 1) Q) mX4_kindOf (0, 0) 86 [some (am_r (some 31)), none, some (am_i v2), some (am_i v3), none, some (am_i (v5 + 1)), some (am_i v6), some (am_i v7), none, none] [] (am_K0, σ)) : am_X (am_FI G (d + 1) Q) mX4_kindOf (0, 0) 83 [some (am_r (some 31)), none, some (am_i v2), some (am_i v3), none, some (am_i v5), some (am_i v6), some (am_i v7), none, none] [] (am_K0, σ) := by
  refine am_r_iinc (nx := 86) rfl rfl (show decode cX4_kindOf 83 = .ok (.iinc 5 1, 3) by decide +kernel) rfl ?_
  exact k
theorem S_X4_kindOf_86 {G : am_G} {d : Nat} {Q : Int → am_D → Prop} {σ : am_D} {v2 : Int} {v3 : Int} {v5 : Int} {v6 : Int} {v7 : Int}  (k : am_X (am_FI G (d + 1) Q) mX4_kindOf (0, 0) 177 [some (am_r (some 31)), none, some (am_i v2), some (am_i v3), some (am_i 4), some (am_i v5), some (am_i v6), some (am_i v7), none, none] [] (am_K0, σ)) : am_X (am_FI G (d + 1) Q) mX4_kindOf (0, 0) 86 [some (am_r (some 31)), none, some (am_i v2), some (am_i v3), none, some (am_i v5), some (am_i v6), some (am_i v7), none, none] [] (am_K0, σ) := by
  refine am_r_iconst (nx := 87) (show decode cX4_kindOf 86 = .ok (.iconst 4, 1) by decide +kernel) rfl ?_
  refine am_r_istore (nx := 89) (by decide) rfl (show decode cX4_kindOf 87 = .ok (.istore 4, 2) by decide +kernel) rfl ?_
  refine am_r_goto (tg := 177) (show decode cX4_kindOf 89 = .ok (.goto 88, 3) by decide +kernel) (by decide) ?_
  exact k
theorem S_X4_kindOf_92 {G : am_G} {d : Nat} {Q : Int → am_D → Prop} {σ : am_D} {v2 : Int} {v3 : Int} {v4 : Int} {v5 : Int} {v6 : Int} {v7 : Int} {v8 : Int} (hr1 : -2147483648 ≤ v8 ∧ v8 ≤ 2147483647) (k1 : ¬ v8 = 3 → am_X (am_FI G (d + 1) Q) mX4_kindOf (0, 0) 140 [some (am_r (some 31)), none, some (am_i v2), some (am_i v3), some (am_i v4), some (am_i v5), some (am_i v6), some (am_i v7), some (am_i v8), none] [] (am_K0, σ)) (k2 : ¬ (¬ v8 = 3) → am_X (am_FI G (d + 1) Q) mX4_kindOf (0, 0) 98 [some (am_r (some 31)), none, some (am_i v2), some (am_i v3), some (am_i v4), some (am_i v5), some (am_i v6), some (am_i v7), none, none] [] (am_K0, σ)) : am_X (am_FI G (d + 1) Q) mX4_kindOf (0, 0) 92 [some (am_r (some 31)), none, some (am_i v2), some (am_i v3), some (am_i v4), some (am_i v5), some (am_i v6), some (am_i v7), some (am_i v8), none] [] (am_K0, σ) := by
  refine am_r_iload (nx := 94) rfl (show decode cX4_kindOf 92 = .ok (.iload 8, 2) by decide +kernel) rfl ?_
  refine am_r_iconst (nx := 95) (show decode cX4_kindOf 94 = .ok (.iconst 3, 1) by decide +kernel) rfl ?_
  refine am_r_icmp_ne (tg := 140) (nx := 98) (show decode cX4_kindOf 95 = .ok (.if_icmp .ne 45, 3) by decide +kernel) (by decide) rfl hr1 (by omega) ?_ ?_
  · exact fun q => k1 q
  · exact fun q => am_x_fg [8] (k2 q)
theorem S_X4_kindOf_98 {G : am_G} {d : Nat} {Q : Int → am_D → Prop} {σ : am_D} {v2 : Int} {v3 : Int} {v4 : Int} {v5 : Int} {v6 : Int} {v7 : Int}  (k : am_X (am_FI G (d + 1) Q) mX4_kindOf (0, 0) 101 [some (am_r (some 31)), none, some (am_i v2), some (am_i v3), some (am_i v4), some (am_i (v5 + (-1))), some (am_i v6), some (am_i v7), none, none] [] (am_K0, σ)) : am_X (am_FI G (d + 1) Q) mX4_kindOf (0, 0) 98 [some (am_r (some 31)), none, some (am_i v2), some (am_i v3), some (am_i v4), some (am_i v5), some (am_i v6), some (am_i v7), none, none] [] (am_K0, σ) := by
  refine am_r_iinc (nx := 101) rfl rfl (show decode cX4_kindOf 98 = .ok (.iinc 5 (-1), 3) by decide +kernel) rfl ?_
  exact k
theorem S_X4_kindOf_101 {G : am_G} {d : Nat} {Q : Int → am_D → Prop} {σ : am_D} {v2 : Int} {v3 : Int} {v4 : Int} {v5 : Int} {v6 : Int} {v7 : Int} {Q' : Int → am_D → Prop} (hc : am_MI G d mX10_at [am_r (some 41), am_i v5] σ Q') (k : ∀ (x : Int) (σ' : am_D), Q' x σ' → am_X (am_FI G (d + 1) Q) mX4_kindOf (0, 0) 114 [some (am_r (some 31)), none, some (am_i v2), some (am_i v3), some (am_i v4), some (am_i v5), some (am_i v6), some (am_i v7), none, none] [am_i x, am_r (some 32)] (am_K0, σ')) : am_X (am_FI G (d + 1) Q) mX4_kindOf (0, 0) 101 [some (am_r (some 31)), none, some (am_i v2), some (am_i v3), some (am_i v4), some (am_i v5), some (am_i v6), some (am_i v7), none, none] [] (am_K0, σ) := by
  refine am_r_aload_n (nx := 102) rfl rfl (show decode cX4_kindOf 101 = .ok (.aload_n 0, 1) by decide +kernel) rfl ?_
  refine am_r_getF (nx := 105) 0 cw4 (by decide) rfl (Or.inl fl_X4_14) (ob_31) (fn_31_0) (show decode cX4_kindOf 102 = .ok (.getfield 14, 3) by decide +kernel) rfl ?_
  refine am_r_aload_n (nx := 106) rfl rfl (show decode cX4_kindOf 105 = .ok (.aload_n 0, 1) by decide +kernel) rfl ?_
  refine am_r_getF (nx := 109) 8 cw4 (by decide) rfl (Or.inl fl_X4_38) (ob_31) (fn_31_8) (show decode cX4_kindOf 106 = .ok (.getfield 38, 3) by decide +kernel) rfl ?_
  refine am_r_iload (nx := 111) rfl (show decode cX4_kindOf 109 = .ok (.iload 5, 2) by decide +kernel) rfl ?_
  refine am_r_callS (as := [am_r (some 41), am_i v5]) (st := [am_r (some 32)]) hc mb_X10_at mv_X10_at (Or.inr ⟨_, ml_X4_56⟩) rfl rfl (Nat.le_of_ble_eq_true rfl) ⟨Nat.le_refl _, Nat.le_refl _⟩ ⟨Nat.le_refl _, Nat.le_refl _⟩ (show decode cX4_kindOf 111 = .ok (.invokestatic 56, 3) by decide +kernel) ?_
  rintro _ _ ⟨x, σ', rfl, rfl, hq⟩ _
  exact (k x σ' hq)
theorem S_X4_kindOf_114 {G : am_G} {d : Nat} {Q : Int → am_D → Prop} {σ : am_D} {v2 : Int} {v3 : Int} {v4 : Int} {v5 : Int} {v6 : Int} {v7 : Int} {s1 : Int} {Q' : Int → am_D → Prop} (hc : am_MI G d mX10_at [am_r (some 42), am_i v5] σ Q') (k : ∀ (x : Int) (σ' : am_D), Q' x σ' → am_X (am_FI G (d + 1) Q) mX4_kindOf (0, 0) 127 [some (am_r (some 31)), none, some (am_i v2), some (am_i v3), some (am_i v4), some (am_i v5), some (am_i v6), some (am_i v7), none, none] [am_i x, am_r (some 32), am_i s1, am_r (some 32)] (am_K0, σ')) : am_X (am_FI G (d + 1) Q) mX4_kindOf (0, 0) 114 [some (am_r (some 31)), none, some (am_i v2), some (am_i v3), some (am_i v4), some (am_i v5), some (am_i v6), some (am_i v7), none, none] [am_i s1, am_r (some 32)] (am_K0, σ) := by
  refine am_r_aload_n (nx := 115) rfl rfl (show decode cX4_kindOf 114 = .ok (.aload_n 0, 1) by decide +kernel) rfl ?_
  refine am_r_getF (nx := 118) 0 cw4 (by decide) rfl (Or.inl fl_X4_14) (ob_31) (fn_31_0) (show decode cX4_kindOf 115 = .ok (.getfield 14, 3) by decide +kernel) rfl ?_
  refine am_r_aload_n (nx := 119) rfl rfl (show decode cX4_kindOf 118 = .ok (.aload_n 0, 1) by decide +kernel) rfl ?_
  refine am_r_getF (nx := 122) 9 cw4 (by decide) rfl (Or.inl fl_X4_41) (ob_31) (fn_31_9) (show decode cX4_kindOf 119 = .ok (.getfield 41, 3) by decide +kernel) rfl ?_
  refine am_r_iload (nx := 124) rfl (show decode cX4_kindOf 122 = .ok (.iload 5, 2) by decide +kernel) rfl ?_
  refine am_r_callS (as := [am_r (some 42), am_i v5]) (st := [am_r (some 32), am_i s1, am_r (some 32)]) hc mb_X10_at mv_X10_at (Or.inr ⟨_, ml_X4_56⟩) rfl rfl (Nat.le_of_ble_eq_true rfl) ⟨Nat.le_refl _, Nat.le_refl _⟩ ⟨Nat.le_refl _, Nat.le_refl _⟩ (show decode cX4_kindOf 124 = .ok (.invokestatic 56, 3) by decide +kernel) ?_
  rintro _ _ ⟨x, σ', rfl, rfl, hq⟩ _
  exact (k x σ' hq)
theorem S_X4_kindOf_127 {G : am_G} {d : Nat} {Q : Int → am_D → Prop} {σ : am_D} {v2 : Int} {v3 : Int} {v4 : Int} {v5 : Int} {v6 : Int} {v7 : Int} {s1 : Int} {s3 : Int} {Q' : Int → am_D → Prop} (hc : am_MI G d mX1_wrap [am_r (some 32), am_i s3, am_i v4] σ Q') (k : ∀ (x : Int) (σ' : am_D), Q' x σ' → am_X (am_FI G (d + 1) Q) mX4_kindOf (0, 0) 132 [some (am_r (some 31)), none, some (am_i v2), some (am_i v3), none, some (am_i v5), some (am_i v6), some (am_i v7), none, none] [am_i x, am_i s1, am_r (some 32)] (am_K0, σ')) : am_X (am_FI G (d + 1) Q) mX4_kindOf (0, 0) 127 [some (am_r (some 31)), none, some (am_i v2), some (am_i v3), some (am_i v4), some (am_i v5), some (am_i v6), some (am_i v7), none, none] [am_i s3, am_r (some 32), am_i s1, am_r (some 32)] (am_K0, σ) := by
  refine am_r_iload (nx := 129) rfl (show decode cX4_kindOf 127 = .ok (.iload 4, 2) by decide +kernel) rfl ?_
  refine am_r_callV (as := [am_i s3, am_i v4]) (st := [am_i s1, am_r (some 32)]) hc mb_X1_wrap mv_X1_wrap (Or.inl ml_X4_139) (ob_32) (by omega) (r := (RX1, TX1, 2)) rfl rfl rfl rfl (Nat.le_of_ble_eq_true rfl) ⟨Nat.le_refl _, Nat.le_refl _⟩ ⟨Nat.le_refl _, Nat.le_refl _⟩ (show decode cX4_kindOf 129 = .ok (.invokevirtual 139, 3) by decide +kernel) ?_
  rintro _ _ ⟨x, σ', rfl, rfl, hq⟩ _
  exact am_x_fg [4] (k x σ' hq)
theorem S_X4_kindOf_132 {G : am_G} {d : Nat} {Q : Int → am_D → Prop} {σ : am_D} {v2 : Int} {v3 : Int} {v5 : Int} {v6 : Int} {v7 : Int} {s1 : Int} {s2 : Int} {Q' : Int → am_D → Prop} (hc : am_MI G d mX1_join [am_r (some 32), am_i s1, am_i s2] σ Q') (k : ∀ (x : Int) (σ' : am_D), Q' x σ' → am_X (am_FI G (d + 1) Q) mX4_kindOf (0, 0) 137 [some (am_r (some 31)), none, some (am_i v2), some (am_i v3), some (am_i x), some (am_i v5), some (am_i v6), some (am_i v7), none, none] [] (am_K0, σ')) : am_X (am_FI G (d + 1) Q) mX4_kindOf (0, 0) 132 [some (am_r (some 31)), none, some (am_i v2), some (am_i v3), none, some (am_i v5), some (am_i v6), some (am_i v7), none, none] [am_i s2, am_i s1, am_r (some 32)] (am_K0, σ) := by
  refine am_r_callV (as := [am_i s1, am_i s2]) (st := []) hc mb_X1_join mv_X1_join (Or.inl ml_X4_142) (ob_32) (by omega) (r := (RX1, TX1, 2)) rfl rfl rfl rfl (Nat.le_of_ble_eq_true rfl) ⟨Nat.le_refl _, Nat.le_refl _⟩ ⟨Nat.le_refl _, Nat.le_refl _⟩ (show decode cX4_kindOf 132 = .ok (.invokevirtual 142, 3) by decide +kernel) ?_
  rintro _ _ ⟨x, σ', rfl, rfl, hq⟩ _
  refine am_r_istore (nx := 137) (by decide) rfl (show decode cX4_kindOf 135 = .ok (.istore 4, 2) by decide +kernel) rfl ?_
  exact (k x σ' hq)
theorem S_X4_kindOf_137 {G : am_G} {d : Nat} {Q : Int → am_D → Prop} {σ : am_D} {v2 : Int} {v3 : Int} {v4 : Int} {v5 : Int} {v6 : Int} {v7 : Int}  (k : am_X (am_FI G (d + 1) Q) mX4_kindOf (0, 0) 177 [some (am_r (some 31)), none, some (am_i v2), some (am_i v3), some (am_i v4), some (am_i v5), some (am_i v6), some (am_i v7), none, none] [] (am_K0, σ)) : am_X (am_FI G (d + 1) Q) mX4_kindOf (0, 0) 137 [some (am_r (some 31)), none, some (am_i v2), some (am_i v3), some (am_i v4), some (am_i v5), some (am_i v6), some (am_i v7), none, none] [] (am_K0, σ) := by
  refine am_r_goto (tg := 177) (show decode cX4_kindOf 137 = .ok (.goto 40, 3) by decide +kernel) (by decide) ?_
  exact k
theorem S_X4_kindOf_140 {G : am_G} {d : Nat} {Q : Int → am_D → Prop} {σ : am_D} {v2 : Int} {v3 : Int} {v4 : Int} {v5 : Int} {v6 : Int} {v7 : Int} {v8 : Int} (hr1 : -2147483648 ≤ v8 ∧ v8 ≤ 2147483647) (k1 : 8 ≤ v8 → am_X (am_FI G (d + 1) Q) mX4_kindOf (0, 0) 151 [some (am_r (some 31)), none, some (am_i v2), some (am_i v3), some (am_i v4), some (am_i v5), some (am_i v6), some (am_i v7), some (am_i v8), none] [] (am_K0, σ)) (k2 : ¬ (8 ≤ v8) → am_X (am_FI G (d + 1) Q) mX4_kindOf (0, 0) 147 [some (am_r (some 31)), none, some (am_i v2), some (am_i v3), some (am_i v4), some (am_i v5), some (am_i v6), some (am_i v7), some (am_i v8), none] [] (am_K0, σ)) : am_X (am_FI G (d + 1) Q) mX4_kindOf (0, 0) 140 [some (am_r (some 31)), none, some (am_i v2), some (am_i v3), some (am_i v4), some (am_i v5), some (am_i v6), some (am_i v7), some (am_i v8), none] [] (am_K0, σ) := by
  refine am_r_iload (nx := 142) rfl (show decode cX4_kindOf 140 = .ok (.iload 8, 2) by decide +kernel) rfl ?_
  refine am_r_bipush (nx := 144) rfl (show decode cX4_kindOf 142 = .ok (.bipush 8, 2) by decide +kernel) rfl ?_
  refine am_r_icmp_ge (tg := 151) (nx := 147) (show decode cX4_kindOf 144 = .ok (.if_icmp .ge 7, 3) by decide +kernel) (by decide) rfl hr1 (by omega) ?_ ?_
  · exact fun q => k1 q
  · exact fun q => k2 q
theorem S_X4_kindOf_147 {G : am_G} {d : Nat} {Q : Int → am_D → Prop} {σ : am_D} {v2 : Int} {v3 : Int} {v4 : Int} {v5 : Int} {v6 : Int} {v7 : Int} {v8 : Int}  (k : am_X (am_FI G (d + 1) Q) mX4_kindOf (0, 0) 152 [some (am_r (some 31)), none, some (am_i v2), some (am_i v3), some (am_i v4), some (am_i v5), some (am_i v6), some (am_i v7), some (am_i v8), none] [am_i v3] (am_K0, σ)) : am_X (am_FI G (d + 1) Q) mX4_kindOf (0, 0) 147 [some (am_r (some 31)), none, some (am_i v2), some (am_i v3), some (am_i v4), some (am_i v5), some (am_i v6), some (am_i v7), some (am_i v8), none] [] (am_K0, σ) := by
  refine am_r_iload_n (nx := 148) rfl rfl (show decode cX4_kindOf 147 = .ok (.iload_n 3, 1) by decide +kernel) rfl ?_
  refine am_r_goto (tg := 152) (show decode cX4_kindOf 148 = .ok (.goto 4, 3) by decide +kernel) (by decide) ?_
  exact k
theorem S_X4_kindOf_151 {G : am_G} {d : Nat} {Q : Int → am_D → Prop} {σ : am_D} {v2 : Int} {v3 : Int} {v4 : Int} {v5 : Int} {v6 : Int} {v7 : Int} {v8 : Int}  (k : am_X (am_FI G (d + 1) Q) mX4_kindOf (0, 0) 152 [some (am_r (some 31)), none, some (am_i v2), some (am_i v3), some (am_i v4), some (am_i v5), some (am_i v6), some (am_i v7), some (am_i v8), none] [am_i v2] (am_K0, σ)) : am_X (am_FI G (d + 1) Q) mX4_kindOf (0, 0) 151 [some (am_r (some 31)), none, some (am_i v2), some (am_i v3), some (am_i v4), some (am_i v5), some (am_i v6), some (am_i v7), some (am_i v8), none] [] (am_K0, σ) := by
  refine am_r_iload_n (nx := 152) rfl rfl (show decode cX4_kindOf 151 = .ok (.iload_n 2, 1) by decide +kernel) rfl ?_
  exact k
theorem S_X4_kindOf_152 {G : am_G} {d : Nat} {Q : Int → am_D → Prop} {σ : am_D} {v2 : Int} {v3 : Int} {v4 : Int} {v5 : Int} {v6 : Int} {v7 : Int} {v8 : Int} {s0 : Int}  (k : am_X (am_FI G (d + 1) Q) mX4_kindOf (0, 0) 154 [some (am_r (some 31)), none, some (am_i v2), some (am_i v3), some (am_i v4), some (am_i v5), some (am_i v6), some (am_i v7), some (am_i v8), some (am_i s0)] [] (am_K0, σ)) : am_X (am_FI G (d + 1) Q) mX4_kindOf (0, 0) 152 [some (am_r (some 31)), none, some (am_i v2), some (am_i v3), some (am_i v4), some (am_i v5), some (am_i v6), some (am_i v7), some (am_i v8), none] [am_i s0] (am_K0, σ) := by
  refine am_r_istore (nx := 154) (by decide) rfl (show decode cX4_kindOf 152 = .ok (.istore 9, 2) by decide +kernel) rfl ?_
  exact k
theorem S_X4_kindOf_154 {G : am_G} {d : Nat} {Q : Int → am_D → Prop} {σ : am_D} {v2 : Int} {v3 : Int} {v4 : Int} {v5 : Int} {v6 : Int} {v7 : Int} {v8 : Int} {v9 : Int} {Q' : Int → am_D → Prop} (hc : am_MI G d mX1_join [am_r (some 32), am_i v4, am_i (am_and (am_shr v9 (4 * (am_and v8 3))) 15)] σ Q') (k : ∀ (x : Int) (σ' : am_D), Q' x σ' → am_X (am_FI G (d + 1) Q) mX4_kindOf (0, 0) 177 [some (am_r (some 31)), none, some (am_i v2), some (am_i v3), some (am_i x), some (am_i v5), some (am_i v6), some (am_i v7), none, none] [] (am_K0, σ')) : am_X (am_FI G (d + 1) Q) mX4_kindOf (0, 0) 154 [some (am_r (some 31)), none, some (am_i v2), some (am_i v3), some (am_i v4), some (am_i v5), some (am_i v6), some (am_i v7), some (am_i v8), some (am_i v9)] [] (am_K0, σ) := by
  refine am_r_aload_n (nx := 155) rfl rfl (show decode cX4_kindOf 154 = .ok (.aload_n 0, 1) by decide +kernel) rfl ?_
  refine am_r_getF (nx := 158) 0 cw4 (by decide) rfl (Or.inl fl_X4_14) (ob_31) (fn_31_0) (show decode cX4_kindOf 155 = .ok (.getfield 14, 3) by decide +kernel) rfl ?_
  refine am_r_iload (nx := 160) rfl (show decode cX4_kindOf 158 = .ok (.iload 4, 2) by decide +kernel) rfl ?_
  refine am_r_iload (nx := 162) rfl (show decode cX4_kindOf 160 = .ok (.iload 9, 2) by decide +kernel) rfl ?_
  refine am_r_iconst (nx := 163) (show decode cX4_kindOf 162 = .ok (.iconst 4, 1) by decide +kernel) rfl ?_
  refine am_r_iload (nx := 165) rfl (show decode cX4_kindOf 163 = .ok (.iload 8, 2) by decide +kernel) rfl ?_
  refine am_r_iconst (nx := 166) (show decode cX4_kindOf 165 = .ok (.iconst 3, 1) by decide +kernel) rfl ?_
  refine am_r_iand (nx := 167) (show decode cX4_kindOf 166 = .ok (.iand, 1) by decide +kernel) rfl ?_
  refine am_r_imul (nx := 168) (show decode cX4_kindOf 167 = .ok (.imul, 1) by decide +kernel) rfl ?_
  refine am_r_ishr (nx := 169) (show decode cX4_kindOf 168 = .ok (.ishr, 1) by decide +kernel) rfl ?_
  refine am_r_bipush (nx := 171) rfl (show decode cX4_kindOf 169 = .ok (.bipush 15, 2) by decide +kernel) rfl ?_
  refine am_r_iand (nx := 172) (show decode cX4_kindOf 171 = .ok (.iand, 1) by decide +kernel) rfl ?_
  refine am_r_callV (as := [am_i v4, am_i (am_and (am_shr v9 (4 * (am_and v8 3))) 15)]) (st := []) hc mb_X1_join mv_X1_join (Or.inl ml_X4_142) (ob_32) (by omega) (r := (RX1, TX1, 2)) rfl rfl rfl rfl (Nat.le_of_ble_eq_true rfl) ⟨Nat.le_refl _, Nat.le_refl _⟩ ⟨Nat.le_refl _, Nat.le_refl _⟩ (show decode cX4_kindOf 172 = .ok (.invokevirtual 142, 3) by decide +kernel) ?_
  rintro _ _ ⟨x, σ', rfl, rfl, hq⟩ _
  refine am_r_istore (nx := 177) (by decide) rfl (show decode cX4_kindOf 175 = .ok (.istore 4, 2) by decide +kernel) rfl ?_
  exact am_x_fg [8, 9] (k x σ' hq)
theorem S_X4_kindOf_177 {G : am_G} {d : Nat} {Q : Int → am_D → Prop} {σ : am_D} {v2 : Int} {v3 : Int} {v4 : Int} {v5 : Int} {v6 : Int} {v7 : Int}  (k : am_X (am_FI G (d + 1) Q) mX4_kindOf (0, 0) 34 [some (am_r (some 31)), none, some (am_i v2), some (am_i v3), some (am_i v4), some (am_i v5), some (am_i v6), some (am_i (v7 + 1)), none, none] [] (am_K0, σ)) : am_X (am_FI G (d + 1) Q) mX4_kindOf (0, 0) 177 [some (am_r (some 31)), none, some (am_i v2), some (am_i v3), some (am_i v4), some (am_i v5), some (am_i v6), some (am_i v7), none, none] [] (am_K0, σ) := by
  refine am_r_iinc (nx := 180) rfl rfl (show decode cX4_kindOf 177 = .ok (.iinc 7 1, 3) by decide +kernel) rfl ?_
  refine am_r_goto (tg := 34) (show decode cX4_kindOf 180 = .ok (.goto (-146), 3) by decide +kernel) (by decide) ?_
  exact k
theorem S_X4_kindOf_183 {G : am_G} {d : Nat} {Q : Int → am_D → Prop} {σ : am_D} {v4 : Int}  (k : Q v4 σ) : am_X (am_FI G (d + 1) Q) mX4_kindOf (0, 0) 183 [none, none, none, none, some (am_i v4), none, none, none, none, none] [] (am_K0, σ) := by
  refine am_r_iload (nx := 185) rfl (show decode cX4_kindOf 183 = .ok (.iload 4, 2) by decide +kernel) rfl ?_
  exact am_r_iret rfl rfl (show decode cX4_kindOf 185 = .ok (.ireturn, 1) by decide +kernel) ⟨_, _, rfl, rfl, k⟩
end
