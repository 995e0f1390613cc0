section
theorem S_X9_reached_0 {G : am_G} {d : Nat} {Q : Int → am_D → Prop} {σ : am_D} {v1 : Option Nat} {Q' : am_D → Prop} (hc : am_MV G d mX9_measure [am_r (some 24), am_r v1] σ Q') (k : ∀ σ' : am_D, Q' σ' → am_X (am_FI G (d + 1) Q) mX9_reached (0, 0) 5 [some (am_r (some 24)), some (am_r v1), none, none, none] [] (am_K0, σ')) : am_X (am_FI G (d + 1) Q) mX9_reached (0, 0) 0 [some (am_r (some 24)), some (am_r v1), none, none, none] [] (am_K0, σ) := by
  refine am_r_aload_n (nx := 1) rfl rfl (show decode cX9_reached 0 = .ok (.aload_n 0, 1) by decide +kernel) rfl ?_
  refine am_r_aload_n (nx := 2) rfl rfl (show decode cX9_reached 1 = .ok (.aload_n 1, 1) by decide +kernel) rfl ?_
  refine am_r_callV (as := [am_r v1]) (st := []) hc mb_X9_measure mv_X9_measure (Or.inl ml_X9_21) (ob_24) (by omega) (r := (RX9, TX9, 3)) rfl rfl rfl rfl (Nat.le_of_ble_eq_true rfl) ⟨Nat.le_refl _, Nat.le_refl _⟩ ⟨Nat.le_refl _, Nat.le_refl _⟩ (show decode cX9_reached 2 = .ok (.invokevirtual 21, 3) by decide +kernel) ?_
  rintro _ _ ⟨σ', rfl, rfl, hq⟩ _
  exact (k σ' hq)
theorem S_X9_reached_5 {G : am_G} {d : Nat} {Q : Int → am_D → Prop} {σ : am_D} {v1 : Option Nat}  (k : am_X (am_FI G (d + 1) Q) mX9_reached (0, 0) 7 [some (am_r (some 24)), some (am_r v1), some (am_i 1), none, none] [] (am_K0, σ)) : am_X (am_FI G (d + 1) Q) mX9_reached (0, 0) 5 [some (am_r (some 24)), some (am_r v1), none, none, none] [] (am_K0, σ) := by
  refine am_r_iconst (nx := 6) (show decode cX9_reached 5 = .ok (.iconst 1, 1) by decide +kernel) rfl ?_
  refine am_r_istore_n (nx := 7) rfl (by decide) rfl (show decode cX9_reached 6 = .ok (.istore_n 2, 1) by decide +kernel) rfl ?_
  exact k
theorem S_X9_reached_7 {G : am_G} {d : Nat} {Q : Int → am_D → Prop} {σ : am_D} {v2 : Int} {v1 : Option Nat}  (k : am_X (am_FI G (d + 1) Q) mX9_reached (0, 0) 9 [some (am_r (some 24)), some (am_r v1), some (am_i v2), some (am_i 0), none] [] (am_K0, σ)) : am_X (am_FI G (d + 1) Q) mX9_reached (0, 0) 7 [some (am_r (some 24)), some (am_r v1), some (am_i v2), none, none] [] (am_K0, σ) := by
  refine am_r_iconst (nx := 8) (show decode cX9_reached 7 = .ok (.iconst 0, 1) by decide +kernel) rfl ?_
  refine am_r_istore_n (nx := 9) rfl (by decide) rfl (show decode cX9_reached 8 = .ok (.istore_n 3, 1) by decide +kernel) rfl ?_
  exact k
theorem S_X9_reached_9 {G : am_G} {d : Nat} {Q : Int → am_D → Prop} {σ : am_D} {v2 : Int} {v3 : Int} {v1 : Option Nat} (hr1 : -2147483648 ≤ v3 ∧ v3 ≤ 2147483647) (k1 : 6 ≤ v3 → am_X (am_FI G (d + 1) Q) mX9_reached (0, 0) 57 [none, none, some (am_i v2), none, none] [] (am_K0, σ)) (k2 : ¬ (6 ≤ v3) → am_X (am_FI G (d + 1) Q) mX9_reached (0, 0) 15 [some (am_r (some 24)), some (am_r v1), some (am_i v2), some (am_i v3), none] [] (am_K0, σ)) : am_X (am_FI G (d + 1) Q) mX9_reached (0, 0) 9 [some (am_r (some 24)), some (am_r v1), some (am_i v2), some (am_i v3), none] [] (am_K0, σ) := by
  refine am_r_iload_n (nx := 10) rfl rfl (show decode cX9_reached 9 = .ok (.iload_n 3, 1) by decide +kernel) rfl ?_
  refine am_r_bipush (nx := 12) rfl (show decode cX9_reached 10 = .ok (.bipush 6, 2) by decide +kernel) rfl ?_
  refine am_r_icmp_ge (tg := 57) (nx := 15) (show decode cX9_reached 12 = .ok (.if_icmp .ge 45, 3) by decide +kernel) (by decide) rfl hr1 (by omega) ?_ ?_
  · exact fun q => am_x_fg [0, 1, 3] (k1 q)
  · exact fun q => k2 q
theorem S_X9_reached_15 {G : am_G} {d : Nat} {Q : Int → am_D → Prop} {σ : am_D} {v2 : Int} {v3 : Int} {v1 : Option Nat}  (k : am_X (am_FI G (d + 1) Q) mX9_reached (0, 0) 18 [some (am_r (some 24)), some (am_r v1), some (am_i v2), some (am_i v3), some (am_i 0)] [] (am_K0, σ)) : am_X (am_FI G (d + 1) Q) mX9_reached (0, 0) 15 [some (am_r (some 24)), some (am_r v1), some (am_i v2), some (am_i v3), none] [] (am_K0, σ) := by
  refine am_r_iconst (nx := 16) (show decode cX9_reached 15 = .ok (.iconst 0, 1) by decide +kernel) rfl ?_
  refine am_r_istore (nx := 18) (by decide) rfl (show decode cX9_reached 16 = .ok (.istore 4, 2) by decide +kernel) rfl ?_
  exact k
theorem S_X9_reached_18 {G : am_G} {d : Nat} {Q : Int → am_D → Prop} {σ : am_D} {v2 : Int} {v3 : Int} {v4 : Int} {v1 : Option Nat} (hr1 : -2147483648 ≤ v4 ∧ v4 ≤ 2147483647) (k1 : 6 ≤ v4 → am_X (am_FI G (d + 1) Q) mX9_reached (0, 0) 51 [some (am_r (some 24)), some (am_r v1), some (am_i v2), some (am_i v3), none] [] (am_K0, σ)) (k2 : ¬ (6 ≤ v4) → am_X (am_FI G (d + 1) Q) mX9_reached (0, 0) 25 [some (am_r (some 24)), some (am_r v1), some (am_i v2), some (am_i v3), some (am_i v4)] [] (am_K0, σ)) : am_X (am_FI G (d + 1) Q) mX9_reached (0, 0) 18 [some (am_r (some 24)), some (am_r v1), some (am_i v2), some (am_i v3), some (am_i v4)] [] (am_K0, σ) := by
  refine am_r_iload (nx := 20) rfl (show decode cX9_reached 18 = .ok (.iload 4, 2) by decide +kernel) rfl ?_
  refine am_r_bipush (nx := 22) rfl (show decode cX9_reached 20 = .ok (.bipush 6, 2) by decide +kernel) rfl ?_
  refine am_r_icmp_ge (tg := 51) (nx := 25) (show decode cX9_reached 22 = .ok (.if_icmp .ge 29, 3) by decide +kernel) (by decide) rfl hr1 (by omega) ?_ ?_
  · exact fun q => am_x_fg [4] (k1 q)
  · exact fun q => k2 q
theorem S_X9_reached_25 {G : am_G} {d : Nat} {Q : Int → am_D → Prop} {σ : am_D} {v2 : Int} {v3 : Int} {v4 : Int} {v1 : Option Nat} (hr1 : -2147483648 ≤ (am_and (am_shr v2 v4) 1) ∧ (am_and (am_shr v2 v4) 1) ≤ 2147483647) (k1 : ¬ (am_and (am_shr v2 v4) 1) = 1 → am_X (am_FI G (d + 1) Q) mX9_reached (0, 0) 45 [some (am_r (some 24)), some (am_r v1), some (am_i v2), some (am_i v3), some (am_i v4)] [] (am_K0, σ)) (k2 : ¬ (¬ (am_and (am_shr v2 v4) 1) = 1) → am_X (am_FI G (d + 1) Q) mX9_reached (0, 0) 35 [some (am_r (some 24)), some (am_r v1), some (am_i v2), some (am_i v3), some (am_i v4)] [] (am_K0, σ)) : am_X (am_FI G (d + 1) Q) mX9_reached (0, 0) 25 [some (am_r (some 24)), some (am_r v1), some (am_i v2), some (am_i v3), some (am_i v4)] [] (am_K0, σ) := by
  refine am_r_iload_n (nx := 26) rfl rfl (show decode cX9_reached 25 = .ok (.iload_n 2, 1) by decide +kernel) rfl ?_
  refine am_r_iload (nx := 28) rfl (show decode cX9_reached 26 = .ok (.iload 4, 2) by decide +kernel) rfl ?_
  refine am_r_ishr (nx := 29) (show decode cX9_reached 28 = .ok (.ishr, 1) by decide +kernel) rfl ?_
  refine am_r_iconst (nx := 30) (show decode cX9_reached 29 = .ok (.iconst 1, 1) by decide +kernel) rfl ?_
  refine am_r_iand (nx := 31) (show decode cX9_reached 30 = .ok (.iand, 1) by decide +kernel) rfl ?_
  refine am_r_iconst (nx := 32) (show decode cX9_reached 31 = .ok (.iconst 1, 1) by decide +kernel) rfl ?_
  refine am_r_icmp_ne (tg := 45) (nx := 35) (show decode cX9_reached 32 = .ok (.if_icmp .ne 13, 3) by decide +kernel) (by decide) rfl hr1 (by omega) ?_ ?_
  · exact fun q => k1 q
  · exact fun q => k2 q
theorem S_X9_reached_35 {G : am_G} {d : Nat} {Q : Int → am_D → Prop} {σ : am_D} {v2 : Int} {v3 : Int} {v4 : Int} {v1 : Option Nat} {Q' : Int → am_D → Prop} (hc : am_MI G d mX9_reachedFrom [am_r (some 24), am_r v1, am_i v4] σ Q') (k : ∀ (x : Int) (σ' : am_D), Q' x σ' → am_X (am_FI G (d + 1) Q) mX9_reached (0, 0) 43 [some (am_r (some 24)), some (am_r v1), none, some (am_i v3), some (am_i v4)] [am_i x, am_i v2] (am_K0, σ')) : am_X (am_FI G (d + 1) Q) mX9_reached (0, 0) 35 [some (am_r (some 24)), some (am_r v1), some (am_i v2), some (am_i v3), some (am_i v4)] [] (am_K0, σ) := by
  refine am_r_iload_n (nx := 36) rfl rfl (show decode cX9_reached 35 = .ok (.iload_n 2, 1) by decide +kernel) rfl ?_
  refine am_r_aload_n (nx := 37) rfl rfl (show decode cX9_reached 36 = .ok (.aload_n 0, 1) by decide +kernel) rfl ?_
  refine am_r_aload_n (nx := 38) rfl rfl (show decode cX9_reached 37 = .ok (.aload_n 1, 1) by decide +kernel) rfl ?_
  refine am_r_iload (nx := 40) rfl (show decode cX9_reached 38 = .ok (.iload 4, 2) by decide +kernel) rfl ?_
  refine am_r_callV (as := [am_r v1, am_i v4]) (st := [am_i v2]) hc mb_X9_reachedFrom mv_X9_reachedFrom (Or.inl ml_X9_25) (ob_24) (by omega) (r := (RX9, TX9, 3)) rfl rfl rfl rfl (Nat.le_of_ble_eq_true rfl) ⟨Nat.le_refl _, Nat.le_refl _⟩ ⟨Nat.le_refl _, Nat.le_refl _⟩ (show decode cX9_reached 40 = .ok (.invokevirtual 25, 3) by decide +kernel) ?_
  rintro _ _ ⟨x, σ', rfl, rfl, hq⟩ _
  exact am_x_fg [2] (k x σ' hq)
theorem S_X9_reached_43 {G : am_G} {d : Nat} {Q : Int → am_D → Prop} {σ : am_D} {v3 : Int} {v4 : Int} {s0 : Int} {s1 : Int} {v1 : Option Nat}  (k : am_X (am_FI G (d + 1) Q) mX9_reached (0, 0) 45 [some (am_r (some 24)), some (am_r v1), some (am_i (am_or s0 s1)), some (am_i v3), some (am_i v4)] [] (am_K0, σ)) : am_X (am_FI G (d + 1) Q) mX9_reached (0, 0) 43 [some (am_r (some 24)), some (am_r v1), none, some (am_i v3), some (am_i v4)] [am_i s1, am_i s0] (am_K0, σ) := by
  refine am_r_ior (nx := 44) (show decode cX9_reached 43 = .ok (.ior, 1) by decide +kernel) rfl ?_
  refine am_r_istore_n (nx := 45) rfl (by decide) rfl (show decode cX9_reached 44 = .ok (.istore_n 2, 1) by decide +kernel) rfl ?_
  exact k
theorem S_X9_reached_45 {G : am_G} {d : Nat} {Q : Int → am_D → Prop} {σ : am_D} {v2 : Int} {v3 : Int} {v4 : Int} {v1 : Option Nat}  (k : am_X (am_FI G (d + 1) Q) mX9_reached (0, 0) 18 [some (am_r (some 24)), some (am_r v1), some (am_i v2), some (am_i v3), some (am_i (v4 + 1))] [] (am_K0, σ)) : am_X (am_FI G (d + 1) Q) mX9_reached (0, 0) 45 [some (am_r (some 24)), some (am_r v1), some (am_i v2), some (am_i v3), some (am_i v4)] [] (am_K0, σ) := by
  refine am_r_iinc (nx := 48) rfl rfl (show decode cX9_reached 45 = .ok (.iinc 4 1, 3) by decide +kernel) rfl ?_
  refine am_r_goto (tg := 18) (show decode cX9_reached 48 = .ok (.goto (-30), 3) by decide +kernel) (by decide) ?_
  exact k
theorem S_X9_reached_51 {G : am_G} {d : Nat} {Q : Int → am_D → Prop} {σ : am_D} {v2 : Int} {v3 : Int} {v1 : Option Nat}  (k : am_X (am_FI G (d + 1) Q) mX9_reached (0, 0) 9 [some (am_r (some 24)), some (am_r v1), some (am_i v2), some (am_i (v3 + 1)), none] [] (am_K0, σ)) : am_X (am_FI G (d + 1) Q) mX9_reached (0, 0) 51 [some (am_r (some 24)), some (am_r v1), some (am_i v2), some (am_i v3), none] [] (am_K0, σ) := by
  refine am_r_iinc (nx := 54) rfl rfl (show decode cX9_reached 51 = .ok (.iinc 3 1, 3) by decide +kernel) rfl ?_
  refine am_r_goto (tg := 9) (show decode cX9_reached 54 = .ok (.goto (-45), 3) by decide +kernel) (by decide) ?_
  exact k
theorem S_X9_reached_57 {G : am_G} {d : Nat} {Q : Int → am_D → Prop} {σ : am_D} {v2 : Int}  (k : Q v2 σ) : am_X (am_FI G (d + 1) Q) mX9_reached (0, 0) 57 [none, none, some (am_i v2), none, none] [] (am_K0, σ) := by
  refine am_r_iload_n (nx := 58) rfl rfl (show decode cX9_reached 57 = .ok (.iload_n 2, 1) by decide +kernel) rfl ?_
  exact am_r_iret rfl rfl (show decode cX9_reached 58 = .ok (.ireturn, 1) by decide +kernel) ⟨_, _, rfl, rfl, k⟩
theorem S_X9_reachedFrom_0 {G : am_G} {d : Nat} {Q : Int → am_D → Prop} {σ : am_D} {v2 : Int} {v1 : Option Nat}  (k : am_X (am_FI G (d + 1) Q) mX9_reachedFrom (0, 0) 2 [some (am_r (some 24)), some (am_r v1), some (am_i v2), some (am_i 0), none, none] [] (am_K0, σ)) : am_X (am_FI G (d + 1) Q) mX9_reachedFrom (0, 0) 0 [some (am_r (some 24)), some (am_r v1), some (am_i v2), none, none, none] [] (am_K0, σ) := by
  refine am_r_iconst (nx := 1) (show decode cX9_reachedFrom 0 = .ok (.iconst 0, 1) by decide +kernel) rfl ?_
  refine am_r_istore_n (nx := 2) rfl (by decide) rfl (show decode cX9_reachedFrom 1 = .ok (.istore_n 3, 1) by decide +kernel) rfl ?_
  exact k
theorem S_X9_reachedFrom_2 {G : am_G} {d : Nat} {Q : Int → am_D → Prop} {σ : am_D} {v2 : Int} {v3 : Int} {v1 : Option Nat}  (k : am_X (am_FI G (d + 1) Q) mX9_reachedFrom (0, 0) 5 [some (am_r (some 24)), some (am_r v1), some (am_i v2), some (am_i v3), some (am_i 0), none] [] (am_K0, σ)) : am_X (am_FI G (d + 1) Q) mX9_reachedFrom (0, 0) 2 [some (am_r (some 24)), some (am_r v1), some (am_i v2), some (am_i v3), none, none] [] (am_K0, σ) := by
  refine am_r_iconst (nx := 3) (show decode cX9_reachedFrom 2 = .ok (.iconst 0, 1) by decide +kernel) rfl ?_
  refine am_r_istore (nx := 5) (by decide) rfl (show decode cX9_reachedFrom 3 = .ok (.istore 4, 2) by decide +kernel) rfl ?_
  exact k
theorem S_X9_reachedFrom_5 {G : am_G} {d : Nat} {Q : Int → am_D → Prop} {σ : am_D} {v2 : Int} {v3 : Int} {v4 : Int} {v1 : Nat} (hc1 : am_isM v1) (hr2 : -2147483648 ≤ v4 ∧ v4 ≤ 2147483647) (hr3 : -2147483648 ≤ (σ.1 v1 0) ∧ (σ.1 v1 0) ≤ 2147483647) (k1 : (σ.1 v1 0) ≤ v4 → am_X (am_FI G (d + 1) Q) mX9_reachedFrom (0, 0) 47 [none, some (am_r (some v1)), some (am_i v2), some (am_i v3), none, none] [] (am_K0, σ)) (k2 : ¬ ((σ.1 v1 0) ≤ v4) → am_X (am_FI G (d + 1) Q) mX9_reachedFrom (0, 0) 14 [some (am_r (some 24)), some (am_r (some v1)), some (am_i v2), some (am_i v3), some (am_i v4), none] [] (am_K0, σ)) : am_X (am_FI G (d + 1) Q) mX9_reachedFrom (0, 0) 5 [some (am_r (some 24)), some (am_r (some v1)), some (am_i v2), some (am_i v3), some (am_i v4), none] [] (am_K0, σ) := by
  refine am_r_iload (nx := 7) rfl (show decode cX9_reachedFrom 5 = .ok (.iload 4, 2) by decide +kernel) rfl ?_
  refine am_r_aload_n (nx := 8) rfl rfl (show decode cX9_reachedFrom 7 = .ok (.aload_n 1, 1) by decide +kernel) rfl ?_
  refine am_r_getI (nx := 11) 0 cw2 (by decide) rfl (Or.inr ⟨_, fl_X9_29⟩) (obM hc1) (show decode cX9_reachedFrom 8 = .ok (.getfield 29, 3) by decide +kernel) rfl ?_
  refine am_r_icmp_ge (tg := 47) (nx := 14) (show decode cX9_reachedFrom 11 = .ok (.if_icmp .ge 36, 3) by decide +kernel) (by decide) rfl hr2 hr3 ?_ ?_
  · exact fun q => am_x_fg [0, 4] (k1 q)
  · exact fun q => k2 q
theorem S_X9_reachedFrom_14 {G : am_G} {d : Nat} {Q : Int → am_D → Prop} {σ : am_D} {v2 : Int} {v3 : Int} {v4 : Int} {Q' : Int → am_D → Prop} {v1 : Option Nat} (hc : am_MI G d mX9_pair [am_i v2, am_i v4] σ Q') (k : ∀ (x : Int) (σ' : am_D), Q' x σ' → am_X (am_FI G (d + 1) Q) mX9_reachedFrom (0, 0) 24 [some (am_r (some 24)), some (am_r v1), some (am_i v2), some (am_i v3), some (am_i v4), none] [am_i x, am_r (some 25)] (am_K0, σ')) : am_X (am_FI G (d + 1) Q) mX9_reachedFrom (0, 0) 14 [some (am_r (some 24)), some (am_r v1), some (am_i v2), some (am_i v3), some (am_i v4), none] [] (am_K0, σ) := by
  refine am_r_aload_n (nx := 15) rfl rfl (show decode cX9_reachedFrom 14 = .ok (.aload_n 0, 1) by decide +kernel) rfl ?_
  refine am_r_getF (nx := 18) 0 cw9 (by decide) rfl (Or.inl fl_X9_11) (ob_24) (fn_24_0) (show decode cX9_reachedFrom 15 = .ok (.getfield 11, 3) by decide +kernel) rfl ?_
  refine am_r_iload_n (nx := 19) rfl rfl (show decode cX9_reachedFrom 18 = .ok (.iload_n 2, 1) by decide +kernel) rfl ?_
  refine am_r_iload (nx := 21) rfl (show decode cX9_reachedFrom 19 = .ok (.iload 4, 2) by decide +kernel) rfl ?_
  refine am_r_callS (as := [am_i v2, am_i v4]) (st := [am_r (some 25)]) hc mb_X9_pair mv_X9_pair (Or.inl ml_X9_35) rfl rfl (Nat.le_of_ble_eq_true rfl) ⟨Nat.le_refl _, Nat.le_refl _⟩ ⟨Nat.le_refl _, Nat.le_refl _⟩ (show decode cX9_reachedFrom 21 = .ok (.invokestatic 35, 3) by decide +kernel) ?_
  rintro _ _ ⟨x, σ', rfl, rfl, hq⟩ _
  exact (k x σ' hq)
theorem S_X9_reachedFrom_24 {G : am_G} {d : Nat} {Q : Int → am_D → Prop} {σ : am_D} {v2 : Int} {v3 : Int} {v4 : Int} {s1 : Int} {s0 : Option Nat} {Q' : Int64 → am_D → Prop} {v1 : Option Nat} (hc : am_MJ G d mX9_at [am_r s0, am_i s1] σ Q') (k : ∀ (x : Int64) (σ' : am_D), Q' x σ' → am_X (am_FI G (d + 1) Q) mX9_reachedFrom (0, 0) 27 [some (am_r (some 24)), some (am_r v1), some (am_i v2), some (am_i v3), some (am_i v4), none] [am_l x] (am_K0, σ')) : am_X (am_FI G (d + 1) Q) mX9_reachedFrom (0, 0) 24 [some (am_r (some 24)), some (am_r v1), some (am_i v2), some (am_i v3), some (am_i v4), none] [am_i s1, am_r s0] (am_K0, σ) := by
  refine am_r_callS (as := [am_r s0, am_i s1]) (st := []) hc mb_X9_at mv_X9_at (Or.inl ml_X9_39) rfl rfl (Nat.le_of_ble_eq_true rfl) ⟨Nat.le_refl _, Nat.le_refl _⟩ ⟨Nat.le_refl _, Nat.le_refl _⟩ (show decode cX9_reachedFrom 24 = .ok (.invokestatic 39, 3) by decide +kernel) ?_
  rintro _ _ ⟨x, σ', rfl, rfl, hq⟩ _
  exact (k x σ' hq)
theorem S_X9_reachedFrom_27 {G : am_G} {d : Nat} {Q : Int → am_D → Prop} {σ : am_D} {v2 : Int} {v3 : Int} {v4 : Int} {s0 : Int64} {v1 : Option Nat}  (k1 : 0 ≤ (am_lcmp s0 1099511627776) → am_X (am_FI G (d + 1) Q) mX9_reachedFrom (0, 0) 41 [some (am_r (some 24)), some (am_r v1), some (am_i v2), some (am_i v3), some (am_i v4), none] [] (am_K0, σ)) (k2 : ¬ (0 ≤ (am_lcmp s0 1099511627776)) → am_X (am_FI G (d + 1) Q) mX9_reachedFrom (0, 0) 34 [some (am_r (some 24)), some (am_r v1), some (am_i v2), some (am_i v3), some (am_i v4), none] [] (am_K0, σ)) : am_X (am_FI G (d + 1) Q) mX9_reachedFrom (0, 0) 27 [some (am_r (some 24)), some (am_r v1), some (am_i v2), some (am_i v3), some (am_i v4), none] [am_l s0] (am_K0, σ) := by
  refine am_r_ldc2 (nx := 30) (n := 1099511627776) (am_mt 792 (by decide +kernel) rfl) (show decode cX9_reachedFrom 27 = .ok (.ldc2_w 43, 3) by decide +kernel) rfl ?_
  refine am_r_lcmp (nx := 31) (show decode cX9_reachedFrom 30 = .ok (.lcmp, 1) by decide +kernel) rfl ?_
  refine am_r_if_ge (tg := 41) (nx := 34) (show decode cX9_reachedFrom 31 = .ok (.ifCond .ge 10, 3) by decide +kernel) (by decide) rfl (am_lcmp_rg _ _) ?_ ?_
  · exact fun q => k1 q
  · exact fun q => k2 q
theorem S_X9_reachedFrom_34 {G : am_G} {d : Nat} {Q : Int → am_D → Prop} {σ : am_D} {v2 : Int} {v3 : Int} {v4 : Int} {v1 : Option Nat}  (k : am_X (am_FI G (d + 1) Q) mX9_reachedFrom (0, 0) 41 [some (am_r (some 24)), some (am_r v1), some (am_i v2), some (am_i (am_or v3 (am_shl 1 v4))), some (am_i v4), none] [] (am_K0, σ)) : am_X (am_FI G (d + 1) Q) mX9_reachedFrom (0, 0) 34 [some (am_r (some 24)), some (am_r v1), some (am_i v2), some (am_i v3), some (am_i v4), none] [] (am_K0, σ) := by
  refine am_r_iload_n (nx := 35) rfl rfl (show decode cX9_reachedFrom 34 = .ok (.iload_n 3, 1) by decide +kernel) rfl ?_
  refine am_r_iconst (nx := 36) (show decode cX9_reachedFrom 35 = .ok (.iconst 1, 1) by decide +kernel) rfl ?_
  refine am_r_iload (nx := 38) rfl (show decode cX9_reachedFrom 36 = .ok (.iload 4, 2) by decide +kernel) rfl ?_
  refine am_r_ishl (nx := 39) (show decode cX9_reachedFrom 38 = .ok (.ishl, 1) by decide +kernel) rfl ?_
  refine am_r_ior (nx := 40) (show decode cX9_reachedFrom 39 = .ok (.ior, 1) by decide +kernel) rfl ?_
  refine am_r_istore_n (nx := 41) rfl (by decide) rfl (show decode cX9_reachedFrom 40 = .ok (.istore_n 3, 1) by decide +kernel) rfl ?_
  exact k
theorem S_X9_reachedFrom_41 {G : am_G} {d : Nat} {Q : Int → am_D → Prop} {σ : am_D} {v2 : Int} {v3 : Int} {v4 : Int} {v1 : Option Nat}  (k : am_X (am_FI G (d + 1) Q) mX9_reachedFrom (0, 0) 5 [some (am_r (some 24)), some (am_r v1), some (am_i v2), some (am_i v3), some (am_i (v4 + 1)), none] [] (am_K0, σ)) : am_X (am_FI G (d + 1) Q) mX9_reachedFrom (0, 0) 41 [some (am_r (some 24)), some (am_r v1), some (am_i v2), some (am_i v3), some (am_i v4), none] [] (am_K0, σ) := by
  refine am_r_iinc (nx := 44) rfl rfl (show decode cX9_reachedFrom 41 = .ok (.iinc 4 1, 3) by decide +kernel) rfl ?_
  refine am_r_goto (tg := 5) (show decode cX9_reachedFrom 44 = .ok (.goto (-39), 3) by decide +kernel) (by decide) ?_
  exact k
theorem S_X9_reachedFrom_47 {G : am_G} {d : Nat} {Q : Int → am_D → Prop} {σ : am_D} {v2 : Int} {v3 : Int} {v1 : Option Nat}  (k : am_X (am_FI G (d + 1) Q) mX9_reachedFrom (0, 0) 50 [none, some (am_r v1), some (am_i v2), some (am_i v3), some (am_i 0), none] [] (am_K0, σ)) : am_X (am_FI G (d + 1) Q) mX9_reachedFrom (0, 0) 47 [none, some (am_r v1), some (am_i v2), some (am_i v3), none, none] [] (am_K0, σ) := by
  refine am_r_iconst (nx := 48) (show decode cX9_reachedFrom 47 = .ok (.iconst 0, 1) by decide +kernel) rfl ?_
  refine am_r_istore (nx := 50) (by decide) rfl (show decode cX9_reachedFrom 48 = .ok (.istore 4, 2) by decide +kernel) rfl ?_
  exact k
theorem S_X9_reachedFrom_50 {G : am_G} {d : Nat} {Q : Int → am_D → Prop} {σ : am_D} {v2 : Int} {v3 : Int} {v4 : Int} {v1 : Option Nat} (hr1 : -2147483648 ≤ v4 ∧ v4 ≤ 2147483647) (k1 : 3 ≤ v4 → am_X (am_FI G (d + 1) Q) mX9_reachedFrom (0, 0) 84 [none, none, none, some (am_i v3), none, none] [] (am_K0, σ)) (k2 : ¬ (3 ≤ v4) → am_X (am_FI G (d + 1) Q) mX9_reachedFrom (0, 0) 56 [none, some (am_r v1), some (am_i v2), some (am_i v3), some (am_i v4), none] [] (am_K0, σ)) : am_X (am_FI G (d + 1) Q) mX9_reachedFrom (0, 0) 50 [none, some (am_r v1), some (am_i v2), some (am_i v3), some (am_i v4), none] [] (am_K0, σ) := by
  refine am_r_iload (nx := 52) rfl (show decode cX9_reachedFrom 50 = .ok (.iload 4, 2) by decide +kernel) rfl ?_
  refine am_r_iconst (nx := 53) (show decode cX9_reachedFrom 52 = .ok (.iconst 3, 1) by decide +kernel) rfl ?_
  refine am_r_icmp_ge (tg := 84) (nx := 56) (show decode cX9_reachedFrom 53 = .ok (.if_icmp .ge 31, 3) by decide +kernel) (by decide) rfl hr1 (by omega) ?_ ?_
  · exact fun q => am_x_fg [1, 2, 4] (k1 q)
  · exact fun q => k2 q
theorem S_X9_reachedFrom_56 {G : am_G} {d : Nat} {Q : Int → am_D → Prop} {σ : am_D} {v2 : Int} {v3 : Int} {v4 : Int} {v1 : Nat} {Q' : Int → am_D → Prop} (hc : am_MI G d mX2_opensTo [am_r (some v1), am_i v4, am_i v2] σ Q') (hc1 : am_isM v1) (k : ∀ (x : Int) (σ' : am_D), Q' x σ' → am_X (am_FI G (d + 1) Q) mX9_reachedFrom (0, 0) 65 [none, some (am_r (some v1)), some (am_i v2), some (am_i v3), some (am_i v4), some (am_i x)] [] (am_K0, σ')) : am_X (am_FI G (d + 1) Q) mX9_reachedFrom (0, 0) 56 [none, some (am_r (some v1)), some (am_i v2), some (am_i v3), some (am_i v4), none] [] (am_K0, σ) := by
  refine am_r_aload_n (nx := 57) rfl rfl (show decode cX9_reachedFrom 56 = .ok (.aload_n 1, 1) by decide +kernel) rfl ?_
  refine am_r_iload (nx := 59) rfl (show decode cX9_reachedFrom 57 = .ok (.iload 4, 2) by decide +kernel) rfl ?_
  refine am_r_iload_n (nx := 60) rfl rfl (show decode cX9_reachedFrom 59 = .ok (.iload_n 2, 1) by decide +kernel) rfl ?_
  refine am_r_callV (as := [am_i v4, am_i v2]) (st := []) hc mb_X2_opensTo mv_X2_opensTo (Or.inl ml_X9_45) (obM hc1) (by omega) (r := (RX2, TX2, 16)) rfl rfl rfl rfl (Nat.le_of_ble_eq_true rfl) ⟨Nat.le_refl _, Nat.le_refl _⟩ ⟨Nat.le_refl _, Nat.le_refl _⟩ (show decode cX9_reachedFrom 60 = .ok (.invokevirtual 45, 3) by decide +kernel) ?_
  rintro _ _ ⟨x, σ', rfl, rfl, hq⟩ _
  refine am_r_istore (nx := 65) (by decide) rfl (show decode cX9_reachedFrom 63 = .ok (.istore 5, 2) by decide +kernel) rfl ?_
  exact (k x σ' hq)
theorem S_X9_reachedFrom_65 {G : am_G} {d : Nat} {Q : Int → am_D → Prop} {σ : am_D} {v2 : Int} {v3 : Int} {v4 : Int} {v5 : Int} {v1 : Option Nat} (hr1 : -2147483648 ≤ v5 ∧ v5 ≤ 2147483647) (k1 : v5 = (-1) → am_X (am_FI G (d + 1) Q) mX9_reachedFrom (0, 0) 78 [none, some (am_r v1), some (am_i v2), some (am_i v3), some (am_i v4), none] [] (am_K0, σ)) (k2 : ¬ (v5 = (-1)) → am_X (am_FI G (d + 1) Q) mX9_reachedFrom (0, 0) 71 [none, some (am_r v1), some (am_i v2), some (am_i v3), some (am_i v4), some (am_i v5)] [] (am_K0, σ)) : am_X (am_FI G (d + 1) Q) mX9_reachedFrom (0, 0) 65 [none, some (am_r v1), some (am_i v2), some (am_i v3), some (am_i v4), some (am_i v5)] [] (am_K0, σ) := by
  refine am_r_iload (nx := 67) rfl (show decode cX9_reachedFrom 65 = .ok (.iload 5, 2) by decide +kernel) rfl ?_
  refine am_r_iconst (nx := 68) (show decode cX9_reachedFrom 67 = .ok (.iconst (-1), 1) by decide +kernel) rfl ?_
  refine am_r_icmp_eq (tg := 78) (nx := 71) (show decode cX9_reachedFrom 68 = .ok (.if_icmp .eq 10, 3) by decide +kernel) (by decide) rfl hr1 (by omega) ?_ ?_
  · exact fun q => am_x_fg [5] (k1 q)
  · exact fun q => k2 q
theorem S_X9_reachedFrom_71 {G : am_G} {d : Nat} {Q : Int → am_D → Prop} {σ : am_D} {v2 : Int} {v3 : Int} {v4 : Int} {v5 : Int} {v1 : Option Nat}  (k : am_X (am_FI G (d + 1) Q) mX9_reachedFrom (0, 0) 78 [none, some (am_r v1), some (am_i v2), some (am_i (am_or v3 (am_shl 1 v5))), some (am_i v4), none] [] (am_K0, σ)) : am_X (am_FI G (d + 1) Q) mX9_reachedFrom (0, 0) 71 [none, some (am_r v1), some (am_i v2), some (am_i v3), some (am_i v4), some (am_i v5)] [] (am_K0, σ) := by
  refine am_r_iload_n (nx := 72) rfl rfl (show decode cX9_reachedFrom 71 = .ok (.iload_n 3, 1) by decide +kernel) rfl ?_
  refine am_r_iconst (nx := 73) (show decode cX9_reachedFrom 72 = .ok (.iconst 1, 1) by decide +kernel) rfl ?_
  refine am_r_iload (nx := 75) rfl (show decode cX9_reachedFrom 73 = .ok (.iload 5, 2) by decide +kernel) rfl ?_
  refine am_r_ishl (nx := 76) (show decode cX9_reachedFrom 75 = .ok (.ishl, 1) by decide +kernel) rfl ?_
  refine am_r_ior (nx := 77) (show decode cX9_reachedFrom 76 = .ok (.ior, 1) by decide +kernel) rfl ?_
  refine am_r_istore_n (nx := 78) rfl (by decide) rfl (show decode cX9_reachedFrom 77 = .ok (.istore_n 3, 1) by decide +kernel) rfl ?_
  exact am_x_fg [5] k
theorem S_X9_reachedFrom_78 {G : am_G} {d : Nat} {Q : Int → am_D → Prop} {σ : am_D} {v2 : Int} {v3 : Int} {v4 : Int} {v1 : Option Nat}  (k : am_X (am_FI G (d + 1) Q) mX9_reachedFrom (0, 0) 50 [none, some (am_r v1), some (am_i v2), some (am_i v3), some (am_i (v4 + 1)), none] [] (am_K0, σ)) : am_X (am_FI G (d + 1) Q) mX9_reachedFrom (0, 0) 78 [none, some (am_r v1), some (am_i v2), some (am_i v3), some (am_i v4), none] [] (am_K0, σ) := by
  refine am_r_iinc (nx := 81) rfl rfl (show decode cX9_reachedFrom 78 = .ok (.iinc 4 1, 3) by decide +kernel) rfl ?_
  refine am_r_goto (tg := 50) (show decode cX9_reachedFrom 81 = .ok (.goto (-31), 3) by decide +kernel) (by decide) ?_
  exact k
theorem S_X9_reachedFrom_84 {G : am_G} {d : Nat} {Q : Int → am_D → Prop} {σ : am_D} {v3 : Int}  (k : Q v3 σ) : am_X (am_FI G (d + 1) Q) mX9_reachedFrom (0, 0) 84 [none, none, none, some (am_i v3), none, none] [] (am_K0, σ) := by
  refine am_r_iload_n (nx := 85) rfl rfl (show decode cX9_reachedFrom 84 = .ok (.iload_n 3, 1) by decide +kernel) rfl ?_
  exact am_r_iret rfl rfl (show decode cX9_reachedFrom 85 = .ok (.ireturn, 1) by decide +kernel) ⟨_, _, rfl, rfl, k⟩
theorem S_X9_smallest_0 {G : am_G} {d : Nat} {Q : Int → am_D → Prop} {σ : am_D} {v1 : Option Nat} {Q' : am_D → Prop} (hc : am_MV G d mX9_measure [am_r (some 24), am_r v1] σ Q') (k : ∀ σ' : am_D, Q' σ' → am_X (am_FI G (d + 1) Q) mX9_smallest (0, 0) 5 [some (am_r (some 24)), some (am_r v1), none, none, none] [] (am_K0, σ')) : am_X (am_FI G (d + 1) Q) mX9_smallest (0, 0) 0 [some (am_r (some 24)), some (am_r v1), none, none, none] [] (am_K0, σ) := by
  refine am_r_aload_n (nx := 1) rfl rfl (show decode cX9_smallest 0 = .ok (.aload_n 0, 1) by decide +kernel) rfl ?_
  refine am_r_aload_n (nx := 2) rfl rfl (show decode cX9_smallest 1 = .ok (.aload_n 1, 1) by decide +kernel) rfl ?_
  refine am_r_callV (as := [am_r v1]) (st := []) hc mb_X9_measure mv_X9_measure (Or.inl ml_X9_21) (ob_24) (by omega) (r := (RX9, TX9, 3)) rfl rfl rfl rfl (Nat.le_of_ble_eq_true rfl) ⟨Nat.le_refl _, Nat.le_refl _⟩ ⟨Nat.le_refl _, Nat.le_refl _⟩ (show decode cX9_smallest 2 = .ok (.invokevirtual 21, 3) by decide +kernel) ?_
  rintro _ _ ⟨σ', rfl, rfl, hq⟩ _
  exact (k σ' hq)
theorem S_X9_smallest_5 {G : am_G} {d : Nat} {Q : Int → am_D → Prop} {σ : am_D} {v1 : Option Nat}  (k : am_X (am_FI G (d + 1) Q) mX9_smallest (0, 0) 9 [some (am_r (some 24)), some (am_r v1), some (am_l 1099511627776), none, none] [] (am_K0, σ)) : am_X (am_FI G (d + 1) Q) mX9_smallest (0, 0) 5 [some (am_r (some 24)), some (am_r v1), none, none, none] [] (am_K0, σ) := by
  refine am_r_ldc2 (nx := 8) (n := 1099511627776) (am_mt 792 (by decide +kernel) rfl) (show decode cX9_smallest 5 = .ok (.ldc2_w 43, 3) by decide +kernel) rfl ?_
  refine am_r_lstore_n (nx := 9) rfl (by decide) rfl (show decode cX9_smallest 8 = .ok (.lstore_n 2, 1) by decide +kernel) rfl ?_
  exact k
theorem S_X9_smallest_9 {G : am_G} {d : Nat} {Q : Int → am_D → Prop} {σ : am_D} {v2 : Int64} {v1 : Option Nat}  (k : am_X (am_FI G (d + 1) Q) mX9_smallest (0, 0) 12 [some (am_r (some 24)), some (am_r v1), some (am_l v2), none, some (am_i 0)] [] (am_K0, σ)) : am_X (am_FI G (d + 1) Q) mX9_smallest (0, 0) 9 [some (am_r (some 24)), some (am_r v1), some (am_l v2), none, none] [] (am_K0, σ) := by
  refine am_r_iconst (nx := 10) (show decode cX9_smallest 9 = .ok (.iconst 0, 1) by decide +kernel) rfl ?_
  refine am_r_istore (nx := 12) (by decide) rfl (show decode cX9_smallest 10 = .ok (.istore 4, 2) by decide +kernel) rfl ?_
  exact k
theorem S_X9_smallest_12 {G : am_G} {d : Nat} {Q : Int → am_D → Prop} {σ : am_D} {v2 : Int64} {v4 : Int} {v1 : Nat} (hc1 : am_isM v1) (hr2 : -2147483648 ≤ v4 ∧ v4 ≤ 2147483647) (hr3 : -2147483648 ≤ (σ.1 v1 0) ∧ (σ.1 v1 0) ≤ 2147483647) (k1 : (σ.1 v1 0) ≤ v4 → am_X (am_FI G (d + 1) Q) mX9_smallest (0, 0) 55 [none, none, some (am_l v2), none, none] [] (am_K0, σ)) (k2 : ¬ ((σ.1 v1 0) ≤ v4) → am_X (am_FI G (d + 1) Q) mX9_smallest (0, 0) 21 [some (am_r (some 24)), some (am_r (some v1)), some (am_l v2), none, some (am_i v4)] [] (am_K0, σ)) : am_X (am_FI G (d + 1) Q) mX9_smallest (0, 0) 12 [some (am_r (some 24)), some (am_r (some v1)), some (am_l v2), none, some (am_i v4)] [] (am_K0, σ) := by
  refine am_r_iload (nx := 14) rfl (show decode cX9_smallest 12 = .ok (.iload 4, 2) by decide +kernel) rfl ?_
  refine am_r_aload_n (nx := 15) rfl rfl (show decode cX9_smallest 14 = .ok (.aload_n 1, 1) by decide +kernel) rfl ?_
  refine am_r_getI (nx := 18) 0 cw2 (by decide) rfl (Or.inr ⟨_, fl_X9_29⟩) (obM hc1) (show decode cX9_smallest 15 = .ok (.getfield 29, 3) by decide +kernel) rfl ?_
  refine am_r_icmp_ge (tg := 55) (nx := 21) (show decode cX9_smallest 18 = .ok (.if_icmp .ge 37, 3) by decide +kernel) (by decide) rfl hr2 hr3 ?_ ?_
  · exact fun q => am_x_fg [0, 1, 4] (k1 q)
  · exact fun q => k2 q
theorem S_X9_smallest_21 {G : am_G} {d : Nat} {Q : Int → am_D → Prop} {σ : am_D} {v2 : Int64} {v4 : Int} {v1 : Nat} {Q' : Int → am_D → Prop} (hc : am_MI G d mX2_endTells [am_r (some v1), am_i v4] σ Q') (hc1 : am_isM v1) (k : ∀ (x : Int) (σ' : am_D), Q' x σ' → am_X (am_FI G (d + 1) Q) mX9_smallest (0, 0) 27 [some (am_r (some 24)), some (am_r (some v1)), some (am_l v2), none, some (am_i v4)] [am_i x] (am_K0, σ')) : am_X (am_FI G (d + 1) Q) mX9_smallest (0, 0) 21 [some (am_r (some 24)), some (am_r (some v1)), some (am_l v2), none, some (am_i v4)] [] (am_K0, σ) := by
  refine am_r_aload_n (nx := 22) rfl rfl (show decode cX9_smallest 21 = .ok (.aload_n 1, 1) by decide +kernel) rfl ?_
  refine am_r_iload (nx := 24) rfl (show decode cX9_smallest 22 = .ok (.iload 4, 2) by decide +kernel) rfl ?_
  refine am_r_callV (as := [am_i v4]) (st := []) hc mb_X2_endTells mv_X2_endTells (Or.inl ml_X9_48) (obM hc1) (by omega) (r := (RX2, TX2, 16)) rfl rfl rfl rfl (Nat.le_of_ble_eq_true rfl) ⟨Nat.le_refl _, Nat.le_refl _⟩ ⟨Nat.le_refl _, Nat.le_refl _⟩ (show decode cX9_smallest 24 = .ok (.invokevirtual 48, 3) by decide +kernel) ?_
  rintro _ _ ⟨x, σ', rfl, rfl, hq⟩ _
  exact (k x σ' hq)
theorem S_X9_smallest_27 {G : am_G} {d : Nat} {Q : Int → am_D → Prop} {σ : am_D} {v2 : Int64} {v4 : Int} {s0 : Int} {v1 : Option Nat} (hr1 : -2147483648 ≤ s0 ∧ s0 ≤ 2147483647) (k1 : s0 = (-1) → am_X (am_FI G (d + 1) Q) mX9_smallest (0, 0) 49 [some (am_r (some 24)), some (am_r v1), some (am_l v2), none, some (am_i v4)] [] (am_K0, σ)) (k2 : ¬ (s0 = (-1)) → am_X (am_FI G (d + 1) Q) mX9_smallest (0, 0) 31 [some (am_r (some 24)), some (am_r v1), some (am_l v2), none, some (am_i v4)] [] (am_K0, σ)) : am_X (am_FI G (d + 1) Q) mX9_smallest (0, 0) 27 [some (am_r (some 24)), some (am_r v1), some (am_l v2), none, some (am_i v4)] [am_i s0] (am_K0, σ) := by
  refine am_r_iconst (nx := 28) (show decode cX9_smallest 27 = .ok (.iconst (-1), 1) by decide +kernel) rfl ?_
  refine am_r_icmp_eq (tg := 49) (nx := 31) (show decode cX9_smallest 28 = .ok (.if_icmp .eq 21, 3) by decide +kernel) (by decide) rfl hr1 (by omega) ?_ ?_
  · exact fun q => k1 q
  · exact fun q => k2 q
theorem S_X9_smallest_31 {G : am_G} {d : Nat} {Q : Int → am_D → Prop} {σ : am_D} {v2 : Int64} {v4 : Int} {Q' : Int → am_D → Prop} {v1 : Option Nat} (hc : am_MI G d mX9_pair [am_i 0, am_i v4] σ Q') (k : ∀ (x : Int) (σ' : am_D), Q' x σ' → am_X (am_FI G (d + 1) Q) mX9_smallest (0, 0) 42 [some (am_r (some 24)), some (am_r v1), none, none, some (am_i v4)] [am_i x, am_r (some 25), am_l v2] (am_K0, σ')) : am_X (am_FI G (d + 1) Q) mX9_smallest (0, 0) 31 [some (am_r (some 24)), some (am_r v1), some (am_l v2), none, some (am_i v4)] [] (am_K0, σ) := by
  refine am_r_lload_n (nx := 32) rfl rfl (show decode cX9_smallest 31 = .ok (.lload_n 2, 1) by decide +kernel) rfl ?_
  refine am_r_aload_n (nx := 33) rfl rfl (show decode cX9_smallest 32 = .ok (.aload_n 0, 1) by decide +kernel) rfl ?_
  refine am_r_getF (nx := 36) 0 cw9 (by decide) rfl (Or.inl fl_X9_11) (ob_24) (fn_24_0) (show decode cX9_smallest 33 = .ok (.getfield 11, 3) by decide +kernel) rfl ?_
  refine am_r_iconst (nx := 37) (show decode cX9_smallest 36 = .ok (.iconst 0, 1) by decide +kernel) rfl ?_
  refine am_r_iload (nx := 39) rfl (show decode cX9_smallest 37 = .ok (.iload 4, 2) by decide +kernel) rfl ?_
  refine am_r_callS (as := [am_i 0, am_i v4]) (st := [am_r (some 25), am_l v2]) hc mb_X9_pair mv_X9_pair (Or.inl ml_X9_35) rfl rfl (Nat.le_of_ble_eq_true rfl) ⟨Nat.le_refl _, Nat.le_refl _⟩ ⟨Nat.le_refl _, Nat.le_refl _⟩ (show decode cX9_smallest 39 = .ok (.invokestatic 35, 3) by decide +kernel) ?_
  rintro _ _ ⟨x, σ', rfl, rfl, hq⟩ _
  exact am_x_fg [2] (k x σ' hq)
theorem S_X9_smallest_42 {G : am_G} {d : Nat} {Q : Int → am_D → Prop} {σ : am_D} {v4 : Int} {s0 : Int64} {s2 : Int} {s1 : Option Nat} {Q' : Int64 → am_D → Prop} {v1 : Option Nat} (hc : am_MJ G d mX9_at [am_r s1, am_i s2] σ Q') (k : ∀ (x : Int64) (σ' : am_D), Q' x σ' → am_X (am_FI G (d + 1) Q) mX9_smallest (0, 0) 45 [some (am_r (some 24)), some (am_r v1), none, none, some (am_i v4)] [am_l x, am_l s0] (am_K0, σ')) : am_X (am_FI G (d + 1) Q) mX9_smallest (0, 0) 42 [some (am_r (some 24)), some (am_r v1), none, none, some (am_i v4)] [am_i s2, am_r s1, am_l s0] (am_K0, σ) := by
  refine am_r_callS (as := [am_r s1, am_i s2]) (st := [am_l s0]) hc mb_X9_at mv_X9_at (Or.inl ml_X9_39) rfl rfl (Nat.le_of_ble_eq_true rfl) ⟨Nat.le_refl _, Nat.le_refl _⟩ ⟨Nat.le_refl _, Nat.le_refl _⟩ (show decode cX9_smallest 42 = .ok (.invokestatic 39, 3) by decide +kernel) ?_
  rintro _ _ ⟨x, σ', rfl, rfl, hq⟩ _
  exact (k x σ' hq)
theorem S_X9_smallest_45 {G : am_G} {d : Nat} {Q : Int → am_D → Prop} {σ : am_D} {v4 : Int} {s0 : Int64} {s1 : Int64} {Q' : Int64 → am_D → Prop} {v1 : Option Nat} (hc : am_MJ G d mJ9_min_f86c9 [am_l s0, am_l s1] σ Q') (k : ∀ (x : Int64) (σ' : am_D), Q' x σ' → am_X (am_FI G (d + 1) Q) mX9_smallest (0, 0) 49 [some (am_r (some 24)), some (am_r v1), some (am_l x), none, some (am_i v4)] [] (am_K0, σ')) : am_X (am_FI G (d + 1) Q) mX9_smallest (0, 0) 45 [some (am_r (some 24)), some (am_r v1), none, none, some (am_i v4)] [am_l s1, am_l s0] (am_K0, σ) := by
  refine am_r_callS (as := [am_l s0, am_l s1]) (st := []) hc mb_J9_min_f86c9 mv_J9_min_f86c9 (Or.inl ml_X9_52) rfl rfl (Nat.le_of_ble_eq_true rfl) ⟨Nat.le_refl _, Nat.le_refl _⟩ ⟨Nat.le_refl _, Nat.le_refl _⟩ (show decode cX9_smallest 45 = .ok (.invokestatic 52, 3) by decide +kernel) ?_
  rintro _ _ ⟨x, σ', rfl, rfl, hq⟩ _
  refine am_r_lstore_n (nx := 49) rfl (by decide) rfl (show decode cX9_smallest 48 = .ok (.lstore_n 2, 1) by decide +kernel) rfl ?_
  exact (k x σ' hq)
theorem S_X9_smallest_49 {G : am_G} {d : Nat} {Q : Int → am_D → Prop} {σ : am_D} {v2 : Int64} {v4 : Int} {v1 : Option Nat}  (k : am_X (am_FI G (d + 1) Q) mX9_smallest (0, 0) 12 [some (am_r (some 24)), some (am_r v1), some (am_l v2), none, some (am_i (v4 + 1))] [] (am_K0, σ)) : am_X (am_FI G (d + 1) Q) mX9_smallest (0, 0) 49 [some (am_r (some 24)), some (am_r v1), some (am_l v2), none, some (am_i v4)] [] (am_K0, σ) := by
  refine am_r_iinc (nx := 52) rfl rfl (show decode cX9_smallest 49 = .ok (.iinc 4 1, 3) by decide +kernel) rfl ?_
  refine am_r_goto (tg := 12) (show decode cX9_smallest 52 = .ok (.goto (-40), 3) by decide +kernel) (by decide) ?_
  exact k
theorem S_X9_smallest_55 {G : am_G} {d : Nat} {Q : Int → am_D → Prop} {σ : am_D} {v2 : Int64}  (k1 : 0 ≤ (am_lcmp v2 1099511627776) → am_X (am_FI G (d + 1) Q) mX9_smallest (0, 0) 68 [none, none, none, none, none] [] (am_K0, σ)) (k2 : ¬ (0 ≤ (am_lcmp v2 1099511627776)) → am_X (am_FI G (d + 1) Q) mX9_smallest (0, 0) 63 [none, none, some (am_l v2), none, none] [] (am_K0, σ)) : am_X (am_FI G (d + 1) Q) mX9_smallest (0, 0) 55 [none, none, some (am_l v2), none, none] [] (am_K0, σ) := by
  refine am_r_lload_n (nx := 56) rfl rfl (show decode cX9_smallest 55 = .ok (.lload_n 2, 1) by decide +kernel) rfl ?_
  refine am_r_ldc2 (nx := 59) (n := 1099511627776) (am_mt 792 (by decide +kernel) rfl) (show decode cX9_smallest 56 = .ok (.ldc2_w 43, 3) by decide +kernel) rfl ?_
  refine am_r_lcmp (nx := 60) (show decode cX9_smallest 59 = .ok (.lcmp, 1) by decide +kernel) rfl ?_
  refine am_r_if_ge (tg := 68) (nx := 63) (show decode cX9_smallest 60 = .ok (.ifCond .ge 8, 3) by decide +kernel) (by decide) rfl (am_lcmp_rg _ _) ?_ ?_
  · exact fun q => am_x_fg [2] (k1 q)
  · exact fun q => k2 q
theorem S_X9_smallest_63 {G : am_G} {d : Nat} {Q : Int → am_D → Prop} {σ : am_D} {v2 : Int64}  (k : am_X (am_FI G (d + 1) Q) mX9_smallest (0, 0) 69 [none, none, none, none, none] [am_i (am_l2i v2)] (am_K0, σ)) : am_X (am_FI G (d + 1) Q) mX9_smallest (0, 0) 63 [none, none, some (am_l v2), none, none] [] (am_K0, σ) := by
  refine am_r_lload_n (nx := 64) rfl rfl (show decode cX9_smallest 63 = .ok (.lload_n 2, 1) by decide +kernel) rfl ?_
  refine am_r_l2i (nx := 65) (show decode cX9_smallest 64 = .ok (.l2i, 1) by decide +kernel) rfl ?_
  refine am_r_goto (tg := 69) (show decode cX9_smallest 65 = .ok (.goto 4, 3) by decide +kernel) (by decide) ?_
  exact am_x_fg [2] k
theorem S_X9_smallest_68 {G : am_G} {d : Nat} {Q : Int → am_D → Prop} {σ : am_D}   (k : am_X (am_FI G (d + 1) Q) mX9_smallest (0, 0) 69 [none, none, none, none, none] [am_i (-1)] (am_K0, σ)) : am_X (am_FI G (d + 1) Q) mX9_smallest (0, 0) 68 [none, none, none, none, none] [] (am_K0, σ) := by
  refine am_r_iconst (nx := 69) (show decode cX9_smallest 68 = .ok (.iconst (-1), 1) by decide +kernel) rfl ?_
  exact k
theorem S_X9_smallest_69 {G : am_G} {d : Nat} {Q : Int → am_D → Prop} {σ : am_D} {s0 : Int}  (k : Q s0 σ) : am_X (am_FI G (d + 1) Q) mX9_smallest (0, 0) 69 [none, none, none, none, none] [am_i s0] (am_K0, σ) := by
  exact am_r_iret rfl rfl (show decode cX9_smallest 69 = .ok (.ireturn, 1) by decide +kernel) ⟨_, _, rfl, rfl, k⟩
theorem S_X9_measure_0 {G : am_G} {d : Nat} {Q : am_D → Prop} {σ : am_D} {v1 : Option Nat}  (k : am_X (am_FV G (d + 1) Q) mX9_measure (0, 0) 2 [some (am_r (some 24)), some (am_r v1), some (am_i 0), none] [] (am_K0, σ)) : am_X (am_FV G (d + 1) Q) mX9_measure (0, 0) 0 [some (am_r (some 24)), some (am_r v1), none, none] [] (am_K0, σ) := by
  refine am_r_iconst (nx := 1) (show decode cX9_measure 0 = .ok (.iconst 0, 1) by decide +kernel) rfl ?_
  refine am_r_istore_n (nx := 2) rfl (by decide) rfl (show decode cX9_measure 1 = .ok (.istore_n 2, 1) by decide +kernel) rfl ?_
  exact k
theorem S_X9_measure_2 {G : am_G} {d : Nat} {Q : am_D → Prop} {σ : am_D} {v2 : Int} {v1 : Option Nat} (hr1 : -2147483648 ≤ v2 ∧ v2 ≤ 2147483647) (k1 : 6 ≤ v2 → am_X (am_FV G (d + 1) Q) mX9_measure (0, 0) 52 [some (am_r (some 24)), some (am_r v1), none, none] [] (am_K0, σ)) (k2 : ¬ (6 ≤ v2) → am_X (am_FV G (d + 1) Q) mX9_measure (0, 0) 8 [some (am_r (some 24)), some (am_r v1), some (am_i v2), none] [] (am_K0, σ)) : am_X (am_FV G (d + 1) Q) mX9_measure (0, 0) 2 [some (am_r (some 24)), some (am_r v1), some (am_i v2), none] [] (am_K0, σ) := by
  refine am_r_iload_n (nx := 3) rfl rfl (show decode cX9_measure 2 = .ok (.iload_n 2, 1) by decide +kernel) rfl ?_
  refine am_r_bipush (nx := 5) rfl (show decode cX9_measure 3 = .ok (.bipush 6, 2) by decide +kernel) rfl ?_
  refine am_r_icmp_ge (tg := 52) (nx := 8) (show decode cX9_measure 5 = .ok (.if_icmp .ge 47, 3) by decide +kernel) (by decide) rfl hr1 (by omega) ?_ ?_
  · exact fun q => am_x_fg [2] (k1 q)
  · exact fun q => k2 q
theorem S_X9_measure_8 {G : am_G} {d : Nat} {Q : am_D → Prop} {σ : am_D} {v2 : Int} {v1 : Option Nat}  (k : am_X (am_FV G (d + 1) Q) mX9_measure (0, 0) 10 [some (am_r (some 24)), some (am_r v1), some (am_i v2), some (am_i 0)] [] (am_K0, σ)) : am_X (am_FV G (d + 1) Q) mX9_measure (0, 0) 8 [some (am_r (some 24)), some (am_r v1), some (am_i v2), none] [] (am_K0, σ) := by
  refine am_r_iconst (nx := 9) (show decode cX9_measure 8 = .ok (.iconst 0, 1) by decide +kernel) rfl ?_
  refine am_r_istore_n (nx := 10) rfl (by decide) rfl (show decode cX9_measure 9 = .ok (.istore_n 3, 1) by decide +kernel) rfl ?_
  exact k
theorem S_X9_measure_10 {G : am_G} {d : Nat} {Q : am_D → Prop} {σ : am_D} {v2 : Int} {v3 : Int} {v1 : Option Nat} (hr1 : -2147483648 ≤ v3 ∧ v3 ≤ 2147483647) (k1 : 6 ≤ v3 → am_X (am_FV G (d + 1) Q) mX9_measure (0, 0) 46 [some (am_r (some 24)), some (am_r v1), some (am_i v2), none] [] (am_K0, σ)) (k2 : ¬ (6 ≤ v3) → am_X (am_FV G (d + 1) Q) mX9_measure (0, 0) 16 [some (am_r (some 24)), some (am_r v1), some (am_i v2), some (am_i v3)] [] (am_K0, σ)) : am_X (am_FV G (d + 1) Q) mX9_measure (0, 0) 10 [some (am_r (some 24)), some (am_r v1), some (am_i v2), some (am_i v3)] [] (am_K0, σ) := by
  refine am_r_iload_n (nx := 11) rfl rfl (show decode cX9_measure 10 = .ok (.iload_n 3, 1) by decide +kernel) rfl ?_
  refine am_r_bipush (nx := 13) rfl (show decode cX9_measure 11 = .ok (.bipush 6, 2) by decide +kernel) rfl ?_
  refine am_r_icmp_ge (tg := 46) (nx := 16) (show decode cX9_measure 13 = .ok (.if_icmp .ge 33, 3) by decide +kernel) (by decide) rfl hr1 (by omega) ?_ ?_
  · exact fun q => am_x_fg [3] (k1 q)
  · exact fun q => k2 q
theorem S_X9_measure_16 {G : am_G} {d : Nat} {Q : am_D → Prop} {σ : am_D} {v2 : Int} {v3 : Int} {Q' : Int → am_D → Prop} {v1 : Option Nat} (hc : am_MI G d mX9_pair [am_i v2, am_i v3] σ Q') (k : ∀ (x : Int) (σ' : am_D), Q' x σ' → am_X (am_FV G (d + 1) Q) mX9_measure (0, 0) 25 [some (am_r (some 24)), some (am_r v1), some (am_i v2), some (am_i v3)] [am_i x, am_r (some 25)] (am_K0, σ')) : am_X (am_FV G (d + 1) Q) mX9_measure (0, 0) 16 [some (am_r (some 24)), some (am_r v1), some (am_i v2), some (am_i v3)] [] (am_K0, σ) := by
  refine am_r_aload_n (nx := 17) rfl rfl (show decode cX9_measure 16 = .ok (.aload_n 0, 1) by decide +kernel) rfl ?_
  refine am_r_getF (nx := 20) 0 cw9 (by decide) rfl (Or.inl fl_X9_11) (ob_24) (fn_24_0) (show decode cX9_measure 17 = .ok (.getfield 11, 3) by decide +kernel) rfl ?_
  refine am_r_iload_n (nx := 21) rfl rfl (show decode cX9_measure 20 = .ok (.iload_n 2, 1) by decide +kernel) rfl ?_
  refine am_r_iload_n (nx := 22) rfl rfl (show decode cX9_measure 21 = .ok (.iload_n 3, 1) by decide +kernel) rfl ?_
  refine am_r_callS (as := [am_i v2, am_i v3]) (st := [am_r (some 25)]) hc mb_X9_pair mv_X9_pair (Or.inl ml_X9_35) rfl rfl (Nat.le_of_ble_eq_true rfl) ⟨Nat.le_refl _, Nat.le_refl _⟩ ⟨Nat.le_refl _, Nat.le_refl _⟩ (show decode cX9_measure 22 = .ok (.invokestatic 35, 3) by decide +kernel) ?_
  rintro _ _ ⟨x, σ', rfl, rfl, hq⟩ _
  exact (k x σ' hq)
theorem S_X9_measure_25 {G : am_G} {d : Nat} {Q : am_D → Prop} {σ : am_D} {v2 : Int} {v3 : Int} {s1 : Int} {v1 : Option Nat} {s0 : Option Nat} (hr1 : -2147483648 ≤ v2 ∧ v2 ≤ 2147483647) (hr2 : -2147483648 ≤ v3 ∧ v3 ≤ 2147483647) (k1 : ¬ v2 = v3 → am_X (am_FV G (d + 1) Q) mX9_measure (0, 0) 34 [some (am_r (some 24)), some (am_r v1), some (am_i v2), some (am_i v3)] [am_i s1, am_r s0] (am_K0, σ)) (k2 : ¬ (¬ v2 = v3) → am_X (am_FV G (d + 1) Q) mX9_measure (0, 0) 30 [some (am_r (some 24)), some (am_r v1), some (am_i v2), some (am_i v3)] [am_i s1, am_r s0] (am_K0, σ)) : am_X (am_FV G (d + 1) Q) mX9_measure (0, 0) 25 [some (am_r (some 24)), some (am_r v1), some (am_i v2), some (am_i v3)] [am_i s1, am_r s0] (am_K0, σ) := by
  refine am_r_iload_n (nx := 26) rfl rfl (show decode cX9_measure 25 = .ok (.iload_n 2, 1) by decide +kernel) rfl ?_
  refine am_r_iload_n (nx := 27) rfl rfl (show decode cX9_measure 26 = .ok (.iload_n 3, 1) by decide +kernel) rfl ?_
  refine am_r_icmp_ne (tg := 34) (nx := 30) (show decode cX9_measure 27 = .ok (.if_icmp .ne 7, 3) by decide +kernel) (by decide) rfl hr1 hr2 ?_ ?_
  · exact fun q => k1 q
  · exact fun q => k2 q
theorem S_X9_measure_30 {G : am_G} {d : Nat} {Q : am_D → Prop} {σ : am_D} {v2 : Int} {v3 : Int} {s1 : Int} {v1 : Option Nat} {s0 : Option Nat}  (k : am_X (am_FV G (d + 1) Q) mX9_measure (0, 0) 37 [some (am_r (some 24)), some (am_r v1), some (am_i v2), some (am_i v3)] [am_l 0, am_i s1, am_r s0] (am_K0, σ)) : am_X (am_FV G (d + 1) Q) mX9_measure (0, 0) 30 [some (am_r (some 24)), some (am_r v1), some (am_i v2), some (am_i v3)] [am_i s1, am_r s0] (am_K0, σ) := by
  refine am_r_lconst (nx := 31) (v := 0) rfl (show decode cX9_measure 30 = .ok (.lconst 0, 1) by decide +kernel) rfl ?_
  refine am_r_goto (tg := 37) (show decode cX9_measure 31 = .ok (.goto 6, 3) by decide +kernel) (by decide) ?_
  exact k
theorem S_X9_measure_34 {G : am_G} {d : Nat} {Q : am_D → Prop} {σ : am_D} {v2 : Int} {v3 : Int} {s1 : Int} {v1 : Option Nat} {s0 : Option Nat}  (k : am_X (am_FV G (d + 1) Q) mX9_measure (0, 0) 37 [some (am_r (some 24)), some (am_r v1), some (am_i v2), some (am_i v3)] [am_l 1099511627776, am_i s1, am_r s0] (am_K0, σ)) : am_X (am_FV G (d + 1) Q) mX9_measure (0, 0) 34 [some (am_r (some 24)), some (am_r v1), some (am_i v2), some (am_i v3)] [am_i s1, am_r s0] (am_K0, σ) := by
  refine am_r_ldc2 (nx := 37) (n := 1099511627776) (am_mt 792 (by decide +kernel) rfl) (show decode cX9_measure 34 = .ok (.ldc2_w 43, 3) by decide +kernel) rfl ?_
  exact k
theorem S_X9_measure_37 {G : am_G} {d : Nat} {Q : am_D → Prop} {σ : am_D} {v2 : Int} {v3 : Int} {s1 : Int} {s2 : Int64} {s0 : Option Nat} {Q' : am_D → Prop} {v1 : Option Nat} (hc : am_MV G d mX9_put [am_r s0, am_i s1, am_l s2] σ Q') (k : ∀ σ' : am_D, Q' σ' → am_X (am_FV G (d + 1) Q) mX9_measure (0, 0) 40 [some (am_r (some 24)), some (am_r v1), some (am_i v2), some (am_i v3)] [] (am_K0, σ')) : am_X (am_FV G (d + 1) Q) mX9_measure (0, 0) 37 [some (am_r (some 24)), some (am_r v1), some (am_i v2), some (am_i v3)] [am_l s2, am_i s1, am_r s0] (am_K0, σ) := by
  refine am_r_callS (as := [am_r s0, am_i s1, am_l s2]) (st := []) hc mb_X9_put mv_X9_put (Or.inl ml_X9_58) rfl rfl (Nat.le_of_ble_eq_true rfl) ⟨Nat.le_refl _, Nat.le_refl _⟩ ⟨Nat.le_refl _, Nat.le_refl _⟩ (show decode cX9_measure 37 = .ok (.invokestatic 58, 3) by decide +kernel) ?_
  rintro _ _ ⟨σ', rfl, rfl, hq⟩ _
  exact (k σ' hq)
theorem S_X9_measure_40 {G : am_G} {d : Nat} {Q : am_D → Prop} {σ : am_D} {v2 : Int} {v3 : Int} {v1 : Option Nat}  (k : am_X (am_FV G (d + 1) Q) mX9_measure (0, 0) 10 [some (am_r (some 24)), some (am_r v1), some (am_i v2), some (am_i (v3 + 1))] [] (am_K0, σ)) : am_X (am_FV G (d + 1) Q) mX9_measure (0, 0) 40 [some (am_r (some 24)), some (am_r v1), some (am_i v2), some (am_i v3)] [] (am_K0, σ) := by
  refine am_r_iinc (nx := 43) rfl rfl (show decode cX9_measure 40 = .ok (.iinc 3 1, 3) by decide +kernel) rfl ?_
  refine am_r_goto (tg := 10) (show decode cX9_measure 43 = .ok (.goto (-33), 3) by decide +kernel) (by decide) ?_
  exact k
theorem S_X9_measure_46 {G : am_G} {d : Nat} {Q : am_D → Prop} {σ : am_D} {v2 : Int} {v1 : Option Nat}  (k : am_X (am_FV G (d + 1) Q) mX9_measure (0, 0) 2 [some (am_r (some 24)), some (am_r v1), some (am_i (v2 + 1)), none] [] (am_K0, σ)) : am_X (am_FV G (d + 1) Q) mX9_measure (0, 0) 46 [some (am_r (some 24)), some (am_r v1), some (am_i v2), none] [] (am_K0, σ) := by
  refine am_r_iinc (nx := 49) rfl rfl (show decode cX9_measure 46 = .ok (.iinc 2 1, 3) by decide +kernel) rfl ?_
  refine am_r_goto (tg := 2) (show decode cX9_measure 49 = .ok (.goto (-47), 3) by decide +kernel) (by decide) ?_
  exact k
theorem S_X9_measure_52 {G : am_G} {d : Nat} {Q : am_D → Prop} {σ : am_D} {v1 : Option Nat}  (k : am_X (am_FV G (d + 1) Q) mX9_measure (0, 0) 54 [some (am_r (some 24)), some (am_r v1), some (am_i 1), none] [] (am_K0, σ)) : am_X (am_FV G (d + 1) Q) mX9_measure (0, 0) 52 [some (am_r (some 24)), some (am_r v1), none, none] [] (am_K0, σ) := by
  refine am_r_iconst (nx := 53) (show decode cX9_measure 52 = .ok (.iconst 1, 1) by decide +kernel) rfl ?_
  refine am_r_istore_n (nx := 54) rfl (by decide) rfl (show decode cX9_measure 53 = .ok (.istore_n 2, 1) by decide +kernel) rfl ?_
  exact k
theorem S_X9_measure_54 {G : am_G} {d : Nat} {Q : am_D → Prop} {σ : am_D} {v2 : Int} {v1 : Option Nat}  (k : am_X (am_FV G (d + 1) Q) mX9_measure (0, 0) 56 [some (am_r (some 24)), some (am_r v1), some (am_i v2), some (am_i 0)] [] (am_K0, σ)) : am_X (am_FV G (d + 1) Q) mX9_measure (0, 0) 54 [some (am_r (some 24)), some (am_r v1), some (am_i v2), none] [] (am_K0, σ) := by
  refine am_r_iconst (nx := 55) (show decode cX9_measure 54 = .ok (.iconst 0, 1) by decide +kernel) rfl ?_
  refine am_r_istore_n (nx := 56) rfl (by decide) rfl (show decode cX9_measure 55 = .ok (.istore_n 3, 1) by decide +kernel) rfl ?_
  exact k
theorem S_X9_measure_56 {G : am_G} {d : Nat} {Q : am_D → Prop} {σ : am_D} {v2 : Int} {v3 : Int} {v1 : Option Nat} (hr1 : -2147483648 ≤ v3 ∧ v3 ≤ 2147483647) (k1 : 37 ≤ v3 → am_X (am_FV G (d + 1) Q) mX9_measure (0, 0) 78 [none, none, none, none] [] (am_K0, σ)) (k2 : ¬ (37 ≤ v3) → am_X (am_FV G (d + 1) Q) mX9_measure (0, 0) 62 [some (am_r (some 24)), some (am_r v1), some (am_i v2), some (am_i v3)] [] (am_K0, σ)) : am_X (am_FV G (d + 1) Q) mX9_measure (0, 0) 56 [some (am_r (some 24)), some (am_r v1), some (am_i v2), some (am_i v3)] [] (am_K0, σ) := by
  refine am_r_iload_n (nx := 57) rfl rfl (show decode cX9_measure 56 = .ok (.iload_n 3, 1) by decide +kernel) rfl ?_
  refine am_r_bipush (nx := 59) rfl (show decode cX9_measure 57 = .ok (.bipush 37, 2) by decide +kernel) rfl ?_
  refine am_r_icmp_ge (tg := 78) (nx := 62) (show decode cX9_measure 59 = .ok (.if_icmp .ge 19, 3) by decide +kernel) (by decide) rfl hr1 (by omega) ?_ ?_
  · exact fun q => am_x_fg [0, 1, 2, 3] (k1 q)
  · exact fun q => k2 q
theorem S_X9_measure_62 {G : am_G} {d : Nat} {Q : am_D → Prop} {σ : am_D} {v2 : Int} {v3 : Int} {v1 : Option Nat} (hr1 : -2147483648 ≤ v2 ∧ v2 ≤ 2147483647) (k1 : v2 = 0 → am_X (am_FV G (d + 1) Q) mX9_measure (0, 0) 78 [none, none, none, none] [] (am_K0, σ)) (k2 : ¬ (v2 = 0) → am_X (am_FV G (d + 1) Q) mX9_measure (0, 0) 66 [some (am_r (some 24)), some (am_r v1), none, some (am_i v3)] [] (am_K0, σ)) : am_X (am_FV G (d + 1) Q) mX9_measure (0, 0) 62 [some (am_r (some 24)), some (am_r v1), some (am_i v2), some (am_i v3)] [] (am_K0, σ) := by
  refine am_r_iload_n (nx := 63) rfl rfl (show decode cX9_measure 62 = .ok (.iload_n 2, 1) by decide +kernel) rfl ?_
  refine am_r_if_eq (tg := 78) (nx := 66) (show decode cX9_measure 63 = .ok (.ifCond .eq 15, 3) by decide +kernel) (by decide) rfl hr1 ?_ ?_
  · exact fun q => am_x_fg [0, 1, 2, 3] (k1 q)
  · exact fun q => am_x_fg [2] (k2 q)
theorem S_X9_measure_66 {G : am_G} {d : Nat} {Q : am_D → Prop} {σ : am_D} {v3 : Int} {v1 : Option Nat} {Q' : Int → am_D → Prop} (hc : am_MI G d mX9_shorten [am_r (some 24), am_r v1] σ Q') (k : ∀ (x : Int) (σ' : am_D), Q' x σ' → am_X (am_FV G (d + 1) Q) mX9_measure (0, 0) 72 [some (am_r (some 24)), some (am_r v1), some (am_i x), some (am_i v3)] [] (am_K0, σ')) : am_X (am_FV G (d + 1) Q) mX9_measure (0, 0) 66 [some (am_r (some 24)), some (am_r v1), none, some (am_i v3)] [] (am_K0, σ) := by
  refine am_r_aload_n (nx := 67) rfl rfl (show decode cX9_measure 66 = .ok (.aload_n 0, 1) by decide +kernel) rfl ?_
  refine am_r_aload_n (nx := 68) rfl rfl (show decode cX9_measure 67 = .ok (.aload_n 1, 1) by decide +kernel) rfl ?_
  refine am_r_callV (as := [am_r v1]) (st := []) hc mb_X9_shorten mv_X9_shorten (Or.inl ml_X9_62) (ob_24) (by omega) (r := (RX9, TX9, 3)) rfl rfl rfl rfl (Nat.le_of_ble_eq_true rfl) ⟨Nat.le_refl _, Nat.le_refl _⟩ ⟨Nat.le_refl _, Nat.le_refl _⟩ (show decode cX9_measure 68 = .ok (.invokevirtual 62, 3) by decide +kernel) ?_
  rintro _ _ ⟨x, σ', rfl, rfl, hq⟩ _
  refine am_r_istore_n (nx := 72) rfl (by decide) rfl (show decode cX9_measure 71 = .ok (.istore_n 2, 1) by decide +kernel) rfl ?_
  exact (k x σ' hq)
theorem S_X9_measure_72 {G : am_G} {d : Nat} {Q : am_D → Prop} {σ : am_D} {v2 : Int} {v3 : Int} {v1 : Option Nat}  (k : am_X (am_FV G (d + 1) Q) mX9_measure (0, 0) 56 [some (am_r (some 24)), some (am_r v1), some (am_i v2), some (am_i (v3 + 1))] [] (am_K0, σ)) : am_X (am_FV G (d + 1) Q) mX9_measure (0, 0) 72 [some (am_r (some 24)), some (am_r v1), some (am_i v2), some (am_i v3)] [] (am_K0, σ) := by
  refine am_r_iinc (nx := 75) rfl rfl (show decode cX9_measure 72 = .ok (.iinc 3 1, 3) by decide +kernel) rfl ?_
  refine am_r_goto (tg := 56) (show decode cX9_measure 75 = .ok (.goto (-19), 3) by decide +kernel) (by decide) ?_
  exact k
theorem S_X9_measure_78 {G : am_G} {d : Nat} {Q : am_D → Prop} {σ : am_D}   (k : Q σ) : am_X (am_FV G (d + 1) Q) mX9_measure (0, 0) 78 [none, none, none, none] [] (am_K0, σ) := by
  exact am_r_vret rfl (show decode cX9_measure 78 = .ok (.return_, 1) by decide +kernel) ⟨_, rfl, rfl, k⟩
theorem S_X9_shorten_0 {G : am_G} {d : Nat} {Q : Int → am_D → Prop} {σ : am_D} {v1 : Option Nat}  (k : am_X (am_FI G (d + 1) Q) mX9_shorten (0, 0) 2 [some (am_r (some 24)), some (am_r v1), some (am_i 0), none, none, none, none, none, none, none] [] (am_K0, σ)) : am_X (am_FI G (d + 1) Q) mX9_shorten (0, 0) 0 [some (am_r (some 24)), some (am_r v1), none, none, none, none, none, none, none, none] [] (am_K0, σ) := by
  refine am_r_iconst (nx := 1) (show decode cX9_shorten 0 = .ok (.iconst 0, 1) by decide +kernel) rfl ?_
  refine am_r_istore_n (nx := 2) rfl (by decide) rfl (show decode cX9_shorten 1 = .ok (.istore_n 2, 1) by decide +kernel) rfl ?_
  exact k
theorem S_X9_shorten_2 {G : am_G} {d : Nat} {Q : Int → am_D → Prop} {σ : am_D} {v2 : Int} {v1 : Option Nat}  (k : am_X (am_FI G (d + 1) Q) mX9_shorten (0, 0) 4 [some (am_r (some 24)), some (am_r v1), some (am_i v2), some (am_i 0), none, none, none, none, none, none] [] (am_K0, σ)) : am_X (am_FI G (d + 1) Q) mX9_shorten (0, 0) 2 [some (am_r (some 24)), some (am_r v1), some (am_i v2), none, none, none, none, none, none, none] [] (am_K0, σ) := by
  refine am_r_iconst (nx := 3) (show decode cX9_shorten 2 = .ok (.iconst 0, 1) by decide +kernel) rfl ?_
  refine am_r_istore_n (nx := 4) rfl (by decide) rfl (show decode cX9_shorten 3 = .ok (.istore_n 3, 1) by decide +kernel) rfl ?_
  exact k
theorem S_X9_shorten_4 {G : am_G} {d : Nat} {Q : Int → am_D → Prop} {σ : am_D} {v2 : Int} {v3 : Int} {v1 : Nat} (hc1 : am_isM v1) (hr2 : -2147483648 ≤ v3 ∧ v3 ≤ 2147483647) (hr3 : -2147483648 ≤ (σ.1 v1 0) ∧ (σ.1 v1 0) ≤ 2147483647) (k1 : (σ.1 v1 0) ≤ v3 → am_X (am_FI G (d + 1) Q) mX9_shorten (0, 0) 128 [none, none, some (am_i v2), none, none, none, none, none, none, none] [] (am_K0, σ)) (k2 : ¬ ((σ.1 v1 0) ≤ v3) → am_X (am_FI G (d + 1) Q) mX9_shorten (0, 0) 12 [some (am_r (some 24)), some (am_r (some v1)), some (am_i v2), some (am_i v3), none, none, none, none, none, none] [] (am_K0, σ)) : am_X (am_FI G (d + 1) Q) mX9_shorten (0, 0) 4 [some (am_r (some 24)), some (am_r (some v1)), some (am_i v2), some (am_i v3), none, none, none, none, none, none] [] (am_K0, σ) := by
  refine am_r_iload_n (nx := 5) rfl rfl (show decode cX9_shorten 4 = .ok (.iload_n 3, 1) by decide +kernel) rfl ?_
  refine am_r_aload_n (nx := 6) rfl rfl (show decode cX9_shorten 5 = .ok (.aload_n 1, 1) by decide +kernel) rfl ?_
  refine am_r_getI (nx := 9) 0 cw2 (by decide) rfl (Or.inr ⟨_, fl_X9_29⟩) (obM hc1) (show decode cX9_shorten 6 = .ok (.getfield 29, 3) by decide +kernel) rfl ?_
  refine am_r_icmp_ge (tg := 128) (nx := 12) (show decode cX9_shorten 9 = .ok (.if_icmp .ge 119, 3) by decide +kernel) (by decide) rfl hr2 hr3 ?_ ?_
  · exact fun q => am_x_fg [0, 1, 3] (k1 q)
  · exact fun q => k2 q
theorem S_X9_shorten_12 {G : am_G} {d : Nat} {Q : Int → am_D → Prop} {σ : am_D} {v2 : Int} {v3 : Int} {v1 : Option Nat}  (k : am_X (am_FI G (d + 1) Q) mX9_shorten (0, 0) 15 [some (am_r (some 24)), some (am_r v1), some (am_i v2), some (am_i v3), some (am_i 0), none, none, none, none, none] [] (am_K0, σ)) : am_X (am_FI G (d + 1) Q) mX9_shorten (0, 0) 12 [some (am_r (some 24)), some (am_r v1), some (am_i v2), some (am_i v3), none, none, none, none, none, none] [] (am_K0, σ) := by
  refine am_r_iconst (nx := 13) (show decode cX9_shorten 12 = .ok (.iconst 0, 1) by decide +kernel) rfl ?_
  refine am_r_istore (nx := 15) (by decide) rfl (show decode cX9_shorten 13 = .ok (.istore 4, 2) by decide +kernel) rfl ?_
  exact k
theorem S_X9_shorten_15 {G : am_G} {d : Nat} {Q : Int → am_D → Prop} {σ : am_D} {v2 : Int} {v3 : Int} {v4 : Int} {v1 : Option Nat} (hr1 : -2147483648 ≤ v4 ∧ v4 ≤ 2147483647) (k1 : 3 ≤ v4 → am_X (am_FI G (d + 1) Q) mX9_shorten (0, 0) 122 [some (am_r (some 24)), some (am_r v1), some (am_i v2), some (am_i v3), none, none, none, none, none, none] [] (am_K0, σ)) (k2 : ¬ (3 ≤ v4) → am_X (am_FI G (d + 1) Q) mX9_shorten (0, 0) 21 [some (am_r (some 24)), some (am_r v1), some (am_i v2), some (am_i v3), some (am_i v4), none, none, none, none, none] [] (am_K0, σ)) : am_X (am_FI G (d + 1) Q) mX9_shorten (0, 0) 15 [some (am_r (some 24)), some (am_r v1), some (am_i v2), some (am_i v3), some (am_i v4), none, none, none, none, none] [] (am_K0, σ) := by
  refine am_r_iload (nx := 17) rfl (show decode cX9_shorten 15 = .ok (.iload 4, 2) by decide +kernel) rfl ?_
  refine am_r_iconst (nx := 18) (show decode cX9_shorten 17 = .ok (.iconst 3, 1) by decide +kernel) rfl ?_
  refine am_r_icmp_ge (tg := 122) (nx := 21) (show decode cX9_shorten 18 = .ok (.if_icmp .ge 104, 3) by decide +kernel) (by decide) rfl hr1 (by omega) ?_ ?_
  · exact fun q => am_x_fg [4] (k1 q)
  · exact fun q => k2 q
theorem S_X9_shorten_21 {G : am_G} {d : Nat} {Q : Int → am_D → Prop} {σ : am_D} {v2 : Int} {v3 : Int} {v4 : Int} {v1 : Nat} {Q' : Int → am_D → Prop} (hc : am_MI G d mX2_opensTo [am_r (some v1), am_i v4, am_i v3] σ Q') (hc1 : am_isM v1) (k : ∀ (x : Int) (σ' : am_D), Q' x σ' → am_X (am_FI G (d + 1) Q) mX9_shorten (0, 0) 30 [some (am_r (some 24)), some (am_r (some v1)), some (am_i v2), some (am_i v3), some (am_i v4), some (am_i x), none, none, none, none] [] (am_K0, σ')) : am_X (am_FI G (d + 1) Q) mX9_shorten (0, 0) 21 [some (am_r (some 24)), some (am_r (some v1)), some (am_i v2), some (am_i v3), some (am_i v4), none, none, none, none, none] [] (am_K0, σ) := by
  refine am_r_aload_n (nx := 22) rfl rfl (show decode cX9_shorten 21 = .ok (.aload_n 1, 1) by decide +kernel) rfl ?_
  refine am_r_iload (nx := 24) rfl (show decode cX9_shorten 22 = .ok (.iload 4, 2) by decide +kernel) rfl ?_
  refine am_r_iload_n (nx := 25) rfl rfl (show decode cX9_shorten 24 = .ok (.iload_n 3, 1) by decide +kernel) rfl ?_
  refine am_r_callV (as := [am_i v4, am_i v3]) (st := []) hc mb_X2_opensTo mv_X2_opensTo (Or.inl ml_X9_45) (obM hc1) (by omega) (r := (RX2, TX2, 16)) rfl rfl rfl rfl (Nat.le_of_ble_eq_true rfl) ⟨Nat.le_refl _, Nat.le_refl _⟩ ⟨Nat.le_refl _, Nat.le_refl _⟩ (show decode cX9_shorten 25 = .ok (.invokevirtual 45, 3) by decide +kernel) ?_
  rintro _ _ ⟨x, σ', rfl, rfl, hq⟩ _
  refine am_r_istore (nx := 30) (by decide) rfl (show decode cX9_shorten 28 = .ok (.istore 5, 2) by decide +kernel) rfl ?_
  exact (k x σ' hq)
theorem S_X9_shorten_30 {G : am_G} {d : Nat} {Q : Int → am_D → Prop} {σ : am_D} {v2 : Int} {v3 : Int} {v4 : Int} {v5 : Int} {v1 : Option Nat}  (k : am_X (am_FI G (d + 1) Q) mX9_shorten (0, 0) 33 [some (am_r (some 24)), some (am_r v1), some (am_i v2), some (am_i v3), some (am_i v4), some (am_i v5), some (am_i 0), none, none, none] [] (am_K0, σ)) : am_X (am_FI G (d + 1) Q) mX9_shorten (0, 0) 30 [some (am_r (some 24)), some (am_r v1), some (am_i v2), some (am_i v3), some (am_i v4), some (am_i v5), none, none, none, none] [] (am_K0, σ) := by
  refine am_r_iconst (nx := 31) (show decode cX9_shorten 30 = .ok (.iconst 0, 1) by decide +kernel) rfl ?_
  refine am_r_istore (nx := 33) (by decide) rfl (show decode cX9_shorten 31 = .ok (.istore 6, 2) by decide +kernel) rfl ?_
  exact k
theorem S_X9_shorten_33 {G : am_G} {d : Nat} {Q : Int → am_D → Prop} {σ : am_D} {v2 : Int} {v3 : Int} {v4 : Int} {v5 : Int} {v6 : Int} {v1 : Option Nat} (hr1 : -2147483648 ≤ v5 ∧ v5 ≤ 2147483647) (k1 : v5 = (-1) → am_X (am_FI G (d + 1) Q) mX9_shorten (0, 0) 116 [some (am_r (some 24)), some (am_r v1), some (am_i v2), some (am_i v3), some (am_i v4), none, none, none, none, none] [] (am_K0, σ)) (k2 : ¬ (v5 = (-1)) → am_X (am_FI G (d + 1) Q) mX9_shorten (0, 0) 39 [some (am_r (some 24)), some (am_r v1), some (am_i v2), some (am_i v3), some (am_i v4), some (am_i v5), some (am_i v6), none, none, none] [] (am_K0, σ)) : am_X (am_FI G (d + 1) Q) mX9_shorten (0, 0) 33 [some (am_r (some 24)), some (am_r v1), some (am_i v2), some (am_i v3), some (am_i v4), some (am_i v5), some (am_i v6), none, none, none] [] (am_K0, σ) := by
  refine am_r_iload (nx := 35) rfl (show decode cX9_shorten 33 = .ok (.iload 5, 2) by decide +kernel) rfl ?_
  refine am_r_iconst (nx := 36) (show decode cX9_shorten 35 = .ok (.iconst (-1), 1) by decide +kernel) rfl ?_
  refine am_r_icmp_eq (tg := 116) (nx := 39) (show decode cX9_shorten 36 = .ok (.if_icmp .eq 80, 3) by decide +kernel) (by decide) rfl hr1 (by omega) ?_ ?_
  · exact fun q => am_x_fg [5, 6] (k1 q)
  · exact fun q => k2 q
theorem S_X9_shorten_39 {G : am_G} {d : Nat} {Q : Int → am_D → Prop} {σ : am_D} {v2 : Int} {v3 : Int} {v4 : Int} {v5 : Int} {v6 : Int} {v1 : Nat} (hc1 : am_isM v1) (hr2 : -2147483648 ≤ v6 ∧ v6 ≤ 2147483647) (hr3 : -2147483648 ≤ (σ.1 v1 0) ∧ (σ.1 v1 0) ≤ 2147483647) (k1 : (σ.1 v1 0) ≤ v6 → am_X (am_FI G (d + 1) Q) mX9_shorten (0, 0) 116 [some (am_r (some 24)), some (am_r (some v1)), some (am_i v2), some (am_i v3), some (am_i v4), none, none, none, none, none] [] (am_K0, σ)) (k2 : ¬ ((σ.1 v1 0) ≤ v6) → am_X (am_FI G (d + 1) Q) mX9_shorten (0, 0) 48 [some (am_r (some 24)), some (am_r (some v1)), some (am_i v2), some (am_i v3), some (am_i v4), some (am_i v5), some (am_i v6), none, none, none] [] (am_K0, σ)) : am_X (am_FI G (d + 1) Q) mX9_shorten (0, 0) 39 [some (am_r (some 24)), some (am_r (some v1)), some (am_i v2), some (am_i v3), some (am_i v4), some (am_i v5), some (am_i v6), none, none, none] [] (am_K0, σ) := by
  refine am_r_iload (nx := 41) rfl (show decode cX9_shorten 39 = .ok (.iload 6, 2) by decide +kernel) rfl ?_
  refine am_r_aload_n (nx := 42) rfl rfl (show decode cX9_shorten 41 = .ok (.aload_n 1, 1) by decide +kernel) rfl ?_
  refine am_r_getI (nx := 45) 0 cw2 (by decide) rfl (Or.inr ⟨_, fl_X9_29⟩) (obM hc1) (show decode cX9_shorten 42 = .ok (.getfield 29, 3) by decide +kernel) rfl ?_
  refine am_r_icmp_ge (tg := 116) (nx := 48) (show decode cX9_shorten 45 = .ok (.if_icmp .ge 71, 3) by decide +kernel) (by decide) rfl hr2 hr3 ?_ ?_
  · exact fun q => am_x_fg [5, 6] (k1 q)
  · exact fun q => k2 q
theorem S_X9_shorten_48 {G : am_G} {d : Nat} {Q : Int → am_D → Prop} {σ : am_D} {v2 : Int} {v3 : Int} {v4 : Int} {v5 : Int} {v6 : Int} {v1 : Nat} {Q' : Int → am_D → Prop} (hc : am_MI G d mX2_lays [am_r (some v1), am_i v4, am_i v3] σ Q') (hc1 : am_isM v1) (k : ∀ (x : Int) (σ' : am_D), Q' x σ' → am_X (am_FI G (d + 1) Q) mX9_shorten (0, 0) 56 [some (am_r (some 24)), some (am_r (some v1)), some (am_i v2), some (am_i v3), some (am_i v4), some (am_i v5), some (am_i v6), none, none, none] [am_i x, am_r (some v1)] (am_K0, σ')) : am_X (am_FI G (d + 1) Q) mX9_shorten (0, 0) 48 [some (am_r (some 24)), some (am_r (some v1)), some (am_i v2), some (am_i v3), some (am_i v4), some (am_i v5), some (am_i v6), none, none, none] [] (am_K0, σ) := by
  refine am_r_aload_n (nx := 49) rfl rfl (show decode cX9_shorten 48 = .ok (.aload_n 1, 1) by decide +kernel) rfl ?_
  refine am_r_aload_n (nx := 50) rfl rfl (show decode cX9_shorten 49 = .ok (.aload_n 1, 1) by decide +kernel) rfl ?_
  refine am_r_iload (nx := 52) rfl (show decode cX9_shorten 50 = .ok (.iload 4, 2) by decide +kernel) rfl ?_
  refine am_r_iload_n (nx := 53) rfl rfl (show decode cX9_shorten 52 = .ok (.iload_n 3, 1) by decide +kernel) rfl ?_
  refine am_r_callV (as := [am_i v4, am_i v3]) (st := [am_r (some v1)]) hc mb_X2_lays mv_X2_lays (Or.inl ml_X9_66) (obM hc1) (by omega) (r := (RX2, TX2, 16)) rfl rfl rfl rfl (Nat.le_of_ble_eq_true rfl) ⟨Nat.le_refl _, Nat.le_refl _⟩ ⟨Nat.le_refl _, Nat.le_refl _⟩ (show decode cX9_shorten 53 = .ok (.invokevirtual 66, 3) by decide +kernel) ?_
  rintro _ _ ⟨x, σ', rfl, rfl, hq⟩ _
  exact (k x σ' hq)
theorem S_X9_shorten_56 {G : am_G} {d : Nat} {Q : Int → am_D → Prop} {σ : am_D} {v2 : Int} {v3 : Int} {v4 : Int} {v5 : Int} {v6 : Int} {s1 : Int} {s0 : Nat} {Q' : Int → am_D → Prop} {v1 : Option Nat} (hc : am_MI G d mX2_closesTo [am_r (some s0), am_i s1, am_i v6] σ Q') (hc1 : am_isM s0) (k : ∀ (x : Int) (σ' : am_D), Q' x σ' → am_X (am_FI G (d + 1) Q) mX9_shorten (0, 0) 63 [some (am_r (some 24)), some (am_r v1), some (am_i v2), some (am_i v3), some (am_i v4), some (am_i v5), some (am_i v6), some (am_i x), none, none] [] (am_K0, σ')) : am_X (am_FI G (d + 1) Q) mX9_shorten (0, 0) 56 [some (am_r (some 24)), some (am_r v1), some (am_i v2), some (am_i v3), some (am_i v4), some (am_i v5), some (am_i v6), none, none, none] [am_i s1, am_r (some s0)] (am_K0, σ) := by
  refine am_r_iload (nx := 58) rfl (show decode cX9_shorten 56 = .ok (.iload 6, 2) by decide +kernel) rfl ?_
  refine am_r_callV (as := [am_i s1, am_i v6]) (st := []) hc mb_X2_closesTo mv_X2_closesTo (Or.inl ml_X9_69) (obM hc1) (by omega) (r := (RX2, TX2, 16)) rfl rfl rfl rfl (Nat.le_of_ble_eq_true rfl) ⟨Nat.le_refl _, Nat.le_refl _⟩ ⟨Nat.le_refl _, Nat.le_refl _⟩ (show decode cX9_shorten 58 = .ok (.invokevirtual 69, 3) by decide +kernel) ?_
  rintro _ _ ⟨x, σ', rfl, rfl, hq⟩ _
  refine am_r_istore (nx := 63) (by decide) rfl (show decode cX9_shorten 61 = .ok (.istore 7, 2) by decide +kernel) rfl ?_
  exact (k x σ' hq)
theorem S_X9_shorten_63 {G : am_G} {d : Nat} {Q : Int → am_D → Prop} {σ : am_D} {v2 : Int} {v3 : Int} {v4 : Int} {v5 : Int} {v6 : Int} {v7 : Int} {Q' : Int → am_D → Prop} {v1 : Option Nat} (hc : am_MI G d mX9_pair [am_i v5, am_i v6] σ Q') (k : ∀ (x : Int) (σ' : am_D), Q' x σ' → am_X (am_FI G (d + 1) Q) mX9_shorten (0, 0) 74 [some (am_r (some 24)), some (am_r v1), some (am_i v2), some (am_i v3), some (am_i v4), some (am_i v5), some (am_i v6), some (am_i v7), none, none] [am_i x, am_r (some 25)] (am_K0, σ')) : am_X (am_FI G (d + 1) Q) mX9_shorten (0, 0) 63 [some (am_r (some 24)), some (am_r v1), some (am_i v2), some (am_i v3), some (am_i v4), some (am_i v5), some (am_i v6), some (am_i v7), none, none] [] (am_K0, σ) := by
  refine am_r_aload_n (nx := 64) rfl rfl (show decode cX9_shorten 63 = .ok (.aload_n 0, 1) by decide +kernel) rfl ?_
  refine am_r_getF (nx := 67) 0 cw9 (by decide) rfl (Or.inl fl_X9_11) (ob_24) (fn_24_0) (show decode cX9_shorten 64 = .ok (.getfield 11, 3) by decide +kernel) rfl ?_
  refine am_r_iload (nx := 69) rfl (show decode cX9_shorten 67 = .ok (.iload 5, 2) by decide +kernel) rfl ?_
  refine am_r_iload (nx := 71) rfl (show decode cX9_shorten 69 = .ok (.iload 6, 2) by decide +kernel) rfl ?_
  refine am_r_callS (as := [am_i v5, am_i v6]) (st := [am_r (some 25)]) hc mb_X9_pair mv_X9_pair (Or.inl ml_X9_35) rfl rfl (Nat.le_of_ble_eq_true rfl) ⟨Nat.le_refl _, Nat.le_refl _⟩ ⟨Nat.le_refl _, Nat.le_refl _⟩ (show decode cX9_shorten 71 = .ok (.invokestatic 35, 3) by decide +kernel) ?_
  rintro _ _ ⟨x, σ', rfl, rfl, hq⟩ _
  exact (k x σ' hq)
theorem S_X9_shorten_74 {G : am_G} {d : Nat} {Q : Int → am_D → Prop} {σ : am_D} {v2 : Int} {v3 : Int} {v4 : Int} {v5 : Int} {v6 : Int} {v7 : Int} {s1 : Int} {s0 : Option Nat} {Q' : Int64 → am_D → Prop} {v1 : Option Nat} (hc : am_MJ G d mX9_at [am_r s0, am_i s1] σ Q') (k : ∀ (x : Int64) (σ' : am_D), Q' x σ' → am_X (am_FI G (d + 1) Q) mX9_shorten (0, 0) 79 [some (am_r (some 24)), some (am_r v1), some (am_i v2), some (am_i v3), some (am_i v4), some (am_i v5), some (am_i v6), some (am_i v7), some (am_l x), none] [] (am_K0, σ')) : am_X (am_FI G (d + 1) Q) mX9_shorten (0, 0) 74 [some (am_r (some 24)), some (am_r v1), some (am_i v2), some (am_i v3), some (am_i v4), some (am_i v5), some (am_i v6), some (am_i v7), none, none] [am_i s1, am_r s0] (am_K0, σ) := by
  refine am_r_callS (as := [am_r s0, am_i s1]) (st := []) hc mb_X9_at mv_X9_at (Or.inl ml_X9_39) rfl rfl (Nat.le_of_ble_eq_true rfl) ⟨Nat.le_refl _, Nat.le_refl _⟩ ⟨Nat.le_refl _, Nat.le_refl _⟩ (show decode cX9_shorten 74 = .ok (.invokestatic 39, 3) by decide +kernel) ?_
  rintro _ _ ⟨x, σ', rfl, rfl, hq⟩ _
  refine am_r_lstore (nx := 79) (by decide) rfl (show decode cX9_shorten 77 = .ok (.lstore 8, 2) by decide +kernel) rfl ?_
  exact (k x σ' hq)
theorem S_X9_shorten_79 {G : am_G} {d : Nat} {Q : Int → am_D → Prop} {σ : am_D} {v2 : Int} {v3 : Int} {v4 : Int} {v5 : Int} {v6 : Int} {v7 : Int} {v8 : Int64} {v1 : Option Nat} (hr1 : -2147483648 ≤ v7 ∧ v7 ≤ 2147483647) (k1 : v7 = (-1) → am_X (am_FI G (d + 1) Q) mX9_shorten (0, 0) 110 [some (am_r (some 24)), some (am_r v1), some (am_i v2), some (am_i v3), some (am_i v4), some (am_i v5), some (am_i v6), none, none, none] [] (am_K0, σ)) (k2 : ¬ (v7 = (-1)) → am_X (am_FI G (d + 1) Q) mX9_shorten (0, 0) 85 [some (am_r (some 24)), some (am_r v1), some (am_i v2), some (am_i v3), some (am_i v4), some (am_i v5), some (am_i v6), some (am_i v7), some (am_l v8), none] [] (am_K0, σ)) : am_X (am_FI G (d + 1) Q) mX9_shorten (0, 0) 79 [some (am_r (some 24)), some (am_r v1), some (am_i v2), some (am_i v3), some (am_i v4), some (am_i v5), some (am_i v6), some (am_i v7), some (am_l v8), none] [] (am_K0, σ) := by
  refine am_r_iload (nx := 81) rfl (show decode cX9_shorten 79 = .ok (.iload 7, 2) by decide +kernel) rfl ?_
  refine am_r_iconst (nx := 82) (show decode cX9_shorten 81 = .ok (.iconst (-1), 1) by decide +kernel) rfl ?_
  refine am_r_icmp_eq (tg := 110) (nx := 85) (show decode cX9_shorten 82 = .ok (.if_icmp .eq 28, 3) by decide +kernel) (by decide) rfl hr1 (by omega) ?_ ?_
  · exact fun q => am_x_fg [7, 8] (k1 q)
  · exact fun q => k2 q
theorem S_X9_shorten_85 {G : am_G} {d : Nat} {Q : Int → am_D → Prop} {σ : am_D} {v2 : Int} {v3 : Int} {v4 : Int} {v5 : Int} {v6 : Int} {v7 : Int} {v8 : Int64} {v1 : Option Nat}  (k1 : 0 ≤ (am_lcmp v8 1099511627776) → am_X (am_FI G (d + 1) Q) mX9_shorten (0, 0) 110 [some (am_r (some 24)), some (am_r v1), some (am_i v2), some (am_i v3), some (am_i v4), some (am_i v5), some (am_i v6), none, none, none] [] (am_K0, σ)) (k2 : ¬ (0 ≤ (am_lcmp v8 1099511627776)) → am_X (am_FI G (d + 1) Q) mX9_shorten (0, 0) 94 [some (am_r (some 24)), some (am_r v1), some (am_i v2), some (am_i v3), some (am_i v4), some (am_i v5), some (am_i v6), some (am_i v7), some (am_l v8), none] [] (am_K0, σ)) : am_X (am_FI G (d + 1) Q) mX9_shorten (0, 0) 85 [some (am_r (some 24)), some (am_r v1), some (am_i v2), some (am_i v3), some (am_i v4), some (am_i v5), some (am_i v6), some (am_i v7), some (am_l v8), none] [] (am_K0, σ) := by
  refine am_r_lload (nx := 87) rfl (show decode cX9_shorten 85 = .ok (.lload 8, 2) by decide +kernel) rfl ?_
  refine am_r_ldc2 (nx := 90) (n := 1099511627776) (am_mt 792 (by decide +kernel) rfl) (show decode cX9_shorten 87 = .ok (.ldc2_w 43, 3) by decide +kernel) rfl ?_
  refine am_r_lcmp (nx := 91) (show decode cX9_shorten 90 = .ok (.lcmp, 1) by decide +kernel) rfl ?_
  refine am_r_if_ge (tg := 110) (nx := 94) (show decode cX9_shorten 91 = .ok (.ifCond .ge 19, 3) by decide +kernel) (by decide) rfl (am_lcmp_rg _ _) ?_ ?_
  · exact fun q => am_x_fg [7, 8] (k1 q)
  · exact fun q => k2 q
theorem S_X9_shorten_94 {G : am_G} {d : Nat} {Q : Int → am_D → Prop} {σ : am_D} {v2 : Int} {v3 : Int} {v4 : Int} {v5 : Int} {v6 : Int} {v7 : Int} {v8 : Int64} {Q' : Int → am_D → Prop} {v1 : Option Nat} (hc : am_MI G d mX9_shortenBy [am_r (some 24), am_i v3, am_i v7, am_l (v8 + 1)] σ Q') (k : ∀ (x : Int) (σ' : am_D), Q' x σ' → am_X (am_FI G (d + 1) Q) mX9_shorten (0, 0) 105 [some (am_r (some 24)), some (am_r v1), some (am_i v2), some (am_i v3), some (am_i v4), some (am_i v5), some (am_i v6), none, none, none] [am_i x] (am_K0, σ')) : am_X (am_FI G (d + 1) Q) mX9_shorten (0, 0) 94 [some (am_r (some 24)), some (am_r v1), some (am_i v2), some (am_i v3), some (am_i v4), some (am_i v5), some (am_i v6), some (am_i v7), some (am_l v8), none] [] (am_K0, σ) := by
  refine am_r_aload_n (nx := 95) rfl rfl (show decode cX9_shorten 94 = .ok (.aload_n 0, 1) by decide +kernel) rfl ?_
  refine am_r_iload_n (nx := 96) rfl rfl (show decode cX9_shorten 95 = .ok (.iload_n 3, 1) by decide +kernel) rfl ?_
  refine am_r_iload (nx := 98) rfl (show decode cX9_shorten 96 = .ok (.iload 7, 2) by decide +kernel) rfl ?_
  refine am_r_lload (nx := 100) rfl (show decode cX9_shorten 98 = .ok (.lload 8, 2) by decide +kernel) rfl ?_
  refine am_r_lconst (nx := 101) (v := 1) rfl (show decode cX9_shorten 100 = .ok (.lconst 1, 1) by decide +kernel) rfl ?_
  refine am_r_ladd (nx := 102) (show decode cX9_shorten 101 = .ok (.ladd, 1) by decide +kernel) rfl ?_
  refine am_r_callV (as := [am_i v3, am_i v7, am_l (v8 + 1)]) (st := []) hc mb_X9_shortenBy mv_X9_shortenBy (Or.inl ml_X9_72) (ob_24) (by omega) (r := (RX9, TX9, 3)) rfl rfl rfl rfl (Nat.le_of_ble_eq_true rfl) ⟨Nat.le_refl _, Nat.le_refl _⟩ ⟨Nat.le_refl _, Nat.le_refl _⟩ (show decode cX9_shorten 102 = .ok (.invokevirtual 72, 3) by decide +kernel) ?_
  rintro _ _ ⟨x, σ', rfl, rfl, hq⟩ _
  exact am_x_fg [7, 8] (k x σ' hq)
theorem S_X9_shorten_105 {G : am_G} {d : Nat} {Q : Int → am_D → Prop} {σ : am_D} {v2 : Int} {v3 : Int} {v4 : Int} {v5 : Int} {v6 : Int} {s0 : Int} {v1 : Option Nat} (hr1 : -2147483648 ≤ s0 ∧ s0 ≤ 2147483647) (k1 : s0 = 0 → am_X (am_FI G (d + 1) Q) mX9_shorten (0, 0) 110 [some (am_r (some 24)), some (am_r v1), some (am_i v2), some (am_i v3), some (am_i v4), some (am_i v5), some (am_i v6), none, none, none] [] (am_K0, σ)) (k2 : ¬ (s0 = 0) → am_X (am_FI G (d + 1) Q) mX9_shorten (0, 0) 108 [some (am_r (some 24)), some (am_r v1), none, some (am_i v3), some (am_i v4), some (am_i v5), some (am_i v6), none, none, none] [] (am_K0, σ)) : am_X (am_FI G (d + 1) Q) mX9_shorten (0, 0) 105 [some (am_r (some 24)), some (am_r v1), some (am_i v2), some (am_i v3), some (am_i v4), some (am_i v5), some (am_i v6), none, none, none] [am_i s0] (am_K0, σ) := by
  refine am_r_if_eq (tg := 110) (nx := 108) (show decode cX9_shorten 105 = .ok (.ifCond .eq 5, 3) by decide +kernel) (by decide) rfl hr1 ?_ ?_
  · exact fun q => k1 q
  · exact fun q => am_x_fg [2] (k2 q)
theorem S_X9_shorten_108 {G : am_G} {d : Nat} {Q : Int → am_D → Prop} {σ : am_D} {v3 : Int} {v4 : Int} {v5 : Int} {v6 : Int} {v1 : Option Nat}  (k : am_X (am_FI G (d + 1) Q) mX9_shorten (0, 0) 110 [some (am_r (some 24)), some (am_r v1), some (am_i 1), some (am_i v3), some (am_i v4), some (am_i v5), some (am_i v6), none, none, none] [] (am_K0, σ)) : am_X (am_FI G (d + 1) Q) mX9_shorten (0, 0) 108 [some (am_r (some 24)), some (am_r v1), none, some (am_i v3), some (am_i v4), some (am_i v5), some (am_i v6), none, none, none] [] (am_K0, σ) := by
  refine am_r_iconst (nx := 109) (show decode cX9_shorten 108 = .ok (.iconst 1, 1) by decide +kernel) rfl ?_
  refine am_r_istore_n (nx := 110) rfl (by decide) rfl (show decode cX9_shorten 109 = .ok (.istore_n 2, 1) by decide +kernel) rfl ?_
  exact k
theorem S_X9_shorten_110 {G : am_G} {d : Nat} {Q : Int → am_D → Prop} {σ : am_D} {v2 : Int} {v3 : Int} {v4 : Int} {v5 : Int} {v6 : Int} {v1 : Option Nat}  (k : am_X (am_FI G (d + 1) Q) mX9_shorten (0, 0) 33 [some (am_r (some 24)), some (am_r v1), some (am_i v2), some (am_i v3), some (am_i v4), some (am_i v5), some (am_i (v6 + 1)), none, none, none] [] (am_K0, σ)) : am_X (am_FI G (d + 1) Q) mX9_shorten (0, 0) 110 [some (am_r (some 24)), some (am_r v1), some (am_i v2), some (am_i v3), some (am_i v4), some (am_i v5), some (am_i v6), none, none, none] [] (am_K0, σ) := by
  refine am_r_iinc (nx := 113) rfl rfl (show decode cX9_shorten 110 = .ok (.iinc 6 1, 3) by decide +kernel) rfl ?_
  refine am_r_goto (tg := 33) (show decode cX9_shorten 113 = .ok (.goto (-80), 3) by decide +kernel) (by decide) ?_
  exact k
theorem S_X9_shorten_116 {G : am_G} {d : Nat} {Q : Int → am_D → Prop} {σ : am_D} {v2 : Int} {v3 : Int} {v4 : Int} {v1 : Option Nat}  (k : am_X (am_FI G (d + 1) Q) mX9_shorten (0, 0) 15 [some (am_r (some 24)), some (am_r v1), some (am_i v2), some (am_i v3), some (am_i (v4 + 1)), none, none, none, none, none] [] (am_K0, σ)) : am_X (am_FI G (d + 1) Q) mX9_shorten (0, 0) 116 [some (am_r (some 24)), some (am_r v1), some (am_i v2), some (am_i v3), some (am_i v4), none, none, none, none, none] [] (am_K0, σ) := by
  refine am_r_iinc (nx := 119) rfl rfl (show decode cX9_shorten 116 = .ok (.iinc 4 1, 3) by decide +kernel) rfl ?_
  refine am_r_goto (tg := 15) (show decode cX9_shorten 119 = .ok (.goto (-104), 3) by decide +kernel) (by decide) ?_
  exact k
theorem S_X9_shorten_122 {G : am_G} {d : Nat} {Q : Int → am_D → Prop} {σ : am_D} {v2 : Int} {v3 : Int} {v1 : Option Nat}  (k : am_X (am_FI G (d + 1) Q) mX9_shorten (0, 0) 4 [some (am_r (some 24)), some (am_r v1), some (am_i v2), some (am_i (v3 + 1)), none, none, none, none, none, none] [] (am_K0, σ)) : am_X (am_FI G (d + 1) Q) mX9_shorten (0, 0) 122 [some (am_r (some 24)), some (am_r v1), some (am_i v2), some (am_i v3), none, none, none, none, none, none] [] (am_K0, σ) := by
  refine am_r_iinc (nx := 125) rfl rfl (show decode cX9_shorten 122 = .ok (.iinc 3 1, 3) by decide +kernel) rfl ?_
  refine am_r_goto (tg := 4) (show decode cX9_shorten 125 = .ok (.goto (-121), 3) by decide +kernel) (by decide) ?_
  exact k
theorem S_X9_shorten_128 {G : am_G} {d : Nat} {Q : Int → am_D → Prop} {σ : am_D} {v2 : Int} (hz : v2 = 0 ∨ v2 = 1) (k : Q v2 σ) : am_X (am_FI G (d + 1) Q) mX9_shorten (0, 0) 128 [none, none, some (am_i v2), none, none, none, none, none, none, none] [] (am_K0, σ) := by
  refine am_r_iload_n (nx := 129) rfl rfl (show decode cX9_shorten 128 = .ok (.iload_n 2, 1) by decide +kernel) rfl ?_
  exact am_r_iret rfl (by rcases hz with hz | hz <;> rw [hz] <;> rfl) (show decode cX9_shorten 129 = .ok (.ireturn, 1) by decide +kernel) ⟨_, _, rfl, rfl, k⟩
theorem S_X9_shortenBy_0 {G : am_G} {d : Nat} {Q : Int → am_D → Prop} {σ : am_D} {v1 : Int} {v2 : Int} {v3 : Int64}  (k : am_X (am_FI G (d + 1) Q) mX9_shortenBy (0, 0) 3 [some (am_r (some 24)), some (am_i v1), some (am_i v2), some (am_l v3), none, some (am_i 0), none, none, none] [] (am_K0, σ)) : am_X (am_FI G (d + 1) Q) mX9_shortenBy (0, 0) 0 [some (am_r (some 24)), some (am_i v1), some (am_i v2), some (am_l v3), none, none, none, none, none] [] (am_K0, σ) := by
  refine am_r_iconst (nx := 1) (show decode cX9_shortenBy 0 = .ok (.iconst 0, 1) by decide +kernel) rfl ?_
  refine am_r_istore (nx := 3) (by decide) rfl (show decode cX9_shortenBy 1 = .ok (.istore 5, 2) by decide +kernel) rfl ?_
  exact k
theorem S_X9_shortenBy_3 {G : am_G} {d : Nat} {Q : Int → am_D → Prop} {σ : am_D} {v1 : Int} {v2 : Int} {v3 : Int64} {v5 : Int}  (k : am_X (am_FI G (d + 1) Q) mX9_shortenBy (0, 0) 6 [some (am_r (some 24)), some (am_i v1), some (am_i v2), some (am_l v3), none, some (am_i v5), some (am_i 0), none, none] [] (am_K0, σ)) : am_X (am_FI G (d + 1) Q) mX9_shortenBy (0, 0) 3 [some (am_r (some 24)), some (am_i v1), some (am_i v2), some (am_l v3), none, some (am_i v5), none, none, none] [] (am_K0, σ) := by
  refine am_r_iconst (nx := 4) (show decode cX9_shortenBy 3 = .ok (.iconst 0, 1) by decide +kernel) rfl ?_
  refine am_r_istore (nx := 6) (by decide) rfl (show decode cX9_shortenBy 4 = .ok (.istore 6, 2) by decide +kernel) rfl ?_
  exact k
theorem S_X9_shortenBy_6 {G : am_G} {d : Nat} {Q : Int → am_D → Prop} {σ : am_D} {v1 : Int} {v2 : Int} {v3 : Int64} {v5 : Int} {v6 : Int} (hr1 : -2147483648 ≤ v6 ∧ v6 ≤ 2147483647) (k1 : 6 ≤ v6 → am_X (am_FI G (d + 1) Q) mX9_shortenBy (0, 0) 73 [none, none, none, none, none, some (am_i v5), none, none, none] [] (am_K0, σ)) (k2 : ¬ (6 ≤ v6) → am_X (am_FI G (d + 1) Q) mX9_shortenBy (0, 0) 13 [some (am_r (some 24)), some (am_i v1), some (am_i v2), some (am_l v3), none, some (am_i v5), some (am_i v6), none, none] [] (am_K0, σ)) : am_X (am_FI G (d + 1) Q) mX9_shortenBy (0, 0) 6 [some (am_r (some 24)), some (am_i v1), some (am_i v2), some (am_l v3), none, some (am_i v5), some (am_i v6), none, none] [] (am_K0, σ) := by
  refine am_r_iload (nx := 8) rfl (show decode cX9_shortenBy 6 = .ok (.iload 6, 2) by decide +kernel) rfl ?_
  refine am_r_bipush (nx := 10) rfl (show decode cX9_shortenBy 8 = .ok (.bipush 6, 2) by decide +kernel) rfl ?_
  refine am_r_icmp_ge (tg := 73) (nx := 13) (show decode cX9_shortenBy 10 = .ok (.if_icmp .ge 63, 3) by decide +kernel) (by decide) rfl hr1 (by omega) ?_ ?_
  · exact fun q => am_x_fg [0, 1, 2, 3, 6] (k1 q)
  · exact fun q => k2 q
theorem S_X9_shortenBy_13 {G : am_G} {d : Nat} {Q : Int → am_D → Prop} {σ : am_D} {v1 : Int} {v2 : Int} {v3 : Int64} {v5 : Int} {v6 : Int} {Q' : Int → am_D → Prop} (hc : am_MI G d mX9_pair [am_i v2, am_i v6] σ Q') (k : ∀ (x : Int) (σ' : am_D), Q' x σ' → am_X (am_FI G (d + 1) Q) mX9_shortenBy (0, 0) 24 [some (am_r (some 24)), some (am_i v1), some (am_i v2), some (am_l v3), none, some (am_i v5), some (am_i v6), none, none] [am_i x, am_r (some 25), am_l v3] (am_K0, σ')) : am_X (am_FI G (d + 1) Q) mX9_shortenBy (0, 0) 13 [some (am_r (some 24)), some (am_i v1), some (am_i v2), some (am_l v3), none, some (am_i v5), some (am_i v6), none, none] [] (am_K0, σ) := by
  refine am_r_lload_n (nx := 14) rfl rfl (show decode cX9_shortenBy 13 = .ok (.lload_n 3, 1) by decide +kernel) rfl ?_
  refine am_r_aload_n (nx := 15) rfl rfl (show decode cX9_shortenBy 14 = .ok (.aload_n 0, 1) by decide +kernel) rfl ?_
  refine am_r_getF (nx := 18) 0 cw9 (by decide) rfl (Or.inl fl_X9_11) (ob_24) (fn_24_0) (show decode cX9_shortenBy 15 = .ok (.getfield 11, 3) by decide +kernel) rfl ?_
  refine am_r_iload_n (nx := 19) rfl rfl (show decode cX9_shortenBy 18 = .ok (.iload_n 2, 1) by decide +kernel) rfl ?_
  refine am_r_iload (nx := 21) rfl (show decode cX9_shortenBy 19 = .ok (.iload 6, 2) by decide +kernel) rfl ?_
  refine am_r_callS (as := [am_i v2, am_i v6]) (st := [am_r (some 25), am_l v3]) hc mb_X9_pair mv_X9_pair (Or.inl ml_X9_35) rfl rfl (Nat.le_of_ble_eq_true rfl) ⟨Nat.le_refl _, Nat.le_refl _⟩ ⟨Nat.le_refl _, Nat.le_refl _⟩ (show decode cX9_shortenBy 21 = .ok (.invokestatic 35, 3) by decide +kernel) ?_
  rintro _ _ ⟨x, σ', rfl, rfl, hq⟩ _
  exact (k x σ' hq)
theorem S_X9_shortenBy_24 {G : am_G} {d : Nat} {Q : Int → am_D → Prop} {σ : am_D} {v1 : Int} {v2 : Int} {v3 : Int64} {v5 : Int} {v6 : Int} {s0 : Int64} {s2 : Int} {s1 : Option Nat} {Q' : Int64 → am_D → Prop} (hc : am_MJ G d mX9_at [am_r s1, am_i s2] σ Q') (k : ∀ (x : Int64) (σ' : am_D), Q' x σ' → am_X (am_FI G (d + 1) Q) mX9_shortenBy (0, 0) 27 [some (am_r (some 24)), some (am_i v1), some (am_i v2), some (am_l v3), none, some (am_i v5), some (am_i v6), none, none] [am_l x, am_l s0] (am_K0, σ')) : am_X (am_FI G (d + 1) Q) mX9_shortenBy (0, 0) 24 [some (am_r (some 24)), some (am_i v1), some (am_i v2), some (am_l v3), none, some (am_i v5), some (am_i v6), none, none] [am_i s2, am_r s1, am_l s0] (am_K0, σ) := by
  refine am_r_callS (as := [am_r s1, am_i s2]) (st := [am_l s0]) hc mb_X9_at mv_X9_at (Or.inl ml_X9_39) rfl rfl (Nat.le_of_ble_eq_true rfl) ⟨Nat.le_refl _, Nat.le_refl _⟩ ⟨Nat.le_refl _, Nat.le_refl _⟩ (show decode cX9_shortenBy 24 = .ok (.invokestatic 39, 3) by decide +kernel) ?_
  rintro _ _ ⟨x, σ', rfl, rfl, hq⟩ _
  exact (k x σ' hq)
theorem S_X9_shortenBy_27 {G : am_G} {d : Nat} {Q : Int → am_D → Prop} {σ : am_D} {v1 : Int} {v2 : Int} {v3 : Int64} {v5 : Int} {v6 : Int} {s0 : Int64} {s1 : Int64}  (k : am_X (am_FI G (d + 1) Q) mX9_shortenBy (0, 0) 30 [some (am_r (some 24)), some (am_i v1), some (am_i v2), some (am_l v3), none, some (am_i v5), some (am_i v6), some (am_l (s0 + s1)), none] [] (am_K0, σ)) : am_X (am_FI G (d + 1) Q) mX9_shortenBy (0, 0) 27 [some (am_r (some 24)), some (am_i v1), some (am_i v2), some (am_l v3), none, some (am_i v5), some (am_i v6), none, none] [am_l s1, am_l s0] (am_K0, σ) := by
  refine am_r_ladd (nx := 28) (show decode cX9_shortenBy 27 = .ok (.ladd, 1) by decide +kernel) rfl ?_
  refine am_r_lstore (nx := 30) (by decide) rfl (show decode cX9_shortenBy 28 = .ok (.lstore 7, 2) by decide +kernel) rfl ?_
  exact k
theorem S_X9_shortenBy_30 {G : am_G} {d : Nat} {Q : Int → am_D → Prop} {σ : am_D} {v1 : Int} {v2 : Int} {v3 : Int64} {v5 : Int} {v6 : Int} {v7 : Int64} {Q' : Int → am_D → Prop} (hc : am_MI G d mX9_pair [am_i v1, am_i v6] σ Q') (k : ∀ (x : Int) (σ' : am_D), Q' x σ' → am_X (am_FI G (d + 1) Q) mX9_shortenBy (0, 0) 42 [some (am_r (some 24)), some (am_i v1), some (am_i v2), some (am_l v3), none, some (am_i v5), some (am_i v6), some (am_l v7), none] [am_i x, am_r (some 25), am_l v7] (am_K0, σ')) : am_X (am_FI G (d + 1) Q) mX9_shortenBy (0, 0) 30 [some (am_r (some 24)), some (am_i v1), some (am_i v2), some (am_l v3), none, some (am_i v5), some (am_i v6), some (am_l v7), none] [] (am_K0, σ) := by
  refine am_r_lload (nx := 32) rfl (show decode cX9_shortenBy 30 = .ok (.lload 7, 2) by decide +kernel) rfl ?_
  refine am_r_aload_n (nx := 33) rfl rfl (show decode cX9_shortenBy 32 = .ok (.aload_n 0, 1) by decide +kernel) rfl ?_
  refine am_r_getF (nx := 36) 0 cw9 (by decide) rfl (Or.inl fl_X9_11) (ob_24) (fn_24_0) (show decode cX9_shortenBy 33 = .ok (.getfield 11, 3) by decide +kernel) rfl ?_
  refine am_r_iload_n (nx := 37) rfl rfl (show decode cX9_shortenBy 36 = .ok (.iload_n 1, 1) by decide +kernel) rfl ?_
  refine am_r_iload (nx := 39) rfl (show decode cX9_shortenBy 37 = .ok (.iload 6, 2) by decide +kernel) rfl ?_
  refine am_r_callS (as := [am_i v1, am_i v6]) (st := [am_r (some 25), am_l v7]) hc mb_X9_pair mv_X9_pair (Or.inl ml_X9_35) rfl rfl (Nat.le_of_ble_eq_true rfl) ⟨Nat.le_refl _, Nat.le_refl _⟩ ⟨Nat.le_refl _, Nat.le_refl _⟩ (show decode cX9_shortenBy 39 = .ok (.invokestatic 35, 3) by decide +kernel) ?_
  rintro _ _ ⟨x, σ', rfl, rfl, hq⟩ _
  exact (k x σ' hq)
theorem S_X9_shortenBy_42 {G : am_G} {d : Nat} {Q : Int → am_D → Prop} {σ : am_D} {v1 : Int} {v2 : Int} {v3 : Int64} {v5 : Int} {v6 : Int} {v7 : Int64} {s0 : Int64} {s2 : Int} {s1 : Option Nat} {Q' : Int64 → am_D → Prop} (hc : am_MJ G d mX9_at [am_r s1, am_i s2] σ Q') (k : ∀ (x : Int64) (σ' : am_D), Q' x σ' → am_X (am_FI G (d + 1) Q) mX9_shortenBy (0, 0) 45 [some (am_r (some 24)), some (am_i v1), some (am_i v2), some (am_l v3), none, some (am_i v5), some (am_i v6), some (am_l v7), none] [am_l x, am_l s0] (am_K0, σ')) : am_X (am_FI G (d + 1) Q) mX9_shortenBy (0, 0) 42 [some (am_r (some 24)), some (am_i v1), some (am_i v2), some (am_l v3), none, some (am_i v5), some (am_i v6), some (am_l v7), none] [am_i s2, am_r s1, am_l s0] (am_K0, σ) := by
  refine am_r_callS (as := [am_r s1, am_i s2]) (st := [am_l s0]) hc mb_X9_at mv_X9_at (Or.inl ml_X9_39) rfl rfl (Nat.le_of_ble_eq_true rfl) ⟨Nat.le_refl _, Nat.le_refl _⟩ ⟨Nat.le_refl _, Nat.le_refl _⟩ (show decode cX9_shortenBy 42 = .ok (.invokestatic 39, 3) by decide +kernel) ?_
  rintro _ _ ⟨x, σ', rfl, rfl, hq⟩ _
  exact (k x σ' hq)
theorem S_X9_shortenBy_45 {G : am_G} {d : Nat} {Q : Int → am_D → Prop} {σ : am_D} {v1 : Int} {v2 : Int} {v3 : Int64} {v5 : Int} {v6 : Int} {v7 : Int64} {s0 : Int64} {s1 : Int64}  (k1 : 0 ≤ (am_lcmp s0 s1) → am_X (am_FI G (d + 1) Q) mX9_shortenBy (0, 0) 67 [some (am_r (some 24)), some (am_i v1), some (am_i v2), some (am_l v3), none, some (am_i v5), some (am_i v6), none, none] [] (am_K0, σ)) (k2 : ¬ (0 ≤ (am_lcmp s0 s1)) → am_X (am_FI G (d + 1) Q) mX9_shortenBy (0, 0) 49 [some (am_r (some 24)), some (am_i v1), some (am_i v2), some (am_l v3), none, none, some (am_i v6), some (am_l v7), none] [] (am_K0, σ)) : am_X (am_FI G (d + 1) Q) mX9_shortenBy (0, 0) 45 [some (am_r (some 24)), some (am_i v1), some (am_i v2), some (am_l v3), none, some (am_i v5), some (am_i v6), some (am_l v7), none] [am_l s1, am_l s0] (am_K0, σ) := by
  refine am_r_lcmp (nx := 46) (show decode cX9_shortenBy 45 = .ok (.lcmp, 1) by decide +kernel) rfl ?_
  refine am_r_if_ge (tg := 67) (nx := 49) (show decode cX9_shortenBy 46 = .ok (.ifCond .ge 21, 3) by decide +kernel) (by decide) rfl (am_lcmp_rg _ _) ?_ ?_
  · exact fun q => am_x_fg [7] (k1 q)
  · exact fun q => am_x_fg [5] (k2 q)
theorem S_X9_shortenBy_49 {G : am_G} {d : Nat} {Q : Int → am_D → Prop} {σ : am_D} {v1 : Int} {v2 : Int} {v3 : Int64} {v6 : Int} {v7 : Int64} {Q' : Int → am_D → Prop} (hc : am_MI G d mX9_pair [am_i v1, am_i v6] σ Q') (k : ∀ (x : Int) (σ' : am_D), Q' x σ' → am_X (am_FI G (d + 1) Q) mX9_shortenBy (0, 0) 59 [some (am_r (some 24)), some (am_i v1), some (am_i v2), some (am_l v3), none, none, some (am_i v6), some (am_l v7), none] [am_i x, am_r (some 25)] (am_K0, σ')) : am_X (am_FI G (d + 1) Q) mX9_shortenBy (0, 0) 49 [some (am_r (some 24)), some (am_i v1), some (am_i v2), some (am_l v3), none, none, some (am_i v6), some (am_l v7), none] [] (am_K0, σ) := by
  refine am_r_aload_n (nx := 50) rfl rfl (show decode cX9_shortenBy 49 = .ok (.aload_n 0, 1) by decide +kernel) rfl ?_
  refine am_r_getF (nx := 53) 0 cw9 (by decide) rfl (Or.inl fl_X9_11) (ob_24) (fn_24_0) (show decode cX9_shortenBy 50 = .ok (.getfield 11, 3) by decide +kernel) rfl ?_
  refine am_r_iload_n (nx := 54) rfl rfl (show decode cX9_shortenBy 53 = .ok (.iload_n 1, 1) by decide +kernel) rfl ?_
  refine am_r_iload (nx := 56) rfl (show decode cX9_shortenBy 54 = .ok (.iload 6, 2) by decide +kernel) rfl ?_
  refine am_r_callS (as := [am_i v1, am_i v6]) (st := [am_r (some 25)]) hc mb_X9_pair mv_X9_pair (Or.inl ml_X9_35) rfl rfl (Nat.le_of_ble_eq_true rfl) ⟨Nat.le_refl _, Nat.le_refl _⟩ ⟨Nat.le_refl _, Nat.le_refl _⟩ (show decode cX9_shortenBy 56 = .ok (.invokestatic 35, 3) by decide +kernel) ?_
  rintro _ _ ⟨x, σ', rfl, rfl, hq⟩ _
  exact (k x σ' hq)
theorem S_X9_shortenBy_59 {G : am_G} {d : Nat} {Q : Int → am_D → Prop} {σ : am_D} {v1 : Int} {v2 : Int} {v3 : Int64} {v6 : Int} {v7 : Int64} {s1 : Int} {s0 : Option Nat} {Q' : am_D → Prop} (hc : am_MV G d mX9_put [am_r s0, am_i s1, am_l v7] σ Q') (k : ∀ σ' : am_D, Q' σ' → am_X (am_FI G (d + 1) Q) mX9_shortenBy (0, 0) 64 [some (am_r (some 24)), some (am_i v1), some (am_i v2), some (am_l v3), none, none, some (am_i v6), none, none] [] (am_K0, σ')) : am_X (am_FI G (d + 1) Q) mX9_shortenBy (0, 0) 59 [some (am_r (some 24)), some (am_i v1), some (am_i v2), some (am_l v3), none, none, some (am_i v6), some (am_l v7), none] [am_i s1, am_r s0] (am_K0, σ) := by
  refine am_r_lload (nx := 61) rfl (show decode cX9_shortenBy 59 = .ok (.lload 7, 2) by decide +kernel) rfl ?_
  refine am_r_callS (as := [am_r s0, am_i s1, am_l v7]) (st := []) hc mb_X9_put mv_X9_put (Or.inl ml_X9_58) rfl rfl (Nat.le_of_ble_eq_true rfl) ⟨Nat.le_refl _, Nat.le_refl _⟩ ⟨Nat.le_refl _, Nat.le_refl _⟩ (show decode cX9_shortenBy 61 = .ok (.invokestatic 58, 3) by decide +kernel) ?_
  rintro _ _ ⟨σ', rfl, rfl, hq⟩ _
  exact am_x_fg [7] (k σ' hq)
theorem S_X9_shortenBy_64 {G : am_G} {d : Nat} {Q : Int → am_D → Prop} {σ : am_D} {v1 : Int} {v2 : Int} {v3 : Int64} {v6 : Int}  (k : am_X (am_FI G (d + 1) Q) mX9_shortenBy (0, 0) 67 [some (am_r (some 24)), some (am_i v1), some (am_i v2), some (am_l v3), none, some (am_i 1), some (am_i v6), none, none] [] (am_K0, σ)) : am_X (am_FI G (d + 1) Q) mX9_shortenBy (0, 0) 64 [some (am_r (some 24)), some (am_i v1), some (am_i v2), some (am_l v3), none, none, some (am_i v6), none, none] [] (am_K0, σ) := by
  refine am_r_iconst (nx := 65) (show decode cX9_shortenBy 64 = .ok (.iconst 1, 1) by decide +kernel) rfl ?_
  refine am_r_istore (nx := 67) (by decide) rfl (show decode cX9_shortenBy 65 = .ok (.istore 5, 2) by decide +kernel) rfl ?_
  exact k
theorem S_X9_shortenBy_67 {G : am_G} {d : Nat} {Q : Int → am_D → Prop} {σ : am_D} {v1 : Int} {v2 : Int} {v3 : Int64} {v5 : Int} {v6 : Int}  (k : am_X (am_FI G (d + 1) Q) mX9_shortenBy (0, 0) 6 [some (am_r (some 24)), some (am_i v1), some (am_i v2), some (am_l v3), none, some (am_i v5), some (am_i (v6 + 1)), none, none] [] (am_K0, σ)) : am_X (am_FI G (d + 1) Q) mX9_shortenBy (0, 0) 67 [some (am_r (some 24)), some (am_i v1), some (am_i v2), some (am_l v3), none, some (am_i v5), some (am_i v6), none, none] [] (am_K0, σ) := by
  refine am_r_iinc (nx := 70) rfl rfl (show decode cX9_shortenBy 67 = .ok (.iinc 6 1, 3) by decide +kernel) rfl ?_
  refine am_r_goto (tg := 6) (show decode cX9_shortenBy 70 = .ok (.goto (-64), 3) by decide +kernel) (by decide) ?_
  exact k
theorem S_X9_shortenBy_73 {G : am_G} {d : Nat} {Q : Int → am_D → Prop} {σ : am_D} {v5 : Int} (hz : v5 = 0 ∨ v5 = 1) (k : Q v5 σ) : am_X (am_FI G (d + 1) Q) mX9_shortenBy (0, 0) 73 [none, none, none, none, none, some (am_i v5), none, none, none] [] (am_K0, σ) := by
  refine am_r_iload (nx := 75) rfl (show decode cX9_shortenBy 73 = .ok (.iload 5, 2) by decide +kernel) rfl ?_
  exact am_r_iret rfl (by rcases hz with hz | hz <;> rw [hz] <;> rfl) (show decode cX9_shortenBy 75 = .ok (.ireturn, 1) by decide +kernel) ⟨_, _, rfl, rfl, k⟩
theorem S_X9_readable_0 {G : am_G} {d : Nat} {Q : Int64 → am_D → Prop} {σ : am_D} {v2 : Int} {v1 : Option Nat}  (k : am_X (am_FJ G (d + 1) Q) mX9_readable (0, 0) 2 [some (am_r (some 24)), some (am_r v1), some (am_i v2), some (am_i 0), none, none] [] (am_K0, σ)) : am_X (am_FJ G (d + 1) Q) mX9_readable (0, 0) 0 [some (am_r (some 24)), some (am_r v1), some (am_i v2), none, none, none] [] (am_K0, σ) := by
  refine am_r_iconst (nx := 1) (show decode cX9_readable 0 = .ok (.iconst 0, 1) by decide +kernel) rfl ?_
  refine am_r_istore_n (nx := 2) rfl (by decide) rfl (show decode cX9_readable 1 = .ok (.istore_n 3, 1) by decide +kernel) rfl ?_
  exact k
theorem S_X9_readable_2 {G : am_G} {d : Nat} {Q : Int64 → am_D → Prop} {σ : am_D} {v2 : Int} {v3 : Int} {v1 : Option Nat} (hr1 : -2147483648 ≤ v3 ∧ v3 ≤ 2147483647) (k1 : 6 ≤ v3 → am_X (am_FJ G (d + 1) Q) mX9_readable (0, 0) 54 [some (am_r (some 24)), some (am_r v1), some (am_i v2), none, none, none] [] (am_K0, σ)) (k2 : ¬ (6 ≤ v3) → am_X (am_FJ G (d + 1) Q) mX9_readable (0, 0) 8 [some (am_r (some 24)), some (am_r v1), some (am_i v2), some (am_i v3), none, none] [] (am_K0, σ)) : am_X (am_FJ G (d + 1) Q) mX9_readable (0, 0) 2 [some (am_r (some 24)), some (am_r v1), some (am_i v2), some (am_i v3), none, none] [] (am_K0, σ) := by
  refine am_r_iload_n (nx := 3) rfl rfl (show decode cX9_readable 2 = .ok (.iload_n 3, 1) by decide +kernel) rfl ?_
  refine am_r_bipush (nx := 5) rfl (show decode cX9_readable 3 = .ok (.bipush 6, 2) by decide +kernel) rfl ?_
  refine am_r_icmp_ge (tg := 54) (nx := 8) (show decode cX9_readable 5 = .ok (.if_icmp .ge 49, 3) by decide +kernel) (by decide) rfl hr1 (by omega) ?_ ?_
  · exact fun q => am_x_fg [3] (k1 q)
  · exact fun q => k2 q
theorem S_X9_readable_8 {G : am_G} {d : Nat} {Q : Int64 → am_D → Prop} {σ : am_D} {v2 : Int} {v3 : Int} {v1 : Option Nat}  (k : am_X (am_FJ G (d + 1) Q) mX9_readable (0, 0) 11 [some (am_r (some 24)), some (am_r v1), some (am_i v2), some (am_i v3), some (am_i 0), none] [] (am_K0, σ)) : am_X (am_FJ G (d + 1) Q) mX9_readable (0, 0) 8 [some (am_r (some 24)), some (am_r v1), some (am_i v2), some (am_i v3), none, none] [] (am_K0, σ) := by
  refine am_r_iconst (nx := 9) (show decode cX9_readable 8 = .ok (.iconst 0, 1) by decide +kernel) rfl ?_
  refine am_r_istore (nx := 11) (by decide) rfl (show decode cX9_readable 9 = .ok (.istore 4, 2) by decide +kernel) rfl ?_
  exact k
theorem S_X9_readable_11 {G : am_G} {d : Nat} {Q : Int64 → am_D → Prop} {σ : am_D} {v2 : Int} {v3 : Int} {v4 : Int} {v1 : Option Nat} (hr1 : -2147483648 ≤ v4 ∧ v4 ≤ 2147483647) (k1 : 6 ≤ v4 → am_X (am_FJ G (d + 1) Q) mX9_readable (0, 0) 48 [some (am_r (some 24)), some (am_r v1), some (am_i v2), some (am_i v3), none, none] [] (am_K0, σ)) (k2 : ¬ (6 ≤ v4) → am_X (am_FJ G (d + 1) Q) mX9_readable (0, 0) 18 [some (am_r (some 24)), some (am_r v1), some (am_i v2), some (am_i v3), some (am_i v4), none] [] (am_K0, σ)) : am_X (am_FJ G (d + 1) Q) mX9_readable (0, 0) 11 [some (am_r (some 24)), some (am_r v1), some (am_i v2), some (am_i v3), some (am_i v4), none] [] (am_K0, σ) := by
  refine am_r_iload (nx := 13) rfl (show decode cX9_readable 11 = .ok (.iload 4, 2) by decide +kernel) rfl ?_
  refine am_r_bipush (nx := 15) rfl (show decode cX9_readable 13 = .ok (.bipush 6, 2) by decide +kernel) rfl ?_
  refine am_r_icmp_ge (tg := 48) (nx := 18) (show decode cX9_readable 15 = .ok (.if_icmp .ge 33, 3) by decide +kernel) (by decide) rfl hr1 (by omega) ?_ ?_
  · exact fun q => am_x_fg [4] (k1 q)
  · exact fun q => k2 q
theorem S_X9_readable_18 {G : am_G} {d : Nat} {Q : Int64 → am_D → Prop} {σ : am_D} {v2 : Int} {v3 : Int} {v4 : Int} {Q' : Int → am_D → Prop} {v1 : Option Nat} (hc : am_MI G d mX9_pair [am_i v3, am_i v4] σ Q') (k : ∀ (x : Int) (σ' : am_D), Q' x σ' → am_X (am_FJ G (d + 1) Q) mX9_readable (0, 0) 28 [some (am_r (some 24)), some (am_r v1), some (am_i v2), some (am_i v3), some (am_i v4), none] [am_i x, am_r (some 27)] (am_K0, σ')) : am_X (am_FJ G (d + 1) Q) mX9_readable (0, 0) 18 [some (am_r (some 24)), some (am_r v1), some (am_i v2), some (am_i v3), some (am_i v4), none] [] (am_K0, σ) := by
  refine am_r_aload_n (nx := 19) rfl rfl (show decode cX9_readable 18 = .ok (.aload_n 0, 1) by decide +kernel) rfl ?_
  refine am_r_getF (nx := 22) 2 cw9 (by decide) rfl (Or.inl fl_X9_18) (ob_24) (fn_24_2) (show decode cX9_readable 19 = .ok (.getfield 18, 3) by decide +kernel) rfl ?_
  refine am_r_iload_n (nx := 23) rfl rfl (show decode cX9_readable 22 = .ok (.iload_n 3, 1) by decide +kernel) rfl ?_
  refine am_r_iload (nx := 25) rfl (show decode cX9_readable 23 = .ok (.iload 4, 2) by decide +kernel) rfl ?_
  refine am_r_callS (as := [am_i v3, am_i v4]) (st := [am_r (some 27)]) hc mb_X9_pair mv_X9_pair (Or.inl ml_X9_35) rfl rfl (Nat.le_of_ble_eq_true rfl) ⟨Nat.le_refl _, Nat.le_refl _⟩ ⟨Nat.le_refl _, Nat.le_refl _⟩ (show decode cX9_readable 25 = .ok (.invokestatic 35, 3) by decide +kernel) ?_
  rintro _ _ ⟨x, σ', rfl, rfl, hq⟩ _
  exact (k x σ' hq)
theorem S_X9_readable_28 {G : am_G} {d : Nat} {Q : Int64 → am_D → Prop} {σ : am_D} {v2 : Int} {v3 : Int} {v4 : Int} {s1 : Int} {v1 : Option Nat} {s0 : Option Nat} (hr1 : -2147483648 ≤ v3 ∧ v3 ≤ 2147483647) (hr2 : -2147483648 ≤ v4 ∧ v4 ≤ 2147483647) (k1 : ¬ v3 = v4 → am_X (am_FJ G (d + 1) Q) mX9_readable (0, 0) 38 [some (am_r (some 24)), some (am_r v1), some (am_i v2), some (am_i v3), some (am_i v4), none] [am_i s1, am_r s0] (am_K0, σ)) (k2 : ¬ (¬ v3 = v4) → am_X (am_FJ G (d + 1) Q) mX9_readable (0, 0) 34 [some (am_r (some 24)), some (am_r v1), some (am_i v2), some (am_i v3), some (am_i v4), none] [am_i s1, am_r s0] (am_K0, σ)) : am_X (am_FJ G (d + 1) Q) mX9_readable (0, 0) 28 [some (am_r (some 24)), some (am_r v1), some (am_i v2), some (am_i v3), some (am_i v4), none] [am_i s1, am_r s0] (am_K0, σ) := by
  refine am_r_iload_n (nx := 29) rfl rfl (show decode cX9_readable 28 = .ok (.iload_n 3, 1) by decide +kernel) rfl ?_
  refine am_r_iload (nx := 31) rfl (show decode cX9_readable 29 = .ok (.iload 4, 2) by decide +kernel) rfl ?_
  refine am_r_icmp_ne (tg := 38) (nx := 34) (show decode cX9_readable 31 = .ok (.if_icmp .ne 7, 3) by decide +kernel) (by decide) rfl hr1 hr2 ?_ ?_
  · exact fun q => k1 q
  · exact fun q => k2 q
theorem S_X9_readable_34 {G : am_G} {d : Nat} {Q : Int64 → am_D → Prop} {σ : am_D} {v2 : Int} {v3 : Int} {v4 : Int} {s1 : Int} {v1 : Option Nat} {s0 : Option Nat}  (k : am_X (am_FJ G (d + 1) Q) mX9_readable (0, 0) 39 [some (am_r (some 24)), some (am_r v1), some (am_i v2), some (am_i v3), some (am_i v4), none] [am_l 1, am_i s1, am_r s0] (am_K0, σ)) : am_X (am_FJ G (d + 1) Q) mX9_readable (0, 0) 34 [some (am_r (some 24)), some (am_r v1), some (am_i v2), some (am_i v3), some (am_i v4), none] [am_i s1, am_r s0] (am_K0, σ) := by
  refine am_r_lconst (nx := 35) (v := 1) rfl (show decode cX9_readable 34 = .ok (.lconst 1, 1) by decide +kernel) rfl ?_
  refine am_r_goto (tg := 39) (show decode cX9_readable 35 = .ok (.goto 4, 3) by decide +kernel) (by decide) ?_
  exact k
theorem S_X9_readable_38 {G : am_G} {d : Nat} {Q : Int64 → am_D → Prop} {σ : am_D} {v2 : Int} {v3 : Int} {v4 : Int} {s1 : Int} {v1 : Option Nat} {s0 : Option Nat}  (k : am_X (am_FJ G (d + 1) Q) mX9_readable (0, 0) 39 [some (am_r (some 24)), some (am_r v1), some (am_i v2), some (am_i v3), some (am_i v4), none] [am_l 0, am_i s1, am_r s0] (am_K0, σ)) : am_X (am_FJ G (d + 1) Q) mX9_readable (0, 0) 38 [some (am_r (some 24)), some (am_r v1), some (am_i v2), some (am_i v3), some (am_i v4), none] [am_i s1, am_r s0] (am_K0, σ) := by
  refine am_r_lconst (nx := 39) (v := 0) rfl (show decode cX9_readable 38 = .ok (.lconst 0, 1) by decide +kernel) rfl ?_
  exact k
theorem S_X9_readable_39 {G : am_G} {d : Nat} {Q : Int64 → am_D → Prop} {σ : am_D} {v2 : Int} {v3 : Int} {v4 : Int} {s1 : Int} {s2 : Int64} {s0 : Option Nat} {Q' : am_D → Prop} {v1 : Option Nat} (hc : am_MV G d mX9_put [am_r s0, am_i s1, am_l s2] σ Q') (k : ∀ σ' : am_D, Q' σ' → am_X (am_FJ G (d + 1) Q) mX9_readable (0, 0) 42 [some (am_r (some 24)), some (am_r v1), some (am_i v2), some (am_i v3), some (am_i v4), none] [] (am_K0, σ')) : am_X (am_FJ G (d + 1) Q) mX9_readable (0, 0) 39 [some (am_r (some 24)), some (am_r v1), some (am_i v2), some (am_i v3), some (am_i v4), none] [am_l s2, am_i s1, am_r s0] (am_K0, σ) := by
  refine am_r_callS (as := [am_r s0, am_i s1, am_l s2]) (st := []) hc mb_X9_put mv_X9_put (Or.inl ml_X9_58) rfl rfl (Nat.le_of_ble_eq_true rfl) ⟨Nat.le_refl _, Nat.le_refl _⟩ ⟨Nat.le_refl _, Nat.le_refl _⟩ (show decode cX9_readable 39 = .ok (.invokestatic 58, 3) by decide +kernel) ?_
  rintro _ _ ⟨σ', rfl, rfl, hq⟩ _
  exact (k σ' hq)
theorem S_X9_readable_42 {G : am_G} {d : Nat} {Q : Int64 → am_D → Prop} {σ : am_D} {v2 : Int} {v3 : Int} {v4 : Int} {v1 : Option Nat}  (k : am_X (am_FJ G (d + 1) Q) mX9_readable (0, 0) 11 [some (am_r (some 24)), some (am_r v1), some (am_i v2), some (am_i v3), some (am_i (v4 + 1)), none] [] (am_K0, σ)) : am_X (am_FJ G (d + 1) Q) mX9_readable (0, 0) 42 [some (am_r (some 24)), some (am_r v1), some (am_i v2), some (am_i v3), some (am_i v4), none] [] (am_K0, σ) := by
  refine am_r_iinc (nx := 45) rfl rfl (show decode cX9_readable 42 = .ok (.iinc 4 1, 3) by decide +kernel) rfl ?_
  refine am_r_goto (tg := 11) (show decode cX9_readable 45 = .ok (.goto (-34), 3) by decide +kernel) (by decide) ?_
  exact k
theorem S_X9_readable_48 {G : am_G} {d : Nat} {Q : Int64 → am_D → Prop} {σ : am_D} {v2 : Int} {v3 : Int} {v1 : Option Nat}  (k : am_X (am_FJ G (d + 1) Q) mX9_readable (0, 0) 2 [some (am_r (some 24)), some (am_r v1), some (am_i v2), some (am_i (v3 + 1)), none, none] [] (am_K0, σ)) : am_X (am_FJ G (d + 1) Q) mX9_readable (0, 0) 48 [some (am_r (some 24)), some (am_r v1), some (am_i v2), some (am_i v3), none, none] [] (am_K0, σ) := by
  refine am_r_iinc (nx := 51) rfl rfl (show decode cX9_readable 48 = .ok (.iinc 3 1, 3) by decide +kernel) rfl ?_
  refine am_r_goto (tg := 2) (show decode cX9_readable 51 = .ok (.goto (-49), 3) by decide +kernel) (by decide) ?_
  exact k
theorem S_X9_readable_54 {G : am_G} {d : Nat} {Q : Int64 → am_D → Prop} {σ : am_D} {v2 : Int} {v1 : Option Nat}  (k : am_X (am_FJ G (d + 1) Q) mX9_readable (0, 0) 56 [some (am_r (some 24)), some (am_r v1), some (am_i v2), some (am_i 1), none, none] [] (am_K0, σ)) : am_X (am_FJ G (d + 1) Q) mX9_readable (0, 0) 54 [some (am_r (some 24)), some (am_r v1), some (am_i v2), none, none, none] [] (am_K0, σ) := by
  refine am_r_iconst (nx := 55) (show decode cX9_readable 54 = .ok (.iconst 1, 1) by decide +kernel) rfl ?_
  refine am_r_istore_n (nx := 56) rfl (by decide) rfl (show decode cX9_readable 55 = .ok (.istore_n 3, 1) by decide +kernel) rfl ?_
  exact k
theorem S_X9_readable_56 {G : am_G} {d : Nat} {Q : Int64 → am_D → Prop} {σ : am_D} {v2 : Int} {v3 : Int} {v1 : Option Nat} (hr1 : -2147483648 ≤ v3 ∧ v3 ≤ 2147483647) (hr2 : -2147483648 ≤ v2 ∧ v2 ≤ 2147483647) (k1 : v2 < v3 → am_X (am_FJ G (d + 1) Q) mX9_readable (0, 0) 99 [some (am_r (some 24)), some (am_r v1), some (am_i v2), none, none, none] [] (am_K0, σ)) (k2 : ¬ (v2 < v3) → am_X (am_FJ G (d + 1) Q) mX9_readable (0, 0) 61 [some (am_r (some 24)), some (am_r v1), some (am_i v2), some (am_i v3), none, none] [] (am_K0, σ)) : am_X (am_FJ G (d + 1) Q) mX9_readable (0, 0) 56 [some (am_r (some 24)), some (am_r v1), some (am_i v2), some (am_i v3), none, none] [] (am_K0, σ) := by
  refine am_r_iload_n (nx := 57) rfl rfl (show decode cX9_readable 56 = .ok (.iload_n 3, 1) by decide +kernel) rfl ?_
  refine am_r_iload_n (nx := 58) rfl rfl (show decode cX9_readable 57 = .ok (.iload_n 2, 1) by decide +kernel) rfl ?_
  refine am_r_icmp_gt (tg := 99) (nx := 61) (show decode cX9_readable 58 = .ok (.if_icmp .gt 41, 3) by decide +kernel) (by decide) rfl hr1 hr2 ?_ ?_
  · exact fun q => am_x_fg [3] (k1 q)
  · exact fun q => k2 q
theorem S_X9_readable_61 {G : am_G} {d : Nat} {Q : Int64 → am_D → Prop} {σ : am_D} {v2 : Int} {v3 : Int} {v1 : Option Nat} {Q' : am_D → Prop} (hc : am_MV G d mX9_countSingles [am_r (some 24), am_r v1, am_i v3] σ Q') (k : ∀ σ' : am_D, Q' σ' → am_X (am_FJ G (d + 1) Q) mX9_readable (0, 0) 67 [some (am_r (some 24)), some (am_r v1), some (am_i v2), some (am_i v3), none, none] [] (am_K0, σ')) : am_X (am_FJ G (d + 1) Q) mX9_readable (0, 0) 61 [some (am_r (some 24)), some (am_r v1), some (am_i v2), some (am_i v3), none, none] [] (am_K0, σ) := by
  refine am_r_aload_n (nx := 62) rfl rfl (show decode cX9_readable 61 = .ok (.aload_n 0, 1) by decide +kernel) rfl ?_
  refine am_r_aload_n (nx := 63) rfl rfl (show decode cX9_readable 62 = .ok (.aload_n 1, 1) by decide +kernel) rfl ?_
  refine am_r_iload_n (nx := 64) rfl rfl (show decode cX9_readable 63 = .ok (.iload_n 3, 1) by decide +kernel) rfl ?_
  refine am_r_callV (as := [am_r v1, am_i v3]) (st := []) hc mb_X9_countSingles mv_X9_countSingles (Or.inl ml_X9_76) (ob_24) (by omega) (r := (RX9, TX9, 3)) rfl rfl rfl rfl (Nat.le_of_ble_eq_true rfl) ⟨Nat.le_refl _, Nat.le_refl _⟩ ⟨Nat.le_refl _, Nat.le_refl _⟩ (show decode cX9_readable 64 = .ok (.invokevirtual 76, 3) by decide +kernel) ?_
  rintro _ _ ⟨σ', rfl, rfl, hq⟩ _
  exact (k σ' hq)
theorem S_X9_readable_67 {G : am_G} {d : Nat} {Q : Int64 → am_D → Prop} {σ : am_D} {v2 : Int} {v3 : Int} {v1 : Option Nat}  (k : am_X (am_FJ G (d + 1) Q) mX9_readable (0, 0) 70 [some (am_r (some 24)), some (am_r v1), some (am_i v2), some (am_i v3), some (am_i 0), none] [] (am_K0, σ)) : am_X (am_FJ G (d + 1) Q) mX9_readable (0, 0) 67 [some (am_r (some 24)), some (am_r v1), some (am_i v2), some (am_i v3), none, none] [] (am_K0, σ) := by
  refine am_r_iconst (nx := 68) (show decode cX9_readable 67 = .ok (.iconst 0, 1) by decide +kernel) rfl ?_
  refine am_r_istore (nx := 70) (by decide) rfl (show decode cX9_readable 68 = .ok (.istore 4, 2) by decide +kernel) rfl ?_
  exact k
theorem S_X9_readable_70 {G : am_G} {d : Nat} {Q : Int64 → am_D → Prop} {σ : am_D} {v2 : Int} {v3 : Int} {v4 : Int} {v1 : Nat} (hc1 : am_isM v1) (hr2 : -2147483648 ≤ v4 ∧ v4 ≤ 2147483647) (hr3 : -2147483648 ≤ (σ.1 v1 0) ∧ (σ.1 v1 0) ≤ 2147483647) (k1 : (σ.1 v1 0) ≤ v4 → am_X (am_FJ G (d + 1) Q) mX9_readable (0, 0) 93 [some (am_r (some 24)), some (am_r (some v1)), some (am_i v2), some (am_i v3), none, none] [] (am_K0, σ)) (k2 : ¬ ((σ.1 v1 0) ≤ v4) → am_X (am_FJ G (d + 1) Q) mX9_readable (0, 0) 79 [some (am_r (some 24)), some (am_r (some v1)), some (am_i v2), some (am_i v3), some (am_i v4), none] [] (am_K0, σ)) : am_X (am_FJ G (d + 1) Q) mX9_readable (0, 0) 70 [some (am_r (some 24)), some (am_r (some v1)), some (am_i v2), some (am_i v3), some (am_i v4), none] [] (am_K0, σ) := by
  refine am_r_iload (nx := 72) rfl (show decode cX9_readable 70 = .ok (.iload 4, 2) by decide +kernel) rfl ?_
  refine am_r_aload_n (nx := 73) rfl rfl (show decode cX9_readable 72 = .ok (.aload_n 1, 1) by decide +kernel) rfl ?_
  refine am_r_getI (nx := 76) 0 cw2 (by decide) rfl (Or.inr ⟨_, fl_X9_29⟩) (obM hc1) (show decode cX9_readable 73 = .ok (.getfield 29, 3) by decide +kernel) rfl ?_
  refine am_r_icmp_ge (tg := 93) (nx := 79) (show decode cX9_readable 76 = .ok (.if_icmp .ge 17, 3) by decide +kernel) (by decide) rfl hr2 hr3 ?_ ?_
  · exact fun q => am_x_fg [4] (k1 q)
  · exact fun q => k2 q
theorem S_X9_readable_79 {G : am_G} {d : Nat} {Q : Int64 → am_D → Prop} {σ : am_D} {v2 : Int} {v3 : Int} {v4 : Int} {v1 : Option Nat} {Q' : am_D → Prop} (hc : am_MV G d mX9_countRows [am_r (some 24), am_r v1, am_i v3, am_i v4] σ Q') (k : ∀ σ' : am_D, Q' σ' → am_X (am_FJ G (d + 1) Q) mX9_readable (0, 0) 87 [some (am_r (some 24)), some (am_r v1), some (am_i v2), some (am_i v3), some (am_i v4), none] [] (am_K0, σ')) : am_X (am_FJ G (d + 1) Q) mX9_readable (0, 0) 79 [some (am_r (some 24)), some (am_r v1), some (am_i v2), some (am_i v3), some (am_i v4), none] [] (am_K0, σ) := by
  refine am_r_aload_n (nx := 80) rfl rfl (show decode cX9_readable 79 = .ok (.aload_n 0, 1) by decide +kernel) rfl ?_
  refine am_r_aload_n (nx := 81) rfl rfl (show decode cX9_readable 80 = .ok (.aload_n 1, 1) by decide +kernel) rfl ?_
  refine am_r_iload_n (nx := 82) rfl rfl (show decode cX9_readable 81 = .ok (.iload_n 3, 1) by decide +kernel) rfl ?_
  refine am_r_iload (nx := 84) rfl (show decode cX9_readable 82 = .ok (.iload 4, 2) by decide +kernel) rfl ?_
  refine am_r_callV (as := [am_r v1, am_i v3, am_i v4]) (st := []) hc mb_X9_countRows mv_X9_countRows (Or.inl ml_X9_80) (ob_24) (by omega) (r := (RX9, TX9, 3)) rfl rfl rfl rfl (Nat.le_of_ble_eq_true rfl) ⟨Nat.le_refl _, Nat.le_refl _⟩ ⟨Nat.le_refl _, Nat.le_refl _⟩ (show decode cX9_readable 84 = .ok (.invokevirtual 80, 3) by decide +kernel) ?_
  rintro _ _ ⟨σ', rfl, rfl, hq⟩ _
  exact (k σ' hq)
theorem S_X9_readable_87 {G : am_G} {d : Nat} {Q : Int64 → am_D → Prop} {σ : am_D} {v2 : Int} {v3 : Int} {v4 : Int} {v1 : Option Nat}  (k : am_X (am_FJ G (d + 1) Q) mX9_readable (0, 0) 70 [some (am_r (some 24)), some (am_r v1), some (am_i v2), some (am_i v3), some (am_i (v4 + 1)), none] [] (am_K0, σ)) : am_X (am_FJ G (d + 1) Q) mX9_readable (0, 0) 87 [some (am_r (some 24)), some (am_r v1), some (am_i v2), some (am_i v3), some (am_i v4), none] [] (am_K0, σ) := by
  refine am_r_iinc (nx := 90) rfl rfl (show decode cX9_readable 87 = .ok (.iinc 4 1, 3) by decide +kernel) rfl ?_
  refine am_r_goto (tg := 70) (show decode cX9_readable 90 = .ok (.goto (-20), 3) by decide +kernel) (by decide) ?_
  exact k
theorem S_X9_readable_93 {G : am_G} {d : Nat} {Q : Int64 → am_D → Prop} {σ : am_D} {v2 : Int} {v3 : Int} {v1 : Option Nat}  (k : am_X (am_FJ G (d + 1) Q) mX9_readable (0, 0) 56 [some (am_r (some 24)), some (am_r v1), some (am_i v2), some (am_i (v3 + 1)), none, none] [] (am_K0, σ)) : am_X (am_FJ G (d + 1) Q) mX9_readable (0, 0) 93 [some (am_r (some 24)), some (am_r v1), some (am_i v2), some (am_i v3), none, none] [] (am_K0, σ) := by
  refine am_r_iinc (nx := 96) rfl rfl (show decode cX9_readable 93 = .ok (.iinc 3 1, 3) by decide +kernel) rfl ?_
  refine am_r_goto (tg := 56) (show decode cX9_readable 96 = .ok (.goto (-40), 3) by decide +kernel) (by decide) ?_
  exact k
theorem S_X9_readable_99 {G : am_G} {d : Nat} {Q : Int64 → am_D → Prop} {σ : am_D} {v2 : Int} {v1 : Option Nat}  (k : am_X (am_FJ G (d + 1) Q) mX9_readable (0, 0) 101 [some (am_r (some 24)), some (am_r v1), some (am_i v2), some (am_l 0), none, none] [] (am_K0, σ)) : am_X (am_FJ G (d + 1) Q) mX9_readable (0, 0) 99 [some (am_r (some 24)), some (am_r v1), some (am_i v2), none, none, none] [] (am_K0, σ) := by
  refine am_r_lconst (nx := 100) (v := 0) rfl (show decode cX9_readable 99 = .ok (.lconst 0, 1) by decide +kernel) rfl ?_
  refine am_r_lstore_n (nx := 101) rfl (by decide) rfl (show decode cX9_readable 100 = .ok (.lstore_n 3, 1) by decide +kernel) rfl ?_
  exact k
theorem S_X9_readable_101 {G : am_G} {d : Nat} {Q : Int64 → am_D → Prop} {σ : am_D} {v2 : Int} {v3 : Int64} {v1 : Option Nat}  (k : am_X (am_FJ G (d + 1) Q) mX9_readable (0, 0) 104 [some (am_r (some 24)), some (am_r v1), some (am_i v2), some (am_l v3), none, some (am_i 0)] [] (am_K0, σ)) : am_X (am_FJ G (d + 1) Q) mX9_readable (0, 0) 101 [some (am_r (some 24)), some (am_r v1), some (am_i v2), some (am_l v3), none, none] [] (am_K0, σ) := by
  refine am_r_iconst (nx := 102) (show decode cX9_readable 101 = .ok (.iconst 0, 1) by decide +kernel) rfl ?_
  refine am_r_istore (nx := 104) (by decide) rfl (show decode cX9_readable 102 = .ok (.istore 5, 2) by decide +kernel) rfl ?_
  exact k
theorem S_X9_readable_104 {G : am_G} {d : Nat} {Q : Int64 → am_D → Prop} {σ : am_D} {v2 : Int} {v3 : Int64} {v5 : Int} {v1 : Nat} (hc1 : am_isM v1) (hr2 : -2147483648 ≤ v5 ∧ v5 ≤ 2147483647) (hr3 : -2147483648 ≤ (σ.1 v1 0) ∧ (σ.1 v1 0) ≤ 2147483647) (k1 : (σ.1 v1 0) ≤ v5 → am_X (am_FJ G (d + 1) Q) mX9_readable (0, 0) 150 [none, none, none, some (am_l v3), none, none] [] (am_K0, σ)) (k2 : ¬ ((σ.1 v1 0) ≤ v5) → am_X (am_FJ G (d + 1) Q) mX9_readable (0, 0) 113 [some (am_r (some 24)), some (am_r (some v1)), some (am_i v2), some (am_l v3), none, some (am_i v5)] [] (am_K0, σ)) : am_X (am_FJ G (d + 1) Q) mX9_readable (0, 0) 104 [some (am_r (some 24)), some (am_r (some v1)), some (am_i v2), some (am_l v3), none, some (am_i v5)] [] (am_K0, σ) := by
  refine am_r_iload (nx := 106) rfl (show decode cX9_readable 104 = .ok (.iload 5, 2) by decide +kernel) rfl ?_
  refine am_r_aload_n (nx := 107) rfl rfl (show decode cX9_readable 106 = .ok (.aload_n 1, 1) by decide +kernel) rfl ?_
  refine am_r_getI (nx := 110) 0 cw2 (by decide) rfl (Or.inr ⟨_, fl_X9_29⟩) (obM hc1) (show decode cX9_readable 107 = .ok (.getfield 29, 3) by decide +kernel) rfl ?_
  refine am_r_icmp_ge (tg := 150) (nx := 113) (show decode cX9_readable 110 = .ok (.if_icmp .ge 40, 3) by decide +kernel) (by decide) rfl hr2 hr3 ?_ ?_
  · exact fun q => am_x_fg [0, 1, 2, 5] (k1 q)
  · exact fun q => k2 q
theorem S_X9_readable_113 {G : am_G} {d : Nat} {Q : Int64 → am_D → Prop} {σ : am_D} {v2 : Int} {v3 : Int64} {v5 : Int} {v1 : Nat} {Q' : Int → am_D → Prop} (hc : am_MI G d mX2_endTells [am_r (some v1), am_i v5] σ Q') (hc1 : am_isM v1) (k : ∀ (x : Int) (σ' : am_D), Q' x σ' → am_X (am_FJ G (d + 1) Q) mX9_readable (0, 0) 119 [some (am_r (some 24)), some (am_r (some v1)), some (am_i v2), some (am_l v3), none, some (am_i v5)] [am_i x] (am_K0, σ')) : am_X (am_FJ G (d + 1) Q) mX9_readable (0, 0) 113 [some (am_r (some 24)), some (am_r (some v1)), some (am_i v2), some (am_l v3), none, some (am_i v5)] [] (am_K0, σ) := by
  refine am_r_aload_n (nx := 114) rfl rfl (show decode cX9_readable 113 = .ok (.aload_n 1, 1) by decide +kernel) rfl ?_
  refine am_r_iload (nx := 116) rfl (show decode cX9_readable 114 = .ok (.iload 5, 2) by decide +kernel) rfl ?_
  refine am_r_callV (as := [am_i v5]) (st := []) hc mb_X2_endTells mv_X2_endTells (Or.inl ml_X9_48) (obM hc1) (by omega) (r := (RX2, TX2, 16)) rfl rfl rfl rfl (Nat.le_of_ble_eq_true rfl) ⟨Nat.le_refl _, Nat.le_refl _⟩ ⟨Nat.le_refl _, Nat.le_refl _⟩ (show decode cX9_readable 116 = .ok (.invokevirtual 48, 3) by decide +kernel) ?_
  rintro _ _ ⟨x, σ', rfl, rfl, hq⟩ _
  exact (k x σ' hq)
theorem S_X9_readable_119 {G : am_G} {d : Nat} {Q : Int64 → am_D → Prop} {σ : am_D} {v2 : Int} {v3 : Int64} {v5 : Int} {s0 : Int} {v1 : Option Nat} (hr1 : -2147483648 ≤ s0 ∧ s0 ≤ 2147483647) (k1 : s0 = (-1) → am_X (am_FJ G (d + 1) Q) mX9_readable (0, 0) 144 [some (am_r (some 24)), some (am_r v1), some (am_i v2), some (am_l v3), none, some (am_i v5)] [] (am_K0, σ)) (k2 : ¬ (s0 = (-1)) → am_X (am_FJ G (d + 1) Q) mX9_readable (0, 0) 123 [some (am_r (some 24)), some (am_r v1), some (am_i v2), some (am_l v3), none, some (am_i v5)] [] (am_K0, σ)) : am_X (am_FJ G (d + 1) Q) mX9_readable (0, 0) 119 [some (am_r (some 24)), some (am_r v1), some (am_i v2), some (am_l v3), none, some (am_i v5)] [am_i s0] (am_K0, σ) := by
  refine am_r_iconst (nx := 120) (show decode cX9_readable 119 = .ok (.iconst (-1), 1) by decide +kernel) rfl ?_
  refine am_r_icmp_eq (tg := 144) (nx := 123) (show decode cX9_readable 120 = .ok (.if_icmp .eq 24, 3) by decide +kernel) (by decide) rfl hr1 (by omega) ?_ ?_
  · exact fun q => k1 q
  · exact fun q => k2 q
theorem S_X9_readable_123 {G : am_G} {d : Nat} {Q : Int64 → am_D → Prop} {σ : am_D} {v2 : Int} {v3 : Int64} {v5 : Int} {Q' : Int → am_D → Prop} {v1 : Option Nat} (hc : am_MI G d mX9_pair [am_i 0, am_i v5] σ Q') (k : ∀ (x : Int) (σ' : am_D), Q' x σ' → am_X (am_FJ G (d + 1) Q) mX9_readable (0, 0) 138 [some (am_r (some 24)), some (am_r v1), some (am_i v2), none, none, some (am_i v5)] [am_i x, am_i (v2 * 36), am_r (some 27), am_l v3] (am_K0, σ')) : am_X (am_FJ G (d + 1) Q) mX9_readable (0, 0) 123 [some (am_r (some 24)), some (am_r v1), some (am_i v2), some (am_l v3), none, some (am_i v5)] [] (am_K0, σ) := by
  refine am_r_lload_n (nx := 124) rfl rfl (show decode cX9_readable 123 = .ok (.lload_n 3, 1) by decide +kernel) rfl ?_
  refine am_r_aload_n (nx := 125) rfl rfl (show decode cX9_readable 124 = .ok (.aload_n 0, 1) by decide +kernel) rfl ?_
  refine am_r_getF (nx := 128) 2 cw9 (by decide) rfl (Or.inl fl_X9_18) (ob_24) (fn_24_2) (show decode cX9_readable 125 = .ok (.getfield 18, 3) by decide +kernel) rfl ?_
  refine am_r_iload_n (nx := 129) rfl rfl (show decode cX9_readable 128 = .ok (.iload_n 2, 1) by decide +kernel) rfl ?_
  refine am_r_bipush (nx := 131) rfl (show decode cX9_readable 129 = .ok (.bipush 36, 2) by decide +kernel) rfl ?_
  refine am_r_imul (nx := 132) (show decode cX9_readable 131 = .ok (.imul, 1) by decide +kernel) rfl ?_
  refine am_r_iconst (nx := 133) (show decode cX9_readable 132 = .ok (.iconst 0, 1) by decide +kernel) rfl ?_
  refine am_r_iload (nx := 135) rfl (show decode cX9_readable 133 = .ok (.iload 5, 2) by decide +kernel) rfl ?_
  refine am_r_callS (as := [am_i 0, am_i v5]) (st := [am_i (v2 * 36), am_r (some 27), am_l v3]) hc mb_X9_pair mv_X9_pair (Or.inl ml_X9_35) rfl rfl (Nat.le_of_ble_eq_true rfl) ⟨Nat.le_refl _, Nat.le_refl _⟩ ⟨Nat.le_refl _, Nat.le_refl _⟩ (show decode cX9_readable 135 = .ok (.invokestatic 35, 3) by decide +kernel) ?_
  rintro _ _ ⟨x, σ', rfl, rfl, hq⟩ _
  exact am_x_fg [3] (k x σ' hq)
theorem S_X9_readable_138 {G : am_G} {d : Nat} {Q : Int64 → am_D → Prop} {σ : am_D} {v2 : Int} {v5 : Int} {s0 : Int64} {s2 : Int} {s3 : Int} {s1 : Option Nat} {Q' : Int64 → am_D → Prop} {v1 : Option Nat} (hc : am_MJ G d mX9_at [am_r s1, am_i (s2 + s3)] σ Q') (k : ∀ (x : Int64) (σ' : am_D), Q' x σ' → am_X (am_FJ G (d + 1) Q) mX9_readable (0, 0) 142 [some (am_r (some 24)), some (am_r v1), some (am_i v2), none, none, some (am_i v5)] [am_l x, am_l s0] (am_K0, σ')) : am_X (am_FJ G (d + 1) Q) mX9_readable (0, 0) 138 [some (am_r (some 24)), some (am_r v1), some (am_i v2), none, none, some (am_i v5)] [am_i s3, am_i s2, am_r s1, am_l s0] (am_K0, σ) := by
  refine am_r_iadd (nx := 139) (show decode cX9_readable 138 = .ok (.iadd, 1) by decide +kernel) rfl ?_
  refine am_r_callS (as := [am_r s1, am_i (s2 + s3)]) (st := [am_l s0]) hc mb_X9_at mv_X9_at (Or.inl ml_X9_39) rfl rfl (Nat.le_of_ble_eq_true rfl) ⟨Nat.le_refl _, Nat.le_refl _⟩ ⟨Nat.le_refl _, Nat.le_refl _⟩ (show decode cX9_readable 139 = .ok (.invokestatic 39, 3) by decide +kernel) ?_
  rintro _ _ ⟨x, σ', rfl, rfl, hq⟩ _
  exact (k x σ' hq)
theorem S_X9_readable_142 {G : am_G} {d : Nat} {Q : Int64 → am_D → Prop} {σ : am_D} {v2 : Int} {v5 : Int} {s0 : Int64} {s1 : Int64} {v1 : Option Nat}  (k : am_X (am_FJ G (d + 1) Q) mX9_readable (0, 0) 144 [some (am_r (some 24)), some (am_r v1), some (am_i v2), some (am_l (s0 + s1)), none, some (am_i v5)] [] (am_K0, σ)) : am_X (am_FJ G (d + 1) Q) mX9_readable (0, 0) 142 [some (am_r (some 24)), some (am_r v1), some (am_i v2), none, none, some (am_i v5)] [am_l s1, am_l s0] (am_K0, σ) := by
  refine am_r_ladd (nx := 143) (show decode cX9_readable 142 = .ok (.ladd, 1) by decide +kernel) rfl ?_
  refine am_r_lstore_n (nx := 144) rfl (by decide) rfl (show decode cX9_readable 143 = .ok (.lstore_n 3, 1) by decide +kernel) rfl ?_
  exact k
theorem S_X9_readable_144 {G : am_G} {d : Nat} {Q : Int64 → am_D → Prop} {σ : am_D} {v2 : Int} {v3 : Int64} {v5 : Int} {v1 : Option Nat}  (k : am_X (am_FJ G (d + 1) Q) mX9_readable (0, 0) 104 [some (am_r (some 24)), some (am_r v1), some (am_i v2), some (am_l v3), none, some (am_i (v5 + 1))] [] (am_K0, σ)) : am_X (am_FJ G (d + 1) Q) mX9_readable (0, 0) 144 [some (am_r (some 24)), some (am_r v1), some (am_i v2), some (am_l v3), none, some (am_i v5)] [] (am_K0, σ) := by
  refine am_r_iinc (nx := 147) rfl rfl (show decode cX9_readable 144 = .ok (.iinc 5 1, 3) by decide +kernel) rfl ?_
  refine am_r_goto (tg := 104) (show decode cX9_readable 147 = .ok (.goto (-43), 3) by decide +kernel) (by decide) ?_
  exact k
theorem S_X9_readable_150 {G : am_G} {d : Nat} {Q : Int64 → am_D → Prop} {σ : am_D} {v3 : Int64}  (k : Q v3 σ) : am_X (am_FJ G (d + 1) Q) mX9_readable (0, 0) 150 [none, none, none, some (am_l v3), none, none] [] (am_K0, σ) := by
  refine am_r_lload_n (nx := 151) rfl rfl (show decode cX9_readable 150 = .ok (.lload_n 3, 1) by decide +kernel) rfl ?_
  exact am_r_lret rfl (show decode cX9_readable 151 = .ok (.lreturn, 1) by decide +kernel) ⟨_, _, rfl, rfl, k⟩
theorem S_X9_countSingles_0 {G : am_G} {d : Nat} {Q : am_D → Prop} {σ : am_D} {v2 : Int} {v1 : Option Nat}  (k : am_X (am_FV G (d + 1) Q) mX9_countSingles (0, 0) 5 [some (am_r (some 24)), some (am_r v1), none, some (am_i (v2 * 36)), none, none, none, none, none, none, none] [] (am_K0, σ)) : am_X (am_FV G (d + 1) Q) mX9_countSingles (0, 0) 0 [some (am_r (some 24)), some (am_r v1), some (am_i v2), none, none, none, none, none, none, none, none] [] (am_K0, σ) := by
  refine am_r_iload_n (nx := 1) rfl rfl (show decode cX9_countSingles 0 = .ok (.iload_n 2, 1) by decide +kernel) rfl ?_
  refine am_r_bipush (nx := 3) rfl (show decode cX9_countSingles 1 = .ok (.bipush 36, 2) by decide +kernel) rfl ?_
  refine am_r_imul (nx := 4) (show decode cX9_countSingles 3 = .ok (.imul, 1) by decide +kernel) rfl ?_
  refine am_r_istore_n (nx := 5) rfl (by decide) rfl (show decode cX9_countSingles 4 = .ok (.istore_n 3, 1) by decide +kernel) rfl ?_
  exact am_x_fg [2] k
theorem S_X9_countSingles_5 {G : am_G} {d : Nat} {Q : am_D → Prop} {σ : am_D} {v3 : Int} {v1 : Option Nat}  (k : am_X (am_FV G (d + 1) Q) mX9_countSingles (0, 0) 11 [some (am_r (some 24)), some (am_r v1), none, some (am_i v3), some (am_i (v3 - 36)), none, none, none, none, none, none] [] (am_K0, σ)) : am_X (am_FV G (d + 1) Q) mX9_countSingles (0, 0) 5 [some (am_r (some 24)), some (am_r v1), none, some (am_i v3), none, none, none, none, none, none, none] [] (am_K0, σ) := by
  refine am_r_iload_n (nx := 6) rfl rfl (show decode cX9_countSingles 5 = .ok (.iload_n 3, 1) by decide +kernel) rfl ?_
  refine am_r_bipush (nx := 8) rfl (show decode cX9_countSingles 6 = .ok (.bipush 36, 2) by decide +kernel) rfl ?_
  refine am_r_isub (nx := 9) (show decode cX9_countSingles 8 = .ok (.isub, 1) by decide +kernel) rfl ?_
  refine am_r_istore (nx := 11) (by decide) rfl (show decode cX9_countSingles 9 = .ok (.istore 4, 2) by decide +kernel) rfl ?_
  exact k
theorem S_X9_countSingles_11 {G : am_G} {d : Nat} {Q : am_D → Prop} {σ : am_D} {v3 : Int} {v4 : Int} {v1 : Option Nat}  (k : am_X (am_FV G (d + 1) Q) mX9_countSingles (0, 0) 14 [some (am_r (some 24)), some (am_r v1), none, some (am_i v3), some (am_i v4), some (am_i 0), none, none, none, none, none] [] (am_K0, σ)) : am_X (am_FV G (d + 1) Q) mX9_countSingles (0, 0) 11 [some (am_r (some 24)), some (am_r v1), none, some (am_i v3), some (am_i v4), none, none, none, none, none, none] [] (am_K0, σ) := by
  refine am_r_iconst (nx := 12) (show decode cX9_countSingles 11 = .ok (.iconst 0, 1) by decide +kernel) rfl ?_
  refine am_r_istore (nx := 14) (by decide) rfl (show decode cX9_countSingles 12 = .ok (.istore 5, 2) by decide +kernel) rfl ?_
  exact k
theorem S_X9_countSingles_14 {G : am_G} {d : Nat} {Q : am_D → Prop} {σ : am_D} {v3 : Int} {v4 : Int} {v5 : Int} {v1 : Option Nat} (hr1 : -2147483648 ≤ v5 ∧ v5 ≤ 2147483647) (k1 : 36 ≤ v5 → am_X (am_FV G (d + 1) Q) mX9_countSingles (0, 0) 39 [some (am_r (some 24)), some (am_r v1), none, some (am_i v3), some (am_i v4), none, none, none, none, none, none] [] (am_K0, σ)) (k2 : ¬ (36 ≤ v5) → am_X (am_FV G (d + 1) Q) mX9_countSingles (0, 0) 21 [some (am_r (some 24)), some (am_r v1), none, some (am_i v3), some (am_i v4), some (am_i v5), none, none, none, none, none] [] (am_K0, σ)) : am_X (am_FV G (d + 1) Q) mX9_countSingles (0, 0) 14 [some (am_r (some 24)), some (am_r v1), none, some (am_i v3), some (am_i v4), some (am_i v5), none, none, none, none, none] [] (am_K0, σ) := by
  refine am_r_iload (nx := 16) rfl (show decode cX9_countSingles 14 = .ok (.iload 5, 2) by decide +kernel) rfl ?_
  refine am_r_bipush (nx := 18) rfl (show decode cX9_countSingles 16 = .ok (.bipush 36, 2) by decide +kernel) rfl ?_
  refine am_r_icmp_ge (tg := 39) (nx := 21) (show decode cX9_countSingles 18 = .ok (.if_icmp .ge 21, 3) by decide +kernel) (by decide) rfl hr1 (by omega) ?_ ?_
  · exact fun q => am_x_fg [5] (k1 q)
  · exact fun q => k2 q
theorem S_X9_countSingles_21 {G : am_G} {d : Nat} {Q : am_D → Prop} {σ : am_D} {v3 : Int} {v4 : Int} {v5 : Int} {Q' : am_D → Prop} {v1 : Option Nat} (hc : am_MV G d mX9_put [am_r (some 26), am_i (v3 + v5), am_l 0] σ Q') (k : ∀ σ' : am_D, Q' σ' → am_X (am_FV G (d + 1) Q) mX9_countSingles (0, 0) 33 [some (am_r (some 24)), some (am_r v1), none, some (am_i v3), some (am_i v4), some (am_i v5), none, none, none, none, none] [] (am_K0, σ')) : am_X (am_FV G (d + 1) Q) mX9_countSingles (0, 0) 21 [some (am_r (some 24)), some (am_r v1), none, some (am_i v3), some (am_i v4), some (am_i v5), none, none, none, none, none] [] (am_K0, σ) := by
  refine am_r_aload_n (nx := 22) rfl rfl (show decode cX9_countSingles 21 = .ok (.aload_n 0, 1) by decide +kernel) rfl ?_
  refine am_r_getF (nx := 25) 1 cw9 (by decide) rfl (Or.inl fl_X9_15) (ob_24) (fn_24_1) (show decode cX9_countSingles 22 = .ok (.getfield 15, 3) by decide +kernel) rfl ?_
  refine am_r_iload_n (nx := 26) rfl rfl (show decode cX9_countSingles 25 = .ok (.iload_n 3, 1) by decide +kernel) rfl ?_
  refine am_r_iload (nx := 28) rfl (show decode cX9_countSingles 26 = .ok (.iload 5, 2) by decide +kernel) rfl ?_
  refine am_r_iadd (nx := 29) (show decode cX9_countSingles 28 = .ok (.iadd, 1) by decide +kernel) rfl ?_
  refine am_r_lconst (nx := 30) (v := 0) rfl (show decode cX9_countSingles 29 = .ok (.lconst 0, 1) by decide +kernel) rfl ?_
  refine am_r_callS (as := [am_r (some 26), am_i (v3 + v5), am_l 0]) (st := []) hc mb_X9_put mv_X9_put (Or.inl ml_X9_58) rfl rfl (Nat.le_of_ble_eq_true rfl) ⟨Nat.le_refl _, Nat.le_refl _⟩ ⟨Nat.le_refl _, Nat.le_refl _⟩ (show decode cX9_countSingles 30 = .ok (.invokestatic 58, 3) by decide +kernel) ?_
  rintro _ _ ⟨σ', rfl, rfl, hq⟩ _
  exact (k σ' hq)
theorem S_X9_countSingles_33 {G : am_G} {d : Nat} {Q : am_D → Prop} {σ : am_D} {v3 : Int} {v4 : Int} {v5 : Int} {v1 : Option Nat}  (k : am_X (am_FV G (d + 1) Q) mX9_countSingles (0, 0) 14 [some (am_r (some 24)), some (am_r v1), none, some (am_i v3), some (am_i v4), some (am_i (v5 + 1)), none, none, none, none, none] [] (am_K0, σ)) : am_X (am_FV G (d + 1) Q) mX9_countSingles (0, 0) 33 [some (am_r (some 24)), some (am_r v1), none, some (am_i v3), some (am_i v4), some (am_i v5), none, none, none, none, none] [] (am_K0, σ) := by
  refine am_r_iinc (nx := 36) rfl rfl (show decode cX9_countSingles 33 = .ok (.iinc 5 1, 3) by decide +kernel) rfl ?_
  refine am_r_goto (tg := 14) (show decode cX9_countSingles 36 = .ok (.goto (-22), 3) by decide +kernel) (by decide) ?_
  exact k
theorem S_X9_countSingles_39 {G : am_G} {d : Nat} {Q : am_D → Prop} {σ : am_D} {v3 : Int} {v4 : Int} {v1 : Option Nat}  (k : am_X (am_FV G (d + 1) Q) mX9_countSingles (0, 0) 42 [some (am_r (some 24)), some (am_r v1), none, some (am_i v3), some (am_i v4), some (am_i 0), none, none, none, none, none] [] (am_K0, σ)) : am_X (am_FV G (d + 1) Q) mX9_countSingles (0, 0) 39 [some (am_r (some 24)), some (am_r v1), none, some (am_i v3), some (am_i v4), none, none, none, none, none, none] [] (am_K0, σ) := by
  refine am_r_iconst (nx := 40) (show decode cX9_countSingles 39 = .ok (.iconst 0, 1) by decide +kernel) rfl ?_
  refine am_r_istore (nx := 42) (by decide) rfl (show decode cX9_countSingles 40 = .ok (.istore 5, 2) by decide +kernel) rfl ?_
  exact k
theorem S_X9_countSingles_42 {G : am_G} {d : Nat} {Q : am_D → Prop} {σ : am_D} {v3 : Int} {v4 : Int} {v5 : Int} {v1 : Nat} (hc1 : am_isM v1) (hr2 : -2147483648 ≤ v5 ∧ v5 ≤ 2147483647) (hr3 : -2147483648 ≤ (σ.1 v1 0) ∧ (σ.1 v1 0) ≤ 2147483647) (k1 : (σ.1 v1 0) ≤ v5 → am_X (am_FV G (d + 1) Q) mX9_countSingles (0, 0) 175 [none, none, none, none, none, none, none, none, none, none, none] [] (am_K0, σ)) (k2 : ¬ ((σ.1 v1 0) ≤ v5) → am_X (am_FV G (d + 1) Q) mX9_countSingles (0, 0) 51 [some (am_r (some 24)), some (am_r (some v1)), none, some (am_i v3), some (am_i v4), some (am_i v5), none, none, none, none, none] [] (am_K0, σ)) : am_X (am_FV G (d + 1) Q) mX9_countSingles (0, 0) 42 [some (am_r (some 24)), some (am_r (some v1)), none, some (am_i v3), some (am_i v4), some (am_i v5), none, none, none, none, none] [] (am_K0, σ) := by
  refine am_r_iload (nx := 44) rfl (show decode cX9_countSingles 42 = .ok (.iload 5, 2) by decide +kernel) rfl ?_
  refine am_r_aload_n (nx := 45) rfl rfl (show decode cX9_countSingles 44 = .ok (.aload_n 1, 1) by decide +kernel) rfl ?_
  refine am_r_getI (nx := 48) 0 cw2 (by decide) rfl (Or.inr ⟨_, fl_X9_29⟩) (obM hc1) (show decode cX9_countSingles 45 = .ok (.getfield 29, 3) by decide +kernel) rfl ?_
  refine am_r_icmp_ge (tg := 175) (nx := 51) (show decode cX9_countSingles 48 = .ok (.if_icmp .ge 127, 3) by decide +kernel) (by decide) rfl hr2 hr3 ?_ ?_
  · exact fun q => am_x_fg [0, 1, 3, 4, 5] (k1 q)
  · exact fun q => k2 q
theorem S_X9_countSingles_51 {G : am_G} {d : Nat} {Q : am_D → Prop} {σ : am_D} {v3 : Int} {v4 : Int} {v5 : Int} {v1 : Option Nat}  (k : am_X (am_FV G (d + 1) Q) mX9_countSingles (0, 0) 54 [some (am_r (some 24)), some (am_r v1), none, some (am_i v3), some (am_i v4), some (am_i v5), some (am_i 0), none, none, none, none] [] (am_K0, σ)) : am_X (am_FV G (d + 1) Q) mX9_countSingles (0, 0) 51 [some (am_r (some 24)), some (am_r v1), none, some (am_i v3), some (am_i v4), some (am_i v5), none, none, none, none, none] [] (am_K0, σ) := by
  refine am_r_iconst (nx := 52) (show decode cX9_countSingles 51 = .ok (.iconst 0, 1) by decide +kernel) rfl ?_
  refine am_r_istore (nx := 54) (by decide) rfl (show decode cX9_countSingles 52 = .ok (.istore 6, 2) by decide +kernel) rfl ?_
  exact k
theorem S_X9_countSingles_54 {G : am_G} {d : Nat} {Q : am_D → Prop} {σ : am_D} {v3 : Int} {v4 : Int} {v5 : Int} {v6 : Int} {v1 : Option Nat} (hr1 : -2147483648 ≤ v6 ∧ v6 ≤ 2147483647) (k1 : 3 ≤ v6 → am_X (am_FV G (d + 1) Q) mX9_countSingles (0, 0) 169 [some (am_r (some 24)), some (am_r v1), none, some (am_i v3), some (am_i v4), some (am_i v5), none, none, none, none, none] [] (am_K0, σ)) (k2 : ¬ (3 ≤ v6) → am_X (am_FV G (d + 1) Q) mX9_countSingles (0, 0) 60 [some (am_r (some 24)), some (am_r v1), none, some (am_i v3), some (am_i v4), some (am_i v5), some (am_i v6), none, none, none, none] [] (am_K0, σ)) : am_X (am_FV G (d + 1) Q) mX9_countSingles (0, 0) 54 [some (am_r (some 24)), some (am_r v1), none, some (am_i v3), some (am_i v4), some (am_i v5), some (am_i v6), none, none, none, none] [] (am_K0, σ) := by
  refine am_r_iload (nx := 56) rfl (show decode cX9_countSingles 54 = .ok (.iload 6, 2) by decide +kernel) rfl ?_
  refine am_r_iconst (nx := 57) (show decode cX9_countSingles 56 = .ok (.iconst 3, 1) by decide +kernel) rfl ?_
  refine am_r_icmp_ge (tg := 169) (nx := 60) (show decode cX9_countSingles 57 = .ok (.if_icmp .ge 112, 3) by decide +kernel) (by decide) rfl hr1 (by omega) ?_ ?_
  · exact fun q => am_x_fg [6] (k1 q)
  · exact fun q => k2 q
theorem S_X9_countSingles_60 {G : am_G} {d : Nat} {Q : am_D → Prop} {σ : am_D} {v3 : Int} {v4 : Int} {v5 : Int} {v6 : Int} {v1 : Nat} {Q' : Int → am_D → Prop} (hc : am_MI G d mX2_opensTo [am_r (some v1), am_i v6, am_i v5] σ Q') (hc1 : am_isM v1) (k : ∀ (x : Int) (σ' : am_D), Q' x σ' → am_X (am_FV G (d + 1) Q) mX9_countSingles (0, 0) 70 [some (am_r (some 24)), some (am_r (some v1)), none, some (am_i v3), some (am_i v4), some (am_i v5), some (am_i v6), some (am_i x), none, none, none] [] (am_K0, σ')) : am_X (am_FV G (d + 1) Q) mX9_countSingles (0, 0) 60 [some (am_r (some 24)), some (am_r (some v1)), none, some (am_i v3), some (am_i v4), some (am_i v5), some (am_i v6), none, none, none, none] [] (am_K0, σ) := by
  refine am_r_aload_n (nx := 61) rfl rfl (show decode cX9_countSingles 60 = .ok (.aload_n 1, 1) by decide +kernel) rfl ?_
  refine am_r_iload (nx := 63) rfl (show decode cX9_countSingles 61 = .ok (.iload 6, 2) by decide +kernel) rfl ?_
  refine am_r_iload (nx := 65) rfl (show decode cX9_countSingles 63 = .ok (.iload 5, 2) by decide +kernel) rfl ?_
  refine am_r_callV (as := [am_i v6, am_i v5]) (st := []) hc mb_X2_opensTo mv_X2_opensTo (Or.inl ml_X9_45) (obM hc1) (by omega) (r := (RX2, TX2, 16)) rfl rfl rfl rfl (Nat.le_of_ble_eq_true rfl) ⟨Nat.le_refl _, Nat.le_refl _⟩ ⟨Nat.le_refl _, Nat.le_refl _⟩ (show decode cX9_countSingles 65 = .ok (.invokevirtual 45, 3) by decide +kernel) ?_
  rintro _ _ ⟨x, σ', rfl, rfl, hq⟩ _
  refine am_r_istore (nx := 70) (by decide) rfl (show decode cX9_countSingles 68 = .ok (.istore 7, 2) by decide +kernel) rfl ?_
  exact (k x σ' hq)
theorem S_X9_countSingles_70 {G : am_G} {d : Nat} {Q : am_D → Prop} {σ : am_D} {v3 : Int} {v4 : Int} {v5 : Int} {v6 : Int} {v7 : Int} {v1 : Option Nat}  (k : am_X (am_FV G (d + 1) Q) mX9_countSingles (0, 0) 73 [some (am_r (some 24)), some (am_r v1), none, some (am_i v3), some (am_i v4), some (am_i v5), some (am_i v6), some (am_i v7), some (am_i 0), none, none] [] (am_K0, σ)) : am_X (am_FV G (d + 1) Q) mX9_countSingles (0, 0) 70 [some (am_r (some 24)), some (am_r v1), none, some (am_i v3), some (am_i v4), some (am_i v5), some (am_i v6), some (am_i v7), none, none, none] [] (am_K0, σ) := by
  refine am_r_iconst (nx := 71) (show decode cX9_countSingles 70 = .ok (.iconst 0, 1) by decide +kernel) rfl ?_
  refine am_r_istore (nx := 73) (by decide) rfl (show decode cX9_countSingles 71 = .ok (.istore 8, 2) by decide +kernel) rfl ?_
  exact k
theorem S_X9_countSingles_73 {G : am_G} {d : Nat} {Q : am_D → Prop} {σ : am_D} {v3 : Int} {v4 : Int} {v5 : Int} {v6 : Int} {v7 : Int} {v8 : Int} {v1 : Option Nat} (hr1 : -2147483648 ≤ v7 ∧ v7 ≤ 2147483647) (k1 : v7 = (-1) → am_X (am_FV G (d + 1) Q) mX9_countSingles (0, 0) 163 [some (am_r (some 24)), some (am_r v1), none, some (am_i v3), some (am_i v4), some (am_i v5), some (am_i v6), none, none, none, none] [] (am_K0, σ)) (k2 : ¬ (v7 = (-1)) → am_X (am_FV G (d + 1) Q) mX9_countSingles (0, 0) 79 [some (am_r (some 24)), some (am_r v1), none, some (am_i v3), some (am_i v4), some (am_i v5), some (am_i v6), some (am_i v7), some (am_i v8), none, none] [] (am_K0, σ)) : am_X (am_FV G (d + 1) Q) mX9_countSingles (0, 0) 73 [some (am_r (some 24)), some (am_r v1), none, some (am_i v3), some (am_i v4), some (am_i v5), some (am_i v6), some (am_i v7), some (am_i v8), none, none] [] (am_K0, σ) := by
  refine am_r_iload (nx := 75) rfl (show decode cX9_countSingles 73 = .ok (.iload 7, 2) by decide +kernel) rfl ?_
  refine am_r_iconst (nx := 76) (show decode cX9_countSingles 75 = .ok (.iconst (-1), 1) by decide +kernel) rfl ?_
  refine am_r_icmp_eq (tg := 163) (nx := 79) (show decode cX9_countSingles 76 = .ok (.if_icmp .eq 87, 3) by decide +kernel) (by decide) rfl hr1 (by omega) ?_ ?_
  · exact fun q => am_x_fg [7, 8] (k1 q)
  · exact fun q => k2 q
theorem S_X9_countSingles_79 {G : am_G} {d : Nat} {Q : am_D → Prop} {σ : am_D} {v3 : Int} {v4 : Int} {v5 : Int} {v6 : Int} {v7 : Int} {v8 : Int} {v1 : Nat} (hc1 : am_isM v1) (hr2 : -2147483648 ≤ v8 ∧ v8 ≤ 2147483647) (hr3 : -2147483648 ≤ (σ.1 v1 0) ∧ (σ.1 v1 0) ≤ 2147483647) (k1 : (σ.1 v1 0) ≤ v8 → am_X (am_FV G (d + 1) Q) mX9_countSingles (0, 0) 163 [some (am_r (some 24)), some (am_r (some v1)), none, some (am_i v3), some (am_i v4), some (am_i v5), some (am_i v6), none, none, none, none] [] (am_K0, σ)) (k2 : ¬ ((σ.1 v1 0) ≤ v8) → am_X (am_FV G (d + 1) Q) mX9_countSingles (0, 0) 88 [some (am_r (some 24)), some (am_r (some v1)), none, some (am_i v3), some (am_i v4), some (am_i v5), some (am_i v6), some (am_i v7), some (am_i v8), none, none] [] (am_K0, σ)) : am_X (am_FV G (d + 1) Q) mX9_countSingles (0, 0) 79 [some (am_r (some 24)), some (am_r (some v1)), none, some (am_i v3), some (am_i v4), some (am_i v5), some (am_i v6), some (am_i v7), some (am_i v8), none, none] [] (am_K0, σ) := by
  refine am_r_iload (nx := 81) rfl (show decode cX9_countSingles 79 = .ok (.iload 8, 2) by decide +kernel) rfl ?_
  refine am_r_aload_n (nx := 82) rfl rfl (show decode cX9_countSingles 81 = .ok (.aload_n 1, 1) by decide +kernel) rfl ?_
  refine am_r_getI (nx := 85) 0 cw2 (by decide) rfl (Or.inr ⟨_, fl_X9_29⟩) (obM hc1) (show decode cX9_countSingles 82 = .ok (.getfield 29, 3) by decide +kernel) rfl ?_
  refine am_r_icmp_ge (tg := 163) (nx := 88) (show decode cX9_countSingles 85 = .ok (.if_icmp .ge 78, 3) by decide +kernel) (by decide) rfl hr2 hr3 ?_ ?_
  · exact fun q => am_x_fg [7, 8] (k1 q)
  · exact fun q => k2 q
theorem S_X9_countSingles_88 {G : am_G} {d : Nat} {Q : am_D → Prop} {σ : am_D} {v3 : Int} {v4 : Int} {v5 : Int} {v6 : Int} {v7 : Int} {v8 : Int} {v1 : Nat} {Q' : Int → am_D → Prop} (hc : am_MI G d mX2_lays [am_r (some v1), am_i v6, am_i v5] σ Q') (hc1 : am_isM v1) (k : ∀ (x : Int) (σ' : am_D), Q' x σ' → am_X (am_FV G (d + 1) Q) mX9_countSingles (0, 0) 97 [some (am_r (some 24)), some (am_r (some v1)), none, some (am_i v3), some (am_i v4), some (am_i v5), some (am_i v6), some (am_i v7), some (am_i v8), none, none] [am_i x, am_r (some v1)] (am_K0, σ')) : am_X (am_FV G (d + 1) Q) mX9_countSingles (0, 0) 88 [some (am_r (some 24)), some (am_r (some v1)), none, some (am_i v3), some (am_i v4), some (am_i v5), some (am_i v6), some (am_i v7), some (am_i v8), none, none] [] (am_K0, σ) := by
  refine am_r_aload_n (nx := 89) rfl rfl (show decode cX9_countSingles 88 = .ok (.aload_n 1, 1) by decide +kernel) rfl ?_
  refine am_r_aload_n (nx := 90) rfl rfl (show decode cX9_countSingles 89 = .ok (.aload_n 1, 1) by decide +kernel) rfl ?_
  refine am_r_iload (nx := 92) rfl (show decode cX9_countSingles 90 = .ok (.iload 6, 2) by decide +kernel) rfl ?_
  refine am_r_iload (nx := 94) rfl (show decode cX9_countSingles 92 = .ok (.iload 5, 2) by decide +kernel) rfl ?_
  refine am_r_callV (as := [am_i v6, am_i v5]) (st := [am_r (some v1)]) hc mb_X2_lays mv_X2_lays (Or.inl ml_X9_66) (obM hc1) (by omega) (r := (RX2, TX2, 16)) rfl rfl rfl rfl (Nat.le_of_ble_eq_true rfl) ⟨Nat.le_refl _, Nat.le_refl _⟩ ⟨Nat.le_refl _, Nat.le_refl _⟩ (show decode cX9_countSingles 94 = .ok (.invokevirtual 66, 3) by decide +kernel) ?_
  rintro _ _ ⟨x, σ', rfl, rfl, hq⟩ _
  exact (k x σ' hq)
theorem S_X9_countSingles_97 {G : am_G} {d : Nat} {Q : am_D → Prop} {σ : am_D} {v3 : Int} {v4 : Int} {v5 : Int} {v6 : Int} {v7 : Int} {v8 : Int} {s1 : Int} {s0 : Nat} {Q' : Int → am_D → Prop} {v1 : Option Nat} (hc : am_MI G d mX2_closesTo [am_r (some s0), am_i s1, am_i v8] σ Q') (hc1 : am_isM s0) (k : ∀ (x : Int) (σ' : am_D), Q' x σ' → am_X (am_FV G (d + 1) Q) mX9_countSingles (0, 0) 104 [some (am_r (some 24)), some (am_r v1), none, some (am_i v3), some (am_i v4), some (am_i v5), some (am_i v6), some (am_i v7), some (am_i v8), some (am_i x), none] [] (am_K0, σ')) : am_X (am_FV G (d + 1) Q) mX9_countSingles (0, 0) 97 [some (am_r (some 24)), some (am_r v1), none, some (am_i v3), some (am_i v4), some (am_i v5), some (am_i v6), some (am_i v7), some (am_i v8), none, none] [am_i s1, am_r (some s0)] (am_K0, σ) := by
  refine am_r_iload (nx := 99) rfl (show decode cX9_countSingles 97 = .ok (.iload 8, 2) by decide +kernel) rfl ?_
  refine am_r_callV (as := [am_i s1, am_i v8]) (st := []) hc mb_X2_closesTo mv_X2_closesTo (Or.inl ml_X9_69) (obM hc1) (by omega) (r := (RX2, TX2, 16)) rfl rfl rfl rfl (Nat.le_of_ble_eq_true rfl) ⟨Nat.le_refl _, Nat.le_refl _⟩ ⟨Nat.le_refl _, Nat.le_refl _⟩ (show decode cX9_countSingles 99 = .ok (.invokevirtual 69, 3) by decide +kernel) ?_
  rintro _ _ ⟨x, σ', rfl, rfl, hq⟩ _
  refine am_r_istore (nx := 104) (by decide) rfl (show decode cX9_countSingles 102 = .ok (.istore 9, 2) by decide +kernel) rfl ?_
  exact (k x σ' hq)
theorem S_X9_countSingles_104 {G : am_G} {d : Nat} {Q : am_D → Prop} {σ : am_D} {v3 : Int} {v4 : Int} {v5 : Int} {v6 : Int} {v7 : Int} {v8 : Int} {v9 : Int} {v1 : Option Nat} (hr1 : -2147483648 ≤ v9 ∧ v9 ≤ 2147483647) (k1 : v9 = (-1) → am_X (am_FV G (d + 1) Q) mX9_countSingles (0, 0) 157 [some (am_r (some 24)), some (am_r v1), none, some (am_i v3), some (am_i v4), some (am_i v5), some (am_i v6), some (am_i v7), some (am_i v8), none, none] [] (am_K0, σ)) (k2 : ¬ (v9 = (-1)) → am_X (am_FV G (d + 1) Q) mX9_countSingles (0, 0) 110 [some (am_r (some 24)), some (am_r v1), none, some (am_i v3), some (am_i v4), some (am_i v5), some (am_i v6), some (am_i v7), some (am_i v8), some (am_i v9), none] [] (am_K0, σ)) : am_X (am_FV G (d + 1) Q) mX9_countSingles (0, 0) 104 [some (am_r (some 24)), some (am_r v1), none, some (am_i v3), some (am_i v4), some (am_i v5), some (am_i v6), some (am_i v7), some (am_i v8), some (am_i v9), none] [] (am_K0, σ) := by
  refine am_r_iload (nx := 106) rfl (show decode cX9_countSingles 104 = .ok (.iload 9, 2) by decide +kernel) rfl ?_
  refine am_r_iconst (nx := 107) (show decode cX9_countSingles 106 = .ok (.iconst (-1), 1) by decide +kernel) rfl ?_
  refine am_r_icmp_eq (tg := 157) (nx := 110) (show decode cX9_countSingles 107 = .ok (.if_icmp .eq 50, 3) by decide +kernel) (by decide) rfl hr1 (by omega) ?_ ?_
  · exact fun q => am_x_fg [9] (k1 q)
  · exact fun q => k2 q
theorem S_X9_countSingles_110 {G : am_G} {d : Nat} {Q : am_D → Prop} {σ : am_D} {v3 : Int} {v4 : Int} {v5 : Int} {v6 : Int} {v7 : Int} {v8 : Int} {v9 : Int} {Q' : Int → am_D → Prop} {v1 : Option Nat} (hc : am_MI G d mX9_pair [am_i v5, am_i v9] σ Q') (k : ∀ (x : Int) (σ' : am_D), Q' x σ' → am_X (am_FV G (d + 1) Q) mX9_countSingles (0, 0) 118 [some (am_r (some 24)), some (am_r v1), none, some (am_i v3), some (am_i v4), some (am_i v5), some (am_i v6), some (am_i v7), some (am_i v8), none, none] [am_i x, am_i v3] (am_K0, σ')) : am_X (am_FV G (d + 1) Q) mX9_countSingles (0, 0) 110 [some (am_r (some 24)), some (am_r v1), none, some (am_i v3), some (am_i v4), some (am_i v5), some (am_i v6), some (am_i v7), some (am_i v8), some (am_i v9), none] [] (am_K0, σ) := by
  refine am_r_iload_n (nx := 111) rfl rfl (show decode cX9_countSingles 110 = .ok (.iload_n 3, 1) by decide +kernel) rfl ?_
  refine am_r_iload (nx := 113) rfl (show decode cX9_countSingles 111 = .ok (.iload 5, 2) by decide +kernel) rfl ?_
  refine am_r_iload (nx := 115) rfl (show decode cX9_countSingles 113 = .ok (.iload 9, 2) by decide +kernel) rfl ?_
  refine am_r_callS (as := [am_i v5, am_i v9]) (st := [am_i v3]) hc mb_X9_pair mv_X9_pair (Or.inl ml_X9_35) rfl rfl (Nat.le_of_ble_eq_true rfl) ⟨Nat.le_refl _, Nat.le_refl _⟩ ⟨Nat.le_refl _, Nat.le_refl _⟩ (show decode cX9_countSingles 115 = .ok (.invokestatic 35, 3) by decide +kernel) ?_
  rintro _ _ ⟨x, σ', rfl, rfl, hq⟩ _
  exact am_x_fg [9] (k x σ' hq)
theorem S_X9_countSingles_118 {G : am_G} {d : Nat} {Q : am_D → Prop} {σ : am_D} {v3 : Int} {v4 : Int} {v5 : Int} {v6 : Int} {v7 : Int} {v8 : Int} {s0 : Int} {s1 : Int} {v1 : Option Nat}  (k : am_X (am_FV G (d + 1) Q) mX9_countSingles (0, 0) 121 [some (am_r (some 24)), some (am_r v1), none, some (am_i v3), some (am_i v4), some (am_i v5), some (am_i v6), some (am_i v7), some (am_i v8), none, some (am_i (s0 + s1))] [] (am_K0, σ)) : am_X (am_FV G (d + 1) Q) mX9_countSingles (0, 0) 118 [some (am_r (some 24)), some (am_r v1), none, some (am_i v3), some (am_i v4), some (am_i v5), some (am_i v6), some (am_i v7), some (am_i v8), none, none] [am_i s1, am_i s0] (am_K0, σ) := by
  refine am_r_iadd (nx := 119) (show decode cX9_countSingles 118 = .ok (.iadd, 1) by decide +kernel) rfl ?_
  refine am_r_istore (nx := 121) (by decide) rfl (show decode cX9_countSingles 119 = .ok (.istore 10, 2) by decide +kernel) rfl ?_
  exact k
theorem S_X9_countSingles_121 {G : am_G} {d : Nat} {Q : am_D → Prop} {σ : am_D} {v3 : Int} {v4 : Int} {v5 : Int} {v6 : Int} {v7 : Int} {v8 : Int} {v10 : Int} {Q' : Int64 → am_D → Prop} {v1 : Option Nat} (hc : am_MJ G d mX9_at [am_r (some 26), am_i v10] σ Q') (k : ∀ (x : Int64) (σ' : am_D), Q' x σ' → am_X (am_FV G (d + 1) Q) mX9_countSingles (0, 0) 136 [some (am_r (some 24)), some (am_r v1), none, some (am_i v3), some (am_i v4), some (am_i v5), some (am_i v6), some (am_i v7), some (am_i v8), none, none] [am_l x, am_i v10, am_r (some 26)] (am_K0, σ')) : am_X (am_FV G (d + 1) Q) mX9_countSingles (0, 0) 121 [some (am_r (some 24)), some (am_r v1), none, some (am_i v3), some (am_i v4), some (am_i v5), some (am_i v6), some (am_i v7), some (am_i v8), none, some (am_i v10)] [] (am_K0, σ) := by
  refine am_r_aload_n (nx := 122) rfl rfl (show decode cX9_countSingles 121 = .ok (.aload_n 0, 1) by decide +kernel) rfl ?_
  refine am_r_getF (nx := 125) 1 cw9 (by decide) rfl (Or.inl fl_X9_15) (ob_24) (fn_24_1) (show decode cX9_countSingles 122 = .ok (.getfield 15, 3) by decide +kernel) rfl ?_
  refine am_r_iload (nx := 127) rfl (show decode cX9_countSingles 125 = .ok (.iload 10, 2) by decide +kernel) rfl ?_
  refine am_r_aload_n (nx := 128) rfl rfl (show decode cX9_countSingles 127 = .ok (.aload_n 0, 1) by decide +kernel) rfl ?_
  refine am_r_getF (nx := 131) 1 cw9 (by decide) rfl (Or.inl fl_X9_15) (ob_24) (fn_24_1) (show decode cX9_countSingles 128 = .ok (.getfield 15, 3) by decide +kernel) rfl ?_
  refine am_r_iload (nx := 133) rfl (show decode cX9_countSingles 131 = .ok (.iload 10, 2) by decide +kernel) rfl ?_
  refine am_r_callS (as := [am_r (some 26), am_i v10]) (st := [am_i v10, am_r (some 26)]) hc mb_X9_at mv_X9_at (Or.inl ml_X9_39) rfl rfl (Nat.le_of_ble_eq_true rfl) ⟨Nat.le_refl _, Nat.le_refl _⟩ ⟨Nat.le_refl _, Nat.le_refl _⟩ (show decode cX9_countSingles 133 = .ok (.invokestatic 39, 3) by decide +kernel) ?_
  rintro _ _ ⟨x, σ', rfl, rfl, hq⟩ _
  exact am_x_fg [10] (k x σ' hq)
theorem S_X9_countSingles_136 {G : am_G} {d : Nat} {Q : am_D → Prop} {σ : am_D} {v3 : Int} {v4 : Int} {v5 : Int} {v6 : Int} {v7 : Int} {v8 : Int} {s1 : Int} {s2 : Int64} {Q' : Int → am_D → Prop} {v1 : Option Nat} {s0 : Option Nat} (hc : am_MI G d mX9_pair [am_i v7, am_i v8] σ Q') (k : ∀ (x : Int) (σ' : am_D), Q' x σ' → am_X (am_FV G (d + 1) Q) mX9_countSingles (0, 0) 149 [some (am_r (some 24)), some (am_r v1), none, some (am_i v3), some (am_i v4), some (am_i v5), some (am_i v6), some (am_i v7), some (am_i v8), none, none] [am_i x, am_i v4, am_r (some 27), am_l s2, am_i s1, am_r s0] (am_K0, σ')) : am_X (am_FV G (d + 1) Q) mX9_countSingles (0, 0) 136 [some (am_r (some 24)), some (am_r v1), none, some (am_i v3), some (am_i v4), some (am_i v5), some (am_i v6), some (am_i v7), some (am_i v8), none, none] [am_l s2, am_i s1, am_r s0] (am_K0, σ) := by
  refine am_r_aload_n (nx := 137) rfl rfl (show decode cX9_countSingles 136 = .ok (.aload_n 0, 1) by decide +kernel) rfl ?_
  refine am_r_getF (nx := 140) 2 cw9 (by decide) rfl (Or.inl fl_X9_18) (ob_24) (fn_24_2) (show decode cX9_countSingles 137 = .ok (.getfield 18, 3) by decide +kernel) rfl ?_
  refine am_r_iload (nx := 142) rfl (show decode cX9_countSingles 140 = .ok (.iload 4, 2) by decide +kernel) rfl ?_
  refine am_r_iload (nx := 144) rfl (show decode cX9_countSingles 142 = .ok (.iload 7, 2) by decide +kernel) rfl ?_
  refine am_r_iload (nx := 146) rfl (show decode cX9_countSingles 144 = .ok (.iload 8, 2) by decide +kernel) rfl ?_
  refine am_r_callS (as := [am_i v7, am_i v8]) (st := [am_i v4, am_r (some 27), am_l s2, am_i s1, am_r s0]) hc mb_X9_pair mv_X9_pair (Or.inl ml_X9_35) rfl rfl (Nat.le_of_ble_eq_true rfl) ⟨Nat.le_refl _, Nat.le_refl _⟩ ⟨Nat.le_refl _, Nat.le_refl _⟩ (show decode cX9_countSingles 146 = .ok (.invokestatic 35, 3) by decide +kernel) ?_
  rintro _ _ ⟨x, σ', rfl, rfl, hq⟩ _
  exact (k x σ' hq)
theorem S_X9_countSingles_149 {G : am_G} {d : Nat} {Q : am_D → Prop} {σ : am_D} {v3 : Int} {v4 : Int} {v5 : Int} {v6 : Int} {v7 : Int} {v8 : Int} {s1 : Int} {s2 : Int64} {s4 : Int} {s5 : Int} {s3 : Option Nat} {Q' : Int64 → am_D → Prop} {v1 : Option Nat} {s0 : Option Nat} (hc : am_MJ G d mX9_at [am_r s3, am_i (s4 + s5)] σ Q') (k : ∀ (x : Int64) (σ' : am_D), Q' x σ' → am_X (am_FV G (d + 1) Q) mX9_countSingles (0, 0) 153 [some (am_r (some 24)), some (am_r v1), none, some (am_i v3), some (am_i v4), some (am_i v5), some (am_i v6), some (am_i v7), some (am_i v8), none, none] [am_l x, am_l s2, am_i s1, am_r s0] (am_K0, σ')) : am_X (am_FV G (d + 1) Q) mX9_countSingles (0, 0) 149 [some (am_r (some 24)), some (am_r v1), none, some (am_i v3), some (am_i v4), some (am_i v5), some (am_i v6), some (am_i v7), some (am_i v8), none, none] [am_i s5, am_i s4, am_r s3, am_l s2, am_i s1, am_r s0] (am_K0, σ) := by
  refine am_r_iadd (nx := 150) (show decode cX9_countSingles 149 = .ok (.iadd, 1) by decide +kernel) rfl ?_
  refine am_r_callS (as := [am_r s3, am_i (s4 + s5)]) (st := [am_l s2, am_i s1, am_r s0]) hc mb_X9_at mv_X9_at (Or.inl ml_X9_39) rfl rfl (Nat.le_of_ble_eq_true rfl) ⟨Nat.le_refl _, Nat.le_refl _⟩ ⟨Nat.le_refl _, Nat.le_refl _⟩ (show decode cX9_countSingles 150 = .ok (.invokestatic 39, 3) by decide +kernel) ?_
  rintro _ _ ⟨x, σ', rfl, rfl, hq⟩ _
  exact (k x σ' hq)
theorem S_X9_countSingles_153 {G : am_G} {d : Nat} {Q : am_D → Prop} {σ : am_D} {v3 : Int} {v4 : Int} {v5 : Int} {v6 : Int} {v7 : Int} {v8 : Int} {s1 : Int} {s2 : Int64} {s3 : Int64} {s0 : Option Nat} {Q' : am_D → Prop} {v1 : Option Nat} (hc : am_MV G d mX9_put [am_r s0, am_i s1, am_l (s2 + s3)] σ Q') (k : ∀ σ' : am_D, Q' σ' → am_X (am_FV G (d + 1) Q) mX9_countSingles (0, 0) 157 [some (am_r (some 24)), some (am_r v1), none, some (am_i v3), some (am_i v4), some (am_i v5), some (am_i v6), some (am_i v7), some (am_i v8), none, none] [] (am_K0, σ')) : am_X (am_FV G (d + 1) Q) mX9_countSingles (0, 0) 153 [some (am_r (some 24)), some (am_r v1), none, some (am_i v3), some (am_i v4), some (am_i v5), some (am_i v6), some (am_i v7), some (am_i v8), none, none] [am_l s3, am_l s2, am_i s1, am_r s0] (am_K0, σ) := by
  refine am_r_ladd (nx := 154) (show decode cX9_countSingles 153 = .ok (.ladd, 1) by decide +kernel) rfl ?_
  refine am_r_callS (as := [am_r s0, am_i s1, am_l (s2 + s3)]) (st := []) hc mb_X9_put mv_X9_put (Or.inl ml_X9_58) rfl rfl (Nat.le_of_ble_eq_true rfl) ⟨Nat.le_refl _, Nat.le_refl _⟩ ⟨Nat.le_refl _, Nat.le_refl _⟩ (show decode cX9_countSingles 154 = .ok (.invokestatic 58, 3) by decide +kernel) ?_
  rintro _ _ ⟨σ', rfl, rfl, hq⟩ _
  exact (k σ' hq)
theorem S_X9_countSingles_157 {G : am_G} {d : Nat} {Q : am_D → Prop} {σ : am_D} {v3 : Int} {v4 : Int} {v5 : Int} {v6 : Int} {v7 : Int} {v8 : Int} {v1 : Option Nat}  (k : am_X (am_FV G (d + 1) Q) mX9_countSingles (0, 0) 73 [some (am_r (some 24)), some (am_r v1), none, some (am_i v3), some (am_i v4), some (am_i v5), some (am_i v6), some (am_i v7), some (am_i (v8 + 1)), none, none] [] (am_K0, σ)) : am_X (am_FV G (d + 1) Q) mX9_countSingles (0, 0) 157 [some (am_r (some 24)), some (am_r v1), none, some (am_i v3), some (am_i v4), some (am_i v5), some (am_i v6), some (am_i v7), some (am_i v8), none, none] [] (am_K0, σ) := by
  refine am_r_iinc (nx := 160) rfl rfl (show decode cX9_countSingles 157 = .ok (.iinc 8 1, 3) by decide +kernel) rfl ?_
  refine am_r_goto (tg := 73) (show decode cX9_countSingles 160 = .ok (.goto (-87), 3) by decide +kernel) (by decide) ?_
  exact k
theorem S_X9_countSingles_163 {G : am_G} {d : Nat} {Q : am_D → Prop} {σ : am_D} {v3 : Int} {v4 : Int} {v5 : Int} {v6 : Int} {v1 : Option Nat}  (k : am_X (am_FV G (d + 1) Q) mX9_countSingles (0, 0) 54 [some (am_r (some 24)), some (am_r v1), none, some (am_i v3), some (am_i v4), some (am_i v5), some (am_i (v6 + 1)), none, none, none, none] [] (am_K0, σ)) : am_X (am_FV G (d + 1) Q) mX9_countSingles (0, 0) 163 [some (am_r (some 24)), some (am_r v1), none, some (am_i v3), some (am_i v4), some (am_i v5), some (am_i v6), none, none, none, none] [] (am_K0, σ) := by
  refine am_r_iinc (nx := 166) rfl rfl (show decode cX9_countSingles 163 = .ok (.iinc 6 1, 3) by decide +kernel) rfl ?_
  refine am_r_goto (tg := 54) (show decode cX9_countSingles 166 = .ok (.goto (-112), 3) by decide +kernel) (by decide) ?_
  exact k
theorem S_X9_countSingles_169 {G : am_G} {d : Nat} {Q : am_D → Prop} {σ : am_D} {v3 : Int} {v4 : Int} {v5 : Int} {v1 : Option Nat}  (k : am_X (am_FV G (d + 1) Q) mX9_countSingles (0, 0) 42 [some (am_r (some 24)), some (am_r v1), none, some (am_i v3), some (am_i v4), some (am_i (v5 + 1)), none, none, none, none, none] [] (am_K0, σ)) : am_X (am_FV G (d + 1) Q) mX9_countSingles (0, 0) 169 [some (am_r (some 24)), some (am_r v1), none, some (am_i v3), some (am_i v4), some (am_i v5), none, none, none, none, none] [] (am_K0, σ) := by
  refine am_r_iinc (nx := 172) rfl rfl (show decode cX9_countSingles 169 = .ok (.iinc 5 1, 3) by decide +kernel) rfl ?_
  refine am_r_goto (tg := 42) (show decode cX9_countSingles 172 = .ok (.goto (-130), 3) by decide +kernel) (by decide) ?_
  exact k
theorem S_X9_countSingles_175 {G : am_G} {d : Nat} {Q : am_D → Prop} {σ : am_D}   (k : Q σ) : am_X (am_FV G (d + 1) Q) mX9_countSingles (0, 0) 175 [none, none, none, none, none, none, none, none, none, none, none] [] (am_K0, σ) := by
  exact am_r_vret rfl (show decode cX9_countSingles 175 = .ok (.return_, 1) by decide +kernel) ⟨_, rfl, rfl, k⟩
theorem S_X9_countRows_0 {G : am_G} {d : Nat} {Q : am_D → Prop} {σ : am_D} {v2 : Int} {v3 : Int} {v1 : Option Nat}  (k : am_X (am_FV G (d + 1) Q) mX9_countRows (0, 0) 6 [some (am_r (some 24)), some (am_r v1), some (am_i v2), some (am_i v3), some (am_i (v2 * 36)), none, none, none, none, none, none, none] [] (am_K0, σ)) : am_X (am_FV G (d + 1) Q) mX9_countRows (0, 0) 0 [some (am_r (some 24)), some (am_r v1), some (am_i v2), some (am_i v3), none, none, none, none, none, none, none, none] [] (am_K0, σ) := by
  refine am_r_iload_n (nx := 1) rfl rfl (show decode cX9_countRows 0 = .ok (.iload_n 2, 1) by decide +kernel) rfl ?_
  refine am_r_bipush (nx := 3) rfl (show decode cX9_countRows 1 = .ok (.bipush 36, 2) by decide +kernel) rfl ?_
  refine am_r_imul (nx := 4) (show decode cX9_countRows 3 = .ok (.imul, 1) by decide +kernel) rfl ?_
  refine am_r_istore (nx := 6) (by decide) rfl (show decode cX9_countRows 4 = .ok (.istore 4, 2) by decide +kernel) rfl ?_
  exact k
theorem S_X9_countRows_6 {G : am_G} {d : Nat} {Q : am_D → Prop} {σ : am_D} {v2 : Int} {v3 : Int} {v4 : Int} {v1 : Option Nat}  (k : am_X (am_FV G (d + 1) Q) mX9_countRows (0, 0) 9 [some (am_r (some 24)), some (am_r v1), some (am_i v2), some (am_i v3), some (am_i v4), some (am_i 0), none, none, none, none, none, none] [] (am_K0, σ)) : am_X (am_FV G (d + 1) Q) mX9_countRows (0, 0) 6 [some (am_r (some 24)), some (am_r v1), some (am_i v2), some (am_i v3), some (am_i v4), none, none, none, none, none, none, none] [] (am_K0, σ) := by
  refine am_r_iconst (nx := 7) (show decode cX9_countRows 6 = .ok (.iconst 0, 1) by decide +kernel) rfl ?_
  refine am_r_istore (nx := 9) (by decide) rfl (show decode cX9_countRows 7 = .ok (.istore 5, 2) by decide +kernel) rfl ?_
  exact k
theorem S_X9_countRows_9 {G : am_G} {d : Nat} {Q : am_D → Prop} {σ : am_D} {v2 : Int} {v3 : Int} {v4 : Int} {v5 : Int} {v1 : Nat} (hc1 : am_isM v1) (hr2 : -2147483648 ≤ v5 ∧ v5 ≤ 2147483647) (hr3 : -2147483648 ≤ (σ.1 v1 0) ∧ (σ.1 v1 0) ≤ 2147483647) (k1 : (σ.1 v1 0) ≤ v5 → am_X (am_FV G (d + 1) Q) mX9_countRows (0, 0) 41 [some (am_r (some 24)), some (am_r (some v1)), some (am_i v2), some (am_i v3), some (am_i v4), none, none, none, none, none, none, none] [] (am_K0, σ)) (k2 : ¬ ((σ.1 v1 0) ≤ v5) → am_X (am_FV G (d + 1) Q) mX9_countRows (0, 0) 18 [some (am_r (some 24)), some (am_r (some v1)), some (am_i v2), some (am_i v3), some (am_i v4), some (am_i v5), none, none, none, none, none, none] [] (am_K0, σ)) : am_X (am_FV G (d + 1) Q) mX9_countRows (0, 0) 9 [some (am_r (some 24)), some (am_r (some v1)), some (am_i v2), some (am_i v3), some (am_i v4), some (am_i v5), none, none, none, none, none, none] [] (am_K0, σ) := by
  refine am_r_iload (nx := 11) rfl (show decode cX9_countRows 9 = .ok (.iload 5, 2) by decide +kernel) rfl ?_
  refine am_r_aload_n (nx := 12) rfl rfl (show decode cX9_countRows 11 = .ok (.aload_n 1, 1) by decide +kernel) rfl ?_
  refine am_r_getI (nx := 15) 0 cw2 (by decide) rfl (Or.inr ⟨_, fl_X9_29⟩) (obM hc1) (show decode cX9_countRows 12 = .ok (.getfield 29, 3) by decide +kernel) rfl ?_
  refine am_r_icmp_ge (tg := 41) (nx := 18) (show decode cX9_countRows 15 = .ok (.if_icmp .ge 26, 3) by decide +kernel) (by decide) rfl hr2 hr3 ?_ ?_
  · exact fun q => am_x_fg [5] (k1 q)
  · exact fun q => k2 q
theorem S_X9_countRows_18 {G : am_G} {d : Nat} {Q : am_D → Prop} {σ : am_D} {v2 : Int} {v3 : Int} {v4 : Int} {v5 : Int} {Q' : Int → am_D → Prop} {v1 : Option Nat} (hc : am_MI G d mX9_pair [am_i v3, am_i v5] σ Q') (k : ∀ (x : Int) (σ' : am_D), Q' x σ' → am_X (am_FV G (d + 1) Q) mX9_countRows (0, 0) 30 [some (am_r (some 24)), some (am_r v1), some (am_i v2), some (am_i v3), some (am_i v4), some (am_i v5), none, none, none, none, none, none] [am_i x, am_i v4, am_r (some 27)] (am_K0, σ')) : am_X (am_FV G (d + 1) Q) mX9_countRows (0, 0) 18 [some (am_r (some 24)), some (am_r v1), some (am_i v2), some (am_i v3), some (am_i v4), some (am_i v5), none, none, none, none, none, none] [] (am_K0, σ) := by
  refine am_r_aload_n (nx := 19) rfl rfl (show decode cX9_countRows 18 = .ok (.aload_n 0, 1) by decide +kernel) rfl ?_
  refine am_r_getF (nx := 22) 2 cw9 (by decide) rfl (Or.inl fl_X9_18) (ob_24) (fn_24_2) (show decode cX9_countRows 19 = .ok (.getfield 18, 3) by decide +kernel) rfl ?_
  refine am_r_iload (nx := 24) rfl (show decode cX9_countRows 22 = .ok (.iload 4, 2) by decide +kernel) rfl ?_
  refine am_r_iload_n (nx := 25) rfl rfl (show decode cX9_countRows 24 = .ok (.iload_n 3, 1) by decide +kernel) rfl ?_
  refine am_r_iload (nx := 27) rfl (show decode cX9_countRows 25 = .ok (.iload 5, 2) by decide +kernel) rfl ?_
  refine am_r_callS (as := [am_i v3, am_i v5]) (st := [am_i v4, am_r (some 27)]) hc mb_X9_pair mv_X9_pair (Or.inl ml_X9_35) rfl rfl (Nat.le_of_ble_eq_true rfl) ⟨Nat.le_refl _, Nat.le_refl _⟩ ⟨Nat.le_refl _, Nat.le_refl _⟩ (show decode cX9_countRows 27 = .ok (.invokestatic 35, 3) by decide +kernel) ?_
  rintro _ _ ⟨x, σ', rfl, rfl, hq⟩ _
  exact (k x σ' hq)
theorem S_X9_countRows_30 {G : am_G} {d : Nat} {Q : am_D → Prop} {σ : am_D} {v2 : Int} {v3 : Int} {v4 : Int} {v5 : Int} {s1 : Int} {s2 : Int} {s0 : Option Nat} {Q' : am_D → Prop} {v1 : Option Nat} (hc : am_MV G d mX9_put [am_r s0, am_i (s1 + s2), am_l 0] σ Q') (k : ∀ σ' : am_D, Q' σ' → am_X (am_FV G (d + 1) Q) mX9_countRows (0, 0) 35 [some (am_r (some 24)), some (am_r v1), some (am_i v2), some (am_i v3), some (am_i v4), some (am_i v5), none, none, none, none, none, none] [] (am_K0, σ')) : am_X (am_FV G (d + 1) Q) mX9_countRows (0, 0) 30 [some (am_r (some 24)), some (am_r v1), some (am_i v2), some (am_i v3), some (am_i v4), some (am_i v5), none, none, none, none, none, none] [am_i s2, am_i s1, am_r s0] (am_K0, σ) := by
  refine am_r_iadd (nx := 31) (show decode cX9_countRows 30 = .ok (.iadd, 1) by decide +kernel) rfl ?_
  refine am_r_lconst (nx := 32) (v := 0) rfl (show decode cX9_countRows 31 = .ok (.lconst 0, 1) by decide +kernel) rfl ?_
  refine am_r_callS (as := [am_r s0, am_i (s1 + s2), am_l 0]) (st := []) hc mb_X9_put mv_X9_put (Or.inl ml_X9_58) rfl rfl (Nat.le_of_ble_eq_true rfl) ⟨Nat.le_refl _, Nat.le_refl _⟩ ⟨Nat.le_refl _, Nat.le_refl _⟩ (show decode cX9_countRows 32 = .ok (.invokestatic 58, 3) by decide +kernel) ?_
  rintro _ _ ⟨σ', rfl, rfl, hq⟩ _
  exact (k σ' hq)
theorem S_X9_countRows_35 {G : am_G} {d : Nat} {Q : am_D → Prop} {σ : am_D} {v2 : Int} {v3 : Int} {v4 : Int} {v5 : Int} {v1 : Option Nat}  (k : am_X (am_FV G (d + 1) Q) mX9_countRows (0, 0) 9 [some (am_r (some 24)), some (am_r v1), some (am_i v2), some (am_i v3), some (am_i v4), some (am_i (v5 + 1)), none, none, none, none, none, none] [] (am_K0, σ)) : am_X (am_FV G (d + 1) Q) mX9_countRows (0, 0) 35 [some (am_r (some 24)), some (am_r v1), some (am_i v2), some (am_i v3), some (am_i v4), some (am_i v5), none, none, none, none, none, none] [] (am_K0, σ) := by
  refine am_r_iinc (nx := 38) rfl rfl (show decode cX9_countRows 35 = .ok (.iinc 5 1, 3) by decide +kernel) rfl ?_
  refine am_r_goto (tg := 9) (show decode cX9_countRows 38 = .ok (.goto (-29), 3) by decide +kernel) (by decide) ?_
  exact k
theorem S_X9_countRows_41 {G : am_G} {d : Nat} {Q : am_D → Prop} {σ : am_D} {v2 : Int} {v3 : Int} {v4 : Int} {v1 : Option Nat}  (k : am_X (am_FV G (d + 1) Q) mX9_countRows (0, 0) 44 [some (am_r (some 24)), some (am_r v1), some (am_i v2), some (am_i v3), some (am_i v4), some (am_i 1), none, none, none, none, none, none] [] (am_K0, σ)) : am_X (am_FV G (d + 1) Q) mX9_countRows (0, 0) 41 [some (am_r (some 24)), some (am_r v1), some (am_i v2), some (am_i v3), some (am_i v4), none, none, none, none, none, none, none] [] (am_K0, σ) := by
  refine am_r_iconst (nx := 42) (show decode cX9_countRows 41 = .ok (.iconst 1, 1) by decide +kernel) rfl ?_
  refine am_r_istore (nx := 44) (by decide) rfl (show decode cX9_countRows 42 = .ok (.istore 5, 2) by decide +kernel) rfl ?_
  exact k
theorem S_X9_countRows_44 {G : am_G} {d : Nat} {Q : am_D → Prop} {σ : am_D} {v2 : Int} {v3 : Int} {v4 : Int} {v5 : Int} {v1 : Option Nat} (hr1 : -2147483648 ≤ v5 ∧ v5 ≤ 2147483647) (hr2 : -2147483648 ≤ v2 ∧ v2 ≤ 2147483647) (k1 : v2 < v5 → am_X (am_FV G (d + 1) Q) mX9_countRows (0, 0) 179 [none, none, none, none, none, none, none, none, none, none, none, none] [] (am_K0, σ)) (k2 : ¬ (v2 < v5) → am_X (am_FV G (d + 1) Q) mX9_countRows (0, 0) 50 [some (am_r (some 24)), some (am_r v1), some (am_i v2), some (am_i v3), some (am_i v4), some (am_i v5), none, none, none, none, none, none] [] (am_K0, σ)) : am_X (am_FV G (d + 1) Q) mX9_countRows (0, 0) 44 [some (am_r (some 24)), some (am_r v1), some (am_i v2), some (am_i v3), some (am_i v4), some (am_i v5), none, none, none, none, none, none] [] (am_K0, σ) := by
  refine am_r_iload (nx := 46) rfl (show decode cX9_countRows 44 = .ok (.iload 5, 2) by decide +kernel) rfl ?_
  refine am_r_iload_n (nx := 47) rfl rfl (show decode cX9_countRows 46 = .ok (.iload_n 2, 1) by decide +kernel) rfl ?_
  refine am_r_icmp_gt (tg := 179) (nx := 50) (show decode cX9_countRows 47 = .ok (.if_icmp .gt 132, 3) by decide +kernel) (by decide) rfl hr1 hr2 ?_ ?_
  · exact fun q => am_x_fg [0, 1, 2, 3, 4, 5] (k1 q)
  · exact fun q => k2 q
theorem S_X9_countRows_50 {G : am_G} {d : Nat} {Q : am_D → Prop} {σ : am_D} {v2 : Int} {v3 : Int} {v4 : Int} {v5 : Int} {v1 : Option Nat}  (k : am_X (am_FV G (d + 1) Q) mX9_countRows (0, 0) 59 [some (am_r (some 24)), some (am_r v1), some (am_i v2), some (am_i v3), some (am_i v4), some (am_i v5), some (am_i ((v2 - v5) * 36)), none, none, none, none, none] [] (am_K0, σ)) : am_X (am_FV G (d + 1) Q) mX9_countRows (0, 0) 50 [some (am_r (some 24)), some (am_r v1), some (am_i v2), some (am_i v3), some (am_i v4), some (am_i v5), none, none, none, none, none, none] [] (am_K0, σ) := by
  refine am_r_iload_n (nx := 51) rfl rfl (show decode cX9_countRows 50 = .ok (.iload_n 2, 1) by decide +kernel) rfl ?_
  refine am_r_iload (nx := 53) rfl (show decode cX9_countRows 51 = .ok (.iload 5, 2) by decide +kernel) rfl ?_
  refine am_r_isub (nx := 54) (show decode cX9_countRows 53 = .ok (.isub, 1) by decide +kernel) rfl ?_
  refine am_r_bipush (nx := 56) rfl (show decode cX9_countRows 54 = .ok (.bipush 36, 2) by decide +kernel) rfl ?_
  refine am_r_imul (nx := 57) (show decode cX9_countRows 56 = .ok (.imul, 1) by decide +kernel) rfl ?_
  refine am_r_istore (nx := 59) (by decide) rfl (show decode cX9_countRows 57 = .ok (.istore 6, 2) by decide +kernel) rfl ?_
  exact k
theorem S_X9_countRows_59 {G : am_G} {d : Nat} {Q : am_D → Prop} {σ : am_D} {v2 : Int} {v3 : Int} {v4 : Int} {v5 : Int} {v6 : Int} {v1 : Option Nat}  (k : am_X (am_FV G (d + 1) Q) mX9_countRows (0, 0) 62 [some (am_r (some 24)), some (am_r v1), some (am_i v2), some (am_i v3), some (am_i v4), some (am_i v5), some (am_i v6), some (am_i 0), none, none, none, none] [] (am_K0, σ)) : am_X (am_FV G (d + 1) Q) mX9_countRows (0, 0) 59 [some (am_r (some 24)), some (am_r v1), some (am_i v2), some (am_i v3), some (am_i v4), some (am_i v5), some (am_i v6), none, none, none, none, none] [] (am_K0, σ) := by
  refine am_r_iconst (nx := 60) (show decode cX9_countRows 59 = .ok (.iconst 0, 1) by decide +kernel) rfl ?_
  refine am_r_istore (nx := 62) (by decide) rfl (show decode cX9_countRows 60 = .ok (.istore 7, 2) by decide +kernel) rfl ?_
  exact k
theorem S_X9_countRows_62 {G : am_G} {d : Nat} {Q : am_D → Prop} {σ : am_D} {v2 : Int} {v3 : Int} {v4 : Int} {v5 : Int} {v6 : Int} {v7 : Int} {v1 : Nat} (hc1 : am_isM v1) (hr2 : -2147483648 ≤ v7 ∧ v7 ≤ 2147483647) (hr3 : -2147483648 ≤ (σ.1 v1 0) ∧ (σ.1 v1 0) ≤ 2147483647) (k1 : (σ.1 v1 0) ≤ v7 → am_X (am_FV G (d + 1) Q) mX9_countRows (0, 0) 173 [some (am_r (some 24)), some (am_r (some v1)), some (am_i v2), some (am_i v3), some (am_i v4), some (am_i v5), none, none, none, none, none, none] [] (am_K0, σ)) (k2 : ¬ ((σ.1 v1 0) ≤ v7) → am_X (am_FV G (d + 1) Q) mX9_countRows (0, 0) 71 [some (am_r (some 24)), some (am_r (some v1)), some (am_i v2), some (am_i v3), some (am_i v4), some (am_i v5), some (am_i v6), some (am_i v7), none, none, none, none] [] (am_K0, σ)) : am_X (am_FV G (d + 1) Q) mX9_countRows (0, 0) 62 [some (am_r (some 24)), some (am_r (some v1)), some (am_i v2), some (am_i v3), some (am_i v4), some (am_i v5), some (am_i v6), some (am_i v7), none, none, none, none] [] (am_K0, σ) := by
  refine am_r_iload (nx := 64) rfl (show decode cX9_countRows 62 = .ok (.iload 7, 2) by decide +kernel) rfl ?_
  refine am_r_aload_n (nx := 65) rfl rfl (show decode cX9_countRows 64 = .ok (.aload_n 1, 1) by decide +kernel) rfl ?_
  refine am_r_getI (nx := 68) 0 cw2 (by decide) rfl (Or.inr ⟨_, fl_X9_29⟩) (obM hc1) (show decode cX9_countRows 65 = .ok (.getfield 29, 3) by decide +kernel) rfl ?_
  refine am_r_icmp_ge (tg := 173) (nx := 71) (show decode cX9_countRows 68 = .ok (.if_icmp .ge 105, 3) by decide +kernel) (by decide) rfl hr2 hr3 ?_ ?_
  · exact fun q => am_x_fg [6, 7] (k1 q)
  · exact fun q => k2 q
theorem S_X9_countRows_71 {G : am_G} {d : Nat} {Q : am_D → Prop} {σ : am_D} {v2 : Int} {v3 : Int} {v4 : Int} {v5 : Int} {v6 : Int} {v7 : Int} {Q' : Int → am_D → Prop} {v1 : Option Nat} (hc : am_MI G d mX9_pair [am_i v3, am_i v7] σ Q') (k : ∀ (x : Int) (σ' : am_D), Q' x σ' → am_X (am_FV G (d + 1) Q) mX9_countRows (0, 0) 86 [some (am_r (some 24)), some (am_r v1), some (am_i v2), some (am_i v3), some (am_i v4), some (am_i v5), some (am_i v6), some (am_i v7), none, none, none, none] [am_i x, am_i (v5 * 36), am_r (some 26)] (am_K0, σ')) : am_X (am_FV G (d + 1) Q) mX9_countRows (0, 0) 71 [some (am_r (some 24)), some (am_r v1), some (am_i v2), some (am_i v3), some (am_i v4), some (am_i v5), some (am_i v6), some (am_i v7), none, none, none, none] [] (am_K0, σ) := by
  refine am_r_aload_n (nx := 72) rfl rfl (show decode cX9_countRows 71 = .ok (.aload_n 0, 1) by decide +kernel) rfl ?_
  refine am_r_getF (nx := 75) 1 cw9 (by decide) rfl (Or.inl fl_X9_15) (ob_24) (fn_24_1) (show decode cX9_countRows 72 = .ok (.getfield 15, 3) by decide +kernel) rfl ?_
  refine am_r_iload (nx := 77) rfl (show decode cX9_countRows 75 = .ok (.iload 5, 2) by decide +kernel) rfl ?_
  refine am_r_bipush (nx := 79) rfl (show decode cX9_countRows 77 = .ok (.bipush 36, 2) by decide +kernel) rfl ?_
  refine am_r_imul (nx := 80) (show decode cX9_countRows 79 = .ok (.imul, 1) by decide +kernel) rfl ?_
  refine am_r_iload_n (nx := 81) rfl rfl (show decode cX9_countRows 80 = .ok (.iload_n 3, 1) by decide +kernel) rfl ?_
  refine am_r_iload (nx := 83) rfl (show decode cX9_countRows 81 = .ok (.iload 7, 2) by decide +kernel) rfl ?_
  refine am_r_callS (as := [am_i v3, am_i v7]) (st := [am_i (v5 * 36), am_r (some 26)]) hc mb_X9_pair mv_X9_pair (Or.inl ml_X9_35) rfl rfl (Nat.le_of_ble_eq_true rfl) ⟨Nat.le_refl _, Nat.le_refl _⟩ ⟨Nat.le_refl _, Nat.le_refl _⟩ (show decode cX9_countRows 83 = .ok (.invokestatic 35, 3) by decide +kernel) ?_
  rintro _ _ ⟨x, σ', rfl, rfl, hq⟩ _
  exact (k x σ' hq)
theorem S_X9_countRows_86 {G : am_G} {d : Nat} {Q : am_D → Prop} {σ : am_D} {v2 : Int} {v3 : Int} {v4 : Int} {v5 : Int} {v6 : Int} {v7 : Int} {s1 : Int} {s2 : Int} {s0 : Option Nat} {Q' : Int64 → am_D → Prop} {v1 : Option Nat} (hc : am_MJ G d mX9_at [am_r s0, am_i (s1 + s2)] σ Q') (k : ∀ (x : Int64) (σ' : am_D), Q' x σ' → am_X (am_FV G (d + 1) Q) mX9_countRows (0, 0) 92 [some (am_r (some 24)), some (am_r v1), some (am_i v2), some (am_i v3), some (am_i v4), some (am_i v5), some (am_i v6), some (am_i v7), some (am_l x), none, none, none] [] (am_K0, σ')) : am_X (am_FV G (d + 1) Q) mX9_countRows (0, 0) 86 [some (am_r (some 24)), some (am_r v1), some (am_i v2), some (am_i v3), some (am_i v4), some (am_i v5), some (am_i v6), some (am_i v7), none, none, none, none] [am_i s2, am_i s1, am_r s0] (am_K0, σ) := by
  refine am_r_iadd (nx := 87) (show decode cX9_countRows 86 = .ok (.iadd, 1) by decide +kernel) rfl ?_
  refine am_r_callS (as := [am_r s0, am_i (s1 + s2)]) (st := []) hc mb_X9_at mv_X9_at (Or.inl ml_X9_39) rfl rfl (Nat.le_of_ble_eq_true rfl) ⟨Nat.le_refl _, Nat.le_refl _⟩ ⟨Nat.le_refl _, Nat.le_refl _⟩ (show decode cX9_countRows 87 = .ok (.invokestatic 39, 3) by decide +kernel) ?_
  rintro _ _ ⟨x, σ', rfl, rfl, hq⟩ _
  refine am_r_lstore (nx := 92) (by decide) rfl (show decode cX9_countRows 90 = .ok (.lstore 8, 2) by decide +kernel) rfl ?_
  exact (k x σ' hq)
theorem S_X9_countRows_92 {G : am_G} {d : Nat} {Q : am_D → Prop} {σ : am_D} {v2 : Int} {v3 : Int} {v4 : Int} {v5 : Int} {v6 : Int} {v7 : Int} {v8 : Int64} {v1 : Option Nat}  (k : am_X (am_FV G (d + 1) Q) mX9_countRows (0, 0) 95 [some (am_r (some 24)), some (am_r v1), some (am_i v2), some (am_i v3), some (am_i v4), some (am_i v5), some (am_i v6), some (am_i v7), some (am_l v8), none, some (am_i 0), none] [] (am_K0, σ)) : am_X (am_FV G (d + 1) Q) mX9_countRows (0, 0) 92 [some (am_r (some 24)), some (am_r v1), some (am_i v2), some (am_i v3), some (am_i v4), some (am_i v5), some (am_i v6), some (am_i v7), some (am_l v8), none, none, none] [] (am_K0, σ) := by
  refine am_r_iconst (nx := 93) (show decode cX9_countRows 92 = .ok (.iconst 0, 1) by decide +kernel) rfl ?_
  refine am_r_istore (nx := 95) (by decide) rfl (show decode cX9_countRows 93 = .ok (.istore 10, 2) by decide +kernel) rfl ?_
  exact k
theorem S_X9_countRows_95 {G : am_G} {d : Nat} {Q : am_D → Prop} {σ : am_D} {v2 : Int} {v3 : Int} {v4 : Int} {v5 : Int} {v6 : Int} {v7 : Int} {v8 : Int64} {v10 : Int} {v1 : Option Nat}  (k1 : (am_lcmp v8 0) = 0 → am_X (am_FV G (d + 1) Q) mX9_countRows (0, 0) 167 [some (am_r (some 24)), some (am_r v1), some (am_i v2), some (am_i v3), some (am_i v4), some (am_i v5), some (am_i v6), some (am_i v7), none, none, none, none] [] (am_K0, σ)) (k2 : ¬ ((am_lcmp v8 0) = 0) → am_X (am_FV G (d + 1) Q) mX9_countRows (0, 0) 102 [some (am_r (some 24)), some (am_r v1), some (am_i v2), some (am_i v3), some (am_i v4), some (am_i v5), some (am_i v6), some (am_i v7), some (am_l v8), none, some (am_i v10), none] [] (am_K0, σ)) : am_X (am_FV G (d + 1) Q) mX9_countRows (0, 0) 95 [some (am_r (some 24)), some (am_r v1), some (am_i v2), some (am_i v3), some (am_i v4), some (am_i v5), some (am_i v6), some (am_i v7), some (am_l v8), none, some (am_i v10), none] [] (am_K0, σ) := by
  refine am_r_lload (nx := 97) rfl (show decode cX9_countRows 95 = .ok (.lload 8, 2) by decide +kernel) rfl ?_
  refine am_r_lconst (nx := 98) (v := 0) rfl (show decode cX9_countRows 97 = .ok (.lconst 0, 1) by decide +kernel) rfl ?_
  refine am_r_lcmp (nx := 99) (show decode cX9_countRows 98 = .ok (.lcmp, 1) by decide +kernel) rfl ?_
  refine am_r_if_eq (tg := 167) (nx := 102) (show decode cX9_countRows 99 = .ok (.ifCond .eq 68, 3) by decide +kernel) (by decide) rfl (am_lcmp_rg _ _) ?_ ?_
  · exact fun q => am_x_fg [8, 10] (k1 q)
  · exact fun q => k2 q
theorem S_X9_countRows_102 {G : am_G} {d : Nat} {Q : am_D → Prop} {σ : am_D} {v2 : Int} {v3 : Int} {v4 : Int} {v5 : Int} {v6 : Int} {v7 : Int} {v8 : Int64} {v10 : Int} {v1 : Nat} (hc1 : am_isM v1) (hr2 : -2147483648 ≤ v10 ∧ v10 ≤ 2147483647) (hr3 : -2147483648 ≤ (σ.1 v1 0) ∧ (σ.1 v1 0) ≤ 2147483647) (k1 : (σ.1 v1 0) ≤ v10 → am_X (am_FV G (d + 1) Q) mX9_countRows (0, 0) 167 [some (am_r (some 24)), some (am_r (some v1)), some (am_i v2), some (am_i v3), some (am_i v4), some (am_i v5), some (am_i v6), some (am_i v7), none, none, none, none] [] (am_K0, σ)) (k2 : ¬ ((σ.1 v1 0) ≤ v10) → am_X (am_FV G (d + 1) Q) mX9_countRows (0, 0) 111 [some (am_r (some 24)), some (am_r (some v1)), some (am_i v2), some (am_i v3), some (am_i v4), some (am_i v5), some (am_i v6), some (am_i v7), some (am_l v8), none, some (am_i v10), none] [] (am_K0, σ)) : am_X (am_FV G (d + 1) Q) mX9_countRows (0, 0) 102 [some (am_r (some 24)), some (am_r (some v1)), some (am_i v2), some (am_i v3), some (am_i v4), some (am_i v5), some (am_i v6), some (am_i v7), some (am_l v8), none, some (am_i v10), none] [] (am_K0, σ) := by
  refine am_r_iload (nx := 104) rfl (show decode cX9_countRows 102 = .ok (.iload 10, 2) by decide +kernel) rfl ?_
  refine am_r_aload_n (nx := 105) rfl rfl (show decode cX9_countRows 104 = .ok (.aload_n 1, 1) by decide +kernel) rfl ?_
  refine am_r_getI (nx := 108) 0 cw2 (by decide) rfl (Or.inr ⟨_, fl_X9_29⟩) (obM hc1) (show decode cX9_countRows 105 = .ok (.getfield 29, 3) by decide +kernel) rfl ?_
  refine am_r_icmp_ge (tg := 167) (nx := 111) (show decode cX9_countRows 108 = .ok (.if_icmp .ge 59, 3) by decide +kernel) (by decide) rfl hr2 hr3 ?_ ?_
  · exact fun q => am_x_fg [8, 10] (k1 q)
  · exact fun q => k2 q
theorem S_X9_countRows_111 {G : am_G} {d : Nat} {Q : am_D → Prop} {σ : am_D} {v2 : Int} {v3 : Int} {v4 : Int} {v5 : Int} {v6 : Int} {v7 : Int} {v8 : Int64} {v10 : Int} {Q' : Int → am_D → Prop} {v1 : Option Nat} (hc : am_MI G d mX9_pair [am_i v3, am_i v10] σ Q') (k : ∀ (x : Int) (σ' : am_D), Q' x σ' → am_X (am_FV G (d + 1) Q) mX9_countRows (0, 0) 119 [some (am_r (some 24)), some (am_r v1), some (am_i v2), some (am_i v3), some (am_i v4), some (am_i v5), some (am_i v6), some (am_i v7), some (am_l v8), none, some (am_i v10), none] [am_i x, am_i v4] (am_K0, σ')) : am_X (am_FV G (d + 1) Q) mX9_countRows (0, 0) 111 [some (am_r (some 24)), some (am_r v1), some (am_i v2), some (am_i v3), some (am_i v4), some (am_i v5), some (am_i v6), some (am_i v7), some (am_l v8), none, some (am_i v10), none] [] (am_K0, σ) := by
  refine am_r_iload (nx := 113) rfl (show decode cX9_countRows 111 = .ok (.iload 4, 2) by decide +kernel) rfl ?_
  refine am_r_iload_n (nx := 114) rfl rfl (show decode cX9_countRows 113 = .ok (.iload_n 3, 1) by decide +kernel) rfl ?_
  refine am_r_iload (nx := 116) rfl (show decode cX9_countRows 114 = .ok (.iload 10, 2) by decide +kernel) rfl ?_
  refine am_r_callS (as := [am_i v3, am_i v10]) (st := [am_i v4]) hc mb_X9_pair mv_X9_pair (Or.inl ml_X9_35) rfl rfl (Nat.le_of_ble_eq_true rfl) ⟨Nat.le_refl _, Nat.le_refl _⟩ ⟨Nat.le_refl _, Nat.le_refl _⟩ (show decode cX9_countRows 116 = .ok (.invokestatic 35, 3) by decide +kernel) ?_
  rintro _ _ ⟨x, σ', rfl, rfl, hq⟩ _
  exact (k x σ' hq)
theorem S_X9_countRows_119 {G : am_G} {d : Nat} {Q : am_D → Prop} {σ : am_D} {v2 : Int} {v3 : Int} {v4 : Int} {v5 : Int} {v6 : Int} {v7 : Int} {v8 : Int64} {v10 : Int} {s0 : Int} {s1 : Int} {v1 : Option Nat}  (k : am_X (am_FV G (d + 1) Q) mX9_countRows (0, 0) 122 [some (am_r (some 24)), some (am_r v1), some (am_i v2), some (am_i v3), some (am_i v4), some (am_i v5), some (am_i v6), some (am_i v7), some (am_l v8), none, some (am_i v10), some (am_i (s0 + s1))] [] (am_K0, σ)) : am_X (am_FV G (d + 1) Q) mX9_countRows (0, 0) 119 [some (am_r (some 24)), some (am_r v1), some (am_i v2), some (am_i v3), some (am_i v4), some (am_i v5), some (am_i v6), some (am_i v7), some (am_l v8), none, some (am_i v10), none] [am_i s1, am_i s0] (am_K0, σ) := by
  refine am_r_iadd (nx := 120) (show decode cX9_countRows 119 = .ok (.iadd, 1) by decide +kernel) rfl ?_
  refine am_r_istore (nx := 122) (by decide) rfl (show decode cX9_countRows 120 = .ok (.istore 11, 2) by decide +kernel) rfl ?_
  exact k
theorem S_X9_countRows_122 {G : am_G} {d : Nat} {Q : am_D → Prop} {σ : am_D} {v2 : Int} {v3 : Int} {v4 : Int} {v5 : Int} {v6 : Int} {v7 : Int} {v8 : Int64} {v10 : Int} {v11 : Int} {Q' : Int64 → am_D → Prop} {v1 : Option Nat} (hc : am_MJ G d mX9_at [am_r (some 27), am_i v11] σ Q') (k : ∀ (x : Int64) (σ' : am_D), Q' x σ' → am_X (am_FV G (d + 1) Q) mX9_countRows (0, 0) 137 [some (am_r (some 24)), some (am_r v1), some (am_i v2), some (am_i v3), some (am_i v4), some (am_i v5), some (am_i v6), some (am_i v7), some (am_l v8), none, some (am_i v10), none] [am_l x, am_i v11, am_r (some 27)] (am_K0, σ')) : am_X (am_FV G (d + 1) Q) mX9_countRows (0, 0) 122 [some (am_r (some 24)), some (am_r v1), some (am_i v2), some (am_i v3), some (am_i v4), some (am_i v5), some (am_i v6), some (am_i v7), some (am_l v8), none, some (am_i v10), some (am_i v11)] [] (am_K0, σ) := by
  refine am_r_aload_n (nx := 123) rfl rfl (show decode cX9_countRows 122 = .ok (.aload_n 0, 1) by decide +kernel) rfl ?_
  refine am_r_getF (nx := 126) 2 cw9 (by decide) rfl (Or.inl fl_X9_18) (ob_24) (fn_24_2) (show decode cX9_countRows 123 = .ok (.getfield 18, 3) by decide +kernel) rfl ?_
  refine am_r_iload (nx := 128) rfl (show decode cX9_countRows 126 = .ok (.iload 11, 2) by decide +kernel) rfl ?_
  refine am_r_aload_n (nx := 129) rfl rfl (show decode cX9_countRows 128 = .ok (.aload_n 0, 1) by decide +kernel) rfl ?_
  refine am_r_getF (nx := 132) 2 cw9 (by decide) rfl (Or.inl fl_X9_18) (ob_24) (fn_24_2) (show decode cX9_countRows 129 = .ok (.getfield 18, 3) by decide +kernel) rfl ?_
  refine am_r_iload (nx := 134) rfl (show decode cX9_countRows 132 = .ok (.iload 11, 2) by decide +kernel) rfl ?_
  refine am_r_callS (as := [am_r (some 27), am_i v11]) (st := [am_i v11, am_r (some 27)]) hc mb_X9_at mv_X9_at (Or.inl ml_X9_39) rfl rfl (Nat.le_of_ble_eq_true rfl) ⟨Nat.le_refl _, Nat.le_refl _⟩ ⟨Nat.le_refl _, Nat.le_refl _⟩ (show decode cX9_countRows 134 = .ok (.invokestatic 39, 3) by decide +kernel) ?_
  rintro _ _ ⟨x, σ', rfl, rfl, hq⟩ _
  exact am_x_fg [11] (k x σ' hq)
theorem S_X9_countRows_137 {G : am_G} {d : Nat} {Q : am_D → Prop} {σ : am_D} {v2 : Int} {v3 : Int} {v4 : Int} {v5 : Int} {v6 : Int} {v7 : Int} {v8 : Int64} {v10 : Int} {s1 : Int} {s2 : Int64} {Q' : Int → am_D → Prop} {v1 : Option Nat} {s0 : Option Nat} (hc : am_MI G d mX9_pair [am_i v7, am_i v10] σ Q') (k : ∀ (x : Int) (σ' : am_D), Q' x σ' → am_X (am_FV G (d + 1) Q) mX9_countRows (0, 0) 152 [some (am_r (some 24)), some (am_r v1), some (am_i v2), some (am_i v3), some (am_i v4), some (am_i v5), some (am_i v6), some (am_i v7), some (am_l v8), none, some (am_i v10), none] [am_i x, am_i v6, am_r (some 27), am_l v8, am_l s2, am_i s1, am_r s0] (am_K0, σ')) : am_X (am_FV G (d + 1) Q) mX9_countRows (0, 0) 137 [some (am_r (some 24)), some (am_r v1), some (am_i v2), some (am_i v3), some (am_i v4), some (am_i v5), some (am_i v6), some (am_i v7), some (am_l v8), none, some (am_i v10), none] [am_l s2, am_i s1, am_r s0] (am_K0, σ) := by
  refine am_r_lload (nx := 139) rfl (show decode cX9_countRows 137 = .ok (.lload 8, 2) by decide +kernel) rfl ?_
  refine am_r_aload_n (nx := 140) rfl rfl (show decode cX9_countRows 139 = .ok (.aload_n 0, 1) by decide +kernel) rfl ?_
  refine am_r_getF (nx := 143) 2 cw9 (by decide) rfl (Or.inl fl_X9_18) (ob_24) (fn_24_2) (show decode cX9_countRows 140 = .ok (.getfield 18, 3) by decide +kernel) rfl ?_
  refine am_r_iload (nx := 145) rfl (show decode cX9_countRows 143 = .ok (.iload 6, 2) by decide +kernel) rfl ?_
  refine am_r_iload (nx := 147) rfl (show decode cX9_countRows 145 = .ok (.iload 7, 2) by decide +kernel) rfl ?_
  refine am_r_iload (nx := 149) rfl (show decode cX9_countRows 147 = .ok (.iload 10, 2) by decide +kernel) rfl ?_
  refine am_r_callS (as := [am_i v7, am_i v10]) (st := [am_i v6, am_r (some 27), am_l v8, am_l s2, am_i s1, am_r s0]) hc mb_X9_pair mv_X9_pair (Or.inl ml_X9_35) rfl rfl (Nat.le_of_ble_eq_true rfl) ⟨Nat.le_refl _, Nat.le_refl _⟩ ⟨Nat.le_refl _, Nat.le_refl _⟩ (show decode cX9_countRows 149 = .ok (.invokestatic 35, 3) by decide +kernel) ?_
  rintro _ _ ⟨x, σ', rfl, rfl, hq⟩ _
  exact (k x σ' hq)
theorem S_X9_countRows_152 {G : am_G} {d : Nat} {Q : am_D → Prop} {σ : am_D} {v2 : Int} {v3 : Int} {v4 : Int} {v5 : Int} {v6 : Int} {v7 : Int} {v8 : Int64} {v10 : Int} {s1 : Int} {s2 : Int64} {s3 : Int64} {s5 : Int} {s6 : Int} {s4 : Option Nat} {Q' : Int64 → am_D → Prop} {v1 : Option Nat} {s0 : Option Nat} (hc : am_MJ G d mX9_at [am_r s4, am_i (s5 + s6)] σ Q') (k : ∀ (x : Int64) (σ' : am_D), Q' x σ' → am_X (am_FV G (d + 1) Q) mX9_countRows (0, 0) 156 [some (am_r (some 24)), some (am_r v1), some (am_i v2), some (am_i v3), some (am_i v4), some (am_i v5), some (am_i v6), some (am_i v7), some (am_l v8), none, some (am_i v10), none] [am_l x, am_l s3, am_l s2, am_i s1, am_r s0] (am_K0, σ')) : am_X (am_FV G (d + 1) Q) mX9_countRows (0, 0) 152 [some (am_r (some 24)), some (am_r v1), some (am_i v2), some (am_i v3), some (am_i v4), some (am_i v5), some (am_i v6), some (am_i v7), some (am_l v8), none, some (am_i v10), none] [am_i s6, am_i s5, am_r s4, am_l s3, am_l s2, am_i s1, am_r s0] (am_K0, σ) := by
  refine am_r_iadd (nx := 153) (show decode cX9_countRows 152 = .ok (.iadd, 1) by decide +kernel) rfl ?_
  refine am_r_callS (as := [am_r s4, am_i (s5 + s6)]) (st := [am_l s3, am_l s2, am_i s1, am_r s0]) hc mb_X9_at mv_X9_at (Or.inl ml_X9_39) rfl rfl (Nat.le_of_ble_eq_true rfl) ⟨Nat.le_refl _, Nat.le_refl _⟩ ⟨Nat.le_refl _, Nat.le_refl _⟩ (show decode cX9_countRows 153 = .ok (.invokestatic 39, 3) by decide +kernel) ?_
  rintro _ _ ⟨x, σ', rfl, rfl, hq⟩ _
  exact (k x σ' hq)
theorem S_X9_countRows_156 {G : am_G} {d : Nat} {Q : am_D → Prop} {σ : am_D} {v2 : Int} {v3 : Int} {v4 : Int} {v5 : Int} {v6 : Int} {v7 : Int} {v8 : Int64} {v10 : Int} {s1 : Int} {s2 : Int64} {s3 : Int64} {s4 : Int64} {s0 : Option Nat} {Q' : am_D → Prop} {v1 : Option Nat} (hc : am_MV G d mX9_put [am_r s0, am_i s1, am_l (s2 + (s3 * s4))] σ Q') (k : ∀ σ' : am_D, Q' σ' → am_X (am_FV G (d + 1) Q) mX9_countRows (0, 0) 161 [some (am_r (some 24)), some (am_r v1), some (am_i v2), some (am_i v3), some (am_i v4), some (am_i v5), some (am_i v6), some (am_i v7), some (am_l v8), none, some (am_i v10), none] [] (am_K0, σ')) : am_X (am_FV G (d + 1) Q) mX9_countRows (0, 0) 156 [some (am_r (some 24)), some (am_r v1), some (am_i v2), some (am_i v3), some (am_i v4), some (am_i v5), some (am_i v6), some (am_i v7), some (am_l v8), none, some (am_i v10), none] [am_l s4, am_l s3, am_l s2, am_i s1, am_r s0] (am_K0, σ) := by
  refine am_r_lmul (nx := 157) (show decode cX9_countRows 156 = .ok (.lmul, 1) by decide +kernel) rfl ?_
  refine am_r_ladd (nx := 158) (show decode cX9_countRows 157 = .ok (.ladd, 1) by decide +kernel) rfl ?_
  refine am_r_callS (as := [am_r s0, am_i s1, am_l (s2 + (s3 * s4))]) (st := []) hc mb_X9_put mv_X9_put (Or.inl ml_X9_58) rfl rfl (Nat.le_of_ble_eq_true rfl) ⟨Nat.le_refl _, Nat.le_refl _⟩ ⟨Nat.le_refl _, Nat.le_refl _⟩ (show decode cX9_countRows 158 = .ok (.invokestatic 58, 3) by decide +kernel) ?_
  rintro _ _ ⟨σ', rfl, rfl, hq⟩ _
  exact (k σ' hq)
theorem S_X9_countRows_161 {G : am_G} {d : Nat} {Q : am_D → Prop} {σ : am_D} {v2 : Int} {v3 : Int} {v4 : Int} {v5 : Int} {v6 : Int} {v7 : Int} {v8 : Int64} {v10 : Int} {v1 : Option Nat}  (k : am_X (am_FV G (d + 1) Q) mX9_countRows (0, 0) 95 [some (am_r (some 24)), some (am_r v1), some (am_i v2), some (am_i v3), some (am_i v4), some (am_i v5), some (am_i v6), some (am_i v7), some (am_l v8), none, some (am_i (v10 + 1)), none] [] (am_K0, σ)) : am_X (am_FV G (d + 1) Q) mX9_countRows (0, 0) 161 [some (am_r (some 24)), some (am_r v1), some (am_i v2), some (am_i v3), some (am_i v4), some (am_i v5), some (am_i v6), some (am_i v7), some (am_l v8), none, some (am_i v10), none] [] (am_K0, σ) := by
  refine am_r_iinc (nx := 164) rfl rfl (show decode cX9_countRows 161 = .ok (.iinc 10 1, 3) by decide +kernel) rfl ?_
  refine am_r_goto (tg := 95) (show decode cX9_countRows 164 = .ok (.goto (-69), 3) by decide +kernel) (by decide) ?_
  exact k
theorem S_X9_countRows_167 {G : am_G} {d : Nat} {Q : am_D → Prop} {σ : am_D} {v2 : Int} {v3 : Int} {v4 : Int} {v5 : Int} {v6 : Int} {v7 : Int} {v1 : Option Nat}  (k : am_X (am_FV G (d + 1) Q) mX9_countRows (0, 0) 62 [some (am_r (some 24)), some (am_r v1), some (am_i v2), some (am_i v3), some (am_i v4), some (am_i v5), some (am_i v6), some (am_i (v7 + 1)), none, none, none, none] [] (am_K0, σ)) : am_X (am_FV G (d + 1) Q) mX9_countRows (0, 0) 167 [some (am_r (some 24)), some (am_r v1), some (am_i v2), some (am_i v3), some (am_i v4), some (am_i v5), some (am_i v6), some (am_i v7), none, none, none, none] [] (am_K0, σ) := by
  refine am_r_iinc (nx := 170) rfl rfl (show decode cX9_countRows 167 = .ok (.iinc 7 1, 3) by decide +kernel) rfl ?_
  refine am_r_goto (tg := 62) (show decode cX9_countRows 170 = .ok (.goto (-108), 3) by decide +kernel) (by decide) ?_
  exact k
theorem S_X9_countRows_173 {G : am_G} {d : Nat} {Q : am_D → Prop} {σ : am_D} {v2 : Int} {v3 : Int} {v4 : Int} {v5 : Int} {v1 : Option Nat}  (k : am_X (am_FV G (d + 1) Q) mX9_countRows (0, 0) 44 [some (am_r (some 24)), some (am_r v1), some (am_i v2), some (am_i v3), some (am_i v4), some (am_i (v5 + 1)), none, none, none, none, none, none] [] (am_K0, σ)) : am_X (am_FV G (d + 1) Q) mX9_countRows (0, 0) 173 [some (am_r (some 24)), some (am_r v1), some (am_i v2), some (am_i v3), some (am_i v4), some (am_i v5), none, none, none, none, none, none] [] (am_K0, σ) := by
  refine am_r_iinc (nx := 176) rfl rfl (show decode cX9_countRows 173 = .ok (.iinc 5 1, 3) by decide +kernel) rfl ?_
  refine am_r_goto (tg := 44) (show decode cX9_countRows 176 = .ok (.goto (-132), 3) by decide +kernel) (by decide) ?_
  exact k
theorem S_X9_countRows_179 {G : am_G} {d : Nat} {Q : am_D → Prop} {σ : am_D}   (k : Q σ) : am_X (am_FV G (d + 1) Q) mX9_countRows (0, 0) 179 [none, none, none, none, none, none, none, none, none, none, none, none] [] (am_K0, σ) := by
  exact am_r_vret rfl (show decode cX9_countRows 179 = .ok (.return_, 1) by decide +kernel) ⟨_, rfl, rfl, k⟩
theorem S_X9_pair_0 {G : am_G} {d : Nat} {Q : Int → am_D → Prop} {σ : am_D} {v0 : Int} {v1 : Int}  (k : Q ((v0 * 6) + v1) σ) : am_X (am_FI G (d + 1) Q) mX9_pair (0, 0) 0 [some (am_i v0), some (am_i v1)] [] (am_K0, σ) := by
  refine am_r_iload_n (nx := 1) rfl rfl (show decode cX9_pair 0 = .ok (.iload_n 0, 1) by decide +kernel) rfl ?_
  refine am_r_bipush (nx := 3) rfl (show decode cX9_pair 1 = .ok (.bipush 6, 2) by decide +kernel) rfl ?_
  refine am_r_imul (nx := 4) (show decode cX9_pair 3 = .ok (.imul, 1) by decide +kernel) rfl ?_
  refine am_r_iload_n (nx := 5) rfl rfl (show decode cX9_pair 4 = .ok (.iload_n 1, 1) by decide +kernel) rfl ?_
  refine am_r_iadd (nx := 6) (show decode cX9_pair 5 = .ok (.iadd, 1) by decide +kernel) rfl ?_
  exact am_r_iret rfl rfl (show decode cX9_pair 6 = .ok (.ireturn, 1) by decide +kernel) ⟨_, _, rfl, rfl, k⟩
theorem S_X9_at_0 {G : am_G} {d : Nat} {Q : Int64 → am_D → Prop} {σ : am_D} {v1 : Int} {v0 : Option Nat} (hr1 : -2147483648 ≤ v1 ∧ v1 ≤ 2147483647) (k1 : v1 < 0 → am_X (am_FJ G (d + 1) Q) mX9_at (0, 0) 16 [none, none] [] (am_K0, σ)) (k2 : ¬ (v1 < 0) → am_X (am_FJ G (d + 1) Q) mX9_at (0, 0) 4 [some (am_r v0), some (am_i v1)] [] (am_K0, σ)) : am_X (am_FJ G (d + 1) Q) mX9_at (0, 0) 0 [some (am_r v0), some (am_i v1)] [] (am_K0, σ) := by
  refine am_r_iload_n (nx := 1) rfl rfl (show decode cX9_at 0 = .ok (.iload_n 1, 1) by decide +kernel) rfl ?_
  refine am_r_if_lt (tg := 16) (nx := 4) (show decode cX9_at 1 = .ok (.ifCond .lt 15, 3) by decide +kernel) (by decide) rfl hr1 ?_ ?_
  · exact fun q => am_x_fg [0, 1] (k1 q)
  · exact fun q => k2 q
theorem S_X9_at_4 {G : am_G} {d : Nat} {Q : Int64 → am_D → Prop} {σ : am_D} {v1 : Int} {v0 : Nat} {n1 : Nat} (hs2 : am_sh am_SH v0 = (100, n1)) (hr3 : -2147483648 ≤ v1 ∧ v1 ≤ 2147483647) (hr4 : -2147483648 ≤ ((n1 : Nat) : Int) ∧ ((n1 : Nat) : Int) ≤ 2147483647) (k1 : ((n1 : Nat) : Int) ≤ v1 → am_X (am_FJ G (d + 1) Q) mX9_at (0, 0) 16 [none, none] [] (am_K0, σ)) (k2 : ¬ (((n1 : Nat) : Int) ≤ v1) → am_X (am_FJ G (d + 1) Q) mX9_at (0, 0) 10 [some (am_r (some v0)), some (am_i v1)] [] (am_K0, σ)) : am_X (am_FJ G (d + 1) Q) mX9_at (0, 0) 4 [some (am_r (some v0)), some (am_i v1)] [] (am_K0, σ) := by
  refine am_r_iload_n (nx := 5) rfl rfl (show decode cX9_at 4 = .ok (.iload_n 1, 1) by decide +kernel) rfl ?_
  refine am_r_aload_n (nx := 6) rfl rfl (show decode cX9_at 5 = .ok (.aload_n 0, 1) by decide +kernel) rfl ?_
  refine am_r_alen (nx := 7) (hs2) (by omega) (by omega) (show decode cX9_at 6 = .ok (.arraylength, 1) by decide +kernel) rfl ?_
  refine am_r_icmp_ge (tg := 16) (nx := 10) (show decode cX9_at 7 = .ok (.if_icmp .ge 9, 3) by decide +kernel) (by decide) rfl hr3 hr4 ?_ ?_
  · exact fun q => am_x_fg [0, 1] (k1 q)
  · exact fun q => k2 q
theorem S_X9_at_10 {G : am_G} {d : Nat} {Q : Int64 → am_D → Prop} {σ : am_D} {v1 : Int} {v0 : Nat} {n1 : Nat} (hs2 : am_sh am_SH v0 = (103, n1)) (hi3 : 0 ≤ v1) (hj4 : v1 < ((n1 : Nat) : Int)) (k : am_X (am_FJ G (d + 1) Q) mX9_at (0, 0) 17 [none, none] [am_l (σ.2.1 v0 v1)] (am_K0, σ)) : am_X (am_FJ G (d + 1) Q) mX9_at (0, 0) 10 [some (am_r (some v0)), some (am_i v1)] [] (am_K0, σ) := by
  refine am_r_aload_n (nx := 11) rfl rfl (show decode cX9_at 10 = .ok (.aload_n 0, 1) by decide +kernel) rfl ?_
  refine am_r_iload_n (nx := 12) rfl rfl (show decode cX9_at 11 = .ok (.iload_n 1, 1) by decide +kernel) rfl ?_
  refine am_r_lald (nx := 13) (hs2) (am_shle (hs2)) hi3 hj4 (show decode cX9_at 12 = .ok (.laload, 1) by decide +kernel) rfl ?_
  refine am_r_goto (tg := 17) (show decode cX9_at 13 = .ok (.goto 4, 3) by decide +kernel) (by decide) ?_
  exact am_x_fg [0, 1] k
theorem S_X9_at_16 {G : am_G} {d : Nat} {Q : Int64 → am_D → Prop} {σ : am_D}   (k : am_X (am_FJ G (d + 1) Q) mX9_at (0, 0) 17 [none, none] [am_l 0] (am_K0, σ)) : am_X (am_FJ G (d + 1) Q) mX9_at (0, 0) 16 [none, none] [] (am_K0, σ) := by
  refine am_r_lconst (nx := 17) (v := 0) rfl (show decode cX9_at 16 = .ok (.lconst 0, 1) by decide +kernel) rfl ?_
  exact k
theorem S_X9_at_17 {G : am_G} {d : Nat} {Q : Int64 → am_D → Prop} {σ : am_D} {s0 : Int64}  (k : Q s0 σ) : am_X (am_FJ G (d + 1) Q) mX9_at (0, 0) 17 [none, none] [am_l s0] (am_K0, σ) := by
  exact am_r_lret rfl (show decode cX9_at 17 = .ok (.lreturn, 1) by decide +kernel) ⟨_, _, rfl, rfl, k⟩
theorem S_X9_put_0 {G : am_G} {d : Nat} {Q : am_D → Prop} {σ : am_D} {v1 : Int} {v2 : Int64} {v0 : Option Nat} (hr1 : -2147483648 ≤ v1 ∧ v1 ≤ 2147483647) (k1 : v1 < 0 → am_X (am_FV G (d + 1) Q) mX9_put (0, 0) 14 [none, none, none, none] [] (am_K0, σ)) (k2 : ¬ (v1 < 0) → am_X (am_FV G (d + 1) Q) mX9_put (0, 0) 4 [some (am_r v0), some (am_i v1), some (am_l v2), none] [] (am_K0, σ)) : am_X (am_FV G (d + 1) Q) mX9_put (0, 0) 0 [some (am_r v0), some (am_i v1), some (am_l v2), none] [] (am_K0, σ) := by
  refine am_r_iload_n (nx := 1) rfl rfl (show decode cX9_put 0 = .ok (.iload_n 1, 1) by decide +kernel) rfl ?_
  refine am_r_if_lt (tg := 14) (nx := 4) (show decode cX9_put 1 = .ok (.ifCond .lt 13, 3) by decide +kernel) (by decide) rfl hr1 ?_ ?_
  · exact fun q => am_x_fg [0, 1, 2] (k1 q)
  · exact fun q => k2 q
theorem S_X9_put_4 {G : am_G} {d : Nat} {Q : am_D → Prop} {σ : am_D} {v1 : Int} {v2 : Int64} {v0 : Nat} {n1 : Nat} (hs2 : am_sh am_SH v0 = (100, n1)) (hr3 : -2147483648 ≤ v1 ∧ v1 ≤ 2147483647) (hr4 : -2147483648 ≤ ((n1 : Nat) : Int) ∧ ((n1 : Nat) : Int) ≤ 2147483647) (k1 : ((n1 : Nat) : Int) ≤ v1 → am_X (am_FV G (d + 1) Q) mX9_put (0, 0) 14 [none, none, none, none] [] (am_K0, σ)) (k2 : ¬ (((n1 : Nat) : Int) ≤ v1) → am_X (am_FV G (d + 1) Q) mX9_put (0, 0) 10 [some (am_r (some v0)), some (am_i v1), some (am_l v2), none] [] (am_K0, σ)) : am_X (am_FV G (d + 1) Q) mX9_put (0, 0) 4 [some (am_r (some v0)), some (am_i v1), some (am_l v2), none] [] (am_K0, σ) := by
  refine am_r_iload_n (nx := 5) rfl rfl (show decode cX9_put 4 = .ok (.iload_n 1, 1) by decide +kernel) rfl ?_
  refine am_r_aload_n (nx := 6) rfl rfl (show decode cX9_put 5 = .ok (.aload_n 0, 1) by decide +kernel) rfl ?_
  refine am_r_alen (nx := 7) (hs2) (by omega) (by omega) (show decode cX9_put 6 = .ok (.arraylength, 1) by decide +kernel) rfl ?_
  refine am_r_icmp_ge (tg := 14) (nx := 10) (show decode cX9_put 7 = .ok (.if_icmp .ge 7, 3) by decide +kernel) (by decide) rfl hr3 hr4 ?_ ?_
  · exact fun q => am_x_fg [0, 1, 2] (k1 q)
  · exact fun q => k2 q
theorem S_X9_put_10 {G : am_G} {d : Nat} {Q : am_D → Prop} {σ : am_D} {v1 : Int} {v2 : Int64} {v0 : Nat} {n1 : Nat} (hs2 : am_sh am_SH v0 = (103, n1)) (hi3 : 0 ≤ v1) (hj4 : v1 < ((n1 : Nat) : Int)) (k : am_X (am_FV G (d + 1) Q) mX9_put (0, 0) 14 [none, none, none, none] [] (am_K0, (am_pJ σ v0 v1 v2))) : am_X (am_FV G (d + 1) Q) mX9_put (0, 0) 10 [some (am_r (some v0)), some (am_i v1), some (am_l v2), none] [] (am_K0, σ) := by
  refine am_r_aload_n (nx := 11) rfl rfl (show decode cX9_put 10 = .ok (.aload_n 0, 1) by decide +kernel) rfl ?_
  refine am_r_iload_n (nx := 12) rfl rfl (show decode cX9_put 11 = .ok (.iload_n 1, 1) by decide +kernel) rfl ?_
  refine am_r_lload_n (nx := 13) rfl rfl (show decode cX9_put 12 = .ok (.lload_n 2, 1) by decide +kernel) rfl ?_
  refine am_r_last (nx := 14) (hs2) (am_shle (hs2)) hi3 hj4 (show decode cX9_put 13 = .ok (.lastore, 1) by decide +kernel) rfl ?_
  exact am_x_fg [0, 1, 2] k
theorem S_X9_put_14 {G : am_G} {d : Nat} {Q : am_D → Prop} {σ : am_D}   (k : Q σ) : am_X (am_FV G (d + 1) Q) mX9_put (0, 0) 14 [none, none, none, none] [] (am_K0, σ) := by
  exact am_r_vret rfl (show decode cX9_put 14 = .ok (.return_, 1) by decide +kernel) ⟨_, rfl, rfl, k⟩
end
