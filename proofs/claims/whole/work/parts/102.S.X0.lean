section
theorem S_X0_clear_0 {G : am_G} {d : Nat} {Q : am_D → Prop} {σ : am_D} {v0 : Nat} (hc1 : am_isE v0) (k : am_X (am_FV G (d + 1) Q) mX0_clear (0, 0) 5 [none] [] (am_K0, (am_pI σ v0 1 0))) : am_X (am_FV G (d + 1) Q) mX0_clear (0, 0) 0 [some (am_r (some v0))] [] (am_K0, σ) := by
  refine am_r_aload_n (nx := 1) rfl rfl (show decode cX0_clear 0 = .ok (.aload_n 0, 1) by decide +kernel) rfl ?_
  refine am_r_iconst (nx := 2) (show decode cX0_clear 1 = .ok (.iconst 0, 1) by decide +kernel) rfl ?_
  refine am_r_putI (nx := 5) 1 cw0 (by decide) rfl (Or.inl fl_X0_21) (obE hc1) rfl (Or.inl rfl) (show decode cX0_clear 2 = .ok (.putfield 21, 3) by decide +kernel) rfl ?_
  exact am_x_fg [0] k
theorem S_X0_clear_5 {G : am_G} {d : Nat} {Q : am_D → Prop} {σ : am_D}   (k : Q σ) : am_X (am_FV G (d + 1) Q) mX0_clear (0, 0) 5 [none] [] (am_K0, σ) := by
  exact am_r_vret rfl (show decode cX0_clear 5 = .ok (.return_, 1) by decide +kernel) ⟨_, rfl, rfl, k⟩
theorem S_X0_add_0 {G : am_G} {d : Nat} {Q : am_D → Prop} {σ : am_D} {v1 : Int} {v0 : Nat} (hc1 : am_isE v0) (hr2 : -2147483648 ≤ (σ.1 v0 1) ∧ (σ.1 v0 1) ≤ 2147483647) (hr3 : -2147483648 ≤ (((am_es v0) : Nat) : Int) ∧ (((am_es v0) : Nat) : Int) ≤ 2147483647) (k1 : (((am_es v0) : Nat) : Int) ≤ (σ.1 v0 1) → am_X (am_FV G (d + 1) Q) mX0_add (0, 0) 32 [none, none] [] (am_K0, σ)) (k2 : ¬ ((((am_es v0) : Nat) : Int) ≤ (σ.1 v0 1)) → am_X (am_FV G (d + 1) Q) mX0_add (0, 0) 12 [some (am_r (some v0)), some (am_i v1)] [] (am_K0, σ)) : am_X (am_FV G (d + 1) Q) mX0_add (0, 0) 0 [some (am_r (some v0)), some (am_i v1)] [] (am_K0, σ) := by
  refine am_r_aload_n (nx := 1) rfl rfl (show decode cX0_add 0 = .ok (.aload_n 0, 1) by decide +kernel) rfl ?_
  refine am_r_getI (nx := 4) 1 cw0 (by decide) rfl (Or.inl fl_X0_21) (obE hc1) (show decode cX0_add 1 = .ok (.getfield 21, 3) by decide +kernel) rfl ?_
  refine am_r_aload_n (nx := 5) rfl rfl (show decode cX0_add 4 = .ok (.aload_n 0, 1) by decide +kernel) rfl ?_
  refine am_r_getF (nx := 8) 0 cw0 (by decide) rfl (Or.inl fl_X0_15) (obE hc1) (fnE0 hc1) (show decode cX0_add 5 = .ok (.getfield 15, 3) by decide +kernel) rfl ?_
  refine am_r_alen (nx := 9) ((shE1 hc1)) (by omega) (by omega) (show decode cX0_add 8 = .ok (.arraylength, 1) by decide +kernel) rfl ?_
  refine am_r_icmp_ge (tg := 32) (nx := 12) (show decode cX0_add 9 = .ok (.if_icmp .ge 23, 3) by decide +kernel) (by decide) rfl hr2 hr3 ?_ ?_
  · exact fun q => am_x_fg [0, 1] (k1 q)
  · exact fun q => k2 q
theorem S_X0_add_12 {G : am_G} {d : Nat} {Q : am_D → Prop} {σ : am_D} {v1 : Int} {v0 : Nat} (hc1 : am_isE v0) (hi2 : 0 ≤ (σ.1 v0 1)) (hj3 : (σ.1 v0 1) < (((am_es v0) : Nat) : Int)) (k : am_X (am_FV G (d + 1) Q) mX0_add (0, 0) 22 [some (am_r (some v0)), none] [] (am_K0, (am_pI σ (v0 + 1) (σ.1 v0 1) v1))) : am_X (am_FV G (d + 1) Q) mX0_add (0, 0) 12 [some (am_r (some v0)), some (am_i v1)] [] (am_K0, σ) := by
  refine am_r_aload_n (nx := 13) rfl rfl (show decode cX0_add 12 = .ok (.aload_n 0, 1) by decide +kernel) rfl ?_
  refine am_r_getF (nx := 16) 0 cw0 (by decide) rfl (Or.inl fl_X0_15) (obE hc1) (fnE0 hc1) (show decode cX0_add 13 = .ok (.getfield 15, 3) by decide +kernel) rfl ?_
  refine am_r_aload_n (nx := 17) rfl rfl (show decode cX0_add 16 = .ok (.aload_n 0, 1) by decide +kernel) rfl ?_
  refine am_r_getI (nx := 20) 1 cw0 (by decide) rfl (Or.inl fl_X0_21) (obE hc1) (show decode cX0_add 17 = .ok (.getfield 21, 3) by decide +kernel) rfl ?_
  refine am_r_iload_n (nx := 21) rfl rfl (show decode cX0_add 20 = .ok (.iload_n 1, 1) by decide +kernel) rfl ?_
  refine am_r_iast (nx := 22) ((shE1 hc1)) (am_shle ((shE1 hc1))) hi2 hj3 (show decode cX0_add 21 = .ok (.iastore, 1) by decide +kernel) rfl ?_
  exact am_x_fg [1] k
theorem S_X0_add_22 {G : am_G} {d : Nat} {Q : am_D → Prop} {σ : am_D} {v0 : Nat} (hc1 : am_isE v0) (k : am_X (am_FV G (d + 1) Q) mX0_add (0, 0) 32 [none, none] [] (am_K0, (am_pI σ v0 1 ((σ.1 v0 1) + 1)))) : am_X (am_FV G (d + 1) Q) mX0_add (0, 0) 22 [some (am_r (some v0)), none] [] (am_K0, σ) := by
  refine am_r_aload_n (nx := 23) rfl rfl (show decode cX0_add 22 = .ok (.aload_n 0, 1) by decide +kernel) rfl ?_
  refine am_r_dup (nx := 24) rfl (show decode cX0_add 23 = .ok (.dup, 1) by decide +kernel) rfl ?_
  refine am_r_getI (nx := 27) 1 cw0 (by decide) rfl (Or.inl fl_X0_21) (obE hc1) (show decode cX0_add 24 = .ok (.getfield 21, 3) by decide +kernel) rfl ?_
  refine am_r_iconst (nx := 28) (show decode cX0_add 27 = .ok (.iconst 1, 1) by decide +kernel) rfl ?_
  refine am_r_iadd (nx := 29) (show decode cX0_add 28 = .ok (.iadd, 1) by decide +kernel) rfl ?_
  refine am_r_putI (nx := 32) 1 cw0 (by decide) rfl (Or.inl fl_X0_21) (obE hc1) rfl (Or.inl rfl) (show decode cX0_add 29 = .ok (.putfield 21, 3) by decide +kernel) rfl ?_
  exact am_x_fg [0] k
theorem S_X0_add_32 {G : am_G} {d : Nat} {Q : am_D → Prop} {σ : am_D}   (k : Q σ) : am_X (am_FV G (d + 1) Q) mX0_add (0, 0) 32 [none, none] [] (am_K0, σ) := by
  exact am_r_vret rfl (show decode cX0_add 32 = .ok (.return_, 1) by decide +kernel) ⟨_, rfl, rfl, k⟩
theorem S_X0_drop_0 {G : am_G} {d : Nat} {Q : Int → am_D → Prop} {σ : am_D} {v0 : Nat} (hc1 : am_isE v0) (hr2 : -2147483648 ≤ (σ.1 v0 1) ∧ (σ.1 v0 1) ≤ 2147483647) (k1 : 0 < (σ.1 v0 1) → am_X (am_FI G (d + 1) Q) mX0_drop (0, 0) 9 [some (am_r (some v0))] [] (am_K0, σ)) (k2 : ¬ (0 < (σ.1 v0 1)) → am_X (am_FI G (d + 1) Q) mX0_drop (0, 0) 7 [none] [] (am_K0, σ)) : am_X (am_FI G (d + 1) Q) mX0_drop (0, 0) 0 [some (am_r (some v0))] [] (am_K0, σ) := by
  refine am_r_aload_n (nx := 1) rfl rfl (show decode cX0_drop 0 = .ok (.aload_n 0, 1) by decide +kernel) rfl ?_
  refine am_r_getI (nx := 4) 1 cw0 (by decide) rfl (Or.inl fl_X0_21) (obE hc1) (show decode cX0_drop 1 = .ok (.getfield 21, 3) by decide +kernel) rfl ?_
  refine am_r_if_gt (tg := 9) (nx := 7) (show decode cX0_drop 4 = .ok (.ifCond .gt 5, 3) by decide +kernel) (by decide) rfl hr2 ?_ ?_
  · exact fun q => k1 q
  · exact fun q => am_x_fg [0] (k2 q)
theorem S_X0_drop_7 {G : am_G} {d : Nat} {Q : Int → am_D → Prop} {σ : am_D}   (k : Q (-1) σ) : am_X (am_FI G (d + 1) Q) mX0_drop (0, 0) 7 [none] [] (am_K0, σ) := by
  refine am_r_iconst (nx := 8) (show decode cX0_drop 7 = .ok (.iconst (-1), 1) by decide +kernel) rfl ?_
  exact am_r_iret rfl rfl (show decode cX0_drop 8 = .ok (.ireturn, 1) by decide +kernel) ⟨_, _, rfl, rfl, k⟩
theorem S_X0_drop_9 {G : am_G} {d : Nat} {Q : Int → am_D → Prop} {σ : am_D} {v0 : Nat} (hc1 : am_isE v0) (k : am_X (am_FI G (d + 1) Q) mX0_drop (0, 0) 19 [some (am_r (some v0))] [] (am_K0, (am_pI σ v0 1 ((σ.1 v0 1) - 1)))) : am_X (am_FI G (d + 1) Q) mX0_drop (0, 0) 9 [some (am_r (some v0))] [] (am_K0, σ) := by
  refine am_r_aload_n (nx := 10) rfl rfl (show decode cX0_drop 9 = .ok (.aload_n 0, 1) by decide +kernel) rfl ?_
  refine am_r_dup (nx := 11) rfl (show decode cX0_drop 10 = .ok (.dup, 1) by decide +kernel) rfl ?_
  refine am_r_getI (nx := 14) 1 cw0 (by decide) rfl (Or.inl fl_X0_21) (obE hc1) (show decode cX0_drop 11 = .ok (.getfield 21, 3) by decide +kernel) rfl ?_
  refine am_r_iconst (nx := 15) (show decode cX0_drop 14 = .ok (.iconst 1, 1) by decide +kernel) rfl ?_
  refine am_r_isub (nx := 16) (show decode cX0_drop 15 = .ok (.isub, 1) by decide +kernel) rfl ?_
  refine am_r_putI (nx := 19) 1 cw0 (by decide) rfl (Or.inl fl_X0_21) (obE hc1) rfl (Or.inl rfl) (show decode cX0_drop 16 = .ok (.putfield 21, 3) by decide +kernel) rfl ?_
  exact k
theorem S_X0_drop_19 {G : am_G} {d : Nat} {Q : Int → am_D → Prop} {σ : am_D} {v0 : Nat} {Q' : Int → am_D → Prop} (hc1 : am_isE v0) (hc : am_MI G d mX10_at [am_r (some (v0 + 1)), am_i (σ.1 v0 1)] σ Q') (k : ∀ (x : Int) (σ' : am_D), Q' x σ' → Q x σ') : am_X (am_FI G (d + 1) Q) mX0_drop (0, 0) 19 [some (am_r (some v0))] [] (am_K0, σ) := by
  refine am_r_aload_n (nx := 20) rfl rfl (show decode cX0_drop 19 = .ok (.aload_n 0, 1) by decide +kernel) rfl ?_
  refine am_r_getF (nx := 23) 0 cw0 (by decide) rfl (Or.inl fl_X0_15) (obE hc1) (fnE0 hc1) (show decode cX0_drop 20 = .ok (.getfield 15, 3) by decide +kernel) rfl ?_
  refine am_r_aload_n (nx := 24) rfl rfl (show decode cX0_drop 23 = .ok (.aload_n 0, 1) by decide +kernel) rfl ?_
  refine am_r_getI (nx := 27) 1 cw0 (by decide) rfl (Or.inl fl_X0_21) (obE hc1) (show decode cX0_drop 24 = .ok (.getfield 21, 3) by decide +kernel) rfl ?_
  refine am_r_callS (as := [am_r (some (v0 + 1)), am_i (σ.1 v0 1)]) (st := []) hc mb_X10_at mv_X10_at (Or.inr ⟨_, ml_X0_25⟩) rfl rfl (Nat.le_of_ble_eq_true rfl) ⟨Nat.le_refl _, Nat.le_refl _⟩ ⟨Nat.le_refl _, Nat.le_refl _⟩ (show decode cX0_drop 27 = .ok (.invokestatic 25, 3) by decide +kernel) ?_
  rintro _ _ ⟨x, σ', rfl, rfl, hq⟩ _
  exact am_r_iret rfl rfl (show decode cX0_drop 30 = .ok (.ireturn, 1) by decide +kernel) ⟨_, _, rfl, rfl, (k x σ' hq)⟩
theorem S_X0_size_0 {G : am_G} {d : Nat} {Q : Int → am_D → Prop} {σ : am_D} {v0 : Nat} (hc1 : am_isE v0) (k : Q (σ.1 v0 1) σ) : am_X (am_FI G (d + 1) Q) mX0_size (0, 0) 0 [some (am_r (some v0))] [] (am_K0, σ) := by
  refine am_r_aload_n (nx := 1) rfl rfl (show decode cX0_size 0 = .ok (.aload_n 0, 1) by decide +kernel) rfl ?_
  refine am_r_getI (nx := 4) 1 cw0 (by decide) rfl (Or.inl fl_X0_21) (obE hc1) (show decode cX0_size 1 = .ok (.getfield 21, 3) by decide +kernel) rfl ?_
  exact am_r_iret rfl rfl (show decode cX0_size 4 = .ok (.ireturn, 1) by decide +kernel) ⟨_, _, rfl, rfl, k⟩
theorem S_X0_signAt_0 {G : am_G} {d : Nat} {Q : Int → am_D → Prop} {σ : am_D} {v1 : Int} {v0 : Option Nat} (hr1 : -2147483648 ≤ v1 ∧ v1 ≤ 2147483647) (k1 : v1 < 0 → am_X (am_FI G (d + 1) Q) mX0_signAt (0, 0) 23 [none, none] [] (am_K0, σ)) (k2 : ¬ (v1 < 0) → am_X (am_FI G (d + 1) Q) mX0_signAt (0, 0) 4 [some (am_r v0), some (am_i v1)] [] (am_K0, σ)) : am_X (am_FI G (d + 1) Q) mX0_signAt (0, 0) 0 [some (am_r v0), some (am_i v1)] [] (am_K0, σ) := by
  refine am_r_iload_n (nx := 1) rfl rfl (show decode cX0_signAt 0 = .ok (.iload_n 1, 1) by decide +kernel) rfl ?_
  refine am_r_if_lt (tg := 23) (nx := 4) (show decode cX0_signAt 1 = .ok (.ifCond .lt 22, 3) by decide +kernel) (by decide) rfl hr1 ?_ ?_
  · exact fun q => am_x_fg [0, 1] (k1 q)
  · exact fun q => k2 q
theorem S_X0_signAt_4 {G : am_G} {d : Nat} {Q : Int → am_D → Prop} {σ : am_D} {v1 : Int} {v0 : Nat} (hc1 : am_isE v0) (hr2 : -2147483648 ≤ v1 ∧ v1 ≤ 2147483647) (hr3 : -2147483648 ≤ (σ.1 v0 1) ∧ (σ.1 v0 1) ≤ 2147483647) (k1 : (σ.1 v0 1) ≤ v1 → am_X (am_FI G (d + 1) Q) mX0_signAt (0, 0) 23 [none, none] [] (am_K0, σ)) (k2 : ¬ ((σ.1 v0 1) ≤ v1) → am_X (am_FI G (d + 1) Q) mX0_signAt (0, 0) 12 [some (am_r (some v0)), some (am_i v1)] [] (am_K0, σ)) : am_X (am_FI G (d + 1) Q) mX0_signAt (0, 0) 4 [some (am_r (some v0)), some (am_i v1)] [] (am_K0, σ) := by
  refine am_r_iload_n (nx := 5) rfl rfl (show decode cX0_signAt 4 = .ok (.iload_n 1, 1) by decide +kernel) rfl ?_
  refine am_r_aload_n (nx := 6) rfl rfl (show decode cX0_signAt 5 = .ok (.aload_n 0, 1) by decide +kernel) rfl ?_
  refine am_r_getI (nx := 9) 1 cw0 (by decide) rfl (Or.inl fl_X0_21) (obE hc1) (show decode cX0_signAt 6 = .ok (.getfield 21, 3) by decide +kernel) rfl ?_
  refine am_r_icmp_ge (tg := 23) (nx := 12) (show decode cX0_signAt 9 = .ok (.if_icmp .ge 14, 3) by decide +kernel) (by decide) rfl hr2 hr3 ?_ ?_
  · exact fun q => am_x_fg [0, 1] (k1 q)
  · exact fun q => k2 q
theorem S_X0_signAt_12 {G : am_G} {d : Nat} {Q : Int → am_D → Prop} {σ : am_D} {v1 : Int} {v0 : Nat} {Q' : Int → am_D → Prop} (hc1 : am_isE v0) (hc : am_MI G d mX10_at [am_r (some (v0 + 1)), am_i v1] σ Q') (k : ∀ (x : Int) (σ' : am_D), Q' x σ' → am_X (am_FI G (d + 1) Q) mX0_signAt (0, 0) 20 [none, none] [am_i x] (am_K0, σ')) : am_X (am_FI G (d + 1) Q) mX0_signAt (0, 0) 12 [some (am_r (some v0)), some (am_i v1)] [] (am_K0, σ) := by
  refine am_r_aload_n (nx := 13) rfl rfl (show decode cX0_signAt 12 = .ok (.aload_n 0, 1) by decide +kernel) rfl ?_
  refine am_r_getF (nx := 16) 0 cw0 (by decide) rfl (Or.inl fl_X0_15) (obE hc1) (fnE0 hc1) (show decode cX0_signAt 13 = .ok (.getfield 15, 3) by decide +kernel) rfl ?_
  refine am_r_iload_n (nx := 17) rfl rfl (show decode cX0_signAt 16 = .ok (.iload_n 1, 1) by decide +kernel) rfl ?_
  refine am_r_callS (as := [am_r (some (v0 + 1)), am_i v1]) (st := []) hc mb_X10_at mv_X10_at (Or.inr ⟨_, ml_X0_25⟩) rfl rfl (Nat.le_of_ble_eq_true rfl) ⟨Nat.le_refl _, Nat.le_refl _⟩ ⟨Nat.le_refl _, Nat.le_refl _⟩ (show decode cX0_signAt 17 = .ok (.invokestatic 25, 3) by decide +kernel) ?_
  rintro _ _ ⟨x, σ', rfl, rfl, hq⟩ _
  exact am_x_fg [0, 1] (k x σ' hq)
theorem S_X0_signAt_20 {G : am_G} {d : Nat} {Q : Int → am_D → Prop} {σ : am_D} {s0 : Int}  (k : am_X (am_FI G (d + 1) Q) mX0_signAt (0, 0) 24 [none, none] [am_i s0] (am_K0, σ)) : am_X (am_FI G (d + 1) Q) mX0_signAt (0, 0) 20 [none, none] [am_i s0] (am_K0, σ) := by
  refine am_r_goto (tg := 24) (show decode cX0_signAt 20 = .ok (.goto 4, 3) by decide +kernel) (by decide) ?_
  exact k
theorem S_X0_signAt_23 {G : am_G} {d : Nat} {Q : Int → am_D → Prop} {σ : am_D}   (k : am_X (am_FI G (d + 1) Q) mX0_signAt (0, 0) 24 [none, none] [am_i (-1)] (am_K0, σ)) : am_X (am_FI G (d + 1) Q) mX0_signAt (0, 0) 23 [none, none] [] (am_K0, σ) := by
  refine am_r_iconst (nx := 24) (show decode cX0_signAt 23 = .ok (.iconst (-1), 1) by decide +kernel) rfl ?_
  exact k
theorem S_X0_signAt_24 {G : am_G} {d : Nat} {Q : Int → am_D → Prop} {σ : am_D} {s0 : Int}  (k : Q s0 σ) : am_X (am_FI G (d + 1) Q) mX0_signAt (0, 0) 24 [none, none] [am_i s0] (am_K0, σ) := by
  exact am_r_iret rfl rfl (show decode cX0_signAt 24 = .ok (.ireturn, 1) by decide +kernel) ⟨_, _, rfl, rfl, k⟩
theorem S_X0_elements_0 {G : am_G} {d : Nat} {Q : Int → am_D → Prop} {σ : am_D} {v0 : Nat} (hc1 : am_isE v0) (hr2 : -2147483648 ≤ (σ.1 v0 1) ∧ (σ.1 v0 1) ≤ 2147483647) (k : Q (Int.tdiv (σ.1 v0 1) 2) σ) : am_X (am_FI G (d + 1) Q) mX0_elements (0, 0) 0 [some (am_r (some v0))] [] (am_K0, σ) := by
  refine am_r_aload_n (nx := 1) rfl rfl (show decode cX0_elements 0 = .ok (.aload_n 0, 1) by decide +kernel) rfl ?_
  refine am_r_getI (nx := 4) 1 cw0 (by decide) rfl (Or.inl fl_X0_21) (obE hc1) (show decode cX0_elements 1 = .ok (.getfield 21, 3) by decide +kernel) rfl ?_
  refine am_r_iconst (nx := 5) (show decode cX0_elements 4 = .ok (.iconst 2, 1) by decide +kernel) rfl ?_
  refine am_r_idiv (nx := 6) hr2 (by omega) (show decode cX0_elements 5 = .ok (.idiv, 1) by decide +kernel) rfl ?_
  exact am_r_iret rfl rfl (show decode cX0_elements 6 = .ok (.ireturn, 1) by decide +kernel) ⟨_, _, rfl, rfl, k⟩
theorem S_X0_depth_0 {G : am_G} {d : Nat} {Q : Int → am_D → Prop} {σ : am_D} {v0 : Option Nat}  (k : am_X (am_FI G (d + 1) Q) mX0_depth (0, 0) 2 [some (am_r v0), some (am_i 0), none, none] [] (am_K0, σ)) : am_X (am_FI G (d + 1) Q) mX0_depth (0, 0) 0 [some (am_r v0), none, none, none] [] (am_K0, σ) := by
  refine am_r_iconst (nx := 1) (show decode cX0_depth 0 = .ok (.iconst 0, 1) by decide +kernel) rfl ?_
  refine am_r_istore_n (nx := 2) rfl (by decide) rfl (show decode cX0_depth 1 = .ok (.istore_n 1, 1) by decide +kernel) rfl ?_
  exact k
theorem S_X0_depth_2 {G : am_G} {d : Nat} {Q : Int → am_D → Prop} {σ : am_D} {v1 : Int} {v0 : Option Nat}  (k : am_X (am_FI G (d + 1) Q) mX0_depth (0, 0) 4 [some (am_r v0), some (am_i v1), some (am_i 0), none] [] (am_K0, σ)) : am_X (am_FI G (d + 1) Q) mX0_depth (0, 0) 2 [some (am_r v0), some (am_i v1), none, none] [] (am_K0, σ) := by
  refine am_r_iconst (nx := 3) (show decode cX0_depth 2 = .ok (.iconst 0, 1) by decide +kernel) rfl ?_
  refine am_r_istore_n (nx := 4) rfl (by decide) rfl (show decode cX0_depth 3 = .ok (.istore_n 2, 1) by decide +kernel) rfl ?_
  exact k
theorem S_X0_depth_4 {G : am_G} {d : Nat} {Q : Int → am_D → Prop} {σ : am_D} {v1 : Int} {v2 : Int} {v0 : Option Nat}  (k : am_X (am_FI G (d + 1) Q) mX0_depth (0, 0) 6 [some (am_r v0), some (am_i v1), some (am_i v2), some (am_i 0)] [] (am_K0, σ)) : am_X (am_FI G (d + 1) Q) mX0_depth (0, 0) 4 [some (am_r v0), some (am_i v1), some (am_i v2), none] [] (am_K0, σ) := by
  refine am_r_iconst (nx := 5) (show decode cX0_depth 4 = .ok (.iconst 0, 1) by decide +kernel) rfl ?_
  refine am_r_istore_n (nx := 6) rfl (by decide) rfl (show decode cX0_depth 5 = .ok (.istore_n 3, 1) by decide +kernel) rfl ?_
  exact k
theorem S_X0_depth_6 {G : am_G} {d : Nat} {Q : Int → am_D → Prop} {σ : am_D} {v1 : Int} {v2 : Int} {v3 : Int} {v0 : Nat} (hc1 : am_isE v0) (hr2 : -2147483648 ≤ v3 ∧ v3 ≤ 2147483647) (hr3 : -2147483648 ≤ (σ.1 v0 1) ∧ (σ.1 v0 1) ≤ 2147483647) (k1 : (σ.1 v0 1) ≤ v3 → am_X (am_FI G (d + 1) Q) mX0_depth (0, 0) 46 [none, none, some (am_i v2), none] [] (am_K0, σ)) (k2 : ¬ ((σ.1 v0 1) ≤ v3) → am_X (am_FI G (d + 1) Q) mX0_depth (0, 0) 14 [some (am_r (some v0)), some (am_i v1), some (am_i v2), some (am_i v3)] [] (am_K0, σ)) : am_X (am_FI G (d + 1) Q) mX0_depth (0, 0) 6 [some (am_r (some v0)), some (am_i v1), some (am_i v2), some (am_i v3)] [] (am_K0, σ) := by
  refine am_r_iload_n (nx := 7) rfl rfl (show decode cX0_depth 6 = .ok (.iload_n 3, 1) by decide +kernel) rfl ?_
  refine am_r_aload_n (nx := 8) rfl rfl (show decode cX0_depth 7 = .ok (.aload_n 0, 1) by decide +kernel) rfl ?_
  refine am_r_getI (nx := 11) 1 cw0 (by decide) rfl (Or.inl fl_X0_21) (obE hc1) (show decode cX0_depth 8 = .ok (.getfield 21, 3) by decide +kernel) rfl ?_
  refine am_r_icmp_ge (tg := 46) (nx := 14) (show decode cX0_depth 11 = .ok (.if_icmp .ge 35, 3) by decide +kernel) (by decide) rfl hr2 hr3 ?_ ?_
  · exact fun q => am_x_fg [0, 1, 3] (k1 q)
  · exact fun q => k2 q
theorem S_X0_depth_14 {G : am_G} {d : Nat} {Q : Int → am_D → Prop} {σ : am_D} {v1 : Int} {v2 : Int} {v3 : Int} {v0 : Nat} {Q' : Int → am_D → Prop} (hc1 : am_isE v0) (hc : am_MI G d mX10_at [am_r (some (v0 + 1)), am_i v3] σ Q') (k : ∀ (x : Int) (σ' : am_D), Q' x σ' → am_X (am_FI G (d + 1) Q) mX0_depth (0, 0) 23 [some (am_r (some v0)), none, some (am_i v2), some (am_i v3)] [am_i x, am_i v1] (am_K0, σ')) : am_X (am_FI G (d + 1) Q) mX0_depth (0, 0) 14 [some (am_r (some v0)), some (am_i v1), some (am_i v2), some (am_i v3)] [] (am_K0, σ) := by
  refine am_r_iload_n (nx := 15) rfl rfl (show decode cX0_depth 14 = .ok (.iload_n 1, 1) by decide +kernel) rfl ?_
  refine am_r_aload_n (nx := 16) rfl rfl (show decode cX0_depth 15 = .ok (.aload_n 0, 1) by decide +kernel) rfl ?_
  refine am_r_getF (nx := 19) 0 cw0 (by decide) rfl (Or.inl fl_X0_15) (obE hc1) (fnE0 hc1) (show decode cX0_depth 16 = .ok (.getfield 15, 3) by decide +kernel) rfl ?_
  refine am_r_iload_n (nx := 20) rfl rfl (show decode cX0_depth 19 = .ok (.iload_n 3, 1) by decide +kernel) rfl ?_
  refine am_r_callS (as := [am_r (some (v0 + 1)), am_i v3]) (st := [am_i v1]) hc mb_X10_at mv_X10_at (Or.inr ⟨_, ml_X0_25⟩) rfl rfl (Nat.le_of_ble_eq_true rfl) ⟨Nat.le_refl _, Nat.le_refl _⟩ ⟨Nat.le_refl _, Nat.le_refl _⟩ (show decode cX0_depth 20 = .ok (.invokestatic 25, 3) by decide +kernel) ?_
  rintro _ _ ⟨x, σ', rfl, rfl, hq⟩ _
  exact am_x_fg [1] (k x σ' hq)
theorem S_X0_depth_23 {G : am_G} {d : Nat} {Q : Int → am_D → Prop} {σ : am_D} {v2 : Int} {v3 : Int} {s0 : Int} {s1 : Int} {v0 : Option Nat} (hr1 : -2147483648 ≤ s1 ∧ s1 ≤ 2147483647) (k1 : ¬ s1 = 3 → am_X (am_FI G (d + 1) Q) mX0_depth (0, 0) 31 [some (am_r v0), none, some (am_i v2), some (am_i v3)] [am_i s0] (am_K0, σ)) (k2 : ¬ (¬ s1 = 3) → am_X (am_FI G (d + 1) Q) mX0_depth (0, 0) 27 [some (am_r v0), none, some (am_i v2), some (am_i v3)] [am_i s0] (am_K0, σ)) : am_X (am_FI G (d + 1) Q) mX0_depth (0, 0) 23 [some (am_r v0), none, some (am_i v2), some (am_i v3)] [am_i s1, am_i s0] (am_K0, σ) := by
  refine am_r_iconst (nx := 24) (show decode cX0_depth 23 = .ok (.iconst 3, 1) by decide +kernel) rfl ?_
  refine am_r_icmp_ne (tg := 31) (nx := 27) (show decode cX0_depth 24 = .ok (.if_icmp .ne 7, 3) by decide +kernel) (by decide) rfl hr1 (by omega) ?_ ?_
  · exact fun q => k1 q
  · exact fun q => k2 q
theorem S_X0_depth_27 {G : am_G} {d : Nat} {Q : Int → am_D → Prop} {σ : am_D} {v2 : Int} {v3 : Int} {s0 : Int} {v0 : Option Nat}  (k : am_X (am_FI G (d + 1) Q) mX0_depth (0, 0) 32 [some (am_r v0), none, some (am_i v2), some (am_i v3)] [am_i (-1), am_i s0] (am_K0, σ)) : am_X (am_FI G (d + 1) Q) mX0_depth (0, 0) 27 [some (am_r v0), none, some (am_i v2), some (am_i v3)] [am_i s0] (am_K0, σ) := by
  refine am_r_iconst (nx := 28) (show decode cX0_depth 27 = .ok (.iconst (-1), 1) by decide +kernel) rfl ?_
  refine am_r_goto (tg := 32) (show decode cX0_depth 28 = .ok (.goto 4, 3) by decide +kernel) (by decide) ?_
  exact k
theorem S_X0_depth_31 {G : am_G} {d : Nat} {Q : Int → am_D → Prop} {σ : am_D} {v2 : Int} {v3 : Int} {s0 : Int} {v0 : Option Nat}  (k : am_X (am_FI G (d + 1) Q) mX0_depth (0, 0) 32 [some (am_r v0), none, some (am_i v2), some (am_i v3)] [am_i 1, am_i s0] (am_K0, σ)) : am_X (am_FI G (d + 1) Q) mX0_depth (0, 0) 31 [some (am_r v0), none, some (am_i v2), some (am_i v3)] [am_i s0] (am_K0, σ) := by
  refine am_r_iconst (nx := 32) (show decode cX0_depth 31 = .ok (.iconst 1, 1) by decide +kernel) rfl ?_
  exact k
theorem S_X0_depth_32 {G : am_G} {d : Nat} {Q : Int → am_D → Prop} {σ : am_D} {v2 : Int} {v3 : Int} {s0 : Int} {s1 : Int} {v0 : Option Nat}  (k : am_X (am_FI G (d + 1) Q) mX0_depth (0, 0) 34 [some (am_r v0), some (am_i (s0 + s1)), some (am_i v2), some (am_i v3)] [] (am_K0, σ)) : am_X (am_FI G (d + 1) Q) mX0_depth (0, 0) 32 [some (am_r v0), none, some (am_i v2), some (am_i v3)] [am_i s1, am_i s0] (am_K0, σ) := by
  refine am_r_iadd (nx := 33) (show decode cX0_depth 32 = .ok (.iadd, 1) by decide +kernel) rfl ?_
  refine am_r_istore_n (nx := 34) rfl (by decide) rfl (show decode cX0_depth 33 = .ok (.istore_n 1, 1) by decide +kernel) rfl ?_
  exact k
theorem S_X0_depth_34 {G : am_G} {d : Nat} {Q : Int → am_D → Prop} {σ : am_D} {v1 : Int} {v2 : Int} {v3 : Int} {Q' : Int → am_D → Prop} {v0 : Option Nat} (hc : am_MI G d mJ9_max_7cf53 [am_i v2, am_i v1] σ Q') (k : ∀ (x : Int) (σ' : am_D), Q' x σ' → am_X (am_FI G (d + 1) Q) mX0_depth (0, 0) 40 [some (am_r v0), some (am_i v1), some (am_i x), some (am_i v3)] [] (am_K0, σ')) : am_X (am_FI G (d + 1) Q) mX0_depth (0, 0) 34 [some (am_r v0), some (am_i v1), some (am_i v2), some (am_i v3)] [] (am_K0, σ) := by
  refine am_r_iload_n (nx := 35) rfl rfl (show decode cX0_depth 34 = .ok (.iload_n 2, 1) by decide +kernel) rfl ?_
  refine am_r_iload_n (nx := 36) rfl rfl (show decode cX0_depth 35 = .ok (.iload_n 1, 1) by decide +kernel) rfl ?_
  refine am_r_callS (as := [am_i v2, am_i v1]) (st := []) hc mb_J9_max_7cf53 mv_J9_max_7cf53 (Or.inl ml_X0_9) rfl rfl (Nat.le_of_ble_eq_true rfl) ⟨Nat.le_refl _, Nat.le_refl _⟩ ⟨Nat.le_refl _, Nat.le_refl _⟩ (show decode cX0_depth 36 = .ok (.invokestatic 9, 3) by decide +kernel) ?_
  rintro _ _ ⟨x, σ', rfl, rfl, hq⟩ _
  refine am_r_istore_n (nx := 40) rfl (by decide) rfl (show decode cX0_depth 39 = .ok (.istore_n 2, 1) by decide +kernel) rfl ?_
  exact (k x σ' hq)
theorem S_X0_depth_40 {G : am_G} {d : Nat} {Q : Int → am_D → Prop} {σ : am_D} {v1 : Int} {v2 : Int} {v3 : Int} {v0 : Option Nat}  (k : am_X (am_FI G (d + 1) Q) mX0_depth (0, 0) 6 [some (am_r v0), some (am_i v1), some (am_i v2), some (am_i (v3 + 1))] [] (am_K0, σ)) : am_X (am_FI G (d + 1) Q) mX0_depth (0, 0) 40 [some (am_r v0), some (am_i v1), some (am_i v2), some (am_i v3)] [] (am_K0, σ) := by
  refine am_r_iinc (nx := 43) rfl rfl (show decode cX0_depth 40 = .ok (.iinc 3 1, 3) by decide +kernel) rfl ?_
  refine am_r_goto (tg := 6) (show decode cX0_depth 43 = .ok (.goto (-37), 3) by decide +kernel) (by decide) ?_
  exact k
theorem S_X0_depth_46 {G : am_G} {d : Nat} {Q : Int → am_D → Prop} {σ : am_D} {v2 : Int}  (k : Q v2 σ) : am_X (am_FI G (d + 1) Q) mX0_depth (0, 0) 46 [none, none, some (am_i v2), none] [] (am_K0, σ) := by
  refine am_r_iload_n (nx := 47) rfl rfl (show decode cX0_depth 46 = .ok (.iload_n 2, 1) by decide +kernel) rfl ?_
  exact am_r_iret rfl rfl (show decode cX0_depth 47 = .ok (.ireturn, 1) by decide +kernel) ⟨_, _, rfl, rfl, k⟩
theorem S_X0_become_0 {G : am_G} {d : Nat} {Q : am_D → Prop} {σ : am_D} {v0 : Nat} {v1 : Option Nat} (hc1 : am_isE v0) (k : am_X (am_FV G (d + 1) Q) mX0_become (0, 0) 5 [some (am_r (some v0)), some (am_r v1), none] [] (am_K0, (am_pI σ v0 1 0))) : am_X (am_FV G (d + 1) Q) mX0_become (0, 0) 0 [some (am_r (some v0)), some (am_r v1), none] [] (am_K0, σ) := by
  refine am_r_aload_n (nx := 1) rfl rfl (show decode cX0_become 0 = .ok (.aload_n 0, 1) by decide +kernel) rfl ?_
  refine am_r_iconst (nx := 2) (show decode cX0_become 1 = .ok (.iconst 0, 1) by decide +kernel) rfl ?_
  refine am_r_putI (nx := 5) 1 cw0 (by decide) rfl (Or.inl fl_X0_21) (obE hc1) rfl (Or.inl rfl) (show decode cX0_become 2 = .ok (.putfield 21, 3) by decide +kernel) rfl ?_
  exact k
theorem S_X0_become_5 {G : am_G} {d : Nat} {Q : am_D → Prop} {σ : am_D} {v0 : Option Nat} {v1 : Option Nat}  (k : am_X (am_FV G (d + 1) Q) mX0_become (0, 0) 7 [some (am_r v0), some (am_r v1), some (am_i 0)] [] (am_K0, σ)) : am_X (am_FV G (d + 1) Q) mX0_become (0, 0) 5 [some (am_r v0), some (am_r v1), none] [] (am_K0, σ) := by
  refine am_r_iconst (nx := 6) (show decode cX0_become 5 = .ok (.iconst 0, 1) by decide +kernel) rfl ?_
  refine am_r_istore_n (nx := 7) rfl (by decide) rfl (show decode cX0_become 6 = .ok (.istore_n 2, 1) by decide +kernel) rfl ?_
  exact k
theorem S_X0_become_7 {G : am_G} {d : Nat} {Q : am_D → Prop} {σ : am_D} {v2 : Int} {v1 : Nat} {v0 : Option Nat} (hc1 : am_isE v1) (hr2 : -2147483648 ≤ v2 ∧ v2 ≤ 2147483647) (hr3 : -2147483648 ≤ (σ.1 v1 1) ∧ (σ.1 v1 1) ≤ 2147483647) (k1 : (σ.1 v1 1) ≤ v2 → am_X (am_FV G (d + 1) Q) mX0_become (0, 0) 30 [none, none, none] [] (am_K0, σ)) (k2 : ¬ ((σ.1 v1 1) ≤ v2) → am_X (am_FV G (d + 1) Q) mX0_become (0, 0) 15 [some (am_r v0), some (am_r (some v1)), some (am_i v2)] [] (am_K0, σ)) : am_X (am_FV G (d + 1) Q) mX0_become (0, 0) 7 [some (am_r v0), some (am_r (some v1)), some (am_i v2)] [] (am_K0, σ) := by
  refine am_r_iload_n (nx := 8) rfl rfl (show decode cX0_become 7 = .ok (.iload_n 2, 1) by decide +kernel) rfl ?_
  refine am_r_aload_n (nx := 9) rfl rfl (show decode cX0_become 8 = .ok (.aload_n 1, 1) by decide +kernel) rfl ?_
  refine am_r_getI (nx := 12) 1 cw0 (by decide) rfl (Or.inl fl_X0_21) (obE hc1) (show decode cX0_become 9 = .ok (.getfield 21, 3) by decide +kernel) rfl ?_
  refine am_r_icmp_ge (tg := 30) (nx := 15) (show decode cX0_become 12 = .ok (.if_icmp .ge 18, 3) by decide +kernel) (by decide) rfl hr2 hr3 ?_ ?_
  · exact fun q => am_x_fg [0, 1, 2] (k1 q)
  · exact fun q => k2 q
theorem S_X0_become_15 {G : am_G} {d : Nat} {Q : am_D → Prop} {σ : am_D} {v2 : Int} {v1 : Nat} {Q' : Int → am_D → Prop} {v0 : Option Nat} (hc : am_MI G d mX0_signAt [am_r (some v1), am_i v2] σ Q') (hc1 : am_isE v1) (k : ∀ (x : Int) (σ' : am_D), Q' x σ' → am_X (am_FV G (d + 1) Q) mX0_become (0, 0) 21 [some (am_r v0), some (am_r (some v1)), some (am_i v2)] [am_i x, am_r v0] (am_K0, σ')) : am_X (am_FV G (d + 1) Q) mX0_become (0, 0) 15 [some (am_r v0), some (am_r (some v1)), some (am_i v2)] [] (am_K0, σ) := by
  refine am_r_aload_n (nx := 16) rfl rfl (show decode cX0_become 15 = .ok (.aload_n 0, 1) by decide +kernel) rfl ?_
  refine am_r_aload_n (nx := 17) rfl rfl (show decode cX0_become 16 = .ok (.aload_n 1, 1) by decide +kernel) rfl ?_
  refine am_r_iload_n (nx := 18) rfl rfl (show decode cX0_become 17 = .ok (.iload_n 2, 1) by decide +kernel) rfl ?_
  refine am_r_callV (as := [am_i v2]) (st := [am_r v0]) hc mb_X0_signAt mv_X0_signAt (Or.inl ml_X0_29) (obE hc1) (by omega) (r := (RX0, TX0, 2)) rfl rfl rfl rfl (Nat.le_of_ble_eq_true rfl) ⟨Nat.le_refl _, Nat.le_refl _⟩ ⟨Nat.le_refl _, Nat.le_refl _⟩ (show decode cX0_become 18 = .ok (.invokevirtual 29, 3) by decide +kernel) ?_
  rintro _ _ ⟨x, σ', rfl, rfl, hq⟩ _
  exact (k x σ' hq)
theorem S_X0_become_21 {G : am_G} {d : Nat} {Q : am_D → Prop} {σ : am_D} {v2 : Int} {s1 : Int} {s0 : Nat} {Q' : am_D → Prop} {v0 : Option Nat} {v1 : Option Nat} (hc : am_MV G d mX0_add [am_r (some s0), am_i s1] σ Q') (hc1 : am_isE s0) (k : ∀ σ' : am_D, Q' σ' → am_X (am_FV G (d + 1) Q) mX0_become (0, 0) 24 [some (am_r v0), some (am_r v1), some (am_i v2)] [] (am_K0, σ')) : am_X (am_FV G (d + 1) Q) mX0_become (0, 0) 21 [some (am_r v0), some (am_r v1), some (am_i v2)] [am_i s1, am_r (some s0)] (am_K0, σ) := by
  refine am_r_callV (as := [am_i s1]) (st := []) hc mb_X0_add mv_X0_add (Or.inl ml_X0_33) (obE hc1) (by omega) (r := (RX0, TX0, 2)) rfl rfl rfl rfl (Nat.le_of_ble_eq_true rfl) ⟨Nat.le_refl _, Nat.le_refl _⟩ ⟨Nat.le_refl _, Nat.le_refl _⟩ (show decode cX0_become 21 = .ok (.invokevirtual 33, 3) by decide +kernel) ?_
  rintro _ _ ⟨σ', rfl, rfl, hq⟩ _
  exact (k σ' hq)
theorem S_X0_become_24 {G : am_G} {d : Nat} {Q : am_D → Prop} {σ : am_D} {v2 : Int} {v0 : Option Nat} {v1 : Option Nat}  (k : am_X (am_FV G (d + 1) Q) mX0_become (0, 0) 7 [some (am_r v0), some (am_r v1), some (am_i (v2 + 1))] [] (am_K0, σ)) : am_X (am_FV G (d + 1) Q) mX0_become (0, 0) 24 [some (am_r v0), some (am_r v1), some (am_i v2)] [] (am_K0, σ) := by
  refine am_r_iinc (nx := 27) rfl rfl (show decode cX0_become 24 = .ok (.iinc 2 1, 3) by decide +kernel) rfl ?_
  refine am_r_goto (tg := 7) (show decode cX0_become 27 = .ok (.goto (-20), 3) by decide +kernel) (by decide) ?_
  exact k
theorem S_X0_become_30 {G : am_G} {d : Nat} {Q : am_D → Prop} {σ : am_D}   (k : Q σ) : am_X (am_FV G (d + 1) Q) mX0_become (0, 0) 30 [none, none, none] [] (am_K0, σ) := by
  exact am_r_vret rfl (show decode cX0_become 30 = .ok (.return_, 1) by decide +kernel) ⟨_, rfl, rfl, k⟩
theorem S_X0_receive_0 {G : am_G} {d : Nat} {Q : am_D → Prop} {σ : am_D} {v0 : Nat} {v1 : Option Nat} (hc1 : am_isE v0) (k : am_X (am_FV G (d + 1) Q) mX0_receive (0, 0) 5 [some (am_r (some v0)), some (am_r v1), none, none] [] (am_K0, (am_pI σ v0 1 0))) : am_X (am_FV G (d + 1) Q) mX0_receive (0, 0) 0 [some (am_r (some v0)), some (am_r v1), none, none] [] (am_K0, σ) := by
  refine am_r_aload_n (nx := 1) rfl rfl (show decode cX0_receive 0 = .ok (.aload_n 0, 1) by decide +kernel) rfl ?_
  refine am_r_iconst (nx := 2) (show decode cX0_receive 1 = .ok (.iconst 0, 1) by decide +kernel) rfl ?_
  refine am_r_putI (nx := 5) 1 cw0 (by decide) rfl (Or.inl fl_X0_21) (obE hc1) rfl (Or.inl rfl) (show decode cX0_receive 2 = .ok (.putfield 21, 3) by decide +kernel) rfl ?_
  exact k
theorem S_X0_receive_5 {G : am_G} {d : Nat} {Q : am_D → Prop} {σ : am_D} {v1 : Nat} {v0 : Option Nat} (hc1 : am_isR v1) (k : am_X (am_FV G (d + 1) Q) mX0_receive (0, 0) 10 [some (am_r v0), some (am_r (some v1)), some (am_i (σ.1 v1 6)), none] [] (am_K0, σ)) : am_X (am_FV G (d + 1) Q) mX0_receive (0, 0) 5 [some (am_r v0), some (am_r (some v1)), none, none] [] (am_K0, σ) := by
  refine am_r_aload_n (nx := 6) rfl rfl (show decode cX0_receive 5 = .ok (.aload_n 1, 1) by decide +kernel) rfl ?_
  refine am_r_getI (nx := 9) 6 cw3 (by decide) rfl (Or.inr ⟨_, fl_X0_37⟩) (obR hc1) (show decode cX0_receive 6 = .ok (.getfield 37, 3) by decide +kernel) rfl ?_
  refine am_r_istore_n (nx := 10) rfl (by decide) rfl (show decode cX0_receive 9 = .ok (.istore_n 2, 1) by decide +kernel) rfl ?_
  exact k
theorem S_X0_receive_10 {G : am_G} {d : Nat} {Q : am_D → Prop} {σ : am_D} {v2 : Int} {v0 : Option Nat} {v1 : Option Nat}  (k : am_X (am_FV G (d + 1) Q) mX0_receive (0, 0) 12 [some (am_r v0), some (am_r v1), some (am_i v2), some (am_i 0)] [] (am_K0, σ)) : am_X (am_FV G (d + 1) Q) mX0_receive (0, 0) 10 [some (am_r v0), some (am_r v1), some (am_i v2), none] [] (am_K0, σ) := by
  refine am_r_iconst (nx := 11) (show decode cX0_receive 10 = .ok (.iconst 0, 1) by decide +kernel) rfl ?_
  refine am_r_istore_n (nx := 12) rfl (by decide) rfl (show decode cX0_receive 11 = .ok (.istore_n 3, 1) by decide +kernel) rfl ?_
  exact k
theorem S_X0_receive_12 {G : am_G} {d : Nat} {Q : am_D → Prop} {σ : am_D} {v2 : Int} {v3 : Int} {v1 : Nat} {v0 : Option Nat} (hc1 : am_isR v1) (hr2 : -2147483648 ≤ v3 ∧ v3 ≤ 2147483647) (hr3 : -2147483648 ≤ (σ.1 v1 8) ∧ (σ.1 v1 8) ≤ 2147483647) (k1 : (σ.1 v1 8) ≤ v3 → am_X (am_FV G (d + 1) Q) mX0_receive (0, 0) 47 [none, none, none, none] [] (am_K0, σ)) (k2 : ¬ ((σ.1 v1 8) ≤ v3) → am_X (am_FV G (d + 1) Q) mX0_receive (0, 0) 20 [some (am_r v0), some (am_r (some v1)), some (am_i v2), some (am_i v3)] [] (am_K0, σ)) : am_X (am_FV G (d + 1) Q) mX0_receive (0, 0) 12 [some (am_r v0), some (am_r (some v1)), some (am_i v2), some (am_i v3)] [] (am_K0, σ) := by
  refine am_r_iload_n (nx := 13) rfl rfl (show decode cX0_receive 12 = .ok (.iload_n 3, 1) by decide +kernel) rfl ?_
  refine am_r_aload_n (nx := 14) rfl rfl (show decode cX0_receive 13 = .ok (.aload_n 1, 1) by decide +kernel) rfl ?_
  refine am_r_getI (nx := 17) 8 cw3 (by decide) rfl (Or.inr ⟨_, fl_X0_42⟩) (obR hc1) (show decode cX0_receive 14 = .ok (.getfield 42, 3) by decide +kernel) rfl ?_
  refine am_r_icmp_ge (tg := 47) (nx := 20) (show decode cX0_receive 17 = .ok (.if_icmp .ge 30, 3) by decide +kernel) (by decide) rfl hr2 hr3 ?_ ?_
  · exact fun q => am_x_fg [0, 1, 2, 3] (k1 q)
  · exact fun q => k2 q
theorem S_X0_receive_20 {G : am_G} {d : Nat} {Q : am_D → Prop} {σ : am_D} {v2 : Int} {v3 : Int} {v1 : Nat} {Q' : Int → am_D → Prop} {v0 : Option Nat} (hc1 : am_isR v1) (hc : am_MI G d mX10_at [am_r (some (v1 + 2)), am_i v2] σ Q') (k : ∀ (x : Int) (σ' : am_D), Q' x σ' → am_X (am_FV G (d + 1) Q) mX0_receive (0, 0) 29 [some (am_r v0), some (am_r (some v1)), some (am_i v2), some (am_i v3)] [am_i x, am_r v0] (am_K0, σ')) : am_X (am_FV G (d + 1) Q) mX0_receive (0, 0) 20 [some (am_r v0), some (am_r (some v1)), some (am_i v2), some (am_i v3)] [] (am_K0, σ) := by
  refine am_r_aload_n (nx := 21) rfl rfl (show decode cX0_receive 20 = .ok (.aload_n 0, 1) by decide +kernel) rfl ?_
  refine am_r_aload_n (nx := 22) rfl rfl (show decode cX0_receive 21 = .ok (.aload_n 1, 1) by decide +kernel) rfl ?_
  refine am_r_getF (nx := 25) 1 cw3 (by decide) rfl (Or.inr ⟨_, fl_X0_43⟩) (obR hc1) (fnR1 hc1) (show decode cX0_receive 22 = .ok (.getfield 43, 3) by decide +kernel) rfl ?_
  refine am_r_iload_n (nx := 26) rfl rfl (show decode cX0_receive 25 = .ok (.iload_n 2, 1) by decide +kernel) rfl ?_
  refine am_r_callS (as := [am_r (some (v1 + 2)), am_i v2]) (st := [am_r v0]) hc mb_X10_at mv_X10_at (Or.inr ⟨_, ml_X0_25⟩) rfl rfl (Nat.le_of_ble_eq_true rfl) ⟨Nat.le_refl _, Nat.le_refl _⟩ ⟨Nat.le_refl _, Nat.le_refl _⟩ (show decode cX0_receive 26 = .ok (.invokestatic 25, 3) by decide +kernel) ?_
  rintro _ _ ⟨x, σ', rfl, rfl, hq⟩ _
  exact (k x σ' hq)
theorem S_X0_receive_29 {G : am_G} {d : Nat} {Q : am_D → Prop} {σ : am_D} {v2 : Int} {v3 : Int} {s1 : Int} {s0 : Nat} {Q' : am_D → Prop} {v0 : Option Nat} {v1 : Option Nat} (hc : am_MV G d mX0_add [am_r (some s0), am_i s1] σ Q') (hc1 : am_isE s0) (k : ∀ σ' : am_D, Q' σ' → am_X (am_FV G (d + 1) Q) mX0_receive (0, 0) 32 [some (am_r v0), some (am_r v1), some (am_i v2), some (am_i v3)] [] (am_K0, σ')) : am_X (am_FV G (d + 1) Q) mX0_receive (0, 0) 29 [some (am_r v0), some (am_r v1), some (am_i v2), some (am_i v3)] [am_i s1, am_r (some s0)] (am_K0, σ) := by
  refine am_r_callV (as := [am_i s1]) (st := []) hc mb_X0_add mv_X0_add (Or.inl ml_X0_33) (obE hc1) (by omega) (r := (RX0, TX0, 2)) rfl rfl rfl rfl (Nat.le_of_ble_eq_true rfl) ⟨Nat.le_refl _, Nat.le_refl _⟩ ⟨Nat.le_refl _, Nat.le_refl _⟩ (show decode cX0_receive 29 = .ok (.invokevirtual 33, 3) by decide +kernel) ?_
  rintro _ _ ⟨σ', rfl, rfl, hq⟩ _
  exact (k σ' hq)
theorem S_X0_receive_32 {G : am_G} {d : Nat} {Q : am_D → Prop} {σ : am_D} {v2 : Int} {v3 : Int} {v1 : Nat} {Q' : Int → am_D → Prop} {v0 : Option Nat} (hc1 : am_isR v1) (hc : am_MI G d mX10_at [am_r (some (v1 + 3)), am_i v2] σ Q') (k : ∀ (x : Int) (σ' : am_D), Q' x σ' → am_X (am_FV G (d + 1) Q) mX0_receive (0, 0) 41 [some (am_r v0), some (am_r (some v1)), some (am_i x), some (am_i v3)] [] (am_K0, σ')) : am_X (am_FV G (d + 1) Q) mX0_receive (0, 0) 32 [some (am_r v0), some (am_r (some v1)), some (am_i v2), some (am_i v3)] [] (am_K0, σ) := by
  refine am_r_aload_n (nx := 33) rfl rfl (show decode cX0_receive 32 = .ok (.aload_n 1, 1) by decide +kernel) rfl ?_
  refine am_r_getF (nx := 36) 2 cw3 (by decide) rfl (Or.inr ⟨_, fl_X0_44⟩) (obR hc1) (fnR2 hc1) (show decode cX0_receive 33 = .ok (.getfield 44, 3) by decide +kernel) rfl ?_
  refine am_r_iload_n (nx := 37) rfl rfl (show decode cX0_receive 36 = .ok (.iload_n 2, 1) by decide +kernel) rfl ?_
  refine am_r_callS (as := [am_r (some (v1 + 3)), am_i v2]) (st := []) hc mb_X10_at mv_X10_at (Or.inr ⟨_, ml_X0_25⟩) rfl rfl (Nat.le_of_ble_eq_true rfl) ⟨Nat.le_refl _, Nat.le_refl _⟩ ⟨Nat.le_refl _, Nat.le_refl _⟩ (show decode cX0_receive 37 = .ok (.invokestatic 25, 3) by decide +kernel) ?_
  rintro _ _ ⟨x, σ', rfl, rfl, hq⟩ _
  refine am_r_istore_n (nx := 41) rfl (by decide) rfl (show decode cX0_receive 40 = .ok (.istore_n 2, 1) by decide +kernel) rfl ?_
  exact (k x σ' hq)
theorem S_X0_receive_41 {G : am_G} {d : Nat} {Q : am_D → Prop} {σ : am_D} {v2 : Int} {v3 : Int} {v0 : Option Nat} {v1 : Option Nat}  (k : am_X (am_FV G (d + 1) Q) mX0_receive (0, 0) 12 [some (am_r v0), some (am_r v1), some (am_i v2), some (am_i (v3 + 1))] [] (am_K0, σ)) : am_X (am_FV G (d + 1) Q) mX0_receive (0, 0) 41 [some (am_r v0), some (am_r v1), some (am_i v2), some (am_i v3)] [] (am_K0, σ) := by
  refine am_r_iinc (nx := 44) rfl rfl (show decode cX0_receive 41 = .ok (.iinc 3 1, 3) by decide +kernel) rfl ?_
  refine am_r_goto (tg := 12) (show decode cX0_receive 44 = .ok (.goto (-32), 3) by decide +kernel) (by decide) ?_
  exact k
theorem S_X0_receive_47 {G : am_G} {d : Nat} {Q : am_D → Prop} {σ : am_D}   (k : Q σ) : am_X (am_FV G (d + 1) Q) mX0_receive (0, 0) 47 [none, none, none, none] [] (am_K0, σ) := by
  exact am_r_vret rfl (show decode cX0_receive 47 = .ok (.return_, 1) by decide +kernel) ⟨_, rfl, rfl, k⟩
end
