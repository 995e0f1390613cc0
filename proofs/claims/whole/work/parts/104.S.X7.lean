section
theorem S_X7_hasRoom_0 {G : am_G} {d : Nat} {Q : Int → am_D → Prop} {σ : am_D}  (hr1 : -2147483648 ≤ ((σ.1 1 1) + 20) ∧ ((σ.1 1 1) + 20) ≤ 2147483647) (k1 : 600 < ((σ.1 1 1) + 20) → am_X (am_FI G (d + 1) Q) mX7_hasRoom (0, 0) 17 [none] [] (am_K0, σ)) (k2 : ¬ (600 < ((σ.1 1 1) + 20)) → am_X (am_FI G (d + 1) Q) mX7_hasRoom (0, 0) 13 [none] [] (am_K0, σ)) : am_X (am_FI G (d + 1) Q) mX7_hasRoom (0, 0) 0 [some (am_r (some 1))] [] (am_K0, σ) := by
  refine am_r_aload_n (nx := 1) rfl rfl (show decode cX7_hasRoom 0 = .ok (.aload_n 0, 1) by decide +kernel) rfl ?_
  refine am_r_getI (nx := 4) 1 cw7 (by decide) rfl (Or.inl fl_X7_15) (ob_1) (show decode cX7_hasRoom 1 = .ok (.getfield 15, 3) by decide +kernel) rfl ?_
  refine am_r_bipush (nx := 6) rfl (show decode cX7_hasRoom 4 = .ok (.bipush 20, 2) by decide +kernel) rfl ?_
  refine am_r_iadd (nx := 7) (show decode cX7_hasRoom 6 = .ok (.iadd, 1) by decide +kernel) rfl ?_
  refine am_r_sipush (nx := 10) rfl (show decode cX7_hasRoom 7 = .ok (.sipush 600, 3) by decide +kernel) rfl ?_
  refine am_r_icmp_gt (tg := 17) (nx := 13) (show decode cX7_hasRoom 10 = .ok (.if_icmp .gt 7, 3) by decide +kernel) (by decide) rfl hr1 (by omega) ?_ ?_
  · exact fun q => am_x_fg [0] (k1 q)
  · exact fun q => am_x_fg [0] (k2 q)
theorem S_X7_hasRoom_13 {G : am_G} {d : Nat} {Q : Int → am_D → Prop} {σ : am_D}   (k : am_X (am_FI G (d + 1) Q) mX7_hasRoom (0, 0) 18 [none] [am_i 1] (am_K0, σ)) : am_X (am_FI G (d + 1) Q) mX7_hasRoom (0, 0) 13 [none] [] (am_K0, σ) := by
  refine am_r_iconst (nx := 14) (show decode cX7_hasRoom 13 = .ok (.iconst 1, 1) by decide +kernel) rfl ?_
  refine am_r_goto (tg := 18) (show decode cX7_hasRoom 14 = .ok (.goto 4, 3) by decide +kernel) (by decide) ?_
  exact k
theorem S_X7_hasRoom_17 {G : am_G} {d : Nat} {Q : Int → am_D → Prop} {σ : am_D}   (k : am_X (am_FI G (d + 1) Q) mX7_hasRoom (0, 0) 18 [none] [am_i 0] (am_K0, σ)) : am_X (am_FI G (d + 1) Q) mX7_hasRoom (0, 0) 17 [none] [] (am_K0, σ) := by
  refine am_r_iconst (nx := 18) (show decode cX7_hasRoom 17 = .ok (.iconst 0, 1) by decide +kernel) rfl ?_
  exact k
theorem S_X7_hasRoom_18 {G : am_G} {d : Nat} {Q : Int → am_D → Prop} {σ : am_D} {s0 : Int} (hz : s0 = 0 ∨ s0 = 1) (k : Q s0 σ) : am_X (am_FI G (d + 1) Q) mX7_hasRoom (0, 0) 18 [none] [am_i s0] (am_K0, σ) := by
  exact am_r_iret rfl (by rcases hz with hz | hz <;> rw [hz] <;> rfl) (show decode cX7_hasRoom 18 = .ok (.ireturn, 1) by decide +kernel) ⟨_, _, rfl, rfl, k⟩
theorem S_X7_append_0 {G : am_G} {d : Nat} {Q : am_D → Prop} {σ : am_D} {v1 : Int}  (k : am_X (am_FV G (d + 1) Q) mX7_append (0, 0) 3 [some (am_r (some 1)), some (am_i v1), some (am_i 24)] [] (am_K0, σ)) : am_X (am_FV G (d + 1) Q) mX7_append (0, 0) 0 [some (am_r (some 1)), some (am_i v1), none] [] (am_K0, σ) := by
  refine am_r_bipush (nx := 2) rfl (show decode cX7_append 0 = .ok (.bipush 24, 2) by decide +kernel) rfl ?_
  refine am_r_istore_n (nx := 3) rfl (by decide) rfl (show decode cX7_append 2 = .ok (.istore_n 2, 1) by decide +kernel) rfl ?_
  exact k
theorem S_X7_append_3 {G : am_G} {d : Nat} {Q : am_D → Prop} {σ : am_D} {v1 : Int} {v2 : Int} (hr1 : -2147483648 ≤ v2 ∧ v2 ≤ 2147483647) (k1 : v2 < 0 → am_X (am_FV G (d + 1) Q) mX7_append (0, 0) 41 [none, none, none] [] (am_K0, σ)) (k2 : ¬ (v2 < 0) → am_X (am_FV G (d + 1) Q) mX7_append (0, 0) 7 [some (am_r (some 1)), some (am_i v1), some (am_i v2)] [] (am_K0, σ)) : am_X (am_FV G (d + 1) Q) mX7_append (0, 0) 3 [some (am_r (some 1)), some (am_i v1), some (am_i v2)] [] (am_K0, σ) := by
  refine am_r_iload_n (nx := 4) rfl rfl (show decode cX7_append 3 = .ok (.iload_n 2, 1) by decide +kernel) rfl ?_
  refine am_r_if_lt (tg := 41) (nx := 7) (show decode cX7_append 4 = .ok (.ifCond .lt 37, 3) by decide +kernel) (by decide) rfl hr1 ?_ ?_
  · exact fun q => am_x_fg [0, 1, 2] (k1 q)
  · exact fun q => k2 q
theorem S_X7_append_7 {G : am_G} {d : Nat} {Q : am_D → Prop} {σ : am_D} {v1 : Int} {v2 : Int} {Q' : am_D → Prop} (hc : am_MV G d mX10_put [am_r (some 2), am_i (σ.1 1 1), am_i (am_and (am_ushr v1 v2) 255)] σ Q') (k : ∀ σ' : am_D, Q' σ' → am_X (am_FV G (d + 1) Q) mX7_append (0, 0) 25 [some (am_r (some 1)), some (am_i v1), some (am_i v2)] [] (am_K0, σ')) : am_X (am_FV G (d + 1) Q) mX7_append (0, 0) 7 [some (am_r (some 1)), some (am_i v1), some (am_i v2)] [] (am_K0, σ) := by
  refine am_r_aload_n (nx := 8) rfl rfl (show decode cX7_append 7 = .ok (.aload_n 0, 1) by decide +kernel) rfl ?_
  refine am_r_getF (nx := 11) 0 cw7 (by decide) rfl (Or.inl fl_X7_9) (ob_1) (fn_1_0) (show decode cX7_append 8 = .ok (.getfield 9, 3) by decide +kernel) rfl ?_
  refine am_r_aload_n (nx := 12) rfl rfl (show decode cX7_append 11 = .ok (.aload_n 0, 1) by decide +kernel) rfl ?_
  refine am_r_getI (nx := 15) 1 cw7 (by decide) rfl (Or.inl fl_X7_15) (ob_1) (show decode cX7_append 12 = .ok (.getfield 15, 3) by decide +kernel) rfl ?_
  refine am_r_iload_n (nx := 16) rfl rfl (show decode cX7_append 15 = .ok (.iload_n 1, 1) by decide +kernel) rfl ?_
  refine am_r_iload_n (nx := 17) rfl rfl (show decode cX7_append 16 = .ok (.iload_n 2, 1) by decide +kernel) rfl ?_
  refine am_r_iushr (nx := 18) (show decode cX7_append 17 = .ok (.iushr, 1) by decide +kernel) rfl ?_
  refine am_r_sipush (nx := 21) rfl (show decode cX7_append 18 = .ok (.sipush 255, 3) by decide +kernel) rfl ?_
  refine am_r_iand (nx := 22) (show decode cX7_append 21 = .ok (.iand, 1) by decide +kernel) rfl ?_
  refine am_r_callS (as := [am_r (some 2), am_i (σ.1 1 1), am_i (am_and (am_ushr v1 v2) 255)]) (st := []) hc mb_X10_put mv_X10_put (Or.inr ⟨_, ml_X7_19⟩) rfl rfl (Nat.le_of_ble_eq_true rfl) ⟨Nat.le_refl _, Nat.le_refl _⟩ ⟨Nat.le_refl _, Nat.le_refl _⟩ (show decode cX7_append 22 = .ok (.invokestatic 19, 3) by decide +kernel) ?_
  rintro _ _ ⟨σ', rfl, rfl, hq⟩ _
  exact (k σ' hq)
theorem S_X7_append_25 {G : am_G} {d : Nat} {Q : am_D → Prop} {σ : am_D} {v1 : Int} {v2 : Int}  (k : am_X (am_FV G (d + 1) Q) mX7_append (0, 0) 35 [some (am_r (some 1)), some (am_i v1), some (am_i v2)] [] (am_K0, (am_pI σ 1 1 ((σ.1 1 1) + 1)))) : am_X (am_FV G (d + 1) Q) mX7_append (0, 0) 25 [some (am_r (some 1)), some (am_i v1), some (am_i v2)] [] (am_K0, σ) := by
  refine am_r_aload_n (nx := 26) rfl rfl (show decode cX7_append 25 = .ok (.aload_n 0, 1) by decide +kernel) rfl ?_
  refine am_r_dup (nx := 27) rfl (show decode cX7_append 26 = .ok (.dup, 1) by decide +kernel) rfl ?_
  refine am_r_getI (nx := 30) 1 cw7 (by decide) rfl (Or.inl fl_X7_15) (ob_1) (show decode cX7_append 27 = .ok (.getfield 15, 3) by decide +kernel) rfl ?_
  refine am_r_iconst (nx := 31) (show decode cX7_append 30 = .ok (.iconst 1, 1) by decide +kernel) rfl ?_
  refine am_r_iadd (nx := 32) (show decode cX7_append 31 = .ok (.iadd, 1) by decide +kernel) rfl ?_
  refine am_r_putI (nx := 35) 1 cw7 (by decide) rfl (Or.inl fl_X7_15) (ob_1) rfl (Or.inl rfl) (show decode cX7_append 32 = .ok (.putfield 15, 3) by decide +kernel) rfl ?_
  exact k
theorem S_X7_append_35 {G : am_G} {d : Nat} {Q : am_D → Prop} {σ : am_D} {v1 : Int} {v2 : Int}  (k : am_X (am_FV G (d + 1) Q) mX7_append (0, 0) 3 [some (am_r (some 1)), some (am_i v1), some (am_i (v2 + (-8)))] [] (am_K0, σ)) : am_X (am_FV G (d + 1) Q) mX7_append (0, 0) 35 [some (am_r (some 1)), some (am_i v1), some (am_i v2)] [] (am_K0, σ) := by
  refine am_r_iinc (nx := 38) rfl rfl (show decode cX7_append 35 = .ok (.iinc 2 (-8), 3) by decide +kernel) rfl ?_
  refine am_r_goto (tg := 3) (show decode cX7_append 38 = .ok (.goto (-35), 3) by decide +kernel) (by decide) ?_
  exact k
theorem S_X7_append_41 {G : am_G} {d : Nat} {Q : am_D → Prop} {σ : am_D}   (k : Q σ) : am_X (am_FV G (d + 1) Q) mX7_append (0, 0) 41 [none, none, none] [] (am_K0, σ) := by
  exact am_r_vret rfl (show decode cX7_append 41 = .ok (.return_, 1) by decide +kernel) ⟨_, rfl, rfl, k⟩
theorem S_X7_rewind_0 {G : am_G} {d : Nat} {Q : am_D → Prop} {σ : am_D}   (k : am_X (am_FV G (d + 1) Q) mX7_rewind (0, 0) 5 [some (am_r (some 1))] [] (am_K0, (am_pI σ 1 3 0))) : am_X (am_FV G (d + 1) Q) mX7_rewind (0, 0) 0 [some (am_r (some 1))] [] (am_K0, σ) := by
  refine am_r_aload_n (nx := 1) rfl rfl (show decode cX7_rewind 0 = .ok (.aload_n 0, 1) by decide +kernel) rfl ?_
  refine am_r_iconst (nx := 2) (show decode cX7_rewind 1 = .ok (.iconst 0, 1) by decide +kernel) rfl ?_
  refine am_r_putI (nx := 5) 3 cw7 (by decide) rfl (Or.inl fl_X7_23) (ob_1) rfl (Or.inl rfl) (show decode cX7_rewind 2 = .ok (.putfield 23, 3) by decide +kernel) rfl ?_
  exact k
theorem S_X7_rewind_5 {G : am_G} {d : Nat} {Q : am_D → Prop} {σ : am_D}   (k : am_X (am_FV G (d + 1) Q) mX7_rewind (0, 0) 10 [some (am_r (some 1))] [] (am_K0, (am_pI σ 1 4 0))) : am_X (am_FV G (d + 1) Q) mX7_rewind (0, 0) 5 [some (am_r (some 1))] [] (am_K0, σ) := by
  refine am_r_aload_n (nx := 6) rfl rfl (show decode cX7_rewind 5 = .ok (.aload_n 0, 1) by decide +kernel) rfl ?_
  refine am_r_iconst (nx := 7) (show decode cX7_rewind 6 = .ok (.iconst 0, 1) by decide +kernel) rfl ?_
  refine am_r_putI (nx := 10) 4 cw7 (by decide) rfl (Or.inl fl_X7_26) (ob_1) rfl (Or.inl rfl) (show decode cX7_rewind 7 = .ok (.putfield 26, 3) by decide +kernel) rfl ?_
  exact k
theorem S_X7_rewind_10 {G : am_G} {d : Nat} {Q : am_D → Prop} {σ : am_D}   (k : am_X (am_FV G (d + 1) Q) mX7_rewind (0, 0) 15 [none] [] (am_K0, (am_pI σ 1 5 0))) : am_X (am_FV G (d + 1) Q) mX7_rewind (0, 0) 10 [some (am_r (some 1))] [] (am_K0, σ) := by
  refine am_r_aload_n (nx := 11) rfl rfl (show decode cX7_rewind 10 = .ok (.aload_n 0, 1) by decide +kernel) rfl ?_
  refine am_r_iconst (nx := 12) (show decode cX7_rewind 11 = .ok (.iconst 0, 1) by decide +kernel) rfl ?_
  refine am_r_putI (nx := 15) 5 cw7 (by decide) rfl (Or.inl fl_X7_29) (ob_1) rfl (Or.inl rfl) (show decode cX7_rewind 12 = .ok (.putfield 29, 3) by decide +kernel) rfl ?_
  exact am_x_fg [0] k
theorem S_X7_rewind_15 {G : am_G} {d : Nat} {Q : am_D → Prop} {σ : am_D}   (k : Q σ) : am_X (am_FV G (d + 1) Q) mX7_rewind (0, 0) 15 [none] [] (am_K0, σ) := by
  exact am_r_vret rfl (show decode cX7_rewind 15 = .ok (.return_, 1) by decide +kernel) ⟨_, rfl, rfl, k⟩
theorem S_X7_fail_0 {G : am_G} {d : Nat} {Q : am_D → Prop} {σ : am_D} {v1 : Int} (hr1 : -2147483648 ≤ (σ.1 1 5) ∧ (σ.1 1 5) ≤ 2147483647) (k1 : ¬ (σ.1 1 5) = 0 → am_X (am_FV G (d + 1) Q) mX7_fail (0, 0) 20 [none, none] [] (am_K0, σ)) (k2 : ¬ (¬ (σ.1 1 5) = 0) → am_X (am_FV G (d + 1) Q) mX7_fail (0, 0) 7 [some (am_r (some 1)), some (am_i v1)] [] (am_K0, σ)) : am_X (am_FV G (d + 1) Q) mX7_fail (0, 0) 0 [some (am_r (some 1)), some (am_i v1)] [] (am_K0, σ) := by
  refine am_r_aload_n (nx := 1) rfl rfl (show decode cX7_fail 0 = .ok (.aload_n 0, 1) by decide +kernel) rfl ?_
  refine am_r_getI (nx := 4) 5 cw7 (by decide) rfl (Or.inl fl_X7_29) (ob_1) (show decode cX7_fail 1 = .ok (.getfield 29, 3) by decide +kernel) rfl ?_
  refine am_r_if_ne (tg := 20) (nx := 7) (show decode cX7_fail 4 = .ok (.ifCond .ne 16, 3) by decide +kernel) (by decide) rfl hr1 ?_ ?_
  · exact fun q => am_x_fg [0, 1] (k1 q)
  · exact fun q => k2 q
theorem S_X7_fail_7 {G : am_G} {d : Nat} {Q : am_D → Prop} {σ : am_D} {v1 : Int}  (k : am_X (am_FV G (d + 1) Q) mX7_fail (0, 0) 20 [none, none] [] (am_K0, (am_pI σ 1 5 (v1 + (8 * (σ.1 1 3)))))) : am_X (am_FV G (d + 1) Q) mX7_fail (0, 0) 7 [some (am_r (some 1)), some (am_i v1)] [] (am_K0, σ) := by
  refine am_r_aload_n (nx := 8) rfl rfl (show decode cX7_fail 7 = .ok (.aload_n 0, 1) by decide +kernel) rfl ?_
  refine am_r_iload_n (nx := 9) rfl rfl (show decode cX7_fail 8 = .ok (.iload_n 1, 1) by decide +kernel) rfl ?_
  refine am_r_bipush (nx := 11) rfl (show decode cX7_fail 9 = .ok (.bipush 8, 2) by decide +kernel) rfl ?_
  refine am_r_aload_n (nx := 12) rfl rfl (show decode cX7_fail 11 = .ok (.aload_n 0, 1) by decide +kernel) rfl ?_
  refine am_r_getI (nx := 15) 3 cw7 (by decide) rfl (Or.inl fl_X7_23) (ob_1) (show decode cX7_fail 12 = .ok (.getfield 23, 3) by decide +kernel) rfl ?_
  refine am_r_imul (nx := 16) (show decode cX7_fail 15 = .ok (.imul, 1) by decide +kernel) rfl ?_
  refine am_r_iadd (nx := 17) (show decode cX7_fail 16 = .ok (.iadd, 1) by decide +kernel) rfl ?_
  refine am_r_putI (nx := 20) 5 cw7 (by decide) rfl (Or.inl fl_X7_29) (ob_1) rfl (Or.inl rfl) (show decode cX7_fail 17 = .ok (.putfield 29, 3) by decide +kernel) rfl ?_
  exact am_x_fg [0, 1] k
theorem S_X7_fail_20 {G : am_G} {d : Nat} {Q : am_D → Prop} {σ : am_D}   (k : Q σ) : am_X (am_FV G (d + 1) Q) mX7_fail (0, 0) 20 [none, none] [] (am_K0, σ) := by
  exact am_r_vret rfl (show decode cX7_fail 20 = .ok (.return_, 1) by decide +kernel) ⟨_, rfl, rfl, k⟩
theorem S_X7_advance_0 {G : am_G} {d : Nat} {Q : am_D → Prop} {σ : am_D}  (hr1 : -2147483648 ≤ (σ.1 1 5) ∧ (σ.1 1 5) ≤ 2147483647) (k1 : (σ.1 1 5) = 0 → am_X (am_FV G (d + 1) Q) mX7_advance (0, 0) 8 [some (am_r (some 1)), none] [] (am_K0, σ)) (k2 : ¬ ((σ.1 1 5) = 0) → am_X (am_FV G (d + 1) Q) mX7_advance (0, 0) 7 [none, none] [] (am_K0, σ)) : am_X (am_FV G (d + 1) Q) mX7_advance (0, 0) 0 [some (am_r (some 1)), none] [] (am_K0, σ) := by
  refine am_r_aload_n (nx := 1) rfl rfl (show decode cX7_advance 0 = .ok (.aload_n 0, 1) by decide +kernel) rfl ?_
  refine am_r_getI (nx := 4) 5 cw7 (by decide) rfl (Or.inl fl_X7_29) (ob_1) (show decode cX7_advance 1 = .ok (.getfield 29, 3) by decide +kernel) rfl ?_
  refine am_r_if_eq (tg := 8) (nx := 7) (show decode cX7_advance 4 = .ok (.ifCond .eq 4, 3) by decide +kernel) (by decide) rfl hr1 ?_ ?_
  · exact fun q => k1 q
  · exact fun q => am_x_fg [0] (k2 q)
theorem S_X7_advance_7 {G : am_G} {d : Nat} {Q : am_D → Prop} {σ : am_D}   (k : Q σ) : am_X (am_FV G (d + 1) Q) mX7_advance (0, 0) 7 [none, none] [] (am_K0, σ) := by
  exact am_r_vret rfl (show decode cX7_advance 7 = .ok (.return_, 1) by decide +kernel) ⟨_, rfl, rfl, k⟩
theorem S_X7_advance_8 {G : am_G} {d : Nat} {Q : am_D → Prop} {σ : am_D}   (k : am_X (am_FV G (d + 1) Q) mX7_advance (0, 0) 13 [some (am_r (some 1)), some (am_i (σ.1 1 4))] [] (am_K0, σ)) : am_X (am_FV G (d + 1) Q) mX7_advance (0, 0) 8 [some (am_r (some 1)), none] [] (am_K0, σ) := by
  refine am_r_aload_n (nx := 9) rfl rfl (show decode cX7_advance 8 = .ok (.aload_n 0, 1) by decide +kernel) rfl ?_
  refine am_r_getI (nx := 12) 4 cw7 (by decide) rfl (Or.inl fl_X7_26) (ob_1) (show decode cX7_advance 9 = .ok (.getfield 26, 3) by decide +kernel) rfl ?_
  refine am_r_istore_n (nx := 13) rfl (by decide) rfl (show decode cX7_advance 12 = .ok (.istore_n 1, 1) by decide +kernel) rfl ?_
  exact k
theorem S_X7_advance_13 {G : am_G} {d : Nat} {Q : am_D → Prop} {σ : am_D} {v1 : Int} (hr1 : -2147483648 ≤ v1 ∧ v1 ≤ 2147483647) (hr2 : -2147483648 ≤ (σ.1 1 1) ∧ (σ.1 1 1) ≤ 2147483647) (k1 : (σ.1 1 1) ≤ v1 → am_X (am_FV G (d + 1) Q) mX7_advance (0, 0) 53 [some (am_r (some 1)), some (am_i v1)] [] (am_K0, σ)) (k2 : ¬ ((σ.1 1 1) ≤ v1) → am_X (am_FV G (d + 1) Q) mX7_advance (0, 0) 21 [some (am_r (some 1)), some (am_i v1)] [] (am_K0, σ)) : am_X (am_FV G (d + 1) Q) mX7_advance (0, 0) 13 [some (am_r (some 1)), some (am_i v1)] [] (am_K0, σ) := by
  refine am_r_iload_n (nx := 14) rfl rfl (show decode cX7_advance 13 = .ok (.iload_n 1, 1) by decide +kernel) rfl ?_
  refine am_r_aload_n (nx := 15) rfl rfl (show decode cX7_advance 14 = .ok (.aload_n 0, 1) by decide +kernel) rfl ?_
  refine am_r_getI (nx := 18) 1 cw7 (by decide) rfl (Or.inl fl_X7_15) (ob_1) (show decode cX7_advance 15 = .ok (.getfield 15, 3) by decide +kernel) rfl ?_
  refine am_r_icmp_ge (tg := 53) (nx := 21) (show decode cX7_advance 18 = .ok (.if_icmp .ge 35, 3) by decide +kernel) (by decide) rfl hr1 hr2 ?_ ?_
  · exact fun q => k1 q
  · exact fun q => k2 q
theorem S_X7_advance_21 {G : am_G} {d : Nat} {Q : am_D → Prop} {σ : am_D} {v1 : Int} {Q' : Int → am_D → Prop} (hc : am_MI G d mX10_at [am_r (some 2), am_i v1] σ Q') (k : ∀ (x : Int) (σ' : am_D), Q' x σ' → am_X (am_FV G (d + 1) Q) mX7_advance (0, 0) 29 [some (am_r (some 1)), some (am_i v1)] [am_i x] (am_K0, σ')) : am_X (am_FV G (d + 1) Q) mX7_advance (0, 0) 21 [some (am_r (some 1)), some (am_i v1)] [] (am_K0, σ) := by
  refine am_r_aload_n (nx := 22) rfl rfl (show decode cX7_advance 21 = .ok (.aload_n 0, 1) by decide +kernel) rfl ?_
  refine am_r_getF (nx := 25) 0 cw7 (by decide) rfl (Or.inl fl_X7_9) (ob_1) (fn_1_0) (show decode cX7_advance 22 = .ok (.getfield 9, 3) by decide +kernel) rfl ?_
  refine am_r_iload_n (nx := 26) rfl rfl (show decode cX7_advance 25 = .ok (.iload_n 1, 1) by decide +kernel) rfl ?_
  refine am_r_callS (as := [am_r (some 2), am_i v1]) (st := []) hc mb_X10_at mv_X10_at (Or.inr ⟨_, ml_X7_32⟩) rfl rfl (Nat.le_of_ble_eq_true rfl) ⟨Nat.le_refl _, Nat.le_refl _⟩ ⟨Nat.le_refl _, Nat.le_refl _⟩ (show decode cX7_advance 26 = .ok (.invokestatic 32, 3) by decide +kernel) ?_
  rintro _ _ ⟨x, σ', rfl, rfl, hq⟩ _
  exact (k x σ' hq)
theorem S_X7_advance_29 {G : am_G} {d : Nat} {Q : am_D → Prop} {σ : am_D} {v1 : Int} {s0 : Int} (hr1 : -2147483648 ≤ s0 ∧ s0 ≤ 2147483647) (k1 : s0 = 32 → am_X (am_FV G (d + 1) Q) mX7_advance (0, 0) 47 [some (am_r (some 1)), some (am_i v1)] [] (am_K0, σ)) (k2 : ¬ (s0 = 32) → am_X (am_FV G (d + 1) Q) mX7_advance (0, 0) 34 [some (am_r (some 1)), some (am_i v1)] [] (am_K0, σ)) : am_X (am_FV G (d + 1) Q) mX7_advance (0, 0) 29 [some (am_r (some 1)), some (am_i v1)] [am_i s0] (am_K0, σ) := by
  refine am_r_bipush (nx := 31) rfl (show decode cX7_advance 29 = .ok (.bipush 32, 2) by decide +kernel) rfl ?_
  refine am_r_icmp_eq (tg := 47) (nx := 34) (show decode cX7_advance 31 = .ok (.if_icmp .eq 16, 3) by decide +kernel) (by decide) rfl hr1 (by omega) ?_ ?_
  · exact fun q => k1 q
  · exact fun q => k2 q
theorem S_X7_advance_34 {G : am_G} {d : Nat} {Q : am_D → Prop} {σ : am_D} {v1 : Int} {Q' : Int → am_D → Prop} (hc : am_MI G d mX10_at [am_r (some 2), am_i v1] σ Q') (k : ∀ (x : Int) (σ' : am_D), Q' x σ' → am_X (am_FV G (d + 1) Q) mX7_advance (0, 0) 42 [some (am_r (some 1)), some (am_i v1)] [am_i x] (am_K0, σ')) : am_X (am_FV G (d + 1) Q) mX7_advance (0, 0) 34 [some (am_r (some 1)), some (am_i v1)] [] (am_K0, σ) := by
  refine am_r_aload_n (nx := 35) rfl rfl (show decode cX7_advance 34 = .ok (.aload_n 0, 1) by decide +kernel) rfl ?_
  refine am_r_getF (nx := 38) 0 cw7 (by decide) rfl (Or.inl fl_X7_9) (ob_1) (fn_1_0) (show decode cX7_advance 35 = .ok (.getfield 9, 3) by decide +kernel) rfl ?_
  refine am_r_iload_n (nx := 39) rfl rfl (show decode cX7_advance 38 = .ok (.iload_n 1, 1) by decide +kernel) rfl ?_
  refine am_r_callS (as := [am_r (some 2), am_i v1]) (st := []) hc mb_X10_at mv_X10_at (Or.inr ⟨_, ml_X7_32⟩) rfl rfl (Nat.le_of_ble_eq_true rfl) ⟨Nat.le_refl _, Nat.le_refl _⟩ ⟨Nat.le_refl _, Nat.le_refl _⟩ (show decode cX7_advance 39 = .ok (.invokestatic 32, 3) by decide +kernel) ?_
  rintro _ _ ⟨x, σ', rfl, rfl, hq⟩ _
  exact (k x σ' hq)
theorem S_X7_advance_42 {G : am_G} {d : Nat} {Q : am_D → Prop} {σ : am_D} {v1 : Int} {s0 : Int} (hr1 : -2147483648 ≤ s0 ∧ s0 ≤ 2147483647) (k1 : ¬ s0 = 10 → am_X (am_FV G (d + 1) Q) mX7_advance (0, 0) 53 [some (am_r (some 1)), some (am_i v1)] [] (am_K0, σ)) (k2 : ¬ (¬ s0 = 10) → am_X (am_FV G (d + 1) Q) mX7_advance (0, 0) 47 [some (am_r (some 1)), some (am_i v1)] [] (am_K0, σ)) : am_X (am_FV G (d + 1) Q) mX7_advance (0, 0) 42 [some (am_r (some 1)), some (am_i v1)] [am_i s0] (am_K0, σ) := by
  refine am_r_bipush (nx := 44) rfl (show decode cX7_advance 42 = .ok (.bipush 10, 2) by decide +kernel) rfl ?_
  refine am_r_icmp_ne (tg := 53) (nx := 47) (show decode cX7_advance 44 = .ok (.if_icmp .ne 9, 3) by decide +kernel) (by decide) rfl hr1 (by omega) ?_ ?_
  · exact fun q => k1 q
  · exact fun q => k2 q
theorem S_X7_advance_47 {G : am_G} {d : Nat} {Q : am_D → Prop} {σ : am_D} {v1 : Int}  (k : am_X (am_FV G (d + 1) Q) mX7_advance (0, 0) 13 [some (am_r (some 1)), some (am_i (v1 + 1))] [] (am_K0, σ)) : am_X (am_FV G (d + 1) Q) mX7_advance (0, 0) 47 [some (am_r (some 1)), some (am_i v1)] [] (am_K0, σ) := by
  refine am_r_iinc (nx := 50) rfl rfl (show decode cX7_advance 47 = .ok (.iinc 1 1, 3) by decide +kernel) rfl ?_
  refine am_r_goto (tg := 13) (show decode cX7_advance 50 = .ok (.goto (-37), 3) by decide +kernel) (by decide) ?_
  exact k
theorem S_X7_advance_53 {G : am_G} {d : Nat} {Q : am_D → Prop} {σ : am_D} {v1 : Int}  (k : am_X (am_FV G (d + 1) Q) mX7_advance (0, 0) 58 [some (am_r (some 1)), some (am_i v1)] [] (am_K0, (am_pI σ 1 3 v1))) : am_X (am_FV G (d + 1) Q) mX7_advance (0, 0) 53 [some (am_r (some 1)), some (am_i v1)] [] (am_K0, σ) := by
  refine am_r_aload_n (nx := 54) rfl rfl (show decode cX7_advance 53 = .ok (.aload_n 0, 1) by decide +kernel) rfl ?_
  refine am_r_iload_n (nx := 55) rfl rfl (show decode cX7_advance 54 = .ok (.iload_n 1, 1) by decide +kernel) rfl ?_
  refine am_r_putI (nx := 58) 3 cw7 (by decide) rfl (Or.inl fl_X7_23) (ob_1) rfl (Or.inl rfl) (show decode cX7_advance 55 = .ok (.putfield 23, 3) by decide +kernel) rfl ?_
  exact k
theorem S_X7_advance_58 {G : am_G} {d : Nat} {Q : am_D → Prop} {σ : am_D} {v1 : Int} (hr1 : -2147483648 ≤ v1 ∧ v1 ≤ 2147483647) (hr2 : -2147483648 ≤ (σ.1 1 1) ∧ (σ.1 1 1) ≤ 2147483647) (k1 : (σ.1 1 1) ≤ v1 → am_X (am_FV G (d + 1) Q) mX7_advance (0, 0) 81 [some (am_r (some 1)), some (am_i v1)] [am_r (some 1)] (am_K0, σ)) (k2 : ¬ ((σ.1 1 1) ≤ v1) → am_X (am_FV G (d + 1) Q) mX7_advance (0, 0) 67 [some (am_r (some 1)), some (am_i v1)] [am_r (some 1)] (am_K0, σ)) : am_X (am_FV G (d + 1) Q) mX7_advance (0, 0) 58 [some (am_r (some 1)), some (am_i v1)] [] (am_K0, σ) := by
  refine am_r_aload_n (nx := 59) rfl rfl (show decode cX7_advance 58 = .ok (.aload_n 0, 1) by decide +kernel) rfl ?_
  refine am_r_iload_n (nx := 60) rfl rfl (show decode cX7_advance 59 = .ok (.iload_n 1, 1) by decide +kernel) rfl ?_
  refine am_r_aload_n (nx := 61) rfl rfl (show decode cX7_advance 60 = .ok (.aload_n 0, 1) by decide +kernel) rfl ?_
  refine am_r_getI (nx := 64) 1 cw7 (by decide) rfl (Or.inl fl_X7_15) (ob_1) (show decode cX7_advance 61 = .ok (.getfield 15, 3) by decide +kernel) rfl ?_
  refine am_r_icmp_ge (tg := 81) (nx := 67) (show decode cX7_advance 64 = .ok (.if_icmp .ge 17, 3) by decide +kernel) (by decide) rfl hr1 hr2 ?_ ?_
  · exact fun q => k1 q
  · exact fun q => k2 q
theorem S_X7_advance_67 {G : am_G} {d : Nat} {Q : am_D → Prop} {σ : am_D} {v1 : Int} {Q' : Int → am_D → Prop} (hc : am_MI G d mX10_at [am_r (some 2), am_i v1] σ Q') (k : ∀ (x : Int) (σ' : am_D), Q' x σ' → am_X (am_FV G (d + 1) Q) mX7_advance (0, 0) 75 [some (am_r (some 1)), some (am_i v1)] [am_i x, am_r (some 1)] (am_K0, σ')) : am_X (am_FV G (d + 1) Q) mX7_advance (0, 0) 67 [some (am_r (some 1)), some (am_i v1)] [am_r (some 1)] (am_K0, σ) := by
  refine am_r_aload_n (nx := 68) rfl rfl (show decode cX7_advance 67 = .ok (.aload_n 0, 1) by decide +kernel) rfl ?_
  refine am_r_getF (nx := 71) 0 cw7 (by decide) rfl (Or.inl fl_X7_9) (ob_1) (fn_1_0) (show decode cX7_advance 68 = .ok (.getfield 9, 3) by decide +kernel) rfl ?_
  refine am_r_iload_n (nx := 72) rfl rfl (show decode cX7_advance 71 = .ok (.iload_n 1, 1) by decide +kernel) rfl ?_
  refine am_r_callS (as := [am_r (some 2), am_i v1]) (st := [am_r (some 1)]) hc mb_X10_at mv_X10_at (Or.inr ⟨_, ml_X7_32⟩) rfl rfl (Nat.le_of_ble_eq_true rfl) ⟨Nat.le_refl _, Nat.le_refl _⟩ ⟨Nat.le_refl _, Nat.le_refl _⟩ (show decode cX7_advance 72 = .ok (.invokestatic 32, 3) by decide +kernel) ?_
  rintro _ _ ⟨x, σ', rfl, rfl, hq⟩ _
  exact (k x σ' hq)
theorem S_X7_advance_75 {G : am_G} {d : Nat} {Q : am_D → Prop} {σ : am_D} {v1 : Int} {s1 : Int} {Q' : Int → am_D → Prop} (hc : am_MI G d mX7_kindOf [am_i s1] σ Q') (k : ∀ (x : Int) (σ' : am_D), Q' x σ' → am_X (am_FV G (d + 1) Q) mX7_advance (0, 0) 78 [some (am_r (some 1)), some (am_i v1)] [am_i x, am_r (some 1)] (am_K0, σ')) : am_X (am_FV G (d + 1) Q) mX7_advance (0, 0) 75 [some (am_r (some 1)), some (am_i v1)] [am_i s1, am_r (some 1)] (am_K0, σ) := by
  refine am_r_callS (as := [am_i s1]) (st := [am_r (some 1)]) hc mb_X7_kindOf mv_X7_kindOf (Or.inl ml_X7_36) rfl rfl (Nat.le_of_ble_eq_true rfl) ⟨Nat.le_refl _, Nat.le_refl _⟩ ⟨Nat.le_refl _, Nat.le_refl _⟩ (show decode cX7_advance 75 = .ok (.invokestatic 36, 3) by decide +kernel) ?_
  rintro _ _ ⟨x, σ', rfl, rfl, hq⟩ _
  exact (k x σ' hq)
theorem S_X7_advance_78 {G : am_G} {d : Nat} {Q : am_D → Prop} {σ : am_D} {v1 : Int} {s1 : Int}  (k : am_X (am_FV G (d + 1) Q) mX7_advance (0, 0) 82 [some (am_r (some 1)), some (am_i v1)] [am_i s1, am_r (some 1)] (am_K0, σ)) : am_X (am_FV G (d + 1) Q) mX7_advance (0, 0) 78 [some (am_r (some 1)), some (am_i v1)] [am_i s1, am_r (some 1)] (am_K0, σ) := by
  refine am_r_goto (tg := 82) (show decode cX7_advance 78 = .ok (.goto 4, 3) by decide +kernel) (by decide) ?_
  exact k
theorem S_X7_advance_81 {G : am_G} {d : Nat} {Q : am_D → Prop} {σ : am_D} {v1 : Int}  (k : am_X (am_FV G (d + 1) Q) mX7_advance (0, 0) 82 [some (am_r (some 1)), some (am_i v1)] [am_i 0, am_r (some 1)] (am_K0, σ)) : am_X (am_FV G (d + 1) Q) mX7_advance (0, 0) 81 [some (am_r (some 1)), some (am_i v1)] [am_r (some 1)] (am_K0, σ) := by
  refine am_r_iconst (nx := 82) (show decode cX7_advance 81 = .ok (.iconst 0, 1) by decide +kernel) rfl ?_
  exact k
theorem S_X7_advance_82 {G : am_G} {d : Nat} {Q : am_D → Prop} {σ : am_D} {v1 : Int} {s1 : Int}  (k : am_X (am_FV G (d + 1) Q) mX7_advance (0, 0) 85 [some (am_r (some 1)), some (am_i v1)] [] (am_K0, (am_pI σ 1 2 s1))) : am_X (am_FV G (d + 1) Q) mX7_advance (0, 0) 82 [some (am_r (some 1)), some (am_i v1)] [am_i s1, am_r (some 1)] (am_K0, σ) := by
  refine am_r_putI (nx := 85) 2 cw7 (by decide) rfl (Or.inl fl_X7_40) (ob_1) rfl (Or.inl rfl) (show decode cX7_advance 82 = .ok (.putfield 40, 3) by decide +kernel) rfl ?_
  exact k
theorem S_X7_advance_85 {G : am_G} {d : Nat} {Q : am_D → Prop} {σ : am_D} {v1 : Int} (hr1 : -2147483648 ≤ v1 ∧ v1 ≤ 2147483647) (hr2 : -2147483648 ≤ (σ.1 1 1) ∧ (σ.1 1 1) ≤ 2147483647) (k1 : (σ.1 1 1) ≤ v1 → am_X (am_FV G (d + 1) Q) mX7_advance (0, 0) 96 [some (am_r (some 1)), some (am_i v1)] [] (am_K0, σ)) (k2 : ¬ ((σ.1 1 1) ≤ v1) → am_X (am_FV G (d + 1) Q) mX7_advance (0, 0) 93 [some (am_r (some 1)), some (am_i v1)] [] (am_K0, σ)) : am_X (am_FV G (d + 1) Q) mX7_advance (0, 0) 85 [some (am_r (some 1)), some (am_i v1)] [] (am_K0, σ) := by
  refine am_r_iload_n (nx := 86) rfl rfl (show decode cX7_advance 85 = .ok (.iload_n 1, 1) by decide +kernel) rfl ?_
  refine am_r_aload_n (nx := 87) rfl rfl (show decode cX7_advance 86 = .ok (.aload_n 0, 1) by decide +kernel) rfl ?_
  refine am_r_getI (nx := 90) 1 cw7 (by decide) rfl (Or.inl fl_X7_15) (ob_1) (show decode cX7_advance 87 = .ok (.getfield 15, 3) by decide +kernel) rfl ?_
  refine am_r_icmp_ge (tg := 96) (nx := 93) (show decode cX7_advance 90 = .ok (.if_icmp .ge 6, 3) by decide +kernel) (by decide) rfl hr1 hr2 ?_ ?_
  · exact fun q => k1 q
  · exact fun q => k2 q
theorem S_X7_advance_93 {G : am_G} {d : Nat} {Q : am_D → Prop} {σ : am_D} {v1 : Int}  (k : am_X (am_FV G (d + 1) Q) mX7_advance (0, 0) 96 [some (am_r (some 1)), some (am_i (v1 + 1))] [] (am_K0, σ)) : am_X (am_FV G (d + 1) Q) mX7_advance (0, 0) 93 [some (am_r (some 1)), some (am_i v1)] [] (am_K0, σ) := by
  refine am_r_iinc (nx := 96) rfl rfl (show decode cX7_advance 93 = .ok (.iinc 1 1, 3) by decide +kernel) rfl ?_
  exact k
theorem S_X7_advance_96 {G : am_G} {d : Nat} {Q : am_D → Prop} {σ : am_D} {v1 : Int} (hr1 : -2147483648 ≤ (σ.1 1 2) ∧ (σ.1 1 2) ≤ 2147483647) (k1 : (σ.1 1 2) = 97 → am_X (am_FV G (d + 1) Q) mX7_advance (0, 0) 114 [some (am_r (some 1)), some (am_i v1)] [] (am_K0, σ)) (k2 : ¬ ((σ.1 1 2) = 97) → am_X (am_FV G (d + 1) Q) mX7_advance (0, 0) 105 [some (am_r (some 1)), some (am_i v1)] [] (am_K0, σ)) : am_X (am_FV G (d + 1) Q) mX7_advance (0, 0) 96 [some (am_r (some 1)), some (am_i v1)] [] (am_K0, σ) := by
  refine am_r_aload_n (nx := 97) rfl rfl (show decode cX7_advance 96 = .ok (.aload_n 0, 1) by decide +kernel) rfl ?_
  refine am_r_getI (nx := 100) 2 cw7 (by decide) rfl (Or.inl fl_X7_40) (ob_1) (show decode cX7_advance 97 = .ok (.getfield 40, 3) by decide +kernel) rfl ?_
  refine am_r_bipush (nx := 102) rfl (show decode cX7_advance 100 = .ok (.bipush 97, 2) by decide +kernel) rfl ?_
  refine am_r_icmp_eq (tg := 114) (nx := 105) (show decode cX7_advance 102 = .ok (.if_icmp .eq 12, 3) by decide +kernel) (by decide) rfl hr1 (by omega) ?_ ?_
  · exact fun q => k1 q
  · exact fun q => k2 q
theorem S_X7_advance_105 {G : am_G} {d : Nat} {Q : am_D → Prop} {σ : am_D} {v1 : Int} (hr1 : -2147483648 ≤ (σ.1 1 2) ∧ (σ.1 1 2) ≤ 2147483647) (k1 : ¬ (σ.1 1 2) = 48 → am_X (am_FV G (d + 1) Q) mX7_advance (0, 0) 146 [some (am_r (some 1)), some (am_i v1)] [] (am_K0, σ)) (k2 : ¬ (¬ (σ.1 1 2) = 48) → am_X (am_FV G (d + 1) Q) mX7_advance (0, 0) 114 [some (am_r (some 1)), some (am_i v1)] [] (am_K0, σ)) : am_X (am_FV G (d + 1) Q) mX7_advance (0, 0) 105 [some (am_r (some 1)), some (am_i v1)] [] (am_K0, σ) := by
  refine am_r_aload_n (nx := 106) rfl rfl (show decode cX7_advance 105 = .ok (.aload_n 0, 1) by decide +kernel) rfl ?_
  refine am_r_getI (nx := 109) 2 cw7 (by decide) rfl (Or.inl fl_X7_40) (ob_1) (show decode cX7_advance 106 = .ok (.getfield 40, 3) by decide +kernel) rfl ?_
  refine am_r_bipush (nx := 111) rfl (show decode cX7_advance 109 = .ok (.bipush 48, 2) by decide +kernel) rfl ?_
  refine am_r_icmp_ne (tg := 146) (nx := 114) (show decode cX7_advance 111 = .ok (.if_icmp .ne 35, 3) by decide +kernel) (by decide) rfl hr1 (by omega) ?_ ?_
  · exact fun q => k1 q
  · exact fun q => k2 q
theorem S_X7_advance_114 {G : am_G} {d : Nat} {Q : am_D → Prop} {σ : am_D} {v1 : Int} (hr1 : -2147483648 ≤ v1 ∧ v1 ≤ 2147483647) (hr2 : -2147483648 ≤ (σ.1 1 1) ∧ (σ.1 1 1) ≤ 2147483647) (k1 : (σ.1 1 1) ≤ v1 → am_X (am_FV G (d + 1) Q) mX7_advance (0, 0) 146 [some (am_r (some 1)), some (am_i v1)] [] (am_K0, σ)) (k2 : ¬ ((σ.1 1 1) ≤ v1) → am_X (am_FV G (d + 1) Q) mX7_advance (0, 0) 122 [some (am_r (some 1)), some (am_i v1)] [] (am_K0, σ)) : am_X (am_FV G (d + 1) Q) mX7_advance (0, 0) 114 [some (am_r (some 1)), some (am_i v1)] [] (am_K0, σ) := by
  refine am_r_iload_n (nx := 115) rfl rfl (show decode cX7_advance 114 = .ok (.iload_n 1, 1) by decide +kernel) rfl ?_
  refine am_r_aload_n (nx := 116) rfl rfl (show decode cX7_advance 115 = .ok (.aload_n 0, 1) by decide +kernel) rfl ?_
  refine am_r_getI (nx := 119) 1 cw7 (by decide) rfl (Or.inl fl_X7_15) (ob_1) (show decode cX7_advance 116 = .ok (.getfield 15, 3) by decide +kernel) rfl ?_
  refine am_r_icmp_ge (tg := 146) (nx := 122) (show decode cX7_advance 119 = .ok (.if_icmp .ge 27, 3) by decide +kernel) (by decide) rfl hr1 hr2 ?_ ?_
  · exact fun q => k1 q
  · exact fun q => k2 q
theorem S_X7_advance_122 {G : am_G} {d : Nat} {Q : am_D → Prop} {σ : am_D} {v1 : Int} {Q' : Int → am_D → Prop} (hc : am_MI G d mX10_at [am_r (some 2), am_i v1] σ Q') (k : ∀ (x : Int) (σ' : am_D), Q' x σ' → am_X (am_FV G (d + 1) Q) mX7_advance (0, 0) 130 [some (am_r (some 1)), some (am_i v1)] [am_i x] (am_K0, σ')) : am_X (am_FV G (d + 1) Q) mX7_advance (0, 0) 122 [some (am_r (some 1)), some (am_i v1)] [] (am_K0, σ) := by
  refine am_r_aload_n (nx := 123) rfl rfl (show decode cX7_advance 122 = .ok (.aload_n 0, 1) by decide +kernel) rfl ?_
  refine am_r_getF (nx := 126) 0 cw7 (by decide) rfl (Or.inl fl_X7_9) (ob_1) (fn_1_0) (show decode cX7_advance 123 = .ok (.getfield 9, 3) by decide +kernel) rfl ?_
  refine am_r_iload_n (nx := 127) rfl rfl (show decode cX7_advance 126 = .ok (.iload_n 1, 1) by decide +kernel) rfl ?_
  refine am_r_callS (as := [am_r (some 2), am_i v1]) (st := []) hc mb_X10_at mv_X10_at (Or.inr ⟨_, ml_X7_32⟩) rfl rfl (Nat.le_of_ble_eq_true rfl) ⟨Nat.le_refl _, Nat.le_refl _⟩ ⟨Nat.le_refl _, Nat.le_refl _⟩ (show decode cX7_advance 127 = .ok (.invokestatic 32, 3) by decide +kernel) ?_
  rintro _ _ ⟨x, σ', rfl, rfl, hq⟩ _
  exact (k x σ' hq)
theorem S_X7_advance_130 {G : am_G} {d : Nat} {Q : am_D → Prop} {σ : am_D} {v1 : Int} {s0 : Int} {Q' : Int → am_D → Prop} (hc : am_MI G d mX7_kindOf [am_i s0] σ Q') (k : ∀ (x : Int) (σ' : am_D), Q' x σ' → am_X (am_FV G (d + 1) Q) mX7_advance (0, 0) 133 [some (am_r (some 1)), some (am_i v1)] [am_i x] (am_K0, σ')) : am_X (am_FV G (d + 1) Q) mX7_advance (0, 0) 130 [some (am_r (some 1)), some (am_i v1)] [am_i s0] (am_K0, σ) := by
  refine am_r_callS (as := [am_i s0]) (st := []) hc mb_X7_kindOf mv_X7_kindOf (Or.inl ml_X7_36) rfl rfl (Nat.le_of_ble_eq_true rfl) ⟨Nat.le_refl _, Nat.le_refl _⟩ ⟨Nat.le_refl _, Nat.le_refl _⟩ (show decode cX7_advance 130 = .ok (.invokestatic 36, 3) by decide +kernel) ?_
  rintro _ _ ⟨x, σ', rfl, rfl, hq⟩ _
  exact (k x σ' hq)
theorem S_X7_advance_133 {G : am_G} {d : Nat} {Q : am_D → Prop} {σ : am_D} {v1 : Int} {s0 : Int} (hr1 : -2147483648 ≤ s0 ∧ s0 ≤ 2147483647) (hr2 : -2147483648 ≤ (σ.1 1 2) ∧ (σ.1 1 2) ≤ 2147483647) (k1 : ¬ s0 = (σ.1 1 2) → am_X (am_FV G (d + 1) Q) mX7_advance (0, 0) 146 [some (am_r (some 1)), some (am_i v1)] [] (am_K0, σ)) (k2 : ¬ (¬ s0 = (σ.1 1 2)) → am_X (am_FV G (d + 1) Q) mX7_advance (0, 0) 140 [some (am_r (some 1)), some (am_i v1)] [] (am_K0, σ)) : am_X (am_FV G (d + 1) Q) mX7_advance (0, 0) 133 [some (am_r (some 1)), some (am_i v1)] [am_i s0] (am_K0, σ) := by
  refine am_r_aload_n (nx := 134) rfl rfl (show decode cX7_advance 133 = .ok (.aload_n 0, 1) by decide +kernel) rfl ?_
  refine am_r_getI (nx := 137) 2 cw7 (by decide) rfl (Or.inl fl_X7_40) (ob_1) (show decode cX7_advance 134 = .ok (.getfield 40, 3) by decide +kernel) rfl ?_
  refine am_r_icmp_ne (tg := 146) (nx := 140) (show decode cX7_advance 137 = .ok (.if_icmp .ne 9, 3) by decide +kernel) (by decide) rfl hr1 hr2 ?_ ?_
  · exact fun q => k1 q
  · exact fun q => k2 q
theorem S_X7_advance_140 {G : am_G} {d : Nat} {Q : am_D → Prop} {σ : am_D} {v1 : Int}  (k : am_X (am_FV G (d + 1) Q) mX7_advance (0, 0) 114 [some (am_r (some 1)), some (am_i (v1 + 1))] [] (am_K0, σ)) : am_X (am_FV G (d + 1) Q) mX7_advance (0, 0) 140 [some (am_r (some 1)), some (am_i v1)] [] (am_K0, σ) := by
  refine am_r_iinc (nx := 143) rfl rfl (show decode cX7_advance 140 = .ok (.iinc 1 1, 3) by decide +kernel) rfl ?_
  refine am_r_goto (tg := 114) (show decode cX7_advance 143 = .ok (.goto (-29), 3) by decide +kernel) (by decide) ?_
  exact k
theorem S_X7_advance_146 {G : am_G} {d : Nat} {Q : am_D → Prop} {σ : am_D} {v1 : Int}  (k : am_X (am_FV G (d + 1) Q) mX7_advance (0, 0) 151 [none, none] [] (am_K0, (am_pI σ 1 4 v1))) : am_X (am_FV G (d + 1) Q) mX7_advance (0, 0) 146 [some (am_r (some 1)), some (am_i v1)] [] (am_K0, σ) := by
  refine am_r_aload_n (nx := 147) rfl rfl (show decode cX7_advance 146 = .ok (.aload_n 0, 1) by decide +kernel) rfl ?_
  refine am_r_iload_n (nx := 148) rfl rfl (show decode cX7_advance 147 = .ok (.iload_n 1, 1) by decide +kernel) rfl ?_
  refine am_r_putI (nx := 151) 4 cw7 (by decide) rfl (Or.inl fl_X7_26) (ob_1) rfl (Or.inl rfl) (show decode cX7_advance 148 = .ok (.putfield 26, 3) by decide +kernel) rfl ?_
  exact am_x_fg [0, 1] k
theorem S_X7_advance_151 {G : am_G} {d : Nat} {Q : am_D → Prop} {σ : am_D}   (k : Q σ) : am_X (am_FV G (d + 1) Q) mX7_advance (0, 0) 151 [none, none] [] (am_K0, σ) := by
  exact am_r_vret rfl (show decode cX7_advance 151 = .ok (.return_, 1) by decide +kernel) ⟨_, rfl, rfl, k⟩
theorem S_X7_kindOf_0 {G : am_G} {d : Nat} {Q : Int → am_D → Prop} {σ : am_D} {v0 : Int} (hr1 : -2147483648 ≤ v0 ∧ v0 ≤ 2147483647) (k1 : v0 < 97 → am_X (am_FI G (d + 1) Q) mX7_kindOf (0, 0) 15 [some (am_i v0), none] [] (am_K0, σ)) (k2 : ¬ (v0 < 97) → am_X (am_FI G (d + 1) Q) mX7_kindOf (0, 0) 6 [some (am_i v0), none] [] (am_K0, σ)) : am_X (am_FI G (d + 1) Q) mX7_kindOf (0, 0) 0 [some (am_i v0), none] [] (am_K0, σ) := by
  refine am_r_iload_n (nx := 1) rfl rfl (show decode cX7_kindOf 0 = .ok (.iload_n 0, 1) by decide +kernel) rfl ?_
  refine am_r_bipush (nx := 3) rfl (show decode cX7_kindOf 1 = .ok (.bipush 97, 2) by decide +kernel) rfl ?_
  refine am_r_icmp_lt (tg := 15) (nx := 6) (show decode cX7_kindOf 3 = .ok (.if_icmp .lt 12, 3) by decide +kernel) (by decide) rfl hr1 (by omega) ?_ ?_
  · exact fun q => k1 q
  · exact fun q => k2 q
theorem S_X7_kindOf_6 {G : am_G} {d : Nat} {Q : Int → am_D → Prop} {σ : am_D} {v0 : Int} (hr1 : -2147483648 ≤ v0 ∧ v0 ≤ 2147483647) (k1 : 122 < v0 → am_X (am_FI G (d + 1) Q) mX7_kindOf (0, 0) 15 [some (am_i v0), none] [] (am_K0, σ)) (k2 : ¬ (122 < v0) → am_X (am_FI G (d + 1) Q) mX7_kindOf (0, 0) 12 [none, none] [] (am_K0, σ)) : am_X (am_FI G (d + 1) Q) mX7_kindOf (0, 0) 6 [some (am_i v0), none] [] (am_K0, σ) := by
  refine am_r_iload_n (nx := 7) rfl rfl (show decode cX7_kindOf 6 = .ok (.iload_n 0, 1) by decide +kernel) rfl ?_
  refine am_r_bipush (nx := 9) rfl (show decode cX7_kindOf 7 = .ok (.bipush 122, 2) by decide +kernel) rfl ?_
  refine am_r_icmp_gt (tg := 15) (nx := 12) (show decode cX7_kindOf 9 = .ok (.if_icmp .gt 6, 3) by decide +kernel) (by decide) rfl hr1 (by omega) ?_ ?_
  · exact fun q => k1 q
  · exact fun q => am_x_fg [0] (k2 q)
theorem S_X7_kindOf_12 {G : am_G} {d : Nat} {Q : Int → am_D → Prop} {σ : am_D}   (k : Q 97 σ) : am_X (am_FI G (d + 1) Q) mX7_kindOf (0, 0) 12 [none, none] [] (am_K0, σ) := by
  refine am_r_bipush (nx := 14) rfl (show decode cX7_kindOf 12 = .ok (.bipush 97, 2) by decide +kernel) rfl ?_
  exact am_r_iret rfl rfl (show decode cX7_kindOf 14 = .ok (.ireturn, 1) by decide +kernel) ⟨_, _, rfl, rfl, k⟩
theorem S_X7_kindOf_15 {G : am_G} {d : Nat} {Q : Int → am_D → Prop} {σ : am_D} {v0 : Int} (hr1 : -2147483648 ≤ v0 ∧ v0 ≤ 2147483647) (k1 : v0 < 48 → am_X (am_FI G (d + 1) Q) mX7_kindOf (0, 0) 30 [some (am_i v0), none] [] (am_K0, σ)) (k2 : ¬ (v0 < 48) → am_X (am_FI G (d + 1) Q) mX7_kindOf (0, 0) 21 [some (am_i v0), none] [] (am_K0, σ)) : am_X (am_FI G (d + 1) Q) mX7_kindOf (0, 0) 15 [some (am_i v0), none] [] (am_K0, σ) := by
  refine am_r_iload_n (nx := 16) rfl rfl (show decode cX7_kindOf 15 = .ok (.iload_n 0, 1) by decide +kernel) rfl ?_
  refine am_r_bipush (nx := 18) rfl (show decode cX7_kindOf 16 = .ok (.bipush 48, 2) by decide +kernel) rfl ?_
  refine am_r_icmp_lt (tg := 30) (nx := 21) (show decode cX7_kindOf 18 = .ok (.if_icmp .lt 12, 3) by decide +kernel) (by decide) rfl hr1 (by omega) ?_ ?_
  · exact fun q => k1 q
  · exact fun q => k2 q
theorem S_X7_kindOf_21 {G : am_G} {d : Nat} {Q : Int → am_D → Prop} {σ : am_D} {v0 : Int} (hr1 : -2147483648 ≤ v0 ∧ v0 ≤ 2147483647) (k1 : 57 < v0 → am_X (am_FI G (d + 1) Q) mX7_kindOf (0, 0) 30 [some (am_i v0), none] [] (am_K0, σ)) (k2 : ¬ (57 < v0) → am_X (am_FI G (d + 1) Q) mX7_kindOf (0, 0) 27 [none, none] [] (am_K0, σ)) : am_X (am_FI G (d + 1) Q) mX7_kindOf (0, 0) 21 [some (am_i v0), none] [] (am_K0, σ) := by
  refine am_r_iload_n (nx := 22) rfl rfl (show decode cX7_kindOf 21 = .ok (.iload_n 0, 1) by decide +kernel) rfl ?_
  refine am_r_bipush (nx := 24) rfl (show decode cX7_kindOf 22 = .ok (.bipush 57, 2) by decide +kernel) rfl ?_
  refine am_r_icmp_gt (tg := 30) (nx := 27) (show decode cX7_kindOf 24 = .ok (.if_icmp .gt 6, 3) by decide +kernel) (by decide) rfl hr1 (by omega) ?_ ?_
  · exact fun q => k1 q
  · exact fun q => am_x_fg [0] (k2 q)
theorem S_X7_kindOf_27 {G : am_G} {d : Nat} {Q : Int → am_D → Prop} {σ : am_D}   (k : Q 48 σ) : am_X (am_FI G (d + 1) Q) mX7_kindOf (0, 0) 27 [none, none] [] (am_K0, σ) := by
  refine am_r_bipush (nx := 29) rfl (show decode cX7_kindOf 27 = .ok (.bipush 48, 2) by decide +kernel) rfl ?_
  exact am_r_iret rfl rfl (show decode cX7_kindOf 29 = .ok (.ireturn, 1) by decide +kernel) ⟨_, _, rfl, rfl, k⟩
theorem S_X7_kindOf_30 {G : am_G} {d : Nat} {Q : Int → am_D → Prop} {σ : am_D} {v0 : Int} (hr1 : -2147483648 ≤ v0 ∧ v0 ≤ 2147483647) (k1 : v0 = 59 → am_X (am_FI G (d + 1) Q) mX7_kindOf (0, 0) 60 [some (am_i v0), none] [] (am_K0, σ)) (k2 : ¬ (v0 = 59) → am_X (am_FI G (d + 1) Q) mX7_kindOf (0, 0) 36 [some (am_i v0), none] [] (am_K0, σ)) : am_X (am_FI G (d + 1) Q) mX7_kindOf (0, 0) 30 [some (am_i v0), none] [] (am_K0, σ) := by
  refine am_r_iload_n (nx := 31) rfl rfl (show decode cX7_kindOf 30 = .ok (.iload_n 0, 1) by decide +kernel) rfl ?_
  refine am_r_bipush (nx := 33) rfl (show decode cX7_kindOf 31 = .ok (.bipush 59, 2) by decide +kernel) rfl ?_
  refine am_r_icmp_eq (tg := 60) (nx := 36) (show decode cX7_kindOf 33 = .ok (.if_icmp .eq 27, 3) by decide +kernel) (by decide) rfl hr1 (by omega) ?_ ?_
  · exact fun q => k1 q
  · exact fun q => k2 q
theorem S_X7_kindOf_36 {G : am_G} {d : Nat} {Q : Int → am_D → Prop} {σ : am_D} {v0 : Int} (hr1 : -2147483648 ≤ v0 ∧ v0 ≤ 2147483647) (k1 : v0 = 61 → am_X (am_FI G (d + 1) Q) mX7_kindOf (0, 0) 60 [some (am_i v0), none] [] (am_K0, σ)) (k2 : ¬ (v0 = 61) → am_X (am_FI G (d + 1) Q) mX7_kindOf (0, 0) 42 [some (am_i v0), none] [] (am_K0, σ)) : am_X (am_FI G (d + 1) Q) mX7_kindOf (0, 0) 36 [some (am_i v0), none] [] (am_K0, σ) := by
  refine am_r_iload_n (nx := 37) rfl rfl (show decode cX7_kindOf 36 = .ok (.iload_n 0, 1) by decide +kernel) rfl ?_
  refine am_r_bipush (nx := 39) rfl (show decode cX7_kindOf 37 = .ok (.bipush 61, 2) by decide +kernel) rfl ?_
  refine am_r_icmp_eq (tg := 60) (nx := 42) (show decode cX7_kindOf 39 = .ok (.if_icmp .eq 21, 3) by decide +kernel) (by decide) rfl hr1 (by omega) ?_ ?_
  · exact fun q => k1 q
  · exact fun q => k2 q
theorem S_X7_kindOf_42 {G : am_G} {d : Nat} {Q : Int → am_D → Prop} {σ : am_D} {v0 : Int} (hr1 : -2147483648 ≤ v0 ∧ v0 ≤ 2147483647) (k1 : v0 = 44 → am_X (am_FI G (d + 1) Q) mX7_kindOf (0, 0) 60 [some (am_i v0), none] [] (am_K0, σ)) (k2 : ¬ (v0 = 44) → am_X (am_FI G (d + 1) Q) mX7_kindOf (0, 0) 48 [some (am_i v0), none] [] (am_K0, σ)) : am_X (am_FI G (d + 1) Q) mX7_kindOf (0, 0) 42 [some (am_i v0), none] [] (am_K0, σ) := by
  refine am_r_iload_n (nx := 43) rfl rfl (show decode cX7_kindOf 42 = .ok (.iload_n 0, 1) by decide +kernel) rfl ?_
  refine am_r_bipush (nx := 45) rfl (show decode cX7_kindOf 43 = .ok (.bipush 44, 2) by decide +kernel) rfl ?_
  refine am_r_icmp_eq (tg := 60) (nx := 48) (show decode cX7_kindOf 45 = .ok (.if_icmp .eq 15, 3) by decide +kernel) (by decide) rfl hr1 (by omega) ?_ ?_
  · exact fun q => k1 q
  · exact fun q => k2 q
theorem S_X7_kindOf_48 {G : am_G} {d : Nat} {Q : Int → am_D → Prop} {σ : am_D} {v0 : Int} (hr1 : -2147483648 ≤ v0 ∧ v0 ≤ 2147483647) (k1 : v0 = 60 → am_X (am_FI G (d + 1) Q) mX7_kindOf (0, 0) 60 [some (am_i v0), none] [] (am_K0, σ)) (k2 : ¬ (v0 = 60) → am_X (am_FI G (d + 1) Q) mX7_kindOf (0, 0) 54 [some (am_i v0), none] [] (am_K0, σ)) : am_X (am_FI G (d + 1) Q) mX7_kindOf (0, 0) 48 [some (am_i v0), none] [] (am_K0, σ) := by
  refine am_r_iload_n (nx := 49) rfl rfl (show decode cX7_kindOf 48 = .ok (.iload_n 0, 1) by decide +kernel) rfl ?_
  refine am_r_bipush (nx := 51) rfl (show decode cX7_kindOf 49 = .ok (.bipush 60, 2) by decide +kernel) rfl ?_
  refine am_r_icmp_eq (tg := 60) (nx := 54) (show decode cX7_kindOf 51 = .ok (.if_icmp .eq 9, 3) by decide +kernel) (by decide) rfl hr1 (by omega) ?_ ?_
  · exact fun q => k1 q
  · exact fun q => k2 q
theorem S_X7_kindOf_54 {G : am_G} {d : Nat} {Q : Int → am_D → Prop} {σ : am_D} {v0 : Int} (hr1 : -2147483648 ≤ v0 ∧ v0 ≤ 2147483647) (k1 : ¬ v0 = 62 → am_X (am_FI G (d + 1) Q) mX7_kindOf (0, 0) 64 [some (am_i v0), none] [] (am_K0, σ)) (k2 : ¬ (¬ v0 = 62) → am_X (am_FI G (d + 1) Q) mX7_kindOf (0, 0) 60 [some (am_i v0), none] [] (am_K0, σ)) : am_X (am_FI G (d + 1) Q) mX7_kindOf (0, 0) 54 [some (am_i v0), none] [] (am_K0, σ) := by
  refine am_r_iload_n (nx := 55) rfl rfl (show decode cX7_kindOf 54 = .ok (.iload_n 0, 1) by decide +kernel) rfl ?_
  refine am_r_bipush (nx := 57) rfl (show decode cX7_kindOf 55 = .ok (.bipush 62, 2) by decide +kernel) rfl ?_
  refine am_r_icmp_ne (tg := 64) (nx := 60) (show decode cX7_kindOf 57 = .ok (.if_icmp .ne 7, 3) by decide +kernel) (by decide) rfl hr1 (by omega) ?_ ?_
  · exact fun q => k1 q
  · exact fun q => k2 q
theorem S_X7_kindOf_60 {G : am_G} {d : Nat} {Q : Int → am_D → Prop} {σ : am_D} {v0 : Int}  (k : am_X (am_FI G (d + 1) Q) mX7_kindOf (0, 0) 65 [some (am_i v0), none] [am_i 1] (am_K0, σ)) : am_X (am_FI G (d + 1) Q) mX7_kindOf (0, 0) 60 [some (am_i v0), none] [] (am_K0, σ) := by
  refine am_r_iconst (nx := 61) (show decode cX7_kindOf 60 = .ok (.iconst 1, 1) by decide +kernel) rfl ?_
  refine am_r_goto (tg := 65) (show decode cX7_kindOf 61 = .ok (.goto 4, 3) by decide +kernel) (by decide) ?_
  exact k
theorem S_X7_kindOf_64 {G : am_G} {d : Nat} {Q : Int → am_D → Prop} {σ : am_D} {v0 : Int}  (k : am_X (am_FI G (d + 1) Q) mX7_kindOf (0, 0) 65 [some (am_i v0), none] [am_i 0] (am_K0, σ)) : am_X (am_FI G (d + 1) Q) mX7_kindOf (0, 0) 64 [some (am_i v0), none] [] (am_K0, σ) := by
  refine am_r_iconst (nx := 65) (show decode cX7_kindOf 64 = .ok (.iconst 0, 1) by decide +kernel) rfl ?_
  exact k
theorem S_X7_kindOf_65 {G : am_G} {d : Nat} {Q : Int → am_D → Prop} {σ : am_D} {v0 : Int} {s0 : Int}  (k : am_X (am_FI G (d + 1) Q) mX7_kindOf (0, 0) 66 [some (am_i v0), some (am_i s0)] [] (am_K0, σ)) : am_X (am_FI G (d + 1) Q) mX7_kindOf (0, 0) 65 [some (am_i v0), none] [am_i s0] (am_K0, σ) := by
  refine am_r_istore_n (nx := 66) rfl (by decide) rfl (show decode cX7_kindOf 65 = .ok (.istore_n 1, 1) by decide +kernel) rfl ?_
  exact k
theorem S_X7_kindOf_66 {G : am_G} {d : Nat} {Q : Int → am_D → Prop} {σ : am_D} {v0 : Int} {v1 : Int} (hr1 : -2147483648 ≤ v1 ∧ v1 ≤ 2147483647) (k1 : v1 = 0 → am_X (am_FI G (d + 1) Q) mX7_kindOf (0, 0) 74 [none, none] [] (am_K0, σ)) (k2 : ¬ (v1 = 0) → am_X (am_FI G (d + 1) Q) mX7_kindOf (0, 0) 70 [some (am_i v0), none] [] (am_K0, σ)) : am_X (am_FI G (d + 1) Q) mX7_kindOf (0, 0) 66 [some (am_i v0), some (am_i v1)] [] (am_K0, σ) := by
  refine am_r_iload_n (nx := 67) rfl rfl (show decode cX7_kindOf 66 = .ok (.iload_n 1, 1) by decide +kernel) rfl ?_
  refine am_r_if_eq (tg := 74) (nx := 70) (show decode cX7_kindOf 67 = .ok (.ifCond .eq 7, 3) by decide +kernel) (by decide) rfl hr1 ?_ ?_
  · exact fun q => am_x_fg [0, 1] (k1 q)
  · exact fun q => am_x_fg [1] (k2 q)
theorem S_X7_kindOf_70 {G : am_G} {d : Nat} {Q : Int → am_D → Prop} {σ : am_D} {v0 : Int}  (k : am_X (am_FI G (d + 1) Q) mX7_kindOf (0, 0) 75 [none, none] [am_i v0] (am_K0, σ)) : am_X (am_FI G (d + 1) Q) mX7_kindOf (0, 0) 70 [some (am_i v0), none] [] (am_K0, σ) := by
  refine am_r_iload_n (nx := 71) rfl rfl (show decode cX7_kindOf 70 = .ok (.iload_n 0, 1) by decide +kernel) rfl ?_
  refine am_r_goto (tg := 75) (show decode cX7_kindOf 71 = .ok (.goto 4, 3) by decide +kernel) (by decide) ?_
  exact am_x_fg [0] k
theorem S_X7_kindOf_74 {G : am_G} {d : Nat} {Q : Int → am_D → Prop} {σ : am_D}   (k : am_X (am_FI G (d + 1) Q) mX7_kindOf (0, 0) 75 [none, none] [am_i 1] (am_K0, σ)) : am_X (am_FI G (d + 1) Q) mX7_kindOf (0, 0) 74 [none, none] [] (am_K0, σ) := by
  refine am_r_iconst (nx := 75) (show decode cX7_kindOf 74 = .ok (.iconst 1, 1) by decide +kernel) rfl ?_
  exact k
theorem S_X7_kindOf_75 {G : am_G} {d : Nat} {Q : Int → am_D → Prop} {σ : am_D} {s0 : Int}  (k : Q s0 σ) : am_X (am_FI G (d + 1) Q) mX7_kindOf (0, 0) 75 [none, none] [am_i s0] (am_K0, σ) := by
  exact am_r_iret rfl rfl (show decode cX7_kindOf 75 = .ok (.ireturn, 1) by decide +kernel) ⟨_, _, rfl, rfl, k⟩
theorem S_X7_isWord_0 {G : am_G} {d : Nat} {Q : Int → am_D → Prop} {σ : am_D} {v1 : Nat} (hr1 : -2147483648 ≤ (σ.1 1 2) ∧ (σ.1 1 2) ≤ 2147483647) (k1 : ¬ (σ.1 1 2) = 97 → am_X (am_FI G (d + 1) Q) mX7_isWord (0, 0) 25 [none, none, none] [] (am_K0, σ)) (k2 : ¬ (¬ (σ.1 1 2) = 97) → am_X (am_FI G (d + 1) Q) mX7_isWord (0, 0) 9 [some (am_r (some 1)), some (am_s v1), none] [] (am_K0, σ)) : am_X (am_FI G (d + 1) Q) mX7_isWord (0, 0) 0 [some (am_r (some 1)), some (am_s v1), none] [] (am_K0, σ) := by
  refine am_r_aload_n (nx := 1) rfl rfl (show decode cX7_isWord 0 = .ok (.aload_n 0, 1) by decide +kernel) rfl ?_
  refine am_r_getI (nx := 4) 2 cw7 (by decide) rfl (Or.inl fl_X7_40) (ob_1) (show decode cX7_isWord 1 = .ok (.getfield 40, 3) by decide +kernel) rfl ?_
  refine am_r_bipush (nx := 6) rfl (show decode cX7_isWord 4 = .ok (.bipush 97, 2) by decide +kernel) rfl ?_
  refine am_r_icmp_ne (tg := 25) (nx := 9) (show decode cX7_isWord 6 = .ok (.if_icmp .ne 19, 3) by decide +kernel) (by decide) rfl hr1 (by omega) ?_ ?_
  · exact fun q => am_x_fg [0, 1] (k1 q)
  · exact fun q => k2 q
theorem S_X7_isWord_9 {G : am_G} {d : Nat} {Q : Int → am_D → Prop} {σ : am_D} {v1 : Nat} {Q' : Int → am_D → Prop} (hc : am_MI G d mJ0_length_8abf5 [am_s v1] σ Q') (hi9 : v1 < 9) (k : ∀ (x : Int) (σ' : am_D), Q' x σ' → am_X (am_FI G (d + 1) Q) mX7_isWord (0, 0) 22 [some (am_r (some 1)), some (am_s v1), none] [am_i x, am_i ((σ.1 1 4) - (σ.1 1 3))] (am_K0, σ')) : am_X (am_FI G (d + 1) Q) mX7_isWord (0, 0) 9 [some (am_r (some 1)), some (am_s v1), none] [] (am_K0, σ) := by
  refine am_r_aload_n (nx := 10) rfl rfl (show decode cX7_isWord 9 = .ok (.aload_n 0, 1) by decide +kernel) rfl ?_
  refine am_r_getI (nx := 13) 4 cw7 (by decide) rfl (Or.inl fl_X7_26) (ob_1) (show decode cX7_isWord 10 = .ok (.getfield 26, 3) by decide +kernel) rfl ?_
  refine am_r_aload_n (nx := 14) rfl rfl (show decode cX7_isWord 13 = .ok (.aload_n 0, 1) by decide +kernel) rfl ?_
  refine am_r_getI (nx := 17) 3 cw7 (by decide) rfl (Or.inl fl_X7_23) (ob_1) (show decode cX7_isWord 14 = .ok (.getfield 23, 3) by decide +kernel) rfl ?_
  refine am_r_isub (nx := 18) (show decode cX7_isWord 17 = .ok (.isub, 1) by decide +kernel) rfl ?_
  refine am_r_aload_nS (nx := 19) rfl rfl (show decode cX7_isWord 18 = .ok (.aload_n 1, 1) by decide +kernel) rfl ?_
  refine am_r_callT (as := []) (st := [am_i ((σ.1 1 4) - (σ.1 1 3))]) hc mb_J0_length_8abf5 mv_J0_length_8abf5 (Or.inl ml_X7_43) hi9 rfl rfl rfl (Nat.le_of_ble_eq_true rfl) ⟨Nat.le_refl _, Nat.le_refl _⟩ ⟨Nat.le_refl _, Nat.le_refl _⟩ (show decode cX7_isWord 19 = .ok (.invokevirtual 43, 3) by decide +kernel) ?_
  rintro _ _ ⟨x, σ', rfl, rfl, hq⟩ _
  exact (k x σ' hq)
theorem S_X7_isWord_22 {G : am_G} {d : Nat} {Q : Int → am_D → Prop} {σ : am_D} {v1 : Nat} {s0 : Int} {s1 : Int} (hr1 : -2147483648 ≤ s0 ∧ s0 ≤ 2147483647) (hr2 : -2147483648 ≤ s1 ∧ s1 ≤ 2147483647) (k1 : s0 = s1 → am_X (am_FI G (d + 1) Q) mX7_isWord (0, 0) 27 [some (am_r (some 1)), some (am_s v1), none] [] (am_K0, σ)) (k2 : ¬ (s0 = s1) → am_X (am_FI G (d + 1) Q) mX7_isWord (0, 0) 25 [none, none, none] [] (am_K0, σ)) : am_X (am_FI G (d + 1) Q) mX7_isWord (0, 0) 22 [some (am_r (some 1)), some (am_s v1), none] [am_i s1, am_i s0] (am_K0, σ) := by
  refine am_r_icmp_eq (tg := 27) (nx := 25) (show decode cX7_isWord 22 = .ok (.if_icmp .eq 5, 3) by decide +kernel) (by decide) rfl hr1 hr2 ?_ ?_
  · exact fun q => k1 q
  · exact fun q => am_x_fg [0, 1] (k2 q)
theorem S_X7_isWord_25 {G : am_G} {d : Nat} {Q : Int → am_D → Prop} {σ : am_D}   (k : Q 0 σ) : am_X (am_FI G (d + 1) Q) mX7_isWord (0, 0) 25 [none, none, none] [] (am_K0, σ) := by
  refine am_r_iconst (nx := 26) (show decode cX7_isWord 25 = .ok (.iconst 0, 1) by decide +kernel) rfl ?_
  exact am_r_iret rfl rfl (show decode cX7_isWord 26 = .ok (.ireturn, 1) by decide +kernel) ⟨_, _, rfl, rfl, k⟩
theorem S_X7_isWord_27 {G : am_G} {d : Nat} {Q : Int → am_D → Prop} {σ : am_D} {v1 : Nat}  (k : am_X (am_FI G (d + 1) Q) mX7_isWord (0, 0) 29 [some (am_r (some 1)), some (am_s v1), some (am_i 0)] [] (am_K0, σ)) : am_X (am_FI G (d + 1) Q) mX7_isWord (0, 0) 27 [some (am_r (some 1)), some (am_s v1), none] [] (am_K0, σ) := by
  refine am_r_iconst (nx := 28) (show decode cX7_isWord 27 = .ok (.iconst 0, 1) by decide +kernel) rfl ?_
  refine am_r_istore_n (nx := 29) rfl (by decide) rfl (show decode cX7_isWord 28 = .ok (.istore_n 2, 1) by decide +kernel) rfl ?_
  exact k
theorem S_X7_isWord_29 {G : am_G} {d : Nat} {Q : Int → am_D → Prop} {σ : am_D} {v1 : Nat} {v2 : Int} {Q' : Int → am_D → Prop} (hc : am_MI G d mJ0_length_8abf5 [am_s v1] σ Q') (hi9 : v1 < 9) (k : ∀ (x : Int) (σ' : am_D), Q' x σ' → am_X (am_FI G (d + 1) Q) mX7_isWord (0, 0) 34 [some (am_r (some 1)), some (am_s v1), some (am_i v2)] [am_i x, am_i v2] (am_K0, σ')) : am_X (am_FI G (d + 1) Q) mX7_isWord (0, 0) 29 [some (am_r (some 1)), some (am_s v1), some (am_i v2)] [] (am_K0, σ) := by
  refine am_r_iload_n (nx := 30) rfl rfl (show decode cX7_isWord 29 = .ok (.iload_n 2, 1) by decide +kernel) rfl ?_
  refine am_r_aload_nS (nx := 31) rfl rfl (show decode cX7_isWord 30 = .ok (.aload_n 1, 1) by decide +kernel) rfl ?_
  refine am_r_callT (as := []) (st := [am_i v2]) hc mb_J0_length_8abf5 mv_J0_length_8abf5 (Or.inl ml_X7_43) hi9 rfl rfl rfl (Nat.le_of_ble_eq_true rfl) ⟨Nat.le_refl _, Nat.le_refl _⟩ ⟨Nat.le_refl _, Nat.le_refl _⟩ (show decode cX7_isWord 31 = .ok (.invokevirtual 43, 3) by decide +kernel) ?_
  rintro _ _ ⟨x, σ', rfl, rfl, hq⟩ _
  exact (k x σ' hq)
theorem S_X7_isWord_34 {G : am_G} {d : Nat} {Q : Int → am_D → Prop} {σ : am_D} {v1 : Nat} {v2 : Int} {s0 : Int} {s1 : Int} (hr1 : -2147483648 ≤ s0 ∧ s0 ≤ 2147483647) (hr2 : -2147483648 ≤ s1 ∧ s1 ≤ 2147483647) (k1 : s1 ≤ s0 → am_X (am_FI G (d + 1) Q) mX7_isWord (0, 0) 66 [none, none, none] [] (am_K0, σ)) (k2 : ¬ (s1 ≤ s0) → am_X (am_FI G (d + 1) Q) mX7_isWord (0, 0) 37 [some (am_r (some 1)), some (am_s v1), some (am_i v2)] [] (am_K0, σ)) : am_X (am_FI G (d + 1) Q) mX7_isWord (0, 0) 34 [some (am_r (some 1)), some (am_s v1), some (am_i v2)] [am_i s1, am_i s0] (am_K0, σ) := by
  refine am_r_icmp_ge (tg := 66) (nx := 37) (show decode cX7_isWord 34 = .ok (.if_icmp .ge 32, 3) by decide +kernel) (by decide) rfl hr1 hr2 ?_ ?_
  · exact fun q => am_x_fg [0, 1, 2] (k1 q)
  · exact fun q => k2 q
theorem S_X7_isWord_37 {G : am_G} {d : Nat} {Q : Int → am_D → Prop} {σ : am_D} {v1 : Nat} {v2 : Int} {Q' : Int → am_D → Prop} (hc : am_MI G d mX10_at [am_r (some 2), am_i ((σ.1 1 3) + v2)] σ Q') (k : ∀ (x : Int) (σ' : am_D), Q' x σ' → am_X (am_FI G (d + 1) Q) mX7_isWord (0, 0) 50 [some (am_r (some 1)), some (am_s v1), some (am_i v2)] [am_i x] (am_K0, σ')) : am_X (am_FI G (d + 1) Q) mX7_isWord (0, 0) 37 [some (am_r (some 1)), some (am_s v1), some (am_i v2)] [] (am_K0, σ) := by
  refine am_r_aload_n (nx := 38) rfl rfl (show decode cX7_isWord 37 = .ok (.aload_n 0, 1) by decide +kernel) rfl ?_
  refine am_r_getF (nx := 41) 0 cw7 (by decide) rfl (Or.inl fl_X7_9) (ob_1) (fn_1_0) (show decode cX7_isWord 38 = .ok (.getfield 9, 3) by decide +kernel) rfl ?_
  refine am_r_aload_n (nx := 42) rfl rfl (show decode cX7_isWord 41 = .ok (.aload_n 0, 1) by decide +kernel) rfl ?_
  refine am_r_getI (nx := 45) 3 cw7 (by decide) rfl (Or.inl fl_X7_23) (ob_1) (show decode cX7_isWord 42 = .ok (.getfield 23, 3) by decide +kernel) rfl ?_
  refine am_r_iload_n (nx := 46) rfl rfl (show decode cX7_isWord 45 = .ok (.iload_n 2, 1) by decide +kernel) rfl ?_
  refine am_r_iadd (nx := 47) (show decode cX7_isWord 46 = .ok (.iadd, 1) by decide +kernel) rfl ?_
  refine am_r_callS (as := [am_r (some 2), am_i ((σ.1 1 3) + v2)]) (st := []) hc mb_X10_at mv_X10_at (Or.inr ⟨_, ml_X7_32⟩) rfl rfl (Nat.le_of_ble_eq_true rfl) ⟨Nat.le_refl _, Nat.le_refl _⟩ ⟨Nat.le_refl _, Nat.le_refl _⟩ (show decode cX7_isWord 47 = .ok (.invokestatic 32, 3) by decide +kernel) ?_
  rintro _ _ ⟨x, σ', rfl, rfl, hq⟩ _
  exact (k x σ' hq)
theorem S_X7_isWord_50 {G : am_G} {d : Nat} {Q : Int → am_D → Prop} {σ : am_D} {v1 : Nat} {v2 : Int} {s0 : Int} {Q' : Int → am_D → Prop} (hc : am_MI G d mJ0_charAt_5068e [am_s v1, am_i v2] σ Q') (hi9 : v1 < 9) (k : ∀ (x : Int) (σ' : am_D), Q' x σ' → am_X (am_FI G (d + 1) Q) mX7_isWord (0, 0) 55 [some (am_r (some 1)), some (am_s v1), some (am_i v2)] [am_i x, am_i s0] (am_K0, σ')) : am_X (am_FI G (d + 1) Q) mX7_isWord (0, 0) 50 [some (am_r (some 1)), some (am_s v1), some (am_i v2)] [am_i s0] (am_K0, σ) := by
  refine am_r_aload_nS (nx := 51) rfl rfl (show decode cX7_isWord 50 = .ok (.aload_n 1, 1) by decide +kernel) rfl ?_
  refine am_r_iload_n (nx := 52) rfl rfl (show decode cX7_isWord 51 = .ok (.iload_n 2, 1) by decide +kernel) rfl ?_
  refine am_r_callT (as := [am_i v2]) (st := [am_i s0]) hc mb_J0_charAt_5068e mv_J0_charAt_5068e (Or.inl ml_X7_48) hi9 rfl rfl rfl (Nat.le_of_ble_eq_true rfl) ⟨Nat.le_refl _, Nat.le_refl _⟩ ⟨Nat.le_refl _, Nat.le_refl _⟩ (show decode cX7_isWord 52 = .ok (.invokevirtual 48, 3) by decide +kernel) ?_
  rintro _ _ ⟨x, σ', rfl, rfl, hq⟩ _
  exact (k x σ' hq)
theorem S_X7_isWord_55 {G : am_G} {d : Nat} {Q : Int → am_D → Prop} {σ : am_D} {v1 : Nat} {v2 : Int} {s0 : Int} {s1 : Int} (hr1 : -2147483648 ≤ s0 ∧ s0 ≤ 2147483647) (hr2 : -2147483648 ≤ s1 ∧ s1 ≤ 2147483647) (k1 : s0 = s1 → am_X (am_FI G (d + 1) Q) mX7_isWord (0, 0) 60 [some (am_r (some 1)), some (am_s v1), some (am_i v2)] [] (am_K0, σ)) (k2 : ¬ (s0 = s1) → am_X (am_FI G (d + 1) Q) mX7_isWord (0, 0) 58 [none, none, none] [] (am_K0, σ)) : am_X (am_FI G (d + 1) Q) mX7_isWord (0, 0) 55 [some (am_r (some 1)), some (am_s v1), some (am_i v2)] [am_i s1, am_i s0] (am_K0, σ) := by
  refine am_r_icmp_eq (tg := 60) (nx := 58) (show decode cX7_isWord 55 = .ok (.if_icmp .eq 5, 3) by decide +kernel) (by decide) rfl hr1 hr2 ?_ ?_
  · exact fun q => k1 q
  · exact fun q => am_x_fg [0, 1, 2] (k2 q)
theorem S_X7_isWord_58 {G : am_G} {d : Nat} {Q : Int → am_D → Prop} {σ : am_D}   (k : Q 0 σ) : am_X (am_FI G (d + 1) Q) mX7_isWord (0, 0) 58 [none, none, none] [] (am_K0, σ) := by
  refine am_r_iconst (nx := 59) (show decode cX7_isWord 58 = .ok (.iconst 0, 1) by decide +kernel) rfl ?_
  exact am_r_iret rfl rfl (show decode cX7_isWord 59 = .ok (.ireturn, 1) by decide +kernel) ⟨_, _, rfl, rfl, k⟩
theorem S_X7_isWord_60 {G : am_G} {d : Nat} {Q : Int → am_D → Prop} {σ : am_D} {v1 : Nat} {v2 : Int}  (k : am_X (am_FI G (d + 1) Q) mX7_isWord (0, 0) 29 [some (am_r (some 1)), some (am_s v1), some (am_i (v2 + 1))] [] (am_K0, σ)) : am_X (am_FI G (d + 1) Q) mX7_isWord (0, 0) 60 [some (am_r (some 1)), some (am_s v1), some (am_i v2)] [] (am_K0, σ) := by
  refine am_r_iinc (nx := 63) rfl rfl (show decode cX7_isWord 60 = .ok (.iinc 2 1, 3) by decide +kernel) rfl ?_
  refine am_r_goto (tg := 29) (show decode cX7_isWord 63 = .ok (.goto (-34), 3) by decide +kernel) (by decide) ?_
  exact k
theorem S_X7_isWord_66 {G : am_G} {d : Nat} {Q : Int → am_D → Prop} {σ : am_D}   (k : Q 1 σ) : am_X (am_FI G (d + 1) Q) mX7_isWord (0, 0) 66 [none, none, none] [] (am_K0, σ) := by
  refine am_r_iconst (nx := 67) (show decode cX7_isWord 66 = .ok (.iconst 1, 1) by decide +kernel) rfl ?_
  exact am_r_iret rfl rfl (show decode cX7_isWord 67 = .ok (.ireturn, 1) by decide +kernel) ⟨_, _, rfl, rfl, k⟩
theorem S_X7_letter_0 {G : am_G} {d : Nat} {Q : Int → am_D → Prop} {σ : am_D} {Q' : am_D → Prop} (hc : am_MV G d mX7_advance [am_r (some 1)] σ Q') (k : ∀ σ' : am_D, Q' σ' → am_X (am_FI G (d + 1) Q) mX7_letter (0, 0) 4 [some (am_r (some 1)), none] [] (am_K0, σ')) : am_X (am_FI G (d + 1) Q) mX7_letter (0, 0) 0 [some (am_r (some 1)), none] [] (am_K0, σ) := by
  refine am_r_aload_n (nx := 1) rfl rfl (show decode cX7_letter 0 = .ok (.aload_n 0, 1) by decide +kernel) rfl ?_
  refine am_r_callV (as := []) (st := []) hc mb_X7_advance mv_X7_advance (Or.inl ml_X7_52) (ob_1) (by omega) (r := (RX7, TX7, 6)) rfl rfl rfl rfl (Nat.le_of_ble_eq_true rfl) ⟨Nat.le_refl _, Nat.le_refl _⟩ ⟨Nat.le_refl _, Nat.le_refl _⟩ (show decode cX7_letter 1 = .ok (.invokevirtual 52, 3) by decide +kernel) ?_
  rintro _ _ ⟨σ', rfl, rfl, hq⟩ _
  exact (k σ' hq)
theorem S_X7_letter_4 {G : am_G} {d : Nat} {Q : Int → am_D → Prop} {σ : am_D}  (hr1 : -2147483648 ≤ (σ.1 1 2) ∧ (σ.1 1 2) ≤ 2147483647) (k1 : ¬ (σ.1 1 2) = 97 → am_X (am_FI G (d + 1) Q) mX7_letter (0, 0) 43 [some (am_r (some 1)), none] [] (am_K0, σ)) (k2 : ¬ (¬ (σ.1 1 2) = 97) → am_X (am_FI G (d + 1) Q) mX7_letter (0, 0) 13 [some (am_r (some 1)), none] [] (am_K0, σ)) : am_X (am_FI G (d + 1) Q) mX7_letter (0, 0) 4 [some (am_r (some 1)), none] [] (am_K0, σ) := by
  refine am_r_aload_n (nx := 5) rfl rfl (show decode cX7_letter 4 = .ok (.aload_n 0, 1) by decide +kernel) rfl ?_
  refine am_r_getI (nx := 8) 2 cw7 (by decide) rfl (Or.inl fl_X7_40) (ob_1) (show decode cX7_letter 5 = .ok (.getfield 40, 3) by decide +kernel) rfl ?_
  refine am_r_bipush (nx := 10) rfl (show decode cX7_letter 8 = .ok (.bipush 97, 2) by decide +kernel) rfl ?_
  refine am_r_icmp_ne (tg := 43) (nx := 13) (show decode cX7_letter 10 = .ok (.if_icmp .ne 33, 3) by decide +kernel) (by decide) rfl hr1 (by omega) ?_ ?_
  · exact fun q => k1 q
  · exact fun q => k2 q
theorem S_X7_letter_13 {G : am_G} {d : Nat} {Q : Int → am_D → Prop} {σ : am_D}  (hr1 : -2147483648 ≤ ((σ.1 1 4) - (σ.1 1 3)) ∧ ((σ.1 1 4) - (σ.1 1 3)) ≤ 2147483647) (k1 : ¬ ((σ.1 1 4) - (σ.1 1 3)) = 1 → am_X (am_FI G (d + 1) Q) mX7_letter (0, 0) 43 [some (am_r (some 1)), none] [] (am_K0, σ)) (k2 : ¬ (¬ ((σ.1 1 4) - (σ.1 1 3)) = 1) → am_X (am_FI G (d + 1) Q) mX7_letter (0, 0) 26 [some (am_r (some 1)), none] [] (am_K0, σ)) : am_X (am_FI G (d + 1) Q) mX7_letter (0, 0) 13 [some (am_r (some 1)), none] [] (am_K0, σ) := by
  refine am_r_aload_n (nx := 14) rfl rfl (show decode cX7_letter 13 = .ok (.aload_n 0, 1) by decide +kernel) rfl ?_
  refine am_r_getI (nx := 17) 4 cw7 (by decide) rfl (Or.inl fl_X7_26) (ob_1) (show decode cX7_letter 14 = .ok (.getfield 26, 3) by decide +kernel) rfl ?_
  refine am_r_aload_n (nx := 18) rfl rfl (show decode cX7_letter 17 = .ok (.aload_n 0, 1) by decide +kernel) rfl ?_
  refine am_r_getI (nx := 21) 3 cw7 (by decide) rfl (Or.inl fl_X7_23) (ob_1) (show decode cX7_letter 18 = .ok (.getfield 23, 3) by decide +kernel) rfl ?_
  refine am_r_isub (nx := 22) (show decode cX7_letter 21 = .ok (.isub, 1) by decide +kernel) rfl ?_
  refine am_r_iconst (nx := 23) (show decode cX7_letter 22 = .ok (.iconst 1, 1) by decide +kernel) rfl ?_
  refine am_r_icmp_ne (tg := 43) (nx := 26) (show decode cX7_letter 23 = .ok (.if_icmp .ne 20, 3) by decide +kernel) (by decide) rfl hr1 (by omega) ?_ ?_
  · exact fun q => k1 q
  · exact fun q => k2 q
theorem S_X7_letter_26 {G : am_G} {d : Nat} {Q : Int → am_D → Prop} {σ : am_D} {Q' : Int → am_D → Prop} (hc : am_MI G d mX10_at [am_r (some 2), am_i (σ.1 1 3)] σ Q') (k : ∀ (x : Int) (σ' : am_D), Q' x σ' → am_X (am_FI G (d + 1) Q) mX7_letter (0, 0) 37 [some (am_r (some 1)), none] [am_i x] (am_K0, σ')) : am_X (am_FI G (d + 1) Q) mX7_letter (0, 0) 26 [some (am_r (some 1)), none] [] (am_K0, σ) := by
  refine am_r_aload_n (nx := 27) rfl rfl (show decode cX7_letter 26 = .ok (.aload_n 0, 1) by decide +kernel) rfl ?_
  refine am_r_getF (nx := 30) 0 cw7 (by decide) rfl (Or.inl fl_X7_9) (ob_1) (fn_1_0) (show decode cX7_letter 27 = .ok (.getfield 9, 3) by decide +kernel) rfl ?_
  refine am_r_aload_n (nx := 31) rfl rfl (show decode cX7_letter 30 = .ok (.aload_n 0, 1) by decide +kernel) rfl ?_
  refine am_r_getI (nx := 34) 3 cw7 (by decide) rfl (Or.inl fl_X7_23) (ob_1) (show decode cX7_letter 31 = .ok (.getfield 23, 3) by decide +kernel) rfl ?_
  refine am_r_callS (as := [am_r (some 2), am_i (σ.1 1 3)]) (st := []) hc mb_X10_at mv_X10_at (Or.inr ⟨_, ml_X7_32⟩) rfl rfl (Nat.le_of_ble_eq_true rfl) ⟨Nat.le_refl _, Nat.le_refl _⟩ ⟨Nat.le_refl _, Nat.le_refl _⟩ (show decode cX7_letter 34 = .ok (.invokestatic 32, 3) by decide +kernel) ?_
  rintro _ _ ⟨x, σ', rfl, rfl, hq⟩ _
  exact (k x σ' hq)
theorem S_X7_letter_37 {G : am_G} {d : Nat} {Q : Int → am_D → Prop} {σ : am_D} {s0 : Int}  (k : am_X (am_FI G (d + 1) Q) mX7_letter (0, 0) 44 [some (am_r (some 1)), none] [am_i (s0 - 97)] (am_K0, σ)) : am_X (am_FI G (d + 1) Q) mX7_letter (0, 0) 37 [some (am_r (some 1)), none] [am_i s0] (am_K0, σ) := by
  refine am_r_bipush (nx := 39) rfl (show decode cX7_letter 37 = .ok (.bipush 97, 2) by decide +kernel) rfl ?_
  refine am_r_isub (nx := 40) (show decode cX7_letter 39 = .ok (.isub, 1) by decide +kernel) rfl ?_
  refine am_r_goto (tg := 44) (show decode cX7_letter 40 = .ok (.goto 4, 3) by decide +kernel) (by decide) ?_
  exact k
theorem S_X7_letter_43 {G : am_G} {d : Nat} {Q : Int → am_D → Prop} {σ : am_D}   (k : am_X (am_FI G (d + 1) Q) mX7_letter (0, 0) 44 [some (am_r (some 1)), none] [am_i (-1)] (am_K0, σ)) : am_X (am_FI G (d + 1) Q) mX7_letter (0, 0) 43 [some (am_r (some 1)), none] [] (am_K0, σ) := by
  refine am_r_iconst (nx := 44) (show decode cX7_letter 43 = .ok (.iconst (-1), 1) by decide +kernel) rfl ?_
  exact k
theorem S_X7_letter_44 {G : am_G} {d : Nat} {Q : Int → am_D → Prop} {σ : am_D} {s0 : Int}  (k : am_X (am_FI G (d + 1) Q) mX7_letter (0, 0) 45 [some (am_r (some 1)), some (am_i s0)] [] (am_K0, σ)) : am_X (am_FI G (d + 1) Q) mX7_letter (0, 0) 44 [some (am_r (some 1)), none] [am_i s0] (am_K0, σ) := by
  refine am_r_istore_n (nx := 45) rfl (by decide) rfl (show decode cX7_letter 44 = .ok (.istore_n 1, 1) by decide +kernel) rfl ?_
  exact k
theorem S_X7_letter_45 {G : am_G} {d : Nat} {Q : Int → am_D → Prop} {σ : am_D} {v1 : Int} (hr1 : -2147483648 ≤ v1 ∧ v1 ≤ 2147483647) (k1 : v1 < 0 → am_X (am_FI G (d + 1) Q) mX7_letter (0, 0) 54 [some (am_r (some 1)), none] [] (am_K0, σ)) (k2 : ¬ (v1 < 0) → am_X (am_FI G (d + 1) Q) mX7_letter (0, 0) 49 [some (am_r (some 1)), some (am_i v1)] [] (am_K0, σ)) : am_X (am_FI G (d + 1) Q) mX7_letter (0, 0) 45 [some (am_r (some 1)), some (am_i v1)] [] (am_K0, σ) := by
  refine am_r_iload_n (nx := 46) rfl rfl (show decode cX7_letter 45 = .ok (.iload_n 1, 1) by decide +kernel) rfl ?_
  refine am_r_if_lt (tg := 54) (nx := 49) (show decode cX7_letter 46 = .ok (.ifCond .lt 8, 3) by decide +kernel) (by decide) rfl hr1 ?_ ?_
  · exact fun q => am_x_fg [1] (k1 q)
  · exact fun q => k2 q
theorem S_X7_letter_49 {G : am_G} {d : Nat} {Q : Int → am_D → Prop} {σ : am_D} {v1 : Int} (hr1 : -2147483648 ≤ v1 ∧ v1 ≤ 2147483647) (k1 : v1 < 3 → am_X (am_FI G (d + 1) Q) mX7_letter (0, 0) 61 [none, some (am_i v1)] [] (am_K0, σ)) (k2 : ¬ (v1 < 3) → am_X (am_FI G (d + 1) Q) mX7_letter (0, 0) 54 [some (am_r (some 1)), none] [] (am_K0, σ)) : am_X (am_FI G (d + 1) Q) mX7_letter (0, 0) 49 [some (am_r (some 1)), some (am_i v1)] [] (am_K0, σ) := by
  refine am_r_iload_n (nx := 50) rfl rfl (show decode cX7_letter 49 = .ok (.iload_n 1, 1) by decide +kernel) rfl ?_
  refine am_r_iconst (nx := 51) (show decode cX7_letter 50 = .ok (.iconst 3, 1) by decide +kernel) rfl ?_
  refine am_r_icmp_lt (tg := 61) (nx := 54) (show decode cX7_letter 51 = .ok (.if_icmp .lt 10, 3) by decide +kernel) (by decide) rfl hr1 (by omega) ?_ ?_
  · exact fun q => am_x_fg [0] (k1 q)
  · exact fun q => am_x_fg [1] (k2 q)
theorem S_X7_letter_54 {G : am_G} {d : Nat} {Q : Int → am_D → Prop} {σ : am_D} {Q' : am_D → Prop} (hc : am_MV G d mX7_fail [am_r (some 1), am_i 1] σ Q') (k : ∀ σ' : am_D, Q' σ' → am_X (am_FI G (d + 1) Q) mX7_letter (0, 0) 59 [none, none] [] (am_K0, σ')) : am_X (am_FI G (d + 1) Q) mX7_letter (0, 0) 54 [some (am_r (some 1)), none] [] (am_K0, σ) := by
  refine am_r_aload_n (nx := 55) rfl rfl (show decode cX7_letter 54 = .ok (.aload_n 0, 1) by decide +kernel) rfl ?_
  refine am_r_iconst (nx := 56) (show decode cX7_letter 55 = .ok (.iconst 1, 1) by decide +kernel) rfl ?_
  refine am_r_callV (as := [am_i 1]) (st := []) hc mb_X7_fail mv_X7_fail (Or.inl ml_X7_55) (ob_1) (by omega) (r := (RX7, TX7, 6)) rfl rfl rfl rfl (Nat.le_of_ble_eq_true rfl) ⟨Nat.le_refl _, Nat.le_refl _⟩ ⟨Nat.le_refl _, Nat.le_refl _⟩ (show decode cX7_letter 56 = .ok (.invokevirtual 55, 3) by decide +kernel) ?_
  rintro _ _ ⟨σ', rfl, rfl, hq⟩ _
  exact am_x_fg [0] (k σ' hq)
theorem S_X7_letter_59 {G : am_G} {d : Nat} {Q : Int → am_D → Prop} {σ : am_D}   (k : Q (-1) σ) : am_X (am_FI G (d + 1) Q) mX7_letter (0, 0) 59 [none, none] [] (am_K0, σ) := by
  refine am_r_iconst (nx := 60) (show decode cX7_letter 59 = .ok (.iconst (-1), 1) by decide +kernel) rfl ?_
  exact am_r_iret rfl rfl (show decode cX7_letter 60 = .ok (.ireturn, 1) by decide +kernel) ⟨_, _, rfl, rfl, k⟩
theorem S_X7_letter_61 {G : am_G} {d : Nat} {Q : Int → am_D → Prop} {σ : am_D} {v1 : Int}  (k : Q v1 σ) : am_X (am_FI G (d + 1) Q) mX7_letter (0, 0) 61 [none, some (am_i v1)] [] (am_K0, σ) := by
  refine am_r_iload_n (nx := 62) rfl rfl (show decode cX7_letter 61 = .ok (.iload_n 1, 1) by decide +kernel) rfl ?_
  exact am_r_iret rfl rfl (show decode cX7_letter 62 = .ok (.ireturn, 1) by decide +kernel) ⟨_, _, rfl, rfl, k⟩
theorem S_X7_digit_0 {G : am_G} {d : Nat} {Q : Int → am_D → Prop} {σ : am_D} {v1 : Int} {v2 : Int} {Q' : am_D → Prop} (hc : am_MV G d mX7_advance [am_r (some 1)] σ Q') (k : ∀ σ' : am_D, Q' σ' → am_X (am_FI G (d + 1) Q) mX7_digit (0, 0) 4 [some (am_r (some 1)), some (am_i v1), some (am_i v2), none] [] (am_K0, σ')) : am_X (am_FI G (d + 1) Q) mX7_digit (0, 0) 0 [some (am_r (some 1)), some (am_i v1), some (am_i v2), none] [] (am_K0, σ) := by
  refine am_r_aload_n (nx := 1) rfl rfl (show decode cX7_digit 0 = .ok (.aload_n 0, 1) by decide +kernel) rfl ?_
  refine am_r_callV (as := []) (st := []) hc mb_X7_advance mv_X7_advance (Or.inl ml_X7_52) (ob_1) (by omega) (r := (RX7, TX7, 6)) rfl rfl rfl rfl (Nat.le_of_ble_eq_true rfl) ⟨Nat.le_refl _, Nat.le_refl _⟩ ⟨Nat.le_refl _, Nat.le_refl _⟩ (show decode cX7_digit 1 = .ok (.invokevirtual 52, 3) by decide +kernel) ?_
  rintro _ _ ⟨σ', rfl, rfl, hq⟩ _
  exact (k σ' hq)
theorem S_X7_digit_4 {G : am_G} {d : Nat} {Q : Int → am_D → Prop} {σ : am_D} {v1 : Int} {v2 : Int} (hr1 : -2147483648 ≤ (σ.1 1 2) ∧ (σ.1 1 2) ≤ 2147483647) (k1 : ¬ (σ.1 1 2) = 48 → am_X (am_FI G (d + 1) Q) mX7_digit (0, 0) 26 [some (am_r (some 1)), none, none, none] [] (am_K0, σ)) (k2 : ¬ (¬ (σ.1 1 2) = 48) → am_X (am_FI G (d + 1) Q) mX7_digit (0, 0) 13 [some (am_r (some 1)), some (am_i v1), some (am_i v2), none] [] (am_K0, σ)) : am_X (am_FI G (d + 1) Q) mX7_digit (0, 0) 4 [some (am_r (some 1)), some (am_i v1), some (am_i v2), none] [] (am_K0, σ) := by
  refine am_r_aload_n (nx := 5) rfl rfl (show decode cX7_digit 4 = .ok (.aload_n 0, 1) by decide +kernel) rfl ?_
  refine am_r_getI (nx := 8) 2 cw7 (by decide) rfl (Or.inl fl_X7_40) (ob_1) (show decode cX7_digit 5 = .ok (.getfield 40, 3) by decide +kernel) rfl ?_
  refine am_r_bipush (nx := 10) rfl (show decode cX7_digit 8 = .ok (.bipush 48, 2) by decide +kernel) rfl ?_
  refine am_r_icmp_ne (tg := 26) (nx := 13) (show decode cX7_digit 10 = .ok (.if_icmp .ne 16, 3) by decide +kernel) (by decide) rfl hr1 (by omega) ?_ ?_
  · exact fun q => am_x_fg [1, 2] (k1 q)
  · exact fun q => k2 q
theorem S_X7_digit_13 {G : am_G} {d : Nat} {Q : Int → am_D → Prop} {σ : am_D} {v1 : Int} {v2 : Int} (hr1 : -2147483648 ≤ ((σ.1 1 4) - (σ.1 1 3)) ∧ ((σ.1 1 4) - (σ.1 1 3)) ≤ 2147483647) (k1 : ((σ.1 1 4) - (σ.1 1 3)) = 1 → am_X (am_FI G (d + 1) Q) mX7_digit (0, 0) 33 [some (am_r (some 1)), some (am_i v1), some (am_i v2), none] [] (am_K0, σ)) (k2 : ¬ (((σ.1 1 4) - (σ.1 1 3)) = 1) → am_X (am_FI G (d + 1) Q) mX7_digit (0, 0) 26 [some (am_r (some 1)), none, none, none] [] (am_K0, σ)) : am_X (am_FI G (d + 1) Q) mX7_digit (0, 0) 13 [some (am_r (some 1)), some (am_i v1), some (am_i v2), none] [] (am_K0, σ) := by
  refine am_r_aload_n (nx := 14) rfl rfl (show decode cX7_digit 13 = .ok (.aload_n 0, 1) by decide +kernel) rfl ?_
  refine am_r_getI (nx := 17) 4 cw7 (by decide) rfl (Or.inl fl_X7_26) (ob_1) (show decode cX7_digit 14 = .ok (.getfield 26, 3) by decide +kernel) rfl ?_
  refine am_r_aload_n (nx := 18) rfl rfl (show decode cX7_digit 17 = .ok (.aload_n 0, 1) by decide +kernel) rfl ?_
  refine am_r_getI (nx := 21) 3 cw7 (by decide) rfl (Or.inl fl_X7_23) (ob_1) (show decode cX7_digit 18 = .ok (.getfield 23, 3) by decide +kernel) rfl ?_
  refine am_r_isub (nx := 22) (show decode cX7_digit 21 = .ok (.isub, 1) by decide +kernel) rfl ?_
  refine am_r_iconst (nx := 23) (show decode cX7_digit 22 = .ok (.iconst 1, 1) by decide +kernel) rfl ?_
  refine am_r_icmp_eq (tg := 33) (nx := 26) (show decode cX7_digit 23 = .ok (.if_icmp .eq 10, 3) by decide +kernel) (by decide) rfl hr1 (by omega) ?_ ?_
  · exact fun q => k1 q
  · exact fun q => am_x_fg [1, 2] (k2 q)
theorem S_X7_digit_26 {G : am_G} {d : Nat} {Q : Int → am_D → Prop} {σ : am_D} {Q' : am_D → Prop} (hc : am_MV G d mX7_fail [am_r (some 1), am_i 1] σ Q') (k : ∀ σ' : am_D, Q' σ' → am_X (am_FI G (d + 1) Q) mX7_digit (0, 0) 31 [none, none, none, none] [] (am_K0, σ')) : am_X (am_FI G (d + 1) Q) mX7_digit (0, 0) 26 [some (am_r (some 1)), none, none, none] [] (am_K0, σ) := by
  refine am_r_aload_n (nx := 27) rfl rfl (show decode cX7_digit 26 = .ok (.aload_n 0, 1) by decide +kernel) rfl ?_
  refine am_r_iconst (nx := 28) (show decode cX7_digit 27 = .ok (.iconst 1, 1) by decide +kernel) rfl ?_
  refine am_r_callV (as := [am_i 1]) (st := []) hc mb_X7_fail mv_X7_fail (Or.inl ml_X7_55) (ob_1) (by omega) (r := (RX7, TX7, 6)) rfl rfl rfl rfl (Nat.le_of_ble_eq_true rfl) ⟨Nat.le_refl _, Nat.le_refl _⟩ ⟨Nat.le_refl _, Nat.le_refl _⟩ (show decode cX7_digit 28 = .ok (.invokevirtual 55, 3) by decide +kernel) ?_
  rintro _ _ ⟨σ', rfl, rfl, hq⟩ _
  exact am_x_fg [0] (k σ' hq)
theorem S_X7_digit_31 {G : am_G} {d : Nat} {Q : Int → am_D → Prop} {σ : am_D}   (k : Q (-1) σ) : am_X (am_FI G (d + 1) Q) mX7_digit (0, 0) 31 [none, none, none, none] [] (am_K0, σ) := by
  refine am_r_iconst (nx := 32) (show decode cX7_digit 31 = .ok (.iconst (-1), 1) by decide +kernel) rfl ?_
  exact am_r_iret rfl rfl (show decode cX7_digit 32 = .ok (.ireturn, 1) by decide +kernel) ⟨_, _, rfl, rfl, k⟩
theorem S_X7_digit_33 {G : am_G} {d : Nat} {Q : Int → am_D → Prop} {σ : am_D} {v1 : Int} {v2 : Int} {Q' : Int → am_D → Prop} (hc : am_MI G d mX10_at [am_r (some 2), am_i (σ.1 1 3)] σ Q') (k : ∀ (x : Int) (σ' : am_D), Q' x σ' → am_X (am_FI G (d + 1) Q) mX7_digit (0, 0) 44 [some (am_r (some 1)), some (am_i v1), some (am_i v2), none] [am_i x] (am_K0, σ')) : am_X (am_FI G (d + 1) Q) mX7_digit (0, 0) 33 [some (am_r (some 1)), some (am_i v1), some (am_i v2), none] [] (am_K0, σ) := by
  refine am_r_aload_n (nx := 34) rfl rfl (show decode cX7_digit 33 = .ok (.aload_n 0, 1) by decide +kernel) rfl ?_
  refine am_r_getF (nx := 37) 0 cw7 (by decide) rfl (Or.inl fl_X7_9) (ob_1) (fn_1_0) (show decode cX7_digit 34 = .ok (.getfield 9, 3) by decide +kernel) rfl ?_
  refine am_r_aload_n (nx := 38) rfl rfl (show decode cX7_digit 37 = .ok (.aload_n 0, 1) by decide +kernel) rfl ?_
  refine am_r_getI (nx := 41) 3 cw7 (by decide) rfl (Or.inl fl_X7_23) (ob_1) (show decode cX7_digit 38 = .ok (.getfield 23, 3) by decide +kernel) rfl ?_
  refine am_r_callS (as := [am_r (some 2), am_i (σ.1 1 3)]) (st := []) hc mb_X10_at mv_X10_at (Or.inr ⟨_, ml_X7_32⟩) rfl rfl (Nat.le_of_ble_eq_true rfl) ⟨Nat.le_refl _, Nat.le_refl _⟩ ⟨Nat.le_refl _, Nat.le_refl _⟩ (show decode cX7_digit 41 = .ok (.invokestatic 32, 3) by decide +kernel) ?_
  rintro _ _ ⟨x, σ', rfl, rfl, hq⟩ _
  exact (k x σ' hq)
theorem S_X7_digit_44 {G : am_G} {d : Nat} {Q : Int → am_D → Prop} {σ : am_D} {v1 : Int} {v2 : Int} {s0 : Int}  (k : am_X (am_FI G (d + 1) Q) mX7_digit (0, 0) 48 [some (am_r (some 1)), some (am_i v1), some (am_i v2), some (am_i (s0 - 48))] [] (am_K0, σ)) : am_X (am_FI G (d + 1) Q) mX7_digit (0, 0) 44 [some (am_r (some 1)), some (am_i v1), some (am_i v2), none] [am_i s0] (am_K0, σ) := by
  refine am_r_bipush (nx := 46) rfl (show decode cX7_digit 44 = .ok (.bipush 48, 2) by decide +kernel) rfl ?_
  refine am_r_isub (nx := 47) (show decode cX7_digit 46 = .ok (.isub, 1) by decide +kernel) rfl ?_
  refine am_r_istore_n (nx := 48) rfl (by decide) rfl (show decode cX7_digit 47 = .ok (.istore_n 3, 1) by decide +kernel) rfl ?_
  exact k
theorem S_X7_digit_48 {G : am_G} {d : Nat} {Q : Int → am_D → Prop} {σ : am_D} {v1 : Int} {v2 : Int} {v3 : Int} (hr1 : -2147483648 ≤ v3 ∧ v3 ≤ 2147483647) (hr2 : -2147483648 ≤ v1 ∧ v1 ≤ 2147483647) (k1 : v3 < v1 → am_X (am_FI G (d + 1) Q) mX7_digit (0, 0) 58 [some (am_r (some 1)), none, none, none] [] (am_K0, σ)) (k2 : ¬ (v3 < v1) → am_X (am_FI G (d + 1) Q) mX7_digit (0, 0) 53 [some (am_r (some 1)), none, some (am_i v2), some (am_i v3)] [] (am_K0, σ)) : am_X (am_FI G (d + 1) Q) mX7_digit (0, 0) 48 [some (am_r (some 1)), some (am_i v1), some (am_i v2), some (am_i v3)] [] (am_K0, σ) := by
  refine am_r_iload_n (nx := 49) rfl rfl (show decode cX7_digit 48 = .ok (.iload_n 3, 1) by decide +kernel) rfl ?_
  refine am_r_iload_n (nx := 50) rfl rfl (show decode cX7_digit 49 = .ok (.iload_n 1, 1) by decide +kernel) rfl ?_
  refine am_r_icmp_lt (tg := 58) (nx := 53) (show decode cX7_digit 50 = .ok (.if_icmp .lt 8, 3) by decide +kernel) (by decide) rfl hr1 hr2 ?_ ?_
  · exact fun q => am_x_fg [1, 2, 3] (k1 q)
  · exact fun q => am_x_fg [1] (k2 q)
theorem S_X7_digit_53 {G : am_G} {d : Nat} {Q : Int → am_D → Prop} {σ : am_D} {v2 : Int} {v3 : Int} (hr1 : -2147483648 ≤ v3 ∧ v3 ≤ 2147483647) (hr2 : -2147483648 ≤ v2 ∧ v2 ≤ 2147483647) (k1 : v3 ≤ v2 → am_X (am_FI G (d + 1) Q) mX7_digit (0, 0) 65 [none, none, none, some (am_i v3)] [] (am_K0, σ)) (k2 : ¬ (v3 ≤ v2) → am_X (am_FI G (d + 1) Q) mX7_digit (0, 0) 58 [some (am_r (some 1)), none, none, none] [] (am_K0, σ)) : am_X (am_FI G (d + 1) Q) mX7_digit (0, 0) 53 [some (am_r (some 1)), none, some (am_i v2), some (am_i v3)] [] (am_K0, σ) := by
  refine am_r_iload_n (nx := 54) rfl rfl (show decode cX7_digit 53 = .ok (.iload_n 3, 1) by decide +kernel) rfl ?_
  refine am_r_iload_n (nx := 55) rfl rfl (show decode cX7_digit 54 = .ok (.iload_n 2, 1) by decide +kernel) rfl ?_
  refine am_r_icmp_le (tg := 65) (nx := 58) (show decode cX7_digit 55 = .ok (.if_icmp .le 10, 3) by decide +kernel) (by decide) rfl hr1 hr2 ?_ ?_
  · exact fun q => am_x_fg [0, 2] (k1 q)
  · exact fun q => am_x_fg [2, 3] (k2 q)
theorem S_X7_digit_58 {G : am_G} {d : Nat} {Q : Int → am_D → Prop} {σ : am_D} {Q' : am_D → Prop} (hc : am_MV G d mX7_fail [am_r (some 1), am_i 2] σ Q') (k : ∀ σ' : am_D, Q' σ' → am_X (am_FI G (d + 1) Q) mX7_digit (0, 0) 63 [none, none, none, none] [] (am_K0, σ')) : am_X (am_FI G (d + 1) Q) mX7_digit (0, 0) 58 [some (am_r (some 1)), none, none, none] [] (am_K0, σ) := by
  refine am_r_aload_n (nx := 59) rfl rfl (show decode cX7_digit 58 = .ok (.aload_n 0, 1) by decide +kernel) rfl ?_
  refine am_r_iconst (nx := 60) (show decode cX7_digit 59 = .ok (.iconst 2, 1) by decide +kernel) rfl ?_
  refine am_r_callV (as := [am_i 2]) (st := []) hc mb_X7_fail mv_X7_fail (Or.inl ml_X7_55) (ob_1) (by omega) (r := (RX7, TX7, 6)) rfl rfl rfl rfl (Nat.le_of_ble_eq_true rfl) ⟨Nat.le_refl _, Nat.le_refl _⟩ ⟨Nat.le_refl _, Nat.le_refl _⟩ (show decode cX7_digit 60 = .ok (.invokevirtual 55, 3) by decide +kernel) ?_
  rintro _ _ ⟨σ', rfl, rfl, hq⟩ _
  exact am_x_fg [0] (k σ' hq)
theorem S_X7_digit_63 {G : am_G} {d : Nat} {Q : Int → am_D → Prop} {σ : am_D}   (k : Q (-1) σ) : am_X (am_FI G (d + 1) Q) mX7_digit (0, 0) 63 [none, none, none, none] [] (am_K0, σ) := by
  refine am_r_iconst (nx := 64) (show decode cX7_digit 63 = .ok (.iconst (-1), 1) by decide +kernel) rfl ?_
  exact am_r_iret rfl rfl (show decode cX7_digit 64 = .ok (.ireturn, 1) by decide +kernel) ⟨_, _, rfl, rfl, k⟩
theorem S_X7_digit_65 {G : am_G} {d : Nat} {Q : Int → am_D → Prop} {σ : am_D} {v3 : Int}  (k : Q v3 σ) : am_X (am_FI G (d + 1) Q) mX7_digit (0, 0) 65 [none, none, none, some (am_i v3)] [] (am_K0, σ) := by
  refine am_r_iload_n (nx := 66) rfl rfl (show decode cX7_digit 65 = .ok (.iload_n 3, 1) by decide +kernel) rfl ?_
  exact am_r_iret rfl rfl (show decode cX7_digit 66 = .ok (.ireturn, 1) by decide +kernel) ⟨_, _, rfl, rfl, k⟩
theorem S_X7_sign_0 {G : am_G} {d : Nat} {Q : am_D → Prop} {σ : am_D} {v1 : Int} {Q' : am_D → Prop} (hc : am_MV G d mX7_advance [am_r (some 1)] σ Q') (k : ∀ σ' : am_D, Q' σ' → am_X (am_FV G (d + 1) Q) mX7_sign (0, 0) 4 [some (am_r (some 1)), some (am_i v1)] [] (am_K0, σ')) : am_X (am_FV G (d + 1) Q) mX7_sign (0, 0) 0 [some (am_r (some 1)), some (am_i v1)] [] (am_K0, σ) := by
  refine am_r_aload_n (nx := 1) rfl rfl (show decode cX7_sign 0 = .ok (.aload_n 0, 1) by decide +kernel) rfl ?_
  refine am_r_callV (as := []) (st := []) hc mb_X7_advance mv_X7_advance (Or.inl ml_X7_52) (ob_1) (by omega) (r := (RX7, TX7, 6)) rfl rfl rfl rfl (Nat.le_of_ble_eq_true rfl) ⟨Nat.le_refl _, Nat.le_refl _⟩ ⟨Nat.le_refl _, Nat.le_refl _⟩ (show decode cX7_sign 1 = .ok (.invokevirtual 52, 3) by decide +kernel) ?_
  rintro _ _ ⟨σ', rfl, rfl, hq⟩ _
  exact (k σ' hq)
theorem S_X7_sign_4 {G : am_G} {d : Nat} {Q : am_D → Prop} {σ : am_D} {v1 : Int} (hr1 : -2147483648 ≤ (σ.1 1 2) ∧ (σ.1 1 2) ≤ 2147483647) (hr2 : -2147483648 ≤ v1 ∧ v1 ≤ 2147483647) (k1 : (σ.1 1 2) = v1 → am_X (am_FV G (d + 1) Q) mX7_sign (0, 0) 17 [none, none] [] (am_K0, σ)) (k2 : ¬ ((σ.1 1 2) = v1) → am_X (am_FV G (d + 1) Q) mX7_sign (0, 0) 12 [some (am_r (some 1)), none] [] (am_K0, σ)) : am_X (am_FV G (d + 1) Q) mX7_sign (0, 0) 4 [some (am_r (some 1)), some (am_i v1)] [] (am_K0, σ) := by
  refine am_r_aload_n (nx := 5) rfl rfl (show decode cX7_sign 4 = .ok (.aload_n 0, 1) by decide +kernel) rfl ?_
  refine am_r_getI (nx := 8) 2 cw7 (by decide) rfl (Or.inl fl_X7_40) (ob_1) (show decode cX7_sign 5 = .ok (.getfield 40, 3) by decide +kernel) rfl ?_
  refine am_r_iload_n (nx := 9) rfl rfl (show decode cX7_sign 8 = .ok (.iload_n 1, 1) by decide +kernel) rfl ?_
  refine am_r_icmp_eq (tg := 17) (nx := 12) (show decode cX7_sign 9 = .ok (.if_icmp .eq 8, 3) by decide +kernel) (by decide) rfl hr1 hr2 ?_ ?_
  · exact fun q => am_x_fg [0, 1] (k1 q)
  · exact fun q => am_x_fg [1] (k2 q)
theorem S_X7_sign_12 {G : am_G} {d : Nat} {Q : am_D → Prop} {σ : am_D} {Q' : am_D → Prop} (hc : am_MV G d mX7_fail [am_r (some 1), am_i 1] σ Q') (k : ∀ σ' : am_D, Q' σ' → am_X (am_FV G (d + 1) Q) mX7_sign (0, 0) 17 [none, none] [] (am_K0, σ')) : am_X (am_FV G (d + 1) Q) mX7_sign (0, 0) 12 [some (am_r (some 1)), none] [] (am_K0, σ) := by
  refine am_r_aload_n (nx := 13) rfl rfl (show decode cX7_sign 12 = .ok (.aload_n 0, 1) by decide +kernel) rfl ?_
  refine am_r_iconst (nx := 14) (show decode cX7_sign 13 = .ok (.iconst 1, 1) by decide +kernel) rfl ?_
  refine am_r_callV (as := [am_i 1]) (st := []) hc mb_X7_fail mv_X7_fail (Or.inl ml_X7_55) (ob_1) (by omega) (r := (RX7, TX7, 6)) rfl rfl rfl rfl (Nat.le_of_ble_eq_true rfl) ⟨Nat.le_refl _, Nat.le_refl _⟩ ⟨Nat.le_refl _, Nat.le_refl _⟩ (show decode cX7_sign 14 = .ok (.invokevirtual 55, 3) by decide +kernel) ?_
  rintro _ _ ⟨σ', rfl, rfl, hq⟩ _
  exact am_x_fg [0] (k σ' hq)
theorem S_X7_sign_17 {G : am_G} {d : Nat} {Q : am_D → Prop} {σ : am_D}   (k : Q σ) : am_X (am_FV G (d + 1) Q) mX7_sign (0, 0) 17 [none, none] [] (am_K0, σ) := by
  exact am_r_vret rfl (show decode cX7_sign 17 = .ok (.return_, 1) by decide +kernel) ⟨_, rfl, rfl, k⟩
end
