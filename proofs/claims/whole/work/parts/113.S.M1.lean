section
theorem S_X11_isIn_0 {G : am_G} {d : Nat} {Q : Int → am_D → Prop} {σ : am_D} {v0 : Int} {v1 : Int} {v2 : Int} (hr1 : -2147483648 ≤ v0 ∧ v0 ≤ 2147483647) (hr2 : -2147483648 ≤ v1 ∧ v1 ≤ 2147483647) (k1 : v0 < v1 → am_X (am_FI G (d + 1) Q) mX11_isIn (0, 0) 14 [none, none, none] [] (am_K0, σ)) (k2 : ¬ (v0 < v1) → am_X (am_FI G (d + 1) Q) mX11_isIn (0, 0) 5 [some (am_i v0), none, some (am_i v2)] [] (am_K0, σ)) : am_X (am_FI G (d + 1) Q) mX11_isIn (0, 0) 0 [some (am_i v0), some (am_i v1), some (am_i v2)] [] (am_K0, σ) := by
  refine am_r_iload_n (nx := 1) rfl rfl (show decode cX11_isIn 0 = .ok (.iload_n 0, 1) by decide +kernel) rfl ?_
  refine am_r_iload_n (nx := 2) rfl rfl (show decode cX11_isIn 1 = .ok (.iload_n 1, 1) by decide +kernel) rfl ?_
  refine am_r_icmp_lt (tg := 14) (nx := 5) (show decode cX11_isIn 2 = .ok (.if_icmp .lt 12, 3) by decide +kernel) (by decide) rfl hr1 hr2 ?_ ?_
  · exact fun q => am_x_fg [0, 1, 2] (k1 q)
  · exact fun q => am_x_fg [1] (k2 q)
theorem S_X11_isIn_5 {G : am_G} {d : Nat} {Q : Int → am_D → Prop} {σ : am_D} {v0 : Int} {v2 : Int} (hr1 : -2147483648 ≤ v0 ∧ v0 ≤ 2147483647) (hr2 : -2147483648 ≤ v2 ∧ v2 ≤ 2147483647) (k1 : v2 < v0 → am_X (am_FI G (d + 1) Q) mX11_isIn (0, 0) 14 [none, none, none] [] (am_K0, σ)) (k2 : ¬ (v2 < v0) → am_X (am_FI G (d + 1) Q) mX11_isIn (0, 0) 10 [none, none, none] [] (am_K0, σ)) : am_X (am_FI G (d + 1) Q) mX11_isIn (0, 0) 5 [some (am_i v0), none, some (am_i v2)] [] (am_K0, σ) := by
  refine am_r_iload_n (nx := 6) rfl rfl (show decode cX11_isIn 5 = .ok (.iload_n 0, 1) by decide +kernel) rfl ?_
  refine am_r_iload_n (nx := 7) rfl rfl (show decode cX11_isIn 6 = .ok (.iload_n 2, 1) by decide +kernel) rfl ?_
  refine am_r_icmp_gt (tg := 14) (nx := 10) (show decode cX11_isIn 7 = .ok (.if_icmp .gt 7, 3) by decide +kernel) (by decide) rfl hr1 hr2 ?_ ?_
  · exact fun q => am_x_fg [0, 2] (k1 q)
  · exact fun q => am_x_fg [0, 2] (k2 q)
theorem S_X11_isIn_10 {G : am_G} {d : Nat} {Q : Int → am_D → Prop} {σ : am_D}   (k : am_X (am_FI G (d + 1) Q) mX11_isIn (0, 0) 15 [none, none, none] [am_i 1] (am_K0, σ)) : am_X (am_FI G (d + 1) Q) mX11_isIn (0, 0) 10 [none, none, none] [] (am_K0, σ) := by
  refine am_r_iconst (nx := 11) (show decode cX11_isIn 10 = .ok (.iconst 1, 1) by decide +kernel) rfl ?_
  refine am_r_goto (tg := 15) (show decode cX11_isIn 11 = .ok (.goto 4, 3) by decide +kernel) (by decide) ?_
  exact k
theorem S_X11_isIn_14 {G : am_G} {d : Nat} {Q : Int → am_D → Prop} {σ : am_D}   (k : am_X (am_FI G (d + 1) Q) mX11_isIn (0, 0) 15 [none, none, none] [am_i 0] (am_K0, σ)) : am_X (am_FI G (d + 1) Q) mX11_isIn (0, 0) 14 [none, none, none] [] (am_K0, σ) := by
  refine am_r_iconst (nx := 15) (show decode cX11_isIn 14 = .ok (.iconst 0, 1) by decide +kernel) rfl ?_
  exact k
theorem S_X11_isIn_15 {G : am_G} {d : Nat} {Q : Int → am_D → Prop} {σ : am_D} {s0 : Int} (hz : s0 = 0 ∨ s0 = 1) (k : Q s0 σ) : am_X (am_FI G (d + 1) Q) mX11_isIn (0, 0) 15 [none, none, none] [am_i s0] (am_K0, σ) := by
  exact am_r_iret rfl (by rcases hz with hz | hz <;> rw [hz] <;> rfl) (show decode cX11_isIn 15 = .ok (.ireturn, 1) by decide +kernel) ⟨_, _, rfl, rfl, k⟩
theorem S_X11_put_0 {G : am_G} {d : Nat} {Q : am_D → Prop} {σ : am_D} {v1 : Int}  (k : am_X (am_FV G (d + 1) Q) mX11_put (0, 0) 3 [some (am_r (some 91)), some (am_i v1), some (am_i 24)] [] (am_K0, σ)) : am_X (am_FV G (d + 1) Q) mX11_put (0, 0) 0 [some (am_r (some 91)), some (am_i v1), none] [] (am_K0, σ) := by
  refine am_r_bipush (nx := 2) rfl (show decode cX11_put 0 = .ok (.bipush 24, 2) by decide +kernel) rfl ?_
  refine am_r_istore_n (nx := 3) rfl (by decide) rfl (show decode cX11_put 2 = .ok (.istore_n 2, 1) by decide +kernel) rfl ?_
  exact k
theorem S_X11_put_3 {G : am_G} {d : Nat} {Q : am_D → Prop} {σ : am_D} {v1 : Int} {v2 : Int} (hr1 : -2147483648 ≤ v2 ∧ v2 ≤ 2147483647) (k1 : v2 < 0 → am_X (am_FV G (d + 1) Q) mX11_put (0, 0) 36 [none, none, none] [] (am_K0, σ)) (k2 : ¬ (v2 < 0) → am_X (am_FV G (d + 1) Q) mX11_put (0, 0) 7 [some (am_r (some 91)), some (am_i v1), some (am_i v2)] [] (am_K0, σ)) : am_X (am_FV G (d + 1) Q) mX11_put (0, 0) 3 [some (am_r (some 91)), some (am_i v1), some (am_i v2)] [] (am_K0, σ) := by
  refine am_r_iload_n (nx := 4) rfl rfl (show decode cX11_put 3 = .ok (.iload_n 2, 1) by decide +kernel) rfl ?_
  refine am_r_if_lt (tg := 36) (nx := 7) (show decode cX11_put 4 = .ok (.ifCond .lt 32, 3) by decide +kernel) (by decide) rfl hr1 ?_ ?_
  · exact fun q => am_x_fg [0, 1, 2] (k1 q)
  · exact fun q => k2 q
theorem S_X11_put_7 {G : am_G} {d : Nat} {Q : am_D → Prop} {σ : am_D} {v1 : Int} {v2 : Int} (hi1 : 0 ≤ (σ.1 91 1)) (hj2 : (σ.1 91 1) < 600) (k : am_X (am_FV G (d + 1) Q) mX11_put (0, 0) 20 [some (am_r (some 91)), some (am_i v1), some (am_i v2)] [] (am_K0, (am_pI σ 92 (σ.1 91 1) (am_i2b (am_i2b (am_shr v1 v2)))))) : am_X (am_FV G (d + 1) Q) mX11_put (0, 0) 7 [some (am_r (some 91)), some (am_i v1), some (am_i v2)] [] (am_K0, σ) := by
  refine am_r_aload_n (nx := 8) rfl rfl (show decode cX11_put 7 = .ok (.aload_n 0, 1) by decide +kernel) rfl ?_
  refine am_r_getF (nx := 11) 0 cw11 (by decide) rfl (Or.inl fl_X11_7) (ob_91) (fn_91_0) (show decode cX11_put 8 = .ok (.getfield 7, 3) by decide +kernel) rfl ?_
  refine am_r_aload_n (nx := 12) rfl rfl (show decode cX11_put 11 = .ok (.aload_n 0, 1) by decide +kernel) rfl ?_
  refine am_r_getI (nx := 15) 1 cw11 (by decide) rfl (Or.inl fl_X11_148) (ob_91) (show decode cX11_put 12 = .ok (.getfield 148, 3) by decide +kernel) rfl ?_
  refine am_r_iload_n (nx := 16) rfl rfl (show decode cX11_put 15 = .ok (.iload_n 1, 1) by decide +kernel) rfl ?_
  refine am_r_iload_n (nx := 17) rfl rfl (show decode cX11_put 16 = .ok (.iload_n 2, 1) by decide +kernel) rfl ?_
  refine am_r_ishr (nx := 18) (show decode cX11_put 17 = .ok (.ishr, 1) by decide +kernel) rfl ?_
  refine am_r_i2b (nx := 19) (show decode cX11_put 18 = .ok (.i2b, 1) by decide +kernel) rfl ?_
  refine am_r_bast (nx := 20) (sh_92) (am_shle (sh_92)) hi1 hj2 (show decode cX11_put 19 = .ok (.bastore, 1) by decide +kernel) rfl ?_
  exact k
theorem S_X11_put_20 {G : am_G} {d : Nat} {Q : am_D → Prop} {σ : am_D} {v1 : Int} {v2 : Int}  (k : am_X (am_FV G (d + 1) Q) mX11_put (0, 0) 30 [some (am_r (some 91)), some (am_i v1), some (am_i v2)] [] (am_K0, (am_pI σ 91 1 ((σ.1 91 1) + 1)))) : am_X (am_FV G (d + 1) Q) mX11_put (0, 0) 20 [some (am_r (some 91)), some (am_i v1), some (am_i v2)] [] (am_K0, σ) := by
  refine am_r_aload_n (nx := 21) rfl rfl (show decode cX11_put 20 = .ok (.aload_n 0, 1) by decide +kernel) rfl ?_
  refine am_r_dup (nx := 22) rfl (show decode cX11_put 21 = .ok (.dup, 1) by decide +kernel) rfl ?_
  refine am_r_getI (nx := 25) 1 cw11 (by decide) rfl (Or.inl fl_X11_148) (ob_91) (show decode cX11_put 22 = .ok (.getfield 148, 3) by decide +kernel) rfl ?_
  refine am_r_iconst (nx := 26) (show decode cX11_put 25 = .ok (.iconst 1, 1) by decide +kernel) rfl ?_
  refine am_r_iadd (nx := 27) (show decode cX11_put 26 = .ok (.iadd, 1) by decide +kernel) rfl ?_
  refine am_r_putI (nx := 30) 1 cw11 (by decide) rfl (Or.inl fl_X11_148) (ob_91) rfl (Or.inl rfl) (show decode cX11_put 27 = .ok (.putfield 148, 3) by decide +kernel) rfl ?_
  exact k
theorem S_X11_put_30 {G : am_G} {d : Nat} {Q : am_D → Prop} {σ : am_D} {v1 : Int} {v2 : Int}  (k : am_X (am_FV G (d + 1) Q) mX11_put (0, 0) 3 [some (am_r (some 91)), some (am_i v1), some (am_i (v2 + (-8)))] [] (am_K0, σ)) : am_X (am_FV G (d + 1) Q) mX11_put (0, 0) 30 [some (am_r (some 91)), some (am_i v1), some (am_i v2)] [] (am_K0, σ) := by
  refine am_r_iinc (nx := 33) rfl rfl (show decode cX11_put 30 = .ok (.iinc 2 (-8), 3) by decide +kernel) rfl ?_
  refine am_r_goto (tg := 3) (show decode cX11_put 33 = .ok (.goto (-30), 3) by decide +kernel) (by decide) ?_
  exact k
theorem S_X11_put_36 {G : am_G} {d : Nat} {Q : am_D → Prop} {σ : am_D}   (k : Q σ) : am_X (am_FV G (d + 1) Q) mX11_put (0, 0) 36 [none, none, none] [] (am_K0, σ) := by
  exact am_r_vret rfl (show decode cX11_put 36 = .ok (.return_, 1) by decide +kernel) ⟨_, rfl, rfl, k⟩
theorem S_X11_feed_0 {G : am_G} {d : Nat} {Q : Int → am_D → Prop} {σ : am_D} {v1 : Int} {v2 : Int} {v3 : Int} {v4 : Int} {v5 : Int} (hr1 : -2147483648 ≤ ((σ.1 91 1) + 20) ∧ ((σ.1 91 1) + 20) ≤ 2147483647) (k1 : ((σ.1 91 1) + 20) ≤ 600 → am_X (am_FI G (d + 1) Q) mX11_feed (0, 0) 15 [some (am_r (some 91)), some (am_i v1), some (am_i v2), some (am_i v3), some (am_i v4), some (am_i v5)] [] (am_K0, σ)) (k2 : ¬ (((σ.1 91 1) + 20) ≤ 600) → am_X (am_FI G (d + 1) Q) mX11_feed (0, 0) 13 [none, none, none, none, none, none] [] (am_K0, σ)) : am_X (am_FI G (d + 1) Q) mX11_feed (0, 0) 0 [some (am_r (some 91)), some (am_i v1), some (am_i v2), some (am_i v3), some (am_i v4), some (am_i v5)] [] (am_K0, σ) := by
  refine am_r_aload_n (nx := 1) rfl rfl (show decode cX11_feed 0 = .ok (.aload_n 0, 1) by decide +kernel) rfl ?_
  refine am_r_getI (nx := 4) 1 cw11 (by decide) rfl (Or.inl fl_X11_148) (ob_91) (show decode cX11_feed 1 = .ok (.getfield 148, 3) by decide +kernel) rfl ?_
  refine am_r_bipush (nx := 6) rfl (show decode cX11_feed 4 = .ok (.bipush 20, 2) by decide +kernel) rfl ?_
  refine am_r_iadd (nx := 7) (show decode cX11_feed 6 = .ok (.iadd, 1) by decide +kernel) rfl ?_
  refine am_r_sipush (nx := 10) rfl (show decode cX11_feed 7 = .ok (.sipush 600, 3) by decide +kernel) rfl ?_
  refine am_r_icmp_le (tg := 15) (nx := 13) (show decode cX11_feed 10 = .ok (.if_icmp .le 5, 3) by decide +kernel) (by decide) rfl hr1 (by omega) ?_ ?_
  · exact fun q => k1 q
  · exact fun q => am_x_fg [0, 1, 2, 3, 4, 5] (k2 q)
theorem S_X11_feed_13 {G : am_G} {d : Nat} {Q : Int → am_D → Prop} {σ : am_D}   (k : Q (-1) σ) : am_X (am_FI G (d + 1) Q) mX11_feed (0, 0) 13 [none, none, none, none, none, none] [] (am_K0, σ) := by
  refine am_r_iconst (nx := 14) (show decode cX11_feed 13 = .ok (.iconst (-1), 1) by decide +kernel) rfl ?_
  exact am_r_iret rfl rfl (show decode cX11_feed 14 = .ok (.ireturn, 1) by decide +kernel) ⟨_, _, rfl, rfl, k⟩
theorem S_X11_feed_15 {G : am_G} {d : Nat} {Q : Int → am_D → Prop} {σ : am_D} {v1 : Int} {v2 : Int} {v3 : Int} {v4 : Int} {v5 : Int} {Q' : am_D → Prop} (hc : am_MV G d mX11_put [am_r (some 91), am_i v1] σ Q') (k : ∀ σ' : am_D, Q' σ' → am_X (am_FI G (d + 1) Q) mX11_feed (0, 0) 20 [some (am_r (some 91)), none, some (am_i v2), some (am_i v3), some (am_i v4), some (am_i v5)] [] (am_K0, σ')) : am_X (am_FI G (d + 1) Q) mX11_feed (0, 0) 15 [some (am_r (some 91)), some (am_i v1), some (am_i v2), some (am_i v3), some (am_i v4), some (am_i v5)] [] (am_K0, σ) := by
  refine am_r_aload_n (nx := 16) rfl rfl (show decode cX11_feed 15 = .ok (.aload_n 0, 1) by decide +kernel) rfl ?_
  refine am_r_iload_n (nx := 17) rfl rfl (show decode cX11_feed 16 = .ok (.iload_n 1, 1) by decide +kernel) rfl ?_
  refine am_r_callV (as := [am_i v1]) (st := []) hc mb_X11_put mv_X11_put (Or.inl ml_X11_152) (ob_91) (by omega) (r := (RX11, TX11, 63)) rfl rfl rfl rfl (Nat.le_of_ble_eq_true rfl) ⟨Nat.le_refl _, Nat.le_refl _⟩ ⟨Nat.le_refl _, Nat.le_refl _⟩ (show decode cX11_feed 17 = .ok (.invokevirtual 152, 3) by decide +kernel) ?_
  rintro _ _ ⟨σ', rfl, rfl, hq⟩ _
  exact am_x_fg [1] (k σ' hq)
theorem S_X11_feed_20 {G : am_G} {d : Nat} {Q : Int → am_D → Prop} {σ : am_D} {v2 : Int} {v3 : Int} {v4 : Int} {v5 : Int} {Q' : am_D → Prop} (hc : am_MV G d mX11_put [am_r (some 91), am_i v2] σ Q') (k : ∀ σ' : am_D, Q' σ' → am_X (am_FI G (d + 1) Q) mX11_feed (0, 0) 25 [some (am_r (some 91)), none, none, some (am_i v3), some (am_i v4), some (am_i v5)] [] (am_K0, σ')) : am_X (am_FI G (d + 1) Q) mX11_feed (0, 0) 20 [some (am_r (some 91)), none, some (am_i v2), some (am_i v3), some (am_i v4), some (am_i v5)] [] (am_K0, σ) := by
  refine am_r_aload_n (nx := 21) rfl rfl (show decode cX11_feed 20 = .ok (.aload_n 0, 1) by decide +kernel) rfl ?_
  refine am_r_iload_n (nx := 22) rfl rfl (show decode cX11_feed 21 = .ok (.iload_n 2, 1) by decide +kernel) rfl ?_
  refine am_r_callV (as := [am_i v2]) (st := []) hc mb_X11_put mv_X11_put (Or.inl ml_X11_152) (ob_91) (by omega) (r := (RX11, TX11, 63)) rfl rfl rfl rfl (Nat.le_of_ble_eq_true rfl) ⟨Nat.le_refl _, Nat.le_refl _⟩ ⟨Nat.le_refl _, Nat.le_refl _⟩ (show decode cX11_feed 22 = .ok (.invokevirtual 152, 3) by decide +kernel) ?_
  rintro _ _ ⟨σ', rfl, rfl, hq⟩ _
  exact am_x_fg [2] (k σ' hq)
theorem S_X11_feed_25 {G : am_G} {d : Nat} {Q : Int → am_D → Prop} {σ : am_D} {v3 : Int} {v4 : Int} {v5 : Int} {Q' : am_D → Prop} (hc : am_MV G d mX11_put [am_r (some 91), am_i v3] σ Q') (k : ∀ σ' : am_D, Q' σ' → am_X (am_FI G (d + 1) Q) mX11_feed (0, 0) 30 [some (am_r (some 91)), none, none, none, some (am_i v4), some (am_i v5)] [] (am_K0, σ')) : am_X (am_FI G (d + 1) Q) mX11_feed (0, 0) 25 [some (am_r (some 91)), none, none, some (am_i v3), some (am_i v4), some (am_i v5)] [] (am_K0, σ) := by
  refine am_r_aload_n (nx := 26) rfl rfl (show decode cX11_feed 25 = .ok (.aload_n 0, 1) by decide +kernel) rfl ?_
  refine am_r_iload_n (nx := 27) rfl rfl (show decode cX11_feed 26 = .ok (.iload_n 3, 1) by decide +kernel) rfl ?_
  refine am_r_callV (as := [am_i v3]) (st := []) hc mb_X11_put mv_X11_put (Or.inl ml_X11_152) (ob_91) (by omega) (r := (RX11, TX11, 63)) rfl rfl rfl rfl (Nat.le_of_ble_eq_true rfl) ⟨Nat.le_refl _, Nat.le_refl _⟩ ⟨Nat.le_refl _, Nat.le_refl _⟩ (show decode cX11_feed 27 = .ok (.invokevirtual 152, 3) by decide +kernel) ?_
  rintro _ _ ⟨σ', rfl, rfl, hq⟩ _
  exact am_x_fg [3] (k σ' hq)
theorem S_X11_feed_30 {G : am_G} {d : Nat} {Q : Int → am_D → Prop} {σ : am_D} {v4 : Int} {v5 : Int} {Q' : am_D → Prop} (hc : am_MV G d mX11_put [am_r (some 91), am_i v4] σ Q') (k : ∀ σ' : am_D, Q' σ' → am_X (am_FI G (d + 1) Q) mX11_feed (0, 0) 36 [some (am_r (some 91)), none, none, none, none, some (am_i v5)] [] (am_K0, σ')) : am_X (am_FI G (d + 1) Q) mX11_feed (0, 0) 30 [some (am_r (some 91)), none, none, none, some (am_i v4), some (am_i v5)] [] (am_K0, σ) := by
  refine am_r_aload_n (nx := 31) rfl rfl (show decode cX11_feed 30 = .ok (.aload_n 0, 1) by decide +kernel) rfl ?_
  refine am_r_iload (nx := 33) rfl (show decode cX11_feed 31 = .ok (.iload 4, 2) by decide +kernel) rfl ?_
  refine am_r_callV (as := [am_i v4]) (st := []) hc mb_X11_put mv_X11_put (Or.inl ml_X11_152) (ob_91) (by omega) (r := (RX11, TX11, 63)) rfl rfl rfl rfl (Nat.le_of_ble_eq_true rfl) ⟨Nat.le_refl _, Nat.le_refl _⟩ ⟨Nat.le_refl _, Nat.le_refl _⟩ (show decode cX11_feed 33 = .ok (.invokevirtual 152, 3) by decide +kernel) ?_
  rintro _ _ ⟨σ', rfl, rfl, hq⟩ _
  exact am_x_fg [4] (k σ' hq)
theorem S_X11_feed_36 {G : am_G} {d : Nat} {Q : Int → am_D → Prop} {σ : am_D} {v5 : Int} {Q' : am_D → Prop} (hc : am_MV G d mX11_put [am_r (some 91), am_i v5] σ Q') (k : ∀ σ' : am_D, Q' σ' → am_X (am_FI G (d + 1) Q) mX11_feed (0, 0) 42 [some (am_r (some 91)), none, none, none, none, none] [] (am_K0, σ')) : am_X (am_FI G (d + 1) Q) mX11_feed (0, 0) 36 [some (am_r (some 91)), none, none, none, none, some (am_i v5)] [] (am_K0, σ) := by
  refine am_r_aload_n (nx := 37) rfl rfl (show decode cX11_feed 36 = .ok (.aload_n 0, 1) by decide +kernel) rfl ?_
  refine am_r_iload (nx := 39) rfl (show decode cX11_feed 37 = .ok (.iload 5, 2) by decide +kernel) rfl ?_
  refine am_r_callV (as := [am_i v5]) (st := []) hc mb_X11_put mv_X11_put (Or.inl ml_X11_152) (ob_91) (by omega) (r := (RX11, TX11, 63)) rfl rfl rfl rfl (Nat.le_of_ble_eq_true rfl) ⟨Nat.le_refl _, Nat.le_refl _⟩ ⟨Nat.le_refl _, Nat.le_refl _⟩ (show decode cX11_feed 39 = .ok (.invokevirtual 152, 3) by decide +kernel) ?_
  rintro _ _ ⟨σ', rfl, rfl, hq⟩ _
  exact am_x_fg [5] (k σ' hq)
theorem S_X11_feed_42 {G : am_G} {d : Nat} {Q : Int → am_D → Prop} {σ : am_D}   (k : Q (σ.1 91 1) σ) : am_X (am_FI G (d + 1) Q) mX11_feed (0, 0) 42 [some (am_r (some 91)), none, none, none, none, none] [] (am_K0, σ) := by
  refine am_r_aload_n (nx := 43) rfl rfl (show decode cX11_feed 42 = .ok (.aload_n 0, 1) by decide +kernel) rfl ?_
  refine am_r_getI (nx := 46) 1 cw11 (by decide) rfl (Or.inl fl_X11_148) (ob_91) (show decode cX11_feed 43 = .ok (.getfield 148, 3) by decide +kernel) rfl ?_
  exact am_r_iret rfl rfl (show decode cX11_feed 46 = .ok (.ireturn, 1) by decide +kernel) ⟨_, _, rfl, rfl, k⟩
theorem S_X11_end_0 {G : am_G} {d : Nat} {Q : Int → am_D → Prop} {σ : am_D} {v1 : Int} {Q' : Int → am_D → Prop} (hc : am_MI G d mX11_isIn [am_i v1, am_i 0, am_i (σ.1 91 1)] σ Q') (k : ∀ (x : Int) (σ' : am_D), Q' x σ' → am_X (am_FI G (d + 1) Q) mX11_end (0, 0) 9 [some (am_r (some 91)), some (am_i v1)] [am_i x] (am_K0, σ')) : am_X (am_FI G (d + 1) Q) mX11_end (0, 0) 0 [some (am_r (some 91)), some (am_i v1)] [] (am_K0, σ) := by
  refine am_r_iload_n (nx := 1) rfl rfl (show decode cX11_end 0 = .ok (.iload_n 1, 1) by decide +kernel) rfl ?_
  refine am_r_iconst (nx := 2) (show decode cX11_end 1 = .ok (.iconst 0, 1) by decide +kernel) rfl ?_
  refine am_r_aload_n (nx := 3) rfl rfl (show decode cX11_end 2 = .ok (.aload_n 0, 1) by decide +kernel) rfl ?_
  refine am_r_getI (nx := 6) 1 cw11 (by decide) rfl (Or.inl fl_X11_148) (ob_91) (show decode cX11_end 3 = .ok (.getfield 148, 3) by decide +kernel) rfl ?_
  refine am_r_callS (as := [am_i v1, am_i 0, am_i (σ.1 91 1)]) (st := []) hc mb_X11_isIn mv_X11_isIn (Or.inl ml_X11_156) rfl rfl (Nat.le_of_ble_eq_true rfl) ⟨Nat.le_refl _, Nat.le_refl _⟩ ⟨Nat.le_refl _, Nat.le_refl _⟩ (show decode cX11_end 6 = .ok (.invokestatic 156, 3) by decide +kernel) ?_
  rintro _ _ ⟨x, σ', rfl, rfl, hq⟩ _
  exact (k x σ' hq)
theorem S_X11_end_9 {G : am_G} {d : Nat} {Q : Int → am_D → Prop} {σ : am_D} {v1 : Int} {s0 : Int} (hr1 : -2147483648 ≤ s0 ∧ s0 ≤ 2147483647) (k1 : ¬ s0 = 0 → am_X (am_FI G (d + 1) Q) mX11_end (0, 0) 14 [some (am_r (some 91)), some (am_i v1)] [] (am_K0, σ)) (k2 : ¬ (¬ s0 = 0) → am_X (am_FI G (d + 1) Q) mX11_end (0, 0) 12 [none, none] [] (am_K0, σ)) : am_X (am_FI G (d + 1) Q) mX11_end (0, 0) 9 [some (am_r (some 91)), some (am_i v1)] [am_i s0] (am_K0, σ) := by
  refine am_r_if_ne (tg := 14) (nx := 12) (show decode cX11_end 9 = .ok (.ifCond .ne 5, 3) by decide +kernel) (by decide) rfl hr1 ?_ ?_
  · exact fun q => k1 q
  · exact fun q => am_x_fg [0, 1] (k2 q)
theorem S_X11_end_12 {G : am_G} {d : Nat} {Q : Int → am_D → Prop} {σ : am_D}   (k : Q 0 σ) : am_X (am_FI G (d + 1) Q) mX11_end (0, 0) 12 [none, none] [] (am_K0, σ) := by
  refine am_r_iconst (nx := 13) (show decode cX11_end 12 = .ok (.iconst 0, 1) by decide +kernel) rfl ?_
  exact am_r_iret rfl rfl (show decode cX11_end 13 = .ok (.ireturn, 1) by decide +kernel) ⟨_, _, rfl, rfl, k⟩
theorem S_X11_end_14 {G : am_G} {d : Nat} {Q : Int → am_D → Prop} {σ : am_D} {v1 : Int}  (k : am_X (am_FI G (d + 1) Q) mX11_end (0, 0) 19 [none, none] [] (am_K0, (am_pI σ 91 1 v1))) : am_X (am_FI G (d + 1) Q) mX11_end (0, 0) 14 [some (am_r (some 91)), some (am_i v1)] [] (am_K0, σ) := by
  refine am_r_aload_n (nx := 15) rfl rfl (show decode cX11_end 14 = .ok (.aload_n 0, 1) by decide +kernel) rfl ?_
  refine am_r_iload_n (nx := 16) rfl rfl (show decode cX11_end 15 = .ok (.iload_n 1, 1) by decide +kernel) rfl ?_
  refine am_r_putI (nx := 19) 1 cw11 (by decide) rfl (Or.inl fl_X11_148) (ob_91) rfl (Or.inl rfl) (show decode cX11_end 16 = .ok (.putfield 148, 3) by decide +kernel) rfl ?_
  exact am_x_fg [0, 1] k
theorem S_X11_end_19 {G : am_G} {d : Nat} {Q : Int → am_D → Prop} {σ : am_D}   (k : Q 1 σ) : am_X (am_FI G (d + 1) Q) mX11_end (0, 0) 19 [none, none] [] (am_K0, σ) := by
  refine am_r_iconst (nx := 20) (show decode cX11_end 19 = .ok (.iconst 1, 1) by decide +kernel) rfl ?_
  exact am_r_iret rfl rfl (show decode cX11_end 20 = .ok (.ireturn, 1) by decide +kernel) ⟨_, _, rfl, rfl, k⟩
theorem S_X11_isLetter_0 {G : am_G} {d : Nat} {Q : Int → am_D → Prop} {σ : am_D} {v0 : Int} {Q' : Int → am_D → Prop} (hc : am_MI G d mX11_isIn [am_i v0, am_i 97, am_i 122] σ Q') (k : ∀ (x : Int) (σ' : am_D), Q' x σ' → (x = 0 ∨ x = 1) ∧ Q x σ') : am_X (am_FI G (d + 1) Q) mX11_isLetter (0, 0) 0 [some (am_i v0)] [] (am_K0, σ) := by
  refine am_r_iload_n (nx := 1) rfl rfl (show decode cX11_isLetter 0 = .ok (.iload_n 0, 1) by decide +kernel) rfl ?_
  refine am_r_bipush (nx := 3) rfl (show decode cX11_isLetter 1 = .ok (.bipush 97, 2) by decide +kernel) rfl ?_
  refine am_r_bipush (nx := 5) rfl (show decode cX11_isLetter 3 = .ok (.bipush 122, 2) by decide +kernel) rfl ?_
  refine am_r_callS (as := [am_i v0, am_i 97, am_i 122]) (st := []) hc mb_X11_isIn mv_X11_isIn (Or.inl ml_X11_156) rfl rfl (Nat.le_of_ble_eq_true rfl) ⟨Nat.le_refl _, Nat.le_refl _⟩ ⟨Nat.le_refl _, Nat.le_refl _⟩ (show decode cX11_isLetter 5 = .ok (.invokestatic 156, 3) by decide +kernel) ?_
  rintro _ _ ⟨x, σ', rfl, rfl, hq⟩ _
  exact am_r_iret rfl (by rcases (k x σ' hq).1 with hz | hz <;> rw [hz] <;> rfl) (show decode cX11_isLetter 8 = .ok (.ireturn, 1) by decide +kernel) ⟨_, _, rfl, rfl, (k x σ' hq).2⟩
theorem S_X11_isDigit_0 {G : am_G} {d : Nat} {Q : Int → am_D → Prop} {σ : am_D} {v0 : Int} {Q' : Int → am_D → Prop} (hc : am_MI G d mX11_isIn [am_i v0, am_i 48, am_i 57] σ Q') (k : ∀ (x : Int) (σ' : am_D), Q' x σ' → (x = 0 ∨ x = 1) ∧ Q x σ') : am_X (am_FI G (d + 1) Q) mX11_isDigit (0, 0) 0 [some (am_i v0)] [] (am_K0, σ) := by
  refine am_r_iload_n (nx := 1) rfl rfl (show decode cX11_isDigit 0 = .ok (.iload_n 0, 1) by decide +kernel) rfl ?_
  refine am_r_bipush (nx := 3) rfl (show decode cX11_isDigit 1 = .ok (.bipush 48, 2) by decide +kernel) rfl ?_
  refine am_r_bipush (nx := 5) rfl (show decode cX11_isDigit 3 = .ok (.bipush 57, 2) by decide +kernel) rfl ?_
  refine am_r_callS (as := [am_i v0, am_i 48, am_i 57]) (st := []) hc mb_X11_isIn mv_X11_isIn (Or.inl ml_X11_156) rfl rfl (Nat.le_of_ble_eq_true rfl) ⟨Nat.le_refl _, Nat.le_refl _⟩ ⟨Nat.le_refl _, Nat.le_refl _⟩ (show decode cX11_isDigit 5 = .ok (.invokestatic 156, 3) by decide +kernel) ?_
  rintro _ _ ⟨x, σ', rfl, rfl, hq⟩ _
  exact am_r_iret rfl (by rcases (k x σ' hq).1 with hz | hz <;> rw [hz] <;> rfl) (show decode cX11_isDigit 8 = .ok (.ireturn, 1) by decide +kernel) ⟨_, _, rfl, rfl, (k x σ' hq).2⟩
theorem S_X11_goes_0 {G : am_G} {d : Nat} {Q : am_D → Prop} {σ : am_D}  (hr1 : -2147483648 ≤ (σ.1 91 4) ∧ (σ.1 91 4) ≤ 2147483647) (hr2 : -2147483648 ≤ (σ.1 91 3) ∧ (σ.1 91 3) ≤ 2147483647) (k1 : (σ.1 91 3) ≤ (σ.1 91 4) → am_X (am_FV G (d + 1) Q) mX11_goes (0, 0) 52 [some (am_r (some 91)), none] [] (am_K0, σ)) (k2 : ¬ ((σ.1 91 3) ≤ (σ.1 91 4)) → am_X (am_FV G (d + 1) Q) mX11_goes (0, 0) 11 [some (am_r (some 91)), none] [] (am_K0, σ)) : am_X (am_FV G (d + 1) Q) mX11_goes (0, 0) 0 [some (am_r (some 91)), none] [] (am_K0, σ) := by
  refine am_r_aload_n (nx := 1) rfl rfl (show decode cX11_goes 0 = .ok (.aload_n 0, 1) by decide +kernel) rfl ?_
  refine am_r_getI (nx := 4) 4 cw11 (by decide) rfl (Or.inl fl_X11_160) (ob_91) (show decode cX11_goes 1 = .ok (.getfield 160, 3) by decide +kernel) rfl ?_
  refine am_r_aload_n (nx := 5) rfl rfl (show decode cX11_goes 4 = .ok (.aload_n 0, 1) by decide +kernel) rfl ?_
  refine am_r_getI (nx := 8) 3 cw11 (by decide) rfl (Or.inl fl_X11_163) (ob_91) (show decode cX11_goes 5 = .ok (.getfield 163, 3) by decide +kernel) rfl ?_
  refine am_r_icmp_ge (tg := 52) (nx := 11) (show decode cX11_goes 8 = .ok (.if_icmp .ge 44, 3) by decide +kernel) (by decide) rfl hr1 hr2 ?_ ?_
  · exact fun q => k1 q
  · exact fun q => k2 q
theorem S_X11_goes_11 {G : am_G} {d : Nat} {Q : am_D → Prop} {σ : am_D}  (hi1 : 0 ≤ (σ.1 91 4)) (hj2 : (σ.1 91 4) < 600) (hr3 : -2147483648 ≤ (σ.1 92 (σ.1 91 4)) ∧ (σ.1 92 (σ.1 91 4)) ≤ 2147483647) (k1 : (σ.1 92 (σ.1 91 4)) = 32 → am_X (am_FV G (d + 1) Q) mX11_goes (0, 0) 39 [some (am_r (some 91)), none] [] (am_K0, σ)) (k2 : ¬ ((σ.1 92 (σ.1 91 4)) = 32) → am_X (am_FV G (d + 1) Q) mX11_goes (0, 0) 25 [some (am_r (some 91)), none] [] (am_K0, σ)) : am_X (am_FV G (d + 1) Q) mX11_goes (0, 0) 11 [some (am_r (some 91)), none] [] (am_K0, σ) := by
  refine am_r_aload_n (nx := 12) rfl rfl (show decode cX11_goes 11 = .ok (.aload_n 0, 1) by decide +kernel) rfl ?_
  refine am_r_getF (nx := 15) 0 cw11 (by decide) rfl (Or.inl fl_X11_7) (ob_91) (fn_91_0) (show decode cX11_goes 12 = .ok (.getfield 7, 3) by decide +kernel) rfl ?_
  refine am_r_aload_n (nx := 16) rfl rfl (show decode cX11_goes 15 = .ok (.aload_n 0, 1) by decide +kernel) rfl ?_
  refine am_r_getI (nx := 19) 4 cw11 (by decide) rfl (Or.inl fl_X11_160) (ob_91) (show decode cX11_goes 16 = .ok (.getfield 160, 3) by decide +kernel) rfl ?_
  refine am_r_bald (nx := 20) (sh_92) (am_shle (sh_92)) hi1 hj2 (show decode cX11_goes 19 = .ok (.baload, 1) by decide +kernel) rfl ?_
  refine am_r_bipush (nx := 22) rfl (show decode cX11_goes 20 = .ok (.bipush 32, 2) by decide +kernel) rfl ?_
  refine am_r_icmp_eq (tg := 39) (nx := 25) (show decode cX11_goes 22 = .ok (.if_icmp .eq 17, 3) by decide +kernel) (by decide) rfl hr3 (by omega) ?_ ?_
  · exact fun q => k1 q
  · exact fun q => k2 q
theorem S_X11_goes_25 {G : am_G} {d : Nat} {Q : am_D → Prop} {σ : am_D}  (hi1 : 0 ≤ (σ.1 91 4)) (hj2 : (σ.1 91 4) < 600) (hr3 : -2147483648 ≤ (σ.1 92 (σ.1 91 4)) ∧ (σ.1 92 (σ.1 91 4)) ≤ 2147483647) (k1 : ¬ (σ.1 92 (σ.1 91 4)) = 10 → am_X (am_FV G (d + 1) Q) mX11_goes (0, 0) 52 [some (am_r (some 91)), none] [] (am_K0, σ)) (k2 : ¬ (¬ (σ.1 92 (σ.1 91 4)) = 10) → am_X (am_FV G (d + 1) Q) mX11_goes (0, 0) 39 [some (am_r (some 91)), none] [] (am_K0, σ)) : am_X (am_FV G (d + 1) Q) mX11_goes (0, 0) 25 [some (am_r (some 91)), none] [] (am_K0, σ) := by
  refine am_r_aload_n (nx := 26) rfl rfl (show decode cX11_goes 25 = .ok (.aload_n 0, 1) by decide +kernel) rfl ?_
  refine am_r_getF (nx := 29) 0 cw11 (by decide) rfl (Or.inl fl_X11_7) (ob_91) (fn_91_0) (show decode cX11_goes 26 = .ok (.getfield 7, 3) by decide +kernel) rfl ?_
  refine am_r_aload_n (nx := 30) rfl rfl (show decode cX11_goes 29 = .ok (.aload_n 0, 1) by decide +kernel) rfl ?_
  refine am_r_getI (nx := 33) 4 cw11 (by decide) rfl (Or.inl fl_X11_160) (ob_91) (show decode cX11_goes 30 = .ok (.getfield 160, 3) by decide +kernel) rfl ?_
  refine am_r_bald (nx := 34) (sh_92) (am_shle (sh_92)) hi1 hj2 (show decode cX11_goes 33 = .ok (.baload, 1) by decide +kernel) rfl ?_
  refine am_r_bipush (nx := 36) rfl (show decode cX11_goes 34 = .ok (.bipush 10, 2) by decide +kernel) rfl ?_
  refine am_r_icmp_ne (tg := 52) (nx := 39) (show decode cX11_goes 36 = .ok (.if_icmp .ne 16, 3) by decide +kernel) (by decide) rfl hr3 (by omega) ?_ ?_
  · exact fun q => k1 q
  · exact fun q => k2 q
theorem S_X11_goes_39 {G : am_G} {d : Nat} {Q : am_D → Prop} {σ : am_D}   (k : am_X (am_FV G (d + 1) Q) mX11_goes (0, 0) 0 [some (am_r (some 91)), none] [] (am_K0, (am_pI σ 91 4 ((σ.1 91 4) + 1)))) : am_X (am_FV G (d + 1) Q) mX11_goes (0, 0) 39 [some (am_r (some 91)), none] [] (am_K0, σ) := by
  refine am_r_aload_n (nx := 40) rfl rfl (show decode cX11_goes 39 = .ok (.aload_n 0, 1) by decide +kernel) rfl ?_
  refine am_r_dup (nx := 41) rfl (show decode cX11_goes 40 = .ok (.dup, 1) by decide +kernel) rfl ?_
  refine am_r_getI (nx := 44) 4 cw11 (by decide) rfl (Or.inl fl_X11_160) (ob_91) (show decode cX11_goes 41 = .ok (.getfield 160, 3) by decide +kernel) rfl ?_
  refine am_r_iconst (nx := 45) (show decode cX11_goes 44 = .ok (.iconst 1, 1) by decide +kernel) rfl ?_
  refine am_r_iadd (nx := 46) (show decode cX11_goes 45 = .ok (.iadd, 1) by decide +kernel) rfl ?_
  refine am_r_putI (nx := 49) 4 cw11 (by decide) rfl (Or.inl fl_X11_160) (ob_91) rfl (Or.inl rfl) (show decode cX11_goes 46 = .ok (.putfield 160, 3) by decide +kernel) rfl ?_
  refine am_r_goto (tg := 0) (show decode cX11_goes 49 = .ok (.goto (-49), 3) by decide +kernel) (by decide) ?_
  exact k
theorem S_X11_goes_52 {G : am_G} {d : Nat} {Q : am_D → Prop} {σ : am_D}   (k : am_X (am_FV G (d + 1) Q) mX11_goes (0, 0) 60 [some (am_r (some 91)), none] [] (am_K0, (am_pI σ 91 5 (σ.1 91 4)))) : am_X (am_FV G (d + 1) Q) mX11_goes (0, 0) 52 [some (am_r (some 91)), none] [] (am_K0, σ) := by
  refine am_r_aload_n (nx := 53) rfl rfl (show decode cX11_goes 52 = .ok (.aload_n 0, 1) by decide +kernel) rfl ?_
  refine am_r_aload_n (nx := 54) rfl rfl (show decode cX11_goes 53 = .ok (.aload_n 0, 1) by decide +kernel) rfl ?_
  refine am_r_getI (nx := 57) 4 cw11 (by decide) rfl (Or.inl fl_X11_160) (ob_91) (show decode cX11_goes 54 = .ok (.getfield 160, 3) by decide +kernel) rfl ?_
  refine am_r_putI (nx := 60) 5 cw11 (by decide) rfl (Or.inl fl_X11_166) (ob_91) rfl (Or.inl rfl) (show decode cX11_goes 57 = .ok (.putfield 166, 3) by decide +kernel) rfl ?_
  exact k
theorem S_X11_goes_60 {G : am_G} {d : Nat} {Q : am_D → Prop} {σ : am_D}  (hr1 : -2147483648 ≤ (σ.1 91 4) ∧ (σ.1 91 4) ≤ 2147483647) (hr2 : -2147483648 ≤ (σ.1 91 3) ∧ (σ.1 91 3) ≤ 2147483647) (k1 : ¬ (σ.1 91 4) = (σ.1 91 3) → am_X (am_FV G (d + 1) Q) mX11_goes (0, 0) 77 [some (am_r (some 91)), none] [] (am_K0, σ)) (k2 : ¬ (¬ (σ.1 91 4) = (σ.1 91 3)) → am_X (am_FV G (d + 1) Q) mX11_goes (0, 0) 71 [some (am_r (some 91)), none] [] (am_K0, σ)) : am_X (am_FV G (d + 1) Q) mX11_goes (0, 0) 60 [some (am_r (some 91)), none] [] (am_K0, σ) := by
  refine am_r_aload_n (nx := 61) rfl rfl (show decode cX11_goes 60 = .ok (.aload_n 0, 1) by decide +kernel) rfl ?_
  refine am_r_getI (nx := 64) 4 cw11 (by decide) rfl (Or.inl fl_X11_160) (ob_91) (show decode cX11_goes 61 = .ok (.getfield 160, 3) by decide +kernel) rfl ?_
  refine am_r_aload_n (nx := 65) rfl rfl (show decode cX11_goes 64 = .ok (.aload_n 0, 1) by decide +kernel) rfl ?_
  refine am_r_getI (nx := 68) 3 cw11 (by decide) rfl (Or.inl fl_X11_163) (ob_91) (show decode cX11_goes 65 = .ok (.getfield 163, 3) by decide +kernel) rfl ?_
  refine am_r_icmp_ne (tg := 77) (nx := 71) (show decode cX11_goes 68 = .ok (.if_icmp .ne 9, 3) by decide +kernel) (by decide) rfl hr1 hr2 ?_ ?_
  · exact fun q => k1 q
  · exact fun q => k2 q
theorem S_X11_goes_71 {G : am_G} {d : Nat} {Q : am_D → Prop} {σ : am_D}   (k : am_X (am_FV G (d + 1) Q) mX11_goes (0, 0) 76 [none, none] [] (am_K0, (am_pI σ 91 6 0))) : am_X (am_FV G (d + 1) Q) mX11_goes (0, 0) 71 [some (am_r (some 91)), none] [] (am_K0, σ) := by
  refine am_r_aload_n (nx := 72) rfl rfl (show decode cX11_goes 71 = .ok (.aload_n 0, 1) by decide +kernel) rfl ?_
  refine am_r_iconst (nx := 73) (show decode cX11_goes 72 = .ok (.iconst 0, 1) by decide +kernel) rfl ?_
  refine am_r_putI (nx := 76) 6 cw11 (by decide) rfl (Or.inl fl_X11_169) (ob_91) rfl (Or.inl rfl) (show decode cX11_goes 73 = .ok (.putfield 169, 3) by decide +kernel) rfl ?_
  exact am_x_fg [0] k
theorem S_X11_goes_76 {G : am_G} {d : Nat} {Q : am_D → Prop} {σ : am_D}   (k : Q σ) : am_X (am_FV G (d + 1) Q) mX11_goes (0, 0) 76 [none, none] [] (am_K0, σ) := by
  exact am_r_vret rfl (show decode cX11_goes 76 = .ok (.return_, 1) by decide +kernel) ⟨_, rfl, rfl, k⟩
theorem S_X11_goes_77 {G : am_G} {d : Nat} {Q : am_D → Prop} {σ : am_D}  (hi1 : 0 ≤ (σ.1 91 4)) (hj2 : (σ.1 91 4) < 600) (k : am_X (am_FV G (d + 1) Q) mX11_goes (0, 0) 87 [some (am_r (some 91)), some (am_i (σ.1 92 (σ.1 91 4)))] [] (am_K0, σ)) : am_X (am_FV G (d + 1) Q) mX11_goes (0, 0) 77 [some (am_r (some 91)), none] [] (am_K0, σ) := by
  refine am_r_aload_n (nx := 78) rfl rfl (show decode cX11_goes 77 = .ok (.aload_n 0, 1) by decide +kernel) rfl ?_
  refine am_r_getF (nx := 81) 0 cw11 (by decide) rfl (Or.inl fl_X11_7) (ob_91) (fn_91_0) (show decode cX11_goes 78 = .ok (.getfield 7, 3) by decide +kernel) rfl ?_
  refine am_r_aload_n (nx := 82) rfl rfl (show decode cX11_goes 81 = .ok (.aload_n 0, 1) by decide +kernel) rfl ?_
  refine am_r_getI (nx := 85) 4 cw11 (by decide) rfl (Or.inl fl_X11_160) (ob_91) (show decode cX11_goes 82 = .ok (.getfield 160, 3) by decide +kernel) rfl ?_
  refine am_r_bald (nx := 86) (sh_92) (am_shle (sh_92)) hi1 hj2 (show decode cX11_goes 85 = .ok (.baload, 1) by decide +kernel) rfl ?_
  refine am_r_istore_n (nx := 87) rfl (by decide) rfl (show decode cX11_goes 86 = .ok (.istore_n 1, 1) by decide +kernel) rfl ?_
  exact k
theorem S_X11_goes_87 {G : am_G} {d : Nat} {Q : am_D → Prop} {σ : am_D} {v1 : Int} {Q' : Int → am_D → Prop} (hc : am_MI G d mX11_isLetter [am_i v1] σ Q') (k : ∀ (x : Int) (σ' : am_D), Q' x σ' → am_X (am_FV G (d + 1) Q) mX11_goes (0, 0) 92 [some (am_r (some 91)), some (am_i v1)] [am_i x, am_r (some 91)] (am_K0, σ')) : am_X (am_FV G (d + 1) Q) mX11_goes (0, 0) 87 [some (am_r (some 91)), some (am_i v1)] [] (am_K0, σ) := by
  refine am_r_aload_n (nx := 88) rfl rfl (show decode cX11_goes 87 = .ok (.aload_n 0, 1) by decide +kernel) rfl ?_
  refine am_r_iload_n (nx := 89) rfl rfl (show decode cX11_goes 88 = .ok (.iload_n 1, 1) by decide +kernel) rfl ?_
  refine am_r_callS (as := [am_i v1]) (st := [am_r (some 91)]) hc mb_X11_isLetter mv_X11_isLetter (Or.inl ml_X11_172) rfl rfl (Nat.le_of_ble_eq_true rfl) ⟨Nat.le_refl _, Nat.le_refl _⟩ ⟨Nat.le_refl _, Nat.le_refl _⟩ (show decode cX11_goes 89 = .ok (.invokestatic 172, 3) by decide +kernel) ?_
  rintro _ _ ⟨x, σ', rfl, rfl, hq⟩ _
  exact (k x σ' hq)
theorem S_X11_goes_92 {G : am_G} {d : Nat} {Q : am_D → Prop} {σ : am_D} {v1 : Int} {s1 : Int} (hr1 : -2147483648 ≤ s1 ∧ s1 ≤ 2147483647) (k1 : s1 = 0 → am_X (am_FV G (d + 1) Q) mX11_goes (0, 0) 99 [some (am_r (some 91)), some (am_i v1)] [am_r (some 91)] (am_K0, σ)) (k2 : ¬ (s1 = 0) → am_X (am_FV G (d + 1) Q) mX11_goes (0, 0) 95 [some (am_r (some 91)), none] [am_r (some 91)] (am_K0, σ)) : am_X (am_FV G (d + 1) Q) mX11_goes (0, 0) 92 [some (am_r (some 91)), some (am_i v1)] [am_i s1, am_r (some 91)] (am_K0, σ) := by
  refine am_r_if_eq (tg := 99) (nx := 95) (show decode cX11_goes 92 = .ok (.ifCond .eq 7, 3) by decide +kernel) (by decide) rfl hr1 ?_ ?_
  · exact fun q => k1 q
  · exact fun q => am_x_fg [1] (k2 q)
theorem S_X11_goes_95 {G : am_G} {d : Nat} {Q : am_D → Prop} {σ : am_D}   (k : am_X (am_FV G (d + 1) Q) mX11_goes (0, 0) 145 [some (am_r (some 91)), none] [am_i 1, am_r (some 91)] (am_K0, σ)) : am_X (am_FV G (d + 1) Q) mX11_goes (0, 0) 95 [some (am_r (some 91)), none] [am_r (some 91)] (am_K0, σ) := by
  refine am_r_iconst (nx := 96) (show decode cX11_goes 95 = .ok (.iconst 1, 1) by decide +kernel) rfl ?_
  refine am_r_goto (tg := 145) (show decode cX11_goes 96 = .ok (.goto 49, 3) by decide +kernel) (by decide) ?_
  exact k
theorem S_X11_goes_99 {G : am_G} {d : Nat} {Q : am_D → Prop} {σ : am_D} {v1 : Int} {Q' : Int → am_D → Prop} (hc : am_MI G d mX11_isDigit [am_i v1] σ Q') (k : ∀ (x : Int) (σ' : am_D), Q' x σ' → am_X (am_FV G (d + 1) Q) mX11_goes (0, 0) 103 [some (am_r (some 91)), some (am_i v1)] [am_i x, am_r (some 91)] (am_K0, σ')) : am_X (am_FV G (d + 1) Q) mX11_goes (0, 0) 99 [some (am_r (some 91)), some (am_i v1)] [am_r (some 91)] (am_K0, σ) := by
  refine am_r_iload_n (nx := 100) rfl rfl (show decode cX11_goes 99 = .ok (.iload_n 1, 1) by decide +kernel) rfl ?_
  refine am_r_callS (as := [am_i v1]) (st := [am_r (some 91)]) hc mb_X11_isDigit mv_X11_isDigit (Or.inl ml_X11_176) rfl rfl (Nat.le_of_ble_eq_true rfl) ⟨Nat.le_refl _, Nat.le_refl _⟩ ⟨Nat.le_refl _, Nat.le_refl _⟩ (show decode cX11_goes 100 = .ok (.invokestatic 176, 3) by decide +kernel) ?_
  rintro _ _ ⟨x, σ', rfl, rfl, hq⟩ _
  exact (k x σ' hq)
theorem S_X11_goes_103 {G : am_G} {d : Nat} {Q : am_D → Prop} {σ : am_D} {v1 : Int} {s1 : Int} (hr1 : -2147483648 ≤ s1 ∧ s1 ≤ 2147483647) (k1 : s1 = 0 → am_X (am_FV G (d + 1) Q) mX11_goes (0, 0) 110 [some (am_r (some 91)), some (am_i v1)] [am_r (some 91)] (am_K0, σ)) (k2 : ¬ (s1 = 0) → am_X (am_FV G (d + 1) Q) mX11_goes (0, 0) 106 [some (am_r (some 91)), none] [am_r (some 91)] (am_K0, σ)) : am_X (am_FV G (d + 1) Q) mX11_goes (0, 0) 103 [some (am_r (some 91)), some (am_i v1)] [am_i s1, am_r (some 91)] (am_K0, σ) := by
  refine am_r_if_eq (tg := 110) (nx := 106) (show decode cX11_goes 103 = .ok (.ifCond .eq 7, 3) by decide +kernel) (by decide) rfl hr1 ?_ ?_
  · exact fun q => k1 q
  · exact fun q => am_x_fg [1] (k2 q)
theorem S_X11_goes_106 {G : am_G} {d : Nat} {Q : am_D → Prop} {σ : am_D}   (k : am_X (am_FV G (d + 1) Q) mX11_goes (0, 0) 145 [some (am_r (some 91)), none] [am_i 2, am_r (some 91)] (am_K0, σ)) : am_X (am_FV G (d + 1) Q) mX11_goes (0, 0) 106 [some (am_r (some 91)), none] [am_r (some 91)] (am_K0, σ) := by
  refine am_r_iconst (nx := 107) (show decode cX11_goes 106 = .ok (.iconst 2, 1) by decide +kernel) rfl ?_
  refine am_r_goto (tg := 145) (show decode cX11_goes 107 = .ok (.goto 38, 3) by decide +kernel) (by decide) ?_
  exact k
theorem S_X11_goes_110 {G : am_G} {d : Nat} {Q : am_D → Prop} {σ : am_D} {v1 : Int} (hr1 : -2147483648 ≤ v1 ∧ v1 ≤ 2147483647) (k1 : v1 = 59 → am_X (am_FV G (d + 1) Q) mX11_goes (0, 0) 140 [some (am_r (some 91)), none] [am_r (some 91)] (am_K0, σ)) (k2 : ¬ (v1 = 59) → am_X (am_FV G (d + 1) Q) mX11_goes (0, 0) 116 [some (am_r (some 91)), some (am_i v1)] [am_r (some 91)] (am_K0, σ)) : am_X (am_FV G (d + 1) Q) mX11_goes (0, 0) 110 [some (am_r (some 91)), some (am_i v1)] [am_r (some 91)] (am_K0, σ) := by
  refine am_r_iload_n (nx := 111) rfl rfl (show decode cX11_goes 110 = .ok (.iload_n 1, 1) by decide +kernel) rfl ?_
  refine am_r_bipush (nx := 113) rfl (show decode cX11_goes 111 = .ok (.bipush 59, 2) by decide +kernel) rfl ?_
  refine am_r_icmp_eq (tg := 140) (nx := 116) (show decode cX11_goes 113 = .ok (.if_icmp .eq 27, 3) by decide +kernel) (by decide) rfl hr1 (by omega) ?_ ?_
  · exact fun q => am_x_fg [1] (k1 q)
  · exact fun q => k2 q
theorem S_X11_goes_116 {G : am_G} {d : Nat} {Q : am_D → Prop} {σ : am_D} {v1 : Int} (hr1 : -2147483648 ≤ v1 ∧ v1 ≤ 2147483647) (k1 : v1 = 61 → am_X (am_FV G (d + 1) Q) mX11_goes (0, 0) 140 [some (am_r (some 91)), none] [am_r (some 91)] (am_K0, σ)) (k2 : ¬ (v1 = 61) → am_X (am_FV G (d + 1) Q) mX11_goes (0, 0) 122 [some (am_r (some 91)), some (am_i v1)] [am_r (some 91)] (am_K0, σ)) : am_X (am_FV G (d + 1) Q) mX11_goes (0, 0) 116 [some (am_r (some 91)), some (am_i v1)] [am_r (some 91)] (am_K0, σ) := by
  refine am_r_iload_n (nx := 117) rfl rfl (show decode cX11_goes 116 = .ok (.iload_n 1, 1) by decide +kernel) rfl ?_
  refine am_r_bipush (nx := 119) rfl (show decode cX11_goes 117 = .ok (.bipush 61, 2) by decide +kernel) rfl ?_
  refine am_r_icmp_eq (tg := 140) (nx := 122) (show decode cX11_goes 119 = .ok (.if_icmp .eq 21, 3) by decide +kernel) (by decide) rfl hr1 (by omega) ?_ ?_
  · exact fun q => am_x_fg [1] (k1 q)
  · exact fun q => k2 q
theorem S_X11_goes_122 {G : am_G} {d : Nat} {Q : am_D → Prop} {σ : am_D} {v1 : Int} (hr1 : -2147483648 ≤ v1 ∧ v1 ≤ 2147483647) (k1 : v1 = 44 → am_X (am_FV G (d + 1) Q) mX11_goes (0, 0) 140 [some (am_r (some 91)), none] [am_r (some 91)] (am_K0, σ)) (k2 : ¬ (v1 = 44) → am_X (am_FV G (d + 1) Q) mX11_goes (0, 0) 128 [some (am_r (some 91)), some (am_i v1)] [am_r (some 91)] (am_K0, σ)) : am_X (am_FV G (d + 1) Q) mX11_goes (0, 0) 122 [some (am_r (some 91)), some (am_i v1)] [am_r (some 91)] (am_K0, σ) := by
  refine am_r_iload_n (nx := 123) rfl rfl (show decode cX11_goes 122 = .ok (.iload_n 1, 1) by decide +kernel) rfl ?_
  refine am_r_bipush (nx := 125) rfl (show decode cX11_goes 123 = .ok (.bipush 44, 2) by decide +kernel) rfl ?_
  refine am_r_icmp_eq (tg := 140) (nx := 128) (show decode cX11_goes 125 = .ok (.if_icmp .eq 15, 3) by decide +kernel) (by decide) rfl hr1 (by omega) ?_ ?_
  · exact fun q => am_x_fg [1] (k1 q)
  · exact fun q => k2 q
theorem S_X11_goes_128 {G : am_G} {d : Nat} {Q : am_D → Prop} {σ : am_D} {v1 : Int} (hr1 : -2147483648 ≤ v1 ∧ v1 ≤ 2147483647) (k1 : v1 = 60 → am_X (am_FV G (d + 1) Q) mX11_goes (0, 0) 140 [some (am_r (some 91)), none] [am_r (some 91)] (am_K0, σ)) (k2 : ¬ (v1 = 60) → am_X (am_FV G (d + 1) Q) mX11_goes (0, 0) 134 [some (am_r (some 91)), some (am_i v1)] [am_r (some 91)] (am_K0, σ)) : am_X (am_FV G (d + 1) Q) mX11_goes (0, 0) 128 [some (am_r (some 91)), some (am_i v1)] [am_r (some 91)] (am_K0, σ) := by
  refine am_r_iload_n (nx := 129) rfl rfl (show decode cX11_goes 128 = .ok (.iload_n 1, 1) by decide +kernel) rfl ?_
  refine am_r_bipush (nx := 131) rfl (show decode cX11_goes 129 = .ok (.bipush 60, 2) by decide +kernel) rfl ?_
  refine am_r_icmp_eq (tg := 140) (nx := 134) (show decode cX11_goes 131 = .ok (.if_icmp .eq 9, 3) by decide +kernel) (by decide) rfl hr1 (by omega) ?_ ?_
  · exact fun q => am_x_fg [1] (k1 q)
  · exact fun q => k2 q
theorem S_X11_goes_134 {G : am_G} {d : Nat} {Q : am_D → Prop} {σ : am_D} {v1 : Int} (hr1 : -2147483648 ≤ v1 ∧ v1 ≤ 2147483647) (k1 : ¬ v1 = 62 → am_X (am_FV G (d + 1) Q) mX11_goes (0, 0) 144 [some (am_r (some 91)), none] [am_r (some 91)] (am_K0, σ)) (k2 : ¬ (¬ v1 = 62) → am_X (am_FV G (d + 1) Q) mX11_goes (0, 0) 140 [some (am_r (some 91)), none] [am_r (some 91)] (am_K0, σ)) : am_X (am_FV G (d + 1) Q) mX11_goes (0, 0) 134 [some (am_r (some 91)), some (am_i v1)] [am_r (some 91)] (am_K0, σ) := by
  refine am_r_iload_n (nx := 135) rfl rfl (show decode cX11_goes 134 = .ok (.iload_n 1, 1) by decide +kernel) rfl ?_
  refine am_r_bipush (nx := 137) rfl (show decode cX11_goes 135 = .ok (.bipush 62, 2) by decide +kernel) rfl ?_
  refine am_r_icmp_ne (tg := 144) (nx := 140) (show decode cX11_goes 137 = .ok (.if_icmp .ne 7, 3) by decide +kernel) (by decide) rfl hr1 (by omega) ?_ ?_
  · exact fun q => am_x_fg [1] (k1 q)
  · exact fun q => am_x_fg [1] (k2 q)
theorem S_X11_goes_140 {G : am_G} {d : Nat} {Q : am_D → Prop} {σ : am_D}   (k : am_X (am_FV G (d + 1) Q) mX11_goes (0, 0) 145 [some (am_r (some 91)), none] [am_i 3, am_r (some 91)] (am_K0, σ)) : am_X (am_FV G (d + 1) Q) mX11_goes (0, 0) 140 [some (am_r (some 91)), none] [am_r (some 91)] (am_K0, σ) := by
  refine am_r_iconst (nx := 141) (show decode cX11_goes 140 = .ok (.iconst 3, 1) by decide +kernel) rfl ?_
  refine am_r_goto (tg := 145) (show decode cX11_goes 141 = .ok (.goto 4, 3) by decide +kernel) (by decide) ?_
  exact k
theorem S_X11_goes_144 {G : am_G} {d : Nat} {Q : am_D → Prop} {σ : am_D}   (k : am_X (am_FV G (d + 1) Q) mX11_goes (0, 0) 145 [some (am_r (some 91)), none] [am_i 4, am_r (some 91)] (am_K0, σ)) : am_X (am_FV G (d + 1) Q) mX11_goes (0, 0) 144 [some (am_r (some 91)), none] [am_r (some 91)] (am_K0, σ) := by
  refine am_r_iconst (nx := 145) (show decode cX11_goes 144 = .ok (.iconst 4, 1) by decide +kernel) rfl ?_
  exact k
theorem S_X11_goes_145 {G : am_G} {d : Nat} {Q : am_D → Prop} {σ : am_D} {s1 : Int}  (k : am_X (am_FV G (d + 1) Q) mX11_goes (0, 0) 148 [some (am_r (some 91)), none] [] (am_K0, (am_pI σ 91 6 s1))) : am_X (am_FV G (d + 1) Q) mX11_goes (0, 0) 145 [some (am_r (some 91)), none] [am_i s1, am_r (some 91)] (am_K0, σ) := by
  refine am_r_putI (nx := 148) 6 cw11 (by decide) rfl (Or.inl fl_X11_169) (ob_91) rfl (Or.inl rfl) (show decode cX11_goes 145 = .ok (.putfield 169, 3) by decide +kernel) rfl ?_
  exact k
theorem S_X11_goes_148 {G : am_G} {d : Nat} {Q : am_D → Prop} {σ : am_D}   (k : am_X (am_FV G (d + 1) Q) mX11_goes (0, 0) 158 [some (am_r (some 91)), none] [] (am_K0, (am_pI σ 91 4 ((σ.1 91 4) + 1)))) : am_X (am_FV G (d + 1) Q) mX11_goes (0, 0) 148 [some (am_r (some 91)), none] [] (am_K0, σ) := by
  refine am_r_aload_n (nx := 149) rfl rfl (show decode cX11_goes 148 = .ok (.aload_n 0, 1) by decide +kernel) rfl ?_
  refine am_r_dup (nx := 150) rfl (show decode cX11_goes 149 = .ok (.dup, 1) by decide +kernel) rfl ?_
  refine am_r_getI (nx := 153) 4 cw11 (by decide) rfl (Or.inl fl_X11_160) (ob_91) (show decode cX11_goes 150 = .ok (.getfield 160, 3) by decide +kernel) rfl ?_
  refine am_r_iconst (nx := 154) (show decode cX11_goes 153 = .ok (.iconst 1, 1) by decide +kernel) rfl ?_
  refine am_r_iadd (nx := 155) (show decode cX11_goes 154 = .ok (.iadd, 1) by decide +kernel) rfl ?_
  refine am_r_putI (nx := 158) 4 cw11 (by decide) rfl (Or.inl fl_X11_160) (ob_91) rfl (Or.inl rfl) (show decode cX11_goes 155 = .ok (.putfield 160, 3) by decide +kernel) rfl ?_
  exact k
theorem S_X11_goes_158 {G : am_G} {d : Nat} {Q : am_D → Prop} {σ : am_D}  (hr1 : -2147483648 ≤ (σ.1 91 4) ∧ (σ.1 91 4) ≤ 2147483647) (hr2 : -2147483648 ≤ (σ.1 91 3) ∧ (σ.1 91 3) ≤ 2147483647) (k1 : (σ.1 91 3) ≤ (σ.1 91 4) → am_X (am_FV G (d + 1) Q) mX11_goes (0, 0) 228 [none, none] [] (am_K0, σ)) (k2 : ¬ ((σ.1 91 3) ≤ (σ.1 91 4)) → am_X (am_FV G (d + 1) Q) mX11_goes (0, 0) 169 [some (am_r (some 91)), none] [] (am_K0, σ)) : am_X (am_FV G (d + 1) Q) mX11_goes (0, 0) 158 [some (am_r (some 91)), none] [] (am_K0, σ) := by
  refine am_r_aload_n (nx := 159) rfl rfl (show decode cX11_goes 158 = .ok (.aload_n 0, 1) by decide +kernel) rfl ?_
  refine am_r_getI (nx := 162) 4 cw11 (by decide) rfl (Or.inl fl_X11_160) (ob_91) (show decode cX11_goes 159 = .ok (.getfield 160, 3) by decide +kernel) rfl ?_
  refine am_r_aload_n (nx := 163) rfl rfl (show decode cX11_goes 162 = .ok (.aload_n 0, 1) by decide +kernel) rfl ?_
  refine am_r_getI (nx := 166) 3 cw11 (by decide) rfl (Or.inl fl_X11_163) (ob_91) (show decode cX11_goes 163 = .ok (.getfield 163, 3) by decide +kernel) rfl ?_
  refine am_r_icmp_ge (tg := 228) (nx := 169) (show decode cX11_goes 166 = .ok (.if_icmp .ge 62, 3) by decide +kernel) (by decide) rfl hr1 hr2 ?_ ?_
  · exact fun q => am_x_fg [0] (k1 q)
  · exact fun q => k2 q
theorem S_X11_goes_169 {G : am_G} {d : Nat} {Q : am_D → Prop} {σ : am_D}  (hr1 : -2147483648 ≤ (σ.1 91 6) ∧ (σ.1 91 6) ≤ 2147483647) (k1 : ¬ (σ.1 91 6) = 1 → am_X (am_FV G (d + 1) Q) mX11_goes (0, 0) 192 [some (am_r (some 91)), none] [] (am_K0, σ)) (k2 : ¬ (¬ (σ.1 91 6) = 1) → am_X (am_FV G (d + 1) Q) mX11_goes (0, 0) 177 [some (am_r (some 91)), none] [] (am_K0, σ)) : am_X (am_FV G (d + 1) Q) mX11_goes (0, 0) 169 [some (am_r (some 91)), none] [] (am_K0, σ) := by
  refine am_r_aload_n (nx := 170) rfl rfl (show decode cX11_goes 169 = .ok (.aload_n 0, 1) by decide +kernel) rfl ?_
  refine am_r_getI (nx := 173) 6 cw11 (by decide) rfl (Or.inl fl_X11_169) (ob_91) (show decode cX11_goes 170 = .ok (.getfield 169, 3) by decide +kernel) rfl ?_
  refine am_r_iconst (nx := 174) (show decode cX11_goes 173 = .ok (.iconst 1, 1) by decide +kernel) rfl ?_
  refine am_r_icmp_ne (tg := 192) (nx := 177) (show decode cX11_goes 174 = .ok (.if_icmp .ne 18, 3) by decide +kernel) (by decide) rfl hr1 (by omega) ?_ ?_
  · exact fun q => k1 q
  · exact fun q => k2 q
theorem S_X11_goes_177 {G : am_G} {d : Nat} {Q : am_D → Prop} {σ : am_D} {Q' : Int → am_D → Prop} (hi1 : 0 ≤ (σ.1 91 4)) (hj2 : (σ.1 91 4) < 600) (hc : am_MI G d mX11_isLetter [am_i (σ.1 92 (σ.1 91 4))] σ Q') (k : ∀ (x : Int) (σ' : am_D), Q' x σ' → am_X (am_FV G (d + 1) Q) mX11_goes (0, 0) 189 [some (am_r (some 91)), none] [am_i x] (am_K0, σ')) : am_X (am_FV G (d + 1) Q) mX11_goes (0, 0) 177 [some (am_r (some 91)), none] [] (am_K0, σ) := by
  refine am_r_aload_n (nx := 178) rfl rfl (show decode cX11_goes 177 = .ok (.aload_n 0, 1) by decide +kernel) rfl ?_
  refine am_r_getF (nx := 181) 0 cw11 (by decide) rfl (Or.inl fl_X11_7) (ob_91) (fn_91_0) (show decode cX11_goes 178 = .ok (.getfield 7, 3) by decide +kernel) rfl ?_
  refine am_r_aload_n (nx := 182) rfl rfl (show decode cX11_goes 181 = .ok (.aload_n 0, 1) by decide +kernel) rfl ?_
  refine am_r_getI (nx := 185) 4 cw11 (by decide) rfl (Or.inl fl_X11_160) (ob_91) (show decode cX11_goes 182 = .ok (.getfield 160, 3) by decide +kernel) rfl ?_
  refine am_r_bald (nx := 186) (sh_92) (am_shle (sh_92)) hi1 hj2 (show decode cX11_goes 185 = .ok (.baload, 1) by decide +kernel) rfl ?_
  refine am_r_callS (as := [am_i (σ.1 92 (σ.1 91 4))]) (st := []) hc mb_X11_isLetter mv_X11_isLetter (Or.inl ml_X11_172) rfl rfl (Nat.le_of_ble_eq_true rfl) ⟨Nat.le_refl _, Nat.le_refl _⟩ ⟨Nat.le_refl _, Nat.le_refl _⟩ (show decode cX11_goes 186 = .ok (.invokestatic 172, 3) by decide +kernel) ?_
  rintro _ _ ⟨x, σ', rfl, rfl, hq⟩ _
  exact (k x σ' hq)
theorem S_X11_goes_189 {G : am_G} {d : Nat} {Q : am_D → Prop} {σ : am_D} {s0 : Int} (hr1 : -2147483648 ≤ s0 ∧ s0 ≤ 2147483647) (k1 : ¬ s0 = 0 → am_X (am_FV G (d + 1) Q) mX11_goes (0, 0) 215 [some (am_r (some 91)), none] [] (am_K0, σ)) (k2 : ¬ (¬ s0 = 0) → am_X (am_FV G (d + 1) Q) mX11_goes (0, 0) 192 [some (am_r (some 91)), none] [] (am_K0, σ)) : am_X (am_FV G (d + 1) Q) mX11_goes (0, 0) 189 [some (am_r (some 91)), none] [am_i s0] (am_K0, σ) := by
  refine am_r_if_ne (tg := 215) (nx := 192) (show decode cX11_goes 189 = .ok (.ifCond .ne 26, 3) by decide +kernel) (by decide) rfl hr1 ?_ ?_
  · exact fun q => k1 q
  · exact fun q => k2 q
theorem S_X11_goes_192 {G : am_G} {d : Nat} {Q : am_D → Prop} {σ : am_D}  (hr1 : -2147483648 ≤ (σ.1 91 6) ∧ (σ.1 91 6) ≤ 2147483647) (k1 : ¬ (σ.1 91 6) = 2 → am_X (am_FV G (d + 1) Q) mX11_goes (0, 0) 228 [none, none] [] (am_K0, σ)) (k2 : ¬ (¬ (σ.1 91 6) = 2) → am_X (am_FV G (d + 1) Q) mX11_goes (0, 0) 200 [some (am_r (some 91)), none] [] (am_K0, σ)) : am_X (am_FV G (d + 1) Q) mX11_goes (0, 0) 192 [some (am_r (some 91)), none] [] (am_K0, σ) := by
  refine am_r_aload_n (nx := 193) rfl rfl (show decode cX11_goes 192 = .ok (.aload_n 0, 1) by decide +kernel) rfl ?_
  refine am_r_getI (nx := 196) 6 cw11 (by decide) rfl (Or.inl fl_X11_169) (ob_91) (show decode cX11_goes 193 = .ok (.getfield 169, 3) by decide +kernel) rfl ?_
  refine am_r_iconst (nx := 197) (show decode cX11_goes 196 = .ok (.iconst 2, 1) by decide +kernel) rfl ?_
  refine am_r_icmp_ne (tg := 228) (nx := 200) (show decode cX11_goes 197 = .ok (.if_icmp .ne 31, 3) by decide +kernel) (by decide) rfl hr1 (by omega) ?_ ?_
  · exact fun q => am_x_fg [0] (k1 q)
  · exact fun q => k2 q
theorem S_X11_goes_200 {G : am_G} {d : Nat} {Q : am_D → Prop} {σ : am_D} {Q' : Int → am_D → Prop} (hi1 : 0 ≤ (σ.1 91 4)) (hj2 : (σ.1 91 4) < 600) (hc : am_MI G d mX11_isDigit [am_i (σ.1 92 (σ.1 91 4))] σ Q') (k : ∀ (x : Int) (σ' : am_D), Q' x σ' → am_X (am_FV G (d + 1) Q) mX11_goes (0, 0) 212 [some (am_r (some 91)), none] [am_i x] (am_K0, σ')) : am_X (am_FV G (d + 1) Q) mX11_goes (0, 0) 200 [some (am_r (some 91)), none] [] (am_K0, σ) := by
  refine am_r_aload_n (nx := 201) rfl rfl (show decode cX11_goes 200 = .ok (.aload_n 0, 1) by decide +kernel) rfl ?_
  refine am_r_getF (nx := 204) 0 cw11 (by decide) rfl (Or.inl fl_X11_7) (ob_91) (fn_91_0) (show decode cX11_goes 201 = .ok (.getfield 7, 3) by decide +kernel) rfl ?_
  refine am_r_aload_n (nx := 205) rfl rfl (show decode cX11_goes 204 = .ok (.aload_n 0, 1) by decide +kernel) rfl ?_
  refine am_r_getI (nx := 208) 4 cw11 (by decide) rfl (Or.inl fl_X11_160) (ob_91) (show decode cX11_goes 205 = .ok (.getfield 160, 3) by decide +kernel) rfl ?_
  refine am_r_bald (nx := 209) (sh_92) (am_shle (sh_92)) hi1 hj2 (show decode cX11_goes 208 = .ok (.baload, 1) by decide +kernel) rfl ?_
  refine am_r_callS (as := [am_i (σ.1 92 (σ.1 91 4))]) (st := []) hc mb_X11_isDigit mv_X11_isDigit (Or.inl ml_X11_176) rfl rfl (Nat.le_of_ble_eq_true rfl) ⟨Nat.le_refl _, Nat.le_refl _⟩ ⟨Nat.le_refl _, Nat.le_refl _⟩ (show decode cX11_goes 209 = .ok (.invokestatic 176, 3) by decide +kernel) ?_
  rintro _ _ ⟨x, σ', rfl, rfl, hq⟩ _
  exact (k x σ' hq)
theorem S_X11_goes_212 {G : am_G} {d : Nat} {Q : am_D → Prop} {σ : am_D} {s0 : Int} (hr1 : -2147483648 ≤ s0 ∧ s0 ≤ 2147483647) (k1 : s0 = 0 → am_X (am_FV G (d + 1) Q) mX11_goes (0, 0) 228 [none, none] [] (am_K0, σ)) (k2 : ¬ (s0 = 0) → am_X (am_FV G (d + 1) Q) mX11_goes (0, 0) 215 [some (am_r (some 91)), none] [] (am_K0, σ)) : am_X (am_FV G (d + 1) Q) mX11_goes (0, 0) 212 [some (am_r (some 91)), none] [am_i s0] (am_K0, σ) := by
  refine am_r_if_eq (tg := 228) (nx := 215) (show decode cX11_goes 212 = .ok (.ifCond .eq 16, 3) by decide +kernel) (by decide) rfl hr1 ?_ ?_
  · exact fun q => am_x_fg [0] (k1 q)
  · exact fun q => k2 q
theorem S_X11_goes_215 {G : am_G} {d : Nat} {Q : am_D → Prop} {σ : am_D}   (k : am_X (am_FV G (d + 1) Q) mX11_goes (0, 0) 158 [some (am_r (some 91)), none] [] (am_K0, (am_pI σ 91 4 ((σ.1 91 4) + 1)))) : am_X (am_FV G (d + 1) Q) mX11_goes (0, 0) 215 [some (am_r (some 91)), none] [] (am_K0, σ) := by
  refine am_r_aload_n (nx := 216) rfl rfl (show decode cX11_goes 215 = .ok (.aload_n 0, 1) by decide +kernel) rfl ?_
  refine am_r_dup (nx := 217) rfl (show decode cX11_goes 216 = .ok (.dup, 1) by decide +kernel) rfl ?_
  refine am_r_getI (nx := 220) 4 cw11 (by decide) rfl (Or.inl fl_X11_160) (ob_91) (show decode cX11_goes 217 = .ok (.getfield 160, 3) by decide +kernel) rfl ?_
  refine am_r_iconst (nx := 221) (show decode cX11_goes 220 = .ok (.iconst 1, 1) by decide +kernel) rfl ?_
  refine am_r_iadd (nx := 222) (show decode cX11_goes 221 = .ok (.iadd, 1) by decide +kernel) rfl ?_
  refine am_r_putI (nx := 225) 4 cw11 (by decide) rfl (Or.inl fl_X11_160) (ob_91) rfl (Or.inl rfl) (show decode cX11_goes 222 = .ok (.putfield 160, 3) by decide +kernel) rfl ?_
  refine am_r_goto (tg := 158) (show decode cX11_goes 225 = .ok (.goto (-67), 3) by decide +kernel) (by decide) ?_
  exact k
theorem S_X11_goes_228 {G : am_G} {d : Nat} {Q : am_D → Prop} {σ : am_D}   (k : Q σ) : am_X (am_FV G (d + 1) Q) mX11_goes (0, 0) 228 [none, none] [] (am_K0, σ) := by
  exact am_r_vret rfl (show decode cX11_goes 228 = .ok (.return_, 1) by decide +kernel) ⟨_, rfl, rfl, k⟩
theorem S_X11_begins_0 {G : am_G} {d : Nat} {Q : am_D → Prop} {σ : am_D}   (k : am_X (am_FV G (d + 1) Q) mX11_begins (0, 0) 8 [some (am_r (some 91))] [] (am_K0, (am_pI σ 91 3 (σ.1 91 1)))) : am_X (am_FV G (d + 1) Q) mX11_begins (0, 0) 0 [some (am_r (some 91))] [] (am_K0, σ) := by
  refine am_r_aload_n (nx := 1) rfl rfl (show decode cX11_begins 0 = .ok (.aload_n 0, 1) by decide +kernel) rfl ?_
  refine am_r_aload_n (nx := 2) rfl rfl (show decode cX11_begins 1 = .ok (.aload_n 0, 1) by decide +kernel) rfl ?_
  refine am_r_getI (nx := 5) 1 cw11 (by decide) rfl (Or.inl fl_X11_148) (ob_91) (show decode cX11_begins 2 = .ok (.getfield 148, 3) by decide +kernel) rfl ?_
  refine am_r_putI (nx := 8) 3 cw11 (by decide) rfl (Or.inl fl_X11_163) (ob_91) rfl (Or.inl rfl) (show decode cX11_begins 5 = .ok (.putfield 163, 3) by decide +kernel) rfl ?_
  exact k
theorem S_X11_begins_8 {G : am_G} {d : Nat} {Q : am_D → Prop} {σ : am_D}   (k : am_X (am_FV G (d + 1) Q) mX11_begins (0, 0) 13 [some (am_r (some 91))] [] (am_K0, (am_pI σ 91 1 0))) : am_X (am_FV G (d + 1) Q) mX11_begins (0, 0) 8 [some (am_r (some 91))] [] (am_K0, σ) := by
  refine am_r_aload_n (nx := 9) rfl rfl (show decode cX11_begins 8 = .ok (.aload_n 0, 1) by decide +kernel) rfl ?_
  refine am_r_iconst (nx := 10) (show decode cX11_begins 9 = .ok (.iconst 0, 1) by decide +kernel) rfl ?_
  refine am_r_putI (nx := 13) 1 cw11 (by decide) rfl (Or.inl fl_X11_148) (ob_91) rfl (Or.inl rfl) (show decode cX11_begins 10 = .ok (.putfield 148, 3) by decide +kernel) rfl ?_
  exact k
theorem S_X11_begins_13 {G : am_G} {d : Nat} {Q : am_D → Prop} {σ : am_D}   (k : am_X (am_FV G (d + 1) Q) mX11_begins (0, 0) 18 [some (am_r (some 91))] [] (am_K0, (am_pI σ 91 4 0))) : am_X (am_FV G (d + 1) Q) mX11_begins (0, 0) 13 [some (am_r (some 91))] [] (am_K0, σ) := by
  refine am_r_aload_n (nx := 14) rfl rfl (show decode cX11_begins 13 = .ok (.aload_n 0, 1) by decide +kernel) rfl ?_
  refine am_r_iconst (nx := 15) (show decode cX11_begins 14 = .ok (.iconst 0, 1) by decide +kernel) rfl ?_
  refine am_r_putI (nx := 18) 4 cw11 (by decide) rfl (Or.inl fl_X11_160) (ob_91) rfl (Or.inl rfl) (show decode cX11_begins 15 = .ok (.putfield 160, 3) by decide +kernel) rfl ?_
  exact k
theorem S_X11_begins_18 {G : am_G} {d : Nat} {Q : am_D → Prop} {σ : am_D}   (k : am_X (am_FV G (d + 1) Q) mX11_begins (0, 0) 23 [some (am_r (some 91))] [] (am_K0, (am_pI σ 91 2 0))) : am_X (am_FV G (d + 1) Q) mX11_begins (0, 0) 18 [some (am_r (some 91))] [] (am_K0, σ) := by
  refine am_r_aload_n (nx := 19) rfl rfl (show decode cX11_begins 18 = .ok (.aload_n 0, 1) by decide +kernel) rfl ?_
  refine am_r_iconst (nx := 20) (show decode cX11_begins 19 = .ok (.iconst 0, 1) by decide +kernel) rfl ?_
  refine am_r_putI (nx := 23) 2 cw11 (by decide) rfl (Or.inl fl_X11_179) (ob_91) rfl (Or.inl rfl) (show decode cX11_begins 20 = .ok (.putfield 179, 3) by decide +kernel) rfl ?_
  exact k
theorem S_X11_begins_23 {G : am_G} {d : Nat} {Q : am_D → Prop} {σ : am_D} {Q' : am_D → Prop} (hc : am_MV G d mX11_goes [am_r (some 91)] σ Q') (k : ∀ σ' : am_D, Q' σ' → am_X (am_FV G (d + 1) Q) mX11_begins (0, 0) 27 [none] [] (am_K0, σ')) : am_X (am_FV G (d + 1) Q) mX11_begins (0, 0) 23 [some (am_r (some 91))] [] (am_K0, σ) := by
  refine am_r_aload_n (nx := 24) rfl rfl (show decode cX11_begins 23 = .ok (.aload_n 0, 1) by decide +kernel) rfl ?_
  refine am_r_callV (as := []) (st := []) hc mb_X11_goes mv_X11_goes (Or.inl ml_X11_182) (ob_91) (by omega) (r := (RX11, TX11, 63)) rfl rfl rfl rfl (Nat.le_of_ble_eq_true rfl) ⟨Nat.le_refl _, Nat.le_refl _⟩ ⟨Nat.le_refl _, Nat.le_refl _⟩ (show decode cX11_begins 24 = .ok (.invokevirtual 182, 3) by decide +kernel) ?_
  rintro _ _ ⟨σ', rfl, rfl, hq⟩ _
  exact am_x_fg [0] (k σ' hq)
theorem S_X11_begins_27 {G : am_G} {d : Nat} {Q : am_D → Prop} {σ : am_D}   (k : Q σ) : am_X (am_FV G (d + 1) Q) mX11_begins (0, 0) 27 [none] [] (am_K0, σ) := by
  exact am_r_vret rfl (show decode cX11_begins 27 = .ok (.return_, 1) by decide +kernel) ⟨_, rfl, rfl, k⟩
theorem S_X11_fails_0 {G : am_G} {d : Nat} {Q : am_D → Prop} {σ : am_D} {v1 : Int} (hr1 : -2147483648 ≤ (σ.1 91 2) ∧ (σ.1 91 2) ≤ 2147483647) (k1 : ¬ (σ.1 91 2) = 0 → am_X (am_FV G (d + 1) Q) mX11_fails (0, 0) 20 [none, none] [] (am_K0, σ)) (k2 : ¬ (¬ (σ.1 91 2) = 0) → am_X (am_FV G (d + 1) Q) mX11_fails (0, 0) 7 [some (am_r (some 91)), some (am_i v1)] [] (am_K0, σ)) : am_X (am_FV G (d + 1) Q) mX11_fails (0, 0) 0 [some (am_r (some 91)), some (am_i v1)] [] (am_K0, σ) := by
  refine am_r_aload_n (nx := 1) rfl rfl (show decode cX11_fails 0 = .ok (.aload_n 0, 1) by decide +kernel) rfl ?_
  refine am_r_getI (nx := 4) 2 cw11 (by decide) rfl (Or.inl fl_X11_179) (ob_91) (show decode cX11_fails 1 = .ok (.getfield 179, 3) by decide +kernel) rfl ?_
  refine am_r_if_ne (tg := 20) (nx := 7) (show decode cX11_fails 4 = .ok (.ifCond .ne 16, 3) by decide +kernel) (by decide) rfl hr1 ?_ ?_
  · exact fun q => am_x_fg [0, 1] (k1 q)
  · exact fun q => k2 q
theorem S_X11_fails_7 {G : am_G} {d : Nat} {Q : am_D → Prop} {σ : am_D} {v1 : Int}  (k : am_X (am_FV G (d + 1) Q) mX11_fails (0, 0) 20 [none, none] [] (am_K0, (am_pI σ 91 2 (v1 + (8 * (σ.1 91 5)))))) : am_X (am_FV G (d + 1) Q) mX11_fails (0, 0) 7 [some (am_r (some 91)), some (am_i v1)] [] (am_K0, σ) := by
  refine am_r_aload_n (nx := 8) rfl rfl (show decode cX11_fails 7 = .ok (.aload_n 0, 1) by decide +kernel) rfl ?_
  refine am_r_iload_n (nx := 9) rfl rfl (show decode cX11_fails 8 = .ok (.iload_n 1, 1) by decide +kernel) rfl ?_
  refine am_r_bipush (nx := 11) rfl (show decode cX11_fails 9 = .ok (.bipush 8, 2) by decide +kernel) rfl ?_
  refine am_r_aload_n (nx := 12) rfl rfl (show decode cX11_fails 11 = .ok (.aload_n 0, 1) by decide +kernel) rfl ?_
  refine am_r_getI (nx := 15) 5 cw11 (by decide) rfl (Or.inl fl_X11_166) (ob_91) (show decode cX11_fails 12 = .ok (.getfield 166, 3) by decide +kernel) rfl ?_
  refine am_r_imul (nx := 16) (show decode cX11_fails 15 = .ok (.imul, 1) by decide +kernel) rfl ?_
  refine am_r_iadd (nx := 17) (show decode cX11_fails 16 = .ok (.iadd, 1) by decide +kernel) rfl ?_
  refine am_r_putI (nx := 20) 2 cw11 (by decide) rfl (Or.inl fl_X11_179) (ob_91) rfl (Or.inl rfl) (show decode cX11_fails 17 = .ok (.putfield 179, 3) by decide +kernel) rfl ?_
  exact am_x_fg [0, 1] k
theorem S_X11_fails_20 {G : am_G} {d : Nat} {Q : am_D → Prop} {σ : am_D}   (k : Q σ) : am_X (am_FV G (d + 1) Q) mX11_fails (0, 0) 20 [none, none] [] (am_K0, σ) := by
  exact am_r_vret rfl (show decode cX11_fails 20 = .ok (.return_, 1) by decide +kernel) ⟨_, rfl, rfl, k⟩
theorem S_X11_isGood_0 {G : am_G} {d : Nat} {Q : Int → am_D → Prop} {σ : am_D}  (hr1 : -2147483648 ≤ (σ.1 91 2) ∧ (σ.1 91 2) ≤ 2147483647) (k1 : ¬ (σ.1 91 2) = 0 → am_X (am_FI G (d + 1) Q) mX11_isGood (0, 0) 11 [none] [] (am_K0, σ)) (k2 : ¬ (¬ (σ.1 91 2) = 0) → am_X (am_FI G (d + 1) Q) mX11_isGood (0, 0) 7 [none] [] (am_K0, σ)) : am_X (am_FI G (d + 1) Q) mX11_isGood (0, 0) 0 [some (am_r (some 91))] [] (am_K0, σ) := by
  refine am_r_aload_n (nx := 1) rfl rfl (show decode cX11_isGood 0 = .ok (.aload_n 0, 1) by decide +kernel) rfl ?_
  refine am_r_getI (nx := 4) 2 cw11 (by decide) rfl (Or.inl fl_X11_179) (ob_91) (show decode cX11_isGood 1 = .ok (.getfield 179, 3) by decide +kernel) rfl ?_
  refine am_r_if_ne (tg := 11) (nx := 7) (show decode cX11_isGood 4 = .ok (.ifCond .ne 7, 3) by decide +kernel) (by decide) rfl hr1 ?_ ?_
  · exact fun q => am_x_fg [0] (k1 q)
  · exact fun q => am_x_fg [0] (k2 q)
theorem S_X11_isGood_7 {G : am_G} {d : Nat} {Q : Int → am_D → Prop} {σ : am_D}   (k : am_X (am_FI G (d + 1) Q) mX11_isGood (0, 0) 12 [none] [am_i 1] (am_K0, σ)) : am_X (am_FI G (d + 1) Q) mX11_isGood (0, 0) 7 [none] [] (am_K0, σ) := by
  refine am_r_iconst (nx := 8) (show decode cX11_isGood 7 = .ok (.iconst 1, 1) by decide +kernel) rfl ?_
  refine am_r_goto (tg := 12) (show decode cX11_isGood 8 = .ok (.goto 4, 3) by decide +kernel) (by decide) ?_
  exact k
theorem S_X11_isGood_11 {G : am_G} {d : Nat} {Q : Int → am_D → Prop} {σ : am_D}   (k : am_X (am_FI G (d + 1) Q) mX11_isGood (0, 0) 12 [none] [am_i 0] (am_K0, σ)) : am_X (am_FI G (d + 1) Q) mX11_isGood (0, 0) 11 [none] [] (am_K0, σ) := by
  refine am_r_iconst (nx := 12) (show decode cX11_isGood 11 = .ok (.iconst 0, 1) by decide +kernel) rfl ?_
  exact k
theorem S_X11_isGood_12 {G : am_G} {d : Nat} {Q : Int → am_D → Prop} {σ : am_D} {s0 : Int} (hz : s0 = 0 ∨ s0 = 1) (k : Q s0 σ) : am_X (am_FI G (d + 1) Q) mX11_isGood (0, 0) 12 [none] [am_i s0] (am_K0, σ) := by
  exact am_r_iret rfl (by rcases hz with hz | hz <;> rw [hz] <;> rfl) (show decode cX11_isGood 12 = .ok (.ireturn, 1) by decide +kernel) ⟨_, _, rfl, rfl, k⟩
theorem S_X11_isWord_0 {G : am_G} {d : Nat} {Q : Int → am_D → Prop} {σ : am_D} {v1 : Nat} {Q' : Int → am_D → Prop} (hc : am_MI G d mX11_isGood [am_r (some 91)] σ Q') (k : ∀ (x : Int) (σ' : am_D), Q' x σ' → am_X (am_FI G (d + 1) Q) mX11_isWord (0, 0) 4 [some (am_r (some 91)), some (am_s v1), none, none] [am_i x] (am_K0, σ')) : am_X (am_FI G (d + 1) Q) mX11_isWord (0, 0) 0 [some (am_r (some 91)), some (am_s v1), none, none] [] (am_K0, σ) := by
  refine am_r_aload_n (nx := 1) rfl rfl (show decode cX11_isWord 0 = .ok (.aload_n 0, 1) by decide +kernel) rfl ?_
  refine am_r_callV (as := []) (st := []) hc mb_X11_isGood mv_X11_isGood (Or.inl ml_X11_185) (ob_91) (by omega) (r := (RX11, TX11, 63)) rfl rfl rfl rfl (Nat.le_of_ble_eq_true rfl) ⟨Nat.le_refl _, Nat.le_refl _⟩ ⟨Nat.le_refl _, Nat.le_refl _⟩ (show decode cX11_isWord 1 = .ok (.invokevirtual 185, 3) by decide +kernel) ?_
  rintro _ _ ⟨x, σ', rfl, rfl, hq⟩ _
  exact (k x σ' hq)
theorem S_X11_isWord_4 {G : am_G} {d : Nat} {Q : Int → am_D → Prop} {σ : am_D} {v1 : Nat} {s0 : Int} (hr1 : -2147483648 ≤ s0 ∧ s0 ≤ 2147483647) (k1 : s0 = 0 → am_X (am_FI G (d + 1) Q) mX11_isWord (0, 0) 35 [some (am_r (some 91)), some (am_s v1), none, none] [] (am_K0, σ)) (k2 : ¬ (s0 = 0) → am_X (am_FI G (d + 1) Q) mX11_isWord (0, 0) 7 [some (am_r (some 91)), some (am_s v1), none, none] [] (am_K0, σ)) : am_X (am_FI G (d + 1) Q) mX11_isWord (0, 0) 4 [some (am_r (some 91)), some (am_s v1), none, none] [am_i s0] (am_K0, σ) := by
  refine am_r_if_eq (tg := 35) (nx := 7) (show decode cX11_isWord 4 = .ok (.ifCond .eq 31, 3) by decide +kernel) (by decide) rfl hr1 ?_ ?_
  · exact fun q => k1 q
  · exact fun q => k2 q
theorem S_X11_isWord_7 {G : am_G} {d : Nat} {Q : Int → am_D → Prop} {σ : am_D} {v1 : Nat} (hr1 : -2147483648 ≤ (σ.1 91 6) ∧ (σ.1 91 6) ≤ 2147483647) (k1 : ¬ (σ.1 91 6) = 1 → am_X (am_FI G (d + 1) Q) mX11_isWord (0, 0) 35 [some (am_r (some 91)), some (am_s v1), none, none] [] (am_K0, σ)) (k2 : ¬ (¬ (σ.1 91 6) = 1) → am_X (am_FI G (d + 1) Q) mX11_isWord (0, 0) 15 [some (am_r (some 91)), some (am_s v1), none, none] [] (am_K0, σ)) : am_X (am_FI G (d + 1) Q) mX11_isWord (0, 0) 7 [some (am_r (some 91)), some (am_s v1), none, none] [] (am_K0, σ) := by
  refine am_r_aload_n (nx := 8) rfl rfl (show decode cX11_isWord 7 = .ok (.aload_n 0, 1) by decide +kernel) rfl ?_
  refine am_r_getI (nx := 11) 6 cw11 (by decide) rfl (Or.inl fl_X11_169) (ob_91) (show decode cX11_isWord 8 = .ok (.getfield 169, 3) by decide +kernel) rfl ?_
  refine am_r_iconst (nx := 12) (show decode cX11_isWord 11 = .ok (.iconst 1, 1) by decide +kernel) rfl ?_
  refine am_r_icmp_ne (tg := 35) (nx := 15) (show decode cX11_isWord 12 = .ok (.if_icmp .ne 23, 3) by decide +kernel) (by decide) rfl hr1 (by omega) ?_ ?_
  · exact fun q => k1 q
  · exact fun q => k2 q
theorem S_X11_isWord_15 {G : am_G} {d : Nat} {Q : Int → am_D → Prop} {σ : am_D} {v1 : Nat} {Q' : Int → am_D → Prop} (hc : am_MI G d mJ0_length_8abf5 [am_s v1] σ Q') (hi9 : v1 < 9) (k : ∀ (x : Int) (σ' : am_D), Q' x σ' → am_X (am_FI G (d + 1) Q) mX11_isWord (0, 0) 28 [some (am_r (some 91)), some (am_s v1), none, none] [am_i x, am_i ((σ.1 91 4) - (σ.1 91 5))] (am_K0, σ')) : am_X (am_FI G (d + 1) Q) mX11_isWord (0, 0) 15 [some (am_r (some 91)), some (am_s v1), none, none] [] (am_K0, σ) := by
  refine am_r_aload_n (nx := 16) rfl rfl (show decode cX11_isWord 15 = .ok (.aload_n 0, 1) by decide +kernel) rfl ?_
  refine am_r_getI (nx := 19) 4 cw11 (by decide) rfl (Or.inl fl_X11_160) (ob_91) (show decode cX11_isWord 16 = .ok (.getfield 160, 3) by decide +kernel) rfl ?_
  refine am_r_aload_n (nx := 20) rfl rfl (show decode cX11_isWord 19 = .ok (.aload_n 0, 1) by decide +kernel) rfl ?_
  refine am_r_getI (nx := 23) 5 cw11 (by decide) rfl (Or.inl fl_X11_166) (ob_91) (show decode cX11_isWord 20 = .ok (.getfield 166, 3) by decide +kernel) rfl ?_
  refine am_r_isub (nx := 24) (show decode cX11_isWord 23 = .ok (.isub, 1) by decide +kernel) rfl ?_
  refine am_r_aload_nS (nx := 25) rfl rfl (show decode cX11_isWord 24 = .ok (.aload_n 1, 1) by decide +kernel) rfl ?_
  refine am_r_callT (as := []) (st := [am_i ((σ.1 91 4) - (σ.1 91 5))]) hc mb_J0_length_8abf5 mv_J0_length_8abf5 (Or.inl ml_X11_189) hi9 rfl rfl rfl (Nat.le_of_ble_eq_true rfl) ⟨Nat.le_refl _, Nat.le_refl _⟩ ⟨Nat.le_refl _, Nat.le_refl _⟩ (show decode cX11_isWord 25 = .ok (.invokevirtual 189, 3) by decide +kernel) ?_
  rintro _ _ ⟨x, σ', rfl, rfl, hq⟩ _
  exact (k x σ' hq)
theorem S_X11_isWord_28 {G : am_G} {d : Nat} {Q : Int → am_D → Prop} {σ : am_D} {v1 : Nat} {s0 : Int} {s1 : Int} (hr1 : -2147483648 ≤ s0 ∧ s0 ≤ 2147483647) (hr2 : -2147483648 ≤ s1 ∧ s1 ≤ 2147483647) (k1 : ¬ s0 = s1 → am_X (am_FI G (d + 1) Q) mX11_isWord (0, 0) 35 [some (am_r (some 91)), some (am_s v1), none, none] [] (am_K0, σ)) (k2 : ¬ (¬ s0 = s1) → am_X (am_FI G (d + 1) Q) mX11_isWord (0, 0) 31 [some (am_r (some 91)), some (am_s v1), none, none] [] (am_K0, σ)) : am_X (am_FI G (d + 1) Q) mX11_isWord (0, 0) 28 [some (am_r (some 91)), some (am_s v1), none, none] [am_i s1, am_i s0] (am_K0, σ) := by
  refine am_r_icmp_ne (tg := 35) (nx := 31) (show decode cX11_isWord 28 = .ok (.if_icmp .ne 7, 3) by decide +kernel) (by decide) rfl hr1 hr2 ?_ ?_
  · exact fun q => k1 q
  · exact fun q => k2 q
theorem S_X11_isWord_31 {G : am_G} {d : Nat} {Q : Int → am_D → Prop} {σ : am_D} {v1 : Nat}  (k : am_X (am_FI G (d + 1) Q) mX11_isWord (0, 0) 36 [some (am_r (some 91)), some (am_s v1), none, none] [am_i 1] (am_K0, σ)) : am_X (am_FI G (d + 1) Q) mX11_isWord (0, 0) 31 [some (am_r (some 91)), some (am_s v1), none, none] [] (am_K0, σ) := by
  refine am_r_iconst (nx := 32) (show decode cX11_isWord 31 = .ok (.iconst 1, 1) by decide +kernel) rfl ?_
  refine am_r_goto (tg := 36) (show decode cX11_isWord 32 = .ok (.goto 4, 3) by decide +kernel) (by decide) ?_
  exact k
theorem S_X11_isWord_35 {G : am_G} {d : Nat} {Q : Int → am_D → Prop} {σ : am_D} {v1 : Nat}  (k : am_X (am_FI G (d + 1) Q) mX11_isWord (0, 0) 36 [some (am_r (some 91)), some (am_s v1), none, none] [am_i 0] (am_K0, σ)) : am_X (am_FI G (d + 1) Q) mX11_isWord (0, 0) 35 [some (am_r (some 91)), some (am_s v1), none, none] [] (am_K0, σ) := by
  refine am_r_iconst (nx := 36) (show decode cX11_isWord 35 = .ok (.iconst 0, 1) by decide +kernel) rfl ?_
  exact k
theorem S_X11_isWord_36 {G : am_G} {d : Nat} {Q : Int → am_D → Prop} {σ : am_D} {v1 : Nat} {s0 : Int}  (k : am_X (am_FI G (d + 1) Q) mX11_isWord (0, 0) 37 [some (am_r (some 91)), some (am_s v1), some (am_i s0), none] [] (am_K0, σ)) : am_X (am_FI G (d + 1) Q) mX11_isWord (0, 0) 36 [some (am_r (some 91)), some (am_s v1), none, none] [am_i s0] (am_K0, σ) := by
  refine am_r_istore_n (nx := 37) rfl (by decide) rfl (show decode cX11_isWord 36 = .ok (.istore_n 2, 1) by decide +kernel) rfl ?_
  exact k
theorem S_X11_isWord_37 {G : am_G} {d : Nat} {Q : Int → am_D → Prop} {σ : am_D} {v1 : Nat} {v2 : Int}  (k : am_X (am_FI G (d + 1) Q) mX11_isWord (0, 0) 39 [some (am_r (some 91)), some (am_s v1), some (am_i v2), some (am_i 0)] [] (am_K0, σ)) : am_X (am_FI G (d + 1) Q) mX11_isWord (0, 0) 37 [some (am_r (some 91)), some (am_s v1), some (am_i v2), none] [] (am_K0, σ) := by
  refine am_r_iconst (nx := 38) (show decode cX11_isWord 37 = .ok (.iconst 0, 1) by decide +kernel) rfl ?_
  refine am_r_istore_n (nx := 39) rfl (by decide) rfl (show decode cX11_isWord 38 = .ok (.istore_n 3, 1) by decide +kernel) rfl ?_
  exact k
theorem S_X11_isWord_39 {G : am_G} {d : Nat} {Q : Int → am_D → Prop} {σ : am_D} {v1 : Nat} {v2 : Int} {v3 : Int} {Q' : Int → am_D → Prop} (hc : am_MI G d mJ0_length_8abf5 [am_s v1] σ Q') (hi9 : v1 < 9) (k : ∀ (x : Int) (σ' : am_D), Q' x σ' → am_X (am_FI G (d + 1) Q) mX11_isWord (0, 0) 44 [some (am_r (some 91)), some (am_s v1), some (am_i v2), some (am_i v3)] [am_i x, am_i v3] (am_K0, σ')) : am_X (am_FI G (d + 1) Q) mX11_isWord (0, 0) 39 [some (am_r (some 91)), some (am_s v1), some (am_i v2), some (am_i v3)] [] (am_K0, σ) := by
  refine am_r_iload_n (nx := 40) rfl rfl (show decode cX11_isWord 39 = .ok (.iload_n 3, 1) by decide +kernel) rfl ?_
  refine am_r_aload_nS (nx := 41) rfl rfl (show decode cX11_isWord 40 = .ok (.aload_n 1, 1) by decide +kernel) rfl ?_
  refine am_r_callT (as := []) (st := [am_i v3]) hc mb_J0_length_8abf5 mv_J0_length_8abf5 (Or.inl ml_X11_189) hi9 rfl rfl rfl (Nat.le_of_ble_eq_true rfl) ⟨Nat.le_refl _, Nat.le_refl _⟩ ⟨Nat.le_refl _, Nat.le_refl _⟩ (show decode cX11_isWord 41 = .ok (.invokevirtual 189, 3) by decide +kernel) ?_
  rintro _ _ ⟨x, σ', rfl, rfl, hq⟩ _
  exact (k x σ' hq)
theorem S_X11_isWord_44 {G : am_G} {d : Nat} {Q : Int → am_D → Prop} {σ : am_D} {v1 : Nat} {v2 : Int} {v3 : Int} {s0 : Int} {s1 : Int} (hr1 : -2147483648 ≤ s0 ∧ s0 ≤ 2147483647) (hr2 : -2147483648 ≤ s1 ∧ s1 ≤ 2147483647) (k1 : s1 ≤ s0 → am_X (am_FI G (d + 1) Q) mX11_isWord (0, 0) 82 [none, none, some (am_i v2), none] [] (am_K0, σ)) (k2 : ¬ (s1 ≤ s0) → am_X (am_FI G (d + 1) Q) mX11_isWord (0, 0) 47 [some (am_r (some 91)), some (am_s v1), some (am_i v2), some (am_i v3)] [] (am_K0, σ)) : am_X (am_FI G (d + 1) Q) mX11_isWord (0, 0) 44 [some (am_r (some 91)), some (am_s v1), some (am_i v2), some (am_i v3)] [am_i s1, am_i s0] (am_K0, σ) := by
  refine am_r_icmp_ge (tg := 82) (nx := 47) (show decode cX11_isWord 44 = .ok (.if_icmp .ge 38, 3) by decide +kernel) (by decide) rfl hr1 hr2 ?_ ?_
  · exact fun q => am_x_fg [0, 1, 3] (k1 q)
  · exact fun q => k2 q
theorem S_X11_isWord_47 {G : am_G} {d : Nat} {Q : Int → am_D → Prop} {σ : am_D} {v1 : Nat} {v2 : Int} {v3 : Int} (hr1 : -2147483648 ≤ v2 ∧ v2 ≤ 2147483647) (k1 : v2 = 0 → am_X (am_FI G (d + 1) Q) mX11_isWord (0, 0) 82 [none, none, some (am_i v2), none] [] (am_K0, σ)) (k2 : ¬ (v2 = 0) → am_X (am_FI G (d + 1) Q) mX11_isWord (0, 0) 51 [some (am_r (some 91)), some (am_s v1), none, some (am_i v3)] [] (am_K0, σ)) : am_X (am_FI G (d + 1) Q) mX11_isWord (0, 0) 47 [some (am_r (some 91)), some (am_s v1), some (am_i v2), some (am_i v3)] [] (am_K0, σ) := by
  refine am_r_iload_n (nx := 48) rfl rfl (show decode cX11_isWord 47 = .ok (.iload_n 2, 1) by decide +kernel) rfl ?_
  refine am_r_if_eq (tg := 82) (nx := 51) (show decode cX11_isWord 48 = .ok (.ifCond .eq 34, 3) by decide +kernel) (by decide) rfl hr1 ?_ ?_
  · exact fun q => am_x_fg [0, 1, 3] (k1 q)
  · exact fun q => am_x_fg [2] (k2 q)
theorem S_X11_isWord_51 {G : am_G} {d : Nat} {Q : Int → am_D → Prop} {σ : am_D} {v1 : Nat} {v3 : Int} {Q' : Int → am_D → Prop} (hi1 : 0 ≤ ((σ.1 91 5) + v3)) (hj2 : ((σ.1 91 5) + v3) < 600) (hc : am_MI G d mJ0_charAt_5068e [am_s v1, am_i v3] σ Q') (hi9 : v1 < 9) (k : ∀ (x : Int) (σ' : am_D), Q' x σ' → am_X (am_FI G (d + 1) Q) mX11_isWord (0, 0) 67 [some (am_r (some 91)), some (am_s v1), none, some (am_i v3)] [am_i x, am_i (σ.1 92 ((σ.1 91 5) + v3))] (am_K0, σ')) : am_X (am_FI G (d + 1) Q) mX11_isWord (0, 0) 51 [some (am_r (some 91)), some (am_s v1), none, some (am_i v3)] [] (am_K0, σ) := by
  refine am_r_aload_n (nx := 52) rfl rfl (show decode cX11_isWord 51 = .ok (.aload_n 0, 1) by decide +kernel) rfl ?_
  refine am_r_getF (nx := 55) 0 cw11 (by decide) rfl (Or.inl fl_X11_7) (ob_91) (fn_91_0) (show decode cX11_isWord 52 = .ok (.getfield 7, 3) by decide +kernel) rfl ?_
  refine am_r_aload_n (nx := 56) rfl rfl (show decode cX11_isWord 55 = .ok (.aload_n 0, 1) by decide +kernel) rfl ?_
  refine am_r_getI (nx := 59) 5 cw11 (by decide) rfl (Or.inl fl_X11_166) (ob_91) (show decode cX11_isWord 56 = .ok (.getfield 166, 3) by decide +kernel) rfl ?_
  refine am_r_iload_n (nx := 60) rfl rfl (show decode cX11_isWord 59 = .ok (.iload_n 3, 1) by decide +kernel) rfl ?_
  refine am_r_iadd (nx := 61) (show decode cX11_isWord 60 = .ok (.iadd, 1) by decide +kernel) rfl ?_
  refine am_r_bald (nx := 62) (sh_92) (am_shle (sh_92)) hi1 hj2 (show decode cX11_isWord 61 = .ok (.baload, 1) by decide +kernel) rfl ?_
  refine am_r_aload_nS (nx := 63) rfl rfl (show decode cX11_isWord 62 = .ok (.aload_n 1, 1) by decide +kernel) rfl ?_
  refine am_r_iload_n (nx := 64) rfl rfl (show decode cX11_isWord 63 = .ok (.iload_n 3, 1) by decide +kernel) rfl ?_
  refine am_r_callT (as := [am_i v3]) (st := [am_i (σ.1 92 ((σ.1 91 5) + v3))]) hc mb_J0_charAt_5068e mv_J0_charAt_5068e (Or.inl ml_X11_195) hi9 rfl rfl rfl (Nat.le_of_ble_eq_true rfl) ⟨Nat.le_refl _, Nat.le_refl _⟩ ⟨Nat.le_refl _, Nat.le_refl _⟩ (show decode cX11_isWord 64 = .ok (.invokevirtual 195, 3) by decide +kernel) ?_
  rintro _ _ ⟨x, σ', rfl, rfl, hq⟩ _
  exact (k x σ' hq)
theorem S_X11_isWord_67 {G : am_G} {d : Nat} {Q : Int → am_D → Prop} {σ : am_D} {v1 : Nat} {v3 : Int} {s0 : Int} {s1 : Int} (hr1 : -2147483648 ≤ s0 ∧ s0 ≤ 2147483647) (hr2 : -2147483648 ≤ s1 ∧ s1 ≤ 2147483647) (k1 : ¬ s0 = s1 → am_X (am_FI G (d + 1) Q) mX11_isWord (0, 0) 74 [some (am_r (some 91)), some (am_s v1), none, some (am_i v3)] [] (am_K0, σ)) (k2 : ¬ (¬ s0 = s1) → am_X (am_FI G (d + 1) Q) mX11_isWord (0, 0) 70 [some (am_r (some 91)), some (am_s v1), none, some (am_i v3)] [] (am_K0, σ)) : am_X (am_FI G (d + 1) Q) mX11_isWord (0, 0) 67 [some (am_r (some 91)), some (am_s v1), none, some (am_i v3)] [am_i s1, am_i s0] (am_K0, σ) := by
  refine am_r_icmp_ne (tg := 74) (nx := 70) (show decode cX11_isWord 67 = .ok (.if_icmp .ne 7, 3) by decide +kernel) (by decide) rfl hr1 hr2 ?_ ?_
  · exact fun q => k1 q
  · exact fun q => k2 q
theorem S_X11_isWord_70 {G : am_G} {d : Nat} {Q : Int → am_D → Prop} {σ : am_D} {v1 : Nat} {v3 : Int}  (k : am_X (am_FI G (d + 1) Q) mX11_isWord (0, 0) 75 [some (am_r (some 91)), some (am_s v1), none, some (am_i v3)] [am_i 1] (am_K0, σ)) : am_X (am_FI G (d + 1) Q) mX11_isWord (0, 0) 70 [some (am_r (some 91)), some (am_s v1), none, some (am_i v3)] [] (am_K0, σ) := by
  refine am_r_iconst (nx := 71) (show decode cX11_isWord 70 = .ok (.iconst 1, 1) by decide +kernel) rfl ?_
  refine am_r_goto (tg := 75) (show decode cX11_isWord 71 = .ok (.goto 4, 3) by decide +kernel) (by decide) ?_
  exact k
theorem S_X11_isWord_74 {G : am_G} {d : Nat} {Q : Int → am_D → Prop} {σ : am_D} {v1 : Nat} {v3 : Int}  (k : am_X (am_FI G (d + 1) Q) mX11_isWord (0, 0) 75 [some (am_r (some 91)), some (am_s v1), none, some (am_i v3)] [am_i 0] (am_K0, σ)) : am_X (am_FI G (d + 1) Q) mX11_isWord (0, 0) 74 [some (am_r (some 91)), some (am_s v1), none, some (am_i v3)] [] (am_K0, σ) := by
  refine am_r_iconst (nx := 75) (show decode cX11_isWord 74 = .ok (.iconst 0, 1) by decide +kernel) rfl ?_
  exact k
theorem S_X11_isWord_75 {G : am_G} {d : Nat} {Q : Int → am_D → Prop} {σ : am_D} {v1 : Nat} {v3 : Int} {s0 : Int}  (k : am_X (am_FI G (d + 1) Q) mX11_isWord (0, 0) 76 [some (am_r (some 91)), some (am_s v1), some (am_i s0), some (am_i v3)] [] (am_K0, σ)) : am_X (am_FI G (d + 1) Q) mX11_isWord (0, 0) 75 [some (am_r (some 91)), some (am_s v1), none, some (am_i v3)] [am_i s0] (am_K0, σ) := by
  refine am_r_istore_n (nx := 76) rfl (by decide) rfl (show decode cX11_isWord 75 = .ok (.istore_n 2, 1) by decide +kernel) rfl ?_
  exact k
theorem S_X11_isWord_76 {G : am_G} {d : Nat} {Q : Int → am_D → Prop} {σ : am_D} {v1 : Nat} {v2 : Int} {v3 : Int}  (k : am_X (am_FI G (d + 1) Q) mX11_isWord (0, 0) 39 [some (am_r (some 91)), some (am_s v1), some (am_i v2), some (am_i (v3 + 1))] [] (am_K0, σ)) : am_X (am_FI G (d + 1) Q) mX11_isWord (0, 0) 76 [some (am_r (some 91)), some (am_s v1), some (am_i v2), some (am_i v3)] [] (am_K0, σ) := by
  refine am_r_iinc (nx := 79) rfl rfl (show decode cX11_isWord 76 = .ok (.iinc 3 1, 3) by decide +kernel) rfl ?_
  refine am_r_goto (tg := 39) (show decode cX11_isWord 79 = .ok (.goto (-40), 3) by decide +kernel) (by decide) ?_
  exact k
theorem S_X11_isWord_82 {G : am_G} {d : Nat} {Q : Int → am_D → Prop} {σ : am_D} {v2 : Int} (hz : v2 = 0 ∨ v2 = 1) (k : Q v2 σ) : am_X (am_FI G (d + 1) Q) mX11_isWord (0, 0) 82 [none, none, some (am_i v2), none] [] (am_K0, σ) := by
  refine am_r_iload_n (nx := 83) rfl rfl (show decode cX11_isWord 82 = .ok (.iload_n 2, 1) by decide +kernel) rfl ?_
  exact am_r_iret rfl (by rcases hz with hz | hz <;> rw [hz] <;> rfl) (show decode cX11_isWord 83 = .ok (.ireturn, 1) by decide +kernel) ⟨_, _, rfl, rfl, k⟩
theorem S_X11_isSign_0 {G : am_G} {d : Nat} {Q : Int → am_D → Prop} {σ : am_D} {v1 : Int} {Q' : Int → am_D → Prop} (hc : am_MI G d mX11_isGood [am_r (some 91)] σ Q') (k : ∀ (x : Int) (σ' : am_D), Q' x σ' → am_X (am_FI G (d + 1) Q) mX11_isSign (0, 0) 4 [some (am_r (some 91)), some (am_i v1)] [am_i x] (am_K0, σ')) : am_X (am_FI G (d + 1) Q) mX11_isSign (0, 0) 0 [some (am_r (some 91)), some (am_i v1)] [] (am_K0, σ) := by
  refine am_r_aload_n (nx := 1) rfl rfl (show decode cX11_isSign 0 = .ok (.aload_n 0, 1) by decide +kernel) rfl ?_
  refine am_r_callV (as := []) (st := []) hc mb_X11_isGood mv_X11_isGood (Or.inl ml_X11_185) (ob_91) (by omega) (r := (RX11, TX11, 63)) rfl rfl rfl rfl (Nat.le_of_ble_eq_true rfl) ⟨Nat.le_refl _, Nat.le_refl _⟩ ⟨Nat.le_refl _, Nat.le_refl _⟩ (show decode cX11_isSign 1 = .ok (.invokevirtual 185, 3) by decide +kernel) ?_
  rintro _ _ ⟨x, σ', rfl, rfl, hq⟩ _
  exact (k x σ' hq)
theorem S_X11_isSign_4 {G : am_G} {d : Nat} {Q : Int → am_D → Prop} {σ : am_D} {v1 : Int} {s0 : Int} (hr1 : -2147483648 ≤ s0 ∧ s0 ≤ 2147483647) (k1 : s0 = 0 → am_X (am_FI G (d + 1) Q) mX11_isSign (0, 0) 32 [none, none] [] (am_K0, σ)) (k2 : ¬ (s0 = 0) → am_X (am_FI G (d + 1) Q) mX11_isSign (0, 0) 7 [some (am_r (some 91)), some (am_i v1)] [] (am_K0, σ)) : am_X (am_FI G (d + 1) Q) mX11_isSign (0, 0) 4 [some (am_r (some 91)), some (am_i v1)] [am_i s0] (am_K0, σ) := by
  refine am_r_if_eq (tg := 32) (nx := 7) (show decode cX11_isSign 4 = .ok (.ifCond .eq 28, 3) by decide +kernel) (by decide) rfl hr1 ?_ ?_
  · exact fun q => am_x_fg [0, 1] (k1 q)
  · exact fun q => k2 q
theorem S_X11_isSign_7 {G : am_G} {d : Nat} {Q : Int → am_D → Prop} {σ : am_D} {v1 : Int} (hr1 : -2147483648 ≤ (σ.1 91 6) ∧ (σ.1 91 6) ≤ 2147483647) (k1 : ¬ (σ.1 91 6) = 3 → am_X (am_FI G (d + 1) Q) mX11_isSign (0, 0) 32 [none, none] [] (am_K0, σ)) (k2 : ¬ (¬ (σ.1 91 6) = 3) → am_X (am_FI G (d + 1) Q) mX11_isSign (0, 0) 15 [some (am_r (some 91)), some (am_i v1)] [] (am_K0, σ)) : am_X (am_FI G (d + 1) Q) mX11_isSign (0, 0) 7 [some (am_r (some 91)), some (am_i v1)] [] (am_K0, σ) := by
  refine am_r_aload_n (nx := 8) rfl rfl (show decode cX11_isSign 7 = .ok (.aload_n 0, 1) by decide +kernel) rfl ?_
  refine am_r_getI (nx := 11) 6 cw11 (by decide) rfl (Or.inl fl_X11_169) (ob_91) (show decode cX11_isSign 8 = .ok (.getfield 169, 3) by decide +kernel) rfl ?_
  refine am_r_iconst (nx := 12) (show decode cX11_isSign 11 = .ok (.iconst 3, 1) by decide +kernel) rfl ?_
  refine am_r_icmp_ne (tg := 32) (nx := 15) (show decode cX11_isSign 12 = .ok (.if_icmp .ne 20, 3) by decide +kernel) (by decide) rfl hr1 (by omega) ?_ ?_
  · exact fun q => am_x_fg [0, 1] (k1 q)
  · exact fun q => k2 q
theorem S_X11_isSign_15 {G : am_G} {d : Nat} {Q : Int → am_D → Prop} {σ : am_D} {v1 : Int} (hi1 : 0 ≤ (σ.1 91 5)) (hj2 : (σ.1 91 5) < 600) (hr3 : -2147483648 ≤ (σ.1 92 (σ.1 91 5)) ∧ (σ.1 92 (σ.1 91 5)) ≤ 2147483647) (hr4 : -2147483648 ≤ v1 ∧ v1 ≤ 2147483647) (k1 : ¬ (σ.1 92 (σ.1 91 5)) = v1 → am_X (am_FI G (d + 1) Q) mX11_isSign (0, 0) 32 [none, none] [] (am_K0, σ)) (k2 : ¬ (¬ (σ.1 92 (σ.1 91 5)) = v1) → am_X (am_FI G (d + 1) Q) mX11_isSign (0, 0) 28 [none, none] [] (am_K0, σ)) : am_X (am_FI G (d + 1) Q) mX11_isSign (0, 0) 15 [some (am_r (some 91)), some (am_i v1)] [] (am_K0, σ) := by
  refine am_r_aload_n (nx := 16) rfl rfl (show decode cX11_isSign 15 = .ok (.aload_n 0, 1) by decide +kernel) rfl ?_
  refine am_r_getF (nx := 19) 0 cw11 (by decide) rfl (Or.inl fl_X11_7) (ob_91) (fn_91_0) (show decode cX11_isSign 16 = .ok (.getfield 7, 3) by decide +kernel) rfl ?_
  refine am_r_aload_n (nx := 20) rfl rfl (show decode cX11_isSign 19 = .ok (.aload_n 0, 1) by decide +kernel) rfl ?_
  refine am_r_getI (nx := 23) 5 cw11 (by decide) rfl (Or.inl fl_X11_166) (ob_91) (show decode cX11_isSign 20 = .ok (.getfield 166, 3) by decide +kernel) rfl ?_
  refine am_r_bald (nx := 24) (sh_92) (am_shle (sh_92)) hi1 hj2 (show decode cX11_isSign 23 = .ok (.baload, 1) by decide +kernel) rfl ?_
  refine am_r_iload_n (nx := 25) rfl rfl (show decode cX11_isSign 24 = .ok (.iload_n 1, 1) by decide +kernel) rfl ?_
  refine am_r_icmp_ne (tg := 32) (nx := 28) (show decode cX11_isSign 25 = .ok (.if_icmp .ne 7, 3) by decide +kernel) (by decide) rfl hr3 hr4 ?_ ?_
  · exact fun q => am_x_fg [0, 1] (k1 q)
  · exact fun q => am_x_fg [0, 1] (k2 q)
theorem S_X11_isSign_28 {G : am_G} {d : Nat} {Q : Int → am_D → Prop} {σ : am_D}   (k : am_X (am_FI G (d + 1) Q) mX11_isSign (0, 0) 33 [none, none] [am_i 1] (am_K0, σ)) : am_X (am_FI G (d + 1) Q) mX11_isSign (0, 0) 28 [none, none] [] (am_K0, σ) := by
  refine am_r_iconst (nx := 29) (show decode cX11_isSign 28 = .ok (.iconst 1, 1) by decide +kernel) rfl ?_
  refine am_r_goto (tg := 33) (show decode cX11_isSign 29 = .ok (.goto 4, 3) by decide +kernel) (by decide) ?_
  exact k
theorem S_X11_isSign_32 {G : am_G} {d : Nat} {Q : Int → am_D → Prop} {σ : am_D}   (k : am_X (am_FI G (d + 1) Q) mX11_isSign (0, 0) 33 [none, none] [am_i 0] (am_K0, σ)) : am_X (am_FI G (d + 1) Q) mX11_isSign (0, 0) 32 [none, none] [] (am_K0, σ) := by
  refine am_r_iconst (nx := 33) (show decode cX11_isSign 32 = .ok (.iconst 0, 1) by decide +kernel) rfl ?_
  exact k
theorem S_X11_isSign_33 {G : am_G} {d : Nat} {Q : Int → am_D → Prop} {σ : am_D} {s0 : Int} (hz : s0 = 0 ∨ s0 = 1) (k : Q s0 σ) : am_X (am_FI G (d + 1) Q) mX11_isSign (0, 0) 33 [none, none] [am_i s0] (am_K0, σ) := by
  exact am_r_iret rfl (by rcases hz with hz | hz <;> rw [hz] <;> rfl) (show decode cX11_isSign 33 = .ok (.ireturn, 1) by decide +kernel) ⟨_, _, rfl, rfl, k⟩
theorem S_X11_sign_0 {G : am_G} {d : Nat} {Q : am_D → Prop} {σ : am_D} {v1 : Int} {Q' : Int → am_D → Prop} (hc : am_MI G d mX11_isSign [am_r (some 91), am_i v1] σ Q') (k : ∀ (x : Int) (σ' : am_D), Q' x σ' → am_X (am_FV G (d + 1) Q) mX11_sign (0, 0) 5 [some (am_r (some 91)), none] [am_i x] (am_K0, σ')) : am_X (am_FV G (d + 1) Q) mX11_sign (0, 0) 0 [some (am_r (some 91)), some (am_i v1)] [] (am_K0, σ) := by
  refine am_r_aload_n (nx := 1) rfl rfl (show decode cX11_sign 0 = .ok (.aload_n 0, 1) by decide +kernel) rfl ?_
  refine am_r_iload_n (nx := 2) rfl rfl (show decode cX11_sign 1 = .ok (.iload_n 1, 1) by decide +kernel) rfl ?_
  refine am_r_callV (as := [am_i v1]) (st := []) hc mb_X11_isSign mv_X11_isSign (Or.inl ml_X11_199) (ob_91) (by omega) (r := (RX11, TX11, 63)) rfl rfl rfl rfl (Nat.le_of_ble_eq_true rfl) ⟨Nat.le_refl _, Nat.le_refl _⟩ ⟨Nat.le_refl _, Nat.le_refl _⟩ (show decode cX11_sign 2 = .ok (.invokevirtual 199, 3) by decide +kernel) ?_
  rintro _ _ ⟨x, σ', rfl, rfl, hq⟩ _
  exact am_x_fg [1] (k x σ' hq)
theorem S_X11_sign_5 {G : am_G} {d : Nat} {Q : am_D → Prop} {σ : am_D} {s0 : Int} (hr1 : -2147483648 ≤ s0 ∧ s0 ≤ 2147483647) (k1 : ¬ s0 = 0 → am_X (am_FV G (d + 1) Q) mX11_sign (0, 0) 16 [some (am_r (some 91)), none] [] (am_K0, σ)) (k2 : ¬ (¬ s0 = 0) → am_X (am_FV G (d + 1) Q) mX11_sign (0, 0) 8 [some (am_r (some 91)), none] [] (am_K0, σ)) : am_X (am_FV G (d + 1) Q) mX11_sign (0, 0) 5 [some (am_r (some 91)), none] [am_i s0] (am_K0, σ) := by
  refine am_r_if_ne (tg := 16) (nx := 8) (show decode cX11_sign 5 = .ok (.ifCond .ne 11, 3) by decide +kernel) (by decide) rfl hr1 ?_ ?_
  · exact fun q => k1 q
  · exact fun q => k2 q
theorem S_X11_sign_8 {G : am_G} {d : Nat} {Q : am_D → Prop} {σ : am_D} {Q' : am_D → Prop} (hc : am_MV G d mX11_fails [am_r (some 91), am_i 1] σ Q') (k : ∀ σ' : am_D, Q' σ' → am_X (am_FV G (d + 1) Q) mX11_sign (0, 0) 13 [none, none] [] (am_K0, σ')) : am_X (am_FV G (d + 1) Q) mX11_sign (0, 0) 8 [some (am_r (some 91)), none] [] (am_K0, σ) := by
  refine am_r_aload_n (nx := 9) rfl rfl (show decode cX11_sign 8 = .ok (.aload_n 0, 1) by decide +kernel) rfl ?_
  refine am_r_iconst (nx := 10) (show decode cX11_sign 9 = .ok (.iconst 1, 1) by decide +kernel) rfl ?_
  refine am_r_callV (as := [am_i 1]) (st := []) hc mb_X11_fails mv_X11_fails (Or.inl ml_X11_202) (ob_91) (by omega) (r := (RX11, TX11, 63)) rfl rfl rfl rfl (Nat.le_of_ble_eq_true rfl) ⟨Nat.le_refl _, Nat.le_refl _⟩ ⟨Nat.le_refl _, Nat.le_refl _⟩ (show decode cX11_sign 10 = .ok (.invokevirtual 202, 3) by decide +kernel) ?_
  rintro _ _ ⟨σ', rfl, rfl, hq⟩ _
  exact am_x_fg [0] (k σ' hq)
theorem S_X11_sign_13 {G : am_G} {d : Nat} {Q : am_D → Prop} {σ : am_D}   (k : am_X (am_FV G (d + 1) Q) mX11_sign (0, 0) 20 [none, none] [] (am_K0, σ)) : am_X (am_FV G (d + 1) Q) mX11_sign (0, 0) 13 [none, none] [] (am_K0, σ) := by
  refine am_r_goto (tg := 20) (show decode cX11_sign 13 = .ok (.goto 7, 3) by decide +kernel) (by decide) ?_
  exact k
theorem S_X11_sign_16 {G : am_G} {d : Nat} {Q : am_D → Prop} {σ : am_D} {Q' : am_D → Prop} (hc : am_MV G d mX11_goes [am_r (some 91)] σ Q') (k : ∀ σ' : am_D, Q' σ' → am_X (am_FV G (d + 1) Q) mX11_sign (0, 0) 20 [none, none] [] (am_K0, σ')) : am_X (am_FV G (d + 1) Q) mX11_sign (0, 0) 16 [some (am_r (some 91)), none] [] (am_K0, σ) := by
  refine am_r_aload_n (nx := 17) rfl rfl (show decode cX11_sign 16 = .ok (.aload_n 0, 1) by decide +kernel) rfl ?_
  refine am_r_callV (as := []) (st := []) hc mb_X11_goes mv_X11_goes (Or.inl ml_X11_182) (ob_91) (by omega) (r := (RX11, TX11, 63)) rfl rfl rfl rfl (Nat.le_of_ble_eq_true rfl) ⟨Nat.le_refl _, Nat.le_refl _⟩ ⟨Nat.le_refl _, Nat.le_refl _⟩ (show decode cX11_sign 17 = .ok (.invokevirtual 182, 3) by decide +kernel) ?_
  rintro _ _ ⟨σ', rfl, rfl, hq⟩ _
  exact am_x_fg [0] (k σ' hq)
theorem S_X11_sign_20 {G : am_G} {d : Nat} {Q : am_D → Prop} {σ : am_D}   (k : Q σ) : am_X (am_FV G (d + 1) Q) mX11_sign (0, 0) 20 [none, none] [] (am_K0, σ) := by
  exact am_r_vret rfl (show decode cX11_sign 20 = .ok (.return_, 1) by decide +kernel) ⟨_, rfl, rfl, k⟩
theorem S_X11_letter_0 {G : am_G} {d : Nat} {Q : Int → am_D → Prop} {σ : am_D} {Q' : Int → am_D → Prop} (hc : am_MI G d mX11_isWord [am_r (some 91), am_s 6] σ Q') (k : ∀ (x : Int) (σ' : am_D), Q' x σ' → am_X (am_FI G (d + 1) Q) mX11_letter (0, 0) 6 [some (am_r (some 91)), none] [am_i x] (am_K0, σ')) : am_X (am_FI G (d + 1) Q) mX11_letter (0, 0) 0 [some (am_r (some 91)), none] [] (am_K0, σ) := by
  refine am_r_aload_n (nx := 1) rfl rfl (show decode cX11_letter 0 = .ok (.aload_n 0, 1) by decide +kernel) rfl ?_
  refine am_r_ldcS (nx := 3) (i := 6) (tx := "a") (by decide +kernel) (show decode cX11_letter 1 = .ok (.ldc 205, 2) by decide +kernel) rfl ?_
  refine am_r_callV (as := [am_s 6]) (st := []) hc mb_X11_isWord mv_X11_isWord (Or.inl ml_X11_207) (ob_91) (by omega) (r := (RX11, TX11, 63)) rfl rfl rfl rfl (Nat.le_of_ble_eq_true rfl) ⟨Nat.le_refl _, Nat.le_refl _⟩ ⟨Nat.le_refl _, Nat.le_refl _⟩ (show decode cX11_letter 3 = .ok (.invokevirtual 207, 3) by decide +kernel) ?_
  rintro _ _ ⟨x, σ', rfl, rfl, hq⟩ _
  exact (k x σ' hq)
theorem S_X11_letter_6 {G : am_G} {d : Nat} {Q : Int → am_D → Prop} {σ : am_D} {s0 : Int} (hr1 : -2147483648 ≤ s0 ∧ s0 ≤ 2147483647) (k1 : s0 = 0 → am_X (am_FI G (d + 1) Q) mX11_letter (0, 0) 13 [some (am_r (some 91)), none] [] (am_K0, σ)) (k2 : ¬ (s0 = 0) → am_X (am_FI G (d + 1) Q) mX11_letter (0, 0) 9 [some (am_r (some 91)), none] [] (am_K0, σ)) : am_X (am_FI G (d + 1) Q) mX11_letter (0, 0) 6 [some (am_r (some 91)), none] [am_i s0] (am_K0, σ) := by
  refine am_r_if_eq (tg := 13) (nx := 9) (show decode cX11_letter 6 = .ok (.ifCond .eq 7, 3) by decide +kernel) (by decide) rfl hr1 ?_ ?_
  · exact fun q => k1 q
  · exact fun q => k2 q
theorem S_X11_letter_9 {G : am_G} {d : Nat} {Q : Int → am_D → Prop} {σ : am_D}   (k : am_X (am_FI G (d + 1) Q) mX11_letter (0, 0) 40 [some (am_r (some 91)), none] [am_i 0] (am_K0, σ)) : am_X (am_FI G (d + 1) Q) mX11_letter (0, 0) 9 [some (am_r (some 91)), none] [] (am_K0, σ) := by
  refine am_r_iconst (nx := 10) (show decode cX11_letter 9 = .ok (.iconst 0, 1) by decide +kernel) rfl ?_
  refine am_r_goto (tg := 40) (show decode cX11_letter 10 = .ok (.goto 30, 3) by decide +kernel) (by decide) ?_
  exact k
theorem S_X11_letter_13 {G : am_G} {d : Nat} {Q : Int → am_D → Prop} {σ : am_D} {Q' : Int → am_D → Prop} (hc : am_MI G d mX11_isWord [am_r (some 91), am_s 7] σ Q') (k : ∀ (x : Int) (σ' : am_D), Q' x σ' → am_X (am_FI G (d + 1) Q) mX11_letter (0, 0) 19 [some (am_r (some 91)), none] [am_i x] (am_K0, σ')) : am_X (am_FI G (d + 1) Q) mX11_letter (0, 0) 13 [some (am_r (some 91)), none] [] (am_K0, σ) := by
  refine am_r_aload_n (nx := 14) rfl rfl (show decode cX11_letter 13 = .ok (.aload_n 0, 1) by decide +kernel) rfl ?_
  refine am_r_ldcS (nx := 16) (i := 7) (tx := "b") (by decide +kernel) (show decode cX11_letter 14 = .ok (.ldc 211, 2) by decide +kernel) rfl ?_
  refine am_r_callV (as := [am_s 7]) (st := []) hc mb_X11_isWord mv_X11_isWord (Or.inl ml_X11_207) (ob_91) (by omega) (r := (RX11, TX11, 63)) rfl rfl rfl rfl (Nat.le_of_ble_eq_true rfl) ⟨Nat.le_refl _, Nat.le_refl _⟩ ⟨Nat.le_refl _, Nat.le_refl _⟩ (show decode cX11_letter 16 = .ok (.invokevirtual 207, 3) by decide +kernel) ?_
  rintro _ _ ⟨x, σ', rfl, rfl, hq⟩ _
  exact (k x σ' hq)
theorem S_X11_letter_19 {G : am_G} {d : Nat} {Q : Int → am_D → Prop} {σ : am_D} {s0 : Int} (hr1 : -2147483648 ≤ s0 ∧ s0 ≤ 2147483647) (k1 : s0 = 0 → am_X (am_FI G (d + 1) Q) mX11_letter (0, 0) 26 [some (am_r (some 91)), none] [] (am_K0, σ)) (k2 : ¬ (s0 = 0) → am_X (am_FI G (d + 1) Q) mX11_letter (0, 0) 22 [some (am_r (some 91)), none] [] (am_K0, σ)) : am_X (am_FI G (d + 1) Q) mX11_letter (0, 0) 19 [some (am_r (some 91)), none] [am_i s0] (am_K0, σ) := by
  refine am_r_if_eq (tg := 26) (nx := 22) (show decode cX11_letter 19 = .ok (.ifCond .eq 7, 3) by decide +kernel) (by decide) rfl hr1 ?_ ?_
  · exact fun q => k1 q
  · exact fun q => k2 q
theorem S_X11_letter_22 {G : am_G} {d : Nat} {Q : Int → am_D → Prop} {σ : am_D}   (k : am_X (am_FI G (d + 1) Q) mX11_letter (0, 0) 40 [some (am_r (some 91)), none] [am_i 1] (am_K0, σ)) : am_X (am_FI G (d + 1) Q) mX11_letter (0, 0) 22 [some (am_r (some 91)), none] [] (am_K0, σ) := by
  refine am_r_iconst (nx := 23) (show decode cX11_letter 22 = .ok (.iconst 1, 1) by decide +kernel) rfl ?_
  refine am_r_goto (tg := 40) (show decode cX11_letter 23 = .ok (.goto 17, 3) by decide +kernel) (by decide) ?_
  exact k
theorem S_X11_letter_26 {G : am_G} {d : Nat} {Q : Int → am_D → Prop} {σ : am_D} {Q' : Int → am_D → Prop} (hc : am_MI G d mX11_isWord [am_r (some 91), am_s 8] σ Q') (k : ∀ (x : Int) (σ' : am_D), Q' x σ' → am_X (am_FI G (d + 1) Q) mX11_letter (0, 0) 32 [some (am_r (some 91)), none] [am_i x] (am_K0, σ')) : am_X (am_FI G (d + 1) Q) mX11_letter (0, 0) 26 [some (am_r (some 91)), none] [] (am_K0, σ) := by
  refine am_r_aload_n (nx := 27) rfl rfl (show decode cX11_letter 26 = .ok (.aload_n 0, 1) by decide +kernel) rfl ?_
  refine am_r_ldcS (nx := 29) (i := 8) (tx := "c") (by decide +kernel) (show decode cX11_letter 27 = .ok (.ldc 213, 2) by decide +kernel) rfl ?_
  refine am_r_callV (as := [am_s 8]) (st := []) hc mb_X11_isWord mv_X11_isWord (Or.inl ml_X11_207) (ob_91) (by omega) (r := (RX11, TX11, 63)) rfl rfl rfl rfl (Nat.le_of_ble_eq_true rfl) ⟨Nat.le_refl _, Nat.le_refl _⟩ ⟨Nat.le_refl _, Nat.le_refl _⟩ (show decode cX11_letter 29 = .ok (.invokevirtual 207, 3) by decide +kernel) ?_
  rintro _ _ ⟨x, σ', rfl, rfl, hq⟩ _
  exact (k x σ' hq)
theorem S_X11_letter_32 {G : am_G} {d : Nat} {Q : Int → am_D → Prop} {σ : am_D} {s0 : Int} (hr1 : -2147483648 ≤ s0 ∧ s0 ≤ 2147483647) (k1 : s0 = 0 → am_X (am_FI G (d + 1) Q) mX11_letter (0, 0) 39 [some (am_r (some 91)), none] [] (am_K0, σ)) (k2 : ¬ (s0 = 0) → am_X (am_FI G (d + 1) Q) mX11_letter (0, 0) 35 [some (am_r (some 91)), none] [] (am_K0, σ)) : am_X (am_FI G (d + 1) Q) mX11_letter (0, 0) 32 [some (am_r (some 91)), none] [am_i s0] (am_K0, σ) := by
  refine am_r_if_eq (tg := 39) (nx := 35) (show decode cX11_letter 32 = .ok (.ifCond .eq 7, 3) by decide +kernel) (by decide) rfl hr1 ?_ ?_
  · exact fun q => k1 q
  · exact fun q => k2 q
theorem S_X11_letter_35 {G : am_G} {d : Nat} {Q : Int → am_D → Prop} {σ : am_D}   (k : am_X (am_FI G (d + 1) Q) mX11_letter (0, 0) 40 [some (am_r (some 91)), none] [am_i 2] (am_K0, σ)) : am_X (am_FI G (d + 1) Q) mX11_letter (0, 0) 35 [some (am_r (some 91)), none] [] (am_K0, σ) := by
  refine am_r_iconst (nx := 36) (show decode cX11_letter 35 = .ok (.iconst 2, 1) by decide +kernel) rfl ?_
  refine am_r_goto (tg := 40) (show decode cX11_letter 36 = .ok (.goto 4, 3) by decide +kernel) (by decide) ?_
  exact k
theorem S_X11_letter_39 {G : am_G} {d : Nat} {Q : Int → am_D → Prop} {σ : am_D}   (k : am_X (am_FI G (d + 1) Q) mX11_letter (0, 0) 40 [some (am_r (some 91)), none] [am_i (-1)] (am_K0, σ)) : am_X (am_FI G (d + 1) Q) mX11_letter (0, 0) 39 [some (am_r (some 91)), none] [] (am_K0, σ) := by
  refine am_r_iconst (nx := 40) (show decode cX11_letter 39 = .ok (.iconst (-1), 1) by decide +kernel) rfl ?_
  exact k
theorem S_X11_letter_40 {G : am_G} {d : Nat} {Q : Int → am_D → Prop} {σ : am_D} {s0 : Int}  (k : am_X (am_FI G (d + 1) Q) mX11_letter (0, 0) 41 [some (am_r (some 91)), some (am_i s0)] [] (am_K0, σ)) : am_X (am_FI G (d + 1) Q) mX11_letter (0, 0) 40 [some (am_r (some 91)), none] [am_i s0] (am_K0, σ) := by
  refine am_r_istore_n (nx := 41) rfl (by decide) rfl (show decode cX11_letter 40 = .ok (.istore_n 1, 1) by decide +kernel) rfl ?_
  exact k
theorem S_X11_letter_41 {G : am_G} {d : Nat} {Q : Int → am_D → Prop} {σ : am_D} {v1 : Int} (hr1 : -2147483648 ≤ v1 ∧ v1 ≤ 2147483647) (k1 : ¬ v1 = (-1) → am_X (am_FI G (d + 1) Q) mX11_letter (0, 0) 54 [some (am_r (some 91)), some (am_i v1)] [] (am_K0, σ)) (k2 : ¬ (¬ v1 = (-1)) → am_X (am_FI G (d + 1) Q) mX11_letter (0, 0) 46 [some (am_r (some 91)), some (am_i v1)] [] (am_K0, σ)) : am_X (am_FI G (d + 1) Q) mX11_letter (0, 0) 41 [some (am_r (some 91)), some (am_i v1)] [] (am_K0, σ) := by
  refine am_r_iload_n (nx := 42) rfl rfl (show decode cX11_letter 41 = .ok (.iload_n 1, 1) by decide +kernel) rfl ?_
  refine am_r_iconst (nx := 43) (show decode cX11_letter 42 = .ok (.iconst (-1), 1) by decide +kernel) rfl ?_
  refine am_r_icmp_ne (tg := 54) (nx := 46) (show decode cX11_letter 43 = .ok (.if_icmp .ne 11, 3) by decide +kernel) (by decide) rfl hr1 (by omega) ?_ ?_
  · exact fun q => k1 q
  · exact fun q => k2 q
theorem S_X11_letter_46 {G : am_G} {d : Nat} {Q : Int → am_D → Prop} {σ : am_D} {v1 : Int} {Q' : am_D → Prop} (hc : am_MV G d mX11_fails [am_r (some 91), am_i 1] σ Q') (k : ∀ σ' : am_D, Q' σ' → am_X (am_FI G (d + 1) Q) mX11_letter (0, 0) 51 [none, some (am_i v1)] [] (am_K0, σ')) : am_X (am_FI G (d + 1) Q) mX11_letter (0, 0) 46 [some (am_r (some 91)), some (am_i v1)] [] (am_K0, σ) := by
  refine am_r_aload_n (nx := 47) rfl rfl (show decode cX11_letter 46 = .ok (.aload_n 0, 1) by decide +kernel) rfl ?_
  refine am_r_iconst (nx := 48) (show decode cX11_letter 47 = .ok (.iconst 1, 1) by decide +kernel) rfl ?_
  refine am_r_callV (as := [am_i 1]) (st := []) hc mb_X11_fails mv_X11_fails (Or.inl ml_X11_202) (ob_91) (by omega) (r := (RX11, TX11, 63)) rfl rfl rfl rfl (Nat.le_of_ble_eq_true rfl) ⟨Nat.le_refl _, Nat.le_refl _⟩ ⟨Nat.le_refl _, Nat.le_refl _⟩ (show decode cX11_letter 48 = .ok (.invokevirtual 202, 3) by decide +kernel) ?_
  rintro _ _ ⟨σ', rfl, rfl, hq⟩ _
  exact am_x_fg [0] (k σ' hq)
theorem S_X11_letter_51 {G : am_G} {d : Nat} {Q : Int → am_D → Prop} {σ : am_D} {v1 : Int}  (k : am_X (am_FI G (d + 1) Q) mX11_letter (0, 0) 58 [none, some (am_i v1)] [] (am_K0, σ)) : am_X (am_FI G (d + 1) Q) mX11_letter (0, 0) 51 [none, some (am_i v1)] [] (am_K0, σ) := by
  refine am_r_goto (tg := 58) (show decode cX11_letter 51 = .ok (.goto 7, 3) by decide +kernel) (by decide) ?_
  exact k
theorem S_X11_letter_54 {G : am_G} {d : Nat} {Q : Int → am_D → Prop} {σ : am_D} {v1 : Int} {Q' : am_D → Prop} (hc : am_MV G d mX11_goes [am_r (some 91)] σ Q') (k : ∀ σ' : am_D, Q' σ' → am_X (am_FI G (d + 1) Q) mX11_letter (0, 0) 58 [none, some (am_i v1)] [] (am_K0, σ')) : am_X (am_FI G (d + 1) Q) mX11_letter (0, 0) 54 [some (am_r (some 91)), some (am_i v1)] [] (am_K0, σ) := by
  refine am_r_aload_n (nx := 55) rfl rfl (show decode cX11_letter 54 = .ok (.aload_n 0, 1) by decide +kernel) rfl ?_
  refine am_r_callV (as := []) (st := []) hc mb_X11_goes mv_X11_goes (Or.inl ml_X11_182) (ob_91) (by omega) (r := (RX11, TX11, 63)) rfl rfl rfl rfl (Nat.le_of_ble_eq_true rfl) ⟨Nat.le_refl _, Nat.le_refl _⟩ ⟨Nat.le_refl _, Nat.le_refl _⟩ (show decode cX11_letter 55 = .ok (.invokevirtual 182, 3) by decide +kernel) ?_
  rintro _ _ ⟨σ', rfl, rfl, hq⟩ _
  exact am_x_fg [0] (k σ' hq)
theorem S_X11_letter_58 {G : am_G} {d : Nat} {Q : Int → am_D → Prop} {σ : am_D} {v1 : Int}  (k : Q v1 σ) : am_X (am_FI G (d + 1) Q) mX11_letter (0, 0) 58 [none, some (am_i v1)] [] (am_K0, σ) := by
  refine am_r_iload_n (nx := 59) rfl rfl (show decode cX11_letter 58 = .ok (.iload_n 1, 1) by decide +kernel) rfl ?_
  exact am_r_iret rfl rfl (show decode cX11_letter 59 = .ok (.ireturn, 1) by decide +kernel) ⟨_, _, rfl, rfl, k⟩
theorem S_X11_digit_0 {G : am_G} {d : Nat} {Q : Int → am_D → Prop} {σ : am_D} {v1 : Int} {v2 : Int} {Q' : Int → am_D → Prop} (hc : am_MI G d mX11_isGood [am_r (some 91)] σ Q') (k : ∀ (x : Int) (σ' : am_D), Q' x σ' → am_X (am_FI G (d + 1) Q) mX11_digit (0, 0) 4 [some (am_r (some 91)), some (am_i v1), some (am_i v2), none] [am_i x] (am_K0, σ')) : am_X (am_FI G (d + 1) Q) mX11_digit (0, 0) 0 [some (am_r (some 91)), some (am_i v1), some (am_i v2), none] [] (am_K0, σ) := by
  refine am_r_aload_n (nx := 1) rfl rfl (show decode cX11_digit 0 = .ok (.aload_n 0, 1) by decide +kernel) rfl ?_
  refine am_r_callV (as := []) (st := []) hc mb_X11_isGood mv_X11_isGood (Or.inl ml_X11_185) (ob_91) (by omega) (r := (RX11, TX11, 63)) rfl rfl rfl rfl (Nat.le_of_ble_eq_true rfl) ⟨Nat.le_refl _, Nat.le_refl _⟩ ⟨Nat.le_refl _, Nat.le_refl _⟩ (show decode cX11_digit 1 = .ok (.invokevirtual 185, 3) by decide +kernel) ?_
  rintro _ _ ⟨x, σ', rfl, rfl, hq⟩ _
  exact (k x σ' hq)
theorem S_X11_digit_4 {G : am_G} {d : Nat} {Q : Int → am_D → Prop} {σ : am_D} {v1 : Int} {v2 : Int} {s0 : Int} (hr1 : -2147483648 ≤ s0 ∧ s0 ≤ 2147483647) (k1 : s0 = 0 → am_X (am_FI G (d + 1) Q) mX11_digit (0, 0) 28 [some (am_r (some 91)), some (am_i v1), none, none] [] (am_K0, σ)) (k2 : ¬ (s0 = 0) → am_X (am_FI G (d + 1) Q) mX11_digit (0, 0) 7 [some (am_r (some 91)), some (am_i v1), some (am_i v2), none] [] (am_K0, σ)) : am_X (am_FI G (d + 1) Q) mX11_digit (0, 0) 4 [some (am_r (some 91)), some (am_i v1), some (am_i v2), none] [am_i s0] (am_K0, σ) := by
  refine am_r_if_eq (tg := 28) (nx := 7) (show decode cX11_digit 4 = .ok (.ifCond .eq 24, 3) by decide +kernel) (by decide) rfl hr1 ?_ ?_
  · exact fun q => am_x_fg [2] (k1 q)
  · exact fun q => k2 q
theorem S_X11_digit_7 {G : am_G} {d : Nat} {Q : Int → am_D → Prop} {σ : am_D} {v1 : Int} {v2 : Int} (hr1 : -2147483648 ≤ (σ.1 91 6) ∧ (σ.1 91 6) ≤ 2147483647) (k1 : ¬ (σ.1 91 6) = 2 → am_X (am_FI G (d + 1) Q) mX11_digit (0, 0) 28 [some (am_r (some 91)), some (am_i v1), none, none] [] (am_K0, σ)) (k2 : ¬ (¬ (σ.1 91 6) = 2) → am_X (am_FI G (d + 1) Q) mX11_digit (0, 0) 15 [some (am_r (some 91)), some (am_i v1), some (am_i v2), none] [] (am_K0, σ)) : am_X (am_FI G (d + 1) Q) mX11_digit (0, 0) 7 [some (am_r (some 91)), some (am_i v1), some (am_i v2), none] [] (am_K0, σ) := by
  refine am_r_aload_n (nx := 8) rfl rfl (show decode cX11_digit 7 = .ok (.aload_n 0, 1) by decide +kernel) rfl ?_
  refine am_r_getI (nx := 11) 6 cw11 (by decide) rfl (Or.inl fl_X11_169) (ob_91) (show decode cX11_digit 8 = .ok (.getfield 169, 3) by decide +kernel) rfl ?_
  refine am_r_iconst (nx := 12) (show decode cX11_digit 11 = .ok (.iconst 2, 1) by decide +kernel) rfl ?_
  refine am_r_icmp_ne (tg := 28) (nx := 15) (show decode cX11_digit 12 = .ok (.if_icmp .ne 16, 3) by decide +kernel) (by decide) rfl hr1 (by omega) ?_ ?_
  · exact fun q => am_x_fg [2] (k1 q)
  · exact fun q => k2 q
theorem S_X11_digit_15 {G : am_G} {d : Nat} {Q : Int → am_D → Prop} {σ : am_D} {v1 : Int} {v2 : Int} (hr1 : -2147483648 ≤ ((σ.1 91 4) - (σ.1 91 5)) ∧ ((σ.1 91 4) - (σ.1 91 5)) ≤ 2147483647) (k1 : ((σ.1 91 4) - (σ.1 91 5)) = 1 → am_X (am_FI G (d + 1) Q) mX11_digit (0, 0) 35 [some (am_r (some 91)), some (am_i v1), some (am_i v2), none] [] (am_K0, σ)) (k2 : ¬ (((σ.1 91 4) - (σ.1 91 5)) = 1) → am_X (am_FI G (d + 1) Q) mX11_digit (0, 0) 28 [some (am_r (some 91)), some (am_i v1), none, none] [] (am_K0, σ)) : am_X (am_FI G (d + 1) Q) mX11_digit (0, 0) 15 [some (am_r (some 91)), some (am_i v1), some (am_i v2), none] [] (am_K0, σ) := by
  refine am_r_aload_n (nx := 16) rfl rfl (show decode cX11_digit 15 = .ok (.aload_n 0, 1) by decide +kernel) rfl ?_
  refine am_r_getI (nx := 19) 4 cw11 (by decide) rfl (Or.inl fl_X11_160) (ob_91) (show decode cX11_digit 16 = .ok (.getfield 160, 3) by decide +kernel) rfl ?_
  refine am_r_aload_n (nx := 20) rfl rfl (show decode cX11_digit 19 = .ok (.aload_n 0, 1) by decide +kernel) rfl ?_
  refine am_r_getI (nx := 23) 5 cw11 (by decide) rfl (Or.inl fl_X11_166) (ob_91) (show decode cX11_digit 20 = .ok (.getfield 166, 3) by decide +kernel) rfl ?_
  refine am_r_isub (nx := 24) (show decode cX11_digit 23 = .ok (.isub, 1) by decide +kernel) rfl ?_
  refine am_r_iconst (nx := 25) (show decode cX11_digit 24 = .ok (.iconst 1, 1) by decide +kernel) rfl ?_
  refine am_r_icmp_eq (tg := 35) (nx := 28) (show decode cX11_digit 25 = .ok (.if_icmp .eq 10, 3) by decide +kernel) (by decide) rfl hr1 (by omega) ?_ ?_
  · exact fun q => k1 q
  · exact fun q => am_x_fg [2] (k2 q)
theorem S_X11_digit_28 {G : am_G} {d : Nat} {Q : Int → am_D → Prop} {σ : am_D} {v1 : Int} {Q' : am_D → Prop} (hc : am_MV G d mX11_fails [am_r (some 91), am_i 1] σ Q') (k : ∀ σ' : am_D, Q' σ' → am_X (am_FI G (d + 1) Q) mX11_digit (0, 0) 33 [none, some (am_i v1), none, none] [] (am_K0, σ')) : am_X (am_FI G (d + 1) Q) mX11_digit (0, 0) 28 [some (am_r (some 91)), some (am_i v1), none, none] [] (am_K0, σ) := by
  refine am_r_aload_n (nx := 29) rfl rfl (show decode cX11_digit 28 = .ok (.aload_n 0, 1) by decide +kernel) rfl ?_
  refine am_r_iconst (nx := 30) (show decode cX11_digit 29 = .ok (.iconst 1, 1) by decide +kernel) rfl ?_
  refine am_r_callV (as := [am_i 1]) (st := []) hc mb_X11_fails mv_X11_fails (Or.inl ml_X11_202) (ob_91) (by omega) (r := (RX11, TX11, 63)) rfl rfl rfl rfl (Nat.le_of_ble_eq_true rfl) ⟨Nat.le_refl _, Nat.le_refl _⟩ ⟨Nat.le_refl _, Nat.le_refl _⟩ (show decode cX11_digit 30 = .ok (.invokevirtual 202, 3) by decide +kernel) ?_
  rintro _ _ ⟨σ', rfl, rfl, hq⟩ _
  exact am_x_fg [0] (k σ' hq)
theorem S_X11_digit_33 {G : am_G} {d : Nat} {Q : Int → am_D → Prop} {σ : am_D} {v1 : Int}  (k : Q v1 σ) : am_X (am_FI G (d + 1) Q) mX11_digit (0, 0) 33 [none, some (am_i v1), none, none] [] (am_K0, σ) := by
  refine am_r_iload_n (nx := 34) rfl rfl (show decode cX11_digit 33 = .ok (.iload_n 1, 1) by decide +kernel) rfl ?_
  exact am_r_iret rfl rfl (show decode cX11_digit 34 = .ok (.ireturn, 1) by decide +kernel) ⟨_, _, rfl, rfl, k⟩
theorem S_X11_digit_35 {G : am_G} {d : Nat} {Q : Int → am_D → Prop} {σ : am_D} {v1 : Int} {v2 : Int} (hi1 : 0 ≤ (σ.1 91 5)) (hj2 : (σ.1 91 5) < 600) (k : am_X (am_FI G (d + 1) Q) mX11_digit (0, 0) 48 [some (am_r (some 91)), some (am_i v1), some (am_i v2), some (am_i ((σ.1 92 (σ.1 91 5)) - 48))] [] (am_K0, σ)) : am_X (am_FI G (d + 1) Q) mX11_digit (0, 0) 35 [some (am_r (some 91)), some (am_i v1), some (am_i v2), none] [] (am_K0, σ) := by
  refine am_r_aload_n (nx := 36) rfl rfl (show decode cX11_digit 35 = .ok (.aload_n 0, 1) by decide +kernel) rfl ?_
  refine am_r_getF (nx := 39) 0 cw11 (by decide) rfl (Or.inl fl_X11_7) (ob_91) (fn_91_0) (show decode cX11_digit 36 = .ok (.getfield 7, 3) by decide +kernel) rfl ?_
  refine am_r_aload_n (nx := 40) rfl rfl (show decode cX11_digit 39 = .ok (.aload_n 0, 1) by decide +kernel) rfl ?_
  refine am_r_getI (nx := 43) 5 cw11 (by decide) rfl (Or.inl fl_X11_166) (ob_91) (show decode cX11_digit 40 = .ok (.getfield 166, 3) by decide +kernel) rfl ?_
  refine am_r_bald (nx := 44) (sh_92) (am_shle (sh_92)) hi1 hj2 (show decode cX11_digit 43 = .ok (.baload, 1) by decide +kernel) rfl ?_
  refine am_r_bipush (nx := 46) rfl (show decode cX11_digit 44 = .ok (.bipush 48, 2) by decide +kernel) rfl ?_
  refine am_r_isub (nx := 47) (show decode cX11_digit 46 = .ok (.isub, 1) by decide +kernel) rfl ?_
  refine am_r_istore_n (nx := 48) rfl (by decide) rfl (show decode cX11_digit 47 = .ok (.istore_n 3, 1) by decide +kernel) rfl ?_
  exact k
theorem S_X11_digit_48 {G : am_G} {d : Nat} {Q : Int → am_D → Prop} {σ : am_D} {v1 : Int} {v2 : Int} {v3 : Int} {Q' : Int → am_D → Prop} (hc : am_MI G d mX11_isIn [am_i v3, am_i v1, am_i v2] σ Q') (k : ∀ (x : Int) (σ' : am_D), Q' x σ' → am_X (am_FI G (d + 1) Q) mX11_digit (0, 0) 54 [some (am_r (some 91)), some (am_i v1), none, some (am_i v3)] [am_i x] (am_K0, σ')) : am_X (am_FI G (d + 1) Q) mX11_digit (0, 0) 48 [some (am_r (some 91)), some (am_i v1), some (am_i v2), some (am_i v3)] [] (am_K0, σ) := by
  refine am_r_iload_n (nx := 49) rfl rfl (show decode cX11_digit 48 = .ok (.iload_n 3, 1) by decide +kernel) rfl ?_
  refine am_r_iload_n (nx := 50) rfl rfl (show decode cX11_digit 49 = .ok (.iload_n 1, 1) by decide +kernel) rfl ?_
  refine am_r_iload_n (nx := 51) rfl rfl (show decode cX11_digit 50 = .ok (.iload_n 2, 1) by decide +kernel) rfl ?_
  refine am_r_callS (as := [am_i v3, am_i v1, am_i v2]) (st := []) hc mb_X11_isIn mv_X11_isIn (Or.inl ml_X11_156) rfl rfl (Nat.le_of_ble_eq_true rfl) ⟨Nat.le_refl _, Nat.le_refl _⟩ ⟨Nat.le_refl _, Nat.le_refl _⟩ (show decode cX11_digit 51 = .ok (.invokestatic 156, 3) by decide +kernel) ?_
  rintro _ _ ⟨x, σ', rfl, rfl, hq⟩ _
  exact am_x_fg [2] (k x σ' hq)
theorem S_X11_digit_54 {G : am_G} {d : Nat} {Q : Int → am_D → Prop} {σ : am_D} {v1 : Int} {v3 : Int} {s0 : Int} (hr1 : -2147483648 ≤ s0 ∧ s0 ≤ 2147483647) (k1 : ¬ s0 = 0 → am_X (am_FI G (d + 1) Q) mX11_digit (0, 0) 62 [some (am_r (some 91)), some (am_i v1), none, some (am_i v3)] [] (am_K0, σ)) (k2 : ¬ (¬ s0 = 0) → am_X (am_FI G (d + 1) Q) mX11_digit (0, 0) 57 [some (am_r (some 91)), some (am_i v1), none, some (am_i v3)] [] (am_K0, σ)) : am_X (am_FI G (d + 1) Q) mX11_digit (0, 0) 54 [some (am_r (some 91)), some (am_i v1), none, some (am_i v3)] [am_i s0] (am_K0, σ) := by
  refine am_r_if_ne (tg := 62) (nx := 57) (show decode cX11_digit 54 = .ok (.ifCond .ne 8, 3) by decide +kernel) (by decide) rfl hr1 ?_ ?_
  · exact fun q => k1 q
  · exact fun q => k2 q
theorem S_X11_digit_57 {G : am_G} {d : Nat} {Q : Int → am_D → Prop} {σ : am_D} {v1 : Int} {v3 : Int} {Q' : am_D → Prop} (hc : am_MV G d mX11_fails [am_r (some 91), am_i 2] σ Q') (k : ∀ σ' : am_D, Q' σ' → am_X (am_FI G (d + 1) Q) mX11_digit (0, 0) 62 [some (am_r (some 91)), some (am_i v1), none, some (am_i v3)] [] (am_K0, σ')) : am_X (am_FI G (d + 1) Q) mX11_digit (0, 0) 57 [some (am_r (some 91)), some (am_i v1), none, some (am_i v3)] [] (am_K0, σ) := by
  refine am_r_aload_n (nx := 58) rfl rfl (show decode cX11_digit 57 = .ok (.aload_n 0, 1) by decide +kernel) rfl ?_
  refine am_r_iconst (nx := 59) (show decode cX11_digit 58 = .ok (.iconst 2, 1) by decide +kernel) rfl ?_
  refine am_r_callV (as := [am_i 2]) (st := []) hc mb_X11_fails mv_X11_fails (Or.inl ml_X11_202) (ob_91) (by omega) (r := (RX11, TX11, 63)) rfl rfl rfl rfl (Nat.le_of_ble_eq_true rfl) ⟨Nat.le_refl _, Nat.le_refl _⟩ ⟨Nat.le_refl _, Nat.le_refl _⟩ (show decode cX11_digit 59 = .ok (.invokevirtual 202, 3) by decide +kernel) ?_
  rintro _ _ ⟨σ', rfl, rfl, hq⟩ _
  exact (k σ' hq)
theorem S_X11_digit_62 {G : am_G} {d : Nat} {Q : Int → am_D → Prop} {σ : am_D} {v1 : Int} {v3 : Int} {Q' : Int → am_D → Prop} (hc : am_MI G d mX11_isGood [am_r (some 91)] σ Q') (k : ∀ (x : Int) (σ' : am_D), Q' x σ' → am_X (am_FI G (d + 1) Q) mX11_digit (0, 0) 66 [none, some (am_i v1), none, some (am_i v3)] [am_i x] (am_K0, σ')) : am_X (am_FI G (d + 1) Q) mX11_digit (0, 0) 62 [some (am_r (some 91)), some (am_i v1), none, some (am_i v3)] [] (am_K0, σ) := by
  refine am_r_aload_n (nx := 63) rfl rfl (show decode cX11_digit 62 = .ok (.aload_n 0, 1) by decide +kernel) rfl ?_
  refine am_r_callV (as := []) (st := []) hc mb_X11_isGood mv_X11_isGood (Or.inl ml_X11_185) (ob_91) (by omega) (r := (RX11, TX11, 63)) rfl rfl rfl rfl (Nat.le_of_ble_eq_true rfl) ⟨Nat.le_refl _, Nat.le_refl _⟩ ⟨Nat.le_refl _, Nat.le_refl _⟩ (show decode cX11_digit 63 = .ok (.invokevirtual 185, 3) by decide +kernel) ?_
  rintro _ _ ⟨x, σ', rfl, rfl, hq⟩ _
  exact am_x_fg [0] (k x σ' hq)
theorem S_X11_digit_66 {G : am_G} {d : Nat} {Q : Int → am_D → Prop} {σ : am_D} {v1 : Int} {v3 : Int} {s0 : Int} (hr1 : -2147483648 ≤ s0 ∧ s0 ≤ 2147483647) (k1 : s0 = 0 → am_X (am_FI G (d + 1) Q) mX11_digit (0, 0) 73 [none, some (am_i v1), none, none] [] (am_K0, σ)) (k2 : ¬ (s0 = 0) → am_X (am_FI G (d + 1) Q) mX11_digit (0, 0) 69 [none, none, none, some (am_i v3)] [] (am_K0, σ)) : am_X (am_FI G (d + 1) Q) mX11_digit (0, 0) 66 [none, some (am_i v1), none, some (am_i v3)] [am_i s0] (am_K0, σ) := by
  refine am_r_if_eq (tg := 73) (nx := 69) (show decode cX11_digit 66 = .ok (.ifCond .eq 7, 3) by decide +kernel) (by decide) rfl hr1 ?_ ?_
  · exact fun q => am_x_fg [3] (k1 q)
  · exact fun q => am_x_fg [1] (k2 q)
theorem S_X11_digit_69 {G : am_G} {d : Nat} {Q : Int → am_D → Prop} {σ : am_D} {v3 : Int}  (k : am_X (am_FI G (d + 1) Q) mX11_digit (0, 0) 74 [none, none, none, none] [am_i v3] (am_K0, σ)) : am_X (am_FI G (d + 1) Q) mX11_digit (0, 0) 69 [none, none, none, some (am_i v3)] [] (am_K0, σ) := by
  refine am_r_iload_n (nx := 70) rfl rfl (show decode cX11_digit 69 = .ok (.iload_n 3, 1) by decide +kernel) rfl ?_
  refine am_r_goto (tg := 74) (show decode cX11_digit 70 = .ok (.goto 4, 3) by decide +kernel) (by decide) ?_
  exact am_x_fg [3] k
theorem S_X11_digit_73 {G : am_G} {d : Nat} {Q : Int → am_D → Prop} {σ : am_D} {v1 : Int}  (k : am_X (am_FI G (d + 1) Q) mX11_digit (0, 0) 74 [none, none, none, none] [am_i v1] (am_K0, σ)) : am_X (am_FI G (d + 1) Q) mX11_digit (0, 0) 73 [none, some (am_i v1), none, none] [] (am_K0, σ) := by
  refine am_r_iload_n (nx := 74) rfl rfl (show decode cX11_digit 73 = .ok (.iload_n 1, 1) by decide +kernel) rfl ?_
  exact am_x_fg [1] k
theorem S_X11_digit_74 {G : am_G} {d : Nat} {Q : Int → am_D → Prop} {σ : am_D} {s0 : Int}  (k : Q s0 σ) : am_X (am_FI G (d + 1) Q) mX11_digit (0, 0) 74 [none, none, none, none] [am_i s0] (am_K0, σ) := by
  exact am_r_iret rfl rfl (show decode cX11_digit 74 = .ok (.ireturn, 1) by decide +kernel) ⟨_, _, rfl, rfl, k⟩
theorem S_X11_number_0 {G : am_G} {d : Nat} {Q : Int → am_D → Prop} {σ : am_D} {v1 : Int} {v2 : Int} {Q' : Int → am_D → Prop} (hc : am_MI G d mX11_digit [am_r (some 91), am_i v1, am_i v2] σ Q') (k : ∀ (x : Int) (σ' : am_D), Q' x σ' → am_X (am_FI G (d + 1) Q) mX11_number (0, 0) 7 [some (am_r (some 91)), none, none, some (am_i x)] [] (am_K0, σ')) : am_X (am_FI G (d + 1) Q) mX11_number (0, 0) 0 [some (am_r (some 91)), some (am_i v1), some (am_i v2), none] [] (am_K0, σ) := by
  refine am_r_aload_n (nx := 1) rfl rfl (show decode cX11_number 0 = .ok (.aload_n 0, 1) by decide +kernel) rfl ?_
  refine am_r_iload_n (nx := 2) rfl rfl (show decode cX11_number 1 = .ok (.iload_n 1, 1) by decide +kernel) rfl ?_
  refine am_r_iload_n (nx := 3) rfl rfl (show decode cX11_number 2 = .ok (.iload_n 2, 1) by decide +kernel) rfl ?_
  refine am_r_callV (as := [am_i v1, am_i v2]) (st := []) hc mb_X11_digit mv_X11_digit (Or.inl ml_X11_215) (ob_91) (by omega) (r := (RX11, TX11, 63)) rfl rfl rfl rfl (Nat.le_of_ble_eq_true rfl) ⟨Nat.le_refl _, Nat.le_refl _⟩ ⟨Nat.le_refl _, Nat.le_refl _⟩ (show decode cX11_number 3 = .ok (.invokevirtual 215, 3) by decide +kernel) ?_
  rintro _ _ ⟨x, σ', rfl, rfl, hq⟩ _
  refine am_r_istore_n (nx := 7) rfl (by decide) rfl (show decode cX11_number 6 = .ok (.istore_n 3, 1) by decide +kernel) rfl ?_
  exact am_x_fg [1, 2] (k x σ' hq)
theorem S_X11_number_7 {G : am_G} {d : Nat} {Q : Int → am_D → Prop} {σ : am_D} {v3 : Int} {Q' : Int → am_D → Prop} (hc : am_MI G d mX11_isGood [am_r (some 91)] σ Q') (k : ∀ (x : Int) (σ' : am_D), Q' x σ' → am_X (am_FI G (d + 1) Q) mX11_number (0, 0) 11 [some (am_r (some 91)), none, none, some (am_i v3)] [am_i x] (am_K0, σ')) : am_X (am_FI G (d + 1) Q) mX11_number (0, 0) 7 [some (am_r (some 91)), none, none, some (am_i v3)] [] (am_K0, σ) := by
  refine am_r_aload_n (nx := 8) rfl rfl (show decode cX11_number 7 = .ok (.aload_n 0, 1) by decide +kernel) rfl ?_
  refine am_r_callV (as := []) (st := []) hc mb_X11_isGood mv_X11_isGood (Or.inl ml_X11_185) (ob_91) (by omega) (r := (RX11, TX11, 63)) rfl rfl rfl rfl (Nat.le_of_ble_eq_true rfl) ⟨Nat.le_refl _, Nat.le_refl _⟩ ⟨Nat.le_refl _, Nat.le_refl _⟩ (show decode cX11_number 8 = .ok (.invokevirtual 185, 3) by decide +kernel) ?_
  rintro _ _ ⟨x, σ', rfl, rfl, hq⟩ _
  exact (k x σ' hq)
theorem S_X11_number_11 {G : am_G} {d : Nat} {Q : Int → am_D → Prop} {σ : am_D} {v3 : Int} {s0 : Int} (hr1 : -2147483648 ≤ s0 ∧ s0 ≤ 2147483647) (k1 : s0 = 0 → am_X (am_FI G (d + 1) Q) mX11_number (0, 0) 18 [none, none, none, some (am_i v3)] [] (am_K0, σ)) (k2 : ¬ (s0 = 0) → am_X (am_FI G (d + 1) Q) mX11_number (0, 0) 14 [some (am_r (some 91)), none, none, some (am_i v3)] [] (am_K0, σ)) : am_X (am_FI G (d + 1) Q) mX11_number (0, 0) 11 [some (am_r (some 91)), none, none, some (am_i v3)] [am_i s0] (am_K0, σ) := by
  refine am_r_if_eq (tg := 18) (nx := 14) (show decode cX11_number 11 = .ok (.ifCond .eq 7, 3) by decide +kernel) (by decide) rfl hr1 ?_ ?_
  · exact fun q => am_x_fg [0] (k1 q)
  · exact fun q => k2 q
theorem S_X11_number_14 {G : am_G} {d : Nat} {Q : Int → am_D → Prop} {σ : am_D} {v3 : Int} {Q' : am_D → Prop} (hc : am_MV G d mX11_goes [am_r (some 91)] σ Q') (k : ∀ σ' : am_D, Q' σ' → am_X (am_FI G (d + 1) Q) mX11_number (0, 0) 18 [none, none, none, some (am_i v3)] [] (am_K0, σ')) : am_X (am_FI G (d + 1) Q) mX11_number (0, 0) 14 [some (am_r (some 91)), none, none, some (am_i v3)] [] (am_K0, σ) := by
  refine am_r_aload_n (nx := 15) rfl rfl (show decode cX11_number 14 = .ok (.aload_n 0, 1) by decide +kernel) rfl ?_
  refine am_r_callV (as := []) (st := []) hc mb_X11_goes mv_X11_goes (Or.inl ml_X11_182) (ob_91) (by omega) (r := (RX11, TX11, 63)) rfl rfl rfl rfl (Nat.le_of_ble_eq_true rfl) ⟨Nat.le_refl _, Nat.le_refl _⟩ ⟨Nat.le_refl _, Nat.le_refl _⟩ (show decode cX11_number 15 = .ok (.invokevirtual 182, 3) by decide +kernel) ?_
  rintro _ _ ⟨σ', rfl, rfl, hq⟩ _
  exact am_x_fg [0] (k σ' hq)
theorem S_X11_number_18 {G : am_G} {d : Nat} {Q : Int → am_D → Prop} {σ : am_D} {v3 : Int}  (k : Q v3 σ) : am_X (am_FI G (d + 1) Q) mX11_number (0, 0) 18 [none, none, none, some (am_i v3)] [] (am_K0, σ) := by
  refine am_r_iload_n (nx := 19) rfl rfl (show decode cX11_number 18 = .ok (.iload_n 3, 1) by decide +kernel) rfl ?_
  exact am_r_iret rfl rfl (show decode cX11_number 19 = .ok (.ireturn, 1) by decide +kernel) ⟨_, _, rfl, rfl, k⟩
theorem S_X11_openAt_0 {G : am_G} {d : Nat} {Q : Int → am_D → Prop} {σ : am_D} {v0 : Int} {v1 : Int} {v2 : Int}  (k : Q (((18 * v0) + (6 * v1)) + v2) σ) : am_X (am_FI G (d + 1) Q) mX11_openAt (0, 0) 0 [some (am_i v0), some (am_i v1), some (am_i v2)] [] (am_K0, σ) := by
  refine am_r_bipush (nx := 2) rfl (show decode cX11_openAt 0 = .ok (.bipush 18, 2) by decide +kernel) rfl ?_
  refine am_r_iload_n (nx := 3) rfl rfl (show decode cX11_openAt 2 = .ok (.iload_n 0, 1) by decide +kernel) rfl ?_
  refine am_r_imul (nx := 4) (show decode cX11_openAt 3 = .ok (.imul, 1) by decide +kernel) rfl ?_
  refine am_r_bipush (nx := 6) rfl (show decode cX11_openAt 4 = .ok (.bipush 6, 2) by decide +kernel) rfl ?_
  refine am_r_iload_n (nx := 7) rfl rfl (show decode cX11_openAt 6 = .ok (.iload_n 1, 1) by decide +kernel) rfl ?_
  refine am_r_imul (nx := 8) (show decode cX11_openAt 7 = .ok (.imul, 1) by decide +kernel) rfl ?_
  refine am_r_iadd (nx := 9) (show decode cX11_openAt 8 = .ok (.iadd, 1) by decide +kernel) rfl ?_
  refine am_r_iload_n (nx := 10) rfl rfl (show decode cX11_openAt 9 = .ok (.iload_n 2, 1) by decide +kernel) rfl ?_
  refine am_r_iadd (nx := 11) (show decode cX11_openAt 10 = .ok (.iadd, 1) by decide +kernel) rfl ?_
  exact am_r_iret rfl rfl (show decode cX11_openAt 11 = .ok (.ireturn, 1) by decide +kernel) ⟨_, _, rfl, rfl, k⟩
end
