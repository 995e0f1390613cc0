section
theorem S_X10_at_0 {G : am_G} {d : Nat} {Q : Int → am_D → Prop} {σ : am_D} {v1 : Int} {v0 : Option Nat} (hr1 : -2147483648 ≤ v1 ∧ v1 ≤ 2147483647) (k1 : v1 < 0 → am_X (am_FI G (d + 1) Q) mX10_at (0, 0) 16 [none, none] [] (am_K0, σ)) (k2 : ¬ (v1 < 0) → am_X (am_FI G (d + 1) Q) mX10_at (0, 0) 4 [some (am_r v0), some (am_i v1)] [] (am_K0, σ)) : am_X (am_FI G (d + 1) Q) mX10_at (0, 0) 0 [some (am_r v0), some (am_i v1)] [] (am_K0, σ) := by
  refine am_r_iload_n (nx := 1) rfl rfl (show decode cX10_at 0 = .ok (.iload_n 1, 1) by decide +kernel) rfl ?_
  refine am_r_if_lt (tg := 16) (nx := 4) (show decode cX10_at 1 = .ok (.ifCond .lt 15, 3) by decide +kernel) (by decide) rfl hr1 ?_ ?_
  · exact fun q => am_x_fg [0, 1] (k1 q)
  · exact fun q => k2 q
theorem S_X10_at_4 {G : am_G} {d : Nat} {Q : Int → am_D → Prop} {σ : am_D} {v1 : Int} {v0 : Nat} {n1 : Nat} (hs2 : am_sh am_SH v0 = (100, n1)) (hr3 : -2147483648 ≤ v1 ∧ v1 ≤ 2147483647) (hr4 : -2147483648 ≤ ((n1 : Nat) : Int) ∧ ((n1 : Nat) : Int) ≤ 2147483647) (k1 : ((n1 : Nat) : Int) ≤ v1 → am_X (am_FI G (d + 1) Q) mX10_at (0, 0) 16 [none, none] [] (am_K0, σ)) (k2 : ¬ (((n1 : Nat) : Int) ≤ v1) → am_X (am_FI G (d + 1) Q) mX10_at (0, 0) 10 [some (am_r (some v0)), some (am_i v1)] [] (am_K0, σ)) : am_X (am_FI G (d + 1) Q) mX10_at (0, 0) 4 [some (am_r (some v0)), some (am_i v1)] [] (am_K0, σ) := by
  refine am_r_iload_n (nx := 5) rfl rfl (show decode cX10_at 4 = .ok (.iload_n 1, 1) by decide +kernel) rfl ?_
  refine am_r_aload_n (nx := 6) rfl rfl (show decode cX10_at 5 = .ok (.aload_n 0, 1) by decide +kernel) rfl ?_
  refine am_r_alen (nx := 7) (hs2) (by omega) (by omega) (show decode cX10_at 6 = .ok (.arraylength, 1) by decide +kernel) rfl ?_
  refine am_r_icmp_ge (tg := 16) (nx := 10) (show decode cX10_at 7 = .ok (.if_icmp .ge 9, 3) by decide +kernel) (by decide) rfl hr3 hr4 ?_ ?_
  · exact fun q => am_x_fg [0, 1] (k1 q)
  · exact fun q => k2 q
theorem S_X10_at_10 {G : am_G} {d : Nat} {Q : Int → am_D → Prop} {σ : am_D} {v1 : Int} {v0 : Nat} {n1 : Nat} (hs2 : am_sh am_SH v0 = (100, n1)) (hi3 : 0 ≤ v1) (hj4 : v1 < ((n1 : Nat) : Int)) (k : am_X (am_FI G (d + 1) Q) mX10_at (0, 0) 17 [none, none] [am_i (σ.1 v0 v1)] (am_K0, σ)) : am_X (am_FI G (d + 1) Q) mX10_at (0, 0) 10 [some (am_r (some v0)), some (am_i v1)] [] (am_K0, σ) := by
  refine am_r_aload_n (nx := 11) rfl rfl (show decode cX10_at 10 = .ok (.aload_n 0, 1) by decide +kernel) rfl ?_
  refine am_r_iload_n (nx := 12) rfl rfl (show decode cX10_at 11 = .ok (.iload_n 1, 1) by decide +kernel) rfl ?_
  refine am_r_iald (nx := 13) (hs2) (am_shle (hs2)) hi3 hj4 (show decode cX10_at 12 = .ok (.iaload, 1) by decide +kernel) rfl ?_
  refine am_r_goto (tg := 17) (show decode cX10_at 13 = .ok (.goto 4, 3) by decide +kernel) (by decide) ?_
  exact am_x_fg [0, 1] k
theorem S_X10_at_16 {G : am_G} {d : Nat} {Q : Int → am_D → Prop} {σ : am_D}   (k : am_X (am_FI G (d + 1) Q) mX10_at (0, 0) 17 [none, none] [am_i (-1)] (am_K0, σ)) : am_X (am_FI G (d + 1) Q) mX10_at (0, 0) 16 [none, none] [] (am_K0, σ) := by
  refine am_r_iconst (nx := 17) (show decode cX10_at 16 = .ok (.iconst (-1), 1) by decide +kernel) rfl ?_
  exact k
theorem S_X10_at_17 {G : am_G} {d : Nat} {Q : Int → am_D → Prop} {σ : am_D} {s0 : Int}  (k : Q s0 σ) : am_X (am_FI G (d + 1) Q) mX10_at (0, 0) 17 [none, none] [am_i s0] (am_K0, σ) := by
  exact am_r_iret rfl rfl (show decode cX10_at 17 = .ok (.ireturn, 1) by decide +kernel) ⟨_, _, rfl, rfl, k⟩
theorem S_X10_put_0 {G : am_G} {d : Nat} {Q : am_D → Prop} {σ : am_D} {v1 : Int} {v2 : Int} {v0 : Option Nat} (hr1 : -2147483648 ≤ v1 ∧ v1 ≤ 2147483647) (k1 : v1 < 0 → am_X (am_FV G (d + 1) Q) mX10_put (0, 0) 14 [none, none, none] [] (am_K0, σ)) (k2 : ¬ (v1 < 0) → am_X (am_FV G (d + 1) Q) mX10_put (0, 0) 4 [some (am_r v0), some (am_i v1), some (am_i v2)] [] (am_K0, σ)) : am_X (am_FV G (d + 1) Q) mX10_put (0, 0) 0 [some (am_r v0), some (am_i v1), some (am_i v2)] [] (am_K0, σ) := by
  refine am_r_iload_n (nx := 1) rfl rfl (show decode cX10_put 0 = .ok (.iload_n 1, 1) by decide +kernel) rfl ?_
  refine am_r_if_lt (tg := 14) (nx := 4) (show decode cX10_put 1 = .ok (.ifCond .lt 13, 3) by decide +kernel) (by decide) rfl hr1 ?_ ?_
  · exact fun q => am_x_fg [0, 1, 2] (k1 q)
  · exact fun q => k2 q
theorem S_X10_put_4 {G : am_G} {d : Nat} {Q : am_D → Prop} {σ : am_D} {v1 : Int} {v2 : Int} {v0 : Nat} {n1 : Nat} (hs2 : am_sh am_SH v0 = (100, n1)) (hr3 : -2147483648 ≤ v1 ∧ v1 ≤ 2147483647) (hr4 : -2147483648 ≤ ((n1 : Nat) : Int) ∧ ((n1 : Nat) : Int) ≤ 2147483647) (k1 : ((n1 : Nat) : Int) ≤ v1 → am_X (am_FV G (d + 1) Q) mX10_put (0, 0) 14 [none, none, none] [] (am_K0, σ)) (k2 : ¬ (((n1 : Nat) : Int) ≤ v1) → am_X (am_FV G (d + 1) Q) mX10_put (0, 0) 10 [some (am_r (some v0)), some (am_i v1), some (am_i v2)] [] (am_K0, σ)) : am_X (am_FV G (d + 1) Q) mX10_put (0, 0) 4 [some (am_r (some v0)), some (am_i v1), some (am_i v2)] [] (am_K0, σ) := by
  refine am_r_iload_n (nx := 5) rfl rfl (show decode cX10_put 4 = .ok (.iload_n 1, 1) by decide +kernel) rfl ?_
  refine am_r_aload_n (nx := 6) rfl rfl (show decode cX10_put 5 = .ok (.aload_n 0, 1) by decide +kernel) rfl ?_
  refine am_r_alen (nx := 7) (hs2) (by omega) (by omega) (show decode cX10_put 6 = .ok (.arraylength, 1) by decide +kernel) rfl ?_
  refine am_r_icmp_ge (tg := 14) (nx := 10) (show decode cX10_put 7 = .ok (.if_icmp .ge 7, 3) by decide +kernel) (by decide) rfl hr3 hr4 ?_ ?_
  · exact fun q => am_x_fg [0, 1, 2] (k1 q)
  · exact fun q => k2 q
theorem S_X10_put_10 {G : am_G} {d : Nat} {Q : am_D → Prop} {σ : am_D} {v1 : Int} {v2 : Int} {v0 : Nat} {n1 : Nat} (hs2 : am_sh am_SH v0 = (100, n1)) (hi3 : 0 ≤ v1) (hj4 : v1 < ((n1 : Nat) : Int)) (k : am_X (am_FV G (d + 1) Q) mX10_put (0, 0) 14 [none, none, none] [] (am_K0, (am_pI σ v0 v1 v2))) : am_X (am_FV G (d + 1) Q) mX10_put (0, 0) 10 [some (am_r (some v0)), some (am_i v1), some (am_i v2)] [] (am_K0, σ) := by
  refine am_r_aload_n (nx := 11) rfl rfl (show decode cX10_put 10 = .ok (.aload_n 0, 1) by decide +kernel) rfl ?_
  refine am_r_iload_n (nx := 12) rfl rfl (show decode cX10_put 11 = .ok (.iload_n 1, 1) by decide +kernel) rfl ?_
  refine am_r_iload_n (nx := 13) rfl rfl (show decode cX10_put 12 = .ok (.iload_n 2, 1) by decide +kernel) rfl ?_
  refine am_r_iast (nx := 14) (hs2) (am_shle (hs2)) hi3 hj4 (show decode cX10_put 13 = .ok (.iastore, 1) by decide +kernel) rfl ?_
  exact am_x_fg [0, 1, 2] k
theorem S_X10_put_14 {G : am_G} {d : Nat} {Q : am_D → Prop} {σ : am_D}   (k : Q σ) : am_X (am_FV G (d + 1) Q) mX10_put (0, 0) 14 [none, none, none] [] (am_K0, σ) := by
  exact am_r_vret rfl (show decode cX10_put 14 = .ok (.return_, 1) by decide +kernel) ⟨_, rfl, rfl, k⟩
theorem S_X10_laying_0 {G : am_G} {d : Nat} {Q : Int → am_D → Prop} {σ : am_D} {v0 : Int} {v1 : Int}  (k : Q ((v0 * 6) + v1) σ) : am_X (am_FI G (d + 1) Q) mX10_laying (0, 0) 0 [some (am_i v0), some (am_i v1)] [] (am_K0, σ) := by
  refine am_r_iload_n (nx := 1) rfl rfl (show decode cX10_laying 0 = .ok (.iload_n 0, 1) by decide +kernel) rfl ?_
  refine am_r_bipush (nx := 3) rfl (show decode cX10_laying 1 = .ok (.bipush 6, 2) by decide +kernel) rfl ?_
  refine am_r_imul (nx := 4) (show decode cX10_laying 3 = .ok (.imul, 1) by decide +kernel) rfl ?_
  refine am_r_iload_n (nx := 5) rfl rfl (show decode cX10_laying 4 = .ok (.iload_n 1, 1) by decide +kernel) rfl ?_
  refine am_r_iadd (nx := 6) (show decode cX10_laying 5 = .ok (.iadd, 1) by decide +kernel) rfl ?_
  exact am_r_iret rfl rfl (show decode cX10_laying 6 = .ok (.ireturn, 1) by decide +kernel) ⟨_, _, rfl, rfl, k⟩
end
