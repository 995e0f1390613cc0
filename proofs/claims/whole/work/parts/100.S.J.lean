section
theorem S_J9_max_7cf53_0 {G : am_G} {d : Nat} {Q : Int → am_D → Prop} {σ : am_D} {v0 : Int} {v1 : Int} (hr1 : -2147483648 ≤ v0 ∧ v0 ≤ 2147483647) (hr2 : -2147483648 ≤ v1 ∧ v1 ≤ 2147483647) (k1 : v0 < v1 → am_X (am_FI G (d + 1) Q) mJ9_max_7cf53 (0, 0) 9 [none, some (am_i v1)] [] (am_K0, σ)) (k2 : ¬ (v0 < v1) → am_X (am_FI G (d + 1) Q) mJ9_max_7cf53 (0, 0) 5 [some (am_i v0), none] [] (am_K0, σ)) : am_X (am_FI G (d + 1) Q) mJ9_max_7cf53 (0, 0) 0 [some (am_i v0), some (am_i v1)] [] (am_K0, σ) := by
  refine am_r_iload_n (nx := 1) rfl rfl (show decode cJ9_max_7cf53 0 = .ok (.iload_n 0, 1) by decide +kernel) rfl ?_
  refine am_r_iload_n (nx := 2) rfl rfl (show decode cJ9_max_7cf53 1 = .ok (.iload_n 1, 1) by decide +kernel) rfl ?_
  refine am_r_icmp_lt (tg := 9) (nx := 5) (show decode cJ9_max_7cf53 2 = .ok (.if_icmp .lt 7, 3) by decide +kernel) (by decide) rfl hr1 hr2 ?_ ?_
  · exact fun q => am_x_fg [0] (k1 q)
  · exact fun q => am_x_fg [1] (k2 q)
theorem S_J9_max_7cf53_5 {G : am_G} {d : Nat} {Q : Int → am_D → Prop} {σ : am_D} {v0 : Int}  (k : am_X (am_FI G (d + 1) Q) mJ9_max_7cf53 (0, 0) 10 [none, none] [am_i v0] (am_K0, σ)) : am_X (am_FI G (d + 1) Q) mJ9_max_7cf53 (0, 0) 5 [some (am_i v0), none] [] (am_K0, σ) := by
  refine am_r_iload_n (nx := 6) rfl rfl (show decode cJ9_max_7cf53 5 = .ok (.iload_n 0, 1) by decide +kernel) rfl ?_
  refine am_r_goto (tg := 10) (show decode cJ9_max_7cf53 6 = .ok (.goto 4, 3) by decide +kernel) (by decide) ?_
  exact am_x_fg [0] k
theorem S_J9_max_7cf53_9 {G : am_G} {d : Nat} {Q : Int → am_D → Prop} {σ : am_D} {v1 : Int}  (k : am_X (am_FI G (d + 1) Q) mJ9_max_7cf53 (0, 0) 10 [none, none] [am_i v1] (am_K0, σ)) : am_X (am_FI G (d + 1) Q) mJ9_max_7cf53 (0, 0) 9 [none, some (am_i v1)] [] (am_K0, σ) := by
  refine am_r_iload_n (nx := 10) rfl rfl (show decode cJ9_max_7cf53 9 = .ok (.iload_n 1, 1) by decide +kernel) rfl ?_
  exact am_x_fg [1] k
theorem S_J9_max_7cf53_10 {G : am_G} {d : Nat} {Q : Int → am_D → Prop} {σ : am_D} {s0 : Int}  (k : Q s0 σ) : am_X (am_FI G (d + 1) Q) mJ9_max_7cf53 (0, 0) 10 [none, none] [am_i s0] (am_K0, σ) := by
  exact am_r_iret rfl rfl (show decode cJ9_max_7cf53 10 = .ok (.ireturn, 1) by decide +kernel) ⟨_, _, rfl, rfl, k⟩
theorem S_J9_min_f86c9_0 {G : am_G} {d : Nat} {Q : Int64 → am_D → Prop} {σ : am_D} {v0 : Int64} {v2 : Int64}  (k1 : 0 < (am_lcmp v0 v2) → am_X (am_FJ G (d + 1) Q) mJ9_min_f86c9 (0, 0) 10 [none, none, some (am_l v2), none] [] (am_K0, σ)) (k2 : ¬ (0 < (am_lcmp v0 v2)) → am_X (am_FJ G (d + 1) Q) mJ9_min_f86c9 (0, 0) 6 [some (am_l v0), none, none, none] [] (am_K0, σ)) : am_X (am_FJ G (d + 1) Q) mJ9_min_f86c9 (0, 0) 0 [some (am_l v0), none, some (am_l v2), none] [] (am_K0, σ) := by
  refine am_r_lload_n (nx := 1) rfl rfl (show decode cJ9_min_f86c9 0 = .ok (.lload_n 0, 1) by decide +kernel) rfl ?_
  refine am_r_lload_n (nx := 2) rfl rfl (show decode cJ9_min_f86c9 1 = .ok (.lload_n 2, 1) by decide +kernel) rfl ?_
  refine am_r_lcmp (nx := 3) (show decode cJ9_min_f86c9 2 = .ok (.lcmp, 1) by decide +kernel) rfl ?_
  refine am_r_if_gt (tg := 10) (nx := 6) (show decode cJ9_min_f86c9 3 = .ok (.ifCond .gt 7, 3) by decide +kernel) (by decide) rfl (am_lcmp_rg _ _) ?_ ?_
  · exact fun q => am_x_fg [0] (k1 q)
  · exact fun q => am_x_fg [2] (k2 q)
theorem S_J9_min_f86c9_6 {G : am_G} {d : Nat} {Q : Int64 → am_D → Prop} {σ : am_D} {v0 : Int64}  (k : am_X (am_FJ G (d + 1) Q) mJ9_min_f86c9 (0, 0) 11 [none, none, none, none] [am_l v0] (am_K0, σ)) : am_X (am_FJ G (d + 1) Q) mJ9_min_f86c9 (0, 0) 6 [some (am_l v0), none, none, none] [] (am_K0, σ) := by
  refine am_r_lload_n (nx := 7) rfl rfl (show decode cJ9_min_f86c9 6 = .ok (.lload_n 0, 1) by decide +kernel) rfl ?_
  refine am_r_goto (tg := 11) (show decode cJ9_min_f86c9 7 = .ok (.goto 4, 3) by decide +kernel) (by decide) ?_
  exact am_x_fg [0] k
theorem S_J9_min_f86c9_10 {G : am_G} {d : Nat} {Q : Int64 → am_D → Prop} {σ : am_D} {v2 : Int64}  (k : am_X (am_FJ G (d + 1) Q) mJ9_min_f86c9 (0, 0) 11 [none, none, none, none] [am_l v2] (am_K0, σ)) : am_X (am_FJ G (d + 1) Q) mJ9_min_f86c9 (0, 0) 10 [none, none, some (am_l v2), none] [] (am_K0, σ) := by
  refine am_r_lload_n (nx := 11) rfl rfl (show decode cJ9_min_f86c9 10 = .ok (.lload_n 2, 1) by decide +kernel) rfl ?_
  exact am_x_fg [2] k
theorem S_J9_min_f86c9_11 {G : am_G} {d : Nat} {Q : Int64 → am_D → Prop} {σ : am_D} {s0 : Int64}  (k : Q s0 σ) : am_X (am_FJ G (d + 1) Q) mJ9_min_f86c9 (0, 0) 11 [none, none, none, none] [am_l s0] (am_K0, σ) := by
  exact am_r_lret rfl (show decode cJ9_min_f86c9 11 = .ok (.lreturn, 1) by decide +kernel) ⟨_, _, rfl, rfl, k⟩
theorem S_J7_fill_53178_0 {G : am_G} {d : Nat} {Q : am_D → Prop} {σ : am_D} {v1 : Int} {v0 : Option Nat}  (k : am_X (am_FV G (d + 1) Q) mJ7_fill_53178 (0, 0) 2 [some (am_r v0), some (am_i v1), some (am_i 0), none] [] (am_K0, σ)) : am_X (am_FV G (d + 1) Q) mJ7_fill_53178 (0, 0) 0 [some (am_r v0), some (am_i v1), none, none] [] (am_K0, σ) := by
  refine am_r_iconst (nx := 1) (show decode cJ7_fill_53178 0 = .ok (.iconst 0, 1) by decide +kernel) rfl ?_
  refine am_r_istore_n (nx := 2) rfl (by decide) rfl (show decode cJ7_fill_53178 1 = .ok (.istore_n 2, 1) by decide +kernel) rfl ?_
  exact k
theorem S_J7_fill_53178_2 {G : am_G} {d : Nat} {Q : am_D → Prop} {σ : am_D} {v1 : Int} {v2 : Int} {v0 : Nat} {n1 : Nat} (hs2 : am_sh am_SH v0 = (100, n1)) (k : am_X (am_FV G (d + 1) Q) mJ7_fill_53178 (0, 0) 5 [some (am_r (some v0)), some (am_i v1), some (am_i v2), some (am_i ((n1 : Nat) : Int))] [] (am_K0, σ)) : am_X (am_FV G (d + 1) Q) mJ7_fill_53178 (0, 0) 2 [some (am_r (some v0)), some (am_i v1), some (am_i v2), none] [] (am_K0, σ) := by
  refine am_r_aload_n (nx := 3) rfl rfl (show decode cJ7_fill_53178 2 = .ok (.aload_n 0, 1) by decide +kernel) rfl ?_
  refine am_r_alen (nx := 4) (hs2) (by omega) (by omega) (show decode cJ7_fill_53178 3 = .ok (.arraylength, 1) by decide +kernel) rfl ?_
  refine am_r_istore_n (nx := 5) rfl (by decide) rfl (show decode cJ7_fill_53178 4 = .ok (.istore_n 3, 1) by decide +kernel) rfl ?_
  exact k
theorem S_J7_fill_53178_5 {G : am_G} {d : Nat} {Q : am_D → Prop} {σ : am_D} {v1 : Int} {v2 : Int} {v3 : Int} {v0 : Option Nat} (hr1 : -2147483648 ≤ v2 ∧ v2 ≤ 2147483647) (hr2 : -2147483648 ≤ v3 ∧ v3 ≤ 2147483647) (k1 : v3 ≤ v2 → am_X (am_FV G (d + 1) Q) mJ7_fill_53178 (0, 0) 20 [none, none, none, none] [] (am_K0, σ)) (k2 : ¬ (v3 ≤ v2) → am_X (am_FV G (d + 1) Q) mJ7_fill_53178 (0, 0) 10 [some (am_r v0), some (am_i v1), some (am_i v2), some (am_i v3)] [] (am_K0, σ)) : am_X (am_FV G (d + 1) Q) mJ7_fill_53178 (0, 0) 5 [some (am_r v0), some (am_i v1), some (am_i v2), some (am_i v3)] [] (am_K0, σ) := by
  refine am_r_iload_n (nx := 6) rfl rfl (show decode cJ7_fill_53178 5 = .ok (.iload_n 2, 1) by decide +kernel) rfl ?_
  refine am_r_iload_n (nx := 7) rfl rfl (show decode cJ7_fill_53178 6 = .ok (.iload_n 3, 1) by decide +kernel) rfl ?_
  refine am_r_icmp_ge (tg := 20) (nx := 10) (show decode cJ7_fill_53178 7 = .ok (.if_icmp .ge 13, 3) by decide +kernel) (by decide) rfl hr1 hr2 ?_ ?_
  · exact fun q => am_x_fg [0, 1, 2, 3] (k1 q)
  · exact fun q => k2 q
theorem S_J7_fill_53178_10 {G : am_G} {d : Nat} {Q : am_D → Prop} {σ : am_D} {v1 : Int} {v2 : Int} {v3 : Int} {v0 : Nat} {n1 : Nat} (hs2 : am_sh am_SH v0 = (100, n1)) (hi3 : 0 ≤ v2) (hj4 : v2 < ((n1 : Nat) : Int)) (k : am_X (am_FV G (d + 1) Q) mJ7_fill_53178 (0, 0) 14 [some (am_r (some v0)), some (am_i v1), some (am_i v2), some (am_i v3)] [] (am_K0, (am_pI σ v0 v2 v1))) : am_X (am_FV G (d + 1) Q) mJ7_fill_53178 (0, 0) 10 [some (am_r (some v0)), some (am_i v1), some (am_i v2), some (am_i v3)] [] (am_K0, σ) := by
  refine am_r_aload_n (nx := 11) rfl rfl (show decode cJ7_fill_53178 10 = .ok (.aload_n 0, 1) by decide +kernel) rfl ?_
  refine am_r_iload_n (nx := 12) rfl rfl (show decode cJ7_fill_53178 11 = .ok (.iload_n 2, 1) by decide +kernel) rfl ?_
  refine am_r_iload_n (nx := 13) rfl rfl (show decode cJ7_fill_53178 12 = .ok (.iload_n 1, 1) by decide +kernel) rfl ?_
  refine am_r_iast (nx := 14) (hs2) (am_shle (hs2)) hi3 hj4 (show decode cJ7_fill_53178 13 = .ok (.iastore, 1) by decide +kernel) rfl ?_
  exact k
theorem S_J7_fill_53178_14 {G : am_G} {d : Nat} {Q : am_D → Prop} {σ : am_D} {v1 : Int} {v2 : Int} {v3 : Int} {v0 : Option Nat}  (k : am_X (am_FV G (d + 1) Q) mJ7_fill_53178 (0, 0) 5 [some (am_r v0), some (am_i v1), some (am_i (v2 + 1)), some (am_i v3)] [] (am_K0, σ)) : am_X (am_FV G (d + 1) Q) mJ7_fill_53178 (0, 0) 14 [some (am_r v0), some (am_i v1), some (am_i v2), some (am_i v3)] [] (am_K0, σ) := by
  refine am_r_iinc (nx := 17) rfl rfl (show decode cJ7_fill_53178 14 = .ok (.iinc 2 1, 3) by decide +kernel) rfl ?_
  refine am_r_goto (tg := 5) (show decode cJ7_fill_53178 17 = .ok (.goto (-12), 3) by decide +kernel) (by decide) ?_
  exact k
theorem S_J7_fill_53178_20 {G : am_G} {d : Nat} {Q : am_D → Prop} {σ : am_D}   (k : Q σ) : am_X (am_FV G (d + 1) Q) mJ7_fill_53178 (0, 0) 20 [none, none, none, none] [] (am_K0, σ) := by
  exact am_r_vret rfl (show decode cJ7_fill_53178 20 = .ok (.return_, 1) by decide +kernel) ⟨_, rfl, rfl, k⟩
end
