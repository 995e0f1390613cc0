section
variable {G : am_G} {L : Nat} {xs : Nat → Int32}
theorem am_and_rg (x y : Int) : ab_r (am_and x y) := by
  unfold am_and
  have h1 := Int32.le_toInt (Int32.ofInt x &&& Int32.ofInt y)
  have h2 := Int32.toInt_lt (Int32.ofInt x &&& Int32.ofInt y)
  exact ⟨by omega, by omega⟩
theorem l_loop (hL : L ≤ 3072) : ∀ (n : Nat) (i : Int) (σ : am_D), (L : Int) - i < n → 0 ≤ i → i ≤ L → ab_J σ → am_X (lw_F G L xs) mL (137, 119026) 18 (lw_ls i) [] (am_K0, σ) := by
  intro n
  induction n with
  | zero => intro i σ h1 h2 h3; omega
  | succ n ih =>
    intro i σ h1 h2 h3 hJ
    refine am_r_iload_n (nx := 19) rfl rfl (show decode code 18 = .ok (.iload_n 3, 1) by decide +kernel) rfl ?_
    refine am_r_aload_nS (nx := 20) rfl rfl (show decode code 19 = .ok (.aload_n 0, 1) by decide +kernel) rfl ?_
    refine am_r_slen (nx := 21) (show decode code 20 = .ok (.arraylength, 1) by decide +kernel) rfl ?_
    refine am_r_bipush (nx := 23) rfl (show decode code 21 = .ok (.bipush 6, 2) by decide +kernel) rfl ?_
    refine am_r_isub (nx := 24) (show decode code 23 = .ok (.isub, 1) by decide +kernel) rfl ?_
    refine am_r_icmp_gt (tg := 893) (nx := 27) (show decode code 24 = .ok (.if_icmp .gt 869, 3) by decide +kernel) (by decide) rfl (by omega) (by omega) (fun z => ?_) (fun z => ?_)
    · refine am_r_iconst (nx := 894) (show decode code 893 = .ok (.iconst 1, 1) by decide +kernel) rfl ?_
      exact am_r_law1 (show decode code 894 = .ok (.ireturn, 1) by decide +kernel) (Nat.le_of_ble_eq_true rfl) (Nat.le_of_ble_eq_true rfl)
    have next : ∀ σ' : am_D, ab_J σ' → am_X (lw_F G L xs) mL (137, 119026) 887 (lw_ls i) [] (am_K0, σ') := by
      intro σ' hJ'
      refine am_r_iinc (nx := 890) rfl rfl (show decode code 887 = .ok (.iinc 3 6, 3) by decide +kernel) rfl ?_
      refine am_r_goto (tg := 18) (show decode code 890 = .ok (.goto (-872), 3) by decide +kernel) (by decide) ?_
      exact ih (i + 6) σ' (by omega) (by omega) (by omega) hJ'
    refine am_r_aload_nS (nx := 28) rfl rfl (show decode code 27 = .ok (.aload_n 0, 1) by decide +kernel) rfl ?_
    refine am_r_iload_n (nx := 29) rfl rfl (show decode code 28 = .ok (.iload_n 3, 1) by decide +kernel) rfl ?_
    refine am_r_sld (nx := 30) (by omega) (by omega) hL (show decode code 29 = .ok (.iaload, 1) by decide +kernel) rfl ?_
    refine am_r_bipush (nx := 32) rfl (show decode code 30 = .ok (.bipush 31, 2) by decide +kernel) rfl ?_
    refine am_r_iand (nx := 33) (show decode code 32 = .ok (.iand, 1) by decide +kernel) rfl ?_
    have hv := am_and_rg (lw_v xs i) 31
    generalize am_and (lw_v xs i) 31 = v at hv ⊢
    have hi6 : i + 6 ≤ L := by omega
    by_cases hq : v < 0 ∨ 25 < v
    · exact am_r_tabOut (tg := 887) (show decode code 33 = .ok (.tableswitch 854 0 25 #[119, 182, 205, 228, 241, 254, 287, 310, 359, 372, 395, 418, 431, 474, 487, 510, 543, 566, 599, 622, 655, 678, 712, 735, 778, 821], 119) by decide +kernel) hv hq (by decide) (next σ hJ)
    · have hq2 : v = 0 ∨ v = 1 ∨ v = 2 ∨ v = 3 ∨ v = 4 ∨ v = 5 ∨ v = 6 ∨ v = 7 ∨ v = 8 ∨ v = 9 ∨ v = 10 ∨ v = 11 ∨ v = 12 ∨ v = 13 ∨ v = 14 ∨ v = 15 ∨ v = 16 ∨ v = 17 ∨ v = 18 ∨ v = 19 ∨ v = 20 ∨ v = 21 ∨ v = 22 ∨ v = 23 ∨ v = 24 ∨ v = 25 := by omega
      rcases hq2 with rfl | rfl | rfl | rfl | rfl | rfl | rfl | rfl | rfl | rfl | rfl | rfl | rfl | rfl | rfl | rfl | rfl | rfl | rfl | rfl | rfl | rfl | rfl | rfl | rfl | rfl
      · exact am_r_tabIn (off := 119) (tg := 152) (show decode code 33 = .ok (.tableswitch 854 0 25 #[119, 182, 205, 228, 241, 254, 287, 310, 359, 372, 395, 418, 431, 474, 487, 510, 543, 566, 599, 622, 655, 678, 712, 735, 778, 821], 119) by decide +kernel) (by omega) (by omega) (by omega) (by decide) (by decide) (l_c0 h2 hi6 hL hJ next)
      · exact am_r_tabIn (off := 182) (tg := 215) (show decode code 33 = .ok (.tableswitch 854 0 25 #[119, 182, 205, 228, 241, 254, 287, 310, 359, 372, 395, 418, 431, 474, 487, 510, 543, 566, 599, 622, 655, 678, 712, 735, 778, 821], 119) by decide +kernel) (by omega) (by omega) (by omega) (by decide) (by decide) (l_c1 h2 hi6 hL hJ next)
      · exact am_r_tabIn (off := 205) (tg := 238) (show decode code 33 = .ok (.tableswitch 854 0 25 #[119, 182, 205, 228, 241, 254, 287, 310, 359, 372, 395, 418, 431, 474, 487, 510, 543, 566, 599, 622, 655, 678, 712, 735, 778, 821], 119) by decide +kernel) (by omega) (by omega) (by omega) (by decide) (by decide) (l_c2 h2 hi6 hL hJ next)
      · exact am_r_tabIn (off := 228) (tg := 261) (show decode code 33 = .ok (.tableswitch 854 0 25 #[119, 182, 205, 228, 241, 254, 287, 310, 359, 372, 395, 418, 431, 474, 487, 510, 543, 566, 599, 622, 655, 678, 712, 735, 778, 821], 119) by decide +kernel) (by omega) (by omega) (by omega) (by decide) (by decide) (l_c3 h2 hi6 hL hJ next)
      · exact am_r_tabIn (off := 241) (tg := 274) (show decode code 33 = .ok (.tableswitch 854 0 25 #[119, 182, 205, 228, 241, 254, 287, 310, 359, 372, 395, 418, 431, 474, 487, 510, 543, 566, 599, 622, 655, 678, 712, 735, 778, 821], 119) by decide +kernel) (by omega) (by omega) (by omega) (by decide) (by decide) (l_c4 h2 hi6 hL hJ next)
      · exact am_r_tabIn (off := 254) (tg := 287) (show decode code 33 = .ok (.tableswitch 854 0 25 #[119, 182, 205, 228, 241, 254, 287, 310, 359, 372, 395, 418, 431, 474, 487, 510, 543, 566, 599, 622, 655, 678, 712, 735, 778, 821], 119) by decide +kernel) (by omega) (by omega) (by omega) (by decide) (by decide) (l_c5 h2 hi6 hL hJ next)
      · exact am_r_tabIn (off := 287) (tg := 320) (show decode code 33 = .ok (.tableswitch 854 0 25 #[119, 182, 205, 228, 241, 254, 287, 310, 359, 372, 395, 418, 431, 474, 487, 510, 543, 566, 599, 622, 655, 678, 712, 735, 778, 821], 119) by decide +kernel) (by omega) (by omega) (by omega) (by decide) (by decide) (l_c6 h2 hi6 hL hJ next)
      · exact am_r_tabIn (off := 310) (tg := 343) (show decode code 33 = .ok (.tableswitch 854 0 25 #[119, 182, 205, 228, 241, 254, 287, 310, 359, 372, 395, 418, 431, 474, 487, 510, 543, 566, 599, 622, 655, 678, 712, 735, 778, 821], 119) by decide +kernel) (by omega) (by omega) (by omega) (by decide) (by decide) (l_c7 h2 hi6 hL hJ next)
      · exact am_r_tabIn (off := 359) (tg := 392) (show decode code 33 = .ok (.tableswitch 854 0 25 #[119, 182, 205, 228, 241, 254, 287, 310, 359, 372, 395, 418, 431, 474, 487, 510, 543, 566, 599, 622, 655, 678, 712, 735, 778, 821], 119) by decide +kernel) (by omega) (by omega) (by omega) (by decide) (by decide) (l_c8 h2 hi6 hL hJ next)
      · exact am_r_tabIn (off := 372) (tg := 405) (show decode code 33 = .ok (.tableswitch 854 0 25 #[119, 182, 205, 228, 241, 254, 287, 310, 359, 372, 395, 418, 431, 474, 487, 510, 543, 566, 599, 622, 655, 678, 712, 735, 778, 821], 119) by decide +kernel) (by omega) (by omega) (by omega) (by decide) (by decide) (l_c9 h2 hi6 hL hJ next)
      · exact am_r_tabIn (off := 395) (tg := 428) (show decode code 33 = .ok (.tableswitch 854 0 25 #[119, 182, 205, 228, 241, 254, 287, 310, 359, 372, 395, 418, 431, 474, 487, 510, 543, 566, 599, 622, 655, 678, 712, 735, 778, 821], 119) by decide +kernel) (by omega) (by omega) (by omega) (by decide) (by decide) (l_c10 h2 hi6 hL hJ next)
      · exact am_r_tabIn (off := 418) (tg := 451) (show decode code 33 = .ok (.tableswitch 854 0 25 #[119, 182, 205, 228, 241, 254, 287, 310, 359, 372, 395, 418, 431, 474, 487, 510, 543, 566, 599, 622, 655, 678, 712, 735, 778, 821], 119) by decide +kernel) (by omega) (by omega) (by omega) (by decide) (by decide) (l_c11 h2 hi6 hL hJ next)
      · exact am_r_tabIn (off := 431) (tg := 464) (show decode code 33 = .ok (.tableswitch 854 0 25 #[119, 182, 205, 228, 241, 254, 287, 310, 359, 372, 395, 418, 431, 474, 487, 510, 543, 566, 599, 622, 655, 678, 712, 735, 778, 821], 119) by decide +kernel) (by omega) (by omega) (by omega) (by decide) (by decide) (l_c12 h2 hi6 hL hJ next)
      · exact am_r_tabIn (off := 474) (tg := 507) (show decode code 33 = .ok (.tableswitch 854 0 25 #[119, 182, 205, 228, 241, 254, 287, 310, 359, 372, 395, 418, 431, 474, 487, 510, 543, 566, 599, 622, 655, 678, 712, 735, 778, 821], 119) by decide +kernel) (by omega) (by omega) (by omega) (by decide) (by decide) (l_c13 h2 hi6 hL hJ next)
      · exact am_r_tabIn (off := 487) (tg := 520) (show decode code 33 = .ok (.tableswitch 854 0 25 #[119, 182, 205, 228, 241, 254, 287, 310, 359, 372, 395, 418, 431, 474, 487, 510, 543, 566, 599, 622, 655, 678, 712, 735, 778, 821], 119) by decide +kernel) (by omega) (by omega) (by omega) (by decide) (by decide) (l_c14 h2 hi6 hL hJ next)
      · exact am_r_tabIn (off := 510) (tg := 543) (show decode code 33 = .ok (.tableswitch 854 0 25 #[119, 182, 205, 228, 241, 254, 287, 310, 359, 372, 395, 418, 431, 474, 487, 510, 543, 566, 599, 622, 655, 678, 712, 735, 778, 821], 119) by decide +kernel) (by omega) (by omega) (by omega) (by decide) (by decide) (l_c15 h2 hi6 hL hJ next)
      · exact am_r_tabIn (off := 543) (tg := 576) (show decode code 33 = .ok (.tableswitch 854 0 25 #[119, 182, 205, 228, 241, 254, 287, 310, 359, 372, 395, 418, 431, 474, 487, 510, 543, 566, 599, 622, 655, 678, 712, 735, 778, 821], 119) by decide +kernel) (by omega) (by omega) (by omega) (by decide) (by decide) (l_c16 h2 hi6 hL hJ next)
      · exact am_r_tabIn (off := 566) (tg := 599) (show decode code 33 = .ok (.tableswitch 854 0 25 #[119, 182, 205, 228, 241, 254, 287, 310, 359, 372, 395, 418, 431, 474, 487, 510, 543, 566, 599, 622, 655, 678, 712, 735, 778, 821], 119) by decide +kernel) (by omega) (by omega) (by omega) (by decide) (by decide) (l_c17 h2 hi6 hL hJ next)
      · exact am_r_tabIn (off := 599) (tg := 632) (show decode code 33 = .ok (.tableswitch 854 0 25 #[119, 182, 205, 228, 241, 254, 287, 310, 359, 372, 395, 418, 431, 474, 487, 510, 543, 566, 599, 622, 655, 678, 712, 735, 778, 821], 119) by decide +kernel) (by omega) (by omega) (by omega) (by decide) (by decide) (l_c18 h2 hi6 hL hJ next)
      · exact am_r_tabIn (off := 622) (tg := 655) (show decode code 33 = .ok (.tableswitch 854 0 25 #[119, 182, 205, 228, 241, 254, 287, 310, 359, 372, 395, 418, 431, 474, 487, 510, 543, 566, 599, 622, 655, 678, 712, 735, 778, 821], 119) by decide +kernel) (by omega) (by omega) (by omega) (by decide) (by decide) (l_c19 h2 hi6 hL hJ next)
      · exact am_r_tabIn (off := 655) (tg := 688) (show decode code 33 = .ok (.tableswitch 854 0 25 #[119, 182, 205, 228, 241, 254, 287, 310, 359, 372, 395, 418, 431, 474, 487, 510, 543, 566, 599, 622, 655, 678, 712, 735, 778, 821], 119) by decide +kernel) (by omega) (by omega) (by omega) (by decide) (by decide) (l_c20 h2 hi6 hL hJ next)
      · exact am_r_tabIn (off := 678) (tg := 711) (show decode code 33 = .ok (.tableswitch 854 0 25 #[119, 182, 205, 228, 241, 254, 287, 310, 359, 372, 395, 418, 431, 474, 487, 510, 543, 566, 599, 622, 655, 678, 712, 735, 778, 821], 119) by decide +kernel) (by omega) (by omega) (by omega) (by decide) (by decide) (l_c21 h2 hi6 hL hJ next)
      · exact am_r_tabIn (off := 712) (tg := 745) (show decode code 33 = .ok (.tableswitch 854 0 25 #[119, 182, 205, 228, 241, 254, 287, 310, 359, 372, 395, 418, 431, 474, 487, 510, 543, 566, 599, 622, 655, 678, 712, 735, 778, 821], 119) by decide +kernel) (by omega) (by omega) (by omega) (by decide) (by decide) (l_c22 h2 hi6 hL hJ next)
      · exact am_r_tabIn (off := 735) (tg := 768) (show decode code 33 = .ok (.tableswitch 854 0 25 #[119, 182, 205, 228, 241, 254, 287, 310, 359, 372, 395, 418, 431, 474, 487, 510, 543, 566, 599, 622, 655, 678, 712, 735, 778, 821], 119) by decide +kernel) (by omega) (by omega) (by omega) (by decide) (by decide) (l_c23 h2 hi6 hL hJ next)
      · exact am_r_tabIn (off := 778) (tg := 811) (show decode code 33 = .ok (.tableswitch 854 0 25 #[119, 182, 205, 228, 241, 254, 287, 310, 359, 372, 395, 418, 431, 474, 487, 510, 543, 566, 599, 622, 655, 678, 712, 735, 778, 821], 119) by decide +kernel) (by omega) (by omega) (by omega) (by decide) (by decide) (l_c24 h2 hi6 hL hJ next)
      · exact am_r_tabIn (off := 821) (tg := 854) (show decode code 33 = .ok (.tableswitch 854 0 25 #[119, 182, 205, 228, 241, 254, 287, 310, 359, 372, 395, 418, 431, 474, 487, 510, 543, 566, 599, 622, 655, 678, 712, 735, 778, 821], 119) by decide +kernel) (by omega) (by omega) (by omega) (by decide) (by decide) (l_c25 h2 hi6 hL hJ next)
end
