section
variable {G : am_G} {L : Nat} {xs : Nat → Int32} {σ : am_D} {i : Int}
theorem l_c18 (h0 : 0 ≤ i) (h1 : i + 6 ≤ L) (hL : L ≤ 3072) (hJ : ab_J σ) (next : ∀ σ' : am_D, ab_J σ' → am_X (lw_F G L xs) mL (137, 119026) 887 (lw_ls i) [] (am_K0, σ')) : am_X (lw_F G L xs) mL (137, 119026) 632 (lw_ls i) [] (am_K0, σ) := by
  refine am_r_aload_n (nx := 633) rfl rfl (show decode code 632 = .ok (.aload_n 1, 1) by decide +kernel) rfl ?_
  refine am_r_aload_nS (nx := 634) rfl rfl (show decode code 633 = .ok (.aload_n 0, 1) by decide +kernel) rfl ?_
  refine am_r_iload_n (nx := 635) rfl rfl (show decode code 634 = .ok (.iload_n 3, 1) by decide +kernel) rfl ?_
  refine am_r_iconst (nx := 636) (show decode code 635 = .ok (.iconst 1, 1) by decide +kernel) rfl ?_
  refine am_r_iadd (nx := 637) (show decode code 636 = .ok (.iadd, 1) by decide +kernel) rfl ?_
  refine am_r_sld (nx := 638) (by omega) (by omega) hL (show decode code 637 = .ok (.iaload, 1) by decide +kernel) rfl ?_
  refine am_r_callV (d := 60) (mc := 0) (ms := 0) (as := [am_i (lw_v xs (i + 1))]) (st := []) (j_peak (lw_r _ _) hJ) mb_X10_peak mv_X10_peak (Or.inl ml_L_92) ob_0 (by omega) (r := (RX10, TX10, 14)) rfl rfl rfl rfl (Nat.le_of_ble_eq_true rfl) ⟨Nat.le_of_ble_eq_true rfl, Nat.le_of_ble_eq_true rfl⟩ ⟨Nat.le_of_ble_eq_true rfl, Nat.le_of_ble_eq_true rfl⟩ (show decode code 638 = .ok (.invokevirtual 92, 3) by decide +kernel) ?_
  rintro _ _ ⟨x, σ1, rfl, rfl, hq⟩ _
  refine am_r_aload_n (nx := 642) rfl rfl (show decode code 641 = .ok (.aload_n 2, 1) by decide +kernel) rfl ?_
  refine am_r_aload_nS (nx := 643) rfl rfl (show decode code 642 = .ok (.aload_n 0, 1) by decide +kernel) rfl ?_
  refine am_r_iload_n (nx := 644) rfl rfl (show decode code 643 = .ok (.iload_n 3, 1) by decide +kernel) rfl ?_
  refine am_r_iconst (nx := 645) (show decode code 644 = .ok (.iconst 1, 1) by decide +kernel) rfl ?_
  refine am_r_iadd (nx := 646) (show decode code 645 = .ok (.iadd, 1) by decide +kernel) rfl ?_
  refine am_r_sld (nx := 647) (by omega) (by omega) hL (show decode code 646 = .ok (.iaload, 1) by decide +kernel) rfl ?_
  refine am_r_callV (d := 60) (mc := 0) (ms := 0) (as := [am_i (lw_v xs (i + 1))]) (st := [am_i x]) hq mb_X11_peak mv_X11_peak (Or.inl ml_L_95) ob_91 (by omega) (r := (RX11, TX11, 63)) rfl rfl rfl rfl (Nat.le_of_ble_eq_true rfl) ⟨Nat.le_of_ble_eq_true rfl, Nat.le_of_ble_eq_true rfl⟩ ⟨Nat.le_of_ble_eq_true rfl, Nat.le_of_ble_eq_true rfl⟩ (show decode code 647 = .ok (.invokevirtual 95, 3) by decide +kernel) ?_
  rintro _ _ ⟨_, σ2, rfl, rfl, rfl, hJ2⟩ _
  exact am_r_icmp_same (tg := 887) (show decode code 650 = .ok (.if_icmp .eq 237, 3) by decide +kernel) (by decide) (next σ2 hJ2)
theorem l_c19 (h0 : 0 ≤ i) (h1 : i + 6 ≤ L) (hL : L ≤ 3072) (hJ : ab_J σ) (next : ∀ σ' : am_D, ab_J σ' → am_X (lw_F G L xs) mL (137, 119026) 887 (lw_ls i) [] (am_K0, σ')) : am_X (lw_F G L xs) mL (137, 119026) 655 (lw_ls i) [] (am_K0, σ) := by
  refine am_r_aload_n (nx := 656) rfl rfl (show decode code 655 = .ok (.aload_n 1, 1) by decide +kernel) rfl ?_
  refine am_r_aload_nS (nx := 657) rfl rfl (show decode code 656 = .ok (.aload_n 0, 1) by decide +kernel) rfl ?_
  refine am_r_iload_n (nx := 658) rfl rfl (show decode code 657 = .ok (.iload_n 3, 1) by decide +kernel) rfl ?_
  refine am_r_iconst (nx := 659) (show decode code 658 = .ok (.iconst 1, 1) by decide +kernel) rfl ?_
  refine am_r_iadd (nx := 660) (show decode code 659 = .ok (.iadd, 1) by decide +kernel) rfl ?_
  refine am_r_sld (nx := 661) (by omega) (by omega) hL (show decode code 660 = .ok (.iaload, 1) by decide +kernel) rfl ?_
  refine am_r_aload_nS (nx := 662) rfl rfl (show decode code 661 = .ok (.aload_n 0, 1) by decide +kernel) rfl ?_
  refine am_r_iload_n (nx := 663) rfl rfl (show decode code 662 = .ok (.iload_n 3, 1) by decide +kernel) rfl ?_
  refine am_r_iconst (nx := 664) (show decode code 663 = .ok (.iconst 2, 1) by decide +kernel) rfl ?_
  refine am_r_iadd (nx := 665) (show decode code 664 = .ok (.iadd, 1) by decide +kernel) rfl ?_
  refine am_r_sld (nx := 666) (by omega) (by omega) hL (show decode code 665 = .ok (.iaload, 1) by decide +kernel) rfl ?_
  refine am_r_callV (d := 60) (mc := 0) (ms := 0) (as := [am_i (lw_v xs (i + 1)), am_i (lw_v xs (i + 2))]) (st := []) (j_bound (lw_r _ _) (lw_r _ _) hJ) mb_X10_bound mv_X10_bound (Or.inl ml_L_96) ob_0 (by omega) (r := (RX10, TX10, 14)) rfl rfl rfl rfl (Nat.le_of_ble_eq_true rfl) ⟨Nat.le_of_ble_eq_true rfl, Nat.le_of_ble_eq_true rfl⟩ ⟨Nat.le_of_ble_eq_true rfl, Nat.le_of_ble_eq_true rfl⟩ (show decode code 666 = .ok (.invokevirtual 96, 3) by decide +kernel) ?_
  rintro _ _ ⟨x, σ1, rfl, rfl, hq⟩ _
  refine am_r_aload_n (nx := 670) rfl rfl (show decode code 669 = .ok (.aload_n 2, 1) by decide +kernel) rfl ?_
  refine am_r_aload_nS (nx := 671) rfl rfl (show decode code 670 = .ok (.aload_n 0, 1) by decide +kernel) rfl ?_
  refine am_r_iload_n (nx := 672) rfl rfl (show decode code 671 = .ok (.iload_n 3, 1) by decide +kernel) rfl ?_
  refine am_r_iconst (nx := 673) (show decode code 672 = .ok (.iconst 1, 1) by decide +kernel) rfl ?_
  refine am_r_iadd (nx := 674) (show decode code 673 = .ok (.iadd, 1) by decide +kernel) rfl ?_
  refine am_r_sld (nx := 675) (by omega) (by omega) hL (show decode code 674 = .ok (.iaload, 1) by decide +kernel) rfl ?_
  refine am_r_aload_nS (nx := 676) rfl rfl (show decode code 675 = .ok (.aload_n 0, 1) by decide +kernel) rfl ?_
  refine am_r_iload_n (nx := 677) rfl rfl (show decode code 676 = .ok (.iload_n 3, 1) by decide +kernel) rfl ?_
  refine am_r_iconst (nx := 678) (show decode code 677 = .ok (.iconst 2, 1) by decide +kernel) rfl ?_
  refine am_r_iadd (nx := 679) (show decode code 678 = .ok (.iadd, 1) by decide +kernel) rfl ?_
  refine am_r_sld (nx := 680) (by omega) (by omega) hL (show decode code 679 = .ok (.iaload, 1) by decide +kernel) rfl ?_
  refine am_r_callV (d := 60) (mc := 0) (ms := 0) (as := [am_i (lw_v xs (i + 1)), am_i (lw_v xs (i + 2))]) (st := [am_i x]) hq mb_X11_bound mv_X11_bound (Or.inl ml_L_99) ob_91 (by omega) (r := (RX11, TX11, 63)) rfl rfl rfl rfl (Nat.le_of_ble_eq_true rfl) ⟨Nat.le_of_ble_eq_true rfl, Nat.le_of_ble_eq_true rfl⟩ ⟨Nat.le_of_ble_eq_true rfl, Nat.le_of_ble_eq_true rfl⟩ (show decode code 680 = .ok (.invokevirtual 99, 3) by decide +kernel) ?_
  rintro _ _ ⟨_, σ2, rfl, rfl, rfl, hJ2⟩ _
  exact am_r_icmp_same (tg := 887) (show decode code 683 = .ok (.if_icmp .eq 204, 3) by decide +kernel) (by decide) (next σ2 hJ2)
theorem l_c20 (h0 : 0 ≤ i) (h1 : i + 6 ≤ L) (hL : L ≤ 3072) (hJ : ab_J σ) (next : ∀ σ' : am_D, ab_J σ' → am_X (lw_F G L xs) mL (137, 119026) 887 (lw_ls i) [] (am_K0, σ')) : am_X (lw_F G L xs) mL (137, 119026) 688 (lw_ls i) [] (am_K0, σ) := by
  refine am_r_aload_n (nx := 689) rfl rfl (show decode code 688 = .ok (.aload_n 1, 1) by decide +kernel) rfl ?_
  refine am_r_aload_nS (nx := 690) rfl rfl (show decode code 689 = .ok (.aload_n 0, 1) by decide +kernel) rfl ?_
  refine am_r_iload_n (nx := 691) rfl rfl (show decode code 690 = .ok (.iload_n 3, 1) by decide +kernel) rfl ?_
  refine am_r_iconst (nx := 692) (show decode code 691 = .ok (.iconst 1, 1) by decide +kernel) rfl ?_
  refine am_r_iadd (nx := 693) (show decode code 692 = .ok (.iadd, 1) by decide +kernel) rfl ?_
  refine am_r_sld (nx := 694) (by omega) (by omega) hL (show decode code 693 = .ok (.iaload, 1) by decide +kernel) rfl ?_
  refine am_r_callV (d := 60) (mc := 0) (ms := 0) (as := [am_i (lw_v xs (i + 1))]) (st := []) (j_states (lw_r _ _) hJ) mb_X10_states mv_X10_states (Or.inl ml_L_100) ob_0 (by omega) (r := (RX10, TX10, 14)) rfl rfl rfl rfl (Nat.le_of_ble_eq_true rfl) ⟨Nat.le_of_ble_eq_true rfl, Nat.le_of_ble_eq_true rfl⟩ ⟨Nat.le_of_ble_eq_true rfl, Nat.le_of_ble_eq_true rfl⟩ (show decode code 694 = .ok (.invokevirtual 100, 3) by decide +kernel) ?_
  rintro _ _ ⟨x, σ1, rfl, rfl, hq⟩ _
  refine am_r_aload_n (nx := 698) rfl rfl (show decode code 697 = .ok (.aload_n 2, 1) by decide +kernel) rfl ?_
  refine am_r_aload_nS (nx := 699) rfl rfl (show decode code 698 = .ok (.aload_n 0, 1) by decide +kernel) rfl ?_
  refine am_r_iload_n (nx := 700) rfl rfl (show decode code 699 = .ok (.iload_n 3, 1) by decide +kernel) rfl ?_
  refine am_r_iconst (nx := 701) (show decode code 700 = .ok (.iconst 1, 1) by decide +kernel) rfl ?_
  refine am_r_iadd (nx := 702) (show decode code 701 = .ok (.iadd, 1) by decide +kernel) rfl ?_
  refine am_r_sld (nx := 703) (by omega) (by omega) hL (show decode code 702 = .ok (.iaload, 1) by decide +kernel) rfl ?_
  refine am_r_callV (d := 60) (mc := 0) (ms := 0) (as := [am_i (lw_v xs (i + 1))]) (st := [am_i x]) hq mb_X11_states mv_X11_states (Or.inl ml_L_103) ob_91 (by omega) (r := (RX11, TX11, 63)) rfl rfl rfl rfl (Nat.le_of_ble_eq_true rfl) ⟨Nat.le_of_ble_eq_true rfl, Nat.le_of_ble_eq_true rfl⟩ ⟨Nat.le_of_ble_eq_true rfl, Nat.le_of_ble_eq_true rfl⟩ (show decode code 703 = .ok (.invokevirtual 103, 3) by decide +kernel) ?_
  rintro _ _ ⟨_, σ2, rfl, rfl, rfl, hJ2⟩ _
  exact am_r_icmp_same (tg := 887) (show decode code 706 = .ok (.if_icmp .eq 181, 3) by decide +kernel) (by decide) (next σ2 hJ2)
theorem l_c21 (h0 : 0 ≤ i) (h1 : i + 6 ≤ L) (hL : L ≤ 3072) (hJ : ab_J σ) (next : ∀ σ' : am_D, ab_J σ' → am_X (lw_F G L xs) mL (137, 119026) 887 (lw_ls i) [] (am_K0, σ')) : am_X (lw_F G L xs) mL (137, 119026) 711 (lw_ls i) [] (am_K0, σ) := by
  refine am_r_aload_n (nx := 712) rfl rfl (show decode code 711 = .ok (.aload_n 1, 1) by decide +kernel) rfl ?_
  refine am_r_aload_nS (nx := 713) rfl rfl (show decode code 712 = .ok (.aload_n 0, 1) by decide +kernel) rfl ?_
  refine am_r_iload_n (nx := 714) rfl rfl (show decode code 713 = .ok (.iload_n 3, 1) by decide +kernel) rfl ?_
  refine am_r_iconst (nx := 715) (show decode code 714 = .ok (.iconst 1, 1) by decide +kernel) rfl ?_
  refine am_r_iadd (nx := 716) (show decode code 715 = .ok (.iadd, 1) by decide +kernel) rfl ?_
  refine am_r_sld (nx := 717) (by omega) (by omega) hL (show decode code 716 = .ok (.iaload, 1) by decide +kernel) rfl ?_
  refine am_r_aload_nS (nx := 718) rfl rfl (show decode code 717 = .ok (.aload_n 0, 1) by decide +kernel) rfl ?_
  refine am_r_iload_n (nx := 719) rfl rfl (show decode code 718 = .ok (.iload_n 3, 1) by decide +kernel) rfl ?_
  refine am_r_iconst (nx := 720) (show decode code 719 = .ok (.iconst 2, 1) by decide +kernel) rfl ?_
  refine am_r_iadd (nx := 721) (show decode code 720 = .ok (.iadd, 1) by decide +kernel) rfl ?_
  refine am_r_sld (nx := 722) (by omega) (by omega) hL (show decode code 721 = .ok (.iaload, 1) by decide +kernel) rfl ?_
  refine am_r_callV (d := 60) (mc := 0) (ms := 0) (as := [am_i (lw_v xs (i + 1)), am_i (lw_v xs (i + 2))]) (st := []) (j_many (lw_r _ _) (lw_r _ _) hJ) mb_X10_many mv_X10_many (Or.inl ml_L_104) ob_0 (by omega) (r := (RX10, TX10, 14)) rfl rfl rfl rfl (Nat.le_of_ble_eq_true rfl) ⟨Nat.le_of_ble_eq_true rfl, Nat.le_of_ble_eq_true rfl⟩ ⟨Nat.le_of_ble_eq_true rfl, Nat.le_of_ble_eq_true rfl⟩ (show decode code 722 = .ok (.invokevirtual 104, 3) by decide +kernel) ?_
  rintro _ _ ⟨x, σ1, rfl, rfl, hq⟩ _
  refine am_r_aload_n (nx := 726) rfl rfl (show decode code 725 = .ok (.aload_n 2, 1) by decide +kernel) rfl ?_
  refine am_r_aload_nS (nx := 727) rfl rfl (show decode code 726 = .ok (.aload_n 0, 1) by decide +kernel) rfl ?_
  refine am_r_iload_n (nx := 728) rfl rfl (show decode code 727 = .ok (.iload_n 3, 1) by decide +kernel) rfl ?_
  refine am_r_iconst (nx := 729) (show decode code 728 = .ok (.iconst 1, 1) by decide +kernel) rfl ?_
  refine am_r_iadd (nx := 730) (show decode code 729 = .ok (.iadd, 1) by decide +kernel) rfl ?_
  refine am_r_sld (nx := 731) (by omega) (by omega) hL (show decode code 730 = .ok (.iaload, 1) by decide +kernel) rfl ?_
  refine am_r_aload_nS (nx := 732) rfl rfl (show decode code 731 = .ok (.aload_n 0, 1) by decide +kernel) rfl ?_
  refine am_r_iload_n (nx := 733) rfl rfl (show decode code 732 = .ok (.iload_n 3, 1) by decide +kernel) rfl ?_
  refine am_r_iconst (nx := 734) (show decode code 733 = .ok (.iconst 2, 1) by decide +kernel) rfl ?_
  refine am_r_iadd (nx := 735) (show decode code 734 = .ok (.iadd, 1) by decide +kernel) rfl ?_
  refine am_r_sld (nx := 736) (by omega) (by omega) hL (show decode code 735 = .ok (.iaload, 1) by decide +kernel) rfl ?_
  refine am_r_callV (d := 60) (mc := 0) (ms := 0) (as := [am_i (lw_v xs (i + 1)), am_i (lw_v xs (i + 2))]) (st := [am_l x]) hq mb_X11_many mv_X11_many (Or.inl ml_L_108) ob_91 (by omega) (r := (RX11, TX11, 63)) rfl rfl rfl rfl (Nat.le_of_ble_eq_true rfl) ⟨Nat.le_of_ble_eq_true rfl, Nat.le_of_ble_eq_true rfl⟩ ⟨Nat.le_of_ble_eq_true rfl, Nat.le_of_ble_eq_true rfl⟩ (show decode code 736 = .ok (.invokevirtual 108, 3) by decide +kernel) ?_
  rintro _ _ ⟨_, σ2, rfl, rfl, rfl, hJ2⟩ _
  exact am_r_lcmp_same (tg := 887) (show decode code 739 = .ok (.lcmp, 1) by decide +kernel) (show decode code 740 = .ok (.ifCond .eq 147, 3) by decide +kernel) (by decide) (next σ2 hJ2)
theorem l_c22 (h0 : 0 ≤ i) (h1 : i + 6 ≤ L) (hL : L ≤ 3072) (hJ : ab_J σ) (next : ∀ σ' : am_D, ab_J σ' → am_X (lw_F G L xs) mL (137, 119026) 887 (lw_ls i) [] (am_K0, σ')) : am_X (lw_F G L xs) mL (137, 119026) 745 (lw_ls i) [] (am_K0, σ) := by
  refine am_r_aload_n (nx := 746) rfl rfl (show decode code 745 = .ok (.aload_n 1, 1) by decide +kernel) rfl ?_
  refine am_r_aload_nS (nx := 747) rfl rfl (show decode code 746 = .ok (.aload_n 0, 1) by decide +kernel) rfl ?_
  refine am_r_iload_n (nx := 748) rfl rfl (show decode code 747 = .ok (.iload_n 3, 1) by decide +kernel) rfl ?_
  refine am_r_iconst (nx := 749) (show decode code 748 = .ok (.iconst 1, 1) by decide +kernel) rfl ?_
  refine am_r_iadd (nx := 750) (show decode code 749 = .ok (.iadd, 1) by decide +kernel) rfl ?_
  refine am_r_sld (nx := 751) (by omega) (by omega) hL (show decode code 750 = .ok (.iaload, 1) by decide +kernel) rfl ?_
  refine am_r_callV (d := 60) (mc := 0) (ms := 0) (as := [am_i (lw_v xs (i + 1))]) (st := []) (j_least (lw_r _ _) hJ) mb_X10_least mv_X10_least (Or.inl ml_L_109) ob_0 (by omega) (r := (RX10, TX10, 14)) rfl rfl rfl rfl (Nat.le_of_ble_eq_true rfl) ⟨Nat.le_of_ble_eq_true rfl, Nat.le_of_ble_eq_true rfl⟩ ⟨Nat.le_of_ble_eq_true rfl, Nat.le_of_ble_eq_true rfl⟩ (show decode code 751 = .ok (.invokevirtual 109, 3) by decide +kernel) ?_
  rintro _ _ ⟨x, σ1, rfl, rfl, hq⟩ _
  refine am_r_aload_n (nx := 755) rfl rfl (show decode code 754 = .ok (.aload_n 2, 1) by decide +kernel) rfl ?_
  refine am_r_aload_nS (nx := 756) rfl rfl (show decode code 755 = .ok (.aload_n 0, 1) by decide +kernel) rfl ?_
  refine am_r_iload_n (nx := 757) rfl rfl (show decode code 756 = .ok (.iload_n 3, 1) by decide +kernel) rfl ?_
  refine am_r_iconst (nx := 758) (show decode code 757 = .ok (.iconst 1, 1) by decide +kernel) rfl ?_
  refine am_r_iadd (nx := 759) (show decode code 758 = .ok (.iadd, 1) by decide +kernel) rfl ?_
  refine am_r_sld (nx := 760) (by omega) (by omega) hL (show decode code 759 = .ok (.iaload, 1) by decide +kernel) rfl ?_
  refine am_r_callV (d := 60) (mc := 0) (ms := 0) (as := [am_i (lw_v xs (i + 1))]) (st := [am_i x]) hq mb_X11_least mv_X11_least (Or.inl ml_L_112) ob_91 (by omega) (r := (RX11, TX11, 63)) rfl rfl rfl rfl (Nat.le_of_ble_eq_true rfl) ⟨Nat.le_of_ble_eq_true rfl, Nat.le_of_ble_eq_true rfl⟩ ⟨Nat.le_of_ble_eq_true rfl, Nat.le_of_ble_eq_true rfl⟩ (show decode code 760 = .ok (.invokevirtual 112, 3) by decide +kernel) ?_
  rintro _ _ ⟨_, σ2, rfl, rfl, rfl, hJ2⟩ _
  exact am_r_icmp_same (tg := 887) (show decode code 763 = .ok (.if_icmp .eq 124, 3) by decide +kernel) (by decide) (next σ2 hJ2)
theorem l_c23 (h0 : 0 ≤ i) (h1 : i + 6 ≤ L) (hL : L ≤ 3072) (hJ : ab_J σ) (next : ∀ σ' : am_D, ab_J σ' → am_X (lw_F G L xs) mL (137, 119026) 887 (lw_ls i) [] (am_K0, σ')) : am_X (lw_F G L xs) mL (137, 119026) 768 (lw_ls i) [] (am_K0, σ) := by
  refine am_r_aload_n (nx := 769) rfl rfl (show decode code 768 = .ok (.aload_n 1, 1) by decide +kernel) rfl ?_
  refine am_r_aload_nS (nx := 770) rfl rfl (show decode code 769 = .ok (.aload_n 0, 1) by decide +kernel) rfl ?_
  refine am_r_iload_n (nx := 771) rfl rfl (show decode code 770 = .ok (.iload_n 3, 1) by decide +kernel) rfl ?_
  refine am_r_iconst (nx := 772) (show decode code 771 = .ok (.iconst 1, 1) by decide +kernel) rfl ?_
  refine am_r_iadd (nx := 773) (show decode code 772 = .ok (.iadd, 1) by decide +kernel) rfl ?_
  refine am_r_sld (nx := 774) (by omega) (by omega) hL (show decode code 773 = .ok (.iaload, 1) by decide +kernel) rfl ?_
  refine am_r_aload_nS (nx := 775) rfl rfl (show decode code 774 = .ok (.aload_n 0, 1) by decide +kernel) rfl ?_
  refine am_r_iload_n (nx := 776) rfl rfl (show decode code 775 = .ok (.iload_n 3, 1) by decide +kernel) rfl ?_
  refine am_r_iconst (nx := 777) (show decode code 776 = .ok (.iconst 2, 1) by decide +kernel) rfl ?_
  refine am_r_iadd (nx := 778) (show decode code 777 = .ok (.iadd, 1) by decide +kernel) rfl ?_
  refine am_r_sld (nx := 779) (by omega) (by omega) hL (show decode code 778 = .ok (.iaload, 1) by decide +kernel) rfl ?_
  refine am_r_aload_nS (nx := 780) rfl rfl (show decode code 779 = .ok (.aload_n 0, 1) by decide +kernel) rfl ?_
  refine am_r_iload_n (nx := 781) rfl rfl (show decode code 780 = .ok (.iload_n 3, 1) by decide +kernel) rfl ?_
  refine am_r_iconst (nx := 782) (show decode code 781 = .ok (.iconst 3, 1) by decide +kernel) rfl ?_
  refine am_r_iadd (nx := 783) (show decode code 782 = .ok (.iadd, 1) by decide +kernel) rfl ?_
  refine am_r_sld (nx := 784) (by omega) (by omega) hL (show decode code 783 = .ok (.iaload, 1) by decide +kernel) rfl ?_
  refine am_r_callV (d := 60) (mc := 0) (ms := 0) (as := [am_i (lw_v xs (i + 1)), am_i (lw_v xs (i + 2)), am_i (lw_v xs (i + 3))]) (st := []) (j_differ (lw_r _ _) (lw_r _ _) (lw_r _ _) hJ) mb_X10_differ mv_X10_differ (Or.inl ml_L_113) ob_0 (by omega) (r := (RX10, TX10, 14)) rfl rfl rfl rfl (Nat.le_of_ble_eq_true rfl) ⟨Nat.le_of_ble_eq_true rfl, Nat.le_of_ble_eq_true rfl⟩ ⟨Nat.le_of_ble_eq_true rfl, Nat.le_of_ble_eq_true rfl⟩ (show decode code 784 = .ok (.invokevirtual 113, 3) by decide +kernel) ?_
  rintro _ _ ⟨x, σ1, rfl, rfl, hq⟩ _
  refine am_r_aload_n (nx := 788) rfl rfl (show decode code 787 = .ok (.aload_n 2, 1) by decide +kernel) rfl ?_
  refine am_r_aload_nS (nx := 789) rfl rfl (show decode code 788 = .ok (.aload_n 0, 1) by decide +kernel) rfl ?_
  refine am_r_iload_n (nx := 790) rfl rfl (show decode code 789 = .ok (.iload_n 3, 1) by decide +kernel) rfl ?_
  refine am_r_iconst (nx := 791) (show decode code 790 = .ok (.iconst 1, 1) by decide +kernel) rfl ?_
  refine am_r_iadd (nx := 792) (show decode code 791 = .ok (.iadd, 1) by decide +kernel) rfl ?_
  refine am_r_sld (nx := 793) (by omega) (by omega) hL (show decode code 792 = .ok (.iaload, 1) by decide +kernel) rfl ?_
  refine am_r_aload_nS (nx := 794) rfl rfl (show decode code 793 = .ok (.aload_n 0, 1) by decide +kernel) rfl ?_
  refine am_r_iload_n (nx := 795) rfl rfl (show decode code 794 = .ok (.iload_n 3, 1) by decide +kernel) rfl ?_
  refine am_r_iconst (nx := 796) (show decode code 795 = .ok (.iconst 2, 1) by decide +kernel) rfl ?_
  refine am_r_iadd (nx := 797) (show decode code 796 = .ok (.iadd, 1) by decide +kernel) rfl ?_
  refine am_r_sld (nx := 798) (by omega) (by omega) hL (show decode code 797 = .ok (.iaload, 1) by decide +kernel) rfl ?_
  refine am_r_aload_nS (nx := 799) rfl rfl (show decode code 798 = .ok (.aload_n 0, 1) by decide +kernel) rfl ?_
  refine am_r_iload_n (nx := 800) rfl rfl (show decode code 799 = .ok (.iload_n 3, 1) by decide +kernel) rfl ?_
  refine am_r_iconst (nx := 801) (show decode code 800 = .ok (.iconst 3, 1) by decide +kernel) rfl ?_
  refine am_r_iadd (nx := 802) (show decode code 801 = .ok (.iadd, 1) by decide +kernel) rfl ?_
  refine am_r_sld (nx := 803) (by omega) (by omega) hL (show decode code 802 = .ok (.iaload, 1) by decide +kernel) rfl ?_
  refine am_r_callV (d := 60) (mc := 0) (ms := 0) (as := [am_i (lw_v xs (i + 1)), am_i (lw_v xs (i + 2)), am_i (lw_v xs (i + 3))]) (st := [am_i x]) hq mb_X11_differ mv_X11_differ (Or.inl ml_L_116) ob_91 (by omega) (r := (RX11, TX11, 63)) rfl rfl rfl rfl (Nat.le_of_ble_eq_true rfl) ⟨Nat.le_of_ble_eq_true rfl, Nat.le_of_ble_eq_true rfl⟩ ⟨Nat.le_of_ble_eq_true rfl, Nat.le_of_ble_eq_true rfl⟩ (show decode code 803 = .ok (.invokevirtual 116, 3) by decide +kernel) ?_
  rintro _ _ ⟨_, σ2, rfl, rfl, rfl, hJ2⟩ _
  exact am_r_icmp_same (tg := 887) (show decode code 806 = .ok (.if_icmp .eq 81, 3) by decide +kernel) (by decide) (next σ2 hJ2)
theorem l_c24 (h0 : 0 ≤ i) (h1 : i + 6 ≤ L) (hL : L ≤ 3072) (hJ : ab_J σ) (next : ∀ σ' : am_D, ab_J σ' → am_X (lw_F G L xs) mL (137, 119026) 887 (lw_ls i) [] (am_K0, σ')) : am_X (lw_F G L xs) mL (137, 119026) 811 (lw_ls i) [] (am_K0, σ) := by
  refine am_r_aload_n (nx := 812) rfl rfl (show decode code 811 = .ok (.aload_n 1, 1) by decide +kernel) rfl ?_
  refine am_r_aload_nS (nx := 813) rfl rfl (show decode code 812 = .ok (.aload_n 0, 1) by decide +kernel) rfl ?_
  refine am_r_iload_n (nx := 814) rfl rfl (show decode code 813 = .ok (.iload_n 3, 1) by decide +kernel) rfl ?_
  refine am_r_iconst (nx := 815) (show decode code 814 = .ok (.iconst 1, 1) by decide +kernel) rfl ?_
  refine am_r_iadd (nx := 816) (show decode code 815 = .ok (.iadd, 1) by decide +kernel) rfl ?_
  refine am_r_sld (nx := 817) (by omega) (by omega) hL (show decode code 816 = .ok (.iaload, 1) by decide +kernel) rfl ?_
  refine am_r_aload_nS (nx := 818) rfl rfl (show decode code 817 = .ok (.aload_n 0, 1) by decide +kernel) rfl ?_
  refine am_r_iload_n (nx := 819) rfl rfl (show decode code 818 = .ok (.iload_n 3, 1) by decide +kernel) rfl ?_
  refine am_r_iconst (nx := 820) (show decode code 819 = .ok (.iconst 2, 1) by decide +kernel) rfl ?_
  refine am_r_iadd (nx := 821) (show decode code 820 = .ok (.iadd, 1) by decide +kernel) rfl ?_
  refine am_r_sld (nx := 822) (by omega) (by omega) hL (show decode code 821 = .ok (.iaload, 1) by decide +kernel) rfl ?_
  refine am_r_aload_nS (nx := 823) rfl rfl (show decode code 822 = .ok (.aload_n 0, 1) by decide +kernel) rfl ?_
  refine am_r_iload_n (nx := 824) rfl rfl (show decode code 823 = .ok (.iload_n 3, 1) by decide +kernel) rfl ?_
  refine am_r_iconst (nx := 825) (show decode code 824 = .ok (.iconst 3, 1) by decide +kernel) rfl ?_
  refine am_r_iadd (nx := 826) (show decode code 825 = .ok (.iadd, 1) by decide +kernel) rfl ?_
  refine am_r_sld (nx := 827) (by omega) (by omega) hL (show decode code 826 = .ok (.iaload, 1) by decide +kernel) rfl ?_
  refine am_r_callV (d := 60) (mc := 0) (ms := 0) (as := [am_i (lw_v xs (i + 1)), am_i (lw_v xs (i + 2)), am_i (lw_v xs (i + 3))]) (st := []) (j_spoils (lw_r _ _) (lw_r _ _) (lw_r _ _) hJ) mb_X10_spoils mv_X10_spoils (Or.inl ml_L_117) ob_0 (by omega) (r := (RX10, TX10, 14)) rfl rfl rfl rfl (Nat.le_of_ble_eq_true rfl) ⟨Nat.le_of_ble_eq_true rfl, Nat.le_of_ble_eq_true rfl⟩ ⟨Nat.le_of_ble_eq_true rfl, Nat.le_of_ble_eq_true rfl⟩ (show decode code 827 = .ok (.invokevirtual 117, 3) by decide +kernel) ?_
  rintro _ _ ⟨x, σ1, rfl, rfl, hq⟩ _
  refine am_r_aload_n (nx := 831) rfl rfl (show decode code 830 = .ok (.aload_n 2, 1) by decide +kernel) rfl ?_
  refine am_r_aload_nS (nx := 832) rfl rfl (show decode code 831 = .ok (.aload_n 0, 1) by decide +kernel) rfl ?_
  refine am_r_iload_n (nx := 833) rfl rfl (show decode code 832 = .ok (.iload_n 3, 1) by decide +kernel) rfl ?_
  refine am_r_iconst (nx := 834) (show decode code 833 = .ok (.iconst 1, 1) by decide +kernel) rfl ?_
  refine am_r_iadd (nx := 835) (show decode code 834 = .ok (.iadd, 1) by decide +kernel) rfl ?_
  refine am_r_sld (nx := 836) (by omega) (by omega) hL (show decode code 835 = .ok (.iaload, 1) by decide +kernel) rfl ?_
  refine am_r_aload_nS (nx := 837) rfl rfl (show decode code 836 = .ok (.aload_n 0, 1) by decide +kernel) rfl ?_
  refine am_r_iload_n (nx := 838) rfl rfl (show decode code 837 = .ok (.iload_n 3, 1) by decide +kernel) rfl ?_
  refine am_r_iconst (nx := 839) (show decode code 838 = .ok (.iconst 2, 1) by decide +kernel) rfl ?_
  refine am_r_iadd (nx := 840) (show decode code 839 = .ok (.iadd, 1) by decide +kernel) rfl ?_
  refine am_r_sld (nx := 841) (by omega) (by omega) hL (show decode code 840 = .ok (.iaload, 1) by decide +kernel) rfl ?_
  refine am_r_aload_nS (nx := 842) rfl rfl (show decode code 841 = .ok (.aload_n 0, 1) by decide +kernel) rfl ?_
  refine am_r_iload_n (nx := 843) rfl rfl (show decode code 842 = .ok (.iload_n 3, 1) by decide +kernel) rfl ?_
  refine am_r_iconst (nx := 844) (show decode code 843 = .ok (.iconst 3, 1) by decide +kernel) rfl ?_
  refine am_r_iadd (nx := 845) (show decode code 844 = .ok (.iadd, 1) by decide +kernel) rfl ?_
  refine am_r_sld (nx := 846) (by omega) (by omega) hL (show decode code 845 = .ok (.iaload, 1) by decide +kernel) rfl ?_
  refine am_r_callV (d := 60) (mc := 0) (ms := 0) (as := [am_i (lw_v xs (i + 1)), am_i (lw_v xs (i + 2)), am_i (lw_v xs (i + 3))]) (st := [am_i x]) hq mb_X11_spoils mv_X11_spoils (Or.inl ml_L_120) ob_91 (by omega) (r := (RX11, TX11, 63)) rfl rfl rfl rfl (Nat.le_of_ble_eq_true rfl) ⟨Nat.le_of_ble_eq_true rfl, Nat.le_of_ble_eq_true rfl⟩ ⟨Nat.le_of_ble_eq_true rfl, Nat.le_of_ble_eq_true rfl⟩ (show decode code 846 = .ok (.invokevirtual 120, 3) by decide +kernel) ?_
  rintro _ _ ⟨_, σ2, rfl, rfl, rfl, hJ2⟩ _
  exact am_r_icmp_same (tg := 887) (show decode code 849 = .ok (.if_icmp .eq 38, 3) by decide +kernel) (by decide) (next σ2 hJ2)
theorem l_c25 (h0 : 0 ≤ i) (h1 : i + 6 ≤ L) (hL : L ≤ 3072) (hJ : ab_J σ) (next : ∀ σ' : am_D, ab_J σ' → am_X (lw_F G L xs) mL (137, 119026) 887 (lw_ls i) [] (am_K0, σ')) : am_X (lw_F G L xs) mL (137, 119026) 854 (lw_ls i) [] (am_K0, σ) := by
  refine am_r_aload_n (nx := 855) rfl rfl (show decode code 854 = .ok (.aload_n 1, 1) by decide +kernel) rfl ?_
  refine am_r_aload_nS (nx := 856) rfl rfl (show decode code 855 = .ok (.aload_n 0, 1) by decide +kernel) rfl ?_
  refine am_r_iload_n (nx := 857) rfl rfl (show decode code 856 = .ok (.iload_n 3, 1) by decide +kernel) rfl ?_
  refine am_r_iconst (nx := 858) (show decode code 857 = .ok (.iconst 1, 1) by decide +kernel) rfl ?_
  refine am_r_iadd (nx := 859) (show decode code 858 = .ok (.iadd, 1) by decide +kernel) rfl ?_
  refine am_r_sld (nx := 860) (by omega) (by omega) hL (show decode code 859 = .ok (.iaload, 1) by decide +kernel) rfl ?_
  refine am_r_aload_nS (nx := 861) rfl rfl (show decode code 860 = .ok (.aload_n 0, 1) by decide +kernel) rfl ?_
  refine am_r_iload_n (nx := 862) rfl rfl (show decode code 861 = .ok (.iload_n 3, 1) by decide +kernel) rfl ?_
  refine am_r_iconst (nx := 863) (show decode code 862 = .ok (.iconst 2, 1) by decide +kernel) rfl ?_
  refine am_r_iadd (nx := 864) (show decode code 863 = .ok (.iadd, 1) by decide +kernel) rfl ?_
  refine am_r_sld (nx := 865) (by omega) (by omega) hL (show decode code 864 = .ok (.iaload, 1) by decide +kernel) rfl ?_
  refine am_r_callV (d := 60) (mc := 0) (ms := 0) (as := [am_i (lw_v xs (i + 1)), am_i (lw_v xs (i + 2))]) (st := []) (j_safe (lw_r _ _) (lw_r _ _) hJ) mb_X10_safe mv_X10_safe (Or.inl ml_L_121) ob_0 (by omega) (r := (RX10, TX10, 14)) rfl rfl rfl rfl (Nat.le_of_ble_eq_true rfl) ⟨Nat.le_of_ble_eq_true rfl, Nat.le_of_ble_eq_true rfl⟩ ⟨Nat.le_of_ble_eq_true rfl, Nat.le_of_ble_eq_true rfl⟩ (show decode code 865 = .ok (.invokevirtual 121, 3) by decide +kernel) ?_
  rintro _ _ ⟨x, σ1, rfl, rfl, hq⟩ _
  refine am_r_aload_n (nx := 869) rfl rfl (show decode code 868 = .ok (.aload_n 2, 1) by decide +kernel) rfl ?_
  refine am_r_aload_nS (nx := 870) rfl rfl (show decode code 869 = .ok (.aload_n 0, 1) by decide +kernel) rfl ?_
  refine am_r_iload_n (nx := 871) rfl rfl (show decode code 870 = .ok (.iload_n 3, 1) by decide +kernel) rfl ?_
  refine am_r_iconst (nx := 872) (show decode code 871 = .ok (.iconst 1, 1) by decide +kernel) rfl ?_
  refine am_r_iadd (nx := 873) (show decode code 872 = .ok (.iadd, 1) by decide +kernel) rfl ?_
  refine am_r_sld (nx := 874) (by omega) (by omega) hL (show decode code 873 = .ok (.iaload, 1) by decide +kernel) rfl ?_
  refine am_r_aload_nS (nx := 875) rfl rfl (show decode code 874 = .ok (.aload_n 0, 1) by decide +kernel) rfl ?_
  refine am_r_iload_n (nx := 876) rfl rfl (show decode code 875 = .ok (.iload_n 3, 1) by decide +kernel) rfl ?_
  refine am_r_iconst (nx := 877) (show decode code 876 = .ok (.iconst 2, 1) by decide +kernel) rfl ?_
  refine am_r_iadd (nx := 878) (show decode code 877 = .ok (.iadd, 1) by decide +kernel) rfl ?_
  refine am_r_sld (nx := 879) (by omega) (by omega) hL (show decode code 878 = .ok (.iaload, 1) by decide +kernel) rfl ?_
  refine am_r_callV (d := 60) (mc := 0) (ms := 0) (as := [am_i (lw_v xs (i + 1)), am_i (lw_v xs (i + 2))]) (st := [am_i x]) hq mb_X11_safe mv_X11_safe (Or.inl ml_L_124) ob_91 (by omega) (r := (RX11, TX11, 63)) rfl rfl rfl rfl (Nat.le_of_ble_eq_true rfl) ⟨Nat.le_of_ble_eq_true rfl, Nat.le_of_ble_eq_true rfl⟩ ⟨Nat.le_of_ble_eq_true rfl, Nat.le_of_ble_eq_true rfl⟩ (show decode code 879 = .ok (.invokevirtual 124, 3) by decide +kernel) ?_
  rintro _ _ ⟨_, σ2, rfl, rfl, rfl, hJ2⟩ _
  exact am_r_icmp_same (tg := 887) (show decode code 882 = .ok (.if_icmp .eq 5, 3) by decide +kernel) (by decide) (next σ2 hJ2)
end
