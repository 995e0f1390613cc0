section
variable {G : am_G} {L : Nat} {xs : Nat → Int32} {σ : am_D} {i : Int}
theorem l_c9 (h0 : 0 ≤ i) (h1 : i + 6 ≤ L) (hL : L ≤ 3072) (hJ : ab_J σ) (next : ∀ σ' : am_D, ab_J σ' → am_X (lw_F G L xs) mL (137, 119026) 887 (lw_ls i) [] (am_K0, σ')) : am_X (lw_F G L xs) mL (137, 119026) 405 (lw_ls i) [] (am_K0, σ) := by
  refine am_r_aload_n (nx := 406) rfl rfl (show decode code 405 = .ok (.aload_n 1, 1) by decide +kernel) rfl ?_
  refine am_r_aload_nS (nx := 407) rfl rfl (show decode code 406 = .ok (.aload_n 0, 1) by decide +kernel) rfl ?_
  refine am_r_iload_n (nx := 408) rfl rfl (show decode code 407 = .ok (.iload_n 3, 1) by decide +kernel) rfl ?_
  refine am_r_iconst (nx := 409) (show decode code 408 = .ok (.iconst 1, 1) by decide +kernel) rfl ?_
  refine am_r_iadd (nx := 410) (show decode code 409 = .ok (.iadd, 1) by decide +kernel) rfl ?_
  refine am_r_sld (nx := 411) (by omega) (by omega) hL (show decode code 410 = .ok (.iaload, 1) by decide +kernel) rfl ?_
  refine am_r_callV (d := 60) (mc := 0) (ms := 0) (as := [am_i (lw_v xs (i + 1))]) (st := []) (j_begin (lw_r _ _) hJ) mb_X10_begin mv_X10_begin (Or.inl ml_L_55) ob_0 (by omega) (r := (RX10, TX10, 14)) rfl rfl rfl rfl (Nat.le_of_ble_eq_true rfl) ⟨Nat.le_of_ble_eq_true rfl, Nat.le_of_ble_eq_true rfl⟩ ⟨Nat.le_of_ble_eq_true rfl, Nat.le_of_ble_eq_true rfl⟩ (show decode code 411 = .ok (.invokevirtual 55, 3) by decide +kernel) ?_
  rintro _ _ ⟨x, σ1, rfl, rfl, hq⟩ _
  refine am_r_aload_n (nx := 415) rfl rfl (show decode code 414 = .ok (.aload_n 2, 1) by decide +kernel) rfl ?_
  refine am_r_aload_nS (nx := 416) rfl rfl (show decode code 415 = .ok (.aload_n 0, 1) by decide +kernel) rfl ?_
  refine am_r_iload_n (nx := 417) rfl rfl (show decode code 416 = .ok (.iload_n 3, 1) by decide +kernel) rfl ?_
  refine am_r_iconst (nx := 418) (show decode code 417 = .ok (.iconst 1, 1) by decide +kernel) rfl ?_
  refine am_r_iadd (nx := 419) (show decode code 418 = .ok (.iadd, 1) by decide +kernel) rfl ?_
  refine am_r_sld (nx := 420) (by omega) (by omega) hL (show decode code 419 = .ok (.iaload, 1) by decide +kernel) rfl ?_
  refine am_r_callV (d := 60) (mc := 0) (ms := 0) (as := [am_i (lw_v xs (i + 1))]) (st := [am_i x]) hq mb_X11_begin mv_X11_begin (Or.inl ml_L_58) ob_91 (by omega) (r := (RX11, TX11, 63)) rfl rfl rfl rfl (Nat.le_of_ble_eq_true rfl) ⟨Nat.le_of_ble_eq_true rfl, Nat.le_of_ble_eq_true rfl⟩ ⟨Nat.le_of_ble_eq_true rfl, Nat.le_of_ble_eq_true rfl⟩ (show decode code 420 = .ok (.invokevirtual 58, 3) by decide +kernel) ?_
  rintro _ _ ⟨_, σ2, rfl, rfl, rfl, hJ2⟩ _
  exact am_r_icmp_same (tg := 887) (show decode code 423 = .ok (.if_icmp .eq 464, 3) by decide +kernel) (by decide) (next σ2 hJ2)
theorem l_c10 (h0 : 0 ≤ i) (h1 : i + 6 ≤ L) (hL : L ≤ 3072) (hJ : ab_J σ) (next : ∀ σ' : am_D, ab_J σ' → am_X (lw_F G L xs) mL (137, 119026) 887 (lw_ls i) [] (am_K0, σ')) : am_X (lw_F G L xs) mL (137, 119026) 428 (lw_ls i) [] (am_K0, σ) := by
  refine am_r_aload_n (nx := 429) rfl rfl (show decode code 428 = .ok (.aload_n 1, 1) by decide +kernel) rfl ?_
  refine am_r_aload_nS (nx := 430) rfl rfl (show decode code 429 = .ok (.aload_n 0, 1) by decide +kernel) rfl ?_
  refine am_r_iload_n (nx := 431) rfl rfl (show decode code 430 = .ok (.iload_n 3, 1) by decide +kernel) rfl ?_
  refine am_r_iconst (nx := 432) (show decode code 431 = .ok (.iconst 1, 1) by decide +kernel) rfl ?_
  refine am_r_iadd (nx := 433) (show decode code 432 = .ok (.iadd, 1) by decide +kernel) rfl ?_
  refine am_r_sld (nx := 434) (by omega) (by omega) hL (show decode code 433 = .ok (.iaload, 1) by decide +kernel) rfl ?_
  refine am_r_callV (d := 60) (mc := 0) (ms := 0) (as := [am_i (lw_v xs (i + 1))]) (st := []) (j_next (lw_r _ _) hJ) mb_X10_next mv_X10_next (Or.inl ml_L_59) ob_0 (by omega) (r := (RX10, TX10, 14)) rfl rfl rfl rfl (Nat.le_of_ble_eq_true rfl) ⟨Nat.le_of_ble_eq_true rfl, Nat.le_of_ble_eq_true rfl⟩ ⟨Nat.le_of_ble_eq_true rfl, Nat.le_of_ble_eq_true rfl⟩ (show decode code 434 = .ok (.invokevirtual 59, 3) by decide +kernel) ?_
  rintro _ _ ⟨x, σ1, rfl, rfl, hq⟩ _
  refine am_r_aload_n (nx := 438) rfl rfl (show decode code 437 = .ok (.aload_n 2, 1) by decide +kernel) rfl ?_
  refine am_r_aload_nS (nx := 439) rfl rfl (show decode code 438 = .ok (.aload_n 0, 1) by decide +kernel) rfl ?_
  refine am_r_iload_n (nx := 440) rfl rfl (show decode code 439 = .ok (.iload_n 3, 1) by decide +kernel) rfl ?_
  refine am_r_iconst (nx := 441) (show decode code 440 = .ok (.iconst 1, 1) by decide +kernel) rfl ?_
  refine am_r_iadd (nx := 442) (show decode code 441 = .ok (.iadd, 1) by decide +kernel) rfl ?_
  refine am_r_sld (nx := 443) (by omega) (by omega) hL (show decode code 442 = .ok (.iaload, 1) by decide +kernel) rfl ?_
  refine am_r_callV (d := 60) (mc := 0) (ms := 0) (as := [am_i (lw_v xs (i + 1))]) (st := [am_i x]) hq mb_X11_next mv_X11_next (Or.inl ml_L_62) ob_91 (by omega) (r := (RX11, TX11, 63)) rfl rfl rfl rfl (Nat.le_of_ble_eq_true rfl) ⟨Nat.le_of_ble_eq_true rfl, Nat.le_of_ble_eq_true rfl⟩ ⟨Nat.le_of_ble_eq_true rfl, Nat.le_of_ble_eq_true rfl⟩ (show decode code 443 = .ok (.invokevirtual 62, 3) by decide +kernel) ?_
  rintro _ _ ⟨_, σ2, rfl, rfl, rfl, hJ2⟩ _
  exact am_r_icmp_same (tg := 887) (show decode code 446 = .ok (.if_icmp .eq 441, 3) by decide +kernel) (by decide) (next σ2 hJ2)
theorem l_c11 (h0 : 0 ≤ i) (h1 : i + 6 ≤ L) (hL : L ≤ 3072) (hJ : ab_J σ) (next : ∀ σ' : am_D, ab_J σ' → am_X (lw_F G L xs) mL (137, 119026) 887 (lw_ls i) [] (am_K0, σ')) : am_X (lw_F G L xs) mL (137, 119026) 451 (lw_ls i) [] (am_K0, σ) := by
  refine am_r_aload_n (nx := 452) rfl rfl (show decode code 451 = .ok (.aload_n 1, 1) by decide +kernel) rfl ?_
  refine am_r_callV (d := 60) (mc := 0) (ms := 0) (as := []) (st := []) (j_state hJ) mb_X10_state mv_X10_state (Or.inl ml_L_63) ob_0 (by omega) (r := (RX10, TX10, 14)) rfl rfl rfl rfl (Nat.le_of_ble_eq_true rfl) ⟨Nat.le_of_ble_eq_true rfl, Nat.le_of_ble_eq_true rfl⟩ ⟨Nat.le_of_ble_eq_true rfl, Nat.le_of_ble_eq_true rfl⟩ (show decode code 452 = .ok (.invokevirtual 63, 3) by decide +kernel) ?_
  rintro _ _ ⟨x, σ1, rfl, rfl, hq⟩ _
  refine am_r_aload_n (nx := 456) rfl rfl (show decode code 455 = .ok (.aload_n 2, 1) by decide +kernel) rfl ?_
  refine am_r_callV (d := 60) (mc := 0) (ms := 0) (as := []) (st := [am_i x]) hq mb_X11_state mv_X11_state (Or.inl ml_L_66) ob_91 (by omega) (r := (RX11, TX11, 63)) rfl rfl rfl rfl (Nat.le_of_ble_eq_true rfl) ⟨Nat.le_of_ble_eq_true rfl, Nat.le_of_ble_eq_true rfl⟩ ⟨Nat.le_of_ble_eq_true rfl, Nat.le_of_ble_eq_true rfl⟩ (show decode code 456 = .ok (.invokevirtual 66, 3) by decide +kernel) ?_
  rintro _ _ ⟨_, σ2, rfl, rfl, rfl, hJ2⟩ _
  exact am_r_icmp_same (tg := 887) (show decode code 459 = .ok (.if_icmp .eq 428, 3) by decide +kernel) (by decide) (next σ2 hJ2)
theorem l_c12 (h0 : 0 ≤ i) (h1 : i + 6 ≤ L) (hL : L ≤ 3072) (hJ : ab_J σ) (next : ∀ σ' : am_D, ab_J σ' → am_X (lw_F G L xs) mL (137, 119026) 887 (lw_ls i) [] (am_K0, σ')) : am_X (lw_F G L xs) mL (137, 119026) 464 (lw_ls i) [] (am_K0, σ) := by
  refine am_r_aload_n (nx := 465) rfl rfl (show decode code 464 = .ok (.aload_n 1, 1) by decide +kernel) rfl ?_
  refine am_r_aload_nS (nx := 466) rfl rfl (show decode code 465 = .ok (.aload_n 0, 1) by decide +kernel) rfl ?_
  refine am_r_iload_n (nx := 467) rfl rfl (show decode code 466 = .ok (.iload_n 3, 1) by decide +kernel) rfl ?_
  refine am_r_iconst (nx := 468) (show decode code 467 = .ok (.iconst 1, 1) by decide +kernel) rfl ?_
  refine am_r_iadd (nx := 469) (show decode code 468 = .ok (.iadd, 1) by decide +kernel) rfl ?_
  refine am_r_sld (nx := 470) (by omega) (by omega) hL (show decode code 469 = .ok (.iaload, 1) by decide +kernel) rfl ?_
  refine am_r_aload_nS (nx := 471) rfl rfl (show decode code 470 = .ok (.aload_n 0, 1) by decide +kernel) rfl ?_
  refine am_r_iload_n (nx := 472) rfl rfl (show decode code 471 = .ok (.iload_n 3, 1) by decide +kernel) rfl ?_
  refine am_r_iconst (nx := 473) (show decode code 472 = .ok (.iconst 2, 1) by decide +kernel) rfl ?_
  refine am_r_iadd (nx := 474) (show decode code 473 = .ok (.iadd, 1) by decide +kernel) rfl ?_
  refine am_r_sld (nx := 475) (by omega) (by omega) hL (show decode code 474 = .ok (.iaload, 1) by decide +kernel) rfl ?_
  refine am_r_aload_nS (nx := 476) rfl rfl (show decode code 475 = .ok (.aload_n 0, 1) by decide +kernel) rfl ?_
  refine am_r_iload_n (nx := 477) rfl rfl (show decode code 476 = .ok (.iload_n 3, 1) by decide +kernel) rfl ?_
  refine am_r_iconst (nx := 478) (show decode code 477 = .ok (.iconst 3, 1) by decide +kernel) rfl ?_
  refine am_r_iadd (nx := 479) (show decode code 478 = .ok (.iadd, 1) by decide +kernel) rfl ?_
  refine am_r_sld (nx := 480) (by omega) (by omega) hL (show decode code 479 = .ok (.iaload, 1) by decide +kernel) rfl ?_
  refine am_r_callV (d := 60) (mc := 0) (ms := 0) (as := [am_i (lw_v xs (i + 1)), am_i (lw_v xs (i + 2)), am_i (lw_v xs (i + 3))]) (st := []) (j_held (lw_r _ _) (lw_r _ _) (lw_r _ _) hJ) mb_X10_held mv_X10_held (Or.inl ml_L_67) ob_0 (by omega) (r := (RX10, TX10, 14)) rfl rfl rfl rfl (Nat.le_of_ble_eq_true rfl) ⟨Nat.le_of_ble_eq_true rfl, Nat.le_of_ble_eq_true rfl⟩ ⟨Nat.le_of_ble_eq_true rfl, Nat.le_of_ble_eq_true rfl⟩ (show decode code 480 = .ok (.invokevirtual 67, 3) by decide +kernel) ?_
  rintro _ _ ⟨x, σ1, rfl, rfl, hq⟩ _
  refine am_r_aload_n (nx := 484) rfl rfl (show decode code 483 = .ok (.aload_n 2, 1) by decide +kernel) rfl ?_
  refine am_r_aload_nS (nx := 485) rfl rfl (show decode code 484 = .ok (.aload_n 0, 1) by decide +kernel) rfl ?_
  refine am_r_iload_n (nx := 486) rfl rfl (show decode code 485 = .ok (.iload_n 3, 1) by decide +kernel) rfl ?_
  refine am_r_iconst (nx := 487) (show decode code 486 = .ok (.iconst 1, 1) by decide +kernel) rfl ?_
  refine am_r_iadd (nx := 488) (show decode code 487 = .ok (.iadd, 1) by decide +kernel) rfl ?_
  refine am_r_sld (nx := 489) (by omega) (by omega) hL (show decode code 488 = .ok (.iaload, 1) by decide +kernel) rfl ?_
  refine am_r_aload_nS (nx := 490) rfl rfl (show decode code 489 = .ok (.aload_n 0, 1) by decide +kernel) rfl ?_
  refine am_r_iload_n (nx := 491) rfl rfl (show decode code 490 = .ok (.iload_n 3, 1) by decide +kernel) rfl ?_
  refine am_r_iconst (nx := 492) (show decode code 491 = .ok (.iconst 2, 1) by decide +kernel) rfl ?_
  refine am_r_iadd (nx := 493) (show decode code 492 = .ok (.iadd, 1) by decide +kernel) rfl ?_
  refine am_r_sld (nx := 494) (by omega) (by omega) hL (show decode code 493 = .ok (.iaload, 1) by decide +kernel) rfl ?_
  refine am_r_aload_nS (nx := 495) rfl rfl (show decode code 494 = .ok (.aload_n 0, 1) by decide +kernel) rfl ?_
  refine am_r_iload_n (nx := 496) rfl rfl (show decode code 495 = .ok (.iload_n 3, 1) by decide +kernel) rfl ?_
  refine am_r_iconst (nx := 497) (show decode code 496 = .ok (.iconst 3, 1) by decide +kernel) rfl ?_
  refine am_r_iadd (nx := 498) (show decode code 497 = .ok (.iadd, 1) by decide +kernel) rfl ?_
  refine am_r_sld (nx := 499) (by omega) (by omega) hL (show decode code 498 = .ok (.iaload, 1) by decide +kernel) rfl ?_
  refine am_r_callV (d := 60) (mc := 0) (ms := 0) (as := [am_i (lw_v xs (i + 1)), am_i (lw_v xs (i + 2)), am_i (lw_v xs (i + 3))]) (st := [am_i x]) hq mb_X11_held mv_X11_held (Or.inl ml_L_71) ob_91 (by omega) (r := (RX11, TX11, 63)) rfl rfl rfl rfl (Nat.le_of_ble_eq_true rfl) ⟨Nat.le_of_ble_eq_true rfl, Nat.le_of_ble_eq_true rfl⟩ ⟨Nat.le_of_ble_eq_true rfl, Nat.le_of_ble_eq_true rfl⟩ (show decode code 499 = .ok (.invokevirtual 71, 3) by decide +kernel) ?_
  rintro _ _ ⟨_, σ2, rfl, rfl, rfl, hJ2⟩ _
  exact am_r_icmp_same (tg := 887) (show decode code 502 = .ok (.if_icmp .eq 385, 3) by decide +kernel) (by decide) (next σ2 hJ2)
theorem l_c13 (h0 : 0 ≤ i) (h1 : i + 6 ≤ L) (hL : L ≤ 3072) (hJ : ab_J σ) (next : ∀ σ' : am_D, ab_J σ' → am_X (lw_F G L xs) mL (137, 119026) 887 (lw_ls i) [] (am_K0, σ')) : am_X (lw_F G L xs) mL (137, 119026) 507 (lw_ls i) [] (am_K0, σ) := by
  refine am_r_aload_n (nx := 508) rfl rfl (show decode code 507 = .ok (.aload_n 1, 1) by decide +kernel) rfl ?_
  refine am_r_callV (d := 60) (mc := 0) (ms := 0) (as := []) (st := []) (j_finish hJ) mb_X10_finish mv_X10_finish (Or.inl ml_L_72) ob_0 (by omega) (r := (RX10, TX10, 14)) rfl rfl rfl rfl (Nat.le_of_ble_eq_true rfl) ⟨Nat.le_of_ble_eq_true rfl, Nat.le_of_ble_eq_true rfl⟩ ⟨Nat.le_of_ble_eq_true rfl, Nat.le_of_ble_eq_true rfl⟩ (show decode code 508 = .ok (.invokevirtual 72, 3) by decide +kernel) ?_
  rintro _ _ ⟨x, σ1, rfl, rfl, hq⟩ _
  refine am_r_aload_n (nx := 512) rfl rfl (show decode code 511 = .ok (.aload_n 2, 1) by decide +kernel) rfl ?_
  refine am_r_callV (d := 60) (mc := 0) (ms := 0) (as := []) (st := [am_i x]) hq mb_X11_finish mv_X11_finish (Or.inl ml_L_75) ob_91 (by omega) (r := (RX11, TX11, 63)) rfl rfl rfl rfl (Nat.le_of_ble_eq_true rfl) ⟨Nat.le_of_ble_eq_true rfl, Nat.le_of_ble_eq_true rfl⟩ ⟨Nat.le_of_ble_eq_true rfl, Nat.le_of_ble_eq_true rfl⟩ (show decode code 512 = .ok (.invokevirtual 75, 3) by decide +kernel) ?_
  rintro _ _ ⟨_, σ2, rfl, rfl, rfl, hJ2⟩ _
  exact am_r_icmp_same (tg := 887) (show decode code 515 = .ok (.if_icmp .eq 372, 3) by decide +kernel) (by decide) (next σ2 hJ2)
theorem l_c14 (h0 : 0 ≤ i) (h1 : i + 6 ≤ L) (hL : L ≤ 3072) (hJ : ab_J σ) (next : ∀ σ' : am_D, ab_J σ' → am_X (lw_F G L xs) mL (137, 119026) 887 (lw_ls i) [] (am_K0, σ')) : am_X (lw_F G L xs) mL (137, 119026) 520 (lw_ls i) [] (am_K0, σ) := by
  refine am_r_aload_n (nx := 521) rfl rfl (show decode code 520 = .ok (.aload_n 1, 1) by decide +kernel) rfl ?_
  refine am_r_aload_nS (nx := 522) rfl rfl (show decode code 521 = .ok (.aload_n 0, 1) by decide +kernel) rfl ?_
  refine am_r_iload_n (nx := 523) rfl rfl (show decode code 522 = .ok (.iload_n 3, 1) by decide +kernel) rfl ?_
  refine am_r_iconst (nx := 524) (show decode code 523 = .ok (.iconst 1, 1) by decide +kernel) rfl ?_
  refine am_r_iadd (nx := 525) (show decode code 524 = .ok (.iadd, 1) by decide +kernel) rfl ?_
  refine am_r_sld (nx := 526) (by omega) (by omega) hL (show decode code 525 = .ok (.iaload, 1) by decide +kernel) rfl ?_
  refine am_r_callV (d := 60) (mc := 0) (ms := 0) (as := [am_i (lw_v xs (i + 1))]) (st := []) (j_run (lw_r _ _) hJ) mb_X10_run mv_X10_run (Or.inl ml_L_76) ob_0 (by omega) (r := (RX10, TX10, 14)) rfl rfl rfl rfl (Nat.le_of_ble_eq_true rfl) ⟨Nat.le_of_ble_eq_true rfl, Nat.le_of_ble_eq_true rfl⟩ ⟨Nat.le_of_ble_eq_true rfl, Nat.le_of_ble_eq_true rfl⟩ (show decode code 526 = .ok (.invokevirtual 76, 3) by decide +kernel) ?_
  rintro _ _ ⟨x, σ1, rfl, rfl, hq⟩ _
  refine am_r_aload_n (nx := 530) rfl rfl (show decode code 529 = .ok (.aload_n 2, 1) by decide +kernel) rfl ?_
  refine am_r_aload_nS (nx := 531) rfl rfl (show decode code 530 = .ok (.aload_n 0, 1) by decide +kernel) rfl ?_
  refine am_r_iload_n (nx := 532) rfl rfl (show decode code 531 = .ok (.iload_n 3, 1) by decide +kernel) rfl ?_
  refine am_r_iconst (nx := 533) (show decode code 532 = .ok (.iconst 1, 1) by decide +kernel) rfl ?_
  refine am_r_iadd (nx := 534) (show decode code 533 = .ok (.iadd, 1) by decide +kernel) rfl ?_
  refine am_r_sld (nx := 535) (by omega) (by omega) hL (show decode code 534 = .ok (.iaload, 1) by decide +kernel) rfl ?_
  refine am_r_callV (d := 60) (mc := 0) (ms := 0) (as := [am_i (lw_v xs (i + 1))]) (st := [am_i x]) hq mb_X11_run mv_X11_run (Or.inl ml_L_79) ob_91 (by omega) (r := (RX11, TX11, 63)) rfl rfl rfl rfl (Nat.le_of_ble_eq_true rfl) ⟨Nat.le_of_ble_eq_true rfl, Nat.le_of_ble_eq_true rfl⟩ ⟨Nat.le_of_ble_eq_true rfl, Nat.le_of_ble_eq_true rfl⟩ (show decode code 535 = .ok (.invokevirtual 79, 3) by decide +kernel) ?_
  rintro _ _ ⟨_, σ2, rfl, rfl, rfl, hJ2⟩ _
  exact am_r_icmp_same (tg := 887) (show decode code 538 = .ok (.if_icmp .eq 349, 3) by decide +kernel) (by decide) (next σ2 hJ2)
theorem l_c15 (h0 : 0 ≤ i) (h1 : i + 6 ≤ L) (hL : L ≤ 3072) (hJ : ab_J σ) (next : ∀ σ' : am_D, ab_J σ' → am_X (lw_F G L xs) mL (137, 119026) 887 (lw_ls i) [] (am_K0, σ')) : am_X (lw_F G L xs) mL (137, 119026) 543 (lw_ls i) [] (am_K0, σ) := by
  refine am_r_aload_n (nx := 544) rfl rfl (show decode code 543 = .ok (.aload_n 1, 1) by decide +kernel) rfl ?_
  refine am_r_aload_nS (nx := 545) rfl rfl (show decode code 544 = .ok (.aload_n 0, 1) by decide +kernel) rfl ?_
  refine am_r_iload_n (nx := 546) rfl rfl (show decode code 545 = .ok (.iload_n 3, 1) by decide +kernel) rfl ?_
  refine am_r_iconst (nx := 547) (show decode code 546 = .ok (.iconst 1, 1) by decide +kernel) rfl ?_
  refine am_r_iadd (nx := 548) (show decode code 547 = .ok (.iadd, 1) by decide +kernel) rfl ?_
  refine am_r_sld (nx := 549) (by omega) (by omega) hL (show decode code 548 = .ok (.iaload, 1) by decide +kernel) rfl ?_
  refine am_r_aload_nS (nx := 550) rfl rfl (show decode code 549 = .ok (.aload_n 0, 1) by decide +kernel) rfl ?_
  refine am_r_iload_n (nx := 551) rfl rfl (show decode code 550 = .ok (.iload_n 3, 1) by decide +kernel) rfl ?_
  refine am_r_iconst (nx := 552) (show decode code 551 = .ok (.iconst 2, 1) by decide +kernel) rfl ?_
  refine am_r_iadd (nx := 553) (show decode code 552 = .ok (.iadd, 1) by decide +kernel) rfl ?_
  refine am_r_sld (nx := 554) (by omega) (by omega) hL (show decode code 553 = .ok (.iaload, 1) by decide +kernel) rfl ?_
  refine am_r_callV (d := 60) (mc := 0) (ms := 0) (as := [am_i (lw_v xs (i + 1)), am_i (lw_v xs (i + 2))]) (st := []) (j_through (lw_r _ _) (lw_r _ _) hJ) mb_X10_through mv_X10_through (Or.inl ml_L_80) ob_0 (by omega) (r := (RX10, TX10, 14)) rfl rfl rfl rfl (Nat.le_of_ble_eq_true rfl) ⟨Nat.le_of_ble_eq_true rfl, Nat.le_of_ble_eq_true rfl⟩ ⟨Nat.le_of_ble_eq_true rfl, Nat.le_of_ble_eq_true rfl⟩ (show decode code 554 = .ok (.invokevirtual 80, 3) by decide +kernel) ?_
  rintro _ _ ⟨x, σ1, rfl, rfl, hq⟩ _
  refine am_r_aload_n (nx := 558) rfl rfl (show decode code 557 = .ok (.aload_n 2, 1) by decide +kernel) rfl ?_
  refine am_r_aload_nS (nx := 559) rfl rfl (show decode code 558 = .ok (.aload_n 0, 1) by decide +kernel) rfl ?_
  refine am_r_iload_n (nx := 560) rfl rfl (show decode code 559 = .ok (.iload_n 3, 1) by decide +kernel) rfl ?_
  refine am_r_iconst (nx := 561) (show decode code 560 = .ok (.iconst 1, 1) by decide +kernel) rfl ?_
  refine am_r_iadd (nx := 562) (show decode code 561 = .ok (.iadd, 1) by decide +kernel) rfl ?_
  refine am_r_sld (nx := 563) (by omega) (by omega) hL (show decode code 562 = .ok (.iaload, 1) by decide +kernel) rfl ?_
  refine am_r_aload_nS (nx := 564) rfl rfl (show decode code 563 = .ok (.aload_n 0, 1) by decide +kernel) rfl ?_
  refine am_r_iload_n (nx := 565) rfl rfl (show decode code 564 = .ok (.iload_n 3, 1) by decide +kernel) rfl ?_
  refine am_r_iconst (nx := 566) (show decode code 565 = .ok (.iconst 2, 1) by decide +kernel) rfl ?_
  refine am_r_iadd (nx := 567) (show decode code 566 = .ok (.iadd, 1) by decide +kernel) rfl ?_
  refine am_r_sld (nx := 568) (by omega) (by omega) hL (show decode code 567 = .ok (.iaload, 1) by decide +kernel) rfl ?_
  refine am_r_callV (d := 60) (mc := 0) (ms := 0) (as := [am_i (lw_v xs (i + 1)), am_i (lw_v xs (i + 2))]) (st := [am_i x]) hq mb_X11_through mv_X11_through (Or.inl ml_L_83) ob_91 (by omega) (r := (RX11, TX11, 63)) rfl rfl rfl rfl (Nat.le_of_ble_eq_true rfl) ⟨Nat.le_of_ble_eq_true rfl, Nat.le_of_ble_eq_true rfl⟩ ⟨Nat.le_of_ble_eq_true rfl, Nat.le_of_ble_eq_true rfl⟩ (show decode code 568 = .ok (.invokevirtual 83, 3) by decide +kernel) ?_
  rintro _ _ ⟨_, σ2, rfl, rfl, rfl, hJ2⟩ _
  exact am_r_icmp_same (tg := 887) (show decode code 571 = .ok (.if_icmp .eq 316, 3) by decide +kernel) (by decide) (next σ2 hJ2)
theorem l_c16 (h0 : 0 ≤ i) (h1 : i + 6 ≤ L) (hL : L ≤ 3072) (hJ : ab_J σ) (next : ∀ σ' : am_D, ab_J σ' → am_X (lw_F G L xs) mL (137, 119026) 887 (lw_ls i) [] (am_K0, σ')) : am_X (lw_F G L xs) mL (137, 119026) 576 (lw_ls i) [] (am_K0, σ) := by
  refine am_r_aload_n (nx := 577) rfl rfl (show decode code 576 = .ok (.aload_n 1, 1) by decide +kernel) rfl ?_
  refine am_r_aload_nS (nx := 578) rfl rfl (show decode code 577 = .ok (.aload_n 0, 1) by decide +kernel) rfl ?_
  refine am_r_iload_n (nx := 579) rfl rfl (show decode code 578 = .ok (.iload_n 3, 1) by decide +kernel) rfl ?_
  refine am_r_iconst (nx := 580) (show decode code 579 = .ok (.iconst 1, 1) by decide +kernel) rfl ?_
  refine am_r_iadd (nx := 581) (show decode code 580 = .ok (.iadd, 1) by decide +kernel) rfl ?_
  refine am_r_sld (nx := 582) (by omega) (by omega) hL (show decode code 581 = .ok (.iaload, 1) by decide +kernel) rfl ?_
  refine am_r_callV (d := 60) (mc := 0) (ms := 0) (as := [am_i (lw_v xs (i + 1))]) (st := []) (j_refused (lw_r _ _) hJ) mb_X10_refused mv_X10_refused (Or.inl ml_L_84) ob_0 (by omega) (r := (RX10, TX10, 14)) rfl rfl rfl rfl (Nat.le_of_ble_eq_true rfl) ⟨Nat.le_of_ble_eq_true rfl, Nat.le_of_ble_eq_true rfl⟩ ⟨Nat.le_of_ble_eq_true rfl, Nat.le_of_ble_eq_true rfl⟩ (show decode code 582 = .ok (.invokevirtual 84, 3) by decide +kernel) ?_
  rintro _ _ ⟨x, σ1, rfl, rfl, hq⟩ _
  refine am_r_aload_n (nx := 586) rfl rfl (show decode code 585 = .ok (.aload_n 2, 1) by decide +kernel) rfl ?_
  refine am_r_aload_nS (nx := 587) rfl rfl (show decode code 586 = .ok (.aload_n 0, 1) by decide +kernel) rfl ?_
  refine am_r_iload_n (nx := 588) rfl rfl (show decode code 587 = .ok (.iload_n 3, 1) by decide +kernel) rfl ?_
  refine am_r_iconst (nx := 589) (show decode code 588 = .ok (.iconst 1, 1) by decide +kernel) rfl ?_
  refine am_r_iadd (nx := 590) (show decode code 589 = .ok (.iadd, 1) by decide +kernel) rfl ?_
  refine am_r_sld (nx := 591) (by omega) (by omega) hL (show decode code 590 = .ok (.iaload, 1) by decide +kernel) rfl ?_
  refine am_r_callV (d := 60) (mc := 0) (ms := 0) (as := [am_i (lw_v xs (i + 1))]) (st := [am_i x]) hq mb_X11_refused mv_X11_refused (Or.inl ml_L_87) ob_91 (by omega) (r := (RX11, TX11, 63)) rfl rfl rfl rfl (Nat.le_of_ble_eq_true rfl) ⟨Nat.le_of_ble_eq_true rfl, Nat.le_of_ble_eq_true rfl⟩ ⟨Nat.le_of_ble_eq_true rfl, Nat.le_of_ble_eq_true rfl⟩ (show decode code 591 = .ok (.invokevirtual 87, 3) by decide +kernel) ?_
  rintro _ _ ⟨_, σ2, rfl, rfl, rfl, hJ2⟩ _
  exact am_r_icmp_same (tg := 887) (show decode code 594 = .ok (.if_icmp .eq 293, 3) by decide +kernel) (by decide) (next σ2 hJ2)
theorem l_c17 (h0 : 0 ≤ i) (h1 : i + 6 ≤ L) (hL : L ≤ 3072) (hJ : ab_J σ) (next : ∀ σ' : am_D, ab_J σ' → am_X (lw_F G L xs) mL (137, 119026) 887 (lw_ls i) [] (am_K0, σ')) : am_X (lw_F G L xs) mL (137, 119026) 599 (lw_ls i) [] (am_K0, σ) := by
  refine am_r_aload_n (nx := 600) rfl rfl (show decode code 599 = .ok (.aload_n 1, 1) by decide +kernel) rfl ?_
  refine am_r_aload_nS (nx := 601) rfl rfl (show decode code 600 = .ok (.aload_n 0, 1) by decide +kernel) rfl ?_
  refine am_r_iload_n (nx := 602) rfl rfl (show decode code 601 = .ok (.iload_n 3, 1) by decide +kernel) rfl ?_
  refine am_r_iconst (nx := 603) (show decode code 602 = .ok (.iconst 1, 1) by decide +kernel) rfl ?_
  refine am_r_iadd (nx := 604) (show decode code 603 = .ok (.iadd, 1) by decide +kernel) rfl ?_
  refine am_r_sld (nx := 605) (by omega) (by omega) hL (show decode code 604 = .ok (.iaload, 1) by decide +kernel) rfl ?_
  refine am_r_aload_nS (nx := 606) rfl rfl (show decode code 605 = .ok (.aload_n 0, 1) by decide +kernel) rfl ?_
  refine am_r_iload_n (nx := 607) rfl rfl (show decode code 606 = .ok (.iload_n 3, 1) by decide +kernel) rfl ?_
  refine am_r_iconst (nx := 608) (show decode code 607 = .ok (.iconst 2, 1) by decide +kernel) rfl ?_
  refine am_r_iadd (nx := 609) (show decode code 608 = .ok (.iadd, 1) by decide +kernel) rfl ?_
  refine am_r_sld (nx := 610) (by omega) (by omega) hL (show decode code 609 = .ok (.iaload, 1) by decide +kernel) rfl ?_
  refine am_r_callV (d := 60) (mc := 0) (ms := 0) (as := [am_i (lw_v xs (i + 1)), am_i (lw_v xs (i + 2))]) (st := []) (j_ahead (lw_r _ _) (lw_r _ _) hJ) mb_X10_ahead mv_X10_ahead (Or.inl ml_L_88) ob_0 (by omega) (r := (RX10, TX10, 14)) rfl rfl rfl rfl (Nat.le_of_ble_eq_true rfl) ⟨Nat.le_of_ble_eq_true rfl, Nat.le_of_ble_eq_true rfl⟩ ⟨Nat.le_of_ble_eq_true rfl, Nat.le_of_ble_eq_true rfl⟩ (show decode code 610 = .ok (.invokevirtual 88, 3) by decide +kernel) ?_
  rintro _ _ ⟨x, σ1, rfl, rfl, hq⟩ _
  refine am_r_aload_n (nx := 614) rfl rfl (show decode code 613 = .ok (.aload_n 2, 1) by decide +kernel) rfl ?_
  refine am_r_aload_nS (nx := 615) rfl rfl (show decode code 614 = .ok (.aload_n 0, 1) by decide +kernel) rfl ?_
  refine am_r_iload_n (nx := 616) rfl rfl (show decode code 615 = .ok (.iload_n 3, 1) by decide +kernel) rfl ?_
  refine am_r_iconst (nx := 617) (show decode code 616 = .ok (.iconst 1, 1) by decide +kernel) rfl ?_
  refine am_r_iadd (nx := 618) (show decode code 617 = .ok (.iadd, 1) by decide +kernel) rfl ?_
  refine am_r_sld (nx := 619) (by omega) (by omega) hL (show decode code 618 = .ok (.iaload, 1) by decide +kernel) rfl ?_
  refine am_r_aload_nS (nx := 620) rfl rfl (show decode code 619 = .ok (.aload_n 0, 1) by decide +kernel) rfl ?_
  refine am_r_iload_n (nx := 621) rfl rfl (show decode code 620 = .ok (.iload_n 3, 1) by decide +kernel) rfl ?_
  refine am_r_iconst (nx := 622) (show decode code 621 = .ok (.iconst 2, 1) by decide +kernel) rfl ?_
  refine am_r_iadd (nx := 623) (show decode code 622 = .ok (.iadd, 1) by decide +kernel) rfl ?_
  refine am_r_sld (nx := 624) (by omega) (by omega) hL (show decode code 623 = .ok (.iaload, 1) by decide +kernel) rfl ?_
  refine am_r_callV (d := 60) (mc := 0) (ms := 0) (as := [am_i (lw_v xs (i + 1)), am_i (lw_v xs (i + 2))]) (st := [am_i x]) hq mb_X11_ahead mv_X11_ahead (Or.inl ml_L_91) ob_91 (by omega) (r := (RX11, TX11, 63)) rfl rfl rfl rfl (Nat.le_of_ble_eq_true rfl) ⟨Nat.le_of_ble_eq_true rfl, Nat.le_of_ble_eq_true rfl⟩ ⟨Nat.le_of_ble_eq_true rfl, Nat.le_of_ble_eq_true rfl⟩ (show decode code 624 = .ok (.invokevirtual 91, 3) by decide +kernel) ?_
  rintro _ _ ⟨_, σ2, rfl, rfl, rfl, hJ2⟩ _
  exact am_r_icmp_same (tg := 887) (show decode code 627 = .ok (.if_icmp .eq 260, 3) by decide +kernel) (by decide) (next σ2 hJ2)
end
