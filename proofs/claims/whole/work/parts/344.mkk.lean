section
variable {G : am_G} {sh : List (Nat × Nat)} {F : Nat → Int → Option Nat} {D : am_D}
def sk_jv (o t : Int) : Int := sk_tc t (sk_tc o 0) + sk_tc t (sk_tc o 1) * 4
theorem sk_tc_rg {c s : Int} (hc : 0 ≤ c ∧ c < 16) : 0 ≤ sk_tc c s ∧ sk_tc c s ≤ 3 := by
  unfold sk_tc
  split
  · omega
  · split <;> omega
theorem sk_jv_J {f : Int → Int} (h : ∀ o t : Int, 0 ≤ o → o < 16 → 0 ≤ t → t < 16 → f (o * 16 + t) = sk_jv o t) : sk_J f := by
  intro k j hk hj
  have h1 := sk_c_rg hk
  have h2 := sk_c_rg hj
  rw [h _ _ h1.1 (by omega) h2.1 (by omega)]
  unfold sk_jv
  rw [sk_tc_c hk, sk_tc_c hk, sk_tc_c hj, sk_tc_c hj]
  show sk_to j (sk_to k 0) + sk_to j (sk_to k 1) * 4 = sk_to j k.1 + 4 * sk_to j k.2
  have e0 : sk_to k 0 = k.1 := rfl
  have e1 : sk_to k 1 = k.2 := rfl
  rw [e0, e1]
  omega
theorem k_X1_init (d : Nat) {a n : Nat} (v : am_vg ((sh, F), D)) (hn : sh.length = n) (hs : (am_sh sh a).1 = 1) : am_M G (d + 2) 2 304 mX1_init [am_r (some a)] ((sh, F), D) (fun w h' => w = none ∧ (∃ I', h' = ((sh ++ [(100, 256), (100, 48)], am_up (am_up F a ((0 : Nat) : Int) (some n)) a ((1 : Nat) : Int) (some (n + 1))), (I', D.2)) ∧ (∀ i, i ≠ n → I' i = D.1 i) ∧ sk_J (I' n)) ∧ am_vg h') := by
  have ha := am_sh_lt hs (by decide)
  refine am_M.of (by decide) (Nat.le_of_ble_eq_true rfl) rfl ?_
  generalize hQ : (fun (w : Option am_V) (h' : am_H) => w = none ∧ (∃ I', h' = ((sh ++ [(100, 256), (100, 48)], am_up (am_up F a ((0 : Nat) : Int) (some n)) a ((1 : Nat) : Int) (some (n + 1))), (I', D.2)) ∧ (∀ i, i ≠ n → I' i = D.1 i) ∧ sk_J (I' n)) ∧ am_vg h') = Q
  refine am_r_aload_n (nx := 1) rfl rfl (show decode cX1_init 0 = .ok (.aload_n 0, 1) by decide +kernel) rfl ?_
  refine am_r_obj (nx := 4) (am_mt 204 (by decide +kernel) (by decide +kernel)) wd_oin wd_ocd (Nat.le_of_ble_eq_true rfl) ⟨by show 1 ≤ d + 2; omega, by show 40 ≤ 40 * (d + 2); omega⟩ (show decode cX1_init 1 = .ok (.invokespecial 5, 3) by decide +kernel) rfl ?_
  refine am_r_aload_n (nx := 5) rfl rfl (show decode cX1_init 4 = .ok (.aload_n 0, 1) by decide +kernel) rfl ?_
  refine am_r_sipush (nx := 8) rfl (show decode cX1_init 5 = .ok (.sipush 256, 3) by decide +kernel) rfl ?_
  refine am_n_I (sh' := sh ++ [(100, 256)]) (n := n) (N := 256) (cs' := (1, 256)) (nx := 10) wd_int rfl (by omega) v hn rfl rfl (Nat.le_of_ble_eq_true rfl) (Nat.le_of_ble_eq_true rfl) (show decode cX1_init 8 = .ok (.newarray .int, 2) by decide +kernel) rfl ?_
  refine am_r_putF (nx := 13) 0 cw1 (by decide) rfl fl_X1_11 (am_sh_ap hs (by decide)) rfl rfl rfl (Or.inr ⟨_, rfl⟩) (show decode cX1_init 10 = .ok (.putfield 11, 3) by decide +kernel) rfl ?_
  refine am_r_aload_n (nx := 14) rfl rfl (show decode cX1_init 13 = .ok (.aload_n 0, 1) by decide +kernel) rfl ?_
  refine am_r_bipush (nx := 16) rfl (show decode cX1_init 14 = .ok (.bipush 48, 2) by decide +kernel) rfl ?_
  refine am_n_I (sh' := sh ++ [(100, 256), (100, 48)]) (n := n + 1) (N := 48) (cs' := (2, 304)) (nx := 18) wd_int rfl (by omega) (v.app.fin (am_lt_ap ha)) (am_ln_ap hn rfl) (List.append_assoc _ _ _) rfl (Nat.le_of_ble_eq_true rfl) (Nat.le_of_ble_eq_true rfl) (show decode cX1_init 16 = .ok (.newarray .int, 2) by decide +kernel) rfl ?_
  refine am_r_putF (nx := 21) 1 cw1 (by decide) rfl fl_X1_15 (am_sh_ap hs (by decide)) rfl rfl rfl (Or.inr ⟨_, rfl⟩) (show decode cX1_init 18 = .ok (.putfield 15, 3) by decide +kernel) rfl ?_
  have hv2 : am_vg ((sh ++ [(100, 256), (100, 48)], am_up (am_up F a ((0 : Nat) : Int) (some n)) a ((1 : Nat) : Int) (some (n + 1))), D) := ((v.app.fin (am_lt_ap ha)).fin (am_lt_ap ha))
  have hs2 : (am_sh (sh ++ [(100, 256), (100, 48)]) a).1 = 1 := am_sh_ap hs (by decide)
  have hF0 : (am_up (am_up F a ((0 : Nat) : Int) (some n)) a ((1 : Nat) : Int) (some (n + 1))) a ((0 : Nat) : Int) = some n := by rw [am_up_nj (by decide), am_up_at]
  have hjn : am_sh (sh ++ [(100, 256), (100, 48)]) n = (100, 256) := am_sh_at (j := 0) hn rfl
  have hln : (sh ++ [(100, 256), (100, 48)]).length = n + 2 := am_ln_ap hn rfl
  have hsh2 : sh ++ [(100, 256), (100, 48)] = sh ++ [(100, 256), (100, 48)] := rfl
  generalize sh ++ [(100, 256), (100, 48)] = sh2 at hv2 hs2 hjn hln hQ ⊢
  generalize am_up (am_up F a ((0 : Nat) : Int) (some n)) a ((1 : Nat) : Int) (some (n + 1)) = F2 at hv2 hF0 hQ ⊢
  generalize hn0 : ((sh, F), D).1.1.length = n0
  have fin : ∀ I' : Nat → Int → Int, (∀ i, i ≠ n → I' i = D.1 i) → (∀ o t : Int, 0 ≤ o → o < 16 → 0 ≤ t → t < 16 → I' n (o * 16 + t) = sk_jv o t) → Q none ((sh2, F2), (I', D.2)) := by
    intro I' h1 h2
    rw [← hQ]
    exact ⟨rfl, ⟨I', rfl, h1, sk_jv_J h2⟩, hv2.dat (fun i hi => ⟨h1 i (by omega), rfl, rfl⟩)⟩
  have inner : ∀ (m : Nat) (one two : Int) (I' : Nat → Int → Int), two + m = 16 → 0 ≤ two → 0 ≤ one → one < 16 → (∀ i, i ≠ n → I' i = D.1 i) → (∀ o t : Int, 0 ≤ o → o < one → 0 ≤ t → t < 16 → I' n (o * 16 + t) = sk_jv o t) → (∀ t : Int, 0 ≤ t → t < two → I' n (one * 16 + t) = sk_jv one t) → (∀ I'' : Nat → Int → Int, (∀ i, i ≠ n → I'' i = D.1 i) → (∀ o t : Int, 0 ≤ o → o < one + 1 → 0 ≤ t → t < 16 → I'' n (o * 16 + t) = sk_jv o t) → am_X (am_Ph G (d + 2) 2 304 n0 Q) mX1_init (2, 304) 23 [some (am_r (some a)), some (am_i (one + 1)), none, none] [] ((sh2, F2), (I'', D.2))) → am_X (am_Ph G (d + 2) 2 304 n0 Q) mX1_init (2, 304) 31 [some (am_r (some a)), some (am_i one), some (am_i two), none] [] ((sh2, F2), (I', D.2)) := by
    intro m
    induction m with
    | zero =>
      intro one two I' hm t0 o0 o1 h1 h2 h3 nxt
      refine am_r_iload_n (nx := 32) rfl rfl (show decode cX1_init 31 = .ok (.iload_n 2, 1) by decide +kernel) rfl ?_
      refine am_r_bipush (nx := 34) rfl (show decode cX1_init 32 = .ok (.bipush 16, 2) by decide +kernel) rfl ?_
      refine am_r_icmp_ge (tg := 77) (nx := 37) (show decode cX1_init 34 = .ok (.if_icmp .ge 43, 3) by decide +kernel) (by decide) rfl (by omega) (by omega) (fun _ => ?_) (fun z => absurd (by omega) z)
      refine am_r_iinc (nx := 80) rfl rfl (show decode cX1_init 77 = .ok (.iinc 1 1, 3) by decide +kernel) rfl ?_
      refine am_r_goto (tg := 23) (show decode cX1_init 80 = .ok (.goto (-57), 3) by decide +kernel) (by decide) ?_
      refine am_x_fg [2] (nxt I' h1 (fun o t a1 a2 a3 a4 => ?_))
      by_cases e : o = one
      · rw [e]; exact h3 t a3 (by omega)
      · exact h2 o t a1 (by omega) a3 a4
    | succ m ih =>
      intro one two I' hm t0 o0 o1 h1 h2 h3 nxt
      have r0 := sk_tc_rg (c := one) (s := 0) ⟨o0, o1⟩
      have r1 := sk_tc_rg (c := one) (s := 1) ⟨o0, o1⟩
      have r2 := sk_tc_rg (c := two) (s := sk_tc one 0) ⟨t0, by omega⟩
      have r3 := sk_tc_rg (c := two) (s := sk_tc one 1) ⟨t0, by omega⟩
      refine am_r_iload_n (nx := 32) rfl rfl (show decode cX1_init 31 = .ok (.iload_n 2, 1) by decide +kernel) rfl ?_
      refine am_r_bipush (nx := 34) rfl (show decode cX1_init 32 = .ok (.bipush 16, 2) by decide +kernel) rfl ?_
      refine am_r_icmp_ge (tg := 77) (nx := 37) (show decode cX1_init 34 = .ok (.if_icmp .ge 43, 3) by decide +kernel) (by decide) rfl (by omega) (by omega) (fun z => absurd z (by omega)) (fun _ => ?_)
      refine am_r_iload_n (nx := 38) rfl rfl (show decode cX1_init 37 = .ok (.iload_n 2, 1) by decide +kernel) rfl ?_
      refine am_r_iload_n (nx := 39) rfl rfl (show decode cX1_init 38 = .ok (.iload_n 1, 1) by decide +kernel) rfl ?_
      refine am_r_iconst (nx := 40) (show decode cX1_init 39 = .ok (.iconst 0, 1) by decide +kernel) rfl ?_
      refine am_r_callS (as := [am_i one, am_i 0]) (st := [am_i two]) (g_kto d ⟨by omega, by omega⟩ ⟨by omega, by omega⟩) mb_X1_to mv_X1_to (Or.inl ml_X1_18) rfl rfl (Nat.le_of_ble_eq_true rfl) ⟨Nat.le_refl _, Nat.le_refl _⟩ ⟨Nat.le_refl _, Nat.le_refl _⟩ (show decode cX1_init 40 = .ok (.invokestatic 18, 3) by decide +kernel) ?_
      rintro _ _ ⟨rfl, rfl⟩ _
      refine am_r_callS (as := [am_i two, am_i (sk_tc one 0)]) (st := []) (g_kto d ⟨by omega, by omega⟩ ⟨by omega, by omega⟩) mb_X1_to mv_X1_to (Or.inl ml_X1_18) rfl rfl (Nat.le_of_ble_eq_true rfl) ⟨Nat.le_refl _, Nat.le_refl _⟩ ⟨Nat.le_refl _, Nat.le_refl _⟩ (show decode cX1_init 43 = .ok (.invokestatic 18, 3) by decide +kernel) ?_
      rintro _ _ ⟨rfl, rfl⟩ _
      refine am_r_iload_n (nx := 47) rfl rfl (show decode cX1_init 46 = .ok (.iload_n 2, 1) by decide +kernel) rfl ?_
      refine am_r_iload_n (nx := 48) rfl rfl (show decode cX1_init 47 = .ok (.iload_n 1, 1) by decide +kernel) rfl ?_
      refine am_r_iconst (nx := 49) (show decode cX1_init 48 = .ok (.iconst 1, 1) by decide +kernel) rfl ?_
      refine am_r_callS (as := [am_i one, am_i 1]) (st := [am_i two, am_i (sk_tc two (sk_tc one 0))]) (g_kto d ⟨by omega, by omega⟩ ⟨by omega, by omega⟩) mb_X1_to mv_X1_to (Or.inl ml_X1_18) rfl rfl (Nat.le_of_ble_eq_true rfl) ⟨Nat.le_refl _, Nat.le_refl _⟩ ⟨Nat.le_refl _, Nat.le_refl _⟩ (show decode cX1_init 49 = .ok (.invokestatic 18, 3) by decide +kernel) ?_
      rintro _ _ ⟨rfl, rfl⟩ _
      refine am_r_callS (as := [am_i two, am_i (sk_tc one 1)]) (st := [am_i (sk_tc two (sk_tc one 0))]) (g_kto d ⟨by omega, by omega⟩ ⟨by omega, by omega⟩) mb_X1_to mv_X1_to (Or.inl ml_X1_18) rfl rfl (Nat.le_of_ble_eq_true rfl) ⟨Nat.le_refl _, Nat.le_refl _⟩ ⟨Nat.le_refl _, Nat.le_refl _⟩ (show decode cX1_init 52 = .ok (.invokestatic 18, 3) by decide +kernel) ?_
      rintro _ _ ⟨rfl, rfl⟩ _
      refine am_r_iconst (nx := 56) (show decode cX1_init 55 = .ok (.iconst 2, 1) by decide +kernel) rfl ?_
      refine am_r_ishl (nx := 57) (show decode cX1_init 56 = .ok (.ishl, 1) by decide +kernel) rfl ?_
      refine am_r_iadd (nx := 58) (show decode cX1_init 57 = .ok (.iadd, 1) by decide +kernel) rfl ?_
      have es : am_shl (sk_tc two (sk_tc one 1)) 2 = sk_tc two (sk_tc one 1) * 4 := am_shl_v (x := sk_tc two (sk_tc one 1)) 2 r3.1 (by omega) (by show sk_tc two (sk_tc one 1) * 4 < 2147483648; omega)
      rw [es]
      refine am_r_istore_n (nx := 59) rfl (by decide) rfl (show decode cX1_init 58 = .ok (.istore_n 3, 1) by decide +kernel) rfl ?_
      refine am_r_aload_n (nx := 60) rfl rfl (show decode cX1_init 59 = .ok (.aload_n 0, 1) by decide +kernel) rfl ?_
      refine am_r_getF (nx := 63) 0 cw1 (by decide) rfl (Or.inl fl_X1_11) hs2 hF0 (show decode cX1_init 60 = .ok (.getfield 11, 3) by decide +kernel) rfl ?_
      refine am_r_iload_n (nx := 64) rfl rfl (show decode cX1_init 63 = .ok (.iload_n 1, 1) by decide +kernel) rfl ?_
      refine am_r_bipush (nx := 66) rfl (show decode cX1_init 64 = .ok (.bipush 16, 2) by decide +kernel) rfl ?_
      refine am_r_imul (nx := 67) (show decode cX1_init 66 = .ok (.imul, 1) by decide +kernel) rfl ?_
      refine am_r_iload_n (nx := 68) rfl rfl (show decode cX1_init 67 = .ok (.iload_n 2, 1) by decide +kernel) rfl ?_
      refine am_r_iadd (nx := 69) (show decode cX1_init 68 = .ok (.iadd, 1) by decide +kernel) rfl ?_
      refine am_r_iload_n (nx := 70) rfl rfl (show decode cX1_init 69 = .ok (.iload_n 3, 1) by decide +kernel) rfl ?_
      refine am_r_iast (nx := 71) hjn (by omega) (by omega) (by omega) (show decode cX1_init 70 = .ok (.iastore, 1) by decide +kernel) rfl ?_
      refine am_r_iinc (nx := 74) rfl rfl (show decode cX1_init 71 = .ok (.iinc 2 1, 3) by decide +kernel) rfl ?_
      refine am_r_goto (tg := 31) (show decode cX1_init 74 = .ok (.goto (-43), 3) by decide +kernel) (by decide) ?_
      have ev : am_up I' n (one * 16 + two) (sk_tc two (sk_tc one 0) + sk_tc two (sk_tc one 1) * 4) n = am_u1 (I' n) (one * 16 + two) (sk_jv one two) := am_up_eq
      refine am_x_fg [3] (ih one (two + 1) (am_up I' n (one * 16 + two) (sk_tc two (sk_tc one 0) + sk_tc two (sk_tc one 1) * 4)) (by omega) (by omega) o0 o1 (fun i hi => by rw [am_up_ne hi]; exact h1 i hi) (fun o t a1 a2 a3 a4 => ?_) (fun t a1 a2 => ?_) nxt)
      · rw [ev, am_u1_ne (by omega)]
        exact h2 o t a1 a2 a3 a4
      · rw [ev]
        by_cases e : t = two
        · rw [e, am_u1_eq]
        · rw [am_u1_ne (by omega)]
          exact h3 t a1 (by omega)
  have outer : ∀ (m : Nat) (one : Int) (I' : Nat → Int → Int), one + m = 16 → 0 ≤ one → (∀ i, i ≠ n → I' i = D.1 i) → (∀ o t : Int, 0 ≤ o → o < one → 0 ≤ t → t < 16 → I' n (o * 16 + t) = sk_jv o t) → am_X (am_Ph G (d + 2) 2 304 n0 Q) mX1_init (2, 304) 23 [some (am_r (some a)), some (am_i one), none, none] [] ((sh2, F2), (I', D.2)) := by
    intro m
    induction m with
    | zero =>
      intro one I' hm o0 h1 h2
      refine am_r_iload_n (nx := 24) rfl rfl (show decode cX1_init 23 = .ok (.iload_n 1, 1) by decide +kernel) rfl ?_
      refine am_r_bipush (nx := 26) rfl (show decode cX1_init 24 = .ok (.bipush 16, 2) by decide +kernel) rfl ?_
      refine am_r_icmp_ge (tg := 83) (nx := 29) (show decode cX1_init 26 = .ok (.if_icmp .ge 57, 3) by decide +kernel) (by decide) rfl (by omega) (by omega) (fun _ => ?_) (fun z => absurd (by omega) z)
      exact am_r_vret rfl (show decode cX1_init 83 = .ok (.return_, 1) by decide +kernel) (fin I' h1 (fun o t a1 a2 a3 a4 => h2 o t a1 (by omega) a3 a4))
    | succ m ih =>
      intro one I' hm o0 h1 h2
      refine am_r_iload_n (nx := 24) rfl rfl (show decode cX1_init 23 = .ok (.iload_n 1, 1) by decide +kernel) rfl ?_
      refine am_r_bipush (nx := 26) rfl (show decode cX1_init 24 = .ok (.bipush 16, 2) by decide +kernel) rfl ?_
      refine am_r_icmp_ge (tg := 83) (nx := 29) (show decode cX1_init 26 = .ok (.if_icmp .ge 57, 3) by decide +kernel) (by decide) rfl (by omega) (by omega) (fun z => absurd z (by omega)) (fun _ => ?_)
      refine am_r_iconst (nx := 30) (show decode cX1_init 29 = .ok (.iconst 0, 1) by decide +kernel) rfl ?_
      refine am_r_istore_n (nx := 31) rfl (by decide) rfl (show decode cX1_init 30 = .ok (.istore_n 2, 1) by decide +kernel) rfl ?_
      exact inner 16 one 0 I' (by omega) (by omega) o0 (by omega) h1 h2 (fun t a1 a2 => absurd a2 (by omega)) (fun I'' h3 h4 => ih (one + 1) I'' (by omega) (by omega) h3 h4)
  refine am_r_iconst (nx := 22) (show decode cX1_init 21 = .ok (.iconst 0, 1) by decide +kernel) rfl ?_
  refine am_r_istore_n (nx := 23) rfl (by decide) rfl (show decode cX1_init 22 = .ok (.istore_n 1, 1) by decide +kernel) rfl ?_
  exact outer 16 0 D.1 (by omega) (by omega) (fun _ _ => rfl) (fun o t a1 a2 => absurd a2 (by omega))
end
