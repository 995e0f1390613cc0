section
/-- what machine(k) of the reference leaves -/
def rm_M (σ : am_D) (k : Int) (R : Int ⊕ am_P) (x : Int) (τ : am_D) : Prop := (am_only (91 :: rm_B) σ τ ∧ am_kpt [1, 2, 3, 4, 5, 6, 21] (σ.1 91) (τ.1 91) ∧ τ.1 91 1 = 0 ∧ 0 ≤ τ.1 91 2 ∧ τ.1 91 2 ≤ 10000) ∧ match R with
  | .inl F => x = -2 ∧ τ.1 91 2 = F ∧ τ.1 93 = σ.1 93 ∧ ∀ s, 0 ≤ s ∧ s < 5 → rm_eq σ s τ s
  | .inr P => x = pm_n P ∧ τ.1 91 2 = 0 ∧ τ.1 93 = am_u1 (σ.1 93) k 1 ∧ rm_T τ k P ∧ pm_ok P ∧ ∀ s, 0 ≤ s ∧ s < 5 → s ≠ k → rm_eq σ s τ s
variable {G : am_G} {σ : am_D}
theorem rg_begins {ts u : Int → Int} (hb : ∀ i, 0 ≤ i → i < 600 → -128 ≤ ts i ∧ ts i ≤ 127) (h1 : 0 ≤ u 1 ∧ u 1 ≤ 600) : rg ts (u 1) (rf_go ts (am_u1 (am_u1 (am_u1 (am_u1 u 3 (u 1)) 1 0) 4 0) 2 0)) 0 ∧ am_kpt [1, 2, 3, 4, 5, 6] u (rf_go ts (am_u1 (am_u1 (am_u1 (am_u1 u 3 (u 1)) 1 0) 4 0) 2 0)) ∧ rf_go ts (am_u1 (am_u1 (am_u1 (am_u1 u 3 (u 1)) 1 0) 4 0) 2 0) 1 = 0 := by
  have v4 : am_u1 (am_u1 (am_u1 (am_u1 u 3 (u 1)) 1 0) 4 0) 2 0 4 = 0 := by rw [am_u1_ne (by decide), am_u1_eq]
  have v3 : am_u1 (am_u1 (am_u1 (am_u1 u 3 (u 1)) 1 0) 4 0) 2 0 3 = u 1 := by rw [am_u1_ne (by decide), am_u1_ne (by decide), am_u1_ne (by decide), am_u1_eq]
  have v2 : am_u1 (am_u1 (am_u1 (am_u1 u 3 (u 1)) 1 0) 4 0) 2 0 2 = 0 := am_u1_eq
  have v1 : am_u1 (am_u1 (am_u1 (am_u1 u 3 (u 1)) 1 0) 4 0) 2 0 1 = 0 := by rw [am_u1_ne (by decide), am_u1_ne (by decide), am_u1_eq]
  have vk : am_kpt [1, 2, 3, 4, 5, 6] u (am_u1 (am_u1 (am_u1 (am_u1 u 3 (u 1)) 1 0) 4 0) 2 0) := ((((am_kpt.u1 (by decide)).trans (am_kpt.u1 (by decide))).trans (am_kpt.u1 (by decide))).trans (am_kpt.u1 (by decide)))
  generalize am_u1 (am_u1 (am_u1 (am_u1 u 3 (u 1)) 1 0) 4 0) 2 0 = v at *
  have hok := rf_go_ok0 (ts := ts) (u := v) ⟨hb, by omega, by omega, by omega, by omega⟩ (by omega)
  have hv := rf_go_at (ts := ts) (u := v)
  rw [v4] at hv
  refine ⟨⟨hok, hv.2.1.trans v2, hv.2.2.1.trans v3, hv.1, by omega, by omega⟩, ?_, ?_⟩
  · exact vk.trans (fun j hj => hv.2.2.2 j (fun z => hj (by revert z; simp; omega)))
  · rw [hv.2.2.2 1 (by simp)]; exact v1
theorem c_rMachine (d : Nat) {k : Int} (hk : -2147483648 ≤ k ∧ k ≤ 2147483647) (hb : ∀ i, 0 ≤ i → i < 600 → -128 ≤ σ.1 92 i ∧ σ.1 92 i ≤ 127) (h1 : 0 ≤ σ.1 91 1 ∧ σ.1 91 1 ≤ 600) : am_MI G (d + 24) mX11_machine [am_r (some 91), am_i k] σ (fun x σ' => if 0 ≤ k ∧ k ≤ 3 then rm_M σ k (sm_mach (σ.1 92) (σ.1 91 1)) x σ' else x = -1 ∧ σ = σ') := by
  obtain ⟨ts, hts⟩ : ∃ ts, σ.1 92 = ts := ⟨_, rfl⟩
  obtain ⟨n, hn⟩ : ∃ n, σ.1 91 1 = n := ⟨_, rfl⟩
  refine am_M.go (by decide) (Nat.le_of_ble_eq_true rfl) rfl ?_
  refine S_X11_machine_0 (c_isIn _ hk (by omega) (by omega)) ?_
  rintro _ _ ⟨rfl, rfl⟩
  by_cases hk3 : 0 ≤ k ∧ k ≤ 3
  rotate_left
  · rw [if_neg hk3]
    refine S_X11_machine_6 (by decide) (fun z => absurd rfl z) (fun _ => ?_)
    refine S_X11_machine_9 ?_
    rw [if_neg hk3]
    exact ⟨rfl, rfl⟩
  rw [if_pos hk3]
  refine S_X11_machine_6 (by decide) (fun _ => ?_) (fun z => absurd (by decide) z)
  generalize hQ : (fun (x : Int) (σ' : am_D) => if 0 ≤ k ∧ k ≤ 3 then rm_M σ k (sm_mach (σ.1 92) (σ.1 91 1)) x σ' else x = -1 ∧ σ = σ') = Q
  generalize hR : sm_mach (σ.1 92) (σ.1 91 1) = R
  have hQR : ∀ x τ, rm_M σ k R x τ → Q x τ := fun x τ h => by rw [← hQ]; show (if _ then _ else _); rw [if_pos hk3, hR]; exact h
  clear hQ
  rw [hts, hn] at hR
  rw [hts] at hb
  rw [hn] at h1
  unfold sm_mach at hR
  have hbg := rg_begins (ts := ts) (u := σ.1 91) hb (by omega)
  refine S_X11_machine_11 (c_begins _ (by rw [hts]; exact hb) (by omega)) ?_
  rintro _ rfl
  rw [hts]
  rw [hn] at hbg ⊢
  obtain ⟨hg, hkp, hu1⟩ := hbg
  generalize rf_go ts (am_u1 (am_u1 (am_u1 (am_u1 (σ.1 91) 3 n) 1 0) 4 0) 2 0) = u at hg hkp hu1 ⊢
  refine S_X11_machine_15 (c_clears _) ?_
  rintro τ ⟨ho, hl, hZ⟩
  have q91 : τ.1 91 = u := by rw [ho.1 91 (by decide), am_sr_at]
  have q92 : τ.1 92 = ts := by rw [ho.1 92 (by decide), am_sr_of (by decide)]; exact hts
  have o1 : am_only rm_A σ τ := (am_only.sr (by simp)).trans (ho.sub (fun a ha => by revert ha; simp; omega))
  have o2 : rm_low σ τ := (rm_low.of (fun a y1 y2 => am_sr_of (by omega))).trans hl
  have hkp : am_kpt [1, 2, 3, 4, 5, 6, 21] (σ.1 91) (τ.1 91) := by rw [q91]; exact fun j hj => hkp j (fun z => hj (by revert z; simp; omega))
  have kr : ∀ v w, am_kpt rk v w → am_kpt [1, 2, 3, 4, 5, 6, 21] v w := fun v w h j hj => h j (fun z => hj (by revert z; simp; omega))
  have kr5 : ∀ v w, am_kpt [2, 4, 5, 6, 21] v w → am_kpt [1, 2, 3, 4, 5, 6, 21] v w := fun v w h j hj => h j (fun z => hj (by revert z; simp; omega))
  have hg : rg ts n (τ.1 91) 0 := by rw [q91]; exact hg
  have hu1 : τ.1 91 1 = 0 := by rw [q91]; exact hu1
  clear ho hl q91
  -- behind a FAULT
  have F106 : ∀ (τ : am_D) (F : Int), am_only rm_A σ τ → rm_low σ τ → am_kpt [1, 2, 3, 4, 5, 6, 21] (σ.1 91) (τ.1 91) → τ.1 91 1 = 0 → rh ts (τ.1 91) F → R = .inl F → am_X (am_FI G (d + 24) Q) mX11_machine (0, 0) 106 [some (am_r (some 91)), some (am_i k)] [] (am_K0, τ) := by
    intro τ F o1 o2 o3 o4 hF hRF
    refine S_X11_machine_106 (h_isGood _ hF) ?_
    rintro _ _ ⟨rfl, rfl⟩
    refine S_X11_machine_110 (by decide) (fun z => absurd rfl z) (fun _ => ?_)
    refine S_X11_machine_113 (hQR _ _ ?_)
    rw [hRF]
    have := hF.1.2
    exact ⟨⟨o1.sub (fun a ha => by revert ha; simp; omega), o3, o4, by omega, by omega⟩, rfl, hF.2.1, o1.1 93 (by decide), fun s hs => o2.eq hs⟩
  have F67 : ∀ (τ : am_D) (F : Int), am_only rm_A σ τ → rm_low σ τ → am_kpt [1, 2, 3, 4, 5, 6, 21] (σ.1 91) (τ.1 91) → τ.1 91 1 = 0 → rh ts (τ.1 91) F → R = .inl F → am_X (am_FI G (d + 24) Q) mX11_machine (0, 0) 67 [some (am_r (some 91)), some (am_i k)] [] (am_K0, τ) := by
    intro τ F o1 o2 o3 o4 hF hRF
    refine S_X11_machine_67 (h_isSign _ (by omega) ((o1.1 92 (by decide)).trans hts) hF) ?_
    rintro _ _ ⟨rfl, rfl⟩
    refine S_X11_machine_73 (by decide) (fun _ => ?_) (fun z => absurd rfl z)
    refine S_X11_machine_87 (h_isGood _ hF) ?_
    rintro _ _ ⟨rfl, rfl⟩
    exact S_X11_machine_91 (by decide) (fun _ => F106 _ F o1 o2 o3 o4 hF hRF) (fun z => absurd rfl z)
  have F66 : ∀ (τ : am_D) (F x : Int), am_only rm_A σ τ → rm_low σ τ → am_kpt [1, 2, 3, 4, 5, 6, 21] (σ.1 91) (τ.1 91) → τ.1 91 1 = 0 → rh ts (τ.1 91) F → R = .inl F → am_X (am_FI G (d + 24) Q) mX11_machine (0, 0) 66 [some (am_r (some 91)), some (am_i k)] [am_i x, am_i 5, am_r (some 95)] (am_K0, τ) := by
    intro τ F x o1 o2 o3 o4 hF hRF
    refine S_X11_machine_66 sh_95 (by omega) (by omega) ?_
    exact F67 _ F (o1.trans (am_only.pI (by simp))) (o2.trans (rm_low.pI (show (5 : Int) ≤ 5 by omega))) (by rw [am_pI_of (by decide)]; exact o3) (by rw [am_pI_of (by decide)]; exact o4) (by rw [am_pI_of (by decide)]; exact hF) hRF
  have F54 : ∀ (τ : am_D) (F x : Int), am_only rm_A σ τ → rm_low σ τ → am_kpt [1, 2, 3, 4, 5, 6, 21] (σ.1 91) (τ.1 91) → τ.1 91 1 = 0 → rh ts (τ.1 91) F → R = .inl F → am_X (am_FI G (d + 24) Q) mX11_machine (0, 0) 54 [some (am_r (some 91)), some (am_i k)] [am_i x, am_i 5, am_r (some 94)] (am_K0, τ) := by
    intro τ F x o1 o2 o3 o4 hF hRF
    refine S_X11_machine_54 sh_94 (by omega) (by omega) ?_
    have hF' : rh ts ((am_pI τ 94 5 x).1 91) F := by rw [am_pI_of (by decide)]; exact hF
    refine S_X11_machine_55 (h_number _ (by omega) (by omega) (by rw [am_pI_of (by decide)]; exact (o1.1 92 (by decide)).trans hts) hF') ?_
    rintro _ _ ⟨rfl, rfl⟩
    exact F66 _ F _ (o1.trans (am_only.pI (by simp))) (o2.trans (rm_low.pI (show (5 : Int) ≤ 5 by omega))) (by rw [am_pI_of (by decide)]; exact o3) (by rw [am_pI_of (by decide)]; exact o4) hF' hRF
  refine S_X11_machine_20 (r_isWord _ (by decide) q92 hg) ?_
  rintro _ _ ⟨rfl, rfl⟩
  by_cases hw : sl_wd ts n 0 0 = true
  rotate_left
  · have hw : sl_wd ts n 0 0 = false := by simpa using hw
    rw [if_pos hw] at hR
    rw [hw]
    refine S_X11_machine_27 (by decide) (fun z => absurd rfl z) (fun _ => ?_)
    refine S_X11_machine_30 (r_fails _ (by omega) q92 hg) ?_
    rintro _ ⟨v, rfl, hv, hF⟩
    refine S_X11_machine_35 ?_
    refine S_X11_machine_42 (h_number _ (by omega) (by omega) ((am_sr_of (by decide)).trans q92) (by rw [am_sr_at]; exact hF)) ?_
    rintro _ _ ⟨rfl, rfl⟩
    refine F54 _ _ _ (o1.trans (am_only.sr (by simp))) (o2.trans (rm_low.of (fun a y1 y2 => am_sr_of (by omega)))) (by rw [am_sr_at]; exact hkp.trans (kr _ _ hv)) (by rw [am_sr_at, hv 1 (by decide)]; exact hu1) (by rw [am_sr_at]; exact hF) hR.symm
  rw [if_neg (by rw [hw]; decide)] at hR
  rw [hw]
  refine S_X11_machine_27 (by decide) (fun _ => ?_) (fun z => absurd (by decide) z)
  refine S_X11_machine_38 (r_goes _ q92 hg) ?_
  rintro _ ⟨v, rfl, hv, hg⟩
  have q92 : (am_sr τ 91 v).1 92 = ts := by rw [am_sr_of (by decide)]; exact q92
  have hg : rg ts n ((am_sr τ 91 v).1 91) (tk_sp ts n 0) := by rw [am_sr_at]; exact hg
  have hkp : am_kpt [1, 2, 3, 4, 5, 6, 21] (σ.1 91) ((am_sr τ 91 v).1 91) := by rw [am_sr_at]; exact hkp.trans (kr _ _ hv)
  have hu1 : (am_sr τ 91 v).1 91 1 = 0 := by rw [am_sr_at, hv 1 (by decide)]; exact hu1
  have o1 := o1.trans (am_only.sr (a := 91) (t := v) (by simp))
  have o2 := o2.trans (rm_low.of (fun a y1 y2 => am_sr_of (σ := τ) (a := 91) (t := v) (by omega)))
  have hZ : rm_Z (am_sr τ 91 v) := hZ
  generalize am_sr τ 91 v = τ at *
  refine S_X11_machine_42 (r_number _ (by omega) (by omega) q92 hg) ?_
  rintro S _ ⟨v, rfl, hv, hS⟩
  have q92 : (am_sr τ 91 v).1 92 = ts := by rw [am_sr_of (by decide)]; exact q92
  have hkp : am_kpt [1, 2, 3, 4, 5, 6, 21] (σ.1 91) ((am_sr τ 91 v).1 91) := by rw [am_sr_at]; exact hkp.trans (kr _ _ hv)
  have hu1 : (am_sr τ 91 v).1 91 1 = 0 := by rw [am_sr_at, hv 1 (by decide)]; exact hu1
  have o1 := o1.trans (am_only.sr (a := 91) (t := v) (by simp))
  have o2 := o2.trans (rm_low.of (fun a y1 y2 => am_sr_of (σ := τ) (a := 91) (t := v) (by omega)))
  have hZ : rm_Z (am_sr τ 91 v) := hZ
  have e91 : (am_sr τ 91 v).1 91 = v := am_sr_at
  generalize am_sr τ 91 v = τ at *
  rcases hS with ⟨s1, s2, hF⟩ | ⟨s1, s2, s3, hg⟩
  · rw [if_pos s2] at hR
    exact F54 _ _ _ o1 o2 hkp hu1 (by rw [e91]; exact hF) hR.symm
  rw [if_neg (show ¬ sl_dig ts n 1 6 (tk_sp ts n 0) < 0 by omega), ← s1] at hR
  refine S_X11_machine_54 sh_94 (by omega) (by omega) ?_
  have q92 : (am_pI τ 94 5 S).1 92 = ts := by rw [am_pI_of (by decide)]; exact q92
  have hg : rg ts n ((am_pI τ 94 5 S).1 91) (tk_sp ts n (tk_sp ts n 0)) := by rw [am_pI_of (by decide), e91]; exact hg
  have hkp : am_kpt [1, 2, 3, 4, 5, 6, 21] (σ.1 91) ((am_pI τ 94 5 S).1 91) := by rw [am_pI_of (by decide)]; exact hkp
  have hu1 : (am_pI τ 94 5 S).1 91 1 = 0 := by rw [am_pI_of (by decide)]; exact hu1
  have o1 := o1.trans (am_only.pI (a := 94) (k := 5) (x := S) (by simp))
  have o2 := o2.trans (rm_low.pI (a := 94) (k := 5) (x := S) (show (5 : Int) ≤ 5 by omega))
  have e94 : (am_pI τ 94 5 S).1 94 5 = S := am_pI_at
  have hZ : rm_Z (am_pI τ 94 5 S) := hZ
  generalize am_pI τ 94 5 S = τ at *
  refine S_X11_machine_55 (r_number _ (by omega) (by omega) q92 hg) ?_
  rintro rr _ ⟨v, rfl, hv, hS⟩
  have q92 : (am_sr τ 91 v).1 92 = ts := by rw [am_sr_of (by decide)]; exact q92
  have hkp : am_kpt [1, 2, 3, 4, 5, 6, 21] (σ.1 91) ((am_sr τ 91 v).1 91) := by rw [am_sr_at]; exact hkp.trans (kr _ _ hv)
  have hu1 : (am_sr τ 91 v).1 91 1 = 0 := by rw [am_sr_at, hv 1 (by decide)]; exact hu1
  have o1 := o1.trans (am_only.sr (a := 91) (t := v) (by simp))
  have o2 := o2.trans (rm_low.of (fun a y1 y2 => am_sr_of (σ := τ) (a := 91) (t := v) (by omega)))
  have hZ : rm_Z (am_sr τ 91 v) := hZ
  have e94 : (am_sr τ 91 v).1 94 5 = S := by rw [am_sr_of (by decide)]; exact e94
  have e91 : (am_sr τ 91 v).1 91 = v := am_sr_at
  generalize am_sr τ 91 v = τ at *
  rcases hS with ⟨r1, r2, hF⟩ | ⟨r1, r2, r3, hg⟩
  · rw [if_pos r2] at hR
    exact F66 _ _ _ o1 o2 hkp hu1 (by rw [e91]; exact hF) hR.symm
  rw [if_neg (show ¬ sl_dig ts n 1 3 (tk_sp ts n (tk_sp ts n 0)) < 0 by omega), ← r1] at hR
  refine S_X11_machine_66 sh_95 (by omega) (by omega) ?_
  have hg : rg ts n ((am_pI τ 95 5 rr).1 91) (tk_sp ts n (tk_sp ts n (tk_sp ts n 0))) := by rw [am_pI_of (by decide), e91]; exact hg
  have hkp : am_kpt [1, 2, 3, 4, 5, 6, 21] (σ.1 91) ((am_pI τ 95 5 rr).1 91) := by rw [am_pI_of (by decide)]; exact hkp
  have hu1 : (am_pI τ 95 5 rr).1 91 1 = 0 := by rw [am_pI_of (by decide)]; exact hu1
  have o1 := o1.trans (am_only.pI (a := 95) (k := 5) (x := rr) (by simp))
  have o2 := o2.trans (rm_low.pI (a := 95) (k := 5) (x := rr) (show (5 : Int) ≤ 5 by omega))
  have e95 : (am_pI τ 95 5 rr).1 95 5 = rr := am_pI_at
  have e94 : (am_pI τ 95 5 rr).1 94 5 = S := by rw [am_pI_of (by decide)]; exact e94
  have hZ : rm_Z (am_pI τ 95 5 rr) := hZ
  generalize am_pI τ 95 5 rr = τ at *
  have loop : ∀ (f : Nat) (P : am_P) (p : Int) (τ : am_D), n - p < f → rg ts n (τ.1 91) p → am_only rm_A σ τ → rm_low σ τ → am_kpt [1, 2, 3, 4, 5, 6, 21] (σ.1 91) (τ.1 91) → τ.1 91 1 = 0 → rm_T τ 5 P → pm_ok P → τ.1 96 5 = pm_n P → sm_rules ts n f P p = R → am_X (am_FI G (d + 24) Q) mX11_machine (0, 0) 67 [some (am_r (some 91)), some (am_i k)] [] (am_K0, τ) := by
    intro f
    induction f with
    | zero => intro P p τ hf hg; have := hg.2.2.2.2; omega
    | succ f ih =>
      intro P p τ hf hg o1 o2 o3 o4 hT hP h96 hR
      unfold sm_rules at hR
      have q92 : τ.1 92 = ts := (o1.1 92 (by decide)).trans hts
      have n3 : τ.1 91 3 = n := hg.2.2.1
      have hpn := hg.2.2.2.2
      refine S_X11_machine_67 (r_isSign _ (by omega) q92 hg) ?_
      rintro _ _ ⟨rfl, rfl⟩
      by_cases h59 : tk_k ts n p = 59
      · rw [if_pos h59] at hR ⊢
        refine S_X11_machine_73 (by decide) (fun z => absurd z (by decide)) (fun _ => ?_)
        refine S_X11_machine_76 (r_goes _ q92 hg) ?_
        rintro _ ⟨v, rfl, hv, hg⟩
        have v3 : v 3 = n := hg.2.2.1
        have f0 : ∀ a, a ≠ 91 → (am_sr τ 91 v).1 a = τ.1 a := fun a ha => am_sr_of ha
        have hx := c_rRule (G := G) (σ := am_sr τ 91 v) d (p := p) (P := P) (by rw [am_sr_at]; omega) (by rw [am_sr_at]; omega) (by rw [am_sr_at, f0 92 (by decide), q92, v3]; omega) (by rw [am_sr_at, f0 92 (by decide), q92, v3]; exact hg) (rm_T_keep hT (fun a y1 y2 y3 => f0 a y1) (by rw [f0 105 (by decide)]; exact am_kpt.rfl')) hP (by rw [f0 96 (by decide)]; exact h96)
        rw [am_sr_at, f0 92 (by decide), q92, v3] at hx
        refine S_X11_machine_80 hx ?_
        rintro τ2 ⟨⟨p1, p2, p3⟩, hpost⟩
        refine S_X11_machine_84 ?_
        rw [am_sr_at] at p3
        have w1 : am_only rm_A σ τ2 := (o1.trans (am_only.sr (by simp))).trans p1
        have w2 : rm_low σ τ2 := (o2.trans (rm_low.of (fun a y1 y2 => f0 a (by omega)))).trans p2
        have w3 : am_kpt [1, 2, 3, 4, 5, 6, 21] (σ.1 91) (τ2.1 91) := (o3.trans (kr _ _ hv)).trans (kr5 _ _ p3)
        have w4 : τ2.1 91 1 = 0 := by rw [p3 1 (by decide), hv 1 (by decide)]; exact o4
        generalize sm_rule ts n P p = Y at hR hpost
        cases Y with
        | inl F =>
          have hpost : rh ((am_sr τ 91 v).1 92) (τ2.1 91) F := hpost
          rw [f0 92 (by decide), q92] at hpost
          exact F67 τ2 F w1 w2 w3 w4 hpost hR.symm
        | inr r =>
          obtain ⟨P', p'⟩ := r
          obtain ⟨g1, g2, g3, g4, g5⟩ := (show rg ((am_sr τ 91 v).1 92) ((am_sr τ 91 v).1 91 3) (τ2.1 91) p' ∧ p < p' ∧ rm_T τ2 5 P' ∧ pm_ok P' ∧ τ2.1 96 5 = pm_n P' from hpost)
          rw [f0 92 (by decide), q92, am_sr_at, v3] at g1
          exact ih P' p' τ2 (by omega) g1 w1 w2 w3 w4 g3 g4 g5 hR
      · rw [if_neg h59] at hR ⊢
        refine S_X11_machine_73 (by decide) (fun _ => ?_) (fun z => absurd rfl z)
        refine S_X11_machine_87 (r_isGood _ hg) ?_
        rintro _ _ ⟨rfl, rfl⟩
        refine S_X11_machine_91 (by decide) (fun z => absurd z (by decide)) (fun _ => ?_)
        have hs := hg.srt.1
        have hz := (rf_srt_v (tk_k_v ts n p)).1
        have hok := hg.1.2
        refine S_X11_machine_94 (by omega) (fun z => ?_) (fun z => ?_)
        · have h0 : tk_k ts n p = 0 := hz.mp (hs.symm.trans z)
          rw [if_pos h0] at hR
          refine S_X11_machine_106 (r_isGood _ hg) ?_
          rintro _ _ ⟨rfl, rfl⟩
          refine S_X11_machine_110 (by decide) (fun _ => ?_) (fun z => absurd (by decide) z)
          refine S_X11_machine_116 (c_rCopies _ (by omega) (by omega) (by omega)) ?_
          intro τ2 hC
          have e96 : τ2.1 96 k = pm_n P := by
            have := hC.to 96 (by decide) (by decide) 0 (by decide) (by decide)
            rw [show rm_sz 96 * k + 0 = k by show 1 * k + 0 = k; omega, show rm_sz 96 * 5 + 0 = 5 by decide] at this
            exact this.trans h96
          have e91 : τ2.1 91 = τ.1 91 := hC.1.1 91 (by decide)
          refine S_X11_machine_122 (by omega) (by omega) (hQR _ _ ?_)
          rw [← hR]
          refine ⟨⟨(o1.sub (fun a ha => by revert ha; simp; omega)).trans (hC.1.sub (fun a ha => by revert ha; simp; omega)), by rw [e91]; exact o3, by rw [e91]; exact o4, by rw [e91, hg.2.1]; omega, by rw [e91, hg.2.1]; omega⟩, e96, by rw [e91]; exact hg.2.1, by rw [hC.2.1, o1.1 93 (by decide)], rm_T_move hP hT hC.to, hP, fun s hs hsk => (o2.eq hs).trans (hC.other hsk)⟩
        · have h0 : tk_k ts n p ≠ 0 := fun y => z (hs.trans (hz.mpr y))
          rw [if_neg h0] at hR
          refine S_X11_machine_101 (r_fails _ (by omega) q92 hg) ?_
          rintro _ ⟨v, rfl, hv, hF⟩
          exact F106 _ _ (o1.trans (am_only.sr (by simp))) (o2.trans (rm_low.of (fun a y1 y2 => am_sr_of (by omega)))) (by rw [am_sr_at]; exact o3.trans (kr _ _ hv)) (by rw [am_sr_at, hv 1 (by decide)]; exact o4) (by rw [am_sr_at]; exact hF) hR.symm
  have hpn := hg.2.2.2.2
  refine loop 700 (pm_0 S rr) _ τ (by omega) hg o1 o2 hkp hu1 (rm_T_0 hZ e94 e95) (pm_ok_0 (by omega) (by omega)) ?_ hR
  exact hZ.1
end
