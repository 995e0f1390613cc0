section
variable {G : am_G} {σ : am_D}
theorem am_pI_sr1 {σ : am_D} {a b : Nat} {t : Int → Int} {k x : Int} (h : a ≠ b) : am_pI (am_sr σ b t) a k x = am_sr (am_pI σ a k x) b t := by
  refine Prod.ext ?_ rfl
  funext c
  by_cases h1 : c = a
  · subst h1
    rw [am_pI_row, am_sr_of h, am_sr_of h, am_pI_row]
  · by_cases h2 : c = b
    · subst h2
      rw [am_pI_of h1, am_sr_at, am_sr_at]
    · rw [am_pI_of h1, am_sr_of h2, am_sr_of h2, am_pI_of h1]
def cm_Wm (m : Nat) (τ : am_D) (R : Int ⊕ am_P) : Prop := match R with
  | .inl F => τ.1 1 5 = F ∧ 0 < F
  | .inr P => τ.1 1 5 = 0 ∧ cm_T τ m P ∧ cm_N τ m (pm_n P) ∧ pm_ok P
/-- what a read MACHINE leaves -/
def cm_W (σ : am_D) (m : Nat) (R : Int ⊕ am_P) (τ : am_D) : Prop := am_only (cm_A m) σ τ ∧ tk_idle (σ.1 2) (τ.1 1) ∧ τ.1 1 1 = 0 ∧ cm_Wm m τ R
theorem sl_wd_k {bs : Int → Int} {n p : Int} {i : Nat} (h : sl_wd bs n i p = true) : tk_k bs n p ≠ 0 := by
  unfold sl_wd at h
  rw [Bool.and_eq_true] at h
  have := of_decide_eq_true h.1
  omega
theorem tk_idle_of {bs t : Int → Int} (h : tk_ok bs t) : tk_idle bs (am_u1 t 1 0) := by
  obtain ⟨hb, h1, h2, h3, h4, h6, h7, h8, h9, h10⟩ := h
  exact ⟨hb, by rw [am_u1_eq]; omega, by rw [am_u1_eq]; omega, by rw [am_u1_ne (by decide)]; exact h8, by rw [am_u1_ne (by decide)]; exact h9, by rw [am_u1_ne (by decide)]; exact h10⟩
theorem c_readMachine (d : Nat) {m : Nat} (hm : am_isM m) (hid : tk_idle (σ.1 2) (σ.1 1)) : am_MV G (d + 8) mX8_readMachine [am_r (some 3), am_r (some m)] σ (fun σ' => cm_W σ m (sm_mach (σ.1 2) (σ.1 1 1)) σ') := by
  have hm1 := hm.1
  obtain ⟨bs, hb⟩ : ∃ bs, σ.1 2 = bs := ⟨_, rfl⟩
  obtain ⟨n, hn⟩ : ∃ n, σ.1 1 1 = n := ⟨_, rfl⟩
  generalize hR : sm_mach (σ.1 2) (σ.1 1 1) = R
  rw [hb, hn] at hR
  rw [hb] at hid
  have hn0 : 0 ≤ n ∧ n ≤ 600 := by have := hid.2; omega
  refine am_M.go (by decide) (Nat.le_of_ble_eq_true rfl) rfl ?_
  -- the end
  have J177 : ∀ (τ : am_D), am_only (cm_A m) σ τ → tk_ok bs (τ.1 1) → cm_Wm m τ R → am_X (am_FV G (d + 8) (fun σ' => cm_W σ m R σ')) mX8_readMachine (0, 0) 177 [some (am_r (some 3)), none, none] [] (am_K0, τ) := by
    intro τ ho hok hr
    refine S_X8_readMachine_177 ?_
    refine S_X8_readMachine_185 ?_
    have f0 : ∀ a, a ≠ 1 → (am_pI τ 1 1 0).1 a = τ.1 a := fun a ha => am_pI_of ha
    have f1 : (am_pI τ 1 1 0).1 1 = am_u1 (τ.1 1) 1 0 := am_pI_row
    refine ⟨ho.trans (am_only.pI (by simp)), by rw [hb, f1]; exact tk_idle_of hok, by rw [f1, am_u1_eq], ?_⟩
    cases R with
    | inl F =>
      show (am_pI τ 1 1 0).1 1 5 = F ∧ 0 < F
      rw [f1, am_u1_ne (by decide)]
      exact hr
    | inr P =>
      have hr : τ.1 1 5 = 0 ∧ cm_T τ m P ∧ cm_N τ m (pm_n P) ∧ pm_ok P := hr
      show (am_pI τ 1 1 0).1 1 5 = 0 ∧ cm_T (am_pI τ 1 1 0) m P ∧ cm_N (am_pI τ 1 1 0) m (pm_n P) ∧ pm_ok P
      have hx : ∀ e w, cm_X τ m e w → cm_X (am_pI τ 1 1 0) m e w := fun e w => cm_X_of (f0 _ (by omega)) (f0 _ (by omega)) (by rw [f0 m (by omega)]) (by rw [f0 m (by omega)])
      refine ⟨by rw [f1, am_u1_ne (by decide)]; exact hr.1, ?_, ?_, hr.2.2.2⟩
      · obtain ⟨-, ⟨a, b, c, e⟩, -, -⟩ := hr
        unfold cm_T
        rw [f0 m (by omega), f0 (m + 1) (by omega), f0 (m + 2) (by omega), f0 (m + 3) (by omega), f0 (m + 4) (by omega), f0 (m + 5) (by omega)]
        exact ⟨a, b, fun l q k x1 x2 x3 x4 x5 x6 => ⟨(c l q k x1 x2 x3 x4 x5 x6).1, fun z i hi => hx _ _ ((c l q k x1 x2 x3 x4 x5 x6).2 z i hi)⟩, fun q x1 x2 => cm_XE_mono hx (e q x1 x2)⟩
      · have := hr.2.2.1
        unfold cm_N at this ⊢
        rw [f0 m (by omega), f0 (m + 7) (by omega)]
        exact this
  have F159 : ∀ (τ : am_D) (F : Int), am_only (cm_A m) σ τ → tf bs n (τ.1 1) F → R = .inl F → am_X (am_FV G (d + 8) (fun σ' => cm_W σ m R σ')) mX8_readMachine (0, 0) 159 [some (am_r (some 3)), none, none] [] (am_K0, τ) := by
    intro τ F ho h hRF
    have hb2 : τ.1 2 = bs := by rw [ho.1 2 (cm_A_no hm (by decide) (by decide) (by decide)), hb]
    have h5 := h.1.2
    have J := J177 τ ho h.1 (by rw [hRF]; exact h.2)
    refine S_X8_readMachine_159 (by omega) (fun _ => J) (fun _ => ?_)
    refine S_X8_readMachine_169 (cF_fail _ (by rw [hb2]; exact h.1) h.ne) ?_
    rintro _ rfl
    exact J
  have F74 : ∀ (τ : am_D) (F i : Int), 0 ≤ i ∧ i ≤ 700 → am_only (cm_A m) σ τ → tf bs n (τ.1 1) F → R = .inl F → am_X (am_FV G (d + 8) (fun σ' => cm_W σ m R σ')) mX8_readMachine (0, 0) 74 [some (am_r (some 3)), some (am_r (some m)), some (am_i i)] [] (am_K0, τ) := by
    intro τ F i hi ho h hRF
    have h5 := h.1.2
    refine S_X8_readMachine_74 (by omega) (fun _ => F159 τ F ho h hRF) (fun _ => ?_)
    refine S_X8_readMachine_81 (by omega) (fun _ => F159 τ F ho h hRF) (fun _ => ?_)
    exact S_X8_readMachine_93 (by omega) (fun _ => F159 τ F ho h hRF) (fun z => absurd h.ne z)
  -- the RULES
  have loop : ∀ (f : Nat) (i p : Int) (P : am_P) (τ : am_D), 0 ≤ i → i ≤ p → n - p < f → am_only (cm_A m) σ τ → tg bs n (τ.1 1) p → cm_T τ m P → cm_N τ m (pm_n P) → pm_ok P → sm_rules bs n f P p = R → am_X (am_FV G (d + 8) (fun σ' => cm_W σ m R σ')) mX8_readMachine (0, 0) 74 [some (am_r (some 3)), some (am_r (some m)), some (am_i i)] [] (am_K0, τ) := by
    intro f
    induction f with
    | zero =>
      intro i p P τ i0 ip hf ho hg hT hN hP hR
      have := hg.2.2.2.2.2
      exact absurd hf (by omega)
    | succ f ih =>
      intro i p P τ i0 ip hf ho hg hT hN hP hR
      have hpn := hg.2.2.2.2.2
      have hb2 : τ.1 2 = bs := by rw [ho.1 2 (cm_A_no hm (by decide) (by decide) (by decide)), hb]
      have h5 := hg.1.2
      have hgk := hg.k
      have hin := tk_in (bs := bs) hpn
      unfold sm_rules at hR
      refine S_X8_readMachine_74 (by omega) (fun z => absurd z (by omega)) (fun _ => ?_)
      refine S_X8_readMachine_81 (by omega) (fun z => ?_) (fun z => ?_)
      · rw [if_neg (by omega)] at hR
        refine S_X8_readMachine_159 (by omega) (fun z0 => ?_) (fun z0 => ?_)
        · rw [if_pos (by omega)] at hR
          exact J177 τ ho hg.1 (by rw [← hR]; exact ⟨hg.2.2.1, hT, hN, hP⟩)
        · rw [if_neg (by omega)] at hR
          have hs := s_fail (G := G) (σ := τ) (d + 6) (w := 1) (by omega) hb2 hg
          rw [am_sr_self] at hs
          refine S_X8_readMachine_169 hs ?_
          rintro _ ⟨t', rfl, h'⟩
          exact J177 _ (ho.trans (am_only.sr (by simp))) (by rw [am_sr_at]; exact h'.1) (by rw [← hR]; show (am_sr τ 1 t').1 1 5 = _ ∧ _; rw [am_sr_at]; exact h'.2)
      · rw [if_pos (by omega)] at hR
        have hlt := tk_lt (bs := bs) (n := n) (p := p) (by omega)
        refine S_X8_readMachine_93 (by omega) (fun y => absurd hg.2.2.1 y) (fun _ => ?_)
        refine S_X8_readMachine_103 (c_startRule _ hm hb2 hg hT hP) ?_
        rintro τ1 ⟨o1, r31, r32, hcase⟩
        have q0 : ∀ a, a ≠ 1 → a ≠ 3 → τ1.1 a = τ.1 a := fun a y1 y3 => o1.1 a (by simp; omega)
        have ho1 : am_only (cm_A m) σ τ1 := ho.trans (o1.sub (fun a ha => by revert ha; simp; omega))
        have hb1 : τ1.1 2 = bs := by rw [q0 2 (by omega) (by omega), hb2]
        have hx : ∀ e w, cm_X τ m e w → cm_X τ1 m e w := fun e w => cm_X_of (q0 _ (by omega) (by omega)) (q0 _ (by omega) (by omega)) (by rw [q0 m (by omega) (by omega)]) (by rw [q0 m (by omega) (by omega)])
        have hT1 : cm_T τ1 m P := by
          obtain ⟨a, b, c, e⟩ := hT
          unfold cm_T
          rw [q0 m (by omega) (by omega), q0 (m + 1) (by omega) (by omega), q0 (m + 2) (by omega) (by omega), q0 (m + 3) (by omega) (by omega), q0 (m + 4) (by omega) (by omega), q0 (m + 5) (by omega) (by omega)]
          exact ⟨a, b, fun l q k x1 x2 x3 x4 x5 x6 => ⟨(c l q k x1 x2 x3 x4 x5 x6).1, fun z i hi => hx _ _ ((c l q k x1 x2 x3 x4 x5 x6).2 z i hi)⟩, fun q x1 x2 => cm_XE_mono hx (e q x1 x2)⟩
        have hN1 : cm_N τ1 m (pm_n P) := by
          unfold cm_N at hN ⊢
          rw [q0 m (by omega) (by omega), q0 (m + 7) (by omega) (by omega)]
          exact hN
        -- behind a FAULT
        have FA : ∀ F, tf bs n (τ1.1 1) F → R = .inl F → am_X (am_FV G (d + 8) (fun σ' => cm_W σ m R σ')) mX8_readMachine (0, 0) 108 [some (am_r (some 3)), some (am_r (some m)), some (am_i i)] [] (am_K0, τ1) := by
          intro F hF hRF
          have hok1 : tk_ok (τ1.1 2) (τ1.1 1) := by rw [hb1]; exact hF.1
          have J153 : ∀ τ2, am_only [m] τ1 τ2 → am_X (am_FV G (d + 8) (fun σ' => cm_W σ m R σ')) mX8_readMachine (0, 0) 153 [some (am_r (some 3)), some (am_r (some m)), some (am_i i)] [] (am_K0, τ2) := by
            intro τ2 o2
            refine S_X8_readMachine_153 ?_
            refine F74 τ2 F (i + 1) (by omega) (ho1.trans (o2.sub (fun a ha => by revert ha; simp; omega))) ?_ hRF
            rw [o2.1 1 (by simp <;> omega)]
            exact hF
          refine S_X8_readMachine_108 (c_isWord _ (by omega) hok1) ?_
          rintro _ _ ⟨rfl, rfl⟩
          refine S_X8_readMachine_117 (by split <;> omega) (fun _ => ?_) (fun _ => ?_)
          · refine S_X8_readMachine_128 (c_isWord _ (by omega) hok1) ?_
            rintro _ _ ⟨rfl, rfl⟩
            refine S_X8_readMachine_137 (by split <;> omega) (fun _ => ?_) (fun _ => ?_)
            · refine S_X8_readMachine_148 (cF_readEnd _ hm hb1 hF r31 hT1 hN1 hP) ?_
              exact fun τ2 o2 => J153 τ2 o2
            · refine S_X8_readMachine_140 (cF_readClose _ hm hb1 hF r31 hT1 hP) ?_
              exact fun τ2 o2 => S_X8_readMachine_145 (J153 τ2 o2)
          · refine S_X8_readMachine_120 (cF_readOpen _ hm hb1 hF hT1 hP) ?_
            rintro _ rfl
            exact S_X8_readMachine_125 (J153 _ am_only.rfl')
        unfold sm_rule at hR
        rcases hcase with ⟨w1, w2, w3, hF⟩ | ⟨hw, h24, hF⟩ | ⟨hw, h24, hg1⟩
        · rw [if_pos ⟨w1, w2, w3⟩] at hR
          exact FA _ hF hR.symm
        · rw [if_neg hw, if_pos h24] at hR
          exact FA _ hF hR.symm
        rw [if_neg hw, if_neg (show ¬ 24 ≤ pm_nO P + pm_nC P + pm_nE P from Int.not_le.mpr h24)] at hR
        -- a RULE has been read
        have J153 : ∀ (X : Int ⊕ (am_P × Int)) (τ2 : am_D), cm_O τ1 m bs n (tk_sp bs n p) X τ2 → (match X with
            | .inl F => .inl F
            | .inr (P', p') => sm_rules bs n f P' p') = R → am_X (am_FV G (d + 8) (fun σ' => cm_W σ m R σ')) mX8_readMachine (0, 0) 153 [some (am_r (some 3)), some (am_r (some m)), some (am_i i)] [] (am_K0, τ2) := by
          intro X τ2 hO hX
          refine S_X8_readMachine_153 ?_
          cases X with
          | inl F => exact F74 τ2 F (i + 1) (by omega) (ho1.trans hO.1) hO.2 hX.symm
          | inr r =>
            obtain ⟨P', p'⟩ := r
            obtain ⟨oo, g1, g2, g3, g4, g5⟩ := (show am_only (cm_A m) τ1 τ2 ∧ tg bs n (τ2.1 1) p' ∧ tk_sp bs n p < p' ∧ cm_T τ2 m P' ∧ cm_N τ2 m (pm_n P') ∧ pm_ok P' from hO)
            exact ih (i + 1) p' P' τ2 (by omega) (by omega) (by omega) (ho1.trans oo) g1 g3 g4 g5 hX
        have e1 : τ1 = am_sr τ1 1 (τ1.1 1) := (am_sr_self τ1 1).symm
        have hW : ∀ i : Nat, i < 9 → am_MI G (d + 7) mX7_isWord [am_r (some 1), am_s i] τ1 (fun x σ' => x = (if sl_wd bs n i (tk_sp bs n p) then 1 else 0) ∧ τ1 = σ') := by
          intro i hi
          have := s_isWord (G := G) (σ := τ1) (d + 2) hi hb1 hg1
          rw [am_sr_self] at this
          exact this
        refine S_X8_readMachine_108 (hW 1 (by omega)) ?_
        rintro _ _ ⟨rfl, rfl⟩
        cases w1 : sl_wd bs n 1 (tk_sp bs n p) with
        | true =>
          rw [if_pos w1] at hR
          refine S_X8_readMachine_117 (by decide) (fun y => absurd y (by decide)) (fun _ => ?_)
          refine S_X8_readMachine_120 (c_readOpen _ hm hb1 hg1 (sl_wd_k w1) hT1 hN1 hP h24) ?_
          exact fun τ2 hO => S_X8_readMachine_125 (J153 _ τ2 hO hR)
        | false =>
          rw [if_neg (by rw [w1]; decide)] at hR
          refine S_X8_readMachine_117 (by decide) (fun _ => ?_) (fun y => absurd rfl y)
          refine S_X8_readMachine_128 (hW 2 (by omega)) ?_
          rintro _ _ ⟨rfl, rfl⟩
          cases w2 : sl_wd bs n 2 (tk_sp bs n p) with
          | true =>
            rw [if_pos w2] at hR
            refine S_X8_readMachine_137 (by decide) (fun y => absurd y (by decide)) (fun _ => ?_)
            refine S_X8_readMachine_140 (c_readClose _ hm hb1 hg1 (sl_wd_k w2) r31 r32 hT1 hN1 hP h24) ?_
            exact fun τ2 hO => S_X8_readMachine_145 (J153 _ τ2 hO hR)
          | false =>
            rw [if_neg (by rw [w2]; decide)] at hR
            refine S_X8_readMachine_137 (by decide) (fun _ => ?_) (fun y => absurd rfl y)
            have w3 : sl_wd bs n 3 (tk_sp bs n p) = true := by
              cases w3 : sl_wd bs n 3 (tk_sp bs n p) with
              | true => rfl
              | false => exact absurd ⟨w1, w2, w3⟩ hw
            refine S_X8_readMachine_148 (c_readEnd _ hm hb1 hg1 (sl_wd_k w3) r31 r32 hT1 hN1 hP h24) ?_
            exact fun τ2 hO => J153 _ τ2 hO hR
  -- the head
  refine S_X8_readMachine_0 (c_mclear _ hm) hm ?_
  rintro σ1 ⟨o1, z1⟩
  have c0 : ∀ a, a < 43 → σ1.1 a = σ.1 a := fun a ha => o1.1 a (by simp; omega)
  refine S_X8_readMachine_4 (c_rewind _) ?_
  rintro _ rfl
  rw [c0 1 (by omega)]
  have hk0 : tk_ok bs (am_u1 (am_u1 (am_u1 (σ.1 1) 3 0) 4 0) 5 0) := by
    obtain ⟨i1, i2, i3, i4, i5, i6, i7⟩ := hid
    refine ⟨i1, ?_⟩
    rw [am_u1_ne (show (1 : Int) ≠ 5 by decide), am_u1_ne (show (1 : Int) ≠ 4 by decide), am_u1_ne (show (1 : Int) ≠ 3 by decide), am_u1_ne (show (4 : Int) ≠ 5 by decide), am_u1_eq, am_u1_ne (show (3 : Int) ≠ 5 by decide), am_u1_ne (show (3 : Int) ≠ 4 by decide), am_u1_eq, am_u1_ne (show (2 : Int) ≠ 5 by decide), am_u1_ne (show (2 : Int) ≠ 4 by decide), am_u1_ne (show (2 : Int) ≠ 3 by decide), am_u1_eq]
    omega
  have hb1 : σ1.1 2 = bs := by rw [c0 2 (by omega), hb]
  refine S_X8_readMachine_11 (c_advance _ (am_sr_ok hb1 hk0)) ?_
  rintro _ rfl
  rw [am_sr_at, am_sr_of (by decide), hb1, am_sr_sr]
  have hg : tg bs n (tk_adv bs (am_u1 (am_u1 (am_u1 (σ.1 1) 3 0) 4 0) 5 0)) 0 := by
    have hv := tk_adv_at (bs := bs) (t := am_u1 (am_u1 (am_u1 (σ.1 1) 3 0) 4 0) 5 0) (by rw [am_u1_eq])
    refine ⟨tk_adv_ok hk0, ?_, hv.2.1, hv.1, by omega, hn0.1⟩
    rw [hv.2.2, am_u1_ne (show (1 : Int) ≠ 5 by decide), am_u1_ne (show (1 : Int) ≠ 4 by decide), am_u1_ne (show (1 : Int) ≠ 3 by decide), hn]
  generalize tk_adv bs (am_u1 (am_u1 (am_u1 (σ.1 1) 3 0) 4 0) 5 0) = t at hg ⊢
  have ho1 : am_only (cm_A m) σ σ1 := o1.sub (fun a ha => by revert ha; simp; omega)
  -- faults of the head
  have F65 : ∀ (τ : am_D) (t : Int → Int) (F : Int), τ.1 2 = bs → am_only (cm_A m) σ τ → tf bs n t F → R = .inl F → am_X (am_FV G (d + 8) (fun σ' => cm_W σ m R σ')) mX8_readMachine (0, 0) 65 [some (am_r (some 3)), some (am_r (some m)), none] [] (am_K0, am_sr τ 1 t) := by
    intro τ t F hb2 ho h hRF
    refine S_X8_readMachine_65 (f_advance _ hb2 h) ?_
    rintro _ rfl
    refine S_X8_readMachine_72 ?_
    exact F74 _ F 0 (by omega) (ho.trans (am_only.sr (by simp))) (by rw [am_sr_at]; exact h) hRF
  have F52 : ∀ (τ : am_D) (t : Int → Int) (F : Int), τ.1 2 = bs → am_only (cm_A m) σ τ → tf bs n t F → R = .inl F → am_X (am_FV G (d + 8) (fun σ' => cm_W σ m R σ')) mX8_readMachine (0, 0) 52 [some (am_r (some 3)), some (am_r (some m)), none] [] (am_K0, am_sr τ 1 t) := by
    intro τ t F hb2 ho h hRF
    refine S_X8_readMachine_52 (f_digit _ (by omega) (by omega) hb2 h) ?_
    rintro x _ ⟨-, rfl⟩
    refine S_X8_readMachine_62 hm ?_
    rw [am_pI_sr1 (by omega)]
    exact F65 _ t F (by rw [am_pI_of (by omega)]; exact hb2) (ho.trans (am_only.pI (by simp))) h hRF
  unfold sm_mach at hR
  refine S_X8_readMachine_18 (s_isWord _ (by omega) hb1 hg) ?_
  rintro _ _ ⟨rfl, rfl⟩
  cases w0 : sl_wd bs n 0 0 with
  | false =>
    rw [if_pos w0] at hR
    refine S_X8_readMachine_27 (by decide) (fun z => absurd rfl z) (fun _ => ?_)
    refine S_X8_readMachine_30 (s_fail _ (by omega) hb1 hg) ?_
    rintro _ ⟨t, rfl, h⟩
    refine S_X8_readMachine_38 (f_digit _ (by omega) (by omega) hb1 h) ?_
    rintro x _ ⟨-, rfl⟩
    refine S_X8_readMachine_49 hm ?_
    rw [am_pI_sr1 (by omega)]
    exact F52 _ t _ (by rw [am_pI_of (by omega)]; exact hb1) (ho1.trans (am_only.pI (by simp))) h hR.symm
  | true =>
    rw [if_neg (by rw [w0]; decide)] at hR
    refine S_X8_readMachine_27 (by decide) (fun _ => ?_) (fun z => absurd (by decide) z)
    refine S_X8_readMachine_38 (s_digit _ (by omega) (by omega) hb1 hg) ?_
    rintro s _ ⟨t, rfl, ⟨s1, s2, h⟩ | ⟨s1, s2, s3, h⟩⟩
    · rw [if_pos s2] at hR
      refine S_X8_readMachine_49 hm ?_
      rw [am_pI_sr1 (by omega)]
      exact F52 _ t _ (by rw [am_pI_of (by omega)]; exact hb1) (ho1.trans (am_only.pI (by simp))) h hR.symm
    rw [if_neg (show ¬ sl_dig bs n 1 6 (tk_sp bs n 0) < 0 by omega), ← s1] at hR
    refine S_X8_readMachine_49 hm ?_
    rw [am_pI_sr1 (by omega)]
    have hb3 : (am_pI σ1 m 0 s).1 2 = bs := by rw [am_pI_of (by omega)]; exact hb1
    refine S_X8_readMachine_52 (s_digit _ (by omega) (by omega) hb3 h) ?_
    rintro r _ ⟨t, rfl, ⟨r1, r2, h⟩ | ⟨r1, r2, r3, h⟩⟩
    · rw [if_pos r2] at hR
      refine S_X8_readMachine_62 hm ?_
      rw [am_pI_sr1 (by omega)]
      exact F65 _ t _ (by rw [am_pI_of (by omega)]; exact hb3) ((ho1.trans (am_only.pI (by simp))).trans (am_only.pI (by simp))) h hR.symm
    rw [if_neg (show ¬ sl_dig bs n 1 3 (tk_sp bs n (tk_sp bs n 0)) < 0 by omega), ← r1] at hR
    refine S_X8_readMachine_62 hm ?_
    rw [am_pI_sr1 (by omega)]
    have hb4 : (am_pI (am_pI σ1 m 0 s) m 1 r).1 2 = bs := by rw [am_pI_of (by omega)]; exact hb3
    refine S_X8_readMachine_65 (s_advance _ hb4 h) ?_
    rintro _ ⟨t, rfl, h⟩
    refine S_X8_readMachine_72 ?_
    have u0 : ∀ a, a ≠ m → a ≠ 1 → (am_sr (am_pI (am_pI σ1 m 0 s) m 1 r) 1 t).1 a = σ1.1 a := fun a y0 y1 => by rw [am_sr_of y1, am_pI_of y0, am_pI_of y0]
    have um : (am_sr (am_pI (am_pI σ1 m 0 s) m 1 r) 1 t).1 m = am_u1 (am_u1 (σ1.1 m) 0 s) 1 r := by rw [am_sr_of (by omega), am_pI_row, am_pI_row]
    have uj : ∀ j, j ≠ 0 → j ≠ 1 → (am_sr (am_pI (am_pI σ1 m 0 s) m 1 r) 1 t).1 m j = σ1.1 m j := fun j y0 y1 => by rw [um, am_u1_ne y1, am_u1_ne y0]
    have zz : cm_Z m (am_sr (am_pI (am_pI σ1 m 0 s) m 1 r) 1 t) := by
      obtain ⟨⟨a2, a3, a4, a5, a6, a7, a8⟩, b, c, e⟩ := z1
      refine ⟨?_, ?_, ?_, ?_⟩
      · rw [uj 2 (by decide) (by decide), uj 3 (by decide) (by decide), uj 4 (by decide) (by decide), uj 5 (by decide) (by decide), uj 6 (by decide) (by decide), uj 14 (by decide) (by decide), uj 15 (by decide) (by decide)]
        exact ⟨a2, a3, a4, a5, a6, a7, a8⟩
      · rw [u0 _ (by omega) (by omega)]; exact b
      · rw [u0 _ (by omega) (by omega)]; exact c
      · rw [u0 _ (by omega) (by omega)]; exact e
    have hpos := h.2.2.2.2
    refine loop 700 0 _ (pm_0 s r) _ (by omega) hpos.1 (by omega) (((ho1.trans (am_only.pI (by simp))).trans (am_only.pI (by simp))).trans (am_only.sr (by simp))) (by rw [am_sr_at]; exact h) (cm_T_0 zz (by rw [um, am_u1_ne (by decide), am_u1_eq]) (by rw [um, am_u1_eq])) ?_ (pm_ok_0 ⟨s2, s3⟩ ⟨r2, r3⟩) hR
    obtain ⟨⟨a2, a3, a4, a5, a6, a7, a8⟩, b, c, e⟩ := zz
    exact ⟨by omega, by rw [a7]; exact Int.le_refl 0, by omega, by rw [a8]; exact Int.le_refl 0, fun z => by omega⟩
end
