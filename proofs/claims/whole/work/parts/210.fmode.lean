section
/-! The class behind a FAULT: what is still done does nothing to the Tape. -/
variable {G : am_G} {σ : am_D}
/-- nothing of the Tape has changed; Texts and the Machine are within their ranges -/
def cm_FF (σ : am_D) (m : Nat) (τ : am_D) : Prop := am_only [3, m, m + 6, m + 7] σ τ ∧ am_kpt [14, 15] (σ.1 m) (τ.1 m) ∧ 0 ≤ τ.1 3 1 ∧ τ.1 3 1 ≤ σ.1 3 1 + 1 ∧ 0 ≤ τ.1 3 2 ∧ τ.1 3 2 ≤ 2147483647 ∧ 0 ≤ τ.1 m 14 ∧ τ.1 m 14 ≤ σ.1 m 14 + 1 ∧ 0 ≤ τ.1 m 15 ∧ τ.1 m 15 ≤ σ.1 m 15 + 1
def cm_FF0 (σ : am_D) (m : Nat) (τ : am_D) : Prop := cm_FF σ m τ ∧ τ.1 m 14 = σ.1 m 14
def cm_Fp (σ : am_D) (m : Nat) : Prop := tk_ok (σ.1 2) (σ.1 1) ∧ ¬ σ.1 1 5 = 0 ∧ 0 ≤ σ.1 3 1 ∧ σ.1 3 1 ≤ 100 ∧ 0 ≤ σ.1 3 2 ∧ σ.1 3 2 ≤ 2147483647 ∧ 0 ≤ σ.1 m 14 ∧ σ.1 m 14 ≤ 1000 ∧ 0 ≤ σ.1 m 15 ∧ σ.1 m 15 ≤ 1000 ∧ -1 ≤ σ.1 m 0 ∧ σ.1 m 0 ≤ 6 ∧ -1 ≤ σ.1 m 1 ∧ σ.1 m 1 ≤ 3
theorem cF_letter (d : Nat) (hok : tk_ok (σ.1 2) (σ.1 1)) (hF : ¬ σ.1 1 5 = 0) : am_MI G (d + 3) mX7_letter [am_r (some 1)] σ (fun x σ' => (-1 ≤ x ∧ x ≤ 2) ∧ σ = σ') := by
  refine am_M.mono (c_letter d hok) ?_
  rintro _ _ ⟨x, σ', rfl, rfl, rfl, rfl⟩
  rw [tk_adv_no hF]
  refine ⟨_, _, rfl, rfl, tk_let_rg _ _, ?_⟩
  rw [tk_fail_no hF, ite_self, am_sr_self]
theorem cF_digit (d : Nat) {lo hi : Int} (hlo : 0 ≤ lo ∧ lo ≤ 100) (hhi : -100 ≤ hi ∧ hi ≤ 100) (hok : tk_ok (σ.1 2) (σ.1 1)) (hF : ¬ σ.1 1 5 = 0) : am_MI G (d + 3) mX7_digit [am_r (some 1), am_i lo, am_i hi] σ (fun x σ' => (x = -1 ∨ (lo ≤ x ∧ x ≤ hi)) ∧ σ = σ') := by
  refine am_M.mono (c_digit d hlo hhi hok) ?_
  rintro _ _ ⟨x, σ', rfl, rfl, rfl, rfl⟩
  rw [tk_adv_no hF]
  refine ⟨_, _, rfl, rfl, ?_, ?_⟩
  · unfold tk_dig
    split
    · split <;> omega
    · omega
  · rw [tk_fail_no hF, ite_self, am_sr_self]
theorem cF_fail (d : Nat) {w : Int} (hok : tk_ok (σ.1 2) (σ.1 1)) (hF : ¬ σ.1 1 5 = 0) : am_MV G (d + 1) mX7_fail [am_r (some 1), am_i w] σ (fun σ' => σ = σ') := by
  refine am_M.mono (c_fail d hok) ?_
  rintro _ _ ⟨σ', rfl, rfl, rfl⟩
  refine ⟨_, rfl, rfl, ?_⟩
  rw [tk_fail_no hF, am_sr_self]
theorem cF_advance (d : Nat) (hok : tk_ok (σ.1 2) (σ.1 1)) (hF : ¬ σ.1 1 5 = 0) : am_MV G (d + 2) mX7_advance [am_r (some 1)] σ (fun σ' => σ = σ') := by
  refine am_M.mono (c_advance d hok) ?_
  rintro _ _ ⟨σ', rfl, rfl, rfl⟩
  refine ⟨_, rfl, rfl, ?_⟩
  rw [tk_adv_no hF, am_sr_self]
theorem cF_sign (d : Nat) {w : Int} (hw : 0 ≤ w ∧ w ≤ 100) (hok : tk_ok (σ.1 2) (σ.1 1)) (hF : ¬ σ.1 1 5 = 0) : am_MV G (d + 3) mX7_sign [am_r (some 1), am_i w] σ (fun σ' => σ = σ') := by
  refine am_M.mono (c_sign d hw hok) ?_
  rintro _ _ ⟨σ', rfl, rfl, rfl⟩
  refine ⟨_, rfl, rfl, ?_⟩
  rw [tk_adv_no hF, tk_fail_no hF, ite_self, am_sr_self]
theorem cm_FF.rfl' {m : Nat} (h : cm_Fp σ m) : cm_FF σ m σ := by
  obtain ⟨h1, h2, h3, h4, h5, h6, h7, h8, h9, h10, h11⟩ := h
  exact ⟨am_only.rfl', am_kpt.rfl', h3, by omega, h5, h6, h7, by omega, h9, by omega⟩
/-- a sign more, behind a FAULT -/
theorem cF_addSign (d : Nat) {m : Nat} {x : Int} (hm : am_isM m) (hp : 0 ≤ σ.1 m 15 ∧ σ.1 m 15 ≤ 1000) : am_MV G (d + 2) mX2_addSign [am_r (some m), am_i x] σ (fun σ' => am_only [m, m + 6] σ σ' ∧ σ'.1 m = am_u1 (σ.1 m) 15 (σ.1 m 15 + 1)) := by
  refine am_M.mono (c_addSignF d hm hp.1 hp.2) ?_
  rintro _ _ ⟨σ', rfl, rfl, h1, h2, h3⟩
  exact ⟨_, rfl, rfl, h3, h2⟩
theorem cF_readElement (d : Nat) {m : Nat} (hm : am_isM m) (hp : cm_Fp σ m) : am_MV G (d + 4) mX8_readElement [am_r (some 3), am_r (some m)] σ (fun σ' => cm_FF0 σ m σ') := by
  obtain ⟨h1, h2, h3, h4, h5, h6, h7, h8, h9, h10, h11⟩ := hp
  have hm1 := hm.1
  refine am_M.go (by decide) (Nat.le_of_ble_eq_true rfl) rfl ?_
  have J17 : am_X (am_FV G (d + 4) (fun σ' => cm_FF0 σ m σ')) mX8_readElement (0, 0) 17 [some (am_r (some 3)), some (am_r (some m))] [] (am_K0, σ) := by
    refine S_X8_readElement_17 ?_
    have f1 : (am_pI σ 3 1 (σ.1 3 1 + 1)).1 1 = σ.1 1 := am_pI_of (by decide)
    have f2 : (am_pI σ 3 1 (σ.1 3 1 + 1)).1 2 = σ.1 2 := am_pI_of (by decide)
    have fm : (am_pI σ 3 1 (σ.1 3 1 + 1)).1 m = σ.1 m := am_pI_of (by omega)
    refine S_X8_readElement_27 (cF_letter _ (by rw [f1, f2]; exact h1) (by rw [f1]; exact h2)) ?_
    rintro x _ ⟨hx, rfl⟩
    refine S_X8_readElement_35 (cF_addSign _ hm (by rw [fm]; omega)) hm ?_
    rintro τ ⟨t1, t2⟩
    rw [fm] at t2
    have t3 : τ.1 3 = am_u1 (σ.1 3) 1 (σ.1 3 1 + 1) := by rw [t1.1 3 (by simp; omega), am_pI_row]
    refine S_X8_readElement_38 ⟨⟨(am_only.pI (by simp)).trans (t1.sub (fun a ha => by revert ha; simp; omega)), ?_, ?_, ?_, ?_, ?_, ?_, ?_, ?_, ?_⟩, by rw [t2, am_u1_ne (by decide)]⟩
    · rw [t2]; exact am_kpt.u1 (by decide)
    · rw [t3, am_u1_eq]; omega
    · rw [t3, am_u1_eq]; omega
    · rw [t3, am_u1_ne (by decide)]; exact h5
    · rw [t3, am_u1_ne (by decide)]; exact h6
    · rw [t2, am_u1_ne (by decide)]; exact h7
    · rw [t2, am_u1_ne (by decide)]; omega
    · rw [t2, am_u1_eq]; omega
    · rw [t2, am_u1_eq]; omega
  refine S_X8_readElement_0 (by omega) (fun _ => J17) (fun _ => ?_)
  refine S_X8_readElement_9 (cF_fail _ h1 h2) ?_
  rintro _ rfl
  exact J17
theorem cF_readRegister (d : Nat) {m : Nat} {kd : Int} (hm : am_isM m) (hkd : kd = 4 ∨ kd = 8) (hp : cm_Fp σ m) : am_MV G (d + 4) mX8_readRegister [am_r (some 3), am_r (some m), am_i kd] σ (fun σ' => cm_FF0 σ m σ') := by
  have hr := cm_FF.rfl' hp
  obtain ⟨h1, h2, h3, h4, h5, h6, h7, h8, h9, h10, h11, h12, h13, h14⟩ := hp
  have hm1 := hm.1
  refine am_M.go (by decide) (Nat.le_of_ble_eq_true rfl) rfl ?_
  refine S_X8_readRegister_0 hm (cF_digit _ (by omega) (by omega) h1 h2) ?_
  rintro x _ ⟨hx, rfl⟩
  refine S_X8_readRegister_15 (by omega) (fun q => ?_) (fun q => S_X8_readRegister_20 ⟨hr, rfl⟩)
  refine S_X8_readRegister_21 ?_
  obtain ⟨w, hw⟩ : ∃ w : Nat, kd + x = w := ⟨(kd + x).toNat, by omega⟩
  rw [hw]
  have hbit := am_bit (s := σ.1 3 2) w ⟨h5, h6⟩ (by omega)
  have hor := am_orbit (s := σ.1 3 2) w ⟨h5, h6⟩ (by omega)
  have J47 : am_X (am_FV G (d + 4) (fun σ' => cm_FF0 σ m σ')) mX8_readRegister (0, 0) 47 [some (am_r (some 3)), some (am_r (some m)), none, none, some (am_i w)] [] (am_K0, σ) := by
    refine S_X8_readRegister_47 ?_
    have fm : (am_pI σ 3 2 (am_or (σ.1 3 2) (am_shl 1 (w : Int)))).1 m = σ.1 m := am_pI_of (by omega)
    refine S_X8_readRegister_60 (cF_addSign _ hm (by rw [fm]; omega)) hm ?_
    rintro τ ⟨t1, t2⟩
    rw [fm] at t2
    have t3 : τ.1 3 = am_u1 (σ.1 3) 2 (am_or (σ.1 3 2) (am_shl 1 (w : Int))) := by rw [t1.1 3 (by simp; omega), am_pI_row]
    refine S_X8_readRegister_66 ⟨⟨(am_only.pI (by simp)).trans (t1.sub (fun a ha => by revert ha; simp; omega)), ?_, ?_, ?_, ?_, ?_, ?_, ?_, ?_, ?_⟩, by rw [t2, am_u1_ne (by decide)]⟩
    · rw [t2]; exact am_kpt.u1 (by decide)
    · rw [t3, am_u1_ne (by decide)]; omega
    · rw [t3, am_u1_ne (by decide)]; omega
    · rw [t3, am_u1_eq]; exact hor.1
    · rw [t3, am_u1_eq]; exact hor.2.1
    · rw [t2, am_u1_ne (by decide)]; exact h7
    · rw [t2, am_u1_ne (by decide)]; omega
    · rw [t2, am_u1_eq]; omega
    · rw [t2, am_u1_eq]; omega
  refine S_X8_readRegister_26 (by rw [hbit]; split <;> omega) (fun _ => J47) (fun _ => ?_)
  refine S_X8_readRegister_39 (cF_fail _ h1 h2) ?_
  rintro _ rfl
  exact J47
/-- puts that may lie outside their row -/
theorem cF_start (d : Nat) {m : Nat} (hm : am_isM m) (h : 0 ≤ σ.1 m 14 ∧ σ.1 m 14 ≤ 1000) : am_MV G (d + 2) mX2_startExpression [am_r (some m)] σ (fun σ' => am_only [m + 7] σ σ') := by
  have hs := shM7 hm
  refine am_M.go (by decide) (Nat.le_of_ble_eq_true rfl) rfl ?_
  refine S_X2_startExpression_0 hm (c_put _ hs (by omega)) ?_
  rintro _ rfl
  refine S_X2_startExpression_15 ?_
  split
  · exact am_only.pI (by simp)
  · exact am_only.rfl'
theorem cF_stop (d : Nat) {m : Nat} (hm : am_isM m) (h : 0 ≤ σ.1 m 14 ∧ σ.1 m 14 ≤ 1001) : am_MV G (d + 2) mX2_stopExpression [am_r (some m)] σ (fun σ' => am_only [m, m + 7] σ σ' ∧ σ'.1 m = am_u1 (σ.1 m) 14 (σ.1 m 14 + 1)) := by
  have hs := shM7 hm
  refine am_M.go (by decide) (Nat.le_of_ble_eq_true rfl) rfl ?_
  refine S_X2_stopExpression_0 hm ?_
  have r1 : (am_pI σ m 14 (σ.1 m 14 + 1)).1 m 14 = σ.1 m 14 + 1 := am_pI_at
  refine S_X2_stopExpression_10 hm (c_put _ hs (by rw [r1]; omega)) ?_
  rintro _ rfl
  refine S_X2_stopExpression_25 ?_
  split
  · exact ⟨(am_only.pI (by simp)).trans (am_only.pI (by simp)), by rw [am_pI_of (by omega), am_pI_row]⟩
  · exact ⟨am_only.pI (by simp), am_pI_row⟩
theorem cF_readExpression (d : Nat) {m : Nat} {sk : Int} (hm : am_isM m) (hsk : sk = 0 ∨ sk = 1) (hp : cm_Fp σ m) : am_MV G (d + 6) mX8_readExpression [am_r (some 3), am_r (some m), am_i sk] σ (fun σ' => cm_FF σ m σ') := by
  have hr := cm_FF.rfl' hp
  obtain ⟨h1, h2, h3, h4, h5, h6, h7, h8, h9, h10, h11, h12, h13, h14⟩ := id hp
  have hm1 := hm.1
  refine am_M.go (by decide) (Nat.le_of_ble_eq_true rfl) rfl ?_
  refine S_X8_readExpression_0 ?_
  refine S_X8_readExpression_2 ?_
  refine S_X8_readExpression_5 (cF_start _ hm (by omega)) hm ?_
  intro σ1 o1
  have e1 : σ1.1 1 = σ.1 1 := o1.1 1 (by simp)
  have e2 : σ1.1 2 = σ.1 2 := o1.1 2 (by simp)
  have e3 : σ1.1 3 = σ.1 3 := o1.1 3 (by simp <;> omega)
  have em : σ1.1 m = σ.1 m := o1.1 m (by simp)
  have hp1 : cm_Fp σ1 m := by
    unfold cm_Fp
    rw [e1, e2, e3, em]
    exact hp
  refine S_X8_readExpression_9 (cF_advance _ (by rw [e1, e2]; exact h1) (by rw [e1]; exact h2)) ?_
  rintro _ rfl
  refine S_X8_readExpression_16 ?_
  -- the end
  have J172 : ∀ (τ : am_D) (dp : Int), 0 ≤ dp ∧ dp ≤ 1 → cm_FF0 σ1 m τ → am_X (am_FV G (d + 6) (fun σ' => cm_FF σ m σ')) mX8_readExpression (0, 0) 172 [some (am_r (some 3)), some (am_r (some m)), none, some (am_i dp), none, none] [] (am_K0, τ) := by
    intro τ dp hdp hf
    obtain ⟨⟨g1, g2, g3, g4, g5, g6, g7, g8, g9, g10⟩, g11⟩ := id hf
    have t1 : τ.1 1 = σ.1 1 := by rw [g1.1 1 (by simp; omega), e1]
    have t2 : τ.1 2 = σ.1 2 := by rw [g1.1 2 (by simp; omega), e2]
    rw [em] at g2 g10 g11
    rw [e3] at g4
    have J184 : am_X (am_FV G (d + 6) (fun σ' => cm_FF σ m σ')) mX8_readExpression (0, 0) 184 [none, some (am_r (some m)), none, none, none, none] [] (am_K0, τ) := by
      have t14 : τ.1 m 14 ≤ 1001 := by omega
      refine S_X8_readExpression_184 (cF_stop _ hm (by omega)) hm ?_
      rintro τ2 ⟨u1, u2⟩
      have u3 : τ2.1 3 = τ.1 3 := u1.1 3 (by simp; omega)
      refine S_X8_readExpression_188 ⟨?_, ?_, ?_, ?_, ?_, ?_, ?_, ?_, ?_, ?_⟩
      · exact (o1.sub (fun a ha => by revert ha; simp; omega)).trans (g1.trans (u1.sub (fun a ha => by revert ha; simp; omega)))
      · rw [u2]; exact am_kpt.trans g2 (am_kpt.u1 (by decide))
      · rw [u3]; exact g3
      · rw [u3]; exact g4
      · rw [u3]; exact g5
      · rw [u3]; exact g6
      · rw [u2, am_u1_eq]; omega
      · rw [u2, am_u1_eq]; omega
      · rw [u2, am_u1_ne (by decide)]; exact g9
      · rw [u2, am_u1_ne (by decide)]; exact g10
    refine S_X8_readExpression_172 (by omega) (fun _ => J184) (fun _ => ?_)
    refine S_X8_readExpression_176 (cF_fail _ (by rw [t1, t2]; exact h1) (by rw [t1]; exact h2)) ?_
    rintro _ rfl
    exact J184
  -- the end of the only turn of the loop
  have J132 : ∀ (τ : am_D) (dp b : Int), 0 ≤ dp ∧ dp ≤ 1 → 0 ≤ b ∧ b ≤ 1 → cm_FF0 σ1 m τ → am_X (am_FV G (d + 6) (fun σ' => cm_FF σ m σ')) mX8_readExpression (0, 0) 132 [some (am_r (some 3)), some (am_r (some m)), some (am_i sk), some (am_i dp), some (am_i b), some (am_i 0)] [] (am_K0, τ) := by
    intro τ dp b hdp hb hf
    have t1 : τ.1 1 = σ.1 1 := by rw [hf.1.1.1 1 (by simp; omega), e1]
    have J151 : am_X (am_FV G (d + 6) (fun σ' => cm_FF σ m σ')) mX8_readExpression (0, 0) 151 [some (am_r (some 3)), some (am_r (some m)), some (am_i sk), some (am_i dp), none, some (am_i 0)] [] (am_K0, τ) := by
      refine S_X8_readExpression_151 ?_
      refine S_X8_readExpression_152 ?_
      refine S_X8_readExpression_154 (by omega) (fun _ => ?_) (fun q => absurd rfl q)
      refine S_X8_readExpression_166 ?_
      refine S_X8_readExpression_19 (by omega) (fun _ => J172 τ dp hdp hf) (fun _ => ?_)
      exact S_X8_readExpression_27 (by omega) (fun _ => J172 τ dp hdp hf) (fun q => absurd rfl q)
    refine S_X8_readExpression_132 (by omega) (fun _ => J151) (fun _ => ?_)
    refine S_X8_readExpression_137 (by rw [t1]; have := h1.2; omega) (fun _ => J151) (fun q => ?_)
    rw [t1] at q
    exact absurd h2 q
  have hr1 : cm_FF0 σ1 m σ1 := ⟨cm_FF.rfl' hp1, rfl⟩
  have hk := h1
  refine S_X8_readExpression_19 (by omega) (fun q => absurd q (by omega)) (fun _ => ?_)
  refine S_X8_readExpression_27 (by omega) (fun q => absurd q (by omega)) (fun _ => ?_)
  have h12r : -2147483648 ≤ σ1.1 1 2 ∧ σ1.1 1 2 ≤ 2147483647 := by rw [e1]; have := h1.2; omega
  refine S_X8_readExpression_32 (by omega) (fun q60 => ?_) (fun q60 => ?_)
  · have J82 : am_X (am_FV G (d + 6) (fun σ' => cm_FF σ m σ')) mX8_readExpression (0, 0) 82 [some (am_r (some 3)), some (am_r (some m)), some (am_i sk), some (am_i 0), some (am_i 1), some (am_i 0)] [] (am_K0, σ1) := by
      have J129 : am_X (am_FV G (d + 6) (fun σ' => cm_FF σ m σ')) mX8_readExpression (0, 0) 129 [some (am_r (some 3)), some (am_r (some m)), some (am_i sk), some (am_i 0), none, some (am_i 0)] [] (am_K0, σ1) := S_X8_readExpression_129 (J132 σ1 0 0 (by omega) (by omega) hr1)
      refine S_X8_readExpression_82 (c_isWord _ (by omega) (by rw [e1, e2]; exact h1)) ?_
      rintro _ _ ⟨rfl, rfl⟩
      refine S_X8_readExpression_91 (by split <;> omega) (fun qx => ?_) (fun qx => ?_)
      · refine S_X8_readExpression_103 (by omega) (fun _ => J129) (fun _ => ?_)
        refine S_X8_readExpression_107 (c_isWord _ (by omega) (by rw [e1, e2]; exact h1)) ?_
        rintro _ _ ⟨rfl, rfl⟩
        refine S_X8_readExpression_116 (by split <;> omega) (fun _ => J129) (fun _ => ?_)
        refine S_X8_readExpression_119 (cF_readRegister _ hm (Or.inr rfl) hp1) ?_
        intro τ hf
        exact S_X8_readExpression_126 (J132 τ 0 1 (by omega) (by omega) hf)
      · refine S_X8_readExpression_94 (cF_readRegister _ hm (Or.inl rfl) hp1) ?_
        intro τ hf
        exact S_X8_readExpression_100 (J132 τ 0 1 (by omega) (by omega) hf)
    refine S_X8_readExpression_55 (by omega) (fun _ => J82) (fun _ => ?_)
    exact S_X8_readExpression_67 (by omega) (fun _ => J82) (fun q => absurd (by omega) q)
  · refine S_X8_readExpression_44 (cF_readElement _ hm hp1) ?_
    intro τ hf
    exact S_X8_readExpression_49 (J132 τ _ 1 (by omega) (by omega) hf)
end
