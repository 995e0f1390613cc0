section
/-! The class reads x, y and whole EXPRESSIONS. -/
variable {G : am_G} {σ : am_D}
theorem c_readRegister (d : Nat) {τ : am_D} {m : Nat} {B p own dp kd : Int} {seen acc : List Int} (hm : am_isM m) (hE : cm_E σ m B p own seen acc dp τ) (hF : τ.1 1 5 = 0) (hat : tk_atp (σ.1 2) (τ.1 1) p) (hp : 0 ≤ p ∧ p ≤ σ.1 1 1) (hs0 : 0 ≤ σ.1 m 15) (hB : B ≤ 432) (hdp : 0 ≤ dp) (hkd : kd = 4 ∨ kd = 8) (hrg : 1 ≤ σ.1 m 1 ∧ σ.1 m 1 ≤ 3) : am_MV G (d + 4) mX8_readRegister [am_r (some 3), am_r (some m), am_i kd] τ (fun σ' => (sl_dig (σ.1 2) (σ.1 1 1) 0 (σ.1 m 1 - 1) (tk_sp (σ.1 2) (σ.1 1 1) p) < 0 ∧ cm_F0 σ m (-(sl_dig (σ.1 2) (σ.1 1 1) 0 (σ.1 m 1 - 1) (tk_sp (σ.1 2) (σ.1 1 1) p)) + 8 * tk_st (σ.1 2) (σ.1 1 1) (tk_sp (σ.1 2) (σ.1 1 1) p)) σ') ∨ (0 ≤ sl_dig (σ.1 2) (σ.1 1 1) 0 (σ.1 m 1 - 1) (tk_sp (σ.1 2) (σ.1 1 1) p) ∧ kd + sl_dig (σ.1 2) (σ.1 1 1) 0 (σ.1 m 1 - 1) (tk_sp (σ.1 2) (σ.1 1 1) p) ∈ seen ∧ cm_F0 σ m (4 + 8 * tk_st (σ.1 2) (σ.1 1 1) (tk_sp (σ.1 2) (σ.1 1 1) p)) σ') ∨ (0 ≤ sl_dig (σ.1 2) (σ.1 1 1) 0 (σ.1 m 1 - 1) (tk_sp (σ.1 2) (σ.1 1 1) p) ∧ kd + sl_dig (σ.1 2) (σ.1 1 1) 0 (σ.1 m 1 - 1) (tk_sp (σ.1 2) (σ.1 1 1) p) ∉ seen ∧ cm_E σ m B (tk_sp (σ.1 2) (σ.1 1 1) p) own ((kd + sl_dig (σ.1 2) (σ.1 1 1) 0 (σ.1 m 1 - 1) (tk_sp (σ.1 2) (σ.1 1 1) p)) :: seen) (acc ++ [kd + sl_dig (σ.1 2) (σ.1 1 1) 0 (σ.1 m 1 - 1) (tk_sp (σ.1 2) (σ.1 1 1) p)]) dp σ' ∧ σ'.1 1 5 = 0 ∧ tk_atp (σ.1 2) (σ'.1 1) (tk_sp (σ.1 2) (σ.1 1 1) p))) := by
  obtain ⟨ho, hok, hn, hown, ho0, ho6, hseen, hkp, h15, hacc, hold, h7, hBd⟩ := id hE
  have hm1 := hm.1
  have e2 : τ.1 2 = σ.1 2 := ho.1 2 (cm_S_ne hm (by decide) (by decide) (by decide))
  have hrem := sl_rem_rg seen
  obtain ⟨a2, a3, a4⟩ := id hat
  rw [hn] at a2 a3 a4
  have hok2 : tk_ok (τ.1 2) (τ.1 1) := by rw [e2]; exact hok
  have h1 := tk_in (bs := σ.1 2) hp.2
  have h2 := tk_in (bs := σ.1 2) (n := σ.1 1 1) (p := tk_sp (σ.1 2) (σ.1 1 1) p) (by omega)
  have e1 : τ.1 m 1 = σ.1 m 1 := hkp 1 (by decide)
  have hadv := tk_adv_at (bs := σ.1 2) hF
  have hokA := tk_adv_ok hok
  have hdg := tk_dig_at (lo := 0) (hi := σ.1 m 1 - 1) hokA hadv.1
  rw [hadv.2.2, hn, a4] at hdg
  obtain ⟨b2, b3, b4⟩ := id hadv.1
  rw [hadv.2.2, hn, a4] at b3
  refine am_M.go (by decide) (Nat.le_of_ble_eq_true rfl) rfl ?_
  refine S_X8_readRegister_0 hm (c_digit _ (by omega) (by omega) hok2) ?_
  rintro _ _ ⟨rfl, rfl⟩
  rw [e1, e2, hdg]
  have hvr : -2 ≤ sl_dig (σ.1 2) (σ.1 1 1) 0 (σ.1 m 1 - 1) (tk_sp (σ.1 2) (σ.1 1 1) p) ∧ sl_dig (σ.1 2) (σ.1 1 1) 0 (σ.1 m 1 - 1) (tk_sp (σ.1 2) (σ.1 1 1) p) ≤ 2 := by
    unfold sl_dig
    split
    · split <;> omega
    · omega
  generalize sl_dig (σ.1 2) (σ.1 1 1) 0 (σ.1 m 1 - 1) (tk_sp (σ.1 2) (σ.1 1 1) p) = v at hvr ⊢
  have onl : ∀ t, am_only (cm_S m) σ (am_sr τ 1 t) := fun t => ho.trans (am_only.sr (by simp))
  have g0 : ∀ t, (am_sr τ 1 t).1 m = τ.1 m := fun t => am_sr_of (by omega)
  have g3 : ∀ t, (am_sr τ 1 t).1 3 = τ.1 3 := fun t => am_sr_of (by decide)
  have hkp2 : am_kpt [14, 15] (σ.1 m) (τ.1 m) := fun j hj => hkp j (fun z => hj (by revert z; simp; omega))
  by_cases hneg : v < 0
  · rw [if_pos hneg]
    refine S_X8_readRegister_15 (by omega) (fun q => absurd (by omega) q) (fun _ => ?_)
    refine S_X8_readRegister_20 (Or.inl ⟨hneg, ⟨onl _, ?_, ?_, by omega, by rw [g0]; exact hkp2, by rw [g3]; omega, by rw [g3]; omega, by rw [g0]; omega, by rw [g0]; omega⟩, by rw [g0]; exact hkp 14 (by decide)⟩)
    · rw [am_sr_at]; exact tk_fail_ok hokA (by omega)
    · rw [am_sr_at, tk_fail_v hadv.2.1, am_u1_eq, b3]
  · rw [if_neg hneg]
    refine S_X8_readRegister_15 (by omega) (fun q => ?_) (fun q => absurd (Classical.not_not.mp q) (by omega))
    refine S_X8_readRegister_21 ?_
    rw [show max v (-1) = v by omega]
    obtain ⟨w, hw⟩ : ∃ w : Nat, kd + v = w := ⟨(kd + v).toNat, by omega⟩
    have hw2 : w = 4 ∨ w = 5 ∨ w = 6 ∨ w = 8 ∨ w = 9 ∨ w = 10 := by omega
    rw [hw]
    have hbit := am_bit (s := τ.1 3 2) w ⟨hseen.1, hseen.2.1⟩ (by omega)
    have hor := am_orbit (s := τ.1 3 2) w ⟨hseen.1, hseen.2.1⟩ (by omega)
    have hsv := hseen.2.2 w (by omega)
    have hr26 : -2147483648 ≤ am_and (am_shr (τ.1 3 2) (w : Int)) 1 ∧ am_and (am_shr (τ.1 3 2) (w : Int)) 1 ≤ 2147483647 := by rw [hbit]; split <;> omega
    refine S_X8_readRegister_26 (by rw [g3]; exact hr26) (fun q1 => ?_) (fun q1 => ?_)
    · rw [g3, hbit] at q1
      have hns : (w : Int) ∉ seen := fun z => q1 (by rw [if_pos (hsv.mpr z)])
      refine S_X8_readRegister_47 ?_
      rw [g3]
      have hE9 : cm_E σ m (B + 1) (tk_sp (σ.1 2) (σ.1 1 1) p) own ((w : Int) :: seen) acc (dp + 2) (am_pI (am_sr τ 1 (tk_adv (σ.1 2) (τ.1 1))) 3 2 (am_or (τ.1 3 2) (am_shl 1 (w : Int)))) := by
        have k0 : ∀ a, a ≠ 1 → a ≠ 3 → (am_pI (am_sr τ 1 (tk_adv (σ.1 2) (τ.1 1))) 3 2 (am_or (τ.1 3 2) (am_shl 1 (w : Int)))).1 a = τ.1 a := fun a y1 y3 => by rw [am_pI_of y3, am_sr_of y1]
        have k1 : (am_pI (am_sr τ 1 (tk_adv (σ.1 2) (τ.1 1))) 3 2 (am_or (τ.1 3 2) (am_shl 1 (w : Int)))).1 1 = tk_adv (σ.1 2) (τ.1 1) := by rw [am_pI_of (by decide), am_sr_at]
        have k3 : (am_pI (am_sr τ 1 (tk_adv (σ.1 2) (τ.1 1))) 3 2 (am_or (τ.1 3 2) (am_shl 1 (w : Int)))).1 3 = am_u1 (τ.1 3) 2 (am_or (τ.1 3 2) (am_shl 1 (w : Int))) := by rw [am_pI_row, g3]
        have hrc := sl_rem_cons (seen := seen) (v := (w : Int)) (by omega) hns
        refine ⟨(onl _).trans (am_only.pI (by simp)), by rw [k1]; exact hokA, by rw [k1, hadv.2.2, hn], by rw [k3, am_u1_ne (by decide)]; exact hown, ho0, ho6, ?_, by rw [k0 m (by omega) (by omega)]; exact hkp, by rw [k0 m (by omega) (by omega)]; exact h15, by rw [k0 (m + 6) (by omega) (by omega)]; exact hacc, by rw [k0 (m + 6) (by omega) (by omega)]; exact hold, by rw [k0 (m + 7) (by omega) (by omega)]; exact h7, by rw [k0 m (by omega) (by omega)]; omega⟩
        rw [k3, am_u1_eq]
        refine ⟨hor.1, hor.2.1, fun x hx => ?_⟩
        rw [hor.2.2 x, Bool.or_eq_true, hseen.2.2 x hx, decide_eq_true_eq, List.mem_cons]
        constructor
        · rintro (z | z)
          · exact Or.inr z
          · exact Or.inl (by omega)
        · rintro (z | z)
          · exact Or.inr (by omega)
          · exact Or.inl z
      obtain ⟨s1, s2, s3, s4, s5, s6⟩ := hE9.sign (x := (w : Int)) hm
      obtain ⟨z1, z2, z3, z4, z5, z6, z7, z8, z9, z10, z11, z12, z13⟩ := id hE9
      have zr := (sl_rem_rg ((w : Int) :: seen)).1
      refine S_X8_readRegister_60 (c_addSign _ hm (by omega) (by omega)) hm ?_
      rintro _ rfl
      refine S_X8_readRegister_66 (Or.inr (Or.inr ⟨by omega, hns, ?_⟩))
      refine ⟨⟨s1, by rw [s2 1 (by omega) (by omega)]; exact z2, by rw [s2 1 (by omega) (by omega)]; exact z3, by rw [s2 3 (by omega) (by omega)]; exact z4, z5, z6, by rw [s2 3 (by omega) (by omega)]; exact z7, s3, s4, s5, s6, by rw [s2 (m + 7) (by omega) (by omega)]; exact z12, ?_⟩, ?_, ?_⟩
      · rw [s4, List.length_append]; rw [z9] at z13; show σ.1 m 15 + ((acc.length + 1 : Nat) : Int) + _ + _ + _ ≤ _; omega
      · rw [s2 1 (by omega) (by omega), am_pI_of (by decide), am_sr_at]; exact hadv.2.1
      · rw [s2 1 (by omega) (by omega), am_pI_of (by decide), am_sr_at, ← a4]; exact hadv.1
    · rw [g3, hbit] at q1
      have q1 := Classical.not_not.mp q1
      have hin : (w : Int) ∈ seen := by
        by_cases z : am_bt (τ.1 3 2) w = true
        · exact hsv.mp z
        · rw [if_neg z] at q1; omega
      have f1 : (am_sr τ 1 (tk_adv (σ.1 2) (τ.1 1))).1 1 = tk_adv (σ.1 2) (τ.1 1) := am_sr_at
      have f2 : (am_sr τ 1 (tk_adv (σ.1 2) (τ.1 1))).1 2 = σ.1 2 := by rw [am_sr_of (by decide), e2]
      refine S_X8_readRegister_39 (c_fail _ (by rw [f1, f2]; exact hokA)) ?_
      rintro _ rfl
      rw [f1, am_sr_sr]
      refine S_X8_readRegister_47 ?_
      rw [g3]
      have k0 : ∀ a, a ≠ 1 → a ≠ 3 → (am_pI (am_sr τ 1 (tk_fail (tk_adv (σ.1 2) (τ.1 1)) 4)) 3 2 (am_or (τ.1 3 2) (am_shl 1 (w : Int)))).1 a = τ.1 a := fun a y1 y3 => by rw [am_pI_of y3, am_sr_of y1]
      have k1 : (am_pI (am_sr τ 1 (tk_fail (tk_adv (σ.1 2) (τ.1 1)) 4)) 3 2 (am_or (τ.1 3 2) (am_shl 1 (w : Int)))).1 1 = tk_fail (tk_adv (σ.1 2) (τ.1 1)) 4 := by rw [am_pI_of (by decide), am_sr_at]
      have k3 : (am_pI (am_sr τ 1 (tk_fail (tk_adv (σ.1 2) (τ.1 1)) 4)) 3 2 (am_or (τ.1 3 2) (am_shl 1 (w : Int)))).1 3 1 = τ.1 3 1 := by rw [am_pI_nj (by decide), g3]
      refine S_X8_readRegister_60 (c_addSignF _ hm (by rw [k0 m (by omega) (by omega)]; omega) (by rw [k0 m (by omega) (by omega)]; omega)) hm ?_
      rintro τ2 ⟨r1, r0, r2⟩
      rw [k0 m (by omega) (by omega)] at r0
      refine S_X8_readRegister_66 (Or.inr (Or.inl ⟨by omega, hin, ?_⟩))
      refine ⟨⟨((onl _).trans (am_only.pI (by simp))).trans (r2.sub (fun a ha => by revert ha; simp; omega)), ?_, ?_, by omega, ?_, ?_, ?_, ?_, ?_⟩, by rw [r0, am_u1_ne (by decide)]; exact hkp 14 (by decide)⟩
      · rw [r1 1 (by omega) (by omega), k1]; exact tk_fail_ok hokA (by omega)
      · rw [r1 1 (by omega) (by omega), k1, tk_fail_v hadv.2.1, am_u1_eq, b3]
      · rw [r0]; exact am_kpt.trans hkp2 (am_kpt.u1 (by decide))
      · rw [r1 3 (by omega) (by omega), k3]; omega
      · rw [r1 3 (by omega) (by omega), k3]; omega
      · rw [r0, am_u1_eq]; omega
      · rw [r0, am_u1_eq]; omega
theorem c_startExpression (d : Nat) {m : Nat} (hm : am_isM m) (h0 : 0 ≤ σ.1 m 14 ∧ σ.1 m 14 ≤ 72) : am_MV G (d + 2) mX2_startExpression [am_r (some m)] σ (fun σ' => σ' = am_pI σ (m + 7) (σ.1 m 14) (σ.1 m 15)) := by
  have hs := shM7 hm
  refine am_M.go (by decide) (Nat.le_of_ble_eq_true rfl) rfl ?_
  refine S_X2_startExpression_0 hm (c_put _ hs (by omega)) ?_
  rintro _ rfl
  refine S_X2_startExpression_15 ?_
  rw [if_pos (by omega)]
theorem c_stopExpression (d : Nat) {m : Nat} (hm : am_isM m) (h0 : 0 ≤ σ.1 m 14 ∧ σ.1 m 14 ≤ 71) : am_MV G (d + 2) mX2_stopExpression [am_r (some m)] σ (fun σ' => σ' = am_pI (am_pI σ m 14 (σ.1 m 14 + 1)) (m + 7) (σ.1 m 14 + 1) (σ.1 m 15)) := by
  have hs := shM7 hm
  refine am_M.go (by decide) (Nat.le_of_ble_eq_true rfl) rfl ?_
  refine S_X2_stopExpression_0 hm ?_
  have r1 : (am_pI σ m 14 (σ.1 m 14 + 1)).1 m 14 = σ.1 m 14 + 1 := am_pI_at
  have r2 : (am_pI σ m 14 (σ.1 m 14 + 1)).1 m 15 = σ.1 m 15 := am_pI_nj (by decide)
  refine S_X2_stopExpression_10 hm (c_put _ hs (by rw [r1]; omega)) ?_
  rintro _ rfl
  rw [r1, r2]
  refine S_X2_stopExpression_25 ?_
  rw [if_pos (by omega)]
/-- what an EXPRESSION leaves in the class: Machine m has one more -/
def cm_D (σ : am_D) (m : Nat) (B p own : Int) (seen acc : List Int) (τ : am_D) : Prop :=
  am_only (cm_S m) σ τ ∧ tk_ok (σ.1 2) (τ.1 1) ∧ τ.1 1 1 = σ.1 1 1 ∧ τ.1 1 5 = 0 ∧ tk_atp (σ.1 2) (τ.1 1) p ∧ τ.1 3 1 = own ∧ 0 ≤ own ∧ own ≤ 6 ∧ cm_seen (τ.1 3 2) seen ∧ am_kpt [14, 15] (σ.1 m) (τ.1 m) ∧ τ.1 m 14 = σ.1 m 14 + 1 ∧ τ.1 m 15 = σ.1 m 15 + acc.length ∧ (∀ i : Nat, i < acc.length → τ.1 (m + 6) (σ.1 m 15 + i) = acc.getD i 0) ∧ (∀ i : Int, i < σ.1 m 15 → τ.1 (m + 6) i = σ.1 (m + 6) i) ∧ τ.1 (m + 7) = am_u1 (am_u1 (σ.1 (m + 7)) (σ.1 m 14) (σ.1 m 15)) (σ.1 m 14 + 1) (σ.1 m 15 + acc.length) ∧ τ.1 m 15 + 2 * (6 - own) + sl_rem seen ≤ B
def cm_R (σ : am_D) (m : Nat) (B p0 : Int) (R : Int ⊕ (Int × (Int × (List Int × List Int)))) (τ : am_D) : Prop := match R with
  | .inl F => cm_F σ m F τ
  | .inr (p, own, seen, acc) => cm_D σ m B p own seen acc τ ∧ p0 < p ∧ p ≤ σ.1 1 1
theorem c_readExpression (d : Nat) {m : Nat} {B p own : Int} {seen : List Int} {stk : Bool} (hm : am_isM m) (hok : tk_ok (σ.1 2) (σ.1 1)) (hF : σ.1 1 5 = 0) (hat : tk_atp (σ.1 2) (σ.1 1) p) (hp : 0 ≤ p ∧ p ≤ σ.1 1 1) (hk0 : tk_k (σ.1 2) (σ.1 1 1) p ≠ 0) (hs0 : 0 ≤ σ.1 m 15) (hB : B ≤ 432) (hrg : 1 ≤ σ.1 m 1 ∧ σ.1 m 1 ≤ 3) (h14 : 0 ≤ σ.1 m 14 ∧ σ.1 m 14 ≤ 71) (hown : σ.1 3 1 = own) (ho0 : 0 ≤ own) (ho6 : own ≤ 6) (hseen : cm_seen (σ.1 3 2) seen) (hBd : σ.1 m 15 + 2 * (6 - own) + sl_rem seen ≤ B) :
    am_MV G (d + 6) mX8_readExpression [am_r (some 3), am_r (some m), am_i (if stk then 1 else 0)] σ (fun σ' => cm_R σ m B p (sl_ex (σ.1 2) (σ.1 1 1) (σ.1 m 1) stk 700 (tk_sp (σ.1 2) (σ.1 1 1) p) 0 own seen []) σ') := by
  have hm1 := hm.1
  have hin0 := tk_in (bs := σ.1 2) hp.2
  have hlt0 := tk_lt hk0
  have hn6 := hok.2.2.1
  generalize hR : sl_ex (σ.1 2) (σ.1 1 1) (σ.1 m 1) stk 700 (tk_sp (σ.1 2) (σ.1 1 1) p) 0 own seen [] = R
  generalize hs9 : (if stk then (1 : Int) else 0) = sk
  have hsk : (sk = 0 ∧ stk = false) ∨ (sk = 1 ∧ stk = true) := by cases stk <;> simp_all
  refine am_M.go (by decide) (Nat.le_of_ble_eq_true rfl) rfl ?_
  -- the end behind a FAULT
  have J184F : ∀ (τ : am_D) (F : Int), cm_F σ m F τ → τ.1 m 14 = σ.1 m 14 → R = .inl F → am_X (am_FV G (d + 6) (fun σ' => cm_R σ m B p R σ')) mX8_readExpression (0, 0) 184 [none, some (am_r (some m)), none, none, none, none] [] (am_K0, τ) := by
    intro τ F hf h14' hRF
    obtain ⟨f1, f2, f3, f4, f5, f6, f7, f8, f9⟩ := hf
    refine S_X8_readExpression_184 (c_stopExpression _ hm (by omega)) hm ?_
    rintro _ rfl
    refine S_X8_readExpression_188 ?_
    rw [hRF]
    have k0 : ∀ a, a ≠ m → a ≠ m + 7 → (am_pI (am_pI τ m 14 (τ.1 m 14 + 1)) (m + 7) (τ.1 m 14 + 1) (τ.1 m 15)).1 a = τ.1 a := fun a y1 y2 => by rw [am_pI_of y2, am_pI_of y1]
    have km : (am_pI (am_pI τ m 14 (τ.1 m 14 + 1)) (m + 7) (τ.1 m 14 + 1) (τ.1 m 15)).1 m = am_u1 (τ.1 m) 14 (τ.1 m 14 + 1) := by rw [am_pI_of (by omega), am_pI_row]
    exact ⟨(f1.trans (am_only.pI (by simp))).trans (am_only.pI (by simp)), by rw [k0 1 (by omega) (by omega)]; exact f2, by rw [k0 1 (by omega) (by omega)]; exact f3, f4, by rw [km]; exact am_kpt.trans f5 (am_kpt.u1 (by decide)), by rw [k0 3 (by omega) (by omega)]; exact f6, by rw [k0 3 (by omega) (by omega)]; exact f7, by rw [km, am_u1_ne (by decide)]; exact f8, by rw [km, am_u1_ne (by decide)]; exact f9⟩
  have J172F : ∀ (τ : am_D) (F dp : Int), cm_F σ m F τ → τ.1 m 14 = σ.1 m 14 → R = .inl F → -2147483648 ≤ dp ∧ dp ≤ 2147483647 → am_X (am_FV G (d + 6) (fun σ' => cm_R σ m B p R σ')) mX8_readExpression (0, 0) 172 [some (am_r (some 3)), some (am_r (some m)), none, some (am_i dp), none, none] [] (am_K0, τ) := by
    intro τ F dp hf h14' hRF hdp
    have e2 : τ.1 2 = σ.1 2 := hf.1.1 2 (cm_S_ne hm (by decide) (by decide) (by decide))
    refine S_X8_readExpression_172 hdp (fun _ => J184F τ F hf h14' hRF) (fun _ => ?_)
    refine S_X8_readExpression_176 (c_fail _ (by rw [e2]; exact hf.2.1)) ?_
    rintro _ rfl
    rw [tk_fail_no (by rw [hf.2.2.1]; have := hf.2.2.2.1; omega), am_sr_self]
    exact J184F τ F hf h14' hRF
  have J132F : ∀ (τ : am_D) (F dp i : Int), cm_F σ m F τ → τ.1 m 14 = σ.1 m 14 → R = .inl F → 0 ≤ dp ∧ dp ≤ 700 → 0 ≤ i ∧ i ≤ 700 → am_X (am_FV G (d + 6) (fun σ' => cm_R σ m B p R σ')) mX8_readExpression (0, 0) 132 [some (am_r (some 3)), some (am_r (some m)), some (am_i sk), some (am_i dp), some (am_i 1), some (am_i i)] [] (am_K0, τ) := by
    intro τ F dp i hf h14' hRF hdp hi
    have hF9 := hf.2.2.1
    have hF0 := hf.2.2.2.1
    have hk9 := hf.2.1.2.2.2.2.2.2.2.2.2
    refine S_X8_readExpression_132 (by omega) (fun q => absurd q (by omega)) (fun _ => ?_)
    refine S_X8_readExpression_137 (by omega) (fun _ => ?_) (fun q => absurd (Classical.not_not.mp q) (by omega))
    refine S_X8_readExpression_151 ?_
    refine S_X8_readExpression_152 ?_
    refine S_X8_readExpression_154 (by omega) (fun _ => ?_) (fun q => absurd rfl q)
    refine S_X8_readExpression_166 ?_
    refine S_X8_readExpression_19 (by omega) (fun _ => J172F τ F dp hf h14' hRF (by omega)) (fun _ => ?_)
    exact S_X8_readExpression_27 (by omega) (fun _ => J172F τ F dp hf h14' hRF (by omega)) (fun q => absurd rfl q)
  -- the loop
  have loop : ∀ (f : Nat) (p1 dp own1 : Int) (seen1 acc : List Int) (τ : am_D) (i : Int), p < p1 → p1 ≤ σ.1 1 1 → σ.1 1 1 - p1 < f → 0 ≤ i → i ≤ p1 → 0 ≤ dp → dp ≤ p1 → cm_E σ m B p1 own1 seen1 acc dp τ → τ.1 1 5 = 0 → tk_atp (σ.1 2) (τ.1 1) p1 → sl_ex (σ.1 2) (σ.1 1 1) (σ.1 m 1) stk f p1 dp own1 seen1 acc = R → am_X (am_FV G (d + 6) (fun σ' => cm_R σ m B p R σ')) mX8_readExpression (0, 0) 19 [some (am_r (some 3)), some (am_r (some m)), some (am_i sk), some (am_i dp), some (am_i 1), some (am_i i)] [] (am_K0, τ) := by
    intro f
    induction f with
    | zero => intro p1 dp own1 seen1 acc τ i q0 q1 q2; omega
    | succ f ih =>
      intro p1 dp own1 seen1 acc τ i q0 q1 q2 i0 i1 d0 d1 hE hF1 hat1 hex
      obtain ⟨ho, hok1, hn, hown1, ho01, ho61, hseen1, hkp, h15, hacc, hold, h7, hBd1⟩ := id hE
      have e2 : τ.1 2 = σ.1 2 := ho.1 2 (cm_S_ne hm (by decide) (by decide) (by decide))
      have hok2 : tk_ok (τ.1 2) (τ.1 1) := by rw [e2]; exact hok1
      obtain ⟨hb9, k1, k2, k3, k4, k6, k7, k8, k9, k10⟩ := id hok1
      obtain ⟨a2, a3, a4⟩ := id hat1
      rw [hn] at a2 a3 a4
      have hin := tk_in (bs := σ.1 2) q1
      have e14 : τ.1 m 14 = σ.1 m 14 := hkp 14 (by decide)
      unfold sl_ex at hex
      -- what goes on behind a TOKEN that was taken, up to p2
      have J132 : ∀ (p2 dp2 own2 : Int) (seen2 acc2 : List Int) (τ2 : am_D), p1 ≤ p2 → tk_k (σ.1 2) (σ.1 1 1) p2 ≠ 0 → p2 ≤ σ.1 1 1 → 0 ≤ dp2 → dp2 ≤ dp + 1 → cm_E σ m B p2 own2 seen2 acc2 dp2 τ2 → τ2.1 1 5 = 0 → tk_atp (σ.1 2) (τ2.1 1) p2 → sl_ex (σ.1 2) (σ.1 1 1) (σ.1 m 1) stk f (tk_sp (σ.1 2) (σ.1 1 1) p2) dp2 own2 seen2 acc2 = R → am_X (am_FV G (d + 6) (fun σ' => cm_R σ m B p R σ')) mX8_readExpression (0, 0) 132 [some (am_r (some 3)), some (am_r (some m)), some (am_i sk), some (am_i dp2), some (am_i 1), some (am_i i)] [] (am_K0, τ2) := by
        intro p2 dp2 own2 seen2 acc2 τ2 r0 r1 r2 r3 r4 hE2 hF2 hat2 hex2
        obtain ⟨y1, y2, y3, y4, y5, y6, y7, y8, y9, y10, y11, y12, y13⟩ := id hE2
        have ee : τ2.1 2 = σ.1 2 := y1.1 2 (cm_S_ne hm (by decide) (by decide) (by decide))
        obtain ⟨c2, c3, c4⟩ := id hat2
        rw [y3] at c4
        have hlt2 := tk_lt r1
        have hin2 := tk_in (bs := σ.1 2) r2
        have hadv := tk_adv_at (bs := σ.1 2) hF2
        refine S_X8_readExpression_132 (by omega) (fun q => absurd q (by omega)) (fun _ => ?_)
        refine S_X8_readExpression_137 (by omega) (fun q => absurd hF2 q) (fun _ => ?_)
        refine S_X8_readExpression_147 ?_
        refine S_X8_readExpression_152 ?_
        refine S_X8_readExpression_154 (by omega) (fun q => absurd q (by omega)) (fun _ => ?_)
        refine S_X8_readExpression_159 (c_advance _ (by rw [ee]; exact y2)) ?_
        rintro _ rfl
        rw [ee]
        refine S_X8_readExpression_166 ?_
        have g1 : (am_sr τ2 1 (tk_adv (σ.1 2) (τ2.1 1))).1 1 = tk_adv (σ.1 2) (τ2.1 1) := am_sr_at
        have g0 : ∀ a, a ≠ 1 → (am_sr τ2 1 (tk_adv (σ.1 2) (τ2.1 1))).1 a = τ2.1 a := fun a ha => am_sr_of ha
        refine ih (tk_sp (σ.1 2) (σ.1 1 1) p2) dp2 own2 seen2 acc2 _ (i + 1) (by omega) (by omega) (by omega) (by omega) (by omega) r3 (by omega) ⟨y1.trans (am_only.sr (by simp)), by rw [g1]; exact tk_adv_ok y2, by rw [g1, hadv.2.2, y3], by rw [g0 3 (by decide)]; exact y4, y5, y6, by rw [g0 3 (by decide)]; exact y7, by rw [g0 m (by omega)]; exact y8, by rw [g0 m (by omega)]; exact y9, by rw [g0 (m + 6) (by omega)]; exact y10, by rw [g0 (m + 6) (by omega)]; exact y11, by rw [g0 (m + 7) (by omega)]; exact y12, by rw [g0 m (by omega)]; exact y13⟩ (by rw [g1]; exact hadv.2.1) (by rw [g1, ← c4]; exact hadv.1) hex2
      refine S_X8_readExpression_19 (by omega) (fun q => absurd q (by omega)) (fun _ => ?_)
      refine S_X8_readExpression_27 (by omega) (fun q => absurd q (by omega)) (fun _ => ?_)
      refine S_X8_readExpression_32 (by omega) (fun q60 => ?_) (fun q60 => ?_)
      · rw [if_neg (by omega)] at hex
        -- neither an ELEMENT nor its end
        have J82 : ¬ (tk_k (σ.1 2) (σ.1 1 1) p1 = 62 ∧ 0 < dp) → am_X (am_FV G (d + 6) (fun σ' => cm_R σ m B p R σ')) mX8_readExpression (0, 0) 82 [some (am_r (some 3)), some (am_r (some m)), some (am_i sk), some (am_i dp), some (am_i 1), some (am_i i)] [] (am_K0, τ) := by
          intro hn62
          rw [if_neg hn62] at hex
          have wx := tk_w1_at (i := 4) (c := 120) rfl hok1 hat1
          have wy := tk_w1_at (i := 5) (c := 121) rfl hok1 hat1
          rw [hn] at wx wy
          -- no part: the end
          have J129 : ¬ (sl_w1 (σ.1 2) (σ.1 1 1) 120 p1 = true ∨ (stk = true ∧ sl_w1 (σ.1 2) (σ.1 1 1) 121 p1 = true)) → am_X (am_FV G (d + 6) (fun σ' => cm_R σ m B p R σ')) mX8_readExpression (0, 0) 129 [some (am_r (some 3)), some (am_r (some m)), some (am_i sk), some (am_i dp), none, some (am_i i)] [] (am_K0, τ) := by
            intro hno
            rw [if_neg hno] at hex
            refine S_X8_readExpression_129 ?_
            refine S_X8_readExpression_132 (by omega) (fun _ => ?_) (fun q => absurd rfl q)
            refine S_X8_readExpression_151 ?_
            refine S_X8_readExpression_152 ?_
            refine S_X8_readExpression_154 (by omega) (fun _ => ?_) (fun q => absurd rfl q)
            refine S_X8_readExpression_166 ?_
            have J172 : am_X (am_FV G (d + 6) (fun σ' => cm_R σ m B p R σ')) mX8_readExpression (0, 0) 172 [some (am_r (some 3)), some (am_r (some m)), none, some (am_i dp), none, none] [] (am_K0, τ) := by
              refine S_X8_readExpression_172 (by omega) (fun q => ?_) (fun q => ?_)
              · rw [if_neg (by omega)] at hex
                refine S_X8_readExpression_184 (c_stopExpression _ hm (by omega)) hm ?_
                rintro _ rfl
                refine S_X8_readExpression_188 ?_
                rw [← hex]
                have kk0 : ∀ a, a ≠ m → a ≠ m + 7 → (am_pI (am_pI τ m 14 (τ.1 m 14 + 1)) (m + 7) (τ.1 m 14 + 1) (τ.1 m 15)).1 a = τ.1 a := fun a y1 y2 => by rw [am_pI_of y2, am_pI_of y1]
                have km : (am_pI (am_pI τ m 14 (τ.1 m 14 + 1)) (m + 7) (τ.1 m 14 + 1) (τ.1 m 15)).1 m = am_u1 (τ.1 m) 14 (τ.1 m 14 + 1) := by rw [am_pI_of (by omega), am_pI_row]
                have k77 : (am_pI (am_pI τ m 14 (τ.1 m 14 + 1)) (m + 7) (τ.1 m 14 + 1) (τ.1 m 15)).1 (m + 7) = am_u1 (am_u1 (σ.1 (m + 7)) (σ.1 m 14) (σ.1 m 15)) (σ.1 m 14 + 1) (σ.1 m 15 + acc.length) := by rw [am_pI_row, am_pI_of (by omega), h7, e14, h15]
                refine ⟨⟨(ho.trans (am_only.pI (by simp))).trans (am_only.pI (by simp)), by rw [kk0 1 (by omega) (by omega)]; exact hok1, by rw [kk0 1 (by omega) (by omega)]; exact hn, by rw [kk0 1 (by omega) (by omega)]; exact hF1, by rw [kk0 1 (by omega) (by omega)]; exact hat1, by rw [kk0 3 (by omega) (by omega)]; exact hown1, ho01, ho61, by rw [kk0 3 (by omega) (by omega)]; exact hseen1, by rw [km]; exact am_kpt.trans (v := τ.1 m) (fun j hj => hkp j (fun z => hj (by revert z; simp; omega))) (am_kpt.u1 (by decide)), by rw [km, am_u1_eq, e14], by rw [km, am_u1_ne (by decide)]; exact h15, by rw [kk0 (m + 6) (by omega) (by omega)]; exact hacc, by rw [kk0 (m + 6) (by omega) (by omega)]; exact hold, k77, by rw [km, am_u1_ne (by decide)]; omega⟩, q0, q1⟩
              · rw [if_pos (by omega)] at hex
                refine S_X8_readExpression_176 (c_fail _ hok2) ?_
                rintro _ rfl
                have f1 : (am_sr τ 1 (tk_fail (τ.1 1) 1)).1 1 = tk_fail (τ.1 1) 1 := am_sr_at
                have f0 : ∀ a, a ≠ 1 → (am_sr τ 1 (tk_fail (τ.1 1) 1)).1 a = τ.1 a := fun a ha => am_sr_of ha
                have hrem := (sl_rem_rg seen1).1
                refine J184F _ (1 + 8 * tk_st (σ.1 2) (σ.1 1 1) p1) ⟨ho.trans (am_only.sr (by simp)), by rw [f1]; exact tk_fail_ok hok1 (by omega), by rw [f1, tk_fail_v hF1, am_u1_eq, a3], by omega, by rw [f0 m (by omega)]; exact fun j hj => hkp j (fun z => hj (by revert z; simp; omega)), by rw [f0 3 (by decide)]; omega, by rw [f0 3 (by decide)]; omega, by rw [f0 m (by omega)]; omega, by rw [f0 m (by omega)]; omega⟩ (by rw [f0 m (by omega)]; exact e14) hex.symm
            refine S_X8_readExpression_19 (by omega) (fun _ => J172) (fun _ => ?_)
            exact S_X8_readExpression_27 (by omega) (fun _ => J172) (fun q => absurd rfl q)
          -- an x or a y
          have JR : ∀ (kd : Int) (τ2 : am_D), kd = (if sl_w1 (σ.1 2) (σ.1 1 1) 120 p1 = true then 4 else 8) → (sl_w1 (σ.1 2) (σ.1 1 1) 120 p1 = true ∨ (stk = true ∧ sl_w1 (σ.1 2) (σ.1 1 1) 121 p1 = true)) → ((sl_dig (σ.1 2) (σ.1 1 1) 0 (σ.1 m 1 - 1) (tk_sp (σ.1 2) (σ.1 1 1) p1) < 0 ∧ cm_F0 σ m (-(sl_dig (σ.1 2) (σ.1 1 1) 0 (σ.1 m 1 - 1) (tk_sp (σ.1 2) (σ.1 1 1) p1)) + 8 * tk_st (σ.1 2) (σ.1 1 1) (tk_sp (σ.1 2) (σ.1 1 1) p1)) τ2) ∨ (0 ≤ sl_dig (σ.1 2) (σ.1 1 1) 0 (σ.1 m 1 - 1) (tk_sp (σ.1 2) (σ.1 1 1) p1) ∧ kd + sl_dig (σ.1 2) (σ.1 1 1) 0 (σ.1 m 1 - 1) (tk_sp (σ.1 2) (σ.1 1 1) p1) ∈ seen1 ∧ cm_F0 σ m (4 + 8 * tk_st (σ.1 2) (σ.1 1 1) (tk_sp (σ.1 2) (σ.1 1 1) p1)) τ2) ∨ (0 ≤ sl_dig (σ.1 2) (σ.1 1 1) 0 (σ.1 m 1 - 1) (tk_sp (σ.1 2) (σ.1 1 1) p1) ∧ kd + sl_dig (σ.1 2) (σ.1 1 1) 0 (σ.1 m 1 - 1) (tk_sp (σ.1 2) (σ.1 1 1) p1) ∉ seen1 ∧ cm_E σ m B (tk_sp (σ.1 2) (σ.1 1 1) p1) own1 ((kd + sl_dig (σ.1 2) (σ.1 1 1) 0 (σ.1 m 1 - 1) (tk_sp (σ.1 2) (σ.1 1 1) p1)) :: seen1) (acc ++ [kd + sl_dig (σ.1 2) (σ.1 1 1) 0 (σ.1 m 1 - 1) (tk_sp (σ.1 2) (σ.1 1 1) p1)]) dp τ2 ∧ τ2.1 1 5 = 0 ∧ tk_atp (σ.1 2) (τ2.1 1) (tk_sp (σ.1 2) (σ.1 1 1) p1))) → am_X (am_FV G (d + 6) (fun σ' => cm_R σ m B p R σ')) mX8_readExpression (0, 0) 132 [some (am_r (some 3)), some (am_r (some m)), some (am_i sk), some (am_i dp), some (am_i 1), some (am_i i)] [] (am_K0, τ2) := by
            intro kd τ2 hkd hyes hpost
            rw [if_pos hyes, ← hkd] at hex
            have hkw : tk_k (σ.1 2) (σ.1 1 1) p1 = 97 := by
              rcases hyes with z | ⟨-, z⟩ <;> (unfold sl_w1 at z; simp at z; exact z.1)
            have hlt1 := tk_lt (bs := σ.1 2) (n := σ.1 1 1) (p := p1) (by omega)
            rcases hpost with ⟨z1, z2⟩ | ⟨z1, z2, z3⟩ | ⟨z1, z2, z3, z4, z5⟩
            · rw [if_pos z1] at hex
              exact J132F τ2 _ dp i z2.1 z2.2 hex.symm (by omega) (by omega)
            · rw [if_neg (by omega), if_pos z2] at hex
              exact J132F τ2 _ dp i z3.1 z3.2 hex.symm (by omega) (by omega)
            · rw [if_neg (by omega), if_neg z2] at hex
              have hk48 : tk_k (σ.1 2) (σ.1 1 1) (tk_sp (σ.1 2) (σ.1 1 1) p1) ≠ 0 := by
                intro z
                unfold sl_dig at z1
                rw [z, if_neg (by omega)] at z1
                omega
              exact J132 (tk_sp (σ.1 2) (σ.1 1 1) p1) dp own1 _ _ τ2 (by omega) hk48 (by omega) d0 (by omega) z3 z4 z5 hex
          refine S_X8_readExpression_82 (c_isWord _ (by omega) hok2) ?_
          rintro _ _ ⟨rfl, rfl⟩
          rw [e2, wx]
          refine S_X8_readExpression_91 (by split <;> omega) (fun qx => ?_) (fun qx => ?_)
          · have nx : ¬ sl_w1 (σ.1 2) (σ.1 1 1) 120 p1 = true := fun z => by rw [if_pos z] at qx; omega
            refine S_X8_readExpression_103 (by omega) (fun qs => ?_) (fun qs => ?_)
            · refine J129 (fun z => ?_)
              rcases z with z | z
              · exact nx z
              · rcases hsk with h | h
                · rw [h.2] at z; cases z.1
                · omega
            · refine S_X8_readExpression_107 (c_isWord _ (by omega) hok2) ?_
              rintro _ _ ⟨rfl, rfl⟩
              rw [e2, wy]
              refine S_X8_readExpression_116 (by split <;> omega) (fun qy => ?_) (fun qy => ?_)
              · refine J129 (fun z => ?_)
                rcases z with z | z
                · exact nx z
                · rw [if_pos z.2] at qy; omega
              · have yy : sl_w1 (σ.1 2) (σ.1 1 1) 121 p1 = true := by
                  by_cases z : sl_w1 (σ.1 2) (σ.1 1 1) 121 p1 = true
                  · exact z
                  · rw [if_neg z] at qy; exact absurd rfl qy
                refine S_X8_readExpression_119 (c_readRegister _ hm hE hF1 hat1 ⟨by omega, q1⟩ hs0 hB d0 (Or.inr rfl) hrg) ?_
                intro τ2 hpost
                refine S_X8_readExpression_126 ?_
                exact JR 8 τ2 (by rw [if_neg nx]) (Or.inr ⟨by rcases hsk with h | h; omega; exact h.2, yy⟩) hpost
          · have xx : sl_w1 (σ.1 2) (σ.1 1 1) 120 p1 = true := by
              by_cases z : sl_w1 (σ.1 2) (σ.1 1 1) 120 p1 = true
              · exact z
              · rw [if_neg z] at qx; exact absurd rfl qx
            refine S_X8_readExpression_94 (c_readRegister _ hm hE hF1 hat1 ⟨by omega, q1⟩ hs0 hB d0 (Or.inl rfl) hrg) ?_
            intro τ2 hpost
            refine S_X8_readExpression_100 ?_
            exact JR 4 τ2 (by rw [if_pos xx]) (Or.inl xx) hpost
        refine S_X8_readExpression_55 (by omega) (fun q62 => J82 (by omega)) (fun q62 => ?_)
        have q62 := Classical.not_not.mp q62
        refine S_X8_readExpression_67 (by omega) (fun z => J82 (by omega)) (fun z => ?_)
        rw [if_pos (by omega)] at hex
        obtain ⟨s1, s2, s3, s4, s5, s6⟩ := hE.sign (x := 3) hm
        have hrem := (sl_rem_rg seen1).1
        refine S_X8_readExpression_71 (c_addSign _ hm (by omega) (by omega)) hm ?_
        rintro _ rfl
        refine S_X8_readExpression_76 ?_
        refine J132 p1 (dp + -1) own1 seen1 (acc ++ [3]) _ (by omega) (by omega) q1 (by omega) (by omega) ⟨s1, by rw [s2 1 (by omega) (by omega)]; exact hok1, by rw [s2 1 (by omega) (by omega)]; exact hn, by rw [s2 3 (by omega) (by omega)]; exact hown1, ho01, ho61, by rw [s2 3 (by omega) (by omega)]; exact hseen1, s3, s4, s5, s6, by rw [s2 (m + 7) (by omega) (by omega)]; exact h7, ?_⟩ ?_ ?_ ?_
        · rw [s4, List.length_append]; rw [h15] at hBd1; show σ.1 m 15 + ((acc.length + 1 : Nat) : Int) + _ + _ + _ ≤ _; omega
        · rw [s2 1 (by omega) (by omega)]; exact hF1
        · rw [s2 1 (by omega) (by omega)]; exact hat1
        · rw [show dp + -1 = dp - 1 by omega]; exact hex
      · have q60 := Classical.not_not.mp q60
        rw [if_pos (by omega)] at hex
        have hlt1 := tk_lt (bs := σ.1 2) (n := σ.1 1 1) (p := p1) (by omega)
        refine S_X8_readExpression_44 (c_readElement _ hm hE hF1 hat1 ⟨by omega, q1⟩ hs0 hB d0) ?_
        intro τ2 hpost
        refine S_X8_readExpression_49 ?_
        rcases hpost with ⟨z1, z2⟩ | ⟨z1, z2, z3⟩ | ⟨z1, z2, z3, z4, z5⟩
        · rw [if_pos z1] at hex
          exact J132F τ2 _ _ i z2.1 z2.2 hex.symm (by omega) (by omega)
        · rw [if_neg (by omega), if_pos z2] at hex
          exact J132F τ2 _ _ i z3.1 z3.2 hex.symm (by omega) (by omega)
        · rw [if_neg (by omega), if_neg z2] at hex
          have hk97 : tk_k (σ.1 2) (σ.1 1 1) (tk_sp (σ.1 2) (σ.1 1 1) p1) ≠ 0 := by
            intro z
            apply z2
            unfold sl_let
            rw [z, if_neg (by omega)]
          exact J132 (tk_sp (σ.1 2) (σ.1 1 1) p1) (dp + 1) (own1 + 1) seen1 _ τ2 (by omega) hk97 (by omega) (by omega) (by omega) z3 z4 z5 hex
  refine S_X8_readExpression_0 ?_
  refine S_X8_readExpression_2 ?_
  refine S_X8_readExpression_5 (c_startExpression _ hm (by omega)) hm ?_
  rintro _ rfl
  have g0 : ∀ a, a ≠ m + 7 → (am_pI σ (m + 7) (σ.1 m 14) (σ.1 m 15)).1 a = σ.1 a := fun a ha => am_pI_of ha
  refine S_X8_readExpression_9 (c_advance _ (by rw [g0 1 (by omega), g0 2 (by omega)]; exact hok)) ?_
  rintro _ rfl
  rw [g0 1 (by omega), g0 2 (by omega)]
  refine S_X8_readExpression_16 ?_
  have hadv := tk_adv_at (bs := σ.1 2) hF
  obtain ⟨a2, a3, a4⟩ := id hat
  have g1 : (am_sr (am_pI σ (m + 7) (σ.1 m 14) (σ.1 m 15)) 1 (tk_adv (σ.1 2) (σ.1 1))).1 1 = tk_adv (σ.1 2) (σ.1 1) := am_sr_at
  have g2 : ∀ a, a ≠ 1 → a ≠ m + 7 → (am_sr (am_pI σ (m + 7) (σ.1 m 14) (σ.1 m 15)) 1 (tk_adv (σ.1 2) (σ.1 1))).1 a = σ.1 a := fun a h1 h7 => by rw [am_sr_of h1, g0 a h7]
  have g7 : (am_sr (am_pI σ (m + 7) (σ.1 m 14) (σ.1 m 15)) 1 (tk_adv (σ.1 2) (σ.1 1))).1 (m + 7) = am_u1 (σ.1 (m + 7)) (σ.1 m 14) (σ.1 m 15) := by rw [am_sr_of (by omega), am_pI_row]
  exact loop 700 (tk_sp (σ.1 2) (σ.1 1 1) p) 0 own seen [] _ 0 (by omega) (by omega) (by omega) (by omega) (by omega) (by omega) (by omega) ⟨(am_only.pI (by simp)).trans (am_only.sr (by simp)), by rw [g1]; exact tk_adv_ok hok, by rw [g1, hadv.2.2], by rw [g2 3 (by omega) (by omega)]; exact hown, ho0, ho6, by rw [g2 3 (by omega) (by omega)]; exact hseen, by rw [g2 m (by omega) (by omega)]; exact am_kpt.rfl', by rw [g2 m (by omega) (by omega)]; show _ = _ + ((0 : Nat) : Int); omega, fun i hi => absurd hi (Nat.not_lt_zero _), fun i hi => by rw [g2 (m + 6) (by omega) (by omega)], g7, by rw [g2 m (by omega) (by omega)]; omega⟩ (by rw [g1]; exact hadv.2.1) (by rw [g1, ← a4]; exact hadv.1) hR
end
