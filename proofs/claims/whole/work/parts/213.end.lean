section
theorem cm_T_addE {σ τ : am_D} {m : Nat} {P : am_P} {q e own : Int} {acc : List Int} (hT : cm_T σ m P) (hk : am_kpt [4, 6, 14, 15] (σ.1 m) (τ.1 m)) (k4 : τ.1 m 4 = σ.1 m 4 + 1) (k6 : τ.1 m 6 = max (σ.1 m 6) own) (h1 : τ.1 (m + 1) = σ.1 (m + 1)) (h2 : τ.1 (m + 2) = σ.1 (m + 2)) (h3 : τ.1 (m + 3) = σ.1 (m + 3)) (h4 : τ.1 (m + 4) = σ.1 (m + 4)) (h5 : τ.1 (m + 5) = am_u1 (σ.1 (m + 5)) q e) (hx : ∀ e w, cm_X σ m e w → cm_X τ m e w) (hn : cm_X τ m e acc) : cm_T τ m (pm_addE P q acc own) := by
  obtain ⟨⟨a0, a1, a2, a3, a4, a5, a6⟩, b, c, f⟩ := hT
  refine ⟨⟨?_, ?_, ?_, ?_, ?_, ?_, ?_⟩, ?_, ?_, ?_⟩
  · rw [hk 0 (by decide)]; exact a0
  · rw [hk 1 (by decide)]; exact a1
  · rw [hk 2 (by decide)]; exact a2
  · rw [hk 3 (by decide)]; exact a3
  · rw [k4, a4]; rfl
  · rw [hk 5 (by decide)]; exact a5
  · rw [k6, a6]; rfl
  · intro l' q' x1 x2 x3 x4
    rw [h1, h2]
    exact b l' q' x1 x2 x3 x4
  · intro l' q' k' x1 x2 x3 x4 x5 x6
    rw [h3, h4]
    exact ⟨(c l' q' k' x1 x2 x3 x4 x5 x6).1, fun z i hi => hx _ _ ((c l' q' k' x1 x2 x3 x4 x5 x6).2 z i hi)⟩
  · intro q' x1 x2
    show cm_XE τ m (τ.1 (m + 5) q') (am_u1 (pm_eX P) q (some acc) q')
    rw [h5]
    by_cases z : q' = q
    · rw [z, am_u1_eq, am_u1_eq]
      exact hn
    · rw [am_u1_ne z, am_u1_ne z]
      exact cm_XE_mono hx (f q' x1 x2)
theorem cm_T_addC {σ τ : am_D} {m : Nat} {P : am_P} {l q k to e own : Int} {xs : List (List Int)} (hl : 0 ≤ l ∧ l < 3) (hq : 0 ≤ q ∧ q < 6) (hk6 : 0 ≤ k ∧ k < 6) (hT : cm_T σ m P) (hk : am_kpt [3, 5, 14, 15] (σ.1 m) (τ.1 m)) (k3 : τ.1 m 3 = σ.1 m 3 + 1) (k5 : τ.1 m 5 = max (σ.1 m 5) own) (h1 : τ.1 (m + 1) = σ.1 (m + 1)) (h2 : τ.1 (m + 2) = σ.1 (m + 2)) (h3 : τ.1 (m + 3) = am_u1 (σ.1 (m + 3)) ((l * 6 + k) * 6 + q) to) (h4 : τ.1 (m + 4) = am_u1 (σ.1 (m + 4)) ((l * 6 + k) * 6 + q) e) (h5 : τ.1 (m + 5) = σ.1 (m + 5)) (hx : ∀ e w, cm_X σ m e w → cm_X τ m e w) (hn : cm_XS τ m e xs) : cm_T τ m (pm_addC P l q k to xs own) := by
  obtain ⟨⟨a0, a1, a2, a3, a4, a5, a6⟩, b, c, f⟩ := hT
  refine ⟨⟨?_, ?_, ?_, ?_, ?_, ?_, ?_⟩, ?_, ?_, ?_⟩
  · rw [hk 0 (by decide)]; exact a0
  · rw [hk 1 (by decide)]; exact a1
  · rw [hk 2 (by decide)]; exact a2
  · rw [k3, a3]; rfl
  · rw [hk 4 (by decide)]; exact a4
  · rw [k5, a5]; rfl
  · rw [hk 6 (by decide)]; exact a6
  · intro l' q' x1 x2 x3 x4
    rw [h1, h2]
    exact b l' q' x1 x2 x3 x4
  · intro l' q' k' x1 x2 x3 x4 x5 x6
    show τ.1 (m + 3) ((l' * 6 + k') * 6 + q') = pm_u3 (pm_cT P) l q k to l' q' k' ∧ (pm_u3 (pm_cT P) l q k to l' q' k' ≠ -1 → cm_XS τ m (τ.1 (m + 4) ((l' * 6 + k') * 6 + q')) (pm_u3 (pm_cX P) l q k xs l' q' k'))
    unfold pm_u3
    by_cases z : l' = l ∧ q' = q ∧ k' = k
    · rw [if_pos z, if_pos z, h3, h4, z.1, z.2.1, z.2.2, am_u1_eq, am_u1_eq]
      exact ⟨rfl, fun _ => hn⟩
    · rw [if_neg z, if_neg z, h3, h4, am_u1_ne (by omega), am_u1_ne (by omega)]
      exact ⟨(c l' q' k' x1 x2 x3 x4 x5 x6).1, fun z i hi => hx _ _ ((c l' q' k' x1 x2 x3 x4 x5 x6).2 z i hi)⟩
  · intro q' x1 x2
    rw [h5]
    exact cm_XE_mono hx (f q' x1 x2)
theorem am_bt_0 (v : Nat) : am_bt 0 v = false := by
  unfold am_bt
  exact Nat.zero_testBit v
theorem cm_seen_0 : cm_seen 0 [] := ⟨by omega, by omega, fun v _ => by rw [am_bt_0]; simp⟩
theorem cm_S_A {m : Nat} : ∀ a, a ∈ cm_S m → a ∈ cm_A m := by
  intro a ha
  simp only [cm_A, cm_S, List.mem_cons, List.not_mem_nil, or_false] at ha ⊢
  omega
theorem cm_A_no {m a : Nat} (hm : am_isM m) (ha : a ≤ 42) (h1 : a ≠ 1) (h3 : a ≠ 3) : a ∉ cm_A m := by
  have := hm.1
  simp only [cm_A, List.mem_cons, List.not_mem_nil, or_false]
  omega
variable {G : am_G} {σ : am_D}
theorem c_readEnd (d : Nat) {m : Nat} {bs : Int → Int} {n p : Int} {P : am_P} (hm : am_isM m) (hb : σ.1 2 = bs) (hg : tg bs n (σ.1 1) p) (hk : tk_k bs n p ≠ 0) (h31 : σ.1 3 1 = 0) (h32 : σ.1 3 2 = 0) (hT : cm_T σ m P) (hN : cm_N σ m (pm_n P)) (hP : pm_ok P) (h24 : pm_n P < 24) : am_MV G (d + 7) mX8_readEnd [am_r (some 3), am_r (some m)] σ (fun σ' => cm_O σ m bs n p (sm_end bs n P p) σ') := by
  have hm1 := hm.1
  have h24' : pm_nO P + pm_nC P + pm_nE P < 24 := h24
  refine am_M.go (by decide) (Nat.le_of_ble_eq_true rfl) rfl ?_
  generalize hR : sm_end bs n P p = R
  unfold sm_end at hR
  have em : ∀ t, (am_sr σ 1 t).1 m = σ.1 m := fun t => am_sr_of (by omega)
  have e0 : ∀ t, (am_sr σ 1 t).1 m 0 = pm_S P := fun t => by rw [em]; exact hT.1.1
  obtain ⟨⟨pS1, pS2⟩, ⟨pR1, pR2⟩, ⟨pn1, pn2, pn3, pn4⟩, pc, pe, poT, poM, pcT⟩ := id hP
  obtain ⟨t0, t1, t2, t3, t4, t5, t6⟩ := hT.1
  obtain ⟨n1, n2, n3, n4, n5⟩ := id hN
  have F62 : ∀ (τ : am_D) (F : Int), am_only (cm_A m) σ τ → tf bs n (τ.1 1) F → 0 ≤ τ.1 m 6 ∧ τ.1 m 6 ≤ 6 → 0 ≤ τ.1 3 1 ∧ τ.1 3 1 ≤ 100 → R = .inl F → am_X (am_FV G (d + 7) (fun σ' => cm_O σ m bs n p R σ')) mX8_readEnd (0, 0) 62 [some (am_r (some 3)), some (am_r (some m)), none] [] (am_K0, τ) := by
    intro τ F ho h h6 h3 hR
    refine S_X8_readEnd_62 hm (c_max _ (by omega) (by omega)) ?_
    rintro _ _ ⟨rfl, rfl⟩
    refine S_X8_readEnd_74 hm ?_
    refine S_X8_readEnd_77 ?_
    rw [hR]
    exact ⟨ho.trans (am_only.pI (by simp)), by rw [am_pI_of (by omega)]; exact h⟩
  have F41 : ∀ (t : Int → Int) (F q : Int), tf bs n t F → R = .inl F → am_X (am_FV G (d + 7) (fun σ' => cm_O σ m bs n p R σ')) mX8_readEnd (0, 0) 41 [some (am_r (some 3)), some (am_r (some m)), some (am_i q)] [] (am_K0, am_sr σ 1 t) := by
    intro t F q h hR
    have h5 := h.1.2
    refine S_X8_readEnd_41 (by rw [am_sr_at]; omega) (fun _ => F62 _ F (am_only.sr (by simp)) (by rw [am_sr_at]; exact h) (by rw [em]; omega) (by rw [am_sr_of (by decide)]; omega) hR) (fun z => ?_)
    rw [am_sr_at] at z
    exact absurd h.ne z
  have F32 : ∀ (t : Int → Int) (F q : Int), tf bs n t F → R = .inl F → am_X (am_FV G (d + 7) (fun σ' => cm_O σ m bs n p R σ')) mX8_readEnd (0, 0) 32 [some (am_r (some 3)), some (am_r (some m)), some (am_i q)] [] (am_K0, am_sr σ 1 t) := by
    intro t F q h hR
    refine S_X8_readEnd_32 (f_sign _ (by omega) hb h) ?_
    rintro _ rfl
    exact F41 t F q h hR
  have M : ∀ t, tg bs n t p → am_X (am_FV G (d + 7) (fun σ' => cm_O σ m bs n p R σ')) mX8_readEnd (0, 0) 0 [some (am_r (some 3)), some (am_r (some m)), none] [] (am_K0, am_sr σ 1 t) := by
    intro t h
    have hp1 := tk_lt hk
    have hp2 := tk_in (bs := bs) h.2.2.2.2.2
    have hp3 := h.2.2.2.2.1
    refine S_X8_readEnd_0 hm (s_digit _ (by omega) (by rw [e0]; omega) hb h) ?_
    rintro q _ ⟨t, rfl, hq⟩
    rw [e0] at hq
    rcases hq with ⟨q1, q2, h⟩ | ⟨q1, q2, q3, h⟩
    · rw [if_pos q2] at hR
      refine S_X8_readEnd_15 (c_endTells _ hm (by omega)) hm ?_
      rintro _ _ ⟨rfl, rfl⟩
      rw [if_neg (by omega)]
      exact S_X8_readEnd_20 (by omega) (fun _ => F32 t _ q h hR.symm) (fun z => absurd rfl z)
    rw [if_neg (show ¬ sl_dig bs n 0 (pm_S P - 1) (tk_sp bs n p) < 0 by omega), ← q1] at hR
    have hE := hT.2.2.2 q (by omega) (by omega)
    refine S_X8_readEnd_15 (c_endTells _ hm (by omega)) hm ?_
    rintro _ _ ⟨rfl, rfl⟩
    rw [if_pos (by omega), am_sr_of (by omega)]
    cases hq : pm_eX P q with
    | some w =>
      rw [hq] at hE
      have hE' : cm_X σ m (σ.1 (m + 5) q) w := hE
      have hE1 := hE'.1
      have hE2 := hE'.2.1
      rw [if_pos (by rw [hq]; exact fun z => nomatch z)] at hR
      refine S_X8_readEnd_20 (by omega) (fun z => absurd z (by omega)) (fun _ => ?_)
      refine S_X8_readEnd_24 (s_fail _ (by omega) hb h) ?_
      rintro _ ⟨t, rfl, h⟩
      exact F32 t _ q h hR.symm
    | none =>
      rw [hq] at hE
      have hE' : σ.1 (m + 5) q = -1 := hE
      rw [if_neg (by rw [hq]; exact fun z => z rfl)] at hR
      refine S_X8_readEnd_20 (by omega) (fun _ => ?_) (fun z => absurd hE' z)
      refine S_X8_readEnd_32 (s_sign _ (by omega) hb h) ?_
      rintro _ ⟨t, rfl, ⟨s1, h⟩ | ⟨s1, h⟩⟩
      · rw [if_pos s1] at hR
        exact F41 t _ q h hR.symm
      rw [if_neg (fun z => z s1)] at hR
      have h5 := h.2.2.1
      refine S_X8_readEnd_41 (by rw [am_sr_at]; omega) (fun z => absurd (by rw [am_sr_at]; exact h5) z) (fun _ => ?_)
      refine S_X8_readEnd_51 (c_addEnd _ hm (by omega)) hm ?_
      rintro _ rfl
      have g0 : ∀ a, a ≠ m → a ≠ m + 5 → (am_pI (am_pI (am_sr σ 1 t) (m + 5) q ((am_sr σ 1 t).1 m 14)) m 4 ((am_sr σ 1 t).1 m 4 + 1)).1 a = (am_sr σ 1 t).1 a := fun a y0 y1 => by rw [am_pI_of y0, am_pI_of y1]
      have r0 : (am_pI (am_pI (am_sr σ 1 t) (m + 5) q ((am_sr σ 1 t).1 m 14)) m 4 ((am_sr σ 1 t).1 m 4 + 1)).1 m = am_u1 (σ.1 m) 4 (σ.1 m 4 + 1) := by rw [am_pI_row, am_pI_of (by omega), em]
      have r5 : (am_pI (am_pI (am_sr σ 1 t) (m + 5) q ((am_sr σ 1 t).1 m 14)) m 4 ((am_sr σ 1 t).1 m 4 + 1)).1 (m + 5) = am_u1 (σ.1 (m + 5)) q (σ.1 m 14) := by rw [am_pI_of (by omega), am_pI_row, am_sr_of (by omega), em]
      have ro : am_only (cm_A m) σ (am_pI (am_pI (am_sr σ 1 t) (m + 5) q ((am_sr σ 1 t).1 m 14)) m 4 ((am_sr σ 1 t).1 m 4 + 1)) := ((am_only.sr (by simp)).trans (am_only.pI (by simp))).trans (am_only.pI (by simp))
      generalize hτ : am_pI (am_pI (am_sr σ 1 t) (m + 5) q ((am_sr σ 1 t).1 m 14)) m 4 ((am_sr σ 1 t).1 m 4 + 1) = τ at g0 r0 r5 ro ⊢
      have r3 : ∀ a, a ≠ m → a ≠ m + 5 → a ≠ 1 → τ.1 a = σ.1 a := fun a y0 y1 y3 => by rw [g0 a y0 y1, am_sr_of y3]
      have rt : τ.1 1 = t := by rw [g0 1 (by omega) (by omega), am_sr_at]
      have rb : τ.1 2 = bs := by rw [r3 2 (by omega) (by omega) (by omega), hb]
      have rm : ∀ j, j ≠ 4 → τ.1 m j = σ.1 m j := fun j hj => by rw [r0, am_u1_ne hj]
      have hNτ : cm_N τ m (pm_n P) := by
        unfold cm_N
        rw [rm 14 (by decide), rm 15 (by decide), r3 (m + 7) (by omega) (by omega) (by omega)]
        exact hN
      have hrem := sl_rem_rg []
      have hk61 : tk_k bs n (tk_sp bs n (tk_sp bs n p)) ≠ 0 := by omega
      have hx0 := c_readExpression (G := G) (σ := τ) d (m := m) (B := σ.1 m 15 + 18) (p := tk_sp bs n (tk_sp bs n p)) (own := 0) (seen := []) (stk := false) hm (by rw [rb, rt]; exact h.1) (by rw [rt]; exact h5) (by rw [rb, rt]; exact h.2.2.2.1) (by rw [rt, h.2.1]; exact h.2.2.2.2) (by rw [rb, rt, h.2.1]; exact hk61) (by rw [rm 15 (by decide)]; exact n3) (by omega) (by rw [rm 1 (by decide)]; omega) (by rw [rm 14 (by decide)]; omega) (by rw [r3 3 (by omega) (by omega) (by omega)]; exact h31) (by omega) (by omega) (by rw [r3 3 (by omega) (by omega) (by omega), h32]; exact cm_seen_0) (by rw [rm 15 (by decide)]; omega)
      rw [rb, rt, h.2.1, rm 1 (by decide), t1] at hx0
      refine S_X8_readEnd_56 hx0 ?_
      intro τ2 hpost
      generalize hX : sl_ex bs n (pm_R P) false 700 (tk_sp bs n (tk_sp bs n (tk_sp bs n p))) 0 0 [] [] = X at hpost hR
      cases X with
      | inl F =>
        obtain ⟨f1, f2, f3, f4, f5, f6, f7, f8, f9⟩ := (show cm_F τ m F τ2 from hpost)
        rw [rb] at f2
        exact F62 τ2 F (ro.trans (f1.sub cm_S_A)) ⟨f2, f3, f4⟩ (by rw [f5 6 (by decide), rm 6 (by decide)]; omega) (by omega) hR.symm
      | inr r =>
        obtain ⟨p', own', seen', acc⟩ := r
        obtain ⟨hD, hp', hpn⟩ := (show cm_D τ m (σ.1 m 15 + 18) p' own' seen' acc τ2 ∧ tk_sp bs n (tk_sp bs n p) < p' ∧ p' ≤ τ.1 1 1 from hpost)
        obtain ⟨d1, d2, d3, d4, d5, d6, d7, d8, d9, d10, d11, d12, d13, d14, d15, d16⟩ := id hD
        rw [rb] at d2 d5
        rw [rt, h.2.1] at d3 hpn
        have hrem' := sl_rem_rg seen'
        refine S_X8_readEnd_62 hm (c_max _ (by rw [d10 6 (by decide), rm 6 (by decide)]; omega) (by omega)) ?_
        rintro _ _ ⟨rfl, rfl⟩
        refine S_X8_readEnd_74 hm ?_
        refine S_X8_readEnd_77 ?_
        rw [← hR]
        have v0 : ∀ a, a ≠ m → (am_pI τ2 m 6 (max (τ2.1 m 6) (τ2.1 3 1))).1 a = τ2.1 a := fun a ha => am_pI_of ha
        have vm : (am_pI τ2 m 6 (max (τ2.1 m 6) (τ2.1 3 1))).1 m = am_u1 (τ2.1 m) 6 (max (τ2.1 m 6) (τ2.1 3 1)) := am_pI_row
        have i1 := tk_in (bs := bs) (n := n) (p := tk_sp bs n p) (by omega)
        have vo : ∀ a, a ∉ cm_S m → a ≠ m → a ≠ m + 5 → a ≠ 1 → (am_pI τ2 m 6 (max (τ2.1 m 6) (τ2.1 3 1))).1 a = σ.1 a := fun a y0 y1 y2 y3 => by rw [v0 a y1, d1.1 a y0, r3 a y1 y2 y3]
        have hxx : ∀ e w, cm_X τ2 m e w → cm_X (am_pI τ2 m 6 (max (τ2.1 m 6) (τ2.1 3 1))) m e w := fun e w => cm_X_of (v0 _ (by omega)) (v0 _ (by omega)) (by rw [vm, am_u1_ne (by decide)]) (by rw [vm, am_u1_ne (by decide)])
        have hxs : ∀ e w, cm_X σ m e w → cm_X τ m e w := fun e w => cm_X_of (r3 _ (by omega) (by omega) (by omega)) (r3 _ (by omega) (by omega) (by omega)) (rm 14 (by decide)) (rm 15 (by decide))
        have hnew := cm_X_new hNτ hD
        rw [rm 14 (by decide)] at hnew
        refine ⟨(ro.trans (d1.sub cm_S_A)).trans (am_only.pI (by simp)), ?_, by omega, ?_, ?_, ?_⟩
        · rw [v0 1 (by omega)]
          exact ⟨d2, d3, d4, d5, by omega, hpn⟩
        · refine cm_T_addE (σ := σ) (e := σ.1 m 14) hT ?_ ?_ ?_ (vo _ (by simp <;> omega) (by omega) (by omega) (by omega)) (vo _ (by simp <;> omega) (by omega) (by omega) (by omega)) (vo _ (by simp <;> omega) (by omega) (by omega) (by omega)) (vo _ (by simp <;> omega) (by omega) (by omega) (by omega)) ?_ (fun e w hw => hxx _ _ (cm_X_D hNτ hD (hxs _ _ hw))) (hxx _ _ hnew)
          · intro j hj
            rw [vm, am_u1_ne (fun z => hj (by rw [z]; decide)), d10 j (fun z => hj (by revert z; simp; omega)), rm j (fun z => hj (by rw [z]; decide))]
          · rw [vm, am_u1_ne (by decide), d10 4 (by decide), r0, am_u1_eq]
          · rw [vm, am_u1_eq, d10 6 (by decide), rm 6 (by decide), d6]
          · rw [v0 _ (by omega), d1.1 _ (by simp <;> omega), r5]
        · have hn : pm_n (pm_addE P q acc own') = pm_n P + 1 := by show pm_nO P + pm_nC P + (pm_nE P + 1) = pm_nO P + pm_nC P + pm_nE P + 1; omega
          unfold cm_N
          rw [hn, v0 (m + 7) (by omega), vm, am_u1_ne (by decide), am_u1_ne (by decide), d15, d11, d12, am_u1_eq]
          rw [rm 14 (by decide), rm 15 (by decide)] at *
          exact ⟨by omega, by omega, by omega, by omega, fun _ => rfl⟩
        · exact ⟨⟨pS1, pS2⟩, ⟨pR1, pR2⟩, ⟨pn1, pn2, show 0 ≤ pm_nE P + 1 by omega, show pm_nO P + pm_nC P + (pm_nE P + 1) ≤ 24 by omega⟩, pc, ⟨show 0 ≤ max (pm_mE P) own' by omega, show max (pm_mE P) own' ≤ 6 by omega⟩, poT, poM, pcT⟩
  have := M _ hg
  rw [am_sr_self] at this
  exact this
end
