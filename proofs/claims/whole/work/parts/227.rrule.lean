section
theorem rm_T_keep {σ τ : am_D} {P : am_P} (hT : rm_T σ 5 P) (h0 : ∀ a, a ≠ 91 → a ≠ 96 → a ≠ 105 → τ.1 a = σ.1 a) (h5 : am_kpt [120 + pm_n P] (σ.1 105) (τ.1 105)) : rm_T τ 5 P := by
  obtain ⟨⟨a0, a1⟩, b, c, e, g, w1, w2, w3, w4⟩ := hT
  have q : ∀ a, a ≠ 91 → a ≠ 96 → a ≠ 105 → τ.1 a = σ.1 a := h0
  have hx : ∀ e w, rm_X σ 5 e w → rm_X τ 5 e w := fun e w => rm_X_of (q _ (by decide) (by decide) (by decide)) (q _ (by decide) (by decide) (by decide)) (q _ (by decide) (by decide) (by decide)) (q _ (by decide) (by decide) (by decide))
  have q1 : τ.1 101 = σ.1 101 := q _ (by decide) (by decide) (by decide)
  have q2 : τ.1 102 = σ.1 102 := q _ (by decide) (by decide) (by decide)
  unfold rm_T
  rw [q 94 (by decide) (by decide) (by decide), q 95 (by decide) (by decide) (by decide), q 97 (by decide) (by decide) (by decide), q 98 (by decide) (by decide) (by decide), q 99 (by decide) (by decide) (by decide), q 100 (by decide) (by decide) (by decide), q1, q2]
  have hc5 : ∀ l' q' k' : Int, 0 ≤ l' → l' < 3 → 0 ≤ q' → q' < 6 → 0 ≤ k' → k' < 6 → pm_cT P l' q' k' ≠ -1 → τ.1 105 (24 * 5 + σ.1 101 (108 * 5 + 36 * l' + 6 * q' + k')) = σ.1 105 (24 * 5 + σ.1 101 (108 * 5 + 36 * l' + 6 * q' + k')) := by
    intro l' q' k' x1 x2 x3 x4 x5 x6 z
    obtain ⟨y1, y2, y3⟩ := (c l' q' k' x1 x2 x3 x4 x5 x6).2 z
    exact h5 _ (by rw [List.mem_singleton]; omega)
  have he5 : ∀ q' : Int, 0 ≤ q' → q' < 6 → pm_eX P q' ≠ none → τ.1 105 (24 * 5 + σ.1 102 (6 * 5 + q')) = σ.1 105 (24 * 5 + σ.1 102 (6 * 5 + q')) := by
    intro q' x1 x2 z
    have := e q' x1 x2
    cases hh : pm_eX P q' with
    | none => exact absurd hh z
    | some w =>
      rw [hh] at this
      obtain ⟨y1, y2, y3⟩ := (show 0 ≤ σ.1 102 (6 * 5 + q') ∧ σ.1 102 (6 * 5 + q') < pm_n P ∧ rm_X σ 5 (3 * σ.1 102 (6 * 5 + q')) w from this)
      exact h5 _ (by rw [List.mem_singleton]; omega)
  refine ⟨⟨a0, a1⟩, b, ?_, ?_, g, ?_⟩
  · intro l' q' k' x1 x2 x3 x4 x5 x6
    refine ⟨(c l' q' k' x1 x2 x3 x4 x5 x6).1, fun z => ?_⟩
    obtain ⟨y1, y2, y3⟩ := (c l' q' k' x1 x2 x3 x4 x5 x6).2 z
    exact ⟨y1, y2, fun i hi => hx _ _ (y3 i hi)⟩
  · intro q' x1 x2
    exact rm_XE_mono (Int.le_refl _) hx (e q' x1 x2)
  · unfold rm_W
    rw [q1, q2]
    refine ⟨fun l' q' k' x1 x2 x3 x4 x5 x6 z => ?_, fun q' x1 x2 z => ?_, ?_, ?_⟩
    · rw [hc5 l' q' k' x1 x2 x3 x4 x5 x6 z]
      exact w1 l' q' k' x1 x2 x3 x4 x5 x6 z
    · rw [he5 q' x1 x2 z]
      exact w2 q' x1 x2 z
    · rcases w3 with h | ⟨l', q', k', x1, x2, x3, x4, x5⟩
      · exact Or.inl h
      · exact Or.inr ⟨l', q', k', x1, x2, x3, x4, by rw [hc5 l' q' k' x1.1 x1.2 x2.1 x2.2 x3.1 x3.2 x4]; exact x5⟩
    · rcases w4 with h | ⟨q', x1, x2, x3⟩
      · exact Or.inl h
      · exact Or.inr ⟨q', x1, x2, by rw [he5 q' x1.1 x1.2 x2]; exact x3⟩
theorem sm_open_n {bs : Int → Int} {n p p' : Int} {P P' : am_P} (h : sm_open bs n P p = .inr (P', p')) : pm_n P' = pm_n P + 1 := by
  unfold sm_open at h
  repeat (split at h; · exact nomatch h)
  injection h with h
  injection h with h _
  rw [← h]
  show pm_nO P + 1 + pm_nC P + pm_nE P = pm_nO P + pm_nC P + pm_nE P + 1
  omega
theorem sm_close_n {bs : Int → Int} {n p p' : Int} {P P' : am_P} (h : sm_close bs n P p = .inr (P', p')) : pm_n P' = pm_n P + 1 := by
  unfold sm_close at h
  repeat (split at h; · exact nomatch h)
  injection h with h
  injection h with h _
  rw [← h]
  show pm_nO P + (pm_nC P + 1) + pm_nE P = pm_nO P + pm_nC P + pm_nE P + 1
  omega
theorem sm_end_n {bs : Int → Int} {n p p' : Int} {P P' : am_P} (h : sm_end bs n P p = .inr (P', p')) : pm_n P' = pm_n P + 1 := by
  unfold sm_end at h
  repeat (split at h; · exact nomatch h)
  injection h with h
  injection h with h _
  rw [← h]
  show pm_nO P + pm_nC P + (pm_nE P + 1) = pm_nO P + pm_nC P + pm_nE P + 1
  omega
/-- what a RULE leaves, with its number -/
def rm_U (σ : am_D) (p : Int) (R : Int ⊕ (am_P × Int)) (τ : am_D) : Prop := (am_only rm_A σ τ ∧ rm_low σ τ ∧ am_kpt [2, 4, 5, 6, 21] (σ.1 91) (τ.1 91)) ∧ match R with
  | .inl F => rh (σ.1 92) (τ.1 91) F
  | .inr (P', p') => rg (σ.1 92) (σ.1 91 3) (τ.1 91) p' ∧ p < p' ∧ rm_T τ 5 P' ∧ pm_ok P' ∧ τ.1 96 5 = pm_n P'
variable {G : am_G} {σ : am_D}
theorem c_rRule (d : Nat) {p : Int} {P : am_P} (hn6 : σ.1 91 3 ≤ 600) (hp : 0 ≤ p ∧ p ≤ σ.1 91 3) (hk : tk_k (σ.1 92) (σ.1 91 3) p ≠ 0) (hg : rg (σ.1 92) (σ.1 91 3) (σ.1 91) (tk_sp (σ.1 92) (σ.1 91 3) p)) (hT : rm_T σ 5 P) (hP : pm_ok P) (h96 : σ.1 96 5 = pm_n P) : am_MV G (d + 23) mX11_rule [am_r (some 91)] σ (fun σ' => rm_U σ p (sm_rule (σ.1 92) (σ.1 91 3) P p) σ') := by
  obtain ⟨ts, hts⟩ : ∃ ts, σ.1 92 = ts := ⟨_, rfl⟩
  obtain ⟨n, hn⟩ : ∃ n, σ.1 91 3 = n := ⟨_, rfl⟩
  generalize hR : sm_rule (σ.1 92) (σ.1 91 3) P p = R
  rw [hts, hn] at hR hg hk
  rw [hn] at hp hn6
  obtain ⟨-, -, ⟨pn1, pn2, pn3, pn4⟩, -⟩ := id hP
  have pnv : pm_n P = pm_nO P + pm_nC P + pm_nE P := rfl
  have hlt := tk_lt hk
  have i0 := tk_in (bs := ts) hp.2
  obtain ⟨p1, hp1⟩ : ∃ p1, tk_sp ts n p = p1 := ⟨_, rfl⟩
  rw [hp1] at hg hlt i0
  unfold sm_rule at hR
  rw [hp1] at hR
  refine am_M.go (by decide) (Nat.le_of_ble_eq_true rfl) rfl ?_
  have e0 : ∀ u a, a ≠ 91 → (am_sr σ 91 u).1 a = σ.1 a := fun u a ha => am_sr_of ha
  have k5 : ∀ u, am_kpt rk (σ.1 91) u → am_kpt [2, 4, 5, 6, 21] (σ.1 91) u := fun u hu j hj => hu j (fun z => hj (by revert z; simp; omega))
  have F62 : ∀ (u : Int → Int) (F v1 v2 : Int), am_kpt rk (σ.1 91) u → rh ts u F → R = .inl F → am_X (am_FV G (d + 23) (fun σ' => rm_U σ p R σ')) mX11_rule (0, 0) 62 [some (am_r (some 91)), some (am_i v1), some (am_i v2), none] [] (am_K0, am_sr σ 91 u) := by
    intro u F v1 v2 hu hF hRF
    refine S_X11_rule_62 (h_isGood _ (by rw [am_sr_at]; exact hF)) ?_
    rintro _ _ ⟨rfl, rfl⟩
    refine S_X11_rule_66 (by decide) (fun z => absurd rfl z) (fun _ => ?_)
    refine S_X11_rule_69 ?_
    rw [hRF]
    refine ⟨⟨am_only.sr (by simp), rm_low.of (fun a a1 a2 => e0 u a (by omega)), by rw [am_sr_at]; exact k5 u hu⟩, ?_⟩
    show rh (σ.1 92) ((am_sr σ 91 u).1 91) F
    rw [am_sr_at, hts]
    exact hF
  -- a RULE of one of the three kinds
  have J39 : ∀ v1 v2 : Int, v1 = (if sl_wd ts n 1 p1 then 1 else 0) → v2 = (if sl_wd ts n 2 p1 then 1 else 0) → (¬ (sl_wd ts n 1 p1 = false ∧ sl_wd ts n 2 p1 = false ∧ sl_wd ts n 3 p1 = false)) → am_X (am_FV G (d + 23) (fun σ' => rm_U σ p R σ')) mX11_rule (0, 0) 39 [some (am_r (some 91)), some (am_i v1), some (am_i v2), none] [] (am_K0, σ) := by
    intro v1 v2 hv1 hv2 hw
    have r1 : v1 = 0 ∨ v1 = 1 := by rw [hv1]; split <;> omega
    have r2 : v2 = 0 ∨ v2 = 1 := by rw [hv2]; split <;> omega
    rw [if_neg hw] at hR
    have hk1 : tk_k ts n p1 ≠ 0 := by
      have : ∀ i, sl_wd ts n i p1 = true → tk_k ts n p1 = 97 := by
        intro i h
        unfold sl_wd at h
        simp only [Bool.and_eq_true, decide_eq_true_eq] at h
        exact h.1
      intro z
      refine hw ⟨?_, ?_, ?_⟩
      · cases h : sl_wd ts n 1 p1 with
        | false => rfl
        | true => have := this 1 h; omega
      · cases h : sl_wd ts n 2 p1 with
        | false => rfl
        | true => have := this 2 h; omega
      · cases h : sl_wd ts n 3 p1 with
        | false => rfl
        | true => have := this 3 h; omega
    refine S_X11_rule_39 (r_isGood _ hg) ?_
    rintro _ _ ⟨rfl, rfl⟩
    refine S_X11_rule_43 (by decide) (fun z => absurd z (by decide)) (fun _ => ?_)
    refine S_X11_rule_46 (by omega) (fun z => ?_) (fun z => ?_)
    rotate_left
    · have z := Classical.not_not.mp z
      rw [if_pos (by omega)] at hR
      refine S_X11_rule_57 (r_fails _ (by omega) hts hg) ?_
      rintro _ ⟨u, rfl, hu, hF⟩
      exact F62 u _ v1 v2 hu hF hR.symm
    rw [if_neg (by omega)] at hR
    refine S_X11_rule_62 (r_isGood _ hg) ?_
    rintro _ _ ⟨rfl, rfl⟩
    refine S_X11_rule_66 (by decide) (fun _ => ?_) (fun z => absurd (by decide) z)
    refine S_X11_rule_70 ?_
    refine S_X11_rule_77 ?_
    refine S_X11_rule_87 (by omega) (by omega) ?_
    refine S_X11_rule_97 ?_
    rw [h96]
    have f91 : (am_pI (am_pI (am_pI σ 96 5 (pm_n P + 1)) 105 (120 + pm_n P) 0) 91 21 0).1 91 = am_u1 (σ.1 91) 21 0 := by rw [am_pI_row, am_pI_of (by decide), am_pI_of (by decide)]
    have f0 : ∀ a, a ≠ 91 → a ≠ 96 → a ≠ 105 → (am_pI (am_pI (am_pI σ 96 5 (pm_n P + 1)) 105 (120 + pm_n P) 0) 91 21 0).1 a = σ.1 a := fun a y1 y2 y3 => by rw [am_pI_of y1, am_pI_of y3, am_pI_of y2]
    have f96 : (am_pI (am_pI (am_pI σ 96 5 (pm_n P + 1)) 105 (120 + pm_n P) 0) 91 21 0).1 96 5 = pm_n P + 1 := by rw [am_pI_of (by decide), am_pI_of (by decide)]; exact am_pI_at
    have f105 : (am_pI (am_pI (am_pI σ 96 5 (pm_n P + 1)) 105 (120 + pm_n P) 0) 91 21 0).1 105 = am_u1 (σ.1 105) (120 + pm_n P) 0 := by rw [am_pI_of (by decide), am_pI_row, am_pI_of (by decide)]
    have fo : am_only rm_A σ (am_pI (am_pI (am_pI σ 96 5 (pm_n P + 1)) 105 (120 + pm_n P) 0) 91 21 0) := ((am_only.pI (by simp)).trans (am_only.pI (by simp))).trans (am_only.pI (by simp))
    have fl : rm_low σ (am_pI (am_pI (am_pI σ 96 5 (pm_n P + 1)) 105 (120 + pm_n P) 0) 91 21 0) := ((rm_low.pI (show (5 : Int) ≤ 5 by omega)).trans (rm_low.pI (show (120 : Int) ≤ _ by omega))).trans (rm_low.of (fun a y1 y2 => am_pI_of (by omega)))
    generalize am_pI (am_pI (am_pI σ 96 5 (pm_n P + 1)) 105 (120 + pm_n P) 0) 91 21 0 = σ3 at f91 f0 f96 f105 fo fl ⊢
    refine S_X11_rule_102 (r_goes (ts := ts) (n := n) (p := p1) _ ((f0 92 (by decide) (by decide) (by decide)).trans hts) (by rw [f91]; exact rg_u1 (by decide) hg)) ?_
    rintro _ ⟨u, rfl, hu, hg4⟩
    rw [f91] at hu
    have u3 : u 3 = n := hg4.2.2.1
    have g0 : ∀ a, a ≠ 91 → (am_sr σ3 91 u).1 a = σ3.1 a := fun a ha => am_sr_of ha
    have g91 : (am_sr σ3 91 u).1 91 = u := am_sr_at
    have go : am_only rm_A σ (am_sr σ3 91 u) := fo.trans (am_only.sr (by simp))
    have gl : rm_low σ (am_sr σ3 91 u) := fl.trans (rm_low.of (fun a y1 y2 => am_sr_of (by omega)))
    generalize am_sr σ3 91 u = σ4 at g0 g91 go gl ⊢
    have s92 : σ4.1 92 = ts := by rw [g0 92 (by decide), f0 92 (by decide) (by decide) (by decide)]; exact hts
    have s913 : σ4.1 91 3 = n := by rw [g91]; exact u3
    have s21 : σ4.1 91 21 = 0 := by rw [g91, hu 21 (by decide), am_u1_eq]
    have s105 : σ4.1 105 (120 + pm_n P) = 0 := by rw [g0 105 (by decide), f105, am_u1_eq]
    have s96 : σ4.1 96 5 = pm_n P + 1 := by rw [g0 96 (by decide)]; exact f96
    have sT : rm_T σ4 5 P := rm_T_keep hT (fun a y1 y2 y3 => by rw [g0 a y1, f0 a y1 y2 y3]) (by rw [g0 105 (by decide), f105]; exact am_kpt.u1 (by simp))
    have sk : am_kpt [2, 4, 5, 6, 21] (σ.1 91) (σ4.1 91) := by
      rw [g91]
      intro j hj
      rw [hu j (fun z => hj (by revert z; simp; omega)), am_u1_ne (fun z => hj (by rw [z]; decide))]
    have sg : rg (σ4.1 92) (σ4.1 91 3) (σ4.1 91) (tk_sp (σ4.1 92) (σ4.1 91 3) p1) := by rw [s92, s913, g91]; exact hg4
    have fin : ∀ (R' : Int ⊕ (am_P × Int)) (τ : am_D), R = R' → (∀ P' p', R' = .inr (P', p') → pm_n P' = pm_n P + 1) → rm_O σ4 p1 R' τ → rm_U σ p R τ := by
      rintro R' τ rfl hn1 ⟨⟨o1, o2, o3, o4⟩, o5⟩
      refine ⟨⟨go.trans o1, gl.trans o2, sk.trans o3⟩, ?_⟩
      cases R with
      | inl F =>
        have o5 : rh (σ4.1 92) (τ.1 91) F := o5
        rw [s92] at o5
        show rh (σ.1 92) (τ.1 91) F
        rw [hts]
        exact o5
      | inr r =>
        obtain ⟨P', p'⟩ := r
        obtain ⟨o5, o6, o7, o8⟩ := (show rg (σ4.1 92) (σ4.1 91 3) (τ.1 91) p' ∧ p1 < p' ∧ rm_T τ 5 P' ∧ pm_ok P' from o5)
        rw [s92, s913] at o5
        show rg (σ.1 92) (σ.1 91 3) (τ.1 91) p' ∧ p < p' ∧ rm_T τ 5 P' ∧ pm_ok P' ∧ τ.1 96 5 = pm_n P'
        rw [hts, hn]
        exact ⟨o5, by omega, o7, o8, by rw [o4, s96]; exact (hn1 P' p' rfl).symm⟩
    have hp1n : 0 ≤ p1 ∧ p1 ≤ σ4.1 91 3 := by rw [s913]; omega
    have hk4 : tk_k (σ4.1 92) (σ4.1 91 3) p1 ≠ 0 := by rw [s92, s913]; exact hk1
    refine S_X11_rule_106 (by omega) (fun z1 => ?_) (fun z1 => ?_)
    rotate_left
    · have hw1 : sl_wd ts n 1 p1 = true := by
        cases h : sl_wd ts n 1 p1 with
        | true => rfl
        | false => rw [h] at hv1; exact absurd hv1 z1
      rw [if_pos hw1] at hR
      refine S_X11_rule_110 (c_rOpenRule _ hp1n hk4 sg sT hP (by omega) s105) ?_
      intro τ hO
      refine S_X11_rule_114 ?_
      refine S_X11_rule_134 ?_
      rw [s92, s913] at hO
      exact fin _ τ hR.symm (fun P' p' h => sm_open_n h) hO
    · have hw1 : ¬ sl_wd ts n 1 p1 = true := fun h => by rw [h] at hv1; rw [z1] at hv1; exact absurd hv1 (by decide)
      rw [if_neg hw1] at hR
      refine S_X11_rule_117 (by omega) (fun z2 => ?_) (fun z2 => ?_)
      rotate_left
      · have hw2 : sl_wd ts n 2 p1 = true := by
          cases h : sl_wd ts n 2 p1 with
          | true => rfl
          | false => rw [h] at hv2; exact absurd hv2 z2
        rw [if_pos hw2] at hR
        refine S_X11_rule_121 (c_rCloseRule _ (by rw [s913]; exact hn6) hp1n hk4 sg sT hP (by omega) s105 s21) ?_
        intro τ hO
        refine S_X11_rule_126 ?_
        refine S_X11_rule_134 ?_
        rw [s92, s913] at hO
        exact fin _ τ hR.symm (fun P' p' h => sm_close_n h) hO
      · have hw2 : ¬ sl_wd ts n 2 p1 = true := fun h => by rw [h] at hv2; rw [z2] at hv2; exact absurd hv2 (by decide)
        rw [if_neg hw2] at hR
        refine S_X11_rule_129 (c_rEndsRule _ (by rw [s913]; exact hn6) hp1n hk4 sg sT hP (by omega) s105 s21) ?_
        intro τ hO
        refine S_X11_rule_134 ?_
        rw [s92, s913] at hO
        exact fin _ τ hR.symm (fun P' p' h => sm_end_n h) hO
  refine S_X11_rule_0 (r_isWord _ (by decide) hts hg) ?_
  rintro _ _ ⟨rfl, rfl⟩
  refine S_X11_rule_8 (r_isWord _ (by decide) hts hg) ?_
  rintro _ _ ⟨rfl, rfl⟩
  refine S_X11_rule_16 (by split <;> omega) (fun z => J39 _ _ rfl rfl (fun y => z (by rw [y.1]; rfl))) (fun z1 => ?_)
  refine S_X11_rule_20 (by split <;> omega) (fun z => J39 _ _ rfl rfl (fun y => z (by rw [y.2.1]; rfl))) (fun z2 => ?_)
  refine S_X11_rule_24 (r_isWord _ (by decide) hts hg) ?_
  rintro _ _ ⟨rfl, rfl⟩
  refine S_X11_rule_31 (by split <;> omega) (fun z => J39 _ _ rfl rfl (fun y => z (by rw [y.2.2]; rfl))) (fun z3 => ?_)
  have b1 : sl_wd ts n 1 p1 = false := by
    cases h : sl_wd ts n 1 p1 with
    | false => rfl
    | true => rw [h] at z1; exact absurd (by decide) z1
  have b2 : sl_wd ts n 2 p1 = false := by
    cases h : sl_wd ts n 2 p1 with
    | false => rfl
    | true => rw [h] at z2; exact absurd (by decide) z2
  have b3 : sl_wd ts n 3 p1 = false := by
    cases h : sl_wd ts n 3 p1 with
    | false => rfl
    | true => rw [h] at z3; exact absurd (by decide) z3
  rw [if_pos ⟨b1, b2, b3⟩] at hR
  refine S_X11_rule_34 (r_fails _ (by omega) hts hg) ?_
  rintro _ ⟨u, rfl, hu, hF⟩
  refine S_X11_rule_39 (h_isGood _ (by rw [am_sr_at]; exact hF)) ?_
  rintro _ _ ⟨rfl, rfl⟩
  exact S_X11_rule_43 (by decide) (fun _ => F62 u _ _ _ hu hF hR.symm) (fun z => absurd rfl z)
end
