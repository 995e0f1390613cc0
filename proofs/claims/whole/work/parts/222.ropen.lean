section
theorem rm_X_of {σ τ : am_D} {s e : Int} {w : List Int} (h3 : τ.1 103 = σ.1 103) (h4 : τ.1 104 = σ.1 104) (h7 : τ.1 97 = σ.1 97) (h6 : τ.1 106 = σ.1 106) (h : rm_X σ s e w) : rm_X τ s e w := by
  unfold rm_X at h ⊢
  rw [h3, h4, h7, h6]
  exact h
theorem rm_XE_mono {σ τ : am_D} {s c c' e : Int} {o : Option (List Int)} (hc : c ≤ c') (hx : ∀ e w, rm_X σ s e w → rm_X τ s e w) (h : rm_XE σ s c e o) : rm_XE τ s c' e o := by
  cases o with
  | none => exact h
  | some w => exact ⟨h.1, by have := h.2.1; omega, hx _ _ h.2.2⟩
/-- what a RULE leaves in the reference -/
def rm_O (σ : am_D) (p : Int) (R : Int ⊕ (am_P × Int)) (τ : am_D) : Prop := (am_only rm_A σ τ ∧ rm_low σ τ ∧ am_kpt [2, 4, 5, 6, 21] (σ.1 91) (τ.1 91) ∧ τ.1 96 = σ.1 96) ∧ match R with
  | .inl F => rh (σ.1 92) (τ.1 91) F
  | .inr (P', p') => rg (σ.1 92) (σ.1 91 3) (τ.1 91) p' ∧ p < p' ∧ rm_T τ 5 P' ∧ pm_ok P'
theorem rm_T_addO {σ τ : am_D} {P : am_P} {l q to mk : Int} (hl : 0 ≤ l ∧ l < 3) (hq : 0 ≤ q ∧ q < 6) (hn : 0 ≤ pm_n P) (hm : 0 ≤ max (pm_mC P) (pm_mE P)) (hT : rm_T σ 5 P) (hown : σ.1 105 (120 + pm_n P) = 0) (h0 : ∀ a, a ≠ 91 → a ≠ 98 → a ≠ 99 → τ.1 a = σ.1 a) (h8 : τ.1 98 = am_u1 (σ.1 98) (18 * 5 + 6 * l + q) to) (h9 : τ.1 99 = am_u1 (σ.1 99) (18 * 5 + 6 * l + q) mk) : rm_T τ 5 (pm_addO P l q to mk) := by
  obtain ⟨⟨a0, a1⟩, b, c, e, g, w⟩ := hT
  have hx : ∀ e w, rm_X σ 5 e w → rm_X τ 5 e w := fun e w => rm_X_of (h0 _ (by decide) (by decide) (by decide)) (h0 _ (by decide) (by decide) (by decide)) (h0 _ (by decide) (by decide) (by decide)) (h0 _ (by decide) (by decide) (by decide))
  have hn1 : pm_n (pm_addO P l q to mk) = pm_n P + 1 := by show pm_nO P + 1 + pm_nC P + pm_nE P = pm_nO P + pm_nC P + pm_nE P + 1; omega
  unfold rm_T
  rw [hn1, h0 94 (by decide) (by decide) (by decide), h0 95 (by decide) (by decide) (by decide), h0 97 (by decide) (by decide) (by decide), h0 100 (by decide) (by decide) (by decide), h0 101 (by decide) (by decide) (by decide), h0 102 (by decide) (by decide) (by decide), h8, h9]
  refine ⟨⟨a0, a1⟩, ?_, ?_, ?_, ⟨g.1, by omega⟩, ?_⟩
  · intro l' q' x1 x2 x3 x4
    show am_u1 (σ.1 98) (18 * 5 + 6 * l + q) to (18 * 5 + 6 * l' + q') = pm_u2 (pm_oT P) l q to l' q' ∧ (pm_u2 (pm_oT P) l q to l' q' ≠ -1 → am_u1 (σ.1 99) (18 * 5 + 6 * l + q) mk (18 * 5 + 6 * l' + q') = pm_u2 (pm_oM P) l q mk l' q')
    unfold pm_u2
    by_cases z : l' = l ∧ q' = q
    · rw [if_pos z, if_pos z, z.1, z.2, am_u1_eq, am_u1_eq]
      exact ⟨rfl, fun _ => rfl⟩
    · rw [if_neg z, if_neg z, am_u1_ne (by omega), am_u1_ne (by omega)]
      exact b l' q' x1 x2 x3 x4
  · intro l' q' k' x1 x2 x3 x4 x5 x6
    refine ⟨(c l' q' k' x1 x2 x3 x4 x5 x6).1, fun z => ?_⟩
    obtain ⟨y1, y2, y3⟩ := (c l' q' k' x1 x2 x3 x4 x5 x6).2 z
    exact ⟨y1, by omega, fun i hi => hx _ _ (y3 i hi)⟩
  · intro q' x1 x2
    exact rm_XE_mono (by omega) hx (e q' x1 x2)
  · unfold rm_W
    rw [h0 101 (by decide) (by decide) (by decide), h0 102 (by decide) (by decide) (by decide), h0 105 (by decide) (by decide) (by decide)]
    exact w
variable {G : am_G} {σ : am_D}
theorem c_rOpenRule (d : Nat) {p : Int} {P : am_P} (hp : 0 ≤ p ∧ p ≤ σ.1 91 3) (hk : tk_k (σ.1 92) (σ.1 91 3) p ≠ 0) (hg : rg (σ.1 92) (σ.1 91 3) (σ.1 91) (tk_sp (σ.1 92) (σ.1 91 3) p)) (hT : rm_T σ 5 P) (hP : pm_ok P) (h24 : pm_n P < 24) (hown : σ.1 105 (120 + pm_n P) = 0) : am_MV G (d + 7) mX11_openRule [am_r (some 91)] σ (fun σ' => rm_O σ p (sm_open (σ.1 92) (σ.1 91 3) P p) σ') := by
  obtain ⟨ts, hts⟩ : ∃ ts, σ.1 92 = ts := ⟨_, rfl⟩
  obtain ⟨n, hn⟩ : ∃ n, σ.1 91 3 = n := ⟨_, rfl⟩
  generalize hR : sm_open (σ.1 92) (σ.1 91 3) P p = R
  rw [hts, hn] at hR hg hk
  rw [hn] at hp
  unfold sm_open at hR
  obtain ⟨⟨pS1, pS2⟩, ⟨pR1, pR2⟩, ⟨pn1, pn2, pn3, pn4⟩, pc, pe, poT, poM, pcT⟩ := id hP
  have t94 := hT.1.1
  have hlt := tk_lt hk
  refine am_M.go (by decide) (Nat.le_of_ble_eq_true rfl) rfl ?_
  have e0 : ∀ u a, a ≠ 91 → (am_sr σ 91 u).1 a = σ.1 a := fun u a ha => am_sr_of ha
  -- behind a FAULT: nothing more is done ahead of the writing
  have FO : ∀ (u : Int → Int) (F : Int), am_kpt rk (σ.1 91) u → rh ts u F → R = .inl F → rm_O σ p R (am_sr σ 91 u) := by
    intro u F hu hF hRF
    rw [hRF]
    refine ⟨⟨am_only.sr (by simp), rm_low.of (fun a a1 a2 => e0 u a (by omega)), ?_, e0 u 96 (by decide)⟩, ?_⟩
    · rw [am_sr_at]
      exact fun j hj => hu j (fun z => hj (by revert z; simp; omega))
    · show rh (σ.1 92) ((am_sr σ 91 u).1 91) F
      rw [am_sr_at, hts]
      exact hF
  have F46 : ∀ (u : Int → Int) (F l q : Int), am_kpt rk (σ.1 91) u → rh ts u F → R = .inl F → am_X (am_FV G (d + 7) (fun σ' => rm_O σ p R σ')) mX11_openRule (0, 0) 46 [some (am_r (some 91)), some (am_i l), some (am_i q), none, none] [] (am_K0, am_sr σ 91 u) := by
    intro u F l q hu hF hRF
    refine S_X11_openRule_46 (h_isGood _ (by rw [am_sr_at]; exact hF)) ?_
    rintro _ _ ⟨rfl, rfl⟩
    refine S_X11_openRule_50 (by decide) (fun z => absurd rfl z) (fun _ => ?_)
    exact S_X11_openRule_53 (FO u F hu hF hRF)
  have F19 : ∀ (u : Int → Int) (F l q : Int), am_kpt rk (σ.1 91) u → rh ts u F → R = .inl F → am_X (am_FV G (d + 7) (fun σ' => rm_O σ p R σ')) mX11_openRule (0, 0) 19 [some (am_r (some 91)), some (am_i l), some (am_i q), none, none] [] (am_K0, am_sr σ 91 u) := by
    intro u F l q hu hF hRF
    refine S_X11_openRule_19 (h_isGood _ (by rw [am_sr_at]; exact hF)) ?_
    rintro _ _ ⟨rfl, rfl⟩
    exact S_X11_openRule_23 (by decide) (fun _ => F46 u F l q hu hF hRF) (fun z => absurd rfl z)
  refine S_X11_openRule_0 (r_letter _ hts hg) ?_
  rintro l _ ⟨u, rfl, hu, ⟨l1, l2, hF⟩ | ⟨l1, l2, l3, hg⟩⟩
  · rw [if_pos l2] at hR
    refine S_X11_openRule_5 (h_digit _ (by omega) (by rw [e0 u 94 (by decide), t94]; omega) ((e0 u 92 (by decide)).trans hts) (by rw [am_sr_at]; exact hF)) ?_
    rintro _ _ ⟨rfl, rfl⟩
    exact F19 u _ l _ hu hF hR.symm
  rw [if_neg (show ¬ sl_let ts n (tk_sp ts n p) = -1 by omega), ← l1] at hR
  refine S_X11_openRule_5 (r_digit _ (by omega) (by rw [e0 u 94 (by decide), t94]; omega) ((e0 u 92 (by decide)).trans hts) (by rw [am_sr_at]; exact hg)) ?_
  intro q τ hq
  rw [e0 u 94 (by decide), t94] at hq
  rcases hq with ⟨q1, q2, v, rfl, hv, hF⟩ | ⟨q1, q2, q3, rfl⟩
  · rw [if_pos q2] at hR
    rw [am_sr_at] at hv
    rw [am_sr_sr]
    exact F19 v _ l q (hu.trans hv) hF hR.symm
  rw [if_neg (show ¬ sl_dig ts n 0 (pm_S P - 1) (tk_sp ts n (tk_sp ts n p)) < 0 by omega), ← q1] at hR
  refine S_X11_openRule_19 (r_isGood _ (by rw [am_sr_at]; exact hg)) ?_
  rintro _ _ ⟨rfl, rfl⟩
  refine S_X11_openRule_23 (by decide) (fun z => absurd z (by decide)) (fun _ => ?_)
  refine S_X11_openRule_26 (c_openAt _) ?_
  rintro _ _ ⟨rfl, rfl⟩
  have hoT := poT l q
  have hb := (hT.2.1 l q (by omega) (by omega) (by omega) (by omega)).1
  refine S_X11_openRule_36 sh_98 (by omega) (by omega) (by rw [e0 u 98 (by decide), hb]; omega) (fun z => ?_) (fun z => ?_)
  rotate_left
  · rw [e0 u 98 (by decide), hb] at z
    rw [if_pos z] at hR
    refine S_X11_openRule_41 (r_fails _ (by omega) ((e0 u 92 (by decide)).trans hts) (by rw [am_sr_at]; exact hg)) ?_
    rintro _ ⟨v, rfl, hv, hF⟩
    rw [am_sr_at] at hv
    rw [am_sr_sr]
    exact F46 v _ l q (hu.trans hv) hF hR.symm
  rw [e0 u 98 (by decide), hb] at z
  rw [if_neg (fun y => y z)] at hR
  refine S_X11_openRule_46 (r_isGood _ (by rw [am_sr_at]; exact hg)) ?_
  rintro _ _ ⟨rfl, rfl⟩
  refine S_X11_openRule_50 (by decide) (fun _ => ?_) (fun y => absurd (by decide) y)
  refine S_X11_openRule_54 (r_goes _ ((e0 u 92 (by decide)).trans hts) (by rw [am_sr_at]; exact hg)) ?_
  rintro _ ⟨v, rfl, hv, hg⟩
  rw [am_sr_at] at hv
  rw [am_sr_sr]
  have hu := hu.trans hv
  -- the writing
  have W80 : ∀ (u : Int → Int) (to mk : Int), am_kpt rk (σ.1 91) u → (∀ τ, am_only rm_A σ τ → rm_low σ τ → τ.1 91 = u → (∀ a, a ≠ 91 → a ≠ 98 → a ≠ 99 → τ.1 a = σ.1 a) → τ.1 98 = am_u1 (σ.1 98) (18 * 5 + 6 * l + q) to → τ.1 99 = am_u1 (σ.1 99) (18 * 5 + 6 * l + q) mk → rm_O σ p R τ) → am_X (am_FV G (d + 7) (fun σ' => rm_O σ p R σ')) mX11_openRule (0, 0) 80 [some (am_r (some 91)), some (am_i l), some (am_i q), some (am_i to), some (am_i mk)] [] (am_K0, am_sr σ 91 u) := by
    intro u to mk hu hk
    refine S_X11_openRule_80 (c_openAt _) ?_
    rintro _ _ ⟨rfl, rfl⟩
    refine S_X11_openRule_90 sh_98 (by omega) (by omega) ?_
    refine S_X11_openRule_92 (c_openAt _) ?_
    rintro _ _ ⟨rfl, rfl⟩
    refine S_X11_openRule_102 sh_99 (by omega) (by omega) ?_
    refine S_X11_openRule_105 ?_
    refine hk _ (((am_only.sr (by simp)).trans (am_only.pI (by simp))).trans (am_only.pI (by simp))) (((rm_low.of (fun a a1 a2 => e0 u a (by omega))).trans (rm_low.pI (show (90 : Int) ≤ _ by omega))).trans (rm_low.pI (show (90 : Int) ≤ _ by omega))) ?_ ?_ ?_ ?_
    · rw [am_pI_of (by decide), am_pI_of (by decide), am_sr_at]
    · intro a y1 y2 y3
      rw [am_pI_of y3, am_pI_of y2, am_sr_of y1]
    · rw [am_pI_of (by decide), am_pI_row, am_sr_of (by decide)]
    · rw [am_pI_row, am_pI_of (by decide), am_sr_of (by decide)]
  have W80F : ∀ (u : Int → Int) (to mk F : Int), am_kpt rk (σ.1 91) u → rh ts u F → R = .inl F → am_X (am_FV G (d + 7) (fun σ' => rm_O σ p R σ')) mX11_openRule (0, 0) 80 [some (am_r (some 91)), some (am_i l), some (am_i q), some (am_i to), some (am_i mk)] [] (am_K0, am_sr σ 91 u) := by
    intro u to mk F hu hF hRF
    refine W80 u to mk hu (fun τ o1 o2 o3 o4 o5 o6 => ?_)
    rw [hRF]
    refine ⟨⟨o1, o2, ?_, o4 96 (by decide) (by decide) (by decide)⟩, ?_⟩
    · rw [o3]
      exact fun j hj => hu j (fun z => hj (by revert z; simp; omega))
    · show rh (σ.1 92) (τ.1 91) F
      rw [o3, hts]
      exact hF
  refine S_X11_openRule_58 (r_number _ (by omega) (by rw [e0 v 94 (by decide), t94]; omega) ((e0 v 92 (by decide)).trans hts) (by rw [am_sr_at]; exact hg)) ?_
  rintro to _ ⟨w, rfl, hw, hto⟩
  rw [e0 v 94 (by decide), t94] at hto
  rw [am_sr_at] at hw
  rw [am_sr_sr]
  have hu := hu.trans hw
  rcases hto with ⟨o1, o2, hF⟩ | ⟨o1, o2, o3, hg⟩
  · rw [if_pos o2] at hR
    refine S_X11_openRule_72 (h_number _ (by omega) (by omega) ((e0 w 92 (by decide)).trans hts) (by rw [am_sr_at]; exact hF)) ?_
    rintro _ _ ⟨rfl, rfl⟩
    exact W80F w to _ _ hu hF hR.symm
  rw [if_neg (show ¬ sl_dig ts n 0 (pm_S P - 1) (tk_sp ts n (tk_sp ts n (tk_sp ts n p))) < 0 by omega), ← o1] at hR
  refine S_X11_openRule_72 (r_number _ (by omega) (by omega) ((e0 w 92 (by decide)).trans hts) (by rw [am_sr_at]; exact hg)) ?_
  rintro mk _ ⟨x, rfl, hx, hmk⟩
  rw [am_sr_at] at hx
  rw [am_sr_sr]
  have hu := hu.trans hx
  rcases hmk with ⟨k1, k2, hF⟩ | ⟨k1, k2, k3, hg⟩
  · rw [if_pos k2] at hR
    exact W80F x to mk _ hu hF hR.symm
  rw [if_neg (show ¬ sl_dig ts n 0 5 (tk_sp ts n (tk_sp ts n (tk_sp ts n (tk_sp ts n p)))) < 0 by omega), ← k1] at hR
  refine W80 x to mk hu (fun τ r1 r2 r3 r4 r5 r6 => ?_)
  rw [← hR]
  have i0 := tk_in (bs := ts) hp.2
  have i1 := tk_in (bs := ts) (n := n) (p := tk_sp ts n p) (by omega)
  have i2 := tk_in (bs := ts) (n := n) (p := tk_sp ts n (tk_sp ts n p)) (by omega)
  have i3 := tk_in (bs := ts) (n := n) (p := tk_sp ts n (tk_sp ts n (tk_sp ts n p))) (by omega)
  have i4 := tk_in (bs := ts) (n := n) (p := tk_sp ts n (tk_sp ts n (tk_sp ts n (tk_sp ts n p)))) (by omega)
  have h24' : pm_nO P + pm_nC P + pm_nE P < 24 := h24
  have pnv : pm_n P = pm_nO P + pm_nC P + pm_nE P := rfl
  refine ⟨⟨r1, r2, ?_, r4 96 (by decide) (by decide) (by decide)⟩, ?_⟩
  · rw [r3]
    exact fun j hj => hu j (fun z => hj (by revert z; simp; omega))
  show rg (σ.1 92) (σ.1 91 3) (τ.1 91) _ ∧ _ ∧ _ ∧ _
  rw [r3, hts, hn]
  refine ⟨hg, by omega, rm_T_addO (by omega) (by omega) (by omega) (by omega) hT hown r4 r5 r6, ?_⟩
  refine ⟨⟨pS1, pS2⟩, ⟨pR1, pR2⟩, ⟨show 0 ≤ pm_nO P + 1 by omega, pn2, pn3, show pm_nO P + 1 + pm_nC P + pm_nE P ≤ 24 by omega⟩, pc, pe, fun l' q' => ?_, fun l' q' => ?_, pcT⟩
  · show -1 ≤ pm_u2 (pm_oT P) l q to l' q' ∧ pm_u2 (pm_oT P) l q to l' q' < pm_S P
    have := poT l' q'
    unfold pm_u2
    split <;> omega
  · show 0 ≤ pm_u2 (pm_oM P) l q mk l' q' ∧ pm_u2 (pm_oM P) l q mk l' q' ≤ 5
    have := poM l' q'
    unfold pm_u2
    split <;> omega
end
