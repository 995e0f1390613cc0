section
theorem rm_T_addE {σ τ : am_D} {P : am_P} {q own : Int} {acc : List Int} (hno : pm_eX P q = none) (hP : pm_ok P) (hT : rm_T σ 5 P) (hq : 0 ≤ q ∧ q < 6) (ho : 0 ≤ own) (h94 : τ.1 94 = σ.1 94) (h95 : τ.1 95 = σ.1 95) (h98 : τ.1 98 = σ.1 98) (h99 : τ.1 99 = σ.1 99) (h100 : τ.1 100 = σ.1 100) (h101 : τ.1 101 = σ.1 101) (h102 : τ.1 102 = am_u1 (σ.1 102) (30 + q) (pm_n P)) (h97 : 0 ≤ τ.1 97 5 ∧ τ.1 97 5 ≤ 18 * (pm_n P + 1)) (h105 : am_kpt [120 + pm_n P] (σ.1 105) (τ.1 105)) (hown : τ.1 105 (120 + pm_n P) = own) (hx : ∀ e w, e < 3 * pm_n P → rm_X σ 5 e w → rm_X τ 5 e w) (hn : rm_X τ 5 (3 * pm_n P) acc) : rm_T τ 5 (pm_addE P q acc own) := by
  obtain ⟨⟨a0, a1⟩, b, c, e, g, w1, w2, w3, w4⟩ := hT
  obtain ⟨⟨pS1, pS2⟩, ⟨pR1, pR2⟩, ⟨pn1, pn2, pn3, pn4⟩, pc, pe, poT, poM, pcT⟩ := id hP
  have hn1 : pm_n (pm_addE P q acc own) = pm_n P + 1 := by show pm_nO P + pm_nC P + (pm_nE P + 1) = pm_nO P + pm_nC P + pm_nE P + 1; omega
  have pnv : pm_n P = pm_nO P + pm_nC P + pm_nE P := rfl
  unfold rm_T
  rw [hn1, h94, h95, h98, h99, h100, h101, h102]
  refine ⟨⟨a0, a1⟩, b, ?_, ?_, h97, ?_⟩
  · intro l' q' k' x1 x2 x3 x4 x5 x6
    refine ⟨(c l' q' k' x1 x2 x3 x4 x5 x6).1, fun z => ?_⟩
    obtain ⟨y1, y2, y3⟩ := (c l' q' k' x1 x2 x3 x4 x5 x6).2 z
    have hlen := (pcT l' q' k').2.2 z
    refine ⟨y1, by omega, fun i hi => hx _ _ ?_ (y3 i hi)⟩
    have hi : i < (pm_cX P l' q' k').length := hi
    omega
  · intro q' x1 x2
    show rm_XE τ 5 (pm_n P + 1) (am_u1 (σ.1 102) (30 + q) (pm_n P) (6 * 5 + q')) (am_u1 (pm_eX P) q (some acc) q')
    by_cases z : q' = q
    · rw [z, show (6 : Int) * 5 + q = 30 + q by omega, am_u1_eq, am_u1_eq]
      exact ⟨by omega, by omega, hn⟩
    · rw [am_u1_ne (by omega), am_u1_ne z]
      have := e q' x1 x2
      cases hh : pm_eX P q' with
      | none => rw [hh] at this; exact this
      | some w =>
        rw [hh] at this
        obtain ⟨y1, y2, y3⟩ := (show 0 ≤ σ.1 102 (6 * 5 + q') ∧ σ.1 102 (6 * 5 + q') < pm_n P ∧ rm_X σ 5 (3 * σ.1 102 (6 * 5 + q')) w from this)
        exact ⟨y1, by omega, hx _ _ (by omega) y3⟩
  · unfold rm_W
    rw [h101, h102]
    have hc5 : ∀ l' q' k' : Int, 0 ≤ l' → l' < 3 → 0 ≤ q' → q' < 6 → 0 ≤ k' → k' < 6 → pm_cT P l' q' k' ≠ -1 → τ.1 105 (24 * 5 + σ.1 101 (108 * 5 + 36 * l' + 6 * q' + k')) = σ.1 105 (24 * 5 + σ.1 101 (108 * 5 + 36 * l' + 6 * q' + k')) := by
      intro l' q' k' x1 x2 x3 x4 x5 x6 z
      obtain ⟨y1, y2, y3⟩ := (c l' q' k' x1 x2 x3 x4 x5 x6).2 z
      exact h105 _ (by rw [List.mem_singleton]; omega)
    have he5 : ∀ q' : Int, 0 ≤ q' → q' < 6 → pm_eX P q' ≠ none → q' ≠ q ∧ τ.1 105 (24 * 5 + am_u1 (σ.1 102) (30 + q) (pm_n P) (6 * 5 + q')) = σ.1 105 (24 * 5 + σ.1 102 (6 * 5 + q')) := by
      intro q' x1 x2 z
      have hne : q' ≠ q := fun y => z (y ▸ hno)
      refine ⟨hne, ?_⟩
      rw [am_u1_ne (by omega)]
      have := e q' x1 x2
      cases hh : pm_eX P q' with
      | none => exact absurd hh z
      | some w =>
        rw [hh] at this
        obtain ⟨y1, y2, y3⟩ := (show 0 ≤ σ.1 102 (6 * 5 + q') ∧ σ.1 102 (6 * 5 + q') < pm_n P ∧ rm_X σ 5 (3 * σ.1 102 (6 * 5 + q')) w from this)
        exact h105 _ (by rw [List.mem_singleton]; omega)
    have hnw : τ.1 105 (24 * 5 + am_u1 (σ.1 102) (30 + q) (pm_n P) (6 * 5 + q)) = own := by
      rw [show (6 : Int) * 5 + q = 30 + q by omega, am_u1_eq]
      exact hown
    refine ⟨fun l' q' k' x1 x2 x3 x4 x5 x6 z => ?_, fun q' x1 x2 z => ?_, ?_, ?_⟩
    · rw [hc5 l' q' k' x1 x2 x3 x4 x5 x6 z]
      exact w1 l' q' k' x1 x2 x3 x4 x5 x6 z
    · show 0 ≤ _ ∧ _ ≤ max (pm_mE P) own
      by_cases y : q' = q
      · rw [y, hnw]
        omega
      · have z : pm_eX P q' ≠ none := by
          have z' : am_u1 (pm_eX P) q (some acc) q' ≠ none := z
          rwa [am_u1_ne y] at z'
        rw [(he5 q' x1 x2 z).2]
        have := w2 q' x1 x2 z
        omega
    · rcases w3 with h | ⟨l', q', k', x1, x2, x3, x4, x5⟩
      · exact Or.inl h
      · exact Or.inr ⟨l', q', k', x1, x2, x3, x4, by rw [hc5 l' q' k' x1.1 x1.2 x2.1 x2.2 x3.1 x3.2 x4]; exact x5⟩
    · show max (pm_mE P) own = 0 ∨ ∃ q' : Int, (0 ≤ q' ∧ q' < 6) ∧ am_u1 (pm_eX P) q (some acc) q' ≠ none ∧ _ = max (pm_mE P) own
      by_cases y : own ≤ pm_mE P
      · rcases w4 with h | ⟨q', x1, x2, x3⟩
        · exact Or.inl (by omega)
        · obtain ⟨y1, y2⟩ := he5 q' x1.1 x1.2 x2
          exact Or.inr ⟨q', x1, by rw [am_u1_ne y1]; exact x2, by rw [y2]; omega⟩
      · exact Or.inr ⟨q, hq, by rw [am_u1_eq]; exact (fun z => nomatch z), by rw [hnw]; omega⟩
theorem sl_ex_le {bs : Int → Int} {n rg : Int} {stk : Bool} : ∀ (f : Nat) (p dp own : Int) (seen acc : List Int) (p' own' : Int) (seen' acc' : List Int), p ≤ n → sl_ex bs n rg stk f p dp own seen acc = .inr (p', own', seen', acc') → p ≤ p' := by
  intro f
  induction f with
  | zero =>
    intro p dp own seen acc p' own' seen' acc' hp h
    unfold sl_ex at h
    injection h with h
    injection h with h _
    omega
  | succ f ih =>
    intro p dp own seen acc p' own' seen' acc' hp h
    have hin := tk_in (bs := bs) hp
    have hin2 := tk_in (bs := bs) (n := n) (p := tk_sp bs n p) (by omega)
    unfold sl_ex at h
    by_cases h60 : tk_k bs n p = 60
    · rw [if_pos h60] at h
      split at h
      · exact nomatch h
      · split at h
        · exact nomatch h
        · have := ih _ _ _ _ _ _ _ _ _ (by omega) h
          omega
    · rw [if_neg h60] at h
      by_cases h62 : tk_k bs n p = 62 ∧ 0 < dp
      · rw [if_pos h62] at h
        have := ih _ _ _ _ _ _ _ _ _ (by omega) h
        omega
      · rw [if_neg h62] at h
        by_cases hw : sl_w1 bs n 120 p = true ∨ (stk = true ∧ sl_w1 bs n 121 p = true)
        · rw [if_pos hw] at h
          by_cases hd : sl_dig bs n 0 (rg - 1) (tk_sp bs n p) < 0
          · rw [if_pos hd] at h
            exact nomatch h
          · rw [if_neg hd] at h
            by_cases hm : (if sl_w1 bs n 120 p = true then 4 else 8) + sl_dig bs n 0 (rg - 1) (tk_sp bs n p) ∈ seen
            · rw [if_pos hm] at h
              exact nomatch h
            · rw [if_neg hm] at h
              have := ih _ _ _ _ _ _ _ _ _ (by omega) h
              omega
        · rw [if_neg hw] at h
          split at h
          · exact nomatch h
          · injection h with h
            injection h with h _
            omega
variable {G : am_G} {σ : am_D}
theorem rx_seen_0 : rx_seen 0 [] := ⟨by omega, by omega, fun v _ => by rw [am_bt_0, am_bt_0]; simp⟩
theorem c_rEndsRule (d : Nat) {p : Int} {P : am_P} (hn6 : σ.1 91 3 ≤ 600) (hp : 0 ≤ p ∧ p ≤ σ.1 91 3) (hk : tk_k (σ.1 92) (σ.1 91 3) p ≠ 0) (hg : rg (σ.1 92) (σ.1 91 3) (σ.1 91) (tk_sp (σ.1 92) (σ.1 91 3) p)) (hT : rm_T σ 5 P) (hP : pm_ok P) (h24 : pm_n P < 24) (hown : σ.1 105 (120 + pm_n P) = 0) (hcame : σ.1 91 21 = 0) : am_MV G (d + 22) mX11_endsRule [am_r (some 91), am_i (pm_n P)] σ (fun σ' => rm_O σ p (sm_end (σ.1 92) (σ.1 91 3) P p) σ') := by
  obtain ⟨ts, hts⟩ : ∃ ts, σ.1 92 = ts := ⟨_, rfl⟩
  obtain ⟨n, hn⟩ : ∃ n, σ.1 91 3 = n := ⟨_, rfl⟩
  generalize hR : sm_end (σ.1 92) (σ.1 91 3) P p = R
  rw [hts, hn] at hR hg hk
  rw [hn] at hp hn6
  unfold sm_end at hR
  obtain ⟨⟨pS1, pS2⟩, ⟨pR1, pR2⟩, ⟨pn1, pn2, pn3, pn4⟩, pc, pe, poT, poM, pcT⟩ := id hP
  have pnv : pm_n P = pm_nO P + pm_nC P + pm_nE P := rfl
  have t94 := hT.1.1
  have t95 := hT.1.2
  have t97 := hT.2.2.2.2.1
  have hlt := tk_lt hk
  refine am_M.go (by decide) (Nat.le_of_ble_eq_true rfl) rfl ?_
  have e0 : ∀ u a, a ≠ 91 → (am_sr σ 91 u).1 a = σ.1 a := fun u a ha => am_sr_of ha
  have k5 : ∀ u, am_kpt rk (σ.1 91) u → am_kpt [2, 4, 5, 6, 21] (σ.1 91) u := fun u hu j hj => hu j (fun z => hj (by revert z; simp; omega))
  have FO : ∀ (u : Int → Int) (F : Int), am_kpt rk (σ.1 91) u → rh ts u F → R = .inl F → rm_O σ p R (am_sr σ 91 u) := by
    intro u F hu hF hRF
    rw [hRF]
    refine ⟨⟨am_only.sr (by simp), rm_low.of (fun a a1 a2 => e0 u a (by omega)), by rw [am_sr_at]; exact k5 u hu, e0 u 96 (by decide)⟩, ?_⟩
    show rh (σ.1 92) ((am_sr σ 91 u).1 91) F
    rw [am_sr_at, hts]
    exact hF
  have F39 : ∀ (u : Int → Int) (F q : Int), am_kpt rk (σ.1 91) u → rh ts u F → R = .inl F → am_X (am_FV G (d + 22) (fun σ' => rm_O σ p R σ')) mX11_endsRule (0, 0) 39 [some (am_r (some 91)), some (am_i (pm_n P)), some (am_i q)] [] (am_K0, am_sr σ 91 u) := by
    intro u F q hu hF hRF
    refine S_X11_endsRule_39 (h_isGood _ (by rw [am_sr_at]; exact hF)) ?_
    rintro _ _ ⟨rfl, rfl⟩
    refine S_X11_endsRule_43 (by decide) (fun z => absurd rfl z) (fun _ => ?_)
    exact S_X11_endsRule_46 (FO u F hu hF hRF)
  refine S_X11_endsRule_0 (r_digit _ (by omega) (by rw [t94]; omega) hts hg) ?_
  intro q τ hq
  rw [t94] at hq
  rcases hq with ⟨q1, q2, v, rfl, hv, hF⟩ | ⟨q1, q2, q3, rfl⟩
  · rw [if_pos q2] at hR
    refine S_X11_endsRule_14 (h_isGood _ (by rw [am_sr_at]; exact hF)) ?_
    rintro _ _ ⟨rfl, rfl⟩
    exact S_X11_endsRule_18 (by decide) (fun _ => F39 v _ q hv hF hR.symm) (fun z => absurd rfl z)
  rw [if_neg (show ¬ sl_dig ts n 0 (pm_S P - 1) (tk_sp ts n p) < 0 by omega), ← q1] at hR
  refine S_X11_endsRule_14 (r_isGood _ hg) ?_
  rintro _ _ ⟨rfl, rfl⟩
  refine S_X11_endsRule_18 (by decide) (fun z => absurd z (by decide)) (fun _ => ?_)
  have hE := hT.2.2.2.1 q (by omega) (by omega)
  rw [show (6 : Int) * 5 + q = 30 + q by omega] at hE
  cases hq0 : pm_eX P q with
  | some w =>
    rw [hq0] at hE
    obtain ⟨y1, y2, y3⟩ := (show 0 ≤ σ.1 102 (30 + q) ∧ σ.1 102 (30 + q) < pm_n P ∧ _ from hE)
    rw [if_pos (by rw [hq0]; exact fun z => nomatch z)] at hR
    refine S_X11_endsRule_21 (by omega) (by omega) (by omega) (fun z => absurd z (by omega)) (fun _ => ?_)
    refine S_X11_endsRule_34 (r_fails _ (by omega) hts hg) ?_
    rintro _ ⟨v, rfl, hv, hF⟩
    exact F39 v _ q hv hF hR.symm
  | none =>
    rw [hq0] at hE
    have hE' : σ.1 102 (30 + q) = -1 := hE
    rw [if_neg (by rw [hq0]; exact fun z => z rfl)] at hR
    refine S_X11_endsRule_21 (by omega) (by omega) (by omega) (fun _ => ?_) (fun z => absurd hE' z)
    refine S_X11_endsRule_39 (r_isGood _ hg) ?_
    rintro _ _ ⟨rfl, rfl⟩
    refine S_X11_endsRule_43 (by decide) (fun _ => ?_) (fun z => absurd (by decide) z)
    refine S_X11_endsRule_47 (r_goes _ hts hg) ?_
    rintro _ ⟨u, rfl, hu, hg⟩
    refine S_X11_endsRule_51 (r_sign _ (by omega) ((e0 u 92 (by decide)).trans hts) (by rw [am_sr_at]; exact hg)) ?_
    rintro _ ⟨v, rfl, hv, hs⟩
    rw [am_sr_at] at hv
    rw [am_sr_sr]
    have hu := hu.trans hv
    rcases hs with ⟨s1, hF⟩ | ⟨s1, hg⟩
    · rw [if_pos s1] at hR
      refine S_X11_endsRule_57 (h_expression (ts := ts) _ (by omega) (by omega) (by rw [am_sr_at]; exact hF)) ?_
      rintro _ rfl
      refine S_X11_endsRule_64 (by omega) (by omega) ?_
      refine S_X11_endsRule_74 ?_
      rw [← hR]
      refine ⟨⟨(((am_only.sr (by simp)).trans (am_only.pI (by simp))).trans (am_only.pI (by simp))).trans (am_only.pI (by simp)), (((rm_low.of (fun a a1 a2 => e0 v a (by omega))).trans (rm_low.pI (show (360 : Int) ≤ _ by omega))).trans (rm_low.pI (show (360 : Int) ≤ _ by omega))).trans (rm_low.pI (show (30 : Int) ≤ _ by omega)), ?_, ?_⟩, ?_⟩
      · rw [am_pI_of (by decide), am_pI_of (by decide), am_pI_of (by decide), am_sr_at]
        exact k5 v hu
      · rw [am_pI_of (by decide), am_pI_of (by decide), am_pI_of (by decide), am_sr_of (by decide)]
      · show rh (σ.1 92) _ _
        rw [am_pI_of (by decide), am_pI_of (by decide), am_pI_of (by decide), am_sr_at, hts]
        exact hF
    rw [if_neg (fun z => z s1)] at hR
    have hrem := sl_rem_rg []
    have i0 := tk_in (bs := ts) hp.2
    have i1 := tk_in (bs := ts) (n := n) (p := tk_sp ts n p) (by omega)
    have i2 := tk_in (bs := ts) (n := n) (p := tk_sp ts n (tk_sp ts n p)) (by omega)
    have v3 : v 3 = n := hg.2.2.1
    have hx := c_rExpression (G := G) (σ := am_sr σ 91 v) d (rl := pm_n P) (rr := 0) (B := σ.1 97 5 + 18) (e := 1) (p := tk_sp ts n (tk_sp ts n (tk_sp ts n p))) (own := 0) (seen := []) (stk := false) (by rw [e0 v 97 (by decide)]; exact t97.1) (by omega) (by rw [am_sr_at, v3]; exact hn6) (by omega) (by omega) (by rw [e0 v 95 (by decide), t95]; omega) (Or.inr ⟨rfl, rfl⟩) (by rw [am_sr_at, e0 v 92 (by decide), hts, v3]; exact hg) (by rw [e0 v 105 (by decide)]; exact hown) (by omega) (by rw [am_sr_at, hu 21 (by decide), hcame]; exact rx_seen_0) (by rw [e0 v 97 (by decide)]; omega)
    rw [e0 v 92 (by decide), am_sr_at, e0 v 95 (by decide), t95, v3, hts] at hx
    refine S_X11_endsRule_57 hx ?_
    intro τ hpost
    generalize hX : sl_ex ts n (pm_R P) false 700 (tk_sp ts n (tk_sp ts n (tk_sp ts n p))) 0 0 [] [] = X at hpost hR
    refine S_X11_endsRule_64 (by omega) (by omega) ?_
    refine S_X11_endsRule_74 ?_
    have base : am_only rm_A σ (am_pI (am_sr σ 91 v) 103 (360 + 3 * pm_n P + 0) ((am_sr σ 91 v).1 97 5)) ∧ rm_low σ (am_pI (am_sr σ 91 v) 103 (360 + 3 * pm_n P + 0) ((am_sr σ 91 v).1 97 5)) := ⟨(am_only.sr (by simp)).trans (am_only.pI (by simp)), (rm_low.of (fun a a1 a2 => e0 v a (by omega))).trans (rm_low.pI (show (360 : Int) ≤ _ by omega))⟩
    have g0 : ∀ a, a ≠ 91 → a ≠ 103 → (am_pI (am_sr σ 91 v) 103 (360 + 3 * pm_n P + 0) ((am_sr σ 91 v).1 97 5)).1 a = σ.1 a := fun a y1 y2 => by rw [am_pI_of y2, e0 v a y1]
    have g91 : (am_pI (am_sr σ 91 v) 103 (360 + 3 * pm_n P + 0) ((am_sr σ 91 v).1 97 5)).1 91 = v := by rw [am_pI_of (by decide), am_sr_at]
    cases X with
    | inl F =>
      obtain ⟨τ1, hF, rfl⟩ := hpost
      rw [← hR]
      obtain ⟨l1, l2, l3⟩ := hF.low (by omega)
      obtain ⟨⟨a1, a2, a3⟩, -⟩ := hF
      rw [g91] at a3
      rw [g0 92 (by decide) (by decide)] at a2
      refine ⟨⟨((base.1.trans l1).trans (am_only.pI (by simp))).trans (am_only.pI (by simp)), ((base.2.trans l2).trans (rm_low.pI (show (360 : Int) ≤ _ by omega))).trans (rm_low.pI (show (30 : Int) ≤ _ by omega)), ?_, ?_⟩, ?_⟩
      · rw [am_pI_of (by decide), am_pI_of (by decide)]
        exact (k5 v hu).trans a3
      · rw [am_pI_of (by decide), am_pI_of (by decide), l3, g0 96 (by decide) (by decide)]
      · show rh (σ.1 92) _ _
        rw [am_pI_of (by decide), am_pI_of (by decide)]
        exact a2
    | inr r =>
      obtain ⟨p', own', seen', acc⟩ := r
      obtain ⟨τ1, hD, rfl⟩ := hpost
      rw [← hR]
      obtain ⟨l1, l2, l3⟩ := hD.low (by omega) (by rw [g0 97 (by decide) (by decide)]; exact t97.1)
      have hxo : ∀ e w, e < 3 * pm_n P → rm_X σ 5 e w → rm_X (am_pI τ1 104 (360 + 3 * pm_n P + 0) (τ1.1 97 5)) 5 e w := fun e w he hw => rm_X_D (σ := am_sr σ 91 v) (by rw [e0 v 97 (by decide)]; exact t97.1) (by omega) hD (rm_X_of (e0 v 103 (by decide)) (e0 v 104 (by decide)) (e0 v 97 (by decide)) (e0 v 106 (by decide)) hw)
      have hxn : rm_X (am_pI τ1 104 (360 + 3 * pm_n P + 0) (τ1.1 97 5)) 5 (3 * pm_n P) acc := rm_X_new (σ := am_sr σ 91 v) (by rw [e0 v 97 (by decide)]; exact t97.1) (by omega) hD
      obtain ⟨⟨a1, a2, a3⟩, ⟨b1, b2, b3, b4, b5⟩, ⟨c1, c2⟩, e1, e2, e3⟩ := hD
      rw [g91] at a3
      rw [g0 92 (by decide) (by decide), g91, v3] at a2
      rw [g0 97 (by decide) (by decide)] at c2
      rw [g0 105 (by decide) (by decide)] at b2
      have hrem' := sl_rem_rg seen'
      have fin : ∀ a, a ≠ 91 → a ≠ 97 → a ≠ 102 → a ≠ 103 → a ≠ 104 → a ≠ 105 → a ≠ 106 → (am_pI (am_pI τ1 104 (360 + 3 * pm_n P + 0) (τ1.1 97 5)) 102 (30 + q) (pm_n P)).1 a = σ.1 a := fun a y1 y2 y3 y4 y5 y6 y7 => by rw [am_pI_of y3, am_pI_of y5, a1.1 a (by simp; omega), g0 a y1 y4]
      have hf2 : ∀ e w, rm_X (am_pI τ1 104 (360 + 3 * pm_n P + 0) (τ1.1 97 5)) 5 e w → rm_X (am_pI (am_pI τ1 104 (360 + 3 * pm_n P + 0) (τ1.1 97 5)) 102 (30 + q) (pm_n P)) 5 e w := fun e w => rm_X_of (am_pI_of (by decide)) (am_pI_of (by decide)) (am_pI_of (by decide)) (am_pI_of (by decide))
      have hpp : tk_sp ts n (tk_sp ts n (tk_sp ts n p)) ≤ p' := sl_ex_le _ _ _ _ _ _ _ _ _ _ (by omega) hX
      refine ⟨⟨((base.1.trans l1).trans (am_only.pI (by simp))).trans (am_only.pI (by simp)), ((base.2.trans l2).trans (rm_low.pI (show (360 : Int) ≤ _ by omega))).trans (rm_low.pI (show (30 : Int) ≤ _ by omega)), ?_, ?_⟩, ?_⟩
      · rw [am_pI_of (by decide), am_pI_of (by decide)]
        exact (k5 v hu).trans a3
      · rw [am_pI_of (by decide), am_pI_of (by decide), l3, g0 96 (by decide) (by decide)]
      · show rg (σ.1 92) (σ.1 91 3) _ _ ∧ _ ∧ _ ∧ _
        rw [am_pI_of (by decide), am_pI_of (by decide), hn]
        refine ⟨a2, by omega, rm_T_addE (σ := σ) hq0 hP hT (by omega) b3 (fin _ (by decide) (by decide) (by decide) (by decide) (by decide) (by decide) (by decide)) (fin _ (by decide) (by decide) (by decide) (by decide) (by decide) (by decide) (by decide)) (fin _ (by decide) (by decide) (by decide) (by decide) (by decide) (by decide) (by decide)) (fin _ (by decide) (by decide) (by decide) (by decide) (by decide) (by decide) (by decide)) (fin _ (by decide) (by decide) (by decide) (by decide) (by decide) (by decide) (by decide)) (fin _ (by decide) (by decide) (by decide) (by decide) (by decide) (by decide) (by decide)) ?_ ?_ ?_ ?_ (fun e w he hw => hf2 _ _ (hxo e w he hw)) (hf2 _ _ hxn), ?_⟩
        · rw [am_pI_row, am_pI_of (by decide), a1.1 102 (by decide), g0 102 (by decide) (by decide)]
        · rw [am_pI_of (by decide), am_pI_of (by decide)]; omega
        · rw [am_pI_of (by decide), am_pI_of (by decide)]; exact b2
        · rw [am_pI_of (by decide), am_pI_of (by decide)]; exact b1
        · exact ⟨⟨pS1, pS2⟩, ⟨pR1, pR2⟩, ⟨pn1, pn2, show 0 ≤ pm_nE P + 1 by omega, show pm_nO P + pm_nC P + (pm_nE P + 1) ≤ 24 by omega⟩, pc, ⟨show 0 ≤ max (pm_mE P) own' by omega, show max (pm_mE P) own' ≤ 6 by omega⟩, poT, poM, pcT⟩
end
