section
/-- while the reference reads the EXPRESSIONS of a CLOSE RULE -/
def rm_L (σ : am_D) (rl p0 p own : Int) (seen : List Int) (xs : List (List Int)) (τ : am_D) : Prop :=
  (am_only rm_A σ τ ∧ rm_low σ τ ∧ τ.1 96 = σ.1 96) ∧ (rg (σ.1 92) (σ.1 91 3) (τ.1 91) p ∧ p0 < p ∧ am_kpt [2, 4, 5, 6, 21] (σ.1 91) (τ.1 91)) ∧ (τ.1 105 (120 + rl) = own ∧ am_kpt [120 + rl] (σ.1 105) (τ.1 105) ∧ 0 ≤ own ∧ own ≤ 6 ∧ rx_seen (τ.1 91 21) seen) ∧ (0 ≤ τ.1 97 5 ∧ τ.1 97 5 + 2 * (6 - own) + sl_rem seen ≤ σ.1 97 5 + 18) ∧ (∀ a, a ∈ [94, 95, 98, 99, 100, 101, 102] → τ.1 a = σ.1 a) ∧ (∀ e w, e < 3 * rl → rm_X σ 5 e w → rm_X τ 5 e w) ∧ ∀ i : Nat, i < xs.length → rm_X τ 5 (3 * rl + i) (xs.getD i [])
variable {G : am_G} {σ : am_D}
theorem rm_L.tok {rl p0 p p' own : Int} {seen : List Int} {xs : List (List Int)} {τ : am_D} {u : Int → Int} (h : rm_L σ rl p0 p own seen xs τ) (hu : am_kpt rk (τ.1 91) u) (hp : p ≤ p') (hg : rg (σ.1 92) (σ.1 91 3) u p') : rm_L σ rl p0 p' own seen xs (am_sr τ 91 u) := by
  obtain ⟨⟨a1, a2, a3⟩, ⟨b1, b2, b3⟩, ⟨c1, c2, c3, c4, c5⟩, ⟨e1, e2⟩, f, g, x⟩ := h
  have f0 : ∀ a, a ≠ 91 → (am_sr τ 91 u).1 a = τ.1 a := fun a ha => am_sr_of ha
  have hx : ∀ e w, rm_X τ 5 e w → rm_X (am_sr τ 91 u) 5 e w := fun e w => rm_X_of (f0 _ (by decide)) (f0 _ (by decide)) (f0 _ (by decide)) (f0 _ (by decide))
  refine ⟨⟨a1.trans (am_only.sr (by simp)), a2.trans (rm_low.of (fun a h1 h2 => f0 a (by omega))), by rw [f0 96 (by decide)]; exact a3⟩, ⟨by rw [am_sr_at]; exact hg, by omega, ?_⟩, ⟨by rw [f0 105 (by decide)]; exact c1, by rw [f0 105 (by decide)]; exact c2, c3, c4, by rw [am_sr_at, hu 21 (by decide)]; exact c5⟩, by rw [f0 97 (by decide)]; exact ⟨e1, e2⟩, fun a ha => by rw [f0 a (fun z => by subst z; revert ha; decide)]; exact f a ha, fun e w he hw => hx _ _ (g e w he hw), fun i hi => hx _ _ (x i hi)⟩
  rw [am_sr_at]
  exact fun j hj => by rw [hu j (fun z => hj (by revert z; simp; omega)), b3 j hj]
theorem c_rCloseRule (d : Nat) {p : Int} {P : am_P} (hn6 : σ.1 91 3 ≤ 600) (hp : 0 ≤ p ∧ p ≤ σ.1 91 3) (hk : tk_k (σ.1 92) (σ.1 91 3) p ≠ 0) (hg : rg (σ.1 92) (σ.1 91 3) (σ.1 91) (tk_sp (σ.1 92) (σ.1 91 3) p)) (hT : rm_T σ 5 P) (hP : pm_ok P) (h24 : pm_n P < 24) (hown : σ.1 105 (120 + pm_n P) = 0) (hcame : σ.1 91 21 = 0) : am_MV G (d + 22) mX11_closeRule [am_r (some 91), am_i (pm_n P)] σ (fun σ' => rm_O σ p (sm_close (σ.1 92) (σ.1 91 3) P p) σ') := by
  obtain ⟨ts, hts⟩ : ∃ ts, σ.1 92 = ts := ⟨_, rfl⟩
  obtain ⟨n, hn⟩ : ∃ n, σ.1 91 3 = n := ⟨_, rfl⟩
  generalize hR : sm_close (σ.1 92) (σ.1 91 3) P p = R
  rw [hts, hn] at hR hg hk
  rw [hn] at hp hn6
  unfold sm_close at hR
  obtain ⟨⟨pS1, pS2⟩, ⟨pR1, pR2⟩, ⟨pn1, pn2, pn3, pn4⟩, pc, pe, poT, poM, pcT⟩ := id hP
  have pnv : pm_n P = pm_nO P + pm_nC P + pm_nE P := rfl
  have t94 := hT.1.1
  have t95 := hT.1.2
  have t97 := hT.2.2.2.2.1
  have hlt := tk_lt hk
  refine am_M.go (by decide) (Nat.le_of_ble_eq_true rfl) rfl ?_
  have e0 : ∀ u a, a ≠ 91 → (am_sr σ 91 u).1 a = σ.1 a := fun u a ha => am_sr_of ha
  have k5 : ∀ u, am_kpt rk (σ.1 91) u → am_kpt [2, 4, 5, 6, 21] (σ.1 91) u := fun u hu j hj => hu j (fun z => hj (by revert z; simp; omega))
  have F56 : ∀ (u : Int → Int) (F l q k : Int), am_kpt rk (σ.1 91) u → rh ts u F → R = .inl F → am_X (am_FV G (d + 22) (fun σ' => rm_O σ p R σ')) mX11_closeRule (0, 0) 56 [some (am_r (some 91)), some (am_i (pm_n P)), some (am_i l), some (am_i q), some (am_i k), none, none] [] (am_K0, am_sr σ 91 u) := by
    intro u F l q k hu hF hRF
    refine S_X11_closeRule_56 (h_isGood _ (by rw [am_sr_at]; exact hF)) ?_
    rintro _ _ ⟨rfl, rfl⟩
    refine S_X11_closeRule_60 (by decide) (fun z => absurd rfl z) (fun _ => ?_)
    refine S_X11_closeRule_63 ?_
    rw [hRF]
    refine ⟨⟨am_only.sr (by simp), rm_low.of (fun a a1 a2 => e0 u a (by omega)), by rw [am_sr_at]; exact k5 u hu, e0 u 96 (by decide)⟩, ?_⟩
    show rh (σ.1 92) ((am_sr σ 91 u).1 91) F
    rw [am_sr_at, hts]
    exact hF
  have F27 : ∀ (u : Int → Int) (F l q k : Int), am_kpt rk (σ.1 91) u → rh ts u F → R = .inl F → am_X (am_FV G (d + 22) (fun σ' => rm_O σ p R σ')) mX11_closeRule (0, 0) 27 [some (am_r (some 91)), some (am_i (pm_n P)), some (am_i l), some (am_i q), some (am_i k), none, none] [] (am_K0, am_sr σ 91 u) := by
    intro u F l q k hu hF hRF
    refine S_X11_closeRule_27 (h_isGood _ (by rw [am_sr_at]; exact hF)) ?_
    rintro _ _ ⟨rfl, rfl⟩
    exact S_X11_closeRule_31 (by decide) (fun _ => F56 u F l q k hu hF hRF) (fun z => absurd rfl z)
  have F19 : ∀ (u : Int → Int) (F l q : Int), am_kpt rk (σ.1 91) u → rh ts u F → R = .inl F → am_X (am_FV G (d + 22) (fun σ' => rm_O σ p R σ')) mX11_closeRule (0, 0) 19 [some (am_r (some 91)), some (am_i (pm_n P)), some (am_i l), some (am_i q), none, none, none] [] (am_K0, am_sr σ 91 u) := by
    intro u F l q hu hF hRF
    refine S_X11_closeRule_19 (h_digit _ (by omega) (by omega) ((e0 u 92 (by decide)).trans hts) (by rw [am_sr_at]; exact hF)) ?_
    rintro _ _ ⟨rfl, rfl⟩
    exact F27 u F l q _ hu hF hRF
  refine S_X11_closeRule_0 (r_letter _ hts hg) ?_
  rintro l _ ⟨u, rfl, hu, ⟨l1, l2, hF⟩ | ⟨l1, l2, l3, hg⟩⟩
  · rw [if_pos l2] at hR
    refine S_X11_closeRule_5 (h_number _ (by omega) (by rw [e0 u 94 (by decide), t94]; omega) ((e0 u 92 (by decide)).trans hts) (by rw [am_sr_at]; exact hF)) ?_
    rintro _ _ ⟨rfl, rfl⟩
    exact F19 u _ l _ hu hF hR.symm
  rw [if_neg (show ¬ sl_let ts n (tk_sp ts n p) = -1 by omega), ← l1] at hR
  refine S_X11_closeRule_5 (r_number _ (by omega) (by rw [e0 u 94 (by decide), t94]; omega) ((e0 u 92 (by decide)).trans hts) (by rw [am_sr_at]; exact hg)) ?_
  rintro q _ ⟨v, rfl, hv, hq⟩
  rw [e0 u 94 (by decide), t94] at hq
  rw [am_sr_at] at hv
  rw [am_sr_sr]
  have hu := hu.trans hv
  rcases hq with ⟨q1, q2, hF⟩ | ⟨q1, q2, q3, hg⟩
  · rw [if_pos q2] at hR
    exact F19 v _ l q hu hF hR.symm
  rw [if_neg (show ¬ sl_dig ts n 0 (pm_S P - 1) (tk_sp ts n (tk_sp ts n p)) < 0 by omega), ← q1] at hR
  refine S_X11_closeRule_19 (r_digit _ (by omega) (by omega) ((e0 v 92 (by decide)).trans hts) (by rw [am_sr_at]; exact hg)) ?_
  intro k τ hk2
  rcases hk2 with ⟨k1, k2, w, rfl, hw, hF⟩ | ⟨k1, k2, k3, rfl⟩
  · rw [if_pos k2] at hR
    rw [am_sr_at] at hw
    rw [am_sr_sr]
    exact F27 w _ l q k (hu.trans hw) hF hR.symm
  rw [if_neg (show ¬ sl_dig ts n 0 5 (tk_sp ts n (tk_sp ts n (tk_sp ts n p))) < 0 by omega), ← k1] at hR
  refine S_X11_closeRule_27 (r_isGood _ (by rw [am_sr_at]; exact hg)) ?_
  rintro _ _ ⟨rfl, rfl⟩
  refine S_X11_closeRule_31 (by decide) (fun z => absurd z (by decide)) (fun _ => ?_)
  refine S_X11_closeRule_34 (c_closeAt _) ?_
  rintro _ _ ⟨rfl, rfl⟩
  have hcT := pcT l q k
  have hb := (hT.2.2.1 l q k (by omega) (by omega) (by omega) (by omega) (by omega) (by omega)).1
  refine S_X11_closeRule_46 sh_100 (by omega) (by omega) (by rw [e0 v 100 (by decide), hb]; omega) (fun z => ?_) (fun z => ?_)
  rotate_left
  · rw [e0 v 100 (by decide), hb] at z
    rw [if_pos z] at hR
    refine S_X11_closeRule_51 (r_fails _ (by omega) ((e0 v 92 (by decide)).trans hts) (by rw [am_sr_at]; exact hg)) ?_
    rintro _ ⟨w, rfl, hw, hF⟩
    rw [am_sr_at] at hw
    rw [am_sr_sr]
    exact F56 w _ l q k (hu.trans hw) hF hR.symm
  rw [e0 v 100 (by decide), hb] at z
  rw [if_neg (fun y => y z)] at hR
  refine S_X11_closeRule_56 (r_isGood _ (by rw [am_sr_at]; exact hg)) ?_
  rintro _ _ ⟨rfl, rfl⟩
  refine S_X11_closeRule_60 (by decide) (fun _ => ?_) (fun y => absurd (by decide) y)
  refine S_X11_closeRule_64 (r_goes _ ((e0 v 92 (by decide)).trans hts) (by rw [am_sr_at]; exact hg)) ?_
  rintro _ ⟨w, rfl, hw, hg⟩
  rw [am_sr_at] at hw
  rw [am_sr_sr]
  have hu := hu.trans hw
  -- the writing
  have W135 : ∀ (τ : am_D) (to : Int), (∀ τ', am_only rm_A τ τ' → rm_low τ τ' → (∀ a, a ≠ 100 → a ≠ 101 → τ'.1 a = τ.1 a) → τ'.1 100 = am_u1 (τ.1 100) (108 * 5 + 36 * l + 6 * q + k) to → τ'.1 101 = am_u1 (τ.1 101) (108 * 5 + 36 * l + 6 * q + k) (pm_n P) → rm_O σ p R τ') → am_X (am_FV G (d + 22) (fun σ' => rm_O σ p R σ')) mX11_closeRule (0, 0) 135 [some (am_r (some 91)), some (am_i (pm_n P)), some (am_i l), some (am_i q), some (am_i k), some (am_i to), none] [] (am_K0, τ) := by
    intro τ to hk
    refine S_X11_closeRule_135 (c_closeAt _) ?_
    rintro _ _ ⟨rfl, rfl⟩
    refine S_X11_closeRule_147 sh_100 (by omega) (by omega) ?_
    refine S_X11_closeRule_150 (c_closeAt _) ?_
    rintro _ _ ⟨rfl, rfl⟩
    refine S_X11_closeRule_162 sh_101 (by omega) (by omega) ?_
    refine S_X11_closeRule_164 ?_
    refine hk _ ((am_only.pI (by simp)).trans (am_only.pI (by simp))) ((rm_low.pI (show (540 : Int) ≤ _ by omega)).trans (rm_low.pI (show (540 : Int) ≤ _ by omega))) ?_ ?_ ?_
    · intro a y2 y3
      rw [am_pI_of y3, am_pI_of y2]
    · rw [am_pI_of (by decide), am_pI_row]
    · rw [am_pI_row, am_pI_of (by decide)]
  have F135 : ∀ (τ : am_D) (to F : Int), am_only rm_A σ τ → rm_low σ τ → τ.1 96 = σ.1 96 → am_kpt [2, 4, 5, 6, 21] (σ.1 91) (τ.1 91) → rh ts (τ.1 91) F → R = .inl F → am_X (am_FV G (d + 22) (fun σ' => rm_O σ p R σ')) mX11_closeRule (0, 0) 135 [some (am_r (some 91)), some (am_i (pm_n P)), some (am_i l), some (am_i q), some (am_i k), some (am_i to), none] [] (am_K0, τ) := by
    intro τ to F o1 o2 o3 o4 hF hRF
    refine W135 τ to (fun τ' r1 r2 r3 _ _ => ?_)
    rw [hRF]
    refine ⟨⟨o1.trans r1, o2.trans r2, by rw [r3 91 (by decide) (by decide)]; exact o4, by rw [r3 96 (by decide) (by decide)]; exact o3⟩, ?_⟩
    show rh (σ.1 92) (τ'.1 91) F
    rw [r3 91 (by decide) (by decide), hts]
    exact hF
  have F92 : ∀ (τ : am_D) (to F i : Int), 0 ≤ i ∧ i ≤ 10 → τ.1 95 5 = pm_R P → am_only rm_A σ τ → rm_low σ τ → τ.1 96 = σ.1 96 → am_kpt [2, 4, 5, 6, 21] (σ.1 91) (τ.1 91) → rh ts (τ.1 91) F → R = .inl F → am_X (am_FV G (d + 22) (fun σ' => rm_O σ p R σ')) mX11_closeRule (0, 0) 92 [some (am_r (some 91)), some (am_i (pm_n P)), some (am_i l), some (am_i q), some (am_i k), some (am_i to), some (am_i i)] [] (am_K0, τ) := by
    intro τ to F i hi h95 o1 o2 o3 o4 hF hRF
    refine S_X11_closeRule_92 (by omega) (by omega) (fun _ => F135 τ to F o1 o2 o3 o4 hF hRF) (fun _ => ?_)
    refine S_X11_closeRule_103 (h_isGood _ hF) ?_
    rintro _ _ ⟨rfl, rfl⟩
    exact S_X11_closeRule_107 (by decide) (fun _ => F135 _ to F o1 o2 o3 o4 hF hRF) (fun z => absurd rfl z)
  have F89 : ∀ (u : Int → Int) (to F : Int), am_kpt rk (σ.1 91) u → rh ts u F → R = .inl F → am_X (am_FV G (d + 22) (fun σ' => rm_O σ p R σ')) mX11_closeRule (0, 0) 89 [some (am_r (some 91)), some (am_i (pm_n P)), some (am_i l), some (am_i q), some (am_i k), some (am_i to), none] [] (am_K0, am_sr σ 91 u) := by
    intro u to F hu hF hRF
    refine S_X11_closeRule_89 ?_
    exact F92 _ to F 0 (by omega) (by rw [e0 u 95 (by decide)]; exact t95) (am_only.sr (by simp)) (rm_low.of (fun a a1 a2 => e0 u a (by omega))) (e0 u 96 (by decide)) (by rw [am_sr_at]; exact k5 u hu) (by rw [am_sr_at]; exact hF) hRF
  refine S_X11_closeRule_68 (r_number _ (by omega) (by rw [e0 w 94 (by decide), t94]; omega) ((e0 w 92 (by decide)).trans hts) (by rw [am_sr_at]; exact hg)) ?_
  rintro to _ ⟨x, rfl, hx, hto⟩
  rw [e0 w 94 (by decide), t94] at hto
  rw [am_sr_at] at hx
  rw [am_sr_sr]
  have hu := hu.trans hx
  rcases hto with ⟨o1, o2, hF⟩ | ⟨o1, o2, o3, hg⟩
  · rw [if_pos o2] at hR
    refine S_X11_closeRule_83 (h_sign _ (by omega) ((e0 x 92 (by decide)).trans hts) (by rw [am_sr_at]; exact hF)) ?_
    rintro _ rfl
    exact F89 x to _ hu hF hR.symm
  rw [if_neg (show ¬ sl_dig ts n 0 (pm_S P - 1) (tk_sp ts n (tk_sp ts n (tk_sp ts n (tk_sp ts n p)))) < 0 by omega), ← o1] at hR
  refine S_X11_closeRule_83 (r_sign _ (by omega) ((e0 x 92 (by decide)).trans hts) (by rw [am_sr_at]; exact hg)) ?_
  rintro _ ⟨y, rfl, hy, hs⟩
  rw [am_sr_at] at hy
  rw [am_sr_sr]
  have hu := hu.trans hy
  rcases hs with ⟨s1, hF⟩ | ⟨s1, hg⟩
  · rw [if_pos s1] at hR
    exact F89 y to _ hu hF hR.symm
  rw [if_neg (fun z => z s1)] at hR
  have i0 := tk_in (bs := ts) hp.2
  have i1 := tk_in (bs := ts) (n := n) (p := tk_sp ts n p) (by omega)
  have i2 := tk_in (bs := ts) (n := n) (p := tk_sp ts n (tk_sp ts n p)) (by omega)
  have i3 := tk_in (bs := ts) (n := n) (p := tk_sp ts n (tk_sp ts n (tk_sp ts n p))) (by omega)
  have i4 := tk_in (bs := ts) (n := n) (p := tk_sp ts n (tk_sp ts n (tk_sp ts n (tk_sp ts n p)))) (by omega)
  have i5 := tk_in (bs := ts) (n := n) (p := tk_sp ts n (tk_sp ts n (tk_sp ts n (tk_sp ts n (tk_sp ts n p))))) (by omega)
  generalize tk_sp ts n (tk_sp ts n (tk_sp ts n (tk_sp ts n (tk_sp ts n p)))) = p5 at *
  generalize hX : sm_exs ts n (pm_R P) (pm_R P).toNat true p5 0 [] [] = X at hR
  -- the EXPRESSIONS
  have loop : ∀ (f : Nat) (i : Int) (fst : Bool) (p1 own : Int) (seen : List Int) (xs : List (List Int)) (τ : am_D), i + f = pm_R P → i = xs.length → (fst = true → i = 0) → (fst = false → 0 < i) → rm_L σ (pm_n P) p (if fst then tk_sp ts n p1 else p1) own seen xs τ → sm_exs ts n (pm_R P) f fst p1 own seen xs = X → am_X (am_FV G (d + 22) (fun σ' => rm_O σ p R σ')) mX11_closeRule (0, 0) 92 [some (am_r (some 91)), some (am_i (pm_n P)), some (am_i l), some (am_i q), some (am_i k), some (am_i to), some (am_i i)] [] (am_K0, τ) := by
    intro f
    induction f with
    | zero =>
      intro i fst p1 own seen xs τ hi hxs hf1 hf2 hL hX
      obtain ⟨⟨a1, a2, a3⟩, ⟨b1, b2, b3⟩, ⟨c1, c2, c3, c4, c5⟩, ⟨e1, e2⟩, f9, g, x9⟩ := hL
      have hrem := sl_rem_rg seen
      have h95 : τ.1 95 5 = pm_R P := by rw [f9 95 (by decide)]; exact t95
      cases fst with
      | true => have := hf1 rfl; omega
      | false =>
      refine S_X11_closeRule_92 (by omega) (by omega) (fun _ => ?_) (fun z => absurd (by omega) z)
      refine W135 τ to (fun τ' r1 r2 r3 r4 r5 => ?_)
      rw [← hR, ← hX]
      have hxx : ∀ e w, rm_X τ 5 e w → rm_X τ' 5 e w := fun e w => rm_X_of (r3 _ (by decide) (by decide)) (r3 _ (by decide) (by decide)) (r3 _ (by decide) (by decide)) (r3 _ (by decide) (by decide))
      refine ⟨⟨a1.trans r1, a2.trans r2, by rw [r3 91 (by decide) (by decide)]; exact b3, by rw [r3 96 (by decide) (by decide)]; exact a3⟩, ?_⟩
      show rg (σ.1 92) (σ.1 91 3) (τ'.1 91) p1 ∧ p < p1 ∧ _ ∧ _
      refine ⟨by rw [r3 91 (by decide) (by decide)]; exact b1, b2, rm_T_addC (σ := σ) z hP hT (by omega) (by omega) (by omega) (by omega) c3 (by rw [r3 94 (by decide) (by decide)]; exact f9 94 (by decide)) (by rw [r3 95 (by decide) (by decide)]; exact f9 95 (by decide)) (by rw [r3 98 (by decide) (by decide)]; exact f9 98 (by decide)) (by rw [r3 99 (by decide) (by decide)]; exact f9 99 (by decide)) (by rw [r4, f9 100 (by decide)]) (by rw [r5, f9 101 (by decide)]) (by rw [r3 102 (by decide) (by decide)]; exact f9 102 (by decide)) (by rw [r3 97 (by decide) (by decide)]; omega) (by rw [r3 105 (by decide) (by decide)]; exact c2) (by rw [r3 105 (by decide) (by decide)]; exact c1) (fun e w he hw => hxx _ _ (g e w he hw)) (fun j hj => hxx _ _ (x9 j hj)), ?_⟩
      refine ⟨⟨pS1, pS2⟩, ⟨pR1, pR2⟩, ⟨pn1, show 0 ≤ pm_nC P + 1 by omega, pn3, show pm_nO P + (pm_nC P + 1) + pm_nE P ≤ 24 by omega⟩, ⟨show 0 ≤ max (pm_mC P) own by omega, show max (pm_mC P) own ≤ 6 by omega⟩, pe, poT, poM, fun l' q' k' => ?_⟩
      show -1 ≤ pm_u3 (pm_cT P) l q k to l' q' k' ∧ pm_u3 (pm_cT P) l q k to l' q' k' < pm_S P ∧ (pm_u3 (pm_cT P) l q k to l' q' k' ≠ -1 → ((pm_u3 (pm_cX P) l q k xs l' q' k').length : Int) = pm_R P)
      have := pcT l' q' k'
      unfold pm_u3
      by_cases z : l' = l ∧ q' = q ∧ k' = k
      · rw [if_pos z, if_pos z]
        exact ⟨by omega, by omega, fun _ => by omega⟩
      · rw [if_neg z, if_neg z]
        exact this
    | succ f ih =>
      intro i fst p1 own seen xs τ hi hxs hf1 hf2 hL hX
      have h95 : τ.1 95 5 = pm_R P := by rw [hL.2.2.2.2.1 95 (by decide)]; exact t95
      have q92 : τ.1 92 = σ.1 92 := hL.1.1.1 92 (by decide)
      have hg1 := hL.2.1.1
      unfold sm_exs at hX
      refine S_X11_closeRule_92 (by omega) (by omega) (fun z => absurd z (by omega)) (fun _ => ?_)
      refine S_X11_closeRule_103 (r_isGood _ hg1) ?_
      rintro _ _ ⟨rfl, rfl⟩
      refine S_X11_closeRule_107 (by decide) (fun z => absurd z (by decide)) (fun _ => ?_)
      -- an EXPRESSION from p2 on
      have J121 : ∀ (p2 : Int) (τ : am_D), rm_L σ (pm_n P) p p2 own seen xs τ → (match sl_ex ts n (pm_R P) true 700 p2 0 own seen [] with
          | .inl F => .inl F
          | .inr (p', own', seen', acc) => sm_exs ts n (pm_R P) f false p' own' seen' (xs ++ [acc])) = X → am_X (am_FV G (d + 22) (fun σ' => rm_O σ p R σ')) mX11_closeRule (0, 0) 121 [some (am_r (some 91)), some (am_i (pm_n P)), some (am_i l), some (am_i q), some (am_i k), some (am_i to), some (am_i i)] [] (am_K0, τ) := by
        intro p2 τ hL hX
        obtain ⟨⟨a1, a2, a3⟩, ⟨b1, b2, b3⟩, ⟨c1, c2, c3, c4, c5⟩, ⟨e1, e2⟩, f9, g, x9⟩ := hL
        have hrem := sl_rem_rg seen
        have q92 : τ.1 92 = ts := (a1.1 92 (by decide)).trans hts
        have q913 : τ.1 91 3 = n := by rw [b3 3 (by decide)]; exact hn
        have q95 : τ.1 95 5 = pm_R P := by rw [f9 95 (by decide)]; exact t95
        rw [hts, hn] at b1
        have hx := c_rExpression (G := G) (σ := τ) d (rl := pm_n P) (rr := i) (B := σ.1 97 5 + 18) (e := 0) (p := p2) (own := own) (seen := seen) (stk := true) e1 (by omega) (by omega) (by omega) (by omega) (by omega) (Or.inl ⟨rfl, rfl⟩) (by rw [q92, q913]; exact b1) c1 ⟨c3, c4⟩ c5 e2
        rw [q92, q913, q95] at hx
        refine S_X11_closeRule_121 hx ?_
        intro τ2 hpost
        generalize hY : sl_ex ts n (pm_R P) true 700 p2 0 own seen [] = Y at hpost hX
        refine S_X11_closeRule_129 ?_
        have g0 : ∀ a, a ≠ 103 → (am_pI τ 103 (360 + 3 * pm_n P + i) (τ.1 97 5)).1 a = τ.1 a := fun a ha => am_pI_of ha
        have base : am_only rm_A σ (am_pI τ 103 (360 + 3 * pm_n P + i) (τ.1 97 5)) ∧ rm_low σ (am_pI τ 103 (360 + 3 * pm_n P + i) (τ.1 97 5)) := ⟨a1.trans (am_only.pI (by simp)), a2.trans (rm_low.pI (show (360 : Int) ≤ _ by omega))⟩
        cases Y with
        | inl F =>
          obtain ⟨τ1, hF, rfl⟩ := hpost
          obtain ⟨l1', l2', l3'⟩ := hF.low (by omega)
          obtain ⟨⟨f1, f2, f3⟩, -⟩ := hF
          rw [g0 91 (by decide)] at f3
          rw [g0 92 (by decide), q92] at f2
          rw [← hX] at hR
          have w95 : τ1.1 95 = τ.1 95 := by rw [f1.1 95 (by decide), g0 95 (by decide)]
          refine F92 _ to F (i + 1) (by omega) (by rw [am_pI_of (by decide), w95]; exact q95) ((base.1.trans l1').trans (am_only.pI (by simp))) ((base.2.trans l2').trans (rm_low.pI (show (360 : Int) ≤ _ by omega))) (by rw [am_pI_of (by decide), l3', g0 96 (by decide)]; exact a3) ?_ (by rw [am_pI_of (by decide)]; exact f2) hR.symm
          rw [am_pI_of (by decide)]
          exact b3.trans f3
        | inr r =>
          obtain ⟨p', own', seen', acc⟩ := r
          obtain ⟨τ1, hD, rfl⟩ := hpost
          have hpp : p2 ≤ p' := sl_ex_le _ _ _ _ _ _ _ _ _ _ b1.2.2.2.2.2 hY
          obtain ⟨l1', l2', l3'⟩ := hD.low (by omega) (by rw [g0 97 (by decide)]; exact e1)
          have hxo : ∀ e w, e < 3 * pm_n P + i → rm_X τ 5 e w → rm_X (am_pI τ1 104 (360 + 3 * pm_n P + i) (τ1.1 97 5)) 5 e w := fun e w he hw => rm_X_D e1 (by omega) hD hw
          have hxn : rm_X (am_pI τ1 104 (360 + 3 * pm_n P + i) (τ1.1 97 5)) 5 (3 * pm_n P + i) acc := rm_X_new e1 (by omega) hD
          obtain ⟨⟨f1, f2, f3⟩, ⟨f4, f5, f6, f7, f8⟩, ⟨h1, h2⟩, h3, h4, h5⟩ := hD
          rw [g0 91 (by decide)] at f3
          rw [g0 92 (by decide), g0 91 (by decide), q92, q913] at f2
          rw [g0 97 (by decide)] at h2
          rw [g0 105 (by decide)] at f5
          have hlen : ((xs ++ [acc]).length : Int) = xs.length + 1 := by rw [List.length_append]; rfl
          refine ih (i + 1) false p' own' seen' (xs ++ [acc]) _ (by omega) (by omega) (fun z => nomatch z) (fun _ => by omega) ⟨⟨(base.1.trans l1').trans (am_only.pI (by simp)), (base.2.trans l2').trans (rm_low.pI (show (360 : Int) ≤ _ by omega)), by rw [am_pI_of (by decide), l3', g0 96 (by decide)]; exact a3⟩, ⟨?_, ?_, ?_⟩, ⟨?_, ?_, f6, f7, ?_⟩, ?_, ?_, fun e w he hw => hxo e w (by omega) (g e w he hw), fun j hj => ?_⟩ hX
          · rw [am_pI_of (by decide), hts, hn]; exact f2
          · show p < p'; omega
          · rw [am_pI_of (by decide)]; exact b3.trans f3
          · rw [am_pI_of (by decide)]; exact f4
          · rw [am_pI_of (by decide)]; exact c2.trans f5
          · rw [am_pI_of (by decide)]; exact f8
          · rw [am_pI_of (by decide)]; omega
          · intro a ha
            rw [am_pI_of (fun z => by subst z; revert ha; decide), f1.1 a (fun z => by revert ha z; simp; omega), g0 a (fun z => by subst z; revert ha; decide)]
            exact f9 a ha
          · rw [List.length_append] at hj
            have hj : j < xs.length + 1 := hj
            by_cases z : j = xs.length
            · subst z
              rw [List.getD_eq_getElem?_getD, List.getElem?_append_right (Nat.le_refl _), Nat.sub_self, ← hxs]
              exact hxn
            · rw [List.getD_eq_getElem?_getD, List.getElem?_append_left (by omega), ← List.getD_eq_getElem?_getD]
              exact hxo _ _ (by omega) (x9 j (by omega))
      refine S_X11_closeRule_110 (by omega) (fun z => ?_) (fun z => ?_)
      · cases fst with
        | false => exact absurd (hf2 rfl) (by omega)
        | true =>
          rw [if_neg (fun z => nomatch z.1)] at hX
          exact J121 _ _ hL hX
      · cases fst with
        | true => exact absurd (hf1 rfl) (by omega)
        | false =>
          have hL : rm_L σ (pm_n P) p p1 own seen xs τ := hL
          have hg1 : rg (σ.1 92) (σ.1 91 3) (τ.1 91) p1 := hg1
          refine S_X11_closeRule_115 (r_sign _ (by omega) q92 hg1) ?_
          rintro _ ⟨u', rfl, hu', hs'⟩
          rw [hts, hn] at hs'
          rcases hs' with ⟨s1', hF⟩ | ⟨s1', hg'⟩
          · rw [if_pos ⟨rfl, s1'⟩] at hX
            rw [← hX] at hR
            obtain ⟨⟨a1, a2, a3⟩, ⟨b1, b2, b3⟩, -⟩ := hL
            refine S_X11_closeRule_121 (h_expression (ts := ts) _ (by omega) (by omega) (by rw [am_sr_at]; exact hF)) ?_
            rintro _ rfl
            refine S_X11_closeRule_129 ?_
            refine F92 _ to _ (i + 1) (by omega) (by rw [am_pI_of (by decide), am_pI_of (by decide), am_sr_of (by decide)]; exact h95) (((a1.trans (am_only.sr (by simp))).trans (am_only.pI (by simp))).trans (am_only.pI (by simp))) (((a2.trans (rm_low.of (fun a a1 a2 => am_sr_of (by omega)))).trans (rm_low.pI (show (360 : Int) ≤ _ by omega))).trans (rm_low.pI (show (360 : Int) ≤ _ by omega))) (by rw [am_pI_of (by decide), am_pI_of (by decide), am_sr_of (by decide)]; exact a3) ?_ (by rw [am_pI_of (by decide), am_pI_of (by decide), am_sr_at]; exact hF) hR.symm
            rw [am_pI_of (by decide), am_pI_of (by decide), am_sr_at]
            exact fun j hj => by rw [hu' j (fun z => hj (by revert z; simp; omega)), b3 j hj]
          · rw [if_neg (fun y => y.2 s1')] at hX
            have hin1 := tk_in (bs := ts) (n := n) (p := p1) (by rw [hts, hn] at hg1; exact hg1.2.2.2.2.2)
            exact J121 _ _ (hL.tok (p' := tk_sp ts n p1) hu' (by omega) (by rw [hts, hn]; exact hg')) hX
  refine S_X11_closeRule_89 ?_
  have hrem := sl_rem_rg []
  refine loop (pm_R P).toNat 0 true p5 0 [] [] _ (by omega) rfl (fun _ => rfl) (fun z => nomatch z) ⟨⟨am_only.sr (by simp), rm_low.of (fun a a1 a2 => e0 y a (by omega)), e0 y 96 (by decide)⟩, ⟨by rw [am_sr_at, hts, hn]; exact hg, show p < tk_sp ts n p5 by omega, by rw [am_sr_at]; exact k5 y hu⟩, ⟨by rw [e0 y 105 (by decide)]; exact hown, by rw [e0 y 105 (by decide)]; exact am_kpt.rfl', by omega, by omega, by rw [am_sr_at, hu 21 (by decide), hcame]; exact rx_seen_0⟩, by rw [e0 y 97 (by decide)]; omega, fun a ha => e0 y a (fun z => by subst z; revert ha; decide), fun e w _ hw => rm_X_of (e0 y _ (by decide)) (e0 y _ (by decide)) (e0 y _ (by decide)) (e0 y _ (by decide)) hw, fun j hj => absurd hj (Nat.not_lt_zero _)⟩ hX
end
