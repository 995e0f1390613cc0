section
variable {G : am_G} {σ : am_D}
theorem rx_D.own' {rl B p dp own : Int} {seen acc : List Int} {τ : am_D} (h6 : own < 6) (h : rx_D σ rl B p dp own seen acc τ) : rx_D σ rl B p (dp + 2) (own + 1) seen acc (am_pI τ 105 (120 + rl) (own + 1)) := by
  obtain ⟨⟨a1, a2, a3⟩, ⟨b1, b2, b3, b4, b5⟩, ⟨c1, c2⟩, e1, e2, e3⟩ := h
  have f0 : ∀ a, a ≠ 105 → (am_pI τ 105 (120 + rl) (own + 1)).1 a = τ.1 a := fun a ha => am_pI_of ha
  have f1 : (am_pI τ 105 (120 + rl) (own + 1)).1 105 = am_u1 (τ.1 105) (120 + rl) (own + 1) := am_pI_row
  unfold rx_D
  rw [f1, f0 91 (by decide), f0 97 (by decide), f0 106 (by decide)]
  exact ⟨⟨a1.trans (am_only.pI (by simp)), a2, a3⟩, ⟨am_u1_eq, b2.trans (am_kpt.u1 (by simp)), by omega, by omega, b5⟩, ⟨c1, c2⟩, e1, e2, by omega⟩
theorem rx_F.emit {rl dp F x : Int} {τ : am_D} (h : rx_F σ rl (dp + 1) F τ) : rx_F σ rl dp F (am_pI (am_pI τ 106 (3000 + τ.1 97 5) x) 97 5 (τ.1 97 5 + 1)) := by
  obtain ⟨⟨a1, a2, a3⟩, b, ⟨c1, c2, c3⟩, e⟩ := h
  have f0 : ∀ a, a ≠ 97 → a ≠ 106 → (am_pI (am_pI τ 106 (3000 + τ.1 97 5) x) 97 5 (τ.1 97 5 + 1)).1 a = τ.1 a := fun a y z => by rw [am_pI_of y, am_pI_of z]
  have f1 : (am_pI (am_pI τ 106 (3000 + τ.1 97 5) x) 97 5 (τ.1 97 5 + 1)).1 97 = am_u1 (τ.1 97) 5 (τ.1 97 5 + 1) := by rw [am_pI_row, am_pI_of (by decide)]
  have f2 : (am_pI (am_pI τ 106 (3000 + τ.1 97 5) x) 97 5 (τ.1 97 5 + 1)).1 106 = am_u1 (τ.1 106) (3000 + τ.1 97 5) x := by rw [am_pI_of (by decide), am_pI_row]
  unfold rx_F
  rw [f0 91 (by decide) (by decide), f0 105 (by decide) (by decide), f1, f2, am_u1_eq]
  exact ⟨⟨(a1.trans (am_only.pI (by simp))).trans (am_only.pI (by simp)), a2, a3⟩, b, ⟨c1.trans (am_kpt.u1 (by decide)), by omega, by omega⟩, fun j hj => by rw [am_u1_ne (by omega)]; exact e j hj⟩
theorem h_parts (d : Nat) {rl e F : Int} {ts : Int → Int} (h : rh ts (σ.1 91) F) : am_MV G (d + 2) mX11_parts [am_r (some 91), am_i rl, am_i e] σ (fun σ' => σ = σ') := by
  refine am_M.go (by decide) (Nat.le_of_ble_eq_true rfl) rfl ?_
  refine S_X11_parts_0 ?_
  refine S_X11_parts_2 (by decide) (fun z => absurd z (by decide)) (fun _ => ?_)
  refine S_X11_parts_6 (h_isGood _ h) ?_
  rintro _ _ ⟨rfl, rfl⟩
  refine S_X11_parts_10 (by decide) (fun _ => ?_) (fun z => absurd rfl z)
  exact S_X11_parts_72 rfl
/-- a PART begins behind p -/
def rx_part (bs : Int → Int) (n : Int) (stk : Bool) (p : Int) : Prop := tk_k bs n p = 60 ∨ sl_w1 bs n 120 p = true ∨ (stk = true ∧ sl_w1 bs n 121 p = true)
/-- what PARTS leave -/
def rx_Q (σ : am_D) (stk : Bool) (rl B p dp own : Int) (seen acc : List Int) (τ : am_D) : Prop :=
  (∃ F, sl_X (σ.1 92) (σ.1 91 3) (σ.1 95 5) stk p dp own seen acc = .inl F ∧ rx_F σ rl dp F τ) ∨ ∃ p' own' seen' acc', p ≤ p' ∧ own ≤ own' ∧ sl_X (σ.1 92) (σ.1 91 3) (σ.1 95 5) stk p dp own seen acc = sl_X (σ.1 92) (σ.1 91 3) (σ.1 95 5) stk p' dp own' seen' acc' ∧ rx_D σ rl B p' dp own' seen' acc' τ ∧ ¬ rx_part (σ.1 92) (σ.1 91 3) stk p'
/-- what an ELEMENT leaves -/
def rx_QE (σ : am_D) (stk : Bool) (rl B p dp own : Int) (seen acc : List Int) (τ : am_D) : Prop :=
  (∃ F, sl_X (σ.1 92) (σ.1 91 3) (σ.1 95 5) stk p dp own seen acc = .inl F ∧ rx_F σ rl dp F τ) ∨ ∃ p' own' seen' acc', p < p' ∧ own ≤ own' ∧ sl_X (σ.1 92) (σ.1 91 3) (σ.1 95 5) stk p dp own seen acc = sl_X (σ.1 92) (σ.1 91 3) (σ.1 95 5) stk p' dp own' seen' acc' ∧ rx_D σ rl B p' dp own' seen' acc' τ
theorem c_rElement (d : Nat) {rl B e own0 : Int} {stk : Bool} (h0 : 0 ≤ σ.1 97 5) (hB : B ≤ 432) (hn : σ.1 91 3 ≤ 600) (hrl : 0 ≤ rl ∧ rl < 24)
    (hparts : ∀ (p dp own : Int) (seen acc : List Int) (τ : am_D), own0 < own → 0 ≤ dp → rx_D σ rl B p dp own seen acc τ → am_MV G (d + 6) mX11_parts [am_r (some 91), am_i rl, am_i e] τ (fun σ' => rx_Q σ stk rl B p dp own seen acc σ')) :
    ∀ (p dp own : Int) (seen acc : List Int) (τ : am_D), own0 ≤ own → 0 ≤ dp → rx_D σ rl B p dp own seen acc τ → tk_k (σ.1 92) (σ.1 91 3) p = 60 → am_MV G (d + 7) mX11_element [am_r (some 91), am_i rl, am_i e] τ (fun σ' => rx_QE σ stk rl B p dp own seen acc σ') := by
  intro p dp own seen acc τ hoo hdp hD h60
  obtain ⟨⟨a1, a2, a3⟩, ⟨b1, b2, b3, b4, b5⟩, ⟨c1, c2⟩, e1, e2, e3⟩ := id hD
  have q92 : τ.1 92 = σ.1 92 := a1.1 92 (by decide)
  have hX := sl_X_eq (bs := σ.1 92) (n := σ.1 91 3) (rg := σ.1 95 5) (p := p) (dp := dp) (own := own) (stk := stk) (seen := seen) (acc := acc) a2.2.2.2.2.1 a2.2.2.2.2.2 hn
  rw [if_pos h60] at hX
  have hlt := tk_lt (bs := σ.1 92) (n := σ.1 91 3) (p := p) (by omega)
  have hin := tk_in (bs := σ.1 92) (n := σ.1 91 3) (p := p) a2.2.2.2.2.2
  have hin2 := tk_in (bs := σ.1 92) (n := σ.1 91 3) (p := tk_sp (σ.1 92) (σ.1 91 3) p) hin.2.2
  refine am_M.go (by decide) (Nat.le_of_ble_eq_true rfl) rfl ?_
  -- the end behind a FAULT
  have F66 : ∀ (τ : am_D) (F : Int), rx_F σ rl (dp + 1) F τ → sl_X (σ.1 92) (σ.1 91 3) (σ.1 95 5) stk p dp own seen acc = .inl F → am_X (am_FV G (d + 7) (fun σ' => rx_QE σ stk rl B p dp own seen acc σ')) mX11_element (0, 0) 66 [some (am_r (some 91)), none, none, none] [] (am_K0, τ) := by
    intro τ F hF hXF
    refine S_X11_element_66 (c_emits _ (by have := hF.2.2.1; omega)) ?_
    rintro _ rfl
    exact S_X11_element_71 (Or.inl ⟨F, hXF, hF.emit⟩)
  have F60 : ∀ (τ : am_D) (F : Int), rx_F σ rl (dp + 1) F τ → sl_X (σ.1 92) (σ.1 91 3) (σ.1 95 5) stk p dp own seen acc = .inl F → am_X (am_FV G (d + 7) (fun σ' => rx_QE σ stk rl B p dp own seen acc σ')) mX11_element (0, 0) 60 [some (am_r (some 91)), none, none, none] [] (am_K0, τ) := by
    intro τ F hF hXF
    refine S_X11_element_60 (h_sign _ (by omega) (hF.1.1.1 92 (by decide)) hF.1.2.1) ?_
    rintro _ rfl
    exact F66 _ F hF hXF
  refine S_X11_element_0 (by omega) (by omega) (by rw [b1]; omega) (fun z => ?_) (fun z => ?_)
  rotate_left
  · rw [b1] at z
    have z := Classical.not_not.mp z
    rw [if_pos (by omega)] at hX
    refine S_X11_element_14 (r_fails _ (by omega) q92 a2) ?_
    rintro _ ⟨u, rfl, hu, hF⟩
    have hF' := hD.fault (by omega) h0 hu hF
    refine S_X11_element_19 (h_isGood _ hF'.1.2.1) ?_
    rintro _ _ ⟨rfl, rfl⟩
    refine S_X11_element_23 (by decide) (fun y => absurd rfl y) (fun _ => ?_)
    exact S_X11_element_26 (Or.inl ⟨_, hX, hF'⟩)
  rw [b1] at z
  rw [if_neg (by omega)] at hX
  refine S_X11_element_19 (r_isGood _ a2) ?_
  rintro _ _ ⟨rfl, rfl⟩
  refine S_X11_element_23 (by decide) (fun _ => ?_) (fun y => absurd (by decide) y)
  refine S_X11_element_27 (by omega) (by omega) (by omega) (by omega) ?_
  rw [b1]
  have hD1 := hD.own' (by omega)
  generalize am_pI τ 105 (120 + rl) (own + 1) = τ1 at hD1 ⊢
  refine S_X11_element_40 (r_goes _ (hD1.1.1.1 92 (by decide)) hD1.1.2.1) ?_
  rintro _ ⟨u, rfl, hu, hg⟩
  have hD2 := hD1.tok hu hg
  generalize am_sr τ1 91 u = τ2 at hD2 ⊢
  refine S_X11_element_44 (r_letter _ (hD2.1.1.1 92 (by decide)) hD2.1.2.1) ?_
  rintro l _ ⟨u, rfl, hu, ⟨l1, l2, hF⟩ | ⟨l1, l2, l3, hg⟩⟩
  · rw [if_pos l2] at hX
    have hF' := hD2.fault (by omega) h0 hu hF
    rw [show dp + 2 = dp + 1 + 1 by omega] at hF'
    refine S_X11_element_49 (c_emits _ (by have := hF'.2.2.1; omega)) ?_
    rintro _ rfl
    have hF2 := hF'.emit (x := l)
    refine S_X11_element_54 (h_parts _ hF2.1.2.1) ?_
    rintro _ rfl
    exact F60 _ _ hF2 hX
  rw [if_neg (by omega), ← l1] at hX
  have hD3 := hD2.tok hu hg
  generalize am_sr τ2 91 u = τ3 at hD3 ⊢
  obtain ⟨⟨x1, x2, x3⟩, ⟨y1, y2, y3, y4, y5⟩, ⟨z1, z2⟩, w1, w2, w3⟩ := id hD3
  have hrem := sl_rem_rg seen
  refine S_X11_element_49 (c_emits _ (by omega)) ?_
  rintro _ rfl
  have hD4 := hD3.emit (x := l) (dp' := dp + 1) h0 y5 (by omega)
  rw [show rx_c l = l from if_pos (by omega)] at hD4
  generalize am_pI (am_pI τ3 106 (3000 + τ3.1 97 5) l) 97 5 (τ3.1 97 5 + 1) = τ4 at hD4 ⊢
  refine S_X11_element_54 (hparts _ (dp + 1) (own + 1) seen _ τ4 (by omega) (by omega) hD4) ?_
  rintro τ5 (⟨F, hXF, hF⟩ | ⟨p', own', seen', acc', hp', ho', hX', hD5, hno⟩)
  · exact F60 _ F hF (hX.trans hXF)
  obtain ⟨⟨x1, x2, x3⟩, ⟨y1, y2, y3, y4, y5⟩, ⟨z1, z2⟩, w1, w2, w3⟩ := id hD5
  have hX2 := sl_X_eq (bs := σ.1 92) (n := σ.1 91 3) (rg := σ.1 95 5) (p := p') (dp := dp + 1) (own := own') (stk := stk) (seen := seen') (acc := acc') x2.2.2.2.2.1 x2.2.2.2.2.2 hn
  rw [if_neg (fun y => hno (Or.inl y))] at hX2
  have hin3 := tk_in (bs := σ.1 92) (n := σ.1 91 3) (p := p') x2.2.2.2.2.2
  refine S_X11_element_60 (r_sign _ (by omega) (x1.1 92 (by decide)) x2) ?_
  rintro _ ⟨u, rfl, hu, ⟨s1, hF⟩ | ⟨s1, hg⟩⟩
  · rw [if_neg (fun y => s1 y.1), if_neg (fun y => hno (Or.inr y)), if_pos (by omega)] at hX2
    exact F66 _ _ (hD5.fault (by omega) h0 hu hF) (hX.trans (hX'.trans hX2))
  · rw [if_pos ⟨s1, by omega⟩, show dp + 1 - 1 = dp by omega] at hX2
    have hlt3 := tk_lt (bs := σ.1 92) (n := σ.1 91 3) (p := p') (by omega)
    have hD6 := hD5.tok hu hg
    generalize am_sr τ5 91 u = τ6 at hD6 ⊢
    obtain ⟨⟨x1, x2, x3⟩, ⟨y1, y2, y3, y4, y5⟩, ⟨z1, z2⟩, w1, w2, w3⟩ := id hD6
    have hrem := sl_rem_rg seen'
    refine S_X11_element_66 (c_emits _ (by omega)) ?_
    rintro _ rfl
    refine S_X11_element_71 (Or.inr ⟨_, own', seen', acc' ++ [3], ?_, by omega, hX.trans (hX'.trans hX2), hD6.emit (x := 3) (dp' := dp) h0 y5 (by omega)⟩)
    omega
theorem c_rPartsStep (d : Nat) {rl B e own0 : Int} {stk : Bool} (h0 : 0 ≤ σ.1 97 5) (hB : B ≤ 432) (hn : σ.1 91 3 ≤ 600) (hrg : 1 ≤ σ.1 95 5 ∧ σ.1 95 5 ≤ 3) (he : (e = 0 ∧ stk = true) ∨ (e = 1 ∧ stk = false))
    (hel : ∀ (p dp own : Int) (seen acc : List Int) (τ : am_D), own0 ≤ own → 0 ≤ dp → rx_D σ rl B p dp own seen acc τ → tk_k (σ.1 92) (σ.1 91 3) p = 60 → am_MV G (d + 7) mX11_element [am_r (some 91), am_i rl, am_i e] τ (fun σ' => rx_QE σ stk rl B p dp own seen acc σ')) :
    ∀ (p dp own : Int) (seen acc : List Int) (τ : am_D), own0 ≤ own → 0 ≤ dp → rx_D σ rl B p dp own seen acc τ → am_MV G (d + 8) mX11_parts [am_r (some 91), am_i rl, am_i e] τ (fun σ' => rx_Q σ stk rl B p dp own seen acc σ') := by
  intro p0 dp own0' seen0 acc0 τ0 hoo hdp hD0
  refine am_M.go (by decide) (Nat.le_of_ble_eq_true rfl) rfl ?_
  generalize hY : (fun σ' : am_D => rx_Q σ stk rl B p0 dp own0' seen0 acc0 σ') = Q
  have F2 : ∀ (τ : am_D) (F : Int), sl_X (σ.1 92) (σ.1 91 3) (σ.1 95 5) stk p0 dp own0' seen0 acc0 = .inl F → rx_F σ rl dp F τ → am_X (am_FV G (d + 8) Q) mX11_parts (0, 0) 2 [some (am_r (some 91)), some (am_i rl), some (am_i e), some (am_i 1)] [] (am_K0, τ) := by
    intro τ F hXF hF
    refine S_X11_parts_2 (by decide) (fun z => absurd z (by decide)) (fun _ => ?_)
    refine S_X11_parts_6 (h_isGood _ hF.1.2.1) ?_
    rintro _ _ ⟨rfl, rfl⟩
    refine S_X11_parts_10 (by decide) (fun _ => ?_) (fun z => absurd rfl z)
    refine S_X11_parts_72 ?_
    rw [← hY]
    exact Or.inl ⟨F, hXF, hF⟩
  have loop : ∀ (f : Nat) (p own : Int) (seen acc : List Int) (τ : am_D), σ.1 91 3 - p < f → p0 ≤ p → own0' ≤ own → sl_X (σ.1 92) (σ.1 91 3) (σ.1 95 5) stk p0 dp own0' seen0 acc0 = sl_X (σ.1 92) (σ.1 91 3) (σ.1 95 5) stk p dp own seen acc → rx_D σ rl B p dp own seen acc τ → am_X (am_FV G (d + 8) Q) mX11_parts (0, 0) 2 [some (am_r (some 91)), some (am_i rl), some (am_i e), some (am_i 1)] [] (am_K0, τ) := by
    intro f
    induction f with
    | zero =>
      intro p own seen acc τ hf hp ho hX hD
      have := hD.1.2.1.2.2.2.2.2
      exact absurd hf (by omega)
    | succ f ih =>
      intro p own seen acc τ hf hp ho hX hD
      obtain ⟨⟨a1, a2, a3⟩, -, -⟩ := id hD
      have q92 : τ.1 92 = σ.1 92 := a1.1 92 (by decide)
      have hX2 := sl_X_eq (bs := σ.1 92) (n := σ.1 91 3) (rg := σ.1 95 5) (p := p) (dp := dp) (own := own) (stk := stk) (seen := seen) (acc := acc) a2.2.2.2.2.1 a2.2.2.2.2.2 hn
      have hin := tk_in (bs := σ.1 92) (n := σ.1 91 3) (p := p) a2.2.2.2.2.2
      have hin2 := tk_in (bs := σ.1 92) (n := σ.1 91 3) (p := tk_sp (σ.1 92) (σ.1 91 3) p) hin.2.2
      have ex := sl_wd_w1 (bs := σ.1 92) (n := σ.1 91 3) (p := p) (i := 4) (c := 120) rfl
      have ey := sl_wd_w1 (bs := σ.1 92) (n := σ.1 91 3) (p := p) (i := 5) (c := 121) rfl
      refine S_X11_parts_2 (by decide) (fun z => absurd z (by decide)) (fun _ => ?_)
      refine S_X11_parts_6 (r_isGood _ a2) ?_
      rintro _ _ ⟨rfl, rfl⟩
      refine S_X11_parts_10 (by decide) (fun z => absurd z (by decide)) (fun _ => ?_)
      refine S_X11_parts_13 ?_
      -- an x or a y
      have J37 : (sl_w1 (σ.1 92) (σ.1 91 3) 120 p = true ∨ (stk = true ∧ sl_w1 (σ.1 92) (σ.1 91 3) 121 p = true)) → am_X (am_FV G (d + 8) Q) mX11_parts (0, 0) 37 [some (am_r (some 91)), some (am_i rl), some (am_i e), none] [] (am_K0, τ) := by
        intro hw
        have hkw : tk_k (σ.1 92) (σ.1 91 3) p = 97 := by
          rcases hw with z | ⟨-, z⟩ <;> (unfold sl_w1 at z; simp at z; exact z.1)
        have hlt := tk_lt (bs := σ.1 92) (n := σ.1 91 3) (p := p) (by omega)
        rw [if_neg (by omega), if_neg (by omega), if_pos hw] at hX2
        have key : ∀ (s kd : Int), ((s = 0 ∧ kd = 4) ∨ (s = 1 ∧ kd = 8)) → kd = (if sl_w1 (σ.1 92) (σ.1 91 3) 120 p = true then 4 else 8) → am_X (am_FV G (d + 8) Q) mX11_parts (0, 0) 44 [some (am_r (some 91)), some (am_i rl), some (am_i e), none] [am_i s, am_r (some 91)] (am_K0, τ) := by
          intro s kd hs hkd
          rw [← hkd] at hX2
          refine S_X11_parts_44 (c_rRegister _ h0 (by omega) hrg hs hdp hD) ?_
          rintro τ2 (⟨z1, z2⟩ | ⟨z1, z2, z3⟩ | ⟨z1, z2, z3⟩)
          · rw [if_pos z1] at hX2
            exact S_X11_parts_47 (F2 τ2 _ (hX.trans hX2) z2)
          · rw [if_neg (by omega), if_pos z2] at hX2
            exact S_X11_parts_47 (F2 τ2 _ (hX.trans hX2) z3)
          · rw [if_neg (by omega), if_neg z2] at hX2
            exact S_X11_parts_47 (ih _ _ _ _ τ2 (by omega) (by omega) ho (hX.trans hX2) z3)
        refine S_X11_parts_37 (r_isWord _ (by omega) q92 a2) ?_
        rintro _ _ ⟨rfl, rfl⟩
        rw [ey]
        by_cases hx : sl_w1 (σ.1 92) (σ.1 91 3) 120 p = true
        · have hy : ¬ sl_w1 (σ.1 92) (σ.1 91 3) 121 p = true := by
            intro hy
            unfold sl_w1 at hx hy
            have hx := of_decide_eq_true hx
            have hy := of_decide_eq_true hy
            omega
          rw [if_neg hy]
          exact key 0 4 (Or.inl ⟨rfl, rfl⟩) (by rw [if_pos hx])
        · have hy : sl_w1 (σ.1 92) (σ.1 91 3) 121 p = true := by
            rcases hw with z | z
            · exact absurd z hx
            · exact z.2
          rw [if_pos hy]
          exact key 1 8 (Or.inr ⟨rfl, rfl⟩) (by rw [if_neg hx])
      -- no x, no y
      have J52 : ¬ (sl_w1 (σ.1 92) (σ.1 91 3) 120 p = true ∨ (stk = true ∧ sl_w1 (σ.1 92) (σ.1 91 3) 121 p = true)) → am_X (am_FV G (d + 8) Q) mX11_parts (0, 0) 52 [some (am_r (some 91)), some (am_i rl), some (am_i e), some (am_i 0)] [] (am_K0, τ) := by
        intro hw
        refine S_X11_parts_52 (r_isSign _ (by omega) q92 a2) ?_
        rintro _ _ ⟨rfl, rfl⟩
        by_cases h60 : tk_k (σ.1 92) (σ.1 91 3) p = 60
        · rw [if_pos h60]
          refine S_X11_parts_58 (by decide) (fun z => absurd z (by decide)) (fun _ => ?_)
          refine S_X11_parts_61 (hel p dp own seen acc τ (by omega) hdp hD h60) ?_
          rintro τ2 (⟨F, hXF, hF⟩ | ⟨p', own', seen', acc', hp', ho', hX', hD'⟩)
          · exact S_X11_parts_67 (F2 τ2 F (hX.trans hXF) hF)
          · exact S_X11_parts_67 (ih p' own' seen' acc' τ2 (by omega) (by omega) (by omega) (hX.trans hX') hD')
        · rw [if_neg h60]
          refine S_X11_parts_58 (by decide) (fun _ => ?_) (fun z => absurd rfl z)
          refine S_X11_parts_2 (by decide) (fun _ => ?_) (fun z => absurd rfl z)
          refine S_X11_parts_72 ?_
          rw [← hY]
          exact Or.inr ⟨p, own, seen, acc, hp, ho, hX, hD, fun z => z.elim h60 hw⟩
      refine S_X11_parts_15 (r_isWord _ (by omega) q92 a2) ?_
      rintro _ _ ⟨rfl, rfl⟩
      rw [ex]
      by_cases hx : sl_w1 (σ.1 92) (σ.1 91 3) 120 p = true
      · rw [if_pos hx]
        exact S_X11_parts_21 (by decide) (fun _ => J37 (Or.inl hx)) (fun z => absurd (by decide) z)
      · rw [if_neg hx]
        refine S_X11_parts_21 (by decide) (fun z => absurd rfl z) (fun _ => ?_)
        refine S_X11_parts_24 (by omega) (fun z => ?_) (fun z => ?_)
        · refine J52 (fun y => y.elim hx (fun w => ?_))
          rcases he with h | h
          · exact z h.1
          · rw [h.2] at w; exact nomatch w.1
        · refine S_X11_parts_28 (r_isWord _ (by omega) q92 a2) ?_
          rintro _ _ ⟨rfl, rfl⟩
          rw [ey]
          by_cases hy : sl_w1 (σ.1 92) (σ.1 91 3) 121 p = true
          · rw [if_pos hy]
            refine S_X11_parts_34 (by decide) (fun y => absurd y (by decide)) (fun _ => J37 (Or.inr ⟨?_, hy⟩))
            rcases he with h | h
            · exact h.2
            · omega
          · rw [if_neg hy]
            exact S_X11_parts_34 (by decide) (fun _ => J52 (fun y => y.elim hx (fun w => hy w.2))) (fun y => absurd rfl y)
  refine S_X11_parts_0 ?_
  have hpn := hD0.1.2.1.2.2.2.2
  exact loop 700 p0 own0' seen0 acc0 τ0 (by omega) (Int.le_refl _) (Int.le_refl _) rfl hD0
theorem c_rParts {rl B e : Int} {stk : Bool} (h0 : 0 ≤ σ.1 97 5) (hB : B ≤ 432) (hn : σ.1 91 3 ≤ 600) (hrl : 0 ≤ rl ∧ rl < 24) (hrg : 1 ≤ σ.1 95 5 ∧ σ.1 95 5 ≤ 3) (he : (e = 0 ∧ stk = true) ∨ (e = 1 ∧ stk = false)) : ∀ (k d : Nat) (p dp own : Int) (seen acc : List Int) (τ : am_D), 6 - (k : Int) ≤ own → 0 ≤ dp → rx_D σ rl B p dp own seen acc τ → am_MV G (d + 2 * k + 8) mX11_parts [am_r (some 91), am_i rl, am_i e] τ (fun σ' => rx_Q σ stk rl B p dp own seen acc σ') := by
  intro k
  induction k with
  | zero =>
    intro d
    exact c_rPartsStep (d + 2 * 0) (own0 := 6 - ((0 : Nat) : Int)) h0 hB hn hrg he (c_rElement (d + 2 * 0) h0 hB hn hrl (fun p dp own seen acc τ ho _ hD => absurd hD.2.1.2.2.2.1 (by omega)))
  | succ k ih =>
    intro d
    exact c_rPartsStep (d + 2 * (k + 1)) (own0 := 6 - ((k + 1 : Nat) : Int)) h0 hB hn hrg he (c_rElement (d + 2 * (k + 1)) h0 hB hn hrl (fun p dp own seen acc τ ho hdp hD => by
      have := ih d p dp own seen acc τ (by omega) hdp hD
      rw [show d + 2 * k + 8 = d + 2 * (k + 1) + 6 by omega] at this
      exact this))
end
