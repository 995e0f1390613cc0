section
/-! Step by step: the READING. -/
abbrev ab_R : Type := Option (am_P × List Int)
def cx_R (σ : am_D) (r : ab_R) : Prop := match r with
  | none => σ.2.2 12 4 = none
  | some p => ∃ m, cd_I σ 12 m p.1 p.2
def rx_R (σ : am_D) (r : ab_R) : Prop := match r with
  | none => σ.1 91 49 = 0
  | some p => (σ.1 91 49 = 1 ∧ σ.1 91 50 = p.2.length ∧ σ.1 91 51 = (p.2.length : Int) - (rd_c3n p.2 : Nat)) ∧ rm_T σ 4 p.1 ∧ (pm_ok p.1 ∧ pm_wf p.1) ∧ ((∀ e ∈ p.2, 0 ≤ e ∧ e ≤ 3) ∧ rd_c3n p.2 ≤ 400 ∧ p.2.length ≤ 800) ∧ ∃ C mo, rd_run p.1 p.2 rd_0 0 = some (C, mo) ∧ rr_I σ 0 C mo
def an_q (P : am_P) (w : List Int) : Int := match rd_run P w rd_0 0 with
  | some c => rd_q c.1
  | none => -1
def an_st (r : ab_R) : Int := match r with
  | none => -1
  | some p => an_q p.1 p.2
def an_fn (r : ab_R) : Option (List Int) := match r with
  | none => none
  | some p => rd_tr p.1 p.2
def an_fx (r : ab_R) : Int := match an_fn r with
  | none => -1
  | some o => (o.length : Int) / 2
variable {G : am_G} {σ : am_D} {M : ab_M}
theorem c_xstate (d : Nat) {r : ab_R} (hR : cx_R σ r) : am_MI G (d + 3) mX10_state [am_r (some 0)] σ (fun x σ' => x = an_st r ∧ σ = σ') := by
  refine am_M.go (by decide) (Nat.le_of_ble_eq_true rfl) rfl ?_
  cases r with
  | none =>
    have hR : σ.2.2 12 4 = none := hR
    exact S_X10_state_0 (fun _ => S_X10_state_10 (S_X10_state_22 ⟨rfl, rfl⟩)) (fun a z => by rw [hR] at z; exact nomatch z)
  | some p =>
    obtain ⟨m, hI⟩ := (hR : ∃ m, cd_I σ 12 m p.1 p.2)
    obtain ⟨C, mo, hC⟩ := hI.run
    have hX := (hI.cells hC).1
    have h5 := hI.2.2.1
    refine S_X10_state_0 (fun z => by rw [hI.1] at z; exact nomatch z) (fun _ _ => ?_)
    refine S_X10_state_14 (c_now _ (Or.inl rfl) h5.1 h5.2.2.1 (by omega)) ?_
    rintro _ _ ⟨rfl, rfl⟩
    refine S_X10_state_22 ⟨?_, rfl⟩
    show _ = an_q p.1 p.2
    unfold an_q
    rw [hC]
    exact hX.1.1
theorem r_xstate (d : Nat) {r : ab_R} (hR : rx_R σ r) : am_MI G (d + 1) mX11_state [am_r (some 91)] σ (fun x σ' => x = an_st r ∧ σ = σ') := by
  refine am_M.go (by decide) (Nat.le_of_ble_eq_true rfl) rfl ?_
  cases r with
  | none =>
    have hR : σ.1 91 49 = 0 := hR
    exact S_X11_state_0 (by omega) (fun _ => S_X11_state_16 (S_X11_state_17 ⟨rfl, rfl⟩)) (fun z => absurd hR z)
  | some p =>
    obtain ⟨⟨h49, -⟩, -, -, -, C, mo, hC, hI⟩ := (show _ ∧ _ from hR)
    refine S_X11_state_0 (by omega) (fun z => absurd z (by omega)) (fun _ => ?_)
    refine S_X11_state_7 (S_X11_state_17 ⟨?_, rfl⟩)
    show _ = an_q p.1 p.2
    unfold an_q
    rw [hC]
    exact hI.1.1
def an_bg (M : ab_M) (k : Int) (r : ab_R) : Int × ab_R := match ab_t M k with
  | none => (-1, r)
  | some P => (0, some (P, []))
theorem c_xbegin (d : Nat) {k : Int} {r : ab_R} (hk : -2147483648 ≤ k ∧ k ≤ 2147483647) (hM : cx_M σ M) (hR : cx_R σ r) : am_MI G (d + 3) mX10_begin [am_r (some 0), am_i k] σ (fun x σ' => x = (an_bg M k r).1 ∧ cx_R σ' (an_bg M k r).2 ∧ (∀ b, b ≠ 12 → b ≠ 13 → σ'.1 b = σ.1 b) ∧ σ'.2.1 = σ.2.1 ∧ ∀ a, a ≠ 12 → σ'.2.2 a = σ.2.2 a) := by
  refine am_M.go (by decide) (Nat.le_of_ble_eq_true rfl) rfl ?_
  refine S_X10_begin_0 (c_told _ hk hM) ?_
  rintro x _ ⟨hx, rfl⟩
  unfold an_bg
  rcases hx with ⟨rfl, h⟩ | ⟨m, P, rfl, h, hP⟩
  · rw [h]
    exact S_X10_begin_6 (fun _ => S_X10_begin_10 ⟨rfl, hR, fun _ _ _ => rfl, rfl, fun _ _ => rfl⟩) (fun a z => nomatch z)
  rw [h]
  refine S_X10_begin_6 (fun z => nomatch z) (fun _ _ => ?_)
  refine S_X10_begin_12 (c_start _ (Or.inl rfl) hP) ?_
  rintro τ ⟨hI, g1, g2, g3⟩
  have hX := (hI.cells (C := rd_0) (mo := 0) rfl).1
  have h5 := hI.2.2.1
  refine S_X10_begin_20 (c_now _ (Or.inl rfl) h5.1 h5.2.2.1 (by omega)) ?_
  rintro _ _ ⟨rfl, rfl⟩
  exact ⟨hX.1.1, ⟨m, hI⟩, g1, g2, fun a ha => by rw [g3, am_up_ne ha]⟩
theorem c_xfinish (d : Nat) {r : ab_R} {out : List Int} (hR : cx_R σ r) (hE : am_E σ 10 out) : am_MI G (d + 5) mX10_finish [am_r (some 0)] σ (fun x σ' => x = an_fx r ∧ cx_R σ' (if (an_fn r).isSome then none else r) ∧ am_E σ' 10 ((an_fn r).getD out) ∧ (∀ b, b ∉ [10, 11, 12, 14, 15] → σ'.1 b = σ.1 b) ∧ σ'.2.1 = σ.2.1 ∧ ∀ a, a ≠ 12 → σ'.2.2 a = σ.2.2 a) := by
  refine am_M.go (by decide) (Nat.le_of_ble_eq_true rfl) rfl ?_
  have no : an_fn r = none → am_X (am_FI G (d + 5) (fun x σ' => x = an_fx r ∧ cx_R σ' (if (an_fn r).isSome then none else r) ∧ am_E σ' 10 ((an_fn r).getD out) ∧ (∀ b, b ∉ [10, 11, 12, 14, 15] → σ'.1 b = σ.1 b) ∧ σ'.2.1 = σ.2.1 ∧ ∀ a, a ≠ 12 → σ'.2.2 a = σ.2.2 a)) mX10_finish (0, 0) 20 [none] [] (am_K0, σ) := by
    intro z
    refine S_X10_finish_20 ⟨by unfold an_fx; rw [z], ?_, ?_, fun _ _ => rfl, rfl, fun _ _ => rfl⟩
    · rw [z]; exact hR
    · rw [z]; exact hE
  cases r with
  | none =>
    have hR : σ.2.2 12 4 = none := hR
    exact S_X10_finish_0 (fun _ => no rfl) (fun a z => by rw [hR] at z; exact nomatch z)
  | some p =>
    obtain ⟨P, w⟩ := p
    obtain ⟨m, hI⟩ := (hR : ∃ m, cd_I σ 12 m P w)
    obtain ⟨C, mo, hC, ⟨hCI, -⟩, hu, -⟩ := hI.C
    have h3 := hI.2.2.1.2.2.2
    have hk : cd_k 12 = 400 := by decide
    refine S_X10_finish_0 (fun z => by rw [hI.1] at z; exact nomatch z) (fun _ _ => ?_)
    refine S_X10_finish_10 (c_canEnd _ (Or.inl rfl) hI hC) ?_
    rintro x _ ⟨hx, rfl⟩
    rcases hx with ⟨rfl, hc⟩ | ⟨rfl, hc⟩
    rotate_left
    · exact S_X10_finish_17 (by decide) (fun z => absurd rfl z) (fun _ => no (rd_tr_cannot hC hc))
    obtain ⟨hs, v, hv, htr⟩ := rd_tr_can hC hc
    have hfn : an_fn (some (P, w)) = some (rd_sg (rd_out C v)) := htr
    obtain ⟨-, -, -, o4, -⟩ := rd_out_ok hI.2.1.2.2.2.1 hI.2.1.2.2.2.2 hCI hv
    have hes : am_es 10 = 4812 := by decide
    refine S_X10_finish_17 (by decide) (fun _ => ?_) (fun z => absurd (by decide) z)
    refine S_X10_finish_22 (c_write _ (Or.inl rfl) hI hC hs hv) ?_
    rintro τ ⟨hf, hI2, hO⟩
    refine S_X10_finish_29 (c_receive _ (Or.inr (Or.inr rfl)) (Or.inl rfl) hO (by omega)) ?_
    rintro τ1 ⟨hE1, hf1⟩
    refine S_X10_finish_40 ?_
    have hE2 : am_E (am_pR τ1 12 4 none) 10 (rd_sg (rd_out C v)) := hE1
    refine S_X10_finish_48 (c_elements _ (Or.inr (Or.inr rfl)) hE2) ?_
    rintro _ _ ⟨rfl, rfl⟩
    refine ⟨?_, ?_, ?_, fun b hb => ?_, ?_, fun a ha => ?_⟩
    · unfold an_fx
      rw [hfn]
      exact Int.tdiv_eq_ediv_of_nonneg (by omega)
    · rw [hfn]
      show am_up τ1.2.2 12 4 none 12 4 = none
      exact am_up_at
    · rw [hfn]; exact hE2
    · simp at hb
      show τ1.1 b = σ.1 b
      rw [hf1.1 b (by simp; omega), hf.1 b (by simp; omega)]
    · show τ1.2.1 = σ.2.1
      rw [hf1.2, hf.2]
    · show am_up τ1.2.2 12 4 none a = σ.2.2 a
      rw [am_up_ne ha, hf1.2, hf.2]
theorem r_xfinish (d : Nat) {r : ab_R} {out : List Int} (hR : rx_R σ r) (hO : rx_O σ out) : am_MI G (d + 4) mX11_finish [am_r (some 91)] σ (fun x σ' => x = an_fx r ∧ rx_R σ' (if (an_fn r).isSome then none else r) ∧ rx_O σ' ((an_fn r).getD out) ∧ am_only (109 :: rr_A) σ σ' ∧ am_kpt [27, 43, 44, 45, 49] (σ.1 91) (σ'.1 91)) := by
  refine am_M.go (by decide) (Nat.le_of_ble_eq_true rfl) rfl ?_
  have no : an_fn r = none → am_X (am_FI G (d + 4) (fun x σ' => x = an_fx r ∧ rx_R σ' (if (an_fn r).isSome then none else r) ∧ rx_O σ' ((an_fn r).getD out) ∧ am_only (109 :: rr_A) σ σ' ∧ am_kpt [27, 43, 44, 45, 49] (σ.1 91) (σ'.1 91))) mX11_finish (0, 0) 25 [none] [] (am_K0, σ) := by
    intro z
    refine S_X11_finish_25 ⟨by unfold an_fx; rw [z], ?_, ?_, am_only.rfl', am_kpt.rfl'⟩
    · rw [z]; exact hR
    · rw [z]; exact hO
  cases r with
  | none =>
    have hR : σ.1 91 49 = 0 := hR
    exact S_X11_finish_0 (by omega) (fun _ => no rfl) (fun z => absurd hR z)
  | some p =>
    obtain ⟨P, w⟩ := p
    obtain ⟨⟨h49, -⟩, hT, ⟨hP, hW⟩, ⟨hw, h3, hlw⟩, C, mo, hC, hI⟩ := (show _ ∧ _ from hR)
    dsimp only at hT hP hW hw h3 hlw hC
    obtain ⟨hCI, ⟨-, hu⟩, hlen, -⟩ := rd_run_inv hP hW w rd_0 C 0 mo hw (rd_I_0 hP) ⟨Int.le_refl _, Int.le_refl _⟩ hC
    have hu : rd_u C ≤ 0 + 12 * (rd_c3n w : Nat) := hu
    have e114 := hI.1.2.1
    refine S_X11_finish_0 (by omega) (fun z => absurd z (by omega)) (fun _ => ?_)
    by_cases hs : rd_s C = []
    rotate_left
    · have : 0 < (rd_s C).length := List.length_pos_iff.mpr hs
      have e0 : (rd_s rd_0).length = 0 := rfl
      exact S_X11_finish_7 (by omega) (fun _ => no (rd_tr_cannot hC (fun z => hs z.1))) (fun z => absurd (by omega) z)
    have hl0 : (rd_s C).length = 0 := by rw [hs]; rfl
    refine S_X11_finish_7 (by omega) (fun z => absurd z (by omega)) (fun _ => ?_)
    refine S_X11_finish_16 (r_canEnd _ (by omega) (by omega) hT hP hCI hI) ?_
    rintro x _ ⟨hx, rfl⟩
    rcases hx with ⟨rfl, hc⟩ | ⟨rfl, hc⟩
    rotate_left
    · exact S_X11_finish_22 (by decide) (fun z => absurd rfl z) (fun _ => no (rd_tr_cannot hC (fun z => z.2 hc)))
    obtain ⟨-, v, hv, htr⟩ := rd_tr_can hC ⟨hs, hc⟩
    have hfn : an_fn (some (P, w)) = some (rd_sg (rd_out C v)) := htr
    obtain ⟨-, -, -, o4, -⟩ := rd_out_ok hP hW hCI hv
    have hsl : (rd_sg (rd_out C v)).length = (rd_out C v).length := by unfold rd_sg; rw [List.length_map]
    refine S_X11_finish_22 (by decide) (fun _ => ?_) (fun z => absurd (by decide) z)
    refine S_X11_finish_27 (r_writes _ (by omega) (by omega) (Or.inl rfl) hT hP hW hCI (by omega) hv hI) ?_
    rintro x τ1 ⟨rfl, hL1, τ0, hf0, ho⟩
    refine S_X11_finish_38 (S_X11_finish_41 ?_)
    generalize hρ : am_pI (am_pI τ1 91 27 (rd_out C v).length) 91 49 0 = ρ
    have r27 : ρ.1 91 27 = (rd_out C v).length := by rw [← hρ, am_pI_nj (by decide), am_pI_at]
    have r49 : ρ.1 91 49 = 0 := by rw [← hρ, am_pI_at]
    have ro : ∀ a, a ≠ 91 → ρ.1 a = τ1.1 a := fun a ha => by rw [← hρ, am_pI_of ha, am_pI_of ha]
    have rk : am_kpt [27, 49] (τ1.1 91) (ρ.1 91) := by
      rw [← hρ, am_pI_row, am_pI_row]
      exact (am_kpt.u1 (by decide)).trans (am_kpt.u1 (by decide))
    refine S_X11_finish_46 (by omega) ⟨?_, ?_, ?_, ⟨fun a ha => ?_, ?_⟩, fun j hj => ?_⟩
    · unfold an_fx
      rw [hfn, r27]
      show _ = ((rd_sg (rd_out C v)).length : Int) / 2
      rw [hsl]
      exact Int.tdiv_eq_ediv_of_nonneg (by omega)
    · rw [hfn]; exact r49
    · rw [hfn]
      exact ⟨by rw [r27]; show _ = (((rd_sg (rd_out C v)).length : Nat) : Int); rw [hsl], by rw [ro 109 (by decide)]; exact hL1, by show (rd_sg (rd_out C v)).length ≤ 4812; omega⟩
    · rw [List.mem_cons, not_or] at ha
      rw [ro a (fun z => ha.2 (by rw [z]; decide)), ho.1 a (fun z => ha.1 (List.mem_singleton.mp z)), hf0.1.1 a ha.2]
    · rw [← hρ]
      show τ1.2 = σ.2
      rw [ho.2, hf0.1.2]
    · simp at hj
      rw [rk j (by simp; omega), ho.1 91 (by decide), hf0.2.1 j (by simp; omega)]
end
