section
variable {G : am_G} {σ : am_D} {M : ab_M}
theorem r_isReadBy2 (d : Nat) {P Q : am_P} {s1 s2 : Int} {b n : Nat} {w : List Int} (h1 : 0 ≤ s1 ∧ s1 < 6) (h2 : 0 ≤ s2 ∧ s2 < 6) (hb : b ∉ rr_A) (hsb : am_sh am_SH b = (100, n)) (hn : w.length ≤ n) (hT : rm_T σ s1 P) (hP : pm_ok P) (hW : pm_wf P) (hT2 : rm_T σ s2 Q) (hP2 : pm_ok Q) (hW2 : pm_wf Q) (hL : am_isL (σ.1 b) w) (hw : ∀ x ∈ w, 0 ≤ x ∧ x ≤ 3) (hbal : rd_bal 0 w) (hl : (w.length : Int) ≤ 492) (h3 : rd_c3n w ≤ 40) : am_MI G (d + 6) mX11_isReadBy [am_r (some 91), am_i s1, am_i s2, am_r (some b), am_i w.length] σ (fun x σ' => ((x = 0 ∧ se_r P Q w = false) ∨ (x = 1 ∧ ∃ o C mo, rd_tr P w = some o ∧ (((∀ s ∈ o, 0 ≤ s ∧ s ≤ 3) ∧ rd_bal 0 o) ∧ (o.length : Int) ≤ 492) ∧ rd_rf Q o rd_0 0 = -1 ∧ rd_run Q o rd_0 0 = some (C, mo) ∧ rr_I σ' 2 C mo)) ∧ rs_f [127] σ σ') := by
  refine am_M.go (by decide) (Nat.le_of_ble_eq_true rfl) rfl ?_
  refine S_X11_isReadBy_0 (r_refusedAt _ (by omega) h1 hb hsb hn hT hP hW hL hw hbal hl) ?_
  rintro x τ ⟨rfl, hf, hx⟩
  have hf1 : rs_f [127] σ τ := hf.rs (Or.inl rfl)
  have hrg := rd_rf_rg (P := P) w rd_0 0 (Int.le_refl _)
  by_cases z : rd_rf P w rd_0 0 = -1
  rotate_left
  · refine S_X11_isReadBy_9 (by omega) (fun y => absurd y z) (fun _ => ?_)
    refine S_X11_isReadBy_13 ⟨Or.inl ⟨rfl, ?_⟩, hf1⟩
    unfold se_r
    rw [rd_tr_none z]
  obtain ⟨C, mo, hC, hI⟩ := hx z
  obtain ⟨hs, v, hv, htr⟩ := rd_tr_some z hC
  obtain ⟨b1, b2, b3, b4, b5⟩ := rd_tr_b hP hW hw h3 hC hv
  refine S_X11_isReadBy_9 (by omega) (fun _ => ?_) (fun y => absurd z y)
  refine S_X11_isReadBy_15 (r_writes _ (by omega) h1 (Or.inr (Or.inl rfl)) (hf1.T (by decide) hP hT) hP hW b1 (by omega) hv hI) ?_
  rintro x τ1 ⟨rfl, hL1, τ0, hf0, ho⟩
  have hf2 : rs_f [127] σ τ1 := (hf1.trans (hf0.rs (Or.inl rfl))).trans (ho.rs (by decide) (by decide))
  refine S_X11_isReadBy_26 ?_
  have hf3 : rs_f [127] σ (am_pI τ1 91 54 (rd_out C v).length) := hf2.trans rs_f.p54
  have e54 : (am_pI τ1 91 54 ((rd_out C v).length : Int)).1 91 54 = ((rd_sg (rd_out C v)).length : Nat) := by
    rw [am_pI_at]
    unfold rd_sg
    rw [List.length_map]
  have hsl : (rd_sg (rd_out C v)).length = (rd_out C v).length := by unfold rd_sg; rw [List.length_map]
  have hc := r_refusedAt (G := G) (σ := am_pI τ1 91 54 ((rd_out C v).length : Int)) d (P := Q) (g := 2) (sl := s2) (b := 127) (n := 5000) (w := rd_sg (rd_out C v)) (by omega) h2 (by decide) sh_127 (by omega) (hf3.T (by decide) hP2 hT2) hP2 hW2 (by rw [am_pI_of (by decide)]; exact hL1) b3.1 b3.2 (by omega)
  rw [← e54] at hc
  refine S_X11_isReadBy_29 hc ?_
  rintro x τ2 ⟨rfl, hf4, hx2⟩
  have hf5 : rs_f [127] σ τ2 := hf3.trans (hf4.rs (Or.inr rfl))
  have hrg2 := rd_rf_rg (P := Q) (rd_sg (rd_out C v)) rd_0 0 (Int.le_refl _)
  have hse : se_r P Q w = (rd_tr Q (rd_sg (rd_out C v))).isSome := by unfold se_r; rw [htr]
  by_cases z2 : rd_rf Q (rd_sg (rd_out C v)) rd_0 0 = -1
  · obtain ⟨C2, mo2, hC2, hI2⟩ := hx2 z2
    refine S_X11_isReadBy_43 (by omega) (fun y => absurd z2 y) (fun _ => ?_)
    exact S_X11_isReadBy_47 (S_X11_isReadBy_52 (Or.inr rfl) ⟨Or.inr ⟨rfl, _, C2, mo2, htr, ⟨b3, by omega⟩, z2, hC2, hI2⟩, hf5⟩)
  · refine S_X11_isReadBy_43 (by omega) (fun _ => ?_) (fun y => absurd z2 y)
    refine S_X11_isReadBy_51 (S_X11_isReadBy_52 (Or.inl rfl) ⟨Or.inl ⟨rfl, ?_⟩, hf5⟩)
    rw [hse, rd_tr_none z2]
    rfl
end
