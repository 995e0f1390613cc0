section
def an_pk (M : ab_M) (k : Int) (doc : List Int) : Int := match ab_t M k with
  | none => -1
  | some P => if rd_rf P doc rd_0 0 = -1 then (match rd_run P doc rd_0 0 with
    | some c => c.2
    | none => -1) else -1
variable {G : am_G} {σ : am_D} {M : ab_M}
theorem c_xpeak (d : Nat) {k : Int} {doc : List Int} (hk : -2147483648 ≤ k ∧ k ≤ 2147483647) (hM : cx_M σ M) (hE : am_E σ 6 doc) (hd : ab_d doc) : am_MI G (d + 6) mX10_peak [am_r (some 0), am_i k] σ (fun x σ' => x = an_pk M k doc ∧ cq_g σ σ') := by
  have hk16 : cd_k 16 = 40 := by decide
  obtain ⟨d1, d2, d3, d4⟩ := hd
  refine am_M.go (by decide) (Nat.le_of_ble_eq_true rfl) rfl ?_
  refine S_X10_peak_0 (c_told _ hk hM) ?_
  rintro x _ ⟨hx, rfl⟩
  unfold an_pk
  rcases hx with ⟨rfl, h⟩ | ⟨m, P, rfl, h, hP⟩
  · rw [h]
    exact S_X10_peak_6 (fun _ => S_X10_peak_26 ⟨rfl, cq_g.rfl'⟩) (fun a z => nomatch z)
  rw [h]
  dsimp only
  refine S_X10_peak_6 (fun z => nomatch z) (fun _ _ => ?_)
  refine S_X10_peak_10 (c_refusal _ (Or.inr (Or.inl rfl)) (Or.inl rfl) hP hE d1 (by omega) (by omega)) ?_
  rintro x τ ⟨rfl, hx1, hf⟩
  have hrg := rd_rf_rg (P := P) doc rd_0 0 (Int.le_refl _)
  by_cases z : rd_rf P doc rd_0 0 = -1
  · have hI := hx1 z
    obtain ⟨C, mo, hC⟩ := hI.run
    have hX := (hI.cells hC).1
    have h5 := hI.2.2.1
    refine S_X10_peak_22 (by omega) (fun _ => ?_) (fun y => absurd z y)
    refine S_X10_peak_28 (c_now _ (Or.inr (Or.inl rfl)) h5.1 h5.2.2.1 (by omega)) ?_
    rintro _ _ ⟨rfl, rfl⟩
    refine ⟨?_, hf.cq⟩
    rw [if_pos z, hC]
    exact hX.1.2.2.2.1
  · refine S_X10_peak_22 (by omega) (fun y => absurd y z) (fun _ => ?_)
    exact S_X10_peak_26 ⟨by rw [if_neg z], hf.cq⟩
theorem r_xpeak (d : Nat) {k : Int} {doc : List Int} (hk : -2147483648 ≤ k ∧ k ≤ 2147483647) (hM : rx_M σ M) (hw : ab_w M) (hD : rx_Dc σ doc) (hd : ab_d doc) : am_MI G (d + 6) mX11_peak [am_r (some 91), am_i k] σ (fun x σ' => x = an_pk M k doc ∧ rr_fr 1 σ σ') := by
  obtain ⟨d1, d2, d3, d4⟩ := hd
  refine am_M.go (by decide) (Nat.le_of_ble_eq_true rfl) rfl ?_
  refine S_X11_peak_0 (r_isMachine _ hk (rx_93 hM)) ?_
  rintro x _ ⟨hx, rfl⟩
  unfold an_pk
  rcases rx_t hM hw k with ⟨a, b⟩ | ⟨a, P, b, hT, hP, hW, hdm⟩
  · rcases hx with ⟨rfl, y⟩ | ⟨rfl, -⟩
    · exact absurd y a
    rw [b]
    exact S_X11_peak_5 (by decide) (fun _ => S_X11_peak_35 (S_X11_peak_36 ⟨rfl, rr_fr.rfl'⟩)) (fun z => absurd rfl z)
  rcases hx with ⟨rfl, -⟩ | ⟨rfl, y⟩
  rotate_left
  · exact absurd a y
  rw [b]
  dsimp only
  have hkr := a.1
  refine S_X11_peak_5 (by decide) (fun z => absurd z (by decide)) (fun _ => ?_)
  have hc := r_refusedAt (G := G) (σ := σ) d (P := P) (g := 1) (sl := k) (b := 107) (w := doc) (by omega) (by omega) (by decide) sh_107 d3 hT hP hW hD.2 d1 d2 (by omega)
  rw [← hD.1] at hc
  refine S_X11_peak_8 hc ?_
  rintro x τ ⟨rfl, hf, hx1⟩
  have hrg := rd_rf_rg (P := P) doc rd_0 0 (Int.le_refl _)
  by_cases z : rd_rf P doc rd_0 0 = -1
  · obtain ⟨C, mo, hC, hI⟩ := hx1 z
    refine S_X11_peak_22 (by omega) (fun y => absurd z y) (fun _ => ?_)
    refine S_X11_peak_26 (S_X11_peak_36 ⟨?_, hf⟩)
    rw [if_pos z, hC]
    exact hI.1.2.2.2
  · refine S_X11_peak_22 (by omega) (fun _ => ?_) (fun y => absurd z y)
    exact S_X11_peak_35 (S_X11_peak_36 ⟨by rw [if_neg z], hf⟩)
/-- how many are told -/
def ab_n (M : ab_M) : Nat := pm_ct (fun j => (M j).isSome) 4
theorem c_toldMachines (d : Nat) (hM : cx_M σ M) : am_MI G (d + 1) mX10_toldMachines [am_r (some 0)] σ (fun x σ' => x = ab_n M ∧ σ = σ') := by
  refine am_M.go (by decide) (Nat.le_of_ble_eq_true rfl) rfl ?_
  refine S_X10_toldMachines_0 (S_X10_toldMachines_2 ?_)
  have loop : ∀ (n i : Nat), i + n = 4 → am_X (am_FI G (d + 1) (fun x σ' => x = ab_n M ∧ σ = σ')) mX10_toldMachines (0, 0) 4 [some (am_r (some 0)), some (am_i (pm_ct (fun j => (M j).isSome) i)), some (am_i i)] [] (am_K0, σ) := by
    intro n
    induction n with
    | zero =>
      intro i hi
      refine S_X10_toldMachines_4 (by omega) (fun _ => ?_) (fun z => absurd (by omega) z)
      refine S_X10_toldMachines_31 ⟨?_, rfl⟩
      rw [show i = 4 by omega]
      rfl
    | succ n ih =>
      intro i hi
      have hnx := ih (i + 1) (by omega)
      rw [pm_ct_s] at hnx
      refine S_X10_toldMachines_4 (by omega) (fun z => absurd z (by omega)) (fun _ => ?_)
      rcases hM i (by omega) (by omega) with ⟨a1, a2⟩ | ⟨m, P, a1, a2, -⟩
      · refine S_X10_toldMachines_13 (by omega) (by omega) (fun _ => ?_) (fun a y => by rw [a1] at y; exact nomatch y)
        refine S_X10_toldMachines_25 ?_
        rw [a2] at hnx
        exact hnx
      · refine S_X10_toldMachines_13 (by omega) (by omega) (fun y => by rw [a1] at y; exact nomatch y) (fun _ _ => ?_)
        refine S_X10_toldMachines_22 (S_X10_toldMachines_25 ?_)
        rw [a2] at hnx
        exact hnx
  exact loop 4 0 rfl
theorem r_machines (d : Nat) (hM : rx_M σ M) : am_MI G (d + 1) mX11_machines [am_r (some 91)] σ (fun x σ' => x = ab_n M ∧ σ = σ') := by
  refine am_M.go (by decide) (Nat.le_of_ble_eq_true rfl) rfl ?_
  refine S_X11_machines_0 (S_X11_machines_2 ?_)
  have loop : ∀ (n i : Nat), i + n = 4 → am_X (am_FI G (d + 1) (fun x σ' => x = ab_n M ∧ σ = σ')) mX11_machines (0, 0) 4 [some (am_r (some 91)), some (am_i (pm_ct (fun j => (M j).isSome) i)), some (am_i i)] [] (am_K0, σ) := by
    intro n
    induction n with
    | zero =>
      intro i hi
      refine S_X11_machines_4 (by omega) (fun _ => ?_) (fun z => absurd (by omega) z)
      refine S_X11_machines_32 ⟨?_, rfl⟩
      rw [show i = 4 by omega]
      rfl
    | succ n ih =>
      intro i hi
      have hnx := ih (i + 1) (by omega)
      rw [pm_ct_s] at hnx
      refine S_X11_machines_4 (by omega) (fun z => absurd z (by omega)) (fun _ => ?_)
      rcases hM i (by omega) (by omega) with ⟨a1, a2⟩ | ⟨a1, P, a2, -⟩
      · refine S_X11_machines_9 (by omega) (by omega) (by omega) (fun _ => ?_) (fun y => absurd a1 y)
        refine S_X11_machines_23 (S_X11_machines_24 (S_X11_machines_26 ?_))
        rw [a2] at hnx
        rw [Int.add_zero]
        exact hnx
      · refine S_X11_machines_9 (by omega) (by omega) (by omega) (fun y => absurd y (by omega)) (fun _ => ?_)
        refine S_X11_machines_19 (S_X11_machines_24 (S_X11_machines_26 ?_))
        rw [a2] at hnx
        exact hnx
  exact loop 4 0 rfl
end
