section
variable {G : am_G} {σ : am_D} {M : ab_M}
theorem c_xrun (d : Nat) {k : Int} {doc out : List Int} (hk : -2147483648 ≤ k ∧ k ≤ 2147483647) (hM : cx_M σ M) (hE : am_E σ 6 doc) (hO : am_E σ 10 out) (hd : ab_d doc) : am_MI G (d + 6) mX10_run [am_r (some 0), am_i k] σ (fun x σ' => x = an_rx M k doc ∧ am_E σ' 10 ((an_rn M k doc).getD out) ∧ (∀ a, (a ≤ 9 ∨ (12 ≤ a ∧ a ≤ 15) ∨ a = 33 ∨ 43 ≤ a) → σ'.1 a = σ.1 a) ∧ (∀ a, 43 ≤ a → σ'.2.1 a = σ.2.1 a) ∧ ∀ a, (a ≤ 15 ∨ 43 ≤ a) → σ'.2.2 a = σ.2.2 a) := by
  have hk16 : cd_k 16 = 40 := by decide
  obtain ⟨d1, d2, d3, d4⟩ := hd
  refine am_M.go (by decide) (Nat.le_of_ble_eq_true rfl) rfl ?_
  refine S_X10_run_0 (c_told _ hk hM) ?_
  rintro x _ ⟨hx, rfl⟩
  unfold an_rx an_rn
  rcases hx with ⟨rfl, h⟩ | ⟨m, P, rfl, h, hP⟩
  · rw [h]
    exact S_X10_run_6 (fun _ => S_X10_run_26 ⟨rfl, hO, fun _ _ => rfl, fun _ _ => rfl, fun _ _ => rfl⟩) (fun a z => nomatch z)
  rw [h]
  dsimp only
  have hm1 := hP.1.1
  refine S_X10_run_6 (fun z => nomatch z) (fun _ _ => ?_)
  refine S_X10_run_10 (c_refusal _ (Or.inr (Or.inl rfl)) (Or.inl rfl) hP hE d1 (by omega) (by omega)) ?_
  rintro x τ ⟨rfl, hx1, hf⟩
  have hrg := rd_rf_rg (P := P) doc rd_0 0 (Int.le_refl _)
  by_cases z : rd_rf P doc rd_0 0 = -1
  rotate_left
  · refine S_X10_run_22 (by omega) (fun y => absurd y z) (fun _ => ?_)
    rw [rd_tr_none z]
    exact S_X10_run_26 ⟨rfl, hO.of (hf.1 10 (by decide) (by decide) (by decide) (by decide)) (hf.1 11 (by decide) (by decide) (by decide) (by decide)), fun a ha => hf.1 a (by omega) (by omega) (by omega) (by omega), fun a _ => by rw [hf.2.1], fun a ha => by rw [hf.2.2, am_up_ne (by omega)]⟩
  have hI := hx1 z
  obtain ⟨C, mo, hC⟩ := hI.run
  obtain ⟨hs, v, hv, htr⟩ := rd_tr_some z hC
  obtain ⟨b1, b2, b3, b4, b5⟩ := rd_tr_b hP.2.2.2.1 hP.2.2.2.2 d1 d4 hC hv
  rw [htr]
  dsimp only
  have hes : am_es 10 = 4812 := by decide
  refine S_X10_run_22 (by omega) (fun _ => ?_) (fun y => absurd z y)
  refine S_X10_run_28 (c_write _ (Or.inr (Or.inl rfl)) hI hC hs hv) ?_
  rintro τ1 ⟨hf1, hI1, hO1⟩
  refine S_X10_run_35 (c_receive _ (Or.inr (Or.inr rfl)) (Or.inr (Or.inl rfl)) hO1 (by omega)) ?_
  rintro τ2 ⟨hE2, hf2⟩
  refine S_X10_run_46 (c_elements _ (Or.inr (Or.inr rfl)) hE2) ?_
  rintro _ _ ⟨rfl, rfl⟩
  refine ⟨Int.tdiv_eq_ediv_of_nonneg (by omega), hE2, fun a ha => ?_, fun a _ => ?_, fun a ha => ?_⟩
  · rw [hf2.1 a (by simp; omega), hf1.1 a (by simp; omega)]
    exact hf.1 a (by omega) (by omega) (by omega) (by omega)
  · rw [hf2.2, hf1.2, hf.2.1]
  · rw [hf2.2, hf1.2, hf.2.2, am_up_ne (by omega)]
theorem r_xrun (d : Nat) {k : Int} {doc out : List Int} (hk : -2147483648 ≤ k ∧ k ≤ 2147483647) (hM : rx_M σ M) (hw : ab_w M) (hD : rx_Dc σ doc) (hO : rx_O σ out) (hd : ab_d doc) : am_MI G (d + 6) mX11_run [am_r (some 91), am_i k] σ (fun x σ' => x = an_rx M k doc ∧ rx_O σ' ((an_rn M k doc).getD out) ∧ am_only (109 :: rr_A) σ σ' ∧ am_kpt [27, 43, 44, 45] (σ.1 91) (σ'.1 91) ∧ ∀ a, 110 ≤ a → a ≤ 123 → ∀ i : Int, i < rr_sz a → σ'.1 a i = σ.1 a i) := by
  obtain ⟨d1, d2, d3, d4⟩ := hd
  refine am_M.go (by decide) (Nat.le_of_ble_eq_true rfl) rfl ?_
  refine S_X11_run_0 (r_isMachine _ hk (rx_93 hM)) ?_
  rintro x _ ⟨hx, rfl⟩
  unfold an_rx an_rn
  rcases rx_t hM hw k with ⟨a, b⟩ | ⟨a, P, b, hT, hP, hW, hdm⟩
  · rcases hx with ⟨rfl, y⟩ | ⟨rfl, -⟩
    · exact absurd y a
    rw [b]
    exact S_X11_run_5 (by decide) (fun _ => S_X11_run_26 ⟨rfl, hO, am_only.rfl', am_kpt.rfl', fun _ _ _ _ _ => rfl⟩) (fun z => absurd rfl z)
  rcases hx with ⟨rfl, -⟩ | ⟨rfl, y⟩
  rotate_left
  · exact absurd a y
  rw [b]
  dsimp only
  have hkr := a.1
  refine S_X11_run_5 (by decide) (fun z => absurd z (by decide)) (fun _ => ?_)
  have hc := r_refusedAt (G := G) (σ := σ) d (P := P) (g := 1) (sl := k) (b := 107) (w := doc) (by omega) (by omega) (by decide) sh_107 d3 hT hP hW hD.2 d1 d2 (by omega)
  rw [← hD.1] at hc
  refine S_X11_run_8 hc ?_
  rintro x τ ⟨rfl, hf, hx1⟩
  have hrg := rd_rf_rg (P := P) doc rd_0 0 (Int.le_refl _)
  have hsz : ∀ a : Nat, 0 < rr_sz a := fun a => by unfold rr_sz; split; omega; split; omega; split; omega; split <;> omega
  by_cases z : rd_rf P doc rd_0 0 = -1
  rotate_left
  · refine S_X11_run_22 (by omega) (fun y => absurd y z) (fun _ => ?_)
    rw [rd_tr_none z]
    refine S_X11_run_26 ⟨rfl, ⟨by rw [hf.2.1 27 (by decide)]; exact hO.1, by rw [hf.1.1 109 (by decide)]; exact hO.2.1, hO.2.2⟩, hf.1.sub (fun a ha => List.mem_cons_of_mem _ ha), fun j hj => hf.2.1 j (fun y => hj (List.mem_cons_of_mem _ y)), fun a y1 y2 i hi => hf.2.2 a y1 y2 i (Or.inl (by omega))⟩
  obtain ⟨C, mo, hC, hI⟩ := hx1 z
  obtain ⟨hs, v, hv, htr⟩ := rd_tr_some z hC
  obtain ⟨b1, b2, b3, b4, b5⟩ := rd_tr_b hP hW d1 d4 hC hv
  have hsl : (rd_sg (rd_out C v)).length = (rd_out C v).length := by unfold rd_sg; rw [List.length_map]
  rw [htr]
  dsimp only
  have hTτ : rm_T τ k P := rm_T_move hP hT (fun a y1 y2 j _ _ => by rw [hf.1.1 a (by simp; omega)])
  refine S_X11_run_22 (by omega) (fun _ => ?_) (fun y => absurd z y)
  refine S_X11_run_28 (r_writes _ (by omega) (by omega) (Or.inl rfl) hTτ hP hW b1 (by omega) hv hI) ?_
  rintro x τ1 ⟨rfl, hL1, τ0, hf0, ho⟩
  refine S_X11_run_39 ?_
  generalize hρ : am_pI τ1 91 27 (rd_out C v).length = ρ
  have r27 : ρ.1 91 27 = (rd_out C v).length := by rw [← hρ, am_pI_at]
  have ro : ∀ a, a ≠ 91 → ρ.1 a = τ1.1 a := fun a ha => by rw [← hρ, am_pI_of ha]
  have rk : am_kpt [27] (τ1.1 91) (ρ.1 91) := by
    rw [← hρ, am_pI_row]
    exact am_kpt.u1 (by decide)
  have r2 : ρ.2 = τ1.2 := by rw [← hρ]
  refine S_X11_run_42 (by omega) ⟨?_, ⟨?_, ?_, ?_⟩, ⟨fun a ha => ?_, by rw [r2, ho.2, hf0.1.2, hf.1.2]⟩, fun j hj => ?_, fun a y1 y2 i hi => ?_⟩
  · rw [r27, hsl]
    exact Int.tdiv_eq_ediv_of_nonneg (by omega)
  · rw [r27]
    show _ = (((rd_sg (rd_out C v)).length : Nat) : Int)
    rw [hsl]
  · rw [ro 109 (by decide)]; exact hL1
  · show (rd_sg (rd_out C v)).length ≤ 4812
    omega
  · rw [List.mem_cons, not_or] at ha
    rw [ro a (fun y => ha.2 (by rw [y]; decide)), ho.1 a (fun y => ha.1 (List.mem_singleton.mp y)), hf0.1.1 a ha.2, hf.1.1 a ha.2]
  · simp at hj
    rw [rk j (by simp; omega), ho.1 91 (by decide), hf0.2.1 j (by simp; omega), hf.2.1 j (by simp; omega)]
  · rw [ro a (by omega), ho.1 a (by simp; omega), hf0.2.2 a y1 y2 i (Or.inl (by omega)), hf.2.2 a y1 y2 i (Or.inl (by omega))]
end
