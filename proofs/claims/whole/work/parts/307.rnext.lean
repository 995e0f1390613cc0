section
variable {G : am_G} {σ : am_D}
theorem r_xnext (d : Nat) {r : ab_R} {e : Int} (he : -2147483648 ≤ e ∧ e ≤ 2147483647) (hR : rx_R σ r) (hb : ab_rb r) : am_MI G (d + 5) mX11_next [am_r (some 91), am_i e] σ (fun x σ' => ∃ r', an_nx r e x r' ∧ rx_R σ' r' ∧ am_only rr_A σ σ' ∧ am_kpt [43, 44, 45, 50, 51] (σ.1 91) (σ'.1 91)) := by
  refine am_M.go (by decide) (Nat.le_of_ble_eq_true rfl) rfl ?_
  cases r with
  | none =>
    have h49 : σ.1 91 49 = 0 := hR
    exact S_X11_next_0 (by omega) (fun _ => S_X11_next_16 ⟨none, ⟨rfl, rfl⟩, hR, am_only.rfl', am_kpt.rfl'⟩) (fun z => absurd h49 z)
  | some p =>
    obtain ⟨P, w⟩ := p
    have hR' := hR
    obtain ⟨⟨h49, h50, h51⟩, hT, ⟨hP, hW⟩, ⟨hw, h3, hlw⟩, C, mo, hC, hI⟩ := (show _ ∧ _ from hR')
    have hb' := hb
    obtain ⟨-, -, hno, hdp⟩ := (show _ ∧ _ from hb')
    dsimp only at h50 h51 hT hP hW hw h3 hlw hC hno hdp
    have hdp := hdp C mo hC
    obtain ⟨hl, hCI, hu, hmo⟩ := rd_lens hP hW hw hC
    have e114 := hI.1.2.1
    have hno' : an_no w = (w.length : Int) - (rd_c3n w : Nat) := rfl
    have stay : ∀ x : Int, an_nx (some (P, w)) e x (some (P, w)) → ∃ r', an_nx (some (P, w)) e x r' ∧ rx_R σ r' ∧ am_only rr_A σ σ ∧ am_kpt [43, 44, 45, 50, 51] (σ.1 91) (σ.1 91) := fun x h => ⟨some (P, w), h, hR, am_only.rfl', am_kpt.rfl'⟩
    refine S_X11_next_0 (by omega) (fun z => absurd z (by omega)) (fun _ => ?_)
    refine S_X11_next_7 (c_isIn _ he (by omega) (by omega)) ?_
    rintro _ _ ⟨rfl, rfl⟩
    by_cases her : 0 ≤ e ∧ e ≤ 3
    rotate_left
    · rw [if_neg her]
      refine S_X11_next_13 (by decide) (fun z => absurd rfl z) (fun _ => ?_)
      exact S_X11_next_16 (stay (-1) (Or.inl ⟨her, rfl, rfl⟩))
    rw [if_pos her]
    refine S_X11_next_13 (by decide) (fun _ => ?_) (fun z => absurd (by decide) z)
    have two : an_nz C w e → an_nx (some (P, w)) e (-2) (some (P, w)) := fun z => Or.inr ⟨her, C, mo, hC, Or.inl ⟨z, rfl, rfl⟩⟩
    have step : ¬ an_nz C w e → am_X (am_FI G (d + 5) (fun x σ' => ∃ r', an_nx (some (P, w)) e x r' ∧ rx_R σ' r' ∧ am_only rr_A σ σ' ∧ am_kpt [43, 44, 45, 50, 51] (σ.1 91) (σ'.1 91))) mX11_next (0, 0) 59 [some (am_r (some 91)), some (am_i e)] [] (am_K0, σ) := by
      intro z
      have z' := z
      unfold an_nz at z'
      have hc3 : (rd_c3n w : Int) ≤ 399 := by
        by_cases e3 : e = 3
        · rw [if_pos e3] at z'; omega
        · rw [if_neg e3] at z'; omega
      refine S_X11_next_59 (r_reads _ (by omega) (by omega) hT hP hW her hCI (fun e3 hs => by rw [if_pos e3, hs] at z'; exact z' rfl) (by split <;> omega) (by omega) (by omega) hI) ?_
      intro x τ hx
      rcases hx with ⟨rfl, hs, rfl⟩ | ⟨rfl, C', hs, hI', hf⟩
      · refine S_X11_next_66 (by decide) (fun y => absurd rfl y) (fun _ => ?_)
        exact S_X11_next_69 (stay (-1) (Or.inr ⟨her, C, mo, hC, Or.inr (Or.inl ⟨z, hs, rfl, rfl⟩)⟩))
      refine S_X11_next_66 (by decide) (fun _ => ?_) (fun y => absurd (by decide) y)
      refine S_X11_next_71 ?_
      have t50 : τ.1 91 50 = w.length := by rw [hf.2.1 50 (by decide)]; exact h50
      have t51 : τ.1 91 51 = (w.length : Int) - (rd_c3n w : Nat) := by rw [hf.2.1 51 (by decide)]; exact h51
      have t49 : τ.1 91 49 = 1 := by rw [hf.2.1 49 (by decide)]; exact h49
      have fin : ∀ y : Int, y = (if e = 3 then 0 else 1) → am_X (am_FI G (d + 5) (fun x σ' => ∃ r', an_nx (some (P, w)) e x r' ∧ rx_R σ' r' ∧ am_only rr_A σ σ' ∧ am_kpt [43, 44, 45, 50, 51] (σ.1 91) (σ'.1 91))) mX11_next (0, 0) 96 [some (am_r (some 91)), none] [am_i y, am_i ((am_pI τ 91 50 (τ.1 91 50 + 1)).1 91 51), am_r (some 91)] (am_K0, am_pI τ 91 50 (τ.1 91 50 + 1)) := by
        intro y hy
        refine S_X11_next_96 ?_
        generalize hρ : am_pI (am_pI τ 91 50 (τ.1 91 50 + 1)) 91 51 ((am_pI τ 91 50 (τ.1 91 50 + 1)).1 91 51 + y) = ρ
        have ro : ∀ a, a ≠ 91 → ρ.1 a = τ.1 a := fun a ha => by rw [← hρ, am_pI_of ha, am_pI_of ha]
        have r50 : ρ.1 91 50 = w.length + 1 := by rw [← hρ, am_pI_nj (by decide), am_pI_at, t50]
        have r51 : ρ.1 91 51 = (w.length : Int) - (rd_c3n w : Nat) + y := by rw [← hρ, am_pI_at, am_pI_nj (by decide), t51]
        have rk : am_kpt [50, 51] (τ.1 91) (ρ.1 91) := by
          rw [← hρ, am_pI_row, am_pI_row]
          exact (am_kpt.u1 (by decide)).trans (am_kpt.u1 (by decide))
        have r49 : ρ.1 91 49 = 1 := by rw [rk 49 (by decide)]; exact t49
        have r2 : ρ.2 = τ.2 := by rw [← hρ]
        have hIρ : rr_I ρ 0 C' (max mo (rd_held C')) := by
          obtain ⟨hCI', hb1, hb2, -⟩ := rd_step_I hP hW her hCI hs
          refine hI'.keepq hCI' (by split at hb1 <;> omega) (by split at hb2 <;> omega) (fun a y1 y2 i _ _ => by rw [ro a (by omega)])
        have hTρ : rm_T ρ 4 P := rm_T_move hP hT (fun a y1 y2 j _ _ => by rw [ro a (by omega), hf.1.1 a (by simp; omega)])
        refine S_X11_next_100 ⟨some (P, w ++ [e]), Or.inr ⟨her, C, mo, hC, Or.inr (Or.inr ⟨z, C', hs, hIρ.1.1, rfl⟩)⟩, ⟨⟨r49, ?_, ?_⟩, hTρ, ⟨hP, hW⟩, ⟨fun y' hy' => ?_, ?_, ?_⟩, C', max mo (rd_held C'), rd_run_snoc hC hs, hIρ⟩, ⟨fun a ha => ?_, by rw [r2, hf.1.2]⟩, fun j hj => ?_⟩
        · show _ = (((w ++ [e]).length : Nat) : Int)
          rw [r50, List.length_append]; rfl
        · show _ = (((w ++ [e]).length : Nat) : Int) - (rd_c3n (w ++ [e]) : Nat)
          rw [r51, rd_c3n_s, List.length_append, hy]
          show _ = ((w.length + 1 : Nat) : Int) - _
          by_cases e3 : e = 3
          · rw [if_pos e3, if_pos e3]; omega
          · rw [if_neg e3, if_neg e3]; omega
        · rcases List.mem_append.mp hy' with hy' | hy'
          · exact hw y' hy'
          · rw [List.mem_singleton.mp hy']; exact her
        · show rd_c3n (w ++ [e]) ≤ 400
          rw [rd_c3n_s]
          split <;> omega
        · show (w ++ [e]).length ≤ 800
          rw [List.length_append]
          show w.length + 1 ≤ 800
          by_cases e3 : e = 3
          · rw [if_pos e3] at z'; omega
          · rw [if_neg e3] at z'; omega
        · rw [ro a (fun y1 => ha (by rw [y1]; decide)), hf.1.1 a ha]
        · simp at hj
          rw [rk j (by simp; omega), hf.2.1 j (by simp; omega)]
      refine S_X11_next_81 he (fun y => S_X11_next_95 (fin 1 (by rw [if_neg y]))) (fun y => S_X11_next_91 (fin 0 (by rw [if_pos (by omega)])))
    by_cases e3 : e = 3
    · refine S_X11_next_18 he (fun y => absurd e3 y) (fun _ => ?_)
      refine S_X11_next_23 (by omega) (fun y => step ?_) (fun y => S_X11_next_32 (S_X11_next_56 (stay (-2) (two ?_))))
      · unfold an_nz; rw [if_pos e3]; omega
      · unfold an_nz; rw [if_pos e3]; omega
    · refine S_X11_next_18 he (fun _ => ?_) (fun y => absurd e3 y)
      refine S_X11_next_35 (by omega) (fun y => S_X11_next_56 (stay (-2) (two ?_))) (fun y => ?_)
      · unfold an_nz; rw [if_neg e3]; omega
      refine S_X11_next_46 (by omega) (fun y2 => step ?_) (fun y2 => S_X11_next_56 (stay (-2) (two ?_)))
      · unfold an_nz; rw [if_neg e3]; omega
      · unfold an_nz; rw [if_neg e3]; omega
end
