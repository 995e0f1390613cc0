section
variable {G : am_G} {σ : am_D} {M : ab_M}
theorem rm_C_eq {τ : am_D} {f t s : Int} (h : rm_C σ f t τ) (hs : s ≠ t) : rm_eq σ s τ s := by
  intro a a1 a2 j j0 j1
  rw [h.2.2 a a1 a2, if_neg]
  rintro ⟨z1, z2⟩
  have hz : 0 < rm_sz a := by omega
  rcases Int.lt_or_gt_of_ne hs with y | y
  · have : rm_sz a * (s + 1) ≤ rm_sz a * t := Int.mul_le_mul_of_nonneg_left (by omega) (by omega)
    rw [Int.mul_add, Int.mul_one] at this
    omega
  · have : rm_sz a * (t + 1) ≤ rm_sz a * s := Int.mul_le_mul_of_nonneg_left (by omega) (by omega)
    rw [Int.mul_add, Int.mul_one] at this
    omega
theorem rm_C_to {τ : am_D} {f t : Int} (h : rm_C σ f t τ) : rm_eq σ f τ t := by
  intro a a1 a2 j j0 j1
  rw [h.2.2 a a1 a2, if_pos (by omega), show rm_sz a * t + j - rm_sz a * t + rm_sz a * f = rm_sz a * f + j by omega]
theorem r_xbegin (d : Nat) {k : Int} {r : ab_R} (hk : -2147483648 ≤ k ∧ k ≤ 2147483647) (hM : rx_M σ M) (hw : ab_w M) (hR : rx_R σ r) : am_MI G (d + 3) mX11_begin [am_r (some 91), am_i k] σ (fun x σ' => x = (an_bg M k r).1 ∧ rx_R σ' (an_bg M k r).2 ∧ rx_M σ' M ∧ am_only (rm_B ++ rr_A) σ σ' ∧ am_kpt [43, 44, 45, 49, 50, 51] (σ.1 91) (σ'.1 91)) := by
  refine am_M.go (by decide) (Nat.le_of_ble_eq_true rfl) rfl ?_
  refine S_X11_begin_0 (r_isMachine _ hk (rx_93 hM)) ?_
  rintro x _ ⟨hx, rfl⟩
  unfold an_bg
  rcases rx_t hM hw k with ⟨a, b⟩ | ⟨a, P, b, hT, hP, hW, hdm⟩
  · rcases hx with ⟨rfl, y⟩ | ⟨rfl, -⟩
    · exact absurd y a
    rw [b]
    exact S_X11_begin_5 (by decide) (fun z => absurd rfl z) (fun _ => S_X11_begin_8 ⟨rfl, hR, hM, am_only.rfl', am_kpt.rfl'⟩)
  rcases hx with ⟨rfl, -⟩ | ⟨rfl, y⟩
  rotate_left
  · exact absurd a y
  rw [b]
  have hkr := a.1
  refine S_X11_begin_5 (by decide) (fun _ => ?_) (fun z => absurd (by decide) z)
  refine S_X11_begin_10 (c_rCopies _ (by omega) (by omega) (by omega)) ?_
  intro τ hc
  refine S_X11_begin_16 (r_starts _ (by omega)) ?_
  rintro τ1 ⟨hI, hf⟩
  refine S_X11_begin_21 (S_X11_begin_26 (S_X11_begin_31 ?_))
  generalize hρ : am_pI (am_pI (am_pI τ1 91 49 1) 91 50 0) 91 51 0 = ρ
  have ro : ∀ a, a ≠ 91 → ρ.1 a = τ1.1 a := fun a ha => by rw [← hρ, am_pI_of ha, am_pI_of ha, am_pI_of ha]
  have r49 : ρ.1 91 49 = 1 := by rw [← hρ, am_pI_nj (by decide), am_pI_nj (by decide), am_pI_at]
  have r50 : ρ.1 91 50 = 0 := by rw [← hρ, am_pI_nj (by decide), am_pI_at]
  have r51 : ρ.1 91 51 = 0 := by rw [← hρ, am_pI_at]
  have rk : am_kpt [49, 50, 51] (τ1.1 91) (ρ.1 91) := by
    rw [← hρ, am_pI_row, am_pI_row, am_pI_row]
    exact ((am_kpt.u1 (by decide)).trans (am_kpt.u1 (by decide))).trans (am_kpt.u1 (by decide))
  have r2 : ρ.2 = τ1.2 := by rw [← hρ]
  have mv : ∀ s s' : Int, rm_eq σ s τ s' → rm_eq σ s ρ s' := fun s s' h a a1 a2 j j0 j1 => by
    rw [ro a (by omega), hf.1.1 a (by simp; omega)]
    exact h a a1 a2 j j0 j1
  have e93 : ρ.1 93 = am_u1 (σ.1 93) 4 1 := by rw [ro 93 (by decide), hf.1.1 93 (by decide)]; exact hc.2.1
  have hIρ : rr_I ρ 0 rd_0 0 := hI.keepq (rd_I_0 hP) (by show (0 : Int) ≤ 5000; omega) (by show (0 : Int) ≤ 260; omega) (fun a y1 y2 i _ _ => by rw [ro a (by omega)])
  refine S_X11_begin_36 ⟨rfl, ⟨⟨r49, r50, r51⟩, rm_T_move hP hT (mv k 4 (rm_C_to hc)), ⟨hP, hW⟩, ⟨fun e he => (by cases he), by show (0 : Nat) ≤ 400; omega, by show (0 : Nat) ≤ 800; omega⟩, rd_0, 0, rfl, hIρ⟩, fun s s0 s1 => ?_, ⟨fun a ha => ?_, ?_⟩, fun j hj => ?_⟩
  · rw [e93, am_u1_ne (by omega)]
    rcases hM s s0 s1 with ⟨y1, y2⟩ | ⟨y1, Q, y2, y3⟩
    · exact Or.inl ⟨y1, y2⟩
    · exact Or.inr ⟨y1, Q, y2, rm_T_move (hw s Q y2).1 y3 (mv s s (rm_C_eq hc (by omega)))⟩
  · rw [List.mem_append, not_or] at ha
    rw [ro a (fun z => ha.2 (by rw [z]; decide)), hf.1.1 a ha.2, hc.1.1 a ha.1]
  · rw [r2, hf.1.2, hc.1.2]
  · simp at hj
    rw [rk j (by simp; omega), hf.2.1 j (by simp; omega), hc.1.1 91 (by decide)]
end
