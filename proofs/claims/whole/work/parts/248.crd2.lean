section
variable {G : am_G} {σ : am_D}
theorem c_now (d : Nat) {a : Nat} {i : Nat} {j : Int} (hR : am_isR a) (h5 : σ.1 a 5 = i) (hi : (i : Int) ≤ 2 * cd_k a) (hj : 0 ≤ j ∧ j < 16) : am_MI G (d + 2) mX3_now [am_r (some a), am_i j] σ (fun x σ' => x = σ.1 (a + 1) ((i : Int) * 16 + j) ∧ σ = σ') := by
  obtain ⟨z1, z2, z3, z4, z5⟩ := cd_sz hR
  have hs := shR1 hR
  refine am_M.go (by decide) (Nat.le_of_ble_eq_true rfl) rfl ?_
  refine S_X3_now_0 hR (c_at _ hs (by rw [h5]; omega)) ?_
  rintro _ _ ⟨rfl, rfl⟩
  rw [if_pos (by rw [h5]; omega), h5]
  exact ⟨rfl, rfl⟩
theorem cd_I.C {a m : Nat} {P : am_P} {w : List Int} (h : cd_I σ a m P w) : ∃ C mo, rd_run P w rd_0 0 = some (C, mo) ∧ (rd_I P C ∧ 0 ≤ mo ∧ mo ≤ rd_u C ∧ rd_held C ≤ mo) ∧ (rd_u C ≤ 12 * (rd_c3n w : Nat) ∧ ((rd_s C).length : Int) + 2 * (rd_c3n w : Nat) = w.length) := by
  obtain ⟨h1, ⟨m1, m2, m3, m4, m5⟩, ⟨h3, h4, h5, h6⟩, cf, h7⟩ := h
  obtain ⟨x1, -⟩ := h7 w.length (Nat.le_refl _)
  rw [List.take_length] at x1
  obtain ⟨y1, y2, y3, y4, -⟩ := rd_run_inv m4 m5 w rd_0 (cf w.length).1 0 (cf w.length).2 h4 (rd_I_0 m4) ⟨Int.le_refl _, Int.le_refl _⟩ x1
  have y5 := rd_run_held w rd_0 _ 0 _ (Int.le_of_eq rd_held_0) x1
  have e0 : rd_u rd_0 = 0 := rfl
  have e1 : (rd_s rd_0).length = 0 := rfl
  rw [e0] at y2
  rw [e1] at y3
  exact ⟨_, _, x1, ⟨y1, y4.1, y4.2, y5⟩, by omega, by omega⟩
theorem c_start (d : Nat) {a m : Nat} {P : am_P} (hR : am_isR a) (hM : cd_M σ m P) : am_MV G (d + 2) mX3_start [am_r (some a), am_r (some m)] σ (fun σ' => cd_I σ' a m P [] ∧ (∀ b, b ≠ a → b ≠ a + 1 → σ'.1 b = σ.1 b) ∧ σ'.2.1 = σ.2.1 ∧ σ'.2.2 = am_up σ.2.2 a 4 (some m)) := by
  obtain ⟨z1, z2, z3, z4, z5⟩ := cd_sz hR
  have hm1 := hM.1.1
  have hs := shR1 hR
  refine am_M.go (by decide) (Nat.le_of_ble_eq_true rfl) rfl ?_
  refine S_X3_start_0 hR ?_
  refine S_X3_start_5 hR ?_
  refine S_X3_start_10 ?_
  generalize hQ : (fun σ' : am_D => cd_I σ' a m P [] ∧ (∀ b, b ≠ a → b ≠ a + 1 → σ'.1 b = σ.1 b) ∧ σ'.2.1 = σ.2.1 ∧ σ'.2.2 = am_up σ.2.2 a 4 (some m)) = Q
  have loop : ∀ (f : Nat) (i : Int) (τ : am_D), 0 ≤ i → i ≤ 16 → 16 - i < f → (∀ b, b ≠ a → b ≠ a + 1 → τ.1 b = σ.1 b) → τ.1 a 5 = 0 → τ.2.1 = σ.2.1 → τ.2.2 = am_up σ.2.2 a 4 (some m) → (∀ j : Int, 0 ≤ j → j < i → τ.1 (a + 1) j = 0) → am_X (am_FV G (d + 2) Q) mX3_start (0, 0) 12 [some (am_r (some a)), none, some (am_i i)] [] (am_K0, τ) := by
    intro f
    induction f with
    | zero => intro i τ h1 h2 h3; omega
    | succ f ih =>
      intro i τ h1 h2 h3 h0 h5 hr1 hr2 hz
      refine S_X3_start_12 (by omega) (fun z => ?_) (fun z => ?_)
      · refine S_X3_start_33 hR (c_put _ hs (by omega)) ?_
        rintro _ rfl
        rw [if_pos (by omega)]
        refine S_X3_start_42 hR (c_put _ hs (by omega)) ?_
        rintro _ rfl
        rw [if_pos (by omega)]
        refine S_X3_start_51 ?_
        rw [← hQ]
        have e1 : (am_pI (am_pI τ (a + 1) 4 (-1)) (a + 1) 5 (-1)).1 (a + 1) = am_u1 (am_u1 (τ.1 (a + 1)) 4 (-1)) 5 (-1) := by rw [am_pI_row, am_pI_row]
        have e0 : ∀ b, b ≠ a + 1 → (am_pI (am_pI τ (a + 1) 4 (-1)) (a + 1) 5 (-1)).1 b = τ.1 b := fun b hb => by rw [am_pI_of hb, am_pI_of hb]
        refine ⟨⟨?_, ?_, ⟨?_, fun e he => (by cases he), ?_, ?_⟩, fun _ => (rd_0, 0), ?_⟩, fun b y1 y2 => by rw [e0 b y2]; exact h0 b y1 y2, hr1, hr2⟩
        · show τ.2.2 a 4 = some m
          rw [hr2]
          exact am_up_at
        · exact cd_M_of (fun b y1 y2 => by rw [e0 b (by omega)]; exact h0 b (by omega) (by omega)) hM
        · rw [e0 a (by omega)]; exact h5
        · show (0 : Int) ≤ _; omega
        · show (0 : Int) ≤ _; omega
        · intro k hk
          have hk : k = 0 := Nat.le_zero.mp hk
          subst hk
          have v : ∀ j : Int, 0 ≤ j → j < 16 → j ≠ 4 → j ≠ 5 → (am_pI (am_pI τ (a + 1) 4 (-1)) (a + 1) 5 (-1)).1 (a + 1) (((0 : Nat) : Int) * 16 + j) = 0 := by
            intro j y1 y2 y3 y4
            rw [e1, am_u1_ne (by omega), am_u1_ne (by omega)]
            exact hz _ (by omega) (by omega)
          have hP3 := hM.2.2.2.1.2.1
          refine ⟨rfl, ⟨⟨v 0 (by omega) (by omega) (by omega) (by omega), v 1 (by omega) (by omega) (by omega) (by omega), v 2 (by omega) (by omega) (by omega) (by omega), v 3 (by omega) (by omega) (by omega) (by omega), v 6 (by omega) (by omega) (by omega) (by omega)⟩, fun r r0 r1 => rd_rp_nil ?_⟩, ⟨?_, ?_⟩, ⟨fun x y ⟨c, hc, hx⟩ => ?_, fun c hc p hp => ?_⟩⟩
          · rw [show ((0 : Nat) : Int) * 16 + 7 + 3 * r + 2 = ((0 : Nat) : Int) * 16 + (7 + 3 * r + 2) by omega]
            exact v _ (by omega) (by omega) (by omega) (by omega)
          · rw [e1, am_u1_ne (by omega), show ((0 : Nat) : Int) * 16 + 4 = 4 by omega, am_u1_eq]
          · rw [e1, show ((0 : Nat) : Int) * 16 + 5 = 5 by omega, am_u1_eq]
          · have hc : c ∈ ([[], [], []] : List rd_ch) := hc
            have hc : c = [] := by simpa using hc
            subst hc
            exact absurd (rd_nx_mem hx).1 (by simp [rd_nd])
          · have hc : c ∈ ([[], [], []] : List rd_ch) := hc
            have hc : c = [] := by simpa using hc
            subst hc
            cases hp
      · refine S_X3_start_18 hR (c_put _ hs (by omega)) ?_
        rintro _ rfl
        rw [if_pos (by omega)]
        refine S_X3_start_27 ?_
        refine ih (i + 1) _ (by omega) (by omega) (by omega) (fun b y1 y2 => by rw [am_pI_of y2]; exact h0 b y1 y2) (by rw [am_pI_of (by omega)]; exact h5) hr1 hr2 (fun j y1 y2 => ?_)
        by_cases e : j = i
        · rw [e]; exact am_pI_at
        · rw [am_pI_nj e]; exact hz j y1 (by omega)
  exact loop 17 0 _ (by omega) (by omega) (by omega) (fun b y1 y2 => by rw [am_pI_of y1]) am_pI_at rfl rfl (fun j y1 y2 => absurd y2 (by omega))
theorem c_stepIn (d : Nat) {a m : Nat} {P : am_P} {w : List Int} {l mo : Int} {C : rd_C} (hR : am_isR a) (hI : cd_I σ a m P w) (hl : 0 ≤ l ∧ l ≤ 2) (hroom : (w.length : Int) + 1 ≤ 2 * cd_k a) (hC : rd_run P w rd_0 0 = some (C, mo)) : am_MI G (d + 2) mX3_stepIn [am_r (some a), am_i l] σ (fun x σ' => (x = 0 ∧ rd_open P C l = none ∧ σ = σ') ∨ (x = 1 ∧ (∃ C', rd_open P C l = some C') ∧ am_only [a, a + 1] σ σ' ∧ cd_I σ' a m P (w ++ [l]))) := by
  obtain ⟨z1, z2, z3, z4, z5⟩ := cd_sz hR
  obtain ⟨C0, mo0, hC0, ⟨i1, i2, i3, i4⟩, -, -⟩ := hI.C
  rw [hC] at hC0
  injection hC0 with hC0
  injection hC0 with e1 e2
  subst e1; subst e2
  obtain ⟨h1, hM, ⟨h3, h4, h5, h6⟩, cf, h7⟩ := id hI
  obtain ⟨m1, m2, m3, m4, m5⟩ := id hM
  have hm1 := m1.1
  obtain ⟨⟨pS1, pS2⟩, ⟨pR1, pR2⟩, -, -, -, poT, poM, pcT⟩ := id m4
  have h9 := h7 w.length (Nat.le_refl _)
  rw [List.take_length, hC] at h9
  have hcf : (C, mo) = cf w.length := Option.some.inj h9.1
  have h9 : cd_X σ a (pm_R P) w.length C mo ∧ cd_V σ a cf w.length (rd_s C) ∧ rd_G 0 (σ.1 (a + 3)) (σ.1 (a + 2)) (rd_all C) := by rw [← hcf] at h9; exact h9.2
  obtain ⟨⟨⟨x20, x21, x22, x23, x26⟩, x2r⟩, x3, x4⟩ := h9
  have hq := i1.1
  have hot := poT l (rd_q C)
  have hT := (m2.2.1 l (rd_q C) (by omega) (by omega) (by omega) (by omega))
  refine am_M.go (by decide) (Nat.le_of_ble_eq_true rfl) rfl ?_
  refine S_X3_stepIn_0 hR ?_
  rw [h3]
  refine S_X3_stepIn_8 ?_
  refine S_X3_stepIn_13 hR (fun z => absurd z (by rw [h1]; exact fun y => nomatch y)) (fun b hb => ?_)
  rw [h1] at hb
  injection hb with hb
  subst hb
  refine S_X3_stepIn_20 (by omega) (fun z => absurd z (by omega)) (fun _ => ?_)
  refine S_X3_stepIn_24 hR (by omega) (by omega) (fun _ => ?_) (fun z => absurd (by omega) z)
  refine S_X3_stepIn_38 hR (by omega) (by omega) ?_
  rw [x20]
  refine S_X3_stepIn_48 hR h1 (c_opensTo _ m1 (by omega) (by omega)) m1 ?_
  rintro _ _ ⟨rfl, rfl⟩
  rw [if_pos (by omega), hT.1]
  refine S_X3_stepIn_60 (by omega) (fun z => ?_) (fun z => ?_)
  rotate_left
  · have z := Classical.not_not.mp z
    refine S_X3_stepIn_66 (Or.inl ⟨rfl, ?_, rfl⟩)
    unfold rd_open
    rw [if_pos z]
  have hop : rd_open P C l = some ((pm_oT P l (rd_q C), rd_u C), (((l, pm_oM P l (rd_q C)), rd_r C) :: rd_s C, rd_nil)) := by
    unfold rd_open
    rw [if_neg z]
  have hly := hT.2 z
  refine S_X3_stepIn_68 hR (by omega) (by omega) ?_
  rw [am_pI_sr0]
  refine S_X3_stepIn_78 hR (by omega) (by omega) (by omega) (by omega) ?_
  rw [am_pI_sr, am_sr_at, am_u1_ne (by omega), x21]
  refine S_X3_stepIn_96 hR (by omega) (by omega) (by omega) (by omega) ?_
  rw [am_pI_sr, am_sr_at, am_u1_ne (by omega), am_u1_ne (by omega), x22]
  refine S_X3_stepIn_112 hR (by omega) (by omega) (by omega) (by omega) ?_
  rw [am_pI_sr, am_sr_at, am_u1_ne (by omega), am_u1_ne (by omega), am_u1_ne (by omega), x23]
  refine S_X3_stepIn_128 hR (by omega) (by omega) ?_
  rw [am_pI_sr]
  refine S_X3_stepIn_137 hR h1 (c_lays _ m1 (by omega) (by omega)) m1 ?_
  rintro _ _ ⟨rfl, rfl⟩
  rw [if_pos (by omega), am_sr_of (by omega), hly]
  refine S_X3_stepIn_154 (shR1 hR) (by omega) (by omega) ?_
  rw [am_pI_sr]
  refine S_X3_stepIn_155 hR (by omega) (by omega) (by omega) (by omega) ?_
  rw [am_pI_sr, am_sr_at, am_u1_ne (by omega), am_u1_ne (by omega), am_u1_ne (by omega), am_u1_ne (by omega), am_u1_ne (by omega), am_u1_ne (by omega), x26]
  refine S_X3_stepIn_173 ?_
  refine S_X3_stepIn_177 (by omega) (fun y => absurd y (by omega)) (fun _ => ?_)
  refine S_X3_stepIn_184 hR (by omega) (by omega) ?_
  rw [am_pI_sr]
  refine S_X3_stepIn_196 ?_
  refine S_X3_stepIn_177 (by omega) (fun y => absurd y (by omega)) (fun _ => ?_)
  refine S_X3_stepIn_184 hR (by omega) (by omega) ?_
  rw [am_pI_sr]
  refine S_X3_stepIn_196 ?_
  refine S_X3_stepIn_177 (by omega) (fun y => absurd y (by omega)) (fun _ => ?_)
  refine S_X3_stepIn_184 hR (by omega) (by omega) ?_
  rw [am_pI_sr]
  refine S_X3_stepIn_196 ?_
  refine S_X3_stepIn_177 (by omega) (fun _ => ?_) (fun y => absurd (by omega) y)
  refine S_X3_stepIn_202 hR ?_
  rw [am_sr_of (show a ≠ a + 1 by omega), h3]
  refine S_X3_stepIn_212 (Or.inr ⟨rfl, ⟨_, hop⟩, ?_, ?_⟩)
  · exact (am_only.sr (by simp)).trans (am_only.pI (by simp))
  generalize hg : am_u1 (am_u1 (am_u1 (am_u1 (am_u1 (am_u1 (am_u1 (am_u1 (am_u1 (am_u1 _ _ _) _ _) _ _) _ _) _ _) _ _) _ _) _ _) _ _) _ _ = g
  have n0 : ((w.length + 1 : Nat) : Int) * 16 = (w.length : Int) * 16 + 16 := by omega
  have v0 : g (((w.length + 1 : Nat) : Int) * 16 + 0) = pm_oT P l (rd_q C) := by
    rw [← hg, n0]
    iterate 9 rw [am_u1_ne (by omega)]
    rw [am_u1_eq]
  have v1 : g (((w.length + 1 : Nat) : Int) * 16 + 1) = (rd_s C).length + 1 := by
    rw [← hg, n0]
    iterate 8 rw [am_u1_ne (by omega)]
    rw [am_u1_eq]
  have v2 : g (((w.length + 1 : Nat) : Int) * 16 + 2) = rd_held C := by
    rw [← hg, n0]
    iterate 7 rw [am_u1_ne (by omega)]
    rw [am_u1_eq]
  have v3 : g (((w.length + 1 : Nat) : Int) * 16 + 3) = mo := by
    rw [← hg, n0]
    iterate 6 rw [am_u1_ne (by omega)]
    rw [am_u1_eq]
  have v4 : g (((w.length + 1 : Nat) : Int) * 16 + 4) = (w.length : Int) * 16 := by
    rw [← hg, n0]
    iterate 5 rw [am_u1_ne (by omega)]
    rw [am_u1_eq]
  have v5 : g (((w.length + 1 : Nat) : Int) * 16 + 5) = l * 6 + pm_oM P l (rd_q C) := by
    rw [← hg, n0]
    iterate 4 rw [am_u1_ne (by omega)]
    rw [am_u1_eq]
  have v6 : g (((w.length + 1 : Nat) : Int) * 16 + 6) = rd_u C := by
    rw [← hg, n0]
    iterate 3 rw [am_u1_ne (by omega)]
    rw [am_u1_eq]
  have vr : ∀ r : Int, 0 ≤ r → r < 3 → g (((w.length + 1 : Nat) : Int) * 16 + 7 + 3 * r + 2) = 0 := by
    intro r r0 r1
    rw [← hg, n0]
    have hr : r = 0 ∨ r = 1 ∨ r = 2 := by omega
    rcases hr with rfl | rfl | rfl
    · rw [am_u1_ne (by omega), am_u1_ne (by omega), show (w.length : Int) * 16 + 16 + 7 + 3 * 0 + 2 = (w.length : Int) * 16 + 16 + 7 + 2 by omega, am_u1_eq]
    · rw [am_u1_ne (by omega), show (w.length : Int) * 16 + 16 + 7 + 3 * 1 + 2 = (w.length : Int) * 16 + 16 + (7 + 3) + 2 by omega, am_u1_eq]
    · rw [show (w.length : Int) * 16 + 16 + 7 + 3 * 2 + 2 = (w.length : Int) * 16 + 16 + (7 + 3 + 3) + 2 by omega, am_u1_eq]
  have vk : ∀ k : Int, k < ((w.length : Int) + 1) * 16 → g k = σ.1 (a + 1) k := by
    intro k hk
    rw [← hg]
    iterate 10 rw [am_u1_ne (by omega)]
  have t0 : ∀ b, b ≠ a → b ≠ a + 1 → (am_pI (am_sr σ (a + 1) g) a 5 ((w.length : Int) + 1)).1 b = σ.1 b := fun b y1 y2 => by rw [am_pI_of y1, am_sr_of y2]
  have t1 : (am_pI (am_sr σ (a + 1) g) a 5 ((w.length : Int) + 1)).1 (a + 1) = g := by rw [am_pI_of (by omega), am_sr_at]
  have t5 : (am_pI (am_sr σ (a + 1) g) a 5 ((w.length : Int) + 1)).1 a 5 = (w.length : Int) + 1 := am_pI_at
  have tr : (am_pI (am_sr σ (a + 1) g) a 5 ((w.length : Int) + 1)).2 = σ.2 := rfl
  generalize am_pI (am_sr σ (a + 1) g) a 5 ((w.length : Int) + 1) = τ at t0 t1 t5 tr ⊢
  have hll : (w ++ [l]).length = w.length + 1 := by rw [List.length_append]; rfl
  have hcc : rd_c3n (w ++ [l]) = rd_c3n w := by
    unfold rd_c3n
    rw [List.countP_append, List.countP_cons, if_neg (by simp; omega)]
    rfl
  refine ⟨by rw [tr]; exact h1, cd_M_of (fun b y1 y2 => t0 b (by omega) (by omega)) hM, ⟨by rw [t5, hll]; omega, fun e he => ?_, by rw [hll]; omega, by rw [hcc]; exact h6⟩, ?_⟩
  · rcases List.mem_append.mp he with he | he
    · exact h4 e he
    · have he : e = l := by simpa using he
      omega
  have hst : rd_step P C l = some ((pm_oT P l (rd_q C), rd_u C), (((l, pm_oM P l (rd_q C)), rd_r C) :: rd_s C, rd_nil)) := by
    unfold rd_step
    rw [if_neg (by omega)]
    exact hop
  have hh := rd_held_open hop
  have hmx : max mo (rd_held ((pm_oT P l (rd_q C), rd_u C), (((l, pm_oM P l (rd_q C)), rd_r C) :: rd_s C, rd_nil))) = mo := by rw [hh]; omega
  have g3 : τ.1 (a + 3) = σ.1 (a + 3) := t0 _ (by omega) (by omega)
  have g2 : τ.1 (a + 2) = σ.1 (a + 2) := t0 _ (by omega) (by omega)
  refine cd_H_snoc pR2 h7 hcf.symm hst (fun k hk => by rw [t1]; exact vk k hk) ?_ ?_ (fun i hi => by rw [g3, g2]; exact (h7 i hi).2.2.2) (by rw [g3, g2]; exact rd_G_open hop x4)
  · rw [hmx]
    unfold cd_X
    rw [t1, hh]
    refine ⟨⟨v0, by rw [v1]; show ((rd_s C).length : Int) + 1 = (((rd_s C).length + 1 : Nat) : Int); omega, v2, v3, v6⟩, fun r r0 r1 => rd_rp_nil (vr r r0 (by omega))⟩
  · show τ.1 (a + 1) _ = _ ∧ ∃ j : Nat, j < w.length + 1 ∧ τ.1 (a + 1) _ = _ ∧ _ ∧ _
    rw [t1]
    exact ⟨v5, w.length, by omega, v4, by rw [← hcf], by rw [← hcf]⟩
end
