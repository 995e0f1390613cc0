section
variable {G : am_G} {σ : am_D}
/-- the row that was put together at last -/
def cd_O (τ : am_D) (a : Nat) (c : rd_ch) : Prop := rd_rp 0 c (τ.1 a 6) (τ.1 a 7) (τ.1 a 8) ∧ rd_lk (τ.1 (a + 3)) 0 (rd_nd c) ∧ (∀ p ∈ c, τ.1 (a + 2) p.1 = p.2) ∧ (∀ x ∈ rd_nd c, 0 ≤ x ∧ x < am_rs a) ∧ rd_el c
def rd_can (P : am_P) (C : rd_C) : Prop := rd_s C = [] ∧ pm_eX P (rd_q C) ≠ none
theorem c_step (d : Nat) {a m : Nat} {P : am_P} {w : List Int} {e mo : Int} {C : rd_C} (hR : am_isR a) (hI : cd_I σ a m P w) (he : 0 ≤ e ∧ e ≤ 3) (hroom : (w.length : Int) + 1 ≤ 2 * cd_k a) (hroom3 : e = 3 → (rd_c3n w : Int) + 1 ≤ cd_k a) (hC : rd_run P w rd_0 0 = some (C, mo)) : am_MI G (d + 4) mX3_step [am_r (some a), am_i e] σ (fun x σ' => (x = 0 ∧ rd_step P C e = none ∧ σ = σ') ∨ (x = 1 ∧ (∃ C', rd_step P C e = some C') ∧ am_only [a, a + 1, a + 2, a + 3] σ σ' ∧ cd_I σ' a m P (w ++ [e]))) := by
  refine am_M.go (by decide) (Nat.le_of_ble_eq_true rfl) rfl ?_
  unfold rd_step
  refine S_X3_step_0 (by omega) (fun z => ?_) (fun z => ?_)
  · rw [if_neg z]
    refine S_X3_step_12 (c_stepIn _ hR hI (by omega) hroom hC) hR ?_
    rintro x σ' (⟨rfl, h1, h2⟩ | ⟨rfl, h1, h2, h3⟩)
    · exact S_X3_step_17 (Or.inl rfl) (Or.inl ⟨rfl, h1, h2⟩)
    · exact S_X3_step_17 (Or.inr rfl) (Or.inr ⟨rfl, h1, h2.sub (fun b hb => by revert hb; simp; omega), h3⟩)
  · have z := Classical.not_not.mp z
    subst z
    rw [if_pos rfl]
    refine S_X3_step_5 (c_stepOut _ hR hI hroom (hroom3 rfl) hC) hR ?_
    rintro x σ' (⟨rfl, h1, h2⟩ | ⟨rfl, h1, h2, h3⟩)
    · exact S_X3_step_9 (S_X3_step_17 (Or.inl rfl) (Or.inl ⟨rfl, h1, h2⟩))
    · exact S_X3_step_9 (S_X3_step_17 (Or.inr rfl) (Or.inr ⟨rfl, h1, h2, h3⟩))
theorem c_stepBack (d : Nat) {a m : Nat} {P : am_P} {w : List Int} {e : Int} (hR : am_isR a) (hI : cd_I σ a m P (w ++ [e])) : am_MV G (d + 1) mX3_stepBack [am_r (some a)] σ (fun σ' => am_only [a] σ σ' ∧ cd_I σ' a m P w) := by
  obtain ⟨z1, z2, z3, z4, z5⟩ := cd_sz hR
  obtain ⟨h1, hM, ⟨h3, h4, h5, h6⟩, cf, h7⟩ := id hI
  have hll : (w ++ [e]).length = w.length + 1 := by rw [List.length_append]; rfl
  rw [hll] at h3 h5
  have hm1 := hM.1.1
  refine am_M.go (by decide) (Nat.le_of_ble_eq_true rfl) rfl ?_
  refine S_X3_stepBack_0 hR (by omega) (fun z => absurd z (by omega)) (fun _ => ?_)
  refine S_X3_stepBack_7 hR ?_
  refine S_X3_stepBack_17 ⟨am_only.pI (by simp), ?_⟩
  have f0 : ∀ b, b ≠ a → (am_pI σ a 5 (σ.1 a 5 - 1)).1 b = σ.1 b := fun b y1 => am_pI_of y1
  have f5 : (am_pI σ a 5 (σ.1 a 5 - 1)).1 a 5 = w.length := by rw [am_pI_at]; omega
  have hc3 : rd_c3n w ≤ rd_c3n (w ++ [e]) := by
    unfold rd_c3n
    rw [List.countP_append]
    exact Nat.le_add_right _ _
  refine ⟨h1, cd_M_of (fun b y1 y2 => f0 b (by omega)) hM, ⟨f5, fun x hx => h4 x (List.mem_append_left _ hx), by omega, by omega⟩, cf, fun i hi => ?_⟩
  obtain ⟨y1, y2, y3, y4⟩ := h7 i (by rw [hll]; omega)
  rw [List.take_append_of_le_length hi] at y1
  refine ⟨y1, ?_, ?_, by rw [f0 (a + 3) (by omega), f0 (a + 2) (by omega)]; exact y4⟩
  · unfold cd_X
    rw [f0 (a + 1) (by omega)]
    exact y2
  · generalize rd_s (cf i).1 = s at y3 ⊢
    cases s with
    | nil => show (am_pI σ a 5 (σ.1 a 5 - 1)).1 (a + 1) _ = -1 ∧ (am_pI σ a 5 (σ.1 a 5 - 1)).1 (a + 1) _ = -1; rw [f0 (a + 1) (by omega)]; exact y3
    | cons f s => show (am_pI σ a 5 (σ.1 a 5 - 1)).1 (a + 1) _ = _ ∧ ∃ j : Nat, j < i ∧ (am_pI σ a 5 (σ.1 a 5 - 1)).1 (a + 1) _ = _ ∧ _ ∧ _; rw [f0 (a + 1) (by omega)]; exact y3
theorem cd_I.cells {a m : Nat} {P : am_P} {w : List Int} {C : rd_C} {mo : Int} (h : cd_I σ a m P w) (hC : rd_run P w rd_0 0 = some (C, mo)) : cd_X σ a (pm_R P) w.length C mo ∧ rd_G 0 (σ.1 (a + 3)) (σ.1 (a + 2)) (rd_all C) := by
  obtain ⟨h1, hM, h3, cf, h7⟩ := h
  have h9 := h7 w.length (Nat.le_refl _)
  rw [List.take_length, hC] at h9
  have hcf : (C, mo) = cf w.length := Option.some.inj h9.1
  rw [← hcf] at h9
  exact ⟨h9.2.1, h9.2.2.2⟩
theorem c_canEnd (d : Nat) {a m : Nat} {P : am_P} {w : List Int} {C : rd_C} {mo : Int} (hR : am_isR a) (hI : cd_I σ a m P w) (hC : rd_run P w rd_0 0 = some (C, mo)) : am_MI G (d + 3) mX3_canEnd [am_r (some a)] σ (fun x σ' => ((x = 1 ∧ rd_can P C) ∨ (x = 0 ∧ ¬ rd_can P C)) ∧ σ = σ') := by
  obtain ⟨C0, mo0, hC0, ⟨i1, i2, i3, i4⟩, i5, i6⟩ := hI.C
  rw [hC] at hC0
  injection hC0 with hC0
  injection hC0 with e1 e2
  subst e1; subst e2
  obtain ⟨⟨⟨x20, x21, x22, x23, x26⟩, x2r⟩, x4⟩ := hI.cells hC
  obtain ⟨h1, hM, ⟨h3, h4, h5, h6⟩, -⟩ := id hI
  have hq := i1.1
  have hS := hM.2.2.2.1.1
  have hE := hM.2.1.2.2.2 (rd_q C) (by omega) (by omega)
  obtain ⟨z1, z2, z3, z4, z5⟩ := cd_sz hR
  refine am_M.go (by decide) (Nat.le_of_ble_eq_true rfl) rfl ?_
  refine S_X3_canEnd_0 hR (fun z => absurd z (by rw [h1]; exact fun y => nomatch y)) (fun b hb => ?_)
  refine S_X3_canEnd_7 (c_now _ hR h3 h5 (by omega)) hR ?_
  rintro _ _ ⟨rfl, rfl⟩
  rw [x21]
  refine S_X3_canEnd_12 (by omega) (fun z => ?_) (fun z => ?_)
  · refine S_X3_canEnd_35 (S_X3_canEnd_36 (Or.inl rfl) ⟨Or.inr ⟨rfl, fun y => z ?_⟩, rfl⟩)
    rw [y.1]
    rfl
  · have z := Classical.not_not.mp z
    have hs : rd_s C = [] := List.eq_nil_of_length_eq_zero (by omega)
    refine S_X3_canEnd_15 hR (c_now _ hR h3 h5 (by omega)) ?_
    rintro _ _ ⟨rfl, rfl⟩
    rw [x20, h1]
    refine S_X3_canEnd_24 (c_endTells _ hM.1 (by omega)) hM.1 ?_
    rintro _ _ ⟨rfl, rfl⟩
    rw [if_pos (by omega)]
    have hb := hM.b
    cases he : pm_eX P (rd_q C) with
    | none =>
      rw [he] at hE
      have hE : σ.1 (m + 5) (rd_q C) = -1 := hE
      rw [hE]
      refine S_X3_canEnd_27 (by omega) (fun _ => ?_) (fun y => absurd rfl y)
      exact S_X3_canEnd_35 (S_X3_canEnd_36 (Or.inl rfl) ⟨Or.inr ⟨rfl, fun y => y.2 he⟩, rfl⟩)
    | some v =>
      rw [he] at hE
      have hE : cm_X σ m (σ.1 (m + 5) (rd_q C)) v := hE
      have h0 := hE.1
      have h01 := hE.2.1
      refine S_X3_canEnd_27 (by omega) (fun y => absurd y (by omega)) (fun _ => ?_)
      exact S_X3_canEnd_31 (S_X3_canEnd_36 (Or.inr rfl) ⟨Or.inl ⟨rfl, hs, by rw [he]; exact fun y => nomatch y⟩, rfl⟩)
/-- links change, snapshots stay -/
theorem cd_I.links {τ : am_D} {a m : Nat} {P : am_P} {w : List Int} (hR : am_isR a) (h : cd_I σ a m P w) (h0 : am_only [a, a + 2, a + 3] σ τ) (hk : am_kpt [3, 6, 7, 8] (σ.1 a) (τ.1 a)) (hG : ∀ (i : Nat) (C : rd_C) (mo : Int), i ≤ w.length → rd_run P (w.take i) rd_0 0 = some (C, mo) → rd_G 0 (σ.1 (a + 3)) (σ.1 (a + 2)) (rd_all C) → rd_G 0 (τ.1 (a + 3)) (τ.1 (a + 2)) (rd_all C)) : cd_I τ a m P w := by
  obtain ⟨z1, z2, z3, z4, z5⟩ := cd_sz hR
  obtain ⟨h1, hM, ⟨h3, h4, h5, h6⟩, cf, h7⟩ := h
  have hm1 := hM.1.1
  have e1 : τ.1 (a + 1) = σ.1 (a + 1) := h0.1 _ (by simp)
  refine ⟨by rw [h0.2]; exact h1, cd_M_of (fun b y1 y2 => h0.1 b (by simp; omega)) hM, ⟨by rw [hk 5 (by decide)]; exact h3, h4, h5, h6⟩, cf, fun i hi => ?_⟩
  obtain ⟨y1, y2, y3, y4⟩ := h7 i hi
  refine ⟨y1, ?_, ?_, hG i _ _ hi y1 y4⟩
  · unfold cd_X
    rw [e1]
    exact y2
  · generalize rd_s (cf i).1 = s at y3 ⊢
    cases s with
    | nil => show τ.1 (a + 1) _ = -1 ∧ τ.1 (a + 1) _ = -1; rw [e1]; exact y3
    | cons f s => show τ.1 (a + 1) _ = _ ∧ ∃ j : Nat, j < i ∧ τ.1 (a + 1) _ = _ ∧ _ ∧ _; rw [e1]; exact y3
theorem c_write (d : Nat) {a m : Nat} {P : am_P} {w v : List Int} {C : rd_C} {mo : Int} (hR : am_isR a) (hI : cd_I σ a m P w) (hC : rd_run P w rd_0 0 = some (C, mo)) (hs : rd_s C = []) (hv : pm_eX P (rd_q C) = some v) : am_MV G (d + 4) mX3_write [am_r (some a)] σ (fun σ' => am_only [a, a + 2, a + 3] σ σ' ∧ cd_I σ' a m P w ∧ cd_O σ' a (rd_out C v)) := by
  obtain ⟨C0, mo0, hC0, ⟨i1, i2, i3, i4⟩, i5, i6⟩ := hI.C
  rw [hC] at hC0
  injection hC0 with hC0
  injection hC0 with e1 e2
  subst e1; subst e2
  obtain ⟨⟨⟨x20, x21, x22, x23, x26⟩, x2r⟩, x4⟩ := hI.cells hC
  obtain ⟨h1, hM, ⟨h3, h4, h5, h6⟩, -⟩ := id hI
  obtain ⟨m1, m2, m3, m4, m5⟩ := id hM
  have hm1 := m1.1
  have hb := hM.b
  have hq := i1.1
  have hS := m4.1
  have pR2 := m4.2.1.2
  have hE := m2.2.2.2 (rd_q C) (by omega) (by omega)
  rw [hv] at hE
  have hE : cm_X σ m (σ.1 (m + 5) (rd_q C)) v := hE
  obtain ⟨hx, hbal⟩ := m5.2 _ _ hv
  obtain ⟨z1, z2, z3, z4, z5⟩ := cd_sz hR
  have h12 := pm_ex_12 hx hbal
  have hx1 : pm_ex (pm_R P) true ([] ++ v :: []).flatten := by
    have e : ([] ++ v :: [] : List (List Int)).flatten = v := by simp
    rw [e]
    exact ⟨fun s hs => by have := hx.1 s hs; simp at this ⊢; omega, hx.2⟩
  have hu0 := i1.2.2.2.1
  have hall0 : rd_all C = rd_c3 (rd_r C) := by
    unfold rd_all
    rw [hs]
    simp
  have hap : rd_ap (rd_c3 (rd_r C) ++ rd_c3 rd_nil) (rd_u C) := by
    have := i1.2.2.2.2.1
    rw [hall0] at this
    refine ⟨fun c hc => ?_, ?_⟩
    · rcases List.mem_append.mp hc with hc | hc
      · exact this.1 c hc
      · have hc : c = [] := by simpa [rd_c3, rd_nil] using hc
        subst hc
        exact ⟨List.nodup_nil, fun x hx => (by cases hx)⟩
    · refine List.pairwise_append.mpr ⟨this.2, by simp [rd_c3, rd_nil, rd_nd], fun c hc c' hc' x hx => ?_⟩
      have hc' : c' = [] := by simpa [rd_c3, rd_nil] using hc'
      subst hc'
      intro y
      cases y
  have hKsub : ∀ c ∈ rd_c3 (rd_r C) ++ rd_c3 rd_nil, c ∈ rd_all C ∨ c = [] := fun c hc => by
    rcases List.mem_append.mp hc with hc | hc
    · exact Or.inl (by rw [hall0]; exact hc)
    · exact Or.inr (by simpa [rd_c3, rd_nil] using hc)
  have hes : rd_es (rd_r C) rd_nil ([] ++ [v]) [] (rd_u C) = ([(rd_ev (rd_r C) rd_nil v ([], rd_u C)).1], (rd_ev (rd_r C) rd_nil v ([], rd_u C)).2) := rfl
  have hev : (rd_ev (rd_r C) rd_nil v ([], rd_u C)).2 = rd_u C + _ := rd_ev_u (X := rd_r C) (Y := rd_nil) v ([], rd_u C)
  refine am_M.go (by decide) (Nat.le_of_ble_eq_true rfl) rfl ?_
  refine S_X3_write_0 (c_canEnd _ hR hI hC) hR ?_
  rintro x _ ⟨hcan, rfl⟩
  rcases hcan with ⟨rfl, -⟩ | ⟨-, hno⟩
  rotate_left
  · exact absurd ⟨hs, by rw [hv]; exact fun y => nomatch y⟩ hno
  refine S_X3_write_4 (by decide) (fun z => absurd z (by decide)) (fun _ => ?_)
  refine S_X3_write_7 (c_now _ hR h3 h5 (by omega)) hR ?_
  rintro _ _ ⟨rfl, rfl⟩
  rw [x26]
  refine S_X3_write_14 hR ?_
  have f0 : ∀ b, b ≠ a → (am_pI σ a 3 (rd_u C)).1 b = σ.1 b := fun b y1 => am_pI_of y1
  have fa : (am_pI σ a 3 (rd_u C)).1 a = am_u1 (σ.1 a) 3 (rd_u C) := am_pI_row
  have fr : (am_pI σ a 3 (rd_u C)).2 = σ.2 := rfl
  have fo : am_only [a, a + 2, a + 3] σ (am_pI σ a 3 (rd_u C)) := am_only.pI (by simp)
  generalize am_pI σ a 3 (rd_u C) = τ at f0 fa fr fo ⊢
  have t5 : τ.1 a 5 = w.length := by rw [fa, am_u1_ne (by decide)]; exact h3
  have t4 : τ.2.2 a 4 = some m := by rw [fr]; exact h1
  refine S_X3_write_17 hR (c_now _ hR t5 h5 (by omega)) ?_
  rintro _ _ ⟨rfl, rfl⟩
  rw [f0 (a + 1) (by omega), x20, t4]
  refine S_X3_write_27 (c_endTells _ m1 (by omega)) m1 ?_
  rintro _ _ ⟨rfl, rfl⟩
  rw [if_pos (by omega), f0 (m + 5) (by omega)]
  have hEx : cm_X τ m (σ.1 (m + 5) (rd_q C)) v := cm_X_of (f0 _ (by omega)) (f0 _ (by omega)) (by rw [f0 m (by omega)]) (by rw [f0 m (by omega)]) hE
  have hx2r := x2r
  refine S_X3_write_30 hR (c_putI _ (X := rd_r C) (Y := rd_nil) (pre := []) (post := []) (w := v) (u := rd_u C) (R := pm_R P) hR m1 t4 hEx (by rw [f0 m (by omega)]; exact hb.1) (by rw [f0 m (by omega)]; exact hb.2) pR2 hx1 hap hu0 (by rw [t5]; omega) (by rw [t5]; omega) (fun r r0 r1 => ?_) (fun r r0 r1 hr => ?_) (by rw [fa, am_u1_eq]; rfl) (by rw [hes]; show (rd_ev (rd_r C) rd_nil v ([], rd_u C)).2 ≤ _; omega) ?_ ⟨fun x y ⟨c, hc, _⟩ => (by cases hc), fun c hc => (by cases hc)⟩) hR ?_
  · rw [t5, f0 (a + 1) (by omega)]
    exact x2r r r0 r1
  · have := hx.1 _ hr
    simp at this
    omega
  · rw [f0 (a + 3) (by omega), f0 (a + 2) (by omega)]
    refine ⟨fun x y ⟨c, hc, hxy⟩ => ?_, fun c hc p hp => ?_⟩
    · rcases hKsub c hc with hc | rfl
      · exact x4.1 x y ⟨c, hc, hxy⟩
      · exact absurd (rd_nx_mem hxy).1 (by simp [rd_nd])
    · rcases hKsub c hc with hc | rfl
      · exact x4.2 c hc p hp
      · cases hp
  rintro τ2 ⟨⟨p1, p2⟩, p3, p4, p5, p6, p7⟩
  refine S_X3_write_47 ?_
  have ta3 : τ.1 a 3 = rd_u C := by rw [fa, am_u1_eq]
  rw [ta3] at p3
  have hmem : (rd_ev (rd_r C) rd_nil v ([], rd_u C)).1 ∈ (rd_es (rd_r C) rd_nil ([] ++ [v]) [] (rd_u C)).1 := by
    rw [hes]
    exact List.mem_singleton.mpr rfl
  have hpt : rd_pt (rd_r C) rd_nil v (rd_u C) := by
    have := rd_pt_of (X := rd_r C) (Y := rd_nil) pR2 hx1 hap
    have e : ([] ++ v :: [] : List (List Int)).flatten = v := by simp
    rw [e] at this
    exact this
  have hnd := rd_ev_nodup (X := rd_r C) (Y := rd_nil) v [] (rd_u C) hpt List.nodup_nil (fun x hx => (by cases hx)) hu0 (fun s hs h4 x hx => (by cases hx))
  refine ⟨fo.trans p1, ?_, p3, p6.lk hmem, fun p hp => ?_, fun x hx => ?_, ?_⟩
  · refine hI.links hR (fo.trans p1) (fun j hj => by rw [p2 j hj, fa, am_u1_ne (fun z => hj (by rw [z]; decide))]) (fun i Ci mi hi hrun hGi => ?_)
    refine p7 _ ?_ (by rw [f0 (a + 3) (by omega), f0 (a + 2) (by omega)]; exact hGi)
    have y2 := rd_run_inv m4 m5 (w.take i) rd_0 Ci 0 mi (fun e he => h4 e (List.mem_of_mem_take he)) (rd_I_0 m4) ⟨Int.le_refl _, Int.le_refl _⟩ hrun
    have y3 := rd_run_drop (P := P) (w := w) (i := i) hrun hC
    have y4 := rd_sf_run m4 m5 (fun e he => h4 e (List.mem_of_mem_drop he)) y2.1 y2.2.2.2.1 y3
    refine ⟨fun x y hxy c hc t p ec => ?_, y4.2⟩
    rcases hKsub c hc with hc | rfl
    · exact y4.1 x y hxy c hc t p ec
    · exact absurd (congrArg List.length ec) (by simp)
  · have := p6.2 _ hmem p hp
    rw [Int.zero_add] at this
    exact this
  · have := hnd.2 x hx
    rw [hev] at this
    omega
  · refine rd_ev_bal v _ 0 (Int.le_refl _) hbal (fun t ht => ?_) (fun t ht h4 => ?_)
    · have := hx.1 t ht
      omega
    · have e : ([] ++ v :: [] : List (List Int)).flatten = v := by simp
      obtain ⟨i, hi, ei, -⟩ := rd_six (X := rd_r C) (Y := rd_nil) pR2 hx1 (by rw [e]; exact ht) h4
      rcases hKsub _ (List.mem_of_getElem? ei) with hc | hc
      · exact i1.2.2.2.2.2 _ hc
      · rw [hc]
        exact ⟨fun s hs => (by cases hs), rfl⟩
end
