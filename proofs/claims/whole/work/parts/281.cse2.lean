section
variable {G : am_G} {σ : am_D}
theorem cs_R_back {τ : am_D} {a m : Nat} {P : am_P} {w : List Int} {e : Int} (hR : cs_R τ a m P (w ++ [e])) : ((w.length : Int) < τ.1 a 5 ∧ cd_I τ a m P (w ++ [e])) ∨ (τ.1 a 5 ≤ w.length ∧ cs_R τ a m P w) := by
  obtain ⟨v, t, h, hI, hd⟩ := hR
  have h5 := hI.2.2.1.1
  rcases List.eq_nil_or_concat t with rfl | ⟨t0, e0, rfl⟩
  · rw [List.append_nil] at h
    subst h
    left
    rw [List.length_append] at h5
    have h5 : τ.1 a 5 = ((w.length + 1 : Nat) : Int) := h5
    exact ⟨by omega, hI⟩
  · right
    rw [List.concat_eq_append, ← List.append_assoc] at h
    obtain ⟨h1, -⟩ := List.append_inj' h rfl
    subst h1
    refine ⟨by rw [h5, List.length_append]; omega, v, t0, rfl, hI, fun e1 t1 h2 => hd e1 (t1 ++ [e0]) ?_⟩
    rw [List.concat_eq_append, h2]
    rfl
theorem cs_R.rg {τ : am_D} {a m : Nat} {P : am_P} {w : List Int} (hR : cs_R τ a m P w) : 0 ≤ τ.1 a 5 ∧ τ.1 a 5 ≤ w.length := by
  obtain ⟨v, t, rfl, hI, hd⟩ := hR
  have h5 := hI.2.2.1.1
  rw [List.length_append]
  omega
theorem c_goBack (d : Nat) {b : Bool} {m1 m2 : Nat} {P Q : am_P} {w : List Int} {h e : Int} (hI : cs_I b m1 m2 P Q (w ++ [e]) (se_h h e) σ) (h0 : 0 ≤ h) : am_MI G (d + 3) mX6_goBack [am_r (some 30)] σ (fun x σ' => x = e ∧ cs_I b m1 m2 P Q w h σ' ∧ am_only cs_S σ σ') := by
  obtain ⟨hE, ⟨hb, ho, -⟩, hr, hMQ, hR1, hR2, hw, hl8⟩ := hI
  have hmQ := hMQ.1.1
  have he : 0 ≤ e ∧ e ≤ 3 := hw e (by simp)
  have hl8 : w.length + 1 ≤ 8 := by rw [List.length_append] at hl8; exact hl8
  have hlen : (((w ++ [e]).length : Nat) : Int) = w.length + 1 := by rw [List.length_append]; rfl
  rw [hlen] at ho
  refine am_M.go (by decide) (Nat.le_of_ble_eq_true rfl) rfl ?_
  generalize hQ : (fun (x : Int) (σ' : am_D) => x = e ∧ cs_I b m1 m2 P Q w h σ' ∧ am_only cs_S σ σ') = QQ
  refine S_X6_goBack_0 (c_drop _ (Or.inr (Or.inl rfl)) hE) ?_
  rintro x τ ⟨rfl, hE1, hf1⟩
  have r1 : cs_R τ 16 m1 P (w ++ [x]) := hR1.only hf1 (by decide)
  have r2 : b = false → cs_R τ 20 m2 Q (w ++ [x]) := fun z => (hR2 z).only hf1 (by decide)
  have e30 : τ.1 30 = σ.1 30 := hf1.1 30 (by decide)
  -- behind opens
  have main : ∀ υ : am_D, am_only [8, 9, 30] σ υ → am_E υ 8 w → υ.1 30 5 = sb_i b → 2 * υ.1 30 6 = w.length + h → cs_R υ 16 m1 P (w ++ [x]) → (b = false → cs_R υ 20 m2 Q (w ++ [x])) → am_X (am_FI G (d + 3) QQ) mX6_goBack (0, 0) 23 [some (am_r (some 30)), some (am_i x)] [] (am_K0, υ) := by
    intro υ hf hEυ h5 h6 r1 r2
    have fin : ∀ ω : am_D, am_only cs_S σ ω → am_E ω 8 w → ω.1 30 = υ.1 30 → cs_R ω 16 m1 P w → (b = false → cs_R ω 20 m2 Q w) → am_X (am_FI G (d + 3) QQ) mX6_goBack (0, 0) 78 [none, some (am_i x)] [] (am_K0, ω) := by
      intro ω hfω hEω e30ω r1 r2
      refine S_X6_goBack_78 ?_
      rw [← hQ]
      refine ⟨rfl, ⟨hEω, ⟨by rw [e30ω]; exact h5, by rw [e30ω]; exact h6, h0⟩, by rw [hfω.2]; exact hr, cd_M_of (fun b y1 y2 => hfω.1 b (by simp; omega)) hMQ, r1, r2, fun y hy => hw y (List.mem_append_left _ hy), by omega⟩, hfω⟩
    have mid : ∀ ω : am_D, am_only cs_S σ ω → am_E ω 8 w → ω.1 30 = υ.1 30 → cs_R ω 16 m1 P w → (b = false → cs_R ω 20 m2 Q (w ++ [x])) → am_X (am_FI G (d + 3) QQ) mX6_goBack (0, 0) 47 [some (am_r (some 30)), some (am_i x)] [] (am_K0, ω) := by
      intro ω hfω hEω e30ω r1 r2
      cases b with
      | true =>
        have h5 : υ.1 30 5 = 1 := h5
        refine S_X6_goBack_47 (by rw [e30ω]; omega) (fun _ => fin ω hfω hEω e30ω r1 (fun z => nomatch z)) (fun z => absurd (by rw [e30ω]; omega) z)
      | false =>
        have h5 : υ.1 30 5 = 0 := h5
        have rg := (r2 rfl).rg
        rw [hlen] at rg
        refine S_X6_goBack_47 (by rw [e30ω]; omega) (fun z => absurd (by rw [e30ω]; exact h5) z) (fun _ => ?_)
        refine S_X6_goBack_54 (c_size _ (Or.inr (Or.inl rfl)) hEω) ?_
        rintro _ _ ⟨rfl, rfl⟩
        rcases cs_R_back (r2 rfl) with ⟨y1, y2⟩ | ⟨y1, y2⟩
        · refine S_X6_goBack_68 (by omega) (by omega) (fun z => absurd z (by omega)) (fun _ => ?_)
          refine S_X6_goBack_71 (c_stepBack _ (Or.inr (Or.inr rfl)) y2) ?_
          rintro ω' ⟨hf', hI'⟩
          exact fin ω' (hfω.trans (hf'.sub (by decide))) (hEω.of (hf'.1 8 (by decide)) (hf'.1 9 (by decide))) ((hf'.1 30 (by decide)).trans e30ω) (r1.only hf' (by decide)) (fun _ => ⟨w, [], by simp, hI', fun _ _ z => (by cases z)⟩)
        · refine S_X6_goBack_68 (by omega) (by omega) (fun _ => ?_) (fun z => absurd (by omega) z)
          exact fin ω hfω hEω e30ω r1 (fun _ => y2)
    have rg := r1.rg
    rw [hlen] at rg
    refine S_X6_goBack_23 (c_size _ (Or.inr (Or.inl rfl)) hEυ) ?_
    rintro _ _ ⟨rfl, rfl⟩
    rcases cs_R_back r1 with ⟨y1, y2⟩ | ⟨y1, y2⟩
    · refine S_X6_goBack_37 (by omega) (by omega) (fun z => absurd z (by omega)) (fun _ => ?_)
      refine S_X6_goBack_40 (c_stepBack _ (Or.inr (Or.inl rfl)) y2) ?_
      rintro ω' ⟨hf', hI'⟩
      exact mid ω' ((hf.sub (by decide)).trans (hf'.sub (by decide))) (hEυ.of (hf'.1 8 (by decide)) (hf'.1 9 (by decide))) (hf'.1 30 (by decide)) ⟨w, [], by simp, hI', fun _ _ z => (by cases z)⟩ (fun z => (r2 z).only hf' (by decide))
    · refine S_X6_goBack_37 (by omega) (by omega) (fun _ => ?_) (fun z => absurd (by omega) z)
      exact mid υ (hf.sub (by decide)) hEυ rfl y2 r2
  unfold se_h at ho
  refine S_X6_goBack_8 (by omega) (fun z => ?_) (fun z => ?_)
  · rw [if_pos z] at ho
    exact main τ (hf1.sub (by decide)) hE1 (by rw [e30]; exact hb) (by rw [e30]; omega) r1 r2
  · rw [if_neg z] at ho
    refine S_X6_goBack_13 ?_
    have hf3 : am_only [30] τ (am_pI τ 30 6 (τ.1 30 6 - 1)) := am_only.pI (List.mem_singleton.mpr rfl)
    exact main _ ((hf1.sub (by decide)).trans (hf3.sub (by decide))) (hE1.of (hf3.1 8 (by decide)) (hf3.1 9 (by decide))) (by rw [am_pI_nj (by decide), e30]; exact hb) (by rw [am_pI_at, e30]; omega) (r1.only hf3 (by decide)) (fun y => (r2 y).only hf3 (by decide))
theorem cs_I.keep {b : Bool} {m1 m2 : Nat} {P Q : am_P} {w : List Int} {h : Int} {τ : am_D} {S : List Nat} (hI : cs_I b m1 m2 P Q w h σ) (hf : am_only S σ τ) (hS : ∀ a ∈ S, a < 43 ∧ a ≠ 8 ∧ a ≠ 9 ∧ a ≠ 30) (r1 : cs_R τ 16 m1 P w) (r2 : b = false → cs_R τ 20 m2 Q w) : cs_I b m1 m2 P Q w h τ := by
  obtain ⟨hE, ⟨hb, ho, h0⟩, hr, hMQ, -, -, hw, hl8⟩ := hI
  have e30 : τ.1 30 = σ.1 30 := hf.1 30 (fun z => (hS _ z).2.2.2 rfl)
  have hmQ := hMQ.1.1
  exact ⟨hE.of (hf.1 8 (fun z => (hS _ z).2.1 rfl)) (hf.1 9 (fun z => (hS _ z).2.2.1 rfl)), ⟨by rw [e30]; exact hb, by rw [e30]; exact ho, h0⟩, by rw [hf.2]; exact hr, cd_M_of (fun b y1 y2 => hf.1 b (fun z => by have := (hS _ z).1; omega)) hMQ, r1, r2, hw, hl8⟩
theorem cd_I.R {τ : am_D} {a m : Nat} {P : am_P} {w : List Int} (h : cd_I τ a m P w) : cs_R τ a m P w := ⟨w, [], by simp, h, fun _ _ z => (by cases z)⟩
theorem c_spoilt (d : Nat) {m1 m2 : Nat} {P Q : am_P} {w : List Int} {h : Int} (hI : cs_I true m1 m2 P Q w h σ) : am_MI G (d + 5) mX6_spoilt [am_r (some 30)] σ (fun x σ' => x = (if se_p P Q true w then 1 else 0) ∧ cs_I true m1 m2 P Q w h σ' ∧ am_only cs_S σ σ') := by
  obtain ⟨hE, ⟨hb, -⟩, hr, hMQ, hR1, hR2, hw, hl⟩ := id hI
  have h3 := se_c3n_le w
  have hmQ := hMQ.1.1
  refine am_M.go (by decide) (Nat.le_of_ble_eq_true rfl) rfl ?_
  refine S_X6_spoilt_0 (c_sreads _ (Or.inr (Or.inl rfl)) hE hl hR1) ?_
  rintro x _ ⟨hx, rfl⟩
  have no : rd_tr P w = none → am_X (am_FI G (d + 5) (fun x σ' => x = (if se_p P Q true w then 1 else 0) ∧ cs_I true m1 m2 P Q w h σ' ∧ am_only cs_S σ σ')) mX6_spoilt (0, 0) 21 [none] [] (am_K0, σ) := by
    intro z
    refine S_X6_spoilt_21 ⟨?_, hI, am_only.rfl'⟩
    unfold se_p
    rw [z]
    rfl
  rcases hx with ⟨rfl, hI1⟩ | ⟨rfl, h1⟩
  rotate_left
  · exact S_X6_spoilt_8 (by decide) (fun _ => no (rd_tr_run h1)) (fun z => absurd rfl z)
  refine S_X6_spoilt_8 (by decide) (fun z => absurd z (by decide)) (fun _ => ?_)
  obtain ⟨C, mo, hC⟩ := hI1.run
  refine S_X6_spoilt_11 (c_canEnd _ (Or.inr (Or.inl rfl)) hI1 hC) ?_
  rintro x _ ⟨hx, rfl⟩
  rcases hx with ⟨rfl, hc⟩ | ⟨rfl, hc⟩
  rotate_left
  · exact S_X6_spoilt_18 (by decide) (fun z => absurd rfl z) (fun _ => no (rd_tr_cannot hC hc))
  refine S_X6_spoilt_18 (by decide) (fun _ => ?_) (fun z => absurd (by decide) z)
  obtain ⟨hs, v, hv, htr⟩ := rd_tr_can hC hc
  obtain ⟨b1, b2, b3, b4, b5⟩ := rd_tr_b hI1.2.1.2.2.2.1 hI1.2.1.2.2.2.2 hw (by omega) hC hv
  refine S_X6_spoilt_23 (c_write _ (Or.inr (Or.inl rfl)) hI1 hC hs hv) ?_
  rintro τ ⟨hf, hI2, hO⟩
  have e4 : τ.2.2 30 4 = some m2 := by rw [hf.2]; exact hr
  have hMτ : cd_M τ m2 Q := cd_M_of (fun b y1 y2 => hf.1 b (by simp; omega)) hMQ
  have hIτ : cs_I true m1 m2 P Q w h τ := hI.keep hf (by decide) hI2.R (fun z => nomatch z)
  have hsc := c_scout (G := G) (σ := τ) (d + 1) (Or.inr (Or.inl rfl)) hMτ hO b4
  rw [← e4] at hsc
  refine S_X6_spoilt_30 hsc ?_
  rintro x τ' ⟨hx, hf'⟩
  have hf2 : am_only cs_S σ τ' := (hf.sub (by decide)).trans (hf'.sub (by decide))
  have hIτ' : cs_I true m1 m2 P Q w h τ' := hIτ.keep hf' (by decide) (hI2.R.only hf' (by decide)) (fun z => nomatch z)
  have hsp : se_p P Q true w = !(rd_tr Q (rd_sg (rd_out C v))).isSome := by
    show ((rd_tr P w).isSome && !se_r P Q w) = _
    unfold se_r
    rw [htr]
    rfl
  rw [hsp]
  rcases hx with ⟨rfl, hx⟩ | ⟨rfl, hx⟩
  · refine S_X6_spoilt_45 (by decide) (fun _ => ?_) (fun z => absurd (by decide) z)
    refine S_X6_spoilt_52 (S_X6_spoilt_53 (Or.inl rfl) ⟨?_, hIτ', hf2⟩)
    rw [rd_tr_iff.mpr hx]
    rfl
  · refine S_X6_spoilt_45 (by decide) (fun z => absurd rfl z) (fun _ => ?_)
    refine S_X6_spoilt_48 (S_X6_spoilt_53 (Or.inr rfl) ⟨?_, hIτ', hf2⟩)
    rw [rd_tr_none hx]
    rfl
theorem c_different (d : Nat) {m1 m2 : Nat} {P Q : am_P} {w : List Int} {h : Int} (hI : cs_I false m1 m2 P Q w h σ) : am_MI G (d + 5) mX6_different [am_r (some 30)] σ (fun x σ' => x = (if se_p P Q false w then 1 else 0) ∧ cs_I false m1 m2 P Q w h σ' ∧ am_only cs_S σ σ') := by
  obtain ⟨hE, ⟨hb, -⟩, hr, hMQ, hR1, hR2, hw, hl⟩ := id hI
  have hR2 := hR2 rfl
  have h3 := se_c3n_le w
  have hmQ := hMQ.1.1
  refine am_M.go (by decide) (Nat.le_of_ble_eq_true rfl) rfl ?_
  generalize hQ : (fun (x : Int) (σ' : am_D) => x = (if se_p P Q false w then 1 else 0) ∧ cs_I false m1 m2 P Q w h σ' ∧ am_only cs_S σ σ') = QQ
  have hsp : se_p P Q false w = decide (rd_tr P w ≠ rd_tr Q w) := rfl
  -- one
  have two : ∀ f1 : Int, (f1 = 1 ∧ ∃ C mo, rd_run P w rd_0 0 = some (C, mo) ∧ rd_can P C ∧ cd_I σ 16 m1 P w) ∨ (f1 = 0 ∧ rd_tr P w = none) → am_X (am_FI G (d + 5) QQ) mX6_different (0, 0) 26 [some (am_r (some 30)), none, none] [am_i f1] (am_K0, σ) := by
    intro f1 hf1
    refine S_X6_different_26 ?_
    refine S_X6_different_27 (c_sreads _ (Or.inr (Or.inr rfl)) hE hl hR2) ?_
    rintro x _ ⟨hx, rfl⟩
    have go : ∀ f2 : Int, (f2 = 1 ∧ ∃ C mo, rd_run Q w rd_0 0 = some (C, mo) ∧ rd_can Q C ∧ cd_I σ 20 m2 Q w) ∨ (f2 = 0 ∧ rd_tr Q w = none) → am_X (am_FI G (d + 5) QQ) mX6_different (0, 0) 53 [some (am_r (some 30)), some (am_i f1), none] [am_i f2] (am_K0, σ) := by
      intro f2 hf2
      refine S_X6_different_53 ?_
      have out : ¬ (f1 = 1 ∧ f2 = 1) → am_X (am_FI G (d + 5) QQ) mX6_different (0, 0) 62 [none, some (am_i f1), some (am_i f2)] [] (am_K0, σ) := by
        intro hno
        rw [← hQ]
        refine S_X6_different_62 (by omega) (by omega) (fun y => ?_) (fun y => ?_)
        · refine S_X6_different_71 (S_X6_different_72 (Or.inl rfl) ⟨?_, hI, am_only.rfl'⟩)
          rcases hf1 with ⟨rfl, _⟩ | ⟨rfl, z1⟩
          · exact absurd ⟨rfl, y.symm⟩ hno
          rcases hf2 with ⟨rfl, _⟩ | ⟨rfl, z2⟩
          · exact absurd y (by decide)
          rw [hsp, z1, z2]
          rfl
        · refine S_X6_different_67 (S_X6_different_72 (Or.inr rfl) ⟨?_, hI, am_only.rfl'⟩)
          rw [hsp, if_pos]
          rw [decide_eq_true_eq]
          rcases hf1 with ⟨rfl, C, mo, c1, c2, -⟩ | ⟨rfl, z1⟩
          · rcases hf2 with ⟨rfl, _⟩ | ⟨rfl, z2⟩
            · exact absurd rfl y
            · obtain ⟨-, v, -, e⟩ := rd_tr_can c1 c2
              rw [e, z2]
              exact fun z => nomatch z
          · rcases hf2 with ⟨rfl, C, mo, c1, c2, -⟩ | ⟨rfl, z2⟩
            · obtain ⟨-, v, -, e⟩ := rd_tr_can c1 c2
              rw [e, z1]
              exact fun z => nomatch z
            · exact absurd rfl y
      refine S_X6_different_54 (by omega) (fun y => out (by omega)) (fun y => ?_)
      refine S_X6_different_58 (by omega) (fun y2 => ?_) (fun y2 => out (by omega))
      rcases hf1 with ⟨-, C1, mo1, hC1, cn1, hI1⟩ | ⟨z, -⟩
      rotate_left
      · exact absurd z y
      rcases hf2 with ⟨-, C2, mo2, hC2, cn2, hI2⟩ | ⟨z, -⟩
      rotate_left
      · exact absurd z y2
      obtain ⟨k1, v1, hv1, htr1⟩ := rd_tr_can hC1 cn1
      obtain ⟨k2, v2, hv2, htr2⟩ := rd_tr_can hC2 cn2
      obtain ⟨b1, b2, b3, b4, b5⟩ := rd_tr_b hI1.2.1.2.2.2.1 hI1.2.1.2.2.2.2 hw (by omega) hC1 hv1
      obtain ⟨c1, c2, c3, c4, c5⟩ := rd_tr_b hI2.2.1.2.2.2.1 hI2.2.1.2.2.2.2 hw (by omega) hC2 hv2
      refine S_X6_different_73 (c_write _ (Or.inr (Or.inl rfl)) hI1 hC1 k1 hv1) ?_
      rintro τ ⟨hf, hJ1, hO1⟩
      have hJ2 : cd_I τ 20 m2 Q w := hI2.only hf (by decide)
      refine S_X6_different_80 (c_write _ (Or.inr (Or.inr rfl)) hJ2 hC2 k2 hv2) ?_
      rintro τ' ⟨hf', hJ2', hO2⟩
      have hO1' : cd_O τ' 16 (rd_out C1 v1) := hO1.of (hf'.1 16 (by decide)) (hf'.1 18 (by decide)) (hf'.1 19 (by decide))
      have hJ1' : cd_I τ' 16 m1 P w := hJ1.only hf' (by decide)
      have hf2 : am_only cs_S σ τ' := (hf.sub (by decide)).trans (hf'.sub (by decide))
      have hfx : am_only [16, 18, 19, 20, 22, 23] σ τ' := (hf.sub (by decide)).trans (hf'.sub (by decide))
      have hI' : cs_I false m1 m2 P Q w h τ' := hI.keep hfx (by decide) hJ1'.R (fun _ => hJ2'.R)
      refine S_X6_different_87 (c_wroteAlike _ (Or.inr (Or.inl rfl)) (Or.inr (Or.inr rfl)) hO1' hO2 (by omega) (by omega)) ?_
      rintro x _ ⟨hx, rfl⟩
      rw [← hQ]
      rcases hx with ⟨rfl, hx⟩ | ⟨rfl, hx⟩
      · refine S_X6_different_98 (by decide) (fun _ => ?_) (fun z => absurd (by decide) z)
        refine S_X6_different_105 (S_X6_different_106 (Or.inl rfl) ⟨?_, hI', hf2⟩)
        rw [hsp, htr1, htr2, hx, if_neg]
        rw [decide_eq_true_eq]
        exact fun z => z rfl
      · refine S_X6_different_98 (by decide) (fun z => absurd rfl z) (fun _ => ?_)
        refine S_X6_different_101 (S_X6_different_106 (Or.inr rfl) ⟨?_, hI', hf2⟩)
        rw [hsp, htr1, htr2, if_pos]
        rw [decide_eq_true_eq]
        exact fun z => hx (Option.some.inj z)
    rcases hx with ⟨rfl, hI2⟩ | ⟨rfl, h2⟩
    rotate_left
    · exact S_X6_different_35 (by decide) (fun _ => S_X6_different_52 (go 0 (Or.inr ⟨rfl, rd_tr_run h2⟩))) (fun z => absurd rfl z)
    refine S_X6_different_35 (by decide) (fun z => absurd z (by decide)) (fun _ => ?_)
    obtain ⟨C, mo, hC⟩ := hI2.run
    refine S_X6_different_38 (c_canEnd _ (Or.inr (Or.inr rfl)) hI2 hC) ?_
    rintro x _ ⟨hx, rfl⟩
    rcases hx with ⟨rfl, hc⟩ | ⟨rfl, hc⟩
    · exact S_X6_different_45 (by decide) (fun z => absurd z (by decide)) (fun _ => S_X6_different_48 (go 1 (Or.inl ⟨rfl, C, mo, hC, hc, hI2⟩)))
    · exact S_X6_different_45 (by decide) (fun _ => S_X6_different_52 (go 0 (Or.inr ⟨rfl, rd_tr_cannot hC hc⟩))) (fun z => absurd rfl z)
  refine S_X6_different_0 (c_sreads _ (Or.inr (Or.inl rfl)) hE hl hR1) ?_
  rintro x _ ⟨hx, rfl⟩
  rcases hx with ⟨rfl, hI1⟩ | ⟨rfl, h1⟩
  rotate_left
  · exact S_X6_different_8 (by decide) (fun _ => S_X6_different_25 (two 0 (Or.inr ⟨rfl, rd_tr_run h1⟩))) (fun z => absurd rfl z)
  refine S_X6_different_8 (by decide) (fun z => absurd z (by decide)) (fun _ => ?_)
  obtain ⟨C, mo, hC⟩ := hI1.run
  refine S_X6_different_11 (c_canEnd _ (Or.inr (Or.inl rfl)) hI1 hC) ?_
  rintro x _ ⟨hx, rfl⟩
  rcases hx with ⟨rfl, hc⟩ | ⟨rfl, hc⟩
  · exact S_X6_different_18 (by decide) (fun z => absurd z (by decide)) (fun _ => S_X6_different_21 (two 1 (Or.inl ⟨rfl, C, mo, hC, hc, hI1⟩)))
  · exact S_X6_different_18 (by decide) (fun _ => S_X6_different_25 (two 0 (Or.inr ⟨rfl, rd_tr_cannot hC hc⟩))) (fun z => absurd rfl z)
end
