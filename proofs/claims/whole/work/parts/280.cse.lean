section
/-! The class's search: one turn. -/
theorem rd_run_dead {P : am_P} {w t : List Int} (h : rd_run P w rd_0 0 = none) : rd_run P (w ++ t) rd_0 0 = none := by
  rw [rd_run_app, h]
/-- no DOCUMENT that begins so is looked for -/
def se_H (P Q : am_P) (b : Bool) (w : List Int) : Prop := rd_run P w rd_0 0 = none ∧ (b = true ∨ rd_run Q w rd_0 0 = none)
theorem se_H_p {P Q : am_P} {b : Bool} {w : List Int} (h : se_H P Q b w) : se_p P Q b w = false := by
  unfold se_p
  rw [rd_tr_run h.1]
  cases b with
  | true => rfl
  | false =>
    rcases h.2 with z | z
    · exact absurd z (by decide)
    · rw [rd_tr_run z]; rfl
theorem se_H.app {P Q : am_P} {b : Bool} {w t : List Int} (h : se_H P Q b w) : se_H P Q b (w ++ t) := ⟨rd_run_dead h.1, h.2.imp id rd_run_dead⟩
theorem se_H_D {P Q : am_P} {b : Bool} : ∀ (r : Nat) (h : Int) (w : List Int), se_H P Q b w → se_D (se_p P Q b) r h w = none := by
  intro r
  induction r with
  | zero =>
    intro h w hH
    show (if se_p P Q b w then some w else none) = none
    rw [se_H_p hH]
    rfl
  | succ r ih =>
    intro h w hH
    have hF : ∀ (n : Nat) (e : Int), se_L (fun e => if se_g h r e then se_D (se_p P Q b) r (se_h h e) (w ++ [e]) else none) n e = none := by
      intro n
      induction n with
      | zero => intro e; rfl
      | succ n ihn =>
        intro e
        rw [se_L_none]
        · exact ihn (e + 1)
        · split
          · exact ih _ _ hH.app
          · rfl
    exact hF 4 0
/-- a reader as far as it came on the path -/
def cs_R (τ : am_D) (a m : Nat) (P : am_P) (w : List Int) : Prop := ∃ v t, w = v ++ t ∧ cd_I τ a m P v ∧ ∀ e t', t = e :: t' → rd_run P (v ++ [e]) rd_0 0 = none
abbrev cs_S : List Nat := [8, 9, 16, 17, 18, 19, 20, 21, 22, 23, 29, 30]
theorem cd_I.only {σ τ : am_D} {a m : Nat} {P : am_P} {v : List Int} {S : List Nat} (h : am_only S σ τ) (hS : ∀ b ∈ S, b < 43 ∧ ¬ (a ≤ b ∧ b ≤ a + 3)) (hI : cd_I σ a m P v) : cd_I τ a m P v := by
  have hm := hI.2.1.1.1
  refine hI.of (fun b hb => h.1 b (fun z => ?_)) (by rw [h.2])
  have := hS b z
  omega
theorem cs_R.only {σ τ : am_D} {a m : Nat} {P : am_P} {w : List Int} {S : List Nat} (h : am_only S σ τ) (hS : ∀ b ∈ S, b < 43 ∧ ¬ (a ≤ b ∧ b ≤ a + 3)) (hR : cs_R σ a m P w) : cs_R τ a m P w := by
  obtain ⟨v, t, e, hI, hd⟩ := hR
  exact ⟨v, t, e, hI.only h hS, hd⟩
theorem cd_I.run {σ : am_D} {a m : Nat} {P : am_P} {v : List Int} (hI : cd_I σ a m P v) : ∃ C mo, rd_run P v rd_0 0 = some (C, mo) := by
  obtain ⟨C, mo, h, -⟩ := hI.C
  exact ⟨C, mo, h⟩
/-- where the search stands -/
def cs_I (b : Bool) (m1 m2 : Nat) (P Q : am_P) (w : List Int) (h : Int) (τ : am_D) : Prop := am_E τ 8 w ∧ (τ.1 30 5 = sb_i b ∧ 2 * τ.1 30 6 = w.length + h ∧ 0 ≤ h) ∧ τ.2.2 30 4 = some m2 ∧ cd_M τ m2 Q ∧ cs_R τ 16 m1 P w ∧ (b = false → cs_R τ 20 m2 Q w) ∧ (∀ x ∈ w, 0 ≤ x ∧ x ≤ 3) ∧ w.length ≤ 8
variable {G : am_G} {σ : am_D}
theorem c_sreads (d : Nat) {a m : Nat} {P : am_P} {w : List Int} (ha : am_isR a) (hE : am_E σ 8 w) (hw : w.length ≤ 8) (hR : cs_R σ a m P w) : am_MI G (d + 2) mX6_reads [am_r (some 30), am_r (some a)] σ (fun x σ' => ((x = 1 ∧ cd_I σ a m P w) ∨ (x = 0 ∧ rd_run P w rd_0 0 = none)) ∧ σ = σ') := by
  obtain ⟨v, t, rfl, hI, hd⟩ := hR
  have h5 := hI.2.2.1.1
  rw [List.length_append] at hw
  refine am_M.go (by decide) (Nat.le_of_ble_eq_true rfl) rfl ?_
  refine S_X6_reads_0 ha (c_size _ (Or.inr (Or.inl rfl)) hE) ?_
  rintro _ _ ⟨rfl, rfl⟩
  rw [h5, List.length_append]
  cases t with
  | nil =>
    rw [List.append_nil]
    refine S_X6_reads_11 (by omega) (by omega) (fun z => absurd (by show (v.length : Int) = ((v.length + 0 : Nat) : Int); omega) z) (fun _ => ?_)
    exact S_X6_reads_14 (S_X6_reads_19 (Or.inr rfl) ⟨Or.inl ⟨rfl, hI⟩, rfl⟩)
  | cons e t =>
    refine S_X6_reads_11 (by omega) (by omega) (fun _ => ?_) (fun z => absurd (by show ¬ (v.length : Int) = ((v.length + (t.length + 1) : Nat) : Int); omega) z)
    refine S_X6_reads_18 (S_X6_reads_19 (Or.inl rfl) ⟨Or.inr ⟨rfl, ?_⟩, rfl⟩)
    rw [show v ++ e :: t = (v ++ [e]) ++ t by simp]
    exact rd_run_dead (hd e t rfl)
theorem c_hopeless (d : Nat) {b : Bool} {m1 m2 : Nat} {P Q : am_P} {w : List Int} {h : Int} (hI : cs_I b m1 m2 P Q w h σ) : am_MI G (d + 3) mX6_hopeless [am_r (some 30)] σ (fun x σ' => ((x = 1 ∧ se_H P Q b w) ∨ x = 0) ∧ σ = σ') := by
  obtain ⟨hE, ⟨hb, -⟩, -, -, hR1, hR2, -, hl⟩ := hI
  refine am_M.go (by decide) (Nat.le_of_ble_eq_true rfl) rfl ?_
  refine S_X6_hopeless_0 (c_sreads _ (Or.inr (Or.inl rfl)) hE hl hR1) ?_
  rintro x _ ⟨hx, rfl⟩
  rcases hx with ⟨rfl, -⟩ | ⟨rfl, h1⟩
  · refine S_X6_hopeless_8 (by decide) (fun _ => ?_) (fun z => absurd (by decide) z)
    exact S_X6_hopeless_33 (S_X6_hopeless_34 (Or.inl rfl) ⟨Or.inr rfl, rfl⟩)
  refine S_X6_hopeless_8 (by decide) (fun z => absurd rfl z) (fun _ => ?_)
  cases b with
  | true =>
    have hb : σ.1 30 5 = 1 := hb
    refine S_X6_hopeless_11 (by omega) (fun _ => ?_) (fun z => absurd (by omega) z)
    exact S_X6_hopeless_29 (S_X6_hopeless_34 (Or.inr rfl) ⟨Or.inl ⟨rfl, h1, Or.inl rfl⟩, rfl⟩)
  | false =>
    have hb : σ.1 30 5 = 0 := hb
    refine S_X6_hopeless_11 (by omega) (fun z => absurd hb z) (fun _ => ?_)
    refine S_X6_hopeless_18 (c_sreads _ (Or.inr (Or.inr rfl)) hE hl (hR2 rfl)) ?_
    rintro x _ ⟨hx, rfl⟩
    rcases hx with ⟨rfl, -⟩ | ⟨rfl, h2⟩
    · refine S_X6_hopeless_26 (by decide) (fun _ => ?_) (fun z => absurd (by decide) z)
      exact S_X6_hopeless_33 (S_X6_hopeless_34 (Or.inl rfl) ⟨Or.inr rfl, rfl⟩)
    · refine S_X6_hopeless_26 (by decide) (fun z => absurd rfl z) (fun _ => ?_)
      exact S_X6_hopeless_29 (S_X6_hopeless_34 (Or.inr rfl) ⟨Or.inl ⟨rfl, h1, Or.inr h2⟩, rfl⟩)
/-- one reader, one EVENT on -/
theorem cs_R_step {τ τ' : am_D} {a m : Nat} {P : am_P} {w : List Int} {e x : Int} {C : rd_C} {mo : Int} (hI : cd_I τ a m P w) (hC : rd_run P w rd_0 0 = some (C, mo)) (hx : (x = 0 ∧ rd_step P C e = none ∧ τ = τ') ∨ (x = 1 ∧ (∃ C', rd_step P C e = some C') ∧ am_only [a, a + 1, a + 2, a + 3] τ τ' ∧ cd_I τ' a m P (w ++ [e]))) : cs_R τ' a m P (w ++ [e]) ∧ am_only [a, a + 1, a + 2, a + 3] τ τ' := by
  rcases hx with ⟨-, h1, rfl⟩ | ⟨-, -, h2, h3⟩
  · refine ⟨⟨w, [e], rfl, hI, fun e' t' h => ?_⟩, am_only.rfl'⟩
    injection h with h _
    subst h
    rw [rd_run_app, hC]
    show (match rd_step P C e with
      | none => none
      | some C' => rd_run P [] C' (max mo (rd_held C'))) = none
    rw [h1]
  · exact ⟨⟨w ++ [e], [], by simp, h3, fun e' t' h => by cases h⟩, h2⟩
theorem cs_R_over {τ : am_D} {a m : Nat} {P : am_P} {w : List Int} {e : Int} (h : rd_run P w rd_0 0 = none) (hR : cs_R τ a m P w) : cs_R τ a m P (w ++ [e]) := by
  obtain ⟨v, t, rfl, hI, hd⟩ := hR
  cases t with
  | nil =>
    obtain ⟨C, mo, hC⟩ := hI.run
    rw [List.append_nil, hC] at h
    exact nomatch h
  | cons e' t => exact ⟨v, e' :: t ++ [e], by simp, hI, fun x t' hx => by injection hx with h1 _; exact hd x t (by rw [h1])⟩
theorem c_go (d : Nat) {b : Bool} {m1 m2 : Nat} {P Q : am_P} {w : List Int} {h e : Int} (hI : cs_I b m1 m2 P Q w h σ) (he : 0 ≤ e ∧ e ≤ 3) (hl : w.length < 8) (hh : e = 3 → 0 < h) : am_MV G (d + 5) mX6_go [am_r (some 30), am_i e] σ (fun σ' => cs_I b m1 m2 P Q (w ++ [e]) (se_h h e) σ' ∧ am_only cs_S σ σ') := by
  obtain ⟨hE, ⟨hb, ho, h0⟩, hr, hMQ, hR1, hR2, hw, hl8⟩ := hI
  have h3 := se_c3n_le w
  refine am_M.go (by decide) (Nat.le_of_ble_eq_true rfl) rfl ?_
  generalize hQ : (fun (σ' : am_D) => cs_I b m1 m2 P Q (w ++ [e]) (se_h h e) σ' ∧ am_only cs_S σ σ') = QQ
  have hmQ := hMQ.1.1
  -- behind both
  have fin : ∀ τ, am_only [16, 17, 18, 19, 20, 21, 22, 23] σ τ → cs_R τ 16 m1 P (w ++ [e]) → (b = false → cs_R τ 20 m2 Q (w ++ [e])) → am_X (am_FV G (d + 5) QQ) mX6_go (0, 0) 47 [some (am_r (some 30)), some (am_i e)] [] (am_K0, τ) := by
    intro τ hf r1 r2
    have hEτ : am_E τ 8 w := hE.of (hf.1 8 (by decide)) (hf.1 9 (by decide))
    refine S_X6_go_47 (c_add _ (Or.inr (Or.inl rfl)) hEτ (show w.length < 80 by omega)) ?_
    rintro τ1 ⟨hE1, hf1⟩
    have r1' : cs_R τ1 16 m1 P (w ++ [e]) := r1.only hf1 (by decide)
    have r2' : b = false → cs_R τ1 20 m2 Q (w ++ [e]) := fun z => (r2 z).only hf1 (by decide)
    have hf2 : am_only cs_S σ τ1 := (hf.sub (by decide)).trans (hf1.sub (by decide))
    have e30 : τ1.1 30 = σ.1 30 := by rw [hf1.1 30 (by decide), hf.1 30 (by decide)]
    have hlen : (((w ++ [e]).length : Nat) : Int) = w.length + 1 := by rw [List.length_append]; rfl
    have hlen' : (w ++ [e]).length ≤ 8 := by rw [List.length_append]; show w.length + 1 ≤ 8; omega
    have hwe : ∀ x ∈ w ++ [e], 0 ≤ x ∧ x ≤ 3 := fun x hx => by
      rcases List.mem_append.mp hx with hx | hx
      · exact hw x hx
      · rw [List.mem_singleton.mp hx]; exact he
    refine S_X6_go_55 (by omega) (fun z => ?_) (fun z => ?_)
    · refine S_X6_go_70 ?_
      rw [← hQ]
      refine ⟨⟨hE1, ⟨by rw [e30]; exact hb, by rw [e30, hlen]; unfold se_h; rw [if_pos z]; omega, by unfold se_h; rw [if_pos z]; have := hh z; omega⟩, by rw [hf2.2]; exact hr, cd_M_of (fun b y1 y2 => hf2.1 b (by simp; omega)) hMQ, r1', r2', hwe, hlen'⟩, hf2⟩
    · refine S_X6_go_60 (S_X6_go_70 ?_)
      rw [← hQ]
      have hf3 : am_only [30] τ1 (am_pI τ1 30 6 (τ1.1 30 6 + 1)) := am_only.pI (List.mem_singleton.mpr rfl)
      refine ⟨⟨hE1.of (hf3.1 8 (by decide)) (hf3.1 9 (by decide)), ⟨?_, ?_, ?_⟩, by rw [hf3.2, hf2.2]; exact hr, cd_M_of (fun b y1 y2 => by rw [hf3.1 b (by simp; omega), hf2.1 b (by simp; omega)]) hMQ, r1'.only hf3 (by decide), fun y => (r2' y).only hf3 (by decide), hwe, hlen'⟩, hf2.trans (hf3.sub (by decide))⟩
      · rw [am_pI_nj (by decide), e30]; exact hb
      · rw [am_pI_at, e30, hlen]; unfold se_h; rw [if_neg z]; omega
      · unfold se_h; rw [if_neg z]; omega
  have mid : ∀ τ, am_only [16, 17, 18, 19] σ τ → cs_R τ 16 m1 P (w ++ [e]) → am_X (am_FV G (d + 5) QQ) mX6_go (0, 0) 20 [some (am_r (some 30)), some (am_i e)] [] (am_K0, τ) := by
    intro τ hf r1
    have hEτ : am_E τ 8 w := hE.of (hf.1 8 (by decide)) (hf.1 9 (by decide))
    have e30 : τ.1 30 = σ.1 30 := hf.1 30 (by decide)
    cases b with
    | true =>
      have hb : σ.1 30 5 = 1 := hb
      refine S_X6_go_20 (by rw [e30]; omega) (fun _ => fin τ (hf.sub (by decide)) r1 (fun z => nomatch z)) (fun z => absurd (by rw [e30]; omega) z)
    | false =>
      have hb : σ.1 30 5 = 0 := hb
      have r2 : cs_R τ 20 m2 Q w := (hR2 rfl).only hf (by decide)
      refine S_X6_go_20 (by rw [e30]; omega) (fun z => absurd (by rw [e30]; exact hb) z) (fun _ => ?_)
      refine S_X6_go_27 (c_sreads _ (Or.inr (Or.inr rfl)) hEτ hl8 r2) ?_
      rintro x _ ⟨hx, rfl⟩
      rcases hx with ⟨rfl, hI2⟩ | ⟨rfl, hn⟩
      · refine S_X6_go_35 (by decide) (fun z => absurd z (by decide)) (fun _ => ?_)
        obtain ⟨C, mo, hC⟩ := hI2.run
        refine S_X6_go_38 (c_step _ (Or.inr (Or.inr rfl)) hI2 he (show (w.length : Int) + 1 ≤ 492 by omega) (fun _ => (show (rd_c3n w : Int) + 1 ≤ 246 by omega)) hC) ?_
        intro x τ' hx
        obtain ⟨y1, y2⟩ := cs_R_step hI2 hC hx
        exact fin τ' ((hf.sub (by decide)).trans (y2.sub (by decide))) (r1.only y2 (by decide)) (fun _ => y1)
      · refine S_X6_go_35 (by decide) (fun _ => ?_) (fun z => absurd rfl z)
        exact fin τ (hf.sub (by decide)) r1 (fun _ => cs_R_over hn r2)
  refine S_X6_go_0 (c_sreads _ (Or.inr (Or.inl rfl)) hE hl8 hR1) ?_
  rintro x _ ⟨hx, rfl⟩
  rcases hx with ⟨rfl, hI1⟩ | ⟨rfl, hn⟩
  · refine S_X6_go_8 (by decide) (fun z => absurd z (by decide)) (fun _ => ?_)
    obtain ⟨C, mo, hC⟩ := hI1.run
    refine S_X6_go_11 (c_step _ (Or.inr (Or.inl rfl)) hI1 he (show (w.length : Int) + 1 ≤ 80 by omega) (fun _ => (show (rd_c3n w : Int) + 1 ≤ 40 by omega)) hC) ?_
    intro x τ' hx
    obtain ⟨y1, y2⟩ := cs_R_step hI1 hC hx
    exact mid τ' (y2.sub (by decide)) y1
  · refine S_X6_go_8 (by decide) (fun _ => ?_) (fun z => absurd rfl z)
    exact mid σ am_only.rfl' (cs_R_over hn hR1)
end
