section
/-! A whole MACHINE in the class. -/
variable {G : am_G} {σ : am_D}
/-- an empty Machine -/
def cm_Z (m : Nat) (τ : am_D) : Prop := (τ.1 m 2 = 0 ∧ τ.1 m 3 = 0 ∧ τ.1 m 4 = 0 ∧ τ.1 m 5 = 0 ∧ τ.1 m 6 = 0 ∧ τ.1 m 14 = 0 ∧ τ.1 m 15 = 0) ∧ (∀ j, 0 ≤ j → j < 18 → τ.1 (m + 1) j = -1) ∧ (∀ j, 0 ≤ j → j < 108 → τ.1 (m + 3) j = -1) ∧ (∀ j, 0 ≤ j → j < 6 → τ.1 (m + 5) j = -1)
theorem am_only.fl {S : List Nat} {a : Nat} {i x : Int} (h : a ∈ S) : am_only S σ (am_fl σ.1 a i x, σ.2) := ⟨fun b hb => by
  funext j
  show (if b = a ∧ 0 ≤ j ∧ j < i then x else σ.1 b j) = _
  exact if_neg (show ¬ (b = a ∧ 0 ≤ j ∧ j < i) from fun z => hb (z.1 ▸ h)), rfl⟩
theorem am_fl_of {a b : Nat} {i x : Int} (h : b ≠ a) : (am_fl σ.1 a i x, σ.2).1 b = σ.1 b := by
  funext j
  exact if_neg (fun z => h z.1)
theorem am_fl_at {a : Nat} {i x j : Int} (h : 0 ≤ j ∧ j < i) : (am_fl σ.1 a i x, σ.2).1 a j = x := if_pos ⟨rfl, h⟩
theorem c_mclear (d : Nat) {m : Nat} (hm : am_isM m) : am_MV G (d + 2) mX2_clear [am_r (some m)] σ (fun σ' => am_only [m, m + 1, m + 3, m + 5] σ σ' ∧ cm_Z m σ') := by
  have hm1 := hm.1
  refine am_M.go (by decide) (Nat.le_of_ble_eq_true rfl) rfl ?_
  refine S_X2_clear_0 hm ?_
  refine S_X2_clear_5 hm ?_
  refine S_X2_clear_10 hm ?_
  refine S_X2_clear_15 hm ?_
  refine S_X2_clear_20 hm ?_
  refine S_X2_clear_25 hm ?_
  refine S_X2_clear_30 hm ?_
  have o : am_only [m, m + 1, m + 3, m + 5] σ (am_pI (am_pI (am_pI (am_pI (am_pI (am_pI (am_pI σ m 2 0) m 3 0) m 4 0) m 5 0) m 6 0) m 14 0) m 15 0) := ((((((am_only.pI (by simp)).trans (am_only.pI (by simp))).trans (am_only.pI (by simp))).trans (am_only.pI (by simp))).trans (am_only.pI (by simp))).trans (am_only.pI (by simp))).trans (am_only.pI (by simp))
  have rm : (am_pI (am_pI (am_pI (am_pI (am_pI (am_pI (am_pI σ m 2 0) m 3 0) m 4 0) m 5 0) m 6 0) m 14 0) m 15 0).1 m = am_u1 (am_u1 (am_u1 (am_u1 (am_u1 (am_u1 (am_u1 (σ.1 m) 2 0) 3 0) 4 0) 5 0) 6 0) 14 0) 15 0 := by rw [am_pI_row, am_pI_row, am_pI_row, am_pI_row, am_pI_row, am_pI_row, am_pI_row]
  generalize am_pI (am_pI (am_pI (am_pI (am_pI (am_pI (am_pI σ m 2 0) m 3 0) m 4 0) m 5 0) m 6 0) m 14 0) m 15 0 = τ at o rm ⊢
  refine S_X2_clear_35 hm (c_fill _ (shM1 hm)) ?_
  rintro τ1 h1
  refine S_X2_clear_43 hm (c_fill _ (shM3 hm)) ?_
  rintro τ2 h2
  refine S_X2_clear_51 hm (c_fill _ (shM5 hm)) ?_
  rintro τ3 h3
  refine S_X2_clear_59 ?_
  have o1 : am_only [m, m + 1, m + 3, m + 5] τ τ1 := by rw [h1]; exact am_only.fl (by simp)
  have o2 : am_only [m, m + 1, m + 3, m + 5] τ1 τ2 := by rw [h2]; exact am_only.fl (by simp)
  have o3 : am_only [m, m + 1, m + 3, m + 5] τ2 τ3 := by rw [h3]; exact am_only.fl (by simp)
  have f1 : ∀ a, a ≠ m + 1 → τ1.1 a = τ.1 a := fun a ha => by rw [h1]; exact am_fl_of ha
  have f2 : ∀ a, a ≠ m + 3 → τ2.1 a = τ1.1 a := fun a ha => by rw [h2]; exact am_fl_of ha
  have f3 : ∀ a, a ≠ m + 5 → τ3.1 a = τ2.1 a := fun a ha => by rw [h3]; exact am_fl_of ha
  refine ⟨((o.trans o1).trans o2).trans o3, ?_, fun j j0 j1 => ?_, fun j j0 j1 => ?_, fun j j0 j1 => ?_⟩
  · rw [f3 m (by omega), f2 m (by omega), f1 m (by omega), rm]
    exact ⟨rfl, rfl, rfl, rfl, rfl, rfl, rfl⟩
  · rw [f3 _ (by omega), f2 _ (by omega), h1]
    exact am_fl_at ⟨j0, j1⟩
  · rw [f3 _ (by omega), h2]
    exact am_fl_at ⟨j0, j1⟩
  · rw [h3]
    exact am_fl_at ⟨j0, j1⟩
theorem cm_T_0 {τ : am_D} {m : Nat} {s r : Int} (h : cm_Z m τ) (h0 : τ.1 m 0 = s) (h1 : τ.1 m 1 = r) : cm_T τ m (pm_0 s r) := by
  obtain ⟨⟨a2, a3, a4, a5, a6, a7, a8⟩, b, c, e⟩ := h
  exact ⟨⟨h0, h1, a2, a3, a4, a5, a6⟩, fun l q x1 x2 x3 x4 => ⟨b _ (by omega) (by omega), fun z => absurd rfl z⟩, fun l q k x1 x2 x3 x4 x5 x6 => ⟨c _ (by omega) (by omega), fun z => absurd rfl z⟩, fun q x1 x2 => e q x1 x2⟩
theorem pm_ok_0 {s r : Int} (hs : 1 ≤ s ∧ s ≤ 6) (hr : 1 ≤ r ∧ r ≤ 3) : pm_ok (pm_0 s r) :=
  ⟨hs, hr, ⟨Int.le_refl 0, Int.le_refl 0, Int.le_refl 0, show (0 : Int) + 0 + 0 ≤ 24 by decide⟩, ⟨Int.le_refl 0, show (0 : Int) ≤ 6 by decide⟩, ⟨Int.le_refl 0, show (0 : Int) ≤ 6 by decide⟩, fun _ _ => ⟨Int.le_refl _, show (-1 : Int) < s by omega⟩, fun _ _ => ⟨Int.le_refl 0, show (0 : Int) ≤ 5 by decide⟩, fun _ _ _ => ⟨Int.le_refl _, show (-1 : Int) < s by omega, fun z => absurd rfl z⟩⟩
/-- how a RULE starts -/
theorem c_startRule (d : Nat) {m : Nat} {bs : Int → Int} {n p : Int} {P : am_P} (hm : am_isM m) (hb : σ.1 2 = bs) (hg : tg bs n (σ.1 1) p) (hT : cm_T σ m P) (hP : pm_ok P) : am_MV G (d + 6) mX8_startRule [am_r (some 3), am_r (some m)] σ (fun σ' => am_only [1, 3] σ σ' ∧ σ'.1 3 1 = 0 ∧ σ'.1 3 2 = 0 ∧ ((sl_wd bs n 1 (tk_sp bs n p) = false ∧ sl_wd bs n 2 (tk_sp bs n p) = false ∧ sl_wd bs n 3 (tk_sp bs n p) = false ∧ tf bs n (σ'.1 1) (1 + 8 * tk_st bs n (tk_sp bs n p))) ∨ (¬ (sl_wd bs n 1 (tk_sp bs n p) = false ∧ sl_wd bs n 2 (tk_sp bs n p) = false ∧ sl_wd bs n 3 (tk_sp bs n p) = false) ∧ 24 ≤ pm_n P ∧ tf bs n (σ'.1 1) (5 + 8 * tk_st bs n (tk_sp bs n p))) ∨ (¬ (sl_wd bs n 1 (tk_sp bs n p) = false ∧ sl_wd bs n 2 (tk_sp bs n p) = false ∧ sl_wd bs n 3 (tk_sp bs n p) = false) ∧ pm_n P < 24 ∧ tg bs n (σ'.1 1) (tk_sp bs n p)))) := by
  have hm1 := hm.1
  obtain ⟨t0, t1, t2, t3, t4, t5, t6⟩ := hT.1
  obtain ⟨-, -, ⟨pn1, pn2, pn3, pn4⟩, -⟩ := id hP
  have pnv : pm_n P = pm_nO P + pm_nC P + pm_nE P := rfl
  refine am_M.go (by decide) (Nat.le_of_ble_eq_true rfl) rfl ?_
  refine S_X8_startRule_0 (s_advance0 _ hb hg) ?_
  rintro _ ⟨t, rfl, h⟩
  generalize hQ : (fun σ' : am_D => am_only [1, 3] σ σ' ∧ σ'.1 3 1 = 0 ∧ σ'.1 3 2 = 0 ∧ ((sl_wd bs n 1 (tk_sp bs n p) = false ∧ sl_wd bs n 2 (tk_sp bs n p) = false ∧ sl_wd bs n 3 (tk_sp bs n p) = false ∧ tf bs n (σ'.1 1) (1 + 8 * tk_st bs n (tk_sp bs n p))) ∨ (¬ (sl_wd bs n 1 (tk_sp bs n p) = false ∧ sl_wd bs n 2 (tk_sp bs n p) = false ∧ sl_wd bs n 3 (tk_sp bs n p) = false) ∧ 24 ≤ pm_n P ∧ tf bs n (σ'.1 1) (5 + 8 * tk_st bs n (tk_sp bs n p))) ∨ (¬ (sl_wd bs n 1 (tk_sp bs n p) = false ∧ sl_wd bs n 2 (tk_sp bs n p) = false ∧ sl_wd bs n 3 (tk_sp bs n p) = false) ∧ pm_n P < 24 ∧ tg bs n (σ'.1 1) (tk_sp bs n p)))) = Q
  have J68 : ∀ t, (sl_wd bs n 1 (tk_sp bs n p) = false ∧ sl_wd bs n 2 (tk_sp bs n p) = false ∧ sl_wd bs n 3 (tk_sp bs n p) = false ∧ tf bs n t (1 + 8 * tk_st bs n (tk_sp bs n p))) ∨ (¬ (sl_wd bs n 1 (tk_sp bs n p) = false ∧ sl_wd bs n 2 (tk_sp bs n p) = false ∧ sl_wd bs n 3 (tk_sp bs n p) = false) ∧ 24 ≤ pm_n P ∧ tf bs n t (5 + 8 * tk_st bs n (tk_sp bs n p))) ∨ (¬ (sl_wd bs n 1 (tk_sp bs n p) = false ∧ sl_wd bs n 2 (tk_sp bs n p) = false ∧ sl_wd bs n 3 (tk_sp bs n p) = false) ∧ pm_n P < 24 ∧ tg bs n t (tk_sp bs n p)) → am_X (am_FV G (d + 6) Q) mX8_startRule (0, 0) 68 [some (am_r (some 3)), none] [] (am_K0, am_sr σ 1 t) := by
    intro t ht
    refine S_X8_startRule_68 ?_
    refine S_X8_startRule_73 ?_
    refine S_X8_startRule_78 ?_
    rw [← hQ]
    refine ⟨((am_only.sr (by simp)).trans (am_only.pI (by simp))).trans (am_only.pI (by simp)), by rw [am_pI_row, am_u1_ne (by decide), am_pI_row, am_u1_eq], by rw [am_pI_row, am_u1_eq], ?_⟩
    rw [am_pI_of (by decide), am_pI_of (by decide), am_sr_at]
    exact ht
  have em : ∀ t, (am_sr σ 1 t).1 m = σ.1 m := fun t => am_sr_of (by omega)
  have J51 : ¬ (sl_wd bs n 1 (tk_sp bs n p) = false ∧ sl_wd bs n 2 (tk_sp bs n p) = false ∧ sl_wd bs n 3 (tk_sp bs n p) = false) → am_X (am_FV G (d + 6) Q) mX8_startRule (0, 0) 51 [some (am_r (some 3)), some (am_r (some m))] [] (am_K0, am_sr σ 1 t) := by
    intro hw
    refine S_X8_startRule_51 (c_rules _ hm) hm ?_
    rintro _ _ ⟨rfl, rfl⟩
    rw [em, t2, t3, t4]
    refine S_X8_startRule_55 (by omega) (fun z => J68 t (Or.inr (Or.inr ⟨hw, by omega, h⟩))) (fun z => ?_)
    refine S_X8_startRule_60 (s_fail _ (by omega) hb h) ?_
    rintro _ ⟨t', rfl, h'⟩
    exact J68 t' (Or.inr (Or.inl ⟨hw, by omega, h'⟩))
  refine S_X8_startRule_7 (s_isWord _ (by omega) hb h) ?_
  rintro _ _ ⟨rfl, rfl⟩
  cases w1 : sl_wd bs n 1 (tk_sp bs n p) with
  | true => exact S_X8_startRule_16 (by decide) (fun _ => J51 (fun z => by rw [w1] at z; exact nomatch z.1)) (fun z => absurd (by decide) z)
  | false =>
  refine S_X8_startRule_16 (by decide) (fun z => absurd rfl z) (fun _ => ?_)
  refine S_X8_startRule_19 (s_isWord _ (by omega) hb h) ?_
  rintro _ _ ⟨rfl, rfl⟩
  cases w2 : sl_wd bs n 2 (tk_sp bs n p) with
  | true => exact S_X8_startRule_28 (by decide) (fun _ => J51 (fun z => by rw [w2] at z; exact nomatch z.2.1)) (fun z => absurd (by decide) z)
  | false =>
  refine S_X8_startRule_28 (by decide) (fun z => absurd rfl z) (fun _ => ?_)
  refine S_X8_startRule_31 (s_isWord _ (by omega) hb h) ?_
  rintro _ _ ⟨rfl, rfl⟩
  cases w3 : sl_wd bs n 3 (tk_sp bs n p) with
  | true => exact S_X8_startRule_40 (by decide) (fun _ => J51 (fun z => by rw [w3] at z; exact nomatch z.2.2)) (fun z => absurd (by decide) z)
  | false =>
  refine S_X8_startRule_40 (by decide) (fun z => absurd rfl z) (fun _ => ?_)
  refine S_X8_startRule_43 (s_fail _ (by omega) hb h) ?_
  rintro _ ⟨t', rfl, h'⟩
  have J68' := J68 t' (Or.inl ⟨w1, w2, w3, h'⟩)
  refine S_X8_startRule_51 (c_rules _ hm) hm ?_
  rintro _ _ ⟨rfl, rfl⟩
  rw [em, t2, t3, t4]
  refine S_X8_startRule_55 (by omega) (fun z => J68') (fun z => ?_)
  refine S_X8_startRule_60 (f_fail _ hb h') ?_
  rintro _ rfl
  exact J68'
-- RULES behind a FAULT
theorem cF_readOpen (d : Nat) {m : Nat} {bs : Int → Int} {n F : Int} {P : am_P} (hm : am_isM m) (hb : σ.1 2 = bs) (hg : tf bs n (σ.1 1) F) (hT : cm_T σ m P) (hP : pm_ok P) : am_MV G (d + 4) mX8_readOpen [am_r (some 3), am_r (some m)] σ (fun σ' => σ = σ') := by
  have hm1 := hm.1
  have hok : tk_ok (σ.1 2) (σ.1 1) := by rw [hb]; exact hg.1
  have e0 := hT.1.1
  obtain ⟨⟨pS1, pS2⟩, ⟨pR1, pR2⟩, ⟨pn1, pn2, pn3, pn4⟩, pc, pe, poT, poM, pcT⟩ := id hP
  refine am_M.go (by decide) (Nat.le_of_ble_eq_true rfl) rfl ?_
  refine S_X8_readOpen_0 (cF_letter _ hok hg.ne) ?_
  rintro l _ ⟨hl, rfl⟩
  refine S_X8_readOpen_8 hm (cF_digit _ (by omega) (by omega) hok hg.ne) ?_
  rintro q _ ⟨hq, rfl⟩
  have J41 : am_X (am_FV G (d + 4) (fun σ' => σ = σ')) mX8_readOpen (0, 0) 41 [some (am_r (some 3)), some (am_r (some m)), some (am_i l), some (am_i q), none, none] [] (am_K0, σ) := by
    refine S_X8_readOpen_41 hm (cF_digit _ (by omega) (by omega) hok hg.ne) ?_
    rintro x _ ⟨-, rfl⟩
    refine S_X8_readOpen_57 (cF_digit _ (by omega) (by omega) hok hg.ne) ?_
    rintro y _ ⟨-, rfl⟩
    have h5 := hok.2
    refine S_X8_readOpen_68 (by omega) (fun _ => ?_) (fun z => absurd hg.ne z)
    refine S_X8_readOpen_88 (cF_advance _ hok hg.ne) ?_
    rintro _ rfl
    exact S_X8_readOpen_95 rfl
  refine S_X8_readOpen_23 (c_opensTo _ hm (by omega) (by omega)) hm ?_
  rintro x _ ⟨hx, rfl⟩
  have hrx : -1 ≤ x ∧ x ≤ 5 := by
    rw [hx]
    split
    · have key : ∀ v : Int, 0 ≤ v → v < 18 → -1 ≤ σ.1 (m + 1) v ∧ σ.1 (m + 1) v ≤ 5 := by
        intro v v0 v1
        have hv : v = v / 6 * 6 + v % 6 := by omega
        have := (hT.2.1 (v / 6) (v % 6) (by omega) (by omega) (by omega) (by omega)).1
        have h2 := poT (v / 6) (v % 6)
        rw [← hv] at this
        omega
      exact key _ (by omega) (by omega)
    · omega
  refine S_X8_readOpen_29 (by omega) (fun _ => J41) (fun _ => ?_)
  refine S_X8_readOpen_33 (cF_fail _ hok hg.ne) ?_
  rintro _ rfl
  exact J41
theorem cF_readClose (d : Nat) {m : Nat} {bs : Int → Int} {n F : Int} {P : am_P} (hm : am_isM m) (hb : σ.1 2 = bs) (hg : tf bs n (σ.1 1) F) (h31 : σ.1 3 1 = 0) (hT : cm_T σ m P) (hP : pm_ok P) : am_MV G (d + 4) mX8_readClose [am_r (some 3), am_r (some m)] σ (fun σ' => am_only [m] σ σ') := by
  have hm1 := hm.1
  have hok : tk_ok (σ.1 2) (σ.1 1) := by rw [hb]; exact hg.1
  have e0 := hT.1.1
  have e1 := hT.1.2.1
  have e5 := hT.1.2.2.2.2.2.1
  obtain ⟨⟨pS1, pS2⟩, ⟨pR1, pR2⟩, ⟨pn1, pn2, pn3, pn4⟩, pc, pe, poT, poM, pcT⟩ := id hP
  refine am_M.go (by decide) (Nat.le_of_ble_eq_true rfl) rfl ?_
  refine S_X8_readClose_0 (cF_letter _ hok hg.ne) ?_
  rintro l _ ⟨hl, rfl⟩
  refine S_X8_readClose_8 hm (cF_digit _ (by omega) (by omega) hok hg.ne) ?_
  rintro q _ ⟨hq, rfl⟩
  refine S_X8_readClose_23 (cF_digit _ (by omega) (by omega) hok hg.ne) ?_
  rintro k _ ⟨hk, rfl⟩
  refine S_X8_readClose_34 (c_laying _) ?_
  rintro _ _ ⟨rfl, rfl⟩
  have h5 := hok.2
  have J61 : am_X (am_FV G (d + 4) (fun σ' => am_only [m] σ σ')) mX8_readClose (0, 0) 61 [some (am_r (some 3)), some (am_r (some m)), none, some (am_i q), none, some (am_i (l * 6 + k)), none, none] [] (am_K0, σ) := by
    refine S_X8_readClose_61 hm (cF_digit _ (by omega) (by omega) hok hg.ne) ?_
    rintro x _ ⟨-, rfl⟩
    refine S_X8_readClose_77 (cF_sign _ (by omega) hok hg.ne) ?_
    rintro _ rfl
    refine S_X8_readClose_86 (by omega) (fun _ => ?_) (fun z => absurd hg.ne z)
    refine S_X8_readClose_105 ?_
    have J164 : am_X (am_FV G (d + 4) (fun σ' => am_only [m] σ σ')) mX8_readClose (0, 0) 164 [some (am_r (some 3)), some (am_r (some m)), none, none, none, none, none, none] [] (am_K0, σ) := by
      refine S_X8_readClose_164 hm (c_max _ (by omega) (by omega)) ?_
      rintro _ _ ⟨rfl, rfl⟩
      refine S_X8_readClose_176 hm ?_
      exact S_X8_readClose_179 (am_only.pI (by simp))
    refine S_X8_readClose_108 hm (by omega) (by omega) (fun _ => J164) (fun _ => ?_)
    exact S_X8_readClose_117 (by omega) (fun _ => J164) (fun z => absurd hg.ne z)
  refine S_X8_readClose_42 (c_closesTo _ hm (by omega) (by omega)) hm ?_
  rintro x _ ⟨hx, rfl⟩
  have hrx : -1 ≤ x ∧ x ≤ 5 := by
    rw [hx]
    split
    · have key : ∀ v : Int, 0 ≤ v → v < 108 → -1 ≤ σ.1 (m + 3) v ∧ σ.1 (m + 3) v ≤ 5 := by
        intro v v0 v1
        have hv : v = (v / 36 * 6 + v / 6 % 6) * 6 + v % 6 := by omega
        have := (hT.2.2.1 (v / 36) (v % 6) (v / 6 % 6) (by omega) (by omega) (by omega) (by omega) (by omega) (by omega)).1
        have h2 := pcT (v / 36) (v % 6) (v / 6 % 6)
        rw [← hv] at this
        omega
      exact key _ (by omega) (by omega)
    · omega
  refine S_X8_readClose_49 (by omega) (fun _ => J61) (fun _ => ?_)
  refine S_X8_readClose_53 (cF_fail _ hok hg.ne) ?_
  rintro _ rfl
  exact J61
theorem cF_readEnd (d : Nat) {m : Nat} {bs : Int → Int} {n F : Int} {P : am_P} (hm : am_isM m) (hb : σ.1 2 = bs) (hg : tf bs n (σ.1 1) F) (h31 : σ.1 3 1 = 0) (hT : cm_T σ m P) (hN : cm_N σ m (pm_n P)) (hP : pm_ok P) : am_MV G (d + 4) mX8_readEnd [am_r (some 3), am_r (some m)] σ (fun σ' => am_only [m] σ σ') := by
  have hm1 := hm.1
  have hok : tk_ok (σ.1 2) (σ.1 1) := by rw [hb]; exact hg.1
  have e0 := hT.1.1
  have e6 := hT.1.2.2.2.2.2.2
  obtain ⟨⟨pS1, pS2⟩, ⟨pR1, pR2⟩, ⟨pn1, pn2, pn3, pn4⟩, pc, pe, poT, poM, pcT⟩ := id hP
  refine am_M.go (by decide) (Nat.le_of_ble_eq_true rfl) rfl ?_
  refine S_X8_readEnd_0 hm (cF_digit _ (by omega) (by omega) hok hg.ne) ?_
  rintro q _ ⟨hq, rfl⟩
  have h5 := hok.2
  have J32 : am_X (am_FV G (d + 4) (fun σ' => am_only [m] σ σ')) mX8_readEnd (0, 0) 32 [some (am_r (some 3)), some (am_r (some m)), some (am_i q)] [] (am_K0, σ) := by
    refine S_X8_readEnd_32 (cF_sign _ (by omega) hok hg.ne) ?_
    rintro _ rfl
    refine S_X8_readEnd_41 (by omega) (fun _ => ?_) (fun z => absurd hg.ne z)
    refine S_X8_readEnd_62 hm (c_max _ (by omega) (by omega)) ?_
    rintro _ _ ⟨rfl, rfl⟩
    refine S_X8_readEnd_74 hm ?_
    exact S_X8_readEnd_77 (am_only.pI (by simp))
  refine S_X8_readEnd_15 (c_endTells _ hm (by omega)) hm ?_
  rintro x _ ⟨hx, rfl⟩
  have hrx : -1 ≤ x ∧ x ≤ 72 := by
    rw [hx]
    split
    · have := hT.2.2.2 q (by omega) (by omega)
      have hn := hN.2.1
      cases hq : pm_eX P q with
      | none =>
        rw [hq] at this
        have : σ.1 (m + 5) q = -1 := this
        omega
      | some w =>
        rw [hq] at this
        have h1 : cm_X σ m (σ.1 (m + 5) q) w := this
        have := h1.1
        have := h1.2.1
        omega
    · omega
  refine S_X8_readEnd_20 (by omega) (fun _ => J32) (fun _ => ?_)
  refine S_X8_readEnd_24 (cF_fail _ hok hg.ne) ?_
  rintro _ rfl
  exact J32
end
