section
/-! The RULES of a MACHINE in the class. -/
def cm_XS (τ : am_D) (m : Nat) (e : Int) (ws : List (List Int)) : Prop := ∀ i : Nat, i < ws.length → cm_X τ m (e + i) (ws.getD i [])
def cm_XE (τ : am_D) (m : Nat) (e : Int) : Option (List Int) → Prop
  | none => e = -1
  | some w => cm_X τ m e w
/-- Machine m of the class has the picture P -/
def cm_T (τ : am_D) (m : Nat) (P : am_P) : Prop :=
  (τ.1 m 0 = pm_S P ∧ τ.1 m 1 = pm_R P ∧ τ.1 m 2 = pm_nO P ∧ τ.1 m 3 = pm_nC P ∧ τ.1 m 4 = pm_nE P ∧ τ.1 m 5 = pm_mC P ∧ τ.1 m 6 = pm_mE P) ∧
  (∀ l q : Int, 0 ≤ l → l < 3 → 0 ≤ q → q < 6 → τ.1 (m + 1) (l * 6 + q) = pm_oT P l q ∧ (pm_oT P l q ≠ -1 → τ.1 (m + 2) (l * 6 + q) = l * 6 + pm_oM P l q)) ∧
  (∀ l q k : Int, 0 ≤ l → l < 3 → 0 ≤ q → q < 6 → 0 ≤ k → k < 6 → τ.1 (m + 3) ((l * 6 + k) * 6 + q) = pm_cT P l q k ∧ (pm_cT P l q k ≠ -1 → cm_XS τ m (τ.1 (m + 4) ((l * 6 + k) * 6 + q)) (pm_cX P l q k))) ∧
  (∀ q : Int, 0 ≤ q → q < 6 → cm_XE τ m (τ.1 (m + 5) q) (pm_eX P q))
def cm_N (τ : am_D) (m : Nat) (c : Int) : Prop := 0 ≤ τ.1 m 14 ∧ τ.1 m 14 ≤ 3 * c ∧ 0 ≤ τ.1 m 15 ∧ τ.1 m 15 ≤ 18 * c ∧ (0 < τ.1 m 14 → τ.1 (m + 7) (τ.1 m 14) = τ.1 m 15)
abbrev pm_n (P : am_P) : Int := pm_nO P + pm_nC P + pm_nE P
def pm_ok (P : am_P) : Prop := (1 ≤ pm_S P ∧ pm_S P ≤ 6) ∧ (1 ≤ pm_R P ∧ pm_R P ≤ 3) ∧ (0 ≤ pm_nO P ∧ 0 ≤ pm_nC P ∧ 0 ≤ pm_nE P ∧ pm_n P ≤ 24) ∧ (0 ≤ pm_mC P ∧ pm_mC P ≤ 6) ∧ (0 ≤ pm_mE P ∧ pm_mE P ≤ 6) ∧ (∀ l q, -1 ≤ pm_oT P l q ∧ pm_oT P l q < pm_S P) ∧ (∀ l q, 0 ≤ pm_oM P l q ∧ pm_oM P l q ≤ 5) ∧ (∀ l q k, -1 ≤ pm_cT P l q k ∧ pm_cT P l q k < pm_S P ∧ (pm_cT P l q k ≠ -1 → ((pm_cX P l q k).length : Int) = pm_R P))
abbrev cm_A (m : Nat) : List Nat := [1, 3, m, m + 1, m + 2, m + 3, m + 4, m + 5, m + 6, m + 7]
/-- what a RULE leaves -/
def cm_O (σ : am_D) (m : Nat) (bs : Int → Int) (n p : Int) (R : Int ⊕ (am_P × Int)) (τ : am_D) : Prop := am_only (cm_A m) σ τ ∧ match R with
  | .inl F => tf bs n (τ.1 1) F
  | .inr (P', p') => tg bs n (τ.1 1) p' ∧ p < p' ∧ cm_T τ m P' ∧ cm_N τ m (pm_n P') ∧ pm_ok P'
theorem cm_X_of {σ τ : am_D} {m : Nat} {e : Int} {w : List Int} (h6 : τ.1 (m + 6) = σ.1 (m + 6)) (h7 : τ.1 (m + 7) = σ.1 (m + 7)) (h14 : τ.1 m 14 = σ.1 m 14) (h15 : τ.1 m 15 = σ.1 m 15) (h : cm_X σ m e w) : cm_X τ m e w := by
  unfold cm_X at h ⊢
  rw [h6, h7, h14, h15]
  exact h
theorem cm_XE_mono {σ τ : am_D} {m : Nat} {e : Int} {o : Option (List Int)} (hx : ∀ e w, cm_X σ m e w → cm_X τ m e w) (h : cm_XE σ m e o) : cm_XE τ m e o := by
  cases o with
  | none => exact h
  | some w => exact hx _ _ h
theorem cm_T_addO {σ τ : am_D} {m : Nat} {P : am_P} {l q to mk : Int} (hl : 0 ≤ l ∧ l < 3) (hq : 0 ≤ q ∧ q < 6) (hT : cm_T σ m P) (h0 : τ.1 m = am_u1 (σ.1 m) 2 (σ.1 m 2 + 1)) (h1 : τ.1 (m + 1) = am_u1 (σ.1 (m + 1)) (l * 6 + q) to) (h2 : τ.1 (m + 2) = am_u1 (σ.1 (m + 2)) (l * 6 + q) (l * 6 + mk)) (h3 : τ.1 (m + 3) = σ.1 (m + 3)) (h4 : τ.1 (m + 4) = σ.1 (m + 4)) (h5 : τ.1 (m + 5) = σ.1 (m + 5)) (h6 : τ.1 (m + 6) = σ.1 (m + 6)) (h7 : τ.1 (m + 7) = σ.1 (m + 7)) : cm_T τ m (pm_addO P l q to mk) := by
  obtain ⟨⟨a0, a1, a2, a3, a4, a5, a6⟩, b, c, e⟩ := hT
  have hx : ∀ e w, cm_X σ m e w → cm_X τ m e w := fun e w => cm_X_of h6 h7 (by rw [h0, am_u1_ne (by decide)]) (by rw [h0, am_u1_ne (by decide)])
  refine ⟨⟨?_, ?_, ?_, ?_, ?_, ?_, ?_⟩, ?_, ?_, ?_⟩
  · rw [h0, am_u1_ne (by decide)]; exact a0
  · rw [h0, am_u1_ne (by decide)]; exact a1
  · rw [h0, am_u1_eq, a2]; rfl
  · rw [h0, am_u1_ne (by decide)]; exact a3
  · rw [h0, am_u1_ne (by decide)]; exact a4
  · rw [h0, am_u1_ne (by decide)]; exact a5
  · rw [h0, am_u1_ne (by decide)]; exact a6
  · intro l' q' x1 x2 x3 x4
    show τ.1 (m + 1) (l' * 6 + q') = pm_u2 (pm_oT P) l q to l' q' ∧ (pm_u2 (pm_oT P) l q to l' q' ≠ -1 → τ.1 (m + 2) (l' * 6 + q') = l' * 6 + pm_u2 (pm_oM P) l q mk l' q')
    unfold pm_u2
    by_cases z : l' = l ∧ q' = q
    · rw [if_pos z, if_pos z, h1, h2, z.1, z.2, am_u1_eq, am_u1_eq]
      exact ⟨rfl, fun _ => rfl⟩
    · rw [if_neg z, if_neg z, h1, h2, am_u1_ne (by omega), am_u1_ne (by omega)]
      exact b l' q' x1 x2 x3 x4
  · intro l' q' k' x1 x2 x3 x4 x5 x6
    rw [h3, h4]
    exact ⟨(c l' q' k' x1 x2 x3 x4 x5 x6).1, fun z i hi => hx _ _ ((c l' q' k' x1 x2 x3 x4 x5 x6).2 z i hi)⟩
  · intro q' x1 x2
    rw [h5]
    exact cm_XE_mono hx (e q' x1 x2)
theorem cm_X_D {σ τ : am_D} {m : Nat} {B p own e c : Int} {seen acc w : List Int} (hN : cm_N σ m c) (h : cm_D σ m B p own seen acc τ) (hx : cm_X σ m e w) : cm_X τ m e w := by
  obtain ⟨d1, d2, d3, d4, d5, d6, d7, d8, d9, d10, d11, d12, d13, d14, d15, d16⟩ := h
  obtain ⟨n1, n2, n3, n4, n5⟩ := hN
  obtain ⟨x1, x2, x3, x4, x5, x6⟩ := hx
  have r0 : τ.1 (m + 7) e = σ.1 (m + 7) e := by rw [d15, am_u1_ne (by omega), am_u1_ne (by omega)]
  have r1 : τ.1 (m + 7) (e + 1) = σ.1 (m + 7) (e + 1) := by
    rw [d15, am_u1_ne (by omega)]
    by_cases z : e + 1 = σ.1 m 14
    · rw [z, am_u1_eq]
      exact (n5 (by omega)).symm
    · rw [am_u1_ne z]
  refine ⟨x1, by omega, by rw [r0]; exact x3, by rw [r0, r1]; exact x4, by rw [r0]; omega, fun i hi => ?_⟩
  rw [r0, d14 _ (by omega)]
  exact x6 i hi
theorem cm_X_new {σ τ : am_D} {m : Nat} {B p own c : Int} {seen acc : List Int} (hN : cm_N σ m c) (h : cm_D σ m B p own seen acc τ) : cm_X τ m (σ.1 m 14) acc := by
  obtain ⟨d1, d2, d3, d4, d5, d6, d7, d8, d9, d10, d11, d12, d13, d14, d15, d16⟩ := h
  obtain ⟨n1, n2, n3, n4, n5⟩ := hN
  have r0 : τ.1 (m + 7) (σ.1 m 14) = σ.1 m 15 := by rw [d15, am_u1_ne (by omega), am_u1_eq]
  have r1 : τ.1 (m + 7) (σ.1 m 14 + 1) = σ.1 m 15 + acc.length := by rw [d15, am_u1_eq]
  refine ⟨n1, by omega, by omega, by omega, by omega, fun i hi => ?_⟩
  rw [r0]
  exact d13 i hi
variable {G : am_G} {σ : am_D}
theorem s_advance0 (d : Nat) {bs : Int → Int} {n p : Int} (hb : σ.1 2 = bs) (h : tg bs n (σ.1 1) p) : am_MV G (d + 2) mX7_advance [am_r (some 1)] σ (fun σ' => ∃ t', σ' = am_sr σ 1 t' ∧ tg bs n t' (tk_sp bs n p)) := by
  have := s_advance (G := G) (σ := σ) d hb h
  rw [am_sr_self] at this
  exact this
theorem c_readOpen (d : Nat) {m : Nat} {bs : Int → Int} {n p : Int} {P : am_P} (hm : am_isM m) (hb : σ.1 2 = bs) (hg : tg bs n (σ.1 1) p) (hk : tk_k bs n p ≠ 0) (hT : cm_T σ m P) (hN : cm_N σ m (pm_n P)) (hP : pm_ok P) (h24 : pm_n P < 24) : am_MV G (d + 4) mX8_readOpen [am_r (some 3), am_r (some m)] σ (fun σ' => cm_O σ m bs n p (sm_open bs n P p) σ') := by
  have hm1 := hm.1
  refine am_M.go (by decide) (Nat.le_of_ble_eq_true rfl) rfl ?_
  generalize hR : sm_open bs n P p = R
  unfold sm_open at hR
  have em : ∀ t, (am_sr σ 1 t).1 m = σ.1 m := fun t => am_sr_of (by omega)
  have e0 : ∀ t, (am_sr σ 1 t).1 m 0 = pm_S P := fun t => by rw [em]; exact hT.1.1
  obtain ⟨⟨pS1, pS2⟩, ⟨pR1, pR2⟩, ⟨pn1, pn2, pn3, pn4⟩, pc, pe, poT, poM, pcT⟩ := id hP
  have F88 : ∀ (t : Int → Int) (F : Int), tf bs n t F → R = .inl F → am_X (am_FV G (d + 4) (fun σ' => cm_O σ m bs n p R σ')) mX8_readOpen (0, 0) 88 [some (am_r (some 3)), none, none, none, none, none] [] (am_K0, am_sr σ 1 t) := by
    intro t F h hR
    refine S_X8_readOpen_88 (f_advance _ hb h) ?_
    rintro _ rfl
    refine S_X8_readOpen_95 ?_
    rw [hR]
    exact ⟨am_only.sr (by simp), by rw [am_sr_at]; exact h⟩
  have F57 : ∀ (t : Int → Int) (F l q to : Int), tf bs n t F → R = .inl F → am_X (am_FV G (d + 4) (fun σ' => cm_O σ m bs n p R σ')) mX8_readOpen (0, 0) 57 [some (am_r (some 3)), some (am_r (some m)), some (am_i l), some (am_i q), some (am_i to), none] [] (am_K0, am_sr σ 1 t) := by
    intro t F l q to h hR
    refine S_X8_readOpen_57 (f_digit _ (by omega) (by omega) hb h) ?_
    rintro x _ ⟨-, rfl⟩
    have h5 := h.1.2
    refine S_X8_readOpen_68 (by rw [am_sr_at]; omega) (fun _ => F88 t F h hR) (fun z => ?_)
    rw [am_sr_at] at z
    exact absurd h.ne z
  have F41 : ∀ (t : Int → Int) (F l q : Int), tf bs n t F → R = .inl F → am_X (am_FV G (d + 4) (fun σ' => cm_O σ m bs n p R σ')) mX8_readOpen (0, 0) 41 [some (am_r (some 3)), some (am_r (some m)), some (am_i l), some (am_i q), none, none] [] (am_K0, am_sr σ 1 t) := by
    intro t F l q h hR
    refine S_X8_readOpen_41 hm (f_digit _ (by omega) (by rw [e0]; omega) hb h) ?_
    rintro x _ ⟨-, rfl⟩
    exact F57 t F l q x h hR
  have F23 : ∀ (t : Int → Int) (F l q : Int), -1 ≤ l ∧ l ≤ 2 → -1 ≤ q ∧ q ≤ 5 → tf bs n t F → R = .inl F → am_X (am_FV G (d + 4) (fun σ' => cm_O σ m bs n p R σ')) mX8_readOpen (0, 0) 23 [some (am_r (some 3)), some (am_r (some m)), some (am_i l), some (am_i q), none, none] [] (am_K0, am_sr σ 1 t) := by
    intro t F l q hl hq h hR
    refine S_X8_readOpen_23 (c_opensTo _ hm (by omega) (by omega)) hm ?_
    rintro x _ ⟨hx, rfl⟩
    have hrx : -1 ≤ x ∧ x ≤ 5 := by
      rw [hx, am_sr_of (by omega)]
      split
      · by_cases z : 0 ≤ q
        · rw [(hT.2.1 l q (by omega) (by omega) z (by omega)).1]
          have := poT l q
          omega
        · have := (hT.2.1 (l - 1) 5 (by omega) (by omega) (by omega) (by omega)).1
          have := poT (l - 1) 5
          rw [show l * 6 + q = (l - 1) * 6 + 5 by omega]
          omega
      · omega
    refine S_X8_readOpen_29 (by omega) (fun _ => F41 t F l q h hR) (fun _ => ?_)
    refine S_X8_readOpen_33 (f_fail _ hb h) ?_
    rintro _ rfl
    exact F41 t F l q h hR
  have M : ∀ t, tg bs n t p → am_X (am_FV G (d + 4) (fun σ' => cm_O σ m bs n p R σ')) mX8_readOpen (0, 0) 0 [some (am_r (some 3)), some (am_r (some m)), none, none, none, none] [] (am_K0, am_sr σ 1 t) := by
    intro t h
    have hp1 := tk_lt hk
    have hp2 := tk_in (bs := bs) h.2.2.2.2.2
    refine S_X8_readOpen_0 (s_letter _ hb h) ?_
    rintro l _ ⟨t, rfl, ⟨h1, h2, h⟩ | ⟨h1, h2, h3, h⟩⟩
    · rw [if_pos h2] at hR
      refine S_X8_readOpen_8 hm (f_digit _ (by omega) (by rw [e0]; omega) hb h) ?_
      rintro q _ ⟨hq, rfl⟩
      rw [e0] at hq
      exact F23 t _ l q (by omega) (by omega) h hR.symm
    rw [if_neg (show ¬ sl_let bs n (tk_sp bs n p) = -1 by omega), ← h1] at hR
    refine S_X8_readOpen_8 hm (s_digit _ (by omega) (by rw [e0]; omega) hb h) ?_
    rintro q _ ⟨t, rfl, hq⟩
    rw [e0] at hq
    rcases hq with ⟨q1, q2, h⟩ | ⟨q1, q2, q3, h⟩
    · rw [if_pos q2] at hR
      exact F23 t _ l q (by omega) (by omega) h hR.symm
    rw [if_neg (show ¬ sl_dig bs n 0 (pm_S P - 1) (tk_sp bs n (tk_sp bs n p)) < 0 by omega), ← q1] at hR
    refine S_X8_readOpen_23 (c_opensTo _ hm (by omega) (by omega)) hm ?_
    rintro _ _ ⟨rfl, rfl⟩
    rw [if_pos (by omega), am_sr_of (by omega), (hT.2.1 l q (by omega) (by omega) (by omega) (by omega)).1]
    have hoT := poT l q
    refine S_X8_readOpen_29 (by omega) (fun z => ?_) (fun z => ?_)
    rotate_left
    · rw [if_pos z] at hR
      refine S_X8_readOpen_33 (s_fail _ (by omega) hb h) ?_
      rintro _ ⟨t, rfl, h⟩
      exact F41 t _ l q h hR.symm
    rw [if_neg (by omega)] at hR
    refine S_X8_readOpen_41 hm (s_digit _ (by omega) (by rw [e0]; omega) hb h) ?_
    rintro to _ ⟨t, rfl, hto⟩
    rw [e0] at hto
    rcases hto with ⟨o1, o2, h⟩ | ⟨o1, o2, o3, h⟩
    · rw [if_pos o2] at hR
      exact F57 t _ l q to h hR.symm
    rw [if_neg (show ¬ sl_dig bs n 0 (pm_S P - 1) (tk_sp bs n (tk_sp bs n (tk_sp bs n p))) < 0 by omega), ← o1] at hR
    refine S_X8_readOpen_57 (s_digit _ (by omega) (by omega) hb h) ?_
    rintro mk _ ⟨t, rfl, ⟨k1, k2, h⟩ | ⟨k1, k2, k3, h⟩⟩
    · rw [if_pos k2] at hR
      have h5 := h.1.2
      refine S_X8_readOpen_68 (by rw [am_sr_at]; omega) (fun _ => F88 t _ h hR.symm) (fun z => ?_)
      rw [am_sr_at] at z
      exact absurd h.ne z
    rw [if_neg (show ¬ sl_dig bs n 0 5 (tk_sp bs n (tk_sp bs n (tk_sp bs n (tk_sp bs n p)))) < 0 by omega), ← k1] at hR
    have h5 := h.2.2.1
    refine S_X8_readOpen_68 (by rw [am_sr_at]; omega) (fun z => absurd (by rw [am_sr_at]; exact h5) z) (fun _ => ?_)
    refine S_X8_readOpen_78 (c_addOpen _ hm (by omega) (by omega)) hm ?_
    rintro _ rfl
    have g0 : ∀ a, a ≠ m → a ≠ m + 1 → a ≠ m + 2 → (am_pI (am_pI (am_pI (am_sr σ 1 t) (m + 1) (l * 6 + q) to) (m + 2) (l * 6 + q) (l * 6 + mk)) m 2 ((am_sr σ 1 t).1 m 2 + 1)).1 a = (am_sr σ 1 t).1 a := fun a y0 y1 y2 => by rw [am_pI_of y0, am_pI_of y2, am_pI_of y1]
    generalize hτ : am_pI (am_pI (am_pI (am_sr σ 1 t) (m + 1) (l * 6 + q) to) (m + 2) (l * 6 + q) (l * 6 + mk)) m 2 ((am_sr σ 1 t).1 m 2 + 1) = τ at g0 ⊢
    have r0 : τ.1 m = am_u1 (σ.1 m) 2 (σ.1 m 2 + 1) := by rw [← hτ, am_pI_row, am_pI_of (by omega), am_pI_of (by omega), em]
    have r1 : τ.1 (m + 1) = am_u1 (σ.1 (m + 1)) (l * 6 + q) to := by rw [← hτ, am_pI_of (by omega), am_pI_of (by omega), am_pI_row, am_sr_of (by omega)]
    have r2 : τ.1 (m + 2) = am_u1 (σ.1 (m + 2)) (l * 6 + q) (l * 6 + mk) := by rw [← hτ, am_pI_of (by omega), am_pI_row, am_pI_of (by omega), am_sr_of (by omega)]
    have r3 : ∀ a, a ≠ m → a ≠ m + 1 → a ≠ m + 2 → a ≠ 1 → τ.1 a = σ.1 a := fun a y0 y1 y2 y3 => by rw [g0 a y0 y1 y2, am_sr_of y3]
    have ro : am_only (cm_A m) σ τ := by
      rw [← hτ]
      exact (((am_only.sr (by simp)).trans (am_only.pI (by simp))).trans (am_only.pI (by simp))).trans (am_only.pI (by simp))
    have rt : τ.1 1 = t := by rw [g0 1 (by omega) (by omega) (by omega), am_sr_at]
    have hp := h.2.2.2.2.1
    refine S_X8_readOpen_88 (s_advance0 _ (bs := bs) (n := n) (by rw [r3 2 (by omega) (by omega) (by omega) (by omega)]; exact hb) (by rw [rt]; exact h)) ?_
    rintro _ ⟨t', rfl, h'⟩
    refine S_X8_readOpen_95 ?_
    rw [← hR]
    have f0 : ∀ a, a ≠ 1 → (am_sr τ 1 t').1 a = τ.1 a := fun a ha => am_sr_of ha
    have i1 := tk_in (bs := bs) (n := n) (p := tk_sp bs n p) (by omega)
    have i2 := tk_in (bs := bs) (n := n) (p := tk_sp bs n (tk_sp bs n p)) (by omega)
    have i3 := tk_in (bs := bs) (n := n) (p := tk_sp bs n (tk_sp bs n (tk_sp bs n p))) (by omega)
    have i4 := tk_in (bs := bs) (n := n) (p := tk_sp bs n (tk_sp bs n (tk_sp bs n (tk_sp bs n p)))) (by omega)
    refine ⟨ro.trans (am_only.sr (by simp)), by rw [am_sr_at]; exact h', by omega, ?_, ?_, ?_⟩
    · exact cm_T_addO (by omega) (by omega) hT (by rw [f0 m (by omega)]; exact r0) (by rw [f0 _ (by omega)]; exact r1) (by rw [f0 _ (by omega)]; exact r2) (by rw [f0 _ (by omega), r3 _ (by omega) (by omega) (by omega) (by omega)]) (by rw [f0 _ (by omega), r3 _ (by omega) (by omega) (by omega) (by omega)]) (by rw [f0 _ (by omega), r3 _ (by omega) (by omega) (by omega) (by omega)]) (by rw [f0 _ (by omega), r3 _ (by omega) (by omega) (by omega) (by omega)]) (by rw [f0 _ (by omega), r3 _ (by omega) (by omega) (by omega) (by omega)])
    · obtain ⟨n1, n2, n3, n4, n5⟩ := hN
      have hn : pm_n (pm_addO P l q to mk) = pm_n P + 1 := by show pm_nO P + 1 + pm_nC P + pm_nE P = pm_nO P + pm_nC P + pm_nE P + 1; omega
      unfold cm_N
      rw [hn, f0 m (by omega), f0 (m + 7) (by omega), r0, r3 (m + 7) (by omega) (by omega) (by omega) (by omega), am_u1_ne (by decide), am_u1_ne (by decide)]
      exact ⟨n1, by omega, n3, by omega, n5⟩
    · have h24' : pm_nO P + pm_nC P + pm_nE P < 24 := h24
      refine ⟨⟨pS1, pS2⟩, ⟨pR1, pR2⟩, ⟨show 0 ≤ pm_nO P + 1 by omega, pn2, pn3, show pm_nO P + 1 + pm_nC P + pm_nE P ≤ 24 by omega⟩, pc, pe, fun l' q' => ?_, fun l' q' => ?_, pcT⟩
      · show -1 ≤ pm_u2 (pm_oT P) l q to l' q' ∧ pm_u2 (pm_oT P) l q to l' q' < pm_S P
        have := poT l' q'
        unfold pm_u2
        split <;> omega
      · show 0 ≤ pm_u2 (pm_oM P) l q mk l' q' ∧ pm_u2 (pm_oM P) l q mk l' q' ≤ 5
        have := poM l' q'
        unfold pm_u2
        split <;> omega
  have := M _ hg
  rw [am_sr_self] at this
  exact this
end
