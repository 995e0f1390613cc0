section
/-! A DOCUMENT's text: what it tells, and the class's reading of it. -/
/-- the LETTER that the TOKEN behind p is, or -1 -/
def sl_let (bs : Int → Int) (n p : Int) : Int := if tk_k bs n p = 97 ∧ tk_sp bs n p - tk_st bs n p = 1 ∧ 97 ≤ bs (tk_st bs n p) ∧ bs (tk_st bs n p) ≤ 99 then bs (tk_st bs n p) - 97 else -1
/-- what a DOCUMENT's text tells, from p on: a FAULT, or its EVENTS -/
def sl_doc (bs : Int → Int) (n : Int) : Nat → Int → Int → Int → List Int → Int ⊕ List Int
  | 0, _, _, _, acc => .inr acc
  | f + 1, p, op, dp, acc =>
    if tk_k bs n p = 0 then (if 0 < dp then .inl (1 + 8 * tk_st bs n p) else .inr acc)
    else if tk_k bs n p = 60 then
      (if 40 ≤ op then .inl (5 + 8 * tk_st bs n p)
       else if sl_let bs n (tk_sp bs n p) = -1 then .inl (1 + 8 * tk_st bs n (tk_sp bs n p))
       else sl_doc bs n f (tk_sp bs n (tk_sp bs n p)) (op + 1) (dp + 1) (acc ++ [sl_let bs n (tk_sp bs n p)]))
    else if tk_k bs n p = 62 ∧ 0 < dp then sl_doc bs n f (tk_sp bs n p) op (dp - 1) (acc ++ [3])
    else .inl (1 + 8 * tk_st bs n p)
/-- the Tape looks at the TOKEN behind p -/
def tk_atp (bs t : Int → Int) (p : Int) : Prop := t 2 = tk_k bs (t 1) p ∧ t 3 = tk_st bs (t 1) p ∧ t 4 = tk_sp bs (t 1) p
theorem tk_adv_at {bs t : Int → Int} (h : t 5 = 0) : tk_atp bs (tk_adv bs t) (t 4) ∧ tk_adv bs t 5 = 0 ∧ tk_adv bs t 1 = t 1 := by
  unfold tk_adv tk_atp
  rw [if_pos h]
  simp [am_u1, h]
theorem tk_adv_no {bs t : Int → Int} (h : ¬ t 5 = 0) : tk_adv bs t = t := by
  unfold tk_adv
  rw [if_neg h]
theorem tk_fail_no {t : Int → Int} {w : Int} (h : ¬ t 5 = 0) : tk_fail t w = t := by
  unfold tk_fail
  rw [if_neg h]
theorem tk_fail_v {t : Int → Int} {w : Int} (h : t 5 = 0) : tk_fail t w = am_u1 t 5 (w + 8 * t 3) := by
  unfold tk_fail
  rw [if_pos h]
theorem tk_let_at {bs t : Int → Int} {p : Int} (hk : tk_ok bs t) (h : tk_atp bs t p) : tk_let bs t = sl_let bs (t 1) p := by
  obtain ⟨h2, h3, h4⟩ := h
  unfold tk_let sl_let
  rw [← h2, ← h3, ← h4]
  by_cases hq : t 2 = 97
  · have : t 3 < t 1 := by
      have := (tk_lt (bs := bs) (n := t 1) (p := p) (by rw [← h2]; omega)).1
      omega
    have e : tk_b bs (t 3) = bs (t 3) := if_pos ⟨hk.2.2.2.2.2.1, by have := hk.2.2.1; omega⟩
    rw [e]
  · rw [if_neg (fun z => hq z.1), if_neg (fun z => hq z.1)]
theorem am_only.sr {S : List Nat} {σ : am_D} {a : Nat} {t : Int → Int} (h : a ∈ S) : am_only S σ (am_sr σ a t) := ⟨fun b hb => am_sr_of (fun e => hb (e ▸ h)), rfl⟩
theorem am_E.sr {σ : am_D} {a e : Nat} {t : Int → Int} {w : List Int} (h : am_E σ e w) (h1 : e ≠ a) (h2 : e + 1 ≠ a) : am_E (am_sr σ a t) e w := ⟨by rw [am_sr_of h1]; exact h.1, by rw [am_sr_of h2]; exact h.2.1, h.2.2⟩
theorem am_E.only {σ τ : am_D} {e : Nat} {S : List Nat} {w : List Int} (h : am_E σ e w) (ho : am_only S σ τ) (h1 : e ∉ S) (h2 : e + 1 ∉ S) : am_E τ e w := ⟨by rw [ho.1 _ h1]; exact h.1, by rw [ho.1 _ h2]; exact h.2.1, h.2.2⟩
/-- the Tape between two texts -/
def tk_idle (bs t : Int → Int) : Prop := (∀ i, 0 ≤ i → i < 600 → 0 ≤ bs i ∧ bs i ≤ 255) ∧ 0 ≤ t 1 ∧ t 1 ≤ 600 ∧ 0 ≤ t 2 ∧ t 2 ≤ 97 ∧ 0 ≤ t 5 ∧ t 5 ≤ 10000
variable {G : am_G} {σ : am_D}
theorem c_rewind (d : Nat) : am_MV G (d + 1) mX7_rewind [am_r (some 1)] σ (fun σ' => σ' = am_sr σ 1 (am_u1 (am_u1 (am_u1 (σ.1 1) 3 0) 4 0) 5 0)) := by
  refine am_M.go (by decide) (Nat.le_of_ble_eq_true rfl) rfl ?_
  refine S_X7_rewind_0 ?_
  refine S_X7_rewind_5 ?_
  refine S_X7_rewind_10 ?_
  refine S_X7_rewind_15 ?_
  rw [am_pI_sr0 σ, am_pI_sr, am_pI_sr]
theorem c_addAny (d : Nat) {e : Nat} {x : Int} (he : am_isE e) (hb : 0 ≤ σ.1 e 1 ∧ σ.1 e 1 ≤ am_es e) : am_MV G (d + 1) mX0_add [am_r (some e), am_i x] σ (fun σ' => am_only [e, e + 1] σ σ') := by
  have h2 := am_es_le e
  refine am_M.go (by decide) (Nat.le_of_ble_eq_true rfl) rfl ?_
  refine S_X0_add_0 (by assumption) (by omega) (by omega) (fun h0 => ?_) (fun h0 => ?_)
  · refine S_X0_add_32 ?_
    first | exact am_only.rfl' | exact (am_only.pI (List.mem_cons_of_mem _ List.mem_cons_self)).trans (am_only.pI List.mem_cons_self)
  · refine S_X0_add_12 (by assumption) (by omega) (by omega) ?_
    refine S_X0_add_22 (by assumption) ?_
    refine S_X0_add_32 ?_
    first | exact am_only.rfl' | exact (am_only.pI (List.mem_cons_of_mem _ List.mem_cons_self)).trans (am_only.pI List.mem_cons_self)
/-- what a read DOCUMENT leaves -/
def sl_dm (R : Int ⊕ List Int) (F : Int) (τ : am_D) : Prop := match R with
  | .inl F' => F = F' ∧ 0 < F'
  | .inr w => F = 0 ∧ am_E τ 8 w
def sl_dR (σ : am_D) (R : Int ⊕ List Int) (σ' : am_D) : Prop := am_only [1, 8, 9] σ σ' ∧ tk_idle (σ.1 2) (σ'.1 1) ∧ σ'.1 1 1 = 0 ∧ sl_dm R (σ'.1 1 5) σ'
theorem c_readDocument (d : Nat) (hk : tk_idle (σ.1 2) (σ.1 1)) : am_MV G (d + 4) mX8_readDocument [am_r (some 3), am_r (some 8)] σ (fun σ' => sl_dR σ (sl_doc (σ.1 2) (σ.1 1 1) 700 0 0 0 []) σ') := by
  obtain ⟨hb, g1, g2, g3, g4, g5, g6⟩ := id hk
  have h8 : am_isE 8 := Or.inr (Or.inl rfl)
  generalize hR : sl_doc (σ.1 2) (σ.1 1 1) 700 0 0 0 [] = R
  refine am_M.go (by decide) (Nat.le_of_ble_eq_true rfl) rfl ?_
  -- the end
  have J159 : ∀ (τ : am_D) (F : Int), am_only [1, 8, 9] σ τ → tk_idle (σ.1 2) (τ.1 1) → τ.1 1 5 = F → sl_dm R F τ → am_X (am_FV G (d + 4) (fun σ' => sl_dR σ R σ')) mX8_readDocument (0, 0) 159 [some (am_r (some 3)), none, none, none, none] [] (am_K0, τ) := by
    intro τ F ho hid hF hm
    refine S_X8_readDocument_159 ?_
    refine S_X8_readDocument_167 ?_
    have r0 : ∀ j, j ≠ 1 → (am_pI τ 1 1 0).1 1 j = τ.1 1 j := fun j hj => am_pI_nj hj
    refine ⟨ho.trans (am_only.pI (List.mem_cons_self)), ⟨hb, by rw [am_pI_at]; omega, by rw [am_pI_at]; omega, by rw [r0 2 (by decide)]; exact hid.2.2.2.1, by rw [r0 2 (by decide)]; exact hid.2.2.2.2.1, by rw [r0 5 (by decide)]; exact hid.2.2.2.2.2.1, by rw [r0 5 (by decide)]; exact hid.2.2.2.2.2.2⟩, am_pI_at, ?_⟩
    rw [r0 5 (by decide), hF]
    cases R with
    | inl F' => exact hm
    | inr w => exact ⟨hm.1, hm.2.1, hm.2.2⟩
  have J147F : ∀ (τ : am_D) (dp F : Int), am_only [1, 8, 9] σ τ → tk_ok (τ.1 2) (τ.1 1) → τ.1 1 5 = F → 0 < F → R = .inl F → -2147483648 ≤ dp ∧ dp ≤ 2147483647 → am_X (am_FV G (d + 4) (fun σ' => sl_dR σ R σ')) mX8_readDocument (0, 0) 147 [some (am_r (some 3)), none, none, some (am_i dp), none] [] (am_K0, τ) := by
    intro τ dp F ho hok hF hF0 hRF hdp
    have h2 : τ.1 2 = σ.1 2 := ho.1 2 (by decide)
    rw [h2] at hok
    obtain ⟨hb9, k1, k2, k3, k4, k6, k7, k8, k9, k10⟩ := id hok
    have hid : tk_idle (σ.1 2) (τ.1 1) := ⟨hb, k1, k2, k8, k9, k10⟩
    refine S_X8_readDocument_147 hdp (fun _ => J159 τ F ho hid hF (by rw [hRF]; exact ⟨rfl, hF0⟩)) (fun _ => ?_)
    refine S_X8_readDocument_151 (c_fail _ (by rw [h2]; exact hok)) ?_
    rintro _ rfl
    rw [tk_fail_no (by omega), am_sr_self]
    exact J159 τ F ho hid hF (by rw [hRF]; exact ⟨rfl, hF0⟩)
  -- behind a FAULT the rest of the loop's body does nothing
  have J25F : ∀ (τ : am_D) (op dp i F : Int), am_only [1, 8, 9] σ τ → tk_ok (τ.1 2) (τ.1 1) → τ.1 1 5 = F → 0 < F → R = .inl F → -2147483648 ≤ dp ∧ dp ≤ 2147483647 → -2147483648 ≤ i ∧ i ≤ 2147483647 → am_X (am_FV G (d + 4) (fun σ' => sl_dR σ R σ')) mX8_readDocument (0, 0) 25 [some (am_r (some 3)), some (am_r (some 8)), some (am_i op), some (am_i dp), some (am_i i)] [] (am_K0, τ) := by
    intro τ op dp i F ho hok hF hF0 hRF hdp hi
    have hok9 := hok
    obtain ⟨hb9, k1, k2, k3, k4, k6, k7, k8, k9, k10⟩ := hok9
    refine S_X8_readDocument_25 hi (fun _ => J147F τ dp F ho hok hF hF0 hRF hdp) (fun _ => ?_)
    refine S_X8_readDocument_33 (by omega) (fun _ => J147F τ dp F ho hok hF hF0 hRF hdp) (fun _ => ?_)
    refine S_X8_readDocument_43 (by omega) (fun _ => J147F τ dp F ho hok hF hF0 hRF hdp) (fun q => absurd (Classical.not_not.mp q) (by omega))
  have J134F : ∀ (τ : am_D) (op dp i F : Int), am_only [1, 8, 9] σ τ → tk_ok (τ.1 2) (τ.1 1) → τ.1 1 5 = F → 0 < F → R = .inl F → -2147483648 ≤ dp ∧ dp ≤ 2147483647 → -2147483648 ≤ i ∧ i ≤ 2147483646 → am_X (am_FV G (d + 4) (fun σ' => sl_dR σ R σ')) mX8_readDocument (0, 0) 134 [some (am_r (some 3)), some (am_r (some 8)), some (am_i op), some (am_i dp), some (am_i i)] [] (am_K0, τ) := by
    intro τ op dp i F ho hok hF hF0 hRF hdp hi
    refine S_X8_readDocument_134 (c_advance _ hok) ?_
    rintro _ rfl
    rw [tk_adv_no (by omega), am_sr_self]
    refine S_X8_readDocument_141 ?_
    exact J25F τ op dp (i + 1) F ho hok hF hF0 hRF hdp (by omega)
  have J87F : ∀ (τ : am_D) (op dp i x F : Int), am_only [1, 8, 9] σ τ → tk_ok (τ.1 2) (τ.1 1) → 0 ≤ τ.1 8 1 → τ.1 8 1 ≤ 80 → τ.1 1 5 = F → 0 < F → R = .inl F → 0 ≤ dp ∧ dp ≤ 700 → 0 ≤ i ∧ i ≤ 700 → am_X (am_FV G (d + 4) (fun σ' => sl_dR σ R σ')) mX8_readDocument (0, 0) 87 [some (am_r (some 3)), some (am_r (some 8)), some (am_i op), some (am_i dp), some (am_i i)] [am_i x, am_r (some 8)] (am_K0, τ) := by
    intro τ op dp i x F ho hok hs0 hs1 hF hF0 hRF hdp hi
    refine S_X8_readDocument_87 (c_addAny _ h8 ⟨hs0, by show τ.1 8 1 ≤ ((80 : Nat) : Int); omega⟩) h8 ?_
    intro τ2 ho2
    have e1 : τ2.1 1 = τ.1 1 := ho2.1 1 (by decide)
    have e2 : τ2.1 2 = τ.1 2 := ho2.1 2 (by decide)
    refine S_X8_readDocument_90 ?_
    refine S_X8_readDocument_93 ?_
    exact J134F τ2 _ _ i F (ho.trans (ho2.sub (by decide))) (by rw [e1, e2]; exact hok) (by rw [e1]; exact hF) hF0 hRF (by omega) (by omega)
  -- the loop
  have loop : ∀ (f : Nat) (p op dp : Int) (acc : List Int) (τ : am_D) (i : Int), 0 ≤ p → p ≤ σ.1 1 1 → σ.1 1 1 - p < f → 0 ≤ i → i ≤ p → 0 ≤ dp → dp ≤ p → 0 ≤ op → op ≤ 40 → (acc.length : Int) = 2 * op - dp → am_only [1, 8, 9] σ τ → tk_ok (τ.1 2) (τ.1 1) → τ.1 1 5 = 0 → τ.1 1 1 = σ.1 1 1 → tk_atp (σ.1 2) (τ.1 1) p → am_E τ 8 acc → sl_doc (σ.1 2) (σ.1 1 1) f p op dp acc = R → am_X (am_FV G (d + 4) (fun σ' => sl_dR σ R σ')) mX8_readDocument (0, 0) 25 [some (am_r (some 3)), some (am_r (some 8)), some (am_i op), some (am_i dp), some (am_i i)] [] (am_K0, τ) := by
    intro f
    induction f with
    | zero => intro p op dp acc τ i q0 q1 q2; omega
    | succ f ih =>
      intro p op dp acc τ i q0 q1 q2 i0 i1 d0 d1 o0 o1 hal ho hok hF hn hat hE hdoc
      have h2 : τ.1 2 = σ.1 2 := ho.1 2 (by decide)
      have hok2 := hok
      rw [h2] at hok2
      obtain ⟨hb9, k1, k2, k3, k4, k6, k7, k8, k9, k10⟩ := id hok2
      obtain ⟨a2, a3, a4⟩ := id hat
      rw [hn] at a2 a3 a4
      have hin := tk_in (bs := σ.1 2) q1
      unfold sl_doc at hdoc
      refine S_X8_readDocument_25 (by omega) (fun q => absurd q (by omega)) (fun _ => ?_)
      refine S_X8_readDocument_33 (by omega) (fun q => ?_) (fun q => ?_)
      · -- the text is over
        rw [if_pos (by omega)] at hdoc
        have hid : tk_idle (σ.1 2) (τ.1 1) := ⟨hb, k1, k2, k8, k9, k10⟩
        refine S_X8_readDocument_147 (by omega) (fun z => ?_) (fun z => ?_)
        · rw [if_neg (by omega)] at hdoc
          exact J159 τ 0 ho hid hF (by rw [← hdoc]; exact ⟨rfl, hE⟩)
        · rw [if_pos (by omega)] at hdoc
          refine S_X8_readDocument_151 (c_fail _ hok) ?_
          rintro _ rfl
          have e5 : (am_sr τ 1 (tk_fail (τ.1 1) 1)).1 1 = tk_fail (τ.1 1) 1 := am_sr_at
          have hok3 := tk_fail_ok (w := 1) hok2 (by omega)
          refine J159 _ (1 + 8 * tk_st (σ.1 2) (σ.1 1 1) p) (ho.trans (am_only.sr (by decide))) ?_ ?_ ?_
          · rw [e5]
            exact ⟨hb, hok3.2.1, hok3.2.2.1, hok3.2.2.2.2.2.2.2.1, hok3.2.2.2.2.2.2.2.2.1, hok3.2.2.2.2.2.2.2.2.2⟩
          · rw [e5, tk_fail_v hF, am_u1_eq, a3]
          · rw [← hdoc]
            exact ⟨rfl, by omega⟩
      have hk0 : ¬ tk_k (σ.1 2) (σ.1 1 1) p = 0 := by omega
      rw [if_neg hk0] at hdoc
      have hlt := tk_lt hk0
      refine S_X8_readDocument_43 (by omega) (fun z => absurd hF z) (fun _ => ?_)
      -- a FAULT of kind 1 at this TOKEN
      have J126 : R = .inl (1 + 8 * tk_st (σ.1 2) (σ.1 1 1) p) → am_X (am_FV G (d + 4) (fun σ' => sl_dR σ R σ')) mX8_readDocument (0, 0) 126 [some (am_r (some 3)), some (am_r (some 8)), some (am_i op), some (am_i dp), some (am_i i)] [] (am_K0, τ) := by
        intro hRF
        refine S_X8_readDocument_126 (c_fail _ hok) ?_
        rintro _ rfl
        have e5 : (am_sr τ 1 (tk_fail (τ.1 1) 1)).1 1 = tk_fail (τ.1 1) 1 := am_sr_at
        have e6 : (am_sr τ 1 (tk_fail (τ.1 1) 1)).1 2 = τ.1 2 := am_sr_of (by decide)
        exact J134F _ op dp i (1 + 8 * tk_st (σ.1 2) (σ.1 1 1) p) (ho.trans (am_only.sr (by decide))) (by rw [e5, e6]; exact tk_fail_ok hok (by omega)) (by rw [e5, tk_fail_v hF, am_u1_eq, a3]) (by omega) hRF (by omega) (by omega)
      refine S_X8_readDocument_53 (by omega) (fun q60 => ?_) (fun q60 => ?_)
      · rw [if_neg (by omega)] at hdoc
        refine S_X8_readDocument_99 (by omega) (fun q62 => J126 ?_) (fun q62 => ?_)
        · rw [if_neg (by omega)] at hdoc
          exact hdoc.symm
        · have q62 := Classical.not_not.mp q62
          refine S_X8_readDocument_111 (by omega) (fun z => J126 ?_) (fun z => ?_)
          · rw [if_neg (by omega)] at hdoc
            exact hdoc.symm
          · rw [if_pos (by omega)] at hdoc
            refine S_X8_readDocument_115 (c_add _ h8 hE (by show acc.length < 80; omega)) h8 ?_
            rintro τ2 ⟨hE2, ho2⟩
            have e1 : τ2.1 1 = τ.1 1 := ho2.1 1 (by decide)
            have e2 : τ2.1 2 = τ.1 2 := ho2.1 2 (by decide)
            refine S_X8_readDocument_120 ?_
            refine S_X8_readDocument_134 (c_advance _ (by rw [e1, e2]; exact hok)) ?_
            rintro _ rfl
            rw [e1, e2, h2]
            have hadv := tk_adv_at (bs := σ.1 2) hF
            have e5 : (am_sr τ2 1 (tk_adv (σ.1 2) (τ.1 1))).1 1 = tk_adv (σ.1 2) (τ.1 1) := am_sr_at
            have e6 : (am_sr τ2 1 (tk_adv (σ.1 2) (τ.1 1))).1 2 = σ.1 2 := by rw [am_sr_of (by decide), e2, h2]
            refine S_X8_readDocument_141 ?_
            refine ih (tk_sp (σ.1 2) (σ.1 1 1) p) op (dp + -1) (acc ++ [3]) _ (i + 1) (by omega) (by omega) (by omega) (by omega) (by omega) (by omega) (by omega) o0 o1 (by rw [List.length_append]; show ((acc.length + 1 : Nat) : Int) = _; omega) ((ho.trans (ho2.sub (by decide))).trans (am_only.sr (by decide))) (by rw [e5, e6]; exact tk_adv_ok hok2) (by rw [e5]; exact hadv.2.1) (by rw [e5, hadv.2.2, hn]) (by rw [e5, ← a4]; exact hadv.1) (hE2.sr (by decide) (by decide)) ?_
            rw [show dp + -1 = dp - 1 by omega]
            exact hdoc
      · have q60 := Classical.not_not.mp q60
        rw [if_pos (by omega)] at hdoc
        have hsz : τ.1 8 1 = acc.length := hE.1
        have hsz2 : acc.length ≤ 80 := hE.2.2
        refine S_X8_readDocument_65 (by omega) (fun z => ?_) (fun z => ?_)
        · rw [if_neg (by omega)] at hdoc
          have hadv := tk_adv_at (bs := σ.1 2) hF
          have hokA := tk_adv_ok hok2
          have hlet := tk_let_at hokA hadv.1
          rw [hadv.2.2, hn, a4] at hlet
          obtain ⟨b2, b3, b4⟩ := id hadv.1
          rw [hadv.2.2, hn, a4] at b2 b3 b4
          have hin2 := tk_in (bs := σ.1 2) (n := σ.1 1 1) (p := tk_sp (σ.1 2) (σ.1 1 1) p) (by omega)
          have hlr := tk_let_rg (σ.1 2) (tk_adv (σ.1 2) (τ.1 1))
          refine S_X8_readDocument_79 (c_letter _ hok) ?_
          rintro _ _ ⟨rfl, rfl⟩
          rw [h2, hlet]
          by_cases hl1 : sl_let (σ.1 2) (σ.1 1 1) (tk_sp (σ.1 2) (σ.1 1 1) p) = -1
          · rw [if_pos hl1] at hdoc
            rw [hl1, if_pos rfl]
            have e5 : (am_sr τ 1 (tk_fail (tk_adv (σ.1 2) (τ.1 1)) 1)).1 1 = tk_fail (tk_adv (σ.1 2) (τ.1 1)) 1 := am_sr_at
            have e6 : (am_sr τ 1 (tk_fail (tk_adv (σ.1 2) (τ.1 1)) 1)).1 2 = σ.1 2 := by rw [am_sr_of (by decide), h2]
            have e8 : (am_sr τ 1 (tk_fail (tk_adv (σ.1 2) (τ.1 1)) 1)).1 8 = τ.1 8 := am_sr_of (by decide)
            exact J87F _ op dp i _ (1 + 8 * tk_st (σ.1 2) (σ.1 1 1) (tk_sp (σ.1 2) (σ.1 1 1) p)) (ho.trans (am_only.sr (by decide))) (by rw [e5, e6]; exact tk_fail_ok hokA (by omega)) (by rw [e8]; omega) (by rw [e8]; omega) (by rw [e5, tk_fail_v hadv.2.1, am_u1_eq, b3]) (by omega) hdoc.symm (by omega) (by omega)
          · rw [if_neg hl1] at hdoc
            rw [if_neg hl1]
            have hE9 := hE.sr (a := 1) (t := tk_adv (σ.1 2) (τ.1 1)) (by decide) (by decide)
            have hk97 : tk_k (σ.1 2) (σ.1 1 1) (tk_sp (σ.1 2) (σ.1 1 1) p) ≠ 0 := by
              intro z
              apply hl1
              unfold sl_let
              rw [z, if_neg (by omega)]
            have hlt2 := tk_lt hk97
            refine S_X8_readDocument_87 (c_add _ h8 hE9 (by show acc.length < 80; omega)) h8 ?_
            rintro τ2 ⟨hE2, ho2⟩
            have e1 : τ2.1 1 = tk_adv (σ.1 2) (τ.1 1) := by rw [ho2.1 1 (by decide), am_sr_at]
            have e2 : τ2.1 2 = σ.1 2 := by rw [ho2.1 2 (by decide), am_sr_of (by decide), h2]
            refine S_X8_readDocument_90 ?_
            refine S_X8_readDocument_93 ?_
            refine S_X8_readDocument_134 (c_advance _ (by rw [e1, e2]; exact hokA)) ?_
            rintro _ rfl
            rw [e1, e2]
            have hadv2 := tk_adv_at (bs := σ.1 2) hadv.2.1
            have e5 : (am_sr τ2 1 (tk_adv (σ.1 2) (tk_adv (σ.1 2) (τ.1 1)))).1 1 = tk_adv (σ.1 2) (tk_adv (σ.1 2) (τ.1 1)) := am_sr_at
            have e6 : (am_sr τ2 1 (tk_adv (σ.1 2) (tk_adv (σ.1 2) (τ.1 1)))).1 2 = σ.1 2 := by rw [am_sr_of (by decide), e2]
            refine S_X8_readDocument_141 ?_
            refine ih (tk_sp (σ.1 2) (σ.1 1 1) (tk_sp (σ.1 2) (σ.1 1 1) p)) (op + 1) (dp + 1) _ _ (i + 1) (by omega) (by omega) (by omega) (by omega) (by omega) (by omega) (by omega) (by omega) (by omega) (by rw [List.length_append]; show ((acc.length + 1 : Nat) : Int) = _; omega) ((ho.trans ((am_only.sr (by decide)).trans (ho2.sub (by decide)))).trans (am_only.sr (by decide))) (by rw [e5, e6]; exact tk_adv_ok hokA) (by rw [e5]; exact hadv2.2.1) (by rw [e5, hadv2.2.2, hadv.2.2, hn]) (by rw [e5, ← b4]; exact hadv2.1) (hE2.sr (by decide) (by decide)) hdoc
        · -- a 41st ELEMENT
          rw [if_pos (by omega)] at hdoc
          refine S_X8_readDocument_71 (c_fail _ hok) ?_
          rintro _ rfl
          have e5 : (am_sr τ 1 (tk_fail (τ.1 1) 5)).1 1 = tk_fail (τ.1 1) 5 := am_sr_at
          have e6 : (am_sr τ 1 (tk_fail (τ.1 1) 5)).1 2 = τ.1 2 := am_sr_of (by decide)
          have e8 : (am_sr τ 1 (tk_fail (τ.1 1) 5)).1 8 = τ.1 8 := am_sr_of (by decide)
          have hokF := tk_fail_ok (w := 5) hok (by omega)
          have hF5 : tk_fail (τ.1 1) 5 5 = 5 + 8 * tk_st (σ.1 2) (σ.1 1 1) p := by rw [tk_fail_v hF, am_u1_eq, a3]
          have hno : tk_adv (τ.1 2) (tk_fail (τ.1 1) 5) = tk_fail (τ.1 1) 5 := tk_adv_no (by omega)
          refine S_X8_readDocument_79 (c_letter _ (by rw [e5, e6]; exact hokF)) ?_
          rintro _ _ ⟨rfl, rfl⟩
          rw [e5, e6, hno, tk_fail_no (t := tk_fail (τ.1 1) 5) (by omega), ite_self, am_sr_sr]
          exact J87F _ op dp i _ (5 + 8 * tk_st (σ.1 2) (σ.1 1 1) p) (ho.trans (am_only.sr (by decide))) (by rw [e5, e6]; exact hokF) (by rw [e8]; omega) (by rw [e8]; omega) (by rw [e5]; exact hF5) (by omega) hdoc.symm (by omega) (by omega)
  refine S_X8_readDocument_0 ?_
  refine S_X8_readDocument_2 ?_
  refine S_X8_readDocument_4 (c_clear _ h8) h8 ?_
  rintro τ ⟨hE, ho⟩
  refine S_X8_readDocument_8 (c_rewind _) ?_
  rintro _ rfl
  have e1 : τ.1 1 = σ.1 1 := ho.1 1 (by decide)
  have e2 : τ.1 2 = σ.1 2 := ho.1 2 (by decide)
  rw [e1]
  generalize ht : am_u1 (am_u1 (am_u1 (σ.1 1) 3 0) 4 0) 5 0 = t
  have t1 : t 1 = σ.1 1 1 := by rw [← ht]; simp [am_u1]
  have t2 : t 2 = σ.1 1 2 := by rw [← ht]; simp [am_u1]
  have t3 : t 3 = 0 := by rw [← ht]; simp [am_u1]
  have t4 : t 4 = 0 := by rw [← ht]; simp [am_u1]
  have t5 : t 5 = 0 := by rw [← ht]; simp [am_u1]
  have hok : tk_ok (σ.1 2) t := ⟨hb, by omega, by omega, by omega, by omega, by omega, by omega, by omega, by omega, by omega, by omega⟩
  have f1 : (am_sr τ 1 t).1 1 = t := am_sr_at
  have f2 : (am_sr τ 1 t).1 2 = σ.1 2 := by rw [am_sr_of (by decide), e2]
  refine S_X8_readDocument_15 (c_advance _ (by rw [f1, f2]; exact hok)) ?_
  rintro _ rfl
  rw [f1, f2, am_sr_sr]
  have hadv := tk_adv_at (bs := σ.1 2) t5
  have e5 : (am_sr τ 1 (tk_adv (σ.1 2) t)).1 1 = tk_adv (σ.1 2) t := am_sr_at
  have e6 : (am_sr τ 1 (tk_adv (σ.1 2) t)).1 2 = σ.1 2 := by rw [am_sr_of (by decide), e2]
  refine S_X8_readDocument_22 ?_
  exact loop 700 0 0 0 [] _ 0 (by omega) (by omega) (by omega) (by omega) (by omega) (by omega) (by omega) (by omega) (by omega) rfl ((ho.sub (by decide)).trans (am_only.sr (by decide))) (by rw [e5, e6]; exact tk_adv_ok hok) (by rw [e5]; exact hadv.2.1) (by rw [e5, hadv.2.2, t1]) (by rw [e5, ← t4]; exact hadv.1) (hE.sr (by decide) (by decide)) hR
end
