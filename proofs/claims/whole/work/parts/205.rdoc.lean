section
/-! A DOCUMENT's text, read by the reference. -/
theorem sl_doc_fuel {bs : Int → Int} {n : Int} : ∀ (f g : Nat) (p op dp : Int) (acc : List Int), p ≤ n → n - p < f → n - p < g → sl_doc bs n f p op dp acc = sl_doc bs n g p op dp acc := by
  intro f
  induction f with
  | zero => intro g p op dp acc h1 h2; omega
  | succ f ih =>
    intro g p op dp acc h1 h2 h3
    cases g with
    | zero => omega
    | succ g =>
      unfold sl_doc
      have hin := tk_in (bs := bs) h1
      by_cases h0 : tk_k bs n p = 0
      · rw [if_pos h0, if_pos h0]
      · have hlt := tk_lt h0
        have hin2 := tk_in (bs := bs) (n := n) (p := tk_sp bs n p) (by omega)
        rw [if_neg h0, if_neg h0]
        by_cases h60 : tk_k bs n p = 60
        · rw [if_pos h60, if_pos h60, ih g (tk_sp bs n (tk_sp bs n p)) _ _ _ (by omega) (by omega) (by omega)]
        · rw [if_neg h60, if_neg h60, ih g (tk_sp bs n p) _ _ _ (by omega) (by omega) (by omega)]
def sl_D (bs : Int → Int) (n p op dp : Int) (acc : List Int) : Int ⊕ List Int := sl_doc bs n 700 p op dp acc
theorem sl_D_eq {bs : Int → Int} {n p op dp : Int} {acc : List Int} (h0 : 0 ≤ p) (h1 : p ≤ n) (hn : n ≤ 600) : sl_D bs n p op dp acc = (if tk_k bs n p = 0 then (if 0 < dp then .inl (1 + 8 * tk_st bs n p) else .inr acc)
    else if tk_k bs n p = 60 then
      (if 40 ≤ op then .inl (5 + 8 * tk_st bs n p)
       else if sl_let bs n (tk_sp bs n p) = -1 then .inl (1 + 8 * tk_st bs n (tk_sp bs n p))
       else sl_D bs n (tk_sp bs n (tk_sp bs n p)) (op + 1) (dp + 1) (acc ++ [sl_let bs n (tk_sp bs n p)]))
    else if tk_k bs n p = 62 ∧ 0 < dp then sl_D bs n (tk_sp bs n p) op (dp - 1) (acc ++ [3])
    else .inl (1 + 8 * tk_st bs n p)) := by
  have hin := tk_in (bs := bs) h1
  have hin2 := tk_in (bs := bs) (n := n) (p := tk_sp bs n p) (by omega)
  unfold sl_D
  rw [sl_doc_fuel 700 701 p op dp acc h1 (by omega) (by omega)]
  rfl
/-- cells that stay -/
def am_kpt (S : List Int) (u u' : Int → Int) : Prop := ∀ j, j ∉ S → u' j = u j
theorem am_kpt.rfl' {S : List Int} {u : Int → Int} : am_kpt S u u := fun _ _ => rfl
theorem am_kpt.trans {S : List Int} {u v w : Int → Int} (h : am_kpt S u v) (h' : am_kpt S v w) : am_kpt S u w := fun j hj => (h' j hj).trans (h j hj)
theorem am_kpt.u1 {S : List Int} {u : Int → Int} {k x : Int} (h : k ∈ S) : am_kpt S u (am_u1 u k x) := fun j hj => am_u1_ne (fun e => hj (e ▸ h))
/-- the reference looks at the TOKEN behind p -/
def rf_atp (ts u : Int → Int) (p : Int) : Prop := u 6 = rf_srt (tk_k ts (u 3) p) ∧ u 5 = tk_st ts (u 3) p ∧ u 4 = tk_sp ts (u 3) p
theorem rf_go_at {ts u : Int → Int} : rf_atp ts (rf_go ts u) (u 4) ∧ rf_go ts u 2 = u 2 ∧ rf_go ts u 3 = u 3 ∧ am_kpt [4, 5, 6] u (rf_go ts u) := by
  refine ⟨⟨?_, ?_, ?_⟩, ?_, ?_, ?_⟩
  · simp [rf_go, am_u1]
  · simp [rf_go, am_u1]
  · simp [rf_go, am_u1]
  · simp [rf_go, am_u1]
  · simp [rf_go, am_u1]
  · exact ((am_kpt.u1 (by decide)).trans (am_kpt.u1 (by decide))).trans (am_kpt.u1 (by decide))
theorem rf_srt_v {k : Int} (h : k = 0 ∨ k = 1 ∨ k = 97 ∨ k = 48 ∨ k = 59 ∨ k = 61 ∨ k = 44 ∨ k = 60 ∨ k = 62) : (rf_srt k = 0 ↔ k = 0) ∧ (rf_srt k = 1 ↔ k = 97) ∧ (rf_srt k = 2 ↔ k = 48) ∧ (rf_srt k = 3 ↔ (k = 59 ∨ k = 61 ∨ k = 44 ∨ k = 60 ∨ k = 62)) := by
  rcases h with rfl | rfl | rfl | rfl | rfl | rfl | rfl | rfl | rfl <;> decide
theorem tk_k_v (bs : Int → Int) (n p : Int) : tk_k bs n p = 0 ∨ tk_k bs n p = 1 ∨ tk_k bs n p = 97 ∨ tk_k bs n p = 48 ∨ tk_k bs n p = 59 ∨ tk_k bs n p = 61 ∨ tk_k bs n p = 44 ∨ tk_k bs n p = 60 ∨ tk_k bs n p = 62 := by
  unfold tk_k
  split
  · unfold tk_kd
    split
    · omega
    · split
      · omega
      · split <;> omega
  · omega
theorem tk_k_sign {bs : Int → Int} {n p c : Int} (hc : c = 59 ∨ c = 61 ∨ c = 44 ∨ c = 60 ∨ c = 62) : tk_k bs n p = c ↔ (rf_srt (tk_k bs n p) = 3 ∧ bs (tk_st bs n p) = c) := by
  have hv := rf_srt_v (tk_k_v bs n p)
  constructor
  · intro h
    refine ⟨hv.2.2.2.mpr (by omega), ?_⟩
    unfold tk_k at h
    split at h
    · unfold tk_kd at h
      split at h
      · omega
      · split at h
        · omega
        · split at h <;> omega
    · omega
  · rintro ⟨h1, h2⟩
    have h3 := hv.2.2.2.mp h1
    unfold tk_k at h3 ⊢
    by_cases hl : tk_st bs n p < n
    · rw [if_pos hl] at h3 ⊢
      unfold tk_kd at h3 ⊢
      rw [h2] at h3 ⊢
      rw [if_neg (by omega), if_neg (by omega), if_pos (by omega)]
    · rw [if_neg hl] at h3
      omega
theorem rf_let_at {ts u : Int → Int} {p : Int} (hf : u 2 = 0) (h : rf_atp ts u p) : rf_let ts u = sl_let ts (u 3) p := by
  obtain ⟨h6, h5, h4⟩ := h
  have hv := rf_srt_v (tk_k_v ts (u 3) p)
  unfold rf_let sl_let
  rw [← h5, ← h4]
  by_cases hq : tk_k ts (u 3) p = 97
  · have e6 : u 6 = 1 := by rw [h6]; exact hv.2.1.mpr hq
    by_cases hc : u 4 - u 5 = 1 ∧ 97 ≤ ts (u 5) ∧ ts (u 5) ≤ 99
    · rw [if_pos ⟨hf, e6, hc⟩, if_pos ⟨hq, hc⟩]
    · rw [if_neg (fun z => hc z.2.2), if_neg (fun z => hc z.2)]
  · rw [if_neg (fun z => hq (hv.2.1.mp (by rw [← h6]; exact z.2.1))), if_neg (fun z => hq z.1)]
theorem rf_fail_v {u : Int → Int} {w : Int} (h : u 2 = 0) : rf_fail u w = am_u1 u 2 (w + 8 * u 5) := by
  unfold rf_fail
  rw [if_pos h]
theorem rf_fail_no {u : Int → Int} {w : Int} (h : ¬ u 2 = 0) : rf_fail u w = u := by
  unfold rf_fail
  rw [if_neg h]
variable {G : am_G} {σ : am_D}
/-- a DOCUMENT's text is read up to p, op ELEMENTS have begun, dp are not closed, acc came -/
def rd_D (σ : am_D) (p op dp : Int) (acc : List Int) (τ : am_D) : Prop := am_only [91, 108] σ τ ∧ rf_ok (σ.1 92) (τ.1 91) ∧ τ.1 91 2 = 0 ∧ τ.1 91 3 = σ.1 91 3 ∧ rf_atp (σ.1 92) (τ.1 91) p ∧ τ.1 91 26 = acc.length ∧ τ.1 91 28 = dp ∧ am_isL (τ.1 108) acc ∧ am_kpt [2, 4, 5, 6, 26, 28] (σ.1 91) (τ.1 91) ∧ 0 ≤ p ∧ p ≤ σ.1 91 3 ∧ 0 ≤ op ∧ op ≤ 40 ∧ 0 ≤ dp ∧ dp ≤ op ∧ (acc.length : Int) = 2 * op - dp
def rd_F (σ : am_D) (F : Int) (τ : am_D) : Prop := am_only [91, 108] σ τ ∧ rf_ok (σ.1 92) (τ.1 91) ∧ τ.1 91 2 = F ∧ 0 < F ∧ am_kpt [2, 4, 5, 6, 26, 28] (σ.1 91) (τ.1 91)
theorem c_readsElement {σ : am_D} (d : Nat) : ∀ (k : Nat) (p op dp : Int) (acc : List Int) (τ : am_D), 41 - op ≤ k → rd_D σ p op dp acc τ → tk_k (σ.1 92) (σ.1 91 3) p = 60 → am_MV G (d + k + 7) mX11_readsElement [am_r (some 91)] τ (fun σ' => (∃ F, sl_D (σ.1 92) (σ.1 91 3) p op dp acc = .inl F ∧ rd_F σ F σ') ∨ ∃ p' op' acc', p < p' ∧ op < op' ∧ sl_D (σ.1 92) (σ.1 91 3) p op dp acc = sl_D (σ.1 92) (σ.1 91 3) p' op' dp acc' ∧ rd_D σ p' op' dp acc' σ') := by
  intro k
  induction k with
  | zero => intro p op dp acc τ hk hD; have := hD.2.2.2.2.2.2.2.2.2.2.2.2.1; omega
  | succ k ihk =>
    intro p op dp acc τ hk hD h60
    obtain ⟨ho, hok, hF, hn, hat, h26, h28, hL, hkp, p0, p1, o0, o1, d0, d1, hal⟩ := id hD
    have e92 : τ.1 92 = σ.1 92 := ho.1 92 (by decide)
    obtain ⟨hb, b1, b2, b3, b4, b6, b7, b8, b9, b10, b11, b12⟩ := id hok
    rw [hn] at b1 b2
    have heq := sl_D_eq (bs := σ.1 92) (n := σ.1 91 3) (p := p) (op := op) (dp := dp) (acc := acc) p0 p1 b2
    rw [if_neg (by omega), if_pos h60] at heq
    obtain ⟨a6, a5, a4⟩ := id hat
    rw [hn] at a6 a5 a4
    have hin := tk_in (bs := σ.1 92) p1
    have hlt := tk_lt (bs := σ.1 92) (n := σ.1 91 3) (p := p) (by omega)
    generalize hQ : (fun σ' : am_D => (∃ F, sl_D (σ.1 92) (σ.1 91 3) p op dp acc = .inl F ∧ rd_F σ F σ') ∨ ∃ p' op' acc', p < p' ∧ op < op' ∧ sl_D (σ.1 92) (σ.1 91 3) p op dp acc = sl_D (σ.1 92) (σ.1 91 3) p' op' dp acc' ∧ rd_D σ p' op' dp acc' σ') = Q
    have hQF : ∀ (F : Int) (τ' : am_D), sl_D (σ.1 92) (σ.1 91 3) p op dp acc = .inl F → rd_F σ F τ' → Q τ' := fun F τ' h1 h2 => by rw [← hQ]; exact Or.inl ⟨F, h1, h2⟩
    refine am_M.go (by decide) (Nat.le_of_ble_eq_true rfl) rfl ?_
    have J19F : ∀ (τ' : am_D) (F : Int), rd_F σ F τ' → sl_D (σ.1 92) (σ.1 91 3) p op dp acc = .inl F → am_X (am_FV G (d + (k + 1) + 7) Q) mX11_readsElement (0, 0) 19 [some (am_r (some 91)), none] [] (am_K0, τ') := by
      intro τ' F hf hs
      have h2 := hf.2.2.1
      have h3 := hf.2.2.2.1
      have hok' := hf.2.1
      refine S_X11_readsElement_19 (c_isGood _ ⟨hok'.2.2.2.2.2.2.2.2.2.1, hok'.2.2.2.2.2.2.2.2.2.2.1⟩) ?_
      rintro _ _ ⟨rfl, rfl⟩
      rw [if_neg (by omega)]
      refine S_X11_readsElement_23 (by omega) (fun q => absurd rfl q) (fun _ => ?_)
      exact S_X11_readsElement_26 (hQF F τ' hs hf)
    refine S_X11_readsElement_0 (by omega) (by omega) (fun q => ?_) (fun q => ?_)
    case refine_2 =>
      -- a 41st ELEMENT
      rw [if_pos (by omega)] at heq
      refine S_X11_readsElement_14 (c_fails _ (by rw [e92]; exact hok)) ?_
      rintro _ rfl
      refine J19F _ (5 + 8 * tk_st (σ.1 92) (σ.1 91 3) p) ⟨ho.trans (am_only.sr (by decide)), ?_, ?_, by omega, ?_⟩ heq
      · rw [am_sr_at]; exact rf_fail_ok hok (by omega)
      · rw [am_sr_at, rf_fail_v hF, am_u1_eq, a5]
      · rw [am_sr_at, rf_fail_v hF]; exact hkp.trans (am_kpt.u1 (by decide))
    rw [if_neg (by omega)] at heq
    refine S_X11_readsElement_19 (c_isGood _ (by omega)) ?_
    rintro _ _ ⟨rfl, rfl⟩
    rw [if_pos hF]
    refine S_X11_readsElement_23 (by omega) (fun _ => ?_) (fun z => absurd (Classical.not_not.mp z) (by omega))
    refine S_X11_readsElement_27 (c_goes _ (by rw [e92]; exact hok.w)) ?_
    rintro _ rfl
    rw [e92]
    have hg := rf_go_at (ts := σ.1 92) (u := τ.1 91)
    have hokG := rf_go_ok hok
    generalize hu1 : rf_go (σ.1 92) (τ.1 91) = u1 at hg hokG
    obtain ⟨hg1, hg2, hg3, hg4⟩ := hg
    rw [hF] at hg2
    rw [hn] at hg3
    rw [a4] at hg1
    have f1 : (am_sr τ 91 u1).1 91 = u1 := am_sr_at
    have f2 : (am_sr τ 91 u1).1 92 = σ.1 92 := by rw [am_sr_of (by decide), e92]
    have hlet := rf_let_at hg2 hg1
    rw [hg3] at hlet
    obtain ⟨c6, c5, c4⟩ := id hg1
    rw [hg3] at c6 c5 c4
    have hin2 := tk_in (bs := σ.1 92) (n := σ.1 91 3) (p := tk_sp (σ.1 92) (σ.1 91 3) p) (by omega)
    refine S_X11_readsElement_31 (c_rLetter _ (by rw [f1, f2]; exact hokG)) ?_
    rintro _ _ ⟨rfl, rfl⟩
    rw [f1, f2, hlet, am_sr_sr]
    by_cases hl1 : sl_let (σ.1 92) (σ.1 91 3) (tk_sp (σ.1 92) (σ.1 91 3) p) = -1
    · rw [if_pos hl1] at heq
      rw [if_pos hl1]
      have g1 : (am_sr τ 91 (rf_fail u1 1)).1 91 2 = 1 + 8 * tk_st (σ.1 92) (σ.1 91 3) (tk_sp (σ.1 92) (σ.1 91 3) p) := by rw [am_sr_at, rf_fail_v hg2, am_u1_eq, c5]
      refine S_X11_readsElement_36 (c_isGood _ (by omega)) ?_
      rintro _ _ ⟨rfl, rfl⟩
      rw [g1, if_neg (by omega)]
      refine S_X11_readsElement_40 (by omega) (fun q => absurd rfl q) (fun _ => ?_)
      refine S_X11_readsElement_43 (hQF _ _ heq ⟨ho.trans (am_only.sr (by decide)), ?_, g1, by omega, ?_⟩)
      · rw [am_sr_at]; exact rf_fail_ok hokG (by omega)
      · rw [am_sr_at, rf_fail_v hg2]
        exact (hkp.trans (fun j hj => hg4 j (fun z => hj (by revert z; simp; omega)))).trans (am_kpt.u1 (by decide))
    rw [if_neg hl1] at heq
    rw [if_neg hl1]
    have hk97 : tk_k (σ.1 92) (σ.1 91 3) (tk_sp (σ.1 92) (σ.1 91 3) p) ≠ 0 := by
      intro z
      apply hl1
      unfold sl_let
      rw [z, if_neg (by omega)]
    have hlt2 := tk_lt hk97
    have hlr : -1 ≤ sl_let (σ.1 92) (σ.1 91 3) (tk_sp (σ.1 92) (σ.1 91 3) p) ∧ sl_let (σ.1 92) (σ.1 91 3) (tk_sp (σ.1 92) (σ.1 91 3) p) ≤ 2 := by unfold sl_let; split <;> omega
    generalize sl_let (σ.1 92) (σ.1 91 3) (tk_sp (σ.1 92) (σ.1 91 3) p) = l at *
    have hg' := rf_go_at (ts := σ.1 92) (u := u1)
    have hokG2 := rf_go_ok hokG
    generalize rf_go (σ.1 92) u1 = u2 at hg' hokG2
    obtain ⟨hh1, hh2, hh3, hh4⟩ := hg'
    rw [hg2] at hh2
    rw [hg3] at hh3
    rw [c4] at hh1
    have hin3 := tk_in (bs := σ.1 92) (n := σ.1 91 3) (p := tk_sp (σ.1 92) (σ.1 91 3) (tk_sp (σ.1 92) (σ.1 91 3) p)) (by omega)
    have k26 : u2 26 = acc.length := by rw [hh4 26 (by decide), hg4 26 (by decide), h26]
    have k28 : u2 28 = dp := by rw [hh4 28 (by decide), hg4 28 (by decide), h28]
    have m1 : (am_sr τ 91 u2).1 91 = u2 := am_sr_at
    refine S_X11_readsElement_36 (c_isGood _ (by rw [m1, hh2]; omega)) ?_
    rintro _ _ ⟨rfl, rfl⟩
    rw [m1, if_pos hh2]
    refine S_X11_readsElement_40 (by omega) (fun _ => ?_) (fun z => absurd (Classical.not_not.mp z) (by omega))
    refine S_X11_readsElement_44 (by rw [m1]; omega) (by rw [m1]; omega) ?_
    rw [m1, k26]
    refine S_X11_readsElement_54 ?_
    refine S_X11_readsElement_64 ?_
    -- the state behind the LETTER
    have hD1 : rd_D σ (tk_sp (σ.1 92) (σ.1 91 3) (tk_sp (σ.1 92) (σ.1 91 3) p)) (op + 1) (dp + 1) (acc ++ [l]) (am_pI (am_pI (am_pI (am_sr τ 91 u2) 108 (acc.length : Int) l) 91 26 ((am_pI (am_sr τ 91 u2) 108 (acc.length : Int) l).1 91 26 + 1)) 91 28 ((am_pI (am_pI (am_sr τ 91 u2) 108 (acc.length : Int) l) 91 26 ((am_pI (am_sr τ 91 u2) 108 (acc.length : Int) l).1 91 26 + 1)).1 91 28 + 1)) := by
      have n1 : (am_pI (am_sr τ 91 u2) 108 (acc.length : Int) l).1 91 = u2 := by rw [am_pI_of (by decide), m1]
      have n8 : (am_pI (am_sr τ 91 u2) 108 (acc.length : Int) l).1 108 = am_u1 (τ.1 108) acc.length l := by
        show am_up _ 108 _ _ 108 = _
        rw [am_up_eq, am_sr_of (by decide)]
      rw [n1, k26]
      have n2 : (am_pI (am_pI (am_sr τ 91 u2) 108 (acc.length : Int) l) 91 26 ((acc.length : Int) + 1)).1 91 = am_u1 u2 26 (acc.length + 1) := by
        show am_up _ 91 _ _ 91 = _
        rw [am_up_eq, n1]
      rw [n2, show am_u1 u2 26 ((acc.length : Int) + 1) 28 = dp from by rw [am_u1_ne (by decide), k28]]
      have n3 : (am_pI (am_pI (am_pI (am_sr τ 91 u2) 108 (acc.length : Int) l) 91 26 ((acc.length : Int) + 1)) 91 28 (dp + 1)).1 91 = am_u1 (am_u1 u2 26 (acc.length + 1)) 28 (dp + 1) := by
        show am_up _ 91 _ _ 91 = _
        rw [am_up_eq, n2]
      have n4 : (am_pI (am_pI (am_pI (am_sr τ 91 u2) 108 (acc.length : Int) l) 91 26 ((acc.length : Int) + 1)) 91 28 (dp + 1)).1 108 = am_u1 (τ.1 108) acc.length l := by
        rw [am_pI_of (by decide), am_pI_of (by decide), n8]
      have v : ∀ j, j ≠ 26 → j ≠ 28 → am_u1 (am_u1 u2 26 (acc.length + 1)) 28 (dp + 1) j = u2 j := fun j h1 h2 => by rw [am_u1_ne h2, am_u1_ne h1]
      refine ⟨?_, ?_, ?_, ?_, ?_, ?_, ?_, ?_, ?_, by omega, by omega, by omega, by omega, by omega, by omega, ?_⟩
      · exact ((ho.trans (am_only.sr (by decide))).trans (am_only.pI (by decide))).trans ((am_only.pI (by decide)).trans (am_only.pI (by decide)))
      · rw [n3]
        refine ⟨hokG2.1, ?_⟩
        rw [v 3 (by decide) (by decide), v 4 (by decide) (by decide), v 5 (by decide) (by decide), v 6 (by decide) (by decide), v 2 (by decide) (by decide)]
        exact hokG2.2
      · rw [n3, v 2 (by decide) (by decide), hh2]
      · rw [n3, v 3 (by decide) (by decide), hh3]
      · rw [n3]
        unfold rf_atp
        rw [v 3 (by decide) (by decide), v 4 (by decide) (by decide), v 5 (by decide) (by decide), v 6 (by decide) (by decide)]
        exact hh1
      · rw [n3, am_u1_ne (by decide), am_u1_eq, List.length_append]; rfl
      · rw [n3, am_u1_eq]
      · rw [n4]; exact hL.snoc
      · rw [n3]
        exact (((hkp.trans (fun j hj => hg4 j (fun z => hj (by revert z; simp; omega)))).trans (fun j hj => hh4 j (fun z => hj (by revert z; simp; omega)))).trans (am_kpt.u1 (by decide))).trans (am_kpt.u1 (by decide))
      · rw [List.length_append]; show ((acc.length + 1 : Nat) : Int) = _; omega
    -- the loop over the ELEMENTS within
    have loop : ∀ (f : Nat) (p2 op2 : Int) (acc2 : List Int) (τ2 : am_D), σ.1 91 3 - p2 < f → p < p2 → op < op2 → rd_D σ p2 op2 (dp + 1) acc2 τ2 → sl_D (σ.1 92) (σ.1 91 3) p op dp acc = sl_D (σ.1 92) (σ.1 91 3) p2 op2 (dp + 1) acc2 → am_X (am_FV G (d + (k + 1) + 7) Q) mX11_readsElement (0, 0) 74 [some (am_r (some 91)), none] [] (am_K0, τ2) := by
      intro f
      induction f with
      | zero => intro p2 op2 acc2 τ2 q1 q2 q3 hD2; have := hD2.2.2.2.2.2.2.2.2.2.2.1; omega
      | succ f ih =>
        intro p2 op2 acc2 τ2 q1 q2 q3 hD2 hs
        obtain ⟨ho2, hok2, hF2, hn2, hat2, h262, h282, hL2, hkp2, p02, p12, o02, o12, d02, d12, hal2⟩ := id hD2
        have e922 : τ2.1 92 = σ.1 92 := ho2.1 92 (by decide)
        have heq2 := sl_D_eq (bs := σ.1 92) (n := σ.1 91 3) (p := p2) (op := op2) (dp := dp + 1) (acc := acc2) p02 p12 b2
        obtain ⟨x6, x5, x4⟩ := id hat2
        rw [hn2] at x6 x5 x4
        obtain ⟨hb2, y1, y2, y3, y4, y6, y7, y8, y9, y10, y11, y12⟩ := id hok2
        have s60 := tk_k_sign (bs := σ.1 92) (n := σ.1 91 3) (p := p2) (c := 60) (by omega)
        have s62 := tk_k_sign (bs := σ.1 92) (n := σ.1 91 3) (p := p2) (c := 62) (by omega)
        rw [← x6, ← x5] at s60 s62
        have hin9 := tk_in (bs := σ.1 92) p12
        refine S_X11_readsElement_74 (c_isSign _ (by omega) (by rw [e922]; exact hok2)) ?_
        rintro _ _ ⟨rfl, rfl⟩
        rw [e922]
        by_cases z60 : tk_k (σ.1 92) (σ.1 91 3) p2 = 60
        · rw [if_pos ⟨hF2, s60.mp z60⟩]
          refine S_X11_readsElement_80 (by omega) (fun w => absurd w (by omega)) (fun _ => ?_)
          refine S_X11_readsElement_83 (ihk p2 op2 (dp + 1) acc2 τ2 (by omega) hD2 z60) ?_
          intro τ3 hpost
          refine S_X11_readsElement_87 ?_
          rcases hpost with ⟨F, hsF, hrF⟩ | ⟨p3, op3, acc3, hp3, ho3, hs3, hD3⟩
          · -- a FAULT within
            obtain ⟨r1, r2, r3, r4, r5⟩ := id hrF
            have e93 : τ3.1 92 = σ.1 92 := r1.1 92 (by decide)
            have hnz : ¬ τ3.1 91 2 = 0 := by omega
            refine S_X11_readsElement_74 (c_isSign _ (by omega) (by rw [e93]; exact r2)) ?_
            rintro _ _ ⟨rfl, rfl⟩
            rw [if_neg (fun z => hnz z.1)]
            refine S_X11_readsElement_80 (by omega) (fun _ => ?_) (fun w => absurd rfl w)
            refine S_X11_readsElement_90 (c_rSign _ (by omega) (by rw [e93]; exact r2)) ?_
            rintro _ rfl
            rw [if_neg (fun z => hnz z.1), rf_fail_no hnz, am_sr_self]
            refine S_X11_readsElement_96 (c_isGood _ ⟨r2.2.2.2.2.2.2.2.2.2.1, r2.2.2.2.2.2.2.2.2.2.2.1⟩) ?_
            rintro _ _ ⟨rfl, rfl⟩
            rw [if_neg hnz]
            refine S_X11_readsElement_100 (by omega) (fun w => absurd rfl w) (fun _ => ?_)
            exact S_X11_readsElement_103 (hQF F τ3 (hs.trans hsF) hrF)
          · exact ih p3 op3 acc3 τ3 (by omega) (by omega) (by omega) hD3 (hs.trans hs3)
        · rw [if_neg (fun z => z60 (s60.mpr z.2))]
          refine S_X11_readsElement_80 (by omega) (fun _ => ?_) (fun w => absurd rfl w)
          refine S_X11_readsElement_90 (c_rSign _ (by omega) (by rw [e922]; exact hok2)) ?_
          rintro _ rfl
          rw [e922]
          by_cases z62 : tk_k (σ.1 92) (σ.1 91 3) p2 = 62
          · rw [if_pos ⟨hF2, s62.mp z62⟩]
            rw [if_neg (by omega), if_neg z60, if_pos ⟨z62, by omega⟩] at heq2
            have hlt9 := tk_lt (bs := σ.1 92) (n := σ.1 91 3) (p := p2) (by omega)
            have hg9 := rf_go_at (ts := σ.1 92) (u := τ2.1 91)
            have hok9 := rf_go_ok hok2
            generalize rf_go (σ.1 92) (τ2.1 91) = u9 at hg9 hok9
            obtain ⟨i1, i2, i3, i4⟩ := hg9
            rw [hF2] at i2
            rw [hn2] at i3
            rw [x4] at i1
            have k269 : u9 26 = acc2.length := by rw [i4 26 (by decide), h262]
            have k289 : u9 28 = dp + 1 := by rw [i4 28 (by decide), h282]
            have m9 : (am_sr τ2 91 u9).1 91 = u9 := am_sr_at
            refine S_X11_readsElement_96 (c_isGood _ (by rw [m9, i2]; omega)) ?_
            rintro _ _ ⟨rfl, rfl⟩
            rw [m9, if_pos i2]
            refine S_X11_readsElement_100 (by omega) (fun _ => ?_) (fun z => absurd (Classical.not_not.mp z) (by omega))
            refine S_X11_readsElement_104 ?_
            rw [am_pI_sr, m9, k289]
            have m10 : (am_sr τ2 91 (am_u1 u9 28 (dp + 1 - 1))).1 91 = am_u1 u9 28 (dp + 1 - 1) := am_sr_at
            have m11 : (am_sr τ2 91 (am_u1 u9 28 (dp + 1 - 1))).1 91 26 = acc2.length := by rw [m10, am_u1_ne (by decide), k269]
            refine S_X11_readsElement_114 (by rw [m11]; omega) (by rw [m11]; omega) ?_
            rw [m11]
            refine S_X11_readsElement_124 ?_
            refine S_X11_readsElement_134 ?_
            have n1 : (am_pI (am_sr τ2 91 (am_u1 u9 28 (dp + 1 - 1))) 108 (acc2.length : Int) 3).1 91 = am_u1 u9 28 (dp + 1 - 1) := by rw [am_pI_of (by decide), m10]
            have n8 : (am_pI (am_sr τ2 91 (am_u1 u9 28 (dp + 1 - 1))) 108 (acc2.length : Int) 3).1 108 = am_u1 (τ2.1 108) acc2.length 3 := by
              show am_up _ 108 _ _ 108 = _
              rw [am_up_eq, am_sr_of (by decide)]
            rw [n1, am_u1_ne (by decide), k269, ← hQ]
            have n3 : (am_pI (am_pI (am_sr τ2 91 (am_u1 u9 28 (dp + 1 - 1))) 108 (acc2.length : Int) 3) 91 26 ((acc2.length : Int) + 1)).1 91 = am_u1 (am_u1 u9 28 (dp + 1 - 1)) 26 (acc2.length + 1) := by
              show am_up _ 91 _ _ 91 = _
              rw [am_up_eq, n1]
            have n4 : (am_pI (am_pI (am_sr τ2 91 (am_u1 u9 28 (dp + 1 - 1))) 108 (acc2.length : Int) 3) 91 26 ((acc2.length : Int) + 1)).1 108 = am_u1 (τ2.1 108) acc2.length 3 := by
              rw [am_pI_of (by decide), n8]
            have v : ∀ j, j ≠ 26 → j ≠ 28 → am_u1 (am_u1 u9 28 (dp + 1 - 1)) 26 (acc2.length + 1) j = u9 j := fun j h1 h2 => by rw [am_u1_ne h1, am_u1_ne h2]
            refine Or.inr ⟨tk_sp (σ.1 92) (σ.1 91 3) p2, op2, acc2 ++ [3], by omega, q3, ?_, ?_⟩
            · rw [hs, heq2, show dp + 1 - 1 = dp by omega]
            · refine ⟨?_, ?_, ?_, ?_, ?_, ?_, ?_, ?_, ?_, by omega, by omega, by omega, by omega, by omega, by omega, ?_⟩
              · exact ((ho2.trans (am_only.sr (by decide))).trans (am_only.pI (by decide))).trans (am_only.pI (by decide))
              · rw [n3]
                refine ⟨hok9.1, ?_⟩
                rw [v 3 (by decide) (by decide), v 4 (by decide) (by decide), v 5 (by decide) (by decide), v 6 (by decide) (by decide), v 2 (by decide) (by decide)]
                exact hok9.2
              · rw [n3, v 2 (by decide) (by decide), i2]
              · rw [n3, v 3 (by decide) (by decide), i3]
              · rw [n3]
                unfold rf_atp
                rw [v 3 (by decide) (by decide), v 4 (by decide) (by decide), v 5 (by decide) (by decide), v 6 (by decide) (by decide)]
                exact i1
              · rw [n3, am_u1_eq, List.length_append]; rfl
              · rw [n3, am_u1_ne (by decide), am_u1_eq]; omega
              · rw [n4]; exact hL2.snoc
              · rw [n3]
                exact ((hkp2.trans (fun j hj => i4 j (fun z => hj (by revert z; simp; omega)))).trans (am_kpt.u1 (by decide))).trans (am_kpt.u1 (by decide))
              · rw [List.length_append]; show ((acc2.length + 1 : Nat) : Int) = _; omega
          · rw [if_neg (fun z => z62 (s62.mpr z.2))]
            have hsF : sl_D (σ.1 92) (σ.1 91 3) p2 op2 (dp + 1) acc2 = .inl (1 + 8 * tk_st (σ.1 92) (σ.1 91 3) p2) := by
              rw [heq2]
              by_cases z0 : tk_k (σ.1 92) (σ.1 91 3) p2 = 0
              · rw [if_pos z0, if_pos (by omega)]
              · rw [if_neg z0, if_neg z60, if_neg (fun z => z62 z.1)]
            have g1 : (am_sr τ2 91 (rf_fail (τ2.1 91) 1)).1 91 2 = 1 + 8 * tk_st (σ.1 92) (σ.1 91 3) p2 := by rw [am_sr_at, rf_fail_v hF2, am_u1_eq, x5]
            refine S_X11_readsElement_96 (c_isGood _ (by omega)) ?_
            rintro _ _ ⟨rfl, rfl⟩
            rw [g1, if_neg (by omega)]
            refine S_X11_readsElement_100 (by omega) (fun q => absurd rfl q) (fun _ => ?_)
            refine S_X11_readsElement_103 (hQF _ _ (hs.trans hsF) ⟨ho2.trans (am_only.sr (by decide)), ?_, g1, by omega, ?_⟩)
            · rw [am_sr_at]; exact rf_fail_ok hok2 (by omega)
            · rw [am_sr_at, rf_fail_v hF2]; exact hkp2.trans (am_kpt.u1 (by decide))
    exact loop 700 _ _ _ _ (by omega) (by omega) (by omega) hD1 heq
end
