section
/-! The reference's picture of a MACHINE in its slot s. -/
def rm_X (τ : am_D) (s e : Int) (w : List Int) : Prop := 0 ≤ τ.1 103 (72 * s + e) ∧ τ.1 104 (72 * s + e) = τ.1 103 (72 * s + e) + w.length ∧ τ.1 104 (72 * s + e) ≤ τ.1 97 s ∧ ∀ i : Nat, i < w.length → τ.1 106 (600 * s + τ.1 103 (72 * s + e) + i) = rx_c (w.getD i 0)
def rm_XE (τ : am_D) (s c e : Int) : Option (List Int) → Prop
  | none => e = -1
  | some w => 0 ≤ e ∧ e < c ∧ rm_X τ s (3 * e) w
/-- the ELEMENTS of RULES' own -/
def rm_W (τ : am_D) (s : Int) (P : am_P) : Prop :=
  (∀ l q k : Int, 0 ≤ l → l < 3 → 0 ≤ q → q < 6 → 0 ≤ k → k < 6 → pm_cT P l q k ≠ -1 → 0 ≤ τ.1 105 (24 * s + τ.1 101 (108 * s + 36 * l + 6 * q + k)) ∧ τ.1 105 (24 * s + τ.1 101 (108 * s + 36 * l + 6 * q + k)) ≤ pm_mC P) ∧
  (∀ q : Int, 0 ≤ q → q < 6 → pm_eX P q ≠ none → 0 ≤ τ.1 105 (24 * s + τ.1 102 (6 * s + q)) ∧ τ.1 105 (24 * s + τ.1 102 (6 * s + q)) ≤ pm_mE P) ∧
  (pm_mC P = 0 ∨ ∃ l q k : Int, (0 ≤ l ∧ l < 3) ∧ (0 ≤ q ∧ q < 6) ∧ (0 ≤ k ∧ k < 6) ∧ pm_cT P l q k ≠ -1 ∧ τ.1 105 (24 * s + τ.1 101 (108 * s + 36 * l + 6 * q + k)) = pm_mC P) ∧
  (pm_mE P = 0 ∨ ∃ q : Int, (0 ≤ q ∧ q < 6) ∧ pm_eX P q ≠ none ∧ τ.1 105 (24 * s + τ.1 102 (6 * s + q)) = pm_mE P)
def rm_T (τ : am_D) (s : Int) (P : am_P) : Prop :=
  (τ.1 94 s = pm_S P ∧ τ.1 95 s = pm_R P) ∧
  (∀ l q : Int, 0 ≤ l → l < 3 → 0 ≤ q → q < 6 → τ.1 98 (18 * s + 6 * l + q) = pm_oT P l q ∧ (pm_oT P l q ≠ -1 → τ.1 99 (18 * s + 6 * l + q) = pm_oM P l q)) ∧
  (∀ l q k : Int, 0 ≤ l → l < 3 → 0 ≤ q → q < 6 → 0 ≤ k → k < 6 → τ.1 100 (108 * s + 36 * l + 6 * q + k) = pm_cT P l q k ∧ (pm_cT P l q k ≠ -1 → 0 ≤ τ.1 101 (108 * s + 36 * l + 6 * q + k) ∧ τ.1 101 (108 * s + 36 * l + 6 * q + k) < pm_n P ∧ ∀ i : Nat, i < (pm_cX P l q k).length → rm_X τ s (3 * τ.1 101 (108 * s + 36 * l + 6 * q + k) + i) ((pm_cX P l q k).getD i []))) ∧
  (∀ q : Int, 0 ≤ q → q < 6 → rm_XE τ s (pm_n P) (τ.1 102 (6 * s + q)) (pm_eX P q)) ∧
  (0 ≤ τ.1 97 s ∧ τ.1 97 s ≤ 18 * pm_n P) ∧
  rm_W τ s P
/-- rows of the MACHINES -/
abbrev rm_A : List Nat := [91, 94, 95, 96, 97, 98, 99, 100, 101, 102, 103, 104, 105, 106]
/-- the told slots stay -/
def rm_low (σ τ : am_D) : Prop := (∀ j : Int, j < 5 → τ.1 94 j = σ.1 94 j ∧ τ.1 95 j = σ.1 95 j ∧ τ.1 96 j = σ.1 96 j ∧ τ.1 97 j = σ.1 97 j) ∧ (∀ j : Int, j < 90 → τ.1 98 j = σ.1 98 j ∧ τ.1 99 j = σ.1 99 j) ∧ (∀ j : Int, j < 540 → τ.1 100 j = σ.1 100 j ∧ τ.1 101 j = σ.1 101 j) ∧ (∀ j : Int, j < 30 → τ.1 102 j = σ.1 102 j) ∧ (∀ j : Int, j < 360 → τ.1 103 j = σ.1 103 j ∧ τ.1 104 j = σ.1 104 j) ∧ (∀ j : Int, j < 120 → τ.1 105 j = σ.1 105 j) ∧ (∀ j : Int, j < 3000 → τ.1 106 j = σ.1 106 j)
theorem rm_low.rfl' {σ : am_D} : rm_low σ σ := ⟨fun _ _ => ⟨rfl, rfl, rfl, rfl⟩, fun _ _ => ⟨rfl, rfl⟩, fun _ _ => ⟨rfl, rfl⟩, fun _ _ => rfl, fun _ _ => ⟨rfl, rfl⟩, fun _ _ => rfl, fun _ _ => rfl⟩
theorem rm_low.trans {σ τ υ : am_D} (h : rm_low σ τ) (h' : rm_low τ υ) : rm_low σ υ := by
  obtain ⟨a1, a2, a3, a4, a5, a6, a7⟩ := h
  obtain ⟨b1, b2, b3, b4, b5, b6, b7⟩ := h'
  exact ⟨fun j hj => ⟨(b1 j hj).1.trans (a1 j hj).1, (b1 j hj).2.1.trans (a1 j hj).2.1, (b1 j hj).2.2.1.trans (a1 j hj).2.2.1, (b1 j hj).2.2.2.trans (a1 j hj).2.2.2⟩, fun j hj => ⟨(b2 j hj).1.trans (a2 j hj).1, (b2 j hj).2.trans (a2 j hj).2⟩, fun j hj => ⟨(b3 j hj).1.trans (a3 j hj).1, (b3 j hj).2.trans (a3 j hj).2⟩, fun j hj => (b4 j hj).trans (a4 j hj), fun j hj => ⟨(b5 j hj).1.trans (a5 j hj).1, (b5 j hj).2.trans (a5 j hj).2⟩, fun j hj => (b6 j hj).trans (a6 j hj), fun j hj => (b7 j hj).trans (a7 j hj)⟩
/-- rows below 94 and above 106 do not matter -/
theorem rm_low.of {σ τ : am_D} (h : ∀ a, 94 ≤ a → a ≤ 106 → τ.1 a = σ.1 a) : rm_low σ τ := by
  unfold rm_low
  rw [h 94 (by decide) (by decide), h 95 (by decide) (by decide), h 96 (by decide) (by decide), h 97 (by decide) (by decide), h 98 (by decide) (by decide), h 99 (by decide) (by decide), h 100 (by decide) (by decide), h 101 (by decide) (by decide), h 102 (by decide) (by decide), h 103 (by decide) (by decide), h 104 (by decide) (by decide), h 105 (by decide) (by decide), h 106 (by decide) (by decide)]
  exact rm_low.rfl'
/-- where the draft's part of a row begins -/
def rm_lo (a : Nat) : Int := if a ≤ 97 then 5 else if a ≤ 99 then 90 else if a ≤ 101 then 540 else if a = 102 then 30 else if a ≤ 104 then 360 else if a = 105 then 120 else 3000
theorem rm_low.pI {σ : am_D} {a : Nat} {k x : Int} (h : rm_lo a ≤ k) : rm_low σ (am_pI σ a k x) := by
  have key : ∀ (b : Nat) (j : Int), j < rm_lo b → (am_pI σ a k x).1 b j = σ.1 b j := by
    intro b j hj
    by_cases e : b = a
    · subst e
      exact am_pI_nj (by omega)
    · rw [am_pI_of e]
  exact ⟨fun j hj => ⟨key 94 j hj, key 95 j hj, key 96 j hj, key 97 j hj⟩, fun j hj => ⟨key 98 j hj, key 99 j hj⟩, fun j hj => ⟨key 100 j hj, key 101 j hj⟩, fun j hj => key 102 j hj, fun j hj => ⟨key 103 j hj, key 104 j hj⟩, fun j hj => key 105 j hj, fun j hj => key 106 j hj⟩
variable {G : am_G} {σ : am_D}
theorem c_openAt (d : Nat) {s l q : Int} : am_MI G (d + 1) mX11_openAt [am_i s, am_i l, am_i q] σ (fun x σ' => x = 18 * s + 6 * l + q ∧ σ = σ') := by
  refine am_M.go (by decide) (Nat.le_of_ble_eq_true rfl) rfl ?_
  exact S_X11_openAt_0 ⟨rfl, rfl⟩
theorem c_closeAt (d : Nat) {s l q k : Int} : am_MI G (d + 1) mX11_closeAt [am_i s, am_i l, am_i q, am_i k] σ (fun x σ' => x = 108 * s + 36 * l + 6 * q + k ∧ σ = σ') := by
  refine am_M.go (by decide) (Nat.le_of_ble_eq_true rfl) rfl ?_
  exact S_X11_closeAt_0 ⟨rfl, rfl⟩
/-- the draft is empty -/
def rm_Z (τ : am_D) : Prop := τ.1 96 5 = 0 ∧ τ.1 97 5 = 0 ∧ (∀ j : Int, 0 ≤ j → j < 18 → τ.1 98 (90 + j) = -1) ∧ (∀ j : Int, 0 ≤ j → j < 108 → τ.1 100 (540 + j) = -1) ∧ (∀ j : Int, 0 ≤ j → j < 6 → τ.1 102 (30 + j) = -1)
theorem c_clears (d : Nat) : am_MV G (d + 1) mX11_clears [am_r (some 91), am_i 5] σ (fun σ' => am_only [96, 97, 98, 100, 102] σ σ' ∧ rm_low σ σ' ∧ rm_Z σ') := by
  refine am_M.go (by decide) (Nat.le_of_ble_eq_true rfl) rfl ?_
  generalize hQ : (fun σ' : am_D => am_only [96, 97, 98, 100, 102] σ σ' ∧ rm_low σ σ' ∧ rm_Z σ') = Q
  have L3 : ∀ (f : Nat) (i : Int) (τ : am_D), 0 ≤ i → i ≤ 6 → 6 - i < f → am_only [96, 97, 98, 100, 102] σ τ → rm_low σ τ → τ.1 96 5 = 0 → τ.1 97 5 = 0 → (∀ j : Int, 0 ≤ j → j < 18 → τ.1 98 (90 + j) = -1) → (∀ j : Int, 0 ≤ j → j < 108 → τ.1 100 (540 + j) = -1) → (∀ j : Int, 0 ≤ j → j < i → τ.1 102 (30 + j) = -1) → am_X (am_FV G (d + 1) Q) mX11_clears (0, 0) 68 [some (am_r (some 91)), some (am_i 5), some (am_i i)] [] (am_K0, τ) := by
    intro f
    induction f with
    | zero => intro i τ h1 h2 h3; omega
    | succ f ih =>
      intro i τ h1 h2 h3 ho hl h96 h97 h98 h100 h102
      refine S_X11_clears_68 (by omega) (fun z => ?_) (fun z => ?_)
      · refine S_X11_clears_92 ?_
        rw [← hQ]
        exact ⟨ho, hl, h96, h97, h98, h100, fun j j0 j1 => h102 j j0 (by omega)⟩
      · refine S_X11_clears_74 (by omega) (by omega) ?_
        refine S_X11_clears_86 ?_
        refine ih (i + 1) _ (by omega) (by omega) (by omega) (ho.trans (am_only.pI (by simp))) (hl.trans (rm_low.pI (show rm_lo 102 ≤ _ from (show (30 : Int) ≤ _ by omega)))) (by rw [am_pI_of (by decide)]; exact h96) (by rw [am_pI_of (by decide)]; exact h97) (by rw [am_pI_of (by decide)]; exact h98) (by rw [am_pI_of (by decide)]; exact h100) (fun j j0 j1 => ?_)
        by_cases e : j = i
        · rw [e, show (30 : Int) + i = 6 * 5 + i by omega]; exact am_pI_at
        · rw [am_pI_nj (by omega)]; exact h102 j j0 (by omega)
  have L2 : ∀ (f : Nat) (i : Int) (τ : am_D), 0 ≤ i → i ≤ 108 → 108 - i < f → am_only [96, 97, 98, 100, 102] σ τ → rm_low σ τ → τ.1 96 5 = 0 → τ.1 97 5 = 0 → (∀ j : Int, 0 ≤ j → j < 18 → τ.1 98 (90 + j) = -1) → (∀ j : Int, 0 ≤ j → j < i → τ.1 100 (540 + j) = -1) → am_X (am_FV G (d + 1) Q) mX11_clears (0, 0) 42 [some (am_r (some 91)), some (am_i 5), some (am_i i)] [] (am_K0, τ) := by
    intro f
    induction f with
    | zero => intro i τ h1 h2 h3; omega
    | succ f ih =>
      intro i τ h1 h2 h3 ho hl h96 h97 h98 h100
      refine S_X11_clears_42 (by omega) (fun z => ?_) (fun z => ?_)
      · refine S_X11_clears_66 ?_
        exact L3 7 0 τ (by omega) (by omega) (by omega) ho hl h96 h97 h98 (fun j j0 j1 => h100 j j0 (by omega)) (fun j j0 j1 => absurd j1 (by omega))
      · refine S_X11_clears_48 (by omega) (by omega) ?_
        refine S_X11_clears_60 ?_
        refine ih (i + 1) _ (by omega) (by omega) (by omega) (ho.trans (am_only.pI (by simp))) (hl.trans (rm_low.pI (show rm_lo 100 ≤ _ from (show (540 : Int) ≤ _ by omega)))) (by rw [am_pI_of (by decide)]; exact h96) (by rw [am_pI_of (by decide)]; exact h97) (by rw [am_pI_of (by decide)]; exact h98) (fun j j0 j1 => ?_)
        by_cases e : j = i
        · rw [e, show (540 : Int) + i = 108 * 5 + i by omega]; exact am_pI_at
        · rw [am_pI_nj (by omega)]; exact h100 j j0 (by omega)
  have L1 : ∀ (f : Nat) (i : Int) (τ : am_D), 0 ≤ i → i ≤ 18 → 18 - i < f → am_only [96, 97, 98, 100, 102] σ τ → rm_low σ τ → τ.1 96 5 = 0 → τ.1 97 5 = 0 → (∀ j : Int, 0 ≤ j → j < i → τ.1 98 (90 + j) = -1) → am_X (am_FV G (d + 1) Q) mX11_clears (0, 0) 16 [some (am_r (some 91)), some (am_i 5), some (am_i i)] [] (am_K0, τ) := by
    intro f
    induction f with
    | zero => intro i τ h1 h2 h3; omega
    | succ f ih =>
      intro i τ h1 h2 h3 ho hl h96 h97 h98
      refine S_X11_clears_16 (by omega) (fun z => ?_) (fun z => ?_)
      · refine S_X11_clears_40 ?_
        exact L2 109 0 τ (by omega) (by omega) (by omega) ho hl h96 h97 (fun j j0 j1 => h98 j j0 (by omega)) (fun j j0 j1 => absurd j1 (by omega))
      · refine S_X11_clears_22 (by omega) (by omega) ?_
        refine S_X11_clears_34 ?_
        refine ih (i + 1) _ (by omega) (by omega) (by omega) (ho.trans (am_only.pI (by simp))) (hl.trans (rm_low.pI (show rm_lo 98 ≤ _ from (show (90 : Int) ≤ _ by omega)))) (by rw [am_pI_of (by decide)]; exact h96) (by rw [am_pI_of (by decide)]; exact h97) (fun j j0 j1 => ?_)
        by_cases e : j = i
        · rw [e, show (90 : Int) + i = 18 * 5 + i by omega]; exact am_pI_at
        · rw [am_pI_nj (by omega)]; exact h98 j j0 (by omega)
  refine S_X11_clears_0 (by omega) (by omega) ?_
  refine S_X11_clears_7 (by omega) (by omega) ?_
  refine S_X11_clears_14 ?_
  exact L1 19 0 _ (by omega) (by omega) (by omega) ((am_only.pI (by simp)).trans (am_only.pI (by simp))) ((rm_low.pI (show rm_lo 96 ≤ 5 by decide)).trans (rm_low.pI (show rm_lo 97 ≤ 5 by decide))) (by rw [am_pI_of (by decide)]; exact am_pI_at) am_pI_at (fun j j0 j1 => absurd j1 (by omega))
end
