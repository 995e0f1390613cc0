section
theorem rx_F.low {σ τ : am_D} {rl dp F : Int} (hr : 0 ≤ rl) (h : rx_F σ rl dp F τ) : am_only rm_A σ τ ∧ rm_low σ τ ∧ τ.1 96 = σ.1 96 := by
  obtain ⟨⟨a1, a2, a3⟩, b, ⟨c1, c2, c3⟩, e⟩ := h
  have q : ∀ a, 94 ≤ a → a ≠ 97 → a ≠ 105 → a ≠ 106 → τ.1 a = σ.1 a := fun a y1 y2 y3 y4 => a1.1 a (by simp; omega)
  refine ⟨a1.sub (fun a ha => by revert ha; simp; omega), ?_, q 96 (by decide) (by decide) (by decide) (by decide)⟩
  unfold rm_low
  rw [q 94 (by decide) (by decide) (by decide) (by decide), q 95 (by decide) (by decide) (by decide) (by decide), q 96 (by decide) (by decide) (by decide) (by decide), q 98 (by decide) (by decide) (by decide) (by decide), q 99 (by decide) (by decide) (by decide) (by decide), q 100 (by decide) (by decide) (by decide) (by decide), q 101 (by decide) (by decide) (by decide) (by decide), q 102 (by decide) (by decide) (by decide) (by decide), q 103 (by decide) (by decide) (by decide) (by decide), q 104 (by decide) (by decide) (by decide) (by decide)]
  exact ⟨fun j hj => ⟨rfl, rfl, rfl, c1 j (by simp; omega)⟩, fun _ _ => ⟨rfl, rfl⟩, fun _ _ => ⟨rfl, rfl⟩, fun _ _ => rfl, fun _ _ => ⟨rfl, rfl⟩, fun j hj => b j (by simp; omega), e⟩
theorem rx_D.low {σ τ : am_D} {rl B p dp own : Int} {seen acc : List Int} (hr : 0 ≤ rl) (h0 : 0 ≤ σ.1 97 5) (h : rx_D σ rl B p dp own seen acc τ) : am_only rm_A σ τ ∧ rm_low σ τ ∧ τ.1 96 = σ.1 96 := by
  obtain ⟨⟨a1, a2, a3⟩, ⟨b1, b2, b3, b4, b5⟩, ⟨c1, c2⟩, e1, e2, e3⟩ := h
  have q : ∀ a, 94 ≤ a → a ≠ 97 → a ≠ 105 → a ≠ 106 → τ.1 a = σ.1 a := fun a y1 y2 y3 y4 => a1.1 a (by simp; omega)
  refine ⟨a1.sub (fun a ha => by revert ha; simp; omega), ?_, q 96 (by decide) (by decide) (by decide) (by decide)⟩
  unfold rm_low
  rw [q 94 (by decide) (by decide) (by decide) (by decide), q 95 (by decide) (by decide) (by decide) (by decide), q 96 (by decide) (by decide) (by decide) (by decide), q 98 (by decide) (by decide) (by decide) (by decide), q 99 (by decide) (by decide) (by decide) (by decide), q 100 (by decide) (by decide) (by decide) (by decide), q 101 (by decide) (by decide) (by decide) (by decide), q 102 (by decide) (by decide) (by decide) (by decide), q 103 (by decide) (by decide) (by decide) (by decide), q 104 (by decide) (by decide) (by decide) (by decide)]
  exact ⟨fun j hj => ⟨rfl, rfl, rfl, c1 j (by simp; omega)⟩, fun _ _ => ⟨rfl, rfl⟩, fun _ _ => ⟨rfl, rfl⟩, fun _ _ => rfl, fun _ _ => ⟨rfl, rfl⟩, fun j hj => b2 j (by simp; omega), fun j hj => e2 j (by omega)⟩
/-- old EXPRESSIONS stay while a new one, c, is read -/
theorem rm_X_D {σ τ : am_D} {rl B p dp own c e : Int} {seen acc w : List Int} (h0 : 0 ≤ σ.1 97 5) (he : 72 * 5 + e ≠ c) (h : rx_D (am_pI σ 103 c (σ.1 97 5)) rl B p dp own seen acc τ) (hx : rm_X σ 5 e w) : rm_X (am_pI τ 104 c (τ.1 97 5)) 5 e w := by
  obtain ⟨⟨a1, a2, a3⟩, ⟨b1, b2, b3, b4, b5⟩, ⟨c1, c2⟩, e1, e2, e3⟩ := h
  obtain ⟨x1, x2, x3, x4⟩ := hx
  have f97 : (am_pI σ 103 c (σ.1 97 5)).1 97 = σ.1 97 := am_pI_of (by decide)
  have f106 : (am_pI σ 103 c (σ.1 97 5)).1 106 = σ.1 106 := am_pI_of (by decide)
  rw [f97] at c2 e2
  rw [f106] at e2
  have k3 : (am_pI τ 104 c (τ.1 97 5)).1 103 (72 * 5 + e) = σ.1 103 (72 * 5 + e) := by rw [am_pI_of (by decide), a1.1 103 (by decide)]; exact am_pI_nj he
  have k4 : (am_pI τ 104 c (τ.1 97 5)).1 104 (72 * 5 + e) = σ.1 104 (72 * 5 + e) := by rw [am_pI_nj he, a1.1 104 (by decide), am_pI_of (by decide)]
  have k6 : (am_pI τ 104 c (τ.1 97 5)).1 106 = τ.1 106 := am_pI_of (by decide)
  have k7 : (am_pI τ 104 c (τ.1 97 5)).1 97 = τ.1 97 := am_pI_of (by decide)
  unfold rm_X
  rw [k3, k4, k6, k7]
  exact ⟨x1, x2, by omega, fun i hi => by rw [e2 _ (by omega)]; exact x4 i hi⟩
theorem rm_X_new {σ τ : am_D} {rl B p dp own c e : Int} {seen acc : List Int} (h0 : 0 ≤ σ.1 97 5) (he : 72 * 5 + e = c) (h : rx_D (am_pI σ 103 c (σ.1 97 5)) rl B p dp own seen acc τ) : rm_X (am_pI τ 104 c (τ.1 97 5)) 5 e acc := by
  obtain ⟨⟨a1, a2, a3⟩, ⟨b1, b2, b3, b4, b5⟩, ⟨c1, c2⟩, e1, e2, e3⟩ := h
  have f97 : (am_pI σ 103 c (σ.1 97 5)).1 97 = σ.1 97 := am_pI_of (by decide)
  rw [f97] at c2 e1
  have k3 : (am_pI τ 104 c (τ.1 97 5)).1 103 c = σ.1 97 5 := by rw [am_pI_of (by decide), a1.1 103 (by decide)]; exact am_pI_at
  have k4 : (am_pI τ 104 c (τ.1 97 5)).1 104 c = τ.1 97 5 := am_pI_at
  have k6 : (am_pI τ 104 c (τ.1 97 5)).1 106 = τ.1 106 := am_pI_of (by decide)
  have k7 : (am_pI τ 104 c (τ.1 97 5)).1 97 = τ.1 97 := am_pI_of (by decide)
  unfold rm_X
  rw [he, k3, k4, k6, k7]
  exact ⟨h0, c2, by omega, fun i hi => e1 i hi⟩
variable {G : am_G} {σ : am_D}
theorem h_expression (d : Nat) {ts : Int → Int} {rl rr e F : Int} (hrl : 0 ≤ rl ∧ rl < 24) (hrr : 0 ≤ rr ∧ rr < 3) (h : rh ts (σ.1 91) F) : am_MV G (d + 3) mX11_expression [am_r (some 91), am_i rl, am_i rr, am_i e] σ (fun σ' => σ' = am_pI (am_pI σ 103 (360 + 3 * rl + rr) (σ.1 97 5)) 104 (360 + 3 * rl + rr) (σ.1 97 5)) := by
  refine am_M.go (by decide) (Nat.le_of_ble_eq_true rfl) rfl ?_
  refine S_X11_expression_0 (by omega) (by omega) ?_
  refine S_X11_expression_20 (h_parts (ts := ts) (F := F) _ (by rw [am_pI_of (by decide)]; exact h)) ?_
  rintro _ rfl
  refine S_X11_expression_26 (by omega) (by omega) ?_
  refine S_X11_expression_46 ?_
  rw [am_pI_of (show (97 : Nat) ≠ 103 by decide)]
end
