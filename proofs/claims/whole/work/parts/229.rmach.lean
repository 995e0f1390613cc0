section
/-- slot s' of τ is as slot s of σ -/
def rm_eq (σ : am_D) (s : Int) (τ : am_D) (s' : Int) : Prop := ∀ a, 94 ≤ a → a ≤ 106 → ∀ j : Int, 0 ≤ j → j < rm_sz a → τ.1 a (rm_sz a * s' + j) = σ.1 a (rm_sz a * s + j)
theorem rm_X_move {σ τ : am_D} {s s' e : Int} {w : List Int} (h : rm_eq σ s τ s') (he : 0 ≤ e ∧ e < 72) (h97 : σ.1 97 s ≤ 432) (hx : rm_X σ s e w) : rm_X τ s' e w := by
  obtain ⟨x1, x2, x3, x4⟩ := hx
  have e3 : τ.1 103 (72 * s' + e) = σ.1 103 (72 * s + e) := h 103 (by decide) (by decide) e he.1 he.2
  have e4 : τ.1 104 (72 * s' + e) = σ.1 104 (72 * s + e) := h 104 (by decide) (by decide) e he.1 he.2
  have e7 : τ.1 97 s' = σ.1 97 s := by
    have := h 97 (by decide) (by decide) 0 (by decide) (by decide)
    rw [show rm_sz 97 * s' + 0 = s' by show 1 * s' + 0 = s'; omega, show rm_sz 97 * s + 0 = s by show 1 * s + 0 = s; omega] at this
    exact this
  unfold rm_X
  rw [e3, e4, e7]
  refine ⟨x1, x2, x3, fun i hi => ?_⟩
  have := h 106 (by decide) (by decide) (σ.1 103 (72 * s + e) + i) (by omega) (show _ < (600 : Int) by omega)
  have this : τ.1 106 (600 * s' + (σ.1 103 (72 * s + e) + i)) = σ.1 106 (600 * s + (σ.1 103 (72 * s + e) + i)) := this
  rw [Int.add_assoc, this, ← Int.add_assoc]
  exact x4 i hi
theorem rm_T_move {σ τ : am_D} {s s' : Int} {P : am_P} (hP : pm_ok P) (hT : rm_T σ s P) (h : rm_eq σ s τ s') : rm_T τ s' P := by
  obtain ⟨⟨a0, a1⟩, b, c, e, g, w1, w2, w3, w4⟩ := hT
  obtain ⟨⟨pS1, pS2⟩, ⟨pR1, pR2⟩, ⟨pn1, pn2, pn3, pn4⟩, pc, pe, poT, poM, pcT⟩ := id hP
  have one : ∀ a, 94 ≤ a → a ≤ 97 → τ.1 a s' = σ.1 a s := by
    intro a y1 y2
    have hz : rm_sz a = 1 := if_pos y2
    have := h a y1 (by omega) 0 (by decide) (by omega)
    rw [hz] at this
    rw [show (1 : Int) * s' + 0 = s' by omega, show (1 : Int) * s + 0 = s by omega] at this
    exact this
  have e98 : ∀ l q : Int, 0 ≤ l → l < 3 → 0 ≤ q → q < 6 → τ.1 98 (18 * s' + 6 * l + q) = σ.1 98 (18 * s + 6 * l + q) := fun l q y1 y2 y3 y4 => by
    have := h 98 (by decide) (by decide) (6 * l + q) (by omega) (show _ < (18 : Int) by omega)
    rw [Int.add_assoc, Int.add_assoc]
    exact this
  have e99 : ∀ l q : Int, 0 ≤ l → l < 3 → 0 ≤ q → q < 6 → τ.1 99 (18 * s' + 6 * l + q) = σ.1 99 (18 * s + 6 * l + q) := fun l q y1 y2 y3 y4 => by
    have := h 99 (by decide) (by decide) (6 * l + q) (by omega) (show _ < (18 : Int) by omega)
    rw [Int.add_assoc, Int.add_assoc]
    exact this
  have e100 : ∀ l q k : Int, 0 ≤ l → l < 3 → 0 ≤ q → q < 6 → 0 ≤ k → k < 6 → τ.1 100 (108 * s' + 36 * l + 6 * q + k) = σ.1 100 (108 * s + 36 * l + 6 * q + k) := fun l q k y1 y2 y3 y4 y5 y6 => by
    have := h 100 (by decide) (by decide) (36 * l + (6 * q + k)) (by omega) (show _ < (108 : Int) by omega)
    rw [Int.add_assoc, Int.add_assoc, Int.add_assoc (108 * s + 36 * l), Int.add_assoc (108 * s)]
    exact this
  have e101 : ∀ l q k : Int, 0 ≤ l → l < 3 → 0 ≤ q → q < 6 → 0 ≤ k → k < 6 → τ.1 101 (108 * s' + 36 * l + 6 * q + k) = σ.1 101 (108 * s + 36 * l + 6 * q + k) := fun l q k y1 y2 y3 y4 y5 y6 => by
    have := h 101 (by decide) (by decide) (36 * l + (6 * q + k)) (by omega) (show _ < (108 : Int) by omega)
    rw [Int.add_assoc, Int.add_assoc, Int.add_assoc (108 * s + 36 * l), Int.add_assoc (108 * s)]
    exact this
  have e102 : ∀ q : Int, 0 ≤ q → q < 6 → τ.1 102 (6 * s' + q) = σ.1 102 (6 * s + q) := fun q y1 y2 => h 102 (by decide) (by decide) q y1 y2
  have e105 : ∀ q : Int, 0 ≤ q → q < 24 → τ.1 105 (24 * s' + q) = σ.1 105 (24 * s + q) := fun q y1 y2 => h 105 (by decide) (by decide) q y1 y2
  have hx : ∀ e w, 0 ≤ e ∧ e < 72 → rm_X σ s e w → rm_X τ s' e w := fun e w he hw => rm_X_move h he (by omega) hw
  have hlen : ∀ l q k, pm_cT P l q k ≠ -1 → ((pm_cX P l q k).length : Int) = pm_R P := fun l q k z => (pcT l q k).2.2 z
  have hc5 : ∀ l q k : Int, 0 ≤ l → l < 3 → 0 ≤ q → q < 6 → 0 ≤ k → k < 6 → pm_cT P l q k ≠ -1 → τ.1 105 (24 * s' + τ.1 101 (108 * s' + 36 * l + 6 * q + k)) = σ.1 105 (24 * s + σ.1 101 (108 * s + 36 * l + 6 * q + k)) := by
    intro l q k x1 x2 x3 x4 x5 x6 z
    obtain ⟨y1, y2, y3⟩ := (c l q k x1 x2 x3 x4 x5 x6).2 z
    rw [e101 l q k x1 x2 x3 x4 x5 x6]
    exact e105 _ y1 (by omega)
  have he5 : ∀ q : Int, 0 ≤ q → q < 6 → pm_eX P q ≠ none → τ.1 105 (24 * s' + τ.1 102 (6 * s' + q)) = σ.1 105 (24 * s + σ.1 102 (6 * s + q)) := by
    intro q x1 x2 z
    have := e q x1 x2
    cases hh : pm_eX P q with
    | none => exact absurd hh z
    | some w =>
      rw [hh] at this
      obtain ⟨y1, y2, y3⟩ := (show 0 ≤ σ.1 102 (6 * s + q) ∧ σ.1 102 (6 * s + q) < pm_n P ∧ _ from this)
      rw [e102 q x1 x2]
      exact e105 _ y1 (by omega)
  unfold rm_T
  rw [one 94 (by decide) (by decide), one 95 (by decide) (by decide), one 97 (by decide) (by decide)]
  refine ⟨⟨a0, a1⟩, fun l q x1 x2 x3 x4 => ?_, fun l q k x1 x2 x3 x4 x5 x6 => ?_, fun q x1 x2 => ?_, g, ?_⟩
  · rw [e98 l q x1 x2 x3 x4, e99 l q x1 x2 x3 x4]
    exact b l q x1 x2 x3 x4
  · rw [e100 l q k x1 x2 x3 x4 x5 x6, e101 l q k x1 x2 x3 x4 x5 x6]
    refine ⟨(c l q k x1 x2 x3 x4 x5 x6).1, fun z => ?_⟩
    obtain ⟨y1, y2, y3⟩ := (c l q k x1 x2 x3 x4 x5 x6).2 z
    have := hlen l q k z
    exact ⟨y1, y2, fun i hi => hx _ _ (by omega) (y3 i hi)⟩
  · rw [e102 q x1 x2]
    have := e q x1 x2
    cases hh : pm_eX P q with
    | none => rw [hh] at this; exact this
    | some w =>
      rw [hh] at this
      obtain ⟨y1, y2, y3⟩ := (show 0 ≤ σ.1 102 (6 * s + q) ∧ σ.1 102 (6 * s + q) < pm_n P ∧ rm_X σ s (3 * σ.1 102 (6 * s + q)) w from this)
      exact ⟨y1, y2, hx _ _ (by omega) y3⟩
  · refine ⟨fun l q k x1 x2 x3 x4 x5 x6 z => ?_, fun q x1 x2 z => ?_, ?_, ?_⟩
    · rw [hc5 l q k x1 x2 x3 x4 x5 x6 z]
      exact w1 l q k x1 x2 x3 x4 x5 x6 z
    · rw [he5 q x1 x2 z]
      exact w2 q x1 x2 z
    · rcases w3 with h | ⟨l, q, k, x1, x2, x3, x4, x5⟩
      · exact Or.inl h
      · exact Or.inr ⟨l, q, k, x1, x2, x3, x4, by rw [hc5 l q k x1.1 x1.2 x2.1 x2.2 x3.1 x3.2 x4]; exact x5⟩
    · rcases w4 with h | ⟨q, x1, x2, x3⟩
      · exact Or.inl h
      · exact Or.inr ⟨q, x1, x2, by rw [he5 q x1.1 x1.2 x2]; exact x3⟩
theorem rm_C.to {σ τ : am_D} {f t : Int} (h : rm_C σ f t τ) : rm_eq σ f τ t := by
  intro a y1 y2 j j0 j1
  rw [h.2.2 a y1 y2, if_pos (by omega), show rm_sz a * t + j - rm_sz a * t + rm_sz a * f = rm_sz a * f + j by omega]
theorem rm_C.other {σ τ : am_D} {f t s : Int} (hs : s ≠ t) (h : rm_C σ f t τ) : rm_eq σ s τ s := by
  intro a y1 y2 j j0 j1
  have hz : 0 < rm_sz a := by omega
  rw [h.2.2 a y1 y2, if_neg ?_]
  intro z
  rcases Int.lt_or_gt_of_ne hs with q | q
  · have : rm_sz a * (s + 1) ≤ rm_sz a * t := Int.mul_le_mul_of_nonneg_left (by omega) (by omega)
    rw [Int.mul_add, Int.mul_one] at this
    omega
  · have : rm_sz a * (t + 1) ≤ rm_sz a * s := Int.mul_le_mul_of_nonneg_left (by omega) (by omega)
    rw [Int.mul_add, Int.mul_one] at this
    omega
theorem rm_eq.trans {σ τ υ : am_D} {a b c : Int} (h : rm_eq σ a τ b) (h' : rm_eq τ b υ c) : rm_eq σ a υ c := fun r y1 y2 j j0 j1 => (h' r y1 y2 j j0 j1).trans (h r y1 y2 j j0 j1)
theorem rm_low.eq {σ τ : am_D} {s : Int} (hs : 0 ≤ s ∧ s < 5) (h : rm_low σ τ) : rm_eq σ s τ s := by
  obtain ⟨h1, h2, h3, h4, h5, h6, h7⟩ := h
  intro a y1 y2 j j0 j1
  have hc : a = 94 ∨ a = 95 ∨ a = 96 ∨ a = 97 ∨ a = 98 ∨ a = 99 ∨ a = 100 ∨ a = 101 ∨ a = 102 ∨ a = 103 ∨ a = 104 ∨ a = 105 ∨ a = 106 := by omega
  rcases hc with rfl | rfl | rfl | rfl | rfl | rfl | rfl | rfl | rfl | rfl | rfl | rfl | rfl
  · exact (h1 _ (show 1 * s + j < 5 by have : j < 1 := j1; omega)).1
  · exact (h1 _ (show 1 * s + j < 5 by have : j < 1 := j1; omega)).2.1
  · exact (h1 _ (show 1 * s + j < 5 by have : j < 1 := j1; omega)).2.2.1
  · exact (h1 _ (show 1 * s + j < 5 by have : j < 1 := j1; omega)).2.2.2
  · exact (h2 _ (show 18 * s + j < 90 by have : j < 18 := j1; omega)).1
  · exact (h2 _ (show 18 * s + j < 90 by have : j < 18 := j1; omega)).2
  · exact (h3 _ (show 108 * s + j < 540 by have : j < 108 := j1; omega)).1
  · exact (h3 _ (show 108 * s + j < 540 by have : j < 108 := j1; omega)).2
  · exact h4 _ (show 6 * s + j < 30 by have : j < 6 := j1; omega)
  · exact (h5 _ (show 72 * s + j < 360 by have : j < 72 := j1; omega)).1
  · exact (h5 _ (show 72 * s + j < 360 by have : j < 72 := j1; omega)).2
  · exact h6 _ (show 24 * s + j < 120 by have : j < 24 := j1; omega)
  · exact h7 _ (show 600 * s + j < 3000 by have : j < 600 := j1; omega)
/-- the draft behind clears has the picture of no RULES -/
theorem rm_T_0 {σ : am_D} {S R : Int} (hZ : rm_Z σ) (h4 : σ.1 94 5 = S) (h5 : σ.1 95 5 = R) : rm_T σ 5 (pm_0 S R) := by
  obtain ⟨z1, z2, z3, z4, z5⟩ := hZ
  refine ⟨⟨h4, h5⟩, fun l q x1 x2 x3 x4 => ⟨?_, fun z => absurd rfl z⟩, fun l q k x1 x2 x3 x4 x5 x6 => ⟨?_, fun z => absurd rfl z⟩, fun q x1 x2 => ?_, ?_, ?_⟩
  · have := z3 (6 * l + q) (by omega) (by omega)
    rw [show (18 : Int) * 5 + 6 * l + q = 90 + (6 * l + q) by omega]
    exact this
  · have := z4 (36 * l + 6 * q + k) (by omega) (by omega)
    rw [show (108 : Int) * 5 + 36 * l + 6 * q + k = 540 + (36 * l + 6 * q + k) by omega]
    exact this
  · exact z5 q x1 x2
  · exact ⟨by omega, by rw [z2]; show (0 : Int) ≤ 18 * (0 + 0 + 0); omega⟩
  · exact ⟨fun l q k _ _ _ _ _ _ z => absurd rfl z, fun q _ _ z => absurd rfl z, Or.inl rfl, Or.inl rfl⟩
end
