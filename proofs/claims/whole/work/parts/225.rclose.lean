section
theorem rm_T_addC {σ τ : am_D} {P : am_P} {l q k to own : Int} {xs : List (List Int)} (hno : pm_cT P l q k = -1) (hP : pm_ok P) (hT : rm_T σ 5 P) (hl : 0 ≤ l ∧ l < 3) (hq : 0 ≤ q ∧ q < 6) (hk : 0 ≤ k ∧ k < 6) (hto : 0 ≤ to) (ho : 0 ≤ own) (h94 : τ.1 94 = σ.1 94) (h95 : τ.1 95 = σ.1 95) (h98 : τ.1 98 = σ.1 98) (h99 : τ.1 99 = σ.1 99) (h100 : τ.1 100 = am_u1 (σ.1 100) (108 * 5 + 36 * l + 6 * q + k) to) (h101 : τ.1 101 = am_u1 (σ.1 101) (108 * 5 + 36 * l + 6 * q + k) (pm_n P)) (h102 : τ.1 102 = σ.1 102) (h97 : 0 ≤ τ.1 97 5 ∧ τ.1 97 5 ≤ 18 * (pm_n P + 1)) (h105 : am_kpt [120 + pm_n P] (σ.1 105) (τ.1 105)) (hown : τ.1 105 (120 + pm_n P) = own) (hx : ∀ e w, e < 3 * pm_n P → rm_X σ 5 e w → rm_X τ 5 e w) (hn : ∀ i : Nat, i < xs.length → rm_X τ 5 (3 * pm_n P + i) (xs.getD i [])) : rm_T τ 5 (pm_addC P l q k to xs own) := by
  obtain ⟨⟨a0, a1⟩, b, c, e, g, w1, w2, w3, w4⟩ := hT
  obtain ⟨⟨pS1, pS2⟩, ⟨pR1, pR2⟩, ⟨pn1, pn2, pn3, pn4⟩, pc, pe, poT, poM, pcT⟩ := id hP
  have hn1 : pm_n (pm_addC P l q k to xs own) = pm_n P + 1 := by show pm_nO P + (pm_nC P + 1) + pm_nE P = pm_nO P + pm_nC P + pm_nE P + 1; omega
  have pnv : pm_n P = pm_nO P + pm_nC P + pm_nE P := rfl
  unfold rm_T
  rw [hn1, h94, h95, h98, h99, h100, h101, h102]
  refine ⟨⟨a0, a1⟩, b, ?_, ?_, h97, ?_⟩
  · intro l' q' k' x1 x2 x3 x4 x5 x6
    show am_u1 (σ.1 100) (108 * 5 + 36 * l + 6 * q + k) to (108 * 5 + 36 * l' + 6 * q' + k') = pm_u3 (pm_cT P) l q k to l' q' k' ∧ (pm_u3 (pm_cT P) l q k to l' q' k' ≠ -1 → 0 ≤ am_u1 (σ.1 101) (108 * 5 + 36 * l + 6 * q + k) (pm_n P) (108 * 5 + 36 * l' + 6 * q' + k') ∧ am_u1 (σ.1 101) (108 * 5 + 36 * l + 6 * q + k) (pm_n P) (108 * 5 + 36 * l' + 6 * q' + k') < pm_n P + 1 ∧ ∀ i : Nat, i < (pm_u3 (pm_cX P) l q k xs l' q' k').length → rm_X τ 5 (3 * am_u1 (σ.1 101) (108 * 5 + 36 * l + 6 * q + k) (pm_n P) (108 * 5 + 36 * l' + 6 * q' + k') + i) ((pm_u3 (pm_cX P) l q k xs l' q' k').getD i []))
    unfold pm_u3
    by_cases z : l' = l ∧ q' = q ∧ k' = k
    · rw [if_pos z, if_pos z, z.1, z.2.1, z.2.2, am_u1_eq, am_u1_eq]
      exact ⟨rfl, fun _ => ⟨by omega, by omega, hn⟩⟩
    · rw [if_neg z, if_neg z, am_u1_ne (by omega), am_u1_ne (by omega)]
      refine ⟨(c l' q' k' x1 x2 x3 x4 x5 x6).1, fun z => ?_⟩
      obtain ⟨y1, y2, y3⟩ := (c l' q' k' x1 x2 x3 x4 x5 x6).2 z
      have hlen := (pcT l' q' k').2.2 z
      refine ⟨y1, by omega, fun i hi => hx _ _ (by omega) (y3 i hi)⟩
  · intro q' x1 x2
    have := e q' x1 x2
    cases hh : pm_eX P q' with
    | none =>
      rw [hh] at this
      show rm_XE τ 5 (pm_n P + 1) _ (pm_eX P q')
      rw [hh]
      exact this
    | some w =>
      rw [hh] at this
      obtain ⟨y1, y2, y3⟩ := (show 0 ≤ σ.1 102 (6 * 5 + q') ∧ σ.1 102 (6 * 5 + q') < pm_n P ∧ rm_X σ 5 (3 * σ.1 102 (6 * 5 + q')) w from this)
      show rm_XE τ 5 (pm_n P + 1) _ (pm_eX P q')
      rw [hh]
      exact ⟨y1, by omega, hx _ _ (by omega) y3⟩
  · unfold rm_W
    rw [h101, h102]
    have hc5 : ∀ l' q' k' : Int, 0 ≤ l' → l' < 3 → 0 ≤ q' → q' < 6 → 0 ≤ k' → k' < 6 → pm_cT P l' q' k' ≠ -1 → ¬ (l' = l ∧ q' = q ∧ k' = k) ∧ τ.1 105 (24 * 5 + am_u1 (σ.1 101) (108 * 5 + 36 * l + 6 * q + k) (pm_n P) (108 * 5 + 36 * l' + 6 * q' + k')) = σ.1 105 (24 * 5 + σ.1 101 (108 * 5 + 36 * l' + 6 * q' + k')) := by
      intro l' q' k' x1 x2 x3 x4 x5 x6 z
      have hne : ¬ (l' = l ∧ q' = q ∧ k' = k) := fun y => z (by rw [y.1, y.2.1, y.2.2]; exact hno)
      obtain ⟨y1, y2, y3⟩ := (c l' q' k' x1 x2 x3 x4 x5 x6).2 z
      refine ⟨hne, ?_⟩
      rw [am_u1_ne (by omega)]
      exact h105 _ (by rw [List.mem_singleton]; omega)
    have he5 : ∀ q' : Int, 0 ≤ q' → q' < 6 → pm_eX P q' ≠ none → τ.1 105 (24 * 5 + σ.1 102 (6 * 5 + q')) = σ.1 105 (24 * 5 + σ.1 102 (6 * 5 + q')) := by
      intro q' x1 x2 z
      have := e q' x1 x2
      cases hh : pm_eX P q' with
      | none => exact absurd hh z
      | some w =>
        rw [hh] at this
        obtain ⟨y1, y2, y3⟩ := (show 0 ≤ σ.1 102 (6 * 5 + q') ∧ σ.1 102 (6 * 5 + q') < pm_n P ∧ rm_X σ 5 (3 * σ.1 102 (6 * 5 + q')) w from this)
        exact h105 _ (by rw [List.mem_singleton]; omega)
    have hnw : τ.1 105 (24 * 5 + am_u1 (σ.1 101) (108 * 5 + 36 * l + 6 * q + k) (pm_n P) (108 * 5 + 36 * l + 6 * q + k)) = own := by
      rw [am_u1_eq]
      exact hown
    refine ⟨fun l' q' k' x1 x2 x3 x4 x5 x6 z => ?_, fun q' x1 x2 z => ?_, ?_, ?_⟩
    · show 0 ≤ _ ∧ _ ≤ max (pm_mC P) own
      by_cases y : l' = l ∧ q' = q ∧ k' = k
      · rw [y.1, y.2.1, y.2.2, hnw]
        omega
      · have z : pm_cT P l' q' k' ≠ -1 := by
          have z' : pm_u3 (pm_cT P) l q k to l' q' k' ≠ -1 := z
          unfold pm_u3 at z'
          rwa [if_neg y] at z'
        rw [(hc5 l' q' k' x1 x2 x3 x4 x5 x6 z).2]
        have := w1 l' q' k' x1 x2 x3 x4 x5 x6 z
        omega
    · rw [he5 q' x1 x2 z]
      exact w2 q' x1 x2 z
    · show max (pm_mC P) own = 0 ∨ ∃ l' q' k' : Int, (0 ≤ l' ∧ l' < 3) ∧ (0 ≤ q' ∧ q' < 6) ∧ (0 ≤ k' ∧ k' < 6) ∧ pm_u3 (pm_cT P) l q k to l' q' k' ≠ -1 ∧ _ = max (pm_mC P) own
      unfold pm_u3
      by_cases y : own ≤ pm_mC P
      · rcases w3 with h | ⟨l', q', k', x1, x2, x3, x4, x5⟩
        · exact Or.inl (by omega)
        · obtain ⟨y1, y2⟩ := hc5 l' q' k' x1.1 x1.2 x2.1 x2.2 x3.1 x3.2 x4
          exact Or.inr ⟨l', q', k', x1, x2, x3, by rw [if_neg y1]; exact x4, by rw [y2]; omega⟩
      · exact Or.inr ⟨l, q, k, hl, hq, hk, by rw [if_pos ⟨rfl, rfl, rfl⟩]; omega, by rw [hnw]; omega⟩
    · rcases w4 with h | ⟨q', x1, x2, x3⟩
      · exact Or.inl h
      · exact Or.inr ⟨q', x1, x2, by rw [he5 q' x1.1 x1.2 x2]; exact x3⟩
end
