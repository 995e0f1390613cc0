section
theorem rm_T_addC {σ τ : am_D} {P : am_P} {l q k to own : Int} {xs : List (List Int)} (hP : pm_ok P) (hT : rm_T σ 5 P) (hl : 0 ≤ l ∧ l < 3) (hq : 0 ≤ q ∧ q < 6) (hk : 0 ≤ k ∧ k < 6) (ho : 0 ≤ own) (h94 : τ.1 94 = σ.1 94) (h95 : τ.1 95 = σ.1 95) (h98 : τ.1 98 = σ.1 98) (h99 : τ.1 99 = σ.1 99) (h100 : τ.1 100 = am_u1 (σ.1 100) (108 * 5 + 36 * l + 6 * q + k) to) (h101 : τ.1 101 = am_u1 (σ.1 101) (108 * 5 + 36 * l + 6 * q + k) (pm_n P)) (h102 : τ.1 102 = σ.1 102) (h97 : 0 ≤ τ.1 97 5 ∧ τ.1 97 5 ≤ 18 * (pm_n P + 1)) (h105 : am_kpt [120 + pm_n P] (σ.1 105) (τ.1 105)) (hown : τ.1 105 (120 + pm_n P) = own) (hx : ∀ e w, e < 3 * pm_n P → rm_X σ 5 e w → rm_X τ 5 e w) (hn : ∀ i : Nat, i < xs.length → rm_X τ 5 (3 * pm_n P + i) (xs.getD i [])) : rm_T τ 5 (pm_addC P l q k to xs own) := by
  obtain ⟨⟨a0, a1⟩, b, c, e, g, o1, o2⟩ := hT
  obtain ⟨⟨pS1, pS2⟩, ⟨pR1, pR2⟩, ⟨pn1, pn2, pn3, pn4⟩, pc, pe, poT, poM, pcT⟩ := id hP
  have hn1 : pm_n (pm_addC P l q k to xs own) = pm_n P + 1 := by show pm_nO P + (pm_nC P + 1) + pm_nE P = pm_nO P + pm_nC P + pm_nE P + 1; omega
  have pnv : pm_n P = pm_nO P + pm_nC P + pm_nE P := rfl
  have hmx : max (pm_mC (pm_addC P l q k to xs own)) (pm_mE (pm_addC P l q k to xs own)) = max (max (pm_mC P) (pm_mE P)) own := by show max (max (pm_mC P) own) (pm_mE P) = _; omega
  unfold rm_T
  rw [hn1, hmx, h94, h95, h98, h99, h100, h101, h102]
  refine ⟨⟨a0, a1⟩, b, ?_, ?_, h97, ?_, ?_⟩
  · intro l' q' k' x1 x2 x3 x4 x5 x6
    show am_u1 (σ.1 100) (108 * 5 + 36 * l + 6 * q + k) to (108 * 5 + 36 * l' + 6 * q' + k') = pm_u3 (pm_cT P) l q k to l' q' k' ∧ (pm_u3 (pm_cT P) l q k to l' q' k' ≠ -1 → 0 ≤ am_u1 (σ.1 101) (108 * 5 + 36 * l + 6 * q + k) (pm_n P) (108 * 5 + 36 * l' + 6 * q' + k') ∧ am_u1 (σ.1 101) (108 * 5 + 36 * l + 6 * q + k) (pm_n P) (108 * 5 + 36 * l' + 6 * q' + k') < pm_n P + 1 ∧ ∀ i : Nat, i < (pm_u3 (pm_cX P) l q k xs l' q' k').length → rm_X τ 5 (3 * am_u1 (σ.1 101) (108 * 5 + 36 * l + 6 * q + k) (pm_n P) (108 * 5 + 36 * l' + 6 * q' + k') + i) ((pm_u3 (pm_cX P) l q k xs l' q' k').getD i []))
    unfold pm_u3
    by_cases z : l' = l ∧ q' = q ∧ k' = k
    · rw [if_pos z, if_pos z, z.1, z.2.1, z.2.2, am_u1_eq, am_u1_eq]
      exact ⟨rfl, fun _ => ⟨by omega, by omega, hn⟩⟩
    · rw [if_neg z, if_neg z, am_u1_ne (by omega), am_u1_ne (by omega)]
      refine ⟨(c l' q' k' x1 x2 x3 x4 x5 x6).1, fun z => ?_⟩
      obtain ⟨y1, y2, y3⟩ := (c l' q' k' x1 x2 x3 x4 x5 x6).2 z
      have hlen := (pcT l' q' k').2.2 z
      refine ⟨y1, by omega, fun i hi => hx _ _ (by omega) (y3 i hi)⟩
  · intro q' x1 x2
    have := e q' x1 x2
    cases hh : pm_eX P q' with
    | none =>
      rw [hh] at this
      show rm_XE τ 5 (pm_n P + 1) _ (pm_eX P q')
      rw [hh]
      exact this
    | some w =>
      rw [hh] at this
      obtain ⟨y1, y2, y3⟩ := (show 0 ≤ σ.1 102 (6 * 5 + q') ∧ σ.1 102 (6 * 5 + q') < pm_n P ∧ rm_X σ 5 (3 * σ.1 102 (6 * 5 + q')) w from this)
      show rm_XE τ 5 (pm_n P + 1) _ (pm_eX P q')
      rw [hh]
      exact ⟨y1, by omega, hx _ _ (by omega) y3⟩
  · intro rl r0 r1
    by_cases z : rl = pm_n P
    · rw [z, show (24 : Int) * 5 + pm_n P = 120 + pm_n P by omega, hown]
      omega
    · have := o1 rl r0 (by omega)
      rw [h105 _ (by simp; omega)]
      omega
  · by_cases z : own ≤ max (pm_mC P) (pm_mE P)
    · rcases o2 with h | ⟨rl, r0, r1, r2⟩
      · exact Or.inl (by omega)
      · refine Or.inr ⟨rl, r0, by omega, ?_⟩
        rw [h105 _ (by simp; omega)]
        omega
    · exact Or.inr ⟨pm_n P, by omega, by omega, by rw [show (24 : Int) * 5 + pm_n P = 120 + pm_n P by omega, hown]; omega⟩
end
