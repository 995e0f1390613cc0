section
variable {G : am_G} {σ : am_D}
/-- what an EXPRESSION leaves in the reference -/
def rx_E (σ : am_D) (rl rr B : Int) (R : Int ⊕ (Int × (Int × (List Int × List Int)))) (τ : am_D) : Prop := match R with
  | .inl F => ∃ τ1, rx_F (am_pI σ 103 (360 + 3 * rl + rr) (σ.1 97 5)) rl 0 F τ1 ∧ τ = am_pI τ1 104 (360 + 3 * rl + rr) (τ1.1 97 5)
  | .inr (p', own', seen', acc) => ∃ τ1, rx_D (am_pI σ 103 (360 + 3 * rl + rr) (σ.1 97 5)) rl B p' 0 own' seen' acc τ1 ∧ τ = am_pI τ1 104 (360 + 3 * rl + rr) (τ1.1 97 5)
theorem sl_X_end {bs : Int → Int} {n rg p own : Int} {stk : Bool} {seen acc : List Int} (h0 : 0 ≤ p) (h1 : p ≤ n) (hn : n ≤ 600) (h : ¬ rx_part bs n stk p) : sl_X bs n rg stk p 0 own seen acc = .inr (p, own, seen, acc) := by
  rw [sl_X_eq h0 h1 hn, if_neg (fun z => h (Or.inl z)), if_neg (fun z => absurd z.2 (by omega)), if_neg (fun z => h (Or.inr z)), if_neg (by omega)]
theorem c_rExpression (d : Nat) {rl rr B e p own : Int} {seen : List Int} {stk : Bool} (h0 : 0 ≤ σ.1 97 5) (hB : B ≤ 432) (hn : σ.1 91 3 ≤ 600) (hrl : 0 ≤ rl ∧ rl < 24) (hrr : 0 ≤ rr ∧ rr < 3) (hrg : 1 ≤ σ.1 95 5 ∧ σ.1 95 5 ≤ 3) (he : (e = 0 ∧ stk = true) ∨ (e = 1 ∧ stk = false)) (hg : rg (σ.1 92) (σ.1 91 3) (σ.1 91) p) (hown : σ.1 105 (120 + rl) = own) (ho : 0 ≤ own ∧ own ≤ 6) (hs : rx_seen (σ.1 91 21) seen) (hBd : σ.1 97 5 + 2 * (6 - own) + sl_rem seen ≤ B) : am_MV G (d + 21) mX11_expression [am_r (some 91), am_i rl, am_i rr, am_i e] σ (fun σ' => rx_E σ rl rr B (sl_ex (σ.1 92) (σ.1 91 3) (σ.1 95 5) stk 700 p 0 own seen []) σ') := by
  refine am_M.go (by decide) (Nat.le_of_ble_eq_true rfl) rfl ?_
  refine S_X11_expression_0 (by omega) (by omega) ?_
  have f0 : ∀ a, a ≠ 103 → (am_pI σ 103 (360 + 3 * rl + rr) (σ.1 97 5)).1 a = σ.1 a := fun a ha => am_pI_of ha
  have hD : rx_D (am_pI σ 103 (360 + 3 * rl + rr) (σ.1 97 5)) rl B p 0 own seen [] (am_pI σ 103 (360 + 3 * rl + rr) (σ.1 97 5)) := by
    unfold rx_D
    rw [f0 92 (by decide), f0 91 (by decide), f0 105 (by decide), f0 97 (by decide), f0 106 (by decide)]
    exact ⟨⟨am_only.rfl', hg, am_kpt.rfl'⟩, ⟨hown, am_kpt.rfl', ho.1, ho.2, hs⟩, ⟨am_kpt.rfl', by show _ = _ + ((0 : Nat) : Int); omega⟩, fun i hi => absurd hi (Nat.not_lt_zero _), fun _ _ => rfl, by omega⟩
  have hp := c_rParts (G := G) (σ := am_pI σ 103 (360 + 3 * rl + rr) (σ.1 97 5)) (rl := rl) (B := B) (e := e) (stk := stk) (by rw [f0 97 (by decide)]; exact h0) hB (by rw [f0 91 (by decide)]; exact hn) hrl (by rw [f0 95 (by decide)]; exact hrg) he 6 d p 0 own seen [] _ (by omega) (by omega) hD
  unfold rx_Q at hp
  rw [f0 92 (by decide), f0 91 (by decide), f0 95 (by decide)] at hp
  rw [show d + 2 * 6 + 8 = d + 20 by omega] at hp
  refine S_X11_expression_20 hp ?_
  rintro τ (⟨F, hXF, hF⟩ | ⟨p', own', seen', acc', hp', ho', hX', hD', hno⟩)
  · refine S_X11_expression_26 (by omega) (by omega) ?_
    refine S_X11_expression_46 ?_
    have e1 : sl_ex (σ.1 92) (σ.1 91 3) (σ.1 95 5) stk 700 p 0 own seen [] = .inl F := hXF
    rw [e1]
    exact ⟨τ, hF, rfl⟩
  · refine S_X11_expression_26 (by omega) (by omega) ?_
    refine S_X11_expression_46 ?_
    have hpos := hD'.1.2.1.2.2.2.2
    rw [f0 91 (by decide)] at hpos
    have e1 : sl_ex (σ.1 92) (σ.1 91 3) (σ.1 95 5) stk 700 p 0 own seen [] = .inr (p', own', seen', acc') := hX'.trans (sl_X_end hpos.1 hpos.2 hn hno)
    rw [e1]
    exact ⟨τ, hD', rfl⟩
end
