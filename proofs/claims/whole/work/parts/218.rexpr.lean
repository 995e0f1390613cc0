section
/-! An EXPRESSION's text, read by the reference. -/
theorem sl_ex_fuel {bs : Int → Int} {n rg : Int} {stk : Bool} : ∀ (f g : Nat) (p dp own : Int) (seen acc : List Int), p ≤ n → n - p < f → n - p < g → sl_ex bs n rg stk f p dp own seen acc = sl_ex bs n rg stk g p dp own seen acc := by
  intro f
  induction f with
  | zero => intro g p dp own seen acc h1 h2; omega
  | succ f ih =>
    intro g p dp own seen acc h1 h2 h3
    cases g with
    | zero => omega
    | succ g =>
      unfold sl_ex
      have hin := tk_in (bs := bs) h1
      have hin2 := tk_in (bs := bs) (n := n) (p := tk_sp bs n p) (by omega)
      by_cases h60 : tk_k bs n p = 60
      · have hlt := tk_lt (bs := bs) (n := n) (p := p) (by omega)
        rw [if_pos h60, if_pos h60, ih g (tk_sp bs n (tk_sp bs n p)) _ _ _ _ (by omega) (by omega) (by omega)]
      · rw [if_neg h60, if_neg h60]
        by_cases h62 : tk_k bs n p = 62 ∧ 0 < dp
        · have hlt := tk_lt (bs := bs) (n := n) (p := p) (by omega)
          rw [if_pos h62, if_pos h62, ih g (tk_sp bs n p) _ _ _ _ (by omega) (by omega) (by omega)]
        · rw [if_neg h62, if_neg h62]
          by_cases hw : sl_w1 bs n 120 p = true ∨ (stk = true ∧ sl_w1 bs n 121 p = true)
          · have hkw : tk_k bs n p = 97 := by
              rcases hw with z | ⟨-, z⟩ <;> (unfold sl_w1 at z; simp at z; exact z.1)
            have hlt := tk_lt (bs := bs) (n := n) (p := p) (by omega)
            rw [if_pos hw, if_pos hw, ih g (tk_sp bs n (tk_sp bs n p)) _ _ _ _ (by omega) (by omega) (by omega)]
          · rw [if_neg hw, if_neg hw]
def sl_X (bs : Int → Int) (n rg : Int) (stk : Bool) (p dp own : Int) (seen acc : List Int) : Int ⊕ (Int × (Int × (List Int × List Int))) := sl_ex bs n rg stk 700 p dp own seen acc
theorem sl_X_eq {bs : Int → Int} {n rg p dp own : Int} {stk : Bool} {seen acc : List Int} (h0 : 0 ≤ p) (h1 : p ≤ n) (hn : n ≤ 600) : sl_X bs n rg stk p dp own seen acc = (
    if tk_k bs n p = 60 then
      (if 6 ≤ own then .inl (5 + 8 * tk_st bs n p)
       else if sl_let bs n (tk_sp bs n p) = -1 then .inl (1 + 8 * tk_st bs n (tk_sp bs n p))
       else sl_X bs n rg stk (tk_sp bs n (tk_sp bs n p)) (dp + 1) (own + 1) seen (acc ++ [sl_let bs n (tk_sp bs n p)]))
    else if tk_k bs n p = 62 ∧ 0 < dp then sl_X bs n rg stk (tk_sp bs n p) (dp - 1) own seen (acc ++ [3])
    else if sl_w1 bs n 120 p = true ∨ (stk = true ∧ sl_w1 bs n 121 p = true) then
      (if sl_dig bs n 0 (rg - 1) (tk_sp bs n p) < 0 then .inl (-(sl_dig bs n 0 (rg - 1) (tk_sp bs n p)) + 8 * tk_st bs n (tk_sp bs n p))
       else if (if sl_w1 bs n 120 p = true then 4 else 8) + sl_dig bs n 0 (rg - 1) (tk_sp bs n p) ∈ seen then .inl (4 + 8 * tk_st bs n (tk_sp bs n p))
       else sl_X bs n rg stk (tk_sp bs n (tk_sp bs n p)) dp own (((if sl_w1 bs n 120 p = true then 4 else 8) + sl_dig bs n 0 (rg - 1) (tk_sp bs n p)) :: seen) (acc ++ [(if sl_w1 bs n 120 p = true then 4 else 8) + sl_dig bs n 0 (rg - 1) (tk_sp bs n p)]))
    else if 0 < dp then .inl (1 + 8 * tk_st bs n p)
    else .inr (p, own, seen, acc)) := by
  unfold sl_X
  rw [sl_ex_fuel 700 701 p dp own seen acc h1 (by omega) (by omega)]
  rfl
/-- the reference's sign for a sign of an EXPRESSION -/
def rx_c (x : Int) : Int := if x < 4 then x else if x < 8 then x + 6 else x + 12
def rx_seen (s : Int) (seen : List Int) : Prop := 0 ≤ s ∧ s ≤ 2147483647 ∧ ∀ v : Nat, v < 3 → ((am_bt s v = true ↔ (4 + v : Int) ∈ seen) ∧ (am_bt s (v + 3) = true ↔ (8 + v : Int) ∈ seen))
/-- while the reference reads an EXPRESSION of RULE rl (σ: as it was ahead of it) -/
def rx_D (σ : am_D) (rl B p dp own : Int) (seen acc : List Int) (τ : am_D) : Prop :=
  (am_only [91, 97, 105, 106] σ τ ∧ rg (σ.1 92) (σ.1 91 3) (τ.1 91) p ∧ am_kpt [2, 4, 5, 6, 21] (σ.1 91) (τ.1 91)) ∧ (τ.1 105 (120 + rl) = own ∧ am_kpt [120 + rl] (σ.1 105) (τ.1 105) ∧ 0 ≤ own ∧ own ≤ 6 ∧ rx_seen (τ.1 91 21) seen) ∧ (am_kpt [5] (σ.1 97) (τ.1 97) ∧ τ.1 97 5 = σ.1 97 5 + acc.length) ∧ (∀ i : Nat, i < acc.length → τ.1 106 (3000 + σ.1 97 5 + i) = rx_c (acc.getD i 0)) ∧ (∀ j : Int, j < 3000 + σ.1 97 5 → τ.1 106 j = σ.1 106 j) ∧ τ.1 97 5 + 2 * (6 - own) + dp + sl_rem seen ≤ B
def rx_F (σ : am_D) (rl dp F : Int) (τ : am_D) : Prop :=
  (am_only [91, 97, 105, 106] σ τ ∧ rh (σ.1 92) (τ.1 91) F ∧ am_kpt [2, 4, 5, 6, 21] (σ.1 91) (τ.1 91)) ∧ am_kpt [120 + rl] (σ.1 105) (τ.1 105) ∧ (am_kpt [5] (σ.1 97) (τ.1 97) ∧ 0 ≤ τ.1 97 5 ∧ τ.1 97 5 + dp ≤ 520) ∧ (∀ j : Int, j < 3000 → τ.1 106 j = σ.1 106 j)
variable {G : am_G} {σ : am_D}
theorem c_emits (d : Nat) {x : Int} (h : 0 ≤ σ.1 97 5 ∧ σ.1 97 5 < 600) : am_MV G (d + 1) mX11_emits [am_r (some 91), am_i x] σ (fun σ' => σ' = am_pI (am_pI σ 106 (3000 + σ.1 97 5) x) 97 5 (σ.1 97 5 + 1)) := by
  refine am_M.go (by decide) (Nat.le_of_ble_eq_true rfl) rfl ?_
  refine S_X11_emits_0 (by omega) (by omega) ?_
  have r : (am_pI σ 106 (3000 + σ.1 97 5) x).1 97 5 = σ.1 97 5 := by rw [am_pI_of (by decide)]
  refine S_X11_emits_16 ?_
  rw [r]
  exact S_X11_emits_26 rfl
theorem am_andbit {s : Int} (v : Nat) (hs : 0 ≤ s ∧ s ≤ 2147483647) (hv : v < 31) : (am_and s (am_shl 1 v) = 0 ↔ am_bt s v = false) ∧ 0 ≤ am_and s (am_shl 1 v) ∧ am_and s (am_shl 1 v) ≤ 2147483647 := by
  have hp : 2 ^ v ≤ 2 ^ 30 := Nat.pow_le_pow_right (by decide) (by omega)
  have hp0 : 0 < 2 ^ v := Nat.pow_pos (by decide)
  rw [am_shl_v v (by omega) (by omega) (by omega), Int.one_mul, am_and_nn (by omega) (by omega), Int.toNat_natCast]
  have hle : s.toNat &&& 2 ^ v ≤ 2 ^ v := Nat.and_le_right
  unfold am_bt
  refine ⟨⟨fun z => ?_, fun z => ?_⟩, by omega, by omega⟩
  · have z : s.toNat &&& 2 ^ v = 0 := by omega
    have := congrArg (fun x : Nat => x.testBit v) z
    simp only [Nat.testBit_and, Nat.testBit_two_pow, Nat.zero_testBit] at this
    simpa using this
  · have : s.toNat &&& 2 ^ v = 0 := by
      apply Nat.eq_of_testBit_eq
      intro i
      rw [Nat.testBit_and, Nat.testBit_two_pow, Nat.zero_testBit]
      by_cases e : v = i
      · rw [← e, z]; rfl
      · rw [decide_eq_false e, Bool.and_false]
    omega
theorem rg_u1 {ts u : Int → Int} {n p k x : Int} (hk : 7 ≤ k) (h : rg ts n u p) : rg ts n (am_u1 u k x) p := by
  unfold rg rf_ok rf_atp at h ⊢
  rw [am_u1_ne (show (2 : Int) ≠ k by omega), am_u1_ne (show (3 : Int) ≠ k by omega), am_u1_ne (show (4 : Int) ≠ k by omega), am_u1_ne (show (5 : Int) ≠ k by omega), am_u1_ne (show (6 : Int) ≠ k by omega)]
  exact h
theorem rx_D.came {rl B p dp own x : Int} {seen seen' acc : List Int} {τ : am_D} (h : rx_D σ rl B p dp own seen acc τ) (hs : rx_seen x seen') (hB : sl_rem seen' ≤ sl_rem seen) : rx_D σ rl B p dp own seen' acc (am_pI τ 91 21 x) := by
  obtain ⟨⟨a1, a2, a3⟩, ⟨b1, b2, b3, b4, b5⟩, ⟨c1, c2⟩, e1, e2, e3⟩ := h
  have f0 : ∀ a, a ≠ 91 → (am_pI τ 91 21 x).1 a = τ.1 a := fun a ha => am_pI_of ha
  have f1 : (am_pI τ 91 21 x).1 91 = am_u1 (τ.1 91) 21 x := am_pI_row
  unfold rx_D
  rw [f1, f0 105 (by decide), f0 97 (by decide), f0 106 (by decide)]
  exact ⟨⟨a1.trans (am_only.pI (by simp)), rg_u1 (by decide) a2, a3.trans (am_kpt.u1 (by decide))⟩, ⟨b1, b2, b3, b4, by rw [am_u1_eq]; exact hs⟩, ⟨c1, c2⟩, e1, e2, by omega⟩
theorem rx_D.tok {rl B p p' dp own : Int} {seen acc : List Int} {τ : am_D} {u : Int → Int} (h : rx_D σ rl B p dp own seen acc τ) (hu : am_kpt rk (τ.1 91) u) (hg : rg (σ.1 92) (σ.1 91 3) u p') : rx_D σ rl B p' dp own seen acc (am_sr τ 91 u) := by
  obtain ⟨⟨a1, a2, a3⟩, ⟨b1, b2, b3, b4, b5⟩, ⟨c1, c2⟩, e1, e2, e3⟩ := h
  have f0 : ∀ a, a ≠ 91 → (am_sr τ 91 u).1 a = τ.1 a := fun a ha => am_sr_of ha
  have f1 : (am_sr τ 91 u).1 91 = u := am_sr_at
  unfold rx_D
  rw [f1, f0 105 (by decide), f0 97 (by decide), f0 106 (by decide)]
  exact ⟨⟨a1.trans (am_only.sr (by simp)), hg, fun j hj => by rw [hu j (fun z => hj (by revert z; simp; omega)), a3 j hj]⟩, ⟨b1, b2, b3, b4, by rw [hu 21 (by decide)]; exact b5⟩, ⟨c1, c2⟩, e1, e2, e3⟩
theorem rx_D.fault {rl B p dp own F : Int} {seen acc : List Int} {τ : am_D} {u : Int → Int} (hB : B ≤ 520) (h0 : 0 ≤ σ.1 97 5) (h : rx_D σ rl B p dp own seen acc τ) (hu : am_kpt rk (τ.1 91) u) (hg : rh (σ.1 92) u F) : rx_F σ rl dp F (am_sr τ 91 u) := by
  obtain ⟨⟨a1, a2, a3⟩, ⟨b1, b2, b3, b4, b5⟩, ⟨c1, c2⟩, e1, e2, e3⟩ := h
  have f0 : ∀ a, a ≠ 91 → (am_sr τ 91 u).1 a = τ.1 a := fun a ha => am_sr_of ha
  have f1 : (am_sr τ 91 u).1 91 = u := am_sr_at
  have hrem := sl_rem_rg seen
  unfold rx_F
  rw [f1, f0 105 (by decide), f0 97 (by decide), f0 106 (by decide)]
  exact ⟨⟨a1.trans (am_only.sr (by simp)), hg, fun j hj => by rw [hu j (fun z => hj (by revert z; simp; omega)), a3 j hj]⟩, b2, ⟨c1, by omega, by omega⟩, fun j hj => e2 j (by omega)⟩
theorem rx_D.emit {rl B p dp dp' own x : Int} {seen seen' acc : List Int} {τ : am_D} (h0 : 0 ≤ σ.1 97 5) (h : rx_D σ rl B p dp own seen acc τ) (hs : rx_seen (τ.1 91 21) seen') (hB : τ.1 97 5 + 1 + 2 * (6 - own) + dp' + sl_rem seen' ≤ B) : rx_D σ rl B p dp' own seen' (acc ++ [x]) (am_pI (am_pI τ 106 (3000 + τ.1 97 5) (rx_c x)) 97 5 (τ.1 97 5 + 1)) := by
  obtain ⟨⟨a1, a2, a3⟩, ⟨b1, b2, b3, b4, b5⟩, ⟨c1, c2⟩, e1, e2, e3⟩ := h
  have f0 : ∀ a, a ≠ 97 → a ≠ 106 → (am_pI (am_pI τ 106 (3000 + τ.1 97 5) (rx_c x)) 97 5 (τ.1 97 5 + 1)).1 a = τ.1 a := fun a y z => by rw [am_pI_of y, am_pI_of z]
  have f1 : (am_pI (am_pI τ 106 (3000 + τ.1 97 5) (rx_c x)) 97 5 (τ.1 97 5 + 1)).1 97 = am_u1 (τ.1 97) 5 (τ.1 97 5 + 1) := by rw [am_pI_row, am_pI_of (by decide)]
  have f2 : (am_pI (am_pI τ 106 (3000 + τ.1 97 5) (rx_c x)) 97 5 (τ.1 97 5 + 1)).1 106 = am_u1 (τ.1 106) (3000 + τ.1 97 5) (rx_c x) := by rw [am_pI_of (by decide), am_pI_row]
  have hlen : ((acc ++ [x]).length : Int) = acc.length + 1 := by rw [List.length_append]; rfl
  unfold rx_D
  rw [f0 91 (by decide) (by decide), f0 105 (by decide) (by decide), f1, f2, am_u1_eq]
  refine ⟨⟨(a1.trans (am_only.pI (by simp))).trans (am_only.pI (by simp)), a2, a3⟩, ⟨b1, b2, b3, b4, hs⟩, ⟨c1.trans (am_kpt.u1 (by decide)), by omega⟩, fun i hi => ?_, fun j hj => ?_, hB⟩
  · by_cases z : i = acc.length
    · subst z
      rw [show (3000 : Int) + σ.1 97 5 + acc.length = 3000 + τ.1 97 5 by omega, am_u1_eq, List.getD_eq_getElem?_getD, List.getElem?_append_right (Nat.le_refl _), Nat.sub_self]
      rfl
    · rw [am_u1_ne (by omega), e1 i (by omega), List.getD_eq_getElem?_getD, List.getD_eq_getElem?_getD, List.getElem?_append_left (by omega)]
  · rw [am_u1_ne (by omega)]
    exact e2 j hj
theorem c_rRegister (d : Nat) {rl B p dp own s kd : Int} {seen acc : List Int} {τ : am_D} (h0 : 0 ≤ σ.1 97 5) (hB : B ≤ 520) (hrg : 1 ≤ σ.1 95 5 ∧ σ.1 95 5 ≤ 3) (hs : (s = 0 ∧ kd = 4) ∨ (s = 1 ∧ kd = 8)) (hdp : 0 ≤ dp) (hD : rx_D σ rl B p dp own seen acc τ) : am_MV G (d + 4) mX11_register [am_r (some 91), am_i s] τ (fun σ' => (sl_dig (σ.1 92) (σ.1 91 3) 0 (σ.1 95 5 - 1) (tk_sp (σ.1 92) (σ.1 91 3) p) < 0 ∧ rx_F σ rl dp (-(sl_dig (σ.1 92) (σ.1 91 3) 0 (σ.1 95 5 - 1) (tk_sp (σ.1 92) (σ.1 91 3) p)) + 8 * tk_st (σ.1 92) (σ.1 91 3) (tk_sp (σ.1 92) (σ.1 91 3) p)) σ') ∨ (0 ≤ sl_dig (σ.1 92) (σ.1 91 3) 0 (σ.1 95 5 - 1) (tk_sp (σ.1 92) (σ.1 91 3) p) ∧ kd + sl_dig (σ.1 92) (σ.1 91 3) 0 (σ.1 95 5 - 1) (tk_sp (σ.1 92) (σ.1 91 3) p) ∈ seen ∧ rx_F σ rl dp (4 + 8 * tk_st (σ.1 92) (σ.1 91 3) (tk_sp (σ.1 92) (σ.1 91 3) p)) σ') ∨ (0 ≤ sl_dig (σ.1 92) (σ.1 91 3) 0 (σ.1 95 5 - 1) (tk_sp (σ.1 92) (σ.1 91 3) p) ∧ kd + sl_dig (σ.1 92) (σ.1 91 3) 0 (σ.1 95 5 - 1) (tk_sp (σ.1 92) (σ.1 91 3) p) ∉ seen ∧ rx_D σ rl B (tk_sp (σ.1 92) (σ.1 91 3) (tk_sp (σ.1 92) (σ.1 91 3) p)) dp own ((kd + sl_dig (σ.1 92) (σ.1 91 3) 0 (σ.1 95 5 - 1) (tk_sp (σ.1 92) (σ.1 91 3) p)) :: seen) (acc ++ [kd + sl_dig (σ.1 92) (σ.1 91 3) 0 (σ.1 95 5 - 1) (tk_sp (σ.1 92) (σ.1 91 3) p)]) σ')) := by
  obtain ⟨ts, hts⟩ : ∃ ts, σ.1 92 = ts := ⟨_, rfl⟩
  obtain ⟨n, hn⟩ : ∃ n, σ.1 91 3 = n := ⟨_, rfl⟩
  generalize hQ : (fun σ' : am_D => (sl_dig (σ.1 92) (σ.1 91 3) 0 (σ.1 95 5 - 1) (tk_sp (σ.1 92) (σ.1 91 3) p) < 0 ∧ rx_F σ rl dp (-(sl_dig (σ.1 92) (σ.1 91 3) 0 (σ.1 95 5 - 1) (tk_sp (σ.1 92) (σ.1 91 3) p)) + 8 * tk_st (σ.1 92) (σ.1 91 3) (tk_sp (σ.1 92) (σ.1 91 3) p)) σ') ∨ (0 ≤ sl_dig (σ.1 92) (σ.1 91 3) 0 (σ.1 95 5 - 1) (tk_sp (σ.1 92) (σ.1 91 3) p) ∧ kd + sl_dig (σ.1 92) (σ.1 91 3) 0 (σ.1 95 5 - 1) (tk_sp (σ.1 92) (σ.1 91 3) p) ∈ seen ∧ rx_F σ rl dp (4 + 8 * tk_st (σ.1 92) (σ.1 91 3) (tk_sp (σ.1 92) (σ.1 91 3) p)) σ') ∨ (0 ≤ sl_dig (σ.1 92) (σ.1 91 3) 0 (σ.1 95 5 - 1) (tk_sp (σ.1 92) (σ.1 91 3) p) ∧ kd + sl_dig (σ.1 92) (σ.1 91 3) 0 (σ.1 95 5 - 1) (tk_sp (σ.1 92) (σ.1 91 3) p) ∉ seen ∧ rx_D σ rl B (tk_sp (σ.1 92) (σ.1 91 3) (tk_sp (σ.1 92) (σ.1 91 3) p)) dp own ((kd + sl_dig (σ.1 92) (σ.1 91 3) 0 (σ.1 95 5 - 1) (tk_sp (σ.1 92) (σ.1 91 3) p)) :: seen) (acc ++ [kd + sl_dig (σ.1 92) (σ.1 91 3) 0 (σ.1 95 5 - 1) (tk_sp (σ.1 92) (σ.1 91 3) p)]) σ')) = Q
  rw [hts, hn] at hQ
  obtain ⟨⟨a1, a2, a3⟩, -, -⟩ := id hD
  have q92 : τ.1 92 = σ.1 92 := a1.1 92 (by decide)
  have q95 : τ.1 95 = σ.1 95 := a1.1 95 (by decide)
  refine am_M.go (by decide) (Nat.le_of_ble_eq_true rfl) rfl ?_
  refine S_X11_register_0 (r_goes _ q92 a2) ?_
  rintro _ ⟨u, rfl, hu, hg⟩
  have hD1 := hD.tok hu hg
  generalize am_sr τ 91 u = τ1 at hD1 ⊢
  obtain ⟨⟨a1, a2, a3⟩, ⟨b1, b2, b3, b4, b5⟩, ⟨c1, c2⟩, e1, e2, e3⟩ := id hD1
  have q92 : τ1.1 92 = σ.1 92 := a1.1 92 (by decide)
  have q95 : τ1.1 95 = σ.1 95 := a1.1 95 (by decide)
  have hrem := sl_rem_rg seen
  refine S_X11_register_4 (r_digit _ (by omega) (by rw [q95]; omega) q92 a2) ?_
  intro r τ2 hr
  rw [q95, hts, hn] at hr
  -- behind a FAULT
  have FF : ∀ (τ2 : am_D) (F r v : Int), rx_F σ rl dp F τ2 → Q τ2 → am_X (am_FV G (d + 4) Q) mX11_register (0, 0) 53 [some (am_r (some 91)), some (am_i s), some (am_i r), some (am_i v)] [] (am_K0, τ2) := by
    intro τ2 F r v hF hQ2
    refine S_X11_register_53 (h_isGood _ hF.1.2.1) ?_
    rintro _ _ ⟨rfl, rfl⟩
    refine S_X11_register_57 (by decide) (fun z => absurd rfl z) (fun _ => ?_)
    exact S_X11_register_60 hQ2
  have G18 : ∀ (τ2 : am_D) (r : Int), (∀ w : Nat, (w : Int) = r + (if s = 0 then 0 else 3) → am_X (am_FV G (d + 4) Q) mX11_register (0, 0) 32 [some (am_r (some 91)), some (am_i s), some (am_i r), some (am_i (am_shl 1 (w : Int)))] [] (am_K0, τ2)) → 0 ≤ r ∧ r ≤ 2 → am_X (am_FV G (d + 4) Q) mX11_register (0, 0) 18 [some (am_r (some 91)), some (am_i s), some (am_i r), none] [] (am_K0, τ2) := by
    intro τ2 r hk hr
    refine S_X11_register_18 (by omega) (fun z => ?_) (fun z => ?_)
    · refine S_X11_register_28 ?_
      refine S_X11_register_29 ?_
      have := hk r.toNat (by rw [if_pos z]; omega)
      rw [show ((r.toNat : Nat) : Int) = r + 0 by omega] at this
      exact this
    · refine S_X11_register_24 ?_
      refine S_X11_register_29 ?_
      have := hk (r + 3).toNat (by rw [if_neg z]; omega)
      rw [show (((r + 3).toNat : Nat) : Int) = r + 3 by omega] at this
      exact this
  rcases hr with ⟨r1, r2, u, rfl, hu, hF⟩ | ⟨r1, r2, r3, rfl⟩
  · have hF' := hD1.fault hB h0 hu (by rw [hts]; exact hF)
    refine G18 _ r (fun w _ => ?_) (by omega)
    refine S_X11_register_32 (h_isGood _ hF'.1.2.1) ?_
    rintro _ _ ⟨rfl, rfl⟩
    refine S_X11_register_36 (by decide) (fun _ => ?_) (fun z => absurd rfl z)
    exact FF _ _ _ _ hF' (by rw [← hQ]; exact Or.inl ⟨r2, hF'⟩)
  · refine G18 _ r (fun w hw => ?_) (by omega)
    have hw6 : w < 6 := by split at hw <;> omega
    have hbit := am_andbit (s := τ1.1 91 21) w ⟨b5.1, b5.2.1⟩ (by omega)
    have hor := am_orbit (s := τ1.1 91 21) w ⟨b5.1, b5.2.1⟩ (by omega)
    have hmem : am_bt (τ1.1 91 21) w = true ↔ kd + r ∈ seen := by
      rcases hs with ⟨s1, k1⟩ | ⟨s1, k1⟩
      · rw [if_pos s1] at hw
        have := (b5.2.2 w (by omega)).1
        rw [show kd + r = (4 : Int) + w by omega]
        exact this
      · rw [if_neg (by omega)] at hw
        have := (b5.2.2 (w - 3) (by omega)).2
        rw [show w - 3 + 3 = w by omega] at this
        rw [show kd + r = (8 : Int) + ((w - 3 : Nat) : Int) by omega]
        exact this
    refine S_X11_register_32 (r_isGood _ a2) ?_
    rintro _ _ ⟨rfl, rfl⟩
    refine S_X11_register_36 (by decide) (fun z => absurd z (by decide)) (fun _ => ?_)
    refine S_X11_register_39 (by omega) (fun z => ?_) (fun z => ?_)
    rotate_left
    · have hin : kd + r ∈ seen := hmem.mp (by
        cases hb : am_bt (τ1.1 91 21) w with
        | true => rfl
        | false => exact absurd (hbit.1.mpr hb) z)
      refine S_X11_register_48 (r_fails _ (by omega) q92 a2) ?_
      rintro _ ⟨u, rfl, hu, hF⟩
      have hF' := hD1.fault hB h0 hu hF
      rw [hts, hn] at hF'
      exact FF _ _ _ _ hF' (by rw [← hQ]; exact Or.inr (Or.inl ⟨by omega, by rw [← r1]; exact hin, hF'⟩))
    · have hnb := hbit.1.mp z
      have hnin : kd + r ∉ seen := fun y => by rw [hmem.mpr y] at hnb; exact nomatch hnb
      refine S_X11_register_53 (r_isGood _ a2) ?_
      rintro _ _ ⟨rfl, rfl⟩
      refine S_X11_register_57 (by decide) (fun _ => ?_) (fun z => absurd (by decide) z)
      refine S_X11_register_61 ?_
      have hsn : rx_seen (am_or (τ1.1 91 21) (am_shl 1 (w : Int))) ((kd + r) :: seen) := by
        refine ⟨hor.1, hor.2.1, fun v hv => ?_⟩
        rw [hor.2.2, hor.2.2, Bool.or_eq_true, Bool.or_eq_true, decide_eq_true_eq, decide_eq_true_eq, List.mem_cons, List.mem_cons, (b5.2.2 v hv).1, (b5.2.2 v hv).2]
        rcases hs with ⟨s1, k1⟩ | ⟨s1, k1⟩
        · rw [if_pos s1] at hw
          exact ⟨⟨fun y => y.elim Or.inr (fun e => Or.inl (by omega)), fun y => y.elim (fun e => Or.inr (by omega)) Or.inl⟩, ⟨fun y => y.elim Or.inr (fun e => absurd e (by omega)), fun y => y.elim (fun e => absurd e (by omega)) Or.inl⟩⟩
        · rw [if_neg (by omega)] at hw
          exact ⟨⟨fun y => y.elim Or.inr (fun e => absurd e (by omega)), fun y => y.elim (fun e => absurd e (by omega)) Or.inl⟩, ⟨fun y => y.elim Or.inr (fun e => Or.inl (by omega)), fun y => y.elim (fun e => Or.inr (by omega)) Or.inl⟩⟩
      have hrc := sl_rem_cons (seen := seen) (v := kd + r) (by omega) hnin
      have hD2 := hD1.came hsn (by omega)
      generalize am_pI τ1 91 21 (am_or (τ1.1 91 21) (am_shl 1 (w : Int))) = τ2 at hD2 ⊢
      have J83 : ∀ c : Int, c + r = rx_c (kd + r) → am_X (am_FV G (d + 4) Q) mX11_register (0, 0) 83 [some (am_r (some 91)), none, some (am_i r), none] [am_i c, am_r (some 91)] (am_K0, τ2) := by
        intro c hc
        obtain ⟨⟨x1, x2, x3⟩, ⟨y1, y2, y3, y4, y5⟩, ⟨z1, z2⟩, w1, w2, w3⟩ := id hD2
        refine S_X11_register_83 (c_emits _ (by omega)) ?_
        rintro _ rfl
        rw [hc]
        have hD3 := hD2.emit (x := kd + r) (dp' := dp) h0 y5 (by omega)
        generalize am_pI (am_pI τ2 106 (3000 + τ2.1 97 5) (rx_c (kd + r))) 97 5 (τ2.1 97 5 + 1) = τ3 at hD3 ⊢
        refine S_X11_register_88 (r_goes _ (hD3.1.1.1 92 (by decide)) hD3.1.2.1) ?_
        rintro _ ⟨u, rfl, hu, hg⟩
        refine S_X11_register_92 ?_
        have hD4 := hD3.tok hu hg
        rw [← hQ, ← r1]
        rw [hts, hn] at hD4
        exact Or.inr (Or.inr ⟨by omega, hnin, hD4⟩)
      refine S_X11_register_71 (by omega) (fun z => ?_) (fun z => ?_)
      · exact S_X11_register_81 (J83 10 (by unfold rx_c; rw [if_neg (by omega), if_pos (by omega)]; omega))
      · exact S_X11_register_76 (J83 20 (by unfold rx_c; rw [if_neg (by omega), if_neg (by omega)]; omega))
end
