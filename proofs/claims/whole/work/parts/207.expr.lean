section
/-! EXPRESSIONS: what their text tells, and the class's reading of them. -/
/-- one digit from lo to hi behind p: which; -1, -2: the FAULT's kind -/
def sl_dig (bs : Int → Int) (n lo hi p : Int) : Int := if tk_k bs n p = 48 ∧ tk_sp bs n p - tk_st bs n p = 1 then (if lo ≤ bs (tk_st bs n p) - 48 ∧ bs (tk_st bs n p) - 48 ≤ hi then bs (tk_st bs n p) - 48 else -2) else -1
/-- a word of one letter -/
def sl_w1 (bs : Int → Int) (n c p : Int) : Bool := decide (tk_k bs n p = 97 ∧ tk_sp bs n p - tk_st bs n p = 1 ∧ bs (tk_st bs n p) = c)
def sl_ex (bs : Int → Int) (n rg : Int) (stk : Bool) : Nat → Int → Int → Int → List Int → List Int → Int ⊕ (Int × (Int × (List Int × List Int)))
  | 0, p, _, own, seen, acc => .inr (p, own, seen, acc)
  | f + 1, p, dp, own, seen, acc =>
    if tk_k bs n p = 60 then
      (if 6 ≤ own then .inl (5 + 8 * tk_st bs n p)
       else if sl_let bs n (tk_sp bs n p) = -1 then .inl (1 + 8 * tk_st bs n (tk_sp bs n p))
       else sl_ex bs n rg stk f (tk_sp bs n (tk_sp bs n p)) (dp + 1) (own + 1) seen (acc ++ [sl_let bs n (tk_sp bs n p)]))
    else if tk_k bs n p = 62 ∧ 0 < dp then sl_ex bs n rg stk f (tk_sp bs n p) (dp - 1) own seen (acc ++ [3])
    else if sl_w1 bs n 120 p = true ∨ (stk = true ∧ sl_w1 bs n 121 p = true) then
      (if sl_dig bs n 0 (rg - 1) (tk_sp bs n p) < 0 then .inl (-(sl_dig bs n 0 (rg - 1) (tk_sp bs n p)) + 8 * tk_st bs n (tk_sp bs n p))
       else if (if sl_w1 bs n 120 p = true then 4 else 8) + sl_dig bs n 0 (rg - 1) (tk_sp bs n p) ∈ seen then .inl (4 + 8 * tk_st bs n (tk_sp bs n p))
       else sl_ex bs n rg stk f (tk_sp bs n (tk_sp bs n p)) dp own (((if sl_w1 bs n 120 p = true then 4 else 8) + sl_dig bs n 0 (rg - 1) (tk_sp bs n p)) :: seen) (acc ++ [(if sl_w1 bs n 120 p = true then 4 else 8) + sl_dig bs n 0 (rg - 1) (tk_sp bs n p)]))
    else if 0 < dp then .inl (1 + 8 * tk_st bs n p)
    else .inr (p, own, seen, acc)
/-- how many x and y may still come -/
def sl_rem (seen : List Int) : Int := (if 4 ∈ seen then 0 else 1) + (if 5 ∈ seen then 0 else 1) + (if 6 ∈ seen then 0 else 1) + (if 8 ∈ seen then 0 else 1) + (if 9 ∈ seen then 0 else 1) + (if 10 ∈ seen then 0 else 1)
theorem sl_rem_rg (seen : List Int) : 0 ≤ sl_rem seen ∧ sl_rem seen ≤ 6 := by
  unfold sl_rem
  refine ⟨?_, ?_⟩ <;> (repeat' split) <;> omega
theorem sl_rem_cons {seen : List Int} {v : Int} (hv : v = 4 ∨ v = 5 ∨ v = 6 ∨ v = 8 ∨ v = 9 ∨ v = 10) (hn : v ∉ seen) : sl_rem (v :: seen) + 1 = sl_rem seen := by
  unfold sl_rem
  rcases hv with rfl | rfl | rfl | rfl | rfl | rfl <;> simp [hn] <;> omega
theorem tk_dig_at {bs t : Int → Int} {p lo hi : Int} (hk : tk_ok bs t) (h : tk_atp bs t p) : tk_dig bs t lo hi = sl_dig bs (t 1) lo hi p := by
  obtain ⟨h2, h3, h4⟩ := h
  unfold tk_dig sl_dig
  rw [← h2, ← h3, ← h4]
  by_cases hq : t 2 = 48
  · have : t 3 < t 1 := by
      have := (tk_lt (bs := bs) (n := t 1) (p := p) (by rw [← h2]; omega)).1
      omega
    have e : tk_b bs (t 3) = bs (t 3) := if_pos ⟨hk.2.2.2.2.2.1, by have := hk.2.2.1; omega⟩
    rw [e]
  · rw [if_neg (fun z => hq z.1), if_neg (fun z => hq z.1)]
theorem tk_w1_at {bs t : Int → Int} {p c : Int} {i : Nat} (hc : am_chr i = [c]) (hk : tk_ok bs t) (h : tk_atp bs t p) : tk_isw bs t i = sl_w1 bs (t 1) c p := by
  obtain ⟨h2, h3, h4⟩ := h
  unfold tk_isw sl_w1
  rw [hc, ← h2, ← h3, ← h4]
  by_cases hq : t 2 = 97
  · have : t 3 < t 1 := by
      have := (tk_lt (bs := bs) (n := t 1) (p := p) (by rw [← h2]; omega)).1
      omega
    have e : tk_b bs (t 3) = bs (t 3) := if_pos ⟨hk.2.2.2.2.2.1, by have := hk.2.2.1; omega⟩
    rw [decide_eq_true hq]
    by_cases h1 : t 4 - t 3 = 1 <;> by_cases h5 : bs (t 3) = c <;> simp [List.range_succ, e, hq, h1, h5]
  · rw [decide_eq_false hq]
    simp [hq]
/-- EXPRESSION e of the Machine m tells w -/
def cm_X (τ : am_D) (m : Nat) (e : Int) (w : List Int) : Prop := 0 ≤ e ∧ e < τ.1 m 14 ∧ 0 ≤ τ.1 (m + 7) e ∧ τ.1 (m + 7) (e + 1) = τ.1 (m + 7) e + w.length ∧ τ.1 (m + 7) e + w.length ≤ τ.1 m 15 ∧ ∀ i : Nat, i < w.length → τ.1 (m + 6) (τ.1 (m + 7) e + i) = w.getD i 0
abbrev cm_S (m : Nat) : List Nat := [1, 3, m, m + 6, m + 7]
theorem cm_S_ne {m a : Nat} (hm : am_isM m) (ha : a ≤ 42) (h1 : a ≠ 1) (h3 : a ≠ 3) : a ∉ cm_S m := by
  have := hm.1
  simp only [List.mem_cons, List.not_mem_nil, or_false]
  omega
/-- the signs that are known: x and y as bits -/
def cm_seen (s : Int) (seen : List Int) : Prop := 0 ≤ s ∧ s ≤ 2147483647 ∧ ∀ v : Nat, v < 31 → (am_bt s v = true ↔ (v : Int) ∈ seen)
/-- while the class reads an EXPRESSION of Machine m (σ: as it was ahead of it): it looks at the TOKEN behind p; acc came of it -/
def cm_E (σ : am_D) (m : Nat) (B p own : Int) (seen acc : List Int) (dp : Int) (τ : am_D) : Prop :=
  am_only (cm_S m) σ τ ∧ tk_ok (σ.1 2) (τ.1 1) ∧ τ.1 1 1 = σ.1 1 1 ∧ τ.1 3 1 = own ∧ 0 ≤ own ∧ own ≤ 6 ∧ cm_seen (τ.1 3 2) seen ∧ am_kpt [15] (σ.1 m) (τ.1 m) ∧ τ.1 m 15 = σ.1 m 15 + acc.length ∧ (∀ i : Nat, i < acc.length → τ.1 (m + 6) (σ.1 m 15 + i) = acc.getD i 0) ∧ (∀ i : Int, i < σ.1 m 15 → τ.1 (m + 6) i = σ.1 (m + 6) i) ∧ τ.1 (m + 7) = am_u1 (σ.1 (m + 7)) (σ.1 m 14) (σ.1 m 15) ∧ τ.1 m 15 + 2 * (6 - own) + dp + sl_rem seen ≤ B
variable {G : am_G} {σ : am_D}
theorem am_pI_row {σ : am_D} {a : Nat} {k x : Int} : (am_pI σ a k x).1 a = am_u1 (σ.1 a) k x := am_up_eq
theorem cm_at6 {m : Nat} (hm : am_isM m) : am_sh am_SH (m + 6) = (100, 432) := shM6 hm
theorem c_addSign (d : Nat) {m : Nat} {x : Int} (hm : am_isM m) (h0 : 0 ≤ σ.1 m 15) (h1 : σ.1 m 15 < 432) : am_MV G (d + 2) mX2_addSign [am_r (some m), am_i x] σ (fun σ' => σ' = am_pI (am_pI σ (m + 6) (σ.1 m 15) x) m 15 (σ.1 m 15 + 1)) := by
  have hs := shM6 hm
  refine am_M.go (by decide) (Nat.le_of_ble_eq_true rfl) rfl ?_
  refine S_X2_addSign_0 hm (c_put _ hs (by omega)) ?_
  rintro _ rfl
  rw [if_pos (by omega)]
  refine S_X2_addSign_12 hm ?_
  refine S_X2_addSign_22 ?_
  rw [am_pI_of (a := m + 6) (b := m) (by omega)]
theorem c_addSignF (d : Nat) {m : Nat} {x : Int} (hm : am_isM m) (h0 : 0 ≤ σ.1 m 15) (h1 : σ.1 m 15 ≤ 1000) : am_MV G (d + 2) mX2_addSign [am_r (some m), am_i x] σ (fun σ' => (∀ a, a ≠ m → a ≠ m + 6 → σ'.1 a = σ.1 a) ∧ σ'.1 m = am_u1 (σ.1 m) 15 (σ.1 m 15 + 1) ∧ am_only [m, m + 6] σ σ') := by
  have hs := shM6 hm
  refine am_M.go (by decide) (Nat.le_of_ble_eq_true rfl) rfl ?_
  refine S_X2_addSign_0 hm (c_put _ hs (by omega)) ?_
  rintro _ rfl
  refine S_X2_addSign_12 hm ?_
  refine S_X2_addSign_22 ?_
  split
  · refine ⟨fun a h1 h2 => by rw [am_pI_of h1, am_pI_of h2], ?_, (am_only.pI (by simp)).trans (am_only.pI (by simp))⟩
    rw [am_pI_row, am_pI_of (by omega)]
  · exact ⟨fun a h1 h2 => by rw [am_pI_of h1], am_pI_row, am_only.pI (by simp)⟩
/-- a sign more -/
theorem cm_E.sign {m : Nat} {B p own dp x : Int} {seen acc : List Int} {τ : am_D} (hm : am_isM m) (h : cm_E σ m B p own seen acc dp τ) : am_only (cm_S m) σ (am_pI (am_pI τ (m + 6) (τ.1 m 15) x) m 15 (τ.1 m 15 + 1)) ∧ (∀ a, a ≠ m → a ≠ m + 6 → (am_pI (am_pI τ (m + 6) (τ.1 m 15) x) m 15 (τ.1 m 15 + 1)).1 a = τ.1 a) ∧ am_kpt [15] (σ.1 m) ((am_pI (am_pI τ (m + 6) (τ.1 m 15) x) m 15 (τ.1 m 15 + 1)).1 m) ∧ (am_pI (am_pI τ (m + 6) (τ.1 m 15) x) m 15 (τ.1 m 15 + 1)).1 m 15 = σ.1 m 15 + (acc ++ [x]).length ∧ (∀ i : Nat, i < (acc ++ [x]).length → (am_pI (am_pI τ (m + 6) (τ.1 m 15) x) m 15 (τ.1 m 15 + 1)).1 (m + 6) (σ.1 m 15 + i) = (acc ++ [x]).getD i 0) ∧ (∀ i : Int, i < σ.1 m 15 → (am_pI (am_pI τ (m + 6) (τ.1 m 15) x) m 15 (τ.1 m 15 + 1)).1 (m + 6) i = σ.1 (m + 6) i) := by
  obtain ⟨ho, hok, hn, hown, ho0, ho6, hseen, hkp, h15, hacc, hold, h7, hB⟩ := h
  have r6 : (am_pI (am_pI τ (m + 6) (τ.1 m 15) x) m 15 (τ.1 m 15 + 1)).1 (m + 6) = am_u1 (τ.1 (m + 6)) (τ.1 m 15) x := by
    rw [am_pI_of (by omega)]
    show am_up _ _ _ _ _ = _
    rw [am_up_eq]
  have r0 : (am_pI (am_pI τ (m + 6) (τ.1 m 15) x) m 15 (τ.1 m 15 + 1)).1 m = am_u1 (τ.1 m) 15 (τ.1 m 15 + 1) := by
    show am_up _ _ _ _ _ = _
    rw [am_up_eq, am_pI_of (by omega)]
  refine ⟨(ho.trans (am_only.pI (by simp))).trans (am_only.pI (by simp)), fun a h1 h2 => by rw [am_pI_of h1, am_pI_of h2], ?_, ?_, ?_, ?_⟩
  · rw [r0]; exact hkp.trans (am_kpt.u1 (by decide))
  · rw [r0, am_u1_eq, h15, List.length_append]; show _ = σ.1 m 15 + ((acc.length + 1 : Nat) : Int); omega
  · intro i hi
    rw [List.length_append] at hi
    have hi : i < acc.length + 1 := hi
    rw [r6]
    by_cases hie : i = acc.length
    · subst hie
      rw [h15, am_u1_eq, List.getD_eq_getElem?_getD, List.getElem?_append_right (Nat.le_refl _)]
      simp
    · rw [am_u1_ne (by omega), hacc i (by omega), List.getD_eq_getElem?_getD, List.getD_eq_getElem?_getD, List.getElem?_append_left (by omega)]
  · intro i hi
    rw [r6, am_u1_ne (by omega), hold i hi]
/-- what an EXPRESSION's text leaves behind a FAULT -/
def cm_F (σ : am_D) (m : Nat) (F : Int) (τ : am_D) : Prop := am_only (cm_S m) σ τ ∧ tk_ok (σ.1 2) (τ.1 1) ∧ τ.1 1 5 = F ∧ 0 < F ∧ am_kpt [14, 15] (σ.1 m) (τ.1 m) ∧ 0 ≤ τ.1 3 1 ∧ τ.1 3 1 ≤ 7 ∧ 0 ≤ τ.1 m 15 ∧ τ.1 m 15 ≤ 500
/-- .. within it -/
def cm_F0 (σ : am_D) (m : Nat) (F : Int) (τ : am_D) : Prop := cm_F σ m F τ ∧ τ.1 m 14 = σ.1 m 14
theorem c_readElement (d : Nat) {τ : am_D} {m : Nat} {B p own dp : Int} {seen acc : List Int} (hm : am_isM m) (hE : cm_E σ m B p own seen acc dp τ) (hF : τ.1 1 5 = 0) (hat : tk_atp (σ.1 2) (τ.1 1) p) (hp : 0 ≤ p ∧ p ≤ σ.1 1 1) (hs0 : 0 ≤ σ.1 m 15) (hB : B ≤ 432) (hdp : 0 ≤ dp) : am_MV G (d + 4) mX8_readElement [am_r (some 3), am_r (some m)] τ (fun σ' => (6 ≤ own ∧ cm_F0 σ m (5 + 8 * tk_st (σ.1 2) (σ.1 1 1) p) σ') ∨ (own < 6 ∧ sl_let (σ.1 2) (σ.1 1 1) (tk_sp (σ.1 2) (σ.1 1 1) p) = -1 ∧ cm_F0 σ m (1 + 8 * tk_st (σ.1 2) (σ.1 1 1) (tk_sp (σ.1 2) (σ.1 1 1) p)) σ') ∨ (own < 6 ∧ sl_let (σ.1 2) (σ.1 1 1) (tk_sp (σ.1 2) (σ.1 1 1) p) ≠ -1 ∧ cm_E σ m B (tk_sp (σ.1 2) (σ.1 1 1) p) (own + 1) seen (acc ++ [sl_let (σ.1 2) (σ.1 1 1) (tk_sp (σ.1 2) (σ.1 1 1) p)]) (dp + 1) σ' ∧ σ'.1 1 5 = 0 ∧ tk_atp (σ.1 2) (σ'.1 1) (tk_sp (σ.1 2) (σ.1 1 1) p))) := by
  obtain ⟨ho, hok, hn, hown, ho0, ho6, hseen, hkp, h15, hacc, hold, h7, hBd⟩ := id hE
  have hm1 := hm.1
  have e2 : τ.1 2 = σ.1 2 := ho.1 2 (cm_S_ne hm (by decide) (by decide) (by decide))
  have hrem := (sl_rem_rg seen).1
  obtain ⟨a2, a3, a4⟩ := id hat
  rw [hn] at a2 a3 a4
  have hok2 : tk_ok (τ.1 2) (τ.1 1) := by rw [e2]; exact hok
  have hst : 0 ≤ tk_st (σ.1 2) (σ.1 1 1) p := by have := (tk_in (bs := σ.1 2) hp.2).1; omega
  refine am_M.go (by decide) (Nat.le_of_ble_eq_true rfl) rfl ?_
  -- a FAULT: the sign that comes is nothing
  have JF : ∀ (τ' : am_D) (F x : Int), am_only (cm_S m) σ τ' → tk_ok (σ.1 2) (τ'.1 1) → τ'.1 1 5 = F → 0 < F → τ'.1 m = τ.1 m → 0 ≤ τ'.1 3 1 → τ'.1 3 1 ≤ 7 → ∀ Q : am_D → Prop, (∀ τ'', cm_F0 σ m F τ'' → Q τ'') → am_X (am_FV G (d + 4) Q) mX8_readElement (0, 0) 35 [none, none] [am_i x, am_r (some m)] (am_K0, τ') := by
    intro τ' F x ho' hok' hF' hF0 hm' h31 h32 Q hQ
    refine S_X8_readElement_35 (c_addSignF _ hm (by rw [hm']; omega) (by rw [hm']; omega)) hm ?_
    rintro τ2 ⟨r1, r0, r2⟩
    refine S_X8_readElement_38 (hQ _ ?_)
    rw [hm'] at r0
    refine ⟨⟨ho'.trans (r2.sub (fun a ha => by revert ha; simp; omega)), ?_, ?_, hF0, ?_, ?_, ?_, ?_, ?_⟩, by rw [r0, am_u1_ne (by decide)]; exact hkp 14 (by decide)⟩
    · rw [r1 1 (by omega) (by omega)]; exact hok'
    · rw [r1 1 (by omega) (by omega)]; exact hF'
    · rw [r0]; exact am_kpt.trans (v := τ.1 m) (fun j hj => hkp j (fun z => hj (by revert z; simp; omega))) (am_kpt.u1 (by decide))
    · rw [r1 3 (by omega) (by omega)]; exact h31
    · rw [r1 3 (by omega) (by omega)]; exact h32
    · rw [r0, am_u1_eq]; omega
    · rw [r0, am_u1_eq]; omega
  refine S_X8_readElement_0 (by omega) (fun q => ?_) (fun q => ?_)
  · refine S_X8_readElement_17 ?_
    have f1 : (am_pI τ 3 1 (τ.1 3 1 + 1)).1 1 = τ.1 1 := am_pI_of (by decide)
    have f2 : (am_pI τ 3 1 (τ.1 3 1 + 1)).1 2 = σ.1 2 := by rw [am_pI_of (by decide), e2]
    have hadv := tk_adv_at (bs := σ.1 2) hF
    have hokA := tk_adv_ok hok
    have hlet := tk_let_at hokA hadv.1
    rw [hadv.2.2, hn, a4] at hlet
    obtain ⟨b2, b3, b4⟩ := id hadv.1
    rw [hadv.2.2, hn, a4] at b3
    refine S_X8_readElement_27 (c_letter _ (by rw [f1, f2]; exact hok)) ?_
    rintro _ _ ⟨rfl, rfl⟩
    rw [f1, f2, hlet]
    generalize hl : sl_let (σ.1 2) (σ.1 1 1) (tk_sp (σ.1 2) (σ.1 1 1) p) = l
    have onl : ∀ t, am_only (cm_S m) σ (am_sr (am_pI τ 3 1 (τ.1 3 1 + 1)) 1 t) := fun t => (ho.trans (am_only.pI (by simp))).trans (am_only.sr (by simp))
    have g0 : ∀ t, (am_sr (am_pI τ 3 1 (τ.1 3 1 + 1)) 1 t).1 m = τ.1 m := fun t => by rw [am_sr_of (by omega), am_pI_of (by omega)]
    have g3 : ∀ t, (am_sr (am_pI τ 3 1 (τ.1 3 1 + 1)) 1 t).1 3 = am_u1 (τ.1 3) 1 (τ.1 3 1 + 1) := fun t => by rw [am_sr_of (by decide), am_pI_row]
    have hin2 : 0 ≤ tk_st (σ.1 2) (σ.1 1 1) (tk_sp (σ.1 2) (σ.1 1 1) p) := by
      have h1 := tk_in (bs := σ.1 2) hp.2
      have h2 := tk_in (bs := σ.1 2) (n := σ.1 1 1) (p := tk_sp (σ.1 2) (σ.1 1 1) p) (by omega)
      omega
    by_cases hl1 : l = -1
    · rw [if_pos hl1]
      refine JF _ (1 + 8 * tk_st (σ.1 2) (σ.1 1 1) (tk_sp (σ.1 2) (σ.1 1 1) p)) l (onl _) ?_ ?_ (by omega) (g0 _) ?_ ?_ _ (fun τ'' h => Or.inr (Or.inl ⟨by omega, hl1, h⟩))
      · rw [am_sr_at]; exact tk_fail_ok hokA (by omega)
      · rw [am_sr_at, tk_fail_v hadv.2.1, am_u1_eq, b3]
      · rw [g3, am_u1_eq]; omega
      · rw [g3, am_u1_eq]; omega
    · rw [if_neg hl1]
      refine S_X8_readElement_35 (c_addSign _ hm (by rw [g0]; omega) (by rw [g0]; omega)) hm ?_
      rintro _ rfl
      refine S_X8_readElement_38 (Or.inr (Or.inr ⟨by omega, hl1, ?_⟩))
      have hE9 : cm_E σ m (B + 2) (tk_sp (σ.1 2) (σ.1 1 1) p) (own + 1) seen acc (dp + 2) (am_sr (am_pI τ 3 1 (τ.1 3 1 + 1)) 1 (tk_adv (σ.1 2) (τ.1 1))) := by
        refine ⟨onl _, by rw [am_sr_at]; exact hokA, by rw [am_sr_at, hadv.2.2, hn], by rw [g3, am_u1_eq, hown], by omega, by omega, by rw [g3, am_u1_ne (by decide)]; exact hseen, by rw [g0]; exact hkp, by rw [g0]; exact h15, ?_, ?_, ?_, by rw [g0]; omega⟩
        · intro i hi
          rw [am_sr_of (by omega), am_pI_of (by omega)]
          exact hacc i hi
        · intro i hi
          rw [am_sr_of (by omega), am_pI_of (by omega)]
          exact hold i hi
        · rw [am_sr_of (by omega), am_pI_of (by omega)]
          exact h7
      obtain ⟨s1, s2, s3, s4, s5, s6⟩ := hE9.sign (x := l) hm
      obtain ⟨z1, z2, z3, z4, z5, z6, z7, z8, z9, z10, z11, z12, z13⟩ := hE9
      refine ⟨⟨s1, by rw [s2 1 (by omega) (by omega)]; exact z2, by rw [s2 1 (by omega) (by omega)]; exact z3, by rw [s2 3 (by omega) (by omega)]; exact z4, z5, z6, by rw [s2 3 (by omega) (by omega)]; exact z7, s3, s4, s5, s6, by rw [s2 (m + 7) (by omega) (by omega)]; exact z12, ?_⟩, ?_, ?_⟩
      · rw [s4, List.length_append]; rw [z9] at z13; show σ.1 m 15 + ((acc.length + 1 : Nat) : Int) + _ + _ + _ ≤ _; omega
      · rw [s2 1 (by omega) (by omega), am_sr_at]; exact hadv.2.1
      · rw [s2 1 (by omega) (by omega), am_sr_at, ← a4]; exact hadv.1
  · refine S_X8_readElement_9 (c_fail _ hok2) ?_
    rintro _ rfl
    refine S_X8_readElement_17 ?_
    have k3 : (am_sr τ 1 (tk_fail (τ.1 1) 5)).1 3 = τ.1 3 := am_sr_of (by decide)
    rw [k3]
    have f1 : (am_pI (am_sr τ 1 (tk_fail (τ.1 1) 5)) 3 1 (τ.1 3 1 + 1)).1 1 = tk_fail (τ.1 1) 5 := by rw [am_pI_of (by decide), am_sr_at]
    have f2 : (am_pI (am_sr τ 1 (tk_fail (τ.1 1) 5)) 3 1 (τ.1 3 1 + 1)).1 2 = σ.1 2 := by rw [am_pI_of (by decide), am_sr_of (by decide), e2]
    have hokF := tk_fail_ok (w := 5) hok (by omega)
    have hF5 : tk_fail (τ.1 1) 5 5 = 5 + 8 * tk_st (σ.1 2) (σ.1 1 1) p := by rw [tk_fail_v hF, am_u1_eq, a3]
    have hno : tk_adv (σ.1 2) (tk_fail (τ.1 1) 5) = tk_fail (τ.1 1) 5 := tk_adv_no (by omega)
    refine S_X8_readElement_27 (c_letter _ (by rw [f1, f2]; exact hokF)) ?_
    rintro _ _ ⟨rfl, rfl⟩
    rw [f1, f2, hno, tk_fail_no (t := tk_fail (τ.1 1) 5) (by omega), ite_self]
    have g3 : (am_sr (am_pI (am_sr τ 1 (tk_fail (τ.1 1) 5)) 3 1 (τ.1 3 1 + 1)) 1 (tk_fail (τ.1 1) 5)).1 3 1 = τ.1 3 1 + 1 := by rw [am_sr_of (by decide), am_pI_at]
    refine JF _ (5 + 8 * tk_st (σ.1 2) (σ.1 1 1) p) _ ?_ ?_ ?_ (by omega) ?_ ?_ ?_ _ (fun τ'' h => Or.inl ⟨by omega, h⟩)
    · exact ((ho.trans (am_only.sr (by simp))).trans (am_only.pI (by simp))).trans (am_only.sr (by simp))
    · rw [am_sr_at]; exact hokF
    · rw [am_sr_at]; exact hF5
    · rw [am_sr_of (by omega), am_pI_of (by omega), am_sr_of (by omega)]
    · rw [g3]; omega
    · rw [g3]; omega
end
