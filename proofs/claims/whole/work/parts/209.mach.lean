section
/-! A MACHINE's picture, and what its text tells. -/
/-- STATES, REGISTERS; OPEN RULES: to STATE (-1: none), MARK; CLOSE RULES: to STATE, EXPRESSIONS; END RULES; how many RULES of each kind; the most ELEMENTS of CLOSE, END RULES -/
abbrev am_P : Type := (Int × Int) × (((Int → Int → Int) × (Int → Int → Int)) × (((Int → Int → Int → Int) × (Int → Int → Int → List (List Int))) × ((Int → Option (List Int)) × ((Int × (Int × Int)) × (Int × Int)))))
abbrev pm_S (P : am_P) : Int := P.1.1
abbrev pm_R (P : am_P) : Int := P.1.2
abbrev pm_oT (P : am_P) : Int → Int → Int := P.2.1.1
abbrev pm_oM (P : am_P) : Int → Int → Int := P.2.1.2
abbrev pm_cT (P : am_P) : Int → Int → Int → Int := P.2.2.1.1
abbrev pm_cX (P : am_P) : Int → Int → Int → List (List Int) := P.2.2.1.2
abbrev pm_eX (P : am_P) : Int → Option (List Int) := P.2.2.2.1
abbrev pm_nO (P : am_P) : Int := P.2.2.2.2.1.1
abbrev pm_nC (P : am_P) : Int := P.2.2.2.2.1.2.1
abbrev pm_nE (P : am_P) : Int := P.2.2.2.2.1.2.2
abbrev pm_mC (P : am_P) : Int := P.2.2.2.2.2.1
abbrev pm_mE (P : am_P) : Int := P.2.2.2.2.2.2
def pm_0 (s r : Int) : am_P := ((s, r), (fun _ _ => -1, fun _ _ => 0), (fun _ _ _ => -1, fun _ _ _ => []), fun _ => none, (0, 0, 0), 0, 0)
def pm_u2 {α : Type} (f : Int → Int → α) (a b : Int) (v : α) : Int → Int → α := fun i j => if i = a ∧ j = b then v else f i j
def pm_u3 {α : Type} (f : Int → Int → Int → α) (a b c : Int) (v : α) : Int → Int → Int → α := fun i j k => if i = a ∧ j = b ∧ k = c then v else f i j k
def pm_addO (P : am_P) (l q to mk : Int) : am_P := (P.1, (pm_u2 (pm_oT P) l q to, pm_u2 (pm_oM P) l q mk), P.2.2.1, pm_eX P, (pm_nO P + 1, pm_nC P, pm_nE P), P.2.2.2.2.2)
def pm_addC (P : am_P) (l q mk to : Int) (xs : List (List Int)) (own : Int) : am_P := (P.1, P.2.1, (pm_u3 (pm_cT P) l q mk to, pm_u3 (pm_cX P) l q mk xs), pm_eX P, (pm_nO P, pm_nC P + 1, pm_nE P), max (pm_mC P) own, pm_mE P)
def pm_addE (P : am_P) (q : Int) (x : List Int) (own : Int) : am_P := (P.1, P.2.1, P.2.2.1, am_u1 (pm_eX P) q (some x), (pm_nO P, pm_nC P, pm_nE P + 1), pm_mC P, max (pm_mE P) own)
/-- a word of the list of words behind p -/
def sl_wd (bs : Int → Int) (n : Int) (i : Nat) (p : Int) : Bool := decide (tk_k bs n p = 97) && (decide (tk_sp bs n p - tk_st bs n p = (am_chr i).length) && (List.range (am_chr i).length).all fun j => decide (bs (tk_st bs n p + j) = (am_chr i).getD j 0))
def sm_open (bs : Int → Int) (n : Int) (P : am_P) (p1 : Int) : Int ⊕ (am_P × Int) :=
  if sl_let bs n (tk_sp bs n p1) = -1 then .inl (1 + 8 * tk_st bs n (tk_sp bs n p1))
  else if sl_dig bs n 0 (pm_S P - 1) (tk_sp bs n (tk_sp bs n p1)) < 0 then .inl (-(sl_dig bs n 0 (pm_S P - 1) (tk_sp bs n (tk_sp bs n p1))) + 8 * tk_st bs n (tk_sp bs n (tk_sp bs n p1)))
  else if pm_oT P (sl_let bs n (tk_sp bs n p1)) (sl_dig bs n 0 (pm_S P - 1) (tk_sp bs n (tk_sp bs n p1))) ≠ -1 then .inl (3 + 8 * tk_st bs n (tk_sp bs n (tk_sp bs n p1)))
  else if sl_dig bs n 0 (pm_S P - 1) (tk_sp bs n (tk_sp bs n (tk_sp bs n p1))) < 0 then .inl (-(sl_dig bs n 0 (pm_S P - 1) (tk_sp bs n (tk_sp bs n (tk_sp bs n p1)))) + 8 * tk_st bs n (tk_sp bs n (tk_sp bs n (tk_sp bs n p1))))
  else if sl_dig bs n 0 5 (tk_sp bs n (tk_sp bs n (tk_sp bs n (tk_sp bs n p1)))) < 0 then .inl (-(sl_dig bs n 0 5 (tk_sp bs n (tk_sp bs n (tk_sp bs n (tk_sp bs n p1))))) + 8 * tk_st bs n (tk_sp bs n (tk_sp bs n (tk_sp bs n (tk_sp bs n p1)))))
  else .inr (pm_addO P (sl_let bs n (tk_sp bs n p1)) (sl_dig bs n 0 (pm_S P - 1) (tk_sp bs n (tk_sp bs n p1))) (sl_dig bs n 0 (pm_S P - 1) (tk_sp bs n (tk_sp bs n (tk_sp bs n p1)))) (sl_dig bs n 0 5 (tk_sp bs n (tk_sp bs n (tk_sp bs n (tk_sp bs n p1))))), tk_sp bs n (tk_sp bs n (tk_sp bs n (tk_sp bs n (tk_sp bs n p1)))))
def sm_exs (bs : Int → Int) (n rg : Int) : Nat → Bool → Int → Int → List Int → List (List Int) → Int ⊕ (Int × (Int × List (List Int)))
  | 0, _, p, own, _, xs => .inr (p, own, xs)
  | k + 1, fst, p, own, seen, xs =>
    if fst = false ∧ tk_k bs n p ≠ 44 then .inl (1 + 8 * tk_st bs n p)
    else match sl_ex bs n rg true 700 (tk_sp bs n p) 0 own seen [] with
      | .inl F => .inl F
      | .inr (p', own', seen', acc) => sm_exs bs n rg k false p' own' seen' (xs ++ [acc])
def sm_close (bs : Int → Int) (n : Int) (P : am_P) (p1 : Int) : Int ⊕ (am_P × Int) :=
  if sl_let bs n (tk_sp bs n p1) = -1 then .inl (1 + 8 * tk_st bs n (tk_sp bs n p1))
  else if sl_dig bs n 0 (pm_S P - 1) (tk_sp bs n (tk_sp bs n p1)) < 0 then .inl (-(sl_dig bs n 0 (pm_S P - 1) (tk_sp bs n (tk_sp bs n p1))) + 8 * tk_st bs n (tk_sp bs n (tk_sp bs n p1)))
  else if sl_dig bs n 0 5 (tk_sp bs n (tk_sp bs n (tk_sp bs n p1))) < 0 then .inl (-(sl_dig bs n 0 5 (tk_sp bs n (tk_sp bs n (tk_sp bs n p1)))) + 8 * tk_st bs n (tk_sp bs n (tk_sp bs n (tk_sp bs n p1))))
  else if pm_cT P (sl_let bs n (tk_sp bs n p1)) (sl_dig bs n 0 (pm_S P - 1) (tk_sp bs n (tk_sp bs n p1))) (sl_dig bs n 0 5 (tk_sp bs n (tk_sp bs n (tk_sp bs n p1)))) ≠ -1 then .inl (3 + 8 * tk_st bs n (tk_sp bs n (tk_sp bs n (tk_sp bs n p1))))
  else if sl_dig bs n 0 (pm_S P - 1) (tk_sp bs n (tk_sp bs n (tk_sp bs n (tk_sp bs n p1)))) < 0 then .inl (-(sl_dig bs n 0 (pm_S P - 1) (tk_sp bs n (tk_sp bs n (tk_sp bs n (tk_sp bs n p1))))) + 8 * tk_st bs n (tk_sp bs n (tk_sp bs n (tk_sp bs n (tk_sp bs n p1)))))
  else if tk_k bs n (tk_sp bs n (tk_sp bs n (tk_sp bs n (tk_sp bs n (tk_sp bs n p1))))) ≠ 61 then .inl (1 + 8 * tk_st bs n (tk_sp bs n (tk_sp bs n (tk_sp bs n (tk_sp bs n (tk_sp bs n p1))))))
  else match sm_exs bs n (pm_R P) (pm_R P).toNat true (tk_sp bs n (tk_sp bs n (tk_sp bs n (tk_sp bs n (tk_sp bs n p1))))) 0 [] [] with
    | .inl F => .inl F
    | .inr (p', own', xs) => .inr (pm_addC P (sl_let bs n (tk_sp bs n p1)) (sl_dig bs n 0 (pm_S P - 1) (tk_sp bs n (tk_sp bs n p1))) (sl_dig bs n 0 5 (tk_sp bs n (tk_sp bs n (tk_sp bs n p1)))) (sl_dig bs n 0 (pm_S P - 1) (tk_sp bs n (tk_sp bs n (tk_sp bs n (tk_sp bs n p1))))) xs own', p')
def sm_end (bs : Int → Int) (n : Int) (P : am_P) (p1 : Int) : Int ⊕ (am_P × Int) :=
  if sl_dig bs n 0 (pm_S P - 1) (tk_sp bs n p1) < 0 then .inl (-(sl_dig bs n 0 (pm_S P - 1) (tk_sp bs n p1)) + 8 * tk_st bs n (tk_sp bs n p1))
  else if pm_eX P (sl_dig bs n 0 (pm_S P - 1) (tk_sp bs n p1)) ≠ none then .inl (3 + 8 * tk_st bs n (tk_sp bs n p1))
  else if tk_k bs n (tk_sp bs n (tk_sp bs n p1)) ≠ 61 then .inl (1 + 8 * tk_st bs n (tk_sp bs n (tk_sp bs n p1)))
  else match sl_ex bs n (pm_R P) false 700 (tk_sp bs n (tk_sp bs n (tk_sp bs n p1))) 0 0 [] [] with
    | .inl F => .inl F
    | .inr (p', own', _, acc) => .inr (pm_addE P (sl_dig bs n 0 (pm_S P - 1) (tk_sp bs n p1)) acc own', p')
def sm_rule (bs : Int → Int) (n : Int) (P : am_P) (p : Int) : Int ⊕ (am_P × Int) :=
  if sl_wd bs n 1 (tk_sp bs n p) = false ∧ sl_wd bs n 2 (tk_sp bs n p) = false ∧ sl_wd bs n 3 (tk_sp bs n p) = false then .inl (1 + 8 * tk_st bs n (tk_sp bs n p))
  else if 24 ≤ pm_nO P + pm_nC P + pm_nE P then .inl (5 + 8 * tk_st bs n (tk_sp bs n p))
  else if sl_wd bs n 1 (tk_sp bs n p) = true then sm_open bs n P (tk_sp bs n p)
  else if sl_wd bs n 2 (tk_sp bs n p) = true then sm_close bs n P (tk_sp bs n p)
  else sm_end bs n P (tk_sp bs n p)
def sm_rules (bs : Int → Int) (n : Int) : Nat → am_P → Int → Int ⊕ am_P
  | 0, P, _ => .inr P
  | f + 1, P, p =>
    if tk_k bs n p = 59 then (match sm_rule bs n P p with
      | .inl F => .inl F
      | .inr (P', p') => sm_rules bs n f P' p')
    else if tk_k bs n p = 0 then .inr P else .inl (1 + 8 * tk_st bs n p)
/-- what a MACHINE's text tells -/
def sm_mach (bs : Int → Int) (n : Int) : Int ⊕ am_P :=
  if sl_wd bs n 0 0 = false then .inl (1 + 8 * tk_st bs n 0)
  else if sl_dig bs n 1 6 (tk_sp bs n 0) < 0 then .inl (-(sl_dig bs n 1 6 (tk_sp bs n 0)) + 8 * tk_st bs n (tk_sp bs n 0))
  else if sl_dig bs n 1 3 (tk_sp bs n (tk_sp bs n 0)) < 0 then .inl (-(sl_dig bs n 1 3 (tk_sp bs n (tk_sp bs n 0))) + 8 * tk_st bs n (tk_sp bs n (tk_sp bs n 0)))
  else sm_rules bs n 700 (pm_0 (sl_dig bs n 1 6 (tk_sp bs n 0)) (sl_dig bs n 1 3 (tk_sp bs n (tk_sp bs n 0)))) (tk_sp bs n (tk_sp bs n (tk_sp bs n 0)))
theorem tk_wd_at {bs t : Int → Int} {p : Int} {i : Nat} (hi : i < 9) (hk : tk_ok bs t) (h : tk_atp bs t p) : tk_isw bs t i = sl_wd bs (t 1) i p := by
  obtain ⟨h2, h3, h4⟩ := h
  unfold tk_isw sl_wd
  rw [← h2, ← h3, ← h4]
  by_cases hq : t 4 - t 3 = (am_chr i).length
  · have : ∀ j ∈ List.range (am_chr i).length, decide (tk_b bs (t 3 + j) = (am_chr i).getD j 0) = decide (bs (t 3 + j) = (am_chr i).getD j 0) := by
      intro j hj
      have hj := List.mem_range.mp hj
      have e : tk_b bs (t 3 + j) = bs (t 3 + j) := if_pos ⟨by have := hk.2.2.2.2.2.1; omega, by have := hk.2.2.1; have := hk.2.2.2.2.1; omega⟩
      rw [e]
    have e : (List.range (am_chr i).length).all (fun j => decide (tk_b bs (t 3 + j) = (am_chr i).getD j 0)) = (List.range (am_chr i).length).all (fun j => decide (bs (t 3 + j) = (am_chr i).getD j 0)) := by
      rw [Bool.eq_iff_iff, List.all_eq_true, List.all_eq_true]
      exact ⟨fun h j hj => (this j hj) ▸ h j hj, fun h j hj => (this j hj).symm ▸ h j hj⟩
    rw [e]
  · rw [decide_eq_false hq]
    rfl
-- the class's tables
variable {G : am_G} {σ : am_D}
theorem c_opensTo (d : Nat) {m : Nat} {l q : Int} (hm : am_isM m) (hl : -100 ≤ l ∧ l ≤ 100) (hq : -100 ≤ q ∧ q ≤ 100) : am_MI G (d + 1) mX2_opensTo [am_r (some m), am_i l, am_i q] σ (fun x σ' => x = (if 0 ≤ l * 6 + q ∧ l * 6 + q < 18 then σ.1 (m + 1) (l * 6 + q) else -1) ∧ σ = σ') := by
  refine am_M.go (by decide) (Nat.le_of_ble_eq_true rfl) rfl ?_
  refine S_X2_opensTo_0 ?_
  refine S_X2_opensTo_7 (by omega) (fun h7 => ?_) (fun h7 => ?_)
  · refine S_X2_opensTo_29 ?_
    refine S_X2_opensTo_30 ?_
    first | (rw [if_neg (by omega)]; exact ⟨rfl, rfl⟩) | (rw [if_pos (by omega)]; exact ⟨rfl, rfl⟩)
  · refine S_X2_opensTo_11 (by assumption) (by omega) (fun h11 => ?_) (fun h11 => ?_)
    · refine S_X2_opensTo_29 ?_
      refine S_X2_opensTo_30 ?_
      first | (rw [if_neg (by omega)]; exact ⟨rfl, rfl⟩) | (rw [if_pos (by omega)]; exact ⟨rfl, rfl⟩)
    · refine S_X2_opensTo_20 (by assumption) (by omega) (by omega) ?_
      refine S_X2_opensTo_30 ?_
      first | (rw [if_neg (by omega)]; exact ⟨rfl, rfl⟩) | (rw [if_pos (by omega)]; exact ⟨rfl, rfl⟩)
theorem c_lays (d : Nat) {m : Nat} {l q : Int} (hm : am_isM m) (hl : -100 ≤ l ∧ l ≤ 100) (hq : -100 ≤ q ∧ q ≤ 100) : am_MI G (d + 1) mX2_lays [am_r (some m), am_i l, am_i q] σ (fun x σ' => x = (if 0 ≤ l * 6 + q ∧ l * 6 + q < 18 then σ.1 (m + 2) (l * 6 + q) else -1) ∧ σ = σ') := by
  refine am_M.go (by decide) (Nat.le_of_ble_eq_true rfl) rfl ?_
  refine S_X2_lays_0 ?_
  refine S_X2_lays_7 (by omega) (fun h7 => ?_) (fun h7 => ?_)
  · refine S_X2_lays_29 ?_
    refine S_X2_lays_30 ?_
    first | (rw [if_neg (by omega)]; exact ⟨rfl, rfl⟩) | (rw [if_pos (by omega)]; exact ⟨rfl, rfl⟩)
  · refine S_X2_lays_11 (by assumption) (by omega) (fun h11 => ?_) (fun h11 => ?_)
    · refine S_X2_lays_29 ?_
      refine S_X2_lays_30 ?_
      first | (rw [if_neg (by omega)]; exact ⟨rfl, rfl⟩) | (rw [if_pos (by omega)]; exact ⟨rfl, rfl⟩)
    · refine S_X2_lays_20 (by assumption) (by omega) (by omega) ?_
      refine S_X2_lays_30 ?_
      first | (rw [if_neg (by omega)]; exact ⟨rfl, rfl⟩) | (rw [if_pos (by omega)]; exact ⟨rfl, rfl⟩)
theorem c_closesTo (d : Nat) {m : Nat} {l q : Int} (hm : am_isM m) (hl : -1000 ≤ l ∧ l ≤ 1000) (hq : -100 ≤ q ∧ q ≤ 100) : am_MI G (d + 1) mX2_closesTo [am_r (some m), am_i l, am_i q] σ (fun x σ' => x = (if 0 ≤ l * 6 + q ∧ l * 6 + q < 108 then σ.1 (m + 3) (l * 6 + q) else -1) ∧ σ = σ') := by
  refine am_M.go (by decide) (Nat.le_of_ble_eq_true rfl) rfl ?_
  refine S_X2_closesTo_0 ?_
  refine S_X2_closesTo_7 (by omega) (fun h7 => ?_) (fun h7 => ?_)
  · refine S_X2_closesTo_29 ?_
    refine S_X2_closesTo_30 ?_
    first | (rw [if_neg (by omega)]; exact ⟨rfl, rfl⟩) | (rw [if_pos (by omega)]; exact ⟨rfl, rfl⟩)
  · refine S_X2_closesTo_11 (by assumption) (by omega) (fun h11 => ?_) (fun h11 => ?_)
    · refine S_X2_closesTo_29 ?_
      refine S_X2_closesTo_30 ?_
      first | (rw [if_neg (by omega)]; exact ⟨rfl, rfl⟩) | (rw [if_pos (by omega)]; exact ⟨rfl, rfl⟩)
    · refine S_X2_closesTo_20 (by assumption) (by omega) (by omega) ?_
      refine S_X2_closesTo_30 ?_
      first | (rw [if_neg (by omega)]; exact ⟨rfl, rfl⟩) | (rw [if_pos (by omega)]; exact ⟨rfl, rfl⟩)
theorem c_closeTells (d : Nat) {m : Nat} {l q : Int} (hm : am_isM m) (hl : -1000 ≤ l ∧ l ≤ 1000) (hq : -100 ≤ q ∧ q ≤ 100) : am_MI G (d + 2) mX2_closeTells [am_r (some m), am_i l, am_i q] σ (fun x σ' => x = (if 0 ≤ l * 6 + q ∧ l * 6 + q < 108 then σ.1 (m + 4) (l * 6 + q) else -1) ∧ σ = σ') := by
  have hs := shM4 hm
  refine am_M.go (by decide) (Nat.le_of_ble_eq_true rfl) rfl ?_
  refine S_X2_closeTells_0 hm (c_at _ hs (by omega)) ?_
  rintro _ _ ⟨rfl, rfl⟩
  exact ⟨rfl, rfl⟩
theorem c_endTells (d : Nat) {m : Nat} {q : Int} (hm : am_isM m) (hq : -100 ≤ q ∧ q ≤ 100) : am_MI G (d + 2) mX2_endTells [am_r (some m), am_i q] σ (fun x σ' => x = (if 0 ≤ q ∧ q < 6 then σ.1 (m + 5) q else -1) ∧ σ = σ') := by
  have hs := shM5 hm
  refine am_M.go (by decide) (Nat.le_of_ble_eq_true rfl) rfl ?_
  refine S_X2_endTells_0 hm (c_at _ hs (by omega)) ?_
  rintro _ _ ⟨rfl, rfl⟩
  exact ⟨rfl, rfl⟩
theorem c_rules (d : Nat) {m : Nat} (hm : am_isM m) : am_MI G (d + 1) mX2_rules [am_r (some m)] σ (fun x σ' => x = σ.1 m 2 + σ.1 m 3 + σ.1 m 4 ∧ σ = σ') := by
  refine am_M.go (by decide) (Nat.le_of_ble_eq_true rfl) rfl ?_
  refine S_X2_rules_0 (by assumption) ?_
  exact ⟨rfl, rfl⟩
theorem c_addOpen (d : Nat) {m : Nat} {l q to mk : Int} (hm : am_isM m) (hl : 0 ≤ l ∧ l < 3) (hq : 0 ≤ q ∧ q < 6) : am_MV G (d + 2) mX2_addOpen [am_r (some m), am_i l, am_i q, am_i to, am_i mk] σ (fun σ' => σ' = am_pI (am_pI (am_pI σ (m + 1) (l * 6 + q) to) (m + 2) (l * 6 + q) (l * 6 + mk)) m 2 (σ.1 m 2 + 1)) := by
  have hs1 := shM1 hm
  have hs2 := shM2 hm
  refine am_M.go (by decide) (Nat.le_of_ble_eq_true rfl) rfl ?_
  refine S_X2_addOpen_0 hm (c_put _ hs1 (by omega)) ?_
  rintro _ rfl
  rw [if_pos (by omega)]
  refine S_X2_addOpen_14 hm (c_laying _) ?_
  rintro _ _ ⟨rfl, rfl⟩
  refine S_X2_addOpen_30 (c_put _ hs2 (by omega)) ?_
  rintro _ rfl
  rw [if_pos (by omega)]
  refine S_X2_addOpen_33 hm ?_
  refine S_X2_addOpen_43 ?_
  rw [am_pI_of (a := m + 2) (b := m) (by omega), am_pI_of (a := m + 1) (b := m) (by omega)]
theorem c_addClose (d : Nat) {m : Nat} {l q to : Int} (hm : am_isM m) (hl : 0 ≤ l ∧ l < 18) (hq : 0 ≤ q ∧ q < 6) : am_MV G (d + 2) mX2_addClose [am_r (some m), am_i l, am_i q, am_i to] σ (fun σ' => σ' = am_pI (am_pI (am_pI σ (m + 3) (l * 6 + q) to) (m + 4) (l * 6 + q) (σ.1 m 14)) m 3 (σ.1 m 3 + 1)) := by
  have hs1 := shM3 hm
  have hs2 := shM4 hm
  refine am_M.go (by decide) (Nat.le_of_ble_eq_true rfl) rfl ?_
  refine S_X2_addClose_0 hm (c_put _ hs1 (by omega)) ?_
  rintro _ rfl
  rw [if_pos (by omega)]
  have e : (am_pI σ (m + 3) (l * 6 + q) to).1 m = σ.1 m := am_pI_of (by omega)
  refine S_X2_addClose_14 hm (c_put _ hs2 (by omega)) ?_
  rintro _ rfl
  rw [if_pos (by omega), e]
  refine S_X2_addClose_31 hm ?_
  refine S_X2_addClose_41 ?_
  rw [am_pI_of (a := m + 4) (b := m) (by omega), e]
theorem c_addEnd (d : Nat) {m : Nat} {q : Int} (hm : am_isM m) (hq : 0 ≤ q ∧ q < 6) : am_MV G (d + 2) mX2_addEnd [am_r (some m), am_i q] σ (fun σ' => σ' = am_pI (am_pI σ (m + 5) q (σ.1 m 14)) m 4 (σ.1 m 4 + 1)) := by
  have hs1 := shM5 hm
  refine am_M.go (by decide) (Nat.le_of_ble_eq_true rfl) rfl ?_
  refine S_X2_addEnd_0 hm (c_put _ hs1 (by omega)) ?_
  rintro _ rfl
  rw [if_pos (by omega)]
  refine S_X2_addEnd_12 hm ?_
  refine S_X2_addEnd_22 ?_
  rw [am_pI_of (a := m + 5) (b := m) (by omega)]
end
