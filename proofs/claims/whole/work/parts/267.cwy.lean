section
/-! The class measures ways. -/
/-- rows of longs alone -/
def wj_o (S : List Nat) (σ τ : am_D) : Prop := τ.1 = σ.1 ∧ (∀ a, a ∉ S → τ.2.1 a = σ.2.1 a) ∧ τ.2.2 = σ.2.2
theorem wj_o.rfl' {S : List Nat} {σ : am_D} : wj_o S σ σ := ⟨rfl, fun _ _ => rfl, rfl⟩
theorem wj_o.trans {S : List Nat} {σ τ υ : am_D} (h : wj_o S σ τ) (h' : wj_o S τ υ) : wj_o S σ υ := ⟨h'.1.trans h.1, fun a ha => (h'.2.1 a ha).trans (h.2.1 a ha), h'.2.2.trans h.2.2⟩
theorem wj_o.pJ {S : List Nat} {σ : am_D} {a : Nat} {k : Int} {x : Int64} (h : a ∈ S) : wj_o S σ (am_pJ σ a k x) := ⟨rfl, fun b hb => am_up_ne (fun e => hb (e ▸ h)), rfl⟩
theorem wj_o.sub {S S' : List Nat} {σ τ : am_D} (h : wj_o S σ τ) (hs : ∀ a, a ∈ S → a ∈ S') : wj_o S' σ τ := ⟨h.1, fun a ha => h.2.1 a (fun z => ha (hs a z)), h.2.2⟩
theorem am_pJ_row {σ : am_D} {a : Nat} {k : Int} {x : Int64} : (am_pJ σ a k x).2.1 a = am_u1 (σ.2.1 a) k x := am_up_eq
theorem am_pJ_of {σ : am_D} {a b : Nat} {k : Int} {x : Int64} (h : b ≠ a) : (am_pJ σ a k x).2.1 b = σ.2.1 b := am_up_ne h
theorem am_u1_eqJ {f : Int → Int64} {k : Int} {x : Int64} : am_u1 f k x k = x := if_pos rfl
theorem am_u1_neJ {f : Int → Int64} {k j : Int} {x : Int64} (h : j ≠ k) : am_u1 f k x j = f j := if_neg h
variable {G : am_G} {σ : am_D}
theorem S9_at_4 {d : Nat} {Q : Int64 → am_D → Prop} {v1 : Int} {v0 : Nat} {n1 : Nat} (hs2 : am_sh am_SH v0 = (103, n1)) (hr3 : -2147483648 ≤ v1 ∧ v1 ≤ 2147483647) (hr4 : -2147483648 ≤ ((n1 : Nat) : Int) ∧ ((n1 : Nat) : Int) ≤ 2147483647) (k1 : ((n1 : Nat) : Int) ≤ v1 → am_X (am_FJ G (d + 1) Q) mX9_at (0, 0) 16 [none, none] [] (am_K0, σ)) (k2 : ¬ (((n1 : Nat) : Int) ≤ v1) → am_X (am_FJ G (d + 1) Q) mX9_at (0, 0) 10 [some (am_r (some v0)), some (am_i v1)] [] (am_K0, σ)) : am_X (am_FJ G (d + 1) Q) mX9_at (0, 0) 4 [some (am_r (some v0)), some (am_i v1)] [] (am_K0, σ) := by
  refine am_r_iload_n (nx := 5) rfl rfl (show decode cX9_at 4 = .ok (.iload_n 1, 1) by decide +kernel) rfl ?_
  refine am_r_aload_n (nx := 6) rfl rfl (show decode cX9_at 5 = .ok (.aload_n 0, 1) by decide +kernel) rfl ?_
  refine am_r_alen (nx := 7) (hs2) (by omega) (by omega) (show decode cX9_at 6 = .ok (.arraylength, 1) by decide +kernel) rfl ?_
  refine am_r_icmp_ge (tg := 16) (nx := 10) (show decode cX9_at 7 = .ok (.if_icmp .ge 9, 3) by decide +kernel) (by decide) rfl hr3 hr4 ?_ ?_
  · exact fun q => am_x_fg [0, 1] (k1 q)
  · exact fun q => k2 q
theorem S9_put_4 {d : Nat} {Q : am_D → Prop} {v1 : Int} {v2 : Int64} {v0 : Nat} {n1 : Nat} (hs2 : am_sh am_SH v0 = (103, n1)) (hr3 : -2147483648 ≤ v1 ∧ v1 ≤ 2147483647) (hr4 : -2147483648 ≤ ((n1 : Nat) : Int) ∧ ((n1 : Nat) : Int) ≤ 2147483647) (k1 : ((n1 : Nat) : Int) ≤ v1 → am_X (am_FV G (d + 1) Q) mX9_put (0, 0) 14 [none, none, none, none] [] (am_K0, σ)) (k2 : ¬ (((n1 : Nat) : Int) ≤ v1) → am_X (am_FV G (d + 1) Q) mX9_put (0, 0) 10 [some (am_r (some v0)), some (am_i v1), some (am_l v2), none] [] (am_K0, σ)) : am_X (am_FV G (d + 1) Q) mX9_put (0, 0) 4 [some (am_r (some v0)), some (am_i v1), some (am_l v2), none] [] (am_K0, σ) := by
  refine am_r_iload_n (nx := 5) rfl rfl (show decode cX9_put 4 = .ok (.iload_n 1, 1) by decide +kernel) rfl ?_
  refine am_r_aload_n (nx := 6) rfl rfl (show decode cX9_put 5 = .ok (.aload_n 0, 1) by decide +kernel) rfl ?_
  refine am_r_alen (nx := 7) (hs2) (by omega) (by omega) (show decode cX9_put 6 = .ok (.arraylength, 1) by decide +kernel) rfl ?_
  refine am_r_icmp_ge (tg := 14) (nx := 10) (show decode cX9_put 7 = .ok (.if_icmp .ge 7, 3) by decide +kernel) (by decide) rfl hr3 hr4 ?_ ?_
  · exact fun q => am_x_fg [0, 1, 2] (k1 q)
  · exact fun q => k2 q
theorem c_jat (d : Nat) {a n : Nat} {i : Int} (hs : am_sh am_SH a = (103, n)) (hi : 0 ≤ i ∧ i < n) (hn : n ≤ 1000) : am_MJ G (d + 1) mX9_at [am_r (some a), am_i i] σ (fun x σ' => x = σ.2.1 a i ∧ σ = σ') := by
  refine am_M.go (by decide) (Nat.le_of_ble_eq_true rfl) rfl ?_
  refine S_X9_at_0 (by omega) (fun z => absurd z (by omega)) (fun _ => ?_)
  refine S9_at_4 hs (by omega) (by omega) (fun z => absurd z (by omega)) (fun _ => ?_)
  refine S_X9_at_10 hs hi.1 hi.2 ?_
  exact S_X9_at_17 ⟨rfl, rfl⟩
theorem c_jput (d : Nat) {a n : Nat} {i : Int} {x : Int64} (hs : am_sh am_SH a = (103, n)) (hi : 0 ≤ i ∧ i < n) (hn : n ≤ 1000) : am_MV G (d + 1) mX9_put [am_r (some a), am_i i, am_l x] σ (fun σ' => σ' = am_pJ σ a i x) := by
  refine am_M.go (by decide) (Nat.le_of_ble_eq_true rfl) rfl ?_
  refine S_X9_put_0 (by omega) (fun z => absurd z (by omega)) (fun _ => ?_)
  refine S9_put_4 hs (by omega) (by omega) (fun z => absurd z (by omega)) (fun _ => ?_)
  refine S_X9_put_10 hs hi.1 hi.2 ?_
  exact S_X9_put_14 rfl
theorem c_pair (d : Nat) {q r : Int} : am_MI G (d + 1) mX9_pair [am_i q, am_i r] σ (fun x σ' => x = 6 * q + r ∧ σ = σ') := by
  refine am_M.go (by decide) (Nat.le_of_ble_eq_true rfl) rfl ?_
  exact S_X9_pair_0 ⟨by omega, rfl⟩
-- longs
theorem wl_lt {a b : Int} (ha : 0 ≤ a ∧ a < 4611686018427387904) (hb : 0 ≤ b ∧ b < 4611686018427387904) : Int64.ofInt a < Int64.ofInt b ↔ a < b := by
  rw [Int64.lt_iff_toInt_lt, Int64.toInt_ofInt_of_le (by omega) (by omega), Int64.toInt_ofInt_of_le (by omega) (by omega)]
theorem wl_eq {a b : Int} (ha : 0 ≤ a ∧ a < 4611686018427387904) (hb : 0 ≤ b ∧ b < 4611686018427387904) : Int64.ofInt a = Int64.ofInt b ↔ a = b := by
  rw [← Int64.toInt_inj, Int64.toInt_ofInt_of_le (by omega) (by omega), Int64.toInt_ofInt_of_le (by omega) (by omega)]
theorem wl_cmp0 {a b : Int} (ha : 0 ≤ a ∧ a < 4611686018427387904) (hb : 0 ≤ b ∧ b < 4611686018427387904) : 0 ≤ am_lcmp (Int64.ofInt a) (Int64.ofInt b) ↔ b ≤ a := by
  have h := am_lcmp_lt (x := Int64.ofInt a) (y := Int64.ofInt b)
  rw [wl_lt ha hb] at h
  omega
theorem wl_cmpE {a b : Int} (ha : 0 ≤ a ∧ a < 4611686018427387904) (hb : 0 ≤ b ∧ b < 4611686018427387904) : am_lcmp (Int64.ofInt a) (Int64.ofInt b) = 0 ↔ a = b := by
  rw [am_lcmp_eq, wl_eq ha hb]
theorem wl_cmpL {a b : Int} (ha : 0 ≤ a ∧ a < 4611686018427387904) (hb : 0 ≤ b ∧ b < 4611686018427387904) : am_lcmp (Int64.ofInt a) (Int64.ofInt b) < 0 ↔ a < b := by
  rw [am_lcmp_lt, wl_lt ha hb]
theorem wl_40 : (1099511627776 : Int64) = Int64.ofInt 1099511627776 := by decide
theorem wl_60 : (1152921504606846976 : Int64) = Int64.ofInt 1152921504606846976 := by decide
theorem wl_1 : (1 : Int64) = Int64.ofInt 1 := by decide
theorem wl_0 : (0 : Int64) = Int64.ofInt 0 := by decide
def wy_n (B : Int) (o : Option Nat) : Int := match o with
  | none => B
  | some n => n
def wy_E (B : Int) (f : Int → Int64) (v : wy_V) : Prop := ∀ q r : Int, 0 ≤ q → q < 6 → 0 ≤ r → r < 6 → f (6 * q + r) = Int64.ofInt (wy_n B (v q r))
def wy_b (v : wy_V) : Prop := ∀ x y n, v x y = some n → n < 68719476736
theorem wy_J.b {P : am_P} {v : wy_V} (h : wy_J P v) : wy_b v := fun x y n hv => by have := h.lt hv; omega
theorem wy_n_rg {B : Int} {v : wy_V} (hb : wy_b v) (hB : 68719476736 ≤ B ∧ B ≤ 1152921504606846976) (x y : Int) : 0 ≤ wy_n B (v x y) ∧ wy_n B (v x y) ≤ B ∧ (wy_n B (v x y) = B ↔ v x y = none) := by
  cases h : v x y with
  | none => exact ⟨by show 0 ≤ B; omega, Int.le_refl _, fun _ => rfl, fun _ => rfl⟩
  | some n =>
    have := hb x y n h
    refine ⟨by show 0 ≤ (n : Int); omega, by show (n : Int) ≤ B; omega, fun z => ?_, fun z => nomatch z⟩
    have z : (n : Int) = B := z
    omega
/-- up to column r -/
def wy_byr (v : wy_V) (q to : Int) (e : Nat) (r : Int) : wy_V := fun x y => if x = q ∧ 0 ≤ y ∧ y < r then wy_1 (v q y) e (v to y) else v x y
theorem wy_byr_6 {v : wy_V} {q to : Int} {e : Nat} : wy_byr v q to e 6 = wy_by v q to e := rfl
theorem wy_byr_0 {v : wy_V} {q to : Int} {e : Nat} : wy_byr v q to e 0 = v := by
  funext x y
  unfold wy_byr
  rw [if_neg (by omega)]
theorem wy_byr_at {v : wy_V} {q to : Int} {e : Nat} {r : Int} {x : Int} : wy_byr v q to e r x r = v x r := by
  unfold wy_byr
  rw [if_neg (by omega)]
theorem wy_byr_s {v : wy_V} {q to : Int} {e : Nat} {r : Int} (hr : 0 ≤ r) : wy_byr v q to e (r + 1) = fun x y => if x = q ∧ y = r then wy_1 (v q r) e (v to r) else wy_byr v q to e r x y := by
  funext x y
  unfold wy_byr
  by_cases z : x = q ∧ y = r
  · rw [if_pos z, if_pos (by omega), z.2]
  · rw [if_neg z]
    by_cases z2 : x = q ∧ 0 ≤ y ∧ y < r
    · rw [if_pos z2, if_pos (by omega)]
    · rw [if_neg z2, if_neg (by omega)]
theorem c_shortenBy (d : Nat) {v : wy_V} {q to : Int} {e : Nat} (hq : 0 ≤ q ∧ q < 6) (hto : 0 ≤ to ∧ to < 6) (he : 1 ≤ e ∧ e ≤ 68719476736) (hb : wy_b v) (hE : wy_E 1099511627776 (σ.2.1 25) v) : am_MI G (d + 2) mX9_shortenBy [am_r (some 24), am_i q, am_i to, am_l (Int64.ofInt e)] σ (fun x σ' => ((x = 0 ∧ wy_by v q to e = v) ∨ (x = 1 ∧ wy_by v q to e ≠ v)) ∧ wj_o [25] σ σ' ∧ wy_E 1099511627776 (σ'.2.1 25) (wy_by v q to e)) := by
  have hrg := wy_n_rg (B := 1099511627776) hb (by omega)
  refine am_M.go (by decide) (Nat.le_of_ble_eq_true rfl) rfl ?_
  refine S_X9_shortenBy_0 ?_
  refine S_X9_shortenBy_3 ?_
  have loop : ∀ (n : Nat) (r c : Int) (τ : am_D), 6 - r = n → 0 ≤ r → ((c = 0 ∧ wy_byr v q to e r = v) ∨ (c = 1 ∧ wy_byr v q to e r ≠ v)) → wj_o [25] σ τ → wy_E 1099511627776 (τ.2.1 25) (wy_byr v q to e r) → am_X (am_FI G (d + 2) (fun x σ' => ((x = 0 ∧ wy_by v q to e = v) ∨ (x = 1 ∧ wy_by v q to e ≠ v)) ∧ wj_o [25] σ σ' ∧ wy_E 1099511627776 (σ'.2.1 25) (wy_by v q to e))) mX9_shortenBy (0, 0) 6 [some (am_r (some 24)), some (am_i q), some (am_i to), some (am_l (Int64.ofInt e)), none, some (am_i c), some (am_i r), none, none] [] (am_K0, τ) := by
    intro n
    induction n with
    | zero =>
      intro r c τ hn hr hc ho hEr
      have : r = 6 := by omega
      subst this
      rw [wy_byr_6] at hc hEr
      refine S_X9_shortenBy_6 (by omega) (fun _ => ?_) (fun z => absurd (by omega) z)
      refine S_X9_shortenBy_73 (by rcases hc with ⟨h, -⟩ | ⟨h, -⟩ <;> omega) ⟨hc, ho, hEr⟩
    | succ n ih =>
      intro r c τ hn hr hc ho hEr
      have r6 : r < 6 := by omega
      refine S_X9_shortenBy_6 (by omega) (fun z => absurd z (by omega)) (fun _ => ?_)
      refine S_X9_shortenBy_13 (c_pair _) ?_
      rintro _ _ ⟨rfl, rfl⟩
      refine S_X9_shortenBy_24 (c_jat _ sh_25 (by omega) (by omega)) ?_
      rintro _ _ ⟨rfl, rfl⟩
      rw [hEr to r hto.1 hto.2 hr r6, wy_byr_at]
      refine S_X9_shortenBy_27 ?_
      rw [← Int64.ofInt_add]
      refine S_X9_shortenBy_30 (c_pair _) ?_
      rintro _ _ ⟨rfl, rfl⟩
      refine S_X9_shortenBy_42 (c_jat _ sh_25 (by omega) (by omega)) ?_
      rintro _ _ ⟨rfl, rfl⟩
      rw [hEr q r hq.1 hq.2 hr r6, wy_byr_at]
      have h1 := hrg to r
      have h2 := hrg q r
      have hcmp := wl_cmp0 (a := e + wy_n 1099511627776 (v to r)) (b := wy_n 1099511627776 (v q r)) (by omega) (by omega)
      have hs := wy_byr_s (v := v) (q := q) (to := to) (e := e) hr
      refine S_X9_shortenBy_45 (fun z => ?_) (fun z => ?_)
      · -- as it was
        have z := hcmp.mp z
        have hsame : wy_1 (v q r) e (v to r) = v q r := by
          unfold wy_1
          cases hto' : v to r with
          | none => rfl
          | some b =>
            rw [hto'] at z h1
            have z : wy_n 1099511627776 (v q r) ≤ (e : Int) + (b : Int) := z
            have hb1 := hb to r b hto'
            cases hq' : v q r with
            | none =>
              rw [hq'] at z
              have z : (1099511627776 : Int) ≤ (e : Int) + b := z
              omega
            | some m =>
              rw [hq'] at z
              have z : (m : Int) ≤ (e : Int) + b := z
              show (if e + b < m then some (e + b) else some m) = some m
              rw [if_neg (by omega)]
        have heq : wy_byr v q to e (r + 1) = wy_byr v q to e r := by
          rw [hs]
          funext x y
          by_cases w : x = q ∧ y = r
          · rw [if_pos w, w.1, w.2, wy_byr_at]; exact hsame
          · rw [if_neg w]
        refine S_X9_shortenBy_67 ?_
        exact ih (r + 1) c τ (by omega) (by omega) (by rw [heq]; exact hc) ho (by rw [heq]; exact hEr)
      · have z : ¬ wy_n 1099511627776 (v q r) ≤ e + wy_n 1099511627776 (v to r) := fun w => z (hcmp.mpr w)
        have hex : ∃ b, v to r = some b ∧ wy_1 (v q r) e (v to r) = some (e + b) ∧ some (e + b) ≠ v q r := by
          cases hto' : v to r with
          | none =>
            rw [hto'] at z
            have z : ¬ wy_n 1099511627776 (v q r) ≤ e + (1099511627776 : Int) := z
            omega
          | some b =>
            rw [hto'] at z
            have z : ¬ wy_n 1099511627776 (v q r) ≤ (e : Int) + (b : Int) := z
            refine ⟨b, rfl, ?_⟩
            unfold wy_1
            cases hq' : v q r with
            | none => exact ⟨rfl, fun w => nomatch w⟩
            | some m =>
              rw [hq'] at z
              have z : ¬ (m : Int) ≤ (e : Int) + b := z
              refine ⟨?_, fun w => ?_⟩
              · show (if e + b < m then some (e + b) else some m) = some (e + b)
                rw [if_pos (by omega)]
              · injection w with w
                omega
        obtain ⟨b, hb1, hb2, hb3⟩ := hex
        refine S_X9_shortenBy_49 (c_pair _) ?_
        rintro _ _ ⟨rfl, rfl⟩
        refine S_X9_shortenBy_59 (c_jput _ sh_25 (by omega) (by omega)) ?_
        rintro _ rfl
        refine S_X9_shortenBy_64 ?_
        refine S_X9_shortenBy_67 ?_
        refine ih (r + 1) 1 _ (by omega) (by omega) (Or.inr ⟨rfl, fun w => ?_⟩) (ho.trans (wj_o.pJ (by simp))) (fun x y x0 x1 y0 y1 => ?_)
        · have := congrFun (congrFun w q) r
          rw [hs] at this
          dsimp only at this
          rw [if_pos ⟨rfl, rfl⟩, hb2] at this
          exact hb3 this
        · rw [am_pJ_row, hs]
          dsimp only
          by_cases w : x = q ∧ y = r
          · rw [if_pos w, w.1, w.2, am_u1_eqJ, hb2, hb1]
            rfl
          · rw [if_neg w, am_u1_neJ (by omega)]
            exact hEr x y x0 x1 y0 y1
  exact loop 6 0 0 σ (by omega) (by omega) (Or.inl ⟨rfl, wy_byr_0⟩) wj_o.rfl' (by rw [wy_byr_0]; exact hE)
/-- a flag tells whether anything has changed -/
def wy_fl (V0 u : wy_V) (c : Int) : Prop := ((c = 0 ∧ u = V0) ∨ (c = 1 ∧ u ≠ V0)) ∧ wy_le u V0
theorem wy_fl.next {V0 u u' : wy_V} {c x : Int} (h : wy_fl V0 u c) (hl : wy_le u' u) (hx : (x = 0 ∧ u' = u) ∨ (x = 1 ∧ u' ≠ u)) : wy_fl V0 u' (if x = 0 then c else 1) := by
  refine ⟨?_, hl.trans h.2⟩
  rcases hx with ⟨rfl, rfl⟩ | ⟨rfl, hne⟩
  · rw [if_pos rfl]; exact h.1
  · rw [if_neg (by decide)]
    refine Or.inr ⟨rfl, fun e => ?_⟩
    subst e
    exact hne (wy_le.anti hl h.2)
theorem c_shorten (d : Nat) {m : Nat} {P : am_P} {V0 : wy_V} (hM : cd_M σ m P) (hJ0 : wy_J P V0) (hE : wy_E 1099511627776 (σ.2.1 25) V0) : am_MI G (d + 3) mX9_shorten [am_r (some 24), am_r (some m)] σ (fun x σ' => ((x = 0 ∧ wy_R P V0 = V0) ∨ (x = 1 ∧ wy_R P V0 ≠ V0)) ∧ wj_o [25] σ σ' ∧ wy_E 1099511627776 (σ'.2.1 25) (wy_R P V0)) := by
  obtain ⟨m1, m2, m3, m4, m5⟩ := id hM
  obtain ⟨⟨pS1, pS2⟩, ⟨pR1, pR2⟩, -, -, -, poT, poM, pcT⟩ := id m4
  refine am_M.go (by decide) (Nat.le_of_ble_eq_true rfl) rfl ?_
  generalize hQ : (fun (x : Int) (σ' : am_D) => ((x = 0 ∧ wy_R P V0 = V0) ∨ (x = 1 ∧ wy_R P V0 ≠ V0)) ∧ wj_o [25] σ σ' ∧ wy_E 1099511627776 (σ'.2.1 25) (wy_R P V0)) = Q
  refine S_X9_shorten_0 ?_
  refine S_X9_shorten_2 ?_
  have st0 : ∀ τ : am_D, wj_o [25] σ τ → τ.1 = σ.1 := fun τ h => h.1
  -- t
  have T : ∀ (q l : Int), 0 ≤ q → q < pm_S P → 0 ≤ l → l < 3 → pm_oT P l q ≠ -1 → ∀ (n : Nat) (t : Int) (u : wy_V) (c : Int) (τ : am_D), pm_S P - t = n → 0 ≤ t → wy_fl V0 u c → wy_J P u → wj_o [25] σ τ → wy_E 1099511627776 (τ.2.1 25) u → (∀ (u' : wy_V) (c' : Int) (τ' : am_D), wy_t P q l n t u = u' → wy_fl V0 u' c' → wy_J P u' → wj_o [25] σ τ' → wy_E 1099511627776 (τ'.2.1 25) u' → am_X (am_FI G (d + 3) Q) mX9_shorten (0, 0) 116 [some (am_r (some 24)), some (am_r (some m)), some (am_i c'), some (am_i q), some (am_i l), none, none, none, none, none] [] (am_K0, τ')) → am_X (am_FI G (d + 3) Q) mX9_shorten (0, 0) 33 [some (am_r (some 24)), some (am_r (some m)), some (am_i c), some (am_i q), some (am_i l), some (am_i (pm_oT P l q)), some (am_i t), none, none, none] [] (am_K0, τ) := by
    intro q l q0 q1 l0 l1 hot n
    have ho := poT l q
    have hm := poM l q
    have hT1 := m2.2.1 l q (by omega) (by omega) (by omega) (by omega)
    induction n with
    | zero =>
      intro t u c τ hn ht hf hJ hj hEu K
      have e1 := st0 τ hj
      refine S_X9_shorten_33 (by omega) (fun z => absurd z hot) (fun _ => ?_)
      refine S_X9_shorten_39 m1 (by omega) (by rw [e1, m2.1.1]; omega) (fun _ => ?_) (fun z => absurd (by rw [e1, m2.1.1]; omega) z)
      exact K u c τ rfl hf hJ hj hEu
    | succ n ih =>
      intro t u c τ hn ht hf hJ hj hEu K
      have e1 := st0 τ hj
      have htS : t < pm_S P := by omega
      have hct := pcT l t (pm_oM P l q)
      have hT2 := (m2.2.2.1 l t (pm_oM P l q) (by omega) (by omega) (by omega) (by omega) (by omega) (by omega)).1
      refine S_X9_shorten_33 (by omega) (fun z => absurd z hot) (fun _ => ?_)
      refine S_X9_shorten_39 m1 (by omega) (by rw [e1, m2.1.1]; omega) (fun z => absurd z (by rw [e1, m2.1.1]; omega)) (fun _ => ?_)
      refine S_X9_shorten_48 (c_lays _ m1 (by omega) (by omega)) m1 ?_
      rintro _ _ ⟨rfl, rfl⟩
      rw [if_pos (by omega), e1, hT1.2 hot]
      refine S_X9_shorten_56 (c_closesTo _ m1 (by omega) (by omega)) m1 ?_
      rintro _ _ ⟨rfl, rfl⟩
      rw [if_pos (by omega), e1, hT2]
      refine S_X9_shorten_63 (c_pair _) ?_
      rintro _ _ ⟨rfl, rfl⟩
      refine S_X9_shorten_74 (c_jat _ sh_25 (by omega) (by omega)) ?_
      rintro _ _ ⟨rfl, rfl⟩
      rw [hEu _ _ (by omega) (by omega) (by omega) (by omega)]
      have hrg := wy_n_rg (B := 1099511627776) hJ.b (by omega) (pm_oT P l q) t
      have next : ∀ (u' : wy_V) (c' : Int) (τ' : am_D), wy_rl P u q l t = u' → wy_fl V0 u' c' → wj_o [25] σ τ' → wy_E 1099511627776 (τ'.2.1 25) u' → am_X (am_FI G (d + 3) Q) mX9_shorten (0, 0) 110 [some (am_r (some 24)), some (am_r (some m)), some (am_i c'), some (am_i q), some (am_i l), some (am_i (pm_oT P l q)), some (am_i t), none, none, none] [] (am_K0, τ') := by
        intro u' c' τ' e2 hf' hj' hE'
        refine S_X9_shorten_110 ?_
        have hJ' : wy_J P u' := by rw [← e2]; exact wy_J_rl m4 u q l t q0 q1 l0 l1 ht htS hJ
        refine ih (t + 1) u' c' τ' (by omega) (by omega) hf' hJ' hj' hE' (fun u2 c2 τ2 e3 => K u2 c2 τ2 ?_)
        show wy_t P q l n (t + 1) (wy_rl P u q l t) = u2
        rw [e2]; exact e3
      refine S_X9_shorten_79 (by omega) (fun z => ?_) (fun z => ?_)
      · refine next u c τ ?_ hf hj hEu
        unfold wy_rl
        rw [if_neg hot, if_pos z]
      · refine S_X9_shorten_85 (fun w => ?_) (fun w => ?_)
        · rw [wl_40, wl_cmp0 (by omega) (by omega)] at w
          have hnone := hrg.2.2.mp (by omega)
          refine next u c τ ?_ hf hj hEu
          unfold wy_rl
          rw [if_neg hot, if_neg z, hnone]
        · rw [wl_40, wl_cmp0 (by omega) (by omega)] at w
          cases ha : u (pm_oT P l q) t with
          | none => rw [ha] at w; exact absurd (Int.le_refl _) w
          | some a =>
            have hab := hJ.b _ _ a ha
            have hrl : wy_rl P u q l t = wy_by u q (pm_cT P l t (pm_oM P l q)) (a + 1) := by
              unfold wy_rl
              rw [if_neg hot, if_neg z, ha]
            have hl1 : Int64.ofInt (wy_n 1099511627776 (some a)) + 1 = Int64.ofInt ((a + 1 : Nat) : Int) := by
              rw [wl_1, ← Int64.ofInt_add]
              rfl
            have hcc := c_shortenBy (G := G) (σ := τ) d (v := u) (q := q) (to := pm_cT P l t (pm_oM P l q)) (e := a + 1) (by omega) (by omega) (by omega) hJ.b hEu
            rw [← hl1] at hcc
            refine S_X9_shorten_94 hcc ?_
            rintro x τ' ⟨hx, hj', hE'⟩
            rw [← hrl] at hx hE'
            have hfn := hf.next (wy_rl_le (P := P) (v := u) (q := q) (l := l) (t := t)) hx
            refine S_X9_shorten_105 (by rcases hx with ⟨h, -⟩ | ⟨h, -⟩ <;> omega) (fun y => ?_) (fun y => ?_)
            · rw [if_pos y] at hfn
              exact next _ c τ' rfl hfn (hj.trans hj') hE'
            · rw [if_neg y] at hfn
              exact S_X9_shorten_108 (next _ 1 τ' rfl hfn (hj.trans hj') hE')
  -- l
  have L : ∀ (q : Int), 0 ≤ q → q < pm_S P → ∀ (n : Nat) (l : Int) (u : wy_V) (c : Int) (τ : am_D), 3 - l = n → 0 ≤ l → wy_fl V0 u c → wy_J P u → wj_o [25] σ τ → wy_E 1099511627776 (τ.2.1 25) u → (∀ (u' : wy_V) (c' : Int) (τ' : am_D), wy_l P q n l u = u' → wy_fl V0 u' c' → wy_J P u' → wj_o [25] σ τ' → wy_E 1099511627776 (τ'.2.1 25) u' → am_X (am_FI G (d + 3) Q) mX9_shorten (0, 0) 122 [some (am_r (some 24)), some (am_r (some m)), some (am_i c'), some (am_i q), none, none, none, none, none, none] [] (am_K0, τ')) → am_X (am_FI G (d + 3) Q) mX9_shorten (0, 0) 15 [some (am_r (some 24)), some (am_r (some m)), some (am_i c), some (am_i q), some (am_i l), none, none, none, none, none] [] (am_K0, τ) := by
    intro q q0 q1 n
    induction n with
    | zero =>
      intro l u c τ hn hl hf hJ hj hEu K
      refine S_X9_shorten_15 (by omega) (fun _ => ?_) (fun z => absurd (by omega) z)
      exact K u c τ rfl hf hJ hj hEu
    | succ n ih =>
      intro l u c τ hn hl hf hJ hj hEu K
      have e1 := st0 τ hj
      have ho := poT l q
      have hT1 := m2.2.1 l q (by omega) (by omega) (by omega) (by omega)
      refine S_X9_shorten_15 (by omega) (fun z => absurd z (by omega)) (fun _ => ?_)
      refine S_X9_shorten_21 (c_opensTo _ m1 (by omega) (by omega)) m1 ?_
      rintro _ _ ⟨rfl, rfl⟩
      rw [if_pos (by omega), e1, hT1.1]
      refine S_X9_shorten_30 ?_
      have back : ∀ (u' : wy_V) (c' : Int) (τ' : am_D), wy_t P q l (pm_S P).toNat 0 u = u' → wy_fl V0 u' c' → wy_J P u' → wj_o [25] σ τ' → wy_E 1099511627776 (τ'.2.1 25) u' → am_X (am_FI G (d + 3) Q) mX9_shorten (0, 0) 116 [some (am_r (some 24)), some (am_r (some m)), some (am_i c'), some (am_i q), some (am_i l), none, none, none, none, none] [] (am_K0, τ') := by
        intro u' c' τ' e2 hf' hJ' hj' hE'
        refine S_X9_shorten_116 ?_
        refine ih (l + 1) u' c' τ' (by omega) (by omega) hf' hJ' hj' hE' (fun u2 c2 τ2 e3 => K u2 c2 τ2 ?_)
        show wy_l P q n (l + 1) (wy_t P q l (pm_S P).toNat 0 u) = u2
        rw [e2]; exact e3
      by_cases hot : pm_oT P l q = -1
      · have hskip : ∀ (k : Nat) (t : Int) (w : wy_V), wy_t P q l k t w = w := by
          intro k
          induction k with
          | zero => intro t w; rfl
          | succ k ihk =>
            intro t w
            show wy_t P q l k (t + 1) (wy_rl P w q l t) = w
            rw [show wy_rl P w q l t = w by unfold wy_rl; rw [if_pos hot]]
            exact ihk _ _
        refine S_X9_shorten_33 (by omega) (fun _ => ?_) (fun z => absurd hot z)
        exact back u c τ (hskip _ _ _) hf hJ hj hEu
      · exact T q l q0 q1 hl (by omega) hot (pm_S P).toNat 0 u c τ (by omega) (by omega) hf hJ hj hEu back
  -- q
  have Qq : ∀ (n : Nat) (q : Int) (u : wy_V) (c : Int) (τ : am_D), pm_S P - q = n → 0 ≤ q → wy_fl V0 u c → wy_J P u → wj_o [25] σ τ → wy_E 1099511627776 (τ.2.1 25) u → wy_q P n q u = wy_R P V0 → am_X (am_FI G (d + 3) Q) mX9_shorten (0, 0) 4 [some (am_r (some 24)), some (am_r (some m)), some (am_i c), some (am_i q), none, none, none, none, none, none] [] (am_K0, τ) := by
    intro n
    induction n with
    | zero =>
      intro q u c τ hn hq hf hJ hj hEu he
      have e1 := st0 τ hj
      have he : u = wy_R P V0 := he
      subst he
      refine S_X9_shorten_4 m1 (by omega) (by rw [e1, m2.1.1]; omega) (fun _ => ?_) (fun z => absurd (by rw [e1, m2.1.1]; omega) z)
      refine S_X9_shorten_128 (by rcases hf.1 with ⟨h, -⟩ | ⟨h, -⟩ <;> omega) ?_
      rw [← hQ]
      exact ⟨hf.1, hj, hEu⟩
    | succ n ih =>
      intro q u c τ hn hq hf hJ hj hEu he
      have e1 := st0 τ hj
      refine S_X9_shorten_4 m1 (by omega) (by rw [e1, m2.1.1]; omega) (fun z => absurd z (by rw [e1, m2.1.1]; omega)) (fun _ => ?_)
      refine S_X9_shorten_12 ?_
      refine L q hq (by omega) 3 0 u c τ (by omega) (by omega) hf hJ hj hEu (fun u' c' τ' e2 hf' hJ' hj' hE' => ?_)
      refine S_X9_shorten_122 ?_
      refine ih (q + 1) u' c' τ' (by omega) (by omega) hf' hJ' hj' hE' ?_
      rw [← e2]
      exact he
  exact Qq (pm_S P).toNat 0 V0 0 σ (by omega) (by omega) ⟨Or.inl ⟨rfl, rfl⟩, wy_le.rfl'⟩ hJ0 wj_o.rfl' hE rfl
end
