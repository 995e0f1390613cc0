section
variable {G : am_G} {σ : am_D}
theorem wy_n0 {B x y : Int} (hx : 0 ≤ x ∧ x < 6) : wy_n B (wy_0 x y) = if x = y then 0 else B := by
  unfold wy_0
  by_cases z : x = y
  · rw [if_pos z, if_pos ⟨hx.1, hx.2, z⟩]; rfl
  · rw [if_neg z, if_neg (fun w => z w.2.2)]; rfl
theorem c_measure (d : Nat) {m : Nat} {P : am_P} (hM : cd_M σ m P) : am_MV G (d + 4) mX9_measure [am_r (some 24), am_r (some m)] σ (fun σ' => wj_o [25] σ σ' ∧ wy_E 1099511627776 (σ'.2.1 25) (wy_I P 36)) := by
  have m4 := hM.2.2.2.1
  obtain ⟨fx1, fx2⟩ := wy_fix m4
  refine am_M.go (by decide) (Nat.le_of_ble_eq_true rfl) rfl ?_
  -- the rounds
  have R : ∀ (n k : Nat) (c : Int) (τ : am_D), k + n = 37 → (c = 0 ∧ wy_I P k = wy_I P 36) ∨ c = 1 → wj_o [25] σ τ → wy_E 1099511627776 (τ.2.1 25) (wy_I P k) → am_X (am_FV G (d + 4) (fun σ' => wj_o [25] σ σ' ∧ wy_E 1099511627776 (σ'.2.1 25) (wy_I P 36))) mX9_measure (0, 0) 56 [some (am_r (some 24)), some (am_r (some m)), some (am_i c), some (am_i k)] [] (am_K0, τ) := by
    intro n
    induction n with
    | zero =>
      intro k c τ hk hc hj hE
      have hk : k = 37 := by omega
      subst hk
      refine S_X9_measure_56 (by omega) (fun _ => ?_) (fun z => absurd (by omega) z)
      have e : wy_I P 37 = wy_I P 36 := fx1
      exact S_X9_measure_78 ⟨hj, by rw [← e]; exact hE⟩
    | succ n ih =>
      intro k c τ hk hc hj hE
      refine S_X9_measure_56 (by omega) (fun z => absurd z (by omega)) (fun _ => ?_)
      refine S_X9_measure_62 (by rcases hc with ⟨h, -⟩ | h <;> omega) (fun z => ?_) (fun z => ?_)
      · rcases hc with ⟨-, h⟩ | h
        · exact S_X9_measure_78 ⟨hj, by rw [← h]; exact hE⟩
        · omega
      · refine S_X9_measure_66 (c_shorten _ (P := P) (V0 := wy_I P k) (cd_M_of (fun b _ _ => by rw [hj.1]) hM) (wy_J_I m4 k) hE) ?_
        rintro x τ' ⟨hx, hj', hE'⟩
        refine S_X9_measure_72 ?_
        have := ih (k + 1) x τ' (by omega) (by
          rcases hx with ⟨rfl, h⟩ | ⟨rfl, -⟩
          · exact Or.inl ⟨rfl, (show wy_I P (k + 1) = wy_I P k from h).trans (fx2 k h)⟩
          · exact Or.inr rfl) (hj.trans hj') hE'
        exact this
  -- the start
  have fin : ∀ τ : am_D, wj_o [25] σ τ → wy_E 1099511627776 (τ.2.1 25) wy_0 → am_X (am_FV G (d + 4) (fun σ' => wj_o [25] σ σ' ∧ wy_E 1099511627776 (σ'.2.1 25) (wy_I P 36))) mX9_measure (0, 0) 52 [some (am_r (some 24)), some (am_r (some m)), none, none] [] (am_K0, τ) := by
    intro τ hj hE
    refine S_X9_measure_52 ?_
    refine S_X9_measure_54 ?_
    exact R 37 0 1 τ rfl (Or.inr rfl) hj hE
  have C : ∀ (q : Int), 0 ≤ q → q < 6 → ∀ (n : Nat) (r : Int) (τ : am_D), 6 - r = n → 0 ≤ r → wj_o [25] σ τ → (∀ x y : Int, 0 ≤ x → x < 6 → 0 ≤ y → y < 6 → (x < q ∨ (x = q ∧ y < r)) → τ.2.1 25 (6 * x + y) = Int64.ofInt (wy_n 1099511627776 (wy_0 x y))) → (∀ τ' : am_D, wj_o [25] σ τ' → (∀ x y : Int, 0 ≤ x → x < 6 → 0 ≤ y → y < 6 → x < q + 1 → τ'.2.1 25 (6 * x + y) = Int64.ofInt (wy_n 1099511627776 (wy_0 x y))) → am_X (am_FV G (d + 4) (fun σ' => wj_o [25] σ σ' ∧ wy_E 1099511627776 (σ'.2.1 25) (wy_I P 36))) mX9_measure (0, 0) 46 [some (am_r (some 24)), some (am_r (some m)), some (am_i q), none] [] (am_K0, τ')) → am_X (am_FV G (d + 4) (fun σ' => wj_o [25] σ σ' ∧ wy_E 1099511627776 (σ'.2.1 25) (wy_I P 36))) mX9_measure (0, 0) 10 [some (am_r (some 24)), some (am_r (some m)), some (am_i q), some (am_i r)] [] (am_K0, τ) := by
    intro q q0 q1 n
    induction n with
    | zero =>
      intro r τ hn hr hj hE K
      refine S_X9_measure_10 (by omega) (fun _ => ?_) (fun z => absurd (by omega) z)
      exact K τ hj (fun x y x0 x1 y0 y1 hx => hE x y x0 x1 y0 y1 (by omega))
    | succ n ih =>
      intro r τ hn hr hj hE K
      refine S_X9_measure_10 (by omega) (fun z => absurd z (by omega)) (fun _ => ?_)
      refine S_X9_measure_16 (c_pair _) ?_
      rintro _ _ ⟨rfl, rfl⟩
      have go : ∀ x : Int64, x = Int64.ofInt (wy_n 1099511627776 (wy_0 q r)) → am_X (am_FV G (d + 4) (fun σ' => wj_o [25] σ σ' ∧ wy_E 1099511627776 (σ'.2.1 25) (wy_I P 36))) mX9_measure (0, 0) 37 [some (am_r (some 24)), some (am_r (some m)), some (am_i q), some (am_i r)] [am_l x, am_i (6 * q + r), am_r (some 25)] (am_K0, τ) := by
        intro x hx
        refine S_X9_measure_37 (c_jput _ sh_25 (by omega) (by omega)) ?_
        rintro _ rfl
        refine S_X9_measure_40 ?_
        refine ih (r + 1) _ (by omega) (by omega) (hj.trans (wj_o.pJ (by simp))) (fun a b a0 a1 b0 b1 hab => ?_) K
        rw [am_pJ_row]
        by_cases z : a = q ∧ b = r
        · rw [z.1, z.2, am_u1_eqJ, hx]
        · rw [am_u1_neJ (by omega)]
          exact hE a b a0 a1 b0 b1 (by omega)
      refine S_X9_measure_25 (by omega) (by omega) (fun z => ?_) (fun z => ?_)
      · exact S_X9_measure_34 (go _ (by rw [wy_n0 ⟨q0, q1⟩, if_neg z]; exact wl_40))
      · exact S_X9_measure_30 (go _ (by rw [wy_n0 ⟨q0, q1⟩, if_pos (Classical.not_not.mp z)]; exact wl_0))
  have D : ∀ (n : Nat) (q : Int) (τ : am_D), 6 - q = n → 0 ≤ q → wj_o [25] σ τ → (∀ x y : Int, 0 ≤ x → x < 6 → 0 ≤ y → y < 6 → x < q → τ.2.1 25 (6 * x + y) = Int64.ofInt (wy_n 1099511627776 (wy_0 x y))) → am_X (am_FV G (d + 4) (fun σ' => wj_o [25] σ σ' ∧ wy_E 1099511627776 (σ'.2.1 25) (wy_I P 36))) mX9_measure (0, 0) 2 [some (am_r (some 24)), some (am_r (some m)), some (am_i q), none] [] (am_K0, τ) := by
    intro n
    induction n with
    | zero =>
      intro q τ hn hq hj hE
      refine S_X9_measure_2 (by omega) (fun _ => ?_) (fun z => absurd (by omega) z)
      exact fin τ hj (fun x y x0 x1 y0 y1 => hE x y x0 x1 y0 y1 (by omega))
    | succ n ih =>
      intro q τ hn hq hj hE
      refine S_X9_measure_2 (by omega) (fun z => absurd z (by omega)) (fun _ => ?_)
      refine S_X9_measure_8 ?_
      refine C q hq (by omega) 6 0 τ (by omega) (by omega) hj (fun x y x0 x1 y0 y1 h => hE x y x0 x1 y0 y1 (by omega)) (fun τ' hj' hE' => ?_)
      refine S_X9_measure_46 ?_
      exact ih (q + 1) τ' (by omega) (by omega) hj' hE'
  exact S_X9_measure_0 (D 6 0 σ (by omega) (by omega) wj_o.rfl' (fun x y x0 x1 y0 y1 h => absurd h (by omega)))
-- the reference
theorem r_lets (d : Nat) {P : am_P} {sl q l s : Int} {v : wy_V} (hsl : 0 ≤ sl ∧ sl < 6) (hT : rm_T σ sl P) (hP : pm_ok P) (hq : 0 ≤ q ∧ q < pm_S P) (hl : 0 ≤ l ∧ l < 3) (hs : 0 ≤ s ∧ s < pm_S P) (hot : pm_oT P l q ≠ -1) (hJ : wy_J P v) (hE : wy_E 1152921504606846976 (σ.2.1 129) v) : am_MI G (d + 2) mX11_lets [am_r (some 91), am_i sl, am_i q, am_i l, am_i s] σ (fun x σ' => ((x = 0 ∧ wy_rl P v q l s = v) ∨ (x = 1 ∧ wy_rl P v q l s ≠ v)) ∧ wj_o [129] σ σ' ∧ wy_E 1152921504606846976 (σ'.2.1 129) (wy_rl P v q l s)) := by
  obtain ⟨⟨pS1, pS2⟩, ⟨pR1, pR2⟩, -, -, -, poT, poM, pcT⟩ := id hP
  have hb := hJ.b
  have ho := poT l q
  have hm := poM l q
  have hct := pcT l s (pm_oM P l q)
  obtain ⟨t1, t2⟩ := hT.2.1 l q (by omega) (by omega) (by omega) (by omega)
  have t3 := (hT.2.2.1 l s (pm_oM P l q) (by omega) (by omega) (by omega) (by omega) (by omega) (by omega)).1
  have t2 := t2 hot
  have t94 := hT.1.1
  have hrg := wy_n_rg (B := 1152921504606846976) hb (by omega)
  refine am_M.go (by decide) (Nat.le_of_ble_eq_true rfl) rfl ?_
  refine S_X11_lets_0 (c_openAt _) ?_
  rintro _ _ ⟨rfl, rfl⟩
  refine S_X11_lets_8 (by omega) (by omega) (by rw [t1]; omega) (by rw [t1]; omega) ?_
  rw [t1, hE _ _ (by omega) (by omega) (by omega) (by omega)]
  refine S_X11_lets_28 (by omega) (by omega) (c_closeAt _) ?_
  rintro _ _ ⟨rfl, rfl⟩
  rw [t2]
  refine S_X11_lets_46 sh_100 (by omega) (by omega) ?_
  rw [t3]
  refine S_X11_lets_49 ?_
  have hr0 := hrg (pm_oT P l q) s
  refine S_X11_lets_52 (fun z => ?_) (fun z => ?_)
  · rw [wl_60, wl_cmpE (by omega) (by omega)] at z
    have hn := hr0.2.2.mp z
    have e : wy_rl P v q l s = v := by
      unfold wy_rl
      rw [if_neg hot]
      split
      · rfl
      · rw [hn]
    rw [e]
    exact S_X11_lets_67 ⟨Or.inl ⟨rfl, rfl⟩, wj_o.rfl', hE⟩
  rw [wl_60, wl_cmpE (by omega) (by omega)] at z
  refine S_X11_lets_61 (by omega) (fun y => ?_) (fun y => ?_)
  rotate_left
  · have y := Classical.not_not.mp y
    have e : wy_rl P v q l s = v := by
      unfold wy_rl
      rw [if_neg hot, if_pos y]
    rw [e]
    exact S_X11_lets_67 ⟨Or.inl ⟨rfl, rfl⟩, wj_o.rfl', hE⟩
  cases ha : v (pm_oT P l q) s with
  | none => rw [ha] at z; exact absurd rfl z
  | some a =>
  have hab := hb _ _ a ha
  generalize hto : pm_cT P l s (pm_oM P l q) = to at *
  have hrl : wy_rl P v q l s = wy_by v q to (a + 1) := by
    unfold wy_rl
    rw [if_neg hot, hto, if_neg y, ha]
  rw [hrl]
  refine S_X11_lets_69 ?_
  -- columns behind S stay
  have hcol : ∀ r : Int, pm_S P ≤ r → wy_byr v q to (a + 1) r = wy_byr v q to (a + 1) 6 ∨ 6 < r := by
    intro r hr
    by_cases w : r ≤ 6
    · left
      funext x y
      unfold wy_byr
      by_cases z2 : x = q ∧ 0 ≤ y ∧ y < r
      · rw [if_pos z2, if_pos (by omega)]
      · rw [if_neg z2]
        by_cases z3 : x = q ∧ 0 ≤ y ∧ y < 6
        · rw [if_pos z3, z3.1]
          have hn : v to y = none := by
            apply Classical.byContradiction
            intro hne
            have := hJ.1 to y hne
            omega
          rw [hn]
          rfl
        · rw [if_neg z3]
    · exact Or.inr (by omega)
  have loop : ∀ (n : Nat) (r c : Int) (τ : am_D), pm_S P - r = n → 0 ≤ r → ((c = 0 ∧ wy_byr v q to (a + 1) r = v) ∨ (c = 1 ∧ wy_byr v q to (a + 1) r ≠ v)) → wj_o [129] σ τ → wy_E 1152921504606846976 (τ.2.1 129) (wy_byr v q to (a + 1) r) → am_X (am_FI G (d + 2) (fun x σ' => ((x = 0 ∧ wy_by v q to (a + 1) = v) ∨ (x = 1 ∧ wy_by v q to (a + 1) ≠ v)) ∧ wj_o [129] σ σ' ∧ wy_E 1152921504606846976 (σ'.2.1 129) (wy_by v q to (a + 1)))) mX11_lets (0, 0) 72 [some (am_r (some 91)), some (am_i sl), some (am_i q), none, none, none, some (am_l (Int64.ofInt (wy_n 1152921504606846976 (some a)))), none, some (am_i to), some (am_i c), some (am_i r)] [] (am_K0, τ) := by
    intro n
    induction n with
    | zero =>
      intro r c τ hn hr hc ho hEr
      have hr6 := (hcol r (by omega)).resolve_right (by omega)
      rw [hr6, wy_byr_6] at hc hEr
      refine S_X11_lets_72 hsl.1 hsl.2 (by omega) (by rw [ho.1, t94]; omega) (fun _ => ?_) (fun w => absurd (by rw [ho.1, t94]; omega) w)
      exact S_X11_lets_179 (by rcases hc with ⟨h, -⟩ | ⟨h, -⟩ <;> omega) ⟨hc, ho, hEr⟩
    | succ n ih =>
      intro r c τ hn hr hc ho hEr
      have r6 : r < 6 := by omega
      have hs := wy_byr_s (v := v) (q := q) (to := to) (e := a + 1) hr
      have h1 := hrg to r
      have h2 := hrg q r
      have eT := hEr to r (by omega) (by omega) hr r6
      have eQ := hEr q r (by omega) (by omega) hr r6
      rw [wy_byr_at] at eT eQ
      refine S_X11_lets_72 hsl.1 hsl.2 (by omega) (by rw [ho.1, t94]; omega) (fun w => absurd w (by rw [ho.1, t94]; omega)) (fun _ => ?_)
      -- as it was
      have same : wy_1 (v q r) (a + 1) (v to r) = v q r → am_X (am_FI G (d + 2) (fun x σ' => ((x = 0 ∧ wy_by v q to (a + 1) = v) ∨ (x = 1 ∧ wy_by v q to (a + 1) ≠ v)) ∧ wj_o [129] σ σ' ∧ wy_E 1152921504606846976 (σ'.2.1 129) (wy_by v q to (a + 1)))) mX11_lets (0, 0) 173 [some (am_r (some 91)), some (am_i sl), some (am_i q), none, none, none, some (am_l (Int64.ofInt (wy_n 1152921504606846976 (some a)))), none, some (am_i to), some (am_i c), some (am_i r)] [] (am_K0, τ) := by
        intro hsame
        have heq : wy_byr v q to (a + 1) (r + 1) = wy_byr v q to (a + 1) r := by
          rw [hs]
          funext x y
          by_cases w : x = q ∧ y = r
          · rw [if_pos w, w.1, w.2, wy_byr_at]; exact hsame
          · rw [if_neg w]
        refine S_X11_lets_173 ?_
        exact ih (r + 1) c τ (by omega) (by omega) (by rw [heq]; exact hc) ho (by rw [heq]; exact hEr)
      refine S_X11_lets_83 (by omega) (by omega) (fun w => ?_) (fun w => ?_)
      · rw [eT, wl_60, wl_cmpE (by omega) (by omega)] at w
        have hn := h1.2.2.mp w
        exact same (by rw [hn]; rfl)
      rw [eT, wl_60, wl_cmpE (by omega) (by omega)] at w
      cases hto' : v to r with
      | none => rw [hto'] at w; exact absurd rfl w
      | some b =>
      have hbb := hb to r b hto'
      have hsum : ((1 : Int64) + Int64.ofInt (wy_n 1152921504606846976 (some a))) + τ.2.1 129 (6 * to + r) = Int64.ofInt ((a + 1 + b : Nat) : Int) := by
        rw [eT, hto', wl_1, ← Int64.ofInt_add, ← Int64.ofInt_add]
        congr 1
        show (1 : Int) + (a : Int) + (b : Int) = _
        omega
      refine S_X11_lets_103 (by omega) (by omega) (by omega) (by omega) (fun u => ?_) (fun u => ?_)
      · rw [hsum, eQ, wl_cmpL (by omega) (by omega)] at u
        have hb2 : wy_1 (v q r) (a + 1) (v to r) = some (a + 1 + b) ∧ some (a + 1 + b) ≠ v q r := by
          rw [hto']
          unfold wy_1
          cases hq' : v q r with
          | none => exact ⟨rfl, fun w => nomatch w⟩
          | some m =>
            rw [hq'] at u
            have u : ((a + 1 + b : Nat) : Int) < (m : Int) := u
            refine ⟨?_, fun w => ?_⟩
            · show (if a + 1 + b < m then some (a + 1 + b) else some m) = some (a + 1 + b)
              rw [if_pos (by omega)]
            · injection w with w
              omega
        refine S_X11_lets_140 (by omega) (by omega) (by omega) (by omega) ?_
        rw [hsum]
        refine S_X11_lets_170 ?_
        refine S_X11_lets_173 ?_
        refine ih (r + 1) 1 _ (by omega) (by omega) (Or.inr ⟨rfl, fun w => ?_⟩) (ho.trans (wj_o.pJ (by simp))) (fun x y x0 x1 y0 y1 => ?_)
        · have := congrFun (congrFun w q) r
          rw [hs] at this
          dsimp only at this
          rw [if_pos ⟨rfl, rfl⟩, hb2.1] at this
          exact hb2.2 this
        · rw [am_pJ_row, hs]
          dsimp only
          by_cases w : x = q ∧ y = r
          · rw [if_pos w, w.1, w.2, am_u1_eqJ, hb2.1]
            rfl
          · rw [if_neg w, am_u1_neJ (by omega)]
            exact hEr x y x0 x1 y0 y1
      · rw [hsum, eQ, wl_cmpL (by omega) (by omega)] at u
        refine S_X11_lets_137 ?_
        refine same ?_
        rw [hto']
        unfold wy_1
        cases hq' : v q r with
        | none =>
          rw [hq'] at u
          have u : ¬ ((a + 1 + b : Nat) : Int) < 1152921504606846976 := u
          omega
        | some m =>
          rw [hq'] at u
          have u : ¬ ((a + 1 + b : Nat) : Int) < (m : Int) := u
          show (if a + 1 + b < m then some (a + 1 + b) else some m) = some m
          rw [if_neg (by omega)]
  exact loop (pm_S P).toNat 0 0 σ (by omega) (by omega) (Or.inl ⟨rfl, wy_byr_0⟩) wj_o.rfl' (by rw [wy_byr_0]; exact hE)
end
