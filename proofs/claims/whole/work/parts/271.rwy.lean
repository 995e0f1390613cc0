section
variable {G : am_G} {σ : am_D}
/-- slot k is told -/
def rt_k (σ : am_D) (k : Int) : Prop := (0 ≤ k ∧ k ≤ 3) ∧ σ.1 93 k = 1
theorem r_isMachine (d : Nat) {k : Int} (hk : -2147483648 ≤ k ∧ k ≤ 2147483647) (h93 : ∀ j : Int, 0 ≤ j → j ≤ 3 → σ.1 93 j = 0 ∨ σ.1 93 j = 1) : am_MI G (d + 2) mX11_isMachine [am_r (some 91), am_i k] σ (fun x σ' => ((x = 1 ∧ rt_k σ k) ∨ (x = 0 ∧ ¬ rt_k σ k)) ∧ σ = σ') := by
  refine am_M.go (by decide) (Nat.le_of_ble_eq_true rfl) rfl ?_
  refine S_X11_isMachine_0 (c_isIn _ hk (by omega) (by omega)) ?_
  rintro _ _ ⟨rfl, rfl⟩
  by_cases z : 0 ≤ k ∧ k ≤ 3
  · rw [if_pos z]
    have h01 := h93 k z.1 z.2
    refine S_X11_isMachine_6 (by decide) (fun y => absurd y (by decide)) (fun _ => ?_)
    refine S_X11_isMachine_9 (by omega) (by omega) (by omega) (fun y => ?_) (fun y => ?_)
    · exact S_X11_isMachine_22 (S_X11_isMachine_23 (Or.inl rfl) ⟨Or.inr ⟨rfl, fun w => by have := w.2; omega⟩, rfl⟩)
    · exact S_X11_isMachine_18 (S_X11_isMachine_23 (Or.inr rfl) ⟨Or.inl ⟨rfl, z, by omega⟩, rfl⟩)
  · rw [if_neg z]
    refine S_X11_isMachine_6 (by decide) (fun _ => ?_) (fun y => absurd rfl y)
    exact S_X11_isMachine_22 (S_X11_isMachine_23 (Or.inl rfl) ⟨Or.inr ⟨rfl, fun w => z w.1⟩, rfl⟩)
theorem r_least (d : Nat) {P : am_P} {k : Int} (hk : -2147483648 ≤ k ∧ k ≤ 2147483647) (h93 : ∀ j : Int, 0 ≤ j → j ≤ 3 → σ.1 93 j = 0 ∨ σ.1 93 j = 1) (hT : rt_k σ k → rm_T σ k P) (hP : rt_k σ k → pm_ok P) : am_MI G (d + 4) mX11_least [am_r (some 91), am_i k] σ (fun x σ' => ((rt_k σ k ∧ x = wy_least P) ∨ (¬ rt_k σ k ∧ x = -1)) ∧ wj_o [129] σ σ') := by
  refine am_M.go (by decide) (Nat.le_of_ble_eq_true rfl) rfl ?_
  refine S_X11_least_0 (r_isMachine _ hk h93) ?_
  rintro x _ ⟨hx, rfl⟩
  rcases hx with ⟨rfl, hr⟩ | ⟨rfl, hr⟩
  rotate_left
  · refine S_X11_least_5 (by decide) (fun z => absurd rfl z) (fun _ => ?_)
    exact S_X11_least_8 ⟨Or.inr ⟨hr, rfl⟩, wj_o.rfl'⟩
  have hT := hT hr
  have hP := hP hr
  have hkr := hr.1
  have hS := hP.1
  have hJ := wy_J_I hP 36
  have t94 := hT.1.1
  refine S_X11_least_5 (by decide) (fun _ => ?_) (fun z => absurd (by decide) z)
  refine S_X11_least_10 (r_laysLeast _ (by omega) hT hP) ?_
  rintro τ ⟨hj, hE⟩
  have hTτ : rm_T τ k P := rm_T_move hP hT (fun a _ _ j _ _ => by rw [hj.1])
  refine S_X11_least_15 ?_
  refine S_X11_least_19 ?_
  rw [wl_60]
  have loop : ∀ (n : Nat) (r : Int) (b : Option Nat), pm_S P - r = n → 0 ≤ r → (∀ k, b = some k → k < 68719476736) → wy_ans (wy_bs P (wy_I P 36) n r b) = wy_least P → am_X (am_FI G (d + 4) (fun x σ' => ((rt_k σ k ∧ x = wy_least P) ∨ (¬ rt_k σ k ∧ x = -1)) ∧ wj_o [129] σ σ')) mX11_least (0, 0) 22 [some (am_r (some 91)), some (am_i k), some (am_l (Int64.ofInt (wy_n 1152921504606846976 b))), none, some (am_i r)] [] (am_K0, τ) := by
    intro n
    induction n with
    | zero =>
      intro r b hn hr' hb he
      refine S_X11_least_22 (by omega) (by omega) (by omega) (by rw [hj.1, t94]; omega) (fun _ => ?_) (fun z => absurd (by rw [hj.1, t94]; omega) z)
      have he : wy_ans b = wy_least P := he
      cases b with
      | none =>
        refine S_X11_least_67 (fun z => absurd (by rw [wl_60]; exact (wl_cmpE (by decide) (by decide)).mpr rfl) z) (fun _ => ?_)
        exact S_X11_least_75 (S_X11_least_81 ⟨Or.inl ⟨hr, he⟩, hj⟩)
      | some j =>
        have hk := hb j rfl
        refine S_X11_least_67 (fun _ => ?_) (fun z => ?_)
        · exact S_X11_least_79 (S_X11_least_81 ⟨Or.inl ⟨hr, he⟩, hj⟩)
        · rw [wl_60, show wy_n 1152921504606846976 (some j) = (j : Int) from rfl, wl_cmpE (by omega) (by omega)] at z
          omega
    | succ n ih =>
      intro r b hn hr' hb he
      obtain ⟨e1, e2⟩ := hTτ.endR hP (q := r) (by omega)
      have he : wy_ans (wy_bs P (wy_I P 36) n (r + 1) (if (pm_eX P r).isSome then wy_mn b (wy_I P 36 0 r) else b)) = wy_least P := he
      refine S_X11_least_22 (by omega) (by omega) (by omega) (by rw [hj.1, t94]; omega) (fun z => absurd z (by rw [hj.1, t94]; omega)) (fun _ => ?_)
      cases hx : pm_eX P r with
      | none =>
        have e1 := e1 hx
        rw [hx] at he
        refine S_X11_least_33 (by omega) (by omega) (by omega) (fun _ => ?_) (fun z => absurd e1 z)
        exact S_X11_least_61 (ih (r + 1) b (by omega) (by omega) hb he)
      | some w =>
        obtain ⟨y1, y2, y3⟩ := e2 w hx
        rw [hx] at he
        refine S_X11_least_33 (by omega) (by omega) (by omega) (fun z => absurd z (by omega)) (fun _ => ?_)
        have hEr := hE 0 r (by omega) (by omega) (by omega) (by omega)
        rw [show 6 * (0 : Int) + r = r by omega] at hEr
        refine S_X11_least_49 (by omega) (by omega) (c_min _) ?_
        rintro _ _ ⟨rfl, rfl⟩
        rw [hEr]
        have hvb : ∀ k, wy_I P 36 0 r = some k → k < 68719476736 := fun k hk => hJ.b 0 r k hk
        rw [wy_mn_n hb hvb (by omega)]
        refine S_X11_least_61 ?_
        exact ih (r + 1) _ (by omega) (by omega) (wy_mn_b hb hvb) he
  exact loop (pm_S P).toNat 0 none (by omega) (by omega) (fun k hk => nomatch hk) rfl
theorem r_states (d : Nat) {P : am_P} {k : Int} (hk : -2147483648 ≤ k ∧ k ≤ 2147483647) (h93 : ∀ j : Int, 0 ≤ j → j ≤ 3 → σ.1 93 j = 0 ∨ σ.1 93 j = 1) (hT : rt_k σ k → rm_T σ k P) (hP : rt_k σ k → pm_ok P) : am_MI G (d + 4) mX11_states [am_r (some 91), am_i k] σ (fun x σ' => ((rt_k σ k ∧ x = wy_states P) ∨ (¬ rt_k σ k ∧ x = -1)) ∧ wj_o [129] σ σ') := by
  refine am_M.go (by decide) (Nat.le_of_ble_eq_true rfl) rfl ?_
  refine S_X11_states_0 (r_isMachine _ hk h93) ?_
  rintro x _ ⟨hx, rfl⟩
  rcases hx with ⟨rfl, hr⟩ | ⟨rfl, hr⟩
  rotate_left
  · refine S_X11_states_5 (by decide) (fun z => absurd rfl z) (fun _ => ?_)
    exact S_X11_states_8 ⟨Or.inr ⟨hr, rfl⟩, wj_o.rfl'⟩
  have hT := hT hr
  have hP := hP hr
  have hkr := hr.1
  obtain ⟨⟨pS1, pS2⟩, ⟨pR1, pR2⟩, -, -, -, poT, poM, pcT⟩ := id hP
  have hJ := wy_J_I hP 36
  have t94 := hT.1.1
  refine S_X11_states_5 (by decide) (fun _ => ?_) (fun z => absurd (by decide) z)
  refine S_X11_states_10 (r_laysLeast _ (by omega) hT hP) ?_
  rintro τ ⟨hj, hE⟩
  refine S_X11_states_15 ?_
  refine S_X11_states_17 ?_
  have hws : wy_states P = (st_I P (wy_I P 36) 5 : Nat) := rfl
  generalize wy_I P 36 = v at *
  generalize hQ : (fun (x : Int) (σ' : am_D) => ((rt_k σ k ∧ x = wy_states P) ∨ (¬ rt_k σ k ∧ x = -1)) ∧ wj_o [129] σ σ') = Q
  -- letters
  have L : ∀ (w q : Int), 0 ≤ q → q < pm_S P → ∀ (n : Nat) (l : Int) (b : Nat), 3 - l = n → 0 ≤ l → b < 2 ^ (pm_S P).toNat → (∀ b' : Nat, b' = st_l P q n l b → b' < 2 ^ (pm_S P).toNat → am_X (am_FI G (d + 4) Q) mX11_states (0, 0) 157 [some (am_r (some 91)), some (am_i k), some (am_i (b' : Nat)), some (am_i w), some (am_i q), none] [] (am_K0, τ)) → am_X (am_FI G (d + 4) Q) mX11_states (0, 0) 106 [some (am_r (some 91)), some (am_i k), some (am_i (b : Nat)), some (am_i w), some (am_i q), some (am_i l)] [] (am_K0, τ) := by
    intro w q q0 q1 n
    induction n with
    | zero =>
      intro l b hn hl hb K
      refine S_X11_states_106 (by omega) (fun _ => ?_) (fun z => absurd (by omega) z)
      exact K b rfl hb
    | succ n ih =>
      intro l b hn hl hb K
      have ho := poT l q
      have t1 := (hT.2.1 l q (by omega) (by omega) (by omega) (by omega)).1
      have b64 := st_64 hP hb
      refine S_X11_states_106 (by omega) (fun z => absurd z (by omega)) (fun _ => ?_)
      refine S_X11_states_112 (c_openAt _) ?_
      rintro _ _ ⟨rfl, rfl⟩
      refine S_X11_states_125 sh_98 (by omega) (by omega) (by rw [hj.1, t1]; omega) (fun z => ?_) (fun z => ?_)
      · rw [hj.1, t1] at z
        refine S_X11_states_134 (c_openAt _) ?_
        rintro _ _ ⟨rfl, rfl⟩
        refine S_X11_states_147 sh_98 (by omega) (by omega) ?_
        rw [hj.1, t1]
        obtain ⟨e1, e2⟩ := sb_pow (k := (pm_oT P l q).toNat) (by omega)
        rw [Int.toNat_of_nonneg (by omega)] at e1
        obtain ⟨e3, e4⟩ := sb_or b64 e2
        rw [e1]
        refine S_X11_states_149 ?_
        rw [e3]
        refine S_X11_states_151 ?_
        refine ih (l + 1) _ (by omega) (by omega) (Nat.or_lt_two_pow hb (Nat.pow_lt_pow_right (by decide) (by omega))) (fun b' e => K b' ?_)
        rw [e]
        show _ = st_l P q n (l + 1) (if pm_oT P l q = -1 then b else _)
        rw [if_neg z]
      · have z := Classical.not_not.mp z
        rw [hj.1, t1] at z
        refine S_X11_states_130 ?_
        refine S_X11_states_149 ?_
        have e3 := (sb_or b64 (c := 0) (by omega)).1
        rw [Nat.or_zero] at e3
        rw [show am_or (b : Int) 0 = (b : Int) from e3]
        refine S_X11_states_151 ?_
        refine ih (l + 1) b (by omega) (by omega) hb (fun b' e => K b' ?_)
        rw [e]
        show _ = st_l P q n (l + 1) (if pm_oT P l q = -1 then b else _)
        rw [if_pos z]
  have R : ∀ (w q : Int), 0 ≤ q → q < pm_S P → ∀ (n : Nat) (r : Int) (b : Nat), pm_S P - r = n → 0 ≤ r → b < 2 ^ (pm_S P).toNat → (∀ b' : Nat, b' = st_r v q n r b → b' < 2 ^ (pm_S P).toNat → am_X (am_FI G (d + 4) Q) mX11_states (0, 0) 103 [some (am_r (some 91)), some (am_i k), some (am_i (b' : Nat)), some (am_i w), some (am_i q), none] [] (am_K0, τ)) → am_X (am_FI G (d + 4) Q) mX11_states (0, 0) 55 [some (am_r (some 91)), some (am_i k), some (am_i (b : Nat)), some (am_i w), some (am_i q), some (am_i r)] [] (am_K0, τ) := by
    intro w q q0 q1 n
    induction n with
    | zero =>
      intro r b hn hr' hb K
      refine S_X11_states_55 (by omega) (by omega) (by omega) (by rw [hj.1, t94]; omega) (fun _ => ?_) (fun z => absurd (by rw [hj.1, t94]; omega) z)
      exact K b rfl hb
    | succ n ih =>
      intro r b hn hr' hb K
      have b64 := st_64 hP hb
      have hrg := wy_n_rg (B := 1152921504606846976) hJ.b (by omega) q r
      refine S_X11_states_55 (by omega) (by omega) (by omega) (by rw [hj.1, t94]; omega) (fun z => absurd z (by rw [hj.1, t94]; omega)) (fun _ => ?_)
      refine S_X11_states_66 (by omega) (by omega) (fun z => ?_) (fun z => ?_)
      · rw [hE q r (by omega) (by omega) (by omega) (by omega), wl_60, wl_cmpE (by omega) (by omega)] at z
        have hs : (v q r).isSome = true := by
          cases h : v q r with
          | none => rw [h] at z; exact absurd rfl z
          | some k => rfl
        refine S_X11_states_91 ?_
        obtain ⟨e1, e2⟩ := sb_pow (k := r.toNat) (by omega)
        rw [Int.toNat_of_nonneg (by omega)] at e1
        obtain ⟨e3, e4⟩ := sb_or b64 e2
        rw [e1]
        refine S_X11_states_95 ?_
        rw [e3]
        refine S_X11_states_97 ?_
        refine ih (r + 1) _ (by omega) (by omega) (Nat.or_lt_two_pow hb (Nat.pow_lt_pow_right (by decide) (by omega))) (fun b' e => K b' ?_)
        rw [e]
        show _ = st_r v q n (r + 1) (if (v q r).isSome then _ else b)
        rw [if_pos hs]
      · have z := Classical.not_not.mp z
        rw [hE q r (by omega) (by omega) (by omega) (by omega), wl_60, wl_cmpE (by omega) (by omega)] at z
        have hn0 := hrg.2.2.mp z
        refine S_X11_states_87 ?_
        refine S_X11_states_95 ?_
        have e3 := (sb_or b64 (c := 0) (by omega)).1
        rw [Nat.or_zero] at e3
        rw [show am_or (b : Int) 0 = (b : Int) from e3]
        refine S_X11_states_97 ?_
        refine ih (r + 1) b (by omega) (by omega) hb (fun b' e => K b' ?_)
        rw [e]
        show _ = st_r v q n (r + 1) (if (v q r).isSome then _ else b)
        rw [hn0]
        rfl
  have Qq : ∀ (w : Int) (n : Nat) (q : Int) (b : Nat), pm_S P - q = n → 0 ≤ q → b < 2 ^ (pm_S P).toNat → (∀ b' : Nat, b' = st_q P v n q b → b' < 2 ^ (pm_S P).toNat → am_X (am_FI G (d + 4) Q) mX11_states (0, 0) 163 [some (am_r (some 91)), some (am_i k), some (am_i (b' : Nat)), some (am_i w), none, none] [] (am_K0, τ)) → am_X (am_FI G (d + 4) Q) mX11_states (0, 0) 29 [some (am_r (some 91)), some (am_i k), some (am_i (b : Nat)), some (am_i w), some (am_i q), none] [] (am_K0, τ) := by
    intro w n
    induction n with
    | zero =>
      intro q b hn hq hb K
      refine S_X11_states_29 (by omega) (by omega) (by omega) (by rw [hj.1, t94]; omega) (fun _ => ?_) (fun z => absurd (by rw [hj.1, t94]; omega) z)
      exact K b rfl hb
    | succ n ih =>
      intro q b hn hq hb K
      have b64 := st_64 hP hb
      have hbit := sb_bit (b := b) (k := q.toNat) b64 (by omega)
      rw [Int.toNat_of_nonneg hq] at hbit
      refine S_X11_states_29 (by omega) (by omega) (by omega) (by rw [hj.1, t94]; omega) (fun z => absurd z (by rw [hj.1, t94]; omega)) (fun _ => ?_)
      refine S_X11_states_40 (by rw [hbit]; split <;> omega) (fun z => ?_) (fun z => ?_)
      · rw [hbit] at z
        have hf : b.testBit q.toNat = true := by
          cases h : b.testBit q.toNat with
          | true => rfl
          | false => rw [h] at z; exact absurd rfl z
        refine S_X11_states_52 ?_
        refine R w q hq (by omega) (pm_S P).toNat 0 b (by omega) (by omega) hb (fun b1 e1 hb1 => ?_)
        refine S_X11_states_103 ?_
        refine L w q hq (by omega) 3 0 b1 (by omega) (by omega) hb1 (fun b2 e2 hb2 => ?_)
        refine S_X11_states_157 ?_
        refine ih (q + 1) b2 (by omega) (by omega) hb2 (fun b' e => K b' ?_)
        rw [e, e2, e1]
        show _ = st_q P v n (q + 1) (if b.testBit q.toNat then st_f P v q b else b)
        rw [hf]
        rfl
      · have z := Classical.not_not.mp z
        rw [hbit] at z
        have hf : b.testBit q.toNat = false := by
          cases h : b.testBit q.toNat with
          | false => rfl
          | true => rw [h] at z; exact absurd z (by decide)
        refine S_X11_states_49 ?_
        refine S_X11_states_157 ?_
        refine ih (q + 1) b (by omega) (by omega) hb (fun b' e => K b' ?_)
        rw [e]
        show _ = st_q P v n (q + 1) (if b.testBit q.toNat then st_f P v q b else b)
        rw [hf]
        rfl
  -- from was on
  have W : ∀ (n j : Nat) (w : Int), j + n = 7 → 0 ≤ w ∧ w < 64 → (w = (st_I P v j : Nat) → st_I P v j = st_I P v 5) → (w ≠ (st_I P v j : Nat) → j ≤ 5) → am_X (am_FI G (d + 4) Q) mX11_states (0, 0) 19 [some (am_r (some 91)), some (am_i k), some (am_i (st_I P v j : Nat)), some (am_i w), none, none] [] (am_K0, τ) := by
    intro n
    have out : ∀ j : Nat, st_I P v j = st_I P v 5 → am_X (am_FI G (d + 4) Q) mX11_states (0, 0) 166 [none, none, some (am_i (st_I P v j : Nat)), none, none, none] [] (am_K0, τ) := by
      intro j e
      refine S_X11_states_166 ?_
      rw [← hQ, hws, e]
      exact ⟨Or.inl ⟨hr, rfl⟩, hj⟩
    induction n with
    | zero =>
      intro j w hj' hw h1 h2
      have b64 := st_64 hP (st_I_lt (v := v) hP j)
      refine S_X11_states_19 (by omega) (by omega) (fun z => out j (h1 z)) (fun z => ?_)
      have := h2 z
      omega
    | succ n ih =>
      intro j w hj' hw h1 h2
      have b64 := st_64 hP (st_I_lt (v := v) hP j)
      refine S_X11_states_19 (by omega) (by omega) (fun z => out j (h1 z)) (fun z => ?_)
      have hj5 := h2 z
      refine S_X11_states_24 ?_
      refine S_X11_states_26 ?_
      refine Qq (st_I P v j : Nat) (pm_S P).toNat 0 (st_I P v j) (by omega) (by omega) (st_I_lt hP j) (fun b' e hb' => ?_)
      have e : b' = st_I P v (j + 1) := e
      subst e
      refine S_X11_states_163 ?_
      refine ih (j + 1) _ (by omega) (by omega) (fun e => ?_) (fun e => ?_)
      · have e : st_I P v j = st_I P v (j + 1) := by omega
        have hfix : st_P P v (st_I P v j) = st_I P v j := e.symm
        rw [← e]
        exact (st_const hfix 5 (by omega)).symm
      · apply Classical.byContradiction
        intro hno
        have : j = 5 := by omega
        subst this
        exact e (by rw [show st_I P v (5 + 1) = st_I P v 5 from st_fix hP])
  have b64 := st_64 hP (st_I_lt (v := v) hP 0)
  exact W 7 0 0 rfl (by omega) (fun e => by have : (0 : Int) = ((1 : Nat) : Int) := e; omega) (fun _ => by omega)
end
