section
/-! STATES that are reached, as bits. -/
theorem sb_or {b c : Nat} (hb : b < 64) (hc : c < 64) : am_or (b : Int) (c : Int) = ((b ||| c : Nat) : Int) ∧ b ||| c < 64 := by
  refine ⟨?_, Nat.or_lt_two_pow (n := 6) hb hc⟩
  rw [am_or_nn (by omega) (by omega), Int.toNat_natCast, Int.toNat_natCast]
theorem sb_pow {k : Nat} (hk : k < 6) : am_shl 1 (k : Int) = ((2 ^ k : Nat) : Int) ∧ 2 ^ k < 64 := by
  refine ⟨?_, ?_⟩
  · rw [am_shl_v k (by omega) (by omega) (by have : 2 ^ k ≤ 2 ^ 5 := Nat.pow_le_pow_right (by decide) (by omega)
                                             omega), Int.one_mul]
  · have : 2 ^ k ≤ 2 ^ 5 := Nat.pow_le_pow_right (by decide) (by omega)
    omega
theorem sb_bit {b : Nat} {k : Nat} (hb : b < 64) (hk : k < 6) : am_and (am_shr (b : Int) (k : Int)) 1 = if b.testBit k then 1 else 0 := by
  have := am_bit (s := (b : Int)) k (by omega) (by omega)
  rw [this]
  unfold am_bt
  rw [Int.toNat_natCast]
def st_r (v : wy_V) (q : Int) : Nat → Int → Nat → Nat
  | 0, _, b => b
  | n + 1, r, b => st_r v q n (r + 1) (if (v q r).isSome then b ||| 2 ^ r.toNat else b)
def st_l (P : am_P) (q : Int) : Nat → Int → Nat → Nat
  | 0, _, b => b
  | n + 1, l, b => st_l P q n (l + 1) (if pm_oT P l q = -1 then b else b ||| 2 ^ (pm_oT P l q).toNat)
def st_f (P : am_P) (v : wy_V) (q : Int) (b : Nat) : Nat := st_l P q 3 0 (st_r v q (pm_S P).toNat 0 b)
def st_q (P : am_P) (v : wy_V) : Nat → Int → Nat → Nat
  | 0, _, b => b
  | n + 1, q, b => st_q P v n (q + 1) (if b.testBit q.toNat then st_f P v q b else b)
def st_P (P : am_P) (v : wy_V) (b : Nat) : Nat := st_q P v (pm_S P).toNat 0 b
def st_I (P : am_P) (v : wy_V) : Nat → Nat
  | 0 => 1
  | k + 1 => st_P P v (st_I P v k)
theorem st_r_or {v : wy_V} {q : Int} : ∀ (n : Nat) (r : Int) (b : Nat), st_r v q n r b = b ||| st_r v q n r 0 := by
  intro n
  induction n with
  | zero => intro r b; show b = b ||| 0; rw [Nat.or_zero]
  | succ n ih =>
    intro r b
    show st_r v q n (r + 1) _ = b ||| st_r v q n (r + 1) _
    rw [ih (r + 1), ih (r + 1) (if (v q r).isSome = true then 0 ||| 2 ^ r.toNat else 0), ← Nat.or_assoc]
    congr 1
    split
    · rw [Nat.zero_or]
    · rw [Nat.or_zero]
theorem st_l_or {P : am_P} {q : Int} : ∀ (n : Nat) (l : Int) (b : Nat), st_l P q n l b = b ||| st_l P q n l 0 := by
  intro n
  induction n with
  | zero => intro r b; show b = b ||| 0; rw [Nat.or_zero]
  | succ n ih =>
    intro l b
    show st_l P q n (l + 1) _ = b ||| st_l P q n (l + 1) _
    rw [ih (l + 1), ih (l + 1) (if pm_oT P l q = -1 then 0 else 0 ||| 2 ^ (pm_oT P l q).toNat), ← Nat.or_assoc]
    congr 1
    split
    · rw [Nat.or_zero]
    · rw [Nat.zero_or]
theorem st_f_or {P : am_P} {v : wy_V} {q : Int} {b : Nat} : st_f P v q b = b ||| st_f P v q 0 := by
  unfold st_f
  rw [st_l_or, st_r_or, st_l_or (P := P) 3 0 (st_r v q (pm_S P).toNat 0 0), Nat.or_assoc]
/-- bits below S alone -/
theorem st_r_lt {v : wy_V} {q S : Int} (hS : S ≤ 6) : ∀ (n : Nat) (r : Int) (b : Nat), 0 ≤ r → r + n ≤ S → b < 2 ^ S.toNat → st_r v q n r b < 2 ^ S.toNat := by
  intro n
  induction n with
  | zero => intro r b _ _ hb; exact hb
  | succ n ih =>
    intro r b hr hrn hb
    refine ih (r + 1) _ (by omega) (by omega) ?_
    split
    · exact Nat.or_lt_two_pow hb (Nat.pow_lt_pow_right (by decide) (by omega))
    · exact hb
theorem st_l_lt {P : am_P} {q : Int} (hP : pm_ok P) : ∀ (n : Nat) (l : Int) (b : Nat), b < 2 ^ (pm_S P).toNat → st_l P q n l b < 2 ^ (pm_S P).toNat := by
  intro n
  induction n with
  | zero => intro l b hb; exact hb
  | succ n ih =>
    intro l b hb
    refine ih (l + 1) _ ?_
    have ho := hP.2.2.2.2.2.1 l q
    split
    · exact hb
    · exact Nat.or_lt_two_pow hb (Nat.pow_lt_pow_right (by decide) (by omega))
theorem st_f_lt {P : am_P} {v : wy_V} {q : Int} {b : Nat} (hP : pm_ok P) (hb : b < 2 ^ (pm_S P).toNat) : st_f P v q b < 2 ^ (pm_S P).toNat := st_l_lt hP _ _ _ (st_r_lt hP.1.2 _ _ _ (Int.le_refl _) (by have := hP.1.1; omega) hb)
theorem st_q_lt {P : am_P} {v : wy_V} (hP : pm_ok P) : ∀ (n : Nat) (q : Int) (b : Nat), b < 2 ^ (pm_S P).toNat → st_q P v n q b < 2 ^ (pm_S P).toNat := by
  intro n
  induction n with
  | zero => intro q b hb; exact hb
  | succ n ih =>
    intro q b hb
    refine ih (q + 1) _ ?_
    split
    · exact st_f_lt hP hb
    · exact hb
theorem st_64 {P : am_P} {b : Nat} (hP : pm_ok P) (hb : b < 2 ^ (pm_S P).toNat) : b < 64 := by
  have : 2 ^ (pm_S P).toNat ≤ 2 ^ 6 := Nat.pow_le_pow_right (by decide) (by have := hP.1.2; omega)
  omega
theorem st_q_sup {P : am_P} {v : wy_V} : ∀ (n : Nat) (q : Int) (b i : Nat), b.testBit i = true → (st_q P v n q b).testBit i = true := by
  intro n
  induction n with
  | zero => intro q b i h; exact h
  | succ n ih =>
    intro q b i h
    refine ih (q + 1) _ i ?_
    split
    · rw [st_f_or, Nat.testBit_or, h]; rfl
    · exact h
theorem st_I_lt {P : am_P} {v : wy_V} (hP : pm_ok P) : ∀ k, st_I P v k < 2 ^ (pm_S P).toNat := by
  intro k
  induction k with
  | zero => exact Nat.one_lt_two_pow (by have := hP.1.1; omega)
  | succ k ih => exact st_q_lt hP _ _ _ ih
def st_n (b : Nat) : Nat := wy_sum (fun i => if b.testBit i then 1 else 0) 6
/-- stable within five passes -/
theorem st_fix {P : am_P} {v : wy_V} (hP : pm_ok P) : st_P P v (st_I P v 5) = st_I P v 5 := by
  have grow : ∀ b : Nat, b < 2 ^ (pm_S P).toNat → st_P P v b ≠ b → st_n b < st_n (st_P P v b) := by
    intro b hb hne
    have hb' := st_q_lt (v := v) hP (pm_S P).toNat 0 b hb
    have hlt : st_P P v b < 64 := st_64 hP hb'
    have hbl := st_64 hP hb
    have : ∃ i, i < 6 ∧ b.testBit i ≠ (st_P P v b).testBit i := by
      apply Classical.byContradiction
      intro hno
      apply hne
      apply Nat.eq_of_testBit_eq
      intro i
      by_cases hi : i < 6
      · apply Classical.byContradiction
        intro w
        exact hno ⟨i, hi, fun e => w e.symm⟩
      · rw [Nat.testBit_lt_two_pow (Nat.lt_of_lt_of_le hlt (Nat.pow_le_pow_right (n := 2) (by decide) (show 6 ≤ i by omega))), Nat.testBit_lt_two_pow (Nat.lt_of_lt_of_le hbl (Nat.pow_le_pow_right (n := 2) (by decide) (show 6 ≤ i by omega)))]
    obtain ⟨i, hi, hd⟩ := this
    refine wy_sum_lt (fun j _ => ?_) i hi ?_
    · cases h : b.testBit j with
      | false => exact Nat.zero_le _
      | true =>
        have : (st_P P v b).testBit j = true := st_q_sup _ _ _ _ h
        rw [this]
        exact Nat.le_refl _
    · cases h : b.testBit i with
      | true =>
        have : (st_P P v b).testBit i = true := st_q_sup _ _ _ _ h
        rw [h, this] at hd
        exact absurd rfl hd
      | false =>
        cases h2 : (st_P P v b).testBit i with
        | false => rw [h, h2] at hd; exact absurd rfl hd
        | true => show (0 : Nat) < 1; omega
  have le6 : ∀ b, st_n b ≤ 6 := by
    intro b
    have : ∀ (f : Nat → Nat) (n : Nat), (∀ i, f i ≤ 1) → wy_sum f n ≤ n := by
      intro f n h
      induction n with
      | zero => exact Nat.le_refl _
      | succ n ih => have := h n; show wy_sum f n + f n ≤ n + 1; omega
    refine this _ 6 (fun i => ?_)
    split <;> omega
  have key : ∀ k, st_P P v (st_I P v k) = st_I P v k ∨ k + 1 ≤ st_n (st_I P v k) := by
    intro k
    induction k with
    | zero =>
      right
      show 0 + 1 ≤ st_n 1
      decide
    | succ k ih =>
      by_cases e : st_P P v (st_I P v k) = st_I P v k
      · left
        show st_P P v (st_P P v (st_I P v k)) = st_P P v (st_I P v k)
        rw [e]; exact e
      · right
        rcases ih with z | z
        · exact absurd z e
        · have h1 := grow (st_I P v k) (st_I_lt hP k) e
          have h1 : st_n (st_I P v k) < st_n (st_I P v (k + 1)) := h1
          omega
  rcases key 5 with z | z
  · exact z
  · apply Classical.byContradiction
    intro hne
    have h1 := grow (st_I P v 5) (st_I_lt hP 5) hne
    have h2 := le6 (st_P P v (st_I P v 5))
    omega
theorem st_const {P : am_P} {v : wy_V} {k : Nat} (h : st_P P v (st_I P v k) = st_I P v k) : ∀ j, k ≤ j → st_I P v j = st_I P v k := by
  intro j
  induction j with
  | zero => intro hj; have : k = 0 := by omega
            subst this; rfl
  | succ j ih =>
    intro hj
    by_cases e : k = j + 1
    · subst e; rfl
    · show st_P P v (st_I P v j) = _
      rw [ih (by omega)]
      exact h
def wy_states (P : am_P) : Int := (st_I P (wy_I P 36) 5 : Nat)
variable {G : am_G} {σ : am_D}
theorem c_reachedFrom (d : Nat) {m : Nat} {P : am_P} {v : wy_V} {q : Int} (hM : cd_M σ m P) (hq : 0 ≤ q ∧ q < pm_S P) (hb : wy_b v) (hE : wy_E 1099511627776 (σ.2.1 25) v) : am_MI G (d + 3) mX9_reachedFrom [am_r (some 24), am_r (some m), am_i q] σ (fun x σ' => x = (st_f P v q 0 : Nat) ∧ σ = σ') := by
  obtain ⟨m1, m2, m3, m4, m5⟩ := id hM
  obtain ⟨⟨pS1, pS2⟩, ⟨pR1, pR2⟩, -, -, -, poT, poM, pcT⟩ := id m4
  refine am_M.go (by decide) (Nat.le_of_ble_eq_true rfl) rfl ?_
  refine S_X9_reachedFrom_0 ?_
  refine S_X9_reachedFrom_2 ?_
  have L : ∀ (n : Nat) (l : Int) (b : Nat), 3 - l = n → 0 ≤ l → b < 2 ^ (pm_S P).toNat → st_l P q n l b = st_f P v q 0 → am_X (am_FI G (d + 3) (fun x σ' => x = (st_f P v q 0 : Nat) ∧ σ = σ')) mX9_reachedFrom (0, 0) 50 [none, some (am_r (some m)), some (am_i q), some (am_i (b : Nat)), some (am_i l), none] [] (am_K0, σ) := by
    intro n
    induction n with
    | zero =>
      intro l b hn hl hb he
      refine S_X9_reachedFrom_50 (by omega) (fun _ => ?_) (fun z => absurd (by omega) z)
      have he : b = _ := he
      exact S_X9_reachedFrom_84 ⟨by rw [he], rfl⟩
    | succ n ih =>
      intro l b hn hl hbS he
      have ho := poT l q
      have hT := (m2.2.1 l q (by omega) (by omega) (by omega) (by omega)).1
      have b64 := st_64 m4 hbS
      refine S_X9_reachedFrom_50 (by omega) (fun z => absurd z (by omega)) (fun _ => ?_)
      refine S_X9_reachedFrom_56 (c_opensTo _ m1 (by omega) (by omega)) m1 ?_
      rintro _ _ ⟨rfl, rfl⟩
      rw [if_pos (by omega), hT]
      have he : st_l P q n (l + 1) (if pm_oT P l q = -1 then b else b ||| 2 ^ (pm_oT P l q).toNat) = _ := he
      refine S_X9_reachedFrom_65 (by omega) (fun z => ?_) (fun z => ?_)
      · rw [if_pos z] at he
        exact S_X9_reachedFrom_78 (ih (l + 1) b (by omega) (by omega) hbS he)
      · rw [if_neg z] at he
        refine S_X9_reachedFrom_71 ?_
        obtain ⟨e1, e2⟩ := sb_pow (k := (pm_oT P l q).toNat) (by omega)
        rw [Int.toNat_of_nonneg (by omega)] at e1
        obtain ⟨e3, e4⟩ := sb_or b64 e2
        rw [e1, e3]
        refine S_X9_reachedFrom_78 ?_
        exact ih (l + 1) _ (by omega) (by omega) (Nat.or_lt_two_pow hbS (Nat.pow_lt_pow_right (by decide) (by omega))) he
  have R : ∀ (n : Nat) (r : Int) (b : Nat), pm_S P - r = n → 0 ≤ r → b < 2 ^ (pm_S P).toNat → st_l P q 3 0 (st_r v q n r b) = st_f P v q 0 → am_X (am_FI G (d + 3) (fun x σ' => x = (st_f P v q 0 : Nat) ∧ σ = σ')) mX9_reachedFrom (0, 0) 5 [some (am_r (some 24)), some (am_r (some m)), some (am_i q), some (am_i (b : Nat)), some (am_i r), none] [] (am_K0, σ) := by
    intro n
    induction n with
    | zero =>
      intro r b hn hr hbS he
      refine S_X9_reachedFrom_5 m1 (by omega) (by rw [m2.1.1]; omega) (fun _ => ?_) (fun z => absurd (by rw [m2.1.1]; omega) z)
      refine S_X9_reachedFrom_47 ?_
      exact L 3 0 b (by omega) (by omega) hbS he
    | succ n ih =>
      intro r b hn hr hbS he
      have b64 := st_64 m4 hbS
      refine S_X9_reachedFrom_5 m1 (by omega) (by rw [m2.1.1]; omega) (fun z => absurd z (by rw [m2.1.1]; omega)) (fun _ => ?_)
      refine S_X9_reachedFrom_14 (c_pair _) ?_
      rintro _ _ ⟨rfl, rfl⟩
      refine S_X9_reachedFrom_24 (c_jat _ sh_25 (by omega) (by omega)) ?_
      rintro _ _ ⟨rfl, rfl⟩
      rw [hE q r (by omega) (by omega) (by omega) (by omega)]
      have hrg := wy_n_rg (B := 1099511627776) hb (by omega) q r
      have he : st_l P q 3 0 (st_r v q n (r + 1) (if (v q r).isSome then b ||| 2 ^ r.toNat else b)) = _ := he
      refine S_X9_reachedFrom_27 (fun z => ?_) (fun z => ?_)
      · rw [wl_40, wl_cmp0 (by omega) (by omega)] at z
        have hn0 := hrg.2.2.mp (by omega)
        rw [hn0] at he
        exact S_X9_reachedFrom_41 (ih (r + 1) b (by omega) (by omega) hbS he)
      · rw [wl_40, wl_cmp0 (by omega) (by omega)] at z
        have hs : (v q r).isSome = true := by
          cases h : v q r with
          | none => rw [h] at z; exact absurd (Int.le_refl _) z
          | some k => rfl
        rw [if_pos hs] at he
        refine S_X9_reachedFrom_34 ?_
        obtain ⟨e1, e2⟩ := sb_pow (k := r.toNat) (by omega)
        rw [Int.toNat_of_nonneg (by omega)] at e1
        obtain ⟨e3, e4⟩ := sb_or b64 e2
        rw [e1, e3]
        refine S_X9_reachedFrom_41 ?_
        exact ih (r + 1) _ (by omega) (by omega) (Nat.or_lt_two_pow hbS (Nat.pow_lt_pow_right (by decide) (by omega))) he
  exact R (pm_S P).toNat 0 0 (by omega) (by omega) (Nat.pow_pos (by decide)) rfl
theorem c_reached (d : Nat) {m : Nat} {P : am_P} (hM : cd_M σ m P) : am_MI G (d + 5) mX9_reached [am_r (some 24), am_r (some m)] σ (fun x σ' => x = wy_states P ∧ wj_o [25] σ σ') := by
  obtain ⟨m1, m2, m3, m4, m5⟩ := id hM
  have hS := m4.1
  have hJ := wy_J_I m4 36
  refine am_M.go (by decide) (Nat.le_of_ble_eq_true rfl) rfl ?_
  refine S_X9_reached_0 (c_measure _ hM) ?_
  rintro τ ⟨hj, hE⟩
  have hMτ : cd_M τ m P := cd_M_of (fun b _ _ => by rw [hj.1]) hM
  refine S_X9_reached_5 ?_
  refine S_X9_reached_7 ?_
  generalize hv : wy_I P 36 = v at *
  -- a pass: STATES behind S are not reached
  have Q6 : ∀ (k : Nat), k < 6 → ∀ (n : Nat) (q : Int) (b : Nat), 6 - q = n → 0 ≤ q → b < 2 ^ (pm_S P).toNat → (∀ b' : Nat, b' = st_q P v ((pm_S P).toNat - q.toNat) q b → b' < 2 ^ (pm_S P).toNat → am_X (am_FI G (d + 5) (fun x σ' => x = wy_states P ∧ wj_o [25] σ σ')) mX9_reached (0, 0) 51 [some (am_r (some 24)), some (am_r (some m)), some (am_i (b' : Nat)), some (am_i k), none] [] (am_K0, τ)) → am_X (am_FI G (d + 5) (fun x σ' => x = wy_states P ∧ wj_o [25] σ σ')) mX9_reached (0, 0) 18 [some (am_r (some 24)), some (am_r (some m)), some (am_i (b : Nat)), some (am_i k), some (am_i q)] [] (am_K0, τ) := by
    intro k hk n
    induction n with
    | zero =>
      intro q b hn hq hb K
      refine S_X9_reached_18 (by omega) (fun _ => ?_) (fun z => absurd (by omega) z)
      exact K b (by rw [show (pm_S P).toNat - q.toNat = 0 by omega]; rfl) hb
    | succ n ih =>
      intro q b hn hq hb K
      have b64 := st_64 m4 hb
      have hbit := sb_bit (b := b) (k := q.toNat) b64 (by omega)
      rw [Int.toNat_of_nonneg hq] at hbit
      refine S_X9_reached_18 (by omega) (fun z => absurd z (by omega)) (fun _ => ?_)
      by_cases hqS : q < pm_S P
      · have hsub : (pm_S P).toNat - q.toNat = ((pm_S P).toNat - (q + 1).toNat) + 1 := by omega
        refine S_X9_reached_25 (by rw [hbit]; split <;> omega) (fun z => ?_) (fun z => ?_)
        · rw [hbit] at z
          have hf : b.testBit q.toNat = false := by
            cases h : b.testBit q.toNat with
            | false => rfl
            | true => rw [h] at z; exact absurd rfl z
          refine S_X9_reached_45 ?_
          refine ih (q + 1) b (by omega) (by omega) hb (fun b' e => K b' ?_)
          rw [e, hsub]
          show _ = st_q P v _ (q + 1) (if b.testBit q.toNat then st_f P v q b else b)
          rw [hf]
          rfl
        · rw [hbit] at z
          have hf : b.testBit q.toNat = true := by
            cases h : b.testBit q.toNat with
            | true => rfl
            | false => rw [h] at z; exact absurd (by decide) z
          refine S_X9_reached_35 (c_reachedFrom _ hMτ ⟨hq, hqS⟩ hJ.b hE) ?_
          rintro _ _ ⟨rfl, rfl⟩
          refine S_X9_reached_43 ?_
          have hf0 := st_f_lt (v := v) (q := q) (b := 0) m4 (Nat.pow_pos (by decide))
          rw [(sb_or b64 (st_64 m4 hf0)).1, ← st_f_or]
          refine S_X9_reached_45 ?_
          refine ih (q + 1) _ (by omega) (by omega) (st_f_lt m4 hb) (fun b' e => K b' ?_)
          rw [e, hsub]
          show _ = st_q P v _ (q + 1) (if b.testBit q.toNat then st_f P v q b else b)
          rw [hf]
          rfl
      · have hf : b.testBit q.toNat = false := Nat.testBit_lt_two_pow (Nat.lt_of_lt_of_le hb (Nat.pow_le_pow_right (by decide) (by omega)))
        refine S_X9_reached_25 (by rw [hbit]; split <;> omega) (fun z => ?_) (fun z => absurd (by rw [hbit, hf]; decide) z)
        refine S_X9_reached_45 ?_
        refine ih (q + 1) b (by omega) (by omega) hb (fun b' e => K b' ?_)
        rw [e, show (pm_S P).toNat - q.toNat = 0 by omega, show (pm_S P).toNat - (q + 1).toNat = 0 by omega]
        rfl
  have R : ∀ (n k : Nat), k + n = 6 → am_X (am_FI G (d + 5) (fun x σ' => x = wy_states P ∧ wj_o [25] σ σ')) mX9_reached (0, 0) 9 [some (am_r (some 24)), some (am_r (some m)), some (am_i (st_I P v k : Nat)), some (am_i k), none] [] (am_K0, τ) := by
    intro n
    induction n with
    | zero =>
      intro k hk
      have hk : k = 6 := by omega
      subst hk
      refine S_X9_reached_9 (by omega) (fun _ => ?_) (fun z => absurd (by omega) z)
      refine S_X9_reached_57 ⟨?_, hj⟩
      have e : st_I P v 6 = st_I P v 5 := st_fix m4
      unfold wy_states
      rw [e, hv]
    | succ n ih =>
      intro k hk
      refine S_X9_reached_9 (by omega) (fun z => absurd z (by omega)) (fun _ => ?_)
      refine S_X9_reached_15 ?_
      refine Q6 k (by omega) 6 0 (st_I P v k) (by omega) (by omega) (st_I_lt m4 k) (fun b' e hb' => ?_)
      have e : b' = st_I P v (k + 1) := e
      subst e
      refine S_X9_reached_51 ?_
      exact ih (k + 1) (by omega)
  exact R 6 0 rfl
end
