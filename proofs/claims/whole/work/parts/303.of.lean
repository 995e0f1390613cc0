section
variable {G : am_G} {σ : am_D} {M : ab_M}
theorem r_mostOwn (d : Nat) {P : am_P} {s : Int} {c e : Bool} (hs : 0 ≤ s ∧ s < 6) (hT : rm_T σ s P) (hP : pm_ok P) : am_MI G (d + 2) mX11_mostOwn [am_r (some 91), am_i s, am_i (sb_i c), am_i (sb_i e)] σ (fun x σ' => x = max (if c then pm_mC P else 0) (if e then pm_mE P else 0) ∧ σ = σ') := by
  obtain ⟨w1, w2, w3, w4⟩ := hT.2.2.2.2.2
  obtain ⟨pS, -, pn, pmC, pmE, -, -, pcT⟩ := id hP
  refine am_M.go (by decide) (Nat.le_of_ble_eq_true rfl) rfl ?_
  generalize hQQ : (fun (x : Int) (σ' : am_D) => x = max (if c then pm_mC P else 0) (if e then pm_mE P else 0) ∧ σ = σ') = QQ
  refine S_X11_mostOwn_0 (S_X11_mostOwn_3 ?_)
  -- ENDS
  have E : ∀ A : Int, A = (if c then pm_mC P else 0) → am_X (am_FI G (d + 2) QQ) mX11_mostOwn (0, 0) 68 [some (am_r (some 91)), some (am_i s), none, some (am_i (sb_i e)), some (am_i A), none] [] (am_K0, σ) := by
    intro A hA
    have hAr : 0 ≤ A ∧ A ≤ 6 := by rw [hA]; split <;> omega
    refine S_X11_mostOwn_68 ?_
    cases e with
    | false =>
      refine S_X11_mostOwn_71 (by decide) (fun z => absurd z (by decide)) (fun _ => ?_)
      refine S_X11_mostOwn_78 (by decide) (fun _ => ?_) (fun z => absurd rfl z)
      refine S_X11_mostOwn_133 ?_
      rw [← hQQ]
      refine ⟨?_, rfl⟩
      rw [← hA]
      show A = max A 0
      omega
    | true =>
      have loop : ∀ (n : Nat) (v m : Int), v + n = 6 → 0 ≤ v → A ≤ m → (m ≤ A ∨ m ≤ pm_mE P) → (∀ q : Int, 0 ≤ q → q < v → pm_eX P q ≠ none → σ.1 105 (24 * s + σ.1 102 (6 * s + q)) ≤ m) → am_X (am_FI G (d + 2) QQ) mX11_mostOwn (0, 0) 71 [some (am_r (some 91)), some (am_i s), none, some (am_i (sb_i true)), some (am_i m), some (am_i v)] [] (am_K0, σ) := by
        intro n
        induction n with
        | zero =>
          intro v m hn hv h1 h2 h3
          refine S_X11_mostOwn_71 (by omega) (fun _ => ?_) (fun z => absurd (by omega) z)
          refine S_X11_mostOwn_133 ?_
          rw [← hQQ]
          refine ⟨?_, rfl⟩
          rw [← hA, if_pos rfl]
          have : pm_mE P ≤ m := by
            rcases w4 with z | ⟨q, hq, z1, z2⟩
            · omega
            · rw [← z2]; exact h3 q hq.1 (by omega) z1
          omega
        | succ n ih =>
          intro v m hn hv h1 h2 h3
          obtain ⟨n1, n2⟩ := hT.endR hP (q := v) (by omega)
          refine S_X11_mostOwn_71 (by omega) (fun z => absurd z (by omega)) (fun _ => ?_)
          refine S_X11_mostOwn_78 (by decide) (fun z => absurd z (by decide)) (fun _ => ?_)
          cases hv' : pm_eX P v with
          | none =>
            have n1 := n1 hv'
            refine S_X11_mostOwn_82 (by omega) (by omega) (by omega) (fun _ => ?_) (fun z => absurd n1 z)
            refine S_X11_mostOwn_127 (ih (v + 1) m (by omega) (by omega) h1 h2 (fun q q0 q1 q2 => ?_))
            by_cases z : q = v
            · rw [z] at q2; exact absurd hv' q2
            · exact h3 q q0 (by omega) q2
          | some u =>
            obtain ⟨y1, y2, -⟩ := n2 u hv'
            have hb := w2 v (by omega) (by omega) (by rw [hv']; exact fun z => nomatch z)
            refine S_X11_mostOwn_82 (by omega) (by omega) (by omega) (fun z => absurd z (by omega)) (fun _ => ?_)
            refine S_X11_mostOwn_98 (by omega) (by omega) (by omega) (by omega) (c_max _ (by omega) (by omega)) ?_
            rintro _ _ ⟨rfl, rfl⟩
            refine S_X11_mostOwn_127 (ih (v + 1) _ (by omega) (by omega) (by omega) (by omega) (fun q q0 q1 q2 => ?_))
            by_cases z : q = v
            · rw [z]; omega
            · have := h3 q q0 (by omega) q2; omega
      exact loop 6 0 A (by omega) (by omega) (Int.le_refl _) (Or.inl (Int.le_refl _)) (fun q q0 q1 => by omega)
  cases c with
  | false =>
    refine S_X11_mostOwn_6 (by decide) (fun z => absurd z (by decide)) (fun _ => ?_)
    refine S_X11_mostOwn_13 (by decide) (fun _ => ?_) (fun z => absurd rfl z)
    exact E 0 rfl
  | true =>
    have loop : ∀ (n : Nat) (v m : Int), v + n = 108 → 0 ≤ v → 0 ≤ m → m ≤ pm_mC P → (∀ l q k : Int, 0 ≤ l → l < 3 → 0 ≤ q → q < 6 → 0 ≤ k → k < 6 → 36 * l + 6 * q + k < v → pm_cT P l q k ≠ -1 → σ.1 105 (24 * s + σ.1 101 (108 * s + 36 * l + 6 * q + k)) ≤ m) → am_X (am_FI G (d + 2) QQ) mX11_mostOwn (0, 0) 6 [some (am_r (some 91)), some (am_i s), some (am_i (sb_i true)), some (am_i (sb_i e)), some (am_i m), some (am_i v)] [] (am_K0, σ) := by
      intro n
      induction n with
      | zero =>
        intro v m hn hv h1 h2 h3
        refine S_X11_mostOwn_6 (by omega) (fun _ => ?_) (fun z => absurd (by omega) z)
        refine E m ?_
        rw [if_pos rfl]
        have : pm_mC P ≤ m := by
          rcases w3 with z | ⟨l, q, k, hl, hq, hk, z1, z2⟩
          · omega
          · rw [← z2]; exact h3 l q k hl.1 hl.2 hq.1 hq.2 hk.1 hk.2 (by omega) z1
        omega
      | succ n ih =>
        intro v m hn hv h1 h2 h3
        obtain ⟨t1, t2⟩ := hT.2.2.1 (v / 36) (v / 6 % 6) (v % 6) (by omega) (by omega) (by omega) (by omega) (by omega) (by omega)
        have hw := w1 (v / 36) (v / 6 % 6) (v % 6) (by omega) (by omega) (by omega) (by omega) (by omega) (by omega)
        have hct := pcT (v / 36) (v / 6 % 6) (v % 6)
        rw [show 108 * s + 36 * (v / 36) + 6 * (v / 6 % 6) + v % 6 = 108 * s + v by omega] at t1 t2 hw
        have done : ∀ m' : Int, m ≤ m' → (pm_cT P (v / 36) (v / 6 % 6) (v % 6) ≠ -1 → σ.1 105 (24 * s + σ.1 101 (108 * s + v)) ≤ m') → ∀ l q k : Int, 0 ≤ l → l < 3 → 0 ≤ q → q < 6 → 0 ≤ k → k < 6 → 36 * l + 6 * q + k < v + 1 → pm_cT P l q k ≠ -1 → σ.1 105 (24 * s + σ.1 101 (108 * s + 36 * l + 6 * q + k)) ≤ m' := by
          intro m' hm hx l q k l0 l1 q0 q1 k0 k1 hlt hne
          by_cases z : 36 * l + 6 * q + k = v
          · have e1 : l = v / 36 := by omega
            have e2 : q = v / 6 % 6 := by omega
            have e3 : k = v % 6 := by omega
            rw [e1, e2, e3] at hne
            rw [show 108 * s + 36 * l + 6 * q + k = 108 * s + v by omega]
            exact hx hne
          · have := h3 l q k l0 l1 q0 q1 k0 k1 (by omega) hne; omega
        refine S_X11_mostOwn_6 (by omega) (fun z => absurd z (by omega)) (fun _ => ?_)
        refine S_X11_mostOwn_13 (by decide) (fun z => absurd z (by decide)) (fun _ => ?_)
        refine S_X11_mostOwn_17 (by omega) (by omega) (by rw [t1]; omega) (fun z => ?_) (fun z => ?_)
        · rw [t1] at z
          refine S_X11_mostOwn_62 (ih (v + 1) m (by omega) (by omega) h1 h2 (done m (Int.le_refl _) (fun y => absurd z y)))
        · rw [t1] at z
          obtain ⟨u1, u2, -⟩ := t2 z
          have hw := hw z
          refine S_X11_mostOwn_33 (by omega) (by omega) (by omega) (by omega) (c_max _ (by omega) (by omega)) ?_
          rintro _ _ ⟨rfl, rfl⟩
          refine S_X11_mostOwn_62 (ih (v + 1) _ (by omega) (by omega) (by omega) (by omega) (done _ (by omega) (fun _ => by omega)))
    exact loop 108 0 0 (by omega) (by omega) (by omega) (by omega) (fun l q k l0 l1 q0 q1 k0 k1 h => by omega)
/-- the answer of `of` -/
def an_o (M : ab_M) (k i : Int) : Int := match ab_t M k with
  | none => -1
  | some P => if i = 0 then pm_S P else if i = 1 then pm_R P else if i = 2 then pm_nO P else if i = 3 then pm_nC P else if i = 4 then pm_nE P else if i = 5 then max (pm_mC P) (pm_mE P) else -1
theorem c_xof (d : Nat) {k i : Int} (hk : -2147483648 ≤ k ∧ k ≤ 2147483647) (hi : -2147483648 ≤ i ∧ i ≤ 2147483647) (hM : cx_M σ M) : am_MI G (d + 2) mX10_of [am_r (some 0), am_i k, am_i i] σ (fun x σ' => x = an_o M k i ∧ σ = σ') := by
  refine am_M.go (by decide) (Nat.le_of_ble_eq_true rfl) rfl ?_
  refine S_X10_of_0 (c_told _ hk hM) ?_
  rintro x _ ⟨hx, rfl⟩
  unfold an_o
  rcases hx with ⟨rfl, h⟩ | ⟨m, P, rfl, h, hP⟩
  · rw [h]
    exact S_X10_of_6 (fun _ => S_X10_of_10 ⟨rfl, rfl⟩) (fun a z => nomatch z)
  rw [h]
  dsimp only
  obtain ⟨c0, c1, c2, c3, c4, c5, c6⟩ := hP.2.1.1
  obtain ⟨-, -, -, pmC, pmE, -⟩ := hP.2.2.2.1
  refine S_X10_of_6 (fun z => nomatch z) (fun _ _ => ?_)
  refine S_X10_of_12 hi (fun z => ?_) (fun z => ?_) (fun z => ?_) (fun z => ?_) (fun z => ?_) (fun z => ?_) (fun z => ?_)
  · refine S_X10_of_89 ⟨?_, rfl⟩
    rw [if_neg (by omega), if_neg (by omega), if_neg (by omega), if_neg (by omega), if_neg (by omega), if_neg (by omega)]
  · exact S_X10_of_52 hP.1 ⟨by rw [if_pos z]; exact c0, rfl⟩
  · exact S_X10_of_57 hP.1 ⟨by rw [if_neg (by omega), if_pos z]; exact c1, rfl⟩
  · exact S_X10_of_62 hP.1 ⟨by rw [if_neg (by omega), if_neg (by omega), if_pos z]; exact c2, rfl⟩
  · exact S_X10_of_67 hP.1 ⟨by rw [if_neg (by omega), if_neg (by omega), if_neg (by omega), if_pos z]; exact c3, rfl⟩
  · exact S_X10_of_72 hP.1 ⟨by rw [if_neg (by omega), if_neg (by omega), if_neg (by omega), if_neg (by omega), if_pos z]; exact c4, rfl⟩
  · refine S_X10_of_77 hP.1 (c_max _ (by omega) (by omega)) ?_
    rintro _ _ ⟨rfl, rfl⟩
    exact ⟨by rw [if_neg (by omega), if_neg (by omega), if_neg (by omega), if_neg (by omega), if_neg (by omega), if_pos z, c5, c6], rfl⟩
end
