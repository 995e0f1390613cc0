section
variable {G : am_G} {σ : am_D} {M : ab_M}
def ab_c (M : ab_M) : Prop := ∀ k P, M k = some P → pm_cn P
theorem ab_t_c {k : Int} {P : am_P} (hc : ab_c M) (h : ab_t M k = some P) : pm_cn P := by
  unfold ab_t at h
  split at h
  · exact hc k P h
  · exact nomatch h
theorem r_xof (d : Nat) {k i : Int} (hk : -2147483648 ≤ k ∧ k ≤ 2147483647) (hi : -2147483648 ≤ i ∧ i ≤ 2147483647) (hM : rx_M σ M) (hw : ab_w M) (hc : ab_c M) : am_MI G (d + 3) mX11_of [am_r (some 91), am_i k, am_i i] σ (fun x σ' => x = an_o M k i ∧ σ = σ') := by
  refine am_M.go (by decide) (Nat.le_of_ble_eq_true rfl) rfl ?_
  refine S_X11_of_0 (r_isMachine _ hk (rx_93 hM)) ?_
  rintro x _ ⟨hx, rfl⟩
  unfold an_o
  rcases rx_t hM hw k with ⟨a, b⟩ | ⟨a, P, b, hT, hP, hW, hdm⟩
  · rcases hx with ⟨rfl, y⟩ | ⟨rfl, -⟩
    · exact absurd y a
    rw [b]
    exact S_X11_of_5 (by decide) (fun z => absurd rfl z) (fun _ => S_X11_of_8 ⟨rfl, rfl⟩)
  rcases hx with ⟨rfl, -⟩ | ⟨rfl, y⟩
  rotate_left
  · exact absurd a y
  rw [b]
  dsimp only
  have hkr := a.1
  obtain ⟨n1, n2, n3⟩ := ab_t_c hc b
  obtain ⟨pS, -, pn, pmC, pmE, poT, -, pcT⟩ := id hP
  refine S_X11_of_5 (by decide) (fun _ => ?_) (fun z => absurd (by decide) z)
  refine S_X11_of_10 hi (fun z => ?_) (fun z => ?_) (fun z => ?_) (fun z => ?_) (fun z => ?_) (fun z => ?_) (fun z => ?_)
  · refine S_X11_of_112 ⟨?_, rfl⟩
    rw [if_neg (by omega), if_neg (by omega), if_neg (by omega), if_neg (by omega), if_neg (by omega), if_neg (by omega)]
  · exact S_X11_of_48 (by omega) (by omega) ⟨by rw [if_pos z]; exact hT.1.1, rfl⟩
  · exact S_X11_of_55 (by omega) (by omega) ⟨by rw [if_neg (by omega), if_pos z]; exact hT.1.2, rfl⟩
  · have hv : ∀ j : Nat, j < 18 → σ.1 98 (18 * k + j) = pm_oT P ((j / 6 : Nat) : Int) ((j % 6 : Nat) : Int) := by
      intro j hj
      have := (hT.2.1 ((j / 6 : Nat) : Int) ((j % 6 : Nat) : Int) (by omega) (by omega) (by omega) (by omega)).1
      rw [show 18 * k + 6 * ((j / 6 : Nat) : Int) + ((j % 6 : Nat) : Int) = 18 * k + j by omega] at this
      exact this
    refine S_X11_of_62 (r_told (G := G) (σ := σ) (d + 1) (c := 18) sh_98 (by omega) (by omega) (by omega) (fun j hj => by
      rw [hv j hj]
      have := poT ((j / 6 : Nat) : Int) ((j % 6 : Nat) : Int)
      omega)) ?_
    rintro _ _ ⟨rfl, rfl⟩
    refine ⟨?_, rfl⟩
    rw [if_neg (by omega), if_neg (by omega), if_pos z, n1]
    exact congrArg _ (pm_ct_congr (fun j hj => by rw [hv j hj]))
  · have hv : ∀ j : Nat, j < 108 → σ.1 100 (108 * k + j) = pm_cT P ((j / 36 : Nat) : Int) ((j / 6 % 6 : Nat) : Int) ((j % 6 : Nat) : Int) := by
      intro j hj
      have := (hT.2.2.1 ((j / 36 : Nat) : Int) ((j / 6 % 6 : Nat) : Int) ((j % 6 : Nat) : Int) (by omega) (by omega) (by omega) (by omega) (by omega) (by omega)).1
      rw [show 108 * k + 36 * ((j / 36 : Nat) : Int) + 6 * ((j / 6 % 6 : Nat) : Int) + ((j % 6 : Nat) : Int) = 108 * k + j by omega] at this
      exact this
    refine S_X11_of_76 (r_told (G := G) (σ := σ) (d + 1) (c := 108) sh_100 (by omega) (by omega) (by omega) (fun j hj => by
      rw [hv j hj]
      have := pcT ((j / 36 : Nat) : Int) ((j / 6 % 6 : Nat) : Int) ((j % 6 : Nat) : Int)
      omega)) ?_
    rintro _ _ ⟨rfl, rfl⟩
    refine ⟨?_, rfl⟩
    rw [if_neg (by omega), if_neg (by omega), if_neg (by omega), if_pos z, n2]
    exact congrArg _ (pm_ct_congr (fun j hj => by rw [hv j hj]))
  · have hv : ∀ j : Nat, j < 6 → (-1 ≤ σ.1 102 (6 * k + j) ∧ σ.1 102 (6 * k + j) ≤ 1000) ∧ decide (σ.1 102 (6 * k + j) ≠ -1) = (pm_eX P (j : Int)).isSome := by
      intro j hj
      obtain ⟨e1, e2⟩ := hT.endR hP (q := j) (by omega)
      cases hx : pm_eX P (j : Int) with
      | none =>
        rw [e1 hx]
        exact ⟨by omega, by decide⟩
      | some u =>
        obtain ⟨y1, y2, -⟩ := e2 u hx
        exact ⟨by omega, decide_eq_true (by omega)⟩
    refine S_X11_of_90 (r_told (G := G) (σ := σ) (d + 1) (c := 6) sh_102 (by omega) (by omega) (by omega) (fun j hj => (hv j hj).1)) ?_
    rintro _ _ ⟨rfl, rfl⟩
    refine ⟨?_, rfl⟩
    rw [if_neg (by omega), if_neg (by omega), if_neg (by omega), if_neg (by omega), if_pos z, n3]
    exact congrArg _ (pm_ct_congr (fun j hj => (hv j hj).2))
  · refine S_X11_of_104 (r_mostOwn (G := G) (σ := σ) d (c := true) (e := true) (by omega) hT hP) ?_
    rintro _ _ ⟨rfl, rfl⟩
    refine ⟨?_, rfl⟩
    rw [if_pos (show true = true from rfl), if_pos (show true = true from rfl), if_neg (by omega), if_neg (by omega), if_neg (by omega), if_neg (by omega), if_neg (by omega), if_pos z]
/-- take -/
def an_tk (doc out : List Int) : Int × List Int := if out.length ≤ 80 then ((out.length : Int) / 2, out) else (-1, doc)
theorem c_xtake (d : Nat) {doc out : List Int} (h6 : am_E σ 6 doc) (h10 : am_E σ 10 out) (hev : (out.length : Int) % 2 = 0) : am_MI G (d + 4) mX10_take [am_r (some 0)] σ (fun x σ' => x = (an_tk doc out).1 ∧ am_E σ' 6 (an_tk doc out).2 ∧ cq_f σ σ') := by
  have hl := h10.2.2
  have hes : am_es 10 = 4812 := by decide
  refine am_M.go (by decide) (Nat.le_of_ble_eq_true rfl) rfl ?_
  refine S_X10_take_0 (c_elements _ (Or.inr (Or.inr rfl)) h10) ?_
  rintro _ _ ⟨rfl, rfl⟩
  have e : (out.length : Int).tdiv 2 = (out.length : Int) / 2 := Int.tdiv_eq_ediv_of_nonneg (by omega)
  rw [e]
  unfold an_tk
  by_cases z : out.length ≤ 80
  · rw [if_pos z]
    refine S_X10_take_7 (by omega) (fun _ => ?_) (fun y => absurd (by omega) y)
    refine S_X10_take_14 (c_become _ (Or.inl rfl) (Or.inr (Or.inr rfl)) (by decide) h10 z) ?_
    rintro τ ⟨hE, hf⟩
    refine S_X10_take_25 (c_elements _ (Or.inl rfl) hE) ?_
    rintro _ _ ⟨rfl, rfl⟩
    exact ⟨e, hE, fun a ha => hf.1 a (by simp; omega), fun a _ => by rw [hf.2], fun a _ => by rw [hf.2]⟩
  · rw [if_neg z]
    refine S_X10_take_7 (by omega) (fun y => absurd y (by omega)) (fun _ => ?_)
    exact S_X10_take_12 ⟨rfl, h6, cq_f.rfl'⟩
theorem r_xtake (d : Nat) {doc out : List Int} (hD : rx_Dc σ doc) (hO : rx_O σ out) : am_MI G (d + 1) mX11_take [am_r (some 91)] σ (fun x σ' => x = (an_tk doc out).1 ∧ rx_Dc σ' (an_tk doc out).2 ∧ am_only [91, 107] σ σ' ∧ am_kpt [25] (σ.1 91) (σ'.1 91)) := by
  obtain ⟨o1, o2, o3⟩ := hO
  refine am_M.go (by decide) (Nat.le_of_ble_eq_true rfl) rfl ?_
  unfold an_tk
  by_cases z : out.length ≤ 80
  · rw [if_pos z]
    refine S_X11_take_0 (by omega) (fun _ => ?_) (fun y => absurd (by omega) y)
    refine S_X11_take_11 (S_X11_take_19 ?_)
    have loop : ∀ (n i : Nat) (τ : am_D), i + n = out.length → am_only [91, 107] σ τ → am_kpt [25] (σ.1 91) (τ.1 91) → τ.1 91 25 = out.length → am_isL (τ.1 107) (out.take i) → am_X (am_FI G (d + 1) (fun x σ' => x = (out.length : Int) / 2 ∧ rx_Dc σ' out ∧ am_only [91, 107] σ σ' ∧ am_kpt [25] (σ.1 91) (σ'.1 91))) mX11_take (0, 0) 21 [some (am_r (some 91)), some (am_i i)] [] (am_K0, τ) := by
      intro n
      induction n with
      | zero =>
        intro i τ hi hf hk h25 hL
        have e27 : τ.1 91 27 = out.length := by rw [hk 27 (by decide)]; exact o1
        refine S_X11_take_21 (by omega) (by omega) (fun _ => ?_) (fun y => absurd (by omega) y)
        refine S_X11_take_47 (by omega) ⟨?_, ⟨h25, ?_⟩, hf, hk⟩
        · rw [e27]; exact Int.tdiv_eq_ediv_of_nonneg (by omega)
        · rw [List.take_of_length_le (by omega)] at hL; exact hL
      | succ n ih =>
        intro i τ hi hf hk h25 hL
        have e27 : τ.1 91 27 = out.length := by rw [hk 27 (by decide)]; exact o1
        refine S_X11_take_21 (by omega) (by omega) (fun y => absurd y (by omega)) (fun _ => ?_)
        refine S_X11_take_29 (by omega) (by omega) (by omega) (by omega) (S_X11_take_41 ?_)
        have hti : (out.take i).length = i := by rw [List.length_take]; omega
        have e6 : τ.1 109 i = out.getD i 0 := by rw [hf.1 109 (by decide)]; exact o2 i (by omega)
        have := ih (i + 1) (am_pI τ 107 i (τ.1 109 i)) (by omega) (hf.trans (am_only.pI (by decide))) (by rw [am_pI_of (by decide)]; exact hk) (by rw [am_pI_of (by decide)]; exact h25) (by
          rw [am_pI_row, e6, List.take_add_one]
          have hs := hL.snoc (x := out.getD i 0)
          rw [hti] at hs
          rw [List.getElem?_eq_getElem (by omega)]
          rw [List.getD_eq_getElem?_getD, List.getElem?_eq_getElem (by omega)] at hs ⊢
          exact hs)
        exact this
    refine loop out.length 0 _ (by omega) (am_only.pI (by decide)) ?_ (by rw [am_pI_at]; exact o1) (fun i hi => absurd hi (by simp))
    rw [am_pI_row]
    exact am_kpt.u1 (by decide)
  · rw [if_neg z]
    refine S_X11_take_0 (by omega) (fun y => absurd y (by omega)) (fun _ => ?_)
    exact S_X11_take_9 ⟨rfl, hD, am_only.rfl', am_kpt.rfl'⟩
end
