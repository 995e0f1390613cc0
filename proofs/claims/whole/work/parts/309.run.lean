section
def ab_d (doc : List Int) : Prop := (∀ x ∈ doc, 0 ≤ x ∧ x ≤ 3) ∧ rd_bal 0 doc ∧ doc.length ≤ 80 ∧ rd_c3n doc ≤ 40
def an_bd (M : ab_M) (k n : Int) : Int := match ab_t M k with
  | none => -1
  | some P => if 0 ≤ n ∧ n ≤ 1000 then n * pm_mC P + pm_mE P else -1
def an_rf (M : ab_M) (k : Int) (doc : List Int) : Int := match ab_t M k with
  | none => -2
  | some P => rd_rf P doc rd_0 0
def an_rn (M : ab_M) (k : Int) (doc : List Int) : Option (List Int) := match ab_t M k with
  | none => none
  | some P => rd_tr P doc
def an_rx (M : ab_M) (k : Int) (doc : List Int) : Int := match an_rn M k doc with
  | none => -1
  | some o => (o.length : Int) / 2
variable {G : am_G} {σ : am_D} {M : ab_M}
theorem cd_fr.cq {m : Nat} {σ τ : am_D} (h : cd_fr 16 m σ τ) : cq_g σ τ := ⟨⟨fun a ha => h.1 a (by omega) (by omega) (by omega) (by omega), fun a _ => by rw [h.2.1], fun a ha => by rw [h.2.2, am_up_ne (by omega)]⟩, h.1 6 (by decide) (by decide) (by decide) (by decide), h.1 7 (by decide) (by decide) (by decide) (by decide)⟩
theorem c_xbound (d : Nat) {k n : Int} (hk : -2147483648 ≤ k ∧ k ≤ 2147483647) (hn : -2147483648 ≤ n ∧ n ≤ 2147483647) (hM : cx_M σ M) : am_MI G (d + 2) mX10_bound [am_r (some 0), am_i k, am_i n] σ (fun x σ' => x = an_bd M k n ∧ σ = σ') := by
  refine am_M.go (by decide) (Nat.le_of_ble_eq_true rfl) rfl ?_
  refine S_X10_bound_0 (c_told _ hk hM) ?_
  rintro x _ ⟨hx, rfl⟩
  unfold an_bd
  rcases hx with ⟨rfl, h⟩ | ⟨m, P, rfl, h, hP⟩
  · rw [h]
    exact S_X10_bound_6 (fun _ => S_X10_bound_21 ⟨rfl, rfl⟩) (fun a z => nomatch z)
  rw [h]
  dsimp only
  obtain ⟨-, -, -, -, -, c5, c6⟩ := hP.2.1.1
  refine S_X10_bound_6 (fun z => nomatch z) (fun _ _ => ?_)
  refine S_X10_bound_10 hn (fun z => S_X10_bound_21 ⟨by rw [if_neg (by omega)], rfl⟩) (fun z => ?_)
  refine S_X10_bound_14 hn (fun y => ?_) (fun y => S_X10_bound_21 ⟨by rw [if_neg (by omega)], rfl⟩)
  refine S_X10_bound_23 hP.1 ⟨?_, rfl⟩
  rw [if_pos (by omega), c5, c6]
theorem r_xbound (d : Nat) {k n : Int} (hk : -2147483648 ≤ k ∧ k ≤ 2147483647) (hn : -2147483648 ≤ n ∧ n ≤ 2147483647) (hM : rx_M σ M) (hw : ab_w M) : am_MI G (d + 3) mX11_bound [am_r (some 91), am_i k, am_i n] σ (fun x σ' => x = an_bd M k n ∧ σ = σ') := by
  refine am_M.go (by decide) (Nat.le_of_ble_eq_true rfl) rfl ?_
  refine S_X11_bound_0 (r_isMachine _ hk (rx_93 hM)) ?_
  rintro x _ ⟨hx, rfl⟩
  unfold an_bd
  rcases rx_t hM hw k with ⟨a, b⟩ | ⟨a, P, b, hT, hP, hW, hdm⟩
  · rcases hx with ⟨rfl, y⟩ | ⟨rfl, -⟩
    · exact absurd y a
    rw [b]
    exact S_X11_bound_5 (by decide) (fun _ => S_X11_bound_39 (S_X11_bound_40 ⟨rfl, rfl⟩)) (fun z => absurd rfl z)
  rcases hx with ⟨rfl, -⟩ | ⟨rfl, y⟩
  rotate_left
  · exact absurd a y
  rw [b]
  dsimp only
  have hkr := a.1
  obtain ⟨-, -, -, pmC, pmE, -⟩ := id hP
  refine S_X11_bound_5 (by decide) (fun z => absurd z (by decide)) (fun _ => ?_)
  refine S_X11_bound_8 (c_isIn _ hn (by omega) (by omega)) ?_
  rintro _ _ ⟨rfl, rfl⟩
  by_cases z : 0 ≤ n ∧ n ≤ 1000
  · rw [if_pos z, if_pos z]
    refine S_X11_bound_16 (by decide) (fun y => absurd y (by decide)) (fun _ => ?_)
    refine S_X11_bound_19 (r_mostOwn (G := G) (σ := σ) d (c := true) (e := false) (by omega) hT hP) ?_
    rintro _ _ ⟨rfl, rfl⟩
    refine S_X11_bound_27 (r_mostOwn (G := G) (σ := σ) d (c := false) (e := true) (by omega) hT hP) ?_
    rintro _ _ ⟨rfl, rfl⟩
    refine S_X11_bound_35 (S_X11_bound_40 ⟨?_, rfl⟩)
    show n * max (pm_mC P) 0 + max 0 (pm_mE P) = _
    rw [Int.max_eq_left pmC.1, Int.max_eq_right pmE.1]
  · rw [if_neg z, if_neg z]
    refine S_X11_bound_16 (by decide) (fun _ => ?_) (fun y => absurd rfl y)
    exact S_X11_bound_39 (S_X11_bound_40 ⟨rfl, rfl⟩)
theorem c_xrefused (d : Nat) {k : Int} {doc : List Int} (hk : -2147483648 ≤ k ∧ k ≤ 2147483647) (hM : cx_M σ M) (hE : am_E σ 6 doc) (hd : ab_d doc) : am_MI G (d + 6) mX10_refused [am_r (some 0), am_i k] σ (fun x σ' => x = an_rf M k doc ∧ cq_g σ σ') := by
  have hk16 : cd_k 16 = 40 := by decide
  obtain ⟨d1, d2, d3, d4⟩ := hd
  refine am_M.go (by decide) (Nat.le_of_ble_eq_true rfl) rfl ?_
  refine S_X10_refused_0 (c_told _ hk hM) ?_
  rintro x _ ⟨hx, rfl⟩
  unfold an_rf
  rcases hx with ⟨rfl, h⟩ | ⟨m, P, rfl, h, hP⟩
  · rw [h]
    exact S_X10_refused_6 (fun _ => S_X10_refused_10 (S_X10_refused_27 ⟨rfl, cq_g.rfl'⟩)) (fun a z => nomatch z)
  rw [h]
  refine S_X10_refused_6 (fun z => nomatch z) (fun _ _ => ?_)
  refine S_X10_refused_15 (c_refusal _ (Or.inr (Or.inl rfl)) (Or.inl rfl) hP hE d1 (by omega) (by omega)) ?_
  rintro x τ ⟨rfl, -, hf⟩
  exact S_X10_refused_27 ⟨rfl, hf.cq⟩
theorem r_xrefused (d : Nat) {k : Int} {doc : List Int} (hk : -2147483648 ≤ k ∧ k ≤ 2147483647) (hM : rx_M σ M) (hw : ab_w M) (hD : rx_Dc σ doc) (hd : ab_d doc) : am_MI G (d + 6) mX11_refused [am_r (some 91), am_i k] σ (fun x σ' => x = an_rf M k doc ∧ rr_fr 1 σ σ') := by
  obtain ⟨d1, d2, d3, d4⟩ := hd
  refine am_M.go (by decide) (Nat.le_of_ble_eq_true rfl) rfl ?_
  refine S_X11_refused_0 (r_isMachine _ hk (rx_93 hM)) ?_
  rintro x _ ⟨hx, rfl⟩
  unfold an_rf
  rcases rx_t hM hw k with ⟨a, b⟩ | ⟨a, P, b, hT, hP, hW, hdm⟩
  · rcases hx with ⟨rfl, y⟩ | ⟨rfl, -⟩
    · exact absurd y a
    rw [b]
    exact S_X11_refused_5 (by decide) (fun _ => S_X11_refused_25 (S_X11_refused_27 ⟨rfl, rr_fr.rfl'⟩)) (fun z => absurd rfl z)
  rcases hx with ⟨rfl, -⟩ | ⟨rfl, y⟩
  rotate_left
  · exact absurd a y
  rw [b]
  have hkr := a.1
  refine S_X11_refused_5 (by decide) (fun z => absurd z (by decide)) (fun _ => ?_)
  have hc := r_refusedAt (G := G) (σ := σ) d (P := P) (g := 1) (sl := k) (b := 107) (w := doc) (by omega) (by omega) (by decide) sh_107 d3 hT hP hW hD.2 d1 d2 (by omega)
  rw [← hD.1] at hc
  refine S_X11_refused_8 hc ?_
  rintro x τ ⟨rfl, hf, -⟩
  exact S_X11_refused_22 (S_X11_refused_27 ⟨rfl, hf⟩)
end
