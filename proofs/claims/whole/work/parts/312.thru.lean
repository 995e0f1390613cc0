section
theorem rd_two : ∀ (w : List Int), w.countP (· < 3) + w.countP (· = 3) ≤ w.length := by
  intro w
  induction w with
  | nil => exact Nat.le_refl _
  | cons s w ih =>
    rw [List.countP_cons, List.countP_cons, List.length_cons]
    by_cases h1 : s < 3
    · have h2 : ¬ s = 3 := by omega
      simp only [h1, h2, decide_true, decide_false, if_true]
      simp
      omega
    · by_cases h2 : s = 3
      · simp only [h1, h2, decide_true, decide_false, if_true]
        simp
        omega
      · simp only [h1, h2, decide_false]
        simp
        omega
theorem rd_half {w : List Int} (h : rd_bal 0 w) : 2 * rd_c3n w ≤ w.length := by
  have h1 := rd_bal_cnt w 0 h
  have h2 := rd_two w
  unfold rd_c3n
  omega
def an_th (M : ab_M) (j k : Int) (doc : List Int) : Option (List Int) := match ab_t M j, ab_t M k with
  | some P, some Q => (match rd_tr P doc with
    | none => none
    | some o => rd_tr Q o)
  | _, _ => none
def an_tx (M : ab_M) (j k : Int) (doc : List Int) : Int := match an_th M j k doc with
  | none => -1
  | some o => (o.length : Int) / 2
variable {G : am_G} {σ : am_D} {M : ab_M}
theorem c_xthrough (d : Nat) {j k : Int} {doc out : List Int} (hj : -2147483648 ≤ j ∧ j ≤ 2147483647) (hk : -2147483648 ≤ k ∧ k ≤ 2147483647) (hM : cx_M σ M) (hE : am_E σ 6 doc) (hO : am_E σ 10 out) (hd : ab_d doc) : am_MI G (d + 6) mX10_through [am_r (some 0), am_i j, am_i k] σ (fun x σ' => x = an_tx M j k doc ∧ am_E σ' 10 ((an_th M j k doc).getD out) ∧ (∀ a, (a ≤ 9 ∨ (12 ≤ a ∧ a ≤ 15) ∨ a = 33 ∨ 43 ≤ a) → σ'.1 a = σ.1 a) ∧ (∀ a, 43 ≤ a → σ'.2.1 a = σ.2.1 a) ∧ ∀ a, (a ≤ 15 ∨ 43 ≤ a) → σ'.2.2 a = σ.2.2 a) := by
  have hk16 : cd_k 16 = 40 := by decide
  have hk20 : cd_k 20 = 246 := by decide
  obtain ⟨d1, d2, d3, d4⟩ := hd
  refine am_M.go (by decide) (Nat.le_of_ble_eq_true rfl) rfl ?_
  refine S_X10_through_0 (c_told _ hj hM) ?_
  rintro o1 _ ⟨h1, rfl⟩
  refine S_X10_through_6 (c_told _ hk hM) ?_
  rintro o2 _ ⟨h2, rfl⟩
  generalize hQQ : (fun (x : Int) (σ' : am_D) => x = an_tx M j k doc ∧ am_E σ' 10 ((an_th M j k doc).getD out) ∧ (∀ a, (a ≤ 9 ∨ (12 ≤ a ∧ a ≤ 15) ∨ a = 33 ∨ 43 ≤ a) → σ'.1 a = σ.1 a) ∧ (∀ a, 43 ≤ a → σ'.2.1 a = σ.2.1 a) ∧ ∀ a, (a ≤ 15 ∨ 43 ≤ a) → σ'.2.2 a = σ.2.2 a) = QQ
  have no : ∀ τ : am_D, an_th M j k doc = none → (∀ a, (a < 16 ∨ 24 ≤ a) → τ.1 a = σ.1 a) → τ.2.1 = σ.2.1 → (∀ a, (a < 16 ∨ 24 ≤ a) → τ.2.2 a = σ.2.2 a) → QQ (-1) τ := by
    intro τ z g1 g2 g3
    rw [← hQQ]
    refine ⟨by unfold an_tx; rw [z], ?_, fun a ha => g1 a (by omega), fun a _ => by rw [g2], fun a ha => g3 a (by omega)⟩
    rw [z]
    exact hO.of (g1 10 (by omega)) (g1 11 (by omega))
  rcases h1 with ⟨rfl, h1⟩ | ⟨m1, P, rfl, h1, hP⟩
  · exact S_X10_through_13 (fun _ => S_X10_through_38 (no σ (by unfold an_th; rw [h1]) (fun _ _ => rfl) rfl (fun _ _ => rfl))) (fun a z => nomatch z)
  refine S_X10_through_13 (fun z => nomatch z) (fun _ _ => ?_)
  rcases h2 with ⟨rfl, h2⟩ | ⟨m2, Q, rfl, h2, hQ⟩
  · exact S_X10_through_17 (fun _ => S_X10_through_38 (no σ (by unfold an_th; rw [h1, h2]) (fun _ _ => rfl) rfl (fun _ _ => rfl))) (fun a z => nomatch z)
  refine S_X10_through_17 (fun z => nomatch z) (fun _ _ => ?_)
  have hth : an_th M j k doc = (match rd_tr P doc with
    | none => none
    | some o => rd_tr Q o) := by unfold an_th; rw [h1, h2]
  have hm2 := hQ.1.1
  refine S_X10_through_22 (c_refusal _ (Or.inr (Or.inl rfl)) (Or.inl rfl) hP hE d1 (by omega) (by omega)) ?_
  rintro x τ ⟨rfl, hx1, hf⟩
  have hrg := rd_rf_rg (P := P) doc rd_0 0 (Int.le_refl _)
  by_cases z : rd_rf P doc rd_0 0 = -1
  rotate_left
  · refine S_X10_through_34 (by omega) (fun y => absurd y z) (fun _ => ?_)
    exact S_X10_through_38 (no τ (by rw [hth, rd_tr_none z]) (fun a ha => hf.1 a (by omega) (by omega) (by omega) (by omega)) hf.2.1 (fun a ha => by rw [hf.2.2, am_up_ne (by omega)]))
  have hI := hx1 z
  obtain ⟨C, mo, hC⟩ := hI.run
  obtain ⟨hs, v, hv, htr⟩ := rd_tr_some z hC
  obtain ⟨b1, b2, b3, b4, b5⟩ := rd_tr_b hP.2.2.2.1 hP.2.2.2.2 d1 d4 hC hv
  rw [htr] at hth
  have hth : an_th M j k doc = rd_tr Q (rd_sg (rd_out C v)) := hth
  have hsl : (rd_sg (rd_out C v)).length = (rd_out C v).length := by unfold rd_sg; rw [List.length_map]
  have hhalf := rd_half b3.2
  refine S_X10_through_34 (by omega) (fun _ => ?_) (fun y => absurd z y)
  refine S_X10_through_40 (c_write _ (Or.inr (Or.inl rfl)) hI hC hs hv) ?_
  rintro τ1 ⟨hf1, hI1, hO1⟩
  have hQ1 : cd_M τ1 m2 Q := cd_M_of (fun b y1 y2 => by rw [hf1.1 b (by simp; omega), hf.1 b (by omega) (by omega) (by omega) (by omega)]) hQ
  refine S_X10_through_47 (c_readBehind _ (Or.inr (Or.inr rfl)) (Or.inr (Or.inl rfl)) (by decide) hQ1 hO1 (by omega) (by omega)) ?_
  rintro x τ2 ⟨hx2, hf2⟩
  have k1 : ∀ a, (a < 16 ∨ 24 ≤ a) → τ2.1 a = σ.1 a := fun a ha => by
    rw [hf2.1 a (by omega) (by omega) (by omega) (by omega), hf1.1 a (by simp; omega)]
    exact hf.1 a (by omega) (by omega) (by omega) (by omega)
  have k2 : τ2.2.1 = σ.2.1 := by rw [hf2.2.1, hf1.2, hf.2.1]
  have k3 : ∀ a, (a < 16 ∨ 24 ≤ a) → τ2.2.2 a = σ.2.2 a := fun a ha => by rw [hf2.2.2, am_up_ne (by omega), hf1.2, hf.2.2, am_up_ne (by omega)]
  rcases hx2 with ⟨rfl, y1, hI2⟩ | ⟨rfl, y1⟩
  rotate_left
  · refine S_X10_through_60 (by decide) (fun y => absurd rfl y) (fun _ => ?_)
    exact S_X10_through_63 (no τ2 (by rw [hth, rd_tr_none y1]) k1 k2 k3)
  refine S_X10_through_60 (by decide) (fun _ => ?_) (fun y => absurd (by decide) y)
  obtain ⟨C2, mo2, hC2, ⟨hCI2, -⟩, hu2, -⟩ := hI2.C
  obtain ⟨hs2, v2, hv2, htr2⟩ := rd_tr_some y1 hC2
  obtain ⟨-, -, -, o4, -⟩ := rd_out_ok hQ.2.2.2.1 hQ.2.2.2.2 hCI2 hv2
  have hes : am_es 10 = 4812 := by decide
  refine S_X10_through_65 (c_write _ (Or.inr (Or.inr rfl)) hI2 hC2 hs2 hv2) ?_
  rintro τ3 ⟨hf3, -, hO3⟩
  refine S_X10_through_72 (c_receive _ (Or.inr (Or.inr rfl)) (Or.inr (Or.inr rfl)) hO3 (by omega)) ?_
  rintro τ4 ⟨hE4, hf4⟩
  refine S_X10_through_83 (c_elements _ (Or.inr (Or.inr rfl)) hE4) ?_
  rintro _ _ ⟨rfl, rfl⟩
  rw [← hQQ]
  refine ⟨?_, ?_, fun a ha => ?_, fun a _ => ?_, fun a ha => ?_⟩
  · unfold an_tx
    rw [hth, htr2]
    exact Int.tdiv_eq_ediv_of_nonneg (by omega)
  · rw [hth, htr2]; exact hE4
  · rw [hf4.1 a (by simp; omega), hf3.1 a (by simp; omega)]
    exact k1 a (by omega)
  · rw [hf4.2, hf3.2, k2]
  · rw [hf4.2, hf3.2]
    exact k3 a (by omega)
end
