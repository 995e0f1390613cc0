section
def an_ah (M : ab_M) (j k : Int) (doc : List Int) : Int := match ab_t M j, ab_t M k with
  | some P, some Q => if se_r P Q doc then 1 else 0
  | _, _ => -1
variable {G : am_G} {σ : am_D} {M : ab_M}
theorem c_xahead (d : Nat) {j k : Int} {doc : List Int} (hj : -2147483648 ≤ j ∧ j ≤ 2147483647) (hk : -2147483648 ≤ k ∧ k ≤ 2147483647) (hM : cx_M σ M) (hE : am_E σ 6 doc) (hd : ab_d doc) : am_MI G (d + 6) mX10_ahead [am_r (some 0), am_i j, am_i k] σ (fun x σ' => x = an_ah M j k doc ∧ cq_g σ σ') := by
  have hk16 : cd_k 16 = 40 := by decide
  obtain ⟨d1, d2, d3, d4⟩ := hd
  refine am_M.go (by decide) (Nat.le_of_ble_eq_true rfl) rfl ?_
  refine S_X10_ahead_0 (c_told _ hj hM) ?_
  rintro o1 _ ⟨h1, rfl⟩
  refine S_X10_ahead_6 (c_told _ hk hM) ?_
  rintro o2 _ ⟨h2, rfl⟩
  rcases h1 with ⟨rfl, h1⟩ | ⟨m1, P, rfl, h1, hP⟩
  · exact S_X10_ahead_13 (fun _ => S_X10_ahead_22 ⟨by unfold an_ah; rw [h1], cq_g.rfl'⟩) (fun a z => nomatch z)
  refine S_X10_ahead_13 (fun z => nomatch z) (fun _ _ => ?_)
  rcases h2 with ⟨rfl, h2⟩ | ⟨m2, Q, rfl, h2, hQ⟩
  · exact S_X10_ahead_17 (fun _ => S_X10_ahead_22 ⟨by unfold an_ah; rw [h1, h2], cq_g.rfl'⟩) (fun a z => nomatch z)
  refine S_X10_ahead_17 (fun z => nomatch z) (fun _ _ => ?_)
  have hah : an_ah M j k doc = if se_r P Q doc then 1 else 0 := by unfold an_ah; rw [h1, h2]
  have hm2 := hQ.1.1
  refine S_X10_ahead_24 (c_refusal _ (Or.inr (Or.inl rfl)) (Or.inl rfl) hP hE d1 (by omega) (by omega)) ?_
  rintro x τ ⟨rfl, hx1, hf⟩
  have hrg := rd_rf_rg (P := P) doc rd_0 0 (Int.le_refl _)
  by_cases z : rd_rf P doc rd_0 0 = -1
  rotate_left
  · refine S_X10_ahead_36 (by omega) (fun y => absurd y z) (fun _ => ?_)
    refine S_X10_ahead_40 ⟨?_, hf.cq⟩
    rw [hah]
    unfold se_r
    rw [rd_tr_none z]
    rfl
  have hI := hx1 z
  obtain ⟨C, mo, hC⟩ := hI.run
  obtain ⟨hs, v, hv, htr⟩ := rd_tr_some z hC
  obtain ⟨b1, b2, b3, b4, b5⟩ := rd_tr_b hP.2.2.2.1 hP.2.2.2.2 d1 d4 hC hv
  have hse : se_r P Q doc = (rd_tr Q (rd_sg (rd_out C v))).isSome := by unfold se_r; rw [htr]
  refine S_X10_ahead_36 (by omega) (fun _ => ?_) (fun y => absurd z y)
  refine S_X10_ahead_42 (c_write _ (Or.inr (Or.inl rfl)) hI hC hs hv) ?_
  rintro τ1 ⟨hf1, hI1, hO1⟩
  have hQ1 : cd_M τ1 m2 Q := cd_M_of (fun b y1 y2 => by rw [hf1.1 b (by simp; omega), hf.1 b (by omega) (by omega) (by omega) (by omega)]) hQ
  refine S_X10_ahead_49 (c_scout _ (Or.inr (Or.inl rfl)) hQ1 hO1 (by omega)) ?_
  rintro x τ2 ⟨hx2, hf2⟩
  have hcq : cq_g σ τ2 := by
    have a1 := hf.cq
    refine ⟨⟨fun a ha => ?_, fun a ha => ?_, fun a ha => ?_⟩, ?_, ?_⟩
    · rw [hf2.1 a (by simp; omega), hf1.1 a (by simp; omega)]
      exact a1.1.1 a ha
    · rw [hf2.2, hf1.2]
      exact a1.1.2.1 a ha
    · rw [hf2.2, hf1.2]
      exact a1.1.2.2 a ha
    · rw [hf2.1 6 (by decide), hf1.1 6 (by decide)]
      exact a1.2.1
    · rw [hf2.1 7 (by decide), hf1.1 7 (by decide)]
      exact a1.2.2
  rcases hx2 with ⟨rfl, y1⟩ | ⟨rfl, y1⟩
  · refine S_X10_ahead_62 (by decide) (fun y => absurd y (by decide)) (fun _ => ?_)
    refine S_X10_ahead_65 (S_X10_ahead_70 ⟨?_, hcq⟩)
    obtain ⟨C2, mo2, hC2, -⟩ := (rd_rf_ok (P := Q) (rd_sg (rd_out C v)) rd_0 0 0 (Int.le_refl _)).mp y1
    obtain ⟨-, v2, -, htr2⟩ := rd_tr_some y1 hC2
    rw [hah, hse, htr2]
    rfl
  · refine S_X10_ahead_62 (by decide) (fun _ => ?_) (fun y => absurd rfl y)
    refine S_X10_ahead_69 (S_X10_ahead_70 ⟨?_, hcq⟩)
    rw [hah, hse, rd_tr_none y1]
    rfl
theorem r_xahead (d : Nat) {j k : Int} {doc : List Int} (hj : -2147483648 ≤ j ∧ j ≤ 2147483647) (hk : -2147483648 ≤ k ∧ k ≤ 2147483647) (hM : rx_M σ M) (hw : ab_w M) (hD : rx_Dc σ doc) (hd : ab_d doc) : am_MI G (d + 7) mX11_ahead [am_r (some 91), am_i j, am_i k] σ (fun x σ' => x = an_ah M j k doc ∧ rs_f [127] σ σ') := by
  obtain ⟨d1, d2, d3, d4⟩ := hd
  refine am_M.go (by decide) (Nat.le_of_ble_eq_true rfl) rfl ?_
  refine S_X11_ahead_0 (r_isMachine _ hj (rx_93 hM)) ?_
  rintro x _ ⟨hx, rfl⟩
  rcases rx_t hM hw j with ⟨a, b⟩ | ⟨a, P, b, hT, hP, hW, -⟩
  · rcases hx with ⟨rfl, y⟩ | ⟨rfl, -⟩
    · exact absurd y a
    exact S_X11_ahead_5 (by decide) (fun _ => S_X11_ahead_16 (S_X11_ahead_42 ⟨by unfold an_ah; rw [b], rs_f.rfl'⟩)) (fun z => absurd rfl z)
  rcases hx with ⟨rfl, -⟩ | ⟨rfl, y⟩
  rotate_left
  · exact absurd a y
  refine S_X11_ahead_5 (by decide) (fun z => absurd z (by decide)) (fun _ => ?_)
  refine S_X11_ahead_8 (r_isMachine _ hk (rx_93 hM)) ?_
  rintro x _ ⟨hx, rfl⟩
  rcases rx_t hM hw k with ⟨a', b'⟩ | ⟨a', Q, b', hT2, hP2, hW2, -⟩
  · rcases hx with ⟨rfl, y⟩ | ⟨rfl, -⟩
    · exact absurd y a'
    exact S_X11_ahead_13 (by decide) (fun z => absurd rfl z) (fun _ => S_X11_ahead_16 (S_X11_ahead_42 ⟨by unfold an_ah; rw [b, b'], rs_f.rfl'⟩))
  rcases hx with ⟨rfl, -⟩ | ⟨rfl, y⟩
  rotate_left
  · exact absurd a' y
  refine S_X11_ahead_13 (by decide) (fun _ => ?_) (fun z => absurd (by decide) z)
  have hjr := a.1
  have hkr := a'.1
  have hah : an_ah M j k doc = if se_r P Q doc then 1 else 0 := by unfold an_ah; rw [b, b']
  have hc := r_isReadBy (G := G) (σ := σ) d (P := P) (Q := Q) (s1 := j) (s2 := k) (b := 107) (w := doc) (by omega) (by omega) (by decide) sh_107 d3 hT hP hW hT2 hP2 hW2 hD.2 d1 d2 (by omega) d4
  rw [← hD.1] at hc
  refine S_X11_ahead_20 hc ?_
  rintro x τ ⟨hx, hf⟩
  subst hx
  cases hse : se_r P Q doc with
  | true =>
    refine S_X11_ahead_34 (by decide) (fun z => absurd z (by decide)) (fun _ => ?_)
    exact S_X11_ahead_37 (S_X11_ahead_42 ⟨by rw [hah, hse]; rfl, hf⟩)
  | false =>
    refine S_X11_ahead_34 (by decide) (fun _ => ?_) (fun z => absurd rfl z)
    exact S_X11_ahead_41 (S_X11_ahead_42 ⟨by rw [hah, hse]; rfl, hf⟩)
end
