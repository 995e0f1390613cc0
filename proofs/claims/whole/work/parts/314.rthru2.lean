section
variable {G : am_G} {σ : am_D} {M : ab_M}
theorem r_xthrough (d : Nat) {j k : Int} {doc out : List Int} (hj : -2147483648 ≤ j ∧ j ≤ 2147483647) (hk : -2147483648 ≤ k ∧ k ≤ 2147483647) (hM : rx_M σ M) (hw : ab_w M) (hD : rx_Dc σ doc) (hO : rx_O σ out) (hd : ab_d doc) : am_MI G (d + 7) mX11_through [am_r (some 91), am_i j, am_i k] σ (fun x σ' => x = an_tx M j k doc ∧ rx_O σ' ((an_th M j k doc).getD out) ∧ am_only (109 :: 127 :: rr_A) σ σ' ∧ am_kpt [27, 43, 44, 45, 54] (σ.1 91) (σ'.1 91) ∧ ∀ a, 110 ≤ a → a ≤ 123 → ∀ i : Int, i < rr_sz a → σ'.1 a i = σ.1 a i) := by
  obtain ⟨d1, d2, d3, d4⟩ := hd
  refine am_M.go (by decide) (Nat.le_of_ble_eq_true rfl) rfl ?_
  generalize hQQ : (fun (x : Int) (σ' : am_D) => x = an_tx M j k doc ∧ rx_O σ' ((an_th M j k doc).getD out) ∧ am_only (109 :: 127 :: rr_A) σ σ' ∧ am_kpt [27, 43, 44, 45, 54] (σ.1 91) (σ'.1 91) ∧ ∀ a, 110 ≤ a → a ≤ 123 → ∀ i : Int, i < rr_sz a → σ'.1 a i = σ.1 a i) = QQ
  have no : ∀ τ : am_D, an_th M j k doc = none → rs_f [127] σ τ → QQ (-1) τ := by
    intro τ z hf
    rw [← hQQ]
    refine ⟨by unfold an_tx; rw [z], ?_, hf.1.sub (fun a ha => List.mem_cons_of_mem _ ha), fun i hi => hf.2.1 i (fun y => hi (List.mem_cons_of_mem _ y)), hf.2.2⟩
    rw [z]
    exact ⟨by rw [hf.2.1 27 (by decide)]; exact hO.1, by rw [hf.1.1 109 (by decide)]; exact hO.2.1, hO.2.2⟩
  refine S_X11_through_0 (r_isMachine _ hj (rx_93 hM)) ?_
  rintro x _ ⟨hx, rfl⟩
  rcases rx_t hM hw j with ⟨a, b⟩ | ⟨a, P, b, hT, hP, hW, -⟩
  · rcases hx with ⟨rfl, y⟩ | ⟨rfl, -⟩
    · exact absurd y a
    exact S_X11_through_5 (by decide) (fun _ => S_X11_through_33 (no σ (by unfold an_th; rw [b]) rs_f.rfl')) (fun z => absurd rfl z)
  rcases hx with ⟨rfl, -⟩ | ⟨rfl, y⟩
  rotate_left
  · exact absurd a y
  refine S_X11_through_5 (by decide) (fun z => absurd z (by decide)) (fun _ => ?_)
  refine S_X11_through_8 (r_isMachine _ hk (rx_93 hM)) ?_
  rintro x _ ⟨hx, rfl⟩
  rcases rx_t hM hw k with ⟨a', b'⟩ | ⟨a', Q, b', hT2, hP2, hW2, -⟩
  · rcases hx with ⟨rfl, y⟩ | ⟨rfl, -⟩
    · exact absurd y a'
    exact S_X11_through_13 (by decide) (fun _ => S_X11_through_33 (no σ (by unfold an_th; rw [b, b']) rs_f.rfl')) (fun z => absurd rfl z)
  rcases hx with ⟨rfl, -⟩ | ⟨rfl, y⟩
  rotate_left
  · exact absurd a' y
  refine S_X11_through_13 (by decide) (fun z => absurd z (by decide)) (fun _ => ?_)
  have hjr := a.1
  have hkr := a'.1
  have hth : an_th M j k doc = (match rd_tr P doc with
    | none => none
    | some o => rd_tr Q o) := by
    unfold an_th
    rw [b, b']
    dsimp only
    generalize rd_tr P doc = q9
    cases q9 <;> rfl
  have hc := r_isReadBy2 (G := G) (σ := σ) d (P := P) (Q := Q) (s1 := j) (s2 := k) (b := 107) (w := doc) (by omega) (by omega) (by decide) sh_107 d3 hT hP hW hT2 hP2 hW2 hD.2 d1 d2 (by omega) d4
  rw [← hD.1] at hc
  refine S_X11_through_16 hc ?_
  rintro x τ ⟨hx, hf⟩
  rcases hx with ⟨rfl, hse⟩ | ⟨rfl, o, C, mo, htr, ⟨⟨e1, e2⟩, e3⟩, hrf, hC, hI⟩
  · refine S_X11_through_30 (by decide) (fun z => absurd rfl z) (fun _ => ?_)
    refine S_X11_through_33 (no τ ?_ hf)
    rw [hth]
    unfold se_r at hse
    cases ht : rd_tr P doc with
    | none => rfl
    | some o =>
      rw [ht] at hse
      have hse : (rd_tr Q o).isSome = false := hse
      show rd_tr Q o = none
      cases hq : rd_tr Q o with
      | none => rfl
      | some u => rw [hq] at hse; exact nomatch hse
  rw [htr] at hth
  have hth : an_th M j k doc = rd_tr Q o := hth
  obtain ⟨hs, v, hv, htr2⟩ := rd_tr_some hrf hC
  have hhalf := rd_half e2
  obtain ⟨-, hCI, hu, -⟩ := rd_lens hP2 hW2 e1 hC
  obtain ⟨-, -, -, o4, -⟩ := rd_out_ok hP2 hW2 hCI hv
  have hsl : (rd_sg (rd_out C v)).length = (rd_out C v).length := by unfold rd_sg; rw [List.length_map]
  have hsz : ∀ a : Nat, 0 < rr_sz a := fun a => by unfold rr_sz; split; omega; split; omega; split; omega; split <;> omega
  refine S_X11_through_30 (by decide) (fun _ => ?_) (fun z => absurd (by decide) z)
  refine S_X11_through_35 (r_writes _ (by omega) (by omega) (Or.inl rfl) (hf.T (by decide) hP2 hT2) hP2 hW2 hCI (by omega) hv hI) ?_
  rintro x τ1 ⟨rfl, hL1, τ0, hf0, ho⟩
  refine S_X11_through_46 ?_
  generalize hρ : am_pI τ1 91 27 (rd_out C v).length = ρ
  have r27 : ρ.1 91 27 = (rd_out C v).length := by rw [← hρ, am_pI_at]
  have ro : ∀ a, a ≠ 91 → ρ.1 a = τ1.1 a := fun a ha => by rw [← hρ, am_pI_of ha]
  have rk : am_kpt [27] (τ1.1 91) (ρ.1 91) := by
    rw [← hρ, am_pI_row]
    exact am_kpt.u1 (by decide)
  have r2 : ρ.2 = τ1.2 := by rw [← hρ]
  refine S_X11_through_49 (by omega) ?_
  rw [← hQQ]
  refine ⟨?_, ?_, ⟨fun a ha => ?_, by rw [r2, ho.2, hf0.1.2, hf.1.2]⟩, fun i hi => ?_, fun a y1 y2 i hi => ?_⟩
  · unfold an_tx
    rw [hth, htr2, r27]
    show _ = ((rd_sg (rd_out C v)).length : Int) / 2
    rw [hsl]
    exact Int.tdiv_eq_ediv_of_nonneg (by omega)
  · rw [hth, htr2]
    exact ⟨by rw [r27]; show _ = (((rd_sg (rd_out C v)).length : Nat) : Int); rw [hsl], by rw [ro 109 (by decide)]; exact hL1, by show (rd_sg (rd_out C v)).length ≤ 4812; omega⟩
  · rw [List.mem_cons, not_or] at ha
    have ha2 : a ∉ rr_A := fun y => ha.2 (List.mem_cons_of_mem _ y)
    rw [ro a (fun y => ha2 (by rw [y]; decide)), ho.1 a (fun y => ha.1 (List.mem_singleton.mp y)), hf0.1.1 a ha2]
    exact hf.1.1 a ha.2
  · simp at hi
    rw [rk i (by simp; omega), ho.1 91 (by decide), hf0.2.1 i (by simp; omega)]
    exact hf.2.1 i (by simp; omega)
  · have h9 := hsz a
    rw [ro a (by omega), ho.1 a (by simp; omega), hf0.2.2 a y1 y2 i (Or.inl (by omega))]
    exact hf.2.2 a y1 y2 i hi
end
