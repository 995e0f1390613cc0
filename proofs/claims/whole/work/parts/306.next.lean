section
def an_no (w : List Int) : Int := (w.length : Int) - (rd_c3n w : Nat)
def an_nz (C : rd_C) (w : List Int) (e : Int) : Prop := if e = 3 then (rd_s C).length = 0 else (60 : Int) ≤ (rd_s C).length ∨ 400 ≤ an_no w
/-- what next answers and leaves -/
def an_nx (r : ab_R) (e x : Int) (r' : ab_R) : Prop := match r with
  | none => x = -1 ∧ r' = none
  | some p => (¬ (0 ≤ e ∧ e ≤ 3) ∧ x = -1 ∧ r' = r) ∨ ((0 ≤ e ∧ e ≤ 3) ∧ ∃ C mo, rd_run p.1 p.2 rd_0 0 = some (C, mo) ∧ ((an_nz C p.2 e ∧ x = -2 ∧ r' = r) ∨ (¬ an_nz C p.2 e ∧ rd_step p.1 C e = none ∧ x = -1 ∧ r' = r) ∨ (¬ an_nz C p.2 e ∧ ∃ C', rd_step p.1 C e = some C' ∧ x = rd_q C' ∧ r' = some (p.1, p.2 ++ [e]))))
theorem an_nx_eq {r r1 r2 : ab_R} {e x y : Int} (h1 : an_nx r e x r1) (h2 : an_nx r e y r2) : x = y ∧ r1 = r2 := by
  cases r with
  | none =>
    obtain ⟨a, b⟩ := (h1 : x = -1 ∧ r1 = none)
    obtain ⟨a', b'⟩ := (h2 : y = -1 ∧ r2 = none)
    exact ⟨by omega, by rw [b, b']⟩
  | some p =>
    rcases (show _ ∨ _ from h1) with ⟨a, b, c⟩ | ⟨a, C, mo, hC, h1⟩
    · rcases (show _ ∨ _ from h2) with ⟨a', b', c'⟩ | ⟨a', -⟩
      · exact ⟨by omega, by rw [c, c']⟩
      · exact absurd a' a
    · rcases (show _ ∨ _ from h2) with ⟨a', -⟩ | ⟨a', C2, mo2, hC2, h2⟩
      · exact absurd a a'
      rw [hC] at hC2
      injection hC2 with hC2
      injection hC2 with e1 e2
      subst e1
      rcases h1 with ⟨z, b, c⟩ | ⟨z, s, b, c⟩ | ⟨z, C', s, b, c⟩
      · rcases h2 with ⟨z', b', c'⟩ | ⟨z', -⟩ | ⟨z', -⟩
        · exact ⟨by omega, by rw [c, c']⟩
        · exact absurd z z'
        · exact absurd z z'
      · rcases h2 with ⟨z', -⟩ | ⟨z', s', b', c'⟩ | ⟨z', C'', s', -⟩
        · exact absurd z' z
        · exact ⟨by omega, by rw [c, c']⟩
        · rw [s] at s'; exact nomatch s'
      · rcases h2 with ⟨z', -⟩ | ⟨z', s', -⟩ | ⟨z', C'', s', b', c'⟩
        · exact absurd z' z
        · rw [s] at s'; exact nomatch s'
        · rw [s] at s'
          injection s' with s'
          subst s'
          exact ⟨by rw [b, b'], by rw [c, c']⟩
/-- bounds of a READING -/
def ab_rb (r : ab_R) : Prop := match r with
  | none => True
  | some p => (pm_ok p.1 ∧ pm_wf p.1) ∧ (∀ e ∈ p.2, 0 ≤ e ∧ e ≤ 3) ∧ an_no p.2 ≤ 400 ∧ ∀ C mo, rd_run p.1 p.2 rd_0 0 = some (C, mo) → ((rd_s C).length : Int) ≤ 60
theorem rd_c3n_s {w : List Int} {e : Int} : rd_c3n (w ++ [e]) = rd_c3n w + (if e = 3 then 1 else 0) := by
  unfold rd_c3n
  rw [List.countP_append, List.countP_singleton]
  simp
theorem rd_lens {P : am_P} {w : List Int} {C : rd_C} {mo : Int} (hP : pm_ok P) (hW : pm_wf P) (hw : ∀ e ∈ w, 0 ≤ e ∧ e ≤ 3) (hC : rd_run P w rd_0 0 = some (C, mo)) : ((rd_s C).length : Int) + 2 * (rd_c3n w : Nat) = w.length ∧ rd_I P C ∧ rd_u C ≤ 12 * (rd_c3n w : Nat) ∧ 0 ≤ mo ∧ mo ≤ rd_u C := by
  obtain ⟨h1, ⟨-, h2⟩, h3, ⟨h4, h5⟩, -⟩ := rd_run_inv hP hW w rd_0 C 0 mo hw (rd_I_0 hP) ⟨Int.le_refl _, Int.le_refl _⟩ hC
  have h2 : rd_u C ≤ 0 + 12 * (rd_c3n w : Nat) := h2
  have h3 : ((rd_s C).length : Int) + 2 * (rd_c3n w : Nat) = (0 : Nat) + w.length := h3
  exact ⟨by omega, h1, by omega, h4, h5⟩
theorem ab_rb_nx {r r' : ab_R} {e x : Int} (hb : ab_rb r) (h : an_nx r e x r') : ab_rb r' := by
  cases r with
  | none =>
    obtain ⟨-, b⟩ := (h : x = -1 ∧ r' = none)
    rw [b]; trivial
  | some p =>
    rcases (show _ ∨ _ from h) with ⟨a, b, c⟩ | ⟨a, C, mo, hC, h1⟩
    · rw [c]; exact hb
    rcases h1 with ⟨z, b, c⟩ | ⟨z, s, b, c⟩ | ⟨z, C', s, b, c⟩
    · rw [c]; exact hb
    · rw [c]; exact hb
    · rw [c]
      obtain ⟨⟨hP, hW⟩, hw, hno, hd⟩ := (show _ ∧ _ from hb)
      have hl := (rd_lens hP hW hw hC)
      have hst := rd_step_I hP hW a hl.2.1 s
      have hd0 := hd C mo hC
      refine ⟨⟨hP, hW⟩, fun y hy => ?_, ?_, fun C2 mo2 h2 => ?_⟩
      · rcases List.mem_append.mp hy with hy | hy
        · exact hw y hy
        · rw [List.mem_singleton.mp hy]; exact a
      · show an_no (p.2 ++ [e]) ≤ 400
        unfold an_nz at z
        unfold an_no at hno z ⊢
        rw [rd_c3n_s, List.length_append]
        show ((p.2.length + 1 : Nat) : Int) - _ ≤ 400
        by_cases e3 : e = 3
        · rw [if_pos e3]; omega
        · rw [if_neg e3] at z ⊢; omega
      · have h2 : rd_run p.1 (p.2 ++ [e]) rd_0 0 = some (C2, mo2) := h2
        rw [rd_run_snoc hC s] at h2
        injection h2 with h2
        injection h2 with e1 e2
        rw [← e1]
        have h9 := hst.2.2.1
        unfold an_nz at z
        by_cases e3 : e = 3
        · rw [if_pos e3] at h9; omega
        · rw [if_neg e3] at h9 z; omega
variable {G : am_G} {σ : am_D}
theorem c_ropens (d : Nat) {m : Nat} {P : am_P} {w : List Int} {C : rd_C} {mo : Int} (hI : cd_I σ 12 m P w) (hC : rd_run P w rd_0 0 = some (C, mo)) : am_MI G (d + 3) mX3_opens [am_r (some 12)] σ (fun x σ' => x = an_no w ∧ σ = σ') := by
  have hX := (hI.cells hC).1
  have h5 := hI.2.2.1
  have hk : cd_k 12 = 400 := by decide
  have hl := (rd_lens hI.2.1.2.2.2.1 hI.2.1.2.2.2.2 h5.2.1 hC).1
  refine am_M.go (by decide) (Nat.le_of_ble_eq_true rfl) rfl ?_
  refine S_X3_opens_0 (Or.inl rfl) (c_now _ (Or.inl rfl) h5.1 h5.2.2.1 (by omega)) ?_
  rintro _ _ ⟨rfl, rfl⟩
  have e1 : σ.1 (12 + 1) ((w.length : Int) * 16 + 1) = (rd_s C).length := hX.1.2.1
  rw [e1, h5.1]
  refine S_X3_opens_9 (by omega) ⟨?_, rfl⟩
  rw [Int.tdiv_eq_ediv_of_nonneg (by omega)]
  unfold an_no
  omega
theorem c_xnext (d : Nat) {r : ab_R} {e : Int} (he : -2147483648 ≤ e ∧ e ≤ 2147483647) (hR : cx_R σ r) (hb : ab_rb r) : am_MI G (d + 5) mX10_next [am_r (some 0), am_i e] σ (fun x σ' => ∃ r', an_nx r e x r' ∧ cx_R σ' r' ∧ am_only [12, 13, 14, 15] σ σ') := by
  refine am_M.go (by decide) (Nat.le_of_ble_eq_true rfl) rfl ?_
  cases r with
  | none =>
    have hR : σ.2.2 12 4 = none := hR
    exact S_X10_next_0 (fun _ => S_X10_next_19 ⟨none, ⟨rfl, rfl⟩, hR, am_only.rfl'⟩) (fun a z => by rw [hR] at z; exact nomatch z)
  | some p =>
    obtain ⟨P, w⟩ := p
    have hR' : ∃ m, cd_I σ 12 m P w := hR
    obtain ⟨m, hI⟩ := hR'
    obtain ⟨⟨hP, hW⟩, hw, hno, hdp⟩ := (show _ ∧ _ from hb)
    dsimp only at hP hW hw hno hdp
    obtain ⟨C, mo, hC⟩ := hI.run
    have hdp := hdp C mo hC
    have hX := (hI.cells hC).1
    have h5 := hI.2.2.1
    have hk : cd_k 12 = 400 := by decide
    obtain ⟨hl, hCI, -⟩ := rd_lens hP hW hw hC
    have e1 : σ.1 (12 + 1) ((w.length : Int) * 16 + 1) = (rd_s C).length := hX.1.2.1
    have hno' : an_no w = (w.length : Int) - (rd_c3n w : Nat) := rfl
    refine S_X10_next_0 (fun z => by rw [hI.1] at z; exact nomatch z) (fun _ _ => ?_)
    refine S_X10_next_10 he (fun z => S_X10_next_19 ⟨some (P, w), Or.inl ⟨by omega, rfl, rfl⟩, hR, am_only.rfl'⟩) (fun z0 => ?_)
    refine S_X10_next_14 he (fun z3 => ?_) (fun z => S_X10_next_19 ⟨some (P, w), Or.inl ⟨by omega, rfl, rfl⟩, hR, am_only.rfl'⟩)
    have her : 0 ≤ e ∧ e ≤ 3 := by omega
    refine S_X10_next_21 (c_now _ (Or.inl rfl) h5.1 h5.2.2.1 (by omega)) ?_
    rintro _ _ ⟨rfl, rfl⟩
    rw [e1]
    have two : an_nz C w e → ∃ r', an_nx (some (P, w)) e (-2) r' ∧ cx_R σ r' ∧ am_only [12, 13, 14, 15] σ σ := fun z => ⟨some (P, w), Or.inr ⟨her, C, mo, hC, Or.inl ⟨z, rfl, rfl⟩⟩, hR, am_only.rfl'⟩
    have step : ¬ an_nz C w e → am_X (am_FI G (d + 5) (fun x σ' => ∃ r', an_nx (some (P, w)) e x r' ∧ cx_R σ' r' ∧ am_only [12, 13, 14, 15] σ σ')) mX10_next (0, 0) 69 [some (am_r (some 0)), some (am_i e), none] [] (am_K0, σ) := by
      intro z
      have z' := z
      unfold an_nz at z'
      refine S_X10_next_69 (c_step _ (Or.inl rfl) hI her (by rw [hk]; by_cases e3 : e = 3; · rw [if_pos e3] at z'; omega
                                                             · rw [if_neg e3] at z'; omega) (fun e3 => by rw [hk]; rw [if_pos e3] at z'; omega) hC) ?_
      intro x τ hx
      rcases hx with ⟨rfl, hs, rfl⟩ | ⟨rfl, ⟨C', hs⟩, hf, hI'⟩
      · refine S_X10_next_77 (by decide) (fun _ => ?_) (fun y => absurd rfl y)
        exact S_X10_next_91 (S_X10_next_92 ⟨some (P, w), Or.inr ⟨her, C, mo, hC, Or.inr (Or.inl ⟨z, hs, rfl, rfl⟩)⟩, hR, am_only.rfl'⟩)
      · refine S_X10_next_77 (by decide) (fun y => absurd y (by decide)) (fun _ => ?_)
        have hX' := (hI'.cells (rd_run_snoc hC hs)).1
        have h5' := hI'.2.2.1
        refine S_X10_next_80 (c_now _ (Or.inl rfl) h5'.1 h5'.2.2.1 (by omega)) ?_
        rintro _ _ ⟨rfl, rfl⟩
        refine S_X10_next_88 (S_X10_next_92 ⟨some (P, w ++ [e]), Or.inr ⟨her, C, mo, hC, Or.inr (Or.inr ⟨z, C', hs, hX'.1.1, rfl⟩)⟩, ⟨m, hI'⟩, hf⟩)
    by_cases e3 : e = 3
    · refine S_X10_next_30 he (fun y => absurd e3 y) (fun _ => ?_)
      refine S_X10_next_35 (by omega) (fun y => ?_) (fun y => ?_)
      · refine S_X10_next_42 he (fun _ => step ?_) (fun y2 => absurd e3 y2)
        unfold an_nz
        rw [if_pos e3]
        omega
      · refine S_X10_next_39 (two ?_)
        unfold an_nz
        rw [if_pos e3]
        omega
    · refine S_X10_next_30 he (fun _ => ?_) (fun y => absurd e3 y)
      refine S_X10_next_42 he (fun y => absurd y e3) (fun _ => ?_)
      refine S_X10_next_47 (by omega) (fun y => S_X10_next_66 (two ?_)) (fun y => ?_)
      · unfold an_nz
        rw [if_neg e3]
        exact Or.inl y
      refine S_X10_next_53 (c_ropens _ hI hC) ?_
      rintro _ _ ⟨rfl, rfl⟩
      refine S_X10_next_60 (by omega) (fun y2 => step ?_) (fun y2 => S_X10_next_66 (two ?_))
      · unfold an_nz
        rw [if_neg e3]
        omega
      · unfold an_nz
        rw [if_neg e3]
        omega
end
