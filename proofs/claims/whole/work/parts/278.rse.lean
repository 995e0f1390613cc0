section
variable {G : am_G} {σ : am_D}
/-- two slots hold P and Q -/
def rs_M (σ : am_D) (s1 s2 : Int) (P Q : am_P) : Prop := ((0 ≤ s1 ∧ s1 < 6) ∧ (0 ≤ s2 ∧ s2 < 6)) ∧ (rm_T σ s1 P ∧ pm_ok P ∧ pm_wf P) ∧ rm_T σ s2 Q ∧ pm_ok Q ∧ pm_wf Q
theorem rs_M.f {S : List Nat} {σ τ : am_D} {s1 s2 : Int} {P Q : am_P} (h : rs_M σ s1 s2 P Q) (hf : rs_f S σ τ) (hS : ∀ a ∈ S, a < 94 ∨ 106 < a) : rs_M τ s1 s2 P Q := ⟨h.1, ⟨hf.T hS h.2.1.2.1 h.2.1.1, h.2.1.2⟩, hf.T hS h.2.2.2.1 h.2.2.1, h.2.2.2⟩
theorem r_isSpoilt (d : Nat) {P Q : am_P} {s1 s2 : Int} {w : List Int} (hM : rs_M σ s1 s2 P Q) (hn : w.length ≤ 8) (hL : am_isL (σ.1 131) w) (hw : ∀ x ∈ w, 0 ≤ x ∧ x ≤ 3) (hbal : rd_bal 0 w) : am_MI G (d + 7) mX11_isSpoilt [am_r (some 91), am_i s1, am_i s2, am_i w.length] σ (fun x σ' => x = (if se_p P Q true w then 1 else 0) ∧ rs_f [127, 128] σ σ') := by
  obtain ⟨⟨h1, h2⟩, ⟨hT, hP, hW⟩, hT2, hP2, hW2⟩ := id hM
  have h3 := se_c3n_le w
  refine am_M.go (by decide) (Nat.le_of_ble_eq_true rfl) rfl ?_
  refine S_X11_isSpoilt_0 (r_refusedAt _ (by omega) h1 (by decide) sh_131 hn hT hP hW hL hw hbal (by omega)) ?_
  rintro x τ ⟨rfl, hf, -⟩
  have hf1 : rs_f [127, 128] σ τ := hf.rs (Or.inl rfl)
  have hrg := rd_rf_rg (P := P) w rd_0 0 (Int.le_refl _)
  have hMτ := hM.f hf1 (by decide)
  by_cases z : rd_rf P w rd_0 0 = -1
  rotate_left
  · refine S_X11_isSpoilt_11 (by omega) (fun _ => ?_) (fun y => absurd z y)
    refine S_X11_isSpoilt_33 (S_X11_isSpoilt_34 (Or.inl rfl) ⟨?_, hf1⟩)
    unfold se_p
    rw [rd_tr_none z]
    rfl
  refine S_X11_isSpoilt_11 (by omega) (fun y => absurd z y) (fun _ => ?_)
  refine S_X11_isSpoilt_15 (r_isReadBy _ h1 h2 (by decide) sh_131 hn hMτ.2.1.1 hP hW hMτ.2.2.1 hP2 hW2 (by rw [hf1.1.1 131 (by decide)]; exact hL) hw hbal (by omega) (by omega)) ?_
  rintro x τ1 ⟨rfl, hf2⟩
  have hf3 : rs_f [127, 128] σ τ1 := hf1.trans (hf2.sub (fun a ha => by rw [List.mem_singleton.mp ha]; decide))
  have hsp : se_p P Q true w = !se_r P Q w := by
    show ((rd_tr P w).isSome && !se_r P Q w) = _
    rw [rd_tr_iff.mpr z, Bool.true_and]
  rw [hsp]
  cases hr : se_r P Q w with
  | true =>
    refine S_X11_isSpoilt_26 (by decide) (fun _ => ?_) (fun y => absurd (by decide) y)
    exact S_X11_isSpoilt_33 (S_X11_isSpoilt_34 (Or.inl rfl) ⟨rfl, hf3⟩)
  | false =>
    refine S_X11_isSpoilt_26 (by decide) (fun y => absurd (by decide) y) (fun _ => ?_)
    exact S_X11_isSpoilt_29 (S_X11_isSpoilt_34 (Or.inr rfl) ⟨rfl, hf3⟩)
theorem r_isUnlike (d : Nat) {P Q : am_P} {s1 s2 : Int} {w : List Int} (hM : rs_M σ s1 s2 P Q) (hn : w.length ≤ 8) (hL : am_isL (σ.1 131) w) (hw : ∀ x ∈ w, 0 ≤ x ∧ x ≤ 3) (hbal : rd_bal 0 w) : am_MI G (d + 6) mX11_isUnlike [am_r (some 91), am_i s1, am_i s2, am_i w.length] σ (fun x σ' => x = (if se_p P Q false w then 1 else 0) ∧ rs_f [127, 128] σ σ') := by
  obtain ⟨⟨h1, h2⟩, ⟨hT, hP, hW⟩, hT2, hP2, hW2⟩ := id hM
  have h3 := se_c3n_le w
  refine am_M.go (by decide) (Nat.le_of_ble_eq_true rfl) rfl ?_
  refine S_X11_isUnlike_0 (r_refusedAt _ (by omega) h1 (by decide) sh_131 hn hT hP hW hL hw hbal (by omega)) ?_
  rintro x τ ⟨rfl, hf, hx1⟩
  have hf1 : rs_f [127, 128] σ τ := hf.rs (Or.inl rfl)
  have hrg := rd_rf_rg (P := P) w rd_0 0 (Int.le_refl _)
  have hrg2 := rd_rf_rg (P := Q) w rd_0 0 (Int.le_refl _)
  have hMτ := hM.f hf1 (by decide)
  generalize hQ : (fun (x : Int) (σ' : am_D) => x = (if se_p P Q false w then 1 else 0) ∧ rs_f [127, 128] σ σ') = QQ
  have two : ∀ f1 : Int, (f1 = 1 ∧ rd_rf P w rd_0 0 = -1) ∨ (f1 = 0 ∧ rd_rf P w rd_0 0 ≠ -1) → am_X (am_FI G (d + 6) QQ) mX11_isUnlike (0, 0) 20 [some (am_r (some 91)), some (am_i s1), some (am_i s2), some (am_i w.length), none, none, none, none] [am_i f1] (am_K0, τ) := by
    intro f1 hf1'
    refine S_X11_isUnlike_20 ?_
    refine S_X11_isUnlike_22 (r_refusedAt _ (by omega) h2 (by decide) sh_131 hn hMτ.2.2.1 hP2 hW2 (by rw [hf1.1.1 131 (by decide)]; exact hL) hw hbal (by omega)) ?_
    rintro x τ1 ⟨rfl, hg, hx2⟩
    have hf2 : rs_f [127, 128] σ τ1 := hf1.trans (hg.rs (Or.inr rfl))
    have hMτ1 := hM.f hf2 (by decide)
    have go : ∀ f2 : Int, (f2 = 1 ∧ rd_rf Q w rd_0 0 = -1) ∨ (f2 = 0 ∧ rd_rf Q w rd_0 0 ≠ -1) → am_X (am_FI G (d + 6) QQ) mX11_isUnlike (0, 0) 42 [some (am_r (some 91)), some (am_i s1), some (am_i s2), none, some (am_i f1), none, none, none] [am_i f2] (am_K0, τ1) := by
      intro f2 hf2'
      refine S_X11_isUnlike_42 ?_
      have out : ¬ (f1 = 1 ∧ f2 = 1) → am_X (am_FI G (d + 6) QQ) mX11_isUnlike (0, 0) 54 [none, none, none, none, some (am_i f1), some (am_i f2), none, none] [] (am_K0, τ1) := by
        intro hno
        rw [← hQ]
        refine S_X11_isUnlike_54 (by omega) (by omega) (fun y => ?_) (fun y => ?_)
        · refine S_X11_isUnlike_65 (S_X11_isUnlike_66 (Or.inl rfl) ⟨?_, hf2⟩)
          show _ = (if decide (rd_tr P w ≠ rd_tr Q w) = true then (1 : Int) else 0)
          rw [rd_tr_none (P := P) (by omega), rd_tr_none (P := Q) (by omega)]
          rfl
        · refine S_X11_isUnlike_61 (S_X11_isUnlike_66 (Or.inr rfl) ⟨?_, hf2⟩)
          show _ = (if decide (rd_tr P w ≠ rd_tr Q w) = true then (1 : Int) else 0)
          rw [if_pos]
          rw [decide_eq_true_eq]
          intro e
          by_cases z : rd_rf P w rd_0 0 = -1
          · have y1 := rd_tr_iff.mpr z
            rw [e] at y1
            have := rd_tr_iff.mp y1
            omega
          · have y1 : ¬ (rd_tr P w).isSome = true := fun y2 => z (rd_tr_iff.mp y2)
            rw [e] at y1
            have : ¬ rd_rf Q w rd_0 0 = -1 := fun y2 => y1 (rd_tr_iff.mpr y2)
            omega
      refine S_X11_isUnlike_44 (by omega) (fun y => out (by omega)) (fun y => ?_)
      refine S_X11_isUnlike_49 (by omega) (fun y2 => ?_) (fun y2 => out (by omega))
      -- both can be READ
      have z1 : rd_rf P w rd_0 0 = -1 := by omega
      have z2 : rd_rf Q w rd_0 0 = -1 := by omega
      obtain ⟨C1, mo1, hC1, hI1⟩ := hx1 z1
      obtain ⟨C2, mo2, hC2, hI2⟩ := hx2 z2
      obtain ⟨k1, v1, hv1, htr1⟩ := rd_tr_some z1 hC1
      obtain ⟨k2, v2, hv2, htr2⟩ := rd_tr_some z2 hC2
      obtain ⟨b1, b2, b3, b4, b5⟩ := rd_tr_b hP hW hw (by omega) hC1 hv1
      obtain ⟨c1, c2, c3, c4, c5⟩ := rd_tr_b hP2 hW2 hw (by omega) hC2 hv2
      have hI1' : rr_I τ1 1 C1 mo1 := hI1.other (by omega) b1 (by omega) (by rw [k1]; decide) hg
      refine S_X11_isUnlike_67 (r_writes _ (by omega) h1 (Or.inr (Or.inl rfl)) hMτ1.2.1.1 hP hW b1 (by omega) hv1 hI1') ?_
      rintro x τ2 ⟨rfl, hL1, τ0, hf0, ho⟩
      have hf3 : rs_f [127, 128] σ τ2 := (hf2.trans (hf0.rs (Or.inl rfl))).trans (ho.rs (by decide) (by decide))
      refine S_X11_isUnlike_78 ?_
      have hf4 : rs_f [127, 128] σ (am_pI τ2 91 54 (rd_out C1 v1).length) := hf3.trans rs_f.p54
      have hMτ2 := hM.f hf4 (by decide)
      have hI2' : rr_I (am_pI τ2 91 54 (rd_out C1 v1).length) 2 C2 mo2 := by
        have e1 : rr_I τ0 2 C2 mo2 := hI2.other (by omega) c1 (by omega) (by rw [k2]; decide) hf0
        refine e1.keepq c1 (by omega) (by rw [k2]; decide) (fun a y1 y2 i _ _ => ?_)
        rw [am_pI_of (by omega), ho.1 a (by simp; omega)]
      refine S_X11_isUnlike_81 (r_writes _ (by omega) h2 (Or.inr (Or.inr rfl)) hMτ2.2.2.1 hP2 hW2 c1 (by omega) hv2 hI2') ?_
      rintro x τ3 ⟨rfl, hL2, τ4, hf5, ho5⟩
      have hf6 : rs_f [127, 128] σ τ3 := (hf4.trans (hf5.rs (Or.inr rfl))).trans (ho5.rs (by decide) (by decide))
      have e54 : τ3.1 91 54 = (rd_out C1 v1).length := by
        rw [ho5.1 91 (by decide), hf5.2.1 54 (by decide), am_pI_at]
      have hL1' : am_isL (τ3.1 127) (rd_sg (rd_out C1 v1)) := by
        rw [ho5.1 127 (by decide), hf5.1.1 127 (by decide), am_pI_of (by decide)]
        exact hL1
      have sl1 : (rd_sg (rd_out C1 v1)).length = (rd_out C1 v1).length := by unfold rd_sg; rw [List.length_map]
      have sl2 : (rd_sg (rd_out C2 v2)).length = (rd_out C2 v2).length := by unfold rd_sg; rw [List.length_map]
      have hpp : se_p P Q false w = decide (rd_sg (rd_out C1 v1) ≠ rd_sg (rd_out C2 v2)) := by
        show decide (rd_tr P w ≠ rd_tr Q w) = _
        rw [htr1, htr2]
        exact decide_eq_decide.mpr ⟨fun h e => h (by rw [e]), fun h e => h (Option.some.inj e)⟩
      have m1 : ∀ i : Nat, i < (rd_sg (rd_out C1 v1)).length → 0 ≤ τ3.1 127 i ∧ τ3.1 127 i ≤ 3 := by
        intro i hi
        rw [hL1' i hi, List.getD_eq_getElem?_getD, List.getElem?_eq_getElem hi]
        exact b3.1 _ (List.getElem_mem hi)
      have m2 : ∀ i : Nat, i < (rd_sg (rd_out C2 v2)).length → 0 ≤ τ3.1 128 i ∧ τ3.1 128 i ≤ 3 := by
        intro i hi
        rw [hL2 i hi, List.getD_eq_getElem?_getD, List.getElem?_eq_getElem hi]
        exact c3.1 _ (List.getElem_mem hi)
      rw [← hQ]
      refine S_X11_isUnlike_93 (by omega) (by rw [e54]; omega) (fun y => ?_) (fun y => ?_)
      rotate_left
      · refine S_X11_isUnlike_102 ⟨?_, hf6⟩
        rw [hpp, if_pos]
        rw [decide_eq_true_eq]
        intro e
        have := congrArg List.length e
        rw [e54] at y
        omega
      rw [e54] at y
      refine S_X11_isUnlike_104 ?_
      have loop : ∀ (n i : Nat), i + n = (rd_out C2 v2).length → (∀ j : Nat, j < i → τ3.1 127 j = τ3.1 128 j) → am_X (am_FI G (d + 6) (fun x σ' => x = (if se_p P Q false w then 1 else 0) ∧ rs_f [127, 128] σ σ')) mX11_isUnlike (0, 0) 107 [some (am_r (some 91)), none, none, none, none, none, some (am_i (rd_out C2 v2).length), some (am_i i)] [] (am_K0, τ3) := by
        intro n
        induction n with
        | zero =>
          intro i hi hj
          refine S_X11_isUnlike_107 (by omega) (by omega) (fun _ => ?_) (fun z => absurd (by omega) z)
          refine S_X11_isUnlike_139 ⟨?_, hf6⟩
          have e : rd_sg (rd_out C1 v1) = rd_sg (rd_out C2 v2) := by
            refine am_isL.ext hL1' (hL2.congr (fun i hi => hj i (by omega))) (by omega)
          rw [hpp, if_neg]
          rw [decide_eq_true_eq]
          exact fun z => z e
        | succ n ih =>
          intro i hi hj
          have y1 := m1 i (by omega)
          have y2 := m2 i (by omega)
          refine S_X11_isUnlike_107 (by omega) (by omega) (fun z => absurd z (by omega)) (fun _ => ?_)
          refine S_X11_isUnlike_114 (by omega) (by omega) (by omega) (by omega) (by omega) (by omega) (fun z => ?_) (fun z => ?_)
          · refine S_X11_isUnlike_133 ?_
            have := ih (i + 1) (by omega) (fun j hj' => by
              by_cases e : j = i
              · rw [e]; exact z
              · exact hj j (by omega))
            exact this
          · refine S_X11_isUnlike_131 ⟨?_, hf6⟩
            rw [hpp, if_pos]
            rw [decide_eq_true_eq]
            intro e
            refine z ?_
            rw [hL1' i (by omega), hL2 i (by omega), e]
      exact loop (rd_out C2 v2).length 0 (by omega) (fun j hj => by omega)
    by_cases z : rd_rf Q w rd_0 0 = -1
    · refine S_X11_isUnlike_33 (by omega) (fun y => absurd z y) (fun _ => ?_)
      exact S_X11_isUnlike_37 (go 1 (Or.inl ⟨rfl, z⟩))
    · refine S_X11_isUnlike_33 (by omega) (fun _ => ?_) (fun y => absurd z y)
      exact S_X11_isUnlike_41 (go 0 (Or.inr ⟨rfl, z⟩))
  by_cases z : rd_rf P w rd_0 0 = -1
  · refine S_X11_isUnlike_11 (by omega) (fun y => absurd z y) (fun _ => ?_)
    exact S_X11_isUnlike_15 (two 1 (Or.inl ⟨rfl, z⟩))
  · refine S_X11_isUnlike_11 (by omega) (fun _ => ?_) (fun y => absurd z y)
    exact S_X11_isUnlike_19 (two 0 (Or.inr ⟨rfl, z⟩))
end
