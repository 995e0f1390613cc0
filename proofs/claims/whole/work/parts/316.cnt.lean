section
def an_rc (f : rd_C → Int → List Int → Int) (r : ab_R) : Int := match r with
  | none => 0
  | some p => match rd_run p.1 p.2 rd_0 0 with
    | some c => f c.1 c.2 p.2
    | none => -1
theorem an_rc_some {f : rd_C → Int → List Int → Int} {p : am_P × List Int} {C : rd_C} {mo : Int} (h : rd_run p.1 p.2 rd_0 0 = some (C, mo)) : an_rc f (some p) = f C mo p.2 := by
  show (match rd_run p.1 p.2 rd_0 0 with
    | some c => f c.1 c.2 p.2
    | none => -1) = _
  rw [h]
def an_ct (M : ab_M) (doc out : List Int) (r : ab_R) (n what : Int) : Int :=
  if what = 0 then ab_n M else if what = 1 then (doc.length : Int).tdiv 2 else if what = 2 then am_dpt doc 0 0 else if what = 3 then (out.length : Int).tdiv 2 else if what = 4 then am_dpt out 0 0 else if what = 5 then an_rc (fun _ _ w => w.length) r else if what = 6 then an_rc (fun C _ _ => (rd_s C).length) r else if what = 7 then an_rc (fun C _ _ => rd_held C) r else if what = 8 then an_rc (fun _ m _ => m) r else if what = 9 then n else -1
variable {G : am_G} {σ : am_D} {M : ab_M}
theorem c_xcount (d : Nat) {doc out : List Int} {r : ab_R} {n what : Int} (hwh : -2147483648 ≤ what ∧ what ≤ 2147483647) (hM : cx_M σ M) (hE : am_E σ 6 doc) (hO : am_E σ 10 out) (hR : cx_R σ r) (hd : ∀ x ∈ doc, 0 ≤ x ∧ x ≤ 3) (ho : ∀ x ∈ out, 0 ≤ x ∧ x ≤ 3) (hn : σ.1 1 1 = n) : am_MI G (d + 3) mX10_count [am_r (some 0), am_i what] σ (fun x σ' => x = an_ct M doc out r n what ∧ σ = σ') := by
  refine am_M.go (by decide) (Nat.le_of_ble_eq_true rfl) rfl ?_
  have hno : ∀ a, σ.2.2 12 4 = some a → ∃ p m C mo, r = some p ∧ cd_I σ 12 m p.1 p.2 ∧ rd_run p.1 p.2 rd_0 0 = some (C, mo) := by
    intro a z
    cases r with
    | none => rw [(hR : σ.2.2 12 4 = none)] at z; exact nomatch z
    | some p =>
      obtain ⟨m, hI⟩ := (hR : ∃ m, cd_I σ 12 m p.1 p.2)
      obtain ⟨C, mo, hC⟩ := hI.run
      exact ⟨p, m, C, mo, rfl, hI, hC⟩
  have hyes : σ.2.2 12 4 = none → r = none := by
    intro z
    cases r with
    | none => rfl
    | some p =>
      obtain ⟨m, hI⟩ := (hR : ∃ m, cd_I σ 12 m p.1 p.2)
      rw [hI.1] at z; exact nomatch z
  refine S_X10_count_0 hwh (fun z => ?_) (fun z => ?_) (fun z => ?_) (fun z => ?_) (fun z => ?_) (fun z => ?_) (fun z => ?_) (fun z => ?_) (fun z => ?_) (fun z => ?_) (fun z => ?_)
  · refine S_X10_count_192 ⟨?_, rfl⟩
    unfold an_ct
    rw [if_neg (by omega), if_neg (by omega), if_neg (by omega), if_neg (by omega), if_neg (by omega), if_neg (by omega), if_neg (by omega), if_neg (by omega), if_neg (by omega), if_neg (by omega)]
  · subst z
    refine S_X10_count_56 (c_toldMachines _ hM) ?_
    rintro _ _ ⟨rfl, rfl⟩
    exact ⟨rfl, rfl⟩
  · subst z
    refine S_X10_count_61 (c_elements _ (Or.inl rfl) hE) ?_
    rintro _ _ ⟨rfl, rfl⟩
    exact ⟨rfl, rfl⟩
  · subst z
    refine S_X10_count_69 (c_depth _ (Or.inl rfl) hE hd) ?_
    rintro _ _ ⟨rfl, rfl⟩
    exact ⟨rfl, rfl⟩
  · subst z
    refine S_X10_count_77 (c_elements _ (Or.inr (Or.inr rfl)) hO) ?_
    rintro _ _ ⟨rfl, rfl⟩
    exact ⟨rfl, rfl⟩
  · subst z
    refine S_X10_count_85 (c_depth _ (Or.inr (Or.inr rfl)) hO ho) ?_
    rintro _ _ ⟨rfl, rfl⟩
    exact ⟨rfl, rfl⟩
  · subst z
    refine S_X10_count_93 (fun y => ?_) (fun a y => ?_)
    · rw [hyes y]
      exact S_X10_count_103 (S_X10_count_114 ⟨rfl, rfl⟩)
    · obtain ⟨p, m, C, mo, rfl, hI, hC⟩ := hno a y
      refine S_X10_count_107 (S_X10_count_114 ⟨?_, rfl⟩)
      show _ = an_rc (fun _ _ w => (w.length : Int)) (some p)
      rw [an_rc_some hC]
      exact hI.2.2.1.1
  · subst z
    refine S_X10_count_115 (fun y => ?_) (fun a y => ?_)
    · rw [hyes y]
      exact S_X10_count_125 (S_X10_count_137 ⟨rfl, rfl⟩)
    · obtain ⟨p, m, C, mo, rfl, hI, hC⟩ := hno a y
      have hX := (hI.cells hC).1
      have h5 := hI.2.2.1
      refine S_X10_count_129 (c_now _ (Or.inl rfl) h5.1 h5.2.2.1 (by omega)) ?_
      rintro _ _ ⟨rfl, rfl⟩
      refine S_X10_count_137 ⟨?_, rfl⟩
      show _ = an_rc (fun C _ _ => ((rd_s C).length : Int)) (some p)
      rw [an_rc_some hC]
      exact hX.1.2.1
  · subst z
    refine S_X10_count_138 (fun y => ?_) (fun a y => ?_)
    · rw [hyes y]
      exact S_X10_count_148 (S_X10_count_160 ⟨rfl, rfl⟩)
    · obtain ⟨p, m, C, mo, rfl, hI, hC⟩ := hno a y
      have hX := (hI.cells hC).1
      have h5 := hI.2.2.1
      refine S_X10_count_152 (c_now _ (Or.inl rfl) h5.1 h5.2.2.1 (by omega)) ?_
      rintro _ _ ⟨rfl, rfl⟩
      refine S_X10_count_160 ⟨?_, rfl⟩
      show _ = an_rc (fun C _ _ => rd_held C) (some p)
      rw [an_rc_some hC]
      exact hX.1.2.2.1
  · subst z
    refine S_X10_count_161 (fun y => ?_) (fun a y => ?_)
    · rw [hyes y]
      exact S_X10_count_171 (S_X10_count_183 ⟨rfl, rfl⟩)
    · obtain ⟨p, m, C, mo, rfl, hI, hC⟩ := hno a y
      have hX := (hI.cells hC).1
      have h5 := hI.2.2.1
      refine S_X10_count_175 (c_now _ (Or.inl rfl) h5.1 h5.2.2.1 (by omega)) ?_
      rintro _ _ ⟨rfl, rfl⟩
      refine S_X10_count_183 ⟨?_, rfl⟩
      show _ = an_rc (fun _ m _ => m) (some p)
      rw [an_rc_some hC]
      exact hX.1.2.2.2.1
  · subst z
    exact S_X10_count_184 ⟨hn, rfl⟩
theorem r_xcount (d : Nat) {doc out : List Int} {r : ab_R} {n what : Int} (hwh : -2147483648 ≤ what ∧ what ≤ 2147483647) (hM : rx_M σ M) (hD : rx_Dc σ doc) (hO : rx_O σ out) (hR : rx_R σ r) (hd : (∀ x ∈ doc, 0 ≤ x ∧ x ≤ 3) ∧ doc.length ≤ 80) (ho : ∀ x ∈ out, 0 ≤ x ∧ x ≤ 3) (hb : ab_rb r) (hn : σ.1 91 1 = n) : am_MI G (d + 3) mX11_count [am_r (some 91), am_i what] σ (fun x σ' => x = an_ct M doc out r n what ∧ σ = σ') := by
  have hd25 := hD.1
  have ho27 := hO.1
  have hol := hO.2.2
  have hdl := hd.2
  refine am_M.go (by decide) (Nat.le_of_ble_eq_true rfl) rfl ?_
  have hno : ¬ σ.1 91 49 = 0 → ∃ p C mo, r = some p ∧ σ.1 91 50 = p.2.length ∧ rd_run p.1 p.2 rd_0 0 = some (C, mo) ∧ rr_I σ 0 C mo ∧ rd_I p.1 C ∧ ((rd_s C).length : Int) ≤ 260 ∧ rd_u C ≤ 5000 := by
    intro z
    cases r with
    | none => exact absurd (hR : σ.1 91 49 = 0) z
    | some p =>
      obtain ⟨⟨h49, h50, -⟩, -, ⟨hP, hW⟩, ⟨hw, h3, hlw⟩, C, mo, hC, hI⟩ := (show _ ∧ _ from hR)
      obtain ⟨l1, l2, l3, -⟩ := rd_lens hP hW hw hC
      have l4 := (show _ ∧ _ from hb).2.2.2 C mo hC
      exact ⟨p, C, mo, rfl, h50, hC, hI, l2, by omega, by omega⟩
  have hyes : σ.1 91 49 = 0 → r = none := by
    intro z
    cases r with
    | none => rfl
    | some p =>
      obtain ⟨⟨h49, -⟩, -⟩ := (show _ ∧ _ from hR)
      omega
  have h49 : σ.1 91 49 = 0 ∨ σ.1 91 49 = 1 := by
    cases r with
    | none => exact Or.inl hR
    | some p =>
      obtain ⟨⟨h49, -⟩, -⟩ := (show _ ∧ _ from hR)
      exact Or.inr h49
  refine S_X11_count_0 hwh (fun z => ?_) (fun z => ?_) (fun z => ?_) (fun z => ?_) (fun z => ?_) (fun z => ?_) (fun z => ?_) (fun z => ?_) (fun z => ?_) (fun z => ?_) (fun z => ?_)
  · refine S_X11_count_173 ⟨?_, rfl⟩
    unfold an_ct
    rw [if_neg (by omega), if_neg (by omega), if_neg (by omega), if_neg (by omega), if_neg (by omega), if_neg (by omega), if_neg (by omega), if_neg (by omega), if_neg (by omega), if_neg (by omega)]
  · subst z
    refine S_X11_count_56 (r_machines _ hM) ?_
    rintro _ _ ⟨rfl, rfl⟩
    exact ⟨rfl, rfl⟩
  · subst z
    refine S_X11_count_61 (by omega) ⟨?_, rfl⟩
    rw [hd25]
    rfl
  · subst z
    have hc := r_deepOf (G := G) (σ := σ) d (a := 107) (w := doc) sh_107 (by omega) hdl hD.2 hd.1
    rw [← hd25] at hc
    refine S_X11_count_68 hc ?_
    rintro _ _ ⟨rfl, rfl⟩
    exact ⟨rfl, rfl⟩
  · subst z
    refine S_X11_count_80 (by omega) ⟨?_, rfl⟩
    rw [ho27]
    rfl
  · subst z
    have hc := r_deepOf (G := G) (σ := σ) d (a := 109) (w := out) sh_109 (by omega) (by omega) hO.2.1 ho
    rw [← ho27] at hc
    refine S_X11_count_87 hc ?_
    rintro _ _ ⟨rfl, rfl⟩
    exact ⟨rfl, rfl⟩
  · subst z
    refine S_X11_count_99 (by omega) (fun y => ?_) (fun y => ?_)
    · rw [hyes y]
      exact S_X11_count_113 (S_X11_count_114 ⟨rfl, rfl⟩)
    · obtain ⟨p, C, mo, rfl, h50, hC, hI, -⟩ := hno y
      refine S_X11_count_106 (S_X11_count_114 ⟨?_, rfl⟩)
      show _ = an_rc (fun _ _ w => (w.length : Int)) (some p)
      rw [an_rc_some hC]
      exact h50
  · subst z
    refine S_X11_count_115 (by omega) (fun y => ?_) (fun y => ?_)
    · rw [hyes y]
      exact S_X11_count_131 (S_X11_count_132 ⟨rfl, rfl⟩)
    · obtain ⟨p, C, mo, rfl, h50, hC, hI, -⟩ := hno y
      refine S_X11_count_122 (S_X11_count_132 ⟨?_, rfl⟩)
      show _ = an_rc (fun C _ _ => ((rd_s C).length : Int)) (some p)
      rw [an_rc_some hC]
      exact hI.1.2.1
  · subst z
    refine S_X11_count_133 (by omega) (fun y => ?_) (fun y => ?_)
    · rw [hyes y]
      exact S_X11_count_148 (S_X11_count_149 ⟨rfl, rfl⟩)
    · obtain ⟨p, C, mo, rfl, h50, hC, hI, hCI, hl1, hl2⟩ := hno y
      refine S_X11_count_140 (r_heldBy _ (by omega) hCI hl1 hl2 hI) ?_
      rintro _ _ ⟨rfl, rfl⟩
      refine S_X11_count_145 (S_X11_count_149 ⟨?_, rfl⟩)
      show _ = an_rc (fun C _ _ => rd_held C) (some p)
      rw [an_rc_some hC]
  · subst z
    refine S_X11_count_150 (by omega) (fun y => ?_) (fun y => ?_)
    · rw [hyes y]
      exact S_X11_count_166 (S_X11_count_167 ⟨rfl, rfl⟩)
    · obtain ⟨p, C, mo, rfl, h50, hC, hI, -⟩ := hno y
      refine S_X11_count_157 (S_X11_count_167 ⟨?_, rfl⟩)
      show _ = an_rc (fun _ m _ => m) (some p)
      rw [an_rc_some hC]
      exact hI.1.2.2.2
  · subst z
    exact S_X11_count_168 ⟨hn, rfl⟩
end
