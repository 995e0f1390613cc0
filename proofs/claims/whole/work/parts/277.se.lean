section
/-! What a DOCUMENT becomes; the search, purely. -/
def rd_tr (P : am_P) (w : List Int) : Option (List Int) := match rd_run P w rd_0 0 with
  | none => none
  | some (C, _) => if rd_s C = [] then (match pm_eX P (rd_q C) with
    | none => none
    | some v => some (rd_sg (rd_out C v))) else none
theorem rd_tr_some {P : am_P} {w : List Int} {C : rd_C} {mo : Int} (h : rd_rf P w rd_0 0 = -1) (hC : rd_run P w rd_0 0 = some (C, mo)) : rd_s C = [] ∧ ∃ v, pm_eX P (rd_q C) = some v ∧ rd_tr P w = some (rd_sg (rd_out C v)) := by
  obtain ⟨C', m', e1, e2⟩ := (rd_rf_ok w rd_0 0 0 (Int.le_refl _)).mp h
  rw [hC] at e1
  injection e1 with e1
  have e1 : C = C' := congrArg Prod.fst e1
  subst e1
  obtain ⟨h1, h2⟩ := e2
  refine ⟨h1, ?_⟩
  cases hv : pm_eX P (rd_q C) with
  | none => exact absurd hv h2
  | some v =>
    refine ⟨v, rfl, ?_⟩
    unfold rd_tr
    rw [hC]
    dsimp only
    rw [if_pos h1, hv]
theorem rd_tr_can {P : am_P} {w : List Int} {C : rd_C} {mo : Int} (hC : rd_run P w rd_0 0 = some (C, mo)) (h : rd_can P C) : rd_s C = [] ∧ ∃ v, pm_eX P (rd_q C) = some v ∧ rd_tr P w = some (rd_sg (rd_out C v)) := rd_tr_some ((rd_rf_ok w rd_0 0 0 (Int.le_refl _)).mpr ⟨C, mo, hC, h⟩) hC
theorem rd_tr_cannot {P : am_P} {w : List Int} {C : rd_C} {mo : Int} (hC : rd_run P w rd_0 0 = some (C, mo)) (h : ¬ rd_can P C) : rd_tr P w = none := by
  unfold rd_tr
  rw [hC]
  dsimp only
  by_cases z : rd_s C = []
  · rw [if_pos z]
    cases hv : pm_eX P (rd_q C) with
    | none => rfl
    | some v => exact absurd ⟨z, by rw [hv]; exact fun y => nomatch y⟩ h
  · rw [if_neg z]
theorem rd_tr_run {P : am_P} {w : List Int} (hC : rd_run P w rd_0 0 = none) : rd_tr P w = none := by
  unfold rd_tr
  rw [hC]
theorem rd_tr_none {P : am_P} {w : List Int} (h : rd_rf P w rd_0 0 ≠ -1) : rd_tr P w = none := by
  cases hC : rd_run P w rd_0 0 with
  | none => exact rd_tr_run hC
  | some Cm =>
    obtain ⟨C, mo⟩ := Cm
    exact rd_tr_cannot hC (fun z => h ((rd_rf_ok w rd_0 0 0 (Int.le_refl _)).mpr ⟨C, mo, hC, z⟩))
theorem rd_tr_iff {P : am_P} {w : List Int} : (rd_tr P w).isSome = true ↔ rd_rf P w rd_0 0 = -1 := by
  constructor
  · intro h
    by_cases z : rd_rf P w rd_0 0 = -1
    · exact z
    · rw [rd_tr_none z] at h
      exact absurd h (by decide)
  · intro h
    obtain ⟨C', m', e1, -⟩ := (rd_rf_ok w rd_0 0 0 (Int.le_refl _)).mp h
    obtain ⟨-, v, -, e⟩ := rd_tr_some h e1
    rw [e]; rfl
/-- bounds -/
theorem rd_tr_b {P : am_P} {w : List Int} {C : rd_C} {mo : Int} {v : List Int} (hP : pm_ok P) (hW : pm_wf P) (hw : ∀ x ∈ w, 0 ≤ x ∧ x ≤ 3) (h3 : rd_c3n w ≤ 40) (hC : rd_run P w rd_0 0 = some (C, mo)) (hv : pm_eX P (rd_q C) = some v) : rd_I P C ∧ rd_u C + 12 ≤ 492 ∧ rd_el (rd_out C v) ∧ ((rd_out C v).length : Int) ≤ 492 ∧ (rd_nd (rd_out C v)).Nodup := by
  obtain ⟨hI, ⟨-, hu⟩, -⟩ := rd_run_inv hP hW w rd_0 C 0 mo hw (rd_I_0 hP) ⟨Int.le_refl _, Int.le_refl _⟩ hC
  have hu : rd_u C ≤ 0 + 12 * (rd_c3n w : Nat) := hu
  obtain ⟨o1, o2, -, o4, -⟩ := rd_out_ok hP hW hI hv
  exact ⟨hI, by omega, o1, by omega, o2⟩
def se_r (P Q : am_P) (w : List Int) : Bool := match rd_tr P w with
  | none => false
  | some o => (rd_tr Q o).isSome
/-- what is looked for: SPOILT (b), or unlike -/
def se_p (P Q : am_P) (b : Bool) (w : List Int) : Bool := if b then (rd_tr P w).isSome && !se_r P Q w else decide (rd_tr P w ≠ rd_tr Q w)
def se_L (F : Int → Option (List Int)) : Nat → Int → Option (List Int)
  | 0, _ => none
  | n + 1, e => match F e with
    | some x => some x
    | none => se_L F n (e + 1)
abbrev se_g (h : Int) (r : Nat) (e : Int) : Prop := if e = 3 then h ≠ 0 else h < r + 1
def se_h (h e : Int) : Int := if e = 3 then h - 1 else h + 1
def se_D (p : List Int → Bool) : Nat → Int → List Int → Option (List Int)
  | 0, _, w => if p w then some w else none
  | r + 1, h, w => se_L (fun e => if se_g h r e then se_D p r (se_h h e) (w ++ [e]) else none) 4 0
def se_A (p : List Int → Bool) : Nat → Nat → Option (Nat × List Int)
  | 0, _ => none
  | k + 1, el => match se_D p (2 * el) 0 [] with
    | some w => some (el, w)
    | none => se_A p k (el + 1)
/-- a prefix of DOCUMENTS -/
def se_W (w : List Int) (h : Int) : Prop := (∀ x ∈ w, 0 ≤ x ∧ x ≤ 3) ∧ 0 ≤ h ∧ ∀ v, rd_bal h v → rd_bal 0 (w ++ v)
theorem se_W_0 : se_W [] 0 := ⟨fun x hx => (by cases hx), Int.le_refl _, fun v hv => hv⟩
theorem se_W.snoc {w : List Int} {h e : Int} {r : Nat} (hw : se_W w h) (he : 0 ≤ e ∧ e ≤ 3) (hg : se_g h r e) : se_W (w ++ [e]) (se_h h e) := by
  obtain ⟨h1, h2, h3⟩ := hw
  unfold se_g at hg
  refine ⟨fun x hx => ?_, ?_, fun v hv => ?_⟩
  · rcases List.mem_append.mp hx with hx | hx
    · exact h1 x hx
    · rw [List.mem_singleton.mp hx]; exact he
  · unfold se_h
    split
    · rename_i z; rw [if_pos z] at hg; omega
    · omega
  · rw [List.append_assoc]
    refine h3 _ ?_
    show rd_bal h (e :: v)
    unfold rd_bal
    unfold se_h at hv
    by_cases z : e = 3
    · rw [if_pos z] at hv hg
      rw [if_neg (by omega), if_pos z]
      exact ⟨by omega, hv⟩
    · rw [if_neg z] at hv
      rw [if_pos (by omega)]
      exact hv
theorem se_W.bal {w : List Int} (hw : se_W w 0) : rd_bal 0 w := by
  have := hw.2.2 [] rfl
  rwa [List.append_nil] at this
theorem se_c3n_le (w : List Int) : rd_c3n w ≤ w.length := List.countP_le_length
/-- READING g stays -/
theorem rr_I.keepq {σ τ : am_D} {P : am_P} {g : Int} {C : rd_C} {mo : Int} (hI : rd_I P C) (hu : rd_u C ≤ 5000) (hl : ((rd_s C).length : Int) ≤ 260) (q : ∀ a, 110 ≤ a → a ≤ 123 → ∀ i : Int, rr_sz a * g ≤ i → i < rr_sz a * g + rr_sz a → τ.1 a i = σ.1 a i) (hr : rr_I σ g C mo) : rr_I τ g C mo := by
  obtain ⟨⟨a1, a2, a3, a4⟩, b, c, e⟩ := hr
  have q1 : ∀ a, 112 ≤ a → a ≤ 115 → τ.1 a g = σ.1 a g := by
    intro a y1 y2
    have hz : rr_sz a = 1 := by unfold rr_sz; rw [if_neg (by omega), if_pos y2]
    exact q a (by omega) (by omega) g (by rw [hz]; omega) (by rw [hz]; omega)
  refine ⟨⟨by rw [q1 113 (by omega) (by omega)]; exact a1, by rw [q1 114 (by omega) (by omega)]; exact a2, by rw [q1 112 (by omega) (by omega)]; exact a3, by rw [q1 115 (by omega) (by omega)]; exact a4⟩, fun r r0 r1 => ?_, ?_, ?_⟩
  · rw [q 116 (by omega) (by omega) _ (show 3 * g ≤ _ by omega) (show _ < 3 * g + 3 by omega), q 117 (by omega) (by omega) _ (show 3 * g ≤ _ by omega) (show _ < 3 * g + 3 by omega), q 118 (by omega) (by omega) _ (show 3 * g ≤ _ by omega) (show _ < 3 * g + 3 by omega)]
    exact b r r0 r1
  · exact c.keep (fun i y1 y2 => ⟨q 119 (by omega) (by omega) _ (show 260 * g ≤ _ by omega) (show _ < 260 * g + 260 by omega), q 120 (by omega) (by omega) _ (show 260 * g ≤ _ by omega) (show _ < 260 * g + 260 by omega)⟩) (fun i y1 y2 => ⟨q 121 (by omega) (by omega) _ (show 780 * g ≤ _ by omega) (show _ < 780 * g + 780 by omega), q 122 (by omega) (by omega) _ (show 780 * g ≤ _ by omega) (show _ < 780 * g + 780 by omega), q 123 (by omega) (by omega) _ (show 780 * g ≤ _ by omega) (show _ < 780 * g + 780 by omega)⟩)
  · have hap := hI.2.2.2.2.1
    have hx : ∀ c ∈ rd_all C, ∀ x ∈ rd_nd c, τ.1 111 (5000 * g + x) = σ.1 111 (5000 * g + x) ∧ τ.1 110 (5000 * g + x) = σ.1 110 (5000 * g + x) := by
      intro c hc x hx
      have := (hap.1 c hc).2 x hx
      exact ⟨q 111 (by omega) (by omega) _ (show 5000 * g ≤ _ by omega) (show _ < 5000 * g + 5000 by omega), q 110 (by omega) (by omega) _ (show 5000 * g ≤ _ by omega) (show _ < 5000 * g + 5000 by omega)⟩
    refine ⟨fun x y hxy => ?_, fun c hc p hp => ?_⟩
    · obtain ⟨c, hc, hn⟩ := id hxy
      rw [(hx c hc x (rd_nx_mem hn).1).1]
      exact e.1 x y hxy
    · rw [(hx c hc p.1 (List.mem_map.mpr ⟨p, hp, rfl⟩)).2]
      exact e.2 c hc p hp
/-- what trying may change: all but READING 0 -/
def rs_f (S : List Nat) (σ τ : am_D) : Prop := am_only (S ++ rr_A) σ τ ∧ am_kpt [43, 44, 45, 54] (σ.1 91) (τ.1 91) ∧ ∀ a, 110 ≤ a → a ≤ 123 → ∀ i : Int, i < rr_sz a → τ.1 a i = σ.1 a i
theorem rs_f.rfl' {S : List Nat} {σ : am_D} : rs_f S σ σ := ⟨am_only.rfl', am_kpt.rfl', fun _ _ _ _ _ => rfl⟩
theorem rs_f.trans {S : List Nat} {σ τ υ : am_D} (h : rs_f S σ τ) (h' : rs_f S τ υ) : rs_f S σ υ := ⟨h.1.trans h'.1, h.2.1.trans h'.2.1, fun a y1 y2 i hi => (h'.2.2 a y1 y2 i hi).trans (h.2.2 a y1 y2 i hi)⟩
theorem rs_f.sub {S S' : List Nat} {σ τ : am_D} (h : rs_f S σ τ) (hs : ∀ a ∈ S, a ∈ S') : rs_f S' σ τ := ⟨h.1.sub (fun a ha => by
  rcases List.mem_append.mp ha with ha | ha
  · exact List.mem_append_left _ (hs a ha)
  · exact List.mem_append_right _ ha), h.2⟩
theorem rr_fr.rs {S : List Nat} {g : Int} {σ τ : am_D} (hg : g = 1 ∨ g = 2) (h : rr_fr g σ τ) : rs_f S σ τ := by
  refine ⟨h.1.sub (fun a ha => List.mem_append_right _ ha), fun j hj => h.2.1 j (fun z => hj ?_), fun a y1 y2 i hi => h.2.2 a y1 y2 i (Or.inl ?_)⟩
  · simp at z ⊢; omega
  · have hz : 0 < rr_sz a := by unfold rr_sz; split; omega; split; omega; split; omega; split <;> omega
    rcases hg with rfl | rfl <;> omega
theorem am_only.rs {S : List Nat} {b : Nat} {σ τ : am_D} (hb : b ∈ S) (hr : b ∉ rr_A) (h : am_only [b] σ τ) : rs_f S σ τ := by
  refine ⟨h.sub (fun a ha => by rw [List.mem_singleton.mp ha]; exact List.mem_append_left _ hb), fun j hj => by rw [h.1 91 (fun z => hr (by rw [← List.mem_singleton.mp z]; decide))], fun a y1 y2 i hi => ?_⟩
  rw [h.1 a (fun z => hr ?_)]
  rw [← List.mem_singleton.mp z]
  simp; omega
theorem rs_f.p54 {S : List Nat} {σ : am_D} {x : Int} : rs_f S σ (am_pI σ 91 54 x) := by
  refine ⟨am_only.pI (List.mem_append_right _ (by decide)), ?_, fun a y1 y2 i hi => by rw [am_pI_of (by omega)]⟩
  rw [am_pI_row]
  exact am_kpt.u1 (by decide)
theorem rs_f.T {S : List Nat} {σ τ : am_D} {s : Int} {P : am_P} (h : rs_f S σ τ) (hS : ∀ a ∈ S, a < 94 ∨ 106 < a) (hP : pm_ok P) (hT : rm_T σ s P) : rm_T τ s P := rm_T_move hP hT (fun a y1 y2 j _ _ => by
  rw [h.1.1 a (fun z => ?_)]
  rcases List.mem_append.mp z with z | z
  · have := hS a z; omega
  · simp at z; omega)
variable {G : am_G} {σ : am_D}
theorem r_isReadBy (d : Nat) {P Q : am_P} {s1 s2 : Int} {b n : Nat} {w : List Int} (h1 : 0 ≤ s1 ∧ s1 < 6) (h2 : 0 ≤ s2 ∧ s2 < 6) (hb : b ∉ rr_A) (hsb : am_sh am_SH b = (100, n)) (hn : w.length ≤ n) (hT : rm_T σ s1 P) (hP : pm_ok P) (hW : pm_wf P) (hT2 : rm_T σ s2 Q) (hP2 : pm_ok Q) (hW2 : pm_wf Q) (hL : am_isL (σ.1 b) w) (hw : ∀ x ∈ w, 0 ≤ x ∧ x ≤ 3) (hbal : rd_bal 0 w) (hl : (w.length : Int) ≤ 492) (h3 : rd_c3n w ≤ 40) : am_MI G (d + 6) mX11_isReadBy [am_r (some 91), am_i s1, am_i s2, am_r (some b), am_i w.length] σ (fun x σ' => x = (if se_r P Q w then 1 else 0) ∧ rs_f [127] σ σ') := by
  refine am_M.go (by decide) (Nat.le_of_ble_eq_true rfl) rfl ?_
  refine S_X11_isReadBy_0 (r_refusedAt _ (by omega) h1 hb hsb hn hT hP hW hL hw hbal hl) ?_
  rintro x τ ⟨rfl, hf, hx⟩
  have hf1 : rs_f [127] σ τ := hf.rs (Or.inl rfl)
  have hrg := rd_rf_rg (P := P) w rd_0 0 (Int.le_refl _)
  by_cases z : rd_rf P w rd_0 0 = -1
  rotate_left
  · refine S_X11_isReadBy_9 (by omega) (fun y => absurd y z) (fun _ => ?_)
    refine S_X11_isReadBy_13 ⟨?_, hf1⟩
    unfold se_r
    rw [rd_tr_none z]
    rfl
  obtain ⟨C, mo, hC, hI⟩ := hx z
  obtain ⟨hs, v, hv, htr⟩ := rd_tr_some z hC
  obtain ⟨b1, b2, b3, b4, b5⟩ := rd_tr_b hP hW hw h3 hC hv
  refine S_X11_isReadBy_9 (by omega) (fun _ => ?_) (fun y => absurd z y)
  refine S_X11_isReadBy_15 (r_writes _ (by omega) h1 (Or.inr (Or.inl rfl)) (hf1.T (by decide) hP hT) hP hW b1 (by omega) hv hI) ?_
  rintro x τ1 ⟨rfl, hL1, τ0, hf0, ho⟩
  have hf2 : rs_f [127] σ τ1 := (hf1.trans (hf0.rs (Or.inl rfl))).trans (ho.rs (by decide) (by decide))
  refine S_X11_isReadBy_26 ?_
  have hf3 : rs_f [127] σ (am_pI τ1 91 54 (rd_out C v).length) := hf2.trans rs_f.p54
  have e54 : (am_pI τ1 91 54 ((rd_out C v).length : Int)).1 91 54 = ((rd_sg (rd_out C v)).length : Nat) := by
    rw [am_pI_at]
    unfold rd_sg
    rw [List.length_map]
  have hsl : (rd_sg (rd_out C v)).length = (rd_out C v).length := by unfold rd_sg; rw [List.length_map]
  have hc := r_refusedAt (G := G) (σ := am_pI τ1 91 54 ((rd_out C v).length : Int)) d (P := Q) (g := 2) (sl := s2) (b := 127) (n := 5000) (w := rd_sg (rd_out C v)) (by omega) h2 (by decide) sh_127 (by omega) (hf3.T (by decide) hP2 hT2) hP2 hW2 (by rw [am_pI_of (by decide)]; exact hL1) b3.1 b3.2 (by omega)
  rw [← e54] at hc
  refine S_X11_isReadBy_29 hc ?_
  rintro x τ2 ⟨rfl, hf4, -⟩
  have hf5 : rs_f [127] σ τ2 := hf3.trans (hf4.rs (Or.inr rfl))
  have hrg2 := rd_rf_rg (P := Q) (rd_sg (rd_out C v)) rd_0 0 (Int.le_refl _)
  have hse : se_r P Q w = (rd_tr Q (rd_sg (rd_out C v))).isSome := by unfold se_r; rw [htr]
  by_cases z2 : rd_rf Q (rd_sg (rd_out C v)) rd_0 0 = -1
  · refine S_X11_isReadBy_43 (by omega) (fun y => absurd z2 y) (fun _ => ?_)
    refine S_X11_isReadBy_47 (S_X11_isReadBy_52 (Or.inr rfl) ⟨?_, hf5⟩)
    rw [hse, if_pos (rd_tr_iff.mpr z2)]
  · refine S_X11_isReadBy_43 (by omega) (fun _ => ?_) (fun y => absurd z2 y)
    refine S_X11_isReadBy_51 (S_X11_isReadBy_52 (Or.inl rfl) ⟨?_, hf5⟩)
    rw [hse, if_neg (fun y => z2 (rd_tr_iff.mp y))]
end
