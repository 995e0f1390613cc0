section
variable {G : am_G} {σ : am_D}
theorem rm_T.endR {P : am_P} {sl q : Int} (hT : rm_T σ sl P) (hP : pm_ok P) (hq : 0 ≤ q ∧ q < 6) : (pm_eX P q = none → σ.1 102 (6 * sl + q) = -1) ∧ (∀ v, pm_eX P q = some v → 0 ≤ σ.1 102 (6 * sl + q) ∧ σ.1 102 (6 * sl + q) < 24 ∧ rm_X σ sl (3 * σ.1 102 (6 * sl + q)) v) := by
  have hE := hT.2.2.2.1 q hq.1 hq.2
  have h24 := hP.2.2.1.2.2.2
  refine ⟨fun h => by rw [h] at hE; exact hE, fun v h => ?_⟩
  rw [h] at hE
  obtain ⟨y1, y2, y3⟩ := (show 0 ≤ σ.1 102 (6 * sl + q) ∧ σ.1 102 (6 * sl + q) < pm_n P ∧ rm_X σ sl (3 * σ.1 102 (6 * sl + q)) v from hE)
  exact ⟨y1, by omega, y3⟩
theorem r_canEnd (d : Nat) {P : am_P} {g sl mo : Int} {C : rd_C} (hg : 0 ≤ g ∧ g < 3) (hsl : 0 ≤ sl ∧ sl < 6) (hT : rm_T σ sl P) (hP : pm_ok P) (hI : rd_I P C) (h : rr_I σ g C mo) : am_MI G (d + 1) mX11_canEnd [am_r (some 91), am_i g, am_i sl] σ (fun x σ' => ((x = 1 ∧ pm_eX P (rd_q C) ≠ none) ∨ (x = 0 ∧ pm_eX P (rd_q C) = none)) ∧ σ = σ') := by
  have a1 := h.1.1
  have hq := hI.1
  have hS := hP.1
  obtain ⟨e1, e2⟩ := hT.endR hP (q := rd_q C) (by omega)
  refine am_M.go (by decide) (Nat.le_of_ble_eq_true rfl) rfl ?_
  cases hv : pm_eX P (rd_q C) with
  | none =>
    have e1 := e1 hv
    refine S_X11_canEnd_0 hg.1 hg.2 (by omega) (by omega) (by rw [a1, e1]; omega) (fun _ => ?_) (fun z => absurd (by rw [a1, e1]) z)
    exact S_X11_canEnd_24 (S_X11_canEnd_25 (Or.inl rfl) ⟨Or.inr ⟨rfl, rfl⟩, rfl⟩)
  | some v =>
    obtain ⟨y1, y2, y3⟩ := e2 v hv
    refine S_X11_canEnd_0 hg.1 hg.2 (by omega) (by omega) (by rw [a1]; omega) (fun z => absurd z (by rw [a1]; omega)) (fun _ => ?_)
    exact S_X11_canEnd_20 (S_X11_canEnd_25 (Or.inr rfl) ⟨Or.inl ⟨rfl, fun z => nomatch z⟩, rfl⟩)
theorem rd_out_ok {P : am_P} {C : rd_C} {v : List Int} (hP : pm_ok P) (hW : pm_wf P) (hI : rd_I P C) (hv : pm_eX P (rd_q C) = some v) : rd_el (rd_out C v) ∧ (rd_nd (rd_out C v)).Nodup ∧ (∀ x ∈ rd_nd (rd_out C v), 0 ≤ x ∧ x < rd_u C + 12) ∧ ((rd_out C v).length : Int) ≤ rd_u C + 12 ∧ rd_ap (rd_c3 (rd_r C) ++ rd_c3 rd_nil) (rd_u C) ∧ (∀ c ∈ rd_c3 (rd_r C) ++ rd_c3 rd_nil, c ∈ rd_all C ∨ c = []) ∧ pm_ex (pm_R P) true ([] ++ v :: []).flatten ∧ (rd_ev (rd_r C) rd_nil v ([], rd_u C)).2 ≤ rd_u C + 12 := by
  obtain ⟨hx, hbal⟩ := hW.2 _ _ hv
  have pR2 := hP.2.1.2
  have h12 := pm_ex_12 hx hbal
  have ee : ([] ++ v :: [] : List (List Int)).flatten = v := by simp
  have hx1 : pm_ex (pm_R P) true ([] ++ v :: []).flatten := by
    rw [ee]
    exact ⟨fun s hs => by have := hx.1 s hs; simp at this ⊢; omega, hx.2⟩
  have hu0 := hI.2.2.2.1
  have hap0 : rd_ap (rd_c3 (rd_r C)) (rd_u C) := by
    have := hI.2.2.2.2.1
    unfold rd_all at this
    exact this.app.1
  have hap : rd_ap (rd_c3 (rd_r C) ++ rd_c3 rd_nil) (rd_u C) := by
    refine ⟨fun c hc => ?_, ?_⟩
    · rcases List.mem_append.mp hc with hc | hc
      · exact hap0.1 c hc
      · have hc : c = [] := by simpa [rd_c3, rd_nil] using hc
        subst hc
        exact ⟨List.nodup_nil, fun x hx => (by cases hx)⟩
    · refine List.pairwise_append.mpr ⟨hap0.2, by simp [rd_c3, rd_nil, rd_nd], fun c hc c' hc' x hx => ?_⟩
      have hc' : c' = [] := by simpa [rd_c3, rd_nil] using hc'
      subst hc'
      intro y
      cases y
  have hKsub : ∀ c ∈ rd_c3 (rd_r C) ++ rd_c3 rd_nil, c ∈ rd_all C ∨ c = [] := fun c hc => by
    rcases List.mem_append.mp hc with hc | hc
    · exact Or.inl (by unfold rd_all; exact List.mem_append_left _ hc)
    · exact Or.inr (by simpa [rd_c3, rd_nil] using hc)
  have hpt : rd_pt (rd_r C) rd_nil v (rd_u C) := by
    have := rd_pt_of (X := rd_r C) (Y := rd_nil) pR2 hx1 hap
    rw [ee] at this
    exact this
  have hnd := rd_ev_nodup (X := rd_r C) (Y := rd_nil) v [] (rd_u C) hpt List.nodup_nil (fun x hx => (by cases hx)) hu0 (fun s hs h4 x hx => (by cases hx))
  have hev : (rd_ev (rd_r C) rd_nil v ([], rd_u C)).2 = rd_u C + _ := rd_ev_u (X := rd_r C) (Y := rd_nil) v ([], rd_u C)
  have hle : (rd_ev (rd_r C) rd_nil v ([], rd_u C)).2 ≤ rd_u C + 12 := by rw [hev]; omega
  have hlen := rd_len_u (u := (rd_ev (rd_r C) rd_nil v ([], rd_u C)).2) (by rw [hev]; omega) hnd.1 hnd.2
  refine ⟨?_, hnd.1, fun x hx => ⟨(hnd.2 x hx).1, Int.lt_of_lt_of_le (hnd.2 x hx).2 hle⟩, Int.le_trans hlen hle, hap, hKsub, hx1, hle⟩
  refine rd_ev_bal v _ 0 (Int.le_refl _) hbal (fun t ht => ?_) (fun t ht h4 => ?_)
  · have := hx.1 t ht
    omega
  · obtain ⟨i, hi, ei, -⟩ := rd_six (X := rd_r C) (Y := rd_nil) pR2 hx1 (by rw [ee]; exact ht) h4
    rcases hKsub _ (List.mem_of_getElem? ei) with hc | hc
    · exact hI.2.2.2.2.2 _ hc
    · rw [hc]
      exact ⟨fun s hs => (by cases hs), rfl⟩
theorem r_writes (d : Nat) {P : am_P} {g sl mo : Int} {C : rd_C} {v : List Int} {b : Nat} (hg : 0 ≤ g ∧ g < 3) (hsl : 0 ≤ sl ∧ sl < 6) (hb : b = 109 ∨ b = 127 ∨ b = 128) (hT : rm_T σ sl P) (hP : pm_ok P) (hW : pm_wf P) (hI : rd_I P C) (hu : rd_u C + 12 ≤ 5000) (hv : pm_eX P (rd_q C) = some v) (h : rr_I σ g C mo) : am_MI G (d + 3) mX11_writes [am_r (some 91), am_i g, am_i sl, am_r (some b)] σ (fun x σ' => x = (rd_out C v).length ∧ am_isL (σ'.1 b) (rd_sg (rd_out C v)) ∧ ∃ τ, rr_fr g σ τ ∧ am_only [b] τ σ') := by
  obtain ⟨⟨a1, a2, a3, a4⟩, bb, c, e⟩ := id h
  have hq := hI.1
  have hS := hP.1
  obtain ⟨-, e2⟩ := hT.endR hP (q := rd_q C) (by omega)
  obtain ⟨y1, y2, y3⟩ := e2 v hv
  obtain ⟨o1, o2, o3, o4, o5, o6, o7, o8⟩ := rd_out_ok hP hW hI hv
  have t97 := hT.2.2.2.2.1
  have h24 := hP.2.2.1.2.2.2
  have hsb : am_sh am_SH b = (100, 5000) := by rcases hb with rfl | rfl | rfl <;> decide +kernel
  have hx := (hW.2 _ _ hv).1
  have hes : rd_es (rd_r C) rd_nil ([] ++ [v]) [] (rd_u C) = ([(rd_ev (rd_r C) rd_nil v ([], rd_u C)).1], (rd_ev (rd_r C) rd_nil v ([], rd_u C)).2) := rfl
  refine am_M.go (by decide) (Nat.le_of_ble_eq_true rfl) rfl ?_
  refine S_X11_writes_0 hg.1 hg.2 (by omega) (by omega) (r_makeI d (X := rd_r C) (Y := rd_nil) (pre := []) (post := []) (w := v) (u := rd_u C) (R := pm_R P) hg hsl (by rw [a1]; omega) (by omega) (by rw [a1, Int.add_zero]; exact y3) (by omega) hP.2.1.2 o7 o5 hI.2.2.2.1 (fun x hxv h8 => ?_) (fun r r0 r1 => bb r r0 (by have := hP.2.1.2; omega)) (fun r r0 r1 hr => ?_) (by rw [a3]; rfl) (by rw [hes]; show (rd_ev (rd_r C) rd_nil v ([], rd_u C)).2 ≤ _; omega) ?_ ⟨fun x y ⟨c, hc, _⟩ => (by cases hc), fun c hc => (by cases hc)⟩) ?_
  · have := hx.1 x hxv
    simp at this
    have := hP.2.1.2
    omega
  · have := hx.1 _ hr
    simp at this
    have := hP.2.1.2
    omega
  · refine ⟨fun x y ⟨c, hc, hxy⟩ => ?_, fun c hc p hp => ?_⟩
    · rcases o6 c hc with hc | rfl
      · exact e.1 x y ⟨c, hc, hxy⟩
      · exact absurd (rd_nx_mem hxy).1 (by simp [rd_nd])
    · rcases o6 c hc with hc | rfl
      · exact e.2 c hc p hp
      · cases hp
  rintro τ ⟨⟨p1, p2⟩, p3, p4, p5, p6, p7⟩
  rw [a3] at p3
  have hmem : (rd_ev (rd_r C) rd_nil v ([], rd_u C)).1 ∈ (rd_es (rd_r C) rd_nil ([] ++ [v]) [] (rd_u C)).1 := by
    rw [hes]
    exact List.mem_singleton.mpr rfl
  have hlk := p6.lk hmem
  have hsg := p6.2 _ hmem
  have p3 : rd_rp (5000 * g) (rd_out C v) (τ.1 91 43) (τ.1 91 44) (τ.1 91 45) := p3
  have hlk : rd_lk (τ.1 111) (5000 * g) (rd_nd (rd_out C v)) := hlk
  have hsg : ∀ p ∈ rd_out C v, τ.1 110 (5000 * g + p.1) = p.2 := hsg
  generalize rd_out C v = c at *
  refine S_X11_writes_23 ?_
  refine S_X11_writes_29 ?_
  have hb1 : b ≠ 91 ∧ b ≠ 110 ∧ b ≠ 111 := by omega
  have loop : ∀ (t pre : rd_ch) (nd : Int) (υ : am_D), c = pre ++ t → am_only [b] τ υ → am_isL (υ.1 b) (rd_sg pre) → (∀ p t', t = p :: t' → nd = 5000 * g + p.1) → am_X (am_FI G (d + 3) (fun x σ' => x = c.length ∧ am_isL (σ'.1 b) (rd_sg c) ∧ ∃ τ, rr_fr g σ τ ∧ am_only [b] τ σ')) mX11_writes (0, 0) 32 [some (am_r (some 91)), none, none, some (am_r (some b)), some (am_i nd), some (am_i pre.length)] [] (am_K0, υ) := by
    intro t
    induction t with
    | nil =>
      intro pre nd υ hcp ho hL hn
      rw [List.append_nil] at hcp
      subst hcp
      have e45 : υ.1 91 45 = c.length := by rw [ho.1 91 (by simp; omega)]; exact p3.1
      refine S_X11_writes_32 (by omega) (by omega) (fun _ => ?_) (fun z => absurd (by omega) z)
      refine S_X11_writes_67 ?_
      rw [e45]
      exact ⟨rfl, hL, τ, p2, ho⟩
    | cons p t ih =>
      intro pre nd υ hcp ho hL hn
      have e45 : υ.1 91 45 = c.length := by rw [ho.1 91 (by simp; omega)]; exact p3.1
      have e110 : υ.1 110 = τ.1 110 := ho.1 110 (by simp; omega)
      have e111 : υ.1 111 = τ.1 111 := ho.1 111 (by simp; omega)
      have hnd := hn p t rfl
      subst hnd
      have hpm : p ∈ c := by rw [hcp]; simp
      have hpb := o3 p.1 (List.mem_map.mpr ⟨p, hpm, rfl⟩)
      have hcl : c.length = pre.length + (t.length + 1) := by rw [hcp, List.length_append]; rfl
      have hlen1 : ((pre ++ [p]).length : Int) = pre.length + 1 := by rw [List.length_append]; rfl
      have hpl : (rd_sg pre).length = pre.length := by unfold rd_sg; rw [List.length_map]
      have hsg1 : rd_sg (pre ++ [p]) = rd_sg pre ++ [p.2] := by unfold rd_sg; rw [List.map_append]; rfl
      refine S_X11_writes_32 (by omega) (by omega) (fun z => absurd z (by omega)) (fun _ => ?_)
      refine S_X11_writes_41 (by omega) (by omega) hsb (by omega) (by omega) ?_
      rw [e110, hsg p hpm]
      refine S_X11_writes_52 (by omega) (by omega) ?_
      rw [am_pI_of (show 111 ≠ b by omega), e111]
      refine S_X11_writes_61 ?_
      have := ih (pre ++ [p]) (τ.1 111 (5000 * g + p.1)) (am_pI υ b (pre.length : Int) p.2) (by rw [hcp, List.append_assoc]; rfl) (ho.trans (am_only.pI (by simp))) (by rw [hsg1, am_pI_row, ← hpl]; exact hL.snoc) (fun q t' et => hlk p.1 q.1 ⟨rd_nd pre, rd_nd t', by rw [hcp, et]; unfold rd_nd; simp⟩)
      rw [hlen1] at this
      exact this
  exact loop c [] _ τ rfl am_only.rfl' (fun i hi => absurd hi (Nat.not_lt_zero _)) (fun p t' et => p3.2.1 p t' et)
theorem r_refusedAt (d : Nat) {P : am_P} {g sl : Int} {b n : Nat} {w : List Int} (hg : 0 ≤ g ∧ g < 3) (hsl : 0 ≤ sl ∧ sl < 6) (hb : b ∉ rr_A) (hsb : am_sh am_SH b = (100, n)) (hn : w.length ≤ n) (hT : rm_T σ sl P) (hP : pm_ok P) (hW : pm_wf P) (hL : am_isL (σ.1 b) w) (hw : ∀ x ∈ w, 0 ≤ x ∧ x ≤ 3) (hbal : rd_bal 0 w) (hl : (w.length : Int) ≤ 492) : am_MI G (d + 5) mX11_refusedAt [am_r (some 91), am_i g, am_i sl, am_r (some b), am_i w.length] σ (fun x σ' => x = rd_rf P w rd_0 0 ∧ rr_fr g σ σ' ∧ (x = -1 → ∃ C mo, rd_run P w rd_0 0 = some (C, mo) ∧ rr_I σ' g C mo)) := by
  refine am_M.go (by decide) (Nat.le_of_ble_eq_true rfl) rfl ?_
  refine S_X11_refusedAt_0 (r_starts _ hg) ?_
  rintro τ ⟨hI0, hf0⟩
  refine S_X11_refusedAt_5 ?_
  have loop : ∀ (v pre : List Int) (C : rd_C) (mo : Int) (τ : am_D), w = pre ++ v → rr_fr g σ τ → rr_I τ g C mo → rd_run P pre rd_0 0 = some (C, mo) → rd_bal (rd_s C).length v → rd_rf P v C pre.length = rd_rf P w rd_0 0 → am_X (am_FI G (d + 5) (fun x σ' => x = rd_rf P w rd_0 0 ∧ rr_fr g σ σ' ∧ (x = -1 → ∃ C mo, rd_run P w rd_0 0 = some (C, mo) ∧ rr_I σ' g C mo))) mX11_refusedAt (0, 0) 8 [some (am_r (some 91)), some (am_i g), some (am_i sl), some (am_r (some b)), some (am_i w.length), some (am_i pre.length)] [] (am_K0, τ) := by
    intro v
    induction v with
    | nil =>
      intro pre C mo τ hwp hfr hI hC hb2 hrf
      rw [List.append_nil] at hwp
      subst hwp
      have hT' : rm_T τ sl P := rm_T_move hP hT (fun a y1 y2 j _ _ => by rw [hfr.1.1 a (by simp; omega)])
      obtain ⟨i1, -⟩ := rd_run_inv hP hW w rd_0 C 0 mo hw (rd_I_0 hP) ⟨Int.le_refl _, Int.le_refl _⟩ hC
      have hb2 : ((rd_s C).length : Int) = 0 := hb2
      have hs : rd_s C = [] := List.eq_nil_of_length_eq_zero (by omega)
      have hrf : (if rd_cb P C then -1 else (w.length : Int)) = rd_rf P w rd_0 0 := hrf
      refine S_X11_refusedAt_8 (by omega) (by omega) (fun _ => ?_) (fun z => absurd (by omega) z)
      refine S_X11_refusedAt_37 (r_canEnd _ hg hsl hT' hP i1 hI) ?_
      rintro x _ ⟨hx, rfl⟩
      rcases hx with ⟨rfl, hc⟩ | ⟨rfl, hc⟩
      · rw [if_pos (rd_cb_iff.mpr ⟨hs, hc⟩)] at hrf
        refine S_X11_refusedAt_43 (by decide) (fun z => absurd z (by decide)) (fun _ => ?_)
        exact S_X11_refusedAt_46 (S_X11_refusedAt_52 ⟨hrf, hfr, fun _ => ⟨C, mo, hC, hI⟩⟩)
      · rw [if_neg (fun z => (rd_cb_iff.mp z).2 hc)] at hrf
        refine S_X11_refusedAt_43 (by decide) (fun _ => ?_) (fun z => absurd rfl z)
        exact S_X11_refusedAt_50 (S_X11_refusedAt_52 ⟨hrf, hfr, fun z => absurd z (by omega)⟩)
    | cons x v ih =>
      intro pre C mo τ hwp hfr hI hC hb2 hrf
      have hT' : rm_T τ sl P := rm_T_move hP hT (fun a y1 y2 j _ _ => by rw [hfr.1.1 a (by simp; omega)])
      have hwl : w.length = pre.length + (v.length + 1) := by rw [hwp, List.length_append]; rfl
      have hx := hw x (by rw [hwp]; simp)
      have hpw : ∀ y ∈ pre, 0 ≤ y ∧ y ≤ 3 := fun y hy => hw y (by rw [hwp]; exact List.mem_append_left _ hy)
      have hget : τ.1 b pre.length = x := by
        rw [hfr.1.1 b hb, hL pre.length (by omega), hwp, List.getD_eq_getElem?_getD, List.getElem?_append_right (Nat.le_refl _), Nat.sub_self]
        rfl
      have hpre1 : w = (pre ++ [x]) ++ v := by rw [hwp, List.append_assoc]; rfl
      have hlen1 : ((pre ++ [x]).length : Int) = pre.length + 1 := by rw [List.length_append]; rfl
      obtain ⟨i1, i2, i3, i4, -⟩ := rd_run_inv hP hW pre rd_0 C 0 mo hpw (rd_I_0 hP) ⟨Int.le_refl _, Int.le_refl _⟩ hC
      have e00 : (rd_s rd_0).length = 0 := rfl
      have e01 : rd_u rd_0 = 0 := rfl
      rw [e00] at i3
      rw [e01] at i2
      have hble := rd_bal_le _ _ hb2
      rw [List.length_cons] at hble
      have hb3 : (if x < 3 then rd_bal ((rd_s C).length + 1) v else if x = 3 then (0 : Int) < (rd_s C).length ∧ rd_bal ((rd_s C).length - 1) v else rd_bal (rd_s C).length v) := hb2
      have hne : x = 3 → rd_s C ≠ [] := by
        intro e3 hs
        rw [if_neg (by omega), if_pos e3, hs] at hb3
        exact absurd hb3.1 (by simp)
      have hrf : (match rd_step P C x with
        | none => (pre.length : Int)
        | some C' => rd_rf P v C' (pre.length + 1)) = rd_rf P w rd_0 0 := hrf
      refine S_X11_refusedAt_8 (by omega) (by omega) (fun z => absurd z (by omega)) (fun _ => ?_)
      refine S_X11_refusedAt_15 hsb (by omega) (by omega) (r_reads _ hg hsl hT' hP hW (by rw [hget]; exact hx) i1 (by rw [hget]; exact hne) (by rw [hget]; split <;> omega) (by omega) (by omega) hI) ?_
      rw [hget]
      rintro y τ' (⟨rfl, hs, rfl⟩ | ⟨rfl, C', hs, hI', hf'⟩)
      · rw [hs] at hrf
        have hrf : (pre.length : Int) = rd_rf P w rd_0 0 := hrf
        refine S_X11_refusedAt_25 (by decide) (fun z => absurd rfl z) (fun _ => ?_)
        exact S_X11_refusedAt_28 ⟨hrf, hfr, fun z => absurd z (by omega)⟩
      · rw [hs] at hrf
        refine S_X11_refusedAt_25 (by decide) (fun _ => ?_) (fun z => absurd (by decide) z)
        refine S_X11_refusedAt_31 ?_
        obtain ⟨-, -, s3, -, -⟩ := rd_step_I hP hW hx i1 hs
        have hb4 : rd_bal (rd_s C').length v := by
          rw [s3]
          by_cases z3 : x = 3
          · rw [if_neg (by omega), if_pos z3] at hb3
            rw [if_pos z3]
            exact hb3.2
          · rw [if_pos (by omega)] at hb3
            rw [if_neg z3]
            exact hb3
        have := ih (pre ++ [x]) C' _ τ' hpre1 (hfr.trans hf') hI' (rd_run_snoc hC hs) hb4 (by rw [hlen1]; exact hrf)
        rw [hlen1] at this
        exact this
  exact loop w [] rd_0 0 τ rfl hf0 hI0 rfl hbal rfl
end
