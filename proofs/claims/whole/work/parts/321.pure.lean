section
/-! What holds of what is told, written, found. -/
theorem ab_L_some {F : Int → Option (List Int)} {x : List Int} : ∀ (n : Nat) (e : Int), se_L F n e = some x → ∃ e', e ≤ e' ∧ e' < e + n ∧ F e' = some x := by
  intro n
  induction n with
  | zero => intro e h; exact nomatch h
  | succ n ih =>
    intro e h
    cases hF : F e with
    | some y =>
      have h : (match F e with
        | some x => some x
        | none => se_L F n (e + 1)) = some x := h
      rw [hF] at h
      injection h with h
      exact ⟨e, by omega, by omega, by rw [hF, h]⟩
    | none =>
      have h : (match F e with
        | some x => some x
        | none => se_L F n (e + 1)) = some x := h
      rw [hF] at h
      obtain ⟨e', h1, h2, h3⟩ := ih (e + 1) h
      exact ⟨e', by omega, by omega, h3⟩
theorem se_D_ok {p : List Int → Bool} : ∀ (r : Nat) (h : Int) (w w' : List Int), se_W w h → h ≤ r → (h + r) % 2 = 0 → se_D p r h w = some w' → se_W w' 0 ∧ w'.length = w.length + r := by
  intro r
  induction r with
  | zero =>
    intro h w w' hW hh hpar hs
    have hh0 : h = 0 := by have := hW.2.1; omega
    subst hh0
    have hs : (if p w then some w else none) = some w' := hs
    by_cases z : p w = true
    · rw [if_pos z] at hs
      injection hs with hs
      subst hs
      exact ⟨hW, rfl⟩
    · rw [if_neg z] at hs; exact nomatch hs
  | succ r ih =>
    intro h w w' hW hh hpar hs
    obtain ⟨e, e0, e1, he⟩ := ab_L_some 4 0 (show se_L (fun e => if se_g h r e then se_D p r (se_h h e) (w ++ [e]) else none) 4 0 = some w' from hs)
    by_cases z : se_g h r e
    · rw [if_pos z] at he
      have hz : if e = 3 then h ≠ 0 else h < r + 1 := z
      have h0 := hW.2.1
      have hse : se_h h e = if e = 3 then h - 1 else h + 1 := rfl
      obtain ⟨a1, a2⟩ := ih (se_h h e) (w ++ [e]) w' (hW.snoc ⟨e0, by omega⟩ z) (by
        rw [hse]
        by_cases y : e = 3
        · rw [if_pos y]; omega
        · rw [if_neg y] at hz ⊢; omega) (by
        rw [hse]
        by_cases y : e = 3
        · rw [if_pos y]; omega
        · rw [if_neg y]; omega) he
      refine ⟨a1, ?_⟩
      rw [a2, List.length_append]
      show w.length + 1 + r = w.length + (r + 1)
      omega
    · rw [if_neg z] at he; exact nomatch he
theorem se_A_ok {p : List Int → Bool} : ∀ (k el : Nat) (q : Nat × List Int), se_A p k el = some q → se_W q.2 0 ∧ q.2.length = 2 * q.1 ∧ q.1 < el + k := by
  intro k
  induction k with
  | zero => intro el q h; exact nomatch h
  | succ k ih =>
    intro el q h
    have h : (match se_D p (2 * el) 0 [] with
      | some w => some (el, w)
      | none => se_A p k (el + 1)) = some q := h
    cases hs : se_D p (2 * el) 0 [] with
    | some w =>
      rw [hs] at h
      injection h with h
      subst h
      obtain ⟨a, b⟩ := se_D_ok (2 * el) 0 [] w se_W_0 (by omega) (by omega) hs
      refine ⟨a, ?_, by show el < el + (k + 1); omega⟩
      show w.length = 2 * el
      rw [b]
      exact Nat.zero_add _
    | none =>
      rw [hs] at h
      obtain ⟨a, b, c⟩ := ih (el + 1) q h
      exact ⟨a, b, by omega⟩
/-- what OUT is -/
def ab_o (out : List Int) : Prop := (∀ x ∈ out, 0 ≤ x ∧ x ≤ 3) ∧ rd_bal 0 out ∧ out.length ≤ 4812
theorem ab_d.mk {w : List Int} (h1 : ∀ x ∈ w, 0 ≤ x ∧ x ≤ 3) (h2 : rd_bal 0 w) (h3 : w.length ≤ 80) : ab_d w := ⟨h1, h2, h3, by have := rd_half h2; omega⟩
theorem ab_o.d {w : List Int} (h : ab_o w) (h3 : w.length ≤ 80) : ab_d w := ab_d.mk h.1 h.2.1 h3
theorem ab_o.even {w : List Int} (h : ab_o w) : (w.length : Int) % 2 = 0 := by
  have := rd_el.even (c := w.map (fun x => ((0 : Int), x))) (by
    have e : rd_sg (w.map (fun x => ((0 : Int), x))) = w := by
      unfold rd_sg
      rw [List.map_map]
      exact List.map_id' w
    unfold rd_el
    rw [e]
    exact ⟨h.1, h.2.1⟩)
  rwa [List.length_map] at this
/-- what a MACHINE makes of a row -/
theorem rd_tr_ok {P : am_P} {w o : List Int} (hP : pm_ok P) (hW : pm_wf P) (hw : ∀ e ∈ w, 0 ≤ e ∧ e ≤ 3) (h3 : rd_c3n w ≤ 400) (h : rd_tr P w = some o) : ab_o o ∧ (o.length : Int) ≤ 12 * (rd_c3n w : Nat) + 12 := by
  unfold rd_tr at h
  cases hC : rd_run P w rd_0 0 with
  | none => rw [hC] at h; exact nomatch h
  | some c =>
    obtain ⟨C, mo⟩ := c
    rw [hC] at h
    dsimp only at h
    by_cases z : rd_s C = []
    · rw [if_pos z] at h
      cases hv : pm_eX P (rd_q C) with
      | none => rw [hv] at h; exact nomatch h
      | some v =>
        rw [hv] at h
        injection h with h
        subst h
        obtain ⟨-, q2, q3, -⟩ := rd_lens hP hW hw hC
        obtain ⟨r1, -, -, r4, -⟩ := rd_out_ok hP hW q2 hv
        have e : (rd_sg (rd_out C v)).length = (rd_out C v).length := by unfold rd_sg; rw [List.length_map]
        exact ⟨⟨r1.1, r1.2, by omega⟩, by omega⟩
    · rw [if_neg z] at h; exact nomatch h
theorem an_fd_ok {M : ab_M} {b : Bool} {j k n : Int} {doc : List Int} (hd : ab_d doc) : ab_d (an_fd M b j k n doc) := by
  unfold an_fd
  split
  · rename_i hc
    cases hf : an_f M b j k n with
    | none => exact hd
    | some p =>
      dsimp only
      unfold an_f at hf
      split at hf
      · obtain ⟨a1, a2, a3⟩ := se_A_ok _ _ _ hf
        have := hc.2.2
        exact ab_d.mk a1.1 a1.bal (by omega)
      · exact nomatch hf
  · exact hd
theorem an_dc_ok {b : ab_B} {doc : List Int} (hb : ab_b b) (hd : ab_d doc) : ab_d (an_dc b doc).2.2 := by
  cases hR : sl_D b.1 b.2 0 0 0 [] with
  | inl F => rw [an_dc_l hR]; exact hd
  | inr w =>
    rw [an_dc_r hR]
    have hb2 := hb.2
    obtain ⟨a1, a2⟩ := sl_doc_ok (bs := b.1) (n := b.2) 700 0 0 0 [] w hb2.1 (by omega) (by omega) (by omega) rfl (fun v hv => hv) (fun x hx => (by cases hx)) hR
    exact ab_d.mk a1.1 a1.2 a2
theorem an_mc_ok {b : ab_B} {k F : Int} {M : ab_M} (hb : ab_b b) (hw : ab_w M) (hc : ab_c M) (hpo : ∀ P, (0 ≤ k ∧ k < 4) → sm_mach b.1 b.2 = .inr P → pm_ok P) : ab_w (an_mc b k F M).2.2.1 ∧ ab_c (an_mc b k F M).2.2.1 ∧ ab_b (an_mc b k F M).2.2.2 := by
  have hb0 : ab_b (b.1, 0) := ⟨hb.1, by show (0 : Int) ≤ 0; omega, by show (0 : Int) ≤ 600; omega⟩
  by_cases hk : 0 ≤ k ∧ k < 4
  · cases hm : sm_mach b.1 b.2 with
    | inl F' => rw [an_mc_l hk hm]; exact ⟨hw, hc, hb0⟩
    | inr P =>
      rw [an_mc_r hk hm]
      have hg := sm_mach_good hb.2 hm
      have hdm := sm_mach_dm hm
      have hok := hpo P hk hm
      refine ⟨fun j P' hj => ?_, fun j P' hj => ?_, hb0⟩
      · have hj : am_u1 M k (some P) j = some P' := hj
        by_cases e : j = k
        · rw [e, am_u1_eq] at hj
          injection hj with hj
          subst hj
          exact ⟨hok, hg.1, hdm⟩
        · rw [am_u1_ne e] at hj
          exact hw j P' hj
      · have hj : am_u1 M k (some P) j = some P' := hj
        by_cases e : j = k
        · rw [e, am_u1_eq] at hj
          injection hj with hj
          subst hj
          exact hg.2.1
        · rw [am_u1_ne e] at hj
          exact hc j P' hj
  · rw [an_mc_n hk]; exact ⟨hw, hc, hb⟩
theorem an_bg_ok {M : ab_M} {k : Int} {r : ab_R} (hw : ab_w M) (hb : ab_rb r) : ab_rb (an_bg M k r).2 := by
  unfold an_bg
  cases h : ab_t M k with
  | none => exact hb
  | some P =>
    have hg : ab_g P := by
      unfold ab_t at h
      split at h
      · exact hw k P h
      · exact nomatch h
    refine ⟨⟨hg.1, hg.2.1⟩, fun e he => (by cases he), by show an_no [] ≤ 400; decide, fun C mo hC => ?_⟩
    have hC : some (rd_0, (0 : Int)) = some (C, mo) := hC
    injection hC with hC
    injection hC with e1 e2
    rw [← e1]
    exact (by decide : ((0 : Nat) : Int) ≤ 60)
theorem an_rn_ok {M : ab_M} {k : Int} {doc out : List Int} (hw : ab_w M) (hd : ab_d doc) (ho : ab_o out) : ab_o ((an_rn M k doc).getD out) := by
  unfold an_rn
  cases h : ab_t M k with
  | none => exact ho
  | some P =>
    have hg : ab_g P := by
      unfold ab_t at h
      split at h
      · exact hw k P h
      · exact nomatch h
    dsimp only
    cases ht : rd_tr P doc with
    | none => exact ho
    | some o => exact (rd_tr_ok hg.1 hg.2.1 hd.1 (by have := hd.2.2.2; omega) ht).1
theorem an_th_ok {M : ab_M} {j k : Int} {doc out : List Int} (hw : ab_w M) (hd : ab_d doc) (ho : ab_o out) : ab_o ((an_th M j k doc).getD out) := by
  unfold an_th
  have hg : ∀ i P, ab_t M i = some P → ab_g P := by
    intro i P h
    unfold ab_t at h
    split at h
    · exact hw i P h
    · exact nomatch h
  split
  · rename_i P Q h1 h2
    cases ht : rd_tr P doc with
    | none => exact ho
    | some o =>
      dsimp only
      obtain ⟨a1, a2⟩ := rd_tr_ok (hg j P h1).1 (hg j P h1).2.1 hd.1 (by have := hd.2.2.2; omega) ht
      have h4 := hd.2.2.2
      have h5 := rd_half a1.2.1
      cases ht2 : rd_tr Q o with
      | none => exact ho
      | some o2 => exact (rd_tr_ok (hg k Q h2).1 (hg k Q h2).2.1 a1.1 (by omega) ht2).1
  · exact ho
theorem an_fn_ok {r : ab_R} {out : List Int} (hb : ab_rb r) (ho : ab_o out) (h3 : ∀ p, r = some p → rd_c3n p.2 ≤ 400) : ab_o ((an_fn r).getD out) ∧ ab_rb (if (an_fn r).isSome then none else r) := by
  cases r with
  | none => exact ⟨ho, trivial⟩
  | some p =>
    obtain ⟨⟨hP, hW⟩, hw, -⟩ := (show _ ∧ _ from hb)
    show ab_o ((rd_tr p.1 p.2).getD out) ∧ ab_rb (if (rd_tr p.1 p.2).isSome then none else some p)
    cases ht : rd_tr p.1 p.2 with
    | none => exact ⟨ho, hb⟩
    | some o => exact ⟨(rd_tr_ok hP hW hw (h3 p rfl) ht).1, trivial⟩
theorem an_tk_ok {doc out : List Int} (hd : ab_d doc) (ho : ab_o out) : ab_d (an_tk doc out).2 := by
  unfold an_tk
  split
  · rename_i h; exact ho.d h
  · exact hd
end
