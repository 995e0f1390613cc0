section
/-! Runs of EVENTS. -/
variable {P : am_P}
theorem rd_step_I {C C' : rd_C} {e : Int} (hP : pm_ok P) (hw : pm_wf P) (he : 0 ≤ e ∧ e ≤ 3) (hI : rd_I P C) (h : rd_step P C e = some C') : rd_I P C' ∧ (rd_u C ≤ rd_u C' ∧ rd_u C' ≤ rd_u C + (if e = 3 then 12 else 0)) ∧ ((rd_s C').length : Int) = (rd_s C).length + (if e = 3 then -1 else 1) ∧ (∀ x, rd_lv (rd_all C') x → x < rd_u C → rd_lv (rd_all C) x) ∧ (∀ x y, rd_nl (rd_all C) x y → rd_lv (rd_all C') x → rd_nl (rd_all C') x y) := by
  unfold rd_step at h
  by_cases z : e = 3
  · rw [if_pos z] at h ⊢
    rw [if_pos z]
    unfold rd_close at h
    cases hs : rd_s C with
    | nil => rw [hs] at h; exact nomatch h
    | cons f s =>
      rw [hs] at h
      obtain ⟨a, b, c, d, g⟩ := rd_shut_I hP hw hs hI h
      refine ⟨a, b, ?_, d, g⟩
      rw [hs] at c
      omega
  · rw [if_neg z] at h ⊢
    rw [if_neg z]
    obtain ⟨a, b, c, d, g⟩ := rd_open_I hP (by omega) hI h
    exact ⟨a, by omega, by omega, fun x hx _ => d x hx, fun x y hx _ => g x y hx⟩
theorem rd_I.lens {C : rd_C} (h : rd_I P C) : ((rd_l3 (rd_r C) + rd_ls (rd_s C) : Nat) : Int) ≤ rd_u C := by
  have := rd_ap_len h.2.2.2.1 h.2.2.2.2.1
  rw [rd_all_len] at this
  exact this
theorem rd_el.even {c : rd_ch} (h : rd_el c) : (c.length : Int) % 2 = 0 := by
  have := rd_bal_even _ 0 h.1 h.2
  rw [Int.add_zero] at this
  unfold rd_sg at this
  rwa [List.length_map] at this
theorem rd_run_app : ∀ (w v : List Int) (C : rd_C) (m : Int), rd_run P (w ++ v) C m = match rd_run P w C m with
    | none => none
    | some (C', m') => rd_run P v C' m' := by
  intro w
  induction w with
  | nil => intro v C m; rfl
  | cons e w ih =>
    intro v C m
    rw [List.cons_append]
    simp only [rd_run]
    cases rd_step P C e with
    | none => rfl
    | some C' => exact ih v C' _
def rd_c3n (w : List Int) : Nat := w.countP (· = 3)
theorem rd_run_inv (hP : pm_ok P) (hw : pm_wf P) : ∀ (w : List Int) (C C' : rd_C) (m m' : Int), (∀ e ∈ w, 0 ≤ e ∧ e ≤ 3) → rd_I P C → 0 ≤ m ∧ m ≤ rd_u C → rd_run P w C m = some (C', m') → rd_I P C' ∧ (rd_u C ≤ rd_u C' ∧ rd_u C' ≤ rd_u C + 12 * (rd_c3n w : Nat)) ∧ ((rd_s C').length : Int) + 2 * (rd_c3n w : Nat) = (rd_s C).length + w.length ∧ (0 ≤ m' ∧ m' ≤ rd_u C') ∧ (∀ x, rd_lv (rd_all C') x → x < rd_u C → rd_lv (rd_all C) x) ∧ (∀ x y, rd_nl (rd_all C) x y → rd_lv (rd_all C') x → rd_nl (rd_all C') x y) := by
  intro w
  induction w with
  | nil =>
    intro C C' m m' _ hI hm h
    injection h with h
    injection h with h1 h2
    subst h1; subst h2
    have e : rd_c3n [] = 0 := rfl
    rw [e]
    refine ⟨hI, by omega, by simp, hm, fun x hx _ => hx, fun x y hx _ => hx⟩
  | cons e w ih =>
    intro C C' m m' he hI hm h
    unfold rd_run at h
    cases hs : rd_step P C e with
    | none => rw [hs] at h; exact nomatch h
    | some C1 =>
      rw [hs] at h
      obtain ⟨a, b, c, d, g⟩ := rd_step_I hP hw (he e List.mem_cons_self) hI hs
      have hl := a.lens
      have hh : rd_held C1 = ((rd_l3 (rd_r C1) + rd_ls (rd_s C1) : Nat) : Int) / 2 := rfl
      obtain ⟨a', b', c', d', g', k'⟩ := ih C1 C' _ m' (fun x hx => he x (List.mem_cons_of_mem _ hx)) a (by omega) h
      have ec : rd_c3n (e :: w) = rd_c3n w + (if e = 3 then 1 else 0) := by
        unfold rd_c3n
        rw [List.countP_cons]
        by_cases z : e = 3
        · rw [if_pos (by simpa using z), if_pos z]
        · rw [if_neg (by simpa using z), if_neg z]
      rw [ec, List.length_cons]
      refine ⟨a', ?_, ?_, d', ?_, ?_⟩
      · split at b <;> simp_all <;> omega
      · split at c <;> simp_all <;> omega
      · intro x hx hlt
        exact d x (g' x hx (by omega)) hlt
      · intro x y hx hl'
        obtain ⟨q, hq, hxy⟩ := id hx
        have hlt := ((hI.2.2.2.2.1.1 q hq).2 x (rd_nx_mem hxy).1).2
        exact k' x y (g x y hx (g' x hl' (by omega))) hl'
theorem rd_run_snoc {w : List Int} {e : Int} {C C' C'' : rd_C} {m m' : Int} (h : rd_run P w C m = some (C', m')) (h' : rd_step P C' e = some C'') : rd_run P (w ++ [e]) C m = some (C'', max m' (rd_held C'')) := by
  rw [rd_run_app, h]
  show (match rd_step P C' e with
    | none => none
    | some C'' => some (C'', max m' (rd_held C''))) = _
  rw [h']
theorem rd_run_pre {w v : List Int} {C C' : rd_C} {m m' : Int} (h : rd_run P (w ++ v) C m = some (C', m')) : ∃ C1 m1, rd_run P w C m = some (C1, m1) ∧ rd_run P v C1 m1 = some (C', m') := by
  rw [rd_run_app] at h
  cases h1 : rd_run P w C m with
  | none => rw [h1] at h; exact nomatch h
  | some r => rw [h1] at h; exact ⟨r.1, r.2, rfl, h⟩
theorem rd_held2 {C : rd_C} (h : rd_I P C) : 2 * rd_held C = ((rd_l3 (rd_r C) + rd_ls (rd_s C) : Nat) : Int) := by
  have h3 : ∀ x : rd_rg, (∀ c ∈ rd_c3 x, rd_el c) → (rd_l3 x : Int) % 2 = 0 := by
    intro x hx
    have e0 := (hx (x 0) (by simp [rd_c3])).even
    have e1 := (hx (x 1) (by simp [rd_c3])).even
    have e2 := (hx (x 2) (by simp [rd_c3])).even
    unfold rd_l3
    omega
  have hs : ∀ s : List rd_fr, (∀ c ∈ s.flatMap (fun f => rd_c3 f.2), rd_el c) → (rd_ls s : Int) % 2 = 0 := by
    intro s
    induction s with
    | nil => intro _; rfl
    | cons f s ih =>
      intro hc
      rw [List.flatMap_cons] at hc
      have e1 := h3 f.2 (fun c h => hc c (List.mem_append_left _ h))
      have e2 := ih (fun c h => hc c (List.mem_append_right _ h))
      show ((rd_l3 f.2 + rd_ls s : Nat) : Int) % 2 = 0
      omega
  have a := h3 (rd_r C) (fun c hc => h.2.2.2.2.2 c (List.mem_append_left _ hc))
  have b := hs (rd_s C) (fun c hc => h.2.2.2.2.2 c (List.mem_append_right _ hc))
  unfold rd_held
  omega
-- rows of nodes by links: o is where the store begins
/-- the links of a row -/
def rd_lk (f : Int → Int) (o : Int) (l : List Int) : Prop := ∀ x y, rd_nx l x y → f (o + x) = o + y
/-- the first node, the last node and how many -/
def rd_rp (o : Int) (c : rd_ch) (a b n : Int) : Prop := n = c.length ∧ (∀ p t, c = p :: t → a = o + p.1) ∧ ∀ t p, c = t ++ [p] → b = o + p.1
theorem rd_lk_cons {f : Int → Int} {o x y : Int} {l : List Int} (h : rd_lk f o (x :: y :: l)) : f (o + x) = o + y ∧ rd_lk f o (y :: l) := ⟨h x y ⟨[], l, rfl⟩, fun a b ⟨p, q, e⟩ => h a b ⟨x :: p, q, by rw [e]; rfl⟩⟩
theorem rd_lk_nil {f : Int → Int} {o : Int} : rd_lk f o [] := fun x y ⟨a, b, e⟩ => by
  have := congrArg List.length e
  simp at this
theorem rd_lk_one {f : Int → Int} {o x : Int} : rd_lk f o [x] := fun a b ⟨p, q, e⟩ => by
  have := congrArg List.length e
  simp at this
  omega
/-- two rows, one behind another -/
theorem rd_lk_app {f : Int → Int} {o : Int} {t : List Int} {x y : Int} {l : List Int} (h1 : rd_lk f o (t ++ [x])) (h2 : rd_lk f o (y :: l)) (hxy : f (o + x) = o + y) : rd_lk f o (t ++ [x] ++ (y :: l)) := by
  rintro a b ⟨p, q, e⟩
  have e' : (t ++ [x]) ++ (y :: l) = p ++ (a :: b :: q) := e
  rcases List.append_eq_append_iff.mp e' with ⟨r, hr1, hr2⟩ | ⟨r, hr1, hr2⟩
  · -- p = t ++ [x] ++ r
    exact h2 a b ⟨r, q, hr2⟩
  · -- t ++ [x] = p ++ r, a :: b :: q = r ++ y :: l
    cases r with
    | nil =>
      rw [List.nil_append] at hr2
      injection hr2 with h3 h4
      subst h3
      exact h2 a b ⟨[], q, by rw [← h4]; rfl⟩
    | cons r0 r =>
      injection hr2 with h3 h4
      subst h3
      cases r with
      | nil =>
        have h4 : b :: q = y :: l := h4
        injection h4 with h5 h6
        subst h5
        have : x = a := by
          have := (List.append_inj' hr1 rfl).2
          injection this
        subst this
        exact hxy
      | cons r1 r =>
        injection h4 with h5 h6
        subst h5
        exact h1 a b ⟨p, r, hr1⟩
/-- a link is set that no node of the row has -/
theorem rd_lk_set {f : Int → Int} {o x v : Int} {l : List Int} (h : rd_lk f o l) (hx : ∀ y, ¬ rd_nx l x y) : rd_lk (am_u1 f (o + x) v) o l := by
  intro a b hab
  rw [am_u1_ne (fun e => hx b (by have : a = x := by omega
                                  subst this
                                  exact hab))]
  exact h a b hab
end
