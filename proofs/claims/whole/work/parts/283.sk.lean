section
/-! Kinds of rows: where a MACHINE of at most two STATES comes to, from each; 2: it can't READ the row. -/
abbrev sk_K : Type := Int × Int
def sk_ok (k : sk_K) : Prop := (0 ≤ k.1 ∧ k.1 ≤ 2) ∧ (0 ≤ k.2 ∧ k.2 ≤ 2)
def sk_to (k : sk_K) (s : Int) : Int := if s = 0 then k.1 else if s = 1 then k.2 else 2
def sk_1 : sk_K := (0, 1)
def sk_th (k j : sk_K) : sk_K := (sk_to j k.1, sk_to j k.2)
def sk_pa (Q : am_P) (l : Int) (k : sk_K) (s : Int) : Int := if pm_oT Q l s = -1 then 2 else if sk_to k (pm_oT Q l s) = 2 then 2 else if pm_cT Q l (sk_to k (pm_oT Q l s)) (pm_oM Q l s) = -1 then 2 else pm_cT Q l (sk_to k (pm_oT Q l s)) (pm_oM Q l s)
def sk_wr (Q : am_P) (l : Int) (k : sk_K) : sk_K := (sk_pa Q l k 0, sk_pa Q l k 1)
def sk_ev (Q : am_P) (X Y : Int → sk_K) : List Int → sk_K → List (sk_K × Int) → sk_K
  | [], k, _ => k
  | s :: w, k, st => if s < 3 then sk_ev Q X Y w sk_1 ((k, s) :: st) else if s = 3 then (match st with
    | [] => sk_ev Q X Y w k []
    | (j, l) :: st' => sk_ev Q X Y w (sk_th j (sk_wr Q l k)) st') else sk_ev Q X Y w (sk_th k (if s < 8 then X (s - 4) else Y (s - 8))) st
/-- no RULE opens from a STATE that is none -/
def pm_dm (P : am_P) : Prop := ∀ l q, pm_S P ≤ q → pm_oT P l q = -1
def sk_q (Q : am_P) : Prop := pm_ok Q ∧ pm_S Q ≤ 2 ∧ pm_dm Q
theorem sk_ok_1 : sk_ok sk_1 := by unfold sk_ok sk_1; decide
theorem sk_to_rg {k : sk_K} {s : Int} (h : sk_ok k) : 0 ≤ sk_to k s ∧ sk_to k s ≤ 2 := by
  unfold sk_to
  obtain ⟨⟨h1, h2⟩, h3, h4⟩ := h
  split
  · omega
  · split <;> omega
theorem sk_ok_th {k j : sk_K} (hj : sk_ok j) : sk_ok (sk_th k j) := ⟨sk_to_rg hj, sk_to_rg hj⟩
theorem sk_pa_rg {Q : am_P} {l s : Int} {k : sk_K} (hQ : sk_q Q) : 0 ≤ sk_pa Q l k s ∧ sk_pa Q l k s ≤ 2 := by
  unfold sk_pa
  have h := hQ.1.2.2.2.2.2.2.2 l (sk_to k (pm_oT Q l s)) (pm_oM Q l s)
  have h2 := hQ.2.1
  split
  · omega
  · split
    · omega
    · split <;> omega
theorem sk_ok_wr {Q : am_P} {l : Int} {k : sk_K} (hQ : sk_q Q) : sk_ok (sk_wr Q l k) := ⟨sk_pa_rg hQ, sk_pa_rg hQ⟩
/-- an EXPRESSION of at most two REGISTERS -/
def sk_x (w : List Int) : Prop := (∀ s ∈ w, (0 ≤ s ∧ s ≤ 3) ∨ (4 ≤ s ∧ s < 6) ∨ (8 ≤ s ∧ s < 10)) ∧ rd_bal 0 w ∧ w.countP (· < 3) ≤ 6
/-- what holds amid an EXPRESSION -/
def sk_m (w : List Int) (n : Nat) : Prop := (∀ s ∈ w, (0 ≤ s ∧ s ≤ 3) ∨ (4 ≤ s ∧ s < 6) ∨ (8 ≤ s ∧ s < 10)) ∧ rd_bal n w ∧ n + w.countP (· < 3) ≤ 6
theorem sk_x.m {w : List Int} (h : sk_x w) : sk_m w 0 := ⟨h.1, h.2.1, by have := h.2.2; omega⟩
theorem sk_m.o {s : Int} {w : List Int} {n : Nat} (h : sk_m (s :: w) n) (hs : s < 3) : sk_m w (n + 1) ∧ n < 6 := by
  obtain ⟨h1, h2, h3⟩ := h
  unfold rd_bal at h2
  rw [if_pos hs] at h2
  rw [List.countP_cons_of_pos (by simpa using hs)] at h3
  exact ⟨⟨fun x hx => h1 x (List.mem_cons_of_mem _ hx), h2, by omega⟩, by omega⟩
theorem sk_m.c {s : Int} {w : List Int} {n : Nat} (h : sk_m (s :: w) n) (hs : s = 3) : ∃ k, n = k + 1 ∧ sk_m w k := by
  obtain ⟨h1, h2, h3⟩ := h
  unfold rd_bal at h2
  rw [if_neg (by omega), if_pos hs] at h2
  rw [List.countP_cons_of_neg (by simp; omega)] at h3
  obtain ⟨k, rfl⟩ : ∃ k, n = k + 1 := ⟨n - 1, by omega⟩
  refine ⟨k, rfl, fun x hx => h1 x (List.mem_cons_of_mem _ hx), ?_, by omega⟩
  have := h2.2
  rwa [show ((k + 1 : Nat) : Int) - 1 = (k : Int) by omega] at this
theorem sk_m.r {s : Int} {w : List Int} {n : Nat} (h : sk_m (s :: w) n) (hs : 4 ≤ s) : sk_m w n := by
  obtain ⟨h1, h2, h3⟩ := h
  unfold rd_bal at h2
  rw [if_neg (by omega), if_neg (by omega)] at h2
  rw [List.countP_cons_of_neg (by simp; omega)] at h3
  exact ⟨fun x hx => h1 x (List.mem_cons_of_mem _ hx), h2, h3⟩
theorem sk_ok_ev {Q : am_P} {X Y : Int → sk_K} (hQ : sk_q Q) : ∀ (w : List Int) (k : sk_K) (st : List (sk_K × Int)), (∀ s ∈ w, (4 ≤ s → s < 8 → sk_ok (X (s - 4))) ∧ (8 ≤ s → sk_ok (Y (s - 8)))) → sk_ok k → sk_ok (sk_ev Q X Y w k st) := by
  intro w
  induction w with
  | nil => intro k st _ hk; exact hk
  | cons s w ih =>
    intro k st h hk
    have h' := fun x hx => h x (List.mem_cons_of_mem _ hx)
    unfold sk_ev
    split
    · exact ih _ _ h' sk_ok_1
    · split
      · cases st with
        | nil => exact ih _ _ h' hk
        | cons p st => exact ih _ _ h' (sk_ok_th (sk_ok_wr hQ))
      · refine ih _ _ h' (sk_ok_th ?_)
        split
        · exact (h s List.mem_cons_self).1 (by omega) (by omega)
        · exact (h s List.mem_cons_self).2 (by omega)
/-- the reference's number of a kind -/
def sk_r (k : sk_K) : Int := k.1 + 3 * k.2
theorem sk_r_rg {k : sk_K} (h : sk_ok k) : 0 ≤ sk_r k ∧ sk_r k ≤ 8 := by
  obtain ⟨⟨h1, h2⟩, h3, h4⟩ := h
  unfold sk_r
  omega
variable {G : am_G} {σ : am_D}
theorem r_by (d : Nat) {k : sk_K} {s : Int} (hk : sk_ok k) (hs : 0 ≤ s ∧ s ≤ 2) : am_MI G (d + 1) mX11_by [am_i (sk_r k), am_i s] σ (fun x σ' => x = sk_to k s ∧ σ = σ') := by
  have hr := sk_r_rg hk
  obtain ⟨⟨h1, h2⟩, h3, h4⟩ := hk
  refine am_M.go (by decide) (Nat.le_of_ble_eq_true rfl) rfl ?_
  unfold sk_to
  refine S_X11_by_0 (by omega) (fun z => ?_) (fun z => ?_)
  · refine S_X11_by_9 (by omega) (fun y => ?_) (fun y => ?_)
    · refine S_X11_by_19 (by omega) (S_X11_by_22 ⟨?_, rfl⟩)
      rw [if_neg y, if_pos (by omega), Int.tdiv_eq_ediv_of_nonneg hr.1]
      unfold sk_r
      omega
    · refine S_X11_by_13 (by omega) (S_X11_by_22 ⟨?_, rfl⟩)
      rw [if_pos (by omega), Int.tmod_eq_emod_of_nonneg hr.1]
      unfold sk_r
      omega
  · refine S_X11_by_5 (S_X11_by_22 ⟨?_, rfl⟩)
    rw [if_neg (by omega), if_neg (by omega)]
theorem r_then (d : Nat) {k j : sk_K} (hk : sk_ok k) (hj : sk_ok j) : am_MI G (d + 2) mX11_then [am_i (sk_r k), am_i (sk_r j)] σ (fun x σ' => x = sk_r (sk_th k j) ∧ σ = σ') := by
  have a1 := sk_to_rg (s := 0) hk
  have a2 := sk_to_rg (s := 1) hk
  refine am_M.go (by decide) (Nat.le_of_ble_eq_true rfl) rfl ?_
  refine S_X11_then_0 (r_by _ hk (by omega)) ?_
  rintro _ _ ⟨rfl, rfl⟩
  refine S_X11_then_6 (r_by _ hj a1) ?_
  rintro _ _ ⟨rfl, rfl⟩
  refine S_X11_then_9 (r_by _ hk (by omega)) ?_
  rintro _ _ ⟨rfl, rfl⟩
  refine S_X11_then_16 (r_by _ hj a2) ?_
  rintro _ _ ⟨rfl, rfl⟩
  exact S_X11_then_19 ⟨rfl, rfl⟩
theorem r_within (d : Nat) {Q : am_P} {sl l s : Int} {k : sk_K} (hsl : 0 ≤ sl ∧ sl < 6) (hT : rm_T σ sl Q) (hQ : sk_q Q) (hl : 0 ≤ l ∧ l < 3) (hs : 0 ≤ s ∧ s ≤ 1) (hk : sk_ok k) : am_MI G (d + 2) mX11_within [am_r (some 91), am_i sl, am_i l, am_i (sk_r k), am_i s] σ (fun x σ' => x = sk_pa Q l k s ∧ σ = σ') := by
  obtain ⟨hP, hS2, hdm⟩ := id hQ
  obtain ⟨⟨pS1, pS2⟩, ⟨pR1, pR2⟩, -, -, -, poT, poM, pcT⟩ := id hP
  have ho := poT l s
  have hm := poM l s
  obtain ⟨t1, t2⟩ := hT.2.1 l s (by omega) (by omega) (by omega) (by omega)
  have t94 := hT.1.1
  refine am_M.go (by decide) (Nat.le_of_ble_eq_true rfl) rfl ?_
  refine S_X11_within_0 hsl.1 hsl.2 (by omega) (by omega) (fun z => ?_) (fun z => ?_)
  · refine S_X11_within_27 ⟨?_, rfl⟩
    unfold sk_pa
    rw [if_pos (hdm l s (by omega))]
  refine S_X11_within_11 (c_openAt _) ?_
  rintro _ _ ⟨rfl, rfl⟩
  refine S_X11_within_22 sh_98 (by omega) (by omega) (by rw [t1]; omega) (fun z => ?_) (fun z => ?_)
  rotate_left
  · refine S_X11_within_27 ⟨?_, rfl⟩
    unfold sk_pa
    rw [if_pos (by rw [← t1]; exact Classical.not_not.mp z)]
  rw [t1] at z
  have t2 := t2 z
  have hto := sk_to_rg (s := pm_oT Q l s) hk
  refine S_X11_within_29 (c_openAt _) ?_
  rintro _ _ ⟨rfl, rfl⟩
  have hby := r_by (G := G) (σ := σ) d (k := k) (s := pm_oT Q l s) hk (by omega)
  rw [← t1] at hby
  refine S_X11_within_41 sh_98 (by omega) (by omega) hby ?_
  rintro _ _ ⟨rfl, rfl⟩
  rw [t1]
  have hct := pcT l (sk_to k (pm_oT Q l s)) (pm_oM Q l s)
  have fin : ∀ x : Int, x = (if sk_to k (pm_oT Q l s) = 2 then -1 else pm_cT Q l (sk_to k (pm_oT Q l s)) (pm_oM Q l s)) → am_X (am_FI G (d + 2) (fun x σ' => x = sk_pa Q l k s ∧ σ = σ')) mX11_within (0, 0) 81 [none, none, none, none, none, none, none] [am_i x] (am_K0, σ) := by
    intro x hx
    refine S_X11_within_81 ?_
    unfold sk_pa
    rw [if_neg z]
    by_cases y : sk_to k (pm_oT Q l s) = 2
    · rw [if_pos y] at hx ⊢
      refine S_X11_within_83 (by omega) (fun w => absurd hx w) (fun _ => ?_)
      exact S_X11_within_89 (S_X11_within_95 ⟨rfl, rfl⟩)
    · rw [if_neg y] at hx ⊢
      rw [← hx] at hct ⊢
      refine S_X11_within_83 (by omega) (fun w => ?_) (fun w => ?_)
      · rw [if_neg w]; exact S_X11_within_93 (S_X11_within_95 ⟨rfl, rfl⟩)
      · rw [if_pos (Classical.not_not.mp w)]; exact S_X11_within_89 (S_X11_within_95 ⟨rfl, rfl⟩)
  refine S_X11_within_47 (by omega) (fun y => ?_) (fun y => ?_)
  · refine S_X11_within_57 (c_openAt _) ?_
    rintro _ _ ⟨rfl, rfl⟩
    refine S_X11_within_76 sh_99 (by omega) (by omega) (c_closeAt _) ?_
    rintro _ _ ⟨rfl, rfl⟩
    rw [t2]
    have t3 := (hT.2.2.1 l (sk_to k (pm_oT Q l s)) (pm_oM Q l s) (by omega) (by omega) (by omega) (by omega) (by omega) (by omega)).1
    refine S_X11_within_80 sh_100 (by omega) (by omega) ?_
    rw [t3]
    exact fin _ (by rw [if_neg y])
  · exact S_X11_within_53 (fin _ (by rw [if_pos (by omega)]))
end
