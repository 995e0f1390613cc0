section
/-! READINGS of the reference. -/
def rr_sz (a : Nat) : Int := if a ≤ 111 then 5000 else if a ≤ 115 then 1 else if a ≤ 118 then 3 else if a ≤ 120 then 260 else 780
abbrev rr_A : List Nat := [91, 110, 111, 112, 113, 114, 115, 116, 117, 118, 119, 120, 121, 122, 123, 124, 125, 126]
def rr_fr (g : Int) (σ τ : am_D) : Prop := am_only rr_A σ τ ∧ am_kpt [43, 44, 45] (σ.1 91) (τ.1 91) ∧ ∀ a, 110 ≤ a → a ≤ 123 → ∀ i : Int, i < rr_sz a * g ∨ rr_sz a * g + rr_sz a ≤ i → τ.1 a i = σ.1 a i
theorem rr_fr.rfl' {g : Int} {σ : am_D} : rr_fr g σ σ := ⟨am_only.rfl', am_kpt.rfl', fun _ _ _ _ _ => rfl⟩
theorem rr_fr.trans {g : Int} {σ τ υ : am_D} (h : rr_fr g σ τ) (h' : rr_fr g τ υ) : rr_fr g σ υ := ⟨h.1.trans h'.1, h.2.1.trans h'.2.1, fun a y1 y2 i hi => (h'.2.2 a y1 y2 i hi).trans (h.2.2 a y1 y2 i hi)⟩
theorem rr_fr.pI {g : Int} {σ : am_D} {a : Nat} {k x : Int} (ha : 110 ≤ a ∧ a ≤ 123) (hk : rr_sz a * g ≤ k ∧ k < rr_sz a * g + rr_sz a) : rr_fr g σ (am_pI σ a k x) := by
  refine ⟨am_only.pI (by simp; omega), by rw [am_pI_of (by omega)]; exact am_kpt.rfl', fun b y1 y2 i hi => ?_⟩
  by_cases e : b = a
  · subst e
    exact am_pI_nj (by omega)
  · rw [am_pI_of e]
theorem rr_fr.pN {g : Int} {σ : am_D} {a : Nat} {k x : Int} (ha : 124 ≤ a ∧ a ≤ 126) : rr_fr g σ (am_pI σ a k x) := by
  refine ⟨am_only.pI (by simp; omega), by rw [am_pI_of (by omega)]; exact am_kpt.rfl', fun b y1 y2 i hi => ?_⟩
  rw [am_pI_of (by omega)]
def rr_S (τ : am_D) (g : Int) : List rd_fr → Prop
  | [] => True
  | f :: s => (τ.1 119 (260 * g + s.length) = f.1.2 ∧ τ.1 120 (260 * g + s.length) = f.1.1 ∧ ∀ r : Int, 0 ≤ r → r < 3 → rd_rp (5000 * g) (f.2 r) (τ.1 121 (3 * (260 * g + s.length) + r)) (τ.1 122 (3 * (260 * g + s.length) + r)) (τ.1 123 (3 * (260 * g + s.length) + r))) ∧ rr_S τ g s
theorem rr_S.keep {σ τ : am_D} {g : Int} : ∀ {s : List rd_fr}, (∀ i : Int, 260 * g ≤ i → i < 260 * g + s.length → τ.1 119 i = σ.1 119 i ∧ τ.1 120 i = σ.1 120 i) → (∀ i : Int, 780 * g ≤ i → i < 3 * (260 * g + s.length) → τ.1 121 i = σ.1 121 i ∧ τ.1 122 i = σ.1 122 i ∧ τ.1 123 i = σ.1 123 i) → rr_S σ g s → rr_S τ g s := by
  intro s
  induction s with
  | nil => intro _ _ _; trivial
  | cons f s ih =>
    intro h1 h2 h
    have hl : (((f :: s).length : Nat) : Int) = s.length + 1 := by rw [List.length_cons]; omega
    rw [hl] at h1 h2
    refine ⟨⟨?_, ?_, fun r r0 r1 => ?_⟩, ih (fun i y1 y2 => h1 i y1 (by omega)) (fun i y1 y2 => h2 i y1 (by omega)) h.2⟩
    · rw [(h1 _ (by omega) (by omega)).1]; exact h.1.1
    · rw [(h1 _ (by omega) (by omega)).2]; exact h.1.2.1
    · obtain ⟨e1, e2, e3⟩ := h2 (3 * (260 * g + s.length) + r) (by omega) (by omega)
      rw [e1, e2, e3]
      exact h.1.2.2 r r0 r1
def rr_I (τ : am_D) (g : Int) (C : rd_C) (mo : Int) : Prop := (τ.1 113 g = rd_q C ∧ τ.1 114 g = (rd_s C).length ∧ τ.1 112 g = rd_u C ∧ τ.1 115 g = mo) ∧ (∀ r : Int, 0 ≤ r → r < 3 → rd_rp (5000 * g) (rd_r C r) (τ.1 116 (3 * g + r)) (τ.1 117 (3 * g + r)) (τ.1 118 (3 * g + r))) ∧ rr_S τ g (rd_s C) ∧ rd_G (5000 * g) (τ.1 111) (τ.1 110) (rd_all C)
/-- another READING stays -/
theorem rr_I.other {σ τ : am_D} {P : am_P} {g g' : Int} {C : rd_C} {mo : Int} (hne : g ≠ g') (hI : rd_I P C) (hu : rd_u C ≤ 5000) (hl : ((rd_s C).length : Int) ≤ 260) (h : rr_fr g' σ τ) (hr : rr_I σ g C mo) : rr_I τ g C mo := by
  obtain ⟨⟨a1, a2, a3, a4⟩, b, c, e⟩ := hr
  have q : ∀ a, 110 ≤ a → a ≤ 123 → ∀ i : Int, rr_sz a * g ≤ i → i < rr_sz a * g + rr_sz a → τ.1 a i = σ.1 a i := by
    intro a y1 y2 i hi1 hi2
    refine h.2.2 a y1 y2 i ?_
    have hz : 0 < rr_sz a := by omega
    rcases Int.lt_or_gt_of_ne hne with z | z
    · left
      have : rr_sz a * (g + 1) ≤ rr_sz a * g' := Int.mul_le_mul_of_nonneg_left (by omega) (by omega)
      rw [Int.mul_add, Int.mul_one] at this
      omega
    · right
      have : rr_sz a * (g' + 1) ≤ rr_sz a * g := Int.mul_le_mul_of_nonneg_left (by omega) (by omega)
      rw [Int.mul_add, Int.mul_one] at this
      omega
  have q1 : ∀ a, 112 ≤ a → a ≤ 115 → τ.1 a g = σ.1 a g := by
    intro a y1 y2
    have hz : rr_sz a = 1 := by unfold rr_sz; rw [if_neg (by omega), if_pos y2]
    exact q a (by omega) (by omega) g (by rw [hz]; omega) (by rw [hz]; omega)
  refine ⟨⟨by rw [q1 113 (by omega) (by omega)]; exact a1, by rw [q1 114 (by omega) (by omega)]; exact a2, by rw [q1 112 (by omega) (by omega)]; exact a3, by rw [q1 115 (by omega) (by omega)]; exact a4⟩, fun r r0 r1 => ?_, ?_, ?_⟩
  · rw [q 116 (by omega) (by omega) _ (show 3 * g ≤ _ by omega) (show _ < 3 * g + 3 by omega), q 117 (by omega) (by omega) _ (show 3 * g ≤ _ by omega) (show _ < 3 * g + 3 by omega), q 118 (by omega) (by omega) _ (show 3 * g ≤ _ by omega) (show _ < 3 * g + 3 by omega)]
    exact b r r0 r1
  · exact c.keep (fun i y1 y2 => ⟨q 119 (by omega) (by omega) _ (show 260 * g ≤ _ by omega) (show _ < 260 * g + 260 by omega), q 120 (by omega) (by omega) _ (show 260 * g ≤ _ by omega) (show _ < 260 * g + 260 by omega)⟩) (fun i y1 y2 => ⟨q 121 (by omega) (by omega) _ (show 780 * g ≤ _ by omega) (show _ < 780 * g + 780 by omega), q 122 (by omega) (by omega) _ (show 780 * g ≤ _ by omega) (show _ < 780 * g + 780 by omega), q 123 (by omega) (by omega) _ (show 780 * g ≤ _ by omega) (show _ < 780 * g + 780 by omega)⟩)
  · have hap := hI.2.2.2.2.1
    have hx : ∀ c ∈ rd_all C, ∀ x ∈ rd_nd c, τ.1 111 (5000 * g + x) = σ.1 111 (5000 * g + x) ∧ τ.1 110 (5000 * g + x) = σ.1 110 (5000 * g + x) := by
      intro c hc x hx
      have := (hap.1 c hc).2 x hx
      exact ⟨q 111 (by omega) (by omega) _ (show 5000 * g ≤ _ by omega) (show _ < 5000 * g + 5000 by omega), q 110 (by omega) (by omega) _ (show 5000 * g ≤ _ by omega) (show _ < 5000 * g + 5000 by omega)⟩
    refine ⟨fun x y hxy => ?_, fun c hc p hp => ?_⟩
    · obtain ⟨c, hc, hn⟩ := id hxy
      rw [(hx c hc x (rd_nx_mem hn).1).1]
      exact e.1 x y hxy
    · rw [(hx c hc p.1 (List.mem_map.mpr ⟨p, hp, rfl⟩)).2]
      exact e.2 c hc p hp
variable {G : am_G} {σ : am_D}
theorem r_empties (d : Nat) {g : Int} (hg : 0 ≤ g ∧ g < 3) : am_MV G (d + 1) mX11_empties [am_r (some 91), am_i g] σ (fun σ' => am_only [118] σ σ' ∧ rr_fr g σ σ' ∧ ∀ r : Int, 0 ≤ r → r < 3 → σ'.1 118 (3 * g + r) = 0) := by
  refine am_M.go (by decide) (Nat.le_of_ble_eq_true rfl) rfl ?_
  refine S_X11_empties_0 ?_
  refine S_X11_empties_2 (by omega) (fun z => absurd z (by omega)) (fun _ => ?_)
  refine S_X11_empties_7 (by omega) (by omega) ?_
  refine S_X11_empties_18 ?_
  refine S_X11_empties_2 (by omega) (fun z => absurd z (by omega)) (fun _ => ?_)
  refine S_X11_empties_7 (by omega) (by omega) ?_
  refine S_X11_empties_18 ?_
  refine S_X11_empties_2 (by omega) (fun z => absurd z (by omega)) (fun _ => ?_)
  refine S_X11_empties_7 (by omega) (by omega) ?_
  refine S_X11_empties_18 ?_
  refine S_X11_empties_2 (by omega) (fun _ => ?_) (fun z => absurd (by omega) z)
  refine S_X11_empties_24 ⟨((am_only.pI (by simp)).trans (am_only.pI (by simp))).trans (am_only.pI (by simp)), ((rr_fr.pI (by decide) (show 3 * g ≤ _ ∧ _ < 3 * g + 3 by omega)).trans (rr_fr.pI (by decide) (show 3 * g ≤ _ ∧ _ < 3 * g + 3 by omega))).trans (rr_fr.pI (by decide) (show 3 * g ≤ _ ∧ _ < 3 * g + 3 by omega)), fun r r0 r1 => ?_⟩
  rw [am_pI_row, am_pI_row, am_pI_row]
  have hr : r = 0 ∨ r = 1 ∨ r = 2 := by omega
  rcases hr with rfl | rfl | rfl
  · rw [am_u1_ne (by omega), am_u1_ne (by omega), am_u1_eq]
  · rw [am_u1_ne (by omega), show 3 * g + 1 = 3 * g + (0 + 1) by omega, am_u1_eq]
  · rw [show 3 * g + 2 = 3 * g + (0 + 1 + 1) by omega, am_u1_eq]
theorem r_starts (d : Nat) {g : Int} (hg : 0 ≤ g ∧ g < 3) : am_MV G (d + 2) mX11_starts [am_r (some 91), am_i g] σ (fun σ' => rr_I σ' g rd_0 0 ∧ rr_fr g σ σ') := by
  refine am_M.go (by decide) (Nat.le_of_ble_eq_true rfl) rfl ?_
  refine S_X11_starts_0 hg.1 hg.2 ?_
  refine S_X11_starts_7 hg.1 hg.2 ?_
  refine S_X11_starts_14 hg.1 hg.2 ?_
  refine S_X11_starts_21 hg.1 hg.2 ?_
  refine S_X11_starts_28 (r_empties _ hg) ?_
  rintro τ ⟨o1, o2, o3⟩
  refine S_X11_starts_33 ⟨⟨⟨?_, ?_, ?_, ?_⟩, fun r r0 r1 => rd_rp_nil (o3 r r0 r1), trivial, ⟨fun x y ⟨c, hc, hx⟩ => ?_, fun c hc p hp => ?_⟩⟩, ?_⟩
  · rw [o1.1 113 (by decide), am_pI_of (by decide), am_pI_of (by decide), am_pI_row, am_u1_eq]; rfl
  · rw [o1.1 114 (by decide), am_pI_of (by decide), am_pI_row, am_u1_eq]; rfl
  · rw [o1.1 112 (by decide), am_pI_of (by decide), am_pI_of (by decide), am_pI_of (by decide), am_pI_row, am_u1_eq]; rfl
  · rw [o1.1 115 (by decide), am_pI_row, am_u1_eq]
  · have hc : c ∈ ([[], [], []] : List rd_ch) := hc
    have hc : c = [] := by simpa using hc
    subst hc
    exact absurd (rd_nx_mem hx).1 (by simp [rd_nd])
  · have hc : c ∈ ([[], [], []] : List rd_ch) := hc
    have hc : c = [] := by simpa using hc
    subst hc
    cases hp
  · exact ((((rr_fr.pI (by decide) (show 1 * g ≤ _ ∧ _ < 1 * g + 1 by omega)).trans (rr_fr.pI (by decide) (show 1 * g ≤ _ ∧ _ < 1 * g + 1 by omega))).trans (rr_fr.pI (by decide) (show 1 * g ≤ _ ∧ _ < 1 * g + 1 by omega))).trans (rr_fr.pI (by decide) (show 1 * g ≤ _ ∧ _ < 1 * g + 1 by omega))).trans o2
theorem r_heldBy (d : Nat) {P : am_P} {g mo : Int} {C : rd_C} (hg : 0 ≤ g ∧ g < 3) (hI : rd_I P C) (hl : ((rd_s C).length : Int) ≤ 260) (hu : rd_u C ≤ 5000) (h : rr_I σ g C mo) : am_MI G (d + 1) mX11_heldBy [am_r (some 91), am_i g] σ (fun x σ' => x = rd_held C ∧ σ = σ') := by
  obtain ⟨⟨a1, a2, a3, a4⟩, b, c, e⟩ := h
  have b0 := (b 0 (by omega) (by omega)).1
  have b1 := (b 1 (by omega) (by omega)).1
  have b2 := (b 2 (by omega) (by omega)).1
  have hlen := hI.lens
  have hl3 : rd_l3 (rd_r C) = (rd_r C 0).length + (rd_r C 1).length + (rd_r C 2).length := rfl
  refine am_M.go (by decide) (Nat.le_of_ble_eq_true rfl) rfl ?_
  refine S_X11_heldBy_0 ?_
  refine S_X11_heldBy_2 ?_
  refine S_X11_heldBy_4 (by omega) (fun z => absurd z (by omega)) (fun _ => ?_)
  refine S_X11_heldBy_9 (by omega) (by omega) ?_
  refine S_X11_heldBy_22 ?_
  refine S_X11_heldBy_4 (by omega) (fun z => absurd z (by omega)) (fun _ => ?_)
  refine S_X11_heldBy_9 (by omega) (by omega) ?_
  refine S_X11_heldBy_22 ?_
  refine S_X11_heldBy_4 (by omega) (fun z => absurd z (by omega)) (fun _ => ?_)
  refine S_X11_heldBy_9 (by omega) (by omega) ?_
  refine S_X11_heldBy_22 ?_
  refine S_X11_heldBy_4 (by omega) (fun _ => ?_) (fun z => absurd (by omega) z)
  refine S_X11_heldBy_28 ?_
  rw [b0, show 3 * g + (0 + 1) = 3 * g + 1 by omega, b1, show 3 * g + (0 + 1 + 1) = 3 * g + 2 by omega, b2]
  -- from the bottom of THE STACK up
  have loop : ∀ (n : Nat) (s top : List rd_fr) (v2 : Int), rd_s C = top ++ s → top.length = n → rr_S σ g (rd_s C) → v2 = (rd_l3 (rd_r C) : Nat) + (rd_ls s : Nat) → am_X (am_FI G (d + 1) (fun x σ' => x = rd_held C ∧ σ = σ')) mX11_heldBy (0, 0) 30 [some (am_r (some 91)), some (am_i g), some (am_i v2), some (am_i (3 * (s.length : Int)))] [] (am_K0, σ) := by
    intro n
    induction n with
    | zero =>
      intro s top v2 hst htl hS hv
      have ht : top = [] := List.eq_nil_of_length_eq_zero htl
      subst ht
      rw [List.nil_append] at hst
      subst hst
      refine S_X11_heldBy_30 hg.1 hg.2 (by omega) (by omega) (fun _ => ?_) (fun z => absurd (by omega) z)
      refine S_X11_heldBy_63 (by omega) ⟨?_, rfl⟩
      unfold rd_held
      rw [hv, Int.tdiv_eq_ediv_of_nonneg (by omega)]
      congr 1
    | succ n ih =>
      intro s top v2 hst htl hS hv
      -- the last of top
      rcases List.eq_nil_or_concat top with e | ⟨t, f, e⟩
      · rw [e] at htl; simp at htl
      rw [List.concat_eq_append] at e
      subst e
      have hst' : rd_s C = t ++ (f :: s) := by rw [hst, List.append_assoc]; rfl
      have hfr : ∀ (u : List rd_fr), rr_S σ g (u ++ f :: s) → rr_S σ g (f :: s) := by
        intro u
        induction u with
        | nil => intro h; exact h
        | cons x u ihu => intro h; exact ihu h.2
      have hf := (hfr t (by rw [← hst']; exact hS)).1.2.2
      have f0 := (hf 0 (by omega) (by omega)).1
      have f1 := (hf 1 (by omega) (by omega)).1
      have f2 := (hf 2 (by omega) (by omega)).1
      have hlt : (rd_s C).length = t.length + (s.length + 1) := by rw [hst', List.length_append]; rfl
      have hls : ∀ u : List rd_fr, rd_ls (f :: s) ≤ rd_ls (u ++ f :: s) := by
        intro u
        induction u with
        | nil => exact Nat.le_refl _
        | cons x u ihu => show _ ≤ rd_l3 x.2 + rd_ls (u ++ f :: s); omega
      have hls1 := hls t
      rw [← hst'] at hls1
      have hls2 : rd_ls (f :: s) = rd_l3 f.2 + rd_ls s := rfl
      have hf3 : rd_l3 f.2 = (f.2 0).length + (f.2 1).length + (f.2 2).length := rfl
      have fs : (((f :: s).length : Nat) : Int) = s.length + 1 := by rw [List.length_cons]; omega
      refine S_X11_heldBy_30 hg.1 hg.2 (by omega) (by omega) (fun z => absurd z (by omega)) (fun _ => ?_)
      refine S_X11_heldBy_42 (by omega) (by omega) ?_
      refine S_X11_heldBy_57 ?_
      refine S_X11_heldBy_30 hg.1 hg.2 (by omega) (by omega) (fun z => absurd z (by omega)) (fun _ => ?_)
      refine S_X11_heldBy_42 (by omega) (by omega) ?_
      refine S_X11_heldBy_57 ?_
      refine S_X11_heldBy_30 hg.1 hg.2 (by omega) (by omega) (fun z => absurd z (by omega)) (fun _ => ?_)
      refine S_X11_heldBy_42 (by omega) (by omega) ?_
      refine S_X11_heldBy_57 ?_
      rw [show 780 * g + 3 * (s.length : Int) = 3 * (260 * g + s.length) + 0 by omega, f0, show 780 * g + (3 * (s.length : Int) + 1) = 3 * (260 * g + s.length) + 1 by omega, f1, show 780 * g + (3 * (s.length : Int) + 1 + 1) = 3 * (260 * g + s.length) + 2 by omega, f2]
      have := ih (f :: s) t (v2 + ((f.2 0).length : Nat) + ((f.2 1).length : Nat) + ((f.2 2).length : Nat)) hst' (by simpa using htl) hS (by rw [hv, hls2, hf3]; omega)
      rw [fs, show 3 * ((s.length : Int) + 1) = 3 * (s.length : Int) + 1 + 1 + 1 by omega] at this
      exact this
  have := loop (rd_s C).length [] (rd_s C) (0 + ((rd_r C 0).length : Nat) + ((rd_r C 1).length : Nat) + ((rd_r C 2).length : Nat)) (by simp) rfl c (by rw [hl3]; show _ = _ + ((0 : Nat) : Int); omega)
  exact this
end
