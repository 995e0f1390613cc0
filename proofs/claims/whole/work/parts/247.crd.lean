section
/-! Readers of the class: snapshots. -/
def cd_k (a : Nat) : Int := if a = 12 then 400 else if a = 16 then 40 else 246
theorem cd_sz {a : Nat} (h : am_isR a) : (am_rc a : Int) = (2 * cd_k a + 1) * 16 ∧ (am_rs a : Int) = 12 * (cd_k a + 1) ∧ 40 ≤ cd_k a ∧ cd_k a ≤ 400 ∧ a ≤ 20 := by
  rcases h with rfl | rfl | rfl <;> decide
/-- the cells of snapshot i -/
def cd_X (τ : am_D) (a : Nat) (R : Int) (i : Nat) (C : rd_C) (m : Int) : Prop :=
  (τ.1 (a + 1) ((i : Int) * 16 + 0) = rd_q C ∧ τ.1 (a + 1) ((i : Int) * 16 + 1) = (rd_s C).length ∧ τ.1 (a + 1) ((i : Int) * 16 + 2) = rd_held C ∧ τ.1 (a + 1) ((i : Int) * 16 + 3) = m ∧ τ.1 (a + 1) ((i : Int) * 16 + 6) = rd_u C) ∧
  ∀ r : Int, 0 ≤ r → r < R → rd_rp 0 (rd_r C r) (τ.1 (a + 1) ((i : Int) * 16 + 7 + 3 * r)) (τ.1 (a + 1) ((i : Int) * 16 + 7 + 3 * r + 1)) (τ.1 (a + 1) ((i : Int) * 16 + 7 + 3 * r + 2))
def cd_V (τ : am_D) (a : Nat) (cf : Nat → rd_C × Int) (i : Nat) : List rd_fr → Prop
  | [] => τ.1 (a + 1) ((i : Int) * 16 + 4) = -1 ∧ τ.1 (a + 1) ((i : Int) * 16 + 5) = -1
  | f :: s => τ.1 (a + 1) ((i : Int) * 16 + 5) = f.1.1 * 6 + f.1.2 ∧ ∃ j : Nat, j < i ∧ τ.1 (a + 1) ((i : Int) * 16 + 4) = (j : Int) * 16 ∧ rd_r (cf j).1 = f.2 ∧ rd_s (cf j).1 = s
/-- the Reader's MACHINE -/
def cd_M (τ : am_D) (m : Nat) (P : am_P) : Prop := am_isM m ∧ cm_T τ m P ∧ cm_N τ m (pm_n P) ∧ pm_ok P ∧ pm_wf P
/-- snapshots of a run -/
def cd_H (τ : am_D) (a : Nat) (P : am_P) (w : List Int) (cf : Nat → rd_C × Int) : Prop := ∀ i : Nat, i ≤ w.length → rd_run P (w.take i) rd_0 0 = some (cf i) ∧ cd_X τ a (pm_R P) i (cf i).1 (cf i).2 ∧ cd_V τ a cf i (rd_s (cf i).1) ∧ rd_G 0 (τ.1 (a + 3)) (τ.1 (a + 2)) (rd_all (cf i).1)
def cd_I (τ : am_D) (a m : Nat) (P : am_P) (w : List Int) : Prop := τ.2.2 a 4 = some m ∧ cd_M τ m P ∧ (τ.1 a 5 = w.length ∧ (∀ e ∈ w, 0 ≤ e ∧ e ≤ 3) ∧ (w.length : Int) ≤ 2 * cd_k a ∧ (rd_c3n w : Int) ≤ cd_k a) ∧ ∃ cf, cd_H τ a P w cf
theorem cm_T_of {σ τ : am_D} {m : Nat} {P : am_P} (h : ∀ b, m ≤ b → b ≤ m + 7 → τ.1 b = σ.1 b) (hT : cm_T σ m P) : cm_T τ m P := by
  obtain ⟨a, b, c, e⟩ := hT
  have hx : ∀ e w, cm_X σ m e w → cm_X τ m e w := fun e w => cm_X_of (h _ (by omega) (by omega)) (h _ (by omega) (by omega)) (by rw [h m (by omega) (by omega)]) (by rw [h m (by omega) (by omega)])
  unfold cm_T
  rw [h m (by omega) (by omega), h (m + 1) (by omega) (by omega), h (m + 2) (by omega) (by omega), h (m + 3) (by omega) (by omega), h (m + 4) (by omega) (by omega), h (m + 5) (by omega) (by omega)]
  exact ⟨a, b, fun l q k x1 x2 x3 x4 x5 x6 => ⟨(c l q k x1 x2 x3 x4 x5 x6).1, fun z i hi => hx _ _ ((c l q k x1 x2 x3 x4 x5 x6).2 z i hi)⟩, fun q x1 x2 => cm_XE_mono hx (e q x1 x2)⟩
theorem cd_M_of {σ τ : am_D} {m : Nat} {P : am_P} (h : ∀ b, m ≤ b → b ≤ m + 7 → τ.1 b = σ.1 b) (hM : cd_M σ m P) : cd_M τ m P := by
  obtain ⟨h1, h2, h3, h4⟩ := hM
  refine ⟨h1, cm_T_of h h2, ?_, h4⟩
  unfold cm_N at h3 ⊢
  rw [h m (by omega) (by omega), h (m + 7) (by omega) (by omega)]
  exact h3
theorem cd_M.b {τ : am_D} {m : Nat} {P : am_P} (h : cd_M τ m P) : τ.1 m 14 ≤ 72 ∧ τ.1 m 15 ≤ 432 := by
  obtain ⟨-, -, ⟨h1, h2, h3, h4, -⟩, ⟨-, -, ⟨-, -, -, h5⟩, -⟩, -⟩ := h
  omega
/-- rows apart from the Reader's and the MACHINE's do not matter -/
theorem cd_I.of {σ τ : am_D} {a m : Nat} {P : am_P} {w : List Int} (h : ∀ b, (a ≤ b ∧ b ≤ a + 3) ∨ (m ≤ b ∧ b ≤ m + 7) → τ.1 b = σ.1 b) (hr : τ.2.2 a 4 = σ.2.2 a 4) (hI : cd_I σ a m P w) : cd_I τ a m P w := by
  obtain ⟨h1, h2, h3, cf, h4⟩ := hI
  refine ⟨hr.trans h1, cd_M_of (fun b y1 y2 => h b (Or.inr ⟨y1, y2⟩)) h2, by rw [h a (by omega)]; exact h3, cf, fun i hi => ?_⟩
  obtain ⟨x1, x2, x3, x4⟩ := h4 i hi
  have e1 := h (a + 1) (by omega)
  refine ⟨x1, ?_, ?_, by rw [h (a + 3) (by omega), h (a + 2) (by omega)]; exact x4⟩
  · unfold cd_X; rw [e1]; exact x2
  · generalize rd_s (cf i).1 = s at x3 ⊢
    cases s with
    | nil => show τ.1 (a + 1) _ = -1 ∧ τ.1 (a + 1) _ = -1; rw [e1]; exact x3
    | cons f s => show τ.1 (a + 1) _ = _ ∧ ∃ j : Nat, j < i ∧ τ.1 (a + 1) _ = _ ∧ _ ∧ _; rw [e1]; exact x3
theorem rd_run_held {P : am_P} : ∀ (w : List Int) (C C' : rd_C) (m m' : Int), rd_held C ≤ m → rd_run P w C m = some (C', m') → rd_held C' ≤ m' := by
  intro w
  induction w with
  | nil => intro C C' m m' h e; injection e with e; injection e with e1 e2; subst e1; subst e2; exact h
  | cons x w ih =>
    intro C C' m m' h e
    unfold rd_run at e
    cases hs : rd_step P C x with
    | none => rw [hs] at e; exact nomatch e
    | some C1 => rw [hs] at e; exact ih C1 C' _ m' (by omega) e
theorem rd_held_0 : rd_held rd_0 = 0 := rfl
theorem rd_open_eq {P : am_P} {C C' : rd_C} {l : Int} (h : rd_open P C l = some C') : pm_oT P l (rd_q C) ≠ -1 ∧ C' = ((pm_oT P l (rd_q C), rd_u C), (((l, pm_oM P l (rd_q C)), rd_r C) :: rd_s C, rd_nil)) := by
  unfold rd_open at h
  by_cases z : pm_oT P l (rd_q C) = -1
  · rw [if_pos z] at h; exact nomatch h
  · rw [if_neg z] at h; injection h with h; exact ⟨z, h.symm⟩
theorem rd_G_open {P : am_P} {C C' : rd_C} {l o : Int} {f g : Int → Int} (h : rd_open P C l = some C') (hG : rd_G o f g (rd_all C)) : rd_G o f g (rd_all C') := by
  obtain ⟨-, rfl⟩ := rd_open_eq h
  have hall : rd_all ((pm_oT P l (rd_q C), rd_u C), (((l, pm_oM P l (rd_q C)), rd_r C) :: rd_s C, rd_nil)) = [[], [], []] ++ rd_all C := by
    show rd_c3 rd_nil ++ (((l, pm_oM P l (rd_q C)), rd_r C) :: rd_s C).flatMap (fun f => rd_c3 f.2) = _
    rw [List.flatMap_cons]
    rfl
  rw [hall]
  refine ⟨fun x y ⟨c, hc, hx⟩ => ?_, fun c hc p hp => ?_⟩
  · rcases List.mem_append.mp hc with hc | hc
    · have hc : c = [] := by simpa using hc
      subst hc
      exact absurd (rd_nx_mem hx).1 (by simp [rd_nd])
    · exact hG.1 x y ⟨c, hc, hx⟩
  · rcases List.mem_append.mp hc with hc | hc
    · have hc : c = [] := by simpa using hc
      subst hc
      cases hp
    · exact hG.2 c hc p hp
theorem rd_held_open {P : am_P} {C C' : rd_C} {l : Int} (h : rd_open P C l = some C') : rd_held C' = rd_held C := by
  obtain ⟨-, rfl⟩ := rd_open_eq h
  show ((0 + (rd_l3 (rd_r C) + rd_ls (rd_s C)) : Nat) : Int) / 2 = ((rd_l3 (rd_r C) + rd_ls (rd_s C) : Nat) : Int) / 2
  rw [Nat.zero_add]
/-- one snapshot more -/
theorem cd_H_snoc {σ τ : am_D}  {a : Nat} {P : am_P} {w : List Int} {e mo : Int} {C C' : rd_C} {cf : Nat → rd_C × Int} (hR3 : pm_R P ≤ 3) (hH : cd_H σ a P w cf) (hC : cf w.length = (C, mo)) (hs : rd_step P C e = some C') (hc : ∀ k : Int, k < ((w.length : Int) + 1) * 16 → τ.1 (a + 1) k = σ.1 (a + 1) k) (hX : cd_X τ a (pm_R P) (w.length + 1) C' (max mo (rd_held C'))) (hV : cd_V τ a cf (w.length + 1) (rd_s C')) (hG : ∀ i : Nat, i ≤ w.length → rd_G 0 (τ.1 (a + 3)) (τ.1 (a + 2)) (rd_all (cf i).1)) (hG' : rd_G 0 (τ.1 (a + 3)) (τ.1 (a + 2)) (rd_all C')) : ∃ cf', cd_H τ a P (w ++ [e]) cf' := by
  obtain ⟨cf', c1, c2⟩ : ∃ cf' : Nat → rd_C × Int, (∀ i, i ≤ w.length → cf' i = cf i) ∧ cf' (w.length + 1) = (C', max mo (rd_held C')) := ⟨fun i => if i ≤ w.length then cf i else (C', max mo (rd_held C')), fun i hi => if_pos hi, if_neg (by omega)⟩
  refine ⟨cf', ?_⟩
  have hcV : ∀ (i : Nat) (s : List rd_fr), i ≤ w.length + 1 → cd_V τ a cf i s → cd_V τ a cf' i s := by
    intro i s hi h
    cases s with
    | nil => exact h
    | cons f s =>
      obtain ⟨y1, j, y2, y3, y4, y5⟩ := h
      refine ⟨y1, j, y2, y3, ?_, ?_⟩
      · rw [c1 j (by omega)]; exact y4
      · rw [c1 j (by omega)]; exact y5
  intro i hi
  rw [List.length_append] at hi
  have hi : i ≤ w.length + 1 := hi
  by_cases z : i ≤ w.length
  · obtain ⟨x1, x2, x3, x4⟩ := hH i z
    have z2 : (i : Int) * 16 + 16 ≤ ((w.length : Int) + 1) * 16 := by omega
    refine ⟨?_, ?_, ?_, ?_⟩
    · rw [c1 i z, List.take_append_of_le_length z]; exact x1
    · rw [c1 i z]
      obtain ⟨⟨q0, q1, q2, q3, q6⟩, qr⟩ := x2
      refine ⟨⟨by rw [hc _ (by omega)]; exact q0, by rw [hc _ (by omega)]; exact q1, by rw [hc _ (by omega)]; exact q2, by rw [hc _ (by omega)]; exact q3, by rw [hc _ (by omega)]; exact q6⟩, fun r r0 r1 => ?_⟩
      rw [hc _ (by omega), hc _ (by omega), hc _ (by omega)]
      exact qr r r0 r1
    · rw [c1 i z]
      refine hcV i _ (by omega) ?_
      generalize rd_s (cf i).1 = s at x3 ⊢
      cases s with
      | nil => exact ⟨by rw [hc _ (by omega)]; exact x3.1, by rw [hc _ (by omega)]; exact x3.2⟩
      | cons f s =>
        obtain ⟨y1, j, y2, y3, y4, y5⟩ := x3
        exact ⟨by rw [hc _ (by omega)]; exact y1, j, y2, by rw [hc _ (by omega)]; exact y3, y4, y5⟩
    · rw [c1 i z]; exact hG i z
  · have hi : i = w.length + 1 := by omega
    subst hi
    obtain ⟨x1, -, -, -⟩ := hH w.length (Nat.le_refl _)
    rw [List.take_length, hC] at x1
    refine ⟨?_, ?_, ?_, ?_⟩
    · rw [c2, show (w ++ [e]).take (w.length + 1) = w ++ [e] from by rw [List.take_of_length_le (by simp)]]
      exact rd_run_snoc x1 hs
    · rw [c2]; exact hX
    · rw [c2]; exact hcV _ _ (Nat.le_refl _) hV
    · rw [c2]; exact hG'
end
