section
/-! What holds of every READING. -/
def rd_bal : Int → List Int → Prop
  | d, [] => d = 0
  | d, s :: w => if s < 3 then rd_bal (d + 1) w else if s = 3 then 0 < d ∧ rd_bal (d - 1) w else rd_bal d w
theorem rd_bal_app : ∀ (v : List Int) {a d : Int} {w : List Int}, 0 ≤ d → rd_bal a v → rd_bal d w → rd_bal (a + d) (v ++ w) := by
  intro v
  induction v with
  | nil => intro a d w hd hv hw; have hv : a = 0 := hv; subst hv; rw [Int.zero_add]; exact hw
  | cons s v ih =>
    intro a d w hd hv hw
    unfold rd_bal at hv
    show rd_bal (a + d) (s :: (v ++ w))
    unfold rd_bal
    by_cases z : s < 3
    · rw [if_pos z] at hv ⊢
      have := ih hd hv hw
      rwa [show a + 1 + d = a + d + 1 by omega] at this
    · rw [if_neg z] at hv ⊢
      by_cases y : s = 3
      · rw [if_pos y] at hv ⊢
        have := ih hd hv.2 hw
        rw [show a - 1 + d = a + d - 1 by omega] at this
        exact ⟨by omega, this⟩
      · rw [if_neg y] at hv ⊢
        exact ih hd hv hw
theorem rd_bal_even : ∀ (w : List Int) (d : Int), (∀ s ∈ w, 0 ≤ s ∧ s ≤ 3) → rd_bal d w → ((w.length : Int) + d) % 2 = 0 := by
  intro w
  induction w with
  | nil => intro d _ h; have h : d = 0 := h; subst h; rfl
  | cons s w ih =>
    intro d hs h
    unfold rd_bal at h
    have h1 := hs s List.mem_cons_self
    have h2 : ∀ t ∈ w, 0 ≤ t ∧ t ≤ 3 := fun t ht => hs t (List.mem_cons_of_mem _ ht)
    rw [List.length_cons]
    by_cases z : s < 3
    · rw [if_pos z] at h
      have := ih _ h2 h
      omega
    · rw [if_neg z, if_pos (by omega)] at h
      have := ih _ h2 h.2
      omega
/-- ELEMENTS and CLOSES of an EXPRESSION are as many -/
theorem rd_bal_cnt : ∀ (w : List Int) (d : Int), rd_bal d w → ((w.countP (· < 3) : Nat) : Int) + d = ((w.countP (· = 3) : Nat) : Int) := by
  intro w
  induction w with
  | nil => intro d h; have h : d = 0 := h; subst h; rfl
  | cons s w ih =>
    intro d h
    unfold rd_bal at h
    rw [List.countP_cons, List.countP_cons]
    by_cases z : s < 3
    · rw [if_pos z] at h
      have := ih _ h
      rw [if_pos (by simpa using z), if_neg (by simp; omega)]
      omega
    · rw [if_neg z] at h
      rw [if_neg (by simpa using z)]
      by_cases y : s = 3
      · rw [if_pos y] at h
        have := ih _ h.2
        rw [if_pos (by simpa using y)]
        omega
      · rw [if_neg y] at h
        have := ih _ h
        rw [if_neg (by simpa using y)]
        omega
def pm_ex (R : Int) (stk : Bool) (w : List Int) : Prop := (∀ s ∈ w, (0 ≤ s ∧ s ≤ 3) ∨ (4 ≤ s ∧ s < 4 + R) ∨ (stk = true ∧ 8 ≤ s ∧ s < 8 + R)) ∧ (w.filter (fun s => decide (4 ≤ s))).Nodup ∧ w.countP (· < 3) ≤ 6
/-- the EXPRESSIONS of a MACHINE are well made -/
def pm_wf (P : am_P) : Prop := (∀ l q k, pm_cT P l q k ≠ -1 → pm_ex (pm_R P) true (pm_cX P l q k).flatten ∧ ∀ w ∈ pm_cX P l q k, rd_bal 0 w) ∧ ∀ q w, pm_eX P q = some w → pm_ex (pm_R P) false w ∧ rd_bal 0 w
theorem rd_bal_flat : ∀ (ws : List (List Int)), (∀ w ∈ ws, rd_bal 0 w) → rd_bal 0 ws.flatten := by
  intro ws
  induction ws with
  | nil => intro _; exact rfl
  | cons w ws ih =>
    intro h
    rw [List.flatten_cons]
    have := rd_bal_app w (d := 0) (Int.le_refl _) (h w List.mem_cons_self) (ih (fun v hv => h v (List.mem_cons_of_mem _ hv)))
    rwa [Int.add_zero] at this
theorem rd_cnt4 (w : List Int) : w.countP (· < 4) = w.countP (· < 3) + w.countP (· = 3) := by
  induction w with
  | nil => rfl
  | cons s w ih =>
    rw [List.countP_cons, List.countP_cons, List.countP_cons, ih]
    by_cases z : s < 3
    · rw [if_pos (by simp; omega), if_pos (by simpa using z), if_neg (by simp; omega)]; omega
    · by_cases y : s = 3
      · rw [if_pos (by simp; omega), if_neg (by simpa using z), if_pos (by simpa using y)]; omega
      · rw [if_neg (by simp; omega), if_neg (by simpa using z), if_neg (by simpa using y)]; omega
theorem pm_ex_12 {R : Int} {stk : Bool} {w : List Int} (h : pm_ex R stk w) (hb : rd_bal 0 w) : w.countP (· < 4) ≤ 12 := by
  have h1 := rd_bal_cnt w 0 hb
  have h2 := rd_cnt4 w
  have h3 := h.2.2
  omega
-- the rows' signs
def rd_sg (c : rd_ch) : List Int := c.map Prod.snd
/-- a row of ELEMENTS -/
def rd_el (c : rd_ch) : Prop := (∀ s ∈ rd_sg c, 0 ≤ s ∧ s ≤ 3) ∧ rd_bal 0 (rd_sg c)
theorem rd_ev_bal {X Y : rd_rg} : ∀ (w : List Int) (u d : Int), 0 ≤ d → rd_bal d w → (∀ s ∈ w, 0 ≤ s) → (∀ s ∈ w, 4 ≤ s → rd_el (rd_cp X Y s)) → (∀ s ∈ rd_sg (rd_ev X Y w ([], u)).1, 0 ≤ s ∧ s ≤ 3) ∧ rd_bal d (rd_sg (rd_ev X Y w ([], u)).1) := by
  intro w
  induction w with
  | nil => intro u d hd hb _ _; exact ⟨fun s hs => (by cases hs), hb⟩
  | cons s w ih =>
    intro u d hd hb h0 hc
    have h0' : ∀ t ∈ w, 0 ≤ t := fun t ht => h0 t (List.mem_cons_of_mem _ ht)
    have hc' : ∀ t ∈ w, 4 ≤ t → rd_el (rd_cp X Y t) := fun t ht => hc t (List.mem_cons_of_mem _ ht)
    have hs0 := h0 s List.mem_cons_self
    unfold rd_bal at hb
    show (∀ t ∈ rd_sg (rd_ev X Y w (rd_e1 X Y s ([], u))).1, 0 ≤ t ∧ t ≤ 3) ∧ rd_bal d (rd_sg (rd_ev X Y w (rd_e1 X Y s ([], u))).1)
    unfold rd_e1
    by_cases z : s < 4
    · rw [if_pos z, (rd_ev_acc w _ (u + 1)).1]
      have e : rd_sg ([] ++ [(u, s)] ++ (rd_ev X Y w ([], u + 1)).1) = s :: rd_sg (rd_ev X Y w ([], u + 1)).1 := by simp [rd_sg]
      rw [e]
      unfold rd_bal
      by_cases y : s < 3
      · rw [if_pos y] at hb ⊢
        have h := ih (u + 1) (d + 1) (by omega) hb h0' hc'
        refine ⟨fun t ht => ?_, h.2⟩
        rcases List.mem_cons.mp ht with e | ht
        · omega
        · exact h.1 t ht
      · rw [if_neg y, if_pos (by omega)] at hb
        rw [if_neg y, if_pos (by omega)]
        have h := ih (u + 1) (d - 1) (by omega) hb.2 h0' hc'
        refine ⟨fun t ht => ?_, hb.1, h.2⟩
        rcases List.mem_cons.mp ht with e | ht
        · omega
        · exact h.1 t ht
    · rw [if_neg z, (rd_ev_acc w _ u).1]
      rw [if_neg (by omega), if_neg (by omega)] at hb
      have e : rd_sg ([] ++ rd_cp X Y s ++ (rd_ev X Y w ([], u)).1) = rd_sg (rd_cp X Y s) ++ rd_sg (rd_ev X Y w ([], u)).1 := by simp [rd_sg]
      rw [e]
      have h := ih u d hd hb h0' hc'
      have h4 := hc s List.mem_cons_self (by omega)
      refine ⟨fun t ht => ?_, ?_⟩
      · rcases List.mem_append.mp ht with ht | ht
        · exact h4.1 t ht
        · exact h.1 t ht
      · have := rd_bal_app _ hd h4.2 h.2
        rwa [Int.zero_add] at this
/-- a row without repetition of numbers below n has n at most -/
theorem rd_pig : ∀ (n : Nat) (l : List Int), l.Nodup → (∀ x ∈ l, 0 ≤ x ∧ x < n) → l.length ≤ n := by
  intro n
  induction n with
  | zero =>
    intro l _ h
    cases l with
    | nil => exact Nat.le_refl _
    | cons x l => have := h x List.mem_cons_self; omega
  | succ n ih =>
    intro l hn h
    by_cases hx : (n : Int) ∈ l
    · obtain ⟨a, b, rfl⟩ := List.append_of_mem hx
      have h1 := List.nodup_append.mp hn
      have h2 := List.nodup_cons.mp h1.2.1
      have h3 : (a ++ b).Nodup := List.nodup_append.mpr ⟨h1.1, h2.2, fun x hx y hy => h1.2.2 x hx y (List.mem_cons_of_mem _ hy)⟩
      have h4 := ih (a ++ b) h3 (fun x hx => by
        have hne : x ≠ n := by
          rcases List.mem_append.mp hx with hx | hx
          · exact h1.2.2 x hx n List.mem_cons_self
          · intro e; subst e; exact h2.1 hx
        have := h x (by
          rcases List.mem_append.mp hx with hx | hx
          · exact List.mem_append_left _ hx
          · exact List.mem_append_right _ (List.mem_cons_of_mem _ hx))
        omega)
      simp only [List.length_append, List.length_cons] at h4 ⊢
      omega
    · have := ih l hn (fun x hx' => by
        have := h x hx'
        have hne : x ≠ n := fun e => hx (e ▸ hx')
        omega)
      omega
/-- as many nodes as there are used ones, at most -/
theorem rd_ap_len {L : List rd_ch} {u : Int} (hu : 0 ≤ u) (h : rd_ap L u) : (L.flatten.length : Int) ≤ u := by
  have hf : (L.flatten.map Prod.fst).Nodup := by
    rw [List.map_flatten]
    refine List.pairwise_flatten.mpr ⟨?_, ?_⟩
    · intro l hl
      obtain ⟨c, hc, rfl⟩ := List.mem_map.mp hl
      exact (h.1 c hc).1
    · rw [List.pairwise_map]
      refine h.2.imp ?_
      intro c c' hcc x hx y hy e
      subst e
      exact hcc x hx hy
  have := rd_pig u.toNat _ hf (fun x hx => by
    rw [List.map_flatten] at hx
    obtain ⟨l, hl, hx⟩ := List.mem_flatten.mp hx
    obtain ⟨c, hc, rfl⟩ := List.mem_map.mp hl
    have := (h.1 c hc).2 x hx
    omega)
  rw [List.length_map] at this
  omega
theorem rd_all_len (C : rd_C) : (rd_all C).flatten.length = rd_l3 (rd_r C) + rd_ls (rd_s C) := by
  unfold rd_all
  rw [List.flatten_append, List.length_append]
  have h1 : ∀ x : rd_rg, (rd_c3 x).flatten.length = rd_l3 x := by
    intro x
    unfold rd_c3 rd_l3
    simp
    omega
  have h2 : ∀ s : List rd_fr, (s.flatMap (fun f => rd_c3 f.2)).flatten.length = rd_ls s := by
    intro s
    induction s with
    | nil => rfl
    | cons f s ih =>
      rw [List.flatMap_cons, List.flatten_append, List.length_append, h1, ih]
      rfl
  rw [h1, h2]
/-- what holds behind READ EVENTS -/
def rd_I (P : am_P) (C : rd_C) : Prop := (0 ≤ rd_q C ∧ rd_q C < pm_S P) ∧ (∀ f ∈ rd_s C, (0 ≤ f.1.1 ∧ f.1.1 ≤ 2) ∧ (0 ≤ f.1.2 ∧ f.1.2 ≤ 5) ∧ ∀ r, r < 0 ∨ pm_R P ≤ r → f.2 r = []) ∧ (∀ r, r < 0 ∨ pm_R P ≤ r → rd_r C r = []) ∧ 0 ≤ rd_u C ∧ rd_ap (rd_all C) (rd_u C) ∧ ∀ c ∈ rd_all C, rd_el c
theorem rd_I_0 {P : am_P} (hP : pm_ok P) : rd_I P rd_0 := by
  refine ⟨⟨Int.le_refl _, ?_⟩, fun f hf => (by cases hf), fun r _ => rfl, Int.le_refl _, ⟨fun c hc => ?_, ?_⟩, fun c hc => ?_⟩
  · show (0 : Int) < pm_S P
    have := hP.1
    omega
  · have hc : c ∈ ([[], [], []] : List rd_ch) := hc
    have : c = [] := by simpa using hc
    subst this
    exact ⟨List.nodup_nil, fun x hx => (by cases hx)⟩
  · show List.Pairwise _ [[], [], []]
    simp [rd_nd]
  · have hc : c ∈ ([[], [], []] : List rd_ch) := hc
    have : c = [] := by simpa using hc
    subst this
    exact ⟨fun s hs => (by cases hs), rfl⟩
/-- the six rows of registers and of the last MARK -/
theorem rd_six {X Y : rd_rg} {R s : Int} {w : List Int} (hR : R ≤ 3) (hw : pm_ex R true w) (hs : s ∈ w) (h4 : 4 ≤ s) : ∃ i : Nat, i < 6 ∧ (rd_c3 X ++ rd_c3 Y)[i]? = some (rd_cp X Y s) ∧ ((s < 8 → (i : Int) = s - 4) ∧ (8 ≤ s → (i : Int) = s - 5)) ∧ (s < 8 ↔ i < 3) := by
  have h := hw.1 s hs
  have hc : s = 4 ∨ s = 5 ∨ s = 6 ∨ s = 8 ∨ s = 9 ∨ s = 10 := by omega
  rcases hc with rfl | rfl | rfl | rfl | rfl | rfl
  · exact ⟨0, by omega, rfl, by omega, by omega⟩
  · exact ⟨1, by omega, rfl, by omega, by omega⟩
  · exact ⟨2, by omega, rfl, by omega, by omega⟩
  · exact ⟨3, by omega, rfl, by omega, by omega⟩
  · exact ⟨4, by omega, rfl, by omega, by omega⟩
  · exact ⟨5, by omega, rfl, by omega, by omega⟩
theorem rd_pt_of {X Y : rd_rg} {R u : Int} {w : List Int} (hR : R ≤ 3) (hw : pm_ex R true w) (h : rd_ap (rd_c3 X ++ rd_c3 Y) u) : rd_pt X Y w u := by
  refine ⟨hw.2.1, fun s hs h4 => ?_, fun s hs t ht h4 h4' hne x hx hy => ?_⟩
  · obtain ⟨i, hi, e, -⟩ := rd_six (X := X) (Y := Y) hR hw hs h4
    exact h.1 _ (List.mem_of_getElem? e)
  · obtain ⟨i, hi, e, e1, e2⟩ := rd_six (X := X) (Y := Y) hR hw hs h4
    obtain ⟨j, hj, g, g1, g2⟩ := rd_six (X := X) (Y := Y) hR hw ht h4'
    have hij : i ≠ j := by omega
    have hp := List.pairwise_iff_getElem.mp h.2
    obtain ⟨hi', ei⟩ := List.getElem?_eq_some_iff.mp e
    obtain ⟨hj', ej⟩ := List.getElem?_eq_some_iff.mp g
    rcases Nat.lt_or_gt_of_ne hij with z | z
    · have := hp i j hi' hj' z x (by rw [ei]; exact hx)
      rw [ej] at this
      exact this hy
    · have := hp j i hj' hi' z x (by rw [ej]; exact hy)
      rw [ei] at this
      exact this hx
theorem rd_c3_mem {X : rd_rg} {c : rd_ch} : c ∈ rd_c3 X ↔ c = X 0 ∨ c = X 1 ∨ c = X 2 := by simp [rd_c3]
/-- each row of the EXPRESSIONS, by its own one -/
theorem rd_es_get {X Y : rd_rg} : ∀ (ws : List (List Int)) (cs : List rd_ch) (u : Int) (c : rd_ch), c ∈ (rd_es X Y ws cs u).1 → c ∈ cs ∨ ∃ w ∈ ws, ∃ v, u ≤ v ∧ c = (rd_ev X Y w ([], v)).1 := by
  intro ws
  induction ws with
  | nil => intro cs u c h; exact Or.inl h
  | cons w ws ih =>
    intro cs u c h
    have hu := rd_ev_u (X := X) (Y := Y) w ([], u)
    have hu : (rd_ev X Y w ([], u)).2 = u + _ := hu
    rcases ih _ _ c h with h | ⟨v, hv, x, hx, e⟩
    · rcases List.mem_append.mp h with h | h
      · exact Or.inl h
      · have h : c = (rd_ev X Y w ([], u)).1 := by simpa using h
        exact Or.inr ⟨w, List.mem_cons_self, u, Int.le_refl _, h⟩
    · exact Or.inr ⟨v, List.mem_cons_of_mem _ hv, x, by omega, e⟩
/-- what is live, what stands behind what -/
def rd_lv (L : List rd_ch) (x : Int) : Prop := ∃ c ∈ L, x ∈ rd_nd c
def rd_nl (L : List rd_ch) (x y : Int) : Prop := ∃ c ∈ L, rd_nx (rd_nd c) x y
theorem rd_rs_mem {cs : List rd_ch} {c : rd_ch} (h : c ∈ rd_c3 (rd_rs cs)) : c = [] ∨ c ∈ cs := by
  have key : ∀ i : Nat, cs.getD i [] = [] ∨ cs.getD i [] ∈ cs := by
    intro i
    rw [List.getD_eq_getElem?_getD]
    cases e : cs[i]? with
    | none => exact Or.inl rfl
    | some d => exact Or.inr (List.mem_of_getElem? e)
  rcases rd_c3_mem.mp h with e | e | e
  · rw [e]; exact key 0
  · rw [e]; exact key 1
  · rw [e]; exact key 2
end
