section
/-! READINGS: what a MACHINE does with nodes of rows, node by node. -/
abbrev rd_ch : Type := List (Int × Int)
abbrev rd_rg : Type := Int → rd_ch
abbrev rd_fr : Type := (Int × Int) × rd_rg
abbrev rd_C : Type := (Int × Int) × (List rd_fr × rd_rg)
abbrev rd_q (C : rd_C) : Int := C.1.1
abbrev rd_u (C : rd_C) : Int := C.1.2
abbrev rd_s (C : rd_C) : List rd_fr := C.2.1
abbrev rd_r (C : rd_C) : rd_rg := C.2.2
def rd_nil : rd_rg := fun _ => []
def rd_0 : rd_C := ((0, 0), ([], rd_nil))
def rd_cp (X Y : rd_rg) (s : Int) : rd_ch := if s < 8 then X (s - 4) else Y (s - 8)
def rd_e1 (X Y : rd_rg) (s : Int) (a : rd_ch × Int) : rd_ch × Int := if s < 4 then (a.1 ++ [(a.2, s)], a.2 + 1) else (a.1 ++ rd_cp X Y s, a.2)
def rd_ev (X Y : rd_rg) : List Int → rd_ch × Int → rd_ch × Int
  | [], a => a
  | s :: w, a => rd_ev X Y w (rd_e1 X Y s a)
def rd_es (X Y : rd_rg) : List (List Int) → List rd_ch → Int → List rd_ch × Int
  | [], cs, u => (cs, u)
  | w :: ws, cs, u => rd_es X Y ws (cs ++ [(rd_ev X Y w ([], u)).1]) (rd_ev X Y w ([], u)).2
def rd_rs (cs : List rd_ch) : rd_rg := fun r => if 0 ≤ r then cs.getD r.toNat [] else []
def rd_open (P : am_P) (C : rd_C) (l : Int) : Option rd_C := if pm_oT P l (rd_q C) = -1 then none else some ((pm_oT P l (rd_q C), rd_u C), (((l, pm_oM P l (rd_q C)), rd_r C) :: rd_s C, rd_nil))
def rd_shut (P : am_P) (C : rd_C) (f : rd_fr) (s : List rd_fr) : Option rd_C := if pm_cT P f.1.1 (rd_q C) f.1.2 = -1 then none else some ((pm_cT P f.1.1 (rd_q C) f.1.2, (rd_es (rd_r C) f.2 (pm_cX P f.1.1 (rd_q C) f.1.2) [] (rd_u C)).2), (s, rd_rs (rd_es (rd_r C) f.2 (pm_cX P f.1.1 (rd_q C) f.1.2) [] (rd_u C)).1))
def rd_close (P : am_P) (C : rd_C) : Option rd_C := match rd_s C with
  | [] => none
  | f :: s => rd_shut P C f s
def rd_step (P : am_P) (C : rd_C) (e : Int) : Option rd_C := if e = 3 then rd_close P C else rd_open P C e
def rd_l3 (x : rd_rg) : Nat := (x 0).length + (x 1).length + (x 2).length
def rd_ls : List rd_fr → Nat
  | [] => 0
  | f :: s => rd_l3 f.2 + rd_ls s
def rd_held (C : rd_C) : Int := ((rd_l3 (rd_r C) + rd_ls (rd_s C) : Nat) : Int) / 2
def rd_run (P : am_P) : List Int → rd_C → Int → Option (rd_C × Int)
  | [], C, m => some (C, m)
  | e :: w, C, m => match rd_step P C e with
    | none => none
    | some C' => rd_run P w C' (max m (rd_held C'))
/-- what the END tells -/
def rd_out (C : rd_C) (w : List Int) : rd_ch := (rd_ev (rd_r C) rd_nil w ([], rd_u C)).1
-- nodes
def rd_nd (c : rd_ch) : List Int := c.map Prod.fst
def rd_c3 (x : rd_rg) : List rd_ch := [x 0, x 1, x 2]
def rd_all (C : rd_C) : List rd_ch := rd_c3 (rd_r C) ++ (rd_s C).flatMap (fun f => rd_c3 f.2)
/-- y stands behind x -/
def rd_nx (l : List Int) (x y : Int) : Prop := ∃ a b, l = a ++ x :: y :: b
/-- the rows are apart, their nodes below u -/
def rd_ap (L : List rd_ch) (u : Int) : Prop := (∀ c ∈ L, (rd_nd c).Nodup ∧ ∀ x ∈ rd_nd c, 0 ≤ x ∧ x < u) ∧ L.Pairwise (fun c c' => ∀ x ∈ rd_nd c, x ∉ rd_nd c')
theorem rd_nd_app {a b : rd_ch} : rd_nd (a ++ b) = rd_nd a ++ rd_nd b := List.map_append
theorem rd_nx_app {l a b : List Int} {x y : Int} (h : rd_nx l x y) : rd_nx (a ++ l ++ b) x y := by
  obtain ⟨p, q, rfl⟩ := h
  exact ⟨a ++ p, q ++ b, by simp⟩
theorem rd_nx_mem {l : List Int} {x y : Int} (h : rd_nx l x y) : x ∈ l ∧ y ∈ l := by
  obtain ⟨p, q, rfl⟩ := h
  simp
/-- the last one has none behind it -/
theorem rd_nx_last {l : List Int} {x y : Int} (hd : (l ++ [x]).Nodup) : ¬ rd_nx (l ++ [x]) x y := by
  rintro ⟨a, b, h⟩
  have hx : x ∉ l := by
    intro z
    have := (List.nodup_append.mp hd).2.2 x z x (by simp)
    exact this rfl
  have hlen := congrArg List.length h
  simp only [List.length_append, List.length_cons, List.length_nil] at hlen
  have h1 : (l ++ [x])[a.length]? = some x := by rw [h]; simp
  rw [List.getElem?_append_left (by omega)] at h1
  exact hx (List.mem_of_getElem? h1)
/-- one row's own: what stands behind a node of it stands in it -/
theorem rd_ap_one {L : List rd_ch} {u x : Int} {c c' : rd_ch} (h : rd_ap L u) (hc : c ∈ L) (hc' : c' ∈ L) (hx : x ∈ rd_nd c) (hx' : x ∈ rd_nd c') : c = c' := by
  obtain ⟨i, hi, rfl⟩ := List.getElem_of_mem hc
  obtain ⟨j, hj, rfl⟩ := List.getElem_of_mem hc'
  have hp := List.pairwise_iff_getElem.mp h.2
  rcases Nat.lt_trichotomy i j with z | z | z
  · exact absurd hx' (hp i j hi hj z x hx)
  · subst z; rfl
  · exact absurd hx (hp j i hj hi z x hx')
theorem rd_ap.mono {L : List rd_ch} {u u' : Int} (h : rd_ap L u) (hu : u ≤ u') : rd_ap L u' := ⟨fun c hc => ⟨(h.1 c hc).1, fun x hx => ⟨((h.1 c hc).2 x hx).1, Int.lt_of_lt_of_le ((h.1 c hc).2 x hx).2 hu⟩⟩, h.2⟩
theorem rd_ap.app {L L' : List rd_ch} {u : Int} (h : rd_ap (L ++ L') u) : rd_ap L u ∧ rd_ap L' u := ⟨⟨fun c hc => h.1 c (List.mem_append_left _ hc), (List.pairwise_append.mp h.2).1⟩, ⟨fun c hc => h.1 c (List.mem_append_right _ hc), (List.pairwise_append.mp h.2).2.1⟩⟩
-- used nodes
theorem rd_ev_u {X Y : rd_rg} : ∀ (w : List Int) (a : rd_ch × Int), (rd_ev X Y w a).2 = a.2 + (w.countP (· < 4) : Nat) := by
  intro w
  induction w with
  | nil => intro a; show a.2 = a.2 + ((0 : Nat) : Int); omega
  | cons s w ih =>
    intro a
    show (rd_ev X Y w (rd_e1 X Y s a)).2 = _
    rw [ih, List.countP_cons]
    unfold rd_e1
    by_cases z : s < 4
    · rw [if_pos z, if_pos (by simpa using z)]
      show a.2 + 1 + _ = _
      omega
    · rw [if_neg z, if_neg (by simpa using z)]
      show a.2 + _ = _
      omega
theorem rd_ev_app {X Y : rd_rg} : ∀ (w v : List Int) (a : rd_ch × Int), rd_ev X Y (w ++ v) a = rd_ev X Y v (rd_ev X Y w a) := by
  intro w
  induction w with
  | nil => intro v a; rfl
  | cons s w ih => intro v a; exact ih v _
theorem rd_ev_acc {X Y : rd_rg} : ∀ (w : List Int) (c : rd_ch) (u : Int), (rd_ev X Y w (c, u)).1 = c ++ (rd_ev X Y w ([], u)).1 ∧ (rd_ev X Y w (c, u)).2 = (rd_ev X Y w ([], u)).2 := by
  intro w
  induction w with
  | nil => intro c u; exact ⟨(List.append_nil c).symm, rfl⟩
  | cons s w ih =>
    intro c u
    show (rd_ev X Y w (rd_e1 X Y s (c, u))).1 = c ++ (rd_ev X Y w (rd_e1 X Y s ([], u))).1 ∧ (rd_ev X Y w (rd_e1 X Y s (c, u))).2 = (rd_ev X Y w (rd_e1 X Y s ([], u))).2
    unfold rd_e1
    by_cases z : s < 4
    · rw [if_pos z, if_pos z]
      have h1 := ih (c ++ [(u, s)]) (u + 1)
      have h2 := ih ([] ++ [(u, s)]) (u + 1)
      exact ⟨by rw [h1.1, h2.1]; simp, by rw [h1.2, h2.2]⟩
    · rw [if_neg z, if_neg z]
      have h1 := ih (c ++ rd_cp X Y s) u
      have h2 := ih ([] ++ rd_cp X Y s) u
      exact ⟨by rw [h1.1, h2.1]; simp, by rw [h1.2, h2.2]⟩
/-- the rows of several EXPRESSIONS, one behind another, are that of all of them -/
theorem rd_es_flat {X Y : rd_rg} : ∀ (ws : List (List Int)) (cs : List rd_ch) (u : Int), (rd_es X Y ws cs u).1.flatten = cs.flatten ++ (rd_ev X Y ws.flatten ([], u)).1 ∧ (rd_es X Y ws cs u).2 = (rd_ev X Y ws.flatten ([], u)).2 := by
  intro ws
  induction ws with
  | nil => intro cs u; exact ⟨(List.append_nil _).symm, rfl⟩
  | cons w ws ih =>
    intro cs u
    have h := ih (cs ++ [(rd_ev X Y w ([], u)).1]) (rd_ev X Y w ([], u)).2
    show (rd_es X Y ws (cs ++ [(rd_ev X Y w ([], u)).1]) (rd_ev X Y w ([], u)).2).1.flatten = _ ∧ (rd_es X Y ws (cs ++ [(rd_ev X Y w ([], u)).1]) (rd_ev X Y w ([], u)).2).2 = _
    rw [h.1, h.2, List.flatten_cons, rd_ev_app]
    have h2 := rd_ev_acc (X := X) (Y := Y) ws.flatten (rd_ev X Y w ([], u)).1 (rd_ev X Y w ([], u)).2
    have e : rd_ev X Y w ([], u) = ((rd_ev X Y w ([], u)).1, (rd_ev X Y w ([], u)).2) := rfl
    rw [e, h2.1, h2.2]
    exact ⟨by simp, rfl⟩
theorem rd_es_len {X Y : rd_rg} : ∀ (ws : List (List Int)) (cs : List rd_ch) (u : Int), (rd_es X Y ws cs u).1.length = cs.length + ws.length := by
  intro ws
  induction ws with
  | nil => intro cs u; rfl
  | cons w ws ih =>
    intro cs u
    show (rd_es X Y ws (cs ++ [(rd_ev X Y w ([], u)).1]) (rd_ev X Y w ([], u)).2).1.length = _
    rw [ih]
    simp
    omega
/-- the parts that an EXPRESSION takes are apart, below u -/
def rd_pt (X Y : rd_rg) (w : List Int) (u : Int) : Prop := (w.filter (fun s => decide (4 ≤ s))).Nodup ∧ (∀ s ∈ w, 4 ≤ s → (rd_nd (rd_cp X Y s)).Nodup ∧ ∀ x ∈ rd_nd (rd_cp X Y s), 0 ≤ x ∧ x < u) ∧ ∀ s ∈ w, ∀ t ∈ w, 4 ≤ s → 4 ≤ t → s ≠ t → ∀ x ∈ rd_nd (rd_cp X Y s), x ∉ rd_nd (rd_cp X Y t)
theorem rd_ev_mem {X Y : rd_rg} {x : Int} : ∀ (w : List Int) (a : rd_ch × Int), x ∈ rd_nd (rd_ev X Y w a).1 → x ∈ rd_nd a.1 ∨ (∃ s ∈ w, 4 ≤ s ∧ x ∈ rd_nd (rd_cp X Y s)) ∨ (a.2 ≤ x ∧ x < (rd_ev X Y w a).2) := by
  intro w
  induction w with
  | nil => intro a h; exact Or.inl h
  | cons s w ih =>
    intro a h
    have hu := rd_ev_u (X := X) (Y := Y) w (rd_e1 X Y s a)
    rcases ih _ h with h | ⟨t, ht, h4, hx⟩ | h
    · unfold rd_e1 at h
      by_cases z : s < 4
      · rw [if_pos z] at h
        have e : rd_e1 X Y s a = (a.1 ++ [(a.2, s)], a.2 + 1) := if_pos z
        rw [rd_nd_app] at h
        rcases List.mem_append.mp h with h | h
        · exact Or.inl h
        · have h : x = a.2 := by simpa [rd_nd] using h
          refine Or.inr (Or.inr ⟨by omega, ?_⟩)
          show x < (rd_ev X Y w (rd_e1 X Y s a)).2
          rw [hu, e]
          show x < a.2 + 1 + _
          omega
      · rw [if_neg z, rd_nd_app] at h
        rcases List.mem_append.mp h with h | h
        · exact Or.inl h
        · exact Or.inr (Or.inl ⟨s, List.mem_cons_self, by omega, h⟩)
    · exact Or.inr (Or.inl ⟨t, List.mem_cons_of_mem _ ht, h4, hx⟩)
    · refine Or.inr (Or.inr ⟨?_, h.2⟩)
      have h1 := h.1
      unfold rd_e1 at h1
      by_cases z : s < 4
      · rw [if_pos z] at h1
        have h1 : a.2 + 1 ≤ x := h1
        omega
      · rw [if_neg z] at h1
        exact h1
theorem rd_pt.tail {X Y : rd_rg} {s : Int} {w : List Int} {u u' : Int} (h : rd_pt X Y (s :: w) u) (hu : u ≤ u') : rd_pt X Y w u' := by
  refine ⟨?_, fun t ht h4 => ?_, fun t ht t' ht' => h.2.2 t (List.mem_cons_of_mem _ ht) t' (List.mem_cons_of_mem _ ht')⟩
  · have := h.1
    rw [List.filter_cons] at this
    split at this
    · exact (List.nodup_cons.mp this).2
    · exact this
  · have := h.2.1 t (List.mem_cons_of_mem _ ht) h4
    exact ⟨this.1, fun x hx => ⟨(this.2 x hx).1, Int.lt_of_lt_of_le (this.2 x hx).2 hu⟩⟩
theorem rd_pt.head {X Y : rd_rg} {s t : Int} {w : List Int} {u : Int} (h : rd_pt X Y (s :: w) u) (hs : 4 ≤ s) (ht : t ∈ w) (h4 : 4 ≤ t) : s ≠ t := by
  intro e
  subst e
  have := h.1
  rw [List.filter_cons, if_pos (by simpa using hs)] at this
  exact (List.nodup_cons.mp this).1 (List.mem_filter.mpr ⟨ht, by simpa using hs⟩)
theorem rd_ev_nodup {X Y : rd_rg} : ∀ (w : List Int) (c : rd_ch) (u : Int), rd_pt X Y w u → (rd_nd c).Nodup → (∀ x ∈ rd_nd c, 0 ≤ x ∧ x < u) → 0 ≤ u → (∀ s ∈ w, 4 ≤ s → ∀ x ∈ rd_nd c, x ∉ rd_nd (rd_cp X Y s)) → (rd_nd (rd_ev X Y w (c, u)).1).Nodup ∧ ∀ x ∈ rd_nd (rd_ev X Y w (c, u)).1, 0 ≤ x ∧ x < (rd_ev X Y w (c, u)).2 := by
  intro w
  induction w with
  | nil => intro c u _ h1 h2 _ _; exact ⟨h1, h2⟩
  | cons s w ih =>
    intro c u hp h1 h2 h0 h3
    show (rd_nd (rd_ev X Y w (rd_e1 X Y s (c, u))).1).Nodup ∧ ∀ x ∈ rd_nd (rd_ev X Y w (rd_e1 X Y s (c, u))).1, 0 ≤ x ∧ x < (rd_ev X Y w (rd_e1 X Y s (c, u))).2
    unfold rd_e1
    by_cases z : s < 4
    · rw [if_pos z]
      refine ih (c ++ [(u, s)]) (u + 1) (hp.tail (by omega)) ?_ ?_ (by omega) ?_
      · rw [rd_nd_app]
        refine List.nodup_append.mpr ⟨h1, by simp [rd_nd], fun x hx y hy => ?_⟩
        have hy : y = u := by simpa [rd_nd] using hy
        have := h2 x hx
        omega
      · intro x hx
        rw [rd_nd_app] at hx
        rcases List.mem_append.mp hx with hx | hx
        · have := h2 x hx; omega
        · have hx : x = u := by simpa [rd_nd] using hx
          omega
      · intro t ht h4 x hx
        rw [rd_nd_app] at hx
        rcases List.mem_append.mp hx with hx | hx
        · exact h3 t (List.mem_cons_of_mem _ ht) h4 x hx
        · have hx : x = u := by simpa [rd_nd] using hx
          intro y
          have := (hp.2.1 t (List.mem_cons_of_mem _ ht) h4).2 x y
          omega
    · rw [if_neg z]
      refine ih (c ++ rd_cp X Y s) u (hp.tail (Int.le_refl _)) ?_ ?_ h0 ?_
      · rw [rd_nd_app]
        refine List.nodup_append.mpr ⟨h1, (hp.2.1 s List.mem_cons_self (by omega)).1, fun x hx y hy e => ?_⟩
        subst e
        exact h3 s List.mem_cons_self (by omega) x hx hy
      · intro x hx
        rw [rd_nd_app] at hx
        rcases List.mem_append.mp hx with hx | hx
        · exact h2 x hx
        · exact (hp.2.1 s List.mem_cons_self (by omega)).2 x hx
      · intro t ht h4 x hx
        rw [rd_nd_app] at hx
        rcases List.mem_append.mp hx with hx | hx
        · exact h3 t (List.mem_cons_of_mem _ ht) h4 x hx
        · exact hp.2.2 s List.mem_cons_self t (List.mem_cons_of_mem _ ht) (by omega) h4 (hp.head (by omega) ht h4) x hx
/-- a part lies whole in the row -/
theorem rd_ev_infix {X Y : rd_rg} : ∀ (w : List Int) (c : rd_ch) (u s : Int), s ∈ w → 4 ≤ s → ∃ a b, (rd_ev X Y w (c, u)).1 = a ++ rd_cp X Y s ++ b := by
  intro w
  induction w with
  | nil => intro c u s h; cases h
  | cons t w ih =>
    intro c u s hs h4
    show ∃ a b, (rd_ev X Y w (rd_e1 X Y t (c, u))).1 = a ++ rd_cp X Y s ++ b
    rcases List.mem_cons.mp hs with e | hs
    · subst e
      unfold rd_e1
      rw [if_neg (by omega)]
      exact ⟨c, (rd_ev X Y w ([], u)).1, (rd_ev_acc w _ u).1⟩
    · have e : rd_e1 X Y t (c, u) = ((rd_e1 X Y t (c, u)).1, (rd_e1 X Y t (c, u)).2) := rfl
      rw [e]
      exact ih _ _ s hs h4
end
