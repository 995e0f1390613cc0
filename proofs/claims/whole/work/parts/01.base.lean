section
/-! States told by whole numbers: values, locals, a heap of typed rows; what the machine's state is to them. -/
abbrev am_V : Type := Int ⊕ (Int64 ⊕ (Option Nat ⊕ Nat))
abbrev am_LS : Type := List (Option am_V)
/-- the rows' kinds and lengths, the final references -/
abbrev am_Sh : Type := List (Nat × Nat) × (Nat → Int → Option Nat)
abbrev am_D : Type := (Nat → Int → Int) × ((Nat → Int → Int64) × (Nat → Int → Option Nat))
abbrev am_H : Type := am_Sh × am_D
abbrev am_i (x : Int) : am_V := .inl x
abbrev am_l (x : Int64) : am_V := .inr (.inl x)
abbrev am_r (o : Option Nat) : am_V := .inr (.inr (.inl o))
abbrev am_s (i : Nat) : am_V := .inr (.inr (.inr i))
def am_at : am_LS → Nat → Option am_V
  | [], _ => none
  | x :: _, 0 => x
  | _ :: l, i + 1 => am_at l i
def am_set : am_LS → Nat → Option am_V → am_LS
  | [], _, _ => []
  | _ :: l, 0, v => v :: l
  | x :: l, i + 1, v => x :: am_set l i v
/-- a long just below i is gone -/
def am_kp (ls : am_LS) (i : Nat) : am_LS := match i with
  | 0 => ls
  | j + 1 => match am_at ls j with
    | some (.inr (.inl _)) => am_set ls j none
    | _ => ls
def am_sh : List (Nat × Nat) → Nat → Nat × Nat
  | [], _ => (999, 0)
  | x :: _, 0 => x
  | _ :: l, i + 1 => am_sh l i
def am_u1 {α : Type} (f : Int → α) (k : Int) (v : α) : Int → α := fun j => if j = k then v else f j
def am_up {α : Type} (f : Nat → Int → α) (a : Nat) (k : Int) (v : α) : Nat → Int → α := fun i => if i = a then am_u1 (f a) k v else f i
def am_cat (v : am_V) : Nat := match v with
  | .inr (.inl _) => 2
  | _ => 1
def am_args : List am_V → am_LS
  | [] => []
  | .inr (.inl x) :: l => some (.inr (.inl x)) :: none :: am_args l
  | .inr (.inr x) :: l => some (.inr (.inr x)) :: am_args l
  | .inl x :: l => some (.inl x) :: am_args l
def am_pad : Nat → am_LS → am_LS
  | 0, ls => ls
  | n + 1, [] => none :: am_pad n []
  | n + 1, x :: l => x :: am_pad n l
def am_c (b : Nat) (ad : Nat → Nat) (v : am_V) : Value := match v with
  | .inl x => .int (Int32.ofInt x)
  | .inr (.inl x) => .long x
  | .inr (.inr (.inl o)) => va_rf (o.map (b + ·))
  | .inr (.inr (.inr i)) => .ref (ad i)
def am_Lc (b : Nat) (ad : Nat → Nat) (lsA : Array Slot) (nL : Nat) (ls : am_LS) : Prop :=
  lsA.size = nL ∧ lv_wf lsA ∧ ∀ (i : Nat) (v : am_V), am_at ls i = some v → lsA[i]? = some (.val (am_c b ad v))
theorem am_at_set {ls : am_LS} {i j : Nat} {o : Option am_V} {w : am_V} (h : am_at (am_set ls i o) j = some w) : (j = i ∧ o = some w) ∨ (j ≠ i ∧ am_at ls j = some w) := by
  induction ls generalizing i j with
  | nil => cases h
  | cons x l ih =>
    cases i with
    | zero => cases j with
      | zero => exact Or.inl ⟨rfl, h⟩
      | succ j => exact Or.inr ⟨by omega, h⟩
    | succ i => cases j with
      | zero => exact Or.inr ⟨by omega, h⟩
      | succ j =>
        rcases ih (i := i) (j := j) h with ⟨e, q⟩ | ⟨e, q⟩
        · exact Or.inl ⟨by omega, q⟩
        · exact Or.inr ⟨by omega, q⟩
theorem am_at_kp {ls : am_LS} {i j : Nat} {w : am_V} (h : am_at (am_kp ls i) j = some w) : am_at ls j = some w ∧ ¬ (j + 1 = i ∧ am_cat w = 2) := by
  unfold am_kp at h
  cases i with
  | zero => exact ⟨h, by omega⟩
  | succ i =>
    dsimp only at h
    split at h
    next x hx =>
      rcases am_at_set h with ⟨-, q⟩ | ⟨e, q⟩
      · cases q
      · exact ⟨q, by omega⟩
    next hx =>
      refine ⟨h, fun ⟨e, q⟩ => ?_⟩
      have e : j = i := by omega
      subst e
      match w, q with
      | .inr (.inl x), _ => exact hx x h
theorem am_c_cat (b : Nat) (ad : Nat → Nat) (v : am_V) : (am_c b ad v).category = am_cat v := by
  match v with
  | .inl x => rfl
  | .inr (.inl x) => rfl
  | .inr (.inr (.inl none)) => rfl
  | .inr (.inr (.inl (some a))) => rfl
  | .inr (.inr (.inr i)) => rfl
/-- the known places, as the kit lists them -/
def am_prs (b : Nat) (ad : Nat → Nat) (nL : Nat) (ls : am_LS) : List (Nat × Value) := (List.range nL).filterMap fun j => (am_at ls j).map fun w => (j, am_c b ad w)
theorem am_prs_mem {b : Nat} {ad : Nat → Nat} {nL : Nat} {ls : am_LS} {q : Nat × Value} : q ∈ am_prs b ad nL ls ↔ ∃ w, q.1 < nL ∧ am_at ls q.1 = some w ∧ q.2 = am_c b ad w := by
  unfold am_prs
  rw [List.mem_filterMap]
  constructor
  · rintro ⟨j, hj, hq⟩
    obtain ⟨w, hw, e⟩ := Option.map_eq_some_iff.mp hq
    subst e
    exact ⟨w, List.mem_range.mp hj, hw, rfl⟩
  · rintro ⟨w, h1, h2, h3⟩
    refine ⟨q.1, List.mem_range.mpr h1, ?_⟩
    rw [h2]
    show some (q.1, am_c b ad w) = some q
    rw [← h3]
theorem am_Lc.has {b : Nat} {ad : Nat → Nat} {lsA : Array Slot} {nL : Nat} {ls : am_LS} (h : am_Lc b ad lsA nL ls) : lv_has lsA nL (am_prs b ad nL ls) := by
  refine ⟨h.1, h.2.1, fun q hq => ?_⟩
  obtain ⟨w, h1, h2, h3⟩ := am_prs_mem.mp hq
  rw [h3]
  exact h.2.2 _ _ h2
theorem am_Lc.lt {b : Nat} {ad : Nat → Nat} {lsA : Array Slot} {nL : Nat} {ls : am_LS} (h : am_Lc b ad lsA nL ls) {i : Nat} {v : am_V} (hv : am_at ls i = some v) : i < nL := by
  have := lv_lt (h.2.2 i v hv)
  rw [h.1] at this
  exact this
/-- storing a value of one slot -/
theorem am_Lc.st1 {b : Nat} {ad : Nat → Nat} {lsA ls' : Array Slot} {nL i : Nat} {ls : am_LS} {v : am_V} (h : am_Lc b ad lsA nL ls) (h' : lv_has ls' nL ((i, am_c b ad v) :: (am_prs b ad nL ls).filter (fun q => !(q.1 == i) && !(q.1 + 1 == i && q.2.category == 2)))) : am_Lc b ad ls' nL (am_set (am_kp ls i) i (some v)) := by
  refine ⟨h'.1, h'.2.1, fun j w hj => ?_⟩
  rcases am_at_set hj with ⟨rfl, e⟩ | ⟨hne, e⟩
  · cases e
    exact h'.2.2 (j, am_c b ad v) List.mem_cons_self
  · obtain ⟨e1, e2⟩ := am_at_kp e
    refine h'.2.2 (j, am_c b ad w) (List.mem_cons_of_mem _ (List.mem_filter.mpr ⟨am_prs_mem.mpr ⟨w, h.lt e1, e1, rfl⟩, ?_⟩))
    rw [am_c_cat]
    simp only [Bool.and_eq_true, Bool.not_eq_true', beq_eq_false_iff_ne, Bool.and_eq_false_iff]
    refine ⟨hne, ?_⟩
    by_cases q : j + 1 = i
    · exact Or.inr fun z => e2 ⟨q, z⟩
    · exact Or.inl q
/-- storing over an int: nothing else changes -/
theorem am_Lc.st0 {b : Nat} {ad : Nat → Nat} {lsA ls' : Array Slot} {nL i : Nat} {ls : am_LS} {v : am_V} {x : Int} (h : am_Lc b ad lsA nL ls) (hx : am_at ls i = some (.inl x)) (h' : lv_has ls' nL ((i, am_c b ad v) :: (am_prs b ad nL ls).filter (fun q => !(q.1 == i) && !(q.1 + 1 == i && q.2.category == 2)))) : am_Lc b ad ls' nL (am_set ls i (some v)) := by
  refine ⟨h'.1, h'.2.1, fun j w hj => ?_⟩
  rcases am_at_set hj with ⟨rfl, e⟩ | ⟨hne, e⟩
  · cases e
    exact h'.2.2 (j, am_c b ad v) List.mem_cons_self
  · refine h'.2.2 (j, am_c b ad w) (List.mem_cons_of_mem _ (List.mem_filter.mpr ⟨am_prs_mem.mpr ⟨w, h.lt e, e, rfl⟩, ?_⟩))
    rw [am_c_cat]
    simp only [Bool.and_eq_true, Bool.not_eq_true', beq_eq_false_iff_ne, Bool.and_eq_false_iff]
    refine ⟨hne, ?_⟩
    by_cases q : j + 1 = i
    · refine Or.inr fun z => ?_
      have h1 := h.2.1.1 j _ (h.2.2 j w e) (by rw [am_c_cat]; exact z)
      rw [q] at h1
      have h2 := h.2.2 i _ hx
      rw [h1] at h2
      cases h2
    · exact Or.inl q
/-- storing a long -/
theorem am_Lc.st2 {b : Nat} {ad : Nat → Nat} {lsA ls' : Array Slot} {nL i : Nat} {ls : am_LS} {v : am_V} (h : am_Lc b ad lsA nL ls) (h' : lv_has ls' nL ((i, am_c b ad v) :: (am_prs b ad nL ls).filter (fun q => !(q.1 == i) && (!(q.1 == i + 1) && !(q.1 + 1 == i && q.2.category == 2))))) : am_Lc b ad ls' nL (am_set (am_set (am_kp ls i) i (some v)) (i + 1) none) := by
  refine ⟨h'.1, h'.2.1, fun j w hj => ?_⟩
  rcases am_at_set hj with ⟨-, e⟩ | ⟨hne1, e⟩
  · cases e
  rcases am_at_set e with ⟨rfl, e9⟩ | ⟨hne, e⟩
  · cases e9
    exact h'.2.2 (j, am_c b ad v) List.mem_cons_self
  · obtain ⟨e1, e2⟩ := am_at_kp e
    refine h'.2.2 (j, am_c b ad w) (List.mem_cons_of_mem _ (List.mem_filter.mpr ⟨am_prs_mem.mpr ⟨w, h.lt e1, e1, rfl⟩, ?_⟩))
    rw [am_c_cat]
    simp only [Bool.and_eq_true, Bool.not_eq_true', beq_eq_false_iff_ne, Bool.and_eq_false_iff]
    refine ⟨hne, hne1, ?_⟩
    by_cases q : j + 1 = i
    · exact Or.inr fun z => e2 ⟨q, z⟩
    · exact Or.inl q
/-- fewer known places -/
theorem am_Lc.less {b : Nat} {ad : Nat → Nat} {lsA : Array Slot} {nL : Nat} {ls ls' : am_LS} (h : am_Lc b ad lsA nL ls) (hs : ∀ i v, am_at ls' i = some v → am_at ls i = some v) : am_Lc b ad lsA nL ls' := ⟨h.1, h.2.1, fun i v hv => h.2.2 i v (hs i v hv)⟩
/-- what is forgotten -/
def am_fg : List Nat → am_LS → am_LS
  | [], ls => ls
  | i :: l, ls => am_fg l (am_set ls i none)
theorem am_at_fg {ds : List Nat} {ls : am_LS} {j : Nat} {w : am_V} (h : am_at (am_fg ds ls) j = some w) : am_at ls j = some w := by
  induction ds generalizing ls with
  | nil => exact h
  | cons i l ih =>
    rcases am_at_set (ih h) with ⟨-, e⟩ | ⟨-, e⟩
    · cases e
    · exact e
-- the heap
/-- a field's value: an int (0), a long (1), a reference (2), a final reference (3) -/
def am_fv (b : Nat) (h : am_H) (i : Nat) (k : Nat) (q : Nat) : Value := match q with
  | 0 => .int (Int32.ofInt (h.2.1 i k))
  | 1 => .long (h.2.2.1 i k)
  | 2 => va_rf ((h.2.2.2 i k).map (b + ·))
  | _ => va_rf ((h.1.2 i k).map (b + ·))
def am_fs (b : Nat) (h : am_H) (i : Nat) (l : List Nat) : List Value := l.zipIdx.map fun q => am_fv b h i q.2 q.1
def am_ct (b : Nat) (d : am_D) (i kd : Nat) : (Nat → Int32) ⊕ (Nat → Int64) ⊕ (Nat → UInt32) ⊕ (Nat → UInt64) ⊕ (Nat → Option Nat) :=
  if kd = 103 then .inr (.inl fun j => d.2.1 i j) else if kd = 104 then .inr (.inr (.inr (.inr fun j => (d.2.2 i j).map (b + ·)))) else .inl fun j => Int32.ofInt (d.1 i j)
def am_ce (b : Nat) (cA : Nat → ClassId) (h : am_H) (i : Nat) (q : Nat × Nat) : va_E :=
  if q.1 < 100 then .inr (q.1, am_fs b h i (am_tm q.1)) else .inl (cA q.1, q.2, am_ct b h.2 i q.1)
def am_ws (b : Nat) (cA : Nat → ClassId) (h : am_H) : va_W := h.1.1.zipIdx.map fun q => (b + q.2, am_ce b cA h q.2 q.1)
theorem am_ws_get {b : Nat} {cA : Nat → ClassId} {h : am_H} {i : Nat} : (am_ws b cA h)[i]? = (h.1.1[i]?).map fun q => (b + i, am_ce b cA h i q) := by
  unfold am_ws
  rw [List.getElem?_map, List.getElem?_zipIdx]
  cases h.1.1[i]? <;> simp
theorem am_ws_len {b : Nat} {cA : Nat → ClassId} {h : am_H} : (am_ws b cA h).length = h.1.1.length := by simp [am_ws]
theorem am_sh_get {sh : List (Nat × Nat)} {a : Nat} (h : (am_sh sh a).1 ≠ 999) : sh[a]? = some (am_sh sh a) := by
  induction sh generalizing a with
  | nil => exact absurd rfl h
  | cons x l ih =>
    cases a with
    | zero => rfl
    | succ a => exact ih h
theorem am_fs_get {b : Nat} {h : am_H} {i k : Nat} {l : List Nat} : (am_fs b h i l)[k]? = (l[k]?).map fun q => am_fv b h i k q := by
  unfold am_fs
  rw [List.getElem?_map, List.getElem?_zipIdx]
  cases l[k]? <;> simp
theorem am_fs_len {b : Nat} {h : am_H} {i : Nat} {l : List Nat} : (am_fs b h i l).length = l.length := by simp [am_fs]
/-- the data of row i alone make cell i -/
theorem am_ce_congr {b : Nat} {cA : Nat → ClassId} {h h' : am_H} {i : Nat} {q : Nat × Nat} (h0 : h'.1.2 i = h.1.2 i) (h1 : h'.2.1 i = h.2.1 i) (h2 : h'.2.2.1 i = h.2.2.1 i) (h3 : h'.2.2.2 i = h.2.2.2 i) : am_ce b cA h' i q = am_ce b cA h i q := by
  have hf : ∀ k q, am_fv b h' i k q = am_fv b h i k q := by
    intro k q
    unfold am_fv
    rw [h0, h1, h2, h3]
  unfold am_ce am_fs am_ct
  simp only [hf, h1, h2, h3]
/-- a world in which row a alone has changed -/
theorem am_ws_set {b : Nat} {cA : Nat → ClassId} {sh : List (Nat × Nat)} {F F' : Nat → Int → Option Nat} {d d' : am_D} {a : Nat} {q : Nat × Nat} {e : va_E} (ha : sh[a]? = some q) (he : am_ce b cA ((sh, F'), d') a q = e) (h0 : ∀ i, i ≠ a → F' i = F i) (h1 : ∀ i, i ≠ a → d'.1 i = d.1 i) (h2 : ∀ i, i ≠ a → d'.2.1 i = d.2.1 i) (h3 : ∀ i, i ≠ a → d'.2.2 i = d.2.2 i) :
    (am_ws b cA ((sh, F), d)).set a (b + a, e) = am_ws b cA ((sh, F'), d') := by
  apply List.ext_getElem?
  intro i
  rw [List.getElem?_set, am_ws_get, am_ws_get]
  have hl : a < (am_ws b cA ((sh, F), d)).length := by
    have := (List.getElem?_eq_some_iff.mp ha).1
    simpa [am_ws] using this
  by_cases hi : a = i
  · subst hi
    rw [if_pos rfl, if_pos hl, ha]
    show some (b + a, e) = some (b + a, am_ce b cA ((sh, F'), d') a q)
    rw [he]
  · rw [if_neg hi]
    cases hs : sh[i]? with
    | none => rfl
    | some r =>
      show some (b + i, am_ce b cA ((sh, F), d) i r) = some (b + i, am_ce b cA ((sh, F'), d') i r)
      rw [am_ce_congr (h := ((sh, F), d)) (h' := ((sh, F'), d')) (h0 i (Ne.symm hi)) (h1 i (Ne.symm hi)) (h2 i (Ne.symm hi)) (h3 i (Ne.symm hi))]
theorem am_up_ne {α : Type} {f : Nat → Int → α} {a i : Nat} {k : Int} {v : α} (h : i ≠ a) : am_up f a k v i = f i := by
  unfold am_up
  rw [if_neg h]
theorem am_up_eq {α : Type} {f : Nat → Int → α} {a : Nat} {k : Int} {v : α} : am_up f a k v a = am_u1 (f a) k v := by
  unfold am_up
  rw [if_pos rfl]
theorem am_Dv {b : Nat} {cA : Nat → ClassId} {h : am_H} : va_D (fun q => b ≤ q) (am_ws b cA h) := by
  refine ⟨fun i j p q hi hj e => ?_, fun k q hk => ?_⟩
  · rw [am_ws_get] at hi hj
    obtain ⟨_, _, rfl⟩ := Option.map_eq_some_iff.mp hi
    obtain ⟨_, _, rfl⟩ := Option.map_eq_some_iff.mp hj
    have e : b + i = b + j := e
    omega
  · rw [am_ws_get] at hk
    obtain ⟨_, _, rfl⟩ := Option.map_eq_some_iff.mp hk
    exact Nat.le_add_right _ _
end
