/-! An abstract machine: values, locals, a heap of typed rows, one transformer an instruction (in continuation form), the limit over steps, calls by depth. -/
abbrev am_V : Type := Int32 ⊕ (Int64 ⊕ (Option Nat ⊕ Nat))
abbrev am_LS : Type := List (Option am_V)
abbrev am_D : Type := (Nat → Nat → Int32) × ((Nat → Nat → Int64) × (Nat → Nat → Option Nat))
abbrev am_H : Type := List (Nat × Nat) × am_D
abbrev am_R : Type := Option (Option am_V × am_H)
abbrev am_K : Type := Nat → am_LS → List am_V → am_H → am_R
abbrev am_C : Type := Nat → List am_V → am_H → am_R
abbrev am_T : Type := am_LS → List am_V → am_H → am_K → am_C → am_R
abbrev am_i (x : Int32) : am_V := .inl x
abbrev am_l (x : Int64) : am_V := .inr (.inl x)
abbrev am_r (o : Option Nat) : am_V := .inr (.inr (.inl o))
abbrev am_s (i : Nat) : am_V := .inr (.inr (.inr i))
def am_at : am_LS → Nat → Option am_V
  | [], _ => none
  | x :: _, 0 => x
  | _ :: l, i + 1 => am_at l i
def am_set : am_LS → Nat → Option am_V → am_LS
  | [], _, _ => []
  | _ :: l, 0, v => v :: l
  | x :: l, i + 1, v => x :: am_set l i v
/-- a long just below i is gone -/
def am_kp (ls : am_LS) (i : Nat) : am_LS := match i with
  | 0 => ls
  | j + 1 => match am_at ls j with
    | some (.inr (.inl _)) => am_set ls j none
    | _ => ls
def am_sh : List (Nat × Nat) → Nat → Nat × Nat
  | [], _ => (999, 0)
  | x :: _, 0 => x
  | _ :: l, i + 1 => am_sh l i
def am_u1 {α : Type} (f : Nat → α) (k : Nat) (v : α) : Nat → α := fun j => if j = k then v else f j
def am_up {α : Type} (f : Nat → Nat → α) (a k : Nat) (v : α) : Nat → Nat → α := fun i => if i = a then am_u1 (f a) k v else f i
def am_in (i : Int32) (n : Nat) : Bool := !(decide (i < 0)) && decide (i.toNatClampNeg < n)
def am_cat (v : am_V) : Nat := match v with
  | .inr (.inl _) => 2
  | _ => 1
def am_sum : List am_V → Nat
  | [] => 0
  | v :: l => am_cat v + am_sum l
/-- n values off the stack, the deepest first -/
def am_pops : Nat → List am_V → List am_V → Option (List am_V × List am_V)
  | 0, acc, st => some (acc, st)
  | n + 1, acc, v :: st => am_pops n (v :: acc) st
  | _ + 1, _, [] => none
def am_bz (x : Int32) : Bool := x == 0 || x == 1
-- the transformers
def am_bad : am_T := fun _ _ _ _ _ => none
def am_push (v : am_V) (nx : Nat) : am_T := fun ls st h k _ => k nx ls (v :: st) h
def am_iload (i nx : Nat) : am_T := fun ls st h k _ => match am_at ls i with
  | some (.inl x) => k nx ls (.inl x :: st) h
  | _ => none
def am_lload (i nx : Nat) : am_T := fun ls st h k _ => match am_at ls i with
  | some (.inr (.inl x)) => k nx ls (.inr (.inl x) :: st) h
  | _ => none
def am_aload (i nx : Nat) : am_T := fun ls st h k _ => match am_at ls i with
  | some (.inr (.inr x)) => k nx ls (.inr (.inr x) :: st) h
  | _ => none
def am_istore (i nx : Nat) : am_T := fun ls st h k _ => match st with
  | .inl x :: r => k nx (am_set (am_kp ls i) i (some (.inl x))) r h
  | _ => none
def am_astore (i nx : Nat) : am_T := fun ls st h k _ => match st with
  | .inr (.inr (.inl x)) :: r => k nx (am_set (am_kp ls i) i (some (.inr (.inr (.inl x))))) r h
  | _ => none
def am_lstore (i nx : Nat) : am_T := fun ls st h k _ => match st with
  | .inr (.inl x) :: r => k nx (am_set (am_set (am_kp ls i) i (some (.inr (.inl x)))) (i + 1) none) r h
  | _ => none
def am_iinc (i : Nat) (n : Int32) (nx : Nat) : am_T := fun ls st h k _ => match am_at ls i with
  | some (.inl x) => k nx (am_set ls i (some (.inl (x + n)))) st h
  | _ => none
def am_bin (f : Int32 → Int32 → Int32) (nx : Nat) : am_T := fun ls st h k _ => match st with
  | .inl y :: .inl x :: r => k nx ls (.inl (f x y) :: r) h
  | _ => none
def am_div (f : Int32 → Int32 → Int32) (nx : Nat) : am_T := fun ls st h k _ => match st with
  | .inl y :: .inl x :: r => if y = 0 then none else k nx ls (.inl (f x y) :: r) h
  | _ => none
def am_lbin (f : Int64 → Int64 → Int64) (nx : Nat) : am_T := fun ls st h k _ => match st with
  | .inr (.inl y) :: .inr (.inl x) :: r => k nx ls (.inr (.inl (f x y)) :: r) h
  | _ => none
def am_lcmp (nx : Nat) : am_T := fun ls st h k _ => match st with
  | .inr (.inl y) :: .inr (.inl x) :: r => k nx ls (.inl (lg_cmp x y) :: r) h
  | _ => none
def am_l2i (nx : Nat) : am_T := fun ls st h k _ => match st with
  | .inr (.inl x) :: r => k nx ls (.inl x.toInt32 :: r) h
  | _ => none
def am_i2b (nx : Nat) : am_T := fun ls st h k _ => match st with
  | .inl x :: r => k nx ls (.inl x.toInt8.toInt32 :: r) h
  | _ => none
def am_pop (nx : Nat) : am_T := fun ls st h k _ => match st with
  | .inl _ :: r => k nx ls r h
  | _ => none
def am_dup (nx : Nat) : am_T := fun ls st h k _ => match st with
  | .inl x :: r => k nx ls (.inl x :: .inl x :: r) h
  | .inr (.inr x) :: r => k nx ls (.inr (.inr x) :: .inr (.inr x) :: r) h
  | _ => none
def am_dup2 (nx : Nat) : am_T := fun ls st h k _ => match st with
  | .inl x :: .inr (.inr y) :: r => k nx ls (.inl x :: .inr (.inr y) :: .inl x :: .inr (.inr y) :: r) h
  | _ => none
def am_goto (tg : Nat) : am_T := fun ls st h k _ => k tg ls st h
def am_ifeq (tg nx : Nat) : am_T := fun ls st h k _ => match st with
  | .inl x :: r => if x = 0 then k tg ls r h else k nx ls r h
  | _ => none
def am_iflt (tg nx : Nat) : am_T := fun ls st h k _ => match st with
  | .inl x :: r => if x < 0 then k tg ls r h else k nx ls r h
  | _ => none
def am_ifgt (tg nx : Nat) : am_T := fun ls st h k _ => match st with
  | .inl x :: r => if 0 < x then k tg ls r h else k nx ls r h
  | _ => none
def am_cmpeq (tg nx : Nat) : am_T := fun ls st h k _ => match st with
  | .inl y :: .inl x :: r => if x = y then k tg ls r h else k nx ls r h
  | _ => none
def am_cmplt (tg nx : Nat) : am_T := fun ls st h k _ => match st with
  | .inl y :: .inl x :: r => if x < y then k tg ls r h else k nx ls r h
  | _ => none
def am_cmpgt (tg nx : Nat) : am_T := fun ls st h k _ => match st with
  | .inl y :: .inl x :: r => if y < x then k tg ls r h else k nx ls r h
  | _ => none
def am_ifnull (tg nx : Nat) : am_T := fun ls st h k _ => match st with
  | .inr (.inr (.inl o)) :: r => match o with
    | none => k tg ls r h
    | some _ => k nx ls r h
  | _ => none
def am_acmp (tg nx : Nat) : am_T := fun ls st h k _ => match st with
  | .inr (.inr (.inl y)) :: .inr (.inr (.inl x)) :: r => if x = y then k tg ls r h else k nx ls r h
  | _ => none
def am_swl (x : Int32) (k : Nat → am_R) (d : Nat) : List (Int32 × Nat) → am_R
  | [] => k d
  | (v, t) :: l => if x = v then k t else am_swl x k d l
def am_switch (l : List (Int32 × Nat)) (d : Nat) : am_T := fun ls st h k _ => match st with
  | .inl x :: r => am_swl x (fun t => k t ls r h) d l
  | _ => none
def am_getI (ci f nx : Nat) : am_T := fun ls st h k _ => match st with
  | .inr (.inr (.inl (some a))) :: r => cond (Nat.beq (am_sh h.1 a).1 ci) (k nx ls (.inl (h.2.1 a f) :: r) h) none
  | _ => none
def am_getR (ci f nx : Nat) : am_T := fun ls st h k _ => match st with
  | .inr (.inr (.inl (some a))) :: r => cond (Nat.beq (am_sh h.1 a).1 ci) (k nx ls (.inr (.inr (.inl (h.2.2.2 a f))) :: r) h) none
  | _ => none
/-- a final field: where it points is told by the object's own place -/
def am_getF (ci : Nat) (g : Nat → Nat) (nx : Nat) : am_T := fun ls st h k _ => match st with
  | .inr (.inr (.inl (some a))) :: r => cond (Nat.beq (am_sh h.1 a).1 ci) (k nx ls (.inr (.inr (.inl (some (g a)))) :: r) h) none
  | _ => none
def am_putI (ci f nx : Nat) : am_T := fun ls st h k _ => match st with
  | .inl x :: .inr (.inr (.inl (some a))) :: r => cond (Nat.beq (am_sh h.1 a).1 ci) (k nx ls r (h.1, am_up h.2.1 a f x, h.2.2)) none
  | _ => none
def am_putZ (ci f nx : Nat) : am_T := fun ls st h k _ => match st with
  | .inl x :: .inr (.inr (.inl (some a))) :: r => cond (Nat.beq (am_sh h.1 a).1 ci) (cond (am_bz x) (k nx ls r (h.1, am_up h.2.1 a f x, h.2.2)) none) none
  | _ => none
def am_putR (ci f nx : Nat) : am_T := fun ls st h k _ => match st with
  | .inr (.inr (.inl x)) :: .inr (.inr (.inl (some a))) :: r => cond (Nat.beq (am_sh h.1 a).1 ci) (k nx ls r (h.1, h.2.1, h.2.2.1, am_up h.2.2.2 a f x)) none
  | _ => none
/-- rows of ints (100), bytes (101), booleans (102), longs (103), references (104) -/
def am_iald (kd nx : Nat) : am_T := fun ls st h k _ => match st with
  | .inl i :: .inr (.inr (.inl (some a))) :: r => cond (Nat.beq (am_sh h.1 a).1 kd) (cond (am_in i (am_sh h.1 a).2) (k nx ls (.inl (h.2.1 a i.toNatClampNeg) :: r) h) none) none
  | _ => none
def am_lald (nx : Nat) : am_T := fun ls st h k _ => match st with
  | .inl i :: .inr (.inr (.inl (some a))) :: r => cond (Nat.beq (am_sh h.1 a).1 103) (cond (am_in i (am_sh h.1 a).2) (k nx ls (.inr (.inl (h.2.2.1 a i.toNatClampNeg)) :: r) h) none) none
  | _ => none
def am_aald (nx : Nat) : am_T := fun ls st h k _ => match st with
  | .inl i :: .inr (.inr (.inl (some a))) :: r => cond (Nat.beq (am_sh h.1 a).1 104) (cond (am_in i (am_sh h.1 a).2) (k nx ls (.inr (.inr (.inl (h.2.2.2 a i.toNatClampNeg))) :: r) h) none) none
  | _ => none
def am_iast (kd : Nat) (f : Int32 → Int32) (nx : Nat) : am_T := fun ls st h k _ => match st with
  | .inl x :: .inl i :: .inr (.inr (.inl (some a))) :: r => cond (Nat.beq (am_sh h.1 a).1 kd) (cond (am_in i (am_sh h.1 a).2) (k nx ls r (h.1, am_up h.2.1 a i.toNatClampNeg (f x), h.2.2)) none) none
  | _ => none
def am_last (nx : Nat) : am_T := fun ls st h k _ => match st with
  | .inr (.inl x) :: .inl i :: .inr (.inr (.inl (some a))) :: r => cond (Nat.beq (am_sh h.1 a).1 103) (cond (am_in i (am_sh h.1 a).2) (k nx ls r (h.1, h.2.1, am_up h.2.2.1 a i.toNatClampNeg x, h.2.2.2)) none) none
  | _ => none
/-- a Machine into a row of Machines: cm is the class's number -/
def am_aast (cm nx : Nat) : am_T := fun ls st h k _ => match st with
  | .inr (.inr (.inl (some v))) :: .inl i :: .inr (.inr (.inl (some a))) :: r => cond (Nat.beq (am_sh h.1 a).1 104) (cond (Nat.beq (am_sh h.1 v).1 cm) (cond (am_in i (am_sh h.1 a).2) (k nx ls r (h.1, h.2.1, h.2.2.1, am_up h.2.2.2 a i.toNatClampNeg (some v))) none) none) none
  | _ => none
def am_alen (nx : Nat) : am_T := fun ls st h k _ => match st with
  | .inr (.inr (.inl (some a))) :: r => cond (Nat.ble 100 (am_sh h.1 a).1) (cond (Nat.ble (am_sh h.1 a).1 104) (k nx ls (.inl (Int32.ofNat (am_sh h.1 a).2) :: r) h) none) none
  | _ => none
/-- a call of method y with n values (the receiver too); ci: the receiver's class (1000: none) -/
def am_call (y n ci nx : Nat) : am_T := fun ls st h k C => match am_pops n [] st with
  | some (as, r) => cond (Nat.ble (am_sum r) 8) (cond (match as with | .inr (.inr (.inl (some a))) :: _ => Nat.beq ci 1000 || Nat.beq (am_sh h.1 a).1 ci | _ => Nat.beq ci 1000) (match C y as h with
    | some (some v, h') => k nx ls (v :: r) h'
    | some (none, h') => k nx ls r h'
    | none => none) none) none
  | none => none
def am_iret : am_T := fun _ st h _ _ => match st with
  | [.inl x] => some (some (.inl x), h)
  | _ => none
def am_zret : am_T := fun _ st h _ _ => match st with
  | [.inl x] => cond (am_bz x) (some (some (.inl x), h)) none
  | _ => none
def am_lret : am_T := fun _ st h _ _ => match st with
  | [.inr (.inl x)] => some (some (.inr (.inl x)), h)
  | _ => none
def am_aret : am_T := fun _ st h _ _ => match st with
  | [.inr (.inr (.inl x))] => some (some (.inr (.inr (.inl x))), h)
  | _ => none
def am_vret : am_T := fun _ st h _ _ => match st with
  | [] => some (none, h)
  | _ => none
/-- String.length(), String.charAt(i) of a constant: its bytes -/
def am_slen (tx : Nat → List Int32) (nx : Nat) : am_T := fun ls st h k _ => match st with
  | .inr (.inr (.inr i)) :: r => k nx ls (.inl (Int32.ofNat (tx i).length) :: r) h
  | _ => none
def am_schr (tx : Nat → List Int32) (nx : Nat) : am_T := fun ls st h k _ => match st with
  | .inl j :: .inr (.inr (.inr i)) :: r => cond (am_in j (tx i).length) (k nx ls (.inl ((tx i).getD j.toNatClampNeg 0) :: r) h) none
  | _ => none
-- makers
def am_z (h : am_H) (q : Nat × Nat) : am_H := (h.1 ++ [q], (fun i => if i = h.1.length then fun _ => 0 else h.2.1 i), (fun i => if i = h.1.length then fun _ => 0 else h.2.2.1 i), (fun i => if i = h.1.length then fun _ => none else h.2.2.2 i))
def am_new (ci nx : Nat) : am_T := fun ls st h k _ => k nx ls (.inr (.inr (.inl (some h.1.length))) :: st) (am_z h (ci, 0))
def am_newa (kd nx : Nat) : am_T := fun ls st h k _ => match st with
  | .inl n :: r => if n < 0 then none else cond (Nat.ble n.toNatClampNeg 1000000) (k nx ls (.inr (.inr (.inl (some h.1.length))) :: r) (am_z h (kd, n.toNatClampNeg))) none
  | _ => none
/-- Object's constructor -/
def am_obj (nx : Nat) : am_T := fun ls st h k _ => match st with
  | .inr (.inr (.inl (some _))) :: r => cond (Nat.ble (am_sum r) 8) (k nx ls r h) none
  | _ => none
-- tables of transformers by place
def am_br (m : Nat) (L R : Nat → am_T) : Nat → am_T := fun pc => cond (Nat.ble m pc) (R pc) (L pc)
def am_lf (m : Nat) (t : am_T) : Nat → am_T := fun pc => cond (Nat.beq pc m) t am_bad
/-- what is dead at a label is forgotten there -/
def am_fg : List Nat → am_LS → am_LS
  | [], ls => ls
  | i :: l, ls => am_fg l (am_set ls i none)
def am_lab (ds : List Nat) (t : am_T) : am_T := fun ls st h k C => t (am_fg ds ls) st h k C
-- the run
def am_run (cd : Nat → am_T) (C : am_C) : Nat → am_K
  | 0 => fun _ _ _ _ => none
  | n + 1 => fun pc ls st h => cd pc ls st h (am_run cd C n) C
noncomputable def am_ev (cd : Nat → am_T) (C : am_C) : am_K := fun pc ls st h =>
  haveI := Classical.propDecidable (∃ n, (am_run cd C n pc ls st h).isSome)
  if hx : ∃ n, (am_run cd C n pc ls st h).isSome then am_run cd C (Classical.choose hx) pc ls st h else none
def am_args : List am_V → am_LS
  | [] => []
  | .inr (.inl x) :: l => some (.inr (.inl x)) :: none :: am_args l
  | .inr (.inr x) :: l => some (.inr (.inr x)) :: am_args l
  | .inl x :: l => some (.inl x) :: am_args l
def am_pad : Nat → am_LS → am_LS
  | 0, ls => ls
  | n + 1, [] => none :: am_pad n []
  | n + 1, x :: l => x :: am_pad n l
noncomputable def am_call_ (pr : Nat → Nat × (Nat → am_T)) : Nat → am_C
  | 0 => fun _ _ _ => none
  | d + 1 => fun y as h => cond (Nat.ble (am_args as).length (pr y).1) (am_ev (pr y).2 (am_call_ pr d) 0 (am_pad (pr y).1 (am_args as)) [] h) none
-- what the transformers have in common: one way on, or an end that doesn't ask
def am_lin (t : am_T) : Prop := ∀ ls st h C, (∃ pc' ls' st' h', ∀ k, t ls st h k C = k pc' ls' st' h') ∨ ∃ o, ∀ k, t ls st h k C = o
def am_linA (cd : Nat → am_T) : Prop := ∀ pc, am_lin (cd pc)
theorem am_run_mono {cd : Nat → am_T} {C : am_C} (hl : am_linA cd) : ∀ (n pc : Nat) (ls : am_LS) (st : List am_V) (h : am_H) (r : Option am_V × am_H), am_run cd C n pc ls st h = some r → am_run cd C (n + 1) pc ls st h = some r := by
  intro n
  induction n with
  | zero => intro pc ls st h r hr; cases hr
  | succ n ih =>
    intro pc ls st h r hr
    rcases hl pc ls st h C with ⟨pc', ls', st', h', e⟩ | ⟨o, e⟩
    · show cd pc ls st h (am_run cd C (n + 1)) C = some r
      rw [e]
      apply ih
      have : cd pc ls st h (am_run cd C n) C = some r := hr
      rwa [e] at this
    · show cd pc ls st h (am_run cd C (n + 1)) C = some r
      rw [e]
      have : cd pc ls st h (am_run cd C n) C = some r := hr
      rwa [e] at this
theorem am_run_le {cd : Nat → am_T} {C : am_C} (hl : am_linA cd) {n m pc : Nat} {ls : am_LS} {st : List am_V} {h : am_H} {r : Option am_V × am_H} (hr : am_run cd C n pc ls st h = some r) (hm : n ≤ m) : am_run cd C m pc ls st h = some r := by
  induction hm with
  | refl => exact hr
  | step _ ih => exact am_run_mono hl _ _ _ _ _ _ ih
theorem am_ev_some {cd : Nat → am_T} {C : am_C} (hl : am_linA cd) {pc : Nat} {ls : am_LS} {st : List am_V} {h : am_H} {r : Option am_V × am_H} : am_ev cd C pc ls st h = some r ↔ ∃ n, am_run cd C n pc ls st h = some r := by
  unfold am_ev
  constructor
  · intro e
    split at e
    · exact ⟨_, e⟩
    · cases e
  · rintro ⟨n, hn⟩
    have hx : ∃ n, (am_run cd C n pc ls st h).isSome := ⟨n, by rw [hn]; rfl⟩
    rw [dif_pos hx]
    have h1 := Classical.choose_spec hx
    obtain ⟨r', hr'⟩ := Option.isSome_iff_exists.mp h1
    have a := am_run_le hl hr' (Nat.le_max_left _ n)
    have b := am_run_le hl hn (Nat.le_max_right (Classical.choose hx) n)
    rw [hr', ← a, b]
theorem am_opt_ext {α : Type} {a b : Option α} (h : ∀ r, a = some r ↔ b = some r) : a = b := by
  cases a with
  | none => cases b with
    | none => rfl
    | some y => exact absurd ((h y).mpr rfl) (by simp)
  | some x => exact ((h x).mp rfl).symm
theorem am_ev_step {cd : Nat → am_T} {C : am_C} (hl : am_linA cd) (pc : Nat) (ls : am_LS) (st : List am_V) (h : am_H) : am_ev cd C pc ls st h = cd pc ls st h (am_ev cd C) C := by
  apply am_opt_ext
  intro r
  rw [am_ev_some hl]
  rcases hl pc ls st h C with ⟨pc', ls', st', h', e⟩ | ⟨o, e⟩
  · rw [e, am_ev_some hl]
    constructor
    · rintro ⟨n, hn⟩
      cases n with
      | zero => cases hn
      | succ n =>
        refine ⟨n, ?_⟩
        have : cd pc ls st h (am_run cd C n) C = some r := hn
        rwa [e] at this
    · rintro ⟨n, hn⟩
      refine ⟨n + 1, ?_⟩
      show cd pc ls st h (am_run cd C n) C = some r
      rw [e]; exact hn
  · rw [e]
    constructor
    · rintro ⟨n, hn⟩
      cases n with
      | zero => cases hn
      | succ n =>
        have : cd pc ls st h (am_run cd C n) C = some r := hn
        rwa [e] at this
    · intro hr
      refine ⟨1, ?_⟩
      show cd pc ls st h (am_run cd C 0) C = some r
      rw [e]; exact hr
/-- unrolled up to labels: hs tells a label's dead places -/
noncomputable def am_U (hs : Nat → Option (List Nat)) (cd : Nat → am_T) (C : am_C) : Nat → am_K
  | 0 => am_ev cd C
  | n + 1 => fun pc ls st h => match hs pc with
    | some ds => am_ev cd C pc (am_fg ds ls) st h
    | none => cd pc ls st h (am_U hs cd C n) C
/-- the table forgets at its labels what hs says -/
def am_hsok (hs : Nat → Option (List Nat)) (cd : Nat → am_T) : Prop := ∀ pc ds, hs pc = some ds → ∀ ls st h k C, cd pc ls st h k C = cd pc (am_fg ds ls) st h k C
theorem am_U_eq {hs : Nat → Option (List Nat)} {cd : Nat → am_T} {C : am_C} (hl : am_linA cd) (hh : am_hsok hs cd) : ∀ n, am_U hs cd C n = am_ev cd C := by
  intro n
  induction n with
  | zero => rfl
  | succ n ih =>
    funext pc ls st h
    show (match hs pc with
      | some ds => am_ev cd C pc (am_fg ds ls) st h
      | none => cd pc ls st h (am_U hs cd C n) C) = _
    cases hp : hs pc with
    | none =>
      show cd pc ls st h (am_U hs cd C n) C = _
      rw [ih, ← am_ev_step hl]
    | some ds =>
      show am_ev cd C pc (am_fg ds ls) st h = _
      rw [am_ev_step hl pc ls, am_ev_step hl pc (am_fg ds ls), ← hh pc ds hp]
theorem am_lab_eq {hs : Nat → Option (List Nat)} {cd : Nat → am_T} {C : am_C} (hl : am_linA cd) (hh : am_hsok hs cd) (n pc : Nat) (ls : am_LS) (st : List am_V) (h : am_H) : am_ev cd C pc ls st h = cd pc ls st h (am_U hs cd C n) C := by
  rw [am_U_eq hl hh, ← am_ev_step hl]
