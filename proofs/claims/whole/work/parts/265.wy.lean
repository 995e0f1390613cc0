section
/-! Ways of a MACHINE from STATE to STATE: rounds. -/
abbrev wy_V : Type := Int → Int → Option Nat
def wy_1 (c : Option Nat) (e : Nat) (b : Option Nat) : Option Nat := match b with
  | none => c
  | some n => match c with
    | none => some (e + n)
    | some m => if e + n < m then some (e + n) else some m
/-- an ELEMENT of e, then a row from STATE to on -/
def wy_by (v : wy_V) (q to : Int) (e : Nat) : wy_V := fun x y => if x = q ∧ 0 ≤ y ∧ y < 6 then wy_1 (v q y) e (v to y) else v x y
def wy_rl (P : am_P) (v : wy_V) (q l t : Int) : wy_V := if pm_oT P l q = -1 then v else if pm_cT P l t (pm_oM P l q) = -1 then v else match v (pm_oT P l q) t with
  | none => v
  | some a => wy_by v q (pm_cT P l t (pm_oM P l q)) (a + 1)
def wy_t (P : am_P) (q l : Int) : Nat → Int → wy_V → wy_V
  | 0, _, v => v
  | n + 1, t, v => wy_t P q l n (t + 1) (wy_rl P v q l t)
def wy_l (P : am_P) (q : Int) : Nat → Int → wy_V → wy_V
  | 0, _, v => v
  | n + 1, l, v => wy_l P q n (l + 1) (wy_t P q l (pm_S P).toNat 0 v)
def wy_q (P : am_P) : Nat → Int → wy_V → wy_V
  | 0, _, v => v
  | n + 1, q, v => wy_q P n (q + 1) (wy_l P q 3 0 v)
def wy_R (P : am_P) (v : wy_V) : wy_V := wy_q P (pm_S P).toNat 0 v
def wy_0 : wy_V := fun x y => if 0 ≤ x ∧ x < 6 ∧ x = y then some 0 else none
def wy_I (P : am_P) : Nat → wy_V
  | 0 => wy_0
  | k + 1 => wy_R P (wy_I P k)
/-- at most -/
def wy_ol (a b : Option Nat) : Prop := b = none ∨ ∃ n m, a = some n ∧ b = some m ∧ n ≤ m
def wy_le (v w : wy_V) : Prop := ∀ x y, wy_ol (v x y) (w x y)
theorem wy_ol.rfl' {a : Option Nat} : wy_ol a a := by
  cases a with
  | none => exact Or.inl rfl
  | some n => exact Or.inr ⟨n, n, rfl, rfl, Nat.le_refl _⟩
theorem wy_ol.trans {a b c : Option Nat} (h : wy_ol a b) (h' : wy_ol b c) : wy_ol a c := by
  rcases h' with h' | ⟨n, m, e1, e2, h'⟩
  · exact Or.inl h'
  · rcases h with h | ⟨n', m', e3, e4, h⟩
    · rw [h] at e1; exact nomatch e1
    · rw [e1] at e4
      injection e4 with e4
      exact Or.inr ⟨n', m, e3, e2, by omega⟩
theorem wy_ol.anti {a b : Option Nat} (h : wy_ol a b) (h' : wy_ol b a) : a = b := by
  rcases h with h | ⟨n, m, e1, e2, h⟩
  · rcases h' with h' | ⟨n, m, e1, e2, h'⟩
    · rw [h, h']
    · rw [h] at e1; exact nomatch e1
  · rcases h' with h' | ⟨n', m', e3, e4, h'⟩
    · rw [h'] at e1; exact nomatch e1
    · rw [e2] at e3; injection e3 with e3
      rw [e1] at e4; injection e4 with e4
      rw [e1, e2]
      congr 1
      omega
theorem wy_le.rfl' {v : wy_V} : wy_le v v := fun _ _ => wy_ol.rfl'
theorem wy_le.trans {u v w : wy_V} (h : wy_le u v) (h' : wy_le v w) : wy_le u w := fun x y => (h x y).trans (h' x y)
theorem wy_le.anti {v w : wy_V} (h : wy_le v w) (h' : wy_le w v) : v = w := by funext x y; exact (h x y).anti (h' x y)
theorem wy_1_le {c b : Option Nat} {e : Nat} : wy_ol (wy_1 c e b) c := by
  unfold wy_1
  cases b with
  | none => exact wy_ol.rfl'
  | some n =>
    cases c with
    | none => exact Or.inl rfl
    | some m =>
      show wy_ol (if e + n < m then some (e + n) else some m) (some m)
      split
      · exact Or.inr ⟨_, _, rfl, rfl, by omega⟩
      · exact wy_ol.rfl'
theorem wy_by_le {v : wy_V} {q to : Int} {e : Nat} : wy_le (wy_by v q to e) v := by
  intro x y
  unfold wy_by
  split
  next h => rw [h.1]; exact wy_1_le
  · exact wy_ol.rfl'
theorem wy_rl_le {P : am_P} {v : wy_V} {q l t : Int} : wy_le (wy_rl P v q l t) v := by
  unfold wy_rl
  split
  · exact wy_le.rfl'
  · split
    · exact wy_le.rfl'
    · split
      · exact wy_le.rfl'
      · exact wy_by_le
theorem wy_t_le {P : am_P} {q l : Int} : ∀ (n : Nat) (t : Int) (v : wy_V), wy_le (wy_t P q l n t v) v := by
  intro n
  induction n with
  | zero => intro t v; exact wy_le.rfl'
  | succ n ih => intro t v; exact (ih _ _).trans wy_rl_le
theorem wy_l_le {P : am_P} {q : Int} : ∀ (n : Nat) (l : Int) (v : wy_V), wy_le (wy_l P q n l v) v := by
  intro n
  induction n with
  | zero => intro l v; exact wy_le.rfl'
  | succ n ih => intro l v; exact (ih _ _).trans (wy_t_le _ _ _)
theorem wy_q_le {P : am_P} : ∀ (n : Nat) (q : Int) (v : wy_V), wy_le (wy_q P n q v) v := by
  intro n
  induction n with
  | zero => intro q v; exact wy_le.rfl'
  | succ n ih => intro q v; exact (ih _ _).trans (wy_l_le _ _ _)
theorem wy_R_le {P : am_P} {v : wy_V} : wy_le (wy_R P v) v := wy_q_le _ _ _
/-- where a round passes: ahead of each of its turns, what is then -/
theorem wy_t_at {P : am_P} {q l : Int} : ∀ (n : Nat) (t0 : Int) (v : wy_V) (t : Int), t0 ≤ t → t < t0 + n → ∃ u, wy_le u v ∧ wy_le (wy_t P q l n t0 v) (wy_rl P u q l t) := by
  intro n
  induction n with
  | zero => intro t0 v t h1 h2; omega
  | succ n ih =>
    intro t0 v t h1 h2
    by_cases z : t = t0
    · subst z
      exact ⟨v, wy_le.rfl', wy_t_le _ _ _⟩
    · obtain ⟨u, h3, h4⟩ := ih (t0 + 1) (wy_rl P v q l t0) t (by omega) (by omega)
      exact ⟨u, h3.trans wy_rl_le, h4⟩
theorem wy_l_at {P : am_P} {q : Int} : ∀ (n : Nat) (l0 : Int) (v : wy_V) (l t : Int), l0 ≤ l → l < l0 + n → 0 ≤ t → t < pm_S P → ∃ u, wy_le u v ∧ wy_le (wy_l P q n l0 v) (wy_rl P u q l t) := by
  intro n
  induction n with
  | zero => intro l0 v l t h1 h2; omega
  | succ n ih =>
    intro l0 v l t h1 h2 h3 h4
    by_cases z : l = l0
    · subst z
      obtain ⟨u, h5, h6⟩ := wy_t_at (P := P) (q := q) (l := l) (pm_S P).toNat 0 v t h3 (by omega)
      exact ⟨u, h5, (wy_l_le n (l + 1) (wy_t P q l (pm_S P).toNat 0 v)).trans h6⟩
    · obtain ⟨u, h5, h6⟩ := ih (l0 + 1) (wy_t P q l0 (pm_S P).toNat 0 v) l t (by omega) (by omega) h3 h4
      exact ⟨u, h5.trans (wy_t_le _ _ _), h6⟩
theorem wy_q_at {P : am_P} : ∀ (n : Nat) (q0 : Int) (v : wy_V) (q l t : Int), q0 ≤ q → q < q0 + n → 0 ≤ l → l < 3 → 0 ≤ t → t < pm_S P → ∃ u, wy_le u v ∧ wy_le (wy_q P n q0 v) (wy_rl P u q l t) := by
  intro n
  induction n with
  | zero => intro q0 v q l t h1 h2; omega
  | succ n ih =>
    intro q0 v q l t h1 h2 h3 h4 h5 h6
    by_cases z : q = q0
    · subst z
      obtain ⟨u, h7, h8⟩ := wy_l_at (P := P) (q := q) 3 0 v l t h3 (by omega) h5 h6
      exact ⟨u, h7, (wy_q_le n (q + 1) (wy_l P q 3 0 v)).trans h8⟩
    · obtain ⟨u, h7, h8⟩ := ih (q0 + 1) (wy_l P q0 3 0 v) q l t (by omega) (by omega) h3 h4 h5 h6
      exact ⟨u, h7.trans (wy_l_le _ _ _), h8⟩
/-- an invariant of turns is one of rounds -/
theorem wy_R_inv {P : am_P} {I : wy_V → Prop} (h : ∀ v q l t, 0 ≤ q → q < pm_S P → 0 ≤ l → l < 3 → 0 ≤ t → t < pm_S P → I v → I (wy_rl P v q l t)) {v : wy_V} (hv : I v) : I (wy_R P v) := by
  have ht : ∀ (q l : Int), 0 ≤ q → q < pm_S P → 0 ≤ l → l < 3 → ∀ (n : Nat) (t : Int) (v : wy_V), 0 ≤ t → t + n ≤ pm_S P → I v → I (wy_t P q l n t v) := by
    intro q l y1 y2 y3 y4 n
    induction n with
    | zero => intro t v _ _ hv; exact hv
    | succ n ih => intro t v h0 h1 hv; exact ih (t + 1) _ (by omega) (by omega) (h v q l t y1 y2 y3 y4 h0 (by omega) hv)
  have hl : ∀ (q : Int), 0 ≤ q → q < pm_S P → ∀ (n : Nat) (l : Int) (v : wy_V), 0 ≤ l → l + n ≤ 3 → I v → I (wy_l P q n l v) := by
    intro q y1 y2 n
    induction n with
    | zero => intro l v _ _ hv; exact hv
    | succ n ih => intro l v h0 h1 hv; exact ih (l + 1) _ (by omega) (by omega) (ht q l y1 y2 h0 (by omega) _ _ _ (Int.le_refl _) (by omega) hv)
  have hq : ∀ (n : Nat) (q : Int) (v : wy_V), 0 ≤ q → q + n ≤ pm_S P → I v → I (wy_q P n q v) := by
    intro n
    induction n with
    | zero => intro q v _ _ hv; exact hv
    | succ n ih => intro q v h0 h1 hv; exact ih (q + 1) _ (by omega) (by omega) (hl q h0 (by omega) 3 0 v (Int.le_refl _) (by omega) hv)
  unfold wy_R
  by_cases z : 0 ≤ pm_S P
  · exact hq _ 0 v (Int.le_refl _) (by omega) hv
  · rw [show (pm_S P).toNat = 0 by omega]
    exact hv
end
