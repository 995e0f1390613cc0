section
/-! Rounds come to an end. -/
def wy_sum (f : Nat → Nat) : Nat → Nat
  | 0 => 0
  | n + 1 => wy_sum f n + f n
theorem wy_sum_le {f g : Nat → Nat} : ∀ {n : Nat}, (∀ i, i < n → f i ≤ g i) → wy_sum f n ≤ wy_sum g n := by
  intro n
  induction n with
  | zero => intro _; exact Nat.le_refl _
  | succ n ih =>
    intro h
    have h1 := ih (fun i hi => h i (by omega))
    have h2 := h n (by omega)
    show wy_sum f n + f n ≤ wy_sum g n + g n
    omega
theorem wy_sum_lt {f g : Nat → Nat} : ∀ {n : Nat}, (∀ i, i < n → f i ≤ g i) → ∀ j, j < n → f j < g j → wy_sum f n < wy_sum g n := by
  intro n
  induction n with
  | zero => intro _ j hj; omega
  | succ n ih =>
    intro h j hj hlt
    show wy_sum f n + f n < wy_sum g n + g n
    by_cases e : j = n
    · subst e
      have h1 := wy_sum_le (f := f) (g := g) (n := j) (fun i hi => h i (by omega))
      omega
    · have h1 := ih (fun i hi => h i (by omega)) j (by omega) hlt
      have h2 := h n (by omega)
      omega
def wy_fn (v : wy_V) : Nat := wy_sum (fun k => if (v ((k / 6 : Nat) : Int) ((k % 6 : Nat) : Int)).isSome then 1 else 0) 36
/-- what holds between turns -/
def wy_J (P : am_P) (v : wy_V) : Prop := (∀ x y, v x y ≠ none → (0 ≤ x ∧ x < 6) ∧ (0 ≤ y ∧ y < 6) ∧ (x = y ∨ (x < pm_S P ∧ y < pm_S P))) ∧ (∀ x, 0 ≤ x → x < 6 → v x x = some 0) ∧
  (∀ x y n, x ≠ y → v x y = some n → ∃ l t a b, (0 ≤ l ∧ l < 3) ∧ (0 ≤ t ∧ t < pm_S P) ∧ pm_oT P l x ≠ -1 ∧ pm_cT P l t (pm_oM P l x) ≠ -1 ∧ v (pm_oT P l x) t = some a ∧ v (pm_cT P l t (pm_oM P l x)) y = some b ∧ 1 + a + b ≤ n) ∧ ∀ x y n, v x y = some n → n + 1 ≤ 2 ^ wy_fn v
theorem wy_J0 {P : am_P} : wy_J P wy_0 := by
  have hv : ∀ x y n, wy_0 x y = some n → (0 ≤ x ∧ x < 6) ∧ x = y ∧ n = 0 := by
    intro x y n h
    unfold wy_0 at h
    split at h
    next z => injection h with h; exact ⟨⟨z.1, z.2.1⟩, z.2.2, h.symm⟩
    · exact nomatch h
  refine ⟨fun x y h => ?_, fun x h1 h2 => if_pos ⟨h1, h2, rfl⟩, fun x y n hne h => absurd (hv x y n h).2.1 hne, fun x y n h => ?_⟩
  · cases e : wy_0 x y with
    | none => exact absurd e h
    | some n => have := hv x y n e; omega
  · rw [(hv x y n h).2.2]
    exact Nat.pow_pos (by decide)
theorem wy_fn_le {v w : wy_V} (h : wy_le v w) : wy_fn w ≤ wy_fn v := by
  refine wy_sum_le (fun i _ => ?_)
  rcases h ((i / 6 : Nat) : Int) ((i % 6 : Nat) : Int) with e | ⟨n, m, e1, e2, -⟩
  · rw [e]; exact Nat.zero_le _
  · rw [e1, e2]; exact Nat.le_refl _
theorem wy_fn_lt {v w : wy_V} {x y : Int} (h : wy_le v w) (hx : 0 ≤ x ∧ x < 6) (hy : 0 ≤ y ∧ y < 6) (h1 : w x y = none) (h2 : v x y ≠ none) : wy_fn w < wy_fn v := by
  refine wy_sum_lt (fun i _ => ?_) (6 * x + y).toNat (by omega) ?_
  · rcases h ((i / 6 : Nat) : Int) ((i % 6 : Nat) : Int) with e | ⟨n, m, e1, e2, -⟩
    · rw [e]; exact Nat.zero_le _
    · rw [e1, e2]; exact Nat.le_refl _
  · rw [show (((6 * x + y).toNat / 6 : Nat) : Int) = x by omega, show (((6 * x + y).toNat % 6 : Nat) : Int) = y by omega, h1]
    cases e : v x y with
    | none => exact absurd e h2
    | some n => show (0 : Nat) < 1; omega
theorem wy_J_rl {P : am_P} (hP : pm_ok P) : ∀ (v : wy_V) (q l t : Int), 0 ≤ q → q < pm_S P → 0 ≤ l → l < 3 → 0 ≤ t → t < pm_S P → wy_J P v → wy_J P (wy_rl P v q l t) := by
  intro v q l t q0 q1 l0 l1 t0 t1 hJ
  have hle : wy_le (wy_rl P v q l t) v := wy_rl_le
  unfold wy_rl at hle ⊢
  by_cases ho : pm_oT P l q = -1
  · rw [if_pos ho]; exact hJ
  rw [if_neg ho] at hle ⊢
  by_cases hc : pm_cT P l t (pm_oM P l q) = -1
  · rw [if_pos hc]; exact hJ
  rw [if_neg hc] at hle ⊢
  cases ha : v (pm_oT P l q) t with
  | none => exact hJ
  | some a =>
  rw [ha] at hle
  obtain ⟨j1, j2, j3, j4⟩ := id hJ
  have hS := hP.1
  have hcT := hP.2.2.2.2.2.2.2 l t (pm_oM P l q)
  have hle : wy_le (wy_by v q (pm_cT P l t (pm_oM P l q)) (a + 1)) v := hle
  show wy_J P (wy_by v q (pm_cT P l t (pm_oM P l q)) (a + 1))
  -- each entry: as it was, or made here
  have key : ∀ x y n, wy_by v q (pm_cT P l t (pm_oM P l q)) (a + 1) x y = some n → v x y = some n ∨ (x = q ∧ (0 ≤ y ∧ y < 6) ∧ ∃ b, v (pm_cT P l t (pm_oM P l q)) y = some b ∧ n = a + 1 + b ∧ (v x y = none ∨ ∃ m, v x y = some m ∧ n < m)) := by
    intro x y n h
    unfold wy_by at h
    by_cases z : x = q ∧ 0 ≤ y ∧ y < 6
    · rw [if_pos z] at h
      rw [z.1]
      unfold wy_1 at h
      cases hb : v (pm_cT P l t (pm_oM P l q)) y with
      | none => rw [hb] at h; exact Or.inl h
      | some b =>
        rw [hb] at h
        cases hv : v q y with
        | none =>
          rw [hv] at h
          injection h with h
          exact Or.inr ⟨rfl, z.2, b, rfl, h.symm, Or.inl rfl⟩
        | some m =>
          rw [hv] at h
          have h : (if a + 1 + b < m then some (a + 1 + b) else some m) = some n := h
          by_cases y2 : a + 1 + b < m
          · rw [if_pos y2] at h
            injection h with h
            exact Or.inr ⟨rfl, z.2, b, rfl, h.symm, Or.inr ⟨m, rfl, by omega⟩⟩
          · rw [if_neg y2] at h
            exact Or.inl h
    · rw [if_neg z] at h
      exact Or.inl h
  refine ⟨fun x y h => ?_, fun x h1 h2 => ?_, fun x y n hne h => ?_, fun x y n h => ?_⟩
  · cases e : wy_by v q (pm_cT P l t (pm_oM P l q)) (a + 1) x y with
    | none => exact absurd e h
    | some n =>
      rcases key x y n e with h | ⟨rfl, hy, b, hb, -, -⟩
      · exact j1 x y (by rw [h]; exact fun z => nomatch z)
      · have := j1 _ y (by rw [hb]; exact fun z => nomatch z)
        exact ⟨by omega, hy, Or.inr ⟨by omega, by omega⟩⟩
  · rcases hle x x with z | ⟨n, m, e1, e2, h3⟩
    · rw [j2 x h1 h2] at z; exact nomatch z
    · rw [j2 x h1 h2] at e2
      injection e2 with e2
      rw [e1]
      congr 1
      omega
  · have dn : ∀ x y n, v x y = some n → ∃ m, wy_by v q (pm_cT P l t (pm_oM P l q)) (a + 1) x y = some m ∧ m ≤ n := by
      intro x y n h
      rcases hle x y with z | ⟨n', m, e1, e2, h3⟩
      · rw [h] at z; exact nomatch z
      · rw [h] at e2
        injection e2 with e2
        exact ⟨n', e1, by omega⟩
    rcases key x y n h with h | ⟨rfl, hy, b, hb, hn, -⟩
    · obtain ⟨l', t', a', b', k1, k2, k3, k4, k5, k6, k7⟩ := j3 x y n hne h
      obtain ⟨a2, k8, k9⟩ := dn _ _ _ k5
      obtain ⟨b2, k10, k11⟩ := dn _ _ _ k6
      exact ⟨l', t', a2, b2, k1, k2, k3, k4, k8, k10, by omega⟩
    · obtain ⟨a2, k8, k9⟩ := dn _ _ _ ha
      obtain ⟨b2, k10, k11⟩ := dn _ _ _ hb
      exact ⟨l, t, a2, b2, ⟨l0, l1⟩, ⟨t0, t1⟩, ho, hc, k8, k10, by omega⟩
  · have hfl := wy_fn_le hle
    have hpw : 2 ^ wy_fn v ≤ 2 ^ wy_fn (wy_by v q (pm_cT P l t (pm_oM P l q)) (a + 1)) := Nat.pow_le_pow_right (by decide) hfl
    rcases key x y n h with h' | ⟨rfl, hy, b, hb, hn, hold⟩
    · have := j4 x y n h'
      omega
    · have h1 := j4 _ _ _ ha
      have h2 := j4 _ _ _ hb
      rcases hold with hold | ⟨m, hm, hlt⟩
      · have hf := wy_fn_lt hle (x := x) (y := y) (by omega) hy hold (by rw [h]; exact fun z => nomatch z)
        have hp2 : 2 ^ (wy_fn v + 1) ≤ 2 ^ wy_fn (wy_by v x (pm_cT P l t (pm_oM P l x)) (a + 1)) := Nat.pow_le_pow_right (by decide) hf
        rw [Nat.pow_succ] at hp2
        omega
      · have := j4 x y m hm
        omega
theorem wy_J_R {P : am_P} (hP : pm_ok P) {v : wy_V} (h : wy_J P v) : wy_J P (wy_R P v) := wy_R_inv (I := wy_J P) (wy_J_rl hP) h
theorem wy_J_I {P : am_P} (hP : pm_ok P) : ∀ k, wy_J P (wy_I P k) := by
  intro k
  induction k with
  | zero => exact wy_J0
  | succ k ih => exact wy_J_R hP ih
theorem wy_fn_36 (v : wy_V) : wy_fn v ≤ 36 := by
  have : ∀ (f : Nat → Nat) (n : Nat), (∀ i, f i ≤ 1) → wy_sum f n ≤ n := by
    intro f n h
    induction n with
    | zero => exact Nat.le_refl _
    | succ n ih => have := h n; show wy_sum f n + f n ≤ n + 1; omega
  refine this _ 36 (fun i => ?_)
  split <;> omega
theorem wy_J.lt {P : am_P} {v : wy_V} (h : wy_J P v) {x y : Int} {n : Nat} (hv : v x y = some n) : n < 2 ^ 36 := by
  have h1 := h.2.2.2 x y n hv
  have h2 : 2 ^ wy_fn v ≤ 2 ^ 36 := Nat.pow_le_pow_right (by decide) (wy_fn_36 v)
  omega
theorem wy_I_le {P : am_P} : ∀ (k j : Nat), j ≤ k → wy_le (wy_I P k) (wy_I P j) := by
  intro k
  induction k with
  | zero => intro j hj; have : j = 0 := by omega
            subst this; exact wy_le.rfl'
  | succ k ih =>
    intro j hj
    by_cases e : j = k + 1
    · subst e; exact wy_le.rfl'
    · exact wy_R_le.trans (ih j (by omega))
theorem wy_I_const {P : am_P} {k : Nat} (h : wy_R P (wy_I P k) = wy_I P k) : ∀ j, k ≤ j → wy_I P j = wy_I P k := by
  intro j
  induction j with
  | zero => intro hj; have : k = 0 := by omega
            subst this; rfl
  | succ j ih =>
    intro hj
    by_cases e : k = j + 1
    · subst e; rfl
    · show wy_R P (wy_I P j) = _
      rw [ih (by omega)]
      exact h
def wy_val (o : Option Nat) : Nat := match o with
  | none => 2 ^ 36
  | some n => n
theorem wy_diff {P : am_P} {v w : wy_V} (hv : wy_J P v) (hw : wy_J P w) (hle : wy_le v w) (hne : v ≠ w) : ∃ x y, (0 ≤ x ∧ x < 6) ∧ (0 ≤ y ∧ y < 6) ∧ v x y ≠ w x y := by
  apply Classical.byContradiction
  intro hno
  apply hne
  funext x y
  apply Classical.byContradiction
  intro hxy
  apply hno
  have : v x y ≠ none := by
    intro z
    rcases hle x y with e | ⟨n, m, e1, e2, -⟩
    · exact hxy (z.trans e.symm)
    · rw [z] at e1; exact nomatch e1
  have h1 := hv.1 x y this
  exact ⟨x, y, h1.1, h1.2.1, hxy⟩
theorem wy_ends {P : am_P} (hP : pm_ok P) : ∃ K, wy_R P (wy_I P K) = wy_I P K := by
  have key : ∀ (m k : Nat), wy_sum (fun i => wy_val (wy_I P k ((i / 6 : Nat) : Int) ((i % 6 : Nat) : Int))) 36 ≤ m → ∃ K, wy_R P (wy_I P K) = wy_I P K := by
    intro m
    induction m with
    | zero =>
      intro k hm
      by_cases e : wy_R P (wy_I P k) = wy_I P k
      · exact ⟨k, e⟩
      · exfalso
        obtain ⟨x, y, hx, hy, hxy⟩ := wy_diff (wy_J_I hP (k + 1)) (wy_J_I hP k) wy_R_le e
        have : wy_sum (fun i => wy_val (wy_I P (k + 1) ((i / 6 : Nat) : Int) ((i % 6 : Nat) : Int))) 36 < wy_sum (fun i => wy_val (wy_I P k ((i / 6 : Nat) : Int) ((i % 6 : Nat) : Int))) 36 := by
          have hstep : ∀ a b, wy_ol (wy_I P (k + 1) a b) (wy_I P k a b) ∧ wy_val (wy_I P (k + 1) a b) ≤ wy_val (wy_I P k a b) ∧ (wy_I P (k + 1) a b ≠ wy_I P k a b → wy_val (wy_I P (k + 1) a b) < wy_val (wy_I P k a b)) := by
            intro a b
            have hl : wy_ol (wy_I P (k + 1) a b) (wy_I P k a b) := wy_R_le a b
            refine ⟨hl, ?_⟩
            rcases hl with e | ⟨n, m, e1, e2, h3⟩
            · cases e1 : wy_I P (k + 1) a b with
              | none => rw [e]; exact ⟨Nat.le_refl _, fun z => absurd rfl z⟩
              | some n =>
                have := (wy_J_I hP (k + 1)).lt e1
                rw [e]
                exact ⟨by show n ≤ 2 ^ 36; omega, fun _ => this⟩
            · rw [e1, e2]
              exact ⟨h3, fun z => by
                have : n ≠ m := fun w => z (by rw [w])
                show n < m
                omega⟩
          refine wy_sum_lt (fun i _ => (hstep _ _).2.1) (6 * x + y).toNat (by omega) ?_
          rw [show (((6 * x + y).toNat / 6 : Nat) : Int) = x by omega, show (((6 * x + y).toNat % 6 : Nat) : Int) = y by omega]
          exact (hstep x y).2.2 hxy
        omega
    | succ m ih =>
      intro k hm
      by_cases e : wy_R P (wy_I P k) = wy_I P k
      · exact ⟨k, e⟩
      · obtain ⟨x, y, hx, hy, hxy⟩ := wy_diff (wy_J_I hP (k + 1)) (wy_J_I hP k) wy_R_le e
        refine ih (k + 1) ?_
        have : wy_sum (fun i => wy_val (wy_I P (k + 1) ((i / 6 : Nat) : Int) ((i % 6 : Nat) : Int))) 36 < wy_sum (fun i => wy_val (wy_I P k ((i / 6 : Nat) : Int) ((i % 6 : Nat) : Int))) 36 := by
          have hstep : ∀ a b, wy_ol (wy_I P (k + 1) a b) (wy_I P k a b) ∧ wy_val (wy_I P (k + 1) a b) ≤ wy_val (wy_I P k a b) ∧ (wy_I P (k + 1) a b ≠ wy_I P k a b → wy_val (wy_I P (k + 1) a b) < wy_val (wy_I P k a b)) := by
            intro a b
            have hl : wy_ol (wy_I P (k + 1) a b) (wy_I P k a b) := wy_R_le a b
            refine ⟨hl, ?_⟩
            rcases hl with e | ⟨n, m, e1, e2, h3⟩
            · cases e1 : wy_I P (k + 1) a b with
              | none => rw [e]; exact ⟨Nat.le_refl _, fun z => absurd rfl z⟩
              | some n =>
                have := (wy_J_I hP (k + 1)).lt e1
                rw [e]
                exact ⟨by show n ≤ 2 ^ 36; omega, fun _ => this⟩
            · rw [e1, e2]
              exact ⟨h3, fun z => by
                have : n ≠ m := fun w => z (by rw [w])
                show n < m
                omega⟩
          refine wy_sum_lt (fun i _ => (hstep _ _).2.1) (6 * x + y).toNat (by omega) ?_
          rw [show (((6 * x + y).toNat / 6 : Nat) : Int) = x by omega, show (((6 * x + y).toNat % 6 : Nat) : Int) = y by omega]
          exact (hstep x y).2.2 hxy
        omega
  exact key _ 0 (Nat.le_refl _)
/-- where they differ -/
def wy_ct (v w : wy_V) : Nat := wy_sum (fun i => if v ((i / 6 : Nat) : Int) ((i % 6 : Nat) : Int) = w ((i / 6 : Nat) : Int) ((i % 6 : Nat) : Int) then 0 else 1) 36
theorem wy_ct_36 (v w : wy_V) : wy_ct v w ≤ 36 := by
  have : ∀ (f : Nat → Nat) (n : Nat), (∀ i, f i ≤ 1) → wy_sum f n ≤ n := by
    intro f n h
    induction n with
    | zero => exact Nat.le_refl _
    | succ n ih => have := h n; show wy_sum f n + f n ≤ n + 1; omega
  refine this _ 36 (fun i => ?_)
  split <;> omega
theorem wy_ct_lt {u v w : wy_V} {x y : Int} (hx : 0 ≤ x ∧ x < 6) (hy : 0 ≤ y ∧ y < 6) (h : ∀ a b, v a b = w a b → u a b = w a b) (h1 : u x y = w x y) (h2 : v x y ≠ w x y) : wy_ct u w < wy_ct v w := by
  refine wy_sum_lt (fun i _ => ?_) (6 * x + y).toNat (by omega) ?_
  · by_cases z : v ((i / 6 : Nat) : Int) ((i % 6 : Nat) : Int) = w ((i / 6 : Nat) : Int) ((i % 6 : Nat) : Int)
    · rw [if_pos (h _ _ z)]; exact Nat.zero_le _
    · rw [if_neg z]; split <;> omega
  · rw [show (((6 * x + y).toNat / 6 : Nat) : Int) = x by omega, show (((6 * x + y).toNat % 6 : Nat) : Int) = y by omega, if_pos h1, if_neg h2]
    omega
theorem wy_ct_pos {v w : wy_V} {x y : Int} (hx : 0 ≤ x ∧ x < 6) (hy : 0 ≤ y ∧ y < 6) (h2 : v x y ≠ w x y) : 0 < wy_ct v w := by
  have := wy_ct_lt (u := w) (v := v) (w := w) hx hy (fun a b _ => rfl) rfl h2
  omega
/-- within 36 rounds -/
theorem wy_fix {P : am_P} (hP : pm_ok P) : wy_R P (wy_I P 36) = wy_I P 36 ∧ ∀ k, wy_R P (wy_I P k) = wy_I P k → wy_I P k = wy_I P 36 := by
  obtain ⟨K, hK⟩ := wy_ends hP
  have hJ := wy_J_I hP K
  have low : ∀ k, wy_le (wy_I P K) (wy_I P k) := by
    intro k
    by_cases z : k ≤ K
    · exact wy_I_le K k z
    · rw [wy_I_const hK k (by omega)]; exact wy_le.rfl'
  -- one more is as at the end
  have prog : ∀ (n : Nat) (k : Nat) (x y : Int), wy_I P K x y = some n → wy_I P k x y ≠ wy_I P K x y → ∃ x' y', (0 ≤ x' ∧ x' < 6) ∧ (0 ≤ y' ∧ y' < 6) ∧ wy_I P k x' y' ≠ wy_I P K x' y' ∧ wy_I P (k + 1) x' y' = wy_I P K x' y' := by
    intro n
    induction n using Nat.strongRecOn with
    | ind n ih =>
      intro k x y hxy hne
      have hr := hJ.1 x y (by rw [hxy]; exact fun z => nomatch z)
      have hxy' : x ≠ y := by
        intro e
        subst e
        apply hne
        rw [(wy_J_I hP k).2.1 x (by omega) (by omega), hJ.2.1 x (by omega) (by omega)]
      obtain ⟨l, t, a, b, k1, k2, k3, k4, k5, k6, k7⟩ := hJ.2.2.1 x y n hxy' hxy
      by_cases e1 : wy_I P k (pm_oT P l x) t = wy_I P K (pm_oT P l x) t
      · by_cases e2 : wy_I P k (pm_cT P l t (pm_oM P l x)) y = wy_I P K (pm_cT P l t (pm_oM P l x)) y
        · refine ⟨x, y, hr.1, hr.2.1, hne, ?_⟩
          have hxS : x < pm_S P := by omega
          obtain ⟨u, h1, h2⟩ := wy_q_at (P := P) (pm_S P).toNat 0 (wy_I P k) x l t (by omega) (by omega) k1.1 k1.2 k2.1 k2.2
          have h2 : wy_le (wy_I P (k + 1)) (wy_rl P u x l t) := h2
          have h3 : wy_le (wy_I P K) u := ((low (k + 1)).trans h2).trans wy_rl_le
          have u1 : u (pm_oT P l x) t = some a := by
            have g1 := h1 (pm_oT P l x) t
            rw [e1] at g1
            have := wy_ol.anti g1 (h3 (pm_oT P l x) t)
            rw [this]; exact k5
          have u2 : u (pm_cT P l t (pm_oM P l x)) y = some b := by
            have g1 := h1 (pm_cT P l t (pm_oM P l x)) y
            rw [e2] at g1
            have := wy_ol.anti g1 (h3 (pm_cT P l t (pm_oM P l x)) y)
            rw [this]; exact k6
          have h4 := h2 x y
          have h5 : wy_ol (wy_rl P u x l t x y) (some n) := by
            unfold wy_rl
            rw [if_neg k3, if_neg k4, u1]
            show wy_ol (wy_by u x (pm_cT P l t (pm_oM P l x)) (a + 1) x y) (some n)
            unfold wy_by
            rw [if_pos ⟨rfl, hr.2.1⟩, u2]
            unfold wy_1
            cases hux : u x y with
            | none => exact Or.inr ⟨_, n, rfl, rfl, by omega⟩
            | some m =>
              show wy_ol (if a + 1 + b < m then some (a + 1 + b) else some m) (some n)
              by_cases z : a + 1 + b < m
              · rw [if_pos z]; exact Or.inr ⟨_, n, rfl, rfl, by omega⟩
              · rw [if_neg z]; exact Or.inr ⟨_, n, rfl, rfl, by omega⟩
          rw [← hxy] at h5
          exact wy_ol.anti (h4.trans h5) (low (k + 1) x y)
        · exact ih b (by omega) k _ _ k6 e2
      · exact ih a (by omega) k _ _ k5 e1
  -- how many are not
  obtain ⟨c, hc0, hcl, hcp⟩ : ∃ c : Nat → Nat, (∀ k, c k ≤ 36) ∧ (∀ k x y, (0 ≤ x ∧ x < 6) → (0 ≤ y ∧ y < 6) → (∀ a b, wy_I P k a b = wy_I P K a b → wy_I P (k + 1) a b = wy_I P K a b) → wy_I P (k + 1) x y = wy_I P K x y → wy_I P k x y ≠ wy_I P K x y → c (k + 1) < c k) ∧ (∀ k x y, (0 ≤ x ∧ x < 6) → (0 ≤ y ∧ y < 6) → wy_I P k x y ≠ wy_I P K x y → 0 < c k) := ⟨fun k => wy_ct (wy_I P k) (wy_I P K), fun k => wy_ct_36 _ _, fun k x y hx hy h h1 h2 => wy_ct_lt hx hy h h1 h2, fun k x y hx hy h => wy_ct_pos hx hy h⟩
  have cnt : ∀ k : Nat, wy_I P k = wy_I P K ∨ c k + k ≤ 36 := by
    intro k
    induction k with
    | zero => exact Or.inr (hc0 0)
    | succ k ih =>
      by_cases e : wy_I P k = wy_I P K
      · left
        have : wy_R P (wy_I P k) = wy_I P k := by rw [e]; exact hK
        show wy_R P (wy_I P k) = _
        rw [this]; exact e
      · rcases ih with z | ih
        · exact absurd z e
        right
        obtain ⟨x, y, hx, hy, hxy⟩ := wy_diff hJ (wy_J_I hP k) (low k) (fun z => e z.symm)
        have hfin : ∃ n, wy_I P K x y = some n := by
          cases h1 : wy_I P K x y with
          | none =>
            exfalso
            rcases low k x y with z | ⟨n, m, e1, -, -⟩
            · exact hxy (h1.trans z.symm)
            · rw [h1] at e1; exact nomatch e1
          | some n => exact ⟨n, rfl⟩
        obtain ⟨n, hn⟩ := hfin
        obtain ⟨x', y', hx', hy', h1, h2⟩ := prog n k x y hn (fun z => hxy z.symm)
        have hl : wy_le (wy_I P (k + 1)) (wy_I P k) := wy_I_le (k + 1) k (by omega)
        have hlo := low (k + 1)
        have := hcl k x' y' hx' hy' (fun a b z => by
          have h3 := hl a b
          rw [z] at h3
          exact wy_ol.anti h3 (hlo a b)) h2 h1
        omega
  have h36 : wy_I P 36 = wy_I P K := by
    rcases cnt 36 with z | z
    · exact z
    · apply Classical.byContradiction
      intro hne
      obtain ⟨x, y, hx, hy, hxy⟩ := wy_diff hJ (wy_J_I hP 36) (low 36) (fun w => hne w.symm)
      have := hcp 36 x y hx hy (fun w => hxy w.symm)
      omega
  refine ⟨by rw [h36]; exact hK, fun k hk => ?_⟩
  by_cases z : k ≤ 36
  · exact (wy_I_const hk 36 z).symm
  · exact wy_I_const (by rw [h36]; exact hK) k (by omega)
end
