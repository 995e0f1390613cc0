section
/-! How many DOCUMENTS: sums of longs. -/
def js (f : Nat → Int64) : Nat → Int64
  | 0 => 0
  | n + 1 => js f n + f n
theorem js_congr {f g : Nat → Int64} : ∀ {n : Nat}, (∀ i, i < n → f i = g i) → js f n = js g n := by
  intro n
  induction n with
  | zero => intro _; rfl
  | succ n ih =>
    intro h
    show js f n + f n = js g n + g n
    rw [ih (fun i hi => h i (by omega)), h n (by omega)]
theorem js_zero {f : Nat → Int64} : ∀ {n : Nat}, (∀ i, i < n → f i = 0) → js f n = 0 := by
  intro n
  induction n with
  | zero => intro _; rfl
  | succ n ih =>
    intro h
    show js f n + f n = 0
    rw [ih (fun i hi => h i (by omega)), h n (by omega), Int64.add_zero]
theorem js_add {f g : Nat → Int64} : ∀ {n : Nat}, js (fun i => f i + g i) n = js f n + js g n := by
  intro n
  induction n with
  | zero => show (0 : Int64) = 0 + 0; rw [Int64.add_zero]
  | succ n ih =>
    show js (fun i => f i + g i) n + (f n + g n) = js f n + f n + (js g n + g n)
    rw [ih, Int64.add_assoc, Int64.add_assoc, ← Int64.add_assoc (js g n), Int64.add_comm (js g n) (f n), Int64.add_assoc]
theorem js_swap {f : Nat → Nat → Int64} {m : Nat} : ∀ {n : Nat}, js (fun i => js (fun j => f i j) m) n = js (fun j => js (fun i => f i j) n) m := by
  intro n
  induction n with
  | zero => exact (js_zero (fun _ _ => rfl)).symm
  | succ n ih =>
    show js (fun i => js (fun j => f i j) m) n + js (fun j => f n j) m = js (fun j => js (fun i => f i j) n + f n j) m
    rw [js_add, ih]
theorem js_mul {f : Nat → Int64} {c : Int64} : ∀ {n : Nat}, js f n * c = js (fun i => f i * c) n := by
  intro n
  induction n with
  | zero => show (0 : Int64) * c = 0; exact Int64.zero_mul
  | succ n ih =>
    show (js f n + f n) * c = js (fun i => f i * c) n + f n * c
    rw [Int64.mul_comm, Int64.mul_add, Int64.mul_comm c, Int64.mul_comm c, ih]
theorem js_delta {g : Nat → Int64} {c : Nat} : ∀ {n : Nat}, c < n → js (fun u => if c = u then g u else 0) n = g c := by
  intro n
  induction n with
  | zero => intro h; omega
  | succ n ih =>
    intro h
    show js (fun u => if c = u then g u else 0) n + (if c = n then g n else 0) = g c
    by_cases e : c = n
    · subst e
      rw [js_zero (fun i hi => if_neg (by omega)), if_pos rfl, Int64.zero_add]
    · rw [ih (by omega), if_neg e, Int64.add_zero]
/-- by the LETTER of the first ELEMENT, what is within it, and behind it -/
def mn_w (P : am_P) (T : Nat → Nat → Nat → Int64) (m q s : Nat) : Int64 := js (fun l => if pm_oT P l q = -1 then 0 else js (fun i => js (fun e => if pm_cT P l e (pm_oM P l q) = -1 then 0 else T i (pm_oT P l q).toNat e * T (m - 1 - i) (pm_cT P l e (pm_oM P l q)).toNat s) (pm_S P).toNat) m) 3
/-- ways by one ELEMENT with m - 1 within -/
def mn_s (P : am_P) (T : Nat → Nat → Nat → Int64) (m q u : Nat) : Int64 := js (fun l => if pm_oT P l q = -1 then 0 else js (fun t => if pm_cT P l t (pm_oM P l q) = u then T (m - 1) (pm_oT P l q).toNat t else 0) (pm_S P).toNat) 3
def mt (P : am_P) : Nat → Nat → Nat → Nat → Int64
  | 0, i, q, s => if i = 0 ∧ q = s then 1 else 0
  | k + 1, i, q, s => if i = k + 1 then (if q < (pm_S P).toNat ∧ s < (pm_S P).toNat then mn_w P (mt P k) (k + 1) q s else 0) else mt P k i q s
def mT (P : am_P) (i q s : Nat) : Int64 := mt P i i q s
theorem mt_le {P : am_P} {i : Nat} : ∀ {k : Nat}, i ≤ k → mt P k i = mT P i := by
  intro k
  induction k with
  | zero => intro h; have : i = 0 := by omega
            subst this; rfl
  | succ k ih =>
    intro h
    by_cases e : i = k + 1
    · subst e; rfl
    · funext q s
      show (if i = k + 1 then _ else mt P k i q s) = _
      rw [if_neg e, ih (by omega)]
theorem mT_0 {P : am_P} {q s : Nat} : mT P 0 q s = if q = s then 1 else 0 := by
  show (if 0 = 0 ∧ q = s then (1 : Int64) else 0) = _
  by_cases z : q = s
  · rw [if_pos ⟨rfl, z⟩, if_pos z]
  · rw [if_neg (fun w => z w.2), if_neg z]
theorem mT_s {P : am_P} {k q s : Nat} : mT P (k + 1) q s = if q < (pm_S P).toNat ∧ s < (pm_S P).toNat then mn_w P (mT P) (k + 1) q s else 0 := by
  show (if k + 1 = k + 1 then (if q < (pm_S P).toNat ∧ s < (pm_S P).toNat then mn_w P (mt P k) (k + 1) q s else 0) else _) = _
  rw [if_pos rfl]
  congr 1
  unfold mn_w
  apply js_congr
  intro l _
  split
  · rfl
  apply js_congr
  intro i hi
  apply js_congr
  intro e _
  rw [mt_le (show i ≤ k by omega), mt_le (show k + 1 - 1 - i ≤ k by omega)]
/-- the class's sum is the reference's -/
theorem mn_eq {P : am_P} {T : Nat → Nat → Nat → Int64} {m q s : Nat} (hP : pm_ok P) : js (fun k => js (fun u => mn_s P T (k + 1) q u * T (m - 1 - k) u s) (pm_S P).toNat) m = mn_w P T m q s := by
  have h1 : ∀ k, js (fun u => mn_s P T (k + 1) q u * T (m - 1 - k) u s) (pm_S P).toNat = js (fun l => if pm_oT P l q = -1 then 0 else js (fun e => if pm_cT P l e (pm_oM P l q) = -1 then 0 else T k (pm_oT P l q).toNat e * T (m - 1 - k) (pm_cT P l e (pm_oM P l q)).toNat s) (pm_S P).toNat) 3 := by
    intro k
    have h2 : ∀ u, mn_s P T (k + 1) q u * T (m - 1 - k) u s = js (fun l => if pm_oT P l q = -1 then 0 else js (fun t => if pm_cT P l t (pm_oM P l q) = u then T k (pm_oT P l q).toNat t * T (m - 1 - k) u s else 0) (pm_S P).toNat) 3 := by
      intro u
      unfold mn_s
      rw [js_mul]
      apply js_congr
      intro l _
      by_cases z : pm_oT P l q = -1
      · rw [if_pos z, if_pos z, Int64.zero_mul]
      · rw [if_neg z, if_neg z, js_mul]
        apply js_congr
        intro t _
        by_cases y : pm_cT P l t (pm_oM P l q) = u
        · rw [if_pos y, if_pos y]; rfl
        · rw [if_neg y, if_neg y, Int64.zero_mul]
    rw [js_congr (fun u _ => h2 u), js_swap]
    apply js_congr
    intro l _
    by_cases z : pm_oT P l q = -1
    · rw [if_pos z]
      exact js_zero (fun u _ => if_pos z)
    · rw [if_neg z]
      rw [js_congr (g := fun u => js (fun t => if pm_cT P l t (pm_oM P l q) = u then T k (pm_oT P l q).toNat t * T (m - 1 - k) u s else 0) (pm_S P).toNat) (fun u _ => if_neg z), js_swap]
      apply js_congr
      intro e _
      have hc := hP.2.2.2.2.2.2.2 l e (pm_oM P l q)
      by_cases y : pm_cT P l e (pm_oM P l q) = -1
      · rw [if_pos y]
        exact js_zero (fun u _ => if_neg (by omega))
      · rw [if_neg y]
        rw [js_congr (g := fun u => if (pm_cT P l e (pm_oM P l q)).toNat = u then T k (pm_oT P l q).toNat e * T (m - 1 - k) u s else 0) (fun u _ => by
          by_cases w : pm_cT P l e (pm_oM P l q) = u
          · rw [if_pos w, if_pos (by omega)]
          · rw [if_neg w, if_neg (by omega)])]
        exact js_delta (g := fun u => T k (pm_oT P l q).toNat e * T (m - 1 - k) u s) (by omega)
  rw [js_congr (fun k _ => h1 k), js_swap]
  unfold mn_w
  apply js_congr
  intro l _
  by_cases z : pm_oT P l q = -1
  · rw [if_pos z]
    exact js_zero (fun k _ => if_pos z)
  · rw [if_neg z]
    exact js_congr (fun k _ => if_neg z)
/-- how many can be READ -/
def mn_ans (P : am_P) (n : Nat) : Int64 := js (fun r => if (pm_eX P r).isSome then mT P n 0 r else 0) (pm_S P).toNat
variable {G : am_G} {σ : am_D}
-- the reference
theorem r_rowsOf (d : Nat) {P : am_P} {sl m q s : Int} (hsl : 0 ≤ sl ∧ sl < 6) (hT : rm_T σ sl P) (hP : pm_ok P) (hm : 1 ≤ m ∧ m ≤ 16) (hq : 0 ≤ q ∧ q < 6) (hs : 0 ≤ s ∧ s < 6) (hR : ∀ i a b : Nat, (i : Int) < m → a < (pm_S P).toNat → b < (pm_S P).toNat → σ.2.1 130 (36 * i + 6 * a + b) = mT P i a b) : am_MJ G (d + 2) mX11_rowsOf [am_r (some 91), am_i sl, am_i m, am_i q, am_i s] σ (fun x σ' => x = mT P m.toNat q.toNat s.toNat ∧ σ = σ') := by
  obtain ⟨⟨pS1, pS2⟩, ⟨pR1, pR2⟩, -, -, -, poT, poM, pcT⟩ := id hP
  have t94 := hT.1.1
  obtain ⟨k, hk⟩ : ∃ k : Nat, m.toNat = k + 1 := ⟨m.toNat - 1, by omega⟩
  rw [hk, mT_s]
  refine am_M.go (by decide) (Nat.le_of_ble_eq_true rfl) rfl ?_
  refine S_X11_rowsOf_0 ?_
  refine S_X11_rowsOf_3 ?_
  by_cases hqs : q.toNat < (pm_S P).toNat ∧ s.toNat < (pm_S P).toNat
  rotate_left
  · rw [if_neg hqs]
    refine S_X11_rowsOf_6 (by omega) (fun z => absurd z (by omega)) (fun _ => ?_)
    refine S_X11_rowsOf_12 hsl.1 hsl.2 (by omega) (by omega) (fun _ => S_X11_rowsOf_182 ⟨rfl, rfl⟩) (fun z => ?_)
    refine S_X11_rowsOf_22 hsl.1 hsl.2 (by omega) (by omega) (fun _ => S_X11_rowsOf_182 ⟨rfl, rfl⟩) (fun y => ?_)
    exact absurd (by omega) hqs
  rw [if_pos hqs]
  have hqS : q < pm_S P := by omega
  have hsS : s < pm_S P := by omega
  have L : ∀ (n : Nat) (l : Nat), l + n = 3 → am_X (am_FJ G (d + 2) (fun x σ' => x = mn_w P (mT P) (k + 1) q.toNat s.toNat ∧ σ = σ')) mX11_rowsOf (0, 0) 6 [some (am_r (some 91)), some (am_i sl), some (am_i m), some (am_i q), some (am_i s), some (am_l (js (fun l => if pm_oT P l q = -1 then 0 else js (fun i => js (fun e => if pm_cT P l e (pm_oM P l q) = -1 then 0 else mT P i (pm_oT P l q).toNat e * mT P (k + 1 - 1 - i) (pm_cT P l e (pm_oM P l q)).toNat s.toNat) (pm_S P).toNat) (k + 1)) l)), none, some (am_i l), none, none, none, none] [] (am_K0, σ) := by
    intro n
    induction n with
    | zero =>
      intro l hl
      have hl : l = 3 := by omega
      subst hl
      refine S_X11_rowsOf_6 (by omega) (fun _ => ?_) (fun z => absurd (by omega) z)
      refine S_X11_rowsOf_182 ⟨?_, rfl⟩
      unfold mn_w
      rw [Int.toNat_of_nonneg hq.1]
    | succ n ih =>
      intro l hl
      have ho := poT l q
      have hom := poM l q
      obtain ⟨t1, t2⟩ := hT.2.1 l q (by omega) (by omega) (by omega) (by omega)
      refine S_X11_rowsOf_6 (by omega) (fun z => absurd z (by omega)) (fun _ => ?_)
      refine S_X11_rowsOf_12 hsl.1 hsl.2 (by omega) (by omega) (fun z => absurd z (by omega)) (fun _ => ?_)
      refine S_X11_rowsOf_22 hsl.1 hsl.2 (by omega) (by omega) (fun z => absurd z (by omega)) (fun _ => ?_)
      refine S_X11_rowsOf_33 (c_openAt _) ?_
      rintro _ _ ⟨rfl, rfl⟩
      have back : ∀ A : Int64, A = js (fun l => if pm_oT P l q = -1 then 0 else js (fun i => js (fun e => if pm_cT P l e (pm_oM P l q) = -1 then 0 else mT P i (pm_oT P l q).toNat e * mT P (k + 1 - 1 - i) (pm_cT P l e (pm_oM P l q)).toNat s.toNat) (pm_S P).toNat) (k + 1)) (l + 1) → am_X (am_FJ G (d + 2) (fun x σ' => x = mn_w P (mT P) (k + 1) q.toNat s.toNat ∧ σ = σ')) mX11_rowsOf (0, 0) 176 [some (am_r (some 91)), some (am_i sl), some (am_i m), some (am_i q), some (am_i s), some (am_l A), none, some (am_i l), none, none, none, none] [] (am_K0, σ) := by
        intro A hA
        refine S_X11_rowsOf_176 ?_
        have := ih (l + 1) (by omega)
        rw [← hA] at this
        exact this
      refine S_X11_rowsOf_42 (by omega) (by omega) (by omega) (fun z => ?_) (fun z => ?_)
      rotate_left
      · have z := Classical.not_not.mp z
        rw [t1] at z
        refine S_X11_rowsOf_53 ?_
        refine back _ ?_
        show _ = js _ l + (if pm_oT P l q = -1 then 0 else _)
        rw [if_pos z, Int64.add_zero]
      rw [t1] at z
      have t2 := t2 z
      refine S_X11_rowsOf_56 ?_
      -- i
      have I : ∀ (n2 i : Nat) (A : Int64), i + n2 = k + 1 → A = js (fun l => if pm_oT P l q = -1 then 0 else js (fun i => js (fun e => if pm_cT P l e (pm_oM P l q) = -1 then 0 else mT P i (pm_oT P l q).toNat e * mT P (k + 1 - 1 - i) (pm_cT P l e (pm_oM P l q)).toNat s.toNat) (pm_S P).toNat) (k + 1)) l + js (fun i => js (fun e => if pm_cT P l e (pm_oM P l q) = -1 then 0 else mT P i (pm_oT P l q).toNat e * mT P (k + 1 - 1 - i) (pm_cT P l e (pm_oM P l q)).toNat s.toNat) (pm_S P).toNat) i → am_X (am_FJ G (d + 2) (fun x σ' => x = mn_w P (mT P) (k + 1) q.toNat s.toNat ∧ σ = σ')) mX11_rowsOf (0, 0) 59 [some (am_r (some 91)), some (am_i sl), some (am_i m), some (am_i q), some (am_i s), some (am_l A), none, some (am_i l), some (am_i (18 * sl + 6 * l + q)), some (am_i i), none, none] [] (am_K0, σ) := by
        intro n2
        induction n2 with
        | zero =>
          intro i A hi hA
          refine S_X11_rowsOf_59 (by omega) (by omega) (fun _ => ?_) (fun y => absurd (by omega) y)
          refine back A ?_
          show _ = js _ l + (if pm_oT P l q = -1 then 0 else _)
          rw [if_neg z, hA, show i = k + 1 by omega]
        | succ n2 ih2 =>
          intro i A hi hA
          refine S_X11_rowsOf_59 (by omega) (by omega) (fun y => absurd y (by omega)) (fun _ => ?_)
          refine S_X11_rowsOf_65 ?_
          have E : ∀ (n3 e : Nat) (B : Int64), (e : Int) + n3 = pm_S P → B = A + js (fun e => if pm_cT P l e (pm_oM P l q) = -1 then 0 else mT P i (pm_oT P l q).toNat e * mT P (k + 1 - 1 - i) (pm_cT P l e (pm_oM P l q)).toNat s.toNat) e → am_X (am_FJ G (d + 2) (fun x σ' => x = mn_w P (mT P) (k + 1) q.toNat s.toNat ∧ σ = σ')) mX11_rowsOf (0, 0) 68 [some (am_r (some 91)), some (am_i sl), some (am_i m), some (am_i q), some (am_i s), some (am_l B), none, some (am_i l), some (am_i (18 * sl + 6 * l + q)), some (am_i i), some (am_i e), none] [] (am_K0, σ) := by
            intro n3
            induction n3 with
            | zero =>
              intro e B he hB
              refine S_X11_rowsOf_68 hsl.1 hsl.2 (by omega) (by omega) (fun _ => ?_) (fun y => absurd (by omega) y)
              refine S_X11_rowsOf_170 ?_
              have := ih2 (i + 1) B (by omega) (by
                rw [hB, hA, Int64.add_assoc]
                congr 1
                show _ = js _ i + _
                rw [show e = (pm_S P).toNat by omega])
              exact this
            | succ n3 ih3 =>
              intro e B he hB
              have hct := pcT l e (pm_oM P l q)
              have t3 := (hT.2.2.1 l e (pm_oM P l q) (by omega) (by omega) (by omega) (by omega) (by omega) (by omega)).1
              refine S_X11_rowsOf_68 hsl.1 hsl.2 (by omega) (by omega) (fun y => absurd y (by omega)) (fun _ => ?_)
              refine S_X11_rowsOf_79 (by omega) (by omega) (c_closeAt _) ?_
              rintro _ _ ⟨rfl, rfl⟩
              rw [t2]
              refine S_X11_rowsOf_98 sh_100 (by omega) (by omega) ?_
              rw [t3]
              have next : ∀ x : Int64, x = (if pm_cT P l e (pm_oM P l q) = -1 then 0 else mT P i (pm_oT P l q).toNat e * mT P (k + 1 - 1 - i) (pm_cT P l e (pm_oM P l q)).toNat s.toNat) → am_X (am_FJ G (d + 2) (fun x σ' => x = mn_w P (mT P) (k + 1) q.toNat s.toNat ∧ σ = σ')) mX11_rowsOf (0, 0) 161 [some (am_r (some 91)), some (am_i sl), some (am_i m), some (am_i q), some (am_i s), none, none, some (am_i l), some (am_i (18 * sl + 6 * l + q)), some (am_i i), some (am_i e), none] [am_l x, am_l B] (am_K0, σ) := by
                intro x hx
                refine S_X11_rowsOf_161 ?_
                refine S_X11_rowsOf_164 ?_
                have := ih3 (e + 1) (B + x) (by omega) (by
                  rw [hB, hx, Int64.add_assoc]
                  rfl)
                exact this
              refine S_X11_rowsOf_101 (by omega) (fun y => ?_) (fun y => ?_)
              · have h1 := hR i (pm_oT P l q).toNat e (by omega) (by omega) (by omega)
                have h2 := hR (k + 1 - 1 - i) (pm_cT P l e (pm_oM P l q)).toNat s.toNat (by omega) (by omega) (by omega)
                have e1 : 36 * (i : Int) + 6 * ((pm_oT P l q).toNat : Int) + e = 36 * (i : Int) + 6 * pm_oT P l q + e := by omega
                have e2 : 36 * ((k + 1 - 1 - i : Nat) : Int) + 6 * ((pm_cT P l e (pm_oM P l q)).toNat : Int) + (s.toNat : Int) = 36 * (m - 1 - i) + 6 * pm_cT P l e (pm_oM P l q) + s := by omega
                rw [e1] at h1
                rw [e2] at h2
                refine S_X11_rowsOf_113 (by omega) (by omega) (by rw [t1]; omega) (by rw [t1]; omega) (by omega) (by omega) ?_
                rw [t1, h1, h2]
                exact next _ (by rw [if_neg y])
              · exact S_X11_rowsOf_109 (next 0 (by rw [if_pos (Classical.not_not.mp y)]))
          exact E (pm_S P).toNat 0 A (by omega) (by show A = A + 0; rw [Int64.add_zero])
      exact I (k + 1) 0 _ (by omega) (by show _ = _ + (0 : Int64); rw [Int64.add_zero])
  exact L 3 0 rfl
end
