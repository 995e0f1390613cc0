section
theorem pm_ct_s {f : Nat → Bool} {n : Nat} : pm_ct f (n + 1) = pm_ct f n + (if f n then 1 else 0) := by
  unfold pm_ct
  rw [List.range_succ, List.countP_append, List.countP_singleton]
theorem pm_ct_le {f : Nat → Bool} {n : Nat} : pm_ct f n ≤ n := by
  unfold pm_ct
  exact Nat.le_trans List.countP_le_length (by rw [List.length_range]; exact Nat.le_refl _)
theorem pm_ct_congr {f g : Nat → Bool} {n : Nat} (h : ∀ j, j < n → f j = g j) : pm_ct f n = pm_ct g n := by
  unfold pm_ct
  exact List.countP_congr (fun j hj => by rw [h j (List.mem_range.mp hj)])
variable {G : am_G} {σ : am_D} {M : ab_M}
theorem r_told (d : Nat) {a n : Nat} {b : Int} {c : Nat} (hs : am_sh am_SH a = (100, n)) (hb : 0 ≤ b) (hc : b + c ≤ n) (hn : n ≤ 5000) (hr : ∀ j : Nat, j < c → -1 ≤ σ.1 a (b + j) ∧ σ.1 a (b + j) ≤ 1000) : am_MI G (d + 1) mX11_told [am_r (some a), am_i b, am_i c] σ (fun x σ' => x = pm_ct (fun j => decide (σ.1 a (b + j) ≠ -1)) c ∧ σ = σ') := by
  refine am_M.go (by decide) (Nat.le_of_ble_eq_true rfl) rfl ?_
  refine S_X11_told_0 (S_X11_told_2 ?_)
  have loop : ∀ (k i : Nat), i + k = c → am_X (am_FI G (d + 1) (fun x σ' => x = pm_ct (fun j => decide (σ.1 a (b + j) ≠ -1)) c ∧ σ = σ')) mX11_told (0, 0) 5 [some (am_r (some a)), some (am_i b), some (am_i c), some (am_i (pm_ct (fun j => decide (σ.1 a (b + j) ≠ -1)) i)), some (am_i i)] [] (am_K0, σ) := by
    intro k
    induction k with
    | zero =>
      intro i hi
      refine S_X11_told_5 (by omega) (by omega) (fun _ => ?_) (fun z => absurd (by omega) z)
      refine S_X11_told_35 ⟨?_, rfl⟩
      rw [show i = c by omega]
    | succ k ih =>
      intro i hi
      have h1 := hr i (by omega)
      refine S_X11_told_5 (by omega) (by omega) (fun z => absurd z (by omega)) (fun _ => ?_)
      have next : ∀ x : Int, x = (if decide (σ.1 a (b + i) ≠ -1) then 1 else 0) → am_X (am_FI G (d + 1) (fun x σ' => x = pm_ct (fun j => decide (σ.1 a (b + j) ≠ -1)) c ∧ σ = σ')) mX11_told (0, 0) 27 [some (am_r (some a)), some (am_i b), some (am_i c), none, some (am_i i)] [am_i x, am_i (pm_ct (fun j => decide (σ.1 a (b + j) ≠ -1)) i)] (am_K0, σ) := by
        intro x hx
        refine S_X11_told_27 (S_X11_told_29 ?_)
        have := ih (i + 1) (by omega)
        rw [pm_ct_s] at this
        have e : ((pm_ct (fun j => decide (σ.1 a (b + j) ≠ -1)) i + (if decide (σ.1 a (b + i) ≠ -1) then 1 else 0) : Nat) : Int) = (pm_ct (fun j => decide (σ.1 a (b + j) ≠ -1)) i : Int) + x := by
          rw [hx]
          split <;> simp
        rw [e] at this
        exact this
      refine S_X11_told_11 hs (by omega) (by omega) (by omega) (fun z => ?_) (fun z => ?_)
      · exact S_X11_told_26 (next 1 (by rw [if_pos (decide_eq_true z)]))
      · exact S_X11_told_22 (next 0 (by rw [if_neg (by intro w; exact z (of_decide_eq_true w))]))
  exact loop c 0 (by omega)
theorem r_deepOf (d : Nat) {a n : Nat} {w : List Int} (hs : am_sh am_SH a = (100, n)) (hn : n ≤ 5000) (hw : w.length ≤ n) (hL : am_isL (σ.1 a) w) (hr : ∀ x ∈ w, 0 ≤ x ∧ x ≤ 3) : am_MI G (d + 2) mX11_deepOf [am_r (some a), am_i w.length] σ (fun x σ' => x = am_dpt w 0 0 ∧ σ = σ') := by
  refine am_M.go (by decide) (Nat.le_of_ble_eq_true rfl) rfl ?_
  refine S_X11_deepOf_0 (S_X11_deepOf_2 (S_X11_deepOf_4 ?_))
  have loop : ∀ (u pre : List Int) (v m : Int), w = pre ++ u → -5000 ≤ v - 0 → v ≤ pre.length → -(pre.length : Int) ≤ v → 0 ≤ m → m ≤ pre.length → am_dpt u v m = am_dpt w 0 0 → am_X (am_FI G (d + 2) (fun x σ' => x = am_dpt w 0 0 ∧ σ = σ')) mX11_deepOf (0, 0) 7 [some (am_r (some a)), some (am_i w.length), some (am_i v), some (am_i m), some (am_i pre.length)] [] (am_K0, σ) := by
    intro u
    induction u with
    | nil =>
      intro pre v m hp _ _ _ _ _ he
      rw [List.append_nil] at hp
      subst hp
      refine S_X11_deepOf_7 (by omega) (by omega) (fun _ => ?_) (fun z => absurd (by omega) z)
      exact S_X11_deepOf_41 ⟨he, rfl⟩
    | cons s u ih =>
      intro pre v m hp h1 h2 h3 h4 h5 he
      have hlw : w.length = pre.length + (u.length + 1) := by rw [hp, List.length_append]; rfl
      have hsr := hr s (by rw [hp]; simp)
      have es : σ.1 a pre.length = s := by
        rw [hL pre.length (by omega), hp, List.getD_eq_getElem?_getD, List.getElem?_append_right (Nat.le_refl _), Nat.sub_self]
        rfl
      have hlen1 : (((pre ++ [s]).length : Nat) : Int) = pre.length + 1 := by rw [List.length_append]; rfl
      refine S_X11_deepOf_7 (by omega) (by omega) (fun z => absurd z (by omega)) (fun _ => ?_)
      have next : ∀ x : Int, x = (if s = 3 then -1 else 1) → am_X (am_FI G (d + 2) (fun x σ' => x = am_dpt w 0 0 ∧ σ = σ')) mX11_deepOf (0, 0) 27 [some (am_r (some a)), some (am_i w.length), none, some (am_i m), some (am_i pre.length)] [am_i x, am_i v] (am_K0, σ) := by
        intro x hx
        have hx1 : x = -1 ∨ x = 1 := by rw [hx]; split; exact Or.inl rfl; exact Or.inr rfl
        refine S_X11_deepOf_27 ?_
        refine S_X11_deepOf_29 (c_max _ (by omega) (by omega)) ?_
        rintro _ _ ⟨rfl, rfl⟩
        refine S_X11_deepOf_35 ?_
        have := ih (pre ++ [s]) (v + x) (max m (v + x)) (by rw [hp]; simp) (by omega) (by omega) (by omega) (by omega) (by omega) (by rw [← he, hx]; rfl)
        rw [hlen1] at this
        exact this
      refine S_X11_deepOf_13 hs (by omega) (by omega) (by rw [es]; omega) (fun z => ?_) (fun z => ?_)
      · rw [es] at z
        exact S_X11_deepOf_26 (next 1 (by rw [if_neg z]))
      · rw [es] at z
        exact S_X11_deepOf_22 (next (-1) (by rw [if_pos (Classical.not_not.mp z)]))
  exact loop w [] 0 0 rfl (by omega) (by simp) (by simp) (by omega) (by simp) rfl
/-- the answer of event -/
def an_e (w : List Int) (i : Int) : Int := if 0 ≤ i ∧ i < w.length then w.getD i.toNat 0 else -1
theorem c_xevent (d : Nat) {doc out : List Int} {i : Int} {b : Bool} (hi : -2147483648 ≤ i ∧ i ≤ 2147483647) (h6 : am_E σ 6 doc) (h10 : am_E σ 10 out) : am_MI G (d + 3) mX10_event [am_r (some 0), am_i i, am_i (sb_i b)] σ (fun x σ' => x = an_e (if b then out else doc) i ∧ σ = σ') := by
  refine am_M.go (by decide) (Nat.le_of_ble_eq_true rfl) rfl ?_
  cases b with
  | true =>
    refine S_X10_event_0 (by decide) (fun z => absurd z (by decide)) (fun _ => ?_)
    refine S_X10_event_4 (c_signAt _ (Or.inr (Or.inr rfl)) h10 hi) ?_
    rintro _ _ ⟨rfl, rfl⟩
    exact S_X10_event_12 (S_X10_event_23 ⟨rfl, rfl⟩)
  | false =>
    refine S_X10_event_0 (by decide) (fun _ => ?_) (fun z => absurd rfl z)
    refine S_X10_event_15 (c_signAt _ (Or.inl rfl) h6 hi) ?_
    rintro _ _ ⟨rfl, rfl⟩
    exact S_X10_event_23 ⟨rfl, rfl⟩
/-- what the reference has WRITTEN -/
def rx_O (σ : am_D) (out : List Int) : Prop := σ.1 91 27 = out.length ∧ am_isL (σ.1 109) out ∧ out.length ≤ 4812
theorem r_xevent (d : Nat) {doc out : List Int} {i : Int} {b : Bool} (hi : -2147483648 ≤ i ∧ i ≤ 2147483647) (hD : rx_Dc σ doc) (hdl : doc.length ≤ 80) (hO : rx_O σ out) : am_MI G (d + 2) mX11_event [am_r (some 91), am_i i, am_i (sb_i b)] σ (fun x σ' => x = an_e (if b then out else doc) i ∧ σ = σ') := by
  obtain ⟨d1, d2⟩ := hD
  obtain ⟨o1, o2, o3⟩ := hO
  refine am_M.go (by decide) (Nat.le_of_ble_eq_true rfl) rfl ?_
  unfold an_e
  cases b with
  | true =>
    refine S_X11_event_0 (by decide) (fun z => absurd z (by decide)) (fun _ => ?_)
    refine S_X11_event_6 ?_
    rw [o1]
    refine S_X11_event_17 (c_isIn _ hi (by omega) (by omega)) ?_
    rintro _ _ ⟨rfl, rfl⟩
    show am_X _ _ _ _ _ _ _
    by_cases z : 0 ≤ i ∧ i ≤ (out.length : Int) - 1
    · rw [if_pos z]
      refine S_X11_event_22 (by decide) (fun y => absurd y (by decide)) (fun _ => ?_)
      refine S_X11_event_25 (by decide) (fun y => absurd y (by decide)) (fun _ => ?_)
      refine S_X11_event_29 z.1 (by omega) (S_X11_event_48 ⟨?_, rfl⟩)
      have := o2 i.toNat (by omega)
      rw [Int.toNat_of_nonneg z.1] at this
      rw [if_pos (show 0 ≤ i ∧ i < (((if true = true then out else doc).length : Nat) : Int) by rw [if_pos rfl]; omega), this]
      rfl
    · rw [if_neg z]
      refine S_X11_event_22 (by decide) (fun _ => ?_) (fun y => absurd rfl y)
      refine S_X11_event_47 (S_X11_event_48 ⟨?_, rfl⟩)
      rw [if_neg (show ¬ (0 ≤ i ∧ i < (((if true = true then out else doc).length : Nat) : Int)) by rw [if_pos rfl]; omega)]
  | false =>
    refine S_X11_event_0 (by decide) (fun _ => ?_) (fun z => absurd rfl z)
    refine S_X11_event_13 ?_
    rw [d1]
    refine S_X11_event_17 (c_isIn _ hi (by omega) (by omega)) ?_
    rintro _ _ ⟨rfl, rfl⟩
    by_cases z : 0 ≤ i ∧ i ≤ (doc.length : Int) - 1
    · rw [if_pos z]
      refine S_X11_event_22 (by decide) (fun y => absurd y (by decide)) (fun _ => ?_)
      refine S_X11_event_25 (by decide) (fun _ => ?_) (fun y => absurd rfl y)
      refine S_X11_event_38 z.1 (by omega) (S_X11_event_48 ⟨?_, rfl⟩)
      have := d2 i.toNat (by omega)
      rw [Int.toNat_of_nonneg z.1] at this
      rw [if_pos (show 0 ≤ i ∧ i < (((if false = true then out else doc).length : Nat) : Int) by rw [if_neg (by decide)]; omega), this]
      rfl
    · rw [if_neg z]
      refine S_X11_event_22 (by decide) (fun _ => ?_) (fun y => absurd rfl y)
      refine S_X11_event_47 (S_X11_event_48 ⟨?_, rfl⟩)
      rw [if_neg (show ¬ (0 ≤ i ∧ i < (((if false = true then out else doc).length : Nat) : Int)) by rw [if_neg (by decide)]; omega)]
theorem c_xfault (d : Nat) : am_MI G (d + 1) mX10_fault [am_r (some 0)] σ (fun x σ' => x = σ.1 1 5 ∧ σ = σ') := by
  refine am_M.go (by decide) (Nat.le_of_ble_eq_true rfl) rfl ?_
  exact S_X10_fault_0 ⟨rfl, rfl⟩
theorem r_xfault (d : Nat) : am_MI G (d + 1) mX11_fault [am_r (some 91)] σ (fun x σ' => x = σ.1 91 2 ∧ σ = σ') := by
  refine am_M.go (by decide) (Nat.le_of_ble_eq_true rfl) rfl ?_
  exact S_X11_fault_0 ⟨rfl, rfl⟩
end
