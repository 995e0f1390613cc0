section
variable {G : am_G} {σ : am_D}
/-- machine k is told, and n can be asked -/
def rt_n (σ : am_D) (k n : Int) : Prop := rt_k σ k ∧ 0 ≤ n ∧ n ≤ 16
/-- rows laid before (m, q, s) -/
def mn_E (f : Int → Int64) (P : am_P) (m q s : Nat) : Prop := ∀ i a b : Nat, a < 6 → b < 6 → (i < m ∨ (i = m ∧ (a < q ∨ (a = q ∧ b < s)))) → f (36 * i + 6 * a + b) = mT P i a b
theorem mn_E_put {f : Int → Int64} {P : am_P} {m q s : Nat} {x : Int64} (h : mn_E f P m q s) (hq : q < 6) (hs : s < 6) (hx : x = mT P m q s) : mn_E (am_u1 f (36 * m + 6 * q + s) x) P m q (s + 1) := by
  intro i a b ha hb hab
  by_cases z : i = m ∧ a = q ∧ b = s
  · obtain ⟨rfl, rfl, rfl⟩ := z
    rw [am_u1_eqJ, hx]
  · rw [am_u1_neJ (by omega)]
    exact h i a b ha hb (by omega)
theorem r_many (d : Nat) {P : am_P} {k n : Int} (hk : -2147483648 ≤ k ∧ k ≤ 2147483647) (hn : -2147483648 ≤ n ∧ n ≤ 2147483647) (h93 : ∀ j : Int, 0 ≤ j → j ≤ 3 → σ.1 93 j = 0 ∨ σ.1 93 j = 1) (hT : rt_k σ k → rm_T σ k P) (hP : rt_k σ k → pm_ok P) : am_MJ G (d + 3) mX11_many [am_r (some 91), am_i k, am_i n] σ (fun x σ' => ((rt_n σ k n ∧ x = mn_ans P n.toNat) ∨ (¬ rt_n σ k n ∧ x = -1)) ∧ wj_o [130] σ σ') := by
  refine am_M.go (by decide) (Nat.le_of_ble_eq_true rfl) rfl ?_
  refine S_X11_many_0 (r_isMachine _ hk h93) ?_
  rintro x _ ⟨hx, rfl⟩
  rcases hx with ⟨rfl, hr⟩ | ⟨rfl, hr⟩
  rotate_left
  · refine S_X11_many_5 (by decide) (fun _ => ?_) (fun z => absurd rfl z)
    exact S_X11_many_18 ⟨Or.inr ⟨fun w => hr w.1, rfl⟩, wj_o.rfl'⟩
  have hT := hT hr
  have hP := hP hr
  have hkr := hr.1
  obtain ⟨⟨pS1, pS2⟩, ⟨pR1, pR2⟩, -, -, -, poT, poM, pcT⟩ := id hP
  have t94 := hT.1.1
  refine S_X11_many_5 (by decide) (fun z => absurd z (by decide)) (fun _ => ?_)
  refine S_X11_many_8 (c_isIn _ hn (by omega) (by omega)) ?_
  rintro _ _ ⟨rfl, rfl⟩
  by_cases hnr : 0 ≤ n ∧ n ≤ 16
  rotate_left
  · rw [if_neg hnr]
    refine S_X11_many_15 (by decide) (fun z => absurd rfl z) (fun _ => ?_)
    exact S_X11_many_18 ⟨Or.inr ⟨fun w => hnr w.2, rfl⟩, wj_o.rfl'⟩
  rw [if_pos hnr]
  refine S_X11_many_15 (by decide) (fun _ => ?_) (fun z => absurd (by decide) z)
  refine S_X11_many_22 ?_
  have hQr : rt_n σ k n := ⟨hr, hnr⟩
  -- the last sum
  have fin : ∀ τ : am_D, wj_o [130] σ τ → mn_E (τ.2.1 130) P (n.toNat + 1) 0 0 → am_X (am_FJ G (d + 3) (fun x σ' => ((rt_n σ k n ∧ x = mn_ans P n.toNat) ∨ (¬ rt_n σ k n ∧ x = -1)) ∧ wj_o [130] σ σ')) mX11_many (0, 0) 114 [some (am_r (some 91)), some (am_i k), some (am_i n), none, none, none] [] (am_K0, τ) := by
    intro τ hj hE
    have hTτ : rm_T τ k P := rm_T_move hP hT (fun a _ _ j _ _ => by rw [hj.1])
    refine S_X11_many_114 ?_
    refine S_X11_many_116 ?_
    have loop : ∀ (c r : Nat), r + c = (pm_S P).toNat → am_X (am_FJ G (d + 3) (fun x σ' => ((rt_n σ k n ∧ x = mn_ans P n.toNat) ∨ (¬ rt_n σ k n ∧ x = -1)) ∧ wj_o [130] σ σ')) mX11_many (0, 0) 119 [some (am_r (some 91)), some (am_i k), some (am_i n), some (am_l (js (fun r => if (pm_eX P r).isSome then mT P n.toNat 0 r else 0) r)), none, some (am_i r)] [] (am_K0, τ) := by
      intro c
      induction c with
      | zero =>
        intro r hrc
        refine S_X11_many_119 (by omega) (by omega) (by omega) (by rw [hj.1, t94]; omega) (fun _ => ?_) (fun z => absurd (by rw [hj.1, t94]; omega) z)
        refine S_X11_many_171 ⟨Or.inl ⟨hQr, ?_⟩, hj⟩
        rw [show r = (pm_S P).toNat by omega]
        rfl
      | succ c ih =>
        intro r hrc
        obtain ⟨e1, e2⟩ := hTτ.endR hP (q := r) (by omega)
        refine S_X11_many_119 (by omega) (by omega) (by omega) (by rw [hj.1, t94]; omega) (fun z => absurd z (by rw [hj.1, t94]; omega)) (fun _ => ?_)
        have next : ∀ x : Int64, x = (if (pm_eX P r).isSome then mT P n.toNat 0 r else 0) → am_X (am_FJ G (d + 3) (fun x σ' => ((rt_n σ k n ∧ x = mn_ans P n.toNat) ∨ (¬ rt_n σ k n ∧ x = -1)) ∧ wj_o [130] σ σ')) mX11_many (0, 0) 163 [some (am_r (some 91)), some (am_i k), some (am_i n), none, none, some (am_i r)] [am_l x, am_l (js (fun r => if (pm_eX P r).isSome then mT P n.toNat 0 r else 0) r)] (am_K0, τ) := by
          intro x hx
          refine S_X11_many_163 ?_
          refine S_X11_many_165 ?_
          have := ih (r + 1) (by omega)
          rw [hx]
          exact this
        cases hx : pm_eX P r with
        | none =>
          have e1 := e1 hx
          refine S_X11_many_130 (by omega) (by omega) (by omega) (fun z => absurd e1 z) (fun _ => ?_)
          exact S_X11_many_147 (next 0 (by rw [hx]; rfl))
        | some w =>
          obtain ⟨y1, y2, y3⟩ := e2 w hx
          refine S_X11_many_130 (by omega) (by omega) (by omega) (fun _ => ?_) (fun z => absurd (by omega) z)
          refine S_X11_many_151 (by omega) (by omega) (next _ ?_)
          have h := hE n.toNat 0 r (by omega) (by omega) (by omega)
          rw [show 36 * (n.toNat : Int) + 6 * ((0 : Nat) : Int) + r = 36 * n + r by omega] at h
          rw [h, hx]
          rfl
    exact loop (pm_S P).toNat 0 (by omega)
  -- the rows
  have S : ∀ (m q : Nat), (m : Int) ≤ n → q < 6 → ∀ (c s : Nat) (τ : am_D), s + c = 6 → wj_o [130] σ τ → mn_E (τ.2.1 130) P m q s → (∀ τ' : am_D, wj_o [130] σ τ' → mn_E (τ'.2.1 130) P m (q + 1) 0 → am_X (am_FJ G (d + 3) (fun x σ' => ((rt_n σ k n ∧ x = mn_ans P n.toNat) ∨ (¬ rt_n σ k n ∧ x = -1)) ∧ wj_o [130] σ σ')) mX11_many (0, 0) 102 [some (am_r (some 91)), some (am_i k), some (am_i n), some (am_i m), some (am_i q), none] [] (am_K0, τ')) → am_X (am_FJ G (d + 3) (fun x σ' => ((rt_n σ k n ∧ x = mn_ans P n.toNat) ∨ (¬ rt_n σ k n ∧ x = -1)) ∧ wj_o [130] σ σ')) mX11_many (0, 0) 42 [some (am_r (some 91)), some (am_i k), some (am_i n), some (am_i m), some (am_i q), some (am_i s)] [] (am_K0, τ) := by
    intro m q hm hq c
    induction c with
    | zero =>
      intro s τ hs hj hE K
      refine S_X11_many_42 (by omega) (fun _ => ?_) (fun z => absurd (by omega) z)
      exact K τ hj (fun i a b ha hb hab => hE i a b ha hb (by omega))
    | succ c ih =>
      intro s τ hs hj hE K
      have hTτ : rm_T τ k P := rm_T_move hP hT (fun a _ _ j _ _ => by rw [hj.1])
      refine S_X11_many_42 (by omega) (fun z => absurd z (by omega)) (fun _ => ?_)
      have put : ∀ x : Int64, x = mT P m q s → am_X (am_FJ G (d + 3) (fun x σ' => ((rt_n σ k n ∧ x = mn_ans P n.toNat) ∨ (¬ rt_n σ k n ∧ x = -1)) ∧ wj_o [130] σ σ')) mX11_many (0, 0) 95 [some (am_r (some 91)), some (am_i k), some (am_i n), some (am_i m), some (am_i q), some (am_i s)] [am_l x, am_i (36 * m + 6 * q + s), am_r (some 130)] (am_K0, τ) := by
        intro x hx
        refine S_X11_many_95 sh_130 (by omega) (by omega) ?_
        refine S_X11_many_96 ?_
        have := ih (s + 1) (am_pJ τ 130 (36 * m + 6 * q + s) x) (by omega) (hj.trans (wj_o.pJ (by simp))) (by
          rw [am_pJ_row]
          exact mn_E_put hE hq (by omega) hx) K
        exact this
      refine S_X11_many_49 (by omega) (fun z => ?_) (fun z => ?_)
      · have hm0 : m = 0 := by omega
        subst hm0
        rw [mT_0] at put
        refine S_X11_many_83 (by omega) (by omega) (fun y => ?_) (fun y => ?_)
        · exact S_X11_many_94 (put 0 (by rw [if_neg (by omega)]))
        · exact S_X11_many_90 (put 1 (by rw [if_pos (by omega)]))
      · refine S_X11_many_70 (r_rowsOf _ (by omega) hTτ hP (by omega) (by omega) (by omega) (fun i a b hi ha hb => hE i a b (by omega) (by omega) (by omega))) ?_
        rintro x _ ⟨rfl, rfl⟩
        exact S_X11_many_80 (put _ rfl)
  have Q : ∀ (m : Nat), (m : Int) ≤ n → ∀ (c q : Nat) (τ : am_D), q + c = 6 → wj_o [130] σ τ → mn_E (τ.2.1 130) P m q 0 → (∀ τ' : am_D, wj_o [130] σ τ' → mn_E (τ'.2.1 130) P (m + 1) 0 0 → am_X (am_FJ G (d + 3) (fun x σ' => ((rt_n σ k n ∧ x = mn_ans P n.toNat) ∨ (¬ rt_n σ k n ∧ x = -1)) ∧ wj_o [130] σ σ')) mX11_many (0, 0) 108 [some (am_r (some 91)), some (am_i k), some (am_i n), some (am_i m), none, none] [] (am_K0, τ')) → am_X (am_FJ G (d + 3) (fun x σ' => ((rt_n σ k n ∧ x = mn_ans P n.toNat) ∨ (¬ rt_n σ k n ∧ x = -1)) ∧ wj_o [130] σ σ')) mX11_many (0, 0) 32 [some (am_r (some 91)), some (am_i k), some (am_i n), some (am_i m), some (am_i q), none] [] (am_K0, τ) := by
    intro m hm c
    induction c with
    | zero =>
      intro q τ hq hj hE K
      refine S_X11_many_32 (by omega) (fun _ => ?_) (fun z => absurd (by omega) z)
      exact K τ hj (fun i a b ha hb hab => hE i a b ha hb (by omega))
    | succ c ih =>
      intro q τ hq hj hE K
      refine S_X11_many_32 (by omega) (fun z => absurd z (by omega)) (fun _ => ?_)
      refine S_X11_many_39 ?_
      refine S m q hm (by omega) 6 0 τ (by omega) hj hE (fun τ' hj' hE' => ?_)
      refine S_X11_many_102 ?_
      have := ih (q + 1) τ' (by omega) hj' hE' K
      exact this
  have M : ∀ (c m : Nat) (τ : am_D), (m : Int) + c = n + 1 → wj_o [130] σ τ → mn_E (τ.2.1 130) P m 0 0 → am_X (am_FJ G (d + 3) (fun x σ' => ((rt_n σ k n ∧ x = mn_ans P n.toNat) ∨ (¬ rt_n σ k n ∧ x = -1)) ∧ wj_o [130] σ σ')) mX11_many (0, 0) 24 [some (am_r (some 91)), some (am_i k), some (am_i n), some (am_i m), none, none] [] (am_K0, τ) := by
    intro c
    induction c with
    | zero =>
      intro m τ hm hj hE
      refine S_X11_many_24 (by omega) (by omega) (fun _ => ?_) (fun z => absurd (by omega) z)
      refine fin τ hj ?_
      rw [show n.toNat + 1 = m by omega]
      exact hE
    | succ c ih =>
      intro m τ hm hj hE
      refine S_X11_many_24 (by omega) (by omega) (fun z => absurd z (by omega)) (fun _ => ?_)
      refine S_X11_many_29 ?_
      refine Q m (by omega) 6 0 τ (by omega) hj hE (fun τ' hj' hE' => ?_)
      refine S_X11_many_108 ?_
      have := ih (m + 1) τ' (by omega) hj' hE'
      exact this
  exact M (n.toNat + 1) 0 σ (by omega) wj_o.rfl' (fun i a b _ _ hab => by omega)
end
