section
variable {G : am_G} {σ : am_D}
theorem r_laysLeast (d : Nat) {P : am_P} {sl : Int} (hsl : 0 ≤ sl ∧ sl < 6) (hT : rm_T σ sl P) (hP : pm_ok P) : am_MV G (d + 3) mX11_laysLeast [am_r (some 91), am_i sl] σ (fun σ' => wj_o [129] σ σ' ∧ wy_E 1152921504606846976 (σ'.2.1 129) (wy_I P 36)) := by
  obtain ⟨⟨pS1, pS2⟩, ⟨pR1, pR2⟩, -, -, -, poT, poM, pcT⟩ := id hP
  obtain ⟨fx1, fx2⟩ := wy_fix hP
  have t94 := hT.1.1
  have hTk : ∀ τ : am_D, wj_o [129] σ τ → rm_T τ sl P := fun τ h => rm_T_move hP hT (fun a _ _ j _ _ => by rw [h.1])
  refine am_M.go (by decide) (Nat.le_of_ble_eq_true rfl) rfl ?_
  generalize hQ : (fun σ' : am_D => wj_o [129] σ σ' ∧ wy_E 1152921504606846976 (σ'.2.1 129) (wy_I P 36)) = Q
  -- s
  have T : ∀ (V0 : wy_V) (q l : Int), 0 ≤ q → q < pm_S P → 0 ≤ l → l < 3 → pm_oT P l q ≠ -1 → ∀ (n : Nat) (t : Int) (u : wy_V) (c : Int) (τ : am_D), pm_S P - t = n → 0 ≤ t → wy_fl V0 u c → wy_J P u → wj_o [129] σ τ → wy_E 1152921504606846976 (τ.2.1 129) u → (∀ (u' : wy_V) (c' : Int) (τ' : am_D), wy_t P q l n t u = u' → wy_fl V0 u' c' → wy_J P u' → wj_o [129] σ τ' → wy_E 1152921504606846976 (τ'.2.1 129) u' → am_X (am_FV G (d + 3) Q) mX11_laysLeast (0, 0) 139 [some (am_r (some 91)), some (am_i sl), some (am_i c'), some (am_i q), some (am_i l), none] [] (am_K0, τ')) → am_X (am_FV G (d + 3) Q) mX11_laysLeast (0, 0) 99 [some (am_r (some 91)), some (am_i sl), some (am_i c), some (am_i q), some (am_i l), some (am_i t)] [] (am_K0, τ) := by
    intro V0 q l q0 q1 l0 l1 hot n
    induction n with
    | zero =>
      intro t u c τ hn ht hf hJ hj hEu K
      refine S_X11_laysLeast_99 hsl.1 hsl.2 (by omega) (by rw [hj.1, t94]; omega) (fun _ => ?_) (fun z => absurd (by rw [hj.1, t94]; omega) z)
      exact K u c τ rfl hf hJ hj hEu
    | succ n ih =>
      intro t u c τ hn ht hf hJ hj hEu K
      have hc01 : c = 0 ∨ c = 1 := by rcases hf.1 with ⟨h, -⟩ | ⟨h, -⟩ <;> omega
      refine S_X11_laysLeast_99 hsl.1 hsl.2 (by omega) (by rw [hj.1, t94]; omega) (fun z => absurd z (by rw [hj.1, t94]; omega)) (fun _ => ?_)
      refine S_X11_laysLeast_110 (r_lets _ hsl (hTk τ hj) hP ⟨q0, q1⟩ ⟨l0, l1⟩ (by omega) hot hJ hEu) ?_
      rintro x τ' ⟨hx, hj', hE'⟩
      have hfn := hf.next (wy_rl_le (P := P) (v := u) (q := q) (l := l) (t := t)) hx
      have hJ' : wy_J P (wy_rl P u q l t) := wy_J_rl hP u q l t q0 q1 l0 l1 ht (by omega) hJ
      have next : ∀ c' : Int, wy_fl V0 (wy_rl P u q l t) c' → am_X (am_FV G (d + 3) Q) mX11_laysLeast (0, 0) 132 [some (am_r (some 91)), some (am_i sl), none, some (am_i q), some (am_i l), some (am_i t)] [am_i c'] (am_K0, τ') := by
        intro c' hf'
        refine S_X11_laysLeast_132 ?_
        refine S_X11_laysLeast_133 ?_
        exact ih (t + 1) _ c' τ' (by omega) (by omega) hf' hJ' (hj.trans hj') hE' (fun u2 c2 τ2 e3 => K u2 c2 τ2 e3)
      have x01 : x = 0 ∨ x = 1 := by rcases hx with ⟨h, -⟩ | ⟨h, -⟩ <;> omega
      refine S_X11_laysLeast_120 (by omega) (fun z => ?_) (fun z => ?_)
      · rw [if_neg z] at hfn
        exact S_X11_laysLeast_127 (next 1 hfn)
      · have z := Classical.not_not.mp z
        rw [if_pos z] at hfn
        refine S_X11_laysLeast_123 (by omega) (fun y => ?_) (fun y => ?_)
        · rw [y] at hfn
          exact S_X11_laysLeast_131 (next 0 hfn)
        · have y : c = 1 := by omega
          rw [y] at hfn
          exact S_X11_laysLeast_127 (next 1 hfn)
  -- l
  have L : ∀ (V0 : wy_V) (q : Int), 0 ≤ q → q < pm_S P → ∀ (n : Nat) (l : Int) (u : wy_V) (c : Int) (τ : am_D), 3 - l = n → 0 ≤ l → wy_fl V0 u c → wy_J P u → wj_o [129] σ τ → wy_E 1152921504606846976 (τ.2.1 129) u → (∀ (u' : wy_V) (c' : Int) (τ' : am_D), wy_l P q n l u = u' → wy_fl V0 u' c' → wy_J P u' → wj_o [129] σ τ' → wy_E 1152921504606846976 (τ'.2.1 129) u' → am_X (am_FV G (d + 3) Q) mX11_laysLeast (0, 0) 145 [some (am_r (some 91)), some (am_i sl), some (am_i c'), some (am_i q), none, none] [] (am_K0, τ')) → am_X (am_FV G (d + 3) Q) mX11_laysLeast (0, 0) 74 [some (am_r (some 91)), some (am_i sl), some (am_i c), some (am_i q), some (am_i l), none] [] (am_K0, τ) := by
    intro V0 q q0 q1 n
    induction n with
    | zero =>
      intro l u c τ hn hl hf hJ hj hEu K
      refine S_X11_laysLeast_74 (by omega) (fun _ => ?_) (fun z => absurd (by omega) z)
      exact K u c τ rfl hf hJ hj hEu
    | succ n ih =>
      intro l u c τ hn hl hf hJ hj hEu K
      have ho := poT l q
      have t1 := (hT.2.1 l q (by omega) (by omega) (by omega) (by omega)).1
      refine S_X11_laysLeast_74 (by omega) (fun z => absurd z (by omega)) (fun _ => ?_)
      refine S_X11_laysLeast_80 (c_openAt _) ?_
      rintro _ _ ⟨rfl, rfl⟩
      have back : ∀ (u' : wy_V) (c' : Int) (τ' : am_D), wy_t P q l (pm_S P).toNat 0 u = u' → wy_fl V0 u' c' → wy_J P u' → wj_o [129] σ τ' → wy_E 1152921504606846976 (τ'.2.1 129) u' → am_X (am_FV G (d + 3) Q) mX11_laysLeast (0, 0) 139 [some (am_r (some 91)), some (am_i sl), some (am_i c'), some (am_i q), some (am_i l), none] [] (am_K0, τ') := by
        intro u' c' τ' e2 hf' hJ' hj' hE'
        refine S_X11_laysLeast_139 ?_
        refine ih (l + 1) u' c' τ' (by omega) (by omega) hf' hJ' hj' hE' (fun u2 c2 τ2 e3 => K u2 c2 τ2 ?_)
        show wy_l P q n (l + 1) (wy_t P q l (pm_S P).toNat 0 u) = u2
        rw [e2]; exact e3
      refine S_X11_laysLeast_91 sh_98 (by omega) (by omega) (by rw [hj.1, t1]; omega) (fun z => ?_) (fun z => ?_)
      · rw [hj.1, t1] at z
        have hskip : ∀ (k : Nat) (t : Int) (w : wy_V), wy_t P q l k t w = w := by
          intro k
          induction k with
          | zero => intro t w; rfl
          | succ k ihk =>
            intro t w
            show wy_t P q l k (t + 1) (wy_rl P w q l t) = w
            rw [show wy_rl P w q l t = w by unfold wy_rl; rw [if_pos z]]
            exact ihk _ _
        exact back u c τ (hskip _ _ _) hf hJ hj hEu
      · rw [hj.1, t1] at z
        refine S_X11_laysLeast_96 ?_
        exact T V0 q l q0 q1 hl (by omega) z (pm_S P).toNat 0 u c τ (by omega) (by omega) hf hJ hj hEu back
  -- a round
  have Rd : ∀ (V0 : wy_V) (n : Nat) (q : Int) (u : wy_V) (c : Int) (τ : am_D), pm_S P - q = n → 0 ≤ q → wy_fl V0 u c → wy_J P u → wj_o [129] σ τ → wy_E 1152921504606846976 (τ.2.1 129) u → (∀ (u' : wy_V) (c' : Int) (τ' : am_D), wy_q P n q u = u' → wy_fl V0 u' c' → wj_o [129] σ τ' → wy_E 1152921504606846976 (τ'.2.1 129) u' → am_X (am_FV G (d + 3) Q) mX11_laysLeast (0, 0) 151 [some (am_r (some 91)), some (am_i sl), some (am_i c'), none, none, none] [] (am_K0, τ')) → am_X (am_FV G (d + 3) Q) mX11_laysLeast (0, 0) 61 [some (am_r (some 91)), some (am_i sl), some (am_i c), some (am_i q), none, none] [] (am_K0, τ) := by
    intro V0 n
    induction n with
    | zero =>
      intro q u c τ hn hq hf hJ hj hEu K
      refine S_X11_laysLeast_61 hsl.1 hsl.2 (by omega) (by rw [hj.1, t94]; omega) (fun _ => ?_) (fun z => absurd (by rw [hj.1, t94]; omega) z)
      exact K u c τ rfl hf hj hEu
    | succ n ih =>
      intro q u c τ hn hq hf hJ hj hEu K
      refine S_X11_laysLeast_61 hsl.1 hsl.2 (by omega) (by rw [hj.1, t94]; omega) (fun z => absurd z (by rw [hj.1, t94]; omega)) (fun _ => ?_)
      refine S_X11_laysLeast_71 ?_
      refine L V0 q hq (by omega) 3 0 u c τ (by omega) (by omega) hf hJ hj hEu (fun u' c' τ' e2 hf' hJ' hj' hE' => ?_)
      refine S_X11_laysLeast_145 ?_
      refine ih (q + 1) u' c' τ' (by omega) (by omega) hf' hJ' hj' hE' (fun u2 c2 τ2 e3 => K u2 c2 τ2 ?_)
      show wy_q P n (q + 1) (wy_l P q 3 0 u) = u2
      rw [e2]; exact e3
  have W : ∀ (n k : Nat) (c : Int) (τ : am_D), k + n = 37 → (c = 0 ∧ wy_I P k = wy_I P 36) ∨ (c = 1 ∧ k ≤ 36) → wj_o [129] σ τ → wy_E 1152921504606846976 (τ.2.1 129) (wy_I P k) → am_X (am_FV G (d + 3) Q) mX11_laysLeast (0, 0) 53 [some (am_r (some 91)), some (am_i sl), some (am_i c), none, none, none] [] (am_K0, τ) := by
    intro n
    have out : ∀ (k : Nat) (τ : am_D), wy_I P k = wy_I P 36 → wj_o [129] σ τ → wy_E 1152921504606846976 (τ.2.1 129) (wy_I P k) → am_X (am_FV G (d + 3) Q) mX11_laysLeast (0, 0) 154 [none, none, none, none, none, none] [] (am_K0, τ) := by
      intro k τ h hj hE
      refine S_X11_laysLeast_154 ?_
      rw [← hQ]
      exact ⟨hj, by rw [← h]; exact hE⟩
    induction n with
    | zero =>
      intro k c τ hk hc hj hE
      rcases hc with ⟨rfl, h⟩ | ⟨-, h⟩
      · exact S_X11_laysLeast_53 (by omega) (fun _ => out k τ h hj hE) (fun z => absurd rfl z)
      · omega
    | succ n ih =>
      intro k c τ hk hc hj hE
      rcases hc with ⟨rfl, h⟩ | ⟨rfl, h⟩
      · exact S_X11_laysLeast_53 (by omega) (fun _ => out k τ h hj hE) (fun z => absurd rfl z)
      · refine S_X11_laysLeast_53 (by omega) (fun z => absurd z (by omega)) (fun _ => ?_)
        refine S_X11_laysLeast_57 ?_
        refine S_X11_laysLeast_59 ?_
        refine Rd (wy_I P k) (pm_S P).toNat 0 (wy_I P k) 0 τ (by omega) (by omega) ⟨Or.inl ⟨rfl, rfl⟩, wy_le.rfl'⟩ (wy_J_I hP k) hj hE (fun u' c' τ' e2 hf' hj' hE' => ?_)
        have e2 : wy_I P (k + 1) = u' := e2
        rw [← e2] at hf' hE'
        refine S_X11_laysLeast_151 ?_
        refine ih (k + 1) c' τ' (by omega) ?_ hj' hE'
        rcases hf'.1 with ⟨h0, h1⟩ | ⟨h0, h1⟩
        · exact Or.inl ⟨h0, h1.trans (fx2 k h1)⟩
        · refine Or.inr ⟨h0, ?_⟩
          have : k ≠ 36 := fun e => h1 (by subst e; exact fx1)
          omega
  -- the start
  have C : ∀ (q : Int), 0 ≤ q → q < 6 → ∀ (n : Nat) (r : Int) (τ : am_D), 6 - r = n → 0 ≤ r → wj_o [129] σ τ → (∀ x y : Int, 0 ≤ x → x < 6 → 0 ≤ y → y < 6 → (x < q ∨ (x = q ∧ y < r)) → τ.2.1 129 (6 * x + y) = Int64.ofInt (wy_n 1152921504606846976 (wy_0 x y))) → (∀ τ' : am_D, wj_o [129] σ τ' → (∀ x y : Int, 0 ≤ x → x < 6 → 0 ≤ y → y < 6 → x < q + 1 → τ'.2.1 129 (6 * x + y) = Int64.ofInt (wy_n 1152921504606846976 (wy_0 x y))) → am_X (am_FV G (d + 3) Q) mX11_laysLeast (0, 0) 45 [some (am_r (some 91)), some (am_i sl), some (am_i q), none, none, none] [] (am_K0, τ')) → am_X (am_FV G (d + 3) Q) mX11_laysLeast (0, 0) 10 [some (am_r (some 91)), some (am_i sl), some (am_i q), some (am_i r), none, none] [] (am_K0, τ) := by
    intro q q0 q1 n
    induction n with
    | zero =>
      intro r τ hn hr hj hE K
      refine S_X11_laysLeast_10 (by omega) (fun _ => ?_) (fun z => absurd (by omega) z)
      exact K τ hj (fun x y x0 x1 y0 y1 hx => hE x y x0 x1 y0 y1 (by omega))
    | succ n ih =>
      intro r τ hn hr hj hE K
      refine S_X11_laysLeast_10 (by omega) (fun z => absurd z (by omega)) (fun _ => ?_)
      have go : ∀ x : Int64, x = Int64.ofInt (wy_n 1152921504606846976 (wy_0 q r)) → am_X (am_FV G (d + 3) Q) mX11_laysLeast (0, 0) 38 [some (am_r (some 91)), some (am_i sl), some (am_i q), some (am_i r), none, none] [am_l x, am_i (6 * q + r), am_r (some 129)] (am_K0, τ) := by
        intro x hx
        refine S_X11_laysLeast_38 sh_129 (by omega) (by omega) ?_
        refine S_X11_laysLeast_39 ?_
        refine ih (r + 1) _ (by omega) (by omega) (hj.trans (wj_o.pJ (by simp))) (fun a b a0 a1 b0 b1 hab => ?_) K
        rw [am_pJ_row]
        by_cases z : a = q ∧ b = r
        · rw [z.1, z.2, am_u1_eqJ, hx]
        · rw [am_u1_neJ (by omega)]
          exact hE a b a0 a1 b0 b1 (by omega)
      refine S_X11_laysLeast_16 (by omega) (by omega) (fun z => ?_) (fun z => ?_)
      · exact S_X11_laysLeast_35 (go _ (by rw [wy_n0 ⟨q0, q1⟩, if_neg z]; exact wl_60))
      · exact S_X11_laysLeast_31 (go _ (by rw [wy_n0 ⟨q0, q1⟩, if_pos (Classical.not_not.mp z)]; exact wl_0))
  have D : ∀ (n : Nat) (q : Int) (τ : am_D), 6 - q = n → 0 ≤ q → wj_o [129] σ τ → (∀ x y : Int, 0 ≤ x → x < 6 → 0 ≤ y → y < 6 → x < q → τ.2.1 129 (6 * x + y) = Int64.ofInt (wy_n 1152921504606846976 (wy_0 x y))) → am_X (am_FV G (d + 3) Q) mX11_laysLeast (0, 0) 2 [some (am_r (some 91)), some (am_i sl), some (am_i q), none, none, none] [] (am_K0, τ) := by
    intro n
    induction n with
    | zero =>
      intro q τ hn hq hj hE
      refine S_X11_laysLeast_2 (by omega) (fun _ => ?_) (fun z => absurd (by omega) z)
      refine S_X11_laysLeast_51 ?_
      exact W 37 0 1 τ rfl (Or.inr ⟨rfl, by omega⟩) hj (fun x y x0 x1 y0 y1 => hE x y x0 x1 y0 y1 (by omega))
    | succ n ih =>
      intro q τ hn hq hj hE
      refine S_X11_laysLeast_2 (by omega) (fun z => absurd z (by omega)) (fun _ => ?_)
      refine S_X11_laysLeast_8 ?_
      refine C q hq (by omega) 6 0 τ (by omega) (by omega) hj (fun x y x0 x1 y0 y1 h => hE x y x0 x1 y0 y1 (by omega)) (fun τ' hj' hE' => ?_)
      refine S_X11_laysLeast_45 ?_
      exact ih (q + 1) τ' (by omega) (by omega) hj' hE'
  exact S_X11_laysLeast_0 (D 6 0 σ (by omega) (by omega) wj_o.rfl' (fun x y x0 x1 y0 y1 h => absurd h (by omega)))
-- the least
def wy_mn (a b : Option Nat) : Option Nat := match b with
  | none => a
  | some n => match a with
    | none => some n
    | some m => if n < m then some n else some m
def wy_bs (P : am_P) (v : wy_V) : Nat → Int → Option Nat → Option Nat
  | 0, _, b => b
  | n + 1, r, b => wy_bs P v n (r + 1) (if (pm_eX P r).isSome then wy_mn b (v 0 r) else b)
def wy_ans (o : Option Nat) : Int := match o with
  | none => -1
  | some n => am_l2i (Int64.ofInt n)
def wy_least (P : am_P) : Int := wy_ans (wy_bs P (wy_I P 36) (pm_S P).toNat 0 none)
theorem wy_mn_n {B : Int} {a b : Option Nat} (ha : ∀ n, a = some n → n < 68719476736) (hb : ∀ n, b = some n → n < 68719476736) (hB : 68719476736 ≤ B ∧ B ≤ 1152921504606846976) : (if Int64.ofInt (wy_n B b) < Int64.ofInt (wy_n B a) then Int64.ofInt (wy_n B b) else Int64.ofInt (wy_n B a)) = Int64.ofInt (wy_n B (wy_mn a b)) := by
  have ra : 0 ≤ wy_n B a ∧ wy_n B a ≤ B := by
    cases a with
    | none => exact ⟨by show 0 ≤ B; omega, Int.le_refl _⟩
    | some n => have := ha n rfl; exact ⟨by show 0 ≤ (n : Int); omega, by show (n : Int) ≤ B; omega⟩
  have rb : 0 ≤ wy_n B b ∧ wy_n B b ≤ B := by
    cases b with
    | none => exact ⟨by show 0 ≤ B; omega, Int.le_refl _⟩
    | some n => have := hb n rfl; exact ⟨by show 0 ≤ (n : Int); omega, by show (n : Int) ≤ B; omega⟩
  have hlt := wl_lt (a := wy_n B b) (b := wy_n B a) (by omega) (by omega)
  cases b with
  | none =>
    rw [if_neg (fun z => by have := hlt.mp z; have : B < wy_n B a := this; omega)]
    rfl
  | some n =>
    have hn := hb n rfl
    cases a with
    | none =>
      rw [if_pos (hlt.mpr (by show (n : Int) < B; omega))]
      rfl
    | some m =>
      by_cases z : n < m
      · rw [if_pos (hlt.mpr (by show (n : Int) < (m : Int); omega))]
        show _ = Int64.ofInt (wy_n B (if n < m then some n else some m))
        rw [if_pos z]
      · rw [if_neg (fun w => by have := hlt.mp w; have : (n : Int) < (m : Int) := this; omega)]
        show _ = Int64.ofInt (wy_n B (if n < m then some n else some m))
        rw [if_neg z]
theorem wy_mn_b {a b : Option Nat} (ha : ∀ n, a = some n → n < 68719476736) (hb : ∀ n, b = some n → n < 68719476736) : ∀ n, wy_mn a b = some n → n < 68719476736 := by
  intro n h
  unfold wy_mn at h
  cases b with
  | none => exact ha n h
  | some k =>
    cases a with
    | none => exact hb n h
    | some m =>
      have h : (if k < m then some k else some m) = some n := h
      split at h
      · exact hb n h
      · exact ha n h
theorem c_smallest (d : Nat) {m : Nat} {P : am_P} (hM : cd_M σ m P) : am_MI G (d + 5) mX9_smallest [am_r (some 24), am_r (some m)] σ (fun x σ' => x = wy_least P ∧ wj_o [25] σ σ') := by
  obtain ⟨m1, m2, m3, m4, m5⟩ := id hM
  have hS := m4.1
  have hJ := wy_J_I m4 36
  have hm1 := m1.1
  refine am_M.go (by decide) (Nat.le_of_ble_eq_true rfl) rfl ?_
  refine S_X9_smallest_0 (c_measure _ hM) ?_
  rintro τ ⟨hj, hE⟩
  have hMτ : cd_M τ m P := cd_M_of (fun b _ _ => by rw [hj.1]) hM
  refine S_X9_smallest_5 ?_
  refine S_X9_smallest_9 ?_
  rw [wl_40]
  have loop : ∀ (n : Nat) (r : Int) (b : Option Nat), pm_S P - r = n → 0 ≤ r → (∀ k, b = some k → k < 68719476736) → wy_ans (wy_bs P (wy_I P 36) n r b) = wy_least P → am_X (am_FI G (d + 5) (fun x σ' => x = wy_least P ∧ wj_o [25] σ σ')) mX9_smallest (0, 0) 12 [some (am_r (some 24)), some (am_r (some m)), some (am_l (Int64.ofInt (wy_n 1099511627776 b))), none, some (am_i r)] [] (am_K0, τ) := by
    intro n
    induction n with
    | zero =>
      intro r b hn hr hb he
      refine S_X9_smallest_12 m1 (by omega) (by rw [hj.1, m2.1.1]; omega) (fun _ => ?_) (fun z => absurd (by rw [hj.1, m2.1.1]; omega) z)
      have he : wy_ans b = wy_least P := he
      cases b with
      | none =>
        refine S_X9_smallest_55 (fun _ => ?_) (fun z => absurd (by rw [wl_40]; exact (wl_cmp0 (by decide) (by decide)).mpr (Int.le_refl _)) z)
        exact S_X9_smallest_68 (S_X9_smallest_69 ⟨he, hj⟩)
      | some k =>
        have hk := hb k rfl
        refine S_X9_smallest_55 (fun z => ?_) (fun _ => ?_)
        · rw [wl_40, show wy_n 1099511627776 (some k) = (k : Int) from rfl, wl_cmp0 (by omega) (by omega)] at z
          omega
        · exact S_X9_smallest_63 (S_X9_smallest_69 ⟨he, hj⟩)
    | succ n ih =>
      intro r b hn hr hb he
      have hEr := hMτ.2.1.2.2.2 r (by omega) (by omega)
      have hMb := hMτ.b
      refine S_X9_smallest_12 m1 (by omega) (by rw [hj.1, m2.1.1]; omega) (fun z => absurd z (by rw [hj.1, m2.1.1]; omega)) (fun _ => ?_)
      refine S_X9_smallest_21 (c_endTells _ m1 (by omega)) m1 ?_
      rintro _ _ ⟨rfl, rfl⟩
      rw [if_pos (by omega)]
      have he : wy_ans (wy_bs P (wy_I P 36) n (r + 1) (if (pm_eX P r).isSome then wy_mn b (wy_I P 36 0 r) else b)) = wy_least P := he
      cases hx : pm_eX P r with
      | none =>
        rw [hx] at hEr he
        have hEr : τ.1 (m + 5) r = -1 := hEr
        rw [hEr]
        refine S_X9_smallest_27 (by omega) (fun _ => ?_) (fun z => absurd rfl z)
        refine S_X9_smallest_49 ?_
        exact ih (r + 1) b (by omega) (by omega) hb he
      | some w =>
        rw [hx] at hEr he
        have hEr : cm_X τ m (τ.1 (m + 5) r) w := hEr
        have h0 := hEr.1
        have h01 := hEr.2.1
        refine S_X9_smallest_27 (by omega) (fun z => absurd z (by omega)) (fun _ => ?_)
        refine S_X9_smallest_31 (c_pair _) ?_
        rintro _ _ ⟨rfl, rfl⟩
        refine S_X9_smallest_42 (c_jat _ sh_25 (by omega) (by omega)) ?_
        rintro _ _ ⟨rfl, rfl⟩
        rw [hE 0 r (by omega) (by omega) (by omega) (by omega)]
        refine S_X9_smallest_45 (c_min _) ?_
        rintro _ _ ⟨rfl, rfl⟩
        have hvb : ∀ k, wy_I P 36 0 r = some k → k < 68719476736 := fun k hk => hJ.b 0 r k hk
        rw [wy_mn_n hb hvb (by omega)]
        refine S_X9_smallest_49 ?_
        exact ih (r + 1) _ (by omega) (by omega) (wy_mn_b hb hvb) he
  exact loop (pm_S P).toNat 0 none (by omega) (by omega) (fun k hk => nomatch hk) rfl
end
