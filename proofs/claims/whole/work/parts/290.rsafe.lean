section
variable {G : am_G} {σ : am_D}
theorem S11_safe_86 {d : Nat} {Q : Int → am_D → Prop} {v1 : Int} {v2 : Int} {v3 : Int} {s1 : Int} {s2 : Int} {s0 : Nat} {n1 : Nat} (hs2 : am_sh am_SH s0 = (102, n1)) (hi3 : 0 ≤ s1) (hj4 : s1 < ((n1 : Nat) : Int)) (h01 : s2 = 0 ∨ s2 = 1) (k : am_X (am_FI G (d + 1) Q) mX11_safe (0, 0) 87 [some (am_r (some 91)), some (am_i v1), some (am_i v2), some (am_i v3), none, none] [] (am_K0, (am_pI σ s0 s1 s2))) : am_X (am_FI G (d + 1) Q) mX11_safe (0, 0) 86 [some (am_r (some 91)), some (am_i v1), some (am_i v2), some (am_i v3), none, none] [am_i s2, am_i s1, am_r (some s0)] (am_K0, σ) := by
  refine am_r_zast (nx := 87) (hs2) (am_shle (hs2)) hi3 hj4 h01 (show decode cX11_safe 86 = .ok (.bastore, 1) by decide +kernel) rfl ?_
  exact k
theorem r_isSpoiltHere (d : Nat) {P Q : am_P} {s1 s2 : Int} {x : sv_S} (hM : rk_M σ s1 s2 P Q) (hx : sv_ok x) : am_MI G (d + 4) mX11_isSpoiltHere [am_r (some 91), am_i s1, am_i s2, am_i (sv_w x)] σ (fun r σ' => r = (if sv_e P Q x then 1 else 0) ∧ σ'.1 132 = σ.1 132 ∧ am_only rk_F σ σ') := by
  obtain ⟨⟨h1, h2⟩, ⟨hT, hT2⟩, hm⟩ := id hM
  obtain ⟨⟨hP, hW, h3, hR2⟩, hQ⟩ := id hm
  obtain ⟨o1, o2, o3, o4, o5, o6⟩ := sv_w_rg hx
  have g2 := hx.2.1
  obtain ⟨n1, n2⟩ := hT.endR hP (q := x.1.2) (by omega)
  refine am_M.go (by decide) (Nat.le_of_ble_eq_true rfl) rfl ?_
  refine S_X11_isSpoiltHere_0 (by omega) (by omega) (by omega) ?_
  rw [o2]
  cases hv : pm_eX P x.1.2 with
  | none =>
    have n1 := n1 hv
    rw [n1]
    refine S_X11_isSpoiltHere_16 (by omega) (fun z => absurd rfl z) (fun _ => ?_)
    refine S_X11_isSpoiltHere_22 ⟨?_, rfl, am_only.rfl'⟩
    unfold sv_e
    rw [hv]
    rfl
  | some v =>
  obtain ⟨y1, y2, y3⟩ := n2 v hv
  obtain ⟨wx, w8⟩ := hm.ex hv
  refine S_X11_isSpoiltHere_16 (by omega) (fun _ => ?_) (fun z => absurd (by omega) z)
  refine S_X11_isSpoiltHere_24 (by omega) (by omega) ?_
  refine S_X11_isSpoiltHere_37 (by omega) ?_
  rw [o3, o4]
  generalize hρ : am_pI (am_pI σ 133 0 (sk_r x.2.1)) 133 1 (sk_r x.2.2) = ρ
  have f1 : am_only [133] σ ρ := by
    rw [← hρ]
    exact (am_only.pI (by decide)).trans (am_only.pI (by decide))
  have f1' : am_only rk_F σ ρ := f1.sub (by decide)
  have k3 : rk_2 ρ 133 x := by
    rw [← hρ]
    exact ⟨by rw [am_pI_nj (by decide), am_pI_at], by rw [am_pI_at]⟩
  have hMρ := hM.f f1'
  have hX : rm_X ρ s1 (3 * σ.1 102 (6 * s1 + x.1.2) + 0) v := by
    obtain ⟨q1, q2, q3, q4⟩ := y3
    unfold rm_X
    rw [Int.add_zero, f1.1 103 (by decide), f1.1 104 (by decide), f1.1 97 (by decide), f1.1 106 (by decide)]
    exact ⟨q1, q2, q3, q4⟩
  refine S_X11_isSpoiltHere_47 (r_does _ h1 h2 hMρ.2.1.2 hQ (by omega) (by omega) hX (by rw [f1.1 97 (by decide)]; exact hT.b97 hP) wx (rk_V_of wx hx hx k3 (Or.inl w8))) ?_
  rintro _ τ ⟨rfl, f2⟩
  have f3 : am_only rk_F σ τ := f1'.trans (f2.sub (by decide))
  have h132 : τ.1 132 = σ.1 132 := by rw [f2.1 132 (by decide), f1.1 132 (by decide)]
  have hev : sk_ok (sk_ev Q (sv_X x) (sv_X x) v sk_1 []) := sk_ok_ev hQ v sk_1 [] (fun s _ => ⟨fun _ _ => sv_X_ok hx, fun _ => sv_X_ok hx⟩) sk_ok_1
  refine S_X11_isSpoiltHere_56 (r_by _ hev (by omega)) ?_
  rintro _ _ ⟨rfl, rfl⟩
  have hlr : 0 ≤ sv_l Q x v ∧ sv_l Q x v ≤ 2 := sk_to_rg hev
  have hse : sv_e P Q x = (decide (sv_l Q x v = 2) || (pm_eX Q (sv_l Q x v)).isNone) := by
    unfold sv_e
    rw [hv]
  rw [hse]
  change am_X _ _ _ _ [some (am_r (some 91)), none, some (am_i s2), none, none, some (am_i (sv_l Q x v))] _ _
  generalize sv_l Q x v = last at *
  have yes : (decide (last = 2) || (pm_eX Q last).isNone) = true → am_X (am_FI G (d + 4) (fun r σ' => r = (if (decide (last = 2) || (pm_eX Q last).isNone) = true then 1 else 0) ∧ σ'.1 132 = σ.1 132 ∧ am_only rk_F σ σ')) mX11_isSpoiltHere (0, 0) 84 [none, none, none, none, none, none] [] (am_K0, τ) := by
    intro h
    refine S_X11_isSpoiltHere_84 (S_X11_isSpoiltHere_89 (Or.inr rfl) ⟨?_, h132, f3⟩)
    rw [if_pos h]
  refine S_X11_isSpoiltHere_62 (by omega) (fun z => yes (by rw [decide_eq_true z]; rfl)) (fun z => ?_)
  obtain ⟨b1, b2⟩ := (hM.f f3).2.1.2.endR hQ.1 (q := last) (by omega)
  cases hq : pm_eX Q last with
  | none =>
    have b1 := b1 hq
    refine S_X11_isSpoiltHere_68 (by omega) (by omega) (by omega) (fun y => absurd b1 y) (fun _ => ?_)
    have := yes (by rw [hq]; simp)
    rw [hq] at this
    exact this
  | some u =>
    obtain ⟨c1, c2, -⟩ := b2 u hq
    refine S_X11_isSpoiltHere_68 (by omega) (by omega) (by omega) (fun _ => ?_) (fun y => absurd (by omega) y)
    refine S_X11_isSpoiltHere_88 (S_X11_isSpoiltHere_89 (Or.inl rfl) ⟨?_, h132, f3⟩)
    rw [decide_eq_false z]
    rfl
/-- what is asked of safe -/
def sf_T (σ : am_D) (a b : Int) (P Q : am_P) : Prop := (rt_k σ a ∧ rt_k σ b) ∧ (pm_S P ≤ 3 ∧ pm_R P ≤ 2) ∧ pm_S Q ≤ 2
def sf_bad (P Q : am_P) : Prop := ∃ y, sv_R P Q y ∧ y.1.1 = 0 ∧ sv_e P Q y = true
theorem r_safe (d : Nat) {P Q : am_P} {a b : Int} (ha : -2147483648 ≤ a ∧ a ≤ 2147483647) (hb : -2147483648 ≤ b ∧ b ≤ 2147483647) (h93 : ∀ j : Int, 0 ≤ j → j ≤ 3 → σ.1 93 j = 0 ∨ σ.1 93 j = 1) (h1 : rt_k σ a → rm_T σ a P ∧ pm_ok P ∧ pm_wf P) (h2 : rt_k σ b → rm_T σ b Q ∧ pm_ok Q ∧ pm_dm Q) : am_MI G (d + 6) mX11_safe [am_r (some 91), am_i a, am_i b] σ (fun x σ' => (¬ sf_T σ a b P Q ∧ x = -1 ∧ σ = σ') ∨ (sf_T σ a b P Q ∧ ((x = 0 ∧ sf_bad P Q) ∨ (x = 1 ∧ ¬ sf_bad P Q)) ∧ am_only rk_F σ σ')) := by
  refine am_M.go (by decide) (Nat.le_of_ble_eq_true rfl) rfl ?_
  refine S_X11_safe_0 (r_isMachine _ ha h93) ?_
  rintro x _ ⟨hx, rfl⟩
  rcases hx with ⟨rfl, hr1⟩ | ⟨rfl, hr1⟩
  rotate_left
  · refine S_X11_safe_5 (by decide) (fun _ => ?_) (fun z => absurd rfl z)
    exact S_X11_safe_46 (Or.inl ⟨fun z => hr1 z.1.1, rfl, rfl⟩)
  refine S_X11_safe_5 (by decide) (fun z => absurd z (by decide)) (fun _ => ?_)
  refine S_X11_safe_8 (r_isMachine _ hb h93) ?_
  rintro x _ ⟨hx, rfl⟩
  rcases hx with ⟨rfl, hr2⟩ | ⟨rfl, hr2⟩
  rotate_left
  · refine S_X11_safe_13 (by decide) (fun _ => ?_) (fun z => absurd rfl z)
    exact S_X11_safe_46 (Or.inl ⟨fun z => hr2 z.1.2, rfl, rfl⟩)
  refine S_X11_safe_13 (by decide) (fun z => absurd z (by decide)) (fun _ => ?_)
  obtain ⟨hT, hP, hW⟩ := h1 hr1
  obtain ⟨hT2, hP2, hdm⟩ := h2 hr2
  have k1 := hr1.1
  have k2 := hr2.1
  have a94 := hT.1.1
  have a95 := hT.1.2
  have b94 := hT2.1.1
  have q1 := hP.1
  have q2 := hP.2.1
  have q3 := hP2.1
  refine S_X11_safe_16 (by omega) (by omega) (by omega) (fun z => S_X11_safe_46 (Or.inl ⟨fun w => by have := w.2.1.1; omega, rfl, rfl⟩)) (fun z1 => ?_)
  refine S_X11_safe_26 (by omega) (by omega) (by omega) (fun z => S_X11_safe_46 (Or.inl ⟨fun w => by have := w.2.1.2; omega, rfl, rfl⟩)) (fun z2 => ?_)
  refine S_X11_safe_36 (by omega) (by omega) (by omega) (fun z3 => ?_) (fun z => S_X11_safe_46 (Or.inl ⟨fun w => by have := w.2.2; omega, rfl, rfl⟩))
  have hm : sv_m P Q := ⟨⟨hP, hW, by omega, by omega⟩, hP2, by omega, hdm⟩
  have hM : rk_M σ a b P Q := ⟨⟨by omega, by omega⟩, ⟨hT, hT2⟩, hm⟩
  have hTt : sf_T σ a b P Q := ⟨⟨hr1, hr2⟩, ⟨by omega, by omega⟩, by omega⟩
  refine S_X11_safe_48 ?_
  generalize hQQ : (fun (x : Int) (σ' : am_D) => (¬ sf_T σ a b P Q ∧ x = -1 ∧ σ = σ') ∨ (sf_T σ a b P Q ∧ ((x = 0 ∧ sf_bad P Q) ∨ (x = 1 ∧ ¬ sf_bad P Q)) ∧ am_only rk_F σ σ')) = QQ
  -- the end
  have last : ∀ (τ : am_D), am_only rk_F σ τ → rk_B (τ.1 132) → rk_Z P Q (τ.1 132) → (∀ x, sv_R P Q x → τ.1 132 (sv_r x) = 1) → am_X (am_FI G (d + 6) QQ) mX11_safe (0, 0) 181 [some (am_r (some 91)), some (am_i a), some (am_i b), none, none, none] [] (am_K0, τ) := by
    intro τ0 hf0 hB0 hZ0 hall0
    refine S_X11_safe_181 ?_
    have loop : ∀ (n : Nat) (v : Int) (τ : am_D), v + n = 243 → 0 ≤ v → am_only rk_F σ τ → τ.1 132 = τ0.1 132 → (∀ x, sv_R P Q x → x.1.1 = 0 → sv_w x < v → sv_e P Q x = false) → am_X (am_FI G (d + 6) QQ) mX11_safe (0, 0) 184 [some (am_r (some 91)), some (am_i a), some (am_i b), none, some (am_i v), none] [] (am_K0, τ) := by
      intro n
      induction n with
      | zero =>
        intro v τ hn hv hf h132 hno
        refine S_X11_safe_184 (by omega) (fun _ => ?_) (fun z => absurd (by omega) z)
        refine S_X11_safe_221 ?_
        rw [← hQQ]
        refine Or.inr ⟨hTt, Or.inr ⟨rfl, ?_⟩, hf⟩
        rintro ⟨y, y1, y2, y3⟩
        have := (sv_w_rg (sv_R_ok hm y1)).1
        rw [hno y y1 y2 (by omega)] at y3
        exact nomatch y3
      | succ n ih =>
        intro v τ hn hv hf h132 hno
        obtain ⟨xok, xr⟩ := sv_d_ok (i := v) (by omega)
        have xb : (sv_d v).1.1 = 0 := by show v / 243 = 0; omega
        generalize hx : sv_d v = x at *
        have xw : sv_w x = v := by
          have := (sv_w_rg xok).2.2.2.2.2
          omega
        have hbt := hB0 v (by omega) (by omega)
        have next : ∀ τ' : am_D, am_only rk_F σ τ' → τ'.1 132 = τ0.1 132 → (sv_R P Q x → sv_e P Q x = false) → am_X (am_FI G (d + 6) QQ) mX11_safe (0, 0) 215 [some (am_r (some 91)), some (am_i a), some (am_i b), none, some (am_i v), none] [] (am_K0, τ') := by
          intro τ' hf' h132' hone
          refine S_X11_safe_215 ?_
          refine ih (v + 1) τ' (by omega) (by omega) hf' h132' (fun y y1 y2 y3 => ?_)
          by_cases e : sv_w y = v
          · have yok := sv_R_ok hm y1
            have e1 := (sv_w_rg yok).2.2.2.2.2
            have := sv_d_r yok
            rw [e1, y2, e, show 243 * (0 : Int) + v = v by omega, hx] at this
            rw [← this]
            exact hone (this ▸ y1)
          · exact hno y y1 y2 (by omega)
        refine S_X11_safe_184 (by omega) (fun z => absurd z (by omega)) (fun _ => ?_)
        refine S_X11_safe_192 (by omega) (by omega) (by rw [h132]; omega) (fun z => ?_) (fun z => ?_)
        · rw [h132] at z
          refine next τ hf h132 (fun h => ?_)
          have := hall0 x h
          rw [xr] at this
          omega
        · rw [h132] at z
          have hxR : sv_R P Q x := hZ0 x xok (by rw [xr]; omega)
          have hsp := r_isSpoiltHere (G := G) (σ := τ) (d + 1) (x := x) (hM.f hf) xok
          rw [xw] at hsp
          refine S_X11_safe_202 hsp ?_
          rintro r τ' ⟨rfl, h132', hf'⟩
          cases he : sv_e P Q x with
          | true =>
            refine S_X11_safe_210 (by decide) (fun y => absurd y (by decide)) (fun _ => ?_)
            refine S_X11_safe_213 ?_
            rw [← hQQ]
            exact Or.inr ⟨hTt, Or.inl ⟨rfl, x, hxR, xb, he⟩, hf.trans hf'⟩
          | false =>
            refine S_X11_safe_210 (by decide) (fun _ => ?_) (fun y => absurd (by decide) y)
            exact next τ' (hf.trans hf') (h132'.trans h132) (fun _ => he)
    exact loop 243 0 τ0 (by omega) (by omega) hf0 rfl (fun x h _ hw => by
      have := (sv_w_rg (sv_R_ok hm h)).1
      omega)
  -- rounds
  have R : ∀ (k : Nat) (c : Int) (τ0 : am_D), 729 - rk_o (τ0.1 132) < k → am_only rk_F σ τ0 → rk_B (τ0.1 132) → rk_Z P Q (τ0.1 132) → (∀ q, 0 ≤ q → q < 3 → τ0.1 132 (sv_r (sv_1 q)) = 1) → am_X (am_FI G (d + 6) QQ) mX11_safe (0, 0) 99 [some (am_r (some 91)), some (am_i a), some (am_i b), none, none, none] [] (am_K0, τ0) := by
    intro k
    induction k with
    | zero => intro c τ0 hk; omega
    | succ k ihk =>
      intro c0 τ0 hk hf0 hB0 hZ0 hinit
      refine S_X11_safe_99 (S_X11_safe_101 ?_)
      -- w
      have V : ∀ (q : Int), 0 ≤ q → q < pm_S P → ∀ (n : Nat) (v c : Int) (τ : am_D), v + n = 243 → 0 ≤ v → rk_I P Q (τ0.1 132) (τ.1 132) c → am_only rk_F σ τ → (c = 0 → ∀ l o i y, 0 ≤ l → l < 3 → sv_ok o → o.1.1 < pm_S P → τ0.1 132 (sv_r o) = 1 → sv_ok i → τ0.1 132 (sv_r i) = 1 → pm_oT P l o.1.2 = i.1.1 → sv_n P Q l o i = some y → (o.1.1 < q ∨ (o.1.1 = q ∧ sv_w o < v)) → τ0.1 132 (sv_r y) = 1) → (∀ (c' : Int) (τ' : am_D), rk_I P Q (τ0.1 132) (τ'.1 132) c' → am_only rk_F σ τ' → (c' = 0 → ∀ l o i y, 0 ≤ l → l < 3 → sv_ok o → o.1.1 < pm_S P → τ0.1 132 (sv_r o) = 1 → sv_ok i → τ0.1 132 (sv_r i) = 1 → pm_oT P l o.1.2 = i.1.1 → sv_n P Q l o i = some y → o.1.1 < q + 1 → τ0.1 132 (sv_r y) = 1) → am_X (am_FI G (d + 6) QQ) mX11_safe (0, 0) 172 [some (am_r (some 91)), some (am_i a), some (am_i b), some (am_i c'), some (am_i q), none] [] (am_K0, τ')) → am_X (am_FI G (d + 6) QQ) mX11_safe (0, 0) 118 [some (am_r (some 91)), some (am_i a), some (am_i b), some (am_i c), some (am_i q), some (am_i v)] [] (am_K0, τ) := by
        intro q q0 q1 n
        induction n with
        | zero =>
          intro v c τ hn hv hI hf hC K
          refine S_X11_safe_118 (by omega) (fun _ => ?_) (fun z => absurd (by omega) z)
          refine K c τ hI hf (fun hc l o i y a1 a2 a3 a4 a5 a6 a7 a8 a9 b1 => hC hc l o i y a1 a2 a3 a4 a5 a6 a7 a8 a9 ?_)
          have := (sv_w_rg a3).1
          omega
        | succ n ih =>
          intro v c τ hn hv hI hf hC K
          obtain ⟨ook, or⟩ := sv_d_ok (i := 243 * q + v) (by omega)
          have ob : (sv_d (243 * q + v)).1.1 = q := by show (243 * q + v) / 243 = q; omega
          generalize ho : sv_d (243 * q + v) = o at *
          have ow : sv_w o = v := by
            have := (sv_w_rg ook).2.2.2.2.2
            rw [ob] at this
            omega
          have uniq : ∀ j : sv_S, sv_ok j → j.1.1 = q → sv_w j = v → j = o := by
            intro j hj hb hw
            have e1 := (sv_w_rg hj).2.2.2.2.2
            have := sv_d_r hj
            rw [e1, hb, hw, ho] at this
            exact this.symm
          have hbt := hI.1.1 (243 * q + v) (by omega) (by omega)
          have c01 : c = 0 ∨ c = 1 := by rcases hI.2.2 with ⟨h, -⟩ | ⟨h, -⟩ <;> omega
          have next : ∀ (c' : Int) (τ' : am_D), rk_I P Q (τ0.1 132) (τ'.1 132) c' → am_only rk_F σ τ' → (c' = 0 → c = 0) → (c' = 0 → τ0.1 132 (sv_r o) = 1 → ∀ l i y, 0 ≤ l → l < 3 → sv_ok i → τ0.1 132 (sv_r i) = 1 → pm_oT P l o.1.2 = i.1.1 → sv_n P Q l o i = some y → τ0.1 132 (sv_r y) = 1) → am_X (am_FI G (d + 6) QQ) mX11_safe (0, 0) 166 [some (am_r (some 91)), some (am_i a), some (am_i b), some (am_i c'), some (am_i q), some (am_i v)] [] (am_K0, τ') := by
            intro c' τ' hI' hf' hcc hone
            refine S_X11_safe_166 ?_
            refine ih (v + 1) c' τ' (by omega) (by omega) hI' hf' (fun hc' l j i y a1 a2 a3 a4 a5 a6 a7 a8 a9 b1 => ?_) K
            by_cases e : j.1.1 = q ∧ sv_w j = v
            · have := uniq j a3 e.1 e.2
              subst this
              exact hone hc' a5 l i y a1 a2 a6 a7 a8 a9
            · exact hC (hcc hc') l j i y a1 a2 a3 a4 a5 a6 a7 a8 a9 (by omega)
          refine S_X11_safe_118 (by omega) (fun z => absurd z (by omega)) (fun _ => ?_)
          refine S_X11_safe_126 (by omega) (by omega) (by omega) (fun z => ?_) (fun z => ?_)
          · refine next c τ hI hf id (fun hc h5 => ?_)
            rcases hI.2.2 with ⟨-, e⟩ | ⟨e, -⟩
            · rw [e, ← or, h5] at z
              exact absurd z (by decide)
            · omega
          · have hoR : sv_R P Q o := hI.1.2 o ook (by rw [or]; omega)
            have hgo := r_goesOn (G := G) (σ := τ) d (o := o) (hM.f hf) ook (by omega) hI.1.1 hI.1.2 hoR
            rw [ob, ow] at hgo
            refine S_X11_safe_143 hgo ?_
            rintro x τ' ⟨hIx, hf', hx0⟩
            have x01 : x = 0 ∨ x = 1 := by rcases hIx.2.2 with ⟨h, -⟩ | ⟨h, -⟩ <;> omega
            have fin : ∀ y : Int, y = (if x = 0 then c else 1) → am_X (am_FI G (d + 6) QQ) mX11_safe (0, 0) 165 [some (am_r (some 91)), some (am_i a), some (am_i b), none, some (am_i q), some (am_i v)] [am_i y] (am_K0, τ') := by
              intro y hy
              refine S_X11_safe_165 ?_
              have hy0 : y = 0 → x = 0 ∧ c = 0 := by
                intro e
                rw [hy] at e
                split at e <;> omega
              refine next y τ' (hI.trans hIx hy) (hf.trans hf') (fun e => (hy0 e).2) (fun e h5 l i y' a1 a2 a6 a7 a8 a9 => ?_)
              rcases hI.2.2 with ⟨-, e3⟩ | ⟨e3, -⟩
              · have := hx0 (hy0 e).1 l i y' a1 a2 a6 (by rw [e3]; exact a7) a8 a9
                rw [e3] at this
                exact this
              · have := (hy0 e).2; omega
            refine S_X11_safe_153 (by omega) (fun w => ?_) (fun w => ?_)
            · exact S_X11_safe_160 (fin 1 (by rw [if_neg w]))
            · refine S_X11_safe_156 (by omega) (fun w2 => ?_) (fun w2 => ?_)
              · exact S_X11_safe_164 (fin 0 (by rw [if_pos (Classical.not_not.mp w), w2]))
              · exact S_X11_safe_160 (fin 1 (by rw [if_pos (Classical.not_not.mp w)]; omega))
      have B : ∀ (n : Nat) (q c : Int) (τ : am_D), q + n = pm_S P → 0 ≤ q → rk_I P Q (τ0.1 132) (τ.1 132) c → am_only rk_F σ τ → (c = 0 → ∀ l o i y, 0 ≤ l → l < 3 → sv_ok o → o.1.1 < pm_S P → τ0.1 132 (sv_r o) = 1 → sv_ok i → τ0.1 132 (sv_r i) = 1 → pm_oT P l o.1.2 = i.1.1 → sv_n P Q l o i = some y → o.1.1 < q → τ0.1 132 (sv_r y) = 1) → am_X (am_FI G (d + 6) QQ) mX11_safe (0, 0) 104 [some (am_r (some 91)), some (am_i a), some (am_i b), some (am_i c), some (am_i q), none] [] (am_K0, τ) := by
        intro n
        induction n with
        | zero =>
          intro q c τ hn hq hI hf hC
          have e94 : τ.1 94 a = pm_S P := by rw [hf.1 94 (by decide)]; exact a94
          have c01 : c = 0 ∨ c = 1 := by rcases hI.2.2 with ⟨h, -⟩ | ⟨h, -⟩ <;> omega
          refine S_X11_safe_104 (by omega) (by omega) (by omega) (by omega) (fun _ => ?_) (fun z => absurd (by omega) z)
          refine S_X11_safe_178 ?_
          rcases hI.2.2 with ⟨rfl, e⟩ | ⟨rfl, e⟩
          · refine S_X11_safe_95 (by omega) (fun _ => ?_) (fun z => absurd rfl z)
            have hC := hC rfl
            refine last τ hf hI.1.1 hI.1.2 (fun x hx => ?_)
            rw [e]
            have := hx (fun x => sv_ok x ∧ τ0.1 132 (sv_r x) = 1) ⟨fun q h0 h1 => ⟨sv_1_ok ⟨h0, h1⟩, hinit q h0 h1⟩, fun l o i x l0 l1 hob ho hi hT' hn' => ⟨sv_n_ok hm ho.1 hi.1 hn', hC l o i x l0 l1 ho.1 hob ho.2 hi.1 hi.2 hT' hn' (by omega)⟩⟩
            exact this.2
          · refine S_X11_safe_95 (by omega) (fun z => absurd z (by decide)) (fun _ => ?_)
            have := rk_o_le (f := τ.1 132)
            exact ihk 1 τ (by omega) hf hI.1.1 hI.1.2 (fun q h0 h1 => hI.2.1 _ (hinit q h0 h1))
        | succ n ih =>
          intro q c τ hn hq hI hf hC
          have e94 : τ.1 94 a = pm_S P := by rw [hf.1 94 (by decide)]; exact a94
          refine S_X11_safe_104 (by omega) (by omega) (by omega) (by omega) (fun z => absurd z (by omega)) (fun _ => ?_)
          refine S_X11_safe_115 ?_
          refine V q hq (by omega) 243 0 c τ (by omega) (by omega) hI hf (fun hc l o i y a1 a2 a3 a4 a5 a6 a7 a8 a9 b1 => hC hc l o i y a1 a2 a3 a4 a5 a6 a7 a8 a9 (by have := (sv_w_rg a3).1; omega)) (fun c' τ' hI' hf' hC' => ?_)
          refine S_X11_safe_172 ?_
          exact ih (q + 1) c' τ' (by omega) (by omega) hI' hf' hC'
      exact B (pm_S P).toNat 0 0 τ0 (by omega) (by omega) (rk_I.rfl' hB0 hZ0) hf0 (fun _ l o i y _ _ a3 _ _ _ _ _ _ b1 => by have := a3.1; omega)
  -- the start
  have Z : ∀ (n : Nat) (v : Int) (τ : am_D), v + n = 729 → 0 ≤ v → am_only rk_F σ τ → (∀ j : Int, 0 ≤ j → j < v → τ.1 132 j = if j % 243 = 81 * (j / 243) + 30 then 1 else 0) → am_X (am_FI G (d + 6) QQ) mX11_safe (0, 0) 50 [some (am_r (some 91)), some (am_i a), some (am_i b), some (am_i v), none, none] [] (am_K0, τ) := by
    intro n
    induction n with
    | zero =>
      intro v τ hn hv hf hE
      refine S_X11_safe_50 (by omega) (fun _ => ?_) (fun z => absurd (by omega) z)
      refine S_X11_safe_93 ?_
      refine S_X11_safe_95 (by decide) (fun z => absurd z (by decide)) (fun _ => ?_)
      have h1q : ∀ q : Int, sv_r (sv_1 q) = 324 * q + 30 := by
        intro q
        show 243 * q + (81 * q + 9 * sk_r sk_1 + sk_r sk_1) = _
        rw [show sk_r sk_1 = 3 by decide]
        omega
      refine R 730 1 τ (by omega) hf (fun j h0 h1 => ?_) (fun x hx hx1 => ?_) (fun q h0 h1 => ?_)
      · rw [hE j h0 (by omega)]
        split
        · exact Or.inr rfl
        · exact Or.inl rfl
      · have hrg := sv_r_rg hx
        rw [hE _ hrg.1 (by omega)] at hx1
        split at hx1
        · rename_i w
          have e : sv_r x = sv_r (sv_1 (sv_r x / 243)) := by rw [h1q]; omega
          have e2 := sv_d_r hx
          rw [e, sv_d_r (sv_1_ok (q := sv_r x / 243) (by omega))] at e2
          rw [← e2]
          exact sv_R_c.1 _ (by omega) (by omega)
        · exact absurd hx1 (by decide)
      · rw [h1q, hE _ (by omega) (by omega), if_pos (by omega)]
    | succ n ih =>
      intro v τ hn hv hf hE
      have e1 : Int.tmod v 243 = v % 243 := Int.tmod_eq_emod_of_nonneg hv
      have e2 : Int.tdiv v 243 = v / 243 := Int.tdiv_eq_ediv_of_nonneg hv
      have put : ∀ x : Int, x = (if v % 243 = 81 * (v / 243) + 30 then 1 else 0) → am_X (am_FI G (d + 6) QQ) mX11_safe (0, 0) 86 [some (am_r (some 91)), some (am_i a), some (am_i b), some (am_i v), none, none] [am_i x, am_i v, am_r (some 132)] (am_K0, τ) := by
        intro x hx
        refine S11_safe_86 sh_132 hv (by omega) (by rw [hx]; split; exact Or.inr rfl; exact Or.inl rfl) ?_
        refine S_X11_safe_87 ?_
        refine ih (v + 1) _ (by omega) (by omega) (hf.trans (am_only.pI (by decide))) (fun j h0 h1 => ?_)
        rw [am_pI_row]
        by_cases e : j = v
        · rw [e, am_u1_eq, hx]
        · rw [am_u1_ne e]
          exact hE j h0 (by omega)
      refine S_X11_safe_50 (by omega) (fun z => absurd z (by omega)) (fun _ => ?_)
      refine S_X11_safe_57 (by omega) (by rw [e1]; omega) (by rw [e2]; omega) (fun z => ?_) (fun z => ?_)
      · rw [e1, e2] at z
        exact S_X11_safe_85 (put 0 (by rw [if_neg z]))
      · rw [e1, e2] at z
        exact S_X11_safe_81 (put 1 (by rw [if_pos (Classical.not_not.mp z)]))
  exact Z 729 0 σ (by omega) (by omega) am_only.rfl' (fun j h0 h1 => by omega)
end
