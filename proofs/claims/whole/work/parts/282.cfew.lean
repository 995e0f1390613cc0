section
/-- turns, at most -/
def sc_L (F : Int → Nat) : Nat → Int → Nat
  | 0, _ => 1
  | n + 1, e => 1 + F e + sc_L F n (e + 1)
def sc_D : Nat → Int → Nat
  | 0, _ => 1
  | r + 1, h => sc_L (fun e => if se_g h r e then sc_D r (se_h h e) else 0) 4 0
theorem sc_L_s {F : Int → Nat} {n : Nat} {e : Int} : sc_L F (n + 1) e = 1 + F e + sc_L F n (e + 1) := rfl
theorem sc_L_1 {F : Int → Nat} : ∀ {n : Nat} {e : Int}, 1 ≤ sc_L F n e := by
  intro n
  cases n with
  | zero => intro e; exact Nat.le_refl 1
  | succ n => intro e; rw [sc_L_s]; omega
theorem sc_8 : sc_D 0 0 + sc_D 2 0 + sc_D 4 0 + sc_D 6 0 + sc_D 8 0 ≤ 900000 := by decide +kernel
/-- all of them, from el on -/
def sc_A : Nat → Nat → Nat
  | 0, _ => 0
  | k + 1, el => sc_D (2 * el) 0 + sc_A k (el + 1)
theorem sc_A_b {n : Nat} (h : n ≤ 4) : sc_A (n + 1) 0 ≤ 900000 := by
  have := sc_8
  rcases (by omega : n = 0 ∨ n = 1 ∨ n = 2 ∨ n = 3 ∨ n = 4) with rfl | rfl | rfl | rfl | rfl
  · show sc_D 0 0 + 0 ≤ _; omega
  · show sc_D 0 0 + (sc_D 2 0 + 0) ≤ _; omega
  · show sc_D 0 0 + (sc_D 2 0 + (sc_D 4 0 + 0)) ≤ _; omega
  · show sc_D 0 0 + (sc_D 2 0 + (sc_D 4 0 + (sc_D 6 0 + 0))) ≤ _; omega
  · show sc_D 0 0 + (sc_D 2 0 + (sc_D 4 0 + (sc_D 6 0 + (sc_D 8 0 + 0)))) ≤ _; omega
variable {G : am_G} {σ : am_D}
/-- what a search may change -/
def cs_f (m1 m2 : Nat) (σ τ : am_D) : Prop := (∀ a, a ∉ cs_S → τ.1 a = σ.1 a) ∧ τ.2.1 = σ.2.1 ∧ τ.2.2 = am_up (am_up (am_up σ.2.2 30 4 (some m2)) 16 4 (some m1)) 20 4 (some m2)
theorem cs_f.only {m1 m2 : Nat} {σ τ υ : am_D} (h : cs_f m1 m2 σ τ) (h' : am_only cs_S τ υ) : cs_f m1 m2 σ υ := ⟨fun a ha => (h'.1 a ha).trans (h.1 a ha), by rw [h'.2]; exact h.2.1, by rw [h'.2]; exact h.2.2⟩
theorem c_prepare (d : Nat) {m1 m2 : Nat} {P Q : am_P} {b : Bool} (hM1 : cd_M σ m1 P) (hM2 : cd_M σ m2 Q) : am_MV G (d + 3) mX6_prepare [am_r (some 30), am_r (some m1), am_r (some m2), am_i (sb_i b)] σ (fun σ' => cs_I b m1 m2 P Q [] 0 σ' ∧ cs_f m1 m2 σ σ') := by
  have k1 := hM1.1.1
  have k2 := hM2.1.1
  refine am_M.go (by decide) (Nat.le_of_ble_eq_true rfl) rfl ?_
  refine S_X6_prepare_0 ?_
  refine S_X6_prepare_5 (by cases b; exact Or.inl rfl; exact Or.inr rfl) ?_
  refine S_X6_prepare_10 ?_
  generalize hρ : am_pI (am_pI (am_pR σ 30 4 (some m2)) 30 5 (sb_i b)) 30 6 0 = ρ
  have r1 : ∀ a, a ≠ 30 → ρ.1 a = σ.1 a := fun a ha => by rw [← hρ, am_pI_of ha, am_pI_of ha]
  have r5 : ρ.1 30 5 = sb_i b := by rw [← hρ, am_pI_nj (by decide), am_pI_at]
  have r6 : ρ.1 30 6 = 0 := by rw [← hρ, am_pI_at]
  have r2 : ρ.2.1 = σ.2.1 := by rw [← hρ]
  have r3 : ρ.2.2 = am_up σ.2.2 30 4 (some m2) := by rw [← hρ]
  refine S_X6_prepare_15 (c_clear _ (Or.inr (Or.inl rfl))) ?_
  rintro τ ⟨hE, hf⟩
  have hM1τ : cd_M τ m1 P := cd_M_of (fun b y1 y2 => by rw [hf.1 b (by simp; omega), r1 b (by omega)]) hM1
  refine S_X6_prepare_22 (c_start _ (Or.inr (Or.inl rfl)) hM1τ) ?_
  rintro τ1 ⟨hI1, g1, g2, g3⟩
  have hM2τ : cd_M τ1 m2 Q := cd_M_of (fun b y1 y2 => by rw [g1 b (by omega) (by omega), hf.1 b (by simp; omega), r1 b (by omega)]) hM2
  refine S_X6_prepare_30 (c_start _ (Or.inr (Or.inr rfl)) hM2τ) ?_
  rintro τ2 ⟨hI2, g4, g5, g6⟩
  have hI1' : cd_I τ2 16 m1 P [] := hI1.of (fun b hb => g4 b (by omega) (by omega)) (by rw [g6, am_up_ne (by decide)])
  have e30 : τ2.1 30 = ρ.1 30 := by rw [g4 30 (by decide) (by decide), g1 30 (by decide) (by decide), hf.1 30 (by decide)]
  refine S_X6_prepare_38 ⟨⟨hE.of (by rw [g4 8 (by decide) (by decide), g1 8 (by decide) (by decide)]) (by rw [g4 9 (by decide) (by decide), g1 9 (by decide) (by decide)]), ⟨by rw [e30]; exact r5, by rw [e30, r6]; rfl, Int.le_refl _⟩, ?_, hI2.2.1, hI1'.R, fun _ => hI2.R, fun x hx => (by cases hx), Nat.zero_le _⟩, ?_, ?_, ?_⟩
  · rw [g6, am_up_ne (by decide), g3, am_up_ne (by decide), hf.2, r3, am_up_at]
  · intro a ha
    simp at ha
    rw [g4 a (by omega) (by omega), g1 a (by omega) (by omega), hf.1 a (by simp; omega), r1 a (by omega)]
  · rw [g5, g2, hf.2, r2]
  · rw [g6, g3, hf.2, r3]
theorem c_fewest (d : Nat) {o1 o2 : Option Nat} {P Q : am_P} {n : Int} {b : Bool} (hn : -2147483648 ≤ n ∧ n ≤ 2147483647) (h1 : ∀ m, o1 = some m → cd_M σ m P) (h2 : ∀ m, o2 = some m → cd_M σ m Q) : am_MI G (d + 6) mX6_fewest [am_r (some 30), am_r o1, am_r o2, am_i n, am_i (sb_i b)] σ (fun x σ' => ((o1 = none ∨ o2 = none ∨ ¬ (0 ≤ n ∧ n ≤ 4)) ∧ x = -2 ∧ σ = σ') ∨ (∃ m1 m2, (o1 = some m1 ∧ o2 = some m2 ∧ 0 ≤ n ∧ n ≤ 4) ∧ cs_f m1 m2 σ σ' ∧ ((se_A (se_p P Q b) (n.toNat + 1) 0 = none ∧ x = -1) ∨ (∃ (el : Nat) (w : List Int), se_A (se_p P Q b) (n.toNat + 1) 0 = some (el, w) ∧ x = el ∧ el ≤ 4 ∧ am_E σ' 8 w)))) := by
  refine am_M.go (by decide) (Nat.le_of_ble_eq_true rfl) rfl ?_
  cases o1 with
  | none => exact S_X6_fewest_0 (fun _ => S_X6_fewest_17 (Or.inl ⟨Or.inl rfl, rfl, rfl⟩)) (fun a z => nomatch z)
  | some m1 =>
  refine S_X6_fewest_0 (fun z => nomatch z) (fun _ _ => ?_)
  cases o2 with
  | none => exact S_X6_fewest_4 (fun _ => S_X6_fewest_17 (Or.inl ⟨Or.inr (Or.inl rfl), rfl, rfl⟩)) (fun a z => nomatch z)
  | some m2 =>
  refine S_X6_fewest_4 (fun z => nomatch z) (fun _ _ => ?_)
  refine S_X6_fewest_8 hn (fun z => S_X6_fewest_17 (Or.inl ⟨Or.inr (Or.inr (by omega)), rfl, rfl⟩)) (fun n0 => ?_)
  refine S_X6_fewest_12 hn (fun n4 => ?_) (fun z => S_X6_fewest_17 (Or.inl ⟨Or.inr (Or.inr (by omega)), rfl, rfl⟩))
  have n0 : 0 ≤ n := by omega
  have hM1 := h1 m1 rfl
  have hM2 := h2 m2 rfl
  refine S_X6_fewest_20 (c_prepare _ hM1 hM2) ?_
  rintro ρ ⟨hIρ, hfρ⟩
  refine S_X6_fewest_28 ?_
  refine S_X6_fewest_31 ?_
  refine S_X6_fewest_34 ?_
  generalize hQ : (fun (x : Int) (σ' : am_D) => ((some m1 = none ∨ some m2 = none ∨ ¬ (0 ≤ n ∧ n ≤ 4)) ∧ x = -2 ∧ σ = σ') ∨ (∃ m1' m2', (some m1 = some m1' ∧ some m2 = some m2' ∧ 0 ≤ n ∧ n ≤ 4) ∧ cs_f m1' m2' σ σ' ∧ ((se_A (se_p P Q b) (n.toNat + 1) 0 = none ∧ x = -1) ∨ (∃ (el : Nat) (w : List Int), se_A (se_p P Q b) (n.toNat + 1) 0 = some (el, w) ∧ x = el ∧ el ≤ 4 ∧ am_E σ' 8 w)))) = QQ
  -- one node
  have node : ∀ (el : Nat), el ≤ 4 → ∀ (r : Nat) (h : Int) (w : List Int) (τ : am_D) (k : Nat), cs_I b m1 m2 P Q w h τ → cs_f m1 m2 σ τ → w.length + r = 2 * el → h ≤ w.length → k + sc_D r h ≤ 1000000 → (∀ w' τ', se_D (se_p P Q b) r h w = some w' → am_E τ' 8 w' → cs_f m1 m2 σ τ' → QQ el τ') → (∀ (k' : Nat) (τ' : am_D), se_D (se_p P Q b) r h w = none → cs_I b m1 m2 P Q w h τ' → cs_f m1 m2 σ τ' → k' + 1 ≤ k + sc_D r h → am_X (am_FI G (d + 6) QQ) mX6_fewest (0, 0) 115 [some (am_r (some 30)), none, none, some (am_i n), none, some (am_i el), none, some (am_i k'), none] [] (am_K0, τ')) → am_X (am_FI G (d + 6) QQ) mX6_fewest (0, 0) 37 [some (am_r (some 30)), none, none, some (am_i n), none, some (am_i el), some (am_i 0), some (am_i k), none] [] (am_K0, τ) := by
    intro el hel r
    induction r with
    | zero =>
      intro h w τ k hI hf hl hhw hk hdone hback
      have hk : k + 1 ≤ 1000000 := hk
      have hl : w.length = 2 * el := hl
      refine S_X6_fewest_37 (by omega) (fun z => absurd z (by omega)) (fun _ => ?_)
      refine S_X6_fewest_44 (c_size _ (Or.inr (Or.inl rfl)) hI.1) ?_
      rintro _ _ ⟨rfl, rfl⟩
      refine S_X6_fewest_51 (by omega) (by omega) (fun z => absurd (by omega) z) (fun _ => ?_)
      refine S_X6_fewest_58 ?_
      refine S_X6_fewest_63 ?_
      refine S_X6_fewest_65 (by decide) (fun z => absurd z (by decide)) (fun _ => ?_)
      have h5 := hI.2.1.1
      have after : ∀ τ', cs_I b m1 m2 P Q w h τ' → cs_f m1 m2 σ τ' → se_p P Q b w = false → am_X (am_FI G (d + 6) QQ) mX6_fewest (0, 0) 97 [some (am_r (some 30)), none, none, some (am_i n), none, some (am_i el), some (am_i 0), some (am_i k), some (am_i 1)] [] (am_K0, τ') := by
        intro τ' hI' hf' hp
        refine S_X6_fewest_97 (by decide) (fun _ => ?_) (fun z => absurd (by decide) z)
        refine hback k τ' ?_ hI' hf' (Nat.le_refl _)
        show (if se_p P Q b w then some w else none) = none
        rw [hp]; rfl
      have yes : ∀ τ', cs_I b m1 m2 P Q w h τ' → cs_f m1 m2 σ τ' → se_p P Q b w = true → QQ el τ' := by
        intro τ' hI' hf' hp
        refine hdone w τ' ?_ hI'.1 hf'
        show (if se_p P Q b w then some w else none) = some w
        rw [hp]; rfl
      cases b with
      | true =>
        have h5 : τ.1 30 5 = 1 := h5
        refine S_X6_fewest_70 (by omega) (fun z => absurd z (by omega)) (fun _ => ?_)
        refine S_X6_fewest_77 (c_spoilt _ hI) ?_
        rintro x τ' ⟨rfl, hI', hf'⟩
        cases hp : se_p P Q true w with
        | true => exact S_X6_fewest_81 (by decide) (fun z => absurd z (by decide)) (fun _ => S_X6_fewest_84 (S_X6_fewest_94 (yes τ' hI' (hf.only hf') hp)))
        | false => exact S_X6_fewest_81 (by decide) (fun _ => after τ' hI' (hf.only hf') hp) (fun z => absurd (by decide) z)
      | false =>
        have h5 : τ.1 30 5 = 0 := h5
        refine S_X6_fewest_70 (by omega) (fun _ => ?_) (fun z => absurd h5 z)
        refine S_X6_fewest_87 (c_different _ hI) ?_
        rintro x τ' ⟨rfl, hI', hf'⟩
        cases hp : se_p P Q false w with
        | true => exact S_X6_fewest_91 (by decide) (fun z => absurd z (by decide)) (fun _ => S_X6_fewest_94 (yes τ' hI' (hf.only hf') hp))
        | false => exact S_X6_fewest_91 (by decide) (fun _ => after τ' hI' (hf.only hf') hp) (fun z => absurd (by decide) z)
    | succ r ih =>
      intro h w τ k hI hf hl hhw hk hdone hback
      have h0 := hI.2.1.2.2
      have loop : ∀ (c : Nat) (e : Int) (τ : am_D) (k1 : Nat), e + c = 4 → 0 ≤ e → cs_I b m1 m2 P Q w h τ → cs_f m1 m2 σ τ → k1 + sc_L (fun e => if se_g h r e then sc_D r (se_h h e) else 0) c e ≤ k + sc_D (r + 1) h → se_L (fun e => if se_g h r e then se_D (se_p P Q b) r (se_h h e) (w ++ [e]) else none) c e = se_D (se_p P Q b) (r + 1) h w → am_X (am_FI G (d + 6) QQ) mX6_fewest (0, 0) 37 [some (am_r (some 30)), none, none, some (am_i n), none, some (am_i el), some (am_i e), some (am_i k1), none] [] (am_K0, τ) := by
        intro c
        induction c with
        | zero =>
          intro e τ k1 hc he hI hf hk1 hs
          have hk1 : k1 + 1 ≤ k + sc_D (r + 1) h := hk1
          refine S_X6_fewest_37 (by omega) (fun z => absurd z (by omega)) (fun _ => ?_)
          refine S_X6_fewest_44 (c_size _ (Or.inr (Or.inl rfl)) hI.1) ?_
          rintro _ _ ⟨rfl, rfl⟩
          refine S_X6_fewest_51 (by omega) (by omega) (fun _ => ?_) (fun z => absurd (by omega) z)
          refine S_X6_fewest_62 (S_X6_fewest_63 ?_)
          refine S_X6_fewest_65 (by decide) (fun _ => ?_) (fun z => absurd rfl z)
          refine S_X6_fewest_97 (by decide) (fun z => absurd rfl z) (fun _ => ?_)
          refine S_X6_fewest_102 (by omega) (fun _ => ?_) (fun z => absurd (by omega) z)
          exact hback k1 τ hs.symm hI hf hk1
        | succ c ihc =>
          intro e τ k1 hc he hI hf hk1 hs
          rw [sc_L_s] at hk1
          have hge := sc_L_1 (F := fun e => if se_g h r e then sc_D r (se_h h e) else 0) (n := c) (e := e + 1)
          generalize hrest : sc_L (fun e => if se_g h r e then sc_D r (se_h h e) else 0) c (e + 1) = rest at *
          refine S_X6_fewest_37 (by omega) (fun z => absurd z (by omega)) (fun _ => ?_)
          refine S_X6_fewest_44 (c_size _ (Or.inr (Or.inl rfl)) hI.1) ?_
          rintro _ _ ⟨rfl, rfl⟩
          refine S_X6_fewest_51 (by omega) (by omega) (fun _ => ?_) (fun z => absurd (by omega) z)
          refine S_X6_fewest_62 (S_X6_fewest_63 ?_)
          refine S_X6_fewest_65 (by decide) (fun _ => ?_) (fun z => absurd rfl z)
          refine S_X6_fewest_97 (by decide) (fun z => absurd rfl z) (fun _ => ?_)
          refine S_X6_fewest_102 (by omega) (fun z => absurd z (by omega)) (fun _ => ?_)
          refine S_X6_fewest_108 (c_hopeless _ hI) ?_
          rintro x _ ⟨hx, rfl⟩
          rcases hx with ⟨rfl, hH⟩ | rfl
          · refine S_X6_fewest_112 (by decide) (fun z => absurd z (by decide)) (fun _ => ?_)
            exact hback k1 τ (se_H_D (r + 1) h w hH) hI hf (by omega)
          refine S_X6_fewest_112 (by decide) (fun _ => ?_) (fun z => absurd rfl z)
          have ho := hI.2.1.2.1
          have skip : ¬ se_g h r e → am_X (am_FI G (d + 6) QQ) mX6_fewest (0, 0) 199 [some (am_r (some 30)), none, none, some (am_i n), none, some (am_i el), some (am_i e), some (am_i k1), none] [] (am_K0, τ) := by
            intro hg
            refine S_X6_fewest_199 (S_X6_fewest_202 ?_)
            have := ihc (e + 1) τ (k1 + 1) (by omega) (by omega) hI hf (by omega) (by
              rw [← hs, se_L_none]
              exact if_neg hg)
            exact this
          have deep : se_g h r e → am_X (am_FI G (d + 6) QQ) mX6_fewest (0, 0) 187 [some (am_r (some 30)), none, none, some (am_i n), none, some (am_i el), some (am_i e), some (am_i k1), none] [] (am_K0, τ) := by
            intro hg
            have hg' : if e = 3 then h ≠ 0 else h < (r : Int) + 1 := hg
            have hF : (fun e => if se_g h r e then se_D (se_p P Q b) r (se_h h e) (w ++ [e]) else none) e = se_D (se_p P Q b) r (se_h h e) (w ++ [e]) := if_pos hg
            have hFc : (fun e => if se_g h r e then sc_D r (se_h h e) else 0) e = sc_D r (se_h h e) := if_pos hg
            have hk1 : k1 + (1 + sc_D r (se_h h e) + rest) ≤ k + sc_D (r + 1) h := by rw [← hFc]; exact hk1
            refine S_X6_fewest_187 (c_go _ hI ⟨he, by omega⟩ (by omega) (fun z => by rw [if_pos z] at hg'; omega)) ?_
            rintro τ1 ⟨hI1, hf1⟩
            refine S_X6_fewest_193 (S_X6_fewest_202 ?_)
            have := ih (se_h h e) (w ++ [e]) τ1 (k1 + 1) hI1 (hf.only hf1) (by rw [List.length_append]; show w.length + 1 + r = 2 * el; omega) (by rw [List.length_append]; show se_h h e ≤ ((w.length + 1 : Nat) : Int); unfold se_h; split <;> omega) (by omega) (fun w' τ' e1 => hdone w' τ' (by rw [← hs]; exact se_L_some (hF.trans e1))) (fun k' τ' e1 hI' hf' hk' => by
              refine S_X6_fewest_115 (c_size _ (Or.inr (Or.inl rfl)) hI'.1) ?_
              rintro _ _ ⟨rfl, rfl⟩
              have hlen : (((w ++ [e]).length : Nat) : Int) = w.length + 1 := by rw [List.length_append]; rfl
              refine S_X6_fewest_122 (by omega) (fun z => absurd z (by omega)) (fun _ => ?_)
              refine S_X6_fewest_125 (c_goBack _ hI' h0) ?_
              rintro x τ2 ⟨rfl, hI2, hf2⟩
              refine S_X6_fewest_129 (S_X6_fewest_202 ?_)
              have := ihc (x + 1) τ2 (k' + 1) (by omega) (by omega) hI2 (hf'.only hf2) (by omega) (by
                rw [← hs, se_L_none]
                exact hF.trans e1)
              exact this)
            exact this
          refine S_X6_fewest_153 (by omega) (fun z => ?_) (fun z => ?_)
          · refine S_X6_fewest_178 (by omega) (by omega) (fun y => skip ?_) (fun y => deep ?_)
            · show ¬ (if e = 3 then h ≠ 0 else h < (r : Int) + 1)
              rw [if_neg z]; omega
            · show if e = 3 then h ≠ 0 else h < (r : Int) + 1
              rw [if_neg z]; omega
          · have z : e = 3 := by omega
            refine S_X6_fewest_159 (c_size _ (Or.inr (Or.inl rfl)) hI.1) ?_
            rintro _ _ ⟨rfl, rfl⟩
            refine S_X6_fewest_166 (by omega) (by omega) (fun y => skip ?_) (fun y => S_X6_fewest_175 (deep ?_))
            · show ¬ (if e = 3 then h ≠ 0 else h < (r : Int) + 1)
              rw [if_pos z]; omega
            · show if e = 3 then h ≠ 0 else h < (r : Int) + 1
              rw [if_pos z]; omega
      exact loop 4 0 τ k (by omega) (by omega) hI hf (Nat.le_refl _) rfl
  -- one number of ELEMENTS after another
  have all : ∀ (c el : Nat) (τ : am_D) (k : Nat), (el : Int) + c = n + 1 → 1 ≤ c → cs_I b m1 m2 P Q [] 0 τ → cs_f m1 m2 σ τ → k + sc_A c el ≤ 1000000 → se_A (se_p P Q b) c el = se_A (se_p P Q b) (n.toNat + 1) 0 → am_X (am_FI G (d + 6) QQ) mX6_fewest (0, 0) 37 [some (am_r (some 30)), none, none, some (am_i n), none, some (am_i el), some (am_i 0), some (am_i k), none] [] (am_K0, τ) := by
    intro c
    induction c with
    | zero => intro el τ k _ h1; omega
    | succ c ih =>
      intro el τ k hc _ hI hf hk hA
      have hk : k + (sc_D (2 * el) 0 + sc_A c (el + 1)) ≤ 1000000 := hk
      have hA : (match se_D (se_p P Q b) (2 * el) 0 [] with
        | some w => some (el, w)
        | none => se_A (se_p P Q b) c (el + 1)) = se_A (se_p P Q b) (n.toNat + 1) 0 := hA
      refine node el (by omega) (2 * el) 0 [] τ k hI hf (Nat.zero_add _) (Int.le_refl _) (by omega) (fun w' τ' e1 hE' hf' => ?_) (fun k' τ' e1 hI' hf' hk' => ?_)
      · rw [e1] at hA
        rw [← hQ]
        exact Or.inr ⟨m1, m2, ⟨rfl, rfl, n0, n4⟩, hf', Or.inr ⟨el, w', hA.symm, rfl, by omega, hE'⟩⟩
      · rw [e1] at hA
        have hA : se_A (se_p P Q b) c (el + 1) = se_A (se_p P Q b) (n.toNat + 1) 0 := hA
        refine S_X6_fewest_115 (c_size _ (Or.inr (Or.inl rfl)) hI'.1) ?_
        rintro _ _ ⟨rfl, rfl⟩
        refine S_X6_fewest_122 (by decide) (fun _ => ?_) (fun z => absurd (by decide) z)
        refine S_X6_fewest_136 (by omega) (by omega) (fun z => ?_) (fun z => ?_)
        · have hc0 : c = 0 := by omega
          subst hc0
          refine S_X6_fewest_151 ?_
          rw [← hQ]
          exact Or.inr ⟨m1, m2, ⟨rfl, rfl, n0, n4⟩, hf', Or.inl ⟨hA.symm, rfl⟩⟩
        · refine S_X6_fewest_142 (S_X6_fewest_145 (S_X6_fewest_202 ?_))
          have := ih (el + 1) τ' (k' + 1) (by omega) (by omega) hI' hf' (by omega) hA
          exact this
  have hb := sc_A_b (n := n.toNat) (by omega)
  exact all (n.toNat + 1) 0 ρ 0 (by omega) (by omega) hIρ hfρ (by omega) rfl
end
