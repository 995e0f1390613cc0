section
variable {G : am_G}
theorem se_L_none {F : Int → Option (List Int)} {n : Nat} {e : Int} (h : F e = none) : se_L F (n + 1) e = se_L F n (e + 1) := by
  show (match F e with
    | some x => some x
    | none => se_L F n (e + 1)) = _
  rw [h]
theorem se_L_some {F : Int → Option (List Int)} {n : Nat} {e : Int} {x : List Int} (h : F e = some x) : se_L F (n + 1) e = some x := by
  show (match F e with
    | some x => some x
    | none => se_L F n (e + 1)) = _
  rw [h]
def sb_i (b : Bool) : Int := if b then 1 else 0
def rf_Q (p : List Int → Bool) (σ : am_D) (o : Option (List Int)) (w : List Int) (N : Nat) (x : Int) (σ' : am_D) : Prop := ((o = none ∧ x = 0 ∧ am_isL (σ'.1 131) w) ∨ (∃ w', o = some w' ∧ x = 1 ∧ am_isL (σ'.1 131) w' ∧ w'.length = N ∧ se_W w' 0 ∧ p w' = true)) ∧ rs_f [127, 128, 131] σ σ'
theorem am_isL.pre {f : Int → Int} {w v : List Int} (h : am_isL f (w ++ v)) : am_isL f w := by
  have := h.take w.length
  rwa [List.take_left] at this
theorem r_finds (d : Nat) {P Q : am_P} {s1 s2 : Int} {b : Bool} {N : Nat} (hN : N ≤ 8) : ∀ (r : Nat) (h : Int) (w : List Int) (σ : am_D), rs_M σ s1 s2 P Q → w.length + r = N → se_W w h → h ≤ r → (h + r) % 2 = 0 → am_isL (σ.1 131) w → am_MI G (d + 8 + r) mX11_finds [am_r (some 91), am_i s1, am_i s2, am_i (sb_i b), am_i w.length, am_i N, am_i h] σ (rf_Q (se_p P Q b) σ (se_D (se_p P Q b) r h w) w N) := by
  intro r
  induction r with
  | zero =>
    intro h w σ hM hl hW hh hpar hL
    have hh0 : h = 0 := by have := hW.2.1; omega
    subst hh0
    have hl : w.length = N := hl
    subst hl
    refine am_M.go (by decide) (Nat.le_of_ble_eq_true rfl) rfl ?_
    refine S_X11_finds_0 (by omega) (by omega) (fun z => absurd rfl z) (fun _ => ?_)
    have fin : ∀ τ, rs_f [127, 128] σ τ → rf_Q (se_p P Q b) σ (se_D (se_p P Q b) 0 0 w) w w.length (if se_p P Q b w then 1 else 0) τ := by
      intro τ hf
      refine ⟨?_, hf.sub (fun a ha => List.mem_cons.mpr ?_)⟩
      · show ((if se_p P Q b w then some w else none) = none ∧ _) ∨ (∃ w', (if se_p P Q b w then some w else none) = some w' ∧ _)
        have e : am_isL (τ.1 131) w := by rw [hf.1.1 131 (by decide)]; exact hL
        cases hp : se_p P Q b w with
        | true => exact Or.inr ⟨w, rfl, rfl, e, rfl, hW, hp⟩
        | false => exact Or.inl ⟨rfl, rfl, e⟩
      · simp at ha ⊢; omega
    have z01 : ∀ c : Bool, (if c then (1 : Int) else 0) = 0 ∨ (if c then (1 : Int) else 0) = 1 := fun c => by cases c <;> simp
    cases b with
    | true =>
      refine S_X11_finds_7 (by decide) (fun z => absurd z (by decide)) (fun _ => ?_)
      refine S_X11_finds_11 (r_isSpoilt (d) hM hN hL hW.1 hW.bal) ?_
      rintro x τ ⟨rfl, hf⟩
      exact S_X11_finds_19 (S_X11_finds_30 (z01 _) (fin τ hf))
    | false =>
      refine S_X11_finds_7 (by decide) (fun _ => ?_) (fun z => absurd rfl z)
      refine S_X11_finds_22 (r_isUnlike (d + 1) hM hN hL hW.1 hW.bal) ?_
      rintro x τ ⟨rfl, hf⟩
      exact S_X11_finds_30 (z01 _) (fin τ hf)
  | succ r ih =>
    intro h w σ hM hl hW hh hpar hL
    refine am_M.go (by decide) (Nat.le_of_ble_eq_true rfl) rfl ?_
    refine S_X11_finds_0 (by omega) (by omega) (fun _ => ?_) (fun z => absurd (by omega) z)
    refine S_X11_finds_31 ?_
    have h0 := hW.2.1
    have loop : ∀ (n : Nat) (e : Int) (τ : am_D), e + n = 4 → 0 ≤ e → rs_f [127, 128, 131] σ τ → am_isL (τ.1 131) w → se_L (fun e => if se_g h r e then se_D (se_p P Q b) r (se_h h e) (w ++ [e]) else none) n e = se_D (se_p P Q b) (r + 1) h w → am_X (am_FI G (d + 8 + (r + 1)) (rf_Q (se_p P Q b) σ (se_D (se_p P Q b) (r + 1) h w) w N)) mX11_finds (0, 0) 34 [some (am_r (some 91)), some (am_i s1), some (am_i s2), some (am_i (sb_i b)), some (am_i w.length), some (am_i N), some (am_i h), some (am_i e)] [] (am_K0, τ) := by
      intro n
      induction n with
      | zero =>
        intro e τ hn he hf hL' hs
        refine S_X11_finds_34 (by omega) (fun _ => ?_) (fun z => absurd (by omega) z)
        exact S_X11_finds_114 ⟨Or.inl ⟨hs.symm, rfl, hL'⟩, hf⟩
      | succ n ihn =>
        intro e τ hn he hf hL' hs
        refine S_X11_finds_34 (by omega) (fun z => absurd z (by omega)) (fun _ => ?_)
        have skip : ¬ se_g h r e → am_X (am_FI G (d + 8 + (r + 1)) (rf_Q (se_p P Q b) σ (se_D (se_p P Q b) (r + 1) h w) w N)) mX11_finds (0, 0) 108 [some (am_r (some 91)), some (am_i s1), some (am_i s2), some (am_i (sb_i b)), some (am_i w.length), some (am_i N), some (am_i h), some (am_i e)] [] (am_K0, τ) := by
          intro hg
          refine S_X11_finds_108 ?_
          refine ihn (e + 1) τ (by omega) (by omega) hf hL' ?_
          rw [← hs, se_L_none]
          exact if_neg hg
        have deep : se_g h r e → am_X (am_FI G (d + 8 + (r + 1)) (rf_Q (se_p P Q b) σ (se_D (se_p P Q b) (r + 1) h w) w N)) mX11_finds (0, 0) 67 [some (am_r (some 91)), some (am_i s1), some (am_i s2), some (am_i (sb_i b)), some (am_i w.length), some (am_i N), some (am_i h), some (am_i e)] [] (am_K0, τ) := by
          intro hg
          refine S_X11_finds_67 (by omega) (by omega) ?_
          have hfp : rs_f [127, 128, 131] σ (am_pI τ 131 w.length e) := hf.trans (am_only.rs (b := 131) (by decide) (by decide) (am_only.pI (List.mem_singleton.mpr rfl)))
          have hLp : am_isL ((am_pI τ 131 w.length e).1 131) (w ++ [e]) := by
            rw [am_pI_row]
            exact hL'.snoc
          have hlen : (((w ++ [e]).length : Nat) : Int) = (w.length : Int) + 1 := by rw [List.length_append]; rfl
          have hg' : if e = 3 then h ≠ 0 else h < (r : Int) + 1 := hg
          have hrec := ih (se_h h e) (w ++ [e]) (am_pI τ 131 w.length e) (hM.f hfp (by decide)) (by rw [List.length_append]; show w.length + 1 + r = N; omega) (hW.snoc ⟨he, by omega⟩ hg) (by
            unfold se_h
            by_cases z : e = 3
            · rw [if_pos z]; omega
            · rw [if_neg z] at hg' ⊢; omega) (by
            unfold se_h
            by_cases z : e = 3
            · rw [if_pos z]; omega
            · rw [if_neg z] at hg' ⊢; omega) hLp
          rw [hlen] at hrec
          have back : ∀ (s : Int), s = (if e = 3 then -1 else 1) → am_X (am_FI G (d + 8 + (r + 1)) (rf_Q (se_p P Q b) σ (se_D (se_p P Q b) (r + 1) h w) w N)) mX11_finds (0, 0) 99 [some (am_r (some 91)), some (am_i s1), some (am_i s2), some (am_i (sb_i b)), some (am_i w.length), some (am_i N), some (am_i h), some (am_i e)] [am_i s, am_i h, am_i N, am_i ((w.length : Int) + 1), am_i (sb_i b), am_i s2, am_i s1, am_r (some 91)] (am_K0, am_pI τ 131 w.length e) := by
            intro s hs'
            have hse : se_h h e = h + s := by
              rw [hs']
              unfold se_h
              split <;> omega
            rw [hse] at hrec
            refine S_X11_finds_99 hrec ?_
            rintro x τ' ⟨hx, hf'⟩
            have hf2 := hfp.trans hf'
            have hF : (fun e => if se_g h r e then se_D (se_p P Q b) r (se_h h e) (w ++ [e]) else none) e = se_D (se_p P Q b) r (h + s) (w ++ [e]) := by
              dsimp only
              rw [if_pos hg, hse]
            rcases hx with ⟨e1, rfl, e2⟩ | ⟨w', e1, rfl, e2, e3, e4, e5⟩
            · refine S_X11_finds_103 (by decide) (fun _ => ?_) (fun z => absurd rfl z)
              refine S_X11_finds_108 ?_
              refine ihn (e + 1) τ' (by omega) (by omega) hf2 e2.pre ?_
              rw [← hs, se_L_none]
              exact hF.trans e1
            · refine S_X11_finds_103 (by decide) (fun z => absurd z (by decide)) (fun _ => ?_)
              refine S_X11_finds_106 ⟨Or.inr ⟨w', ?_, rfl, e2, e3, e4, e5⟩, hf2⟩
              rw [← hs]
              exact se_L_some (hF.trans e1)
          refine S_X11_finds_76 (by omega) (fun z => ?_) (fun z => ?_)
          · exact S_X11_finds_98 (back 1 (by rw [if_neg z]))
          · exact S_X11_finds_94 (back (-1) (by rw [if_pos (by omega)]))
        refine S_X11_finds_40 (by omega) (fun z => ?_) (fun z => ?_)
        · refine S_X11_finds_54 (by omega) (by omega) (fun y => deep ?_) (fun y => S_X11_finds_64 (skip ?_))
          · show if e = 3 then h ≠ 0 else h < (r : Int) + 1
            rw [if_neg z]; omega
          · show ¬ (if e = 3 then h ≠ 0 else h < (r : Int) + 1)
            rw [if_neg z]; omega
        · have z : e = 3 := by omega
          refine S_X11_finds_46 (by omega) (fun y => deep ?_) (fun y => S_X11_finds_51 (skip ?_))
          · show if e = 3 then h ≠ 0 else h < (r : Int) + 1
            rw [if_pos z]; omega
          · show ¬ (if e = 3 then h ≠ 0 else h < (r : Int) + 1)
            rw [if_pos z]; omega
    exact loop 4 0 σ (by omega) (by omega) rs_f.rfl' hL rfl
/-- what found may change -/
def rs_g (σ τ : am_D) : Prop := am_only ([107, 127, 128, 131] ++ rr_A) σ τ ∧ am_kpt [25, 43, 44, 45, 54] (σ.1 91) (τ.1 91) ∧ ∀ a, 110 ≤ a → a ≤ 123 → ∀ i : Int, i < rr_sz a → τ.1 a i = σ.1 a i
theorem rs_f.g {σ τ : am_D} (h : rs_f [127, 128, 131] σ τ) : rs_g σ τ := ⟨h.1.sub (fun a ha => List.mem_cons_of_mem _ ha), fun j hj => h.2.1 j (fun z => hj (List.mem_cons_of_mem _ z)), h.2.2⟩
def se_T (σ : am_D) (a b n : Int) : Prop := (rt_k σ a ∧ rt_k σ b) ∧ 0 ≤ n ∧ n ≤ 4
variable {σ : am_D}
theorem r_found (d : Nat) {P Q : am_P} {k1 k2 n : Int} {b : Bool} (hk1 : -2147483648 ≤ k1 ∧ k1 ≤ 2147483647) (hk2 : -2147483648 ≤ k2 ∧ k2 ≤ 2147483647) (hn : -2147483648 ≤ n ∧ n ≤ 2147483647) (h93 : ∀ j : Int, 0 ≤ j → j ≤ 3 → σ.1 93 j = 0 ∨ σ.1 93 j = 1) (hM : rt_k σ k1 → rt_k σ k2 → rs_M σ k1 k2 P Q) : am_MI G (d + 17) mX11_found [am_r (some 91), am_i k1, am_i k2, am_i n, am_i (sb_i b)] σ (fun x σ' => (¬ se_T σ k1 k2 n ∧ x = -2 ∧ σ' = σ) ∨ (se_T σ k1 k2 n ∧ se_A (se_p P Q b) (n.toNat + 1) 0 = none ∧ x = -1 ∧ rs_f [127, 128, 131] σ σ') ∨ (se_T σ k1 k2 n ∧ ∃ (el : Nat) (w : List Int), se_A (se_p P Q b) (n.toNat + 1) 0 = some (el, w) ∧ x = el ∧ rs_g σ σ' ∧ σ'.1 91 25 = w.length ∧ am_isL (σ'.1 107) w ∧ w.length = 2 * el ∧ el ≤ 4 ∧ se_W w 0)) := by
  refine am_M.go (by decide) (Nat.le_of_ble_eq_true rfl) rfl ?_
  refine S_X11_found_0 (r_isMachine _ hk1 h93) ?_
  rintro x _ ⟨hx, rfl⟩
  rcases hx with ⟨rfl, hr1⟩ | ⟨rfl, hr1⟩
  rotate_left
  · refine S_X11_found_5 (by decide) (fun _ => ?_) (fun z => absurd rfl z)
    exact S_X11_found_25 (Or.inl ⟨fun z => hr1 z.1.1, rfl, rfl⟩)
  refine S_X11_found_5 (by decide) (fun z => absurd z (by decide)) (fun _ => ?_)
  refine S_X11_found_8 (r_isMachine _ hk2 h93) ?_
  rintro x _ ⟨hx, rfl⟩
  rcases hx with ⟨rfl, hr2⟩ | ⟨rfl, hr2⟩
  rotate_left
  · refine S_X11_found_13 (by decide) (fun _ => ?_) (fun z => absurd rfl z)
    exact S_X11_found_25 (Or.inl ⟨fun z => hr2 z.1.2, rfl, rfl⟩)
  refine S_X11_found_13 (by decide) (fun z => absurd z (by decide)) (fun _ => ?_)
  refine S_X11_found_16 (c_isIn _ hn (by omega) (by omega)) ?_
  rintro _ _ ⟨rfl, rfl⟩
  by_cases hnr : 0 ≤ n ∧ n ≤ 4
  rotate_left
  · rw [if_neg hnr]
    refine S_X11_found_22 (by decide) (fun z => absurd rfl z) (fun _ => ?_)
    exact S_X11_found_25 (Or.inl ⟨fun z => hnr z.2, rfl, rfl⟩)
  rw [if_pos hnr]
  have hTt : se_T σ k1 k2 n := ⟨⟨hr1, hr2⟩, hnr⟩
  have hM := hM hr1 hr2
  refine S_X11_found_22 (by decide) (fun _ => ?_) (fun z => absurd (by decide) z)
  refine S_X11_found_28 ?_
  generalize hQ : (fun (x : Int) (σ' : am_D) => (¬ se_T σ k1 k2 n ∧ x = -2 ∧ σ' = σ) ∨ (se_T σ k1 k2 n ∧ se_A (se_p P Q b) (n.toNat + 1) 0 = none ∧ x = -1 ∧ rs_f [127, 128, 131] σ σ') ∨ (se_T σ k1 k2 n ∧ ∃ (el : Nat) (w : List Int), se_A (se_p P Q b) (n.toNat + 1) 0 = some (el, w) ∧ x = el ∧ rs_g σ σ' ∧ σ'.1 91 25 = w.length ∧ am_isL (σ'.1 107) w ∧ w.length = 2 * el ∧ el ≤ 4 ∧ se_W w 0)) = QQ
  have loop : ∀ (k el : Nat) (τ : am_D), (el : Int) + k = n + 1 → rs_f [127, 128, 131] σ τ → se_A (se_p P Q b) k el = se_A (se_p P Q b) (n.toNat + 1) 0 → am_X (am_FI G (d + 17) QQ) mX11_found (0, 0) 31 [some (am_r (some 91)), some (am_i k1), some (am_i k2), some (am_i n), some (am_i (sb_i b)), some (am_i el), none] [] (am_K0, τ) := by
    intro k
    induction k with
    | zero =>
      intro el τ hk hf hA
      refine S_X11_found_31 (by omega) (by omega) (fun _ => ?_) (fun z => absurd (by omega) z)
      refine S_X11_found_106 ?_
      rw [← hQ]
      exact Or.inr (Or.inl ⟨hTt, hA.symm, rfl, hf⟩)
    | succ k ih =>
      intro el τ hk hf hA
      have hA : (match se_D (se_p P Q b) (2 * el) 0 [] with
        | some w => some (el, w)
        | none => se_A (se_p P Q b) k (el + 1)) = se_A (se_p P Q b) (n.toNat + 1) 0 := hA
      refine S_X11_found_31 (by omega) (by omega) (fun z => absurd z (by omega)) (fun _ => ?_)
      have hfn := r_finds (G := G) (P := P) (Q := Q) (s1 := k1) (s2 := k2) (b := b) (d + 8 - 2 * el) (N := 2 * el) (by omega) (2 * el) 0 [] τ (hM.f hf (by decide)) (Nat.zero_add _) se_W_0 (by omega) (by omega) (fun i hi => absurd hi (Nat.not_lt_zero _))
      rw [show d + 8 - 2 * el + 8 + 2 * el = d + 16 by omega] at hfn
      refine S_X11_found_37 hfn ?_
      rintro x τ' ⟨hx, hf'⟩
      have hf2 := hf.trans hf'
      rcases hx with ⟨e1, rfl, -⟩ | ⟨w, e1, rfl, e2, e3, e4, e5⟩
      · rw [e1] at hA
        refine S_X11_found_51 (by decide) (fun z => absurd rfl z) (fun _ => ?_)
        refine S_X11_found_54 (S_X11_found_100 ?_)
        have := ih (el + 1) τ' (by omega) hf2 hA
        exact this
      · rw [e1] at hA
        have hA : some (el, w) = se_A (se_p P Q b) (n.toNat + 1) 0 := hA
        refine S_X11_found_51 (by decide) (fun _ => ?_) (fun z => absurd (by decide) z)
        refine S_X11_found_57 ?_
        refine S_X11_found_65 ?_
        have hg0 : rs_g σ (am_pI τ' 91 25 (2 * (el : Int))) := by
          obtain ⟨g1, g2, g3⟩ := hf2.g
          refine ⟨g1.trans (am_only.pI (by decide)), g2.trans ?_, fun a y1 y2 i hi => by rw [am_pI_of (by omega)]; exact g3 a y1 y2 i hi⟩
          rw [am_pI_row]
          exact am_kpt.u1 (by decide)
        have copy : ∀ (c i : Nat) (υ : am_D), i + c = 2 * el → rs_g σ υ → υ.1 91 25 = 2 * (el : Int) → υ.1 131 = τ'.1 131 → am_isL (υ.1 107) (w.take i) → am_X (am_FI G (d + 17) QQ) mX11_found (0, 0) 68 [some (am_r (some 91)), none, none, none, none, some (am_i el), some (am_i i)] [] (am_K0, υ) := by
          intro c
          induction c with
          | zero =>
            intro i υ hi hg h25 h131 hL7
            refine S_X11_found_68 (by omega) (by omega) (fun _ => ?_) (fun z => absurd (by omega) z)
            refine S_X11_found_97 ?_
            rw [← hQ]
            refine Or.inr (Or.inr ⟨hTt, el, w, hA.symm, rfl, hg, by rw [h25]; omega, ?_, e3, by omega, e4⟩)
            rw [List.take_of_length_le (by omega)] at hL7
            exact hL7
          | succ c ihc =>
            intro i υ hi hg h25 h131 hL7
            refine S_X11_found_68 (by omega) (by omega) (fun z => absurd z (by omega)) (fun _ => ?_)
            refine S_X11_found_77 (by omega) (by omega) (by omega) (by omega) ?_
            refine S_X11_found_91 ?_
            have hti : (w.take i).length = i := by rw [List.length_take]; omega
            have e6 : υ.1 131 i = w.getD i 0 := by rw [h131]; exact e2 i (by omega)
            have := ihc (i + 1) (am_pI υ 107 i (υ.1 131 i)) (by omega) (by
              obtain ⟨g1, g2, g3⟩ := hg
              refine ⟨g1.trans (am_only.pI (by decide)), ?_, fun a y1 y2 j hj => by rw [am_pI_of (by omega)]; exact g3 a y1 y2 j hj⟩
              rw [am_pI_of (by decide)]; exact g2) (by rw [am_pI_of (by decide)]; exact h25) (by rw [am_pI_of (by decide)]; exact h131) (by
              rw [am_pI_row, e6, List.take_add_one]
              have hs := hL7.snoc (x := w.getD i 0)
              rw [hti] at hs
              rw [List.getElem?_eq_getElem (by omega)]
              rw [List.getD_eq_getElem?_getD, List.getElem?_eq_getElem (by omega)] at hs ⊢
              exact hs)
            exact this
        exact copy (2 * el) 0 _ (by omega) hg0 am_pI_at (by rw [am_pI_of (by decide)]) (fun i hi => absurd hi (by simp))
  exact loop (n.toNat + 1) 0 σ (by omega) rs_f.rfl' rfl
end
