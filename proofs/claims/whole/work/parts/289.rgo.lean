section
def rk_o (f : Int → Int) : Nat := pm_ct (fun i => decide (f i = 1)) 729
theorem rk_o_le {f : Int → Int} : rk_o f ≤ 729 := by
  unfold rk_o pm_ct
  exact Nat.le_trans List.countP_le_length (by rw [List.length_range]; exact Nat.le_refl _)
theorem rk_o_set {f : Int → Int} {r : Int} (hr : 0 ≤ r ∧ r < 729) (h : f r ≠ 1) : rk_o (am_u1 f r 1) = rk_o f + 1 := by
  unfold rk_o
  rw [← pm_ct_set (f := fun i => decide (f i = 1)) (j := r.toNat) (by omega) (by
    rw [Int.toNat_of_nonneg hr.1]
    exact decide_eq_false h)]
  congr 1
  funext i
  by_cases z : i = r.toNat
  · rw [if_pos z, z, Int.toNat_of_nonneg hr.1, am_u1_eq]
    rfl
  · rw [if_neg z, am_u1_ne (by omega)]
def rk_Z (P Q : am_P) (f : Int → Int) : Prop := ∀ x, sv_ok x → f (sv_r x) = 1 → sv_R P Q x
/-- from table f to table g, c: whether anything came -/
def rk_I (P Q : am_P) (f g : Int → Int) (c : Int) : Prop := (rk_B g ∧ rk_Z P Q g) ∧ (∀ j, f j = 1 → g j = 1) ∧ ((c = 0 ∧ g = f) ∨ (c = 1 ∧ rk_o f < rk_o g))
theorem rk_I.rfl' {P Q : am_P} {f : Int → Int} (hB : rk_B f) (hZ : rk_Z P Q f) : rk_I P Q f f 0 := ⟨⟨hB, hZ⟩, fun _ h => h, Or.inl ⟨rfl, rfl⟩⟩
theorem rk_I.trans {P Q : am_P} {f g h : Int → Int} {c x y : Int} (a : rk_I P Q f g c) (b : rk_I P Q g h x) (hy : y = if x = 0 then c else 1) : rk_I P Q f h y := by
  refine ⟨b.1, fun j hj => b.2.1 j (a.2.1 j hj), ?_⟩
  rcases b.2.2 with ⟨rfl, e⟩ | ⟨rfl, e⟩
  · rw [if_pos rfl] at hy
    rw [hy, e]
    exact a.2.2
  · rw [if_neg (by decide)] at hy
    right
    refine ⟨hy, ?_⟩
    rcases a.2.2 with ⟨-, e2⟩ | ⟨-, e2⟩
    · rw [← e2]; exact e
    · omega
theorem rk_I.put {P Q : am_P} {f : Int → Int} {y : sv_S} (hB : rk_B f) (hZ : rk_Z P Q f) (hy : sv_ok y) (hR : sv_R P Q y) : rk_I P Q f (am_u1 f (sv_r y) 1) (if f (sv_r y) = 0 then 1 else 0) := by
  have hrg := sv_r_rg hy
  have hb := hB _ hrg.1 hrg.2
  refine ⟨⟨fun j h0 h1 => ?_, fun x hx h => ?_⟩, fun j hj => ?_, ?_⟩
  · by_cases e : j = sv_r y
    · rw [e, am_u1_eq]; exact Or.inr rfl
    · rw [am_u1_ne e]; exact hB j h0 h1
  · by_cases e : sv_r x = sv_r y
    · have := sv_d_r hx
      rw [e, sv_d_r hy] at this
      rw [← this]; exact hR
    · rw [am_u1_ne e] at h
      exact hZ x hx h
  · by_cases e : j = sv_r y
    · rw [e, am_u1_eq]
    · rw [am_u1_ne e]; exact hj
  · by_cases e : f (sv_r y) = 0
    · rw [if_pos e]
      exact Or.inr ⟨rfl, by rw [rk_o_set hrg (by omega)]; omega⟩
    · rw [if_neg e]
      refine Or.inl ⟨rfl, ?_⟩
      funext j
      by_cases e2 : j = sv_r y
      · rw [e2, am_u1_eq]; omega
      · rw [am_u1_ne e2]
variable {G : am_G} {σ : am_D}
theorem r_goesOn (d : Nat) {P Q : am_P} {s1 s2 : Int} {o : sv_S} (hM : rk_M σ s1 s2 P Q) (ho : sv_ok o) (hob : o.1.1 < pm_S P) (hB : rk_B (σ.1 132)) (hZ : rk_Z P Q (σ.1 132)) (hoR : sv_R P Q o) : am_MI G (d + 5) mX11_goesOn [am_r (some 91), am_i s1, am_i s2, am_i o.1.1, am_i (sv_w o)] σ (fun x σ' => rk_I P Q (σ.1 132) (σ'.1 132) x ∧ am_only rk_F σ σ' ∧ (x = 0 → ∀ l i y, 0 ≤ l → l < 3 → sv_ok i → σ.1 132 (sv_r i) = 1 → pm_oT P l o.1.2 = i.1.1 → sv_n P Q l o i = some y → σ.1 132 (sv_r y) = 1)) := by
  obtain ⟨⟨h1, h2⟩, ⟨hT, hT2⟩, hm⟩ := id hM
  obtain ⟨⟨hP, hW, h3, hR2⟩, hQ⟩ := id hm
  obtain ⟨⟨pS1, pS2⟩, ⟨pR1, pR2⟩, pn, -, -, poT, poM, pcT⟩ := id hP
  obtain ⟨o1, o2, o3, o4, o5, o6⟩ := sv_w_rg ho
  have g1 := ho.1
  have g2 := ho.2.1
  refine am_M.go (by decide) (Nat.le_of_ble_eq_true rfl) rfl ?_
  generalize hQQ : (fun (x : Int) (σ' : am_D) => rk_I P Q (σ.1 132) (σ'.1 132) x ∧ am_only rk_F σ σ' ∧ (x = 0 → ∀ l i y, 0 ≤ l → l < 3 → sv_ok i → σ.1 132 (sv_r i) = 1 → pm_oT P l o.1.2 = i.1.1 → sv_n P Q l o i = some y → σ.1 132 (sv_r y) = 1)) = QQ
  -- inner
  have V : ∀ (l : Int), 0 ≤ l → l < 3 → pm_oT P l o.1.2 ≠ -1 → ∀ (n : Nat) (v c : Int) (τ : am_D), v + n = 243 → 0 ≤ v → rk_I P Q (σ.1 132) (τ.1 132) c → am_only rk_F σ τ → (c = 0 → ∀ l' i y, 0 ≤ l' → l' < 3 → sv_ok i → σ.1 132 (sv_r i) = 1 → pm_oT P l' o.1.2 = i.1.1 → sv_n P Q l' o i = some y → (l' < l ∨ (l' = l ∧ sv_w i < v)) → σ.1 132 (sv_r y) = 1) → (∀ (c' : Int) (τ' : am_D), rk_I P Q (σ.1 132) (τ'.1 132) c' → am_only rk_F σ τ' → (c' = 0 → ∀ l' i y, 0 ≤ l' → l' < 3 → sv_ok i → σ.1 132 (sv_r i) = 1 → pm_oT P l' o.1.2 = i.1.1 → sv_n P Q l' o i = some y → l' < l + 1 → σ.1 132 (sv_r y) = 1) → am_X (am_FI G (d + 5) QQ) mX11_goesOn (0, 0) 98 [some (am_r (some 91)), some (am_i s1), some (am_i s2), some (am_i o.1.1), some (am_i (sv_w o)), some (am_i c'), some (am_i l), none, none] [] (am_K0, τ')) → am_X (am_FI G (d + 5) QQ) mX11_goesOn (0, 0) 33 [some (am_r (some 91)), some (am_i s1), some (am_i s2), some (am_i o.1.1), some (am_i (sv_w o)), some (am_i c), some (am_i l), some (am_i (pm_oT P l o.1.2)), some (am_i v)] [] (am_K0, τ) := by
    intro l l0 l1 hot n
    have hor := poT l o.1.2
    induction n with
    | zero =>
      intro v c τ hn hv hI hf hC K
      refine S_X11_goesOn_33 (by omega) (fun _ => ?_) (fun z => absurd (by omega) z)
      refine K c τ hI hf (fun hc l' i y a1 a2 a3 a4 a5 a6 a7 => hC hc l' i y a1 a2 a3 a4 a5 a6 ?_)
      have := (sv_w_rg a3).1
      omega
    | succ n ih =>
      intro v c τ hn hv hI hf hC K
      -- the one of number v
      obtain ⟨iok, ir⟩ := sv_d_ok (i := 243 * pm_oT P l o.1.2 + v) (by omega)
      have ib : (sv_d (243 * pm_oT P l o.1.2 + v)).1.1 = pm_oT P l o.1.2 := by
        show (243 * pm_oT P l o.1.2 + v) / 243 = _
        omega
      generalize hi : sv_d (243 * pm_oT P l o.1.2 + v) = i at *
      have iw := (sv_w_rg iok).2.2.2.2.2
      have iwv : sv_w i = v := by rw [ib] at iw; omega
      have uniq : ∀ j : sv_S, sv_ok j → pm_oT P l o.1.2 = j.1.1 → sv_w j = v → j = i := by
        intro j hj hb hw
        have e1 := (sv_w_rg hj).2.2.2.2.2
        have e2 : sv_r j = sv_r i := by rw [e1, ← hb, hw, ir]
        have := sv_d_r hj
        rw [e2, sv_d_r iok] at this
        exact this.symm
      have hbt := hI.1.1 (243 * pm_oT P l o.1.2 + v) (by omega) (by omega)
      have next : ∀ (c' : Int) (τ' : am_D), rk_I P Q (σ.1 132) (τ'.1 132) c' → am_only rk_F σ τ' → (c' = 0 → c = 0) → (c' = 0 → σ.1 132 (sv_r i) = 1 → ∀ y, sv_n P Q l o i = some y → σ.1 132 (sv_r y) = 1) → am_X (am_FI G (d + 5) QQ) mX11_goesOn (0, 0) 92 [some (am_r (some 91)), some (am_i s1), some (am_i s2), some (am_i o.1.1), some (am_i (sv_w o)), some (am_i c'), some (am_i l), some (am_i (pm_oT P l o.1.2)), some (am_i v)] [] (am_K0, τ') := by
        intro c' τ' hI' hf' hcc hone
        refine S_X11_goesOn_92 ?_
        refine ih (v + 1) c' τ' (by omega) (by omega) hI' hf' (fun hc' l' j y a1 a2 a3 a4 a5 a6 a7 => ?_) K
        by_cases e : l' = l ∧ sv_w j = v
        · obtain ⟨rfl, e2⟩ := e
          have := uniq j a3 a5 e2
          subst this
          exact hone hc' a4 y a6
        · exact hC (hcc hc') l' j y a1 a2 a3 a4 a5 a6 (by omega)
      refine S_X11_goesOn_33 (by omega) (fun z => absurd z (by omega)) (fun _ => ?_)
      refine S_X11_goesOn_41 (by omega) (fun z => absurd z hot) (fun _ => ?_)
      refine S_X11_goesOn_47 (by omega) (by omega) (by omega) (fun z => ?_) (fun z => ?_)
      · refine next c τ hI hf id (fun hc h4 => ?_)
        rcases hI.2.2 with ⟨-, e⟩ | ⟨e, -⟩
        · rw [e, ← ir, h4] at z
          exact absurd z (by decide)
        · omega
      · have hset : τ.1 132 (sv_r i) = 1 := by rw [ir]; omega
        have hiR := hI.1.2 i iok hset
        have hadd := r_adds_ (G := G) (σ := τ) d (l := l) (o := o) (i := i) (hM.f hf) ⟨l0, l1⟩ ho iok hI.1.1 ib.symm
        rw [iwv] at hadd
        refine S_X11_goesOn_64 hadd ?_
        rintro x τ' ⟨hx, hf'⟩
        have hIx : rk_I P Q (τ.1 132) (τ'.1 132) x ∧ (x = 0 → ∀ y, sv_n P Q l o i = some y → τ.1 132 (sv_r y) = 1) := by
          rcases hx with ⟨e1, rfl, e3⟩ | ⟨y, e1, e2, e3⟩
          · exact ⟨by rw [e3]; exact rk_I.rfl' hI.1.1 hI.1.2, fun _ y hy => by rw [e1] at hy; exact nomatch hy⟩
          · have hyok := sv_n_ok hm ho iok e1
            have hrg := sv_r_rg hyok
            have hb2 := hI.1.1 _ hrg.1 hrg.2
            refine ⟨by rw [e3, e2]; exact rk_I.put hI.1.1 hI.1.2 hyok (sv_R_c.2 l o i y l0 l1 hob hoR hiR ib.symm e1), fun hx0 y' hy' => ?_⟩
            rw [e1] at hy'
            injection hy' with hy'
            subst hy'
            by_cases w : τ.1 132 (sv_r y) = 0
            · rw [if_pos w] at e2; omega
            · omega
        have x01 : x = 0 ∨ x = 1 := by rcases hIx.1.2.2 with ⟨h, -⟩ | ⟨h, -⟩ <;> omega
        have c01 : c = 0 ∨ c = 1 := by rcases hI.2.2 with ⟨h, -⟩ | ⟨h, -⟩ <;> omega
        have fin : ∀ y : Int, y = (if x = 0 then c else 1) → am_X (am_FI G (d + 5) QQ) mX11_goesOn (0, 0) 90 [some (am_r (some 91)), some (am_i s1), some (am_i s2), some (am_i o.1.1), some (am_i (sv_w o)), none, some (am_i l), some (am_i (pm_oT P l o.1.2)), some (am_i v)] [am_i y] (am_K0, τ') := by
          intro y hy
          refine S_X11_goesOn_90 ?_
          have hy0 : y = 0 → x = 0 ∧ c = 0 := by
            intro e
            rw [hy] at e
            split at e <;> omega
          refine next y τ' (hI.trans hIx.1 hy) (hf.trans hf') (fun e => (hy0 e).2) (fun e h4 y' hy' => ?_)
          have e1 := hIx.2 (hy0 e).1 y' hy'
          rcases hI.2.2 with ⟨-, e3⟩ | ⟨e3, -⟩
          · rw [← e3]; exact e1
          · have := (hy0 e).2; omega
        refine S_X11_goesOn_77 (by omega) (fun w => ?_) (fun w => ?_)
        · exact S_X11_goesOn_85 (fin 1 (by rw [if_neg w]))
        · refine S_X11_goesOn_80 (by omega) (fun w2 => ?_) (fun w2 => ?_)
          · exact S_X11_goesOn_89 (fin 0 (by rw [if_pos (Classical.not_not.mp w), w2]))
          · exact S_X11_goesOn_85 (fin 1 (by rw [if_pos (Classical.not_not.mp w)]; omega))
  have L : ∀ (n : Nat) (l c : Int) (τ : am_D), l + n = 3 → 0 ≤ l → rk_I P Q (σ.1 132) (τ.1 132) c → am_only rk_F σ τ → (c = 0 → ∀ l' i y, 0 ≤ l' → l' < 3 → sv_ok i → σ.1 132 (sv_r i) = 1 → pm_oT P l' o.1.2 = i.1.1 → sv_n P Q l' o i = some y → l' < l → σ.1 132 (sv_r y) = 1) → am_X (am_FI G (d + 5) QQ) mX11_goesOn (0, 0) 6 [some (am_r (some 91)), some (am_i s1), some (am_i s2), some (am_i o.1.1), some (am_i (sv_w o)), some (am_i c), some (am_i l), none, none] [] (am_K0, τ) := by
    intro n
    induction n with
    | zero =>
      intro l c τ hn hl hI hf hC
      have c01 : c = 0 ∨ c = 1 := by rcases hI.2.2 with ⟨h, -⟩ | ⟨h, -⟩ <;> omega
      refine S_X11_goesOn_6 (by omega) (fun _ => ?_) (fun z => absurd (by omega) z)
      refine S_X11_goesOn_104 c01 ?_
      rw [← hQQ]
      exact ⟨hI, hf, fun hc l' i y a1 a2 a3 a4 a5 a6 => hC hc l' i y a1 a2 a3 a4 a5 a6 (by omega)⟩
    | succ n ih =>
      intro l c τ hn hl hI hf hC
      have hor := poT l o.1.2
      obtain ⟨t1, -⟩ := hT.2.1 l o.1.2 (by omega) (by omega) (by omega) (by omega)
      refine S_X11_goesOn_6 (by omega) (fun z => absurd z (by omega)) (fun _ => ?_)
      refine S_X11_goesOn_12 (by omega) (c_openAt _) ?_
      rintro _ _ ⟨rfl, rfl⟩
      rw [o2]
      refine S_X11_goesOn_27 sh_98 (by omega) (by omega) ?_
      rw [hf.1 98 (by decide), t1]
      refine S_X11_goesOn_30 ?_
      have back : ∀ (c' : Int) (τ' : am_D), rk_I P Q (σ.1 132) (τ'.1 132) c' → am_only rk_F σ τ' → (c' = 0 → ∀ l' i y, 0 ≤ l' → l' < 3 → sv_ok i → σ.1 132 (sv_r i) = 1 → pm_oT P l' o.1.2 = i.1.1 → sv_n P Q l' o i = some y → l' < l + 1 → σ.1 132 (sv_r y) = 1) → am_X (am_FI G (d + 5) QQ) mX11_goesOn (0, 0) 98 [some (am_r (some 91)), some (am_i s1), some (am_i s2), some (am_i o.1.1), some (am_i (sv_w o)), some (am_i c'), some (am_i l), none, none] [] (am_K0, τ') := by
        intro c' τ' hI' hf' hC'
        refine S_X11_goesOn_98 ?_
        exact ih (l + 1) c' τ' (by omega) (by omega) hI' hf' hC'
      by_cases hot : pm_oT P l o.1.2 = -1
      · refine S_X11_goesOn_33 (by omega) (fun z => absurd z (by omega)) (fun _ => ?_)
        refine S_X11_goesOn_41 (by omega) (fun _ => ?_) (fun z => absurd hot z)
        refine back c τ hI hf (fun hc l' i y a1 a2 a3 a4 a5 a6 a7 => ?_)
        by_cases e : l' = l
        · subst e
          have := a3.1
          omega
        · exact hC hc l' i y a1 a2 a3 a4 a5 a6 (by omega)
      · exact V l hl (by omega) hot 243 0 c τ (by omega) (by omega) hI hf (fun hc l' i y a1 a2 a3 a4 a5 a6 a7 => hC hc l' i y a1 a2 a3 a4 a5 a6 (by have := (sv_w_rg a3).1; omega)) back
  refine S_X11_goesOn_0 (S_X11_goesOn_3 ?_)
  exact L 3 0 0 σ (by omega) (by omega) (rk_I.rfl' hB hZ) am_only.rfl' (fun _ l' i y a1 _ _ _ _ _ a7 => by omega)
end
