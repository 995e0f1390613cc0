section
variable {G : am_G} {σ : am_D}
def sv_w (x : sv_S) : Int := 81 * x.1.2 + 9 * sk_r x.2.1 + sk_r x.2.2
theorem sv_w_rg {x : sv_S} (h : sv_ok x) : (0 ≤ sv_w x ∧ sv_w x < 243) ∧ Int.tdiv (sv_w x) 81 = x.1.2 ∧ Int.tmod (Int.tdiv (sv_w x) 9) 9 = sk_r x.2.1 ∧ Int.tmod (sv_w x) 9 = sk_r x.2.2 ∧ (0 ≤ Int.tdiv (sv_w x) 9 ∧ Int.tdiv (sv_w x) 9 ≤ 1000) ∧ sv_r x = 243 * x.1.1 + sv_w x := by
  obtain ⟨⟨h1, h2⟩, ⟨h3, h4⟩, h5, h6⟩ := h
  have e1 := sk_r_rg h5
  have e2 := sk_r_rg h6
  have h0 : 0 ≤ sv_w x := by unfold sv_w; omega
  have hd : 0 ≤ sv_w x / 9 := by omega
  rw [Int.tdiv_eq_ediv_of_nonneg h0, Int.tdiv_eq_ediv_of_nonneg h0, Int.tmod_eq_emod_of_nonneg hd, Int.tmod_eq_emod_of_nonneg h0]
  unfold sv_w sv_r
  omega
theorem rm_T.b97 {P : am_P} {s : Int} (hT : rm_T σ s P) (hP : pm_ok P) : σ.1 97 s ≤ 432 := by
  have h := hT.2.2.2.2.1
  have := hP.2.2.1.2.2.2
  omega
/-- the two rows of kinds -/
def rk_2 (τ : am_D) (a : Nat) (x : sv_S) : Prop := τ.1 a 0 = sk_r x.2.1 ∧ τ.1 a 1 = sk_r x.2.2
theorem rk_V_of {τ : am_D} {o i : sv_S} {w : List Int} (hw : sk_x w) (ho : sv_ok o) (hi : sv_ok i) (h3 : rk_2 τ 133 i) (h4 : (∀ s ∈ w, s < 8) ∨ rk_2 τ 134 o) : rk_V τ w (sv_X i) (sv_X o) := by
  intro s hs
  have hsr := hw.1 s hs
  refine ⟨fun a b => ⟨?_, sv_X_ok hi⟩, fun a => ⟨?_, sv_X_ok ho⟩⟩
  · unfold sv_X
    rcases (by omega : s = 4 ∨ s = 5) with rfl | rfl
    · rw [if_pos (by decide)]; exact h3.1
    · rw [if_neg (by decide)]; exact h3.2
  · rcases h4 with h4 | h4
    · have := h4 s hs; omega
    · unfold sv_X
      rcases (by omega : s = 8 ∨ s = 9) with rfl | rfl
      · rw [if_pos (by decide)]; exact h4.1
      · rw [if_neg (by decide)]; exact h4.2
abbrev rk_F : List Nat := [132, 133, 134, 135, 136]
def rk_M (σ : am_D) (s1 s2 : Int) (P Q : am_P) : Prop := ((0 ≤ s1 ∧ s1 < 6) ∧ (0 ≤ s2 ∧ s2 < 6)) ∧ (rm_T σ s1 P ∧ rm_T σ s2 Q) ∧ sv_m P Q
theorem rk_M.f {σ τ : am_D} {s1 s2 : Int} {P Q : am_P} (h : rk_M σ s1 s2 P Q) (hf : am_only rk_F σ τ) : rk_M τ s1 s2 P Q := by
  refine ⟨h.1, ⟨rm_T_move h.2.2.1.1 h.2.1.1 (fun a y1 y2 j _ _ => by rw [hf.1 a (by simp; omega)]), rm_T_move h.2.2.2.1 h.2.1.2 (fun a y1 y2 j _ _ => by rw [hf.1 a (by simp; omega)])⟩, h.2.2⟩
def rk_B (f : Int → Int) : Prop := ∀ j : Int, 0 ≤ j → j < 729 → f j = 0 ∨ f j = 1
theorem r_adds_ (d : Nat) {P Q : am_P} {s1 s2 l : Int} {o i : sv_S} (hM : rk_M σ s1 s2 P Q) (hl : 0 ≤ l ∧ l < 3) (ho : sv_ok o) (hi : sv_ok i) (hB : rk_B (σ.1 132)) (hot : pm_oT P l o.1.2 = i.1.1) : am_MI G (d + 4) mX11_adds_ [am_r (some 91), am_i s1, am_i s2, am_i o.1.1, am_i (sv_w o), am_i l, am_i (sv_w i)] σ (fun x σ' => ((sv_n P Q l o i = none ∧ x = 0 ∧ σ'.1 132 = σ.1 132) ∨ (∃ y, sv_n P Q l o i = some y ∧ x = (if σ.1 132 (sv_r y) = 0 then 1 else 0) ∧ σ'.1 132 = am_u1 (σ.1 132) (sv_r y) 1)) ∧ am_only rk_F σ σ') := by
  obtain ⟨⟨h1, h2⟩, ⟨hT, hT2⟩, hm⟩ := id hM
  obtain ⟨⟨hP, hW, h3, hR2⟩, hQ⟩ := id hm
  obtain ⟨⟨pS1, pS2⟩, ⟨pR1, pR2⟩, pn, -, -, poT, poM, pcT⟩ := id hP
  obtain ⟨o1, o2, o3, o4, o5, o6⟩ := sv_w_rg ho
  obtain ⟨i1, i2, i3, i4, i5, i6⟩ := sv_w_rg hi
  have g1 := ho.1
  have g2 := ho.2.1
  have g3 := hi.1
  have g4 := hi.2.1
  obtain ⟨t1, t2⟩ := hT.2.1 l o.1.2 (by omega) (by omega) (by omega) (by omega)
  have t2 := t2 (by omega)
  have hmk := poM l o.1.2
  obtain ⟨t3, t4⟩ := hT.2.2.1 l i.1.2 (pm_oM P l o.1.2) (by omega) (by omega) (by omega) (by omega) (by omega) (by omega)
  have hct := pcT l i.1.2 (pm_oM P l o.1.2)
  have h97 := hT.b97 hP
  refine am_M.go (by decide) (Nat.le_of_ble_eq_true rfl) rfl ?_
  generalize hQQ : (fun (x : Int) (σ' : am_D) => ((sv_n P Q l o i = none ∧ x = 0 ∧ σ'.1 132 = σ.1 132) ∨ (∃ y, sv_n P Q l o i = some y ∧ x = (if σ.1 132 (sv_r y) = 0 then 1 else 0) ∧ σ'.1 132 = am_u1 (σ.1 132) (sv_r y) 1)) ∧ am_only rk_F σ σ') = QQ
  refine S_X11_adds__0 (by omega) (c_openAt _) ?_
  rintro _ _ ⟨rfl, rfl⟩
  rw [o2]
  refine S_X11_adds__13 (by omega) (by omega) (by omega) (c_closeAt _) ?_
  rintro _ _ ⟨rfl, rfl⟩
  rw [i2, t2]
  generalize hv : 108 * s1 + 36 * l + 6 * i.1.2 + pm_oM P l o.1.2 = v8 at *
  refine S_X11_adds__33 (by omega) (by omega) (by rw [t3]; omega) (fun z => ?_) (fun z => ?_)
  rotate_left
  · refine S_X11_adds__44 ?_
    rw [← hQQ]
    refine ⟨Or.inl ⟨?_, rfl, rfl⟩, am_only.rfl'⟩
    unfold sv_n
    rw [if_pos (by rw [← t3]; exact Classical.not_not.mp z)]
  rw [t3] at z
  obtain ⟨u1, u2, u3⟩ := t4 z
  obtain ⟨cl, cx⟩ := hm.cx z
  refine S_X11_adds__46 (by omega) (by omega) ?_
  refine S_X11_adds__60 (by omega) ?_
  refine S_X11_adds__71 (by omega) (by omega) ?_
  refine S_X11_adds__85 (by omega) ?_
  rw [o3, o4, i3, i4]
  generalize hρ : am_pI (am_pI (am_pI (am_pI σ 134 0 (sk_r o.2.1)) 134 1 (sk_r o.2.2)) 133 0 (sk_r i.2.1)) 133 1 (sk_r i.2.2) = ρ
  have f1 : am_only [133, 134] σ ρ := by
    rw [← hρ]
    exact (((am_only.pI (by decide)).trans (am_only.pI (by decide))).trans (am_only.pI (by decide))).trans (am_only.pI (by decide))
  have f1' : am_only rk_F σ ρ := f1.sub (by decide)
  have k3 : rk_2 ρ 133 i := by
    rw [← hρ]
    exact ⟨by rw [am_pI_nj (by decide), am_pI_at], by rw [am_pI_at]⟩
  have k4 : rk_2 ρ 134 o := by
    rw [← hρ]
    exact ⟨by rw [am_pI_of (by decide), am_pI_of (by decide), am_pI_nj (by decide), am_pI_at], by rw [am_pI_of (by decide), am_pI_of (by decide), am_pI_at]⟩
  have hMρ := hM.f f1'
  have e101 : ρ.1 101 v8 = σ.1 101 v8 := by rw [f1.1 101 (by decide)]
  have hX : ∀ (τ : am_D), am_only rk_F σ τ → ∀ j : Nat, j < (pm_cX P l i.1.2 (pm_oM P l o.1.2)).length → rm_X τ s1 (3 * σ.1 101 v8 + j) ((pm_cX P l i.1.2 (pm_oM P l o.1.2)).getD j []) := by
    intro τ hf j hj
    obtain ⟨y1, y2, y3, y4⟩ := u3 j hj
    unfold rm_X
    rw [hf.1 103 (by decide), hf.1 104 (by decide), hf.1 97 (by decide), hf.1 106 (by decide)]
    exact ⟨y1, y2, y3, y4⟩
  have hmem : ∀ j : Nat, j < (pm_cX P l i.1.2 (pm_oM P l o.1.2)).length → sk_x ((pm_cX P l i.1.2 (pm_oM P l o.1.2)).getD j []) := fun j hj => cx _ (by
    rw [List.getD_eq_getElem?_getD, List.getElem?_eq_getElem hj]
    exact List.getElem_mem hj)
  have x0 := hX ρ f1' 0 (by omega)
  have w0 := hmem 0 (by omega)
  have d0 := r_does (G := G) (σ := ρ) d (Q := Q) (s1 := s1) (s2 := s2) (rl := σ.1 101 v8) (r := 0) h1 h2 hMρ.2.1.2 hQ (by omega) (by omega) x0 (by rw [f1.1 97 (by decide)]; exact h97) w0 (rk_V_of w0 ho hi k3 (Or.inr k4))
  rw [← e101] at d0
  refine S_X11_adds__96 (by omega) (by omega) d0 ?_
  rintro _ τ ⟨rfl, f2⟩
  have f2' : am_only rk_F σ τ := f1'.trans (f2.sub (by decide))
  generalize hE0 : sk_ev Q (sv_X i) (sv_X o) ((pm_cX P l i.1.2 (pm_oM P l o.1.2)).getD 0 []) sk_1 [] = E0 at *
  have e95 : τ.1 95 s1 = pm_R P := by rw [f2'.1 95 (by decide)]; exact hT.1.2
  have hsv : sv_n P Q l o i = some ((o.1.1, pm_cT P l i.1.2 (pm_oM P l o.1.2)), (E0, if pm_R P = 1 then sk_1 else sk_ev Q (sv_X i) (sv_X o) ((pm_cX P l i.1.2 (pm_oM P l o.1.2)).getD 1 []) sk_1 [])) := by
    unfold sv_n
    rw [if_neg z, hE0]
  -- the end
  have fin : ∀ (E1 : sk_K) (υ : am_D), am_only rk_F σ υ → υ.1 132 = σ.1 132 → sv_n P Q l o i = some ((o.1.1, pm_cT P l i.1.2 (pm_oM P l o.1.2)), (E0, E1)) → am_X (am_FI G (d + 4) QQ) mX11_adds_ (0, 0) 140 [some (am_r (some 91)), none, none, some (am_i o.1.1), none, none, none, none, some (am_i v8), some (am_i (sk_r E0)), none, none, none] [am_i (sk_r E1)] (am_K0, υ) := by
    intro E1 υ hf h132 hn
    have hyok := sv_n_ok hm ho hi hn
    have hrg := sv_r_rg hyok
    refine S_X11_adds__140 ?_
    refine S_X11_adds__142 (by omega) (by omega) ?_
    have e100 : υ.1 100 v8 = pm_cT P l i.1.2 (pm_oM P l o.1.2) := by rw [hf.1 100 (by decide)]; exact t3
    rw [e100]
    have er : 243 * o.1.1 + (81 * pm_cT P l i.1.2 (pm_oM P l o.1.2) + 9 * sk_r E0 + sk_r E1) = sv_r ((o.1.1, pm_cT P l i.1.2 (pm_oM P l o.1.2)), (E0, E1)) := rfl
    have hb := hB _ hrg.1 hrg.2
    have put : ∀ c : Int, c = (if σ.1 132 (sv_r ((o.1.1, pm_cT P l i.1.2 (pm_oM P l o.1.2)), (E0, E1))) = 0 then 1 else 0) → am_X (am_FI G (d + 4) QQ) mX11_adds_ (0, 0) 184 [some (am_r (some 91)), none, none, some (am_i o.1.1), none, none, none, none, none, none, none, some (am_i (81 * pm_cT P l i.1.2 (pm_oM P l o.1.2) + 9 * sk_r E0 + sk_r E1)), none] [am_i c] (am_K0, υ) := by
      intro c hc
      refine S_X11_adds__184 ?_
      refine S_X11_adds__186 (by omega) (by omega) ?_
      refine S_X11_adds__200 (by rw [hc]; split; exact Or.inr rfl; exact Or.inl rfl) ?_
      rw [← hQQ]
      refine ⟨Or.inr ⟨_, hn, hc, ?_⟩, hf.trans (am_only.pI (by decide))⟩
      rw [am_pI_row, h132, er]
    refine S_X11_adds__163 (by omega) (by omega) (by rw [h132, er]; omega) (fun y => ?_) (fun y => ?_)
    · rw [h132, er] at y
      exact S_X11_adds__183 (put 0 (by rw [if_neg y]))
    · rw [h132, er] at y
      exact S_X11_adds__179 (put 1 (by rw [if_pos (Classical.not_not.mp y)]))
  have h132 : τ.1 132 = σ.1 132 := by rw [f2.1 132 (by decide), f1.1 132 (by decide)]
  refine S_X11_adds__112 h1.1 h1.2 (by omega) (fun y => ?_) (fun y => ?_)
  · refine S_X11_adds__139 ?_
    have := fin sk_1 τ f2' h132 (by rw [hsv, if_pos (by omega)])
    exact this
  · have x1 := hX τ f2' 1 (by omega)
    have w1 := hmem 1 (by omega)
    have hMτ := hM.f f2'
    have k3' : rk_2 τ 133 i := ⟨by rw [f2.1 133 (by decide)]; exact k3.1, by rw [f2.1 133 (by decide)]; exact k3.2⟩
    have k4' : rk_2 τ 134 o := ⟨by rw [f2.1 134 (by decide)]; exact k4.1, by rw [f2.1 134 (by decide)]; exact k4.2⟩
    have e101' : τ.1 101 v8 = σ.1 101 v8 := by rw [f2'.1 101 (by decide)]
    have d1 := r_does (G := G) (σ := τ) d (Q := Q) (s1 := s1) (s2 := s2) (rl := σ.1 101 v8) (r := 1) h1 h2 hMτ.2.1.2 hQ (by omega) (by omega) x1 (by rw [f2'.1 97 (by decide)]; exact h97) w1 (rk_V_of w1 ho hi k3' (Or.inr k4'))
    rw [← e101'] at d1
    refine S_X11_adds__122 (by omega) (by omega) d1 ?_
    rintro _ υ ⟨rfl, f3⟩
    refine S_X11_adds__136 ?_
    exact fin _ υ (f2'.trans (f3.sub (by decide))) (by rw [f3.1 132 (by decide)]; exact h132) (by rw [hsv, if_neg (by omega)])
end
