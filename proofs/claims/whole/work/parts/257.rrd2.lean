section
variable {G : am_G} {σ : am_D}
/-- an EXPRESSION, over the reference's links -/
theorem r_makeI (d : Nat) {g s rl r u R : Int} {w : List Int} {X Y : rd_rg} {pre post : List (List Int)} (hg : 0 ≤ g ∧ g < 3) (hs : 0 ≤ s ∧ s < 6) (hrl : 0 ≤ rl ∧ rl < 24) (hr : 0 ≤ r ∧ r < 3) (hX : rm_X σ s (3 * rl + r) w) (h97 : σ.1 97 s ≤ 432) (hR3 : R ≤ 3) (hx : pm_ex R true (pre ++ w :: post).flatten) (hap : rd_ap (rd_c3 X ++ rd_c3 Y) u) (hu : 0 ≤ u) (hdp : ∀ x ∈ w, 8 ≤ x → 1 ≤ σ.1 114 g ∧ σ.1 114 g ≤ 260)
    (hr1 : ∀ r : Int, 0 ≤ r → r < R → rd_rp (5000 * g) (X r) (σ.1 116 (3 * g + r)) (σ.1 117 (3 * g + r)) (σ.1 118 (3 * g + r))) (hr2 : ∀ r : Int, 0 ≤ r → r < R → 8 + r ∈ w → rd_rp (5000 * g) (Y r) (σ.1 121 (3 * (260 * g + σ.1 114 g - 1) + r)) (σ.1 122 (3 * (260 * g + σ.1 114 g - 1) + r)) (σ.1 123 (3 * (260 * g + σ.1 114 g - 1) + r)))
    (hus : σ.1 112 g = (rd_es X Y pre [] u).2) (huR : (rd_es X Y (pre ++ [w]) [] u).2 ≤ 5000) (hK : rd_G (5000 * g) (σ.1 111) (σ.1 110) (rd_c3 X ++ rd_c3 Y)) (hE : rd_G (5000 * g) (σ.1 111) (σ.1 110) (rd_es X Y pre [] u).1) :
    am_MV G (d + 2) mX11_makes [am_r (some 91), am_i g, am_i s, am_i rl, am_i r] σ (fun σ' => (am_only [91, 110, 111, 112] σ σ' ∧ rr_fr g σ σ') ∧ rd_rp (5000 * g) (rd_ev X Y w ([], σ.1 112 g)).1 (σ'.1 91 43) (σ'.1 91 44) (σ'.1 91 45) ∧ σ'.1 112 g = (rd_es X Y (pre ++ [w]) [] u).2 ∧ (rd_es X Y (pre ++ [w]) [] u).1 = (rd_es X Y pre [] u).1 ++ [(rd_ev X Y w ([], σ.1 112 g)).1] ∧ rd_G (5000 * g) (σ'.1 111) (σ'.1 110) (rd_es X Y (pre ++ [w]) [] u).1 ∧ ∀ L, rd_sf L (rd_c3 X ++ rd_c3 Y) u → rd_G (5000 * g) (σ.1 111) (σ.1 110) L → rd_G (5000 * g) (σ'.1 111) (σ'.1 110) L) := by
  have hmw : ∀ t ∈ w, t ∈ (pre ++ w :: post).flatten := fun t ht => List.mem_flatten.mpr ⟨w, by simp, ht⟩
  have hrg : ∀ t ∈ w, 0 ≤ t ∧ t ≤ 10 ∧ t ≠ 7 := fun t ht => by have := hx.1 t (hmw t ht); omega
  have hes : ∀ (a b : List (List Int)) (cs : List rd_ch) (v : Int), rd_es X Y (a ++ b) cs v = rd_es X Y b (rd_es X Y a cs v).1 (rd_es X Y a cs v).2 := by
    intro a
    induction a with
    | nil => intro b cs v; rfl
    | cons y a ih => intro b cs v; exact ih b _ _
  have hev : (rd_es X Y (pre ++ [w]) [] u).2 = (rd_ev X Y w ([], σ.1 112 g)).2 := by rw [hes, hus]; rfl
  have hev2 : (rd_ev X Y w ([], σ.1 112 g)).2 = σ.1 112 g + _ := rd_ev_u (X := X) (Y := Y) w ([], σ.1 112 g)
  have hfl := rd_es_flat (X := X) (Y := Y) pre [] u
  have hu2 := rd_ev_u (X := X) (Y := Y) pre.flatten ([], u)
  rw [← hfl.2, ← hus] at hu2
  have hu2 : σ.1 112 g = u + _ := hu2
  have hrp : ∀ t ∈ w, 4 ≤ t → rd_rp (5000 * g) (rd_cp X Y t) (rr_Z σ g t).1 (rr_Z σ g t).2.1 (rr_Z σ g t).2.2 := by
    intro t ht h4
    have h := hx.1 t (hmw t ht)
    unfold rr_Z rd_cp
    by_cases z : t < 8
    · rw [if_pos z, if_pos z]
      exact hr1 (t - 4) (by omega) (by omega)
    · rw [if_neg z, if_neg z]
      exact hr2 (t - 8) (by omega) (by omega) (by rw [show 8 + (t - 8) = t by omega]; exact ht)
  have hcp : ∀ t ∈ w, 4 ≤ t → rd_cp X Y t ∈ rd_c3 X ++ rd_c3 Y := by
    intro t ht h4
    obtain ⟨i, hi, e, -⟩ := rd_six (X := X) (Y := Y) hR3 hx (hmw t ht) h4
    exact List.mem_of_getElem? e
  refine am_M.mono (r_makes d hg hs hrl hr hX h97 hrg (by omega) hdp ?_) ?_
  · intro t ht h4
    have h1 := hrp t ht h4
    have hc := hap.1 _ (hcp t ht h4)
    have hl := rd_len_u hu hc.1 hc.2
    refine ⟨by rw [h1.1]; omega, fun hz => ?_⟩
    have hne : rd_cp X Y t ≠ [] := by
      intro e
      rw [h1.1, e] at hz
      exact hz rfl
    obtain ⟨q, p, ep⟩ := rd_concat hne
    rw [h1.2.2 q p ep]
    have := hc.2 p.1 (by rw [ep, rd_nd_app]; simp [rd_nd])
    omega
  · rintro _ _ ⟨σ', rfl, rfl, hpost⟩
    refine ⟨σ', rfl, rfl, ?_⟩
    obtain ⟨k1, k2, k3, k4, k5, k6, k7⟩ := rd_put (o := 5000 * g) (u := u) (R := R) (X := X) (Y := Y) (Z := rr_Z σ g) (pre := pre) (post := post) (w := w) (s := ((σ.1 111, σ.1 110), ((σ.1 91 43, σ.1 91 44), (0, σ.1 112 g)))) hR3 hx hap hu hrp rfl hus hK hE
    obtain ⟨hp1, hp2, hp3, hp4⟩ := hpost
    generalize pt_run (5000 * g) (rr_Z σ g) w ((σ.1 111, σ.1 110), ((σ.1 91 43, σ.1 91 44), (0, σ.1 112 g))) = S at hp4 k1 k2 k3 k5 k6 k7
    have g6 : σ'.1 91 43 = pt_a S := by rw [← hp4]; rfl
    have g7 : σ'.1 91 44 = pt_b S := by rw [← hp4]; rfl
    have g8 : σ'.1 91 45 = pt_n S := by rw [← hp4]; rfl
    have g3 : σ'.1 112 g = pt_u S := by rw [← hp4]; rfl
    have gf : σ'.1 111 = pt_f S := by rw [← hp4]; rfl
    have gg : σ'.1 110 = pt_g S := by rw [← hp4]; rfl
    refine ⟨⟨hp1, hp1.sub (fun a ha => by revert ha; simp; omega), hp2, fun a y1 y2 i hi => ?_⟩, ?_⟩
    · have hc : a = 110 ∨ a = 111 ∨ a = 112 ∨ 113 ≤ a := by omega
      rcases hc with rfl | rfl | rfl | hc
      · have hi : i < 5000 * g ∨ 5000 * g + 5000 ≤ i := hi
        rw [gg]
        exact (k7 i (by rw [k2]; omega)).2
      · have hi : i < 5000 * g ∨ 5000 * g + 5000 ≤ i := hi
        rw [gf]
        exact (k7 i (by rw [k2]; omega)).1
      · have hi : i < 1 * g ∨ 1 * g + 1 ≤ i := hi
        exact hp3 i (by simp; omega)
      · rw [hp1.1 a (by simp; omega)]
    · rw [g6, g7, g8, g3, gf, gg]
      exact ⟨k1, k2, k4, k3, fun L hs hL => hL.keep hs k5 k6⟩
theorem r_opens (d : Nat) {P : am_P} {g s l mo : Int} {C : rd_C} (hg : 0 ≤ g ∧ g < 3) (hs : 0 ≤ s ∧ s < 6) (hT : rm_T σ s P) (hP : pm_ok P) (hl : 0 ≤ l ∧ l ≤ 2) (hI : rd_I P C) (hd : ((rd_s C).length : Int) < 260) (h : rr_I σ g C mo) : am_MI G (d + 2) mX11_opens [am_r (some 91), am_i g, am_i s, am_i l] σ (fun x σ' => (x = 0 ∧ rd_open P C l = none ∧ σ = σ') ∨ (x = 1 ∧ ∃ C', rd_open P C l = some C' ∧ rr_I σ' g C' mo ∧ rr_fr g σ σ')) := by
  obtain ⟨⟨a1, a2, a3, a4⟩, b, c, e⟩ := id h
  have hq := hI.1
  have hS := hP.1
  have ho := hP.2.2.2.2.2.1 l (rd_q C)
  obtain ⟨t1, t2⟩ := hT.2.1 l (rd_q C) (by omega) (by omega) (by omega) (by omega)
  refine am_M.go (by decide) (Nat.le_of_ble_eq_true rfl) rfl ?_
  refine S_X11_opens_0 hg.1 hg.2 (c_openAt _) ?_
  rintro _ _ ⟨rfl, rfl⟩
  rw [a1]
  refine S_X11_opens_13 (by omega) (by omega) (by omega) (fun z => ?_) (fun z => ?_)
  rotate_left
  · have z := Classical.not_not.mp z
    rw [t1] at z
    refine S_X11_opens_24 (Or.inl ⟨rfl, ?_, rfl⟩)
    unfold rd_open
    rw [if_pos z]
  rw [t1] at z
  have hop : rd_open P C l = some ((pm_oT P l (rd_q C), rd_u C), (((l, pm_oM P l (rd_q C)), rd_r C) :: rd_s C, rd_nil)) := by
    unfold rd_open
    rw [if_neg z]
  refine S_X11_opens_26 hg.1 hg.2 ?_
  rw [a2]
  refine S_X11_opens_40 (by omega) (by omega) (by omega) (by omega) ?_
  rw [t2 z]
  refine S_X11_opens_54 (by omega) (by omega) ?_
  refine S_X11_opens_62 ?_
  have f0 : ∀ a, a ≠ 119 → a ≠ 120 → (am_pI (am_pI σ 119 (260 * g + (rd_s C).length) (pm_oM P l (rd_q C))) 120 (260 * g + (rd_s C).length) l).1 a = σ.1 a := fun a y1 y2 => by rw [am_pI_of y2, am_pI_of y1]
  have f9 : (am_pI (am_pI σ 119 (260 * g + (rd_s C).length) (pm_oM P l (rd_q C))) 120 (260 * g + (rd_s C).length) l).1 119 = am_u1 (σ.1 119) (260 * g + (rd_s C).length) (pm_oM P l (rd_q C)) := by rw [am_pI_of (by decide), am_pI_row]
  have f10 : (am_pI (am_pI σ 119 (260 * g + (rd_s C).length) (pm_oM P l (rd_q C))) 120 (260 * g + (rd_s C).length) l).1 120 = am_u1 (σ.1 120) (260 * g + (rd_s C).length) l := by rw [am_pI_row, am_pI_of (by decide)]
  have ff : rr_fr g σ (am_pI (am_pI σ 119 (260 * g + (rd_s C).length) (pm_oM P l (rd_q C))) 120 (260 * g + (rd_s C).length) l) := (rr_fr.pI (by decide) (show 260 * g ≤ _ ∧ _ < 260 * g + 260 by omega)).trans (rr_fr.pI (by decide) (show 260 * g ≤ _ ∧ _ < 260 * g + 260 by omega))
  generalize am_pI (am_pI σ 119 (260 * g + (rd_s C).length) (pm_oM P l (rd_q C))) 120 (260 * g + (rd_s C).length) l = τ0 at f0 f9 f10 ff ⊢
  have loop : ∀ (n : Nat) (k : Int) (τ : am_D), 3 - k = n → 0 ≤ k → rr_fr g σ τ → (∀ a, a ≠ 121 → a ≠ 122 → a ≠ 123 → τ.1 a = τ0.1 a) → (∀ i : Int, i < 3 * (260 * g + (rd_s C).length) → τ.1 121 i = σ.1 121 i ∧ τ.1 122 i = σ.1 122 i ∧ τ.1 123 i = σ.1 123 i) → (∀ r : Int, 0 ≤ r → r < k → τ.1 121 (3 * (260 * g + (rd_s C).length) + r) = σ.1 116 (3 * g + r) ∧ τ.1 122 (3 * (260 * g + (rd_s C).length) + r) = σ.1 117 (3 * g + r) ∧ τ.1 123 (3 * (260 * g + (rd_s C).length) + r) = σ.1 118 (3 * g + r)) → am_X (am_FI G (d + 2) (fun x σ' => (x = 0 ∧ rd_open P C l = none ∧ σ = σ') ∨ (x = 1 ∧ ∃ C', rd_open P C l = some C' ∧ rr_I σ' g C' mo ∧ rr_fr g σ σ'))) mX11_opens (0, 0) 65 [some (am_r (some 91)), some (am_i g), none, none, some (am_i (18 * s + 6 * l + rd_q C)), some (am_i (260 * g + (rd_s C).length)), some (am_i k)] [] (am_K0, τ) := by
    intro n
    induction n with
    | zero =>
      intro k τ hn hk hf h0 hlo hnew
      have hk3 : k = 3 := by omega
      subst hk3
      refine S_X11_opens_65 (by omega) (fun _ => ?_) (fun z => absurd (by omega) z)
      have e14 : τ.1 114 g = (rd_s C).length := by rw [h0 114 (by decide) (by decide) (by decide), f0 114 (by decide) (by decide)]; exact a2
      refine S_X11_opens_146 hg.1 hg.2 hg.1 hg.2 ?_
      rw [e14]
      refine S_X11_opens_156 (by omega) (by omega) hg.1 hg.2 ?_
      rw [am_pI_of (show (98 : Nat) ≠ 114 by decide), h0 98 (by decide) (by decide) (by decide), f0 98 (by decide) (by decide), t1]
      refine S_X11_opens_169 (r_empties _ hg) ?_
      rintro τ2 ⟨o1, o2, o3⟩
      have q0 : ∀ a, a ≠ 118 → a ≠ 113 → a ≠ 114 → τ2.1 a = τ.1 a := fun a y1 y2 y3 => by rw [o1.1 a (by simp; omega), am_pI_of y2, am_pI_of y3]
      have q00 : ∀ a, a ≠ 118 → a ≠ 113 → a ≠ 114 → a ≠ 119 → a ≠ 120 → a ≠ 121 → a ≠ 122 → a ≠ 123 → τ2.1 a = σ.1 a := fun a y1 y2 y3 y4 y5 y6 y7 y8 => by rw [q0 a y1 y2 y3, h0 a y6 y7 y8, f0 a y4 y5]
      refine S_X11_opens_174 (Or.inr ⟨rfl, _, hop, ⟨⟨?_, ?_, ?_, ?_⟩, fun r r0 r1 => rd_rp_nil (o3 r r0 r1), ⟨⟨?_, ?_, fun r r0 r1 => ?_⟩, ?_⟩, ?_⟩, ?_⟩)
      · rw [o1.1 113 (by decide), am_pI_row, am_u1_eq]
      · rw [o1.1 114 (by decide), am_pI_of (by decide), am_pI_row, am_u1_eq]
        show _ = (((rd_s C).length + 1 : Nat) : Int)
        omega
      · rw [q00 112 (by decide) (by decide) (by decide) (by decide) (by decide) (by decide) (by decide) (by decide)]; exact a3
      · rw [q00 115 (by decide) (by decide) (by decide) (by decide) (by decide) (by decide) (by decide) (by decide)]; exact a4
      · show τ2.1 119 (260 * g + (rd_s C).length) = pm_oM P l (rd_q C)
        rw [q0 119 (by decide) (by decide) (by decide), h0 119 (by decide) (by decide) (by decide), f9, am_u1_eq]
      · show τ2.1 120 (260 * g + (rd_s C).length) = l
        rw [q0 120 (by decide) (by decide) (by decide), h0 120 (by decide) (by decide) (by decide), f10, am_u1_eq]
      · show rd_rp (5000 * g) (rd_r C r) (τ2.1 121 (3 * (260 * g + (rd_s C).length) + r)) (τ2.1 122 (3 * (260 * g + (rd_s C).length) + r)) (τ2.1 123 (3 * (260 * g + (rd_s C).length) + r))
        obtain ⟨n1, n2, n3⟩ := hnew r r0 r1
        rw [q0 121 (by decide) (by decide) (by decide), q0 122 (by decide) (by decide) (by decide), q0 123 (by decide) (by decide) (by decide), n1, n2, n3]
        exact b r r0 r1
      · refine c.keep (fun i y1 y2 => ?_) (fun i y1 y2 => ?_)
        · rw [q0 119 (by decide) (by decide) (by decide), q0 120 (by decide) (by decide) (by decide), h0 119 (by decide) (by decide) (by decide), h0 120 (by decide) (by decide) (by decide), f9, f10, am_u1_ne (by omega), am_u1_ne (by omega)]
          exact ⟨rfl, rfl⟩
        · rw [q0 121 (by decide) (by decide) (by decide), q0 122 (by decide) (by decide) (by decide), q0 123 (by decide) (by decide) (by decide)]
          exact hlo i y2
      · rw [q00 111 (by decide) (by decide) (by decide) (by decide) (by decide) (by decide) (by decide) (by decide), q00 110 (by decide) (by decide) (by decide) (by decide) (by decide) (by decide) (by decide) (by decide)]
        exact rd_G_open hop e
      · exact ((hf.trans (rr_fr.pI (by decide) (show 1 * g ≤ _ ∧ _ < 1 * g + 1 by omega))).trans (rr_fr.pI (by decide) (show 1 * g ≤ _ ∧ _ < 1 * g + 1 by omega))).trans o2
    | succ n ih =>
      intro k τ hn hk hf h0 hlo hnew
      have k3 : k < 3 := by omega
      have g6 : τ.1 116 = σ.1 116 := by rw [h0 116 (by decide) (by decide) (by decide), f0 116 (by decide) (by decide)]
      have g7 : τ.1 117 = σ.1 117 := by rw [h0 117 (by decide) (by decide) (by decide), f0 117 (by decide) (by decide)]
      have g8 : τ.1 118 = σ.1 118 := by rw [h0 118 (by decide) (by decide) (by decide), f0 118 (by decide) (by decide)]
      refine S_X11_opens_65 (by omega) (fun z => absurd z (by omega)) (fun _ => ?_)
      refine S_X11_opens_71 (by omega) (by omega) (by omega) (by omega) ?_
      rw [g6]
      refine S_X11_opens_94 (by omega) (by omega) (by omega) (by omega) ?_
      rw [am_pI_of (show (117 : Nat) ≠ 121 by decide), g7]
      refine S_X11_opens_117 (by omega) (by omega) (by omega) (by omega) ?_
      rw [am_pI_of (show (118 : Nat) ≠ 122 by decide), am_pI_of (show (118 : Nat) ≠ 121 by decide), g8]
      refine S_X11_opens_140 ?_
      have r1' : ∀ x y z : Int, (am_pI (am_pI (am_pI τ 121 (3 * (260 * g + (rd_s C).length) + k) x) 122 (3 * (260 * g + (rd_s C).length) + k) y) 123 (3 * (260 * g + (rd_s C).length) + k) z).1 121 = am_u1 (τ.1 121) (3 * (260 * g + (rd_s C).length) + k) x := fun x y z => by rw [am_pI_of (by decide), am_pI_of (by decide), am_pI_row]
      have r2' : ∀ x y z : Int, (am_pI (am_pI (am_pI τ 121 (3 * (260 * g + (rd_s C).length) + k) x) 122 (3 * (260 * g + (rd_s C).length) + k) y) 123 (3 * (260 * g + (rd_s C).length) + k) z).1 122 = am_u1 (τ.1 122) (3 * (260 * g + (rd_s C).length) + k) y := fun x y z => by rw [am_pI_of (by decide), am_pI_row, am_pI_of (by decide)]
      have r3' : ∀ x y z : Int, (am_pI (am_pI (am_pI τ 121 (3 * (260 * g + (rd_s C).length) + k) x) 122 (3 * (260 * g + (rd_s C).length) + k) y) 123 (3 * (260 * g + (rd_s C).length) + k) z).1 123 = am_u1 (τ.1 123) (3 * (260 * g + (rd_s C).length) + k) z := fun x y z => by rw [am_pI_row, am_pI_of (by decide), am_pI_of (by decide)]
      refine ih (k + 1) _ (by omega) (by omega) (((hf.trans (rr_fr.pI (by decide) (show 780 * g ≤ _ ∧ _ < 780 * g + 780 by omega))).trans (rr_fr.pI (by decide) (show 780 * g ≤ _ ∧ _ < 780 * g + 780 by omega))).trans (rr_fr.pI (by decide) (show 780 * g ≤ _ ∧ _ < 780 * g + 780 by omega))) (fun a y1 y2 y3 => by rw [am_pI_of y3, am_pI_of y2, am_pI_of y1]; exact h0 a y1 y2 y3) (fun i hi => ?_) (fun r r0 r1 => ?_)
      · rw [r1', r2', r3', am_u1_ne (by omega), am_u1_ne (by omega), am_u1_ne (by omega)]
        exact hlo i hi
      · rw [r1', r2', r3']
        by_cases y : r = k
        · subst y
          rw [am_u1_eq, am_u1_eq, am_u1_eq]
          exact ⟨rfl, rfl, rfl⟩
        · rw [am_u1_ne (by omega), am_u1_ne (by omega), am_u1_ne (by omega)]
          exact hnew r r0 (by omega)
  exact loop 3 0 τ0 (by omega) (by omega) ff (fun a _ _ _ => rfl) (fun i _ => by rw [f0 121 (by decide) (by decide), f0 122 (by decide) (by decide), f0 123 (by decide) (by decide)]; exact ⟨rfl, rfl, rfl⟩) (fun r r0 r1 => absurd r1 (by omega))
end
