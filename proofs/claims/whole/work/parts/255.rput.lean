section
/-! The reference puts rows together. -/
def rr_G (τ : am_D) (g : Int) : pt_S := ((τ.1 111, τ.1 110), ((τ.1 91 43, τ.1 91 44), (τ.1 91 45, τ.1 112 g)))
def rr_R (g : Int) (σ : am_D) (s : pt_S) (τ : am_D) : Prop := am_only [91, 110, 111, 112] σ τ ∧ am_kpt [43, 44, 45] (σ.1 91) (τ.1 91) ∧ am_kpt [g] (σ.1 112) (τ.1 112) ∧ rr_G τ g = s
theorem rr_R.trans {g : Int} {σ τ υ : am_D} {s t : pt_S} (h : rr_R g σ s τ) (h' : rr_R g τ t υ) : rr_R g σ t υ := ⟨h.1.trans h'.1, h.2.1.trans h'.2.1, h.2.2.1.trans h'.2.2.1, h'.2.2.2⟩
variable {G : am_G} {σ : am_D}
theorem r_adds (d : Nat) {g from' to n : Int} (hn : 0 ≤ n ∧ n ≤ 10000) (h45 : 0 ≤ σ.1 91 45 ∧ σ.1 91 45 ≤ 100000000) (h44 : σ.1 91 45 ≠ 0 → 0 ≤ σ.1 91 44 ∧ σ.1 91 44 < 15000) : am_MV G (d + 1) mX11_adds [am_r (some 91), am_i from', am_i to, am_i n] σ (fun σ' => rr_R g σ (if n = 0 then rr_G σ g else pt_j (rr_G σ g) from' to n) σ') := by
  refine am_M.go (by decide) (Nat.le_of_ble_eq_true rfl) rfl ?_
  refine S_X11_adds_0 (by omega) (fun hz => ?_) (fun hz => ?_)
  rotate_left
  · rw [if_pos (Classical.not_not.mp hz)]
    exact S_X11_adds_4 ⟨am_only.rfl', am_kpt.rfl', am_kpt.rfl', rfl⟩
  rw [if_neg hz]
  have J30 : ∀ τ : am_D, am_only [91, 110, 111, 112] σ τ → am_kpt [43, 44, 45] (σ.1 91) (τ.1 91) → am_kpt [g] (σ.1 112) (τ.1 112) → τ.1 91 45 = σ.1 91 45 → ((τ.1 111, τ.1 110), ((τ.1 91 43, to), (σ.1 91 45 + n, τ.1 112 g))) = pt_j (rr_G σ g) from' to n → am_X (am_FV G (d + 1) (fun σ' => rr_R g σ (pt_j (rr_G σ g) from' to n) σ')) mX11_adds (0, 0) 30 [some (am_r (some 91)), none, some (am_i to), some (am_i n)] [] (am_K0, τ) := by
    intro τ o1 o2 o2' o3 o4
    refine S_X11_adds_30 ?_
    refine S_X11_adds_35 ?_
    refine S_X11_adds_45 ?_
    refine ⟨(o1.trans (am_only.pI (by simp))).trans (am_only.pI (by simp)), ?_, ?_, ?_⟩
    · rw [am_pI_row, am_pI_row]
      exact (o2.trans (am_kpt.u1 (by decide))).trans (am_kpt.u1 (by decide))
    · rw [am_pI_of (by decide), am_pI_of (by decide)]
      exact o2'
    · unfold rr_G
      rw [am_pI_of (show 111 ≠ 91 by decide), am_pI_of (show 111 ≠ 91 by decide), am_pI_of (show 110 ≠ 91 by decide), am_pI_of (show 110 ≠ 91 by decide), am_pI_of (show 112 ≠ 91 by decide), am_pI_of (show 112 ≠ 91 by decide), am_pI_row, am_pI_row, am_u1_ne (show (43 : Int) ≠ 45 by decide), am_u1_ne (show (43 : Int) ≠ 44 by decide), am_u1_ne (show (44 : Int) ≠ 45 by decide), am_u1_eq, am_u1_eq, am_u1_ne (show (45 : Int) ≠ 44 by decide), o3]
      exact o4
  refine S_X11_adds_5 (by omega) (fun z => ?_) (fun z => ?_)
  · have hb := h44 z
    refine S_X11_adds_20 hb.1 hb.2 ?_
    refine J30 _ (am_only.pI (by simp)) (by rw [am_pI_of (by decide)]; exact am_kpt.rfl') (by rw [am_pI_of (by decide)]; exact am_kpt.rfl') (by rw [am_pI_of (by decide)]) ?_
    rw [am_pI_row, am_pI_of (show 110 ≠ 111 by decide), am_pI_of (show 91 ≠ 111 by decide), am_pI_of (show 112 ≠ 111 by decide)]
    unfold pt_j
    rw [if_neg (show ¬ pt_n (rr_G σ g) = 0 from z), if_neg (show ¬ pt_n (rr_G σ g) = 0 from z)]
    rfl
  · have z := Classical.not_not.mp z
    refine S_X11_adds_12 ?_
    refine J30 _ (am_only.pI (by simp)) (by rw [am_pI_row]; exact am_kpt.u1 (by decide)) (by rw [am_pI_of (by decide)]; exact am_kpt.rfl') (by rw [am_pI_row, am_u1_ne (by decide)]) ?_
    rw [am_pI_of (show 111 ≠ 91 by decide), am_pI_of (show 110 ≠ 91 by decide), am_pI_of (show 112 ≠ 91 by decide), am_pI_row, am_u1_eq]
    unfold pt_j
    rw [if_pos (show pt_n (rr_G σ g) = 0 from z), if_pos (show pt_n (rr_G σ g) = 0 from z)]
    rfl
/-- the rows of registers and of the last MARK in the reference -/
def rr_Z (σ : am_D) (g x : Int) : Int × (Int × Int) := if x < 8 then (σ.1 116 (3 * g + (x - 4)), (σ.1 117 (3 * g + (x - 4)), σ.1 118 (3 * g + (x - 4)))) else (σ.1 121 (3 * (260 * g + σ.1 114 g - 1) + (x - 8)), (σ.1 122 (3 * (260 * g + σ.1 114 g - 1) + (x - 8)), σ.1 123 (3 * (260 * g + σ.1 114 g - 1) + (x - 8))))
theorem r_makes (d : Nat) {g s rl r : Int} {w : List Int} (hg : 0 ≤ g ∧ g < 3) (hs : 0 ≤ s ∧ s < 6) (hrl : 0 ≤ rl ∧ rl < 24) (hr : 0 ≤ r ∧ r < 3) (hX : rm_X σ s (3 * rl + r) w) (h97 : σ.1 97 s ≤ 432) (hw : ∀ x ∈ w, 0 ≤ x ∧ x ≤ 10 ∧ x ≠ 7) (hu : 0 ≤ σ.1 112 g ∧ σ.1 112 g + (w.countP (· < 4) : Nat) ≤ 5000) (hdp : ∀ x ∈ w, 8 ≤ x → 1 ≤ σ.1 114 g ∧ σ.1 114 g ≤ 260)
    (hZ : ∀ x ∈ w, 4 ≤ x → (0 ≤ (rr_Z σ g x).2.2 ∧ (rr_Z σ g x).2.2 ≤ 10000) ∧ ((rr_Z σ g x).2.2 ≠ 0 → 0 ≤ (rr_Z σ g x).2.1 ∧ (rr_Z σ g x).2.1 < 15000)) :
    am_MV G (d + 2) mX11_makes [am_r (some 91), am_i g, am_i s, am_i rl, am_i r] σ (fun σ' => rr_R g σ (pt_run (5000 * g) (rr_Z σ g) w ((σ.1 111, σ.1 110), ((σ.1 91 43, σ.1 91 44), (0, σ.1 112 g)))) σ') := by
  obtain ⟨x1, x2, x3, x4⟩ := id hX
  generalize hS : pt_run (5000 * g) (rr_Z σ g) w ((σ.1 111, σ.1 110), ((σ.1 91 43, σ.1 91 44), (0, σ.1 112 g))) = S
  refine am_M.go (by decide) (Nat.le_of_ble_eq_true rfl) rfl ?_
  refine S_X11_makes_0 hg.1 hg.2 ?_
  refine S_X11_makes_16 ?_
  have hr0 : rr_R g σ ((σ.1 111, σ.1 110), ((σ.1 91 43, σ.1 91 44), (0, σ.1 112 g))) (am_pI σ 91 45 0) := by
    refine ⟨am_only.pI (by simp), by rw [am_pI_row]; exact am_kpt.u1 (by decide), by rw [am_pI_of (by decide)]; exact am_kpt.rfl', ?_⟩
    unfold rr_G
    rw [am_pI_of (show 111 ≠ 91 by decide), am_pI_of (show 110 ≠ 91 by decide), am_pI_of (show 112 ≠ 91 by decide), am_pI_row, am_u1_eq, am_u1_ne (by decide), am_u1_ne (by decide)]
  generalize am_pI σ 91 45 0 = τ0 at hr0 ⊢
  have keep : ∀ (τ : am_D) (q : pt_S), rr_R g σ q τ → ∀ a, a ≠ 91 → a ≠ 110 → a ≠ 111 → a ≠ 112 → τ.1 a = σ.1 a := fun τ q h a y1 y2 y3 y4 => h.1.1 a (by simp; omega)
  refine S_X11_makes_21 (by omega) (by omega) ?_
  rw [keep _ _ hr0 103 (by decide) (by decide) (by decide) (by decide), show 72 * s + 3 * rl + r = 72 * s + (3 * rl + r) by omega]
  generalize hb0 : σ.1 103 (72 * s + (3 * rl + r)) = b0 at *
  have loop : ∀ (v pre : List Int) (q : pt_S) (τ : am_D), w = pre ++ v → pt_run (5000 * g) (rr_Z σ g) v q = S → rr_R g σ q τ → 0 ≤ pt_n q ∧ pt_n q ≤ 10000 * pre.length → (pt_n q ≠ 0 → 0 ≤ pt_b q ∧ pt_b q < 15000) → 0 ≤ pt_u q ∧ pt_u q + (v.countP (· < 4) : Nat) ≤ 5000 → am_X (am_FV G (d + 2) (fun σ' => rr_R g σ S σ')) mX11_makes (0, 0) 39 [some (am_r (some 91)), some (am_i g), some (am_i s), some (am_i rl), some (am_i r), some (am_i (260 * g + σ.1 114 g - 1)), some (am_i (b0 + pre.length)), none, none] [] (am_K0, τ) := by
    intro v
    induction v with
    | nil =>
      intro pre q τ hwp hs' hr' _ _ _
      have hl : w.length = pre.length := by rw [hwp, List.append_nil]
      have e4 := keep _ _ hr' 104 (by decide) (by decide) (by decide) (by decide)
      refine S_X11_makes_39 (by omega) (by omega) (by omega) (by rw [e4, show 72 * s + 3 * rl + r = 72 * s + (3 * rl + r) by omega]; omega) (fun _ => ?_) (fun z => absurd (by rw [e4, show 72 * s + 3 * rl + r = 72 * s + (3 * rl + r) by omega]; omega) z)
      have hs' : q = S := hs'
      exact S_X11_makes_216 (hs' ▸ hr')
    | cons x v ih =>
      intro pre q τ hwp hs' hr' hn hb hu'
      have hl : w.length = pre.length + (v.length + 1) := by rw [hwp, List.length_append]; rfl
      have hxw : x ∈ w := by rw [hwp]; exact List.mem_append_right _ List.mem_cons_self
      have hx := hw x hxw
      have e4 := keep _ _ hr' 104 (by decide) (by decide) (by decide) (by decide)
      have e6 := keep _ _ hr' 106 (by decide) (by decide) (by decide) (by decide)
      have hsg : σ.1 106 (600 * s + (b0 + pre.length)) = rx_c x := by
        have := x4 pre.length (by omega)
        rw [← Int.add_assoc, this, hwp, List.getD_eq_getElem?_getD, List.getElem?_append_right (Nat.le_refl _), Nat.sub_self]
        rfl
      have g45 : τ.1 91 45 = pt_n q := by rw [← hr'.2.2.2]; rfl
      have g44 : τ.1 91 44 = pt_b q := by rw [← hr'.2.2.2]; rfl
      have gu : τ.1 112 g = pt_u q := by rw [← hr'.2.2.2]; rfl
      have hs' : pt_run (5000 * g) (rr_Z σ g) v (pt_1 (5000 * g) (rr_Z σ g) x q) = S := hs'
      have hlen1 : ((pre ++ [x]).length : Int) = pre.length + 1 := by rw [List.length_append]; rfl
      have hpre : w = (pre ++ [x]) ++ v := by rw [hwp, List.append_assoc]; rfl
      rw [List.countP_cons] at hu'
      refine S_X11_makes_39 (by omega) (by omega) (by omega) (by rw [e4, show 72 * s + 3 * rl + r = 72 * s + (3 * rl + r) by omega]; omega) (fun z => absurd z (by rw [e4, show 72 * s + 3 * rl + r = 72 * s + (3 * rl + r) by omega]; omega)) (fun _ => ?_)
      refine S_X11_makes_60 (by omega) (by omega) ?_
      rw [e6, hsg]
      have next : ∀ (q' : pt_S) (τ' : am_D), pt_1 (5000 * g) (rr_Z σ g) x q = q' → rr_R g σ q' τ' → 0 ≤ pt_n q' ∧ pt_n q' ≤ 10000 * (pre.length + 1) → (pt_n q' ≠ 0 → 0 ≤ pt_b q' ∧ pt_b q' < 15000) → 0 ≤ pt_u q' ∧ pt_u q' + (v.countP (· < 4) : Nat) ≤ 5000 → am_X (am_FV G (d + 2) (fun σ' => rr_R g σ S σ')) mX11_makes (0, 0) 210 [some (am_r (some 91)), some (am_i g), some (am_i s), some (am_i rl), some (am_i r), some (am_i (260 * g + σ.1 114 g - 1)), some (am_i (b0 + pre.length)), none, none] [] (am_K0, τ') := by
        intro q' τ' e1 r1 n1 b1 u1
        refine S_X11_makes_210 ?_
        have := ih (pre ++ [x]) q' τ' hpre (by rw [← e1]; exact hs') r1 (by omega) b1 u1
        rw [hlen1, ← Int.add_assoc] at this
        exact this
      -- a row comes behind
      have row : ∀ (τ' : am_D) (Zx : Int × (Int × Int)), 4 ≤ x → rr_Z σ g x = Zx → rr_R g τ (if Zx.2.2 = 0 then rr_G τ g else pt_j (rr_G τ g) Zx.1 Zx.2.1 Zx.2.2) τ' → am_X (am_FV G (d + 2) (fun σ' => rr_R g σ S σ')) mX11_makes (0, 0) 210 [some (am_r (some 91)), some (am_i g), some (am_i s), some (am_i rl), some (am_i r), some (am_i (260 * g + σ.1 114 g - 1)), some (am_i (b0 + pre.length)), none, none] [] (am_K0, τ') := by
        intro τ' Zx h4 hZx hj
        obtain ⟨hz1, hz2⟩ := hZ x hxw h4
        rw [hZx] at hz1 hz2
        rw [hr'.2.2.2] at hj
        have hu2 : 0 ≤ pt_u q ∧ pt_u q + (v.countP (· < 4) : Nat) ≤ 5000 := by rw [if_neg (by simp; omega)] at hu'; exact hu'
        refine next _ τ' ?_ (hr'.trans hj) ?_ ?_ ?_
        · unfold pt_1
          rw [if_neg (by omega), hZx]
        · by_cases z : Zx.2.2 = 0
          · rw [if_pos z]; omega
          · rw [if_neg z]; show 0 ≤ pt_n q + Zx.2.2 ∧ pt_n q + Zx.2.2 ≤ _; omega
        · by_cases z : Zx.2.2 = 0
          · rw [if_pos z]; exact hb
          · rw [if_neg z]; intro _; exact hz2 z
        · by_cases z : Zx.2.2 = 0
          · rw [if_pos z]; exact hu2
          · rw [if_neg z]; exact hu2
      have hrc : rx_c x = if x < 4 then x else if x < 8 then x + 6 else x + 12 := rfl
      by_cases z4 : x < 4
      · rw [if_pos z4] at hrc
        rw [if_pos (by simpa using z4)] at hu'
        rw [hrc]
        refine S_X11_makes_75 (by omega) (fun _ => ?_) (fun z => absurd (by omega) z)
        refine S_X11_makes_122 (by omega) (fun _ => ?_) (fun z => absurd (by omega) z)
        refine S_X11_makes_168 hg.1 hg.2 ?_
        rw [gu]
        refine S_X11_makes_182 hg.1 hg.2 hg.1 hg.2 ?_
        rw [gu]
        refine S_X11_makes_192 (by omega) (by omega) ?_
        have f0 : ∀ b, b ≠ 110 → b ≠ 112 → (am_pI (am_pI τ 112 g (pt_u q + 1)) 110 (5000 * g + pt_u q) x).1 b = τ.1 b := fun b y1 y2 => by rw [am_pI_of y1, am_pI_of y2]
        have f110 : (am_pI (am_pI τ 112 g (pt_u q + 1)) 110 (5000 * g + pt_u q) x).1 110 = am_u1 (τ.1 110) (5000 * g + pt_u q) x := by rw [am_pI_row, am_pI_of (by decide)]
        have f112 : (am_pI (am_pI τ 112 g (pt_u q + 1)) 110 (5000 * g + pt_u q) x).1 112 = am_u1 (τ.1 112) g (pt_u q + 1) := by rw [am_pI_of (by decide), am_pI_row]
        have fo : am_only [91, 110, 111, 112] τ (am_pI (am_pI τ 112 g (pt_u q + 1)) 110 (5000 * g + pt_u q) x) := (am_only.pI (by simp)).trans (am_only.pI (by simp))
        generalize am_pI (am_pI τ 112 g (pt_u q + 1)) 110 (5000 * g + pt_u q) x = τ1 at f0 f110 f112 fo ⊢
        have gG : rr_G τ1 g = pt_inc (pt_new (5000 * g) q x) := by
          unfold rr_G
          rw [f0 111 (by decide) (by decide), f0 91 (by decide) (by decide), f110, f112, am_u1_eq]
          unfold pt_inc pt_new
          rw [← hr'.2.2.2]
          rfl
        refine S_X11_makes_201 (r_adds (g := g) _ (by omega) (by rw [f0 91 (by decide) (by decide)]; omega) (by rw [f0 91 (by decide) (by decide), g45, g44]; exact hb)) ?_
        intro τ' hj
        rw [if_neg (by decide), gG] at hj
        refine next _ τ' ?_ ⟨(hr'.1.trans fo).trans hj.1, ?_, ?_, hj.2.2.2⟩ ?_ ?_ ?_
        · unfold pt_1
          rw [if_pos z4]
          rfl
        · have := hj.2.1
          rw [f0 91 (by decide) (by decide)] at this
          exact hr'.2.1.trans this
        · have := hj.2.2.1
          rw [f112] at this
          exact (hr'.2.2.1.trans (am_kpt.u1 (by simp))).trans this
        · show 0 ≤ pt_n q + 1 ∧ pt_n q + 1 ≤ _
          omega
        · intro _
          show 0 ≤ 5000 * g + pt_u q ∧ 5000 * g + pt_u q < 15000
          omega
        · show 0 ≤ pt_u q + 1 ∧ pt_u q + 1 + _ ≤ _
          omega
      · rw [if_neg z4] at hrc
        obtain ⟨hz1, hz2⟩ := hZ x hxw (by omega)
        by_cases z8 : x < 8
        · rw [if_pos z8] at hrc
          have hZe : rr_Z σ g x = (σ.1 116 (3 * g + (x - 4)), (σ.1 117 (3 * g + (x - 4)), σ.1 118 (3 * g + (x - 4)))) := if_pos z8
          rw [hZe] at hz1
          rw [hrc]
          refine S_X11_makes_75 (by omega) (fun _ => ?_) (fun z => absurd (by omega) z)
          refine S_X11_makes_122 (by omega) (fun z => absurd z (by omega)) (fun _ => ?_)
          refine S_X11_makes_129 ?_
          rw [show 3 * g + (x + 6) - 10 = 3 * g + (x - 4) by omega]
          have a6 := keep _ _ hr' 116 (by decide) (by decide) (by decide) (by decide)
          have a7 := keep _ _ hr' 117 (by decide) (by decide) (by decide) (by decide)
          have a8 := keep _ _ hr' 118 (by decide) (by decide) (by decide) (by decide)
          refine S_X11_makes_140 (by omega) (by omega) (by omega) (by omega) (by omega) (by omega) (r_adds (g := g) _ (by rw [a8]; exact hz1) (by omega) (by rw [g45, g44]; exact hb)) ?_
          intro τ' hj
          refine S_X11_makes_165 ?_
          rw [a6, a7, a8] at hj
          exact row τ' _ (by omega) hZe hj
        · rw [if_neg z8] at hrc
          have hdp' := hdp x hxw (by omega)
          have hZe : rr_Z σ g x = (σ.1 121 (3 * (260 * g + σ.1 114 g - 1) + (x - 8)), (σ.1 122 (3 * (260 * g + σ.1 114 g - 1) + (x - 8)), σ.1 123 (3 * (260 * g + σ.1 114 g - 1) + (x - 8)))) := if_neg z8
          rw [hZe] at hz1
          rw [hrc]
          refine S_X11_makes_75 (by omega) (fun z => absurd z (by omega)) (fun _ => ?_)
          refine S_X11_makes_82 ?_
          rw [show 3 * (260 * g + σ.1 114 g - 1) + (x + 12) - 20 = 3 * (260 * g + σ.1 114 g - 1) + (x - 8) by omega]
          have a6 := keep _ _ hr' 121 (by decide) (by decide) (by decide) (by decide)
          have a7 := keep _ _ hr' 122 (by decide) (by decide) (by decide) (by decide)
          have a8 := keep _ _ hr' 123 (by decide) (by decide) (by decide) (by decide)
          refine S_X11_makes_94 (by omega) (by omega) (by omega) (by omega) (by omega) (by omega) (r_adds (g := g) _ (by rw [a8]; exact hz1) (by omega) (by rw [g45, g44]; exact hb)) ?_
          intro τ' hj
          refine S_X11_makes_119 ?_
          rw [a6, a7, a8] at hj
          exact row τ' _ (by omega) hZe hj
  have := loop w [] _ τ0 rfl hS hr0 ⟨Int.le_refl _, by show (0 : Int) ≤ 10000 * ((0 : Nat) : Int); omega⟩ (fun z => absurd rfl z) hu
  rw [show b0 + (([] : List Int).length : Int) = b0 from Int.add_zero _] at this
  exact this
end
