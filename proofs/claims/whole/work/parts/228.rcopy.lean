section
def rm_sz (a : Nat) : Int := if a ≤ 97 then 1 else if a ≤ 99 then 18 else if a ≤ 101 then 108 else if a = 102 then 6 else if a ≤ 104 then 72 else if a = 105 then 24 else 600
abbrev rm_B : List Nat := [93, 94, 95, 96, 97, 98, 99, 100, 101, 102, 103, 104, 105, 106]
/-- rows of slot f are copied to slot t, so far -/
def rm_K (σ : am_D) (f t : Int) (pr : Nat → Int) (τ : am_D) : Prop := am_only rm_B σ τ ∧ τ.1 93 = σ.1 93 ∧ ∀ a, 94 ≤ a → a ≤ 106 → ∀ i, τ.1 a i = if rm_sz a * t ≤ i ∧ i < rm_sz a * t + pr a then σ.1 a (i - rm_sz a * t + rm_sz a * f) else σ.1 a i
def rm_pr (x1 x2 x3 x4 x5 x6 : Int) (a : Nat) : Int := if a ≤ 97 then 1 else if a ≤ 99 then x1 else if a ≤ 101 then x2 else if a = 102 then x3 else if a ≤ 104 then x4 else if a = 105 then x5 else x6
theorem rm_K.cong {σ τ : am_D} {f t : Int} {pr pr' : Nat → Int} (e : ∀ a, 94 ≤ a → a ≤ 106 → pr a = pr' a) (h : rm_K σ f t pr τ) : rm_K σ f t pr' τ := ⟨h.1, h.2.1, fun a h1 h2 i => by rw [← e a h1 h2]; exact h.2.2 a h1 h2 i⟩
theorem rm_B_mem {a : Nat} (h : 94 ≤ a ∧ a ≤ 106) : a ∈ rm_B := by simp; omega
theorem rm_K.step {σ τ : am_D} {f t : Int} {pr : Nat → Int} {a : Nat} {i X Y : Int} (h : rm_K σ f t pr τ) (ha : 94 ≤ a ∧ a ≤ 106) (hp : pr a = i) (h0 : 0 ≤ i) (hi : i < rm_sz a) (hd : rm_sz a * t + rm_sz a ≤ rm_sz a * f ∨ rm_sz a * f + rm_sz a ≤ rm_sz a * t) (hX : X = rm_sz a * t + i) (hY : Y = rm_sz a * f + i) : rm_K σ f t (fun b => if b = a then i + 1 else pr b) (am_pI τ a X (τ.1 a Y)) := by
  refine ⟨h.1.trans (am_only.pI (rm_B_mem ha)), by rw [am_pI_of (by omega)]; exact h.2.1, fun b h1 h2 j => ?_⟩
  generalize hv : (fun b => if b = a then i + 1 else pr b) b = v
  have hv : (if b = a then i + 1 else pr b) = v := hv
  by_cases e : b = a
  · subst e
    rw [if_pos rfl] at hv
    subst hv
    have hj := h.2.2 b h1 h2 j
    have hY2 := h.2.2 b h1 h2 Y
    rw [hp] at hj hY2
    generalize rm_sz b * t = T at *
    generalize rm_sz b * f = F at *
    by_cases z : j = X
    · rw [z, am_pI_at, hY2, if_neg (by omega), if_pos (by omega), show X - T + F = Y by omega]
    · rw [am_pI_nj z, hj]
      by_cases y : T ≤ j ∧ j < T + i
      · rw [if_pos y, if_pos (by omega)]
      · rw [if_neg y, if_neg (by omega)]
  · rw [if_neg e] at hv
    subst hv
    rw [am_pI_of e]
    exact h.2.2 b h1 h2 j
/-- slot t is as slot f was, all else stays -/
def rm_C (σ : am_D) (f t : Int) (τ : am_D) : Prop := am_only rm_B σ τ ∧ τ.1 93 = am_u1 (σ.1 93) t 1 ∧ ∀ a, 94 ≤ a → a ≤ 106 → ∀ i, τ.1 a i = if rm_sz a * t ≤ i ∧ i < rm_sz a * t + rm_sz a then σ.1 a (i - rm_sz a * t + rm_sz a * f) else σ.1 a i
variable {G : am_G} {σ : am_D}
theorem c_rCopies (d : Nat) {f t : Int} (hf : 0 ≤ f ∧ f < 6) (ht : 0 ≤ t ∧ t < 6) (hne : f ≠ t) : am_MV G (d + 1) mX11_copies [am_r (some 91), am_i f, am_i t] σ (fun σ' => rm_C σ f t σ') := by
  refine am_M.go (by decide) (Nat.le_of_ble_eq_true rfl) rfl ?_
  have L6 : ∀ (m : Nat) (i : Int) (τ : am_D), 0 ≤ i → i ≤ 600 → 600 - i < m → rm_K σ f t (rm_pr 18 108 6 72 24 i) τ → am_X (am_FV G (d + 1) (fun σ' => rm_C σ f t σ')) mX11_copies (0, 0) 296 [some (am_r (some 91)), some (am_i f), some (am_i t), some (am_i i)] [] (am_K0, τ) := by
    intro m
    induction m with
    | zero => intro i τ h1 h2 h3; omega
    | succ m ih =>
      intro i τ h1 h2 h3 hK
      refine S_X11_copies_296 (by omega) (fun z => ?_) (fun z => ?_)
      · have z : i = 600 := by omega
        subst z
        refine S_X11_copies_333 (by omega) (by omega) ?_
        refine S_X11_copies_340 ?_
        refine ⟨hK.1.trans (am_only.pI (by simp)), by rw [am_pI_row, hK.2.1], fun a y1 y2 j => ?_⟩
        rw [am_pI_of (by omega), hK.2.2 a y1 y2 j]
        rw [show rm_pr 18 108 6 72 24 600 a = rm_sz a from rfl]
      · refine S_X11_copies_303 (by omega) (by omega) (by omega) (by omega) ?_
        refine S_X11_copies_327 ?_
        refine ih (i + 1) _ (by omega) (by omega) (by omega) ?_
        have hK0 := hK.step (a := 106) (i := i) (X := 600 * t + i) (Y := 600 * f + i) (by decide) rfl h1 (show i < 600 by omega) (show 600 * t + 600 ≤ 600 * f ∨ 600 * f + 600 ≤ 600 * t by omega) rfl rfl
        refine hK0.cong (fun a y1 y2 => ?_)
        simp only [rm_pr]
        repeat' split
        all_goals omega
  have L5 : ∀ (m : Nat) (i : Int) (τ : am_D), 0 ≤ i → i ≤ 24 → 24 - i < m → rm_K σ f t (rm_pr 18 108 6 72 i 0) τ → am_X (am_FV G (d + 1) (fun σ' => rm_C σ f t σ')) mX11_copies (0, 0) 260 [some (am_r (some 91)), some (am_i f), some (am_i t), some (am_i i)] [] (am_K0, τ) := by
    intro m
    induction m with
    | zero => intro i τ h1 h2 h3; omega
    | succ m ih =>
      intro i τ h1 h2 h3 hK
      refine S_X11_copies_260 (by omega) (fun z => ?_) (fun z => ?_)
      · have z : i = 24 := by omega
        subst z
        refine S_X11_copies_294 ?_
        exact L6 601 0 τ (by omega) (by omega) (by omega) hK
      · refine S_X11_copies_266 (by omega) (by omega) (by omega) (by omega) ?_
        refine S_X11_copies_288 ?_
        refine ih (i + 1) _ (by omega) (by omega) (by omega) ?_
        have hK0 := hK.step (a := 105) (i := i) (X := 24 * t + i) (Y := 24 * f + i) (by decide) rfl h1 (show i < 24 by omega) (show 24 * t + 24 ≤ 24 * f ∨ 24 * f + 24 ≤ 24 * t by omega) rfl rfl
        refine hK0.cong (fun a y1 y2 => ?_)
        simp only [rm_pr]
        repeat' split
        all_goals omega
  have L4 : ∀ (m : Nat) (i : Int) (τ : am_D), 0 ≤ i → i ≤ 72 → 72 - i < m → rm_K σ f t (rm_pr 18 108 6 i 0 0) τ → am_X (am_FV G (d + 1) (fun σ' => rm_C σ f t σ')) mX11_copies (0, 0) 202 [some (am_r (some 91)), some (am_i f), some (am_i t), some (am_i i)] [] (am_K0, τ) := by
    intro m
    induction m with
    | zero => intro i τ h1 h2 h3; omega
    | succ m ih =>
      intro i τ h1 h2 h3 hK
      refine S_X11_copies_202 (by omega) (fun z => ?_) (fun z => ?_)
      · have z : i = 72 := by omega
        subst z
        refine S_X11_copies_258 ?_
        exact L5 25 0 τ (by omega) (by omega) (by omega) hK
      · refine S_X11_copies_208 (by omega) (by omega) (by omega) (by omega) ?_
        refine S_X11_copies_230 (by omega) (by omega) (by omega) (by omega) ?_
        refine S_X11_copies_252 ?_
        refine ih (i + 1) _ (by omega) (by omega) (by omega) ?_
        have hK0 := hK.step (a := 103) (i := i) (X := 72 * t + i) (Y := 72 * f + i) (by decide) rfl h1 (show i < 72 by omega) (show 72 * t + 72 ≤ 72 * f ∨ 72 * f + 72 ≤ 72 * t by omega) rfl rfl
        have hK1 := hK0.step (a := 104) (i := i) (X := 72 * t + i) (Y := 72 * f + i) (by decide) rfl h1 (show i < 72 by omega) (show 72 * t + 72 ≤ 72 * f ∨ 72 * f + 72 ≤ 72 * t by omega) rfl rfl
        refine hK1.cong (fun a y1 y2 => ?_)
        simp only [rm_pr]
        repeat' split
        all_goals omega
  have L3 : ∀ (m : Nat) (i : Int) (τ : am_D), 0 ≤ i → i ≤ 6 → 6 - i < m → rm_K σ f t (rm_pr 18 108 i 0 0 0) τ → am_X (am_FV G (d + 1) (fun σ' => rm_C σ f t σ')) mX11_copies (0, 0) 166 [some (am_r (some 91)), some (am_i f), some (am_i t), some (am_i i)] [] (am_K0, τ) := by
    intro m
    induction m with
    | zero => intro i τ h1 h2 h3; omega
    | succ m ih =>
      intro i τ h1 h2 h3 hK
      refine S_X11_copies_166 (by omega) (fun z => ?_) (fun z => ?_)
      · have z : i = 6 := by omega
        subst z
        refine S_X11_copies_200 ?_
        exact L4 73 0 τ (by omega) (by omega) (by omega) hK
      · refine S_X11_copies_172 (by omega) (by omega) (by omega) (by omega) ?_
        refine S_X11_copies_194 ?_
        refine ih (i + 1) _ (by omega) (by omega) (by omega) ?_
        have hK0 := hK.step (a := 102) (i := i) (X := 6 * t + i) (Y := 6 * f + i) (by decide) rfl h1 (show i < 6 by omega) (show 6 * t + 6 ≤ 6 * f ∨ 6 * f + 6 ≤ 6 * t by omega) rfl rfl
        refine hK0.cong (fun a y1 y2 => ?_)
        simp only [rm_pr]
        repeat' split
        all_goals omega
  have L2 : ∀ (m : Nat) (i : Int) (τ : am_D), 0 ≤ i → i ≤ 108 → 108 - i < m → rm_K σ f t (rm_pr 18 i 0 0 0 0) τ → am_X (am_FV G (d + 1) (fun σ' => rm_C σ f t σ')) mX11_copies (0, 0) 108 [some (am_r (some 91)), some (am_i f), some (am_i t), some (am_i i)] [] (am_K0, τ) := by
    intro m
    induction m with
    | zero => intro i τ h1 h2 h3; omega
    | succ m ih =>
      intro i τ h1 h2 h3 hK
      refine S_X11_copies_108 (by omega) (fun z => ?_) (fun z => ?_)
      · have z : i = 108 := by omega
        subst z
        refine S_X11_copies_164 ?_
        exact L3 7 0 τ (by omega) (by omega) (by omega) hK
      · refine S_X11_copies_114 (by omega) (by omega) (by omega) (by omega) ?_
        refine S_X11_copies_136 (by omega) (by omega) (by omega) (by omega) ?_
        refine S_X11_copies_158 ?_
        refine ih (i + 1) _ (by omega) (by omega) (by omega) ?_
        have hK0 := hK.step (a := 100) (i := i) (X := 108 * t + i) (Y := 108 * f + i) (by decide) rfl h1 (show i < 108 by omega) (show 108 * t + 108 ≤ 108 * f ∨ 108 * f + 108 ≤ 108 * t by omega) rfl rfl
        have hK1 := hK0.step (a := 101) (i := i) (X := 108 * t + i) (Y := 108 * f + i) (by decide) rfl h1 (show i < 108 by omega) (show 108 * t + 108 ≤ 108 * f ∨ 108 * f + 108 ≤ 108 * t by omega) rfl rfl
        refine hK1.cong (fun a y1 y2 => ?_)
        simp only [rm_pr]
        repeat' split
        all_goals omega
  have L1 : ∀ (m : Nat) (i : Int) (τ : am_D), 0 ≤ i → i ≤ 18 → 18 - i < m → rm_K σ f t (rm_pr i 0 0 0 0 0) τ → am_X (am_FV G (d + 1) (fun σ' => rm_C σ f t σ')) mX11_copies (0, 0) 50 [some (am_r (some 91)), some (am_i f), some (am_i t), some (am_i i)] [] (am_K0, τ) := by
    intro m
    induction m with
    | zero => intro i τ h1 h2 h3; omega
    | succ m ih =>
      intro i τ h1 h2 h3 hK
      refine S_X11_copies_50 (by omega) (fun z => ?_) (fun z => ?_)
      · have z : i = 18 := by omega
        subst z
        refine S_X11_copies_106 ?_
        exact L2 109 0 τ (by omega) (by omega) (by omega) hK
      · refine S_X11_copies_56 (by omega) (by omega) (by omega) (by omega) ?_
        refine S_X11_copies_78 (by omega) (by omega) (by omega) (by omega) ?_
        refine S_X11_copies_100 ?_
        refine ih (i + 1) _ (by omega) (by omega) (by omega) ?_
        have hK0 := hK.step (a := 98) (i := i) (X := 18 * t + i) (Y := 18 * f + i) (by decide) rfl h1 (show i < 18 by omega) (show 18 * t + 18 ≤ 18 * f ∨ 18 * f + 18 ≤ 18 * t by omega) rfl rfl
        have hK1 := hK0.step (a := 99) (i := i) (X := 18 * t + i) (Y := 18 * f + i) (by decide) rfl h1 (show i < 18 by omega) (show 18 * t + 18 ≤ 18 * f ∨ 18 * f + 18 ≤ 18 * t by omega) rfl rfl
        refine hK1.cong (fun a y1 y2 => ?_)
        simp only [rm_pr]
        repeat' split
        all_goals omega
  have K0 : rm_K σ f t (fun _ => 0) σ := ⟨am_only.rfl', rfl, fun a y1 y2 i => by dsimp only; rw [if_neg (by omega)]⟩
  have K1 := K0.step (a := 94) (i := 0) (X := t) (Y := f) (by decide) rfl (by omega) (show (0 : Int) < 1 by omega) (show 1 * t + 1 ≤ 1 * f ∨ 1 * f + 1 ≤ 1 * t by omega) (show t = 1 * t + 0 by omega) (show f = 1 * f + 0 by omega)
  have K2 := K1.step (a := 95) (i := 0) (X := t) (Y := f) (by decide) rfl (by omega) (show (0 : Int) < 1 by omega) (show 1 * t + 1 ≤ 1 * f ∨ 1 * f + 1 ≤ 1 * t by omega) (show t = 1 * t + 0 by omega) (show f = 1 * f + 0 by omega)
  have K3 := K2.step (a := 96) (i := 0) (X := t) (Y := f) (by decide) rfl (by omega) (show (0 : Int) < 1 by omega) (show 1 * t + 1 ≤ 1 * f ∨ 1 * f + 1 ≤ 1 * t by omega) (show t = 1 * t + 0 by omega) (show f = 1 * f + 0 by omega)
  have K4 := K3.step (a := 97) (i := 0) (X := t) (Y := f) (by decide) rfl (by omega) (show (0 : Int) < 1 by omega) (show 1 * t + 1 ≤ 1 * f ∨ 1 * f + 1 ≤ 1 * t by omega) (show t = 1 * t + 0 by omega) (show f = 1 * f + 0 by omega)
  refine S_X11_copies_0 (by omega) (by omega) (by omega) (by omega) ?_
  refine S_X11_copies_12 (by omega) (by omega) (by omega) (by omega) ?_
  refine S_X11_copies_24 (by omega) (by omega) (by omega) (by omega) ?_
  refine S_X11_copies_36 (by omega) (by omega) (by omega) (by omega) ?_
  refine S_X11_copies_48 ?_
  refine L1 19 0 _ (by omega) (by omega) (by omega) (K4.cong (fun a y1 y2 => ?_))
  simp only [rm_pr]
  repeat' split
  all_goals omega
end
