section
/-! The class's Safety: what is found. -/
theorem nd_le : ∀ (n : Nat) (l : List Nat), l.Nodup → (∀ x ∈ l, x < n) → l.length ≤ n := by
  intro n
  induction n with
  | zero =>
    intro l _ h
    cases l with
    | nil => exact Nat.le_refl _
    | cons a l => exact absurd (h a List.mem_cons_self) (Nat.not_lt_zero _)
  | succ n ih =>
    intro l hd h
    by_cases z : n ∈ l
    · have h1 := ih (l.erase n) (hd.erase n) (fun x hx => by
        have hx := (hd.mem_erase_iff).mp hx
        have := h x hx.2
        have := hx.1
        omega)
      rw [List.length_erase_of_mem z] at h1
      omega
    · have := ih l hd (fun x hx => by
        have := h x hx
        have : x ≠ n := fun e => z (e ▸ hx)
        omega)
      omega
theorem sv_nd {F : List sv_S} (hd : F.Nodup) (hok : ∀ x ∈ F, sv_ok x) : F.length ≤ 729 := by
  have h1 : (F.map (fun x => (sv_r x).toNat)).Nodup := by
    refine List.pairwise_map.mpr (List.Pairwise.imp_of_mem (fun {a b} ha hb hab e => hab ?_) hd)
    have e1 := sv_r_rg (hok a ha)
    have e2 := sv_r_rg (hok b hb)
    have e3 : sv_r a = sv_r b := by
      have e : (sv_r a).toNat = (sv_r b).toNat := e
      omega
    rw [← sv_d_r (hok a ha), ← sv_d_r (hok b hb), e3]
  have := nd_le 729 _ h1 (fun x hx => by
    obtain ⟨y, hy, rfl⟩ := List.mem_map.mp hx
    have := sv_r_rg (hok y hy)
    omega)
  rwa [List.length_map] at this
/-- what is found is F -/
def cn_I (P Q : am_P) (τ : am_D) (F : List sv_S) : Prop := (τ.1 31 3 = F.length ∧ am_isL (τ.1 36) (F.map sv_c)) ∧ (∀ c : Int, 0 ≤ c → c < 4096 → τ.1 35 c = if c ∈ F.map sv_c then 1 else 0) ∧ F.Nodup ∧ ∀ x ∈ F, sv_ok x ∧ sv_C P Q x
theorem cn_I.of {P Q : am_P} {σ τ : am_D} {F : List sv_S} (h : cn_I P Q σ F) (e1 : τ.1 31 3 = σ.1 31 3) (e2 : τ.1 36 = σ.1 36) (e3 : τ.1 35 = σ.1 35) : cn_I P Q τ F := ⟨⟨by rw [e1]; exact h.1.1, by rw [e2]; exact h.1.2⟩, by rw [e3]; exact h.2.1, h.2.2⟩
theorem cn_I.le {P Q : am_P} {σ : am_D} {F : List sv_S} (h : cn_I P Q σ F) : F.length ≤ 729 := sv_nd h.2.2.1 (fun x hx => (h.2.2.2 x hx).1)
/-- the two MACHINES, and the tables of kinds -/
def cn_M (τ : am_D) (m1 m2 : Nat) (P Q : am_P) : Prop := (τ.2.2 31 10 = some m1 ∧ τ.2.2 31 11 = some m2) ∧ (cd_M τ m1 P ∧ cd_M τ m2 Q) ∧ sv_m P Q ∧ sk_J (τ.1 33) ∧ sk_A (τ.1 34) Q
abbrev cn_F : List Nat := [31, 35, 36, 37, 38, 39, 40, 41, 42]
theorem cn_M.f {σ τ : am_D} {m1 m2 : Nat} {P Q : am_P} (h : cn_M σ m1 m2 P Q) (hf : am_only cn_F σ τ) : cn_M τ m1 m2 P Q := by
  have k1 := h.2.1.1.1.1
  have k2 := h.2.1.2.1.1
  exact ⟨⟨by rw [hf.2]; exact h.1.1, by rw [hf.2]; exact h.1.2⟩, ⟨cd_M_of (fun b y1 y2 => hf.1 b (by simp; omega)) h.2.1.1, cd_M_of (fun b y1 y2 => hf.1 b (by simp; omega)) h.2.1.2⟩, h.2.2.1, by rw [hf.1 33 (by decide)]; exact h.2.2.2.1, by rw [hf.1 34 (by decide)]; exact h.2.2.2.2⟩
variable {G : am_G} {σ : am_D}
theorem c_beginOf (d : Nat) {x : sv_S} (hx : sv_ok x) : am_MI G (d + 1) mX4_beginOf [am_i (sv_c x)] σ (fun y σ' => y = x.1.1 ∧ σ = σ') := by
  obtain ⟨h1, h2, -⟩ := sv_c_rg hx
  refine am_M.go (by decide) (Nat.le_of_ble_eq_true rfl) rfl ?_
  refine S_X4_beginOf_0 ⟨?_, rfl⟩
  rw [show am_shr (sv_c x) 10 = sv_c x / 1024 from am_shr_v (x := sv_c x) 10 (by omega) (by omega)]
  exact h2
theorem c_stateOf (d : Nat) {x : sv_S} (hx : sv_ok x) : am_MI G (d + 1) mX4_stateOf [am_i (sv_c x)] σ (fun y σ' => y = x.1.2 ∧ σ = σ') := by
  obtain ⟨h1, -, h3, -⟩ := sv_c_rg hx
  refine am_M.go (by decide) (Nat.le_of_ble_eq_true rfl) rfl ?_
  refine S_X4_stateOf_0 ⟨?_, rfl⟩
  rw [am_and_3, show am_shr (sv_c x) 8 = sv_c x / 256 from am_shr_v (x := sv_c x) 8 (by omega) (by omega)]
  exact h3
/-- what a step may change -/
def cn_f (σ τ : am_D) : Prop := am_only [31, 35, 36, 41, 42] σ τ ∧ am_kpt [3] (σ.1 31) (τ.1 31)
theorem cn_f.rfl' {σ : am_D} : cn_f σ σ := ⟨am_only.rfl', am_kpt.rfl'⟩
theorem cn_f.trans {σ τ υ : am_D} (h : cn_f σ τ) (h' : cn_f τ υ) : cn_f σ υ := ⟨h.1.trans h'.1, h.2.trans h'.2⟩
theorem am_only.cn {σ τ : am_D} (h : am_only [41, 42] σ τ) : cn_f σ τ := ⟨h.sub (by decide), by rw [h.1 31 (by decide)]; exact am_kpt.rfl'⟩
theorem c_note (d : Nat) {P Q : am_P} {F : List sv_S} {x : sv_S} {g : Int} (hg : g = sk_c x.2.1 + sk_c x.2.2 * 16) (hI : cn_I P Q σ F) (hx : sv_ok x) (hC : sv_C P Q x) : am_MV G (d + 2) mX4_note [am_r (some 31), am_i x.1.1, am_i x.1.2, am_i g] σ (fun σ' => ∃ F', cn_I P Q σ' F' ∧ F <+: F' ∧ x ∈ F' ∧ cn_f σ σ') := by
  subst hg
  obtain ⟨h1, -⟩ := sv_c_rg hx
  have g1 := hx.1
  have g2 := hx.2.1
  obtain ⟨⟨i1, i2⟩, i3, i4, i5⟩ := id hI
  have hle := hI.le
  refine am_M.go (by decide) (Nat.le_of_ble_eq_true rfl) rfl ?_
  refine S_X4_note_0 ?_
  rw [show am_shl x.1.1 10 = x.1.1 * 1024 from am_shl_v (x := x.1.1) 10 (by omega) (by omega) (by show x.1.1 * 1024 < _; omega), show am_shl x.1.2 8 = x.1.2 * 256 from am_shl_v (x := x.1.2) 8 (by omega) (by omega) (by show x.1.2 * 256 < _; omega)]
  change am_X _ _ _ _ [some (am_r (some 31)), none, none, none, some (am_i (sv_c x))] _ _
  refine S_X4_note_13 (by omega) (fun z => absurd z (by omega)) (fun _ => ?_)
  refine S_X4_note_18 (by omega) (fun z => absurd z (by omega)) (fun _ => ?_)
  have hk := i3 (sv_c x) h1.1 h1.2
  refine S_X4_note_28 h1.1 h1.2 (by rw [hk]; split <;> omega) (fun z => ?_) (fun z => ?_)
  · rw [hk] at z
    refine S_X4_note_69 ⟨F, hI, List.prefix_refl F, ?_, cn_f.rfl'⟩
    by_cases w : sv_c x ∈ F.map sv_c
    · obtain ⟨y, hy, e⟩ := List.mem_map.mp w
      rw [← sv_c_inj (i5 y hy).1 hx e]; exact hy
    · rw [if_neg w] at z; exact absurd rfl z
  · have z := Classical.not_not.mp z
    rw [hk] at z
    have w : sv_c x ∉ F.map sv_c := by
      intro w
      rw [if_pos w] at z
      exact absurd z (by decide)
    have hxF : x ∉ F := fun y => w (List.mem_map.mpr ⟨x, y, rfl⟩)
    have hnd : (F ++ [x]).Nodup := by
      refine List.nodup_append.mpr ⟨i4, by simp, fun a ha b hb e => ?_⟩
      rw [List.mem_singleton.mp hb] at e
      exact hxF (e ▸ ha)
    have hall : ∀ y ∈ F ++ [x], sv_ok y ∧ sv_C P Q y := fun y hy => by
      rcases List.mem_append.mp hy with hy | hy
      · exact i5 y hy
      · rw [List.mem_singleton.mp hy]; exact ⟨hx, hC⟩
    have h729 := sv_nd hnd (fun y hy => (hall y hy).1)
    rw [List.length_append] at h729
    have h729 : F.length + 1 ≤ 729 := h729
    refine S_X4_note_38 h1.1 h1.2 ?_
    have e31 : (am_pI σ 35 (sv_c x) 1).1 31 3 = F.length := by rw [am_pI_of (by decide)]; exact i1
    refine S_X4_note_46 (c_put _ sh_36 (by rw [e31]; omega)) ?_
    intro τ hτ
    rw [if_pos (by rw [e31]; omega), e31] at hτ
    subst hτ
    have e31' : (am_pI (am_pI σ 35 (sv_c x) 1) 36 F.length (sv_c x)).1 31 3 = F.length := by rw [am_pI_of (by decide)]; exact e31
    refine S_X4_note_59 (S_X4_note_69 ⟨F ++ [x], ⟨⟨?_, ?_⟩, ?_, hnd, hall⟩, List.prefix_append F [x], by simp, ?_, ?_⟩)
    · rw [am_pI_at, e31', List.length_append]; rfl
    · rw [am_pI_of (by decide), am_pI_row, am_pI_of (by decide), List.map_append]
      have := i2.snoc (x := sv_c x)
      rw [List.length_map] at this
      exact this
    · intro c c0 c1
      rw [am_pI_of (by decide), am_pI_of (by decide), am_pI_row, List.map_append]
      by_cases e : c = sv_c x
      · rw [e, am_u1_eq, if_pos (by simp)]
      · rw [am_u1_ne e, i3 c c0 c1]
        by_cases y : c ∈ F.map sv_c
        · rw [if_pos y, if_pos (List.mem_append_left _ y)]
        · rw [if_neg y, if_neg]
          intro y2
          rcases List.mem_append.mp y2 with y2 | y2
          · exact y y2
          · exact e (List.mem_singleton.mp y2)
    · exact ((am_only.pI (by decide)).trans (am_only.pI (by decide))).trans (am_only.pI (by decide))
    · rw [am_pI_row, am_pI_of (by decide), am_pI_of (by decide)]
      exact am_kpt.u1 (by decide)
theorem ck_V_of {o i : sv_S} {w : List Int} (hw : sk_x w) (ho : sv_ok o) (hi : sv_ok i) : ck_V w (sv_c o) (sv_c i) (sv_X i) (sv_X o) := by
  obtain ⟨-, -, -, o3, o4⟩ := sv_c_rg ho
  obtain ⟨-, -, -, i3, i4⟩ := sv_c_rg hi
  intro s hs
  have hsr := hw.1 s hs
  refine ⟨fun a b => ⟨?_, sv_X_ok hi⟩, fun a => ⟨?_, sv_X_ok ho⟩⟩
  · unfold sv_X ck_g
    rcases (by omega : s = 4 ∨ s = 5) with rfl | rfl
    · rw [if_pos (by decide), if_pos (by decide)]; exact i3
    · rw [if_neg (by decide), if_neg (by decide)]; exact i4
  · unfold sv_X ck_g
    rcases (by omega : s = 8 ∨ s = 9) with rfl | rfl
    · rw [if_pos (by decide), if_pos (by decide)]; exact o3
    · rw [if_neg (by decide), if_neg (by decide)]; exact o4
theorem c_nest (d : Nat) {P Q : am_P} {m1 m2 : Nat} {F : List sv_S} {o i : sv_S} {l : Int} (hM : cn_M σ m1 m2 P Q) (hI : cn_I P Q σ F) (hl : 0 ≤ l ∧ l < 3) (ho : o ∈ F) (hi : i ∈ F) (hot : pm_oT P l o.1.2 = i.1.1) : am_MV G (d + 4) mX4_nest [am_r (some 31), am_i (sv_c o), am_i (sv_c i), am_i (l * 6 + pm_oM P l o.1.2)] σ (fun σ' => ∃ F', cn_I P Q σ' F' ∧ F <+: F' ∧ (∀ y, sv_n P Q l o i = some y → y ∈ F') ∧ cn_f σ σ') := by
  obtain ⟨⟨r1, r2⟩, ⟨hM1, hM2⟩, hm, hJ, hA⟩ := id hM
  obtain ⟨m1', m2', m3', m4', m5'⟩ := id hM1
  obtain ⟨⟨pS1, pS2⟩, ⟨pR1, pR2⟩, -, -, -, poT, poM, pcT⟩ := id m4'
  have hb := hM1.b
  have hR2 := hm.1.2.2.2
  obtain ⟨ook, oC⟩ := hI.2.2.2 o ho
  obtain ⟨iok, iC⟩ := hI.2.2.2 i hi
  have g2 := ook.2.1
  have g4 := iok.2.1
  have hmk := poM l o.1.2
  have hk1 := m1'.1
  obtain ⟨t3, t4⟩ := m2'.2.2.1 l i.1.2 (pm_oM P l o.1.2) (by omega) (by omega) (by omega) (by omega) (by omega) (by omega)
  have hct := pcT l i.1.2 (pm_oM P l o.1.2)
  have oc := (sv_c_rg ook).1
  have ic := (sv_c_rg iok).1
  refine am_M.go (by decide) (Nat.le_of_ble_eq_true rfl) rfl ?_
  refine S_X4_nest_0 (c_stateOf _ iok) ?_
  rintro _ _ ⟨rfl, rfl⟩
  rw [r1]
  refine S_X4_nest_9 (c_closesTo _ m1' (by omega) (by omega)) m1' ?_
  rintro _ _ ⟨rfl, rfl⟩
  rw [if_pos (by omega), t3]
  refine S_X4_nest_14 (by omega) (fun z => ?_) (fun z => ?_)
  rotate_left
  · refine S_X4_nest_20 ⟨F, hI, List.prefix_refl F, fun y hy => ?_, cn_f.rfl'⟩
    unfold sv_n at hy
    rw [if_pos (Classical.not_not.mp z)] at hy
    exact nomatch hy
  have t4 := t4 z
  obtain ⟨cl, cx⟩ := hm.cx z
  refine S_X4_nest_21 (c_stateOf _ iok) ?_
  rintro _ _ ⟨rfl, rfl⟩
  rw [r1]
  refine S_X4_nest_30 (c_closeTells _ m1' (by omega) (by omega)) m1' ?_
  rintro _ _ ⟨rfl, rfl⟩
  rw [if_pos (by omega)]
  generalize σ.1 (m1 + 4) ((l * 6 + pm_oM P l o.1.2) * 6 + i.1.2) = E at *
  have hmem : ∀ j : Nat, j < (pm_cX P l i.1.2 (pm_oM P l o.1.2)).length → sk_x ((pm_cX P l i.1.2 (pm_oM P l o.1.2)).getD j []) := fun j hj => cx _ (by
    rw [List.getD_eq_getElem?_getD, List.getElem?_eq_getElem hj]
    exact List.getElem_mem hj)
  have hX : ∀ (τ : am_D), am_only [41, 42] σ τ → ∀ j : Nat, j < (pm_cX P l i.1.2 (pm_oM P l o.1.2)).length → cm_X τ m1 (E + j) ((pm_cX P l i.1.2 (pm_oM P l o.1.2)).getD j []) := by
    intro τ hf j hj
    have := t4 j hj
    unfold cm_X at this ⊢
    rw [hf.1 m1 (by simp; omega), hf.1 (m1 + 7) (by simp; omega), hf.1 (m1 + 6) (by simp; omega)]
    exact this
  have hEv : ∀ w, sk_ok (sk_ev Q (sv_X i) (sv_X o) w sk_1 []) := fun w => sk_ok_ev hm.2 w sk_1 [] (fun s _ => ⟨fun _ _ => sv_X_ok iok, fun _ => sv_X_ok ook⟩) sk_ok_1
  have kind : ∀ (τ : am_D), am_only [41, 42] σ τ → ∀ j : Nat, j < (pm_cX P l i.1.2 (pm_oM P l o.1.2)).length → am_MI G (d + 3) mX4_kindOf [am_r (some 31), am_i (E + j), am_i (sv_c o), am_i (sv_c i)] τ (fun x σ' => x = sk_c (sk_ev Q (sv_X i) (sv_X o) ((pm_cX P l i.1.2 (pm_oM P l o.1.2)).getD j []) sk_1 []) ∧ am_only [41, 42] τ σ') := by
    intro τ hf j hj
    exact c_skindOf d m1' (by rw [hf.2]; exact r1) (hX τ hf j hj) (by rw [hf.1 m1 (by simp; omega)]; exact hb.1) (by rw [hf.1 m1 (by simp; omega)]; exact hb.2) hm.2 (by rw [hf.1 33 (by decide)]; exact hJ) (by rw [hf.1 34 (by decide)]; exact hA) (hmem j hj) oc ic (ck_V_of (hmem j hj) ook iok)
  -- behind the second one
  have fin : ∀ (E1 : sk_K) (τ : am_D), am_only [41, 42] σ τ → sk_ok E1 → sv_n P Q l o i = some ((o.1.1, pm_cT P l i.1.2 (pm_oM P l o.1.2)), (sk_ev Q (sv_X i) (sv_X o) ((pm_cX P l i.1.2 (pm_oM P l o.1.2)).getD 0 []) sk_1 [], E1)) → am_X (am_FV G (d + 4) (fun σ' => ∃ F', cn_I P Q σ' F' ∧ F <+: F' ∧ (∀ y, sv_n P Q l o i = some y → y ∈ F') ∧ cn_f σ σ')) mX4_nest (0, 0) 60 [some (am_r (some 31)), some (am_i (sv_c o)), some (am_i (sv_c i)), none, some (am_i (pm_cT P l i.1.2 (pm_oM P l o.1.2))), some (am_i E), none] [am_i (sk_c E1)] (am_K0, τ) := by
    intro E1 τ hf hE1 hn
    have hyok := sv_n_ok hm ook iok hn
    have hyC := sv_C_c.2.2 l o i _ hl.1 hl.2 oC iC hot hn
    have hr1 := sk_c_rg hE1
    refine S_X4_nest_60 ?_
    refine S_X4_nest_62 (c_beginOf _ ook) ?_
    rintro _ _ ⟨rfl, rfl⟩
    have k0 := kind τ hf 0 (by omega)
    rw [show E + ((0 : Nat) : Int) = E from Int.add_zero E] at k0
    refine S_X4_nest_67 k0 ?_
    rintro _ τ1 ⟨rfl, hf1⟩
    have hsh : am_shl (sk_c E1) 4 = sk_c E1 * 16 := am_shl_v (x := sk_c E1) 4 (by omega) (by omega) (by show sk_c E1 * 16 < _; omega)
    have hf2 := hf.trans hf1
    have hI1 : cn_I P Q τ1 F := hI.of (by rw [hf2.1 31 (by decide)]) (hf2.1 36 (by decide)) (hf2.1 35 (by decide))
    refine S_X4_nest_77 (c_note (G := G) (d + 1) (P := P) (Q := Q) (x := ((o.1.1, pm_cT P l i.1.2 (pm_oM P l o.1.2)), (sk_ev Q (sv_X i) (sv_X o) ((pm_cX P l i.1.2 (pm_oM P l o.1.2)).getD 0 []) sk_1 [], E1))) (by rw [hsh]) hI1 hyok hyC) ?_
    rintro τ2 ⟨F', hI2, hp, hx, hf3⟩
    refine S_X4_nest_85 ⟨F', hI2, hp, fun y hy => ?_, hf2.cn.trans hf3⟩
    rw [hn] at hy
    injection hy with hy
    rw [← hy]; exact hx
  have e1 : σ.1 m1 1 = pm_R P := m2'.1.2.1
  refine S_X4_nest_35 r1 m1' (by omega) (fun y => ?_) (fun y => ?_)
  · have k1 := kind σ am_only.rfl' 1 (by omega)
    refine S_X4_nest_50 k1 ?_
    rintro _ τ ⟨rfl, hf⟩
    refine fin _ τ hf (hEv _) ?_
    unfold sv_n
    rw [if_neg z, if_neg (by omega)]
  · refine S_X4_nest_46 ?_
    refine fin sk_1 σ am_only.rfl' sk_ok_1 ?_
    unfold sv_n
    rw [if_neg z, if_pos (by omega)]
theorem c_spoilsAtEnd (d : Nat) {P Q : am_P} {m1 m2 : Nat} {x : sv_S} (hM : cn_M σ m1 m2 P Q) (hx : sv_ok x) : am_MI G (d + 4) mX4_spoilsAtEnd [am_r (some 31), am_i (sv_c x)] σ (fun r σ' => ((r = 1 ∧ x.1.1 = 0 ∧ sv_e P Q x = true) ∨ (r = 0 ∧ (x.1.1 = 0 → sv_e P Q x = false))) ∧ am_only [41, 42] σ σ') := by
  obtain ⟨⟨r1, r2⟩, ⟨hM1, hM2⟩, hm, hJ, hA⟩ := id hM
  obtain ⟨m1', m2', m3', m4', m5'⟩ := id hM1
  have hb := hM1.b
  have hk1 := m1'.1
  have g1 := hx.1
  have g2 := hx.2.1
  have xc := (sv_c_rg hx).1
  have hE := m2'.2.2.2 x.1.2 (by omega) (by omega)
  refine am_M.go (by decide) (Nat.le_of_ble_eq_true rfl) rfl ?_
  refine S_X4_spoilsAtEnd_0 (c_stateOf _ hx) ?_
  rintro _ _ ⟨rfl, rfl⟩
  rw [r1]
  refine S_X4_spoilsAtEnd_8 (c_endTells _ m1' (by omega)) m1' ?_
  rintro _ _ ⟨rfl, rfl⟩
  rw [if_pos (by omega)]
  refine S_X4_spoilsAtEnd_12 (c_beginOf _ hx) ?_
  rintro _ _ ⟨rfl, rfl⟩
  refine S_X4_spoilsAtEnd_16 (by omega) (fun z => S_X4_spoilsAtEnd_24 ⟨Or.inr ⟨rfl, fun y => absurd y z⟩, am_only.rfl'⟩) (fun z => ?_)
  have z := Classical.not_not.mp z
  cases hv : pm_eX P x.1.2 with
  | none =>
    rw [hv] at hE
    have hE : σ.1 (m1 + 5) x.1.2 = -1 := hE
    rw [hE]
    refine S_X4_spoilsAtEnd_19 (by omega) (fun y => absurd rfl y) (fun _ => ?_)
    refine S_X4_spoilsAtEnd_24 ⟨Or.inr ⟨rfl, fun _ => ?_⟩, am_only.rfl'⟩
    unfold sv_e
    rw [hv]
  | some v =>
  rw [hv] at hE
  have hE : cm_X σ m1 (σ.1 (m1 + 5) x.1.2) v := hE
  have h0 := hE.1
  have h01 := hE.2.1
  obtain ⟨wx, w8⟩ := hm.ex hv
  have hev : sk_ok (sk_ev Q (sv_X x) (sv_X x) v sk_1 []) := sk_ok_ev hm.2 v sk_1 [] (fun s _ => ⟨fun _ _ => sv_X_ok hx, fun _ => sv_X_ok hx⟩) sk_ok_1
  have hcr := sk_c_rg hev
  refine S_X4_spoilsAtEnd_19 (by omega) (fun _ => ?_) (fun y => absurd (by omega) y)
  refine S_X4_spoilsAtEnd_26 (c_skindOf d m1' r1 hE hb.1 hb.2 hm.2 hJ hA wx xc xc (ck_V_of wx hx hx)) ?_
  rintro _ τ ⟨rfl, hf⟩
  refine S_X4_spoilsAtEnd_33 (c_kto _ (by omega) (by omega)) ?_
  rintro _ _ ⟨rfl, rfl⟩
  rw [sk_tc_c hev]
  have hlr : 0 ≤ sv_l Q x v ∧ sv_l Q x v ≤ 2 := sk_to_rg hev
  have hse : sv_e P Q x = (decide (sv_l Q x v = 2) || (pm_eX Q (sv_l Q x v)).isNone) := by
    unfold sv_e
    rw [hv]
  change am_X _ _ _ _ [some (am_r (some 31)), none, none, some (am_i (sv_l Q x v))] _ _
  generalize sv_l Q x v = last at *
  have yes : (decide (last = 2) || (pm_eX Q last).isNone) = true → am_X (am_FI G (d + 4) (fun r σ' => ((r = 1 ∧ x.1.1 = 0 ∧ sv_e P Q x = true) ∨ (r = 0 ∧ (x.1.1 = 0 → sv_e P Q x = false))) ∧ am_only [41, 42] σ σ')) mX4_spoilsAtEnd (0, 0) 55 [none, none, none, none] [] (am_K0, τ) := by
    intro h
    exact S_X4_spoilsAtEnd_55 (S_X4_spoilsAtEnd_60 (Or.inr rfl) ⟨Or.inl ⟨rfl, z, hse.trans h⟩, hf⟩)
  refine S_X4_spoilsAtEnd_38 (by omega) (fun y => yes (by rw [decide_eq_true y]; rfl)) (fun y => ?_)
  have hM2τ := (hM.f (hf.sub (by decide))).2.1.2
  have hb2 := hM2τ.b
  have hE2 := hM2τ.2.1.2.2.2 last (by omega) (by omega)
  refine S_X4_spoilsAtEnd_43 (by rw [hf.2]; exact r2) (c_endTells _ hM2τ.1 (by omega)) hM2τ.1 ?_
  rintro _ _ ⟨rfl, rfl⟩
  rw [if_pos (by omega)]
  cases hq : pm_eX Q last with
  | none =>
    rw [hq] at hE2
    have hE2 : τ.1 (m2 + 5) last = -1 := hE2
    refine S_X4_spoilsAtEnd_51 (by omega) (fun w => absurd hE2 w) (fun _ => ?_)
    exact yes (by rw [hq]; simp)
  | some u =>
    rw [hq] at hE2
    have hE2 : cm_X τ m2 (τ.1 (m2 + 5) last) u := hE2
    have h2 := hE2.1
    have h21 := hE2.2.1
    refine S_X4_spoilsAtEnd_51 (by omega) (fun _ => ?_) (fun w => absurd (by omega) w)
    refine S_X4_spoilsAtEnd_59 (S_X4_spoilsAtEnd_60 (Or.inl rfl) ⟨Or.inr ⟨rfl, fun _ => ?_⟩, hf⟩)
    rw [hse, decide_eq_false y, hq]
    rfl
end
