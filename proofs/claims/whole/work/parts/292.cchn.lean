section
def sv_g (F : List sv_S) (j : Nat) : sv_S := F.getD j (sv_1 0)
theorem sv_g_pre {F F' : List sv_S} {j : Nat} (h : F <+: F') (hj : j < F.length) : sv_g F' j = sv_g F j := by
  obtain ⟨t, rfl⟩ := h
  unfold sv_g
  rw [List.getD_eq_getElem?_getD, List.getElem?_append_left hj, List.getD_eq_getElem?_getD]
theorem sv_g_mem {F : List sv_S} {j : Nat} (hj : j < F.length) : sv_g F j ∈ F := by
  unfold sv_g
  rw [List.getD_eq_getElem?_getD, List.getElem?_eq_getElem hj]
  exact List.getElem_mem hj
theorem sv_mem_g {F : List sv_S} {x : sv_S} (h : x ∈ F) : ∃ j, j < F.length ∧ sv_g F j = x := by
  obtain ⟨j, hj, e⟩ := List.getElem_of_mem h
  refine ⟨j, hj, ?_⟩
  unfold sv_g
  rw [List.getD_eq_getElem?_getD, List.getElem?_eq_getElem hj]
  exact e
theorem cn_I.at {P Q : am_P} {τ : am_D} {F : List sv_S} {j : Nat} (h : cn_I P Q τ F) (hj : j < F.length) : τ.1 36 j = sv_c (sv_g F j) := by
  rw [h.1.2 j (by rw [List.length_map]; exact hj)]
  unfold sv_g
  rw [List.getD_eq_getElem?_getD, List.getElem?_map, List.getElem?_eq_getElem hj, List.getD_eq_getElem?_getD, List.getElem?_eq_getElem hj]
  rfl
/-- a chain -/
def cn_ch (f : Int → Int) : Int → List Nat → Prop
  | s, [] => s = -1
  | s, j :: js => s = j ∧ cn_ch f (f j) js
theorem cn_ch.keep {f g : Int → Int} : ∀ {js : List Nat} {s : Int}, (∀ j ∈ js, g j = f j) → cn_ch f s js → cn_ch g s js := by
  intro js
  induction js with
  | nil => intro s _ h; exact h
  | cons j js ih =>
    intro s h hc
    refine ⟨hc.1, ?_⟩
    rw [h j List.mem_cons_self]
    exact ih (fun i hi => h i (List.mem_cons_of_mem _ hi)) hc.2
def cn_js (F : List sv_S) (k : Nat) (p : sv_S → Bool) : List Nat := ((List.range k).filter (fun j => p (sv_g F j))).reverse
theorem cn_js_s {F : List sv_S} {k : Nat} {p : sv_S → Bool} : cn_js F (k + 1) p = if p (sv_g F k) then k :: cn_js F k p else cn_js F k p := by
  unfold cn_js
  rw [List.range_succ, List.filter_append]
  by_cases h : p (sv_g F k) = true
  · rw [if_pos h, List.filter_cons_of_pos (by simpa using h)]
    simp
  · rw [if_neg h, List.filter_cons_of_neg (by simpa using h)]
    simp
theorem cn_js_mem {F : List sv_S} {k : Nat} {p : sv_S → Bool} {j : Nat} : j ∈ cn_js F k p ↔ j < k ∧ p (sv_g F j) = true := by
  unfold cn_js
  rw [List.mem_reverse, List.mem_filter, List.mem_range]
theorem cn_js_le {F : List sv_S} {k : Nat} {p : sv_S → Bool} : (cn_js F k p).length ≤ k := by
  unfold cn_js
  rw [List.length_reverse]
  have := List.length_filter_le (fun j => p (sv_g F j)) (List.range k)
  rw [List.length_range] at this
  exact this
theorem cn_js_pre {F F' : List sv_S} {k : Nat} {p : sv_S → Bool} (h : F <+: F') (hk : k ≤ F.length) : cn_js F' k p = cn_js F k p := by
  unfold cn_js
  congr 1
  apply List.filter_congr
  intro j hj
  rw [sv_g_pre h (by have := List.mem_range.mp hj; omega)]
def cn_B (τ : am_D) (F : List sv_S) (k : Nat) : Prop := ∀ b : Int, 0 ≤ b → b < 3 → cn_ch (τ.1 39) (τ.1 37 b) (cn_js F k (fun x => decide (x.1.1 = b)))
def cn_T (τ : am_D) (F : List sv_S) (k : Nat) : Prop := ∀ s : Int, 0 ≤ s → s < 3 → cn_ch (τ.1 40) (τ.1 38 s) (cn_js F k (fun x => decide (x.1.2 = s)))
theorem cn_ch_rg {f : Int → Int} {s : Int} {js : List Nat} (h : cn_ch f s js) (hj : ∀ j ∈ js, j < 729) : -1 ≤ s ∧ s < 729 := by
  cases js with
  | nil => have h : s = -1 := h; omega
  | cons j js => have := hj j List.mem_cons_self; have := h.1; omega
variable {G : am_G} {σ : am_D}
theorem c_asOuter (d : Nat) {P Q : am_P} {m1 m2 K : Nat} {F : List sv_S} {o : sv_S} (hM : cn_M σ m1 m2 P Q) (hI : cn_I P Q σ F) (ho : o ∈ F) (hK : K ≤ F.length) (hB : cn_B σ F K) : am_MV G (d + 5) mX4_asOuter [am_r (some 31), am_i (sv_c o)] σ (fun σ' => ∃ F', cn_I P Q σ' F' ∧ F <+: F' ∧ cn_f σ σ' ∧ (∀ l, 0 ≤ l → l < 3 → pm_oT P l o.1.2 ≠ -1 → sv_1 (pm_oT P l o.1.2) ∈ F') ∧ ∀ l j y, 0 ≤ l → l < 3 → j < K → pm_oT P l o.1.2 = (sv_g F j).1.1 → sv_n P Q l o (sv_g F j) = some y → y ∈ F') := by
  obtain ⟨⟨r1, r2⟩, ⟨hM1, hM2⟩, hm, hJ, hA⟩ := id hM
  obtain ⟨m1', m2', m3', m4', m5'⟩ := id hM1
  obtain ⟨⟨pS1, pS2⟩, ⟨pR1, pR2⟩, -, -, -, poT, poM, pcT⟩ := id m4'
  have hk1 := m1'.1
  have h3 := hm.1.2.2.1
  obtain ⟨ook, oC⟩ := hI.2.2.2 o ho
  have g2 := ook.2.1
  have hle := hI.le
  refine am_M.go (by decide) (Nat.le_of_ble_eq_true rfl) rfl ?_
  generalize hQQ : (fun (σ' : am_D) => ∃ F', cn_I P Q σ' F' ∧ F <+: F' ∧ cn_f σ σ' ∧ (∀ l, 0 ≤ l → l < 3 → pm_oT P l o.1.2 ≠ -1 → sv_1 (pm_oT P l o.1.2) ∈ F') ∧ ∀ l j y, 0 ≤ l → l < 3 → j < K → pm_oT P l o.1.2 = (sv_g F j).1.1 → sv_n P Q l o (sv_g F j) = some y → y ∈ F') = QQ
  have cnf : ∀ τ, cn_f σ τ → am_only cn_F σ τ := fun τ h => h.1.sub (by decide)
  -- along a chain
  have C : ∀ (l : Int), 0 ≤ l → l < 3 → pm_oT P l o.1.2 ≠ -1 → ∀ (js : List Nat) (v s : Int) (τ : am_D) (F1 : List sv_S), F <+: F1 → cn_I P Q τ F1 → cn_f σ τ → cn_ch (σ.1 39) v js → (∀ j ∈ js, j < K ∧ pm_oT P l o.1.2 = (sv_g F j).1.1) → 0 ≤ s → (js.length : Int) + s ≤ 729 → (∀ (τ' : am_D) (F2 : List sv_S), F1 <+: F2 → cn_I P Q τ' F2 → cn_f σ τ' → (∀ j ∈ js, ∀ y, sv_n P Q l o (sv_g F j) = some y → y ∈ F2) → am_X (am_FV G (d + 5) QQ) mX4_asOuter (0, 0) 107 [some (am_r (some 31)), some (am_i (sv_c o)), some (am_i l), none, none, none, none] [] (am_K0, τ')) → am_X (am_FV G (d + 5) QQ) mX4_asOuter (0, 0) 60 [some (am_r (some 31)), some (am_i (sv_c o)), some (am_i l), none, some (am_i (l * 6 + pm_oM P l o.1.2)), some (am_i v), some (am_i s)] [] (am_K0, τ) := by
    intro l l0 l1 hot js
    induction js with
    | nil =>
      intro v s τ F1 hp hI1 hf hc hj hs hl K'
      have hc : v = -1 := hc
      refine S_X4_asOuter_60 (by omega) (fun _ => ?_) (fun z => absurd hc z)
      exact K' τ F1 (List.prefix_refl _) hI1 hf (fun j hj => by cases hj)
    | cons j js ih =>
      intro v s τ F1 hp hI1 hf hc hj hs hl K'
      obtain ⟨hv, hc⟩ := hc
      obtain ⟨j1, j2⟩ := hj j List.mem_cons_self
      have hle1 := hI1.le
      have hpl := hp.length_le
      rw [List.length_cons] at hl
      have ejF : sv_g F1 j = sv_g F j := sv_g_pre hp (by omega)
      have hat := hI1.at (j := j) (by omega)
      rw [ejF] at hat
      refine S_X4_asOuter_60 (by omega) (fun z => absurd z (by omega)) (fun _ => ?_)
      refine S_X4_asOuter_66 (by omega) (fun z => absurd z (by omega)) (fun _ => ?_)
      refine S_X4_asOuter_74 (c_at _ sh_36 (by omega)) ?_
      rintro _ _ ⟨rfl, rfl⟩
      rw [if_pos (by omega), hv, hat]
      refine S_X4_asOuter_85 (c_nest _ (hM.f (cnf τ hf)) hI1 ⟨l0, l1⟩ (hp.subset ho) (by rw [← ejF]; exact sv_g_mem (by omega)) j2) ?_
      rintro τ' ⟨F2, hI2, hp2, hy, hf2⟩
      have hf3 := hf.trans hf2
      refine S_X4_asOuter_90 (c_at _ sh_39 (by omega)) ?_
      intro x9 τ9 h9
      rw [if_pos (by omega), hf3.1.1 39 (by decide)] at h9
      obtain ⟨h9, e9⟩ := h9
      subst e9
      subst h9
      refine S_X4_asOuter_101 ?_
      refine ih (σ.1 39 j) (s + 1) τ' F2 (hp.trans hp2) hI2 hf3 hc (fun i hi => hj i (List.mem_cons_of_mem _ hi)) (by omega) (by omega) (fun τ2 F3 hp3 hI3 hf4 hall => ?_)
      refine K' τ2 F3 (hp2.trans hp3) hI3 hf4 (fun i hi y hy' => ?_)
      rcases List.mem_cons.mp hi with rfl | hi
      · exact hp3.subset (hy y hy')
      · exact hall i hi y hy'
  have L : ∀ (n : Nat) (l : Int) (τ : am_D) (F1 : List sv_S), l + n = 3 → 0 ≤ l → F <+: F1 → cn_I P Q τ F1 → cn_f σ τ → (∀ l', 0 ≤ l' → l' < l → pm_oT P l' o.1.2 ≠ -1 → sv_1 (pm_oT P l' o.1.2) ∈ F1) → (∀ l' j y, 0 ≤ l' → l' < l → j < K → pm_oT P l' o.1.2 = (sv_g F j).1.1 → sv_n P Q l' o (sv_g F j) = some y → y ∈ F1) → am_X (am_FV G (d + 5) QQ) mX4_asOuter (0, 0) 2 [some (am_r (some 31)), some (am_i (sv_c o)), some (am_i l), none, none, none, none] [] (am_K0, τ) := by
    intro n
    induction n with
    | zero =>
      intro l τ F1 hn hl hp hI1 hf h1 h2
      refine S_X4_asOuter_2 (by omega) (fun _ => ?_) (fun z => absurd (by omega) z)
      refine S_X4_asOuter_113 ?_
      rw [← hQQ]
      exact ⟨F1, hI1, hp, hf, fun l' a1 a2 => h1 l' a1 (by omega), fun l' j y a1 a2 => h2 l' j y a1 (by omega)⟩
    | succ n ih =>
      intro l τ F1 hn hl hp hI1 hf h1 h2
      have hor := poT l o.1.2
      have hT1 := m2'.2.1 l o.1.2 (by omega) (by omega) (by omega) (by omega)
      refine S_X4_asOuter_2 (by omega) (fun z => absurd z (by omega)) (fun _ => ?_)
      refine S_X4_asOuter_7 (c_stateOf _ ook) ?_
      rintro _ _ ⟨rfl, rfl⟩
      rw [hf.1.2, r1]
      refine S_X4_asOuter_16 (c_opensTo _ m1' (by omega) (by omega)) m1' ?_
      rintro _ _ ⟨rfl, rfl⟩
      rw [if_pos (by omega), hf.1.1 (m1 + 1) (by simp; omega), hT1.1]
      by_cases hot : pm_oT P l o.1.2 = -1
      · refine S_X4_asOuter_20 (by omega) (fun _ => ?_) (fun z => absurd hot z)
        refine S_X4_asOuter_107 ?_
        refine ih (l + 1) τ F1 (by omega) (by omega) hp hI1 hf (fun l' a1 a2 a3 => ?_) (fun l' j y a1 a2 a3 a4 a5 => ?_)
        · by_cases e : l' = l
          · rw [e] at a3; exact absurd hot a3
          · exact h1 l' a1 (by omega) a3
        · by_cases e : l' = l
          · subst e
            have := (hI.2.2.2 _ (sv_g_mem (F := F) (j := j) (by omega))).1.1
            omega
          · exact h2 l' j y a1 (by omega) a3 a4 a5
      · refine S_X4_asOuter_20 (by omega) (fun z => absurd z hot) (fun _ => ?_)
        have hq : sv_ok (sv_1 (pm_oT P l o.1.2)) := sv_1_ok (by omega)
        refine S_X4_asOuter_25 (c_note (G := G) (d + 2) (x := sv_1 (pm_oT P l o.1.2)) (by show (68 : Int) = sk_c sk_1 + sk_c sk_1 * 16; decide) hI1 hq (sv_C_c.2.1 l o hl (by omega) oC hot)) ?_
        rintro τ1 ⟨F2, hI2, hp2, hin, hf2⟩
        have hf3 := hf.trans hf2
        refine S_X4_asOuter_33 (c_stateOf _ ook) ?_
        rintro _ _ ⟨rfl, rfl⟩
        rw [hf3.1.2, r1]
        refine S_X4_asOuter_42 (c_lays _ m1' (by omega) (by omega)) m1' ?_
        rintro _ _ ⟨rfl, rfl⟩
        rw [if_pos (by omega), hf3.1.1 (m1 + 2) (by simp; omega), hT1.2 hot]
        refine S_X4_asOuter_47 (c_at _ sh_37 (by omega)) ?_
        rintro _ _ ⟨rfl, rfl⟩
        rw [if_pos (by omega), hf3.1.1 37 (by decide)]
        refine S_X4_asOuter_57 ?_
        have hjl := cn_js_le (F := F) (k := K) (p := fun x => decide (x.1.1 = pm_oT P l o.1.2))
        refine C l hl (by omega) hot _ _ 0 τ1 F2 (hp.trans hp2) hI2 hf3 (hB (pm_oT P l o.1.2) (by omega) (by omega)) (fun j hj => ?_) (Int.le_refl _) (by omega) (fun τ2 F3 hp3 hI3 hf4 hall => ?_)
        · obtain ⟨a1, a2⟩ := cn_js_mem.mp hj
          exact ⟨a1, (of_decide_eq_true a2).symm⟩
        · refine S_X4_asOuter_107 ?_
          refine ih (l + 1) τ2 F3 (by omega) (by omega) ((hp.trans hp2).trans hp3) hI3 hf4 (fun l' a1 a2 a3 => ?_) (fun l' j y a1 a2 a3 a4 a5 => ?_)
          · by_cases e : l' = l
            · rw [e]; exact hp3.subset hin
            · exact (hp2.trans hp3).subset (h1 l' a1 (by omega) a3)
          · by_cases e : l' = l
            · subst e
              exact hall j (cn_js_mem.mpr ⟨a3, decide_eq_true a4.symm⟩) y a5
            · exact (hp2.trans hp3).subset (h2 l' j y a1 (by omega) a3 a4 a5)
  exact S_X4_asOuter_0 (L 3 0 σ F (by omega) (by omega) (List.prefix_refl _) hI cn_f.rfl' (fun l' a1 a2 => by omega) (fun l' j y a1 a2 => by omega))
theorem sv_C_s {P Q : am_P} {x : sv_S} (hP : pm_ok P) (h : sv_C P Q x) : 0 ≤ x.1.2 ∧ x.1.2 < pm_S P := by
  refine h (fun x => 0 ≤ x.1.2 ∧ x.1.2 < pm_S P) ⟨?_, ?_, ?_⟩
  · have := hP.1
    exact ⟨Int.le_refl _, by show (0 : Int) < pm_S P; omega⟩
  · intro l o _ _ _ hT
    have := hP.2.2.2.2.2.1 l o.1.2
    exact ⟨by show 0 ≤ pm_oT P l o.1.2; omega, this.2⟩
  · intro l o i x _ _ _ _ _ hn
    obtain ⟨-, n2, n3⟩ := sv_n_b hn
    have := hP.2.2.2.2.2.2.2 l i.1.2 (pm_oM P l o.1.2)
    omega
theorem c_asInner (d : Nat) {P Q : am_P} {m1 m2 K : Nat} {F : List sv_S} {i : sv_S} (hM : cn_M σ m1 m2 P Q) (hI : cn_I P Q σ F) (hi : i ∈ F) (hK : K ≤ F.length) (hB : cn_T σ F K) : am_MV G (d + 5) mX4_asInner [am_r (some 31), am_i (sv_c i)] σ (fun σ' => ∃ F', cn_I P Q σ' F' ∧ F <+: F' ∧ cn_f σ σ' ∧ ∀ l j y, 0 ≤ l → l < 3 → j < K → pm_oT P l (sv_g F j).1.2 = i.1.1 → sv_n P Q l (sv_g F j) i = some y → y ∈ F') := by
  obtain ⟨⟨r1, r2⟩, ⟨hM1, hM2⟩, hm, hJ, hA⟩ := id hM
  obtain ⟨m1', m2', m3', m4', m5'⟩ := id hM1
  obtain ⟨⟨pS1, pS2⟩, ⟨pR1, pR2⟩, -, -, -, poT, poM, pcT⟩ := id m4'
  have hk1 := m1'.1
  have h3 := hm.1.2.2.1
  obtain ⟨iok, iC⟩ := hI.2.2.2 i hi
  have g1 := iok.1
  have hle := hI.le
  refine am_M.go (by decide) (Nat.le_of_ble_eq_true rfl) rfl ?_
  generalize hQQ : (fun (σ' : am_D) => ∃ F', cn_I P Q σ' F' ∧ F <+: F' ∧ cn_f σ σ' ∧ ∀ l j y, 0 ≤ l → l < 3 → j < K → pm_oT P l (sv_g F j).1.2 = i.1.1 → sv_n P Q l (sv_g F j) i = some y → y ∈ F') = QQ
  have cnf : ∀ τ, cn_f σ τ → am_only cn_F σ τ := fun τ h => h.1.sub (by decide)
  have C : ∀ (q l : Int), 0 ≤ l → l < 3 → pm_oT P l q = i.1.1 → ∀ (js : List Nat) (v s : Int) (τ : am_D) (F1 : List sv_S), F <+: F1 → cn_I P Q τ F1 → cn_f σ τ → cn_ch (σ.1 40) v js → (∀ j ∈ js, j < K ∧ (sv_g F j).1.2 = q) → 0 ≤ s → (js.length : Int) + s ≤ 729 → (∀ (τ' : am_D) (F2 : List sv_S), F1 <+: F2 → cn_I P Q τ' F2 → cn_f σ τ' → (∀ j ∈ js, ∀ y, sv_n P Q l (sv_g F j) i = some y → y ∈ F2) → am_X (am_FV G (d + 5) QQ) mX4_asInner (0, 0) 107 [some (am_r (some 31)), some (am_i (sv_c i)), some (am_i q), some (am_i l), none, none, none] [] (am_K0, τ')) → am_X (am_FV G (d + 5) QQ) mX4_asInner (0, 0) 60 [some (am_r (some 31)), some (am_i (sv_c i)), some (am_i q), some (am_i l), some (am_i (l * 6 + pm_oM P l q)), some (am_i v), some (am_i s)] [] (am_K0, τ) := by
    intro q l l0 l1 hot js
    induction js with
    | nil =>
      intro v s τ F1 hp hI1 hf hc hj hs hl K'
      have hc : v = -1 := hc
      refine S_X4_asInner_60 (by omega) (fun _ => ?_) (fun z => absurd hc z)
      exact K' τ F1 (List.prefix_refl _) hI1 hf (fun j hj => by cases hj)
    | cons j js ih =>
      intro v s τ F1 hp hI1 hf hc hj hs hl K'
      obtain ⟨hv, hc⟩ := hc
      obtain ⟨j1, j2⟩ := hj j List.mem_cons_self
      have hle1 := hI1.le
      have hpl := hp.length_le
      rw [List.length_cons] at hl
      have ejF : sv_g F1 j = sv_g F j := sv_g_pre hp (by omega)
      have hat := hI1.at (j := j) (by omega)
      rw [ejF] at hat
      refine S_X4_asInner_60 (by omega) (fun z => absurd z (by omega)) (fun _ => ?_)
      refine S_X4_asInner_66 (by omega) (fun z => absurd z (by omega)) (fun _ => ?_)
      refine S_X4_asInner_74 (c_at _ sh_36 (by omega)) ?_
      rintro _ _ ⟨rfl, rfl⟩
      rw [if_pos (by omega), hv, hat]
      have hnest := c_nest (G := G) (σ := τ) d (o := sv_g F j) (i := i) (l := l) (hM.f (cnf τ hf)) hI1 ⟨l0, l1⟩ (by rw [← ejF]; exact sv_g_mem (by omega)) (hp.subset hi) (by rw [j2]; exact hot)
      rw [j2] at hnest
      refine S_X4_asInner_84 hnest ?_
      rintro τ' ⟨F2, hI2, hp2, hy, hf2⟩
      have hf3 := hf.trans hf2
      refine S_X4_asInner_90 (c_at _ sh_40 (by omega)) ?_
      intro x9 τ9 h9
      rw [if_pos (by omega), hf3.1.1 40 (by decide)] at h9
      obtain ⟨h9, e9⟩ := h9
      subst e9
      subst h9
      refine S_X4_asInner_101 ?_
      refine ih (σ.1 40 j) (s + 1) τ' F2 (hp.trans hp2) hI2 hf3 hc (fun i hi => hj i (List.mem_cons_of_mem _ hi)) (by omega) (by omega) (fun τ2 F3 hp3 hI3 hf4 hall => ?_)
      refine K' τ2 F3 (hp2.trans hp3) hI3 hf4 (fun i' hi' y hy' => ?_)
      rcases List.mem_cons.mp hi' with rfl | hi'
      · exact hp3.subset (hy y hy')
      · exact hall i' hi' y hy'
  have L : ∀ (q : Int), 0 ≤ q → q < pm_S P → ∀ (n : Nat) (l : Int) (τ : am_D) (F1 : List sv_S), l + n = 3 → 0 ≤ l → F <+: F1 → cn_I P Q τ F1 → cn_f σ τ → (∀ l' j y, 0 ≤ l' → l' < 3 → j < K → pm_oT P l' (sv_g F j).1.2 = i.1.1 → sv_n P Q l' (sv_g F j) i = some y → ((sv_g F j).1.2 < q ∨ ((sv_g F j).1.2 = q ∧ l' < l)) → y ∈ F1) → (∀ (τ' : am_D) (F2 : List sv_S), F <+: F2 → cn_I P Q τ' F2 → cn_f σ τ' → (∀ l' j y, 0 ≤ l' → l' < 3 → j < K → pm_oT P l' (sv_g F j).1.2 = i.1.1 → sv_n P Q l' (sv_g F j) i = some y → (sv_g F j).1.2 < q + 1 → y ∈ F2) → am_X (am_FV G (d + 5) QQ) mX4_asInner (0, 0) 113 [some (am_r (some 31)), some (am_i (sv_c i)), some (am_i q), none, none, none, none] [] (am_K0, τ')) → am_X (am_FV G (d + 5) QQ) mX4_asInner (0, 0) 15 [some (am_r (some 31)), some (am_i (sv_c i)), some (am_i q), some (am_i l), none, none, none] [] (am_K0, τ) := by
    intro q q0 q1 n
    induction n with
    | zero =>
      intro l τ F1 hn hl hp hI1 hf h2 K'
      refine S_X4_asInner_15 (by omega) (fun _ => ?_) (fun z => absurd (by omega) z)
      exact K' τ F1 hp hI1 hf (fun l' j y a1 a2 a3 a4 a5 a6 => h2 l' j y a1 a2 a3 a4 a5 (by omega))
    | succ n ih =>
      intro l τ F1 hn hl hp hI1 hf h2 K'
      have hor := poT l q
      have hT1 := m2'.2.1 l q (by omega) (by omega) (by omega) (by omega)
      refine S_X4_asInner_15 (by omega) (fun z => absurd z (by omega)) (fun _ => ?_)
      refine S_X4_asInner_20 (by rw [hf.1.2]; exact r1) (c_opensTo _ m1' (by omega) (by omega)) m1' ?_
      rintro _ _ ⟨rfl, rfl⟩
      rw [if_pos (by omega), hf.1.1 (m1 + 1) (by simp; omega), hT1.1]
      refine S_X4_asInner_29 (c_beginOf _ iok) ?_
      rintro _ _ ⟨rfl, rfl⟩
      by_cases hot : pm_oT P l q = i.1.1
      · refine S_X4_asInner_33 (by omega) (by omega) (fun z => absurd hot z) (fun _ => ?_)
        refine S_X4_asInner_36 (by rw [hf.1.2]; exact r1) (c_lays _ m1' (by omega) (by omega)) m1' ?_
        rintro _ _ ⟨rfl, rfl⟩
        rw [if_pos (by omega), hf.1.1 (m1 + 2) (by simp; omega), hT1.2 (by omega)]
        refine S_X4_asInner_47 (c_at _ sh_38 (by omega)) ?_
        rintro _ _ ⟨rfl, rfl⟩
        rw [if_pos (by omega), hf.1.1 38 (by decide)]
        refine S_X4_asInner_57 ?_
        have hjl := cn_js_le (F := F) (k := K) (p := fun x => decide (x.1.2 = q))
        refine C q l hl (by omega) hot _ _ 0 τ F1 hp hI1 hf (hB q (by omega) (by omega)) (fun j hj => ?_) (Int.le_refl _) (by omega) (fun τ2 F3 hp3 hI3 hf4 hall => ?_)
        · obtain ⟨a1, a2⟩ := cn_js_mem.mp hj
          exact ⟨a1, of_decide_eq_true a2⟩
        · refine S_X4_asInner_107 ?_
          refine ih (l + 1) τ2 F3 (by omega) (by omega) (hp.trans hp3) hI3 hf4 (fun l' j y a1 a2 a3 a4 a5 a6 => ?_) K'
          by_cases e : (sv_g F j).1.2 = q ∧ l' = l
          · obtain ⟨e1, rfl⟩ := e
            exact hall j (cn_js_mem.mpr ⟨a3, decide_eq_true e1⟩) y a5
          · exact hp3.subset (h2 l' j y a1 a2 a3 a4 a5 (by omega))
      · refine S_X4_asInner_33 (by omega) (by omega) (fun _ => ?_) (fun z => absurd hot z)
        refine S_X4_asInner_107 ?_
        refine ih (l + 1) τ F1 (by omega) (by omega) hp hI1 hf (fun l' j y a1 a2 a3 a4 a5 a6 => ?_) K'
        by_cases e : (sv_g F j).1.2 = q ∧ l' = l
        · rw [e.1, e.2] at a4
          exact absurd a4 hot
        · exact h2 l' j y a1 a2 a3 a4 a5 (by omega)
  have S : ∀ (n : Nat) (q : Int) (τ : am_D) (F1 : List sv_S), q + n = pm_S P → 0 ≤ q → F <+: F1 → cn_I P Q τ F1 → cn_f σ τ → (∀ l' j y, 0 ≤ l' → l' < 3 → j < K → pm_oT P l' (sv_g F j).1.2 = i.1.1 → sv_n P Q l' (sv_g F j) i = some y → (sv_g F j).1.2 < q → y ∈ F1) → am_X (am_FV G (d + 5) QQ) mX4_asInner (0, 0) 2 [some (am_r (some 31)), some (am_i (sv_c i)), some (am_i q), none, none, none, none] [] (am_K0, τ) := by
    intro n
    induction n with
    | zero =>
      intro q τ F1 hn hq hp hI1 hf h2
      have e0 : τ.1 m1 0 = pm_S P := by rw [hf.1.1 m1 (by simp; omega)]; exact m2'.1.1
      refine S_X4_asInner_2 (by rw [hf.1.2]; exact r1) m1' (by omega) (by omega) (fun _ => ?_) (fun z => absurd (by omega) z)
      refine S_X4_asInner_119 ?_
      rw [← hQQ]
      refine ⟨F1, hI1, hp, hf, fun l' j y a1 a2 a3 a4 a5 => h2 l' j y a1 a2 a3 a4 a5 ?_⟩
      have := sv_C_s m4' (hI.2.2.2 _ (sv_g_mem (F := F) (j := j) (by omega))).2
      omega
    | succ n ih =>
      intro q τ F1 hn hq hp hI1 hf h2
      have e0 : τ.1 m1 0 = pm_S P := by rw [hf.1.1 m1 (by simp; omega)]; exact m2'.1.1
      refine S_X4_asInner_2 (by rw [hf.1.2]; exact r1) m1' (by omega) (by omega) (fun z => absurd z (by omega)) (fun _ => ?_)
      refine S_X4_asInner_13 ?_
      refine L q hq (by omega) 3 0 τ F1 (by omega) (by omega) hp hI1 hf (fun l' j y a1 a2 a3 a4 a5 a6 => h2 l' j y a1 a2 a3 a4 a5 (by omega)) (fun τ' F2 hp2 hI2 hf2 h3' => ?_)
      refine S_X4_asInner_113 ?_
      exact ih (q + 1) τ' F2 (by omega) (by omega) hp2 hI2 hf2 h3'
  exact S_X4_asInner_0 (S (pm_S P).toNat 0 σ F (by omega) (by omega) (List.prefix_refl _) hI cn_f.rfl' (fun l' j y a1 a2 a3 a4 a5 a6 => by
    have := sv_C_s m4' (hI.2.2.2 _ (sv_g_mem (F := F) (j := j) (by omega))).2
    omega))
end
