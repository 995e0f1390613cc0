section
/-! Rows of EVENTS. -/
/-- nothing has changed but rows of S -/
def am_only (S : List Nat) (σ σ' : am_D) : Prop := (∀ a, a ∉ S → σ'.1 a = σ.1 a) ∧ σ'.2 = σ.2
theorem am_only.rfl' {S : List Nat} {σ : am_D} : am_only S σ σ := ⟨fun _ _ => rfl, rfl⟩
theorem am_only.trans {S : List Nat} {σ σ' σ'' : am_D} (h : am_only S σ σ') (h' : am_only S σ' σ'') : am_only S σ σ'' := ⟨fun a ha => (h'.1 a ha).trans (h.1 a ha), h'.2.trans h.2⟩
theorem am_only.sub {S S' : List Nat} {σ σ' : am_D} (h : am_only S σ σ') (hs : ∀ a, a ∈ S → a ∈ S') : am_only S' σ σ' := ⟨fun a ha => h.1 a (fun z => ha (hs a z)), h.2⟩
theorem am_only.pI {S : List Nat} {σ : am_D} {a : Nat} {k x : Int} (h : a ∈ S) : am_only S σ (am_pI σ a k x) := ⟨fun b hb => am_up_ne (fun e => hb (e ▸ h)), rfl⟩
/-- a row of ints begins with this list -/
def am_isL (f : Int → Int) (w : List Int) : Prop := ∀ i : Nat, i < w.length → f i = w.getD i 0
theorem am_isL.snoc {f : Int → Int} {w : List Int} {x : Int} (h : am_isL f w) : am_isL (am_u1 f w.length x) (w ++ [x]) := by
  intro i hi
  rw [List.length_append] at hi
  have hi : i < w.length + 1 := hi
  by_cases e : i = w.length
  · subst e
    rw [am_u1_eq, List.getD_eq_getElem?_getD, List.getElem?_append_right (Nat.le_refl _)]
    simp
  · rw [am_u1_ne (by omega), h i (by omega), List.getD_eq_getElem?_getD, List.getD_eq_getElem?_getD, List.getElem?_append_left (by omega)]
theorem am_isL.take {f : Int → Int} {w : List Int} (h : am_isL f w) (n : Nat) : am_isL f (w.take n) := by
  intro i hi
  rw [List.length_take] at hi
  rw [h i (by omega), List.getD_eq_getElem?_getD, List.getD_eq_getElem?_getD, List.getElem?_take_of_lt (by omega)]
theorem am_isL.ext {f : Int → Int} {w v : List Int} (h : am_isL f w) (h' : am_isL f v) (hl : w.length = v.length) : w = v := by
  apply List.ext_getElem hl
  intro i h1 h2
  have e1 := h i h1
  have e2 := h' i h2
  rw [List.getD_eq_getElem?_getD, List.getElem?_eq_getElem h1] at e1
  rw [List.getD_eq_getElem?_getD, List.getElem?_eq_getElem h2] at e2
  exact e1.symm.trans e2
theorem am_isL.congr {f g : Int → Int} {w : List Int} (h : am_isL f w) (e : ∀ i : Nat, i < w.length → g i = f i) : am_isL g w := fun i hi => (e i hi).trans (h i hi)
/-- Events e hold w -/
def am_E (σ : am_D) (e : Nat) (w : List Int) : Prop := σ.1 e 1 = w.length ∧ am_isL (σ.1 (e + 1)) w ∧ w.length ≤ am_es e
theorem am_es_le (e : Nat) : am_es e ≤ 4812 := by unfold am_es; split <;> omega
variable {G : am_G} {σ : am_D}
theorem c_clear (d : Nat) {e : Nat} (he : am_isE e) : am_MV G (d + 1) mX0_clear [am_r (some e)] σ (fun σ' => am_E σ' e [] ∧ am_only [e, e + 1] σ σ') := by
  refine am_M.go (by decide) (Nat.le_of_ble_eq_true rfl) rfl ?_
  refine S_X0_clear_0 (by assumption) ?_
  refine S_X0_clear_5 ?_
  exact ⟨⟨am_up_at, fun i hi => absurd hi (Nat.not_lt_zero _), Nat.zero_le _⟩, am_only.pI List.mem_cons_self⟩
theorem c_add (d : Nat) {e : Nat} {w : List Int} {x : Int} (he : am_isE e) (hE : am_E σ e w) (hl : w.length < am_es e) : am_MV G (d + 1) mX0_add [am_r (some e), am_i x] σ (fun σ' => am_E σ' e (w ++ [x]) ∧ am_only [e, e + 1] σ σ') := by
  have h1 := hE.1
  have h2 := am_es_le e
  have fin : am_E (am_pI (am_pI σ (e + 1) (σ.1 e 1) x) e 1 ((am_pI σ (e + 1) (σ.1 e 1) x).1 e 1 + 1)) e (w ++ [x]) ∧ am_only [e, e + 1] σ (am_pI (am_pI σ (e + 1) (σ.1 e 1) x) e 1 ((am_pI σ (e + 1) (σ.1 e 1) x).1 e 1 + 1)) := by
    refine ⟨⟨?_, ?_, ?_⟩, (am_only.pI (List.mem_cons_of_mem _ List.mem_cons_self)).trans (am_only.pI List.mem_cons_self)⟩
    · show am_up (am_up σ.1 (e + 1) (σ.1 e 1) x) e 1 _ e 1 = _
      rw [am_up_at]
      show am_up σ.1 (e + 1) (σ.1 e 1) x e 1 + 1 = _
      rw [am_up_ne (by omega), h1, List.length_append]
      rfl
    · show am_isL (am_up (am_up σ.1 (e + 1) (σ.1 e 1) x) e 1 _ (e + 1)) _
      rw [am_up_ne (by omega), am_up_eq, h1]
      exact hE.2.1.snoc
    · rw [List.length_append]
      exact hl
  refine am_M.go (by decide) (Nat.le_of_ble_eq_true rfl) rfl ?_
  refine S_X0_add_0 (by assumption) (by omega) (by omega) (fun h0 => ?_) (fun h0 => ?_)
  · refine S_X0_add_32 ?_
    first | exact absurd h0 (by omega) | exact fin
  · refine S_X0_add_12 (by assumption) (by omega) (by omega) ?_
    refine S_X0_add_22 (by assumption) ?_
    refine S_X0_add_32 ?_
    first | exact absurd h0 (by omega) | exact fin
theorem c_drop (d : Nat) {e : Nat} {w : List Int} {x : Int} (he : am_isE e) (hE : am_E σ e (w ++ [x])) : am_MI G (d + 2) mX0_drop [am_r (some e)] σ (fun y σ' => y = x ∧ am_E σ' e w ∧ am_only [e, e + 1] σ σ') := by
  obtain ⟨h1, h3, h4⟩ := hE
  rw [List.length_append] at h1 h4
  have h1 : σ.1 e 1 = (w.length : Int) + 1 := h1
  have h4 : w.length + 1 ≤ am_es e := h4
  have h2 := am_es_le e
  have hs := shE1 he
  refine am_M.go (by decide) (Nat.le_of_ble_eq_true rfl) rfl ?_
  refine S_X0_drop_0 he (by omega) (fun h0 => ?_) (fun h0 => ?_)
  · refine S_X0_drop_9 he ?_
    have e1 : (am_pI σ e 1 (σ.1 e 1 - 1)).1 e 1 = w.length := by
      show am_up σ.1 e 1 _ e 1 = _
      rw [am_up_at]
      omega
    have e2 : (am_pI σ e 1 (σ.1 e 1 - 1)).1 (e + 1) = σ.1 (e + 1) := am_up_ne (by omega)
    refine S_X0_drop_19 he (c_at _ hs (by omega)) ?_
    rintro _ _ ⟨rfl, rfl⟩
    refine ⟨?_, ⟨e1, by rw [e2]; exact (by have := h3.take w.length; rwa [List.take_left] at this), by omega⟩, am_only.pI List.mem_cons_self⟩
    rw [if_pos (by omega), e1, e2, h3 w.length (by rw [List.length_append]; exact Nat.lt_succ_self _), List.getD_eq_getElem?_getD, List.getElem?_append_right (Nat.le_refl _)]
    simp
  · exact absurd h0 (by omega)
theorem c_size (d : Nat) {e : Nat} {w : List Int} (he : am_isE e) (hE : am_E σ e w) : am_MI G (d + 1) mX0_size [am_r (some e)] σ (fun y σ' => y = w.length ∧ σ = σ') := by
  refine am_M.go (by decide) (Nat.le_of_ble_eq_true rfl) rfl ?_
  refine S_X0_size_0 (by assumption) ?_
  exact ⟨hE.1, rfl⟩
theorem c_elements (d : Nat) {e : Nat} {w : List Int} (he : am_isE e) (hE : am_E σ e w) : am_MI G (d + 1) mX0_elements [am_r (some e)] σ (fun y σ' => y = (w.length : Int).tdiv 2 ∧ σ = σ') := by
  have h1 := hE.1
  have h2 := am_es_le e
  have h3 := hE.2.2
  refine am_M.go (by decide) (Nat.le_of_ble_eq_true rfl) rfl ?_
  refine S_X0_elements_0 (by assumption) (by omega) ?_
  rw [h1]
  exact ⟨rfl, rfl⟩
theorem c_signAt (d : Nat) {e : Nat} {w : List Int} {i : Int} (he : am_isE e) (hE : am_E σ e w) (hi : -2147483648 ≤ i ∧ i ≤ 2147483647) : am_MI G (d + 2) mX0_signAt [am_r (some e), am_i i] σ (fun y σ' => y = (if 0 ≤ i ∧ i < w.length then w.getD i.toNat 0 else -1) ∧ σ = σ') := by
  have h1 := hE.1
  have h2 := am_es_le e
  have h3 := hE.2.2
  have hs := shE1 he
  refine am_M.go (by decide) (Nat.le_of_ble_eq_true rfl) rfl ?_
  refine S_X0_signAt_0 (by omega) (fun h0 => ?_) (fun h0 => ?_)
  · refine S_X0_signAt_23 ?_
    refine S_X0_signAt_24 ?_
    first | (rw [if_neg (by omega)]; exact ⟨rfl, rfl⟩) | (rw [if_pos (by omega), if_pos (by omega)]; have e9 := hE.2.1 i.toNat (by omega); rw [Int.toNat_of_nonneg (by omega)] at e9; exact ⟨e9, rfl⟩)
  · refine S_X0_signAt_4 (by assumption) (by omega) (by omega) (fun h4 => ?_) (fun h4 => ?_)
    · refine S_X0_signAt_23 ?_
      refine S_X0_signAt_24 ?_
      first | (rw [if_neg (by omega)]; exact ⟨rfl, rfl⟩) | (rw [if_pos (by omega), if_pos (by omega)]; have e9 := hE.2.1 i.toNat (by omega); rw [Int.toNat_of_nonneg (by omega)] at e9; exact ⟨e9, rfl⟩)
    · refine S_X0_signAt_12 (by assumption) (c_at _ (by assumption) (by omega)) ?_
      rintro _ _ ⟨rfl, rfl⟩
      refine S_X0_signAt_20 ?_
      refine S_X0_signAt_24 ?_
      first | (rw [if_neg (by omega)]; exact ⟨rfl, rfl⟩) | (rw [if_pos (by omega), if_pos (by omega)]; have e9 := hE.2.1 i.toNat (by omega); rw [Int.toNat_of_nonneg (by omega)] at e9; exact ⟨e9, rfl⟩)
/-- how deep a row goes: now and at most -/
def am_dpt : List Int → Int → Int → Int
  | [], _, m => m
  | x :: l, n, m => am_dpt l (n + (if x = 3 then -1 else 1)) (max m (n + (if x = 3 then -1 else 1)))
theorem c_depth (d : Nat) {e : Nat} {w : List Int} (he : am_isE e) (hE : am_E σ e w) (hw : ∀ x ∈ w, 0 ≤ x ∧ x ≤ 3) : am_MI G (d + 2) mX0_depth [am_r (some e)] σ (fun y σ' => y = am_dpt w 0 0 ∧ σ = σ') := by
  have h1 := hE.1
  have h2 := am_es_le e
  have h3 := hE.2.2
  have hs := shE1 he
  refine am_M.go (by decide) (Nat.le_of_ble_eq_true rfl) rfl ?_
  have loop : ∀ (l : List Int) (i : Nat) (n m : Int), w.drop i = l → i ≤ w.length → n ≤ i → -5000 ≤ m → m ≤ i → -(i : Int) ≤ n → am_X (am_FI G (d + 2) (fun y σ' => y = am_dpt w 0 0 ∧ σ = σ')) mX0_depth (0, 0) 6 [some (am_r (some e)), some (am_i n), some (am_i m), some (am_i i)] [] (am_K0, σ) ∨ am_dpt l n m ≠ am_dpt w 0 0 := by
    intro l
    induction l with
    | nil =>
      intro i n m hd hi hn2 hm hm2 hn3
      by_cases q : am_dpt [] n m = am_dpt w 0 0
      · left
        have : w.length ≤ i := List.drop_eq_nil_iff.mp hd
        refine S_X0_depth_6 (by assumption) (by omega) (by omega) (fun h6 => ?_) (fun h6 => ?_)
        · refine S_X0_depth_46 ?_
          exact ⟨q, rfl⟩
        · exact absurd h6 (by omega)
      · exact Or.inr q
    | cons x l ih =>
      intro i n m hd hi hn2 hm hm2 hn3
      by_cases q : am_dpt (x :: l) n m = am_dpt w 0 0
      · left
        have hlt : i < w.length := by
          by_cases z : i < w.length
          · exact z
          · rw [List.drop_eq_nil_iff.mpr (by omega)] at hd
            cases hd
        have hx : w.getD i 0 = x := by
          have := List.getElem?_drop (xs := w) (i := i) (j := 0)
          rw [hd] at this
          rw [List.getD_eq_getElem?_getD, ← Nat.add_zero i, ← this]
          rfl
        have hd2 : w.drop (i + 1) = l := by
          rw [← List.drop_drop, hd]
          rfl
        have hxr : 0 ≤ x ∧ x ≤ 3 := hw x (by have := List.mem_of_getElem? (l := w.drop i) (i := 0) (a := x) (by rw [hd]; rfl); exact List.mem_of_mem_drop this)
        have hv : (if 0 ≤ (i : Int) ∧ (i : Int) < (am_es e : Int) then σ.1 (e + 1) i else -1) = x := by
          rw [if_pos (by omega), hE.2.1 i hlt, hx]
        have go : ∀ s : Int, s = (if x = 3 then -1 else 1) → am_X (am_FI G (d + 2) (fun y σ' => y = am_dpt w 0 0 ∧ σ = σ')) mX0_depth (0, 0) 32 [some (am_r (some e)), none, some (am_i m), some (am_i i)] [am_i s, am_i n] (am_K0, σ) := by
          intro s hs9
          have hs1 : s = -1 ∨ s = 1 := by rw [hs9]; split <;> omega
          have q2 : am_dpt l (n + s) (max m (n + s)) = am_dpt w 0 0 := by rw [hs9]; exact q
          refine S_X0_depth_32 ?_
          refine S_X0_depth_34 (c_max _ (by omega) (by omega)) ?_
          rintro _ _ ⟨rfl, rfl⟩
          refine S_X0_depth_40 ?_
          rcases ih (i + 1) (n + s) (max m (n + s)) hd2 (by omega) (by omega) (by omega) (by omega) (by omega) with z | z
          · exact z
          · exact absurd q2 z
        refine S_X0_depth_6 (by assumption) (by omega) (by omega) (fun h6 => ?_) (fun h6 => ?_)
        · exact absurd h6 (by omega)
        · refine S_X0_depth_14 (by assumption) (c_at _ (by assumption) (by omega)) ?_
          rintro _ _ ⟨rfl, rfl⟩
          rw [hv]
          refine S_X0_depth_23 (by omega) (fun h23 => ?_) (fun h23 => ?_)
          · exact S_X0_depth_31 (go 1 (by rw [if_neg h23]))
          · exact S_X0_depth_27 (go (-1) (by rw [if_pos (Classical.not_not.mp h23)]))
      · exact Or.inr q
  refine S_X0_depth_0 ?_
  refine S_X0_depth_2 ?_
  refine S_X0_depth_4 ?_
  rcases loop w 0 0 0 rfl (by omega) (by omega) (by omega) (by omega) (by omega) with z | z
  · exact z
  · exact absurd rfl z
theorem c_become (d : Nat) {e o : Nat} {w : List Int} (he : am_isE e) (ho : am_isE o) (hne : e ≠ o) (hE : am_E σ o w) (hl : w.length ≤ am_es e) : am_MV G (d + 3) mX0_become [am_r (some e), am_r (some o)] σ (fun σ' => am_E σ' e w ∧ am_only [e, e + 1] σ σ') := by
  have h2 := am_es_le e
  have h3 := hE.2.2
  have hnm : o ∉ [e, e + 1] ∧ o + 1 ∉ [e, e + 1] := by
    simp only [List.mem_cons, List.not_mem_nil, or_false]
    rcases he with rfl | rfl | rfl <;> rcases ho with rfl | rfl | rfl <;> omega
  have hEo : ∀ τ, am_only [e, e + 1] σ τ → am_E τ o w := fun τ h => ⟨by rw [h.1 o hnm.1]; exact hE.1, by rw [h.1 (o + 1) hnm.2]; exact hE.2.1, hE.2.2⟩
  refine am_M.go (by decide) (Nat.le_of_ble_eq_true rfl) rfl ?_
  have loop : ∀ (m : Nat) (i : Nat) (τ : am_D), i ≤ w.length → w.length - i ≤ m → am_E τ e (w.take i) → am_only [e, e + 1] σ τ → am_X (am_FV G (d + 3) (fun σ' => am_E σ' e w ∧ am_only [e, e + 1] σ σ')) mX0_become (0, 0) 7 [some (am_r (some e)), some (am_r (some o)), some (am_i i)] [] (am_K0, τ) := by
    intro m
    induction m with
    | zero =>
      intro i τ hi hm hEt hot
      have hEo2 := hEo τ hot
      have h1 := hEo2.1
      have : i = w.length := by omega
      subst this
      rw [List.take_length] at hEt
      refine S_X0_become_7 (by assumption) (by omega) (by omega) (fun h7 => ?_) (fun h7 => ?_)
      · refine S_X0_become_30 ?_
        exact ⟨hEt, hot⟩
      · exact absurd h7 (by omega)
    | succ m ih =>
      intro i τ hi hm hEt hot
      have hEo2 := hEo τ hot
      have h1 := hEo2.1
      by_cases hlt : i < w.length
      · have hlt2 : (w.take i).length < am_es e := by rw [List.length_take]; omega
        have hsn : w.take i ++ [w.getD i 0] = w.take (i + 1) := by
          rw [List.take_add_one, List.getD_eq_getElem?_getD, List.getElem?_eq_getElem hlt]
          rfl
        refine S_X0_become_7 (by assumption) (by omega) (by omega) (fun h7 => ?_) (fun h7 => ?_)
        · exact absurd h7 (by omega)
        · refine S_X0_become_15 (c_signAt _ (by assumption) (by assumption) (by omega)) (by assumption) ?_
          rintro _ _ ⟨rfl, rfl⟩
          rw [if_pos (by omega), Int.toNat_natCast]
          refine S_X0_become_21 (c_add _ he hEt hlt2) he ?_
          rintro σ2 ⟨hE2, ho2⟩
          refine S_X0_become_24 ?_
          rw [hsn] at hE2
          exact ih (i + 1) σ2 (by omega) (by omega) hE2 (hot.trans ho2)
      · have : i = w.length := by omega
        subst this
        rw [List.take_length] at hEt
        refine S_X0_become_7 (by assumption) (by omega) (by omega) (fun h7 => ?_) (fun h7 => ?_)
        · refine S_X0_become_30 ?_
          exact ⟨hEt, hot⟩
        · exact absurd h7 (by omega)
  refine S_X0_become_0 (by assumption) ?_
  refine S_X0_become_5 ?_
  exact loop w.length 0 _ (by omega) (by omega) ⟨am_up_at, fun i hi => absurd hi (Nat.not_lt_zero _), Nat.zero_le _⟩ (am_only.pI List.mem_cons_self)
end
