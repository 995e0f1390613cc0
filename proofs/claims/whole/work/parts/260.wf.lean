section
/-! What a text tells is well made; signed bytes tell the same. -/
theorem sl_ex_wf {bs : Int → Int} {n rg : Int} {stk : Bool} : ∀ (f : Nat) (p dp own : Int) (seen acc : List Int) (p' own' : Int) (seen' acc' : List Int), p ≤ n → n - p < f → 0 ≤ dp → 0 ≤ own ∧ own ≤ 6 → rg ≤ 3 → sl_ex bs n rg stk f p dp own seen acc = .inr (p', own', seen', acc') →
    ∃ w, acc' = acc ++ w ∧ rd_bal dp w ∧ (∀ s ∈ w, (0 ≤ s ∧ s ≤ 3) ∨ (4 ≤ s ∧ s < 4 + rg) ∨ (stk = true ∧ 8 ≤ s ∧ s < 8 + rg)) ∧ (w.filter (fun s => decide (4 ≤ s))).Nodup ∧ (∀ s ∈ w, 4 ≤ s → s ∉ seen) ∧ (∀ s, s ∈ seen' → s ∈ seen ∨ (s ∈ w ∧ 4 ≤ s)) ∧ (∀ s, s ∈ seen ∨ (s ∈ w ∧ 4 ≤ s) → s ∈ seen') ∧ own' = own + (w.countP (· < 3) : Nat) ∧ own' ≤ 6 := by
  intro f
  induction f with
  | zero => intro p dp own seen acc p' own' seen' acc' h1 h2; omega
  | succ f ih =>
    intro p dp own seen acc p' own' seen' acc' hp hf hdp ho hrg h
    have hin := tk_in (bs := bs) hp
    have hin2 := tk_in (bs := bs) (n := n) (p := tk_sp bs n p) (by omega)
    unfold sl_ex at h
    by_cases h60 : tk_k bs n p = 60
    · have hlt := tk_lt (bs := bs) (n := n) (p := p) (by omega)
      rw [if_pos h60] at h
      by_cases h6 : 6 ≤ own
      · rw [if_pos h6] at h; exact nomatch h
      rw [if_neg h6] at h
      by_cases hl : sl_let bs n (tk_sp bs n p) = -1
      · rw [if_pos hl] at h; exact nomatch h
      rw [if_neg hl] at h
      have hlr := sl_let_rg bs n (tk_sp bs n p)
      generalize sl_let bs n (tk_sp bs n p) = l at *
      obtain ⟨w, e1, e2, e3, e4, e5, e6, e6', e7, e8⟩ := ih _ _ _ _ _ _ _ _ _ (by omega) (by omega) (by omega) (by omega) hrg h
      refine ⟨l :: w, by rw [e1]; simp, ?_, ?_, ?_, ?_, ?_, ?_, ?_, e8⟩
      · unfold rd_bal
        rw [if_pos (by omega)]
        exact e2
      · intro s hs
        rcases List.mem_cons.mp hs with rfl | hs
        · exact Or.inl (by omega)
        · exact e3 s hs
      · rw [List.filter_cons, if_neg (by simp; omega)]
        exact e4
      · intro s hs h4
        rcases List.mem_cons.mp hs with rfl | hs
        · omega
        · exact e5 s hs h4
      · intro s hs
        rcases e6 s hs with h | h
        · exact Or.inl h
        · exact Or.inr ⟨List.mem_cons_of_mem _ h.1, h.2⟩
      · intro s hs
        rcases hs with h | ⟨h, h4⟩
        · exact e6' s (Or.inl h)
        · rcases List.mem_cons.mp h with rfl | h
          · omega
          · exact e6' s (Or.inr ⟨h, h4⟩)
      · rw [List.countP_cons, if_pos (by simp; omega)]
        omega
    · rw [if_neg h60] at h
      by_cases h62 : tk_k bs n p = 62 ∧ 0 < dp
      · have hlt := tk_lt (bs := bs) (n := n) (p := p) (by omega)
        rw [if_pos h62] at h
        obtain ⟨w, e1, e2, e3, e4, e5, e6, e6', e7, e8⟩ := ih _ _ _ _ _ _ _ _ _ (by omega) (by omega) (by omega) ho hrg h
        refine ⟨3 :: w, by rw [e1]; simp, ?_, ?_, ?_, ?_, ?_, ?_, ?_, e8⟩
        · unfold rd_bal
          rw [if_neg (by decide), if_pos rfl]
          exact ⟨h62.2, e2⟩
        · intro s hs
          rcases List.mem_cons.mp hs with rfl | hs
          · exact Or.inl (by omega)
          · exact e3 s hs
        · rw [List.filter_cons, if_neg (by decide)]
          exact e4
        · intro s hs h4
          rcases List.mem_cons.mp hs with rfl | hs
          · omega
          · exact e5 s hs h4
        · intro s hs
          rcases e6 s hs with h | h
          · exact Or.inl h
          · exact Or.inr ⟨List.mem_cons_of_mem _ h.1, h.2⟩
        · intro s hs
          rcases hs with h | ⟨h, h4⟩
          · exact e6' s (Or.inl h)
          · rcases List.mem_cons.mp h with rfl | h
            · omega
            · exact e6' s (Or.inr ⟨h, h4⟩)
        · rw [List.countP_cons, if_neg (by decide)]
          omega
      · rw [if_neg h62] at h
        by_cases hw : sl_w1 bs n 120 p = true ∨ (stk = true ∧ sl_w1 bs n 121 p = true)
        · have hkw : tk_k bs n p = 97 := by
            rcases hw with z | ⟨-, z⟩ <;> (unfold sl_w1 at z; simp at z; exact z.1)
          have hlt := tk_lt (bs := bs) (n := n) (p := p) (by omega)
          rw [if_pos hw] at h
          have hdr := sl_dig_rg bs n (tk_sp bs n p) 0 (rg - 1)
          by_cases hd : sl_dig bs n 0 (rg - 1) (tk_sp bs n p) < 0
          · rw [if_pos hd] at h; exact nomatch h
          rw [if_neg hd] at h
          have hk : ∃ k : Int, (if sl_w1 bs n 120 p = true then (4 : Int) else 8) = k ∧ (k = 4 ∨ (k = 8 ∧ stk = true)) := by
            by_cases z : sl_w1 bs n 120 p = true
            · exact ⟨4, if_pos z, Or.inl rfl⟩
            · exact ⟨8, if_neg z, Or.inr ⟨rfl, (hw.resolve_left z).1⟩⟩
          obtain ⟨k, hk1, hk2⟩ := hk
          rw [hk1] at h
          generalize sl_dig bs n 0 (rg - 1) (tk_sp bs n p) = g at *
          by_cases hm : k + g ∈ seen
          · rw [if_pos hm] at h; exact nomatch h
          rw [if_neg hm] at h
          obtain ⟨w, e1, e2, e3, e4, e5, e6, e6', e7, e8⟩ := ih _ _ _ _ _ _ _ _ _ (by omega) (by omega) hdp ho hrg h
          have h4k : 4 ≤ k + g := by omega
          refine ⟨(k + g) :: w, by rw [e1]; simp, ?_, ?_, ?_, ?_, ?_, ?_, ?_, e8⟩
          · unfold rd_bal
            rw [if_neg (by omega), if_neg (by omega)]
            exact e2
          · intro s hs
            rcases List.mem_cons.mp hs with rfl | hs
            · rcases hk2 with z | ⟨z, y⟩
              · exact Or.inr (Or.inl (by omega))
              · exact Or.inr (Or.inr ⟨y, by omega, by omega⟩)
            · exact e3 s hs
          · rw [List.filter_cons, if_pos (by simpa using h4k)]
            refine List.nodup_cons.mpr ⟨fun z => ?_, e4⟩
            have z := (List.mem_filter.mp z).1
            exact e5 _ z h4k List.mem_cons_self
          · intro s hs h4
            rcases List.mem_cons.mp hs with rfl | hs
            · exact hm
            · exact fun z => e5 s hs h4 (List.mem_cons_of_mem _ z)
          · intro s hs
            rcases e6 s hs with h | h
            · rcases List.mem_cons.mp h with rfl | h
              · exact Or.inr ⟨List.mem_cons_self, h4k⟩
              · exact Or.inl h
            · exact Or.inr ⟨List.mem_cons_of_mem _ h.1, h.2⟩
          · intro s hs
            rcases hs with h | ⟨h, h4⟩
            · exact e6' s (Or.inl (List.mem_cons_of_mem _ h))
            · rcases List.mem_cons.mp h with rfl | h
              · exact e6' _ (Or.inl List.mem_cons_self)
              · exact e6' s (Or.inr ⟨h, h4⟩)
          · rw [List.countP_cons, if_neg (by simp; omega)]
            omega
        · rw [if_neg hw] at h
          by_cases hd : 0 < dp
          · rw [if_pos hd] at h; exact nomatch h
          rw [if_neg hd] at h
          injection h with h
          injection h with h1 h
          injection h with h2 h
          injection h with h3 h4
          subst h1; subst h2; subst h3; subst h4
          exact ⟨[], by simp, by show dp = 0; omega, fun s hs => (by cases hs), by simp, fun s hs => (by cases hs), fun s hs => Or.inl hs, fun s hs => hs.elim id (fun z => (by cases z.1)), by simp, by omega⟩
theorem sl_ex_n {bs : Int → Int} {n rg : Int} {stk : Bool} : ∀ (f : Nat) (p dp own : Int) (seen acc : List Int) (p' own' : Int) (seen' acc' : List Int), p ≤ n → sl_ex bs n rg stk f p dp own seen acc = .inr (p', own', seen', acc') → p' ≤ n := by
  intro f
  induction f with
  | zero =>
    intro p dp own seen acc p' own' seen' acc' hp h
    unfold sl_ex at h
    injection h with h
    injection h with h _
    omega
  | succ f ih =>
    intro p dp own seen acc p' own' seen' acc' hp h
    have hin := tk_in (bs := bs) hp
    have hin2 := tk_in (bs := bs) (n := n) (p := tk_sp bs n p) (by omega)
    unfold sl_ex at h
    by_cases h60 : tk_k bs n p = 60
    · rw [if_pos h60] at h
      split at h
      · exact nomatch h
      · split at h
        · exact nomatch h
        · have := ih _ _ _ _ _ _ _ _ _ (by omega) h
          omega
    · rw [if_neg h60] at h
      by_cases h62 : tk_k bs n p = 62 ∧ 0 < dp
      · rw [if_pos h62] at h
        have := ih _ _ _ _ _ _ _ _ _ (by omega) h
        omega
      · rw [if_neg h62] at h
        by_cases hw : sl_w1 bs n 120 p = true ∨ (stk = true ∧ sl_w1 bs n 121 p = true)
        · rw [if_pos hw] at h
          by_cases hd : sl_dig bs n 0 (rg - 1) (tk_sp bs n p) < 0
          · rw [if_pos hd] at h
            exact nomatch h
          · rw [if_neg hd] at h
            by_cases hm : (if sl_w1 bs n 120 p = true then 4 else 8) + sl_dig bs n 0 (rg - 1) (tk_sp bs n p) ∈ seen
            · rw [if_pos hm] at h
              exact nomatch h
            · rw [if_neg hm] at h
              have := ih _ _ _ _ _ _ _ _ _ (by omega) h
              omega
        · rw [if_neg hw] at h
          split at h
          · exact nomatch h
          · injection h with h
            injection h with h _
            omega
theorem sm_exs_wf {bs : Int → Int} {n rg : Int} (hn : 0 ≤ n ∧ n ≤ 600) : ∀ (k : Nat) (fst : Bool) (p own : Int) (seen : List Int) (xs : List (List Int)) (p' own' : Int) (xs' : List (List Int)), 0 ≤ p → p ≤ n → 0 ≤ own ∧ own ≤ 6 → rg ≤ 3 → sm_exs bs n rg k fst p own seen xs = .inr (p', own', xs') →
    ∃ ws, xs' = xs ++ ws ∧ (∀ w ∈ ws, rd_bal 0 w) ∧ (∀ s ∈ ws.flatten, (0 ≤ s ∧ s ≤ 3) ∨ (4 ≤ s ∧ s < 4 + rg) ∨ (true = true ∧ 8 ≤ s ∧ s < 8 + rg)) ∧ (ws.flatten.filter (fun s => decide (4 ≤ s))).Nodup ∧ (∀ s ∈ ws.flatten, 4 ≤ s → s ∉ seen) ∧ own' = own + (ws.flatten.countP (· < 3) : Nat) ∧ own' ≤ 6 ∧ p ≤ p' := by
  intro k
  induction k with
  | zero =>
    intro fst p own seen xs p' own' xs' _ _ ho _ h
    injection h with h
    injection h with h1 h
    injection h with h2 h3
    subst h2; subst h3
    exact ⟨[], by simp, fun w hw => (by cases hw), fun s hs => (by cases hs), by simp, fun s hs => (by cases hs), by simp, by omega, by omega⟩
  | succ k ih =>
    intro fst p own seen xs p' own' xs' hp0 hp ho hrg h
    unfold sm_exs at h
    by_cases z : fst = false ∧ tk_k bs n p ≠ 44
    · rw [if_pos z] at h; exact nomatch h
    rw [if_neg z] at h
    have hin := tk_in (bs := bs) hp
    cases hY : sl_ex bs n rg true 700 (tk_sp bs n p) 0 own seen [] with
    | inl F => rw [hY] at h; exact nomatch h
    | inr r =>
      obtain ⟨p1, own1, seen1, acc⟩ := r
      rw [hY] at h
      have hle := sl_ex_le _ _ _ _ _ _ _ _ _ _ (by omega) hY
      obtain ⟨w, e1, e2, e3, e4, e5, e6, e6', e7, e8⟩ := sl_ex_wf 700 _ _ _ _ _ _ _ _ _ (by omega) (by omega) (Int.le_refl _) ho hrg hY
      rw [List.nil_append] at e1
      subst e1
      have hp1 : p1 ≤ n := sl_ex_n _ _ _ _ _ _ _ _ _ _ (by omega) hY
      obtain ⟨ws, g1, g2, g3, g4, g5, g7, g8, g9⟩ := ih false p1 own1 seen1 (xs ++ [acc]) p' own' xs' (by omega) hp1 (by omega) hrg h
      refine ⟨acc :: ws, by rw [g1]; simp, ?_, ?_, ?_, ?_, ?_, g8, by omega⟩
      · intro v hv
        rcases List.mem_cons.mp hv with rfl | hv
        · exact e2
        · exact g2 v hv
      · intro s hs
        rw [List.flatten_cons] at hs
        rcases List.mem_append.mp hs with hs | hs
        · exact e3 s hs
        · exact g3 s hs
      · rw [List.flatten_cons, List.filter_append]
        refine List.nodup_append.mpr ⟨e4, g4, fun a ha b hb e => ?_⟩
        subst e
        obtain ⟨ha1, ha2⟩ := List.mem_filter.mp ha
        obtain ⟨hb1, hb2⟩ := List.mem_filter.mp hb
        exact g5 a hb1 (by simpa using hb2) (e6' a (Or.inr ⟨ha1, by simpa using ha2⟩))
      · intro s hs h4
        rw [List.flatten_cons] at hs
        rcases List.mem_append.mp hs with hs | hs
        · exact e5 s hs h4
        · exact fun y => g5 s hs h4 (e6' s (Or.inl y))
      · rw [List.flatten_cons, List.countP_append]
        omega
/-- how many RULES there are of each kind -/
def pm_ct (f : Nat → Bool) (n : Nat) : Nat := (List.range n).countP f
theorem pm_ct_set {f : Nat → Bool} {j : Nat} : ∀ {n : Nat}, j < n → f j = false → pm_ct (fun i => if i = j then true else f i) n = pm_ct f n + 1 := by
  intro n
  induction n with
  | zero => intro h; omega
  | succ n ih =>
    intro h hj
    unfold pm_ct at ih ⊢
    rw [List.range_succ, List.countP_append, List.countP_append]
    by_cases e : j = n
    · subst e
      have h1 : (List.range j).countP (fun i => if i = j then true else f i) = (List.range j).countP f := by
        apply List.countP_congr
        intro i hi
        have := List.mem_range.mp hi
        rw [if_neg (by omega)]
      rw [h1]
      simp [hj]
    · rw [ih (by omega) hj]
      have : ([n] : List Nat).countP (fun i => if i = j then true else f i) = [n].countP f := by
        simp only [List.countP_cons, List.countP_nil]
        rw [if_neg (show ¬ n = j by omega)]
      rw [this]
      omega
def pm_cn (P : am_P) : Prop := pm_nO P = pm_ct (fun j => decide (pm_oT P ((j / 6 : Nat) : Int) ((j % 6 : Nat) : Int) ≠ -1)) 18 ∧ pm_nC P = pm_ct (fun j => decide (pm_cT P ((j / 36 : Nat) : Int) ((j / 6 % 6 : Nat) : Int) ((j % 6 : Nat) : Int) ≠ -1)) 108 ∧ pm_nE P = pm_ct (fun j => (pm_eX P ((j : Nat) : Int)).isSome) 6
/-- what a told MACHINE keeps to -/
def pm_good (P : am_P) : Prop := pm_wf P ∧ pm_cn P ∧ 1 ≤ pm_R P ∧ pm_R P ≤ 3 ∧ 1 ≤ pm_S P ∧ pm_S P ≤ 6
theorem pm_good_0 {s r : Int} (hs : 1 ≤ s ∧ s ≤ 6) (hr : 1 ≤ r ∧ r ≤ 3) : pm_good (pm_0 s r) := by
  refine ⟨⟨fun l q k z => absurd rfl z, fun q w h => nomatch h⟩, ⟨?_, ?_, ?_⟩, hr.1, hr.2, hs.1, hs.2⟩
  · show (0 : Int) = ((pm_ct (fun _ => decide ((-1 : Int) ≠ -1)) 18 : Nat) : Int); decide
  · show (0 : Int) = ((pm_ct (fun _ => decide ((-1 : Int) ≠ -1)) 108 : Nat) : Int); decide
  · show (0 : Int) = ((pm_ct (fun _ => (none : Option (List Int)).isSome) 6 : Nat) : Int); decide
theorem pm_good_O {P : am_P} {l q to mk : Int} (h : pm_good P) (hl : 0 ≤ l ∧ l < 3) (hq : 0 ≤ q ∧ q < 6) (hno : pm_oT P l q = -1) (hto : 0 ≤ to) : pm_good (pm_addO P l q to mk) := by
  obtain ⟨h1, ⟨c1, c2, c3⟩, h3⟩ := h
  refine ⟨h1, ⟨?_, c2, c3⟩, h3⟩
  show pm_nO P + 1 = _
  rw [c1, ← Int.natCast_succ, Nat.succ_eq_add_one, ← pm_ct_set (j := (6 * l + q).toNat) (by omega) (by
    have e1 : (((6 * l + q).toNat / 6 : Nat) : Int) = l := by omega
    have e2 : (((6 * l + q).toNat % 6 : Nat) : Int) = q := by omega
    rw [e1, e2, hno]; rfl)]
  congr 1
  unfold pm_ct
  apply List.countP_congr
  intro j hj
  have hj := List.mem_range.mp hj
  show (if j = (6 * l + q).toNat then true else _) = true ↔ decide (pm_u2 (pm_oT P) l q to _ _ ≠ -1) = true
  unfold pm_u2
  by_cases z : j = (6 * l + q).toNat
  · rw [if_pos z, if_pos (by omega)]
    exact ⟨fun _ => decide_eq_true (by omega), fun _ => rfl⟩
  · rw [if_neg z, if_neg (by omega)]
theorem pm_good_C {P : am_P} {l q k to own : Int} {xs : List (List Int)} (h : pm_good P) (hl : 0 ≤ l ∧ l < 3) (hq : 0 ≤ q ∧ q < 6) (hk : 0 ≤ k ∧ k < 6) (hno : pm_cT P l q k = -1) (hto : 0 ≤ to) (hx : pm_ex (pm_R P) true xs.flatten ∧ ∀ w ∈ xs, rd_bal 0 w) : pm_good (pm_addC P l q k to xs own) := by
  obtain ⟨⟨a1, a2⟩, ⟨c1, c2, c3⟩, h3⟩ := h
  refine ⟨⟨fun l' q' k' z => ?_, a2⟩, ⟨c1, ?_, c3⟩, h3⟩
  · have z : pm_u3 (pm_cT P) l q k to l' q' k' ≠ -1 := z
    show pm_ex (pm_R P) true (pm_u3 (pm_cX P) l q k xs l' q' k').flatten ∧ ∀ w ∈ pm_u3 (pm_cX P) l q k xs l' q' k', rd_bal 0 w
    unfold pm_u3 at z ⊢
    by_cases y : l' = l ∧ q' = q ∧ k' = k
    · rw [if_pos y]; exact hx
    · rw [if_neg y] at z ⊢; exact a1 l' q' k' z
  · show pm_nC P + 1 = _
    rw [c2, ← Int.natCast_succ, Nat.succ_eq_add_one, ← pm_ct_set (j := (36 * l + 6 * q + k).toNat) (by omega) (by
      have e1 : (((36 * l + 6 * q + k).toNat / 36 : Nat) : Int) = l := by omega
      have e2 : (((36 * l + 6 * q + k).toNat / 6 % 6 : Nat) : Int) = q := by omega
      have e3 : (((36 * l + 6 * q + k).toNat % 6 : Nat) : Int) = k := by omega
      rw [e1, e2, e3, hno]; rfl)]
    congr 1
    unfold pm_ct
    apply List.countP_congr
    intro j hj
    have hj := List.mem_range.mp hj
    show (if j = (36 * l + 6 * q + k).toNat then true else _) = true ↔ decide (pm_u3 (pm_cT P) l q k to _ _ _ ≠ -1) = true
    unfold pm_u3
    by_cases z : j = (36 * l + 6 * q + k).toNat
    · rw [if_pos z, if_pos (by omega)]
      exact ⟨fun _ => decide_eq_true (by omega), fun _ => rfl⟩
    · rw [if_neg z, if_neg (by omega)]
theorem pm_good_E {P : am_P} {q own : Int} {x : List Int} (h : pm_good P) (hq : 0 ≤ q ∧ q < 6) (hno : pm_eX P q = none) (hx : pm_ex (pm_R P) false x ∧ rd_bal 0 x) : pm_good (pm_addE P q x own) := by
  obtain ⟨⟨a1, a2⟩, ⟨c1, c2, c3⟩, h3⟩ := h
  refine ⟨⟨a1, fun q' w hw => ?_⟩, ⟨c1, c2, ?_⟩, h3⟩
  · have hw : am_u1 (pm_eX P) q (some x) q' = some w := hw
    by_cases y : q' = q
    · subst y
      rw [am_u1_eq] at hw
      injection hw with hw
      subst hw
      exact hx
    · rw [am_u1_ne y] at hw
      exact a2 q' w hw
  · show pm_nE P + 1 = _
    rw [c3, ← Int.natCast_succ, Nat.succ_eq_add_one, ← pm_ct_set (j := q.toNat) (by omega) (by
      have e1 : ((q.toNat : Nat) : Int) = q := by omega
      rw [e1, hno]; rfl)]
    congr 1
    unfold pm_ct
    apply List.countP_congr
    intro j hj
    have hj := List.mem_range.mp hj
    show (if j = q.toNat then true else _) = true ↔ (am_u1 (pm_eX P) q (some x) _).isSome = true
    by_cases z : j = q.toNat
    · have : (j : Int) = q := by omega
      rw [if_pos z, this, am_u1_eq]
      exact ⟨fun _ => rfl, fun _ => rfl⟩
    · rw [if_neg z, am_u1_ne (by omega)]
theorem sm_rule_good {bs : Int → Int} {n p p' : Int} {P P' : am_P} (hn : 0 ≤ n ∧ n ≤ 600) (hp : 0 ≤ p ∧ p ≤ n) (hg : pm_good P) (h : sm_rule bs n P p = .inr (P', p')) : pm_good P' ∧ 0 ≤ p' := by
  have i0 := tk_in (bs := bs) hp.2
  have i1 := tk_in (bs := bs) (n := n) (p := tk_sp bs n p) (by omega)
  have i2 := tk_in (bs := bs) (n := n) (p := tk_sp bs n (tk_sp bs n p)) (by omega)
  have i3 := tk_in (bs := bs) (n := n) (p := tk_sp bs n (tk_sp bs n (tk_sp bs n p))) (by omega)
  have i4 := tk_in (bs := bs) (n := n) (p := tk_sp bs n (tk_sp bs n (tk_sp bs n (tk_sp bs n p)))) (by omega)
  have i5 := tk_in (bs := bs) (n := n) (p := tk_sp bs n (tk_sp bs n (tk_sp bs n (tk_sp bs n (tk_sp bs n p))))) (by omega)
  have i6 := tk_in (bs := bs) (n := n) (p := tk_sp bs n (tk_sp bs n (tk_sp bs n (tk_sp bs n (tk_sp bs n (tk_sp bs n p)))))) (by omega)
  have hS := hg.2.2.2.2
  have hRg := hg.2.2
  unfold sm_rule at h
  split at h
  · exact nomatch h
  split at h
  · exact nomatch h
  generalize tk_sp bs n p = p1 at *
  split at h
  · -- open
    unfold sm_open at h
    have r1 := sl_let_rg bs n (tk_sp bs n p1)
    have r2 := sl_dig_rg bs n (tk_sp bs n (tk_sp bs n p1)) 0 (pm_S P - 1)
    have r3 := sl_dig_rg bs n (tk_sp bs n (tk_sp bs n (tk_sp bs n p1))) 0 (pm_S P - 1)
    split at h
    · exact nomatch h
    split at h
    · exact nomatch h
    split at h
    · exact nomatch h
    next z =>
    split at h
    · exact nomatch h
    split at h
    · exact nomatch h
    injection h with h
    injection h with h1 h2
    rw [← h1, ← h2]
    exact ⟨pm_good_O hg (by omega) (by omega) (Classical.not_not.mp z) (by omega), by omega⟩
  split at h
  · -- close
    unfold sm_close at h
    have r1 := sl_let_rg bs n (tk_sp bs n p1)
    have r2 := sl_dig_rg bs n (tk_sp bs n (tk_sp bs n p1)) 0 (pm_S P - 1)
    have r3 := sl_dig_rg bs n (tk_sp bs n (tk_sp bs n (tk_sp bs n p1))) 0 5
    have r4 := sl_dig_rg bs n (tk_sp bs n (tk_sp bs n (tk_sp bs n (tk_sp bs n p1)))) 0 (pm_S P - 1)
    split at h
    · exact nomatch h
    split at h
    · exact nomatch h
    split at h
    · exact nomatch h
    split at h
    · exact nomatch h
    next z =>
    split at h
    · exact nomatch h
    split at h
    · exact nomatch h
    split at h
    · exact nomatch h
    next p2 own2 xs2 hX =>
    injection h with h
    injection h with h1 h2
    obtain ⟨ws, g1, g2, g3, g4, g5, g7, g8, g9⟩ := sm_exs_wf hn _ _ _ _ _ _ _ _ _ (by omega) (by omega) (by omega) hRg.2.1 hX
    rw [List.nil_append] at g1
    subst g1
    rw [← h1, ← h2]
    exact ⟨pm_good_C hg (by omega) (by omega) (by omega) (Classical.not_not.mp z) (by omega) ⟨⟨g3, g4, by omega⟩, g2⟩, by omega⟩
  · -- end
    unfold sm_end at h
    have r2 := sl_dig_rg bs n (tk_sp bs n p1) 0 (pm_S P - 1)
    split at h
    · exact nomatch h
    split at h
    · exact nomatch h
    next z =>
    split at h
    · exact nomatch h
    split at h
    · exact nomatch h
    next p2 own2 seen2 acc2 hX =>
    injection h with h
    injection h with h1 h2
    obtain ⟨w, e1, e2, e3, e4, e5, e6, e6', e7, e8⟩ := sl_ex_wf 700 _ _ _ _ _ _ _ _ _ (by omega) (by omega) (Int.le_refl _) (by omega) hRg.2.1 hX
    rw [List.nil_append] at e1
    subst e1
    have hle := sl_ex_le _ _ _ _ _ _ _ _ _ _ (by omega) hX
    rw [← h1, ← h2]
    exact ⟨pm_good_E hg (by omega) (Classical.not_not.mp z) ⟨⟨e3, e4, by omega⟩, e2⟩, by omega⟩
end
