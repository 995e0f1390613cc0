section
/-! One TOKEN after another. -/
/-- the Tape looks at the TOKEN behind p, and there was no FAULT -/
def tg (bs : Int → Int) (n : Int) (t : Int → Int) (p : Int) : Prop := tk_ok bs t ∧ t 1 = n ∧ t 5 = 0 ∧ tk_atp bs t p ∧ 0 ≤ p ∧ p ≤ n
/-- there was a FAULT -/
def tf (bs : Int → Int) (_n : Int) (t : Int → Int) (F : Int) : Prop := tk_ok bs t ∧ t 5 = F ∧ 0 < F
theorem tg.adv {bs t : Int → Int} {n p : Int} (h : tg bs n t p) : tg bs n (tk_adv bs t) (tk_sp bs n p) ∧ tk_st bs n p ≤ tk_sp bs n p ∧ 0 ≤ tk_st bs n p := by
  obtain ⟨h1, rfl, h3, ⟨h4, h5, h6⟩, h7, h8⟩ := h
  have hv := tk_adv_at (bs := bs) h3
  have hi := tk_in (bs := bs) h8
  rw [← h6]
  exact ⟨⟨tk_adv_ok h1, hv.2.2, hv.2.1, hv.1, by omega, by omega⟩, by omega, by omega⟩
theorem tg.fail {bs t : Int → Int} {n p w : Int} (h : tg bs n t p) (hw : 0 < w ∧ w ≤ 7) : tf bs n (tk_fail t w) (w + 8 * tk_st bs n p) := by
  obtain ⟨h1, rfl, h3, ⟨h4, h5, h6⟩, h7, h8⟩ := h
  have hi := tk_in (bs := bs) h8
  refine ⟨tk_fail_ok h1 (by omega), ?_, by omega⟩
  · rw [tk_fail_v h3, am_u1_eq, h5]
theorem tg.let' {bs t : Int → Int} {n p : Int} (h : tg bs n t p) : tk_let bs t = sl_let bs n p := by
  rw [tk_let_at h.1 h.2.2.2.1, h.2.1]
theorem tg.dig {bs t : Int → Int} {n p lo hi : Int} (h : tg bs n t p) : tk_dig bs t lo hi = sl_dig bs n lo hi p := by
  rw [tk_dig_at h.1 h.2.2.2.1, h.2.1]
theorem tg.wd {bs t : Int → Int} {n p : Int} {i : Nat} (hi : i < 9) (h : tg bs n t p) : tk_isw bs t i = sl_wd bs n i p := by
  rw [tk_wd_at hi h.1 h.2.2.2.1, h.2.1]
theorem tg.k {bs t : Int → Int} {n p : Int} (h : tg bs n t p) : t 2 = tk_k bs n p := by
  rw [h.2.2.2.1.1, h.2.1]
theorem tf.ne {bs t : Int → Int} {n F : Int} (h : tf bs n t F) : ¬ t 5 = 0 := by have := h.2; omega
theorem sl_let_rg (bs : Int → Int) (n p : Int) : -1 ≤ sl_let bs n p ∧ sl_let bs n p ≤ 2 := by unfold sl_let; split <;> omega
theorem sl_dig_rg (bs : Int → Int) (n p lo hi : Int) : sl_dig bs n lo hi p = -2 ∨ sl_dig bs n lo hi p = -1 ∨ (lo ≤ sl_dig bs n lo hi p ∧ sl_dig bs n lo hi p ≤ hi) := by
  unfold sl_dig
  split
  · split
    · exact Or.inr (Or.inr (by assumption))
    · exact Or.inl rfl
  · exact Or.inr (Or.inl rfl)
variable {G : am_G} {σ : am_D}
theorem am_sr_ok {t : Int → Int} {bs : Int → Int} (hb : σ.1 2 = bs) (h : tk_ok bs t) : tk_ok ((am_sr σ 1 t).1 2) ((am_sr σ 1 t).1 1) := by
  rw [am_sr_at, am_sr_of (by decide), hb]
  exact h
theorem s_advance (d : Nat) {t bs : Int → Int} {n p : Int} (hb : σ.1 2 = bs) (h : tg bs n t p) : am_MV G (d + 2) mX7_advance [am_r (some 1)] (am_sr σ 1 t) (fun σ' => ∃ t', σ' = am_sr σ 1 t' ∧ tg bs n t' (tk_sp bs n p)) := by
  refine am_M.mono (c_advance d (am_sr_ok hb h.1)) ?_
  rintro _ _ ⟨σ', rfl, rfl, rfl⟩
  refine ⟨_, rfl, rfl, _, ?_, h.adv.1⟩
  rw [am_sr_at, am_sr_of (by decide), hb, am_sr_sr]
theorem s_fail (d : Nat) {t bs : Int → Int} {n p w : Int} (hw : 0 < w ∧ w ≤ 7) (hb : σ.1 2 = bs) (h : tg bs n t p) : am_MV G (d + 1) mX7_fail [am_r (some 1), am_i w] (am_sr σ 1 t) (fun σ' => ∃ t', σ' = am_sr σ 1 t' ∧ tf bs n t' (w + 8 * tk_st bs n p)) := by
  refine am_M.mono (c_fail d (am_sr_ok hb h.1)) ?_
  rintro _ _ ⟨σ', rfl, rfl, rfl⟩
  refine ⟨_, rfl, rfl, _, ?_, h.fail hw⟩
  rw [am_sr_at, am_sr_sr]
theorem s_letter (d : Nat) {t bs : Int → Int} {n p : Int} (hb : σ.1 2 = bs) (h : tg bs n t p) : am_MI G (d + 3) mX7_letter [am_r (some 1)] (am_sr σ 1 t) (fun x σ' => ∃ t', σ' = am_sr σ 1 t' ∧ ((x = -1 ∧ sl_let bs n (tk_sp bs n p) = -1 ∧ tf bs n t' (1 + 8 * tk_st bs n (tk_sp bs n p))) ∨ (x = sl_let bs n (tk_sp bs n p) ∧ 0 ≤ x ∧ x ≤ 2 ∧ tg bs n t' (tk_sp bs n p)))) := by
  refine am_M.mono (c_letter d (am_sr_ok hb h.1)) ?_
  rintro _ _ ⟨x, σ', rfl, rfl, rfl, rfl⟩
  rw [am_sr_at, am_sr_of (by decide), hb, am_sr_sr, h.adv.1.let']
  have hr := sl_let_rg bs n (tk_sp bs n p)
  refine ⟨_, _, rfl, rfl, _, rfl, ?_⟩
  by_cases hx : sl_let bs n (tk_sp bs n p) = -1
  · rw [if_pos hx]
    exact Or.inl ⟨hx, hx, h.adv.1.fail (by omega)⟩
  · rw [if_neg hx]
    exact Or.inr ⟨rfl, by omega, by omega, h.adv.1⟩
theorem s_digit (d : Nat) {t bs : Int → Int} {n p lo hi : Int} (hlo : 0 ≤ lo ∧ lo ≤ 100) (hhi : -100 ≤ hi ∧ hi ≤ 100) (hb : σ.1 2 = bs) (h : tg bs n t p) : am_MI G (d + 3) mX7_digit [am_r (some 1), am_i lo, am_i hi] (am_sr σ 1 t) (fun x σ' => ∃ t', σ' = am_sr σ 1 t' ∧ ((x = -1 ∧ sl_dig bs n lo hi (tk_sp bs n p) < 0 ∧ tf bs n t' (-(sl_dig bs n lo hi (tk_sp bs n p)) + 8 * tk_st bs n (tk_sp bs n p))) ∨ (x = sl_dig bs n lo hi (tk_sp bs n p) ∧ lo ≤ x ∧ x ≤ hi ∧ tg bs n t' (tk_sp bs n p)))) := by
  refine am_M.mono (c_digit d hlo hhi (am_sr_ok hb h.1)) ?_
  rintro _ _ ⟨x, σ', rfl, rfl, rfl, rfl⟩
  rw [am_sr_at, am_sr_of (by decide), hb, am_sr_sr, h.adv.1.dig]
  have hr := sl_dig_rg bs n (tk_sp bs n p) lo hi
  refine ⟨_, _, rfl, rfl, _, rfl, ?_⟩
  by_cases hx : sl_dig bs n lo hi (tk_sp bs n p) < 0
  · rw [if_pos hx]
    exact Or.inl ⟨by omega, hx, h.adv.1.fail (by omega)⟩
  · rw [if_neg hx]
    exact Or.inr ⟨by omega, by omega, by omega, h.adv.1⟩
theorem s_sign (d : Nat) {t bs : Int → Int} {n p w : Int} (hw : 0 ≤ w ∧ w ≤ 100) (hb : σ.1 2 = bs) (h : tg bs n t p) : am_MV G (d + 3) mX7_sign [am_r (some 1), am_i w] (am_sr σ 1 t) (fun σ' => ∃ t', σ' = am_sr σ 1 t' ∧ ((¬ tk_k bs n (tk_sp bs n p) = w ∧ tf bs n t' (1 + 8 * tk_st bs n (tk_sp bs n p))) ∨ (tk_k bs n (tk_sp bs n p) = w ∧ tg bs n t' (tk_sp bs n p)))) := by
  refine am_M.mono (c_sign d hw (am_sr_ok hb h.1)) ?_
  rintro _ _ ⟨σ', rfl, rfl, rfl⟩
  rw [am_sr_at, am_sr_of (by decide), hb, am_sr_sr, h.adv.1.k]
  refine ⟨_, rfl, rfl, _, rfl, ?_⟩
  by_cases hx : tk_k bs n (tk_sp bs n p) = w
  · rw [if_pos hx]
    exact Or.inr ⟨hx, h.adv.1⟩
  · rw [if_neg hx]
    exact Or.inl ⟨hx, h.adv.1.fail (by omega)⟩
theorem s_isWord (d : Nat) {t bs : Int → Int} {n p : Int} {i : Nat} (hi : i < 9) (hb : σ.1 2 = bs) (h : tg bs n t p) : am_MI G (d + 5) mX7_isWord [am_r (some 1), am_s i] (am_sr σ 1 t) (fun x σ' => x = (if sl_wd bs n i p then 1 else 0) ∧ am_sr σ 1 t = σ') := by
  refine am_M.mono (c_isWord d hi (am_sr_ok hb h.1)) ?_
  rintro _ _ ⟨x, σ', rfl, rfl, rfl, rfl⟩
  refine ⟨_, _, rfl, rfl, ?_, rfl⟩
  rw [am_sr_at, am_sr_of (by decide), hb, h.wd hi]
-- behind a FAULT
theorem f_advance (d : Nat) {t bs : Int → Int} {n F : Int} (hb : σ.1 2 = bs) (h : tf bs n t F) : am_MV G (d + 2) mX7_advance [am_r (some 1)] (am_sr σ 1 t) (fun σ' => am_sr σ 1 t = σ') := cF_advance d (am_sr_ok hb h.1) (by rw [am_sr_at]; exact h.ne)
theorem f_fail (d : Nat) {t bs : Int → Int} {n F w : Int} (hb : σ.1 2 = bs) (h : tf bs n t F) : am_MV G (d + 1) mX7_fail [am_r (some 1), am_i w] (am_sr σ 1 t) (fun σ' => am_sr σ 1 t = σ') := cF_fail d (am_sr_ok hb h.1) (by rw [am_sr_at]; exact h.ne)
theorem f_letter (d : Nat) {t bs : Int → Int} {n F : Int} (hb : σ.1 2 = bs) (h : tf bs n t F) : am_MI G (d + 3) mX7_letter [am_r (some 1)] (am_sr σ 1 t) (fun x σ' => (-1 ≤ x ∧ x ≤ 2) ∧ am_sr σ 1 t = σ') := cF_letter d (am_sr_ok hb h.1) (by rw [am_sr_at]; exact h.ne)
theorem f_digit (d : Nat) {t bs : Int → Int} {n F lo hi : Int} (hlo : 0 ≤ lo ∧ lo ≤ 100) (hhi : -100 ≤ hi ∧ hi ≤ 100) (hb : σ.1 2 = bs) (h : tf bs n t F) : am_MI G (d + 3) mX7_digit [am_r (some 1), am_i lo, am_i hi] (am_sr σ 1 t) (fun x σ' => (x = -1 ∨ (lo ≤ x ∧ x ≤ hi)) ∧ am_sr σ 1 t = σ') := cF_digit d hlo hhi (am_sr_ok hb h.1) (by rw [am_sr_at]; exact h.ne)
theorem f_sign (d : Nat) {t bs : Int → Int} {n F w : Int} (hw : 0 ≤ w ∧ w ≤ 100) (hb : σ.1 2 = bs) (h : tf bs n t F) : am_MV G (d + 3) mX7_sign [am_r (some 1), am_i w] (am_sr σ 1 t) (fun σ' => am_sr σ 1 t = σ') := cF_sign d hw (am_sr_ok hb h.1) (by rw [am_sr_at]; exact h.ne)
theorem f_isWord (d : Nat) {t bs : Int → Int} {n F : Int} {i : Nat} (hi : i < 9) (hb : σ.1 2 = bs) (h : tf bs n t F) : am_MI G (d + 5) mX7_isWord [am_r (some 1), am_s i] (am_sr σ 1 t) (fun x σ' => (x = 0 ∨ x = 1) ∧ am_sr σ 1 t = σ') := by
  refine am_M.mono (c_isWord d hi (am_sr_ok hb h.1)) ?_
  rintro _ _ ⟨x, σ', rfl, rfl, rfl, rfl⟩
  refine ⟨_, _, rfl, rfl, ?_, rfl⟩
  split <;> omega
end
