section
/-! The reference: one TOKEN after another. -/
def rg (ts : Int → Int) (n : Int) (u : Int → Int) (p : Int) : Prop := rf_ok ts u ∧ u 2 = 0 ∧ u 3 = n ∧ rf_atp ts u p ∧ 0 ≤ p ∧ p ≤ n
def rh (ts : Int → Int) (u : Int → Int) (F : Int) : Prop := rf_ok ts u ∧ u 2 = F ∧ 0 < F
/-- what tokens change of the reference -/
abbrev rk : List Int := [2, 4, 5, 6]
theorem rh.ne {ts u : Int → Int} {F : Int} (h : rh ts u F) : ¬ u 2 = 0 := by have := h.2; omega
theorem rg.go {ts u : Int → Int} {n p : Int} (h : rg ts n u p) : rg ts n (rf_go ts u) (tk_sp ts n p) ∧ am_kpt rk u (rf_go ts u) := by
  obtain ⟨h1, h2, rfl, ⟨h4, h5, h6⟩, h7, h8⟩ := h
  have hv := rf_go_at (ts := ts) (u := u)
  have hi := tk_in (bs := ts) h8
  rw [← h6]
  exact ⟨⟨rf_go_ok h1, hv.2.1.trans h2, hv.2.2.1, hv.1, by omega, by omega⟩, fun j hj => hv.2.2.2 j (fun z => hj (by revert z; simp; omega))⟩
theorem rg.fail {ts u : Int → Int} {n p w : Int} (h : rg ts n u p) (hw : 0 < w ∧ w ≤ 7) : rh ts (rf_fail u w) (w + 8 * tk_st ts n p) ∧ am_kpt rk u (rf_fail u w) := by
  obtain ⟨h1, h2, rfl, ⟨h4, h5, h6⟩, h7, h8⟩ := h
  have hi := tk_in (bs := ts) h8
  refine ⟨⟨rf_fail_ok h1 (by omega), ?_, by omega⟩, ?_⟩
  · rw [rf_fail_v h2, am_u1_eq, h5]
  · rw [rf_fail_v h2]
    exact am_kpt.u1 (by decide)
theorem rg.let' {ts u : Int → Int} {n p : Int} (h : rg ts n u p) : rf_let ts u = sl_let ts n p := by
  rw [rf_let_at h.2.1 h.2.2.2.1, h.2.2.1]
theorem rg.srt {ts u : Int → Int} {n p : Int} (h : rg ts n u p) : u 6 = rf_srt (tk_k ts n p) ∧ u 5 = tk_st ts n p ∧ u 4 = tk_sp ts n p := by
  obtain ⟨h1, h2, rfl, h4, h7, h8⟩ := h
  exact h4
theorem rg.dig {ts u : Int → Int} {n p lo hi : Int} (h : rg ts n u p) : rf_dig ts u lo hi = sl_dig ts n lo hi p := by
  obtain ⟨e6, e5, e4⟩ := h.srt
  unfold rf_dig sl_dig
  rw [if_pos h.2.1, e6, e5, e4]
  have hs := (rf_srt_v (tk_k_v ts n p)).2.2.1
  by_cases z : tk_k ts n p = 48 ∧ tk_sp ts n p - tk_st ts n p = 1
  · rw [if_pos z, if_pos ⟨hs.mpr z.1, z.2⟩]
  · rw [if_neg z, if_neg (fun y => z ⟨hs.mp y.1, y.2⟩)]
theorem rg.wd {ts u : Int → Int} {n p : Int} {i : Nat} (h : rg ts n u p) : rf_isw ts u i = sl_wd ts n i p := by
  obtain ⟨e6, e5, e4⟩ := h.srt
  unfold rf_isw sl_wd
  rw [e6, e5, e4, decide_eq_true h.2.1, Bool.true_and]
  have hs := (rf_srt_v (tk_k_v ts n p)).2.1
  rw [show decide (rf_srt (tk_k ts n p) = 1) = decide (tk_k ts n p = 97) from decide_eq_decide.mpr hs]
theorem rg.sg {ts u : Int → Int} {n p c : Int} (hc : c = 59 ∨ c = 61 ∨ c = 44 ∨ c = 60 ∨ c = 62) (h : rg ts n u p) : (u 2 = 0 ∧ u 6 = 3 ∧ ts (u 5) = c) ↔ tk_k ts n p = c := by
  obtain ⟨e6, e5, e4⟩ := h.srt
  rw [e6, e5, tk_k_sign hc]
  exact ⟨fun z => z.2, fun z => ⟨h.2.1, z⟩⟩
theorem sl_wd_w1 {bs : Int → Int} {n p c : Int} {i : Nat} (hc : am_chr i = [c]) : sl_wd bs n i p = sl_w1 bs n c p := by
  unfold sl_wd sl_w1
  rw [hc]
  rw [Bool.eq_iff_iff]
  simp
variable {G : am_G} {σ : am_D}
theorem r_goes (d : Nat) {ts : Int → Int} {n p : Int} (hb : σ.1 92 = ts) (h : rg ts n (σ.1 91) p) : am_MV G (d + 3) mX11_goes [am_r (some 91)] σ (fun σ' => ∃ u, σ' = am_sr σ 91 u ∧ am_kpt rk (σ.1 91) u ∧ rg ts n u (tk_sp ts n p)) := by
  subst hb
  refine am_M.mono (c_goes d h.1.w) ?_
  rintro _ _ ⟨σ', rfl, rfl, rfl⟩
  exact ⟨_, rfl, rfl, _, rfl, h.go.2, h.go.1⟩
theorem r_fails (d : Nat) {ts : Int → Int} {n p w : Int} (hw : 0 < w ∧ w ≤ 7) (hb : σ.1 92 = ts) (h : rg ts n (σ.1 91) p) : am_MV G (d + 1) mX11_fails [am_r (some 91), am_i w] σ (fun σ' => ∃ u, σ' = am_sr σ 91 u ∧ am_kpt rk (σ.1 91) u ∧ rh ts u (w + 8 * tk_st ts n p)) := by
  subst hb
  refine am_M.mono (c_fails d h.1) ?_
  rintro _ _ ⟨σ', rfl, rfl, rfl⟩
  exact ⟨_, rfl, rfl, _, rfl, (h.fail hw).2, (h.fail hw).1⟩
theorem r_isGood (d : Nat) {ts : Int → Int} {n p : Int} (h : rg ts n (σ.1 91) p) : am_MI G (d + 1) mX11_isGood [am_r (some 91)] σ (fun x σ' => x = 1 ∧ σ = σ') := by
  refine am_M.mono (c_isGood d (by have := h.2.1; omega)) ?_
  rintro _ _ ⟨x, σ', rfl, rfl, rfl, rfl⟩
  exact ⟨_, _, rfl, rfl, if_pos h.2.1, rfl⟩
theorem r_letter (d : Nat) {ts : Int → Int} {n p : Int} (hb : σ.1 92 = ts) (h : rg ts n (σ.1 91) p) : am_MI G (d + 6) mX11_letter [am_r (some 91)] σ (fun x σ' => ∃ u, σ' = am_sr σ 91 u ∧ am_kpt rk (σ.1 91) u ∧ ((x = -1 ∧ sl_let ts n p = -1 ∧ rh ts u (1 + 8 * tk_st ts n p)) ∨ (x = sl_let ts n p ∧ 0 ≤ x ∧ x ≤ 2 ∧ rg ts n u (tk_sp ts n p)))) := by
  subst hb
  refine am_M.mono (c_rLetter d h.1) ?_
  rintro _ _ ⟨x, σ', rfl, rfl, rfl, rfl⟩
  rw [h.let']
  have hr := sl_let_rg (σ.1 92) n p
  refine ⟨_, _, rfl, rfl, _, rfl, ?_⟩
  by_cases hx : sl_let (σ.1 92) n p = -1
  · rw [if_pos hx]
    exact ⟨(h.fail (by omega)).2, Or.inl ⟨hx, hx, (h.fail (by omega)).1⟩⟩
  · rw [if_neg hx]
    exact ⟨h.go.2, Or.inr ⟨rfl, by omega, by omega, h.go.1⟩⟩
theorem r_digit (d : Nat) {ts : Int → Int} {n p lo hi : Int} (hlo : 0 ≤ lo ∧ lo ≤ 100) (hhi : -100 ≤ hi ∧ hi ≤ 100) (hb : σ.1 92 = ts) (h : rg ts n (σ.1 91) p) : am_MI G (d + 2) mX11_digit [am_r (some 91), am_i lo, am_i hi] σ (fun x σ' => (x = lo ∧ sl_dig ts n lo hi p < 0 ∧ ∃ u, σ' = am_sr σ 91 u ∧ am_kpt rk (σ.1 91) u ∧ rh ts u (-(sl_dig ts n lo hi p) + 8 * tk_st ts n p)) ∨ (x = sl_dig ts n lo hi p ∧ lo ≤ x ∧ x ≤ hi ∧ σ = σ')) := by
  subst hb
  refine am_M.mono (c_rDigit d hlo hhi h.1) ?_
  rintro _ _ ⟨x, σ', rfl, rfl, rfl, rfl⟩
  rw [h.dig]
  have hr := sl_dig_rg (σ.1 92) n p lo hi
  refine ⟨_, _, rfl, rfl, ?_⟩
  by_cases hx : sl_dig (σ.1 92) n lo hi p < 0
  · rw [if_pos hx, if_pos hx]
    exact Or.inl ⟨rfl, hx, _, rfl, (h.fail (by omega)).2, (h.fail (by omega)).1⟩
  · rw [if_neg hx, if_neg hx, am_sr_self]
    exact Or.inr ⟨rfl, by omega, by omega, rfl⟩
theorem r_number (d : Nat) {ts : Int → Int} {n p lo hi : Int} (hlo : 0 ≤ lo ∧ lo ≤ 100) (hhi : -100 ≤ hi ∧ hi ≤ 100) (hb : σ.1 92 = ts) (h : rg ts n (σ.1 91) p) : am_MI G (d + 4) mX11_number [am_r (some 91), am_i lo, am_i hi] σ (fun x σ' => ∃ u, σ' = am_sr σ 91 u ∧ am_kpt rk (σ.1 91) u ∧ ((x = lo ∧ sl_dig ts n lo hi p < 0 ∧ rh ts u (-(sl_dig ts n lo hi p) + 8 * tk_st ts n p)) ∨ (x = sl_dig ts n lo hi p ∧ lo ≤ x ∧ x ≤ hi ∧ rg ts n u (tk_sp ts n p)))) := by
  subst hb
  refine am_M.mono (c_rNumber d hlo hhi h.1) ?_
  rintro _ _ ⟨x, σ', rfl, rfl, rfl, rfl⟩
  rw [h.dig]
  have hr := sl_dig_rg (σ.1 92) n p lo hi
  refine ⟨_, _, rfl, rfl, _, rfl, ?_⟩
  by_cases hx : sl_dig (σ.1 92) n lo hi p < 0
  · rw [if_pos hx, if_pos hx]
    exact ⟨(h.fail (by omega)).2, Or.inl ⟨rfl, hx, (h.fail (by omega)).1⟩⟩
  · rw [if_neg hx, if_neg hx]
    exact ⟨h.go.2, Or.inr ⟨rfl, by omega, by omega, h.go.1⟩⟩
theorem r_sign (d : Nat) {ts : Int → Int} {n p w : Int} (hw : w = 59 ∨ w = 61 ∨ w = 44 ∨ w = 60 ∨ w = 62) (hb : σ.1 92 = ts) (h : rg ts n (σ.1 91) p) : am_MV G (d + 4) mX11_sign [am_r (some 91), am_i w] σ (fun σ' => ∃ u, σ' = am_sr σ 91 u ∧ am_kpt rk (σ.1 91) u ∧ ((¬ tk_k ts n p = w ∧ rh ts u (1 + 8 * tk_st ts n p)) ∨ (tk_k ts n p = w ∧ rg ts n u (tk_sp ts n p)))) := by
  subst hb
  refine am_M.mono (c_rSign d (by omega) h.1) ?_
  rintro _ _ ⟨σ', rfl, rfl, rfl⟩
  refine ⟨_, rfl, rfl, _, rfl, ?_⟩
  by_cases hx : tk_k (σ.1 92) n p = w
  · rw [if_pos ((h.sg hw).mpr hx)]
    exact ⟨h.go.2, Or.inr ⟨hx, h.go.1⟩⟩
  · rw [if_neg (fun z => hx ((h.sg hw).mp z))]
    exact ⟨(h.fail (by omega)).2, Or.inl ⟨hx, (h.fail (by omega)).1⟩⟩
theorem r_isSign (d : Nat) {ts : Int → Int} {n p w : Int} (hw : w = 59 ∨ w = 61 ∨ w = 44 ∨ w = 60 ∨ w = 62) (hb : σ.1 92 = ts) (h : rg ts n (σ.1 91) p) : am_MI G (d + 2) mX11_isSign [am_r (some 91), am_i w] σ (fun x σ' => x = (if tk_k ts n p = w then 1 else 0) ∧ σ = σ') := by
  subst hb
  refine am_M.mono (c_isSign d (by omega) h.1) ?_
  rintro _ _ ⟨x, σ', rfl, rfl, rfl, rfl⟩
  refine ⟨_, _, rfl, rfl, ?_, rfl⟩
  by_cases hx : tk_k (σ.1 92) n p = w
  · rw [if_pos ((h.sg hw).mpr hx), if_pos hx]
  · rw [if_neg (fun z => hx ((h.sg hw).mp z)), if_neg hx]
theorem r_isWord (d : Nat) {ts : Int → Int} {n p : Int} {i : Nat} (hi : i < 9) (hb : σ.1 92 = ts) (h : rg ts n (σ.1 91) p) : am_MI G (d + 5) mX11_isWord [am_r (some 91), am_s i] σ (fun x σ' => x = (if sl_wd ts n i p then 1 else 0) ∧ σ = σ') := by
  subst hb
  refine am_M.mono (c_rIsWord d hi h.1) ?_
  rintro _ _ ⟨x, σ', rfl, rfl, rfl, rfl⟩
  exact ⟨_, _, rfl, rfl, by rw [h.wd], rfl⟩
-- behind a FAULT
theorem h_goes (d : Nat) {ts : Int → Int} {F : Int} (hb : σ.1 92 = ts) (h : rh ts (σ.1 91) F) : am_MV G (d + 3) mX11_goes [am_r (some 91)] σ (fun σ' => ∃ u, σ' = am_sr σ 91 u ∧ am_kpt rk (σ.1 91) u ∧ rh ts u F) := by
  subst hb
  refine am_M.mono (c_goes d h.1.w) ?_
  rintro _ _ ⟨σ', rfl, rfl, rfl⟩
  have hv := rf_go_at (ts := σ.1 92) (u := σ.1 91)
  exact ⟨_, rfl, rfl, _, rfl, fun j hj => hv.2.2.2 j (fun z => hj (by revert z; simp; omega)), rf_go_ok h.1, hv.2.1.trans h.2.1, h.2.2⟩
theorem h_fails (d : Nat) {ts : Int → Int} {F w : Int} (hb : σ.1 92 = ts) (h : rh ts (σ.1 91) F) : am_MV G (d + 1) mX11_fails [am_r (some 91), am_i w] σ (fun σ' => σ = σ') := by
  subst hb
  refine am_M.mono (c_fails d h.1) ?_
  rintro _ _ ⟨σ', rfl, rfl, rfl⟩
  exact ⟨_, rfl, rfl, by rw [rf_fail_no h.ne, am_sr_self]⟩
theorem h_isGood (d : Nat) {ts : Int → Int} {F : Int} (h : rh ts (σ.1 91) F) : am_MI G (d + 1) mX11_isGood [am_r (some 91)] σ (fun x σ' => x = 0 ∧ σ = σ') := by
  refine am_M.mono (c_isGood d (by have := h.1.2; omega)) ?_
  rintro _ _ ⟨x, σ', rfl, rfl, rfl, rfl⟩
  exact ⟨_, _, rfl, rfl, if_neg h.ne, rfl⟩
theorem h_letter (d : Nat) {ts : Int → Int} {F : Int} (hb : σ.1 92 = ts) (h : rh ts (σ.1 91) F) : am_MI G (d + 6) mX11_letter [am_r (some 91)] σ (fun x σ' => x = -1 ∧ σ = σ') := by
  subst hb
  refine am_M.mono (c_rLetter d h.1) ?_
  rintro _ _ ⟨x, σ', rfl, rfl, rfl, rfl⟩
  have e : rf_let (σ.1 92) (σ.1 91) = -1 := if_neg (fun z => h.ne z.1)
  refine ⟨_, _, rfl, rfl, e, ?_⟩
  rw [if_pos e, rf_fail_no h.ne, am_sr_self]
theorem h_digit (d : Nat) {ts : Int → Int} {F lo hi : Int} (hlo : 0 ≤ lo ∧ lo ≤ 100) (hhi : -100 ≤ hi ∧ hi ≤ 100) (hb : σ.1 92 = ts) (h : rh ts (σ.1 91) F) : am_MI G (d + 2) mX11_digit [am_r (some 91), am_i lo, am_i hi] σ (fun x σ' => x = lo ∧ σ = σ') := by
  subst hb
  refine am_M.mono (c_rDigit d hlo hhi h.1) ?_
  rintro _ _ ⟨x, σ', rfl, rfl, rfl, rfl⟩
  have e : rf_dig (σ.1 92) (σ.1 91) lo hi = -3 := if_neg h.ne
  refine ⟨_, _, rfl, rfl, by rw [e]; rfl, ?_⟩
  rw [e, if_pos (by decide), rf_fail_no h.ne, am_sr_self]
theorem h_number (d : Nat) {ts : Int → Int} {F lo hi : Int} (hlo : 0 ≤ lo ∧ lo ≤ 100) (hhi : -100 ≤ hi ∧ hi ≤ 100) (hb : σ.1 92 = ts) (h : rh ts (σ.1 91) F) : am_MI G (d + 4) mX11_number [am_r (some 91), am_i lo, am_i hi] σ (fun x σ' => x = lo ∧ σ = σ') := by
  subst hb
  refine am_M.mono (c_rNumber d hlo hhi h.1) ?_
  rintro _ _ ⟨x, σ', rfl, rfl, rfl, rfl⟩
  have e : rf_dig (σ.1 92) (σ.1 91) lo hi = -3 := if_neg h.ne
  refine ⟨_, _, rfl, rfl, by rw [e]; rfl, ?_⟩
  rw [e, if_pos (by decide), rf_fail_no h.ne, am_sr_self]
theorem h_sign (d : Nat) {ts : Int → Int} {F w : Int} (hw : 0 ≤ w ∧ w ≤ 100) (hb : σ.1 92 = ts) (h : rh ts (σ.1 91) F) : am_MV G (d + 4) mX11_sign [am_r (some 91), am_i w] σ (fun σ' => σ = σ') := by
  subst hb
  refine am_M.mono (c_rSign d hw h.1) ?_
  rintro _ _ ⟨σ', rfl, rfl, rfl⟩
  refine ⟨_, rfl, rfl, ?_⟩
  rw [if_neg (fun z => h.ne z.1), rf_fail_no h.ne, am_sr_self]
theorem h_isSign (d : Nat) {ts : Int → Int} {F w : Int} (hw : 0 ≤ w ∧ w ≤ 100) (hb : σ.1 92 = ts) (h : rh ts (σ.1 91) F) : am_MI G (d + 2) mX11_isSign [am_r (some 91), am_i w] σ (fun x σ' => x = 0 ∧ σ = σ') := by
  subst hb
  refine am_M.mono (c_isSign d hw h.1) ?_
  rintro _ _ ⟨x, σ', rfl, rfl, rfl, rfl⟩
  exact ⟨_, _, rfl, rfl, if_neg (fun z => h.ne z.1), rfl⟩
theorem h_isWord (d : Nat) {ts : Int → Int} {F : Int} {i : Nat} (hi : i < 9) (hb : σ.1 92 = ts) (h : rh ts (σ.1 91) F) : am_MI G (d + 5) mX11_isWord [am_r (some 91), am_s i] σ (fun x σ' => x = 0 ∧ σ = σ') := by
  subst hb
  refine am_M.mono (c_rIsWord d hi h.1) ?_
  rintro _ _ ⟨x, σ', rfl, rfl, rfl, rfl⟩
  refine ⟨_, _, rfl, rfl, ?_, rfl⟩
  unfold rf_isw
  rw [decide_eq_false h.ne]
  rfl
end
