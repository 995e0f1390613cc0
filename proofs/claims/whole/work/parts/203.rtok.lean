section
/-! TOKENS in the reference: its cells 1 taped, 2 fault, 3 size, 4 to, 5 from, 6 sort; its bytes are row 92. -/
theorem am_u1_u1 {α : Type} {f : Int → α} {k : Int} {v w : α} : am_u1 (am_u1 f k v) k w = am_u1 f k w := by
  funext j
  unfold am_u1
  split <;> rfl
theorem am_u1_cm {α : Type} {f : Int → α} {k l : Int} {v w : α} (h : k ≠ l) : am_u1 (am_u1 f k v) l w = am_u1 (am_u1 f l w) k v := by
  funext j
  unfold am_u1
  by_cases h1 : j = l
  · subst h1
    rw [if_pos rfl, if_neg (fun z => h z.symm), if_pos rfl]
  · rw [if_neg h1, if_neg h1]
theorem tk_kd_rs (b : Int) : 1 ≤ tk_kd b ∧ tk_kd b ≤ 97 := by
  unfold tk_kd
  split
  · omega
  · split
    · omega
    · split <;> omega
def rf_srt (k : Int) : Int := if k = 0 then 0 else if k = 97 then 1 else if k = 48 then 2 else if k = 1 then 4 else 3
theorem rf_srt_rg (k : Int) : 0 ≤ rf_srt k ∧ rf_srt k ≤ 4 ∧ (rf_srt k ≠ 0 → k ≠ 0) := by
  unfold rf_srt
  split
  · omega
  · split
    · omega
    · split
      · omega
      · split <;> omega
def rf_go (ts u : Int → Int) : Int → Int := am_u1 (am_u1 (am_u1 u 5 (tk_st ts (u 3) (u 4))) 6 (rf_srt (tk_k ts (u 3) (u 4)))) 4 (tk_sp ts (u 3) (u 4))
def rf_ok (ts u : Int → Int) : Prop := (∀ i, 0 ≤ i → i < 600 → -128 ≤ ts i ∧ ts i ≤ 127) ∧ 0 ≤ u 3 ∧ u 3 ≤ 600 ∧ 0 ≤ u 4 ∧ u 4 ≤ u 3 ∧ 0 ≤ u 5 ∧ u 5 ≤ u 4 ∧ 0 ≤ u 6 ∧ u 6 ≤ 4 ∧ 0 ≤ u 2 ∧ u 2 ≤ 10000 ∧ (u 6 ≠ 0 → u 5 < u 4)
def rf_ok0 (ts u : Int → Int) : Prop := (∀ i, 0 ≤ i → i < 600 → -128 ≤ ts i ∧ ts i ≤ 127) ∧ 0 ≤ u 3 ∧ u 3 ≤ 600 ∧ 0 ≤ u 4 ∧ u 4 ≤ u 3
theorem rf_ok.w {ts u : Int → Int} (h : rf_ok ts u) : rf_ok0 ts u := ⟨h.1, h.2.1, h.2.2.1, h.2.2.2.1, h.2.2.2.2.1⟩
theorem rf_go_ok0 {ts u : Int → Int} (h : rf_ok0 ts u) (hf : 0 ≤ u 2 ∧ u 2 ≤ 10000) : rf_ok ts (rf_go ts u) := by
  obtain ⟨hb, h1, h2, h3, h4⟩ := h
  obtain ⟨h10, h11⟩ := hf
  have hi := tk_in (bs := ts) h4
  have hs := rf_srt_rg (tk_k ts (u 3) (u 4))
  have hlt := tk_lt (bs := ts) (n := u 3) (p := u 4)
  have e3 : rf_go ts u 3 = u 3 := by simp [rf_go, am_u1]
  have e4 : rf_go ts u 4 = tk_sp ts (u 3) (u 4) := by simp [rf_go, am_u1]
  have e5 : rf_go ts u 5 = tk_st ts (u 3) (u 4) := by simp [rf_go, am_u1]
  have e6 : rf_go ts u 6 = rf_srt (tk_k ts (u 3) (u 4)) := by simp [rf_go, am_u1]
  have e2 : rf_go ts u 2 = u 2 := by simp [rf_go, am_u1]
  refine ⟨hb, ?_⟩
  rw [e2, e3, e4, e5, e6]
  exact ⟨h1, h2, by omega, hi.2.2, by omega, hi.2.1, hs.1, hs.2.1, h10, h11, fun z => (hlt (hs.2.2 z)).2⟩
theorem rf_go_ok {ts u : Int → Int} (h : rf_ok ts u) : rf_ok ts (rf_go ts u) := rf_go_ok0 h.w ⟨h.2.2.2.2.2.2.2.2.2.1, h.2.2.2.2.2.2.2.2.2.2.1⟩
def rf_fail (u : Int → Int) (w : Int) : Int → Int := if u 2 = 0 then am_u1 u 2 (w + 8 * u 5) else u
theorem rf_fail_ok {ts u : Int → Int} {w : Int} (h : rf_ok ts u) (hw : 0 ≤ w ∧ w ≤ 7) : rf_ok ts (rf_fail u w) := by
  unfold rf_fail
  split
  next h5 =>
    obtain ⟨hb, h1, h2, h3, h4, h6, h7, h8, h9, h10, h11, h12⟩ := h
    refine ⟨hb, h1, h2, h3, h4, h6, h7, h8, h9, ?_, ?_, h12⟩ <;> simp only [am_u1] <;> simp <;> omega
  · exact h
variable {G : am_G} {σ : am_D}
theorem c_isIn (d : Nat) {v lo hi : Int} (h1 : -2147483648 ≤ v ∧ v ≤ 2147483647) (h2 : -2147483648 ≤ lo ∧ lo ≤ 2147483647) (h3 : -2147483648 ≤ hi ∧ hi ≤ 2147483647) : am_MI G (d + 1) mX11_isIn [am_i v, am_i lo, am_i hi] σ (fun x σ' => x = (if lo ≤ v ∧ v ≤ hi then 1 else 0) ∧ σ = σ') := by
  refine am_M.go (by decide) (Nat.le_of_ble_eq_true rfl) rfl ?_
  refine S_X11_isIn_0 (by omega) (by omega) (fun h0 => ?_) (fun h0 => ?_)
  · refine S_X11_isIn_14 ?_
    refine S_X11_isIn_15 (by omega) ?_
    first | (rw [if_neg (by omega)]; exact ⟨rfl, rfl⟩) | (rw [if_pos (by omega)]; exact ⟨rfl, rfl⟩)
  · refine S_X11_isIn_5 (by omega) (by omega) (fun h5 => ?_) (fun h5 => ?_)
    · refine S_X11_isIn_14 ?_
      refine S_X11_isIn_15 (by omega) ?_
      first | (rw [if_neg (by omega)]; exact ⟨rfl, rfl⟩) | (rw [if_pos (by omega)]; exact ⟨rfl, rfl⟩)
    · refine S_X11_isIn_10 ?_
      refine S_X11_isIn_15 (by omega) ?_
      first | (rw [if_neg (by omega)]; exact ⟨rfl, rfl⟩) | (rw [if_pos (by omega)]; exact ⟨rfl, rfl⟩)
theorem c_isLetter (d : Nat) {v : Int} (h1 : -2147483648 ≤ v ∧ v ≤ 2147483647) : am_MI G (d + 2) mX11_isLetter [am_i v] σ (fun x σ' => x = (if 97 ≤ v ∧ v ≤ 122 then 1 else 0) ∧ σ = σ') := by
  refine am_M.go (by decide) (Nat.le_of_ble_eq_true rfl) rfl ?_
  refine S_X11_isLetter_0 (c_isIn _ h1 (by omega) (by omega)) ?_
  rintro _ _ ⟨rfl, rfl⟩
  exact ⟨by split <;> omega, rfl, rfl⟩
theorem c_isDigit (d : Nat) {v : Int} (h1 : -2147483648 ≤ v ∧ v ≤ 2147483647) : am_MI G (d + 2) mX11_isDigit [am_i v] σ (fun x σ' => x = (if 48 ≤ v ∧ v ≤ 57 then 1 else 0) ∧ σ = σ') := by
  refine am_M.go (by decide) (Nat.le_of_ble_eq_true rfl) rfl ?_
  refine S_X11_isDigit_0 (c_isIn _ h1 (by omega) (by omega)) ?_
  rintro _ _ ⟨rfl, rfl⟩
  exact ⟨by split <;> omega, rfl, rfl⟩
theorem c_fails (d : Nat) {w : Int} (hk : rf_ok (σ.1 92) (σ.1 91)) : am_MV G (d + 1) mX11_fails [am_r (some 91), am_i w] σ (fun σ' => σ' = am_sr σ 91 (rf_fail (σ.1 91) w)) := by
  obtain ⟨hb, h1, h2, h3, h4, h6, h7, h8, h9, h10, h11, h12⟩ := id hk
  refine am_M.go (by decide) (Nat.le_of_ble_eq_true rfl) rfl ?_
  refine S_X11_fails_0 (by omega) (fun h0 => ?_) (fun h0 => ?_)
  · refine S_X11_fails_20 ?_
    unfold rf_fail
    first | (rw [if_neg h0, am_sr_self]) | (rw [if_pos (Classical.not_not.mp h0)]; rfl)
  · refine S_X11_fails_7 ?_
    refine S_X11_fails_20 ?_
    unfold rf_fail
    first | (rw [if_neg h0, am_sr_self]) | (rw [if_pos (Classical.not_not.mp h0)]; rfl)
theorem c_isGood (d : Nat) (h2 : 0 ≤ σ.1 91 2 ∧ σ.1 91 2 ≤ 10000) : am_MI G (d + 1) mX11_isGood [am_r (some 91)] σ (fun x σ' => x = (if σ.1 91 2 = 0 then 1 else 0) ∧ σ = σ') := by
  refine am_M.go (by decide) (Nat.le_of_ble_eq_true rfl) rfl ?_
  refine S_X11_isGood_0 (by omega) (fun h0 => ?_) (fun h0 => ?_)
  · refine S_X11_isGood_11 ?_
    refine S_X11_isGood_12 (by omega) ?_
    first | (rw [if_neg h0]; exact ⟨rfl, rfl⟩) | (rw [if_pos (Classical.not_not.mp h0)]; exact ⟨rfl, rfl⟩)
  · refine S_X11_isGood_7 ?_
    refine S_X11_isGood_12 (by omega) ?_
    first | (rw [if_neg h0]; exact ⟨rfl, rfl⟩) | (rw [if_pos (Classical.not_not.mp h0)]; exact ⟨rfl, rfl⟩)
theorem rf_kdL {b : Int} : (if 97 ≤ b ∧ b ≤ 122 then (1 : Int) else 0) = 0 ↔ tk_kd b ≠ 97 := by
  unfold tk_kd
  split
  · simp
  · constructor
    · intro _
      split
      · omega
      · split <;> omega
    · intro _; rfl
theorem rf_kdD {b : Int} : (if 48 ≤ b ∧ b ≤ 57 then (1 : Int) else 0) = 0 ↔ tk_kd b ≠ 48 := by
  unfold tk_kd
  split
  next h => rw [if_neg (by omega)]; simp
  · split
    · simp
    · constructor
      · intro _
        split <;> omega
      · intro _; rfl
theorem c_goes (d : Nat) (hk : rf_ok0 (σ.1 92) (σ.1 91)) : am_MV G (d + 3) mX11_goes [am_r (some 91)] σ (fun σ' => σ' = am_sr σ 91 (rf_go (σ.1 92) (σ.1 91))) := by
  obtain ⟨hb, h1, h2, h3, h4⟩ := id hk
  refine am_M.go (by decide) (Nat.le_of_ble_eq_true rfl) rfl ?_
  have hin := tk_in (bs := σ.1 92) h4
  have hst0 : tk_sk (σ.1 92) (σ.1 91 3) 700 (σ.1 91 4) = tk_st (σ.1 92) (σ.1 91 3) (σ.1 91 4) := rfl
  have hkv : tk_k (σ.1 92) (σ.1 91 3) (σ.1 91 4) = if tk_st (σ.1 92) (σ.1 91 3) (σ.1 91 4) < σ.1 91 3 then tk_kd (σ.1 92 (tk_st (σ.1 92) (σ.1 91 3) (σ.1 91 4))) else 0 := rfl
  have hsp : tk_sp (σ.1 92) (σ.1 91 3) (σ.1 91 4) = if tk_st (σ.1 92) (σ.1 91 3) (σ.1 91 4) < σ.1 91 3 then (if tk_k (σ.1 92) (σ.1 91 3) (σ.1 91 4) = 97 ∨ tk_k (σ.1 92) (σ.1 91 3) (σ.1 91 4) = 48 then tk_rn (σ.1 92) (σ.1 91 3) (tk_k (σ.1 92) (σ.1 91 3) (σ.1 91 4)) 700 (tk_st (σ.1 92) (σ.1 91 3) (σ.1 91 4) + 1) else tk_st (σ.1 92) (σ.1 91 3) (σ.1 91 4) + 1) else tk_st (σ.1 92) (σ.1 91 3) (σ.1 91 4) := rfl
  have hfin : rf_go (σ.1 92) (σ.1 91) = am_u1 (am_u1 (am_u1 (σ.1 91) 5 (tk_st (σ.1 92) (σ.1 91 3) (σ.1 91 4))) 6 (rf_srt (tk_k (σ.1 92) (σ.1 91 3) (σ.1 91 4)))) 4 (tk_sp (σ.1 92) (σ.1 91 3) (σ.1 91 4)) := rfl
  rw [hfin]
  generalize tk_st (σ.1 92) (σ.1 91 3) (σ.1 91 4) = s at hst0 hkv hsp hin ⊢
  generalize tk_k (σ.1 92) (σ.1 91 3) (σ.1 91 4) = kd at hkv hsp ⊢
  generalize tk_sp (σ.1 92) (σ.1 91 3) (σ.1 91 4) = sp at hsp hin ⊢
  generalize hu : σ.1 91 = u at *
  generalize hts : σ.1 92 = ts at *
  have rr : ∀ w : Int → Int, (am_sr σ 91 w).1 91 = w := fun w => am_sr_at
  have rt : ∀ w : Int → Int, (am_sr σ 91 w).1 92 = ts := fun w => by rw [← hts]; exact am_sr_of (by decide)
  have J228 : ∀ i : Int, i = sp → am_X (am_FV G (d + 3) (fun σ' => σ' = am_sr σ 91 (am_u1 (am_u1 (am_u1 u 5 s) 6 (rf_srt kd)) 4 sp))) mX11_goes (0, 0) 228 [none, none] [] (am_K0, am_sr σ 91 (am_u1 (am_u1 (am_u1 u 5 s) 6 (rf_srt kd)) 4 i)) := by
    intro i hi
    refine S_X11_goes_228 ?_
    rw [hi]
  -- the loop over a word or a number
  have J158 : ∀ (f : Nat) (i : Int), 0 ≤ i → i ≤ u 3 → u 3 - i ≤ f → sp = (if kd = 97 ∨ kd = 48 then tk_rn ts (u 3) kd f i else i) → am_X (am_FV G (d + 3) (fun σ' => σ' = am_sr σ 91 (am_u1 (am_u1 (am_u1 u 5 s) 6 (rf_srt kd)) 4 sp))) mX11_goes (0, 0) 158 [some (am_r (some 91)), none] [] (am_K0, am_sr σ 91 (am_u1 (am_u1 (am_u1 u 5 s) 6 (rf_srt kd)) 4 i)) := by
    intro f
    induction f with
    | zero =>
      intro i g0 g1 g2 g3
      have q4 : (am_u1 (am_u1 (am_u1 u 5 s) 6 (rf_srt kd)) 4 i) 4 = i := am_u1_eq
      have q3 : (am_u1 (am_u1 (am_u1 u 5 s) 6 (rf_srt kd)) 4 i) 3 = u 3 := by simp [am_u1]
      refine S_X11_goes_158 (by rw [rr, q4]; omega) (by rw [rr, q3]; omega) (fun q => J228 i ?_) (fun q => ?_)
      · rw [g3]; split <;> rfl
      · rw [rr, q3, q4] at q
        omega
    | succ f ih =>
      intro i g0 g1 g2 g3
      have q4 : (am_u1 (am_u1 (am_u1 u 5 s) 6 (rf_srt kd)) 4 i) 4 = i := am_u1_eq
      have q3 : (am_u1 (am_u1 (am_u1 u 5 s) 6 (rf_srt kd)) 4 i) 3 = u 3 := by simp [am_u1]
      have q6 : (am_u1 (am_u1 (am_u1 u 5 s) 6 (rf_srt kd)) 4 i) 6 = rf_srt kd := by simp [am_u1]
      have hsr := rf_srt_rg kd
      have J215 : i < u 3 → sp = (if kd = 97 ∨ kd = 48 then tk_rn ts (u 3) kd f (i + 1) else i + 1) → am_X (am_FV G (d + 3) (fun σ' => σ' = am_sr σ 91 (am_u1 (am_u1 (am_u1 u 5 s) 6 (rf_srt kd)) 4 sp))) mX11_goes (0, 0) 215 [some (am_r (some 91)), none] [] (am_K0, am_sr σ 91 (am_u1 (am_u1 (am_u1 u 5 s) 6 (rf_srt kd)) 4 i)) := by
        intro hlt g
        refine S_X11_goes_215 ?_
        rw [rr, q4, am_pI_sr, am_u1_u1]
        exact ih (i + 1) (by omega) (by omega) (by omega) g
      unfold tk_rn at g3
      refine S_X11_goes_158 (by rw [rr, q4]; omega) (by rw [rr, q3]; omega) (fun q => ?_) (fun q => ?_)
      · rw [rr, q3, q4] at q
        refine J228 i ?_
        rw [g3]
        split
        · rw [if_neg (by omega)]
        · rfl
      · rw [rr, q3, q4] at q
        have hbi := hb i g0 (by omega)
        have J192 : ¬ kd = 97 ∨ tk_kd (ts i) ≠ 97 → am_X (am_FV G (d + 3) (fun σ' => σ' = am_sr σ 91 (am_u1 (am_u1 (am_u1 u 5 s) 6 (rf_srt kd)) 4 sp))) mX11_goes (0, 0) 192 [some (am_r (some 91)), none] [] (am_K0, am_sr σ 91 (am_u1 (am_u1 (am_u1 u 5 s) 6 (rf_srt kd)) 4 i)) := by
          intro hno
          refine S_X11_goes_192 (by rw [rr, q6]; omega) (fun z => ?_) (fun z => ?_)
          · rw [rr, q6] at z
            have z2 : kd ≠ 48 := fun e => z (by rw [e]; rfl)
            refine J228 i ?_
            rw [g3]
            by_cases e97 : kd = 97
            · rw [if_pos (Or.inl e97), if_neg]
              rintro ⟨-, w⟩
              rcases hno with hno | hno
              · exact hno e97
              · exact hno (by rw [w]; exact e97)
            · rw [if_neg (by omega)]
          · rw [rr, q6] at z
            have z2 : kd = 48 := by
              have z := Classical.not_not.mp z
              unfold rf_srt at z
              by_cases e0 : kd = 0
              · rw [if_pos e0] at z; omega
              · rw [if_neg e0] at z
                by_cases e1 : kd = 97
                · rw [if_pos e1] at z; omega
                · rw [if_neg e1] at z
                  by_cases e2 : kd = 48
                  · exact e2
                  · rw [if_neg e2] at z
                    split at z <;> omega
            refine S_X11_goes_200 (by rw [rr, q4]; omega) (by rw [rr, q4]; omega) (c_isDigit _ (by rw [rr, rt, q4]; omega)) ?_
            rintro _ _ ⟨rfl, rfl⟩
            rw [rr, rt, q4]
            refine S_X11_goes_212 (by split <;> omega) (fun y => ?_) (fun y => ?_)
            · refine J228 i ?_
              rw [g3, if_pos (Or.inr z2), if_neg]
              rintro ⟨-, w⟩
              exact rf_kdD.mp y (by rw [w]; exact z2)
            · refine J215 (by omega) ?_
              rw [g3, if_pos (Or.inr z2), if_pos (Or.inr z2), if_pos]
              refine ⟨by omega, ?_⟩
              rw [z2]
              exact Classical.not_not.mp (fun w => y (rf_kdD.mpr w))
        refine S_X11_goes_169 (by rw [rr, q6]; omega) (fun z => ?_) (fun z => ?_)
        · rw [rr, q6] at z
          exact J192 (Or.inl (fun e => z (by rw [e]; rfl)))
        · rw [rr, q6] at z
          have z2 : kd = 97 := by
            have z := Classical.not_not.mp z
            unfold rf_srt at z
            by_cases e0 : kd = 0
            · rw [if_pos e0] at z; omega
            · rw [if_neg e0] at z
              by_cases e1 : kd = 97
              · exact e1
              · rw [if_neg e1] at z
                split at z
                · omega
                · split at z <;> omega
          refine S_X11_goes_177 (by rw [rr, q4]; omega) (by rw [rr, q4]; omega) (c_isLetter _ (by rw [rr, rt, q4]; omega)) ?_
          rintro _ _ ⟨rfl, rfl⟩
          rw [rr, rt, q4]
          refine S_X11_goes_189 (by split <;> omega) (fun y => ?_) (fun y => ?_)
          · refine J215 (by omega) ?_
            rw [g3, if_pos (Or.inl z2), if_pos (Or.inl z2), if_pos]
            refine ⟨by omega, ?_⟩
            rw [z2]
            exact Classical.not_not.mp (fun w => y (rf_kdL.mpr w))
          · exact J192 (Or.inr (rf_kdL.mp (Classical.not_not.mp y)))
  -- a TOKEN begins
  have J145 : s < u 3 → ∀ q : Int, q = rf_srt kd → am_X (am_FV G (d + 3) (fun σ' => σ' = am_sr σ 91 (am_u1 (am_u1 (am_u1 u 5 s) 6 (rf_srt kd)) 4 sp))) mX11_goes (0, 0) 145 [some (am_r (some 91)), none] [am_i q, am_r (some 91)] (am_K0, am_sr σ 91 (am_u1 (am_u1 u 5 s) 4 s)) := by
    intro hlt q hq
    rw [if_pos hlt] at hsp
    refine S_X11_goes_145 ?_
    rw [am_pI_sr, show am_u1 (am_u1 (am_u1 u 5 s) 4 s) 6 q = am_u1 (am_u1 (am_u1 u 5 s) 6 q) 4 s from am_u1_cm (by decide)]
    refine S_X11_goes_148 ?_
    have q4 : (am_u1 (am_u1 (am_u1 u 5 s) 6 q) 4 s) 4 = s := am_u1_eq
    rw [rr, q4, am_pI_sr, am_u1_u1, hq]
    exact J158 700 (s + 1) (by omega) (by omega) (by omega) hsp
  have J60 : am_X (am_FV G (d + 3) (fun σ' => σ' = am_sr σ 91 (am_u1 (am_u1 (am_u1 u 5 s) 6 (rf_srt kd)) 4 sp))) mX11_goes (0, 0) 60 [some (am_r (some 91)), none] [] (am_K0, am_sr σ 91 (am_u1 (am_u1 u 5 s) 4 s)) := by
    have q4 : (am_u1 (am_u1 u 5 s) 4 s) 4 = s := am_u1_eq
    have q3 : (am_u1 (am_u1 u 5 s) 4 s) 3 = u 3 := by simp [am_u1]
    refine S_X11_goes_60 (by rw [rr, q4]; omega) (by rw [rr, q3]; omega) (fun z => ?_) (fun z => ?_)
    · rw [rr, q3, q4] at z
      have hlt : s < u 3 := by omega
      have hbs := hb s (by omega) (by omega)
      rw [if_pos hlt] at hkv
      have hks := tk_kd_rs (ts s)
      refine S_X11_goes_77 (by rw [rr, q4]; omega) (by rw [rr, q4]; omega) ?_
      rw [rr, rt, q4]
      refine S_X11_goes_87 (c_isLetter _ (by omega)) ?_
      rintro _ _ ⟨rfl, rfl⟩
      refine S_X11_goes_92 (by split <;> omega) (fun y => ?_) (fun y => ?_)
      · have n97 := rf_kdL.mp y
        refine S_X11_goes_99 (c_isDigit _ (by omega)) ?_
        rintro _ _ ⟨rfl, rfl⟩
        refine S_X11_goes_103 (by split <;> omega) (fun y2 => ?_) (fun y2 => ?_)
        · have n48 := rf_kdD.mp y2
          have y9 : ¬ (97 ≤ ts s ∧ ts s ≤ 122) := fun w => by rw [if_pos w] at y; omega
          have y8 : ¬ (48 ≤ ts s ∧ ts s ≤ 57) := fun w => by rw [if_pos w] at y2; omega
          have hk3 : (ts s = 59 ∨ ts s = 61 ∨ ts s = 44 ∨ ts s = 60 ∨ ts s = 62) → 3 = rf_srt kd := by
            intro w
            rw [hkv]
            unfold tk_kd
            rw [if_neg y9, if_neg y8, if_pos w]
            rcases w with w | w | w | w | w <;> rw [w] <;> rfl
          have hk4 : ¬ (ts s = 59 ∨ ts s = 61 ∨ ts s = 44 ∨ ts s = 60 ∨ ts s = 62) → 4 = rf_srt kd := by
            intro w
            rw [hkv]
            unfold tk_kd
            rw [if_neg y9, if_neg y8, if_neg w]
            rfl
          have T140 : (ts s = 59 ∨ ts s = 61 ∨ ts s = 44 ∨ ts s = 60 ∨ ts s = 62) → am_X (am_FV G (d + 3) (fun σ' => σ' = am_sr σ 91 (am_u1 (am_u1 (am_u1 u 5 s) 6 (rf_srt kd)) 4 sp))) mX11_goes (0, 0) 140 [some (am_r (some 91)), none] [am_r (some 91)] (am_K0, am_sr σ 91 (am_u1 (am_u1 u 5 s) 4 s)) := fun w => S_X11_goes_140 (J145 hlt 3 (hk3 w))
          refine S_X11_goes_110 (by omega) (fun w => T140 (by omega)) (fun w1 => ?_)
          refine S_X11_goes_116 (by omega) (fun w => T140 (by omega)) (fun w2 => ?_)
          refine S_X11_goes_122 (by omega) (fun w => T140 (by omega)) (fun w3 => ?_)
          refine S_X11_goes_128 (by omega) (fun w => T140 (by omega)) (fun w4 => ?_)
          refine S_X11_goes_134 (by omega) (fun w => ?_) (fun w => T140 (by omega))
          exact S_X11_goes_144 (J145 hlt 4 (hk4 (by omega)))
        · have e48 : kd = 48 := by rw [hkv]; exact Classical.not_not.mp (fun w => y2 (rf_kdD.mpr w))
          exact S_X11_goes_106 (J145 hlt 2 (by rw [e48]; rfl))
      · have e97 : kd = 97 := by rw [hkv]; exact Classical.not_not.mp (fun w => y (rf_kdL.mpr w))
        exact S_X11_goes_95 (J145 hlt 1 (by rw [e97]; rfl))
    · rw [rr, q3, q4] at z
      rw [if_neg (by omega)] at hkv hsp
      refine S_X11_goes_71 ?_
      refine S_X11_goes_76 ?_
      rw [am_pI_sr, am_u1_cm (by decide), hsp, hkv]
      rfl
  have J52 : am_X (am_FV G (d + 3) (fun σ' => σ' = am_sr σ 91 (am_u1 (am_u1 (am_u1 u 5 s) 6 (rf_srt kd)) 4 sp))) mX11_goes (0, 0) 52 [some (am_r (some 91)), none] [] (am_K0, am_sr σ 91 (am_u1 u 4 s)) := by
    refine S_X11_goes_52 ?_
    rw [rr, am_pI_sr, show am_u1 u 4 s 4 = s from am_u1_eq, show am_u1 (am_u1 u 4 s) 5 s = am_u1 (am_u1 u 5 s) 4 s from am_u1_cm (by decide)]
    exact J60
  have J0 : ∀ (f : Nat) (i : Int), 0 ≤ i → i ≤ u 3 → u 3 - i ≤ f → tk_sk ts (u 3) f i = s → am_X (am_FV G (d + 3) (fun σ' => σ' = am_sr σ 91 (am_u1 (am_u1 (am_u1 u 5 s) 6 (rf_srt kd)) 4 sp))) mX11_goes (0, 0) 0 [some (am_r (some 91)), none] [] (am_K0, am_sr σ 91 (am_u1 u 4 i)) := by
    intro f
    induction f with
    | zero =>
      intro i g0 g1 g2 g3
      have g3 : i = s := g3
      subst g3
      have q4 : am_u1 u 4 i 4 = i := am_u1_eq
      have q3 : am_u1 u 4 i 3 = u 3 := by simp [am_u1]
      exact S_X11_goes_0 (by rw [rr, q4]; omega) (by rw [rr, q3]; omega) (fun q => J52) (fun q => by rw [rr, q3, q4] at q; omega)
    | succ f ih =>
      intro i g0 g1 g2 g3
      have q4 : am_u1 u 4 i 4 = i := am_u1_eq
      have q3 : am_u1 u 4 i 3 = u 3 := by simp [am_u1]
      unfold tk_sk at g3
      have T39 : i < u 3 → (ts i = 32 ∨ ts i = 10) → am_X (am_FV G (d + 3) (fun σ' => σ' = am_sr σ 91 (am_u1 (am_u1 (am_u1 u 5 s) 6 (rf_srt kd)) 4 sp))) mX11_goes (0, 0) 39 [some (am_r (some 91)), none] [] (am_K0, am_sr σ 91 (am_u1 u 4 i)) := by
        intro w1 w2
        rw [if_pos ⟨w1, w2⟩] at g3
        refine S_X11_goes_39 ?_
        rw [rr, q4, am_pI_sr, am_u1_u1]
        exact ih (i + 1) (by omega) (by omega) (by omega) g3
      refine S_X11_goes_0 (by rw [rr, q4]; omega) (by rw [rr, q3]; omega) (fun q => ?_) (fun q => ?_)
      · rw [rr, q3, q4] at q
        rw [if_neg (by omega)] at g3
        subst g3
        exact J52
      · rw [rr, q3, q4] at q
        have hbi := hb i g0 (by omega)
        refine S_X11_goes_11 (by rw [rr, q4]; omega) (by rw [rr, q4]; omega) (by rw [rr, rt, q4]; omega) (fun w => ?_) (fun w => ?_)
        · rw [rr, rt, q4] at w
          exact T39 (by omega) (Or.inl w)
        · rw [rr, rt, q4] at w
          refine S_X11_goes_25 (by rw [rr, q4]; omega) (by rw [rr, q4]; omega) (by rw [rr, rt, q4]; omega) (fun w2 => ?_) (fun w2 => ?_)
          · rw [rr, rt, q4] at w2
            rw [if_neg (by omega)] at g3
            subst g3
            exact J52
          · rw [rr, rt, q4] at w2
            exact T39 (by omega) (Or.inr (Classical.not_not.mp w2))
  have e0 : am_sr σ 91 (am_u1 u 4 (u 4)) = σ := by
    have : am_u1 u 4 (u 4) = u := by
      funext j
      unfold am_u1
      split
      next h => rw [h]
      · rfl
    rw [this, ← hu, am_sr_self]
  have := J0 700 (u 4) h3 h4 (by omega) hst0
  rw [e0] at this
  exact this
theorem am_sr_sr (σ : am_D) (a : Nat) (t t' : Int → Int) : am_sr (am_sr σ a t) a t' = am_sr σ a t' := by
  show (am_ur (am_ur σ.1 a t) a t', σ.2) = _
  rw [am_ur_ur]
theorem c_begins (d : Nat) (hb : ∀ i, 0 ≤ i → i < 600 → -128 ≤ σ.1 92 i ∧ σ.1 92 i ≤ 127) (h1 : 0 ≤ σ.1 91 1 ∧ σ.1 91 1 ≤ 600) : am_MV G (d + 4) mX11_begins [am_r (some 91)] σ (fun σ' => σ' = am_sr σ 91 (rf_go (σ.1 92) (am_u1 (am_u1 (am_u1 (am_u1 (σ.1 91) 3 (σ.1 91 1)) 1 0) 4 0) 2 0))) := by
  refine am_M.go (by decide) (Nat.le_of_ble_eq_true rfl) rfl ?_
  refine S_X11_begins_0 ?_
  refine S_X11_begins_8 ?_
  refine S_X11_begins_13 ?_
  refine S_X11_begins_18 ?_
  rw [am_pI_sr0 σ, am_pI_sr, am_pI_sr, am_pI_sr]
  generalize hu : am_u1 (am_u1 (am_u1 (am_u1 (σ.1 91) 3 (σ.1 91 1)) 1 0) 4 0) 2 0 = u
  have u3 : u 3 = σ.1 91 1 := by rw [← hu]; simp [am_u1]
  have u4 : u 4 = 0 := by rw [← hu]; simp [am_u1]
  have rr : (am_sr σ 91 u).1 91 = u := am_sr_at
  have rt : (am_sr σ 91 u).1 92 = σ.1 92 := am_sr_of (by decide)
  refine S_X11_begins_23 (c_goes _ ?_) ?_
  · rw [rr, rt]
    exact ⟨hb, by omega, by omega, by omega, by omega⟩
  · rintro _ rfl
    refine S_X11_begins_27 ?_
    rw [rr, rt, am_sr_sr]
def rf_isw (ts u : Int → Int) (i : Nat) : Bool := decide (u 2 = 0) && (decide (u 6 = 1) && (decide (u 4 - u 5 = (am_chr i).length) && (List.range (am_chr i).length).all fun j => decide (ts (u 5 + j) = (am_chr i).getD j 0)))
theorem c_rIsWord (d : Nat) {i : Nat} (hi : i < 9) (hk : rf_ok (σ.1 92) (σ.1 91)) : am_MI G (d + 5) mX11_isWord [am_r (some 91), am_s i] σ (fun x σ' => x = (if rf_isw (σ.1 92) (σ.1 91) i then 1 else 0) ∧ σ = σ') := by
  obtain ⟨hb, h1, h2, h3, h4, h6, h7, h8, h9, h10, h11, h12⟩ := id hk
  have hl := (am_lens i hi).2
  refine am_M.go (by decide) (Nat.le_of_ble_eq_true rfl) rfl ?_
  generalize hw : rf_isw (σ.1 92) (σ.1 91) i = w
  have J82 : ∀ v : Int, v = (if w = true then 1 else 0) → am_X (am_FI G (d + 5) (fun x σ' => x = (if w = true then 1 else 0) ∧ σ = σ')) mX11_isWord (0, 0) 82 [none, none, some (am_i v), none] [] (am_K0, σ) := by
    intro v hv
    exact S_X11_isWord_82 (by rw [hv]; split <;> omega) ⟨hv, rfl⟩
  -- the loop, while all was right
  have loop : ∀ (m j : Nat), j + m = (am_chr i).length → σ.1 91 4 - σ.1 91 5 = (am_chr i).length → w = (List.range (am_chr i).length).all (fun j => decide (σ.1 92 (σ.1 91 5 + j) = (am_chr i).getD j 0)) → (∀ k, k < j → σ.1 92 (σ.1 91 5 + k) = (am_chr i).getD k 0) → am_X (am_FI G (d + 5) (fun x σ' => x = (if w = true then 1 else 0) ∧ σ = σ')) mX11_isWord (0, 0) 39 [some (am_r (some 91)), some (am_s i), some (am_i 1), some (am_i j)] [] (am_K0, σ) := by
    intro m
    induction m with
    | zero =>
      intro j hj hln hwe hall
      refine S_X11_isWord_39 (c_slen _ hi) hi ?_
      rintro _ _ ⟨rfl, rfl⟩
      refine S_X11_isWord_44 (by omega) (by omega) (fun q3 => J82 1 ?_) (fun q3 => absurd q3 (by omega))
      have : w = true := by
        rw [hwe, List.all_eq_true]
        intro k hk9
        exact decide_eq_true (hall k (by have := List.mem_range.mp hk9; omega))
      rw [if_pos this]
    | succ m ih =>
      intro j hj hln hwe hall
      refine S_X11_isWord_39 (c_slen _ hi) hi ?_
      rintro _ _ ⟨rfl, rfl⟩
      refine S_X11_isWord_44 (by omega) (by omega) (fun q3 => absurd q3 (by omega)) (fun q3 => ?_)
      refine S_X11_isWord_47 (by omega) (fun q => absurd q (by omega)) (fun _ => ?_)
      have hbr := hb (σ.1 91 5 + j) (by omega) (by omega)
      have hcr := am_chr_rg i hi j (by omega)
      refine S_X11_isWord_51 (by omega) (by omega) (c_charAt _ hi (by omega)) hi ?_
      rintro _ _ ⟨rfl, rfl⟩
      refine S_X11_isWord_67 (by omega) (by omega) (fun q4 => ?_) (fun q4 => ?_)
      · refine S_X11_isWord_74 ?_
        refine S_X11_isWord_75 ?_
        refine S_X11_isWord_76 ?_
        refine S_X11_isWord_39 (c_slen _ hi) hi ?_
        rintro _ _ ⟨rfl, rfl⟩
        have : w = false := by
          rw [hwe, List.all_eq_false]
          exact ⟨j, List.mem_range.mpr (by omega), by simpa using q4⟩
        refine S_X11_isWord_44 (by omega) (by omega) (fun q5 => J82 0 (by rw [this]; rfl)) (fun q5 => ?_)
        exact S_X11_isWord_47 (by omega) (fun _ => J82 0 (by rw [this]; rfl)) (fun q => absurd rfl q)
      · refine S_X11_isWord_70 ?_
        refine S_X11_isWord_75 ?_
        refine S_X11_isWord_76 ?_
        refine ih (j + 1) (by omega) hln hwe (fun k hk9 => ?_)
        by_cases hkj : k = j
        · subst hkj; exact Classical.not_not.mp q4
        · exact hall k (by omega)
  -- not even so far
  have J35 : w = false → am_X (am_FI G (d + 5) (fun x σ' => x = (if w = true then 1 else 0) ∧ σ = σ')) mX11_isWord (0, 0) 35 [some (am_r (some 91)), some (am_s i), none, none] [] (am_K0, σ) := by
    intro hf
    refine S_X11_isWord_35 ?_
    refine S_X11_isWord_36 ?_
    refine S_X11_isWord_37 ?_
    refine S_X11_isWord_39 (c_slen _ hi) hi ?_
    rintro _ _ ⟨rfl, rfl⟩
    refine S_X11_isWord_44 (by omega) (by omega) (fun q5 => J82 0 (by rw [hf]; rfl)) (fun q5 => ?_)
    exact S_X11_isWord_47 (by omega) (fun _ => J82 0 (by rw [hf]; rfl)) (fun q => absurd rfl q)
  unfold rf_isw at hw
  refine S_X11_isWord_0 (c_isGood _ (by omega)) ?_
  rintro _ _ ⟨rfl, rfl⟩
  refine S_X11_isWord_4 (by split <;> omega) (fun q => J35 ?_) (fun q => ?_)
  · rw [← hw]
    have : ¬ σ.1 91 2 = 0 := fun z => by rw [if_pos z] at q; omega
    rw [decide_eq_false this]
    rfl
  have q : σ.1 91 2 = 0 := by
    by_cases z : σ.1 91 2 = 0
    · exact z
    · rw [if_neg z] at q; exact absurd rfl q
  rw [decide_eq_true q] at hw
  refine S_X11_isWord_7 (by omega) (fun q2 => J35 ?_) (fun q2 => ?_)
  · rw [← hw, decide_eq_false q2]
    rfl
  have q2 := Classical.not_not.mp q2
  rw [decide_eq_true q2] at hw
  refine S_X11_isWord_15 (c_slen _ hi) hi ?_
  rintro _ _ ⟨rfl, rfl⟩
  refine S_X11_isWord_28 (by omega) (by omega) (fun q3 => J35 ?_) (fun q3 => ?_)
  · rw [← hw, decide_eq_false q3]
    rfl
  have q3 := Classical.not_not.mp q3
  rw [decide_eq_true q3] at hw
  refine S_X11_isWord_31 ?_
  refine S_X11_isWord_36 ?_
  refine S_X11_isWord_37 ?_
  exact loop (am_chr i).length 0 (by omega) q3 hw.symm (fun k hk9 => absurd hk9 (Nat.not_lt_zero _))
theorem c_isSign (d : Nat) {w : Int} (hw : 0 ≤ w ∧ w ≤ 100) (hk : rf_ok (σ.1 92) (σ.1 91)) : am_MI G (d + 2) mX11_isSign [am_r (some 91), am_i w] σ (fun x σ' => x = (if σ.1 91 2 = 0 ∧ σ.1 91 6 = 3 ∧ σ.1 92 (σ.1 91 5) = w then 1 else 0) ∧ σ = σ') := by
  obtain ⟨hb, h1, h2, h3, h4, h6, h7, h8, h9, h10, h11, h12⟩ := id hk
  refine am_M.go (by decide) (Nat.le_of_ble_eq_true rfl) rfl ?_
  refine S_X11_isSign_0 (c_isGood _ (by omega)) ?_
  rintro _ _ ⟨rfl, rfl⟩
  refine S_X11_isSign_4 (by split <;> omega) (fun q => ?_) (fun q => ?_)
  · have : ¬ σ.1 91 2 = 0 := fun z => by rw [if_pos z] at q; omega
    refine S_X11_isSign_32 ?_
    exact S_X11_isSign_33 (by omega) ⟨by rw [if_neg (fun z => this z.1)], rfl⟩
  have q : σ.1 91 2 = 0 := by
    by_cases z : σ.1 91 2 = 0
    · exact z
    · rw [if_neg z] at q; exact absurd rfl q
  refine S_X11_isSign_7 (by omega) (fun q2 => ?_) (fun q2 => ?_)
  · refine S_X11_isSign_32 ?_
    exact S_X11_isSign_33 (by omega) ⟨by rw [if_neg (fun z => q2 z.2.1)], rfl⟩
  have q2 := Classical.not_not.mp q2
  have hlt := h12 (by omega)
  have hbs := hb (σ.1 91 5) (by omega) (by omega)
  refine S_X11_isSign_15 (by omega) (by omega) (by omega) (by omega) (fun q3 => ?_) (fun q3 => ?_)
  · refine S_X11_isSign_32 ?_
    exact S_X11_isSign_33 (by omega) ⟨by rw [if_neg (fun z => q3 z.2.2)], rfl⟩
  · refine S_X11_isSign_28 ?_
    exact S_X11_isSign_33 (by omega) ⟨by rw [if_pos ⟨q, q2, Classical.not_not.mp q3⟩], rfl⟩
theorem c_rSign (d : Nat) {w : Int} (hw : 0 ≤ w ∧ w ≤ 100) (hk : rf_ok (σ.1 92) (σ.1 91)) : am_MV G (d + 4) mX11_sign [am_r (some 91), am_i w] σ (fun σ' => σ' = am_sr σ 91 (if σ.1 91 2 = 0 ∧ σ.1 91 6 = 3 ∧ σ.1 92 (σ.1 91 5) = w then rf_go (σ.1 92) (σ.1 91) else rf_fail (σ.1 91) 1)) := by
  refine am_M.go (by decide) (Nat.le_of_ble_eq_true rfl) rfl ?_
  refine S_X11_sign_0 (c_isSign _ hw hk) ?_
  rintro _ _ ⟨rfl, rfl⟩
  refine S_X11_sign_5 (by split <;> omega) (fun q => ?_) (fun q => ?_)
  · have z : σ.1 91 2 = 0 ∧ σ.1 91 6 = 3 ∧ σ.1 92 (σ.1 91 5) = w := by
      by_cases z : σ.1 91 2 = 0 ∧ σ.1 91 6 = 3 ∧ σ.1 92 (σ.1 91 5) = w
      · exact z
      · rw [if_neg z] at q; exact absurd rfl q
    rw [if_pos z]
    refine S_X11_sign_16 (c_goes _ hk.w) ?_
    rintro _ rfl
    exact S_X11_sign_20 rfl
  · have z : ¬ (σ.1 91 2 = 0 ∧ σ.1 91 6 = 3 ∧ σ.1 92 (σ.1 91 5) = w) := fun z => by rw [if_pos z] at q; omega
    rw [if_neg z]
    refine S_X11_sign_8 (c_fails _ hk) ?_
    rintro _ rfl
    exact S_X11_sign_13 (S_X11_sign_20 rfl)
def rf_let (ts u : Int → Int) : Int := if u 2 = 0 ∧ u 6 = 1 ∧ u 4 - u 5 = 1 ∧ 97 ≤ ts (u 5) ∧ ts (u 5) ≤ 99 then ts (u 5) - 97 else -1
theorem rf_isw1 {ts u : Int → Int} {i : Nat} {c : Int} (hc : am_chr i = [c]) : rf_isw ts u i = true ↔ u 2 = 0 ∧ u 6 = 1 ∧ u 4 - u 5 = 1 ∧ ts (u 5) = c := by
  unfold rf_isw
  rw [hc]
  simp [List.range_succ]
theorem c_rLetter (d : Nat) (hk : rf_ok (σ.1 92) (σ.1 91)) : am_MI G (d + 6) mX11_letter [am_r (some 91)] σ (fun x σ' => x = rf_let (σ.1 92) (σ.1 91) ∧ σ' = am_sr σ 91 (if x = -1 then rf_fail (σ.1 91) 1 else rf_go (σ.1 92) (σ.1 91))) := by
  have w6 := rf_isw1 (ts := σ.1 92) (u := σ.1 91) (i := 6) (c := 97) rfl
  have w7 := rf_isw1 (ts := σ.1 92) (u := σ.1 91) (i := 7) (c := 98) rfl
  have w8 := rf_isw1 (ts := σ.1 92) (u := σ.1 91) (i := 8) (c := 99) rfl
  refine am_M.go (by decide) (Nat.le_of_ble_eq_true rfl) rfl ?_
  have J40 : ∀ v : Int, v = rf_let (σ.1 92) (σ.1 91) → -1 ≤ v ∧ v ≤ 2 → am_X (am_FI G (d + 6) (fun x σ' => x = rf_let (σ.1 92) (σ.1 91) ∧ σ' = am_sr σ 91 (if x = -1 then rf_fail (σ.1 91) 1 else rf_go (σ.1 92) (σ.1 91)))) mX11_letter (0, 0) 40 [some (am_r (some 91)), none] [am_i v] (am_K0, σ) := by
    intro v hv hr
    refine S_X11_letter_40 ?_
    refine S_X11_letter_41 (by omega) (fun q => ?_) (fun q => ?_)
    · refine S_X11_letter_54 (c_goes _ hk.w) ?_
      rintro _ rfl
      exact S_X11_letter_58 ⟨hv, by rw [if_neg q]⟩
    · refine S_X11_letter_46 (c_fails _ hk) ?_
      rintro _ rfl
      exact S_X11_letter_51 (S_X11_letter_58 ⟨hv, by rw [if_pos (Classical.not_not.mp q)]⟩)
  refine S_X11_letter_0 (c_rIsWord _ (by omega) hk) ?_
  rintro _ _ ⟨rfl, rfl⟩
  refine S_X11_letter_6 (by split <;> omega) (fun q => ?_) (fun q => ?_)
  · have q6 : ¬ rf_isw (σ.1 92) (σ.1 91) 6 = true := fun z => by rw [if_pos z] at q; omega
    refine S_X11_letter_13 (c_rIsWord _ (by omega) hk) ?_
    rintro _ _ ⟨rfl, rfl⟩
    refine S_X11_letter_19 (by split <;> omega) (fun q => ?_) (fun q => ?_)
    · have q7 : ¬ rf_isw (σ.1 92) (σ.1 91) 7 = true := fun z => by rw [if_pos z] at q; omega
      refine S_X11_letter_26 (c_rIsWord _ (by omega) hk) ?_
      rintro _ _ ⟨rfl, rfl⟩
      refine S_X11_letter_32 (by split <;> omega) (fun q => ?_) (fun q => ?_)
      · have q8 : ¬ rf_isw (σ.1 92) (σ.1 91) 8 = true := fun z => by rw [if_pos z] at q; omega
        refine S_X11_letter_39 (J40 _ ?_ (by omega))
        rw [w6] at q6
        rw [w7] at q7
        rw [w8] at q8
        unfold rf_let
        rw [if_neg (by omega)]
      · have q8 : rf_isw (σ.1 92) (σ.1 91) 8 = true := by
          by_cases z : rf_isw (σ.1 92) (σ.1 91) 8 = true
          · exact z
          · rw [if_neg z] at q; exact absurd rfl q
        refine S_X11_letter_35 (J40 _ ?_ (by omega))
        rw [w8] at q8
        unfold rf_let
        rw [if_pos (by omega)]
        omega
    · have q7 : rf_isw (σ.1 92) (σ.1 91) 7 = true := by
        by_cases z : rf_isw (σ.1 92) (σ.1 91) 7 = true
        · exact z
        · rw [if_neg z] at q; exact absurd rfl q
      refine S_X11_letter_22 (J40 _ ?_ (by omega))
      rw [w7] at q7
      unfold rf_let
      rw [if_pos (by omega)]
      omega
  · have q6 : rf_isw (σ.1 92) (σ.1 91) 6 = true := by
      by_cases z : rf_isw (σ.1 92) (σ.1 91) 6 = true
      · exact z
      · rw [if_neg z] at q; exact absurd rfl q
    refine S_X11_letter_9 (J40 _ ?_ (by omega))
    rw [w6] at q6
    unfold rf_let
    rw [if_pos (by omega)]
    omega
/-- a digit: which; -1, -2: the FAULT of kind 1, 2; -3: there is a FAULT already -/
def rf_dig (ts u : Int → Int) (lo hi : Int) : Int := if u 2 = 0 then (if u 6 = 2 ∧ u 4 - u 5 = 1 then (if lo ≤ ts (u 5) - 48 ∧ ts (u 5) - 48 ≤ hi then ts (u 5) - 48 else -2) else -1) else -3
theorem c_rDigit (d : Nat) {lo hi : Int} (hlo : 0 ≤ lo ∧ lo ≤ 100) (hhi : -100 ≤ hi ∧ hi ≤ 100) (hk : rf_ok (σ.1 92) (σ.1 91)) : am_MI G (d + 2) mX11_digit [am_r (some 91), am_i lo, am_i hi] σ (fun x σ' => x = (if rf_dig (σ.1 92) (σ.1 91) lo hi < 0 then lo else rf_dig (σ.1 92) (σ.1 91) lo hi) ∧ σ' = am_sr σ 91 (if rf_dig (σ.1 92) (σ.1 91) lo hi < 0 then rf_fail (σ.1 91) (-(rf_dig (σ.1 92) (σ.1 91) lo hi)) else σ.1 91)) := by
  obtain ⟨hb, h1, h2, h3, h4, h6, h7, h8, h9, h10, h11, h12⟩ := id hk
  refine am_M.go (by decide) (Nat.le_of_ble_eq_true rfl) rfl ?_
  generalize hD : rf_dig (σ.1 92) (σ.1 91) lo hi = D
  unfold rf_dig at hD
  have nofail : ¬ σ.1 91 2 = 0 → ∀ w, rf_fail (σ.1 91) w = σ.1 91 := fun z w => by unfold rf_fail; rw [if_neg z]
  have J28 : (D = -1 ∨ D = -3) → am_X (am_FI G (d + 2) (fun x σ' => x = (if D < 0 then lo else D) ∧ σ' = am_sr σ 91 (if D < 0 then rf_fail (σ.1 91) (-D) else σ.1 91))) mX11_digit (0, 0) 28 [some (am_r (some 91)), some (am_i lo), none, none] [] (am_K0, σ) := by
    intro hd
    refine S_X11_digit_28 (c_fails _ hk) ?_
    rintro _ rfl
    refine S_X11_digit_33 ⟨by rw [if_pos (by omega)], ?_⟩
    rw [if_pos (by omega)]
    by_cases z : σ.1 91 2 = 0
    · have : D = -1 := by
        rcases hd with hd | hd
        · exact hd
        · rw [if_pos z] at hD
          split at hD
          · split at hD <;> omega
          · exact hD.symm
      rw [this]
      rfl
    · rw [nofail z, nofail z]
  refine S_X11_digit_0 (c_isGood _ (by omega)) ?_
  rintro _ _ ⟨rfl, rfl⟩
  refine S_X11_digit_4 (by split <;> omega) (fun q => J28 ?_) (fun q => ?_)
  · have : ¬ σ.1 91 2 = 0 := fun z => by rw [if_pos z] at q; omega
    rw [if_neg this] at hD
    exact Or.inr hD.symm
  have q : σ.1 91 2 = 0 := by
    by_cases z : σ.1 91 2 = 0
    · exact z
    · rw [if_neg z] at q; exact absurd rfl q
  rw [if_pos q] at hD
  refine S_X11_digit_7 (by omega) (fun q2 => J28 ?_) (fun q2 => ?_)
  · rw [if_neg (fun z => q2 z.1)] at hD
    exact Or.inl hD.symm
  have q2 := Classical.not_not.mp q2
  refine S_X11_digit_15 (by omega) (fun q3 => ?_) (fun q3 => J28 ?_)
  · rw [if_pos ⟨q2, q3⟩] at hD
    have hbs := hb (σ.1 91 5) (by omega) (by omega)
    refine S_X11_digit_35 (by omega) (by omega) ?_
    refine S_X11_digit_48 (c_isIn _ (by omega) (by omega) (by omega)) ?_
    rintro _ _ ⟨rfl, rfl⟩
    refine S_X11_digit_54 (by split <;> omega) (fun y => ?_) (fun y => ?_)
    · have z : lo ≤ σ.1 92 (σ.1 91 5) - 48 ∧ σ.1 92 (σ.1 91 5) - 48 ≤ hi := by
        by_cases z : lo ≤ σ.1 92 (σ.1 91 5) - 48 ∧ σ.1 92 (σ.1 91 5) - 48 ≤ hi
        · exact z
        · rw [if_neg z] at y; exact absurd rfl y
      rw [if_pos z] at hD
      refine S_X11_digit_62 (c_isGood _ (by omega)) ?_
      rintro _ _ ⟨rfl, rfl⟩
      refine S_X11_digit_66 (by split <;> omega) (fun y2 => ?_) (fun y2 => ?_)
      · rw [if_pos q] at y2; omega
      · refine S_X11_digit_69 ?_
        exact S_X11_digit_74 ⟨by rw [if_neg (by omega)]; omega, by rw [if_neg (by omega), am_sr_self]⟩
    · have z : ¬ (lo ≤ σ.1 92 (σ.1 91 5) - 48 ∧ σ.1 92 (σ.1 91 5) - 48 ≤ hi) := fun z => by rw [if_pos z] at y; omega
      rw [if_neg z] at hD
      refine S_X11_digit_57 (c_fails _ hk) ?_
      rintro _ rfl
      have r2 : (am_sr σ 91 (rf_fail (σ.1 91) 2)).1 91 2 = 2 + 8 * σ.1 91 5 := by
        rw [am_sr_at]
        unfold rf_fail
        rw [if_pos q]
        exact am_u1_eq
      refine S_X11_digit_62 (c_isGood _ (by rw [r2]; omega)) ?_
      rintro _ _ ⟨rfl, rfl⟩
      rw [r2, show (if 2 + 8 * σ.1 91 5 = 0 then (1 : Int) else 0) = 0 from if_neg (by omega)]
      refine S_X11_digit_66 (by omega) (fun y2 => ?_) (fun y2 => absurd rfl y2)
      refine S_X11_digit_73 ?_
      refine S_X11_digit_74 ⟨by rw [if_pos (by omega)], ?_⟩
      rw [if_pos (by omega), ← hD]
      rfl
  · rw [if_neg (fun z => q3 z.2)] at hD
    exact Or.inl hD.symm
theorem c_rNumber (d : Nat) {lo hi : Int} (hlo : 0 ≤ lo ∧ lo ≤ 100) (hhi : -100 ≤ hi ∧ hi ≤ 100) (hk : rf_ok (σ.1 92) (σ.1 91)) : am_MI G (d + 4) mX11_number [am_r (some 91), am_i lo, am_i hi] σ (fun x σ' => x = (if rf_dig (σ.1 92) (σ.1 91) lo hi < 0 then lo else rf_dig (σ.1 92) (σ.1 91) lo hi) ∧ σ' = am_sr σ 91 (if rf_dig (σ.1 92) (σ.1 91) lo hi < 0 then rf_fail (σ.1 91) (-(rf_dig (σ.1 92) (σ.1 91) lo hi)) else rf_go (σ.1 92) (σ.1 91))) := by
  have hf : 0 ≤ σ.1 91 2 ∧ σ.1 91 2 ≤ 10000 := ⟨hk.2.2.2.2.2.2.2.2.2.1, hk.2.2.2.2.2.2.2.2.2.2.1⟩
  have h5 : 0 ≤ σ.1 91 5 ∧ σ.1 91 5 ≤ 600 := ⟨hk.2.2.2.2.2.1, by have := hk.2.2.2.2.2.2.1; have := hk.2.2.2.2.1; have := hk.2.2.1; omega⟩
  refine am_M.go (by decide) (Nat.le_of_ble_eq_true rfl) rfl ?_
  refine S_X11_number_0 (c_rDigit _ hlo hhi hk) ?_
  rintro _ _ ⟨rfl, rfl⟩
  generalize hD : rf_dig (σ.1 92) (σ.1 91) lo hi = D
  by_cases hneg : D < 0
  · rw [if_pos hneg, if_pos hneg, if_pos hneg]
    have hz : (rf_fail (σ.1 91) (-D)) 2 ≠ 0 ∧ 0 ≤ (rf_fail (σ.1 91) (-D)) 2 ∧ (rf_fail (σ.1 91) (-D)) 2 ≤ 10000 := by
      have hD3 : -3 ≤ D := by
        rw [← hD]
        unfold rf_dig
        split
        · split
          · split <;> omega
          · omega
        · omega
      unfold rf_fail
      split
      · rw [show (am_u1 (σ.1 91) 2 (-D + 8 * σ.1 91 5)) 2 = -D + 8 * σ.1 91 5 from am_u1_eq]; omega
      next h => exact ⟨h, hf⟩
    have rr : (am_sr σ 91 (rf_fail (σ.1 91) (-D))).1 91 = rf_fail (σ.1 91) (-D) := am_sr_at
    refine S_X11_number_7 (c_isGood _ (by rw [rr]; exact hz.2)) ?_
    rintro _ _ ⟨rfl, rfl⟩
    rw [rr, if_neg hz.1]
    refine S_X11_number_11 (by omega) (fun _ => ?_) (fun q => absurd rfl q)
    exact S_X11_number_18 ⟨rfl, rfl⟩
  · rw [if_neg hneg, if_neg hneg, if_neg hneg, am_sr_self]
    have q : σ.1 91 2 = 0 := by
      by_cases z : σ.1 91 2 = 0
      · exact z
      · unfold rf_dig at hD
        rw [if_neg z] at hD
        omega
    refine S_X11_number_7 (c_isGood _ hf) ?_
    rintro _ _ ⟨rfl, rfl⟩
    rw [if_pos q]
    refine S_X11_number_11 (by omega) (fun z => absurd z (by omega)) (fun _ => ?_)
    refine S_X11_number_14 (c_goes _ hk.w) ?_
    rintro _ rfl
    exact S_X11_number_18 ⟨rfl, rfl⟩
end
