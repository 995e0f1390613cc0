section
/-! The class's kinds. -/
def sk_c (k : sk_K) : Int := k.1 + 4 * k.2
def sk_tc (c s : Int) : Int := if s = 0 then c % 4 else if s = 1 then c / 4 % 4 else 2
def sk_pc (Q : am_P) (l c s : Int) : Int := if pm_oT Q l s = -1 then 2 else if sk_tc c (pm_oT Q l s) = 2 then 2 else if pm_cT Q l (sk_tc c (pm_oT Q l s)) (pm_oM Q l s) = -1 then 2 else pm_cT Q l (sk_tc c (pm_oT Q l s)) (pm_oM Q l s)
theorem sk_c_rg {k : sk_K} (h : sk_ok k) : 0 ≤ sk_c k ∧ sk_c k ≤ 10 := by
  obtain ⟨⟨h1, h2⟩, h3, h4⟩ := h
  unfold sk_c
  omega
theorem sk_tc_c {k : sk_K} {s : Int} (h : sk_ok k) : sk_tc (sk_c k) s = sk_to k s := by
  obtain ⟨⟨h1, h2⟩, h3, h4⟩ := h
  unfold sk_tc sk_to sk_c
  split
  · omega
  · split
    · omega
    · rfl
theorem sk_pc_c {Q : am_P} {l s : Int} {k : sk_K} (h : sk_ok k) : sk_pc Q l (sk_c k) s = sk_pa Q l k s := by
  unfold sk_pc sk_pa
  rw [sk_tc_c h]
theorem sk_pc_rg {Q : am_P} {l c s : Int} (hP : pm_ok Q) (h2 : pm_S Q ≤ 2) : 0 ≤ sk_pc Q l c s ∧ sk_pc Q l c s ≤ 2 := by
  unfold sk_pc
  have h := hP.2.2.2.2.2.2.2 l (sk_tc c (pm_oT Q l s)) (pm_oM Q l s)
  split
  · omega
  · split
    · omega
    · split <;> omega
theorem sk_c_inj {k j : sk_K} (hk : sk_ok k) (hj : sk_ok j) (h : sk_c k = sk_c j) : k = j := by
  obtain ⟨⟨h1, h2⟩, h3, h4⟩ := hk
  obtain ⟨⟨g1, g2⟩, g3, g4⟩ := hj
  unfold sk_c at h
  exact Prod.ext (by omega) (by omega)
/-- the table of rows behind each other -/
def sk_J (f : Int → Int) : Prop := ∀ k j, sk_ok k → sk_ok j → f (sk_c k * 16 + sk_c j) = sk_c (sk_th k j)
/-- the table of rows within -/
def sk_A (f : Int → Int) (Q : am_P) : Prop := ∀ (l : Int) (k : sk_K), 0 ≤ l → l < 3 → sk_ok k → f (l * 16 + sk_c k) = sk_c (sk_wr Q l k)
variable {G : am_G} {σ : am_D}
theorem c_kto (d : Nat) {c s : Int} (hc : 0 ≤ c ∧ c < 16) (hs : -100 ≤ s ∧ s ≤ 100) : am_MI G (d + 1) mX1_to [am_i c, am_i s] σ (fun x σ' => x = sk_tc c s ∧ σ = σ') := by
  refine am_M.go (by decide) (Nat.le_of_ble_eq_true rfl) rfl ?_
  unfold sk_tc
  refine S_X1_to_0 (by omega) (fun z => ?_) (fun z => ?_)
  · subst z
    refine S_X1_to_9 (S_X1_to_20 ⟨?_, rfl⟩)
    rw [if_pos rfl, am_and_3, show am_shr c (2 * 0) = am_shr c ((0 : Nat) : Int) from rfl, am_shr_v 0 (by omega) (by omega)]
    show c / 1 % 4 = c % 4
    rw [Int.ediv_one]
  · refine S_X1_to_4 (by omega) (fun y => ?_) (fun y => ?_)
    · refine S_X1_to_19 (S_X1_to_20 ⟨?_, rfl⟩)
      rw [if_neg z, if_neg y]
    · have y : s = 1 := by omega
      subst y
      refine S_X1_to_9 (S_X1_to_20 ⟨?_, rfl⟩)
      rw [if_neg z, if_pos rfl, am_and_3, show am_shr c (2 * 1) = am_shr c ((2 : Nat) : Int) from rfl, am_shr_v 2 (by omega) (by omega)]
      rfl
theorem c_passing (d : Nat) {m : Nat} {Q : am_P} {l c s : Int} (hM : cd_M σ m Q) (h2 : pm_S Q ≤ 2) (hl : 0 ≤ l ∧ l < 3) (hc : 0 ≤ c ∧ c < 16) (hs : 0 ≤ s ∧ s ≤ 1) : am_MI G (d + 2) mX1_passing [am_r (some m), am_i l, am_i c, am_i s] σ (fun x σ' => x = sk_pc Q l c s ∧ σ = σ') := by
  obtain ⟨m1, m2, m3, m4, m5⟩ := id hM
  obtain ⟨⟨pS1, pS2⟩, ⟨pR1, pR2⟩, -, -, -, poT, poM, pcT⟩ := id m4
  have ho := poT l s
  have hm := poM l s
  have hT1 := m2.2.1 l s (by omega) (by omega) (by omega) (by omega)
  refine am_M.go (by decide) (Nat.le_of_ble_eq_true rfl) rfl ?_
  refine S_X1_passing_0 (c_opensTo _ m1 (by omega) (by omega)) m1 ?_
  rintro _ _ ⟨rfl, rfl⟩
  rw [if_pos (by omega), hT1.1]
  have hct := pcT l (sk_tc c (pm_oT Q l s)) (pm_oM Q l s)
  have htc : 0 ≤ sk_tc c (pm_oT Q l s) ∧ sk_tc c (pm_oT Q l s) ≤ 3 := by
    unfold sk_tc
    split
    · omega
    · split <;> omega
  have fin : ∀ x : Int, x = (if pm_oT Q l s = -1 then -1 else if sk_tc c (pm_oT Q l s) = 2 then -1 else pm_cT Q l (sk_tc c (pm_oT Q l s)) (pm_oM Q l s)) → am_X (am_FI G (d + 2) (fun x σ' => x = sk_pc Q l c s ∧ σ = σ')) mX1_passing (0, 0) 48 [none, none, none, none, none, none, none] [am_i x] (am_K0, σ) := by
    intro x hx
    refine S_X1_passing_48 ?_
    unfold sk_pc
    by_cases z : pm_oT Q l s = -1
    · rw [if_pos z] at hx ⊢
      refine S_X1_passing_50 (by omega) (fun w => absurd hx w) (fun _ => S_X1_passing_56 (S_X1_passing_62 ⟨rfl, rfl⟩))
    rw [if_neg z] at hx ⊢
    by_cases y : sk_tc c (pm_oT Q l s) = 2
    · rw [if_pos y] at hx ⊢
      refine S_X1_passing_50 (by omega) (fun w => absurd hx w) (fun _ => S_X1_passing_56 (S_X1_passing_62 ⟨rfl, rfl⟩))
    rw [if_neg y] at hx ⊢
    rw [← hx] at hct ⊢
    refine S_X1_passing_50 (by omega) (fun w => ?_) (fun w => ?_)
    · rw [if_neg w]; exact S_X1_passing_60 (S_X1_passing_62 ⟨rfl, rfl⟩)
    · rw [if_pos (Classical.not_not.mp w)]; exact S_X1_passing_56 (S_X1_passing_62 ⟨rfl, rfl⟩)
  refine S_X1_passing_8 (by omega) (fun z => ?_) (fun z => ?_)
  rotate_left
  · refine S_X1_passing_14 (S_X1_passing_24 ?_)
    refine S_X1_passing_26 (by omega) (fun w => absurd rfl w) (fun _ => ?_)
    exact S_X1_passing_32 (fin _ (by rw [if_pos (by omega)]))
  refine S_X1_passing_18 (c_kto _ hc (by omega)) ?_
  rintro _ _ ⟨rfl, rfl⟩
  refine S_X1_passing_24 ?_
  refine S_X1_passing_26 (by omega) (fun y => ?_) (fun y => ?_)
  · refine S_X1_passing_36 (c_lays _ m1 (by omega) (by omega)) m1 ?_
    rintro _ _ ⟨rfl, rfl⟩
    rw [if_pos (by omega), hT1.2 z]
    refine S_X1_passing_43 (c_closesTo _ m1 (by omega) (by omega)) m1 ?_
    rintro _ _ ⟨rfl, rfl⟩
    have hT2 := (m2.2.2.1 l (sk_tc c (pm_oT Q l s)) (pm_oM Q l s) (by omega) (by omega) (by omega) (by omega) (by omega) (by omega)).1
    rw [if_pos (by omega), hT2]
    exact fin _ (by rw [if_neg z, if_neg y])
  · exact S_X1_passing_32 (fin _ (by rw [if_neg z, if_pos (by omega)]))
theorem c_learn (d : Nat) {m : Nat} {Q : am_P} (hM : cd_M σ m Q) (h2 : pm_S Q ≤ 2) : am_MV G (d + 3) mX1_learn [am_r (some 32), am_r (some m)] σ (fun σ' => am_only [34] σ σ' ∧ sk_A (σ'.1 34) Q) := by
  have hm1 := hM.1.1
  refine am_M.go (by decide) (Nat.le_of_ble_eq_true rfl) rfl ?_
  generalize hQ : (fun (σ' : am_D) => am_only [34] σ σ' ∧ sk_A (σ'.1 34) Q) = QQ
  have C : ∀ (l : Int), 0 ≤ l → l < 3 → ∀ (n : Nat) (c : Int) (τ : am_D), c + n = 16 → 0 ≤ c → am_only [34] σ τ → (∀ l' c' : Int, 0 ≤ l' → 0 ≤ c' → c' < 16 → (l' < l ∨ (l' = l ∧ c' < c)) → τ.1 34 (l' * 16 + c') = sk_pc Q l' c' 0 + sk_pc Q l' c' 1 * 4) → (∀ τ' : am_D, am_only [34] σ τ' → (∀ l' c' : Int, 0 ≤ l' → 0 ≤ c' → c' < 16 → l' < l + 1 → τ'.1 34 (l' * 16 + c') = sk_pc Q l' c' 0 + sk_pc Q l' c' 1 * 4) → am_X (am_FV G (d + 3) QQ) mX1_learn (0, 0) 55 [some (am_r (some 32)), some (am_r (some m)), some (am_i l), none, none] [] (am_K0, τ')) → am_X (am_FV G (d + 3) QQ) mX1_learn (0, 0) 9 [some (am_r (some 32)), some (am_r (some m)), some (am_i l), some (am_i c), none] [] (am_K0, τ) := by
    intro l l0 l1 n
    induction n with
    | zero =>
      intro c τ hn hc ho hE K
      refine S_X1_learn_9 (by omega) (fun _ => ?_) (fun z => absurd (by omega) z)
      exact K τ ho (fun l' c' y1 y2 y3 y4 => hE l' c' y1 y2 y3 (by omega))
    | succ n ih =>
      intro c τ hn hc ho hE K
      have hMτ : cd_M τ m Q := cd_M_of (fun b y1 y2 => ho.1 b (by simp; omega)) hM
      have g0 := sk_pc_rg (Q := Q) (l := l) (c := c) (s := 0) hM.2.2.2.1 h2
      have g1 := sk_pc_rg (Q := Q) (l := l) (c := c) (s := 1) hM.2.2.2.1 h2
      refine S_X1_learn_9 (by omega) (fun z => absurd z (by omega)) (fun _ => ?_)
      refine S_X1_learn_15 (c_passing _ hMτ h2 ⟨l0, l1⟩ (by omega) (by omega)) ?_
      rintro _ _ ⟨rfl, rfl⟩
      refine S_X1_learn_24 (c_passing _ hMτ h2 ⟨l0, l1⟩ (by omega) (by omega)) ?_
      rintro _ _ ⟨rfl, rfl⟩
      have hsh : am_shl (sk_pc Q l c 1) 2 = sk_pc Q l c 1 * 4 := am_shl_v (x := sk_pc Q l c 1) 2 g1.1 (by omega) (by show sk_pc Q l c 1 * 4 < 2147483648; omega)
      refine S_X1_learn_43 (c_put _ sh_34 (by omega)) ?_
      intro τ' hτ'
      rw [if_pos (by omega), hsh] at hτ'
      subst hτ'
      refine S_X1_learn_49 ?_
      refine ih (c + 1) _ (by omega) (by omega) (ho.trans (am_only.pI (by simp))) (fun l' c' y1 y2 y3 y4 => ?_) K
      rw [am_pI_row]
      by_cases e : l' = l ∧ c' = c
      · rw [e.1, e.2, am_u1_eq]
      · rw [am_u1_ne (by omega)]
        exact hE l' c' y1 y2 y3 (by omega)
  have L : ∀ (n : Nat) (l : Int) (τ : am_D), l + n = 3 → 0 ≤ l → am_only [34] σ τ → (∀ l' c' : Int, 0 ≤ l' → 0 ≤ c' → c' < 16 → l' < l → τ.1 34 (l' * 16 + c') = sk_pc Q l' c' 0 + sk_pc Q l' c' 1 * 4) → am_X (am_FV G (d + 3) QQ) mX1_learn (0, 0) 2 [some (am_r (some 32)), some (am_r (some m)), some (am_i l), none, none] [] (am_K0, τ) := by
    intro n
    induction n with
    | zero =>
      intro l τ hn hl ho hE
      refine S_X1_learn_2 (by omega) (fun _ => ?_) (fun z => absurd (by omega) z)
      refine S_X1_learn_61 ?_
      rw [← hQ]
      refine ⟨ho, fun l' k y1 y2 hk => ?_⟩
      have hr := sk_c_rg hk
      rw [hE l' (sk_c k) y1 (by omega) (by omega) (by omega), sk_pc_c hk, sk_pc_c hk]
      show _ = sk_pa Q l' k 0 + 4 * sk_pa Q l' k 1
      omega
    | succ n ih =>
      intro l τ hn hl ho hE
      refine S_X1_learn_2 (by omega) (fun z => absurd z (by omega)) (fun _ => ?_)
      refine S_X1_learn_7 ?_
      refine C l hl (by omega) 16 0 τ (by omega) (by omega) ho (fun l' c' y1 y2 y3 y4 => hE l' c' y1 y2 y3 (by omega)) (fun τ' ho' hE' => ?_)
      refine S_X1_learn_55 ?_
      exact ih (l + 1) τ' (by omega) (by omega) ho' hE'
  exact S_X1_learn_0 (L 3 0 σ (by omega) (by omega) am_only.rfl' (fun l' c' y1 _ _ y4 => by omega))
theorem c_kjoin (d : Nat) {k j : sk_K} (hJ : sk_J (σ.1 33)) (hk : sk_ok k) (hj : sk_ok j) : am_MI G (d + 1) mX1_join [am_r (some 32), am_i (sk_c k), am_i (sk_c j)] σ (fun x σ' => x = sk_c (sk_th k j) ∧ σ = σ') := by
  have h1 := sk_c_rg hk
  have h2 := sk_c_rg hj
  refine am_M.go (by decide) (Nat.le_of_ble_eq_true rfl) rfl ?_
  refine S_X1_join_0 ?_
  refine S_X1_join_7 (by omega) (fun z => absurd z (by omega)) (fun _ => ?_)
  refine S_X1_join_11 (by omega) (fun z => absurd z (by omega)) (fun _ => ?_)
  refine S_X1_join_20 (by omega) (by omega) (S_X1_join_30 ⟨hJ k j hk hj, rfl⟩)
theorem c_kwrap (d : Nat) {Q : am_P} {l : Int} {k : sk_K} (hA : sk_A (σ.1 34) Q) (hl : 0 ≤ l ∧ l < 3) (hk : sk_ok k) : am_MI G (d + 2) mX1_wrap [am_r (some 32), am_i l, am_i (sk_c k)] σ (fun x σ' => x = sk_c (sk_wr Q l k) ∧ σ = σ') := by
  have h1 := sk_c_rg hk
  refine am_M.go (by decide) (Nat.le_of_ble_eq_true rfl) rfl ?_
  refine S_X1_wrap_0 (c_at _ sh_34 (by omega)) ?_
  rintro _ _ ⟨rfl, rfl⟩
  rw [if_pos (by omega)]
  exact ⟨hA l k hl.1 hl.2 hk, rfl⟩
end
