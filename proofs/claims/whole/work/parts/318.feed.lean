section
/-! The TAPE. -/
abbrev ab_B : Type := (Int → Int) × Int
def ab_st (v s : Int) (b : ab_B) : ab_B := (am_u1 b.1 b.2 (am_and (am_ushr v s) 255), b.2 + 1)
def ab_put (v : Int) (b : ab_B) : ab_B := ab_st v 0 (ab_st v 8 (ab_st v 16 (ab_st v 24 b)))
def ab_p5 (v1 v2 v3 v4 v5 : Int) (b : ab_B) : ab_B := ab_put v5 (ab_put v4 (ab_put v3 (ab_put v2 (ab_put v1 b))))
def ab_b (b : ab_B) : Prop := (∀ i, 0 ≤ b.1 i ∧ b.1 i ≤ 255) ∧ 0 ≤ b.2 ∧ b.2 ≤ 600
def cx_T (σ : am_D) (b : ab_B) : Prop := σ.1 2 = b.1 ∧ σ.1 1 1 = b.2
def rx_T (σ : am_D) (b : ab_B) : Prop := σ.1 92 = sg_t b.1 ∧ σ.1 91 1 = b.2
theorem ab_put_n {v : Int} {b : ab_B} : (ab_put v b).2 = b.2 + 4 := by
  show b.2 + 1 + 1 + 1 + 1 = b.2 + 4
  omega
theorem ab_p5_n {v1 v2 v3 v4 v5 : Int} {b : ab_B} : (ab_p5 v1 v2 v3 v4 v5 b).2 = b.2 + 20 := by
  unfold ab_p5
  rw [ab_put_n, ab_put_n, ab_put_n, ab_put_n, ab_put_n]
  omega
theorem ab_st_b {v : Int} (s : Nat) {b : ab_B} (hv : -2147483648 ≤ v ∧ v ≤ 2147483647) (hs : s = 0 ∨ s = 8 ∨ s = 16 ∨ s = 24) (h : ∀ i, 0 ≤ b.1 i ∧ b.1 i ≤ 255) : ∀ i, 0 ≤ (ab_st v s b).1 i ∧ (ab_st v s b).1 i ≤ 255 := by
  intro i
  show 0 ≤ am_u1 b.1 b.2 _ i ∧ am_u1 b.1 b.2 _ i ≤ 255
  by_cases z : i = b.2
  · rw [z, am_u1_eq]
    exact (am_bytes s hv hs).2
  · rw [am_u1_ne z]
    exact h i
theorem ab_put_b {v : Int} {b : ab_B} (hv : -2147483648 ≤ v ∧ v ≤ 2147483647) (h : ∀ i, 0 ≤ b.1 i ∧ b.1 i ≤ 255) : ∀ i, 0 ≤ (ab_put v b).1 i ∧ (ab_put v b).1 i ≤ 255 :=
  ab_st_b 0 hv (by omega) (ab_st_b 8 hv (by omega) (ab_st_b 16 hv (by omega) (ab_st_b 24 hv (by omega) h)))
theorem ab_p5_b {v1 v2 v3 v4 v5 : Int} {b : ab_B} (h1 : -2147483648 ≤ v1 ∧ v1 ≤ 2147483647) (h2 : -2147483648 ≤ v2 ∧ v2 ≤ 2147483647) (h3 : -2147483648 ≤ v3 ∧ v3 ≤ 2147483647) (h4 : -2147483648 ≤ v4 ∧ v4 ≤ 2147483647) (h5 : -2147483648 ≤ v5 ∧ v5 ≤ 2147483647) (h : ab_b b) (hn : b.2 + 20 ≤ 600) : ab_b (ab_p5 v1 v2 v3 v4 v5 b) := by
  refine ⟨ab_put_b h5 (ab_put_b h4 (ab_put_b h3 (ab_put_b h2 (ab_put_b h1 h.1)))), ?_, ?_⟩
  · rw [ab_p5_n]; have := h.2; omega
  · rw [ab_p5_n]; omega
def an_fe (v1 v2 v3 v4 v5 : Int) (b : ab_B) : Int × ab_B := if b.2 + 20 ≤ 600 then (b.2 + 20, ab_p5 v1 v2 v3 v4 v5 b) else (-1, b)
def an_en (n : Int) (b : ab_B) : Int × ab_B := if 0 ≤ n ∧ n ≤ b.2 then (1, (b.1, n)) else (0, b)
variable {G : am_G} {σ : am_D}
theorem c_append (d : Nat) {v : Int} {b : ab_B} (hT : cx_T σ b) (h0 : 0 ≤ b.2) (h1 : b.2 + 4 ≤ 600) : am_MV G (d + 2) mX7_append [am_r (some 1), am_i v] σ (fun σ' => cx_T σ' (ab_put v b) ∧ am_only [1, 2] σ σ' ∧ am_kpt [1] (σ.1 1) (σ'.1 1)) := by
  refine am_M.go (by decide) (Nat.le_of_ble_eq_true rfl) rfl ?_
  refine S_X7_append_0 ?_
  generalize hQ : (fun σ' : am_D => cx_T σ' (ab_put v b) ∧ am_only [1, 2] σ σ' ∧ am_kpt [1] (σ.1 1) (σ'.1 1)) = Q
  have step : ∀ (s : Int) (c : ab_B) (τ : am_D), 0 ≤ s → s ≤ 24 → cx_T τ c → 0 ≤ c.2 → c.2 < 600 → am_only [1, 2] σ τ → am_kpt [1] (σ.1 1) (τ.1 1) → (∀ τ', cx_T τ' (ab_st v s c) → am_only [1, 2] σ τ' → am_kpt [1] (σ.1 1) (τ'.1 1) → am_X (am_FV G (d + 2) Q) mX7_append (0, 0) 3 [some (am_r (some 1)), some (am_i v), some (am_i (s + (-8)))] [] (am_K0, τ')) → am_X (am_FV G (d + 2) Q) mX7_append (0, 0) 3 [some (am_r (some 1)), some (am_i v), some (am_i s)] [] (am_K0, τ) := by
    intro s c τ s0 s1 hc c0 c1 ho hk k
    refine S_X7_append_3 (by omega) (fun z => absurd z (by omega)) (fun _ => ?_)
    refine S_X7_append_7 (c_put _ sh_2 (by rw [hc.2]; omega)) ?_
    intro τ1 h1
    rw [hc.2, if_pos (by omega)] at h1
    subst h1
    refine S_X7_append_25 (S_X7_append_35 ?_)
    have e1 : (am_pI τ 2 c.2 (am_and (am_ushr v s) 255)).1 1 = τ.1 1 := am_pI_of (by decide)
    refine k _ ⟨?_, ?_⟩ ?_ ?_
    · rw [am_pI_of (by decide), am_pI_row, hc.1]
      rfl
    · rw [am_pI_at, e1, hc.2]
      rfl
    · exact (ho.trans (am_only.pI (by decide))).trans (am_only.pI (by decide))
    · rw [am_pI_row, e1]
      exact hk.trans (am_kpt.u1 (by decide))
  refine step 24 b σ (by omega) (by omega) hT h0 (by omega) am_only.rfl' am_kpt.rfl' (fun τ1 a1 b1 c1 => ?_)
  refine step 16 _ τ1 (by omega) (by omega) a1 (by show 0 ≤ b.2 + 1; omega) (by show b.2 + 1 < 600; omega) b1 c1 (fun τ2 a2 b2 c2 => ?_)
  refine step 8 _ τ2 (by omega) (by omega) a2 (by show 0 ≤ b.2 + 1 + 1; omega) (by show b.2 + 1 + 1 < 600; omega) b2 c2 (fun τ3 a3 b3 c3 => ?_)
  refine step 0 _ τ3 (by omega) (by omega) a3 (by show 0 ≤ b.2 + 1 + 1 + 1; omega) (by show b.2 + 1 + 1 + 1 < 600; omega) b3 c3 (fun τ4 a4 b4 c4 => ?_)
  refine S_X7_append_3 (by omega) (fun _ => ?_) (fun z => absurd (by omega) z)
  refine S_X7_append_41 ?_
  rw [← hQ]
  exact ⟨a4, b4, c4⟩
theorem c_xfeed (d : Nat) {v1 v2 v3 v4 v5 : Int} {b : ab_B} (hT : cx_T σ b) (hb : ab_b b) : am_MI G (d + 3) mX10_feed [am_r (some 0), am_i v1, am_i v2, am_i v3, am_i v4, am_i v5] σ (fun x σ' => x = (an_fe v1 v2 v3 v4 v5 b).1 ∧ cx_T σ' (an_fe v1 v2 v3 v4 v5 b).2 ∧ am_only [1, 2] σ σ' ∧ am_kpt [1] (σ.1 1) (σ'.1 1)) := by
  obtain ⟨-, h0, h1⟩ := hb
  have hroom : am_MI G (d + 2) mX7_hasRoom [am_r (some 1)] σ (fun x σ' => x = (if b.2 + 20 ≤ 600 then 1 else 0) ∧ σ = σ') := by
    refine am_M.go (by decide) (Nat.le_of_ble_eq_true rfl) rfl ?_
    refine S_X7_hasRoom_0 (by rw [hT.2]; omega) (fun z => ?_) (fun z => ?_)
    · rw [hT.2] at z
      exact S_X7_hasRoom_17 (S_X7_hasRoom_18 (Or.inl rfl) ⟨by rw [if_neg (by omega)], rfl⟩)
    · rw [hT.2] at z
      exact S_X7_hasRoom_13 (S_X7_hasRoom_18 (Or.inr rfl) ⟨by rw [if_pos (by omega)], rfl⟩)
  refine am_M.go (by decide) (Nat.le_of_ble_eq_true rfl) rfl ?_
  refine S_X10_feed_0 hroom ?_
  rintro _ _ ⟨rfl, rfl⟩
  unfold an_fe
  by_cases z : b.2 + 20 ≤ 600
  rotate_left
  · rw [if_neg z, if_neg z]
    exact S_X10_feed_7 (by decide) (fun y => absurd rfl y) (fun _ => S_X10_feed_10 ⟨rfl, hT, am_only.rfl', am_kpt.rfl'⟩)
  rw [if_pos z, if_pos z]
  refine S_X10_feed_7 (by decide) (fun _ => ?_) (fun y => absurd (by decide) y)
  have n1 : (ab_put v1 b).2 = b.2 + 4 := ab_put_n
  have n2 : (ab_put v2 (ab_put v1 b)).2 = b.2 + 8 := by rw [ab_put_n, n1]; omega
  have n3 : (ab_put v3 (ab_put v2 (ab_put v1 b))).2 = b.2 + 12 := by rw [ab_put_n, n2]; omega
  have n4 : (ab_put v4 (ab_put v3 (ab_put v2 (ab_put v1 b)))).2 = b.2 + 16 := by rw [ab_put_n, n3]; omega
  refine S_X10_feed_12 (c_append _ hT h0 (by omega)) ?_
  rintro τ1 ⟨t1, o1, k1⟩
  refine S_X10_feed_20 (c_append _ t1 (by omega) (by omega)) ?_
  rintro τ2 ⟨t2, o2, k2⟩
  refine S_X10_feed_28 (c_append _ t2 (by omega) (by omega)) ?_
  rintro τ3 ⟨t3, o3, k3⟩
  refine S_X10_feed_36 (c_append _ t3 (by omega) (by omega)) ?_
  rintro τ4 ⟨t4, o4, k4⟩
  refine S_X10_feed_45 (c_append _ t4 (by omega) (by omega)) ?_
  rintro τ5 ⟨t5, o5, k5⟩
  refine S_X10_feed_54 ⟨?_, t5, (((o1.trans o2).trans o3).trans o4).trans o5, (((k1.trans k2).trans k3).trans k4).trans k5⟩
  rw [t5.2, ab_put_n, n4]
  show b.2 + 16 + 4 = b.2 + 20
  omega
theorem c_xend (d : Nat) {n : Int} {b : ab_B} (hn : -2147483648 ≤ n ∧ n ≤ 2147483647) (hT : cx_T σ b) (hb : ab_b b) : am_MI G (d + 1) mX10_end [am_r (some 0), am_i n] σ (fun x σ' => x = (an_en n b).1 ∧ cx_T σ' (an_en n b).2 ∧ am_only [1] σ σ' ∧ am_kpt [1] (σ.1 1) (σ'.1 1)) := by
  obtain ⟨-, h0, h1⟩ := hb
  refine am_M.go (by decide) (Nat.le_of_ble_eq_true rfl) rfl ?_
  unfold an_en
  refine S_X10_end_0 hn (fun z => ?_) (fun z => ?_)
  · rw [if_neg (by omega)]
    exact S_X10_end_15 ⟨rfl, hT, am_only.rfl', am_kpt.rfl'⟩
  refine S_X10_end_4 hn (by rw [hT.2]; omega) (fun y => ?_) (fun y => ?_)
  · rw [hT.2] at y
    rw [if_pos (by omega)]
    refine S_X10_end_17 (S_X10_end_25 ⟨rfl, ⟨?_, ?_⟩, am_only.pI (by decide), ?_⟩)
    · rw [am_pI_of (by decide)]; exact hT.1
    · rw [am_pI_at]
    · rw [am_pI_row]; exact am_kpt.u1 (by decide)
  · rw [hT.2] at y
    rw [if_neg (by omega)]
    exact S_X10_end_15 ⟨rfl, hT, am_only.rfl', am_kpt.rfl'⟩
theorem r_put (d : Nat) {v : Int} {b : ab_B} (hv : -2147483648 ≤ v ∧ v ≤ 2147483647) (hT : rx_T σ b) (h0 : 0 ≤ b.2) (h1 : b.2 + 4 ≤ 600) : am_MV G (d + 1) mX11_put [am_r (some 91), am_i v] σ (fun σ' => rx_T σ' (ab_put v b) ∧ am_only [91, 92] σ σ' ∧ am_kpt [1] (σ.1 91) (σ'.1 91)) := by
  refine am_M.go (by decide) (Nat.le_of_ble_eq_true rfl) rfl ?_
  refine S_X11_put_0 ?_
  generalize hQ : (fun σ' : am_D => rx_T σ' (ab_put v b) ∧ am_only [91, 92] σ σ' ∧ am_kpt [1] (σ.1 91) (σ'.1 91)) = Q
  have step : ∀ (s : Nat) (c : ab_B) (τ : am_D), (s = 0 ∨ s = 8 ∨ s = 16 ∨ s = 24) → rx_T τ c → 0 ≤ c.2 → c.2 < 600 → am_only [91, 92] σ τ → am_kpt [1] (σ.1 91) (τ.1 91) → (∀ τ', rx_T τ' (ab_st v s c) → am_only [91, 92] σ τ' → am_kpt [1] (σ.1 91) (τ'.1 91) → am_X (am_FV G (d + 1) Q) mX11_put (0, 0) 3 [some (am_r (some 91)), some (am_i v), some (am_i ((s : Int) + (-8)))] [] (am_K0, τ')) → am_X (am_FV G (d + 1) Q) mX11_put (0, 0) 3 [some (am_r (some 91)), some (am_i v), some (am_i (s : Int))] [] (am_K0, τ) := by
    intro s c τ hs hc c0 c1 ho hk k
    refine S_X11_put_3 (by omega) (fun z => absurd z (by omega)) (fun _ => ?_)
    refine S_X11_put_7 (by rw [hc.2]; omega) (by rw [hc.2]; omega) ?_
    rw [hc.2]
    refine S_X11_put_20 (S_X11_put_30 ?_)
    have e1 : (am_pI τ 92 c.2 (am_i2b (am_i2b (am_shr v s)))).1 91 = τ.1 91 := am_pI_of (by decide)
    refine k _ ⟨?_, ?_⟩ ?_ ?_
    · rw [am_pI_of (by decide), am_pI_row, hc.1, (am_bytes s hv hs).1]
      funext i
      show am_u1 (sg_t c.1) c.2 _ i = am_sg (am_u1 c.1 c.2 _ i)
      by_cases z : i = c.2
      · rw [z, am_u1_eq, am_u1_eq]
      · rw [am_u1_ne z, am_u1_ne z]
    · rw [am_pI_at, e1, hc.2]
      rfl
    · exact (ho.trans (am_only.pI (by decide))).trans (am_only.pI (by decide))
    · rw [am_pI_row, e1]
      exact hk.trans (am_kpt.u1 (by decide))
  refine step 24 b σ (by omega) hT h0 (by omega) am_only.rfl' am_kpt.rfl' (fun τ1 a1 b1 c1 => ?_)
  refine step 16 _ τ1 (by omega) a1 (by show 0 ≤ b.2 + 1; omega) (by show b.2 + 1 < 600; omega) b1 c1 (fun τ2 a2 b2 c2 => ?_)
  refine step 8 _ τ2 (by omega) a2 (by show 0 ≤ b.2 + 1 + 1; omega) (by show b.2 + 1 + 1 < 600; omega) b2 c2 (fun τ3 a3 b3 c3 => ?_)
  refine step 0 _ τ3 (by omega) a3 (by show 0 ≤ b.2 + 1 + 1 + 1; omega) (by show b.2 + 1 + 1 + 1 < 600; omega) b3 c3 (fun τ4 a4 b4 c4 => ?_)
  refine S_X11_put_3 (by omega) (fun _ => ?_) (fun z => absurd (by omega) z)
  refine S_X11_put_36 ?_
  rw [← hQ]
  exact ⟨a4, b4, c4⟩
theorem r_xfeed (d : Nat) {v1 v2 v3 v4 v5 : Int} {b : ab_B} (h1 : -2147483648 ≤ v1 ∧ v1 ≤ 2147483647) (h2 : -2147483648 ≤ v2 ∧ v2 ≤ 2147483647) (h3 : -2147483648 ≤ v3 ∧ v3 ≤ 2147483647) (h4 : -2147483648 ≤ v4 ∧ v4 ≤ 2147483647) (h5 : -2147483648 ≤ v5 ∧ v5 ≤ 2147483647) (hT : rx_T σ b) (hb : ab_b b) : am_MI G (d + 2) mX11_feed [am_r (some 91), am_i v1, am_i v2, am_i v3, am_i v4, am_i v5] σ (fun x σ' => x = (an_fe v1 v2 v3 v4 v5 b).1 ∧ rx_T σ' (an_fe v1 v2 v3 v4 v5 b).2 ∧ am_only [91, 92] σ σ' ∧ am_kpt [1] (σ.1 91) (σ'.1 91)) := by
  obtain ⟨-, h0, h00⟩ := hb
  refine am_M.go (by decide) (Nat.le_of_ble_eq_true rfl) rfl ?_
  unfold an_fe
  refine S_X11_feed_0 (by rw [hT.2]; omega) (fun z => ?_) (fun z => ?_)
  rotate_left
  · rw [hT.2] at z
    rw [if_neg z]
    exact S_X11_feed_13 ⟨rfl, hT, am_only.rfl', am_kpt.rfl'⟩
  rw [hT.2] at z
  rw [if_pos z]
  have n1 : (ab_put v1 b).2 = b.2 + 4 := ab_put_n
  have n2 : (ab_put v2 (ab_put v1 b)).2 = b.2 + 8 := by rw [ab_put_n, n1]; omega
  have n3 : (ab_put v3 (ab_put v2 (ab_put v1 b))).2 = b.2 + 12 := by rw [ab_put_n, n2]; omega
  have n4 : (ab_put v4 (ab_put v3 (ab_put v2 (ab_put v1 b)))).2 = b.2 + 16 := by rw [ab_put_n, n3]; omega
  refine S_X11_feed_15 (r_put _ h1 hT h0 (by omega)) ?_
  rintro τ1 ⟨t1, o1, k1⟩
  refine S_X11_feed_20 (r_put _ h2 t1 (by omega) (by omega)) ?_
  rintro τ2 ⟨t2, o2, k2⟩
  refine S_X11_feed_25 (r_put _ h3 t2 (by omega) (by omega)) ?_
  rintro τ3 ⟨t3, o3, k3⟩
  refine S_X11_feed_30 (r_put _ h4 t3 (by omega) (by omega)) ?_
  rintro τ4 ⟨t4, o4, k4⟩
  refine S_X11_feed_36 (r_put _ h5 t4 (by omega) (by omega)) ?_
  rintro τ5 ⟨t5, o5, k5⟩
  refine S_X11_feed_42 ⟨?_, t5, (((o1.trans o2).trans o3).trans o4).trans o5, (((k1.trans k2).trans k3).trans k4).trans k5⟩
  rw [t5.2, ab_put_n, n4]
  show b.2 + 16 + 4 = b.2 + 20
  omega
theorem r_xend (d : Nat) {n : Int} {b : ab_B} (hn : -2147483648 ≤ n ∧ n ≤ 2147483647) (hT : rx_T σ b) (hb : ab_b b) : am_MI G (d + 2) mX11_end [am_r (some 91), am_i n] σ (fun x σ' => x = (an_en n b).1 ∧ rx_T σ' (an_en n b).2 ∧ am_only [91] σ σ' ∧ am_kpt [1] (σ.1 91) (σ'.1 91)) := by
  obtain ⟨-, h0, h1⟩ := hb
  refine am_M.go (by decide) (Nat.le_of_ble_eq_true rfl) rfl ?_
  unfold an_en
  have e1 := hT.2
  refine S_X11_end_0 (c_isIn _ hn (by omega) (by omega)) ?_
  rintro _ _ ⟨rfl, rfl⟩
  rw [e1]
  by_cases z : 0 ≤ n ∧ n ≤ b.2
  · rw [if_pos z, if_pos z]
    refine S_X11_end_9 (by decide) (fun _ => ?_) (fun y => absurd (by decide) y)
    refine S_X11_end_14 (S_X11_end_19 ⟨rfl, ⟨?_, ?_⟩, am_only.pI (by decide), ?_⟩)
    · rw [am_pI_of (by decide)]; exact hT.1
    · rw [am_pI_at]
    · rw [am_pI_row]; exact am_kpt.u1 (by decide)
  · rw [if_neg z, if_neg z]
    exact S_X11_end_9 (by decide) (fun y => absurd rfl y) (fun _ => S_X11_end_12 ⟨rfl, hT, am_only.rfl', am_kpt.rfl'⟩)
end
