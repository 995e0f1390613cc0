section
/-! A Reader of the class puts rows together. -/
def pt_G (τ : am_D) (a : Nat) : pt_S := ((τ.1 (a + 3), τ.1 (a + 2)), ((τ.1 a 6, τ.1 a 7), (τ.1 a 8, τ.1 a 3)))
def pt_R (a : Nat) (σ : am_D) (s : pt_S) (τ : am_D) : Prop := am_only [a, a + 2, a + 3] σ τ ∧ am_kpt [3, 6, 7, 8] (σ.1 a) (τ.1 a) ∧ pt_G τ a = s
theorem pt_R.trans {a : Nat} {σ τ υ : am_D} {s t : pt_S} (h : pt_R a σ s τ) (h' : pt_R a τ t υ) : pt_R a σ t υ := ⟨h.1.trans h'.1, h.2.1.trans h'.2.1, h'.2.2⟩
theorem am_rc_le (a : Nat) : 0 < am_rc a ∧ am_rc a ≤ 12816 := by
  unfold am_rc
  split
  · omega
  · split <;> omega
theorem am_rs_le (a : Nat) : 0 < am_rs a ∧ am_rs a ≤ 4812 := by
  unfold am_rs
  split
  · omega
  · split <;> omega
variable {G : am_G} {σ : am_D}
theorem c_join (d : Nat) {a : Nat} {from' to n : Int} (hR : am_isR a) (h8 : 0 ≤ σ.1 a 8 ∧ σ.1 a 8 ≤ 100000000) (h7 : σ.1 a 8 ≠ 0 → 0 ≤ σ.1 a 7 ∧ σ.1 a 7 < am_rs a) : am_MV G (d + 1) mX3_join [am_r (some a), am_i from', am_i to, am_i n] σ (fun σ' => pt_R a σ (pt_j (pt_G σ a) from' to n) σ') := by
  have hrs := am_rs_le a
  refine am_M.go (by decide) (Nat.le_of_ble_eq_true rfl) rfl ?_
  have J44 : ∀ τ : am_D, am_only [a, a + 2, a + 3] σ τ → am_kpt [3, 6, 7, 8] (σ.1 a) (τ.1 a) → τ.1 a 8 = σ.1 a 8 → ((τ.1 (a + 3), τ.1 (a + 2)), ((τ.1 a 6, to), (σ.1 a 8 + n, τ.1 a 3))) = pt_j (pt_G σ a) from' to n → am_X (am_FV G (d + 1) (fun σ' => pt_R a σ (pt_j (pt_G σ a) from' to n) σ')) mX3_join (0, 0) 44 [some (am_r (some a)), none, some (am_i to), some (am_i n)] [] (am_K0, τ) := by
    intro τ o1 o2 o3 o4
    refine S_X3_join_44 hR ?_
    refine S_X3_join_49 hR ?_
    refine S_X3_join_59 ?_
    refine ⟨(o1.trans (am_only.pI (by simp))).trans (am_only.pI (by simp)), ?_, ?_⟩
    · rw [am_pI_row, am_pI_row]
      exact (o2.trans (am_kpt.u1 (by decide))).trans (am_kpt.u1 (by decide))
    · unfold pt_G
      rw [am_pI_of (show a + 3 ≠ a by omega), am_pI_of (show a + 3 ≠ a by omega), am_pI_of (show a + 2 ≠ a by omega), am_pI_of (show a + 2 ≠ a by omega), am_pI_row, am_pI_row, am_u1_ne (show (6 : Int) ≠ 8 by decide), am_u1_ne (show (6 : Int) ≠ 7 by decide), am_u1_ne (show (7 : Int) ≠ 8 by decide), am_u1_eq, am_u1_eq, am_u1_ne (show (8 : Int) ≠ 7 by decide), am_u1_ne (show (3 : Int) ≠ 8 by decide), am_u1_ne (show (3 : Int) ≠ 7 by decide), o3]
      exact o4
  refine S_X3_join_0 hR (by omega) (fun z => ?_) (fun z => ?_)
  · have hb := h7 z
    refine S_X3_join_15 hR (by omega) (fun y => absurd y (by omega)) (fun _ => ?_)
    refine S_X3_join_22 hR (by omega) (by omega) (fun y => absurd y (by omega)) (fun _ => ?_)
    refine S_X3_join_34 hR hb.1 hb.2 ?_
    refine J44 _ (am_only.pI (by simp)) (by rw [am_pI_of (by omega)]; exact am_kpt.rfl') (by rw [am_pI_of (by omega)]) ?_
    rw [am_pI_row, am_pI_of (show a + 2 ≠ a + 3 by omega), am_pI_of (show a ≠ a + 3 by omega)]
    unfold pt_j
    rw [if_neg (show ¬ pt_n (pt_G σ a) = 0 from z), if_neg (show ¬ pt_n (pt_G σ a) = 0 from z)]
    rfl
  · have z := Classical.not_not.mp z
    refine S_X3_join_7 hR ?_
    refine J44 _ (am_only.pI (by simp)) (by rw [am_pI_row]; exact am_kpt.u1 (by decide)) (by rw [am_pI_row, am_u1_ne (by decide)]) ?_
    rw [am_pI_of (show a + 3 ≠ a by omega), am_pI_of (show a + 2 ≠ a by omega), am_pI_row, am_u1_eq, am_u1_ne (by decide)]
    unfold pt_j
    rw [if_pos (show pt_n (pt_G σ a) = 0 from z), if_pos (show pt_n (pt_G σ a) = 0 from z)]
    rfl
def pt_row (now under x : Int) : Int := (if x < 8 then now else under) + 7 + 3 * (if x < 8 then x - 4 else x - 8)
/-- the rows of registers as they stand in cells -/
def pt_Z (f : Int → Int) (now under x : Int) : Int × (Int × Int) := (f (pt_row now under x), (f (pt_row now under x + 1), f (pt_row now under x + 2)))
theorem am_and3 {x : Int} (h : 4 ≤ x ∧ x ≤ 10 ∧ x ≠ 7) : am_and x 3 = if x < 8 then x - 4 else x - 8 := by
  have hc : x = 4 ∨ x = 5 ∨ x = 6 ∨ x = 8 ∨ x = 9 ∨ x = 10 := by omega
  rcases hc with rfl | rfl | rfl | rfl | rfl | rfl <;> decide
theorem c_putTogether (d : Nat) {a m : Nat} {e now under : Int} {w : List Int} (hR : am_isR a) (hm : am_isM m) (hmm : σ.2.2 a 4 = some m) (hX : cm_X σ m e w) (h14 : σ.1 m 14 ≤ 72) (h15 : σ.1 m 15 ≤ 432) (hw : ∀ x ∈ w, 0 ≤ x ∧ x ≤ 10 ∧ x ≠ 7) (hu : 0 ≤ σ.1 a 3 ∧ σ.1 a 3 + (w.countP (· < 4) : Nat) ≤ am_rs a)
    (hZ : ∀ x ∈ w, 4 ≤ x → (0 ≤ pt_row now under x ∧ pt_row now under x + 2 < am_rc a) ∧ (0 ≤ σ.1 (a + 1) (pt_row now under x + 2) ∧ σ.1 (a + 1) (pt_row now under x + 2) ≤ 10000) ∧ (σ.1 (a + 1) (pt_row now under x + 2) ≠ 0 → 0 ≤ σ.1 (a + 1) (pt_row now under x + 1) ∧ σ.1 (a + 1) (pt_row now under x + 1) < am_rs a)) :
    am_MV G (d + 2) mX3_putTogether [am_r (some a), am_i e, am_i now, am_i under] σ (fun σ' => pt_R a σ (pt_run 0 (pt_Z (σ.1 (a + 1)) now under) w ((σ.1 (a + 3), σ.1 (a + 2)), ((-1, -1), (0, σ.1 a 3)))) σ') := by
  obtain ⟨x1, x2, x3, x4, x5, x6⟩ := id hX
  have hm1 := hm.1
  have ha : a ≤ 20 := by rcases hR with rfl | rfl | rfl <;> omega
  have hs7 := shM7 hm
  have hs6 := shM6 hm
  have hs2 := shR2 hR
  have hrs := am_rs_le a
  have hrc := am_rc_le a
  generalize hS : pt_run 0 (pt_Z (σ.1 (a + 1)) now under) w ((σ.1 (a + 3), σ.1 (a + 2)), ((-1, -1), (0, σ.1 a 3))) = S
  refine am_M.go (by decide) (Nat.le_of_ble_eq_true rfl) rfl ?_
  refine S_X3_putTogether_0 hR hmm hm (c_at _ hs7 (by omega)) ?_
  rintro _ _ ⟨rfl, rfl⟩
  rw [if_pos (by omega), x4]
  refine S_X3_putTogether_15 hR ?_
  refine S_X3_putTogether_20 hR ?_
  refine S_X3_putTogether_25 hR ?_
  have hr0 : pt_R a σ ((σ.1 (a + 3), σ.1 (a + 2)), ((-1, -1), (0, σ.1 a 3))) (am_pI (am_pI (am_pI σ a 6 (-1)) a 7 (-1)) a 8 0) := by
    refine ⟨((am_only.pI (by simp)).trans (am_only.pI (by simp))).trans (am_only.pI (by simp)), ?_, ?_⟩
    · rw [am_pI_row, am_pI_row, am_pI_row]
      exact ((am_kpt.u1 (by decide)).trans (am_kpt.u1 (by decide))).trans (am_kpt.u1 (by decide))
    · unfold pt_G
      rw [am_pI_of (show a + 3 ≠ a by omega), am_pI_of (show a + 3 ≠ a by omega), am_pI_of (show a + 3 ≠ a by omega), am_pI_of (show a + 2 ≠ a by omega), am_pI_of (show a + 2 ≠ a by omega), am_pI_of (show a + 2 ≠ a by omega), am_pI_row, am_pI_row, am_pI_row]
      simp [am_u1]
  generalize am_pI (am_pI (am_pI σ a 6 (-1)) a 7 (-1)) a 8 0 = τ0 at hr0 ⊢
  have keep : ∀ (τ : am_D) (s : pt_S), pt_R a σ s τ → τ.2.2 a 4 = some m ∧ τ.1 (m + 7) = σ.1 (m + 7) ∧ τ.1 (m + 6) = σ.1 (m + 6) ∧ τ.1 (a + 1) = σ.1 (a + 1) := fun τ s h => ⟨by rw [h.1.2]; exact hmm, h.1.1 _ (by simp; omega), h.1.1 _ (by simp; omega), h.1.1 _ (by simp)⟩
  obtain ⟨k1, k2, k3, k4⟩ := keep _ _ hr0
  refine S_X3_putTogether_30 hR k1 hm (c_at _ hs7 (by omega)) ?_
  rintro _ _ ⟨rfl, rfl⟩
  rw [if_pos (by omega), k2]
  have loop : ∀ (v pre : List Int) (s : pt_S) (τ : am_D), w = pre ++ v → pt_run 0 (pt_Z (σ.1 (a + 1)) now under) v s = S → pt_R a σ s τ → 0 ≤ pt_n s ∧ pt_n s ≤ 10000 * pre.length → (pt_n s ≠ 0 → 0 ≤ pt_b s ∧ pt_b s < am_rs a) → 0 ≤ pt_u s ∧ pt_u s + (v.countP (· < 4) : Nat) ≤ am_rs a → am_X (am_FV G (d + 2) (fun σ' => pt_R a σ S σ')) mX3_putTogether (0, 0) 43 [some (am_r (some a)), none, some (am_i now), some (am_i under), some (am_i (σ.1 (m + 7) e + w.length)), some (am_i (σ.1 (m + 7) e + pre.length)), none, none] [] (am_K0, τ) := by
    intro v
    induction v with
    | nil =>
      intro pre s τ hwp hs hr _ _ _
      have hl : w.length = pre.length := by rw [hwp, List.append_nil]
      refine S_X3_putTogether_43 (by omega) (by omega) (fun _ => ?_) (fun z => absurd (by omega) z)
      have hs : s = S := hs
      exact S_X3_putTogether_197 (hs ▸ hr)
    | cons x v ih =>
      intro pre s τ hwp hs hr hn hb hu
      obtain ⟨k1, k2, k3, k4⟩ := keep _ _ hr
      have hl : w.length = pre.length + (v.length + 1) := by rw [hwp, List.length_append]; rfl
      have hxw : x ∈ w := by rw [hwp]; exact List.mem_append_right _ List.mem_cons_self
      have hx := hw x hxw
      have hsg : σ.1 (m + 6) (σ.1 (m + 7) e + pre.length) = x := by
        have := x6 pre.length (by omega)
        rw [this, hwp, List.getD_eq_getElem?_getD, List.getElem?_append_right (Nat.le_refl _), Nat.sub_self]
        rfl
      have g8 : τ.1 a 8 = pt_n s := by rw [← hr.2.2]; rfl
      have g7 : τ.1 a 7 = pt_b s := by rw [← hr.2.2]; rfl
      have g3 : τ.1 a 3 = pt_u s := by rw [← hr.2.2]; rfl
      have hs : pt_run 0 (pt_Z (σ.1 (a + 1)) now under) v (pt_1 0 (pt_Z (σ.1 (a + 1)) now under) x s) = S := hs
      have hlen1 : ((pre ++ [x]).length : Int) = pre.length + 1 := by rw [List.length_append]; rfl
      have hpre : w = (pre ++ [x]) ++ v := by rw [hwp, List.append_assoc]; rfl
      rw [List.countP_cons] at hu
      refine S_X3_putTogether_43 (by omega) (by omega) (fun z => absurd z (by omega)) (fun _ => ?_)
      refine S_X3_putTogether_50 hR k1 hm (c_at _ hs6 (by omega)) ?_
      rintro _ _ ⟨rfl, rfl⟩
      rw [if_pos (by omega), k3, hsg]
      have next : ∀ (s' : pt_S) (τ' : am_D), pt_1 0 (pt_Z (σ.1 (a + 1)) now under) x s = s' → pt_R a σ s' τ' → 0 ≤ pt_n s' ∧ pt_n s' ≤ 10000 * (pre.length + 1) → (pt_n s' ≠ 0 → 0 ≤ pt_b s' ∧ pt_b s' < am_rs a) → 0 ≤ pt_u s' ∧ pt_u s' + (v.countP (· < 4) : Nat) ≤ am_rs a → am_X (am_FV G (d + 2) (fun σ' => pt_R a σ S σ')) mX3_putTogether (0, 0) 191 [some (am_r (some a)), none, some (am_i now), some (am_i under), some (am_i (σ.1 (m + 7) e + w.length)), some (am_i (σ.1 (m + 7) e + pre.length)), none, none] [] (am_K0, τ') := by
        intro s' τ' e1 r1 n1 b1 u1
        refine S_X3_putTogether_191 ?_
        have := ih (pre ++ [x]) s' τ' hpre (by rw [← e1]; exact hs) r1 (by omega) b1 u1
        rw [hlen1, ← Int.add_assoc] at this
        exact this
      refine S_X3_putTogether_64 (by omega) (fun z4 => ?_) (fun z4 => ?_)
      · -- a register
        obtain ⟨hz1, hz2, hz3⟩ := hZ x hxw z4
        have hrow : ∀ y : Int, y = (if x < 8 then now else under) → am_X (am_FV G (d + 2) (fun σ' => pt_R a σ S σ')) mX3_putTogether (0, 0) 121 [some (am_r (some a)), none, some (am_i now), some (am_i under), some (am_i (σ.1 (m + 7) e + w.length)), some (am_i (σ.1 (m + 7) e + pre.length)), some (am_i x), none] [am_i y] (am_K0, τ) := by
          intro y hy
          refine S_X3_putTogether_121 ?_
          rw [am_and3 ⟨z4, hx.2⟩, hy, show (if x < 8 then now else under) + 7 + 3 * (if x < 8 then x - 4 else x - 8) = pt_row now under x from rfl]
          refine S_X3_putTogether_133 (by omega) (fun z => absurd z (by omega)) (fun _ => ?_)
          refine S_X3_putTogether_138 hR (by omega) (by omega) (fun z => absurd z (by omega)) (fun _ => ?_)
          refine S_X3_putTogether_150 hR (by omega) hz1.2 (by rw [k4]; omega) (fun z => ?_) (fun z => ?_)
          · rw [k4] at z
            refine next s τ ?_ hr (by omega) hb (by rw [if_neg (by simp; omega)] at hu; exact hu)
            unfold pt_1
            rw [if_neg (by omega), if_pos (show (pt_Z (σ.1 (a + 1)) now under x).2.2 = 0 from (show σ.1 (a + 1) (pt_row now under x + 2) = 0 by omega))]
          · rw [k4] at z
            have hnz : ¬ σ.1 (a + 1) (pt_row now under x + 2) = 0 := by omega
            refine S_X3_putTogether_162 hR (by omega) (by omega) (by omega) (by omega) (by omega) (by omega) (c_join _ hR (by omega) (by rw [g8, g7]; exact hb)) ?_
            intro τ' hj
            rw [k4, hr.2.2] at hj
            refine next _ τ' ?_ (hr.trans hj) ?_ ?_ ?_
            · unfold pt_1
              rw [if_neg (by omega), if_neg (show ¬ (pt_Z (σ.1 (a + 1)) now under x).2.2 = 0 from hnz)]
              rfl
            · show 0 ≤ pt_n s + σ.1 (a + 1) (pt_row now under x + 2) ∧ pt_n s + σ.1 (a + 1) (pt_row now under x + 2) ≤ _
              omega
            · intro _
              exact hz3 hnz
            · rw [if_neg (by simp; omega)] at hu
              exact hu
        refine S_X3_putTogether_109 (by omega) (fun z8 => ?_) (fun z8 => ?_)
        · exact S_X3_putTogether_120 (hrow under (by rw [if_neg (by omega)]))
        · exact S_X3_putTogether_116 (hrow now (by rw [if_pos (by omega)]))
      · -- a sign of its own
        rw [if_pos (by simp; omega)] at hu
        refine S_X3_putTogether_70 hR (c_put _ hs2 (by omega)) ?_
        rintro _ rfl
        rw [if_pos (by omega), g3]
        have f0 : ∀ b, b ≠ a + 2 → (am_pI τ (a + 2) (pt_u s) x).1 b = τ.1 b := fun b hb => am_pI_of hb
        have gG : pt_G (am_pI τ (a + 2) (pt_u s) x) a = pt_new 0 s x := by
          unfold pt_G
          rw [f0 (a + 3) (by omega), f0 a (by omega), am_pI_row]
          unfold pt_new
          rw [← hr.2.2]
          show ((τ.1 (a + 3), am_u1 (τ.1 (a + 2)) (τ.1 a 3) x), _) = ((τ.1 (a + 3), am_u1 (τ.1 (a + 2)) (0 + τ.1 a 3) x), _)
          rw [Int.zero_add]
          rfl
        refine S_X3_putTogether_83 hR (c_join _ hR (by rw [f0 a (by omega)]; omega) (by rw [f0 a (by omega), g8, g7]; exact hb)) ?_
        intro τ' hj
        rw [gG, f0 a (by omega), g3] at hj
        refine S_X3_putTogether_96 hR ?_
        have j3 : τ'.1 a 3 = pt_u s := by
          have : τ'.1 a 3 = pt_u (pt_G τ' a) := rfl
          rw [this, hj.2.2]
          rfl
        rw [j3]
        refine next (pt_inc (pt_j (pt_new 0 s x) (pt_u s) (pt_u s) 1)) _ ?_ ?_ ?_ ?_ ?_
        · unfold pt_1
          rw [if_pos (by omega), Int.zero_add]
        · refine ⟨((hr.1.trans (am_only.pI (by simp))).trans hj.1).trans (am_only.pI (by simp)), ?_, ?_⟩
          · rw [am_pI_row]
            have := hj.2.1
            rw [f0 a (by omega)] at this
            exact (hr.2.1.trans this).trans (am_kpt.u1 (by decide))
          · unfold pt_G
            rw [am_pI_of (show a + 3 ≠ a by omega), am_pI_of (show a + 2 ≠ a by omega), am_pI_row, am_u1_ne (show (6 : Int) ≠ 3 by decide), am_u1_ne (show (7 : Int) ≠ 3 by decide), am_u1_ne (show (8 : Int) ≠ 3 by decide), am_u1_eq]
            unfold pt_inc
            rw [← hj.2.2, show pt_u (pt_G τ' a) = τ'.1 a 3 from rfl, j3]
            rfl
        · show 0 ≤ pt_n s + 1 ∧ pt_n s + 1 ≤ _
          omega
        · intro _
          show 0 ≤ pt_u s ∧ pt_u s < am_rs a
          omega
        · show 0 ≤ pt_u s + 1 ∧ pt_u s + 1 + _ ≤ _
          omega
  have := loop w [] _ τ0 rfl hS hr0 ⟨Int.le_refl _, by show (0 : Int) ≤ 10000 * ((0 : Nat) : Int); omega⟩ (fun z => absurd rfl z) hu
  rw [show σ.1 (m + 7) e + (([] : List Int).length : Int) = σ.1 (m + 7) e from Int.add_zero _] at this
  exact this
end
