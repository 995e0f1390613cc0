section
/-- what machine(k) answers and leaves: the FAULT, the MACHINES, the TAPE -/
def an_mc (b : ab_B) (k F : Int) (M : ab_M) : Int × (Int × (ab_M × ab_B)) := if 0 ≤ k ∧ k < 4 then (match sm_mach b.1 b.2 with
  | .inl F' => (-2, (F', (M, (b.1, 0))))
  | .inr P => (pm_n P, (0, (am_u1 M k (some P), (b.1, 0))))) else (-1, (F, (M, b)))
theorem an_mc_n {b : ab_B} {k F : Int} {M : ab_M} (h : ¬ (0 ≤ k ∧ k < 4)) : an_mc b k F M = (-1, (F, (M, b))) := by
  unfold an_mc
  rw [if_neg h]
theorem an_mc_l {b : ab_B} {k F F' : Int} {M : ab_M} (h : 0 ≤ k ∧ k < 4) (hm : sm_mach b.1 b.2 = .inl F') : an_mc b k F M = (-2, (F', (M, (b.1, 0)))) := by
  unfold an_mc
  rw [if_pos h, hm]
theorem an_mc_r {b : ab_B} {k F : Int} {M : ab_M} {P : am_P} (h : 0 ≤ k ∧ k < 4) (hm : sm_mach b.1 b.2 = .inr P) : an_mc b k F M = (pm_n P, (0, (am_u1 M k (some P), (b.1, 0)))) := by
  unfold an_mc
  rw [if_pos h, hm]
/-- so many find no room in fewer -/
theorem nd_ph {U : Nat → Option Nat} {g : Nat → Nat} (hg : ∀ i j, g i = g j → i = j) (n m : Nat) (h : ∀ i, i < n → ∃ j, j < m ∧ U j = some (g i)) : n ≤ m := by
  obtain ⟨f, hf⟩ : ∃ f : Nat → Nat, ∀ i, i < n → f i < m ∧ U (f i) = some (g i) :=
    ⟨fun i => if hi : i < n then Classical.choose (h i hi) else 0, fun i hi => by
      show (if hi : i < n then Classical.choose (h i hi) else 0) < m ∧ U (if hi : i < n then Classical.choose (h i hi) else 0) = some (g i)
      rw [dif_pos hi]
      exact Classical.choose_spec (h i hi)⟩
  have h1 := nd_le m ((List.range n).map f) (by
    unfold List.Nodup
    rw [List.pairwise_map]
    refine List.Pairwise.imp_of_mem ?_ (List.nodup_range (n := n))
    intro a b ha hb hab e
    have ha := hf a (List.mem_range.mp ha)
    have hb := hf b (List.mem_range.mp hb)
    rw [e, hb.2] at ha
    injection ha.2 with e1
    exact hab (hg _ _ e1).symm) (fun x hx => by
    obtain ⟨a, ha, rfl⟩ := List.mem_map.mp hx
    exact (hf a (List.mem_range.mp ha)).1)
  rw [List.length_map, List.length_range] at h1
  exact h1
def cu_u (σ : am_D) (o : Option Nat) : Prop := o = σ.2.2 12 4 ∨ ∃ k : Int, (0 ≤ k ∧ k < 4) ∧ o = σ.2.2 4 k
def cx_S (σ : am_D) : Prop := ∀ i : Nat, i < 6 → σ.2.2 5 (i : Int) = some (43 + 8 * i)
variable {G : am_G} {σ : am_D} {M : ab_M}
theorem c_unused (d : Nat) (hs : cx_S σ) : am_MR G (d + 1) mX10_unused [am_r (some 0)] σ (fun x σ' => (∃ i : Nat, i < 6 ∧ x = some (43 + 8 * i) ∧ ¬ cu_u σ x) ∧ σ = σ') := by
  refine am_M.go (by decide) (Nat.le_of_ble_eq_true rfl) rfl ?_
  generalize hQ : (fun (x : Option Nat) (σ' : am_D) => (∃ i : Nat, i < 6 ∧ x = some (43 + 8 * i) ∧ ¬ cu_u σ x) ∧ σ = σ') = Q
  refine S_X10_unused_0 ?_
  have loop : ∀ (n i : Nat), i + n = 6 → (∀ j : Nat, j < i → cu_u σ (some (43 + 8 * j))) → am_X (am_FR G (d + 1) Q) mX10_unused (0, 0) 2 [some (am_r (some 0)), some (am_i i), none, none, none] [] (am_K0, σ) := by
    intro n
    induction n with
    | zero =>
      intro i hi hall
      exfalso
      have := nd_ph (U := fun j => if j = 0 then σ.2.2 12 4 else σ.2.2 4 ((j : Int) - 1)) (g := fun i => 43 + 8 * i) (fun i j h => by have h : 43 + 8 * i = 43 + 8 * j := h; omega) 6 5 (fun j hj => by
        rcases hall j (by omega) with h | ⟨k, hk, h⟩
        · exact ⟨0, by omega, by rw [h]; rfl⟩
        · refine ⟨k.toNat + 1, by omega, ?_⟩
          show (if k.toNat + 1 = 0 then σ.2.2 12 4 else σ.2.2 4 (((k.toNat + 1 : Nat) : Int) - 1)) = _
          rw [if_neg (by omega), show ((k.toNat + 1 : Nat) : Int) - 1 = k by omega, h])
      omega
    | succ n ih =>
      intro i hi hall
      refine S_X10_unused_2 (by omega) (fun z => absurd z (by omega)) (fun _ => ?_)
      refine S_X10_unused_11 (by omega) (by omega) ?_
      rw [hs i (by omega)]
      have used : cu_u σ (some (43 + 8 * i)) → am_X (am_FR G (d + 1) Q) mX10_unused (0, 0) 85 [some (am_r (some 0)), some (am_i i), none, none, none] [] (am_K0, σ) := by
        intro hu
        refine S_X10_unused_85 ?_
        have := ih (i + 1) (by omega) (fun j hj => by
          by_cases e : j = i
          · rw [e]; exact hu
          · exact hall j (by omega))
        exact this
      have inner : ∀ (m : Nat) (k v : Int), k + m = 4 → 0 ≤ k → (v = 0 ∧ ¬ some (43 + 8 * i) = σ.2.2 12 4 ∧ ∀ k' : Int, 0 ≤ k' → k' < k → ¬ some (43 + 8 * i) = σ.2.2 4 k') ∨ (v = 1 ∧ cu_u σ (some (43 + 8 * i))) → am_X (am_FR G (d + 1) Q) mX10_unused (0, 0) 38 [some (am_r (some 0)), some (am_i i), some (am_r (some (43 + 8 * i))), some (am_i v), some (am_i k)] [] (am_K0, σ) := by
        intro m
        induction m with
        | zero =>
          intro k v hm hk hv
          refine S_X10_unused_38 (by omega) (fun _ => ?_) (fun z => absurd (by omega) z)
          refine S_X10_unused_75 (fun z => nomatch z) (fun _ _ => ?_)
          rcases hv with ⟨rfl, h1, h2⟩ | ⟨rfl, h1⟩
          · refine S_X10_unused_79 (by decide) (fun z => absurd rfl z) (fun _ => S_X10_unused_83 ?_)
            rw [← hQ]
            refine ⟨⟨i, by omega, rfl, ?_⟩, rfl⟩
            rintro (h3 | ⟨k', hk', h3⟩)
            · exact h1 h3
            · exact h2 k' hk'.1 (by omega) h3
          · exact S_X10_unused_79 (by decide) (fun _ => used h1) (fun z => absurd (by decide) z)
        | succ m ih2 =>
          intro k v hm hk hv
          refine S_X10_unused_38 (by omega) (fun z => absurd z (by omega)) (fun _ => ?_)
          rcases hv with ⟨rfl, h1, h2⟩ | ⟨rfl, h1⟩
          · refine S_X10_unused_48 (by decide) (fun z => absurd rfl z) (fun _ => ?_)
            refine S_X10_unused_52 (by omega) (by omega) (fun z => ?_) (fun z => ?_)
            · refine S_X10_unused_67 (S_X10_unused_68 (S_X10_unused_69 ?_))
              refine ih2 (k + 1) 0 (by omega) (by omega) (Or.inl ⟨rfl, h1, fun k' a b => ?_⟩)
              by_cases e : k' = k
              · rw [e]; exact z
              · exact h2 k' a (by omega)
            · refine S_X10_unused_63 (S_X10_unused_68 (S_X10_unused_69 ?_))
              exact ih2 (k + 1) 1 (by omega) (by omega) (Or.inr ⟨rfl, Or.inr ⟨k, by omega, z⟩⟩)
          · refine S_X10_unused_48 (by decide) (fun _ => ?_) (fun z => absurd (by decide) z)
            refine S_X10_unused_63 (S_X10_unused_68 (S_X10_unused_69 ?_))
            exact ih2 (k + 1) 1 (by omega) (by omega) (Or.inr ⟨rfl, h1⟩)
      refine S_X10_unused_18 (fun z => ?_) (fun z => ?_)
      · exact S_X10_unused_33 (S_X10_unused_34 (S_X10_unused_35 (inner 4 0 0 (by omega) (by omega) (Or.inl ⟨rfl, z, fun k' a b => absurd b (by omega)⟩))))
      · exact S_X10_unused_29 (S_X10_unused_34 (S_X10_unused_35 (inner 4 0 1 (by omega) (by omega) (Or.inr ⟨rfl, Or.inl z⟩))))
  exact loop 6 0 (by omega) (fun j hj => absurd hj (by omega))
theorem c_xmachine (d : Nat) {b : ab_B} {r : ab_R} {k F : Int} (hk : -2147483648 ≤ k ∧ k ≤ 2147483647) (hid : tk_idle (σ.1 2) (σ.1 1)) (hT : cx_T σ b) (hb : ab_b b) (hF : σ.1 1 5 = F) (hM : cx_M σ M) (hR : cx_R σ r) (hs : cx_S σ) : am_MI G (d + 9) mX10_machine [am_r (some 0), am_i k] σ (fun x σ' => x = (an_mc b k F M).1 ∧ σ'.1 1 5 = (an_mc b k F M).2.1 ∧ cx_M σ' (an_mc b k F M).2.2.1 ∧ cx_T σ' (an_mc b k F M).2.2.2 ∧ tk_idle (σ'.1 2) (σ'.1 1) ∧ cx_R σ' r ∧ (∀ a, (4 ≤ a ∧ a ≤ 42) ∨ 91 ≤ a → σ'.1 a = σ.1 a) ∧ σ'.2.1 = σ.2.1 ∧ (∀ a, a ≠ 4 → σ'.2.2 a = σ.2.2 a) ∧ ∀ P, (0 ≤ k ∧ k < 4) → sm_mach b.1 b.2 = .inr P → pm_ok P) := by
  refine am_M.go (by decide) (Nat.le_of_ble_eq_true rfl) rfl ?_
  generalize hQ : (fun (x : Int) (σ' : am_D) => x = (an_mc b k F M).1 ∧ σ'.1 1 5 = (an_mc b k F M).2.1 ∧ cx_M σ' (an_mc b k F M).2.2.1 ∧ cx_T σ' (an_mc b k F M).2.2.2 ∧ tk_idle (σ'.1 2) (σ'.1 1) ∧ cx_R σ' r ∧ (∀ a, (4 ≤ a ∧ a ≤ 42) ∨ 91 ≤ a → σ'.1 a = σ.1 a) ∧ σ'.2.1 = σ.2.1 ∧ (∀ a, a ≠ 4 → σ'.2.2 a = σ.2.2 a) ∧ ∀ P, (0 ≤ k ∧ k < 4) → sm_mach b.1 b.2 = .inr P → pm_ok P) = Q
  have no : ¬ (0 ≤ k ∧ k < 4) → Q (-1) σ := by
    intro z
    rw [← hQ, an_mc_n z]
    exact ⟨rfl, hF, hM, hT, hid, hR, fun _ _ => rfl, rfl, fun _ _ => rfl, fun P y => absurd y z⟩
  refine S_X10_machine_0 hk (fun z => S_X10_machine_13 (no (by omega))) (fun z0 => ?_)
  refine S_X10_machine_4 hk (fun z1 => ?_) (fun z => S_X10_machine_13 (no (by omega)))
  have hk4 : 0 ≤ k ∧ k < 4 := by omega
  refine S_X10_machine_15 (c_unused _ hs) ?_
  rintro x _ ⟨⟨i, hi, rfl, hnu⟩, rfl⟩
  have hm : am_isM (43 + 8 * i) := ⟨by omega, by omega, by omega⟩
  generalize hmm : 43 + 8 * i = m at hm hnu ⊢
  have hm1 := hm.1
  refine S_X10_machine_20 (c_readMachine _ hm hid) ?_
  rintro τ ⟨ho, hi2, h1, hW⟩
  rw [hT.1, hT.2] at hW
  have hno : ∀ a, a ≤ 42 → a ≠ 1 → a ≠ 3 → τ.1 a = σ.1 a := fun a h1 h2 h3 => ho.1 a (cm_A_no hm h1 h2 h3)
  have e2 : τ.1 2 = σ.1 2 := hno 2 (by omega) (by omega) (by omega)
  have hfar : ∀ m' b, am_isM m' → m' ≠ m → m' ≤ b → b ≤ m' + 7 → τ.1 b = σ.1 b := by
    intro m' b hm' hne hb1 hb2
    refine ho.1 b (fun z => ?_)
    have := hm'.2.1
    have := hm'.2.2
    have := hm.2.1
    have := hm.2.2
    have := hm'.1
    simp at z
    omega
  have hne : ∀ (j : Int) (m' : Nat), 0 ≤ j → j < 4 → σ.2.2 4 j = some m' → m' ≠ m := by
    intro j m' j0 j1 h e
    exact hnu (Or.inr ⟨j, ⟨j0, j1⟩, by rw [h, e]⟩)
  have hM1 : cx_M τ M := by
    intro j j0 j1
    rcases hM j j0 j1 with ⟨a1, a2⟩ | ⟨m', P, a1, a2, a3⟩
    · exact Or.inl ⟨by rw [ho.2]; exact a1, a2⟩
    · exact Or.inr ⟨m', P, by rw [ho.2]; exact a1, a2, cd_M_of (fun b y1 y2 => hfar m' b a3.1 (hne j m' j0 j1 a1) y1 y2) a3⟩
  have hRr : ∀ υ : am_D, (∀ a, 12 ≤ a → υ.1 a = τ.1 a) → υ.2.2 12 = τ.2.2 12 → cx_R υ r := by
    intro υ u1 u2
    cases r with
    | none =>
      show υ.2.2 12 4 = none
      rw [u2, ho.2]
      exact hR
    | some p =>
      obtain ⟨m', hI⟩ := (hR : ∃ m, cd_I σ 12 m p.1 p.2)
      have hm' := hI.2.1.1
      have hm'1 := hm'.1
      refine ⟨m', cd_I.of (fun b hb => ?_) (by rw [u2, ho.2]) hI⟩
      rcases hb with hb | hb
      · rw [u1 b (by omega)]
        exact hno b (by omega) (by omega) (by omega)
      · rw [u1 b (by omega)]
        exact hfar m' b hm' (fun e => hnu (Or.inl (by rw [hI.1, e]))) hb.1 hb.2
  have hfr : ∀ a, (4 ≤ a ∧ a ≤ 42) ∨ 91 ≤ a → τ.1 a = σ.1 a := by
    intro a ha
    rcases ha with ha | ha
    · exact hno a (by omega) (by omega) (by omega)
    · refine ho.1 a (fun z => ?_)
      have := hm.2.1
      simp at z
      omega
  have h5 := hi2.2.2.2.2.2
  cases hR2 : sm_mach b.1 b.2 with
  | inl F' =>
    rw [hR2] at hW
    obtain ⟨w1, w2⟩ := (hW : τ.1 1 5 = F' ∧ 0 < F')
    refine S_X10_machine_28 (by omega) (fun z => absurd z (by omega)) (fun _ => S_X10_machine_38 ?_)
    rw [← hQ, an_mc_l hk4 hR2]
    exact ⟨rfl, w1, hM1, ⟨by rw [e2]; exact hT.1, h1⟩, by rw [e2]; exact hi2, hRr τ (fun _ _ => rfl) rfl, hfr, by rw [ho.2], fun a _ => by rw [ho.2], fun P _ y => by rw [hR2] at y; exact nomatch y⟩
  | inr P =>
    rw [hR2] at hW
    obtain ⟨w1, w2, w3, w4⟩ := (hW : τ.1 1 5 = 0 ∧ cm_T τ m P ∧ cm_N τ m (pm_n P) ∧ pm_ok P)
    have hgood := sm_mach_good hb.2 hR2
    have hMm : cd_M τ m P := ⟨hm, w2, w3, w4, hgood.1⟩
    refine S_X10_machine_28 (by omega) (fun _ => ?_) (fun z => absurd w1 z)
    refine S_X10_machine_41 hk4.1 hk4.2 hm ?_
    refine S_X10_machine_48 (c_rules _ hm) hm ?_
    rintro x υ ⟨rfl, rfl⟩
    have u1 : (am_pR τ 4 k (some m)).1 = τ.1 := rfl
    have u2 : ∀ a, a ≠ 4 → (am_pR τ 4 k (some m)).2.2 a = τ.2.2 a := fun a ha => am_up_ne ha
    rw [← hQ, an_mc_r hk4 hR2]
    obtain ⟨-, -, c2, c3, c4, -⟩ := w2.1
    refine ⟨?_, w1, ?_, ⟨by show τ.1 2 = b.1; rw [e2]; exact hT.1, h1⟩, by show tk_idle (τ.1 2) (τ.1 1); rw [e2]; exact hi2, hRr _ (fun _ _ => rfl) (u2 12 (by decide)), hfr, by show τ.2.1 = σ.2.1; rw [ho.2], fun a ha => by rw [u2 a ha, ho.2], fun P' _ y => by rw [hR2] at y; injection y with y; exact y ▸ w4⟩
    · show τ.1 m 2 + τ.1 m 3 + τ.1 m 4 = pm_n P
      rw [c2, c3, c4]
    · intro j j0 j1
      by_cases e : j = k
      · refine Or.inr ⟨m, P, ?_, ?_, cd_M_of (fun _ _ _ => rfl) hMm⟩
        · rw [e]
          show am_up τ.2.2 4 k (some m) 4 k = some m
          exact am_up_at
        · show am_u1 M k (some P) j = some P
          rw [e, am_u1_eq]
      · have f1 : (am_pR τ 4 k (some m)).2.2 4 j = τ.2.2 4 j := by
          show am_up τ.2.2 4 k (some m) 4 j = _
          rw [am_up_eq, am_u1_ne e]
        have f2 : (an_mc b k F M).2.2.1 j = M j := by
          rw [an_mc_r hk4 hR2]
          show am_u1 M k (some P) j = M j
          rw [am_u1_ne e]
        rw [an_mc_r hk4 hR2] at f2
        rcases hM1 j j0 j1 with ⟨a1, a2⟩ | ⟨m', P', a1, a2, a3⟩
        · exact Or.inl ⟨by rw [f1]; exact a1, by rw [f2]; exact a2⟩
        · exact Or.inr ⟨m', P', by rw [f1]; exact a1, by rw [f2]; exact a2, cd_M_of (fun _ _ _ => rfl) a3⟩
/-- READING 0 and what is held of it stay -/
theorem rx_R.keep {τ : am_D} {r : ab_R} (hb : ab_rb r) (hR : rx_R σ r) (h9 : ∀ j : Int, 49 ≤ j → j ≤ 51 → τ.1 91 j = σ.1 91 j) (hT : ∀ P, rm_T σ 4 P → pm_ok P → rm_T τ 4 P) (q : ∀ a, 110 ≤ a → a ≤ 123 → ∀ i : Int, i < rr_sz a → τ.1 a i = σ.1 a i) : rx_R τ r := by
  cases r with
  | none =>
    show τ.1 91 49 = 0
    rw [h9 49 (by omega) (by omega)]
    exact hR
  | some p =>
    obtain ⟨⟨h49, h50, h51⟩, h4, ⟨hP, hW⟩, ⟨hw, h3, hlw⟩, C, mo, hC, hI⟩ := (show _ ∧ _ from hR)
    obtain ⟨l1, l2, l3, -⟩ := rd_lens hP hW hw hC
    have l4 := (show _ ∧ _ from hb).2.2.2 C mo hC
    refine ⟨⟨by rw [h9 49 (by omega) (by omega)]; exact h49, by rw [h9 50 (by omega) (by omega)]; exact h50, by rw [h9 51 (by omega) (by omega)]; exact h51⟩, hT _ h4 hP, ⟨hP, hW⟩, ⟨hw, h3, hlw⟩, C, mo, hC, ?_⟩
    exact rr_I.keepq l2 (by omega) (by omega) (fun a y1 y2 i i0 i1 => q a y1 y2 i (by omega)) hI
theorem r_xmachine (d : Nat) {b : ab_B} {r : ab_R} {k F : Int} (hk : -2147483648 ≤ k ∧ k ≤ 2147483647) (hT : rx_T σ b) (hb : ab_b b) (hF : σ.1 91 2 = F) (hM : rx_M σ M) (hw : ab_w M) (hR : rx_R σ r) (hrb : ab_rb r) : am_MI G (d + 24) mX11_machine [am_r (some 91), am_i k] σ (fun x σ' => x = (an_mc b k F M).1 ∧ σ'.1 91 2 = (an_mc b k F M).2.1 ∧ rx_M σ' (an_mc b k F M).2.2.1 ∧ rx_T σ' (an_mc b k F M).2.2.2 ∧ rx_R σ' r ∧ am_only (91 :: rm_B) σ σ' ∧ am_kpt [1, 2, 3, 4, 5, 6, 21] (σ.1 91) (σ'.1 91)) := by
  have h92 : ∀ i, 0 ≤ i → i < 600 → -128 ≤ σ.1 92 i ∧ σ.1 92 i ≤ 127 := by
    intro i _ _
    rw [hT.1]
    show -128 ≤ am_sg (b.1 i) ∧ am_sg (b.1 i) ≤ 127
    have := hb.1 i
    unfold am_sg
    split <;> omega
  refine (c_rMachine (G := G) (σ := σ) d hk h92 (by rw [hT.2]; exact hb.2)).mono ?_
  rintro _ _ ⟨x, τ, rfl, rfl, hx⟩
  refine ⟨x, τ, rfl, rfl, ?_⟩
  by_cases z : 0 ≤ k ∧ k ≤ 3
  rotate_left
  · rw [if_neg z] at hx
    obtain ⟨rfl, rfl⟩ := hx
    rw [an_mc_n (by omega)]
    exact ⟨rfl, hF, hM, hT, hR, am_only.rfl', am_kpt.rfl'⟩
  rw [if_pos z, hT.1, hT.2, sg_mach hb.1] at hx
  have hk4 : 0 ≤ k ∧ k < 4 := by omega
  obtain ⟨⟨ho, hkp, h1, -⟩, hx⟩ := hx
  have e92 : τ.1 92 = σ.1 92 := ho.1 92 (by decide)
  have hRk : (∀ s, 0 ≤ s ∧ s < 5 → s ≠ k → rm_eq σ s τ s) → rx_R τ r := by
    intro he
    refine hR.keep hrb (fun j j0 j1 => hkp j (by simp; omega)) (fun P hP hok => rm_T_move hok hP (he 4 (by omega) (by omega))) (fun a y1 y2 i _ => ?_)
    rw [ho.1 a (by simp; omega)]
  cases hR2 : sm_mach b.1 b.2 with
  | inl F' =>
    rw [hR2] at hx
    obtain ⟨rfl, x2, x3, x4⟩ := hx
    rw [an_mc_l hk4 hR2]
    refine ⟨rfl, x2, ?_, ⟨by rw [e92]; exact hT.1, h1⟩, hRk (fun s hs _ => x4 s hs), ho, hkp⟩
    intro j j0 j1
    rcases hM j j0 j1 with ⟨a1, a2⟩ | ⟨a1, P, a2, a3⟩
    · exact Or.inl ⟨by rw [x3]; exact a1, a2⟩
    · exact Or.inr ⟨by rw [x3]; exact a1, P, a2, rm_T_move (hw j P a2).1 a3 (x4 j (by omega))⟩
  | inr P =>
    rw [hR2] at hx
    obtain ⟨rfl, x2, x3, x4, x5, x6⟩ := hx
    rw [an_mc_r hk4 hR2]
    refine ⟨rfl, x2, ?_, ⟨by rw [e92]; exact hT.1, h1⟩, hRk x6, ho, hkp⟩
    intro j j0 j1
    by_cases e : j = k
    · refine Or.inr ⟨?_, P, ?_, ?_⟩
      · rw [x3, e, am_u1_eq]
      · show am_u1 M k (some P) j = some P
        rw [e, am_u1_eq]
      · rw [e]; exact x4
    · have f2 : am_u1 M k (some P) j = M j := am_u1_ne e
      rcases hM j j0 j1 with ⟨a1, a2⟩ | ⟨a1, P', a2, a3⟩
      · exact Or.inl ⟨by rw [x3, am_u1_ne e]; exact a1, by show am_u1 M k (some P) j = none; rw [f2]; exact a2⟩
      · exact Or.inr ⟨by rw [x3, am_u1_ne e]; exact a1, P', by show am_u1 M k (some P) j = some P'; rw [f2]; exact a2, rm_T_move (hw j P' a2).1 a3 (x6 j (by omega) e)⟩
end
