section
variable {G : am_G} {σ : am_D}
/-- the kinds that the class's stack holds -/
def ck_S (τ : am_D) : List (sk_K × Int) → Prop
  | [] => True
  | p :: st => (τ.1 41 st.length = sk_c p.1 ∧ τ.1 42 st.length = p.2 ∧ sk_ok p.1 ∧ 0 ≤ p.2 ∧ p.2 < 3) ∧ ck_S τ st
theorem ck_S.keep {σ τ : am_D} : ∀ {st : List (sk_K × Int)}, (∀ i : Int, i < st.length → τ.1 41 i = σ.1 41 i ∧ τ.1 42 i = σ.1 42 i) → ck_S σ st → ck_S τ st := by
  intro st
  induction st with
  | nil => intro _ _; trivial
  | cons p st ih =>
    intro h hS
    have hl : (((p :: st).length : Nat) : Int) = st.length + 1 := by rw [List.length_cons]; omega
    rw [hl] at h
    obtain ⟨e1, e2⟩ := h st.length (by omega)
    exact ⟨⟨by rw [e1]; exact hS.1.1, by rw [e2]; exact hS.1.2.1, hS.1.2.2⟩, ih (fun i hi => h i (by omega)) hS.2⟩
/-- REGISTER r of a sight -/
def ck_g (f r : Int) : Int := if r = 0 then f % 16 else f / 16 % 16
def ck_V (w : List Int) (outer inner : Int) (X Y : Int → sk_K) : Prop := ∀ s ∈ w, (4 ≤ s → s < 8 → ck_g inner (s - 4) = sk_c (X (s - 4)) ∧ sk_ok (X (s - 4))) ∧ (8 ≤ s → ck_g outer (s - 8) = sk_c (Y (s - 8)) ∧ sk_ok (Y (s - 8)))
theorem ck_g_v {f s : Int} (hf : 0 ≤ f ∧ f < 4096) (hs : s = 4 ∨ s = 5 ∨ s = 8 ∨ s = 9) : am_and (am_shr f (4 * am_and s 3)) 15 = ck_g f (if s < 8 then s - 4 else s - 8) := by
  have e0 : am_shr f 0 = f := by
    have := am_shr_v (x := f) 0 (by omega) (by omega)
    rw [show am_shr f ((0 : Nat) : Int) = am_shr f 0 from rfl] at this
    rw [this]
    show f / 1 = f
    rw [Int.ediv_one]
  have e4 : am_shr f 4 = f / 16 := am_shr_v (x := f) 4 (by omega) (by omega)
  rw [am_and_15]
  rcases hs with rfl | rfl | rfl | rfl
  · rw [show am_and 4 3 = 0 by decide, show (4 : Int) * 0 = 0 by decide, e0]; rfl
  · rw [show am_and 5 3 = 1 by decide, show (4 : Int) * 1 = 4 by decide, e4]; rfl
  · rw [show am_and 8 3 = 0 by decide, show (4 : Int) * 0 = 0 by decide, e0]; rfl
  · rw [show am_and 9 3 = 1 by decide, show (4 : Int) * 1 = 4 by decide, e4]; rfl
theorem c_skindOf (d : Nat) {Q : am_P} {m : Nat} {e outer inner : Int} {w : List Int} {X Y : Int → sk_K} (hm : am_isM m) (hmm : σ.2.2 31 10 = some m) (hX : cm_X σ m e w) (h14 : σ.1 m 14 ≤ 72) (h15 : σ.1 m 15 ≤ 432) (hQ : sk_q Q) (hJ : sk_J (σ.1 33)) (hA : sk_A (σ.1 34) Q) (hw : sk_x w) (ho : 0 ≤ outer ∧ outer < 4096) (hi : 0 ≤ inner ∧ inner < 4096) (hV : ck_V w outer inner X Y) : am_MI G (d + 3) mX4_kindOf [am_r (some 31), am_i e, am_i outer, am_i inner] σ (fun x σ' => x = sk_c (sk_ev Q X Y w sk_1 []) ∧ am_only [41, 42] σ σ') := by
  obtain ⟨x1, x2, x3, x4, x5, x6⟩ := id hX
  have hm1 := hm.1
  have hs7 := shM7 hm
  have hs6 := shM6 hm
  refine am_M.go (by decide) (Nat.le_of_ble_eq_true rfl) rfl ?_
  refine S_X4_kindOf_0 (S_X4_kindOf_3 ?_)
  refine S_X4_kindOf_6 hmm hm (c_at _ hs7 (by omega)) ?_
  rintro _ _ ⟨rfl, rfl⟩
  rw [if_pos (by omega), x4]
  refine S_X4_kindOf_21 hmm hm (c_at _ hs7 (by omega)) ?_
  rintro _ _ ⟨rfl, rfl⟩
  rw [if_pos (by omega)]
  generalize hB : σ.1 (m + 7) e = B at *
  have loop : ∀ (u pre : List Int) (k : sk_K) (st : List (sk_K × Int)) (τ : am_D), w = pre ++ u → am_only [41, 42] σ τ → sk_m u st.length → ck_S τ st → sk_ok k → sk_ev Q X Y u k st = sk_ev Q X Y w sk_1 [] → am_X (am_FI G (d + 3) (fun x σ' => x = sk_c (sk_ev Q X Y w sk_1 []) ∧ am_only [41, 42] σ σ')) mX4_kindOf (0, 0) 34 [some (am_r (some 31)), none, some (am_i outer), some (am_i inner), some (am_i (sk_c k)), some (am_i st.length), some (am_i (B + w.length)), some (am_i (B + pre.length)), none, none] [] (am_K0, τ) := by
    intro u
    induction u with
    | nil =>
      intro pre k st τ hp ho' hm' hS hk he
      rw [List.append_nil] at hp
      subst hp
      refine S_X4_kindOf_34 (by omega) (by omega) (fun _ => ?_) (fun z => absurd (by omega) z)
      refine S_X4_kindOf_183 ⟨?_, ho'⟩
      rw [← he]
      rfl
    | cons s u ih =>
      intro pre k st τ hp ho' hm' hS hk he
      have hlw : w.length = pre.length + (u.length + 1) := by rw [hp, List.length_append]; rfl
      have hsw : s ∈ w := by rw [hp]; simp
      have hst : st.length ≤ 6 := by have := hm'.2.2; omega
      have hsr := hm'.1 s List.mem_cons_self
      have e6 : τ.1 (m + 6) (B + pre.length) = s := by
        rw [ho'.1 (m + 6) (by simp; omega), x6 pre.length (by omega), hp, List.getD_eq_getElem?_getD, List.getElem?_append_right (Nat.le_refl _), Nat.sub_self]
        rfl
      obtain ⟨v1, v2⟩ := hV s hsw
      have hlen1 : (((pre ++ [s]).length : Nat) : Int) = pre.length + 1 := by rw [List.length_append]; rfl
      have hpp : w = (pre ++ [s]) ++ u := by rw [hp]; simp
      have hJτ : sk_J (τ.1 33) := by rw [ho'.1 33 (by decide)]; exact hJ
      have hAτ : sk_A (τ.1 34) Q := by rw [ho'.1 34 (by decide)]; exact hA
      refine S_X4_kindOf_34 (by omega) (by omega) (fun z => absurd z (by omega)) (fun _ => ?_)
      refine S_X4_kindOf_41 (by rw [ho'.2]; exact hmm) hm (c_at _ hs6 (by omega)) ?_
      rintro _ _ ⟨rfl, rfl⟩
      rw [if_pos (by omega), e6]
      have next : ∀ (k' : sk_K) (st' : List (sk_K × Int)) (n' : Int) (τ' : am_D), n' = st'.length → am_only [41, 42] σ τ' → sk_m u st'.length → ck_S τ' st' → sk_ok k' → sk_ev Q X Y u k' st' = sk_ev Q X Y (s :: u) k st → am_X (am_FI G (d + 3) (fun x σ' => x = sk_c (sk_ev Q X Y w sk_1 []) ∧ am_only [41, 42] σ σ')) mX4_kindOf (0, 0) 177 [some (am_r (some 31)), none, some (am_i outer), some (am_i inner), some (am_i (sk_c k')), some (am_i n'), some (am_i (B + w.length)), some (am_i (B + pre.length)), none, none] [] (am_K0, τ') := by
        intro k' st' n' τ' hn' ho2 hm2 hS' hk' he'
        refine S_X4_kindOf_177 ?_
        have := ih (pre ++ [s]) k' st' τ' hpp ho2 hm2 hS' hk' (he'.trans he)
        rw [hlen1, ← hn', ← Int.add_assoc] at this
        exact this
      by_cases z3 : s < 3
      · obtain ⟨hm2, hn6⟩ := hm'.o z3
        refine S_X4_kindOf_55 (by omega) (fun z => absurd z (by omega)) (fun _ => ?_)
        refine S_X4_kindOf_61 (c_put _ sh_41 (by omega)) ?_
        intro τ1 h1
        rw [if_pos (by omega)] at h1
        subst h1
        refine S_X4_kindOf_72 (c_put _ sh_42 (by omega)) ?_
        intro τ2 h2
        rw [if_pos (by omega)] at h2
        subst h2
        refine S_X4_kindOf_83 (S_X4_kindOf_86 ?_)
        refine next sk_1 ((k, s) :: st) _ _ (by rw [List.length_cons]; omega) ((ho'.trans (am_only.pI (by decide))).trans (am_only.pI (by decide))) (by rw [List.length_cons]; exact hm2) ⟨⟨?_, ?_, hk, by omega, z3⟩, ?_⟩ sk_ok_1 ?_
        · rw [am_pI_of (by decide), am_pI_at]
        · rw [am_pI_at]
        · refine hS.keep (fun i hi => ⟨?_, ?_⟩)
          · rw [am_pI_of (by decide), am_pI_nj (by omega)]
          · rw [am_pI_nj (by omega), am_pI_of (by decide)]
        · conv => rhs; unfold sk_ev
          rw [if_pos z3]
      refine S_X4_kindOf_55 (by omega) (fun _ => ?_) (fun z => absurd (by omega) z)
      by_cases z : s = 3
      · refine S_X4_kindOf_92 (by omega) (fun y => absurd z y) (fun _ => ?_)
        obtain ⟨n, hn, hm2⟩ := hm'.c z
        cases st with
        | nil => exact absurd hn (by simp)
        | cons p st =>
        have hl : (((p :: st).length : Nat) : Int) = st.length + 1 := by rw [List.length_cons]; omega
        have hn : st.length = n := by rw [List.length_cons] at hn; omega
        subst hn
        obtain ⟨⟨y1, y2, y3, y4, y5⟩, hS'⟩ := hS
        rw [List.length_cons] at hst
        rw [hl]
        refine S_X4_kindOf_98 ?_
        rw [show (st.length : Int) + 1 + -1 = st.length by omega]
        refine S_X4_kindOf_101 (c_at _ sh_41 (by omega)) ?_
        rintro _ _ ⟨rfl, rfl⟩
        rw [if_pos (by omega), y1]
        refine S_X4_kindOf_114 (c_at _ sh_42 (by omega)) ?_
        rintro _ _ ⟨rfl, rfl⟩
        rw [if_pos (by omega), y2]
        refine S_X4_kindOf_127 (c_kwrap _ hAτ ⟨y4, y5⟩ hk) ?_
        rintro _ _ ⟨rfl, rfl⟩
        refine S_X4_kindOf_132 (c_kjoin _ hJτ y3 (sk_ok_wr hQ)) ?_
        rintro _ _ ⟨rfl, rfl⟩
        refine S_X4_kindOf_137 (next _ st _ τ rfl ho' hm2 hS' (sk_ok_th (sk_ok_wr hQ)) ?_)
        conv => rhs; unfold sk_ev
        rw [if_neg z3, if_pos z]
      refine S_X4_kindOf_92 (by omega) (fun _ => ?_) (fun y => absurd z y)
      by_cases z8 : 8 ≤ s
      · obtain ⟨v2a, v2b⟩ := v2 z8
        have hg := ck_g_v (f := outer) (s := s) ho (by omega)
        rw [if_neg (by omega), v2a] at hg
        refine S_X4_kindOf_140 (by omega) (fun _ => ?_) (fun y => absurd z8 y)
        refine S_X4_kindOf_151 (S_X4_kindOf_152 ?_)
        have hj := c_kjoin (G := G) (σ := τ) (d + 1) hJτ hk v2b
        rw [← hg] at hj
        refine S_X4_kindOf_154 hj ?_
        rintro _ _ ⟨rfl, rfl⟩
        refine next _ st _ τ rfl ho' (hm'.r (by omega)) hS (sk_ok_th v2b) ?_
        conv => rhs; unfold sk_ev
        rw [if_neg z3, if_neg z, if_neg (by omega)]
      · obtain ⟨v1a, v1b⟩ := v1 (by omega) (by omega)
        have hg := ck_g_v (f := inner) (s := s) hi (by omega)
        rw [if_pos (by omega), v1a] at hg
        refine S_X4_kindOf_140 (by omega) (fun y => absurd y z8) (fun _ => ?_)
        refine S_X4_kindOf_147 (S_X4_kindOf_152 ?_)
        have hj := c_kjoin (G := G) (σ := τ) (d + 1) hJτ hk v1b
        rw [← hg] at hj
        refine S_X4_kindOf_154 hj ?_
        rintro _ _ ⟨rfl, rfl⟩
        refine next _ st _ τ rfl ho' (hm'.r (by omega)) hS (sk_ok_th v1b) ?_
        conv => rhs; unfold sk_ev
        rw [if_neg z3, if_neg z, if_pos (by omega)]
  have := loop w [] sk_1 [] σ rfl am_only.rfl' hw.m trivial sk_ok_1 rfl
  rw [show B + (([] : List Int).length : Int) = B from Int.add_zero B] at this
  exact this
end
