section
/-! The class's sums. -/
def cs_t (P : am_P) (T : Nat → Nat → Nat → Int64) (m q l u t : Nat) : Int64 := if pm_cT P l t (pm_oM P l q) = u then T (m - 1) (pm_oT P l q).toNat t else 0
def cs_l (P : am_P) (T : Nat → Nat → Nat → Int64) (m q u l : Nat) : Int64 := if pm_oT P l q = -1 then 0 else js (cs_t P T m q l u) (pm_S P).toNat
def cs_F (P : am_P) (T : Nat → Nat → Nat → Int64) (m q l t a b : Nat) : Int64 := if a < q then mn_s P T m a b else if a = q then js (cs_l P T m q b) l + js (cs_t P T m q l b) t else 0
theorem mn_s_l {P : am_P} {T : Nat → Nat → Nat → Int64} {m q u : Nat} : mn_s P T m q u = js (cs_l P T m q u) 3 := rfl
theorem cs_F_l {P : am_P} {T : Nat → Nat → Nat → Int64} {m q l a b : Nat} (h : pm_oT P l q ≠ -1) : cs_F P T m q l (pm_S P).toNat a b = cs_F P T m q (l + 1) 0 a b := by
  unfold cs_F
  split
  · rfl
  split
  · show _ = js (cs_l P T m q b) l + cs_l P T m q b l + 0
    rw [Int64.add_zero]
    congr 1
    unfold cs_l
    rw [if_neg h]
  · rfl
theorem cs_F_n {P : am_P} {T : Nat → Nat → Nat → Int64} {m q l a b : Nat} (h : pm_oT P l q = -1) : cs_F P T m q l 0 a b = cs_F P T m q (l + 1) 0 a b := by
  unfold cs_F
  split
  · rfl
  split
  · show js (cs_l P T m q b) l + 0 = js (cs_l P T m q b) l + cs_l P T m q b l + 0
    rw [Int64.add_zero, Int64.add_zero]
    unfold cs_l
    rw [if_pos h, Int64.add_zero]
  · rfl
theorem cs_F_q {P : am_P} {T : Nat → Nat → Nat → Int64} {m q a b : Nat} : cs_F P T m q 3 0 a b = cs_F P T m (q + 1) 0 0 a b := by
  unfold cs_F
  by_cases h1 : a < q
  · rw [if_pos h1, if_pos (by omega)]
  rw [if_neg h1]
  by_cases h2 : a = q
  · subst h2
    rw [if_pos rfl, if_pos (by omega), mn_s_l]
    show _ + (0 : Int64) = _
    rw [Int64.add_zero]
  rw [if_neg h2, if_neg (by omega)]
  split
  · show (0 : Int64) = 0 + 0
    rw [Int64.add_zero]
  · rfl
def cs_E (f : Int → Int64) (m : Nat) (F : Nat → Nat → Int64) : Prop := ∀ a b : Nat, a < 6 → b < 6 → f (36 * m + 6 * a + b) = F a b
variable {G : am_G} {σ : am_D}
/-- below index n nothing moves -/
def cs_fr (r : Nat) (n : Int) (σ τ : am_D) : Prop := wj_o [r] σ τ ∧ ∀ j : Int, j < n → τ.2.1 r j = σ.2.1 r j
theorem cs_fr.put {r : Nat} {n i : Int} {x : Int64} {σ τ : am_D} (h : cs_fr r n σ τ) (hi : n ≤ i) : cs_fr r n σ (am_pJ τ r i x) := by
  refine ⟨h.1.trans (wj_o.pJ (List.mem_singleton.mpr rfl)), fun j hj => ?_⟩
  rw [am_pJ_row, am_u1_neJ (by omega)]
  exact h.2 j hj
theorem c_countSingles (d : Nat) {m : Nat} {P : am_P} {M : Nat} (hM : cd_M σ m P) (hM1 : 1 ≤ M ∧ M ≤ 16) (hR : ∀ a b : Nat, a < (pm_S P).toNat → b < (pm_S P).toNat → σ.2.1 27 (36 * ((M - 1 : Nat) : Int) + 6 * a + b) = mT P (M - 1) a b) : am_MV G (d + 2) mX9_countSingles [am_r (some 24), am_r (some m), am_i M] σ (fun σ' => cs_fr 26 (36 * M) σ σ' ∧ ∀ a b : Nat, a < (pm_S P).toNat → b < 6 → σ'.2.1 26 (36 * M + 6 * a + b) = mn_s P (mT P) M a b) := by
  obtain ⟨m1, m2, m3, m4, m5⟩ := id hM
  obtain ⟨⟨pS1, pS2⟩, ⟨pR1, pR2⟩, -, -, -, poT, poM, pcT⟩ := id m4
  refine am_M.go (by decide) (Nat.le_of_ble_eq_true rfl) rfl ?_
  generalize hQ : (fun (σ' : am_D) => cs_fr 26 (36 * M) σ σ' ∧ ∀ a b : Nat, a < (pm_S P).toNat → b < 6 → σ'.2.1 26 (36 * M + 6 * a + b) = mn_s P (mT P) M a b) = Q
  refine S_X9_countSingles_0 ?_
  refine S_X9_countSingles_5 ?_
  refine S_X9_countSingles_11 ?_
  -- t
  have T : ∀ (q l : Nat), q < (pm_S P).toNat → l < 3 → pm_oT P l q ≠ -1 → ∀ (n t : Nat) (τ : am_D), t + n = (pm_S P).toNat → cs_fr 26 (36 * M) σ τ → cs_E (τ.2.1 26) M (cs_F P (mT P) M q l t) → (∀ τ' : am_D, cs_fr 26 (36 * M) σ τ' → cs_E (τ'.2.1 26) M (cs_F P (mT P) M q (l + 1) 0) → am_X (am_FV G (d + 2) Q) mX9_countSingles (0, 0) 163 [some (am_r (some 24)), some (am_r (some m)), none, some (am_i ((M : Int) * 36)), some (am_i ((M : Int) * 36 - 36)), some (am_i q), some (am_i l), none, none, none, none] [] (am_K0, τ')) → am_X (am_FV G (d + 2) Q) mX9_countSingles (0, 0) 73 [some (am_r (some 24)), some (am_r (some m)), none, some (am_i ((M : Int) * 36)), some (am_i ((M : Int) * 36 - 36)), some (am_i q), some (am_i l), some (am_i (pm_oT P l q)), some (am_i t), none, none] [] (am_K0, τ) := by
    intro q l hq hl hot n
    have ho := poT l q
    have hm := poM l q
    have hT1 := m2.2.1 l q (by omega) (by omega) (by omega) (by omega)
    induction n with
    | zero =>
      intro t τ hn hj hE K
      have e1 := hj.1.1
      refine S_X9_countSingles_73 (by omega) (fun z => absurd z hot) (fun _ => ?_)
      refine S_X9_countSingles_79 m1 (by omega) (by rw [e1, m2.1.1]; omega) (fun _ => ?_) (fun z => absurd (by rw [e1, m2.1.1]; omega) z)
      refine K τ hj (fun a b ha hb => ?_)
      rw [← cs_F_l hot, hE a b ha hb, show t = (pm_S P).toNat by omega]
    | succ n ih =>
      intro t τ hn hj hE K
      have e1 := hj.1.1
      have hct := pcT l t (pm_oM P l q)
      have hT2 := (m2.2.2.1 l t (pm_oM P l q) (by omega) (by omega) (by omega) (by omega) (by omega) (by omega)).1
      refine S_X9_countSingles_73 (by omega) (fun z => absurd z hot) (fun _ => ?_)
      refine S_X9_countSingles_79 m1 (by omega) (by rw [e1, m2.1.1]; omega) (fun z => absurd z (by rw [e1, m2.1.1]; omega)) (fun _ => ?_)
      refine S_X9_countSingles_88 (c_lays _ m1 (by omega) (by omega)) m1 ?_
      rintro _ _ ⟨rfl, rfl⟩
      rw [if_pos (by omega), e1, hT1.2 hot]
      refine S_X9_countSingles_97 (c_closesTo _ m1 (by omega) (by omega)) m1 ?_
      rintro _ _ ⟨rfl, rfl⟩
      rw [if_pos (by omega), e1, hT2]
      have next : ∀ τ' : am_D, cs_fr 26 (36 * M) σ τ' → cs_E (τ'.2.1 26) M (cs_F P (mT P) M q l (t + 1)) → am_X (am_FV G (d + 2) Q) mX9_countSingles (0, 0) 157 [some (am_r (some 24)), some (am_r (some m)), none, some (am_i ((M : Int) * 36)), some (am_i ((M : Int) * 36 - 36)), some (am_i q), some (am_i l), some (am_i (pm_oT P l q)), some (am_i t), none, none] [] (am_K0, τ') := by
        intro τ' hj' hE'
        refine S_X9_countSingles_157 ?_
        have := ih (t + 1) τ' (by omega) hj' hE' K
        exact this
      refine S_X9_countSingles_104 (by omega) (fun z => ?_) (fun z => ?_)
      · refine next τ hj (fun a b ha hb => ?_)
        rw [hE a b ha hb]
        unfold cs_F
        split
        · rfl
        split
        · show _ = _ + (js (cs_t P (mT P) M q l b) t + cs_t P (mT P) M q l b t)
          rw [show cs_t P (mT P) M q l b t = 0 by unfold cs_t; rw [if_neg (by omega)], Int64.add_zero]
        · rfl
      · refine S_X9_countSingles_110 (c_pair _) ?_
        rintro _ _ ⟨rfl, rfl⟩
        refine S_X9_countSingles_118 ?_
        refine S_X9_countSingles_121 (c_jat _ sh_26 (by omega) (by omega)) ?_
        rintro _ _ ⟨rfl, rfl⟩
        refine S_X9_countSingles_136 (c_pair _) ?_
        rintro _ _ ⟨rfl, rfl⟩
        refine S_X9_countSingles_149 (c_jat _ sh_27 (by omega) (by omega)) ?_
        rintro _ _ ⟨rfl, rfl⟩
        refine S_X9_countSingles_153 (c_jput _ sh_26 (by omega) (by omega)) ?_
        rintro _ rfl
        have h1 := hE q (pm_cT P l t (pm_oM P l q)).toNat (by omega) (by omega)
        have h2 := hR (pm_oT P l q).toNat t (by omega) (by omega)
        have e2 : 36 * (M : Int) + 6 * (q : Int) + ((pm_cT P l t (pm_oM P l q)).toNat : Int) = (M : Int) * 36 + (6 * (q : Int) + pm_cT P l t (pm_oM P l q)) := by omega
        have e3 : 36 * ((M - 1 : Nat) : Int) + 6 * ((pm_oT P l q).toNat : Int) + (t : Int) = (M : Int) * 36 - 36 + (6 * pm_oT P l q + t) := by omega
        rw [e2] at h1
        rw [e3, ← hj.1.2.1 27 (by decide)] at h2
        rw [h1, h2]
        refine next _ (hj.put (by omega)) (fun a b ha hb => ?_)
        rw [am_pJ_row]
        by_cases y : a = q ∧ (b : Int) = pm_cT P l t (pm_oM P l q)
        · obtain ⟨rfl, y⟩ := y
          rw [← y, show 36 * (M : Int) + 6 * (a : Int) + (b : Int) = (M : Int) * 36 + (6 * (a : Int) + b) by omega, am_u1_eqJ, Int.toNat_natCast]
          unfold cs_F
          rw [if_neg (by omega), if_pos rfl, if_neg (by omega), if_pos rfl]
          show _ = _ + (js (cs_t P (mT P) M a l b) t + cs_t P (mT P) M a l b t)
          rw [Int64.add_assoc, show cs_t P (mT P) M a l b t = mT P (M - 1) (pm_oT P l a).toNat t by unfold cs_t; rw [if_pos y.symm]]
        · rw [am_u1_neJ (by omega), hE a b ha hb]
          unfold cs_F
          split
          · rfl
          split
          · show _ = _ + (js (cs_t P (mT P) M q l b) t + cs_t P (mT P) M q l b t)
            rw [show cs_t P (mT P) M q l b t = 0 by unfold cs_t; rw [if_neg (by omega)], Int64.add_zero]
          · rfl
  -- l
  have L : ∀ (q : Nat), q < (pm_S P).toNat → ∀ (n l : Nat) (τ : am_D), l + n = 3 → cs_fr 26 (36 * M) σ τ → cs_E (τ.2.1 26) M (cs_F P (mT P) M q l 0) → (∀ τ' : am_D, cs_fr 26 (36 * M) σ τ' → cs_E (τ'.2.1 26) M (cs_F P (mT P) M (q + 1) 0 0) → am_X (am_FV G (d + 2) Q) mX9_countSingles (0, 0) 169 [some (am_r (some 24)), some (am_r (some m)), none, some (am_i ((M : Int) * 36)), some (am_i ((M : Int) * 36 - 36)), some (am_i q), none, none, none, none, none] [] (am_K0, τ')) → am_X (am_FV G (d + 2) Q) mX9_countSingles (0, 0) 54 [some (am_r (some 24)), some (am_r (some m)), none, some (am_i ((M : Int) * 36)), some (am_i ((M : Int) * 36 - 36)), some (am_i q), some (am_i l), none, none, none, none] [] (am_K0, τ) := by
    intro q hq n
    induction n with
    | zero =>
      intro l τ hl hj hE K
      have hl : l = 3 := by omega
      subst hl
      refine S_X9_countSingles_54 (by omega) (fun _ => ?_) (fun z => absurd (by omega) z)
      exact K τ hj (fun a b ha hb => by rw [← cs_F_q]; exact hE a b ha hb)
    | succ n ih =>
      intro l τ hl hj hE K
      have e1 := hj.1.1
      have ho := poT l q
      have hT1 := m2.2.1 l q (by omega) (by omega) (by omega) (by omega)
      refine S_X9_countSingles_54 (by omega) (fun z => absurd z (by omega)) (fun _ => ?_)
      refine S_X9_countSingles_60 (c_opensTo _ m1 (by omega) (by omega)) m1 ?_
      rintro _ _ ⟨rfl, rfl⟩
      rw [if_pos (by omega), e1, hT1.1]
      refine S_X9_countSingles_70 ?_
      have back : ∀ τ' : am_D, cs_fr 26 (36 * M) σ τ' → cs_E (τ'.2.1 26) M (cs_F P (mT P) M q (l + 1) 0) → am_X (am_FV G (d + 2) Q) mX9_countSingles (0, 0) 163 [some (am_r (some 24)), some (am_r (some m)), none, some (am_i ((M : Int) * 36)), some (am_i ((M : Int) * 36 - 36)), some (am_i q), some (am_i l), none, none, none, none] [] (am_K0, τ') := by
        intro τ' hj' hE'
        refine S_X9_countSingles_163 ?_
        have := ih (l + 1) τ' (by omega) hj' hE' K
        exact this
      by_cases hot : pm_oT P l q = -1
      · refine S_X9_countSingles_73 (by omega) (fun _ => ?_) (fun z => absurd hot z)
        exact back τ hj (fun a b ha hb => by rw [← cs_F_n hot]; exact hE a b ha hb)
      · exact T q l hq (by omega) hot (pm_S P).toNat 0 τ (by omega) hj hE back
  have Qq : ∀ (n q : Nat) (τ : am_D), q + n = (pm_S P).toNat → cs_fr 26 (36 * M) σ τ → cs_E (τ.2.1 26) M (cs_F P (mT P) M q 0 0) → am_X (am_FV G (d + 2) Q) mX9_countSingles (0, 0) 42 [some (am_r (some 24)), some (am_r (some m)), none, some (am_i ((M : Int) * 36)), some (am_i ((M : Int) * 36 - 36)), some (am_i q), none, none, none, none, none] [] (am_K0, τ) := by
    intro n
    induction n with
    | zero =>
      intro q τ hq hj hE
      have e1 := hj.1.1
      refine S_X9_countSingles_42 m1 (by omega) (by rw [e1, m2.1.1]; omega) (fun _ => ?_) (fun z => absurd (by rw [e1, m2.1.1]; omega) z)
      refine S_X9_countSingles_175 ?_
      rw [← hQ]
      refine ⟨hj, fun a b ha hb => ?_⟩
      rw [hE a b (by omega) hb]
      unfold cs_F
      rw [if_pos (by omega)]
    | succ n ih =>
      intro q τ hq hj hE
      have e1 := hj.1.1
      refine S_X9_countSingles_42 m1 (by omega) (by rw [e1, m2.1.1]; omega) (fun z => absurd z (by rw [e1, m2.1.1]; omega)) (fun _ => ?_)
      refine S_X9_countSingles_51 ?_
      refine L q (by omega) 3 0 τ (by omega) hj hE (fun τ' hj' hE' => ?_)
      refine S_X9_countSingles_169 ?_
      have := ih (q + 1) τ' (by omega) hj' hE'
      exact this
  -- cleared
  have Z : ∀ (n i : Nat) (τ : am_D), i + n = 36 → cs_fr 26 (36 * M) σ τ → (∀ j : Int, 36 * (M : Int) ≤ j → j < 36 * M + i → τ.2.1 26 j = 0) → am_X (am_FV G (d + 2) Q) mX9_countSingles (0, 0) 14 [some (am_r (some 24)), some (am_r (some m)), none, some (am_i ((M : Int) * 36)), some (am_i ((M : Int) * 36 - 36)), some (am_i i), none, none, none, none, none] [] (am_K0, τ) := by
    intro n
    induction n with
    | zero =>
      intro i τ hi hj hE
      refine S_X9_countSingles_14 (by omega) (fun _ => ?_) (fun z => absurd (by omega) z)
      refine S_X9_countSingles_39 ?_
      refine Qq (pm_S P).toNat 0 τ (by omega) hj (fun a b ha hb => ?_)
      rw [hE _ (by omega) (by omega)]
      unfold cs_F
      rw [if_neg (by omega)]
      split
      · show (0 : Int64) = 0 + 0
        rw [Int64.add_zero]
      · rfl
    | succ n ih =>
      intro i τ hi hj hE
      refine S_X9_countSingles_14 (by omega) (fun z => absurd z (by omega)) (fun _ => ?_)
      refine S_X9_countSingles_21 (c_jput _ sh_26 (by omega) (by omega)) ?_
      rintro _ rfl
      refine S_X9_countSingles_33 ?_
      have := ih (i + 1) (am_pJ τ 26 ((M : Int) * 36 + i) 0) (by omega) (hj.put (by omega)) (fun j j0 j1 => by
        rw [am_pJ_row]
        by_cases y : j = (M : Int) * 36 + i
        · rw [y, am_u1_eqJ]
        · rw [am_u1_neJ y]
          exact hE j j0 (by omega))
      exact this
  exact Z 36 0 σ rfl ⟨wj_o.rfl', fun _ _ => rfl⟩ (fun j j0 j1 => by omega)
end
