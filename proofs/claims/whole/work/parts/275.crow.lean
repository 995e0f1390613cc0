section
def cr_u (P : am_P) (M q k b u : Nat) : Int64 := mn_s P (mT P) (k + 1) q u * mT P (M - 1 - k) u b
def cr_k (P : am_P) (M q b k : Nat) : Int64 := js (cr_u P M q k b) (pm_S P).toNat
def cr_F (P : am_P) (M q k u r b : Nat) : Int64 := js (cr_k P M q b) k + js (cr_u P M q k b) u + (if b < r then cr_u P M q k b u else 0)
theorem cr_F_u {P : am_P} {M q k u b r : Nat} (hb : b < r) : cr_F P M q k u r b = cr_F P M q k (u + 1) 0 b := by
  unfold cr_F
  rw [if_pos hb, if_neg (by omega), Int64.add_zero, Int64.add_assoc]
  rfl
theorem cr_F_z {P : am_P} {M q k u b : Nat} (h : mn_s P (mT P) (k + 1) q u = 0) : cr_F P M q k u 0 b = cr_F P M q k (u + 1) 0 b := by
  unfold cr_F
  rw [if_neg (by omega), Int64.add_zero, if_neg (by omega), Int64.add_zero]
  congr 1
  show _ = js _ u + cr_u P M q k b u
  unfold cr_u
  rw [h, Int64.zero_mul, Int64.add_zero]
theorem cr_F_k {P : am_P} {M q k b : Nat} : cr_F P M q k (pm_S P).toNat 0 b = cr_F P M q (k + 1) 0 0 b := by
  unfold cr_F
  rw [if_neg (by omega), Int64.add_zero, if_neg (by omega), Int64.add_zero]
  show _ = js _ k + cr_k P M q b k + 0
  rw [Int64.add_zero]
  rfl
theorem cr_F_M {P : am_P} {M q b : Nat} (hP : pm_ok P) (hM : 1 ≤ M) (hq : q < (pm_S P).toNat) (hb : b < (pm_S P).toNat) : cr_F P M q M 0 0 b = mT P M q b := by
  obtain ⟨k, rfl⟩ : ∃ k, M = k + 1 := ⟨M - 1, by omega⟩
  rw [mT_s, if_pos ⟨hq, hb⟩, ← mn_eq hP]
  unfold cr_F
  rw [if_neg (by omega), Int64.add_zero]
  show js _ (k + 1) + (0 : Int64) = _
  rw [Int64.add_zero]
  rfl
variable {G : am_G} {σ : am_D}
def cr_fr (M q : Nat) (σ τ : am_D) : Prop := wj_o [27] σ τ ∧ ∀ j : Int, ¬ (36 * (M : Int) + 6 * q ≤ j ∧ j < 36 * (M : Int) + 6 * q + 6) → τ.2.1 27 j = σ.2.1 27 j
theorem cr_fr.put {M q : Nat} {i : Int} {x : Int64} {σ τ : am_D} (h : cr_fr M q σ τ) (hi : 36 * (M : Int) + 6 * q ≤ i ∧ i < 36 * (M : Int) + 6 * q + 6) : cr_fr M q σ (am_pJ τ 27 i x) := by
  refine ⟨h.1.trans (wj_o.pJ (List.mem_singleton.mpr rfl)), fun j hj => ?_⟩
  rw [am_pJ_row, am_u1_neJ (by omega)]
  exact h.2 j hj
def cr_E (f : Int → Int64) (P : am_P) (M q : Nat) (F : Nat → Int64) : Prop := ∀ b : Nat, b < (pm_S P).toNat → f (36 * M + 6 * q + b) = F b
theorem c_countRows (d : Nat) {m : Nat} {P : am_P} {M q : Nat} (hM : cd_M σ m P) (hM1 : 1 ≤ M ∧ M ≤ 16) (hq : q < (pm_S P).toNat) (hR : ∀ i a b : Nat, i < M → a < (pm_S P).toNat → b < (pm_S P).toNat → σ.2.1 27 (36 * i + 6 * a + b) = mT P i a b) (hS : ∀ i a b : Nat, 1 ≤ i → i ≤ M → a < (pm_S P).toNat → b < 6 → σ.2.1 26 (36 * i + 6 * a + b) = mn_s P (mT P) i a b) : am_MV G (d + 2) mX9_countRows [am_r (some 24), am_r (some m), am_i M, am_i q] σ (fun σ' => cr_fr M q σ σ' ∧ cr_E (σ'.2.1 27) P M q (mT P M q)) := by
  obtain ⟨m1, m2, m3, m4, m5⟩ := id hM
  obtain ⟨⟨pS1, pS2⟩, ⟨pR1, pR2⟩, -, -, -, poT, poM, pcT⟩ := id m4
  refine am_M.go (by decide) (Nat.le_of_ble_eq_true rfl) rfl ?_
  generalize hQ : (fun (σ' : am_D) => cr_fr M q σ σ' ∧ cr_E (σ'.2.1 27) P M q (mT P M q)) = Q
  refine S_X9_countRows_0 ?_
  refine S_X9_countRows_6 ?_
  -- r
  have R : ∀ (k u : Nat), k < M → u < (pm_S P).toNat → mn_s P (mT P) (k + 1) q u ≠ 0 → ∀ (n r : Nat) (τ : am_D), r + n = (pm_S P).toNat → cr_fr M q σ τ → cr_E (τ.2.1 27) P M q (cr_F P M q k u r) → (∀ τ' : am_D, cr_fr M q σ τ' → cr_E (τ'.2.1 27) P M q (cr_F P M q k (u + 1) 0) → am_X (am_FV G (d + 2) Q) mX9_countRows (0, 0) 167 [some (am_r (some 24)), some (am_r (some m)), some (am_i M), some (am_i q), some (am_i ((M : Int) * 36)), some (am_i ((k : Int) + 1)), some (am_i (((M : Int) - ((k : Int) + 1)) * 36)), some (am_i u), none, none, none, none] [] (am_K0, τ')) → am_X (am_FV G (d + 2) Q) mX9_countRows (0, 0) 95 [some (am_r (some 24)), some (am_r (some m)), some (am_i M), some (am_i q), some (am_i ((M : Int) * 36)), some (am_i ((k : Int) + 1)), some (am_i (((M : Int) - ((k : Int) + 1)) * 36)), some (am_i u), some (am_l (mn_s P (mT P) (k + 1) q u)), none, some (am_i r), none] [] (am_K0, τ) := by
    intro k u hk hu hw n
    induction n with
    | zero =>
      intro r τ hn hj hE K
      have e1 := hj.1.1
      refine S_X9_countRows_95 (fun z => absurd (am_lcmp_eq.mp z) hw) (fun _ => ?_)
      refine S_X9_countRows_102 m1 (by omega) (by rw [e1, m2.1.1]; omega) (fun _ => ?_) (fun z => absurd (by rw [e1, m2.1.1]; omega) z)
      refine K τ hj (fun b hb => ?_)
      rw [hE b hb]
      exact cr_F_u (by omega)
    | succ n ih =>
      intro r τ hn hj hE K
      have e1 := hj.1.1
      refine S_X9_countRows_95 (fun z => absurd (am_lcmp_eq.mp z) hw) (fun _ => ?_)
      refine S_X9_countRows_102 m1 (by omega) (by rw [e1, m2.1.1]; omega) (fun z => absurd z (by rw [e1, m2.1.1]; omega)) (fun _ => ?_)
      refine S_X9_countRows_111 (c_pair _) ?_
      rintro _ _ ⟨rfl, rfl⟩
      refine S_X9_countRows_119 ?_
      refine S_X9_countRows_122 (c_jat _ sh_27 (by omega) (by omega)) ?_
      rintro _ _ ⟨rfl, rfl⟩
      refine S_X9_countRows_137 (c_pair _) ?_
      rintro _ _ ⟨rfl, rfl⟩
      refine S_X9_countRows_152 (c_jat _ sh_27 (by omega) (by omega)) ?_
      rintro _ _ ⟨rfl, rfl⟩
      refine S_X9_countRows_156 (c_jput _ sh_27 (by omega) (by omega)) ?_
      rintro _ rfl
      have h1 := hE r (by omega)
      have h2 := hR (M - 1 - k) u r (by omega) (by omega) (by omega)
      have h3 := hj.2 (((M : Int) - ((k : Int) + 1)) * 36 + (6 * (u : Int) + r)) (by omega)
      have e2 : 36 * (M : Int) + 6 * (q : Int) + (r : Int) = (M : Int) * 36 + (6 * (q : Int) + r) := by omega
      have e3 : 36 * ((M - 1 - k : Nat) : Int) + 6 * (u : Int) + (r : Int) = ((M : Int) - ((k : Int) + 1)) * 36 + (6 * (u : Int) + r) := by omega
      rw [e2] at h1
      rw [e3] at h2
      rw [h1, h3, h2]
      refine S_X9_countRows_161 ?_
      have := ih (r + 1) (am_pJ τ 27 ((M : Int) * 36 + (6 * (q : Int) + r)) (cr_F P M q k u r r + mn_s P (mT P) (k + 1) q u * mT P (M - 1 - k) u r)) (by omega) (hj.put (by omega)) (fun b hb => by
        rw [am_pJ_row]
        by_cases y : b = r
        · subst y
          rw [e2, am_u1_eqJ]
          unfold cr_F
          rw [if_neg (by omega), if_pos (by omega), Int64.add_zero]
          rfl
        · rw [am_u1_neJ (by omega), hE b hb]
          unfold cr_F
          by_cases w : b < r
          · rw [if_pos w, if_pos (by omega)]
          · rw [if_neg w, if_neg (by omega)]) K
      exact this
  have U : ∀ (k : Nat), k < M → ∀ (n u : Nat) (τ : am_D), u + n = (pm_S P).toNat → cr_fr M q σ τ → cr_E (τ.2.1 27) P M q (cr_F P M q k u 0) → (∀ τ' : am_D, cr_fr M q σ τ' → cr_E (τ'.2.1 27) P M q (cr_F P M q (k + 1) 0 0) → am_X (am_FV G (d + 2) Q) mX9_countRows (0, 0) 173 [some (am_r (some 24)), some (am_r (some m)), some (am_i M), some (am_i q), some (am_i ((M : Int) * 36)), some (am_i ((k : Int) + 1)), none, none, none, none, none, none] [] (am_K0, τ')) → am_X (am_FV G (d + 2) Q) mX9_countRows (0, 0) 62 [some (am_r (some 24)), some (am_r (some m)), some (am_i M), some (am_i q), some (am_i ((M : Int) * 36)), some (am_i ((k : Int) + 1)), some (am_i (((M : Int) - ((k : Int) + 1)) * 36)), some (am_i u), none, none, none, none] [] (am_K0, τ) := by
    intro k hk n
    induction n with
    | zero =>
      intro u τ hn hj hE K
      have e1 := hj.1.1
      refine S_X9_countRows_62 m1 (by omega) (by rw [e1, m2.1.1]; omega) (fun _ => ?_) (fun z => absurd (by rw [e1, m2.1.1]; omega) z)
      refine K τ hj (fun b hb => ?_)
      rw [hE b hb, ← cr_F_k, show u = (pm_S P).toNat by omega]
    | succ n ih =>
      intro u τ hn hj hE K
      have e1 := hj.1.1
      refine S_X9_countRows_62 m1 (by omega) (by rw [e1, m2.1.1]; omega) (fun z => absurd z (by rw [e1, m2.1.1]; omega)) (fun _ => ?_)
      refine S_X9_countRows_71 (c_pair _) ?_
      rintro _ _ ⟨rfl, rfl⟩
      refine S_X9_countRows_86 (c_jat _ sh_26 (by omega) (by omega)) ?_
      rintro _ _ ⟨rfl, rfl⟩
      have h1 := hS (k + 1) q u (by omega) (by omega) (by omega) (by omega)
      rw [show 36 * ((k + 1 : Nat) : Int) + 6 * (q : Int) + (u : Int) = ((k : Int) + 1) * 36 + (6 * (q : Int) + u) by omega, ← hj.1.2.1 26 (by decide)] at h1
      rw [h1]
      refine S_X9_countRows_92 ?_
      have back : ∀ τ' : am_D, cr_fr M q σ τ' → cr_E (τ'.2.1 27) P M q (cr_F P M q k (u + 1) 0) → am_X (am_FV G (d + 2) Q) mX9_countRows (0, 0) 167 [some (am_r (some 24)), some (am_r (some m)), some (am_i M), some (am_i q), some (am_i ((M : Int) * 36)), some (am_i ((k : Int) + 1)), some (am_i (((M : Int) - ((k : Int) + 1)) * 36)), some (am_i u), none, none, none, none] [] (am_K0, τ') := by
        intro τ' hj' hE'
        refine S_X9_countRows_167 ?_
        have := ih (u + 1) τ' (by omega) hj' hE' K
        exact this
      by_cases hw : mn_s P (mT P) (k + 1) q u = 0
      · refine S_X9_countRows_95 (fun _ => ?_) (fun z => absurd (am_lcmp_eq.mpr hw) z)
        exact back τ hj (fun b hb => by rw [hE b hb]; exact cr_F_z hw)
      · exact R k u hk (by omega) hw (pm_S P).toNat 0 τ (by omega) hj hE back
  have Kk : ∀ (n k : Nat) (τ : am_D), k + n = M → cr_fr M q σ τ → cr_E (τ.2.1 27) P M q (cr_F P M q k 0 0) → am_X (am_FV G (d + 2) Q) mX9_countRows (0, 0) 44 [some (am_r (some 24)), some (am_r (some m)), some (am_i M), some (am_i q), some (am_i ((M : Int) * 36)), some (am_i ((k : Int) + 1)), none, none, none, none, none, none] [] (am_K0, τ) := by
    intro n
    induction n with
    | zero =>
      intro k τ hk hj hE
      have hk : k = M := by omega
      subst hk
      refine S_X9_countRows_44 (by omega) (by omega) (fun _ => ?_) (fun z => absurd (by omega) z)
      refine S_X9_countRows_179 ?_
      rw [← hQ]
      exact ⟨hj, fun b hb => by rw [hE b hb]; exact cr_F_M m4 hM1.1 hq hb⟩
    | succ n ih =>
      intro k τ hk hj hE
      refine S_X9_countRows_44 (by omega) (by omega) (fun z => absurd z (by omega)) (fun _ => ?_)
      refine S_X9_countRows_50 ?_
      refine S_X9_countRows_59 ?_
      refine U k (by omega) (pm_S P).toNat 0 τ (by omega) hj hE (fun τ' hj' hE' => ?_)
      refine S_X9_countRows_173 ?_
      have := ih (k + 1) τ' (by omega) hj' hE'
      exact this
  have Z : ∀ (n i : Nat) (τ : am_D), i + n = (pm_S P).toNat → cr_fr M q σ τ → (∀ b : Nat, b < i → τ.2.1 27 (36 * (M : Int) + 6 * q + b) = 0) → am_X (am_FV G (d + 2) Q) mX9_countRows (0, 0) 9 [some (am_r (some 24)), some (am_r (some m)), some (am_i M), some (am_i q), some (am_i ((M : Int) * 36)), some (am_i i), none, none, none, none, none, none] [] (am_K0, τ) := by
    intro n
    induction n with
    | zero =>
      intro i τ hi hj hE
      have e1 := hj.1.1
      refine S_X9_countRows_9 m1 (by omega) (by rw [e1, m2.1.1]; omega) (fun _ => ?_) (fun z => absurd (by rw [e1, m2.1.1]; omega) z)
      refine S_X9_countRows_41 ?_
      refine Kk M 0 τ (by omega) hj (fun b hb => ?_)
      rw [hE b (by omega)]
      unfold cr_F
      rw [if_neg (by omega)]
      show (0 : Int64) = 0 + 0 + 0
      rw [Int64.add_zero, Int64.add_zero]
    | succ n ih =>
      intro i τ hi hj hE
      have e1 := hj.1.1
      refine S_X9_countRows_9 m1 (by omega) (by rw [e1, m2.1.1]; omega) (fun z => absurd z (by rw [e1, m2.1.1]; omega)) (fun _ => ?_)
      refine S_X9_countRows_18 (c_pair _) ?_
      rintro _ _ ⟨rfl, rfl⟩
      refine S_X9_countRows_30 (c_jput _ sh_27 (by omega) (by omega)) ?_
      rintro _ rfl
      refine S_X9_countRows_35 ?_
      have := ih (i + 1) (am_pJ τ 27 ((M : Int) * 36 + (6 * (q : Int) + i)) 0) (by omega) (hj.put (by omega)) (fun b hb => by
        rw [am_pJ_row]
        by_cases y : b = i
        · subst y
          rw [show 36 * (M : Int) + 6 * (q : Int) + (b : Int) = (M : Int) * 36 + (6 * (q : Int) + b) by omega, am_u1_eqJ]
        · rw [am_u1_neJ (by omega)]
          exact hE b (by omega))
      exact this
  exact Z (pm_S P).toNat 0 σ (by omega) ⟨wj_o.rfl', fun _ _ => rfl⟩ (fun b hb => by omega)
end
