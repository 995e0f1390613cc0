section
variable {G : am_G} {σ : am_D}
def rb_R (P : am_P) (τ : am_D) (M q : Nat) : Prop := ∀ i a b : Nat, a < (pm_S P).toNat → b < (pm_S P).toNat → (i < M ∨ (i = M ∧ a < q)) → τ.2.1 27 (36 * i + 6 * a + b) = mT P i a b
def rb_S (P : am_P) (τ : am_D) (M : Nat) : Prop := ∀ i a b : Nat, 1 ≤ i → i ≤ M → a < (pm_S P).toNat → b < 6 → τ.2.1 26 (36 * i + 6 * a + b) = mn_s P (mT P) i a b
theorem c_readable (d : Nat) {m : Nat} {P : am_P} {n : Int} (hM : cd_M σ m P) (hn : 0 ≤ n ∧ n ≤ 16) : am_MJ G (d + 3) mX9_readable [am_r (some 24), am_r (some m), am_i n] σ (fun x σ' => x = mn_ans P n.toNat ∧ wj_o [26, 27] σ σ') := by
  obtain ⟨m1, m2, m3, m4, m5⟩ := id hM
  obtain ⟨⟨pS1, pS2⟩, ⟨pR1, pR2⟩, -, -, -, poT, poM, pcT⟩ := id m4
  refine am_M.go (by decide) (Nat.le_of_ble_eq_true rfl) rfl ?_
  generalize hQ : (fun (x : Int64) (σ' : am_D) => x = mn_ans P n.toNat ∧ wj_o [26, 27] σ σ') = Q
  -- the last sum
  have fin : ∀ τ : am_D, wj_o [26, 27] σ τ → rb_R P τ (n.toNat + 1) 0 → am_X (am_FJ G (d + 3) Q) mX9_readable (0, 0) 99 [some (am_r (some 24)), some (am_r (some m)), some (am_i n), none, none, none] [] (am_K0, τ) := by
    intro τ hj hR
    have e1 := hj.1
    have hMτ : cd_M τ m P := cd_M_of (fun b _ _ => by rw [hj.1]) hM
    obtain ⟨-, w2, -⟩ := id hMτ
    refine S_X9_readable_99 ?_
    refine S_X9_readable_101 ?_
    have loop : ∀ (c r : Nat), r + c = (pm_S P).toNat → am_X (am_FJ G (d + 3) Q) mX9_readable (0, 0) 104 [some (am_r (some 24)), some (am_r (some m)), some (am_i n), some (am_l (js (fun r => if (pm_eX P r).isSome then mT P n.toNat 0 r else 0) r)), none, some (am_i r)] [] (am_K0, τ) := by
      intro c
      induction c with
      | zero =>
        intro r hr
        refine S_X9_readable_104 m1 (by omega) (by rw [e1, m2.1.1]; omega) (fun _ => ?_) (fun z => absurd (by rw [e1, m2.1.1]; omega) z)
        refine S_X9_readable_150 ?_
        rw [← hQ, show r = (pm_S P).toNat by omega]
        exact ⟨rfl, hj⟩
      | succ c ih =>
        intro r hr
        refine S_X9_readable_104 m1 (by omega) (by rw [e1, m2.1.1]; omega) (fun z => absurd z (by rw [e1, m2.1.1]; omega)) (fun _ => ?_)
        have next : ∀ x : Int64, x = js (fun r => if (pm_eX P r).isSome then mT P n.toNat 0 r else 0) (r + 1) → am_X (am_FJ G (d + 3) Q) mX9_readable (0, 0) 144 [some (am_r (some 24)), some (am_r (some m)), some (am_i n), some (am_l x), none, some (am_i r)] [] (am_K0, τ) := by
          intro x hx
          refine S_X9_readable_144 ?_
          have := ih (r + 1) (by omega)
          rw [hx]
          exact this
        refine S_X9_readable_113 (c_endTells _ m1 (by omega)) m1 ?_
        rintro _ _ ⟨rfl, rfl⟩
        rw [if_pos (by omega)]
        have h9 := w2.2.2.2 r (by omega) (by omega)
        have hMb := hMτ.b
        cases hx : pm_eX P r with
        | none =>
          rw [hx] at h9
          have h9 : τ.1 (m + 5) r = -1 := h9
          refine S_X9_readable_119 (by omega) (fun _ => ?_) (fun z => absurd h9 z)
          refine next _ ?_
          show _ = js _ r + (if (pm_eX P r).isSome then _ else _)
          rw [hx]
          exact (Int64.add_zero _).symm
        | some w =>
          rw [hx] at h9
          have h9 : cm_X τ m (τ.1 (m + 5) r) w := h9
          have h0 := h9.1
          have h01 := h9.2.1
          refine S_X9_readable_119 (by omega) (fun z => absurd z (by omega)) (fun _ => ?_)
          refine S_X9_readable_123 (c_pair _) ?_
          rintro _ _ ⟨rfl, rfl⟩
          refine S_X9_readable_138 (c_jat _ sh_27 (by omega) (by omega)) ?_
          rintro _ _ ⟨rfl, rfl⟩
          refine S_X9_readable_142 ?_
          refine next _ ?_
          have h := hR n.toNat 0 r (by omega) (by omega) (by omega)
          rw [show 36 * (n.toNat : Int) + 6 * ((0 : Nat) : Int) + r = n * 36 + (6 * 0 + r) by omega] at h
          rw [h]
          show _ = js _ r + (if (pm_eX P r).isSome then _ else _)
          rw [hx]
          rfl
    exact loop (pm_S P).toNat 0 (by omega)
  -- rows q
  have Qq : ∀ (M : Nat), 1 ≤ M → (M : Int) ≤ n → ∀ (c q : Nat) (τ : am_D), q + c = (pm_S P).toNat → wj_o [26, 27] σ τ → rb_R P τ M q → rb_S P τ M → (∀ τ' : am_D, wj_o [26, 27] σ τ' → rb_R P τ' (M + 1) 0 → rb_S P τ' M → am_X (am_FJ G (d + 3) Q) mX9_readable (0, 0) 93 [some (am_r (some 24)), some (am_r (some m)), some (am_i n), some (am_i M), none, none] [] (am_K0, τ')) → am_X (am_FJ G (d + 3) Q) mX9_readable (0, 0) 70 [some (am_r (some 24)), some (am_r (some m)), some (am_i n), some (am_i M), some (am_i q), none] [] (am_K0, τ) := by
    intro M hM1 hM2 c
    induction c with
    | zero =>
      intro q τ hq hj hR hS K
      have e1 := hj.1
      refine S_X9_readable_70 m1 (by omega) (by rw [e1, m2.1.1]; omega) (fun _ => ?_) (fun z => absurd (by rw [e1, m2.1.1]; omega) z)
      exact K τ hj (fun i a b ha hb hi => hR i a b ha hb (by omega)) hS
    | succ c ih =>
      intro q τ hq hj hR hS K
      have e1 := hj.1
      have hMτ : cd_M τ m P := cd_M_of (fun b _ _ => by rw [hj.1]) hM
      refine S_X9_readable_70 m1 (by omega) (by rw [e1, m2.1.1]; omega) (fun z => absurd z (by rw [e1, m2.1.1]; omega)) (fun _ => ?_)
      refine S_X9_readable_79 (c_countRows _ hMτ (by omega) (by omega) (fun i a b hi ha hb => hR i a b ha hb (by omega)) hS) ?_
      rintro τ' ⟨hf, hE⟩
      refine S_X9_readable_87 ?_
      have := ih (q + 1) τ' (by omega) (hj.trans (hf.1.sub (fun a ha => by rw [List.mem_singleton.mp ha]; decide))) (fun i a b ha hb hi => by
        by_cases y : i = M ∧ a = q
        · obtain ⟨rfl, rfl⟩ := y
          exact hE b hb
        · rw [hf.2 _ (by omega)]
          exact hR i a b ha hb (by omega)) (fun i a b h1 h2 ha hb => by
        rw [hf.1.2.1 26 (by decide)]
        exact hS i a b h1 h2 ha hb) K
      exact this
  have Mm : ∀ (c M : Nat) (τ : am_D), (M : Int) + c = n + 1 → 1 ≤ M → wj_o [26, 27] σ τ → rb_R P τ M 0 → rb_S P τ (M - 1) → am_X (am_FJ G (d + 3) Q) mX9_readable (0, 0) 56 [some (am_r (some 24)), some (am_r (some m)), some (am_i n), some (am_i M), none, none] [] (am_K0, τ) := by
    intro c
    induction c with
    | zero =>
      intro M τ hMc hM1 hj hR hS
      refine S_X9_readable_56 (by omega) (by omega) (fun _ => ?_) (fun z => absurd (by omega) z)
      refine fin τ hj ?_
      rw [show n.toNat + 1 = M by omega]
      exact hR
    | succ c ih =>
      intro M τ hMc hM1 hj hR hS
      have hMτ : cd_M τ m P := cd_M_of (fun b _ _ => by rw [hj.1]) hM
      refine S_X9_readable_56 (by omega) (by omega) (fun z => absurd z (by omega)) (fun _ => ?_)
      refine S_X9_readable_61 (c_countSingles _ hMτ (by omega) (fun a b ha hb => hR (M - 1) a b ha hb (by omega))) ?_
      rintro τ' ⟨hf, hE⟩
      refine S_X9_readable_67 ?_
      refine Qq M hM1 (by omega) (pm_S P).toNat 0 τ' (by omega) (hj.trans (hf.1.sub (fun a ha => by rw [List.mem_singleton.mp ha]; decide))) (fun i a b ha hb hi => ?_) (fun i a b h1 h2 ha hb => ?_) (fun τ2 hj2 hR2 hS2 => ?_)
      · rw [hf.1.2.1 27 (by decide)]
        exact hR i a b ha hb hi
      · by_cases y : i = M
        · subst y
          exact hE a b ha hb
        · rw [hf.2 _ (by omega)]
          exact hS i a b h1 (by omega) ha hb
      · refine S_X9_readable_93 ?_
        have := ih (M + 1) τ2 (by omega) (by omega) hj2 hR2 hS2
        exact this
  -- the start
  have C : ∀ (q : Nat), q < 6 → ∀ (c r : Nat) (τ : am_D), r + c = 6 → wj_o [26, 27] σ τ → (∀ a b : Nat, b < 6 → (a < q ∨ (a = q ∧ b < r)) → τ.2.1 27 (6 * (a : Int) + b) = mT P 0 a b) → (∀ τ' : am_D, wj_o [26, 27] σ τ' → (∀ a b : Nat, b < 6 → a < q + 1 → τ'.2.1 27 (6 * (a : Int) + b) = mT P 0 a b) → am_X (am_FJ G (d + 3) Q) mX9_readable (0, 0) 48 [some (am_r (some 24)), some (am_r (some m)), some (am_i n), some (am_i q), none, none] [] (am_K0, τ')) → am_X (am_FJ G (d + 3) Q) mX9_readable (0, 0) 11 [some (am_r (some 24)), some (am_r (some m)), some (am_i n), some (am_i q), some (am_i r), none] [] (am_K0, τ) := by
    intro q hq c
    induction c with
    | zero =>
      intro r τ hr hj hE K
      refine S_X9_readable_11 (by omega) (fun _ => ?_) (fun z => absurd (by omega) z)
      exact K τ hj (fun a b hb ha => hE a b hb (by omega))
    | succ c ih =>
      intro r τ hr hj hE K
      refine S_X9_readable_11 (by omega) (fun z => absurd z (by omega)) (fun _ => ?_)
      refine S_X9_readable_18 (c_pair _) ?_
      rintro _ _ ⟨rfl, rfl⟩
      have put : ∀ x : Int64, x = mT P 0 q r → am_X (am_FJ G (d + 3) Q) mX9_readable (0, 0) 39 [some (am_r (some 24)), some (am_r (some m)), some (am_i n), some (am_i q), some (am_i r), none] [am_l x, am_i (6 * (q : Int) + r), am_r (some 27)] (am_K0, τ) := by
        intro x hx
        refine S_X9_readable_39 (c_jput _ sh_27 (by omega) (by omega)) ?_
        rintro _ rfl
        refine S_X9_readable_42 ?_
        have := ih (r + 1) (am_pJ τ 27 (6 * (q : Int) + r) x) (by omega) (hj.trans (wj_o.pJ (by decide))) (fun a b hb hab => by
          rw [am_pJ_row]
          by_cases y : a = q ∧ b = r
          · obtain ⟨rfl, rfl⟩ := y
            rw [am_u1_eqJ, hx]
          · rw [am_u1_neJ (by omega)]
            exact hE a b hb (by omega)) K
        exact this
      rw [mT_0] at put
      refine S_X9_readable_28 (by omega) (by omega) (fun z => ?_) (fun z => ?_)
      · exact S_X9_readable_38 (put _ (by rw [if_neg (by omega)]))
      · exact S_X9_readable_34 (put _ (by rw [if_pos (by omega)]))
  have D : ∀ (c q : Nat) (τ : am_D), q + c = 6 → wj_o [26, 27] σ τ → (∀ a b : Nat, b < 6 → a < q → τ.2.1 27 (6 * (a : Int) + b) = mT P 0 a b) → am_X (am_FJ G (d + 3) Q) mX9_readable (0, 0) 2 [some (am_r (some 24)), some (am_r (some m)), some (am_i n), some (am_i q), none, none] [] (am_K0, τ) := by
    intro c
    induction c with
    | zero =>
      intro q τ hq hj hE
      refine S_X9_readable_2 (by omega) (fun _ => ?_) (fun z => absurd (by omega) z)
      refine S_X9_readable_54 ?_
      have := Mm n.toNat 1 τ (by omega) (by omega) hj (fun i a b ha hb hi => by
        have : i = 0 := by omega
        subst this
        rw [show 36 * ((0 : Nat) : Int) + 6 * (a : Int) + (b : Int) = 6 * (a : Int) + b by omega]
        exact hE a b (by omega) (by omega)) (fun i a b h1 h2 _ _ => by omega)
      exact this
    | succ c ih =>
      intro q τ hq hj hE
      refine S_X9_readable_2 (by omega) (fun z => absurd z (by omega)) (fun _ => ?_)
      refine S_X9_readable_8 ?_
      refine C q (by omega) 6 0 τ (by omega) hj (fun a b hb hab => hE a b hb (by omega)) (fun τ' hj' hE' => ?_)
      refine S_X9_readable_48 ?_
      have := ih (q + 1) τ' (by omega) hj' hE'
      exact this
  exact S_X9_readable_0 (D 6 0 σ (by omega) wj_o.rfl' (fun a b _ h => by omega))
end
