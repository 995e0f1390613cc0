section
theorem cm_XS_snoc {σ τ : am_D} {m : Nat} {e : Int} {xs : List (List Int)} {acc : List Int} (hx : ∀ e w, cm_X σ m e w → cm_X τ m e w) (h : cm_XS σ m e xs) (ha : cm_X τ m (e + xs.length) acc) : cm_XS τ m e (xs ++ [acc]) := by
  intro i hi
  rw [List.length_append] at hi
  have hi : i < xs.length + 1 := hi
  by_cases z : i = xs.length
  · subst z
    rw [List.getD_eq_getElem?_getD, List.getElem?_append_right (Nat.le_refl _), Nat.sub_self]
    exact ha
  · rw [List.getD_eq_getElem?_getD, List.getElem?_append_left (by omega), ← List.getD_eq_getElem?_getD]
    exact hx _ _ (h i (by omega))
/-- while the class reads the EXPRESSIONS of a CLOSE RULE -/
def cm_L (σ : am_D) (m : Nat) (bs : Int → Int) (n p0 c to p own : Int) (seen : List Int) (xs : List (List Int)) (τ : am_D) : Prop :=
  (am_only (cm_A m) σ τ ∧ tg bs n (τ.1 1) p ∧ p0 < p) ∧ (τ.1 3 1 = own ∧ 0 ≤ own ∧ own ≤ 6 ∧ cm_seen (τ.1 3 2) seen) ∧ (am_kpt [3, 14, 15] (σ.1 m) (τ.1 m) ∧ τ.1 m 3 = σ.1 m 3 + 1 ∧ τ.1 m 14 = σ.1 m 14 + xs.length) ∧ (0 ≤ τ.1 m 15 ∧ τ.1 m 15 + 2 * (6 - own) + sl_rem seen ≤ σ.1 m 15 + 18 ∧ (0 < τ.1 m 14 → τ.1 (m + 7) (τ.1 m 14) = τ.1 m 15)) ∧ (τ.1 (m + 1) = σ.1 (m + 1) ∧ τ.1 (m + 2) = σ.1 (m + 2) ∧ τ.1 (m + 3) = am_u1 (σ.1 (m + 3)) c to ∧ τ.1 (m + 4) = am_u1 (σ.1 (m + 4)) c (σ.1 m 14) ∧ τ.1 (m + 5) = σ.1 (m + 5)) ∧ (∀ e w, cm_X σ m e w → cm_X τ m e w) ∧ cm_XS τ m (σ.1 m 14) xs
variable {G : am_G} {σ : am_D}
theorem c_readClose (d : Nat) {m : Nat} {bs : Int → Int} {n p : Int} {P : am_P} (hm : am_isM m) (hb : σ.1 2 = bs) (hg : tg bs n (σ.1 1) p) (hk : tk_k bs n p ≠ 0) (h31 : σ.1 3 1 = 0) (h32 : σ.1 3 2 = 0) (hT : cm_T σ m P) (hN : cm_N σ m (pm_n P)) (hP : pm_ok P) (h24 : pm_n P < 24) : am_MV G (d + 7) mX8_readClose [am_r (some 3), am_r (some m)] σ (fun σ' => cm_O σ m bs n p (sm_close bs n P p) σ') := by
  have hm1 := hm.1
  have h24' : pm_nO P + pm_nC P + pm_nE P < 24 := h24
  refine am_M.go (by decide) (Nat.le_of_ble_eq_true rfl) rfl ?_
  generalize hR : sm_close bs n P p = R
  unfold sm_close at hR
  have em : ∀ t, (am_sr σ 1 t).1 m = σ.1 m := fun t => am_sr_of (by omega)
  have e0 : ∀ t, (am_sr σ 1 t).1 m 0 = pm_S P := fun t => by rw [em]; exact hT.1.1
  obtain ⟨⟨pS1, pS2⟩, ⟨pR1, pR2⟩, ⟨pn1, pn2, pn3, pn4⟩, pc, pe, poT, poM, pcT⟩ := id hP
  obtain ⟨t0, t1, t2, t3, t4, t5, t6⟩ := hT.1
  obtain ⟨n1, n2, n3, n4, n5⟩ := id hN
  have F164 : ∀ (τ : am_D) (F : Int), am_only (cm_A m) σ τ → tf bs n (τ.1 1) F → 0 ≤ τ.1 m 5 ∧ τ.1 m 5 ≤ 6 → 0 ≤ τ.1 3 1 ∧ τ.1 3 1 ≤ 100 → R = .inl F → am_X (am_FV G (d + 7) (fun σ' => cm_O σ m bs n p R σ')) mX8_readClose (0, 0) 164 [some (am_r (some 3)), some (am_r (some m)), none, none, none, none, none, none] [] (am_K0, τ) := by
    intro τ F ho h h6 h3 hR
    refine S_X8_readClose_164 hm (c_max _ (by omega) (by omega)) ?_
    rintro _ _ ⟨rfl, rfl⟩
    refine S_X8_readClose_176 hm ?_
    refine S_X8_readClose_179 ?_
    rw [hR]
    exact ⟨ho.trans (am_only.pI (by simp)), by rw [am_pI_of (by omega)]; exact h⟩
  have F108 : ∀ (τ : am_D) (F i : Int), am_only (cm_A m) σ τ → tf bs n (τ.1 1) F → 0 ≤ τ.1 m 5 ∧ τ.1 m 5 ≤ 6 → 0 ≤ τ.1 3 1 ∧ τ.1 3 1 ≤ 100 → τ.1 m 1 = pm_R P → 0 ≤ i ∧ i ≤ 10 → R = .inl F → am_X (am_FV G (d + 7) (fun σ' => cm_O σ m bs n p R σ')) mX8_readClose (0, 0) 108 [some (am_r (some 3)), some (am_r (some m)), none, none, none, none, none, some (am_i i)] [] (am_K0, τ) := by
    intro τ F i ho h h6 h3 h1 hi hR
    have h5 := h.1.2
    refine S_X8_readClose_108 hm (by omega) (by omega) (fun _ => F164 τ F ho h h6 h3 hR) (fun _ => ?_)
    exact S_X8_readClose_117 (by omega) (fun _ => F164 τ F ho h h6 h3 hR) (fun z => absurd h.ne z)
  have F86 : ∀ (t : Int → Int) (F q ly to : Int), tf bs n t F → R = .inl F → am_X (am_FV G (d + 7) (fun σ' => cm_O σ m bs n p R σ')) mX8_readClose (0, 0) 86 [some (am_r (some 3)), some (am_r (some m)), none, some (am_i q), none, some (am_i ly), some (am_i to), none] [] (am_K0, am_sr σ 1 t) := by
    intro t F q ly to h hR
    have h5 := h.1.2
    refine S_X8_readClose_86 (by rw [am_sr_at]; omega) (fun _ => ?_) (fun z => ?_)
    · refine S_X8_readClose_105 ?_
      exact F108 _ F 0 (am_only.sr (by simp)) (by rw [am_sr_at]; exact h) (by rw [em]; omega) (by rw [am_sr_of (by decide)]; omega) (by rw [em]; exact t1) (by omega) hR
    · rw [am_sr_at] at z
      exact absurd h.ne z
  have F77 : ∀ (t : Int → Int) (F q ly to : Int), tf bs n t F → R = .inl F → am_X (am_FV G (d + 7) (fun σ' => cm_O σ m bs n p R σ')) mX8_readClose (0, 0) 77 [some (am_r (some 3)), some (am_r (some m)), none, some (am_i q), none, some (am_i ly), some (am_i to), none] [] (am_K0, am_sr σ 1 t) := by
    intro t F q ly to h hR
    refine S_X8_readClose_77 (f_sign _ (by omega) hb h) ?_
    rintro _ rfl
    exact F86 t F q ly to h hR
  have F61 : ∀ (t : Int → Int) (F q ly : Int), tf bs n t F → R = .inl F → am_X (am_FV G (d + 7) (fun σ' => cm_O σ m bs n p R σ')) mX8_readClose (0, 0) 61 [some (am_r (some 3)), some (am_r (some m)), none, some (am_i q), none, some (am_i ly), none, none] [] (am_K0, am_sr σ 1 t) := by
    intro t F q ly h hR
    refine S_X8_readClose_61 hm (f_digit _ (by omega) (by rw [e0]; omega) hb h) ?_
    rintro x _ ⟨-, rfl⟩
    exact F77 t F q ly x h hR
  have F34 : ∀ (t : Int → Int) (F l q k : Int), -1 ≤ l ∧ l ≤ 2 → -1 ≤ q ∧ q ≤ 5 → -1 ≤ k ∧ k ≤ 5 → tf bs n t F → R = .inl F → am_X (am_FV G (d + 7) (fun σ' => cm_O σ m bs n p R σ')) mX8_readClose (0, 0) 34 [some (am_r (some 3)), some (am_r (some m)), some (am_i l), some (am_i q), some (am_i k), none, none, none] [] (am_K0, am_sr σ 1 t) := by
    intro t F l q k hl hq hk h hR
    refine S_X8_readClose_34 (c_laying _) ?_
    rintro _ _ ⟨rfl, rfl⟩
    refine S_X8_readClose_42 (c_closesTo _ hm (by omega) (by omega)) hm ?_
    rintro x _ ⟨hx, rfl⟩
    have hrx : -1 ≤ x ∧ x ≤ 5 := by
      rw [hx, am_sr_of (by omega)]
      split
      · have key : ∀ v : Int, 0 ≤ v → v < 108 → -1 ≤ σ.1 (m + 3) v ∧ σ.1 (m + 3) v ≤ 5 := by
          intro v v0 v1
          have hv : v = (v / 36 * 6 + v / 6 % 6) * 6 + v % 6 := by omega
          have := (hT.2.2.1 (v / 36) (v % 6) (v / 6 % 6) (by omega) (by omega) (by omega) (by omega) (by omega) (by omega)).1
          have h2 := pcT (v / 36) (v % 6) (v / 6 % 6)
          rw [← hv] at this
          omega
        exact key _ (by omega) (by omega)
      · omega
    refine S_X8_readClose_49 (by omega) (fun _ => F61 t F q _ h hR) (fun _ => ?_)
    refine S_X8_readClose_53 (f_fail _ hb h) ?_
    rintro _ rfl
    exact F61 t F q _ h hR
  have F23 : ∀ (t : Int → Int) (F l q : Int), -1 ≤ l ∧ l ≤ 2 → -1 ≤ q ∧ q ≤ 5 → tf bs n t F → R = .inl F → am_X (am_FV G (d + 7) (fun σ' => cm_O σ m bs n p R σ')) mX8_readClose (0, 0) 23 [some (am_r (some 3)), some (am_r (some m)), some (am_i l), some (am_i q), none, none, none, none] [] (am_K0, am_sr σ 1 t) := by
    intro t F l q hl hq h hR
    refine S_X8_readClose_23 (f_digit _ (by omega) (by omega) hb h) ?_
    rintro x _ ⟨hx, rfl⟩
    exact F34 t F l q x hl hq (by omega) h hR
  have M : ∀ t, tg bs n t p → am_X (am_FV G (d + 7) (fun σ' => cm_O σ m bs n p R σ')) mX8_readClose (0, 0) 0 [some (am_r (some 3)), some (am_r (some m)), none, none, none, none, none, none] [] (am_K0, am_sr σ 1 t) := by
    intro t h
    have hp1 := tk_lt hk
    have hp2 := tk_in (bs := bs) h.2.2.2.2.2
    have hp3 := h.2.2.2.2.1
    refine S_X8_readClose_0 (s_letter _ hb h) ?_
    rintro l _ ⟨t, rfl, ⟨h1, h2, h⟩ | ⟨h1, h2, h3, h⟩⟩
    · rw [if_pos h2] at hR
      refine S_X8_readClose_8 hm (f_digit _ (by omega) (by rw [e0]; omega) hb h) ?_
      rintro q _ ⟨hq, rfl⟩
      rw [e0] at hq
      exact F23 t _ l q (by omega) (by omega) h hR.symm
    rw [if_neg (show ¬ sl_let bs n (tk_sp bs n p) = -1 by omega), ← h1] at hR
    refine S_X8_readClose_8 hm (s_digit _ (by omega) (by rw [e0]; omega) hb h) ?_
    rintro q _ ⟨t, rfl, hq⟩
    rw [e0] at hq
    rcases hq with ⟨q1, q2, h⟩ | ⟨q1, q2, q3, h⟩
    · rw [if_pos q2] at hR
      exact F23 t _ l q (by omega) (by omega) h hR.symm
    rw [if_neg (show ¬ sl_dig bs n 0 (pm_S P - 1) (tk_sp bs n (tk_sp bs n p)) < 0 by omega), ← q1] at hR
    refine S_X8_readClose_23 (s_digit _ (by omega) (by omega) hb h) ?_
    rintro k _ ⟨t, rfl, ⟨k1, k2, h⟩ | ⟨k1, k2, k3, h⟩⟩
    · rw [if_pos k2] at hR
      exact F34 t _ l q k (by omega) (by omega) (by omega) h hR.symm
    rw [if_neg (show ¬ sl_dig bs n 0 5 (tk_sp bs n (tk_sp bs n (tk_sp bs n p))) < 0 by omega), ← k1] at hR
    refine S_X8_readClose_34 (c_laying _) ?_
    rintro _ _ ⟨rfl, rfl⟩
    refine S_X8_readClose_42 (c_closesTo _ hm (by omega) (by omega)) hm ?_
    rintro _ _ ⟨rfl, rfl⟩
    rw [if_pos (by omega), am_sr_of (by omega), (hT.2.2.1 l q k (by omega) (by omega) (by omega) (by omega) (by omega) (by omega)).1]
    have hcT := pcT l q k
    refine S_X8_readClose_49 (by omega) (fun z => ?_) (fun z => ?_)
    rotate_left
    · rw [if_pos z] at hR
      refine S_X8_readClose_53 (s_fail _ (by omega) hb h) ?_
      rintro _ ⟨t, rfl, h⟩
      exact F61 t _ q _ h hR.symm
    rw [if_neg (fun y => y z)] at hR
    refine S_X8_readClose_61 hm (s_digit _ (by omega) (by rw [e0]; omega) hb h) ?_
    rintro to _ ⟨t, rfl, hto⟩
    rw [e0] at hto
    rcases hto with ⟨o1, o2, h⟩ | ⟨o1, o2, o3, h⟩
    · rw [if_pos o2] at hR
      exact F77 t _ q _ to h hR.symm
    rw [if_neg (show ¬ sl_dig bs n 0 (pm_S P - 1) (tk_sp bs n (tk_sp bs n (tk_sp bs n (tk_sp bs n p)))) < 0 by omega), ← o1] at hR
    refine S_X8_readClose_77 (s_sign _ (by omega) hb h) ?_
    rintro _ ⟨t, rfl, ⟨s1, h⟩ | ⟨s1, h⟩⟩
    · rw [if_pos s1] at hR
      exact F86 t _ q _ to h hR.symm
    rw [if_neg (fun z => z s1)] at hR
    have i1 := tk_in (bs := bs) (n := n) (p := tk_sp bs n p) (by omega)
    have i2 := tk_in (bs := bs) (n := n) (p := tk_sp bs n (tk_sp bs n p)) (by omega)
    have i3 := tk_in (bs := bs) (n := n) (p := tk_sp bs n (tk_sp bs n (tk_sp bs n p))) (by omega)
    have i4 := tk_in (bs := bs) (n := n) (p := tk_sp bs n (tk_sp bs n (tk_sp bs n (tk_sp bs n p)))) (by omega)
    have h5 := h.2.2.1
    generalize tk_sp bs n (tk_sp bs n (tk_sp bs n (tk_sp bs n (tk_sp bs n p)))) = p5 at *
    refine S_X8_readClose_86 (by rw [am_sr_at]; omega) (fun z => absurd (by rw [am_sr_at]; exact h5) z) (fun _ => ?_)
    generalize hX : sm_exs bs n (pm_R P) (pm_R P).toNat true p5 0 [] [] = X at hR
    refine S_X8_readClose_96 (c_addClose _ hm (by omega) (by omega)) hm ?_
    rintro _ rfl
    -- the EXPRESSIONS
    have loop : ∀ (f : Nat) (i : Int) (fst : Bool) (p1 own : Int) (seen : List Int) (xs : List (List Int)) (τ : am_D), i + f = pm_R P → i = xs.length → (fst = true → i = 0 ∧ tk_k bs n p1 ≠ 0) → (fst = false → 0 < i) → cm_L σ m bs n p ((l * 6 + k) * 6 + q) to p1 own seen xs τ → sm_exs bs n (pm_R P) f fst p1 own seen xs = X → am_X (am_FV G (d + 7) (fun σ' => cm_O σ m bs n p R σ')) mX8_readClose (0, 0) 108 [some (am_r (some 3)), some (am_r (some m)), none, none, none, none, none, some (am_i i)] [] (am_K0, τ) := by
      intro f
      induction f with
      | zero =>
        intro i fst p1 own seen xs τ hi hxs hf1 hf2 hL hX
        obtain ⟨⟨a1, a2, a3⟩, ⟨b1, b2, b3, b4⟩, ⟨c1, c2, c3⟩, ⟨g1, g2, g3⟩, ⟨r1, r2, r3, r4, r5⟩, x1, x2⟩ := hL
        have hrem := sl_rem_rg seen
        have m1 : τ.1 m 1 = pm_R P := by rw [c1 1 (by decide)]; exact t1
        have m5 : τ.1 m 5 = pm_mC P := by rw [c1 5 (by decide)]; exact t5
        refine S_X8_readClose_108 hm (by omega) (by omega) (fun _ => ?_) (fun z => absurd (by omega) z)
        refine S_X8_readClose_164 hm (c_max _ (by omega) (by omega)) ?_
        rintro _ _ ⟨rfl, rfl⟩
        refine S_X8_readClose_176 hm ?_
        refine S_X8_readClose_179 ?_
        rw [← hR, ← hX]
        have v0 : ∀ a, a ≠ m → (am_pI τ m 5 (max (τ.1 m 5) (τ.1 3 1))).1 a = τ.1 a := fun a ha => am_pI_of ha
        have vm : (am_pI τ m 5 (max (τ.1 m 5) (τ.1 3 1))).1 m = am_u1 (τ.1 m) 5 (max (τ.1 m 5) (τ.1 3 1)) := am_pI_row
        have hxx : ∀ e w, cm_X τ m e w → cm_X (am_pI τ m 5 (max (τ.1 m 5) (τ.1 3 1))) m e w := fun e w => cm_X_of (v0 _ (by omega)) (v0 _ (by omega)) (by rw [vm, am_u1_ne (by decide)]) (by rw [vm, am_u1_ne (by decide)])
        refine ⟨a1.trans (am_only.pI (by simp)), by rw [v0 1 (by omega)]; exact a2, a3, ?_, ?_, ?_⟩
        · refine cm_T_addC (σ := σ) (e := σ.1 m 14) (by omega) (by omega) (by omega) hT ?_ ?_ ?_ (by rw [v0 _ (by omega)]; exact r1) (by rw [v0 _ (by omega)]; exact r2) (by rw [v0 _ (by omega)]; exact r3) (by rw [v0 _ (by omega)]; exact r4) (by rw [v0 _ (by omega)]; exact r5) (fun e w hw => hxx _ _ (x1 _ _ hw)) (fun j hj => hxx _ _ (x2 j hj))
          · intro j hj
            rw [vm, am_u1_ne (fun z => hj (by rw [z]; decide)), c1 j (fun z => hj (by revert z; simp; omega))]
          · rw [vm, am_u1_ne (by decide)]; exact c2
          · rw [vm, am_u1_eq, m5, t5, b1]
        · have hn : pm_n (pm_addC P l q k to xs own) = pm_n P + 1 := by show pm_nO P + (pm_nC P + 1) + pm_nE P = pm_nO P + pm_nC P + pm_nE P + 1; omega
          unfold cm_N
          rw [hn, v0 (m + 7) (by omega), vm, am_u1_ne (by decide), am_u1_ne (by decide)]
          exact ⟨by omega, by omega, g1, by omega, g3⟩
        · refine ⟨⟨pS1, pS2⟩, ⟨pR1, pR2⟩, ⟨pn1, show 0 ≤ pm_nC P + 1 by omega, pn3, show pm_nO P + (pm_nC P + 1) + pm_nE P ≤ 24 by omega⟩, ⟨show 0 ≤ max (pm_mC P) own by omega, show max (pm_mC P) own ≤ 6 by omega⟩, pe, poT, poM, fun l' q' k' => ?_⟩
          show -1 ≤ pm_u3 (pm_cT P) l q k to l' q' k' ∧ pm_u3 (pm_cT P) l q k to l' q' k' < pm_S P ∧ (pm_u3 (pm_cT P) l q k to l' q' k' ≠ -1 → ((pm_u3 (pm_cX P) l q k xs l' q' k').length : Int) = pm_R P)
          have := pcT l' q' k'
          unfold pm_u3
          by_cases z : l' = l ∧ q' = q ∧ k' = k
          · rw [if_pos z, if_pos z]
            exact ⟨by omega, by omega, fun _ => by omega⟩
          · rw [if_neg z, if_neg z]
            exact this
      | succ f ih =>
        intro i fst p1 own seen xs τ hi hxs hf1 hf2 hL hX
        obtain ⟨⟨a1, a2, a3⟩, ⟨b1, b2, b3, b4⟩, ⟨c1, c2, c3⟩, ⟨g1, g2, g3⟩, ⟨r1, r2, r3, r4, r5⟩, x1, x2⟩ := id hL
        have hrem := sl_rem_rg seen
        have m0 : τ.1 m 0 = pm_S P := by rw [c1 0 (by decide)]; exact t0
        have m1 : τ.1 m 1 = pm_R P := by rw [c1 1 (by decide)]; exact t1
        have m5 : τ.1 m 5 = pm_mC P := by rw [c1 5 (by decide)]; exact t5
        have rb : τ.1 2 = bs := by rw [a1.1 2 (cm_A_no hm (by decide) (by decide) (by decide)), hb]
        have a5 := a2.2.2.1
        have ak := a2.k
        have aok := a2.1.2
        unfold sm_exs at hX
        refine S_X8_readClose_108 hm (by omega) (by omega) (fun z => absurd z (by omega)) (fun _ => ?_)
        refine S_X8_readClose_117 (by omega) (fun z => absurd a5 z) (fun _ => ?_)
        have J152 : tk_k bs n p1 ≠ 0 → (match sl_ex bs n (pm_R P) true 700 (tk_sp bs n p1) 0 own seen [] with
            | .inl F => .inl F
            | .inr (p', own', seen', acc) => sm_exs bs n (pm_R P) f false p' own' seen' (xs ++ [acc])) = X → am_X (am_FV G (d + 7) (fun σ' => cm_O σ m bs n p R σ')) mX8_readClose (0, 0) 152 [some (am_r (some 3)), some (am_r (some m)), none, none, none, none, none, some (am_i i)] [] (am_K0, τ) := by
          intro hk1 hX
          have hx0 := c_readExpression (G := G) (σ := τ) d (m := m) (B := σ.1 m 15 + 18) (p := p1) (own := own) (seen := seen) (stk := true) hm (by rw [rb]; exact a2.1) a5 (by rw [rb]; exact a2.2.2.2.1) (by rw [a2.2.1]; exact a2.2.2.2.2) (by rw [rb, a2.2.1]; exact hk1) g1 (by omega) (by omega) (by omega) b1 b2 b3 b4 g2
          rw [rb, a2.2.1, m1] at hx0
          refine S_X8_readClose_152 hx0 ?_
          intro τ2 hpost
          generalize hY : sl_ex bs n (pm_R P) true 700 (tk_sp bs n p1) 0 own seen [] = Y at hpost hX
          refine S_X8_readClose_158 ?_
          cases Y with
          | inl F =>
            obtain ⟨f1, f2, f3, f4, f5, f6, f7, f8, f9⟩ := (show cm_F τ m F τ2 from hpost)
            rw [rb] at f2
            rw [← hX] at hR
            exact F108 τ2 F (i + 1) (a1.trans (f1.sub cm_S_A)) ⟨f2, f3, f4⟩ (by rw [f5 5 (by decide)]; omega) (by omega) (by rw [f5 1 (by decide)]; exact m1) (by omega) hR.symm
          | inr r =>
            obtain ⟨p', own', seen', acc⟩ := r
            obtain ⟨hD, hp', hpn⟩ := (show cm_D τ m (σ.1 m 15 + 18) p' own' seen' acc τ2 ∧ p1 < p' ∧ p' ≤ τ.1 1 1 from hpost)
            obtain ⟨d1, d2, d3, d4, d5, d6, d7, d8, d9, d10, d11, d12, d13, d14, d15, d16⟩ := id hD
            rw [rb] at d2 d5
            rw [a2.2.1] at d3 hpn
            have a20 := a2.2.2.2.2.1
            have hNτ : cm_N τ m 24 := ⟨by omega, by omega, g1, by omega, g3⟩
            have hnew := cm_X_new hNτ hD
            rw [c3] at hnew
            have hlen : ((xs ++ [acc]).length : Int) = xs.length + 1 := by rw [List.length_append]; rfl
            refine ih (i + 1) false p' own' seen' (xs ++ [acc]) τ2 (by omega) (by omega) (fun z => nomatch z) (fun _ => by omega) ⟨⟨a1.trans (d1.sub cm_S_A), ⟨d2, d3, d4, d5, by omega, hpn⟩, by omega⟩, ⟨d6, d7, d8, d9⟩, ⟨fun j hj => by rw [d10 j (fun z => hj (by revert z; simp; omega)), c1 j hj], by rw [d10 3 (by decide)]; exact c2, by omega⟩, ⟨by omega, d16, fun _ => ?_⟩, ⟨by rw [d1.1 _ (by simp <;> omega)]; exact r1, by rw [d1.1 _ (by simp <;> omega)]; exact r2, by rw [d1.1 _ (by simp <;> omega)]; exact r3, by rw [d1.1 _ (by simp <;> omega)]; exact r4, by rw [d1.1 _ (by simp <;> omega)]; exact r5⟩, fun e w hw => cm_X_D hNτ hD (x1 e w hw), cm_XS_snoc (fun e w hw => cm_X_D hNτ hD hw) x2 hnew⟩ hX
            rw [d11, d15, am_u1_eq, d12]
        refine S_X8_readClose_127 (by omega) (fun z => ?_) (fun z => ?_)
        · cases fst with
          | false => exact absurd (hf2 rfl) (by omega)
          | true =>
            rw [if_neg (fun z => nomatch z.1)] at hX
            exact J152 (hf1 rfl).2 hX
        · cases fst with
          | true => exact absurd (hf1 rfl).1 (by omega)
          | false =>
            refine S_X8_readClose_132 (by omega) (fun z => ?_) (fun z => ?_)
            · rw [if_neg (fun y => y.2 (by omega))] at hX
              exact J152 (by omega) hX
            · rw [if_pos ⟨rfl, by omega⟩] at hX
              rw [← hX] at hR
              have hs := s_fail (G := G) (σ := τ) (d + 5) (w := 1) (by omega) rb a2
              rw [am_sr_self] at hs
              refine S_X8_readClose_144 hs ?_
              rintro _ ⟨t', rfl, h'⟩
              have f0 : ∀ a, a ≠ 1 → (am_sr τ 1 t').1 a = τ.1 a := fun a ha => am_sr_of ha
              refine S_X8_readClose_152 (cF_readExpression _ hm (Or.inr rfl) ⟨am_sr_ok rb h'.1, by rw [am_sr_at]; exact h'.ne, ?_⟩) ?_
              · rw [f0 3 (by decide), f0 m (by omega)]
                have := b4.1
                have := b4.2.1
                exact ⟨by omega, by omega, by omega, by omega, by omega, by omega, by omega, by omega, by omega, by omega, by omega, by omega⟩
              intro τ3 hf
              obtain ⟨f1, f2, f3, f4, f5, f6, f7, f8, f9, f10⟩ := hf
              rw [f0 m (by omega)] at f2
              rw [f0 3 (by omega)] at f4
              refine S_X8_readClose_158 ?_
              refine F108 τ3 _ (i + 1) ((a1.trans (am_only.sr (by simp))).trans (f1.sub (fun a ha => by revert ha; simp; omega))) ?_ (by rw [f2 5 (by decide)]; omega) (by omega) (by rw [f2 1 (by decide)]; exact m1) (by omega) hR.symm
              rw [f1.1 1 (by simp <;> omega), am_sr_at]
              exact h'
    refine S_X8_readClose_105 ?_
    have g0 : ∀ a, a ≠ m → a ≠ m + 3 → a ≠ m + 4 → (am_pI (am_pI (am_pI (am_sr σ 1 t) (m + 3) ((l * 6 + k) * 6 + q) to) (m + 4) ((l * 6 + k) * 6 + q) ((am_sr σ 1 t).1 m 14)) m 3 ((am_sr σ 1 t).1 m 3 + 1)).1 a = (am_sr σ 1 t).1 a := fun a y0 y1 y2 => by rw [am_pI_of y0, am_pI_of y2, am_pI_of y1]
    have r0 : (am_pI (am_pI (am_pI (am_sr σ 1 t) (m + 3) ((l * 6 + k) * 6 + q) to) (m + 4) ((l * 6 + k) * 6 + q) ((am_sr σ 1 t).1 m 14)) m 3 ((am_sr σ 1 t).1 m 3 + 1)).1 m = am_u1 (σ.1 m) 3 (σ.1 m 3 + 1) := by rw [am_pI_row, am_pI_of (by omega), am_pI_of (by omega), em]
    have r3 : (am_pI (am_pI (am_pI (am_sr σ 1 t) (m + 3) ((l * 6 + k) * 6 + q) to) (m + 4) ((l * 6 + k) * 6 + q) ((am_sr σ 1 t).1 m 14)) m 3 ((am_sr σ 1 t).1 m 3 + 1)).1 (m + 3) = am_u1 (σ.1 (m + 3)) ((l * 6 + k) * 6 + q) to := by rw [am_pI_of (by omega), am_pI_of (by omega), am_pI_row, am_sr_of (by omega)]
    have r4 : (am_pI (am_pI (am_pI (am_sr σ 1 t) (m + 3) ((l * 6 + k) * 6 + q) to) (m + 4) ((l * 6 + k) * 6 + q) ((am_sr σ 1 t).1 m 14)) m 3 ((am_sr σ 1 t).1 m 3 + 1)).1 (m + 4) = am_u1 (σ.1 (m + 4)) ((l * 6 + k) * 6 + q) (σ.1 m 14) := by rw [am_pI_of (by omega), am_pI_row, am_pI_of (by omega), am_sr_of (by omega), em]
    have ro : am_only (cm_A m) σ (am_pI (am_pI (am_pI (am_sr σ 1 t) (m + 3) ((l * 6 + k) * 6 + q) to) (m + 4) ((l * 6 + k) * 6 + q) ((am_sr σ 1 t).1 m 14)) m 3 ((am_sr σ 1 t).1 m 3 + 1)) := (((am_only.sr (by simp)).trans (am_only.pI (by simp))).trans (am_only.pI (by simp))).trans (am_only.pI (by simp))
    generalize hτ : am_pI (am_pI (am_pI (am_sr σ 1 t) (m + 3) ((l * 6 + k) * 6 + q) to) (m + 4) ((l * 6 + k) * 6 + q) ((am_sr σ 1 t).1 m 14)) m 3 ((am_sr σ 1 t).1 m 3 + 1) = τ at g0 r0 r3 r4 ro ⊢
    have rr : ∀ a, a ≠ m → a ≠ m + 3 → a ≠ m + 4 → a ≠ 1 → τ.1 a = σ.1 a := fun a y0 y1 y2 y3 => by rw [g0 a y0 y1 y2, am_sr_of y3]
    have rt : τ.1 1 = t := by rw [g0 1 (by omega) (by omega) (by omega), am_sr_at]
    have rm : ∀ j, j ≠ 3 → τ.1 m j = σ.1 m j := fun j hj => by rw [r0, am_u1_ne hj]
    have hrem := sl_rem_rg []
    refine loop (pm_R P).toNat 0 true p5 0 [] [] τ (by omega) rfl (fun _ => ⟨rfl, by omega⟩) (fun z => nomatch z) ⟨⟨ro, by rw [rt]; exact h, by omega⟩, ⟨by rw [rr 3 (by omega) (by omega) (by omega) (by omega)]; exact h31, by omega, by omega, by rw [rr 3 (by omega) (by omega) (by omega) (by omega), h32]; exact cm_seen_0⟩, ⟨fun j hj => rm j (fun z => hj (by rw [z]; decide)), by rw [r0, am_u1_eq], by rw [rm 14 (by decide)]; show _ = _ + ((0 : Nat) : Int); omega⟩, ⟨by rw [rm 15 (by decide)]; exact n3, by rw [rm 15 (by decide)]; omega, by rw [rm 14 (by decide), rm 15 (by decide), rr (m + 7) (by omega) (by omega) (by omega) (by omega)]; exact n5⟩, ⟨rr _ (by omega) (by omega) (by omega) (by omega), rr _ (by omega) (by omega) (by omega) (by omega), r3, r4, rr _ (by omega) (by omega) (by omega) (by omega)⟩, fun e w => cm_X_of (rr _ (by omega) (by omega) (by omega) (by omega)) (rr _ (by omega) (by omega) (by omega) (by omega)) (rm 14 (by decide)) (rm 15 (by decide)), fun j hj => absurd hj (Nat.not_lt_zero _)⟩ hX
  have := M _ hg
  rw [am_sr_self] at this
  exact this
end
