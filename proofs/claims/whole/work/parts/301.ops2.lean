section
/-- what safe answers -/
def sf_A (M : ab_M) (j k x : Int) : Prop := match ab_t M j, ab_t M k with
  | some P, some Q => if (pm_S P ≤ 3 ∧ pm_R P ≤ 2) ∧ pm_S Q ≤ 2 then (x = 0 ∧ sf_bad P Q) ∨ (x = 1 ∧ ¬ sf_bad P Q) else x = -1
  | _, _ => x = -1
theorem sf_A_eq {M : ab_M} {j k x y : Int} (hx : sf_A M j k x) (hy : sf_A M j k y) : x = y := by
  unfold sf_A at hx hy
  cases h1 : ab_t M j with
  | none =>
    rw [h1] at hx hy
    exact (show x = -1 from hx).trans (show y = -1 from hy).symm
  | some P =>
    cases h2 : ab_t M k with
    | none =>
      rw [h1, h2] at hx hy
      exact (show x = -1 from hx).trans (show y = -1 from hy).symm
    | some Q =>
      rw [h1, h2] at hx hy
      dsimp only at hx hy
      split at hx
      · rename_i c
        rw [if_pos c] at hy
        rcases hx with ⟨a1, a2⟩ | ⟨a1, a2⟩
        · rcases hy with ⟨b1, b2⟩ | ⟨b1, b2⟩
          · omega
          · exact absurd a2 b2
        · rcases hy with ⟨b1, b2⟩ | ⟨b1, b2⟩
          · exact absurd b2 a2
          · omega
      · rename_i c
        rw [if_neg c] at hy
        omega
variable {G : am_G} {σ : am_D} {M : ab_M}
theorem c_xsafe (d : Nat) {j k : Int} (hj : -2147483648 ≤ j ∧ j ≤ 2147483647) (hk : -2147483648 ≤ k ∧ k ≤ 2147483647) (hM : cx_M σ M) (hw : ab_w M) (hJ : sk_J (σ.1 33)) : am_MI G (d + 7) mX10_safe [am_r (some 0), am_i j, am_i k] σ (fun x σ' => sf_A M j k x ∧ cq_g σ σ') := by
  refine am_M.go (by decide) (Nat.le_of_ble_eq_true rfl) rfl ?_
  refine S_X10_safe_0 (c_told _ hj hM) ?_
  rintro o1 _ ⟨h1, rfl⟩
  refine S_X10_safe_6 (c_told _ hk hM) ?_
  rintro o2 _ ⟨h2, rfl⟩
  rcases h1 with ⟨rfl, h1⟩ | ⟨m1, P, rfl, h1, hP⟩
  · refine S_X10_safe_13 (fun _ => S_X10_safe_22 ⟨?_, cq_g.rfl'⟩) (fun a z => nomatch z)
    unfold sf_A
    rw [h1]
  refine S_X10_safe_13 (fun z => nomatch z) (fun _ _ => ?_)
  rcases h2 with ⟨rfl, h2⟩ | ⟨m2, Q, rfl, h2, hQ⟩
  · refine S_X10_safe_17 (fun _ => S_X10_safe_22 ⟨?_, cq_g.rfl'⟩) (fun a z => nomatch z)
    unfold sf_A
    rw [h1, h2]
  refine S_X10_safe_17 (fun z => nomatch z) (fun _ _ => ?_)
  have a0 := hP.2.1.1.1
  have a1 := hP.2.1.1.2.1
  have b0 := hQ.2.1.1.1
  have p1 := hP.2.2.2.1.1
  have p2 := hP.2.2.2.1.2.1
  have q1 := hQ.2.2.2.1.1
  have hdm : pm_dm Q := by
    unfold ab_t at h2
    split at h2
    · exact (hw k Q h2).2.2
    · exact nomatch h2
  have no : ¬ ((pm_S P ≤ 3 ∧ pm_R P ≤ 2) ∧ pm_S Q ≤ 2) → sf_A M j k (-1) := by
    intro h
    unfold sf_A
    rw [h1, h2]
    dsimp only
    rw [if_neg h]
  refine S_X10_safe_24 hP.1 (by omega) (fun z => S_X10_safe_49 ⟨no (by omega), cq_g.rfl'⟩) (fun z1 => ?_)
  refine S_X10_safe_32 hP.1 (by omega) (fun z => S_X10_safe_49 ⟨no (by omega), cq_g.rfl'⟩) (fun z2 => ?_)
  refine S_X10_safe_40 hQ.1 (by omega) (fun z3 => ?_) (fun z => S_X10_safe_49 ⟨no (by omega), cq_g.rfl'⟩)
  have hm : sv_m P Q := ⟨⟨hP.2.2.2.1, hP.2.2.2.2, by omega, by omega⟩, hQ.2.2.2.1, by omega, hdm⟩
  refine S_X10_safe_51 (c_neverSpoils _ hP hQ hm hJ) ?_
  rintro x τ ⟨hx, hf⟩
  have yes : ((x = 0 ∧ sf_bad P Q) ∨ (x = 1 ∧ ¬ sf_bad P Q)) → sf_A M j k x := by
    intro h
    unfold sf_A
    rw [h1, h2]
    dsimp only
    rw [if_pos (by omega)]
    exact h
  rcases hx with ⟨rfl, hb⟩ | ⟨rfl, hb⟩
  · exact S_X10_safe_61 (by decide) (fun _ => S_X10_safe_68 (S_X10_safe_69 ⟨yes (Or.inl ⟨rfl, hb⟩), hf.cq⟩)) (fun z => absurd rfl z)
  · exact S_X10_safe_61 (by decide) (fun z => absurd z (by decide)) (fun _ => S_X10_safe_64 (S_X10_safe_69 ⟨yes (Or.inr ⟨rfl, hb⟩), hf.cq⟩))
/-! The reference. -/
theorem am_mI {d : Nat} {Mx : am_Me} {as : List am_V} {Q Q' : Int → am_D → Prop} (h : am_MI G d Mx as σ Q) (hq : ∀ x σ', Q x σ' → Q' x σ') : am_MI G d Mx as σ Q' := am_M.mono h (fun _ _ ⟨x, σ', e1, e2, e3⟩ => ⟨x, σ', e1, e2, hq x σ' e3⟩)
theorem am_mJ {d : Nat} {Mx : am_Me} {as : List am_V} {Q Q' : Int64 → am_D → Prop} (h : am_MJ G d Mx as σ Q) (hq : ∀ x σ', Q x σ' → Q' x σ') : am_MJ G d Mx as σ Q' := am_M.mono h (fun _ _ ⟨x, σ', e1, e2, e3⟩ => ⟨x, σ', e1, e2, hq x σ' e3⟩)
theorem rx_93 (h : rx_M σ M) : ∀ j : Int, 0 ≤ j → j ≤ 3 → σ.1 93 j = 0 ∨ σ.1 93 j = 1 := fun j h0 h1 => by
  rcases h j h0 (by omega) with ⟨a, -⟩ | ⟨a, -⟩
  · exact Or.inl a
  · exact Or.inr a
theorem rx_t (h : rx_M σ M) (hw : ab_w M) (k : Int) : (¬ rt_k σ k ∧ ab_t M k = none) ∨ (rt_k σ k ∧ ∃ P, ab_t M k = some P ∧ rm_T σ k P ∧ ab_g P) := by
  unfold ab_t
  by_cases z : 0 ≤ k ∧ k < 4
  · rw [if_pos z]
    rcases h k z.1 z.2 with ⟨a, b⟩ | ⟨a, P, b, c⟩
    · exact Or.inl ⟨fun w => by have := w.2; omega, b⟩
    · exact Or.inr ⟨⟨by omega, a⟩, P, b, c, hw k P b⟩
  · rw [if_neg z]
    exact Or.inl ⟨fun w => by have := w.1; omega, rfl⟩
/-- a P to speak of -/
theorem rx_P (h : rx_M σ M) (hw : ab_w M) (k : Int) : ∃ P, (rt_k σ k → ab_t M k = some P ∧ rm_T σ k P ∧ ab_g P) ∧ (¬ rt_k σ k → ab_t M k = none) := by
  rcases rx_t h hw k with ⟨a, b⟩ | ⟨a, P, b, c, e⟩
  · exact ⟨pm_0 1 1, fun z => absurd z a, fun _ => b⟩
  · exact ⟨P, fun _ => ⟨b, c, e⟩, fun z => absurd a z⟩
theorem r_xstates (d : Nat) {k : Int} (hk : -2147483648 ≤ k ∧ k ≤ 2147483647) (hM : rx_M σ M) (hw : ab_w M) : am_MI G (d + 4) mX11_states [am_r (some 91), am_i k] σ (fun x σ' => x = an_s M k ∧ wj_o [129] σ σ') := by
  obtain ⟨P, h1, h2⟩ := rx_P hM hw k
  refine am_mI (r_states d hk (rx_93 hM) (fun z => (h1 z).2.1) (fun z => (h1 z).2.2.1)) (fun x τ h => ?_)
  obtain ⟨hx, hf⟩ := h
  refine ⟨?_, hf⟩
  unfold an_s
  rcases hx with ⟨a, rfl⟩ | ⟨a, rfl⟩
  · rw [(h1 a).1]
  · rw [h2 a]
theorem r_xleast (d : Nat) {k : Int} (hk : -2147483648 ≤ k ∧ k ≤ 2147483647) (hM : rx_M σ M) (hw : ab_w M) : am_MI G (d + 4) mX11_least [am_r (some 91), am_i k] σ (fun x σ' => x = an_l M k ∧ wj_o [129] σ σ') := by
  obtain ⟨P, h1, h2⟩ := rx_P hM hw k
  refine am_mI (r_least d hk (rx_93 hM) (fun z => (h1 z).2.1) (fun z => (h1 z).2.2.1)) (fun x τ h => ?_)
  obtain ⟨hx, hf⟩ := h
  refine ⟨?_, hf⟩
  unfold an_l
  rcases hx with ⟨a, rfl⟩ | ⟨a, rfl⟩
  · rw [(h1 a).1]
  · rw [h2 a]
theorem r_xmany (d : Nat) {k n : Int} (hk : -2147483648 ≤ k ∧ k ≤ 2147483647) (hn : -2147483648 ≤ n ∧ n ≤ 2147483647) (hM : rx_M σ M) (hw : ab_w M) : am_MJ G (d + 3) mX11_many [am_r (some 91), am_i k, am_i n] σ (fun x σ' => x = an_m M k n ∧ wj_o [130] σ σ') := by
  obtain ⟨P, h1, h2⟩ := rx_P hM hw k
  refine am_mJ (r_many d hk hn (rx_93 hM) (fun z => (h1 z).2.1) (fun z => (h1 z).2.2.1)) (fun x τ h => ?_)
  obtain ⟨hx, hf⟩ := h
  refine ⟨?_, hf⟩
  unfold an_m
  rcases hx with ⟨⟨a, b⟩, rfl⟩ | ⟨a, rfl⟩
  · rw [(h1 a).1]
    dsimp only
    rw [if_pos b]
  · by_cases z : rt_k σ k
    · rw [(h1 z).1]
      dsimp only
      rw [if_neg (fun w => a ⟨z, w⟩)]
    · rw [h2 z]
/-- the document of the reference -/
def rx_Dc (σ : am_D) (doc : List Int) : Prop := σ.1 91 25 = doc.length ∧ am_isL (σ.1 107) doc
theorem r_xfind (d : Nat) {j k n : Int} {b : Bool} {doc : List Int} (hj : -2147483648 ≤ j ∧ j ≤ 2147483647) (hk : -2147483648 ≤ k ∧ k ≤ 2147483647) (hn : -2147483648 ≤ n ∧ n ≤ 2147483647) (hM : rx_M σ M) (hw : ab_w M) (hD : rx_Dc σ doc) : am_MI G (d + 17) mX11_found [am_r (some 91), am_i j, am_i k, am_i n, am_i (sb_i b)] σ (fun x σ' => x = an_fi M b j k n ∧ rx_Dc σ' (an_fd M b j k n doc) ∧ rs_g σ σ') := by
  obtain ⟨P, h1, h2⟩ := rx_P hM hw j
  obtain ⟨Q, g1, g2⟩ := rx_P hM hw k
  refine am_mI (r_found d (P := P) (Q := Q) (b := b) hj hk hn (rx_93 hM) (fun a c => ⟨⟨by have := a.1; omega, by have := c.1; omega⟩, ⟨(h1 a).2.1, (h1 a).2.2.1, (h1 a).2.2.2.1⟩, (g1 c).2.1, (g1 c).2.2.1, (g1 c).2.2.2.1⟩)) (fun x τ h => ?_)
  have gr : rs_g σ σ := (rs_f.rfl' : rs_f [127, 128, 131] σ σ).g
  rcases h with ⟨a, rfl, rfl⟩ | ⟨⟨⟨a, c⟩, n0, n1⟩, e, rfl, hf⟩ | ⟨⟨⟨a, c⟩, n0, n1⟩, el, w, e, rfl, hg, e1, e2, e3, e4, e5⟩
  · have hno : ¬ ((ab_t M j).isSome ∧ (ab_t M k).isSome ∧ 0 ≤ n ∧ n ≤ 4) := by
      rintro ⟨y1, y2, y3, y4⟩
      refine a ⟨⟨?_, ?_⟩, y3, y4⟩
      · exact Classical.byContradiction (fun z => by rw [h2 z] at y1; exact absurd y1 (by decide))
      · exact Classical.byContradiction (fun z => by rw [g2 z] at y2; exact absurd y2 (by decide))
    refine ⟨by unfold an_fi; rw [if_neg hno], ?_, gr⟩
    unfold an_fd
    rw [if_neg hno]
    exact hD
  · have hyes : (ab_t M j).isSome ∧ (ab_t M k).isSome ∧ 0 ≤ n ∧ n ≤ 4 := by rw [(h1 a).1, (g1 c).1]; exact ⟨rfl, rfl, n0, n1⟩
    have hf' := an_f_some (n := n) (b := b) (h1 a).1 (g1 c).1
    refine ⟨by unfold an_fi; rw [if_pos hyes, hf', e], ?_, hf.g⟩
    unfold an_fd
    rw [if_pos hyes, hf', e]
    exact ⟨by rw [hf.2.1 25 (by decide)]; exact hD.1, by rw [hf.1.1 107 (by decide)]; exact hD.2⟩
  · have hyes : (ab_t M j).isSome ∧ (ab_t M k).isSome ∧ 0 ≤ n ∧ n ≤ 4 := by rw [(h1 a).1, (g1 c).1]; exact ⟨rfl, rfl, n0, n1⟩
    have hf' := an_f_some (n := n) (b := b) (h1 a).1 (g1 c).1
    refine ⟨by unfold an_fi; rw [if_pos hyes, hf', e], ?_, hg⟩
    unfold an_fd
    rw [if_pos hyes, hf', e]
    exact ⟨e1, e2⟩
theorem r_xdiffer (d : Nat) {j k n : Int} {doc : List Int} (hj : -2147483648 ≤ j ∧ j ≤ 2147483647) (hk : -2147483648 ≤ k ∧ k ≤ 2147483647) (hn : -2147483648 ≤ n ∧ n ≤ 2147483647) (hM : rx_M σ M) (hw : ab_w M) (hD : rx_Dc σ doc) : am_MI G (d + 18) mX11_differ [am_r (some 91), am_i j, am_i k, am_i n] σ (fun x σ' => x = an_fi M false j k n ∧ rx_Dc σ' (an_fd M false j k n doc) ∧ rs_g σ σ') := by
  refine am_M.go (by decide) (Nat.le_of_ble_eq_true rfl) rfl ?_
  exact S_X11_differ_0 (r_xfind (b := false) _ hj hk hn hM hw hD) (fun x τ h => h)
theorem r_xspoils (d : Nat) {j k n : Int} {doc : List Int} (hj : -2147483648 ≤ j ∧ j ≤ 2147483647) (hk : -2147483648 ≤ k ∧ k ≤ 2147483647) (hn : -2147483648 ≤ n ∧ n ≤ 2147483647) (hM : rx_M σ M) (hw : ab_w M) (hD : rx_Dc σ doc) : am_MI G (d + 18) mX11_spoils [am_r (some 91), am_i j, am_i k, am_i n] σ (fun x σ' => x = an_fi M true j k n ∧ rx_Dc σ' (an_fd M true j k n doc) ∧ rs_g σ σ') := by
  refine am_M.go (by decide) (Nat.le_of_ble_eq_true rfl) rfl ?_
  exact S_X11_spoils_0 (r_xfind (b := true) _ hj hk hn hM hw hD) (fun x τ h => h)
theorem r_xsafe (d : Nat) {j k : Int} (hj : -2147483648 ≤ j ∧ j ≤ 2147483647) (hk : -2147483648 ≤ k ∧ k ≤ 2147483647) (hM : rx_M σ M) (hw : ab_w M) : am_MI G (d + 6) mX11_safe [am_r (some 91), am_i j, am_i k] σ (fun x σ' => sf_A M j k x ∧ am_only rk_F σ σ') := by
  obtain ⟨P, h1, h2⟩ := rx_P hM hw j
  obtain ⟨Q, g1, g2⟩ := rx_P hM hw k
  refine am_mI (r_safe d (P := P) (Q := Q) hj hk (rx_93 hM) (fun a => ⟨(h1 a).2.1, (h1 a).2.2.1, (h1 a).2.2.2.1⟩) (fun a => ⟨(g1 a).2.1, (g1 a).2.2.1, (g1 a).2.2.2.2⟩)) (fun x τ h => ?_)
  unfold sf_A
  rcases h with ⟨a, rfl, rfl⟩ | ⟨⟨⟨a, c⟩, e⟩, hx, hf⟩
  · refine ⟨?_, am_only.rfl'⟩
    by_cases z : rt_k σ j
    · by_cases y : rt_k σ k
      · rw [(h1 z).1, (g1 y).1]
        dsimp only
        rw [if_neg (fun w => a ⟨⟨z, y⟩, w⟩)]
      · rw [(h1 z).1, g2 y]
    · rw [h2 z]
  · rw [(h1 a).1, (g1 c).1]
    dsimp only
    rw [if_pos e]
    exact ⟨hx, hf⟩
end
