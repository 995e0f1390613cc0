section
variable {G : am_G} {σ : am_D}
/-- the kinds that stand in a row of two -/
def rk_S (τ : am_D) : List (sk_K × Int) → Prop
  | [] => True
  | p :: st => (τ.1 135 st.length = sk_r p.1 ∧ τ.1 136 st.length = p.2 ∧ sk_ok p.1 ∧ 0 ≤ p.2 ∧ p.2 < 3) ∧ rk_S τ st
theorem rk_S.keep {σ τ : am_D} : ∀ {st : List (sk_K × Int)}, (∀ i : Int, i < st.length → τ.1 135 i = σ.1 135 i ∧ τ.1 136 i = σ.1 136 i) → rk_S σ st → rk_S τ st := by
  intro st
  induction st with
  | nil => intro _ _; trivial
  | cons p st ih =>
    intro h hS
    have hl : (((p :: st).length : Nat) : Int) = st.length + 1 := by rw [List.length_cons]; omega
    rw [hl] at h
    obtain ⟨e1, e2⟩ := h st.length (by omega)
    exact ⟨⟨by rw [e1]; exact hS.1.1, by rw [e2]; exact hS.1.2.1, hS.1.2.2⟩, ih (fun i hi => h i (by omega)) hS.2⟩
def rk_V (σ : am_D) (w : List Int) (X Y : Int → sk_K) : Prop := ∀ s ∈ w, (4 ≤ s → s < 8 → σ.1 133 (s - 4) = sk_r (X (s - 4)) ∧ sk_ok (X (s - 4))) ∧ (8 ≤ s → σ.1 134 (s - 8) = sk_r (Y (s - 8)) ∧ sk_ok (Y (s - 8)))
theorem r_does (d : Nat) {Q : am_P} {s1 s2 rl r : Int} {w : List Int} {X Y : Int → sk_K} (h1 : 0 ≤ s1 ∧ s1 < 6) (h2 : 0 ≤ s2 ∧ s2 < 6) (hT : rm_T σ s2 Q) (hQ : sk_q Q) (hrl : 0 ≤ rl ∧ rl < 24) (hr : 0 ≤ r ∧ r < 3) (hX : rm_X σ s1 (3 * rl + r) w) (h97 : σ.1 97 s1 ≤ 432) (hw : sk_x w) (hV : rk_V σ w X Y) : am_MI G (d + 3) mX11_does [am_r (some 91), am_i s1, am_i s2, am_i rl, am_i r] σ (fun x σ' => x = sk_r (sk_ev Q X Y w sk_1 []) ∧ am_only [135, 136] σ σ') := by
  obtain ⟨x1, x2, x3, x4⟩ := hX
  rw [show 72 * s1 + (3 * rl + r) = 72 * s1 + 3 * rl + r by omega] at x1 x2 x3 x4
  refine am_M.go (by decide) (Nat.le_of_ble_eq_true rfl) rfl ?_
  refine S_X11_does_0 (S_X11_does_3 ?_)
  refine S_X11_does_6 (by omega) (by omega) ?_
  generalize hB : σ.1 103 (72 * s1 + 3 * rl + r) = B at *
  have loop : ∀ (u pre : List Int) (k : sk_K) (st : List (sk_K × Int)) (τ : am_D), w = pre ++ u → am_only [135, 136] σ τ → sk_m u st.length → rk_S τ st → sk_ok k → sk_ev Q X Y u k st = sk_ev Q X Y w sk_1 [] → am_X (am_FI G (d + 3) (fun x σ' => x = sk_r (sk_ev Q X Y w sk_1 []) ∧ am_only [135, 136] σ σ')) mX11_does (0, 0) 24 [some (am_r (some 91)), some (am_i s1), some (am_i s2), some (am_i rl), some (am_i r), some (am_i (sk_r k)), some (am_i st.length), some (am_i (B + pre.length)), none, none] [] (am_K0, τ) := by
    intro u
    induction u with
    | nil =>
      intro pre k st τ hp ho hm hS hk he
      rw [List.append_nil] at hp
      subst hp
      have e104 : τ.1 104 (72 * s1 + 3 * rl + r) = B + w.length := by rw [ho.1 104 (by decide)]; exact x2
      refine S_X11_does_24 (by omega) (by omega) (by omega) (by rw [e104]; omega) (fun _ => ?_) (fun z => absurd (by rw [e104]; omega) z)
      refine S_X11_does_200 ⟨?_, ho⟩
      rw [← he]
      rfl
    | cons s u ih =>
      intro pre k st τ hp ho hm hS hk he
      have hlw : w.length = pre.length + (u.length + 1) := by rw [hp, List.length_append]; rfl
      have hsw : s ∈ w := by rw [hp]; simp
      have hst : st.length ≤ 6 := by have := hm.2.2; omega
      have hsr := hm.1 s List.mem_cons_self
      have e104 : τ.1 104 (72 * s1 + 3 * rl + r) = B + w.length := by rw [ho.1 104 (by decide)]; exact x2
      have e106 : τ.1 106 (600 * s1 + (B + pre.length)) = rx_c s := by
        rw [ho.1 106 (by decide), show 600 * s1 + (B + (pre.length : Int)) = 600 * s1 + B + pre.length by omega, x4 pre.length (by omega), hp, List.getD_eq_getElem?_getD, List.getElem?_append_right (Nat.le_refl _), Nat.sub_self]
        rfl
      have hTτ : rm_T τ s2 Q := rm_T_move hQ.1 hT (fun a y1 y2 j _ _ => by rw [ho.1 a (by simp; omega)])
      obtain ⟨v1, v2⟩ := hV s hsw
      have hlen1 : (((pre ++ [s]).length : Nat) : Int) = pre.length + 1 := by rw [List.length_append]; rfl
      have hpp : w = (pre ++ [s]) ++ u := by rw [hp]; simp
      refine S_X11_does_24 (by omega) (by omega) (by omega) (by rw [e104]; omega) (fun z => absurd z (by rw [e104]; omega)) (fun _ => ?_)
      refine S_X11_does_45 (by omega) (by omega) ?_
      rw [e106]
      have next : ∀ (k' : sk_K) (st' : List (sk_K × Int)) (n' : Int) (τ' : am_D), n' = st'.length → am_only [135, 136] σ τ' → sk_m u st'.length → rk_S τ' st' → sk_ok k' → sk_ev Q X Y u k' st' = sk_ev Q X Y (s :: u) k st → am_X (am_FI G (d + 3) (fun x σ' => x = sk_r (sk_ev Q X Y w sk_1 []) ∧ am_only [135, 136] σ σ')) mX11_does (0, 0) 194 [some (am_r (some 91)), some (am_i s1), some (am_i s2), some (am_i rl), some (am_i r), some (am_i (sk_r k')), some (am_i n'), some (am_i (B + pre.length)), none, none] [] (am_K0, τ') := by
        intro k' st' n' τ' hn' ho' hm' hS' hk' he'
        refine S_X11_does_194 ?_
        have := ih (pre ++ [s]) k' st' τ' hpp ho' hm' hS' hk' (he'.trans he)
        rw [hlen1, ← hn', ← Int.add_assoc] at this
        exact this
      have hrx : rx_c s = (if s < 4 then s else if s < 8 then s + 6 else s + 12) := rfl
      by_cases z8 : 8 ≤ s
      · obtain ⟨v2a, v2b⟩ := v2 z8
        rw [if_neg (by omega), if_neg (by omega)] at hrx
        refine S_X11_does_60 (by omega) (fun z => absurd z (by omega)) (fun _ => ?_)
        have e134 : τ.1 134 (rx_c s - 20) = sk_r (Y (s - 8)) := by rw [ho.1 134 (by decide), show rx_c s - 20 = s - 8 by omega]; exact v2a
        have ht := r_then (G := G) (σ := τ) d hk v2b
        rw [← e134] at ht
        refine S_X11_does_67 (by omega) (by omega) ht ?_
        rintro _ _ ⟨rfl, rfl⟩
        refine S_X11_does_84 (next _ st _ τ rfl ho (hm.r (by omega)) hS (sk_ok_th v2b) ?_)
        conv => rhs; unfold sk_ev
        rw [if_neg (by omega), if_neg (by omega), if_neg (by omega)]
      by_cases z4 : 4 ≤ s
      · obtain ⟨v1a, v1b⟩ := v1 z4 (by omega)
        rw [if_neg (by omega), if_pos (by omega)] at hrx
        refine S_X11_does_60 (by omega) (fun _ => ?_) (fun z => absurd (by omega) z)
        refine S_X11_does_87 (by omega) (fun z => absurd z (by omega)) (fun _ => ?_)
        have e133 : τ.1 133 (rx_c s - 10) = sk_r (X (s - 4)) := by rw [ho.1 133 (by decide), show rx_c s - 10 = s - 4 by omega]; exact v1a
        have ht := r_then (G := G) (σ := τ) d hk v1b
        rw [← e133] at ht
        refine S_X11_does_94 (by omega) (by omega) ht ?_
        rintro _ _ ⟨rfl, rfl⟩
        refine S_X11_does_111 (next _ st _ τ rfl ho (hm.r (by omega)) hS (sk_ok_th v1b) ?_)
        conv => rhs; unfold sk_ev
        rw [if_neg (by omega), if_neg (by omega), if_pos (by omega)]
      rw [if_pos (by omega)] at hrx
      rw [hrx]
      refine S_X11_does_60 (by omega) (fun _ => ?_) (fun z => absurd (by omega) z)
      refine S_X11_does_87 (by omega) (fun _ => ?_) (fun z => absurd (by omega) z)
      refine S_X11_does_114 (by omega) (fun z => ?_) (fun z => ?_)
      · obtain ⟨n, hn, hm'⟩ := hm.c z
        cases st with
        | nil => exact absurd hn (by simp)
        | cons p st =>
        have hl : (((p :: st).length : Nat) : Int) = st.length + 1 := by rw [List.length_cons]; omega
        have hn : st.length = n := by rw [List.length_cons] at hn; omega
        subst hn
        obtain ⟨⟨y1, y2, y3, y4, y5⟩, hS'⟩ := hS
        rw [List.length_cons] at hst
        rw [hl]
        refine S_X11_does_147 ?_
        rw [show (st.length : Int) + 1 + -1 = st.length by omega]
        refine S_X11_does_150 (by omega) (by omega) ?_
        rw [y2]
        refine S_X11_does_159 (by omega) (by omega) (r_within _ h2 hTτ hQ ⟨y4, y5⟩ (by omega) hk) ?_
        rintro _ _ ⟨rfl, rfl⟩
        refine S_X11_does_176 (r_within _ h2 hTτ hQ ⟨y4, y5⟩ (by omega) hk) ?_
        rintro _ _ ⟨rfl, rfl⟩
        rw [y1]
        refine S_X11_does_187 (r_then (G := G) (σ := τ) d (k := p.1) (j := sk_wr Q p.2 k) y3 (sk_ok_wr hQ)) ?_
        rintro _ _ ⟨rfl, rfl⟩
        refine next _ st _ τ rfl ho hm' hS' (sk_ok_th (sk_ok_wr hQ)) ?_
        conv => rhs; unfold sk_ev
        rw [if_neg (by omega), if_pos z]
      · have hs3 : s < 3 := by omega
        obtain ⟨hm', hn6⟩ := hm.o hs3
        refine S_X11_does_120 (by omega) (by omega) ?_
        refine S_X11_does_129 (by omega) (by omega) ?_
        refine S_X11_does_138 (S_X11_does_141 ?_)
        refine next sk_1 ((k, s) :: st) _ _ (by rw [List.length_cons]; omega) ((ho.trans (am_only.pI (by decide))).trans (am_only.pI (by decide))) (by rw [List.length_cons]; exact hm') ⟨⟨?_, ?_, hk, by omega, hs3⟩, ?_⟩ sk_ok_1 ?_
        · rw [am_pI_of (by decide), am_pI_at]
        · rw [am_pI_at]
        · refine hS.keep (fun i hi => ⟨?_, ?_⟩)
          · rw [am_pI_of (by decide), am_pI_nj (by omega)]
          · rw [am_pI_nj (by omega), am_pI_of (by decide)]
        · conv => rhs; unfold sk_ev
          rw [if_pos hs3]
  have := loop w [] sk_1 [] σ rfl am_only.rfl' hw.m trivial sk_ok_1 rfl
  rw [show B + (([] : List Int).length : Int) = B from Int.add_zero B] at this
  exact this
end
