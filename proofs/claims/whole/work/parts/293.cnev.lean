section
variable {G : am_G} {σ : am_D}
/-- what Safety may change -/
def cn_fr (m1 m2 : Nat) (σ τ : am_D) : Prop := (∀ a, a ∉ 34 :: cn_F → τ.1 a = σ.1 a) ∧ τ.2.1 = σ.2.1 ∧ τ.2.2 = am_up (am_up σ.2.2 31 10 (some m1)) 31 11 (some m2)
theorem cn_fr.only {m1 m2 : Nat} {σ τ υ : am_D} (h : cn_fr m1 m2 σ τ) (h' : am_only cn_F τ υ) : cn_fr m1 m2 σ υ := ⟨fun a ha => (h'.1 a (fun z => ha (List.mem_cons_of_mem _ z))).trans (h.1 a ha), by rw [h'.2]; exact h.2.1, by rw [h'.2]; exact h.2.2⟩
theorem c_sstart (d : Nat) {P Q : am_P} {m1 m2 : Nat} (hM1 : cd_M σ m1 P) (hM2 : cd_M σ m2 Q) (hm : sv_m P Q) (hJ : sk_J (σ.1 33)) : am_MV G (d + 4) mX4_start [am_r (some 31), am_r (some m1), am_r (some m2)] σ (fun σ' => cn_M σ' m1 m2 P Q ∧ cn_I P Q σ' [] ∧ (∀ b : Int, 0 ≤ b → b < 3 → σ'.1 37 b = -1 ∧ σ'.1 38 b = -1) ∧ cn_fr m1 m2 σ σ') := by
  have k1 := hM1.1.1
  have k2 := hM2.1.1
  refine am_M.go (by decide) (Nat.le_of_ble_eq_true rfl) rfl ?_
  refine S_X4_start_0 (S_X4_start_5 ?_)
  generalize hρ : am_pR (am_pR σ 31 10 (some m1)) 31 11 (some m2) = ρ
  have e1 : ρ.1 = σ.1 := by rw [← hρ]
  have e2 : ρ.2.1 = σ.2.1 := by rw [← hρ]
  have e3 : ρ.2.2 = am_up (am_up σ.2.2 31 10 (some m1)) 31 11 (some m2) := by rw [← hρ]
  refine S_X4_start_10 (c_learn _ (cd_M_of (fun b _ _ => by rw [e1]) hM2) hm.2.2.1) ?_
  rintro τ ⟨hf, hA⟩
  refine S_X4_start_18 (S_X4_start_23 ?_)
  have loop : ∀ (n : Nat) (v : Int) (υ : am_D), v + n = 4096 → 0 ≤ v → am_only [31, 35] τ υ → υ.1 31 3 = 0 → (∀ c : Int, 0 ≤ c → c < v → υ.1 35 c = 0) → am_X (am_FV G (d + 4) (fun σ' => cn_M σ' m1 m2 P Q ∧ cn_I P Q σ' [] ∧ (∀ b : Int, 0 ≤ b → b < 3 → σ'.1 37 b = -1 ∧ σ'.1 38 b = -1) ∧ cn_fr m1 m2 σ σ')) mX4_start (0, 0) 25 [some (am_r (some 31)), none, none, some (am_i v)] [] (am_K0, υ) := by
    intro n
    induction n with
    | zero =>
      intro v υ hn hv ho h3 h35
      refine S_X4_start_25 (by omega) (fun _ => ?_) (fun z => absurd (by omega) z)
      refine S_X4_start_47 (c_fill _ sh_37) ?_
      intro υ1 h1
      refine S_X4_start_55 (c_fill _ sh_38) ?_
      intro υ2 h2
      have a1 : ∀ a, a ≠ 37 → a ≠ 38 → υ2.1 a = υ.1 a := by
        intro a y1 y2
        rw [h2, h1]
        funext j
        show am_fl (am_fl υ.1 37 (3 : Nat) (-1)) 38 (3 : Nat) (-1) a j = _
        unfold am_fl
        rw [if_neg (fun w => y2 w.1), if_neg (fun w => y1 w.1)]
      have a2 : ∀ b : Int, 0 ≤ b → b < 3 → υ2.1 37 b = -1 ∧ υ2.1 38 b = -1 := by
        intro b b0 b1
        rw [h2, h1]
        constructor
        · show am_fl (am_fl υ.1 37 (3 : Nat) (-1)) 38 (3 : Nat) (-1) 37 b = _
          unfold am_fl
          rw [if_neg (fun w => absurd w.1 (by decide)), if_pos ⟨rfl, b0, b1⟩]
        · show am_fl (am_fl υ.1 37 (3 : Nat) (-1)) 38 (3 : Nat) (-1) 38 b = _
          unfold am_fl
          rw [if_pos ⟨rfl, b0, b1⟩]
      have a3 : υ2.2 = ρ.2 := by
        rw [h2, h1]
        show υ.2 = _
        rw [ho.2, hf.2]
      have a4 : ∀ a, a ∉ [31, 34, 35, 37, 38] → υ2.1 a = σ.1 a := by
        intro a ha
        simp at ha
        rw [a1 a (by omega) (by omega), ho.1 a (by simp; omega), hf.1 a (by simp; omega), e1]
      refine S_X4_start_63 ⟨⟨⟨?_, ?_⟩, ⟨cd_M_of (fun b y1 y2 => a4 b (by simp; omega)) hM1, cd_M_of (fun b y1 y2 => a4 b (by simp; omega)) hM2⟩, hm, ?_, ?_⟩, ⟨⟨?_, fun i hi => absurd hi (Nat.not_lt_zero _)⟩, fun c c0 c1 => ?_, List.nodup_nil, fun x hx => (by cases hx)⟩, a2, ?_, ?_, ?_⟩
      · rw [a3, e3, am_up_nj (by decide), am_up_at]
      · rw [a3, e3, am_up_at]
      · rw [a4 33 (by decide)]; exact hJ
      · rw [a1 34 (by decide) (by decide), ho.1 34 (by decide)]; exact hA
      · rw [a1 31 (by decide) (by decide), h3]; rfl
      · rw [a1 35 (by decide) (by decide), h35 c c0 (by omega)]; rfl
      · intro a ha
        refine a4 a (fun z => ha ?_)
        simp at z ⊢
        omega
      · rw [a3]; exact e2
      · rw [a3]; exact e3
    | succ n ih =>
      intro v υ hn hv ho h3 h35
      refine S_X4_start_25 (by omega) (fun z => absurd z (by omega)) (fun _ => ?_)
      refine S_X4_start_34 hv (by omega) ?_
      refine S_X4_start_41 ?_
      refine ih (v + 1) _ (by omega) (by omega) (ho.trans (am_only.pI (by decide))) (by rw [am_pI_of (by decide)]; exact h3) (fun c c0 c1 => ?_)
      rw [am_pI_row]
      by_cases e : c = v
      · rw [e, am_u1_eq]
      · rw [am_u1_ne e]; exact h35 c c0 (by omega)
  exact loop 4096 0 _ (by omega) (by omega) (am_only.pI (by decide)) am_pI_at (fun c c0 c1 => by omega)
/-- done up to k -/
def cn_D (P Q : am_P) (F : List sv_S) (k : Nat) : Prop := (∀ j, j < k → ∀ l, 0 ≤ l → l < 3 → pm_oT P l (sv_g F j).1.2 ≠ -1 → sv_1 (pm_oT P l (sv_g F j).1.2) ∈ F) ∧ (∀ l j j' y, 0 ≤ l → l < 3 → j < k → j' < k → pm_oT P l (sv_g F j).1.2 = (sv_g F j').1.1 → sv_n P Q l (sv_g F j) (sv_g F j') = some y → y ∈ F) ∧ ∀ j, j < k → (sv_g F j).1.1 = 0 → sv_e P Q (sv_g F j) = false
theorem cn_B.keep {σ τ : am_D} {F F' : List sv_S} {k : Nat} (h : cn_B σ F k) (hp : F <+: F') (hk : k ≤ F.length) (e1 : τ.1 37 = σ.1 37) (e2 : τ.1 39 = σ.1 39) : cn_B τ F' k := fun b b0 b1 => by
  rw [e1, e2, cn_js_pre hp hk]
  exact h b b0 b1
theorem cn_T.keep {σ τ : am_D} {F F' : List sv_S} {k : Nat} (h : cn_T σ F k) (hp : F <+: F') (hk : k ≤ F.length) (e1 : τ.1 38 = σ.1 38) (e2 : τ.1 40 = σ.1 40) : cn_T τ F' k := fun b b0 b1 => by
  rw [e1, e2, cn_js_pre hp hk]
  exact h b b0 b1
/-- one more in a chain -/
theorem cn_add {f h : Int → Int} {F : List sv_S} {k : Nat} {b : Int} {p : sv_S → Int} (hc : ∀ q : Int, 0 ≤ q → q < 3 → cn_ch f (h q) (cn_js F k (fun x => decide (p x = q)))) (hb : p (sv_g F k) = b) (q : Int) (q0 : 0 ≤ q) (q1 : q < 3) : cn_ch (am_u1 f k (h b)) (am_u1 h b k q) (cn_js F (k + 1) (fun x => decide (p x = q))) := by
  have hk : ∀ js : List Nat, (∀ j ∈ js, j < k) → ∀ j ∈ js, am_u1 f k (h b) j = f j := fun js hjs j hj => am_u1_ne (by have := hjs j hj; omega)
  have hjs : ∀ j ∈ cn_js F k (fun x => decide (p x = q)), j < k := fun j hj => (cn_js_mem.mp hj).1
  rw [cn_js_s]
  by_cases e : q = b
  · subst e
    rw [if_pos (by rw [hb]; exact decide_eq_true rfl), am_u1_eq]
    refine ⟨rfl, ?_⟩
    rw [am_u1_eq]
    exact (hc q q0 q1).keep (hk _ hjs)
  · rw [if_neg (by rw [hb]; intro z; exact e (of_decide_eq_true z).symm), am_u1_ne e]
    exact (hc q q0 q1).keep (hk _ hjs)
theorem c_neverSpoils (d : Nat) {P Q : am_P} {m1 m2 : Nat} (hM1 : cd_M σ m1 P) (hM2 : cd_M σ m2 Q) (hm : sv_m P Q) (hJ : sk_J (σ.1 33)) : am_MI G (d + 6) mX4_neverSpoils [am_r (some 31), am_r (some m1), am_r (some m2)] σ (fun x σ' => ((x = 0 ∧ sf_bad P Q) ∨ (x = 1 ∧ ¬ sf_bad P Q)) ∧ cn_fr m1 m2 σ σ') := by
  have hP := hm.1.1
  have h3 := hm.1.2.2.1
  refine am_M.go (by decide) (Nat.le_of_ble_eq_true rfl) rfl ?_
  refine S_X4_neverSpoils_0 (c_sstart _ hM1 hM2 hm hJ) ?_
  rintro τ ⟨hMτ, hIτ, h37, hfr⟩
  have hs0 := c_note (G := G) (σ := τ) (d + 3) (P := P) (Q := Q) (F := []) (x := sv_1 0) (g := 68) (by show (68 : Int) = sk_c sk_1 + sk_c sk_1 * 16; decide) hIτ (sv_1_ok (by omega)) sv_C_c.1
  refine S_X4_neverSpoils_6 hs0 ?_
  rintro τ0 ⟨F0, hI0, -, hin0, hf0⟩
  refine S_X4_neverSpoils_14 ?_
  have hf0' : am_only cn_F τ τ0 := hf0.1.sub (by decide)
  generalize hQQ : (fun (x : Int) (σ' : am_D) => ((x = 0 ∧ sf_bad P Q) ∨ (x = 1 ∧ ¬ sf_bad P Q)) ∧ cn_fr m1 m2 σ σ') = QQ
  have loop : ∀ (n k : Nat) (υ : am_D) (F : List sv_S), k + n = 730 → cn_M υ m1 m2 P Q → cn_I P Q υ F → sv_1 0 ∈ F → k ≤ F.length → cn_B υ F k → cn_T υ F k → cn_D P Q F k → cn_fr m1 m2 σ υ → am_X (am_FI G (d + 6) QQ) mX4_neverSpoils (0, 0) 16 [some (am_r (some 31)), none, none, some (am_i k), none] [] (am_K0, υ) := by
    intro n
    induction n with
    | zero =>
      intro k υ F hk hM hI h0 hkF
      have := hI.le
      omega
    | succ n ih =>
      intro k υ F hk hM hI h0 hkF hB hT hD hf
      have hle := hI.le
      have e3 := hI.1.1
      by_cases z : k = F.length
      · refine S_X4_neverSpoils_16 (by omega) (by omega) (fun _ => ?_) (fun y => absurd (by omega) y)
        refine S_X4_neverSpoils_136 ?_
        rw [← hQQ]
        refine ⟨Or.inr ⟨rfl, ?_⟩, hf⟩
        rintro ⟨y, y1, y2, y3⟩
        have yC := (sv_0 hP h3 y2).mp y1
        have hyF : y ∈ F := yC (fun x => x ∈ F) ⟨h0, fun l o l0 l1 ho hot => by
          obtain ⟨j, hj, rfl⟩ := sv_mem_g ho
          exact hD.1 j (by omega) l l0 l1 hot, fun l o i x l0 l1 ho hi hot hn => by
          obtain ⟨j, hj, rfl⟩ := sv_mem_g ho
          obtain ⟨j', hj', rfl⟩ := sv_mem_g hi
          exact hD.2.1 l j j' x l0 l1 (by omega) (by omega) hot hn⟩
        obtain ⟨j, hj, rfl⟩ := sv_mem_g hyF
        rw [hD.2.2 j (by omega) y2] at y3
        exact nomatch y3
      have hkl : k < F.length := by omega
      have hmem := sv_g_mem hkl
      obtain ⟨xok, xC⟩ := hI.2.2.2 _ hmem
      have hat := hI.at hkl
      generalize hx : sv_g F k = x at *
      have g1 := xok.1
      have g2 := xok.2.1
      refine S_X4_neverSpoils_16 (by omega) (by omega) (fun y => absurd y (by omega)) (fun _ => ?_)
      refine S_X4_neverSpoils_24 (by omega) (fun y => absurd y (by omega)) (fun _ => ?_)
      refine S_X4_neverSpoils_31 (c_at _ sh_36 (by omega)) ?_
      intro x9 τ9 h9
      rw [if_pos (by omega), hat] at h9
      obtain ⟨h9, e9⟩ := h9
      subst e9
      subst h9
      refine S_X4_neverSpoils_41 (c_spoilsAtEnd _ hM xok) ?_
      rintro r υ1 ⟨hr, hf1⟩
      have hf1' : am_only cn_F υ υ1 := hf1.sub (by decide)
      rcases hr with ⟨rfl, r1, r2⟩ | ⟨rfl, hns⟩
      · refine S_X4_neverSpoils_47 (by decide) (fun y => absurd y (by decide)) (fun _ => ?_)
        refine S_X4_neverSpoils_50 ?_
        rw [← hQQ]
        exact ⟨Or.inl ⟨rfl, x, (sv_0 hP h3 r1).mpr xC, r1, r2⟩, hf.only hf1'⟩
      refine S_X4_neverSpoils_47 (by decide) (fun _ => ?_) (fun y => absurd rfl y)
      refine S_X4_neverSpoils_52 (c_beginOf _ xok) ?_
      rintro _ _ ⟨rfl, rfl⟩
      refine S_X4_neverSpoils_66 (c_at _ sh_37 (by omega)) ?_
      rintro _ _ ⟨rfl, rfl⟩
      rw [if_pos (by omega)]
      refine S_X4_neverSpoils_69 (c_put _ sh_39 (by omega)) ?_
      intro υ2 h2
      rw [if_pos (by omega)] at h2
      refine S_X4_neverSpoils_72 (c_beginOf _ xok) ?_
      rintro _ _ ⟨rfl, rfl⟩
      refine S_X4_neverSpoils_81 (c_put _ sh_37 (by omega)) ?_
      intro υ3 h4
      rw [if_pos (by omega)] at h4
      have f3 : am_only [37, 39] υ1 υ3 := by
        rw [h4, h2]
        exact (am_only.pI (by decide)).trans (am_only.pI (by decide))
      have f3' : am_only cn_F υ υ3 := hf1'.trans (f3.sub (by decide))
      have b37 : υ3.1 37 = am_u1 (υ.1 37) x.1.1 k := by
        rw [h4, am_pI_row, h2, am_pI_of (by decide), hf1.1 37 (by decide)]
      have b39 : υ3.1 39 = am_u1 (υ.1 39) k (υ.1 37 x.1.1) := by
        rw [h4, am_pI_of (by decide), h2, am_pI_row, hf1.1 37 (by decide), hf1.1 39 (by decide)]
      have hI3 : cn_I P Q υ3 F := hI.of (by rw [f3.1 31 (by decide), hf1.1 31 (by decide)]) (by rw [f3.1 36 (by decide), hf1.1 36 (by decide)]) (by rw [f3.1 35 (by decide), hf1.1 35 (by decide)])
      have hM3 := hM.f f3'
      have hB3 : cn_B υ3 F (k + 1) := fun b b0 b1 => by
        rw [b37, b39]
        exact cn_add (p := fun x => x.1.1) hB (by rw [hx]) b b0 b1
      have hT3 : cn_T υ3 F k := hT.keep (List.prefix_refl _) hkF (by rw [f3.1 38 (by decide), hf1.1 38 (by decide)]) (by rw [f3.1 40 (by decide), hf1.1 40 (by decide)])
      refine S_X4_neverSpoils_85 (c_asOuter _ hM3 hI3 hmem (show k + 1 ≤ F.length by omega) hB3) ?_
      rintro υ4 ⟨F4, hI4, hp4, hf4, o1, o2⟩
      have f4' : am_only cn_F υ3 υ4 := hf4.1.sub (by decide)
      have hM4 := hM3.f f4'
      have hl4 := hp4.length_le
      have hT4 : cn_T υ4 F4 k := hT3.keep hp4 hkF (hf4.1.1 38 (by decide)) (hf4.1.1 40 (by decide))
      refine S_X4_neverSpoils_91 (c_asInner _ hM4 hI4 (hp4.subset hmem) (show k ≤ F4.length by omega) hT4) ?_
      rintro υ5 ⟨F5, hI5, hp5, hf5, i1⟩
      have f5' : am_only cn_F υ4 υ5 := hf5.1.sub (by decide)
      have hM5 := hM4.f f5'
      have hp := hp4.trans hp5
      have hl5 := hp.length_le
      refine S_X4_neverSpoils_97 (c_stateOf _ xok) ?_
      rintro _ _ ⟨rfl, rfl⟩
      refine S_X4_neverSpoils_111 (c_at _ sh_38 (by omega)) ?_
      rintro _ _ ⟨rfl, rfl⟩
      rw [if_pos (by omega)]
      refine S_X4_neverSpoils_114 (c_put _ sh_40 (by omega)) ?_
      intro υ6 h6
      rw [if_pos (by omega)] at h6
      refine S_X4_neverSpoils_117 (c_stateOf _ xok) ?_
      rintro _ _ ⟨rfl, rfl⟩
      refine S_X4_neverSpoils_126 (c_put _ sh_38 (by omega)) ?_
      intro υ7 h7
      rw [if_pos (by omega)] at h7
      have f7 : am_only [38, 40] υ5 υ7 := by
        rw [h7, h6]
        exact (am_only.pI (by decide)).trans (am_only.pI (by decide))
      have b38 : υ7.1 38 = am_u1 (υ5.1 38) x.1.2 k := by
        rw [h7, am_pI_row, h6, am_pI_of (by decide)]
      have b40 : υ7.1 40 = am_u1 (υ5.1 40) k (υ5.1 38 x.1.2) := by
        rw [h7, am_pI_of (by decide), h6, am_pI_row]
      have hT5 : cn_T υ5 F5 k := hT4.keep hp5 (by omega) (hf5.1.1 38 (by decide)) (hf5.1.1 40 (by decide))
      have gk : sv_g F5 k = x := by rw [sv_g_pre hp hkl]; exact hx
      refine S_X4_neverSpoils_130 ?_
      have := ih (k + 1) υ7 F5 (by omega) (hM5.f (f7.sub (by decide))) (hI5.of (by rw [f7.1 31 (by decide)]) (f7.1 36 (by decide)) (f7.1 35 (by decide))) (hp.subset h0) (by omega) (hB3.keep hp (by omega) (by rw [f7.1 37 (by decide), hf5.1.1 37 (by decide), hf4.1.1 37 (by decide)]) (by rw [f7.1 39 (by decide), hf5.1.1 39 (by decide), hf4.1.1 39 (by decide)])) (fun s s0 s1 => by
        rw [b38, b40]
        exact cn_add (p := fun x => x.1.2) hT5 (by rw [gk]) s s0 s1) (by
        refine ⟨fun j hj l l0 l1 hot => ?_, fun l j j' y l0 l1 hj hj' hot hn => ?_, fun j hj hb => ?_⟩
        · by_cases e : j = k
          · subst e
            rw [gk] at hot ⊢
            exact hp5.subset (o1 l l0 l1 hot)
          · rw [sv_g_pre hp (by omega)] at hot ⊢
            exact hp.subset (hD.1 j (by omega) l l0 l1 hot)
        · by_cases e : j = k
          · subst e
            rw [gk] at hot hn
            rw [sv_g_pre hp (by omega)] at hot hn
            exact hp5.subset (o2 l j' y l0 l1 (by omega) hot hn)
          · by_cases e' : j' = k
            · subst e'
              rw [gk] at hot hn
              rw [sv_g_pre hp5 (by omega)] at hot hn
              exact i1 l j y l0 l1 (by omega) hot hn
            · rw [sv_g_pre hp (by omega), sv_g_pre (j := j') hp (by omega)] at hot hn
              exact hp.subset (hD.2.1 l j j' y l0 l1 (by omega) (by omega) hot hn)
        · by_cases e : j = k
          · subst e
            rw [gk] at hb ⊢
            exact hns hb
          · rw [sv_g_pre hp (by omega)] at hb ⊢
            exact hD.2.2 j (by omega) hb) (((((hf.only f3').only f4').only f5').only (f7.sub (by decide))))
      exact this
  refine loop 730 0 τ0 F0 (by omega) (hMτ.f hf0') hI0 hin0 (Nat.zero_le _) (fun b b0 b1 => ?_) (fun b b0 b1 => ?_) ⟨fun j hj => by omega, fun l j j' y _ _ hj => by omega, fun j hj => by omega⟩ (hfr.only hf0')
  · show τ0.1 37 b = -1
    rw [hf0.1.1 37 (by decide)]
    exact (h37 b b0 b1).1
  · show τ0.1 38 b = -1
    rw [hf0.1.1 38 (by decide)]
    exact (h37 b b0 b1).2
end
