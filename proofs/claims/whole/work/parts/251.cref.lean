section
/-! Whole rows of EVENTS, read by the class. -/
def rd_cb (P : am_P) (C : rd_C) : Bool := (rd_s C).isEmpty && (pm_eX P (rd_q C)).isSome
theorem rd_cb_iff {P : am_P} {C : rd_C} : rd_cb P C = true ↔ rd_can P C := by
  unfold rd_cb rd_can
  rw [Bool.and_eq_true, List.isEmpty_iff, Option.isSome_iff_ne_none]
/-- where a row is REFUSED (-1: nowhere) -/
def rd_rf (P : am_P) : List Int → rd_C → Int → Int
  | [], C, i => if rd_cb P C then -1 else i
  | e :: w, C, i => match rd_step P C e with
    | none => i
    | some C' => rd_rf P w C' (i + 1)
theorem rd_rf_ok {P : am_P} : ∀ (w : List Int) (C : rd_C) (i m : Int), 0 ≤ i → (rd_rf P w C i = -1 ↔ ∃ C' m', rd_run P w C m = some (C', m') ∧ rd_can P C') := by
  intro w
  induction w with
  | nil =>
    intro C i m hi
    unfold rd_rf rd_run
    by_cases h : rd_cb P C = true
    · rw [if_pos h]
      exact ⟨fun _ => ⟨C, m, rfl, rd_cb_iff.mp h⟩, fun _ => rfl⟩
    · rw [if_neg h]
      refine ⟨fun z => by omega, fun ⟨C', m', e, hc⟩ => ?_⟩
      injection e with e
      injection e with e1 e2
      subst e1
      exact absurd (rd_cb_iff.mpr hc) h
  | cons e w ih =>
    intro C i m hi
    unfold rd_rf rd_run
    cases hs : rd_step P C e with
    | none => exact ⟨fun (z : i = -1) => by omega, fun ⟨C', m', e, _⟩ => nomatch e⟩
    | some C' => exact ih C' (i + 1) _ (by omega)
theorem rd_rf_rg {P : am_P} : ∀ (w : List Int) (C : rd_C) (i : Int), 0 ≤ i → -1 ≤ rd_rf P w C i ∧ rd_rf P w C i ≤ i + w.length := by
  intro w
  induction w with
  | nil =>
    intro C i hi
    unfold rd_rf
    have : (([] : List Int).length : Int) = 0 := rfl
    split <;> omega
  | cons e w ih =>
    intro C i hi
    unfold rd_rf
    rw [List.length_cons]
    cases rd_step P C e with
    | none => show -1 ≤ i ∧ i ≤ _; omega
    | some C' =>
      have := ih C' (i + 1) (by omega)
      show -1 ≤ rd_rf P w C' (i + 1) ∧ rd_rf P w C' (i + 1) ≤ _
      omega
/-- what a Reader may have changed -/
def cd_fr (a m : Nat) (σ τ : am_D) : Prop := (∀ b, b ≠ a → b ≠ a + 1 → b ≠ a + 2 → b ≠ a + 3 → τ.1 b = σ.1 b) ∧ τ.2.1 = σ.2.1 ∧ τ.2.2 = am_up σ.2.2 a 4 (some m)
theorem cd_fr.only {a m : Nat} {σ τ υ : am_D} (h : cd_fr a m σ τ) (h' : am_only [a, a + 1, a + 2, a + 3] τ υ) : cd_fr a m σ υ := ⟨fun b y1 y2 y3 y4 => by rw [h'.1 b (by simp; omega)]; exact h.1 b y1 y2 y3 y4, by rw [h'.2]; exact h.2.1, by rw [h'.2]; exact h.2.2⟩
theorem am_isE.lt {e : Nat} (h : am_isE e) : e + 1 ≤ 11 := by rcases h with rfl | rfl | rfl <;> omega
theorem am_isR.ge {a : Nat} (h : am_isR a) : 12 ≤ a ∧ a ≤ 20 := by rcases h with rfl | rfl | rfl <;> omega
theorem am_E.of {σ τ : am_D} {e : Nat} {w : List Int} (h : am_E σ e w) (h0 : τ.1 e = σ.1 e) (h1 : τ.1 (e + 1) = σ.1 (e + 1)) : am_E τ e w := ⟨by rw [h0]; exact h.1, by rw [h1]; exact h.2.1, h.2.2⟩
variable {G : am_G} {σ : am_D}
theorem c_refusal (d : Nat) {a m e : Nat} {P : am_P} {w : List Int} (hR : am_isR a) (he : am_isE e) (hM : cd_M σ m P) (hE : am_E σ e w) (hw : ∀ x ∈ w, 0 ≤ x ∧ x ≤ 3) (hl : (w.length : Int) ≤ 2 * cd_k a) (h3 : (rd_c3n w : Int) ≤ cd_k a) : am_MI G (d + 5) mX3_refusal [am_r (some a), am_r (some m), am_r (some e)] σ (fun x σ' => x = rd_rf P w rd_0 0 ∧ (x = -1 → cd_I σ' a m P w) ∧ cd_fr a m σ σ') := by
  have hkz := cd_sz hR
  have hae := he.lt
  have har := hR.ge
  refine am_M.go (by decide) (Nat.le_of_ble_eq_true rfl) rfl ?_
  refine S_X3_refusal_0 (c_start _ hR hM) hR ?_
  rintro τ ⟨hI, hf1, hf2, hf3⟩
  refine S_X3_refusal_5 ?_
  have fr0 : cd_fr a m σ τ := ⟨fun b y1 y2 _ _ => hf1 b y1 y2, hf2, hf3⟩
  have loop : ∀ (v pre : List Int) (C : rd_C) (mo : Int) (τ : am_D), w = pre ++ v → cd_I τ a m P pre → cd_fr a m σ τ → rd_run P pre rd_0 0 = some (C, mo) → rd_rf P v C pre.length = rd_rf P w rd_0 0 → am_X (am_FI G (d + 5) (fun x σ' => x = rd_rf P w rd_0 0 ∧ (x = -1 → cd_I σ' a m P w) ∧ cd_fr a m σ σ')) mX3_refusal (0, 0) 7 [some (am_r (some a)), none, some (am_r (some e)), some (am_i pre.length)] [] (am_K0, τ) := by
    intro v
    induction v with
    | nil =>
      intro pre C mo τ hwp hI hfr hC hrf
      rw [List.append_nil] at hwp
      subst hwp
      have hE' : am_E τ e w := hE.of (hfr.1 e (by omega) (by omega) (by omega) (by omega)) (hfr.1 (e + 1) (by omega) (by omega) (by omega) (by omega))
      refine S_X3_refusal_7 (c_size _ he hE') he ?_
      rintro _ _ ⟨rfl, rfl⟩
      refine S_X3_refusal_12 (by omega) (by omega) (fun _ => ?_) (fun z => absurd (by omega) z)
      refine S_X3_refusal_35 (c_canEnd _ hR hI hC) hR ?_
      have hrf : (if rd_cb P C then -1 else (w.length : Int)) = rd_rf P w rd_0 0 := hrf
      rintro x _ ⟨hx, rfl⟩
      rcases hx with ⟨rfl, hc⟩ | ⟨rfl, hc⟩
      · rw [if_pos (rd_cb_iff.mpr hc)] at hrf
        refine S_X3_refusal_39 (by decide) (fun z => absurd z (by decide)) (fun _ => ?_)
        exact S_X3_refusal_42 (S_X3_refusal_50 ⟨hrf, fun _ => hI, hfr⟩)
      · rw [if_neg (fun z => hc (rd_cb_iff.mp z))] at hrf
        refine S_X3_refusal_39 (by decide) (fun _ => ?_) (fun z => absurd rfl z)
        refine S_X3_refusal_46 (c_size _ he hE') he ?_
        rintro _ _ ⟨rfl, rfl⟩
        exact S_X3_refusal_50 ⟨hrf, fun z => absurd z (by omega), hfr⟩
    | cons x v ih =>
      intro pre C mo τ hwp hI hfr hC hrf
      have hE' : am_E τ e w := hE.of (hfr.1 e (by omega) (by omega) (by omega) (by omega)) (hfr.1 (e + 1) (by omega) (by omega) (by omega) (by omega))
      have hwl : w.length = pre.length + (v.length + 1) := by rw [hwp, List.length_append]; rfl
      have hx := hw x (by rw [hwp]; simp)
      have hget : w.getD pre.length 0 = x := by rw [hwp, List.getD_eq_getElem?_getD, List.getElem?_append_right (Nat.le_refl _), Nat.sub_self]; rfl
      have hpre1 : w = (pre ++ [x]) ++ v := by rw [hwp, List.append_assoc]; rfl
      have hlen1 : ((pre ++ [x]).length : Int) = pre.length + 1 := by rw [List.length_append]; rfl
      have hc3 : x = 3 → (rd_c3n pre : Int) + 1 ≤ cd_k a := by
        intro e3
        have : rd_c3n (pre ++ [x]) ≤ rd_c3n w := by
          rw [hpre1]
          unfold rd_c3n
          rw [List.countP_append (l₁ := pre ++ [x])]
          exact Nat.le_add_right _ _
        have h2 : rd_c3n (pre ++ [x]) = rd_c3n pre + 1 := by
          unfold rd_c3n
          rw [List.countP_append, List.countP_cons, if_pos (by simpa using e3)]
          rfl
        omega
      have hrf : (match rd_step P C x with
        | none => (pre.length : Int)
        | some C' => rd_rf P v C' (pre.length + 1)) = rd_rf P w rd_0 0 := hrf
      refine S_X3_refusal_7 (c_size _ he hE') he ?_
      rintro _ _ ⟨rfl, rfl⟩
      refine S_X3_refusal_12 (by omega) (by omega) (fun z => absurd z (by omega)) (fun _ => ?_)
      refine S_X3_refusal_15 (c_signAt _ he hE' (by omega)) he ?_
      rintro _ _ ⟨rfl, rfl⟩
      rw [if_pos (by omega), Int.toNat_natCast, hget]
      refine S_X3_refusal_21 (c_step _ hR hI hx (by omega) hc3 hC) hR ?_
      rintro y τ' (⟨rfl, hs, rfl⟩ | ⟨rfl, ⟨C', hs⟩, ho, hI'⟩)
      · rw [hs] at hrf
        refine S_X3_refusal_24 (by decide) (fun z => absurd rfl z) (fun _ => ?_)
        exact S_X3_refusal_27 ⟨hrf, fun z => absurd z (by omega), hfr⟩
      · rw [hs] at hrf
        refine S_X3_refusal_24 (by decide) (fun _ => ?_) (fun z => absurd (by decide) z)
        refine S_X3_refusal_29 ?_
        have := ih (pre ++ [x]) C' _ τ' hpre1 hI' (hfr.only ho) (rd_run_snoc hC hs) (by rw [hlen1]; exact hrf)
        rw [hlen1] at this
        exact this
  exact loop w [] rd_0 0 τ rfl hI fr0 rfl rfl
/-- at a node of the row -/
theorem cd_O.at {o : Nat} {c pre t : rd_ch} {p : Int × Int} (h : cd_O σ o c) (e : c = pre ++ p :: t) : σ.1 (o + 2) p.1 = p.2 ∧ (∀ q t', t = q :: t' → σ.1 (o + 3) p.1 = q.1) ∧ (0 ≤ p.1 ∧ p.1 < am_rs o) ∧ 0 ≤ p.2 ∧ p.2 ≤ 3 := by
  have hp : p ∈ c := by rw [e]; simp
  refine ⟨h.2.2.1 p hp, fun q t' et => ?_, h.2.2.2.1 p.1 (List.mem_map.mpr ⟨p, hp, rfl⟩), h.2.2.2.2.1 p.2 (List.mem_map.mpr ⟨p, hp, rfl⟩)⟩
  have := h.2.1 p.1 q.1 ⟨rd_nd pre, rd_nd t', by rw [e, et]; unfold rd_nd; simp⟩
  rw [Int.zero_add, Int.zero_add] at this
  exact this
theorem cd_O.of {τ : am_D} {o : Nat} {c : rd_ch} (h : cd_O σ o c) (h0 : τ.1 o = σ.1 o) (h2 : τ.1 (o + 2) = σ.1 (o + 2)) (h3 : τ.1 (o + 3) = σ.1 (o + 3)) : cd_O τ o c := by
  unfold cd_O at h ⊢
  rw [h0, h2, h3]
  exact h
theorem cd_O.len {o : Nat} {c : rd_ch} (hR : am_isR o) (hd : (rd_nd c).Nodup) (h : cd_O σ o c) : σ.1 o 8 = c.length ∧ (c.length : Int) ≤ am_rs o := by
  have := am_rs_le o
  exact ⟨h.1.1, rd_len_u (by omega) hd h.2.2.2.1⟩
theorem c_receive (d : Nat) {e o : Nat} {c : rd_ch} (he : am_isE e) (hR : am_isR o) (hO : cd_O σ o c) (hl : c.length ≤ am_es e) : am_MV G (d + 2) mX0_receive [am_r (some e), am_r (some o)] σ (fun σ' => am_E σ' e (rd_sg c) ∧ am_only [e, e + 1] σ σ') := by
  have hae := he.lt
  have har := hR.ge
  have hs2 := shR2 hR
  have hs3 := shR3 hR
  have hes := am_es_le e
  have hrs := am_rs_le o
  refine am_M.go (by decide) (Nat.le_of_ble_eq_true rfl) rfl ?_
  refine S_X0_receive_0 he ?_
  have ho0 : am_only [e, e + 1] σ (am_pI σ e 1 0) := am_only.pI (by simp)
  have hE0 : am_E (am_pI σ e 1 0) e [] := ⟨am_pI_at, fun i hi => absurd hi (Nat.not_lt_zero _), Nat.zero_le _⟩
  generalize am_pI σ e 1 0 = τ0 at ho0 hE0 ⊢
  have keep : ∀ τ, am_only [e, e + 1] σ τ → cd_O τ o c := fun τ h => hO.of (h.1 _ (by simp; omega)) (h.1 _ (by simp; omega)) (h.1 _ (by simp; omega))
  refine S_X0_receive_5 hR ?_
  refine S_X0_receive_10 ?_
  have loop : ∀ (t pre : rd_ch) (v : Int) (τ : am_D), c = pre ++ t → am_only [e, e + 1] σ τ → am_E τ e (rd_sg pre) → (∀ p t', t = p :: t' → v = p.1) → am_X (am_FV G (d + 2) (fun σ' => am_E σ' e (rd_sg c) ∧ am_only [e, e + 1] σ σ')) mX0_receive (0, 0) 12 [some (am_r (some e)), some (am_r (some o)), some (am_i v), some (am_i pre.length)] [] (am_K0, τ) := by
    intro t
    induction t with
    | nil =>
      intro pre v τ hcp ho hE hv
      have hO' := keep τ ho
      have h8 := hO'.1.1
      rw [List.append_nil] at hcp
      subst hcp
      refine S_X0_receive_12 hR (by omega) (by omega) (fun _ => S_X0_receive_47 ⟨hE, ho⟩) (fun z => absurd (by omega) z)
    | cons p t ih =>
      intro pre v τ hcp ho hE hv
      have hO' := keep τ ho
      have h8 := hO'.1.1
      have hvp := hv p t rfl
      subst hvp
      obtain ⟨k1, k2, k3, k4⟩ := hO'.at hcp
      have hcl : c.length = pre.length + (t.length + 1) := by rw [hcp, List.length_append]; rfl
      have hlen1 : ((pre ++ [p]).length : Int) = pre.length + 1 := by rw [List.length_append]; rfl
      have hpl : (rd_sg pre).length = pre.length := by unfold rd_sg; rw [List.length_map]
      refine S_X0_receive_12 hR (by omega) (by omega) (fun z => absurd z (by omega)) (fun _ => ?_)
      refine S_X0_receive_20 hR (c_at _ hs2 (by omega)) ?_
      rintro _ _ ⟨rfl, rfl⟩
      rw [if_pos (by omega), k1]
      refine S_X0_receive_29 (c_add _ he hE (by omega)) he ?_
      rintro τ2 ⟨hE2, ho2⟩
      have e3 : τ2.1 (o + 3) = τ.1 (o + 3) := ho2.1 _ (by simp; omega)
      refine S_X0_receive_32 hR (c_at _ hs3 (by omega)) ?_
      rintro _ _ ⟨rfl, rfl⟩
      rw [if_pos (by omega), e3]
      refine S_X0_receive_41 ?_
      have := ih (pre ++ [p]) (τ.1 (o + 3) p.1) τ2 (by rw [hcp, List.append_assoc]; rfl) (ho.trans ho2) (by unfold rd_sg at hE2 ⊢; rw [List.map_append]; exact hE2) k2
      rw [hlen1] at this
      exact this
  exact loop c [] (τ0.1 o 6) τ0 rfl ho0 hE0 (fun p t' et => by
    have := (keep τ0 ho0).1.2.1 p t' et
    rw [Int.zero_add] at this
    exact this)
theorem c_readBehind (d : Nat) {a m o : Nat} {P : am_P} {c : rd_ch} (hR : am_isR a) (hRo : am_isR o) (hao : a ≠ o) (hM : cd_M σ m P) (hO : cd_O σ o c) (hl : (c.length : Int) ≤ 2 * cd_k a) (h3 : (rd_c3n (rd_sg c) : Int) ≤ cd_k a) : am_MI G (d + 5) mX3_readBehind [am_r (some a), am_r (some m), am_r (some o)] σ (fun x σ' => ((x = 1 ∧ rd_rf P (rd_sg c) rd_0 0 = -1 ∧ cd_I σ' a m P (rd_sg c)) ∨ (x = 0 ∧ rd_rf P (rd_sg c) rd_0 0 ≠ -1)) ∧ cd_fr a m σ σ') := by
  have hkz := cd_sz hR
  have har := hR.ge
  have haro := hRo.ge
  have hs2 := shR2 hRo
  have hs3 := shR3 hRo
  have hrs := am_rs_le o
  have hd4 : o < a → o + 4 ≤ a := by intro z; rcases hR with rfl | rfl | rfl <;> rcases hRo with rfl | rfl | rfl <;> omega
  have hd5 : a < o → a + 4 ≤ o := by intro z; rcases hR with rfl | rfl | rfl <;> rcases hRo with rfl | rfl | rfl <;> omega
  have keep : ∀ τ, cd_fr a m σ τ → cd_O τ o c := fun τ h => hO.of (h.1 _ (by omega) (by omega) (by omega) (by omega)) (h.1 _ (by omega) (by omega) (by omega) (by omega)) (h.1 _ (by omega) (by omega) (by omega) (by omega))
  refine am_M.go (by decide) (Nat.le_of_ble_eq_true rfl) rfl ?_
  refine S_X3_readBehind_0 (c_start _ hR hM) hR ?_
  rintro τ ⟨hI, hf1, hf2, hf3⟩
  have fr0 : cd_fr a m σ τ := ⟨fun b y1 y2 _ _ => hf1 b y1 y2, hf2, hf3⟩
  refine S_X3_readBehind_5 hRo ?_
  refine S_X3_readBehind_10 ?_
  generalize hQ : (fun (x : Int) (σ' : am_D) => ((x = 1 ∧ rd_rf P (rd_sg c) rd_0 0 = -1 ∧ cd_I σ' a m P (rd_sg c)) ∨ (x = 0 ∧ rd_rf P (rd_sg c) rd_0 0 ≠ -1)) ∧ cd_fr a m σ σ') = Q
  have loop : ∀ (t pre : rd_ch) (v : Int) (C : rd_C) (mo : Int) (τ : am_D), c = pre ++ t → cd_I τ a m P (rd_sg pre) → cd_fr a m σ τ → rd_run P (rd_sg pre) rd_0 0 = some (C, mo) → rd_rf P (rd_sg t) C pre.length = rd_rf P (rd_sg c) rd_0 0 → (∀ p t', t = p :: t' → v = p.1) → am_X (am_FI G (d + 5) Q) mX3_readBehind (0, 0) 13 [some (am_r (some a)), none, some (am_r (some o)), some (am_i v), some (am_i pre.length)] [] (am_K0, τ) := by
    intro t
    induction t with
    | nil =>
      intro pre v C mo τ hcp hI hfr hC hrf hv
      have hO' := keep τ hfr
      have h8 := hO'.1.1
      rw [List.append_nil] at hcp
      subst hcp
      refine S_X3_readBehind_13 hRo (by omega) (by omega) (fun _ => ?_) (fun z => absurd (by omega) z)
      refine S_X3_readBehind_54 (c_canEnd _ hR hI hC) hR ?_
      rintro x _ ⟨hx, rfl⟩
      have hrf : (if rd_cb P C then -1 else (c.length : Int)) = rd_rf P (rd_sg c) rd_0 0 := hrf
      rw [← hQ]
      rcases hx with ⟨rfl, hc⟩ | ⟨rfl, hc⟩
      · rw [if_pos (rd_cb_iff.mpr hc)] at hrf
        exact ⟨Or.inr rfl, Or.inl ⟨rfl, hrf.symm, hI⟩, hfr⟩
      · rw [if_neg (fun z => hc (rd_cb_iff.mp z))] at hrf
        exact ⟨Or.inl rfl, Or.inr ⟨rfl, by omega⟩, hfr⟩
    | cons p t ih =>
      intro pre v C mo τ hcp hI hfr hC hrf hv
      have hO' := keep τ hfr
      have h8 := hO'.1.1
      have hvp := hv p t rfl
      subst hvp
      obtain ⟨k1, k2, k3, k4⟩ := hO'.at hcp
      have hcl : c.length = pre.length + (t.length + 1) := by rw [hcp, List.length_append]; rfl
      have hlen1 : ((pre ++ [p]).length : Int) = pre.length + 1 := by rw [List.length_append]; rfl
      have hpl : (rd_sg pre).length = pre.length := by unfold rd_sg; rw [List.length_map]
      have hsg1 : rd_sg (pre ++ [p]) = rd_sg pre ++ [p.2] := by unfold rd_sg; rw [List.map_append]; rfl
      have hc3 : p.2 = 3 → (rd_c3n (rd_sg pre) : Int) + 1 ≤ cd_k a := by
        intro e3
        have hsc : rd_sg c = (rd_sg pre ++ [p.2]) ++ rd_sg t := by rw [hcp]; unfold rd_sg; simp
        have : rd_c3n (rd_sg pre ++ [p.2]) ≤ rd_c3n (rd_sg c) := by
          rw [hsc]
          unfold rd_c3n
          rw [List.countP_append (l₁ := rd_sg pre ++ [p.2])]
          exact Nat.le_add_right _ _
        have h2 : rd_c3n (rd_sg pre ++ [p.2]) = rd_c3n (rd_sg pre) + 1 := by
          unfold rd_c3n
          rw [List.countP_append, List.countP_cons, if_pos (by simpa using e3)]
          rfl
        omega
      have hrf : (match rd_step P C p.2 with
        | none => (pre.length : Int)
        | some C' => rd_rf P (rd_sg t) C' (pre.length + 1)) = rd_rf P (rd_sg c) rd_0 0 := hrf
      refine S_X3_readBehind_13 hRo (by omega) (by omega) (fun z => absurd z (by omega)) (fun _ => ?_)
      refine S_X3_readBehind_22 hRo (c_at _ hs2 (by omega)) ?_
      rintro _ _ ⟨rfl, rfl⟩
      rw [if_pos (by omega), k1]
      refine S_X3_readBehind_31 (c_step _ hR hI k4 (by rw [hpl]; omega) hc3 hC) hR ?_
      rintro y τ' (⟨rfl, hs, rfl⟩ | ⟨rfl, ⟨C', hs⟩, ho, hI'⟩)
      · rw [hs] at hrf
        have hrf : (pre.length : Int) = rd_rf P (rd_sg c) rd_0 0 := hrf
        refine S_X3_readBehind_34 (by decide) (fun z => absurd rfl z) (fun _ => ?_)
        refine S_X3_readBehind_37 ?_
        rw [← hQ]
        exact ⟨Or.inr ⟨rfl, by omega⟩, hfr⟩
      · rw [hs] at hrf
        have hfr' := hfr.only ho
        refine S_X3_readBehind_34 (by decide) (fun _ => ?_) (fun z => absurd (by decide) z)
        have e3 : τ'.1 (o + 3) = τ.1 (o + 3) := ho.1 _ (by simp; omega)
        refine S_X3_readBehind_39 hRo (c_at _ hs3 (by omega)) ?_
        rintro _ _ ⟨rfl, rfl⟩
        rw [if_pos (by omega), e3]
        refine S_X3_readBehind_48 ?_
        have := ih (pre ++ [p]) (τ.1 (o + 3) p.1) C' _ τ' (by rw [hcp, List.append_assoc]; rfl) (by rw [hsg1]; exact hI') hfr' (by rw [hsg1]; exact rd_run_snoc hC hs) (by rw [hlen1]; exact hrf) k2
        rw [hlen1] at this
        exact this
  exact loop c [] (τ.1 o 6) rd_0 0 τ rfl hI fr0 rfl rfl (fun p t' et => by
    have := (keep τ fr0).1.2.1 p t' et
    rw [Int.zero_add] at this
    exact this)
theorem c_wroteAlike (d : Nat) {a o : Nat} {c c' : rd_ch} (hR : am_isR a) (hRo : am_isR o) (hO : cd_O σ a c) (hO' : cd_O σ o c') (hl : (c.length : Int) ≤ 10000) (hl' : (c'.length : Int) ≤ 10000) : am_MI G (d + 2) mX3_wroteAlike [am_r (some a), am_r (some o)] σ (fun x σ' => ((x = 1 ∧ rd_sg c = rd_sg c') ∨ (x = 0 ∧ rd_sg c ≠ rd_sg c')) ∧ σ = σ') := by
  have hs2 := shR2 hR
  have hs3 := shR3 hR
  have hs2' := shR2 hRo
  have hs3' := shR3 hRo
  have hrs := am_rs_le a
  have hrs' := am_rs_le o
  have h8 := hO.1.1
  have h8' := hO'.1.1
  have hsl : ∀ c : rd_ch, (rd_sg c).length = c.length := fun c => by unfold rd_sg; rw [List.length_map]
  refine am_M.go (by decide) (Nat.le_of_ble_eq_true rfl) rfl ?_
  refine S_X3_wroteAlike_0 hR hRo (by omega) (by omega) (fun z => ?_) (fun z => ?_)
  rotate_left
  · refine S_X3_wroteAlike_11 ⟨Or.inr ⟨rfl, fun e => z ?_⟩, rfl⟩
    have := congrArg List.length e
    rw [hsl, hsl] at this
    omega
  refine S_X3_wroteAlike_13 hR ?_
  refine S_X3_wroteAlike_18 hRo ?_
  refine S_X3_wroteAlike_23 ?_
  have loop : ∀ (t pre t' pre' : rd_ch) (v v' : Int), c = pre ++ t → c' = pre' ++ t' → pre.length = pre'.length → rd_sg pre = rd_sg pre' → (∀ p s, t = p :: s → v = p.1) → (∀ p s, t' = p :: s → v' = p.1) → am_X (am_FI G (d + 2) (fun x σ' => ((x = 1 ∧ rd_sg c = rd_sg c') ∨ (x = 0 ∧ rd_sg c ≠ rd_sg c')) ∧ σ = σ')) mX3_wroteAlike (0, 0) 26 [some (am_r (some a)), some (am_r (some o)), some (am_i v), some (am_i v'), some (am_i pre.length)] [] (am_K0, σ) := by
    intro t
    induction t with
    | nil =>
      intro pre t' pre' v v' hc hc' hpl hps hv hv'
      have e1 : c.length = pre.length := by rw [hc, List.append_nil]
      have e2 : c'.length = pre'.length + t'.length := by rw [hc', List.length_append]
      have ht' : t' = [] := List.eq_nil_of_length_eq_zero (by omega)
      subst ht'
      refine S_X3_wroteAlike_26 hR (by omega) (by omega) (fun _ => ?_) (fun y => absurd (by omega) y)
      refine S_X3_wroteAlike_80 ⟨Or.inl ⟨rfl, ?_⟩, rfl⟩
      rw [hc, hc', List.append_nil, List.append_nil]
      exact hps
    | cons p t ih =>
      intro pre t' pre' v v' hc hc' hpl hps hv hv'
      have e1 : c.length = pre.length + (t.length + 1) := by rw [hc, List.length_append]; rfl
      have e2 : c'.length = pre'.length + t'.length := by rw [hc', List.length_append]
      cases t' with
      | nil => simp at e2; omega
      | cons p' t' =>
        have hvp := hv p t rfl
        subst hvp
        have hvp := hv' p' t' rfl
        subst hvp
        obtain ⟨k1, k2, k3, k4⟩ := hO.at hc
        obtain ⟨l1, l2, l3, l4⟩ := hO'.at hc'
        refine S_X3_wroteAlike_26 hR (by omega) (by omega) (fun y => absurd y (by omega)) (fun _ => ?_)
        refine S_X3_wroteAlike_35 hR (c_at _ hs2 (by omega)) ?_
        rintro _ _ ⟨rfl, rfl⟩
        rw [if_pos (by omega), k1]
        refine S_X3_wroteAlike_43 hRo (c_at _ hs2' (by omega)) ?_
        rintro _ _ ⟨rfl, rfl⟩
        rw [if_pos (by omega), l1]
        refine S_X3_wroteAlike_51 (by omega) (by omega) (fun y => ?_) (fun y => ?_)
        · have y : p.2 = p'.2 := by omega
          refine S_X3_wroteAlike_56 hR (c_at _ hs3 (by omega)) ?_
          rintro _ _ ⟨rfl, rfl⟩
          rw [if_pos (by omega)]
          refine S_X3_wroteAlike_65 hRo (c_at _ hs3' (by omega)) ?_
          rintro _ _ ⟨rfl, rfl⟩
          rw [if_pos (by omega)]
          refine S_X3_wroteAlike_74 ?_
          have hlen1 : ((pre ++ [p]).length : Int) = pre.length + 1 := by rw [List.length_append]; rfl
          have := ih (pre ++ [p]) t' (pre' ++ [p']) _ _ (by rw [hc, List.append_assoc]; rfl) (by rw [hc', List.append_assoc]; rfl) (by simp; exact hpl) (by unfold rd_sg at hps ⊢; rw [List.map_append, List.map_append, hps]; simp [y]) k2 l2
          rw [hlen1] at this
          exact this
        · refine S_X3_wroteAlike_54 ⟨Or.inr ⟨rfl, fun e => ?_⟩, rfl⟩
          have : p.2 = p'.2 := by
            unfold rd_sg at e hps
            rw [hc, hc', List.map_append, List.map_append, hps] at e
            have := List.append_cancel_left e
            injection this
          omega
  exact loop c [] c' [] _ _ rfl rfl rfl rfl (fun p s e => by have := hO.1.2.1 p s e; rw [Int.zero_add] at this; exact this) (fun p s e => by have := hO'.1.2.1 p s e; rw [Int.zero_add] at this; exact this)
end
