section
variable {G : am_G} {σ : am_D}
/-! What is held by the class's Reader; the Scout. -/
theorem c_sizeOf (d : Nat) {a : Nat} {cell r : Int} (hR : am_isR a) (hc : 0 ≤ cell ∧ cell + 16 ≤ am_rc a) (hr : 0 ≤ r ∧ r < 3) : am_MI G (d + 2) mX3_sizeOf [am_r (some a), am_i cell, am_i r] σ (fun x σ' => x = σ.1 (a + 1) (cell + 7 + 3 * r + 2) ∧ σ = σ') := by
  have := am_rc_le a
  refine am_M.go (by decide) (Nat.le_of_ble_eq_true rfl) rfl ?_
  refine S_X3_sizeOf_0 hR (c_at _ (shR1 hR) (by omega)) ?_
  rintro _ _ ⟨rfl, rfl⟩
  rw [if_pos (by omega)]
  exact ⟨rfl, rfl⟩
/-- the snapshot that lies with the d-th MARK -/
theorem c_layingWith (d : Nat) {a m : Nat} {P : am_P} {w : List Int} {C : rd_C} {mo dd : Int} (hR : am_isR a) (hI : cd_I σ a m P w) (hC : rd_run P w rd_0 0 = some (C, mo)) (hd : -2147483648 ≤ dd ∧ dd ≤ 2147483647) : am_MI G (d + 3) mX3_layingWith [am_r (some a), am_i dd] σ (fun x σ' => ((x = -1 ∧ ¬ (-1 ≤ dd ∧ dd < (rd_s C).length)) ∨ ((-1 ≤ dd ∧ dd < (rd_s C).length) ∧ ∃ i : Nat, i ≤ w.length ∧ x = (i : Int) * 16 ∧ ∃ C' m', rd_run P (w.take i) rd_0 0 = some (C', m') ∧ cd_X σ a (pm_R P) i C' m' ∧ rd_G 0 (σ.1 (a + 3)) (σ.1 (a + 2)) (rd_all C') ∧ rd_r C' = (if dd = -1 then rd_r C else ((rd_s C).map Prod.snd).getD dd.toNat rd_nil))) ∧ σ = σ') := by
  obtain ⟨⟨⟨x20, x21, x22, x23, x26⟩, x2r⟩, x4⟩ := hI.cells hC
  obtain ⟨h1, hM, ⟨h3, h4, h5, h6⟩, cf, h7⟩ := id hI
  obtain ⟨z1, z2, z3, z4, z5⟩ := cd_sz hR
  obtain ⟨C0, mo0, hC0, -, -, i6⟩ := hI.C
  rw [hC] at hC0
  injection hC0 with hC0
  injection hC0 with e1 e2
  subst e1; subst e2
  have h9 := h7 w.length (Nat.le_refl _)
  rw [List.take_length, hC] at h9
  have hcf : (C, mo) = cf w.length := Option.some.inj h9.1
  have hlen : ((rd_s C).length : Int) ≤ w.length := by omega
  refine am_M.go (by decide) (Nat.le_of_ble_eq_true rfl) rfl ?_
  generalize hQ : (fun (x : Int) (σ' : am_D) => ((x = -1 ∧ ¬ (-1 ≤ dd ∧ dd < (rd_s C).length)) ∨ ((-1 ≤ dd ∧ dd < (rd_s C).length) ∧ ∃ i : Nat, i ≤ w.length ∧ x = (i : Int) * 16 ∧ ∃ C' m', rd_run P (w.take i) rd_0 0 = some (C', m') ∧ cd_X σ a (pm_R P) i C' m' ∧ rd_G 0 (σ.1 (a + 3)) (σ.1 (a + 2)) (rd_all C') ∧ rd_r C' = (if dd = -1 then rd_r C else ((rd_s C).map Prod.snd).getD dd.toNat rd_nil))) ∧ σ = σ') = Q
  refine S_X3_layingWith_0 (by omega) (fun z => ?_) (fun z => ?_)
  · refine S_X3_layingWith_14 ?_
    rw [← hQ]
    exact ⟨Or.inl ⟨rfl, by omega⟩, rfl⟩
  refine S_X3_layingWith_5 (c_now _ hR h3 h5 (by omega)) hR ?_
  rintro _ _ ⟨rfl, rfl⟩
  rw [x21]
  refine S_X3_layingWith_11 (by omega) (by omega) (fun y => ?_) (fun y => ?_)
  rotate_left
  · refine S_X3_layingWith_14 ?_
    rw [← hQ]
    exact ⟨Or.inl ⟨rfl, by omega⟩, rfl⟩
  refine S_X3_layingWith_16 hR ?_
  refine S_X3_layingWith_24 ?_
  rw [h3]
  -- down THE STACK
  have loop : ∀ (n : Nat) (k : Int) (i : Nat) (top : List rd_fr), dd + 1 - k = n → 0 ≤ k → i ≤ w.length → rd_s C = top ++ rd_s (cf i).1 → top.length = k → rd_r (cf i).1 = (if k = 0 then rd_r C else ((rd_s C).map Prod.snd).getD (k - 1).toNat rd_nil) → am_X (am_FI G (d + 3) Q) mX3_layingWith (0, 0) 26 [some (am_r (some a)), some (am_i dd), some (am_i ((i : Int) * 16)), some (am_i k)] [] (am_K0, σ) := by
    intro n
    induction n with
    | zero =>
      intro k i top hn hk hi hst htl hr
      refine S_X3_layingWith_26 (by omega) (by omega) (fun _ => ?_) (fun z => absurd (by omega) z)
      refine S_X3_layingWith_48 ?_
      rw [← hQ]
      obtain ⟨y1, y2, y3, y4⟩ := h7 i hi
      refine ⟨Or.inr ⟨by omega, i, hi, rfl, (cf i).1, (cf i).2, y1, y2, y4, ?_⟩, rfl⟩
      rw [hr]
      by_cases e : dd = -1
      · rw [if_pos (by omega), if_pos e]
      · rw [if_neg (by omega), if_neg e, show k - 1 = dd by omega]
    | succ n ih =>
      intro k i top hn hk hi hst htl hr
      obtain ⟨y1, y2, y3, y4⟩ := h7 i hi
      have hstl := congrArg List.length hst
      rw [List.length_append] at hstl
      refine S_X3_layingWith_26 (by omega) (by omega) (fun z => absurd z (by omega)) (fun _ => ?_)
      refine S_X3_layingWith_31 hR (c_at _ (shR1 hR) (by omega)) ?_
      rintro _ _ ⟨rfl, rfl⟩
      rw [if_pos (by omega)]
      refine S_X3_layingWith_42 ?_
      cases hs : rd_s (cf i).1 with
      | nil => rw [hs] at hstl; simp at hstl; omega
      | cons f s =>
        rw [hs] at y3 hst
        obtain ⟨u1, j, u2, u3, u4, u5⟩ := y3
        rw [u3]
        refine ih (k + 1) j (top ++ [f]) (by omega) (by omega) (by omega) (by rw [hst, u5, List.append_assoc]; rfl) (by rw [List.length_append, ← htl]; rfl) ?_
        rw [if_neg (by omega), u4, hst, List.map_append, List.getD_eq_getElem?_getD, List.getElem?_append_right (by rw [List.length_map]; omega), List.length_map, show (k + 1 - 1).toNat - top.length = 0 by omega]
        rfl
  refine loop (dd + 1).toNat 0 w.length [] (by omega) (by omega) (Nat.le_refl _) (by rw [← hcf]; rfl) rfl (by rw [if_pos rfl, ← hcf])
theorem c_signOf (d : Nat) {a : Nat} {c : rd_ch} {cell r i : Int} (hR : am_isR a) (hc : 0 ≤ cell ∧ cell + 16 ≤ am_rc a) (hr : 0 ≤ r ∧ r < 3) (hi : -2147483648 ≤ i ∧ i ≤ 2147483647) (hp : rd_rp 0 c (σ.1 (a + 1) (cell + 7 + 3 * r)) (σ.1 (a + 1) (cell + 7 + 3 * r + 1)) (σ.1 (a + 1) (cell + 7 + 3 * r + 2))) (hlk : rd_lk (σ.1 (a + 3)) 0 (rd_nd c)) (hsg : ∀ p ∈ c, σ.1 (a + 2) p.1 = p.2) (hb : ∀ x ∈ rd_nd c, 0 ≤ x ∧ x < am_rs a) (hcl : (c.length : Int) ≤ 10000) : am_MI G (d + 3) mX3_signOf [am_r (some a), am_i cell, am_i r, am_i i] σ (fun x σ' => x = (if 0 ≤ i ∧ i < c.length then (rd_sg c).getD i.toNat 0 else -1) ∧ σ = σ') := by
  have hrc := am_rc_le a
  have hrs := am_rs_le a
  refine am_M.go (by decide) (Nat.le_of_ble_eq_true rfl) rfl ?_
  refine S_X3_signOf_0 (by omega) (fun z => ?_) (fun z => ?_)
  · refine S_X3_signOf_14 ?_
    rw [if_neg (by omega)]
    exact ⟨rfl, rfl⟩
  refine S_X3_signOf_4 (c_sizeOf _ hR hc hr) hR ?_
  rintro _ _ ⟨rfl, rfl⟩
  rw [hp.1]
  refine S_X3_signOf_11 (by omega) (by omega) (fun y => ?_) (fun y => ?_)
  rotate_left
  · refine S_X3_signOf_14 ?_
    rw [if_neg (by omega)]
    exact ⟨rfl, rfl⟩
  refine S_X3_signOf_16 hR (c_at _ (shR1 hR) (by omega)) ?_
  rintro _ _ ⟨rfl, rfl⟩
  rw [if_pos (show 0 ≤ cell + 7 + 3 * r ∧ cell + 7 + 3 * r < (am_rc a : Int) by omega)]
  refine S_X3_signOf_33 ?_
  rw [if_pos (show 0 ≤ i ∧ i < (c.length : Int) from ⟨by omega, y⟩)]
  have at' : ∀ (pre t : rd_ch) (p : Int × Int), c = pre ++ p :: t → σ.1 (a + 2) p.1 = p.2 ∧ (∀ q t', t = q :: t' → σ.1 (a + 3) p.1 = q.1) ∧ (0 ≤ p.1 ∧ p.1 < am_rs a) := by
    intro pre t p e
    have hpm : p ∈ c := by rw [e]; simp
    refine ⟨hsg p hpm, fun q t' et => ?_, hb p.1 (List.mem_map.mpr ⟨p, hpm, rfl⟩)⟩
    have := hlk p.1 q.1 ⟨rd_nd pre, rd_nd t', by rw [e, et]; unfold rd_nd; simp⟩
    rw [Int.zero_add, Int.zero_add] at this
    exact this
  have loop : ∀ (t pre : rd_ch) (v : Int), c = pre ++ t → (pre.length : Int) ≤ i → (∀ p s, t = p :: s → v = p.1) → am_X (am_FI G (d + 3) (fun x σ' => x = (rd_sg c).getD i.toNat 0 ∧ σ = σ')) mX3_signOf (0, 0) 36 [some (am_r (some a)), none, none, some (am_i i), some (am_i v), some (am_i pre.length)] [] (am_K0, σ) := by
    intro t
    induction t with
    | nil =>
      intro pre v e h1 _
      rw [List.append_nil] at e
      subst e
      omega
    | cons p t ih =>
      intro pre v e h1 hv
      have hvp := hv p t rfl
      subst hvp
      obtain ⟨k1, k2, k3⟩ := at' pre t p e
      refine S_X3_signOf_36 (by omega) (by omega) (fun u => ?_) (fun u => ?_)
      · refine S_X3_signOf_59 hR (c_at _ (shR2 hR) (by omega)) ?_
        rintro _ _ ⟨rfl, rfl⟩
        rw [if_pos (by omega), k1]
        refine ⟨?_, rfl⟩
        unfold rd_sg
        rw [e, List.map_append, List.getD_eq_getElem?_getD, List.getElem?_append_right (by rw [List.length_map]; omega), List.length_map, show i.toNat - pre.length = 0 by omega]
        rfl
      · refine S_X3_signOf_42 hR (c_at _ (shR3 hR) (by omega)) ?_
        rintro _ _ ⟨rfl, rfl⟩
        rw [if_pos (by omega)]
        refine S_X3_signOf_53 ?_
        have hlen1 : ((pre ++ [p]).length : Int) = pre.length + 1 := by rw [List.length_append]; rfl
        have := ih (pre ++ [p]) (σ.1 (a + 3) p.1) (by rw [e, List.append_assoc]; rfl) (by omega) k2
        rw [hlen1] at this
        exact this
  exact loop c [] _ rfl (by show (0 : Int) ≤ i; omega) (fun p s e => by have := hp.2.1 p s e; rw [Int.zero_add] at this; exact this)
theorem rd_bal_le : ∀ (w : List Int) (d : Int), rd_bal d w → d ≤ w.length := by
  intro w
  induction w with
  | nil => intro d h; have h : d = 0 := h; rw [h]; exact Int.le_refl _
  | cons s w ih =>
    intro d h
    unfold rd_bal at h
    rw [List.length_cons]
    by_cases z : s < 3
    · rw [if_pos z] at h
      have := ih _ h
      omega
    · rw [if_neg z] at h
      by_cases y : s = 3
      · rw [if_pos y] at h
        have := ih _ h.2
        omega
      · rw [if_neg y] at h
        have := ih _ h
        omega
/-- the Scout's stack -/
def cs_K (f : Int → Int) : List rd_fr → Prop
  | [] => True
  | x :: s => f s.length = x.1.1 * 6 + x.1.2 ∧ cs_K f s
theorem cs_K.set {f : Int → Int} {k v : Int} : ∀ {s : List rd_fr}, (s.length : Int) ≤ k → cs_K f s → cs_K (am_u1 f k v) s := by
  intro s
  induction s with
  | nil => intro _ _; trivial
  | cons x s ih =>
    intro hk h
    rw [List.length_cons] at hk
    exact ⟨by rw [am_u1_ne (by omega)]; exact h.1, ih (by omega) h.2⟩
theorem c_scout (d : Nat) {m o : Nat} {P : am_P} {c : rd_ch} (hRo : am_isR o) (hM : cd_M σ m P) (hO : cd_O σ o c) (hl : (c.length : Int) ≤ 492) : am_MI G (d + 3) mX5_canReadBehind [am_r (some 28), am_r (some m), am_r (some o)] σ (fun x σ' => ((x = 1 ∧ rd_rf P (rd_sg c) rd_0 0 = -1) ∨ (x = 0 ∧ rd_rf P (rd_sg c) rd_0 0 ≠ -1)) ∧ am_only [29] σ σ') := by
  have hs2 := shR2 hRo
  have hs3 := shR3 hRo
  have hrs := am_rs_le o
  have haro := hRo.ge
  obtain ⟨m1, m2, m3, m4, m5⟩ := id hM
  have hm1 := m1.1
  obtain ⟨⟨pS1, pS2⟩, ⟨pR1, pR2⟩, -, -, -, poT, poM, pcT⟩ := id m4
  have keep : ∀ τ, am_only [29] σ τ → cd_O τ o c ∧ cd_M τ m P := fun τ h => ⟨hO.of (h.1 _ (by simp; omega)) (h.1 _ (by simp; omega)) (h.1 _ (by simp; omega)), cd_M_of (fun b y1 y2 => h.1 b (by simp; omega)) hM⟩
  refine am_M.go (by decide) (Nat.le_of_ble_eq_true rfl) rfl ?_
  generalize hQ : (fun (x : Int) (σ' : am_D) => ((x = 1 ∧ rd_rf P (rd_sg c) rd_0 0 = -1) ∨ (x = 0 ∧ rd_rf P (rd_sg c) rd_0 0 ≠ -1)) ∧ am_only [29] σ σ') = Q
  refine S_X5_canReadBehind_0 ?_
  refine S_X5_canReadBehind_2 ?_
  refine S_X5_canReadBehind_5 hRo ?_
  refine S_X5_canReadBehind_11 ?_
  have no : ∀ τ, am_only [29] σ τ → rd_rf P (rd_sg c) rd_0 0 ≠ -1 → am_X (am_FI G (d + 3) Q) mX5_canReadBehind (0, 0) 128 [none, none, none, none, none, none, none, none] [] (am_K0, τ) := by
    intro τ ho hrf
    refine S_X5_canReadBehind_128 (S_X5_canReadBehind_129 (Or.inl rfl) ?_)
    rw [← hQ]
    exact ⟨Or.inr ⟨rfl, hrf⟩, ho⟩
  have refd : ∀ (τ : am_D) (v4 v5 v6 : Int), am_only [29] σ τ → rd_rf P (rd_sg c) rd_0 0 ≠ -1 → 0 ≤ v6 ∧ v6 ≤ 500 → am_X (am_FI G (d + 3) Q) mX5_canReadBehind (0, 0) 14 [some (am_r (some 28)), some (am_r (some m)), some (am_r (some o)), some (am_i (-1)), some (am_i v4), some (am_i v5), some (am_i v6), none] [] (am_K0, τ) := by
    intro τ v4 v5 v6 ho hrf h6
    have h8 := (keep τ ho).1.1.1
    have fin : am_X (am_FI G (d + 3) Q) mX5_canReadBehind (0, 0) 110 [none, some (am_r (some m)), none, some (am_i (-1)), none, none, none, none] [] (am_K0, τ) := S_X5_canReadBehind_110 (by omega) (fun _ => no τ ho hrf) (fun z => absurd rfl z)
    refine S_X5_canReadBehind_14 hRo (by omega) (by omega) (fun _ => fin) (fun _ => ?_)
    exact S_X5_canReadBehind_23 (by omega) (fun _ => fin) (fun z => absurd rfl z)
  have loop : ∀ (t pre : rd_ch) (v : Int) (C : rd_C) (mo : Int) (τ : am_D), c = pre ++ t → am_only [29] σ τ → rd_run P (rd_sg pre) rd_0 0 = some (C, mo) → rd_bal (rd_s C).length (rd_sg t) → cs_K (τ.1 29) (rd_s C) → rd_rf P (rd_sg t) C pre.length = rd_rf P (rd_sg c) rd_0 0 → (∀ p t', t = p :: t' → v = p.1) → am_X (am_FI G (d + 3) Q) mX5_canReadBehind (0, 0) 14 [some (am_r (some 28)), some (am_r (some m)), some (am_r (some o)), some (am_i (rd_q C)), some (am_i (rd_s C).length), some (am_i v), some (am_i pre.length), none] [] (am_K0, τ) := by
    intro t
    induction t with
    | nil =>
      intro pre v C mo τ hcp ho hC hbal hK hrf hv
      obtain ⟨hO', hM'⟩ := keep τ ho
      have h8 := hO'.1.1
      rw [List.append_nil] at hcp
      subst hcp
      have hI := (rd_run_inv m4 m5 (rd_sg c) rd_0 C 0 mo hO.2.2.2.2.1 (rd_I_0 m4) ⟨Int.le_refl _, Int.le_refl _⟩ hC).1
      have hq := hI.1
      have hbal : ((rd_s C).length : Int) = 0 := hbal
      have hs : rd_s C = [] := List.eq_nil_of_length_eq_zero (by omega)
      have hE := hM'.2.1.2.2.2 (rd_q C) (by omega) (by omega)
      have hrf : (if rd_cb P C then -1 else (c.length : Int)) = rd_rf P (rd_sg c) rd_0 0 := hrf
      refine S_X5_canReadBehind_14 hRo (by omega) (by omega) (fun _ => ?_) (fun z => absurd (by omega) z)
      refine S_X5_canReadBehind_110 (by omega) (fun z => absurd z (by omega)) (fun _ => ?_)
      refine S_X5_canReadBehind_115 (c_endTells _ m1 (by omega)) m1 ?_
      rintro _ _ ⟨rfl, rfl⟩
      rw [if_pos (by omega)]
      have hb := hM'.b
      cases he : pm_eX P (rd_q C) with
      | none =>
        rw [he] at hE
        have hE : τ.1 (m + 5) (rd_q C) = -1 := hE
        rw [hE]
        refine S_X5_canReadBehind_120 (by omega) (fun _ => ?_) (fun y => absurd rfl y)
        refine no τ ho ?_
        rw [if_neg (fun z => (rd_cb_iff.mp z).2 he)] at hrf
        omega
      | some u =>
        rw [he] at hE
        have hE : cm_X τ m (τ.1 (m + 5) (rd_q C)) u := hE
        have h0 := hE.1
        have h01 := hE.2.1
        refine S_X5_canReadBehind_120 (by omega) (fun y => absurd y (by omega)) (fun _ => ?_)
        refine S_X5_canReadBehind_124 (S_X5_canReadBehind_129 (Or.inr rfl) ?_)
        rw [if_pos (rd_cb_iff.mpr ⟨hs, by rw [he]; exact fun y => nomatch y⟩)] at hrf
        rw [← hQ]
        exact ⟨Or.inl ⟨rfl, hrf.symm⟩, ho⟩
    | cons p t ih =>
      intro pre v C mo τ hcp ho hC hbal hK hrf hv
      obtain ⟨hO', hM'⟩ := keep τ ho
      have h8 := hO'.1.1
      have hvp := hv p t rfl
      subst hvp
      obtain ⟨k1, k2, k3, k4⟩ := hO'.at hcp
      have hcl : c.length = pre.length + (t.length + 1) := by rw [hcp, List.length_append]; rfl
      have hlen1 : ((pre ++ [p]).length : Int) = pre.length + 1 := by rw [List.length_append]; rfl
      have hpl : (rd_sg pre).length = pre.length := by unfold rd_sg; rw [List.length_map]
      have hsg1 : rd_sg (pre ++ [p]) = rd_sg pre ++ [p.2] := by unfold rd_sg; rw [List.map_append]; rfl
      have hpre : ∀ e ∈ rd_sg pre, 0 ≤ e ∧ e ≤ 3 := fun e he => hO.2.2.2.2.1 e (by rw [hcp]; unfold rd_sg at he ⊢; rw [List.map_append]; exact List.mem_append_left _ he)
      obtain ⟨hI, -, hlq, -⟩ := rd_run_inv m4 m5 (rd_sg pre) rd_0 C 0 mo hpre (rd_I_0 m4) ⟨Int.le_refl _, Int.le_refl _⟩ hC
      have hq := hI.1
      have e00 : (rd_s rd_0).length = 0 := rfl
      rw [e00, hpl] at hlq
      have hrf : (match rd_step P C p.2 with
        | none => (pre.length : Int)
        | some C' => rd_rf P (rd_sg t) C' (pre.length + 1)) = rd_rf P (rd_sg c) rd_0 0 := hrf
      have htl : (rd_sg t).length = t.length := by unfold rd_sg; rw [List.length_map]
      have hbal : (if p.2 < 3 then rd_bal ((rd_s C).length + 1) (rd_sg t) else if p.2 = 3 then (0 : Int) < (rd_s C).length ∧ rd_bal ((rd_s C).length - 1) (rd_sg t) else rd_bal (rd_s C).length (rd_sg t)) := hbal
      refine S_X5_canReadBehind_14 hRo (by omega) (by omega) (fun z => absurd z (by omega)) (fun _ => ?_)
      refine S_X5_canReadBehind_23 (by omega) (fun z => absurd z (by omega)) (fun _ => ?_)
      refine S_X5_canReadBehind_28 hRo (c_at _ hs2 (by omega)) ?_
      rintro _ _ ⟨rfl, rfl⟩
      rw [if_pos (by omega), k1]
      refine S_X5_canReadBehind_39 hRo (c_at _ hs3 (by omega)) ?_
      rintro _ _ ⟨rfl, rfl⟩
      rw [if_pos (by omega)]
      have k2' : ∀ q t', t = q :: t' → τ.1 (o + 3) p.1 = q.1 := k2
      generalize τ.1 (o + 3) p.1 = nd at k2' ⊢
      refine S_X5_canReadBehind_50 (by omega) (fun z => ?_) (fun z => ?_)
      · rw [if_pos (by omega)] at hbal
        have hble := rd_bal_le _ _ hbal
        have hT := m2.2.1 p.2 (rd_q C) (by omega) (by omega) (by omega) (by omega)
        have r1 : τ.1 (m + 1) = σ.1 (m + 1) := ho.1 _ (by simp; omega)
        have r2 : τ.1 (m + 2) = σ.1 (m + 2) := ho.1 _ (by simp; omega)
        refine S_X5_canReadBehind_77 (c_lays _ m1 (by omega) (by omega)) m1 ?_
        rintro _ _ ⟨rfl, rfl⟩
        rw [if_pos (by omega), r2]
        refine S_X5_canReadBehind_90 (c_put _ sh_29 (by omega)) ?_
        intro τ2 h2
        rw [if_pos (by omega)] at h2
        subst h2
        refine S_X5_canReadBehind_93 ?_
        have ho2 := ho.trans (am_only.pI (S := [29]) (a := 29) (k := (rd_s C).length) (x := σ.1 (m + 2) (p.2 * 6 + rd_q C)) (by simp))
        have f1 : (am_pI τ 29 (rd_s C).length (σ.1 (m + 2) (p.2 * 6 + rd_q C))).1 29 = am_u1 (τ.1 29) (rd_s C).length (σ.1 (m + 2) (p.2 * 6 + rd_q C)) := am_pI_row
        generalize am_pI τ 29 (rd_s C).length (σ.1 (m + 2) (p.2 * 6 + rd_q C)) = τ2 at ho2 f1 ⊢
        have r1' : τ2.1 (m + 1) = σ.1 (m + 1) := ho2.1 _ (by simp; omega)
        refine S_X5_canReadBehind_96 (c_opensTo _ m1 (by omega) (by omega)) m1 ?_
        rintro _ _ ⟨rfl, rfl⟩
        rw [if_pos (by omega), r1', hT.1]
        refine S_X5_canReadBehind_104 ?_
        have hst : rd_step P C p.2 = rd_open P C p.2 := by unfold rd_step; rw [if_neg z]
        rw [hst] at hrf
        by_cases y : pm_oT P p.2 (rd_q C) = -1
        · have hop : rd_open P C p.2 = none := by unfold rd_open; rw [if_pos y]
          rw [hop] at hrf
          have hrf : (pre.length : Int) = rd_rf P (rd_sg c) rd_0 0 := hrf
          rw [y]
          exact refd τ2 _ _ _ ho2 (by omega) (by omega)
        · have hop : rd_open P C p.2 = some ((pm_oT P p.2 (rd_q C), rd_u C), (((p.2, pm_oM P p.2 (rd_q C)), rd_r C) :: rd_s C, rd_nil)) := by unfold rd_open; rw [if_neg y]
          rw [hop] at hrf
          have := ih (pre ++ [p]) nd ((pm_oT P p.2 (rd_q C), rd_u C), (((p.2, pm_oM P p.2 (rd_q C)), rd_r C) :: rd_s C, rd_nil)) _ τ2 (by rw [hcp, List.append_assoc]; rfl) ho2 (by rw [hsg1]; exact rd_run_snoc hC (hst.trans hop)) (by show rd_bal (((rd_s C).length + 1 : Nat) : Int) _; exact hbal) ⟨by rw [f1, am_u1_eq]; exact hT.2 y, by rw [f1]; exact hK.set (Int.le_refl _)⟩ (by rw [hlen1]; exact hrf) k2'
          rw [hlen1] at this
          exact this
      · have z := Classical.not_not.mp z
        rw [if_neg (by omega), if_pos z] at hbal
        have hble := rd_bal_le _ _ hbal.2
        rw [z] at hrf
        have hst : rd_step P C 3 = rd_close P C := by unfold rd_step; rw [if_pos rfl]
        rw [hst] at hrf
        cases hs : rd_s C with
        | nil => rw [hs] at hbal; exact absurd hbal.1 (by simp)
        | cons f s =>
          have hf := hI.2.1 f (by rw [hs]; exact List.mem_cons_self)
          have hcl' : rd_close P C = rd_shut P C f s := by unfold rd_close; rw [hs]
          rw [hcl'] at hrf
          rw [hs] at hK hbal
          have hsl : (((f :: s).length : Nat) : Int) = s.length + 1 := by rw [List.length_cons]; omega
          rw [hsl] at hbal ⊢
          rw [hs, hsl] at hble
          rw [hs, hsl] at hlq
          refine S_X5_canReadBehind_56 ?_
          rw [show (s.length : Int) + 1 + -1 = s.length by omega]
          refine S_X5_canReadBehind_59 (c_at _ sh_29 (by omega)) ?_
          rintro x _ ⟨hx, rfl⟩
          rw [if_pos (by omega), hK.1] at hx
          subst hx
          have hT := m2.2.2.1 f.1.1 (rd_q C) f.1.2 (by omega) (by omega) (by omega) (by omega) (by omega) (by omega)
          have r3 : τ.1 (m + 3) = σ.1 (m + 3) := ho.1 _ (by simp; omega)
          refine S_X5_canReadBehind_69 (c_closesTo _ m1 (by omega) (by omega)) m1 ?_
          rintro _ _ ⟨rfl, rfl⟩
          rw [if_pos (by omega), r3, hT.1]
          refine S_X5_canReadBehind_74 ?_
          refine S_X5_canReadBehind_104 ?_
          by_cases y : pm_cT P f.1.1 (rd_q C) f.1.2 = -1
          · have hop : rd_shut P C f s = none := by unfold rd_shut; rw [if_pos y]
            rw [hop] at hrf
            have hrf : (pre.length : Int) = rd_rf P (rd_sg c) rd_0 0 := hrf
            rw [y]
            exact refd τ _ _ _ ho (by omega) (by omega)
          · have hop : rd_shut P C f s = some ((pm_cT P f.1.1 (rd_q C) f.1.2, (rd_es (rd_r C) f.2 (pm_cX P f.1.1 (rd_q C) f.1.2) [] (rd_u C)).2), (s, rd_rs (rd_es (rd_r C) f.2 (pm_cX P f.1.1 (rd_q C) f.1.2) [] (rd_u C)).1)) := by unfold rd_shut; rw [if_neg y]
            rw [hop] at hrf
            have := ih (pre ++ [p]) nd _ _ τ (by rw [hcp, List.append_assoc]; rfl) ho (by rw [hsg1, z]; exact rd_run_snoc hC (hst.trans (hcl'.trans hop))) (by have := hbal.2; rw [show (s.length : Int) + 1 - 1 = s.length by omega] at this; exact this) hK.2 (by rw [hlen1]; exact hrf) k2'
            rw [hlen1] at this
            exact this
  exact loop c [] _ rd_0 0 σ rfl am_only.rfl' rfl hO.2.2.2.2.2 trivial rfl (fun p s e => by have := hO.1.2.1 p s e; rw [Int.zero_add] at this; exact this)
end
