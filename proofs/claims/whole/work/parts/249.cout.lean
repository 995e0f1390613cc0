section
theorem rd_len_u {c : rd_ch} {u : Int} (hu : 0 ≤ u) (h1 : (rd_nd c).Nodup) (h2 : ∀ x ∈ rd_nd c, 0 ≤ x ∧ x < u) : (c.length : Int) ≤ u := by
  have := rd_pig u.toNat (rd_nd c) h1 (fun x hx => by have := h2 x hx; omega)
  unfold rd_nd at this
  rw [List.length_map] at this
  omega
variable {G : am_G} {σ : am_D}
/-- an EXPRESSION, over the links -/
theorem c_putI (d : Nat) {a m : Nat} {e now under u R : Int} {w : List Int} {X Y : rd_rg} {pre post : List (List Int)} (hR : am_isR a) (hm : am_isM m) (hmm : σ.2.2 a 4 = some m) (hX : cm_X σ m e w) (h14 : σ.1 m 14 ≤ 72) (h15 : σ.1 m 15 ≤ 432) (hR3 : R ≤ 3) (hx : pm_ex R true (pre ++ w :: post).flatten) (hap : rd_ap (rd_c3 X ++ rd_c3 Y) u) (hu : 0 ≤ u) (hnow : 0 ≤ now ∧ now + 16 ≤ am_rc a) (hund : 0 ≤ under ∧ under + 16 ≤ am_rc a)
    (hr1 : ∀ r : Int, 0 ≤ r → r < R → rd_rp 0 (X r) (σ.1 (a + 1) (now + 7 + 3 * r)) (σ.1 (a + 1) (now + 7 + 3 * r + 1)) (σ.1 (a + 1) (now + 7 + 3 * r + 2))) (hr2 : ∀ r : Int, 0 ≤ r → r < R → 8 + r ∈ w → rd_rp 0 (Y r) (σ.1 (a + 1) (under + 7 + 3 * r)) (σ.1 (a + 1) (under + 7 + 3 * r + 1)) (σ.1 (a + 1) (under + 7 + 3 * r + 2)))
    (hus : σ.1 a 3 = (rd_es X Y pre [] u).2) (huR : (rd_es X Y (pre ++ [w]) [] u).2 ≤ am_rs a) (hK : rd_G 0 (σ.1 (a + 3)) (σ.1 (a + 2)) (rd_c3 X ++ rd_c3 Y)) (hE : rd_G 0 (σ.1 (a + 3)) (σ.1 (a + 2)) (rd_es X Y pre [] u).1) :
    am_MV G (d + 2) mX3_putTogether [am_r (some a), am_i e, am_i now, am_i under] σ (fun σ' => (am_only [a, a + 2, a + 3] σ σ' ∧ am_kpt [3, 6, 7, 8] (σ.1 a) (σ'.1 a)) ∧ rd_rp 0 (rd_ev X Y w ([], σ.1 a 3)).1 (σ'.1 a 6) (σ'.1 a 7) (σ'.1 a 8) ∧ σ'.1 a 3 = (rd_es X Y (pre ++ [w]) [] u).2 ∧ (rd_es X Y (pre ++ [w]) [] u).1 = (rd_es X Y pre [] u).1 ++ [(rd_ev X Y w ([], σ.1 a 3)).1] ∧ rd_G 0 (σ'.1 (a + 3)) (σ'.1 (a + 2)) (rd_es X Y (pre ++ [w]) [] u).1 ∧ ∀ L, rd_sf L (rd_c3 X ++ rd_c3 Y) u → rd_G 0 (σ.1 (a + 3)) (σ.1 (a + 2)) L → rd_G 0 (σ'.1 (a + 3)) (σ'.1 (a + 2)) L) := by
  have hmw : ∀ t ∈ w, t ∈ (pre ++ w :: post).flatten := fun t ht => List.mem_flatten.mpr ⟨w, by simp, ht⟩
  have hrg : ∀ t ∈ w, 0 ≤ t ∧ t ≤ 10 ∧ t ≠ 7 := fun t ht => by have := hx.1 t (hmw t ht); omega
  have hes : ∀ (a b : List (List Int)) (cs : List rd_ch) (v : Int), rd_es X Y (a ++ b) cs v = rd_es X Y b (rd_es X Y a cs v).1 (rd_es X Y a cs v).2 := by
    intro a
    induction a with
    | nil => intro b cs v; rfl
    | cons y a ih => intro b cs v; exact ih b _ _
  have hev : (rd_es X Y (pre ++ [w]) [] u).2 = (rd_ev X Y w ([], σ.1 a 3)).2 := by rw [hes, hus]; rfl
  have hev2 := rd_ev_u (X := X) (Y := Y) w ([], σ.1 a 3)
  have hev2 : (rd_ev X Y w ([], σ.1 a 3)).2 = σ.1 a 3 + _ := hev2
  have hfl := rd_es_flat (X := X) (Y := Y) pre [] u
  have hu2 := rd_ev_u (X := X) (Y := Y) pre.flatten ([], u)
  rw [← hfl.2, ← hus] at hu2
  have hu2 : σ.1 a 3 = u + _ := hu2
  -- the rows in the cells
  have hrp : ∀ t ∈ w, 4 ≤ t → rd_rp 0 (rd_cp X Y t) (σ.1 (a + 1) (pt_row now under t)) (σ.1 (a + 1) (pt_row now under t + 1)) (σ.1 (a + 1) (pt_row now under t + 2)) ∧ 0 ≤ pt_row now under t ∧ pt_row now under t + 2 < am_rc a := by
    intro t ht h4
    have h := hx.1 t (hmw t ht)
    unfold pt_row rd_cp
    by_cases z : t < 8
    · rw [if_pos z, if_pos z, if_pos z]
      exact ⟨hr1 (t - 4) (by omega) (by omega), by omega, by omega⟩
    · rw [if_neg z, if_neg z, if_neg z]
      exact ⟨hr2 (t - 8) (by omega) (by omega) (by rw [show 8 + (t - 8) = t by omega]; exact ht), by omega, by omega⟩
  have hcp : ∀ t ∈ w, 4 ≤ t → rd_cp X Y t ∈ rd_c3 X ++ rd_c3 Y := by
    intro t ht h4
    obtain ⟨i, hi, e, -⟩ := rd_six (X := X) (Y := Y) hR3 hx (hmw t ht) h4
    exact List.mem_of_getElem? e
  have hrs := am_rs_le a
  refine am_M.mono (c_putTogether d hR hm hmm hX h14 h15 hrg (by omega) ?_) ?_
  · intro t ht h4
    obtain ⟨h1, h2, h3⟩ := hrp t ht h4
    have hc := hap.1 _ (hcp t ht h4)
    have hl := rd_len_u hu hc.1 hc.2
    refine ⟨⟨h2, h3⟩, by rw [h1.1]; omega, fun hz => ?_⟩
    have hne : rd_cp X Y t ≠ [] := by
      intro e
      rw [h1.1, e] at hz
      exact hz rfl
    obtain ⟨s, p, ep⟩ := rd_concat hne
    rw [h1.2.2 s p ep]
    have := hc.2 p.1 (by rw [ep, rd_nd_app]; simp [rd_nd])
    omega
  · rintro _ _ ⟨σ', rfl, rfl, hpost⟩
    refine ⟨σ', rfl, rfl, ⟨hpost.1, hpost.2.1⟩, ?_⟩
    obtain ⟨k1, k2, k3, k4, k5, k6, k7⟩ := rd_put (o := 0) (u := u) (R := R) (X := X) (Y := Y) (Z := pt_Z (σ.1 (a + 1)) now under) (pre := pre) (post := post) (w := w) (s := ((σ.1 (a + 3), σ.1 (a + 2)), ((-1, -1), (0, σ.1 a 3)))) hR3 hx hap hu (fun t ht h4 => (hrp t ht h4).1) rfl hus hK hE
    have hg := hpost.2.2
    generalize pt_run 0 (pt_Z (σ.1 (a + 1)) now under) w ((σ.1 (a + 3), σ.1 (a + 2)), ((-1, -1), (0, σ.1 a 3))) = S at hg k1 k2 k3 k5 k6 k7
    have g6 : σ'.1 a 6 = pt_a S := by rw [← hg]; rfl
    have g7 : σ'.1 a 7 = pt_b S := by rw [← hg]; rfl
    have g8 : σ'.1 a 8 = pt_n S := by rw [← hg]; rfl
    have g3 : σ'.1 a 3 = pt_u S := by rw [← hg]; rfl
    have gf : σ'.1 (a + 3) = pt_f S := by rw [← hg]; rfl
    have gg : σ'.1 (a + 2) = pt_g S := by rw [← hg]; rfl
    rw [g6, g7, g8, g3, gf, gg]
    exact ⟨k1, k2, k4, k3, fun L hs hL => hL.keep hs k5 k6⟩
def cd_sx (X Y : rd_rg) : Nat → Int
  | 0 => 0
  | n + 1 => cd_sx X Y n + (X n).length + (Y n).length
theorem rd_run_drop {P : am_P} {w : List Int} {i : Nat} {C C' : rd_C} {m m' : Int} (h1 : rd_run P (w.take i) rd_0 0 = some (C', m')) (h2 : rd_run P w rd_0 0 = some (C, m)) : rd_run P (w.drop i) C' m' = some (C, m) := by
  rw [← List.take_append_drop i w, rd_run_app, h1] at h2
  exact h2
theorem c_stepOut (d : Nat) {a m : Nat} {P : am_P} {w : List Int} {mo : Int} {C : rd_C} (hR : am_isR a) (hI : cd_I σ a m P w) (hroom : (w.length : Int) + 1 ≤ 2 * cd_k a) (hroom3 : (rd_c3n w : Int) + 1 ≤ cd_k a) (hC : rd_run P w rd_0 0 = some (C, mo)) : am_MI G (d + 3) mX3_stepOut [am_r (some a)] σ (fun x σ' => (x = 0 ∧ rd_close P C = none ∧ σ = σ') ∨ (x = 1 ∧ (∃ C', rd_close P C = some C') ∧ am_only [a, a + 1, a + 2, a + 3] σ σ' ∧ cd_I σ' a m P (w ++ [3]))) := by
  obtain ⟨z1, z2, z3, z4, z5⟩ := cd_sz hR
  obtain ⟨C0, mo0, hC0, ⟨i1, i2, i3, i4⟩, i5, -⟩ := hI.C
  rw [hC] at hC0
  injection hC0 with hC0
  injection hC0 with e1 e2
  subst e1; subst e2
  obtain ⟨h1, hM, ⟨h3, h4, h5, h6⟩, cf, h7⟩ := id hI
  obtain ⟨m1, m2, m3, m4, m5⟩ := id hM
  have hm1 := m1.1
  have hb := hM.b
  obtain ⟨⟨pS1, pS2⟩, ⟨pR1, pR2⟩, -, -, -, poT, poM, pcT⟩ := id m4
  have h9 := h7 w.length (Nat.le_refl _)
  rw [List.take_length, hC] at h9
  have hcf : (C, mo) = cf w.length := Option.some.inj h9.1
  have h9 : cd_X σ a (pm_R P) w.length C mo ∧ cd_V σ a cf w.length (rd_s C) ∧ rd_G 0 (σ.1 (a + 3)) (σ.1 (a + 2)) (rd_all C) := by rw [← hcf] at h9; exact h9.2
  obtain ⟨⟨⟨x20, x21, x22, x23, x26⟩, x2r⟩, x3, x4⟩ := h9
  have hq := i1.1
  refine am_M.go (by decide) (Nat.le_of_ble_eq_true rfl) rfl ?_
  refine S_X3_stepOut_0 hR ?_
  rw [h3]
  refine S_X3_stepOut_8 ?_
  refine S_X3_stepOut_13 hR (fun z => absurd z (by rw [h1]; exact fun y => nomatch y)) (fun b hb => ?_)
  rw [h1] at hb
  injection hb with hb
  subst hb
  refine S_X3_stepOut_20 (by omega) (fun z => absurd z (by omega)) (fun _ => ?_)
  refine S_X3_stepOut_24 hR (by omega) (by omega) (fun _ => ?_) (fun z => absurd (by omega) z)
  refine S_X3_stepOut_38 hR (by omega) (by omega) ?_
  cases hs : rd_s C with
  | nil =>
    rw [hs] at x3
    have x34 : σ.1 (a + 1) ((w.length : Int) * 16 + 4) = -1 := x3.1
    have x35 : σ.1 (a + 1) ((w.length : Int) * 16 + 5) = -1 := x3.2
    rw [x34]
    refine S_X3_stepOut_47 hR h1 (by omega) (by omega) (by omega) (by omega) (c_closesTo _ m1 (by rw [x35]; omega) (by rw [x20]; omega)) m1 ?_
    rintro _ _ ⟨rfl, rfl⟩
    refine S_X3_stepOut_72 (by omega) (fun _ => ?_) (fun y => absurd (by omega) y)
    refine S_X3_stepOut_87 (Or.inl ⟨rfl, ?_, rfl⟩)
    unfold rd_close
    rw [hs]
  | cons f s =>
    rw [hs] at x3
    obtain ⟨x35, j, hj, x34, hjr, hjs⟩ := x3
    rw [x34]
    have hf := i1.2.1 f (by rw [hs]; exact List.mem_cons_self)
    refine S_X3_stepOut_47 hR h1 (by omega) (by omega) (by omega) (by omega) (c_closesTo _ m1 (by rw [x35]; omega) (by rw [x20]; omega)) m1 ?_
    rintro _ _ ⟨rfl, rfl⟩
    rw [x35, x20, if_pos (by omega)]
    have hT := m2.2.2.1 f.1.1 (rd_q C) f.1.2 (by omega) (by omega) (by omega) (by omega) (by omega) (by omega)
    rw [hT.1]
    have hcT := pcT f.1.1 (rd_q C) f.1.2
    refine S_X3_stepOut_72 (by omega) (fun y => absurd y (by omega)) (fun _ => ?_)
    refine S_X3_stepOut_76 (by omega) (by omega) (fun y => absurd y (by omega)) (fun _ => ?_)
    refine S_X3_stepOut_81 (by omega) (fun z => ?_) (fun z => ?_)
    rotate_left
    · have z := Classical.not_not.mp z
      refine S_X3_stepOut_87 (Or.inl ⟨rfl, ?_, rfl⟩)
      unfold rd_close
      rw [hs]
      show rd_shut P C f s = none
      unfold rd_shut
      rw [if_pos z]
    have hsh : rd_shut P C f s = some ((pm_cT P f.1.1 (rd_q C) f.1.2, (rd_es (rd_r C) f.2 (pm_cX P f.1.1 (rd_q C) f.1.2) [] (rd_u C)).2), (s, rd_rs (rd_es (rd_r C) f.2 (pm_cX P f.1.1 (rd_q C) f.1.2) [] (rd_u C)).1)) := by
      unfold rd_shut
      rw [if_neg z]
    have hcl : rd_close P C = some ((pm_cT P f.1.1 (rd_q C) f.1.2, (rd_es (rd_r C) f.2 (pm_cX P f.1.1 (rd_q C) f.1.2) [] (rd_u C)).2), (s, rd_rs (rd_es (rd_r C) f.2 (pm_cX P f.1.1 (rd_q C) f.1.2) [] (rd_u C)).1)) := by
      unfold rd_close
      rw [hs]
      exact hsh
    have hst : rd_step P C 3 = some ((pm_cT P f.1.1 (rd_q C) f.1.2, (rd_es (rd_r C) f.2 (pm_cX P f.1.1 (rd_q C) f.1.2) [] (rd_u C)).2), (s, rd_rs (rd_es (rd_r C) f.2 (pm_cX P f.1.1 (rd_q C) f.1.2) [] (rd_u C)).1)) := by
      unfold rd_step
      rw [if_pos rfl]
      exact hcl
    obtain ⟨j1, j2, j3, j4, j5⟩ := rd_shut_I m4 m5 hs i1 hsh
    have hxs := hT.2 z
    obtain ⟨hx, hbal⟩ := m5.1 f.1.1 (rd_q C) f.1.2 z
    have hlen := hcT.2.2 z
    generalize hto : pm_cT P f.1.1 (rd_q C) f.1.2 = to at *
    generalize pm_cX P f.1.1 (rd_q C) f.1.2 = ws at *
    have hall0 : rd_all C = rd_c3 (rd_r C) ++ rd_c3 f.2 ++ s.flatMap (fun f => rd_c3 f.2) := by
      unfold rd_all
      rw [hs, List.flatMap_cons, List.append_assoc]
    have hap : rd_ap (rd_c3 (rd_r C) ++ rd_c3 f.2) (rd_u C) := by
      have := i1.2.2.2.2.1
      rw [hall0] at this
      exact this.app.1
    have hKsub : ∀ c ∈ rd_c3 (rd_r C) ++ rd_c3 f.2, c ∈ rd_all C := fun c hc => by rw [hall0]; exact List.mem_append_left _ hc
    -- snapshots are safe
    have hsf : ∀ i : Nat, i ≤ w.length → rd_sf (rd_all (cf i).1) (rd_c3 (rd_r C) ++ rd_c3 f.2) (rd_u C) := by
      intro i hi
      obtain ⟨y1, -⟩ := h7 i hi
      have y2 := rd_run_inv m4 m5 (w.take i) rd_0 (cf i).1 0 (cf i).2 (fun e he => h4 e (List.mem_of_mem_take he)) (rd_I_0 m4) ⟨Int.le_refl _, Int.le_refl _⟩ y1
      have y3 := rd_run_drop (P := P) (w := w) (i := i) (C' := (cf i).1) (m' := (cf i).2) y1 hC
      exact (rd_sf_run m4 m5 (fun e he => h4 e (List.mem_of_mem_drop he)) y2.1 y2.2.2.2.1 y3).sub hKsub
    obtain ⟨yj1, ⟨⟨yj0, yj11, yj2, yj3, yj6⟩, yjr⟩, yj4, -⟩ := h7 j (by omega)
    have hji : (j : Int) < w.length := by omega
    refine S_X3_stepOut_89 hR (by omega) (by omega) ?_
    rw [am_pI_sr0]
    refine S_X3_stepOut_99 hR (by omega) (by omega) (by omega) (by omega) ?_
    rw [am_pI_sr, am_sr_at, am_u1_ne (by omega), yj11, hjs]
    refine S_X3_stepOut_115 hR (by omega) (by omega) (by omega) (by omega) ?_
    rw [am_pI_sr, am_sr_at, am_u1_ne (by omega), am_u1_ne (by omega)]
    refine S_X3_stepOut_131 hR (by omega) (by omega) (by omega) (by omega) ?_
    rw [am_pI_sr, am_sr_at, am_u1_ne (by omega), am_u1_ne (by omega), am_u1_ne (by omega)]
    generalize hg : am_u1 (am_u1 (am_u1 (am_u1 (σ.1 (a + 1)) ((w.length : Int) * 16 + 16 + 0) to) ((w.length : Int) * 16 + 16 + 1) (s.length : Int)) ((w.length : Int) * 16 + 16 + 4) (σ.1 (a + 1) ((j : Int) * 16 + 4))) ((w.length : Int) * 16 + 16 + 5) (σ.1 (a + 1) ((j : Int) * 16 + 5)) = g
    have vk : ∀ k : Int, k < (w.length : Int) * 16 + 16 → g k = σ.1 (a + 1) k := by
      intro k hk
      rw [← hg, am_u1_ne (by omega), am_u1_ne (by omega), am_u1_ne (by omega), am_u1_ne (by omega)]
    have v0 : g ((w.length : Int) * 16 + 16 + 0) = to := by rw [← hg, am_u1_ne (by omega), am_u1_ne (by omega), am_u1_ne (by omega), am_u1_eq]
    have v1 : g ((w.length : Int) * 16 + 16 + 1) = s.length := by rw [← hg, am_u1_ne (by omega), am_u1_ne (by omega), am_u1_eq]
    have v4 : g ((w.length : Int) * 16 + 16 + 4) = σ.1 (a + 1) ((j : Int) * 16 + 4) := by rw [← hg, am_u1_ne (by omega), am_u1_eq]
    have v5 : g ((w.length : Int) * 16 + 16 + 5) = σ.1 (a + 1) ((j : Int) * 16 + 5) := by rw [← hg, am_u1_eq]
    clear hg
    refine S_X3_stepOut_147 hR h1 (by omega) (by omega) (by omega) (by omega) (c_closeTells _ m1 (by rw [am_sr_at, vk _ (by omega), x35]; omega) (by rw [am_sr_at, vk _ (by omega), x20]; omega)) m1 ?_
    rintro _ _ ⟨rfl, rfl⟩
    rw [am_sr_at, vk _ (by omega), vk _ (by omega), x35, x20, if_pos (by omega), am_sr_of (show m + 4 ≠ a + 1 by omega)]
    generalize σ.1 (m + 4) ((f.1.1 * 6 + f.1.2) * 6 + rd_q C) = e0 at hxs ⊢
    refine S_X3_stepOut_172 hR (by omega) (by omega) ?_
    rw [am_sr_at, vk _ (by omega), x22]
    refine S_X3_stepOut_182 hR (by omega) (by omega) ?_
    rw [am_sr_at, vk _ (by omega), x26]
    refine S_X3_stepOut_195 ?_
    have hhe := rd_held2 i1
    have hlens := i1.lens
    rw [hs] at hhe hlens
    have hls : rd_ls (f :: s) = rd_l3 f.2 + rd_ls s := rfl
    rw [hls] at hhe hlens
    have hl3x : rd_l3 (rd_r C) = ((rd_r C) 0).length + ((rd_r C) 1).length + ((rd_r C) 2).length := rfl
    have hl3y : rd_l3 f.2 = (f.2 0).length + (f.2 1).length + (f.2 2).length := rfl
    -- the loop
    have loop : ∀ (post pre : List (List Int)) (v6 : Int) (τ : am_D), ws = pre ++ post → (am_only [a, a + 1, a + 2, a + 3] σ τ ∧ am_kpt [3, 6, 7, 8] (σ.1 a) (τ.1 a)) → (∀ k : Int, k < (w.length : Int) * 16 + 16 → τ.1 (a + 1) k = σ.1 (a + 1) k) → (τ.1 (a + 1) ((w.length : Int) * 16 + 16 + 0) = to ∧ τ.1 (a + 1) ((w.length : Int) * 16 + 16 + 1) = s.length ∧ τ.1 (a + 1) ((w.length : Int) * 16 + 16 + 4) = σ.1 (a + 1) ((j : Int) * 16 + 4) ∧ τ.1 (a + 1) ((w.length : Int) * 16 + 16 + 5) = σ.1 (a + 1) ((j : Int) * 16 + 5)) → (∀ r : Nat, r < pre.length → rd_rp 0 ((rd_es (rd_r C) f.2 pre [] (rd_u C)).1.getD r []) (τ.1 (a + 1) ((w.length : Int) * 16 + 16 + 7 + 3 * r)) (τ.1 (a + 1) ((w.length : Int) * 16 + 16 + 7 + 3 * r + 1)) (τ.1 (a + 1) ((w.length : Int) * 16 + 16 + 7 + 3 * r + 2))) → τ.1 a 3 = (rd_es (rd_r C) f.2 pre [] (rd_u C)).2 → rd_G 0 (τ.1 (a + 3)) (τ.1 (a + 2)) (rd_es (rd_r C) f.2 pre [] (rd_u C)).1 → (∀ i : Nat, i ≤ w.length → rd_G 0 (τ.1 (a + 3)) (τ.1 (a + 2)) (rd_all (cf i).1)) → 2 * v6 = 2 * rd_held C + (rd_es (rd_r C) f.2 pre [] (rd_u C)).1.flatten.length - cd_sx (rd_r C) f.2 pre.length →
        am_X (am_FI G (d + 3) (fun x σ' => (x = 0 ∧ rd_close P C = none ∧ σ = σ') ∨ (x = 1 ∧ (∃ C', rd_close P C = some C') ∧ am_only [a, a + 1, a + 2, a + 3] σ σ' ∧ cd_I σ' a m P (w ++ [3])))) mX3_stepOut (0, 0) 198 [some (am_r (some a)), some (am_i ((w.length : Int) * 16)), some (am_i ((w.length : Int) * 16 + 16)), some (am_i ((j : Int) * 16)), none, some (am_i e0), some (am_i v6), some (am_i pre.length), none] [] (am_K0, τ) := by
      intro post
      induction post with
      | nil =>
        intro pre v6 τ hws ⟨o1, o2⟩ ok ⟨c0, c1, c4, c5⟩ cr c3 ce cg ch
        rw [List.append_nil] at hws
        subst hws
        have tr : τ.2.2 a 4 = some m := by rw [o1.2]; exact h1
        have tm : ∀ b, m ≤ b → b ≤ m + 7 → τ.1 b = σ.1 b := fun b y1 y2 => o1.1 b (by simp; omega)
        have t1 : τ.1 m 1 = pm_R P := by rw [tm m (by omega) (by omega)]; exact m2.1.2.1
        have t5 : τ.1 a 5 = w.length := by rw [o2 5 (by decide)]; exact h3
        have hel := rd_es_len (X := rd_r C) (Y := f.2) ws [] (rd_u C)
        generalize hE : rd_es (rd_r C) f.2 ws [] (rd_u C) = E at *
        have hel : E.1.length = ws.length := by rw [hel]; simp
        -- how many are HELD
        have hh : v6 = rd_held ((to, E.2), (s, rd_rs E.1)) := by
          have k1 := rd_held2 j1
          have k2 : rd_l3 (rd_rs E.1) = E.1.flatten.length := by
            have g0 : ∀ n : Nat, rd_rs E.1 (n : Int) = E.1.getD n [] := fun n => by unfold rd_rs; rw [if_pos (by omega), Int.toNat_natCast]
            have e0 := g0 0
            have e1 := g0 1
            have e2 := g0 2
            unfold rd_l3
            rw [show (0 : Int) = ((0 : Nat) : Int) from rfl, show (1 : Int) = ((1 : Nat) : Int) from rfl, show (2 : Int) = ((2 : Nat) : Int) from rfl, e0, e1, e2]
            have hl3 : E.1.length ≤ 3 := by omega
            cases h0 : E.1 with
            | nil => simp
            | cons p0 E1 =>
              cases E1 with
              | nil => simp
              | cons p1 E2 =>
                cases E2 with
                | nil => simp
                | cons p2 E3 =>
                  cases E3 with
                  | nil => simp; omega
                  | cons p3 E4 => rw [h0] at hl3; simp at hl3
          have k3 : cd_sx (rd_r C) f.2 ws.length = rd_l3 (rd_r C) + rd_l3 f.2 := by
            have hx0 := i1.2.2.1
            have hy0 := hf.2.2
            have hc : ws.length = 1 ∨ ws.length = 2 ∨ ws.length = 3 := by omega
            have a1 : ws.length ≤ 1 → (rd_r C) 1 = [] ∧ f.2 1 = [] := fun y => ⟨hx0 1 (by omega), hy0 1 (by omega)⟩
            have a2 : ws.length ≤ 2 → (rd_r C) 2 = [] ∧ f.2 2 = [] := fun y => ⟨hx0 2 (by omega), hy0 2 (by omega)⟩
            rcases hc with hc | hc | hc
            · rw [hc]
              have b1 := a1 (by omega)
              have b2 := a2 (by omega)
              rw [hl3x, hl3y, b1.1, b1.2, b2.1, b2.2]
              show (0 : Int) + ((rd_r C) ((0 : Nat) : Int)).length + (f.2 ((0 : Nat) : Int)).length = _
              simp
            · rw [hc]
              have b2 := a2 (by omega)
              rw [hl3x, hl3y, b2.1, b2.2]
              show (0 : Int) + ((rd_r C) ((0 : Nat) : Int)).length + (f.2 ((0 : Nat) : Int)).length + ((rd_r C) ((1 : Nat) : Int)).length + (f.2 ((1 : Nat) : Int)).length = _
              simp
              omega
            · rw [hc, hl3x, hl3y]
              show (0 : Int) + ((rd_r C) ((0 : Nat) : Int)).length + (f.2 ((0 : Nat) : Int)).length + ((rd_r C) ((1 : Nat) : Int)).length + (f.2 ((1 : Nat) : Int)).length + ((rd_r C) ((2 : Nat) : Int)).length + (f.2 ((2 : Nat) : Int)).length = _
              simp
              omega
          have k1 : 2 * rd_held ((to, E.2), (s, rd_rs E.1)) = ((rd_l3 (rd_rs E.1) + rd_ls s : Nat) : Int) := k1
          rw [k2] at k1
          rw [k3] at ch
          omega
        have hhb : 0 ≤ rd_held ((to, E.2), (s, rd_rs E.1)) ∧ rd_held ((to, E.2), (s, rd_rs E.1)) ≤ 10000 := by
          have k1 := rd_held2 j1
          have k4 := j1.lens
          have k5 : rd_u ((to, E.2), (s, rd_rs E.1)) ≤ rd_u C + 12 := j2.2
          omega
        refine S_X3_stepOut_198 hR tr m1 (by omega) (by omega) (fun _ => ?_) (fun y => absurd (by omega) y)
        refine S_X3_stepOut_320 hR (by omega) (by omega) ?_
        rw [am_pI_sr0]
        refine S_X3_stepOut_330 hR (by omega) (by omega) (c_max _ (by rw [am_sr_at, am_u1_ne (by omega), ok _ (by omega), x23]; omega) (by omega)) ?_
        rintro _ _ ⟨rfl, rfl⟩
        rw [am_sr_at, am_u1_ne (by omega), ok _ (by omega), x23]
        refine S_X3_stepOut_350 (shR1 hR) (by omega) (by omega) ?_
        rw [am_pI_sr]
        refine S_X3_stepOut_351 hR (by omega) (by omega) ?_
        rw [am_pI_sr, am_sr_of (show a ≠ a + 1 by omega), c3]
        refine S_X3_stepOut_364 hR ?_
        rw [am_sr_of (show a ≠ a + 1 by omega), t5]
        refine S_X3_stepOut_374 (Or.inr ⟨rfl, ⟨_, hcl⟩, (o1.trans (am_only.sr (by simp))).trans (am_only.pI (by simp)), ?_⟩)
        generalize hg : am_u1 (am_u1 (am_u1 (τ.1 (a + 1)) ((w.length : Int) * 16 + 16 + 2) v6) ((w.length : Int) * 16 + 16 + 3) (max mo v6)) ((w.length : Int) * 16 + 16 + 6) E.2 = g'
        have w2 : g' ((w.length : Int) * 16 + 16 + 2) = v6 := by rw [← hg, am_u1_ne (by omega), am_u1_ne (by omega), am_u1_eq]
        have w3 : g' ((w.length : Int) * 16 + 16 + 3) = max mo v6 := by rw [← hg, am_u1_ne (by omega), am_u1_eq]
        have w6 : g' ((w.length : Int) * 16 + 16 + 6) = E.2 := by rw [← hg, am_u1_eq]
        have wo : ∀ k : Int, k ≠ (w.length : Int) * 16 + 16 + 2 → k ≠ (w.length : Int) * 16 + 16 + 3 → k ≠ (w.length : Int) * 16 + 16 + 6 → g' k = τ.1 (a + 1) k := fun k y1 y2 y3 => by rw [← hg, am_u1_ne y3, am_u1_ne y2, am_u1_ne y1]
        clear hg
        have q0 : ∀ b, b ≠ a → b ≠ a + 1 → (am_pI (am_sr τ (a + 1) g') a 5 ((w.length : Int) + 1)).1 b = τ.1 b := fun b y1 y2 => by rw [am_pI_of y1, am_sr_of y2]
        have q1 : (am_pI (am_sr τ (a + 1) g') a 5 ((w.length : Int) + 1)).1 (a + 1) = g' := by rw [am_pI_of (by omega), am_sr_at]
        have q5 : (am_pI (am_sr τ (a + 1) g') a 5 ((w.length : Int) + 1)).1 a 5 = (w.length : Int) + 1 := am_pI_at
        have qr : (am_pI (am_sr τ (a + 1) g') a 5 ((w.length : Int) + 1)).2 = τ.2 := rfl
        generalize am_pI (am_sr τ (a + 1) g') a 5 ((w.length : Int) + 1) = υ at q0 q1 q5 qr ⊢
        have hll : (w ++ [3]).length = w.length + 1 := by rw [List.length_append]; rfl
        have hcc : rd_c3n (w ++ [3]) = rd_c3n w + 1 := by
          unfold rd_c3n
          rw [List.countP_append]
          rfl
        refine ⟨by rw [qr]; exact tr, cd_M_of (fun b y1 y2 => by rw [q0 b (by omega) (by omega)]; exact tm b y1 y2) hM, ⟨by rw [q5, hll]; omega, fun e he => ?_, by rw [hll]; omega, by rw [hcc]; omega⟩, ?_⟩
        · rcases List.mem_append.mp he with he | he
          · exact h4 e he
          · have he : e = 3 := by simpa using he
            omega
        have g3 : υ.1 (a + 3) = τ.1 (a + 3) := q0 _ (by omega) (by omega)
        have g2 : υ.1 (a + 2) = τ.1 (a + 2) := q0 _ (by omega) (by omega)
        have n0 : ((w.length + 1 : Nat) : Int) * 16 = (w.length : Int) * 16 + 16 := by omega
        refine cd_H_snoc pR2 h7 hcf.symm hst (fun k hk => by rw [q1, wo k (by omega) (by omega) (by omega)]; exact ok k (by omega)) ?_ ?_ (fun i hi => by rw [g3, g2]; exact cg i hi) ?_
        · rw [← hh]
          unfold cd_X
          rw [q1, n0, ← hh]
          refine ⟨⟨by rw [wo _ (by omega) (by omega) (by omega)]; exact c0, by rw [wo _ (by omega) (by omega) (by omega)]; exact c1, w2, w3, w6⟩, fun r r0 r1 => ?_⟩
          rw [wo _ (by omega) (by omega) (by omega), wo _ (by omega) (by omega) (by omega), wo _ (by omega) (by omega) (by omega)]
          have := cr r.toNat (by omega)
          rw [Int.toNat_of_nonneg r0] at this
          show rd_rp 0 (rd_rs E.1 r) _ _ _
          unfold rd_rs
          rw [if_pos r0]
          exact this
        · show cd_V υ a cf (w.length + 1) s
          cases s with
          | nil =>
            rw [hjs] at yj4
            show υ.1 (a + 1) _ = -1 ∧ υ.1 (a + 1) _ = -1
            rw [q1, n0, wo _ (by omega) (by omega) (by omega), wo _ (by omega) (by omega) (by omega), c4, c5]
            exact yj4
          | cons f' s' =>
            rw [hjs] at yj4
            obtain ⟨y1, i', y2, y3, y4, y5⟩ := yj4
            show υ.1 (a + 1) _ = _ ∧ ∃ j : Nat, j < w.length + 1 ∧ υ.1 (a + 1) _ = _ ∧ _ ∧ _
            rw [q1, n0, wo _ (by omega) (by omega) (by omega), wo _ (by omega) (by omega) (by omega), c4, c5]
            exact ⟨y1, i', by omega, y3, y4, y5⟩
        · rw [g3, g2]
          show rd_G 0 _ _ (rd_c3 (rd_rs E.1) ++ s.flatMap (fun f => rd_c3 f.2))
          have hG0 := cg w.length (Nat.le_refl _)
          rw [← hcf] at hG0
          refine ⟨fun x y ⟨c, hc, hxy⟩ => ?_, fun c hc p hp => ?_⟩
          · rcases List.mem_append.mp hc with hc | hc
            · rcases rd_rs_mem hc with rfl | hc
              · exact absurd (rd_nx_mem hxy).1 (by simp [rd_nd])
              · exact ce.1 x y ⟨c, hc, hxy⟩
            · exact hG0.1 x y ⟨c, by show c ∈ rd_all C; rw [hall0]; exact List.mem_append_right _ hc, hxy⟩
          · rcases List.mem_append.mp hc with hc | hc
            · rcases rd_rs_mem hc with rfl | hc
              · cases hp
              · exact ce.2 c hc p hp
            · exact hG0.2 c (by show c ∈ rd_all C; rw [hall0]; exact List.mem_append_right _ hc) p hp
      | cons v post ih =>
        intro pre v6 τ hws ⟨o1, o2⟩ ok ⟨c0, c1, c4, c5⟩ cr c3 ce cg ch
        have hwl : ws.length = pre.length + (post.length + 1) := by rw [hws, List.length_append]; rfl
        have tr : τ.2.2 a 4 = some m := by rw [o1.2]; exact h1
        have tm : ∀ b, m ≤ b → b ≤ m + 7 → τ.1 b = σ.1 b := fun b y1 y2 => o1.1 b (by simp; omega)
        have t1 : τ.1 m 1 = pm_R P := by rw [tm m (by omega) (by omega)]; exact m2.1.2.1
        have hpre1 : ws = (pre ++ [v]) ++ post := by rw [hws, List.append_assoc]; rfl
        have hlen1 : ((pre ++ [v]).length : Int) = pre.length + 1 := by rw [List.length_append]; rfl
        have hpl : pre.length < 3 := by omega
        have hxv : cm_X τ m (e0 + pre.length) v := by
          have := hxs pre.length (by omega)
          rw [hws, List.getD_eq_getElem?_getD, List.getElem?_append_right (Nat.le_refl _), Nat.sub_self] at this
          exact cm_X_of (tm _ (by omega) (by omega)) (tm _ (by omega) (by omega)) (by rw [tm m (by omega) (by omega)]) (by rw [tm m (by omega) (by omega)]) this
        have huR : (rd_es (rd_r C) f.2 (pre ++ [v]) [] (rd_u C)).2 ≤ am_rs a := by
          have hf1 := rd_es_flat (X := rd_r C) (Y := f.2) (pre ++ [v]) [] (rd_u C)
          have hf2 := rd_es_flat (X := rd_r C) (Y := f.2) ws [] (rd_u C)
          have hv1 : (rd_ev (rd_r C) f.2 (pre ++ [v]).flatten ([], rd_u C)).2 = rd_u C + _ := rd_ev_u (X := rd_r C) (Y := f.2) (pre ++ [v]).flatten ([], rd_u C)
          have h12 := pm_ex_12 hx (rd_bal_flat ws hbal)
          have hle : (pre ++ [v]).flatten.countP (· < 4) ≤ ws.flatten.countP (· < 4) := by
            have hfe : ws.flatten = (pre ++ [v]).flatten ++ post.flatten := by rw [hpre1, List.flatten_append]
            rw [hfe, List.countP_append]
            exact Nat.le_add_right _ _
          rw [hf1.2, hv1]
          omega
        refine S_X3_stepOut_198 hR tr m1 (by omega) (by omega) (fun y => absurd y (by omega)) (fun _ => ?_)
        refine S_X3_stepOut_210 (by omega) (fun y => absurd y (by omega)) (fun _ => ?_)
        refine S_X3_stepOut_216 ?_
        have hGC : rd_G 0 (τ.1 (a + 3)) (τ.1 (a + 2)) (rd_all C) := by
          have := cg w.length (Nat.le_refl _)
          rw [← hcf] at this
          exact this
        refine S_X3_stepOut_225 (c_putI d (X := rd_r C) (Y := f.2) (pre := pre) (post := post) (w := v) (u := rd_u C) (R := pm_R P) hR m1 tr hxv (by rw [tm m (by omega) (by omega)]; exact hb.1) (by rw [tm m (by omega) (by omega)]; exact hb.2) pR2 (by rw [← hws]; exact hx) hap i1.2.2.2.1 (by omega) (by omega) (fun r r0 r1 => ?_) (fun r r0 r1 _ => ?_) c3 huR (hGC.sub hKsub) ce) hR ?_
        · rw [ok _ (by omega), ok _ (by omega), ok _ (by omega)]
          exact x2r r r0 r1
        · rw [ok _ (by omega), ok _ (by omega), ok _ (by omega), ← hjr]
          exact yjr r r0 r1
        rintro τ2 ⟨⟨p1, p2⟩, p3, p4, p5, p6, p7⟩
        have r1e : τ2.1 (a + 1) = τ.1 (a + 1) := p1.1 _ (by simp)
        have v8e : ∀ x : Int, x + (7 + 3 * (pre.length : Int)) = x + 7 + 3 * (pre.length : Int) := fun x => by omega
        refine S_X3_stepOut_236 hR (by omega) (by omega) ?_
        rw [am_pI_sr0, r1e]
        refine S_X3_stepOut_249 hR (by omega) (by omega) ?_
        rw [am_pI_sr, am_sr_of (show a ≠ a + 1 by omega)]
        refine S_X3_stepOut_264 hR (by omega) (by omega) ?_
        rw [am_pI_sr, am_sr_of (show a ≠ a + 1 by omega)]
        rw [v8e]
        generalize hg : am_u1 (am_u1 (am_u1 (τ.1 (a + 1)) ((w.length : Int) * 16 + 16 + 7 + 3 * (pre.length : Int)) (τ2.1 a 6)) ((w.length : Int) * 16 + 16 + 7 + 3 * (pre.length : Int) + 1) (τ2.1 a 7)) ((w.length : Int) * 16 + 16 + 7 + 3 * (pre.length : Int) + 2) (τ2.1 a 8) = g'
        have w0 : g' ((w.length : Int) * 16 + 16 + 7 + 3 * (pre.length : Int)) = τ2.1 a 6 := by rw [← hg, am_u1_ne (by omega), am_u1_ne (by omega), am_u1_eq]
        have w1 : g' ((w.length : Int) * 16 + 16 + 7 + 3 * (pre.length : Int) + 1) = τ2.1 a 7 := by rw [← hg, am_u1_ne (by omega), am_u1_eq]
        have w2 : g' ((w.length : Int) * 16 + 16 + 7 + 3 * (pre.length : Int) + 2) = τ2.1 a 8 := by rw [← hg, am_u1_eq]
        have wo : ∀ k : Int, k < (w.length : Int) * 16 + 16 + 7 + 3 * (pre.length : Int) → g' k = τ.1 (a + 1) k := fun k hk => by rw [← hg, am_u1_ne (by omega), am_u1_ne (by omega), am_u1_ne (by omega)]
        clear hg
        have q0 : ∀ b, b ≠ a + 1 → (am_sr τ2 (a + 1) g').1 b = τ2.1 b := fun b y1 => am_sr_of y1
        have q1 : (am_sr τ2 (a + 1) g').1 (a + 1) = g' := am_sr_at
        have qo : am_only [a, a + 1, a + 2, a + 3] τ2 (am_sr τ2 (a + 1) g') := am_only.sr (by simp)
        generalize am_sr τ2 (a + 1) g' = υ at q0 q1 qo ⊢
        -- the numbers
        have s8 := p3.1
        have sX := (x2r pre.length (by omega) (by omega)).1
        have sY := (yjr pre.length (by omega) (by omega)).1
        rw [hjr] at sY
        have hel : rd_el (rd_ev (rd_r C) f.2 v ([], τ.1 a 3)).1 := by
          refine rd_ev_bal v _ 0 (Int.le_refl _) (hbal v (by rw [hws]; simp)) (fun t ht => ?_) (fun t ht h4 => ?_)
          · have := hx.1 t (List.mem_flatten.mpr ⟨v, by rw [hws]; simp, ht⟩)
            omega
          · obtain ⟨i, hi, e, -⟩ := rd_six (X := rd_r C) (Y := f.2) pR2 hx (List.mem_flatten.mpr ⟨v, by rw [hws]; simp, ht⟩) h4
            exact i1.2.2.2.2.2 _ (hKsub _ (List.mem_of_getElem? e))
        have eX : rd_el (rd_r C pre.length) := by
          have hc : pre.length = 0 ∨ pre.length = 1 ∨ pre.length = 2 := by omega
          refine i1.2.2.2.2.2 _ (hKsub _ (List.mem_append_left _ (rd_c3_mem.mpr ?_)))
          rcases hc with hc | hc | hc <;> rw [hc] <;> simp
        have eY : rd_el (f.2 pre.length) := by
          have hc : pre.length = 0 ∨ pre.length = 1 ∨ pre.length = 2 := by omega
          refine i1.2.2.2.2.2 _ (hKsub _ (List.mem_append_right _ (rd_c3_mem.mpr ?_)))
          rcases hc with hc | hc | hc <;> rw [hc] <;> simp
        have b1 := hel.even
        have b2 := eX.even
        have b3 := eY.even
        have hlX : ((rd_r C pre.length).length : Int) ≤ rd_u C ∧ ((f.2 pre.length).length : Int) ≤ rd_u C := by
          have hc : pre.length = 0 ∨ pre.length = 1 ∨ pre.length = 2 := by omega
          rcases hc with hc | hc | hc
          · rw [hc]
            exact ⟨show (((rd_r C) 0).length : Int) ≤ _ by omega, show ((f.2 0).length : Int) ≤ _ by omega⟩
          · rw [hc]
            exact ⟨show (((rd_r C) 1).length : Int) ≤ _ by omega, show ((f.2 1).length : Int) ≤ _ by omega⟩
          · rw [hc]
            exact ⟨show (((rd_r C) 2).length : Int) ≤ _ by omega, show ((f.2 2).length : Int) ≤ _ by omega⟩
        have hlE : ((rd_ev (rd_r C) f.2 v ([], τ.1 a 3)).1.length : Int) ≤ 10000 := by
          have hxv2 : ∀ t ∈ v, t ∈ ws.flatten := fun t ht => List.mem_flatten.mpr ⟨v, by rw [hws]; simp, ht⟩
          have hpt0 := rd_pt_of (X := rd_r C) (Y := f.2) pR2 hx hap
          have hu0 := i1.2.2.2.1
          have hf1 := rd_es_flat (X := rd_r C) (Y := f.2) pre [] (rd_u C)
          have hv1 : (rd_ev (rd_r C) f.2 pre.flatten ([], rd_u C)).2 = rd_u C + _ := rd_ev_u (X := rd_r C) (Y := f.2) pre.flatten ([], rd_u C)
          have hge : rd_u C ≤ τ.1 a 3 := by rw [c3, hf1.2, hv1]; omega
          have hpt : rd_pt (rd_r C) f.2 v (τ.1 a 3) := by
            refine ⟨?_, fun t ht h4 => ?_, fun t ht t' ht' => hpt0.2.2 t (hxv2 t ht) t' (hxv2 t' ht')⟩
            · have h1 := hpt0.1
              rw [hws, List.flatten_append, List.flatten_cons, List.filter_append, List.filter_append] at h1
              exact (List.nodup_append.mp (List.nodup_append.mp h1).2.1).1
            · have := hpt0.2.1 t (hxv2 t ht) h4
              exact ⟨this.1, fun x hx => by have := this.2 x hx; omega⟩
          have hn := rd_ev_nodup (X := rd_r C) (Y := f.2) v [] (τ.1 a 3) hpt List.nodup_nil (fun x hx => (by cases hx)) (by omega) (fun s hs h4 x hx => (by cases hx))
          have hv2 : (rd_ev (rd_r C) f.2 v ([], τ.1 a 3)).2 = τ.1 a 3 + _ := rd_ev_u (X := rd_r C) (Y := f.2) v ([], τ.1 a 3)
          have hes2 : (rd_es (rd_r C) f.2 (pre ++ [v]) [] (rd_u C)).2 = (rd_ev (rd_r C) f.2 v ([], τ.1 a 3)).2 := by
            have hf3 := rd_es_flat (X := rd_r C) (Y := f.2) (pre ++ [v]) [] (rd_u C)
            have hv3 : (rd_ev (rd_r C) f.2 (pre ++ [v]).flatten ([], rd_u C)).2 = rd_u C + _ := rd_ev_u (X := rd_r C) (Y := f.2) (pre ++ [v]).flatten ([], rd_u C)
            rw [hf3.2, hv3, hv2, c3, hf1.2, hv1, List.flatten_append, List.countP_append]
            simp
            omega
          have hrs := am_rs_le a
          have := rd_len_u (u := (rd_ev (rd_r C) f.2 v ([], τ.1 a 3)).2) (by omega) hn.1 hn.2
          omega
        have q8 : υ.1 a 8 = τ2.1 a 8 := by rw [q0 a (by omega)]
        have qX : υ.1 (a + 1) ((w.length : Int) * 16 + 7 + 3 * (pre.length : Int) + 2) = (rd_r C pre.length).length := by rw [q1, wo _ (by omega), ok _ (by omega)]; exact sX
        have qY : υ.1 (a + 1) ((j : Int) * 16 + 7 + 3 * (pre.length : Int) + 2) = (f.2 pre.length).length := by rw [q1, wo _ (by omega), ok _ (by omega)]; exact sY
        have hu0 := i1.2.2.2.1
        refine S_X3_stepOut_279 hR (by omega) (by omega) (by omega) (by omega) (by rw [v8e, v8e, q8, s8, qX, qY]; omega) ?_
        rw [v8e, v8e, q8, s8, qX, qY]
        refine S_X3_stepOut_314 ?_
        rw [← hlen1]
        have hfl1 : (rd_es (rd_r C) f.2 (pre ++ [v]) [] (rd_u C)).1.flatten.length = (rd_es (rd_r C) f.2 pre [] (rd_u C)).1.flatten.length + (rd_ev (rd_r C) f.2 v ([], τ.1 a 3)).1.length := by
          rw [p5, List.flatten_append, List.length_append]
          simp
        have hsx : cd_sx (rd_r C) f.2 (pre ++ [v]).length = cd_sx (rd_r C) f.2 pre.length + (rd_r C pre.length).length + (f.2 pre.length).length := by
          rw [List.length_append]
          rfl
        have help : (rd_es (rd_r C) f.2 pre [] (rd_u C)).1.length = pre.length := by rw [rd_es_len]; simp
        have tdv : 2 * (((rd_ev (rd_r C) f.2 v ([], τ.1 a 3)).1.length : Int) - (rd_r C pre.length).length - (f.2 pre.length).length).tdiv 2 = ((rd_ev (rd_r C) f.2 v ([], τ.1 a 3)).1.length : Int) - (rd_r C pre.length).length - (f.2 pre.length).length := Int.mul_tdiv_cancel_of_dvd (by omega)
        refine ih (pre ++ [v]) _ υ hpre1 ⟨(o1.trans (p1.sub (fun b hb => by revert hb; simp; omega))).trans qo, by rw [q0 a (by omega)]; exact o2.trans p2⟩ (fun k hk => by rw [q1, wo k (by omega)]; exact ok k hk) ⟨by rw [q1, wo _ (by omega)]; exact c0, by rw [q1, wo _ (by omega)]; exact c1, by rw [q1, wo _ (by omega)]; exact c4, by rw [q1, wo _ (by omega)]; exact c5⟩ (fun r hr => ?_) (by rw [q0 a (by omega)]; exact p4) (by rw [q0 (a + 3) (by omega), q0 (a + 2) (by omega)]; exact p6) (fun i hi => by rw [q0 (a + 3) (by omega), q0 (a + 2) (by omega)]; exact p7 _ (hsf i hi) (cg i hi)) ?_
        · rw [List.length_append] at hr
          have hr : r < pre.length + 1 := hr
          rw [p5, q1]
          by_cases y : r = pre.length
          · subst y
            rw [w0, w1, w2, List.getD_eq_getElem?_getD, List.getElem?_append_right (by omega), help, Nat.sub_self]
            exact p3
          · rw [wo _ (by omega), wo _ (by omega), wo _ (by omega), List.getD_eq_getElem?_getD, List.getElem?_append_left (by omega), ← List.getD_eq_getElem?_getD]
            exact cr r (by omega)
        · rw [hfl1, hsx]
          omega
    have f0 : ∀ b, b ≠ a → b ≠ a + 1 → (am_pI (am_sr σ (a + 1) g) a 3 (rd_u C)).1 b = σ.1 b := fun b y1 y2 => by rw [am_pI_of y1, am_sr_of y2]
    have f1 : (am_pI (am_sr σ (a + 1) g) a 3 (rd_u C)).1 (a + 1) = g := by rw [am_pI_of (by omega), am_sr_at]
    have fa : (am_pI (am_sr σ (a + 1) g) a 3 (rd_u C)).1 a = am_u1 (σ.1 a) 3 (rd_u C) := by rw [am_pI_row, am_sr_of (by omega)]
    have fo : am_only [a, a + 1, a + 2, a + 3] σ (am_pI (am_sr σ (a + 1) g) a 3 (rd_u C)) := (am_only.sr (by simp)).trans (am_only.pI (by simp))
    generalize am_pI (am_sr σ (a + 1) g) a 3 (rd_u C) = τ at f0 f1 fa fo ⊢
    refine loop ws [] (rd_held C) τ rfl ⟨fo, by rw [fa]; exact am_kpt.u1 (by decide)⟩ (fun k hk => by rw [f1]; exact vk k hk) ⟨by rw [f1]; exact v0, by rw [f1]; exact v1, by rw [f1]; exact v4, by rw [f1]; exact v5⟩ (fun r hr => absurd hr (Nat.not_lt_zero _)) (by rw [fa, am_u1_eq]; rfl) ⟨fun x y ⟨c, hc, _⟩ => (by cases hc), fun c hc => (by cases hc)⟩ (fun i hi => by rw [f0 (a + 3) (by omega) (by omega), f0 (a + 2) (by omega) (by omega)]; exact (h7 i hi).2.2.2) ?_
    show 2 * rd_held C = 2 * rd_held C + ((0 : Nat) : Int) - 0
    omega
end
