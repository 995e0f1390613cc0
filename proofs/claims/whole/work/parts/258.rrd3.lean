section
variable {G : am_G} {σ : am_D}
theorem rd_rs_get {cs : List rd_ch} {r : Int} (h : 0 ≤ r) : rd_rs cs r = cs.getD r.toNat [] := if_pos h
theorem r_closes (d : Nat) {P : am_P} {g sl mo : Int} {C : rd_C} (hg : 0 ≤ g ∧ g < 3) (hsl : 0 ≤ sl ∧ sl < 6) (hT : rm_T σ sl P) (hP : pm_ok P) (hW : pm_wf P) (hI : rd_I P C) (hne : rd_s C ≠ []) (hd : ((rd_s C).length : Int) ≤ 260) (hu12 : rd_u C + 12 ≤ 5000) (h : rr_I σ g C mo) : am_MI G (d + 3) mX11_closes [am_r (some 91), am_i g, am_i sl] σ (fun x σ' => (x = 0 ∧ rd_close P C = none ∧ σ = σ') ∨ (x = 1 ∧ ∃ C', rd_close P C = some C' ∧ rr_I σ' g C' mo ∧ rr_fr g σ σ')) := by
  obtain ⟨⟨a1, a2, a3, a4⟩, b, c, e⟩ := id h
  have hq := hI.1
  obtain ⟨⟨pS1, pS2⟩, ⟨pR1, pR2⟩, ⟨pn1, pn2, pn3, pn4⟩, -, -, -, -, pcT⟩ := id hP
  have t95 := hT.1.2
  have t97 := hT.2.2.2.2.1
  cases hs : rd_s C with
  | nil => exact absurd hs hne
  | cons f s =>
  have hsl1 : (((f :: s).length : Nat) : Int) = s.length + 1 := by rw [List.length_cons]; omega
  rw [hs, hsl1] at a2 hd
  rw [hs] at c
  obtain ⟨⟨c1, c2, c3⟩, cS⟩ := c
  have hf := hI.2.1 f (by rw [hs]; exact List.mem_cons_self)
  refine am_M.go (by decide) (Nat.le_of_ble_eq_true rfl) rfl ?_
  refine S_X11_closes_0 hg.1 hg.2 ?_
  rw [a2, show 260 * g + ((s.length : Int) + 1) - 1 = 260 * g + s.length by omega]
  refine S_X11_closes_15 (by omega) (by omega) hg.1 hg.2 (by omega) (by omega) (c_closeAt _) ?_
  rintro _ _ ⟨rfl, rfl⟩
  rw [c1, c2, a1]
  have hcT := pcT f.1.1 (rd_q C) f.1.2
  obtain ⟨t1, t2⟩ := hT.2.2.1 f.1.1 (rd_q C) f.1.2 (by omega) (by omega) (by omega) (by omega) (by omega) (by omega)
  refine S_X11_closes_39 (by omega) (by omega) (by omega) (fun z => ?_) (fun z => ?_)
  rotate_left
  · have z := Classical.not_not.mp z
    rw [t1] at z
    refine S_X11_closes_50 (Or.inl ⟨rfl, ?_, rfl⟩)
    unfold rd_close
    rw [hs]
    show rd_shut P C f s = none
    unfold rd_shut
    rw [if_pos z]
  rw [t1] at z
  obtain ⟨y1, y2, y3⟩ := t2 z
  have hsh : rd_shut P C f s = some ((pm_cT P f.1.1 (rd_q C) f.1.2, (rd_es (rd_r C) f.2 (pm_cX P f.1.1 (rd_q C) f.1.2) [] (rd_u C)).2), (s, rd_rs (rd_es (rd_r C) f.2 (pm_cX P f.1.1 (rd_q C) f.1.2) [] (rd_u C)).1)) := by
    unfold rd_shut
    rw [if_neg z]
  have hcl : rd_close P C = some ((pm_cT P f.1.1 (rd_q C) f.1.2, (rd_es (rd_r C) f.2 (pm_cX P f.1.1 (rd_q C) f.1.2) [] (rd_u C)).2), (s, rd_rs (rd_es (rd_r C) f.2 (pm_cX P f.1.1 (rd_q C) f.1.2) [] (rd_u C)).1)) := by
    unfold rd_close
    rw [hs]
    exact hsh
  obtain ⟨hx, hbal⟩ := hW.1 f.1.1 (rd_q C) f.1.2 z
  have hlen := hcT.2.2 z
  have h12 := pm_ex_12 hx (rd_bal_flat _ hbal)
  generalize hto : pm_cT P f.1.1 (rd_q C) f.1.2 = to at *
  generalize pm_cX P f.1.1 (rd_q C) f.1.2 = ws at *
  generalize hv4 : 108 * sl + 36 * f.1.1 + 6 * rd_q C + f.1.2 = v4 at *
  have hv4r : 0 ≤ v4 ∧ v4 < 648 := by omega
  have hall0 : rd_all C = rd_c3 (rd_r C) ++ rd_c3 f.2 ++ s.flatMap (fun f => rd_c3 f.2) := by
    unfold rd_all
    rw [hs, List.flatMap_cons, List.append_assoc]
  have hap : rd_ap (rd_c3 (rd_r C) ++ rd_c3 f.2) (rd_u C) := by
    have := hI.2.2.2.2.1
    rw [hall0] at this
    exact this.app.1
  have hKsub : ∀ c ∈ rd_c3 (rd_r C) ++ rd_c3 f.2, c ∈ rd_all C := fun c hc => by rw [hall0]; exact List.mem_append_left _ hc
  have hsf : rd_sf (rd_all C) (rd_c3 (rd_r C) ++ rd_c3 f.2) (rd_u C) := (rd_sf_self hI.2.2.2.2.1).sub hKsub
  generalize hQ : (fun (x : Int) (σ' : am_D) => (x = 0 ∧ rd_close P C = none ∧ σ = σ') ∨ (x = 1 ∧ ∃ C', rd_close P C = some C' ∧ rr_I σ' g C' mo ∧ rr_fr g σ σ')) = Q
  -- the second loop
  have loop2 : ∀ (n : Nat) (k : Int) (τ : am_D), pm_R P - k = n → 0 ≤ k → rr_fr g σ τ → am_only [91, 110, 111, 112, 116, 117, 118, 124, 125, 126] σ τ → τ.1 112 g = (rd_es (rd_r C) f.2 ws [] (rd_u C)).2 → rd_G (5000 * g) (τ.1 111) (τ.1 110) (rd_es (rd_r C) f.2 ws [] (rd_u C)).1 → rd_G (5000 * g) (τ.1 111) (τ.1 110) (rd_all C) → (∀ r : Nat, r < ws.length → rd_rp (5000 * g) ((rd_es (rd_r C) f.2 ws [] (rd_u C)).1.getD r []) (τ.1 124 r) (τ.1 125 r) (τ.1 126 r)) → (∀ r : Int, 0 ≤ r → r < k → τ.1 116 (3 * g + r) = τ.1 124 r ∧ τ.1 117 (3 * g + r) = τ.1 125 r ∧ τ.1 118 (3 * g + r) = τ.1 126 r) → (∀ r : Int, k ≤ r → τ.1 118 (3 * g + r) = σ.1 118 (3 * g + r)) → am_X (am_FI G (d + 3) Q) mX11_closes (0, 0) 123 [some (am_r (some 91)), some (am_i g), some (am_i sl), none, some (am_i v4), some (am_i k)] [] (am_K0, τ) := by
    intro n
    induction n with
    | zero =>
      intro k τ hn hk hfr ho h112 hGE hGC hrw hnew hold
      have e95 : τ.1 95 = σ.1 95 := ho.1 95 (by decide)
      have e100 : τ.1 100 = σ.1 100 := ho.1 100 (by decide)
      have e14 : τ.1 114 = σ.1 114 := ho.1 114 (by decide)
      refine S_X11_closes_123 hsl.1 hsl.2 (by omega) (by rw [e95]; omega) (fun _ => ?_) (fun y => absurd (by rw [e95]; omega) y)
      refine S_X11_closes_194 hg.1 hg.2 hg.1 hg.2 ?_
      rw [e14, a2]
      refine S_X11_closes_204 hv4r.1 hv4r.2 hg.1 hg.2 ?_
      rw [am_pI_of (show (100 : Nat) ≠ 114 by decide), e100, t1]
      refine S_X11_closes_217 ?_
      rw [← hQ]
      have hel := rd_es_len (X := rd_r C) (Y := f.2) ws [] (rd_u C)
      have hel : (rd_es (rd_r C) f.2 ws [] (rd_u C)).1.length = ws.length := by rw [hel]; simp
      generalize hE : rd_es (rd_r C) f.2 ws [] (rd_u C) = E at *
      have q0 : ∀ a, a ≠ 113 → a ≠ 114 → (am_pI (am_pI τ 114 g ((s.length : Int) + 1 - 1)) 113 g to).1 a = τ.1 a := fun a y1 y2 => by rw [am_pI_of y1, am_pI_of y2]
      refine Or.inr ⟨rfl, _, hcl, ⟨⟨?_, ?_, ?_, ?_⟩, fun r r0 r1 => ?_, ?_, ?_⟩, (hfr.trans (rr_fr.pI (by decide) (show 1 * g ≤ _ ∧ _ < 1 * g + 1 by omega))).trans (rr_fr.pI (by decide) (show 1 * g ≤ _ ∧ _ < 1 * g + 1 by omega))⟩
      · rw [am_pI_row, am_u1_eq]
      · rw [am_pI_of (by decide), am_pI_row, am_u1_eq]
        show (s.length : Int) + 1 - 1 = s.length
        omega
      · rw [q0 112 (by decide) (by decide)]; exact h112
      · rw [q0 115 (by decide) (by decide), ho.1 115 (by decide)]; exact a4
      · rw [q0 116 (by decide) (by decide), q0 117 (by decide) (by decide), q0 118 (by decide) (by decide)]
        show rd_rp (5000 * g) (rd_rs E.1 r) _ _ _
        rw [rd_rs_get r0]
        by_cases y : r < pm_R P
        · obtain ⟨n1, n2, n3⟩ := hnew r r0 (by omega)
          rw [n1, n2, n3]
          have := hrw r.toNat (by omega)
          rw [Int.toNat_of_nonneg r0] at this
          exact this
        · rw [List.getD_eq_getElem?_getD, List.getElem?_eq_none (by omega)]
          refine rd_rp_nil ?_
          rw [hold r (by omega), (b r r0 r1).1, hI.2.2.1 r (by omega)]
          rfl
      · refine cS.keep (fun i _ _ => ?_) (fun i _ _ => ?_)
        · rw [q0 119 (by decide) (by decide), q0 120 (by decide) (by decide), ho.1 119 (by decide), ho.1 120 (by decide)]
          exact ⟨rfl, rfl⟩
        · rw [q0 121 (by decide) (by decide), q0 122 (by decide) (by decide), q0 123 (by decide) (by decide), ho.1 121 (by decide), ho.1 122 (by decide), ho.1 123 (by decide)]
          exact ⟨rfl, rfl, rfl⟩
      · rw [q0 111 (by decide) (by decide), q0 110 (by decide) (by decide)]
        show rd_G (5000 * g) _ _ (rd_c3 (rd_rs E.1) ++ s.flatMap (fun f => rd_c3 f.2))
        refine ⟨fun x y ⟨c, hc, hxy⟩ => ?_, fun c hc p hp => ?_⟩
        · rcases List.mem_append.mp hc with hc | hc
          · rcases rd_rs_mem hc with rfl | hc
            · exact absurd (rd_nx_mem hxy).1 (by simp [rd_nd])
            · exact hGE.1 x y ⟨c, hc, hxy⟩
          · exact hGC.1 x y ⟨c, by rw [hall0]; exact List.mem_append_right _ hc, hxy⟩
        · rcases List.mem_append.mp hc with hc | hc
          · rcases rd_rs_mem hc with rfl | hc
            · cases hp
            · exact hGE.2 c hc p hp
          · exact hGC.2 c (by rw [hall0]; exact List.mem_append_right _ hc) p hp
    | succ n ih =>
      intro k τ hn hk hfr ho h112 hGE hGC hrw hnew hold
      have e95 : τ.1 95 = σ.1 95 := ho.1 95 (by decide)
      refine S_X11_closes_123 hsl.1 hsl.2 (by omega) (by rw [e95]; omega) (fun y => absurd y (by rw [e95]; omega)) (fun _ => ?_)
      refine S_X11_closes_134 (by omega) (by omega) (by omega) (by omega) ?_
      refine S_X11_closes_152 (by omega) (by omega) (by omega) (by omega) ?_
      rw [am_pI_of (show (125 : Nat) ≠ 116 by decide)]
      refine S_X11_closes_170 (by omega) (by omega) (by omega) (by omega) ?_
      rw [am_pI_of (show (126 : Nat) ≠ 117 by decide), am_pI_of (show (126 : Nat) ≠ 116 by decide)]
      refine S_X11_closes_188 ?_
      have q0 : ∀ a, a ≠ 116 → a ≠ 117 → a ≠ 118 → (am_pI (am_pI (am_pI τ 116 (3 * g + k) (τ.1 124 k)) 117 (3 * g + k) (τ.1 125 k)) 118 (3 * g + k) (τ.1 126 k)).1 a = τ.1 a := fun a y1 y2 y3 => by rw [am_pI_of y3, am_pI_of y2, am_pI_of y1]
      have q6 : (am_pI (am_pI (am_pI τ 116 (3 * g + k) (τ.1 124 k)) 117 (3 * g + k) (τ.1 125 k)) 118 (3 * g + k) (τ.1 126 k)).1 116 = am_u1 (τ.1 116) (3 * g + k) (τ.1 124 k) := by rw [am_pI_of (by decide), am_pI_of (by decide), am_pI_row]
      have q7 : (am_pI (am_pI (am_pI τ 116 (3 * g + k) (τ.1 124 k)) 117 (3 * g + k) (τ.1 125 k)) 118 (3 * g + k) (τ.1 126 k)).1 117 = am_u1 (τ.1 117) (3 * g + k) (τ.1 125 k) := by rw [am_pI_of (by decide), am_pI_row, am_pI_of (by decide)]
      have q8 : (am_pI (am_pI (am_pI τ 116 (3 * g + k) (τ.1 124 k)) 117 (3 * g + k) (τ.1 125 k)) 118 (3 * g + k) (τ.1 126 k)).1 118 = am_u1 (τ.1 118) (3 * g + k) (τ.1 126 k) := by rw [am_pI_row, am_pI_of (by decide), am_pI_of (by decide)]
      refine ih (k + 1) _ (by omega) (by omega) (((hfr.trans (rr_fr.pI (by decide) (show 3 * g ≤ _ ∧ _ < 3 * g + 3 by omega))).trans (rr_fr.pI (by decide) (show 3 * g ≤ _ ∧ _ < 3 * g + 3 by omega))).trans (rr_fr.pI (by decide) (show 3 * g ≤ _ ∧ _ < 3 * g + 3 by omega))) (((ho.trans (am_only.pI (by simp))).trans (am_only.pI (by simp))).trans (am_only.pI (by simp))) (by rw [q0 112 (by decide) (by decide) (by decide)]; exact h112) (by rw [q0 111 (by decide) (by decide) (by decide), q0 110 (by decide) (by decide) (by decide)]; exact hGE) (by rw [q0 111 (by decide) (by decide) (by decide), q0 110 (by decide) (by decide) (by decide)]; exact hGC) (fun r hr => by rw [q0 124 (by decide) (by decide) (by decide), q0 125 (by decide) (by decide) (by decide), q0 126 (by decide) (by decide) (by decide)]; exact hrw r hr) (fun r r0 r1 => ?_) (fun r hr => by rw [q8, am_u1_ne (by omega)]; exact hold r (by omega))
      rw [q6, q7, q8, q0 124 (by decide) (by decide) (by decide), q0 125 (by decide) (by decide) (by decide), q0 126 (by decide) (by decide) (by decide)]
      by_cases y : r = k
      · subst y
        rw [am_u1_eq, am_u1_eq, am_u1_eq]
        exact ⟨rfl, rfl, rfl⟩
      · rw [am_u1_ne (by omega), am_u1_ne (by omega), am_u1_ne (by omega)]
        exact hnew r r0 (by omega)
  -- the first loop
  have loop1 : ∀ (post pre : List (List Int)) (τ : am_D), ws = pre ++ post → rr_fr g σ τ → am_only [91, 110, 111, 112, 124, 125, 126] σ τ → τ.1 112 g = (rd_es (rd_r C) f.2 pre [] (rd_u C)).2 → rd_G (5000 * g) (τ.1 111) (τ.1 110) (rd_es (rd_r C) f.2 pre [] (rd_u C)).1 → rd_G (5000 * g) (τ.1 111) (τ.1 110) (rd_all C) → (∀ r : Nat, r < pre.length → rd_rp (5000 * g) ((rd_es (rd_r C) f.2 pre [] (rd_u C)).1.getD r []) (τ.1 124 r) (τ.1 125 r) (τ.1 126 r)) → am_X (am_FI G (d + 3) Q) mX11_closes (0, 0) 55 [some (am_r (some 91)), some (am_i g), some (am_i sl), none, some (am_i v4), some (am_i pre.length)] [] (am_K0, τ) := by
    intro post
    induction post with
    | nil =>
      intro pre τ hws hfr ho h112 hGE hGC hrw
      rw [List.append_nil] at hws
      subst hws
      have e95 : τ.1 95 = σ.1 95 := ho.1 95 (by decide)
      refine S_X11_closes_55 hsl.1 hsl.2 (by omega) (by rw [e95]; omega) (fun _ => ?_) (fun y => absurd (by rw [e95]; omega) y)
      refine S_X11_closes_120 ?_
      exact loop2 (pm_R P).toNat 0 τ (by omega) (by omega) hfr (ho.sub (fun a ha => by revert ha; simp; omega)) h112 hGE hGC hrw (fun r r0 r1 => absurd r1 (by omega)) (fun r _ => by rw [ho.1 118 (by decide)])
    | cons v post ih =>
      intro pre τ hws hfr ho h112 hGE hGC hrw
      have hwl : ws.length = pre.length + (post.length + 1) := by rw [hws, List.length_append]; rfl
      have hpre1 : ws = (pre ++ [v]) ++ post := by rw [hws, List.append_assoc]; rfl
      have hlen1 : ((pre ++ [v]).length : Int) = pre.length + 1 := by rw [List.length_append]; rfl
      have e95 : τ.1 95 = σ.1 95 := ho.1 95 (by decide)
      have e101 : τ.1 101 = σ.1 101 := ho.1 101 (by decide)
      have e14 : τ.1 114 = σ.1 114 := ho.1 114 (by decide)
      have e97 : τ.1 97 = σ.1 97 := ho.1 97 (by decide)
      have hxv : rm_X τ sl (3 * σ.1 101 v4 + pre.length) v := by
        have := y3 pre.length (by omega)
        rw [hws, List.getD_eq_getElem?_getD, List.getElem?_append_right (Nat.le_refl _), Nat.sub_self] at this
        exact rm_X_of (ho.1 103 (by decide)) (ho.1 104 (by decide)) e97 (ho.1 106 (by decide)) this
      have huR : (rd_es (rd_r C) f.2 (pre ++ [v]) [] (rd_u C)).2 ≤ 5000 := by
        have hf1 := rd_es_flat (X := rd_r C) (Y := f.2) (pre ++ [v]) [] (rd_u C)
        have hv1 : (rd_ev (rd_r C) f.2 (pre ++ [v]).flatten ([], rd_u C)).2 = rd_u C + _ := rd_ev_u (X := rd_r C) (Y := f.2) (pre ++ [v]).flatten ([], rd_u C)
        have hle : (pre ++ [v]).flatten.countP (· < 4) ≤ ws.flatten.countP (· < 4) := by
          have hfe : ws.flatten = (pre ++ [v]).flatten ++ post.flatten := by rw [hpre1, List.flatten_append]
          rw [hfe, List.countP_append]
          exact Nat.le_add_right _ _
        rw [hf1.2, hv1]
        omega
      refine S_X11_closes_55 hsl.1 hsl.2 (by omega) (by rw [e95]; omega) (fun y => absurd y (by rw [e95]; omega)) (fun _ => ?_)
      rw [show am_i (pre.length : Int) = am_i (pre.length : Int) from rfl]
      refine S_X11_closes_66 hv4r.1 hv4r.2 (r_makeI d (X := rd_r C) (Y := f.2) (pre := pre) (post := post) (w := v) (u := rd_u C) (R := pm_R P) hg hsl (by rw [e101]; omega) (by omega) (by rw [e101]; exact hxv) (by rw [e97]; omega) pR2 (by rw [← hws]; exact hx) hap hI.2.2.2.1 (fun _ _ _ => by rw [e14, a2]; omega) (fun r r0 r1 => ?_) (fun r r0 r1 _ => ?_) h112 huR (hGC.sub hKsub) hGE) ?_
      · rw [ho.1 116 (by decide), ho.1 117 (by decide), ho.1 118 (by decide)]
        exact b r r0 (by omega)
      · rw [ho.1 121 (by decide), ho.1 122 (by decide), ho.1 123 (by decide), e14, a2, show 260 * g + ((s.length : Int) + 1) - 1 = 260 * g + s.length by omega]
        exact c3 r r0 (by omega)
      rintro τ2 ⟨⟨p1, p2⟩, p3, p4, p5, p6, p7⟩
      refine S_X11_closes_81 (by omega) (by omega) ?_
      refine S_X11_closes_92 (by omega) (by omega) ?_
      rw [am_pI_of (show (91 : Nat) ≠ 124 by decide)]
      refine S_X11_closes_103 (by omega) (by omega) ?_
      rw [am_pI_of (show (91 : Nat) ≠ 125 by decide), am_pI_of (show (91 : Nat) ≠ 124 by decide)]
      refine S_X11_closes_114 ?_
      have q0 : ∀ a, a ≠ 124 → a ≠ 125 → a ≠ 126 → (am_pI (am_pI (am_pI τ2 124 (pre.length : Int) (τ2.1 91 43)) 125 (pre.length : Int) (τ2.1 91 44)) 126 (pre.length : Int) (τ2.1 91 45)).1 a = τ2.1 a := fun a y1 y2 y3 => by rw [am_pI_of y3, am_pI_of y2, am_pI_of y1]
      have q4 : (am_pI (am_pI (am_pI τ2 124 (pre.length : Int) (τ2.1 91 43)) 125 (pre.length : Int) (τ2.1 91 44)) 126 (pre.length : Int) (τ2.1 91 45)).1 124 = am_u1 (τ.1 124) (pre.length : Int) (τ2.1 91 43) := by rw [am_pI_of (by decide), am_pI_of (by decide), am_pI_row, p1.1 124 (by decide)]
      have q5 : (am_pI (am_pI (am_pI τ2 124 (pre.length : Int) (τ2.1 91 43)) 125 (pre.length : Int) (τ2.1 91 44)) 126 (pre.length : Int) (τ2.1 91 45)).1 125 = am_u1 (τ.1 125) (pre.length : Int) (τ2.1 91 44) := by rw [am_pI_of (by decide), am_pI_row, am_pI_of (by decide), p1.1 125 (by decide)]
      have q6 : (am_pI (am_pI (am_pI τ2 124 (pre.length : Int) (τ2.1 91 43)) 125 (pre.length : Int) (τ2.1 91 44)) 126 (pre.length : Int) (τ2.1 91 45)).1 126 = am_u1 (τ.1 126) (pre.length : Int) (τ2.1 91 45) := by rw [am_pI_row, am_pI_of (by decide), am_pI_of (by decide), p1.1 126 (by decide)]
      have help : (rd_es (rd_r C) f.2 pre [] (rd_u C)).1.length = pre.length := by rw [rd_es_len]; simp
      have := ih (pre ++ [v]) (am_pI (am_pI (am_pI τ2 124 (pre.length : Int) (τ2.1 91 43)) 125 (pre.length : Int) (τ2.1 91 44)) 126 (pre.length : Int) (τ2.1 91 45)) hpre1 ((((hfr.trans p2).trans (rr_fr.pN (by decide))).trans (rr_fr.pN (by decide))).trans (rr_fr.pN (by decide))) ((((ho.trans (p1.sub (fun a ha => by revert ha; simp; omega))).trans (am_only.pI (by simp))).trans (am_only.pI (by simp))).trans (am_only.pI (by simp))) (by rw [q0 112 (by decide) (by decide) (by decide)]; exact p4) (by rw [q0 111 (by decide) (by decide) (by decide), q0 110 (by decide) (by decide) (by decide)]; exact p6) (by rw [q0 111 (by decide) (by decide) (by decide), q0 110 (by decide) (by decide) (by decide)]; exact p7 _ hsf hGC) (fun r hr => by
        rw [List.length_append] at hr
        have hr : r < pre.length + 1 := hr
        rw [q4, q5, q6, p5]
        by_cases y : r = pre.length
        · subst y
          rw [am_u1_eq, am_u1_eq, am_u1_eq, List.getD_eq_getElem?_getD, List.getElem?_append_right (by omega), help, Nat.sub_self]
          exact p3
        · rw [am_u1_ne (by omega), am_u1_ne (by omega), am_u1_ne (by omega), List.getD_eq_getElem?_getD, List.getElem?_append_left (by omega), ← List.getD_eq_getElem?_getD]
          exact hrw r (by omega))
      rw [hlen1] at this
      exact this
  refine S_X11_closes_52 ?_
  exact loop1 ws [] σ rfl rr_fr.rfl' am_only.rfl' (by rw [a3]; rfl) ⟨fun x y ⟨c, hc, _⟩ => (by cases hc), fun c hc => (by cases hc)⟩ e (fun r hr => absurd hr (Nat.not_lt_zero _))
theorem r_reads (d : Nat) {P : am_P} {g sl mo ev : Int} {C : rd_C} (hg : 0 ≤ g ∧ g < 3) (hsl : 0 ≤ sl ∧ sl < 6) (hT : rm_T σ sl P) (hP : pm_ok P) (hW : pm_wf P) (hev : 0 ≤ ev ∧ ev ≤ 3) (hI : rd_I P C) (hne : ev = 3 → rd_s C ≠ []) (hd : ((rd_s C).length : Int) + (if ev = 3 then 0 else 1) ≤ 260) (hu12 : rd_u C + 12 ≤ 5000) (hmo : 0 ≤ mo ∧ mo ≤ 5000) (h : rr_I σ g C mo) : am_MI G (d + 4) mX11_reads [am_r (some 91), am_i g, am_i sl, am_i ev] σ (fun x σ' => (x = 0 ∧ rd_step P C ev = none ∧ σ = σ') ∨ (x = 1 ∧ ∃ C', rd_step P C ev = some C' ∧ rr_I σ' g C' (max mo (rd_held C')) ∧ rr_fr g σ σ')) := by
  refine am_M.go (by decide) (Nat.le_of_ble_eq_true rfl) rfl ?_
  have J21 : ∀ (x : Int) (τ : am_D), ((x = 0 ∧ rd_step P C ev = none ∧ σ = τ) ∨ (x = 1 ∧ ∃ C', rd_step P C ev = some C' ∧ rr_I τ g C' mo ∧ rr_fr g σ τ)) → am_X (am_FI G (d + 4) (fun x σ' => (x = 0 ∧ rd_step P C ev = none ∧ σ = σ') ∨ (x = 1 ∧ ∃ C', rd_step P C ev = some C' ∧ rr_I σ' g C' (max mo (rd_held C')) ∧ rr_fr g σ σ'))) mX11_reads (0, 0) 21 [some (am_r (some 91)), some (am_i g), none, none, none] [am_i x] (am_K0, τ) := by
    intro x τ hx
    refine S_X11_reads_21 ?_
    rcases hx with ⟨rfl, h1, h2⟩ | ⟨rfl, C', h1, h2, h3⟩
    · refine S_X11_reads_23 (by decide) (fun _ => ?_) (fun z => absurd rfl z)
      exact S_X11_reads_48 (Or.inl rfl) (Or.inl ⟨rfl, h1, h2⟩)
    · obtain ⟨i1, i2, i3, -, -⟩ := rd_step_I hP hW hev hI h1
      have hh := rd_held2 i1
      have hl := i1.lens
      have hl2 : ((rd_s C').length : Int) ≤ 260 := by rw [i3]; split at hd <;> simp_all <;> omega
      have hu' : rd_u C' ≤ 5000 := by split at i2 <;> omega
      refine S_X11_reads_23 (by decide) (fun z => absurd z (by decide)) (fun _ => ?_)
      refine S_X11_reads_28 hg.1 hg.2 (r_heldBy _ hg i1 hl2 hu' h2) ?_
      rintro _ _ ⟨rfl, rfl⟩
      rw [h2.1.2.2.2]
      refine S_X11_reads_44 (c_max _ (by omega) (by omega)) ?_
      rintro _ _ ⟨rfl, rfl⟩
      refine S_X11_reads_47 sh_115 hg.1 hg.2 ?_
      refine S_X11_reads_48 (Or.inr rfl) (Or.inr ⟨rfl, C', h1, ?_, h3.trans (rr_fr.pI (by decide) (show 1 * g ≤ _ ∧ _ < 1 * g + 1 by omega))⟩)
      obtain ⟨⟨a1, a2, a3, a4⟩, b, c, e⟩ := h2
      have q0 : ∀ a, a ≠ 115 → (am_pI τ 115 g (max mo (rd_held C'))).1 a = τ.1 a := fun a y1 => am_pI_of y1
      refine ⟨⟨by rw [q0 113 (by decide)]; exact a1, by rw [q0 114 (by decide)]; exact a2, by rw [q0 112 (by decide)]; exact a3, am_pI_at⟩, fun r r0 r1 => by rw [q0 116 (by decide), q0 117 (by decide), q0 118 (by decide)]; exact b r r0 r1, c.keep (fun i _ _ => by rw [q0 119 (by decide), q0 120 (by decide)]; exact ⟨rfl, rfl⟩) (fun i _ _ => by rw [q0 121 (by decide), q0 122 (by decide), q0 123 (by decide)]; exact ⟨rfl, rfl, rfl⟩), by rw [q0 111 (by decide), q0 110 (by decide)]; exact e⟩
  refine S_X11_reads_0 (by omega) (fun z => ?_) (fun z => ?_)
  · have hst : rd_step P C ev = rd_open P C ev := by unfold rd_step; rw [if_neg z]
    rw [if_neg z] at hd
    refine S_X11_reads_14 (r_opens _ hg hsl hT hP (by omega) hI (by omega) h) ?_
    intro x τ hx
    exact J21 x τ (by rw [hst]; exact hx)
  · have z := Classical.not_not.mp z
    subst z
    have hst : rd_step P C 3 = rd_close P C := by unfold rd_step; rw [if_pos rfl]
    rw [if_pos rfl] at hd
    refine S_X11_reads_5 (r_closes _ hg hsl hT hP hW hI (hne rfl) (by omega) hu12 h) ?_
    intro x τ hx
    exact S_X11_reads_11 (J21 x τ (by rw [hst]; exact hx))
end
