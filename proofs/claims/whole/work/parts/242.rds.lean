section
/-! One EVENT more. -/
variable {P : am_P} {C C' : rd_C} {e : Int}
theorem rd_open_I (hP : pm_ok P) (hl : 0 ≤ e ∧ e ≤ 2) (hI : rd_I P C) (h : rd_open P C e = some C') : rd_I P C' ∧ rd_u C' = rd_u C ∧ (rd_s C').length = (rd_s C).length + 1 ∧ (∀ x, rd_lv (rd_all C') x → rd_lv (rd_all C) x) ∧ (∀ x y, rd_nl (rd_all C) x y → rd_nl (rd_all C') x y) := by
  unfold rd_open at h
  by_cases z : pm_oT P e (rd_q C) = -1
  · rw [if_pos z] at h; exact nomatch h
  rw [if_neg z] at h
  injection h with h
  subst h
  obtain ⟨a, b, c, d, ⟨g1, g2⟩, k⟩ := hI
  have ho := hP.2.2.2.2.2.1 e (rd_q C)
  have hm := hP.2.2.2.2.2.2.1 e (rd_q C)
  have hall : rd_all ((pm_oT P e (rd_q C), rd_u C), (((e, pm_oM P e (rd_q C)), rd_r C) :: rd_s C, rd_nil)) = [[], [], []] ++ rd_all C := by
    show rd_c3 rd_nil ++ (((e, pm_oM P e (rd_q C)), rd_r C) :: rd_s C).flatMap (fun f => rd_c3 f.2) = _
    rw [List.flatMap_cons]
    rfl
  have hmem : ∀ c, c ∈ [[], [], []] ++ rd_all C → c = [] ∨ c ∈ rd_all C := by
    intro c hc
    rcases List.mem_append.mp hc with hc | hc
    · exact Or.inl (by simpa using hc)
    · exact Or.inr hc
  rw [hall]
  refine ⟨⟨⟨show 0 ≤ pm_oT P e (rd_q C) by omega, show pm_oT P e (rd_q C) < pm_S P by omega⟩, ?_, fun r _ => rfl, d, ?_, ?_⟩, rfl, rfl, ?_, ?_⟩
  · intro f hf
    rcases List.mem_cons.mp hf with rfl | hf
    · exact ⟨hl, hm, c⟩
    · exact b f hf
  · rw [hall]
    refine ⟨fun c hc => ?_, ?_⟩
    · rcases hmem c hc with rfl | hc
      · exact ⟨List.nodup_nil, fun x hx => (by cases hx)⟩
      · exact g1 c hc
    · refine List.pairwise_append.mpr ⟨by simp [rd_nd], g2, fun c hc c' hc' x hx => ?_⟩
      have hc : c = [] := by simpa using hc
      subst hc
      cases hx
  · rw [hall]
    intro c hc
    rcases hmem c hc with rfl | hc
    · exact ⟨fun s hs => (by cases hs), rfl⟩
    · exact k c hc
  · rintro x ⟨c, hc, hx⟩
    rcases hmem c hc with rfl | hc
    · cases hx
    · exact ⟨c, hc, hx⟩
  · rintro x y ⟨c, hc, hx⟩
    exact ⟨c, List.mem_append_right _ hc, hx⟩
theorem rd_shut_I {f : rd_fr} {s : List rd_fr} (hP : pm_ok P) (hw : pm_wf P) (hs : rd_s C = f :: s) (hI : rd_I P C) (h : rd_shut P C f s = some C') : rd_I P C' ∧ (rd_u C ≤ rd_u C' ∧ rd_u C' ≤ rd_u C + 12) ∧ (rd_s C').length + 1 = (rd_s C).length ∧ (∀ x, rd_lv (rd_all C') x → x < rd_u C → rd_lv (rd_all C) x) ∧ (∀ x y, rd_nl (rd_all C) x y → rd_lv (rd_all C') x → rd_nl (rd_all C') x y) := by
  unfold rd_shut at h
  by_cases z : pm_cT P f.1.1 (rd_q C) f.1.2 = -1
  · rw [if_pos z] at h; exact nomatch h
  rw [if_neg z] at h
  injection h with h
  obtain ⟨a, b, c, d, hap, k⟩ := hI
  obtain ⟨⟨pS1, pS2⟩, ⟨pR1, pR2⟩, -, -, -, -, -, pcT⟩ := id hP
  have hcT := pcT f.1.1 (rd_q C) f.1.2
  obtain ⟨hx, hbal⟩ := hw.1 f.1.1 (rd_q C) f.1.2 z
  have hlen := hcT.2.2 z
  generalize pm_cX P f.1.1 (rd_q C) f.1.2 = ws at h hx hbal hlen
  have hall0 : rd_all C = rd_c3 (rd_r C) ++ rd_c3 f.2 ++ s.flatMap (fun f => rd_c3 f.2) := by
    unfold rd_all
    rw [hs, List.flatMap_cons, List.append_assoc]
  rw [hall0] at hap k ⊢
  have hap6 := hap.app.1
  have hapr := hap.app.2
  have hcross := (List.pairwise_append.mp hap.2).2.2
  have hpt : rd_pt (rd_r C) f.2 ws.flatten (rd_u C) := rd_pt_of pR2 hx hap6
  have hfl := rd_es_flat (X := rd_r C) (Y := f.2) ws [] (rd_u C)
  have hel := rd_es_len (X := rd_r C) (Y := f.2) ws [] (rd_u C)
  have hnd := rd_ev_nodup (X := rd_r C) (Y := f.2) ws.flatten [] (rd_u C) hpt List.nodup_nil (fun x hx => (by cases hx)) d (fun s hs h4 x hx => (by cases hx))
  have hu := rd_ev_u (X := rd_r C) (Y := f.2) ws.flatten ([], rd_u C)
  have h12 := pm_ex_12 hx (rd_bal_flat ws hbal)
  have hget := rd_es_get (X := rd_r C) (Y := f.2) ws [] (rd_u C)
  rw [← hfl.2] at hnd hu
  rw [List.flatten_nil, List.nil_append] at hfl
  have hu : (rd_es (rd_r C) f.2 ws [] (rd_u C)).2 = rd_u C + _ := hu
  -- a part is a row that was
  have hcp : ∀ t ∈ ws.flatten, 4 ≤ t → rd_cp (rd_r C) f.2 t ∈ rd_c3 (rd_r C) ++ rd_c3 f.2 := by
    intro t ht h4
    obtain ⟨i, hi, e, -⟩ := rd_six (X := rd_r C) (Y := f.2) pR2 hx ht h4
    exact List.mem_of_getElem? e
  -- nodes of a new row
  have hnew : ∀ c ∈ (rd_es (rd_r C) f.2 ws [] (rd_u C)).1, ∃ w ∈ ws, ∃ v, rd_u C ≤ v ∧ c = (rd_ev (rd_r C) f.2 w ([], v)).1 := by
    intro c hc
    rcases hget c hc with hc | hc
    · cases hc
    · exact hc
  have hnode : ∀ c ∈ (rd_es (rd_r C) f.2 ws [] (rd_u C)).1, ∀ x ∈ rd_nd c, x < rd_u C → ∃ t ∈ ws.flatten, 4 ≤ t ∧ x ∈ rd_nd (rd_cp (rd_r C) f.2 t) ∧ ∃ p q, c = p ++ rd_cp (rd_r C) f.2 t ++ q := by
    intro c hc x hxc hlt
    obtain ⟨w, hww, v, hv, rfl⟩ := hnew c hc
    rcases rd_ev_mem w _ hxc with h | ⟨t, ht, h4, hxt⟩ | h
    · cases h
    · exact ⟨t, List.mem_flatten.mpr ⟨w, hww, ht⟩, h4, hxt, rd_ev_infix w [] v t ht h4⟩
    · have h1 : v ≤ x := h.1
      omega
  have hapn : rd_ap (rd_es (rd_r C) f.2 ws [] (rd_u C)).1 (rd_es (rd_r C) f.2 ws [] (rd_u C)).2 := by
    rw [← hfl.1] at hnd
    have hn1 := hnd.1
    unfold rd_nd at hn1
    rw [List.map_flatten] at hn1
    have hn2 := List.pairwise_flatten.mp hn1
    refine ⟨fun c hc => ⟨hn2.1 _ (List.mem_map.mpr ⟨c, hc, rfl⟩), fun x hxc => hnd.2 x ?_⟩, ?_⟩
    · unfold rd_nd
      rw [List.map_flatten]
      exact List.mem_flatten.mpr ⟨_, List.mem_map.mpr ⟨c, hc, rfl⟩, hxc⟩
    · have := List.pairwise_map.mp hn2.2
      refine this.imp ?_
      intro c c' hcc x hx1 hx2
      exact hcc x hx1 x hx2 rfl
  generalize hE : rd_es (rd_r C) f.2 ws [] (rd_u C) = E at *
  subst h
  have hall1 : rd_all ((pm_cT P f.1.1 (rd_q C) f.1.2, E.2), (s, rd_rs E.1)) = rd_c3 (rd_rs E.1) ++ s.flatMap (fun f => rd_c3 f.2) := rfl
  rw [hall1]
  have huu : rd_u C ≤ E.2 ∧ E.2 ≤ rd_u C + 12 := by omega
  have hmem : ∀ c, c ∈ rd_c3 (rd_rs E.1) ++ s.flatMap (fun f => rd_c3 f.2) → c = [] ∨ c ∈ E.1 ∨ c ∈ s.flatMap (fun f => rd_c3 f.2) := by
    intro c hc
    rcases List.mem_append.mp hc with hc | hc
    · rcases rd_rs_mem hc with e | hc
      · exact Or.inl e
      · exact Or.inr (Or.inl hc)
    · exact Or.inr (Or.inr hc)
  have hls : ∀ x, (∃ c ∈ s.flatMap (fun f => rd_c3 f.2), x ∈ rd_nd c) → x < rd_u C := by
    rintro x ⟨c, hc, hx⟩
    exact ((hapr.1 c hc).2 x hx).2
  refine ⟨⟨⟨show 0 ≤ pm_cT P f.1.1 (rd_q C) f.1.2 by omega, hcT.2.1⟩, fun g hg => b g (by rw [hs]; exact List.mem_cons_of_mem _ hg), fun r hr => ?_, show 0 ≤ E.2 by omega, ?_, ?_⟩, huu, ?_, ?_, ?_⟩
  · show rd_rs E.1 r = []
    unfold rd_rs
    by_cases y : 0 ≤ r
    · rw [if_pos y, List.getD_eq_getElem?_getD, List.getElem?_eq_none (by rw [hel]; simp; omega)]
      rfl
    · rw [if_neg y]
  · rw [hall1]
    refine ⟨fun c hc => ?_, ?_⟩
    · rcases hmem c hc with rfl | hc | hc
      · exact ⟨List.nodup_nil, fun x hx => (by cases hx)⟩
      · exact hapn.1 c hc
      · exact (hapr.mono huu.1).1 c hc
    · refine List.pairwise_append.mpr ⟨?_, hapr.2, ?_⟩
      · have hp := List.pairwise_iff_getElem.mp hapn.2
        have key : ∀ i j : Nat, i < j → ∀ x ∈ rd_nd (E.1.getD i []), x ∉ rd_nd (E.1.getD j []) := by
          intro i j hij x hx hy
          rw [List.getD_eq_getElem?_getD] at hx hy
          by_cases hj : j < E.1.length
          · rw [List.getElem?_eq_getElem (by omega)] at hx
            rw [List.getElem?_eq_getElem hj] at hy
            exact hp i j (by omega) hj hij x hx hy
          · rw [List.getElem?_eq_none (by omega)] at hy
            cases hy
        show List.Pairwise _ [rd_rs E.1 0, rd_rs E.1 1, rd_rs E.1 2]
        refine List.pairwise_cons.mpr ⟨fun c hc => ?_, List.pairwise_cons.mpr ⟨fun c hc => ?_, by simp⟩⟩
        · have hc : c = rd_rs E.1 1 ∨ c = rd_rs E.1 2 := by simpa using hc
          rcases hc with rfl | rfl
          · exact key 0 1 (by omega)
          · exact key 0 2 (by omega)
        · have hc : c = rd_rs E.1 2 := by simpa using hc
          subst hc
          exact key 1 2 (by omega)
      · intro c hc c' hc' x hx hx'
        rcases rd_rs_mem hc with rfl | hc
        · cases hx
        · obtain ⟨t, ht, h4, hxt, -⟩ := hnode c hc x hx (hls x ⟨c', hc', hx'⟩)
          exact hcross _ (hcp t ht h4) c' hc' x hxt hx'
  · rw [hall1]
    intro c hc
    rcases hmem c hc with rfl | hc | hc
    · exact ⟨fun s hs => (by cases hs), rfl⟩
    · obtain ⟨w, hww, v, hv, rfl⟩ := hnew c hc
      refine rd_ev_bal w v 0 (Int.le_refl _) (hbal w hww) (fun t ht => ?_) (fun t ht h4 => ?_)
      · have := hx.1 t (List.mem_flatten.mpr ⟨w, hww, ht⟩)
        omega
      · exact k _ (List.mem_append_left _ (hcp t (List.mem_flatten.mpr ⟨w, hww, ht⟩) h4))
    · exact k c (List.mem_append_right _ hc)
  · show s.length + 1 = (rd_s C).length
    rw [hs]
    rfl
  · rintro x ⟨c, hc, hx⟩ hlt
    rcases hmem c hc with rfl | hc | hc
    · cases hx
    · obtain ⟨t, ht, h4, hxt, -⟩ := hnode c hc x hx hlt
      exact ⟨_, List.mem_append_left _ (hcp t ht h4), hxt⟩
    · exact ⟨c, List.mem_append_right _ hc, hx⟩
  · rintro x y ⟨c, hc, hxy⟩ ⟨c', hc', hx'⟩
    have hxc := (rd_nx_mem hxy).1
    have hlt := ((hap.1 c hc).2 x hxc).2
    rcases hmem c' hc' with rfl | hc2 | hc2
    · cases hx'
    · obtain ⟨t, ht, h4, hxt, p, q, e⟩ := hnode c' hc2 x hx' hlt
      have e2 : c = rd_cp (rd_r C) f.2 t := rd_ap_one hap hc (List.mem_append_left _ (hcp t ht h4)) hxc hxt
      refine ⟨c', hc', ?_⟩
      rw [e, rd_nd_app, rd_nd_app, ← e2]
      exact rd_nx_app hxy
    · have e2 : c = c' := rd_ap_one hap hc (List.mem_append_right _ hc2) hxc hx'
      exact ⟨c', hc', e2 ▸ hxy⟩
end
