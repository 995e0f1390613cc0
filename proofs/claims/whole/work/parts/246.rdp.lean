section
/-! What the links tell. -/
def rd_G (o : Int) (f g : Int → Int) (L : List rd_ch) : Prop := (∀ x y, rd_nl L x y → f (o + x) = o + y) ∧ ∀ c ∈ L, ∀ p ∈ c, g (o + p.1) = p.2
theorem rd_G.sub {o : Int} {f g : Int → Int} {L L' : List rd_ch} (h : rd_G o f g L) (hs : ∀ c ∈ L', c ∈ L) : rd_G o f g L' := ⟨fun x y ⟨c, hc, hx⟩ => h.1 x y ⟨c, hs c hc, hx⟩, fun c hc => h.2 c (hs c hc)⟩
theorem rd_G.lk {o : Int} {f g : Int → Int} {L : List rd_ch} {c : rd_ch} (h : rd_G o f g L) (hc : c ∈ L) : rd_lk f o (rd_nd c) := fun x y hx => h.1 x y ⟨c, hc, hx⟩
/-- no node of K's rows that has one behind it in L is the last of a row of K -/
def rd_sf (L K : List rd_ch) (u : Int) : Prop := (∀ x y, rd_nl L x y → ∀ c ∈ K, ∀ t p, c = t ++ [p] → x ≠ p.1) ∧ ∀ c ∈ L, ∀ x ∈ rd_nd c, x < u
theorem rd_sf_self {K : List rd_ch} {u : Int} (h : rd_ap K u) : rd_sf K K u := by
  refine ⟨fun x y ⟨c, hc, hx⟩ c' hc' t p e he => ?_, fun c hc x hx => ((h.1 c hc).2 x hx).2⟩
  have hp : x ∈ rd_nd c' := by rw [e, he, rd_nd_app]; simp [rd_nd]
  have e2 := rd_ap_one h hc hc' (rd_nx_mem hx).1 hp
  subst e2
  have hn := (h.1 c hc).1
  rw [e, rd_nd_app] at hx hn
  have h1 : rd_nd [p] = [x] := by rw [he]; rfl
  rw [h1] at hx hn
  exact rd_nx_last hn hx
/-- a run before: what it left is safe -/
theorem rd_sf_run {P : am_P} {w : List Int} {C C' : rd_C} {m m' : Int} (hP : pm_ok P) (hw : pm_wf P) (he : ∀ e ∈ w, 0 ≤ e ∧ e ≤ 3) (hI : rd_I P C) (hm : 0 ≤ m ∧ m ≤ rd_u C) (h : rd_run P w C m = some (C', m')) : rd_sf (rd_all C) (rd_all C') (rd_u C') := by
  obtain ⟨i1, i2, -, -, i5, i6⟩ := rd_run_inv hP hw w C C' m m' he hI hm h
  refine ⟨fun x y hxy c' hc' t p e hp => ?_, fun c hc x hx => ?_⟩
  · have hlv : rd_lv (rd_all C') x := ⟨c', hc', by rw [e, hp, rd_nd_app]; simp [rd_nd]⟩
    exact (rd_sf_self i1.2.2.2.2.1).1 x y (i6 x y hxy hlv) c' hc' t p e hp
  · have := ((hI.2.2.2.2.1.1 c hc).2 x hx).2
    omega
theorem rd_sf.sub {L K K' : List rd_ch} {u : Int} (h : rd_sf L K u) (hs : ∀ c ∈ K', c ∈ K) : rd_sf L K' u := ⟨fun x y hx c hc => h.1 x y hx c (hs c hc), h.2⟩
theorem rd_G.keep {o u : Int} {f g f' g' : Int → Int} {L K : List rd_ch} (h : rd_G o f g L) (hs : rd_sf L K u) (hf : ∀ x, x < u → (∀ c ∈ K, ∀ t p, c = t ++ [p] → x ≠ p.1) → f' (o + x) = f (o + x)) (hg : ∀ x, x < u → g' (o + x) = g (o + x)) : rd_G o f' g' L := by
  refine ⟨fun x y hx => ?_, fun c hc p hp => ?_⟩
  · obtain ⟨c, hc, hxy⟩ := id hx
    rw [hf x (hs.2 c hc x (rd_nx_mem hxy).1) (hs.1 x y hx)]
    exact h.1 x y hx
  · rw [hg p.1 (hs.2 c hc p.1 (List.mem_map.mpr ⟨p, hp, rfl⟩))]
    exact h.2 c hc p hp
theorem rd_rp_nil {o a b n : Int} (h : n = 0) : rd_rp o [] a b n := ⟨h, fun p t e => (nomatch e), fun t p e => absurd (congrArg List.length e) (by simp)⟩
/-- one EXPRESSION of a RULE more -/
theorem rd_put {o u R : Int} {X Y : rd_rg} {Z : Int → Int × (Int × Int)} {pre post : List (List Int)} {w : List Int} {s : pt_S} (hR : R ≤ 3) (hx : pm_ex R true (pre ++ w :: post).flatten) (hap : rd_ap (rd_c3 X ++ rd_c3 Y) u) (hu : 0 ≤ u)
    (hZ : ∀ t ∈ w, 4 ≤ t → rd_rp o (rd_cp X Y t) (Z t).1 (Z t).2.1 (Z t).2.2) (hn : pt_n s = 0) (hus : pt_u s = (rd_es X Y pre [] u).2) (hK : rd_G o (pt_f s) (pt_g s) (rd_c3 X ++ rd_c3 Y)) (hE : rd_G o (pt_f s) (pt_g s) (rd_es X Y pre [] u).1) :
    rd_rp o (rd_ev X Y w ([], pt_u s)).1 (pt_a (pt_run o Z w s)) (pt_b (pt_run o Z w s)) (pt_n (pt_run o Z w s)) ∧ pt_u (pt_run o Z w s) = (rd_es X Y (pre ++ [w]) [] u).2 ∧ rd_G o (pt_f (pt_run o Z w s)) (pt_g (pt_run o Z w s)) (rd_es X Y (pre ++ [w]) [] u).1 ∧ (rd_es X Y (pre ++ [w]) [] u).1 = (rd_es X Y pre [] u).1 ++ [(rd_ev X Y w ([], pt_u s)).1] ∧
    (∀ x, x < u → (∀ c ∈ rd_c3 X ++ rd_c3 Y, ∀ t p, c = t ++ [p] → x ≠ p.1) → pt_f (pt_run o Z w s) (o + x) = pt_f s (o + x)) ∧ (∀ x, x < u → pt_g (pt_run o Z w s) (o + x) = pt_g s (o + x)) ∧
    (∀ z, z < o ∨ o + pt_u (pt_run o Z w s) ≤ z → pt_f (pt_run o Z w s) z = pt_f s z ∧ pt_g (pt_run o Z w s) z = pt_g s z) := by
  have hes : ∀ (a b : List (List Int)) (cs : List rd_ch) (v : Int), rd_es X Y (a ++ b) cs v = rd_es X Y b (rd_es X Y a cs v).1 (rd_es X Y a cs v).2 := by
    intro a
    induction a with
    | nil => intro b cs v; rfl
    | cons y a ih => intro b cs v; exact ih b _ _
  have e1 : rd_es X Y (pre ++ [w]) [] u = ((rd_es X Y pre [] u).1 ++ [(rd_ev X Y w ([], pt_u s)).1], (rd_ev X Y w ([], pt_u s)).2) := by
    rw [hes, hus]
    rfl
  have hfl := rd_es_flat (X := X) (Y := Y) pre [] u
  have hu2 := rd_ev_u (X := X) (Y := Y) pre.flatten ([], u)
  rw [← hfl.2, ← hus] at hu2
  have hu2 : pt_u s = u + _ := hu2
  have hu3 : (rd_ev X Y w ([], pt_u s)).2 = pt_u s + _ := rd_ev_u (X := X) (Y := Y) w ([], pt_u s)
  have hmw : ∀ t ∈ w, t ∈ (pre ++ w :: post).flatten := fun t ht => List.mem_flatten.mpr ⟨w, by simp, ht⟩
  have hpt0 : rd_pt X Y (pre ++ w :: post).flatten u := rd_pt_of hR hx hap
  have hpt : rd_pt X Y w (pt_u s) := by
    refine ⟨?_, fun t ht h4 => ?_, fun t ht t' ht' => hpt0.2.2 t (hmw t ht) t' (hmw t' ht')⟩
    · have h1 := hpt0.1
      rw [List.flatten_append, List.flatten_cons, List.filter_append, List.filter_append] at h1
      exact (List.nodup_append.mp (List.nodup_append.mp h1).2.1).1
    · have := hpt0.2.1 t (hmw t ht) h4
      exact ⟨this.1, fun x hx => by have := this.2 x hx; omega⟩
  have hcp : ∀ t ∈ (pre ++ w :: post).flatten, 4 ≤ t → rd_cp X Y t ∈ rd_c3 X ++ rd_c3 Y := by
    intro t ht h4
    obtain ⟨i, hi, e, -⟩ := rd_six (X := X) (Y := Y) hR hx ht h4
    exact List.mem_of_getElem? e
  have hlt : ∀ t ∈ (pre ++ w :: post).flatten, 4 ≤ t → ∀ x ∈ rd_nd (rd_cp X Y t), 0 ≤ x ∧ x < u := fun t ht h4 => (hpt0.2.1 t ht h4).2
  obtain ⟨k1, k2, k3, k4, k5, k6⟩ := pt_run_ok (o := o) (X := X) (Y := Y) (Z := Z) w [] s hpt (by omega) List.nodup_nil (fun x hx => (by cases hx)) (fun t _ _ x hx => (by cases hx)) (fun t ht h4 => ⟨hZ t ht h4, hK.lk (hcp t (hmw t ht) h4), hK.2 _ (hcp t (hmw t ht) h4)⟩) (rd_rp_nil hn) rd_lk_nil (fun p hp => (by cases hp))
  have fr1 : ∀ x, x < pt_u s → (∀ v ∈ w, 4 ≤ v → ∀ t p, rd_cp X Y v = t ++ [p] → x ≠ p.1) → pt_f (pt_run o Z w s) (o + x) = pt_f s (o + x) := by
    intro x hx hno
    refine k5 (o + x) (fun t p e => ?_) (fun y h1 h2 => by omega) (fun v hv h4 t p e => ?_)
    · have := congrArg List.length e
      simp at this
    · have := hno v hv h4 t p e
      omega
  have fr2 : ∀ x, x < pt_u s → pt_g (pt_run o Z w s) (o + x) = pt_g s (o + x) := fun x hx => k6 (o + x) (fun y h1 h2 => by omega)
  -- nodes of the rows before
  have hprev : ∀ c ∈ (rd_es X Y pre [] u).1, ∀ x ∈ rd_nd c, x < pt_u s ∧ ∀ v ∈ w, 4 ≤ v → x ∉ rd_nd (rd_cp X Y v) := by
    intro c hc x hxc
    rcases rd_es_get pre [] u c hc with hc' | ⟨w', hw', v', hv', rfl⟩
    · cases hc'
    have hw'f : ∀ t ∈ w', t ∈ pre.flatten := fun t ht => List.mem_flatten.mpr ⟨w', hw', ht⟩
    have hxall : x ∈ rd_nd (rd_ev X Y pre.flatten ([], u)).1 := by
      rw [List.flatten_nil, List.nil_append] at hfl
      rw [← hfl.1]
      unfold rd_nd
      rw [List.map_flatten]
      exact List.mem_flatten.mpr ⟨_, List.mem_map.mpr ⟨_, hc, rfl⟩, hxc⟩
    refine ⟨?_, fun v hv h4 hxv => ?_⟩
    · rcases rd_ev_mem _ _ hxall with h | ⟨t, ht, h4, hxt⟩ | h
      · cases h
      · have := hlt t (by rw [List.flatten_append]; exact List.mem_append_left _ ht) h4 x hxt
        omega
      · have h2 := h.2
        rw [← hfl.2, ← hus] at h2
        exact h2
    · rcases rd_ev_mem _ _ hxc with h | ⟨t, ht, h4', hxt⟩ | h
      · cases h
      · have htv : t ≠ v := by
          intro e
          subst e
          have h1 := hpt0.1
          rw [List.flatten_append, List.flatten_cons, List.filter_append, List.filter_append] at h1
          refine (List.nodup_append.mp h1).2.2 t (List.mem_filter.mpr ⟨hw'f t ht, by simpa using h4⟩) t ?_ rfl
          exact List.mem_append_left _ (List.mem_filter.mpr ⟨hv, by simpa using h4⟩)
        exact hpt0.2.2 t (by rw [List.flatten_append]; exact List.mem_append_left _ (hw'f t ht)) v (hmw v hv) h4' h4 htv x hxt hxv
      · have h1 : v' ≤ x := h.1
        have := hlt v (hmw v hv) h4 x hxv
        omega
  have hlast : ∀ v ∈ w, ∀ t (p : Int × Int), rd_cp X Y v = t ++ [p] → p.1 ∈ rd_nd (rd_cp X Y v) := by
    intro v hv t p e
    rw [e, rd_nd_app]
    simp [rd_nd]
  rw [e1]
  refine ⟨k1, k2, ⟨fun x y hxy => ?_, fun c hc p hp => ?_⟩, rfl, fun x hx hno => ?_, fun x hx => fr2 x (by omega), fun z hz => ?_⟩
  · obtain ⟨c, hc, hxy⟩ := hxy
    rcases List.mem_append.mp hc with hc | hc
    · obtain ⟨h1, h2⟩ := hprev c hc x (rd_nx_mem hxy).1
      rw [fr1 x h1 (fun v hv h4 t p e ep => h2 v hv h4 (by rw [ep]; exact hlast v hv t p e))]
      exact hE.1 x y ⟨c, hc, hxy⟩
    · have hc : c = (rd_ev X Y w ([], pt_u s)).1 := by simpa using hc
      subst hc
      exact k3 x y hxy
  · rcases List.mem_append.mp hc with hc | hc
    · obtain ⟨h1, -⟩ := hprev c hc p.1 (List.mem_map.mpr ⟨p, hp, rfl⟩)
      rw [fr2 p.1 h1]
      exact hE.2 c hc p hp
    · have hc : c = (rd_ev X Y w ([], pt_u s)).1 := by simpa using hc
      subst hc
      exact k4 p hp
  · exact fr1 x (by omega) (fun v hv h4 t p e => hno _ (hcp v (hmw v hv) h4) t p e)
  · rw [k2] at hz
    refine ⟨k5 z (fun t p e => ?_) (fun x h1 h2 => by omega) (fun v hv h4 t p e => ?_), k6 z (fun x h1 h2 => by omega)⟩
    · have := congrArg List.length e
      simp at this
    · have := hlt v (hmw v hv) h4 p.1 (hlast v hv t p e)
      omega
end
