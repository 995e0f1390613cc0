section
/-! Rows put together by links. -/
/-- links, signs, first, last, size, used -/
abbrev pt_S : Type := ((Int → Int) × (Int → Int)) × ((Int × Int) × (Int × Int))
abbrev pt_f (s : pt_S) : Int → Int := s.1.1
abbrev pt_g (s : pt_S) : Int → Int := s.1.2
abbrev pt_a (s : pt_S) : Int := s.2.1.1
abbrev pt_b (s : pt_S) : Int := s.2.1.2
abbrev pt_n (s : pt_S) : Int := s.2.2.1
abbrev pt_u (s : pt_S) : Int := s.2.2.2
/-- a row comes behind -/
def pt_j (s : pt_S) (a b n : Int) : pt_S := ((if pt_n s = 0 then pt_f s else am_u1 (pt_f s) (pt_b s) a, pt_g s), ((if pt_n s = 0 then a else pt_a s, b), (pt_n s + n, pt_u s)))
def pt_new (o : Int) (s : pt_S) (x : Int) : pt_S := ((pt_f s, am_u1 (pt_g s) (o + pt_u s) x), (s.2.1, (pt_n s, pt_u s)))
def pt_inc (s : pt_S) : pt_S := (s.1, (s.2.1, (pt_n s, pt_u s + 1)))
/-- one sign of an EXPRESSION; Z tells the rows of registers -/
def pt_1 (o : Int) (Z : Int → Int × (Int × Int)) (x : Int) (s : pt_S) : pt_S := if x < 4 then pt_inc (pt_j (pt_new o s x) (o + pt_u s) (o + pt_u s) 1) else if (Z x).2.2 = 0 then s else pt_j s (Z x).1 (Z x).2.1 (Z x).2.2
def pt_run (o : Int) (Z : Int → Int × (Int × Int)) : List Int → pt_S → pt_S
  | [], s => s
  | x :: w, s => pt_run o Z w (pt_1 o Z x s)
theorem pt_run_app {o : Int} {Z : Int → Int × (Int × Int)} : ∀ (w v : List Int) (s : pt_S), pt_run o Z (w ++ v) s = pt_run o Z v (pt_run o Z w s) := by
  intro w
  induction w with
  | nil => intro v s; rfl
  | cons x w ih => intro v s; exact ih v _
theorem rd_concat {c : rd_ch} (h : c ≠ []) : ∃ t p, c = t ++ [p] := by
  rcases List.eq_nil_or_concat c with e | ⟨t, p, e⟩
  · exact absurd e h
  · exact ⟨t, p, by rw [e, List.concat_eq_append]⟩
theorem rd_rp_app {o a b n a' b' n' : Int} {c c' : rd_ch} (h : rd_rp o c a b n) (h' : rd_rp o c' a' b' n') (hc : c ≠ []) (hc' : c' ≠ []) : rd_rp o (c ++ c') a b' (n + n') := by
  obtain ⟨t, p, rfl⟩ := rd_concat hc'
  refine ⟨by rw [h.1, h'.1]; simp only [List.length_append]; omega, fun q s e => ?_, fun s q e => ?_⟩
  · cases c with
    | nil => exact absurd rfl hc
    | cons q' s' =>
      injection e with e1 e2
      subst e1
      exact h.2.1 q' s' rfl
  · rw [← List.append_assoc] at e
    have e1 := (List.append_inj' e rfl).2
    injection e1 with e1
    subst e1
    exact h'.2.2 t p rfl
/-- what stands ahead of the row behind it may be written: its last one -/
theorem pt_j_ok {o a b n : Int} {c c' : rd_ch} {s : pt_S} (hr : rd_rp o c (pt_a s) (pt_b s) (pt_n s)) (hl : rd_lk (pt_f s) o (rd_nd c)) (hr' : rd_rp o c' a b n) (hl' : rd_lk (pt_f s) o (rd_nd c')) (hc' : c' ≠ []) (hd : (rd_nd (c ++ c')).Nodup) : rd_rp o (c ++ c') (pt_a (pt_j s a b n)) (pt_b (pt_j s a b n)) (pt_n (pt_j s a b n)) ∧ rd_lk (pt_f (pt_j s a b n)) o (rd_nd (c ++ c')) ∧ ∀ z, (∀ t p, c = t ++ [p] → z ≠ o + p.1) → pt_f (pt_j s a b n) z = pt_f s z := by
  have hlen := hr.1
  by_cases hc : c = []
  · subst hc
    have h0 : pt_n s = 0 := hlen
    have e1 : pt_f (pt_j s a b n) = pt_f s := if_pos h0
    have e2 : pt_a (pt_j s a b n) = a := if_pos h0
    have e3 : pt_n (pt_j s a b n) = n := by show pt_n s + n = n; omega
    rw [e1, e2, e3, List.nil_append]
    exact ⟨hr', hl', fun z _ => rfl⟩
  · obtain ⟨t, p, rfl⟩ := rd_concat hc
    have h0 : ¬ pt_n s = 0 := by rw [hlen]; simp only [List.length_append, List.length_cons]; omega
    have e1 : pt_f (pt_j s a b n) = am_u1 (pt_f s) (pt_b s) a := if_neg h0
    have e2 : pt_a (pt_j s a b n) = pt_a s := if_neg h0
    have eb : pt_b s = o + p.1 := hr.2.2 t p rfl
    rw [e1, e2]
    cases c' with
    | nil => exact absurd rfl hc'
    | cons q r =>
      have ea : a = o + q.1 := hr'.2.1 q r rfl
      rw [rd_nd_app] at hd
      have hd' := List.nodup_append.mp hd
      have en : rd_nd (t ++ [p]) = rd_nd t ++ [p.1] := rd_nd_app
      have hp : p.1 ∈ rd_nd (t ++ [p]) := by rw [en]; simp
      refine ⟨rd_rp_app hr hr' hc hc', ?_, fun z hz => am_u1_ne (by rw [eb]; exact hz t p rfl)⟩
      rw [rd_nd_app, en, eb]
      refine rd_lk_app (rd_lk_set (by rw [← en]; exact hl) (fun y => ?_)) (rd_lk_set hl' (fun y hy => ?_)) ?_
      · have h1 := hd'.1
        rw [en] at h1
        exact rd_nx_last h1
      · exact hd'.2.2 p.1 hp p.1 (rd_nx_mem hy).1 rfl
      · rw [am_u1_eq, ea]
/-- the whole EXPRESSION -/
theorem pt_run_ok {o : Int} {X Y : rd_rg} {Z : Int → Int × (Int × Int)} : ∀ (w : List Int) (c : rd_ch) (s : pt_S), rd_pt X Y w (pt_u s) → 0 ≤ pt_u s → (rd_nd c).Nodup → (∀ x ∈ rd_nd c, 0 ≤ x ∧ x < pt_u s) → (∀ t ∈ w, 4 ≤ t → ∀ x ∈ rd_nd c, x ∉ rd_nd (rd_cp X Y t)) →
    (∀ t ∈ w, 4 ≤ t → rd_rp o (rd_cp X Y t) (Z t).1 (Z t).2.1 (Z t).2.2 ∧ rd_lk (pt_f s) o (rd_nd (rd_cp X Y t)) ∧ ∀ p ∈ rd_cp X Y t, pt_g s (o + p.1) = p.2) →
    rd_rp o c (pt_a s) (pt_b s) (pt_n s) → rd_lk (pt_f s) o (rd_nd c) → (∀ p ∈ c, pt_g s (o + p.1) = p.2) →
    rd_rp o (rd_ev X Y w (c, pt_u s)).1 (pt_a (pt_run o Z w s)) (pt_b (pt_run o Z w s)) (pt_n (pt_run o Z w s)) ∧ pt_u (pt_run o Z w s) = (rd_ev X Y w (c, pt_u s)).2 ∧ rd_lk (pt_f (pt_run o Z w s)) o (rd_nd (rd_ev X Y w (c, pt_u s)).1) ∧ (∀ p ∈ (rd_ev X Y w (c, pt_u s)).1, pt_g (pt_run o Z w s) (o + p.1) = p.2) ∧
    (∀ z, (∀ t p, c = t ++ [p] → z ≠ o + p.1) → (∀ x, pt_u s ≤ x → x < (rd_ev X Y w (c, pt_u s)).2 → z ≠ o + x) → (∀ v ∈ w, 4 ≤ v → ∀ t p, rd_cp X Y v = t ++ [p] → z ≠ o + p.1) → pt_f (pt_run o Z w s) z = pt_f s z) ∧
    (∀ z, (∀ x, pt_u s ≤ x → x < (rd_ev X Y w (c, pt_u s)).2 → z ≠ o + x) → pt_g (pt_run o Z w s) z = pt_g s z) := by
  intro w
  induction w with
  | nil =>
    intro c s _ _ _ _ _ _ hr hl hg
    exact ⟨hr, rfl, hl, hg, fun _ _ _ _ => rfl, fun _ _ => rfl⟩
  | cons v w ih =>
    intro c s hp hu hn hb hdis hZ hr hl hg
    have hu2 := rd_ev_u (X := X) (Y := Y) w
    by_cases z : v < 4
    · -- a new node
      have e1 : rd_ev X Y (v :: w) (c, pt_u s) = rd_ev X Y w (c ++ [(pt_u s, v)], pt_u s + 1) := by
        show rd_ev X Y w (rd_e1 X Y v (c, pt_u s)) = _
        unfold rd_e1
        rw [if_pos z]
      have e2 : pt_run o Z (v :: w) s = pt_run o Z w (pt_inc (pt_j (pt_new o s v) (o + pt_u s) (o + pt_u s) 1)) := by
        show pt_run o Z w (pt_1 o Z v s) = _
        unfold pt_1
        rw [if_pos z]
      have hnew : pt_u s ∉ rd_nd c := fun h => by have := hb _ h; omega
      have hnd : (rd_nd (c ++ [(pt_u s, v)])).Nodup := by
        rw [rd_nd_app]
        refine List.nodup_append.mpr ⟨hn, by simp [rd_nd], fun x hx y hy e => ?_⟩
        have hy : y = pt_u s := by simpa [rd_nd] using hy
        subst hy; subst e
        exact hnew hx
      have hj := pt_j_ok (s := pt_new o s v) (a := o + pt_u s) (b := o + pt_u s) (n := 1) (c' := [(pt_u s, v)]) hr hl ⟨rfl, fun p t e => by injection e with e; rw [← e], fun t p e => by
        have : [(pt_u s, v)] = t ++ [p] := e
        have h1 := (List.append_inj' (s₁ := []) (t₁ := [(pt_u s, v)]) this rfl).2
        injection h1 with h1
        rw [← h1]⟩ rd_lk_one (by simp) hnd
      have hg' : ∀ z, z ≠ o + pt_u s → pt_g (pt_inc (pt_j (pt_new o s v) (o + pt_u s) (o + pt_u s) 1)) z = pt_g s z := fun z hz => am_u1_ne hz
      have hgu : pt_g (pt_inc (pt_j (pt_new o s v) (o + pt_u s) (o + pt_u s) 1)) (o + pt_u s) = v := am_u1_eq
      rw [e1, e2]
      have hu3 : (rd_ev X Y w (c ++ [(pt_u s, v)], pt_u s + 1)).2 = pt_u s + 1 + _ := hu2 _
      have hfr : ∀ t ∈ w, 4 ≤ t → ∀ z ∈ rd_nd (rd_cp X Y t), z < pt_u s ∧ pt_f (pt_j (pt_new o s v) (o + pt_u s) (o + pt_u s) 1) (o + z) = pt_f s (o + z) := by
        intro t ht h4 z hz
        have hzt := (hp.2.1 t (List.mem_cons_of_mem _ ht) h4).2 z hz
        refine ⟨hzt.2, hj.2.2 _ (fun t' p e he => ?_)⟩
        have : z = p.1 := by omega
        subst this
        exact hdis t (List.mem_cons_of_mem _ ht) h4 p.1 (by rw [e, rd_nd_app]; simp [rd_nd]) hz
      have key := ih (c ++ [(pt_u s, v)]) (pt_inc (pt_j (pt_new o s v) (o + pt_u s) (o + pt_u s) 1)) (hp.tail (show pt_u s ≤ pt_u s + 1 by omega)) (show 0 ≤ pt_u s + 1 by omega) hnd (by
          intro x hx
          show 0 ≤ x ∧ x < pt_u s + 1
          rw [rd_nd_app] at hx
          rcases List.mem_append.mp hx with hx | hx
          · have := hb x hx; omega
          · have hx : x = pt_u s := by simpa [rd_nd] using hx
            omega) (by
          intro t ht h4 x hx
          rw [rd_nd_app] at hx
          rcases List.mem_append.mp hx with hx | hx
          · exact hdis t (List.mem_cons_of_mem _ ht) h4 x hx
          · have hx : x = pt_u s := by simpa [rd_nd] using hx
            intro y
            have := (hp.2.1 t (List.mem_cons_of_mem _ ht) h4).2 x y
            omega) (by
          intro t ht h4
          obtain ⟨z1, z2, z3⟩ := hZ t (List.mem_cons_of_mem _ ht) h4
          refine ⟨z1, fun x y hxy => ?_, fun p hpm => ?_⟩
          · rw [show pt_f (pt_inc (pt_j (pt_new o s v) (o + pt_u s) (o + pt_u s) 1)) = pt_f (pt_j (pt_new o s v) (o + pt_u s) (o + pt_u s) 1) from rfl, (hfr t ht h4 x (rd_nx_mem hxy).1).2]
            exact z2 x y hxy
          · have hpn : p.1 ∈ rd_nd (rd_cp X Y t) := List.mem_map.mpr ⟨p, hpm, rfl⟩
            rw [hg' _ (by have := (hfr t ht h4 p.1 hpn).1; omega)]
            exact z3 p hpm) hj.1 hj.2.1 (by
          intro p hpm
          rcases List.mem_append.mp hpm with hpm | hpm
          · have hpn : p.1 ∈ rd_nd c := List.mem_map.mpr ⟨p, hpm, rfl⟩
            rw [hg' _ (by have := hb _ hpn; omega)]
            exact hg p hpm
          · have hpm : p = (pt_u s, v) := by simpa using hpm
            subst hpm
            exact hgu)
      obtain ⟨k1, k2, k3, k4, k5, k6⟩ := key
      have ku : pt_u (pt_inc (pt_j (pt_new o s v) (o + pt_u s) (o + pt_u s) 1)) = pt_u s + 1 := rfl
      rw [ku] at k1 k2 k3 k4 k5 k6
      refine ⟨k1, k2, k3, k4, fun z h1 h2 h3 => ?_, fun z h1 => ?_⟩
      · rw [k5 z (fun t p e => ?_) (fun x hx hx' => h2 x (by omega) hx') (fun t ht h4 => h3 t (List.mem_cons_of_mem _ ht) h4)]
        · exact hj.2.2 z h1
        · have e3 := (List.append_inj' e rfl).2
          injection e3 with e3
          rw [← e3]
          exact h2 _ (Int.le_refl _) (by show pt_u s < _; omega)
      · rw [k6 z (fun x hx hx' => h1 x (by omega) hx')]
        exact hg' z (h1 _ (Int.le_refl _) (by omega))
    · have h4v : 4 ≤ v := by omega
      have e1 : rd_ev X Y (v :: w) (c, pt_u s) = rd_ev X Y w (c ++ rd_cp X Y v, pt_u s) := by
        show rd_ev X Y w (rd_e1 X Y v (c, pt_u s)) = _
        unfold rd_e1
        rw [if_neg z]
      obtain ⟨z1, z2, z3⟩ := hZ v List.mem_cons_self h4v
      rw [e1]
      by_cases hc0 : rd_cp X Y v = []
      · -- an empty one
        have hn0 : (Z v).2.2 = 0 := by rw [z1.1, hc0]; rfl
        have e2 : pt_run o Z (v :: w) s = pt_run o Z w s := by
          show pt_run o Z w (pt_1 o Z v s) = _
          unfold pt_1
          rw [if_neg z, if_pos hn0]
        rw [e2, hc0, List.append_nil]
        obtain ⟨k1, k2, k3, k4, k5, k6⟩ := ih c s (hp.tail (Int.le_refl _)) hu hn hb (fun t ht => hdis t (List.mem_cons_of_mem _ ht)) (fun t ht => hZ t (List.mem_cons_of_mem _ ht)) hr hl hg
        exact ⟨k1, k2, k3, k4, fun z h1 h2 h3 => k5 z h1 h2 (fun t ht => h3 t (List.mem_cons_of_mem _ ht)), k6⟩
      · have hn0 : ¬ (Z v).2.2 = 0 := by
          rw [z1.1]
          intro h
          exact hc0 (List.eq_nil_of_length_eq_zero (by omega))
        have e2 : pt_run o Z (v :: w) s = pt_run o Z w (pt_j s (Z v).1 (Z v).2.1 (Z v).2.2) := by
          show pt_run o Z w (pt_1 o Z v s) = _
          unfold pt_1
          rw [if_neg z, if_neg hn0]
        rw [e2]
        have hpv := hp.2.1 v List.mem_cons_self h4v
        have hnd : (rd_nd (c ++ rd_cp X Y v)).Nodup := by
          rw [rd_nd_app]
          refine List.nodup_append.mpr ⟨hn, hpv.1, fun x hx y hy e => ?_⟩
          subst e
          exact hdis v List.mem_cons_self h4v x hx hy
        have hj := pt_j_ok hr hl z1 z2 hc0 hnd
        have hfr : ∀ t ∈ w, 4 ≤ t → ∀ z ∈ rd_nd (rd_cp X Y t), pt_f (pt_j s (Z v).1 (Z v).2.1 (Z v).2.2) (o + z) = pt_f s (o + z) := by
          intro t ht h4 z hz
          refine hj.2.2 _ (fun t' p e he => ?_)
          have : z = p.1 := by omega
          subst this
          exact hdis t (List.mem_cons_of_mem _ ht) h4 p.1 (by rw [e, rd_nd_app]; simp [rd_nd]) hz
        have key := ih (c ++ rd_cp X Y v) (pt_j s (Z v).1 (Z v).2.1 (Z v).2.2) (hp.tail (Int.le_refl _)) hu hnd (by
            intro x hx
            show 0 ≤ x ∧ x < pt_u s
            rw [rd_nd_app] at hx
            rcases List.mem_append.mp hx with hx | hx
            · exact hb x hx
            · exact hpv.2 x hx) (by
            intro t ht h4 x hx
            rw [rd_nd_app] at hx
            rcases List.mem_append.mp hx with hx | hx
            · exact hdis t (List.mem_cons_of_mem _ ht) h4 x hx
            · exact hp.2.2 v List.mem_cons_self t (List.mem_cons_of_mem _ ht) h4v h4 (hp.head h4v ht h4) x hx) (by
            intro t ht h4
            obtain ⟨y1, y2, y3⟩ := hZ t (List.mem_cons_of_mem _ ht) h4
            refine ⟨y1, fun x y hxy => ?_, y3⟩
            rw [hfr t ht h4 x (rd_nx_mem hxy).1]
            exact y2 x y hxy) hj.1 hj.2.1 (by
            intro p hpm
            rcases List.mem_append.mp hpm with hpm | hpm
            · exact hg p hpm
            · exact z3 p hpm)
        obtain ⟨k1, k2, k3, k4, k5, k6⟩ := key
        have ku : pt_u (pt_j s (Z v).1 (Z v).2.1 (Z v).2.2) = pt_u s := rfl
        rw [ku] at k1 k2 k3 k4 k5 k6
        refine ⟨k1, k2, k3, k4, fun z h1 h2 h3 => ?_, k6⟩
        rw [k5 z (fun t p e => ?_) h2 (fun t ht h4 => h3 t (List.mem_cons_of_mem _ ht) h4)]
        · exact hj.2.2 z h1
        · obtain ⟨t', p', e'⟩ := rd_concat hc0
          rw [e', ← List.append_assoc] at e
          have e3 := (List.append_inj' e rfl).2
          injection e3 with e3
          rw [← e3]
          exact h3 v List.mem_cons_self h4v t' p' e'
end
