section
/-! What comes of rows: (where it began, STATE), kinds of the REGISTERS. -/
abbrev sv_S : Type := (Int × Int) × (sk_K × sk_K)
def sv_ok (x : sv_S) : Prop := (0 ≤ x.1.1 ∧ x.1.1 < 3) ∧ (0 ≤ x.1.2 ∧ x.1.2 < 3) ∧ sk_ok x.2.1 ∧ sk_ok x.2.2
def sv_1 (q : Int) : sv_S := ((q, q), (sk_1, sk_1))
def sv_X (x : sv_S) (r : Int) : sk_K := if r = 0 then x.2.1 else x.2.2
/-- o, and i within an ELEMENT behind it -/
def sv_n (P Q : am_P) (l : Int) (o i : sv_S) : Option sv_S := if pm_cT P l i.1.2 (pm_oM P l o.1.2) = -1 then none else some ((o.1.1, pm_cT P l i.1.2 (pm_oM P l o.1.2)), (sk_ev Q (sv_X i) (sv_X o) ((pm_cX P l i.1.2 (pm_oM P l o.1.2)).getD 0 []) sk_1 [], if pm_R P = 1 then sk_1 else sk_ev Q (sv_X i) (sv_X o) ((pm_cX P l i.1.2 (pm_oM P l o.1.2)).getD 1 []) sk_1 []))
/-- it spoils at the end -/
def sv_l (Q : am_P) (x : sv_S) (v : List Int) : Int := sk_to (sk_ev Q (sv_X x) (sv_X x) v sk_1 []) 0
def sv_e (P Q : am_P) (x : sv_S) : Bool := match pm_eX P x.1.2 with
  | none => false
  | some v => decide (sv_l Q x v = 2) || (pm_eX Q (sv_l Q x v)).isNone
/-- closed, as the reference closes -/
def sv_cR (P Q : am_P) (S : sv_S → Prop) : Prop := (∀ q, 0 ≤ q → q < 3 → S (sv_1 q)) ∧ ∀ l o i x, 0 ≤ l → l < 3 → o.1.1 < pm_S P → S o → S i → pm_oT P l o.1.2 = i.1.1 → sv_n P Q l o i = some x → S x
/-- closed, as the class closes -/
def sv_cC (P Q : am_P) (S : sv_S → Prop) : Prop := S (sv_1 0) ∧ (∀ l o, 0 ≤ l → l < 3 → S o → pm_oT P l o.1.2 ≠ -1 → S (sv_1 (pm_oT P l o.1.2))) ∧ ∀ l o i x, 0 ≤ l → l < 3 → S o → S i → pm_oT P l o.1.2 = i.1.1 → sv_n P Q l o i = some x → S x
def sv_R (P Q : am_P) (x : sv_S) : Prop := ∀ S, sv_cR P Q S → S x
def sv_C (P Q : am_P) (x : sv_S) : Prop := ∀ S, sv_cC P Q S → S x
theorem sv_n_b {P Q : am_P} {l : Int} {o i x : sv_S} (h : sv_n P Q l o i = some x) : x.1.1 = o.1.1 ∧ x.1.2 = pm_cT P l i.1.2 (pm_oM P l o.1.2) ∧ x.1.2 ≠ -1 := by
  unfold sv_n at h
  split at h
  · exact nomatch h
  · rename_i z
    injection h with h
    subst h
    exact ⟨rfl, rfl, z⟩
theorem sv_R_c {P Q : am_P} : sv_cR P Q (sv_R P Q) := ⟨fun q h0 h1 S hS => hS.1 q h0 h1, fun l o i x l0 l1 hb ho hi hT hn S hS => hS.2 l o i x l0 l1 hb (ho S hS) (hi S hS) hT hn⟩
theorem sv_C_c {P Q : am_P} : sv_cC P Q (sv_C P Q) := ⟨fun S hS => hS.1, fun l o l0 l1 ho hT S hS => hS.2.1 l o l0 l1 (ho S hS) hT, fun l o i x l0 l1 ho hi hT hn S hS => hS.2.2 l o i x l0 l1 (ho S hS) (hi S hS) hT hn⟩
theorem sv_C_R {P Q : am_P} {x : sv_S} (hP : pm_ok P) (h3 : pm_S P ≤ 3) (h : sv_C P Q x) : sv_R P Q x ∧ x.1.1 < pm_S P := by
  refine h (fun x => sv_R P Q x ∧ x.1.1 < pm_S P) ⟨⟨sv_R_c.1 0 (Int.le_refl _) (by omega), ?_⟩, ?_, ?_⟩
  · have := hP.1.1
    show (0 : Int) < pm_S P
    omega
  · intro l o l0 l1 ho hT
    have := hP.2.2.2.2.2.1 l o.1.2
    exact ⟨sv_R_c.1 _ (by omega) (by omega), this.2⟩
  · intro l o i x l0 l1 ho hi hT hn
    exact ⟨sv_R_c.2 l o i x l0 l1 ho.2 ho.1 hi.1 hT hn, by rw [(sv_n_b hn).1]; exact ho.2⟩
theorem sv_R_C {P Q : am_P} {x : sv_S} (h : sv_R P Q x) (hb : sv_C P Q (sv_1 x.1.1)) : sv_C P Q x := by
  refine (h (fun x => 0 ≤ x.1.1 ∧ (sv_C P Q (sv_1 x.1.1) → sv_C P Q x)) ⟨fun q h0 h1 => ⟨h0, id⟩, ?_⟩).2 hb
  intro l o i x l0 l1 _ ho hi hT hn
  obtain ⟨n1, n2, n3⟩ := sv_n_b hn
  refine ⟨by rw [n1]; exact ho.1, fun hc => ?_⟩
  rw [n1] at hc
  have hoC := ho.2 hc
  have h1 := sv_C_c.2.1 l o l0 l1 hoC (by rw [hT]; have := hi.1; omega)
  rw [hT] at h1
  exact sv_C_c.2.2 l o i x l0 l1 hoC (hi.2 h1) hT hn
theorem sv_0 {P Q : am_P} {x : sv_S} (hP : pm_ok P) (h3 : pm_S P ≤ 3) (h0 : x.1.1 = 0) : sv_R P Q x ↔ sv_C P Q x := ⟨fun h => sv_R_C h (by rw [h0]; exact sv_C_c.1), fun h => (sv_C_R hP h3 h).1⟩
/-- a told MACHINE and one to READ what it WRITES -/
def sv_m (P Q : am_P) : Prop := (pm_ok P ∧ pm_wf P ∧ pm_S P ≤ 3 ∧ pm_R P ≤ 2) ∧ sk_q Q
theorem sv_m.cx {P Q : am_P} (h : sv_m P Q) {l q k : Int} (hc : pm_cT P l q k ≠ -1) : ((pm_cX P l q k).length : Int) = pm_R P ∧ ∀ w ∈ pm_cX P l q k, sk_x w := by
  obtain ⟨⟨hP, hW, h3, h2⟩, -⟩ := h
  refine ⟨(hP.2.2.2.2.2.2.2 l q k).2.2 hc, fun w hw => ?_⟩
  obtain ⟨⟨h4, -, h5⟩, h6⟩ := hW.1 l q k hc
  refine ⟨fun s hs => ?_, h6 w hw, ?_⟩
  · have := h4 s (List.mem_flatten.mpr ⟨w, hw, hs⟩)
    rcases this with h | h | h
    · exact Or.inl h
    · exact Or.inr (Or.inl (by omega))
    · exact Or.inr (Or.inr (by omega))
  · obtain ⟨a, b, e⟩ := List.append_of_mem hw
    rw [e, List.flatten_append, List.flatten_cons, List.countP_append, List.countP_append] at h5
    omega
theorem sv_m.ex {P Q : am_P} (h : sv_m P Q) {q : Int} {w : List Int} (hc : pm_eX P q = some w) : sk_x w ∧ ∀ s ∈ w, s < 8 := by
  obtain ⟨⟨hP, hW, h3, h2⟩, -⟩ := h
  obtain ⟨⟨h4, -, h5⟩, h6⟩ := hW.2 q w hc
  refine ⟨⟨fun s hs => ?_, h6, h5⟩, fun s hs => ?_⟩
  · rcases h4 s hs with h | h | h
    · exact Or.inl h
    · exact Or.inr (Or.inl (by omega))
    · exact absurd h.1 (by decide)
  · rcases h4 s hs with h | h | h
    · omega
    · omega
    · exact absurd h.1 (by decide)
theorem sv_X_ok {x : sv_S} {r : Int} (h : sv_ok x) : sk_ok (sv_X x r) := by
  unfold sv_X
  split
  · exact h.2.2.1
  · exact h.2.2.2
theorem sv_n_ok {P Q : am_P} {l : Int} {o i x : sv_S} (hm : sv_m P Q) (ho : sv_ok o) (hi : sv_ok i) (h : sv_n P Q l o i = some x) : sv_ok x := by
  obtain ⟨n1, n2, n3⟩ := sv_n_b h
  have hct := hm.1.1.2.2.2.2.2.2.2 l i.1.2 (pm_oM P l o.1.2)
  have hS := hm.1.2.2.1
  refine ⟨by rw [n1]; exact ho.1, by omega, ?_⟩
  have hev : ∀ w, sk_ok (sk_ev Q (sv_X i) (sv_X o) w sk_1 []) := fun w => sk_ok_ev hm.2 w sk_1 [] (fun s _ => ⟨fun _ _ => sv_X_ok hi, fun _ => sv_X_ok ho⟩) sk_ok_1
  unfold sv_n at h
  split at h
  · exact nomatch h
  · injection h with h
    subst h
    refine ⟨hev _, ?_⟩
    show sk_ok (if pm_R P = 1 then sk_1 else _)
    split
    · exact sk_ok_1
    · exact hev _
theorem sv_1_ok {q : Int} (h : 0 ≤ q ∧ q < 3) : sv_ok (sv_1 q) := ⟨h, h, sk_ok_1, sk_ok_1⟩
theorem sv_R_ok {P Q : am_P} {x : sv_S} (hm : sv_m P Q) (h : sv_R P Q x) : sv_ok x := h sv_ok ⟨fun q h0 h1 => sv_1_ok ⟨h0, h1⟩, fun l o i x _ _ _ ho hi _ hn => sv_n_ok hm ho hi hn⟩
/-- numbers of the reference -/
def sv_r (x : sv_S) : Int := 243 * x.1.1 + (81 * x.1.2 + 9 * sk_r x.2.1 + sk_r x.2.2)
def sk_d (i : Int) : sk_K := (i % 3, i / 3)
def sv_d (i : Int) : sv_S := ((i / 243, i / 81 % 3), (sk_d (i / 9 % 9), sk_d (i % 9)))
theorem sk_d_ok {i : Int} (h : 0 ≤ i ∧ i < 9) : sk_ok (sk_d i) ∧ sk_r (sk_d i) = i := by
  unfold sk_d sk_ok sk_r
  dsimp only
  omega
theorem sk_d_r {k : sk_K} (h : sk_ok k) : sk_d (sk_r k) = k := by
  obtain ⟨⟨h1, h2⟩, h3, h4⟩ := h
  unfold sk_d sk_r
  exact Prod.ext (by dsimp only; omega) (by dsimp only; omega)
theorem sv_r_rg {x : sv_S} (h : sv_ok x) : 0 ≤ sv_r x ∧ sv_r x < 729 := by
  obtain ⟨⟨h1, h2⟩, ⟨h3, h4⟩, h5, h6⟩ := h
  have := sk_r_rg h5
  have := sk_r_rg h6
  unfold sv_r
  omega
theorem sv_d_r {x : sv_S} (h : sv_ok x) : sv_d (sv_r x) = x := by
  obtain ⟨⟨h1, h2⟩, ⟨h3, h4⟩, h5, h6⟩ := h
  have e1 := sk_r_rg h5
  have e2 := sk_r_rg h6
  unfold sv_d sv_r
  refine Prod.ext (Prod.ext (by dsimp only; omega) (by dsimp only; omega)) (Prod.ext ?_ ?_)
  · dsimp only
    rw [show (243 * x.1.1 + (81 * x.1.2 + 9 * sk_r x.2.1 + sk_r x.2.2)) / 9 % 9 = sk_r x.2.1 by omega]
    exact sk_d_r h5
  · dsimp only
    rw [show (243 * x.1.1 + (81 * x.1.2 + 9 * sk_r x.2.1 + sk_r x.2.2)) % 9 = sk_r x.2.2 by omega]
    exact sk_d_r h6
theorem sv_d_ok {i : Int} (h : 0 ≤ i ∧ i < 729) : sv_ok (sv_d i) ∧ sv_r (sv_d i) = i := by
  obtain ⟨a1, a2⟩ := sk_d_ok (i := i / 9 % 9) (by omega)
  obtain ⟨b1, b2⟩ := sk_d_ok (i := i % 9) (by omega)
  refine ⟨⟨by show 0 ≤ i / 243 ∧ i / 243 < 3; omega, by show 0 ≤ i / 81 % 3 ∧ i / 81 % 3 < 3; omega, a1, b1⟩, ?_⟩
  show 243 * (i / 243) + (81 * (i / 81 % 3) + 9 * sk_r (sk_d (i / 9 % 9)) + sk_r (sk_d (i % 9))) = i
  rw [a2, b2]
  omega
/-- numbers of the class -/
def sv_c (x : sv_S) : Int := x.1.1 * 1024 + x.1.2 * 256 + (sk_c x.2.1 + sk_c x.2.2 * 16)
theorem sv_c_rg {x : sv_S} (h : sv_ok x) : (0 ≤ sv_c x ∧ sv_c x < 4096) ∧ sv_c x / 1024 = x.1.1 ∧ sv_c x / 256 % 4 = x.1.2 ∧ sv_c x % 16 = sk_c x.2.1 ∧ sv_c x / 16 % 16 = sk_c x.2.2 := by
  obtain ⟨⟨h1, h2⟩, ⟨h3, h4⟩, h5, h6⟩ := h
  have := sk_c_rg h5
  have := sk_c_rg h6
  unfold sv_c
  omega
theorem sv_c_inj {x y : sv_S} (hx : sv_ok x) (hy : sv_ok y) (h : sv_c x = sv_c y) : x = y := by
  obtain ⟨-, a1, a2, a3, a4⟩ := sv_c_rg hx
  obtain ⟨-, b1, b2, b3, b4⟩ := sv_c_rg hy
  rw [h] at a1 a2 a3 a4
  exact Prod.ext (Prod.ext (by omega) (by omega)) (Prod.ext (sk_c_inj hx.2.2.1 hy.2.2.1 (by omega)) (sk_c_inj hx.2.2.2 hy.2.2.2 (by omega)))
end
