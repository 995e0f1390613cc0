section
/-! Behind both constructors: the shape of the whole, and what holds between calls. -/
theorem am_sh_of {sh : List (Nat × Nat)} {i : Nat} {q : Nat × Nat} (h : sh[i]? = some q) : am_sh sh i = q := by
  induction sh generalizing i with
  | nil => exact nomatch h
  | cons x l ih =>
    cases i with
    | zero =>
      injection h
    | succ i => exact ih (by rw [List.getElem?_cons_succ] at h; exact h)
theorem am_tmk : ∀ c, c < 12 → (am_tm c).length ≤ 64 ∧ ∀ q ∈ am_tm c, q ≤ 3 := by decide +kernel
theorem am_SHk : ∀ q ∈ am_SH, q.1 < 12 ∨ 100 ≤ q.1 := by decide +kernel
theorem am_ws_K {b : Nat} {cA : Nat → ClassId} {F : Nat → Int → Option Nat} {D : am_D} (hF : am_chk 137 F = true) : am_ws b cA ((am_SH, F), D) = am_ws b cA (am_K0, D) := by
  apply List.ext_getElem?
  intro i
  rw [am_ws_get, am_ws_get]
  show (am_SH[i]?).map _ = (am_SH[i]?).map _
  cases hq : am_SH[i]? with
  | none => rfl
  | some q =>
    show some (b + i, am_ce b cA ((am_SH, F), D) i q) = some (b + i, am_ce b cA (am_K0, D) i q)
    have hi : i < 137 := by
      have h1 := (List.getElem?_eq_some_iff.mp hq).1
      have h2 : am_SH.length = 137 := by decide +kernel
      omega
    have hs : am_sh am_SH i = q := am_sh_of hq
    have hqk := am_SHk q (List.mem_of_getElem? hq)
    by_cases h100 : q.1 < 100
    · rw [am_ce_o h100, am_ce_o h100]
      have hc := am_tmk q.1 (by omega)
      have e : am_fs b ((am_SH, F), D) i (am_tm q.1) = am_fs b (am_K0, D) i (am_tm q.1) := by
        apply List.ext_getElem?
        intro k
        rw [am_fs_get, am_fs_get]
        cases ht : (am_tm q.1)[k]? with
        | none => rfl
        | some t =>
          show some (am_fv b ((am_SH, F), D) i k t) = some (am_fv b (am_K0, D) i k t)
          have ht3 := hc.2 t (List.mem_of_getElem? ht)
          have hk := (List.getElem?_eq_some_iff.mp ht).1
          have hcase : t = 0 ∨ t = 1 ∨ t = 2 ∨ t = 3 := by omega
          rcases hcase with rfl | rfl | rfl | rfl
          · rfl
          · rfl
          · rfl
          · unfold am_chk at hF
            rw [List.all_eq_true] at hF
            have h1 := hF i (List.mem_range.mpr hi)
            rw [List.all_eq_true] at h1
            have h2 := h1 k (List.mem_range.mpr (by omega))
            rw [hs, if_pos ⟨h100, ht⟩] at h2
            have h3 := of_decide_eq_true h2
            show some (va_rf ((F i k).map (b + ·))) = some (va_rf ((am_FIN i k).map (b + ·)))
            rw [h3]
      rw [e]
    · unfold am_ce
      rw [if_neg h100, if_neg h100]
theorem am_x_K {Φ : am_F} {M : am_Me} {cs : Nat × Nat} {pc : Nat} {ls : am_LS} {st : List am_V} {F : Nat → Int → Option Nat} {D : am_D} (hF : am_chk 137 F = true) (k : am_X Φ M cs pc ls st (am_K0, D)) : am_X Φ M cs pc ls st ((am_SH, F), D) := by
  intro p e s m args below meth c C lsA H locs hl hw hS
  refine k p e s m args below meth c C lsA H locs hl ⟨hw.1, ?_⟩ hS
  have := hw.2
  rw [am_ws_K hF] at this
  exact this
theorem ab_J0 {I : Nat → Int → Int} {J : Nat → Int → Int64} {R : Nat → Int → Option Nat} (h1 : ∀ i, i ≠ 33 → I i = fun _ => 0) (h2 : sk_J (I 33)) (h3 : ∀ a, a ≠ 5 → R a = fun _ => none) (h4 : ∀ i : Nat, i < 6 → R 5 (i : Int) = some (43 + 8 * i)) : ab_J (I, (J, R)) := by
  have z : ∀ (a : Nat) (k : Int), a ≠ 33 → I a k = 0 := fun a k ha => by rw [h1 a ha]
  have e : ∀ a, a = 6 ∨ a = 10 → am_E (I, (J, R)) a [] := fun a ha => ⟨z a 1 (by omega), fun i hi => absurd hi (by simp), Nat.zero_le _⟩
  refine ⟨(fun _ => 0, 0), 0, fun _ => none, [], [], none, ⟨⟨fun i => ⟨Int.le_refl _, by show (0 : Int) ≤ 255; omega⟩, Int.le_refl _, by show (0 : Int) ≤ 600; omega⟩, fun k P h => (nomatch h), fun k P h => (nomatch h), ab_d.mk (w := []) (fun x hx => (by cases hx)) (show (0 : Int) = 0 from rfl) (by simp), ⟨fun x hx => (by cases hx), (show (0 : Int) = 0 from rfl), by simp⟩, trivial⟩, ⟨⟨h1 2 (by decide), z 1 1 (by decide)⟩, ?_, z 1 5 (by decide), fun k _ _ => Or.inl ⟨by show R 4 k = none; rw [h3 4 (by decide)], rfl⟩, h4, e 6 (by omega), e 10 (by omega), by show R 12 4 = none; rw [h3 12 (by decide)], h2⟩, ⟨⟨?_, z 91 1 (by decide)⟩, z 91 2 (by decide), fun k _ _ => Or.inl ⟨z 93 k (by decide), rfl⟩, ⟨z 91 25 (by decide), fun i hi => absurd hi (by simp)⟩, ⟨z 91 27 (by decide), fun i hi => absurd hi (by simp), by simp⟩, z 91 49 (by decide)⟩⟩
  · show tk_idle (I 2) (I 1)
    rw [h1 2 (by decide), h1 1 (by decide)]
    exact ⟨fun i _ _ => ⟨by show (0 : Int) ≤ 0; omega, by show (0 : Int) ≤ 255; omega⟩, by show (0 : Int) ≤ 0; omega, by show (0 : Int) ≤ 600; omega, by show (0 : Int) ≤ 0; omega, by show (0 : Int) ≤ 97; omega, by show (0 : Int) ≤ 0; omega, by show (0 : Int) ≤ 10000; omega⟩
  · show I 92 = sg_t (fun _ => 0)
    rw [h1 92 (by decide)]
    rfl
end
