section
/-! What holds at the law's entry: classes, String constants, statics. -/
def st_tm : Nat → Term := fun i => match i with
  | 0 => .string "TreeStream$Texts" 52
  | 1 => .string "TreeStream$Texts" 72
  | 2 => .string "TreeStream$Texts" 77
  | 3 => .string "TreeStream$Texts" 85
  | 4 => .string "TreeStream$Texts" 147
  | 5 => .string "TreeStream$Texts" 153
  | 6 => .string "TreeStreamModel" 205
  | 7 => .string "TreeStreamModel" 211
  | _ => .string "TreeStreamModel" 213
theorem lw_m {w : Cond} (i : Nat) (h : tables_1[i]? = some w) : w ∈ lw_tbl := List.mem_append_right _ (List.mem_of_getElem? h)
theorem lw_am {w : Cond} (h : w ∈ am_tb) : w ∈ lw_tbl := (List.mem_filter.mp h).1
variable {s : State} {args : Array Value}
theorem st_K (hts : ∀ w ∈ lw_tbl, w.before args s = true) : ∃ (D : va_G) (cA : Nat → ClassId), va_K D am_cl (am_tys cA) s := by
  have hta : ∀ w ∈ am_tb, w.before args s = true := fun w hw => hts w (lw_am hw)
  obtain ⟨c0, iS0, h0⟩ := u_known (C := RX0) (T := TX0) (N := 2) (n := 2) hta cw0.2.2.1 (hts _ (lw_m 77 (by decide +kernel)))
  obtain ⟨c1, iS1, h1⟩ := u_known (C := RX1) (T := TX1) (N := 2) (n := 2) hta cw1.2.2.1 (hts _ (lw_m 200 (by decide +kernel)))
  obtain ⟨c2, iS2, h2⟩ := u_known (C := RX2) (T := TX2) (N := 16) (n := 16) hta cw2.2.2.1 (hts _ (lw_m 253 (by decide +kernel)))
  obtain ⟨c3, iS3, h3⟩ := u_known (C := RX3) (T := TX3) (N := 9) (n := 9) hta cw3.2.2.1 (hts _ (lw_m 93 (by decide +kernel)))
  obtain ⟨c4, iS4, h4⟩ := u_known (C := RX4) (T := TX4) (N := 12) (n := 12) hta cw4.2.2.1 (hts _ (lw_m 194 (by decide +kernel)))
  obtain ⟨c5, iS5, h5⟩ := u_known (C := RX5) (T := TX5) (N := 1) (n := 1) hta cw5.2.2.1 (hts _ (lw_m 156 (by decide +kernel)))
  obtain ⟨c6, iS6, h6⟩ := u_known (C := RX6) (T := TX6) (N := 7) (n := 7) hta cw6.2.2.1 (hts _ (lw_m 166 (by decide +kernel)))
  obtain ⟨c7, iS7, h7⟩ := u_known (C := RX7) (T := TX7) (N := 6) (n := 6) hta cw7.2.2.1 (hts _ (lw_m 28 (by decide +kernel)))
  obtain ⟨c8, iS8, h8⟩ := u_known (C := RX8) (T := TX8) (N := 3) (n := 3) hta cw8.2.2.1 (hts _ (lw_m 59 (by decide +kernel)))
  obtain ⟨c9, iS9, h9⟩ := u_known (C := RX9) (T := TX9) (N := 3) (n := 3) hta cw9.2.2.1 (hts _ (lw_m 139 (by decide +kernel)))
  obtain ⟨c10, iS10, h10⟩ := u_known (C := RX10) (T := TX10) (N := 14) (n := 14) hta cw10.2.2.1 (hts _ (lw_m 20 (by decide +kernel)))
  obtain ⟨c11, iS11, h11⟩ := u_known (C := RX11) (T := TX11) (N := 63) (n := 63) hta cw11.2.2.1 (hts _ (lw_m 980 (by decide +kernel)))
  obtain ⟨ai, ki, mi, fi, gi, ei⟩ := Cond.arrayClass_spec (args := args) (first := s) (o := none) (s := s) (idx := []) (type := .int) (hts _ (lw_m 57 (by decide +kernel)))
  obtain ⟨ab, kb, mb, fb, gb, eb⟩ := Cond.arrayClass_spec (args := args) (first := s) (o := none) (s := s) (idx := []) (type := .byte) (hts _ (lw_m 571 (by decide +kernel)))
  obtain ⟨az, kz, mz, fz, gz, ez⟩ := Cond.arrayClass_spec (args := args) (first := s) (o := none) (s := s) (idx := []) (type := .boolean) (hts _ (lw_m 252 (by decide +kernel)))
  obtain ⟨aj, kj, mj, fj, gj, ej⟩ := Cond.arrayClass_spec (args := args) (first := s) (o := none) (s := s) (idx := []) (type := .long) (hts _ (lw_m 154 (by decide +kernel)))
  obtain ⟨mq, aq, kq, nq, -, gq, eq, fq⟩ := Cond.arrayOver_spec (args := args) (first := s) (o := none) (s := s) (idx := []) (n := "TreeStream$Machine") (hts _ (lw_m 75 (by decide +kernel)))
  refine ⟨(fun k => if k = 0 then c0 else if k = 1 then c1 else if k = 2 then c2 else if k = 3 then c3 else if k = 4 then c4 else if k = 5 then c5 else if k = 6 then c6 else if k = 7 then c7 else if k = 8 then c8 else if k = 9 then c9 else if k = 10 then c10 else c11, fun k => if k = 0 then iS0 else if k = 1 then iS1 else if k = 2 then iS2 else if k = 3 then iS3 else if k = 4 then iS4 else if k = 5 then iS5 else if k = 6 then iS6 else if k = 7 then iS7 else if k = 8 then iS8 else if k = 9 then iS9 else if k = 10 then iS10 else iS11), fun k => if k = 100 then ai else if k = 101 then ab else if k = 102 then az else if k = 103 then aj else aq, ?_, ?_⟩
  · intro k q hq
    match k, hq with
    | 0, hq => cases hq; exact h0
    | 1, hq => cases hq; exact h1
    | 2, hq => cases hq; exact h2
    | 3, hq => cases hq; exact h3
    | 4, hq => cases hq; exact h4
    | 5, hq => cases hq; exact h5
    | 6, hq => cases hq; exact h6
    | 7, hq => cases hq; exact h7
    | 8, hq => cases hq; exact h8
    | 9, hq => cases hq; exact h9
    | 10, hq => cases hq; exact h10
    | 11, hq => cases hq; exact h11
    | k + 12, hq => exact nomatch hq
  · intro k q hq
    match k, hq with
    | 0, hq => cases hq; exact ⟨fun n z => ⟨fun k h => (by cases h), ki, gi, mi, ei⟩, fi⟩
    | 1, hq => cases hq; exact ⟨fun n z => ⟨fun k h => (by cases h), kb, gb, mb, eb⟩, fb⟩
    | 2, hq => cases hq; exact ⟨fun n z => ⟨fun k h => (by cases h), kz, gz, mz, ez⟩, fz⟩
    | 3, hq => cases hq; exact ⟨fun n z => ⟨fun k h => (by cases h), kj, gj, mj, ej⟩, fj⟩
    | 4, hq => cases hq; exact ⟨fun n z => ⟨fun k h => (by cases h), kq, gq, mq, eq⟩, kq, mq, gq, eq, nq, fq⟩
    | k + 5, hq => exact nomatch hq
theorem st_S {P : Nat → Prop} (hs : ∀ c ∈ flatC (Jvm.Cond.and given_1 narrow_1), c.before args s = true) (hts : ∀ w ∈ lw_tbl, w.before args s = true) (hA : ∀ a : Nat, a < s.heap.size → ¬ P a) : ∃ adK adV : Nat → Nat, vk_S 9 am_len am_byt adK adV P s s.heap ∧ ∀ q ∈ am_strs, vk_R q.1 q.2.1 q.2.2.1 (adK q.2.2.2) s := by
  obtain ⟨adK, adV, hS, hE⟩ := vk_Sof (args := args) (s := s) (N := 9) (tm := st_tm) (len := am_len) (byt := am_byt) (A := P) (fun i hi => by
      have h9 : i = 0 ∨ i = 1 ∨ i = 2 ∨ i = 3 ∨ i = 4 ∨ i = 5 ∨ i = 6 ∨ i = 7 ∨ i = 8 := by omega
      rcases h9 with rfl | rfl | rfl | rfl | rfl | rfl | rfl | rfl | rfl
      · decide
      · decide
      · decide
      · decide
      · decide
      · decide
      · decide
      · decide
      · decide
      ) (fun i hi => by
      have h9 : i = 0 ∨ i = 1 ∨ i = 2 ∨ i = 3 ∨ i = 4 ∨ i = 5 ∨ i = 6 ∨ i = 7 ∨ i = 8 := by omega
      rcases h9 with rfl | rfl | rfl | rfl | rfl | rfl | rfl | rfl | rfl
      · exact hs _ (by decide +kernel)
      · exact hs _ (by decide +kernel)
      · exact hs _ (by decide +kernel)
      · exact hs _ (by decide +kernel)
      · exact hs _ (by decide +kernel)
      · exact hs _ (by decide +kernel)
      · exact hs _ (by decide +kernel)
      · exact hs _ (by decide +kernel)
      · exact hs _ (by decide +kernel)
      ) (fun i hi => by
      have h9 : i = 0 ∨ i = 1 ∨ i = 2 ∨ i = 3 ∨ i = 4 ∨ i = 5 ∨ i = 6 ∨ i = 7 ∨ i = 8 := by omega
      rcases h9 with rfl | rfl | rfl | rfl | rfl | rfl | rfl | rfl | rfl
      · exact hs _ (by decide +kernel)
      · exact hs _ (by decide +kernel)
      · exact hs _ (by decide +kernel)
      · exact hs _ (by decide +kernel)
      · exact hs _ (by decide +kernel)
      · exact hs _ (by decide +kernel)
      · exact hs _ (by decide +kernel)
      · exact hs _ (by decide +kernel)
      · exact hs _ (by decide +kernel)
      ) (fun i hi => by
      have h9 : i = 0 ∨ i = 1 ∨ i = 2 ∨ i = 3 ∨ i = 4 ∨ i = 5 ∨ i = 6 ∨ i = 7 ∨ i = 8 := by omega
      rcases h9 with rfl | rfl | rfl | rfl | rfl | rfl | rfl | rfl | rfl
      · exact hs _ (by decide +kernel)
      · exact hs _ (by decide +kernel)
      · exact hs _ (by decide +kernel)
      · exact hs _ (by decide +kernel)
      · exact hs _ (by decide +kernel)
      · exact hs _ (by decide +kernel)
      · exact hs _ (by decide +kernel)
      · exact hs _ (by decide +kernel)
      · exact hs _ (by decide +kernel)
      ) (fun i hi => by
      have h9 : i = 0 ∨ i = 1 ∨ i = 2 ∨ i = 3 ∨ i = 4 ∨ i = 5 ∨ i = 6 ∨ i = 7 ∨ i = 8 := by omega
      rcases h9 with rfl | rfl | rfl | rfl | rfl | rfl | rfl | rfl | rfl
      · exact hs _ (by decide +kernel)
      · exact hs _ (by decide +kernel)
      · exact hs _ (by decide +kernel)
      · exact hs _ (by decide +kernel)
      · exact hs _ (by decide +kernel)
      · exact hs _ (by decide +kernel)
      · exact hs _ (by decide +kernel)
      · exact hs _ (by decide +kernel)
      · exact hs _ (by decide +kernel)
      ) (fun i hi j hj => by
      have h9 : i = 0 ∨ i = 1 ∨ i = 2 ∨ i = 3 ∨ i = 4 ∨ i = 5 ∨ i = 6 ∨ i = 7 ∨ i = 8 := by omega
      rcases h9 with rfl | rfl | rfl | rfl | rfl | rfl | rfl | rfl | rfl
      · have hj : j < 7 := hj
        have hq : j = 0 ∨ j = 1 ∨ j = 2 ∨ j = 3 ∨ j = 4 ∨ j = 5 ∨ j = 6 := by omega
        rcases hq with rfl | rfl | rfl | rfl | rfl | rfl | rfl <;> exact hs _ (by decide +kernel)
      · have hj : j < 4 := hj
        have hq : j = 0 ∨ j = 1 ∨ j = 2 ∨ j = 3 := by omega
        rcases hq with rfl | rfl | rfl | rfl <;> exact hs _ (by decide +kernel)
      · have hj : j < 5 := hj
        have hq : j = 0 ∨ j = 1 ∨ j = 2 ∨ j = 3 ∨ j = 4 := by omega
        rcases hq with rfl | rfl | rfl | rfl | rfl <;> exact hs _ (by decide +kernel)
      · have hj : j < 3 := hj
        have hq : j = 0 ∨ j = 1 ∨ j = 2 := by omega
        rcases hq with rfl | rfl | rfl <;> exact hs _ (by decide +kernel)
      · have hj : j < 1 := hj
        have hq : j = 0 := by omega
        subst hq
        exact hs _ (by decide +kernel)
      · have hj : j < 1 := hj
        have hq : j = 0 := by omega
        subst hq
        exact hs _ (by decide +kernel)
      · have hj : j < 1 := hj
        have hq : j = 0 := by omega
        subst hq
        exact hs _ (by decide +kernel)
      · have hj : j < 1 := hj
        have hq : j = 0 := by omega
        subst hq
        exact hs _ (by decide +kernel)
      · have hj : j < 1 := hj
        have hq : j = 0 := by omega
        subst hq
        exact hs _ (by decide +kernel)
      ) (fun i j hi hj hne => by
      have h9 : i = 0 ∨ i = 1 ∨ i = 2 ∨ i = 3 ∨ i = 4 ∨ i = 5 ∨ i = 6 ∨ i = 7 ∨ i = 8 := by omega
      rcases h9 with rfl | rfl | rfl | rfl | rfl | rfl | rfl | rfl | rfl
      · have hj9 : j = 0 ∨ j = 1 ∨ j = 2 ∨ j = 3 ∨ j = 4 ∨ j = 5 ∨ j = 6 ∨ j = 7 ∨ j = 8 := by omega
        rcases hj9 with rfl | rfl | rfl | rfl | rfl | rfl | rfl | rfl | rfl
        · exact absurd rfl hne
        · exact Or.inl (hs _ (by decide +kernel))
        · exact Or.inl (hs _ (by decide +kernel))
        · exact Or.inl (hs _ (by decide +kernel))
        · exact Or.inl (hs _ (by decide +kernel))
        · exact Or.inl (hs _ (by decide +kernel))
        · exact Or.inl (hs _ (by decide +kernel))
        · exact Or.inl (hs _ (by decide +kernel))
        · exact Or.inl (hs _ (by decide +kernel))
      · have hj9 : j = 0 ∨ j = 1 ∨ j = 2 ∨ j = 3 ∨ j = 4 ∨ j = 5 ∨ j = 6 ∨ j = 7 ∨ j = 8 := by omega
        rcases hj9 with rfl | rfl | rfl | rfl | rfl | rfl | rfl | rfl | rfl
        · exact Or.inr (hs _ (by decide +kernel))
        · exact absurd rfl hne
        · exact Or.inl (hs _ (by decide +kernel))
        · exact Or.inl (hs _ (by decide +kernel))
        · exact Or.inl (hs _ (by decide +kernel))
        · exact Or.inl (hs _ (by decide +kernel))
        · exact Or.inl (hs _ (by decide +kernel))
        · exact Or.inl (hs _ (by decide +kernel))
        · exact Or.inl (hs _ (by decide +kernel))
      · have hj9 : j = 0 ∨ j = 1 ∨ j = 2 ∨ j = 3 ∨ j = 4 ∨ j = 5 ∨ j = 6 ∨ j = 7 ∨ j = 8 := by omega
        rcases hj9 with rfl | rfl | rfl | rfl | rfl | rfl | rfl | rfl | rfl
        · exact Or.inr (hs _ (by decide +kernel))
        · exact Or.inr (hs _ (by decide +kernel))
        · exact absurd rfl hne
        · exact Or.inl (hs _ (by decide +kernel))
        · exact Or.inl (hs _ (by decide +kernel))
        · exact Or.inl (hs _ (by decide +kernel))
        · exact Or.inl (hs _ (by decide +kernel))
        · exact Or.inl (hs _ (by decide +kernel))
        · exact Or.inl (hs _ (by decide +kernel))
      · have hj9 : j = 0 ∨ j = 1 ∨ j = 2 ∨ j = 3 ∨ j = 4 ∨ j = 5 ∨ j = 6 ∨ j = 7 ∨ j = 8 := by omega
        rcases hj9 with rfl | rfl | rfl | rfl | rfl | rfl | rfl | rfl | rfl
        · exact Or.inr (hs _ (by decide +kernel))
        · exact Or.inr (hs _ (by decide +kernel))
        · exact Or.inr (hs _ (by decide +kernel))
        · exact absurd rfl hne
        · exact Or.inl (hs _ (by decide +kernel))
        · exact Or.inl (hs _ (by decide +kernel))
        · exact Or.inl (hs _ (by decide +kernel))
        · exact Or.inl (hs _ (by decide +kernel))
        · exact Or.inl (hs _ (by decide +kernel))
      · have hj9 : j = 0 ∨ j = 1 ∨ j = 2 ∨ j = 3 ∨ j = 4 ∨ j = 5 ∨ j = 6 ∨ j = 7 ∨ j = 8 := by omega
        rcases hj9 with rfl | rfl | rfl | rfl | rfl | rfl | rfl | rfl | rfl
        · exact Or.inr (hs _ (by decide +kernel))
        · exact Or.inr (hs _ (by decide +kernel))
        · exact Or.inr (hs _ (by decide +kernel))
        · exact Or.inr (hs _ (by decide +kernel))
        · exact absurd rfl hne
        · exact Or.inl (hs _ (by decide +kernel))
        · exact Or.inl (hs _ (by decide +kernel))
        · exact Or.inl (hs _ (by decide +kernel))
        · exact Or.inl (hs _ (by decide +kernel))
      · have hj9 : j = 0 ∨ j = 1 ∨ j = 2 ∨ j = 3 ∨ j = 4 ∨ j = 5 ∨ j = 6 ∨ j = 7 ∨ j = 8 := by omega
        rcases hj9 with rfl | rfl | rfl | rfl | rfl | rfl | rfl | rfl | rfl
        · exact Or.inr (hs _ (by decide +kernel))
        · exact Or.inr (hs _ (by decide +kernel))
        · exact Or.inr (hs _ (by decide +kernel))
        · exact Or.inr (hs _ (by decide +kernel))
        · exact Or.inr (hs _ (by decide +kernel))
        · exact absurd rfl hne
        · exact Or.inl (hs _ (by decide +kernel))
        · exact Or.inl (hs _ (by decide +kernel))
        · exact Or.inl (hs _ (by decide +kernel))
      · have hj9 : j = 0 ∨ j = 1 ∨ j = 2 ∨ j = 3 ∨ j = 4 ∨ j = 5 ∨ j = 6 ∨ j = 7 ∨ j = 8 := by omega
        rcases hj9 with rfl | rfl | rfl | rfl | rfl | rfl | rfl | rfl | rfl
        · exact Or.inr (hs _ (by decide +kernel))
        · exact Or.inr (hs _ (by decide +kernel))
        · exact Or.inr (hs _ (by decide +kernel))
        · exact Or.inr (hs _ (by decide +kernel))
        · exact Or.inr (hs _ (by decide +kernel))
        · exact Or.inr (hs _ (by decide +kernel))
        · exact absurd rfl hne
        · exact Or.inl (hs _ (by decide +kernel))
        · exact Or.inl (hs _ (by decide +kernel))
      · have hj9 : j = 0 ∨ j = 1 ∨ j = 2 ∨ j = 3 ∨ j = 4 ∨ j = 5 ∨ j = 6 ∨ j = 7 ∨ j = 8 := by omega
        rcases hj9 with rfl | rfl | rfl | rfl | rfl | rfl | rfl | rfl | rfl
        · exact Or.inr (hs _ (by decide +kernel))
        · exact Or.inr (hs _ (by decide +kernel))
        · exact Or.inr (hs _ (by decide +kernel))
        · exact Or.inr (hs _ (by decide +kernel))
        · exact Or.inr (hs _ (by decide +kernel))
        · exact Or.inr (hs _ (by decide +kernel))
        · exact Or.inr (hs _ (by decide +kernel))
        · exact absurd rfl hne
        · exact Or.inl (hs _ (by decide +kernel))
      · have hj9 : j = 0 ∨ j = 1 ∨ j = 2 ∨ j = 3 ∨ j = 4 ∨ j = 5 ∨ j = 6 ∨ j = 7 ∨ j = 8 := by omega
        rcases hj9 with rfl | rfl | rfl | rfl | rfl | rfl | rfl | rfl | rfl
        · exact Or.inr (hs _ (by decide +kernel))
        · exact Or.inr (hs _ (by decide +kernel))
        · exact Or.inr (hs _ (by decide +kernel))
        · exact Or.inr (hs _ (by decide +kernel))
        · exact Or.inr (hs _ (by decide +kernel))
        · exact Or.inr (hs _ (by decide +kernel))
        · exact Or.inr (hs _ (by decide +kernel))
        · exact Or.inr (hs _ (by decide +kernel))
        · exact absurd rfl hne
      ) hA
  refine ⟨adK, adV, hS, fun q hq => ?_⟩
  unfold am_strs at hq
  simp only [List.mem_cons, List.not_mem_nil, or_false] at hq
  rcases hq with rfl | rfl | rfl | rfl | rfl | rfl | rfl | rfl | rfl | rfl | rfl | rfl | rfl | rfl | rfl
  · exact vk_R.of (A := args) (hts _ (lw_m 419 (by decide +kernel))) (hE 0 (by omega))
  · exact vk_R.of (A := args) (hts _ (lw_m 486 (by decide +kernel))) (hE 1 (by omega))
  · exact vk_R.of (A := args) (hts _ (lw_m 487 (by decide +kernel))) (hE 2 (by omega))
  · exact vk_R.of (A := args) (hts _ (lw_m 488 (by decide +kernel))) (hE 3 (by omega))
  · exact vk_R.of (A := args) (hts _ (lw_m 546 (by decide +kernel))) (hE 4 (by omega))
  · exact vk_R.of (A := args) (hts _ (lw_m 551 (by decide +kernel))) (hE 5 (by omega))
  · exact vk_R.of (A := args) (hts _ (lw_m 1212 (by decide +kernel))) (va_eqR (hs (Cond.eq (st_tm 0) (.string "TreeStreamModel" 281)) (by decide +kernel)) (hE 0 (by omega)))
  · exact vk_R.of (A := args) (hts _ (lw_m 1243 (by decide +kernel))) (va_eqR (hs (Cond.eq (st_tm 1) (.string "TreeStreamModel" 261)) (by decide +kernel)) (hE 1 (by omega)))
  · exact vk_R.of (A := args) (hts _ (lw_m 1244 (by decide +kernel))) (va_eqR (hs (Cond.eq (st_tm 2) (.string "TreeStreamModel" 263)) (by decide +kernel)) (hE 2 (by omega)))
  · exact vk_R.of (A := args) (hts _ (lw_m 1245 (by decide +kernel))) (va_eqR (hs (Cond.eq (st_tm 3) (.string "TreeStreamModel" 265)) (by decide +kernel)) (hE 3 (by omega)))
  · exact vk_R.of (A := args) (hts _ (lw_m 1254 (by decide +kernel))) (hE 6 (by omega))
  · exact vk_R.of (A := args) (hts _ (lw_m 1255 (by decide +kernel))) (hE 7 (by omega))
  · exact vk_R.of (A := args) (hts _ (lw_m 1256 (by decide +kernel))) (hE 8 (by omega))
  · exact vk_R.of (A := args) (hts _ (lw_m 1279 (by decide +kernel))) (va_eqR (hs (Cond.eq (st_tm 4) (.string "TreeStreamModel" 225)) (by decide +kernel)) (hE 4 (by omega)))
  · exact vk_R.of (A := args) (hts _ (lw_m 1280 (by decide +kernel))) (va_eqR (hs (Cond.eq (st_tm 5) (.string "TreeStreamModel" 227)) (by decide +kernel)) (hE 5 (by omega)))
end
