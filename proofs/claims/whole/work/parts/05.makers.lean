section
variable {Φ : am_F} {M : am_Me} {cs : Nat × Nat} {pc : Nat} {ls : am_LS} {st : List am_V} {h : am_H}
/-- a new row comes behind, all of it 0 or null -/
def am_uz {α : Type} (f : Nat → Int → α) (n : Nat) (v : α) : Nat → Int → α := fun i => if i = n then fun _ => v else f i
def am_z (h : am_H) (q : Nat × Nat) : am_H := ((h.1.1 ++ [q], am_uz h.1.2 h.1.1.length none), am_uz h.2.1 h.1.1.length 0, am_uz h.2.2.1 h.1.1.length 0, am_uz h.2.2.2 h.1.1.length none)
theorem am_uz_ne {α : Type} {f : Nat → Int → α} {n i : Nat} {v : α} (h : i ≠ n) : am_uz f n v i = f i := if_neg h
theorem am_uz_eq {α : Type} {f : Nat → Int → α} {n : Nat} {v : α} : am_uz f n v n = fun _ => v := if_pos rfl
theorem am_z_ws {b : Nat} {cA : Nat → ClassId} {h : am_H} {q : Nat × Nat} : am_ws b cA (am_z h q) = am_ws b cA h ++ [(b + h.1.1.length, am_ce b cA (am_z h q) h.1.1.length q)] := by
  apply List.ext_getElem?
  intro i
  rw [am_ws_get]
  show ((h.1.1 ++ [q])[i]?).map _ = _
  by_cases hi : i < h.1.1.length
  · rw [List.getElem?_append_left hi, List.getElem?_append_left (by rw [am_ws_len]; exact hi), am_ws_get]
    have hne : i ≠ h.1.1.length := by omega
    have : ∀ r : Nat × Nat, am_ce b cA (am_z h q) i r = am_ce b cA h i r := fun r => am_ce_congr (h := h) (am_uz_ne hne) (am_uz_ne hne) (am_uz_ne hne) (am_uz_ne hne)
    simp only [this]
  · rw [List.getElem?_append_right (by omega), List.getElem?_append_right (by rw [am_ws_len]; omega), am_ws_len]
    by_cases he : i = h.1.1.length
    · subst he
      simp
    · have : ∃ k, i - h.1.1.length = k + 1 := ⟨i - h.1.1.length - 1, by omega⟩
      obtain ⟨k, hk⟩ := this
      rw [hk]
      rfl
theorem am_z_len {h : am_H} {q : Nat × Nat} : (am_z h q).1.1.length = h.1.1.length + 1 := by simp [am_z]
def am_df (q : Nat) : Value := match q with
  | 0 => .int 0
  | 1 => .long 0
  | _ => .null
theorem am_r_new {ci N index : Nat} {C : String} {T : u_T} {ty : Nat → FieldType} {nx : Nat} (hc : am_cw ci C T N ty) (hcl : Cond.classLink M.1.cls index C ∈ am_tb) (hins : Cond.instantiable C N ∈ am_tb) (hini : Cond.initialized C ∈ am_tb) (hlen : (am_tm ci).length = N) (hdf : ∀ j, j < N → defaultValue (ty j) = am_df ((am_tm ci).getD j 0)) (hcells : cs.1 + 1 ≤ Φ.2.2.1.cells) (hslots : cs.2 + N ≤ Φ.2.2.1.slots) (hd : decode M.2.1 pc = .ok (.new index, 3)) (hn : pc + 3 = nx)
    (k : am_X Φ M (cs.1 + 1, cs.2 + N) nx ls (am_r (some h.1.1.length) :: st) (am_z h (ci, 0))) : am_X Φ M cs pc ls st h := by
  intro p e s m args below meth c C lsA H locs hl hw hS T hT X
  subst hT
  subst hn
  have hz := am_size X hw C.2.2.2.2.2.2.2.2.2.1 hS
  obtain ⟨hx, hb, hml, hr, hown, hts, hlo, hnm, hK, hbs, hE, hE2⟩ := id C
  obtain ⟨h100, hcl9, hin, hty, hna⟩ := hc
  have hKn := hK.1 ci _ hcl9
  suffices hW9 : W p Φ.1.1 e Φ.2.2.1 s m args below meth c T.heap locs cs.1 cs.2 (Φ.2.2.2 below args s) (F0 m pc lsA (st.map (am_c Φ.1.2.1 Φ.1.2.2.1))) from hW9 T rfl X
  refine W.newcK hx hb hown (hts _ hcl) (hts _ hins) (hts _ hini) rfl hd hcells hslots hKn.2.1 hz (fun H1 kC hkC e1 z1 o1 => ?_)
  have hk : ∀ (k : Nat) (x : Nat × va_E), (am_ws Φ.1.2.1 Φ.1.2.2.2.2 h)[k]? = some x → H1[x.1]? = T.heap[x.1]? := fun k x hx => o1 x.1 (by rw [← hz]; exact (hw.2 k x hx).lt)
  refine k p e s m args below meth c C lsA H1 locs hl ⟨by show s.heap.size + (cs.1 + 1) = _; rw [am_z_len]; have := hw.1; omega, ?_⟩ ⟨by have := hS.1; omega, fun q h1 h2 => (o1 q (by have := hS.1; omega)).trans (hS.2.1 q h1 h2), hS.2.2⟩
  rw [am_z_ws]
  refine (hw.2.kept hk).app (fun j x hx => ?_)
  have hj : j < 1 := (List.getElem?_eq_some_iff.mp hx).1
  rw [show j = 0 by omega] at hx
  cases hx
  show va_at _ _ (_, am_ce _ _ _ _ (ci, 0)) _
  rw [am_ce_o (q := (ci, 0)) h100]
  refine ⟨_, hcl9, (u_born ty hts hin hKn hkC e1 hty).to (fun j hj => ?_)⟩
  show defaultValue (ty j) = (am_fs Φ.1.2.1 (am_z h (ci, 0)) h.1.1.length (am_tm ci)).getD j .null
  rw [hdf j hj, List.getD_eq_getElem?_getD, List.getD_eq_getElem?_getD, am_fs_get, List.getElem?_eq_getElem (by rw [hlen]; exact hj)]
  show am_df _ = am_fv _ _ _ j _
  generalize (am_tm ci)[j] = q
  unfold am_fv am_df
  have e1 : (am_z h (ci, 0)).2.1 h.1.1.length = fun _ => 0 := am_uz_eq
  have e2 : (am_z h (ci, 0)).2.2.1 h.1.1.length = fun _ => 0 := am_uz_eq
  have e3 : (am_z h (ci, 0)).2.2.2 h.1.1.length = fun _ => none := am_uz_eq
  have e4 : (am_z h (ci, 0)).1.2 h.1.1.length = fun _ => none := am_uz_eq
  rw [e1, e2, e3, e4]
  rcases q with _ | _ | _ | q <;> rfl
theorem am_cA {s : State} {G : am_G} (hK : va_K G.2.2.2.1 am_cl (am_tys G.2.2.2.2) s) : s.vm.findClass ("[" ++ FieldType.int.toString) = some (G.2.2.2.2 100) ∧ s.vm.findClass ("[" ++ FieldType.byte.toString) = some (G.2.2.2.2 101) ∧ s.vm.findClass ("[" ++ FieldType.boolean.toString) = some (G.2.2.2.2 102) ∧ s.vm.findClass ("[" ++ FieldType.long.toString) = some (G.2.2.2.2 103) ∧ s.vm.findClass ("[" ++ (FieldType.object "TreeStream$Machine").toString) = some (G.2.2.2.2 104) := by
  obtain ⟨t0, t1, t2, t3, t4⟩ := am_tys_at G.2.2.2.2
  obtain ⟨kA, comp, g1, g2, g3, g4⟩ := (hK.2 4 _ t4).2
  exact ⟨(hK.2 0 _ t0).2, (hK.2 1 _ t1).2, (hK.2 2 _ t2).2, (hK.2 3 _ t3).2, g4⟩
theorem am_newW {p : Program} {e : Env} {s : State} {m : MethodId} {args : Array Value} {below : List Frame} {meth : Method} {c : Code} {H1 : Heap} {locs : List Loc} {kd N : Nat} {T : State} (X : Stand p Φ.1.1 e Φ.2.2.1 s m args below meth c T locs cs.1 cs.2) (C : am_Cx Φ.1 M Φ.2.1 p s m args meth c) (hw : am_Wd Φ.1 cs s h T.heap) (hS : va_S (fun q => Φ.1.2.1 ≤ q) s.heap T.heap locs) (z1 : H1.size = T.heap.size + 1) (o1 : ∀ q, q < T.heap.size → H1[q]? = T.heap[q]?) (hkd : 100 ≤ kd)
    (e1 : H1[T.heap.size]? = some (vp_cell (Φ.1.2.2.2.2 kd) (N, am_ct Φ.1.2.1 (am_z h (kd, N)).2 h.1.1.length kd))) : am_Wd Φ.1 (cs.1 + 1, cs.2 + N) s (am_z h (kd, N)) H1 ∧ va_S (fun q => Φ.1.2.1 ≤ q) s.heap H1 locs := by
  have hz := am_size X hw C.2.2.2.2.2.2.2.2.2.1 hS
  have hk : ∀ (k : Nat) (x : Nat × va_E), (am_ws Φ.1.2.1 Φ.1.2.2.2.2 h)[k]? = some x → H1[x.1]? = T.heap[x.1]? := fun k x hx => o1 x.1 ((hw.2 k x hx).lt)
  refine ⟨⟨by show s.heap.size + (cs.1 + 1) = _; rw [am_z_len]; have := hw.1; omega, ?_⟩, ⟨by have := hS.1; omega, fun q h1 h2 => (o1 q (by have := hS.1; omega)).trans (hS.2.1 q h1 h2), hS.2.2⟩⟩
  rw [am_z_ws]
  refine (hw.2.kept hk).app (fun j x hx => ?_)
  have hj : j < 1 := (List.getElem?_eq_some_iff.mp hx).1
  rw [show j = 0 by omega] at hx
  cases hx
  have ec : am_ce Φ.1.2.1 Φ.1.2.2.2.2 (am_z h (kd, N)) h.1.1.length (kd, N) = .inl (Φ.1.2.2.2.2 kd, N, am_ct Φ.1.2.1 (am_z h (kd, N)).2 h.1.1.length kd) := by
    unfold am_ce
    rw [if_neg (show ¬ kd < 100 by omega)]
  show va_at _ _ (_, am_ce _ _ _ _ (kd, N)) _
  rw [ec, ← hz]
  exact e1
theorem am_r_newI {n : Int} {nx : Nat} (harr : Cond.arrayClass .int ∈ am_tb) (h0 : 0 ≤ n) (h1 : n ≤ 100000) (hcells : cs.1 + 1 ≤ Φ.2.2.1.cells) (hslots : cs.2 + n.toNat ≤ Φ.2.2.1.slots) (hd : decode M.2.1 pc = .ok (.newarray .int, 2)) (hn : pc + 2 = nx)
    (k : am_X Φ M (cs.1 + 1, cs.2 + n.toNat) nx ls (am_r (some h.1.1.length) :: st) (am_z h (100, n.toNat))) : am_X Φ M cs pc ls (.inl n :: st) h := by
  intro p e s m args below meth c C lsA H locs hl hw hS T hT X
  subst hT
  subst hn
  have hz := am_size X hw C.2.2.2.2.2.2.2.2.2.1 hS
  obtain ⟨hx, hb, hml, hr, hown, hts, hlo, hnm, hK, hbs, hE, hE2⟩ := id C
  suffices hW9 : W p Φ.1.1 e Φ.2.2.1 s m args below meth c T.heap locs cs.1 cs.2 (Φ.2.2.2 below args s) (F0 m pc lsA (.int (Int32.ofInt n) :: st.map (am_c Φ.1.2.1 Φ.1.2.2.1))) from hW9 T rfl X
  refine va_newaK (atype := .int) (N := n.toNat) hx hb (hts _ harr) rfl hd rfl (fun q => by rw [show (0 : Int32) = Int32.ofInt 0 from rfl, am_of_lt (by omega) (by omega)] at q; omega) (am_of_clamp h0 (by omega)) (by show n.toNat * _ ≤ _; rw [show componentBytes (newarray.typeOf .int) = 4 from rfl]; omega) hcells hslots rfl (fun H1 cA e1 z1 o1 hAr hNm => ?_)
  have ecA : cA = Φ.1.2.2.2.2 100 := Option.some.inj (hNm.symm.trans (am_cA hK).1)
  subst ecA
  obtain ⟨w1, s1⟩ := am_newW (kd := 100) (N := n.toNat) X C hw hS z1 o1 (by omega) (by
    rw [e1]
    have ez : am_ct Φ.1.2.1 (am_z h (100, n.toNat)).2 h.1.1.length 100 = .inl (fun _ => Int32.ofInt 0) := by
      unfold am_ct
      rw [if_neg (by omega), if_neg (by omega)]
      show Sum.inl (fun j : Nat => Int32.ofInt (am_uz h.2.1 h.1.1.length 0 h.1.1.length j)) = _
      rw [am_uz_eq]
    rw [ez]
    rfl)
  rw [hz]
  exact k p e s m args below meth c C lsA H1 locs hl w1 s1
theorem am_r_newB {n : Int} {nx : Nat} (harr : Cond.arrayClass .byte ∈ am_tb) (h0 : 0 ≤ n) (h1 : n ≤ 100000) (hcells : cs.1 + 1 ≤ Φ.2.2.1.cells) (hslots : cs.2 + n.toNat ≤ Φ.2.2.1.slots) (hd : decode M.2.1 pc = .ok (.newarray .byte, 2)) (hn : pc + 2 = nx)
    (k : am_X Φ M (cs.1 + 1, cs.2 + n.toNat) nx ls (am_r (some h.1.1.length) :: st) (am_z h (101, n.toNat))) : am_X Φ M cs pc ls (.inl n :: st) h := by
  intro p e s m args below meth c C lsA H locs hl hw hS T hT X
  subst hT
  subst hn
  have hz := am_size X hw C.2.2.2.2.2.2.2.2.2.1 hS
  obtain ⟨hx, hb, hml, hr, hown, hts, hlo, hnm, hK, hbs, hE, hE2⟩ := id C
  suffices hW9 : W p Φ.1.1 e Φ.2.2.1 s m args below meth c T.heap locs cs.1 cs.2 (Φ.2.2.2 below args s) (F0 m pc lsA (.int (Int32.ofInt n) :: st.map (am_c Φ.1.2.1 Φ.1.2.2.1))) from hW9 T rfl X
  refine va_newaK (atype := .byte) (N := n.toNat) hx hb (hts _ harr) rfl hd rfl (fun q => by rw [show (0 : Int32) = Int32.ofInt 0 from rfl, am_of_lt (by omega) (by omega)] at q; omega) (am_of_clamp h0 (by omega)) (by show n.toNat * _ ≤ _; rw [show componentBytes (newarray.typeOf .byte) = 1 from rfl]; omega) hcells hslots rfl (fun H1 cA e1 z1 o1 hAr hNm => ?_)
  have ecA : cA = Φ.1.2.2.2.2 101 := Option.some.inj (hNm.symm.trans (am_cA hK).2.1)
  subst ecA
  obtain ⟨w1, s1⟩ := am_newW (kd := 101) (N := n.toNat) X C hw hS z1 o1 (by omega) (by
    rw [e1]
    have ez : am_ct Φ.1.2.1 (am_z h (101, n.toNat)).2 h.1.1.length 101 = .inl (fun _ => Int32.ofInt 0) := by
      unfold am_ct
      rw [if_neg (by omega), if_neg (by omega)]
      show Sum.inl (fun j : Nat => Int32.ofInt (am_uz h.2.1 h.1.1.length 0 h.1.1.length j)) = _
      rw [am_uz_eq]
    rw [ez]
    rfl)
  rw [hz]
  exact k p e s m args below meth c C lsA H1 locs hl w1 s1
theorem am_r_newZ {n : Int} {nx : Nat} (harr : Cond.arrayClass .boolean ∈ am_tb) (h0 : 0 ≤ n) (h1 : n ≤ 100000) (hcells : cs.1 + 1 ≤ Φ.2.2.1.cells) (hslots : cs.2 + n.toNat ≤ Φ.2.2.1.slots) (hd : decode M.2.1 pc = .ok (.newarray .boolean, 2)) (hn : pc + 2 = nx)
    (k : am_X Φ M (cs.1 + 1, cs.2 + n.toNat) nx ls (am_r (some h.1.1.length) :: st) (am_z h (102, n.toNat))) : am_X Φ M cs pc ls (.inl n :: st) h := by
  intro p e s m args below meth c C lsA H locs hl hw hS T hT X
  subst hT
  subst hn
  have hz := am_size X hw C.2.2.2.2.2.2.2.2.2.1 hS
  obtain ⟨hx, hb, hml, hr, hown, hts, hlo, hnm, hK, hbs, hE, hE2⟩ := id C
  suffices hW9 : W p Φ.1.1 e Φ.2.2.1 s m args below meth c T.heap locs cs.1 cs.2 (Φ.2.2.2 below args s) (F0 m pc lsA (.int (Int32.ofInt n) :: st.map (am_c Φ.1.2.1 Φ.1.2.2.1))) from hW9 T rfl X
  refine va_newaK (atype := .boolean) (N := n.toNat) hx hb (hts _ harr) rfl hd rfl (fun q => by rw [show (0 : Int32) = Int32.ofInt 0 from rfl, am_of_lt (by omega) (by omega)] at q; omega) (am_of_clamp h0 (by omega)) (by show n.toNat * _ ≤ _; rw [show componentBytes (newarray.typeOf .boolean) = 1 from rfl]; omega) hcells hslots rfl (fun H1 cA e1 z1 o1 hAr hNm => ?_)
  have ecA : cA = Φ.1.2.2.2.2 102 := Option.some.inj (hNm.symm.trans (am_cA hK).2.2.1)
  subst ecA
  obtain ⟨w1, s1⟩ := am_newW (kd := 102) (N := n.toNat) X C hw hS z1 o1 (by omega) (by
    rw [e1]
    have ez : am_ct Φ.1.2.1 (am_z h (102, n.toNat)).2 h.1.1.length 102 = .inl (fun _ => Int32.ofInt 0) := by
      unfold am_ct
      rw [if_neg (by omega), if_neg (by omega)]
      show Sum.inl (fun j : Nat => Int32.ofInt (am_uz h.2.1 h.1.1.length 0 h.1.1.length j)) = _
      rw [am_uz_eq]
    rw [ez]
    rfl)
  rw [hz]
  exact k p e s m args below meth c C lsA H1 locs hl w1 s1
theorem am_r_newJ {n : Int} {nx : Nat} (harr : Cond.arrayClass .long ∈ am_tb) (h0 : 0 ≤ n) (h1 : n ≤ 100000) (hcells : cs.1 + 1 ≤ Φ.2.2.1.cells) (hslots : cs.2 + n.toNat ≤ Φ.2.2.1.slots) (hd : decode M.2.1 pc = .ok (.newarray .long, 2)) (hn : pc + 2 = nx)
    (k : am_X Φ M (cs.1 + 1, cs.2 + n.toNat) nx ls (am_r (some h.1.1.length) :: st) (am_z h (103, n.toNat))) : am_X Φ M cs pc ls (.inl n :: st) h := by
  intro p e s m args below meth c C lsA H locs hl hw hS T hT X
  subst hT
  subst hn
  have hz := am_size X hw C.2.2.2.2.2.2.2.2.2.1 hS
  obtain ⟨hx, hb, hml, hr, hown, hts, hlo, hnm, hK, hbs, hE, hE2⟩ := id C
  suffices hW9 : W p Φ.1.1 e Φ.2.2.1 s m args below meth c T.heap locs cs.1 cs.2 (Φ.2.2.2 below args s) (F0 m pc lsA (.int (Int32.ofInt n) :: st.map (am_c Φ.1.2.1 Φ.1.2.2.1))) from hW9 T rfl X
  refine va_newaK (atype := .long) (N := n.toNat) hx hb (hts _ harr) rfl hd rfl (fun q => by rw [show (0 : Int32) = Int32.ofInt 0 from rfl, am_of_lt (by omega) (by omega)] at q; omega) (am_of_clamp h0 (by omega)) (by show n.toNat * _ ≤ _; rw [show componentBytes (newarray.typeOf .long) = 8 from rfl]; omega) hcells hslots rfl (fun H1 cA e1 z1 o1 hAr hNm => ?_)
  have ecA : cA = Φ.1.2.2.2.2 103 := Option.some.inj (hNm.symm.trans (am_cA hK).2.2.2.1)
  subst ecA
  obtain ⟨w1, s1⟩ := am_newW (kd := 103) (N := n.toNat) X C hw hS z1 o1 (by omega) (by
    rw [e1]
    have ez : am_ct Φ.1.2.1 (am_z h (103, n.toNat)).2 h.1.1.length 103 = .inr (.inl (fun _ => 0)) := by
      unfold am_ct
      rw [if_pos rfl]
      show Sum.inr (Sum.inl fun j : Nat => am_uz h.2.2.1 h.1.1.length 0 h.1.1.length j) = _
      rw [am_uz_eq]
    rw [ez]
    rfl)
  rw [hz]
  exact k p e s m args below meth c C lsA H1 locs hl w1 s1
theorem am_r_newQ {n : Int} {nx index : Nat} (hcl : Cond.classLink M.1.cls index "TreeStream$Machine" ∈ am_tb) (harr : Cond.arrayOver (.object "TreeStream$Machine") ∈ am_tb) (h0 : 0 ≤ n) (h1 : n ≤ 100000) (hcells : cs.1 + 1 ≤ Φ.2.2.1.cells) (hslots : cs.2 + n.toNat ≤ Φ.2.2.1.slots) (hd : decode M.2.1 pc = .ok (.anewarray index, 3)) (hn : pc + 3 = nx)
    (k : am_X Φ M (cs.1 + 1, cs.2 + n.toNat) nx ls (am_r (some h.1.1.length) :: st) (am_z h (104, n.toNat))) : am_X Φ M cs pc ls (.inl n :: st) h := by
  intro p e s m args below meth c C lsA H locs hl hw hS T hT X
  subst hT
  subst hn
  have hz := am_size X hw C.2.2.2.2.2.2.2.2.2.1 hS
  obtain ⟨hx, hb, hml, hr, hown, hts, hlo, hnm, hK, hbs, hE, hE2⟩ := id C
  have hcp := am_of_clamp h0 (show n ≤ 2147483647 by omega)
  suffices hW9 : W p Φ.1.1 e Φ.2.2.1 s m args below meth c T.heap locs cs.1 cs.2 (Φ.2.2.2 below args s) (F0 m pc lsA (.int (Int32.ofInt n) :: st.map (am_c Φ.1.2.1 Φ.1.2.2.1))) from hW9 T rfl X
  refine W.anew hx hb hown (hts _ hcl) (hts _ harr) rfl hd rfl (fun q => by rw [show (0 : Int32) = Int32.ofInt 0 from rfl, am_of_lt (by omega) (by omega)] at q; omega) (by rw [hcp]; omega) hcells (by rw [hcp]; exact hslots) (fun cA kA comp f1 f2 f3 f4 => ?_)
  have ecA : cA = Φ.1.2.2.2.2 104 := Option.some.inj (f1.symm.trans (am_cA hK).2.2.2.2)
  subst ecA
  rw [hcp]
  generalize hH1 : T.heap.push ({ cls := Φ.1.2.2.2.2 104, slots := Array.replicate n.toNat .null, vm := .none } : Cell) = H1
  obtain ⟨w1, s1⟩ := am_newW (kd := 104) (N := n.toNat) (H1 := H1) X C hw hS (by rw [← hH1, Array.size_push]) (fun q hq => by rw [← hH1, Array.getElem?_push, if_neg (Nat.ne_of_lt hq)]) (by omega) (by
    have ez : am_ct Φ.1.2.1 (am_z h (104, n.toNat)).2 h.1.1.length 104 = .inr (.inr (.inr (.inr (fun _ => none)))) := by
      unfold am_ct
      rw [if_neg (by omega), if_pos rfl]
      show Sum.inr (Sum.inr (Sum.inr (Sum.inr fun j : Nat => (am_uz h.2.2.2 h.1.1.length none h.1.1.length j).map _))) = _
      rw [am_uz_eq]
      rfl
    rw [ez, ← hH1, Array.getElem?_push_size, vp_cell_q, ← arrV_new]
    rfl)
  rw [hz]
  exact k p e s m args below meth c C lsA H1 locs hl w1 s1
theorem am_r_obj {index a nx : Nat} (hlk : Cond.methodLink M.1.cls index Lib.objectInit ∈ am_tb) (hin : Cond.instanceMethod Lib.objectInit ∈ am_tb) (hcd : Cond.code Lib.objectInit ⟨#[0xb1]⟩ 1 none ∈ am_tb) (hsum : (st.map am_cat).sum ≤ 8) (hR : 1 ≤ Φ.2.2.1.frames ∧ 40 ≤ Φ.2.2.1.locals) (hd : decode M.2.1 pc = .ok (.invokespecial index, 3)) (hn : pc + 3 = nx) (k : am_X Φ M cs nx ls st h) : am_X Φ M cs pc ls (am_r (some a) :: st) h := by
  intro p e s m args below meth c C lsA H locs hl hw hS
  subst hn
  obtain ⟨hx, hb, hml, hr, hown, hts, hlo, hnm, hK, hbs, hE, hE2⟩ := id C
  refine W.objInit hx hb hown (hts _ hlk) (hts _ hin) (hts _ hcd) rfl (by rw [hml]; exact hl.1) rfl hd hR.1 (by have := lv_room (m := m) (pc := pc) (ls := lsA) (rest := []) (am_catsum (b := Φ.1.2.1) (ad := Φ.1.2.2.1) hsum); have e9 : ∀ rr, (F0 m pc lsA rr).monitorRoom = (F0 m pc lsA []).monitorRoom := fun _ => rfl; rw [e9]; omega) ?_
  exact k p e s m args below meth c C lsA H locs hl hw hS
end
