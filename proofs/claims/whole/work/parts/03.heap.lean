section
variable {Φ : am_F} {M : am_Me} {cs : Nat × Nat} {pc : Nat} {ls : am_LS} {st : List am_V} {h : am_H}
/-- a field's link: of its own class, or of a nest mate -/
def am_lk (M : am_Me) (index : Nat) (T : u_T) (k : Nat) : Prop := Cond.fieldLink M.1.cls index (T k).1 (T k).2.1 (T k).2.2.1 ∈ am_tb ∨ ∃ host, Cond.fieldLinkNest M.1.cls index (T k).1 (T k).2.1 (T k).2.2.1 host ∈ am_nst
/-- a class of the table -/
def am_cw (ci : Nat) (C : String) (T : u_T) (N : Nat) (ty : Nat → FieldType) : Prop := ci < 100 ∧ am_cl[ci]? = some (C, T, N) ∧ (∀ w ∈ u_ws C T N, w ∈ am_tb) ∧ (∀ k, k < N → parseFieldDescriptor (T k).2.2.1 = some (ty k)) ∧ (∀ a, a < N → ∀ b, b < N → a ≠ b → (T a).2.1 ≠ (T b).2.1)
theorem am_r_get {a ci index N q : Nat} {C : String} {T : u_T} {ty : Nat → FieldType} {nx : Nat} {v : am_V} (kf : Nat) (hc : am_cw ci C T N ty) (hk : kf < N) (hq : (am_tm ci)[kf]? = some q) (hlk : am_lk M index T kf) (hs : (am_sh h.1.1 a).1 = ci) (hv : am_fv Φ.1.2.1 h a kf q = am_c Φ.1.2.1 Φ.1.2.2.1 v) (hd : decode M.2.1 pc = .ok (.getfield index, 3)) (hn : pc + 3 = nx) (k : am_X Φ M cs nx ls (v :: st) h) : am_X Φ M cs pc ls (am_r (some a) :: st) h := by
  intro p e s m args below meth c C lsA H locs hl hw hS
  subst hn
  have kk := k p e s m args below meth c C lsA H locs hl hw hS
  obtain ⟨hx, hb, hml, hr, hown, hts, hlo, hnm, hK, hbs, hE, hE2⟩ := id C
  obtain ⟨h100, hcl, hin, -, -⟩ := hc
  have hfs : (am_fs Φ.1.2.1 h a (am_tm ci))[kf]? = some (am_c Φ.1.2.1 Φ.1.2.2.1 v) := by
    rw [am_fs_get, hq, ← hv]
    rfl
  rcases hlk with hlk | ⟨host, hlk⟩
  · exact va_get hx hb hts hin hown hK hw.2 a (am_cell_o hs h100) hcl kf hk (hts _ hlk) (fun _ z => z) hfs hd kk
  · exact va_getN hx hb hts hin hown hK hw.2 a (am_cell_o hs h100) hcl kf hk (va_Nw.use rfl (hE.2.2.2.2 _ hlk)) (fun _ z => z) hfs hd kk
theorem am_r_getI {a ci index N : Nat} {C : String} {T : u_T} {ty : Nat → FieldType} {nx : Nat} (kf : Nat) (hc : am_cw ci C T N ty) (hk : kf < N) (hq : (am_tm ci)[kf]? = some 0) (hlk : am_lk M index T kf) (hs : (am_sh h.1.1 a).1 = ci) (hd : decode M.2.1 pc = .ok (.getfield index, 3)) (hn : pc + 3 = nx) (k : am_X Φ M cs nx ls (.inl (h.2.1 a kf) :: st) h) : am_X Φ M cs pc ls (am_r (some a) :: st) h :=
  am_r_get (v := .inl (h.2.1 a kf)) kf hc hk hq hlk hs rfl hd hn k
theorem am_r_getR {a ci index N : Nat} {C : String} {T : u_T} {ty : Nat → FieldType} {nx : Nat} (kf : Nat) (hc : am_cw ci C T N ty) (hk : kf < N) (hq : (am_tm ci)[kf]? = some 2) (hlk : am_lk M index T kf) (hs : (am_sh h.1.1 a).1 = ci) (hd : decode M.2.1 pc = .ok (.getfield index, 3)) (hn : pc + 3 = nx) (k : am_X Φ M cs nx ls (am_r (h.2.2.2 a kf) :: st) h) : am_X Φ M cs pc ls (am_r (some a) :: st) h :=
  am_r_get (v := am_r (h.2.2.2 a kf)) kf hc hk hq hlk hs rfl hd hn k
theorem am_r_getF {a a' ci index N : Nat} {C : String} {T : u_T} {ty : Nat → FieldType} {nx : Nat} (kf : Nat) (hc : am_cw ci C T N ty) (hk : kf < N) (hq : (am_tm ci)[kf]? = some 3) (hlk : am_lk M index T kf) (hs : (am_sh h.1.1 a).1 = ci) (hf : h.1.2 a kf = some a') (hd : decode M.2.1 pc = .ok (.getfield index, 3)) (hn : pc + 3 = nx) (k : am_X Φ M cs nx ls (am_r (some a') :: st) h) : am_X Φ M cs pc ls (am_r (some a) :: st) h :=
  am_r_get (v := am_r (some a')) kf hc hk hq hlk hs (by unfold am_fv; rw [hf]; rfl) hd hn k
theorem am_fs_set {b : Nat} {h h' : am_H} {i k : Nat} {l : List Nat} {q : Nat} {v : Value} (hk : l[k]? = some q) (hv : am_fv b h' i k q = v) (ho : ∀ j q', j ≠ k → am_fv b h' i j q' = am_fv b h i j q') : (am_fs b h i l).set k v = am_fs b h' i l := by
  apply List.ext_getElem?
  intro j
  have hl : k < (am_fs b h i l).length := by rw [am_fs_len]; exact (List.getElem?_eq_some_iff.mp hk).1
  rw [List.getElem?_set, am_fs_get, am_fs_get]
  by_cases hj : k = j
  · subst hj
    rw [if_pos rfl, if_pos hl, hk, ← hv]
    rfl
  · rw [if_neg hj]
    cases l[j]? with
    | none => rfl
    | some q' => exact congrArg some (ho j q' (fun z => hj z.symm)).symm
theorem am_ce_o {b : Nat} {cA : Nat → ClassId} {h : am_H} {a : Nat} {q : Nat × Nat} (hq : q.1 < 100) : am_ce b cA h a q = .inr (q.1, am_fs b h a (am_tm q.1)) := by
  unfold am_ce
  rw [if_pos hq]
/-- a field is put: the new world -/
theorem am_r_put {a ci index N q : Nat} {C : String} {T : u_T} {ty : Nat → FieldType} {nx : Nat} {v : am_V} {F' : Nat → Int → Option Nat} {d' : am_D} (kf : Nat) (hc : am_cw ci C T N ty) (hk : kf < N) (hq : (am_tm ci)[kf]? = some q) (hlk : am_lk M index T kf) (hs : (am_sh h.1.1 a).1 = ci) (hfin : (T kf).2.2.2 = false ∨ ((T kf).2.2.2 = true ∧ M.1.name = "<init>" ∧ (T kf).1 = M.1.cls ∧ Cond.fieldLink M.1.cls index (T kf).1 (T kf).2.1 (T kf).2.2.1 ∈ am_tb))
    (hnar : narrow (ty kf) (am_c Φ.1.2.1 Φ.1.2.2.1 v) = am_c Φ.1.2.1 Φ.1.2.2.1 v) (hfit : fits (ty kf) (am_c Φ.1.2.1 Φ.1.2.2.1 v) = true)
    (hv : am_fv Φ.1.2.1 ((h.1.1, F'), d') a kf q = am_c Φ.1.2.1 Φ.1.2.2.1 v) (ho : ∀ j q', j ≠ kf → am_fv Φ.1.2.1 ((h.1.1, F'), d') a j q' = am_fv Φ.1.2.1 h a j q') (h0 : ∀ i, i ≠ a → F' i = h.1.2 i) (h1 : ∀ i, i ≠ a → d'.1 i = h.2.1 i) (h2 : ∀ i, i ≠ a → d'.2.1 i = h.2.2.1 i) (h3 : ∀ i, i ≠ a → d'.2.2 i = h.2.2.2 i)
    (hd : decode M.2.1 pc = .ok (.putfield index, 3)) (hn : pc + 3 = nx) (k : am_X Φ M cs nx ls st ((h.1.1, F'), d')) : am_X Φ M cs pc ls (v :: am_r (some a) :: st) h := by
  intro p e s m args below meth c C lsA H locs hl hw hS
  subst hn
  have kk := fun H1 locs1 w1 s1 => k p e s m args below meth c C lsA H1 locs1 hl w1 s1
  obtain ⟨hx, hb, hml, hr, hown, hts, hlo, hnm, hK, hbs, hE, hE2⟩ := id C
  obtain ⟨h100, hcl, hin, hty, hna⟩ := hc
  have hsz : a < h.1.1.length := (List.getElem?_eq_some_iff.mp (am_sh_get (sh := h.1.1) (a := a) (by omega))).1
  have hlen : kf < (am_fs Φ.1.2.1 h a (am_tm ci)).length := by rw [am_fs_len]; exact (List.getElem?_eq_some_iff.mp hq).1
  have hset : (am_ws Φ.1.2.1 Φ.1.2.2.2.2 h).set a (Φ.1.2.1 + a, .inr (ci, (am_fs Φ.1.2.1 h a (am_tm ci)).set kf (am_c Φ.1.2.1 Φ.1.2.2.1 v))) = am_ws Φ.1.2.1 Φ.1.2.2.2.2 ((h.1.1, F'), d') := by
    refine am_ws_set (sh := h.1.1) (F := h.1.2) (d := h.2) (am_sh_get (by omega)) ?_ h0 h1 h2 h3
    rw [am_ce_o (by omega), hs, am_fs_set hq hv ho]
  have hty9 := hty kf hk
  rcases hfin with hfin | ⟨hfin, hin2, hdc, hlk2⟩
  · rcases hlk with hlk | ⟨host, hlk⟩
    · exact va_put hx hb hts hin ty hty hna hown hK hw.2 am_Dv hS a (am_cell_o hs h100) hcl kf hk (hts _ hlk) (fun _ z => z) hfin hty9 hnar hfit hlen hd (fun H1 locs1 p1 d1 s1 => kk H1 locs1 ⟨hw.1, by rw [hset] at p1; exact p1⟩ s1)
    · exact va_putN hx hb hts hin ty hty hna hown hK hw.2 am_Dv hS a (am_cell_o hs h100) hcl kf hk (va_Nw.use rfl (hE.2.2.2.2 _ hlk)) (fun _ z => z) hfin hty9 hnar hfit hlen hd (fun H1 locs1 p1 d1 s1 => kk H1 locs1 ⟨hw.1, by rw [hset] at p1; exact p1⟩ s1)
  · exact va_putF hx hb hts hin ty hty hna hown hK hw.2 am_Dv hS a (am_cell_o hs h100) hcl kf hk (hts _ hlk2) (fun _ z => z) hfin (by rw [hnm]; exact hin2) hdc hty9 hnar hfit hlen hd (fun H1 locs1 p1 d1 s1 => kk H1 locs1 ⟨hw.1, by rw [hset] at p1; exact p1⟩ s1)
theorem am_fv_ne {b : Nat} {h h' : am_H} {a : Nat} {j q : Nat} (e0 : h'.1.2 a j = h.1.2 a j) (e1 : h'.2.1 a j = h.2.1 a j) (e2 : h'.2.2.1 a j = h.2.2.1 a j) (e3 : h'.2.2.2 a j = h.2.2.2 a j) : am_fv b h' a j q = am_fv b h a j q := by
  unfold am_fv
  rw [e0, e1, e2, e3]
theorem am_u1_ne {α : Type} {f : Int → α} {k j : Int} {v : α} (hj : j ≠ k) : am_u1 f k v j = f j := if_neg hj
theorem am_u1_eq {α : Type} {f : Int → α} {k : Int} {v : α} : am_u1 f k v k = v := if_pos rfl
theorem am_up_nj {α : Type} {f : Nat → Int → α} {a : Nat} {k j : Int} {v : α} (hj : j ≠ k) : am_up f a k v a j = f a j := by rw [am_up_eq, am_u1_ne hj]
theorem am_up_at {α : Type} {f : Nat → Int → α} {a : Nat} {k : Int} {v : α} : am_up f a k v a k = v := by rw [am_up_eq, am_u1_eq]
theorem am_r_putI {a ci index N : Nat} {C : String} {T : u_T} {ty : Nat → FieldType} {nx : Nat} {x : Int} (kf : Nat) (hc : am_cw ci C T N ty) (hk : kf < N) (hq : (am_tm ci)[kf]? = some 0) (hlk : am_lk M index T kf) (hs : (am_sh h.1.1 a).1 = ci) (hfin : (T kf).2.2.2 = false) (hty : ty kf = .int ∨ (ty kf = .boolean ∧ (x = 0 ∨ x = 1)))
    (hd : decode M.2.1 pc = .ok (.putfield index, 3)) (hn : pc + 3 = nx) (k : am_X Φ M cs nx ls st (h.1, am_up h.2.1 a kf x, h.2.2)) : am_X Φ M cs pc ls (.inl x :: am_r (some a) :: st) h := by
  refine am_r_put (v := .inl x) (F' := h.1.2) (d' := (am_up h.2.1 a kf x, h.2.2)) kf hc hk hq hlk hs (Or.inl hfin) ?_ ?_ ?_ ?_ (fun _ _ => rfl) (fun i hi => am_up_ne hi) (fun _ _ => rfl) (fun _ _ => rfl) hd hn k
  · rcases hty with e | ⟨e, rfl | rfl⟩ <;> rw [e] <;> rfl
  · rcases hty with e | ⟨e, rfl | rfl⟩ <;> rw [e] <;> rfl
  · show Value.int (Int32.ofInt (am_up h.2.1 a kf x a kf)) = _
    rw [am_up_at]
    rfl
  · intro j q' hj
    exact am_fv_ne (h := h) rfl (am_up_nj (by omega)) rfl rfl
theorem am_r_putR {a ci index N : Nat} {C C2 : String} {T : u_T} {ty : Nat → FieldType} {nx : Nat} {o : Option Nat} (kf : Nat) (hc : am_cw ci C T N ty) (hk : kf < N) (hq : (am_tm ci)[kf]? = some 2) (hlk : am_lk M index T kf) (hs : (am_sh h.1.1 a).1 = ci) (hfin : (T kf).2.2.2 = false) (hty : ty kf = .object C2)
    (hd : decode M.2.1 pc = .ok (.putfield index, 3)) (hn : pc + 3 = nx) (k : am_X Φ M cs nx ls st (h.1, h.2.1, h.2.2.1, am_up h.2.2.2 a kf o)) : am_X Φ M cs pc ls (am_r o :: am_r (some a) :: st) h := by
  refine am_r_put (v := am_r o) (F' := h.1.2) (d' := (h.2.1, h.2.2.1, am_up h.2.2.2 a kf o)) kf hc hk hq hlk hs (Or.inl hfin) ?_ ?_ ?_ ?_ (fun _ _ => rfl) (fun _ _ => rfl) (fun _ _ => rfl) (fun i hi => am_up_ne hi) hd hn k
  · rw [hty]; cases o <;> rfl
  · rw [hty]; cases o <;> rfl
  · show va_rf ((am_up h.2.2.2 a kf o a kf).map _) = _
    rw [am_up_at]
    rfl
  · intro j q' hj
    exact am_fv_ne (h := h) rfl rfl rfl (am_up_nj (by omega))
/-- a final reference, in the constructor -/
theorem am_r_putF {a ci index N : Nat} {C : String} {T : u_T} {ty : Nat → FieldType} {nx : Nat} {o : Option Nat} (kf : Nat) (hc : am_cw ci C T N ty) (hk : kf < N) (hq : (am_tm ci)[kf]? = some 3) (hlk2 : Cond.fieldLink M.1.cls index (T kf).1 (T kf).2.1 (T kf).2.2.1 ∈ am_tb) (hs : (am_sh h.1.1 a).1 = ci) (hfin : (T kf).2.2.2 = true) (hin : M.1.name = "<init>") (hdc : (T kf).1 = M.1.cls) (hty : (∃ C2, ty kf = .object C2) ∨ ∃ t, ty kf = .array t)
    (hd : decode M.2.1 pc = .ok (.putfield index, 3)) (hn : pc + 3 = nx) (k : am_X Φ M cs nx ls st ((h.1.1, am_up h.1.2 a kf o), h.2)) : am_X Φ M cs pc ls (am_r o :: am_r (some a) :: st) h := by
  refine am_r_put (v := am_r o) (F' := am_up h.1.2 a kf o) (d' := h.2) kf hc hk hq (Or.inl hlk2) hs (Or.inr ⟨hfin, hin, hdc, hlk2⟩) ?_ ?_ ?_ ?_ (fun i hi => am_up_ne hi) (fun _ _ => rfl) (fun _ _ => rfl) (fun _ _ => rfl) hd hn k
  · rcases hty with ⟨C2, e⟩ | ⟨C2, e⟩ <;> rw [e] <;> cases o <;> rfl
  · rcases hty with ⟨C2, e⟩ | ⟨C2, e⟩ <;> rw [e] <;> cases o <;> rfl
  · show va_rf ((am_up h.1.2 a kf o a kf).map _) = _
    rw [am_up_at]
    rfl
  · intro j q' hj
    exact am_fv_ne (h := h) (am_up_nj (by omega)) rfl rfl rfl
-- rows
theorem am_tys_at (cA : Nat → ClassId) : (am_tys cA)[0]? = some (cA 100, .int) ∧ (am_tys cA)[1]? = some (cA 101, .byte) ∧ (am_tys cA)[2]? = some (cA 102, .boolean) ∧ (am_tys cA)[3]? = some (cA 103, .long) ∧ (am_tys cA)[4]? = some (cA 104, .object "TreeStream$Machine") := ⟨rfl, rfl, rfl, rfl, rfl⟩
theorem am_cell_ai {b : Nat} {cA : Nat → ClassId} {h : am_H} {a kd n : Nat} (hs : am_sh h.1.1 a = (kd, n)) (h1 : 100 ≤ kd) (h2 : kd ≤ 102) : (am_ws b cA h)[a]? = some (b + a, .inl (cA kd, n, .inl fun j => Int32.ofInt (h.2.1 a j))) := by
  rw [am_cell_a hs h1 (by omega)]
  unfold am_ct
  rw [if_neg (by omega), if_neg (by omega)]
theorem am_cell_al {b : Nat} {cA : Nat → ClassId} {h : am_H} {a n : Nat} (hs : am_sh h.1.1 a = (103, n)) : (am_ws b cA h)[a]? = some (b + a, .inl (cA 103, n, .inr (.inl fun j => h.2.2.1 a j))) := by
  rw [am_cell_a hs (by omega) (by omega)]
  rfl
theorem am_cell_aq {b : Nat} {cA : Nat → ClassId} {h : am_H} {a n : Nat} (hs : am_sh h.1.1 a = (104, n)) : (am_ws b cA h)[a]? = some (b + a, .inl (cA 104, n, .inr (.inr (.inr (.inr fun j => (h.2.2.2 a j).map (b + ·)))))) := by
  rw [am_cell_a hs (by omega) (by omega)]
  rfl

theorem am_r_iald {a n : Nat} {i : Int} {nx : Nat} (hs : am_sh h.1.1 a = (100, n)) (hN : n ≤ 2147483647) (h0 : 0 ≤ i) (h1 : i < n) (hd : decode M.2.1 pc = .ok (.iaload, 1)) (hn : pc + 1 = nx) (k : am_X Φ M cs nx ls (.inl (h.2.1 a i) :: st) h) : am_X Φ M cs pc ls (.inl i :: am_r (some a) :: st) h := by
  intro p e s m args below meth c C lsA H locs hl hw hS
  subst hn
  have kk := k p e s m args below meth c C lsA H locs hl hw hS
  refine va_iald C.1 C.2.1 C.2.2.2.2.2.2.2.2.1 hw.2 a 0 (am_cell_ai hs (by omega) (by omega)) rfl (am_of_in h0 h1 hN) hd ?_
  rw [am_of_clamp h0 (by omega), Int.toNat_of_nonneg h0]
  exact kk
theorem am_r_bald {a n : Nat} {i : Int} {nx : Nat} (hs : am_sh h.1.1 a = (101, n)) (hN : n ≤ 2147483647) (h0 : 0 ≤ i) (h1 : i < n) (hd : decode M.2.1 pc = .ok (.baload, 1)) (hn : pc + 1 = nx) (k : am_X Φ M cs nx ls (.inl (h.2.1 a i) :: st) h) : am_X Φ M cs pc ls (.inl i :: am_r (some a) :: st) h := by
  intro p e s m args below meth c C lsA H locs hl hw hS
  subst hn
  have kk := k p e s m args below meth c C lsA H locs hl hw hS
  refine va_bald C.1 C.2.1 C.2.2.2.2.2.2.2.2.1 hw.2 a 1 (am_cell_ai hs (by omega) (by omega)) rfl (am_of_in h0 h1 hN) hd ?_
  rw [am_of_clamp h0 (by omega), Int.toNat_of_nonneg h0]
  exact kk
theorem am_r_zald {a n : Nat} {i : Int} {nx : Nat} (hs : am_sh h.1.1 a = (102, n)) (hN : n ≤ 2147483647) (h0 : 0 ≤ i) (h1 : i < n) (hd : decode M.2.1 pc = .ok (.baload, 1)) (hn : pc + 1 = nx) (k : am_X Φ M cs nx ls (.inl (h.2.1 a i) :: st) h) : am_X Φ M cs pc ls (.inl i :: am_r (some a) :: st) h := by
  intro p e s m args below meth c C lsA H locs hl hw hS
  subst hn
  have kk := k p e s m args below meth c C lsA H locs hl hw hS
  refine va_zald C.1 C.2.1 C.2.2.2.2.2.2.2.2.1 hw.2 a 2 (am_cell_ai hs (by omega) (by omega)) rfl (am_of_in h0 h1 hN) hd ?_
  rw [am_of_clamp h0 (by omega), Int.toNat_of_nonneg h0]
  exact kk
theorem am_r_lald {a n : Nat} {i : Int} {nx : Nat} (hs : am_sh h.1.1 a = (103, n)) (hN : n ≤ 2147483647) (h0 : 0 ≤ i) (h1 : i < n) (hd : decode M.2.1 pc = .ok (.laload, 1)) (hn : pc + 1 = nx) (k : am_X Φ M cs nx ls (am_l (h.2.2.1 a i) :: st) h) : am_X Φ M cs pc ls (.inl i :: am_r (some a) :: st) h := by
  intro p e s m args below meth c C lsA H locs hl hw hS
  subst hn
  have kk := k p e s m args below meth c C lsA H locs hl hw hS
  refine va_lald C.1 C.2.1 C.2.2.2.2.2.2.2.2.1 hw.2 a 3 (am_cell_al hs) rfl (am_of_in h0 h1 hN) hd ?_
  rw [am_of_clamp h0 (by omega), Int.toNat_of_nonneg h0]
  exact kk
theorem am_r_aald {a n : Nat} {i : Int} {nx : Nat} (hs : am_sh h.1.1 a = (104, n)) (hN : n ≤ 2147483647) (h0 : 0 ≤ i) (h1 : i < n) (hd : decode M.2.1 pc = .ok (.aaload, 1)) (hn : pc + 1 = nx) (k : am_X Φ M cs nx ls (am_r (h.2.2.2 a i) :: st) h) : am_X Φ M cs pc ls (.inl i :: am_r (some a) :: st) h := by
  intro p e s m args below meth c C lsA H locs hl hw hS
  subst hn
  have kk := k p e s m args below meth c C lsA H locs hl hw hS
  refine va_aldq C.1 C.2.1 C.2.2.2.2.2.2.2.2.1 hw.2 a 4 (am_cell_aq hs) rfl (am_of_in h0 h1 hN) hd ?_
  rw [am_of_clamp h0 (by omega), Int.toNat_of_nonneg h0]
  exact kk
theorem am_wsset {b : Nat} {cA : Nat → ClassId} {h : am_H} {d' : am_D} {a : Nat} {kd n : Nat} {e : va_E} (hs : am_sh h.1.1 a = (kd, n)) (h9 : kd ≠ 999) (he : am_ce b cA (h.1, d') a (kd, n) = e) (h1 : ∀ i, i ≠ a → d'.1 i = h.2.1 i) (h2 : ∀ i, i ≠ a → d'.2.1 i = h.2.2.1 i) (h3 : ∀ i, i ≠ a → d'.2.2 i = h.2.2.2 i) : (am_ws b cA h).set a (b + a, e) = am_ws b cA (h.1, d') :=
  am_ws_set (sh := h.1.1) (F := h.1.2) (F' := h.1.2) (d := h.2) (d' := d') (by rw [← hs]; exact am_sh_get (by rw [hs]; exact h9)) he (fun _ _ => rfl) h1 h2 h3
theorem am_upN {f : Nat → Int → Int} {a : Nat} {i x : Int} (h0 : 0 ≤ i) : (fun j : Nat => Int32.ofInt (am_up f a i x a j)) = upd (fun j : Nat => Int32.ofInt (f a j)) i.toNat (Int32.ofInt x) := by
  funext j
  rw [am_up_eq]
  unfold am_u1 upd
  by_cases hj : (j : Int) = i
  · rw [if_pos hj, if_pos (by omega)]
  · rw [if_neg hj, if_neg (by omega)]
theorem am_r_iast {a n : Nat} {i x : Int} {nx : Nat} (hs : am_sh h.1.1 a = (100, n)) (hN : n ≤ 2147483647) (h0 : 0 ≤ i) (h1 : i < n) (hd : decode M.2.1 pc = .ok (.iastore, 1)) (hn : pc + 1 = nx) (k : am_X Φ M cs nx ls st (h.1, am_up h.2.1 a i x, h.2.2)) : am_X Φ M cs pc ls (.inl x :: .inl i :: am_r (some a) :: st) h := by
  intro p e s m args below meth c C lsA H locs hl hw hS
  subst hn
  refine va_iast C.1 C.2.1 C.2.2.2.2.2.2.2.2.1 hw.2 am_Dv hS a 0 (am_cell_ai hs (by omega) (by omega)) rfl (am_of_in h0 h1 hN) hd (fun H1 locs1 p1 d1 s1 => k p e s m args below meth c C lsA H1 locs1 hl ⟨hw.1, ?_⟩ s1)
  rw [am_of_clamp h0 (by omega)] at p1
  have e9 : (am_ws Φ.1.2.1 Φ.1.2.2.2.2 h).set a (Φ.1.2.1 + a, .inl (Φ.1.2.2.2.2 100, n, .inl (upd (fun j : Nat => Int32.ofInt (h.2.1 a j)) i.toNat (Int32.ofInt x)))) = am_ws Φ.1.2.1 Φ.1.2.2.2.2 (h.1, am_up h.2.1 a i x, h.2.2) := am_wsset (d' := (am_up h.2.1 a i x, h.2.2)) hs (by omega) (by
    unfold am_ce am_ct
    rw [if_neg (show ¬ 100 < 100 by omega), if_neg (show ¬ 100 = 103 by omega), if_neg (show ¬ 100 = 104 by omega)]
    show Sum.inl (Φ.1.2.2.2.2 100, n, Sum.inl fun j : Nat => Int32.ofInt (am_up h.2.1 a i x a j)) = _
    rw [am_upN h0]) (fun i hi => am_up_ne hi) (fun _ _ => rfl) (fun _ _ => rfl)
  rw [e9] at p1
  exact p1
theorem am_r_bast {a n : Nat} {i x : Int} {nx : Nat} (hs : am_sh h.1.1 a = (101, n)) (hN : n ≤ 2147483647) (h0 : 0 ≤ i) (h1 : i < n) (hd : decode M.2.1 pc = .ok (.bastore, 1)) (hn : pc + 1 = nx) (k : am_X Φ M cs nx ls st (h.1, am_up h.2.1 a i (am_i2b x), h.2.2)) : am_X Φ M cs pc ls (.inl x :: .inl i :: am_r (some a) :: st) h := by
  intro p e s m args below meth c C lsA H locs hl hw hS
  subst hn
  refine va_bast C.1 C.2.1 C.2.2.2.2.2.2.2.2.1 hw.2 am_Dv hS a 1 (am_cell_ai hs (by omega) (by omega)) rfl (am_of_in h0 h1 hN) hd (fun H1 locs1 p1 d1 s1 => k p e s m args below meth c C lsA H1 locs1 hl ⟨hw.1, ?_⟩ s1)
  rw [am_of_clamp h0 (by omega)] at p1
  have e9 : (am_ws Φ.1.2.1 Φ.1.2.2.2.2 h).set a (Φ.1.2.1 + a, .inl (Φ.1.2.2.2.2 101, n, .inl (upd (fun j : Nat => Int32.ofInt (h.2.1 a j)) i.toNat (vp_nar .byte (Int32.ofInt x))))) = am_ws Φ.1.2.1 Φ.1.2.2.2.2 (h.1, am_up h.2.1 a i (am_i2b x), h.2.2) := am_wsset (d' := (am_up h.2.1 a i (am_i2b x), h.2.2)) hs (by omega) (by
    unfold am_ce am_ct
    rw [if_neg (show ¬ 101 < 100 by omega), if_neg (show ¬ 101 = 103 by omega), if_neg (show ¬ 101 = 104 by omega)]
    show Sum.inl (Φ.1.2.2.2.2 101, n, Sum.inl fun j : Nat => Int32.ofInt (am_up h.2.1 a i (am_i2b x) a j)) = _
    rw [am_upN h0, show Int32.ofInt (am_i2b x) = vp_nar .byte (Int32.ofInt x) from Int32.ofInt_toInt _]) (fun i hi => am_up_ne hi) (fun _ _ => rfl) (fun _ _ => rfl)
  rw [e9] at p1
  exact p1
theorem am_r_zast {a n : Nat} {i x : Int} {nx : Nat} (hs : am_sh h.1.1 a = (102, n)) (hN : n ≤ 2147483647) (h0 : 0 ≤ i) (h1 : i < n) (h01 : x = 0 ∨ x = 1) (hd : decode M.2.1 pc = .ok (.bastore, 1)) (hn : pc + 1 = nx) (k : am_X Φ M cs nx ls st (h.1, am_up h.2.1 a i x, h.2.2)) : am_X Φ M cs pc ls (.inl x :: .inl i :: am_r (some a) :: st) h := by
  intro p e s m args below meth c C lsA H locs hl hw hS
  subst hn
  refine va_zast C.1 C.2.1 C.2.2.2.2.2.2.2.2.1 hw.2 am_Dv hS a 2 (am_cell_ai hs (by omega) (by omega)) rfl (am_of_in h0 h1 hN) hd (fun H1 locs1 p1 d1 s1 => k p e s m args below meth c C lsA H1 locs1 hl ⟨hw.1, ?_⟩ s1)
  rw [am_of_clamp h0 (by omega)] at p1
  have e9 : (am_ws Φ.1.2.1 Φ.1.2.2.2.2 h).set a (Φ.1.2.1 + a, .inl (Φ.1.2.2.2.2 102, n, .inl (upd (fun j : Nat => Int32.ofInt (h.2.1 a j)) i.toNat (vp_nar .boolean (Int32.ofInt x))))) = am_ws Φ.1.2.1 Φ.1.2.2.2.2 (h.1, am_up h.2.1 a i x, h.2.2) := am_wsset (d' := (am_up h.2.1 a i x, h.2.2)) hs (by omega) (by
    unfold am_ce am_ct
    rw [if_neg (show ¬ 102 < 100 by omega), if_neg (show ¬ 102 = 103 by omega), if_neg (show ¬ 102 = 104 by omega)]
    have z9 : Int32.ofInt x = vp_nar .boolean (Int32.ofInt x) := by rcases h01 with rfl | rfl <;> rfl
    show Sum.inl (Φ.1.2.2.2.2 102, n, Sum.inl fun j : Nat => Int32.ofInt (am_up h.2.1 a i x a j)) = _
    rw [am_upN h0, ← z9]) (fun i hi => am_up_ne hi) (fun _ _ => rfl) (fun _ _ => rfl)
  rw [e9] at p1
  exact p1
end
