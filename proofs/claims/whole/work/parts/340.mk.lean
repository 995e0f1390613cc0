section
/-! Making: rows behind the last one are as new ones. -/
def am_vg (h : am_H) : Prop := ∀ i, h.1.1.length ≤ i → h.1.2 i = (fun _ => none) ∧ h.2.1 i = (fun _ => 0) ∧ h.2.2.1 i = (fun _ => 0) ∧ h.2.2.2 i = (fun _ => none)
theorem am_uz_id {α : Type} {f : Nat → Int → α} {n : Nat} {v : α} (h : f n = fun _ => v) : am_uz f n v = f := by
  funext i
  unfold am_uz
  split
  · rename_i e; rw [e, h]
  · rfl
variable {sh sh' : List (Nat × Nat)} {F : Nat → Int → Option Nat} {D : am_D}
theorem am_vg.z {q : Nat × Nat} (v : am_vg ((sh, F), D)) (he : sh ++ [q] = sh') : am_z ((sh, F), D) q = ((sh', F), D) := by
  subst he
  obtain ⟨h1, h2, h3, h4⟩ := v sh.length (Nat.le_refl _)
  show ((sh ++ [q], am_uz F sh.length none), am_uz D.1 sh.length 0, am_uz D.2.1 sh.length 0, am_uz D.2.2 sh.length none) = ((sh ++ [q], F), D)
  rw [am_uz_id h1, am_uz_id h2, am_uz_id h3, am_uz_id h4]
theorem am_vg.app {L : List (Nat × Nat)} (v : am_vg ((sh, F), D)) : am_vg ((sh ++ L, F), D) := fun i hi => v i (by
  have hi : (sh ++ L).length ≤ i := hi
  rw [List.length_append] at hi
  show sh.length ≤ i
  omega)
theorem am_vg.fin {a : Nat} {k : Int} {o : Option Nat} (v : am_vg ((sh, F), D)) (ha : a < sh.length) : am_vg ((sh, am_up F a k o), D) := fun i hi => by
  have hi : sh.length ≤ i := hi
  obtain ⟨h1, h2⟩ := v i hi
  refine ⟨?_, h2⟩
  show am_up F a k o i = _
  rw [am_up_ne (by omega)]
  exact h1
theorem am_vg.dat {D' : am_D} (v : am_vg ((sh, F), D)) (hD : ∀ i, sh.length ≤ i → D'.1 i = D.1 i ∧ D'.2.1 i = D.2.1 i ∧ D'.2.2 i = D.2.2 i) : am_vg ((sh, F), D') := fun i hi => by
  have hi : sh.length ≤ i := hi
  obtain ⟨h1, h2, h3, h4⟩ := v i hi
  obtain ⟨d1, d2, d3⟩ := hD i hi
  exact ⟨h1, d1.trans h2, d2.trans h3, d3.trans h4⟩
theorem am_sh_app {L : List (Nat × Nat)} {a : Nat} (h : a < sh.length) : am_sh (sh ++ L) a = am_sh sh a := by
  induction sh generalizing a with
  | nil => exact absurd h (by simp)
  | cons x l ih =>
    cases a with
    | zero => rfl
    | succ a => exact ih (by rw [List.length_cons] at h; omega)
theorem am_sh_lt {a ci : Nat} (h : (am_sh sh a).1 = ci) (hc : ci < 999) : a < sh.length := by
  have := am_sh_get (sh := sh) (a := a) (by omega)
  exact (List.getElem?_eq_some_iff.mp this).1
theorem am_sh_ap {L : List (Nat × Nat)} {a ci : Nat} (h : (am_sh sh a).1 = ci) (hc : ci < 999) : (am_sh (sh ++ L) a).1 = ci := by
  rw [am_sh_app (am_sh_lt h hc)]
  exact h
theorem am_lt_ap {L : List (Nat × Nat)} {a : Nat} (h : a < sh.length) : a < (sh ++ L).length := by
  rw [List.length_append]
  omega
theorem am_ln_ap {L : List (Nat × Nat)} {n j : Nat} (hn : sh.length = n) (hj : L.length = j) : (sh ++ L).length = n + j := by
  rw [List.length_append, hn, hj]
theorem am_sh_at {L : List (Nat × Nat)} {q : Nat × Nat} {n j : Nat} (hn : sh.length = n) (hj : am_sh L j = q) : am_sh (sh ++ L) (n + j) = q := by
  subst hn
  induction sh with
  | nil => rw [List.nil_append, List.length_nil, Nat.zero_add]; exact hj
  | cons x l ih =>
    rw [List.length_cons, show l.length + 1 + j = (l.length + j) + 1 by omega]
    exact ih
variable {Φ : am_F} {M : am_Me} {cs cs' : Nat × Nat} {pc : Nat} {ls : am_LS} {st : List am_V}
theorem am_n_new {ci N index n : Nat} {C : String} {T : u_T} {ty : Nat → FieldType} {nx : Nat} (hc : am_cw ci C T N ty) (hcl : Cond.classLink M.1.cls index C ∈ am_tb) (hins : Cond.instantiable C N ∈ am_tb) (hini : Cond.initialized C ∈ am_tb) (hlen : (am_tm ci).length = N) (hdf : ∀ j, j < N → defaultValue (ty j) = am_df ((am_tm ci).getD j 0)) (v : am_vg ((sh, F), D)) (hl : sh.length = n) (he : sh ++ [(ci, 0)] = sh') (hcs : (cs.1 + 1, cs.2 + N) = cs') (hcells : cs'.1 ≤ Φ.2.2.1.cells) (hslots : cs'.2 ≤ Φ.2.2.1.slots) (hd : decode M.2.1 pc = .ok (.new index, 3)) (hn : pc + 3 = nx)
    (k : am_X Φ M cs' nx ls (am_r (some n) :: st) ((sh', F), D)) : am_X Φ M cs pc ls st ((sh, F), D) := by
  subst hcs
  subst hl
  rw [← v.z he] at k
  exact am_r_new hc hcl hins hini hlen hdf hcells hslots hd hn k
theorem am_n_I {x : Int} {N n : Nat} {nx : Nat} (harr : Cond.arrayClass .int ∈ am_tb) (hx : x = (N : Int)) (hN : N ≤ 100000) (v : am_vg ((sh, F), D)) (hl : sh.length = n) (he : sh ++ [(100, N)] = sh') (hcs : (cs.1 + 1, cs.2 + N) = cs') (hcells : cs'.1 ≤ Φ.2.2.1.cells) (hslots : cs'.2 ≤ Φ.2.2.1.slots) (hd : decode M.2.1 pc = .ok (.newarray .int, 2)) (hn : pc + 2 = nx)
    (k : am_X Φ M cs' nx ls (am_r (some n) :: st) ((sh', F), D)) : am_X Φ M cs pc ls (.inl x :: st) ((sh, F), D) := by
  subst hcs
  subst hl
  subst hx
  rw [← v.z he] at k
  exact am_r_newI harr (by omega) (by omega) hcells hslots hd hn k
theorem am_n_B {x : Int} {N n : Nat} {nx : Nat} (harr : Cond.arrayClass .byte ∈ am_tb) (hx : x = (N : Int)) (hN : N ≤ 100000) (v : am_vg ((sh, F), D)) (hl : sh.length = n) (he : sh ++ [(101, N)] = sh') (hcs : (cs.1 + 1, cs.2 + N) = cs') (hcells : cs'.1 ≤ Φ.2.2.1.cells) (hslots : cs'.2 ≤ Φ.2.2.1.slots) (hd : decode M.2.1 pc = .ok (.newarray .byte, 2)) (hn : pc + 2 = nx)
    (k : am_X Φ M cs' nx ls (am_r (some n) :: st) ((sh', F), D)) : am_X Φ M cs pc ls (.inl x :: st) ((sh, F), D) := by
  subst hcs
  subst hl
  subst hx
  rw [← v.z he] at k
  exact am_r_newB harr (by omega) (by omega) hcells hslots hd hn k
theorem am_n_Z {x : Int} {N n : Nat} {nx : Nat} (harr : Cond.arrayClass .boolean ∈ am_tb) (hx : x = (N : Int)) (hN : N ≤ 100000) (v : am_vg ((sh, F), D)) (hl : sh.length = n) (he : sh ++ [(102, N)] = sh') (hcs : (cs.1 + 1, cs.2 + N) = cs') (hcells : cs'.1 ≤ Φ.2.2.1.cells) (hslots : cs'.2 ≤ Φ.2.2.1.slots) (hd : decode M.2.1 pc = .ok (.newarray .boolean, 2)) (hn : pc + 2 = nx)
    (k : am_X Φ M cs' nx ls (am_r (some n) :: st) ((sh', F), D)) : am_X Φ M cs pc ls (.inl x :: st) ((sh, F), D) := by
  subst hcs
  subst hl
  subst hx
  rw [← v.z he] at k
  exact am_r_newZ harr (by omega) (by omega) hcells hslots hd hn k
theorem am_n_J {x : Int} {N n : Nat} {nx : Nat} (harr : Cond.arrayClass .long ∈ am_tb) (hx : x = (N : Int)) (hN : N ≤ 100000) (v : am_vg ((sh, F), D)) (hl : sh.length = n) (he : sh ++ [(103, N)] = sh') (hcs : (cs.1 + 1, cs.2 + N) = cs') (hcells : cs'.1 ≤ Φ.2.2.1.cells) (hslots : cs'.2 ≤ Φ.2.2.1.slots) (hd : decode M.2.1 pc = .ok (.newarray .long, 2)) (hn : pc + 2 = nx)
    (k : am_X Φ M cs' nx ls (am_r (some n) :: st) ((sh', F), D)) : am_X Φ M cs pc ls (.inl x :: st) ((sh, F), D) := by
  subst hcs
  subst hl
  subst hx
  rw [← v.z he] at k
  exact am_r_newJ harr (by omega) (by omega) hcells hslots hd hn k
theorem am_r_newQ2 {h : am_H} {n : Int} {nx index : Nat} (hcl : Cond.classLink M.1.cls index "TreeStream$Machine" ∈ am_tb) (hao : ∀ s, Φ.2.1 s → va_AO "TreeStream$Machine" s) (h0 : 0 ≤ n) (h1 : n ≤ 100000) (hcells : cs.1 + 1 ≤ Φ.2.2.1.cells) (hslots : cs.2 + n.toNat ≤ Φ.2.2.1.slots) (hd : decode M.2.1 pc = .ok (.anewarray index, 3)) (hn : pc + 3 = nx)
    (k : am_X Φ M (cs.1 + 1, cs.2 + n.toNat) nx ls (am_r (some h.1.1.length) :: st) (am_z h (104, n.toNat))) : am_X Φ M cs pc ls (.inl n :: st) h := by
  intro p e s m args below meth c C lsA H locs hl hw hS T hT X
  subst hT
  subst hn
  have hz := am_size X hw C.2.2.2.2.2.2.2.2.2.1 hS
  obtain ⟨hx, hb, hml, hr, hown, hts, hlo, hnm, hK, hbs, hE, hE2⟩ := id C
  have hcp := am_of_clamp h0 (show n ≤ 2147483647 by omega)
  suffices hW9 : W p Φ.1.1 e Φ.2.2.1 s m args below meth c T.heap locs cs.1 cs.2 (Φ.2.2.2 below args s) (F0 m pc lsA (.int (Int32.ofInt n) :: st.map (am_c Φ.1.2.1 Φ.1.2.2.1))) from hW9 T rfl X
  refine W.anew hx hb hown (hts _ hcl) ((hao s hE2).use) rfl hd rfl (fun q => by rw [show (0 : Int32) = Int32.ofInt 0 from rfl, am_of_lt (by omega) (by omega)] at q; omega) (by rw [hcp]; omega) hcells (by rw [hcp]; exact hslots) (fun cA kA comp f1 f2 f3 f4 => ?_)
  have ecA : cA = Φ.1.2.2.2.2 104 := Option.some.inj (f1.symm.trans (am_cA hK).2.2.2.2)
  subst ecA
  rw [hcp]
  generalize hH1 : T.heap.push ({ cls := Φ.1.2.2.2.2 104, slots := Array.replicate n.toNat .null, vm := .none } : Cell) = H1
  obtain ⟨w1, s1⟩ := am_newW (kd := 104) (N := n.toNat) (H1 := H1) X C hw hS (by rw [← hH1, Array.size_push]) (fun q hq => by rw [← hH1, Array.getElem?_push, if_neg (Nat.ne_of_lt hq)]) (by omega) (by
    have ez : am_ct Φ.1.2.1 (am_z h (104, n.toNat)).2 h.1.1.length 104 = .inr (.inr (.inr (.inr (fun _ => none)))) := by
      unfold am_ct
      rw [if_neg (by omega), if_pos rfl]
      show Sum.inr (Sum.inr (Sum.inr (Sum.inr fun j : Nat => (am_uz h.2.2.2 h.1.1.length none h.1.1.length j).map _))) = _
      rw [am_uz_eq]
      rfl
    rw [ez, ← hH1, Array.getElem?_push_size, vp_cell_q, ← arrV_new]
    rfl)
  rw [hz]
  exact k p e s m args below meth c C lsA H1 locs hl w1 s1
theorem am_n_Q {x : Int} {N n : Nat} {nx index : Nat} (hcl : Cond.classLink M.1.cls index "TreeStream$Machine" ∈ am_tb) (hao : ∀ s, Φ.2.1 s → va_AO "TreeStream$Machine" s) (hx : x = (N : Int)) (hN : N ≤ 100000) (v : am_vg ((sh, F), D)) (hl : sh.length = n) (he : sh ++ [(104, N)] = sh') (hcs : (cs.1 + 1, cs.2 + N) = cs') (hcells : cs'.1 ≤ Φ.2.2.1.cells) (hslots : cs'.2 ≤ Φ.2.2.1.slots) (hd : decode M.2.1 pc = .ok (.anewarray index, 3)) (hn : pc + 3 = nx)
    (k : am_X Φ M cs' nx ls (am_r (some n) :: st) ((sh', F), D)) : am_X Φ M cs pc ls (.inl x :: st) ((sh, F), D) := by
  subst hcs
  subst hl
  subst hx
  rw [← v.z he] at k
  exact am_r_newQ2 hcl hao (by omega) (by omega) hcells hslots hd hn k
theorem wd_int : Cond.arrayClass .int ∈ am_tb := am_mt 57 (by decide +kernel) (by decide +kernel)
theorem wd_byte : Cond.arrayClass .byte ∈ am_tb := am_mt 571 (by decide +kernel) (by decide +kernel)
theorem wd_bool : Cond.arrayClass .boolean ∈ am_tb := am_mt 252 (by decide +kernel) (by decide +kernel)
theorem wd_long : Cond.arrayClass .long ∈ am_tb := am_mt 154 (by decide +kernel) (by decide +kernel)
theorem wd_oin : Cond.instanceMethod Lib.objectInit ∈ am_tb := am_mt 25 (by decide +kernel) (by decide +kernel)
theorem wd_ocd : Cond.code Lib.objectInit ⟨#[0xb1]⟩ 1 none ∈ am_tb := am_mt 26 (by decide +kernel) (by decide +kernel)
/-- the entry of a method whose class has rows of natives, but not for it; any heap -/
theorem am_M.ofF {G : am_G} {d : Nat} {M : am_Me} {as : List am_V} {h : am_H} {ls : am_LS} {Q : Option am_V → am_H → Prop} (hp : plainFor M.1 = true) (hlen : (am_args as).length ≤ M.2.2.1) (hls : am_pad M.2.2.1 (am_args as) = ls) (k : am_X (am_Ph G d 0 0 h.1.1.length Q) M (0, 0) 0 ls [] h) : am_M G d 0 0 M as h Q := by
  unfold am_M Met
  refine MetFree.of_bodySF (code := M.2.1) (maxLocals := M.2.2.1) (ret := M.2.2.2) hp ?_ ?_
  · intro args s m h hn
    obtain ⟨meth, c, h1, h2, h3, h4, h5, h6, -, -⟩ := Cond.code_spec hn (atoms_spec (ws := Cond.code M.1 M.2.1 M.2.2.1 M.2.2.2 :: am_tb) h _ List.mem_cons_self)
    exact ⟨meth, c, h1, h2, h3, h4, h5, h6⟩
  · intro p e s m args below meth c s₁ B hml hv _
    have hh0 : s₁.heap = s.heap := by rw [B.state]; rfl
    have key : W p G.1 e (am_rm d 0 0) s m args below meth c s.heap [] 0 0 (MQ below (am_Qc G Q (h.1.1.length + 0)) args s 0 0 (fun q => G.2.1 ≤ q)) (entryFrame m args M.2.2.1) := by
      obtain ⟨rfl, hsz, hP, hK, hE⟩ := hv
      have hts := atoms_spec (ws := Cond.code M.1 M.2.1 M.2.2.1 M.2.2.2 :: am_tb) B.pre
      have hown : s.vm.findClass M.1.cls = some m.cls := findClass_of_methodNamed B.named
      have hin : meth.name = M.1.name := (name_of_methodNamed B.named B.method).1
      rw [lg_entry_eq]
      have hl := lv_entry (as.map (am_c G.2.1 G.2.2.1)) (n := M.2.2.1) (by rw [am_args_len]; exact hlen)
      subst hls
      refine k p e s m _ below meth c ⟨B.exec, B.bytes, hml, B.returns, hown, fun w hw => hts w (List.mem_cons_of_mem _ hw), B.notSynchronized, hin, hK, (show G.2.1 ≤ s.heap.size by omega), hE, hsz⟩ _ _ [] ⟨hl.1, hl.2.1, fun i v hi => ?_⟩ ⟨(show s.heap.size + 0 = G.2.1 + h.1.1.length by omega), hP⟩ va_S.rf
      have := am_at_args (b := G.2.1) (ad := G.2.2.1) (am_at_pad hi) 0
      rw [Nat.zero_add] at this
      exact hl.2.2 _ this
    obtain ⟨t, a1, o, b1, b2, b3⟩ := key s₁ hh0 (Stand.of_body B)
    exact ⟨t, o, a1, b1, b2, ⟨b3.1, b3.2⟩⟩
/-- Math.max, wherever -/
theorem g_max {G : am_G} (d : Nat) {h : am_H} {x y : Int} (hx : ab_r x) (hy : ab_r y) : am_M G (d + 1) 0 0 mJ9_max_7cf53 [am_i x, am_i y] h (fun v h' => v = some (am_i (max x y)) ∧ h' = h) := by
  refine am_M.ofF (by decide +kernel) (Nat.le_of_ble_eq_true rfl) rfl ?_
  refine am_r_iload_n (nx := 1) rfl rfl (show decode cJ9_max_7cf53 0 = .ok (.iload_n 0, 1) by decide +kernel) rfl ?_
  refine am_r_iload_n (nx := 2) rfl rfl (show decode cJ9_max_7cf53 1 = .ok (.iload_n 1, 1) by decide +kernel) rfl ?_
  have fin : ∀ z : Int, z = max x y → am_X (am_Ph G (d + 1) 0 0 h.1.1.length (fun v h' => v = some (am_i (max x y)) ∧ h' = h)) mJ9_max_7cf53 (0, 0) 10 [some (am_i x), some (am_i y)] [am_i z] h := fun z hz => am_r_iret rfl rfl (show decode cJ9_max_7cf53 10 = .ok (.ireturn, 1) by decide +kernel) ⟨by rw [hz], rfl⟩
  refine am_r_icmp_lt (tg := 9) (nx := 5) (show decode cJ9_max_7cf53 2 = .ok (.if_icmp .lt 7, 3) by decide +kernel) (by decide) rfl hx hy (fun z => ?_) (fun z => ?_)
  · refine am_r_iload_n (nx := 10) rfl rfl (show decode cJ9_max_7cf53 9 = .ok (.iload_n 1, 1) by decide +kernel) rfl ?_
    exact fin y (by omega)
  · refine am_r_iload_n (nx := 6) rfl rfl (show decode cJ9_max_7cf53 5 = .ok (.iload_n 0, 1) by decide +kernel) rfl ?_
    refine am_r_goto (tg := 10) (show decode cJ9_max_7cf53 6 = .ok (.goto 4, 3) by decide +kernel) (by decide) ?_
    exact fin x (by omega)
/-- Kinds.to, wherever -/
theorem g_kto {G : am_G} (d : Nat) {h : am_H} {c s : Int} (hc : 0 ≤ c ∧ c < 16) (hs : -100 ≤ s ∧ s ≤ 100) : am_M G (d + 1) 0 0 mX1_to [am_i c, am_i s] h (fun v h' => v = some (am_i (sk_tc c s)) ∧ h' = h) := by
  refine am_M.of (by decide) (Nat.le_of_ble_eq_true rfl) rfl ?_
  have fin : ∀ z : Int, z = sk_tc c s → am_X (am_Ph G (d + 1) 0 0 h.1.1.length (fun v h' => v = some (am_i (sk_tc c s)) ∧ h' = h)) mX1_to (0, 0) 20 [some (am_i c), some (am_i s)] [am_i z] h := fun z hz => am_r_iret rfl rfl (show decode cX1_to 20 = .ok (.ireturn, 1) by decide +kernel) ⟨by rw [hz], rfl⟩
  have nine : am_and (am_shr c (2 * s)) 3 = sk_tc c s → am_X (am_Ph G (d + 1) 0 0 h.1.1.length (fun v h' => v = some (am_i (sk_tc c s)) ∧ h' = h)) mX1_to (0, 0) 9 [some (am_i c), some (am_i s)] [] h := by
    intro e
    refine am_r_iload_n (nx := 10) rfl rfl (show decode cX1_to 9 = .ok (.iload_n 0, 1) by decide +kernel) rfl ?_
    refine am_r_iconst (nx := 11) (show decode cX1_to 10 = .ok (.iconst 2, 1) by decide +kernel) rfl ?_
    refine am_r_iload_n (nx := 12) rfl rfl (show decode cX1_to 11 = .ok (.iload_n 1, 1) by decide +kernel) rfl ?_
    refine am_r_imul (nx := 13) (show decode cX1_to 12 = .ok (.imul, 1) by decide +kernel) rfl ?_
    refine am_r_ishr (nx := 14) (show decode cX1_to 13 = .ok (.ishr, 1) by decide +kernel) rfl ?_
    refine am_r_iconst (nx := 15) (show decode cX1_to 14 = .ok (.iconst 3, 1) by decide +kernel) rfl ?_
    refine am_r_iand (nx := 16) (show decode cX1_to 15 = .ok (.iand, 1) by decide +kernel) rfl ?_
    refine am_r_goto (tg := 20) (show decode cX1_to 16 = .ok (.goto 4, 3) by decide +kernel) (by decide) ?_
    exact fin _ e
  refine am_r_iload_n (nx := 1) rfl rfl (show decode cX1_to 0 = .ok (.iload_n 1, 1) by decide +kernel) rfl ?_
  refine am_r_if_eq (tg := 9) (nx := 4) (show decode cX1_to 1 = .ok (.ifCond .eq 8, 3) by decide +kernel) (by decide) rfl (by omega) (fun z => ?_) (fun z => ?_)
  · refine nine ?_
    subst z
    unfold sk_tc
    rw [if_pos rfl, am_and_3, show am_shr c (2 * 0) = am_shr c ((0 : Nat) : Int) from rfl, am_shr_v 0 (by omega) (by omega)]
    show c / 1 % 4 = c % 4
    rw [Int.ediv_one]
  · refine am_r_iload_n (nx := 5) rfl rfl (show decode cX1_to 4 = .ok (.iload_n 1, 1) by decide +kernel) rfl ?_
    refine am_r_iconst (nx := 6) (show decode cX1_to 5 = .ok (.iconst 1, 1) by decide +kernel) rfl ?_
    refine am_r_icmp_ne (tg := 19) (nx := 9) (show decode cX1_to 6 = .ok (.if_icmp .ne 13, 3) by decide +kernel) (by decide) rfl (by omega) (by omega) (fun y => ?_) (fun y => ?_)
    · refine am_r_iconst (nx := 20) (show decode cX1_to 19 = .ok (.iconst 2, 1) by decide +kernel) rfl ?_
      refine fin 2 ?_
      unfold sk_tc
      rw [if_neg z, if_neg y]
    · refine nine ?_
      have y : s = 1 := by omega
      subst y
      unfold sk_tc
      rw [if_neg z, if_pos rfl, am_and_3, show am_shr c (2 * 1) = am_shr c ((2 : Nat) : Int) from rfl, am_shr_v 2 (by omega) (by omega)]
      rfl
end
