section
variable {Φ : am_F} {M : am_Me} {cs : Nat × Nat} {pc : Nat} {ls : am_LS} {st : List am_V} {h : am_H}
theorem am_r_last {a n : Nat} {i : Int} {x : Int64} {nx : Nat} (hs : am_sh h.1.1 a = (103, n)) (hN : n ≤ 2147483647) (h0 : 0 ≤ i) (h1 : i < n) (hd : decode M.2.1 pc = .ok (.lastore, 1)) (hn : pc + 1 = nx) (k : am_X Φ M cs nx ls st (h.1, h.2.1, am_up h.2.2.1 a i x, h.2.2.2)) : am_X Φ M cs pc ls (am_l x :: .inl i :: am_r (some a) :: st) h := by
  intro p e s m args below meth c C lsA H locs hl hw hS
  subst hn
  refine va_last C.1 C.2.1 C.2.2.2.2.2.2.2.2.1 hw.2 am_Dv hS a 3 (am_cell_al hs) rfl (am_of_in h0 h1 hN) hd (fun H1 locs1 p1 d1 s1 => k p e s m args below meth c C lsA H1 locs1 hl ⟨hw.1, ?_⟩ s1)
  rw [am_of_clamp h0 (by omega)] at p1
  have e9 : (am_ws Φ.1.2.1 Φ.1.2.2.2.2 h).set a (Φ.1.2.1 + a, .inl (Φ.1.2.2.2.2 103, n, .inr (.inl (vp_updL (fun j : Nat => h.2.2.1 a j) i.toNat x)))) = am_ws Φ.1.2.1 Φ.1.2.2.2.2 (h.1, h.2.1, am_up h.2.2.1 a i x, h.2.2.2) := am_wsset (d' := (h.2.1, am_up h.2.2.1 a i x, h.2.2.2)) hs (by omega) (by
    show Sum.inl (Φ.1.2.2.2.2 103, n, Sum.inr (Sum.inl fun j : Nat => am_up h.2.2.1 a i x a j)) = _
    have : (fun j : Nat => am_up h.2.2.1 a i x a j) = vp_updL (fun j : Nat => h.2.2.1 a j) i.toNat x := by
      funext j
      rw [am_up_eq]
      unfold am_u1 vp_updL
      by_cases hj : (j : Int) = i
      · rw [if_pos hj, if_pos (by omega)]
      · rw [if_neg hj, if_neg (by omega)]
    rw [this]) (fun _ _ => rfl) (fun i hi => am_up_ne hi) (fun _ _ => rfl)
  rw [e9] at p1
  exact p1
theorem am_r_aast {a n v : Nat} {i : Int} {nx : Nat} (hs : am_sh h.1.1 a = (104, n)) (hN : n ≤ 2147483647) (h0 : 0 ≤ i) (h1 : i < n) (hv : (am_sh h.1.1 v).1 = 2) (hd : decode M.2.1 pc = .ok (.aastore, 1)) (hn : pc + 1 = nx) (k : am_X Φ M cs nx ls st (h.1, h.2.1, h.2.2.1, am_up h.2.2.2 a i (some v))) : am_X Φ M cs pc ls (am_r (some v) :: .inl i :: am_r (some a) :: st) h := by
  intro p e s m args below meth c C lsA H locs hl hw hS
  subst hn
  refine va_astq C.1 C.2.1 C.2.2.2.2.2.2.2.2.1 hw.2 am_Dv hS a 4 v 2 (r := (RX2, TX2, 16)) (am_cell_aq hs) rfl (am_cell_o hv (by omega)) rfl (am_of_in h0 h1 hN) hd (fun H1 locs1 p1 d1 s1 => k p e s m args below meth c C lsA H1 locs1 hl ⟨hw.1, ?_⟩ s1)
  rw [am_of_clamp h0 (by omega)] at p1
  have e9 : (am_ws Φ.1.2.1 Φ.1.2.2.2.2 h).set a (Φ.1.2.1 + a, .inl (Φ.1.2.2.2.2 104, n, .inr (.inr (.inr (.inr (va_up (fun j : Nat => (h.2.2.2 a j).map (Φ.1.2.1 + ·)) i.toNat (some (Φ.1.2.1 + v)))))))) = am_ws Φ.1.2.1 Φ.1.2.2.2.2 (h.1, h.2.1, h.2.2.1, am_up h.2.2.2 a i (some v)) := am_wsset (d' := (h.2.1, h.2.2.1, am_up h.2.2.2 a i (some v))) hs (by omega) (by
    show Sum.inl (Φ.1.2.2.2.2 104, n, Sum.inr (Sum.inr (Sum.inr (Sum.inr fun j : Nat => (am_up h.2.2.2 a i (some v) a j).map (Φ.1.2.1 + ·))))) = _
    have : (fun j : Nat => (am_up h.2.2.2 a i (some v) a j).map (Φ.1.2.1 + ·)) = va_up (fun j : Nat => (h.2.2.2 a j).map (Φ.1.2.1 + ·)) i.toNat (some (Φ.1.2.1 + v)) := by
      funext j
      rw [am_up_eq]
      unfold am_u1 va_up
      by_cases hj : (j : Int) = i
      · rw [if_pos hj, if_pos (by omega)]
        rfl
      · rw [if_neg hj, if_neg (by omega)]
    rw [this]) (fun _ _ => rfl) (fun _ _ => rfl) (fun i hi => am_up_ne hi)
  rw [e9] at p1
  exact p1
theorem am_r_alen {a kd n : Nat} {nx : Nat} (hs : am_sh h.1.1 a = (kd, n)) (h1 : 100 ≤ kd) (h2 : kd ≤ 104) (hd : decode M.2.1 pc = .ok (.arraylength, 1)) (hn : pc + 1 = nx) (k : am_X Φ M cs nx ls (.inl (n : Int) :: st) h) : am_X Φ M cs pc ls (am_r (some a) :: st) h := by
  intro p e s m args below meth c C lsA H locs hl hw hS
  subst hn
  have kk := k p e s m args below meth c C lsA H locs hl hw hS
  have hc := am_cell_a (b := Φ.1.2.1) (cA := Φ.1.2.2.2.2) hs h1 (by omega)
  have hv : Int32.ofNat n = Int32.ofInt (n : Int) := Int32.ofInt_eq_ofNat.symm
  have hcase : kd = 100 ∨ kd = 101 ∨ kd = 102 ∨ kd = 103 ∨ kd = 104 := by omega
  rcases hcase with rfl | rfl | rfl | rfl | rfl
  · exact va_alen C.1 C.2.1 C.2.2.2.2.2.2.2.2.1 hw.2 a 0 hc (ty := .int) rfl hv hd kk
  · exact va_alen C.1 C.2.1 C.2.2.2.2.2.2.2.2.1 hw.2 a 1 hc (ty := .byte) rfl hv hd kk
  · exact va_alen C.1 C.2.1 C.2.2.2.2.2.2.2.2.1 hw.2 a 2 hc (ty := .boolean) rfl hv hd kk
  · exact va_alen C.1 C.2.1 C.2.2.2.2.2.2.2.2.1 hw.2 a 3 hc (ty := .long) rfl hv hd kk
  · exact va_alen C.1 C.2.1 C.2.2.2.2.2.2.2.2.1 hw.2 a 4 hc (ty := .object "TreeStream$Machine") rfl hv hd kk
-- contracts
def am_rm (d mc ms : Nat) : Room := { frames := d, cells := mc, slots := ms, locals := 40 * d }
def am_Pre (G : am_G) (as : List am_V) (h : am_H) : Array Value → State → Prop := va_Pc (as.map (am_c G.2.1 G.2.2.1)) (fun U => U.heap.size = G.2.1 + h.1.1.length ∧ va_P G.2.2.2.1 am_cl (am_ws G.2.1 G.2.2.2.2 h) U.heap ∧ va_K G.2.2.2.1 am_cl (am_tys G.2.2.2.2) U ∧ am_Ex G U)
def am_Qc (G : am_G) (Q : Option am_V → am_H → Prop) (n1 : Nat) : Array Value → State → Outcome → State → Prop := fun _ st oc t => (∃ (v : Option am_V) (h' : am_H), oc = .returned (v.map (am_c G.2.1 G.2.2.1)) ∧ Q v h' ∧ h'.1.1.length = n1 ∧ va_P G.2.2.2.1 am_cl (am_ws G.2.1 G.2.2.2.2 h') t.heap) ∧ va_F (fun q => G.2.1 ≤ q) st t
/-- M, called with these arguments in this heap, comes back with Q of its answer and the heap then -/
def am_M (G : am_G) (d mc ms : Nat) (M : am_Me) (as : List am_V) (h : am_H) (Q : Option am_V → am_H → Prop) : Prop := Met G.1 M.1 (Cond.code M.1 M.2.1 M.2.2.1 M.2.2.2 :: am_tb) (am_rm d mc ms) (am_Pre G as h) (am_Qc G Q (h.1.1.length + mc)) mc ms (fun q => G.2.1 ≤ q)
def am_Zm (G : am_G) (Q : Option am_V → am_H → Prop) (mc ms n0 : Nat) : am_Zt := fun below args s => MQ below (am_Qc G Q (n0 + mc)) args s mc ms (fun q => G.2.1 ≤ q)
def am_Ph (G : am_G) (d mc ms n0 : Nat) (Q : Option am_V → am_H → Prop) : am_F := (G, (fun s => s.heap.size = G.2.1 + n0), am_rm d mc ms, am_Zm G Q mc ms n0)
theorem am_at_pad {n : Nat} {ls : am_LS} {i : Nat} {v : am_V} (h : am_at (am_pad n ls) i = some v) : am_at ls i = some v := by
  induction n generalizing ls i with
  | zero => exact h
  | succ n ih =>
    cases ls with
    | nil =>
      cases i with
      | zero => cases h
      | succ i =>
        have := ih (ls := []) (i := i) h
        cases this
    | cons x l =>
      cases i with
      | zero => exact h
      | succ i => exact ih (ls := l) h
theorem am_at_args {b : Nat} {ad : Nat → Nat} {as : List am_V} {i : Nat} {v : am_V} (h : am_at (am_args as) i = some v) : ∀ o, (o + i, am_c b ad v) ∈ lv_args o (as.map (am_c b ad)) := by
  induction as generalizing i with
  | nil => cases h
  | cons x l ih =>
    intro o
    have hx := am_c_cat b ad x
    show _ ∈ (o, am_c b ad x) :: lv_args (if (am_c b ad x).category = 2 then o + 2 else o + 1) (l.map (am_c b ad))
    rw [hx]
    match x, h with
    | .inl x, h =>
      cases i with
      | zero => cases h; exact List.mem_cons_self
      | succ i =>
        have := ih (i := i) h (o + 1)
        rw [show o + (i + 1) = o + 1 + i by omega]
        exact List.mem_cons_of_mem _ this
    | .inr (.inr x), h =>
      cases i with
      | zero => cases h; exact List.mem_cons_self
      | succ i =>
        have := ih (i := i) h (o + 1)
        rw [show o + (i + 1) = o + 1 + i by omega]
        exact List.mem_cons_of_mem _ this
    | .inr (.inl x), h =>
      match i, h with
      | 0, h => cases h; exact List.mem_cons_self
      | 1, h => cases h
      | i + 2, h =>
        have := ih (i := i) h (o + 2)
        rw [show o + (i + 2) = o + 2 + i by omega]
        exact List.mem_cons_of_mem _ this
theorem am_args_len {b : Nat} {ad : Nat → Nat} {as : List am_V} : (lg_sl (as.map (am_c b ad))).length = (am_args as).length := by
  induction as with
  | nil => rfl
  | cons x l ih =>
    have hx := am_c_cat b ad x
    have e : (lg_sl ((x :: l).map (am_c b ad))) = (if (am_c b ad x).category = 2 then [.val (am_c b ad x), .second] else [.val (am_c b ad x)]) ++ lg_sl (l.map (am_c b ad)) := by
      simp [lg_sl]
    rw [e, hx, List.length_append, ih]
    match x with
    | .inl x => show 1 + _ = _ + 1; omega
    | .inr (.inr x) => show 1 + _ = _ + 1; omega
    | .inr (.inl x) => show 2 + _ = _ + 1 + 1; omega
theorem am_Ex.to {G : am_G} {s U : State} {H : Heap} {locs : List Loc} (hE : am_Ex G s) (hS : va_S (fun q => G.2.1 ≤ q) s.heap H locs) (hU : U.heap = H) (hW : s.WarmedH U.vm) : am_Ex G U := by
  obtain ⟨h1, h2, h3, h4, h5⟩ := hE
  rw [am_Ex, hU]
  refine ⟨(vk_S.moved hW.alike h1).kept hS.2.1, fun q hq => vk_R.warm hW (h2 q hq), (va_Z.moved hW.alike h3).kept hS.2.1, ?_, fun w hw => am_isN_warm (List.mem_filter.mp hw).2 hW (h5 w hw)⟩
  rcases h4 with h4 | h4
  · exact Or.inl ((va_Z.moved hW.alike h4).kept hS.2.1)
  · exact Or.inr ((va_Z.moved hW.alike h4).kept hS.2.1)
theorem am_Ex.same {G : am_G} {U V : State} (hE : am_Ex G U) (hh : V.heap = U.heap) (hv : V.vm = U.vm) : am_Ex G V := by
  obtain ⟨h1, h2, h3, h4, h5⟩ := hE
  have ha : U.vm.Alike V.vm := by rw [hv]; exact Vm.Alike.refl U.vm
  rw [am_Ex, hh]
  refine ⟨vk_S.moved ha h1, fun q hq => vk_R.same hv (h2 q hq), va_Z.moved ha h3, ?_, fun w hw => va_Nw.same (am_isN_on (List.mem_filter.mp hw).2) hv.symm (h5 w hw)⟩
  rcases h4 with h4 | h4
  · exact Or.inl (va_Z.moved ha h4)
  · exact Or.inr (va_Z.moved ha h4)
theorem am_blind {G : am_G} {as : List am_V} {h : am_H} : FrameBlind (am_Pre G as h) := by
  intro a U g mk q
  obtain ⟨q0, q1, q2, q3, q4⟩ := q
  exact ⟨q0, q1, q2, va_K.moved (u := U) (U := U.calling g mk a) (Vm.Alike.refl U.vm) q3, am_Ex.same (U := U) (V := U.calling g mk a) q4 rfl rfl⟩
theorem am_M.of {G : am_G} {d mc ms : Nat} {M : am_Me} {as : List am_V} {h : am_H} {Q : Option am_V → am_H → Prop} {ls : am_LS} (hp : plainName M.1.cls = true) (hlen : (am_args as).length ≤ M.2.2.1) (hls : am_pad M.2.2.1 (am_args as) = ls) (k : am_X (am_Ph G d mc ms h.1.1.length Q) M (0, 0) 0 ls [] h) : am_M G d mc ms M as h Q := by
  refine Met.ofW (cc := M.2.1) (maxL := M.2.2.1) (ret := M.2.2.2) hp rfl ?_
  intro p e s m args below meth c s₁ B hml hv
  obtain ⟨rfl, hsz, hP, hK, hE⟩ := hv
  have hts := atoms_spec (ws := Cond.code M.1 M.2.1 M.2.2.1 M.2.2.2 :: am_tb) B.pre
  have hown : s.vm.findClass M.1.cls = some m.cls := findClass_of_methodNamed B.named
  have hin : meth.name = M.1.name := (name_of_methodNamed B.named B.method).1
  rw [lg_entry_eq]
  have hl := lv_entry (as.map (am_c G.2.1 G.2.2.1)) (n := M.2.2.1) (by rw [am_args_len]; exact hlen)
  subst hls
  refine k p e s m _ below meth c ⟨B.exec, B.bytes, hml, B.returns, hown, fun w hw => hts w (List.mem_cons_of_mem _ hw), B.notSynchronized, hin, hK, (show G.2.1 ≤ s.heap.size by omega), hE, hsz⟩ _ _ [] ⟨hl.1, hl.2.1, fun i v hi => ?_⟩ ⟨(show s.heap.size + 0 = G.2.1 + h.1.1.length by omega), hP⟩ va_S.rf
  have := am_at_args (b := G.2.1) (ad := G.2.2.1) (am_at_pad hi) 0
  rw [Nat.zero_add] at this
  exact hl.2.2 _ this
/-- how large the heap is -/
theorem am_size {p : Program} {l : Launch} {e : Env} {R : Room} {s : State} {m : MethodId} {args : Array Value} {below : List Frame} {meth : Method} {c : Code} {T : State} {locs : List Loc} {G : am_G} {cs : Nat × Nat} {h : am_H} {slots : Nat} (X : Stand p l e R s m args below meth c T locs cs.1 slots) (hw : am_Wd G cs s h T.heap) (hb : G.2.1 ≤ s.heap.size) (hS : va_S (fun q => G.2.1 ≤ q) s.heap T.heap locs) : T.heap.size = G.2.1 + h.1.1.length := by
  have h1 : T.heap.size ≤ s.heap.size + cs.1 := X.same.2.2.1
  have h2 := hw.1
  have h3 := hS.1
  by_cases hz : h.1.1.length = 0
  · omega
  · have hlt : h.1.1.length - 1 < (am_ws G.2.1 G.2.2.2.2 h).length := by rw [am_ws_len]; omega
    have hg : (am_ws G.2.1 G.2.2.2.2 h)[h.1.1.length - 1]? = some ((am_ws G.2.1 G.2.2.2.2 h)[h.1.1.length - 1]) := List.getElem?_eq_getElem hlt
    have hq := (hw.2 _ _ hg).lt
    have hg2 := hg
    rw [am_ws_get] at hg2
    obtain ⟨q, hq1, hq2⟩ := Option.map_eq_some_iff.mp hg2
    rw [← hq2] at hq
    have hq : G.2.1 + (h.1.1.length - 1) < T.heap.size := hq
    omega
theorem am_retQ {G : am_G} {n1 : Nat} {Q : Option am_V → am_H → Prop} {v : Option am_V} {s t : State} {H : Heap} {locs : List Loc} {args : Array Value} {h : am_H} (hq : Q v h) (hn : h.1.1.length = n1) (hP : va_P G.2.2.2.1 am_cl (am_ws G.2.1 G.2.2.2.2 h) H) (hS : va_S (fun q => G.2.1 ≤ q) s.heap H locs) (ht : t.heap = H) : am_Qc G Q n1 args s (.returned (v.map (am_c G.2.1 G.2.2.1))) t :=
  ⟨⟨v, h, rfl, hq, hn, by rw [ht]; exact hP⟩, hS.F ht⟩
variable {G : am_G} {d mc ms n0 : Nat} {Q : Option am_V → am_H → Prop}
theorem am_r_iret {x : Int} {ty : FieldType} (hr : M.2.2.2 = some ty) (hna : narrow ty (.int (Int32.ofInt x)) = .int (Int32.ofInt x)) (hd : decode M.2.1 pc = .ok (.ireturn, 1)) (hq : Q (some (.inl x)) h) : am_X (am_Ph G d mc ms n0 Q) M (mc, ms) pc ls [.inl x] h := by
  intro p e s m args below meth c C lsA H locs hl hw hS
  exact W.zret (v := Int32.ofInt x) C.1 C.2.1 (by rw [C.2.2.2.1, hr]) hna (fun t ht _ => am_retQ (v := some (.inl x)) hq (by have h1 : s.heap.size = G.2.1 + n0 := C.2.2.2.2.2.2.2.2.2.2.2; have h2 : s.heap.size + mc = G.2.1 + h.1.1.length := hw.1; omega) hw.2 hS ht) hS.2.2 hd C.2.2.2.2.2.2.1
theorem am_r_lret {x : Int64} (hr : M.2.2.2 = some .long) (hd : decode M.2.1 pc = .ok (.lreturn, 1)) (hq : Q (some (am_l x)) h) : am_X (am_Ph G d mc ms n0 Q) M (mc, ms) pc ls [am_l x] h := by
  intro p e s m args below meth c C lsA H locs hl hw hS
  exact W.lret (v := x) C.1 C.2.1 (by rw [C.2.2.2.1, hr]) (fun t ht _ => am_retQ (v := some (am_l x)) hq (by have h1 : s.heap.size = G.2.1 + n0 := C.2.2.2.2.2.2.2.2.2.2.2; have h2 : s.heap.size + mc = G.2.1 + h.1.1.length := hw.1; omega) hw.2 hS ht) hS.2.2 hd C.2.2.2.2.2.2.1
theorem am_r_aret {o : Option Nat} {C2 : String} (hr : M.2.2.2 = some (.object C2)) (hd : decode M.2.1 pc = .ok (.areturn, 1)) (hq : Q (some (am_r o)) h) : am_X (am_Ph G d mc ms n0 Q) M (mc, ms) pc ls [am_r o] h := by
  intro p e s m args below meth c C lsA H locs hl hw hS
  exact W.aret (v := am_c G.2.1 G.2.2.1 (am_r o)) C.1 C.2.1 (by rw [C.2.2.2.1, hr]) (Or.inl ⟨_, rfl⟩) (by cases o with | none => exact Or.inl rfl | some a => exact Or.inr ⟨_, rfl⟩) (fun t ht _ => am_retQ (v := some (am_r o)) hq (by have h1 : s.heap.size = G.2.1 + n0 := C.2.2.2.2.2.2.2.2.2.2.2; have h2 : s.heap.size + mc = G.2.1 + h.1.1.length := hw.1; omega) hw.2 hS ht) hS.2.2 hd C.2.2.2.2.2.2.1
theorem am_r_vret (hr : M.2.2.2 = none) (hd : decode M.2.1 pc = .ok (.return_, 1)) (hq : Q none h) : am_X (am_Ph G d mc ms n0 Q) M (mc, ms) pc ls [] h := by
  intro p e s m args below meth c C lsA H locs hl hw hS
  exact W.vret C.1 C.2.1 (by rw [C.2.2.2.1, hr]) (fun t ht _ => am_retQ (v := none) hq (by have h1 : s.heap.size = G.2.1 + n0 := C.2.2.2.2.2.2.2.2.2.2.2; have h2 : s.heap.size + mc = G.2.1 + h.1.1.length := hw.1; omega) hw.2 hS ht) hS.2.2 hd C.2.2.2.2.2.2.1
-- calls
/-- what is known of a method that is called -/
def am_mB (My : am_Me) (n : Nat) : Prop := Cond.code My.1 My.2.1 My.2.2.1 My.2.2.2 ∈ am_tb ∧ Cond.initialized My.1.cls ∈ am_tb ∧ (My.1.cls ≠ "java/lang/invoke/MethodHandle" ∧ My.1.cls ≠ "java/lang/invoke/VarHandle" ∧ (parseMethodDescriptor My.1.desc).map (fun d => d.parameters.length) = some n) ∧ My.2.2.1 ≤ 21
def am_ml (M : am_Me) (index : Nat) (My : am_Me) : Prop := Cond.methodLink M.1.cls index My.1 ∈ am_tb ∨ ∃ host, Cond.methodLinkNest M.1.cls index My.1 host ∈ am_nst
/-- a call's run, whatever its kind, goes on -/
theorem am_goOn {p : Program} {e : Env} {s : State} {m : MethodId} {args : Array Value} {below : List Frame} {meth : Method} {c : Code} {lsA : Array Slot} {H : Heap} {locs : List Loc} {Q' : Option am_V → am_H → Prop} {a : Array Value} {st0 : List Value} {T : State} (C : am_Cx Φ.1 M Φ.2.1 p s m args meth c) (hl : am_Lc Φ.1.2.1 Φ.1.2.2.1 lsA M.2.2.1 ls) (hw : am_Wd Φ.1 cs s h H) (hS : va_S (fun q => Φ.1.2.1 ≤ q) s.heap H locs) (hT : T.heap = H) (X : Stand p Φ.1.1 e Φ.2.2.1 s m args below meth c T locs cs.1 cs.2)
    (hr : va_Run p Φ.1.1 e Φ.2.2.1 s m args below meth c H locs cs.1 cs.2 mc ms (F0 m pc lsA st0) (st.map (am_c Φ.1.2.1 Φ.1.2.2.1)) (am_Qc Φ.1 Q' (h.1.1.length + mc) a) (fun q => Φ.1.2.1 ≤ q))
    (k : ∀ v h', Q' v h' → h'.1.1.length = h.1.1.length + mc → am_X Φ M (cs.1 + mc, cs.2 + ms) (pc + 3) ls (v.toList ++ st) h') : ∃ t, Steps p.tables e below (T.setTop (F0 m pc lsA st0)) t ∧ (Φ.2.2.2 below args s) t := by
  obtain ⟨v, st₀, t, T', L, h0, X', hL, e1, e2, ⟨⟨v', h', hv, hq, hn, hp⟩, hz, hk⟩, stp⟩ := hr T hT X
  cases hv
  rw [h0] at hz hk
  have hS' : va_S (fun q => Φ.1.2.1 ≤ q) s.heap T'.heap (locs ++ L) := ⟨Nat.le_trans hS.1 (by rw [e1]; exact hz), fun q h1 h2 => by rw [e1, hk q (Nat.lt_of_lt_of_le h1 hS.1) h2]; exact hS.2.1 q h1 h2, fun q hq => by
      rcases List.mem_append.mp hq with h | h
      · exact hS.2.2 q h
      · exact hL q h⟩
  obtain ⟨t2, a1, b1⟩ := k v' h' hq hn p e s m args below meth c C lsA T'.heap (locs ++ L) hl ⟨by show s.heap.size + (cs.1 + mc) = _; have := hw.1; omega, by rw [e1]; exact hp⟩ hS' T' rfl X'
  refine ⟨t2, stp t2 ?_, b1⟩
  have es : ((v'.toList ++ st).map (am_c Φ.1.2.1 Φ.1.2.2.1)) = (v'.map (am_c Φ.1.2.1 Φ.1.2.2.1)).toList ++ st.map (am_c Φ.1.2.1 Φ.1.2.2.1) := by cases v' <;> rfl
  rw [es] at a1
  exact a1
theorem am_preU {s : State} {H : Heap} {locs : List Loc} {T : State} {p : Program} {e : Env} {m : MethodId} {args : Array Value} {below : List Frame} {meth : Method} {c : Code} {as : List am_V} (C : am_Cx Φ.1 M Φ.2.1 p s m args meth c) (hw : am_Wd Φ.1 cs s h H) (hS : va_S (fun q => Φ.1.2.1 ≤ q) s.heap H locs) (hT : T.heap = H) (X : Stand p Φ.1.1 e Φ.2.2.1 s m args below meth c T locs cs.1 cs.2) : ∀ U : State, U.heap = H → s.WarmedH U.vm → am_Pre Φ.1 as h (as.map (am_c Φ.1.2.1 Φ.1.2.2.1)).toArray U := by
  subst hT
  have hz := am_size X hw C.2.2.2.2.2.2.2.2.2.1 hS
  intro U hU hW
  exact ⟨rfl, by rw [hU]; exact hz, by rw [hU]; exact hw.2, va_K.moved hW.alike C.2.2.2.2.2.2.2.2.1, C.2.2.2.2.2.2.2.2.2.2.1.to hS hU hW⟩
theorem am_catsum {b : Nat} {ad : Nat → Nat} {st : List am_V} (h : (st.map am_cat).sum ≤ 8) : ((st.map (am_c b ad)).map fun v => v.category).sum ≤ 8 := by
  rw [List.map_map, show ((fun v : Value => v.category) ∘ am_c b ad) = am_cat from funext (am_c_cat b ad)]
  exact h
theorem am_r_callV {My : am_Me} {a ci index n : Nat} {as : List am_V} {r : vw_C} {st0 : List am_V} {Q' : Option am_V → am_H → Prop} (hM : am_M Φ.1 d mc ms My (am_r (some a) :: as) h Q') (hB : am_mB My n) (hV : Cond.instanceMethod My.1 ∈ am_tb ∧ Cond.selects My.1.cls My.1 My.1 ∈ am_tb) (hlk : am_ml M index My) (hs : (am_sh h.1.1 a).1 = ci) (hci : ci < 100) (hcl : am_cl[ci]? = some r) (hrc : r.1 = My.1.cls) (hst : st0 = as.reverse ++ am_r (some a) :: st) (hn : as.length = n) (hsum : (st.map am_cat).sum ≤ 8) (hR : d + 1 ≤ Φ.2.2.1.frames ∧ 40 * d + 40 ≤ Φ.2.2.1.locals) (hf : cs.1 + mc ≤ Φ.2.2.1.cells ∧ cs.2 + ms ≤ Φ.2.2.1.slots) (hd : decode M.2.1 pc = .ok (.invokevirtual index, 3))
    (k : ∀ v h', Q' v h' → h'.1.1.length = h.1.1.length + mc → am_X Φ M (cs.1 + mc, cs.2 + ms) (pc + 3) ls (v.toList ++ st) h') : am_X Φ M cs pc ls st0 h := by
  intro p e s m args below meth c C lsA H locs hl hw hS T hT X
  subst hst
  have hU := am_preU (as := am_r (some a) :: as) C hw hS hT X
  obtain ⟨hx, hb, hml, hr, hown, hts, hlo, hnm, hK, hbs, hE, hE2⟩ := id C
  obtain ⟨h1, h2, h3, h4⟩ := hB
  obtain ⟨cell, g1, g2, g3⟩ := va_recv hK hw.2 hcl (am_cell_o (b := Φ.1.2.1) (cA := Φ.1.2.2.2.2) hs hci)
  rw [hrc] at g3
  have hsg : ((as.reverse ++ am_r (some a) :: st).map (am_c Φ.1.2.1 Φ.1.2.2.1)) = (as.map (am_c Φ.1.2.1 Φ.1.2.2.1)).reverse ++ .ref (Φ.1.2.1 + a) :: st.map (am_c Φ.1.2.1 Φ.1.2.2.1) := by simp [List.map_append, List.map_reverse, am_c, va_rf]
  rw [hsg]
  rcases hlk with hlk | ⟨host, hlk⟩
  · have hr := va_runV (R := Φ.2.2.1) (H := H) (locs := locs) (cells := cs.1) (slots := cs.2) (below := below) (e := e) (meth := meth) (g := F0 m pc lsA ((as.map (am_c Φ.1.2.1 Φ.1.2.2.1)).reverse ++ .ref (Φ.1.2.1 + a) :: st.map (am_c Φ.1.2.1 Φ.1.2.2.1))) ⟨hx, hb, hml, hown, hts⟩ hM ⟨callB_of (own := M.1.cls) (index := index) (mc := mc) (ms := ms) (rm := am_rm d mc ms) n hts (am_goodIn h1) rfl rfl rfl (hts _ h2) (hts _ hlk) h3 ⟨hR.1, by show 8 + (My.2.2.1 + 11) + 40 * d ≤ _; omega⟩, hts _ hV.1, hts _ hV.2⟩ ⟨am_blind, ⟨cell, g1, g2, g3⟩, hU⟩ rfl (by rw [List.length_map]; exact hn) hl.1 rfl (lv_room (m := m) (pc := pc) (ls := lsA) (rest := []) (am_catsum hsum)) hd hf
    exact am_goOn C hl hw hS hT X hr k
  · have hr := va_runVN (C := My.1.cls) (R := Φ.2.2.1) (H := H) (locs := locs) (cells := cs.1) (slots := cs.2) (below := below) (e := e) (meth := meth) (g := F0 m pc lsA ((as.map (am_c Φ.1.2.1 Φ.1.2.2.1)).reverse ++ .ref (Φ.1.2.1 + a) :: st.map (am_c Φ.1.2.1 Φ.1.2.2.1))) ⟨hx, hb, hml, hown, hts⟩ hM ⟨va_cnB (own := M.1.cls) (index := index) (mc := mc) (ms := ms) (rm := am_rm d mc ms) n hts (am_goodIn h1) rfl rfl rfl (hE.2.2.2.2 _ hlk) (hts _ h2) h3 ⟨hR.1, by show 8 + (My.2.2.1 + 11) + 40 * d ≤ _; omega⟩, hts _ hV.1, hts _ hV.2⟩ ⟨am_blind, ⟨cell, g1, g2, g3⟩, hU⟩ rfl (by rw [List.length_map]; exact hn) hl.1 rfl (lv_room (m := m) (pc := pc) (ls := lsA) (rest := []) (am_catsum hsum)) hd hf
    exact am_goOn C hl hw hS hT X hr k
theorem am_r_callS {My : am_Me} {index n : Nat} {as : List am_V} {st0 : List am_V} {Q' : Option am_V → am_H → Prop} (hM : am_M Φ.1 d mc ms My as h Q') (hB : am_mB My n) (hV : Cond.static My.1 ∈ am_tb) (hlk : am_ml M index My) (hst : st0 = as.reverse ++ st) (hn : as.length = n) (hsum : (st.map am_cat).sum ≤ 8) (hR : d + 1 ≤ Φ.2.2.1.frames ∧ 40 * d + 40 ≤ Φ.2.2.1.locals) (hf : cs.1 + mc ≤ Φ.2.2.1.cells ∧ cs.2 + ms ≤ Φ.2.2.1.slots) (hd : decode M.2.1 pc = .ok (.invokestatic index, 3))
    (k : ∀ v h', Q' v h' → h'.1.1.length = h.1.1.length + mc → am_X Φ M (cs.1 + mc, cs.2 + ms) (pc + 3) ls (v.toList ++ st) h') : am_X Φ M cs pc ls st0 h := by
  intro p e s m args below meth c C lsA H locs hl hw hS T hT X
  subst hst
  have hU := am_preU (as := as) C hw hS hT X
  obtain ⟨hx, hb, hml, hr, hown, hts, hlo, hnm, hK, hbs, hE, hE2⟩ := id C
  obtain ⟨h1, h2, h3, h4⟩ := hB
  have hsg : ((as.reverse ++ st).map (am_c Φ.1.2.1 Φ.1.2.2.1)) = (as.map (am_c Φ.1.2.1 Φ.1.2.2.1)).reverse ++ st.map (am_c Φ.1.2.1 Φ.1.2.2.1) := by simp [List.map_append, List.map_reverse]
  rw [hsg]
  rcases hlk with hlk | ⟨host, hlk⟩
  · have hr := va_runS (R := Φ.2.2.1) (H := H) (locs := locs) (cells := cs.1) (slots := cs.2) (below := below) (e := e) (meth := meth) (g := F0 m pc lsA ((as.map (am_c Φ.1.2.1 Φ.1.2.2.1)).reverse ++ st.map (am_c Φ.1.2.1 Φ.1.2.2.1))) ⟨hx, hb, hml, hown, hts⟩ hM ⟨callB_of (own := M.1.cls) (index := index) (mc := mc) (ms := ms) (rm := am_rm d mc ms) n hts (am_goodIn h1) rfl rfl rfl (hts _ h2) (hts _ hlk) h3 ⟨hR.1, by show 8 + (My.2.2.1 + 11) + 40 * d ≤ _; omega⟩, hts _ hV⟩ ⟨am_blind, hU⟩ rfl (by rw [List.length_map]; exact hn) hl.1 rfl (lv_room (m := m) (pc := pc) (ls := lsA) (rest := []) (am_catsum hsum)) hd hf
    exact am_goOn C hl hw hS hT X hr k
  · have hr := va_runSN (R := Φ.2.2.1) (H := H) (locs := locs) (cells := cs.1) (slots := cs.2) (below := below) (e := e) (meth := meth) (g := F0 m pc lsA ((as.map (am_c Φ.1.2.1 Φ.1.2.2.1)).reverse ++ st.map (am_c Φ.1.2.1 Φ.1.2.2.1))) ⟨hx, hb, hml, hown, hts⟩ hM ⟨va_cnB (own := M.1.cls) (index := index) (mc := mc) (ms := ms) (rm := am_rm d mc ms) n hts (am_goodIn h1) rfl rfl rfl (hE.2.2.2.2 _ hlk) (hts _ h2) h3 ⟨hR.1, by show 8 + (My.2.2.1 + 11) + 40 * d ≤ _; omega⟩, hts _ hV, trivial⟩ ⟨am_blind, hU⟩ rfl (by rw [List.length_map]; exact hn) hl.1 rfl (lv_room (m := m) (pc := pc) (ls := lsA) (rest := []) (am_catsum hsum)) hd hf
    exact am_goOn C hl hw hS hT X hr k
theorem am_r_callI {My : am_Me} {a index n : Nat} {as : List am_V} {st0 : List am_V} {Q' : Option am_V → am_H → Prop} (hM : am_M Φ.1 d mc ms My (am_r (some a) :: as) h Q') (hB : am_mB My n) (hV : My.1.name = "<init>" ∧ Cond.instanceMethod My.1 ∈ am_tb ∧ My.2.2.2 = none) (hlk : am_ml M index My) (hst : st0 = as.reverse ++ am_r (some a) :: st) (hn : as.length = n) (hsum : (st.map am_cat).sum ≤ 8) (hR : d + 1 ≤ Φ.2.2.1.frames ∧ 40 * d + 40 ≤ Φ.2.2.1.locals) (hf : cs.1 + mc ≤ Φ.2.2.1.cells ∧ cs.2 + ms ≤ Φ.2.2.1.slots) (hd : decode M.2.1 pc = .ok (.invokespecial index, 3))
    (k : ∀ v h', Q' v h' → h'.1.1.length = h.1.1.length + mc → am_X Φ M (cs.1 + mc, cs.2 + ms) (pc + 3) ls (v.toList ++ st) h') : am_X Φ M cs pc ls st0 h := by
  intro p e s m args below meth c C lsA H locs hl hw hS T hT X
  subst hst
  have hU := am_preU (as := am_r (some a) :: as) C hw hS hT X
  obtain ⟨hx, hb, hml, hr, hown, hts, hlo, hnm, hK, hbs, hE, hE2⟩ := id C
  obtain ⟨h1, h2, h3, h4⟩ := hB
  obtain ⟨hi1, hi2, hi3⟩ := hV
  rw [hi3] at h1
  rw [am_M, hi3] at hM
  have hsg : ((as.reverse ++ am_r (some a) :: st).map (am_c Φ.1.2.1 Φ.1.2.2.1)) = (as.map (am_c Φ.1.2.1 Φ.1.2.2.1)).reverse ++ .ref (Φ.1.2.1 + a) :: st.map (am_c Φ.1.2.1 Φ.1.2.2.1) := by simp [List.map_append, List.map_reverse, am_c, va_rf]
  rw [hsg]
  rcases hlk with hlk | ⟨host, hlk⟩
  · have hr := va_runI (R := Φ.2.2.1) (H := H) (locs := locs) (cells := cs.1) (slots := cs.2) (below := below) (e := e) (meth := meth) (g := F0 m pc lsA ((as.map (am_c Φ.1.2.1 Φ.1.2.2.1)).reverse ++ .ref (Φ.1.2.1 + a) :: st.map (am_c Φ.1.2.1 Φ.1.2.2.1))) ⟨hx, hb, hml, hown, hts⟩ hM ⟨callB_of (own := M.1.cls) (index := index) (mc := mc) (ms := ms) (rm := am_rm d mc ms) n hts (am_goodIn h1) rfl rfl rfl (hts _ h2) (hts _ hlk) h3 ⟨hR.1, by show 8 + (My.2.2.1 + 11) + 40 * d ≤ _; omega⟩, hi1, hts _ hi2⟩ ⟨am_blind, hU⟩ rfl (by rw [List.length_map]; exact hn) hl.1 rfl (lv_room (m := m) (pc := pc) (ls := lsA) (rest := []) (am_catsum hsum)) hd hf
    exact am_goOn C hl hw hS hT X hr k
  · have hr := va_runIN (R := Φ.2.2.1) (H := H) (locs := locs) (cells := cs.1) (slots := cs.2) (below := below) (e := e) (meth := meth) (g := F0 m pc lsA ((as.map (am_c Φ.1.2.1 Φ.1.2.2.1)).reverse ++ .ref (Φ.1.2.1 + a) :: st.map (am_c Φ.1.2.1 Φ.1.2.2.1))) ⟨hx, hb, hml, hown, hts⟩ hM ⟨va_cnB (own := M.1.cls) (index := index) (mc := mc) (ms := ms) (rm := am_rm d mc ms) n hts (am_goodIn h1) rfl rfl rfl (hE.2.2.2.2 _ hlk) (hts _ h2) h3 ⟨hR.1, by show 8 + (My.2.2.1 + 11) + 40 * d ≤ _; omega⟩, hi1, hts _ hi2⟩ ⟨am_blind, hU⟩ rfl (by rw [List.length_map]; exact hn) hl.1 rfl (lv_room (m := m) (pc := pc) (ls := lsA) (rest := []) (am_catsum hsum)) hd hf
    exact am_goOn C hl hw hS hT X hr k
/-- a call on a String constant -/
theorem am_r_callT {My : am_Me} {i index n : Nat} {as : List am_V} {st0 : List am_V} {Q' : Option am_V → am_H → Prop} (hM : am_M Φ.1 d mc ms My (am_s i :: as) h Q') (hB : am_mB My n) (hV : Cond.instanceMethod My.1 ∈ am_tb ∧ Cond.selects My.1.cls My.1 My.1 ∈ am_tb) (hlk : am_ml M index My) (hi : i < 9) (hrc : My.1.cls = "java/lang/String") (hst : st0 = as.reverse ++ am_s i :: st) (hn : as.length = n) (hsum : (st.map am_cat).sum ≤ 8) (hR : d + 1 ≤ Φ.2.2.1.frames ∧ 40 * d + 40 ≤ Φ.2.2.1.locals) (hf : cs.1 + mc ≤ Φ.2.2.1.cells ∧ cs.2 + ms ≤ Φ.2.2.1.slots) (hd : decode M.2.1 pc = .ok (.invokevirtual index, 3))
    (k : ∀ v h', Q' v h' → h'.1.1.length = h.1.1.length + mc → am_X Φ M (cs.1 + mc, cs.2 + ms) (pc + 3) ls (v.toList ++ st) h') : am_X Φ M cs pc ls st0 h := by
  intro p e s m args below meth c C lsA H locs hl hw hS T hT X
  subst hst
  have hU := am_preU (as := am_s i :: as) C hw hS hT X
  obtain ⟨hx, hb, hml, hr, hown, hts, hlo, hnm, hK, hbs, hE, hE2⟩ := id C
  obtain ⟨h1, h2, h3, h4⟩ := hB
  obtain ⟨cell, g1, g2, g3⟩ := vk_recv hE.1 hi hS
  rw [← hrc] at g3
  have hsg : ((as.reverse ++ am_s i :: st).map (am_c Φ.1.2.1 Φ.1.2.2.1)) = (as.map (am_c Φ.1.2.1 Φ.1.2.2.1)).reverse ++ .ref (Φ.1.2.2.1 i) :: st.map (am_c Φ.1.2.1 Φ.1.2.2.1) := by simp [List.map_append, List.map_reverse, am_c]
  rw [hsg]
  rcases hlk with hlk | ⟨host, hlk⟩
  · have hr := va_runV (R := Φ.2.2.1) (H := H) (locs := locs) (cells := cs.1) (slots := cs.2) (below := below) (e := e) (meth := meth) (g := F0 m pc lsA ((as.map (am_c Φ.1.2.1 Φ.1.2.2.1)).reverse ++ .ref (Φ.1.2.2.1 i) :: st.map (am_c Φ.1.2.1 Φ.1.2.2.1))) ⟨hx, hb, hml, hown, hts⟩ hM ⟨callB_of (own := M.1.cls) (index := index) (mc := mc) (ms := ms) (rm := am_rm d mc ms) n hts (am_goodIn h1) rfl rfl rfl (hts _ h2) (hts _ hlk) h3 ⟨hR.1, by show 8 + (My.2.2.1 + 11) + 40 * d ≤ _; omega⟩, hts _ hV.1, hts _ hV.2⟩ ⟨am_blind, ⟨cell, g1, g2, g3⟩, hU⟩ rfl (by rw [List.length_map]; exact hn) hl.1 rfl (lv_room (m := m) (pc := pc) (ls := lsA) (rest := []) (am_catsum hsum)) hd hf
    exact am_goOn C hl hw hS hT X hr k
  · have hr := va_runVN (C := My.1.cls) (R := Φ.2.2.1) (H := H) (locs := locs) (cells := cs.1) (slots := cs.2) (below := below) (e := e) (meth := meth) (g := F0 m pc lsA ((as.map (am_c Φ.1.2.1 Φ.1.2.2.1)).reverse ++ .ref (Φ.1.2.2.1 i) :: st.map (am_c Φ.1.2.1 Φ.1.2.2.1))) ⟨hx, hb, hml, hown, hts⟩ hM ⟨va_cnB (own := M.1.cls) (index := index) (mc := mc) (ms := ms) (rm := am_rm d mc ms) n hts (am_goodIn h1) rfl rfl rfl (hE.2.2.2.2 _ hlk) (hts _ h2) h3 ⟨hR.1, by show 8 + (My.2.2.1 + 11) + 40 * d ≤ _; omega⟩, hts _ hV.1, hts _ hV.2⟩ ⟨am_blind, ⟨cell, g1, g2, g3⟩, hU⟩ rfl (by rw [List.length_map]; exact hn) hl.1 rfl (lv_room (m := m) (pc := pc) (ls := lsA) (rest := []) (am_catsum hsum)) hd hf
    exact am_goOn C hl hw hS hT X hr k
-- String constants' own fields, the two statics
theorem am_r_getSc {i index nx : Nat} (hi : i < 9) (hlk : Cond.fieldLink M.1.cls index "java/lang/String" "coder" "B" ∈ am_tb) (hd : decode M.2.1 pc = .ok (.getfield index, 3)) (hn : pc + 3 = nx) (k : am_X Φ M cs nx ls (.inl 0 :: st) h) : am_X Φ M cs pc ls (am_s i :: st) h := by
  intro p e s m args below meth c C lsA H locs hl hw hS
  subst hn
  obtain ⟨hx, hb, hml, hr, hown, hts, hlo, hnm, hK, hbs, hE, hE2⟩ := id C
  exact vk_getf hx hb (hE.1.1 i hi).2.1 hS hown (hts _ hlk) (fun _ z => z) hd (k p e s m args below meth c C lsA H locs hl hw hS)
theorem am_r_getSv {i index nx : Nat} (hi : i < 9) (hlk : Cond.fieldLink M.1.cls index "java/lang/String" "value" "[B" ∈ am_tb) (hd : decode M.2.1 pc = .ok (.getfield index, 3)) (hn : pc + 3 = nx) (k : am_X Φ M cs nx ls (am_s (50 + i) :: st) h) : am_X Φ M cs pc ls (am_s i :: st) h := by
  intro p e s m args below meth c C lsA H locs hl hw hS
  subst hn
  obtain ⟨hx, hb, hml, hr, hown, hts, hlo, hnm, hK, hbs, hE, hE2⟩ := id C
  exact vk_getf hx hb (hE.1.1 i hi).2.2.1 hS hown (hts _ hlk) (fun _ z => z) hd (k p e s m args below meth c C lsA H locs hl hw hS)
theorem am_r_alenS {i nx : Nat} {n : Int} (hi : i < 9) (hv : Int32.ofNat (am_len.getD i 0) = Int32.ofInt n) (hd : decode M.2.1 pc = .ok (.arraylength, 1)) (hn : pc + 1 = nx) (k : am_X Φ M cs nx ls (.inl n :: st) h) : am_X Φ M cs pc ls (am_s (50 + i) :: st) h := by
  intro p e s m args below meth c C lsA H locs hl hw hS
  subst hn
  obtain ⟨hx, hb, hml, hr, hown, hts, hlo, hnm, hK, hbs, hE, hE2⟩ := id C
  obtain ⟨cell, q1, q2, q3, q4, q5, q6, q7⟩ := (hE.1.1 i hi).2.2.2.kept hS.2.1
  exact W.alen (n := Int32.ofInt n) hx hb q1 q2 (by rw [q5, hv]) rfl rfl hd (k p e s m args below meth c C lsA H locs hl hw hS)
theorem am_r_baldS {i nx : Nat} {j x : Int} (hi : i < 9) (h0 : 0 ≤ j) (h1 : j < am_len.getD i 0) (h2 : am_len.getD i 0 ≤ 2147483647) (hv : (am_byt.getD i []).getD j.toNat 0 = Int32.ofInt x) (hd : decode M.2.1 pc = .ok (.baload, 1)) (hn : pc + 1 = nx) (k : am_X Φ M cs nx ls (.inl x :: st) h) : am_X Φ M cs pc ls (.inl j :: am_s (50 + i) :: st) h := by
  intro p e s m args below meth c C lsA H locs hl hw hS
  subst hn
  obtain ⟨hx, hb, hml, hr, hown, hts, hlo, hnm, hK, hbs, hE, hE2⟩ := id C
  obtain ⟨cell, q1, q2, q3, q4, q5, q6, q7⟩ := (hE.1.1 i hi).2.2.2.kept hS.2.1
  exact W.bald (v := .int (Int32.ofInt x)) hx hb q1 q2 q3 (fun z => by rcases z with z | z; exact am_of_in h0 h1 h2 (Or.inl z); rw [am_of_clamp h0 (by omega)] at z; omega) (by rw [am_of_clamp h0 (by omega), q6 _ (by omega)]; exact congrArg (fun z => some (Value.int z)) hv) rfl rfl hd (k p e s m args below meth c C lsA H locs hl hw hS)
theorem am_r_getCS {index nx : Nat} (hlk : Cond.fieldLink M.1.cls index "java/lang/String" "COMPACT_STRINGS" "Z" ∈ am_tb) (hd : decode M.2.1 pc = .ok (.getstatic index, 3)) (hn : pc + 3 = nx) (k : am_X Φ M cs nx ls (.inl 1 :: st) h) : am_X Φ M cs pc ls st h := by
  intro p e s m args below meth c C lsA H locs hl hw hS
  subst hn
  obtain ⟨hx, hb, hml, hr, hown, hts, hlo, hnm, hK, hbs, hE, hE2⟩ := id C
  exact va_gets hx hb hE.2.2.1 hS hown (hts _ hlk) (fun _ z => z) hd (k p e s m args below meth c C lsA H locs hl hw hS)
theorem am_r_getSF {index nx : Nat} (hlk : Cond.fieldLink M.1.cls index "jdk/internal/util/Preconditions" "SIOOBE_FORMATTER" "Ljava/util/function/BiFunction;" ∈ am_tb) (hd : decode M.2.1 pc = .ok (.getstatic index, 3)) (hn : pc + 3 = nx) (k : am_X Φ M cs nx ls (am_r none :: st) h) (k2 : am_X Φ M cs nx ls (am_s 98 :: st) h) : am_X Φ M cs pc ls st h := by
  intro p e s m args below meth c C lsA H locs hl hw hS
  subst hn
  obtain ⟨hx, hb, hml, hr, hown, hts, hlo, hnm, hK, hbs, hE, hE2⟩ := id C
  rcases hE.2.2.2.1 with hz | hz
  · exact va_gets hx hb hz hS hown (hts _ hlk) (fun _ z => z) hd (k p e s m args below meth c C lsA H locs hl hw hS)
  · exact va_gets hx hb hz hS hown (hts _ hlk) (fun _ z => z) hd (k2 p e s m args below meth c C lsA H locs hl hw hS)

end
