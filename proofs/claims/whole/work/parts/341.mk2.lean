section
/-! The maker of rows of MACHINES: it needs their array's class. -/
def am_Pre2 (G : am_G) (as : List am_V) (h : am_H) : Array Value → State → Prop := va_Pc (as.map (am_c G.2.1 G.2.2.1)) (fun U => (U.heap.size = G.2.1 + h.1.1.length ∧ va_P G.2.2.2.1 am_cl (am_ws G.2.1 G.2.2.2.2 h) U.heap ∧ va_K G.2.2.2.1 am_cl (am_tys G.2.2.2.2) U ∧ am_Ex G U) ∧ va_AO "TreeStream$Machine" U)
def am_M2 (G : am_G) (d mc ms : Nat) (M : am_Me) (as : List am_V) (h : am_H) (Q : Option am_V → am_H → Prop) : Prop := Met G.1 M.1 (Cond.code M.1 M.2.1 M.2.2.1 M.2.2.2 :: am_tb) (am_rm d mc ms) (am_Pre2 G as h) (am_Qc G Q (h.1.1.length + mc)) mc ms (fun q => G.2.1 ≤ q)
def am_Ph2 (G : am_G) (d mc ms n0 : Nat) (Q : Option am_V → am_H → Prop) : am_F := (G, (fun s => s.heap.size = G.2.1 + n0 ∧ va_AO "TreeStream$Machine" s), am_rm d mc ms, am_Zm G Q mc ms n0)
theorem am_blind2 {G : am_G} {as : List am_V} {h : am_H} : FrameBlind (am_Pre2 G as h) := by
  intro a U g mk q
  obtain ⟨q0, ⟨q1, qP, qK, qE⟩, qA⟩ := q
  exact ⟨q0, ⟨q1, qP, va_K.moved (u := U) (U := U.calling g mk a) (Vm.Alike.refl U.vm) qK, qE.same rfl rfl⟩, va_AO.moved (u := U) (U := U.calling g mk a) (Vm.Alike.refl U.vm) qA⟩
theorem am_M2.of {G : am_G} {d mc ms : Nat} {M : am_Me} {as : List am_V} {h : am_H} {Q : Option am_V → am_H → Prop} {ls : am_LS} (hp : plainName M.1.cls = true) (hlen : (am_args as).length ≤ M.2.2.1) (hls : am_pad M.2.2.1 (am_args as) = ls) (k : am_X (am_Ph2 G d mc ms h.1.1.length Q) M (0, 0) 0 ls [] h) : am_M2 G d mc ms M as h Q := by
  refine Met.ofW (cc := M.2.1) (maxL := M.2.2.1) (ret := M.2.2.2) hp rfl ?_
  intro p e s m args below meth c s₁ B hml hv
  obtain ⟨rfl, ⟨hsz, hP, hK, hE⟩, hA⟩ := hv
  have hts := atoms_spec (ws := Cond.code M.1 M.2.1 M.2.2.1 M.2.2.2 :: am_tb) B.pre
  have hown : s.vm.findClass M.1.cls = some m.cls := findClass_of_methodNamed B.named
  have hin : meth.name = M.1.name := (name_of_methodNamed B.named B.method).1
  rw [lg_entry_eq]
  have hl := lv_entry (as.map (am_c G.2.1 G.2.2.1)) (n := M.2.2.1) (by rw [am_args_len]; exact hlen)
  subst hls
  refine k p e s m _ below meth c ⟨B.exec, B.bytes, hml, B.returns, hown, fun w hw => hts w (List.mem_cons_of_mem _ hw), B.notSynchronized, hin, hK, (show G.2.1 ≤ s.heap.size by omega), hE, hsz, hA⟩ _ _ [] ⟨hl.1, hl.2.1, fun i v hi => ?_⟩ ⟨(show s.heap.size + 0 = G.2.1 + h.1.1.length by omega), hP⟩ va_S.rf
  have := am_at_args (b := G.2.1) (ad := G.2.2.1) (am_at_pad hi) 0
  rw [Nat.zero_add] at this
  exact hl.2.2 _ this
theorem am_r_vret2 {M : am_Me} {pc : Nat} {ls : am_LS} {h : am_H} {G : am_G} {d mc ms n0 : Nat} {Q : Option am_V → am_H → Prop} (hr : M.2.2.2 = none) (hd : decode M.2.1 pc = .ok (.return_, 1)) (hq : Q none h) : am_X (am_Ph2 G d mc ms n0 Q) M (mc, ms) pc ls [] h := by
  intro p e s m args below meth c C lsA H locs hl hw hS
  exact W.vret C.1 C.2.1 (by rw [C.2.2.2.1, hr]) (fun t ht _ => am_retQ (v := none) hq (by have h1 : s.heap.size = G.2.1 + n0 := C.2.2.2.2.2.2.2.2.2.2.2.1; have h2 : s.heap.size + mc = G.2.1 + h.1.1.length := hw.1; omega) hw.2 hS ht) hS.2.2 hd C.2.2.2.2.2.2.1
theorem am_preU2 {Φ : am_F} {M : am_Me} {cs : Nat × Nat} {h : am_H} {s : State} {H : Heap} {locs : List Loc} {T : State} {p : Program} {e : Env} {m : MethodId} {args : Array Value} {below : List Frame} {meth : Method} {c : Code} {as : List am_V} (hao : ∀ s, Φ.2.1 s → va_AO "TreeStream$Machine" s) (C : am_Cx Φ.1 M Φ.2.1 p s m args meth c) (hw : am_Wd Φ.1 cs s h H) (hS : va_S (fun q => Φ.1.2.1 ≤ q) s.heap H locs) (hT : T.heap = H) (X : Stand p Φ.1.1 e Φ.2.2.1 s m args below meth c T locs cs.1 cs.2) : ∀ U : State, U.heap = H → s.WarmedH U.vm → am_Pre2 Φ.1 as h (as.map (am_c Φ.1.2.1 Φ.1.2.2.1)).toArray U := by
  intro U hU hW
  obtain ⟨q0, q1⟩ := am_preU (as := as) C hw hS hT X U hU hW
  exact ⟨q0, q1, va_AO.moved hW.alike (hao s C.2.2.2.2.2.2.2.2.2.2.2)⟩
theorem am_r_callI2 {d mc ms : Nat} {Φ : am_F} {M : am_Me} {cs : Nat × Nat} {pc : Nat} {ls : am_LS} {st : List am_V} {h : am_H} {My : am_Me} {a index n : Nat} {as : List am_V} {st0 : List am_V} {Q' : Option am_V → am_H → Prop} (hao : ∀ s, Φ.2.1 s → va_AO "TreeStream$Machine" s) (hM : am_M2 Φ.1 d mc ms My (am_r (some a) :: as) h Q') (hB : am_mB My n) (hV : My.1.name = "<init>" ∧ Cond.instanceMethod My.1 ∈ am_tb ∧ My.2.2.2 = none) (hlk : am_ml M index My) (hst : st0 = as.reverse ++ am_r (some a) :: st) (hn : as.length = n) (hsum : (st.map am_cat).sum ≤ 8) (hR : d + 1 ≤ Φ.2.2.1.frames ∧ 40 * d + 40 ≤ Φ.2.2.1.locals) (hf : cs.1 + mc ≤ Φ.2.2.1.cells ∧ cs.2 + ms ≤ Φ.2.2.1.slots) (hd : decode M.2.1 pc = .ok (.invokespecial index, 3))
    (k : ∀ v h', Q' v h' → h'.1.1.length = h.1.1.length + mc → am_X Φ M (cs.1 + mc, cs.2 + ms) (pc + 3) ls (v.toList ++ st) h') : am_X Φ M cs pc ls st0 h := by
  intro p e s m args below meth c C lsA H locs hl hw hS T hT X
  subst hst
  have hU := am_preU2 (as := am_r (some a) :: as) hao C hw hS hT X
  obtain ⟨hx, hb, hml, hr, hown, hts, hlo, hnm, hK, hbs, hE, hE2⟩ := id C
  obtain ⟨h1, h2, h3, h4⟩ := hB
  obtain ⟨hi1, hi2, hi3⟩ := hV
  rw [hi3] at h1
  rw [am_M2, hi3] at hM
  have hsg : ((as.reverse ++ am_r (some a) :: st).map (am_c Φ.1.2.1 Φ.1.2.2.1)) = (as.map (am_c Φ.1.2.1 Φ.1.2.2.1)).reverse ++ .ref (Φ.1.2.1 + a) :: st.map (am_c Φ.1.2.1 Φ.1.2.2.1) := by simp [List.map_append, List.map_reverse, am_c, va_rf]
  rw [hsg]
  rcases hlk with hlk | ⟨host, hlk⟩
  · have hr := va_runI (R := Φ.2.2.1) (H := H) (locs := locs) (cells := cs.1) (slots := cs.2) (below := below) (e := e) (meth := meth) (g := F0 m pc lsA ((as.map (am_c Φ.1.2.1 Φ.1.2.2.1)).reverse ++ .ref (Φ.1.2.1 + a) :: st.map (am_c Φ.1.2.1 Φ.1.2.2.1))) ⟨hx, hb, hml, hown, hts⟩ hM ⟨callB_of (own := M.1.cls) (index := index) (mc := mc) (ms := ms) (rm := am_rm d mc ms) n hts (am_goodIn h1) rfl rfl rfl (hts _ h2) (hts _ hlk) h3 ⟨hR.1, by show 8 + (My.2.2.1 + 11) + 40 * d ≤ _; omega⟩, hi1, hts _ hi2⟩ ⟨am_blind2, hU⟩ rfl (by rw [List.length_map]; exact hn) hl.1 rfl (lv_room (m := m) (pc := pc) (ls := lsA) (rest := []) (am_catsum hsum)) hd hf
    exact am_goOn C hl hw hS hT X hr k
  · have hr := va_runIN (R := Φ.2.2.1) (H := H) (locs := locs) (cells := cs.1) (slots := cs.2) (below := below) (e := e) (meth := meth) (g := F0 m pc lsA ((as.map (am_c Φ.1.2.1 Φ.1.2.2.1)).reverse ++ .ref (Φ.1.2.1 + a) :: st.map (am_c Φ.1.2.1 Φ.1.2.2.1))) ⟨hx, hb, hml, hown, hts⟩ hM ⟨va_cnB (own := M.1.cls) (index := index) (mc := mc) (ms := ms) (rm := am_rm d mc ms) n hts (am_goodIn h1) rfl rfl rfl (hE.2.2.2.2 _ hlk) (hts _ h2) h3 ⟨hR.1, by show 8 + (My.2.2.1 + 11) + 40 * d ≤ _; omega⟩, hi1, hts _ hi2⟩ ⟨am_blind2, hU⟩ rfl (by rw [List.length_map]; exact hn) hl.1 rfl (lv_room (m := m) (pc := pc) (ls := lsA) (rest := []) (am_catsum hsum)) hd hf
    exact am_goOn C hl hw hS hT X hr k
/-- less is asked of the entry's state -/
theorem am_x_E {G : am_G} {E E' : State → Prop} {R : Room} {Z : am_Zt} {M : am_Me} {cs : Nat × Nat} {pc : Nat} {ls : am_LS} {st : List am_V} {h : am_H} (hE : ∀ s, E' s → E s) (k : am_X (G, (E, (R, Z))) M cs pc ls st h) : am_X (G, (E', (R, Z))) M cs pc ls st h := by
  intro p e s m args below meth c C
  obtain ⟨hx, hb, hml, hr, hown, hts, hlo, hnm, hK, hbs, hX, hE2⟩ := C
  exact k p e s m args below meth c ⟨hx, hb, hml, hr, hown, hts, hlo, hnm, hK, hbs, hX, hE s hE2⟩
end
