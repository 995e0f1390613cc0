section
/-! The law: its own rules. -/
def R_law : String := "TreeStreamLaw"
def lw_P (b : Addr) (xs : List Int32) (args : Array Value) (s : State) : Prop := args = #[.ref b] ∧ s.IntsAt b xs ∧ xs.length ≤ 3072 ∧ (Jvm.Cond.and given_1 narrow_1).before args s = true
def lw_Q (_ : Array Value) (s : State) (o : Outcome) (t : State) : Prop := o = .returned (some (.int 1)) ∧ Framed s o t [] 600000 7302250
def lw_Z (below : List Frame) (a : Array Value) (s : State) : State → Prop := fun t => ∃ o, t.status = .running ∧ Ended t below o ∧ lw_Q a s o t
theorem lw_ret {p : Program} {l : Launch} {e : Env} {s : State} {m : MethodId} {args : Array Value} {below : List Frame} {meth : Method} {c : Code} (hx : p.tables.exec = Jvm.exec) (hb : c.code = code) (hr : meth.sig.returnType = ret) (hlocks : meth.locks = false) {pc : Nat} {H : Heap} {ls : Array Slot} (hdg : decode code pc = .ok (.ireturn, 1)) : W p l e room_1 s m args below meth c H [] 600000 7302250 (lw_Z below args s) (F0 m pc ls [.int 1]) := by
  intro T hT X
  obtain ⟨fs, hret, hrun, hended, hW, hframe⟩ := X.leave (v := some (.int 1)) (hlocks := hlocks) (fun h => by rw [hr] at h; cases h)
  have hmeth' : T.vm.method? m = some meth := X.method'
  refine ⟨T.setFrames fs, ?_, .returned (some (.int 1)), hrun, hended, rfl, ⟨_, rfl⟩, hW, hframe⟩
  jvm_step X.here [X.here.top, hx, hb, hdg, hmeth', hr, ret, narrow_b1]
  (try refine ⟨rfl, ?_⟩); (try refine ⟨rfl, ?_⟩)
  first | (intro acts; rw [hret _ acts rfl rfl rfl]) | rw [hret _ _ rfl rfl rfl]
  exact Steps.refl _
def mL : am_Me := (x, (code, (4, ret)))
abbrev lw_F (G : am_G) (L : Nat) (xs : Nat → Int32) : am_F := (G, ((fun s => s.heap.size = G.2.1 ∧ va_X (G.2.2.1 99) L xs s s.heap ∧ G.2.2.1 99 < s.heap.size), (room_1, lw_Z)))
def lw_v (xs : Nat → Int32) (i : Int) : Int := (xs i.toNat).toInt
theorem lw_r (xs : Nat → Int32) (i : Int) : ab_r (lw_v xs i) := by
  unfold lw_v
  have h1 := Int32.le_toInt (xs i.toNat)
  have h2 := Int32.toInt_lt (xs i.toNat)
  exact ⟨by omega, by omega⟩
abbrev lw_ls (i : Int) : am_LS := [some (am_s 99), some (am_r (some 0)), some (am_r (some 91)), some (am_i i)]
variable {G : am_G} {L : Nat} {xs : Nat → Int32} {cs : Nat × Nat} {pc : Nat} {ls : am_LS} {st : List am_V} {h : am_H}
theorem am_r_slen {nx : Nat} (hd : decode code pc = .ok (.arraylength, 1)) (hn : pc + 1 = nx) (k : am_X (lw_F G L xs) mL cs nx ls (.inl (L : Int) :: st) h) : am_X (lw_F G L xs) mL cs pc ls (am_s 99 :: st) h := by
  intro p e s m args below meth c C lsA H locs hl hw hS
  subst hn
  obtain ⟨z1, z2, z3⟩ := C.2.2.2.2.2.2.2.2.2.2.2
  have kk := k p e s m args below meth c C lsA H locs hl hw hS
  have hv : Int32.ofNat L = Int32.ofInt (L : Int) := Int32.ofInt_eq_ofNat.symm
  refine va_slen C.1 C.2.1 z2 z3 (fun q => by have q : G.2.1 ≤ G.2.2.1 99 := q; omega) hS hd ?_
  rw [hv]
  exact kk
theorem am_r_sld {i : Int} {nx : Nat} (h0 : 0 ≤ i) (h1 : i < L) (hL : L ≤ 3072) (hd : decode code pc = .ok (.iaload, 1)) (hn : pc + 1 = nx) (k : am_X (lw_F G L xs) mL cs nx ls (.inl (lw_v xs i) :: st) h) : am_X (lw_F G L xs) mL cs pc ls (.inl i :: am_s 99 :: st) h := by
  intro p e s m args below meth c C lsA H locs hl hw hS
  subst hn
  obtain ⟨z1, z2, z3⟩ := C.2.2.2.2.2.2.2.2.2.2.2
  have kk := k p e s m args below meth c C lsA H locs hl hw hS
  refine va_sld C.1 C.2.1 z2 z3 (fun q => by have q : G.2.1 ≤ G.2.2.1 99 := q; omega) hS (am_of_in h0 h1 (by omega)) hd ?_
  rw [am_of_clamp h0 (by omega)]
  have hv : Int32.ofInt (lw_v xs i) = xs i.toNat := Int32.ofInt_toInt _
  rw [← hv]
  exact kk
theorem am_r_icmp_same {x off : Int} {tg : Nat} (hd : decode code pc = .ok (.if_icmp .eq off, 3)) (ht : (pc : Int) + off = (tg : Int)) (k : am_X (lw_F G L xs) mL cs tg ls st h) : am_X (lw_F G L xs) mL cs pc ls (.inl x :: .inl x :: st) h := by
  intro p e s m args below meth c C lsA H locs hl hw hS
  exact lv_icmp_eq C.1 C.2.1 hd ht (fun _ => k p e s m args below meth c C lsA H locs hl hw hS) (fun q => absurd rfl q)
theorem am_r_lcmp_same {x : Int64} {off : Int} {tg : Nat} (hd : decode code pc = .ok (.lcmp, 1)) (hd1 : decode code (pc + 1) = .ok (.ifCond .eq off, 3)) (ht : ((pc + 1 : Nat) : Int) + off = (tg : Int)) (k : am_X (lw_F G L xs) mL cs tg ls st h) : am_X (lw_F G L xs) mL cs pc ls (am_l x :: am_l x :: st) h := by
  refine am_r_lcmp (nx := pc + 1) hd rfl ?_
  have e : am_lcmp x x = 0 := by
    unfold am_lcmp
    rw [(lg_cmp_eq x x).mpr rfl]
    rfl
  rw [e]
  exact am_r_if_eq (tg := tg) (nx := pc + 1 + 3) hd1 ht rfl (by omega) (fun _ => k) (fun z => absurd rfl z)
/-- the law's end -/
theorem am_r_law1 (hd : decode code pc = .ok (.ireturn, 1)) (h1 : cs.1 ≤ 600000) (h2 : cs.2 ≤ 7302250) : am_X (lw_F G L xs) mL cs pc ls [.inl 1] h := by
  intro p e s m args below meth c C lsA H locs hl hw hS
  obtain ⟨z1, z2, z3⟩ := C.2.2.2.2.2.2.2.2.2.2.2
  refine va_forget (fun q hq => by have := hS.2.2 q hq; have this : G.2.1 ≤ q.base := this; omega) ?_
  refine W.widen (k := 600000) (n := 7302250) h1 h2 ?_
  exact lw_ret C.1 C.2.1 C.2.2.2.1 C.2.2.2.2.2.2.1 hd
end
