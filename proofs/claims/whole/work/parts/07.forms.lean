section
/-! Contracts by the kind of answer; over the heap's fixed shape. -/
abbrev am_QI (Q : Int → am_D → Prop) : Option am_V → am_H → Prop := fun v h' => ∃ x σ', v = some (am_i x) ∧ h' = (am_K0, σ') ∧ Q x σ'
abbrev am_QJ (Q : Int64 → am_D → Prop) : Option am_V → am_H → Prop := fun v h' => ∃ x σ', v = some (am_l x) ∧ h' = (am_K0, σ') ∧ Q x σ'
abbrev am_QR (Q : Option Nat → am_D → Prop) : Option am_V → am_H → Prop := fun v h' => ∃ x σ', v = some (am_r x) ∧ h' = (am_K0, σ') ∧ Q x σ'
abbrev am_QV (Q : am_D → Prop) : Option am_V → am_H → Prop := fun v h' => ∃ σ', v = none ∧ h' = (am_K0, σ') ∧ Q σ'
abbrev am_FI (G : am_G) (d : Nat) (Q : Int → am_D → Prop) : am_F := am_Ph G d 0 0 137 (am_QI Q)
abbrev am_FJ (G : am_G) (d : Nat) (Q : Int64 → am_D → Prop) : am_F := am_Ph G d 0 0 137 (am_QJ Q)
abbrev am_FR (G : am_G) (d : Nat) (Q : Option Nat → am_D → Prop) : am_F := am_Ph G d 0 0 137 (am_QR Q)
abbrev am_FV (G : am_G) (d : Nat) (Q : am_D → Prop) : am_F := am_Ph G d 0 0 137 (am_QV Q)
abbrev am_MI (G : am_G) (d : Nat) (M : am_Me) (as : List am_V) (σ : am_D) (Q : Int → am_D → Prop) : Prop := am_M G d 0 0 M as (am_K0, σ) (am_QI Q)
abbrev am_MJ (G : am_G) (d : Nat) (M : am_Me) (as : List am_V) (σ : am_D) (Q : Int64 → am_D → Prop) : Prop := am_M G d 0 0 M as (am_K0, σ) (am_QJ Q)
abbrev am_MR (G : am_G) (d : Nat) (M : am_Me) (as : List am_V) (σ : am_D) (Q : Option Nat → am_D → Prop) : Prop := am_M G d 0 0 M as (am_K0, σ) (am_QR Q)
abbrev am_MV (G : am_G) (d : Nat) (M : am_Me) (as : List am_V) (σ : am_D) (Q : am_D → Prop) : Prop := am_M G d 0 0 M as (am_K0, σ) (am_QV Q)
theorem am_lcmp_rg (x y : Int64) : -2147483648 ≤ am_lcmp x y ∧ am_lcmp x y ≤ 2147483647 := by
  unfold am_lcmp
  have h1 := Int32.le_toInt (lg_cmp x y)
  have h2 := Int32.toInt_lt (lg_cmp x y)
  omega
variable {G : am_G} {d : Nat} {M : am_Me} {as : List am_V} {σ : am_D} {ls : am_LS}
theorem am_len0 : (am_K0, σ).1.1.length = 137 := (show am_SH.length = 137 by decide +kernel)
theorem am_M.go {Q : Option am_V → am_H → Prop} (hp : plainName M.1.cls = true) (hlen : (am_args as).length ≤ M.2.2.1) (hls : am_pad M.2.2.1 (am_args as) = ls) (k : am_X (am_Ph G d 0 0 137 Q) M (0, 0) 0 ls [] (am_K0, σ)) : am_M G d 0 0 M as (am_K0, σ) Q := am_M.of hp hlen hls (by rw [am_len0]; exact k)
theorem am_M.mono {Q Q' : Option am_V → am_H → Prop} {mc ms : Nat} {h : am_H} (k : am_M G d mc ms M as h Q) (hq : ∀ v h', Q v h' → Q' v h') : am_M G d mc ms M as h Q' := by
  intro p e a1 a2 a3 s m args below h1 h2 h3 h4
  obtain ⟨t, o, k1, k2, k3, ⟨⟨⟨v, h', e1, e2, e3⟩, e4⟩, e5⟩⟩ := k p e a1 a2 a3 s m args below h1 h2 h3 h4
  exact ⟨t, o, k1, k2, k3, ⟨⟨⟨v, h', e1, hq v h' e2, e3⟩, e4⟩, e5⟩⟩
/-- a String constant by the wide instruction -/
theorem am_ldcwS {p : Program} {l : Launch} {e : Env} {R : Room} {s : State} {m : MethodId} {args : Array Value} {below : List Frame} {meth : Method} {c : Code} {T : State} {locs : List Loc} {cells slots : Nat} (X : Stand p l e R s m args below meth c T locs cells slots) (hexec : p.tables.exec = Jvm.exec) {own tx : String} {index : Nat} {a : Addr} (hown : s.vm.findClass own = some m.cls) (hZ : vk_R own index tx a s) {g : JFrame} (hg : g.method = m) (hdg : decode c.code g.pc = .ok (.ldc_w index, 3)) :
    ∀ tg, Steps p.tables e below (T.setTop { g with pc := g.pc + 3, stack := .ref a :: g.stack }) tg → Steps p.tables e below (T.setTop g) tg := by
  obtain ⟨k, cf, i, a', hk, hcf, hcp, -, hr, hev⟩ := Cond.stringRef_spec hown hZ.1
  cases hZ.2.symm.trans hev
  obtain ⟨k', hk', he⟩ := X.warmed.alike.2.2 _ _ hk
  have hr' : k'.resolved[index]? = some (some (.string a)) := by
    rcases X.warmed.entry hk hk' index with h | ⟨h, -⟩
    · rw [h]; exact hr
    · rw [hr] at h; cases h
  intro tg hrest
  subst hg
  jvm_step X.here [hexec, hdg, ldc_w.wp_string (e := e) (s := T) (f := g) X.here.top hk' (by rw [he]; exact hcf) hcp hr']
  exact hrest
theorem am_r_ldc_wS {Φ : am_F} {cs : Nat × Nat} {pc : Nat} {st : List am_V} {h : am_H} {tx : String} {index i nx : Nat} (hw9 : (M.1.cls, index, tx, i) ∈ am_strs) (hd : decode M.2.1 pc = .ok (.ldc_w index, 3)) (hn : pc + 3 = nx) (k : am_X Φ M cs nx ls (am_s i :: st) h) : am_X Φ M cs pc ls st h := by
  intro p e s m args below meth c C lsA H locs hl hw hS T hT X
  subst hn
  obtain ⟨t, a1, b1⟩ := k p e s m args below meth c C lsA H locs hl hw hS T hT X
  exact ⟨t, am_ldcwS X C.1 C.2.2.2.2.1 (C.2.2.2.2.2.2.2.2.2.2.1.2.1 _ hw9) (g := F0 m pc lsA (st.map (am_c Φ.1.2.1 Φ.1.2.2.1))) rfl (by rw [C.2.1]; exact hd) t a1, b1⟩
theorem am_r_getRs {Φ : am_F} {cs : Nat × Nat} {pc : Nat} {st : List am_V} {h : am_H} {a a' ci index N : Nat} {C : String} {T : u_T} {ty : Nat → FieldType} {nx : Nat} (kf : Nat) (ho : h.2.2.2 a kf = some a') (hc : am_cw ci C T N ty) (hk : kf < N) (hq : (am_tm ci)[kf]? = some 2) (hlk : am_lk M index T kf) (hs : (am_sh h.1.1 a).1 = ci) (hd : decode M.2.1 pc = .ok (.getfield index, 3)) (hn : pc + 3 = nx) (k : am_X Φ M cs nx ls (am_r (some a') :: st) h) : am_X Φ M cs pc ls (am_r (some a) :: st) h :=
  am_r_getR kf hc hk hq hlk hs hd hn (by rw [ho]; exact k)
theorem am_r_aalds {Φ : am_F} {cs : Nat × Nat} {pc : Nat} {st : List am_V} {h : am_H} {a a' n : Nat} {i : Int} {nx : Nat} (ho : h.2.2.2 a i = some a') (hs : am_sh h.1.1 a = (104, n)) (hN : n ≤ 2147483647) (h0 : 0 ≤ i) (h1 : i < n) (hd : decode M.2.1 pc = .ok (.aaload, 1)) (hn : pc + 1 = nx) (k : am_X Φ M cs nx ls (am_r (some a') :: st) h) : am_X Φ M cs pc ls (.inl i :: am_r (some a) :: st) h :=
  am_r_aald hs hN h0 h1 hd hn (by rw [ho]; exact k)
end
