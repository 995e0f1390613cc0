section
/-! The rules: an instruction, a rule; goal first. -/
def am_txts : List String := ["machine", "open", "close", "end", "x", "y", "a", "b", "c"]
def am_len : List Nat := [7, 4, 5, 3, 1, 1, 1, 1, 1]
def am_byt : List (List Int32) := [[109, 97, 99, 104, 105, 110, 101], [111, 112, 101, 110], [99, 108, 111, 115, 101], [101, 110, 100], [120], [121], [97], [98], [99]]
def am_chr : Nat → List Int := fun i => match i with
  | 0 => [109, 97, 99, 104, 105, 110, 101]
  | 1 => [111, 112, 101, 110]
  | 2 => [99, 108, 111, 115, 101]
  | 3 => [101, 110, 100]
  | 4 => [120]
  | 5 => [121]
  | 6 => [97]
  | 7 => [98]
  | 8 => [99]
  | _ => []
def am_strs : List (String × (Nat × (String × Nat))) := [("TreeStream$Texts", 52, "machine", 0), ("TreeStream$Texts", 72, "open", 1), ("TreeStream$Texts", 77, "close", 2), ("TreeStream$Texts", 85, "end", 3), ("TreeStream$Texts", 147, "x", 4), ("TreeStream$Texts", 153, "y", 5), ("TreeStreamModel", 281, "machine", 0), ("TreeStreamModel", 261, "open", 1), ("TreeStreamModel", 263, "close", 2), ("TreeStreamModel", 265, "end", 3), ("TreeStreamModel", 205, "a", 6), ("TreeStreamModel", 211, "b", 7), ("TreeStreamModel", 213, "c", 8), ("TreeStreamModel", 225, "x", 4), ("TreeStreamModel", 227, "y", 5)]
abbrev am_G : Type := Launch × (Nat × ((Nat → Nat) × (va_G × (Nat → ClassId))))
abbrev am_Me : Type := MethodName × (ByteArray × (Nat × Option FieldType))
abbrev am_Zt : Type := List Frame → Array Value → State → State → Prop
abbrev am_F : Type := am_G × ((State → Prop) × (Room × am_Zt))
def am_tys (cA : Nat → ClassId) : List (ClassId × FieldType) := [(cA 100, .int), (cA 101, .byte), (cA 102, .boolean), (cA 103, .long), (cA 104, .object "TreeStream$Machine")]
/-- links of nest mates -/
def am_isN : Cond → Bool
  | .fieldLinkNest _ _ _ _ _ _ => true
  | .methodLinkNest _ _ _ _ => true
  | _ => false
def am_nst : List Cond := tables_1.filter am_isN
theorem am_mn {w : Cond} (i : Nat) (h : tables_1[i]? = some w) (g : am_isN w = true) : w ∈ am_nst := List.mem_filter.mpr ⟨List.mem_of_getElem? h, g⟩
theorem am_isN_on {w : Cond} (g : am_isN w = true) : w.onTables = true := by cases w <;> first | rfl | cases g
theorem am_isN_warm {w : Cond} (g : am_isN w = true) {s U : State} (hW : s.WarmedH U.vm) (h : va_Nw w s) : va_Nw w U := by
  cases w <;> first | exact va_Nw.warmF hW h | exact va_Nw.warmM hW h | cases g
/-- what lies outside: the String constants, two statics; links of nest mates -/
def am_Ex (G : am_G) (s : State) : Prop := vk_S 9 am_len am_byt G.2.2.1 (fun i => G.2.2.1 (50 + i)) (fun q => G.2.1 ≤ q) s s.heap ∧ (∀ q ∈ am_strs, vk_R q.1 q.2.1 q.2.2.1 (G.2.2.1 q.2.2.2) s) ∧ va_Z "java/lang/String" "COMPACT_STRINGS" "Z" (.int 1) (fun q => G.2.1 ≤ q) s s.heap ∧ (va_Z "jdk/internal/util/Preconditions" "SIOOBE_FORMATTER" "Ljava/util/function/BiFunction;" .null (fun q => G.2.1 ≤ q) s s.heap ∨ va_Z "jdk/internal/util/Preconditions" "SIOOBE_FORMATTER" "Ljava/util/function/BiFunction;" (.ref (G.2.2.1 98)) (fun q => G.2.1 ≤ q) s s.heap) ∧ ∀ w ∈ am_nst, va_Nw w s
def am_Wd (G : am_G) (cs : Nat × Nat) (s : State) (h : am_H) (H : Heap) : Prop := s.heap.size + cs.1 = G.2.1 + h.1.1.length ∧ va_P G.2.2.2.1 am_cl (am_ws G.2.1 G.2.2.2.2 h) H
def am_Cx (G : am_G) (M : am_Me) (E : State → Prop) (p : Program) (s : State) (m : MethodId) (args : Array Value) (meth : Method) (c : Code) : Prop :=
  p.tables.exec = Jvm.exec ∧ c.code = M.2.1 ∧ c.maxLocals = M.2.2.1 ∧ meth.sig.returnType = M.2.2.2 ∧ s.vm.findClass M.1.cls = some m.cls ∧ (∀ w ∈ am_tb, w.before args s = true) ∧ meth.locks = false ∧ meth.name = M.1.name ∧ va_K G.2.2.2.1 am_cl (am_tys G.2.2.2.2) s ∧ G.2.1 ≤ s.heap.size ∧ am_Ex G s ∧ E s
/-- the machine, in method M at pc, with these locals, this stack and heap, comes to its end as Φ asks -/
def am_X (Φ : am_F) (M : am_Me) (cs : Nat × Nat) (pc : Nat) (ls : am_LS) (st : List am_V) (h : am_H) : Prop :=
  ∀ (p : Program) (e : Env) (s : State) (m : MethodId) (args : Array Value) (below : List Frame) (meth : Method) (c : Code), am_Cx Φ.1 M Φ.2.1 p s m args meth c → ∀ (lsA : Array Slot) (H : Heap) (locs : List Loc), am_Lc Φ.1.2.1 Φ.1.2.2.1 lsA M.2.2.1 ls → am_Wd Φ.1 cs s h H → va_S (fun q => Φ.1.2.1 ≤ q) s.heap H locs →
    W p Φ.1.1 e Φ.2.2.1 s m args below meth c H locs cs.1 cs.2 (Φ.2.2.2 below args s) (F0 m pc lsA (st.map (am_c Φ.1.2.1 Φ.1.2.2.1)))
variable {Φ : am_F} {M : am_Me} {cs : Nat × Nat} {pc : Nat} {ls : am_LS} {st : List am_V} {h : am_H}
theorem am_x_fg (ds : List Nat) (k : am_X Φ M cs pc (am_fg ds ls) st h) : am_X Φ M cs pc ls st h := by
  intro p e s m args below meth c C lsA H locs hl hw hS
  exact k p e s m args below meth c C lsA H locs (hl.less fun i v hv => am_at_fg hv) hw hS
theorem am_x_eq {st' : List am_V} {h' : am_H} (e1 : st = st') (e2 : h = h') (k : am_X Φ M cs pc ls st' h') : am_X Φ M cs pc ls st h := by subst e1; subst e2; exact k
/-- in range -/
theorem am_of_lt {x y : Int} (hx : -2147483648 ≤ x ∧ x ≤ 2147483647) (hy : -2147483648 ≤ y ∧ y ≤ 2147483647) : Int32.ofInt x < Int32.ofInt y ↔ x < y := by
  rw [Int32.lt_iff_toInt_lt, Int32.toInt_ofInt_of_le (by omega) (by omega), Int32.toInt_ofInt_of_le (by omega) (by omega)]
theorem am_of_le {x y : Int} (hx : -2147483648 ≤ x ∧ x ≤ 2147483647) (hy : -2147483648 ≤ y ∧ y ≤ 2147483647) : Int32.ofInt x ≤ Int32.ofInt y ↔ x ≤ y := by
  rw [Int32.le_iff_toInt_le, Int32.toInt_ofInt_of_le (by omega) (by omega), Int32.toInt_ofInt_of_le (by omega) (by omega)]
theorem am_of_eq {x y : Int} (hx : -2147483648 ≤ x ∧ x ≤ 2147483647) (hy : -2147483648 ≤ y ∧ y ≤ 2147483647) : Int32.ofInt x = Int32.ofInt y ↔ x = y := by
  rw [← Int32.toInt_inj, Int32.toInt_ofInt_of_le (by omega) (by omega), Int32.toInt_ofInt_of_le (by omega) (by omega)]
theorem am_of_clamp {i : Int} (h0 : 0 ≤ i) (h1 : i ≤ 2147483647) : (Int32.ofInt i).toNatClampNeg = i.toNat := Int32.toNatClampNeg_ofInt_of_le (by omega) (by omega)
theorem am_of_in {i : Int} {n : Nat} (h0 : 0 ≤ i) (h1 : i < n) (h2 : n ≤ 2147483647) : vp_in (Int32.ofInt i) n := by
  rintro (q | q)
  · rw [show (0 : Int32) = Int32.ofInt 0 from rfl, am_of_lt (by omega) (by omega)] at q
    omega
  · rw [am_of_clamp h0 (by omega)] at q
    omega
theorem am_good {w : Cond} (hw : w ∈ am_tb) : w ∈ am_tb ∧ ((w.onTables && w.keeps) = true ∨ ∃ ty, w = .arrayClass ty) := by
  refine ⟨hw, ?_⟩
  have h := am_tb_good w hw
  cases w <;> first | exact Or.inr ⟨_, rfl⟩ | exact Or.inl h
theorem am_goodIn {w : Cond} (hw : w ∈ am_tb) : GoodIn am_tb (w :: am_tb) := by
  intro w' hw'
  rcases List.mem_cons.mp hw' with rfl | h
  · exact am_good hw
  · exact am_good h
/-- a cell of an object, of a row -/
theorem am_cell_o {b : Nat} {cA : Nat → ClassId} {h : am_H} {a ci : Nat} (hs : (am_sh h.1.1 a).1 = ci) (hc : ci < 100) : (am_ws b cA h)[a]? = some (b + a, .inr (ci, am_fs b h a (am_tm ci))) := by
  rw [am_ws_get, am_sh_get (by omega)]
  show some (b + a, am_ce b cA h a (am_sh h.1.1 a)) = _
  unfold am_ce
  rw [hs, if_pos hc]
theorem am_cell_a {b : Nat} {cA : Nat → ClassId} {h : am_H} {a kd n : Nat} (hs : am_sh h.1.1 a = (kd, n)) (h1 : 100 ≤ kd) (h2 : kd ≠ 999) : (am_ws b cA h)[a]? = some (b + a, .inl (cA kd, n, am_ct b h.2 a kd)) := by
  have e : (am_sh h.1.1 a).1 = kd := by rw [hs]
  rw [am_ws_get, am_sh_get (by omega)]
  show some (b + a, am_ce b cA h a (am_sh h.1.1 a)) = _
  unfold am_ce
  rw [hs, if_neg (by show ¬ kd < 100; omega)]
-- constants, locals, stack
theorem am_r_iconst {n : Int}  {nx : Nat} (hd : decode M.2.1 pc = .ok (.iconst n, 1)) (hn : pc + 1 = nx) (k : am_X Φ M cs nx ls (.inl n :: st) h) : am_X Φ M cs pc ls st h := by
  intro p e s m args below meth c C lsA H locs hl hw hS
  subst hn
  exact lv_iconst C.1 C.2.1 hd rfl (k p e s m args below meth c C lsA H locs hl hw hS)
theorem am_r_bipush {n : Int}  {nx : Nat} (hv : (Int8.ofInt n).toInt32 = Int32.ofInt n) (hd : decode M.2.1 pc = .ok (.bipush n, 2)) (hn : pc + 2 = nx) (k : am_X Φ M cs nx ls (.inl n :: st) h) : am_X Φ M cs pc ls st h := by
  intro p e s m args below meth c C lsA H locs hl hw hS
  subst hn
  exact lv_bipush C.1 C.2.1 hd hv (k p e s m args below meth c C lsA H locs hl hw hS)
theorem am_r_sipush {n : Int}  {nx : Nat} (hv : (Int16.ofInt n).toInt32 = Int32.ofInt n) (hd : decode M.2.1 pc = .ok (.sipush n, 3)) (hn : pc + 3 = nx) (k : am_X Φ M cs nx ls (.inl n :: st) h) : am_X Φ M cs pc ls st h := by
  intro p e s m args below meth c C lsA H locs hl hw hS
  subst hn
  exact lv_sipush C.1 C.2.1 hd hv (k p e s m args below meth c C lsA H locs hl hw hS)
theorem am_r_ldc {n : Int} {index : Nat}  {nx : Nat} (hw9 : Cond.constant M.1.cls index (Int32.ofInt n) ∈ am_tb) (hd : decode M.2.1 pc = .ok (.ldc index, 2)) (hn : pc + 2 = nx) (k : am_X Φ M cs nx ls (.inl n :: st) h) : am_X Φ M cs pc ls st h := by
  intro p e s m args below meth c C lsA H locs hl hw hS
  subst hn
  exact lv_ldc C.1 C.2.1 C.2.2.2.2.1 (C.2.2.2.2.2.1 _ hw9) hd (k p e s m args below meth c C lsA H locs hl hw hS)
theorem am_r_ldc2 {n : Int64} {index : Nat}  {nx : Nat} (hw9 : Cond.constantLong M.1.cls index n ∈ am_tb) (hd : decode M.2.1 pc = .ok (.ldc2_w index, 3)) (hn : pc + 3 = nx) (k : am_X Φ M cs nx ls (am_l n :: st) h) : am_X Φ M cs pc ls st h := by
  intro p e s m args below meth c C lsA H locs hl hw hS
  subst hn
  exact lv_ldc2 C.1 C.2.1 C.2.2.2.2.1 (C.2.2.2.2.2.1 _ hw9) hd (k p e s m args below meth c C lsA H locs hl hw hS)
theorem am_r_ldcS {tx : String} {index i : Nat}  {nx : Nat} (hw9 : (M.1.cls, index, tx, i) ∈ am_strs) (hd : decode M.2.1 pc = .ok (.ldc index, 2)) (hn : pc + 2 = nx) (k : am_X Φ M cs nx ls (am_s i :: st) h) : am_X Φ M cs pc ls st h := by
  intro p e s m args below meth c C lsA H locs hl hw hS
  subst hn
  exact va_ldcS C.1 C.2.1 C.2.2.2.2.1 (C.2.2.2.2.2.2.2.2.2.2.1.2.1 _ hw9) hd (k p e s m args below meth c C lsA H locs hl hw hS)
theorem am_r_lconst {n : Fin 2} {v : Int64}  {nx : Nat} (hv : Int64.ofNat (n : Nat) = v) (hd : decode M.2.1 pc = .ok (.lconst n, 1)) (hn : pc + 1 = nx) (k : am_X Φ M cs nx ls (am_l v :: st) h) : am_X Φ M cs pc ls st h := by
  intro p e s m args below meth c C lsA H locs hl hw hS
  subst hn
  exact lv_lconst C.1 C.2.1 hd hv (k p e s m args below meth c C lsA H locs hl hw hS)
theorem am_r_null  {nx : Nat} (hd : decode M.2.1 pc = .ok (.aconst_null, 1)) (hn : pc + 1 = nx) (k : am_X Φ M cs nx ls (am_r none :: st) h) : am_X Φ M cs pc ls st h := by
  intro p e s m args below meth c C lsA H locs hl hw hS
  subst hn
  exact lv_null C.1 C.2.1 hd (k p e s m args below meth c C lsA H locs hl hw hS)
theorem am_r_iload {i : Nat} {x : Int}  {nx : Nat} (hv : am_at ls i = some (.inl x)) (hd : decode M.2.1 pc = .ok (.iload i, 2)) (hn : pc + 2 = nx) (k : am_X Φ M cs nx ls (.inl x :: st) h) : am_X Φ M cs pc ls st h := by
  intro p e s m args below meth c C lsA H locs hl hw hS
  subst hn
  exact lv_iload C.1 C.2.1 hd (hl.2.2 _ _ hv) (k p e s m args below meth c C lsA H locs hl hw hS)
theorem am_r_iload_n {q : Fin 4} {i : Nat} {x : Int}  {nx : Nat} (hi : (q : Nat) = i) (hv : am_at ls i = some (.inl x)) (hd : decode M.2.1 pc = .ok (.iload_n q, 1)) (hn : pc + 1 = nx) (k : am_X Φ M cs nx ls (.inl x :: st) h) : am_X Φ M cs pc ls st h := by
  intro p e s m args below meth c C lsA H locs hl hw hS
  subst hn
  exact lv_iload_n C.1 C.2.1 hd hi (hl.2.2 _ _ hv) (k p e s m args below meth c C lsA H locs hl hw hS)
theorem am_r_lload {i : Nat} {x : Int64}  {nx : Nat} (hv : am_at ls i = some (am_l x)) (hd : decode M.2.1 pc = .ok (.lload i, 2)) (hn : pc + 2 = nx) (k : am_X Φ M cs nx ls (am_l x :: st) h) : am_X Φ M cs pc ls st h := by
  intro p e s m args below meth c C lsA H locs hl hw hS
  subst hn
  exact lv_lload C.1 C.2.1 hd (hl.2.2 _ _ hv) (k p e s m args below meth c C lsA H locs hl hw hS)
theorem am_r_lload_n {q : Fin 4} {i : Nat} {x : Int64}  {nx : Nat} (hi : (q : Nat) = i) (hv : am_at ls i = some (am_l x)) (hd : decode M.2.1 pc = .ok (.lload_n q, 1)) (hn : pc + 1 = nx) (k : am_X Φ M cs nx ls (am_l x :: st) h) : am_X Φ M cs pc ls st h := by
  intro p e s m args below meth c C lsA H locs hl hw hS
  subst hn
  exact lv_lload_n C.1 C.2.1 hd hi (hl.2.2 _ _ hv) (k p e s m args below meth c C lsA H locs hl hw hS)
theorem am_rf_cases {α : Prop} (b : Nat) (o : Option Nat) (h0 : o = none → α) (h1 : ∀ a, o = some a → α) : α := by
  cases o with
  | none => exact h0 rfl
  | some a => exact h1 a rfl
theorem am_r_aload {i : Nat} {o : Option Nat}  {nx : Nat} (hv : am_at ls i = some (am_r o)) (hd : decode M.2.1 pc = .ok (.aload i, 2)) (hn : pc + 2 = nx) (k : am_X Φ M cs nx ls (am_r o :: st) h) : am_X Φ M cs pc ls st h := by
  intro p e s m args below meth c C lsA H locs hl hw hS
  subst hn
  have kk := k p e s m args below meth c C lsA H locs hl hw hS
  have hv9 := hl.2.2 _ _ hv
  cases o with
  | none => exact lv_aloadN C.1 C.2.1 hd hv9 kk
  | some a => exact lv_aload C.1 C.2.1 hd hv9 kk
theorem am_r_aloadS {i j : Nat}  {nx : Nat} (hv : am_at ls i = some (am_s j)) (hd : decode M.2.1 pc = .ok (.aload i, 2)) (hn : pc + 2 = nx) (k : am_X Φ M cs nx ls (am_s j :: st) h) : am_X Φ M cs pc ls st h := by
  intro p e s m args below meth c C lsA H locs hl hw hS
  subst hn
  exact lv_aload C.1 C.2.1 hd (hl.2.2 _ _ hv) (k p e s m args below meth c C lsA H locs hl hw hS)
theorem am_r_aload_n {q : Fin 4} {i : Nat} {o : Option Nat}  {nx : Nat} (hi : (q : Nat) = i) (hv : am_at ls i = some (am_r o)) (hd : decode M.2.1 pc = .ok (.aload_n q, 1)) (hn : pc + 1 = nx) (k : am_X Φ M cs nx ls (am_r o :: st) h) : am_X Φ M cs pc ls st h := by
  intro p e s m args below meth c C lsA H locs hl hw hS
  subst hn
  have kk := k p e s m args below meth c C lsA H locs hl hw hS
  have hv9 := hl.2.2 _ _ hv
  cases o with
  | none => exact lv_aload_nN C.1 C.2.1 hd hi hv9 kk
  | some a => exact lv_aload_n C.1 C.2.1 hd hi hv9 kk
theorem am_r_aload_nS {q : Fin 4} {i j : Nat}  {nx : Nat} (hi : (q : Nat) = i) (hv : am_at ls i = some (am_s j)) (hd : decode M.2.1 pc = .ok (.aload_n q, 1)) (hn : pc + 1 = nx) (k : am_X Φ M cs nx ls (am_s j :: st) h) : am_X Φ M cs pc ls st h := by
  intro p e s m args below meth c C lsA H locs hl hw hS
  subst hn
  exact lv_aload_n C.1 C.2.1 hd hi (hl.2.2 _ _ hv) (k p e s m args below meth c C lsA H locs hl hw hS)
theorem am_r_istore {i : Nat} {x : Int} {ls1 : am_LS}  {nx : Nat} (hi2 : i < M.2.2.1) (hl1 : am_set (am_kp ls i) i (some (.inl x)) = ls1) (hd : decode M.2.1 pc = .ok (.istore i, 2)) (hn : pc + 2 = nx) (k : am_X Φ M cs nx ls1 st h) : am_X Φ M cs pc ls (.inl x :: st) h := by
  intro p e s m args below meth c C lsA H locs hl hw hS
  subst hn
  subst hl1
  exact lv_istore C.1 C.2.1 hd hl.has hi2 rfl fun ls9 h9 => k p e s m args below meth c C ls9 H locs (hl.st1 (v := .inl x) h9) hw hS
theorem am_r_istore_n {q : Fin 4} {i : Nat} {x : Int} {ls1 : am_LS}  {nx : Nat} (hi : (q : Nat) = i) (hi2 : i < M.2.2.1) (hl1 : am_set (am_kp ls i) i (some (.inl x)) = ls1) (hd : decode M.2.1 pc = .ok (.istore_n q, 1)) (hn : pc + 1 = nx) (k : am_X Φ M cs nx ls1 st h) : am_X Φ M cs pc ls (.inl x :: st) h := by
  intro p e s m args below meth c C lsA H locs hl hw hS
  subst hn
  subst hl1
  exact lv_istore_n C.1 C.2.1 hd hi hl.has hi2 rfl fun ls9 h9 => k p e s m args below meth c C ls9 H locs (hl.st1 (v := .inl x) h9) hw hS
theorem am_r_astore {i : Nat} {o : Option Nat} {ls1 : am_LS}  {nx : Nat} (hi2 : i < M.2.2.1) (hl1 : am_set (am_kp ls i) i (some (am_r o)) = ls1) (hd : decode M.2.1 pc = .ok (.astore i, 2)) (hn : pc + 2 = nx) (k : am_X Φ M cs nx ls1 st h) : am_X Φ M cs pc ls (am_r o :: st) h := by
  intro p e s m args below meth c C lsA H locs hl hw hS
  subst hn
  subst hl1
  cases o with
  | none => exact lv_astoreN C.1 C.2.1 hd hl.has hi2 rfl fun ls9 h9 => k p e s m args below meth c C ls9 H locs (hl.st1 (v := am_r none) h9) hw hS
  | some a => exact lv_astore C.1 C.2.1 hd hl.has hi2 rfl fun ls9 h9 => k p e s m args below meth c C ls9 H locs (hl.st1 (v := am_r (some a)) h9) hw hS
theorem am_r_astore_n {q : Fin 4} {i : Nat} {o : Option Nat} {ls1 : am_LS}  {nx : Nat} (hi : (q : Nat) = i) (hi2 : i < M.2.2.1) (hl1 : am_set (am_kp ls i) i (some (am_r o)) = ls1) (hd : decode M.2.1 pc = .ok (.astore_n q, 1)) (hn : pc + 1 = nx) (k : am_X Φ M cs nx ls1 st h) : am_X Φ M cs pc ls (am_r o :: st) h := by
  intro p e s m args below meth c C lsA H locs hl hw hS
  subst hn
  subst hl1
  cases o with
  | none => exact lv_astore_nN C.1 C.2.1 hd hi hl.has hi2 rfl fun ls9 h9 => k p e s m args below meth c C ls9 H locs (hl.st1 (v := am_r none) h9) hw hS
  | some a => exact lv_astore_n C.1 C.2.1 hd hi hl.has hi2 rfl fun ls9 h9 => k p e s m args below meth c C ls9 H locs (hl.st1 (v := am_r (some a)) h9) hw hS
theorem am_r_lstore {i : Nat} {x : Int64} {ls1 : am_LS}  {nx : Nat} (hi2 : i + 1 < M.2.2.1) (hl1 : am_set (am_set (am_kp ls i) i (some (am_l x))) (i + 1) none = ls1) (hd : decode M.2.1 pc = .ok (.lstore i, 2)) (hn : pc + 2 = nx) (k : am_X Φ M cs nx ls1 st h) : am_X Φ M cs pc ls (am_l x :: st) h := by
  intro p e s m args below meth c C lsA H locs hl hw hS
  subst hn
  subst hl1
  exact lv_lstore C.1 C.2.1 hd hl.has hi2 rfl fun ls9 h9 => k p e s m args below meth c C ls9 H locs (hl.st2 (v := am_l x) h9) hw hS
theorem am_r_lstore_n {q : Fin 4} {i : Nat} {x : Int64} {ls1 : am_LS}  {nx : Nat} (hi : (q : Nat) = i) (hi2 : i + 1 < M.2.2.1) (hl1 : am_set (am_set (am_kp ls i) i (some (am_l x))) (i + 1) none = ls1) (hd : decode M.2.1 pc = .ok (.lstore_n q, 1)) (hn : pc + 1 = nx) (k : am_X Φ M cs nx ls1 st h) : am_X Φ M cs pc ls (am_l x :: st) h := by
  intro p e s m args below meth c C lsA H locs hl hw hS
  subst hn
  subst hl1
  exact lv_lstore_n C.1 C.2.1 hd hi hl.has hi2 rfl fun ls9 h9 => k p e s m args below meth c C ls9 H locs (hl.st2 (v := am_l x) h9) hw hS
theorem am_r_iinc {i : Nat} {n x : Int} {ls1 : am_LS}  {nx : Nat} (hv : am_at ls i = some (.inl x)) (hl1 : am_set ls i (some (.inl (x + n))) = ls1) (hd : decode M.2.1 pc = .ok (.iinc i n, 3)) (hn : pc + 3 = nx) (k : am_X Φ M cs nx ls1 st h) : am_X Φ M cs pc ls st h := by
  intro p e s m args below meth c C lsA H locs hl hw hS
  subst hn
  subst hl1
  have hm := (am_prs_mem (b := Φ.1.2.1) (ad := Φ.1.2.2.1) (nL := M.2.2.1) (ls := ls) (q := (i, am_c Φ.1.2.1 Φ.1.2.2.1 (.inl x)))).mpr ⟨.inl x, hl.lt hv, hv, rfl⟩
  obtain ⟨j, hj⟩ := List.mem_iff_getElem?.mp hm
  exact lv_iinc C.1 C.2.1 hd hl.has hj rfl (hl.lt hv) rfl fun ls9 h9 => k p e s m args below meth c C ls9 H locs (hl.st0 (v := .inl (x + n)) hv (by rw [show am_c Φ.1.2.1 Φ.1.2.2.1 (.inl (x + n)) = .int (Int32.ofInt x + Int32.ofInt n) from congrArg Value.int (Int32.ofInt_add x n)]; exact h9)) hw hS
theorem am_r_iadd {x y : Int}  {nx : Nat} (hd : decode M.2.1 pc = .ok (.iadd, 1)) (hn : pc + 1 = nx) (k : am_X Φ M cs nx ls (.inl (x + y) :: st) h) : am_X Φ M cs pc ls (.inl y :: .inl x :: st) h := by
  intro p e s m args below meth c C lsA H locs hl hw hS
  subst hn
  have kk := k p e s m args below meth c C lsA H locs hl hw hS
  rw [show ((.inl (x + y) :: st : List am_V).map (am_c Φ.1.2.1 Φ.1.2.2.1)) = .int (Int32.ofInt x + Int32.ofInt y) :: st.map (am_c Φ.1.2.1 Φ.1.2.2.1) from congrArg (fun z => Value.int z :: st.map (am_c Φ.1.2.1 Φ.1.2.2.1)) (Int32.ofInt_add x y)] at kk
  exact lv_iadd C.1 C.2.1 hd kk
theorem am_r_isub {x y : Int}  {nx : Nat} (hd : decode M.2.1 pc = .ok (.isub, 1)) (hn : pc + 1 = nx) (k : am_X Φ M cs nx ls (.inl (x - y) :: st) h) : am_X Φ M cs pc ls (.inl y :: .inl x :: st) h := by
  intro p e s m args below meth c C lsA H locs hl hw hS
  subst hn
  have kk := k p e s m args below meth c C lsA H locs hl hw hS
  rw [show ((.inl (x - y) :: st : List am_V).map (am_c Φ.1.2.1 Φ.1.2.2.1)) = .int (Int32.ofInt x - Int32.ofInt y) :: st.map (am_c Φ.1.2.1 Φ.1.2.2.1) from congrArg (fun z => Value.int z :: st.map (am_c Φ.1.2.1 Φ.1.2.2.1)) (Int32.ofInt_sub x y)] at kk
  exact lv_isub C.1 C.2.1 hd kk
theorem am_r_imul {x y : Int}  {nx : Nat} (hd : decode M.2.1 pc = .ok (.imul, 1)) (hn : pc + 1 = nx) (k : am_X Φ M cs nx ls (.inl (x * y) :: st) h) : am_X Φ M cs pc ls (.inl y :: .inl x :: st) h := by
  intro p e s m args below meth c C lsA H locs hl hw hS
  subst hn
  have kk := k p e s m args below meth c C lsA H locs hl hw hS
  rw [show ((.inl (x * y) :: st : List am_V).map (am_c Φ.1.2.1 Φ.1.2.2.1)) = .int (Int32.ofInt x * Int32.ofInt y) :: st.map (am_c Φ.1.2.1 Φ.1.2.2.1) from congrArg (fun z => Value.int z :: st.map (am_c Φ.1.2.1 Φ.1.2.2.1)) (Int32.ofInt_mul x y)] at kk
  exact lv_imul C.1 C.2.1 hd kk
theorem am_r_idiv {x y : Int}  {nx : Nat} (hx : -2147483648 ≤ x ∧ x ≤ 2147483647) (hy : 0 < y ∧ y ≤ 2147483647) (hd : decode M.2.1 pc = .ok (.idiv, 1)) (hn : pc + 1 = nx) (k : am_X Φ M cs nx ls (.inl (x.tdiv y) :: st) h) : am_X Φ M cs pc ls (.inl y :: .inl x :: st) h := by
  intro p e s m args below meth c C lsA H locs hl hw hS
  subst hn
  have kk := k p e s m args below meth c C lsA H locs hl hw hS
  rw [show ((.inl (x.tdiv y) :: st : List am_V).map (am_c Φ.1.2.1 Φ.1.2.2.1)) = .int (Int32.ofInt x / Int32.ofInt y) :: st.map (am_c Φ.1.2.1 Φ.1.2.2.1) from congrArg (fun z => Value.int z :: st.map (am_c Φ.1.2.1 Φ.1.2.2.1)) (Int32.ofInt_tdiv hx.1 hx.2 (Int.le_trans (by decide) (Int.le_of_lt hy.1)) hy.2)] at kk
  exact lv_idiv C.1 C.2.1 hd (fun z => by rw [show (0 : Int32) = Int32.ofInt 0 from rfl, am_of_eq (by omega) (by omega)] at z; omega) kk
theorem am_r_irem {x y : Int}  {nx : Nat} (hx : -2147483648 ≤ x ∧ x ≤ 2147483647) (hy : 0 < y ∧ y ≤ 2147483647) (hd : decode M.2.1 pc = .ok (.irem, 1)) (hn : pc + 1 = nx) (k : am_X Φ M cs nx ls (.inl (x.tmod y) :: st) h) : am_X Φ M cs pc ls (.inl y :: .inl x :: st) h := by
  intro p e s m args below meth c C lsA H locs hl hw hS
  subst hn
  have kk := k p e s m args below meth c C lsA H locs hl hw hS
  have e9 : Int32.ofInt (x.tmod y) = Int32.ofInt x - Int32.ofInt x / Int32.ofInt y * Int32.ofInt y := by rw [← Int32.ofInt_tdiv hx.1 hx.2 (Int.le_trans (by decide) (Int.le_of_lt hy.1)) hy.2, ← Int32.ofInt_mul, ← Int32.ofInt_sub, Int.tmod_def, Int.mul_comm]
  rw [show ((.inl (x.tmod y) :: st : List am_V).map (am_c Φ.1.2.1 Φ.1.2.2.1)) = .int (Int32.ofInt x - Int32.ofInt x / Int32.ofInt y * Int32.ofInt y) :: st.map (am_c Φ.1.2.1 Φ.1.2.2.1) from congrArg (fun z => Value.int z :: st.map (am_c Φ.1.2.1 Φ.1.2.2.1)) (e9)] at kk
  exact lv_irem C.1 C.2.1 hd (fun z => by rw [show (0 : Int32) = Int32.ofInt 0 from rfl, am_of_eq (by omega) (by omega)] at z; omega) kk
def am_shl (x y : Int) : Int := (Int32.ofInt x <<< (Int32.ofInt y &&& 31)).toInt
def am_shr (x y : Int) : Int := (Int32.ofInt x >>> (Int32.ofInt y &&& 31)).toInt
def am_ushr (x y : Int) : Int := ((Int32.ofInt x).toUInt32 >>> ((Int32.ofInt y).toUInt32 &&& Int32.toUInt32 31)).toInt32.toInt
def am_and (x y : Int) : Int := (Int32.ofInt x &&& Int32.ofInt y).toInt
def am_or (x y : Int) : Int := (Int32.ofInt x ||| Int32.ofInt y).toInt
def am_i2b (x : Int) : Int := (Int32.ofInt x).toInt8.toInt32.toInt
def am_i2c (x : Int) : Int := ((Int32.ofInt x).toUInt32 % 65536).toInt32.toInt
def am_l2i (x : Int64) : Int := x.toInt32.toInt
def am_lcmp (x y : Int64) : Int := (lg_cmp x y).toInt
theorem am_r_ishl {x y : Int}  {nx : Nat} (hd : decode M.2.1 pc = .ok (.ishl, 1)) (hn : pc + 1 = nx) (k : am_X Φ M cs nx ls (.inl (am_shl x y) :: st) h) : am_X Φ M cs pc ls (.inl y :: .inl x :: st) h := by
  intro p e s m args below meth c C lsA H locs hl hw hS
  subst hn
  have kk := k p e s m args below meth c C lsA H locs hl hw hS
  rw [show ((.inl (am_shl x y) :: st : List am_V).map (am_c Φ.1.2.1 Φ.1.2.2.1)) = .int (Int32.ofInt x <<< (Int32.ofInt y &&& 31)) :: st.map (am_c Φ.1.2.1 Φ.1.2.2.1) from congrArg (fun z => Value.int z :: st.map (am_c Φ.1.2.1 Φ.1.2.2.1)) (Int32.ofInt_toInt _)] at kk
  exact lv_ishl C.1 C.2.1 hd kk
theorem am_r_ishr {x y : Int}  {nx : Nat} (hd : decode M.2.1 pc = .ok (.ishr, 1)) (hn : pc + 1 = nx) (k : am_X Φ M cs nx ls (.inl (am_shr x y) :: st) h) : am_X Φ M cs pc ls (.inl y :: .inl x :: st) h := by
  intro p e s m args below meth c C lsA H locs hl hw hS
  subst hn
  have kk := k p e s m args below meth c C lsA H locs hl hw hS
  rw [show ((.inl (am_shr x y) :: st : List am_V).map (am_c Φ.1.2.1 Φ.1.2.2.1)) = .int (Int32.ofInt x >>> (Int32.ofInt y &&& 31)) :: st.map (am_c Φ.1.2.1 Φ.1.2.2.1) from congrArg (fun z => Value.int z :: st.map (am_c Φ.1.2.1 Φ.1.2.2.1)) (Int32.ofInt_toInt _)] at kk
  exact lv_ishr C.1 C.2.1 hd kk
theorem am_r_iand {x y : Int}  {nx : Nat} (hd : decode M.2.1 pc = .ok (.iand, 1)) (hn : pc + 1 = nx) (k : am_X Φ M cs nx ls (.inl (am_and x y) :: st) h) : am_X Φ M cs pc ls (.inl y :: .inl x :: st) h := by
  intro p e s m args below meth c C lsA H locs hl hw hS
  subst hn
  have kk := k p e s m args below meth c C lsA H locs hl hw hS
  rw [show ((.inl (am_and x y) :: st : List am_V).map (am_c Φ.1.2.1 Φ.1.2.2.1)) = .int (Int32.ofInt x &&& Int32.ofInt y) :: st.map (am_c Φ.1.2.1 Φ.1.2.2.1) from congrArg (fun z => Value.int z :: st.map (am_c Φ.1.2.1 Φ.1.2.2.1)) (Int32.ofInt_toInt _)] at kk
  exact lv_iand C.1 C.2.1 hd kk
theorem am_r_ior {x y : Int}  {nx : Nat} (hd : decode M.2.1 pc = .ok (.ior, 1)) (hn : pc + 1 = nx) (k : am_X Φ M cs nx ls (.inl (am_or x y) :: st) h) : am_X Φ M cs pc ls (.inl y :: .inl x :: st) h := by
  intro p e s m args below meth c C lsA H locs hl hw hS
  subst hn
  have kk := k p e s m args below meth c C lsA H locs hl hw hS
  rw [show ((.inl (am_or x y) :: st : List am_V).map (am_c Φ.1.2.1 Φ.1.2.2.1)) = .int (Int32.ofInt x ||| Int32.ofInt y) :: st.map (am_c Φ.1.2.1 Φ.1.2.2.1) from congrArg (fun z => Value.int z :: st.map (am_c Φ.1.2.1 Φ.1.2.2.1)) (Int32.ofInt_toInt _)] at kk
  exact lv_ior C.1 C.2.1 hd kk
theorem am_r_iushr {x y : Int}  {nx : Nat} (hd : decode M.2.1 pc = .ok (.iushr, 1)) (hn : pc + 1 = nx) (k : am_X Φ M cs nx ls (.inl (am_ushr x y) :: st) h) : am_X Φ M cs pc ls (.inl y :: .inl x :: st) h := by
  intro p e s m args below meth c C lsA H locs hl hw hS
  subst hn
  have kk := k p e s m args below meth c C lsA H locs hl hw hS
  exact lv_iushr C.1 C.2.1 hd (Int32.ofInt_toInt _).symm kk
theorem am_r_i2b {x : Int}  {nx : Nat} (hd : decode M.2.1 pc = .ok (.i2b, 1)) (hn : pc + 1 = nx) (k : am_X Φ M cs nx ls (.inl (am_i2b x) :: st) h) : am_X Φ M cs pc ls (.inl x :: st) h := by
  intro p e s m args below meth c C lsA H locs hl hw hS
  subst hn
  exact lv_i2b C.1 C.2.1 hd (Int32.ofInt_toInt _).symm (k p e s m args below meth c C lsA H locs hl hw hS)
theorem am_r_i2c {x : Int}  {nx : Nat} (hd : decode M.2.1 pc = .ok (.i2c, 1)) (hn : pc + 1 = nx) (k : am_X Φ M cs nx ls (.inl (am_i2c x) :: st) h) : am_X Φ M cs pc ls (.inl x :: st) h := by
  intro p e s m args below meth c C lsA H locs hl hw hS
  subst hn
  exact lv_i2c C.1 C.2.1 hd (Int32.ofInt_toInt _).symm (k p e s m args below meth c C lsA H locs hl hw hS)
theorem am_r_l2i {x : Int64}  {nx : Nat} (hd : decode M.2.1 pc = .ok (.l2i, 1)) (hn : pc + 1 = nx) (k : am_X Φ M cs nx ls (.inl (am_l2i x) :: st) h) : am_X Φ M cs pc ls (am_l x :: st) h := by
  intro p e s m args below meth c C lsA H locs hl hw hS
  subst hn
  exact lv_l2i C.1 C.2.1 hd (Int32.ofInt_toInt _).symm (k p e s m args below meth c C lsA H locs hl hw hS)
theorem am_r_ladd {x y : Int64}  {nx : Nat} (hd : decode M.2.1 pc = .ok (.ladd, 1)) (hn : pc + 1 = nx) (k : am_X Φ M cs nx ls (am_l (x + y) :: st) h) : am_X Φ M cs pc ls (am_l y :: am_l x :: st) h := by
  intro p e s m args below meth c C lsA H locs hl hw hS
  subst hn
  exact lv_ladd C.1 C.2.1 hd (k p e s m args below meth c C lsA H locs hl hw hS)
theorem am_r_lmul {x y : Int64}  {nx : Nat} (hd : decode M.2.1 pc = .ok (.lmul, 1)) (hn : pc + 1 = nx) (k : am_X Φ M cs nx ls (am_l (x * y) :: st) h) : am_X Φ M cs pc ls (am_l y :: am_l x :: st) h := by
  intro p e s m args below meth c C lsA H locs hl hw hS
  subst hn
  exact lv_lmul C.1 C.2.1 hd (k p e s m args below meth c C lsA H locs hl hw hS)
theorem am_r_lcmp {x y : Int64}  {nx : Nat} (hd : decode M.2.1 pc = .ok (.lcmp, 1)) (hn : pc + 1 = nx) (k : am_X Φ M cs nx ls (.inl (am_lcmp x y) :: st) h) : am_X Φ M cs pc ls (am_l y :: am_l x :: st) h := by
  intro p e s m args below meth c C lsA H locs hl hw hS
  subst hn
  have kk := k p e s m args below meth c C lsA H locs hl hw hS
  rw [show ((.inl (am_lcmp x y) :: st : List am_V).map (am_c Φ.1.2.1 Φ.1.2.2.1)) = .int (lg_cmp x y) :: st.map (am_c Φ.1.2.1 Φ.1.2.2.1) from congrArg (fun z => Value.int z :: st.map (am_c Φ.1.2.1 Φ.1.2.2.1)) (Int32.ofInt_toInt _)] at kk
  exact W.lcmp C.1 C.2.1 hd kk
theorem am_r_pop {x : Int}  {nx : Nat} (hd : decode M.2.1 pc = .ok (.pop, 1)) (hn : pc + 1 = nx) (k : am_X Φ M cs nx ls st h) : am_X Φ M cs pc ls (.inl x :: st) h := by
  intro p e s m args below meth c C lsA H locs hl hw hS
  subst hn
  exact lv_pop C.1 C.2.1 hd rfl (k p e s m args below meth c C lsA H locs hl hw hS)
theorem am_r_dup {v : am_V}  {nx : Nat} (hv : am_cat v = 1) (hd : decode M.2.1 pc = .ok (.dup, 1)) (hn : pc + 1 = nx) (k : am_X Φ M cs nx ls (v :: v :: st) h) : am_X Φ M cs pc ls (v :: st) h := by
  intro p e s m args below meth c C lsA H locs hl hw hS
  subst hn
  exact lv_dup C.1 C.2.1 hd (by rw [am_c_cat]; exact hv) (k p e s m args below meth c C lsA H locs hl hw hS)
theorem am_r_dup2 {v w : am_V}  {nx : Nat} (hv : am_cat v = 1) (hv2 : am_cat w = 1) (hd : decode M.2.1 pc = .ok (.dup2, 1)) (hn : pc + 1 = nx) (k : am_X Φ M cs nx ls (v :: w :: v :: w :: st) h) : am_X Φ M cs pc ls (v :: w :: st) h := by
  intro p e s m args below meth c C lsA H locs hl hw hS
  subst hn
  exact lv_dup2_11 C.1 C.2.1 hd (by rw [am_c_cat]; exact hv) (by rw [am_c_cat]; exact hv2) (k p e s m args below meth c C lsA H locs hl hw hS)
theorem am_r_goto {off : Int} {tg : Nat} (hd : decode M.2.1 pc = .ok (.goto off, 3)) (ht : (pc : Int) + off = (tg : Int)) (k : am_X Φ M cs tg ls st h) : am_X Φ M cs pc ls st h := by
  intro p e s m args below meth c C lsA H locs hl hw hS
  exact lv_goto C.1 C.2.1 hd ht (k p e s m args below meth c C lsA H locs hl hw hS)
theorem am_r_icmp_eq {x y off : Int} {tg nx : Nat} (hd : decode M.2.1 pc = .ok (.if_icmp .eq off, 3)) (ht : (pc : Int) + off = (tg : Int)) (hn : pc + 3 = nx) (hx : -2147483648 ≤ x ∧ x ≤ 2147483647) (hy : -2147483648 ≤ y ∧ y ≤ 2147483647) (kt : x = y → am_X Φ M cs tg ls st h) (kf : ¬ (x = y) → am_X Φ M cs nx ls st h) : am_X Φ M cs pc ls (.inl y :: .inl x :: st) h := by
  intro p e s m args below meth c C lsA H locs hl hw hS
  subst hn
  have e1 := am_of_eq hx hy
  have e2 := am_of_eq hy hx
  refine lv_icmp_eq C.1 C.2.1 hd ht (fun q => kt ?_ p e s m args below meth c C lsA H locs hl hw hS) (fun q => kf ?_ p e s m args below meth c C lsA H locs hl hw hS)
  · first | exact e1.mp q | exact e2.mp q | exact fun z => q (e1.mpr z) | (have q9 : Int32.ofInt y < Int32.ofInt x := q; exact e2.mp q9)
  · first | exact fun z => q (e1.mpr z) | exact fun z => q (e2.mpr z) | exact fun z => z (e1.mp (Classical.not_not.mp q)) | exact fun z => z (e1.mp q)
theorem am_r_icmp_ne {x y off : Int} {tg nx : Nat} (hd : decode M.2.1 pc = .ok (.if_icmp .ne off, 3)) (ht : (pc : Int) + off = (tg : Int)) (hn : pc + 3 = nx) (hx : -2147483648 ≤ x ∧ x ≤ 2147483647) (hy : -2147483648 ≤ y ∧ y ≤ 2147483647) (kt : ¬ x = y → am_X Φ M cs tg ls st h) (kf : ¬ (¬ x = y) → am_X Φ M cs nx ls st h) : am_X Φ M cs pc ls (.inl y :: .inl x :: st) h := by
  intro p e s m args below meth c C lsA H locs hl hw hS
  subst hn
  have e1 := am_of_eq hx hy
  have e2 := am_of_eq hy hx
  refine lv_icmp_ne C.1 C.2.1 hd ht (fun q => kt ?_ p e s m args below meth c C lsA H locs hl hw hS) (fun q => kf ?_ p e s m args below meth c C lsA H locs hl hw hS)
  · first | exact e1.mp q | exact e2.mp q | exact fun z => q (e1.mpr z) | (have q9 : Int32.ofInt y < Int32.ofInt x := q; exact e2.mp q9)
  · first | exact fun z => q (e1.mpr z) | exact fun z => q (e2.mpr z) | exact fun z => z (e1.mp (Classical.not_not.mp q)) | exact fun z => z (e1.mp q)
theorem am_r_icmp_lt {x y off : Int} {tg nx : Nat} (hd : decode M.2.1 pc = .ok (.if_icmp .lt off, 3)) (ht : (pc : Int) + off = (tg : Int)) (hn : pc + 3 = nx) (hx : -2147483648 ≤ x ∧ x ≤ 2147483647) (hy : -2147483648 ≤ y ∧ y ≤ 2147483647) (kt : x < y → am_X Φ M cs tg ls st h) (kf : ¬ (x < y) → am_X Φ M cs nx ls st h) : am_X Φ M cs pc ls (.inl y :: .inl x :: st) h := by
  intro p e s m args below meth c C lsA H locs hl hw hS
  subst hn
  have e1 := am_of_lt hx hy
  have e2 := am_of_lt hy hx
  refine lv_icmp_lt C.1 C.2.1 hd ht (fun q => kt ?_ p e s m args below meth c C lsA H locs hl hw hS) (fun q => kf ?_ p e s m args below meth c C lsA H locs hl hw hS)
  · first | exact e1.mp q | exact e2.mp q | exact fun z => q (e1.mpr z) | (have q9 : Int32.ofInt y < Int32.ofInt x := q; exact e2.mp q9)
  · first | exact fun z => q (e1.mpr z) | exact fun z => q (e2.mpr z) | exact fun z => z (e1.mp (Classical.not_not.mp q)) | exact fun z => z (e1.mp q)
theorem am_r_icmp_le {x y off : Int} {tg nx : Nat} (hd : decode M.2.1 pc = .ok (.if_icmp .le off, 3)) (ht : (pc : Int) + off = (tg : Int)) (hn : pc + 3 = nx) (hx : -2147483648 ≤ x ∧ x ≤ 2147483647) (hy : -2147483648 ≤ y ∧ y ≤ 2147483647) (kt : x ≤ y → am_X Φ M cs tg ls st h) (kf : ¬ (x ≤ y) → am_X Φ M cs nx ls st h) : am_X Φ M cs pc ls (.inl y :: .inl x :: st) h := by
  intro p e s m args below meth c C lsA H locs hl hw hS
  subst hn
  have e1 := am_of_le hx hy
  have e2 := am_of_le hy hx
  refine lv_icmp_le C.1 C.2.1 hd ht (fun q => kt ?_ p e s m args below meth c C lsA H locs hl hw hS) (fun q => kf ?_ p e s m args below meth c C lsA H locs hl hw hS)
  · first | exact e1.mp q | exact e2.mp q | exact fun z => q (e1.mpr z) | (have q9 : Int32.ofInt y < Int32.ofInt x := q; exact e2.mp q9)
  · first | exact fun z => q (e1.mpr z) | exact fun z => q (e2.mpr z) | exact fun z => z (e1.mp (Classical.not_not.mp q)) | exact fun z => z (e1.mp q)
theorem am_r_icmp_gt {x y off : Int} {tg nx : Nat} (hd : decode M.2.1 pc = .ok (.if_icmp .gt off, 3)) (ht : (pc : Int) + off = (tg : Int)) (hn : pc + 3 = nx) (hx : -2147483648 ≤ x ∧ x ≤ 2147483647) (hy : -2147483648 ≤ y ∧ y ≤ 2147483647) (kt : y < x → am_X Φ M cs tg ls st h) (kf : ¬ (y < x) → am_X Φ M cs nx ls st h) : am_X Φ M cs pc ls (.inl y :: .inl x :: st) h := by
  intro p e s m args below meth c C lsA H locs hl hw hS
  subst hn
  have e1 := am_of_lt hx hy
  have e2 := am_of_lt hy hx
  refine lv_icmp_gt C.1 C.2.1 hd ht (fun q => kt ?_ p e s m args below meth c C lsA H locs hl hw hS) (fun q => kf ?_ p e s m args below meth c C lsA H locs hl hw hS)
  · first | exact e1.mp q | exact e2.mp q | exact fun z => q (e1.mpr z) | (have q9 : Int32.ofInt y < Int32.ofInt x := q; exact e2.mp q9)
  · first | exact fun z => q (e1.mpr z) | exact fun z => q (e2.mpr z) | exact fun z => z (e1.mp (Classical.not_not.mp q)) | exact fun z => z (e1.mp q)
theorem am_r_icmp_ge {x y off : Int} {tg nx : Nat} (hd : decode M.2.1 pc = .ok (.if_icmp .ge off, 3)) (ht : (pc : Int) + off = (tg : Int)) (hn : pc + 3 = nx) (hx : -2147483648 ≤ x ∧ x ≤ 2147483647) (hy : -2147483648 ≤ y ∧ y ≤ 2147483647) (kt : y ≤ x → am_X Φ M cs tg ls st h) (kf : ¬ (y ≤ x) → am_X Φ M cs nx ls st h) : am_X Φ M cs pc ls (.inl y :: .inl x :: st) h := by
  intro p e s m args below meth c C lsA H locs hl hw hS
  subst hn
  have e1 := am_of_le hx hy
  have e2 := am_of_le hy hx
  refine lv_icmp_ge C.1 C.2.1 hd ht (fun q => kt ?_ p e s m args below meth c C lsA H locs hl hw hS) (fun q => kf ?_ p e s m args below meth c C lsA H locs hl hw hS)
  · first | exact e1.mp q | exact e2.mp q | exact fun z => q (e1.mpr z) | (have q9 : Int32.ofInt y < Int32.ofInt x := q; exact e2.mp q9)
  · first | exact fun z => q (e1.mpr z) | exact fun z => q (e2.mpr z) | exact fun z => z (e1.mp (Classical.not_not.mp q)) | exact fun z => z (e1.mp q)
theorem am_r_if_eq {x off : Int} {tg nx : Nat} (hd : decode M.2.1 pc = .ok (.ifCond .eq off, 3)) (ht : (pc : Int) + off = (tg : Int)) (hn : pc + 3 = nx) (hx : -2147483648 ≤ x ∧ x ≤ 2147483647) (kt : x = 0 → am_X Φ M cs tg ls st h) (kf : ¬ (x = 0) → am_X Φ M cs nx ls st h) : am_X Φ M cs pc ls (.inl x :: st) h := by
  intro p e s m args below meth c C lsA H locs hl hw hS
  subst hn
  have hy : -2147483648 ≤ (0 : Int) ∧ (0 : Int) ≤ 2147483647 := by omega
  have e1 := am_of_eq hx hy
  have e2 := am_of_eq hy hx
  refine lv_if_eq C.1 C.2.1 hd ht (fun q => kt ?_ p e s m args below meth c C lsA H locs hl hw hS) (fun q => kf ?_ p e s m args below meth c C lsA H locs hl hw hS)
  · first | exact e1.mp q | exact e2.mp q | exact fun z => q (e1.mpr z)
  · first | exact fun z => q (e1.mpr z) | exact fun z => q (e2.mpr z) | exact fun z => z (e1.mp (Classical.not_not.mp q)) | exact fun z => z (e1.mp q)
theorem am_r_if_ne {x off : Int} {tg nx : Nat} (hd : decode M.2.1 pc = .ok (.ifCond .ne off, 3)) (ht : (pc : Int) + off = (tg : Int)) (hn : pc + 3 = nx) (hx : -2147483648 ≤ x ∧ x ≤ 2147483647) (kt : ¬ x = 0 → am_X Φ M cs tg ls st h) (kf : ¬ (¬ x = 0) → am_X Φ M cs nx ls st h) : am_X Φ M cs pc ls (.inl x :: st) h := by
  intro p e s m args below meth c C lsA H locs hl hw hS
  subst hn
  have hy : -2147483648 ≤ (0 : Int) ∧ (0 : Int) ≤ 2147483647 := by omega
  have e1 := am_of_eq hx hy
  have e2 := am_of_eq hy hx
  refine lv_if_ne C.1 C.2.1 hd ht (fun q => kt ?_ p e s m args below meth c C lsA H locs hl hw hS) (fun q => kf ?_ p e s m args below meth c C lsA H locs hl hw hS)
  · first | exact e1.mp q | exact e2.mp q | exact fun z => q (e1.mpr z)
  · first | exact fun z => q (e1.mpr z) | exact fun z => q (e2.mpr z) | exact fun z => z (e1.mp (Classical.not_not.mp q)) | exact fun z => z (e1.mp q)
theorem am_r_if_lt {x off : Int} {tg nx : Nat} (hd : decode M.2.1 pc = .ok (.ifCond .lt off, 3)) (ht : (pc : Int) + off = (tg : Int)) (hn : pc + 3 = nx) (hx : -2147483648 ≤ x ∧ x ≤ 2147483647) (kt : x < 0 → am_X Φ M cs tg ls st h) (kf : ¬ (x < 0) → am_X Φ M cs nx ls st h) : am_X Φ M cs pc ls (.inl x :: st) h := by
  intro p e s m args below meth c C lsA H locs hl hw hS
  subst hn
  have hy : -2147483648 ≤ (0 : Int) ∧ (0 : Int) ≤ 2147483647 := by omega
  have e1 := am_of_lt hx hy
  have e2 := am_of_lt hy hx
  refine lv_if_lt C.1 C.2.1 hd ht (fun q => kt ?_ p e s m args below meth c C lsA H locs hl hw hS) (fun q => kf ?_ p e s m args below meth c C lsA H locs hl hw hS)
  · first | exact e1.mp q | exact e2.mp q | exact fun z => q (e1.mpr z)
  · first | exact fun z => q (e1.mpr z) | exact fun z => q (e2.mpr z) | exact fun z => z (e1.mp (Classical.not_not.mp q)) | exact fun z => z (e1.mp q)
theorem am_r_if_le {x off : Int} {tg nx : Nat} (hd : decode M.2.1 pc = .ok (.ifCond .le off, 3)) (ht : (pc : Int) + off = (tg : Int)) (hn : pc + 3 = nx) (hx : -2147483648 ≤ x ∧ x ≤ 2147483647) (kt : x ≤ 0 → am_X Φ M cs tg ls st h) (kf : ¬ (x ≤ 0) → am_X Φ M cs nx ls st h) : am_X Φ M cs pc ls (.inl x :: st) h := by
  intro p e s m args below meth c C lsA H locs hl hw hS
  subst hn
  have hy : -2147483648 ≤ (0 : Int) ∧ (0 : Int) ≤ 2147483647 := by omega
  have e1 := am_of_le hx hy
  have e2 := am_of_le hy hx
  refine lv_if_le C.1 C.2.1 hd ht (fun q => kt ?_ p e s m args below meth c C lsA H locs hl hw hS) (fun q => kf ?_ p e s m args below meth c C lsA H locs hl hw hS)
  · first | exact e1.mp q | exact e2.mp q | exact fun z => q (e1.mpr z)
  · first | exact fun z => q (e1.mpr z) | exact fun z => q (e2.mpr z) | exact fun z => z (e1.mp (Classical.not_not.mp q)) | exact fun z => z (e1.mp q)
theorem am_r_if_gt {x off : Int} {tg nx : Nat} (hd : decode M.2.1 pc = .ok (.ifCond .gt off, 3)) (ht : (pc : Int) + off = (tg : Int)) (hn : pc + 3 = nx) (hx : -2147483648 ≤ x ∧ x ≤ 2147483647) (kt : 0 < x → am_X Φ M cs tg ls st h) (kf : ¬ (0 < x) → am_X Φ M cs nx ls st h) : am_X Φ M cs pc ls (.inl x :: st) h := by
  intro p e s m args below meth c C lsA H locs hl hw hS
  subst hn
  have hy : -2147483648 ≤ (0 : Int) ∧ (0 : Int) ≤ 2147483647 := by omega
  have e1 := am_of_lt hx hy
  have e2 := am_of_lt hy hx
  refine lv_if_gt C.1 C.2.1 hd ht (fun q => kt ?_ p e s m args below meth c C lsA H locs hl hw hS) (fun q => kf ?_ p e s m args below meth c C lsA H locs hl hw hS)
  · first | exact e1.mp q | exact e2.mp q | exact fun z => q (e1.mpr z)
  · first | exact fun z => q (e1.mpr z) | exact fun z => q (e2.mpr z) | exact fun z => z (e1.mp (Classical.not_not.mp q)) | exact fun z => z (e1.mp q)
theorem am_r_if_ge {x off : Int} {tg nx : Nat} (hd : decode M.2.1 pc = .ok (.ifCond .ge off, 3)) (ht : (pc : Int) + off = (tg : Int)) (hn : pc + 3 = nx) (hx : -2147483648 ≤ x ∧ x ≤ 2147483647) (kt : 0 ≤ x → am_X Φ M cs tg ls st h) (kf : ¬ (0 ≤ x) → am_X Φ M cs nx ls st h) : am_X Φ M cs pc ls (.inl x :: st) h := by
  intro p e s m args below meth c C lsA H locs hl hw hS
  subst hn
  have hy : -2147483648 ≤ (0 : Int) ∧ (0 : Int) ≤ 2147483647 := by omega
  have e1 := am_of_le hx hy
  have e2 := am_of_le hy hx
  refine lv_if_ge C.1 C.2.1 hd ht (fun q => kt ?_ p e s m args below meth c C lsA H locs hl hw hS) (fun q => kf ?_ p e s m args below meth c C lsA H locs hl hw hS)
  · first | exact e1.mp q | exact e2.mp q | exact fun z => q (e1.mpr z)
  · first | exact fun z => q (e1.mpr z) | exact fun z => q (e2.mpr z) | exact fun z => z (e1.mp (Classical.not_not.mp q)) | exact fun z => z (e1.mp q)
theorem am_r_ifnull {o : Option Nat} {off : Int} {tg nx : Nat} (hd : decode M.2.1 pc = .ok (.ifnull off, 3)) (ht : (pc : Int) + off = (tg : Int)) (hn : pc + 3 = nx) (k0 : o = none → am_X Φ M cs tg ls st h) (k1 : ∀ a, o = some a → am_X Φ M cs nx ls st h) : am_X Φ M cs pc ls (am_r o :: st) h := by
  intro p e s m args below meth c C lsA H locs hl hw hS
  subst hn
  cases o with
  | none => exact lv_ifnullN C.1 C.2.1 hd ht (k0 rfl p e s m args below meth c C lsA H locs hl hw hS)
  | some a => exact lv_ifnull C.1 C.2.1 hd (k1 a rfl p e s m args below meth c C lsA H locs hl hw hS)
theorem am_r_ifnonnull {o : Option Nat} {off : Int} {tg nx : Nat} (hd : decode M.2.1 pc = .ok (.ifnonnull off, 3)) (ht : (pc : Int) + off = (tg : Int)) (hn : pc + 3 = nx) (k0 : o = none → am_X Φ M cs nx ls st h) (k1 : ∀ a, o = some a → am_X Φ M cs tg ls st h) : am_X Φ M cs pc ls (am_r o :: st) h := by
  intro p e s m args below meth c C lsA H locs hl hw hS
  subst hn
  cases o with
  | none => exact lv_ifnonnullN C.1 C.2.1 hd (k0 rfl p e s m args below meth c C lsA H locs hl hw hS)
  | some a => exact lv_ifnonnull C.1 C.2.1 hd ht (k1 a rfl p e s m args below meth c C lsA H locs hl hw hS)
theorem am_r_acmp_ne {o o2 : Option Nat} {off : Int} {tg nx : Nat} (hd : decode M.2.1 pc = .ok (.if_acmp .ne off, 3)) (ht : (pc : Int) + off = (tg : Int)) (hn : pc + 3 = nx) (kt : ¬ o = o2 → am_X Φ M cs tg ls st h) (kf : o = o2 → am_X Φ M cs nx ls st h) : am_X Φ M cs pc ls (am_r o2 :: am_r o :: st) h := by
  intro p e s m args below meth c C lsA H locs hl hw hS
  subst hn
  have inj : o.map (Φ.1.2.1 + ·) = o2.map (Φ.1.2.1 + ·) → o = o2 := by
    intro q
    cases o <;> cases o2 <;> simp_all
  refine lv_acmp_ne C.1 C.2.1 hd ht (fun q => kt (fun z => q (by rw [z])) p e s m args below meth c C lsA H locs hl hw hS) (fun q => kf (inj q) p e s m args below meth c C lsA H locs hl hw hS)
theorem am_r_tabIn {x dflt lo hi off : Int} {offs : Array Int} {len tg : Nat} (hd : decode M.2.1 pc = .ok (.tableswitch dflt lo hi offs, len)) (hx : -2147483648 ≤ x ∧ x ≤ 2147483647) (h1 : ¬ x < lo) (h2 : ¬ hi < x) (ho : offs[(x - lo).toNat]? = some off) (ht : (pc : Int) + off = (tg : Int)) (k : am_X Φ M cs tg ls st h) : am_X Φ M cs pc ls (.inl x :: st) h := by
  intro p e s m args below meth c C lsA H locs hl hw hS
  have e9 : (Int32.ofInt x).toInt = x := Int32.toInt_ofInt_of_le (by omega) (by omega)
  exact lv_tableIn C.1 C.2.1 hd (by rw [e9]; exact h1) (by rw [e9]; exact h2) (by rw [e9]; exact ho) ht (k p e s m args below meth c C lsA H locs hl hw hS)
theorem am_r_tabOut {x dflt lo hi : Int} {offs : Array Int} {len tg : Nat} (hd : decode M.2.1 pc = .ok (.tableswitch dflt lo hi offs, len)) (hx : -2147483648 ≤ x ∧ x ≤ 2147483647) (h1 : x < lo ∨ hi < x) (ht : (pc : Int) + dflt = (tg : Int)) (k : am_X Φ M cs tg ls st h) : am_X Φ M cs pc ls (.inl x :: st) h := by
  intro p e s m args below meth c C lsA H locs hl hw hS
  have e9 : (Int32.ofInt x).toInt = x := Int32.toInt_ofInt_of_le (by omega) (by omega)
  exact lv_tableOut C.1 C.2.1 hd (by rw [e9]; exact h1) ht (k p e s m args below meth c C lsA H locs hl hw hS)
end
