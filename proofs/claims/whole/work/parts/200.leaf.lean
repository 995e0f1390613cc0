section
/-! Contracts of the small methods. -/
theorem am_up_ap {α : Type} {f : Nat → Int → α} {a b : Nat} {k j : Int} {v : α} : am_up f a k v b j = if b = a ∧ j = k then v else f b j := by
  unfold am_up am_u1
  by_cases h1 : b = a
  · subst h1
    by_cases h2 : j = k
    · simp [h2]
    · simp [h2]
  · simp [h1]
/-- the entry of a method whose class has rows of natives, but not for it -/
theorem am_M.goF {G : am_G} {d : Nat} {M : am_Me} {as : List am_V} {σ : am_D} {ls : am_LS} {Q : Option am_V → am_H → Prop} (hp : plainFor M.1 = true) (hlen : (am_args as).length ≤ M.2.2.1) (hls : am_pad M.2.2.1 (am_args as) = ls) (k : am_X (am_Ph G d 0 0 137 Q) M (0, 0) 0 ls [] (am_K0, σ)) : am_M G d 0 0 M as (am_K0, σ) Q := by
  unfold am_M Met
  refine MetFree.of_bodySF (code := M.2.1) (maxLocals := M.2.2.1) (ret := M.2.2.2) hp ?_ ?_
  · intro args s m h hn
    obtain ⟨meth, c, h1, h2, h3, h4, h5, h6, -, -⟩ := Cond.code_spec hn (atoms_spec (ws := Cond.code M.1 M.2.1 M.2.2.1 M.2.2.2 :: am_tb) h _ List.mem_cons_self)
    exact ⟨meth, c, h1, h2, h3, h4, h5, h6⟩
  · intro p e s m args below meth c s₁ B hml hv _
    have hh0 : s₁.heap = s.heap := by rw [B.state]; rfl
    have key : W p G.1 e (am_rm d 0 0) s m args below meth c s.heap [] 0 0 (MQ below (am_Qc G Q ((am_K0, σ).1.1.length + 0)) args s 0 0 (fun q => G.2.1 ≤ q)) (entryFrame m args M.2.2.1) := by
      obtain ⟨rfl, hsz, hP, hK, hE⟩ := hv
      have hts := atoms_spec (ws := Cond.code M.1 M.2.1 M.2.2.1 M.2.2.2 :: am_tb) B.pre
      have hown : s.vm.findClass M.1.cls = some m.cls := findClass_of_methodNamed B.named
      have hin : meth.name = M.1.name := (name_of_methodNamed B.named B.method).1
      rw [lg_entry_eq]
      have hl := lv_entry (as.map (am_c G.2.1 G.2.2.1)) (n := M.2.2.1) (by rw [am_args_len]; exact hlen)
      subst hls
      rw [am_len0]
      rw [am_len0] at hsz
      refine k p e s m _ below meth c ⟨B.exec, B.bytes, hml, B.returns, hown, fun w hw => hts w (List.mem_cons_of_mem _ hw), B.notSynchronized, hin, hK, (show G.2.1 ≤ s.heap.size by omega), hE, hsz⟩ _ _ [] ⟨hl.1, hl.2.1, fun i v hi => ?_⟩ ⟨(show s.heap.size + 0 = G.2.1 + (am_K0, σ).1.1.length by rw [am_len0]; omega), hP⟩ va_S.rf
      have := am_at_args (b := G.2.1) (ad := G.2.2.1) (am_at_pad hi) 0
      rw [Nat.zero_add] at this
      exact hl.2.2 _ this
    obtain ⟨t, a1, o, b1, b2, b3⟩ := key s₁ hh0 (Stand.of_body B)
    exact ⟨t, o, a1, b1, b2, ⟨b3.1, b3.2⟩⟩
variable {G : am_G} {σ : am_D}
theorem c_at (d : Nat) {a n : Nat} {i : Int} (hs : am_sh am_SH a = (100, n)) (hr : -2147483648 ≤ i ∧ i ≤ 2147483647) : am_MI G (d + 1) mX10_at [am_r (some a), am_i i] σ (fun x σ' => x = (if 0 ≤ i ∧ i < n then σ.1 a i else -1) ∧ σ = σ') := by
  have hn := am_shle hs
  refine am_M.go (by decide) (Nat.le_of_ble_eq_true rfl) rfl ?_
  refine S_X10_at_0 (by omega) (fun h0 => ?_) (fun h0 => ?_)
  · refine S_X10_at_16 ?_
    refine S_X10_at_17 ?_
    exact ⟨by first | rw [if_neg (by omega)] | rw [if_pos (by omega)], rfl⟩
  · refine S_X10_at_4 (by assumption) (by omega) (by omega) (fun h4 => ?_) (fun h4 => ?_)
    · refine S_X10_at_16 ?_
      refine S_X10_at_17 ?_
      exact ⟨by first | rw [if_neg (by omega)] | rw [if_pos (by omega)], rfl⟩
    · refine S_X10_at_10 (by assumption) (by omega) (by omega) ?_
      refine S_X10_at_17 ?_
      exact ⟨by first | rw [if_neg (by omega)] | rw [if_pos (by omega)], rfl⟩
theorem c_put (d : Nat) {a n : Nat} {i x : Int} (hs : am_sh am_SH a = (100, n)) (hr : -2147483648 ≤ i ∧ i ≤ 2147483647) : am_MV G (d + 1) mX10_put [am_r (some a), am_i i, am_i x] σ (fun σ' => σ' = if 0 ≤ i ∧ i < n then am_pI σ a i x else σ) := by
  have hn := am_shle hs
  refine am_M.go (by decide) (Nat.le_of_ble_eq_true rfl) rfl ?_
  refine S_X10_put_0 (by omega) (fun h0 => ?_) (fun h0 => ?_)
  · refine S_X10_put_14 ?_
    exact by first | rw [if_neg (by omega)] | rw [if_pos (by omega)]
  · refine S_X10_put_4 (by assumption) (by omega) (by omega) (fun h4 => ?_) (fun h4 => ?_)
    · refine S_X10_put_14 ?_
      exact by first | rw [if_neg (by omega)] | rw [if_pos (by omega)]
    · refine S_X10_put_10 (by assumption) (by omega) (by omega) ?_
      refine S_X10_put_14 ?_
      exact by first | rw [if_neg (by omega)] | rw [if_pos (by omega)]
theorem c_laying (d : Nat) {l p : Int} : am_MI G (d + 1) mX10_laying [am_i l, am_i p] σ (fun x σ' => x = l * 6 + p ∧ σ = σ') := by
  refine am_M.go (by decide) (Nat.le_of_ble_eq_true rfl) rfl ?_
  refine S_X10_laying_0 ?_
  exact ⟨rfl, rfl⟩
theorem c_max (d : Nat) {x y : Int} (hx : -2147483648 ≤ x ∧ x ≤ 2147483647) (hy : -2147483648 ≤ y ∧ y ≤ 2147483647) : am_MI G (d + 1) mJ9_max_7cf53 [am_i x, am_i y] σ (fun z σ' => z = max x y ∧ σ = σ') := by
  refine am_M.goF (by decide +kernel) (Nat.le_of_ble_eq_true rfl) rfl ?_
  refine S_J9_max_7cf53_0 (by omega) (by omega) (fun h0 => ?_) (fun h0 => ?_)
  · refine S_J9_max_7cf53_9 ?_
    refine S_J9_max_7cf53_10 ?_
    exact ⟨by omega, rfl⟩
  · refine S_J9_max_7cf53_5 ?_
    refine S_J9_max_7cf53_10 ?_
    exact ⟨by omega, rfl⟩
theorem am_lcmp_gt {x y : Int64} : 0 < am_lcmp x y ↔ y < x := by
  unfold am_lcmp
  rw [← lg_cmp_gt, Int32.lt_iff_toInt_lt]
  rfl
theorem am_lcmp_lt {x y : Int64} : am_lcmp x y < 0 ↔ x < y := by
  unfold am_lcmp
  rw [← lg_cmp_lt, Int32.lt_iff_toInt_lt]
  rfl
theorem am_lcmp_eq {x y : Int64} : am_lcmp x y = 0 ↔ x = y := by
  unfold am_lcmp
  rw [← lg_cmp_eq, ← Int32.toInt_inj]
  rfl
theorem c_min (d : Nat) {x y : Int64} : am_MJ G (d + 1) mJ9_min_f86c9 [am_l x, am_l y] σ (fun z σ' => z = (if y < x then y else x) ∧ σ = σ') := by
  refine am_M.goF (by decide +kernel) (Nat.le_of_ble_eq_true rfl) rfl ?_
  refine S_J9_min_f86c9_0 (fun h0 => ?_) (fun h0 => ?_)
  · refine S_J9_min_f86c9_10 ?_
    refine S_J9_min_f86c9_11 ?_
    exact ⟨by first | rw [if_pos (am_lcmp_gt.mp h0)] | rw [if_neg (fun z => h0 (am_lcmp_gt.mpr z))], rfl⟩
  · refine S_J9_min_f86c9_6 ?_
    refine S_J9_min_f86c9_11 ?_
    exact ⟨by first | rw [if_pos (am_lcmp_gt.mp h0)] | rw [if_neg (fun z => h0 (am_lcmp_gt.mpr z))], rfl⟩
/-- a row filled up to i -/
def am_fl (f : Nat → Int → Int) (a : Nat) (i x : Int) : Nat → Int → Int := fun b j => if b = a ∧ 0 ≤ j ∧ j < i then x else f b j
theorem am_fl_up {f : Nat → Int → Int} {a : Nat} {i x : Int} (h : 0 ≤ i) : am_up (am_fl f a i x) a i x = am_fl f a (i + 1) x := by
  funext b j
  rw [am_up_ap]
  unfold am_fl
  by_cases h1 : b = a
  · by_cases h2 : j = i
    · rw [if_pos ⟨h1, h2⟩, if_pos ⟨h1, by omega, by omega⟩]
    · rw [if_neg (fun z => h2 z.2)]
      by_cases h3 : 0 ≤ j ∧ j < i
      · rw [if_pos ⟨h1, h3⟩, if_pos ⟨h1, by omega, by omega⟩]
      · rw [if_neg (fun z => h3 z.2), if_neg (fun z => by omega)]
  · rw [if_neg (fun z => h1 z.1), if_neg (fun z => h1 z.1), if_neg (fun z => h1 z.1)]
theorem c_fill (d : Nat) {a n : Nat} {x : Int} (hs : am_sh am_SH a = (100, n)) : am_MV G (d + 1) mJ7_fill_53178 [am_r (some a), am_i x] σ (fun σ' => σ' = (am_fl σ.1 a n x, σ.2)) := by
  have hn := am_shle hs
  refine am_M.go (by decide) (Nat.le_of_ble_eq_true rfl) rfl ?_
  have loop : ∀ (m : Nat) (i : Int), 0 ≤ i → i ≤ n → (n : Int) - i ≤ m → am_X (am_FV G (d + 1) (fun σ' => σ' = (am_fl σ.1 a n x, σ.2))) mJ7_fill_53178 (0, 0) 5 [some (am_r (some a)), some (am_i x), some (am_i i), some (am_i n)] [] (am_K0, (am_fl σ.1 a i x, σ.2)) := by
    intro m
    induction m with
    | zero =>
      intro i h0 h1 h2
      refine S_J7_fill_53178_5 (by omega) (by omega) (fun h5 => ?_) (fun h5 => ?_)
      · refine S_J7_fill_53178_20 ?_
        rw [show i = n by omega]
      · exact absurd h5 (by omega)
    | succ m ih =>
      intro i h0 h1 h2
      refine S_J7_fill_53178_5 (by omega) (by omega) (fun h5 => ?_) (fun h5 => ?_)
      · refine S_J7_fill_53178_20 ?_
        rw [show i = n by omega]
      · refine S_J7_fill_53178_10 (by assumption) (by omega) (by omega) ?_
        refine S_J7_fill_53178_14 ?_
        rw [show am_pI (am_fl σ.1 a i x, σ.2) a i x = (am_fl σ.1 a (i + 1) x, σ.2) from by rw [← am_fl_up h0]]
        exact ih (i + 1) (by omega) (by omega) (by omega)
  refine S_J7_fill_53178_0 ?_
  refine S_J7_fill_53178_2 (by assumption) ?_
  have e : am_fl σ.1 a 0 x = σ.1 := by
    funext b j
    unfold am_fl
    rw [if_neg (by omega)]
  have := loop n 0 (by omega) (by omega) (by omega)
  rw [e] at this
  exact this
end
