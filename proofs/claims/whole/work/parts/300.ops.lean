section
/-! Questions about told MACHINES: the class and the reference tell the same. -/
abbrev ab_M : Type := Int → Option am_P
def ab_t (M : ab_M) (k : Int) : Option am_P := if 0 ≤ k ∧ k < 4 then M k else none
def ab_g (P : am_P) : Prop := pm_ok P ∧ pm_wf P ∧ pm_dm P
def cx_M (σ : am_D) (M : ab_M) : Prop := ∀ k : Int, 0 ≤ k → k < 4 → (σ.2.2 4 k = none ∧ M k = none) ∨ (∃ m P, σ.2.2 4 k = some m ∧ M k = some P ∧ cd_M σ m P)
def rx_M (σ : am_D) (M : ab_M) : Prop := ∀ k : Int, 0 ≤ k → k < 4 → (σ.1 93 k = 0 ∧ M k = none) ∨ (σ.1 93 k = 1 ∧ ∃ P, M k = some P ∧ rm_T σ k P)
def ab_w (M : ab_M) : Prop := ∀ k P, M k = some P → ab_g P
def an_s (M : ab_M) (k : Int) : Int := match ab_t M k with
  | none => -1
  | some P => wy_states P
def an_l (M : ab_M) (k : Int) : Int := match ab_t M k with
  | none => -1
  | some P => wy_least P
def an_m (M : ab_M) (k n : Int) : Int64 := match ab_t M k with
  | none => -1
  | some P => if 0 ≤ n ∧ n ≤ 16 then mn_ans P n.toNat else -1
def an_f (M : ab_M) (b : Bool) (j k n : Int) : Option (Nat × List Int) := match ab_t M j, ab_t M k with
  | some P, some Q => se_A (se_p P Q b) (n.toNat + 1) 0
  | _, _ => none
def an_fi (M : ab_M) (b : Bool) (j k n : Int) : Int := if (ab_t M j).isSome ∧ (ab_t M k).isSome ∧ 0 ≤ n ∧ n ≤ 4 then (match an_f M b j k n with
  | none => -1
  | some p => (p.1 : Int)) else -2
def an_fd (M : ab_M) (b : Bool) (j k n : Int) (doc : List Int) : List Int := if (ab_t M j).isSome ∧ (ab_t M k).isSome ∧ 0 ≤ n ∧ n ≤ 4 then (match an_f M b j k n with
  | none => doc
  | some p => p.2) else doc
/-- what a question leaves in the class -/
def cq_f (σ τ : am_D) : Prop := (∀ a, (a ≤ 5 ∨ (10 ≤ a ∧ a ≤ 15) ∨ a = 33 ∨ 43 ≤ a) → τ.1 a = σ.1 a) ∧ (∀ a, 43 ≤ a → τ.2.1 a = σ.2.1 a) ∧ ∀ a, (a ≤ 15 ∨ 43 ≤ a) → τ.2.2 a = σ.2.2 a
def cq_g (σ τ : am_D) : Prop := cq_f σ τ ∧ τ.1 6 = σ.1 6 ∧ τ.1 7 = σ.1 7
theorem cq_f.rfl' {σ : am_D} : cq_f σ σ := ⟨fun _ _ => rfl, fun _ _ => rfl, fun _ _ => rfl⟩
theorem cq_g.rfl' {σ : am_D} : cq_g σ σ := ⟨cq_f.rfl', rfl, rfl⟩
theorem cq_f.trans {σ τ υ : am_D} (h : cq_f σ τ) (h' : cq_f τ υ) : cq_f σ υ := ⟨fun a ha => (h'.1 a ha).trans (h.1 a ha), fun a ha => (h'.2.1 a ha).trans (h.2.1 a ha), fun a ha => (h'.2.2 a ha).trans (h.2.2 a ha)⟩
theorem wj_o.cq {S : List Nat} {σ τ : am_D} (h : wj_o S σ τ) (hS : ∀ a ∈ S, a < 43) : cq_g σ τ := ⟨⟨fun a _ => by rw [h.1], fun a ha => h.2.1 a (fun z => by have := hS a z; omega), fun a _ => by rw [h.2.2]⟩, by rw [h.1], by rw [h.1]⟩
theorem cs_f.cq {m1 m2 : Nat} {σ τ : am_D} (h : cs_f m1 m2 σ τ) : cq_g σ τ := by
  refine ⟨⟨fun a ha => h.1 a (by simp; omega), fun a _ => by rw [h.2.1], fun a ha => ?_⟩, h.1 6 (by decide), h.1 7 (by decide)⟩
  rw [h.2.2, am_up_ne (by omega), am_up_ne (by omega), am_up_ne (by omega)]
theorem cn_fr.cq {m1 m2 : Nat} {σ τ : am_D} (h : cn_fr m1 m2 σ τ) : cq_g σ τ := by
  refine ⟨⟨fun a ha => h.1 a (by simp; omega), fun a _ => by rw [h.2.1], fun a ha => ?_⟩, h.1 6 (by decide), h.1 7 (by decide)⟩
  rw [h.2.2, am_up_ne (by omega), am_up_ne (by omega)]
theorem cq_f.M {σ τ : am_D} {M : ab_M} (h : cq_f σ τ) (hM : cx_M σ M) : cx_M τ M := by
  intro k k0 k1
  rcases hM k k0 k1 with ⟨a1, a2⟩ | ⟨m, P, a1, a2, a3⟩
  · exact Or.inl ⟨by rw [h.2.2 4 (by omega)]; exact a1, a2⟩
  · have := a3.1.1
    exact Or.inr ⟨m, P, by rw [h.2.2 4 (by omega)]; exact a1, a2, cd_M_of (fun b y1 y2 => h.1 b (by omega)) a3⟩
variable {G : am_G} {σ : am_D} {M : ab_M}
theorem c_told (d : Nat) {k : Int} (hk : -2147483648 ≤ k ∧ k ≤ 2147483647) (hM : cx_M σ M) : am_MR G (d + 1) mX10_told [am_r (some 0), am_i k] σ (fun x σ' => ((x = none ∧ ab_t M k = none) ∨ (∃ m P, x = some m ∧ ab_t M k = some P ∧ cd_M σ m P)) ∧ σ = σ') := by
  refine am_M.go (by decide) (Nat.le_of_ble_eq_true rfl) rfl ?_
  unfold ab_t
  refine S_X10_told_0 hk (fun z => ?_) (fun z => ?_)
  · refine S_X10_told_22 (S_X10_told_23 ⟨Or.inl ⟨rfl, by rw [if_neg (by omega)]⟩, rfl⟩)
  refine S_X10_told_4 hk (fun y => ?_) (fun y => ?_)
  · refine S_X10_told_22 (S_X10_told_23 ⟨Or.inl ⟨rfl, by rw [if_neg (by omega)]⟩, rfl⟩)
  refine S_X10_told_13 (by omega) (by omega) (S_X10_told_23 ⟨?_, rfl⟩)
  rw [if_pos (by omega)]
  rcases hM k (by omega) (by omega) with ⟨a1, a2⟩ | ⟨m, P, a1, a2, a3⟩
  · exact Or.inl ⟨a1, a2⟩
  · exact Or.inr ⟨m, P, a1, a2, a3⟩
theorem c_xstates (d : Nat) {k : Int} (hk : -2147483648 ≤ k ∧ k ≤ 2147483647) (hM : cx_M σ M) : am_MI G (d + 6) mX10_states [am_r (some 0), am_i k] σ (fun x σ' => x = an_s M k ∧ cq_g σ σ') := by
  refine am_M.go (by decide) (Nat.le_of_ble_eq_true rfl) rfl ?_
  refine S_X10_states_0 (c_told _ hk hM) ?_
  rintro x _ ⟨hx, rfl⟩
  unfold an_s
  rcases hx with ⟨rfl, h⟩ | ⟨m, P, rfl, h, hP⟩
  · rw [h]
    exact S_X10_states_6 (fun _ => S_X10_states_10 (S_X10_states_22 ⟨rfl, cq_g.rfl'⟩)) (fun a z => nomatch z)
  · rw [h]
    refine S_X10_states_6 (fun z => nomatch z) (fun _ _ => ?_)
    refine S_X10_states_14 (c_reached _ hP) ?_
    rintro x τ ⟨rfl, hj⟩
    exact S_X10_states_22 ⟨rfl, hj.cq (by decide)⟩
theorem c_xleast (d : Nat) {k : Int} (hk : -2147483648 ≤ k ∧ k ≤ 2147483647) (hM : cx_M σ M) : am_MI G (d + 6) mX10_least [am_r (some 0), am_i k] σ (fun x σ' => x = an_l M k ∧ cq_g σ σ') := by
  refine am_M.go (by decide) (Nat.le_of_ble_eq_true rfl) rfl ?_
  refine S_X10_least_0 (c_told _ hk hM) ?_
  rintro x _ ⟨hx, rfl⟩
  unfold an_l
  rcases hx with ⟨rfl, h⟩ | ⟨m, P, rfl, h, hP⟩
  · rw [h]
    exact S_X10_least_6 (fun _ => S_X10_least_10 (S_X10_least_22 ⟨rfl, cq_g.rfl'⟩)) (fun a z => nomatch z)
  · rw [h]
    refine S_X10_least_6 (fun z => nomatch z) (fun _ _ => ?_)
    refine S_X10_least_14 (c_smallest _ hP) ?_
    rintro x τ ⟨rfl, hj⟩
    exact S_X10_least_22 ⟨rfl, hj.cq (by decide)⟩
theorem c_xmany (d : Nat) {k n : Int} (hk : -2147483648 ≤ k ∧ k ≤ 2147483647) (hn : -2147483648 ≤ n ∧ n ≤ 2147483647) (hM : cx_M σ M) : am_MJ G (d + 4) mX10_many [am_r (some 0), am_i k, am_i n] σ (fun x σ' => x = an_m M k n ∧ cq_g σ σ') := by
  refine am_M.go (by decide) (Nat.le_of_ble_eq_true rfl) rfl ?_
  refine S_X10_many_0 (c_told _ hk hM) ?_
  rintro x _ ⟨hx, rfl⟩
  unfold an_m
  rcases hx with ⟨rfl, h⟩ | ⟨m, P, rfl, h, hP⟩
  · rw [h]
    exact S_X10_many_6 (fun _ => S_X10_many_20 ⟨rfl, cq_g.rfl'⟩) (fun a z => nomatch z)
  · rw [h]
    dsimp only
    refine S_X10_many_6 (fun z => nomatch z) (fun _ _ => ?_)
    refine S_X10_many_10 hn (fun z => S_X10_many_20 ⟨by rw [if_neg (by omega)], cq_g.rfl'⟩) (fun z => ?_)
    refine S_X10_many_14 hn (fun y => ?_) (fun y => S_X10_many_20 ⟨by rw [if_neg (by omega)], cq_g.rfl'⟩)
    refine S_X10_many_24 (c_readable _ hP (by omega)) ?_
    rintro x τ ⟨rfl, hj⟩
    exact ⟨by rw [if_pos (by omega)], hj.cq (by decide)⟩
theorem c_xfound (d : Nat) {x : Int} {w doc : List Int} (hx : -2147483648 ≤ x ∧ x ≤ 2147483647) (hE : am_E σ 6 doc) (hw : 0 ≤ x → am_E σ 8 w ∧ w.length ≤ 80) : am_MI G (d + 4) mX10_found [am_r (some 0), am_i x] σ (fun y σ' => y = x ∧ am_E σ' 6 (if x < 0 then doc else w) ∧ cq_f σ σ') := by
  refine am_M.go (by decide) (Nat.le_of_ble_eq_true rfl) rfl ?_
  refine S_X10_found_0 hx (fun z => S_X10_found_15 ⟨rfl, by rw [if_pos z]; exact hE, cq_f.rfl'⟩) (fun z => ?_)
  obtain ⟨h1, h2⟩ := hw (by omega)
  refine S_X10_found_4 (c_become _ (Or.inl rfl) (Or.inr (Or.inl rfl)) (by decide) h1 h2) ?_
  rintro τ ⟨hE', hf⟩
  exact S_X10_found_15 ⟨rfl, by rw [if_neg z]; exact hE', fun a ha => hf.1 a (by simp; omega), fun a _ => by rw [hf.2], fun a _ => by rw [hf.2]⟩
theorem an_f_some {j k n : Int} {b : Bool} {P Q : am_P} (h1 : ab_t M j = some P) (h2 : ab_t M k = some Q) : an_f M b j k n = se_A (se_p P Q b) (n.toNat + 1) 0 := by
  unfold an_f
  rw [h1, h2]
/-- the answer of a search in the class -/
theorem cf_post {b : Bool} {j k n x : Int} {τ : am_D} {o1 o2 : Option Nat} {doc : List Int} (P Q : am_P) (h1 : (o1 = none ∧ ab_t M j = none) ∨ (∃ m, o1 = some m ∧ ab_t M j = some P)) (h2 : (o2 = none ∧ ab_t M k = none) ∨ (∃ m, o2 = some m ∧ ab_t M k = some Q)) (hE : am_E σ 6 doc)
    (h : ((o1 = none ∨ o2 = none ∨ ¬ (0 ≤ n ∧ n ≤ 4)) ∧ x = -2 ∧ σ = τ) ∨ (∃ m1 m2, (o1 = some m1 ∧ o2 = some m2 ∧ 0 ≤ n ∧ n ≤ 4) ∧ cs_f m1 m2 σ τ ∧ ((se_A (se_p P Q b) (n.toNat + 1) 0 = none ∧ x = -1) ∨ (∃ (el : Nat) (w : List Int), se_A (se_p P Q b) (n.toNat + 1) 0 = some (el, w) ∧ x = el ∧ el ≤ 4 ∧ am_E τ 8 w)))) :
    ∃ w, x = an_fi M b j k n ∧ (-2147483648 ≤ x ∧ x ≤ 2147483647) ∧ cq_g σ τ ∧ (0 ≤ x → am_E τ 8 w ∧ w.length ≤ 80) ∧ (if x < 0 then doc else w) = an_fd M b j k n doc := by
  rcases h with ⟨h0, rfl, rfl⟩ | ⟨m1, m2, ⟨e1, e2, n0, n1⟩, hf, h⟩
  · have hno : ¬ ((ab_t M j).isSome ∧ (ab_t M k).isSome ∧ 0 ≤ n ∧ n ≤ 4) := by
      rintro ⟨a1, a2, a3, a4⟩
      rcases h1 with ⟨-, y⟩ | ⟨m, y, -⟩
      · rw [y] at a1; exact absurd a1 (by decide)
      rcases h2 with ⟨-, y2⟩ | ⟨m', y2, -⟩
      · rw [y2] at a2; exact absurd a2 (by decide)
      rcases h0 with h0 | h0 | h0
      · rw [y] at h0; exact nomatch h0
      · rw [y2] at h0; exact nomatch h0
      · omega
    refine ⟨[], ?_, by omega, cq_g.rfl', fun z => absurd z (by decide), ?_⟩
    · unfold an_fi; rw [if_neg hno]
    · unfold an_fd; rw [if_neg hno, if_pos (by decide)]
  · rcases h1 with ⟨y, -⟩ | ⟨m, -, y1⟩
    · rw [y] at e1; exact nomatch e1
    rcases h2 with ⟨y, -⟩ | ⟨m', -, y2⟩
    · rw [y] at e2; exact nomatch e2
    have hyes : (ab_t M j).isSome ∧ (ab_t M k).isSome ∧ 0 ≤ n ∧ n ≤ 4 := by
      rw [y1, y2]
      exact ⟨rfl, rfl, n0, n1⟩
    have hf' := an_f_some (n := n) (b := b) y1 y2
    rcases h with ⟨h3, rfl⟩ | ⟨el, w, h3, rfl, h4, h5⟩
    · refine ⟨[], ?_, by omega, hf.cq, fun z => absurd z (by decide), ?_⟩
      · unfold an_fi; rw [if_pos hyes, hf', h3]
      · unfold an_fd; rw [if_pos hyes, hf', h3, if_pos (by decide)]
    · refine ⟨w, ?_, by omega, hf.cq, fun _ => ⟨h5, h5.2.2⟩, ?_⟩
      · unfold an_fi; rw [if_pos hyes, hf', h3]
      · unfold an_fd; rw [if_pos hyes, hf', h3, if_neg (by omega)]
theorem c_xdiffer (d : Nat) {j k n : Int} {doc : List Int} (hj : -2147483648 ≤ j ∧ j ≤ 2147483647) (hk : -2147483648 ≤ k ∧ k ≤ 2147483647) (hn : -2147483648 ≤ n ∧ n ≤ 2147483647) (hM : cx_M σ M) (hE : am_E σ 6 doc) : am_MI G (d + 7) mX10_differ [am_r (some 0), am_i j, am_i k, am_i n] σ (fun x σ' => x = an_fi M false j k n ∧ am_E σ' 6 (an_fd M false j k n doc) ∧ cq_f σ σ') := by
  refine am_M.go (by decide) (Nat.le_of_ble_eq_true rfl) rfl ?_
  refine S_X10_differ_0 (c_told _ hj hM) ?_
  rintro o1 _ ⟨h1, rfl⟩
  refine S_X10_differ_10 (c_told _ hk hM) ?_
  rintro o2 _ ⟨h2, rfl⟩
  obtain ⟨P, h1a, h1b⟩ : ∃ P, ((o1 = none ∧ ab_t M j = none) ∨ (∃ m, o1 = some m ∧ ab_t M j = some P)) ∧ ∀ m, o1 = some m → cd_M σ m P := by
    rcases h1 with ⟨a, b⟩ | ⟨m, P, a, b, c⟩
    · exact ⟨pm_0 1 1, Or.inl ⟨a, b⟩, fun m h => by rw [a] at h; exact nomatch h⟩
    · exact ⟨P, Or.inr ⟨m, a, b⟩, fun m' h => by rw [a] at h; injection h with h; rw [← h]; exact c⟩
  obtain ⟨Q, h2a, h2b⟩ : ∃ P, ((o2 = none ∧ ab_t M k = none) ∨ (∃ m, o2 = some m ∧ ab_t M k = some P)) ∧ ∀ m, o2 = some m → cd_M σ m P := by
    rcases h2 with ⟨a, b⟩ | ⟨m, P, a, b, c⟩
    · exact ⟨pm_0 1 1, Or.inl ⟨a, b⟩, fun m h => by rw [a] at h; exact nomatch h⟩
    · exact ⟨P, Or.inr ⟨m, a, b⟩, fun m' h => by rw [a] at h; injection h with h; rw [← h]; exact c⟩
  refine S_X10_differ_15 (c_fewest (G := G) (σ := σ) d (P := P) (Q := Q) (b := false) hn h1b h2b) ?_
  intro x τ hx
  obtain ⟨w, e1, e2, e3, e4, e5⟩ := cf_post P Q h1a h2a hE hx
  refine S_X10_differ_20 (c_xfound _ e2 (hE.of e3.2.1 e3.2.2) e4) ?_
  rintro y υ ⟨rfl, hE', hf'⟩
  rw [e5] at hE'
  exact ⟨e1, hE', e3.1.trans hf'⟩
theorem c_xspoils (d : Nat) {j k n : Int} {doc : List Int} (hj : -2147483648 ≤ j ∧ j ≤ 2147483647) (hk : -2147483648 ≤ k ∧ k ≤ 2147483647) (hn : -2147483648 ≤ n ∧ n ≤ 2147483647) (hM : cx_M σ M) (hE : am_E σ 6 doc) : am_MI G (d + 7) mX10_spoils [am_r (some 0), am_i j, am_i k, am_i n] σ (fun x σ' => x = an_fi M true j k n ∧ am_E σ' 6 (an_fd M true j k n doc) ∧ cq_f σ σ') := by
  refine am_M.go (by decide) (Nat.le_of_ble_eq_true rfl) rfl ?_
  refine S_X10_spoils_0 (c_told _ hj hM) ?_
  rintro o1 _ ⟨h1, rfl⟩
  refine S_X10_spoils_10 (c_told _ hk hM) ?_
  rintro o2 _ ⟨h2, rfl⟩
  obtain ⟨P, h1a, h1b⟩ : ∃ P, ((o1 = none ∧ ab_t M j = none) ∨ (∃ m, o1 = some m ∧ ab_t M j = some P)) ∧ ∀ m, o1 = some m → cd_M σ m P := by
    rcases h1 with ⟨a, b⟩ | ⟨m, P, a, b, c⟩
    · exact ⟨pm_0 1 1, Or.inl ⟨a, b⟩, fun m h => by rw [a] at h; exact nomatch h⟩
    · exact ⟨P, Or.inr ⟨m, a, b⟩, fun m' h => by rw [a] at h; injection h with h; rw [← h]; exact c⟩
  obtain ⟨Q, h2a, h2b⟩ : ∃ P, ((o2 = none ∧ ab_t M k = none) ∨ (∃ m, o2 = some m ∧ ab_t M k = some P)) ∧ ∀ m, o2 = some m → cd_M σ m P := by
    rcases h2 with ⟨a, b⟩ | ⟨m, P, a, b, c⟩
    · exact ⟨pm_0 1 1, Or.inl ⟨a, b⟩, fun m h => by rw [a] at h; exact nomatch h⟩
    · exact ⟨P, Or.inr ⟨m, a, b⟩, fun m' h => by rw [a] at h; injection h with h; rw [← h]; exact c⟩
  refine S_X10_spoils_15 (c_fewest (G := G) (σ := σ) d (P := P) (Q := Q) (b := true) hn h1b h2b) ?_
  intro x τ hx
  obtain ⟨w, e1, e2, e3, e4, e5⟩ := cf_post P Q h1a h2a hE hx
  refine S_X10_spoils_20 (c_xfound _ e2 (hE.of e3.2.1 e3.2.2) e4) ?_
  rintro y υ ⟨rfl, hE', hf'⟩
  rw [e5] at hE'
  exact ⟨e1, hE', e3.1.trans hf'⟩
end
