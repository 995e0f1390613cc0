section
/-! From RULE to RULE; signed bytes. -/
theorem sm_rules_good {bs : Int → Int} {n : Int} (hn : 0 ≤ n ∧ n ≤ 600) : ∀ (f : Nat) (P P' : am_P) (p : Int), 0 ≤ p → pm_good P → sm_rules bs n f P p = .inr P' → pm_good P' := by
  intro f
  induction f with
  | zero => intro P P' p _ hg h; injection h with h; exact h ▸ hg
  | succ f ih =>
    intro P P' p hp hg h
    unfold sm_rules at h
    by_cases h59 : tk_k bs n p = 59
    · rw [if_pos h59] at h
      have hpn : p ≤ n := by
        have hlt := tk_lt (bs := bs) (n := n) (p := p) (by omega)
        have := (tk_sk_le (bs := bs) (n := n) 700 p).1
        have e : tk_st bs n p = tk_sk bs n 700 p := rfl
        omega
      cases hY : sm_rule bs n P p with
      | inl F => rw [hY] at h; exact nomatch h
      | inr r =>
        obtain ⟨P1, p1⟩ := r
        rw [hY] at h
        obtain ⟨g1, g2⟩ := sm_rule_good hn ⟨hp, hpn⟩ hg hY
        exact ih P1 P' p1 g2 g1 h
    · rw [if_neg h59] at h
      by_cases h0 : tk_k bs n p = 0
      · rw [if_pos h0] at h; injection h with h; exact h ▸ hg
      · rw [if_neg h0] at h; exact nomatch h
theorem sm_mach_good {bs : Int → Int} {n : Int} {P : am_P} (hn : 0 ≤ n ∧ n ≤ 600) (h : sm_mach bs n = .inr P) : pm_good P := by
  unfold sm_mach at h
  have i0 := tk_in (bs := bs) (n := n) (p := 0) (by omega)
  have i1 := tk_in (bs := bs) (n := n) (p := tk_sp bs n 0) (by omega)
  have i2 := tk_in (bs := bs) (n := n) (p := tk_sp bs n (tk_sp bs n 0)) (by omega)
  have r1 := sl_dig_rg bs n (tk_sp bs n 0) 1 6
  have r2 := sl_dig_rg bs n (tk_sp bs n (tk_sp bs n 0)) 1 3
  split at h
  · exact nomatch h
  split at h
  · exact nomatch h
  split at h
  · exact nomatch h
  exact sm_rules_good hn 700 _ _ _ (by omega) (pm_good_0 (by omega) (by omega)) h
/-- a DOCUMENT's EVENTS -/
def dc_ok (w : List Int) : Prop := (∀ x ∈ w, 0 ≤ x ∧ x ≤ 3) ∧ rd_bal 0 w
theorem sl_doc_ok {bs : Int → Int} {n : Int} : ∀ (f : Nat) (p op dp : Int) (acc w : List Int), p ≤ n → n - p < f → 0 ≤ dp → 0 ≤ op ∧ op ≤ 40 → (acc.length : Int) = 2 * op - dp → (∀ v, rd_bal dp v → rd_bal 0 (acc ++ v)) → (∀ x ∈ acc, 0 ≤ x ∧ x ≤ 3) → sl_doc bs n f p op dp acc = .inr w → dc_ok w ∧ w.length ≤ 80 := by
  intro f
  induction f with
  | zero => intro p op dp acc w h1 h2; omega
  | succ f ih =>
    intro p op dp acc w hp hf hdp hop hlen hb hx h
    have hin := tk_in (bs := bs) hp
    have hin2 := tk_in (bs := bs) (n := n) (p := tk_sp bs n p) (by omega)
    unfold sl_doc at h
    by_cases h0 : tk_k bs n p = 0
    · rw [if_pos h0] at h
      by_cases hd : 0 < dp
      · rw [if_pos hd] at h; exact nomatch h
      rw [if_neg hd] at h
      injection h with h
      subst h
      have := hb [] (show dp = 0 by omega)
      rw [List.append_nil] at this
      exact ⟨⟨hx, this⟩, by omega⟩
    · have hlt := tk_lt (bs := bs) (n := n) (p := p) h0
      rw [if_neg h0] at h
      by_cases h60 : tk_k bs n p = 60
      · rw [if_pos h60] at h
        by_cases h40 : 40 ≤ op
        · rw [if_pos h40] at h; exact nomatch h
        rw [if_neg h40] at h
        by_cases hl : sl_let bs n (tk_sp bs n p) = -1
        · rw [if_pos hl] at h; exact nomatch h
        rw [if_neg hl] at h
        have hlr := sl_let_rg bs n (tk_sp bs n p)
        generalize sl_let bs n (tk_sp bs n p) = l at *
        refine ih _ _ _ _ _ (by omega) (by omega) (by omega) (by omega) (by rw [List.length_append]; show ((acc.length + 1 : Nat) : Int) = _; omega) (fun v hv => ?_) (fun x hx' => ?_) h
        · have := hb (l :: v) (by unfold rd_bal; rw [if_pos (by omega)]; exact hv)
          rw [List.append_assoc]
          exact this
        · rcases List.mem_append.mp hx' with hx' | hx'
          · exact hx x hx'
          · have hx' : x = l := by simpa using hx'
            omega
      · rw [if_neg h60] at h
        by_cases h62 : tk_k bs n p = 62 ∧ 0 < dp
        · rw [if_pos h62] at h
          refine ih _ _ _ _ _ (by omega) (by omega) (by omega) hop (by rw [List.length_append]; show ((acc.length + 1 : Nat) : Int) = _; omega) (fun v hv => ?_) (fun x hx' => ?_) h
          · have := hb (3 :: v) (by unfold rd_bal; rw [if_neg (by decide), if_pos rfl]; exact ⟨h62.2, hv⟩)
            rw [List.append_assoc]
            exact this
          · rcases List.mem_append.mp hx' with hx' | hx'
            · exact hx x hx'
            · have hx' : x = 3 := by simpa using hx'
              omega
        · rw [if_neg h62] at h; exact nomatch h
-- signed bytes
variable {bs : Int → Int}
abbrev sg_t (bs : Int → Int) : Int → Int := fun i => am_sg (bs i)
theorem sg_kd {b : Int} (h : 0 ≤ b ∧ b ≤ 255) : tk_kd (am_sg b) = tk_kd b := by
  unfold am_sg
  by_cases z : b < 128
  · rw [if_pos z]
  · rw [if_neg z]
    unfold tk_kd
    rw [if_neg (by omega), if_neg (by omega), if_neg (by omega), if_neg (by omega), if_neg (by omega), if_neg (by omega)]
theorem sg_sk (hb : ∀ i, 0 ≤ bs i ∧ bs i ≤ 255) (n : Int) : ∀ (f : Nat) (i : Int), tk_sk (sg_t bs) n f i = tk_sk bs n f i := by
  intro f
  induction f with
  | zero => intro i; rfl
  | succ f ih =>
    intro i
    unfold tk_sk
    have hbi := hb i
    have e : (i < n ∧ (am_sg (bs i) = 32 ∨ am_sg (bs i) = 10)) ↔ (i < n ∧ (bs i = 32 ∨ bs i = 10)) := by
      unfold am_sg
      split <;> omega
    by_cases z : i < n ∧ (bs i = 32 ∨ bs i = 10)
    · rw [if_pos z, if_pos (e.mpr z)]; exact ih (i + 1)
    · rw [if_neg z, if_neg (fun y => z (e.mp y))]
theorem sg_rn (hb : ∀ i, 0 ≤ bs i ∧ bs i ≤ 255) (n k : Int) : ∀ (f : Nat) (i : Int), tk_rn (sg_t bs) n k f i = tk_rn bs n k f i := by
  intro f
  induction f with
  | zero => intro i; rfl
  | succ f ih =>
    intro i
    unfold tk_rn
    have e : tk_kd (sg_t bs i) = tk_kd (bs i) := sg_kd (hb i)
    rw [e]
    by_cases z : i < n ∧ tk_kd (bs i) = k
    · rw [if_pos z, if_pos z]; exact ih (i + 1)
    · rw [if_neg z, if_neg z]
theorem sg_st (hb : ∀ i, 0 ≤ bs i ∧ bs i ≤ 255) : tk_st (sg_t bs) = tk_st bs := by
  funext n p
  exact sg_sk hb n 700 p
theorem sg_k (hb : ∀ i, 0 ≤ bs i ∧ bs i ≤ 255) : tk_k (sg_t bs) = tk_k bs := by
  funext n p
  unfold tk_k
  rw [sg_st hb, show tk_kd (sg_t bs (tk_st bs n p)) = tk_kd (bs (tk_st bs n p)) from sg_kd (hb _)]
theorem sg_sp (hb : ∀ i, 0 ≤ bs i ∧ bs i ≤ 255) : tk_sp (sg_t bs) = tk_sp bs := by
  funext n p
  unfold tk_sp
  rw [sg_st hb, sg_k hb, sg_rn hb]
theorem tk_k_st {n p : Int} (h : tk_k bs n p = 97 ∨ tk_k bs n p = 48) : 48 ≤ bs (tk_st bs n p) ∧ bs (tk_st bs n p) ≤ 122 := by
  unfold tk_k at h
  by_cases z : tk_st bs n p < n
  · rw [if_pos z] at h
    unfold tk_kd at h
    split at h
    · omega
    · split at h
      · omega
      · split at h <;> omega
  · rw [if_neg z] at h
    omega
theorem sg_of {n p : Int} (h : tk_k bs n p = 97 ∨ tk_k bs n p = 48) : sg_t bs (tk_st bs n p) = bs (tk_st bs n p) := by
  have := tk_k_st h
  show am_sg _ = _
  unfold am_sg
  rw [if_pos (by omega)]
theorem sg_let (hb : ∀ i, 0 ≤ bs i ∧ bs i ≤ 255) : sl_let (sg_t bs) = sl_let bs := by
  funext n p
  unfold sl_let
  rw [sg_k hb, sg_sp hb, sg_st hb]
  by_cases z : tk_k bs n p = 97
  · rw [sg_of (Or.inl z)]
  · rw [if_neg (fun y => z y.1), if_neg (fun y => z y.1)]
theorem sg_dig (hb : ∀ i, 0 ≤ bs i ∧ bs i ≤ 255) : sl_dig (sg_t bs) = sl_dig bs := by
  funext n lo hi p
  unfold sl_dig
  rw [sg_k hb, sg_sp hb, sg_st hb]
  by_cases z : tk_k bs n p = 48
  · rw [sg_of (Or.inr z)]
  · rw [if_neg (fun y => z y.1), if_neg (fun y => z y.1)]
theorem sg_w1 (hb : ∀ i, 0 ≤ bs i ∧ bs i ≤ 255) : sl_w1 (sg_t bs) = sl_w1 bs := by
  funext n c p
  unfold sl_w1
  rw [sg_k hb, sg_sp hb, sg_st hb]
  by_cases z : tk_k bs n p = 97
  · rw [sg_of (Or.inl z)]
  · rw [decide_eq_false (fun y => z y.1), decide_eq_false (fun y => z y.1)]
theorem sg_wd (hb : ∀ i, 0 ≤ bs i ∧ bs i ≤ 255) {n p : Int} {i : Nat} (hi : i < 4) : sl_wd (sg_t bs) n i p = sl_wd bs n i p := by
  unfold sl_wd
  rw [sg_k hb, sg_sp hb, sg_st hb]
  congr 2
  rw [Bool.eq_iff_iff, List.all_eq_true, List.all_eq_true]
  have key : ∀ j, j < (am_chr i).length → 0 ≤ (am_chr i).getD j 0 ∧ (am_chr i).getD j 0 < 128 := by
    have : ∀ i, i < 4 → ∀ j, j < (am_chr i).length → 0 ≤ (am_chr i).getD j 0 ∧ (am_chr i).getD j 0 < 128 := by decide +kernel
    exact this i hi
  have e : ∀ j, j < (am_chr i).length → (sg_t bs (tk_st bs n p + j) = (am_chr i).getD j 0 ↔ bs (tk_st bs n p + j) = (am_chr i).getD j 0) := by
    intro j hj
    have h1 := key j hj
    have h2 := hb (tk_st bs n p + j)
    show am_sg _ = _ ↔ _
    unfold am_sg
    split <;> omega
  constructor
  · intro h j hj
    have := h j hj
    exact decide_eq_true ((e j (List.mem_range.mp hj)).mp (of_decide_eq_true this))
  · intro h j hj
    have := h j hj
    exact decide_eq_true ((e j (List.mem_range.mp hj)).mpr (of_decide_eq_true this))
theorem sg_ex (hb : ∀ i, 0 ≤ bs i ∧ bs i ≤ 255) {n rg : Int} {stk : Bool} : ∀ (f : Nat) (p dp own : Int) (seen acc : List Int), sl_ex (sg_t bs) n rg stk f p dp own seen acc = sl_ex bs n rg stk f p dp own seen acc := by
  intro f
  induction f with
  | zero => intro p dp own seen acc; rfl
  | succ f ih =>
    intro p dp own seen acc
    unfold sl_ex
    rw [sg_k hb, sg_sp hb, sg_st hb, sg_let hb, sg_dig hb, sg_w1 hb]
    simp only [ih]
theorem sg_exs (hb : ∀ i, 0 ≤ bs i ∧ bs i ≤ 255) {n rg : Int} : ∀ (k : Nat) (fst : Bool) (p own : Int) (seen : List Int) (xs : List (List Int)), sm_exs (sg_t bs) n rg k fst p own seen xs = sm_exs bs n rg k fst p own seen xs := by
  intro k
  induction k with
  | zero => intro fst p own seen xs; rfl
  | succ k ih =>
    intro fst p own seen xs
    unfold sm_exs
    rw [sg_k hb, sg_sp hb, sg_st hb]
    simp only [sg_ex hb, ih]
theorem sg_rule (hb : ∀ i, 0 ≤ bs i ∧ bs i ≤ 255) {n p : Int} {P : am_P} : sm_rule (sg_t bs) n P p = sm_rule bs n P p := by
  unfold sm_rule
  rw [sg_sp hb, sg_st hb, sg_wd hb (by decide), sg_wd hb (by decide), sg_wd hb (by decide)]
  have e1 : ∀ q, sm_open (sg_t bs) n P q = sm_open bs n P q := by
    intro q
    unfold sm_open
    rw [sg_sp hb, sg_st hb, sg_let hb, sg_dig hb]
  have e2 : ∀ q, sm_close (sg_t bs) n P q = sm_close bs n P q := by
    intro q
    unfold sm_close
    rw [sg_k hb, sg_sp hb, sg_st hb, sg_let hb, sg_dig hb]
    simp only [sg_exs hb]
  have e3 : ∀ q, sm_end (sg_t bs) n P q = sm_end bs n P q := by
    intro q
    unfold sm_end
    rw [sg_k hb, sg_sp hb, sg_st hb, sg_dig hb]
    simp only [sg_ex hb]
  rw [e1, e2, e3]
theorem sg_rules (hb : ∀ i, 0 ≤ bs i ∧ bs i ≤ 255) {n : Int} : ∀ (f : Nat) (P : am_P) (p : Int), sm_rules (sg_t bs) n f P p = sm_rules bs n f P p := by
  intro f
  induction f with
  | zero => intro P p; rfl
  | succ f ih =>
    intro P p
    unfold sm_rules
    rw [sg_k hb, sg_st hb, sg_rule hb]
    simp only [ih]
theorem sg_mach (hb : ∀ i, 0 ≤ bs i ∧ bs i ≤ 255) {n : Int} : sm_mach (sg_t bs) n = sm_mach bs n := by
  unfold sm_mach
  rw [sg_sp hb, sg_st hb, sg_dig hb, sg_wd hb (by decide)]
  simp only [sg_rules hb]
theorem sg_doc (hb : ∀ i, 0 ≤ bs i ∧ bs i ≤ 255) {n : Int} : ∀ (f : Nat) (p op dp : Int) (acc : List Int), sl_doc (sg_t bs) n f p op dp acc = sl_doc bs n f p op dp acc := by
  intro f
  induction f with
  | zero => intro p op dp acc; rfl
  | succ f ih =>
    intro p op dp acc
    unfold sl_doc
    rw [sg_k hb, sg_sp hb, sg_st hb, sg_let hb]
    simp only [ih]
end
