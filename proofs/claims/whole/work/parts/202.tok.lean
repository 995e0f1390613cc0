section
/-! TOKENS: what they are, and the class's Tape. -/
/-- a whole row is set -/
def am_ur {α : Type} (f : Nat → Int → α) (a : Nat) (t : Int → α) : Nat → Int → α := fun i => if i = a then t else f i
abbrev am_sr (σ : am_D) (a : Nat) (t : Int → Int) : am_D := (am_ur σ.1 a t, σ.2)
theorem am_ur_eq {α : Type} {f : Nat → Int → α} {a : Nat} {t : Int → α} : am_ur f a t a = t := if_pos rfl
theorem am_ur_ne {α : Type} {f : Nat → Int → α} {a b : Nat} {t : Int → α} (h : b ≠ a) : am_ur f a t b = f b := if_neg h
theorem am_ur_ur {α : Type} {f : Nat → Int → α} {a : Nat} {t t' : Int → α} : am_ur (am_ur f a t) a t' = am_ur f a t' := by
  funext i
  unfold am_ur
  split <;> rfl
theorem am_ur_self {α : Type} {f : Nat → Int → α} {a : Nat} : am_ur f a (f a) = f := by
  funext i
  unfold am_ur
  split
  next h => rw [h]
  · rfl
theorem am_sr_at {σ : am_D} {a : Nat} {t : Int → Int} : (am_sr σ a t).1 a = t := am_ur_eq
theorem am_sr_of {σ : am_D} {a b : Nat} {t : Int → Int} (h : b ≠ a) : (am_sr σ a t).1 b = σ.1 b := am_ur_ne h
theorem am_pI_nj {σ : am_D} {a : Nat} {k j x : Int} (h : j ≠ k) : (am_pI σ a k x).1 a j = σ.1 a j := am_up_nj h
theorem am_pI_at {σ : am_D} {a : Nat} {k x : Int} : (am_pI σ a k x).1 a k = x := am_up_at
theorem am_pI_of {σ : am_D} {a b : Nat} {k x : Int} (h : b ≠ a) : (am_pI σ a k x).1 b = σ.1 b := am_up_ne h
theorem am_sr_self (σ : am_D) (a : Nat) : am_sr σ a (σ.1 a) = σ := by
  show (am_ur σ.1 a (σ.1 a), σ.2) = σ
  rw [am_ur_self]
theorem am_pI_sr (σ : am_D) (a : Nat) (t : Int → Int) (k x : Int) : am_pI (am_sr σ a t) a k x = am_sr σ a (am_u1 t k x) := by
  show (am_up (am_ur σ.1 a t) a k x, σ.2) = (am_ur σ.1 a (am_u1 t k x), σ.2)
  have : am_up (am_ur σ.1 a t) a k x = am_ur σ.1 a (am_u1 t k x) := by
    funext i
    unfold am_up
    by_cases h : i = a
    · rw [if_pos h, h, am_ur_eq, am_ur_eq]
    · rw [if_neg h, am_ur_ne h, am_ur_ne h]
  rw [this]
theorem am_pI_sr0 (σ : am_D) (a : Nat) (k x : Int) : am_pI σ a k x = am_sr σ a (am_u1 (σ.1 a) k x) := rfl
/-- the kind of a byte -/
def tk_kd (b : Int) : Int := if 97 ≤ b ∧ b ≤ 122 then 97 else if 48 ≤ b ∧ b ≤ 57 then 48 else if b = 59 ∨ b = 61 ∨ b = 44 ∨ b = 60 ∨ b = 62 then b else 1
def tk_sk (bs : Int → Int) (n : Int) : Nat → Int → Int
  | 0, i => i
  | f + 1, i => if i < n ∧ (bs i = 32 ∨ bs i = 10) then tk_sk bs n f (i + 1) else i
def tk_rn (bs : Int → Int) (n k : Int) : Nat → Int → Int
  | 0, i => i
  | f + 1, i => if i < n ∧ tk_kd (bs i) = k then tk_rn bs n k f (i + 1) else i
/-- the TOKEN behind p: its place, its kind, where it stops -/
def tk_st (bs : Int → Int) (n p : Int) : Int := tk_sk bs n 700 p
def tk_k (bs : Int → Int) (n p : Int) : Int := if tk_st bs n p < n then tk_kd (bs (tk_st bs n p)) else 0
def tk_sp (bs : Int → Int) (n p : Int) : Int := if tk_st bs n p < n then (if tk_k bs n p = 97 ∨ tk_k bs n p = 48 then tk_rn bs n (tk_k bs n p) 700 (tk_st bs n p + 1) else tk_st bs n p + 1) else tk_st bs n p
theorem tk_sk_le {bs : Int → Int} {n : Int} : ∀ (f : Nat) (i : Int), i ≤ tk_sk bs n f i ∧ (i ≤ n → tk_sk bs n f i ≤ n) := by
  intro f
  induction f with
  | zero => intro i; exact ⟨Int.le_refl _, fun h => h⟩
  | succ f ih =>
    intro i
    unfold tk_sk
    split
    next h => have := ih (i + 1); exact ⟨by omega, fun _ => this.2 (by omega)⟩
    · exact ⟨Int.le_refl _, fun h => h⟩
theorem tk_rn_le {bs : Int → Int} {n k : Int} : ∀ (f : Nat) (i : Int), i ≤ tk_rn bs n k f i ∧ (i ≤ n → tk_rn bs n k f i ≤ n) := by
  intro f
  induction f with
  | zero => intro i; exact ⟨Int.le_refl _, fun h => h⟩
  | succ f ih =>
    intro i
    unfold tk_rn
    split
    next h => have := ih (i + 1); exact ⟨by omega, fun _ => this.2 (by omega)⟩
    · exact ⟨Int.le_refl _, fun h => h⟩
theorem tk_kd_rg (b : Int) (h : 0 ≤ b ∧ b ≤ 255) : 1 ≤ tk_kd b ∧ tk_kd b ≤ 97 := by
  unfold tk_kd
  split
  · omega
  · split
    · omega
    · split <;> omega
/-- a place of a TOKEN and where it stops lie within the text -/
theorem tk_in {bs : Int → Int} {n p : Int} (h : p ≤ n) : p ≤ tk_st bs n p ∧ tk_st bs n p ≤ tk_sp bs n p ∧ tk_sp bs n p ≤ n := by
  have h1 := tk_sk_le (bs := bs) (n := n) 700 p
  have h2 : p ≤ tk_st bs n p ∧ tk_st bs n p ≤ n := ⟨h1.1, h1.2 h⟩
  unfold tk_sp
  split
  next hlt =>
    split
    · have := tk_rn_le (bs := bs) (n := n) (k := tk_k bs n p) 700 (tk_st bs n p + 1)
      exact ⟨h2.1, by omega, this.2 (by omega)⟩
    · exact ⟨h2.1, by omega, by omega⟩
  · exact ⟨h2.1, Int.le_refl _, h2.2⟩
theorem tk_lt {bs : Int → Int} {n p : Int} (h : tk_k bs n p ≠ 0) : tk_st bs n p < n ∧ tk_st bs n p < tk_sp bs n p := by
  have hlt : tk_st bs n p < n := by
    by_cases q : tk_st bs n p < n
    · exact q
    · exact absurd (show tk_k bs n p = 0 by unfold tk_k; rw [if_neg q]) h
  refine ⟨hlt, ?_⟩
  unfold tk_sp
  rw [if_pos hlt]
  split
  · have := (tk_rn_le (bs := bs) (n := n) (k := tk_k bs n p) 700 (tk_st bs n p + 1)).1
    omega
  · omega
theorem tk_k_rg {bs : Int → Int} {n p : Int} (h0 : 0 ≤ p) (hb : ∀ i, 0 ≤ i → i < n → 0 ≤ bs i ∧ bs i ≤ 255) : 0 ≤ tk_k bs n p ∧ tk_k bs n p ≤ 97 := by
  unfold tk_k
  split
  next hlt =>
    have := tk_kd_rg _ (hb (tk_st bs n p) (by have := (tk_sk_le (bs := bs) (n := n) 700 p).1; exact Int.le_trans h0 this) hlt)
    omega
  · omega
/-- the Tape's own cells: 1 length, 2 kind, 3 start, 4 stop, 5 FAULT -/
def tk_adv (bs : Int → Int) (t : Int → Int) : Int → Int := if t 5 = 0 then am_u1 (am_u1 (am_u1 t 3 (tk_st bs (t 1) (t 4))) 2 (tk_k bs (t 1) (t 4))) 4 (tk_sp bs (t 1) (t 4)) else t
def tk_ok (bs : Int → Int) (t : Int → Int) : Prop := (∀ i, 0 ≤ i → i < 600 → 0 ≤ bs i ∧ bs i ≤ 255) ∧ 0 ≤ t 1 ∧ t 1 ≤ 600 ∧ 0 ≤ t 4 ∧ t 4 ≤ t 1 ∧ 0 ≤ t 3 ∧ t 3 ≤ t 4 ∧ 0 ≤ t 2 ∧ t 2 ≤ 97 ∧ 0 ≤ t 5 ∧ t 5 ≤ 10000
theorem tk_adv_ok {bs t : Int → Int} (h : tk_ok bs t) : tk_ok bs (tk_adv bs t) := by
  unfold tk_adv
  split
  next h5 =>
    obtain ⟨hb, h1, h2, h3, h4, h6, h7, h8, h9, h10⟩ := h
    have hi := tk_in (bs := bs) h4
    have hk := tk_k_rg (n := t 1) h3 (fun i a b => hb i a (by omega))
    refine ⟨hb, h1, h2, ?_, ?_, ?_, ?_, ?_, ?_, ?_⟩ <;> simp only [am_u1] <;> simp <;> omega
  · exact h
variable {G : am_G} {σ : am_D}
theorem c_kindOf (d : Nat) {b : Int} (hb : -1 ≤ b ∧ b ≤ 255) : am_MI G (d + 1) mX7_kindOf [am_i b] σ (fun x σ' => x = tk_kd b ∧ σ = σ') := by
  refine am_M.go (by decide) (Nat.le_of_ble_eq_true rfl) rfl ?_
  have J65 : ∀ s : Int, (s = 0 ∨ s = 1) → tk_kd b = (if s = 0 then 1 else b) → am_X (am_FI G (d + 1) (fun x σ' => x = tk_kd b ∧ σ = σ')) mX7_kindOf (0, 0) 65 [some (am_i b), none] [am_i s] (am_K0, σ) := by
    intro s hs he
    refine S_X7_kindOf_65 ?_
    refine S_X7_kindOf_66 (by omega) (fun h66 => ?_) (fun h66 => ?_)
    · refine S_X7_kindOf_74 ?_
      refine S_X7_kindOf_75 ?_
      rw [he]
      first | (rw [if_pos (by omega)]; exact ⟨rfl, rfl⟩) | (rw [if_neg (by omega)]; exact ⟨rfl, rfl⟩)
    · refine S_X7_kindOf_70 ?_
      refine S_X7_kindOf_75 ?_
      rw [he]
      first | (rw [if_pos (by omega)]; exact ⟨rfl, rfl⟩) | (rw [if_neg (by omega)]; exact ⟨rfl, rfl⟩)
  have J30 : ¬ (97 ≤ b ∧ b ≤ 122) → ¬ (48 ≤ b ∧ b ≤ 57) → am_X (am_FI G (d + 1) (fun x σ' => x = tk_kd b ∧ σ = σ')) mX7_kindOf (0, 0) 30 [some (am_i b), none] [] (am_K0, σ) := by
    intro h1 h2
    refine S_X7_kindOf_30 (by omega) (fun h30 => ?_) (fun h30 => ?_)
    · refine S_X7_kindOf_60 ?_
      refine J65 _ (by omega) ?_
      unfold tk_kd
      rw [if_neg h1, if_neg h2]
      first | (rw [if_pos (by omega), if_neg (by omega)]) | (rw [if_neg (by omega), if_pos (by omega)])
    · refine S_X7_kindOf_36 (by omega) (fun h36 => ?_) (fun h36 => ?_)
      · refine S_X7_kindOf_60 ?_
        refine J65 _ (by omega) ?_
        unfold tk_kd
        rw [if_neg h1, if_neg h2]
        first | (rw [if_pos (by omega), if_neg (by omega)]) | (rw [if_neg (by omega), if_pos (by omega)])
      · refine S_X7_kindOf_42 (by omega) (fun h42 => ?_) (fun h42 => ?_)
        · refine S_X7_kindOf_60 ?_
          refine J65 _ (by omega) ?_
          unfold tk_kd
          rw [if_neg h1, if_neg h2]
          first | (rw [if_pos (by omega), if_neg (by omega)]) | (rw [if_neg (by omega), if_pos (by omega)])
        · refine S_X7_kindOf_48 (by omega) (fun h48 => ?_) (fun h48 => ?_)
          · refine S_X7_kindOf_60 ?_
            refine J65 _ (by omega) ?_
            unfold tk_kd
            rw [if_neg h1, if_neg h2]
            first | (rw [if_pos (by omega), if_neg (by omega)]) | (rw [if_neg (by omega), if_pos (by omega)])
          · refine S_X7_kindOf_54 (by omega) (fun h54 => ?_) (fun h54 => ?_)
            · refine S_X7_kindOf_64 ?_
              refine J65 _ (by omega) ?_
              unfold tk_kd
              rw [if_neg h1, if_neg h2]
              first | (rw [if_pos (by omega), if_neg (by omega)]) | (rw [if_neg (by omega), if_pos (by omega)])
            · refine S_X7_kindOf_60 ?_
              refine J65 _ (by omega) ?_
              unfold tk_kd
              rw [if_neg h1, if_neg h2]
              first | (rw [if_pos (by omega), if_neg (by omega)]) | (rw [if_neg (by omega), if_pos (by omega)])
  have J15 : ¬ (97 ≤ b ∧ b ≤ 122) → am_X (am_FI G (d + 1) (fun x σ' => x = tk_kd b ∧ σ = σ')) mX7_kindOf (0, 0) 15 [some (am_i b), none] [] (am_K0, σ) := by
    intro h1
    refine S_X7_kindOf_15 (by omega) (fun h15 => ?_) (fun h15 => ?_)
    · exact J30 h1 (by omega)
    · refine S_X7_kindOf_21 (by omega) (fun h21 => ?_) (fun h21 => ?_)
      · exact J30 h1 (by omega)
      · refine S_X7_kindOf_27 ?_
        exact ⟨by unfold tk_kd; rw [if_neg h1, if_pos (by omega)], rfl⟩
  refine S_X7_kindOf_0 (by omega) (fun h0 => ?_) (fun h0 => ?_)
  · exact J15 (by omega)
  · refine S_X7_kindOf_6 (by omega) (fun h6 => ?_) (fun h6 => ?_)
    · exact J15 (by omega)
    · refine S_X7_kindOf_12 ?_
      exact ⟨by unfold tk_kd; rw [if_pos (by omega)], rfl⟩
theorem c_advance (d : Nat) (hk : tk_ok (σ.1 2) (σ.1 1)) : am_MV G (d + 2) mX7_advance [am_r (some 1)] σ (fun σ' => σ' = am_sr σ 1 (tk_adv (σ.1 2) (σ.1 1))) := by
  obtain ⟨hb, h1, h2, h3, h4, h6, h7, h8, h9, h10⟩ := id hk
  have hs := sh_2
  refine am_M.go (by decide) (Nat.le_of_ble_eq_true rfl) rfl ?_
  by_cases h5 : σ.1 1 5 = 0
  case neg =>
    refine S_X7_advance_0 (by omega) (fun q => absurd q h5) (fun _ => ?_)
    refine S_X7_advance_7 ?_
    show σ = am_sr σ 1 (tk_adv (σ.1 2) (σ.1 1))
    unfold tk_adv
    rw [if_neg h5, am_sr_self]
  refine S_X7_advance_0 (by omega) (fun _ => ?_) (fun q => absurd h5 q)
  have hin := tk_in (bs := σ.1 2) h4
  have hkr := tk_k_rg (bs := σ.1 2) (n := σ.1 1 1) (p := σ.1 1 4) h3 (fun i a b => hb i a (by omega))
  have hst0 : tk_sk (σ.1 2) (σ.1 1 1) 700 (σ.1 1 4) = tk_st (σ.1 2) (σ.1 1 1) (σ.1 1 4) := rfl
  have hkv : tk_k (σ.1 2) (σ.1 1 1) (σ.1 1 4) = if tk_st (σ.1 2) (σ.1 1 1) (σ.1 1 4) < σ.1 1 1 then tk_kd (σ.1 2 (tk_st (σ.1 2) (σ.1 1 1) (σ.1 1 4))) else 0 := rfl
  have hsp : tk_sp (σ.1 2) (σ.1 1 1) (σ.1 1 4) = if tk_st (σ.1 2) (σ.1 1 1) (σ.1 1 4) < σ.1 1 1 then (if tk_k (σ.1 2) (σ.1 1 1) (σ.1 1 4) = 97 ∨ tk_k (σ.1 2) (σ.1 1 1) (σ.1 1 4) = 48 then tk_rn (σ.1 2) (σ.1 1 1) (tk_k (σ.1 2) (σ.1 1 1) (σ.1 1 4)) 700 (tk_st (σ.1 2) (σ.1 1 1) (σ.1 1 4) + 1) else tk_st (σ.1 2) (σ.1 1 1) (σ.1 1 4) + 1) else tk_st (σ.1 2) (σ.1 1 1) (σ.1 1 4) := rfl
  have hfin : tk_adv (σ.1 2) (σ.1 1) = am_u1 (am_u1 (am_u1 (σ.1 1) 3 (tk_st (σ.1 2) (σ.1 1 1) (σ.1 1 4))) 2 (tk_k (σ.1 2) (σ.1 1 1) (σ.1 1 4))) 4 (tk_sp (σ.1 2) (σ.1 1 1) (σ.1 1 4)) := by
    unfold tk_adv
    rw [if_pos h5]
  rw [hfin]
  generalize tk_st (σ.1 2) (σ.1 1 1) (σ.1 1 4) = s at hst0 hkv hsp hin ⊢
  generalize tk_k (σ.1 2) (σ.1 1 1) (σ.1 1 4) = kd at hkv hsp hkr ⊢
  generalize tk_sp (σ.1 2) (σ.1 1 1) (σ.1 1 4) = sp at hsp hin ⊢
  have hbv : ∀ i, 0 ≤ i → i < σ.1 1 1 → (if 0 ≤ i ∧ i < (600 : Nat) then σ.1 2 i else -1) = σ.1 2 i := fun i a b => if_pos (by omega)
  -- the end: stop is laid
  have J146 : ∀ e : Int, e = sp → am_X (am_FV G (d + 2) (fun σ' => σ' = am_sr σ 1 (am_u1 (am_u1 (am_u1 (σ.1 1) 3 s) 2 kd) 4 sp))) mX7_advance (0, 0) 146 [some (am_r (some 1)), some (am_i e)] [] (am_K0, am_sr σ 1 (am_u1 (am_u1 (σ.1 1) 3 s) 2 kd)) := by
    intro e he
    refine S_X7_advance_146 ?_
    refine S_X7_advance_151 ?_
    rw [am_pI_sr, he]
  have r1 : (am_sr σ 1 (am_u1 (am_u1 (σ.1 1) 3 s) 2 kd)).1 1 1 = σ.1 1 1 := by rw [am_sr_at]; rfl
  have r2 : (am_sr σ 1 (am_u1 (am_u1 (σ.1 1) 3 s) 2 kd)).1 1 2 = kd := by rw [am_sr_at]; rfl
  have r3 : (am_sr σ 1 (am_u1 (am_u1 (σ.1 1) 3 s) 2 kd)).1 2 = σ.1 2 := am_sr_of (by decide)
  -- the loop over a word or a number
  have J114 : ∀ (f : Nat) (i : Int), 0 ≤ i → i ≤ σ.1 1 1 → σ.1 1 1 - i ≤ f → tk_rn (σ.1 2) (σ.1 1 1) kd f i = sp → am_X (am_FV G (d + 2) (fun σ' => σ' = am_sr σ 1 (am_u1 (am_u1 (am_u1 (σ.1 1) 3 s) 2 kd) 4 sp))) mX7_advance (0, 0) 114 [some (am_r (some 1)), some (am_i i)] [] (am_K0, am_sr σ 1 (am_u1 (am_u1 (σ.1 1) 3 s) 2 kd)) := by
    intro f
    induction f with
    | zero =>
      intro i g0 g1 g2 g3
      refine S_X7_advance_114 (by omega) (by omega) (fun q => J146 i g3) (fun q => ?_)
      exact absurd q (by omega)
    | succ f ih =>
      intro i g0 g1 g2 g3
      unfold tk_rn at g3
      refine S_X7_advance_114 (by omega) (by omega) (fun q => ?_) (fun q => ?_)
      · rw [if_neg (by omega)] at g3
        exact J146 i g3
      · refine S_X7_advance_122 (c_at _ hs (by omega)) ?_
        rintro _ _ ⟨rfl, rfl⟩
        rw [r3, hbv i g0 (by omega)]
        have hbi := hb i g0 (by omega)
        have hki := tk_kd_rg _ hbi
        refine S_X7_advance_130 (c_kindOf _ (by omega)) ?_
        rintro _ _ ⟨rfl, rfl⟩
        refine S_X7_advance_133 (by omega) (by omega) (fun q2 => ?_) (fun q2 => ?_)
        · rw [r2] at q2
          rw [if_neg (fun z => q2 z.2)] at g3
          exact J146 i g3
        · rw [r2] at q2
          rw [if_pos ⟨by omega, Classical.not_not.mp q2⟩] at g3
          refine S_X7_advance_140 ?_
          exact ih (i + 1) (by omega) (by omega) (by omega) g3
  have J96 : ∀ i : Int, 0 ≤ i → i ≤ σ.1 1 1 → sp = (if kd = 97 ∨ kd = 48 then tk_rn (σ.1 2) (σ.1 1 1) kd 700 i else i) → am_X (am_FV G (d + 2) (fun σ' => σ' = am_sr σ 1 (am_u1 (am_u1 (am_u1 (σ.1 1) 3 s) 2 kd) 4 sp))) mX7_advance (0, 0) 96 [some (am_r (some 1)), some (am_i i)] [] (am_K0, am_sr σ 1 (am_u1 (am_u1 (σ.1 1) 3 s) 2 kd)) := by
    intro i g0 g1 g2
    refine S_X7_advance_96 (by omega) (fun q => ?_) (fun q => ?_)
    · rw [r2] at q
      rw [if_pos (Or.inl q)] at g2
      exact J114 700 i g0 g1 (by omega) g2.symm
    · rw [r2] at q
      refine S_X7_advance_105 (by omega) (fun q2 => ?_) (fun q2 => ?_)
      · rw [r2] at q2
        rw [if_neg (by omega)] at g2
        exact J146 i g2.symm
      · rw [r2] at q2
        rw [if_pos (Or.inr (Classical.not_not.mp q2))] at g2
        exact J114 700 i g0 g1 (by omega) g2.symm
  have p1 : (am_pI σ 1 3 s).1 1 1 = σ.1 1 1 := am_pI_nj (by decide)
  have p2 : (am_pI σ 1 3 s).1 2 = σ.1 2 := am_pI_of (by decide)
  have J82 : am_X (am_FV G (d + 2) (fun σ' => σ' = am_sr σ 1 (am_u1 (am_u1 (am_u1 (σ.1 1) 3 s) 2 kd) 4 sp))) mX7_advance (0, 0) 82 [some (am_r (some 1)), some (am_i s)] [am_i kd, am_r (some 1)] (am_K0, am_pI σ 1 3 s) := by
    refine S_X7_advance_82 ?_
    rw [am_pI_sr0 σ, am_pI_sr]
    refine S_X7_advance_85 (by omega) (by omega) (fun q => ?_) (fun q => ?_)
    · rw [r1] at q
      rw [if_neg (by omega)] at hkv hsp
      exact J96 s (by omega) (by omega) (by rw [if_neg (by omega)]; exact hsp)
    · rw [r1] at q
      rw [if_pos (by omega)] at hsp
      refine S_X7_advance_93 ?_
      exact J96 (s + 1) (by omega) (by omega) hsp
  have J53 : am_X (am_FV G (d + 2) (fun σ' => σ' = am_sr σ 1 (am_u1 (am_u1 (am_u1 (σ.1 1) 3 s) 2 kd) 4 sp))) mX7_advance (0, 0) 53 [some (am_r (some 1)), some (am_i s)] [] (am_K0, σ) := by
    refine S_X7_advance_53 ?_
    refine S_X7_advance_58 (by omega) (by omega) (fun q => ?_) (fun q => ?_)
    · rw [p1] at q
      rw [if_neg (by omega)] at hkv
      refine S_X7_advance_81 ?_
      rw [← hkv]
      exact J82
    · rw [p1] at q
      rw [if_pos (by omega)] at hkv
      refine S_X7_advance_67 (c_at _ hs (by omega)) ?_
      rintro _ _ ⟨rfl, rfl⟩
      rw [p2, hbv s (by omega) (by omega)]
      have hbi := hb s (by omega) (by omega)
      refine S_X7_advance_75 (c_kindOf _ (by omega)) ?_
      rintro _ _ ⟨rfl, rfl⟩
      refine S_X7_advance_78 ?_
      rw [← hkv]
      exact J82
  have J13 : ∀ (f : Nat) (i : Int), 0 ≤ i → i ≤ σ.1 1 1 → σ.1 1 1 - i ≤ f → tk_sk (σ.1 2) (σ.1 1 1) f i = s → am_X (am_FV G (d + 2) (fun σ' => σ' = am_sr σ 1 (am_u1 (am_u1 (am_u1 (σ.1 1) 3 s) 2 kd) 4 sp))) mX7_advance (0, 0) 13 [some (am_r (some 1)), some (am_i i)] [] (am_K0, σ) := by
    intro f
    induction f with
    | zero =>
      intro i g0 g1 g2 g3
      have g3 : i = s := g3
      subst g3
      exact S_X7_advance_13 (by omega) (by omega) (fun q => J53) (fun q => absurd q (by omega))
    | succ f ih =>
      intro i g0 g1 g2 g3
      unfold tk_sk at g3
      refine S_X7_advance_13 (by omega) (by omega) (fun q => ?_) (fun q => ?_)
      · rw [if_neg (by omega)] at g3
        subst g3
        exact J53
      · have hbi := hb i g0 (by omega)
        refine S_X7_advance_21 (c_at _ hs (by omega)) ?_
        rintro _ _ ⟨rfl, rfl⟩
        rw [hbv i g0 (by omega)]
        refine S_X7_advance_29 (by omega) (fun q2 => ?_) (fun q2 => ?_)
        · rw [if_pos ⟨by omega, Or.inl q2⟩] at g3
          refine S_X7_advance_47 ?_
          exact ih (i + 1) (by omega) (by omega) (by omega) g3
        · refine S_X7_advance_34 (c_at _ hs (by omega)) ?_
          rintro _ _ ⟨rfl, rfl⟩
          rw [hbv i g0 (by omega)]
          refine S_X7_advance_42 (by omega) (fun q3 => ?_) (fun q3 => ?_)
          · rw [if_neg (by omega)] at g3
            subst g3
            exact J53
          · rw [if_pos ⟨by omega, by omega⟩] at g3
            refine S_X7_advance_47 ?_
            exact ih (i + 1) (by omega) (by omega) (by omega) g3
  refine S_X7_advance_8 ?_
  exact J13 700 _ h3 h4 (by omega) hst0
def tk_fail (t : Int → Int) (w : Int) : Int → Int := if t 5 = 0 then am_u1 t 5 (w + 8 * t 3) else t
theorem tk_fail_ok {bs t : Int → Int} {w : Int} (h : tk_ok bs t) (hw : 0 ≤ w ∧ w ≤ 7) : tk_ok bs (tk_fail t w) := by
  unfold tk_fail
  split
  next h5 =>
    obtain ⟨hb, h1, h2, h3, h4, h6, h7, h8, h9, h10⟩ := h
    refine ⟨hb, h1, h2, ?_, ?_, ?_, ?_, ?_, ?_, ?_, ?_⟩ <;> simp only [am_u1] <;> simp <;> omega
  · exact h
theorem c_fail (d : Nat) {w : Int} (hk : tk_ok (σ.1 2) (σ.1 1)) : am_MV G (d + 1) mX7_fail [am_r (some 1), am_i w] σ (fun σ' => σ' = am_sr σ 1 (tk_fail (σ.1 1) w)) := by
  obtain ⟨hb, h1, h2, h3, h4, h6, h7, h8, h9, h10⟩ := id hk
  refine am_M.go (by decide) (Nat.le_of_ble_eq_true rfl) rfl ?_
  refine S_X7_fail_0 (by omega) (fun h0 => ?_) (fun h0 => ?_)
  · refine S_X7_fail_20 ?_
    unfold tk_fail
    first | (rw [if_neg h0, am_sr_self]) | (rw [if_pos (Classical.not_not.mp h0)]; rfl)
  · refine S_X7_fail_7 ?_
    refine S_X7_fail_20 ?_
    unfold tk_fail
    first | (rw [if_neg h0, am_sr_self]) | (rw [if_pos (Classical.not_not.mp h0)]; rfl)
def tk_b (bs : Int → Int) (i : Int) : Int := if 0 ≤ i ∧ i < 600 then bs i else -1
theorem tk_b_rg {bs t : Int → Int} (h : tk_ok bs t) (i : Int) : -1 ≤ tk_b bs i ∧ tk_b bs i ≤ 255 := by
  unfold tk_b
  split
  next q => have := h.1 i q.1 q.2; omega
  · omega
/-- which LETTER a TOKEN is -/
def tk_let (bs t : Int → Int) : Int := if t 2 = 97 ∧ t 4 - t 3 = 1 ∧ 97 ≤ tk_b bs (t 3) ∧ tk_b bs (t 3) ≤ 99 then tk_b bs (t 3) - 97 else -1
theorem tk_let_rg (bs t : Int → Int) : -1 ≤ tk_let bs t ∧ tk_let bs t ≤ 2 := by unfold tk_let; split <;> omega
theorem c_letter (d : Nat) (hk : tk_ok (σ.1 2) (σ.1 1)) : am_MI G (d + 3) mX7_letter [am_r (some 1)] σ (fun x σ' => x = tk_let (σ.1 2) (tk_adv (σ.1 2) (σ.1 1)) ∧ σ' = am_sr σ 1 (if x = -1 then tk_fail (tk_adv (σ.1 2) (σ.1 1)) 1 else tk_adv (σ.1 2) (σ.1 1))) := by
  have hs := sh_2
  have hk1 := tk_adv_ok hk
  refine am_M.go (by decide) (Nat.le_of_ble_eq_true rfl) rfl ?_
  refine S_X7_letter_0 (c_advance _ hk) ?_
  rintro _ rfl
  generalize tk_adv (σ.1 2) (σ.1 1) = t at hk1 ⊢
  have r1 : (am_sr σ 1 t).1 1 = t := am_sr_at
  have r2 : (am_sr σ 1 t).1 2 = σ.1 2 := am_sr_of (by decide)
  obtain ⟨hb, h1, h2, h3, h4, h6, h7, h8, h9, h10⟩ := id hk1
  have hbr := tk_b_rg hk1 (t 3)
  have J44 : ∀ v : Int, -98 ≤ v ∧ v ≤ 255 → (0 ≤ v ∧ v < 3 → tk_let (σ.1 2) t = v) → (¬ (0 ≤ v ∧ v < 3) → tk_let (σ.1 2) t = -1) → am_X (am_FI G (d + 3) (fun x σ' => x = tk_let (σ.1 2) t ∧ σ' = am_sr σ 1 (if x = -1 then tk_fail t 1 else t))) mX7_letter (0, 0) 44 [some (am_r (some 1)), none] [am_i v] (am_K0, am_sr σ 1 t) := by
    intro v hv hv1 hv2
    have J54 : tk_let (σ.1 2) t = -1 → am_X (am_FI G (d + 3) (fun x σ' => x = tk_let (σ.1 2) t ∧ σ' = am_sr σ 1 (if x = -1 then tk_fail t 1 else t))) mX7_letter (0, 0) 54 [some (am_r (some 1)), none] [] (am_K0, am_sr σ 1 t) := by
      intro q
      refine S_X7_letter_54 (c_fail _ (by rw [r1, r2]; exact hk1)) ?_
      rintro _ rfl
      refine S_X7_letter_59 ⟨q.symm, ?_⟩
      rw [if_pos rfl, r1]
      show am_sr (am_sr σ 1 t) 1 _ = _
      rw [am_sr, am_ur_ur]
    refine S_X7_letter_44 ?_
    refine S_X7_letter_45 (by omega) (fun q => J54 (hv2 (by omega))) (fun q => ?_)
    refine S_X7_letter_49 (by omega) (fun q2 => ?_) (fun q2 => J54 (hv2 (by omega)))
    refine S_X7_letter_61 ⟨(hv1 ⟨by omega, q2⟩).symm, ?_⟩
    rw [if_neg (by omega)]
  refine S_X7_letter_4 (by rw [r1]; omega) (fun q => ?_) (fun q => ?_)
  · rw [r1] at q
    refine S_X7_letter_43 (J44 _ (by omega) (fun z => absurd z (by omega)) (fun _ => ?_))
    unfold tk_let
    rw [if_neg (fun z => q z.1)]
  · rw [r1] at q
    refine S_X7_letter_13 (by rw [r1]; omega) (fun q2 => ?_) (fun q2 => ?_)
    · rw [r1] at q2
      refine S_X7_letter_43 (J44 _ (by omega) (fun z => absurd z (by omega)) (fun _ => ?_))
      unfold tk_let
      rw [if_neg (fun z => q2 z.2.1)]
    · rw [r1] at q2
      refine S_X7_letter_26 (c_at _ hs (by rw [r1]; omega)) ?_
      rintro _ _ ⟨rfl, rfl⟩
      rw [r1, r2]
      have e9 : (if 0 ≤ t 3 ∧ t 3 < ((600 : Nat) : Int) then σ.1 2 (t 3) else -1) = tk_b (σ.1 2) (t 3) := rfl
      rw [e9]
      refine S_X7_letter_37 (J44 _ (by omega) (fun z => ?_) (fun z => ?_))
      · unfold tk_let
        rw [if_pos (by omega)]
      · unfold tk_let
        rw [if_neg (by omega)]
/-- one digit from lo to hi: which, or -1, -2 for the FAULT of kind 1, 2 -/
def tk_dig (bs t : Int → Int) (lo hi : Int) : Int := if t 2 = 48 ∧ t 4 - t 3 = 1 then (if lo ≤ tk_b bs (t 3) - 48 ∧ tk_b bs (t 3) - 48 ≤ hi then tk_b bs (t 3) - 48 else -2) else -1
theorem c_digit (d : Nat) {lo hi : Int} (hlo : 0 ≤ lo ∧ lo ≤ 100) (hhi : -100 ≤ hi ∧ hi ≤ 100) (hk : tk_ok (σ.1 2) (σ.1 1)) : am_MI G (d + 3) mX7_digit [am_r (some 1), am_i lo, am_i hi] σ (fun x σ' => x = max (tk_dig (σ.1 2) (tk_adv (σ.1 2) (σ.1 1)) lo hi) (-1) ∧ σ' = am_sr σ 1 (if tk_dig (σ.1 2) (tk_adv (σ.1 2) (σ.1 1)) lo hi < 0 then tk_fail (tk_adv (σ.1 2) (σ.1 1)) (-(tk_dig (σ.1 2) (tk_adv (σ.1 2) (σ.1 1)) lo hi)) else tk_adv (σ.1 2) (σ.1 1))) := by
  have hs := sh_2
  have hk1 := tk_adv_ok hk
  refine am_M.go (by decide) (Nat.le_of_ble_eq_true rfl) rfl ?_
  refine S_X7_digit_0 (c_advance _ hk) ?_
  rintro _ rfl
  generalize tk_adv (σ.1 2) (σ.1 1) = t at hk1 ⊢
  have r1 : (am_sr σ 1 t).1 1 = t := am_sr_at
  have r2 : (am_sr σ 1 t).1 2 = σ.1 2 := am_sr_of (by decide)
  obtain ⟨hb, h1, h2, h3, h4, h6, h7, h8, h9, h10⟩ := id hk1
  have hbr := tk_b_rg hk1 (t 3)
  have fl : ∀ w : Int, am_sr (am_sr σ 1 t) 1 (tk_fail ((am_sr σ 1 t).1 1) w) = am_sr σ 1 (tk_fail t w) := by
    intro w
    rw [r1]
    show (am_ur (am_ur σ.1 1 t) 1 _, σ.2) = _
    rw [am_ur_ur]
  have J26 : tk_dig (σ.1 2) t lo hi = -1 → am_X (am_FI G (d + 3) (fun x σ' => x = max (tk_dig (σ.1 2) t lo hi) (-1) ∧ σ' = am_sr σ 1 (if tk_dig (σ.1 2) t lo hi < 0 then tk_fail t (-(tk_dig (σ.1 2) t lo hi)) else t))) mX7_digit (0, 0) 26 [some (am_r (some 1)), none, none, none] [] (am_K0, am_sr σ 1 t) := by
    intro q
    refine S_X7_digit_26 (c_fail _ (by rw [r1, r2]; exact hk1)) ?_
    rintro _ rfl
    refine S_X7_digit_31 ⟨by rw [q]; rfl, ?_⟩
    rw [fl, q]
    rfl
  have J58 : tk_dig (σ.1 2) t lo hi = -2 → am_X (am_FI G (d + 3) (fun x σ' => x = max (tk_dig (σ.1 2) t lo hi) (-1) ∧ σ' = am_sr σ 1 (if tk_dig (σ.1 2) t lo hi < 0 then tk_fail t (-(tk_dig (σ.1 2) t lo hi)) else t))) mX7_digit (0, 0) 58 [some (am_r (some 1)), none, none, none] [] (am_K0, am_sr σ 1 t) := by
    intro q
    refine S_X7_digit_58 (c_fail _ (by rw [r1, r2]; exact hk1)) ?_
    rintro _ rfl
    refine S_X7_digit_63 ⟨by rw [q]; rfl, ?_⟩
    rw [fl, q]
    rfl
  refine S_X7_digit_4 (by rw [r1]; omega) (fun q => ?_) (fun q => ?_)
  · rw [r1] at q
    exact J26 (by unfold tk_dig; rw [if_neg (fun z => q z.1)])
  · rw [r1] at q
    refine S_X7_digit_13 (by rw [r1]; omega) (fun q2 => ?_) (fun q2 => ?_)
    · rw [r1] at q2
      refine S_X7_digit_33 (c_at _ hs (by rw [r1]; omega)) ?_
      rintro _ _ ⟨rfl, rfl⟩
      rw [r1, r2]
      have e9 : (if 0 ≤ t 3 ∧ t 3 < ((600 : Nat) : Int) then σ.1 2 (t 3) else -1) = tk_b (σ.1 2) (t 3) := rfl
      rw [e9]
      have hd9 : tk_dig (σ.1 2) t lo hi = (if lo ≤ tk_b (σ.1 2) (t 3) - 48 ∧ tk_b (σ.1 2) (t 3) - 48 ≤ hi then tk_b (σ.1 2) (t 3) - 48 else -2) := by
        unfold tk_dig
        rw [if_pos ⟨Classical.not_not.mp q, q2⟩]
      refine S_X7_digit_44 ?_
      refine S_X7_digit_48 (by omega) (by omega) (fun q3 => ?_) (fun q3 => ?_)
      · exact J58 (by rw [hd9, if_neg (by omega)])
      · refine S_X7_digit_53 (by omega) (by omega) (fun q4 => ?_) (fun q4 => ?_)
        · rw [if_pos (by omega)] at hd9
          refine S_X7_digit_65 ⟨by omega, ?_⟩
          rw [if_neg (by omega)]
        · exact J58 (by rw [hd9, if_neg (by omega)])
    · rw [r1] at q2
      exact J26 (by unfold tk_dig; rw [if_neg (fun z => q2 z.2)])
theorem c_sign (d : Nat) {w : Int} (hw : 0 ≤ w ∧ w ≤ 100) (hk : tk_ok (σ.1 2) (σ.1 1)) : am_MV G (d + 3) mX7_sign [am_r (some 1), am_i w] σ (fun σ' => σ' = am_sr σ 1 (if tk_adv (σ.1 2) (σ.1 1) 2 = w then tk_adv (σ.1 2) (σ.1 1) else tk_fail (tk_adv (σ.1 2) (σ.1 1)) 1)) := by
  have hk1 := tk_adv_ok hk
  refine am_M.go (by decide) (Nat.le_of_ble_eq_true rfl) rfl ?_
  refine S_X7_sign_0 (c_advance _ hk) ?_
  rintro _ rfl
  generalize tk_adv (σ.1 2) (σ.1 1) = t at hk1 ⊢
  have r1 : (am_sr σ 1 t).1 1 = t := am_sr_at
  have r2 : (am_sr σ 1 t).1 2 = σ.1 2 := am_sr_of (by decide)
  obtain ⟨hb, h1, h2, h3, h4, h6, h7, h8, h9, h10⟩ := id hk1
  refine S_X7_sign_4 (by rw [r1]; omega) (by omega) (fun q => ?_) (fun q => ?_)
  · rw [r1] at q
    exact S_X7_sign_17 (by rw [if_pos q])
  · rw [r1] at q
    refine S_X7_sign_12 (c_fail _ (by rw [r1, r2]; exact hk1)) ?_
    rintro _ rfl
    refine S_X7_sign_17 ?_
    rw [if_neg q, r1]
    show (am_ur (am_ur σ.1 1 t) 1 _, σ.2) = _
    rw [am_ur_ur]
def tk_isw (bs t : Int → Int) (i : Nat) : Bool := decide (t 2 = 97) && (decide (t 4 - t 3 = (am_chr i).length) && (List.range (am_chr i).length).all fun j => decide (tk_b bs (t 3 + j) = (am_chr i).getD j 0))
theorem am_chr_rg : ∀ i, i < 9 → ∀ j, j < 8 → 0 ≤ (am_chr i).getD j 0 ∧ (am_chr i).getD j 0 ≤ 200 := by decide +kernel
theorem c_isWord (d : Nat) {i : Nat} (hi : i < 9) (hk : tk_ok (σ.1 2) (σ.1 1)) : am_MI G (d + 5) mX7_isWord [am_r (some 1), am_s i] σ (fun x σ' => x = (if tk_isw (σ.1 2) (σ.1 1) i then 1 else 0) ∧ σ = σ') := by
  have hs := sh_2
  obtain ⟨hb, h1, h2, h3, h4, h6, h7, h8, h9, h10⟩ := id hk
  have hl := (am_lens i hi).2
  refine am_M.go (by decide) (Nat.le_of_ble_eq_true rfl) rfl ?_
  refine S_X7_isWord_0 (by omega) (fun q => ?_) (fun q => ?_)
  · refine S_X7_isWord_25 ⟨?_, rfl⟩
    unfold tk_isw
    rw [decide_eq_false q]
    rfl
  have q : σ.1 1 2 = 97 := Classical.not_not.mp q
  refine S_X7_isWord_9 (c_slen _ hi) hi ?_
  rintro _ _ ⟨rfl, rfl⟩
  refine S_X7_isWord_22 (by omega) (by omega) (fun q2 => ?_) (fun q2 => ?_)
  · refine S_X7_isWord_27 ?_
    have loop : ∀ (m j : Nat), j + m = (am_chr i).length → (∀ k, k < j → tk_b (σ.1 2) (σ.1 1 3 + k) = (am_chr i).getD k 0) → am_X (am_FI G (d + 5) (fun x σ' => x = (if tk_isw (σ.1 2) (σ.1 1) i then 1 else 0) ∧ σ = σ')) mX7_isWord (0, 0) 29 [some (am_r (some 1)), some (am_s i), some (am_i j)] [] (am_K0, σ) := by
      intro m
      induction m with
      | zero =>
        intro j hj hall
        refine S_X7_isWord_29 (c_slen _ hi) hi ?_
        rintro _ _ ⟨rfl, rfl⟩
        refine S_X7_isWord_34 (by omega) (by omega) (fun q3 => ?_) (fun q3 => absurd q3 (by omega))
        refine S_X7_isWord_66 ⟨?_, rfl⟩
        have : tk_isw (σ.1 2) (σ.1 1) i = true := by
          unfold tk_isw
          rw [decide_eq_true q, decide_eq_true q2]
          show (List.range _).all _ = true
          rw [List.all_eq_true]
          intro k hk9
          exact decide_eq_true (hall k (by have := List.mem_range.mp hk9; omega))
        rw [this]
        rfl
      | succ m ih =>
        intro j hj hall
        refine S_X7_isWord_29 (c_slen _ hi) hi ?_
        rintro _ _ ⟨rfl, rfl⟩
        refine S_X7_isWord_34 (by omega) (by omega) (fun q3 => absurd q3 (by omega)) (fun q3 => ?_)
        have hbr := tk_b_rg hk (σ.1 1 3 + j)
        have hcr := am_chr_rg i hi j (by omega)
        refine S_X7_isWord_37 (c_at _ hs (by omega)) ?_
        rintro _ _ ⟨rfl, rfl⟩
        have e9 : (if 0 ≤ σ.1 1 3 + (j : Int) ∧ σ.1 1 3 + (j : Int) < ((600 : Nat) : Int) then σ.1 2 (σ.1 1 3 + (j : Int)) else -1) = tk_b (σ.1 2) (σ.1 1 3 + j) := rfl
        rw [e9]
        refine S_X7_isWord_50 (c_charAt _ hi (by omega)) hi ?_
        rintro _ _ ⟨rfl, rfl⟩
        refine S_X7_isWord_55 (by omega) (by omega) (fun q4 => ?_) (fun q4 => ?_)
        · refine S_X7_isWord_60 ?_
          refine ih (j + 1) (by omega) (fun k hk9 => ?_)
          by_cases hkj : k = j
          · subst hkj; exact q4
          · exact hall k (by omega)
        · refine S_X7_isWord_58 ⟨?_, rfl⟩
          have : tk_isw (σ.1 2) (σ.1 1) i = false := by
            unfold tk_isw
            rw [decide_eq_true q, decide_eq_true q2]
            show (List.range _).all _ = false
            rw [List.all_eq_false]
            exact ⟨j, List.mem_range.mpr (by omega), by simpa using q4⟩
          rw [this]
          rfl
    exact loop (am_chr i).length 0 (by omega) (fun k hk9 => absurd hk9 (Nat.not_lt_zero _))
  · refine S_X7_isWord_25 ⟨?_, rfl⟩
    unfold tk_isw
    rw [decide_eq_false q2, Bool.false_and, Bool.and_false]
    rfl
end
