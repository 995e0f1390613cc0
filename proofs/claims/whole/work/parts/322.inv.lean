section
/-! What holds between calls, of the class and of the reference. -/
def ab_I (b : ab_B) (M : ab_M) (doc out : List Int) (r : ab_R) : Prop := ab_b b ∧ ab_w M ∧ ab_c M ∧ ab_d doc ∧ ab_o out ∧ ab_rb r
def cx_I (σ : am_D) (b : ab_B) (F : Int) (M : ab_M) (doc out : List Int) (r : ab_R) : Prop := cx_T σ b ∧ tk_idle (σ.1 2) (σ.1 1) ∧ σ.1 1 5 = F ∧ cx_M σ M ∧ cx_S σ ∧ am_E σ 6 doc ∧ am_E σ 10 out ∧ cx_R σ r ∧ sk_J (σ.1 33)
def rx_I (σ : am_D) (b : ab_B) (F : Int) (M : ab_M) (doc out : List Int) (r : ab_R) : Prop := rx_T σ b ∧ σ.1 91 2 = F ∧ rx_M σ M ∧ rx_Dc σ doc ∧ rx_O σ out ∧ rx_R σ r
def ab_J (σ : am_D) : Prop := ∃ b F M doc out r, ab_I b M doc out r ∧ cx_I σ b F M doc out r ∧ rx_I σ b F M doc out r
variable {σ τ : am_D} {b : ab_B} {F : Int} {M : ab_M} {doc out doc' out' : List Int} {r r' : ab_R}
theorem cx_M.of (h : cx_M σ M) (h2 : τ.2.2 4 = σ.2.2 4) (h3 : ∀ a, 43 ≤ a → a ≤ 90 → τ.1 a = σ.1 a) : cx_M τ M := by
  intro k k0 k1
  rcases h k k0 k1 with ⟨a1, a2⟩ | ⟨m, P, a1, a2, a3⟩
  · exact Or.inl ⟨by rw [h2]; exact a1, a2⟩
  · have := a3.1.1
    have := a3.1.2.1
    exact Or.inr ⟨m, P, by rw [h2]; exact a1, a2, cd_M_of (fun b y1 y2 => h3 b (by omega) (by omega)) a3⟩
theorem cx_R.of (h : cx_R σ r) (h2 : τ.2.2 12 = σ.2.2 12) (h3 : ∀ a, (12 ≤ a ∧ a ≤ 15) ∨ (43 ≤ a ∧ a ≤ 90) → τ.1 a = σ.1 a) : cx_R τ r := by
  cases r with
  | none =>
    show τ.2.2 12 4 = none
    rw [h2]
    exact h
  | some p =>
    obtain ⟨m, hI⟩ := (h : ∃ m, cd_I σ 12 m p.1 p.2)
    have := hI.2.1.1.1
    have := hI.2.1.1.2.1
    exact ⟨m, cd_I.of (fun b hb => h3 b (by omega)) (by rw [h2]) hI⟩
theorem cx_I.of (h : cx_I σ b F M doc out r) (h1 : τ.1 1 = σ.1 1) (h1' : τ.1 2 = σ.1 2) (h2 : τ.2.2 4 = σ.2.2 4) (h2' : τ.2.2 5 = σ.2.2 5) (h3 : ∀ a, 43 ≤ a → a ≤ 90 → τ.1 a = σ.1 a) (h33 : τ.1 33 = σ.1 33) (hE6 : am_E τ 6 doc') (hE10 : am_E τ 10 out') (hR : cx_R τ r') : cx_I τ b F M doc' out' r' := by
  obtain ⟨a1, a2, a3, a4, a5, -, -, -, a9⟩ := h
  exact ⟨⟨by rw [h1']; exact a1.1, by rw [h1]; exact a1.2⟩, by rw [h1, h1']; exact a2, by rw [h1]; exact a3, a4.of h2 h3, fun i hi => by rw [h2']; exact a5 i hi, hE6, hE10, hR, by rw [h33]; exact a9⟩
theorem cx_I.ref (h : cx_I σ b F M doc out r) (h1 : ∀ a, a ≤ 90 → τ.1 a = σ.1 a) (h2 : τ.2.2 = σ.2.2) : cx_I τ b F M doc out r :=
  h.of (h1 1 (by omega)) (h1 2 (by omega)) (by rw [h2]) (by rw [h2]) (fun a _ ha => h1 a ha) (h1 33 (by omega)) (h.2.2.2.2.2.1.of (h1 6 (by omega)) (h1 7 (by omega))) (h.2.2.2.2.2.2.1.of (h1 10 (by omega)) (h1 11 (by omega))) (h.2.2.2.2.2.2.2.1.of (by rw [h2]) (fun a ha => h1 a (by omega)))
theorem cx_I.only {S : List Nat} (h : cx_I σ b F M doc out r) (ho : am_only S σ τ) (hS : ∀ a ∈ S, 91 ≤ a) : cx_I τ b F M doc out r :=
  h.ref (fun a ha => ho.1 a (fun z => by have := hS a z; omega)) (by rw [ho.2])
theorem cx_I.cqf (h : cx_I σ b F M doc out r) (hq : cq_f σ τ) (hE6 : am_E τ 6 doc') : cx_I τ b F M doc' out r :=
  h.of (hq.1 1 (by omega)) (hq.1 2 (by omega)) (hq.2.2 4 (by omega)) (hq.2.2 5 (by omega)) (fun a ha _ => hq.1 a (by omega)) (hq.1 33 (by omega)) hE6 (h.2.2.2.2.2.2.1.of (hq.1 10 (by omega)) (hq.1 11 (by omega))) (h.2.2.2.2.2.2.2.1.of (hq.2.2 12 (by omega)) (fun a ha => hq.1 a (by omega)))
theorem cx_I.cqg (h : cx_I σ b F M doc out r) (hq : cq_g σ τ) : cx_I τ b F M doc out r := h.cqf hq.1 (h.2.2.2.2.2.1.of hq.2.1 hq.2.2)
theorem rx_M.of (h : rx_M σ M) (hw : ab_w M) (h93 : τ.1 93 = σ.1 93) (hT : ∀ a, 94 ≤ a → a ≤ 106 → τ.1 a = σ.1 a) : rx_M τ M := by
  intro k k0 k1
  rcases h k k0 k1 with ⟨a1, a2⟩ | ⟨a1, P, a2, a3⟩
  · exact Or.inl ⟨by rw [h93]; exact a1, a2⟩
  · exact Or.inr ⟨by rw [h93]; exact a1, P, a2, rm_T_move (hw k P a2).1 a3 (fun a y1 y2 j _ _ => by rw [hT a y1 y2])⟩
theorem rx_I.of (h : rx_I σ b F M doc out r) (hw : ab_w M) (h92 : τ.1 92 = σ.1 92) (h1 : τ.1 91 1 = σ.1 91 1) (h2 : τ.1 91 2 = σ.1 91 2) (h93 : τ.1 93 = σ.1 93) (hT : ∀ a, 94 ≤ a → a ≤ 106 → τ.1 a = σ.1 a) (hD : rx_Dc τ doc') (hO : rx_O τ out') (hR : rx_R τ r') : rx_I τ b F M doc' out' r' := by
  obtain ⟨a1, a2, a3, -⟩ := h
  exact ⟨⟨by rw [h92]; exact a1.1, by rw [h1]; exact a1.2⟩, by rw [h2]; exact a2, a3.of hw h93 hT, hD, hO, hR⟩
theorem rx_I.Dc (h : rx_I σ b F M doc out r) (h1 : τ.1 91 25 = σ.1 91 25) (h2 : τ.1 107 = σ.1 107) : rx_Dc τ doc := ⟨by rw [h1]; exact h.2.2.2.1.1, by rw [h2]; exact h.2.2.2.1.2⟩
theorem rx_I.Ou (h : rx_I σ b F M doc out r) (h1 : τ.1 91 27 = σ.1 91 27) (h2 : τ.1 109 = σ.1 109) : rx_O τ out := ⟨by rw [h1]; exact h.2.2.2.2.1.1, by rw [h2]; exact h.2.2.2.2.1.2.1, h.2.2.2.2.1.2.2⟩
theorem rx_I.Re (h : rx_I σ b F M doc out r) (hb : ab_rb r) (h9 : ∀ j : Int, 49 ≤ j → j ≤ 51 → τ.1 91 j = σ.1 91 j) (hT : ∀ a, 94 ≤ a → a ≤ 106 → τ.1 a = σ.1 a) (q : ∀ a, 110 ≤ a → a ≤ 123 → ∀ i : Int, i < rr_sz a → τ.1 a i = σ.1 a i) : rx_R τ r :=
  rx_R.keep hb h.2.2.2.2.2 h9 (fun P hP hok => rm_T_move hok hP (fun a y1 y2 j _ _ => by rw [hT a y1 y2])) q
/-- the class leaves the reference's rows -/
theorem rx_I.cls (h : rx_I σ b F M doc out r) (hI : ab_I b M doc out r) (h1 : ∀ a, 91 ≤ a → τ.1 a = σ.1 a) : rx_I τ b F M doc out r := by
  have e := h1 91 (by omega)
  exact h.of hI.2.1 (h1 92 (by omega)) (by rw [e]) (by rw [e]) (h1 93 (by omega)) (fun a ha _ => h1 a (by omega)) (h.Dc (by rw [e]) (h1 107 (by omega))) (h.Ou (by rw [e]) (h1 109 (by omega))) (h.Re hI.2.2.2.2.2 (fun j _ _ => by rw [e]) (fun a ha _ => h1 a (by omega)) (fun a ha _ i _ => by rw [h1 a (by omega)]))
/-- a question of the reference: THE DOCUMENT, OUT, the READING stay -/
theorem rx_I.fr {S : List Nat} {K : List Int} (h : rx_I σ b F M doc out r) (hI : ab_I b M doc out r) (ho : am_only S σ τ) (hk : am_kpt K (σ.1 91) (τ.1 91)) (q : ∀ a, 110 ≤ a → a ≤ 123 → ∀ i : Int, i < rr_sz a → τ.1 a i = σ.1 a i) (hS : ∀ a ∈ S, a = 91 ∨ 110 ≤ a) (hK : ∀ j ∈ K, ¬ (j = 1 ∨ j = 2 ∨ j = 25 ∨ j = 27 ∨ j = 49 ∨ j = 50 ∨ j = 51)) : rx_I τ b F M doc out r := by
  have ns : ∀ a, 92 ≤ a → a ≤ 109 → τ.1 a = σ.1 a := fun a h1 h2 => ho.1 a (fun z => by have := hS a z; omega)
  have nk : ∀ j, (j = 1 ∨ j = 2 ∨ j = 25 ∨ j = 27 ∨ j = 49 ∨ j = 50 ∨ j = 51) → τ.1 91 j = σ.1 91 j := fun j hj => hk j (fun z => hK j z hj)
  exact h.of hI.2.1 (ns 92 (by omega) (by omega)) (nk 1 (by omega)) (nk 2 (by omega)) (ns 93 (by omega) (by omega)) (fun a h1 h2 => ns a (by omega) (by omega)) (h.Dc (nk 25 (by omega)) (ns 107 (by omega) (by omega))) (h.Ou (nk 27 (by omega)) (ns 109 (by omega) (by omega))) (h.Re hI.2.2.2.2.2 (fun j h1 h2 => nk j (by omega)) (fun a h1 h2 => ns a (by omega) (by omega)) q)
theorem rx_I.rs (h : rx_I σ b F M doc out r) (hI : ab_I b M doc out r) (hf : rs_f [127] σ τ) : rx_I τ b F M doc out r := h.fr hI hf.1 hf.2.1 hf.2.2 (by decide) (by decide)
theorem rx_I.rr (h : rx_I σ b F M doc out r) (hI : ab_I b M doc out r) (hf : rr_fr 1 σ τ) : rx_I τ b F M doc out r := h.rs hI (hf.rs (Or.inl rfl))
theorem rx_I.wj {S : List Nat} (h : rx_I σ b F M doc out r) (hI : ab_I b M doc out r) (hf : wj_o S σ τ) : rx_I τ b F M doc out r := h.cls hI (fun a _ => by rw [hf.1])
/-- the class's call, then the reference's: the same answer, and what holds goes on -/
def ab_C (G : am_G) (M1 M2 : am_Me) (as : List am_V) (σ : am_D) : Prop := am_MI G 60 M1 (am_r (some 0) :: as) σ (fun x τ => am_MI G 60 M2 (am_r (some 91) :: as) τ (fun y υ => x = y ∧ ab_J υ))
def ab_CJ (G : am_G) (M1 M2 : am_Me) (as : List am_V) (σ : am_D) : Prop := am_MJ G 60 M1 (am_r (some 0) :: as) σ (fun x τ => am_MJ G 60 M2 (am_r (some 91) :: as) τ (fun y υ => x = y ∧ ab_J υ))
variable {G : am_G}
theorem ab_go {M1 M2 : am_Me} {as : List am_V} {Q : Int → am_D → Prop} (h1 : am_MI G 60 M1 (am_r (some 0) :: as) σ Q) (h2 : ∀ x τ, Q x τ → ∃ R, am_MI G 60 M2 (am_r (some 91) :: as) τ R ∧ ∀ y υ, R y υ → x = y ∧ ab_J υ) : ab_C G M1 M2 as σ :=
  h1.mono (by
    rintro _ _ ⟨x, τ, rfl, rfl, hq⟩
    obtain ⟨R, hr, hR⟩ := h2 x τ hq
    exact ⟨x, τ, rfl, rfl, hr.mono (by
      rintro _ _ ⟨y, υ, rfl, rfl, hy⟩
      exact ⟨y, υ, rfl, rfl, hR y υ hy⟩)⟩)
theorem ab_goJ {M1 M2 : am_Me} {as : List am_V} {Q : Int64 → am_D → Prop} (h1 : am_MJ G 60 M1 (am_r (some 0) :: as) σ Q) (h2 : ∀ x τ, Q x τ → ∃ R, am_MJ G 60 M2 (am_r (some 91) :: as) τ R ∧ ∀ y υ, R y υ → x = y ∧ ab_J υ) : ab_CJ G M1 M2 as σ :=
  h1.mono (by
    rintro _ _ ⟨x, τ, rfl, rfl, hq⟩
    obtain ⟨R, hr, hR⟩ := h2 x τ hq
    exact ⟨x, τ, rfl, rfl, hr.mono (by
      rintro _ _ ⟨y, υ, rfl, rfl, hy⟩
      exact ⟨y, υ, rfl, rfl, hR y υ hy⟩)⟩)
end
