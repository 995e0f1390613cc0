section
/-- what document() answers and leaves: the FAULT, THE DOCUMENT -/
def an_dc (b : ab_B) (doc : List Int) : Int × (Int × List Int) := match sl_D b.1 b.2 0 0 0 [] with
  | .inl F => (-2, (F, doc))
  | .inr w => ((w.length : Int).tdiv 2, (0, w))
theorem an_dc_l {b : ab_B} {doc : List Int} {F : Int} (h : sl_D b.1 b.2 0 0 0 [] = .inl F) : an_dc b doc = (-2, (F, doc)) := by
  unfold an_dc
  rw [h]
theorem an_dc_r {b : ab_B} {doc w : List Int} (h : sl_D b.1 b.2 0 0 0 [] = .inr w) : an_dc b doc = ((w.length : Int).tdiv 2, (0, w)) := by
  unfold an_dc
  rw [h]
variable {G : am_G} {σ : am_D}
theorem c_xdocument (d : Nat) {b : ab_B} {doc : List Int} (hk : tk_idle (σ.1 2) (σ.1 1)) (hT : cx_T σ b) (hE : am_E σ 6 doc) : am_MI G (d + 5) mX10_document [am_r (some 0)] σ (fun x σ' => x = (an_dc b doc).1 ∧ am_E σ' 6 (an_dc b doc).2.2 ∧ σ'.1 1 5 = (an_dc b doc).2.1 ∧ tk_idle (σ'.1 2) (σ'.1 1) ∧ cx_T σ' (b.1, 0) ∧ am_only [1, 6, 7, 8, 9] σ σ') := by
  refine am_M.go (by decide) (Nat.le_of_ble_eq_true rfl) rfl ?_
  refine S_X10_document_0 (c_readDocument _ hk) ?_
  rintro τ ⟨ho, hi, h1, hm⟩
  rw [hT.1, hT.2] at hm
  have e2 : τ.1 2 = σ.1 2 := ho.1 2 (by decide)
  have h5 := hi.2.2.2.2.2
  cases hR : sl_D b.1 b.2 0 0 0 [] with
  | inl F =>
    rw [show sl_doc b.1 b.2 700 0 0 0 [] = .inl F from hR] at hm
    obtain ⟨hF, hF0⟩ := (hm : τ.1 1 5 = F ∧ 0 < F)
    rw [an_dc_l hR]
    refine S_X10_document_11 (by omega) (fun z => absurd z (by omega)) (fun _ => ?_)
    refine S_X10_document_21 ⟨rfl, hE.of (ho.1 6 (by decide)) (ho.1 7 (by decide)), hF, by rw [e2]; exact hi, ⟨by rw [e2]; exact hT.1, h1⟩, ho.sub (by decide)⟩
  | inr w =>
    rw [show sl_doc b.1 b.2 700 0 0 0 [] = .inr w from hR] at hm
    obtain ⟨hF, hE8⟩ := (hm : τ.1 1 5 = 0 ∧ am_E τ 8 w)
    rw [an_dc_r hR]
    refine S_X10_document_11 (by omega) (fun _ => ?_) (fun z => absurd hF z)
    refine S_X10_document_24 (c_become _ (Or.inl rfl) (Or.inr (Or.inl rfl)) (by decide) hE8 hE8.2.2) ?_
    rintro τ1 ⟨hE6, ho1⟩
    refine S_X10_document_35 (c_elements _ (Or.inl rfl) hE6) ?_
    rintro _ _ ⟨rfl, rfl⟩
    have f1 : τ1.1 1 = τ.1 1 := ho1.1 1 (by decide)
    have f2 : τ1.1 2 = τ.1 2 := ho1.1 2 (by decide)
    refine ⟨rfl, hE6, by rw [f1]; exact hF, by rw [f1, f2, e2]; exact hi, ⟨by rw [f2, e2]; exact hT.1, by rw [f1]; exact h1⟩, (ho.sub (by decide)).trans (ho1.sub (by decide))⟩
theorem r_xdocument (d : Nat) {b : ab_B} {doc : List Int} (hb : ab_b b) (hT : rx_T σ b) (hD : rx_Dc σ doc) : am_MI G (d + 49) mX11_document [am_r (some 91)] σ (fun x σ' => x = (an_dc b doc).1 ∧ rx_Dc σ' (an_dc b doc).2.2 ∧ σ'.1 91 2 = (an_dc b doc).2.1 ∧ rx_T σ' (b.1, 0) ∧ am_only [91, 107, 108] σ σ' ∧ am_kpt [1, 2, 3, 4, 5, 6, 25, 26, 28] (σ.1 91) (σ'.1 91)) := by
  obtain ⟨hb0, hb1, hb2⟩ := hb
  have h92 : ∀ i, 0 ≤ i → i < 600 → -128 ≤ σ.1 92 i ∧ σ.1 92 i ≤ 127 := by
    intro i _ _
    rw [hT.1]
    show -128 ≤ am_sg (b.1 i) ∧ am_sg (b.1 i) ≤ 127
    have := hb0 i
    unfold am_sg
    split <;> omega
  have h911 : 0 ≤ σ.1 91 1 ∧ σ.1 91 1 ≤ 600 := by rw [hT.2]; omega
  obtain ⟨g1, g2, g3⟩ := rg_begins (ts := σ.1 92) (u := σ.1 91) h92 h911
  refine am_M.go (by decide) (Nat.le_of_ble_eq_true rfl) rfl ?_
  refine S_X11_document_0 (c_begins _ h92 h911) ?_
  intro τ hτ
  have t91 : τ.1 91 = rf_go (σ.1 92) (am_u1 (am_u1 (am_u1 (am_u1 (σ.1 91) 3 (σ.1 91 1)) 1 0) 4 0) 2 0) := by rw [hτ, am_sr_at]
  have to : am_only [91] σ τ := by
    rw [hτ]
    exact ⟨fun a ha => am_sr_of (fun z => ha (by rw [z]; exact List.mem_singleton.mpr rfl)), rfl⟩
  rw [← t91] at g1 g2 g3
  clear hτ t91
  refine S_X11_document_4 (S_X11_document_9 ?_)
  generalize hτ0 : am_pI (am_pI τ 91 26 0) 91 28 0 = τ0
  have z26 : τ0.1 91 26 = 0 := by rw [← hτ0, am_pI_nj (by decide), am_pI_at]
  have z28 : τ0.1 91 28 = 0 := by rw [← hτ0, am_pI_at]
  have zk : am_kpt [26, 28] (τ.1 91) (τ0.1 91) := by
    rw [← hτ0, am_pI_row, am_pI_row]
    exact (am_kpt.u1 (by decide)).trans (am_kpt.u1 (by decide))
  have zo : am_only [91] σ τ0 := by
    rw [← hτ0]
    exact (to.trans (am_only.pI (by decide))).trans (am_only.pI (by decide))
  have e92 : τ0.1 92 = sg_t b.1 := by rw [zo.1 92 (by decide)]; exact hT.1
  have e3 : τ0.1 91 3 = b.2 := by rw [zk 3 (by decide), g1.2.2.1]; exact hT.2
  have k0 : am_kpt [1, 2, 3, 4, 5, 6, 26, 28] (σ.1 91) (τ0.1 91) := by
    intro j hj
    simp at hj
    rw [zk j (by simp; omega), g2 j (by simp; omega)]
  have h1z : τ0.1 91 1 = 0 := by rw [zk 1 (by decide)]; exact g3
  have hok : rf_ok (τ0.1 92) (τ0.1 91) := by
    rw [zo.1 92 (by decide)]
    obtain ⟨y1, y2, y3, y4, y5, y6, y7, y8, y9, y10, y11, y12⟩ := g1.1
    refine ⟨y1, ?_⟩
    rw [zk 3 (by decide), zk 4 (by decide), zk 5 (by decide), zk 6 (by decide), zk 2 (by decide)]
    exact ⟨y2, y3, y4, y5, y6, y7, y8, y9, y10, y11, y12⟩
  have hat : rf_atp (τ0.1 92) (τ0.1 91) 0 := by
    rw [zo.1 92 (by decide)]
    obtain ⟨y1, y2, y3⟩ := g1.2.2.2.1
    unfold rf_atp
    rw [zk 3 (by decide), zk 4 (by decide), zk 5 (by decide), zk 6 (by decide)]
    exact ⟨y1, y2, y3⟩
  have hD0 : rd_D τ0 0 0 0 [] τ0 := ⟨am_only.rfl', hok, by rw [zk 2 (by decide)]; exact g1.2.1, rfl, hat, by rw [z26]; rfl, z28, fun i hi => absurd hi (by simp), am_kpt.rfl', by omega, by omega, by omega, by omega, by omega, by omega, rfl⟩
  have hsl : sl_D (τ0.1 92) (τ0.1 91 3) 0 0 0 [] = sl_D b.1 b.2 0 0 0 [] := by
    rw [e92, e3]
    exact sg_doc hb0 700 0 0 0 []
  generalize hQ : (fun (x : Int) (σ' : am_D) => x = (an_dc b doc).1 ∧ rx_Dc σ' (an_dc b doc).2.2 ∧ σ'.1 91 2 = (an_dc b doc).2.1 ∧ rx_T σ' (b.1, 0) ∧ am_only [91, 107, 108] σ σ' ∧ am_kpt [1, 2, 3, 4, 5, 6, 25, 26, 28] (σ.1 91) (σ'.1 91)) = Q
  -- a FAULT
  have bad : ∀ (F : Int) (υ : am_D), sl_D b.1 b.2 0 0 0 [] = .inl F → rd_F τ0 F υ → am_X (am_FI G (d + 49) Q) mX11_document (0, 0) 49 [some (am_r (some 91)), none] [] (am_K0, υ) := by
    intro F υ hF hυ
    obtain ⟨y1, y2, y3, y4, y5⟩ := hυ
    obtain ⟨-, -, -, -, -, -, -, -, -, w1, w2, -⟩ := y2
    refine S_X11_document_49 (c_isGood _ ⟨w1, w2⟩) ?_
    rintro _ _ ⟨rfl, rfl⟩
    rw [if_neg (by omega)]
    refine S_X11_document_53 (by decide) (fun z => absurd rfl z) (fun _ => S_X11_document_56 ?_)
    rw [← hQ]
    refine ⟨by rw [an_dc_l hF], ?_, by rw [an_dc_l hF]; exact y3, ⟨?_, ?_⟩, (zo.sub (by decide)).trans (y1.sub (by decide)), fun j hj => ?_⟩
    · rw [an_dc_l hF]
      refine ⟨?_, ?_⟩
      · rw [y5 25 (by decide), k0 25 (by decide)]; exact hD.1
      · rw [y1.1 107 (by decide), zo.1 107 (by decide)]; exact hD.2
    · rw [y1.1 92 (by decide), e92]
    · rw [y5 1 (by decide), h1z]
    · simp at hj
      rw [y5 j (by simp; omega), k0 j (by simp; omega)]
  have loop : ∀ (n : Nat) (p op : Int) (acc : List Int) (υ : am_D), b.2 - p < n → rd_D τ0 p op 0 acc υ → sl_D (τ0.1 92) (τ0.1 91 3) p op 0 acc = sl_D b.1 b.2 0 0 0 [] → am_X (am_FI G (d + 49) Q) mX11_document (0, 0) 14 [some (am_r (some 91)), none] [] (am_K0, υ) := by
    intro n
    induction n with
    | zero => intro p op acc υ hn h; have := h.2.2.2.2.2.2.2.2.2.2.1; omega
    | succ n ih =>
      intro p op acc υ hn h hs
      obtain ⟨y1, y2, y3, y4, y5, y6, y7, y8, y9, y10, y11, y12, y13, y14, y15, y16⟩ := id h
      have u92 : υ.1 92 = τ0.1 92 := y1.1 92 (by decide)
      obtain ⟨q6, q5, q4⟩ := y5
      rw [y4] at q6 q5 q4
      have hsg := tk_k_sign (bs := τ0.1 92) (n := τ0.1 91 3) (p := p) (c := 60) (by omega)
      refine S_X11_document_14 (c_isSign _ (by omega) (by rw [u92]; exact y2)) ?_
      rintro _ _ ⟨rfl, rfl⟩
      rw [u92, q6, q5]
      by_cases z : tk_k (τ0.1 92) (τ0.1 91 3) p = 60
      · rw [if_pos ⟨y3, hsg.mp z⟩]
        refine S_X11_document_20 (by decide) (fun y => absurd y (by decide)) (fun _ => ?_)
        refine S_X11_document_23 (c_readsElement (G := G) (σ := τ0) d 41 p op 0 acc υ (by omega) h z) ?_
        rintro υ1 (⟨F, hF, hF1⟩ | ⟨p', op', acc', hp, hop, he, h'⟩)
        · obtain ⟨x1, x2, x3, x4, x5⟩ := id hF1
          rw [hs] at hF
          obtain ⟨-, w3, -, -, -, -, -, -, -, w1, w2, -⟩ := id x2
          refine S_X11_document_27 ?_
          have u92' : υ1.1 92 = τ0.1 92 := x1.1 92 (by decide)
          refine S_X11_document_14 (c_isSign _ (by omega) (by rw [u92']; exact x2)) ?_
          rintro _ _ ⟨rfl, rfl⟩
          rw [if_neg (by omega)]
          refine S_X11_document_20 (by decide) (fun _ => ?_) (fun y => absurd rfl y)
          refine S_X11_document_30 (c_isGood _ ⟨w1, w2⟩) ?_
          rintro _ _ ⟨rfl, rfl⟩
          rw [if_neg (by omega)]
          exact S_X11_document_34 (by decide) (fun _ => bad F _ hF hF1) (fun y => absurd rfl y)
        · exact S_X11_document_27 (ih p' op' acc' υ1 (by omega) h' (he.symm.trans hs))
      · rw [if_neg (fun y => z (hsg.mpr y.2))]
        refine S_X11_document_20 (by decide) (fun _ => ?_) (fun y => absurd rfl y)
        obtain ⟨-, -, -, -, -, -, -, v1, v2, w1, w2, -⟩ := id y2
        refine S_X11_document_30 (c_isGood _ ⟨w1, w2⟩) ?_
        rintro _ _ ⟨rfl, rfl⟩
        rw [if_pos y3]
        refine S_X11_document_34 (by decide) (fun y => absurd y (by decide)) (fun _ => ?_)
        have hv := rf_srt_v (tk_k_v (τ0.1 92) (τ0.1 91 3) p)
        have hseq := sl_D_eq (bs := τ0.1 92) (n := τ0.1 91 3) (p := p) (op := op) (dp := 0) (acc := acc) y10 y11 (by omega)
        by_cases z0 : tk_k (τ0.1 92) (τ0.1 91 3) p = 0
        · -- the end
          rw [if_pos z0, if_neg (by omega), hs] at hseq
          have q60 : υ.1 91 6 = 0 := by rw [q6]; exact hv.1.mpr z0
          refine S_X11_document_37 (by omega) (fun _ => ?_) (fun y => absurd q60 y)
          refine S_X11_document_49 (c_isGood _ ⟨w1, w2⟩) ?_
          rintro _ _ ⟨rfl, rfl⟩
          rw [if_pos y3]
          refine S_X11_document_53 (by decide) (fun _ => ?_) (fun y => absurd (by decide) y)
          refine S_X11_document_59 ?_
          rw [y6]
          have ha : acc.length ≤ 80 := by omega
          refine S_X11_document_67 ?_
          have copy : ∀ (j i : Nat) (υ1 : am_D), i + j = acc.length → am_only [91, 107] υ υ1 → υ1.1 91 25 = acc.length → υ1.1 91 26 = acc.length → am_kpt [25] (υ.1 91) (υ1.1 91) → (∀ k : Nat, k < i → υ1.1 107 k = acc.getD k 0) → am_X (am_FI G (d + 49) Q) mX11_document (0, 0) 69 [some (am_r (some 91)), some (am_i i)] [] (am_K0, υ1) := by
            intro j
            induction j with
            | zero =>
              intro i υ1 hi ho1 e25 e26 hk1 hL
              refine S_X11_document_69 (by omega) (by omega) (fun _ => ?_) (fun y => absurd (by omega) y)
              refine S_X11_document_95 (by omega) ?_
              rw [← hQ]
              rw [an_dc_r hseq, e25]
              refine ⟨rfl, ⟨e25, fun k hk => hL k (by have hk : k < acc.length := hk; omega)⟩, ?_, ⟨?_, ?_⟩, ((zo.sub (by decide)).trans (y1.sub (by decide))).trans (ho1.sub (by decide)), fun j hj => ?_⟩
              · rw [hk1 2 (by decide)]; exact y3
              · rw [ho1.1 92 (by decide), u92, e92]
              · rw [hk1 1 (by decide), y9 1 (by decide), h1z]
              · simp at hj
                rw [hk1 j (by simp; omega), y9 j (by simp; omega), k0 j (by simp; omega)]
            | succ j ih2 =>
              intro i υ1 hi ho1 e25 e26 hk1 hL
              refine S_X11_document_69 (by omega) (by omega) (fun y => absurd y (by omega)) (fun _ => ?_)
              refine S_X11_document_77 (by omega) (by omega) (by omega) (by omega) (S_X11_document_89 ?_)
              have a91 : (am_pI υ1 107 (i : Int) (υ1.1 108 i)).1 91 = υ1.1 91 := am_pI_of (by decide)
              refine ih2 (i + 1) _ (by omega) (ho1.trans (am_only.pI (by decide))) (by rw [a91]; exact e25) (by rw [a91]; exact e26) (by rw [a91]; exact hk1) (fun k hk => ?_)
              rw [am_pI_row]
              by_cases e : k = i
              · rw [e, am_u1_eq, ho1.1 108 (by decide)]
                exact y8 i (by omega)
              · rw [am_u1_ne (by omega)]
                exact hL k (by omega)
          refine copy acc.length 0 _ (by omega) (am_only.pI (by decide)) (by rw [am_pI_at]) (by rw [am_pI_nj (by decide)]; exact y6) (by rw [am_pI_row]; exact am_kpt.u1 (by decide)) (fun k hk => absurd hk (by omega))
        · rw [if_neg z0, if_neg z, if_neg (by omega), hs] at hseq
          refine S_X11_document_37 (by omega) (fun y => absurd (hv.1.mp (by rw [← q6]; exact y)) z0) (fun _ => ?_)
          refine S_X11_document_44 (c_fails _ (by rw [u92]; exact y2)) ?_
          intro υ1 hυ1
          have a91 : υ1.1 91 = am_u1 (υ.1 91) 2 (1 + 8 * υ.1 91 5) := by rw [hυ1, am_sr_at, rf_fail_v y3]
          have ao : am_only [91] υ υ1 := by
            rw [hυ1]
            exact ⟨fun a ha => am_sr_of (fun z => ha (by rw [z]; exact List.mem_singleton.mpr rfl)), rfl⟩
          rw [← q5] at hseq
          refine bad _ υ1 hseq ⟨y1.trans (ao.sub (by decide)), ?_, by rw [a91, am_u1_eq], ?_, ?_⟩
          · obtain ⟨x1, x2, x3, x4, x5, x6, x7, x8, x9, x10, x11, x12⟩ := y2
            rw [a91]
            refine ⟨x1, ?_⟩
            rw [am_u1_ne (by decide), am_u1_ne (by decide), am_u1_ne (by decide), am_u1_ne (by decide), am_u1_eq]
            exact ⟨x2, x3, x4, x5, x6, x7, x8, x9, by omega, by omega, x12⟩
          · have := y2.2.2.2.2.2.1; omega
          · rw [a91]
            exact y9.trans (am_kpt.u1 (by decide))
  exact loop (b.2.toNat + 1) 0 0 [] τ0 (by omega) hD0 hsl
end
