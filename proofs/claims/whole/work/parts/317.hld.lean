section
/-- a row that is held: of what is now, or laid with the d-th MARK -/
def an_X (C : rd_C) (dd rg : Int) : rd_ch := (if dd = -1 then rd_r C else ((rd_s C).map Prod.snd).getD dd.toNat rd_nil) rg
def an_hc (P : am_P) (C : rd_C) (dd rg i : Int) : Int := if (0 ≤ rg ∧ rg < pm_R P) ∧ (-1 ≤ dd ∧ dd < (rd_s C).length) then (if i = -1 then ((an_X C dd rg).length : Int) else if 0 ≤ i ∧ i < (an_X C dd rg).length then (rd_sg (an_X C dd rg)).getD i.toNat 0 else -1) else -1
def an_hd (r : ab_R) (dd rg i : Int) : Int := match r with
  | none => -1
  | some p => match rd_run p.1 p.2 rd_0 0 with
    | some c => an_hc p.1 c.1 dd rg i
    | none => -1
theorem an_hd_some {p : am_P × List Int} {C : rd_C} {mo dd rg i : Int} (h : rd_run p.1 p.2 rd_0 0 = some (C, mo)) : an_hd (some p) dd rg i = an_hc p.1 C dd rg i := by
  show (match rd_run p.1 p.2 rd_0 0 with
    | some c => an_hc p.1 c.1 dd rg i
    | none => -1) = _
  rw [h]
theorem an_c3_mem {x : rd_rg} {r : Int} (h0 : 0 ≤ r) (h1 : r < 3) : x r ∈ rd_c3 x := by
  have : r = 0 ∨ r = 1 ∨ r = 2 := by omega
  unfold rd_c3
  rcases this with rfl | rfl | rfl <;> simp
theorem an_X_mem {C : rd_C} {dd rg : Int} (h0 : -1 ≤ dd) (h1 : dd < (rd_s C).length) (r0 : 0 ≤ rg) (r1 : rg < 3) : an_X C dd rg ∈ rd_all C := by
  unfold an_X rd_all
  by_cases z : dd = -1
  · rw [if_pos z]
    exact List.mem_append_left _ (an_c3_mem r0 r1)
  · rw [if_neg z]
    have hlt : dd.toNat < (rd_s C).length := by omega
    rw [List.getD_eq_getElem?_getD, List.getElem?_map, List.getElem?_eq_getElem hlt]
    exact List.mem_append_right _ (List.mem_flatMap.mpr ⟨(rd_s C)[dd.toNat], List.getElem_mem hlt, an_c3_mem r0 r1⟩)
theorem rr_S_at {τ : am_D} : ∀ (s : List rd_fr) (k : Nat) (rg : Int), k < s.length → rr_S τ 0 s → 0 ≤ rg → rg < 3 → rd_rp (5000 * 0) (((s.map Prod.snd).getD k rd_nil) rg) (τ.1 121 (3 * ((s.length : Int) - 1 - k) + rg)) (τ.1 122 (3 * ((s.length : Int) - 1 - k) + rg)) (τ.1 123 (3 * ((s.length : Int) - 1 - k) + rg)) := by
  intro s
  induction s with
  | nil => intro k rg h; exact absurd h (by simp)
  | cons f s ih =>
    intro k rg h hS r0 r1
    have hl : (((f :: s).length : Nat) : Int) = s.length + 1 := by rw [List.length_cons]; omega
    rw [hl]
    cases k with
    | zero =>
      have h1 := hS.1.2.2 rg r0 r1
      rw [show 3 * (260 * 0 + (s.length : Int)) + rg = 3 * ((s.length : Int) + 1 - 1 - (0 : Nat)) + rg by omega] at h1
      exact h1
    | succ k =>
      have h1 := ih k rg (by rw [List.length_cons] at h; omega) hS.2 r0 r1
      rw [show 3 * ((s.length : Int) - 1 - k) + rg = 3 * ((s.length : Int) + 1 - 1 - (k + 1 : Nat)) + rg by omega] at h1
      exact h1
variable {G : am_G} {σ : am_D} {M : ab_M}
theorem c_xheld (d : Nat) {r : ab_R} {dd rg i : Int} (hdd : -2147483648 ≤ dd ∧ dd ≤ 2147483647) (hrg : -2147483648 ≤ rg ∧ rg ≤ 2147483647) (hi : -2147483648 ≤ i ∧ i ≤ 2147483647) (hR : cx_R σ r) : am_MI G (d + 4) mX10_held [am_r (some 0), am_i dd, am_i rg, am_i i] σ (fun x σ' => x = an_hd r dd rg i ∧ σ = σ') := by
  refine am_M.go (by decide) (Nat.le_of_ble_eq_true rfl) rfl ?_
  refine S_X10_held_0 ?_
  cases r with
  | none =>
    rw [(hR : σ.2.2 12 4 = none)]
    exact S_X10_held_9 (fun _ => S_X10_held_32 ⟨rfl, rfl⟩) (fun a z => nomatch z)
  | some p =>
    obtain ⟨m, hI⟩ := (hR : ∃ m, cd_I σ 12 m p.1 p.2)
    obtain ⟨C, mo, hC⟩ := hI.run
    rw [hI.1, an_hd_some hC]
    obtain ⟨-, c1, -⟩ := hI.2.1.2.1.1
    have hP := hI.2.1.2.2.2.1
    have hW := hI.2.1.2.2.2.2
    have hR1 := hP.2.1
    have hk : cd_k 12 = 400 := by decide
    have hrc : am_rc 12 = 12816 := by decide
    have hrs : am_rs 12 = 4812 := by decide
    have hno : ¬ ((0 ≤ rg ∧ rg < pm_R p.1) ∧ (-1 ≤ dd ∧ dd < (rd_s C).length)) → an_hc p.1 C dd rg i = -1 := fun z => by unfold an_hc; rw [if_neg z]
    refine S_X10_held_9 (fun z => nomatch z) (fun _ _ => ?_)
    refine S_X10_held_14 hrg (fun z => S_X10_held_32 ⟨(hno (by omega)).symm, rfl⟩) (fun z0 => ?_)
    refine S_X10_held_18 hI.2.1.1 hrg (by rw [c1]; omega) (fun z => S_X10_held_32 ⟨(hno (by omega)).symm, rfl⟩) (fun z1 => ?_)
    rw [c1] at z1
    refine S_X10_held_27 hi (fun z2 => ?_) (fun z2 => S_X10_held_32 ⟨?_, rfl⟩)
    rotate_left
    · unfold an_hc
      split
      · rw [if_neg (by omega), if_neg (by omega)]
      · rfl
    refine S_X10_held_34 (c_layingWith _ (Or.inl rfl) hI hC hdd) ?_
    rintro x _ ⟨hx, rfl⟩
    rcases hx with ⟨rfl, hx⟩ | ⟨hx, k, hk1, rfl, C', m', hC', hX, hG, hr'⟩
    · refine S_X10_held_44 (by omega) (fun z => absurd rfl z) (fun _ => ?_)
      exact S_X10_held_50 ⟨(hno (fun z => hx z.2)).symm, rfl⟩
    have hl5 := hI.2.2.1.2.2.1
    have hw5 := hI.2.2.1.2.1
    have h35 := hI.2.2.1.2.2.2
    have hwt : ∀ e ∈ p.2.take k, 0 ≤ e ∧ e ≤ 3 := fun e he => hw5 e (List.mem_of_mem_take he)
    obtain ⟨q1, q2, q3, -⟩ := rd_lens hP hW hwt hC'
    have hc3 : rd_c3n (p.2.take k) ≤ rd_c3n p.2 := by
      unfold rd_c3n
      exact List.Sublist.countP_le (List.take_sublist _ _)
    have eX : an_X C dd rg = rd_r C' rg := by unfold an_X; rw [hr']
    have hXm : an_X C dd rg ∈ rd_all C' := by
      rw [eX]
      unfold rd_all
      exact List.mem_append_left _ (an_c3_mem (by omega) (by omega))
    have hrp := hX.2 rg (by omega) (by omega)
    rw [← eX] at hrp
    have hap := (q2.2.2.2.2.1).1 _ hXm
    have hlen : ((an_X C dd rg).length : Int) ≤ 10000 := by
      have h1 := q2.lens
      have h2 : (an_X C dd rg).length ≤ rd_l3 (rd_r C') := by
        rw [eX]
        unfold rd_l3
        have : rg = 0 ∨ rg = 1 ∨ rg = 2 := by omega
        rcases this with rfl | rfl | rfl <;> omega
      omega
    have hyes : an_hc p.1 C dd rg i = if i = -1 then ((an_X C dd rg).length : Int) else if 0 ≤ i ∧ i < (an_X C dd rg).length then (rd_sg (an_X C dd rg)).getD i.toNat 0 else -1 := by
      unfold an_hc
      rw [if_pos ⟨⟨by omega, by omega⟩, hx⟩]
    rw [hyes]
    refine S_X10_held_44 (by omega) (fun _ => ?_) (fun z => absurd (by omega) z)
    refine S_X10_held_52 hi (fun z3 => ?_) (fun z3 => ?_)
    · rw [if_neg z3]
      refine S_X10_held_70 (c_signOf _ (Or.inl rfl) (by omega) (by omega) hi hrp (hG.lk hXm) (fun q hq => by have := hG.2 _ hXm q hq; rw [Int.zero_add] at this; exact this) (fun y hy => by have := hap.2 y hy; omega) hlen) ?_
      rintro _ _ ⟨rfl, rfl⟩
      exact S_X10_held_81 ⟨rfl, rfl⟩
    · rw [if_pos (Classical.not_not.mp z3)]
      refine S_X10_held_57 (c_sizeOf _ (Or.inl rfl) (by omega) (by omega)) ?_
      rintro _ _ ⟨rfl, rfl⟩
      exact S_X10_held_67 (S_X10_held_81 ⟨hrp.1, rfl⟩)
theorem r_xheld (d : Nat) {r : ab_R} {dd rg i : Int} (hdd : -2147483648 ≤ dd ∧ dd ≤ 2147483647) (hrg : -2147483648 ≤ rg ∧ rg ≤ 2147483647) (hi : -2147483648 ≤ i ∧ i ≤ 2147483647) (hR : rx_R σ r) (hb : ab_rb r) : am_MI G (d + 3) mX11_held [am_r (some 91), am_i dd, am_i rg, am_i i] σ (fun x σ' => x = an_hd r dd rg i ∧ σ = σ') := by
  refine am_M.go (by decide) (Nat.le_of_ble_eq_true rfl) rfl ?_
  cases r with
  | none =>
    have h49 : σ.1 91 49 = 0 := hR
    exact S_X11_held_0 (by omega) (fun _ => S_X11_held_39 ⟨rfl, rfl⟩) (fun z => absurd h49 z)
  | some p =>
    obtain ⟨⟨h49, h50, -⟩, hT, ⟨hP, hW⟩, ⟨hw, h3, hlw⟩, C, mo, hC, hI⟩ := (show _ ∧ _ from hR)
    obtain ⟨l1, l2, l3, -⟩ := rd_lens hP hW hw hC
    have l4 := (show _ ∧ _ from hb).2.2.2 C mo hC
    rw [an_hd_some hC]
    have e114 : σ.1 114 0 = (rd_s C).length := hI.1.2.1
    have c1 : σ.1 95 4 = pm_R p.1 := hT.1.2
    have hR1 := hP.2.1
    have hno : ¬ ((0 ≤ rg ∧ rg < pm_R p.1) ∧ (-1 ≤ dd ∧ dd < (rd_s C).length)) → an_hc p.1 C dd rg i = -1 := fun z => by unfold an_hc; rw [if_neg z]
    refine S_X11_held_0 (by omega) (fun z => absurd z (by omega)) (fun _ => ?_)
    rw [c1.symm] at hR1
    refine S_X11_held_7 (c_isIn _ hrg (by omega) (by omega)) ?_
    rintro _ _ ⟨rfl, rfl⟩
    rw [c1] at hR1 ⊢
    by_cases z0 : 0 ≤ rg ∧ rg ≤ pm_R p.1 - 1
    rotate_left
    · rw [if_neg z0]
      exact S_X11_held_20 (by decide) (fun _ => S_X11_held_39 ⟨(hno (by omega)).symm, rfl⟩) (fun z => absurd rfl z)
    rw [if_pos z0]
    refine S_X11_held_20 (by decide) (fun z => absurd z (by decide)) (fun _ => ?_)
    refine S_X11_held_23 (c_isIn _ hdd (by omega) (by omega)) ?_
    rintro _ _ ⟨rfl, rfl⟩
    rw [e114]
    by_cases z1 : -1 ≤ dd ∧ dd ≤ ((rd_s C).length : Int) - 1
    rotate_left
    · rw [if_neg z1]
      exact S_X11_held_36 (by decide) (fun z => absurd rfl z) (fun _ => S_X11_held_39 ⟨(hno (by omega)).symm, rfl⟩)
    rw [if_pos z1]
    refine S_X11_held_36 (by decide) (fun _ => ?_) (fun z => absurd (by decide) z)
    refine S_X11_held_41 ?_
    rw [e114]
    have hXm : an_X C dd rg ∈ rd_all C := an_X_mem (by omega) (by omega) (by omega) (by omega)
    have hap := (l2.2.2.2.2.1).1 _ hXm
    have hG := hI.2.2.2
    have hyes : an_hc p.1 C dd rg i = if i = -1 then ((an_X C dd rg).length : Int) else if 0 ≤ i ∧ i < (an_X C dd rg).length then (rd_sg (an_X C dd rg)).getD i.toNat 0 else -1 := by
      unfold an_hc
      rw [if_pos (by omega)]
    rw [hyes]
    have hrpn : dd = -1 → rd_rp (5000 * 0) (an_X C dd rg) (σ.1 116 rg) (σ.1 117 rg) (σ.1 118 rg) := by
      intro z
      have := hI.2.1 rg (by omega) (by omega)
      rw [show 3 * (0 : Int) + rg = rg by omega] at this
      unfold an_X
      rw [if_pos z]
      exact this
    have hrps : ¬ dd = -1 → rd_rp (5000 * 0) (an_X C dd rg) (σ.1 121 (3 * (((rd_s C).length : Int) - 1 - dd) + rg)) (σ.1 122 (3 * (((rd_s C).length : Int) - 1 - dd) + rg)) (σ.1 123 (3 * (((rd_s C).length : Int) - 1 - dd) + rg)) := by
      intro z
      have := rr_S_at (rd_s C) dd.toNat rg (by omega) hI.2.2.1 (by omega) (by omega)
      rw [Int.toNat_of_nonneg (by omega)] at this
      unfold an_X
      rw [if_neg z]
      exact this
    have hlen : ((an_X C dd rg).length : Int) ≤ 10000 := by
      have h1 := l2.lens
      have h2 : (an_X C dd rg).length ≤ rd_l3 (rd_r C) + rd_ls (rd_s C) := by
        unfold an_X
        by_cases z : dd = -1
        · rw [if_pos z]
          unfold rd_l3
          have : rg = 0 ∨ rg = 1 ∨ rg = 2 := by omega
          rcases this with rfl | rfl | rfl <;> omega
        · rw [if_neg z]
          have hall : ∀ (s : List rd_fr) (k : Nat), (((s.map Prod.snd).getD k rd_nil) rg).length ≤ rd_ls s := by
            intro s
            induction s with
            | nil => intro k; exact Nat.le_refl _
            | cons f s ih =>
              intro k
              cases k with
              | zero =>
                show (f.2 rg).length ≤ rd_l3 f.2 + rd_ls s
                unfold rd_l3
                have : rg = 0 ∨ rg = 1 ∨ rg = 2 := by omega
                rcases this with rfl | rfl | rfl <;> omega
              | succ k =>
                have := ih k
                show (((s.map Prod.snd).getD k rd_nil) rg).length ≤ rd_l3 f.2 + rd_ls s
                omega
          have := hall (rd_s C) dd.toNat
          omega
      omega
    -- the walk along the row
    have walk : ∀ (Q : Int → am_D → Prop), 0 ≤ i → i < (an_X C dd rg).length → Q ((rd_sg (an_X C dd rg)).getD i.toNat 0) σ → ∀ v : Int, (∀ q t, an_X C dd rg = q :: t → v = 5000 * 0 + q.1) → am_X (am_FI G (d + 3) Q) mX11_held (0, 0) 123 [some (am_r (some 91)), none, none, some (am_i i), none, none, none, none] [am_i v] (am_K0, σ) := by
      intro Q i0 i1 hQ v hv
      refine S_X11_held_123 (S_X11_held_125 ?_)
      have hlk := hG.lk hXm
      have hsg := hG.2 _ hXm
      generalize an_X C dd rg = c at hlk hsg hap i1 hQ hv
      have loop : ∀ (t pre : rd_ch) (v : Int), c = pre ++ t → (pre.length : Int) ≤ i → (∀ q s, t = q :: s → v = q.1) → am_X (am_FI G (d + 3) Q) mX11_held (0, 0) 128 [some (am_r (some 91)), none, none, some (am_i i), none, none, some (am_i v), some (am_i pre.length)] [] (am_K0, σ) := by
        intro t
        induction t with
        | nil =>
          intro pre v e h1 _
          rw [List.append_nil] at e
          subst e
          omega
        | cons q t ih =>
          intro pre v e h1 hv
          have hvp := hv q t rfl
          subst hvp
          have hqm : q ∈ c := by rw [e]; simp
          have k1 := hsg q hqm
          rw [show (5000 * 0 : Int) + q.1 = q.1 by omega] at k1
          have k3 := hap.2 q.1 (List.mem_map.mpr ⟨q, hqm, rfl⟩)
          have k2 : ∀ q' t', t = q' :: t' → σ.1 111 q.1 = q'.1 := by
            intro q' t' et
            have := hlk q.1 q'.1 ⟨rd_nd pre, rd_nd t', by rw [e, et]; unfold rd_nd; simp⟩
            rw [show (5000 * 0 : Int) + q.1 = q.1 by omega, show (5000 * 0 : Int) + q'.1 = q'.1 by omega] at this
            exact this
          refine S_X11_held_128 (by omega) (by omega) (fun u => ?_) (fun u => ?_)
          · refine S_X11_held_149 (by omega) (by omega) ?_
            rw [k1]
            have : (rd_sg c).getD i.toNat 0 = q.2 := by
              unfold rd_sg
              rw [e, List.map_append, List.getD_eq_getElem?_getD, List.getElem?_append_right (by rw [List.length_map]; omega), List.length_map, show i.toNat - pre.length = 0 by omega]
              rfl
            rw [← this]
            exact hQ
          · refine S_X11_held_134 (by omega) (by omega) (S_X11_held_143 ?_)
            have hlen1 : ((pre ++ [q]).length : Int) = pre.length + 1 := by rw [List.length_append]; rfl
            have := ih (pre ++ [q]) (σ.1 111 q.1) (by rw [e, List.append_assoc]; rfl) (by omega) k2
            rw [hlen1] at this
            exact this
      exact loop c [] v rfl (by show (0 : Int) ≤ i; omega) (fun q t e => by rw [hv q t e]; omega)
    have go : ∀ n : Int, n = (an_X C dd rg).length → am_X (am_FI G (d + 3) (fun x σ' => x = (if i = -1 then ((an_X C dd rg).length : Int) else if 0 ≤ i ∧ i < (an_X C dd rg).length then (rd_sg (an_X C dd rg)).getD i.toNat 0 else -1) ∧ σ = σ')) mX11_held (0, 0) 78 [some (am_r (some 91)), some (am_i dd), some (am_i rg), some (am_i i), some (am_i (3 * (((rd_s C).length : Int) - 1 - dd) + rg)), none, none, none] [am_i n] (am_K0, σ) := by
      intro n hn
      refine S_X11_held_78 (S_X11_held_80 hi (fun z3 => ?_) (fun z3 => ?_))
      rotate_left
      · rw [if_pos (Classical.not_not.mp z3)]
        exact S_X11_held_85 ⟨hn, rfl⟩
      rw [if_neg z3]
      refine S_X11_held_88 (c_isIn _ hi (by omega) (by omega)) ?_
      rintro _ _ ⟨rfl, rfl⟩
      by_cases z4 : 0 ≤ i ∧ i ≤ n - 1
      rotate_left
      · rw [if_neg z4, if_neg (by omega)]
        exact S_X11_held_97 (by decide) (fun z => absurd rfl z) (fun _ => S_X11_held_100 ⟨rfl, rfl⟩)
      rw [if_pos z4, if_pos (by omega)]
      refine S_X11_held_97 (by decide) (fun _ => ?_) (fun z => absurd (by decide) z)
      refine S_X11_held_102 hdd (fun z5 => ?_) (fun z5 => ?_)
      · refine S_X11_held_116 (by omega) (by omega) (walk _ (by omega) (by omega) ⟨rfl, rfl⟩ _ (hrps z5).2.1)
      · refine S_X11_held_107 (by omega) (by omega) (walk _ (by omega) (by omega) ⟨rfl, rfl⟩ _ (hrpn (Classical.not_not.mp z5)).2.1)
    refine S_X11_held_57 hdd (fun z5 => ?_) (fun z5 => ?_)
    · exact S_X11_held_71 (by omega) (by omega) (go _ (hrps z5).1)
    · exact S_X11_held_62 (by omega) (by omega) (go _ (hrpn (Classical.not_not.mp z5)).1)
end
