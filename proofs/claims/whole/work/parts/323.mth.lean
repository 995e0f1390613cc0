section
abbrev ab_r (x : Int) : Prop := -2147483648 ≤ x ∧ x ≤ 2147483647
variable {G : am_G} {σ : am_D}
theorem j_feed {v1 v2 v3 v4 v5 : Int} (h1 : ab_r v1) (h2 : ab_r v2) (h3 : ab_r v3) (h4 : ab_r v4) (h5 : ab_r v5) (hJ : ab_J σ) : ab_C G mX10_feed mX11_feed [am_i v1, am_i v2, am_i v3, am_i v4, am_i v5] σ := by
  obtain ⟨b, F, M, doc, out, r, hI, hc, hr⟩ := hJ
  have hb := hI.1
  refine ab_go (c_xfeed 57 hc.1 hb) ?_
  rintro x τ ⟨rfl, t1, t2, t3⟩
  have hr1 := hr.cls hI (fun a ha => t2.1 a (by simp; omega))
  refine ⟨_, r_xfeed 58 h1 h2 h3 h4 h5 hr1.1 hb, ?_⟩
  rintro y υ ⟨rfl, u1, u2, u3⟩
  have hb' : ab_b (an_fe v1 v2 v3 v4 v5 b).2 := by
    unfold an_fe
    split
    · rename_i z; exact ab_p5_b h1 h2 h3 h4 h5 hb z
    · exact hb
  refine ⟨rfl, _, F, M, doc, out, r, ⟨hb', hI.2⟩, ?_, ?_⟩
  · have q1 : ∀ a, a ≤ 90 → υ.1 a = τ.1 a := fun a ha => u2.1 a (by simp; omega)
    obtain ⟨a1, a2, a3, a4, a5, a6, a7, a8, a9⟩ := hc
    have e2 : υ.2.2 = σ.2.2 := by rw [u2.2, t2.2]
    have q3 : ∀ a, 3 ≤ a → a ≤ 90 → υ.1 a = σ.1 a := fun a h1 h2 => by rw [q1 a h2, t2.1 a (by simp; omega)]
    refine ⟨⟨by rw [q1 2 (by omega)]; exact t1.1, by rw [q1 1 (by omega)]; exact t1.2⟩, ?_, ?_, a4.of (by rw [e2]) (fun a h1 h2 => q3 a (by omega) h2), fun i hi => by rw [e2]; exact a5 i hi, a6.of (q3 6 (by omega) (by omega)) (q3 7 (by omega) (by omega)), a7.of (q3 10 (by omega) (by omega)) (q3 11 (by omega) (by omega)), a8.of (by rw [e2]) (fun a ha => q3 a (by omega) (by omega)), by rw [q3 33 (by omega) (by omega)]; exact a9⟩
    · rw [q1 1 (by omega), q1 2 (by omega), t1.1]
      refine ⟨fun i _ _ => hb'.1 i, by rw [t1.2]; exact hb'.2.1, by rw [t1.2]; exact hb'.2.2, ?_⟩
      rw [t3 2 (by decide), t3 5 (by decide)]
      exact a2.2.2.2
    · rw [q1 1 (by omega), t3 5 (by decide)]; exact a3
  · obtain ⟨-, a2, a3, a4, a5, a6⟩ := id hr1
    have q : ∀ a, 93 ≤ a → υ.1 a = τ.1 a := fun a ha => u2.1 a (by simp; omega)
    exact ⟨u1, by rw [u3 2 (by decide)]; exact a2, a3.of hI.2.1 (q 93 (by omega)) (fun a h1 _ => q a (by omega)), hr1.Dc (u3 25 (by decide)) (q 107 (by omega)), hr1.Ou (u3 27 (by decide)) (q 109 (by omega)), hr1.Re hI.2.2.2.2.2 (fun j _ _ => u3 j (by simp; omega)) (fun a h1 _ => q a (by omega)) (fun a h1 _ i _ => by rw [q a (by omega)])⟩
theorem j_end {n : Int} (h1 : ab_r n) (hJ : ab_J σ) : ab_C G mX10_end mX11_end [am_i n] σ := by
  obtain ⟨b, F, M, doc, out, r, hI, hc, hr⟩ := hJ
  have hb := hI.1
  refine ab_go (c_xend 59 h1 hc.1 hb) ?_
  rintro x τ ⟨rfl, t1, t2, t3⟩
  have hr1 := hr.cls hI (fun a ha => t2.1 a (by simp; omega))
  refine ⟨_, r_xend 58 h1 hr1.1 hb, ?_⟩
  rintro y υ ⟨rfl, u1, u2, u3⟩
  have hb' : ab_b (an_en n b).2 := by
    unfold an_en
    split
    · rename_i z; exact ⟨hb.1, z.1, by show n ≤ 600; have := hb.2.2; omega⟩
    · exact hb
  refine ⟨rfl, _, F, M, doc, out, r, ⟨hb', hI.2⟩, ?_, ?_⟩
  · have q1 : ∀ a, a ≤ 90 → υ.1 a = τ.1 a := fun a ha => u2.1 a (by simp; omega)
    obtain ⟨a1, a2, a3, a4, a5, a6, a7, a8, a9⟩ := hc
    have e2 : υ.2.2 = σ.2.2 := by rw [u2.2, t2.2]
    have q3 : ∀ a, 3 ≤ a → a ≤ 90 → υ.1 a = σ.1 a := fun a h1 h2 => by rw [q1 a h2, t2.1 a (by simp; omega)]
    refine ⟨⟨by rw [q1 2 (by omega)]; exact t1.1, by rw [q1 1 (by omega)]; exact t1.2⟩, ?_, ?_, a4.of (by rw [e2]) (fun a h1 h2 => q3 a (by omega) h2), fun i hi => by rw [e2]; exact a5 i hi, a6.of (q3 6 (by omega) (by omega)) (q3 7 (by omega) (by omega)), a7.of (q3 10 (by omega) (by omega)) (q3 11 (by omega) (by omega)), a8.of (by rw [e2]) (fun a ha => q3 a (by omega) (by omega)), by rw [q3 33 (by omega) (by omega)]; exact a9⟩
    · rw [q1 1 (by omega), q1 2 (by omega), t1.1]
      refine ⟨fun i _ _ => hb'.1 i, by rw [t1.2]; exact hb'.2.1, by rw [t1.2]; exact hb'.2.2, ?_⟩
      rw [t3 2 (by decide), t3 5 (by decide)]
      exact a2.2.2.2
    · rw [q1 1 (by omega), t3 5 (by decide)]; exact a3
  · obtain ⟨-, a2, a3, a4, a5, a6⟩ := id hr1
    have q : ∀ a, 93 ≤ a → υ.1 a = τ.1 a := fun a ha => u2.1 a (by simp; omega)
    exact ⟨u1, by rw [u3 2 (by decide)]; exact a2, a3.of hI.2.1 (q 93 (by omega)) (fun a h1 _ => q a (by omega)), hr1.Dc (u3 25 (by decide)) (q 107 (by omega)), hr1.Ou (u3 27 (by decide)) (q 109 (by omega)), hr1.Re hI.2.2.2.2.2 (fun j _ _ => u3 j (by simp; omega)) (fun a h1 _ => q a (by omega)) (fun a h1 _ i _ => by rw [q a (by omega)])⟩
theorem j_machine {k : Int} (h1 : ab_r k) (hJ : ab_J σ) : ab_C G mX10_machine mX11_machine [am_i k] σ := by
  obtain ⟨b, F, M, doc, out, r, hI, hc, hr⟩ := hJ
  obtain ⟨a1, a2, a3, a4, a5, a6, a7, a8, a9⟩ := hc
  refine ab_go (c_xmachine 51 h1 a2 a1 hI.1 a3 a4 a8 a5) ?_
  rintro x τ ⟨rfl, t1, t2, t3, t4, t5, t6, t7, t8, t9⟩
  have hr1 := hr.cls hI (fun a ha => t6 a (Or.inr ha))
  refine ⟨_, r_xmachine 36 h1 hr1.1 hI.1 hr1.2.1 hr1.2.2.1 hI.2.1 hr1.2.2.2.2.2 hI.2.2.2.2.2, ?_⟩
  rintro y υ ⟨rfl, u1, u2, u3, u4, u5, u6⟩
  obtain ⟨i1, i2, i3⟩ := an_mc_ok (F := F) hI.1 hI.2.1 hI.2.2.1 t9
  refine ⟨rfl, _, (an_mc b k F M).2.1, _, doc, out, r, ⟨i3, i1, i2, hI.2.2.2⟩, ?_, ?_⟩
  · refine cx_I.only (σ := τ) ⟨t3, t4, t1, t2, fun i hi => by rw [t8 5 (by decide)]; exact a5 i hi, a6.of (t6 6 (by omega)) (t6 7 (by omega)), a7.of (t6 10 (by omega)) (t6 11 (by omega)), t5, by rw [t6 33 (by omega)]; exact a9⟩ u5 (by decide)
  · exact ⟨u3, u1, u2, hr1.Dc (u6 25 (by decide)) (u5.1 107 (by decide)), hr1.Ou (u6 27 (by decide)) (u5.1 109 (by decide)), u4⟩
theorem j_document (hJ : ab_J σ) : ab_C G mX10_document mX11_document [] σ := by
  obtain ⟨b, F, M, doc, out, r, hI, hc, hr⟩ := hJ
  obtain ⟨a1, a2, a3, a4, a5, a6, a7, a8, a9⟩ := hc
  refine ab_go (c_xdocument 55 a2 a1 a6) ?_
  rintro x τ ⟨rfl, t1, t2, t3, t4, t5⟩
  have hr1 := hr.cls hI (fun a ha => t5.1 a (by simp; omega))
  refine ⟨_, r_xdocument 11 hI.1 hr1.1 hr1.2.2.2.1, ?_⟩
  rintro y υ ⟨rfl, u1, u2, u3, u4, u5⟩
  have hd' := an_dc_ok hI.1 hI.2.2.2.1
  have hb0 : ab_b (b.1, 0) := ⟨hI.1.1, by show (0 : Int) ≤ 0; omega, by show (0 : Int) ≤ 600; omega⟩
  refine ⟨rfl, (b.1, 0), (an_dc b doc).2.1, M, _, out, r, ⟨hb0, hI.2.1, hI.2.2.1, hd', hI.2.2.2.2⟩, ?_, ?_⟩
  · have q3 : ∀ a, 10 ≤ a → a ≤ 90 → τ.1 a = σ.1 a := fun a h1 h2 => t5.1 a (by simp; omega)
    refine cx_I.only (σ := τ) ⟨t4, t3, t2, a4.of (by rw [t5.2]) (fun a h1 h2 => q3 a (by omega) h2), fun i hi => by rw [t5.2]; exact a5 i hi, t1, a7.of (q3 10 (by omega) (by omega)) (q3 11 (by omega) (by omega)), a8.of (by rw [t5.2]) (fun a ha => q3 a (by omega) (by omega)), by rw [q3 33 (by omega) (by omega)]; exact a9⟩ u4 (by decide)
  · have q : ∀ a, (93 ≤ a ∧ a ≤ 106) ∨ 109 ≤ a → υ.1 a = τ.1 a := fun a ha => u4.1 a (by simp; omega)
    exact ⟨u3, u2, hr1.2.2.1.of hI.2.1 (q 93 (by omega)) (fun a h1 h2 => q a (by omega)), u1, hr1.Ou (u5 27 (by decide)) (q 109 (by omega)), hr1.Re hI.2.2.2.2.2 (fun j _ _ => u5 j (by simp; omega)) (fun a h1 h2 => q a (by omega)) (fun a h1 _ i _ => by rw [q a (by omega)])⟩
theorem j_fault (hJ : ab_J σ) : ab_C G mX10_fault mX11_fault [] σ := by
  obtain ⟨b, F, M, doc, out, r, hI, hc, hr⟩ := id hJ
  refine ab_go (c_xfault 59) ?_
  rintro x _ ⟨rfl, rfl⟩
  refine ⟨_, r_xfault 59, ?_⟩
  rintro y _ ⟨rfl, rfl⟩
  exact ⟨by rw [hc.2.2.1, hr.2.1], hJ⟩
theorem j_of {k i : Int} (h1 : ab_r k) (h2 : ab_r i) (hJ : ab_J σ) : ab_C G mX10_of mX11_of [am_i k, am_i i] σ := by
  obtain ⟨b, F, M, doc, out, r, hI, hc, hr⟩ := id hJ
  refine ab_go (c_xof 58 h1 h2 hc.2.2.2.1) ?_
  rintro x _ ⟨rfl, rfl⟩
  refine ⟨_, r_xof 57 h1 h2 hr.2.2.1 hI.2.1 hI.2.2.1, ?_⟩
  rintro y _ ⟨rfl, rfl⟩
  exact ⟨rfl, hJ⟩
theorem j_count {k : Int} (h1 : ab_r k) (hJ : ab_J σ) : ab_C G mX10_count mX11_count [am_i k] σ := by
  obtain ⟨b, F, M, doc, out, r, hI, hc, hr⟩ := id hJ
  obtain ⟨a1, a2, a3, a4, a5, a6, a7, a8, a9⟩ := hc
  obtain ⟨b1, b2, b3, b4, b5, b6⟩ := hr
  refine ab_go (c_xcount 57 h1 a4 a6 a7 a8 hI.2.2.2.1.1 hI.2.2.2.2.1.1 a1.2) ?_
  rintro x _ ⟨rfl, rfl⟩
  refine ⟨_, r_xcount 57 h1 b3 b4 b5 b6 ⟨hI.2.2.2.1.1, hI.2.2.2.1.2.2.1⟩ hI.2.2.2.2.1.1 hI.2.2.2.2.2 b1.2, ?_⟩
  rintro y _ ⟨rfl, rfl⟩
  exact ⟨rfl, hJ⟩
theorem j_event {i : Int} {c : Bool} (h1 : ab_r i) (hJ : ab_J σ) : ab_C G mX10_event mX11_event [am_i i, am_i (sb_i c)] σ := by
  obtain ⟨b, F, M, doc, out, r, hI, hc, hr⟩ := id hJ
  obtain ⟨a1, a2, a3, a4, a5, a6, a7, a8, a9⟩ := hc
  obtain ⟨b1, b2, b3, b4, b5, b6⟩ := hr
  refine ab_go (c_xevent 57 h1 a6 a7) ?_
  rintro x _ ⟨rfl, rfl⟩
  refine ⟨_, r_xevent 58 h1 b4 hI.2.2.2.1.2.2.1 b5, ?_⟩
  rintro y _ ⟨rfl, rfl⟩
  exact ⟨rfl, hJ⟩
theorem j_take (hJ : ab_J σ) : ab_C G mX10_take mX11_take [] σ := by
  obtain ⟨b, F, M, doc, out, r, hI, hc, hr⟩ := hJ
  refine ab_go (c_xtake 56 hc.2.2.2.2.2.1 hc.2.2.2.2.2.2.1 hI.2.2.2.2.1.even) ?_
  rintro x τ ⟨rfl, t1, t2⟩
  have hr1 := hr.cls hI (fun a ha => t2.1 a (by omega))
  refine ⟨_, r_xtake 59 hr1.2.2.2.1 hr1.2.2.2.2.1, ?_⟩
  rintro y υ ⟨rfl, u1, u2, u3⟩
  refine ⟨rfl, b, F, M, _, out, r, ⟨hI.1, hI.2.1, hI.2.2.1, an_tk_ok hI.2.2.2.1 hI.2.2.2.2.1, hI.2.2.2.2⟩, (hc.cqf t2 t1).only u2 (by decide), ?_⟩
  have q : ∀ a, (92 ≤ a ∧ a ≤ 106) ∨ 108 ≤ a → υ.1 a = τ.1 a := fun a ha => u2.1 a (by simp; omega)
  exact hr1.of hI.2.1 (q 92 (by omega)) (u3 1 (by decide)) (u3 2 (by decide)) (q 93 (by omega)) (fun a h1 h2 => q a (by omega)) u1 (hr1.Ou (u3 27 (by decide)) (q 109 (by omega))) (hr1.Re hI.2.2.2.2.2 (fun j _ _ => u3 j (by simp; omega)) (fun a h1 h2 => q a (by omega)) (fun a h1 _ i _ => by rw [q a (by omega)]))
theorem j_begin {k : Int} (h1 : ab_r k) (hJ : ab_J σ) : ab_C G mX10_begin mX11_begin [am_i k] σ := by
  obtain ⟨b, F, M, doc, out, r, hI, hc, hr⟩ := hJ
  refine ab_go (c_xbegin 57 h1 hc.2.2.2.1 hc.2.2.2.2.2.2.2.1) ?_
  rintro x τ ⟨rfl, t1, t2, t3, t4⟩
  have hr1 := hr.cls hI (fun a ha => t2 a (by omega) (by omega))
  refine ⟨_, r_xbegin 57 h1 hr1.2.2.1 hI.2.1 hr1.2.2.2.2.2, ?_⟩
  rintro y υ ⟨rfl, u1, u2, u3, u4⟩
  refine ⟨rfl, b, F, M, doc, out, _, ⟨hI.1, hI.2.1, hI.2.2.1, hI.2.2.2.1, hI.2.2.2.2.1, an_bg_ok hI.2.1 hI.2.2.2.2.2⟩, cx_I.only (σ := τ) (hc.of (t2 1 (by decide) (by decide)) (t2 2 (by decide) (by decide)) (t4 4 (by decide)) (t4 5 (by decide)) (fun a h1 _ => t2 a (by omega) (by omega)) (t2 33 (by decide) (by decide)) (hc.2.2.2.2.2.1.of (t2 6 (by decide) (by decide)) (t2 7 (by decide) (by decide))) (hc.2.2.2.2.2.2.1.of (t2 10 (by decide) (by decide)) (t2 11 (by decide) (by decide))) t1) u3 (by decide), ?_⟩
  exact ⟨⟨by rw [u3.1 92 (by decide)]; exact hr1.1.1, by rw [u4 1 (by decide)]; exact hr1.1.2⟩, by rw [u4 2 (by decide)]; exact hr1.2.1, u2, hr1.Dc (u4 25 (by decide)) (u3.1 107 (by decide)), hr1.Ou (u4 27 (by decide)) (u3.1 109 (by decide)), u1⟩
theorem j_next {e : Int} (h1 : ab_r e) (hJ : ab_J σ) : ab_C G mX10_next mX11_next [am_i e] σ := by
  obtain ⟨b, F, M, doc, out, r, hI, hc, hr⟩ := hJ
  refine ab_go (c_xnext 55 h1 hc.2.2.2.2.2.2.2.1 hI.2.2.2.2.2) ?_
  rintro x τ ⟨r1, n1, t1, t2⟩
  have hr1 := hr.cls hI (fun a ha => t2.1 a (by simp; omega))
  refine ⟨_, r_xnext 55 h1 hr1.2.2.2.2.2 hI.2.2.2.2.2, ?_⟩
  rintro y υ ⟨r2, n2, u1, u2, u3⟩
  obtain ⟨rfl, rfl⟩ := an_nx_eq n1 n2
  have q3 : ∀ a, a ≤ 11 ∨ 16 ≤ a → τ.1 a = σ.1 a := fun a ha => t2.1 a (by simp; omega)
  refine ⟨rfl, b, F, M, doc, out, _, ⟨hI.1, hI.2.1, hI.2.2.1, hI.2.2.2.1, hI.2.2.2.2.1, ab_rb_nx hI.2.2.2.2.2 n1⟩, cx_I.only (σ := τ) (hc.of (q3 1 (by omega)) (q3 2 (by omega)) (by rw [t2.2]) (by rw [t2.2]) (fun a h1 _ => q3 a (by omega)) (q3 33 (by omega)) (hc.2.2.2.2.2.1.of (q3 6 (by omega)) (q3 7 (by omega))) (hc.2.2.2.2.2.2.1.of (q3 10 (by omega)) (q3 11 (by omega))) t1) u2 (by decide), ?_⟩
  have q : ∀ a, 92 ≤ a ∧ a ≤ 109 → υ.1 a = τ.1 a := fun a ha => u2.1 a (by simp; omega)
  exact hr1.of hI.2.1 (q 92 (by omega)) (u3 1 (by decide)) (u3 2 (by decide)) (q 93 (by omega)) (fun a h1 h2 => q a (by omega)) (hr1.Dc (u3 25 (by decide)) (q 107 (by omega))) (hr1.Ou (u3 27 (by decide)) (q 109 (by omega))) u1
theorem j_state (hJ : ab_J σ) : ab_C G mX10_state mX11_state [] σ := by
  obtain ⟨b, F, M, doc, out, r, hI, hc, hr⟩ := id hJ
  refine ab_go (c_xstate 57 hc.2.2.2.2.2.2.2.1) ?_
  rintro x _ ⟨rfl, rfl⟩
  refine ⟨_, r_xstate 59 hr.2.2.2.2.2, ?_⟩
  rintro y _ ⟨rfl, rfl⟩
  exact ⟨rfl, hJ⟩
theorem j_held {d g i : Int} (h1 : ab_r d) (h2 : ab_r g) (h3 : ab_r i) (hJ : ab_J σ) : ab_C G mX10_held mX11_held [am_i d, am_i g, am_i i] σ := by
  obtain ⟨b, F, M, doc, out, r, hI, hc, hr⟩ := id hJ
  refine ab_go (c_xheld 56 h1 h2 h3 hc.2.2.2.2.2.2.2.1) ?_
  rintro x _ ⟨rfl, rfl⟩
  refine ⟨_, r_xheld 57 h1 h2 h3 hr.2.2.2.2.2 hI.2.2.2.2.2, ?_⟩
  rintro y _ ⟨rfl, rfl⟩
  exact ⟨rfl, hJ⟩
theorem j_finish (hJ : ab_J σ) : ab_C G mX10_finish mX11_finish [] σ := by
  obtain ⟨b, F, M, doc, out, r, hI, hc, hr⟩ := hJ
  refine ab_go (c_xfinish 55 hc.2.2.2.2.2.2.2.1 hc.2.2.2.2.2.2.1) ?_
  rintro x τ ⟨rfl, t1, t2, t3, t4, t5⟩
  have hr1 := hr.cls hI (fun a ha => t3 a (by simp; omega))
  refine ⟨_, r_xfinish 56 hr1.2.2.2.2.2 hr1.2.2.2.2.1, ?_⟩
  rintro y υ ⟨rfl, u1, u2, u3, u4⟩
  obtain ⟨i1, i2⟩ := an_fn_ok hI.2.2.2.2.2 hI.2.2.2.2.1 (fun p hp => by
    have hR := hr.2.2.2.2.2
    rw [hp] at hR
    obtain ⟨-, -, -, ⟨-, h3, -⟩, -⟩ := (show _ ∧ _ from hR)
    exact h3)
  refine ⟨rfl, b, F, M, doc, _, _, ⟨hI.1, hI.2.1, hI.2.2.1, hI.2.2.2.1, i1, i2⟩, cx_I.only (σ := τ) (hc.of (t3 1 (by decide)) (t3 2 (by decide)) (t5 4 (by decide)) (t5 5 (by decide)) (fun a h1 _ => t3 a (by simp; omega)) (t3 33 (by decide)) (hc.2.2.2.2.2.1.of (t3 6 (by decide)) (t3 7 (by decide))) t2 t1) u3 (by decide), ?_⟩
  have q : ∀ a, 92 ≤ a ∧ a ≤ 108 → υ.1 a = τ.1 a := fun a ha => u3.1 a (by simp; omega)
  exact hr1.of hI.2.1 (q 92 (by omega)) (u4 1 (by decide)) (u4 2 (by decide)) (q 93 (by omega)) (fun a h1 h2 => q a (by omega)) (hr1.Dc (u4 25 (by decide)) (q 107 (by omega))) u2 u1
theorem j_run {k : Int} (h1 : ab_r k) (hJ : ab_J σ) : ab_C G mX10_run mX11_run [am_i k] σ := by
  obtain ⟨b, F, M, doc, out, r, hI, hc, hr⟩ := hJ
  refine ab_go (c_xrun 54 h1 hc.2.2.2.1 hc.2.2.2.2.2.1 hc.2.2.2.2.2.2.1 hI.2.2.2.1) ?_
  rintro x τ ⟨rfl, t1, t2, t3, t4⟩
  have hr1 := hr.cls hI (fun a ha => t2 a (by omega))
  refine ⟨_, r_xrun 54 h1 hr1.2.2.1 hI.2.1 hr1.2.2.2.1 hr1.2.2.2.2.1 hI.2.2.2.1, ?_⟩
  rintro y υ ⟨rfl, u1, u2, u3, u4⟩
  refine ⟨rfl, b, F, M, doc, _, r, ⟨hI.1, hI.2.1, hI.2.2.1, hI.2.2.2.1, an_rn_ok hI.2.1 hI.2.2.2.1 hI.2.2.2.2.1, hI.2.2.2.2.2⟩, cx_I.only (σ := τ) (hc.of (t2 1 (by omega)) (t2 2 (by omega)) (t4 4 (by omega)) (t4 5 (by omega)) (fun a h1 _ => t2 a (by omega)) (t2 33 (by omega)) (hc.2.2.2.2.2.1.of (t2 6 (by omega)) (t2 7 (by omega))) t1 (hc.2.2.2.2.2.2.2.1.of (t4 12 (by omega)) (fun a ha => t2 a (by omega)))) u2 (by decide), ?_⟩
  have q : ∀ a, 92 ≤ a ∧ a ≤ 108 → υ.1 a = τ.1 a := fun a ha => u2.1 a (by simp; omega)
  exact hr1.of hI.2.1 (q 92 (by omega)) (u3 1 (by decide)) (u3 2 (by decide)) (q 93 (by omega)) (fun a h1 h2 => q a (by omega)) (hr1.Dc (u3 25 (by decide)) (q 107 (by omega))) u1 (hr1.Re hI.2.2.2.2.2 (fun j _ _ => u3 j (by simp; omega)) (fun a h1 h2 => q a (by omega)) u4)
theorem j_through {j k : Int} (h1 : ab_r j) (h2 : ab_r k) (hJ : ab_J σ) : ab_C G mX10_through mX11_through [am_i j, am_i k] σ := by
  obtain ⟨b, F, M, doc, out, r, hI, hc, hr⟩ := hJ
  refine ab_go (c_xthrough 54 h1 h2 hc.2.2.2.1 hc.2.2.2.2.2.1 hc.2.2.2.2.2.2.1 hI.2.2.2.1) ?_
  rintro x τ ⟨rfl, t1, t2, t3, t4⟩
  have hr1 := hr.cls hI (fun a ha => t2 a (by omega))
  refine ⟨_, r_xthrough 53 h1 h2 hr1.2.2.1 hI.2.1 hr1.2.2.2.1 hr1.2.2.2.2.1 hI.2.2.2.1, ?_⟩
  rintro y υ ⟨rfl, u1, u2, u3, u4⟩
  refine ⟨rfl, b, F, M, doc, _, r, ⟨hI.1, hI.2.1, hI.2.2.1, hI.2.2.2.1, an_th_ok hI.2.1 hI.2.2.2.1 hI.2.2.2.2.1, hI.2.2.2.2.2⟩, cx_I.only (σ := τ) (hc.of (t2 1 (by omega)) (t2 2 (by omega)) (t4 4 (by omega)) (t4 5 (by omega)) (fun a h1 _ => t2 a (by omega)) (t2 33 (by omega)) (hc.2.2.2.2.2.1.of (t2 6 (by omega)) (t2 7 (by omega))) t1 (hc.2.2.2.2.2.2.2.1.of (t4 12 (by omega)) (fun a ha => t2 a (by omega)))) u2 (by decide), ?_⟩
  have q : ∀ a, 92 ≤ a ∧ a ≤ 108 → υ.1 a = τ.1 a := fun a ha => u2.1 a (by simp; omega)
  exact hr1.of hI.2.1 (q 92 (by omega)) (u3 1 (by decide)) (u3 2 (by decide)) (q 93 (by omega)) (fun a h1 h2 => q a (by omega)) (hr1.Dc (u3 25 (by decide)) (q 107 (by omega))) u1 (hr1.Re hI.2.2.2.2.2 (fun j _ _ => u3 j (by simp; omega)) (fun a h1 h2 => q a (by omega)) u4)
theorem j_refused {k : Int} (h1 : ab_r k) (hJ : ab_J σ) : ab_C G mX10_refused mX11_refused [am_i k] σ := by
  obtain ⟨b, F, M, doc, out, r, hI, hc, hr⟩ := hJ
  refine ab_go (c_xrefused 54 h1 hc.2.2.2.1 hc.2.2.2.2.2.1 hI.2.2.2.1) ?_
  rintro x τ ⟨rfl, t1⟩
  have hr1 := hr.cls hI (fun a ha => t1.1.1 a (by omega))
  refine ⟨_, r_xrefused 54 h1 hr1.2.2.1 hI.2.1 hr1.2.2.2.1 hI.2.2.2.1, ?_⟩
  rintro y υ ⟨rfl, u1⟩
  exact ⟨rfl, b, F, M, doc, out, r, hI, (hc.cqg t1).only u1.1 (by decide), hr1.rr hI u1⟩
theorem j_ahead {j k : Int} (h1 : ab_r j) (h2 : ab_r k) (hJ : ab_J σ) : ab_C G mX10_ahead mX11_ahead [am_i j, am_i k] σ := by
  obtain ⟨b, F, M, doc, out, r, hI, hc, hr⟩ := hJ
  refine ab_go (c_xahead 54 h1 h2 hc.2.2.2.1 hc.2.2.2.2.2.1 hI.2.2.2.1) ?_
  rintro x τ ⟨rfl, t1⟩
  have hr1 := hr.cls hI (fun a ha => t1.1.1 a (by omega))
  refine ⟨_, r_xahead 53 h1 h2 hr1.2.2.1 hI.2.1 hr1.2.2.2.1 hI.2.2.2.1, ?_⟩
  rintro y υ ⟨rfl, u1⟩
  exact ⟨rfl, b, F, M, doc, out, r, hI, (hc.cqg t1).only u1.1 (by decide), hr1.rs hI u1⟩
theorem j_peak {k : Int} (h1 : ab_r k) (hJ : ab_J σ) : ab_C G mX10_peak mX11_peak [am_i k] σ := by
  obtain ⟨b, F, M, doc, out, r, hI, hc, hr⟩ := hJ
  refine ab_go (c_xpeak 54 h1 hc.2.2.2.1 hc.2.2.2.2.2.1 hI.2.2.2.1) ?_
  rintro x τ ⟨rfl, t1⟩
  have hr1 := hr.cls hI (fun a ha => t1.1.1 a (by omega))
  refine ⟨_, r_xpeak 54 h1 hr1.2.2.1 hI.2.1 hr1.2.2.2.1 hI.2.2.2.1, ?_⟩
  rintro y υ ⟨rfl, u1⟩
  exact ⟨rfl, b, F, M, doc, out, r, hI, (hc.cqg t1).only u1.1 (by decide), hr1.rr hI u1⟩
theorem j_bound {k n : Int} (h1 : ab_r k) (h2 : ab_r n) (hJ : ab_J σ) : ab_C G mX10_bound mX11_bound [am_i k, am_i n] σ := by
  obtain ⟨b, F, M, doc, out, r, hI, hc, hr⟩ := id hJ
  refine ab_go (c_xbound 58 h1 h2 hc.2.2.2.1) ?_
  rintro x _ ⟨rfl, rfl⟩
  refine ⟨_, r_xbound 57 h1 h2 hr.2.2.1 hI.2.1, ?_⟩
  rintro y _ ⟨rfl, rfl⟩
  exact ⟨rfl, hJ⟩
theorem j_states {k : Int} (h1 : ab_r k) (hJ : ab_J σ) : ab_C G mX10_states mX11_states [am_i k] σ := by
  obtain ⟨b, F, M, doc, out, r, hI, hc, hr⟩ := hJ
  refine ab_go (c_xstates 54 h1 hc.2.2.2.1) ?_
  rintro x τ ⟨rfl, t1⟩
  have hr1 := hr.cls hI (fun a ha => t1.1.1 a (by omega))
  refine ⟨_, r_xstates 56 h1 hr1.2.2.1 hI.2.1, ?_⟩
  rintro y υ ⟨rfl, u1⟩
  exact ⟨rfl, b, F, M, doc, out, r, hI, (hc.cqg t1).ref (fun a _ => by rw [u1.1]) u1.2.2, hr1.wj hI u1⟩
theorem j_least {k : Int} (h1 : ab_r k) (hJ : ab_J σ) : ab_C G mX10_least mX11_least [am_i k] σ := by
  obtain ⟨b, F, M, doc, out, r, hI, hc, hr⟩ := hJ
  refine ab_go (c_xleast 54 h1 hc.2.2.2.1) ?_
  rintro x τ ⟨rfl, t1⟩
  have hr1 := hr.cls hI (fun a ha => t1.1.1 a (by omega))
  refine ⟨_, r_xleast 56 h1 hr1.2.2.1 hI.2.1, ?_⟩
  rintro y υ ⟨rfl, u1⟩
  exact ⟨rfl, b, F, M, doc, out, r, hI, (hc.cqg t1).ref (fun a _ => by rw [u1.1]) u1.2.2, hr1.wj hI u1⟩
theorem j_many {k n : Int} (h1 : ab_r k) (h2 : ab_r n) (hJ : ab_J σ) : ab_CJ G mX10_many mX11_many [am_i k, am_i n] σ := by
  obtain ⟨b, F, M, doc, out, r, hI, hc, hr⟩ := hJ
  refine ab_goJ (c_xmany 56 h1 h2 hc.2.2.2.1) ?_
  rintro x τ ⟨rfl, t1⟩
  have hr1 := hr.cls hI (fun a ha => t1.1.1 a (by omega))
  refine ⟨_, r_xmany 57 h1 h2 hr1.2.2.1 hI.2.1, ?_⟩
  rintro y υ ⟨rfl, u1⟩
  exact ⟨rfl, b, F, M, doc, out, r, hI, (hc.cqg t1).ref (fun a _ => by rw [u1.1]) u1.2.2, hr1.wj hI u1⟩
/-- a search of the reference: THE DOCUMENT is another -/
theorem rx_I.rsg {τ : am_D} {b : ab_B} {F : Int} {M : ab_M} {doc out doc' : List Int} {r : ab_R} (h : rx_I σ b F M doc out r) (hI : ab_I b M doc out r) (hf : rs_g σ τ) (hD : rx_Dc τ doc') : rx_I τ b F M doc' out r := by
  have q : ∀ a, (92 ≤ a ∧ a ≤ 106) ∨ a = 109 → τ.1 a = σ.1 a := fun a ha => hf.1.1 a (by simp; omega)
  exact h.of hI.2.1 (q 92 (by omega)) (hf.2.1 1 (by decide)) (hf.2.1 2 (by decide)) (q 93 (by omega)) (fun a h1 h2 => q a (by omega)) hD (h.Ou (hf.2.1 27 (by decide)) (q 109 (by omega))) (h.Re hI.2.2.2.2.2 (fun j _ _ => hf.2.1 j (by simp; omega)) (fun a h1 h2 => q a (by omega)) hf.2.2)
theorem j_differ {j k n : Int} (h1 : ab_r j) (h2 : ab_r k) (h3 : ab_r n) (hJ : ab_J σ) : ab_C G mX10_differ mX11_differ [am_i j, am_i k, am_i n] σ := by
  obtain ⟨b, F, M, doc, out, r, hI, hc, hr⟩ := hJ
  refine ab_go (c_xdiffer 53 h1 h2 h3 hc.2.2.2.1 hc.2.2.2.2.2.1) ?_
  rintro x τ ⟨rfl, t1, t2⟩
  have hr1 := hr.cls hI (fun a ha => t2.1 a (by omega))
  refine ⟨_, r_xdiffer 42 h1 h2 h3 hr1.2.2.1 hI.2.1 hr1.2.2.2.1, ?_⟩
  rintro y υ ⟨rfl, u1, u2⟩
  exact ⟨rfl, b, F, M, _, out, r, ⟨hI.1, hI.2.1, hI.2.2.1, an_fd_ok hI.2.2.2.1, hI.2.2.2.2⟩, (hc.cqf t2 t1).only u2.1 (by decide), hr1.rsg hI u2 u1⟩
theorem j_spoils {j k n : Int} (h1 : ab_r j) (h2 : ab_r k) (h3 : ab_r n) (hJ : ab_J σ) : ab_C G mX10_spoils mX11_spoils [am_i j, am_i k, am_i n] σ := by
  obtain ⟨b, F, M, doc, out, r, hI, hc, hr⟩ := hJ
  refine ab_go (c_xspoils 53 h1 h2 h3 hc.2.2.2.1 hc.2.2.2.2.2.1) ?_
  rintro x τ ⟨rfl, t1, t2⟩
  have hr1 := hr.cls hI (fun a ha => t2.1 a (by omega))
  refine ⟨_, r_xspoils 42 h1 h2 h3 hr1.2.2.1 hI.2.1 hr1.2.2.2.1, ?_⟩
  rintro y υ ⟨rfl, u1, u2⟩
  exact ⟨rfl, b, F, M, _, out, r, ⟨hI.1, hI.2.1, hI.2.2.1, an_fd_ok hI.2.2.2.1, hI.2.2.2.2⟩, (hc.cqf t2 t1).only u2.1 (by decide), hr1.rsg hI u2 u1⟩
theorem j_safe {j k : Int} (h1 : ab_r j) (h2 : ab_r k) (hJ : ab_J σ) : ab_C G mX10_safe mX11_safe [am_i j, am_i k] σ := by
  obtain ⟨b, F, M, doc, out, r, hI, hc, hr⟩ := hJ
  refine ab_go (c_xsafe 53 h1 h2 hc.2.2.2.1 hI.2.1 hc.2.2.2.2.2.2.2.2) ?_
  rintro x τ ⟨t0, t1⟩
  have hr1 := hr.cls hI (fun a ha => t1.1.1 a (by omega))
  refine ⟨_, r_xsafe 54 h1 h2 hr1.2.2.1 hI.2.1, ?_⟩
  rintro y υ ⟨u0, u1⟩
  have q : ∀ a, 91 ≤ a ∧ a ≤ 131 → υ.1 a = τ.1 a := fun a ha => u1.1 a (by simp; omega)
  refine ⟨sf_A_eq t0 u0, b, F, M, doc, out, r, hI, (hc.cqg t1).only u1 (by decide), ?_⟩
  exact hr1.fr hI (S := rk_F) (K := []) u1 (fun j _ => by rw [q 91 (by omega)]) (fun a h1 h2 i _ => by rw [q a (by omega)]) (by decide) (by decide)
end
