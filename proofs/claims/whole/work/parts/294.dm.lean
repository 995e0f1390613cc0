section
/-! No RULE opens from a STATE that is none. -/
theorem sm_rule_dm {bs : Int → Int} {n p p' : Int} {P P' : am_P} (hg : pm_dm P) (h : sm_rule bs n P p = .inr (P', p')) : pm_dm P' := by
  unfold sm_rule at h
  split at h
  · exact nomatch h
  split at h
  · exact nomatch h
  generalize tk_sp bs n p = p1 at *
  split at h
  · unfold sm_open at h
    have r2 := sl_dig_rg bs n (tk_sp bs n (tk_sp bs n p1)) 0 (pm_S P - 1)
    split at h
    · exact nomatch h
    split at h
    · exact nomatch h
    split at h
    · exact nomatch h
    split at h
    · exact nomatch h
    split at h
    · exact nomatch h
    injection h with h
    injection h with h1 h2
    rw [← h1]
    intro l q hq
    have hq : pm_S P ≤ q := hq
    show pm_u2 (pm_oT P) _ _ _ l q = -1
    unfold pm_u2
    rw [if_neg (by omega)]
    exact hg l q hq
  split at h
  · unfold sm_close at h
    split at h
    · exact nomatch h
    split at h
    · exact nomatch h
    split at h
    · exact nomatch h
    split at h
    · exact nomatch h
    split at h
    · exact nomatch h
    split at h
    · exact nomatch h
    split at h
    · exact nomatch h
    injection h with h
    injection h with h1 h2
    rw [← h1]
    exact hg
  · unfold sm_end at h
    split at h
    · exact nomatch h
    split at h
    · exact nomatch h
    split at h
    · exact nomatch h
    split at h
    · exact nomatch h
    injection h with h
    injection h with h1 h2
    rw [← h1]
    exact hg
theorem sm_rules_dm {bs : Int → Int} {n : Int} : ∀ (f : Nat) (P P' : am_P) (p : Int), pm_dm P → sm_rules bs n f P p = .inr P' → pm_dm P' := by
  intro f
  induction f with
  | zero =>
    intro P P' p hg h
    have h : Sum.inr P = Sum.inr P' := h
    injection h with h
    rw [← h]; exact hg
  | succ f ih =>
    intro P P' p hg h
    unfold sm_rules at h
    split at h
    · split at h
      · exact nomatch h
      · rename_i P1 p1 h1
        exact ih P1 P' p1 (sm_rule_dm hg h1) h
    · split at h
      · injection h with h
        rw [← h]; exact hg
      · exact nomatch h
theorem sm_mach_dm {bs : Int → Int} {n : Int} {P : am_P} (h : sm_mach bs n = .inr P) : pm_dm P := by
  unfold sm_mach at h
  split at h
  · exact nomatch h
  split at h
  · exact nomatch h
  split at h
  · exact nomatch h
  exact sm_rules_dm 700 _ _ _ (fun l q _ => rfl) h
end
