theorem fe_all {t : Nat → Int32} {tl s : Nat} : ∀ m p, tl - p = m → (∀ j, s ≤ j → j < p → fgl t tl j = true) → ∀ j, s ≤ j → j < fe t tl p → fgl t tl j = true := by
  intro m
  induction m with
  | zero =>
    intro p em h j j1 j2
    have w : fgl t tl p = false := decide_eq_false (fun w => absurd w.1 (by omega))
    rw [fe_no w] at j2
    exact h j j1 j2
  | succ m ih =>
    intro p em h j j1 j2
    cases w : fgl t tl p
    · rw [fe_no w] at j2
      exact h j j1 j2
    · rw [fe_yes w] at j2
      refine ih (p + 1) (by omega) (fun i i1 i2 => ?_) j j1 j2
      by_cases x : i = p
      · rw [x]
        exact w
      · exact h i i1 (by omega)
theorem pnc_v {t : Nat → Int32} {tl p : Nat} {a1 a2 : Int32} (h : pnc t tl a1 a2 p = 0) : (a1 ≤ nI (nv t tl p) ∧ nI (nv t tl p) ≤ a2) ∧ nv t tl p < 1000000 ∧ fgl t tl (sk t tl p) = true ∧ ne t tl p - sk t tl p ≤ 6 := by
  unfold pnc at h
  cases w : fgl t tl (sk t tl p)
  · rw [w, if_neg (by decide)] at h
    cases h
  · rw [w, if_pos rfl] at h
    by_cases y : 6 < fe t tl (sk t tl p) - sk t tl p
    · rw [if_pos y] at h
      cases h
    · rw [if_neg y] at h
      by_cases x : a1 ≤ nI (vlf t (sk t tl p) (fe t tl (sk t tl p) - sk t tl p)) ∧ nI (vlf t (sk t tl p) (fe t tl (sk t tl p) - sk t tl p)) ≤ a2
      · refine ⟨x, vlf_6 (tl := tl) (by omega) (fun j hj => ?_), rfl, by unfold ne; omega⟩
        exact fe_all (s := sk t tl p) (tl - sk t tl p) (sk t tl p) rfl (fun i i1 i2 => absurd i2 (by omega)) _ (by omega) (by omega)
      · rw [if_neg x] at h
        cases h
theorem pnc_n {t : Nat → Int32} {tl p n : Nat} (hn : n < 1000000) (h : pnc t tl 0 (nI n - 1) p = 0) : nv t tl p < n := by
  obtain ⟨h1, h2, _, _⟩ := pnc_v h
  obtain ⟨j, j1, j2⟩ := (in_n hn).mp h1
  rw [eqN h2 (by omega)] at j2
  omega
