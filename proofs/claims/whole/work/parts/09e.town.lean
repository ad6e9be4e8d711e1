theorem feb_ge (t : Nat → Int32) (tl : Nat) : ∀ m p, p ≤ feb t tl m p ∧ feb t tl m p ≤ p + m
  | 0, p => ⟨Nat.le_refl p, Nat.le_refl p⟩
  | m + 1, p => by
    have h := feb_ge t tl m (p + 1)
    show p ≤ (if fgl t tl p = true then feb t tl m (p + 1) else p) ∧ (if fgl t tl p = true then feb t tl m (p + 1) else p) ≤ p + (m + 1)
    split
    · omega
    · omega
theorem fe_ge {t : Nat → Int32} {tl p : Nat} : p ≤ fe t tl p := (feb_ge t tl (tl - p) p).1
theorem fe_le {t : Nat → Int32} {tl p : Nat} (h : p ≤ tl) : fe t tl p ≤ tl := by
  have := (feb_ge t tl (tl - p) p).2
  unfold fe
  omega
theorem pnc_le {t : Nat → Int32} {tl p : Nat} {a1 a2 : Int32} : pnc t tl a1 a2 p ≤ 2 := by
  unfold pnc
  split
  · split
    · omega
    · split
      · omega
      · omega
  · omega
theorem pnc_nz {t : Nat → Int32} {tl p : Nat} {a1 a2 : Int32} (h : pnc t tl a1 a2 p ≠ 0) : ¬ nI (pnc t tl a1 a2 p) = 0 := by
  have := pnc_le (t := t) (tl := tl) (p := p) (a1 := a1) (a2 := a2)
  rw [l0, eqN (by omega) (by decide)]
  exact h
theorem sp_readNumberE {Q : Int32 → Mem → Prop} {a1 a2 : Int32} {M : Mem} (h : ¬ M 3 3 = 0) (q : Q (-1) M) : wp_X6_readNumber Q a1 a2 M := by
  intro X44 hx
  unfold bd_X6_readNumber
  exact ⟨fun z => absurd z h, fun _ => q⟩
/-- the end of the number read from p on, its value -/
def ne (t : Nat → Int32) (tl p : Nat) : Nat := fe t tl (sk t tl p)
def nv (t : Nat → Int32) (tl p : Nat) : Nat := vlf t (sk t tl p) (fe t tl (sk t tl p) - sk t tl p)
theorem ne_le {t : Nat → Int32} {tl p : Nat} (h : p ≤ tl) : ne t tl p ≤ tl := fe_le (sk_le h)
def twc (t : Nat → Int32) (tl p : Nat) : Nat := if pnc t tl 1 9 p = 0 then pnc t tl 0 100 (ne t tl p) else pnc t tl 1 9 p
def twp (t : Nat → Int32) (tl p : Nat) : Nat := if pnc t tl 1 9 p = 0 then sk t tl (ne t tl p) else sk t tl p
theorem sp_readTown {Q : Mem → Prop} {p tl : Nat} {t : Nat → Int32} {M : Mem} (hp : p ≤ tl) (htl : tl ≤ 240) (h1 : M 1 1 = nI tl) (h2 : M 3 6 = nI p) (h3 : ∀ i, i < tl → M 2 i = t i) (h0 : M 3 3 = 0)
    (he : twc t tl p ≠ 0 → ∀ M', M' 3 3 = nI (twc t tl p) → M' 3 4 = nI (twp t tl p) → (∀ a, a ≠ 3 → M' a = M a) → Q M')
    (hq : twc t tl p = 0 → ∀ M', M' 3 3 = 0 → M' 3 4 = M 3 4 → M' 3 6 = nI (ne t tl (ne t tl p)) → M' 3 1 = nI (nv t tl p) → M' 3 2 = nI (nv t tl (ne t tl p)) → (∀ a, a ≠ 3 → M' a = M a) → Q M') : wp_X6_readTown Q M := by
  unfold wp_X6_readTown bd_X6_readTown
  unfold twc twp at he
  unfold twc at hq
  refine sp_readNumber (t := t) hp htl h1 h2 h3 h0 (fun e M1 g1 g2 g3 g4 => ?_) (fun e M1 g1 g2 g3 g4 g5 g6 => ?_)
  · rw [if_neg e, if_neg e] at he
    have nz : ¬ M1 3 3 = 0 := by
      rw [g1]
      exact pnc_nz e
    exact sp_readNumberE nz ⟨fun z => absurd z nz, fun _ => he e M1 g1 g2 g4⟩
  · rw [if_pos e, if_pos e] at he
    rw [if_pos e] at hq
    refine sp_readNumber (t := t) (p := ne t tl p) (ne_le hp) htl ((congrFun (g6 1 (by decide)) 1).trans h1) g3 (fun i hi => by rw [g6 2 (by decide)]; exact h3 i hi) g1 (fun e2 M2 k1 k2 k3 k4 => ?_) (fun e2 M2 k1 k2 k3 k4 k5 k6 => ?_)
    · have nz : ¬ M2 3 3 = 0 := by
        rw [k1]
        exact pnc_nz e2
      exact ⟨fun z => absurd z nz, fun _ => he e2 M2 k1 k2 (fun a ha => by rw [k4 a ha, g6 a ha])⟩
    · refine ⟨fun _ M3 e3 M4 e4 => ?_, fun z => absurd k1 z⟩
      refine hq e2 M4 ?_ ?_ ?_ ?_ ?_ (fun a ha => ?_)
      · rw [e4, up_sn (by decide), e3, up_sn (by decide), k1]
      · rw [e4, up_sn (by decide), e3, up_sn (by decide), k2, g2]
      · rw [e4, up_sn (by decide), e3, up_sn (by decide), k3]
        rfl
      · rw [e4, up_sn (by decide), e3, up_ss]
        rfl
      · rw [e4, up_ss]
        rfl
      · rw [e4, up_o ha, e3, up_o ha, k6 a ha, g6 a ha]
