theorem sp_takeTown {Q : Int32 → Mem → Prop} {p tl : Nat} {t : Nat → Int32} {M : Mem} (hp : p ≤ tl) (htl : tl ≤ 240) (h1 : M 211 8 = nI tl) (h2 : M 211 10 = nI p) (h3 : ∀ i, i < tl → M 215 i = t i)
    (he : twc t tl p ≠ 0 → ∀ M', M' 211 9 = nI (twp t tl p) → (∀ k, k < 9 ∨ 12 < k → M' 211 k = M 211 k) → (∀ a, a ≠ 211 → a ≠ 216 → M' a = M a) → Q (nI (twc t tl p)) M')
    (hq : twc t tl p = 0 → ∀ M', M' 211 9 = M 211 9 → M' 211 10 = nI (ne t tl (ne t tl p)) → M' 216 0 = nI (nv t tl p) → M' 216 1 = nI (nv t tl (ne t tl p)) → (∀ k, k < 9 ∨ 12 < k → M' 211 k = M 211 k) → (∀ a, a ≠ 211 → a ≠ 216 → M' a = M a) → Q 0 M') : wp_X10_takeTown Q M := by
  unfold wp_X10_takeTown bd_X10_takeTown
  unfold twc twp at he
  unfold twc at hq
  unfold wp_X10_into bd_X10_into
  have v0 : vp_in (0 : Int32) 2 := inb (i := 0) (by decide) (by decide)
  have v1 : vp_in (1 : Int32) 2 := inb (i := 1) (by decide) (by decide)
  refine sp_takeNumber (t := t) hp htl h1 h2 h3 (fun e M1 g2 g3 g4 => ⟨v0, fun M2 e2 => ?_⟩) (fun e M1 g1 g2 g5 g6 g3 g4 => ⟨v0, fun M2 e2 => ?_⟩)
  · rw [if_neg e, if_neg e] at he
    have nz : ¬ nI (pnc t tl 1 9 p) ≤ 0 := by
      have := pnc_le (t := t) (tl := tl) (p := p) (a1 := 1) (a2 := 9)
      rw [l0, leN (by omega) (by decide)]
      omega
    refine ⟨fun z => absurd z nz, fun _ => he e M2 ?_ (fun k hk => ?_) (fun a a1 a2 => ?_)⟩
    · rw [e2, up_o (by decide), g2]
    · rw [e2, up_o (by decide), g3 k hk]
    · rw [e2, up_o a2, g4 a a1]
  · rw [if_pos e, if_pos e] at he
    rw [if_pos e] at hq
    refine ⟨fun _ => ?_, fun z => absurd (by decide) z⟩
    refine sp_takeNumber (t := t) (p := ne t tl p) (ne_le hp) htl ?_ ?_ (fun i hi => ?_) (fun e3 M3 k2 k3 k4 => ⟨v1, fun M4 e4 => ?_⟩) (fun e3 M3 k1 k2 k5 k6 k3 k4 => ⟨v1, fun M4 e4 => ?_⟩)
    · rw [e2, up_o (by decide), g3 8 (by omega), h1]
    · rw [e2, up_o (by decide), g2]
      rfl
    · rw [e2, up_o (by decide), g4 215 (by decide)]
      exact h3 i hi
    · refine he e3 M4 ?_ (fun k hk => ?_) (fun a a1 a2 => ?_)
      · rw [e4, up_o (by decide), k2]
      · rw [e4, up_o (by decide), k3 k hk, e2, up_o (by decide), g3 k hk]
      · rw [e4, up_o a2, k4 a a1, e2, up_o a2, g4 a a1]
    · refine hq e3 M4 ?_ ?_ ?_ ?_ (fun k hk => ?_) (fun a a1 a2 => ?_)
      · rw [e4, up_o (by decide), k1, e2, up_o (by decide), g1]
      · rw [e4, up_o (by decide), k2]
        rfl
      · rw [e4, k5]
        show up M3 216 1 (nI (nv t tl (ne t tl p))) 216 0 = _
        rw [up_sn (by decide), k4 216 (by decide), e2, g5]
        show up M1 216 0 (nI (nv t tl p)) 216 0 = _
        rw [up_ss]
      · rw [e4, k5]
        show up M3 216 1 (nI (nv t tl (ne t tl p))) 216 1 = _
        rw [up_ss]
      · rw [e4, up_o (by decide), k3 k hk, e2, up_o (by decide), g3 k hk]
      · rw [e4, up_o a2, k4 a a1, e2, up_o a2, g4 a a1]
