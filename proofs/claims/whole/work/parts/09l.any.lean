/-! the reader where its place is not known (behind a fault) -/
theorem sp_letterAny {Q : Int32 → Mem → Prop} {tl : Nat} {M : Mem} (htl : tl ≤ 240) (h1 : M 1 1 = nI tl) (hq : ∀ r, Q r M) : wp_X6_letter Q M := by
  unfold wp_X6_letter bd_X6_letter wp_X8_at bd_X8_at
  refine ⟨fun _ => hq _, fun z => ⟨fun _ => trivial, fun y => ⟨?_, trivial⟩, hq _⟩⟩
  rw [h1] at y
  rcases rg1 (M 3 6) (l := 0) (m := 239) (by decide) (by decide) with ⟨k, _, k2, k3⟩ | w
  · rw [k3]
    exact inb (by omega) (by decide)
  · refine absurd ⟨nlt.mp z, ?_⟩ w
    rw [leI, nI_toInt (by omega)] at y
    rw [leI, nI_toInt (by omega)]
    omega
theorem sp_skipAny {Q : Mem → Prop} {tl : Nat} {M : Mem} (htl : tl ≤ 240) (h1 : M 1 1 = nI tl) (hq : ∀ M', (∀ k, k ≠ 6 → M' 3 k = M 3 k) → (∀ a, a ≠ 3 → M' a = M a) → Q M') : wp_X6_skipBlanks Q M := by
  intro X2 hx
  show X2 0 M
  have key : ∀ M', (∀ k, k ≠ 6 → M' 3 k = M 3 k) → (∀ a, a ≠ 3 → M' a = M a) → X2 (nI 0) M' := by
    refine upto (P := fun j => ∀ M', (∀ k, k ≠ 6 → M' 3 k = M 3 k) → (∀ a, a ≠ 3 → M' a = M a) → X2 (nI j) M') (n := 240) ?_ ?_
    · intro M' e3 e4
      apply hx
      unfold bd_X6_skipBlanks_2
      exact ⟨fun _ => hq M' e3 e4, fun z => absurd ((leN (a := 240) (b := 240) (by omega) (by omega)).mpr (Nat.le_refl 240)) z⟩
    · intro j hj ih M' e3 e4
      apply hx
      unfold bd_X6_skipBlanks_2
      refine ⟨fun z => absurd ((leN (a := 240) (b := j) (by omega) (by omega)).mp z) (by omega), fun _ => ?_⟩
      refine sp_letterAny htl ((congrFun (e4 1 (by decide)) 1).trans h1) (fun r => ⟨fun z M2 e5 => ?_, fun z => hq M' e3 e4⟩)
      rw [nI_1]
      exact ih M2 (fun k hk => by rw [e5, up_sn hk, e3 k hk]) (fun a ha => by rw [e5, up_o ha, e4 a ha])
  exact key M (fun _ _ => rfl) (fun _ _ => rfl)
theorem sp_readSemicolonE {Q : Mem → Prop} {tl : Nat} {M : Mem} (htl : tl ≤ 240) (h1 : M 1 1 = nI tl) (h0 : ¬ M 3 3 = 0) (hq : ∀ M', (∀ k, k ≠ 6 → M' 3 k = M 3 k) → (∀ a, a ≠ 3 → M' a = M a) → Q M') : wp_X6_readSemicolon Q M := by
  unfold wp_X6_readSemicolon bd_X6_readSemicolon
  refine sp_skipAny htl h1 (fun M1 g2 g3 => ?_)
  refine sp_letterAny htl ((congrFun (g3 1 (by decide)) 1).trans h1) (fun r => ⟨fun z M2 e2 => ?_, fun z => ?_⟩)
  · exact hq M2 (fun k hk => by rw [e2, up_sn hk, g2 k hk]) (fun a ha => by rw [e2, up_o ha, g3 a ha])
  · unfold wp_X6_blame bd_X6_blame
    refine ⟨fun y => absurd ((g2 3 (by decide)).symm.trans y) h0, fun _ M5 e5 => ?_⟩
    exact hq M5 (fun k hk => by rw [e5, up_sn hk, g2 k hk]) (fun a ha => by rw [e5, up_o ha, g3 a ha])
