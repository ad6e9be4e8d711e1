/-! leaves -/
theorem sp_isIn {Q : Int32 → Mem → Prop} {x : Int32} {k : Nat} {M : Mem} (hk : k < 31) (hq : Q (if bt x k then 1 else 0) M) : wp_X9_isIn Q x (nI k) M := by
  unfold wp_X9_isIn bd_X9_isIn
  rw [bit0 x hk]
  cases h : bt x k <;> simp_all
theorem sp_has {Q : Int32 → Mem → Prop} {x : Int32} {k : Nat} {M : Mem} (hk : k < 31) (hq : Q (if bt x k then 1 else 0) M) : wp_X10_has Q x (nI k) M := by
  unfold wp_X10_has bd_X10_has
  rw [bit0 x hk]
  cases h : bt x k <;> simp_all
/-- how many of the first n are j -/
def cnt (f : Nat → Int32) (j : Int32) : Nat → Nat
  | 0 => 0
  | i + 1 => if f i = j then cnt f j i + 1 else cnt f j i
theorem cnt_le (f : Nat → Int32) (j : Int32) : ∀ n, cnt f j n ≤ n
  | 0 => Nat.le_refl 0
  | n + 1 => by
    have := cnt_le f j n
    rw [cnt]
    split <;> omega
theorem cnt_cong {f g : Nat → Int32} {j : Int32} : ∀ n, (∀ i, i < n → f i = g i) → cnt f j n = cnt g j n
  | 0, _ => rfl
  | n + 1, h => by rw [cnt, cnt, cnt_cong n (fun i hi => h i (by omega)), h n (by omega)]
theorem sp_carsAt {Q : Int32 → Mem → Prop} {b n : Nat} {j : Int32} {M : Mem} (hn : n ≤ 8) (hc : M b 0 = nI n) (hq : Q (nI (cnt (M (b + 1)) j n)) M) : wp_X7_carsAt Q b j M := by
  intro X4 h4
  have key : X4 (nI (cnt (M (b + 1)) j 0)) (nI 0) M := by
    refine upto (P := fun i => X4 (nI (cnt (M (b + 1)) j i)) (nI i) M) (n := n) ?_ ?_
    · apply h4
      unfold bd_X7_carsAt_4
      rw [hc]
      exact ⟨fun _ => hq, fun h => absurd ((leN (by omega) (by omega)).mpr (Nat.le_refl n)) h⟩
    · intro i hi ih
      apply h4
      unfold bd_X7_carsAt_4
      rw [hc, leN (by omega) (by omega), cl (by omega), nI_1, nI_1]
      refine ⟨fun h => absurd h (by omega), fun _ => ⟨inb (by omega) (by omega), fun h => ?_, fun h => ?_⟩⟩
      · rw [cnt, if_pos h] at ih; exact ih
      · rw [cnt, if_neg h] at ih; exact ih
  rw [nI_0] at key
  exact key
