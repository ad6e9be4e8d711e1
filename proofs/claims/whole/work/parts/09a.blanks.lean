/-- the letter at p, and the place behind the blanks from p on -/
def lt (t : Nat → Int32) (tl p : Nat) : Int32 := if p < tl then t p else -1
def skb (t : Nat → Int32) : Nat → Nat → Nat
  | 0, p => p
  | m + 1, p => if t p = 32 then skb t m (p + 1) else p
def sk (t : Nat → Int32) (tl p : Nat) : Nat := skb t (tl - p) p
theorem sk_end {t : Nat → Int32} {tl p : Nat} (h : tl ≤ p) : sk t tl p = p := by
  unfold sk
  rw [show tl - p = 0 by omega]
  rfl
theorem sk_yes {t : Nat → Int32} {tl p : Nat} (h : p < tl) (e : t p = 32) : sk t tl p = sk t tl (p + 1) := by
  unfold sk
  rw [show tl - p = (tl - (p + 1)) + 1 by omega]
  show (if t p = 32 then skb t (tl - (p + 1)) (p + 1) else p) = _
  rw [if_pos e]
theorem sk_no {t : Nat → Int32} {tl p : Nat} (e : ¬ (p < tl ∧ t p = 32)) : sk t tl p = p := by
  by_cases h : p < tl
  · unfold sk
    rw [show tl - p = (tl - (p + 1)) + 1 by omega]
    show (if t p = 32 then skb t (tl - (p + 1)) (p + 1) else p) = _
    rw [if_neg (fun z => e ⟨h, z⟩)]
  · exact sk_end (by omega)
theorem skb_ge (t : Nat → Int32) : ∀ m p, p ≤ skb t m p ∧ skb t m p ≤ p + m
  | 0, p => ⟨Nat.le_refl p, Nat.le_refl p⟩
  | m + 1, p => by
    have h := skb_ge t m (p + 1)
    show p ≤ (if t p = 32 then skb t m (p + 1) else p) ∧ (if t p = 32 then skb t m (p + 1) else p) ≤ p + (m + 1)
    split
    · omega
    · omega
theorem sk_ge {t : Nat → Int32} {tl p : Nat} : p ≤ sk t tl p := (skb_ge t (tl - p) p).1
theorem sk_le {t : Nat → Int32} {tl p : Nat} (h : p ≤ tl) : sk t tl p ≤ tl := by
  have := (skb_ge t (tl - p) p).2
  unfold sk
  omega
theorem sp_letter {Q : Int32 → Mem → Prop} {p tl : Nat} {t : Nat → Int32} {M : Mem} (hp : p < 1000) (htl : tl ≤ 240) (h1 : M 1 1 = nI tl) (h2 : M 3 6 = nI p) (h3 : ∀ i, i < tl → M 2 i = t i) (hq : Q (lt t tl p) M) : wp_X6_letter Q M := by
  unfold wp_X6_letter bd_X6_letter wp_X8_at bd_X8_at
  rw [h1, h2, cl (show p < 1000000 by omega)]
  refine ⟨fun z => absurd z (nlt.mpr (nI_ge0 (by omega))), fun _ => ⟨fun _ => trivial, fun z => ⟨?_, trivial⟩, ?_⟩⟩
  · rw [leN (by omega) (by omega)] at z
    exact inb (by omega) (by omega)
  · unfold lt at hq
    by_cases y : p < tl
    · rw [if_neg (fun z => absurd ((leN (by omega) (by omega)).mp z) (by omega)), h3 p y]
      rw [if_pos y] at hq
      exact hq
    · rw [if_pos ((leN (by omega) (by omega)).mpr (by omega))]
      rw [if_neg y] at hq
      exact hq
theorem sp_skipBlanks {Q : Mem → Prop} {p tl : Nat} {t : Nat → Int32} {M : Mem} (hp : p < 500) (htl : tl ≤ 240) (h1 : M 1 1 = nI tl) (h2 : M 3 6 = nI p) (h3 : ∀ i, i < tl → M 2 i = t i) (hq : ∀ M', M' 3 6 = nI (sk t tl p) → (∀ k, k ≠ 6 → M' 3 k = M 3 k) → (∀ a, a ≠ 3 → M' a = M a) → Q M') : wp_X6_skipBlanks Q M := by
  intro X2 hx
  show X2 0 M
  have key : ∀ M', sk t tl (p + 0) = sk t tl p → M' 3 6 = nI (p + 0) → (∀ k, k ≠ 6 → M' 3 k = M 3 k) → (∀ a, a ≠ 3 → M' a = M a) → X2 (nI 0) M' := by
    refine upto (P := fun j => ∀ M', sk t tl (p + j) = sk t tl p → M' 3 6 = nI (p + j) → (∀ k, k ≠ 6 → M' 3 k = M 3 k) → (∀ a, a ≠ 3 → M' a = M a) → X2 (nI j) M') (n := 240) ?_ ?_
    · intro M' e1 e2 e3 e4
      apply hx
      unfold bd_X6_skipBlanks_2
      refine ⟨fun _ => hq M' ?_ e3 e4, fun z => absurd ((leN (a := 240) (b := 240) (by omega) (by omega)).mpr (Nat.le_refl 240)) z⟩
      rw [← e1, sk_end (by omega), e2]
    · intro j hj ih M' e1 e2 e3 e4
      apply hx
      unfold bd_X6_skipBlanks_2
      refine ⟨fun z => absurd ((leN (a := 240) (b := j) (by omega) (by omega)).mp z) (by omega), fun _ => ?_⟩
      refine sp_letter (t := t) (p := p + j) (by omega) htl ((congrFun (e4 1 (by decide)) 1).trans h1) e2 (fun i hi => by rw [e4 2 (by decide)]; exact h3 i hi) ?_
      by_cases y : p + j < tl
      · unfold lt
        rw [if_pos y]
        refine ⟨fun z => ?_, fun z => ?_⟩
        · intro M2 e5
          rw [e2, nI_1] at e5
          rw [nI_1]
          refine ih M2 ?_ ?_ (fun k hk => ?_) (fun a ha => ?_)
          · rw [← e1, sk_yes y z]
            rfl
          · rw [e5, up_ss]
            rfl
          · rw [e5, up_sn hk, e3 k hk]
          · rw [e5, up_o ha, e4 a ha]
        · refine hq M' ?_ e3 e4
          rw [← e1, sk_no (fun w => z w.2), e2]
      · unfold lt
        rw [if_neg y]
        refine ⟨fun z => absurd z (by decide), fun _ => hq M' ?_ e3 e4⟩
        rw [← e1, sk_end (by omega), e2]
  exact key M rfl h2 (fun _ _ => rfl) (fun _ _ => rfl)
theorem sp_hereR {Q : Int32 → Mem → Prop} {p tl : Nat} {t : Nat → Int32} {M : Mem} (hp : p < 500) (htl : tl ≤ 240) (h1 : M 211 8 = nI tl) (h2 : M 211 10 = nI p) (h3 : ∀ i, i < tl → M 215 i = t i) (hq : ∀ M', M' 211 10 = nI (sk t tl p) → (∀ k, k ≠ 10 → M' 211 k = M 211 k) → (∀ a, a ≠ 211 → M' a = M a) → Q (lt t tl (sk t tl p)) M') : wp_X10_here Q M := by
  intro X0 hx
  show X0 M
  have key : ∀ m q M', tl - q = m → q < 500 → sk t tl q = sk t tl p → M' 211 10 = nI q → (∀ k, k ≠ 10 → M' 211 k = M 211 k) → (∀ a, a ≠ 211 → M' a = M a) → X0 M' := by
    intro m
    induction m with
    | zero =>
      intro q M' em hq5 e1 e2 e3 e4
      apply hx
      unfold bd_X10_here_0
      rw [e3 8 (by decide), h1, e2]
      have le : nI tl ≤ nI q := (leN (by omega) (by omega)).mpr (by omega)
      refine ⟨fun _ => ⟨fun _ => trivial, fun z => absurd le z, ?_⟩, fun z => absurd le z⟩
      rw [if_pos le]
      have h := hq M' (by rw [e2, ← e1, sk_end (by omega)]) e3 e4
      rw [← e1, sk_end (by omega)] at h
      unfold lt at h
      rw [if_neg (by omega)] at h
      exact h
    | succ m ih =>
      intro q M' em hq5 e1 e2 e3 e4
      apply hx
      unfold bd_X10_here_0
      rw [e3 8 (by decide), h1, e2, cl (show q < 1000000 by omega), e4 215 (by decide), h3 q (by omega), nI_1]
      have le : ¬ nI tl ≤ nI q := fun z => absurd ((leN (by omega) (by omega)).mp z) (by omega)
      refine ⟨fun z => absurd z le, fun _ => ⟨inb (by omega) (by omega), fun z => ?_, fun z => ⟨fun w => absurd w le, fun _ => ⟨inb (by omega) (by omega), trivial⟩, ?_⟩⟩⟩
      · intro M2 e5
        refine ih (q + 1) M2 (by omega) (by omega) ?_ ?_ (fun k hk => ?_) (fun a ha => ?_)
        · rw [← e1, sk_yes (by omega) z]
        · rw [e5, up_ss]
        · rw [e5, up_sn hk, e3 k hk]
        · rw [e5, up_o ha, e4 a ha]
      · rw [if_neg le]
        have h := hq M' (by rw [e2, ← e1, sk_no (fun w => z w.2)]) e3 e4
        rw [← e1, sk_no (fun w => z w.2)] at h
        unfold lt at h
        rw [if_pos (by omega)] at h
        exact h
  exact key (tl - p) p M rfl hp rfl h2 (fun _ _ => rfl) (fun _ _ => rfl)
