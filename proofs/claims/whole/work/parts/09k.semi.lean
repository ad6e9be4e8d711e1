theorem sp_readSemicolon {Q : Mem → Prop} {p tl : Nat} {t : Nat → Int32} {M : Mem} (hp : p ≤ tl) (htl : tl ≤ 240) (h1 : M 1 1 = nI tl) (h2 : M 3 6 = nI p) (h3 : ∀ i, i < tl → M 2 i = t i) (h0 : M 3 3 = 0)
    (he : ¬ lt t tl (sk t tl p) = 59 → ∀ M', M' 3 3 = 1 → M' 3 4 = nI (sk t tl p) → (∀ a, a ≠ 3 → M' a = M a) → Q M')
    (hq : lt t tl (sk t tl p) = 59 → ∀ M', M' 3 6 = nI (sk t tl p + 1) → (∀ k, k ≠ 6 → M' 3 k = M 3 k) → (∀ a, a ≠ 3 → M' a = M a) → Q M') : wp_X6_readSemicolon Q M := by
  unfold wp_X6_readSemicolon bd_X6_readSemicolon
  have hs := sk_le (t := t) hp
  refine sp_skipBlanks (t := t) (by omega) htl h1 h2 h3 (fun M1 g1 g2 g3 => ?_)
  refine sp_letter (t := t) (p := sk t tl p) (by omega) htl ((congrFun (g3 1 (by decide)) 1).trans h1) g1 (fun i hi => by rw [g3 2 (by decide)]; exact h3 i hi) ⟨fun z M2 e2 => ?_, fun z => ?_⟩
  · rw [g1, nI_1] at e2
    exact hq z M2 (by rw [e2, up_ss]) (fun k hk => by rw [e2, up_sn hk, g2 k hk]) (fun a ha => by rw [e2, up_o ha, g3 a ha])
  · rw [g1]
    refine sp_blame ((g2 3 (by decide)).trans h0) (fun M4 c1 c2 c3 c4 M5 e5 => ?_)
    exact he z M5 (by rw [e5, up_sn (by decide), c1]) (by rw [e5, up_sn (by decide), c2]) (fun a ha => by rw [e5, up_o ha, c4 a ha, g3 a ha])
