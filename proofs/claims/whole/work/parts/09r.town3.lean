/-- the reference reads all clauses -/
theorem rt_loop {Q : Int32 → Mem → Prop} {X31 : Int32 → Mem → Prop} (hx : ∀ (x1 : Int32) (M : Mem), bd_X10_town_31 Q X31 x1 M → X31 x1 M) {t : Nat → Int32} {tl : Nat} (htl : tl ≤ 240) (ht : ∀ i, i < tl → ¬ t i < 0) : ∀ m p nc od n g ld M, PW t nc n g ld → p ≤ tl → tl ≤ p + m → M 211 8 = nI tl → (∀ i, i < tl → M 215 i = t i) → M 211 10 = nI p → RP t nc od n g ld M →
    ((prs t tl m p nc od n g ld).1 ≠ 0 → ∀ M', M' 211 9 = nI (prs t tl m p nc od n g ld).2.1 → M' 211 8 = 0 → (∀ k, k < 8 ∨ 14 < k → M' 211 k = M 211 k) → (∀ a, a ≠ 211 → (a < 216 ∨ 220 < a) → M' a = M a) → Q (-10 - nI (prs t tl m p nc od n g ld).1) M') →
    ((prs t tl m p nc od n g ld).1 = 0 → ∀ M', RP t (prs t tl m p nc od n g ld).2.2.1 (prs t tl m p nc od n g ld).2.2.2.1 (prs t tl m p nc od n g ld).2.2.2.2.1 (prs t tl m p nc od n g ld).2.2.2.2.2.1 (prs t tl m p nc od n g ld).2.2.2.2.2.2 M' → M' 211 8 = 0 → (∀ k, k < 8 ∨ 14 < k → M' 211 k = M 211 k) → (∀ a, a ≠ 211 → (a < 216 ∨ 220 < a) → M' a = M a) → wp_X10_takeRead (fun (M12 : Mem) => ∀ M13 : Mem, M13 = up M12 211 23 0 → ∀ M14 : Mem, M14 = up M13 211 29 0 → ∀ M15 : Mem, M15 = up M14 211 20 0 → vp_in (0 : Int32) 2 ∧ ∀ M17 : Mem, M17 = up M15 232 (0 : Int32).toNatClampNeg (vp_nar .boolean 0) → vp_in (1 : Int32) 2 ∧ ∀ M19 : Mem, M19 = up M17 232 (1 : Int32).toNatClampNeg (vp_nar .boolean 0) → Q (M19 211 2) M19) M') → X31 0 M := by
  intro m
  induction m with
  | zero =>
    intro p nc od n g ld M hw hp hm h1 h3 h2 hr he hq
    have en : tl ≤ sk t tl p := Nat.le_trans hm sk_ge
    rw [prs_end _ en] at hq
    apply hx
    unfold bd_X10_town_31
    refine ⟨fun _ => ?_, fun z => absurd rfl z⟩
    refine sp_hereR (t := t) (p := p) (by omega) htl h1 h2 h3 (fun M0 m1 m2 m3 => ?_)
    rw [show lt t tl (sk t tl p) = -1 from if_neg (by omega)]
    refine ⟨fun _ M1 e1 => ⟨fun _ => ?_, fun z => absurd ch15 z⟩, fun z => absurd m1_lt z⟩
    obtain ⟨r1, r2, r3, r4, r5⟩ := hr
    have f2 : ∀ a, a ≠ 211 → M1 a = M a := fun a ha => by rw [e1, up_o ha, m3 a ha]
    refine hq rfl M1 ⟨?_, ?_, ?_, ?_, fun c hc => ?_⟩ ?_ (fun k hk => ?_) (fun a a1 a2 => f2 a a1)
    · rw [f2 216 (by decide), r1]
    · rw [f2 216 (by decide), r2]
    · rw [e1, up_sn (by decide), m2 9 (by decide), r3]
    · rw [e1, up_sn (by decide), m2 14 (by decide), r4]
    · rw [f2 217 (by decide), f2 218 (by decide), f2 219 (by decide), f2 220 (by decide)]
      exact r5 c hc
    · rw [e1, up_ss]
    · rw [e1, up_sn (by omega), m2 k (by omega)]
  | succ m ih =>
    intro p nc od n g ld M hw hp hm h1 h3 h2 hr he hq
    have hsk := sk_le (t := t) hp
    have hge := sk_ge (t := t) (tl := tl) (p := p)
    apply hx
    unfold bd_X10_town_31
    refine ⟨fun _ => ?_, fun z => absurd rfl z⟩
    refine sp_hereR (t := t) (p := p) (by omega) htl h1 h2 h3 (fun M0 m1 m2 m3 => ?_)
    by_cases en : tl ≤ sk t tl p
    · rw [prs_end _ en] at hq
      rw [show lt t tl (sk t tl p) = -1 from if_neg (by omega)]
      refine ⟨fun _ M1 e1 => ⟨fun _ => ?_, fun z => absurd ch15 z⟩, fun z => absurd m1_lt z⟩
      obtain ⟨r1, r2, r3, r4, r5⟩ := hr
      have f2 : ∀ a, a ≠ 211 → M1 a = M a := fun a ha => by rw [e1, up_o ha, m3 a ha]
      refine hq rfl M1 ⟨?_, ?_, ?_, ?_, fun c hc => ?_⟩ ?_ (fun k hk => ?_) (fun a a1 a2 => f2 a a1)
      · rw [f2 216 (by decide), r1]
      · rw [f2 216 (by decide), r2]
      · rw [e1, up_sn (by decide), m2 9 (by decide), r3]
      · rw [e1, up_sn (by decide), m2 14 (by decide), r4]
      · rw [f2 217 (by decide), f2 218 (by decide), f2 219 (by decide), f2 220 (by decide)]
        exact r5 c hc
      · rw [e1, up_ss]
      · rw [e1, up_sn (by omega), m2 k (by omega)]
    · rw [show lt t tl (sk t tl p) = t (sk t tl p) from if_pos (by omega)]
      refine ⟨fun z => absurd z (ht _ (by omega)), fun _ => ?_⟩
      refine sp_takeClause (t := t) (q := sk t tl p) (n := n) (nc := nc) (od := od) (g := g) (ld := ld) hw (by omega) (sk_sk _ p rfl) htl ((m2 8 (by decide)).trans h1) m1 (fun i hi => by rw [m3 215 (by decide)]; exact h3 i hi) (RP_c m2 m3 hr) (fun b M1 g1 g2 g3 => ?_) (fun b M1 g1 g2 g3 g4 => ?_)
      · rw [prs_bad _ en b] at he
        apply hx
        unfold bd_X10_town_31
        refine ⟨fun z => absurd z (ccd_nz b), fun _ M2 e2 => ⟨fun z => ?_, fun _ => ?_⟩⟩
        · have z' := (leN (b := 0) (by have := ccd_le (t := t) (tl := tl) (nc := nc) (n := n) (ld := ld) (q := sk t tl p); omega) (by decide)).mp z
          exact absurd (Nat.le_zero.mp z') b
        · refine he b M2 ?_ ?_ (fun k hk => ?_) (fun a a1 a2 => ?_)
          · rw [e2, up_sn (by decide), g1]
          · rw [e2, up_ss]
          · rw [e2, up_sn (by omega), g2 k (by omega), m2 k (by omega)]
          · rw [e2, up_o a1, g3 a a1 a2, m3 a a1]
      · obtain ⟨w1, w2, w3⟩ := PW_next hw (show sk t tl p < tl by omega) htl b
        rw [prs_next _ en b] at he hq
        refine ih _ _ _ _ _ _ M1 w1 w3 (by omega) ?_ (fun i hi => ?_) g2 g1 (fun c M3 q1 q2 q3 q4 => ?_) (fun c M3 q1 q2 q3 q4 => ?_)
        · rw [g3 8 (by omega), m2 8 (by decide), h1]
        · rw [g4 215 (by decide) (by decide), m3 215 (by decide)]
          exact h3 i hi
        · exact he c M3 q1 q2 (fun k hk => by rw [q3 k hk, g3 k (by omega), m2 k (by omega)]) (fun a a1 a2 => by rw [q4 a a1 a2, g4 a a1 a2, m3 a a1])
        · exact hq c M3 q1 q2 (fun k hk => by rw [q3 k hk, g3 k (by omega), m2 k (by omega)]) (fun a a1 a2 => by rw [q4 a a1 a2, g4 a a1 a2, m3 a a1])
theorem sp_takeRead {Q : Mem → Prop} {n : Nat} {M : Mem} (hn : n ≤ 8) (h14 : M 211 14 = nI n)
    (hq : ∀ M', M' 211 0 = M 216 0 → M' 211 1 = M 216 1 → M' 211 2 = nI n → (∀ c, c < 8 → M' 214 c = if c < n then M 217 c else 0) → (∀ c, c < 8 → M' 214 (8 + c) = if c < n then M 220 c else -1) → (∀ j, 16 ≤ j → j ≤ 40 → M' 214 j = 0) → (∀ c, c < 8 → M' 213 c = M 219 c) → (∀ k, k < 48 → M' 212 k = M 218 k) → (∀ k, 3 ≤ k → M' 211 k = M 211 k) → (∀ a, a < 211 ∨ 214 < a → M' a = M a) → Q M') : wp_X10_takeRead Q M := by
  intro X30 X51 X128 hx30 hx51 hx128
  unfold bd_X10_takeRead
  have v0 : vp_in (0 : Int32) 2 := inb (i := 0) (by decide) (by decide)
  have v1 : vp_in (1 : Int32) 2 := inb (i := 1) (by decide) (by decide)
  refine ⟨v0, fun Ma ea => ⟨v1, fun Mb eb Mc ec => ?_⟩⟩
  have c0 : Mc 211 0 = M 216 0 := by
    rw [ec, up_sn (by decide), eb, up_sn (by decide), ea, up_ss]
    rfl
  have c1 : Mc 211 1 = M 216 1 := by
    rw [ec, up_sn (by decide), eb, up_ss, ea, up_o (by decide)]
    rfl
  have c2 : Mc 211 2 = nI n := by rw [ec, up_ss, eb, up_sn (by decide), ea, up_sn (by decide), h14]
  have c3 : ∀ k, 3 ≤ k → Mc 211 k = M 211 k := fun k hk => by rw [ec, up_sn (by omega), eb, up_sn (by omega), ea, up_sn (by omega)]
  have co : ∀ a, a ≠ 211 → Mc a = M a := fun a ha => by rw [ec, up_o ha, eb, up_o ha, ea, up_o ha]
  have l3 : ∀ M', (∀ c, c < 8 → M' 214 c = if c < n then M 217 c else 0) → (∀ c, c < 8 → M' 214 (8 + c) = if c < n then M 220 c else -1) → (∀ j, 16 ≤ j → j ≤ 40 → M' 214 j = 0) → (∀ c, c < 8 → M' 213 c = M 219 c) → (∀ a, a ≠ 212 → a ≠ 213 → a ≠ 214 → M' a = Mc a) → X128 (nI 0) M' := by
    intro M0 a1 a2 a3 a4 a5
    have key : ∀ M', (∀ k, k < 0 → M' 212 k = M 218 k) → (∀ a, a ≠ 212 → M' a = M0 a) → X128 (nI 0) M' := by
      refine upto (P := fun j => ∀ M', (∀ k, k < j → M' 212 k = M 218 k) → (∀ a, a ≠ 212 → M' a = M0 a) → X128 (nI j) M') (n := 48) ?_ ?_
      · intro M' b1 b2
        apply hx128
        unfold bd_X10_takeRead_128
        refine ⟨fun _ => ?_, fun z => absurd ((leN (a := 48) (b := 48) (by omega) (by omega)).mpr (Nat.le_refl 48)) z⟩
        refine hq M' ?_ ?_ ?_ (fun c hc => ?_) (fun c hc => ?_) (fun j j1 j2 => ?_) (fun c hc => ?_) b1 (fun k hk => ?_) (fun a ha => ?_)
        · rw [b2 211 (by decide), a5 211 (by decide) (by decide) (by decide), c0]
        · rw [b2 211 (by decide), a5 211 (by decide) (by decide) (by decide), c1]
        · rw [b2 211 (by decide), a5 211 (by decide) (by decide) (by decide), c2]
        · rw [b2 214 (by decide), a1 c hc]
        · rw [b2 214 (by decide), a2 c hc]
        · rw [b2 214 (by decide), a3 j j1 j2]
        · rw [b2 213 (by decide), a4 c hc]
        · rw [b2 211 (by decide), a5 211 (by decide) (by decide) (by decide), c3 k hk]
        · rw [b2 a (by omega), a5 a (by omega) (by omega) (by omega), co a (by omega)]
      · intro j hj ih M' b1 b2
        apply hx128
        unfold bd_X10_takeRead_128
        rw [cl (show j < 1000000 by omega), nI_1]
        refine ⟨fun z => absurd ((leN (a := 48) (b := j) (by omega) (by omega)).mp z) (by omega), fun _ => ⟨inb hj (by decide), inb hj (by decide), fun M3 e3 => ?_⟩⟩
        refine ih M3 (fun k hk => ?_) (fun a ha => ?_)
        · by_cases x : k = j
          · rw [e3, x, up_ss, b2 218 (by decide), a5 218 (by decide) (by decide) (by decide), co 218 (by decide)]
          · rw [e3, up_sn x]
            exact b1 k (by omega)
        · rw [e3, up_o ha, b2 a ha]
    exact key M0 (fun k hk => absurd hk (by omega)) (fun _ _ => rfl)
  have l2 : ∀ M', (∀ j, 16 ≤ j → j ≤ 40 → M' 214 j = 0) → (∀ a, a ≠ 214 → M' a = Mc a) → X51 (nI 0) M' := by
    intro M0 a3 a5
    have key : ∀ M', (∀ c, c < 0 → (M' 214 c = if c < n then M 217 c else 0) ∧ (M' 214 (8 + c) = if c < n then M 220 c else -1) ∧ M' 213 c = M 219 c) → (∀ j, 16 ≤ j → j ≤ 40 → M' 214 j = 0) → (∀ a, a ≠ 213 → a ≠ 214 → M' a = M0 a) → X51 (nI 0) M' := by
      refine upto (P := fun i => ∀ M', (∀ c, c < i → (M' 214 c = if c < n then M 217 c else 0) ∧ (M' 214 (8 + c) = if c < n then M 220 c else -1) ∧ M' 213 c = M 219 c) → (∀ j, 16 ≤ j → j ≤ 40 → M' 214 j = 0) → (∀ a, a ≠ 213 → a ≠ 214 → M' a = M0 a) → X51 (nI i) M') (n := 8) ?_ ?_
      · intro M' b1 b2 b3
        apply hx51
        unfold bd_X10_takeRead_51
        refine ⟨fun _ => ?_, fun z => absurd ((leN (a := 8) (b := 8) (by omega) (by omega)).mpr (Nat.le_refl 8)) z⟩
        exact l3 M' (fun c hc => (b1 c hc).1) (fun c hc => (b1 c hc).2.1) b2 (fun c hc => (b1 c hc).2.2) (fun a d1 d2 d3 => by rw [b3 a d2 d3, a5 a d3])
      · intro j hj ih M' b1 b2 b3
        have n2 : M' 211 2 = nI n := by rw [b3 211 (by decide) (by decide), a5 211 (by decide), c2]
        have o : ∀ a, a ≠ 211 → a ≠ 213 → a ≠ 214 → M' a = M a := fun a d1 d2 d3 => by rw [b3 a d2 d3, a5 a d3, co a d1]
        have le : nI n ≤ nI j ↔ n ≤ j := leN (by omega) (by omega)
        apply hx51
        unfold bd_X10_takeRead_51
        rw [cl (show j < 1000000 by omega), nI_1, show (8 : Int32) = nI 8 from rfl, nI_add, cl (show 8 + j < 1000000 by omega), n2]
        refine ⟨fun z => absurd ((leN (a := 8) (b := j) (by omega) (by omega)).mp z) (by omega), fun _ => ⟨fun _ => trivial, fun _ => ⟨inb hj (by decide), trivial⟩, inb (by omega) (by decide), fun M3 e3 => ?_⟩⟩
        have n3 : M3 211 2 = nI n := by rw [e3, up_o (by decide), n2]
        rw [n3]
        refine ⟨fun _ => trivial, fun _ => ⟨inb hj (by decide), trivial⟩, inb (by omega) (by decide), fun M6 e6 => ⟨inb hj (by decide), inb hj (by decide), fun M9 e9 => ?_⟩⟩
        refine ih M9 (fun c hc => ?_) (fun i i1 i2 => ?_) (fun a d1 d2 => ?_)
        · by_cases x : c = j
          · subst x
            refine ⟨?_, ?_, ?_⟩
            · rw [e9, up_o (by decide), e6, up_sn (by omega), e3, up_ss, o 217 (by decide) (by decide) (by decide)]
              by_cases y : c < n
              · rw [if_neg (fun z => absurd (le.mp z) (by omega)), if_pos y]
              · rw [if_pos (le.mpr (by omega)), if_neg y]
            · rw [e9, up_o (by decide), e6, up_ss, e3, up_o (by decide), o 220 (by decide) (by decide) (by decide)]
              by_cases y : c < n
              · rw [if_neg (fun z => absurd (le.mp z) (by omega)), if_pos y]
              · rw [if_pos (le.mpr (by omega)), if_neg y]
            · rw [e9, up_ss, e6, up_o (by decide), e3, up_o (by decide), o 219 (by decide) (by decide) (by decide)]
          · obtain ⟨g1, g2, g3⟩ := b1 c (by omega)
            refine ⟨?_, ?_, ?_⟩
            · rw [e9, up_o (by decide), e6, up_sn (by omega), e3, up_sn x, g1]
            · rw [e9, up_o (by decide), e6, up_sn (by omega), e3, up_sn (by omega), g2]
            · rw [e9, up_sn x, e6, up_o (by decide), e3, up_o (by decide), g3]
        · rw [e9, up_o (by decide), e6, up_sn (by omega), e3, up_sn (by omega), b2 i i1 i2]
        · rw [e9, up_o d1, e6, up_o d2, e3, up_o d2, b3 a d1 d2]
    exact key M0 (fun k hk => absurd hk (by omega)) a3 (fun _ _ _ => rfl)
  have key : ∀ M', (∀ k, k < 0 → M' 214 k = 0) → (∀ a, a ≠ 214 → M' a = Mc a) → X30 (nI 0) M' := by
    refine upto (P := fun j => ∀ M', (∀ k, k < j → M' 214 k = 0) → (∀ a, a ≠ 214 → M' a = Mc a) → X30 (nI j) M') (n := 41) ?_ ?_
    · intro M' b1 b2
      apply hx30
      unfold bd_X10_takeRead_30
      exact ⟨fun _ => l2 M' (fun j _ j2 => b1 j (by omega)) b2, fun z => absurd ((leN (a := 41) (b := 41) (by omega) (by omega)).mpr (Nat.le_refl 41)) z⟩
    · intro j hj ih M' b1 b2
      apply hx30
      unfold bd_X10_takeRead_30
      rw [cl (show j < 1000000 by omega), nI_1]
      refine ⟨fun z => absurd ((leN (a := 41) (b := j) (by omega) (by omega)).mp z) (by omega), fun _ => ⟨inb hj (by decide), fun M3 e3 => ?_⟩⟩
      refine ih M3 (fun k hk => ?_) (fun a ha => ?_)
      · by_cases x : k = j
        · rw [e3, x, up_ss]
        · rw [e3, up_sn x]
          exact b1 k (by omega)
      · rw [e3, up_o ha, b2 a ha]
  exact key Mc (fun k hk => absurd hk (by omega)) (fun _ _ => rfl)
