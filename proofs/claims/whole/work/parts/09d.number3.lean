theorem sp_fails {Q : Int32 → Mem → Prop} {a1 a2 : Int32} {M : Mem} (hq : ∀ M', M' 211 9 = a2 → (∀ k, k ≠ 9 → M' 211 k = M 211 k) → (∀ a, a ≠ 211 → M' a = M a) → Q a1 M') : wp_X10_fails Q a1 a2 M := by
  unfold wp_X10_fails bd_X10_fails
  intro M1 e1
  exact hq M1 (by rw [e1, up_ss]) (fun k hk => by rw [e1, up_sn hk]) (fun a ha => by rw [e1, up_o ha])
theorem sp_takeNumber {Q : Int32 → Mem → Prop} {a1 a2 : Int32} {p tl : Nat} {t : Nat → Int32} {M : Mem} (hp : p ≤ tl) (htl : tl ≤ 240) (h1 : M 211 8 = nI tl) (h2 : M 211 10 = nI p) (h3 : ∀ i, i < tl → M 215 i = t i)
    (he : pnc t tl a1 a2 p ≠ 0 → ∀ M', M' 211 9 = nI (sk t tl p) → (∀ k, k < 9 ∨ 12 < k → M' 211 k = M 211 k) → (∀ a, a ≠ 211 → M' a = M a) → Q (nI (pnc t tl a1 a2 p)) M')
    (hq : pnc t tl a1 a2 p = 0 → ∀ M', M' 211 9 = M 211 9 → M' 211 10 = nI (fe t tl (sk t tl p)) → M' 211 11 = nI (vlf t (sk t tl p) (fe t tl (sk t tl p) - sk t tl p)) → M' 211 12 = nI (sk t tl p) → (∀ k, k < 9 ∨ 12 < k → M' 211 k = M 211 k) → (∀ a, a ≠ 211 → M' a = M a) → Q 0 M') : wp_X10_takeNumber Q a1 a2 M := by
  intro X42 hx
  unfold bd_X10_takeNumber
  refine sp_hereR (t := t) (by omega) htl h1 h2 h3 (fun M1 g1 g2 g3 => ?_)
  have hs := sk_le (t := t) hp
  unfold pnc at he hq
  generalize sk t tl p = s at g1 hs he hq
  have lf : fgl t tl s = true ↔ (nI 48 ≤ lt t tl s ∧ lt t tl s ≤ nI 57) := by
    unfold fgl lt
    by_cases y : s < tl
    · rw [if_pos y, decide_eq_true_iff]
      exact ⟨fun z => z.2, fun z => ⟨y, z⟩⟩
    · rw [if_neg y, decide_eq_true_iff]
      exact ⟨fun z => absurd z.1 y, fun z => absurd z.1 (by decide)⟩
  refine sp_in (lo := nI 48) (hi := nI 57) rfl rfl (fun y => ⟨fun z => absurd z (by decide), fun _ => ?_⟩) (fun y => ⟨fun _ => ?_, fun z => absurd rfl z⟩)
  · rw [if_pos (lf.mpr y)] at he hq
    intro M3 e3 M4 e4
    rw [g1] at e3
    have one : ∀ k M', s + k ≤ tl → (∀ j, j < k → fgl t tl (s + j) = true) → (k ≤ 6 → M' 211 11 = nI (vlf t s k)) → M' 211 10 = nI (s + k) → M' 211 12 = nI s → M' 211 9 = M 211 9 → (∀ k, k < 9 ∨ 12 < k → M' 211 k = M 211 k) → (∀ a, a ≠ 211 → M' a = M a) → fgl t tl (s + k) = false → X42 M' := by
      intro k M' b1 b2 b3 b4 b5 b6 b8 b9 w
      have ef : fe t tl s = s + k := (fe_run k b2).trans (fe_no w)
      rw [ef, show s + k - s = k by omega] at he hq
      have bl : (if 6 < k then 2 else if a1 ≤ nI (vlf t s k) ∧ nI (vlf t s k) ≤ a2 then 0 else 2) = 2 → wp_X10_fails (fun r1 M1 => Q r1 M1) 2 (nI s) M' := by
        intro en
        rw [en] at he
        exact sp_fails (fun M4 c1 c3 c4 => he (by decide) M4 c1 (fun k hk => by rw [c3 k (by omega), b8 k hk]) (fun a ha => by rw [c4 a ha, b9 a ha]))
      have fin : (6 < M' 211 10 - M' 211 12 → wp_X10_fails (fun r1 M1 => Q r1 M1) 2 (M' 211 12) M') ∧ (¬ 6 < M' 211 10 - M' 211 12 → wp_X10_in (fun r2 M2 => (r2 = 0 → wp_X10_fails (fun r3 M3 => Q r3 M3) 2 (M2 211 12) M2) ∧ (¬ r2 = 0 → Q 0 M2)) (M' 211 11).toInt64 a1.toInt64 a2.toInt64 M') := by
        rw [b4, b5, pk_sub (by omega), show s + k - s = k by omega, show (6 : Int32) = nI 6 from rfl, ltN (by omega) (by omega)]
        refine ⟨fun z => bl (if_pos z), fun z => ?_⟩
        refine sp_in (lo := a1) (hi := a2) rfl rfl (fun v => ⟨fun z => absurd z (by decide), fun _ => ?_⟩) (fun v => ⟨fun _ => ?_, fun z => absurd rfl z⟩)
        · rw [b3 (by omega)] at v
          rw [if_neg z, if_pos v] at hq
          exact hq rfl M' b6 b4 (b3 (by omega)) b5 b8 b9
        · rw [b3 (by omega)] at v
          rw [b5]
          exact bl (by rw [if_neg z, if_neg v])
      apply hx
      unfold bd_X10_takeNumber_42
      refine ⟨fun _ => fin, fun z => ?_⟩
      rw [b8 8 (by omega), h1, b4, leN (by omega) (by omega)] at z
      rw [b4, cl (show s + k < 1000000 by omega), b9 215 (by decide), h3 (s + k) (by omega), ← b4]
      refine ⟨by rw [b4]; exact inb (by omega) (by omega), ?_⟩
      exact sp_in (lo := nI 48) (hi := nI 57) rfl rfl (fun v => absurd (decide_eq_true (show s + k < tl ∧ nI 48 ≤ t (s + k) ∧ t (s + k) ≤ nI 57 from ⟨by omega, v⟩)) (fun v => by
        unfold fgl at w
        rw [v] at w
        cases w)) (fun _ => ⟨fun _ => fin, fun z => absurd rfl z⟩)
    have key : ∀ m k M', tl - (s + k) = m → s + k ≤ tl → (∀ j, j < k → fgl t tl (s + j) = true) → (k ≤ 6 → M' 211 11 = nI (vlf t s k)) → M' 211 10 = nI (s + k) → M' 211 12 = nI s → M' 211 9 = M 211 9 → (∀ k, k < 9 ∨ 12 < k → M' 211 k = M 211 k) → (∀ a, a ≠ 211 → M' a = M a) → X42 M' := by
      intro m
      induction m with
      | zero =>
        intro k M' em b1 b2 b3 b4 b5 b6 b8 b9
        exact one k M' b1 b2 b3 b4 b5 b6 b8 b9 (decide_eq_false (fun w => absurd w.1 (by omega)))
      | succ m ih =>
        intro k M' em b1 b2 b3 b4 b5 b6 b8 b9
        cases w : fgl t tl (s + k)
        · exact one k M' b1 b2 b3 b4 b5 b6 b8 b9 w
        · have w3 := (of_decide_eq_true w).2
          apply hx
          unfold bd_X10_takeNumber_42
          rw [b8 8 (by omega), h1, b4, leN (by omega) (by omega), cl (show s + k < 1000000 by omega), b9 215 (by decide), h3 (s + k) (by omega)]
          refine ⟨fun z => absurd z (by omega), fun _ => ⟨inb (by omega) (by omega), ?_⟩⟩
          refine sp_in (lo := nI 48) (hi := nI 57) rfl rfl (fun _ => ⟨fun z => absurd z (by decide), fun _ => ⟨fun _ => ⟨?_, trivial⟩, fun _ => trivial, fun M10 e10 M11 e11 => ?_⟩⟩) (fun z => absurd w3 z)
          · rw [b4]
            exact inb (by omega) (by omega)
          · have b2' : ∀ j, j < k + 1 → fgl t tl (s + j) = true := fun j hj => by
              by_cases x : j = k
              · rw [x]
                exact w
              · exact b2 j (by omega)
            have c1 : M10 211 10 = nI (s + k) := by rw [e10, up_sn (by decide), b4]
            rw [c1, nI_1] at e11
            refine ih (k + 1) M11 (by omega) (by omega) b2' (fun hk => ?_) ?_ ?_ ?_ (fun j hj => ?_) (fun a ha => ?_)
            · obtain ⟨d, d1, d2, d3⟩ := fgl_val w
              have v6 := vlf_6 hk b2'
              have v5 := vlf_6 (k := k) (by omega) b2
              have ev : vlf t s (k + 1) = 10 * vlf t s k + d - 48 := by
                show vlf t s k * 10 + ((t (s + k)).toNatClampNeg - 48) = _
                rw [d3, cl (by omega)]
                omega
              have le : nI (vlf t s k) ≤ (10000000 : Int32) := by
                rw [leI, show (10000000 : Int32).toInt = 10000000 from by decide, nI_toInt (by omega)]
                omega
              rw [e11, up_sn (by decide), e10, up_ss, b3 (by omega), if_pos le, b4, cl (show s + k < 1000000 by omega), b9 215 (by decide), h3 (s + k) (by omega), d3, show (10 : Int32) = nI 10 from rfl, show (48 : Int32) = nI 48 from rfl, pk_mul, nI_add, pk_sub (by omega), ev]
            · rw [e11, up_ss]
              rfl
            · rw [e11, up_sn (by decide), e10, up_sn (by decide), b5]
            · rw [e11, up_sn (by decide), e10, up_sn (by decide), b6]
            · rw [e11, up_sn (by omega), e10, up_sn (by omega), b8 j hj]
            · rw [e11, up_o ha, e10, up_o ha, b9 a ha]
    refine key (tl - (s + 0)) 0 M4 rfl hs (fun j hj => absurd hj (by omega)) (fun _ => ?_) ?_ ?_ ?_ (fun k hk => ?_) (fun a ha => ?_)
    · rw [e4, up_ss]
      rfl
    · rw [e4, up_sn (by decide), e3, up_sn (by decide), g1]
      rfl
    · rw [e4, up_sn (by decide), e3, up_ss]
    · rw [e4, up_sn (by decide), e3, up_sn (by decide), g2 9 (by decide)]
    · rw [e4, up_sn (by omega), e3, up_sn (by omega), g2 k (by omega)]
    · rw [e4, up_o ha, e3, up_o ha, g3 a ha]
  · rw [if_neg (fun z => y (lf.mp z))] at he
    rw [g1]
    exact sp_fails (fun M4 c1 c3 c4 => he (by decide) M4 c1 (fun k hk => by rw [c3 k (by omega), g2 k (by omega)]) (fun a ha => by rw [c4 a ha, g3 a ha]))
