theorem fe_run {t : Nat → Int32} {tl s : Nat} : ∀ k, (∀ j, j < k → fgl t tl (s + j) = true) → fe t tl s = fe t tl (s + k)
  | 0, _ => rfl
  | k + 1, h => by
    rw [fe_run k (fun j hj => h j (by omega)), fe_yes (h k (by omega))]
    rfl
theorem vlf_6 {t : Nat → Int32} {tl s k : Nat} (hk : k ≤ 6) (h : ∀ j, j < k → fgl t tl (s + j) = true) : vlf t s k < 1000000 :=
  Nat.lt_of_lt_of_le (vlf_lt k h) (Nat.pow_le_pow_right (by decide) hk)
theorem sp_readNumber {Q : Int32 → Mem → Prop} {a1 a2 : Int32} {p tl : Nat} {t : Nat → Int32} {M : Mem} (hp : p ≤ tl) (htl : tl ≤ 240) (h1 : M 1 1 = nI tl) (h2 : M 3 6 = nI p) (h3 : ∀ i, i < tl → M 2 i = t i) (h0 : M 3 3 = 0)
    (he : pnc t tl a1 a2 p ≠ 0 → ∀ M', M' 3 3 = nI (pnc t tl a1 a2 p) → M' 3 4 = nI (sk t tl p) → (∀ k, k < 3 ∨ 7 < k ∨ k = 5 → M' 3 k = M 3 k) → (∀ a, a ≠ 3 → M' a = M a) → Q (-1) M')
    (hq : pnc t tl a1 a2 p = 0 → ∀ M', M' 3 3 = 0 → M' 3 4 = M 3 4 → M' 3 6 = nI (fe t tl (sk t tl p)) → M' 3 7 = nI (sk t tl p) → (∀ k, k < 3 ∨ 7 < k ∨ k = 5 → M' 3 k = M 3 k) → (∀ a, a ≠ 3 → M' a = M a) → Q (nI (vlf t (sk t tl p) (fe t tl (sk t tl p) - sk t tl p))) M') : wp_X6_readNumber Q a1 a2 M := by
  intro X44 hx
  unfold bd_X6_readNumber
  refine ⟨fun _ => ?_, fun z => absurd h0 z⟩
  refine sp_skipBlanks (t := t) (by omega) htl h1 h2 h3 (fun M1 g1 g2 g3 => ?_)
  have hs := sk_le (t := t) hp
  unfold pnc at he hq
  generalize sk t tl p = s at g1 hs he hq
  refine sp_isFigure (t := t) (p := s) (by omega) htl ((congrFun (g3 1 (by decide)) 1).trans h1) g1 (fun i hi => by rw [g3 2 (by decide)]; exact h3 i hi) (fun y => ⟨fun z => absurd z (by decide), fun _ => ?_⟩) (fun y => ⟨fun _ => ?_, fun z => absurd rfl z⟩)
  · rw [if_pos y] at he hq
    intro M3 e3
    rw [g1] at e3
    have one : ∀ k x3 M', s + k ≤ tl → (∀ j, j < k → fgl t tl (s + j) = true) → (k ≤ 6 → x3 = nI (vlf t s k)) → M' 3 6 = nI (s + k) → M' 3 7 = nI s → M' 3 3 = 0 → M' 3 4 = M 3 4 → (∀ k, k < 3 ∨ 7 < k ∨ k = 5 → M' 3 k = M 3 k) → (∀ a, a ≠ 3 → M' a = M a) → fgl t tl (s + k) = false → X44 x3 (nI k) M' := by
      intro k x3 M' b1 b2 b3 b4 b5 b6 b7 b8 b9 w
      have ef : fe t tl s = s + k := (fe_run k b2).trans (fe_no w)
      rw [ef, show s + k - s = k by omega] at he hq
      have bl : ∀ n : Nat, n ≠ 0 → (if 6 < k then 2 else if a1 ≤ nI (vlf t s k) ∧ nI (vlf t s k) ≤ a2 then 0 else 2) = n → wp_X6_blame (fun M1 => Q (-1) M1) (nI n) (nI s) M' := by
        intro n hn en
        rw [en] at he
        exact sp_blame b6 (fun M4 c1 c2 c3 c4 => he hn M4 c1 c2 (fun k hk => by rw [c3 k (by omega) (by omega), b8 k hk]) (fun a ha => by rw [c4 a ha, b9 a ha]))
      have fin : (6 < M' 3 6 - M' 3 7 → wp_X6_blame (fun M1 => Q (-1) M1) 2 (M' 3 7) M') ∧ (¬ 6 < M' 3 6 - M' 3 7 → (x3 < a1 → wp_X6_blame (fun M1 => Q (-1) M1) 2 (M' 3 7) M') ∧ (¬ x3 < a1 → (x3 ≤ a2 → Q x3 M') ∧ (¬ x3 ≤ a2 → wp_X6_blame (fun M1 => Q (-1) M1) 2 (M' 3 7) M'))) := by
        rw [b4, b5, pk_sub (by omega), show s + k - s = k by omega, show (6 : Int32) = nI 6 from rfl, ltN (by omega) (by omega)]
        refine ⟨fun z => bl 2 (by decide) (if_pos z), fun z => ?_⟩
        rw [b3 (by omega)]
        refine ⟨fun x => bl 2 (by decide) ?_, fun x => ⟨fun v => ?_, fun v => bl 2 (by decide) ?_⟩⟩
        · rw [if_neg z, if_neg (fun r => absurd x (nlt.mpr r.1))]
        · rw [if_neg z, if_pos ⟨nlt.mp x, v⟩] at hq
          exact hq rfl M' b6 b7 b4 b5 b8 b9
        · rw [if_neg z, if_neg (fun r => absurd r.2 v)]
      apply hx
      unfold bd_X6_readNumber_44
      refine ⟨fun _ => fin, fun _ => ?_⟩
      exact sp_isFigure (t := t) (p := s + k) (by omega) htl ((congrFun (b9 1 (by decide)) 1).trans h1) b4 (fun i hi => by rw [b9 2 (by decide)]; exact h3 i hi) (fun z => by rw [w] at z; cases z) (fun _ => ⟨fun _ => fin, fun z => absurd rfl z⟩)
    have key : ∀ m k x3 M', tl - (s + k) = m → s + k ≤ tl → (∀ j, j < k → fgl t tl (s + j) = true) → (k ≤ 6 → x3 = nI (vlf t s k)) → M' 3 6 = nI (s + k) → M' 3 7 = nI s → M' 3 3 = 0 → M' 3 4 = M 3 4 → (∀ k, k < 3 ∨ 7 < k ∨ k = 5 → M' 3 k = M 3 k) → (∀ a, a ≠ 3 → M' a = M a) → X44 x3 (nI k) M' := by
      intro m
      induction m with
      | zero =>
        intro k x3 M' em b1 b2 b3 b4 b5 b6 b7 b8 b9
        exact one k x3 M' b1 b2 b3 b4 b5 b6 b7 b8 b9 (decide_eq_false (fun w => absurd w.1 (by omega)))
      | succ m ih =>
        intro k x3 M' em b1 b2 b3 b4 b5 b6 b7 b8 b9
        cases w : fgl t tl (s + k)
        · exact one k x3 M' b1 b2 b3 b4 b5 b6 b7 b8 b9 w
        · apply hx
          unfold bd_X6_readNumber_44
          have r1 : M' 1 1 = nI tl := (congrFun (b9 1 (by decide)) 1).trans h1
          have r2 : ∀ i, i < tl → M' 2 i = t i := fun i hi => by rw [b9 2 (by decide)]; exact h3 i hi
          refine ⟨fun z => absurd ((leN (a := 240) (b := k) (by omega) (by omega)).mp z) (by omega), fun _ => ?_⟩
          refine sp_isFigure (t := t) (p := s + k) (by omega) htl r1 b4 r2 (fun _ => ⟨fun z => absurd z (by decide), fun _ => ?_⟩) (fun z => by rw [w] at z; cases z)
          refine sp_letter (t := t) (p := s + k) (by omega) htl r1 b4 r2 (fun M9 e9 => ?_)
          rw [b4, nI_1] at e9
          rw [nI_1 k]
          have b2' : ∀ j, j < k + 1 → fgl t tl (s + j) = true := fun j hj => by
            by_cases x : j = k
            · rw [x]
              exact w
            · exact b2 j (by omega)
          refine ih (k + 1) _ M9 (by omega) (by omega) b2' (fun hk => ?_) ?_ ?_ ?_ ?_ (fun j hj => ?_) (fun a ha => ?_)
          · obtain ⟨d, d1, d2, d3⟩ := fgl_val w
            have v6 := vlf_6 hk b2'
            have ev : vlf t s (k + 1) = vlf t s k * 10 + d - 48 := by
              show vlf t s k * 10 + ((t (s + k)).toNatClampNeg - 48) = _
              rw [d3, cl (by omega)]
              omega
            have ex : x3 * 10 + lt t tl (s + k) - 48 = nI (vlf t s (k + 1)) := by
              unfold lt
              rw [if_pos (by omega), b3 (by omega), d3, show (10 : Int32) = nI 10 from rfl, show (48 : Int32) = nI 48 from rfl, pk_mul, nI_add, pk_sub (by omega), ev]
            rw [ex, if_neg]
            intro z
            rw [ltI, show (1000000 : Int32).toInt = 1000000 from by decide, nI_toInt (by omega)] at z
            omega
          · rw [e9, up_ss]
            rfl
          · rw [e9, up_sn (by decide), b5]
          · rw [e9, up_sn (by decide), b6]
          · rw [e9, up_sn (by decide), b7]
          · rw [e9, up_sn (by omega), b8 j hj]
          · rw [e9, up_o ha, b9 a ha]
    refine key (tl - (s + 0)) 0 0 M3 rfl hs (fun j hj => absurd hj (by omega)) (fun _ => rfl) ?_ ?_ ?_ ?_ (fun k hk => ?_) (fun a ha => ?_)
    · rw [e3, up_sn (by decide), g1]
      rfl
    · rw [e3, up_ss]
    · rw [e3, up_sn (by decide), g2 3 (by decide), h0]
    · rw [e3, up_sn (by decide), g2 4 (by decide)]
    · rw [e3, up_sn (by omega), g2 k (by omega)]
    · rw [e3, up_o ha, g3 a ha]
  · rw [if_neg (by rw [y]; decide)] at he
    rw [g1]
    exact sp_blame ((g2 3 (by decide)).trans h0) (fun M4 c1 c2 c3 c4 => he (by decide) M4 c1 c2 (fun k hk => by rw [c3 k (by omega) (by omega), g2 k (by omega)]) (fun a ha => by rw [c4 a ha, g3 a ha]))
