theorem WF_pH {n u : Nat} {R L f : Nat → Int32} {hs : Nat → Nat → Int32} (hw : WF n R L f) (h : ∀ j, j < u → WF n R L (hs j)) : ∀ j, j < pU u → WF n R L (pH u hs f j) := by
  intro j hj
  unfold pU at hj
  unfold pH
  by_cases z : u < 20
  · rw [if_pos z] at hj
    rw [if_pos z]
    by_cases y : j < u
    · rw [if_pos y]
      exact h j y
    · rw [if_neg y]
      exact hw
  · rw [if_neg z] at hj
    rw [if_neg z]
    by_cases y : j < 19
    · rw [if_pos y]
      exact h (j + 1) (by omega)
    · rw [if_neg y]
      exact hw
/-- the relation after something was done -/
theorem Inv_act {n u : Nat} {R L f f' : Nat → Int32} {hs : Nat → Nat → Int32} {M M' : Mem} (q3 : Im n R L M) (q4 : Si n M) (q5 : Bk n M) (q6 : Dw M') (q7 : Tx M) (q8 : Tn M) (q9 : Fl M) (hw : WF n R L f) (hc3 : ∀ j, j < u → WF n R L (hs j)) (g1 : CH n R L (pU u) (pH u hs f) M') (p1 : RH (pU u) (pH u hs f) M') (nw : Nw n R L f' M') (ho : ∀ a, (a < 11 ∨ 17 < a) → (a < 25 ∨ 166 < a) → a ≠ 210 → a ≠ 211 → a ≠ 214 → a ≠ 221 → a ≠ 222 → M' a = M a) (h1 : ∀ k, k ≠ 6 → k ≠ 20 → M' 211 k = M 211 k) : Inv M' :=
  ⟨n, R, L, f', nw, ⟨pU u, pH u hs f, g1, p1, WF_pH hw hc3⟩,
    Im_c (fun a b1 b2 => ho a (by omega) (by omega) (by omega) (by omega) (by omega) (by omega) (by omega)) (fun a b1 b2 => ho a (by omega) (by omega) (by omega) (by omega) (by omega) (by omega) (by omega)) q3,
    Si_c (fun a b1 b2 => ho a (by omega) (by omega) (by omega) (by omega) (by omega) (by omega) (by omega)) (h1 _ (by omega) (by omega)) (fun a b1 b2 => ho a (by omega) (by omega) (by omega) (by omega) (by omega) (by omega) (by omega)) q4,
    Bk_c (fun a b1 b2 => ho a (by omega) (by omega) (by omega) (by omega) (by omega) (by omega) (by omega)) (h1 _ (by omega) (by omega)) (fun a b1 b2 => ho a (by omega) (by omega) (by omega) (by omega) (by omega) (by omega) (by omega)) q5,
    q6,
    Tx_c (fun a b1 b2 => ho a (by omega) (by omega) (by omega) (by omega) (by omega) (by omega) (by omega)) (h1 _ (by omega) (by omega)) (ho 215 (by omega) (by omega) (by omega) (by omega) (by omega) (by omega) (by omega)) q7,
    Tn_c (congrFun (ho 0 (by omega) (by omega) (by omega) (by omega) (by omega) (by omega) (by omega)) _) (congrFun (ho 0 (by omega) (by omega) (by omega) (by omega) (by omega) (by omega) (by omega)) _) (h1 _ (by omega) (by omega)) (h1 _ (by omega) (by omega)) q8,
    Fl_c (congrFun (ho 0 (by omega) (by omega) (by omega) (by omega) (by omega) (by omega) (by omega)) _) (h1 _ (by omega) (by omega)) q9⟩
theorem rfA {Q : Int32 → Mem → Prop} {a st : Int32} {nc : Nat} {M : Mem} (c1 : nc ≤ 9) (c3 : M 211 0 = nI nc) (hst : M 214 40 = st) (o : ∀ k, 1 ≤ k → k ≤ 60 → a ≠ nI k) (q : Q (-1000000002) M) : wp_X10_stepsRefused Q a M :=
  sp_refusalR c1 c3 hst (fun _ => q) (fun ⟨k, k1, k2, k3⟩ _ => absurd k3 (o k k1 k2)) (fun ⟨k, k1, k2, k3⟩ _ _ => absurd k3 (o k k1 k2)) (fun k k1 k2 k3 _ _ => absurd k3 (o k k1 k2))
theorem rfB {Q : Int32 → Mem → Prop} {a st : Int32} {nc : Nat} {M : Mem} (c1 : nc ≤ 9) (c3 : M 211 0 = nI nc) (hst : M 214 40 = st) (e : ∃ k, 1 ≤ k ∧ k ≤ 60 ∧ a = nI k) (z : nc = 0) (q : Q (-1000000003) M) : wp_X10_stepsRefused Q a M := by
  obtain ⟨k, k1, k2, k3⟩ := e
  exact sp_refusalR c1 c3 hst (fun v => absurd k3 (v k k1 k2)) (fun _ _ => q) (fun _ nz _ => absurd z nz) (fun _ _ _ _ nz _ => absurd z nz)
theorem rfC {Q : Int32 → Mem → Prop} {a st : Int32} {nc : Nat} {M : Mem} (c1 : nc ≤ 9) (c3 : M 211 0 = nI nc) (hst : M 214 40 = st) (e : ∃ k, 1 ≤ k ∧ k ≤ 60 ∧ a = nI k) (z : nc ≠ 0) (s : ¬ st ≤ 9000) (q : Q (-1000000004) M) : wp_X10_stepsRefused Q a M := by
  obtain ⟨k, k1, k2, k3⟩ := e
  exact sp_refusalR c1 c3 hst (fun v => absurd k3 (v k k1 k2)) (fun _ nz => absurd nz z) (fun _ _ _ => q) (fun _ _ _ _ _ ns => absurd ns s)
theorem rfD {Q : Int32 → Mem → Prop} {a st : Int32} {nc k : Nat} {M : Mem} (c1 : nc ≤ 9) (c3 : M 211 0 = nI nc) (hst : M 214 40 = st) (k1 : 1 ≤ k) (k2 : k ≤ 60) (k3 : a = nI k) (z : nc ≠ 0) (s : st ≤ 9000) (q : Q 0 M) : wp_X10_stepsRefused Q a M :=
  sp_refusalR c1 c3 hst (fun v => absurd k3 (v k k1 k2)) (fun _ nz => absurd nz z) (fun _ _ ns => absurd s ns) (fun _ _ _ _ _ _ => q)
theorem cl_step {P : Int32 → Int32 → Mem → Prop} {a : Int32} {M : Mem} (hi : Inv M) (hp : ∀ r M', Inv M' → P r r M') : wp_X9_step (fun r M1 => wp_X10_step (fun q M2 => P r q M2) a M1) a M := by
  have hi' := hi
  obtain ⟨n, R, L, f, ⟨hw, hs, hn, hR, hL, hf⟩, ⟨u, ht, hc1, hc2, hc3⟩, q3, q4, q5, q6, q7, q8, q9⟩ := hi'
  obtain ⟨nc, c1, c2, c3, c4⟩ := q8
  have hst : M 214 40 = f 40 := by rw [hf]
  unfold wp_X9_step bd_X9_step
  refine sp_refusal c1 c2 hs.2.1 (fun o => ⟨fun z => absurd z (by decide), fun _ => ?_⟩) (fun e z => ⟨fun z => absurd z (by decide), fun _ => ?_⟩) (fun e z s => ⟨fun z => absurd z (by decide), fun _ => ?_⟩) (fun k k1 k2 k3 z s => ⟨fun _ => ?_, fun z => absurd rfl z⟩)
  · intro X18 hx
    exact rfA c1 c3 hst o ⟨fun z => absurd z (by decide), fun _ => hp _ M hi⟩
  · intro X18 hx
    exact rfB c1 c3 hst e z ⟨fun z => absurd z (by decide), fun _ => hp _ M hi⟩
  · intro X18 hx
    exact rfC c1 c3 hst e z s ⟨fun z => absurd z (by decide), fun _ => hp _ M hi⟩
  · rw [k3]
    refine sp_push hw.1 hs hc1 (fun M1 g1 g2 => ?_)
    refine sp_moveTimes (by omega) hw (SR_c (fun a b1 b2 => g2 a (by omega)) hs) (fun M2 m1 m2 => ?_)
    rw [m1.2.1]
    have o2 : ∀ a, (a < 11 ∨ 17 < a) → (a < 25 ∨ 166 < a) → M2 a = M a := fun a b1 b2 => by rw [m2 a (by omega), g2 a b2]
    intro X18 hx
    refine rfD c1 ((congrFun (o2 211 (by omega) (by omega)) 0).trans c3) ((congrFun (o2 214 (by omega) (by omega)) 40).trans hst) k1 k2 rfl z s ⟨fun _ => ?_, fun z => absurd rfl z⟩
    refine sp_remember (RH_c (congrFun (o2 211 (by omega) (by omega)) 20) (o2 222 (by omega) (by omega)) hc2) ((o2 214 (by omega) (by omega)).trans hf) (fun M3 p1 p2 p3 => ?_)
    have lp : ∀ M4, M4 214 = stpN n R L f 0 → (∀ a, a ≠ 214 → a ≠ 221 → M4 a = M3 a) → X18 (nI 0) M4 := by
      refine upto (P := fun i => ∀ M4, M4 214 = stpN n R L f i → (∀ a, a ≠ 214 → a ≠ 221 → M4 a = M3 a) → X18 (nI i) M4) (n := k) ?_ ?_
      · intro M4 e1 e2
        apply hx
        unfold bd_X10_step_18
        refine ⟨fun _ => ⟨inb (i := 40) (by decide) (by decide), ?_⟩, fun z => absurd ((leN (by omega) (by omega)).mpr (Nat.le_refl k)) z⟩
        rw [e1]
        have o4 : ∀ a, (a < 11 ∨ 17 < a) → (a < 25 ∨ 166 < a) → a ≠ 210 → a ≠ 211 → a ≠ 214 → a ≠ 221 → a ≠ 222 → M4 a = M a := fun a b1 b2 _ b3 b4 b5 b6 => by rw [e2 a b4 b5, p3 a b3 b6, o2 a b1 b2]
        have h1 : ∀ k, k ≠ 20 → M4 211 k = M 211 k := fun k hk => by rw [e2 211 (by decide) (by decide), p2 k hk, o2 211 (by omega) (by omega)]
        refine hp _ M4 (Inv_act (f' := stpN n R L f k) q3 q4 q5 (Dw_c ?_ (h1 _ (by decide)) q6) q7 ⟨nc, c1, c2, c3, c4⟩ q9 hw hc3 (CH_c ?_ g1) (RH_c ?_ ?_ p1) ⟨WF_stpN hw k, SR_c ?_ m1, (h1 _ (by decide)).trans hn, ?_, ?_, e1⟩ o4 (fun k _ hk => h1 k hk))
        · rw [e2 210 (by decide) (by decide), p3 210 (by decide) (by decide), o2 210 (by omega) (by omega)]
        · intro a b1 b2
          rw [e2 a (by omega) (by omega), p3 a (by omega) (by omega), m2 a (by omega)]
        · rw [e2 211 (by decide) (by decide)]
        · rw [e2 222 (by decide) (by decide)]
        · intro a b1 b2
          rw [e2 a (by omega) (by omega), p3 a (by omega) (by omega)]
        · rw [e2 212 (by decide) (by decide), p3 212 (by decide) (by decide), o2 212 (by omega) (by omega), hR]
        · rw [e2 213 (by decide) (by decide), p3 213 (by decide) (by decide), o2 213 (by omega) (by omega), hL]
      · intro i hik ih M4 e1 e2
        apply hx
        unfold bd_X10_step_18
        refine ⟨fun z => absurd ((leN (by omega) (by omega)).mp z) (by omega), fun _ => ?_⟩
        refine sp_stepAll (WF_stpN hw i) ?_ ?_ ?_ e1 (fun M5 d1 d2 => ?_)
        · rw [e2 211 (by decide) (by decide), p2 2 (by decide), o2 211 (by omega) (by omega), hn]
        · rw [e2 212 (by decide) (by decide), p3 212 (by decide) (by decide), o2 212 (by omega) (by omega), hR]
        · rw [e2 213 (by decide) (by decide), p3 213 (by decide) (by decide), o2 213 (by omega) (by omega), hL]
        · rw [nI_1]
          exact ih M5 d1 (fun a b1 b2 => by rw [d2 a b1 b2, e2 a b1 b2])
    exact lp M3 ((p3 214 (by decide) (by decide)).trans ((o2 214 (by omega) (by omega)).trans hf)) (fun a _ _ => rfl)
