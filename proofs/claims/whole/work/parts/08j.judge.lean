theorem frs_loop {X Q : Int32 → Mem → Prop} {p : Nat → Bool} {bn : Nat} {M : Mem} (hend : Q (-1) M → X (nI bn) M) (hstep : ∀ i, i < bn → (p i = true → Q (nI i) M → X (nI i) M) ∧ (p i = false → X (nI (i + 1)) M → X (nI i) M)) (hq : Q (frs p bn 0) M) : X (nI 0) M := by
  have key : ∀ m i, i + m = bn → Q (frs p m i) M → X (nI i) M := by
    intro m
    induction m with
    | zero =>
      intro i hi q
      rw [show i = bn by omega]
      exact hend q
    | succ m ih =>
      intro i hi q
      unfold frs at q
      cases e : p i
      · rw [e, if_neg (by decide)] at q
        exact (hstep i (by omega)).2 e (ih (i + 1) (by omega) q)
      · rw [e, if_pos rfl] at q
        exact (hstep i (by omega)).1 e q
  exact key bn 0 (by omega) hq
theorem cl_judge {P : Int32 → Int32 → Mem → Prop} {M : Mem} (hi : Inv M) (hp : ∀ r M', Inv M' → P r r M') : wp_X9_judge (fun r M1 => wp_X10_judge (fun q M2 => P r q M2)  M1)  M := by
  have hi' := hi
  obtain ⟨n, R, L, f, ⟨hw, hs, hn, hR, hL, hf⟩, q2, q3, q4, ⟨bn, b1, b2, b3, b4, b5⟩, q6, q7, q8, q9⟩ := hi'
  have h8 := hw.1
  intro X2 h2
  show X2 0 M
  refine frs_loop (p := fun i => decide (¬ f (M 190 i).toNatClampNeg = M 192 i)) (bn := bn) (Q := fun r M1 => wp_X10_judge (fun q M2 => P r q M2) M1) (fun q => ?_) (fun i hi => ?_) ?_
  · apply h2
    unfold bd_X9_judge_2
    rw [b3]
    exact ⟨fun _ => q, fun z => absurd ((leN (by omega) (by omega)).mpr (Nat.le_refl bn)) z⟩
  · obtain ⟨⟨c, hc, ec⟩, e1, e2⟩ := b5 i hi
    have hl : M (11 + 1) c = f c := (hs.2.2 c hc).1
    refine ⟨fun y q => ?_, fun y q => ?_⟩
    · have y := of_decide_eq_true y
      apply h2
      unfold bd_X9_judge_2
      rw [b3, leN (by omega) (by omega), cl (show i < 1000000 by omega)]
      refine ⟨fun z => absurd z (by omega), fun _ => ⟨inb (by omega) (by omega), ?_, inb (by omega) (by omega), fun z => absurd ?_ y, fun _ => q⟩⟩
      · show vp_in (M 190 i) 8
        rw [ec]
        exact inb (by omega) (by omega)
      · rw [show M (189 + 1) i = nI c from ec, cl (show c < 1000000 by omega), hl] at z
        rw [ec, cl (show c < 1000000 by omega)]
        exact z
    · have y := of_decide_eq_false y
      apply h2
      unfold bd_X9_judge_2
      rw [b3, leN (by omega) (by omega), cl (show i < 1000000 by omega), nI_1]
      refine ⟨fun z => absurd z (by omega), fun _ => ⟨inb (by omega) (by omega), ?_, inb (by omega) (by omega), fun _ => q, fun z => absurd (fun w => ?_) y⟩⟩
      · show vp_in (M 190 i) 8
        rw [ec]
        exact inb (by omega) (by omega)
      · refine z ?_
        rw [show M (189 + 1) i = nI c from ec, cl (show c < 1000000 by omega), hl]
        rw [ec, cl (show c < 1000000 by omega)] at w
        exact w
  · intro X2 h2
    show X2 0 M
    refine frs_loop (p := fun i => decide (¬ f (M 190 i).toNatClampNeg = M 192 i)) (bn := bn) (Q := fun q M2 => P (frs (fun i => decide (¬ f (M 190 i).toNatClampNeg = M 192 i)) bn 0) q M2) (fun q => ?_) (fun i hi => ?_) (hp _ M hi)
    · apply h2
      unfold bd_X10_judge_2
      rw [b4]
      exact ⟨fun _ => q, fun z => absurd ((leN (by omega) (by omega)).mpr (Nat.le_refl bn)) z⟩
    · obtain ⟨⟨c, hc, ec⟩, e1, e2⟩ := b5 i hi
      refine ⟨fun y q => ?_, fun y q => ?_⟩
      · have y := of_decide_eq_true y
        apply h2
        unfold bd_X10_judge_2
        rw [b4, leN (by omega) (by omega), cl (show i < 1000000 by omega), e1, e2, hf]
        refine ⟨fun z => absurd z (by omega), fun _ => ⟨inb (by omega) (by omega), ?_, inb (by omega) (by omega), fun z => absurd z y, fun _ => q⟩⟩
        rw [ec]
        exact inb (by omega) (by omega)
      · have y := of_decide_eq_false y
        apply h2
        unfold bd_X10_judge_2
        rw [b4, leN (by omega) (by omega), cl (show i < 1000000 by omega), nI_1, e1, e2, hf]
        refine ⟨fun z => absurd z (by omega), fun _ => ⟨inb (by omega) (by omega), ?_, inb (by omega) (by omega), fun _ => q, fun z => absurd z y⟩⟩
        rw [ec]
        exact inb (by omega) (by omega)
theorem cl_end {P : Int32 → Int32 → Mem → Prop} {a : Int32} {d : Int32} {M : Mem} (hi : Inv M) (hp : ∀ r M', Inv M' → P r r M') : wp_X9_end (fun r M1 => wp_X10_end (fun q M2 => P r q M2) a d M1) a d M := by
  have hi' := hi
  obtain ⟨n, R, L, f, ⟨hw, hs, hn, hR, hL, hf⟩, q2, q3, q4, q5, q6, q7, q8, q9⟩ := hi'
  have h8 := hw.1
  have hl2 : ∀ c, c < n → M (11 + 2) c = f (8 + c) := fun c hc => (hs.2.2 c hc).2.1
  unfold wp_X9_end bd_X9_end
  refine sp_isCar (n := n) (by omega) hs.1 (fun c hc ec => ⟨fun z => absurd z (by decide), fun _ => ?_⟩) (fun o => ⟨fun _ => ?_, fun z => absurd rfl z⟩)
  · rw [ec]
    obtain ⟨t, t0, t1, t2, t3⟩ := ends hw.ldr hc
    have hm : ∃ m, rch n f (pth n f c t) (pth n f c t) = true → isl n f (pth n f c t) m := by
      cases e : rch n f (pth n f c t) (pth n f c t)
      · exact ⟨0, fun z => by cases z⟩
      · obtain ⟨m, _, m2⟩ := isl_ex e
        exact ⟨m, fun _ => m2⟩
    obtain ⟨m, hm⟩ := hm
    have key : ∀ r : Int32, (d = 0 ∨ d = 1) → r = (if d = 1 then nI t else eans n f (pth n f c t) m) → wp_X10_end (fun q M2 => P r q M2) (nI c) d M := by
      intro r hd er X29 hx
      unfold bd_X10_end
      refine isc2 (n := n) (by omega) hn hc ⟨fun z => absurd z (by decide), fun _ => ?_⟩
      refine sp_in (lo := 0) (hi := 1) rfl rfl (fun _ => ⟨fun z => absurd z (by decide), fun _ => ?_⟩) (fun z => absurd ?_ z)
      · refine sp_endLoop hw.ldr hf hc t0 t1 t2 t3 hm hx ?_
        rw [er]
        exact hp _ M hi
      · rcases hd with z | z
        · rw [z]
          exact ⟨by decide, by decide⟩
        · rw [z]
          exact ⟨by decide, by decide⟩
    refine ⟨fun e => sp_endOf hw.ldr hs.1 hl2 hc t0 t1 t2 t3 hm (key _ (Or.inl e) ?_), fun e => sp_timesToEnd hw.ldr hs.1 hl2 t0 t1 t2 t3 (key _ (Or.inr e) ?_), fun e => ?_⟩
    · rw [if_neg (by rw [e]; decide)]
    · rw [if_pos e]
    · intro X29 hx
      unfold bd_X10_end
      refine isc2 (n := n) (by omega) hn hc ⟨fun z => absurd z (by decide), fun _ => ?_⟩
      refine sp_in (lo := 0) (hi := 1) rfl rfl (fun z => ?_) (fun _ => ⟨fun _ => hp _ M hi, fun z => absurd rfl z⟩)
      rcases rng d (m := 1) (by decide) with w | w | ⟨k, k1, k2⟩
      · have z1 := z.1
        rw [leI] at z1
        rw [ltI] at w
        omega
      · exact absurd z.2 (ltI0 (m := 1) (by decide) w).2
      · have : k = 0 ∨ k = 1 := by omega
        rcases this with y | y
        · rw [y] at k2
          exact absurd k2 e.1
        · rw [y] at k2
          exact absurd k2 e.2
  · intro X29 hx
    exact isc0 (n := n) (by omega) hn o ⟨fun _ => hp _ M hi, fun z => absurd rfl z⟩
