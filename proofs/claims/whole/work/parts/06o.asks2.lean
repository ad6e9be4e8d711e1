theorem l200 : (200 : Int32) = nI 200 := rfl
theorem a200 (w : Nat) : (200 : Int32) + nI w = nI (200 + w) := by rw [l200, nI_add]
/-- CROSS: fr k tells whether the corner is free behind k steps -/
def crs (fr : Nat → Bool) (w : Nat) : Nat → Nat → Nat → Int32
  | 0, _, _ => -1
  | m + 1, k, run => if (if fr k = true then run + 1 else 0) = w then nI k - nI w + 1 else crs fr w m (k + 1) (if fr k = true then run + 1 else 0)
def free (n : Nat) (R L f : Nat → Int32) (j k : Nat) : Bool := decide (cnt (stpN n R L f k) (nI j) n = 0)
theorem sp_cross {Q : Int32 → Mem → Prop} {a1 a2 : Int32} {n nc : Nat} {R L f : Nat → Int32} {M : Mem} (hnc : nc ≤ 9) (hco : M 0 10 = nI nc) (hw : WF n R L f) (hr : SR n R L f M 11) (hu : (∀ j, j < nc → a1 ≠ nI j) → Q (-1000000001) M) (ho : (∃ j, j < nc ∧ a1 = nI j) → (∀ k, 1 ≤ k → k ≤ 9 → a2 ≠ nI k) → Q (-1000000002) M) (hq : ∀ j w, j < nc → 1 ≤ w → w ≤ 9 → a1 = nI j → a2 = nI w → ∀ M', (∀ a, (a < 18 ∨ 24 < a) → M' a = M a) → Q (crs (free n R L f j) w (200 + w) 0 0) M') : wp_X9_cross Q a1 a2 M := by
  have h8 := hw.1
  intro X41 hx
  refine sp_isCorner (n := nc) (by omega) hco (fun j hj ej => ⟨fun q => absurd q (by decide), fun _ => ?_⟩) (fun q => ⟨fun _ => hu q, fun q => absurd rfl q⟩)
  rcases rng a2 (m := 9) (by omega) with q | q | ⟨w, w1, w2⟩
  · refine ⟨fun _ => ho ⟨j, hj, ej⟩ (fun k _ hk e => by rw [e] at q; exact nI_nlt0 (by omega) q), fun z => absurd ?_ z⟩
    rw [ltI] at q ⊢
    have e0 : (0 : Int32).toInt = 0 := by decide
    have e1 : (1 : Int32).toInt = 1 := by decide
    omega
  · have hz := ltI0 (by omega) q
    refine ⟨fun z => ?_, fun _ => ⟨fun z => absurd z hz.2, fun _ => ho ⟨j, hj, ej⟩ (fun k _ hk e => by rw [e] at hz; exact hz.2 ((leN (by omega) (by omega)).mpr hk))⟩⟩
    rw [ltI] at z
    rw [ltI, nI_toInt (by omega)] at q
    have e1 : (1 : Int32).toInt = 1 := by decide
    omega
  · rw [w2, l1, ltN (by omega) (by omega), show (9 : Int32) = nI 9 from rfl, leN (by omega) (by omega)]
    refine ⟨fun z => ho ⟨j, hj, ej⟩ (fun k k1 k2 e => ?_), fun z => ⟨fun _ => ?_, fun z => absurd w1 z⟩⟩
    · rw [w2, eqN (by omega) (by omega)] at e; omega
    · have hq := hq j w hj (by omega) w1 ej w2
      refine sp_copyFrom h8 (by omega) hr (fun M2 g1 g2 => ?_)
      have key : ∀ m k run, k + m = 200 + w → run ≤ k → ∀ M', SR n R L (stpN n R L f k) M' 18 → (∀ a, (a < 18 ∨ 24 < a) → M' a = M a) → (∀ M', (∀ a, (a < 18 ∨ 24 < a) → M' a = M a) → Q (crs (free n R L f j) w m k run) M') → X41 (nI run) (nI k) M' := by
        intro m
        induction m with
        | zero =>
          intro k run hk hrun M' h1 h2 hq
          apply hx
          unfold bd_X9_cross_41
          rw [w2, a200, leN (by omega) (by omega)]
          exact ⟨fun _ => hq M' h2, fun z => absurd (by omega) z⟩
        | succ m ih =>
          intro k run hk hrun M' h1 h2 hq
          apply hx
          unfold bd_X9_cross_41
          rw [w2, a200, leN (by omega) (by omega), ej]
          refine ⟨fun z => absurd z (by omega), fun _ => sp_carsAt h8 h1.1 ?_⟩
          have ec : cnt (M' (18 + 1)) (nI j) n = cnt (stpN n R L f k) (nI j) n := cnt_cong n (fun c hc => (h1.2.2 c hc).1)
          have hle := cnt_le (stpN n R L f k) (nI j) n
          have er : (if nI (cnt (M' (18 + 1)) (nI j) n) = 0 then nI run + 1 else 0) = nI (if free n R L f j k = true then run + 1 else 0) := by
            rw [ec]
            unfold free
            by_cases e : cnt (stpN n R L f k) (nI j) n = 0
            · rw [e, if_pos nI_0, if_pos (decide_eq_true rfl), nI_1]
            · rw [if_neg (by rw [l0, eqN (by omega) (by omega)]; exact e), if_neg (by rw [decide_eq_true_eq]; exact e)]; rfl
          have hb : (if free n R L f j k = true then run + 1 else 0) ≤ k + 1 := by split <;> omega
          rw [er, eqN (by omega) (by omega), nI_1 k]
          refine ⟨fun e => ?_, fun e => ?_⟩
          · have h3 := hq M' h2
            rw [crs, if_pos e] at h3
            exact h3
          · refine sp_move (WF_stpN hw k) h1 (fun M3 g3 g4 => ih (k + 1) _ (by omega) hb M3 g3 (fun a ha => by rw [g4 a (by omega), h2 a ha]) (fun M4 h4 => ?_))
            have h3 := hq M4 h4
            rw [crs, if_neg e] at h3
            exact h3
      have h3 := key (200 + w) 0 0 (by omega) (Nat.le_refl 0) M2 g1 (fun a ha => g2 a (by omega)) hq
      rw [nI_0] at h3
      exact h3
theorem sp_crossR {Q : Int32 → Mem → Prop} {a1 a2 : Int32} {n nc : Nat} {R L f : Nat → Int32} {M : Mem} (hnc : nc ≤ 9) (hco : M 211 0 = nI nc) (hw : WF n R L f) (hc : M 211 2 = nI n) (hR : M 212 = R) (hL : M 213 = L) (hf : M 214 = f) (hu : (∀ j, j < nc → a1 ≠ nI j) → Q (-1000000001) M) (ho : (∃ j, j < nc ∧ a1 = nI j) → (∀ k, 1 ≤ k → k ≤ 9 → a2 ≠ nI k) → Q (-1000000002) M) (hq : ∀ j w, j < nc → 1 ≤ w → w ≤ 9 → a1 = nI j → a2 = nI w → ∀ M', (∀ a, a ≠ 221 → a ≠ 223 → M' a = M a) → Q (crs (free n R L f j) w (200 + w) 0 0) M') : wp_X10_cross Q a1 a2 M := by
  have h8 := hw.1
  intro X38 hx
  refine sp_isCornerR (n := nc) (by omega) hco (fun j hj ej => ⟨fun q => absurd q (by decide), fun _ => ?_⟩) (fun q => ⟨fun _ => hu q, fun q => absurd rfl q⟩)
  refine sp_in (lo := 1) (hi := 9) (by decide) (by decide) (fun q => ⟨fun q => absurd q (by decide), fun _ => ?_⟩) (fun q => ⟨fun _ => ho ⟨j, hj, ej⟩ (fun k k1 k2 e => q ?_), fun q => absurd rfl q⟩)
  · obtain ⟨w, w1, w2, w3⟩ : ∃ w, w ≤ 9 ∧ a2 = nI w ∧ 1 ≤ w := by
      rcases rng a2 (m := 9) (by omega) with z | z | ⟨w, z1, z2⟩
      · refine absurd q.1 ?_
        rw [leI]; rw [ltI] at z
        have e0 : (0 : Int32).toInt = 0 := by decide
        have e1 : (1 : Int32).toInt = 1 := by decide
        omega
      · exact absurd q.2 (ltI0 (by omega) z).2
      · refine ⟨w, z1, z2, ?_⟩
        have q1 := q.1
        rw [z2, l1, leN (by omega) (by omega)] at q1
        exact q1
    have hq := hq j w hj w3 w1 ej w2
    refine sp_save (fun M2 g1 g2 => ?_)
    have pb : ∀ (r : Int32) (k : Nat) (M' : Mem), M' 214 = stpN n R L f k → M' 223 = cp41 f (M 223) → (∀ a, a ≠ 214 → a ≠ 221 → a ≠ 223 → M' a = M a) → (∀ M', (∀ a, a ≠ 221 → a ≠ 223 → M' a = M a) → Q r M') → wp_X10_putBack (fun (M1 : Mem) => Q r M1) M' := by
      intro r k M' h1 h2 h3 hq
      refine sp_putBack (fun M6 g5 g6 => hq M6 (fun a b1 b2 => ?_))
      by_cases e : a = 214
      · rw [e, g5, h1, h2, put_again, hf]
      · rw [g6 a e, h3 a e b1 b2]
    have fin : ∀ (r : Int32) (x k k' : Nat) (M' : Mem), k' ≤ 400 → M' 214 = stpN n R L f k → M' 223 = cp41 f (M 223) → (∀ a, a ≠ 214 → a ≠ 221 → a ≠ 223 → M' a = M a) → 0 ≤ r → (∀ M', (∀ a, a ≠ 221 → a ≠ 223 → M' a = M a) → Q r M') → X38 (nI x) r (nI k') M' := by
      intro r x k k' M' hk' h1 h2 h3 hr hq
      apply hx
      unfold bd_X10_cross_38
      refine ⟨fun _ => pb r k M' h1 h2 h3 hq, fun _ => ⟨fun _ => pb r k M' h1 h2 h3 hq, fun z => absurd hr z⟩⟩
    have key : ∀ m k run, k + m = 200 + w → run ≤ k → ∀ M', M' 214 = stpN n R L f k → M' 223 = cp41 f (M 223) → (∀ a, a ≠ 214 → a ≠ 221 → a ≠ 223 → M' a = M a) → (∀ M', (∀ a, a ≠ 221 → a ≠ 223 → M' a = M a) → Q (crs (free n R L f j) w m k run) M') → X38 (nI run) (-1) (nI k) M' := by
      intro m
      induction m with
      | zero =>
        intro k run hk hrun M' h1 h2 h3 hq
        apply hx
        unfold bd_X10_cross_38
        rw [w2, a200, leN (by omega) (by omega)]
        exact ⟨fun _ => pb _ k M' h1 h2 h3 hq, fun z => absurd (by omega) z⟩
      | succ m ih =>
        intro k run hk hrun M' h1 h2 h3 hq
        apply hx
        unfold bd_X10_cross_38
        rw [w2, a200, leN (by omega) (by omega), ej]
        refine ⟨fun z => absurd z (by omega), fun _ => ⟨fun z => absurd z (by decide), fun _ => ?_⟩⟩
        refine sp_taken h8 (by rw [h3 211 (by decide) (by decide) (by decide), hc]) h1 (sp_has (by omega) ?_)
        refine sp_stepAll (WF_stpN hw k) (by rw [h3 211 (by decide) (by decide) (by decide), hc]) (by rw [h3 212 (by decide) (by decide) (by decide), hR]) (by rw [h3 213 (by decide) (by decide) (by decide), hL]) h1 (fun M3 g3 g4 => ?_)
        have hb := tk_bt (WF_stpN hw k).cor (j := j) (by omega)
        have er : (if (if bt (tk (stpN n R L f k) n) j = true then (1 : Int32) else 0) = 0 then nI run + 1 else 0) = nI (if free n R L f j k = true then run + 1 else 0) := by
          unfold free
          by_cases e : cnt (stpN n R L f k) (nI j) n = 0
          · have e2 : ¬ bt (tk (stpN n R L f k) n) j = true := fun z => (hb.mp z) e
            rw [if_neg e2, if_pos rfl, if_pos (decide_eq_true e), nI_1]
          · have e2 : bt (tk (stpN n R L f k) n) j = true := hb.mpr e
            rw [if_pos e2, if_neg (by decide), if_neg (by rw [decide_eq_true_eq]; exact e)]; rfl
        have hb2 : (if free n R L f j k = true then run + 1 else 0) ≤ k + 1 := by split <;> omega
        rw [er, nI_1 k]
        have e3 : M3 214 = stpN n R L f (k + 1) := g3
        have hcr := fun M4 h4 => hq M4 h4
        simp only [crs] at hcr
        generalize (if free n R L f j k = true then run + 1 else 0) = ρ at hb2 hcr ⊢
        by_cases e : ρ = w
        · rw [if_pos (show nI ρ = nI w by rw [e])]
          have hr0 : (0 : Int32) ≤ nI k - nI w + 1 := by
            rcases Nat.lt_or_ge k w with z | z
            · have e5 : k + 1 = w := by omega
              have e6 : nI k - nI w + 1 = 0 := by
                rw [eqI, ← e5, ← nI_1]
                have t1 : (nI k).toInt = k := nI_toInt (by omega)
                have t2 : (nI k + 1).toInt = k + 1 := by rw [nI_1, nI_toInt (by omega)]; omega
                have t3 : (nI k - (nI k + 1)) = -1 := by
                  have t4 : nI k - (nI k + 1) + (nI k + 1) = nI k := Int32.sub_add_cancel _ _
                  rw [eqI]
                  have t5 := pk_sub_toInt (a := k) (b := k + 1) (by omega) (by omega)
                  rw [← nI_1] at t5
                  rw [t5]
                  have t6 : (-1 : Int32).toInt = -1 := by decide
                  rw [t6]; omega
                rw [t3]; decide
              rw [e6]; decide
            · rw [pk_sub z, nI_1]; exact nI_ge0 (by omega)
          refine fin _ _ (k + 1) (k + 1) M3 (by omega) e3 (by rw [g4 223 (by decide) (by decide), h2]) (fun a b1 b2 b3 => by rw [g4 a b1 b2, h3 a b1 b2 b3]) hr0 (fun M4 h4 => ?_)
          have h5 := hcr M4 h4
          rw [if_pos e] at h5
          exact h5
        · rw [if_neg (show ¬ nI ρ = nI w by rw [eqN (by omega) (by omega)]; exact e)]
          refine ih (k + 1) _ (by omega) hb2 M3 e3 (by rw [g4 223 (by decide) (by decide), h2]) (fun a b1 b2 b3 => by rw [g4 a b1 b2, h3 a b1 b2 b3]) (fun M4 h4 => ?_)
          have h5 := hcr M4 h4
          rw [if_neg e] at h5
          exact h5
    have h3 := key (200 + w) 0 0 (by omega) (Nat.le_refl 0) M2 (by rw [g2 214 (by decide), hf]; rfl) (by rw [g1, hf]) (fun a b1 b2 b3 => g2 a b3) hq
    rw [nI_0] at h3
    exact h3
  · rw [e, show (1 : Int32) = nI 1 from rfl, show (9 : Int32) = nI 9 from rfl, leN (by omega) (by omega), leN (by omega) (by omega)]
    omega
/-- HANDED: who has it behind k steps -/
def hds (n : Nat) (R L f : Nat → Int32) (c : Nat) : Nat → Int32
  | 0 => bs (bsd n f ((1 : Int32) <<< (nI c &&& 31))) n
  | k + 1 => bs (bsd n (stpN n R L f (k + 1)) (hds n R L f c k)) n
def hdt (n : Nat) (R L f : Nat → Int32) (c d k : Nat) : Bool := bt (hds n R L f c k) d
theorem sp_handed {Q : Int32 → Mem → Prop} {a1 a2 : Int32} {n : Nat} {R L f : Nat → Int32} {M : Mem} (hw : WF n R L f) (hr : SR n R L f M 11) (hu : (∀ i j, i < n → j < n → i ≠ j → a1 = nI i → a2 = nI j → False) → Q (-1000000001) M) (hq : ∀ i j, i < n → j < n → i ≠ j → a1 = nI i → a2 = nI j → ∀ M', (∀ a, (a < 18 ∨ 24 < a) → M' a = M a) → Q (frs (hdt n R L f i j) 201 0) M') : wp_X9_handed Q a1 a2 M := by
  have h8 := hw.1
  intro X30 hx
  refine sp_areTwoCars (n := n) (by omega) hr.1 (fun i j hi hj hij ei ej => ⟨fun q => absurd q (by decide), fun _ => ?_⟩) (fun q => ⟨fun _ => hu q, fun q => absurd rfl q⟩)
  have hq := hq i j hi hj hij ei ej
  refine sp_copyFrom h8 (by omega) hr (fun M2 g1 g2 => ?_)
  have key : ∀ m k s, k + m = 201 → bs (bsd n (stpN n R L f k) s) n = hds n R L f i k → ∀ M', SR n R L (stpN n R L f k) M' 18 → (∀ a, (a < 18 ∨ 24 < a) → M' a = M a) → (∀ M', (∀ a, (a < 18 ∨ 24 < a) → M' a = M a) → Q (frs (hdt n R L f i j) m k) M') → X30 s (nI k) M' := by
    intro m
    induction m with
    | zero =>
      intro k s hk hs M' h1 h2 hq
      apply hx
      unfold bd_X9_handed_30
      rw [l200, ltN (by omega) (by omega)]
      exact ⟨fun _ => hq M' h2, fun z => absurd (by omega) z⟩
    | succ m ih =>
      intro k s hk hs M' h1 h2 hq
      apply hx
      unfold bd_X9_handed_30
      rw [l200, ltN (by omega) (by omega), nI_1]
      refine ⟨fun z => absurd z (by omega), fun _ => sp_allBeside (WF_stpN hw k).cor h1.1 (fun c hc => (h1.2.2 c hc).1) ?_⟩
      rw [hs, ej]
      refine sp_isIn (by omega) ?_
      cases e : bt (hds n R L f i k) j
      · refine ⟨fun _ => sp_move (WF_stpN hw k) h1 (fun M3 g3 g4 => ih (k + 1) _ (by omega) rfl M3 g3 (fun a ha => by rw [g4 a (by omega), h2 a ha]) (fun M4 h4 => ?_)), fun z => absurd rfl z⟩
        have h3 := hq M4 h4
        rw [frs, if_neg (by unfold hdt; rw [e]; decide)] at h3
        exact h3
      · refine ⟨fun z => absurd z (by decide), fun _ => ?_⟩
        have h3 := hq M' h2
        rw [frs, if_pos (by unfold hdt; rw [e])] at h3
        exact h3
  have h3 := key 201 0 ((1 : Int32) <<< (nI i &&& 31)) (by omega) rfl M2 g1 (fun a ha => g2 a (by omega)) hq
  rw [nI_0] at h3
  rw [ei]
  exact h3
theorem sp_handedR {Q : Int32 → Mem → Prop} {a1 a2 : Int32} {n : Nat} {R L f : Nat → Int32} {M : Mem} (hw : WF n R L f) (hc : M 211 2 = nI n) (hR : M 212 = R) (hL : M 213 = L) (hf : M 214 = f) (hu : (∀ i j, i < n → j < n → i ≠ j → a1 = nI i → a2 = nI j → False) → Q (-1000000001) M) (hq : ∀ i j, i < n → j < n → i ≠ j → a1 = nI i → a2 = nI j → ∀ M', (∀ a, a ≠ 221 → a ≠ 223 → M' a = M a) → Q (frs (hdt n R L f i j) 201 0) M') : wp_X10_handed Q a1 a2 M := by
  have h8 := hw.1
  intro X27 hx
  refine sp_areTwo (n := n) (by omega) hc (fun i j hi hj hij ei ej => ⟨fun q => absurd q (by decide), fun _ => ?_⟩) (fun q => ⟨fun _ => hu q, fun q => absurd rfl q⟩)
  have hq := hq i j hi hj hij ei ej
  refine sp_save (fun M2 g1 g2 => ?_)
  have pb : ∀ (r : Int32) (k : Nat) (M' : Mem), M' 214 = stpN n R L f k → M' 223 = cp41 f (M 223) → (∀ a, a ≠ 214 → a ≠ 221 → a ≠ 223 → M' a = M a) → (∀ M', (∀ a, a ≠ 221 → a ≠ 223 → M' a = M a) → Q r M') → wp_X10_putBack (fun (M1 : Mem) => Q r M1) M' := by
    intro r k M' h1 h2 h3 hq
    refine sp_putBack (fun M6 g5 g6 => hq M6 (fun a b1 b2 => ?_))
    by_cases e : a = 214
    · rw [e, g5, h1, h2, put_again, hf]
    · rw [g6 a e, h3 a e b1 b2]
  have key : ∀ m k, k + m = 201 → ∀ M', M' 214 = stpN n R L f k → M' 223 = cp41 f (M 223) → (∀ a, a ≠ 214 → a ≠ 221 → a ≠ 223 → M' a = M a) → (∀ M', (∀ a, a ≠ 221 → a ≠ 223 → M' a = M a) → Q (frs (hdt n R L f i j) m k) M') → X27 (hds n R L f i k) (nI k) M' := by
    intro m
    induction m with
    | zero =>
      intro k hk M' h1 h2 h3 hq
      apply hx
      unfold bd_X10_handed_27
      rw [ej]
      refine sp_has (by omega) ?_
      have e : (if (200 : Int32) < nI k then (-1 : Int32) else nI k) = -1 := if_pos (by rw [l200]; exact (ltN (by omega) (by omega)).mpr (by omega))
      rw [e, l200, ltN (by omega) (by omega)]
      have h5 := pb (-1) k M' h1 h2 h3 hq
      exact ⟨fun _ => ⟨fun _ => h5, fun z => absurd (by omega) z⟩, fun _ => h5⟩
    | succ m ih =>
      intro k hk M' h1 h2 h3 hq
      apply hx
      unfold bd_X10_handed_27
      rw [ej]
      refine sp_has (by omega) ?_
      have e0 : (if (200 : Int32) < nI k then (-1 : Int32) else nI k) = nI k := if_neg (by rw [l200, ltN (by omega) (by omega)]; omega)
      rw [e0, l200, ltN (by omega) (by omega), nI_1]
      cases e : bt (hds n R L f i k) j
      · refine ⟨fun _ => ⟨fun z => absurd z (by omega), fun _ => ?_⟩, fun z => absurd rfl z⟩
        refine sp_stepAll (WF_stpN hw k) (by rw [h3 211 (by decide) (by decide) (by decide), hc]) (by rw [h3 212 (by decide) (by decide) (by decide), hR]) (by rw [h3 213 (by decide) (by decide) (by decide), hL]) h1 (fun M3 g3 g4 => ?_)
        have e3 : M3 214 = stpN n R L f (k + 1) := g3
        refine sp_handedOn (WF_stpN hw (k + 1)).cor (by rw [g4 211 (by decide) (by decide), h3 211 (by decide) (by decide) (by decide), hc]) e3 ?_
        refine ih (k + 1) (by omega) M3 e3 (by rw [g4 223 (by decide) (by decide), h2]) (fun a b1 b2 b3 => by rw [g4 a b1 b2, h3 a b1 b2 b3]) (fun M4 h4 => ?_)
        have h5 := hq M4 h4
        rw [frs, if_neg (by unfold hdt; rw [e]; decide)] at h5
        exact h5
      · refine ⟨fun z => absurd z (by decide), fun _ => pb _ k M' h1 h2 h3 (fun M4 h4 => ?_)⟩
        have h5 := hq M4 h4
        rw [frs, if_pos (by unfold hdt; rw [e])] at h5
        exact h5
  rw [ei]
  refine sp_handedOn hw.cor (by rw [g2 211 (by decide), hc]) (by rw [g2 214 (by decide), hf]) ?_
  have h3 := key 201 0 (by omega) M2 (by rw [g2 214 (by decide), hf]; rfl) (by rw [g1, hf]) (fun a b1 b2 b3 => g2 a b3) hq
  rw [nI_0] at h3
  exact h3
