/-! what can be undone: the class's ring of scenes, the reference's row -/
theorem SR_c {n : Nat} {R L f : Nat → Int32} {M M' : Mem} {b : Nat} (h : ∀ a, b ≤ a → a ≤ b + 5 → M' a = M a) (hr : SR n R L f M b) : SR n R L f M' b := by
  obtain ⟨h0, h1, h2⟩ := hr
  refine ⟨by rw [h b (by omega) (by omega)]; exact h0, by rw [h b (by omega) (by omega)]; exact h1, fun c hc => ?_⟩
  rw [h (b + 1) (by omega) (by omega), h (b + 2) (by omega) (by omega), h (b + 3) (by omega) (by omega), h (b + 4) (by omega) (by omega), h (b + 5) (by omega) (by omega)]
  exact h2 c hc
theorem crn_v {R L f g : Nat → Int32} {c k : Nat} (hc : c < 8) (h : ∀ k, k < 41 → g k = f k) : crn R L g c k = crn R L f c k := by
  unfold crn
  rw [h (32 + c) (by omega)]
theorem WF_v {n : Nat} {R L f g : Nat → Int32} (h : ∀ k, k < 41 → g k = f k) (hw : WF n R L f) : WF n R L g := by
  obtain ⟨hn, w1, w2, w3, w4⟩ := hw
  refine ⟨hn, fun c hc => ?_, fun c hc => ?_, fun c hc => ?_, fun c hc => ?_⟩
  · rw [h c (by omega)]; exact w1 c hc
  · rw [h (8 + c) (by omega)]; exact w2 c hc
  · rw [h (16 + c) (by omega)]; exact w3 c hc
  · rw [h (32 + c) (by omega)]; exact w4 c hc
theorem SR_v {n : Nat} {R L f g : Nat → Int32} {M : Mem} {b : Nat} (hn : n ≤ 8) (h : ∀ k, k < 41 → g k = f k) (hr : SR n R L f M b) : SR n R L g M b := by
  obtain ⟨h0, h1, h2⟩ := hr
  refine ⟨h0, by rw [h 40 (by omega)]; exact h1, fun c hc => ?_⟩
  have e : rnum (dg R L g c) (L c).toNatClampNeg = rnum (dg R L f c) (L c).toNatClampNeg := rnum_cong _ (fun k _ => by unfold dg; rw [crn_v (by omega) h])
  rw [h c (by omega), h (8 + c) (by omega), h (16 + c) (by omega), h (24 + c) (by omega), e]
  exact h2 c hc
def pU (u : Nat) : Nat := if u < 20 then u + 1 else 20
def pH (u : Nat) (hs : Nat → Nat → Int32) (f : Nat → Int32) : Nat → Nat → Int32 := fun j => if u < 20 then (if j < u then hs j else f) else (if j < 19 then hs (j + 1) else f)
def CH (n : Nat) (R L : Nat → Int32) (u : Nat) (hs : Nat → Nat → Int32) (M : Mem) : Prop := u ≤ 20 ∧ ∃ top, top < 20 ∧ M 25 1 = nI top ∧ M 25 2 = nI u ∧ ∀ j, j < u → SR n R L (hs j) M (27 + 7 * ((top + 20 - u + j) % 20))
def RH (u : Nat) (hs : Nat → Nat → Int32) (M : Mem) : Prop := u ≤ 20 ∧ M 211 20 = nI u ∧ ∀ j k, j < u → k < 41 → M 222 (41 * j + k) = hs j k
theorem ra26 (t : Nat) : ra 26 t = 27 + 7 * t := rfl
theorem ra168 (t : Nat) : ra 168 t = 171 + 7 * t := rfl
theorem sp_push {Q : Mem → Prop} {n u : Nat} {R L f : Nat → Int32} {hs : Nat → Nat → Int32} {M : Mem} (hn : n ≤ 8) (hr : SR n R L f M 11) (hh : CH n R L u hs M) (hq : ∀ M', CH n R L (pU u) (pH u hs f) M' → (∀ a, (a < 25 ∨ 166 < a) → M' a = M a) → Q M') : wp_X4_push Q M := by
  obtain ⟨hu, top, ht, h1, h2, h3⟩ := hh
  unfold wp_X4_push bd_X4_push
  rw [h1, cl (by omega), ra26]
  refine ⟨inb ht (by omega), sp_copyFrom hn (by omega) hr (fun M2 g1 g2 M3 e3 M4 e4 => ?_)⟩
  have f25 : M2 25 = M 25 := g2 25 (by omega)
  have e31 : M3 25 = upd (M 25) 1 (nI ((top + 1) % 20)) := by
    rw [e3, up_s, f25, h1, nI_1, show (20 : Int32) = nI 20 from rfl, pk_rem (by omega) (by omega) (by omega)]
  have e41 : M4 25 = upd (upd (M 25) 1 (nI ((top + 1) % 20))) 2 (nI (pU u)) := by
    rw [e4, up_s, e31]
    congr 1
    have z : upd (M 25) 1 (nI ((top + 1) % 20)) 2 = nI u := h2
    rw [z, nI_1, show (20 : Int32) = nI 20 from rfl]
    unfold pU
    by_cases q : u < 20
    · rw [if_pos q, if_neg (by rw [ltN (by omega) (by omega)]; omega)]
    · rw [if_neg q, if_pos (by rw [ltN (by omega) (by omega)]; omega)]
  have fo : ∀ a, a ≠ 25 → M4 a = M2 a := fun a ha => by rw [e4, up_o ha, e3, up_o ha]
  refine hq M4 ⟨by unfold pU; split <;> omega, (top + 1) % 20, Nat.mod_lt _ (by omega), by rw [e41]; rfl, by rw [e41]; rfl, fun j hj => ?_⟩ (fun a ha => by rw [fo a (by omega), g2 a (by omega)])
  have newest : SR n R L f M4 (27 + 7 * top) := SR_c (fun a b1 b2 => fo a (by omega)) g1
  have old : ∀ i, i < u → (top + 20 - u + i) % 20 ≠ top → SR n R L (hs i) M4 (27 + 7 * ((top + 20 - u + i) % 20)) := by
    intro i hi hne
    have hb : (top + 20 - u + i) % 20 < 20 := Nat.mod_lt _ (by omega)
    refine SR_c (fun a b1 b2 => ?_) (h3 i hi)
    rw [fo a (by omega), g2 a (by omega)]
  unfold pU at hj ⊢
  unfold pH
  by_cases q : u < 20
  · rw [if_pos q] at hj
    rw [if_pos q]
    simp only [if_pos q]
    by_cases q2 : j < u
    · rw [if_pos q2]
      have e : ((top + 1) % 20 + 20 - (u + 1) + j) % 20 = (top + 20 - u + j) % 20 := by omega
      rw [e]
      exact old j q2 (by omega)
    · rw [if_neg q2]
      have e : ((top + 1) % 20 + 20 - (u + 1) + j) % 20 = top := by omega
      rw [e]
      exact newest
  · rw [if_neg q] at hj
    rw [if_neg q]
    simp only [if_neg q]
    by_cases q2 : j < 19
    · rw [if_pos q2]
      have e : ((top + 1) % 20 + 20 - 20 + j) % 20 = (top + 20 - u + (j + 1)) % 20 := by omega
      rw [e]
      exact old (j + 1) (by omega) (by omega)
    · rw [if_neg q2]
      have e : ((top + 1) % 20 + 20 - 20 + j) % 20 = top := by omega
      rw [e]
      exact newest
theorem m41 (u : Nat) : (41 : Int32) * nI u = nI (41 * u) := by rw [l41, pk_mul]
theorem sp_remember {Q : Mem → Prop} {u : Nat} {hs : Nat → Nat → Int32} {f : Nat → Int32} {M : Mem} (hh : RH u hs M) (hf : M 214 = f) (hq : ∀ M', RH (pU u) (pH u hs f) M' → (∀ k, k ≠ 20 → M' 211 k = M 211 k) → (∀ a, a ≠ 211 → a ≠ 222 → M' a = M a) → Q M') : wp_X10_remember Q M := by
  obtain ⟨hu, h1, h2⟩ := hh
  intro X12 X52 h12 h52
  -- the second loop, from a memory whose row has v entries in place
  have second : ∀ (v : Nat) (hs' : Nat → Nat → Int32) (M1 : Mem), v < 20 → M1 211 20 = nI v → (∀ j k, j < v → k < 41 → M1 222 (41 * j + k) = hs' j k) → M1 214 = f → (∀ M', M' 211 20 = nI (v + 1) → (∀ j k, j < v → k < 41 → M' 222 (41 * j + k) = hs' j k) → (∀ k, k < 41 → M' 222 (41 * v + k) = f k) → (∀ k, k ≠ 20 → M' 211 k = M1 211 k) → (∀ a, a ≠ 211 → a ≠ 222 → M' a = M1 a) → Q M') → X52 0 M1 := by
    intro v hs' M1 hv a1 a2 a3 hq
    have key : ∀ M', (∀ j k, j < v → k < 41 → M' 222 (41 * j + k) = hs' j k) → (∀ k, k < 0 → M' 222 (41 * v + k) = f k) → (∀ a, a ≠ 222 → M' a = M1 a) → X52 (nI 0) M' := by
      refine upto (P := fun i => ∀ M', (∀ j k, j < v → k < 41 → M' 222 (41 * j + k) = hs' j k) → (∀ k, k < i → M' 222 (41 * v + k) = f k) → (∀ a, a ≠ 222 → M' a = M1 a) → X52 (nI i) M') (n := 41) ?_ ?_
      · intro M' b1 b2 b3
        apply h52
        unfold bd_X10_remember_52
        rw [l41]
        refine ⟨fun _ M5 e5 => ?_, fun z => absurd ((leN (by omega) (by omega)).mpr (Nat.le_refl 41)) z⟩
        have f11 : M5 211 = upd (M1 211) 20 (nI (v + 1)) := by rw [e5, up_s, b3 211 (by decide), a1, nI_1]
        refine hq M5 (by rw [f11]; rfl) (fun j k c1 c2 => by rw [e5, up_o (by decide)]; exact b1 j k c1 c2) (fun k c2 => by rw [e5, up_o (by decide)]; exact b2 k c2) (fun k hk => by rw [f11]; exact if_neg hk) (fun a c1 c2 => by rw [e5, up_o c1, b3 a c2])
      · intro i hi ih M' b1 b2 b3
        apply h52
        unfold bd_X10_remember_52
        rw [b3 211 (by decide), a1, m41, nI_add, l41, leN (by omega) (by omega), cl (by omega), cl (by omega), nI_1 i]
        refine ⟨fun z => absurd z (by omega), fun _ => ⟨inb hi (by omega), inb (by omega) (by omega), fun M5 e5 => ih M5 (fun j k c1 c2 => ?_) (fun k c2 => ?_) (fun a ha => by rw [e5, up_o ha, b3 a ha])⟩⟩
        · rw [e5, up_sn (by omega)]; exact b1 j k c1 c2
        · by_cases e : k = i
          · rw [e5, e, up_ss, b3 214 (by decide), a3]
          · rw [e5, up_sn (by omega)]; exact b2 k (by omega)
    have h3 := key M1 a2 (fun k hk => by omega) (fun _ _ => rfl)
    rw [nI_0] at h3
    exact h3
  unfold bd_X10_remember
  rw [h1, show (20 : Int32) = nI 20 from rfl, eqN (by omega) (by omega)]
  refine ⟨fun q => ?_, fun q => ?_⟩
  · -- the oldest is lost
    have key : ∀ M', (∀ x, x < 41 - 41 → M' 222 x = M 222 (x + 41)) → (∀ x, 41 - 41 ≤ x → M' 222 x = M 222 x) → (∀ a, a ≠ 222 → M' a = M a) → X12 (nI 41) M' := by
      refine upto_from (P := fun i => ∀ M', (∀ x, x < i - 41 → M' 222 x = M 222 (x + 41)) → (∀ x, i - 41 ≤ x → M' 222 x = M 222 x) → (∀ a, a ≠ 222 → M' a = M a) → X12 (nI i) M') (n := 820) (m := 41) (by omega) ?_ ?_
      · intro M' b1 b2 b3
        apply h12
        unfold bd_X10_remember_12
        refine ⟨fun _ M1 e1 => ?_, fun z => absurd (by rw [show (820 : Int32) = nI 820 from rfl]; exact (leN (by omega) (by omega)).mpr (Nat.le_refl 820)) z⟩
        have f11 : M1 211 = upd (M 211) 20 (nI 19) := by
          rw [e1, up_s, b3 211 (by decide), h1, q, l1, pk_sub (by omega)]
        refine second 19 (fun j => hs (j + 1)) M1 (by omega) (by rw [f11]; rfl) (fun j k c1 c2 => ?_) (by rw [e1, up_o (by decide), b3 214 (by decide), hf]) (fun M5 d1 d2 d3 d4 d5 => ?_)
        · rw [e1, up_o (by decide), b1 (41 * j + k) (by omega)]
          have e : 41 * j + k + 41 = 41 * (j + 1) + k := by omega
          rw [e]
          exact h2 (j + 1) k (by omega) c2
        · refine hq M5 ⟨by unfold pU; split <;> omega, ?_, ?_⟩ (fun k hk => by rw [d4 k hk, f11]; exact if_neg hk) (fun a c1 c2 => by rw [d5 a c1 c2, e1, up_o c1, b3 a c2])
          · rw [d1]; unfold pU; rw [if_neg (by omega)]
          · intro j k c1 c2
            unfold pU at c1
            rw [if_neg (by omega)] at c1
            unfold pH
            simp only [if_neg (show ¬ u < 20 by omega)]
            by_cases z : j < 19
            · rw [if_pos z]; exact d2 j k z c2
            · have e : j = 19 := by omega
              rw [if_neg z, e]; exact d3 k c2
      · intro i hi1 hi2 ih M' b1 b2 b3
        apply h12
        unfold bd_X10_remember_12
        rw [show (820 : Int32) = nI 820 from rfl, leN (by omega) (by omega), l41, pk_sub hi1, cl (by omega), cl (by omega), nI_1]
        refine ⟨fun z => absurd z (by omega), fun _ => ⟨inb hi2 (by omega), inb (by omega) (by omega), fun M4 e4 => ih M4 (fun x hx => ?_) (fun x hx => ?_) (fun a ha => by rw [e4, up_o ha, b3 a ha])⟩⟩
        · by_cases e : x = i - 41
          · rw [e4, e, up_ss, b2 i (by omega)]
            congr 1; omega
          · rw [e4, up_sn e]; exact b1 x (by omega)
        · rw [e4, up_sn (by omega)]; exact b2 x (by omega)
    exact key M (fun x hx => by omega) (fun _ _ => rfl) (fun _ _ => rfl)
  · have hu2 : u < 20 := by omega
    refine second u hs M hu2 h1 h2 hf (fun M5 d1 d2 d3 d4 d5 => hq M5 ⟨by unfold pU; split <;> omega, ?_, ?_⟩ d4 d5)
    · rw [d1]; unfold pU; rw [if_pos hu2]
    · intro j k c1 c2
      unfold pU at c1
      rw [if_pos hu2] at c1
      unfold pH
      simp only [if_pos hu2]
      by_cases z : j < u
      · rw [if_pos z]; exact d2 j k z c2
      · have e : j = u := by omega
        rw [if_neg z, e]; exact d3 k c2
