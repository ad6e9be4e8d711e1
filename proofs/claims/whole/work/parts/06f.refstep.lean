def stpN (n : Nat) (R L : Nat → Int32) (f : Nat → Int32) : Nat → Nat → Int32
  | 0 => f
  | k + 1 => stp n R L (stpN n R L f k)
theorem WF_stpN {n : Nat} {R L f : Nat → Int32} (hw : WF n R L f) : ∀ k, WF n R L (stpN n R L f k)
  | 0 => hw
  | k + 1 => WF_stp (WF_stpN hw k)
theorem sp_moveTimes {Q : Mem → Prop} {b n k : Nat} {R L f : Nat → Int32} {M : Mem} (hk : k ≤ 1000) (hw : WF n R L f) (hr : SR n R L f M b) (hq : ∀ M', SR n R L (stpN n R L f k) M' b → (∀ a, (a < b ∨ b + 6 < a) → M' a = M a) → Q M') : wp_X7_moveTimes Q b (nI k) M := by
  intro X2 h2
  have key : ∀ M', SR n R L (stpN n R L f 0) M' b → (∀ a, (a < b ∨ b + 6 < a) → M' a = M a) → X2 (nI 0) M' := by
    refine upto (P := fun i => ∀ M', SR n R L (stpN n R L f i) M' b → (∀ a, (a < b ∨ b + 6 < a) → M' a = M a) → X2 (nI i) M') (n := k) ?_ ?_
    · intro M' h1 h3
      apply h2
      exact ⟨fun _ => hq M' h1 h3, fun h => absurd ((leN (by omega) (by omega)).mpr (Nat.le_refl k)) h⟩
    · intro i hi ih M' h1 h3
      apply h2
      unfold bd_X7_moveTimes_2
      rw [leN (by omega) (by omega), nI_1]
      refine ⟨fun h => absurd h (by omega), fun _ => sp_move (WF_stpN hw i) h1 (fun M2 g1 g2 => ih M2 g1 (fun a ha => by rw [g2 a ha, h3 a ha]))⟩
  have k0 := key M hr (fun _ _ => rfl)
  rw [nI_0] at k0
  exact k0
theorem a8 (c : Nat) : (8 : Int32) + nI c = nI (8 + c) := by rw [show (8 : Int32) = nI 8 from rfl, nI_add]
theorem a16 (c : Nat) : (16 : Int32) + nI c = nI (16 + c) := by rw [show (16 : Int32) = nI 16 from rfl, nI_add]
theorem a24 (c : Nat) : (24 : Int32) + nI c = nI (24 + c) := by rw [show (24 : Int32) = nI 24 from rfl, nI_add]
theorem a32 (c : Nat) : (32 : Int32) + nI c = nI (32 + c) := by rw [show (32 : Int32) = nI 32 from rfl, nI_add]
theorem m6 (c : Nat) : (6 : Int32) * nI c = nI (6 * c) := by rw [show (6 : Int32) = nI 6 from rfl, pk_mul]
theorem sp_cornerOf {Q : Int32 → Mem → Prop} {c k len : Nat} {M : Mem} (hc : c < 8) (h6 : len ≤ 6) (hk : k < len) (hL : M 213 c = nI len) (hq : Q (crn (M 212) (M 213) (M 214) c k) M) : wp_X10_cornerOf Q (nI c) (nI k) M := by
  unfold wp_X10_cornerOf bd_X10_cornerOf
  rw [a32, cl (by omega), cl (show c < 1000000 by omega), hL, m6]
  unfold crn at hq
  rw [hL, cl (by omega)] at hq
  refine ⟨inb (by omega) (by omega), fun _ => ⟨inb (by omega) (by omega), trivial⟩, fun _ => trivial, ?_⟩
  have e : nI (6 * c) + (if M 214 (32 + c) = 1 then nI len - 1 - nI k else nI k) = nI (6 * c + (if M 214 (32 + c) = 1 then len - 1 - k else k)) := by
    by_cases h : M 214 (32 + c) = 1
    · rw [if_pos h, if_pos h, l1, pk_sub (by omega), pk_sub (by omega), nI_add]
    · rw [if_neg h, if_neg h, nI_add]
  have hb : 6 * c + (if M 214 (32 + c) = 1 then len - 1 - k else k) < 48 := by split <;> omega
  rw [e, cl (by omega)]
  exact ⟨inb hb (by omega), hq⟩
theorem sp_stepAll {Q : Mem → Prop} {n : Nat} {R L f : Nat → Int32} {M : Mem} (hw : WF n R L f) (hc : M 211 2 = nI n) (hR : M 212 = R) (hL : M 213 = L) (hf : M 214 = f) (hq : ∀ M', M' 214 = stp n R L f → (∀ a, a ≠ 214 → a ≠ 221 → M' a = M a) → Q M') : wp_X10_stepAll Q M := by
  have hw0 := hw
  obtain ⟨hn, w1, w2, w3, w4⟩ := hw
  intro X2 X30 h2 h30
  have k2 : ∀ M', M' 214 = f → (∀ c, c < n → M' 221 c = f c) → (∀ a, a ≠ 214 → a ≠ 221 → M' a = M a) → X30 (nI 0) M' := by
    intro M' e1 e2 e3
    have key : ∀ M', M' 214 = pst R L f 0 → (∀ c, c < n → M' 221 c = f c) → (∀ a, a ≠ 214 → a ≠ 221 → M' a = M a) → X30 (nI 0) M' := by
      refine upto (P := fun i => ∀ M', M' 214 = pst R L f i → (∀ c, c < n → M' 221 c = f c) → (∀ a, a ≠ 214 → a ≠ 221 → M' a = M a) → X30 (nI i) M') (n := n) ?_ ?_
      · intro M' e1 e2 e3
        apply h30
        unfold bd_X10_stepAll_30
        rw [e3 211 (by decide) (by decide), hc, show (40 : Int32) = nI 40 from rfl, cl (by omega)]
        refine ⟨fun _ => ⟨inb (by omega) (by omega), inb (by omega) (by omega), fun M3 g => hq M3 ?_ (fun a b1 b2 => by rw [g, up_o b1, e3 a b1 b2])⟩, fun h => absurd ((leN (by omega) (by omega)).mpr (Nat.le_refl n)) h⟩
        rw [g, up_s, e1, pst_32 (by omega)]
        rfl
      · intro i hi ih M' e1 e2 e3
        apply h30
        unfold bd_X10_stepAll_30
        obtain ⟨len, nx, l1', l6', hx, hLi, hfi, hRi⟩ := w3 i hi
        have ei : (nI i).toNatClampNeg = i := cl (by omega)
        have m1 : M' 212 = R := by rw [e3 212 (by decide) (by decide), hR]
        have m3 : M' 213 = L := by rw [e3 213 (by decide) (by decide), hL]
        have hld := neg_lead hn (w2 i hi)
        have p1 : pst R L f i i = f i := by rw [pst_c (by omega), if_neg (by omega)]
        have p4 : pst R L f i (16 + i) = f (16 + i) := by rw [pst_16 (by omega), if_neg (by omega)]
        have p5 : pst R L f i (24 + i) = f (24 + i) := by rw [pst_24 (by omega), if_neg (by omega)]
        rw [e3 211 (by decide) (by decide), hc, leN (by omega) (by omega)]
        simp only [a8, a16, a24, ei, nI_1, cl (show 8 + i < 1000000 by omega), cl (show 16 + i < 1000000 by omega), cl (show 24 + i < 1000000 by omega)]
        rw [e1, pst_8 (by omega), p4]
        have b41 : ∀ k, k < 41 → vp_in (nI k) 41 := fun k hk => inb hk (by omega)
        refine ⟨fun h => absurd h (by omega), fun _ => ⟨b41 _ (by omega), fun hneg => ⟨b41 _ (by omega), ?_⟩, fun hneg => ?_⟩⟩
        · rw [hfi]
          refine sp_cornerOf (by omega) l6' hx (by rw [m3]; exact hLi) ⟨b41 _ (by omega), fun M8 e8 => ⟨b41 _ (by omega), inb (by omega) (by omega), ?_⟩⟩
          have ecr : crn (M' 212) (M' 213) (M' 214) i nx = ncor R L f i := by
            unfold ncor crn
            rw [if_pos hneg, m1, m3, e1, pst_32 (by omega), hfi, cl (by omega)]
          rw [ecr] at e8
          have f4 : M8 214 = upd (pst R L f i) i (ncor R L f i) := by rw [e8, up_s, e1]
          have fo : ∀ a, a ≠ 214 → M8 a = M' a := fun a ha => by rw [e8, up_o ha]
          have r16 : M8 214 (16 + i) = nI nx := by rw [f4]; unfold upd; rw [if_neg (by omega), p4, hfi]
          rw [fo 213 (by decide), m3, hLi, r16]
          refine ⟨by rw [l0, eqN (by omega) (by omega)]; omega, b41 _ (by omega), fun M13 e13 => ⟨b41 _ (by omega), b41 _ (by omega), inb (by omega) (by omega), b41 _ (by omega), fun M19 e19 => ?_⟩⟩
          have en : nI nx + 1 - (nI nx + 1) / nI len * nI len = nnxt L f i := by
            unfold nnxt
            rw [nI_1, pk_rem (by omega) (by omega) (by omega), hfi, hLi, cl (by omega), cl (by omega)]
          rw [en] at e13
          have g4 : M13 214 = upd (upd (pst R L f i) i (ncor R L f i)) (16 + i) (nnxt L f i) := by rw [e13, up_s, f4]
          have go : ∀ a, a ≠ 214 → M13 a = M' a := fun a ha => by rw [e13, up_o ha, fo a ha]
          have r24 : M13 214 (24 + i) = f (24 + i) := by rw [g4]; unfold upd; rw [if_neg (by omega), if_neg (by omega), p5]
          have r0 : M13 214 i = ncor R L f i := by rw [g4]; unfold upd; rw [if_neg (by omega), if_pos rfl]
          rw [r24, r0, go 221 (by decide), e2 i hi] at e19
          refine ih M19 ?_ (fun c hc => by rw [e19, up_o (by decide), go 221 (by decide), e2 c hc]) (fun a b1 b2 => by rw [e19, up_o b1, go a b1, e3 a b1 b2])
          rw [e19, up_s, g4]
          exact pst_goes (by omega) hneg
        · obtain ⟨d, hd, hdc, hfd⟩ : ∃ d, d < n ∧ d ≠ i ∧ f (8 + i) = nI d := by
            rcases w2 i hi with q | q
            · exact absurd (hld.mpr q) hneg
            · exact q
          have en : ncor R L f i = f d := by unfold ncor; rw [if_neg hneg, hfd, cl (by omega)]
          rw [hfd, cl (show d < 1000000 by omega), e2 d hd, ← en]
          refine ⟨inb (by omega) (by omega), b41 _ (by omega), fun M22 e22 => ⟨b41 _ (by omega), b41 _ (by omega), inb (by omega) (by omega), b41 _ (by omega), fun M28 e28 => ?_⟩⟩
          have g4 : M22 214 = upd (pst R L f i) i (ncor R L f i) := by rw [e22, up_s, e1]
          have go : ∀ a, a ≠ 214 → M22 a = M' a := fun a ha => by rw [e22, up_o ha]
          have r24 : M22 214 (24 + i) = f (24 + i) := by rw [g4]; unfold upd; rw [if_neg (by omega), p5]
          have r0 : M22 214 i = ncor R L f i := by rw [g4]; unfold upd; rw [if_pos rfl]
          rw [r24, r0, go 221 (by decide), e2 i hi] at e28
          refine ih M28 ?_ (fun c hc => by rw [e28, up_o (by decide), go 221 (by decide), e2 c hc]) (fun a b1 b2 => by rw [e28, up_o b1, go a b1, e3 a b1 b2])
          rw [e28, up_s, g4]
          exact pst_follows (by omega) hneg
    exact key M' (by rw [pst_0]; exact e1) e2 e3
  have k1 : ∀ M', M' 214 = f → (∀ c, c < 0 → M' 221 c = f c) → (∀ a, a ≠ 214 → a ≠ 221 → M' a = M a) → X2 (nI 0) M' := by
    refine upto (P := fun i => ∀ M', M' 214 = f → (∀ c, c < i → M' 221 c = f c) → (∀ a, a ≠ 214 → a ≠ 221 → M' a = M a) → X2 (nI i) M') (n := n) ?_ ?_
    · intro M' e1 e2 e3
      apply h2
      unfold bd_X10_stepAll_2
      rw [e3 211 (by decide) (by decide), hc]
      have h0 := k2 M' e1 e2 e3
      rw [nI_0] at h0
      exact ⟨fun _ => h0, fun h => absurd ((leN (by omega) (by omega)).mpr (Nat.le_refl n)) h⟩
    · intro i hi ih M' e1 e2 e3
      apply h2
      unfold bd_X10_stepAll_2
      rw [e3 211 (by decide) (by decide), hc, leN (by omega) (by omega), cl (by omega), nI_1]
      refine ⟨fun h => absurd h (by omega), fun _ => ⟨inb (by omega) (by omega), inb (by omega) (by omega), fun M3 g => ih M3 (by rw [g, up_o (by decide), e1]) (fun c hc => ?_) (fun a b1 b2 => by rw [g, up_o b2, e3 a b1 b2])⟩⟩
      rw [g, up_s, e1]
      unfold upd
      by_cases e : c = i
      · rw [if_pos e, e]
      · rw [if_neg e]
        exact e2 c (by omega)
  have h0 := k1 M hf (fun c hc => by omega) (fun _ _ _ => rfl)
  rw [nI_0] at h0
  exact h0
theorem sp_stepTo {Q : Mem → Prop} {n k : Nat} {R L f : Nat → Int32} {M : Mem} (hk : k ≤ 1000) (hw : WF n R L f) (hc : M 211 2 = nI n) (hR : M 212 = R) (hL : M 213 = L) (hf : M 214 = f) (hq : ∀ M', M' 214 = stpN n R L f k → (∀ a, a ≠ 214 → a ≠ 221 → M' a = M a) → Q M') : wp_X10_stepTo Q (nI k) M := by
  intro X2 h2
  have key : ∀ M', M' 214 = stpN n R L f 0 → (∀ a, a ≠ 214 → a ≠ 221 → M' a = M a) → X2 (nI 0) M' := by
    refine upto (P := fun i => ∀ M', M' 214 = stpN n R L f i → (∀ a, a ≠ 214 → a ≠ 221 → M' a = M a) → X2 (nI i) M') (n := k) ?_ ?_
    · intro M' e1 e3
      apply h2
      exact ⟨fun _ => hq M' e1 e3, fun h => absurd ((leN (by omega) (by omega)).mpr (Nat.le_refl k)) h⟩
    · intro i hi ih M' e1 e3
      apply h2
      unfold bd_X10_stepTo_2
      rw [leN (by omega) (by omega), nI_1]
      refine ⟨fun h => absurd h (by omega), fun _ => sp_stepAll (WF_stpN hw i) (by rw [e3 211 (by decide) (by decide), hc]) (by rw [e3 212 (by decide) (by decide), hR]) (by rw [e3 213 (by decide) (by decide), hL]) e1 (fun M2 g1 g2 => ih M2 g1 (fun a b1 b2 => by rw [g2 a b1 b2, e3 a b1 b2]))⟩
  have k0 := key M hf (fun _ _ _ => rfl)
  rw [nI_0] at k0
  exact k0
