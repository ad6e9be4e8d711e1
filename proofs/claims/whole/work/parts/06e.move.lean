/-- the scene while a STEP is under way: i cars have gone -/
def SP (n : Nat) (R L f : Nat → Int32) (M0 M : Mem) (b i : Nat) : Prop := M b 0 = nI n ∧ M b 1 = f 40 ∧ (∀ c, c < n → M (b + 1) c = pst R L f i c ∧ M (b + 2) c = f (8 + c) ∧ M (b + 3) c = nI (rnum (dg R L f c) (L c).toNatClampNeg) ∧ M (b + 4) c = pst R L f i (16 + c) ∧ M (b + 5) c = pst R L f i (24 + c) ∧ M (b + 6) c = f c) ∧ ∀ a, (a < b ∨ b + 6 < a) → M a = M0 a
theorem SP_goes {n : Nat} {R L f : Nat → Int32} {M0 M : Mem} {b i : Nat} (hn : n ≤ 8) (hi : i < n) (h : SP n R L f M0 M b i) {x y z : Int32} (hx : x = pst R L f (i + 1) i) (hy : y = pst R L f (i + 1) (16 + i)) (hz : z = pst R L f (i + 1) (24 + i)) {M' : Mem} (e1 : M' (b + 1) = upd (M (b + 1)) i x) (e4 : M' (b + 4) = upd (M (b + 4)) i y) (e5 : M' (b + 5) = upd (M (b + 5)) i z) (eo : ∀ a, a ≠ b + 1 → a ≠ b + 4 → a ≠ b + 5 → M' a = M a) : SP n R L f M0 M' b (i + 1) := by
  obtain ⟨h0, h1, h2, h3⟩ := h
  refine ⟨by rw [eo b (by omega) (by omega) (by omega)]; exact h0, by rw [eo b (by omega) (by omega) (by omega)]; exact h1, fun c hc => ?_, fun a ha => by rw [eo a (by omega) (by omega) (by omega)]; exact h3 a ha⟩
  obtain ⟨g1, g2, g3, g4, g5, g6⟩ := h2 c hc
  refine ⟨?_, by rw [eo _ (by omega) (by omega) (by omega)]; exact g2, by rw [eo _ (by omega) (by omega) (by omega)]; exact g3, ?_, ?_, by rw [eo _ (by omega) (by omega) (by omega)]; exact g6⟩
  · rw [e1]
    unfold upd
    by_cases e : c = i
    · rw [if_pos e, hx, e]
    · rw [if_neg e, g1, pst_c (by omega), pst_c (by omega)]
      have a1 : (c < i + 1) = (c < i) := by apply propext; omega
      simp only [a1]
  · rw [e4]
    unfold upd
    by_cases e : c = i
    · rw [if_pos e, hy, e]
    · rw [if_neg e, g4, pst_16 (by omega), pst_16 (by omega)]
      have a1 : (c < i + 1) = (c < i) := by apply propext; omega
      simp only [a1]
  · rw [e5]
    unfold upd
    by_cases e : c = i
    · rw [if_pos e, hz, e]
    · rw [if_neg e, g5, pst_24 (by omega), pst_24 (by omega)]
      have a1 : (c < i + 1) = (c < i) := by apply propext; omega
      simp only [a1]
theorem upd_same {f : Nat → Int32} {i : Nat} {x : Int32} (h : x = f i) : upd f i x = f := by
  funext j
  unfold upd
  by_cases e : j = i
  · rw [if_pos e, e, h]
  · rw [if_neg e]
theorem sp_move {Q : Mem → Prop} {b n : Nat} {R L f : Nat → Int32} {M : Mem} (hw : WF n R L f) (hr : SR n R L f M b) (hq : ∀ M', SR n R L (stp n R L f) M' b → (∀ a, (a < b ∨ b + 6 < a) → M' a = M a) → Q M') : wp_X7_move Q b M := by
  have hw0 := hw
  obtain ⟨hn, w1, w2, w3, w4⟩ := hw
  intro X17 h17
  show ∀ M1 : Mem, M1 = upr M (b + 6) (cp8 (M (b + 1)) (M (b + 6))) → X17 0 M1
  intro M1 eM1
  have key : ∀ M', SP n R L f M M' b 0 → X17 (nI 0) M' := by
    refine upto (P := fun i => ∀ M', SP n R L f M M' b i → X17 (nI i) M') (n := n) ?_ ?_
    · intro M' hp
      apply h17
      unfold bd_X7_move_17
      obtain ⟨h0, h1, h2, h3⟩ := hp
      rw [h0]
      refine ⟨fun _ M2 e2 => hq M2 ?_ ?_, fun h => absurd ((leN (by omega) (by omega)).mpr (Nat.le_refl n)) h⟩
      · have eb : M2 b = upd (M' b) 1 (M' b 1 + 1) := by rw [e2, up_s]
        have eo : ∀ a, a ≠ b → M2 a = M' a := fun a ha => by rw [e2, up_o ha]
        refine ⟨?_, ?_, fun c hc => ?_⟩
        · rw [eb]; exact h0
        · rw [eb, stp_40, ← h1]; exact if_pos rfl
        · obtain ⟨g1, g2, g3, g4, g5, g6⟩ := h2 c hc
          rw [eo _ (by omega), eo _ (by omega), eo _ (by omega), eo _ (by omega), eo _ (by omega), stp_o (by omega), stp_o (by omega), stp_o (by omega), stp_o (by omega), pst_8 (by omega), rnum_cong _ (fun k _ => dg_stp (by omega))]
          exact ⟨g1, g2, g3, g4, g5⟩
      · intro a ha
        rw [e2, up_o (by omega)]
        exact h3 a ha
    · intro i hi ih M' hp
      apply h17
      unfold bd_X7_move_17
      have hp0 := hp
      obtain ⟨h0, h1, h2, h3⟩ := hp
      obtain ⟨g1, g2, g3, g4, g5, g6⟩ := h2 i hi
      have hin : vp_in (nI i) 8 := inb (by omega) (by omega)
      have ei : (nI i).toNatClampNeg = i := cl (by omega)
      have p1 : pst R L f i i = f i := by rw [pst_c (by omega), if_neg (by omega)]
      have p4 : pst R L f i (16 + i) = f (16 + i) := by rw [pst_16 (by omega), if_neg (by omega)]
      have p5 : pst R L f i (24 + i) = f (24 + i) := by rw [pst_24 (by omega), if_neg (by omega)]
      have q1 : pst R L f (i + 1) i = ncor R L f i := by rw [pst_c (by omega), if_pos (by omega)]
      have q5 : pst R L f (i + 1) (24 + i) = f (24 + i) + (if ncor R L f i = f i then 0 else 1) := by rw [pst_24 (by omega), if_pos (show i < i + 1 by omega)]
      have hld := neg_lead hn (w2 i hi)
      rw [h0, leN (by omega) (by omega)]
      simp only [ei, nI_1]
      rw [g2]
      refine ⟨fun h => absurd h (by omega), fun _ => ⟨hin, fun hl => ?_, fun hl => ?_⟩⟩
      · have hneg : f (8 + i) < 0 := hld.mpr hl
        have en : ncor R L f i = crn R L f i (f (16 + i)).toNatClampNeg := by unfold ncor; rw [if_pos hneg]
        have q4 : pst R L f (i + 1) (16 + i) = nnxt L f i := by rw [pst_16 (by omega), if_pos ⟨by omega, hneg⟩]
        refine sp_goRound hw0 hi g3 (by rw [g4, p4]) (fun M2 e2 => ⟨hin, fun M3 e3 => ⟨hin, hin, fun h => ?_, fun h => ⟨hin, hin, fun M4 e4 => ?_⟩⟩⟩)
        · have a1 : M3 (b + 1) = upd (M' (b + 1)) i (ncor R L f i) := by rw [e3, up_s, e2, up_o (by omega), en]
          have a4 : M3 (b + 4) = upd (M' (b + 4)) i (nnxt L f i) := by rw [e3, up_o (by omega), e2, up_s]
          have a5 : M3 (b + 5) = M' (b + 5) := by rw [e3, up_o (by omega), e2, up_o (by omega)]
          have a6 : M3 (b + 6) = M' (b + 6) := by rw [e3, up_o (by omega), e2, up_o (by omega)]
          rw [a1, a6, g6] at h
          have h' : ncor R L f i = f i := by rw [← h]; exact (if_pos rfl).symm
          refine ih M3 (SP_goes hn hi hp0 (x := ncor R L f i) (y := nnxt L f i) (z := f (24 + i)) q1.symm q4.symm (by rw [q5, if_pos h', Int32.add_zero]) a1 a4 ?_ (fun a b1 b2 b3 => by rw [e3, up_o b1, e2, up_o b2]))
          rw [a5, upd_same]
          rw [g5, p5]
        · have a1 : M3 (b + 1) = upd (M' (b + 1)) i (ncor R L f i) := by rw [e3, up_s, e2, up_o (by omega), en]
          have a5 : M3 (b + 5) = M' (b + 5) := by rw [e3, up_o (by omega), e2, up_o (by omega)]
          have a6 : M3 (b + 6) = M' (b + 6) := by rw [e3, up_o (by omega), e2, up_o (by omega)]
          rw [a1, a6, g6] at h
          have h' : ¬ ncor R L f i = f i := by intro q; apply h; rw [← q]; exact if_pos rfl
          refine ih M4 (SP_goes hn hi hp0 (x := ncor R L f i) (y := nnxt L f i) (z := f (24 + i) + 1) q1.symm q4.symm (by rw [q5, if_neg h']) ?_ ?_ ?_ (fun a b1 b2 b3 => by rw [e4, up_o b3, e3, up_o b1, e2, up_o b2]))
          · rw [e4, up_o (by omega), a1]
          · rw [e4, up_o (by omega), e3, up_o (by omega), e2, up_s]
          · rw [e4, up_s, a5, g5, p5]
      · have hneg : ¬ f (8 + i) < 0 := fun q => hl (hld.mp q)
        obtain ⟨d, hd, hdc, hf⟩ : ∃ d, d < n ∧ d ≠ i ∧ f (8 + i) = nI d := by
          rcases w2 i hi with q | q
          · exact absurd q hl
          · exact q
        have en : ncor R L f i = f d := by unfold ncor; rw [if_neg hneg, hf, cl (by omega)]
        have q4 : pst R L f (i + 1) (16 + i) = f (16 + i) := by rw [pst_16 (by omega), if_neg (fun q => hneg q.2)]
        have g6d := (h2 d hd).2.2.2.2.2
        rw [hf, cl (show d < 1000000 by omega), g6d]
        refine ⟨hin, inb (by omega) (by omega), hin, fun M3 e3 => ⟨hin, hin, fun h => ?_, fun h => ⟨hin, hin, fun M4 e4 => ?_⟩⟩⟩
        · have a1 : M3 (b + 1) = upd (M' (b + 1)) i (ncor R L f i) := by rw [e3, up_s, en]
          have ao : ∀ a, a ≠ b + 1 → M3 a = M' a := fun a ha => by rw [e3, up_o ha]
          rw [a1, ao (b + 6) (by omega), g6] at h
          have h' : ncor R L f i = f i := by rw [← h]; exact (if_pos rfl).symm
          refine ih M3 (SP_goes hn hi hp0 (x := ncor R L f i) (y := f (16 + i)) (z := f (24 + i)) q1.symm q4.symm (by rw [q5, if_pos h', Int32.add_zero]) a1 ?_ ?_ (fun a b1 b2 b3 => ao a b1))
          · rw [ao (b + 4) (by omega), upd_same]
            rw [g4, p4]
          · rw [ao (b + 5) (by omega), upd_same]
            rw [g5, p5]
        · have a1 : M3 (b + 1) = upd (M' (b + 1)) i (ncor R L f i) := by rw [e3, up_s, en]
          have ao : ∀ a, a ≠ b + 1 → M3 a = M' a := fun a ha => by rw [e3, up_o ha]
          rw [a1, ao (b + 6) (by omega), g6] at h
          have h' : ¬ ncor R L f i = f i := by intro q; apply h; rw [← q]; exact if_pos rfl
          refine ih M4 (SP_goes hn hi hp0 (x := ncor R L f i) (y := f (16 + i)) (z := f (24 + i) + 1) q1.symm q4.symm (by rw [q5, if_neg h']) ?_ ?_ ?_ (fun a b1 b2 b3 => by rw [e4, up_o b3, ao a b1]))
          · rw [e4, up_o (by omega), a1]
          · rw [e4, up_o (by omega), ao (b + 4) (by omega), upd_same]
            rw [g4, p4]
          · rw [e4, up_s, ao (b + 5) (by omega), g5, p5]
  have k0 := key M1 ?_
  · rw [nI_0] at k0; exact k0
  · obtain ⟨r0, r1, r2⟩ := hr
    have eo : ∀ a, a ≠ b + 6 → M1 a = M a := fun a ha => by rw [eM1, upr_o ha]
    refine ⟨by rw [eo b (by omega)]; exact r0, by rw [eo b (by omega)]; exact r1, fun c hc => ?_, fun a ha => eo a (by omega)⟩
    obtain ⟨g1, g2, g3, g4, g5⟩ := r2 c hc
    rw [pst_0, eo _ (by omega), eo _ (by omega), eo _ (by omega), eo _ (by omega), eo _ (by omega), eM1, upr_s]
    refine ⟨g1, g2, g3, g4, g5, ?_⟩
    unfold cp8
    rw [if_pos (by omega), g1]
