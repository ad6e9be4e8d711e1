set_option maxRecDepth 4000 in
theorem wk_X7_allFollowers {w : Wx} {G : Gx} {Q : Int32 → Mem → Prop} (C : Cx w G cX7_allFollowers RX7 0 0 3) (Rt : ∀ (pc : Nat) (lv : List (Nat × Value)) (r0 : Int32) (M0 : Mem), decode cX7_allFollowers pc = .ok (.ireturn, 1) → Q r0 M0 → V w G pc lv [.int r0] M0) (b : Nat) (hb : Sc b) (M : Mem) (h : bd_X7_allFollowers Q (fun (x1 : Int32) (x2 : Int32) (M : Mem) => V w G 4 [(0, .ref (w.2.1 b)), (1, .int x1), (2, .int x2)] [] M) b M) : V w G 0 [(0, .ref (w.2.1 b))] [] M := by
  unfold bd_X7_allFollowers at h
  refine v_kc C (0) (by decide) dX7_allFollowers_0 ?_
  refine v_istore_n C [(1, .int ((0 : Int32))), (0, .ref (w.2.1 b))] rfl (by decide) dX7_allFollowers_1 ?_
  refine v_kc C (0) (by decide) dX7_allFollowers_2 ?_
  refine v_istore_n C [(2, .int ((0 : Int32))), (1, .int ((0 : Int32))), (0, .ref (w.2.1 b))] rfl (by decide) dX7_allFollowers_3 ?_
  exact V.sub [2, 1, 0] rfl h
set_option maxRecDepth 4000 in
theorem wk_X7_allFollowers_4 {w : Wx} {G : Gx} {Q : Int32 → Mem → Prop} (C : Cx w G cX7_allFollowers RX7 0 0 3) (Rt : ∀ (pc : Nat) (lv : List (Nat × Value)) (r0 : Int32) (M0 : Mem), decode cX7_allFollowers pc = .ok (.ireturn, 1) → Q r0 M0 → V w G pc lv [.int r0] M0) (b : Nat) (hb : Sc b) (x1 : Int32) (x2 : Int32) (M : Mem) (h : bd_X7_allFollowers_4 Q (fun (x1 : Int32) (x2 : Int32) (M : Mem) => V w G 4 [(0, .ref (w.2.1 b)), (1, .int x1), (2, .int x2)] [] M) b x1 x2 M) : V w G 4 [(0, .ref (w.2.1 b)), (1, .int x1), (2, .int x2)] [] M := by
  unfold bd_X7_allFollowers_4 at h
  refine v_iload_n C 2 rfl dX7_allFollowers_4 ?_
  refine v_aload_n C 0 rfl dX7_allFollowers_5 ?_
  refine g6_0 C hb.l0 hb.k0 fl_X7_9 dX7_allFollowers_6 ?_
  refine v_icmp_ge C 34 (by decide) dX7_allFollowers_9 (fun hc => ?_) (fun hc => ?_)
  · have h := h.1 hc
    refine v_iload_n C 1 rfl dX7_allFollowers_34 ?_
    exact Rt _ _ _ _ dX7_allFollowers_35 h
  · have h := h.2 hc
    refine v_aload_n C 0 rfl dX7_allFollowers_12 ?_
    refine g6_3 C hb.l0 hb.k0 fl_X7_22 dX7_allFollowers_13 ?_
    refine v_iload_n C 2 rfl dX7_allFollowers_16 ?_
    obtain ⟨s1, h⟩ := h
    refine v_iald C hb.l2 hb.k2 hb.n2 s1 dX7_allFollowers_17 ?_
    refine v_kc C (-1) (by decide) dX7_allFollowers_18 ?_
    refine v_icmp_eq C 28 (by decide) dX7_allFollowers_19 (fun hc => ?_) (fun hc => ?_)
    · have h := h.1 hc
      refine v_iinc C (j := 2) [(2, .int (x2 + 1)), (0, .ref (w.2.1 b)), (1, .int x1)] rfl (x2 + 1) rfl rfl (by decide) dX7_allFollowers_28 ?_
      refine v_goto C 4 (by decide) dX7_allFollowers_31 ?_
      exact V.sub [1, 2, 0] rfl h
    · have h := h.2 hc
      refine v_iload_n C 1 rfl dX7_allFollowers_22 ?_
      refine v_kc C (1) (by decide) dX7_allFollowers_23 ?_
      refine v_iload_n C 2 rfl dX7_allFollowers_24 ?_
      refine v_ishl C dX7_allFollowers_25 ?_
      refine v_ior C dX7_allFollowers_26 ?_
      refine v_istore_n C [(1, .int (x1 ||| (((1 : Int32)) <<< (x2 &&& 31)))), (0, .ref (w.2.1 b)), (2, .int x2)] rfl (by decide) dX7_allFollowers_27 ?_
      refine v_iinc C (j := 2) [(2, .int (x2 + 1)), (1, .int (x1 ||| (((1 : Int32)) <<< (x2 &&& 31)))), (0, .ref (w.2.1 b))] rfl (x2 + 1) rfl rfl (by decide) dX7_allFollowers_28 ?_
      refine v_goto C 4 (by decide) dX7_allFollowers_31 ?_
      exact V.sub [2, 1, 0] rfl h
theorem mt_X7_allFollowers {w : Wx} {l : Launch} : Ct_X7_allFollowers w l := by
  intro b M hb Q h
  refine met_i (by decide +kernel) (Nat.le_of_ble_eq_true rfl) (fun G C hG Rt => ?_)
  subst hG
  exact wk_X7_allFollowers C Rt b hb M (h _ (fun x1 x2 M h => wk_X7_allFollowers_4 C Rt b hb x1 x2 M h))
theorem ct_X7_allFollowers (w : Wx) (l : Launch) : Ct_X7_allFollowers w l := mt_X7_allFollowers
set_option maxRecDepth 4000 in
theorem wk_X7_leadersOf {w : Wx} {G : Gx} {Q : Int32 → Mem → Prop} (C : Cx w G cX7_leadersOf RX7 0 0 5) (Rt : ∀ (pc : Nat) (lv : List (Nat × Value)) (r0 : Int32) (M0 : Mem), decode cX7_leadersOf pc = .ok (.ireturn, 1) → Q r0 M0 → V w G pc lv [.int r0] M0) (b : Nat) (a1 : Int32) (hb : Sc b) (M : Mem) (h : bd_X7_leadersOf Q (fun (x2 : Int32) (x3 : Int32) (x4 : Int32) (M : Mem) => V w G 12 [(0, .ref (w.2.1 b)), (2, .int x2), (3, .int x3), (4, .int x4)] [] M) b a1 M) : V w G 0 [(0, .ref (w.2.1 b)), (1, .int a1)] [] M := by
  unfold bd_X7_leadersOf at h
  refine v_kc C (0) (by decide) dX7_leadersOf_0 ?_
  refine v_istore_n C [(2, .int ((0 : Int32))), (0, .ref (w.2.1 b)), (1, .int a1)] rfl (by decide) dX7_leadersOf_1 ?_
  refine v_aload_n C 1 rfl dX7_leadersOf_2 ?_
  refine g6_3 C hb.l0 hb.k0 fl_X7_22 dX7_leadersOf_3 ?_
  refine v_iload_n C 2 rfl dX7_leadersOf_6 ?_
  obtain ⟨s1, h⟩ := h
  refine v_iald C hb.l2 hb.k2 hb.n2 s1 dX7_leadersOf_7 ?_
  refine v_istore_n C [(3, .int (M (b + 2) a1.toNatClampNeg)), (2, .int ((0 : Int32))), (0, .ref (w.2.1 b)), (1, .int a1)] rfl (by decide) dX7_leadersOf_8 ?_
  refine v_kc C (0) (by decide) dX7_leadersOf_9 ?_
  refine v_istore C [(4, .int ((0 : Int32))), (3, .int (M (b + 2) a1.toNatClampNeg)), (2, .int ((0 : Int32))), (0, .ref (w.2.1 b)), (1, .int a1)] rfl (by decide) dX7_leadersOf_10 ?_
  exact V.sub [3, 2, 1, 0] rfl h
set_option maxRecDepth 4000 in
theorem wk_X7_leadersOf_12 {w : Wx} {G : Gx} {Q : Int32 → Mem → Prop} (C : Cx w G cX7_leadersOf RX7 0 0 5) (Rt : ∀ (pc : Nat) (lv : List (Nat × Value)) (r0 : Int32) (M0 : Mem), decode cX7_leadersOf pc = .ok (.ireturn, 1) → Q r0 M0 → V w G pc lv [.int r0] M0) (b : Nat) (a1 : Int32) (hb : Sc b) (x2 : Int32) (x3 : Int32) (x4 : Int32) (M : Mem) (h : bd_X7_leadersOf_12 Q (fun (x2 : Int32) (x3 : Int32) (x4 : Int32) (M : Mem) => V w G 12 [(0, .ref (w.2.1 b)), (2, .int x2), (3, .int x3), (4, .int x4)] [] M) b a1 x2 x3 x4 M) : V w G 12 [(0, .ref (w.2.1 b)), (2, .int x2), (3, .int x3), (4, .int x4)] [] M := by
  unfold bd_X7_leadersOf_12 at h
  refine v_iload C 3 rfl dX7_leadersOf_12 ?_
  refine v_aload_n C 0 rfl dX7_leadersOf_14 ?_
  refine g6_0 C hb.l0 hb.k0 fl_X7_9 dX7_leadersOf_15 ?_
  refine v_icmp_ge C 45 (by decide) dX7_leadersOf_18 (fun hc => ?_) (fun hc => ?_)
  · have h := h.1 hc
    refine v_iload_n C 1 rfl dX7_leadersOf_45 ?_
    exact Rt _ _ _ _ dX7_leadersOf_46 h
  · have h := h.2 hc
    refine v_iload_n C 2 rfl dX7_leadersOf_21 ?_
    refine v_kc C (-1) (by decide) dX7_leadersOf_22 ?_
    refine v_icmp_eq C 45 (by decide) dX7_leadersOf_23 (fun hc => ?_) (fun hc => ?_)
    · have h := h.1 hc
      refine v_iload_n C 1 rfl dX7_leadersOf_45 ?_
      exact Rt _ _ _ _ dX7_leadersOf_46 h
    · have h := h.2 hc
      refine v_iload_n C 1 rfl dX7_leadersOf_26 ?_
      refine v_kc C (1) (by decide) dX7_leadersOf_27 ?_
      refine v_iload_n C 2 rfl dX7_leadersOf_28 ?_
      refine v_ishl C dX7_leadersOf_29 ?_
      refine v_ior C dX7_leadersOf_30 ?_
      refine v_istore_n C [(2, .int (x2 ||| (((1 : Int32)) <<< (x3 &&& 31)))), (0, .ref (w.2.1 b)), (3, .int x3), (4, .int x4)] rfl (by decide) dX7_leadersOf_31 ?_
      refine v_aload_n C 1 rfl dX7_leadersOf_32 ?_
      refine g6_3 C hb.l0 hb.k0 fl_X7_22 dX7_leadersOf_33 ?_
      refine v_iload_n C 2 rfl dX7_leadersOf_36 ?_
      obtain ⟨s1, h⟩ := h
      refine v_iald C hb.l2 hb.k2 hb.n2 s1 dX7_leadersOf_37 ?_
      refine v_istore_n C [(3, .int (M (b + 2) x3.toNatClampNeg)), (2, .int (x2 ||| (((1 : Int32)) <<< (x3 &&& 31)))), (0, .ref (w.2.1 b)), (4, .int x4)] rfl (by decide) dX7_leadersOf_38 ?_
      refine v_iinc C (j := 3) [(4, .int (x4 + 1)), (3, .int (M (b + 2) x3.toNatClampNeg)), (2, .int (x2 ||| (((1 : Int32)) <<< (x3 &&& 31)))), (0, .ref (w.2.1 b))] rfl (x4 + 1) rfl rfl (by decide) dX7_leadersOf_39 ?_
      refine v_goto C 12 (by decide) dX7_leadersOf_42 ?_
      exact V.sub [3, 2, 1, 0] rfl h
theorem mt_X7_leadersOf {w : Wx} {l : Launch} : Ct_X7_leadersOf w l := by
  intro b a1 M hb Q h
  refine met_i (by decide +kernel) (Nat.le_of_ble_eq_true rfl) (fun G C hG Rt => ?_)
  subst hG
  exact wk_X7_leadersOf C Rt b a1 hb M (h _ (fun x2 x3 x4 M h => wk_X7_leadersOf_12 C Rt b a1 hb x2 x3 x4 M h))
theorem ct_X7_leadersOf (w : Wx) (l : Launch) : Ct_X7_leadersOf w l := mt_X7_leadersOf
set_option maxRecDepth 4000 in
theorem wk_X9_isIn {w : Wx} {G : Gx} {Q : Int32 → Mem → Prop} (C : Cx w G cX9_isIn RX9 0 0 2) (Rt : ∀ (pc : Nat) (lv : List (Nat × Value)) (r0 : Int32) (M0 : Mem), decode cX9_isIn pc = .ok (.ireturn, 1) → (r0 = 0 ∨ r0 = 1) → Q r0 M0 → V w G pc lv [.int r0] M0) (a0 : Int32) (a1 : Int32) (M : Mem) (h : bd_X9_isIn Q a0 a1 M) : V w G 0 [(0, .int a0), (1, .int a1)] [] M := by
  unfold bd_X9_isIn at h
  refine v_iload_n C 0 rfl dX9_isIn_0 ?_
  refine v_iload_n C 1 rfl dX9_isIn_1 ?_
  refine v_ishr C dX9_isIn_2 ?_
  refine v_kc C (1) (by decide) dX9_isIn_3 ?_
  refine v_iand C dX9_isIn_4 ?_
  have key1 : V w G 13 [(0, .int a0), (1, .int a1)] (.int (if ((a0 >>> (a1 &&& 31)) &&& ((1 : Int32))) = 0 then (0 : Int32) else (1 : Int32)) :: []) M := by
    exact Rt _ _ _ _ dX9_isIn_13 h.1 h.2
  refine v_if_eq C 12 (by decide) dX9_isIn_5 (fun hc => ?_) (fun hc => ?_)
  · rw [show (if ((a0 >>> (a1 &&& 31)) &&& ((1 : Int32))) = 0 then (0 : Int32) else (1 : Int32) : Int32) = (0 : Int32) from if_pos hc] at key1
    refine v_kc C (0) (by decide) dX9_isIn_12 ?_
    exact key1
  · rw [show (if ((a0 >>> (a1 &&& 31)) &&& ((1 : Int32))) = 0 then (0 : Int32) else (1 : Int32) : Int32) = (1 : Int32) from if_neg hc] at key1
    refine v_kc C (1) (by decide) dX9_isIn_8 ?_
    refine v_goto C 13 (by decide) dX9_isIn_9 ?_
    exact key1
theorem mt_X9_isIn {w : Wx} {l : Launch} : Ct_X9_isIn w l := by
  intro a0 a1 M Q h
  refine met_z (by decide +kernel) (Nat.le_of_ble_eq_true rfl) (fun G C hG Rt => ?_)
  subst hG
  exact wk_X9_isIn C Rt a0 a1 M (h)
theorem ct_X9_isIn (w : Wx) (l : Launch) : Ct_X9_isIn w l := mt_X9_isIn
set_option maxRecDepth 4000 in
theorem wk_X7_ringOf {w : Wx} {G : Gx} {Q : Int32 → Mem → Prop} (C : Cx w G cX7_ringOf RX7 1 24 3) (Rt : ∀ (pc : Nat) (lv : List (Nat × Value)) (r0 : Int32) (M0 : Mem), decode cX7_ringOf pc = .ok (.ireturn, 1) → Q r0 M0 → V w G pc lv [.int r0] M0) (k_X7_leadersOf : Ct_X7_leadersOf w G.2.1) (k_X9_isIn : Ct_X9_isIn w G.2.1) (b : Nat) (a1 : Int32) (hb : Sc b) (M : Mem) (h : bd_X7_ringOf Q b a1 M) : V w G 0 [(0, .ref (w.2.1 b)), (1, .int a1)] [] M := by
  unfold bd_X7_ringOf at h
  refine v_aload_n C 0 rfl dX7_ringOf_0 ?_
  refine v_iload_n C 1 rfl dX7_ringOf_1 ?_
  refine v_callI C [] (k_X7_leadersOf b a1 M hb _ h) yX7_leadersOf_k ml_X7_66 (rcv6 hb.l0 hb.k0) rfl rfl (Nat.le_of_ble_eq_true rfl) ⟨by decide, by decide⟩ dX7_ringOf_2 (fun r1 M1 h => ?_)
  refine v_istore_n C [(2, .int r1), (0, .ref (w.2.1 b)), (1, .int a1)] rfl (by decide) dX7_ringOf_5 ?_
  refine v_iload_n C 0 rfl dX7_ringOf_6 ?_
  refine v_iload_n C 2 rfl dX7_ringOf_7 ?_
  refine v_callNI C [] (k_X9_isIn r1 a1 M1 _ h) yX9_isIn_k mn_X7_62 rfl rfl (Nat.le_of_ble_eq_true rfl) ⟨by decide, by decide⟩ dX7_ringOf_8 (fun r2 M2 h => ?_)
  have key3 : V w G 19 [(2, .int r1), (0, .ref (w.2.1 b)), (1, .int a1)] (.int (if r2 = 0 then (0 : Int32) else r1) :: []) M2 := by
    exact Rt _ _ _ _ dX7_ringOf_19 h
  refine v_if_eq C 18 (by decide) dX7_ringOf_11 (fun hc => ?_) (fun hc => ?_)
  · rw [show (if r2 = 0 then (0 : Int32) else r1 : Int32) = (0 : Int32) from if_pos hc] at key3
    refine v_kc C (0) (by decide) dX7_ringOf_18 ?_
    exact key3
  · rw [show (if r2 = 0 then (0 : Int32) else r1 : Int32) = r1 from if_neg hc] at key3
    refine v_iload_n C 0 rfl dX7_ringOf_14 ?_
    refine v_goto C 19 (by decide) dX7_ringOf_15 ?_
    exact key3
theorem mt_X7_ringOf {w : Wx} {l : Launch} (k_X7_leadersOf : Ct_X7_leadersOf w l) (k_X9_isIn : Ct_X9_isIn w l) : Ct_X7_ringOf w l := by
  intro b a1 M hb Q h
  refine met_i (by decide +kernel) (Nat.le_of_ble_eq_true rfl) (fun G C hG Rt => ?_)
  subst hG
  exact wk_X7_ringOf C Rt k_X7_leadersOf k_X9_isIn b a1 hb M (h)
theorem ct_X7_ringOf (w : Wx) (l : Launch) : Ct_X7_ringOf w l := mt_X7_ringOf (ct_X7_leadersOf w l) (ct_X9_isIn w l)
set_option maxRecDepth 4000 in
theorem wk_X7_leastOfRings {w : Wx} {G : Gx} {Q : Int32 → Mem → Prop} (C : Cx w G cX7_leastOfRings RX7 2 46 4) (Rt : ∀ (pc : Nat) (lv : List (Nat × Value)) (r0 : Int32) (M0 : Mem), decode cX7_leastOfRings pc = .ok (.ireturn, 1) → Q r0 M0 → V w G pc lv [.int r0] M0) (k_X7_ringOf : Ct_X7_ringOf w G.2.1) (b : Nat) (hb : Sc b) (M : Mem) (h : bd_X7_leastOfRings Q (fun (x1 : Int32) (x2 : Int32) (M : Mem) => V w G 4 [(0, .ref (w.2.1 b)), (1, .int x1), (2, .int x2)] [] M) b M) : V w G 0 [(0, .ref (w.2.1 b))] [] M := by
  unfold bd_X7_leastOfRings at h
  refine v_kc C (0) (by decide) dX7_leastOfRings_0 ?_
  refine v_istore_n C [(1, .int ((0 : Int32))), (0, .ref (w.2.1 b))] rfl (by decide) dX7_leastOfRings_1 ?_
  refine v_kc C (0) (by decide) dX7_leastOfRings_2 ?_
  refine v_istore_n C [(2, .int ((0 : Int32))), (1, .int ((0 : Int32))), (0, .ref (w.2.1 b))] rfl (by decide) dX7_leastOfRings_3 ?_
  exact V.sub [2, 1, 0] rfl h
set_option maxRecDepth 4000 in
theorem wk_X7_leastOfRings_4 {w : Wx} {G : Gx} {Q : Int32 → Mem → Prop} (C : Cx w G cX7_leastOfRings RX7 2 46 4) (Rt : ∀ (pc : Nat) (lv : List (Nat × Value)) (r0 : Int32) (M0 : Mem), decode cX7_leastOfRings pc = .ok (.ireturn, 1) → Q r0 M0 → V w G pc lv [.int r0] M0) (k_X7_ringOf : Ct_X7_ringOf w G.2.1) (b : Nat) (hb : Sc b) (x1 : Int32) (x2 : Int32) (M : Mem) (h : bd_X7_leastOfRings_4 Q (fun (x1 : Int32) (x2 : Int32) (M : Mem) => V w G 4 [(0, .ref (w.2.1 b)), (1, .int x1), (2, .int x2)] [] M) b x1 x2 M) : V w G 4 [(0, .ref (w.2.1 b)), (1, .int x1), (2, .int x2)] [] M := by
  unfold bd_X7_leastOfRings_4 at h
  refine v_iload_n C 2 rfl dX7_leastOfRings_4 ?_
  refine v_aload_n C 0 rfl dX7_leastOfRings_5 ?_
  refine g6_0 C hb.l0 hb.k0 fl_X7_9 dX7_leastOfRings_6 ?_
  refine v_icmp_ge C 31 (by decide) dX7_leastOfRings_9 (fun hc => ?_) (fun hc => ?_)
  · have h := h.1 hc
    refine v_iload_n C 1 rfl dX7_leastOfRings_31 ?_
    exact Rt _ _ _ _ dX7_leastOfRings_32 h
  · have h := h.2 hc
    refine v_aload_n C 0 rfl dX7_leastOfRings_12 ?_
    refine v_iload_n C 2 rfl dX7_leastOfRings_13 ?_
    refine v_callI C [] (k_X7_ringOf b x2 M hb _ h) yX7_ringOf_k ml_X7_69 (rcv6 hb.l0 hb.k0) rfl rfl (Nat.le_of_ble_eq_true rfl) ⟨by decide, by decide⟩ dX7_leastOfRings_14 (fun r1 M1 h => ?_)
    refine v_istore_n C [(3, .int r1), (0, .ref (w.2.1 b)), (1, .int x1), (2, .int x2)] rfl (by decide) dX7_leastOfRings_17 ?_
    refine v_iload_n C 2 rfl dX7_leastOfRings_18 ?_
    refine v_iload_n C 0 rfl dX7_leastOfRings_19 ?_
    refine v_iload_n C 0 rfl dX7_leastOfRings_20 ?_
    refine v_ineg C dX7_leastOfRings_21 ?_
    refine v_iand C dX7_leastOfRings_22 ?_
    refine v_ior C dX7_leastOfRings_23 ?_
    refine v_istore_n C [(1, .int (x1 ||| (r1 &&& (-r1)))), (3, .int r1), (0, .ref (w.2.1 b)), (2, .int x2)] rfl (by decide) dX7_leastOfRings_24 ?_
    refine v_iinc C (j := 3) [(2, .int (x2 + 1)), (1, .int (x1 ||| (r1 &&& (-r1)))), (3, .int r1), (0, .ref (w.2.1 b))] rfl (x2 + 1) rfl rfl (by decide) dX7_leastOfRings_25 ?_
    refine v_goto C 4 (by decide) dX7_leastOfRings_28 ?_
    exact V.sub [3, 1, 0] rfl h
theorem mt_X7_leastOfRings {w : Wx} {l : Launch} (k_X7_ringOf : Ct_X7_ringOf w l) : Ct_X7_leastOfRings w l := by
  intro b M hb Q h
  refine met_i (by decide +kernel) (Nat.le_of_ble_eq_true rfl) (fun G C hG Rt => ?_)
  subst hG
  exact wk_X7_leastOfRings C Rt k_X7_ringOf b hb M (h _ (fun x1 x2 M h => wk_X7_leastOfRings_4 C Rt k_X7_ringOf b hb x1 x2 M h))
theorem ct_X7_leastOfRings (w : Wx) (l : Launch) : Ct_X7_leastOfRings w l := mt_X7_leastOfRings (ct_X7_ringOf w l)
set_option maxRecDepth 4000 in
theorem wk_J6_bitCount_0f7a4 {w : Wx} {G : Gx} {Q : Int32 → Mem → Prop} (C : Cx w G cJ6_bitCount_0f7a4 RJ6 0 0 1) (Rt : ∀ (pc : Nat) (lv : List (Nat × Value)) (r0 : Int32) (M0 : Mem), decode cJ6_bitCount_0f7a4 pc = .ok (.ireturn, 1) → Q r0 M0 → V w G pc lv [.int r0] M0) (a0 : Int32) (M : Mem) (h : bd_J6_bitCount_0f7a4 Q a0 M) : V w G 0 [(0, .int a0)] [] M := by
  unfold bd_J6_bitCount_0f7a4 at h
  refine v_iload_n C 0 rfl dJ6_bitCount_0f7a4_0 ?_
  refine v_iload_n C 0 rfl dJ6_bitCount_0f7a4_1 ?_
  refine v_kc C (1) (by decide) dJ6_bitCount_0f7a4_2 ?_
  refine v_iushr C dJ6_bitCount_0f7a4_3 ?_
  refine v_ldcw C kc_J6_265 dJ6_bitCount_0f7a4_4 ?_
  refine v_iand C dJ6_bitCount_0f7a4_7 ?_
  refine v_isub C dJ6_bitCount_0f7a4_8 ?_
  refine v_istore_n C [(0, .int (a0 - (((a0.toUInt32 >>> (((1 : Int32)).toUInt32 &&& Int32.toUInt32 31)).toInt32) &&& ((1431655765 : Int32)))))] rfl (by decide) dJ6_bitCount_0f7a4_9 ?_
  refine v_iload_n C 0 rfl dJ6_bitCount_0f7a4_10 ?_
  refine v_ldcw C kc_J6_266 dJ6_bitCount_0f7a4_11 ?_
  refine v_iand C dJ6_bitCount_0f7a4_14 ?_
  refine v_iload_n C 0 rfl dJ6_bitCount_0f7a4_15 ?_
  refine v_kc C (2) (by decide) dJ6_bitCount_0f7a4_16 ?_
  refine v_iushr C dJ6_bitCount_0f7a4_17 ?_
  refine v_ldcw C kc_J6_266 dJ6_bitCount_0f7a4_18 ?_
  refine v_iand C dJ6_bitCount_0f7a4_21 ?_
  refine v_iadd C dJ6_bitCount_0f7a4_22 ?_
  refine v_istore_n C [(0, .int (((a0 - (((a0.toUInt32 >>> (((1 : Int32)).toUInt32 &&& Int32.toUInt32 31)).toInt32) &&& ((1431655765 : Int32)))) &&& ((858993459 : Int32))) + ((((a0 - (((a0.toUInt32 >>> (((1 : Int32)).toUInt32 &&& Int32.toUInt32 31)).toInt32) &&& ((1431655765 : Int32)))).toUInt32 >>> (((2 : Int32)).toUInt32 &&& Int32.toUInt32 31)).toInt32) &&& ((858993459 : Int32)))))] rfl (by decide) dJ6_bitCount_0f7a4_23 ?_
  refine v_iload_n C 0 rfl dJ6_bitCount_0f7a4_24 ?_
  refine v_iload_n C 0 rfl dJ6_bitCount_0f7a4_25 ?_
  refine v_kc C (4) (by decide) dJ6_bitCount_0f7a4_26 ?_
  refine v_iushr C dJ6_bitCount_0f7a4_27 ?_
  refine v_iadd C dJ6_bitCount_0f7a4_28 ?_
  refine v_ldcw C kc_J6_267 dJ6_bitCount_0f7a4_29 ?_
  refine v_iand C dJ6_bitCount_0f7a4_32 ?_
  refine v_istore_n C [(0, .int (((((a0 - (((a0.toUInt32 >>> (((1 : Int32)).toUInt32 &&& Int32.toUInt32 31)).toInt32) &&& ((1431655765 : Int32)))) &&& ((858993459 : Int32))) + ((((a0 - (((a0.toUInt32 >>> (((1 : Int32)).toUInt32 &&& Int32.toUInt32 31)).toInt32) &&& ((1431655765 : Int32)))).toUInt32 >>> (((2 : Int32)).toUInt32 &&& Int32.toUInt32 31)).toInt32) &&& ((858993459 : Int32)))) + (((((a0 - (((a0.toUInt32 >>> (((1 : Int32)).toUInt32 &&& Int32.toUInt32 31)).toInt32) &&& ((1431655765 : Int32)))) &&& ((858993459 : Int32))) + ((((a0 - (((a0.toUInt32 >>> (((1 : Int32)).toUInt32 &&& Int32.toUInt32 31)).toInt32) &&& ((1431655765 : Int32)))).toUInt32 >>> (((2 : Int32)).toUInt32 &&& Int32.toUInt32 31)).toInt32) &&& ((858993459 : Int32)))).toUInt32 >>> (((4 : Int32)).toUInt32 &&& Int32.toUInt32 31)).toInt32)) &&& ((252645135 : Int32))))] rfl (by decide) dJ6_bitCount_0f7a4_33 ?_
  refine v_iload_n C 0 rfl dJ6_bitCount_0f7a4_34 ?_
  refine v_iload_n C 0 rfl dJ6_bitCount_0f7a4_35 ?_
  refine v_kb C (8) (by decide) dJ6_bitCount_0f7a4_36 ?_
  refine v_iushr C dJ6_bitCount_0f7a4_38 ?_
  refine v_iadd C dJ6_bitCount_0f7a4_39 ?_
  refine v_istore_n C [(0, .int ((((((a0 - (((a0.toUInt32 >>> (((1 : Int32)).toUInt32 &&& Int32.toUInt32 31)).toInt32) &&& ((1431655765 : Int32)))) &&& ((858993459 : Int32))) + ((((a0 - (((a0.toUInt32 >>> (((1 : Int32)).toUInt32 &&& Int32.toUInt32 31)).toInt32) &&& ((1431655765 : Int32)))).toUInt32 >>> (((2 : Int32)).toUInt32 &&& Int32.toUInt32 31)).toInt32) &&& ((858993459 : Int32)))) + (((((a0 - (((a0.toUInt32 >>> (((1 : Int32)).toUInt32 &&& Int32.toUInt32 31)).toInt32) &&& ((1431655765 : Int32)))) &&& ((858993459 : Int32))) + ((((a0 - (((a0.toUInt32 >>> (((1 : Int32)).toUInt32 &&& Int32.toUInt32 31)).toInt32) &&& ((1431655765 : Int32)))).toUInt32 >>> (((2 : Int32)).toUInt32 &&& Int32.toUInt32 31)).toInt32) &&& ((858993459 : Int32)))).toUInt32 >>> (((4 : Int32)).toUInt32 &&& Int32.toUInt32 31)).toInt32)) &&& ((252645135 : Int32))) + (((((((a0 - (((a0.toUInt32 >>> (((1 : Int32)).toUInt32 &&& Int32.toUInt32 31)).toInt32) &&& ((1431655765 : Int32)))) &&& ((858993459 : Int32))) + ((((a0 - (((a0.toUInt32 >>> (((1 : Int32)).toUInt32 &&& Int32.toUInt32 31)).toInt32) &&& ((1431655765 : Int32)))).toUInt32 >>> (((2 : Int32)).toUInt32 &&& Int32.toUInt32 31)).toInt32) &&& ((858993459 : Int32)))) + (((((a0 - (((a0.toUInt32 >>> (((1 : Int32)).toUInt32 &&& Int32.toUInt32 31)).toInt32) &&& ((1431655765 : Int32)))) &&& ((858993459 : Int32))) + ((((a0 - (((a0.toUInt32 >>> (((1 : Int32)).toUInt32 &&& Int32.toUInt32 31)).toInt32) &&& ((1431655765 : Int32)))).toUInt32 >>> (((2 : Int32)).toUInt32 &&& Int32.toUInt32 31)).toInt32) &&& ((858993459 : Int32)))).toUInt32 >>> (((4 : Int32)).toUInt32 &&& Int32.toUInt32 31)).toInt32)) &&& ((252645135 : Int32))).toUInt32 >>> (((8 : Int32)).toUInt32 &&& Int32.toUInt32 31)).toInt32)))] rfl (by decide) dJ6_bitCount_0f7a4_40 ?_
  refine v_iload_n C 0 rfl dJ6_bitCount_0f7a4_41 ?_
  refine v_iload_n C 0 rfl dJ6_bitCount_0f7a4_42 ?_
  refine v_kb C (16) (by decide) dJ6_bitCount_0f7a4_43 ?_
  refine v_iushr C dJ6_bitCount_0f7a4_45 ?_
  refine v_iadd C dJ6_bitCount_0f7a4_46 ?_
  refine v_istore_n C [(0, .int (((((((a0 - (((a0.toUInt32 >>> (((1 : Int32)).toUInt32 &&& Int32.toUInt32 31)).toInt32) &&& ((1431655765 : Int32)))) &&& ((858993459 : Int32))) + ((((a0 - (((a0.toUInt32 >>> (((1 : Int32)).toUInt32 &&& Int32.toUInt32 31)).toInt32) &&& ((1431655765 : Int32)))).toUInt32 >>> (((2 : Int32)).toUInt32 &&& Int32.toUInt32 31)).toInt32) &&& ((858993459 : Int32)))) + (((((a0 - (((a0.toUInt32 >>> (((1 : Int32)).toUInt32 &&& Int32.toUInt32 31)).toInt32) &&& ((1431655765 : Int32)))) &&& ((858993459 : Int32))) + ((((a0 - (((a0.toUInt32 >>> (((1 : Int32)).toUInt32 &&& Int32.toUInt32 31)).toInt32) &&& ((1431655765 : Int32)))).toUInt32 >>> (((2 : Int32)).toUInt32 &&& Int32.toUInt32 31)).toInt32) &&& ((858993459 : Int32)))).toUInt32 >>> (((4 : Int32)).toUInt32 &&& Int32.toUInt32 31)).toInt32)) &&& ((252645135 : Int32))) + (((((((a0 - (((a0.toUInt32 >>> (((1 : Int32)).toUInt32 &&& Int32.toUInt32 31)).toInt32) &&& ((1431655765 : Int32)))) &&& ((858993459 : Int32))) + ((((a0 - (((a0.toUInt32 >>> (((1 : Int32)).toUInt32 &&& Int32.toUInt32 31)).toInt32) &&& ((1431655765 : Int32)))).toUInt32 >>> (((2 : Int32)).toUInt32 &&& Int32.toUInt32 31)).toInt32) &&& ((858993459 : Int32)))) + (((((a0 - (((a0.toUInt32 >>> (((1 : Int32)).toUInt32 &&& Int32.toUInt32 31)).toInt32) &&& ((1431655765 : Int32)))) &&& ((858993459 : Int32))) + ((((a0 - (((a0.toUInt32 >>> (((1 : Int32)).toUInt32 &&& Int32.toUInt32 31)).toInt32) &&& ((1431655765 : Int32)))).toUInt32 >>> (((2 : Int32)).toUInt32 &&& Int32.toUInt32 31)).toInt32) &&& ((858993459 : Int32)))).toUInt32 >>> (((4 : Int32)).toUInt32 &&& Int32.toUInt32 31)).toInt32)) &&& ((252645135 : Int32))).toUInt32 >>> (((8 : Int32)).toUInt32 &&& Int32.toUInt32 31)).toInt32)) + ((((((((a0 - (((a0.toUInt32 >>> (((1 : Int32)).toUInt32 &&& Int32.toUInt32 31)).toInt32) &&& ((1431655765 : Int32)))) &&& ((858993459 : Int32))) + ((((a0 - (((a0.toUInt32 >>> (((1 : Int32)).toUInt32 &&& Int32.toUInt32 31)).toInt32) &&& ((1431655765 : Int32)))).toUInt32 >>> (((2 : Int32)).toUInt32 &&& Int32.toUInt32 31)).toInt32) &&& ((858993459 : Int32)))) + (((((a0 - (((a0.toUInt32 >>> (((1 : Int32)).toUInt32 &&& Int32.toUInt32 31)).toInt32) &&& ((1431655765 : Int32)))) &&& ((858993459 : Int32))) + ((((a0 - (((a0.toUInt32 >>> (((1 : Int32)).toUInt32 &&& Int32.toUInt32 31)).toInt32) &&& ((1431655765 : Int32)))).toUInt32 >>> (((2 : Int32)).toUInt32 &&& Int32.toUInt32 31)).toInt32) &&& ((858993459 : Int32)))).toUInt32 >>> (((4 : Int32)).toUInt32 &&& Int32.toUInt32 31)).toInt32)) &&& ((252645135 : Int32))) + (((((((a0 - (((a0.toUInt32 >>> (((1 : Int32)).toUInt32 &&& Int32.toUInt32 31)).toInt32) &&& ((1431655765 : Int32)))) &&& ((858993459 : Int32))) + ((((a0 - (((a0.toUInt32 >>> (((1 : Int32)).toUInt32 &&& Int32.toUInt32 31)).toInt32) &&& ((1431655765 : Int32)))).toUInt32 >>> (((2 : Int32)).toUInt32 &&& Int32.toUInt32 31)).toInt32) &&& ((858993459 : Int32)))) + (((((a0 - (((a0.toUInt32 >>> (((1 : Int32)).toUInt32 &&& Int32.toUInt32 31)).toInt32) &&& ((1431655765 : Int32)))) &&& ((858993459 : Int32))) + ((((a0 - (((a0.toUInt32 >>> (((1 : Int32)).toUInt32 &&& Int32.toUInt32 31)).toInt32) &&& ((1431655765 : Int32)))).toUInt32 >>> (((2 : Int32)).toUInt32 &&& Int32.toUInt32 31)).toInt32) &&& ((858993459 : Int32)))).toUInt32 >>> (((4 : Int32)).toUInt32 &&& Int32.toUInt32 31)).toInt32)) &&& ((252645135 : Int32))).toUInt32 >>> (((8 : Int32)).toUInt32 &&& Int32.toUInt32 31)).toInt32)).toUInt32 >>> (((16 : Int32)).toUInt32 &&& Int32.toUInt32 31)).toInt32)))] rfl (by decide) dJ6_bitCount_0f7a4_47 ?_
  refine v_iload_n C 0 rfl dJ6_bitCount_0f7a4_48 ?_
  refine v_kb C (63) (by decide) dJ6_bitCount_0f7a4_49 ?_
  refine v_iand C dJ6_bitCount_0f7a4_51 ?_
  exact Rt _ _ _ _ dJ6_bitCount_0f7a4_52 h
theorem mt_J6_bitCount_0f7a4 {w : Wx} {l : Launch} : Ct_J6_bitCount_0f7a4 w l := by
  intro a0 M Q h
  refine met_i (by decide +kernel) (Nat.le_of_ble_eq_true rfl) (fun G C hG Rt => ?_)
  subst hG
  exact wk_J6_bitCount_0f7a4 C Rt a0 M (h)
theorem ct_J6_bitCount_0f7a4 (w : Wx) (l : Launch) : Ct_J6_bitCount_0f7a4 w l := mt_J6_bitCount_0f7a4
set_option maxRecDepth 4000 in
theorem wk_X7_ringCount {w : Wx} {G : Gx} {Q : Int32 → Mem → Prop} (C : Cx w G cX7_ringCount RX7 3 69 1) (Rt : ∀ (pc : Nat) (lv : List (Nat × Value)) (r0 : Int32) (M0 : Mem), decode cX7_ringCount pc = .ok (.ireturn, 1) → Q r0 M0 → V w G pc lv [.int r0] M0) (k_X7_leastOfRings : Ct_X7_leastOfRings w G.2.1) (k_J6_bitCount_0f7a4 : Ct_J6_bitCount_0f7a4 w G.2.1) (b : Nat) (hb : Sc b) (M : Mem) (h : bd_X7_ringCount Q b M) : V w G 0 [(0, .ref (w.2.1 b))] [] M := by
  unfold bd_X7_ringCount at h
  refine v_aload_n C 0 rfl dX7_ringCount_0 ?_
  refine v_callI C [] (k_X7_leastOfRings b M hb _ h) yX7_leastOfRings_k ml_X7_72 (rcv6 hb.l0 hb.k0) rfl rfl (Nat.le_of_ble_eq_true rfl) ⟨by decide, by decide⟩ dX7_ringCount_1 (fun r1 M1 h => ?_)
  refine v_callSI C [] (k_J6_bitCount_0f7a4 r1 M1 _ h) yJ6_bitCount_0f7a4_k ml_X7_76 rfl rfl (Nat.le_of_ble_eq_true rfl) ⟨by decide, by decide⟩ dX7_ringCount_4 (fun r2 M2 h => ?_)
  exact Rt _ _ _ _ dX7_ringCount_7 h
theorem mt_X7_ringCount {w : Wx} {l : Launch} (k_X7_leastOfRings : Ct_X7_leastOfRings w l) (k_J6_bitCount_0f7a4 : Ct_J6_bitCount_0f7a4 w l) : Ct_X7_ringCount w l := by
  intro b M hb Q h
  refine met_i (by decide +kernel) (Nat.le_of_ble_eq_true rfl) (fun G C hG Rt => ?_)
  subst hG
  exact wk_X7_ringCount C Rt k_X7_leastOfRings k_J6_bitCount_0f7a4 b hb M (h)
theorem ct_X7_ringCount (w : Wx) (l : Launch) : Ct_X7_ringCount w l := mt_X7_ringCount (ct_X7_leastOfRings w l) (ct_J6_bitCount_0f7a4 w l)
set_option maxRecDepth 4000 in
theorem wk_X7_allBeside {w : Wx} {G : Gx} {Q : Int32 → Mem → Prop} (C : Cx w G cX7_allBeside RX7 1 21 5) (Rt : ∀ (pc : Nat) (lv : List (Nat × Value)) (r0 : Int32) (M0 : Mem), decode cX7_allBeside pc = .ok (.ireturn, 1) → Q r0 M0 → V w G pc lv [.int r0] M0) (k_X9_isIn : Ct_X9_isIn w G.2.1) (b : Nat) (a1 : Int32) (hb : Sc b) (M : Mem) (h : bd_X7_allBeside Q (fun (x2 : Int32) (x3 : Int32) (M : Mem) => V w G 4 [(0, .ref (w.2.1 b)), (1, .int a1), (2, .int x2), (3, .int x3)] [] M) (fun (x2 : Int32) (x3 : Int32) (x4 : Int32) (M : Mem) => V w G 42 [(0, .ref (w.2.1 b)), (2, .int x2), (3, .int x3), (4, .int x4)] [] M) b a1 M) : V w G 0 [(0, .ref (w.2.1 b)), (1, .int a1)] [] M := by
  unfold bd_X7_allBeside at h
  refine v_kc C (0) (by decide) dX7_allBeside_0 ?_
  refine v_istore_n C [(2, .int ((0 : Int32))), (0, .ref (w.2.1 b)), (1, .int a1)] rfl (by decide) dX7_allBeside_1 ?_
  refine v_kc C (0) (by decide) dX7_allBeside_2 ?_
  refine v_istore_n C [(3, .int ((0 : Int32))), (2, .int ((0 : Int32))), (0, .ref (w.2.1 b)), (1, .int a1)] rfl (by decide) dX7_allBeside_3 ?_
  exact V.sub [2, 3, 1, 0] rfl h
set_option maxRecDepth 4000 in
theorem wk_X7_allBeside_4 {w : Wx} {G : Gx} {Q : Int32 → Mem → Prop} (C : Cx w G cX7_allBeside RX7 1 21 5) (Rt : ∀ (pc : Nat) (lv : List (Nat × Value)) (r0 : Int32) (M0 : Mem), decode cX7_allBeside pc = .ok (.ireturn, 1) → Q r0 M0 → V w G pc lv [.int r0] M0) (k_X9_isIn : Ct_X9_isIn w G.2.1) (b : Nat) (a1 : Int32) (hb : Sc b) (x2 : Int32) (x3 : Int32) (M : Mem) (h : bd_X7_allBeside_4 Q (fun (x2 : Int32) (x3 : Int32) (M : Mem) => V w G 4 [(0, .ref (w.2.1 b)), (1, .int a1), (2, .int x2), (3, .int x3)] [] M) (fun (x2 : Int32) (x3 : Int32) (x4 : Int32) (M : Mem) => V w G 42 [(0, .ref (w.2.1 b)), (2, .int x2), (3, .int x3), (4, .int x4)] [] M) b a1 x2 x3 M) : V w G 4 [(0, .ref (w.2.1 b)), (1, .int a1), (2, .int x2), (3, .int x3)] [] M := by
  unfold bd_X7_allBeside_4 at h
  refine v_iload_n C 3 rfl dX7_allBeside_4 ?_
  refine v_aload_n C 0 rfl dX7_allBeside_5 ?_
  refine g6_0 C hb.l0 hb.k0 fl_X7_9 dX7_allBeside_6 ?_
  refine v_icmp_ge C 37 (by decide) dX7_allBeside_9 (fun hc => ?_) (fun hc => ?_)
  · have h := h.1 hc
    refine v_kc C (0) (by decide) dX7_allBeside_37 ?_
    refine v_istore_n C [(3, .int ((0 : Int32))), (0, .ref (w.2.1 b)), (1, .int a1), (2, .int x2)] rfl (by decide) dX7_allBeside_38 ?_
    refine v_kc C (0) (by decide) dX7_allBeside_39 ?_
    refine v_istore C [(4, .int ((0 : Int32))), (3, .int ((0 : Int32))), (0, .ref (w.2.1 b)), (1, .int a1), (2, .int x2)] rfl (by decide) dX7_allBeside_40 ?_
    exact V.sub [2, 4, 1, 0] rfl h
  · have h := h.2 hc
    refine v_iload_n C 1 rfl dX7_allBeside_12 ?_
    refine v_iload_n C 3 rfl dX7_allBeside_13 ?_
    refine v_callNI C [] (k_X9_isIn a1 x3 M _ h) yX9_isIn_k mn_X7_62 rfl rfl (Nat.le_of_ble_eq_true rfl) ⟨by decide, by decide⟩ dX7_allBeside_14 (fun r1 M1 h => ?_)
    refine v_if_eq C 31 (by decide) dX7_allBeside_17 (fun hc => ?_) (fun hc => ?_)
    · have h := h.1 hc
      refine v_iinc C (j := 3) [(3, .int (x3 + 1)), (0, .ref (w.2.1 b)), (1, .int a1), (2, .int x2)] rfl (x3 + 1) rfl rfl (by decide) dX7_allBeside_31 ?_
      refine v_goto C 4 (by decide) dX7_allBeside_34 ?_
      exact V.sub [1, 2, 3, 0] rfl h
    · have h := h.2 hc
      refine v_iload_n C 2 rfl dX7_allBeside_20 ?_
      refine v_kc C (1) (by decide) dX7_allBeside_21 ?_
      refine v_aload_n C 0 rfl dX7_allBeside_22 ?_
      refine g6_2 C hb.l0 hb.k0 fl_X7_18 dX7_allBeside_23 ?_
      refine v_iload_n C 3 rfl dX7_allBeside_26 ?_
      obtain ⟨s2, h⟩ := h
      refine v_iald C hb.l1 hb.k1 hb.n1 s2 dX7_allBeside_27 ?_
      refine v_ishl C dX7_allBeside_28 ?_
      refine v_ior C dX7_allBeside_29 ?_
      refine v_istore_n C [(2, .int (x2 ||| (((1 : Int32)) <<< ((M1 (b + 1) x3.toNatClampNeg) &&& 31)))), (0, .ref (w.2.1 b)), (1, .int a1), (3, .int x3)] rfl (by decide) dX7_allBeside_30 ?_
      refine v_iinc C (j := 3) [(3, .int (x3 + 1)), (2, .int (x2 ||| (((1 : Int32)) <<< ((M1 (b + 1) x3.toNatClampNeg) &&& 31)))), (0, .ref (w.2.1 b)), (1, .int a1)] rfl (x3 + 1) rfl rfl (by decide) dX7_allBeside_31 ?_
      refine v_goto C 4 (by decide) dX7_allBeside_34 ?_
      exact V.sub [2, 3, 1, 0] rfl h
set_option maxRecDepth 4000 in
theorem wk_X7_allBeside_42 {w : Wx} {G : Gx} {Q : Int32 → Mem → Prop} (C : Cx w G cX7_allBeside RX7 1 21 5) (Rt : ∀ (pc : Nat) (lv : List (Nat × Value)) (r0 : Int32) (M0 : Mem), decode cX7_allBeside pc = .ok (.ireturn, 1) → Q r0 M0 → V w G pc lv [.int r0] M0) (k_X9_isIn : Ct_X9_isIn w G.2.1) (b : Nat) (a1 : Int32) (hb : Sc b) (x2 : Int32) (x3 : Int32) (x4 : Int32) (M : Mem) (h : bd_X7_allBeside_42 Q (fun (x2 : Int32) (x3 : Int32) (M : Mem) => V w G 4 [(0, .ref (w.2.1 b)), (1, .int a1), (2, .int x2), (3, .int x3)] [] M) (fun (x2 : Int32) (x3 : Int32) (x4 : Int32) (M : Mem) => V w G 42 [(0, .ref (w.2.1 b)), (2, .int x2), (3, .int x3), (4, .int x4)] [] M) b a1 x2 x3 x4 M) : V w G 42 [(0, .ref (w.2.1 b)), (2, .int x2), (3, .int x3), (4, .int x4)] [] M := by
  unfold bd_X7_allBeside_42 at h
  refine v_iload C 3 rfl dX7_allBeside_42 ?_
  refine v_aload_n C 0 rfl dX7_allBeside_44 ?_
  refine g6_0 C hb.l0 hb.k0 fl_X7_9 dX7_allBeside_45 ?_
  refine v_icmp_ge C 78 (by decide) dX7_allBeside_48 (fun hc => ?_) (fun hc => ?_)
  · have h := h.1 hc
    refine v_iload_n C 2 rfl dX7_allBeside_78 ?_
    exact Rt _ _ _ _ dX7_allBeside_79 h
  · have h := h.2 hc
    refine v_iload_n C 1 rfl dX7_allBeside_51 ?_
    refine v_aload_n C 0 rfl dX7_allBeside_52 ?_
    refine g6_2 C hb.l0 hb.k0 fl_X7_18 dX7_allBeside_53 ?_
    refine v_iload C 3 rfl dX7_allBeside_56 ?_
    obtain ⟨s1, h⟩ := h
    refine v_iald C hb.l1 hb.k1 hb.n1 s1 dX7_allBeside_58 ?_
    refine v_callNI C [] (k_X9_isIn x2 (M (b + 1) x4.toNatClampNeg) M _ h) yX9_isIn_k mn_X7_62 rfl rfl (Nat.le_of_ble_eq_true rfl) ⟨by decide, by decide⟩ dX7_allBeside_59 (fun r2 M2 h => ?_)
    refine v_if_eq C 72 (by decide) dX7_allBeside_62 (fun hc => ?_) (fun hc => ?_)
    · have h := h.1 hc
      refine v_iinc C (j := 3) [(4, .int (x4 + 1)), (0, .ref (w.2.1 b)), (2, .int x2), (3, .int x3)] rfl (x4 + 1) rfl rfl (by decide) dX7_allBeside_72 ?_
      refine v_goto C 42 (by decide) dX7_allBeside_75 ?_
      exact V.sub [1, 2, 3, 0] rfl h
    · have h := h.2 hc
      refine v_iload_n C 2 rfl dX7_allBeside_65 ?_
      refine v_kc C (1) (by decide) dX7_allBeside_66 ?_
      refine v_iload C 3 rfl dX7_allBeside_67 ?_
      refine v_ishl C dX7_allBeside_69 ?_
      refine v_ior C dX7_allBeside_70 ?_
      refine v_istore_n C [(3, .int (x3 ||| (((1 : Int32)) <<< (x4 &&& 31)))), (0, .ref (w.2.1 b)), (2, .int x2), (4, .int x4)] rfl (by decide) dX7_allBeside_71 ?_
      refine v_iinc C (j := 3) [(4, .int (x4 + 1)), (3, .int (x3 ||| (((1 : Int32)) <<< (x4 &&& 31)))), (0, .ref (w.2.1 b)), (2, .int x2)] rfl (x4 + 1) rfl rfl (by decide) dX7_allBeside_72 ?_
      refine v_goto C 42 (by decide) dX7_allBeside_75 ?_
      exact V.sub [2, 3, 1, 0] rfl h
theorem mt_X7_allBeside {w : Wx} {l : Launch} (k_X9_isIn : Ct_X9_isIn w l) : Ct_X7_allBeside w l := by
  intro b a1 M hb Q h
  refine met_i (by decide +kernel) (Nat.le_of_ble_eq_true rfl) (fun G C hG Rt => ?_)
  subst hG
  exact wk_X7_allBeside C Rt k_X9_isIn b a1 hb M (h _ _ (fun x2 x3 M h => wk_X7_allBeside_4 C Rt k_X9_isIn b a1 hb x2 x3 M h) (fun x2 x3 x4 M h => wk_X7_allBeside_42 C Rt k_X9_isIn b a1 hb x2 x3 x4 M h))
theorem ct_X7_allBeside (w : Wx) (l : Launch) : Ct_X7_allBeside w l := mt_X7_allBeside (ct_X9_isIn w l)
set_option maxRecDepth 4000 in
theorem wk_X7_trailOf {w : Wx} {G : Gx} {Q : Int32 → Mem → Prop} (C : Cx w G cX7_trailOf RX7 1 24 4) (Rt : ∀ (pc : Nat) (lv : List (Nat × Value)) (r0 : Int32) (M0 : Mem), decode cX7_trailOf pc = .ok (.ireturn, 1) → Q r0 M0 → V w G pc lv [.int r0] M0) (k_X7_leadersOf : Ct_X7_leadersOf w G.2.1) (k_X9_isIn : Ct_X9_isIn w G.2.1) (b : Nat) (a1 : Int32) (hb : Sc b) (M : Mem) (h : bd_X7_trailOf Q (fun (x2 : Int32) (x3 : Int32) (M : Mem) => V w G 4 [(0, .ref (w.2.1 b)), (1, .int a1), (2, .int x2), (3, .int x3)] [] M) b a1 M) : V w G 0 [(0, .ref (w.2.1 b)), (1, .int a1)] [] M := by
  unfold bd_X7_trailOf at h
  refine v_kc C (0) (by decide) dX7_trailOf_0 ?_
  refine v_istore_n C [(2, .int ((0 : Int32))), (0, .ref (w.2.1 b)), (1, .int a1)] rfl (by decide) dX7_trailOf_1 ?_
  refine v_kc C (0) (by decide) dX7_trailOf_2 ?_
  refine v_istore_n C [(3, .int ((0 : Int32))), (2, .int ((0 : Int32))), (0, .ref (w.2.1 b)), (1, .int a1)] rfl (by decide) dX7_trailOf_3 ?_
  exact V.sub [2, 3, 1, 0] rfl h
set_option maxRecDepth 4000 in
theorem wk_X7_trailOf_4 {w : Wx} {G : Gx} {Q : Int32 → Mem → Prop} (C : Cx w G cX7_trailOf RX7 1 24 4) (Rt : ∀ (pc : Nat) (lv : List (Nat × Value)) (r0 : Int32) (M0 : Mem), decode cX7_trailOf pc = .ok (.ireturn, 1) → Q r0 M0 → V w G pc lv [.int r0] M0) (k_X7_leadersOf : Ct_X7_leadersOf w G.2.1) (k_X9_isIn : Ct_X9_isIn w G.2.1) (b : Nat) (a1 : Int32) (hb : Sc b) (x2 : Int32) (x3 : Int32) (M : Mem) (h : bd_X7_trailOf_4 Q (fun (x2 : Int32) (x3 : Int32) (M : Mem) => V w G 4 [(0, .ref (w.2.1 b)), (1, .int a1), (2, .int x2), (3, .int x3)] [] M) b a1 x2 x3 M) : V w G 4 [(0, .ref (w.2.1 b)), (1, .int a1), (2, .int x2), (3, .int x3)] [] M := by
  unfold bd_X7_trailOf_4 at h
  refine v_iload_n C 3 rfl dX7_trailOf_4 ?_
  refine v_aload_n C 0 rfl dX7_trailOf_5 ?_
  refine g6_0 C hb.l0 hb.k0 fl_X7_9 dX7_trailOf_6 ?_
  refine v_icmp_ge C 36 (by decide) dX7_trailOf_9 (fun hc => ?_) (fun hc => ?_)
  · have h := h.1 hc
    refine v_iload_n C 2 rfl dX7_trailOf_36 ?_
    exact Rt _ _ _ _ dX7_trailOf_37 h
  · have h := h.2 hc
    refine v_aload_n C 0 rfl dX7_trailOf_12 ?_
    refine v_iload_n C 3 rfl dX7_trailOf_13 ?_
    refine v_callI C [] (k_X7_leadersOf b x3 M hb _ h) yX7_leadersOf_k ml_X7_66 (rcv6 hb.l0 hb.k0) rfl rfl (Nat.le_of_ble_eq_true rfl) ⟨by decide, by decide⟩ dX7_trailOf_14 (fun r1 M1 h => ?_)
    refine v_iload_n C 1 rfl dX7_trailOf_17 ?_
    refine v_callNI C [] (k_X9_isIn r1 a1 M1 _ h) yX9_isIn_k mn_X7_62 rfl rfl (Nat.le_of_ble_eq_true rfl) ⟨by decide, by decide⟩ dX7_trailOf_18 (fun r2 M2 h => ?_)
    refine v_if_eq C 30 (by decide) dX7_trailOf_21 (fun hc => ?_) (fun hc => ?_)
    · have h := h.1 hc
      refine v_iinc C (j := 3) [(3, .int (x3 + 1)), (0, .ref (w.2.1 b)), (1, .int a1), (2, .int x2)] rfl (x3 + 1) rfl rfl (by decide) dX7_trailOf_30 ?_
      refine v_goto C 4 (by decide) dX7_trailOf_33 ?_
      exact V.sub [1, 2, 3, 0] rfl h
    · have h := h.2 hc
      refine v_iload_n C 2 rfl dX7_trailOf_24 ?_
      refine v_kc C (1) (by decide) dX7_trailOf_25 ?_
      refine v_iload_n C 3 rfl dX7_trailOf_26 ?_
      refine v_ishl C dX7_trailOf_27 ?_
      refine v_ior C dX7_trailOf_28 ?_
      refine v_istore_n C [(2, .int (x2 ||| (((1 : Int32)) <<< (x3 &&& 31)))), (0, .ref (w.2.1 b)), (1, .int a1), (3, .int x3)] rfl (by decide) dX7_trailOf_29 ?_
      refine v_iinc C (j := 3) [(3, .int (x3 + 1)), (2, .int (x2 ||| (((1 : Int32)) <<< (x3 &&& 31)))), (0, .ref (w.2.1 b)), (1, .int a1)] rfl (x3 + 1) rfl rfl (by decide) dX7_trailOf_30 ?_
      refine v_goto C 4 (by decide) dX7_trailOf_33 ?_
      exact V.sub [2, 3, 1, 0] rfl h
theorem mt_X7_trailOf {w : Wx} {l : Launch} (k_X7_leadersOf : Ct_X7_leadersOf w l) (k_X9_isIn : Ct_X9_isIn w l) : Ct_X7_trailOf w l := by
  intro b a1 M hb Q h
  refine met_i (by decide +kernel) (Nat.le_of_ble_eq_true rfl) (fun G C hG Rt => ?_)
  subst hG
  exact wk_X7_trailOf C Rt k_X7_leadersOf k_X9_isIn b a1 hb M (h _ (fun x2 x3 M h => wk_X7_trailOf_4 C Rt k_X7_leadersOf k_X9_isIn b a1 hb x2 x3 M h))
theorem ct_X7_trailOf (w : Wx) (l : Launch) : Ct_X7_trailOf w l := mt_X7_trailOf (ct_X7_leadersOf w l) (ct_X9_isIn w l)
set_option maxRecDepth 4000 in
theorem wk_X7_heads {w : Wx} {G : Gx} {Q : Int32 → Mem → Prop} (C : Cx w G cX7_heads RX7 2 47 4) (Rt : ∀ (pc : Nat) (lv : List (Nat × Value)) (r0 : Int32) (M0 : Mem), decode cX7_heads pc = .ok (.ireturn, 1) → Q r0 M0 → V w G pc lv [.int r0] M0) (k_X7_allBeside : Ct_X7_allBeside w G.2.1) (k_X7_trailOf : Ct_X7_trailOf w G.2.1) (b : Nat) (hb : Sc b) (M : Mem) (h : bd_X7_heads Q (fun (x1 : Int32) (x2 : Int32) (M : Mem) => V w G 4 [(0, .ref (w.2.1 b)), (1, .int x1), (2, .int x2)] [] M) b M) : V w G 0 [(0, .ref (w.2.1 b))] [] M := by
  unfold bd_X7_heads at h
  refine v_kc C (0) (by decide) dX7_heads_0 ?_
  refine v_istore_n C [(1, .int ((0 : Int32))), (0, .ref (w.2.1 b))] rfl (by decide) dX7_heads_1 ?_
  refine v_kc C (0) (by decide) dX7_heads_2 ?_
  refine v_istore_n C [(2, .int ((0 : Int32))), (1, .int ((0 : Int32))), (0, .ref (w.2.1 b))] rfl (by decide) dX7_heads_3 ?_
  exact V.sub [2, 1, 0] rfl h
set_option maxRecDepth 4000 in
theorem wk_X7_heads_4 {w : Wx} {G : Gx} {Q : Int32 → Mem → Prop} (C : Cx w G cX7_heads RX7 2 47 4) (Rt : ∀ (pc : Nat) (lv : List (Nat × Value)) (r0 : Int32) (M0 : Mem), decode cX7_heads pc = .ok (.ireturn, 1) → Q r0 M0 → V w G pc lv [.int r0] M0) (k_X7_allBeside : Ct_X7_allBeside w G.2.1) (k_X7_trailOf : Ct_X7_trailOf w G.2.1) (b : Nat) (hb : Sc b) (x1 : Int32) (x2 : Int32) (M : Mem) (h : bd_X7_heads_4 Q (fun (x1 : Int32) (x2 : Int32) (M : Mem) => V w G 4 [(0, .ref (w.2.1 b)), (1, .int x1), (2, .int x2)] [] M) b x1 x2 M) : V w G 4 [(0, .ref (w.2.1 b)), (1, .int x1), (2, .int x2)] [] M := by
  unfold bd_X7_heads_4 at h
  refine v_iload_n C 2 rfl dX7_heads_4 ?_
  refine v_aload_n C 0 rfl dX7_heads_5 ?_
  refine g6_0 C hb.l0 hb.k0 fl_X7_9 dX7_heads_6 ?_
  refine v_icmp_ge C 48 (by decide) dX7_heads_9 (fun hc => ?_) (fun hc => ?_)
  · have h := h.1 hc
    refine v_iload_n C 1 rfl dX7_heads_48 ?_
    exact Rt _ _ _ _ dX7_heads_49 h
  · have h := h.2 hc
    refine v_aload_n C 0 rfl dX7_heads_12 ?_
    refine v_kc C (1) (by decide) dX7_heads_13 ?_
    refine v_iload_n C 2 rfl dX7_heads_14 ?_
    refine v_ishl C dX7_heads_15 ?_
    refine v_callI C [] (k_X7_allBeside b (((1 : Int32)) <<< (x2 &&& 31)) M hb _ h) yX7_allBeside_k ml_X7_91 (rcv6 hb.l0 hb.k0) rfl rfl (Nat.le_of_ble_eq_true rfl) ⟨by decide, by decide⟩ dX7_heads_16 (fun r1 M1 h => ?_)
    refine v_kc C (1) (by decide) dX7_heads_19 ?_
    refine v_iload_n C 2 rfl dX7_heads_20 ?_
    refine v_ishl C dX7_heads_21 ?_
    refine v_kc C (-1) (by decide) dX7_heads_22 ?_
    refine v_ixor C dX7_heads_23 ?_
    refine v_iand C dX7_heads_24 ?_
    refine v_istore_n C [(3, .int (r1 &&& ((((1 : Int32)) <<< (x2 &&& 31)) ^^^ ((-1 : Int32))))), (0, .ref (w.2.1 b)), (1, .int x1), (2, .int x2)] rfl (by decide) dX7_heads_25 ?_
    refine v_iload_n C 0 rfl dX7_heads_26 ?_
    refine v_aload_n C 1 rfl dX7_heads_27 ?_
    refine v_iload_n C 3 rfl dX7_heads_28 ?_
    refine v_callI C [.int (r1 &&& ((((1 : Int32)) <<< (x2 &&& 31)) ^^^ ((-1 : Int32))))] (k_X7_trailOf b x2 M1 hb _ h) yX7_trailOf_k ml_X7_94 (rcv6 hb.l0 hb.k0) rfl rfl (Nat.le_of_ble_eq_true rfl) ⟨by decide, by decide⟩ dX7_heads_29 (fun r2 M2 h => ?_)
    refine v_iand C dX7_heads_32 ?_
    refine v_if_eq C 42 (by decide) dX7_heads_33 (fun hc => ?_) (fun hc => ?_)
    · have h := h.1 hc
      refine v_iinc C (j := 3) [(2, .int (x2 + 1)), (3, .int (r1 &&& ((((1 : Int32)) <<< (x2 &&& 31)) ^^^ ((-1 : Int32))))), (0, .ref (w.2.1 b)), (1, .int x1)] rfl (x2 + 1) rfl rfl (by decide) dX7_heads_42 ?_
      refine v_goto C 4 (by decide) dX7_heads_45 ?_
      exact V.sub [2, 3, 0] rfl h
    · have h := h.2 hc
      refine v_iload_n C 2 rfl dX7_heads_36 ?_
      refine v_kc C (1) (by decide) dX7_heads_37 ?_
      refine v_iload_n C 3 rfl dX7_heads_38 ?_
      refine v_ishl C dX7_heads_39 ?_
      refine v_ior C dX7_heads_40 ?_
      refine v_istore_n C [(1, .int (x1 ||| (((1 : Int32)) <<< (x2 &&& 31)))), (3, .int (r1 &&& ((((1 : Int32)) <<< (x2 &&& 31)) ^^^ ((-1 : Int32))))), (0, .ref (w.2.1 b)), (2, .int x2)] rfl (by decide) dX7_heads_41 ?_
      refine v_iinc C (j := 3) [(2, .int (x2 + 1)), (1, .int (x1 ||| (((1 : Int32)) <<< (x2 &&& 31)))), (3, .int (r1 &&& ((((1 : Int32)) <<< (x2 &&& 31)) ^^^ ((-1 : Int32))))), (0, .ref (w.2.1 b))] rfl (x2 + 1) rfl rfl (by decide) dX7_heads_42 ?_
      refine v_goto C 4 (by decide) dX7_heads_45 ?_
      exact V.sub [3, 1, 0] rfl h
theorem mt_X7_heads {w : Wx} {l : Launch} (k_X7_allBeside : Ct_X7_allBeside w l) (k_X7_trailOf : Ct_X7_trailOf w l) : Ct_X7_heads w l := by
  intro b M hb Q h
  refine met_i (by decide +kernel) (Nat.le_of_ble_eq_true rfl) (fun G C hG Rt => ?_)
  subst hG
  exact wk_X7_heads C Rt k_X7_allBeside k_X7_trailOf b hb M (h _ (fun x1 x2 M h => wk_X7_heads_4 C Rt k_X7_allBeside k_X7_trailOf b hb x1 x2 M h))
theorem ct_X7_heads (w : Wx) (l : Launch) : Ct_X7_heads w l := mt_X7_heads (ct_X7_allBeside w l) (ct_X7_trailOf w l)
set_option maxRecDepth 4000 in
theorem wk_X9_told {w : Wx} {G : Gx} {Q : Int32 → Mem → Prop} (C : Cx w G cX9_told RX9 4 89 2) (Rt : ∀ (pc : Nat) (lv : List (Nat × Value)) (r0 : Int32) (M0 : Mem), decode cX9_told pc = .ok (.ireturn, 1) → Q r0 M0 → V w G pc lv [.int r0] M0) (k_X7_takenCorners : Ct_X7_takenCorners w G.2.1) (k_X7_allFollowers : Ct_X7_allFollowers w G.2.1) (k_X7_ringCount : Ct_X7_ringCount w G.2.1) (k_X7_heads : Ct_X7_heads w G.2.1) (a1 : Int32) (M : Mem) (h : bd_X9_told Q a1 M) : V w G 0 [(0, .ref (w.2.1 0)), (1, .int a1)] [] M := by
  unfold bd_X9_told at h
  refine v_iload_n C 1 rfl dX9_told_0 ?_
  by_cases z1_0 : a1 = 0
  · have h := h.1 z1_0
    refine v_tableIn C (off := 63) 64 (by decide) (by rw [z1_0]; decide) (by rw [z1_0]; decide) (by rw [z1_0]; decide) dX9_told_1 ?_
    refine v_aload_n C 0 rfl dX9_told_64 ?_
    refine g8_10 C kb0 kd0 fl_X9_75 dX9_told_65 ?_
    exact Rt _ _ _ _ dX9_told_68 h
  by_cases z1_1 : a1 = 1
  · have h := h.2.1 z1_1
    refine v_tableIn C (off := 68) 69 (by decide) (by rw [z1_1]; decide) (by rw [z1_1]; decide) (by rw [z1_1]; decide) dX9_told_1 ?_
    refine v_aload_n C 0 rfl dX9_told_69 ?_
    refine g8_11 C kb0 kd0 fl_X9_79 dX9_told_70 ?_
    exact Rt _ _ _ _ dX9_told_73 h
  by_cases z1_2 : a1 = 2
  · have h := h.2.2.1 z1_2
    refine v_tableIn C (off := 73) 74 (by decide) (by rw [z1_2]; decide) (by rw [z1_2]; decide) (by rw [z1_2]; decide) dX9_told_1 ?_
    refine v_aload_n C 0 rfl dX9_told_74 ?_
    refine g8_2 C kb0 kd0 fl_X9_28 dX9_told_75 ?_
    refine g6_0 C sc11.l0 sc11.k0 fl_X9_116 dX9_told_78 ?_
    exact Rt _ _ _ _ dX9_told_81 h
  by_cases z1_3 : a1 = 3
  · have h := h.2.2.2.1 z1_3
    refine v_tableIn C (off := 81) 82 (by decide) (by rw [z1_3]; decide) (by rw [z1_3]; decide) (by rw [z1_3]; decide) dX9_told_1 ?_
    refine v_aload_n C 0 rfl dX9_told_82 ?_
    refine g8_0 C kb0 kd0 fl_X9_10 dX9_told_83 ?_
    refine g7_1 C kb1 kd1 fl_X9_86 dX9_told_86 ?_
    exact Rt _ _ _ _ dX9_told_89 h
  by_cases z1_4 : a1 = 4
  · have h := h.2.2.2.2.1 z1_4
    refine v_tableIn C (off := 89) 90 (by decide) (by rw [z1_4]; decide) (by rw [z1_4]; decide) (by rw [z1_4]; decide) dX9_told_1 ?_
    refine v_aload_n C 0 rfl dX9_told_90 ?_
    refine g8_2 C kb0 kd0 fl_X9_28 dX9_told_91 ?_
    refine g6_1 C sc11.l0 sc11.k0 fl_X9_119 dX9_told_94 ?_
    exact Rt _ _ _ _ dX9_told_97 h
  by_cases z1_5 : a1 = 5
  · have h := h.2.2.2.2.2.1 z1_5
    refine v_tableIn C (off := 97) 98 (by decide) (by rw [z1_5]; decide) (by rw [z1_5]; decide) (by rw [z1_5]; decide) dX9_told_1 ?_
    refine v_aload_n C 0 rfl dX9_told_98 ?_
    refine g8_2 C kb0 kd0 fl_X9_28 dX9_told_99 ?_
    refine v_callI C [] (k_X7_takenCorners 11 M sc11 _ h) yX7_takenCorners_k ml_X9_122 (rcv6 sc11.l0 sc11.k0) rfl rfl (Nat.le_of_ble_eq_true rfl) ⟨by decide, by decide⟩ dX9_told_102 (fun r2 M2 h => ?_)
    exact Rt _ _ _ _ dX9_told_105 h
  by_cases z1_6 : a1 = 6
  · have h := h.2.2.2.2.2.2.1 z1_6
    refine v_tableIn C (off := 105) 106 (by decide) (by rw [z1_6]; decide) (by rw [z1_6]; decide) (by rw [z1_6]; decide) dX9_told_1 ?_
    refine v_aload_n C 0 rfl dX9_told_106 ?_
    refine g8_2 C kb0 kd0 fl_X9_28 dX9_told_107 ?_
    refine v_callI C [] (k_X7_allFollowers 11 M sc11 _ h) yX7_allFollowers_k ml_X9_126 (rcv6 sc11.l0 sc11.k0) rfl rfl (Nat.le_of_ble_eq_true rfl) ⟨by decide, by decide⟩ dX9_told_110 (fun r3 M3 h => ?_)
    exact Rt _ _ _ _ dX9_told_113 h
  by_cases z1_7 : a1 = 7
  · have h := h.2.2.2.2.2.2.2.1 z1_7
    refine v_tableIn C (off := 113) 114 (by decide) (by rw [z1_7]; decide) (by rw [z1_7]; decide) (by rw [z1_7]; decide) dX9_told_1 ?_
    refine v_aload_n C 0 rfl dX9_told_114 ?_
    refine g8_2 C kb0 kd0 fl_X9_28 dX9_told_115 ?_
    refine v_callI C [] (k_X7_ringCount 11 M sc11 _ h) yX7_ringCount_k ml_X9_129 (rcv6 sc11.l0 sc11.k0) rfl rfl (Nat.le_of_ble_eq_true rfl) ⟨by decide, by decide⟩ dX9_told_118 (fun r4 M4 h => ?_)
    exact Rt _ _ _ _ dX9_told_121 h
  by_cases z1_8 : a1 = 8
  · have h := h.2.2.2.2.2.2.2.2.1 z1_8
    refine v_tableIn C (off := 121) 122 (by decide) (by rw [z1_8]; decide) (by rw [z1_8]; decide) (by rw [z1_8]; decide) dX9_told_1 ?_
    refine v_aload_n C 0 rfl dX9_told_122 ?_
    refine g8_2 C kb0 kd0 fl_X9_28 dX9_told_123 ?_
    refine v_callI C [] (k_X7_heads 11 M sc11 _ h) yX7_heads_k ml_X9_132 (rcv6 sc11.l0 sc11.k0) rfl rfl (Nat.le_of_ble_eq_true rfl) ⟨by decide, by decide⟩ dX9_told_126 (fun r5 M5 h => ?_)
    exact Rt _ _ _ _ dX9_told_129 h
  by_cases z1_9 : a1 = 9
  · have h := h.2.2.2.2.2.2.2.2.2.1 z1_9
    refine v_tableIn C (off := 129) 130 (by decide) (by rw [z1_9]; decide) (by rw [z1_9]; decide) (by rw [z1_9]; decide) dX9_told_1 ?_
    refine v_aload_n C 0 rfl dX9_told_130 ?_
    refine g8_6 C kb0 kd0 fl_X9_54 dX9_told_131 ?_
    refine g1_4 C en185.l0 en185.k0 fl_X9_109 dX9_told_134 ?_
    exact Rt _ _ _ _ dX9_told_137 h
  by_cases z1_10 : a1 = 10
  · have h := h.2.2.2.2.2.2.2.2.2.2.1 z1_10
    refine v_tableIn C (off := 137) 138 (by decide) (by rw [z1_10]; decide) (by rw [z1_10]; decide) (by rw [z1_10]; decide) dX9_told_1 ?_
    refine v_aload_n C 0 rfl dX9_told_138 ?_
    refine g8_7 C kb0 kd0 fl_X9_58 dX9_told_139 ?_
    refine g1_4 C en189.l0 en189.k0 fl_X9_109 dX9_told_142 ?_
    exact Rt _ _ _ _ dX9_told_145 h
  by_cases z1_11 : a1 = 11
  · have h := h.2.2.2.2.2.2.2.2.2.2.2.1 z1_11
    refine v_tableIn C (off := 145) 146 (by decide) (by rw [z1_11]; decide) (by rw [z1_11]; decide) (by rw [z1_11]; decide) dX9_told_1 ?_
    refine v_aload_n C 0 rfl dX9_told_146 ?_
    refine g8_4 C kb0 kd0 fl_X9_38 dX9_told_147 ?_
    refine g3_2 C kb25 kd25 fl_X9_135 dX9_told_150 ?_
    exact Rt _ _ _ _ dX9_told_153 h
  have h := h.2.2.2.2.2.2.2.2.2.2.2.2 ⟨z1_0, z1_1, z1_2, z1_3, z1_4, z1_5, z1_6, z1_7, z1_8, z1_9, z1_10, z1_11⟩
  refine v_tableOut C 154 (by decide) (sw_out_11 z1_0 z1_1 z1_2 z1_3 z1_4 z1_5 z1_6 z1_7 z1_8 z1_9 z1_10 z1_11) dX9_told_1 ?_
  refine v_ldc C kc_X9_85 dX9_told_154 ?_
  exact Rt _ _ _ _ dX9_told_156 h
theorem mt_X9_told {w : Wx} {l : Launch} (k_X7_takenCorners : Ct_X7_takenCorners w l) (k_X7_allFollowers : Ct_X7_allFollowers w l) (k_X7_ringCount : Ct_X7_ringCount w l) (k_X7_heads : Ct_X7_heads w l) : Ct_X9_told w l := by
  intro a1 M Q h
  refine met_i (by decide +kernel) (Nat.le_of_ble_eq_true rfl) (fun G C hG Rt => ?_)
  subst hG
  exact wk_X9_told C Rt k_X7_takenCorners k_X7_allFollowers k_X7_ringCount k_X7_heads a1 M (h)
theorem ct_X9_told (w : Wx) (l : Launch) : Ct_X9_told w l := mt_X9_told (ct_X7_takenCorners w l) (ct_X7_allFollowers w l) (ct_X7_ringCount w l) (ct_X7_heads w l)
set_option maxRecDepth 4000 in
theorem wk_X9_isCar {w : Wx} {G : Gx} {Q : Int32 → Mem → Prop} (C : Cx w G cX9_isCar RX9 0 0 2) (Rt : ∀ (pc : Nat) (lv : List (Nat × Value)) (r0 : Int32) (M0 : Mem), decode cX9_isCar pc = .ok (.ireturn, 1) → (r0 = 0 ∨ r0 = 1) → Q r0 M0 → V w G pc lv [.int r0] M0) (a1 : Int32) (M : Mem) (h : bd_X9_isCar Q a1 M) : V w G 0 [(0, .ref (w.2.1 0)), (1, .int a1)] [] M := by
  unfold bd_X9_isCar at h
  refine v_iload_n C 1 rfl dX9_isCar_0 ?_
  refine v_if_lt C 19 (by decide) dX9_isCar_1 (fun hc => ?_) (fun hc => ?_)
  · have h := h.1 hc
    refine v_kc C (0) (by decide) dX9_isCar_19 ?_
    exact Rt _ _ _ _ dX9_isCar_20 (by decide) h
  · have h := h.2 hc
    refine v_iload_n C 1 rfl dX9_isCar_4 ?_
    refine v_aload_n C 0 rfl dX9_isCar_5 ?_
    refine g8_2 C kb0 kd0 fl_X9_28 dX9_isCar_6 ?_
    refine g6_0 C sc11.l0 sc11.k0 fl_X9_116 dX9_isCar_9 ?_
    have key1 : V w G 20 [(0, .ref (w.2.1 0)), (1, .int a1)] (.int (if (M 11 0) ≤ a1 then (0 : Int32) else (1 : Int32)) :: []) M := by
      exact Rt _ _ _ _ dX9_isCar_20 h.1 h.2
    refine v_icmp_ge C 19 (by decide) dX9_isCar_12 (fun hc => ?_) (fun hc => ?_)
    · rw [show (if (M 11 0) ≤ a1 then (0 : Int32) else (1 : Int32) : Int32) = (0 : Int32) from if_pos hc] at key1
      refine v_kc C (0) (by decide) dX9_isCar_19 ?_
      exact key1
    · rw [show (if (M 11 0) ≤ a1 then (0 : Int32) else (1 : Int32) : Int32) = (1 : Int32) from if_neg hc] at key1
      refine v_kc C (1) (by decide) dX9_isCar_15 ?_
      refine v_goto C 20 (by decide) dX9_isCar_16 ?_
      exact key1
theorem mt_X9_isCar {w : Wx} {l : Launch} : Ct_X9_isCar w l := by
  intro a1 M Q h
  refine met_z (by decide +kernel) (Nat.le_of_ble_eq_true rfl) (fun G C hG Rt => ?_)
  subst hG
  exact wk_X9_isCar C Rt a1 M (h)
theorem ct_X9_isCar (w : Wx) (l : Launch) : Ct_X9_isCar w l := mt_X9_isCar
set_option maxRecDepth 4000 in
theorem wk_X9_car {w : Wx} {G : Gx} {Q : Int32 → Mem → Prop} (C : Cx w G cX9_car RX9 1 21 3) (Rt : ∀ (pc : Nat) (lv : List (Nat × Value)) (r0 : Int32) (M0 : Mem), decode cX9_car pc = .ok (.ireturn, 1) → Q r0 M0 → V w G pc lv [.int r0] M0) (k_X9_isCar : Ct_X9_isCar w G.2.1) (a1 : Int32) (a2 : Int32) (M : Mem) (h : bd_X9_car Q a1 a2 M) : V w G 0 [(0, .ref (w.2.1 0)), (1, .int a1), (2, .int a2)] [] M := by
  unfold bd_X9_car at h
  refine v_aload_n C 0 rfl dX9_car_0 ?_
  refine v_iload_n C 1 rfl dX9_car_1 ?_
  refine v_callI C [] (k_X9_isCar a1 M _ h) yX9_isCar_k ml_X9_136 (rcv8 kb0 kd0) rfl rfl (Nat.le_of_ble_eq_true rfl) ⟨by decide, by decide⟩ dX9_car_2 (fun r1 M1 h => ?_)
  refine v_if_ne C 11 (by decide) dX9_car_5 (fun hc => ?_) (fun hc => ?_)
  · have h := h.2 hc
    refine v_iload_n C 2 rfl dX9_car_11 ?_
    by_cases z2_0 : a2 = 0
    · have h := h.1 z2_0
      refine v_tableIn C (off := 36) 48 (by decide) (by rw [z2_0]; decide) (by rw [z2_0]; decide) (by rw [z2_0]; decide) dX9_car_12 ?_
      refine v_aload_n C 0 rfl dX9_car_48 ?_
      refine g8_2 C kb0 kd0 fl_X9_28 dX9_car_49 ?_
      refine g6_2 C sc11.l0 sc11.k0 fl_X9_141 dX9_car_52 ?_
      refine v_iload_n C 1 rfl dX9_car_55 ?_
      obtain ⟨s3, h⟩ := h
      refine v_iald C sc11.l1 sc11.k1 sc11.n1 s3 dX9_car_56 ?_
      exact Rt _ _ _ _ dX9_car_57 h
    by_cases z2_1 : a2 = 1
    · have h := h.2.1 z2_1
      refine v_tableIn C (off := 46) 58 (by decide) (by rw [z2_1]; decide) (by rw [z2_1]; decide) (by rw [z2_1]; decide) dX9_car_12 ?_
      refine v_aload_n C 0 rfl dX9_car_58 ?_
      refine g8_2 C kb0 kd0 fl_X9_28 dX9_car_59 ?_
      refine g6_3 C sc11.l0 sc11.k0 fl_X9_145 dX9_car_62 ?_
      refine v_iload_n C 1 rfl dX9_car_65 ?_
      obtain ⟨s4, h⟩ := h
      refine v_iald C sc11.l2 sc11.k2 sc11.n2 s4 dX9_car_66 ?_
      exact Rt _ _ _ _ dX9_car_67 h
    by_cases z2_2 : a2 = 2
    · have h := h.2.2.1 z2_2
      refine v_tableIn C (off := 56) 68 (by decide) (by rw [z2_2]; decide) (by rw [z2_2]; decide) (by rw [z2_2]; decide) dX9_car_12 ?_
      refine v_aload_n C 0 rfl dX9_car_68 ?_
      refine g8_2 C kb0 kd0 fl_X9_28 dX9_car_69 ?_
      refine g6_4 C sc11.l0 sc11.k0 fl_X9_148 dX9_car_72 ?_
      refine v_iload_n C 1 rfl dX9_car_75 ?_
      obtain ⟨s5, h⟩ := h
      refine v_iald C sc11.l3 sc11.k3 sc11.n3 s5 dX9_car_76 ?_
      exact Rt _ _ _ _ dX9_car_77 h
    by_cases z2_3 : a2 = 3
    · have h := h.2.2.2.1 z2_3
      refine v_tableIn C (off := 66) 78 (by decide) (by rw [z2_3]; decide) (by rw [z2_3]; decide) (by rw [z2_3]; decide) dX9_car_12 ?_
      refine v_aload_n C 0 rfl dX9_car_78 ?_
      refine g8_2 C kb0 kd0 fl_X9_28 dX9_car_79 ?_
      refine g6_5 C sc11.l0 sc11.k0 fl_X9_151 dX9_car_82 ?_
      refine v_iload_n C 1 rfl dX9_car_85 ?_
      obtain ⟨s6, h⟩ := h
      refine v_iald C sc11.l4 sc11.k4 sc11.n4 s6 dX9_car_86 ?_
      exact Rt _ _ _ _ dX9_car_87 h
    by_cases z2_4 : a2 = 4
    · have h := h.2.2.2.2.1 z2_4
      refine v_tableIn C (off := 76) 88 (by decide) (by rw [z2_4]; decide) (by rw [z2_4]; decide) (by rw [z2_4]; decide) dX9_car_12 ?_
      refine v_aload_n C 0 rfl dX9_car_88 ?_
      refine g8_2 C kb0 kd0 fl_X9_28 dX9_car_89 ?_
      refine g6_6 C sc11.l0 sc11.k0 fl_X9_154 dX9_car_92 ?_
      refine v_iload_n C 1 rfl dX9_car_95 ?_
      obtain ⟨s7, h⟩ := h
      refine v_iald C sc11.l5 sc11.k5 sc11.n5 s7 dX9_car_96 ?_
      exact Rt _ _ _ _ dX9_car_97 h
    have h := h.2.2.2.2.2 ⟨z2_0, z2_1, z2_2, z2_3, z2_4⟩
    refine v_tableOut C 98 (by decide) (sw_out_4 z2_0 z2_1 z2_2 z2_3 z2_4) dX9_car_12 ?_
    refine v_ldc C kc_X9_85 dX9_car_98 ?_
    exact Rt _ _ _ _ dX9_car_100 h
  · have h := h.1 hc
    refine v_ldc C kc_X9_140 dX9_car_8 ?_
    exact Rt _ _ _ _ dX9_car_10 h
theorem mt_X9_car {w : Wx} {l : Launch} (k_X9_isCar : Ct_X9_isCar w l) : Ct_X9_car w l := by
  intro a1 a2 M Q h
  refine met_i (by decide +kernel) (Nat.le_of_ble_eq_true rfl) (fun G C hG Rt => ?_)
  subst hG
  exact wk_X9_car C Rt k_X9_isCar a1 a2 M (h)
theorem ct_X9_car (w : Wx) (l : Launch) : Ct_X9_car w l := mt_X9_car (ct_X9_isCar w l)
set_option maxRecDepth 4000 in
theorem wk_X9_refusalOfSteps {w : Wx} {G : Gx} {Q : Int32 → Mem → Prop} (C : Cx w G cX9_refusalOfSteps RX9 0 0 2) (Rt : ∀ (pc : Nat) (lv : List (Nat × Value)) (r0 : Int32) (M0 : Mem), decode cX9_refusalOfSteps pc = .ok (.ireturn, 1) → Q r0 M0 → V w G pc lv [.int r0] M0) (a1 : Int32) (M : Mem) (h : bd_X9_refusalOfSteps Q a1 M) : V w G 0 [(0, .ref (w.2.1 0)), (1, .int a1)] [] M := by
  unfold bd_X9_refusalOfSteps at h
  refine v_iload_n C 1 rfl dX9_refusalOfSteps_0 ?_
  refine v_kc C (1) (by decide) dX9_refusalOfSteps_1 ?_
  refine v_icmp_lt C 11 (by decide) dX9_refusalOfSteps_2 (fun hc => ?_) (fun hc => ?_)
  · have h := h.1 hc
    refine v_ldc C kc_X9_85 dX9_refusalOfSteps_11 ?_
    exact Rt _ _ _ _ dX9_refusalOfSteps_13 h
  · have h := h.2 hc
    refine v_iload_n C 1 rfl dX9_refusalOfSteps_5 ?_
    refine v_kb C (60) (by decide) dX9_refusalOfSteps_6 ?_
    refine v_icmp_le C 14 (by decide) dX9_refusalOfSteps_8 (fun hc => ?_) (fun hc => ?_)
    · have h := h.1 hc
      refine v_aload_n C 0 rfl dX9_refusalOfSteps_14 ?_
      refine g8_10 C kb0 kd0 fl_X9_75 dX9_refusalOfSteps_15 ?_
      refine v_if_ne C 24 (by decide) dX9_refusalOfSteps_18 (fun hc => ?_) (fun hc => ?_)
      · have h := h.2 hc
        refine v_aload_n C 0 rfl dX9_refusalOfSteps_24 ?_
        refine g8_2 C kb0 kd0 fl_X9_28 dX9_refusalOfSteps_25 ?_
        refine g6_1 C sc11.l0 sc11.k0 fl_X9_119 dX9_refusalOfSteps_28 ?_
        refine v_ks C (9000) (by decide) dX9_refusalOfSteps_31 ?_
        have key1 : V w G 43 [(0, .ref (w.2.1 0)), (1, .int a1)] (.int (if (M 11 1) ≤ ((9000 : Int32)) then (0 : Int32) else (-1000000004 : Int32)) :: []) M := by
          exact Rt _ _ _ _ dX9_refusalOfSteps_43 h
        refine v_icmp_le C 42 (by decide) dX9_refusalOfSteps_34 (fun hc => ?_) (fun hc => ?_)
        · rw [show (if (M 11 1) ≤ ((9000 : Int32)) then (0 : Int32) else (-1000000004 : Int32) : Int32) = (0 : Int32) from if_pos hc] at key1
          refine v_kc C (0) (by decide) dX9_refusalOfSteps_42 ?_
          exact key1
        · rw [show (if (M 11 1) ≤ ((9000 : Int32)) then (0 : Int32) else (-1000000004 : Int32) : Int32) = (-1000000004 : Int32) from if_neg hc] at key1
          refine v_ldc C kc_X9_89 dX9_refusalOfSteps_37 ?_
          refine v_goto C 43 (by decide) dX9_refusalOfSteps_39 ?_
          exact key1
      · have h := h.1 hc
        refine v_ldc C kc_X9_171 dX9_refusalOfSteps_21 ?_
        exact Rt _ _ _ _ dX9_refusalOfSteps_23 h
    · have h := h.2 hc
      refine v_ldc C kc_X9_85 dX9_refusalOfSteps_11 ?_
      exact Rt _ _ _ _ dX9_refusalOfSteps_13 h
theorem mt_X9_refusalOfSteps {w : Wx} {l : Launch} : Ct_X9_refusalOfSteps w l := by
  intro a1 M Q h
  refine met_i (by decide +kernel) (Nat.le_of_ble_eq_true rfl) (fun G C hG Rt => ?_)
  subst hG
  exact wk_X9_refusalOfSteps C Rt a1 M (h)
theorem ct_X9_refusalOfSteps (w : Wx) (l : Launch) : Ct_X9_refusalOfSteps w l := mt_X9_refusalOfSteps
set_option maxRecDepth 4000 in
theorem wk_X4_push {w : Wx} {G : Gx} {Q : Mem → Prop} (C : Cx w G cX4_push RX4 2 61 2) (Rt : ∀ (pc : Nat) (lv : List (Nat × Value)) (M0 : Mem), decode cX4_push pc = .ok (.return_, 1) → Q M0 → V w G pc lv [] M0) (k_X7_copyFrom : Ct_X7_copyFrom w G.2.1) (M : Mem) (h : bd_X4_push Q M) : V w G 0 [(0, .ref (w.2.1 25)), (1, .ref (w.2.1 11))] [] M := by
  unfold bd_X4_push at h
  refine v_aload_n C 0 rfl dX4_push_0 ?_
  refine g3_0 C kb25 kd25 fl_X4_11 dX4_push_1 ?_
  refine v_aload_n C 0 rfl dX4_push_4 ?_
  refine g3_1 C kb25 kd25 fl_X4_17 dX4_push_5 ?_
  obtain ⟨s1, h⟩ := h
  refine v_sald C kb26 kd26 ln26 s1 dX4_push_8 ?_
  refine v_aload_n C 1 rfl dX4_push_9 ?_
  refine v_callV C [] (k_X7_copyFrom (ra 26 (M 25 1).toNatClampNeg) 11 M (sc26 s1) sc11 _ h) yX7_copyFrom_k ml_X4_25 (rcv6 (sc26 s1).l0 (sc26 s1).k0) rfl rfl (Nat.le_of_ble_eq_true rfl) ⟨by decide, by decide⟩ dX4_push_10 (fun M2 h => ?_)
  refine v_aload_n C 0 rfl dX4_push_13 ?_
  refine v_aload_n C 0 rfl dX4_push_14 ?_
  refine g3_1 C kb25 kd25 fl_X4_17 dX4_push_15 ?_
  refine v_kc C (1) (by decide) dX4_push_18 ?_
  refine v_iadd C dX4_push_19 ?_
  refine v_kb C (20) (by decide) dX4_push_20 ?_
  refine v_irem C (by decide) dX4_push_22 ?_
  refine p3_1 C kb25 kd25 fl_X4_17 dX4_push_23 (fun M3 e3 => ?_)
  have h := h M3 e3
  refine v_aload_n C 0 rfl dX4_push_26 ?_
  refine v_aload_n C 0 rfl dX4_push_27 ?_
  refine g3_2 C kb25 kd25 fl_X4_21 dX4_push_28 ?_
  refine v_kc C (1) (by decide) dX4_push_31 ?_
  refine v_iadd C dX4_push_32 ?_
  refine v_kb C (20) (by decide) dX4_push_33 ?_
  refine v_mmin C ml_X4_29 ms_min m_mathi mc_min (by decide) (Nat.le_of_ble_eq_true rfl) dX4_push_35 ?_
  refine p3_2 C kb25 kd25 fl_X4_21 dX4_push_38 (fun M4 e4 => ?_)
  have h := h M4 e4
  exact Rt _ _ _ dX4_push_41 h
theorem mt_X4_push {w : Wx} {l : Launch} (k_X7_copyFrom : Ct_X7_copyFrom w l) : Ct_X4_push w l := by
  intro M Q h
  refine met_v (by decide +kernel) (Nat.le_of_ble_eq_true rfl) (fun G C hG Rt => ?_)
  subst hG
  exact wk_X4_push C Rt k_X7_copyFrom M (h)
theorem ct_X4_push (w : Wx) (l : Launch) : Ct_X4_push w l := mt_X4_push (ct_X7_copyFrom w l)
set_option maxRecDepth 4000 in
theorem wk_X7_goRound {w : Wx} {G : Gx} {Q : Int32 → Mem → Prop} (C : Cx w G cX7_goRound RX7 2 43 4) (Rt : ∀ (pc : Nat) (lv : List (Nat × Value)) (r0 : Int32) (M0 : Mem), decode cX7_goRound pc = .ok (.ireturn, 1) → Q r0 M0 → V w G pc lv [.int r0] M0) (k_X2_count : Ct_X2_count w G.2.1) (k_X2_at : Ct_X2_at w G.2.1) (b : Nat) (a1 : Int32) (hb : Sc b) (M : Mem) (h : bd_X7_goRound Q b a1 M) : V w G 0 [(0, .ref (w.2.1 b)), (1, .int a1)] [] M := by
  unfold bd_X7_goRound at h
  refine v_aload_n C 0 rfl dX7_goRound_0 ?_
  refine g6_4 C hb.l0 hb.k0 fl_X7_25 dX7_goRound_1 ?_
  refine v_iload_n C 1 rfl dX7_goRound_4 ?_
  obtain ⟨s1, h⟩ := h
  refine v_iald C hb.l3 hb.k3 hb.n3 s1 dX7_goRound_5 ?_
  refine v_callSI C [] (k_X2_count (M (b + 3) a1.toNatClampNeg) M _ h) yX2_count_k ml_X7_50 rfl rfl (Nat.le_of_ble_eq_true rfl) ⟨by decide, by decide⟩ dX7_goRound_6 (fun r2 M2 h => ?_)
  refine v_istore_n C [(2, .int r2), (0, .ref (w.2.1 b)), (1, .int a1)] rfl (by decide) dX7_goRound_9 ?_
  refine v_aload_n C 1 rfl dX7_goRound_10 ?_
  refine g6_4 C hb.l0 hb.k0 fl_X7_25 dX7_goRound_11 ?_
  refine v_iload_n C 2 rfl dX7_goRound_14 ?_
  obtain ⟨s3, h⟩ := h
  refine v_iald C hb.l3 hb.k3 hb.n3 s3 dX7_goRound_15 ?_
  refine v_aload_n C 1 rfl dX7_goRound_16 ?_
  refine g6_5 C hb.l0 hb.k0 fl_X7_28 dX7_goRound_17 ?_
  refine v_iload_n C 2 rfl dX7_goRound_20 ?_
  obtain ⟨s4, h⟩ := h
  refine v_iald C hb.l4 hb.k4 hb.n4 s4 dX7_goRound_21 ?_
  refine v_callSI C [] (k_X2_at (M2 (b + 3) a1.toNatClampNeg) (M2 (b + 4) a1.toNatClampNeg) M2 _ h) yX2_at_k ml_X7_55 rfl rfl (Nat.le_of_ble_eq_true rfl) ⟨by decide, by decide⟩ dX7_goRound_22 (fun r5 M5 h => ?_)
  refine v_istore_n C [(3, .int r5), (2, .int r2), (0, .ref (w.2.1 b)), (1, .int a1)] rfl (by decide) dX7_goRound_25 ?_
  refine v_aload_n C 2 rfl dX7_goRound_26 ?_
  refine g6_5 C hb.l0 hb.k0 fl_X7_28 dX7_goRound_27 ?_
  refine v_iload_n C 3 rfl dX7_goRound_30 ?_
  refine v_aload_n C 2 rfl dX7_goRound_31 ?_
  refine g6_5 C hb.l0 hb.k0 fl_X7_28 dX7_goRound_32 ?_
  refine v_iload_n C 3 rfl dX7_goRound_35 ?_
  obtain ⟨s6, h⟩ := h
  refine v_iald C hb.l4 hb.k4 hb.n4 s6 dX7_goRound_36 ?_
  refine v_kc C (1) (by decide) dX7_goRound_37 ?_
  refine v_iadd C dX7_goRound_38 ?_
  refine v_iload_n C 1 rfl dX7_goRound_39 ?_
  obtain ⟨ca7, cb7, h⟩ := h
  have key7 : V w G 55 [(3, .int r5), (2, .int r2), (0, .ref (w.2.1 b)), (1, .int a1)] (.int (if r2 ≤ ((M5 (b + 4) a1.toNatClampNeg) + ((1 : Int32))) then (0 : Int32) else (M5 (b + 4) a1.toNatClampNeg) + ((1 : Int32))) :: .int a1 :: .ref (w.2.1 (b + 4)) :: []) M5 := by
    obtain ⟨s8, h⟩ := h
    refine v_iast C hb.l4 hb.k4 hb.n4 s8 dX7_goRound_55 (fun M9 e9 => ?_)
    have h := h M9 e9
    refine v_iload_n C 0 rfl dX7_goRound_56 ?_
    refine v_kc C (1) (by decide) dX7_goRound_57 ?_
    refine v_isub C dX7_goRound_58 ?_
    exact Rt _ _ _ _ dX7_goRound_59 h
  refine v_icmp_ge C 54 (by decide) dX7_goRound_40 (fun hc => ?_) (fun hc => ?_)
  · rw [show (if r2 ≤ ((M5 (b + 4) a1.toNatClampNeg) + ((1 : Int32))) then (0 : Int32) else (M5 (b + 4) a1.toNatClampNeg) + ((1 : Int32)) : Int32) = (0 : Int32) from if_pos hc] at key7
    refine v_kc C (0) (by decide) dX7_goRound_54 ?_
    exact key7
  · rw [show (if r2 ≤ ((M5 (b + 4) a1.toNatClampNeg) + ((1 : Int32))) then (0 : Int32) else (M5 (b + 4) a1.toNatClampNeg) + ((1 : Int32)) : Int32) = (M5 (b + 4) a1.toNatClampNeg) + ((1 : Int32)) from if_neg hc] at key7
    obtain ⟨q0, -⟩ := cb7 hc
    refine v_aload_n C 2 rfl dX7_goRound_43 ?_
    refine g6_5 C hb.l0 hb.k0 fl_X7_28 dX7_goRound_44 ?_
    refine v_iload_n C 3 rfl dX7_goRound_47 ?_
    refine v_iald C hb.l4 hb.k4 hb.n4 q0 dX7_goRound_48 ?_
    refine v_kc C (1) (by decide) dX7_goRound_49 ?_
    refine v_iadd C dX7_goRound_50 ?_
    refine v_goto C 55 (by decide) dX7_goRound_51 ?_
    exact key7
theorem mt_X7_goRound {w : Wx} {l : Launch} (k_X2_count : Ct_X2_count w l) (k_X2_at : Ct_X2_at w l) : Ct_X7_goRound w l := by
  intro b a1 M hb Q h
  refine met_i (by decide +kernel) (Nat.le_of_ble_eq_true rfl) (fun G C hG Rt => ?_)
  subst hG
  exact wk_X7_goRound C Rt k_X2_count k_X2_at b a1 hb M (h)
theorem ct_X7_goRound (w : Wx) (l : Launch) : Ct_X7_goRound w l := mt_X7_goRound (ct_X2_count w l) (ct_X2_at w l)
set_option maxRecDepth 4000 in
theorem wk_X7_move {w : Wx} {G : Gx} {Q : Mem → Prop} (C : Cx w G cX7_move RX7 3 66 2) (Rt : ∀ (pc : Nat) (lv : List (Nat × Value)) (M0 : Mem), decode cX7_move pc = .ok (.return_, 1) → Q M0 → V w G pc lv [] M0) (k_X7_goRound : Ct_X7_goRound w G.2.1) (b : Nat) (hb : Sc b) (M : Mem) (h : bd_X7_move Q (fun (x1 : Int32) (M : Mem) => V w G 17 [(0, .ref (w.2.1 b)), (1, .int x1)] [] M) b M) : V w G 0 [(0, .ref (w.2.1 b))] [] M := by
  unfold bd_X7_move at h
  refine v_aload_n C 0 rfl dX7_move_0 ?_
  refine g6_2 C hb.l0 hb.k0 fl_X7_18 dX7_move_1 ?_
  refine v_kc C (0) (by decide) dX7_move_4 ?_
  refine v_aload_n C 0 rfl dX7_move_5 ?_
  refine g6_7 C hb.l0 hb.k0 fl_X7_34 dX7_move_6 ?_
  refine v_kc C (0) (by decide) dX7_move_9 ?_
  refine v_kb C (8) (by decide) dX7_move_10 ?_
  refine v_copy8 C ml_X7_37 hb.l1 hb.k1 hb.n1 hb.l6 hb.k6 hb.n6 (by decide) (Nat.le_of_ble_eq_true rfl) dX7_move_12 (fun M1 e1 => ?_)
  have h := h M1 e1
  refine v_kc C (0) (by decide) dX7_move_15 ?_
  refine v_istore_n C [(1, .int ((0 : Int32))), (0, .ref (w.2.1 b))] rfl (by decide) dX7_move_16 ?_
  exact V.sub [1, 0] rfl h
set_option maxRecDepth 4000 in
theorem wk_X7_move_17 {w : Wx} {G : Gx} {Q : Mem → Prop} (C : Cx w G cX7_move RX7 3 66 2) (Rt : ∀ (pc : Nat) (lv : List (Nat × Value)) (M0 : Mem), decode cX7_move pc = .ok (.return_, 1) → Q M0 → V w G pc lv [] M0) (k_X7_goRound : Ct_X7_goRound w G.2.1) (b : Nat) (hb : Sc b) (x1 : Int32) (M : Mem) (h : bd_X7_move_17 Q (fun (x1 : Int32) (M : Mem) => V w G 17 [(0, .ref (w.2.1 b)), (1, .int x1)] [] M) b x1 M) : V w G 17 [(0, .ref (w.2.1 b)), (1, .int x1)] [] M := by
  unfold bd_X7_move_17 at h
  refine v_iload_n C 1 rfl dX7_move_17 ?_
  refine v_aload_n C 0 rfl dX7_move_18 ?_
  refine g6_0 C hb.l0 hb.k0 fl_X7_9 dX7_move_19 ?_
  refine v_icmp_ge C 91 (by decide) dX7_move_22 (fun hc => ?_) (fun hc => ?_)
  · have h := h.1 hc
    refine v_aload_n C 0 rfl dX7_move_91 ?_
    refine v_dup C rfl dX7_move_92 ?_
    refine g6_1 C hb.l0 hb.k0 fl_X7_15 dX7_move_93 ?_
    refine v_kc C (1) (by decide) dX7_move_96 ?_
    refine v_iadd C dX7_move_97 ?_
    refine p6_1 C hb.l0 hb.k0 fl_X7_15 dX7_move_98 (fun M1 e1 => ?_)
    have h := h M1 e1
    exact Rt _ _ _ dX7_move_101 h
  · have h := h.2 hc
    refine v_aload_n C 0 rfl dX7_move_25 ?_
    refine g6_2 C hb.l0 hb.k0 fl_X7_18 dX7_move_26 ?_
    refine v_iload_n C 1 rfl dX7_move_29 ?_
    refine v_aload_n C 0 rfl dX7_move_30 ?_
    refine g6_3 C hb.l0 hb.k0 fl_X7_22 dX7_move_31 ?_
    refine v_iload_n C 1 rfl dX7_move_34 ?_
    obtain ⟨s2, h⟩ := h
    refine v_iald C hb.l2 hb.k2 hb.n2 s2 dX7_move_35 ?_
    refine v_kc C (-1) (by decide) dX7_move_36 ?_
    refine v_icmp_ne C 48 (by decide) dX7_move_37 (fun hc => ?_) (fun hc => ?_)
    · have h := h.2 hc
      refine v_aload_n C 0 rfl dX7_move_48 ?_
      refine g6_7 C hb.l0 hb.k0 fl_X7_34 dX7_move_49 ?_
      refine v_aload_n C 0 rfl dX7_move_52 ?_
      refine g6_3 C hb.l0 hb.k0 fl_X7_22 dX7_move_53 ?_
      refine v_iload_n C 1 rfl dX7_move_56 ?_
      obtain ⟨s3, h⟩ := h
      refine v_iald C hb.l2 hb.k2 hb.n2 s3 dX7_move_57 ?_
      obtain ⟨s4, h⟩ := h
      refine v_iald C hb.l6 hb.k6 hb.n6 s4 dX7_move_58 ?_
      obtain ⟨s5, h⟩ := h
      refine v_iast C hb.l1 hb.k1 hb.n1 s5 dX7_move_59 (fun M6 e6 => ?_)
      have h := h M6 e6
      refine v_aload_n C 0 rfl dX7_move_60 ?_
      refine g6_2 C hb.l0 hb.k0 fl_X7_18 dX7_move_61 ?_
      refine v_iload_n C 1 rfl dX7_move_64 ?_
      obtain ⟨s7, h⟩ := h
      refine v_iald C hb.l1 hb.k1 hb.n1 s7 dX7_move_65 ?_
      refine v_aload_n C 0 rfl dX7_move_66 ?_
      refine g6_7 C hb.l0 hb.k0 fl_X7_34 dX7_move_67 ?_
      refine v_iload_n C 1 rfl dX7_move_70 ?_
      obtain ⟨s8, h⟩ := h
      refine v_iald C hb.l6 hb.k6 hb.n6 s8 dX7_move_71 ?_
      refine v_icmp_eq C 85 (by decide) dX7_move_72 (fun hc => ?_) (fun hc => ?_)
      · have h := h.1 hc
        refine v_iinc C (j := 1) [(1, .int (x1 + 1)), (0, .ref (w.2.1 b))] rfl (x1 + 1) rfl rfl (by decide) dX7_move_85 ?_
        refine v_goto C 17 (by decide) dX7_move_88 ?_
        exact V.sub [1, 0] rfl h
      · have h := h.2 hc
        refine v_aload_n C 0 rfl dX7_move_75 ?_
        refine g6_6 C hb.l0 hb.k0 fl_X7_31 dX7_move_76 ?_
        refine v_iload_n C 1 rfl dX7_move_79 ?_
        refine v_dup2 C rfl rfl dX7_move_80 ?_
        obtain ⟨s9, h⟩ := h
        refine v_iald C hb.l5 hb.k5 hb.n5 s9 dX7_move_81 ?_
        refine v_kc C (1) (by decide) dX7_move_82 ?_
        refine v_iadd C dX7_move_83 ?_
        obtain ⟨s10, h⟩ := h
        refine v_iast C hb.l5 hb.k5 hb.n5 s10 dX7_move_84 (fun M11 e11 => ?_)
        have h := h M11 e11
        refine v_iinc C (j := 1) [(1, .int (x1 + 1)), (0, .ref (w.2.1 b))] rfl (x1 + 1) rfl rfl (by decide) dX7_move_85 ?_
        refine v_goto C 17 (by decide) dX7_move_88 ?_
        exact V.sub [1, 0] rfl h
    · have h := h.1 hc
      refine v_aload_n C 0 rfl dX7_move_40 ?_
      refine v_iload_n C 1 rfl dX7_move_41 ?_
      refine v_callI C [.int x1, .ref (w.2.1 (b + 1))] (k_X7_goRound b x1 M hb _ h) yX7_goRound_k ml_X7_46 (rcv6 hb.l0 hb.k0) rfl rfl (Nat.le_of_ble_eq_true rfl) ⟨by decide, by decide⟩ dX7_move_42 (fun r12 M12 h => ?_)
      refine v_goto C 59 (by decide) dX7_move_45 ?_
      obtain ⟨s13, h⟩ := h
      refine v_iast C hb.l1 hb.k1 hb.n1 s13 dX7_move_59 (fun M14 e14 => ?_)
      have h := h M14 e14
      refine v_aload_n C 0 rfl dX7_move_60 ?_
      refine g6_2 C hb.l0 hb.k0 fl_X7_18 dX7_move_61 ?_
      refine v_iload_n C 1 rfl dX7_move_64 ?_
      obtain ⟨s15, h⟩ := h
      refine v_iald C hb.l1 hb.k1 hb.n1 s15 dX7_move_65 ?_
      refine v_aload_n C 0 rfl dX7_move_66 ?_
      refine g6_7 C hb.l0 hb.k0 fl_X7_34 dX7_move_67 ?_
      refine v_iload_n C 1 rfl dX7_move_70 ?_
      obtain ⟨s16, h⟩ := h
      refine v_iald C hb.l6 hb.k6 hb.n6 s16 dX7_move_71 ?_
      refine v_icmp_eq C 85 (by decide) dX7_move_72 (fun hc => ?_) (fun hc => ?_)
      · have h := h.1 hc
        refine v_iinc C (j := 1) [(1, .int (x1 + 1)), (0, .ref (w.2.1 b))] rfl (x1 + 1) rfl rfl (by decide) dX7_move_85 ?_
        refine v_goto C 17 (by decide) dX7_move_88 ?_
        exact V.sub [1, 0] rfl h
      · have h := h.2 hc
        refine v_aload_n C 0 rfl dX7_move_75 ?_
        refine g6_6 C hb.l0 hb.k0 fl_X7_31 dX7_move_76 ?_
        refine v_iload_n C 1 rfl dX7_move_79 ?_
        refine v_dup2 C rfl rfl dX7_move_80 ?_
        obtain ⟨s17, h⟩ := h
        refine v_iald C hb.l5 hb.k5 hb.n5 s17 dX7_move_81 ?_
        refine v_kc C (1) (by decide) dX7_move_82 ?_
        refine v_iadd C dX7_move_83 ?_
        obtain ⟨s18, h⟩ := h
        refine v_iast C hb.l5 hb.k5 hb.n5 s18 dX7_move_84 (fun M19 e19 => ?_)
        have h := h M19 e19
        refine v_iinc C (j := 1) [(1, .int (x1 + 1)), (0, .ref (w.2.1 b))] rfl (x1 + 1) rfl rfl (by decide) dX7_move_85 ?_
        refine v_goto C 17 (by decide) dX7_move_88 ?_
        exact V.sub [1, 0] rfl h
theorem mt_X7_move {w : Wx} {l : Launch} (k_X7_goRound : Ct_X7_goRound w l) : Ct_X7_move w l := by
  intro b M hb Q h
  refine met_v (by decide +kernel) (Nat.le_of_ble_eq_true rfl) (fun G C hG Rt => ?_)
  subst hG
  exact wk_X7_move C Rt k_X7_goRound b hb M (h _ (fun x1 M h => wk_X7_move_17 C Rt k_X7_goRound b hb x1 M h))
theorem ct_X7_move (w : Wx) (l : Launch) : Ct_X7_move w l := mt_X7_move (ct_X7_goRound w l)
set_option maxRecDepth 4000 in
theorem wk_X7_moveTimes {w : Wx} {G : Gx} {Q : Mem → Prop} (C : Cx w G cX7_moveTimes RX7 4 87 3) (Rt : ∀ (pc : Nat) (lv : List (Nat × Value)) (M0 : Mem), decode cX7_moveTimes pc = .ok (.return_, 1) → Q M0 → V w G pc lv [] M0) (k_X7_move : Ct_X7_move w G.2.1) (b : Nat) (a1 : Int32) (hb : Sc b) (M : Mem) (h : bd_X7_moveTimes Q (fun (x2 : Int32) (M : Mem) => V w G 2 [(0, .ref (w.2.1 b)), (1, .int a1), (2, .int x2)] [] M) b a1 M) : V w G 0 [(0, .ref (w.2.1 b)), (1, .int a1)] [] M := by
  unfold bd_X7_moveTimes at h
  refine v_kc C (0) (by decide) dX7_moveTimes_0 ?_
  refine v_istore_n C [(2, .int ((0 : Int32))), (0, .ref (w.2.1 b)), (1, .int a1)] rfl (by decide) dX7_moveTimes_1 ?_
  exact V.sub [1, 2, 0] rfl h
set_option maxRecDepth 4000 in
theorem wk_X7_moveTimes_2 {w : Wx} {G : Gx} {Q : Mem → Prop} (C : Cx w G cX7_moveTimes RX7 4 87 3) (Rt : ∀ (pc : Nat) (lv : List (Nat × Value)) (M0 : Mem), decode cX7_moveTimes pc = .ok (.return_, 1) → Q M0 → V w G pc lv [] M0) (k_X7_move : Ct_X7_move w G.2.1) (b : Nat) (a1 : Int32) (hb : Sc b) (x2 : Int32) (M : Mem) (h : bd_X7_moveTimes_2 Q (fun (x2 : Int32) (M : Mem) => V w G 2 [(0, .ref (w.2.1 b)), (1, .int a1), (2, .int x2)] [] M) b a1 x2 M) : V w G 2 [(0, .ref (w.2.1 b)), (1, .int a1), (2, .int x2)] [] M := by
  unfold bd_X7_moveTimes_2 at h
  refine v_iload_n C 2 rfl dX7_moveTimes_2 ?_
  refine v_iload_n C 1 rfl dX7_moveTimes_3 ?_
  refine v_icmp_ge C 17 (by decide) dX7_moveTimes_4 (fun hc => ?_) (fun hc => ?_)
  · have h := h.1 hc
    exact Rt _ _ _ dX7_moveTimes_17 h
  · have h := h.2 hc
    refine v_aload_n C 0 rfl dX7_moveTimes_7 ?_
    refine v_callV C [] (k_X7_move b M hb _ h) yX7_move_k ml_X7_43 (rcv6 hb.l0 hb.k0) rfl rfl (Nat.le_of_ble_eq_true rfl) ⟨by decide, by decide⟩ dX7_moveTimes_8 (fun M1 h => ?_)
    refine v_iinc C (j := 2) [(2, .int (x2 + 1)), (0, .ref (w.2.1 b)), (1, .int a1)] rfl (x2 + 1) rfl rfl (by decide) dX7_moveTimes_11 ?_
    refine v_goto C 2 (by decide) dX7_moveTimes_14 ?_
    exact V.sub [1, 2, 0] rfl h
theorem mt_X7_moveTimes {w : Wx} {l : Launch} (k_X7_move : Ct_X7_move w l) : Ct_X7_moveTimes w l := by
  intro b a1 M hb Q h
  refine met_v (by decide +kernel) (Nat.le_of_ble_eq_true rfl) (fun G C hG Rt => ?_)
  subst hG
  exact wk_X7_moveTimes C Rt k_X7_move b a1 hb M (h _ (fun x2 M h => wk_X7_moveTimes_2 C Rt k_X7_move b a1 hb x2 M h))
theorem ct_X7_moveTimes (w : Wx) (l : Launch) : Ct_X7_moveTimes w l := mt_X7_moveTimes (ct_X7_move w l)
set_option maxRecDepth 4000 in
theorem wk_X9_step {w : Wx} {G : Gx} {Q : Int32 → Mem → Prop} (C : Cx w G cX9_step RX9 5 109 3) (Rt : ∀ (pc : Nat) (lv : List (Nat × Value)) (r0 : Int32) (M0 : Mem), decode cX9_step pc = .ok (.ireturn, 1) → Q r0 M0 → V w G pc lv [.int r0] M0) (k_X9_refusalOfSteps : Ct_X9_refusalOfSteps w G.2.1) (k_X4_push : Ct_X4_push w G.2.1) (k_X7_moveTimes : Ct_X7_moveTimes w G.2.1) (a1 : Int32) (M : Mem) (h : bd_X9_step Q a1 M) : V w G 0 [(0, .ref (w.2.1 0)), (1, .int a1)] [] M := by
  unfold bd_X9_step at h
  refine v_aload_n C 0 rfl dX9_step_0 ?_
  refine v_iload_n C 1 rfl dX9_step_1 ?_
  refine v_callI C [] (k_X9_refusalOfSteps a1 M _ h) yX9_refusalOfSteps_k ml_X9_157 (rcv8 kb0 kd0) rfl rfl (Nat.le_of_ble_eq_true rfl) ⟨by decide, by decide⟩ dX9_step_2 (fun r1 M1 h => ?_)
  refine v_istore_n C [(2, .int r1), (0, .ref (w.2.1 0)), (1, .int a1)] rfl (by decide) dX9_step_5 ?_
  refine v_iload_n C 0 rfl dX9_step_6 ?_
  refine v_if_eq C 12 (by decide) dX9_step_7 (fun hc => ?_) (fun hc => ?_)
  · have h := h.1 hc
    refine v_aload_n C 1 rfl dX9_step_12 ?_
    refine g8_4 C kb0 kd0 fl_X9_38 dX9_step_13 ?_
    refine v_aload_n C 1 rfl dX9_step_16 ?_
    refine g8_2 C kb0 kd0 fl_X9_28 dX9_step_17 ?_
    refine v_callV C [] (k_X4_push M1 _ h) yX4_push_k ml_X9_161 (rcv3 kb25 kd25) rfl rfl (Nat.le_of_ble_eq_true rfl) ⟨by decide, by decide⟩ dX9_step_20 (fun M2 h => ?_)
    refine v_aload_n C 1 rfl dX9_step_23 ?_
    refine g8_2 C kb0 kd0 fl_X9_28 dX9_step_24 ?_
    refine v_iload_n C 2 rfl dX9_step_27 ?_
    refine v_callV C [] (k_X7_moveTimes 11 a1 M2 sc11 _ h) yX7_moveTimes_k ml_X9_164 (rcv6 sc11.l0 sc11.k0) rfl rfl (Nat.le_of_ble_eq_true rfl) ⟨by decide, by decide⟩ dX9_step_28 (fun M3 h => ?_)
    refine v_aload_n C 1 rfl dX9_step_31 ?_
    refine g8_2 C kb0 kd0 fl_X9_28 dX9_step_32 ?_
    refine g6_1 C sc11.l0 sc11.k0 fl_X9_119 dX9_step_35 ?_
    exact Rt _ _ _ _ dX9_step_38 h
  · have h := h.2 hc
    refine v_iload_n C 0 rfl dX9_step_10 ?_
    exact Rt _ _ _ _ dX9_step_11 h
theorem mt_X9_step {w : Wx} {l : Launch} (k_X9_refusalOfSteps : Ct_X9_refusalOfSteps w l) (k_X4_push : Ct_X4_push w l) (k_X7_moveTimes : Ct_X7_moveTimes w l) : Ct_X9_step w l := by
  intro a1 M Q h
  refine met_i (by decide +kernel) (Nat.le_of_ble_eq_true rfl) (fun G C hG Rt => ?_)
  subst hG
  exact wk_X9_step C Rt k_X9_refusalOfSteps k_X4_push k_X7_moveTimes a1 M (h)
theorem ct_X9_step (w : Wx) (l : Launch) : Ct_X9_step w l := mt_X9_step (ct_X9_refusalOfSteps w l) (ct_X4_push w l) (ct_X7_moveTimes w l)
set_option maxRecDepth 4000 in
theorem wk_X9_areTwoCars {w : Wx} {G : Gx} {Q : Int32 → Mem → Prop} (C : Cx w G cX9_areTwoCars RX9 1 21 3) (Rt : ∀ (pc : Nat) (lv : List (Nat × Value)) (r0 : Int32) (M0 : Mem), decode cX9_areTwoCars pc = .ok (.ireturn, 1) → (r0 = 0 ∨ r0 = 1) → Q r0 M0 → V w G pc lv [.int r0] M0) (k_X9_isCar : Ct_X9_isCar w G.2.1) (a1 : Int32) (a2 : Int32) (M : Mem) (h : bd_X9_areTwoCars Q a1 a2 M) : V w G 0 [(0, .ref (w.2.1 0)), (1, .int a1), (2, .int a2)] [] M := by
  unfold bd_X9_areTwoCars at h
  refine v_aload_n C 0 rfl dX9_areTwoCars_0 ?_
  refine v_iload_n C 1 rfl dX9_areTwoCars_1 ?_
  refine v_callI C [] (k_X9_isCar a1 M _ h) yX9_isCar_k ml_X9_136 (rcv8 kb0 kd0) rfl rfl (Nat.le_of_ble_eq_true rfl) ⟨by decide, by decide⟩ dX9_areTwoCars_2 (fun r1 M1 h => ?_)
  refine v_if_eq C 25 (by decide) dX9_areTwoCars_5 (fun hc => ?_) (fun hc => ?_)
  · have h := h.1 hc
    refine v_kc C (0) (by decide) dX9_areTwoCars_25 ?_
    exact Rt _ _ _ _ dX9_areTwoCars_26 (by decide) h
  · have h := h.2 hc
    refine v_aload_n C 0 rfl dX9_areTwoCars_8 ?_
    refine v_iload_n C 2 rfl dX9_areTwoCars_9 ?_
    refine v_callI C [] (k_X9_isCar a2 M1 _ h) yX9_isCar_k ml_X9_136 (rcv8 kb0 kd0) rfl rfl (Nat.le_of_ble_eq_true rfl) ⟨by decide, by decide⟩ dX9_areTwoCars_10 (fun r2 M2 h => ?_)
    refine v_if_eq C 25 (by decide) dX9_areTwoCars_13 (fun hc => ?_) (fun hc => ?_)
    · have h := h.1 hc
      refine v_kc C (0) (by decide) dX9_areTwoCars_25 ?_
      exact Rt _ _ _ _ dX9_areTwoCars_26 (by decide) h
    · have h := h.2 hc
      refine v_iload_n C 1 rfl dX9_areTwoCars_16 ?_
      refine v_iload_n C 2 rfl dX9_areTwoCars_17 ?_
      have key3 : V w G 26 [(0, .ref (w.2.1 0)), (1, .int a1), (2, .int a2)] (.int (if a1 = a2 then (0 : Int32) else (1 : Int32)) :: []) M2 := by
        exact Rt _ _ _ _ dX9_areTwoCars_26 h.1 h.2
      refine v_icmp_eq C 25 (by decide) dX9_areTwoCars_18 (fun hc => ?_) (fun hc => ?_)
      · rw [show (if a1 = a2 then (0 : Int32) else (1 : Int32) : Int32) = (0 : Int32) from if_pos hc] at key3
        refine v_kc C (0) (by decide) dX9_areTwoCars_25 ?_
        exact key3
      · rw [show (if a1 = a2 then (0 : Int32) else (1 : Int32) : Int32) = (1 : Int32) from if_neg hc] at key3
        refine v_kc C (1) (by decide) dX9_areTwoCars_21 ?_
        refine v_goto C 26 (by decide) dX9_areTwoCars_22 ?_
        exact key3
theorem mt_X9_areTwoCars {w : Wx} {l : Launch} (k_X9_isCar : Ct_X9_isCar w l) : Ct_X9_areTwoCars w l := by
  intro a1 a2 M Q h
  refine met_z (by decide +kernel) (Nat.le_of_ble_eq_true rfl) (fun G C hG Rt => ?_)
  subst hG
  exact wk_X9_areTwoCars C Rt k_X9_isCar a1 a2 M (h)
theorem ct_X9_areTwoCars (w : Wx) (l : Launch) : Ct_X9_areTwoCars w l := mt_X9_areTwoCars (ct_X9_isCar w l)
set_option maxRecDepth 4000 in
theorem wk_X9_follow {w : Wx} {G : Gx} {Q : Int32 → Mem → Prop} (C : Cx w G cX9_follow RX9 3 82 4) (Rt : ∀ (pc : Nat) (lv : List (Nat × Value)) (r0 : Int32) (M0 : Mem), decode cX9_follow pc = .ok (.ireturn, 1) → Q r0 M0 → V w G pc lv [.int r0] M0) (k_X9_areTwoCars : Ct_X9_areTwoCars w G.2.1) (k_X4_push : Ct_X4_push w G.2.1) (a1 : Int32) (a2 : Int32) (M : Mem) (h : bd_X9_follow Q a1 a2 M) : V w G 0 [(0, .ref (w.2.1 0)), (1, .int a1), (2, .int a2)] [] M := by
  unfold bd_X9_follow at h
  refine v_aload_n C 0 rfl dX9_follow_0 ?_
  refine v_iload_n C 1 rfl dX9_follow_1 ?_
  refine v_iload_n C 2 rfl dX9_follow_2 ?_
  refine v_callI C [] (k_X9_areTwoCars a1 a2 M _ h) yX9_areTwoCars_k ml_X9_167 (rcv8 kb0 kd0) rfl rfl (Nat.le_of_ble_eq_true rfl) ⟨by decide, by decide⟩ dX9_follow_3 (fun r1 M1 h => ?_)
  refine v_if_ne C 12 (by decide) dX9_follow_6 (fun hc => ?_) (fun hc => ?_)
  · have h := h.2 hc
    refine v_aload_n C 0 rfl dX9_follow_12 ?_
    refine g8_4 C kb0 kd0 fl_X9_38 dX9_follow_13 ?_
    refine v_aload_n C 0 rfl dX9_follow_16 ?_
    refine g8_2 C kb0 kd0 fl_X9_28 dX9_follow_17 ?_
    refine v_callV C [] (k_X4_push M1 _ h) yX4_push_k ml_X9_161 (rcv3 kb25 kd25) rfl rfl (Nat.le_of_ble_eq_true rfl) ⟨by decide, by decide⟩ dX9_follow_20 (fun M2 h => ?_)
    refine v_aload_n C 0 rfl dX9_follow_23 ?_
    refine g8_2 C kb0 kd0 fl_X9_28 dX9_follow_24 ?_
    refine g6_3 C sc11.l0 sc11.k0 fl_X9_145 dX9_follow_27 ?_
    refine v_iload_n C 1 rfl dX9_follow_30 ?_
    obtain ⟨s3, h⟩ := h
    refine v_iald C sc11.l2 sc11.k2 sc11.n2 s3 dX9_follow_31 ?_
    refine v_istore_n C [(3, .int (M2 (11 + 2) a1.toNatClampNeg)), (0, .ref (w.2.1 0)), (1, .int a1), (2, .int a2)] rfl (by decide) dX9_follow_32 ?_
    refine v_aload_n C 1 rfl dX9_follow_33 ?_
    refine g8_2 C kb0 kd0 fl_X9_28 dX9_follow_34 ?_
    refine g6_3 C sc11.l0 sc11.k0 fl_X9_145 dX9_follow_37 ?_
    refine v_iload_n C 2 rfl dX9_follow_40 ?_
    refine v_iload_n C 3 rfl dX9_follow_41 ?_
    obtain ⟨s4, h⟩ := h
    refine v_iast C sc11.l2 sc11.k2 sc11.n2 s4 dX9_follow_42 (fun M5 e5 => ?_)
    have h := h M5 e5
    refine v_iload_n C 0 rfl dX9_follow_43 ?_
    exact Rt _ _ _ _ dX9_follow_44 h
  · have h := h.1 hc
    refine v_ldc C kc_X9_140 dX9_follow_9 ?_
    exact Rt _ _ _ _ dX9_follow_11 h
theorem mt_X9_follow {w : Wx} {l : Launch} (k_X9_areTwoCars : Ct_X9_areTwoCars w l) (k_X4_push : Ct_X4_push w l) : Ct_X9_follow w l := by
  intro a1 a2 M Q h
  refine met_i (by decide +kernel) (Nat.le_of_ble_eq_true rfl) (fun G C hG Rt => ?_)
  subst hG
  exact wk_X9_follow C Rt k_X9_areTwoCars k_X4_push a1 a2 M (h)
theorem ct_X9_follow (w : Wx) (l : Launch) : Ct_X9_follow w l := mt_X9_follow (ct_X9_areTwoCars w l) (ct_X4_push w l)
set_option maxRecDepth 4000 in
theorem wk_X9_letOff {w : Wx} {G : Gx} {Q : Int32 → Mem → Prop} (C : Cx w G cX9_letOff RX9 3 82 3) (Rt : ∀ (pc : Nat) (lv : List (Nat × Value)) (r0 : Int32) (M0 : Mem), decode cX9_letOff pc = .ok (.ireturn, 1) → Q r0 M0 → V w G pc lv [.int r0] M0) (k_X9_isCar : Ct_X9_isCar w G.2.1) (k_X4_push : Ct_X4_push w G.2.1) (a1 : Int32) (M : Mem) (h : bd_X9_letOff Q a1 M) : V w G 0 [(0, .ref (w.2.1 0)), (1, .int a1)] [] M := by
  unfold bd_X9_letOff at h
  refine v_aload_n C 0 rfl dX9_letOff_0 ?_
  refine v_iload_n C 1 rfl dX9_letOff_1 ?_
  refine v_callI C [] (k_X9_isCar a1 M _ h) yX9_isCar_k ml_X9_136 (rcv8 kb0 kd0) rfl rfl (Nat.le_of_ble_eq_true rfl) ⟨by decide, by decide⟩ dX9_letOff_2 (fun r1 M1 h => ?_)
  refine v_if_ne C 11 (by decide) dX9_letOff_5 (fun hc => ?_) (fun hc => ?_)
  · have h := h.2 hc
    refine v_aload_n C 0 rfl dX9_letOff_11 ?_
    refine g8_2 C kb0 kd0 fl_X9_28 dX9_letOff_12 ?_
    refine g6_3 C sc11.l0 sc11.k0 fl_X9_145 dX9_letOff_15 ?_
    refine v_iload_n C 1 rfl dX9_letOff_18 ?_
    obtain ⟨s2, h⟩ := h
    refine v_iald C sc11.l2 sc11.k2 sc11.n2 s2 dX9_letOff_19 ?_
    refine v_istore_n C [(2, .int (M1 (11 + 2) a1.toNatClampNeg)), (0, .ref (w.2.1 0)), (1, .int a1)] rfl (by decide) dX9_letOff_20 ?_
    refine v_iload_n C 0 rfl dX9_letOff_21 ?_
    refine v_kc C (-1) (by decide) dX9_letOff_22 ?_
    refine v_icmp_ne C 29 (by decide) dX9_letOff_23 (fun hc => ?_) (fun hc => ?_)
    · have h := h.2 hc
      refine v_aload_n C 1 rfl dX9_letOff_29 ?_
      refine g8_4 C kb0 kd0 fl_X9_38 dX9_letOff_30 ?_
      refine v_aload_n C 1 rfl dX9_letOff_33 ?_
      refine g8_2 C kb0 kd0 fl_X9_28 dX9_letOff_34 ?_
      refine v_callV C [] (k_X4_push M1 _ h) yX4_push_k ml_X9_161 (rcv3 kb25 kd25) rfl rfl (Nat.le_of_ble_eq_true rfl) ⟨by decide, by decide⟩ dX9_letOff_37 (fun M3 h => ?_)
      refine v_aload_n C 1 rfl dX9_letOff_40 ?_
      refine g8_2 C kb0 kd0 fl_X9_28 dX9_letOff_41 ?_
      refine g6_3 C sc11.l0 sc11.k0 fl_X9_145 dX9_letOff_44 ?_
      refine v_iload_n C 2 rfl dX9_letOff_47 ?_
      refine v_kc C (-1) (by decide) dX9_letOff_48 ?_
      obtain ⟨s4, h⟩ := h
      refine v_iast C sc11.l2 sc11.k2 sc11.n2 s4 dX9_letOff_49 (fun M5 e5 => ?_)
      have h := h M5 e5
      refine v_iload_n C 0 rfl dX9_letOff_50 ?_
      exact Rt _ _ _ _ dX9_letOff_51 h
    · have h := h.1 hc
      refine v_ldc C kc_X9_171 dX9_letOff_26 ?_
      exact Rt _ _ _ _ dX9_letOff_28 h
  · have h := h.1 hc
    refine v_ldc C kc_X9_140 dX9_letOff_8 ?_
    exact Rt _ _ _ _ dX9_letOff_10 h
theorem mt_X9_letOff {w : Wx} {l : Launch} (k_X9_isCar : Ct_X9_isCar w l) (k_X4_push : Ct_X4_push w l) : Ct_X9_letOff w l := by
  intro a1 M Q h
  refine met_i (by decide +kernel) (Nat.le_of_ble_eq_true rfl) (fun G C hG Rt => ?_)
  subst hG
  exact wk_X9_letOff C Rt k_X9_isCar k_X4_push a1 M (h)
theorem ct_X9_letOff (w : Wx) (l : Launch) : Ct_X9_letOff w l := mt_X9_letOff (ct_X9_isCar w l) (ct_X4_push w l)
set_option maxRecDepth 4000 in
theorem wk_X2_reversed {w : Wx} {G : Gx} {Q : Int32 → Mem → Prop} (C : Cx w G cX2_reversed RX2 2 43 3) (Rt : ∀ (pc : Nat) (lv : List (Nat × Value)) (r0 : Int32) (M0 : Mem), decode cX2_reversed pc = .ok (.ireturn, 1) → Q r0 M0 → V w G pc lv [.int r0] M0) (k_X2_count : Ct_X2_count w G.2.1) (k_X2_at : Ct_X2_at w G.2.1) (a0 : Int32) (M : Mem) (h : bd_X2_reversed Q (fun (x1 : Int32) (x2 : Int32) (M : Mem) => V w G 9 [(0, .int a0), (1, .int x1), (2, .int x2)] [] M) a0 M) : V w G 0 [(0, .int a0)] [] M := by
  unfold bd_X2_reversed at h
  refine v_kc C (0) (by decide) dX2_reversed_0 ?_
  refine v_istore_n C [(1, .int ((0 : Int32))), (0, .int a0)] rfl (by decide) dX2_reversed_1 ?_
  refine v_iload_n C 1 rfl dX2_reversed_2 ?_
  refine v_callSI C [] (k_X2_count a0 M _ h) yX2_count_k ml_X2_13 rfl rfl (Nat.le_of_ble_eq_true rfl) ⟨by decide, by decide⟩ dX2_reversed_3 (fun r1 M1 h => ?_)
  refine v_kc C (1) (by decide) dX2_reversed_6 ?_
  refine v_isub C dX2_reversed_7 ?_
  refine v_istore_n C [(2, .int (r1 - ((1 : Int32)))), (1, .int ((0 : Int32))), (0, .int a0)] rfl (by decide) dX2_reversed_8 ?_
  exact V.sub [2, 1, 0] rfl h
set_option maxRecDepth 4000 in
theorem wk_X2_reversed_9 {w : Wx} {G : Gx} {Q : Int32 → Mem → Prop} (C : Cx w G cX2_reversed RX2 2 43 3) (Rt : ∀ (pc : Nat) (lv : List (Nat × Value)) (r0 : Int32) (M0 : Mem), decode cX2_reversed pc = .ok (.ireturn, 1) → Q r0 M0 → V w G pc lv [.int r0] M0) (k_X2_count : Ct_X2_count w G.2.1) (k_X2_at : Ct_X2_at w G.2.1) (a0 : Int32) (x1 : Int32) (x2 : Int32) (M : Mem) (h : bd_X2_reversed_9 Q (fun (x1 : Int32) (x2 : Int32) (M : Mem) => V w G 9 [(0, .int a0), (1, .int x1), (2, .int x2)] [] M) a0 x1 x2 M) : V w G 9 [(0, .int a0), (1, .int x1), (2, .int x2)] [] M := by
  unfold bd_X2_reversed_9 at h
  refine v_iload_n C 2 rfl dX2_reversed_9 ?_
  refine v_if_lt C 30 (by decide) dX2_reversed_10 (fun hc => ?_) (fun hc => ?_)
  · have h := h.1 hc
    refine v_iload_n C 1 rfl dX2_reversed_30 ?_
    exact Rt _ _ _ _ dX2_reversed_31 h
  · have h := h.2 hc
    refine v_iload_n C 1 rfl dX2_reversed_13 ?_
    refine v_kb C (10) (by decide) dX2_reversed_14 ?_
    refine v_imul C dX2_reversed_16 ?_
    refine v_iload_n C 0 rfl dX2_reversed_17 ?_
    refine v_iload_n C 2 rfl dX2_reversed_18 ?_
    refine v_callSI C [.int (x1 * ((10 : Int32)))] (k_X2_at a0 x2 M _ h) yX2_at_k ml_X2_19 rfl rfl (Nat.le_of_ble_eq_true rfl) ⟨by decide, by decide⟩ dX2_reversed_19 (fun r1 M1 h => ?_)
    refine v_iadd C dX2_reversed_22 ?_
    refine v_istore_n C [(1, .int ((x1 * ((10 : Int32))) + r1)), (0, .int a0), (2, .int x2)] rfl (by decide) dX2_reversed_23 ?_
    refine v_iinc C (j := 2) [(2, .int (x2 + (-1))), (1, .int ((x1 * ((10 : Int32))) + r1)), (0, .int a0)] rfl (x2 + (-1)) (congrArg (fun z => x2 + z) (by decide : Int32.ofInt (-1) = (-1 : Int32))) rfl (by decide) dX2_reversed_24 ?_
    refine v_goto C 9 (by decide) dX2_reversed_27 ?_
    exact V.sub [2, 1, 0] rfl h
theorem mt_X2_reversed {w : Wx} {l : Launch} (k_X2_count : Ct_X2_count w l) (k_X2_at : Ct_X2_at w l) : Ct_X2_reversed w l := by
  intro a0 M Q h
  refine met_i (by decide +kernel) (Nat.le_of_ble_eq_true rfl) (fun G C hG Rt => ?_)
  subst hG
  exact wk_X2_reversed C Rt k_X2_count k_X2_at a0 M (h _ (fun x1 x2 M h => wk_X2_reversed_9 C Rt k_X2_count k_X2_at a0 x1 x2 M h))
theorem ct_X2_reversed (w : Wx) (l : Launch) : Ct_X2_reversed w l := mt_X2_reversed (ct_X2_count w l) (ct_X2_at w l)
set_option maxRecDepth 4000 in
theorem wk_X7_reverseRound {w : Wx} {G : Gx} {Q : Mem → Prop} (C : Cx w G cX7_reverseRound RX7 3 65 2) (Rt : ∀ (pc : Nat) (lv : List (Nat × Value)) (M0 : Mem), decode cX7_reverseRound pc = .ok (.return_, 1) → Q M0 → V w G pc lv [] M0) (k_X2_reversed : Ct_X2_reversed w G.2.1) (b : Nat) (a1 : Int32) (hb : Sc b) (M : Mem) (h : bd_X7_reverseRound Q b a1 M) : V w G 0 [(0, .ref (w.2.1 b)), (1, .int a1)] [] M := by
  unfold bd_X7_reverseRound at h
  refine v_aload_n C 0 rfl dX7_reverseRound_0 ?_
  refine g6_4 C hb.l0 hb.k0 fl_X7_25 dX7_reverseRound_1 ?_
  refine v_iload_n C 1 rfl dX7_reverseRound_4 ?_
  refine v_aload_n C 0 rfl dX7_reverseRound_5 ?_
  refine g6_4 C hb.l0 hb.k0 fl_X7_25 dX7_reverseRound_6 ?_
  refine v_iload_n C 1 rfl dX7_reverseRound_9 ?_
  obtain ⟨s1, h⟩ := h
  refine v_iald C hb.l3 hb.k3 hb.n3 s1 dX7_reverseRound_10 ?_
  refine v_callSI C [.int a1, .ref (w.2.1 (b + 3))] (k_X2_reversed (M (b + 3) a1.toNatClampNeg) M _ h) yX2_reversed_k ml_X7_59 rfl rfl (Nat.le_of_ble_eq_true rfl) ⟨by decide, by decide⟩ dX7_reverseRound_11 (fun r2 M2 h => ?_)
  obtain ⟨s3, h⟩ := h
  refine v_iast C hb.l3 hb.k3 hb.n3 s3 dX7_reverseRound_14 (fun M4 e4 => ?_)
  have h := h M4 e4
  refine v_aload_n C 0 rfl dX7_reverseRound_15 ?_
  refine g6_5 C hb.l0 hb.k0 fl_X7_28 dX7_reverseRound_16 ?_
  refine v_iload_n C 1 rfl dX7_reverseRound_19 ?_
  refine v_kc C (0) (by decide) dX7_reverseRound_20 ?_
  obtain ⟨s5, h⟩ := h
  refine v_iast C hb.l4 hb.k4 hb.n4 s5 dX7_reverseRound_21 (fun M6 e6 => ?_)
  have h := h M6 e6
  exact Rt _ _ _ dX7_reverseRound_22 h
theorem mt_X7_reverseRound {w : Wx} {l : Launch} (k_X2_reversed : Ct_X2_reversed w l) : Ct_X7_reverseRound w l := by
  intro b a1 M hb Q h
  refine met_v (by decide +kernel) (Nat.le_of_ble_eq_true rfl) (fun G C hG Rt => ?_)
  subst hG
  exact wk_X7_reverseRound C Rt k_X2_reversed b a1 hb M (h)
theorem ct_X7_reverseRound (w : Wx) (l : Launch) : Ct_X7_reverseRound w l := mt_X7_reverseRound (ct_X2_reversed w l)
set_option maxRecDepth 4000 in
theorem wk_X9_turn {w : Wx} {G : Gx} {Q : Int32 → Mem → Prop} (C : Cx w G cX9_turn RX9 4 86 2) (Rt : ∀ (pc : Nat) (lv : List (Nat × Value)) (r0 : Int32) (M0 : Mem), decode cX9_turn pc = .ok (.ireturn, 1) → Q r0 M0 → V w G pc lv [.int r0] M0) (k_X9_isCar : Ct_X9_isCar w G.2.1) (k_X4_push : Ct_X4_push w G.2.1) (k_X7_reverseRound : Ct_X7_reverseRound w G.2.1) (a1 : Int32) (M : Mem) (h : bd_X9_turn Q a1 M) : V w G 0 [(0, .ref (w.2.1 0)), (1, .int a1)] [] M := by
  unfold bd_X9_turn at h
  refine v_aload_n C 0 rfl dX9_turn_0 ?_
  refine v_iload_n C 1 rfl dX9_turn_1 ?_
  refine v_callI C [] (k_X9_isCar a1 M _ h) yX9_isCar_k ml_X9_136 (rcv8 kb0 kd0) rfl rfl (Nat.le_of_ble_eq_true rfl) ⟨by decide, by decide⟩ dX9_turn_2 (fun r1 M1 h => ?_)
  refine v_if_ne C 11 (by decide) dX9_turn_5 (fun hc => ?_) (fun hc => ?_)
  · have h := h.2 hc
    refine v_aload_n C 0 rfl dX9_turn_11 ?_
    refine g8_4 C kb0 kd0 fl_X9_38 dX9_turn_12 ?_
    refine v_aload_n C 0 rfl dX9_turn_15 ?_
    refine g8_2 C kb0 kd0 fl_X9_28 dX9_turn_16 ?_
    refine v_callV C [] (k_X4_push M1 _ h) yX4_push_k ml_X9_161 (rcv3 kb25 kd25) rfl rfl (Nat.le_of_ble_eq_true rfl) ⟨by decide, by decide⟩ dX9_turn_19 (fun M2 h => ?_)
    refine v_aload_n C 0 rfl dX9_turn_22 ?_
    refine g8_2 C kb0 kd0 fl_X9_28 dX9_turn_23 ?_
    refine v_iload_n C 1 rfl dX9_turn_26 ?_
    refine v_callV C [] (k_X7_reverseRound 11 a1 M2 sc11 _ h) yX7_reverseRound_k ml_X9_172 (rcv6 sc11.l0 sc11.k0) rfl rfl (Nat.le_of_ble_eq_true rfl) ⟨by decide, by decide⟩ dX9_turn_27 (fun M3 h => ?_)
    refine v_aload_n C 0 rfl dX9_turn_30 ?_
    refine g8_2 C kb0 kd0 fl_X9_28 dX9_turn_31 ?_
    refine g6_4 C sc11.l0 sc11.k0 fl_X9_148 dX9_turn_34 ?_
    refine v_iload_n C 1 rfl dX9_turn_37 ?_
    obtain ⟨s4, h⟩ := h
    refine v_iald C sc11.l3 sc11.k3 sc11.n3 s4 dX9_turn_38 ?_
    exact Rt _ _ _ _ dX9_turn_39 h
  · have h := h.1 hc
    refine v_ldc C kc_X9_140 dX9_turn_8 ?_
    exact Rt _ _ _ _ dX9_turn_10 h
theorem mt_X9_turn {w : Wx} {l : Launch} (k_X9_isCar : Ct_X9_isCar w l) (k_X4_push : Ct_X4_push w l) (k_X7_reverseRound : Ct_X7_reverseRound w l) : Ct_X9_turn w l := by
  intro a1 M Q h
  refine met_i (by decide +kernel) (Nat.le_of_ble_eq_true rfl) (fun G C hG Rt => ?_)
  subst hG
  exact wk_X9_turn C Rt k_X9_isCar k_X4_push k_X7_reverseRound a1 M (h)
theorem ct_X9_turn (w : Wx) (l : Launch) : Ct_X9_turn w l := mt_X9_turn (ct_X9_isCar w l) (ct_X4_push w l) (ct_X7_reverseRound w l)
set_option maxRecDepth 4000 in
theorem wk_X0_drawOf {w : Wx} {G : Gx} {Q : Int32 → Mem → Prop} (C : Cx w G cX0_drawOf RX0 0 0 2) (Rt : ∀ (pc : Nat) (lv : List (Nat × Value)) (r0 : Int32) (M0 : Mem), decode cX0_drawOf pc = .ok (.ireturn, 1) → Q r0 M0 → V w G pc lv [.int r0] M0) (a1 : Int32) (M : Mem) (h : bd_X0_drawOf Q a1 M) : V w G 0 [(0, .ref (w.2.1 210)), (1, .int a1)] [] M := by
  unfold bd_X0_drawOf at h
  refine v_aload_n C 0 rfl dX0_drawOf_0 ?_
  refine v_aload_n C 0 rfl dX0_drawOf_1 ?_
  refine g0_0 C kb210 kd210 fl_X0_9 dX0_drawOf_2 ?_
  refine v_ldc C kc_X0_15 dX0_drawOf_5 ?_
  refine v_imul C dX0_drawOf_7 ?_
  refine v_ks C (12345) (by decide) dX0_drawOf_8 ?_
  refine v_iadd C dX0_drawOf_11 ?_
  refine v_ldc C kc_X0_16 dX0_drawOf_12 ?_
  refine v_iand C dX0_drawOf_14 ?_
  refine p0_0 C kb210 kd210 fl_X0_9 dX0_drawOf_15 (fun M1 e1 => ?_)
  have h := h M1 e1
  refine v_iload_n C 1 rfl dX0_drawOf_18 ?_
  refine v_if_le C 34 (by decide) dX0_drawOf_19 (fun hc => ?_) (fun hc => ?_)
  · have h := h.1 hc
    refine v_kc C (0) (by decide) dX0_drawOf_34 ?_
    exact Rt _ _ _ _ dX0_drawOf_35 h
  · have h := h.2 hc
    refine v_aload_n C 0 rfl dX0_drawOf_22 ?_
    refine g0_0 C kb210 kd210 fl_X0_9 dX0_drawOf_23 ?_
    refine v_ldc C kc_X0_17 dX0_drawOf_26 ?_
    refine v_idiv C (by decide) dX0_drawOf_28 ?_
    refine v_iload_n C 1 rfl dX0_drawOf_29 ?_
    obtain ⟨s2, h⟩ := h
    refine v_irem C s2 dX0_drawOf_30 ?_
    refine v_goto C 35 (by decide) dX0_drawOf_31 ?_
    exact Rt _ _ _ _ dX0_drawOf_35 h
theorem mt_X0_drawOf {w : Wx} {l : Launch} : Ct_X0_drawOf w l := by
  intro a1 M Q h
  refine met_i (by decide +kernel) (Nat.le_of_ble_eq_true rfl) (fun G C hG Rt => ?_)
  subst hG
  exact wk_X0_drawOf C Rt a1 M (h)
theorem ct_X0_drawOf (w : Wx) (l : Launch) : Ct_X0_drawOf w l := mt_X0_drawOf
set_option maxRecDepth 4000 in
theorem wk_X9_askByDraws {w : Wx} {G : Gx} {Q : Mem → Prop} (C : Cx w G cX9_askByDraws RX9 1 21 3) (Rt : ∀ (pc : Nat) (lv : List (Nat × Value)) (M0 : Mem), decode cX9_askByDraws pc = .ok (.return_, 1) → Q M0 → V w G pc lv [] M0) (k_X0_drawOf : Ct_X0_drawOf w G.2.1) (M : Mem) (h : bd_X9_askByDraws Q M) : V w G 0 [(0, .ref (w.2.1 0))] [] M := by
  unfold bd_X9_askByDraws at h
  refine v_aload_n C 0 rfl dX9_askByDraws_0 ?_
  refine g8_2 C kb0 kd0 fl_X9_28 dX9_askByDraws_1 ?_
  refine g6_0 C sc11.l0 sc11.k0 fl_X9_116 dX9_askByDraws_4 ?_
  refine v_if_ne C 11 (by decide) dX9_askByDraws_7 (fun hc => ?_) (fun hc => ?_)
  · have h := h.2 hc
    refine v_aload_n C 0 rfl dX9_askByDraws_11 ?_
    refine g8_9 C kb0 kd0 fl_X9_71 dX9_askByDraws_12 ?_
    refine v_aload_n C 0 rfl dX9_askByDraws_15 ?_
    refine g8_2 C kb0 kd0 fl_X9_28 dX9_askByDraws_16 ?_
    refine g6_0 C sc11.l0 sc11.k0 fl_X9_116 dX9_askByDraws_19 ?_
    refine v_callI C [] (k_X0_drawOf (M 11 0) M _ h) yX0_drawOf_k ml_X9_258 (rcv0 kb210 kd210) rfl rfl (Nat.le_of_ble_eq_true rfl) ⟨by decide, by decide⟩ dX9_askByDraws_22 (fun r1 M1 h => ?_)
    refine v_istore_n C [(1, .int r1), (0, .ref (w.2.1 0))] rfl (by decide) dX9_askByDraws_25 ?_
    refine v_aload_n C 1 rfl dX9_askByDraws_26 ?_
    refine g8_9 C kb0 kd0 fl_X9_71 dX9_askByDraws_27 ?_
    refine v_kb C (100) (by decide) dX9_askByDraws_30 ?_
    refine v_callI C [] (k_X0_drawOf ((100 : Int32)) M1 _ h) yX0_drawOf_k ml_X9_258 (rcv0 kb210 kd210) rfl rfl (Nat.le_of_ble_eq_true rfl) ⟨by decide, by decide⟩ dX9_askByDraws_32 (fun r2 M2 h => ?_)
    refine v_aload_n C 1 rfl dX9_askByDraws_35 ?_
    refine g8_11 C kb0 kd0 fl_X9_79 dX9_askByDraws_36 ?_
    refine v_icmp_lt C 43 (by decide) dX9_askByDraws_39 (fun hc => ?_) (fun hc => ?_)
    · have h := h.1 hc
      refine v_aload_n C 1 rfl dX9_askByDraws_43 ?_
      refine g8_9 C kb0 kd0 fl_X9_71 dX9_askByDraws_44 ?_
      refine v_aload_n C 1 rfl dX9_askByDraws_47 ?_
      refine g8_2 C kb0 kd0 fl_X9_28 dX9_askByDraws_48 ?_
      refine g6_0 C sc11.l0 sc11.k0 fl_X9_116 dX9_askByDraws_51 ?_
      refine v_callI C [] (k_X0_drawOf (M2 11 0) M2 _ h) yX0_drawOf_k ml_X9_258 (rcv0 kb210 kd210) rfl rfl (Nat.le_of_ble_eq_true rfl) ⟨by decide, by decide⟩ dX9_askByDraws_54 (fun r3 M3 h => ?_)
      refine v_istore_n C [(2, .int r3), (1, .int r1), (0, .ref (w.2.1 0))] rfl (by decide) dX9_askByDraws_57 ?_
      refine v_iload_n C 1 rfl dX9_askByDraws_58 ?_
      refine v_iload_n C 0 rfl dX9_askByDraws_59 ?_
      refine v_icmp_eq C 73 (by decide) dX9_askByDraws_60 (fun hc => ?_) (fun hc => ?_)
      · have h := h.1 hc
        exact Rt _ _ _ dX9_askByDraws_73 h
      · have h := h.2 hc
        refine v_aload_n C 2 rfl dX9_askByDraws_63 ?_
        refine g8_2 C kb0 kd0 fl_X9_28 dX9_askByDraws_64 ?_
        refine g6_3 C sc11.l0 sc11.k0 fl_X9_145 dX9_askByDraws_67 ?_
        refine v_iload_n C 1 rfl dX9_askByDraws_70 ?_
        refine v_iload_n C 0 rfl dX9_askByDraws_71 ?_
        obtain ⟨s4, h⟩ := h
        refine v_iast C sc11.l2 sc11.k2 sc11.n2 s4 dX9_askByDraws_72 (fun M5 e5 => ?_)
        have h := h M5 e5
        exact Rt _ _ _ dX9_askByDraws_73 h
    · have h := h.2 hc
      exact Rt _ _ _ dX9_askByDraws_42 h
  · have h := h.1 hc
    exact Rt _ _ _ dX9_askByDraws_10 h
theorem mt_X9_askByDraws {w : Wx} {l : Launch} (k_X0_drawOf : Ct_X0_drawOf w l) : Ct_X9_askByDraws w l := by
  intro M Q h
  refine met_v (by decide +kernel) (Nat.le_of_ble_eq_true rfl) (fun G C hG Rt => ?_)
  subst hG
  exact wk_X9_askByDraws C Rt k_X0_drawOf M (h)
theorem ct_X9_askByDraws (w : Wx) (l : Launch) : Ct_X9_askByDraws w l := mt_X9_askByDraws (ct_X0_drawOf w l)
