set_option maxRecDepth 4000 in
theorem wk_X3_bestLook {w : Wx} {G : Gx} {Q : Int32 → Mem → Prop} (C : Cx w G cX3_bestLook RX3 3 68 5) (Rt : ∀ (pc : Nat) (lv : List (Nat × Value)) (r0 : Int32) (M0 : Mem), decode cX3_bestLook pc = .ok (.ireturn, 1) → Q r0 M0 → V w G pc lv [.int r0] M0) (k_J6_bitCount_0f7a4 : Ct_J6_bitCount_0f7a4 w G.2.1) (k_X3_greatestPart : Ct_X3_greatestPart w G.2.1) (M : Mem) (h : bd_X3_bestLook Q (fun (x1 : Int32) (x2 : Int32) (x3 : Int32) (M : Mem) => V w G 12 [(0, .ref (w.2.1 193)), (1, .int x1), (2, .int x2), (3, .int x3)] [] M) M) : V w G 0 [(0, .ref (w.2.1 193))] [] M := by
  unfold bd_X3_bestLook at h
  refine v_kc C (-1) (by decide) dX3_bestLook_0 ?_
  refine v_istore_n C [(1, .int ((-1 : Int32))), (0, .ref (w.2.1 193))] rfl (by decide) dX3_bestLook_1 ?_
  refine v_aload_n C 1 rfl dX3_bestLook_2 ?_
  refine g2_2 C kb193 kd193 fl_X3_23 dX3_bestLook_3 ?_
  refine v_callSI C [] (k_J6_bitCount_0f7a4 (M 193 2) M _ h) yJ6_bitCount_0f7a4_k ml_X3_64 rfl rfl (Nat.le_of_ble_eq_true rfl) ⟨by decide, by decide⟩ dX3_bestLook_6 (fun r1 M1 h => ?_)
  refine v_istore_n C [(2, .int r1), (1, .int ((-1 : Int32))), (0, .ref (w.2.1 193))] rfl (by decide) dX3_bestLook_9 ?_
  refine v_kc C (1) (by decide) dX3_bestLook_10 ?_
  refine v_istore_n C [(3, .int ((1 : Int32))), (2, .int r1), (1, .int ((-1 : Int32))), (0, .ref (w.2.1 193))] rfl (by decide) dX3_bestLook_11 ?_
  exact V.sub [3, 2, 1, 0] rfl h
set_option maxRecDepth 4000 in
theorem wk_X3_bestLook_12 {w : Wx} {G : Gx} {Q : Int32 → Mem → Prop} (C : Cx w G cX3_bestLook RX3 3 68 5) (Rt : ∀ (pc : Nat) (lv : List (Nat × Value)) (r0 : Int32) (M0 : Mem), decode cX3_bestLook pc = .ok (.ireturn, 1) → Q r0 M0 → V w G pc lv [.int r0] M0) (k_J6_bitCount_0f7a4 : Ct_J6_bitCount_0f7a4 w G.2.1) (k_X3_greatestPart : Ct_X3_greatestPart w G.2.1) (x1 : Int32) (x2 : Int32) (x3 : Int32) (M : Mem) (h : bd_X3_bestLook_12 Q (fun (x1 : Int32) (x2 : Int32) (x3 : Int32) (M : Mem) => V w G 12 [(0, .ref (w.2.1 193)), (1, .int x1), (2, .int x2), (3, .int x3)] [] M) x1 x2 x3 M) : V w G 12 [(0, .ref (w.2.1 193)), (1, .int x1), (2, .int x2), (3, .int x3)] [] M := by
  unfold bd_X3_bestLook_12 at h
  refine v_iload_n C 3 rfl dX3_bestLook_12 ?_
  refine v_kb C (30) (by decide) dX3_bestLook_13 ?_
  refine v_icmp_gt C 42 (by decide) dX3_bestLook_15 (fun hc => ?_) (fun hc => ?_)
  · have h := h.1 hc
    refine v_iload_n C 1 rfl dX3_bestLook_42 ?_
    exact Rt _ _ _ _ dX3_bestLook_43 h
  · have h := h.2 hc
    refine v_aload_n C 0 rfl dX3_bestLook_18 ?_
    refine v_iload_n C 3 rfl dX3_bestLook_19 ?_
    refine v_callI C [] (k_X3_greatestPart x3 M _ h) yX3_greatestPart_k ml_X3_70 (rcv2 kb193 kd193) rfl rfl (Nat.le_of_ble_eq_true rfl) ⟨by decide, by decide⟩ dX3_bestLook_20 (fun r1 M1 h => ?_)
    refine v_istore C [(4, .int r1), (0, .ref (w.2.1 193)), (1, .int x1), (2, .int x2), (3, .int x3)] rfl (by decide) dX3_bestLook_23 ?_
    refine v_iload C 0 rfl dX3_bestLook_25 ?_
    refine v_iload_n C 3 rfl dX3_bestLook_27 ?_
    refine v_icmp_ge C 36 (by decide) dX3_bestLook_28 (fun hc => ?_) (fun hc => ?_)
    · have h := h.1 hc
      refine v_iinc C (j := 4) [(3, .int (x3 + 1)), (4, .int r1), (0, .ref (w.2.1 193)), (1, .int x1), (2, .int x2)] rfl (x3 + 1) rfl rfl (by decide) dX3_bestLook_36 ?_
      refine v_goto C 12 (by decide) dX3_bestLook_39 ?_
      exact V.sub [2, 3, 4, 0] rfl h
    · have h := h.2 hc
      refine v_iload C 0 rfl dX3_bestLook_31 ?_
      refine v_istore_n C [(2, .int r1), (4, .int r1), (0, .ref (w.2.1 193)), (1, .int x1), (3, .int x3)] rfl (by decide) dX3_bestLook_33 ?_
      refine v_iload_n C 4 rfl dX3_bestLook_34 ?_
      refine v_istore_n C [(1, .int x3), (2, .int r1), (4, .int r1), (0, .ref (w.2.1 193)), (3, .int x3)] rfl (by decide) dX3_bestLook_35 ?_
      refine v_iinc C (j := 4) [(3, .int (x3 + 1)), (1, .int x3), (2, .int r1), (4, .int r1), (0, .ref (w.2.1 193))] rfl (x3 + 1) rfl rfl (by decide) dX3_bestLook_36 ?_
      refine v_goto C 12 (by decide) dX3_bestLook_39 ?_
      exact V.sub [4, 1, 2, 0] rfl h
theorem mt_X3_bestLook {w : Wx} {l : Launch} (k_J6_bitCount_0f7a4 : Ct_J6_bitCount_0f7a4 w l) (k_X3_greatestPart : Ct_X3_greatestPart w l) : Ct_X3_bestLook w l := by
  intro M Q h
  refine met_i (by decide +kernel) (Nat.le_of_ble_eq_true rfl) (fun G C hG Rt => ?_)
  subst hG
  exact wk_X3_bestLook C Rt k_J6_bitCount_0f7a4 k_X3_greatestPart M (h _ (fun x1 x2 x3 M h => wk_X3_bestLook_12 C Rt k_J6_bitCount_0f7a4 k_X3_greatestPart x1 x2 x3 M h))
theorem ct_X3_bestLook (w : Wx) (l : Launch) : Ct_X3_bestLook w l := mt_X3_bestLook (ct_J6_bitCount_0f7a4 w l) (ct_X3_greatestPart w l)
set_option maxRecDepth 4000 in
theorem wk_X9_look {w : Wx} {G : Gx} {Q : Int32 → Mem → Prop} (C : Cx w G cX9_look RX9 6 134 2) (Rt : ∀ (pc : Nat) (lv : List (Nat × Value)) (r0 : Int32) (M0 : Mem), decode cX9_look pc = .ok (.ireturn, 1) → Q r0 M0 → V w G pc lv [.int r0] M0) (k_X9_isCar : Ct_X9_isCar w G.2.1) (k_X3_weigh : Ct_X3_weigh w G.2.1) (k_X3_bestLook : Ct_X3_bestLook w G.2.1) (a1 : Int32) (M : Mem) (h : bd_X9_look Q a1 M) : V w G 0 [(0, .ref (w.2.1 0)), (1, .int a1)] [] M := by
  unfold bd_X9_look at h
  refine v_aload_n C 0 rfl dX9_look_0 ?_
  refine v_iload_n C 1 rfl dX9_look_1 ?_
  refine v_callI C [] (k_X9_isCar a1 M _ h) yX9_isCar_k ml_X9_136 (rcv8 kb0 kd0) rfl rfl (Nat.le_of_ble_eq_true rfl) ⟨by decide, by decide⟩ dX9_look_2 (fun r1 M1 h => ?_)
  refine v_if_ne C 11 (by decide) dX9_look_5 (fun hc => ?_) (fun hc => ?_)
  · have h := h.2 hc
    refine v_aload_n C 0 rfl dX9_look_11 ?_
    refine g8_8 C kb0 kd0 fl_X9_64 dX9_look_12 ?_
    refine v_aload_n C 0 rfl dX9_look_15 ?_
    refine g8_2 C kb0 kd0 fl_X9_28 dX9_look_16 ?_
    refine v_iload_n C 1 rfl dX9_look_19 ?_
    refine v_aload_n C 0 rfl dX9_look_20 ?_
    refine g8_6 C kb0 kd0 fl_X9_54 dX9_look_21 ?_
    refine v_callV C [] (k_X3_weigh a1 M1 _ h) yX3_weigh_k ml_X9_224 (rcv2 kb193 kd193) rfl rfl (Nat.le_of_ble_eq_true rfl) ⟨by decide, by decide⟩ dX9_look_24 (fun M2 h => ?_)
    refine v_aload_n C 0 rfl dX9_look_27 ?_
    refine g8_8 C kb0 kd0 fl_X9_64 dX9_look_28 ?_
    refine v_callI C [] (k_X3_bestLook M2 _ h) yX3_bestLook_k ml_X9_231 (rcv2 kb193 kd193) rfl rfl (Nat.le_of_ble_eq_true rfl) ⟨by decide, by decide⟩ dX9_look_31 (fun r3 M3 h => ?_)
    exact Rt _ _ _ _ dX9_look_34 h
  · have h := h.1 hc
    refine v_ldc C kc_X9_140 dX9_look_8 ?_
    exact Rt _ _ _ _ dX9_look_10 h
theorem mt_X9_look {w : Wx} {l : Launch} (k_X9_isCar : Ct_X9_isCar w l) (k_X3_weigh : Ct_X3_weigh w l) (k_X3_bestLook : Ct_X3_bestLook w l) : Ct_X9_look w l := by
  intro a1 M Q h
  refine met_i (by decide +kernel) (Nat.le_of_ble_eq_true rfl) (fun G C hG Rt => ?_)
  subst hG
  exact wk_X9_look C Rt k_X9_isCar k_X3_weigh k_X3_bestLook a1 M (h)
theorem ct_X9_look (w : Wx) (l : Launch) : Ct_X9_look w l := mt_X9_look (ct_X9_isCar w l) (ct_X3_weigh w l) (ct_X3_bestLook w l)
set_option maxRecDepth 4000 in
theorem wk_X9_write {w : Wx} {G : Gx} {Q : Int32 → Mem → Prop} (C : Cx w G cX9_write RX9 1 23 3) (Rt : ∀ (pc : Nat) (lv : List (Nat × Value)) (r0 : Int32) (M0 : Mem), decode cX9_write pc = .ok (.ireturn, 1) → Q r0 M0 → V w G pc lv [.int r0] M0) (k_X9_isCar : Ct_X9_isCar w G.2.1) (k_X9_isCorner : Ct_X9_isCorner w G.2.1) (k_X1_add : Ct_X1_add w G.2.1) (a1 : Int32) (a2 : Int32) (M : Mem) (h : bd_X9_write Q a1 a2 M) : V w G 0 [(0, .ref (w.2.1 0)), (1, .int a1), (2, .int a2)] [] M := by
  unfold bd_X9_write at h
  refine v_aload_n C 0 rfl dX9_write_0 ?_
  refine v_iload_n C 1 rfl dX9_write_1 ?_
  refine v_callI C [] (k_X9_isCar a1 M _ h) yX9_isCar_k ml_X9_136 (rcv8 kb0 kd0) rfl rfl (Nat.le_of_ble_eq_true rfl) ⟨by decide, by decide⟩ dX9_write_2 (fun r1 M1 h => ?_)
  refine v_if_eq C 16 (by decide) dX9_write_5 (fun hc => ?_) (fun hc => ?_)
  · have h := h.1 hc
    refine v_ldc C kc_X9_140 dX9_write_16 ?_
    exact Rt _ _ _ _ dX9_write_18 h
  · have h := h.2 hc
    refine v_aload_n C 0 rfl dX9_write_8 ?_
    refine v_iload_n C 2 rfl dX9_write_9 ?_
    refine v_callI C [] (k_X9_isCorner a2 M1 _ h) yX9_isCorner_k ml_X9_199 (rcv8 kb0 kd0) rfl rfl (Nat.le_of_ble_eq_true rfl) ⟨by decide, by decide⟩ dX9_write_10 (fun r2 M2 h => ?_)
    refine v_if_ne C 19 (by decide) dX9_write_13 (fun hc => ?_) (fun hc => ?_)
    · have h := h.2 hc
      refine v_aload_n C 0 rfl dX9_write_19 ?_
      refine g8_7 C kb0 kd0 fl_X9_58 dX9_write_20 ?_
      refine v_iload_n C 1 rfl dX9_write_23 ?_
      refine v_kc C (0) (by decide) dX9_write_24 ?_
      refine v_iload_n C 2 rfl dX9_write_25 ?_
      refine v_callI C [] (k_X1_add 189 15 a1 ((0 : Int32)) a2 M2 en189 _ h) yX1_add_k ml_X9_221 (rcv1 en189.l0 en189.k0) rfl rfl (Nat.le_of_ble_eq_true rfl) ⟨by decide, by decide⟩ dX9_write_26 (fun r3 M3 h => ?_)
      exact Rt _ _ _ _ dX9_write_29 h
    · have h := h.1 hc
      refine v_ldc C kc_X9_140 dX9_write_16 ?_
      exact Rt _ _ _ _ dX9_write_18 h
theorem mt_X9_write {w : Wx} {l : Launch} (k_X9_isCar : Ct_X9_isCar w l) (k_X9_isCorner : Ct_X9_isCorner w l) (k_X1_add : Ct_X1_add w l) : Ct_X9_write w l := by
  intro a1 a2 M Q h
  refine met_i (by decide +kernel) (Nat.le_of_ble_eq_true rfl) (fun G C hG Rt => ?_)
  subst hG
  exact wk_X9_write C Rt k_X9_isCar k_X9_isCorner k_X1_add a1 a2 M (h)
theorem ct_X9_write (w : Wx) (l : Launch) : Ct_X9_write w l := mt_X9_write (ct_X9_isCar w l) (ct_X9_isCorner w l) (ct_X1_add w l)
set_option maxRecDepth 4000 in
theorem wk_X9_tear {w : Wx} {G : Gx} {Q : Int32 → Mem → Prop} (C : Cx w G cX9_tear RX9 0 0 2) (Rt : ∀ (pc : Nat) (lv : List (Nat × Value)) (r0 : Int32) (M0 : Mem), decode cX9_tear pc = .ok (.ireturn, 1) → Q r0 M0 → V w G pc lv [.int r0] M0) (M : Mem) (h : bd_X9_tear Q M) : V w G 0 [(0, .ref (w.2.1 0))] [] M := by
  unfold bd_X9_tear at h
  refine v_aload_n C 0 rfl dX9_tear_0 ?_
  refine g8_6 C kb0 kd0 fl_X9_54 dX9_tear_1 ?_
  refine g1_4 C en185.l0 en185.k0 fl_X9_109 dX9_tear_4 ?_
  refine v_aload_n C 0 rfl dX9_tear_7 ?_
  refine g8_7 C kb0 kd0 fl_X9_58 dX9_tear_8 ?_
  refine g1_4 C en189.l0 en189.k0 fl_X9_109 dX9_tear_11 ?_
  refine v_iadd C dX9_tear_14 ?_
  refine v_istore_n C [(1, .int ((M 185 4) + (M 189 4))), (0, .ref (w.2.1 0))] rfl (by decide) dX9_tear_15 ?_
  refine v_aload_n C 1 rfl dX9_tear_16 ?_
  refine g8_6 C kb0 kd0 fl_X9_54 dX9_tear_17 ?_
  refine v_kc C (0) (by decide) dX9_tear_20 ?_
  refine p1_4 C en185.l0 en185.k0 fl_X9_109 dX9_tear_21 (fun M1 e1 => ?_)
  have h := h M1 e1
  refine v_aload_n C 1 rfl dX9_tear_24 ?_
  refine g8_7 C kb0 kd0 fl_X9_58 dX9_tear_25 ?_
  refine v_kc C (0) (by decide) dX9_tear_28 ?_
  refine p1_4 C en189.l0 en189.k0 fl_X9_109 dX9_tear_29 (fun M2 e2 => ?_)
  have h := h M2 e2
  refine v_iload_n C 0 rfl dX9_tear_32 ?_
  exact Rt _ _ _ _ dX9_tear_33 h
theorem mt_X9_tear {w : Wx} {l : Launch} : Ct_X9_tear w l := by
  intro M Q h
  refine met_i (by decide +kernel) (Nat.le_of_ble_eq_true rfl) (fun G C hG Rt => ?_)
  subst hG
  exact wk_X9_tear C Rt M (h)
theorem ct_X9_tear (w : Wx) (l : Launch) : Ct_X9_tear w l := mt_X9_tear
set_option maxRecDepth 4000 in
theorem wk_X9_judge {w : Wx} {G : Gx} {Q : Int32 → Mem → Prop} (C : Cx w G cX9_judge RX9 0 0 2) (Rt : ∀ (pc : Nat) (lv : List (Nat × Value)) (r0 : Int32) (M0 : Mem), decode cX9_judge pc = .ok (.ireturn, 1) → Q r0 M0 → V w G pc lv [.int r0] M0) (M : Mem) (h : bd_X9_judge Q (fun (x1 : Int32) (M : Mem) => V w G 2 [(0, .ref (w.2.1 0)), (1, .int x1)] [] M) M) : V w G 0 [(0, .ref (w.2.1 0))] [] M := by
  unfold bd_X9_judge at h
  refine v_kc C (0) (by decide) dX9_judge_0 ?_
  refine v_istore_n C [(1, .int ((0 : Int32))), (0, .ref (w.2.1 0))] rfl (by decide) dX9_judge_1 ?_
  exact V.sub [1, 0] rfl h
set_option maxRecDepth 4000 in
theorem wk_X9_judge_2 {w : Wx} {G : Gx} {Q : Int32 → Mem → Prop} (C : Cx w G cX9_judge RX9 0 0 2) (Rt : ∀ (pc : Nat) (lv : List (Nat × Value)) (r0 : Int32) (M0 : Mem), decode cX9_judge pc = .ok (.ireturn, 1) → Q r0 M0 → V w G pc lv [.int r0] M0) (x1 : Int32) (M : Mem) (h : bd_X9_judge_2 Q (fun (x1 : Int32) (M : Mem) => V w G 2 [(0, .ref (w.2.1 0)), (1, .int x1)] [] M) x1 M) : V w G 2 [(0, .ref (w.2.1 0)), (1, .int x1)] [] M := by
  unfold bd_X9_judge_2 at h
  refine v_iload_n C 1 rfl dX9_judge_2 ?_
  refine v_aload_n C 0 rfl dX9_judge_3 ?_
  refine g8_7 C kb0 kd0 fl_X9_58 dX9_judge_4 ?_
  refine g1_4 C en189.l0 en189.k0 fl_X9_109 dX9_judge_7 ?_
  refine v_icmp_ge C 50 (by decide) dX9_judge_10 (fun hc => ?_) (fun hc => ?_)
  · have h := h.1 hc
    refine v_kc C (-1) (by decide) dX9_judge_50 ?_
    exact Rt _ _ _ _ dX9_judge_51 h
  · have h := h.2 hc
    refine v_aload_n C 0 rfl dX9_judge_13 ?_
    refine g8_2 C kb0 kd0 fl_X9_28 dX9_judge_14 ?_
    refine g6_2 C sc11.l0 sc11.k0 fl_X9_141 dX9_judge_17 ?_
    refine v_aload_n C 0 rfl dX9_judge_20 ?_
    refine g8_7 C kb0 kd0 fl_X9_58 dX9_judge_21 ?_
    refine g1_1 C en189.l0 en189.k0 fl_X9_234 dX9_judge_24 ?_
    refine v_iload_n C 1 rfl dX9_judge_27 ?_
    obtain ⟨s1, h⟩ := h
    refine v_iald C en189.l1 en189.k1 en189.n1 s1 dX9_judge_28 ?_
    obtain ⟨s2, h⟩ := h
    refine v_iald C sc11.l1 sc11.k1 sc11.n1 s2 dX9_judge_29 ?_
    refine v_aload_n C 0 rfl dX9_judge_30 ?_
    refine g8_7 C kb0 kd0 fl_X9_58 dX9_judge_31 ?_
    refine g1_3 C en189.l0 en189.k0 fl_X9_237 dX9_judge_34 ?_
    refine v_iload_n C 1 rfl dX9_judge_37 ?_
    obtain ⟨s3, h⟩ := h
    refine v_iald C en189.l3 en189.k3 en189.n3 s3 dX9_judge_38 ?_
    refine v_icmp_eq C 44 (by decide) dX9_judge_39 (fun hc => ?_) (fun hc => ?_)
    · have h := h.1 hc
      refine v_iinc C (j := 1) [(1, .int (x1 + 1)), (0, .ref (w.2.1 0))] rfl (x1 + 1) rfl rfl (by decide) dX9_judge_44 ?_
      refine v_goto C 2 (by decide) dX9_judge_47 ?_
      exact V.sub [1, 0] rfl h
    · have h := h.2 hc
      refine v_iload_n C 1 rfl dX9_judge_42 ?_
      exact Rt _ _ _ _ dX9_judge_43 h
theorem mt_X9_judge {w : Wx} {l : Launch} : Ct_X9_judge w l := by
  intro M Q h
  refine met_i (by decide +kernel) (Nat.le_of_ble_eq_true rfl) (fun G C hG Rt => ?_)
  subst hG
  exact wk_X9_judge C Rt M (h _ (fun x1 M h => wk_X9_judge_2 C Rt x1 M h))
theorem ct_X9_judge (w : Wx) (l : Launch) : Ct_X9_judge w l := mt_X9_judge
set_option maxRecDepth 4000 in
theorem wk_X9_seed {w : Wx} {G : Gx} {Q : Int32 → Mem → Prop} (C : Cx w G cX9_seed RX9 0 0 3) (Rt : ∀ (pc : Nat) (lv : List (Nat × Value)) (r0 : Int32) (M0 : Mem), decode cX9_seed pc = .ok (.ireturn, 1) → Q r0 M0 → V w G pc lv [.int r0] M0) (a1 : Int32) (M : Mem) (h : bd_X9_seed Q a1 M) : V w G 0 [(0, .ref (w.2.1 0)), (1, .int a1)] [] M := by
  unfold bd_X9_seed at h
  refine v_iload_n C 1 rfl dX9_seed_0 ?_
  refine v_if_ge C 7 (by decide) dX9_seed_1 (fun hc => ?_) (fun hc => ?_)
  · have h := h.1 hc
    refine v_aload_n C 0 rfl dX9_seed_7 ?_
    refine g8_9 C kb0 kd0 fl_X9_71 dX9_seed_8 ?_
    refine g0_0 C kb210 kd210 fl_X9_238 dX9_seed_11 ?_
    refine v_istore_n C [(2, .int (M 210 0)), (0, .ref (w.2.1 0)), (1, .int a1)] rfl (by decide) dX9_seed_14 ?_
    refine v_aload_n C 1 rfl dX9_seed_15 ?_
    refine g8_9 C kb0 kd0 fl_X9_71 dX9_seed_16 ?_
    refine v_iload_n C 2 rfl dX9_seed_19 ?_
    refine p0_0 C kb210 kd210 fl_X9_238 dX9_seed_20 (fun M1 e1 => ?_)
    have h := h M1 e1
    refine v_iload_n C 0 rfl dX9_seed_23 ?_
    exact Rt _ _ _ _ dX9_seed_24 h
  · have h := h.2 hc
    refine v_ldc C kc_X9_85 dX9_seed_4 ?_
    exact Rt _ _ _ _ dX9_seed_6 h
theorem mt_X9_seed {w : Wx} {l : Launch} : Ct_X9_seed w l := by
  intro a1 M Q h
  refine met_i (by decide +kernel) (Nat.le_of_ble_eq_true rfl) (fun G C hG Rt => ?_)
  subst hG
  exact wk_X9_seed C Rt a1 M (h)
theorem ct_X9_seed (w : Wx) (l : Launch) : Ct_X9_seed w l := mt_X9_seed
set_option maxRecDepth 4000 in
theorem wk_X9_isImage {w : Wx} {G : Gx} {Q : Int32 → Mem → Prop} (C : Cx w G cX9_isImage RX9 0 0 1) (Rt : ∀ (pc : Nat) (lv : List (Nat × Value)) (r0 : Int32) (M0 : Mem), decode cX9_isImage pc = .ok (.ireturn, 1) → (r0 = 0 ∨ r0 = 1) → Q r0 M0 → V w G pc lv [.int r0] M0) (a0 : Int32) (M : Mem) (h : bd_X9_isImage Q a0 M) : V w G 0 [(0, .int a0)] [] M := by
  unfold bd_X9_isImage at h
  refine v_iload_n C 0 rfl dX9_isImage_0 ?_
  refine v_if_lt C 13 (by decide) dX9_isImage_1 (fun hc => ?_) (fun hc => ?_)
  · have h := h.1 hc
    refine v_kc C (0) (by decide) dX9_isImage_13 ?_
    exact Rt _ _ _ _ dX9_isImage_14 (by decide) h
  · have h := h.2 hc
    refine v_iload_n C 0 rfl dX9_isImage_4 ?_
    refine v_kc C (2) (by decide) dX9_isImage_5 ?_
    have key1 : V w G 14 [(0, .int a0)] (.int (if ((2 : Int32)) ≤ a0 then (0 : Int32) else (1 : Int32)) :: []) M := by
      exact Rt _ _ _ _ dX9_isImage_14 h.1 h.2
    refine v_icmp_ge C 13 (by decide) dX9_isImage_6 (fun hc => ?_) (fun hc => ?_)
    · rw [show (if ((2 : Int32)) ≤ a0 then (0 : Int32) else (1 : Int32) : Int32) = (0 : Int32) from if_pos hc] at key1
      refine v_kc C (0) (by decide) dX9_isImage_13 ?_
      exact key1
    · rw [show (if ((2 : Int32)) ≤ a0 then (0 : Int32) else (1 : Int32) : Int32) = (1 : Int32) from if_neg hc] at key1
      refine v_kc C (1) (by decide) dX9_isImage_9 ?_
      refine v_goto C 14 (by decide) dX9_isImage_10 ?_
      exact key1
theorem mt_X9_isImage {w : Wx} {l : Launch} : Ct_X9_isImage w l := by
  intro a0 M Q h
  refine met_z (by decide +kernel) (Nat.le_of_ble_eq_true rfl) (fun G C hG Rt => ?_)
  subst hG
  exact wk_X9_isImage C Rt a0 M (h)
theorem ct_X9_isImage (w : Wx) (l : Launch) : Ct_X9_isImage w l := mt_X9_isImage
set_option maxRecDepth 4000 in
theorem wk_X5_put {w : Wx} {G : Gx} {Q : Mem → Prop} (C : Cx w G cX5_put RX5 2 61 4) (Rt : ∀ (pc : Nat) (lv : List (Nat × Value)) (M0 : Mem), decode cX5_put pc = .ok (.return_, 1) → Q M0 → V w G pc lv [] M0) (k_X7_copyFrom : Ct_X7_copyFrom w G.2.1) (a1 : Int32) (a3 : Int32) (M : Mem) (h : bd_X5_put Q a1 a3 M) : V w G 0 [(0, .ref (w.2.1 167)), (1, .int a1), (2, .ref (w.2.1 11)), (3, .int a3)] [] M := by
  unfold bd_X5_put at h
  refine v_aload_n C 0 rfl dX5_put_0 ?_
  refine g4_0 C kb167 kd167 fl_X5_11 dX5_put_1 ?_
  refine v_iload_n C 1 rfl dX5_put_4 ?_
  obtain ⟨s1, h⟩ := h
  refine v_sald C kb168 kd168 ln168 s1 dX5_put_5 ?_
  refine v_aload_n C 2 rfl dX5_put_6 ?_
  refine v_callV C [] (k_X7_copyFrom (ra 168 a1.toNatClampNeg) 11 M (sc168 s1) sc11 _ h) yX7_copyFrom_k ml_X5_26 (rcv6 (sc168 s1).l0 (sc168 s1).k0) rfl rfl (Nat.le_of_ble_eq_true rfl) ⟨by decide, by decide⟩ dX5_put_7 (fun M2 h => ?_)
  refine v_aload_n C 0 rfl dX5_put_10 ?_
  refine g4_1 C kb167 kd167 fl_X5_17 dX5_put_11 ?_
  refine v_iload_n C 1 rfl dX5_put_14 ?_
  refine v_iload_n C 3 rfl dX5_put_15 ?_
  obtain ⟨s3, h⟩ := h
  refine v_iast C kb169 kd169 ln169 s3 dX5_put_16 (fun M4 e4 => ?_)
  have h := h M4 e4
  refine v_aload_n C 0 rfl dX5_put_17 ?_
  refine g4_2 C kb167 kd167 fl_X5_21 dX5_put_18 ?_
  refine v_iload_n C 1 rfl dX5_put_21 ?_
  refine v_kc C (1) (by decide) dX5_put_22 ?_
  obtain ⟨s5, h⟩ := h
  refine v_zast C kb170 kd170 ln170 s5 dX5_put_23 (fun M6 e6 => ?_)
  have h := h M6 e6
  exact Rt _ _ _ dX5_put_24 h
theorem mt_X5_put {w : Wx} {l : Launch} (k_X7_copyFrom : Ct_X7_copyFrom w l) : Ct_X5_put w l := by
  intro a1 a3 M Q h
  refine met_v (by decide +kernel) (Nat.le_of_ble_eq_true rfl) (fun G C hG Rt => ?_)
  subst hG
  exact wk_X5_put C Rt k_X7_copyFrom a1 a3 M (h)
theorem ct_X5_put (w : Wx) (l : Launch) : Ct_X5_put w l := mt_X5_put (ct_X7_copyFrom w l)
set_option maxRecDepth 4000 in
theorem wk_X9_keep {w : Wx} {G : Gx} {Q : Int32 → Mem → Prop} (C : Cx w G cX9_keep RX9 3 84 2) (Rt : ∀ (pc : Nat) (lv : List (Nat × Value)) (r0 : Int32) (M0 : Mem), decode cX9_keep pc = .ok (.ireturn, 1) → Q r0 M0 → V w G pc lv [.int r0] M0) (k_X9_isImage : Ct_X9_isImage w G.2.1) (k_X5_put : Ct_X5_put w G.2.1) (k_X4_forget : Ct_X4_forget w G.2.1) (a1 : Int32) (M : Mem) (h : bd_X9_keep Q a1 M) : V w G 0 [(0, .ref (w.2.1 0)), (1, .int a1)] [] M := by
  unfold bd_X9_keep at h
  refine v_iload_n C 1 rfl dX9_keep_0 ?_
  refine v_callSI C [] (k_X9_isImage a1 M _ h) yX9_isImage_k ml_X9_241 rfl rfl (Nat.le_of_ble_eq_true rfl) ⟨by decide, by decide⟩ dX9_keep_1 (fun r1 M1 h => ?_)
  refine v_if_ne C 10 (by decide) dX9_keep_4 (fun hc => ?_) (fun hc => ?_)
  · have h := h.2 hc
    refine v_aload_n C 0 rfl dX9_keep_10 ?_
    refine g8_5 C kb0 kd0 fl_X9_45 dX9_keep_11 ?_
    refine v_iload_n C 1 rfl dX9_keep_14 ?_
    refine v_aload_n C 0 rfl dX9_keep_15 ?_
    refine g8_2 C kb0 kd0 fl_X9_28 dX9_keep_16 ?_
    refine v_aload_n C 0 rfl dX9_keep_19 ?_
    refine g8_9 C kb0 kd0 fl_X9_71 dX9_keep_20 ?_
    refine g0_0 C kb210 kd210 fl_X9_238 dX9_keep_23 ?_
    refine v_callV C [] (k_X5_put a1 (M1 210 0) M1 _ h) yX5_put_k ml_X9_244 (rcv4 kb167 kd167) rfl rfl (Nat.le_of_ble_eq_true rfl) ⟨by decide, by decide⟩ dX9_keep_26 (fun M2 h => ?_)
    refine v_aload_n C 0 rfl dX9_keep_29 ?_
    refine g8_4 C kb0 kd0 fl_X9_38 dX9_keep_30 ?_
    refine v_callV C [] (k_X4_forget M2 _ h) yX4_forget_k ml_X9_115 (rcv3 kb25 kd25) rfl rfl (Nat.le_of_ble_eq_true rfl) ⟨by decide, by decide⟩ dX9_keep_33 (fun M3 h => ?_)
    refine v_kc C (1) (by decide) dX9_keep_36 ?_
    exact Rt _ _ _ _ dX9_keep_37 h
  · have h := h.1 hc
    refine v_ldc C kc_X9_140 dX9_keep_7 ?_
    exact Rt _ _ _ _ dX9_keep_9 h
theorem mt_X9_keep {w : Wx} {l : Launch} (k_X9_isImage : Ct_X9_isImage w l) (k_X5_put : Ct_X5_put w l) (k_X4_forget : Ct_X4_forget w l) : Ct_X9_keep w l := by
  intro a1 M Q h
  refine met_i (by decide +kernel) (Nat.le_of_ble_eq_true rfl) (fun G C hG Rt => ?_)
  subst hG
  exact wk_X9_keep C Rt k_X9_isImage k_X5_put k_X4_forget a1 M (h)
theorem ct_X9_keep (w : Wx) (l : Launch) : Ct_X9_keep w l := mt_X9_keep (ct_X9_isImage w l) (ct_X5_put w l) (ct_X4_forget w l)
set_option maxRecDepth 4000 in
theorem wk_X9_goBack {w : Wx} {G : Gx} {Q : Int32 → Mem → Prop} (C : Cx w G cX9_goBack RX9 2 61 2) (Rt : ∀ (pc : Nat) (lv : List (Nat × Value)) (r0 : Int32) (M0 : Mem), decode cX9_goBack pc = .ok (.ireturn, 1) → Q r0 M0 → V w G pc lv [.int r0] M0) (k_X9_isImage : Ct_X9_isImage w G.2.1) (k_X7_copyFrom : Ct_X7_copyFrom w G.2.1) (k_X4_forget : Ct_X4_forget w G.2.1) (a1 : Int32) (M : Mem) (h : bd_X9_goBack Q a1 M) : V w G 0 [(0, .ref (w.2.1 0)), (1, .int a1)] [] M := by
  unfold bd_X9_goBack at h
  refine v_iload_n C 1 rfl dX9_goBack_0 ?_
  refine v_callSI C [] (k_X9_isImage a1 M _ h) yX9_isImage_k ml_X9_241 rfl rfl (Nat.le_of_ble_eq_true rfl) ⟨by decide, by decide⟩ dX9_goBack_1 (fun r1 M1 h => ?_)
  refine v_if_ne C 10 (by decide) dX9_goBack_4 (fun hc => ?_) (fun hc => ?_)
  · have h := h.2 hc
    refine v_aload_n C 0 rfl dX9_goBack_10 ?_
    refine g8_5 C kb0 kd0 fl_X9_45 dX9_goBack_11 ?_
    refine g4_2 C kb167 kd167 fl_X9_248 dX9_goBack_14 ?_
    refine v_iload_n C 1 rfl dX9_goBack_17 ?_
    obtain ⟨s2, h⟩ := h
    refine v_zald C kb170 kd170 ln170 s2 dX9_goBack_18 ?_
    refine v_if_ne C 25 (by decide) dX9_goBack_19 (fun hc => ?_) (fun hc => ?_)
    · have h := h.2 hc
      refine v_aload_n C 0 rfl dX9_goBack_25 ?_
      refine g8_2 C kb0 kd0 fl_X9_28 dX9_goBack_26 ?_
      refine v_aload_n C 0 rfl dX9_goBack_29 ?_
      refine g8_5 C kb0 kd0 fl_X9_45 dX9_goBack_30 ?_
      refine g4_0 C kb167 kd167 fl_X9_252 dX9_goBack_33 ?_
      refine v_iload_n C 1 rfl dX9_goBack_36 ?_
      obtain ⟨s3, h⟩ := h
      refine v_sald C kb168 kd168 ln168 s3 dX9_goBack_37 ?_
      refine v_callV C [] (k_X7_copyFrom 11 (ra 168 a1.toNatClampNeg) M1 sc11 (sc168 s3) _ h) yX7_copyFrom_k ml_X9_105 (rcv6 sc11.l0 sc11.k0) rfl rfl (Nat.le_of_ble_eq_true rfl) ⟨by decide, by decide⟩ dX9_goBack_38 (fun M4 h => ?_)
      refine v_aload_n C 0 rfl dX9_goBack_41 ?_
      refine g8_9 C kb0 kd0 fl_X9_71 dX9_goBack_42 ?_
      refine v_aload_n C 0 rfl dX9_goBack_45 ?_
      refine g8_5 C kb0 kd0 fl_X9_45 dX9_goBack_46 ?_
      refine g4_1 C kb167 kd167 fl_X9_255 dX9_goBack_49 ?_
      refine v_iload_n C 1 rfl dX9_goBack_52 ?_
      obtain ⟨s5, h⟩ := h
      refine v_iald C kb169 kd169 ln169 s5 dX9_goBack_53 ?_
      refine p0_0 C kb210 kd210 fl_X9_238 dX9_goBack_54 (fun M6 e6 => ?_)
      have h := h M6 e6
      refine v_aload_n C 0 rfl dX9_goBack_57 ?_
      refine g8_4 C kb0 kd0 fl_X9_38 dX9_goBack_58 ?_
      refine v_callV C [] (k_X4_forget M6 _ h) yX4_forget_k ml_X9_115 (rcv3 kb25 kd25) rfl rfl (Nat.le_of_ble_eq_true rfl) ⟨by decide, by decide⟩ dX9_goBack_61 (fun M7 h => ?_)
      refine v_kc C (1) (by decide) dX9_goBack_64 ?_
      exact Rt _ _ _ _ dX9_goBack_65 h
    · have h := h.1 hc
      refine v_ldc C kc_X9_171 dX9_goBack_22 ?_
      exact Rt _ _ _ _ dX9_goBack_24 h
  · have h := h.1 hc
    refine v_ldc C kc_X9_140 dX9_goBack_7 ?_
    exact Rt _ _ _ _ dX9_goBack_9 h
theorem mt_X9_goBack {w : Wx} {l : Launch} (k_X9_isImage : Ct_X9_isImage w l) (k_X7_copyFrom : Ct_X7_copyFrom w l) (k_X4_forget : Ct_X4_forget w l) : Ct_X9_goBack w l := by
  intro a1 M Q h
  refine met_i (by decide +kernel) (Nat.le_of_ble_eq_true rfl) (fun G C hG Rt => ?_)
  subst hG
  exact wk_X9_goBack C Rt k_X9_isImage k_X7_copyFrom k_X4_forget a1 M (h)
theorem ct_X9_goBack (w : Wx) (l : Launch) : Ct_X9_goBack w l := mt_X9_goBack (ct_X9_isImage w l) (ct_X7_copyFrom w l) (ct_X4_forget w l)
set_option maxRecDepth 4000 in
theorem wk_X10_in {w : Wx} {G : Gx} {Q : Int32 → Mem → Prop} (C : Cx w G cX10_in RX10 0 0 6) (Rt : ∀ (pc : Nat) (lv : List (Nat × Value)) (r0 : Int32) (M0 : Mem), decode cX10_in pc = .ok (.ireturn, 1) → (r0 = 0 ∨ r0 = 1) → Q r0 M0 → V w G pc lv [.int r0] M0) (a0 : Int64) (a2 : Int64) (a4 : Int64) (M : Mem) (h : bd_X10_in Q a0 a2 a4 M) : V w G 0 [(0, .long a0), (2, .long a2), (4, .long a4)] [] M := by
  unfold bd_X10_in at h
  refine v_lload_n C 0 rfl dX10_in_0 ?_
  refine v_lload_n C 1 rfl dX10_in_1 ?_
  refine v_lcmp C dX10_in_2 ?_
  refine v_if_lt C 17 (by decide) dX10_in_3 (fun hc => ?_) (fun hc => ?_)
  · have h := h.1 hc
    refine v_kc C (0) (by decide) dX10_in_17 ?_
    exact Rt _ _ _ _ dX10_in_18 (by decide) h
  · have h := h.2 hc
    refine v_lload_n C 0 rfl dX10_in_6 ?_
    refine v_lload C 2 rfl dX10_in_7 ?_
    refine v_lcmp C dX10_in_9 ?_
    have key1 : V w G 18 [(0, .long a0), (2, .long a2), (4, .long a4)] (.int (if 0 < (lg_cmp a0 a4) then (0 : Int32) else (1 : Int32)) :: []) M := by
      exact Rt _ _ _ _ dX10_in_18 h.1 h.2
    refine v_if_gt C 17 (by decide) dX10_in_10 (fun hc => ?_) (fun hc => ?_)
    · rw [show (if 0 < (lg_cmp a0 a4) then (0 : Int32) else (1 : Int32) : Int32) = (0 : Int32) from if_pos hc] at key1
      refine v_kc C (0) (by decide) dX10_in_17 ?_
      exact key1
    · rw [show (if 0 < (lg_cmp a0 a4) then (0 : Int32) else (1 : Int32) : Int32) = (1 : Int32) from if_neg hc] at key1
      refine v_kc C (1) (by decide) dX10_in_13 ?_
      refine v_goto C 18 (by decide) dX10_in_14 ?_
      exact key1
theorem mt_X10_in {w : Wx} {l : Launch} : Ct_X10_in w l := by
  intro a0 a2 a4 M Q h
  refine met_z (by decide +kernel) (Nat.le_of_ble_eq_true rfl) (fun G C hG Rt => ?_)
  subst hG
  exact wk_X10_in C Rt a0 a2 a4 M (h)
theorem ct_X10_in (w : Wx) (l : Launch) : Ct_X10_in w l := mt_X10_in
set_option maxRecDepth 4000 in
theorem wk_X10_feed {w : Wx} {G : Gx} {Q : Int32 → Mem → Prop} (C : Cx w G cX10_feed RX10 1 25 2) (Rt : ∀ (pc : Nat) (lv : List (Nat × Value)) (r0 : Int32) (M0 : Mem), decode cX10_feed pc = .ok (.ireturn, 1) → Q r0 M0 → V w G pc lv [.int r0] M0) (k_X10_in : Ct_X10_in w G.2.1) (a1 : Int32) (M : Mem) (h : bd_X10_feed Q a1 M) : V w G 0 [(0, .ref (w.2.1 211)), (1, .int a1)] [] M := by
  unfold bd_X10_feed at h
  refine v_iload_n C 1 rfl dX10_feed_0 ?_
  refine v_i2l C dX10_feed_1 ?_
  refine v_lconst C 0 (by decide) dX10_feed_2 ?_
  refine v_ldc2 C kl_X10_92 dX10_feed_3 ?_
  refine v_callSI C [] (k_X10_in a1.toInt64 ((0 : Int64)) ((255 : Int64)) M _ h) yX10_in_k ml_X10_81 rfl rfl (Nat.le_of_ble_eq_true rfl) ⟨by decide, by decide⟩ dX10_feed_6 (fun r1 M1 h => ?_)
  refine v_if_ne C 15 (by decide) dX10_feed_9 (fun hc => ?_) (fun hc => ?_)
  · have h := h.2 hc
    refine v_aload_n C 0 rfl dX10_feed_15 ?_
    refine g9_8 C kb211 kd211 fl_X10_95 dX10_feed_16 ?_
    refine v_ks C (240) (by decide) dX10_feed_19 ?_
    refine v_icmp_ne C 28 (by decide) dX10_feed_22 (fun hc => ?_) (fun hc => ?_)
    · have h := h.2 hc
      refine v_aload_n C 0 rfl dX10_feed_28 ?_
      refine g9_7 C kb211 kd211 fl_X10_19 dX10_feed_29 ?_
      refine v_aload_n C 0 rfl dX10_feed_32 ?_
      refine g9_8 C kb211 kd211 fl_X10_95 dX10_feed_33 ?_
      refine v_iload_n C 1 rfl dX10_feed_36 ?_
      obtain ⟨s2, h⟩ := h
      refine v_iast C kb215 kd215 ln215 s2 dX10_feed_37 (fun M3 e3 => ?_)
      have h := h M3 e3
      refine v_aload_n C 0 rfl dX10_feed_38 ?_
      refine v_dup C rfl dX10_feed_39 ?_
      refine g9_8 C kb211 kd211 fl_X10_95 dX10_feed_40 ?_
      refine v_kc C (1) (by decide) dX10_feed_43 ?_
      refine v_iadd C dX10_feed_44 ?_
      refine p9_8 C kb211 kd211 fl_X10_95 dX10_feed_45 (fun M4 e4 => ?_)
      have h := h M4 e4
      refine v_aload_n C 0 rfl dX10_feed_48 ?_
      refine g9_8 C kb211 kd211 fl_X10_95 dX10_feed_49 ?_
      exact Rt _ _ _ _ dX10_feed_52 h
    · have h := h.1 hc
      refine v_ldc C kc_X10_98 dX10_feed_25 ?_
      exact Rt _ _ _ _ dX10_feed_27 h
  · have h := h.1 hc
    refine v_ldc C kc_X10_94 dX10_feed_12 ?_
    exact Rt _ _ _ _ dX10_feed_14 h
theorem mt_X10_feed {w : Wx} {l : Launch} (k_X10_in : Ct_X10_in w l) : Ct_X10_feed w l := by
  intro a1 M Q h
  refine met_i (by decide +kernel) (Nat.le_of_ble_eq_true rfl) (fun G C hG Rt => ?_)
  subst hG
  exact wk_X10_feed C Rt k_X10_in a1 M (h)
theorem ct_X10_feed (w : Wx) (l : Launch) : Ct_X10_feed w l := mt_X10_feed (ct_X10_in w l)
set_option maxRecDepth 4000 in
theorem wk_X10_takeRead {w : Wx} {G : Gx} {Q : Mem → Prop} (C : Cx w G cX10_takeRead RX10 0 0 2) (Rt : ∀ (pc : Nat) (lv : List (Nat × Value)) (M0 : Mem), decode cX10_takeRead pc = .ok (.return_, 1) → Q M0 → V w G pc lv [] M0) (M : Mem) (h : bd_X10_takeRead Q (fun (x1 : Int32) (M : Mem) => V w G 30 [(0, .ref (w.2.1 211)), (1, .int x1)] [] M) (fun (x1 : Int32) (M : Mem) => V w G 51 [(0, .ref (w.2.1 211)), (1, .int x1)] [] M) (fun (x1 : Int32) (M : Mem) => V w G 128 [(0, .ref (w.2.1 211)), (1, .int x1)] [] M) M) : V w G 0 [(0, .ref (w.2.1 211))] [] M := by
  unfold bd_X10_takeRead at h
  refine v_aload_n C 0 rfl dX10_takeRead_0 ?_
  refine v_aload_n C 0 rfl dX10_takeRead_1 ?_
  refine g9_13 C kb211 kd211 fl_X10_26 dX10_takeRead_2 ?_
  refine v_kc C (0) (by decide) dX10_takeRead_5 ?_
  obtain ⟨s1, h⟩ := h
  refine v_iald C kb216 kd216 ln216 s1 dX10_takeRead_6 ?_
  refine p9_0 C kb211 kd211 fl_X10_78 dX10_takeRead_7 (fun M2 e2 => ?_)
  have h := h M2 e2
  refine v_aload_n C 0 rfl dX10_takeRead_10 ?_
  refine v_aload_n C 0 rfl dX10_takeRead_11 ?_
  refine g9_13 C kb211 kd211 fl_X10_26 dX10_takeRead_12 ?_
  refine v_kc C (1) (by decide) dX10_takeRead_15 ?_
  obtain ⟨s3, h⟩ := h
  refine v_iald C kb216 kd216 ln216 s3 dX10_takeRead_16 ?_
  refine p9_1 C kb211 kd211 fl_X10_141 dX10_takeRead_17 (fun M4 e4 => ?_)
  have h := h M4 e4
  refine v_aload_n C 0 rfl dX10_takeRead_20 ?_
  refine v_aload_n C 0 rfl dX10_takeRead_21 ?_
  refine g9_14 C kb211 kd211 fl_X10_128 dX10_takeRead_22 ?_
  refine p9_2 C kb211 kd211 fl_X10_85 dX10_takeRead_25 (fun M5 e5 => ?_)
  have h := h M5 e5
  refine v_kc C (0) (by decide) dX10_takeRead_28 ?_
  refine v_istore_n C [(1, .int ((0 : Int32))), (0, .ref (w.2.1 211))] rfl (by decide) dX10_takeRead_29 ?_
  exact V.sub [1, 0] rfl h
set_option maxRecDepth 4000 in
theorem wk_X10_takeRead_30 {w : Wx} {G : Gx} {Q : Mem → Prop} (C : Cx w G cX10_takeRead RX10 0 0 2) (Rt : ∀ (pc : Nat) (lv : List (Nat × Value)) (M0 : Mem), decode cX10_takeRead pc = .ok (.return_, 1) → Q M0 → V w G pc lv [] M0) (x1 : Int32) (M : Mem) (h : bd_X10_takeRead_30 Q (fun (x1 : Int32) (M : Mem) => V w G 30 [(0, .ref (w.2.1 211)), (1, .int x1)] [] M) (fun (x1 : Int32) (M : Mem) => V w G 51 [(0, .ref (w.2.1 211)), (1, .int x1)] [] M) (fun (x1 : Int32) (M : Mem) => V w G 128 [(0, .ref (w.2.1 211)), (1, .int x1)] [] M) x1 M) : V w G 30 [(0, .ref (w.2.1 211)), (1, .int x1)] [] M := by
  unfold bd_X10_takeRead_30 at h
  refine v_iload_n C 1 rfl dX10_takeRead_30 ?_
  refine v_kb C (41) (by decide) dX10_takeRead_31 ?_
  refine v_icmp_ge C 49 (by decide) dX10_takeRead_33 (fun hc => ?_) (fun hc => ?_)
  · have h := h.1 hc
    refine v_kc C (0) (by decide) dX10_takeRead_49 ?_
    refine v_istore_n C [(1, .int ((0 : Int32))), (0, .ref (w.2.1 211))] rfl (by decide) dX10_takeRead_50 ?_
    exact V.sub [1, 0] rfl h
  · have h := h.2 hc
    refine v_aload_n C 0 rfl dX10_takeRead_36 ?_
    refine g9_5 C kb211 kd211 fl_X10_16 dX10_takeRead_37 ?_
    refine v_iload_n C 1 rfl dX10_takeRead_40 ?_
    refine v_kc C (0) (by decide) dX10_takeRead_41 ?_
    obtain ⟨s1, h⟩ := h
    refine v_iast C kb214 kd214 ln214 s1 dX10_takeRead_42 (fun M2 e2 => ?_)
    have h := h M2 e2
    refine v_iinc C (j := 1) [(1, .int (x1 + 1)), (0, .ref (w.2.1 211))] rfl (x1 + 1) rfl rfl (by decide) dX10_takeRead_43 ?_
    refine v_goto C 30 (by decide) dX10_takeRead_46 ?_
    exact V.sub [1, 0] rfl h
set_option maxRecDepth 4000 in
theorem wk_X10_takeRead_51 {w : Wx} {G : Gx} {Q : Mem → Prop} (C : Cx w G cX10_takeRead RX10 0 0 2) (Rt : ∀ (pc : Nat) (lv : List (Nat × Value)) (M0 : Mem), decode cX10_takeRead pc = .ok (.return_, 1) → Q M0 → V w G pc lv [] M0) (x1 : Int32) (M : Mem) (h : bd_X10_takeRead_51 Q (fun (x1 : Int32) (M : Mem) => V w G 30 [(0, .ref (w.2.1 211)), (1, .int x1)] [] M) (fun (x1 : Int32) (M : Mem) => V w G 51 [(0, .ref (w.2.1 211)), (1, .int x1)] [] M) (fun (x1 : Int32) (M : Mem) => V w G 128 [(0, .ref (w.2.1 211)), (1, .int x1)] [] M) x1 M) : V w G 51 [(0, .ref (w.2.1 211)), (1, .int x1)] [] M := by
  unfold bd_X10_takeRead_51 at h
  refine v_iload_n C 1 rfl dX10_takeRead_51 ?_
  refine v_kb C (8) (by decide) dX10_takeRead_52 ?_
  refine v_icmp_ge C 126 (by decide) dX10_takeRead_54 (fun hc => ?_) (fun hc => ?_)
  · have h := h.1 hc
    refine v_kc C (0) (by decide) dX10_takeRead_126 ?_
    refine v_istore_n C [(1, .int ((0 : Int32))), (0, .ref (w.2.1 211))] rfl (by decide) dX10_takeRead_127 ?_
    exact V.sub [1, 0] rfl h
  · have h := h.2 hc
    refine v_aload_n C 0 rfl dX10_takeRead_57 ?_
    refine g9_5 C kb211 kd211 fl_X10_16 dX10_takeRead_58 ?_
    refine v_iload_n C 1 rfl dX10_takeRead_61 ?_
    refine v_iload_n C 1 rfl dX10_takeRead_62 ?_
    refine v_aload_n C 0 rfl dX10_takeRead_63 ?_
    refine g9_2 C kb211 kd211 fl_X10_85 dX10_takeRead_64 ?_
    obtain ⟨ca1, cb1, h⟩ := h
    have key1 : V w G 80 [(0, .ref (w.2.1 211)), (1, .int x1)] (.int (if (M 211 2) ≤ x1 then (0 : Int32) else M 217 x1.toNatClampNeg) :: .int x1 :: .ref (w.2.1 214) :: []) M := by
      obtain ⟨s2, h⟩ := h
      refine v_iast C kb214 kd214 ln214 s2 dX10_takeRead_80 (fun M3 e3 => ?_)
      have h := h M3 e3
      refine v_aload_n C 0 rfl dX10_takeRead_81 ?_
      refine g9_5 C kb211 kd211 fl_X10_16 dX10_takeRead_82 ?_
      refine v_kb C (8) (by decide) dX10_takeRead_85 ?_
      refine v_iload_n C 1 rfl dX10_takeRead_87 ?_
      refine v_iadd C dX10_takeRead_88 ?_
      refine v_iload_n C 1 rfl dX10_takeRead_89 ?_
      refine v_aload_n C 0 rfl dX10_takeRead_90 ?_
      refine g9_2 C kb211 kd211 fl_X10_85 dX10_takeRead_91 ?_
      obtain ⟨ca4, cb4, h⟩ := h
      have key4 : V w G 107 [(0, .ref (w.2.1 211)), (1, .int x1)] (.int (if (M3 211 2) ≤ x1 then (-1 : Int32) else M3 220 x1.toNatClampNeg) :: .int (((8 : Int32)) + x1) :: .ref (w.2.1 214) :: []) M3 := by
        obtain ⟨s5, h⟩ := h
        refine v_iast C kb214 kd214 ln214 s5 dX10_takeRead_107 (fun M6 e6 => ?_)
        have h := h M6 e6
        refine v_aload_n C 0 rfl dX10_takeRead_108 ?_
        refine g9_4 C kb211 kd211 fl_X10_13 dX10_takeRead_109 ?_
        refine v_iload_n C 1 rfl dX10_takeRead_112 ?_
        refine v_aload_n C 0 rfl dX10_takeRead_113 ?_
        refine g9_17 C kb211 kd211 fl_X10_35 dX10_takeRead_114 ?_
        refine v_iload_n C 1 rfl dX10_takeRead_117 ?_
        obtain ⟨s7, h⟩ := h
        refine v_iald C kb219 kd219 ln219 s7 dX10_takeRead_118 ?_
        obtain ⟨s8, h⟩ := h
        refine v_iast C kb213 kd213 ln213 s8 dX10_takeRead_119 (fun M9 e9 => ?_)
        have h := h M9 e9
        refine v_iinc C (j := 1) [(1, .int (x1 + 1)), (0, .ref (w.2.1 211))] rfl (x1 + 1) rfl rfl (by decide) dX10_takeRead_120 ?_
        refine v_goto C 51 (by decide) dX10_takeRead_123 ?_
        exact V.sub [1, 0] rfl h
      refine v_icmp_ge C 106 (by decide) dX10_takeRead_94 (fun hc => ?_) (fun hc => ?_)
      · rw [show (if (M3 211 2) ≤ x1 then (-1 : Int32) else M3 220 x1.toNatClampNeg : Int32) = (-1 : Int32) from if_pos hc] at key4
        refine v_kc C (-1) (by decide) dX10_takeRead_106 ?_
        exact key4
      · rw [show (if (M3 211 2) ≤ x1 then (-1 : Int32) else M3 220 x1.toNatClampNeg : Int32) = M3 220 x1.toNatClampNeg from if_neg hc] at key4
        obtain ⟨q0, -⟩ := cb4 hc
        refine v_aload_n C 0 rfl dX10_takeRead_97 ?_
        refine g9_18 C kb211 kd211 fl_X10_38 dX10_takeRead_98 ?_
        refine v_iload_n C 1 rfl dX10_takeRead_101 ?_
        refine v_iald C kb220 kd220 ln220 q0 dX10_takeRead_102 ?_
        refine v_goto C 107 (by decide) dX10_takeRead_103 ?_
        exact key4
    refine v_icmp_ge C 79 (by decide) dX10_takeRead_67 (fun hc => ?_) (fun hc => ?_)
    · rw [show (if (M 211 2) ≤ x1 then (0 : Int32) else M 217 x1.toNatClampNeg : Int32) = (0 : Int32) from if_pos hc] at key1
      refine v_kc C (0) (by decide) dX10_takeRead_79 ?_
      exact key1
    · rw [show (if (M 211 2) ≤ x1 then (0 : Int32) else M 217 x1.toNatClampNeg : Int32) = M 217 x1.toNatClampNeg from if_neg hc] at key1
      obtain ⟨q0, -⟩ := cb1 hc
      refine v_aload_n C 0 rfl dX10_takeRead_70 ?_
      refine g9_15 C kb211 kd211 fl_X10_29 dX10_takeRead_71 ?_
      refine v_iload_n C 1 rfl dX10_takeRead_74 ?_
      refine v_iald C kb217 kd217 ln217 q0 dX10_takeRead_75 ?_
      refine v_goto C 80 (by decide) dX10_takeRead_76 ?_
      exact key1
set_option maxRecDepth 4000 in
theorem wk_X10_takeRead_128 {w : Wx} {G : Gx} {Q : Mem → Prop} (C : Cx w G cX10_takeRead RX10 0 0 2) (Rt : ∀ (pc : Nat) (lv : List (Nat × Value)) (M0 : Mem), decode cX10_takeRead pc = .ok (.return_, 1) → Q M0 → V w G pc lv [] M0) (x1 : Int32) (M : Mem) (h : bd_X10_takeRead_128 Q (fun (x1 : Int32) (M : Mem) => V w G 30 [(0, .ref (w.2.1 211)), (1, .int x1)] [] M) (fun (x1 : Int32) (M : Mem) => V w G 51 [(0, .ref (w.2.1 211)), (1, .int x1)] [] M) (fun (x1 : Int32) (M : Mem) => V w G 128 [(0, .ref (w.2.1 211)), (1, .int x1)] [] M) x1 M) : V w G 128 [(0, .ref (w.2.1 211)), (1, .int x1)] [] M := by
  unfold bd_X10_takeRead_128 at h
  refine v_iload_n C 1 rfl dX10_takeRead_128 ?_
  refine v_kb C (48) (by decide) dX10_takeRead_129 ?_
  refine v_icmp_ge C 152 (by decide) dX10_takeRead_131 (fun hc => ?_) (fun hc => ?_)
  · have h := h.1 hc
    exact Rt _ _ _ dX10_takeRead_152 h
  · have h := h.2 hc
    refine v_aload_n C 0 rfl dX10_takeRead_134 ?_
    refine g9_3 C kb211 kd211 fl_X10_7 dX10_takeRead_135 ?_
    refine v_iload_n C 1 rfl dX10_takeRead_138 ?_
    refine v_aload_n C 0 rfl dX10_takeRead_139 ?_
    refine g9_16 C kb211 kd211 fl_X10_32 dX10_takeRead_140 ?_
    refine v_iload_n C 1 rfl dX10_takeRead_143 ?_
    obtain ⟨s1, h⟩ := h
    refine v_iald C kb218 kd218 ln218 s1 dX10_takeRead_144 ?_
    obtain ⟨s2, h⟩ := h
    refine v_iast C kb212 kd212 ln212 s2 dX10_takeRead_145 (fun M3 e3 => ?_)
    have h := h M3 e3
    refine v_iinc C (j := 1) [(1, .int (x1 + 1)), (0, .ref (w.2.1 211))] rfl (x1 + 1) rfl rfl (by decide) dX10_takeRead_146 ?_
    refine v_goto C 128 (by decide) dX10_takeRead_149 ?_
    exact V.sub [1, 0] rfl h
theorem mt_X10_takeRead {w : Wx} {l : Launch} : Ct_X10_takeRead w l := by
  intro M Q h
  refine met_v (by decide +kernel) (Nat.le_of_ble_eq_true rfl) (fun G C hG Rt => ?_)
  subst hG
  exact wk_X10_takeRead C Rt M (h _ _ _ (fun x1 M h => wk_X10_takeRead_30 C Rt x1 M h) (fun x1 M h => wk_X10_takeRead_51 C Rt x1 M h) (fun x1 M h => wk_X10_takeRead_128 C Rt x1 M h))
theorem ct_X10_takeRead (w : Wx) (l : Launch) : Ct_X10_takeRead w l := mt_X10_takeRead
set_option maxRecDepth 4000 in
theorem wk_X10_here {w : Wx} {G : Gx} {Q : Int32 → Mem → Prop} (C : Cx w G cX10_here RX10 0 0 1) (Rt : ∀ (pc : Nat) (lv : List (Nat × Value)) (r0 : Int32) (M0 : Mem), decode cX10_here pc = .ok (.ireturn, 1) → Q r0 M0 → V w G pc lv [.int r0] M0) (M : Mem) (h : bd_X10_here Q (fun (M : Mem) => V w G 0 [(0, .ref (w.2.1 211))] [] M) M) : V w G 0 [(0, .ref (w.2.1 211))] [] M := by
  unfold bd_X10_here at h
  exact V.sub [0] rfl h
set_option maxRecDepth 4000 in
theorem wk_X10_here_0 {w : Wx} {G : Gx} {Q : Int32 → Mem → Prop} (C : Cx w G cX10_here RX10 0 0 1) (Rt : ∀ (pc : Nat) (lv : List (Nat × Value)) (r0 : Int32) (M0 : Mem), decode cX10_here pc = .ok (.ireturn, 1) → Q r0 M0 → V w G pc lv [.int r0] M0) (M : Mem) (h : bd_X10_here_0 Q (fun (M : Mem) => V w G 0 [(0, .ref (w.2.1 211))] [] M) M) : V w G 0 [(0, .ref (w.2.1 211))] [] M := by
  unfold bd_X10_here_0 at h
  refine v_aload_n C 0 rfl dX10_here_0 ?_
  refine g9_10 C kb211 kd211 fl_X10_99 dX10_here_1 ?_
  refine v_aload_n C 0 rfl dX10_here_4 ?_
  refine g9_8 C kb211 kd211 fl_X10_95 dX10_here_5 ?_
  refine v_icmp_ge C 38 (by decide) dX10_here_8 (fun hc => ?_) (fun hc => ?_)
  · have h := h.1 hc
    refine v_aload_n C 0 rfl dX10_here_38 ?_
    refine g9_10 C kb211 kd211 fl_X10_99 dX10_here_39 ?_
    refine v_aload_n C 0 rfl dX10_here_42 ?_
    refine g9_8 C kb211 kd211 fl_X10_95 dX10_here_43 ?_
    obtain ⟨ca1, cb1, h⟩ := h
    have key1 : V w G 62 [(0, .ref (w.2.1 211))] (.int (if (M 211 8) ≤ (M 211 10) then (-1 : Int32) else M 215 (M 211 10).toNatClampNeg) :: []) M := by
      exact Rt _ _ _ _ dX10_here_62 h
    refine v_icmp_ge C 61 (by decide) dX10_here_46 (fun hc => ?_) (fun hc => ?_)
    · rw [show (if (M 211 8) ≤ (M 211 10) then (-1 : Int32) else M 215 (M 211 10).toNatClampNeg : Int32) = (-1 : Int32) from if_pos hc] at key1
      refine v_kc C (-1) (by decide) dX10_here_61 ?_
      exact key1
    · rw [show (if (M 211 8) ≤ (M 211 10) then (-1 : Int32) else M 215 (M 211 10).toNatClampNeg : Int32) = M 215 (M 211 10).toNatClampNeg from if_neg hc] at key1
      obtain ⟨q0, -⟩ := cb1 hc
      refine v_aload_n C 0 rfl dX10_here_49 ?_
      refine g9_7 C kb211 kd211 fl_X10_19 dX10_here_50 ?_
      refine v_aload_n C 0 rfl dX10_here_53 ?_
      refine g9_10 C kb211 kd211 fl_X10_99 dX10_here_54 ?_
      refine v_iald C kb215 kd215 ln215 q0 dX10_here_57 ?_
      refine v_goto C 62 (by decide) dX10_here_58 ?_
      exact key1
  · have h := h.2 hc
    refine v_aload_n C 0 rfl dX10_here_11 ?_
    refine g9_7 C kb211 kd211 fl_X10_19 dX10_here_12 ?_
    refine v_aload_n C 0 rfl dX10_here_15 ?_
    refine g9_10 C kb211 kd211 fl_X10_99 dX10_here_16 ?_
    obtain ⟨s2, h⟩ := h
    refine v_iald C kb215 kd215 ln215 s2 dX10_here_19 ?_
    refine v_kb C (32) (by decide) dX10_here_20 ?_
    refine v_icmp_ne C 38 (by decide) dX10_here_22 (fun hc => ?_) (fun hc => ?_)
    · have h := h.2 hc
      refine v_aload_n C 0 rfl dX10_here_38 ?_
      refine g9_10 C kb211 kd211 fl_X10_99 dX10_here_39 ?_
      refine v_aload_n C 0 rfl dX10_here_42 ?_
      refine g9_8 C kb211 kd211 fl_X10_95 dX10_here_43 ?_
      obtain ⟨ca3, cb3, h⟩ := h
      have key3 : V w G 62 [(0, .ref (w.2.1 211))] (.int (if (M 211 8) ≤ (M 211 10) then (-1 : Int32) else M 215 (M 211 10).toNatClampNeg) :: []) M := by
        exact Rt _ _ _ _ dX10_here_62 h
      refine v_icmp_ge C 61 (by decide) dX10_here_46 (fun hc => ?_) (fun hc => ?_)
      · rw [show (if (M 211 8) ≤ (M 211 10) then (-1 : Int32) else M 215 (M 211 10).toNatClampNeg : Int32) = (-1 : Int32) from if_pos hc] at key3
        refine v_kc C (-1) (by decide) dX10_here_61 ?_
        exact key3
      · rw [show (if (M 211 8) ≤ (M 211 10) then (-1 : Int32) else M 215 (M 211 10).toNatClampNeg : Int32) = M 215 (M 211 10).toNatClampNeg from if_neg hc] at key3
        obtain ⟨q0, -⟩ := cb3 hc
        refine v_aload_n C 0 rfl dX10_here_49 ?_
        refine g9_7 C kb211 kd211 fl_X10_19 dX10_here_50 ?_
        refine v_aload_n C 0 rfl dX10_here_53 ?_
        refine g9_10 C kb211 kd211 fl_X10_99 dX10_here_54 ?_
        refine v_iald C kb215 kd215 ln215 q0 dX10_here_57 ?_
        refine v_goto C 62 (by decide) dX10_here_58 ?_
        exact key3
    · have h := h.1 hc
      refine v_aload_n C 0 rfl dX10_here_25 ?_
      refine v_dup C rfl dX10_here_26 ?_
      refine g9_10 C kb211 kd211 fl_X10_99 dX10_here_27 ?_
      refine v_kc C (1) (by decide) dX10_here_30 ?_
      refine v_iadd C dX10_here_31 ?_
      refine p9_10 C kb211 kd211 fl_X10_99 dX10_here_32 (fun M4 e4 => ?_)
      have h := h M4 e4
      refine v_goto C 0 (by decide) dX10_here_35 ?_
      exact V.sub [0] rfl h
theorem mt_X10_here {w : Wx} {l : Launch} : Ct_X10_here w l := by
  intro M Q h
  refine met_i (by decide +kernel) (Nat.le_of_ble_eq_true rfl) (fun G C hG Rt => ?_)
  subst hG
  exact wk_X10_here C Rt M (h _ (fun M h => wk_X10_here_0 C Rt M h))
theorem ct_X10_here (w : Wx) (l : Launch) : Ct_X10_here w l := mt_X10_here
set_option maxRecDepth 4000 in
theorem wk_X10_fails {w : Wx} {G : Gx} {Q : Int32 → Mem → Prop} (C : Cx w G cX10_fails RX10 0 0 3) (Rt : ∀ (pc : Nat) (lv : List (Nat × Value)) (r0 : Int32) (M0 : Mem), decode cX10_fails pc = .ok (.ireturn, 1) → Q r0 M0 → V w G pc lv [.int r0] M0) (a1 : Int32) (a2 : Int32) (M : Mem) (h : bd_X10_fails Q a1 a2 M) : V w G 0 [(0, .ref (w.2.1 211)), (1, .int a1), (2, .int a2)] [] M := by
  unfold bd_X10_fails at h
  refine v_aload_n C 0 rfl dX10_fails_0 ?_
  refine v_iload_n C 2 rfl dX10_fails_1 ?_
  refine p9_9 C kb211 kd211 fl_X10_22 dX10_fails_2 (fun M1 e1 => ?_)
  have h := h M1 e1
  refine v_iload_n C 1 rfl dX10_fails_5 ?_
  exact Rt _ _ _ _ dX10_fails_6 h
theorem mt_X10_fails {w : Wx} {l : Launch} : Ct_X10_fails w l := by
  intro a1 a2 M Q h
  refine met_i (by decide +kernel) (Nat.le_of_ble_eq_true rfl) (fun G C hG Rt => ?_)
  subst hG
  exact wk_X10_fails C Rt a1 a2 M (h)
theorem ct_X10_fails (w : Wx) (l : Launch) : Ct_X10_fails w l := mt_X10_fails
set_option maxRecDepth 4000 in
theorem wk_X10_takeNumber {w : Wx} {G : Gx} {Q : Int32 → Mem → Prop} (C : Cx w G cX10_takeNumber RX10 1 25 4) (Rt : ∀ (pc : Nat) (lv : List (Nat × Value)) (r0 : Int32) (M0 : Mem), decode cX10_takeNumber pc = .ok (.ireturn, 1) → Q r0 M0 → V w G pc lv [.int r0] M0) (k_X10_here : Ct_X10_here w G.2.1) (k_X10_in : Ct_X10_in w G.2.1) (k_X10_fails : Ct_X10_fails w G.2.1) (a1 : Int32) (a2 : Int32) (M : Mem) (h : bd_X10_takeNumber Q (fun (M : Mem) => V w G 42 [(0, .ref (w.2.1 211)), (1, .int a1), (2, .int a2)] [] M) a1 a2 M) : V w G 0 [(0, .ref (w.2.1 211)), (1, .int a1), (2, .int a2)] [] M := by
  unfold bd_X10_takeNumber at h
  refine v_aload_n C 0 rfl dX10_takeNumber_0 ?_
  refine v_callI C [] (k_X10_here M _ h) yX10_here_k ml_X10_102 (rcv9 kb211 kd211) rfl rfl (Nat.le_of_ble_eq_true rfl) ⟨by decide, by decide⟩ dX10_takeNumber_1 (fun r1 M1 h => ?_)
  refine v_istore_n C [(3, .int r1), (0, .ref (w.2.1 211)), (1, .int a1), (2, .int a2)] rfl (by decide) dX10_takeNumber_4 ?_
  refine v_iload_n C 0 rfl dX10_takeNumber_5 ?_
  refine v_i2l C dX10_takeNumber_6 ?_
  refine v_ldc2 C kl_X10_106 dX10_takeNumber_7 ?_
  refine v_ldc2 C kl_X10_108 dX10_takeNumber_10 ?_
  refine v_callSI C [] (k_X10_in r1.toInt64 ((48 : Int64)) ((57 : Int64)) M1 _ h) yX10_in_k ml_X10_81 rfl rfl (Nat.le_of_ble_eq_true rfl) ⟨by decide, by decide⟩ dX10_takeNumber_13 (fun r2 M2 h => ?_)
  refine v_if_ne C 29 (by decide) dX10_takeNumber_16 (fun hc => ?_) (fun hc => ?_)
  · have h := h.2 hc
    refine v_aload_n C 1 rfl dX10_takeNumber_29 ?_
    refine v_aload_n C 1 rfl dX10_takeNumber_30 ?_
    refine g9_10 C kb211 kd211 fl_X10_99 dX10_takeNumber_31 ?_
    refine p9_12 C kb211 kd211 fl_X10_114 dX10_takeNumber_34 (fun M3 e3 => ?_)
    have h := h M3 e3
    refine v_aload_n C 1 rfl dX10_takeNumber_37 ?_
    refine v_kc C (0) (by decide) dX10_takeNumber_38 ?_
    refine p9_11 C kb211 kd211 fl_X10_117 dX10_takeNumber_39 (fun M4 e4 => ?_)
    have h := h M4 e4
    exact V.sub [1, 2, 3] rfl h
  · have h := h.1 hc
    refine v_aload_n C 1 rfl dX10_takeNumber_19 ?_
    refine v_kc C (1) (by decide) dX10_takeNumber_20 ?_
    refine v_aload_n C 1 rfl dX10_takeNumber_21 ?_
    refine g9_10 C kb211 kd211 fl_X10_99 dX10_takeNumber_22 ?_
    refine v_callI C [] (k_X10_fails ((1 : Int32)) (M2 211 10) M2 _ h) yX10_fails_k ml_X10_110 (rcv9 kb211 kd211) rfl rfl (Nat.le_of_ble_eq_true rfl) ⟨by decide, by decide⟩ dX10_takeNumber_25 (fun r5 M5 h => ?_)
    exact Rt _ _ _ _ dX10_takeNumber_28 h
set_option maxRecDepth 4000 in
theorem wk_X10_takeNumber_42 {w : Wx} {G : Gx} {Q : Int32 → Mem → Prop} (C : Cx w G cX10_takeNumber RX10 1 25 4) (Rt : ∀ (pc : Nat) (lv : List (Nat × Value)) (r0 : Int32) (M0 : Mem), decode cX10_takeNumber pc = .ok (.ireturn, 1) → Q r0 M0 → V w G pc lv [.int r0] M0) (k_X10_here : Ct_X10_here w G.2.1) (k_X10_in : Ct_X10_in w G.2.1) (k_X10_fails : Ct_X10_fails w G.2.1) (a1 : Int32) (a2 : Int32) (M : Mem) (h : bd_X10_takeNumber_42 Q (fun (M : Mem) => V w G 42 [(0, .ref (w.2.1 211)), (1, .int a1), (2, .int a2)] [] M) a1 a2 M) : V w G 42 [(0, .ref (w.2.1 211)), (1, .int a1), (2, .int a2)] [] M := by
  unfold bd_X10_takeNumber_42 at h
  refine v_aload_n C 0 rfl dX10_takeNumber_42 ?_
  refine g9_10 C kb211 kd211 fl_X10_99 dX10_takeNumber_43 ?_
  refine v_aload_n C 0 rfl dX10_takeNumber_46 ?_
  refine g9_8 C kb211 kd211 fl_X10_95 dX10_takeNumber_47 ?_
  refine v_icmp_ge C 128 (by decide) dX10_takeNumber_50 (fun hc => ?_) (fun hc => ?_)
  · have h := h.1 hc
    refine v_aload_n C 0 rfl dX10_takeNumber_128 ?_
    refine g9_10 C kb211 kd211 fl_X10_99 dX10_takeNumber_129 ?_
    refine v_aload_n C 0 rfl dX10_takeNumber_132 ?_
    refine g9_12 C kb211 kd211 fl_X10_114 dX10_takeNumber_133 ?_
    refine v_isub C dX10_takeNumber_136 ?_
    refine v_kb C (6) (by decide) dX10_takeNumber_137 ?_
    refine v_icmp_gt C 157 (by decide) dX10_takeNumber_139 (fun hc => ?_) (fun hc => ?_)
    · have h := h.1 hc
      refine v_aload_n C 0 rfl dX10_takeNumber_157 ?_
      refine v_kc C (2) (by decide) dX10_takeNumber_158 ?_
      refine v_aload_n C 0 rfl dX10_takeNumber_159 ?_
      refine g9_12 C kb211 kd211 fl_X10_114 dX10_takeNumber_160 ?_
      refine v_callI C [] (k_X10_fails ((2 : Int32)) (M 211 12) M _ h) yX10_fails_k ml_X10_110 (rcv9 kb211 kd211) rfl rfl (Nat.le_of_ble_eq_true rfl) ⟨by decide, by decide⟩ dX10_takeNumber_163 (fun r1 M1 h => ?_)
      refine v_goto C 170 (by decide) dX10_takeNumber_166 ?_
      exact Rt _ _ _ _ dX10_takeNumber_170 h
    · have h := h.2 hc
      refine v_aload_n C 0 rfl dX10_takeNumber_142 ?_
      refine g9_11 C kb211 kd211 fl_X10_117 dX10_takeNumber_143 ?_
      refine v_i2l C dX10_takeNumber_146 ?_
      refine v_iload_n C 1 rfl dX10_takeNumber_147 ?_
      refine v_i2l C dX10_takeNumber_148 ?_
      refine v_iload_n C 2 rfl dX10_takeNumber_149 ?_
      refine v_i2l C dX10_takeNumber_150 ?_
      refine v_callSI C [] (k_X10_in ((M 211 11).toInt64) a1.toInt64 a2.toInt64 M _ h) yX10_in_k ml_X10_81 rfl rfl (Nat.le_of_ble_eq_true rfl) ⟨by decide, by decide⟩ dX10_takeNumber_151 (fun r2 M2 h => ?_)
      refine v_if_ne C 169 (by decide) dX10_takeNumber_154 (fun hc => ?_) (fun hc => ?_)
      · have h := h.2 hc
        refine v_kc C (0) (by decide) dX10_takeNumber_169 ?_
        exact Rt _ _ _ _ dX10_takeNumber_170 h
      · have h := h.1 hc
        refine v_aload_n C 0 rfl dX10_takeNumber_157 ?_
        refine v_kc C (2) (by decide) dX10_takeNumber_158 ?_
        refine v_aload_n C 0 rfl dX10_takeNumber_159 ?_
        refine g9_12 C kb211 kd211 fl_X10_114 dX10_takeNumber_160 ?_
        refine v_callI C [] (k_X10_fails ((2 : Int32)) (M2 211 12) M2 _ h) yX10_fails_k ml_X10_110 (rcv9 kb211 kd211) rfl rfl (Nat.le_of_ble_eq_true rfl) ⟨by decide, by decide⟩ dX10_takeNumber_163 (fun r3 M3 h => ?_)
        refine v_goto C 170 (by decide) dX10_takeNumber_166 ?_
        exact Rt _ _ _ _ dX10_takeNumber_170 h
  · have h := h.2 hc
    refine v_aload_n C 0 rfl dX10_takeNumber_53 ?_
    refine g9_7 C kb211 kd211 fl_X10_19 dX10_takeNumber_54 ?_
    refine v_aload_n C 0 rfl dX10_takeNumber_57 ?_
    refine g9_10 C kb211 kd211 fl_X10_99 dX10_takeNumber_58 ?_
    obtain ⟨s4, h⟩ := h
    refine v_iald C kb215 kd215 ln215 s4 dX10_takeNumber_61 ?_
    refine v_i2l C dX10_takeNumber_62 ?_
    refine v_ldc2 C kl_X10_106 dX10_takeNumber_63 ?_
    refine v_ldc2 C kl_X10_108 dX10_takeNumber_66 ?_
    refine v_callSI C [] (k_X10_in ((M 215 (M 211 10).toNatClampNeg).toInt64) ((48 : Int64)) ((57 : Int64)) M _ h) yX10_in_k ml_X10_81 rfl rfl (Nat.le_of_ble_eq_true rfl) ⟨by decide, by decide⟩ dX10_takeNumber_69 (fun r5 M5 h => ?_)
    refine v_if_eq C 128 (by decide) dX10_takeNumber_72 (fun hc => ?_) (fun hc => ?_)
    · have h := h.1 hc
      refine v_aload_n C 0 rfl dX10_takeNumber_128 ?_
      refine g9_10 C kb211 kd211 fl_X10_99 dX10_takeNumber_129 ?_
      refine v_aload_n C 0 rfl dX10_takeNumber_132 ?_
      refine g9_12 C kb211 kd211 fl_X10_114 dX10_takeNumber_133 ?_
      refine v_isub C dX10_takeNumber_136 ?_
      refine v_kb C (6) (by decide) dX10_takeNumber_137 ?_
      refine v_icmp_gt C 157 (by decide) dX10_takeNumber_139 (fun hc => ?_) (fun hc => ?_)
      · have h := h.1 hc
        refine v_aload_n C 0 rfl dX10_takeNumber_157 ?_
        refine v_kc C (2) (by decide) dX10_takeNumber_158 ?_
        refine v_aload_n C 0 rfl dX10_takeNumber_159 ?_
        refine g9_12 C kb211 kd211 fl_X10_114 dX10_takeNumber_160 ?_
        refine v_callI C [] (k_X10_fails ((2 : Int32)) (M5 211 12) M5 _ h) yX10_fails_k ml_X10_110 (rcv9 kb211 kd211) rfl rfl (Nat.le_of_ble_eq_true rfl) ⟨by decide, by decide⟩ dX10_takeNumber_163 (fun r6 M6 h => ?_)
        refine v_goto C 170 (by decide) dX10_takeNumber_166 ?_
        exact Rt _ _ _ _ dX10_takeNumber_170 h
      · have h := h.2 hc
        refine v_aload_n C 0 rfl dX10_takeNumber_142 ?_
        refine g9_11 C kb211 kd211 fl_X10_117 dX10_takeNumber_143 ?_
        refine v_i2l C dX10_takeNumber_146 ?_
        refine v_iload_n C 1 rfl dX10_takeNumber_147 ?_
        refine v_i2l C dX10_takeNumber_148 ?_
        refine v_iload_n C 2 rfl dX10_takeNumber_149 ?_
        refine v_i2l C dX10_takeNumber_150 ?_
        refine v_callSI C [] (k_X10_in ((M5 211 11).toInt64) a1.toInt64 a2.toInt64 M5 _ h) yX10_in_k ml_X10_81 rfl rfl (Nat.le_of_ble_eq_true rfl) ⟨by decide, by decide⟩ dX10_takeNumber_151 (fun r7 M7 h => ?_)
        refine v_if_ne C 169 (by decide) dX10_takeNumber_154 (fun hc => ?_) (fun hc => ?_)
        · have h := h.2 hc
          refine v_kc C (0) (by decide) dX10_takeNumber_169 ?_
          exact Rt _ _ _ _ dX10_takeNumber_170 h
        · have h := h.1 hc
          refine v_aload_n C 0 rfl dX10_takeNumber_157 ?_
          refine v_kc C (2) (by decide) dX10_takeNumber_158 ?_
          refine v_aload_n C 0 rfl dX10_takeNumber_159 ?_
          refine g9_12 C kb211 kd211 fl_X10_114 dX10_takeNumber_160 ?_
          refine v_callI C [] (k_X10_fails ((2 : Int32)) (M7 211 12) M7 _ h) yX10_fails_k ml_X10_110 (rcv9 kb211 kd211) rfl rfl (Nat.le_of_ble_eq_true rfl) ⟨by decide, by decide⟩ dX10_takeNumber_163 (fun r8 M8 h => ?_)
          refine v_goto C 170 (by decide) dX10_takeNumber_166 ?_
          exact Rt _ _ _ _ dX10_takeNumber_170 h
    · have h := h.2 hc
      refine v_aload_n C 0 rfl dX10_takeNumber_75 ?_
      refine v_aload_n C 0 rfl dX10_takeNumber_76 ?_
      refine g9_11 C kb211 kd211 fl_X10_117 dX10_takeNumber_77 ?_
      refine v_ldc C kc_X10_120 dX10_takeNumber_80 ?_
      obtain ⟨ca9, cb9, h⟩ := h
      have key9 : V w G 112 [(0, .ref (w.2.1 211)), (1, .int a1), (2, .int a2)] (.int (if (M5 211 11) ≤ ((10000000 : Int32)) then ((((10 : Int32)) * (M5 211 11)) + (M5 215 (M5 211 10).toNatClampNeg)) - ((48 : Int32)) else M5 211 11) :: .ref (w.2.1 211) :: []) M5 := by
        refine p9_11 C kb211 kd211 fl_X10_117 dX10_takeNumber_112 (fun M10 e10 => ?_)
        have h := h M10 e10
        refine v_aload_n C 0 rfl dX10_takeNumber_115 ?_
        refine v_dup C rfl dX10_takeNumber_116 ?_
        refine g9_10 C kb211 kd211 fl_X10_99 dX10_takeNumber_117 ?_
        refine v_kc C (1) (by decide) dX10_takeNumber_120 ?_
        refine v_iadd C dX10_takeNumber_121 ?_
        refine p9_10 C kb211 kd211 fl_X10_99 dX10_takeNumber_122 (fun M11 e11 => ?_)
        have h := h M11 e11
        refine v_goto C 42 (by decide) dX10_takeNumber_125 ?_
        exact V.sub [0, 1, 2] rfl h
      refine v_icmp_le C 92 (by decide) dX10_takeNumber_82 (fun hc => ?_) (fun hc => ?_)
      · rw [show (if (M5 211 11) ≤ ((10000000 : Int32)) then ((((10 : Int32)) * (M5 211 11)) + (M5 215 (M5 211 10).toNatClampNeg)) - ((48 : Int32)) else M5 211 11 : Int32) = ((((10 : Int32)) * (M5 211 11)) + (M5 215 (M5 211 10).toNatClampNeg)) - ((48 : Int32)) from if_pos hc] at key9
        obtain ⟨q0, -⟩ := ca9 hc
        refine v_kb C (10) (by decide) dX10_takeNumber_92 ?_
        refine v_aload_n C 0 rfl dX10_takeNumber_94 ?_
        refine g9_11 C kb211 kd211 fl_X10_117 dX10_takeNumber_95 ?_
        refine v_imul C dX10_takeNumber_98 ?_
        refine v_aload_n C 0 rfl dX10_takeNumber_99 ?_
        refine g9_7 C kb211 kd211 fl_X10_19 dX10_takeNumber_100 ?_
        refine v_aload_n C 0 rfl dX10_takeNumber_103 ?_
        refine g9_10 C kb211 kd211 fl_X10_99 dX10_takeNumber_104 ?_
        refine v_iald C kb215 kd215 ln215 q0 dX10_takeNumber_107 ?_
        refine v_iadd C dX10_takeNumber_108 ?_
        refine v_kb C (48) (by decide) dX10_takeNumber_109 ?_
        refine v_isub C dX10_takeNumber_111 ?_
        exact key9
      · rw [show (if (M5 211 11) ≤ ((10000000 : Int32)) then ((((10 : Int32)) * (M5 211 11)) + (M5 215 (M5 211 10).toNatClampNeg)) - ((48 : Int32)) else M5 211 11 : Int32) = M5 211 11 from if_neg hc] at key9
        refine v_aload_n C 0 rfl dX10_takeNumber_85 ?_
        refine g9_11 C kb211 kd211 fl_X10_117 dX10_takeNumber_86 ?_
        refine v_goto C 112 (by decide) dX10_takeNumber_89 ?_
        exact key9
theorem mt_X10_takeNumber {w : Wx} {l : Launch} (k_X10_here : Ct_X10_here w l) (k_X10_in : Ct_X10_in w l) (k_X10_fails : Ct_X10_fails w l) : Ct_X10_takeNumber w l := by
  intro a1 a2 M Q h
  refine met_i (by decide +kernel) (Nat.le_of_ble_eq_true rfl) (fun G C hG Rt => ?_)
  subst hG
  exact wk_X10_takeNumber C Rt k_X10_here k_X10_in k_X10_fails a1 a2 M (h _ (fun M h => wk_X10_takeNumber_42 C Rt k_X10_here k_X10_in k_X10_fails a1 a2 M h))
theorem ct_X10_takeNumber (w : Wx) (l : Launch) : Ct_X10_takeNumber w l := mt_X10_takeNumber (ct_X10_here w l) (ct_X10_in w l) (ct_X10_fails w l)
set_option maxRecDepth 4000 in
theorem wk_X10_takeFollows {w : Wx} {G : Gx} {Q : Int32 → Mem → Prop} (C : Cx w G cX10_takeFollows RX10 2 48 3) (Rt : ∀ (pc : Nat) (lv : List (Nat × Value)) (r0 : Int32) (M0 : Mem), decode cX10_takeFollows pc = .ok (.ireturn, 1) → Q r0 M0 → V w G pc lv [.int r0] M0) (k_X10_takeNumber : Ct_X10_takeNumber w G.2.1) (k_X10_fails : Ct_X10_fails w G.2.1) (M : Mem) (h : bd_X10_takeFollows Q M) : V w G 0 [(0, .ref (w.2.1 211))] [] M := by
  unfold bd_X10_takeFollows at h
  refine v_aload_n C 0 rfl dX10_takeFollows_0 ?_
  refine v_kc C (0) (by decide) dX10_takeFollows_1 ?_
  refine v_aload_n C 0 rfl dX10_takeFollows_2 ?_
  refine g9_14 C kb211 kd211 fl_X10_128 dX10_takeFollows_3 ?_
  refine v_kc C (1) (by decide) dX10_takeFollows_6 ?_
  refine v_isub C dX10_takeFollows_7 ?_
  refine v_callI C [] (k_X10_takeNumber ((0 : Int32)) ((M 211 14) - ((1 : Int32))) M _ h) yX10_takeNumber_k ml_X10_121 (rcv9 kb211 kd211) rfl rfl (Nat.le_of_ble_eq_true rfl) ⟨by decide, by decide⟩ dX10_takeFollows_8 (fun r1 M1 h => ?_)
  refine v_istore_n C [(1, .int r1), (0, .ref (w.2.1 211))] rfl (by decide) dX10_takeFollows_11 ?_
  refine v_iload_n C 0 rfl dX10_takeFollows_12 ?_
  refine v_if_le C 18 (by decide) dX10_takeFollows_13 (fun hc => ?_) (fun hc => ?_)
  · have h := h.1 hc
    refine v_aload_n C 1 rfl dX10_takeFollows_18 ?_
    refine g9_11 C kb211 kd211 fl_X10_117 dX10_takeFollows_19 ?_
    refine v_istore_n C [(2, .int (M1 211 11)), (1, .int r1), (0, .ref (w.2.1 211))] rfl (by decide) dX10_takeFollows_22 ?_
    refine v_aload_n C 2 rfl dX10_takeFollows_23 ?_
    refine g9_18 C kb211 kd211 fl_X10_38 dX10_takeFollows_24 ?_
    refine v_iload_n C 0 rfl dX10_takeFollows_27 ?_
    obtain ⟨s2, h⟩ := h
    refine v_iald C kb220 kd220 ln220 s2 dX10_takeFollows_28 ?_
    refine v_if_lt C 42 (by decide) dX10_takeFollows_29 (fun hc => ?_) (fun hc => ?_)
    · have h := h.1 hc
      refine v_aload_n C 2 rfl dX10_takeFollows_42 ?_
      refine v_kc C (0) (by decide) dX10_takeFollows_43 ?_
      refine v_aload_n C 2 rfl dX10_takeFollows_44 ?_
      refine g9_14 C kb211 kd211 fl_X10_128 dX10_takeFollows_45 ?_
      refine v_kc C (1) (by decide) dX10_takeFollows_48 ?_
      refine v_isub C dX10_takeFollows_49 ?_
      refine v_callI C [] (k_X10_takeNumber ((0 : Int32)) ((M1 211 14) - ((1 : Int32))) M1 _ h) yX10_takeNumber_k ml_X10_121 (rcv9 kb211 kd211) rfl rfl (Nat.le_of_ble_eq_true rfl) ⟨by decide, by decide⟩ dX10_takeFollows_50 (fun r3 M3 h => ?_)
      refine v_istore_n C [(1, .int r3), (2, .int (M1 211 11)), (0, .ref (w.2.1 211))] rfl (by decide) dX10_takeFollows_53 ?_
      refine v_iload_n C 0 rfl dX10_takeFollows_54 ?_
      refine v_if_ne C 76 (by decide) dX10_takeFollows_55 (fun hc => ?_) (fun hc => ?_)
      · have h := h.2 hc
        refine v_iload_n C 0 rfl dX10_takeFollows_76 ?_
        refine v_if_ne C 90 (by decide) dX10_takeFollows_77 (fun hc => ?_) (fun hc => ?_)
        · have h := h.2 hc
          refine v_iload_n C 0 rfl dX10_takeFollows_90 ?_
          exact Rt _ _ _ _ dX10_takeFollows_91 h
        · have h := h.1 hc
          refine v_aload_n C 2 rfl dX10_takeFollows_80 ?_
          refine g9_18 C kb211 kd211 fl_X10_38 dX10_takeFollows_81 ?_
          refine v_iload_n C 1 rfl dX10_takeFollows_84 ?_
          refine v_aload_n C 2 rfl dX10_takeFollows_85 ?_
          refine g9_11 C kb211 kd211 fl_X10_117 dX10_takeFollows_86 ?_
          obtain ⟨s4, h⟩ := h
          refine v_iast C kb220 kd220 ln220 s4 dX10_takeFollows_89 (fun M5 e5 => ?_)
          have h := h M5 e5
          refine v_iload_n C 0 rfl dX10_takeFollows_90 ?_
          exact Rt _ _ _ _ dX10_takeFollows_91 h
      · have h := h.1 hc
        refine v_aload_n C 2 rfl dX10_takeFollows_58 ?_
        refine g9_11 C kb211 kd211 fl_X10_117 dX10_takeFollows_59 ?_
        refine v_iload_n C 1 rfl dX10_takeFollows_62 ?_
        refine v_icmp_ne C 76 (by decide) dX10_takeFollows_63 (fun hc => ?_) (fun hc => ?_)
        · have h := h.2 hc
          refine v_iload_n C 0 rfl dX10_takeFollows_76 ?_
          refine v_if_ne C 90 (by decide) dX10_takeFollows_77 (fun hc => ?_) (fun hc => ?_)
          · have h := h.2 hc
            refine v_iload_n C 0 rfl dX10_takeFollows_90 ?_
            exact Rt _ _ _ _ dX10_takeFollows_91 h
          · have h := h.1 hc
            refine v_aload_n C 2 rfl dX10_takeFollows_80 ?_
            refine g9_18 C kb211 kd211 fl_X10_38 dX10_takeFollows_81 ?_
            refine v_iload_n C 1 rfl dX10_takeFollows_84 ?_
            refine v_aload_n C 2 rfl dX10_takeFollows_85 ?_
            refine g9_11 C kb211 kd211 fl_X10_117 dX10_takeFollows_86 ?_
            obtain ⟨s6, h⟩ := h
            refine v_iast C kb220 kd220 ln220 s6 dX10_takeFollows_89 (fun M7 e7 => ?_)
            have h := h M7 e7
            refine v_iload_n C 0 rfl dX10_takeFollows_90 ?_
            exact Rt _ _ _ _ dX10_takeFollows_91 h
        · have h := h.1 hc
          refine v_aload_n C 2 rfl dX10_takeFollows_66 ?_
          refine v_kc C (4) (by decide) dX10_takeFollows_67 ?_
          refine v_aload_n C 2 rfl dX10_takeFollows_68 ?_
          refine g9_12 C kb211 kd211 fl_X10_114 dX10_takeFollows_69 ?_
          refine v_callI C [] (k_X10_fails ((4 : Int32)) (M3 211 12) M3 _ h) yX10_fails_k ml_X10_110 (rcv9 kb211 kd211) rfl rfl (Nat.le_of_ble_eq_true rfl) ⟨by decide, by decide⟩ dX10_takeFollows_72 (fun r8 M8 h => ?_)
          exact Rt _ _ _ _ dX10_takeFollows_75 h
    · have h := h.2 hc
      refine v_aload_n C 2 rfl dX10_takeFollows_32 ?_
      refine v_kc C (4) (by decide) dX10_takeFollows_33 ?_
      refine v_aload_n C 2 rfl dX10_takeFollows_34 ?_
      refine g9_12 C kb211 kd211 fl_X10_114 dX10_takeFollows_35 ?_
      refine v_callI C [] (k_X10_fails ((4 : Int32)) (M1 211 12) M1 _ h) yX10_fails_k ml_X10_110 (rcv9 kb211 kd211) rfl rfl (Nat.le_of_ble_eq_true rfl) ⟨by decide, by decide⟩ dX10_takeFollows_38 (fun r9 M9 h => ?_)
      exact Rt _ _ _ _ dX10_takeFollows_41 h
  · have h := h.2 hc
    refine v_iload_n C 0 rfl dX10_takeFollows_16 ?_
    exact Rt _ _ _ _ dX10_takeFollows_17 h
theorem mt_X10_takeFollows {w : Wx} {l : Launch} (k_X10_takeNumber : Ct_X10_takeNumber w l) (k_X10_fails : Ct_X10_fails w l) : Ct_X10_takeFollows w l := by
  intro M Q h
  refine met_i (by decide +kernel) (Nat.le_of_ble_eq_true rfl) (fun G C hG Rt => ?_)
  subst hG
  exact wk_X10_takeFollows C Rt k_X10_takeNumber k_X10_fails M (h)
theorem ct_X10_takeFollows (w : Wx) (l : Launch) : Ct_X10_takeFollows w l := mt_X10_takeFollows (ct_X10_takeNumber w l) (ct_X10_fails w l)
set_option maxRecDepth 4000 in
theorem wk_X10_into {w : Wx} {G : Gx} {Q : Int32 → Mem → Prop} (C : Cx w G cX10_into RX10 2 48 6) (Rt : ∀ (pc : Nat) (lv : List (Nat × Value)) (r0 : Int32) (M0 : Mem), decode cX10_into pc = .ok (.ireturn, 1) → Q r0 M0 → V w G pc lv [.int r0] M0) (k_X10_takeNumber : Ct_X10_takeNumber w G.2.1) (d : Nat) (a2 : Int32) (a3 : Int32) (a4 : Int32) (hd : d < 233 ∧ kd d = 10) (M : Mem) (h : bd_X10_into Q d a2 a3 a4 M) : V w G 0 [(0, .ref (w.2.1 211)), (1, .ref (w.2.1 d)), (2, .int a2), (3, .int a3), (4, .int a4)] [] M := by
  unfold bd_X10_into at h
  refine v_aload_n C 0 rfl dX10_into_0 ?_
  refine v_iload_n C 3 rfl dX10_into_1 ?_
  refine v_iload C 4 rfl dX10_into_2 ?_
  refine v_callI C [] (k_X10_takeNumber a3 a4 M _ h) yX10_takeNumber_k ml_X10_121 (rcv9 kb211 kd211) rfl rfl (Nat.le_of_ble_eq_true rfl) ⟨by decide, by decide⟩ dX10_into_4 (fun r1 M1 h => ?_)
  refine v_istore C [(5, .int r1), (0, .ref (w.2.1 211)), (1, .ref (w.2.1 d)), (2, .int a2), (3, .int a3), (4, .int a4)] rfl (by decide) dX10_into_7 ?_
  refine v_aload_n C 2 rfl dX10_into_9 ?_
  refine v_iload_n C 3 rfl dX10_into_10 ?_
  refine v_aload_n C 1 rfl dX10_into_11 ?_
  refine g9_11 C kb211 kd211 fl_X10_117 dX10_into_12 ?_
  obtain ⟨s2, h⟩ := h
  refine v_iast C hd.1 hd.2 rfl s2 dX10_into_15 (fun M3 e3 => ?_)
  have h := h M3 e3
  refine v_iload C 0 rfl dX10_into_16 ?_
  exact Rt _ _ _ _ dX10_into_18 h
theorem mt_X10_into {w : Wx} {l : Launch} (k_X10_takeNumber : Ct_X10_takeNumber w l) : Ct_X10_into w l := by
  intro d a2 a3 a4 M hd Q h
  refine met_i (by decide +kernel) (Nat.le_of_ble_eq_true rfl) (fun G C hG Rt => ?_)
  subst hG
  exact wk_X10_into C Rt k_X10_takeNumber d a2 a3 a4 hd M (h)
theorem ct_X10_into (w : Wx) (l : Launch) : Ct_X10_into w l := mt_X10_into (ct_X10_takeNumber w l)
set_option maxRecDepth 4000 in
theorem wk_X10_takeCar {w : Wx} {G : Gx} {Q : Int32 → Mem → Prop} (C : Cx w G cX10_takeCar RX10 3 73 5) (Rt : ∀ (pc : Nat) (lv : List (Nat × Value)) (r0 : Int32) (M0 : Mem), decode cX10_takeCar pc = .ok (.ireturn, 1) → Q r0 M0 → V w G pc lv [.int r0] M0) (k_X10_into : Ct_X10_into w G.2.1) (k_X10_takeNumber : Ct_X10_takeNumber w G.2.1) (k_X10_in : Ct_X10_in w G.2.1) (k_X10_fails : Ct_X10_fails w G.2.1) (M : Mem) (h : bd_X10_takeCar Q (fun (x1 : Int32) (x3 : Int32) (M : Mem) => V w G 80 [(0, .ref (w.2.1 211)), (1, .int x1), (3, .int x3)] [] M) M) : V w G 0 [(0, .ref (w.2.1 211))] [] M := by
  unfold bd_X10_takeCar at h
  refine v_aload_n C 0 rfl dX10_takeCar_0 ?_
  refine g9_14 C kb211 kd211 fl_X10_128 dX10_takeCar_1 ?_
  refine v_istore_n C [(1, .int (M 211 14)), (0, .ref (w.2.1 211))] rfl (by decide) dX10_takeCar_4 ?_
  refine v_aload_n C 1 rfl dX10_takeCar_5 ?_
  refine v_dup C rfl dX10_takeCar_6 ?_
  refine g9_14 C kb211 kd211 fl_X10_128 dX10_takeCar_7 ?_
  refine v_kc C (1) (by decide) dX10_takeCar_10 ?_
  refine v_iadd C dX10_takeCar_11 ?_
  refine p9_14 C kb211 kd211 fl_X10_128 dX10_takeCar_12 (fun M1 e1 => ?_)
  have h := h M1 e1
  refine v_aload_n C 1 rfl dX10_takeCar_15 ?_
  refine g9_18 C kb211 kd211 fl_X10_38 dX10_takeCar_16 ?_
  refine v_iload_n C 0 rfl dX10_takeCar_19 ?_
  refine v_kc C (-1) (by decide) dX10_takeCar_20 ?_
  obtain ⟨s2, h⟩ := h
  refine v_iast C kb220 kd220 ln220 s2 dX10_takeCar_21 (fun M3 e3 => ?_)
  have h := h M3 e3
  refine v_aload_n C 1 rfl dX10_takeCar_22 ?_
  refine v_aload_n C 1 rfl dX10_takeCar_23 ?_
  refine g9_15 C kb211 kd211 fl_X10_29 dX10_takeCar_24 ?_
  refine v_iload_n C 0 rfl dX10_takeCar_27 ?_
  refine v_kc C (0) (by decide) dX10_takeCar_28 ?_
  refine v_aload_n C 1 rfl dX10_takeCar_29 ?_
  refine g9_13 C kb211 kd211 fl_X10_26 dX10_takeCar_30 ?_
  refine v_kc C (0) (by decide) dX10_takeCar_33 ?_
  obtain ⟨s4, h⟩ := h
  refine v_iald C kb216 kd216 ln216 s4 dX10_takeCar_34 ?_
  refine v_kc C (1) (by decide) dX10_takeCar_35 ?_
  refine v_isub C dX10_takeCar_36 ?_
  refine v_callI C [] (k_X10_into 217 (M 211 14) ((0 : Int32)) ((M3 216 ((0 : Int32)).toNatClampNeg) - ((1 : Int32))) M3 ⟨kb217, kd217⟩ _ h) yX10_into_k ml_X10_124 (rcv9 kb211 kd211) rfl rfl (Nat.le_of_ble_eq_true rfl) ⟨by decide, by decide⟩ dX10_takeCar_37 (fun r5 M5 h => ?_)
  refine v_istore_n C [(2, .int r5), (1, .int (M 211 14)), (0, .ref (w.2.1 211))] rfl (by decide) dX10_takeCar_40 ?_
  refine v_iload_n C 0 rfl dX10_takeCar_41 ?_
  refine v_if_le C 49 (by decide) dX10_takeCar_42 (fun hc => ?_) (fun hc => ?_)
  · have h := h.1 hc
    refine v_aload_n C 2 rfl dX10_takeCar_49 ?_
    refine v_kc C (0) (by decide) dX10_takeCar_50 ?_
    refine v_ldc C kc_X10_131 dX10_takeCar_51 ?_
    refine v_callI C [] (k_X10_takeNumber ((0 : Int32)) ((999999 : Int32)) M5 _ h) yX10_takeNumber_k ml_X10_121 (rcv9 kb211 kd211) rfl rfl (Nat.le_of_ble_eq_true rfl) ⟨by decide, by decide⟩ dX10_takeCar_53 (fun r6 M6 h => ?_)
    refine v_istore_n C [(2, .int r6), (1, .int (M 211 14)), (0, .ref (w.2.1 211))] rfl (by decide) dX10_takeCar_56 ?_
    refine v_iload_n C 0 rfl dX10_takeCar_57 ?_
    refine v_if_le C 63 (by decide) dX10_takeCar_58 (fun hc => ?_) (fun hc => ?_)
    · have h := h.1 hc
      refine v_aload_n C 2 rfl dX10_takeCar_63 ?_
      refine g9_17 C kb211 kd211 fl_X10_35 dX10_takeCar_64 ?_
      refine v_iload_n C 1 rfl dX10_takeCar_67 ?_
      refine v_aload_n C 2 rfl dX10_takeCar_68 ?_
      refine g9_10 C kb211 kd211 fl_X10_99 dX10_takeCar_69 ?_
      refine v_aload_n C 2 rfl dX10_takeCar_72 ?_
      refine g9_12 C kb211 kd211 fl_X10_114 dX10_takeCar_73 ?_
      refine v_isub C dX10_takeCar_76 ?_
      obtain ⟨s7, h⟩ := h
      refine v_iast C kb219 kd219 ln219 s7 dX10_takeCar_77 (fun M8 e8 => ?_)
      have h := h M8 e8
      refine v_kc C (0) (by decide) dX10_takeCar_78 ?_
      refine v_istore_n C [(3, .int ((0 : Int32))), (2, .int r6), (1, .int (M 211 14)), (0, .ref (w.2.1 211))] rfl (by decide) dX10_takeCar_79 ?_
      exact V.sub [3, 2, 0] rfl h
    · have h := h.2 hc
      refine v_iload_n C 0 rfl dX10_takeCar_61 ?_
      exact Rt _ _ _ _ dX10_takeCar_62 h
  · have h := h.2 hc
    refine v_iload_n C 0 rfl dX10_takeCar_45 ?_
    refine v_goto C 56 (by decide) dX10_takeCar_46 ?_
    refine v_istore_n C [(2, .int r5), (1, .int (M 211 14)), (0, .ref (w.2.1 211))] rfl (by decide) dX10_takeCar_56 ?_
    refine v_iload_n C 0 rfl dX10_takeCar_57 ?_
    refine v_if_le C 63 (by decide) dX10_takeCar_58 (fun hc => ?_) (fun hc => ?_)
    · have h := h.1 hc
      refine v_aload_n C 2 rfl dX10_takeCar_63 ?_
      refine g9_17 C kb211 kd211 fl_X10_35 dX10_takeCar_64 ?_
      refine v_iload_n C 1 rfl dX10_takeCar_67 ?_
      refine v_aload_n C 2 rfl dX10_takeCar_68 ?_
      refine g9_10 C kb211 kd211 fl_X10_99 dX10_takeCar_69 ?_
      refine v_aload_n C 2 rfl dX10_takeCar_72 ?_
      refine g9_12 C kb211 kd211 fl_X10_114 dX10_takeCar_73 ?_
      refine v_isub C dX10_takeCar_76 ?_
      obtain ⟨s9, h⟩ := h
      refine v_iast C kb219 kd219 ln219 s9 dX10_takeCar_77 (fun M10 e10 => ?_)
      have h := h M10 e10
      refine v_kc C (0) (by decide) dX10_takeCar_78 ?_
      refine v_istore_n C [(3, .int ((0 : Int32))), (2, .int r5), (1, .int (M 211 14)), (0, .ref (w.2.1 211))] rfl (by decide) dX10_takeCar_79 ?_
      exact V.sub [3, 2, 0] rfl h
    · have h := h.2 hc
      refine v_iload_n C 0 rfl dX10_takeCar_61 ?_
      exact Rt _ _ _ _ dX10_takeCar_62 h
set_option maxRecDepth 4000 in
theorem wk_X10_takeCar_80 {w : Wx} {G : Gx} {Q : Int32 → Mem → Prop} (C : Cx w G cX10_takeCar RX10 3 73 5) (Rt : ∀ (pc : Nat) (lv : List (Nat × Value)) (r0 : Int32) (M0 : Mem), decode cX10_takeCar pc = .ok (.ireturn, 1) → Q r0 M0 → V w G pc lv [.int r0] M0) (k_X10_into : Ct_X10_into w G.2.1) (k_X10_takeNumber : Ct_X10_takeNumber w G.2.1) (k_X10_in : Ct_X10_in w G.2.1) (k_X10_fails : Ct_X10_fails w G.2.1) (x1 : Int32) (x3 : Int32) (M : Mem) (h : bd_X10_takeCar_80 Q (fun (x1 : Int32) (x3 : Int32) (M : Mem) => V w G 80 [(0, .ref (w.2.1 211)), (1, .int x1), (3, .int x3)] [] M) x1 x3 M) : V w G 80 [(0, .ref (w.2.1 211)), (1, .int x1), (3, .int x3)] [] M := by
  unfold bd_X10_takeCar_80 at h
  refine v_iload_n C 2 rfl dX10_takeCar_80 ?_
  refine v_aload_n C 0 rfl dX10_takeCar_81 ?_
  refine g9_17 C kb211 kd211 fl_X10_35 dX10_takeCar_82 ?_
  refine v_iload_n C 1 rfl dX10_takeCar_85 ?_
  obtain ⟨s1, h⟩ := h
  refine v_iald C kb219 kd219 ln219 s1 dX10_takeCar_86 ?_
  refine v_icmp_ge C 154 (by decide) dX10_takeCar_87 (fun hc => ?_) (fun hc => ?_)
  · have h := h.1 hc
    refine v_kc C (0) (by decide) dX10_takeCar_154 ?_
    exact Rt _ _ _ _ dX10_takeCar_155 h
  · have h := h.2 hc
    refine v_aload_n C 0 rfl dX10_takeCar_90 ?_
    refine g9_7 C kb211 kd211 fl_X10_19 dX10_takeCar_91 ?_
    refine v_aload_n C 0 rfl dX10_takeCar_94 ?_
    refine g9_12 C kb211 kd211 fl_X10_114 dX10_takeCar_95 ?_
    refine v_iload_n C 2 rfl dX10_takeCar_98 ?_
    refine v_iadd C dX10_takeCar_99 ?_
    obtain ⟨s2, h⟩ := h
    refine v_iald C kb215 kd215 ln215 s2 dX10_takeCar_100 ?_
    refine v_kb C (49) (by decide) dX10_takeCar_101 ?_
    refine v_isub C dX10_takeCar_103 ?_
    refine v_istore C [(4, .int ((M 215 ((M 211 12) + x3).toNatClampNeg) - ((49 : Int32)))), (0, .ref (w.2.1 211)), (1, .int x1), (3, .int x3)] rfl (by decide) dX10_takeCar_104 ?_
    refine v_iload C 0 rfl dX10_takeCar_106 ?_
    refine v_i2l C dX10_takeCar_108 ?_
    refine v_lconst C 0 (by decide) dX10_takeCar_109 ?_
    refine v_aload_n C 1 rfl dX10_takeCar_110 ?_
    refine g9_13 C kb211 kd211 fl_X10_26 dX10_takeCar_111 ?_
    refine v_kc C (0) (by decide) dX10_takeCar_114 ?_
    obtain ⟨s3, h⟩ := h
    refine v_iald C kb216 kd216 ln216 s3 dX10_takeCar_115 ?_
    refine v_kc C (1) (by decide) dX10_takeCar_116 ?_
    refine v_isub C dX10_takeCar_117 ?_
    refine v_i2l C dX10_takeCar_118 ?_
    refine v_callSI C [] (k_X10_in (((M 215 ((M 211 12) + x3).toNatClampNeg) - ((49 : Int32))).toInt64) ((0 : Int64)) (((M 216 ((0 : Int32)).toNatClampNeg) - ((1 : Int32))).toInt64) M _ h) yX10_in_k ml_X10_81 rfl rfl (Nat.le_of_ble_eq_true rfl) ⟨by decide, by decide⟩ dX10_takeCar_119 (fun r4 M4 h => ?_)
    refine v_if_ne C 135 (by decide) dX10_takeCar_122 (fun hc => ?_) (fun hc => ?_)
    · have h := h.2 hc
      refine v_aload_n C 1 rfl dX10_takeCar_135 ?_
      refine g9_16 C kb211 kd211 fl_X10_32 dX10_takeCar_136 ?_
      refine v_kb C (6) (by decide) dX10_takeCar_139 ?_
      refine v_iload_n C 2 rfl dX10_takeCar_141 ?_
      refine v_imul C dX10_takeCar_142 ?_
      refine v_iload_n C 3 rfl dX10_takeCar_143 ?_
      refine v_iadd C dX10_takeCar_144 ?_
      refine v_iload C 0 rfl dX10_takeCar_145 ?_
      obtain ⟨s5, h⟩ := h
      refine v_iast C kb218 kd218 ln218 s5 dX10_takeCar_147 (fun M6 e6 => ?_)
      have h := h M6 e6
      refine v_iinc C (j := 3) [(3, .int (x3 + 1)), (4, .int ((M 215 ((M 211 12) + x3).toNatClampNeg) - ((49 : Int32)))), (0, .ref (w.2.1 211)), (1, .int x1)] rfl (x3 + 1) rfl rfl (by decide) dX10_takeCar_148 ?_
      refine v_goto C 80 (by decide) dX10_takeCar_151 ?_
      exact V.sub [2, 3, 0] rfl h
    · have h := h.1 hc
      refine v_aload_n C 1 rfl dX10_takeCar_125 ?_
      refine v_kc C (2) (by decide) dX10_takeCar_126 ?_
      refine v_aload_n C 1 rfl dX10_takeCar_127 ?_
      refine g9_12 C kb211 kd211 fl_X10_114 dX10_takeCar_128 ?_
      refine v_callI C [] (k_X10_fails ((2 : Int32)) (M4 211 12) M4 _ h) yX10_fails_k ml_X10_110 (rcv9 kb211 kd211) rfl rfl (Nat.le_of_ble_eq_true rfl) ⟨by decide, by decide⟩ dX10_takeCar_131 (fun r7 M7 h => ?_)
      exact Rt _ _ _ _ dX10_takeCar_134 h
theorem mt_X10_takeCar {w : Wx} {l : Launch} (k_X10_into : Ct_X10_into w l) (k_X10_takeNumber : Ct_X10_takeNumber w l) (k_X10_in : Ct_X10_in w l) (k_X10_fails : Ct_X10_fails w l) : Ct_X10_takeCar w l := by
  intro M Q h
  refine met_i (by decide +kernel) (Nat.le_of_ble_eq_true rfl) (fun G C hG Rt => ?_)
  subst hG
  exact wk_X10_takeCar C Rt k_X10_into k_X10_takeNumber k_X10_in k_X10_fails M (h _ (fun x1 x3 M h => wk_X10_takeCar_80 C Rt k_X10_into k_X10_takeNumber k_X10_in k_X10_fails x1 x3 M h))
theorem ct_X10_takeCar (w : Wx) (l : Launch) : Ct_X10_takeCar w l := mt_X10_takeCar (ct_X10_into w l) (ct_X10_takeNumber w l) (ct_X10_in w l) (ct_X10_fails w l)
set_option maxRecDepth 4000 in
theorem wk_X10_takeTown {w : Wx} {G : Gx} {Q : Int32 → Mem → Prop} (C : Cx w G cX10_takeTown RX10 3 73 2) (Rt : ∀ (pc : Nat) (lv : List (Nat × Value)) (r0 : Int32) (M0 : Mem), decode cX10_takeTown pc = .ok (.ireturn, 1) → Q r0 M0 → V w G pc lv [.int r0] M0) (k_X10_into : Ct_X10_into w G.2.1) (M : Mem) (h : bd_X10_takeTown Q M) : V w G 0 [(0, .ref (w.2.1 211))] [] M := by
  unfold bd_X10_takeTown at h
  refine v_aload_n C 0 rfl dX10_takeTown_0 ?_
  refine v_aload_n C 0 rfl dX10_takeTown_1 ?_
  refine g9_13 C kb211 kd211 fl_X10_26 dX10_takeTown_2 ?_
  refine v_kc C (0) (by decide) dX10_takeTown_5 ?_
  refine v_kc C (1) (by decide) dX10_takeTown_6 ?_
  refine v_kb C (9) (by decide) dX10_takeTown_7 ?_
  refine v_callI C [] (k_X10_into 216 ((0 : Int32)) ((1 : Int32)) ((9 : Int32)) M ⟨kb216, kd216⟩ _ h) yX10_into_k ml_X10_124 (rcv9 kb211 kd211) rfl rfl (Nat.le_of_ble_eq_true rfl) ⟨by decide, by decide⟩ dX10_takeTown_9 (fun r1 M1 h => ?_)
  refine v_istore_n C [(1, .int r1), (0, .ref (w.2.1 211))] rfl (by decide) dX10_takeTown_12 ?_
  refine v_iload_n C 0 rfl dX10_takeTown_13 ?_
  refine v_if_le C 21 (by decide) dX10_takeTown_14 (fun hc => ?_) (fun hc => ?_)
  · have h := h.1 hc
    refine v_aload_n C 1 rfl dX10_takeTown_21 ?_
    refine v_aload_n C 1 rfl dX10_takeTown_22 ?_
    refine g9_13 C kb211 kd211 fl_X10_26 dX10_takeTown_23 ?_
    refine v_kc C (1) (by decide) dX10_takeTown_26 ?_
    refine v_kc C (0) (by decide) dX10_takeTown_27 ?_
    refine v_kb C (100) (by decide) dX10_takeTown_28 ?_
    refine v_callI C [] (k_X10_into 216 ((1 : Int32)) ((0 : Int32)) ((100 : Int32)) M1 ⟨kb216, kd216⟩ _ h) yX10_into_k ml_X10_124 (rcv9 kb211 kd211) rfl rfl (Nat.le_of_ble_eq_true rfl) ⟨by decide, by decide⟩ dX10_takeTown_30 (fun r2 M2 h => ?_)
    exact Rt _ _ _ _ dX10_takeTown_33 h
  · have h := h.2 hc
    refine v_iload_n C 0 rfl dX10_takeTown_17 ?_
    refine v_goto C 33 (by decide) dX10_takeTown_18 ?_
    exact Rt _ _ _ _ dX10_takeTown_33 h
theorem mt_X10_takeTown {w : Wx} {l : Launch} (k_X10_into : Ct_X10_into w l) : Ct_X10_takeTown w l := by
  intro M Q h
  refine met_i (by decide +kernel) (Nat.le_of_ble_eq_true rfl) (fun G C hG Rt => ?_)
  subst hG
  exact wk_X10_takeTown C Rt k_X10_into M (h)
theorem ct_X10_takeTown (w : Wx) (l : Launch) : Ct_X10_takeTown w l := mt_X10_takeTown (ct_X10_into w l)
