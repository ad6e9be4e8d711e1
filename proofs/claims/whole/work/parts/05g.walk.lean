set_option maxRecDepth 4000 in
theorem wk_X10_handed {w : Wx} {G : Gx} {Q : Int32 → Mem → Prop} (C : Cx w G cX10_handed RX10 3 68 5) (Rt : ∀ (pc : Nat) (lv : List (Nat × Value)) (r0 : Int32) (M0 : Mem), decode cX10_handed pc = .ok (.ireturn, 1) → Q r0 M0 → V w G pc lv [.int r0] M0) (k_X10_areTwo : Ct_X10_areTwo w G.2.1) (k_X10_save : Ct_X10_save w G.2.1) (k_X10_handedOn : Ct_X10_handedOn w G.2.1) (k_X10_has : Ct_X10_has w G.2.1) (k_X10_putBack : Ct_X10_putBack w G.2.1) (k_X10_stepAll : Ct_X10_stepAll w G.2.1) (a1 : Int32) (a2 : Int32) (M : Mem) (h : bd_X10_handed Q (fun (x3 : Int32) (x4 : Int32) (M : Mem) => V w G 27 [(0, .ref (w.2.1 211)), (2, .int a2), (3, .int x3), (4, .int x4)] [] M) a1 a2 M) : V w G 0 [(0, .ref (w.2.1 211)), (1, .int a1), (2, .int a2)] [] M := by
  unfold bd_X10_handed at h
  refine v_aload_n C 0 rfl dX10_handed_0 ?_
  refine v_iload_n C 1 rfl dX10_handed_1 ?_
  refine v_iload_n C 2 rfl dX10_handed_2 ?_
  refine v_callI C [] (k_X10_areTwo a1 a2 M _ h) yX10_areTwo_k ml_X10_204 (rcv9 kb211 kd211) rfl rfl (Nat.le_of_ble_eq_true rfl) ⟨by decide, by decide⟩ dX10_handed_3 (fun r1 M1 h => ?_)
  refine v_if_ne C 12 (by decide) dX10_handed_6 (fun hc => ?_) (fun hc => ?_)
  · have h := h.2 hc
    refine v_aload_n C 0 rfl dX10_handed_12 ?_
    refine v_callV C [] (k_X10_save M1 _ h) yX10_save_k ml_X10_225 (rcv9 kb211 kd211) rfl rfl (Nat.le_of_ble_eq_true rfl) ⟨by decide, by decide⟩ dX10_handed_13 (fun M2 h => ?_)
    refine v_aload_n C 0 rfl dX10_handed_16 ?_
    refine v_kc C (1) (by decide) dX10_handed_17 ?_
    refine v_iload_n C 1 rfl dX10_handed_18 ?_
    refine v_ishl C dX10_handed_19 ?_
    refine v_callI C [] (k_X10_handedOn (((1 : Int32)) <<< (a1 &&& 31)) M2 _ h) yX10_handedOn_k ml_X10_240 (rcv9 kb211 kd211) rfl rfl (Nat.le_of_ble_eq_true rfl) ⟨by decide, by decide⟩ dX10_handed_20 (fun r3 M3 h => ?_)
    refine v_istore_n C [(3, .int r3), (0, .ref (w.2.1 211)), (1, .int a1), (2, .int a2)] rfl (by decide) dX10_handed_23 ?_
    refine v_kc C (0) (by decide) dX10_handed_24 ?_
    refine v_istore C [(4, .int ((0 : Int32))), (3, .int r3), (0, .ref (w.2.1 211)), (1, .int a1), (2, .int a2)] rfl (by decide) dX10_handed_25 ?_
    exact V.sub [2, 4, 1, 0] rfl h
  · have h := h.1 hc
    refine v_ldc C kc_X10_188 dX10_handed_9 ?_
    exact Rt _ _ _ _ dX10_handed_11 h
set_option maxRecDepth 4000 in
theorem wk_X10_handed_27 {w : Wx} {G : Gx} {Q : Int32 → Mem → Prop} (C : Cx w G cX10_handed RX10 3 68 5) (Rt : ∀ (pc : Nat) (lv : List (Nat × Value)) (r0 : Int32) (M0 : Mem), decode cX10_handed pc = .ok (.ireturn, 1) → Q r0 M0 → V w G pc lv [.int r0] M0) (k_X10_areTwo : Ct_X10_areTwo w G.2.1) (k_X10_save : Ct_X10_save w G.2.1) (k_X10_handedOn : Ct_X10_handedOn w G.2.1) (k_X10_has : Ct_X10_has w G.2.1) (k_X10_putBack : Ct_X10_putBack w G.2.1) (k_X10_stepAll : Ct_X10_stepAll w G.2.1) (a1 : Int32) (a2 : Int32) (x3 : Int32) (x4 : Int32) (M : Mem) (h : bd_X10_handed_27 Q (fun (x3 : Int32) (x4 : Int32) (M : Mem) => V w G 27 [(0, .ref (w.2.1 211)), (2, .int a2), (3, .int x3), (4, .int x4)] [] M) a1 a2 x3 x4 M) : V w G 27 [(0, .ref (w.2.1 211)), (2, .int a2), (3, .int x3), (4, .int x4)] [] M := by
  unfold bd_X10_handed_27 at h
  refine v_iload_n C 2 rfl dX10_handed_27 ?_
  refine v_iload_n C 1 rfl dX10_handed_28 ?_
  refine v_callSI C [] (k_X10_has x3 a2 M _ h) yX10_has_k ml_X10_162 rfl rfl (Nat.le_of_ble_eq_true rfl) ⟨by decide, by decide⟩ dX10_handed_29 (fun r1 M1 h => ?_)
  refine v_if_ne C 59 (by decide) dX10_handed_32 (fun hc => ?_) (fun hc => ?_)
  · have h := h.2 hc
    refine v_aload_n C 0 rfl dX10_handed_59 ?_
    refine v_callV C [] (k_X10_putBack M1 _ h) yX10_putBack_k ml_X10_232 (rcv9 kb211 kd211) rfl rfl (Nat.le_of_ble_eq_true rfl) ⟨by decide, by decide⟩ dX10_handed_60 (fun M2 h => ?_)
    refine v_iload C 3 rfl dX10_handed_63 ?_
    refine v_ks C (200) (by decide) dX10_handed_65 ?_
    have key3 : V w G 77 [(0, .ref (w.2.1 211)), (2, .int a2), (3, .int x3), (4, .int x4)] (.int (if ((200 : Int32)) < x4 then (-1 : Int32) else x4) :: []) M2 := by
      exact Rt _ _ _ _ dX10_handed_77 h
    refine v_icmp_gt C 76 (by decide) dX10_handed_68 (fun hc => ?_) (fun hc => ?_)
    · rw [show (if ((200 : Int32)) < x4 then (-1 : Int32) else x4 : Int32) = (-1 : Int32) from if_pos hc] at key3
      refine v_kc C (-1) (by decide) dX10_handed_76 ?_
      exact key3
    · rw [show (if ((200 : Int32)) < x4 then (-1 : Int32) else x4 : Int32) = x4 from if_neg hc] at key3
      refine v_iload C 3 rfl dX10_handed_71 ?_
      refine v_goto C 77 (by decide) dX10_handed_73 ?_
      exact key3
  · have h := h.1 hc
    refine v_iload C 3 rfl dX10_handed_35 ?_
    refine v_ks C (200) (by decide) dX10_handed_37 ?_
    refine v_icmp_gt C 59 (by decide) dX10_handed_40 (fun hc => ?_) (fun hc => ?_)
    · have h := h.1 hc
      refine v_aload_n C 0 rfl dX10_handed_59 ?_
      refine v_callV C [] (k_X10_putBack M1 _ h) yX10_putBack_k ml_X10_232 (rcv9 kb211 kd211) rfl rfl (Nat.le_of_ble_eq_true rfl) ⟨by decide, by decide⟩ dX10_handed_60 (fun M4 h => ?_)
      refine v_iload C 3 rfl dX10_handed_63 ?_
      refine v_ks C (200) (by decide) dX10_handed_65 ?_
      have key5 : V w G 77 [(0, .ref (w.2.1 211)), (2, .int a2), (3, .int x3), (4, .int x4)] (.int (if ((200 : Int32)) < x4 then (-1 : Int32) else x4) :: []) M4 := by
        exact Rt _ _ _ _ dX10_handed_77 h
      refine v_icmp_gt C 76 (by decide) dX10_handed_68 (fun hc => ?_) (fun hc => ?_)
      · rw [show (if ((200 : Int32)) < x4 then (-1 : Int32) else x4 : Int32) = (-1 : Int32) from if_pos hc] at key5
        refine v_kc C (-1) (by decide) dX10_handed_76 ?_
        exact key5
      · rw [show (if ((200 : Int32)) < x4 then (-1 : Int32) else x4 : Int32) = x4 from if_neg hc] at key5
        refine v_iload C 3 rfl dX10_handed_71 ?_
        refine v_goto C 77 (by decide) dX10_handed_73 ?_
        exact key5
    · have h := h.2 hc
      refine v_aload_n C 0 rfl dX10_handed_43 ?_
      refine v_callV C [] (k_X10_stepAll M1 _ h) yX10_stepAll_k ml_X10_201 (rcv9 kb211 kd211) rfl rfl (Nat.le_of_ble_eq_true rfl) ⟨by decide, by decide⟩ dX10_handed_44 (fun M6 h => ?_)
      refine v_aload_n C 0 rfl dX10_handed_47 ?_
      refine v_iload_n C 2 rfl dX10_handed_48 ?_
      refine v_callI C [] (k_X10_handedOn x3 M6 _ h) yX10_handedOn_k ml_X10_240 (rcv9 kb211 kd211) rfl rfl (Nat.le_of_ble_eq_true rfl) ⟨by decide, by decide⟩ dX10_handed_49 (fun r7 M7 h => ?_)
      refine v_istore_n C [(3, .int r7), (0, .ref (w.2.1 211)), (2, .int a2), (4, .int x4)] rfl (by decide) dX10_handed_52 ?_
      refine v_iinc C (j := 3) [(4, .int (x4 + 1)), (3, .int r7), (0, .ref (w.2.1 211)), (2, .int a2)] rfl (x4 + 1) rfl rfl (by decide) dX10_handed_53 ?_
      refine v_goto C 27 (by decide) dX10_handed_56 ?_
      exact V.sub [2, 3, 1, 0] rfl h
theorem mt_X10_handed {w : Wx} {l : Launch} (k_X10_areTwo : Ct_X10_areTwo w l) (k_X10_save : Ct_X10_save w l) (k_X10_handedOn : Ct_X10_handedOn w l) (k_X10_has : Ct_X10_has w l) (k_X10_putBack : Ct_X10_putBack w l) (k_X10_stepAll : Ct_X10_stepAll w l) : Ct_X10_handed w l := by
  intro a1 a2 M Q h
  refine met_i (by decide +kernel) (Nat.le_of_ble_eq_true rfl) (fun G C hG Rt => ?_)
  subst hG
  exact wk_X10_handed C Rt k_X10_areTwo k_X10_save k_X10_handedOn k_X10_has k_X10_putBack k_X10_stepAll a1 a2 M (h _ (fun x3 x4 M h => wk_X10_handed_27 C Rt k_X10_areTwo k_X10_save k_X10_handedOn k_X10_has k_X10_putBack k_X10_stepAll a1 a2 x3 x4 M h))
theorem ct_X10_handed (w : Wx) (l : Launch) : Ct_X10_handed w l := mt_X10_handed (ct_X10_areTwo w l) (ct_X10_save w l) (ct_X10_handedOn w l) (ct_X10_has w l) (ct_X10_putBack w l) (ct_X10_stepAll w l)
set_option maxRecDepth 4000 in
theorem wk_X10_meets {w : Wx} {G : Gx} {Q : Int32 → Mem → Prop} (C : Cx w G cX10_meets RX10 3 66 6) (Rt : ∀ (pc : Nat) (lv : List (Nat × Value)) (r0 : Int32) (M0 : Mem), decode cX10_meets pc = .ok (.ireturn, 1) → Q r0 M0 → V w G pc lv [.int r0] M0) (k_X10_in : Ct_X10_in w G.2.1) (k_X10_save : Ct_X10_save w G.2.1) (k_X10_stepTo : Ct_X10_stepTo w G.2.1) (k_X10_putBack : Ct_X10_putBack w G.2.1) (a1 : Int32) (M : Mem) (h : bd_X10_meets Q (fun (x2 : Int32) (x3 : Int32) (M : Mem) => V w G 28 [(0, .ref (w.2.1 211)), (2, .int x2), (3, .int x3)] [] M) (fun (x2 : Int32) (x3 : Int32) (x4 : Int32) (x5 : Int32) (M : Mem) => V w G 42 [(0, .ref (w.2.1 211)), (2, .int x2), (3, .int x3), (4, .int x4), (5, .int x5)] [] M) a1 M) : V w G 0 [(0, .ref (w.2.1 211)), (1, .int a1)] [] M := by
  unfold bd_X10_meets at h
  refine v_iload_n C 1 rfl dX10_meets_0 ?_
  refine v_i2l C dX10_meets_1 ?_
  refine v_lconst C 0 (by decide) dX10_meets_2 ?_
  refine v_ldc2 C kl_X10_223 dX10_meets_3 ?_
  refine v_callSI C [] (k_X10_in a1.toInt64 ((0 : Int64)) ((200 : Int64)) M _ h) yX10_in_k ml_X10_81 rfl rfl (Nat.le_of_ble_eq_true rfl) ⟨by decide, by decide⟩ dX10_meets_6 (fun r1 M1 h => ?_)
  refine v_if_ne C 15 (by decide) dX10_meets_9 (fun hc => ?_) (fun hc => ?_)
  · have h := h.2 hc
    refine v_aload_n C 0 rfl dX10_meets_15 ?_
    refine v_callV C [] (k_X10_save M1 _ h) yX10_save_k ml_X10_225 (rcv9 kb211 kd211) rfl rfl (Nat.le_of_ble_eq_true rfl) ⟨by decide, by decide⟩ dX10_meets_16 (fun M2 h => ?_)
    refine v_aload_n C 0 rfl dX10_meets_19 ?_
    refine v_iload_n C 1 rfl dX10_meets_20 ?_
    refine v_callV C [] (k_X10_stepTo a1 M2 _ h) yX10_stepTo_k ml_X10_228 (rcv9 kb211 kd211) rfl rfl (Nat.le_of_ble_eq_true rfl) ⟨by decide, by decide⟩ dX10_meets_21 (fun M3 h => ?_)
    refine v_kc C (0) (by decide) dX10_meets_24 ?_
    refine v_istore_n C [(2, .int ((0 : Int32))), (0, .ref (w.2.1 211)), (1, .int a1)] rfl (by decide) dX10_meets_25 ?_
    refine v_kc C (0) (by decide) dX10_meets_26 ?_
    refine v_istore_n C [(3, .int ((0 : Int32))), (2, .int ((0 : Int32))), (0, .ref (w.2.1 211)), (1, .int a1)] rfl (by decide) dX10_meets_27 ?_
    exact V.sub [2, 1, 0] rfl h
  · have h := h.1 hc
    refine v_ldc C kc_X10_94 dX10_meets_12 ?_
    exact Rt _ _ _ _ dX10_meets_14 h
set_option maxRecDepth 4000 in
theorem wk_X10_meets_28 {w : Wx} {G : Gx} {Q : Int32 → Mem → Prop} (C : Cx w G cX10_meets RX10 3 66 6) (Rt : ∀ (pc : Nat) (lv : List (Nat × Value)) (r0 : Int32) (M0 : Mem), decode cX10_meets pc = .ok (.ireturn, 1) → Q r0 M0 → V w G pc lv [.int r0] M0) (k_X10_in : Ct_X10_in w G.2.1) (k_X10_save : Ct_X10_save w G.2.1) (k_X10_stepTo : Ct_X10_stepTo w G.2.1) (k_X10_putBack : Ct_X10_putBack w G.2.1) (a1 : Int32) (x2 : Int32) (x3 : Int32) (M : Mem) (h : bd_X10_meets_28 Q (fun (x2 : Int32) (x3 : Int32) (M : Mem) => V w G 28 [(0, .ref (w.2.1 211)), (2, .int x2), (3, .int x3)] [] M) (fun (x2 : Int32) (x3 : Int32) (x4 : Int32) (x5 : Int32) (M : Mem) => V w G 42 [(0, .ref (w.2.1 211)), (2, .int x2), (3, .int x3), (4, .int x4), (5, .int x5)] [] M) a1 x2 x3 M) : V w G 28 [(0, .ref (w.2.1 211)), (2, .int x2), (3, .int x3)] [] M := by
  unfold bd_X10_meets_28 at h
  refine v_iload_n C 2 rfl dX10_meets_28 ?_
  refine v_aload_n C 0 rfl dX10_meets_29 ?_
  refine g9_0 C kb211 kd211 fl_X10_78 dX10_meets_30 ?_
  refine v_icmp_ge C 97 (by decide) dX10_meets_33 (fun hc => ?_) (fun hc => ?_)
  · have h := h.1 hc
    refine v_aload_n C 0 rfl dX10_meets_97 ?_
    refine v_callV C [] (k_X10_putBack M _ h) yX10_putBack_k ml_X10_232 (rcv9 kb211 kd211) rfl rfl (Nat.le_of_ble_eq_true rfl) ⟨by decide, by decide⟩ dX10_meets_98 (fun M1 h => ?_)
    refine v_iload_n C 1 rfl dX10_meets_101 ?_
    exact Rt _ _ _ _ dX10_meets_102 h
  · have h := h.2 hc
    refine v_kc C (0) (by decide) dX10_meets_36 ?_
    refine v_istore C [(4, .int ((0 : Int32))), (0, .ref (w.2.1 211)), (2, .int x2), (3, .int x3)] rfl (by decide) dX10_meets_37 ?_
    refine v_kc C (0) (by decide) dX10_meets_39 ?_
    refine v_istore C [(5, .int ((0 : Int32))), (4, .int ((0 : Int32))), (0, .ref (w.2.1 211)), (2, .int x2), (3, .int x3)] rfl (by decide) dX10_meets_40 ?_
    exact V.sub [2, 3, 4, 1, 0] rfl h
set_option maxRecDepth 4000 in
theorem wk_X10_meets_42 {w : Wx} {G : Gx} {Q : Int32 → Mem → Prop} (C : Cx w G cX10_meets RX10 3 66 6) (Rt : ∀ (pc : Nat) (lv : List (Nat × Value)) (r0 : Int32) (M0 : Mem), decode cX10_meets pc = .ok (.ireturn, 1) → Q r0 M0 → V w G pc lv [.int r0] M0) (k_X10_in : Ct_X10_in w G.2.1) (k_X10_save : Ct_X10_save w G.2.1) (k_X10_stepTo : Ct_X10_stepTo w G.2.1) (k_X10_putBack : Ct_X10_putBack w G.2.1) (a1 : Int32) (x2 : Int32) (x3 : Int32) (x4 : Int32) (x5 : Int32) (M : Mem) (h : bd_X10_meets_42 Q (fun (x2 : Int32) (x3 : Int32) (M : Mem) => V w G 28 [(0, .ref (w.2.1 211)), (2, .int x2), (3, .int x3)] [] M) (fun (x2 : Int32) (x3 : Int32) (x4 : Int32) (x5 : Int32) (M : Mem) => V w G 42 [(0, .ref (w.2.1 211)), (2, .int x2), (3, .int x3), (4, .int x4), (5, .int x5)] [] M) a1 x2 x3 x4 x5 M) : V w G 42 [(0, .ref (w.2.1 211)), (2, .int x2), (3, .int x3), (4, .int x4), (5, .int x5)] [] M := by
  unfold bd_X10_meets_42 at h
  refine v_iload C 4 rfl dX10_meets_42 ?_
  refine v_aload_n C 0 rfl dX10_meets_44 ?_
  refine g9_2 C kb211 kd211 fl_X10_85 dX10_meets_45 ?_
  refine v_icmp_ge C 78 (by decide) dX10_meets_48 (fun hc => ?_) (fun hc => ?_)
  · have h := h.1 hc
    refine v_iload C 3 rfl dX10_meets_78 ?_
    refine v_iload_n C 1 rfl dX10_meets_80 ?_
    have key1 : V w G 90 [(0, .ref (w.2.1 211)), (2, .int x2), (3, .int x3), (4, .int x4), (5, .int x5)] (.int (if x4 ≤ x2 then x2 else x4) :: []) M := by
      refine v_istore_n C [(2, .int (if x4 ≤ x2 then x2 else x4)), (0, .ref (w.2.1 211)), (3, .int x3), (4, .int x4), (5, .int x5)] rfl (by decide) dX10_meets_90 ?_
      refine v_iinc C (j := 2) [(3, .int (x3 + 1)), (2, .int (if x4 ≤ x2 then x2 else x4)), (0, .ref (w.2.1 211)), (4, .int x4), (5, .int x5)] rfl (x3 + 1) rfl rfl (by decide) dX10_meets_91 ?_
      refine v_goto C 28 (by decide) dX10_meets_94 ?_
      exact V.sub [2, 1, 0] rfl h
    refine v_icmp_le C 89 (by decide) dX10_meets_81 (fun hc => ?_) (fun hc => ?_)
    · rw [show (if x4 ≤ x2 then x2 else x4 : Int32) = x2 from if_pos hc] at key1
      refine v_iload_n C 1 rfl dX10_meets_89 ?_
      exact key1
    · rw [show (if x4 ≤ x2 then x2 else x4 : Int32) = x4 from if_neg hc] at key1
      refine v_iload C 3 rfl dX10_meets_84 ?_
      refine v_goto C 90 (by decide) dX10_meets_86 ?_
      exact key1
  · have h := h.2 hc
    refine v_iload C 3 rfl dX10_meets_51 ?_
    refine v_aload_n C 0 rfl dX10_meets_53 ?_
    refine g9_5 C kb211 kd211 fl_X10_16 dX10_meets_54 ?_
    refine v_iload C 4 rfl dX10_meets_57 ?_
    obtain ⟨s2, h⟩ := h
    refine v_iald C kb214 kd214 ln214 s2 dX10_meets_59 ?_
    refine v_iload_n C 2 rfl dX10_meets_60 ?_
    have key3 : V w G 69 [(0, .ref (w.2.1 211)), (2, .int x2), (3, .int x3), (4, .int x4), (5, .int x5)] (.int (if (M 214 x5.toNatClampNeg) = x3 then (1 : Int32) else (0 : Int32)) :: .int x4 :: []) M := by
      refine v_iadd C dX10_meets_69 ?_
      refine v_istore C [(4, .int (x4 + (if (M 214 x5.toNatClampNeg) = x3 then (1 : Int32) else (0 : Int32)))), (0, .ref (w.2.1 211)), (2, .int x2), (3, .int x3), (5, .int x5)] rfl (by decide) dX10_meets_70 ?_
      refine v_iinc C (j := 4) [(5, .int (x5 + 1)), (4, .int (x4 + (if (M 214 x5.toNatClampNeg) = x3 then (1 : Int32) else (0 : Int32)))), (0, .ref (w.2.1 211)), (2, .int x2), (3, .int x3)] rfl (x5 + 1) rfl rfl (by decide) dX10_meets_72 ?_
      refine v_goto C 42 (by decide) dX10_meets_75 ?_
      exact V.sub [2, 3, 4, 1, 0] rfl h
    refine v_icmp_ne C 68 (by decide) dX10_meets_61 (fun hc => ?_) (fun hc => ?_)
    · rw [show (if (M 214 x5.toNatClampNeg) = x3 then (1 : Int32) else (0 : Int32) : Int32) = (0 : Int32) from if_neg hc] at key3
      refine v_kc C (0) (by decide) dX10_meets_68 ?_
      exact key3
    · rw [show (if (M 214 x5.toNatClampNeg) = x3 then (1 : Int32) else (0 : Int32) : Int32) = (1 : Int32) from if_pos hc] at key3
      refine v_kc C (1) (by decide) dX10_meets_64 ?_
      refine v_goto C 69 (by decide) dX10_meets_65 ?_
      exact key3
theorem mt_X10_meets {w : Wx} {l : Launch} (k_X10_in : Ct_X10_in w l) (k_X10_save : Ct_X10_save w l) (k_X10_stepTo : Ct_X10_stepTo w l) (k_X10_putBack : Ct_X10_putBack w l) : Ct_X10_meets w l := by
  intro a1 M Q h
  refine met_i (by decide +kernel) (Nat.le_of_ble_eq_true rfl) (fun G C hG Rt => ?_)
  subst hG
  exact wk_X10_meets C Rt k_X10_in k_X10_save k_X10_stepTo k_X10_putBack a1 M (h _ _ (fun x2 x3 M h => wk_X10_meets_28 C Rt k_X10_in k_X10_save k_X10_stepTo k_X10_putBack a1 x2 x3 M h) (fun x2 x3 x4 x5 M h => wk_X10_meets_42 C Rt k_X10_in k_X10_save k_X10_stepTo k_X10_putBack a1 x2 x3 x4 x5 M h))
theorem ct_X10_meets (w : Wx) (l : Launch) : Ct_X10_meets w l := mt_X10_meets (ct_X10_in w l) (ct_X10_save w l) (ct_X10_stepTo w l) (ct_X10_putBack w l)
set_option maxRecDepth 4000 in
theorem wk_X10_asked {w : Wx} {G : Gx} {Q : Int32 → Mem → Prop} (C : Cx w G cX10_asked RX10 1 25 5) (Rt : ∀ (pc : Nat) (lv : List (Nat × Value)) (r0 : Int32) (M0 : Mem), decode cX10_asked pc = .ok (.ireturn, 1) → Q r0 M0 → V w G pc lv [.int r0] M0) (k_X10_in : Ct_X10_in w G.2.1) (a1 : Int32) (M : Mem) (h : bd_X10_asked Q (fun (x2 : Int64) (x4 : Int32) (M : Mem) => V w G 22 [(0, .ref (w.2.1 211)), (1, .int a1), (2, .long x2), (4, .int x4)] [] M) a1 M) : V w G 0 [(0, .ref (w.2.1 211)), (1, .int a1)] [] M := by
  unfold bd_X10_asked at h
  refine v_iload_n C 1 rfl dX10_asked_0 ?_
  refine v_i2l C dX10_asked_1 ?_
  refine v_lconst C 0 (by decide) dX10_asked_2 ?_
  refine v_ldc2 C kl_X10_192 dX10_asked_3 ?_
  refine v_callSI C [] (k_X10_in a1.toInt64 ((0 : Int64)) ((60 : Int64)) M _ h) yX10_in_k ml_X10_81 rfl rfl (Nat.le_of_ble_eq_true rfl) ⟨by decide, by decide⟩ dX10_asked_6 (fun r1 M1 h => ?_)
  refine v_if_ne C 15 (by decide) dX10_asked_9 (fun hc => ?_) (fun hc => ?_)
  · have h := h.2 hc
    refine v_ldc2 C kl_X10_243 dX10_asked_15 ?_
    refine v_lstore_n C [(2, .long ((1000000000 : Int64))), (0, .ref (w.2.1 211)), (1, .int a1)] rfl (by decide) dX10_asked_18 ?_
    refine v_kc C (0) (by decide) dX10_asked_19 ?_
    refine v_istore C [(4, .int ((0 : Int32))), (2, .long ((1000000000 : Int64))), (0, .ref (w.2.1 211)), (1, .int a1)] rfl (by decide) dX10_asked_20 ?_
    exact V.sub [2, 3, 1, 0] rfl h
  · have h := h.1 hc
    refine v_ldc C kc_X10_94 dX10_asked_12 ?_
    exact Rt _ _ _ _ dX10_asked_14 h
set_option maxRecDepth 4000 in
theorem wk_X10_asked_22 {w : Wx} {G : Gx} {Q : Int32 → Mem → Prop} (C : Cx w G cX10_asked RX10 1 25 5) (Rt : ∀ (pc : Nat) (lv : List (Nat × Value)) (r0 : Int32) (M0 : Mem), decode cX10_asked pc = .ok (.ireturn, 1) → Q r0 M0 → V w G pc lv [.int r0] M0) (k_X10_in : Ct_X10_in w G.2.1) (a1 : Int32) (x2 : Int64) (x4 : Int32) (M : Mem) (h : bd_X10_asked_22 Q (fun (x2 : Int64) (x4 : Int32) (M : Mem) => V w G 22 [(0, .ref (w.2.1 211)), (1, .int a1), (2, .long x2), (4, .int x4)] [] M) a1 x2 x4 M) : V w G 22 [(0, .ref (w.2.1 211)), (1, .int a1), (2, .long x2), (4, .int x4)] [] M := by
  unfold bd_X10_asked_22 at h
  refine v_iload C 3 rfl dX10_asked_22 ?_
  refine v_iload_n C 1 rfl dX10_asked_24 ?_
  refine v_icmp_ge C 49 (by decide) dX10_asked_25 (fun hc => ?_) (fun hc => ?_)
  · have h := h.1 hc
    refine v_lload_n C 2 rfl dX10_asked_49 ?_
    refine v_l2i C dX10_asked_50 ?_
    exact Rt _ _ _ _ dX10_asked_51 h
  · have h := h.2 hc
    refine v_lload_n C 2 rfl dX10_asked_28 ?_
    refine v_kb C (100) (by decide) dX10_asked_29 ?_
    refine v_aload_n C 0 rfl dX10_asked_31 ?_
    refine g9_1 C kb211 kd211 fl_X10_141 dX10_asked_32 ?_
    refine v_isub C dX10_asked_35 ?_
    refine v_i2l C dX10_asked_36 ?_
    refine v_lmul C dX10_asked_37 ?_
    refine v_ldc2 C kl_X10_245 dX10_asked_38 ?_
    refine v_ldiv C (by decide) dX10_asked_41 ?_
    refine v_lstore_n C [(2, .long ((x2 * ((((100 : Int32)) - (M 211 1)).toInt64)) / ((100 : Int64)))), (0, .ref (w.2.1 211)), (1, .int a1), (4, .int x4)] rfl (by decide) dX10_asked_42 ?_
    refine v_iinc C (j := 3) [(4, .int (x4 + 1)), (2, .long ((x2 * ((((100 : Int32)) - (M 211 1)).toInt64)) / ((100 : Int64)))), (0, .ref (w.2.1 211)), (1, .int a1)] rfl (x4 + 1) rfl rfl (by decide) dX10_asked_43 ?_
    refine v_goto C 22 (by decide) dX10_asked_46 ?_
    exact V.sub [2, 3, 1, 0] rfl h
theorem mt_X10_asked {w : Wx} {l : Launch} (k_X10_in : Ct_X10_in w l) : Ct_X10_asked w l := by
  intro a1 M Q h
  refine met_i (by decide +kernel) (Nat.le_of_ble_eq_true rfl) (fun G C hG Rt => ?_)
  subst hG
  exact wk_X10_asked C Rt k_X10_in a1 M (h _ (fun x2 x4 M h => wk_X10_asked_22 C Rt k_X10_in a1 x2 x4 M h))
theorem ct_X10_asked (w : Wx) (l : Launch) : Ct_X10_asked w l := mt_X10_asked (ct_X10_in w l)
set_option maxRecDepth 4000 in
theorem wk_X10_see {w : Wx} {G : Gx} {Q : Int32 → Mem → Prop} (C : Cx w G cX10_see RX10 2 46 4) (Rt : ∀ (pc : Nat) (lv : List (Nat × Value)) (r0 : Int32) (M0 : Mem), decode cX10_see pc = .ok (.ireturn, 1) → Q r0 M0 → V w G pc lv [.int r0] M0) (k_X10_isCar : Ct_X10_isCar w G.2.1) (k_X10_isCorner : Ct_X10_isCorner w G.2.1) (k_X10_in : Ct_X10_in w G.2.1) (a1 : Int32) (a2 : Int32) (a3 : Int32) (M : Mem) (h : bd_X10_see Q a1 a2 a3 M) : V w G 0 [(0, .ref (w.2.1 211)), (1, .int a1), (2, .int a2), (3, .int a3)] [] M := by
  unfold bd_X10_see at h
  refine v_aload_n C 0 rfl dX10_see_0 ?_
  refine v_iload_n C 1 rfl dX10_see_1 ?_
  refine v_callI C [] (k_X10_isCar a1 M _ h) yX10_isCar_k ml_X10_88 (rcv9 kb211 kd211) rfl rfl (Nat.le_of_ble_eq_true rfl) ⟨by decide, by decide⟩ dX10_see_2 (fun r1 M1 h => ?_)
  refine v_if_eq C 16 (by decide) dX10_see_5 (fun hc => ?_) (fun hc => ?_)
  · have h := h.1 hc
    refine v_ldc C kc_X10_188 dX10_see_16 ?_
    exact Rt _ _ _ _ dX10_see_18 h
  · have h := h.2 hc
    refine v_aload_n C 0 rfl dX10_see_8 ?_
    refine v_iload_n C 3 rfl dX10_see_9 ?_
    refine v_callI C [] (k_X10_isCorner a3 M1 _ h) yX10_isCorner_k ml_X10_235 (rcv9 kb211 kd211) rfl rfl (Nat.le_of_ble_eq_true rfl) ⟨by decide, by decide⟩ dX10_see_10 (fun r2 M2 h => ?_)
    refine v_if_ne C 19 (by decide) dX10_see_13 (fun hc => ?_) (fun hc => ?_)
    · have h := h.2 hc
      refine v_iload_n C 2 rfl dX10_see_19 ?_
      refine v_i2l C dX10_see_20 ?_
      refine v_lconst C 1 (by decide) dX10_see_21 ?_
      refine v_ldc2 C kl_X10_247 dX10_see_22 ?_
      refine v_callSI C [] (k_X10_in a2.toInt64 ((1 : Int64)) ((30 : Int64)) M2 _ h) yX10_in_k ml_X10_81 rfl rfl (Nat.le_of_ble_eq_true rfl) ⟨by decide, by decide⟩ dX10_see_25 (fun r3 M3 h => ?_)
      refine v_if_ne C 34 (by decide) dX10_see_28 (fun hc => ?_) (fun hc => ?_)
      · have h := h.2 hc
        refine v_aload_n C 0 rfl dX10_see_34 ?_
        refine g9_23 C kb211 kd211 fl_X10_150 dX10_see_35 ?_
        refine v_kb C (6) (by decide) dX10_see_38 ?_
        refine v_icmp_ne C 46 (by decide) dX10_see_40 (fun hc => ?_) (fun hc => ?_)
        · have h := h.2 hc
          refine v_aload_n C 0 rfl dX10_see_46 ?_
          refine g9_24 C kb211 kd211 fl_X10_50 dX10_see_47 ?_
          refine v_aload_n C 0 rfl dX10_see_50 ?_
          refine g9_23 C kb211 kd211 fl_X10_150 dX10_see_51 ?_
          refine v_iload_n C 1 rfl dX10_see_54 ?_
          obtain ⟨s4, h⟩ := h
          refine v_iast C kb224 kd224 ln224 s4 dX10_see_55 (fun M5 e5 => ?_)
          have h := h M5 e5
          refine v_aload_n C 0 rfl dX10_see_56 ?_
          refine g9_25 C kb211 kd211 fl_X10_53 dX10_see_57 ?_
          refine v_aload_n C 0 rfl dX10_see_60 ?_
          refine g9_23 C kb211 kd211 fl_X10_150 dX10_see_61 ?_
          refine v_iload_n C 2 rfl dX10_see_64 ?_
          obtain ⟨s6, h⟩ := h
          refine v_iast C kb225 kd225 ln225 s6 dX10_see_65 (fun M7 e7 => ?_)
          have h := h M7 e7
          refine v_aload_n C 0 rfl dX10_see_66 ?_
          refine g9_26 C kb211 kd211 fl_X10_56 dX10_see_67 ?_
          refine v_aload_n C 0 rfl dX10_see_70 ?_
          refine g9_23 C kb211 kd211 fl_X10_150 dX10_see_71 ?_
          refine v_iload_n C 3 rfl dX10_see_74 ?_
          obtain ⟨s8, h⟩ := h
          refine v_iast C kb226 kd226 ln226 s8 dX10_see_75 (fun M9 e9 => ?_)
          have h := h M9 e9
          refine v_aload_n C 0 rfl dX10_see_76 ?_
          refine v_dup C rfl dX10_see_77 ?_
          refine g9_23 C kb211 kd211 fl_X10_150 dX10_see_78 ?_
          refine v_kc C (1) (by decide) dX10_see_81 ?_
          refine v_iadd C dX10_see_82 ?_
          refine p9_23 C kb211 kd211 fl_X10_150 dX10_see_83 (fun M10 e10 => ?_)
          have h := h M10 e10
          refine v_aload_n C 0 rfl dX10_see_86 ?_
          refine g9_23 C kb211 kd211 fl_X10_150 dX10_see_87 ?_
          exact Rt _ _ _ _ dX10_see_90 h
        · have h := h.1 hc
          refine v_ldc C kc_X10_98 dX10_see_43 ?_
          exact Rt _ _ _ _ dX10_see_45 h
      · have h := h.1 hc
        refine v_ldc C kc_X10_94 dX10_see_31 ?_
        exact Rt _ _ _ _ dX10_see_33 h
    · have h := h.1 hc
      refine v_ldc C kc_X10_188 dX10_see_16 ?_
      exact Rt _ _ _ _ dX10_see_18 h
theorem mt_X10_see {w : Wx} {l : Launch} (k_X10_isCar : Ct_X10_isCar w l) (k_X10_isCorner : Ct_X10_isCorner w l) (k_X10_in : Ct_X10_in w l) : Ct_X10_see w l := by
  intro a1 a2 a3 M Q h
  refine met_i (by decide +kernel) (Nat.le_of_ble_eq_true rfl) (fun G C hG Rt => ?_)
  subst hG
  exact wk_X10_see C Rt k_X10_isCar k_X10_isCorner k_X10_in a1 a2 a3 M (h)
theorem ct_X10_see (w : Wx) (l : Launch) : Ct_X10_see w l := mt_X10_see (ct_X10_isCar w l) (ct_X10_isCorner w l) (ct_X10_in w l)
set_option maxRecDepth 4000 in
theorem wk_X10_findWay {w : Wx} {G : Gx} {Q : Mem → Prop} (C : Cx w G cX10_findWay RX10 2 44 4) (Rt : ∀ (pc : Nat) (lv : List (Nat × Value)) (M0 : Mem), decode cX10_findWay pc = .ok (.return_, 1) → Q M0 → V w G pc lv [] M0) (k_X10_save : Ct_X10_save w G.2.1) (k_X10_putBack : Ct_X10_putBack w G.2.1) (k_X10_stepAll : Ct_X10_stepAll w G.2.1) (a1 : Int32) (a2 : Int32) (M : Mem) (h : bd_X10_findWay Q (fun (x3 : Int32) (M : Mem) => V w G 16 [(0, .ref (w.2.1 211)), (1, .int a1), (3, .int x3)] [] M) a1 a2 M) : V w G 0 [(0, .ref (w.2.1 211)), (1, .int a1), (2, .int a2)] [] M := by
  unfold bd_X10_findWay at h
  refine v_aload_n C 0 rfl dX10_findWay_0 ?_
  refine v_callV C [] (k_X10_save M _ h) yX10_save_k ml_X10_225 (rcv9 kb211 kd211) rfl rfl (Nat.le_of_ble_eq_true rfl) ⟨by decide, by decide⟩ dX10_findWay_1 (fun M1 h => ?_)
  refine v_aload_n C 0 rfl dX10_findWay_4 ?_
  refine g9_5 C kb211 kd211 fl_X10_16 dX10_findWay_5 ?_
  refine v_kb C (8) (by decide) dX10_findWay_8 ?_
  refine v_iload_n C 1 rfl dX10_findWay_10 ?_
  refine v_iadd C dX10_findWay_11 ?_
  refine v_iload_n C 2 rfl dX10_findWay_12 ?_
  obtain ⟨s2, h⟩ := h
  refine v_iast C kb214 kd214 ln214 s2 dX10_findWay_13 (fun M3 e3 => ?_)
  have h := h M3 e3
  refine v_kc C (0) (by decide) dX10_findWay_14 ?_
  refine v_istore_n C [(3, .int ((0 : Int32))), (0, .ref (w.2.1 211)), (1, .int a1), (2, .int a2)] rfl (by decide) dX10_findWay_15 ?_
  exact V.sub [1, 2, 0] rfl h
set_option maxRecDepth 4000 in
theorem wk_X10_findWay_16 {w : Wx} {G : Gx} {Q : Mem → Prop} (C : Cx w G cX10_findWay RX10 2 44 4) (Rt : ∀ (pc : Nat) (lv : List (Nat × Value)) (M0 : Mem), decode cX10_findWay pc = .ok (.return_, 1) → Q M0 → V w G pc lv [] M0) (k_X10_save : Ct_X10_save w G.2.1) (k_X10_putBack : Ct_X10_putBack w G.2.1) (k_X10_stepAll : Ct_X10_stepAll w G.2.1) (a1 : Int32) (a2 : Int32) (x3 : Int32) (M : Mem) (h : bd_X10_findWay_16 Q (fun (x3 : Int32) (M : Mem) => V w G 16 [(0, .ref (w.2.1 211)), (1, .int a1), (3, .int x3)] [] M) a1 a2 x3 M) : V w G 16 [(0, .ref (w.2.1 211)), (1, .int a1), (3, .int x3)] [] M := by
  unfold bd_X10_findWay_16 at h
  refine v_iload_n C 2 rfl dX10_findWay_16 ?_
  refine v_kb C (31) (by decide) dX10_findWay_17 ?_
  refine v_icmp_ge C 44 (by decide) dX10_findWay_19 (fun hc => ?_) (fun hc => ?_)
  · have h := h.1 hc
    refine v_aload_n C 0 rfl dX10_findWay_44 ?_
    refine v_callV C [] (k_X10_putBack M _ h) yX10_putBack_k ml_X10_232 (rcv9 kb211 kd211) rfl rfl (Nat.le_of_ble_eq_true rfl) ⟨by decide, by decide⟩ dX10_findWay_45 (fun M1 h => ?_)
    exact Rt _ _ _ dX10_findWay_48 h
  · have h := h.2 hc
    refine v_aload_n C 0 rfl dX10_findWay_22 ?_
    refine g9_27 C kb211 kd211 fl_X10_59 dX10_findWay_23 ?_
    refine v_iload_n C 2 rfl dX10_findWay_26 ?_
    refine v_aload_n C 0 rfl dX10_findWay_27 ?_
    refine g9_5 C kb211 kd211 fl_X10_16 dX10_findWay_28 ?_
    refine v_iload_n C 1 rfl dX10_findWay_31 ?_
    obtain ⟨s2, h⟩ := h
    refine v_iald C kb214 kd214 ln214 s2 dX10_findWay_32 ?_
    obtain ⟨s3, h⟩ := h
    refine v_iast C kb227 kd227 ln227 s3 dX10_findWay_33 (fun M4 e4 => ?_)
    have h := h M4 e4
    refine v_aload_n C 0 rfl dX10_findWay_34 ?_
    refine v_callV C [] (k_X10_stepAll M4 _ h) yX10_stepAll_k ml_X10_201 (rcv9 kb211 kd211) rfl rfl (Nat.le_of_ble_eq_true rfl) ⟨by decide, by decide⟩ dX10_findWay_35 (fun M5 h => ?_)
    refine v_iinc C (j := 2) [(3, .int (x3 + 1)), (0, .ref (w.2.1 211)), (1, .int a1)] rfl (x3 + 1) rfl rfl (by decide) dX10_findWay_38 ?_
    refine v_goto C 16 (by decide) dX10_findWay_41 ?_
    exact V.sub [1, 2, 0] rfl h
theorem mt_X10_findWay {w : Wx} {l : Launch} (k_X10_save : Ct_X10_save w l) (k_X10_putBack : Ct_X10_putBack w l) (k_X10_stepAll : Ct_X10_stepAll w l) : Ct_X10_findWay w l := by
  intro a1 a2 M Q h
  refine met_v (by decide +kernel) (Nat.le_of_ble_eq_true rfl) (fun G C hG Rt => ?_)
  subst hG
  exact wk_X10_findWay C Rt k_X10_save k_X10_putBack k_X10_stepAll a1 a2 M (h _ (fun x3 M h => wk_X10_findWay_16 C Rt k_X10_save k_X10_putBack k_X10_stepAll a1 a2 x3 M h))
theorem ct_X10_findWay (w : Wx) (l : Launch) : Ct_X10_findWay w l := mt_X10_findWay (ct_X10_save w l) (ct_X10_putBack w l) (ct_X10_stepAll w l)
set_option maxRecDepth 4000 in
theorem wk_X10_couldFollow {w : Wx} {G : Gx} {Q : Int32 → Mem → Prop} (C : Cx w G cX10_couldFollow RX10 3 67 5) (Rt : ∀ (pc : Nat) (lv : List (Nat × Value)) (r0 : Int32) (M0 : Mem), decode cX10_couldFollow pc = .ok (.ireturn, 1) → (r0 = 0 ∨ r0 = 1) → Q r0 M0 → V w G pc lv [.int r0] M0) (k_X10_findWay : Ct_X10_findWay w G.2.1) (a1 : Int32) (a2 : Int32) (M : Mem) (h : bd_X10_couldFollow Q (fun (x3 : Int32) (x4 : Int32) (M : Mem) => V w G 11 [(0, .ref (w.2.1 211)), (1, .int a1), (3, .int x3), (4, .int x4)] [] M) a1 a2 M) : V w G 0 [(0, .ref (w.2.1 211)), (1, .int a1), (2, .int a2)] [] M := by
  unfold bd_X10_couldFollow at h
  refine v_aload_n C 0 rfl dX10_couldFollow_0 ?_
  refine v_iload_n C 1 rfl dX10_couldFollow_1 ?_
  refine v_iload_n C 2 rfl dX10_couldFollow_2 ?_
  refine v_callV C [] (k_X10_findWay a1 a2 M _ h) yX10_findWay_k ml_X10_249 (rcv9 kb211 kd211) rfl rfl (Nat.le_of_ble_eq_true rfl) ⟨by decide, by decide⟩ dX10_couldFollow_3 (fun M1 h => ?_)
  refine v_kc C (1) (by decide) dX10_couldFollow_6 ?_
  refine v_istore_n C [(3, .int ((1 : Int32))), (0, .ref (w.2.1 211)), (1, .int a1), (2, .int a2)] rfl (by decide) dX10_couldFollow_7 ?_
  refine v_kc C (0) (by decide) dX10_couldFollow_8 ?_
  refine v_istore C [(4, .int ((0 : Int32))), (3, .int ((1 : Int32))), (0, .ref (w.2.1 211)), (1, .int a1), (2, .int a2)] rfl (by decide) dX10_couldFollow_9 ?_
  exact V.sub [2, 3, 1, 0] rfl h
set_option maxRecDepth 4000 in
theorem wk_X10_couldFollow_11 {w : Wx} {G : Gx} {Q : Int32 → Mem → Prop} (C : Cx w G cX10_couldFollow RX10 3 67 5) (Rt : ∀ (pc : Nat) (lv : List (Nat × Value)) (r0 : Int32) (M0 : Mem), decode cX10_couldFollow pc = .ok (.ireturn, 1) → (r0 = 0 ∨ r0 = 1) → Q r0 M0 → V w G pc lv [.int r0] M0) (k_X10_findWay : Ct_X10_findWay w G.2.1) (a1 : Int32) (a2 : Int32) (x3 : Int32) (x4 : Int32) (M : Mem) (h : bd_X10_couldFollow_11 Q (fun (x3 : Int32) (x4 : Int32) (M : Mem) => V w G 11 [(0, .ref (w.2.1 211)), (1, .int a1), (3, .int x3), (4, .int x4)] [] M) a1 a2 x3 x4 M) : V w G 11 [(0, .ref (w.2.1 211)), (1, .int a1), (3, .int x3), (4, .int x4)] [] M := by
  unfold bd_X10_couldFollow_11 at h
  refine v_iload C 3 rfl dX10_couldFollow_11 ?_
  refine v_aload_n C 0 rfl dX10_couldFollow_13 ?_
  refine g9_23 C kb211 kd211 fl_X10_150 dX10_couldFollow_14 ?_
  refine v_icmp_ge C 69 (by decide) dX10_couldFollow_17 (fun hc => ?_) (fun hc => ?_)
  · have h := h.1 hc
    refine v_iload_n C 2 rfl dX10_couldFollow_69 ?_
    exact Rt _ _ _ _ dX10_couldFollow_70 h.1 h.2
  · have h := h.2 hc
    refine v_iload_n C 2 rfl dX10_couldFollow_20 ?_
    refine v_if_eq C 61 (by decide) dX10_couldFollow_21 (fun hc => ?_) (fun hc => ?_)
    · have h := h.1 hc
      refine v_kc C (0) (by decide) dX10_couldFollow_61 ?_
      refine v_istore_n C [(3, .int ((0 : Int32))), (0, .ref (w.2.1 211)), (1, .int a1), (4, .int x4)] rfl (by decide) dX10_couldFollow_62 ?_
      refine v_iinc C (j := 3) [(4, .int (x4 + 1)), (3, .int ((0 : Int32))), (0, .ref (w.2.1 211)), (1, .int a1)] rfl (x4 + 1) rfl rfl (by decide) dX10_couldFollow_63 ?_
      refine v_goto C 11 (by decide) dX10_couldFollow_66 ?_
      exact V.sub [2, 3, 1, 0] rfl h
    · have h := h.2 hc
      refine v_aload_n C 0 rfl dX10_couldFollow_24 ?_
      refine g9_24 C kb211 kd211 fl_X10_50 dX10_couldFollow_25 ?_
      refine v_iload C 3 rfl dX10_couldFollow_28 ?_
      obtain ⟨s1, h⟩ := h
      refine v_iald C kb224 kd224 ln224 s1 dX10_couldFollow_30 ?_
      refine v_iload_n C 1 rfl dX10_couldFollow_31 ?_
      refine v_icmp_ne C 57 (by decide) dX10_couldFollow_32 (fun hc => ?_) (fun hc => ?_)
      · have h := h.2 hc
        refine v_kc C (1) (by decide) dX10_couldFollow_57 ?_
        refine v_goto C 62 (by decide) dX10_couldFollow_58 ?_
        refine v_istore_n C [(3, .int ((1 : Int32))), (0, .ref (w.2.1 211)), (1, .int a1), (4, .int x4)] rfl (by decide) dX10_couldFollow_62 ?_
        refine v_iinc C (j := 3) [(4, .int (x4 + 1)), (3, .int ((1 : Int32))), (0, .ref (w.2.1 211)), (1, .int a1)] rfl (x4 + 1) rfl rfl (by decide) dX10_couldFollow_63 ?_
        refine v_goto C 11 (by decide) dX10_couldFollow_66 ?_
        exact V.sub [2, 3, 1, 0] rfl h
      · have h := h.1 hc
        refine v_aload_n C 0 rfl dX10_couldFollow_35 ?_
        refine g9_27 C kb211 kd211 fl_X10_59 dX10_couldFollow_36 ?_
        refine v_aload_n C 0 rfl dX10_couldFollow_39 ?_
        refine g9_25 C kb211 kd211 fl_X10_53 dX10_couldFollow_40 ?_
        refine v_iload C 3 rfl dX10_couldFollow_43 ?_
        obtain ⟨s2, h⟩ := h
        refine v_iald C kb225 kd225 ln225 s2 dX10_couldFollow_45 ?_
        obtain ⟨s3, h⟩ := h
        refine v_iald C kb227 kd227 ln227 s3 dX10_couldFollow_46 ?_
        refine v_aload_n C 0 rfl dX10_couldFollow_47 ?_
        refine g9_26 C kb211 kd211 fl_X10_56 dX10_couldFollow_48 ?_
        refine v_iload C 3 rfl dX10_couldFollow_51 ?_
        obtain ⟨s4, h⟩ := h
        refine v_iald C kb226 kd226 ln226 s4 dX10_couldFollow_53 ?_
        have key5 : V w G 62 [(0, .ref (w.2.1 211)), (1, .int a1), (3, .int x3), (4, .int x4)] (.int (if (M 227 (M 225 x4.toNatClampNeg).toNatClampNeg) = (M 226 x4.toNatClampNeg) then (1 : Int32) else (0 : Int32)) :: []) M := by
          refine v_istore_n C [(3, .int (if (M 227 (M 225 x4.toNatClampNeg).toNatClampNeg) = (M 226 x4.toNatClampNeg) then (1 : Int32) else (0 : Int32))), (0, .ref (w.2.1 211)), (1, .int a1), (4, .int x4)] rfl (by decide) dX10_couldFollow_62 ?_
          refine v_iinc C (j := 3) [(4, .int (x4 + 1)), (3, .int (if (M 227 (M 225 x4.toNatClampNeg).toNatClampNeg) = (M 226 x4.toNatClampNeg) then (1 : Int32) else (0 : Int32))), (0, .ref (w.2.1 211)), (1, .int a1)] rfl (x4 + 1) rfl rfl (by decide) dX10_couldFollow_63 ?_
          refine v_goto C 11 (by decide) dX10_couldFollow_66 ?_
          exact V.sub [2, 3, 1, 0] rfl h
        refine v_icmp_ne C 61 (by decide) dX10_couldFollow_54 (fun hc => ?_) (fun hc => ?_)
        · rw [show (if (M 227 (M 225 x4.toNatClampNeg).toNatClampNeg) = (M 226 x4.toNatClampNeg) then (1 : Int32) else (0 : Int32) : Int32) = (0 : Int32) from if_neg hc] at key5
          refine v_kc C (0) (by decide) dX10_couldFollow_61 ?_
          exact key5
        · rw [show (if (M 227 (M 225 x4.toNatClampNeg).toNatClampNeg) = (M 226 x4.toNatClampNeg) then (1 : Int32) else (0 : Int32) : Int32) = (1 : Int32) from if_pos hc] at key5
          refine v_kc C (1) (by decide) dX10_couldFollow_57 ?_
          refine v_goto C 62 (by decide) dX10_couldFollow_58 ?_
          exact key5
theorem mt_X10_couldFollow {w : Wx} {l : Launch} (k_X10_findWay : Ct_X10_findWay w l) : Ct_X10_couldFollow w l := by
  intro a1 a2 M Q h
  refine met_z (by decide +kernel) (Nat.le_of_ble_eq_true rfl) (fun G C hG Rt => ?_)
  subst hG
  exact wk_X10_couldFollow C Rt k_X10_findWay a1 a2 M (h _ (fun x3 x4 M h => wk_X10_couldFollow_11 C Rt k_X10_findWay a1 a2 x3 x4 M h))
theorem ct_X10_couldFollow (w : Wx) (l : Launch) : Ct_X10_couldFollow w l := mt_X10_couldFollow (ct_X10_findWay w l)
set_option maxRecDepth 4000 in
theorem wk_X10_whom {w : Wx} {G : Gx} {Q : Int32 → Mem → Prop} (C : Cx w G cX10_whom RX10 4 91 4) (Rt : ∀ (pc : Nat) (lv : List (Nat × Value)) (r0 : Int32) (M0 : Mem), decode cX10_whom pc = .ok (.ireturn, 1) → Q r0 M0 → V w G pc lv [.int r0] M0) (k_X10_isCar : Ct_X10_isCar w G.2.1) (k_X10_couldFollow : Ct_X10_couldFollow w G.2.1) (a1 : Int32) (M : Mem) (h : bd_X10_whom Q (fun (x2 : Int32) (x3 : Int32) (M : Mem) => V w G 15 [(0, .ref (w.2.1 211)), (1, .int a1), (2, .int x2), (3, .int x3)] [] M) a1 M) : V w G 0 [(0, .ref (w.2.1 211)), (1, .int a1)] [] M := by
  unfold bd_X10_whom at h
  refine v_aload_n C 0 rfl dX10_whom_0 ?_
  refine v_iload_n C 1 rfl dX10_whom_1 ?_
  refine v_callI C [] (k_X10_isCar a1 M _ h) yX10_isCar_k ml_X10_88 (rcv9 kb211 kd211) rfl rfl (Nat.le_of_ble_eq_true rfl) ⟨by decide, by decide⟩ dX10_whom_2 (fun r1 M1 h => ?_)
  refine v_if_ne C 11 (by decide) dX10_whom_5 (fun hc => ?_) (fun hc => ?_)
  · have h := h.2 hc
    refine v_kc C (0) (by decide) dX10_whom_11 ?_
    refine v_istore_n C [(2, .int ((0 : Int32))), (0, .ref (w.2.1 211)), (1, .int a1)] rfl (by decide) dX10_whom_12 ?_
    refine v_kc C (0) (by decide) dX10_whom_13 ?_
    refine v_istore_n C [(3, .int ((0 : Int32))), (2, .int ((0 : Int32))), (0, .ref (w.2.1 211)), (1, .int a1)] rfl (by decide) dX10_whom_14 ?_
    exact V.sub [2, 3, 1, 0] rfl h
  · have h := h.1 hc
    refine v_ldc C kc_X10_188 dX10_whom_8 ?_
    exact Rt _ _ _ _ dX10_whom_10 h
set_option maxRecDepth 4000 in
theorem wk_X10_whom_15 {w : Wx} {G : Gx} {Q : Int32 → Mem → Prop} (C : Cx w G cX10_whom RX10 4 91 4) (Rt : ∀ (pc : Nat) (lv : List (Nat × Value)) (r0 : Int32) (M0 : Mem), decode cX10_whom pc = .ok (.ireturn, 1) → Q r0 M0 → V w G pc lv [.int r0] M0) (k_X10_isCar : Ct_X10_isCar w G.2.1) (k_X10_couldFollow : Ct_X10_couldFollow w G.2.1) (a1 : Int32) (x2 : Int32) (x3 : Int32) (M : Mem) (h : bd_X10_whom_15 Q (fun (x2 : Int32) (x3 : Int32) (M : Mem) => V w G 15 [(0, .ref (w.2.1 211)), (1, .int a1), (2, .int x2), (3, .int x3)] [] M) a1 x2 x3 M) : V w G 15 [(0, .ref (w.2.1 211)), (1, .int a1), (2, .int x2), (3, .int x3)] [] M := by
  unfold bd_X10_whom_15 at h
  refine v_iload_n C 3 rfl dX10_whom_15 ?_
  refine v_aload_n C 0 rfl dX10_whom_16 ?_
  refine g9_2 C kb211 kd211 fl_X10_85 dX10_whom_17 ?_
  refine v_icmp_ge C 53 (by decide) dX10_whom_20 (fun hc => ?_) (fun hc => ?_)
  · have h := h.1 hc
    refine v_iload_n C 2 rfl dX10_whom_53 ?_
    exact Rt _ _ _ _ dX10_whom_54 h
  · have h := h.2 hc
    refine v_iload_n C 2 rfl dX10_whom_23 ?_
    refine v_iload_n C 3 rfl dX10_whom_24 ?_
    refine v_iload_n C 1 rfl dX10_whom_25 ?_
    refine v_icmp_eq C 44 (by decide) dX10_whom_26 (fun hc => ?_) (fun hc => ?_)
    · have h := h.1 hc
      refine v_kc C (0) (by decide) dX10_whom_44 ?_
      refine v_ior C dX10_whom_45 ?_
      refine v_istore_n C [(2, .int (x2 ||| ((0 : Int32)))), (0, .ref (w.2.1 211)), (1, .int a1), (3, .int x3)] rfl (by decide) dX10_whom_46 ?_
      refine v_iinc C (j := 3) [(3, .int (x3 + 1)), (2, .int (x2 ||| ((0 : Int32)))), (0, .ref (w.2.1 211)), (1, .int a1)] rfl (x3 + 1) rfl rfl (by decide) dX10_whom_47 ?_
      refine v_goto C 15 (by decide) dX10_whom_50 ?_
      exact V.sub [2, 3, 1, 0] rfl h
    · have h := h.2 hc
      refine v_aload_n C 0 rfl dX10_whom_29 ?_
      refine v_iload_n C 1 rfl dX10_whom_30 ?_
      refine v_iload_n C 3 rfl dX10_whom_31 ?_
      refine v_callI C [.int x2] (k_X10_couldFollow a1 x3 M _ h) yX10_couldFollow_k ml_X10_253 (rcv9 kb211 kd211) rfl rfl (Nat.le_of_ble_eq_true rfl) ⟨by decide, by decide⟩ dX10_whom_32 (fun r1 M1 h => ?_)
      have key2 : V w G 45 [(0, .ref (w.2.1 211)), (1, .int a1), (2, .int x2), (3, .int x3)] (.int (if r1 = 0 then (0 : Int32) else ((1 : Int32)) <<< (x3 &&& 31)) :: .int x2 :: []) M1 := by
        refine v_ior C dX10_whom_45 ?_
        refine v_istore_n C [(2, .int (x2 ||| (if r1 = 0 then (0 : Int32) else ((1 : Int32)) <<< (x3 &&& 31)))), (0, .ref (w.2.1 211)), (1, .int a1), (3, .int x3)] rfl (by decide) dX10_whom_46 ?_
        refine v_iinc C (j := 3) [(3, .int (x3 + 1)), (2, .int (x2 ||| (if r1 = 0 then (0 : Int32) else ((1 : Int32)) <<< (x3 &&& 31)))), (0, .ref (w.2.1 211)), (1, .int a1)] rfl (x3 + 1) rfl rfl (by decide) dX10_whom_47 ?_
        refine v_goto C 15 (by decide) dX10_whom_50 ?_
        exact V.sub [2, 3, 1, 0] rfl h
      refine v_if_eq C 44 (by decide) dX10_whom_35 (fun hc => ?_) (fun hc => ?_)
      · rw [show (if r1 = 0 then (0 : Int32) else ((1 : Int32)) <<< (x3 &&& 31) : Int32) = (0 : Int32) from if_pos hc] at key2
        refine v_kc C (0) (by decide) dX10_whom_44 ?_
        exact key2
      · rw [show (if r1 = 0 then (0 : Int32) else ((1 : Int32)) <<< (x3 &&& 31) : Int32) = ((1 : Int32)) <<< (x3 &&& 31) from if_neg hc] at key2
        refine v_kc C (1) (by decide) dX10_whom_38 ?_
        refine v_iload_n C 3 rfl dX10_whom_39 ?_
        refine v_ishl C dX10_whom_40 ?_
        refine v_goto C 45 (by decide) dX10_whom_41 ?_
        exact key2
theorem mt_X10_whom {w : Wx} {l : Launch} (k_X10_isCar : Ct_X10_isCar w l) (k_X10_couldFollow : Ct_X10_couldFollow w l) : Ct_X10_whom w l := by
  intro a1 M Q h
  refine met_i (by decide +kernel) (Nat.le_of_ble_eq_true rfl) (fun G C hG Rt => ?_)
  subst hG
  exact wk_X10_whom C Rt k_X10_isCar k_X10_couldFollow a1 M (h _ (fun x2 x3 M h => wk_X10_whom_15 C Rt k_X10_isCar k_X10_couldFollow a1 x2 x3 M h))
theorem ct_X10_whom (w : Wx) (l : Launch) : Ct_X10_whom w l := mt_X10_whom (ct_X10_isCar w l) (ct_X10_couldFollow w l)
set_option maxRecDepth 4000 in
theorem wk_X10_look {w : Wx} {G : Gx} {Q : Int32 → Mem → Prop} (C : Cx w G cX10_look RX10 4 91 8) (Rt : ∀ (pc : Nat) (lv : List (Nat × Value)) (r0 : Int32) (M0 : Mem), decode cX10_look pc = .ok (.ireturn, 1) → Q r0 M0 → V w G pc lv [.int r0] M0) (k_X10_isCar : Ct_X10_isCar w G.2.1) (k_X10_couldFollow : Ct_X10_couldFollow w G.2.1) (a1 : Int32) (M : Mem) (h : bd_X10_look Q (fun (x2 : Int32) (M : Mem) => V w G 13 [(0, .ref (w.2.1 211)), (1, .int a1), (2, .int x2)] [] M) (fun (x2 : Int32) (x3 : Int32) (M : Mem) => V w G 37 [(0, .ref (w.2.1 211)), (1, .int a1), (2, .int x2), (3, .int x3)] [] M) (fun (x2 : Int32) (x3 : Int32) (x4 : Int32) (M : Mem) => V w G 65 [(0, .ref (w.2.1 211)), (1, .int a1), (2, .int x2), (3, .int x3), (4, .int x4)] [] M) (fun (x3 : Int32) (x4 : Int32) (x5 : Int32) (M : Mem) => V w G 114 [(0, .ref (w.2.1 211)), (3, .int x3), (4, .int x4), (5, .int x5)] [] M) (fun (x3 : Int32) (x4 : Int32) (x5 : Int32) (x6 : Int32) (x7 : Int32) (M : Mem) => V w G 127 [(0, .ref (w.2.1 211)), (3, .int x3), (4, .int x4), (5, .int x5), (6, .int x6), (7, .int x7)] [] M) a1 M) : V w G 0 [(0, .ref (w.2.1 211)), (1, .int a1)] [] M := by
  unfold bd_X10_look at h
  refine v_aload_n C 0 rfl dX10_look_0 ?_
  refine v_iload_n C 1 rfl dX10_look_1 ?_
  refine v_callI C [] (k_X10_isCar a1 M _ h) yX10_isCar_k ml_X10_88 (rcv9 kb211 kd211) rfl rfl (Nat.le_of_ble_eq_true rfl) ⟨by decide, by decide⟩ dX10_look_2 (fun r1 M1 h => ?_)
  refine v_if_ne C 11 (by decide) dX10_look_5 (fun hc => ?_) (fun hc => ?_)
  · have h := h.2 hc
    refine v_kc C (0) (by decide) dX10_look_11 ?_
    refine v_istore_n C [(2, .int ((0 : Int32))), (0, .ref (w.2.1 211)), (1, .int a1)] rfl (by decide) dX10_look_12 ?_
    exact V.sub [1, 2, 0] rfl h
  · have h := h.1 hc
    refine v_ldc C kc_X10_188 dX10_look_8 ?_
    exact Rt _ _ _ _ dX10_look_10 h
set_option maxRecDepth 4000 in
theorem wk_X10_look_13 {w : Wx} {G : Gx} {Q : Int32 → Mem → Prop} (C : Cx w G cX10_look RX10 4 91 8) (Rt : ∀ (pc : Nat) (lv : List (Nat × Value)) (r0 : Int32) (M0 : Mem), decode cX10_look pc = .ok (.ireturn, 1) → Q r0 M0 → V w G pc lv [.int r0] M0) (k_X10_isCar : Ct_X10_isCar w G.2.1) (k_X10_couldFollow : Ct_X10_couldFollow w G.2.1) (a1 : Int32) (x2 : Int32) (M : Mem) (h : bd_X10_look_13 Q (fun (x2 : Int32) (M : Mem) => V w G 13 [(0, .ref (w.2.1 211)), (1, .int a1), (2, .int x2)] [] M) (fun (x2 : Int32) (x3 : Int32) (M : Mem) => V w G 37 [(0, .ref (w.2.1 211)), (1, .int a1), (2, .int x2), (3, .int x3)] [] M) (fun (x2 : Int32) (x3 : Int32) (x4 : Int32) (M : Mem) => V w G 65 [(0, .ref (w.2.1 211)), (1, .int a1), (2, .int x2), (3, .int x3), (4, .int x4)] [] M) (fun (x3 : Int32) (x4 : Int32) (x5 : Int32) (M : Mem) => V w G 114 [(0, .ref (w.2.1 211)), (3, .int x3), (4, .int x4), (5, .int x5)] [] M) (fun (x3 : Int32) (x4 : Int32) (x5 : Int32) (x6 : Int32) (x7 : Int32) (M : Mem) => V w G 127 [(0, .ref (w.2.1 211)), (3, .int x3), (4, .int x4), (5, .int x5), (6, .int x6), (7, .int x7)] [] M) a1 x2 M) : V w G 13 [(0, .ref (w.2.1 211)), (1, .int a1), (2, .int x2)] [] M := by
  unfold bd_X10_look_13 at h
  refine v_iload_n C 2 rfl dX10_look_13 ?_
  refine v_ks C (279) (by decide) dX10_look_14 ?_
  refine v_icmp_ge C 33 (by decide) dX10_look_17 (fun hc => ?_) (fun hc => ?_)
  · have h := h.1 hc
    refine v_kc C (0) (by decide) dX10_look_33 ?_
    refine v_istore_n C [(2, .int ((0 : Int32))), (0, .ref (w.2.1 211)), (1, .int a1)] rfl (by decide) dX10_look_34 ?_
    refine v_kc C (0) (by decide) dX10_look_35 ?_
    refine v_istore_n C [(3, .int ((0 : Int32))), (2, .int ((0 : Int32))), (0, .ref (w.2.1 211)), (1, .int a1)] rfl (by decide) dX10_look_36 ?_
    exact V.sub [2, 3, 1, 0] rfl h
  · have h := h.2 hc
    refine v_aload_n C 0 rfl dX10_look_20 ?_
    refine g9_28 C kb211 kd211 fl_X10_62 dX10_look_21 ?_
    refine v_iload_n C 2 rfl dX10_look_24 ?_
    refine v_kc C (0) (by decide) dX10_look_25 ?_
    obtain ⟨s1, h⟩ := h
    refine v_iast C kb228 kd228 ln228 s1 dX10_look_26 (fun M2 e2 => ?_)
    have h := h M2 e2
    refine v_iinc C (j := 2) [(2, .int (x2 + 1)), (0, .ref (w.2.1 211)), (1, .int a1)] rfl (x2 + 1) rfl rfl (by decide) dX10_look_27 ?_
    refine v_goto C 13 (by decide) dX10_look_30 ?_
    exact V.sub [1, 2, 0] rfl h
set_option maxRecDepth 4000 in
theorem wk_X10_look_37 {w : Wx} {G : Gx} {Q : Int32 → Mem → Prop} (C : Cx w G cX10_look RX10 4 91 8) (Rt : ∀ (pc : Nat) (lv : List (Nat × Value)) (r0 : Int32) (M0 : Mem), decode cX10_look pc = .ok (.ireturn, 1) → Q r0 M0 → V w G pc lv [.int r0] M0) (k_X10_isCar : Ct_X10_isCar w G.2.1) (k_X10_couldFollow : Ct_X10_couldFollow w G.2.1) (a1 : Int32) (x2 : Int32) (x3 : Int32) (M : Mem) (h : bd_X10_look_37 Q (fun (x2 : Int32) (M : Mem) => V w G 13 [(0, .ref (w.2.1 211)), (1, .int a1), (2, .int x2)] [] M) (fun (x2 : Int32) (x3 : Int32) (M : Mem) => V w G 37 [(0, .ref (w.2.1 211)), (1, .int a1), (2, .int x2), (3, .int x3)] [] M) (fun (x2 : Int32) (x3 : Int32) (x4 : Int32) (M : Mem) => V w G 65 [(0, .ref (w.2.1 211)), (1, .int a1), (2, .int x2), (3, .int x3), (4, .int x4)] [] M) (fun (x3 : Int32) (x4 : Int32) (x5 : Int32) (M : Mem) => V w G 114 [(0, .ref (w.2.1 211)), (3, .int x3), (4, .int x4), (5, .int x5)] [] M) (fun (x3 : Int32) (x4 : Int32) (x5 : Int32) (x6 : Int32) (x7 : Int32) (M : Mem) => V w G 127 [(0, .ref (w.2.1 211)), (3, .int x3), (4, .int x4), (5, .int x5), (6, .int x6), (7, .int x7)] [] M) a1 x2 x3 M) : V w G 37 [(0, .ref (w.2.1 211)), (1, .int a1), (2, .int x2), (3, .int x3)] [] M := by
  unfold bd_X10_look_37 at h
  refine v_iload_n C 3 rfl dX10_look_37 ?_
  refine v_aload_n C 0 rfl dX10_look_38 ?_
  refine g9_2 C kb211 kd211 fl_X10_85 dX10_look_39 ?_
  refine v_icmp_ge C 106 (by decide) dX10_look_42 (fun hc => ?_) (fun hc => ?_)
  · have h := h.1 hc
    refine v_kc C (-1) (by decide) dX10_look_106 ?_
    refine v_istore_n C [(3, .int ((-1 : Int32))), (0, .ref (w.2.1 211)), (1, .int a1), (2, .int x2)] rfl (by decide) dX10_look_107 ?_
    refine v_iload_n C 3 rfl dX10_look_108 ?_
    refine v_istore C [(4, .int x2), (3, .int ((-1 : Int32))), (0, .ref (w.2.1 211)), (1, .int a1), (2, .int x2)] rfl (by decide) dX10_look_109 ?_
    refine v_kc C (1) (by decide) dX10_look_111 ?_
    refine v_istore C [(5, .int ((1 : Int32))), (4, .int x2), (3, .int ((-1 : Int32))), (0, .ref (w.2.1 211)), (1, .int a1), (2, .int x2)] rfl (by decide) dX10_look_112 ?_
    exact V.sub [3, 2, 1, 0] rfl h
  · have h := h.2 hc
    refine v_iload_n C 3 rfl dX10_look_45 ?_
    refine v_iload_n C 1 rfl dX10_look_46 ?_
    refine v_icmp_eq C 100 (by decide) dX10_look_47 (fun hc => ?_) (fun hc => ?_)
    · have h := h.1 hc
      refine v_iinc C (j := 3) [(3, .int (x3 + 1)), (0, .ref (w.2.1 211)), (1, .int a1), (2, .int x2)] rfl (x3 + 1) rfl rfl (by decide) dX10_look_100 ?_
      refine v_goto C 37 (by decide) dX10_look_103 ?_
      exact V.sub [1, 2, 3, 0] rfl h
    · have h := h.2 hc
      refine v_aload_n C 0 rfl dX10_look_50 ?_
      refine v_iload_n C 1 rfl dX10_look_51 ?_
      refine v_iload_n C 3 rfl dX10_look_52 ?_
      refine v_callI C [] (k_X10_couldFollow a1 x3 M _ h) yX10_couldFollow_k ml_X10_253 (rcv9 kb211 kd211) rfl rfl (Nat.le_of_ble_eq_true rfl) ⟨by decide, by decide⟩ dX10_look_53 (fun r1 M1 h => ?_)
      refine v_if_eq C 100 (by decide) dX10_look_56 (fun hc => ?_) (fun hc => ?_)
      · have h := h.1 hc
        refine v_iinc C (j := 3) [(3, .int (x3 + 1)), (0, .ref (w.2.1 211)), (1, .int a1), (2, .int x2)] rfl (x3 + 1) rfl rfl (by decide) dX10_look_100 ?_
        refine v_goto C 37 (by decide) dX10_look_103 ?_
        exact V.sub [1, 2, 3, 0] rfl h
      · have h := h.2 hc
        refine v_iinc C (j := 2) [(2, .int (x2 + 1)), (0, .ref (w.2.1 211)), (1, .int a1), (3, .int x3)] rfl (x2 + 1) rfl rfl (by decide) dX10_look_59 ?_
        refine v_kc C (0) (by decide) dX10_look_62 ?_
        refine v_istore C [(4, .int ((0 : Int32))), (2, .int (x2 + 1)), (0, .ref (w.2.1 211)), (1, .int a1), (3, .int x3)] rfl (by decide) dX10_look_63 ?_
        exact V.sub [2, 3, 1, 4, 0] rfl h
set_option maxRecDepth 4000 in
theorem wk_X10_look_65 {w : Wx} {G : Gx} {Q : Int32 → Mem → Prop} (C : Cx w G cX10_look RX10 4 91 8) (Rt : ∀ (pc : Nat) (lv : List (Nat × Value)) (r0 : Int32) (M0 : Mem), decode cX10_look pc = .ok (.ireturn, 1) → Q r0 M0 → V w G pc lv [.int r0] M0) (k_X10_isCar : Ct_X10_isCar w G.2.1) (k_X10_couldFollow : Ct_X10_couldFollow w G.2.1) (a1 : Int32) (x2 : Int32) (x3 : Int32) (x4 : Int32) (M : Mem) (h : bd_X10_look_65 Q (fun (x2 : Int32) (M : Mem) => V w G 13 [(0, .ref (w.2.1 211)), (1, .int a1), (2, .int x2)] [] M) (fun (x2 : Int32) (x3 : Int32) (M : Mem) => V w G 37 [(0, .ref (w.2.1 211)), (1, .int a1), (2, .int x2), (3, .int x3)] [] M) (fun (x2 : Int32) (x3 : Int32) (x4 : Int32) (M : Mem) => V w G 65 [(0, .ref (w.2.1 211)), (1, .int a1), (2, .int x2), (3, .int x3), (4, .int x4)] [] M) (fun (x3 : Int32) (x4 : Int32) (x5 : Int32) (M : Mem) => V w G 114 [(0, .ref (w.2.1 211)), (3, .int x3), (4, .int x4), (5, .int x5)] [] M) (fun (x3 : Int32) (x4 : Int32) (x5 : Int32) (x6 : Int32) (x7 : Int32) (M : Mem) => V w G 127 [(0, .ref (w.2.1 211)), (3, .int x3), (4, .int x4), (5, .int x5), (6, .int x6), (7, .int x7)] [] M) a1 x2 x3 x4 M) : V w G 65 [(0, .ref (w.2.1 211)), (1, .int a1), (2, .int x2), (3, .int x3), (4, .int x4)] [] M := by
  unfold bd_X10_look_65 at h
  refine v_iload C 4 rfl dX10_look_65 ?_
  refine v_kb C (31) (by decide) dX10_look_67 ?_
  refine v_icmp_ge C 100 (by decide) dX10_look_69 (fun hc => ?_) (fun hc => ?_)
  · have h := h.1 hc
    refine v_iinc C (j := 3) [(3, .int (x3 + 1)), (0, .ref (w.2.1 211)), (1, .int a1), (2, .int x2), (4, .int x4)] rfl (x3 + 1) rfl rfl (by decide) dX10_look_100 ?_
    refine v_goto C 37 (by decide) dX10_look_103 ?_
    exact V.sub [1, 2, 3, 0] rfl h
  · have h := h.2 hc
    refine v_aload_n C 0 rfl dX10_look_72 ?_
    refine g9_28 C kb211 kd211 fl_X10_62 dX10_look_73 ?_
    refine v_kb C (9) (by decide) dX10_look_76 ?_
    refine v_iload C 4 rfl dX10_look_78 ?_
    refine v_imul C dX10_look_80 ?_
    refine v_aload_n C 0 rfl dX10_look_81 ?_
    refine g9_27 C kb211 kd211 fl_X10_59 dX10_look_82 ?_
    refine v_iload C 4 rfl dX10_look_85 ?_
    obtain ⟨s1, h⟩ := h
    refine v_iald C kb227 kd227 ln227 s1 dX10_look_87 ?_
    refine v_iadd C dX10_look_88 ?_
    refine v_dup2 C rfl rfl dX10_look_89 ?_
    obtain ⟨s2, h⟩ := h
    refine v_iald C kb228 kd228 ln228 s2 dX10_look_90 ?_
    refine v_kc C (1) (by decide) dX10_look_91 ?_
    refine v_iadd C dX10_look_92 ?_
    obtain ⟨s3, h⟩ := h
    refine v_iast C kb228 kd228 ln228 s3 dX10_look_93 (fun M4 e4 => ?_)
    have h := h M4 e4
    refine v_iinc C (j := 4) [(4, .int (x4 + 1)), (0, .ref (w.2.1 211)), (1, .int a1), (2, .int x2), (3, .int x3)] rfl (x4 + 1) rfl rfl (by decide) dX10_look_94 ?_
    refine v_goto C 65 (by decide) dX10_look_97 ?_
    exact V.sub [1, 2, 3, 4, 0] rfl h
set_option maxRecDepth 4000 in
theorem wk_X10_look_114 {w : Wx} {G : Gx} {Q : Int32 → Mem → Prop} (C : Cx w G cX10_look RX10 4 91 8) (Rt : ∀ (pc : Nat) (lv : List (Nat × Value)) (r0 : Int32) (M0 : Mem), decode cX10_look pc = .ok (.ireturn, 1) → Q r0 M0 → V w G pc lv [.int r0] M0) (k_X10_isCar : Ct_X10_isCar w G.2.1) (k_X10_couldFollow : Ct_X10_couldFollow w G.2.1) (a1 : Int32) (x3 : Int32) (x4 : Int32) (x5 : Int32) (M : Mem) (h : bd_X10_look_114 Q (fun (x2 : Int32) (M : Mem) => V w G 13 [(0, .ref (w.2.1 211)), (1, .int a1), (2, .int x2)] [] M) (fun (x2 : Int32) (x3 : Int32) (M : Mem) => V w G 37 [(0, .ref (w.2.1 211)), (1, .int a1), (2, .int x2), (3, .int x3)] [] M) (fun (x2 : Int32) (x3 : Int32) (x4 : Int32) (M : Mem) => V w G 65 [(0, .ref (w.2.1 211)), (1, .int a1), (2, .int x2), (3, .int x3), (4, .int x4)] [] M) (fun (x3 : Int32) (x4 : Int32) (x5 : Int32) (M : Mem) => V w G 114 [(0, .ref (w.2.1 211)), (3, .int x3), (4, .int x4), (5, .int x5)] [] M) (fun (x3 : Int32) (x4 : Int32) (x5 : Int32) (x6 : Int32) (x7 : Int32) (M : Mem) => V w G 127 [(0, .ref (w.2.1 211)), (3, .int x3), (4, .int x4), (5, .int x5), (6, .int x6), (7, .int x7)] [] M) a1 x3 x4 x5 M) : V w G 114 [(0, .ref (w.2.1 211)), (3, .int x3), (4, .int x4), (5, .int x5)] [] M := by
  unfold bd_X10_look_114 at h
  refine v_iload C 3 rfl dX10_look_114 ?_
  refine v_kb C (31) (by decide) dX10_look_116 ?_
  refine v_icmp_ge C 214 (by decide) dX10_look_118 (fun hc => ?_) (fun hc => ?_)
  · have h := h.1 hc
    refine v_iload_n C 1 rfl dX10_look_214 ?_
    exact Rt _ _ _ _ dX10_look_215 h
  · have h := h.2 hc
    refine v_kc C (0) (by decide) dX10_look_121 ?_
    refine v_istore C [(6, .int ((0 : Int32))), (0, .ref (w.2.1 211)), (3, .int x3), (4, .int x4), (5, .int x5)] rfl (by decide) dX10_look_122 ?_
    refine v_kc C (0) (by decide) dX10_look_124 ?_
    refine v_istore C [(7, .int ((0 : Int32))), (6, .int ((0 : Int32))), (0, .ref (w.2.1 211)), (3, .int x3), (4, .int x4), (5, .int x5)] rfl (by decide) dX10_look_125 ?_
    exact V.sub [2, 3, 4, 5, 1, 0] rfl h
set_option maxRecDepth 4000 in
theorem wk_X10_look_127 {w : Wx} {G : Gx} {Q : Int32 → Mem → Prop} (C : Cx w G cX10_look RX10 4 91 8) (Rt : ∀ (pc : Nat) (lv : List (Nat × Value)) (r0 : Int32) (M0 : Mem), decode cX10_look pc = .ok (.ireturn, 1) → Q r0 M0 → V w G pc lv [.int r0] M0) (k_X10_isCar : Ct_X10_isCar w G.2.1) (k_X10_couldFollow : Ct_X10_couldFollow w G.2.1) (a1 : Int32) (x3 : Int32) (x4 : Int32) (x5 : Int32) (x6 : Int32) (x7 : Int32) (M : Mem) (h : bd_X10_look_127 Q (fun (x2 : Int32) (M : Mem) => V w G 13 [(0, .ref (w.2.1 211)), (1, .int a1), (2, .int x2)] [] M) (fun (x2 : Int32) (x3 : Int32) (M : Mem) => V w G 37 [(0, .ref (w.2.1 211)), (1, .int a1), (2, .int x2), (3, .int x3)] [] M) (fun (x2 : Int32) (x3 : Int32) (x4 : Int32) (M : Mem) => V w G 65 [(0, .ref (w.2.1 211)), (1, .int a1), (2, .int x2), (3, .int x3), (4, .int x4)] [] M) (fun (x3 : Int32) (x4 : Int32) (x5 : Int32) (M : Mem) => V w G 114 [(0, .ref (w.2.1 211)), (3, .int x3), (4, .int x4), (5, .int x5)] [] M) (fun (x3 : Int32) (x4 : Int32) (x5 : Int32) (x6 : Int32) (x7 : Int32) (M : Mem) => V w G 127 [(0, .ref (w.2.1 211)), (3, .int x3), (4, .int x4), (5, .int x5), (6, .int x6), (7, .int x7)] [] M) a1 x3 x4 x5 x6 x7 M) : V w G 127 [(0, .ref (w.2.1 211)), (3, .int x3), (4, .int x4), (5, .int x5), (6, .int x6), (7, .int x7)] [] M := by
  unfold bd_X10_look_127 at h
  refine v_iload C 5 rfl dX10_look_127 ?_
  refine v_kb C (9) (by decide) dX10_look_129 ?_
  refine v_icmp_ge C 178 (by decide) dX10_look_131 (fun hc => ?_) (fun hc => ?_)
  · have h := h.1 hc
    refine v_iload C 4 rfl dX10_look_178 ?_
    refine v_iload C 2 rfl dX10_look_180 ?_
    have key1 : V w G 191 [(0, .ref (w.2.1 211)), (3, .int x3), (4, .int x4), (5, .int x5), (6, .int x6), (7, .int x7)] (.int (if x4 ≤ x6 then x3 else x5) :: []) M := by
      refine v_istore_n C [(3, .int (if x4 ≤ x6 then x3 else x5)), (0, .ref (w.2.1 211)), (4, .int x4), (5, .int x5), (6, .int x6), (7, .int x7)] rfl (by decide) dX10_look_191 ?_
      refine v_iload C 4 rfl dX10_look_192 ?_
      refine v_iload C 2 rfl dX10_look_194 ?_
      have key2 : V w G 206 [(3, .int (if x4 ≤ x6 then x3 else x5)), (0, .ref (w.2.1 211)), (4, .int x4), (5, .int x5), (6, .int x6), (7, .int x7)] (.int (if x4 ≤ x6 then x4 else x6) :: []) M := by
        refine v_istore C [(4, .int (if x4 ≤ x6 then x4 else x6)), (3, .int (if x4 ≤ x6 then x3 else x5)), (0, .ref (w.2.1 211)), (5, .int x5), (6, .int x6), (7, .int x7)] rfl (by decide) dX10_look_206 ?_
        refine v_iinc C (j := 3) [(5, .int (x5 + 1)), (4, .int (if x4 ≤ x6 then x4 else x6)), (3, .int (if x4 ≤ x6 then x3 else x5)), (0, .ref (w.2.1 211)), (6, .int x6), (7, .int x7)] rfl (x5 + 1) rfl rfl (by decide) dX10_look_208 ?_
        refine v_goto C 114 (by decide) dX10_look_211 ?_
        exact V.sub [3, 2, 1, 0] rfl h
      refine v_icmp_ge C 204 (by decide) dX10_look_196 (fun hc => ?_) (fun hc => ?_)
      · rw [show (if x4 ≤ x6 then x4 else x6 : Int32) = x4 from if_pos hc] at key2
        refine v_iload C 2 rfl dX10_look_204 ?_
        exact key2
      · rw [show (if x4 ≤ x6 then x4 else x6 : Int32) = x6 from if_neg hc] at key2
        refine v_iload C 4 rfl dX10_look_199 ?_
        refine v_goto C 206 (by decide) dX10_look_201 ?_
        exact key2
    refine v_icmp_ge C 190 (by decide) dX10_look_182 (fun hc => ?_) (fun hc => ?_)
    · rw [show (if x4 ≤ x6 then x3 else x5 : Int32) = x3 from if_pos hc] at key1
      refine v_iload_n C 1 rfl dX10_look_190 ?_
      exact key1
    · rw [show (if x4 ≤ x6 then x3 else x5 : Int32) = x5 from if_neg hc] at key1
      refine v_iload C 3 rfl dX10_look_185 ?_
      refine v_goto C 191 (by decide) dX10_look_187 ?_
      exact key1
  · have h := h.2 hc
    refine v_aload_n C 0 rfl dX10_look_134 ?_
    refine g9_28 C kb211 kd211 fl_X10_62 dX10_look_135 ?_
    refine v_kb C (9) (by decide) dX10_look_138 ?_
    refine v_iload C 3 rfl dX10_look_140 ?_
    refine v_imul C dX10_look_142 ?_
    refine v_iload C 5 rfl dX10_look_143 ?_
    refine v_iadd C dX10_look_145 ?_
    obtain ⟨s3, h⟩ := h
    refine v_iald C kb228 kd228 ln228 s3 dX10_look_146 ?_
    refine v_iload C 4 rfl dX10_look_147 ?_
    obtain ⟨ca4, cb4, h⟩ := h
    have key4 : V w G 170 [(0, .ref (w.2.1 211)), (3, .int x3), (4, .int x4), (5, .int x5), (6, .int x6), (7, .int x7)] (.int (if (M 228 ((((9 : Int32)) * x5) + x7).toNatClampNeg) ≤ x6 then x6 else M 228 ((((9 : Int32)) * x5) + x7).toNatClampNeg) :: []) M := by
      refine v_istore C [(6, .int (if (M 228 ((((9 : Int32)) * x5) + x7).toNatClampNeg) ≤ x6 then x6 else M 228 ((((9 : Int32)) * x5) + x7).toNatClampNeg)), (0, .ref (w.2.1 211)), (3, .int x3), (4, .int x4), (5, .int x5), (7, .int x7)] rfl (by decide) dX10_look_170 ?_
      refine v_iinc C (j := 5) [(7, .int (x7 + 1)), (6, .int (if (M 228 ((((9 : Int32)) * x5) + x7).toNatClampNeg) ≤ x6 then x6 else M 228 ((((9 : Int32)) * x5) + x7).toNatClampNeg)), (0, .ref (w.2.1 211)), (3, .int x3), (4, .int x4), (5, .int x5)] rfl (x7 + 1) rfl rfl (by decide) dX10_look_172 ?_
      refine v_goto C 127 (by decide) dX10_look_175 ?_
      exact V.sub [2, 3, 4, 5, 1, 0] rfl h
    refine v_icmp_le C 168 (by decide) dX10_look_149 (fun hc => ?_) (fun hc => ?_)
    · rw [show (if (M 228 ((((9 : Int32)) * x5) + x7).toNatClampNeg) ≤ x6 then x6 else M 228 ((((9 : Int32)) * x5) + x7).toNatClampNeg : Int32) = x6 from if_pos hc] at key4
      refine v_iload C 4 rfl dX10_look_168 ?_
      exact key4
    · rw [show (if (M 228 ((((9 : Int32)) * x5) + x7).toNatClampNeg) ≤ x6 then x6 else M 228 ((((9 : Int32)) * x5) + x7).toNatClampNeg : Int32) = M 228 ((((9 : Int32)) * x5) + x7).toNatClampNeg from if_neg hc] at key4
      obtain ⟨q0, -⟩ := cb4 hc
      refine v_aload_n C 0 rfl dX10_look_152 ?_
      refine g9_28 C kb211 kd211 fl_X10_62 dX10_look_153 ?_
      refine v_kb C (9) (by decide) dX10_look_156 ?_
      refine v_iload C 3 rfl dX10_look_158 ?_
      refine v_imul C dX10_look_160 ?_
      refine v_iload C 5 rfl dX10_look_161 ?_
      refine v_iadd C dX10_look_163 ?_
      refine v_iald C kb228 kd228 ln228 q0 dX10_look_164 ?_
      refine v_goto C 170 (by decide) dX10_look_165 ?_
      exact key4
theorem mt_X10_look {w : Wx} {l : Launch} (k_X10_isCar : Ct_X10_isCar w l) (k_X10_couldFollow : Ct_X10_couldFollow w l) : Ct_X10_look w l := by
  intro a1 M Q h
  refine met_i (by decide +kernel) (Nat.le_of_ble_eq_true rfl) (fun G C hG Rt => ?_)
  subst hG
  exact wk_X10_look C Rt k_X10_isCar k_X10_couldFollow a1 M (h _ _ _ _ _ (fun x2 M h => wk_X10_look_13 C Rt k_X10_isCar k_X10_couldFollow a1 x2 M h) (fun x2 x3 M h => wk_X10_look_37 C Rt k_X10_isCar k_X10_couldFollow a1 x2 x3 M h) (fun x2 x3 x4 M h => wk_X10_look_65 C Rt k_X10_isCar k_X10_couldFollow a1 x2 x3 x4 M h) (fun x3 x4 x5 M h => wk_X10_look_114 C Rt k_X10_isCar k_X10_couldFollow a1 x3 x4 x5 M h) (fun x3 x4 x5 x6 x7 M h => wk_X10_look_127 C Rt k_X10_isCar k_X10_couldFollow a1 x3 x4 x5 x6 x7 M h))
theorem ct_X10_look (w : Wx) (l : Launch) : Ct_X10_look w l := mt_X10_look (ct_X10_isCar w l) (ct_X10_couldFollow w l)
set_option maxRecDepth 4000 in
theorem wk_X10_write {w : Wx} {G : Gx} {Q : Int32 → Mem → Prop} (C : Cx w G cX10_write RX10 2 46 3) (Rt : ∀ (pc : Nat) (lv : List (Nat × Value)) (r0 : Int32) (M0 : Mem), decode cX10_write pc = .ok (.ireturn, 1) → Q r0 M0 → V w G pc lv [.int r0] M0) (k_X10_isCar : Ct_X10_isCar w G.2.1) (k_X10_isCorner : Ct_X10_isCorner w G.2.1) (a1 : Int32) (a2 : Int32) (M : Mem) (h : bd_X10_write Q a1 a2 M) : V w G 0 [(0, .ref (w.2.1 211)), (1, .int a1), (2, .int a2)] [] M := by
  unfold bd_X10_write at h
  refine v_aload_n C 0 rfl dX10_write_0 ?_
  refine v_iload_n C 1 rfl dX10_write_1 ?_
  refine v_callI C [] (k_X10_isCar a1 M _ h) yX10_isCar_k ml_X10_88 (rcv9 kb211 kd211) rfl rfl (Nat.le_of_ble_eq_true rfl) ⟨by decide, by decide⟩ dX10_write_2 (fun r1 M1 h => ?_)
  refine v_if_eq C 16 (by decide) dX10_write_5 (fun hc => ?_) (fun hc => ?_)
  · have h := h.1 hc
    refine v_ldc C kc_X10_188 dX10_write_16 ?_
    exact Rt _ _ _ _ dX10_write_18 h
  · have h := h.2 hc
    refine v_aload_n C 0 rfl dX10_write_8 ?_
    refine v_iload_n C 2 rfl dX10_write_9 ?_
    refine v_callI C [] (k_X10_isCorner a2 M1 _ h) yX10_isCorner_k ml_X10_235 (rcv9 kb211 kd211) rfl rfl (Nat.le_of_ble_eq_true rfl) ⟨by decide, by decide⟩ dX10_write_10 (fun r2 M2 h => ?_)
    refine v_if_ne C 19 (by decide) dX10_write_13 (fun hc => ?_) (fun hc => ?_)
    · have h := h.2 hc
      refine v_aload_n C 0 rfl dX10_write_19 ?_
      refine g9_29 C kb211 kd211 fl_X10_153 dX10_write_20 ?_
      refine v_kb C (15) (by decide) dX10_write_23 ?_
      refine v_icmp_ne C 31 (by decide) dX10_write_25 (fun hc => ?_) (fun hc => ?_)
      · have h := h.2 hc
        refine v_aload_n C 0 rfl dX10_write_31 ?_
        refine g9_30 C kb211 kd211 fl_X10_65 dX10_write_32 ?_
        refine v_aload_n C 0 rfl dX10_write_35 ?_
        refine g9_29 C kb211 kd211 fl_X10_153 dX10_write_36 ?_
        refine v_iload_n C 1 rfl dX10_write_39 ?_
        obtain ⟨s3, h⟩ := h
        refine v_iast C kb229 kd229 ln229 s3 dX10_write_40 (fun M4 e4 => ?_)
        have h := h M4 e4
        refine v_aload_n C 0 rfl dX10_write_41 ?_
        refine g9_31 C kb211 kd211 fl_X10_68 dX10_write_42 ?_
        refine v_aload_n C 0 rfl dX10_write_45 ?_
        refine g9_29 C kb211 kd211 fl_X10_153 dX10_write_46 ?_
        refine v_iload_n C 2 rfl dX10_write_49 ?_
        obtain ⟨s5, h⟩ := h
        refine v_iast C kb230 kd230 ln230 s5 dX10_write_50 (fun M6 e6 => ?_)
        have h := h M6 e6
        refine v_aload_n C 0 rfl dX10_write_51 ?_
        refine v_dup C rfl dX10_write_52 ?_
        refine g9_29 C kb211 kd211 fl_X10_153 dX10_write_53 ?_
        refine v_kc C (1) (by decide) dX10_write_56 ?_
        refine v_iadd C dX10_write_57 ?_
        refine p9_29 C kb211 kd211 fl_X10_153 dX10_write_58 (fun M7 e7 => ?_)
        have h := h M7 e7
        refine v_aload_n C 0 rfl dX10_write_61 ?_
        refine g9_29 C kb211 kd211 fl_X10_153 dX10_write_62 ?_
        exact Rt _ _ _ _ dX10_write_65 h
      · have h := h.1 hc
        refine v_ldc C kc_X10_98 dX10_write_28 ?_
        exact Rt _ _ _ _ dX10_write_30 h
    · have h := h.1 hc
      refine v_ldc C kc_X10_188 dX10_write_16 ?_
      exact Rt _ _ _ _ dX10_write_18 h
theorem mt_X10_write {w : Wx} {l : Launch} (k_X10_isCar : Ct_X10_isCar w l) (k_X10_isCorner : Ct_X10_isCorner w l) : Ct_X10_write w l := by
  intro a1 a2 M Q h
  refine met_i (by decide +kernel) (Nat.le_of_ble_eq_true rfl) (fun G C hG Rt => ?_)
  subst hG
  exact wk_X10_write C Rt k_X10_isCar k_X10_isCorner a1 a2 M (h)
theorem ct_X10_write (w : Wx) (l : Launch) : Ct_X10_write w l := mt_X10_write (ct_X10_isCar w l) (ct_X10_isCorner w l)
set_option maxRecDepth 4000 in
theorem wk_X10_tear {w : Wx} {G : Gx} {Q : Int32 → Mem → Prop} (C : Cx w G cX10_tear RX10 0 0 2) (Rt : ∀ (pc : Nat) (lv : List (Nat × Value)) (r0 : Int32) (M0 : Mem), decode cX10_tear pc = .ok (.ireturn, 1) → Q r0 M0 → V w G pc lv [.int r0] M0) (M : Mem) (h : bd_X10_tear Q M) : V w G 0 [(0, .ref (w.2.1 211))] [] M := by
  unfold bd_X10_tear at h
  refine v_aload_n C 0 rfl dX10_tear_0 ?_
  refine g9_23 C kb211 kd211 fl_X10_150 dX10_tear_1 ?_
  refine v_aload_n C 0 rfl dX10_tear_4 ?_
  refine g9_29 C kb211 kd211 fl_X10_153 dX10_tear_5 ?_
  refine v_iadd C dX10_tear_8 ?_
  refine v_istore_n C [(1, .int ((M 211 23) + (M 211 29))), (0, .ref (w.2.1 211))] rfl (by decide) dX10_tear_9 ?_
  refine v_aload_n C 1 rfl dX10_tear_10 ?_
  refine v_kc C (0) (by decide) dX10_tear_11 ?_
  refine p9_23 C kb211 kd211 fl_X10_150 dX10_tear_12 (fun M1 e1 => ?_)
  have h := h M1 e1
  refine v_aload_n C 1 rfl dX10_tear_15 ?_
  refine v_kc C (0) (by decide) dX10_tear_16 ?_
  refine p9_29 C kb211 kd211 fl_X10_153 dX10_tear_17 (fun M2 e2 => ?_)
  have h := h M2 e2
  refine v_iload_n C 0 rfl dX10_tear_20 ?_
  exact Rt _ _ _ _ dX10_tear_21 h
theorem mt_X10_tear {w : Wx} {l : Launch} : Ct_X10_tear w l := by
  intro M Q h
  refine met_i (by decide +kernel) (Nat.le_of_ble_eq_true rfl) (fun G C hG Rt => ?_)
  subst hG
  exact wk_X10_tear C Rt M (h)
theorem ct_X10_tear (w : Wx) (l : Launch) : Ct_X10_tear w l := mt_X10_tear
set_option maxRecDepth 4000 in
theorem wk_X10_judge {w : Wx} {G : Gx} {Q : Int32 → Mem → Prop} (C : Cx w G cX10_judge RX10 0 0 2) (Rt : ∀ (pc : Nat) (lv : List (Nat × Value)) (r0 : Int32) (M0 : Mem), decode cX10_judge pc = .ok (.ireturn, 1) → Q r0 M0 → V w G pc lv [.int r0] M0) (M : Mem) (h : bd_X10_judge Q (fun (x1 : Int32) (M : Mem) => V w G 2 [(0, .ref (w.2.1 211)), (1, .int x1)] [] M) M) : V w G 0 [(0, .ref (w.2.1 211))] [] M := by
  unfold bd_X10_judge at h
  refine v_kc C (0) (by decide) dX10_judge_0 ?_
  refine v_istore_n C [(1, .int ((0 : Int32))), (0, .ref (w.2.1 211))] rfl (by decide) dX10_judge_1 ?_
  exact V.sub [1, 0] rfl h
set_option maxRecDepth 4000 in
theorem wk_X10_judge_2 {w : Wx} {G : Gx} {Q : Int32 → Mem → Prop} (C : Cx w G cX10_judge RX10 0 0 2) (Rt : ∀ (pc : Nat) (lv : List (Nat × Value)) (r0 : Int32) (M0 : Mem), decode cX10_judge pc = .ok (.ireturn, 1) → Q r0 M0 → V w G pc lv [.int r0] M0) (x1 : Int32) (M : Mem) (h : bd_X10_judge_2 Q (fun (x1 : Int32) (M : Mem) => V w G 2 [(0, .ref (w.2.1 211)), (1, .int x1)] [] M) x1 M) : V w G 2 [(0, .ref (w.2.1 211)), (1, .int x1)] [] M := by
  unfold bd_X10_judge_2 at h
  refine v_iload_n C 1 rfl dX10_judge_2 ?_
  refine v_aload_n C 0 rfl dX10_judge_3 ?_
  refine g9_29 C kb211 kd211 fl_X10_153 dX10_judge_4 ?_
  refine v_icmp_ge C 38 (by decide) dX10_judge_7 (fun hc => ?_) (fun hc => ?_)
  · have h := h.1 hc
    refine v_kc C (-1) (by decide) dX10_judge_38 ?_
    exact Rt _ _ _ _ dX10_judge_39 h
  · have h := h.2 hc
    refine v_aload_n C 0 rfl dX10_judge_10 ?_
    refine g9_5 C kb211 kd211 fl_X10_16 dX10_judge_11 ?_
    refine v_aload_n C 0 rfl dX10_judge_14 ?_
    refine g9_30 C kb211 kd211 fl_X10_65 dX10_judge_15 ?_
    refine v_iload_n C 1 rfl dX10_judge_18 ?_
    obtain ⟨s1, h⟩ := h
    refine v_iald C kb229 kd229 ln229 s1 dX10_judge_19 ?_
    obtain ⟨s2, h⟩ := h
    refine v_iald C kb214 kd214 ln214 s2 dX10_judge_20 ?_
    refine v_aload_n C 0 rfl dX10_judge_21 ?_
    refine g9_31 C kb211 kd211 fl_X10_68 dX10_judge_22 ?_
    refine v_iload_n C 1 rfl dX10_judge_25 ?_
    obtain ⟨s3, h⟩ := h
    refine v_iald C kb230 kd230 ln230 s3 dX10_judge_26 ?_
    refine v_icmp_eq C 32 (by decide) dX10_judge_27 (fun hc => ?_) (fun hc => ?_)
    · have h := h.1 hc
      refine v_iinc C (j := 1) [(1, .int (x1 + 1)), (0, .ref (w.2.1 211))] rfl (x1 + 1) rfl rfl (by decide) dX10_judge_32 ?_
      refine v_goto C 2 (by decide) dX10_judge_35 ?_
      exact V.sub [1, 0] rfl h
    · have h := h.2 hc
      refine v_iload_n C 1 rfl dX10_judge_30 ?_
      exact Rt _ _ _ _ dX10_judge_31 h
theorem mt_X10_judge {w : Wx} {l : Launch} : Ct_X10_judge w l := by
  intro M Q h
  refine met_i (by decide +kernel) (Nat.le_of_ble_eq_true rfl) (fun G C hG Rt => ?_)
  subst hG
  exact wk_X10_judge C Rt M (h _ (fun x1 M h => wk_X10_judge_2 C Rt x1 M h))
theorem ct_X10_judge (w : Wx) (l : Launch) : Ct_X10_judge w l := mt_X10_judge
set_option maxRecDepth 4000 in
theorem wk_X10_seed {w : Wx} {G : Gx} {Q : Int32 → Mem → Prop} (C : Cx w G cX10_seed RX10 0 0 3) (Rt : ∀ (pc : Nat) (lv : List (Nat × Value)) (r0 : Int32) (M0 : Mem), decode cX10_seed pc = .ok (.ireturn, 1) → Q r0 M0 → V w G pc lv [.int r0] M0) (a1 : Int32) (M : Mem) (h : bd_X10_seed Q a1 M) : V w G 0 [(0, .ref (w.2.1 211)), (1, .int a1)] [] M := by
  unfold bd_X10_seed at h
  refine v_iload_n C 1 rfl dX10_seed_0 ?_
  refine v_if_ge C 7 (by decide) dX10_seed_1 (fun hc => ?_) (fun hc => ?_)
  · have h := h.1 hc
    refine v_aload_n C 0 rfl dX10_seed_7 ?_
    refine g9_6 C kb211 kd211 fl_X10_207 dX10_seed_8 ?_
    refine v_istore_n C [(2, .int (M 211 6)), (0, .ref (w.2.1 211)), (1, .int a1)] rfl (by decide) dX10_seed_11 ?_
    refine v_aload_n C 1 rfl dX10_seed_12 ?_
    refine v_iload_n C 2 rfl dX10_seed_13 ?_
    refine p9_6 C kb211 kd211 fl_X10_207 dX10_seed_14 (fun M1 e1 => ?_)
    have h := h M1 e1
    refine v_iload_n C 0 rfl dX10_seed_17 ?_
    exact Rt _ _ _ _ dX10_seed_18 h
  · have h := h.2 hc
    refine v_ldc C kc_X10_94 dX10_seed_4 ?_
    exact Rt _ _ _ _ dX10_seed_6 h
theorem mt_X10_seed {w : Wx} {l : Launch} : Ct_X10_seed w l := by
  intro a1 M Q h
  refine met_i (by decide +kernel) (Nat.le_of_ble_eq_true rfl) (fun G C hG Rt => ?_)
  subst hG
  exact wk_X10_seed C Rt a1 M (h)
theorem ct_X10_seed (w : Wx) (l : Launch) : Ct_X10_seed w l := mt_X10_seed
set_option maxRecDepth 4000 in
theorem wk_X10_keep {w : Wx} {G : Gx} {Q : Int32 → Mem → Prop} (C : Cx w G cX10_keep RX10 1 25 3) (Rt : ∀ (pc : Nat) (lv : List (Nat × Value)) (r0 : Int32) (M0 : Mem), decode cX10_keep pc = .ok (.ireturn, 1) → Q r0 M0 → V w G pc lv [.int r0] M0) (k_X10_in : Ct_X10_in w G.2.1) (a1 : Int32) (M : Mem) (h : bd_X10_keep Q (fun (x2 : Int32) (M : Mem) => V w G 15 [(0, .ref (w.2.1 211)), (1, .int a1), (2, .int x2)] [] M) a1 M) : V w G 0 [(0, .ref (w.2.1 211)), (1, .int a1)] [] M := by
  unfold bd_X10_keep at h
  refine v_iload_n C 1 rfl dX10_keep_0 ?_
  refine v_i2l C dX10_keep_1 ?_
  refine v_lconst C 0 (by decide) dX10_keep_2 ?_
  refine v_lconst C 1 (by decide) dX10_keep_3 ?_
  refine v_callSI C [] (k_X10_in a1.toInt64 ((0 : Int64)) ((1 : Int64)) M _ h) yX10_in_k ml_X10_81 rfl rfl (Nat.le_of_ble_eq_true rfl) ⟨by decide, by decide⟩ dX10_keep_4 (fun r1 M1 h => ?_)
  refine v_if_ne C 13 (by decide) dX10_keep_7 (fun hc => ?_) (fun hc => ?_)
  · have h := h.2 hc
    refine v_kc C (0) (by decide) dX10_keep_13 ?_
    refine v_istore_n C [(2, .int ((0 : Int32))), (0, .ref (w.2.1 211)), (1, .int a1)] rfl (by decide) dX10_keep_14 ?_
    exact V.sub [1, 2, 0] rfl h
  · have h := h.1 hc
    refine v_ldc C kc_X10_188 dX10_keep_10 ?_
    exact Rt _ _ _ _ dX10_keep_12 h
set_option maxRecDepth 4000 in
theorem wk_X10_keep_15 {w : Wx} {G : Gx} {Q : Int32 → Mem → Prop} (C : Cx w G cX10_keep RX10 1 25 3) (Rt : ∀ (pc : Nat) (lv : List (Nat × Value)) (r0 : Int32) (M0 : Mem), decode cX10_keep pc = .ok (.ireturn, 1) → Q r0 M0 → V w G pc lv [.int r0] M0) (k_X10_in : Ct_X10_in w G.2.1) (a1 : Int32) (x2 : Int32) (M : Mem) (h : bd_X10_keep_15 Q (fun (x2 : Int32) (M : Mem) => V w G 15 [(0, .ref (w.2.1 211)), (1, .int a1), (2, .int x2)] [] M) a1 x2 M) : V w G 15 [(0, .ref (w.2.1 211)), (1, .int a1), (2, .int x2)] [] M := by
  unfold bd_X10_keep_15 at h
  refine v_iload_n C 2 rfl dX10_keep_15 ?_
  refine v_kb C (41) (by decide) dX10_keep_16 ?_
  refine v_icmp_ge C 44 (by decide) dX10_keep_18 (fun hc => ?_) (fun hc => ?_)
  · have h := h.1 hc
    refine v_aload_n C 0 rfl dX10_keep_44 ?_
    refine g9_32 C kb211 kd211 fl_X10_71 dX10_keep_45 ?_
    refine v_kb C (42) (by decide) dX10_keep_48 ?_
    refine v_iload_n C 1 rfl dX10_keep_50 ?_
    refine v_imul C dX10_keep_51 ?_
    refine v_kb C (41) (by decide) dX10_keep_52 ?_
    refine v_iadd C dX10_keep_54 ?_
    refine v_aload_n C 0 rfl dX10_keep_55 ?_
    refine g9_6 C kb211 kd211 fl_X10_207 dX10_keep_56 ?_
    obtain ⟨s1, h⟩ := h
    refine v_iast C kb231 kd231 ln231 s1 dX10_keep_59 (fun M2 e2 => ?_)
    have h := h M2 e2
    refine v_aload_n C 0 rfl dX10_keep_60 ?_
    refine g9_33 C kb211 kd211 fl_X10_74 dX10_keep_61 ?_
    refine v_iload_n C 1 rfl dX10_keep_64 ?_
    refine v_kc C (1) (by decide) dX10_keep_65 ?_
    obtain ⟨s3, h⟩ := h
    refine v_zast C kb232 kd232 ln232 s3 dX10_keep_66 (fun M4 e4 => ?_)
    have h := h M4 e4
    refine v_aload_n C 0 rfl dX10_keep_67 ?_
    refine v_kc C (0) (by decide) dX10_keep_68 ?_
    refine p9_20 C kb211 kd211 fl_X10_156 dX10_keep_69 (fun M5 e5 => ?_)
    have h := h M5 e5
    refine v_kc C (1) (by decide) dX10_keep_72 ?_
    exact Rt _ _ _ _ dX10_keep_73 h
  · have h := h.2 hc
    refine v_aload_n C 0 rfl dX10_keep_21 ?_
    refine g9_32 C kb211 kd211 fl_X10_71 dX10_keep_22 ?_
    refine v_kb C (42) (by decide) dX10_keep_25 ?_
    refine v_iload_n C 1 rfl dX10_keep_27 ?_
    refine v_imul C dX10_keep_28 ?_
    refine v_iload_n C 2 rfl dX10_keep_29 ?_
    refine v_iadd C dX10_keep_30 ?_
    refine v_aload_n C 0 rfl dX10_keep_31 ?_
    refine g9_5 C kb211 kd211 fl_X10_16 dX10_keep_32 ?_
    refine v_iload_n C 2 rfl dX10_keep_35 ?_
    obtain ⟨s6, h⟩ := h
    refine v_iald C kb214 kd214 ln214 s6 dX10_keep_36 ?_
    obtain ⟨s7, h⟩ := h
    refine v_iast C kb231 kd231 ln231 s7 dX10_keep_37 (fun M8 e8 => ?_)
    have h := h M8 e8
    refine v_iinc C (j := 2) [(2, .int (x2 + 1)), (0, .ref (w.2.1 211)), (1, .int a1)] rfl (x2 + 1) rfl rfl (by decide) dX10_keep_38 ?_
    refine v_goto C 15 (by decide) dX10_keep_41 ?_
    exact V.sub [1, 2, 0] rfl h
theorem mt_X10_keep {w : Wx} {l : Launch} (k_X10_in : Ct_X10_in w l) : Ct_X10_keep w l := by
  intro a1 M Q h
  refine met_i (by decide +kernel) (Nat.le_of_ble_eq_true rfl) (fun G C hG Rt => ?_)
  subst hG
  exact wk_X10_keep C Rt k_X10_in a1 M (h _ (fun x2 M h => wk_X10_keep_15 C Rt k_X10_in a1 x2 M h))
theorem ct_X10_keep (w : Wx) (l : Launch) : Ct_X10_keep w l := mt_X10_keep (ct_X10_in w l)
set_option maxRecDepth 4000 in
theorem wk_X10_goBack {w : Wx} {G : Gx} {Q : Int32 → Mem → Prop} (C : Cx w G cX10_goBack RX10 1 25 3) (Rt : ∀ (pc : Nat) (lv : List (Nat × Value)) (r0 : Int32) (M0 : Mem), decode cX10_goBack pc = .ok (.ireturn, 1) → Q r0 M0 → V w G pc lv [.int r0] M0) (k_X10_in : Ct_X10_in w G.2.1) (a1 : Int32) (M : Mem) (h : bd_X10_goBack Q (fun (x2 : Int32) (M : Mem) => V w G 27 [(0, .ref (w.2.1 211)), (1, .int a1), (2, .int x2)] [] M) a1 M) : V w G 0 [(0, .ref (w.2.1 211)), (1, .int a1)] [] M := by
  unfold bd_X10_goBack at h
  refine v_iload_n C 1 rfl dX10_goBack_0 ?_
  refine v_i2l C dX10_goBack_1 ?_
  refine v_lconst C 0 (by decide) dX10_goBack_2 ?_
  refine v_lconst C 1 (by decide) dX10_goBack_3 ?_
  refine v_callSI C [] (k_X10_in a1.toInt64 ((0 : Int64)) ((1 : Int64)) M _ h) yX10_in_k ml_X10_81 rfl rfl (Nat.le_of_ble_eq_true rfl) ⟨by decide, by decide⟩ dX10_goBack_4 (fun r1 M1 h => ?_)
  refine v_if_ne C 13 (by decide) dX10_goBack_7 (fun hc => ?_) (fun hc => ?_)
  · have h := h.2 hc
    refine v_aload_n C 0 rfl dX10_goBack_13 ?_
    refine g9_33 C kb211 kd211 fl_X10_74 dX10_goBack_14 ?_
    refine v_iload_n C 1 rfl dX10_goBack_17 ?_
    obtain ⟨s2, h⟩ := h
    refine v_zald C kb232 kd232 ln232 s2 dX10_goBack_18 ?_
    refine v_if_ne C 25 (by decide) dX10_goBack_19 (fun hc => ?_) (fun hc => ?_)
    · have h := h.2 hc
      refine v_kc C (0) (by decide) dX10_goBack_25 ?_
      refine v_istore_n C [(2, .int ((0 : Int32))), (0, .ref (w.2.1 211)), (1, .int a1)] rfl (by decide) dX10_goBack_26 ?_
      exact V.sub [1, 2, 0] rfl h
    · have h := h.1 hc
      refine v_ldc C kc_X10_194 dX10_goBack_22 ?_
      exact Rt _ _ _ _ dX10_goBack_24 h
  · have h := h.1 hc
    refine v_ldc C kc_X10_188 dX10_goBack_10 ?_
    exact Rt _ _ _ _ dX10_goBack_12 h
set_option maxRecDepth 4000 in
theorem wk_X10_goBack_27 {w : Wx} {G : Gx} {Q : Int32 → Mem → Prop} (C : Cx w G cX10_goBack RX10 1 25 3) (Rt : ∀ (pc : Nat) (lv : List (Nat × Value)) (r0 : Int32) (M0 : Mem), decode cX10_goBack pc = .ok (.ireturn, 1) → Q r0 M0 → V w G pc lv [.int r0] M0) (k_X10_in : Ct_X10_in w G.2.1) (a1 : Int32) (x2 : Int32) (M : Mem) (h : bd_X10_goBack_27 Q (fun (x2 : Int32) (M : Mem) => V w G 27 [(0, .ref (w.2.1 211)), (1, .int a1), (2, .int x2)] [] M) a1 x2 M) : V w G 27 [(0, .ref (w.2.1 211)), (1, .int a1), (2, .int x2)] [] M := by
  unfold bd_X10_goBack_27 at h
  refine v_iload_n C 2 rfl dX10_goBack_27 ?_
  refine v_kb C (41) (by decide) dX10_goBack_28 ?_
  refine v_icmp_ge C 56 (by decide) dX10_goBack_30 (fun hc => ?_) (fun hc => ?_)
  · have h := h.1 hc
    refine v_aload_n C 0 rfl dX10_goBack_56 ?_
    refine v_aload_n C 0 rfl dX10_goBack_57 ?_
    refine g9_32 C kb211 kd211 fl_X10_71 dX10_goBack_58 ?_
    refine v_kb C (42) (by decide) dX10_goBack_61 ?_
    refine v_iload_n C 1 rfl dX10_goBack_63 ?_
    refine v_imul C dX10_goBack_64 ?_
    refine v_kb C (41) (by decide) dX10_goBack_65 ?_
    refine v_iadd C dX10_goBack_67 ?_
    obtain ⟨s1, h⟩ := h
    refine v_iald C kb231 kd231 ln231 s1 dX10_goBack_68 ?_
    refine p9_6 C kb211 kd211 fl_X10_207 dX10_goBack_69 (fun M2 e2 => ?_)
    have h := h M2 e2
    refine v_aload_n C 0 rfl dX10_goBack_72 ?_
    refine v_kc C (0) (by decide) dX10_goBack_73 ?_
    refine p9_20 C kb211 kd211 fl_X10_156 dX10_goBack_74 (fun M3 e3 => ?_)
    have h := h M3 e3
    refine v_kc C (1) (by decide) dX10_goBack_77 ?_
    exact Rt _ _ _ _ dX10_goBack_78 h
  · have h := h.2 hc
    refine v_aload_n C 0 rfl dX10_goBack_33 ?_
    refine g9_5 C kb211 kd211 fl_X10_16 dX10_goBack_34 ?_
    refine v_iload_n C 2 rfl dX10_goBack_37 ?_
    refine v_aload_n C 0 rfl dX10_goBack_38 ?_
    refine g9_32 C kb211 kd211 fl_X10_71 dX10_goBack_39 ?_
    refine v_kb C (42) (by decide) dX10_goBack_42 ?_
    refine v_iload_n C 1 rfl dX10_goBack_44 ?_
    refine v_imul C dX10_goBack_45 ?_
    refine v_iload_n C 2 rfl dX10_goBack_46 ?_
    refine v_iadd C dX10_goBack_47 ?_
    obtain ⟨s4, h⟩ := h
    refine v_iald C kb231 kd231 ln231 s4 dX10_goBack_48 ?_
    obtain ⟨s5, h⟩ := h
    refine v_iast C kb214 kd214 ln214 s5 dX10_goBack_49 (fun M6 e6 => ?_)
    have h := h M6 e6
    refine v_iinc C (j := 2) [(2, .int (x2 + 1)), (0, .ref (w.2.1 211)), (1, .int a1)] rfl (x2 + 1) rfl rfl (by decide) dX10_goBack_50 ?_
    refine v_goto C 27 (by decide) dX10_goBack_53 ?_
    exact V.sub [1, 2, 0] rfl h
theorem mt_X10_goBack {w : Wx} {l : Launch} (k_X10_in : Ct_X10_in w l) : Ct_X10_goBack w l := by
  intro a1 M Q h
  refine met_i (by decide +kernel) (Nat.le_of_ble_eq_true rfl) (fun G C hG Rt => ?_)
  subst hG
  exact wk_X10_goBack C Rt k_X10_in a1 M (h _ (fun x2 M h => wk_X10_goBack_27 C Rt k_X10_in a1 x2 M h))
theorem ct_X10_goBack (w : Wx) (l : Launch) : Ct_X10_goBack w l := mt_X10_goBack (ct_X10_in w l)
