set_option maxRecDepth 4000 in
theorem wk_X9_drift {w : Wx} {G : Gx} {Q : Int32 → Mem → Prop} (C : Cx w G cX9_drift RX9 4 87 4) (Rt : ∀ (pc : Nat) (lv : List (Nat × Value)) (r0 : Int32) (M0 : Mem), decode cX9_drift pc = .ok (.ireturn, 1) → Q r0 M0 → V w G pc lv [.int r0] M0) (k_X9_refusalOfSteps : Ct_X9_refusalOfSteps w G.2.1) (k_X4_push : Ct_X4_push w G.2.1) (k_X9_askByDraws : Ct_X9_askByDraws w G.2.1) (k_X7_move : Ct_X7_move w G.2.1) (a1 : Int32) (M : Mem) (h : bd_X9_drift Q (fun (x3 : Int32) (M : Mem) => V w G 25 [(0, .ref (w.2.1 0)), (1, .int a1), (3, .int x3)] [] M) a1 M) : V w G 0 [(0, .ref (w.2.1 0)), (1, .int a1)] [] M := by
  unfold bd_X9_drift at h
  refine v_aload_n C 0 rfl dX9_drift_0 ?_
  refine v_iload_n C 1 rfl dX9_drift_1 ?_
  refine v_callI C [] (k_X9_refusalOfSteps a1 M _ h) yX9_refusalOfSteps_k ml_X9_157 (rcv8 kb0 kd0) rfl rfl (Nat.le_of_ble_eq_true rfl) ⟨by decide, by decide⟩ dX9_drift_2 (fun r1 M1 h => ?_)
  refine v_istore_n C [(2, .int r1), (0, .ref (w.2.1 0)), (1, .int a1)] rfl (by decide) dX9_drift_5 ?_
  refine v_iload_n C 0 rfl dX9_drift_6 ?_
  refine v_if_eq C 12 (by decide) dX9_drift_7 (fun hc => ?_) (fun hc => ?_)
  · have h := h.1 hc
    refine v_aload_n C 1 rfl dX9_drift_12 ?_
    refine g8_4 C kb0 kd0 fl_X9_38 dX9_drift_13 ?_
    refine v_aload_n C 1 rfl dX9_drift_16 ?_
    refine g8_2 C kb0 kd0 fl_X9_28 dX9_drift_17 ?_
    refine v_callV C [] (k_X4_push M1 _ h) yX4_push_k ml_X9_161 (rcv3 kb25 kd25) rfl rfl (Nat.le_of_ble_eq_true rfl) ⟨by decide, by decide⟩ dX9_drift_20 (fun M2 h => ?_)
    refine v_kc C (0) (by decide) dX9_drift_23 ?_
    refine v_istore_n C [(3, .int ((0 : Int32))), (2, .int r1), (0, .ref (w.2.1 0)), (1, .int a1)] rfl (by decide) dX9_drift_24 ?_
    exact V.sub [2, 3, 0] rfl h
  · have h := h.2 hc
    refine v_iload_n C 0 rfl dX9_drift_10 ?_
    exact Rt _ _ _ _ dX9_drift_11 h
set_option maxRecDepth 4000 in
theorem wk_X9_drift_25 {w : Wx} {G : Gx} {Q : Int32 → Mem → Prop} (C : Cx w G cX9_drift RX9 4 87 4) (Rt : ∀ (pc : Nat) (lv : List (Nat × Value)) (r0 : Int32) (M0 : Mem), decode cX9_drift pc = .ok (.ireturn, 1) → Q r0 M0 → V w G pc lv [.int r0] M0) (k_X9_refusalOfSteps : Ct_X9_refusalOfSteps w G.2.1) (k_X4_push : Ct_X4_push w G.2.1) (k_X9_askByDraws : Ct_X9_askByDraws w G.2.1) (k_X7_move : Ct_X7_move w G.2.1) (a1 : Int32) (x3 : Int32) (M : Mem) (h : bd_X9_drift_25 Q (fun (x3 : Int32) (M : Mem) => V w G 25 [(0, .ref (w.2.1 0)), (1, .int a1), (3, .int x3)] [] M) a1 x3 M) : V w G 25 [(0, .ref (w.2.1 0)), (1, .int a1), (3, .int x3)] [] M := by
  unfold bd_X9_drift_25 at h
  refine v_iload_n C 2 rfl dX9_drift_25 ?_
  refine v_iload_n C 1 rfl dX9_drift_26 ?_
  refine v_icmp_ge C 47 (by decide) dX9_drift_27 (fun hc => ?_) (fun hc => ?_)
  · have h := h.1 hc
    refine v_aload_n C 0 rfl dX9_drift_47 ?_
    refine g8_2 C kb0 kd0 fl_X9_28 dX9_drift_48 ?_
    refine g6_1 C sc11.l0 sc11.k0 fl_X9_119 dX9_drift_51 ?_
    exact Rt _ _ _ _ dX9_drift_54 h
  · have h := h.2 hc
    refine v_aload_n C 0 rfl dX9_drift_30 ?_
    refine v_callV C [] (k_X9_askByDraws M _ h) yX9_askByDraws_k ml_X9_175 (rcv8 kb0 kd0) rfl rfl (Nat.le_of_ble_eq_true rfl) ⟨by decide, by decide⟩ dX9_drift_31 (fun M1 h => ?_)
    refine v_aload_n C 0 rfl dX9_drift_34 ?_
    refine g8_2 C kb0 kd0 fl_X9_28 dX9_drift_35 ?_
    refine v_callV C [] (k_X7_move 11 M1 sc11 _ h) yX7_move_k ml_X9_178 (rcv6 sc11.l0 sc11.k0) rfl rfl (Nat.le_of_ble_eq_true rfl) ⟨by decide, by decide⟩ dX9_drift_38 (fun M2 h => ?_)
    refine v_iinc C (j := 2) [(3, .int (x3 + 1)), (0, .ref (w.2.1 0)), (1, .int a1)] rfl (x3 + 1) rfl rfl (by decide) dX9_drift_41 ?_
    refine v_goto C 25 (by decide) dX9_drift_44 ?_
    exact V.sub [1, 2, 0] rfl h
theorem mt_X9_drift {w : Wx} {l : Launch} (k_X9_refusalOfSteps : Ct_X9_refusalOfSteps w l) (k_X4_push : Ct_X4_push w l) (k_X9_askByDraws : Ct_X9_askByDraws w l) (k_X7_move : Ct_X7_move w l) : Ct_X9_drift w l := by
  intro a1 M Q h
  refine met_i (by decide +kernel) (Nat.le_of_ble_eq_true rfl) (fun G C hG Rt => ?_)
  subst hG
  exact wk_X9_drift C Rt k_X9_refusalOfSteps k_X4_push k_X9_askByDraws k_X7_move a1 M (h _ (fun x3 M h => wk_X9_drift_25 C Rt k_X9_refusalOfSteps k_X4_push k_X9_askByDraws k_X7_move a1 x3 M h))
theorem ct_X9_drift (w : Wx) (l : Launch) : Ct_X9_drift w l := mt_X9_drift (ct_X9_refusalOfSteps w l) (ct_X4_push w l) (ct_X9_askByDraws w l) (ct_X7_move w l)
set_option maxRecDepth 4000 in
theorem wk_X4_pop {w : Wx} {G : Gx} {Q : Mem → Prop} (C : Cx w G cX4_pop RX4 2 61 2) (Rt : ∀ (pc : Nat) (lv : List (Nat × Value)) (M0 : Mem), decode cX4_pop pc = .ok (.return_, 1) → Q M0 → V w G pc lv [] M0) (k_X7_copyFrom : Ct_X7_copyFrom w G.2.1) (M : Mem) (h : bd_X4_pop Q M) : V w G 0 [(0, .ref (w.2.1 25)), (1, .ref (w.2.1 11))] [] M := by
  unfold bd_X4_pop at h
  refine v_aload_n C 0 rfl dX4_pop_0 ?_
  refine g3_2 C kb25 kd25 fl_X4_21 dX4_pop_1 ?_
  refine v_if_le C 46 (by decide) dX4_pop_4 (fun hc => ?_) (fun hc => ?_)
  · have h := h.1 hc
    exact Rt _ _ _ dX4_pop_46 h
  · have h := h.2 hc
    refine v_aload_n C 0 rfl dX4_pop_7 ?_
    refine v_aload_n C 0 rfl dX4_pop_8 ?_
    refine g3_1 C kb25 kd25 fl_X4_17 dX4_pop_9 ?_
    refine v_kb C (20) (by decide) dX4_pop_12 ?_
    refine v_iadd C dX4_pop_14 ?_
    refine v_kc C (1) (by decide) dX4_pop_15 ?_
    refine v_isub C dX4_pop_16 ?_
    refine v_kb C (20) (by decide) dX4_pop_17 ?_
    refine v_irem C (by decide) dX4_pop_19 ?_
    refine p3_1 C kb25 kd25 fl_X4_17 dX4_pop_20 (fun M1 e1 => ?_)
    have h := h M1 e1
    refine v_aload_n C 1 rfl dX4_pop_23 ?_
    refine v_aload_n C 0 rfl dX4_pop_24 ?_
    refine g3_0 C kb25 kd25 fl_X4_11 dX4_pop_25 ?_
    refine v_aload_n C 0 rfl dX4_pop_28 ?_
    refine g3_1 C kb25 kd25 fl_X4_17 dX4_pop_29 ?_
    obtain ⟨s2, h⟩ := h
    refine v_sald C kb26 kd26 ln26 s2 dX4_pop_32 ?_
    refine v_callV C [] (k_X7_copyFrom 11 (ra 26 (M1 25 1).toNatClampNeg) M1 sc11 (sc26 s2) _ h) yX7_copyFrom_k ml_X4_25 (rcv6 sc11.l0 sc11.k0) rfl rfl (Nat.le_of_ble_eq_true rfl) ⟨by decide, by decide⟩ dX4_pop_33 (fun M3 h => ?_)
    refine v_aload_n C 0 rfl dX4_pop_36 ?_
    refine v_dup C rfl dX4_pop_37 ?_
    refine g3_2 C kb25 kd25 fl_X4_21 dX4_pop_38 ?_
    refine v_kc C (1) (by decide) dX4_pop_41 ?_
    refine v_isub C dX4_pop_42 ?_
    refine p3_2 C kb25 kd25 fl_X4_21 dX4_pop_43 (fun M4 e4 => ?_)
    have h := h M4 e4
    exact Rt _ _ _ dX4_pop_46 h
theorem mt_X4_pop {w : Wx} {l : Launch} (k_X7_copyFrom : Ct_X7_copyFrom w l) : Ct_X4_pop w l := by
  intro M Q h
  refine met_v (by decide +kernel) (Nat.le_of_ble_eq_true rfl) (fun G C hG Rt => ?_)
  subst hG
  exact wk_X4_pop C Rt k_X7_copyFrom M (h)
theorem ct_X4_pop (w : Wx) (l : Launch) : Ct_X4_pop w l := mt_X4_pop (ct_X7_copyFrom w l)
set_option maxRecDepth 4000 in
theorem wk_X9_undo {w : Wx} {G : Gx} {Q : Int32 → Mem → Prop} (C : Cx w G cX9_undo RX9 3 82 1) (Rt : ∀ (pc : Nat) (lv : List (Nat × Value)) (r0 : Int32) (M0 : Mem), decode cX9_undo pc = .ok (.ireturn, 1) → Q r0 M0 → V w G pc lv [.int r0] M0) (k_X4_pop : Ct_X4_pop w G.2.1) (M : Mem) (h : bd_X9_undo Q M) : V w G 0 [(0, .ref (w.2.1 0))] [] M := by
  unfold bd_X9_undo at h
  refine v_aload_n C 0 rfl dX9_undo_0 ?_
  refine g8_4 C kb0 kd0 fl_X9_38 dX9_undo_1 ?_
  refine g3_2 C kb25 kd25 fl_X9_135 dX9_undo_4 ?_
  refine v_if_ne C 13 (by decide) dX9_undo_7 (fun hc => ?_) (fun hc => ?_)
  · have h := h.2 hc
    refine v_aload_n C 0 rfl dX9_undo_13 ?_
    refine g8_4 C kb0 kd0 fl_X9_38 dX9_undo_14 ?_
    refine v_aload_n C 0 rfl dX9_undo_17 ?_
    refine g8_2 C kb0 kd0 fl_X9_28 dX9_undo_18 ?_
    refine v_callV C [] (k_X4_pop M _ h) yX4_pop_k ml_X9_181 (rcv3 kb25 kd25) rfl rfl (Nat.le_of_ble_eq_true rfl) ⟨by decide, by decide⟩ dX9_undo_21 (fun M1 h => ?_)
    refine v_aload_n C 0 rfl dX9_undo_24 ?_
    refine g8_4 C kb0 kd0 fl_X9_38 dX9_undo_25 ?_
    refine g3_2 C kb25 kd25 fl_X9_135 dX9_undo_28 ?_
    exact Rt _ _ _ _ dX9_undo_31 h
  · have h := h.1 hc
    refine v_ldc C kc_X9_171 dX9_undo_10 ?_
    exact Rt _ _ _ _ dX9_undo_12 h
theorem mt_X9_undo {w : Wx} {l : Launch} (k_X4_pop : Ct_X4_pop w l) : Ct_X9_undo w l := by
  intro M Q h
  refine met_i (by decide +kernel) (Nat.le_of_ble_eq_true rfl) (fun G C hG Rt => ?_)
  subst hG
  exact wk_X9_undo C Rt k_X4_pop M (h)
theorem ct_X9_undo (w : Wx) (l : Launch) : Ct_X9_undo w l := mt_X9_undo (ct_X4_pop w l)
set_option maxRecDepth 4000 in
theorem wk_X9_where {w : Wx} {G : Gx} {Q : Int32 → Mem → Prop} (C : Cx w G cX9_where RX9 5 109 3) (Rt : ∀ (pc : Nat) (lv : List (Nat × Value)) (r0 : Int32) (M0 : Mem), decode cX9_where pc = .ok (.ireturn, 1) → Q r0 M0 → V w G pc lv [.int r0] M0) (k_X9_isCar : Ct_X9_isCar w G.2.1) (k_X7_copyFrom : Ct_X7_copyFrom w G.2.1) (k_X7_moveTimes : Ct_X7_moveTimes w G.2.1) (a1 : Int32) (a2 : Int32) (M : Mem) (h : bd_X9_where Q a1 a2 M) : V w G 0 [(0, .ref (w.2.1 0)), (1, .int a1), (2, .int a2)] [] M := by
  unfold bd_X9_where at h
  refine v_aload_n C 0 rfl dX9_where_0 ?_
  refine v_iload_n C 1 rfl dX9_where_1 ?_
  refine v_callI C [] (k_X9_isCar a1 M _ h) yX9_isCar_k ml_X9_136 (rcv8 kb0 kd0) rfl rfl (Nat.le_of_ble_eq_true rfl) ⟨by decide, by decide⟩ dX9_where_2 (fun r1 M1 h => ?_)
  refine v_if_ne C 11 (by decide) dX9_where_5 (fun hc => ?_) (fun hc => ?_)
  · have h := h.2 hc
    refine v_iload_n C 2 rfl dX9_where_11 ?_
    refine v_if_lt C 22 (by decide) dX9_where_12 (fun hc => ?_) (fun hc => ?_)
    · have h := h.1 hc
      refine v_ldc C kc_X9_85 dX9_where_22 ?_
      exact Rt _ _ _ _ dX9_where_24 h
    · have h := h.2 hc
      refine v_iload_n C 2 rfl dX9_where_15 ?_
      refine v_ks C (200) (by decide) dX9_where_16 ?_
      refine v_icmp_le C 25 (by decide) dX9_where_19 (fun hc => ?_) (fun hc => ?_)
      · have h := h.1 hc
        refine v_aload_n C 0 rfl dX9_where_25 ?_
        refine g8_3 C kb0 kd0 fl_X9_32 dX9_where_26 ?_
        refine v_aload_n C 0 rfl dX9_where_29 ?_
        refine g8_2 C kb0 kd0 fl_X9_28 dX9_where_30 ?_
        refine v_callV C [] (k_X7_copyFrom 18 11 M1 sc18 sc11 _ h) yX7_copyFrom_k ml_X9_105 (rcv6 sc18.l0 sc18.k0) rfl rfl (Nat.le_of_ble_eq_true rfl) ⟨by decide, by decide⟩ dX9_where_33 (fun M2 h => ?_)
        refine v_aload_n C 0 rfl dX9_where_36 ?_
        refine g8_3 C kb0 kd0 fl_X9_32 dX9_where_37 ?_
        refine v_iload_n C 2 rfl dX9_where_40 ?_
        refine v_callV C [] (k_X7_moveTimes 18 a2 M2 sc18 _ h) yX7_moveTimes_k ml_X9_164 (rcv6 sc18.l0 sc18.k0) rfl rfl (Nat.le_of_ble_eq_true rfl) ⟨by decide, by decide⟩ dX9_where_41 (fun M3 h => ?_)
        refine v_aload_n C 0 rfl dX9_where_44 ?_
        refine g8_3 C kb0 kd0 fl_X9_32 dX9_where_45 ?_
        refine g6_2 C sc18.l0 sc18.k0 fl_X9_141 dX9_where_48 ?_
        refine v_iload_n C 1 rfl dX9_where_51 ?_
        obtain ⟨s4, h⟩ := h
        refine v_iald C sc18.l1 sc18.k1 sc18.n1 s4 dX9_where_52 ?_
        exact Rt _ _ _ _ dX9_where_53 h
      · have h := h.2 hc
        refine v_ldc C kc_X9_85 dX9_where_22 ?_
        exact Rt _ _ _ _ dX9_where_24 h
  · have h := h.1 hc
    refine v_ldc C kc_X9_140 dX9_where_8 ?_
    exact Rt _ _ _ _ dX9_where_10 h
theorem mt_X9_where {w : Wx} {l : Launch} (k_X9_isCar : Ct_X9_isCar w l) (k_X7_copyFrom : Ct_X7_copyFrom w l) (k_X7_moveTimes : Ct_X7_moveTimes w l) : Ct_X9_where w l := by
  intro a1 a2 M Q h
  refine met_i (by decide +kernel) (Nat.le_of_ble_eq_true rfl) (fun G C hG Rt => ?_)
  subst hG
  exact wk_X9_where C Rt k_X9_isCar k_X7_copyFrom k_X7_moveTimes a1 a2 M (h)
theorem ct_X9_where (w : Wx) (l : Launch) : Ct_X9_where w l := mt_X9_where (ct_X9_isCar w l) (ct_X7_copyFrom w l) (ct_X7_moveTimes w l)
set_option maxRecDepth 4000 in
theorem wk_X9_sees {w : Wx} {G : Gx} {Q : Int32 → Mem → Prop} (C : Cx w G cX9_sees RX9 4 87 4) (Rt : ∀ (pc : Nat) (lv : List (Nat × Value)) (r0 : Int32) (M0 : Mem), decode cX9_sees pc = .ok (.ireturn, 1) → Q r0 M0 → V w G pc lv [.int r0] M0) (k_X9_areTwoCars : Ct_X9_areTwoCars w G.2.1) (k_X7_copyFrom : Ct_X7_copyFrom w G.2.1) (k_X7_move : Ct_X7_move w G.2.1) (a1 : Int32) (a2 : Int32) (M : Mem) (h : bd_X9_sees Q (fun (x3 : Int32) (M : Mem) => V w G 25 [(0, .ref (w.2.1 0)), (1, .int a1), (2, .int a2), (3, .int x3)] [] M) a1 a2 M) : V w G 0 [(0, .ref (w.2.1 0)), (1, .int a1), (2, .int a2)] [] M := by
  unfold bd_X9_sees at h
  refine v_aload_n C 0 rfl dX9_sees_0 ?_
  refine v_iload_n C 1 rfl dX9_sees_1 ?_
  refine v_iload_n C 2 rfl dX9_sees_2 ?_
  refine v_callI C [] (k_X9_areTwoCars a1 a2 M _ h) yX9_areTwoCars_k ml_X9_167 (rcv8 kb0 kd0) rfl rfl (Nat.le_of_ble_eq_true rfl) ⟨by decide, by decide⟩ dX9_sees_3 (fun r1 M1 h => ?_)
  refine v_if_ne C 12 (by decide) dX9_sees_6 (fun hc => ?_) (fun hc => ?_)
  · have h := h.2 hc
    refine v_aload_n C 0 rfl dX9_sees_12 ?_
    refine g8_3 C kb0 kd0 fl_X9_32 dX9_sees_13 ?_
    refine v_aload_n C 0 rfl dX9_sees_16 ?_
    refine g8_2 C kb0 kd0 fl_X9_28 dX9_sees_17 ?_
    refine v_callV C [] (k_X7_copyFrom 18 11 M1 sc18 sc11 _ h) yX7_copyFrom_k ml_X9_105 (rcv6 sc18.l0 sc18.k0) rfl rfl (Nat.le_of_ble_eq_true rfl) ⟨by decide, by decide⟩ dX9_sees_20 (fun M2 h => ?_)
    refine v_kc C (0) (by decide) dX9_sees_23 ?_
    refine v_istore_n C [(3, .int ((0 : Int32))), (0, .ref (w.2.1 0)), (1, .int a1), (2, .int a2)] rfl (by decide) dX9_sees_24 ?_
    exact V.sub [1, 2, 3, 0] rfl h
  · have h := h.1 hc
    refine v_ldc C kc_X9_140 dX9_sees_9 ?_
    exact Rt _ _ _ _ dX9_sees_11 h
set_option maxRecDepth 4000 in
theorem wk_X9_sees_25 {w : Wx} {G : Gx} {Q : Int32 → Mem → Prop} (C : Cx w G cX9_sees RX9 4 87 4) (Rt : ∀ (pc : Nat) (lv : List (Nat × Value)) (r0 : Int32) (M0 : Mem), decode cX9_sees pc = .ok (.ireturn, 1) → Q r0 M0 → V w G pc lv [.int r0] M0) (k_X9_areTwoCars : Ct_X9_areTwoCars w G.2.1) (k_X7_copyFrom : Ct_X7_copyFrom w G.2.1) (k_X7_move : Ct_X7_move w G.2.1) (a1 : Int32) (a2 : Int32) (x3 : Int32) (M : Mem) (h : bd_X9_sees_25 Q (fun (x3 : Int32) (M : Mem) => V w G 25 [(0, .ref (w.2.1 0)), (1, .int a1), (2, .int a2), (3, .int x3)] [] M) a1 a2 x3 M) : V w G 25 [(0, .ref (w.2.1 0)), (1, .int a1), (2, .int a2), (3, .int x3)] [] M := by
  unfold bd_X9_sees_25 at h
  refine v_iload_n C 3 rfl dX9_sees_25 ?_
  refine v_ks C (200) (by decide) dX9_sees_26 ?_
  refine v_icmp_gt C 68 (by decide) dX9_sees_29 (fun hc => ?_) (fun hc => ?_)
  · have h := h.1 hc
    refine v_kc C (-1) (by decide) dX9_sees_68 ?_
    exact Rt _ _ _ _ dX9_sees_69 h
  · have h := h.2 hc
    refine v_aload_n C 0 rfl dX9_sees_32 ?_
    refine g8_3 C kb0 kd0 fl_X9_32 dX9_sees_33 ?_
    refine g6_2 C sc18.l0 sc18.k0 fl_X9_141 dX9_sees_36 ?_
    refine v_iload_n C 1 rfl dX9_sees_39 ?_
    obtain ⟨s1, h⟩ := h
    refine v_iald C sc18.l1 sc18.k1 sc18.n1 s1 dX9_sees_40 ?_
    refine v_aload_n C 0 rfl dX9_sees_41 ?_
    refine g8_3 C kb0 kd0 fl_X9_32 dX9_sees_42 ?_
    refine g6_2 C sc18.l0 sc18.k0 fl_X9_141 dX9_sees_45 ?_
    refine v_iload_n C 2 rfl dX9_sees_48 ?_
    obtain ⟨s2, h⟩ := h
    refine v_iald C sc18.l1 sc18.k1 sc18.n1 s2 dX9_sees_49 ?_
    refine v_icmp_ne C 55 (by decide) dX9_sees_50 (fun hc => ?_) (fun hc => ?_)
    · have h := h.2 hc
      refine v_aload_n C 0 rfl dX9_sees_55 ?_
      refine g8_3 C kb0 kd0 fl_X9_32 dX9_sees_56 ?_
      refine v_callV C [] (k_X7_move 18 M sc18 _ h) yX7_move_k ml_X9_178 (rcv6 sc18.l0 sc18.k0) rfl rfl (Nat.le_of_ble_eq_true rfl) ⟨by decide, by decide⟩ dX9_sees_59 (fun M3 h => ?_)
      refine v_iinc C (j := 3) [(3, .int (x3 + 1)), (0, .ref (w.2.1 0)), (1, .int a1), (2, .int a2)] rfl (x3 + 1) rfl rfl (by decide) dX9_sees_62 ?_
      refine v_goto C 25 (by decide) dX9_sees_65 ?_
      exact V.sub [1, 2, 3, 0] rfl h
    · have h := h.1 hc
      refine v_iload_n C 3 rfl dX9_sees_53 ?_
      exact Rt _ _ _ _ dX9_sees_54 h
theorem mt_X9_sees {w : Wx} {l : Launch} (k_X9_areTwoCars : Ct_X9_areTwoCars w l) (k_X7_copyFrom : Ct_X7_copyFrom w l) (k_X7_move : Ct_X7_move w l) : Ct_X9_sees w l := by
  intro a1 a2 M Q h
  refine met_i (by decide +kernel) (Nat.le_of_ble_eq_true rfl) (fun G C hG Rt => ?_)
  subst hG
  exact wk_X9_sees C Rt k_X9_areTwoCars k_X7_copyFrom k_X7_move a1 a2 M (h _ (fun x3 M h => wk_X9_sees_25 C Rt k_X9_areTwoCars k_X7_copyFrom k_X7_move a1 a2 x3 M h))
theorem ct_X9_sees (w : Wx) (l : Launch) : Ct_X9_sees w l := mt_X9_sees (ct_X9_areTwoCars w l) (ct_X7_copyFrom w l) (ct_X7_move w l)
set_option maxRecDepth 4000 in
theorem wk_X7_ringNumber {w : Wx} {G : Gx} {Q : Int32 → Mem → Prop} (C : Cx w G cX7_ringNumber RX7 3 69 5) (Rt : ∀ (pc : Nat) (lv : List (Nat × Value)) (r0 : Int32) (M0 : Mem), decode cX7_ringNumber pc = .ok (.ireturn, 1) → Q r0 M0 → V w G pc lv [.int r0] M0) (k_X7_leastOfRings : Ct_X7_leastOfRings w G.2.1) (k_X9_isIn : Ct_X9_isIn w G.2.1) (k_X7_ringOf : Ct_X7_ringOf w G.2.1) (b : Nat) (a1 : Int32) (hb : Sc b) (M : Mem) (h : bd_X7_ringNumber Q (fun (x2 : Int32) (x3 : Int32) (x4 : Int32) (M : Mem) => V w G 10 [(0, .ref (w.2.1 b)), (1, .int a1), (2, .int x2), (3, .int x3), (4, .int x4)] [] M) b a1 M) : V w G 0 [(0, .ref (w.2.1 b)), (1, .int a1)] [] M := by
  unfold bd_X7_ringNumber at h
  refine v_aload_n C 0 rfl dX7_ringNumber_0 ?_
  refine v_callI C [] (k_X7_leastOfRings b M hb _ h) yX7_leastOfRings_k ml_X7_72 (rcv6 hb.l0 hb.k0) rfl rfl (Nat.le_of_ble_eq_true rfl) ⟨by decide, by decide⟩ dX7_ringNumber_1 (fun r1 M1 h => ?_)
  refine v_istore_n C [(2, .int r1), (0, .ref (w.2.1 b)), (1, .int a1)] rfl (by decide) dX7_ringNumber_4 ?_
  refine v_kc C (0) (by decide) dX7_ringNumber_5 ?_
  refine v_istore_n C [(3, .int ((0 : Int32))), (2, .int r1), (0, .ref (w.2.1 b)), (1, .int a1)] rfl (by decide) dX7_ringNumber_6 ?_
  refine v_kc C (0) (by decide) dX7_ringNumber_7 ?_
  refine v_istore C [(4, .int ((0 : Int32))), (3, .int ((0 : Int32))), (2, .int r1), (0, .ref (w.2.1 b)), (1, .int a1)] rfl (by decide) dX7_ringNumber_8 ?_
  exact V.sub [3, 4, 2, 1, 0] rfl h
set_option maxRecDepth 4000 in
theorem wk_X7_ringNumber_10 {w : Wx} {G : Gx} {Q : Int32 → Mem → Prop} (C : Cx w G cX7_ringNumber RX7 3 69 5) (Rt : ∀ (pc : Nat) (lv : List (Nat × Value)) (r0 : Int32) (M0 : Mem), decode cX7_ringNumber pc = .ok (.ireturn, 1) → Q r0 M0 → V w G pc lv [.int r0] M0) (k_X7_leastOfRings : Ct_X7_leastOfRings w G.2.1) (k_X9_isIn : Ct_X9_isIn w G.2.1) (k_X7_ringOf : Ct_X7_ringOf w G.2.1) (b : Nat) (a1 : Int32) (hb : Sc b) (x2 : Int32) (x3 : Int32) (x4 : Int32) (M : Mem) (h : bd_X7_ringNumber_10 Q (fun (x2 : Int32) (x3 : Int32) (x4 : Int32) (M : Mem) => V w G 10 [(0, .ref (w.2.1 b)), (1, .int a1), (2, .int x2), (3, .int x3), (4, .int x4)] [] M) b a1 x2 x3 x4 M) : V w G 10 [(0, .ref (w.2.1 b)), (1, .int a1), (2, .int x2), (3, .int x3), (4, .int x4)] [] M := by
  unfold bd_X7_ringNumber_10 at h
  refine v_iload C 4 rfl dX7_ringNumber_10 ?_
  refine v_aload_n C 0 rfl dX7_ringNumber_12 ?_
  refine g6_0 C hb.l0 hb.k0 fl_X7_9 dX7_ringNumber_13 ?_
  refine v_icmp_ge C 49 (by decide) dX7_ringNumber_16 (fun hc => ?_) (fun hc => ?_)
  · have h := h.1 hc
    refine v_kc C (-1) (by decide) dX7_ringNumber_49 ?_
    exact Rt _ _ _ _ dX7_ringNumber_50 h
  · have h := h.2 hc
    refine v_iload_n C 2 rfl dX7_ringNumber_19 ?_
    refine v_iload C 4 rfl dX7_ringNumber_20 ?_
    refine v_callNI C [] (k_X9_isIn x2 x4 M _ h) yX9_isIn_k mn_X7_62 rfl rfl (Nat.le_of_ble_eq_true rfl) ⟨by decide, by decide⟩ dX7_ringNumber_22 (fun r1 M1 h => ?_)
    refine v_if_eq C 43 (by decide) dX7_ringNumber_25 (fun hc => ?_) (fun hc => ?_)
    · have h := h.1 hc
      refine v_iinc C (j := 4) [(4, .int (x4 + 1)), (0, .ref (w.2.1 b)), (1, .int a1), (2, .int x2), (3, .int x3)] rfl (x4 + 1) rfl rfl (by decide) dX7_ringNumber_43 ?_
      refine v_goto C 10 (by decide) dX7_ringNumber_46 ?_
      exact V.sub [1, 2, 3, 4, 0] rfl h
    · have h := h.2 hc
      refine v_iload_n C 3 rfl dX7_ringNumber_28 ?_
      refine v_iload_n C 1 rfl dX7_ringNumber_29 ?_
      refine v_icmp_ne C 40 (by decide) dX7_ringNumber_30 (fun hc => ?_) (fun hc => ?_)
      · have h := h.2 hc
        refine v_iinc C (j := 3) [(3, .int (x3 + 1)), (0, .ref (w.2.1 b)), (1, .int a1), (2, .int x2), (4, .int x4)] rfl (x3 + 1) rfl rfl (by decide) dX7_ringNumber_40 ?_
        refine v_iinc C (j := 4) [(4, .int (x4 + 1)), (3, .int (x3 + 1)), (0, .ref (w.2.1 b)), (1, .int a1), (2, .int x2)] rfl (x4 + 1) rfl rfl (by decide) dX7_ringNumber_43 ?_
        refine v_goto C 10 (by decide) dX7_ringNumber_46 ?_
        exact V.sub [2, 3, 4, 1, 0] rfl h
      · have h := h.1 hc
        refine v_aload_n C 0 rfl dX7_ringNumber_33 ?_
        refine v_iload C 4 rfl dX7_ringNumber_34 ?_
        refine v_callI C [] (k_X7_ringOf b x4 M1 hb _ h) yX7_ringOf_k ml_X7_69 (rcv6 hb.l0 hb.k0) rfl rfl (Nat.le_of_ble_eq_true rfl) ⟨by decide, by decide⟩ dX7_ringNumber_36 (fun r2 M2 h => ?_)
        exact Rt _ _ _ _ dX7_ringNumber_39 h
theorem mt_X7_ringNumber {w : Wx} {l : Launch} (k_X7_leastOfRings : Ct_X7_leastOfRings w l) (k_X9_isIn : Ct_X9_isIn w l) (k_X7_ringOf : Ct_X7_ringOf w l) : Ct_X7_ringNumber w l := by
  intro b a1 M hb Q h
  refine met_i (by decide +kernel) (Nat.le_of_ble_eq_true rfl) (fun G C hG Rt => ?_)
  subst hG
  exact wk_X7_ringNumber C Rt k_X7_leastOfRings k_X9_isIn k_X7_ringOf b a1 hb M (h _ (fun x2 x3 x4 M h => wk_X7_ringNumber_10 C Rt k_X7_leastOfRings k_X9_isIn k_X7_ringOf b a1 hb x2 x3 x4 M h))
theorem ct_X7_ringNumber (w : Wx) (l : Launch) : Ct_X7_ringNumber w l := mt_X7_ringNumber (ct_X7_leastOfRings w l) (ct_X9_isIn w l) (ct_X7_ringOf w l)
set_option maxRecDepth 4000 in
theorem wk_X9_rings {w : Wx} {G : Gx} {Q : Int32 → Mem → Prop} (C : Cx w G cX9_rings RX9 4 93 2) (Rt : ∀ (pc : Nat) (lv : List (Nat × Value)) (r0 : Int32) (M0 : Mem), decode cX9_rings pc = .ok (.ireturn, 1) → Q r0 M0 → V w G pc lv [.int r0] M0) (k_X7_ringNumber : Ct_X7_ringNumber w G.2.1) (k_X7_ringCount : Ct_X7_ringCount w G.2.1) (a1 : Int32) (M : Mem) (h : bd_X9_rings Q a1 M) : V w G 0 [(0, .ref (w.2.1 0)), (1, .int a1)] [] M := by
  unfold bd_X9_rings at h
  refine v_iload_n C 1 rfl dX9_rings_0 ?_
  refine v_kc C (-1) (by decide) dX9_rings_1 ?_
  refine v_icmp_ne C 15 (by decide) dX9_rings_2 (fun hc => ?_) (fun hc => ?_)
  · have h := h.2 hc
    refine v_aload_n C 0 rfl dX9_rings_15 ?_
    refine g8_2 C kb0 kd0 fl_X9_28 dX9_rings_16 ?_
    refine v_iload_n C 1 rfl dX9_rings_19 ?_
    refine v_callI C [] (k_X7_ringNumber 11 a1 M sc11 _ h) yX7_ringNumber_k ml_X9_184 (rcv6 sc11.l0 sc11.k0) rfl rfl (Nat.le_of_ble_eq_true rfl) ⟨by decide, by decide⟩ dX9_rings_20 (fun r1 M1 h => ?_)
    exact Rt _ _ _ _ dX9_rings_23 h
  · have h := h.1 hc
    refine v_aload_n C 0 rfl dX9_rings_5 ?_
    refine g8_2 C kb0 kd0 fl_X9_28 dX9_rings_6 ?_
    refine v_callI C [] (k_X7_ringCount 11 M sc11 _ h) yX7_ringCount_k ml_X9_129 (rcv6 sc11.l0 sc11.k0) rfl rfl (Nat.le_of_ble_eq_true rfl) ⟨by decide, by decide⟩ dX9_rings_9 (fun r2 M2 h => ?_)
    refine v_goto C 23 (by decide) dX9_rings_12 ?_
    exact Rt _ _ _ _ dX9_rings_23 h
theorem mt_X9_rings {w : Wx} {l : Launch} (k_X7_ringNumber : Ct_X7_ringNumber w l) (k_X7_ringCount : Ct_X7_ringCount w l) : Ct_X9_rings w l := by
  intro a1 M Q h
  refine met_i (by decide +kernel) (Nat.le_of_ble_eq_true rfl) (fun G C hG Rt => ?_)
  subst hG
  exact wk_X9_rings C Rt k_X7_ringNumber k_X7_ringCount a1 M (h)
theorem ct_X9_rings (w : Wx) (l : Launch) : Ct_X9_rings w l := mt_X9_rings (ct_X7_ringNumber w l) (ct_X7_ringCount w l)
set_option maxRecDepth 4000 in
theorem wk_X7_isAnEnd {w : Wx} {G : Gx} {Q : Int32 → Mem → Prop} (C : Cx w G cX7_isAnEnd RX7 2 46 2) (Rt : ∀ (pc : Nat) (lv : List (Nat × Value)) (r0 : Int32) (M0 : Mem), decode cX7_isAnEnd pc = .ok (.ireturn, 1) → (r0 = 0 ∨ r0 = 1) → Q r0 M0 → V w G pc lv [.int r0] M0) (k_X7_ringOf : Ct_X7_ringOf w G.2.1) (b : Nat) (a1 : Int32) (hb : Sc b) (M : Mem) (h : bd_X7_isAnEnd Q b a1 M) : V w G 0 [(0, .ref (w.2.1 b)), (1, .int a1)] [] M := by
  unfold bd_X7_isAnEnd at h
  refine v_aload_n C 0 rfl dX7_isAnEnd_0 ?_
  refine g6_3 C hb.l0 hb.k0 fl_X7_22 dX7_isAnEnd_1 ?_
  refine v_iload_n C 1 rfl dX7_isAnEnd_4 ?_
  obtain ⟨s1, h⟩ := h
  refine v_iald C hb.l2 hb.k2 hb.n2 s1 dX7_isAnEnd_5 ?_
  refine v_kc C (-1) (by decide) dX7_isAnEnd_6 ?_
  refine v_icmp_eq C 18 (by decide) dX7_isAnEnd_7 (fun hc => ?_) (fun hc => ?_)
  · have h := h.1 hc
    refine v_kc C (1) (by decide) dX7_isAnEnd_18 ?_
    refine v_goto C 23 (by decide) dX7_isAnEnd_19 ?_
    exact Rt _ _ _ _ dX7_isAnEnd_23 (by decide) h
  · have h := h.2 hc
    refine v_aload_n C 0 rfl dX7_isAnEnd_10 ?_
    refine v_iload_n C 1 rfl dX7_isAnEnd_11 ?_
    refine v_callI C [] (k_X7_ringOf b a1 M hb _ h) yX7_ringOf_k ml_X7_69 (rcv6 hb.l0 hb.k0) rfl rfl (Nat.le_of_ble_eq_true rfl) ⟨by decide, by decide⟩ dX7_isAnEnd_12 (fun r2 M2 h => ?_)
    have key3 : V w G 23 [(0, .ref (w.2.1 b)), (1, .int a1)] (.int (if r2 = 0 then (0 : Int32) else (1 : Int32)) :: []) M2 := by
      exact Rt _ _ _ _ dX7_isAnEnd_23 h.1 h.2
    refine v_if_eq C 22 (by decide) dX7_isAnEnd_15 (fun hc => ?_) (fun hc => ?_)
    · rw [show (if r2 = 0 then (0 : Int32) else (1 : Int32) : Int32) = (0 : Int32) from if_pos hc] at key3
      refine v_kc C (0) (by decide) dX7_isAnEnd_22 ?_
      exact key3
    · rw [show (if r2 = 0 then (0 : Int32) else (1 : Int32) : Int32) = (1 : Int32) from if_neg hc] at key3
      refine v_kc C (1) (by decide) dX7_isAnEnd_18 ?_
      refine v_goto C 23 (by decide) dX7_isAnEnd_19 ?_
      exact key3
theorem mt_X7_isAnEnd {w : Wx} {l : Launch} (k_X7_ringOf : Ct_X7_ringOf w l) : Ct_X7_isAnEnd w l := by
  intro b a1 M hb Q h
  refine met_z (by decide +kernel) (Nat.le_of_ble_eq_true rfl) (fun G C hG Rt => ?_)
  subst hG
  exact wk_X7_isAnEnd C Rt k_X7_ringOf b a1 hb M (h)
theorem ct_X7_isAnEnd (w : Wx) (l : Launch) : Ct_X7_isAnEnd w l := mt_X7_isAnEnd (ct_X7_ringOf w l)
set_option maxRecDepth 4000 in
theorem wk_X7_timesToEnd {w : Wx} {G : Gx} {Q : Int32 → Mem → Prop} (C : Cx w G cX7_timesToEnd RX7 3 67 4) (Rt : ∀ (pc : Nat) (lv : List (Nat × Value)) (r0 : Int32) (M0 : Mem), decode cX7_timesToEnd pc = .ok (.ireturn, 1) → Q r0 M0 → V w G pc lv [.int r0] M0) (k_X7_isAnEnd : Ct_X7_isAnEnd w G.2.1) (b : Nat) (a1 : Int32) (hb : Sc b) (M : Mem) (h : bd_X7_timesToEnd Q (fun (x2 : Int32) (x3 : Int32) (M : Mem) => V w G 4 [(0, .ref (w.2.1 b)), (2, .int x2), (3, .int x3)] [] M) b a1 M) : V w G 0 [(0, .ref (w.2.1 b)), (1, .int a1)] [] M := by
  unfold bd_X7_timesToEnd at h
  refine v_kc C (0) (by decide) dX7_timesToEnd_0 ?_
  refine v_istore_n C [(2, .int ((0 : Int32))), (0, .ref (w.2.1 b)), (1, .int a1)] rfl (by decide) dX7_timesToEnd_1 ?_
  refine v_iload_n C 2 rfl dX7_timesToEnd_2 ?_
  refine v_istore_n C [(3, .int a1), (2, .int ((0 : Int32))), (0, .ref (w.2.1 b)), (1, .int a1)] rfl (by decide) dX7_timesToEnd_3 ?_
  exact V.sub [2, 1, 0] rfl h
set_option maxRecDepth 4000 in
theorem wk_X7_timesToEnd_4 {w : Wx} {G : Gx} {Q : Int32 → Mem → Prop} (C : Cx w G cX7_timesToEnd RX7 3 67 4) (Rt : ∀ (pc : Nat) (lv : List (Nat × Value)) (r0 : Int32) (M0 : Mem), decode cX7_timesToEnd pc = .ok (.ireturn, 1) → Q r0 M0 → V w G pc lv [.int r0] M0) (k_X7_isAnEnd : Ct_X7_isAnEnd w G.2.1) (b : Nat) (a1 : Int32) (hb : Sc b) (x2 : Int32) (x3 : Int32) (M : Mem) (h : bd_X7_timesToEnd_4 Q (fun (x2 : Int32) (x3 : Int32) (M : Mem) => V w G 4 [(0, .ref (w.2.1 b)), (2, .int x2), (3, .int x3)] [] M) b a1 x2 x3 M) : V w G 4 [(0, .ref (w.2.1 b)), (2, .int x2), (3, .int x3)] [] M := by
  unfold bd_X7_timesToEnd_4 at h
  refine v_iload_n C 1 rfl dX7_timesToEnd_4 ?_
  refine v_kb C (8) (by decide) dX7_timesToEnd_5 ?_
  refine v_icmp_ge C 31 (by decide) dX7_timesToEnd_7 (fun hc => ?_) (fun hc => ?_)
  · have h := h.1 hc
    refine v_iload_n C 1 rfl dX7_timesToEnd_31 ?_
    exact Rt _ _ _ _ dX7_timesToEnd_32 h
  · have h := h.2 hc
    refine v_aload_n C 0 rfl dX7_timesToEnd_10 ?_
    refine v_iload_n C 2 rfl dX7_timesToEnd_11 ?_
    refine v_callI C [] (k_X7_isAnEnd b x3 M hb _ h) yX7_isAnEnd_k ml_X7_81 (rcv6 hb.l0 hb.k0) rfl rfl (Nat.le_of_ble_eq_true rfl) ⟨by decide, by decide⟩ dX7_timesToEnd_12 (fun r1 M1 h => ?_)
    refine v_if_ne C 31 (by decide) dX7_timesToEnd_15 (fun hc => ?_) (fun hc => ?_)
    · have h := h.2 hc
      refine v_iload_n C 1 rfl dX7_timesToEnd_31 ?_
      exact Rt _ _ _ _ dX7_timesToEnd_32 h
    · have h := h.1 hc
      refine v_aload_n C 0 rfl dX7_timesToEnd_18 ?_
      refine g6_3 C hb.l0 hb.k0 fl_X7_22 dX7_timesToEnd_19 ?_
      refine v_iload_n C 2 rfl dX7_timesToEnd_22 ?_
      obtain ⟨s2, h⟩ := h
      refine v_iald C hb.l2 hb.k2 hb.n2 s2 dX7_timesToEnd_23 ?_
      refine v_istore_n C [(3, .int (M1 (b + 2) x3.toNatClampNeg)), (0, .ref (w.2.1 b)), (2, .int x2)] rfl (by decide) dX7_timesToEnd_24 ?_
      refine v_iinc C (j := 2) [(2, .int (x2 + 1)), (3, .int (M1 (b + 2) x3.toNatClampNeg)), (0, .ref (w.2.1 b))] rfl (x2 + 1) rfl rfl (by decide) dX7_timesToEnd_25 ?_
      refine v_goto C 4 (by decide) dX7_timesToEnd_28 ?_
      exact V.sub [2, 0, 1] rfl h
theorem mt_X7_timesToEnd {w : Wx} {l : Launch} (k_X7_isAnEnd : Ct_X7_isAnEnd w l) : Ct_X7_timesToEnd w l := by
  intro b a1 M hb Q h
  refine met_i (by decide +kernel) (Nat.le_of_ble_eq_true rfl) (fun G C hG Rt => ?_)
  subst hG
  exact wk_X7_timesToEnd C Rt k_X7_isAnEnd b a1 hb M (h _ (fun x2 x3 M h => wk_X7_timesToEnd_4 C Rt k_X7_isAnEnd b a1 hb x2 x3 M h))
theorem ct_X7_timesToEnd (w : Wx) (l : Launch) : Ct_X7_timesToEnd w l := mt_X7_timesToEnd (ct_X7_isAnEnd w l)
set_option maxRecDepth 4000 in
theorem wk_X9_leastOf {w : Wx} {G : Gx} {Q : Int32 → Mem → Prop} (C : Cx w G cX9_leastOf RX9 1 21 2) (Rt : ∀ (pc : Nat) (lv : List (Nat × Value)) (r0 : Int32) (M0 : Mem), decode cX9_leastOf pc = .ok (.ireturn, 1) → Q r0 M0 → V w G pc lv [.int r0] M0) (k_X9_isIn : Ct_X9_isIn w G.2.1) (a0 : Int32) (M : Mem) (h : bd_X9_leastOf Q (fun (x1 : Int32) (M : Mem) => V w G 2 [(0, .int a0), (1, .int x1)] [] M) a0 M) : V w G 0 [(0, .int a0)] [] M := by
  unfold bd_X9_leastOf at h
  refine v_kc C (0) (by decide) dX9_leastOf_0 ?_
  refine v_istore_n C [(1, .int ((0 : Int32))), (0, .int a0)] rfl (by decide) dX9_leastOf_1 ?_
  exact V.sub [1, 0] rfl h
set_option maxRecDepth 4000 in
theorem wk_X9_leastOf_2 {w : Wx} {G : Gx} {Q : Int32 → Mem → Prop} (C : Cx w G cX9_leastOf RX9 1 21 2) (Rt : ∀ (pc : Nat) (lv : List (Nat × Value)) (r0 : Int32) (M0 : Mem), decode cX9_leastOf pc = .ok (.ireturn, 1) → Q r0 M0 → V w G pc lv [.int r0] M0) (k_X9_isIn : Ct_X9_isIn w G.2.1) (a0 : Int32) (x1 : Int32) (M : Mem) (h : bd_X9_leastOf_2 Q (fun (x1 : Int32) (M : Mem) => V w G 2 [(0, .int a0), (1, .int x1)] [] M) a0 x1 M) : V w G 2 [(0, .int a0), (1, .int x1)] [] M := by
  unfold bd_X9_leastOf_2 at h
  refine v_iload_n C 1 rfl dX9_leastOf_2 ?_
  refine v_kb C (8) (by decide) dX9_leastOf_3 ?_
  refine v_icmp_ge C 24 (by decide) dX9_leastOf_5 (fun hc => ?_) (fun hc => ?_)
  · have h := h.1 hc
    refine v_kc C (-1) (by decide) dX9_leastOf_24 ?_
    exact Rt _ _ _ _ dX9_leastOf_25 h
  · have h := h.2 hc
    refine v_iload_n C 0 rfl dX9_leastOf_8 ?_
    refine v_iload_n C 1 rfl dX9_leastOf_9 ?_
    refine v_callSI C [] (k_X9_isIn a0 x1 M _ h) yX9_isIn_k ml_X9_208 rfl rfl (Nat.le_of_ble_eq_true rfl) ⟨by decide, by decide⟩ dX9_leastOf_10 (fun r1 M1 h => ?_)
    refine v_if_eq C 18 (by decide) dX9_leastOf_13 (fun hc => ?_) (fun hc => ?_)
    · have h := h.1 hc
      refine v_iinc C (j := 1) [(1, .int (x1 + 1)), (0, .int a0)] rfl (x1 + 1) rfl rfl (by decide) dX9_leastOf_18 ?_
      refine v_goto C 2 (by decide) dX9_leastOf_21 ?_
      exact V.sub [1, 0] rfl h
    · have h := h.2 hc
      refine v_iload_n C 1 rfl dX9_leastOf_16 ?_
      exact Rt _ _ _ _ dX9_leastOf_17 h
theorem mt_X9_leastOf {w : Wx} {l : Launch} (k_X9_isIn : Ct_X9_isIn w l) : Ct_X9_leastOf w l := by
  intro a0 M Q h
  refine met_i (by decide +kernel) (Nat.le_of_ble_eq_true rfl) (fun G C hG Rt => ?_)
  subst hG
  exact wk_X9_leastOf C Rt k_X9_isIn a0 M (h _ (fun x1 M h => wk_X9_leastOf_2 C Rt k_X9_isIn a0 x1 M h))
theorem ct_X9_leastOf (w : Wx) (l : Launch) : Ct_X9_leastOf w l := mt_X9_leastOf (ct_X9_isIn w l)
set_option maxRecDepth 4000 in
theorem wk_X7_endOf {w : Wx} {G : Gx} {Q : Int32 → Mem → Prop} (C : Cx w G cX7_endOf RX7 4 90 4) (Rt : ∀ (pc : Nat) (lv : List (Nat × Value)) (r0 : Int32) (M0 : Mem), decode cX7_endOf pc = .ok (.ireturn, 1) → Q r0 M0 → V w G pc lv [.int r0] M0) (k_X7_timesToEnd : Ct_X7_timesToEnd w G.2.1) (k_X7_ringOf : Ct_X7_ringOf w G.2.1) (k_X9_leastOf : Ct_X9_leastOf w G.2.1) (b : Nat) (a1 : Int32) (hb : Sc b) (M : Mem) (h : bd_X7_endOf Q (fun (x2 : Int32) (x3 : Int32) (M : Mem) => V w G 8 [(0, .ref (w.2.1 b)), (2, .int x2), (3, .int x3)] [] M) b a1 M) : V w G 0 [(0, .ref (w.2.1 b)), (1, .int a1)] [] M := by
  unfold bd_X7_endOf at h
  refine v_iload_n C 1 rfl dX7_endOf_0 ?_
  refine v_istore_n C [(2, .int a1), (0, .ref (w.2.1 b)), (1, .int a1)] rfl (by decide) dX7_endOf_1 ?_
  refine v_aload_n C 1 rfl dX7_endOf_2 ?_
  refine v_iload_n C 2 rfl dX7_endOf_3 ?_
  refine v_callI C [] (k_X7_timesToEnd b a1 M hb _ h) yX7_timesToEnd_k ml_X7_85 (rcv6 hb.l0 hb.k0) rfl rfl (Nat.le_of_ble_eq_true rfl) ⟨by decide, by decide⟩ dX7_endOf_4 (fun r1 M1 h => ?_)
  refine v_istore_n C [(3, .int r1), (2, .int a1), (0, .ref (w.2.1 b)), (1, .int a1)] rfl (by decide) dX7_endOf_7 ?_
  exact V.sub [2, 1, 0] rfl h
set_option maxRecDepth 4000 in
theorem wk_X7_endOf_8 {w : Wx} {G : Gx} {Q : Int32 → Mem → Prop} (C : Cx w G cX7_endOf RX7 4 90 4) (Rt : ∀ (pc : Nat) (lv : List (Nat × Value)) (r0 : Int32) (M0 : Mem), decode cX7_endOf pc = .ok (.ireturn, 1) → Q r0 M0 → V w G pc lv [.int r0] M0) (k_X7_timesToEnd : Ct_X7_timesToEnd w G.2.1) (k_X7_ringOf : Ct_X7_ringOf w G.2.1) (k_X9_leastOf : Ct_X9_leastOf w G.2.1) (b : Nat) (a1 : Int32) (hb : Sc b) (x2 : Int32) (x3 : Int32) (M : Mem) (h : bd_X7_endOf_8 Q (fun (x2 : Int32) (x3 : Int32) (M : Mem) => V w G 8 [(0, .ref (w.2.1 b)), (2, .int x2), (3, .int x3)] [] M) b a1 x2 x3 M) : V w G 8 [(0, .ref (w.2.1 b)), (2, .int x2), (3, .int x3)] [] M := by
  unfold bd_X7_endOf_8 at h
  refine v_iload_n C 2 rfl dX7_endOf_8 ?_
  refine v_if_le C 25 (by decide) dX7_endOf_9 (fun hc => ?_) (fun hc => ?_)
  · have h := h.1 hc
    refine v_aload_n C 0 rfl dX7_endOf_25 ?_
    refine v_iload_n C 1 rfl dX7_endOf_26 ?_
    refine v_callI C [] (k_X7_ringOf b x2 M hb _ h) yX7_ringOf_k ml_X7_69 (rcv6 hb.l0 hb.k0) rfl rfl (Nat.le_of_ble_eq_true rfl) ⟨by decide, by decide⟩ dX7_endOf_27 (fun r1 M1 h => ?_)
    refine v_istore_n C [(3, .int r1), (0, .ref (w.2.1 b)), (2, .int x2)] rfl (by decide) dX7_endOf_30 ?_
    refine v_iload_n C 0 rfl dX7_endOf_31 ?_
    refine v_if_ne C 39 (by decide) dX7_endOf_32 (fun hc => ?_) (fun hc => ?_)
    · have h := h.2 hc
      refine v_iload_n C 0 rfl dX7_endOf_39 ?_
      refine v_callNI C [] (k_X9_leastOf r1 M1 _ h) yX9_leastOf_k mn_X7_88 rfl rfl (Nat.le_of_ble_eq_true rfl) ⟨by decide, by decide⟩ dX7_endOf_40 (fun r2 M2 h => ?_)
      exact Rt _ _ _ _ dX7_endOf_43 h
    · have h := h.1 hc
      refine v_iload_n C 2 rfl dX7_endOf_35 ?_
      refine v_goto C 43 (by decide) dX7_endOf_36 ?_
      exact Rt _ _ _ _ dX7_endOf_43 h
  · have h := h.2 hc
    refine v_aload_n C 0 rfl dX7_endOf_12 ?_
    refine g6_3 C hb.l0 hb.k0 fl_X7_22 dX7_endOf_13 ?_
    refine v_iload_n C 1 rfl dX7_endOf_16 ?_
    obtain ⟨s3, h⟩ := h
    refine v_iald C hb.l2 hb.k2 hb.n2 s3 dX7_endOf_17 ?_
    refine v_istore_n C [(2, .int (M (b + 2) x2.toNatClampNeg)), (0, .ref (w.2.1 b)), (3, .int x3)] rfl (by decide) dX7_endOf_18 ?_
    refine v_iinc C (j := 2) [(3, .int (x3 + (-1))), (2, .int (M (b + 2) x2.toNatClampNeg)), (0, .ref (w.2.1 b))] rfl (x3 + (-1)) (congrArg (fun z => x3 + z) (by decide : Int32.ofInt (-1) = (-1 : Int32))) rfl (by decide) dX7_endOf_19 ?_
    refine v_goto C 8 (by decide) dX7_endOf_22 ?_
    exact V.sub [2, 1, 0] rfl h
theorem mt_X7_endOf {w : Wx} {l : Launch} (k_X7_timesToEnd : Ct_X7_timesToEnd w l) (k_X7_ringOf : Ct_X7_ringOf w l) (k_X9_leastOf : Ct_X9_leastOf w l) : Ct_X7_endOf w l := by
  intro b a1 M hb Q h
  refine met_i (by decide +kernel) (Nat.le_of_ble_eq_true rfl) (fun G C hG Rt => ?_)
  subst hG
  exact wk_X7_endOf C Rt k_X7_timesToEnd k_X7_ringOf k_X9_leastOf b a1 hb M (h _ (fun x2 x3 M h => wk_X7_endOf_8 C Rt k_X7_timesToEnd k_X7_ringOf k_X9_leastOf b a1 hb x2 x3 M h))
theorem ct_X7_endOf (w : Wx) (l : Launch) : Ct_X7_endOf w l := mt_X7_endOf (ct_X7_timesToEnd w l) (ct_X7_ringOf w l) (ct_X9_leastOf w l)
theorem lk_out_X9_end {x : Int32} (h0 : ¬ x = 0) (h1 : ¬ x = 1) : Op.lookupswitch.offset (#[(0, 28), (1, 37)] : Array (Int × Int)).toList 46 x.toInt = 46 := by
  have g0 : ¬ x.toInt = 0 := fun e => h0 (Int32.toInt_inj.mp (by rw [e]; decide))
  have g1 : ¬ x.toInt = 1 := fun e => h1 (Int32.toInt_inj.mp (by rw [e]; decide))
  simp [Op.lookupswitch.offset, g0, Ne.symm g0, g1, Ne.symm g1]
set_option maxRecDepth 4000 in
theorem wk_X9_end {w : Wx} {G : Gx} {Q : Int32 → Mem → Prop} (C : Cx w G cX9_end RX9 5 113 3) (Rt : ∀ (pc : Nat) (lv : List (Nat × Value)) (r0 : Int32) (M0 : Mem), decode cX9_end pc = .ok (.ireturn, 1) → Q r0 M0 → V w G pc lv [.int r0] M0) (k_X9_isCar : Ct_X9_isCar w G.2.1) (k_X7_endOf : Ct_X7_endOf w G.2.1) (k_X7_timesToEnd : Ct_X7_timesToEnd w G.2.1) (a1 : Int32) (a2 : Int32) (M : Mem) (h : bd_X9_end Q a1 a2 M) : V w G 0 [(0, .ref (w.2.1 0)), (1, .int a1), (2, .int a2)] [] M := by
  unfold bd_X9_end at h
  refine v_aload_n C 0 rfl dX9_end_0 ?_
  refine v_iload_n C 1 rfl dX9_end_1 ?_
  refine v_callI C [] (k_X9_isCar a1 M _ h) yX9_isCar_k ml_X9_136 (rcv8 kb0 kd0) rfl rfl (Nat.le_of_ble_eq_true rfl) ⟨by decide, by decide⟩ dX9_end_2 (fun r1 M1 h => ?_)
  refine v_if_ne C 11 (by decide) dX9_end_5 (fun hc => ?_) (fun hc => ?_)
  · have h := h.2 hc
    refine v_iload_n C 2 rfl dX9_end_11 ?_
    by_cases z2_0 : a2 = 0
    · have h := h.1 z2_0
      refine v_lookup C 40 (off := 28) (by decide) (by decide) (by rw [z2_0]; decide) dX9_end_12 ?_
      refine v_aload_n C 0 rfl dX9_end_40 ?_
      refine g8_2 C kb0 kd0 fl_X9_28 dX9_end_41 ?_
      refine v_iload_n C 1 rfl dX9_end_44 ?_
      refine v_callI C [] (k_X7_endOf 11 a1 M1 sc11 _ h) yX7_endOf_k ml_X9_187 (rcv6 sc11.l0 sc11.k0) rfl rfl (Nat.le_of_ble_eq_true rfl) ⟨by decide, by decide⟩ dX9_end_45 (fun r3 M3 h => ?_)
      exact Rt _ _ _ _ dX9_end_48 h
    by_cases z2_1 : a2 = 1
    · have h := h.2.1 z2_1
      refine v_lookup C 49 (off := 37) (by decide) (by decide) (by rw [z2_1]; decide) dX9_end_12 ?_
      refine v_aload_n C 0 rfl dX9_end_49 ?_
      refine g8_2 C kb0 kd0 fl_X9_28 dX9_end_50 ?_
      refine v_iload_n C 1 rfl dX9_end_53 ?_
      refine v_callI C [] (k_X7_timesToEnd 11 a1 M1 sc11 _ h) yX7_timesToEnd_k ml_X9_190 (rcv6 sc11.l0 sc11.k0) rfl rfl (Nat.le_of_ble_eq_true rfl) ⟨by decide, by decide⟩ dX9_end_54 (fun r4 M4 h => ?_)
      exact Rt _ _ _ _ dX9_end_57 h
    have h := h.2.2 ⟨z2_0, z2_1⟩
    refine v_lookup C 58 (off := 46) (by decide) (by decide) (lk_out_X9_end z2_0 z2_1) dX9_end_12 ?_
    refine v_ldc C kc_X9_85 dX9_end_58 ?_
    exact Rt _ _ _ _ dX9_end_60 h
  · have h := h.1 hc
    refine v_ldc C kc_X9_140 dX9_end_8 ?_
    exact Rt _ _ _ _ dX9_end_10 h
theorem mt_X9_end {w : Wx} {l : Launch} (k_X9_isCar : Ct_X9_isCar w l) (k_X7_endOf : Ct_X7_endOf w l) (k_X7_timesToEnd : Ct_X7_timesToEnd w l) : Ct_X9_end w l := by
  intro a1 a2 M Q h
  refine met_i (by decide +kernel) (Nat.le_of_ble_eq_true rfl) (fun G C hG Rt => ?_)
  subst hG
  exact wk_X9_end C Rt k_X9_isCar k_X7_endOf k_X7_timesToEnd a1 a2 M (h)
theorem ct_X9_end (w : Wx) (l : Launch) : Ct_X9_end w l := mt_X9_end (ct_X9_isCar w l) (ct_X7_endOf w l) (ct_X7_timesToEnd w l)
set_option maxRecDepth 4000 in
theorem wk_X9_behind {w : Wx} {G : Gx} {Q : Int32 → Mem → Prop} (C : Cx w G cX9_behind RX9 2 47 2) (Rt : ∀ (pc : Nat) (lv : List (Nat × Value)) (r0 : Int32) (M0 : Mem), decode cX9_behind pc = .ok (.ireturn, 1) → Q r0 M0 → V w G pc lv [.int r0] M0) (k_X9_isCar : Ct_X9_isCar w G.2.1) (k_X7_trailOf : Ct_X7_trailOf w G.2.1) (a1 : Int32) (M : Mem) (h : bd_X9_behind Q a1 M) : V w G 0 [(0, .ref (w.2.1 0)), (1, .int a1)] [] M := by
  unfold bd_X9_behind at h
  refine v_aload_n C 0 rfl dX9_behind_0 ?_
  refine v_iload_n C 1 rfl dX9_behind_1 ?_
  refine v_callI C [] (k_X9_isCar a1 M _ h) yX9_isCar_k ml_X9_136 (rcv8 kb0 kd0) rfl rfl (Nat.le_of_ble_eq_true rfl) ⟨by decide, by decide⟩ dX9_behind_2 (fun r1 M1 h => ?_)
  refine v_if_eq C 19 (by decide) dX9_behind_5 (fun hc => ?_) (fun hc => ?_)
  · have h := h.1 hc
    refine v_ldc C kc_X9_140 dX9_behind_19 ?_
    exact Rt _ _ _ _ dX9_behind_21 h
  · have h := h.2 hc
    refine v_aload_n C 0 rfl dX9_behind_8 ?_
    refine g8_2 C kb0 kd0 fl_X9_28 dX9_behind_9 ?_
    refine v_iload_n C 1 rfl dX9_behind_12 ?_
    refine v_callI C [] (k_X7_trailOf 11 a1 M1 sc11 _ h) yX7_trailOf_k ml_X9_193 (rcv6 sc11.l0 sc11.k0) rfl rfl (Nat.le_of_ble_eq_true rfl) ⟨by decide, by decide⟩ dX9_behind_13 (fun r2 M2 h => ?_)
    refine v_goto C 21 (by decide) dX9_behind_16 ?_
    exact Rt _ _ _ _ dX9_behind_21 h
theorem mt_X9_behind {w : Wx} {l : Launch} (k_X9_isCar : Ct_X9_isCar w l) (k_X7_trailOf : Ct_X7_trailOf w l) : Ct_X9_behind w l := by
  intro a1 M Q h
  refine met_i (by decide +kernel) (Nat.le_of_ble_eq_true rfl) (fun G C hG Rt => ?_)
  subst hG
  exact wk_X9_behind C Rt k_X9_isCar k_X7_trailOf a1 M (h)
theorem ct_X9_behind (w : Wx) (l : Launch) : Ct_X9_behind w l := mt_X9_behind (ct_X9_isCar w l) (ct_X7_trailOf w l)
set_option maxRecDepth 4000 in
theorem wk_X9_stop {w : Wx} {G : Gx} {Q : Int32 → Mem → Prop} (C : Cx w G cX9_stop RX9 3 69 1) (Rt : ∀ (pc : Nat) (lv : List (Nat × Value)) (r0 : Int32) (M0 : Mem), decode cX9_stop pc = .ok (.ireturn, 1) → Q r0 M0 → V w G pc lv [.int r0] M0) (k_X7_leastOfRings : Ct_X7_leastOfRings w G.2.1) (M : Mem) (h : bd_X9_stop Q M) : V w G 0 [(0, .ref (w.2.1 0))] [] M := by
  unfold bd_X9_stop at h
  refine v_aload_n C 0 rfl dX9_stop_0 ?_
  refine g8_2 C kb0 kd0 fl_X9_28 dX9_stop_1 ?_
  refine v_callI C [] (k_X7_leastOfRings 11 M sc11 _ h) yX7_leastOfRings_k ml_X9_196 (rcv6 sc11.l0 sc11.k0) rfl rfl (Nat.le_of_ble_eq_true rfl) ⟨by decide, by decide⟩ dX9_stop_4 (fun r1 M1 h => ?_)
  exact Rt _ _ _ _ dX9_stop_7 h
theorem mt_X9_stop {w : Wx} {l : Launch} (k_X7_leastOfRings : Ct_X7_leastOfRings w l) : Ct_X9_stop w l := by
  intro M Q h
  refine met_i (by decide +kernel) (Nat.le_of_ble_eq_true rfl) (fun G C hG Rt => ?_)
  subst hG
  exact wk_X9_stop C Rt k_X7_leastOfRings M (h)
theorem ct_X9_stop (w : Wx) (l : Launch) : Ct_X9_stop w l := mt_X9_stop (ct_X7_leastOfRings w l)
set_option maxRecDepth 4000 in
theorem wk_X9_isCorner {w : Wx} {G : Gx} {Q : Int32 → Mem → Prop} (C : Cx w G cX9_isCorner RX9 0 0 2) (Rt : ∀ (pc : Nat) (lv : List (Nat × Value)) (r0 : Int32) (M0 : Mem), decode cX9_isCorner pc = .ok (.ireturn, 1) → (r0 = 0 ∨ r0 = 1) → Q r0 M0 → V w G pc lv [.int r0] M0) (a1 : Int32) (M : Mem) (h : bd_X9_isCorner Q a1 M) : V w G 0 [(0, .ref (w.2.1 0)), (1, .int a1)] [] M := by
  unfold bd_X9_isCorner at h
  refine v_iload_n C 1 rfl dX9_isCorner_0 ?_
  refine v_if_lt C 16 (by decide) dX9_isCorner_1 (fun hc => ?_) (fun hc => ?_)
  · have h := h.1 hc
    refine v_kc C (0) (by decide) dX9_isCorner_16 ?_
    exact Rt _ _ _ _ dX9_isCorner_17 (by decide) h
  · have h := h.2 hc
    refine v_iload_n C 1 rfl dX9_isCorner_4 ?_
    refine v_aload_n C 0 rfl dX9_isCorner_5 ?_
    refine g8_10 C kb0 kd0 fl_X9_75 dX9_isCorner_6 ?_
    have key1 : V w G 17 [(0, .ref (w.2.1 0)), (1, .int a1)] (.int (if (M 0 10) ≤ a1 then (0 : Int32) else (1 : Int32)) :: []) M := by
      exact Rt _ _ _ _ dX9_isCorner_17 h.1 h.2
    refine v_icmp_ge C 16 (by decide) dX9_isCorner_9 (fun hc => ?_) (fun hc => ?_)
    · rw [show (if (M 0 10) ≤ a1 then (0 : Int32) else (1 : Int32) : Int32) = (0 : Int32) from if_pos hc] at key1
      refine v_kc C (0) (by decide) dX9_isCorner_16 ?_
      exact key1
    · rw [show (if (M 0 10) ≤ a1 then (0 : Int32) else (1 : Int32) : Int32) = (1 : Int32) from if_neg hc] at key1
      refine v_kc C (1) (by decide) dX9_isCorner_12 ?_
      refine v_goto C 17 (by decide) dX9_isCorner_13 ?_
      exact key1
theorem mt_X9_isCorner {w : Wx} {l : Launch} : Ct_X9_isCorner w l := by
  intro a1 M Q h
  refine met_z (by decide +kernel) (Nat.le_of_ble_eq_true rfl) (fun G C hG Rt => ?_)
  subst hG
  exact wk_X9_isCorner C Rt a1 M (h)
theorem ct_X9_isCorner (w : Wx) (l : Launch) : Ct_X9_isCorner w l := mt_X9_isCorner
set_option maxRecDepth 4000 in
theorem wk_X7_carsAt {w : Wx} {G : Gx} {Q : Int32 → Mem → Prop} (C : Cx w G cX7_carsAt RX7 0 0 4) (Rt : ∀ (pc : Nat) (lv : List (Nat × Value)) (r0 : Int32) (M0 : Mem), decode cX7_carsAt pc = .ok (.ireturn, 1) → Q r0 M0 → V w G pc lv [.int r0] M0) (b : Nat) (a1 : Int32) (hb : Sc b) (M : Mem) (h : bd_X7_carsAt Q (fun (x2 : Int32) (x3 : Int32) (M : Mem) => V w G 4 [(0, .ref (w.2.1 b)), (1, .int a1), (2, .int x2), (3, .int x3)] [] M) b a1 M) : V w G 0 [(0, .ref (w.2.1 b)), (1, .int a1)] [] M := by
  unfold bd_X7_carsAt at h
  refine v_kc C (0) (by decide) dX7_carsAt_0 ?_
  refine v_istore_n C [(2, .int ((0 : Int32))), (0, .ref (w.2.1 b)), (1, .int a1)] rfl (by decide) dX7_carsAt_1 ?_
  refine v_kc C (0) (by decide) dX7_carsAt_2 ?_
  refine v_istore_n C [(3, .int ((0 : Int32))), (2, .int ((0 : Int32))), (0, .ref (w.2.1 b)), (1, .int a1)] rfl (by decide) dX7_carsAt_3 ?_
  exact V.sub [2, 3, 1, 0] rfl h
set_option maxRecDepth 4000 in
theorem wk_X7_carsAt_4 {w : Wx} {G : Gx} {Q : Int32 → Mem → Prop} (C : Cx w G cX7_carsAt RX7 0 0 4) (Rt : ∀ (pc : Nat) (lv : List (Nat × Value)) (r0 : Int32) (M0 : Mem), decode cX7_carsAt pc = .ok (.ireturn, 1) → Q r0 M0 → V w G pc lv [.int r0] M0) (b : Nat) (a1 : Int32) (hb : Sc b) (x2 : Int32) (x3 : Int32) (M : Mem) (h : bd_X7_carsAt_4 Q (fun (x2 : Int32) (x3 : Int32) (M : Mem) => V w G 4 [(0, .ref (w.2.1 b)), (1, .int a1), (2, .int x2), (3, .int x3)] [] M) b a1 x2 x3 M) : V w G 4 [(0, .ref (w.2.1 b)), (1, .int a1), (2, .int x2), (3, .int x3)] [] M := by
  unfold bd_X7_carsAt_4 at h
  refine v_iload_n C 3 rfl dX7_carsAt_4 ?_
  refine v_aload_n C 0 rfl dX7_carsAt_5 ?_
  refine g6_0 C hb.l0 hb.k0 fl_X7_9 dX7_carsAt_6 ?_
  refine v_icmp_ge C 31 (by decide) dX7_carsAt_9 (fun hc => ?_) (fun hc => ?_)
  · have h := h.1 hc
    refine v_iload_n C 2 rfl dX7_carsAt_31 ?_
    exact Rt _ _ _ _ dX7_carsAt_32 h
  · have h := h.2 hc
    refine v_aload_n C 0 rfl dX7_carsAt_12 ?_
    refine g6_2 C hb.l0 hb.k0 fl_X7_18 dX7_carsAt_13 ?_
    refine v_iload_n C 3 rfl dX7_carsAt_16 ?_
    obtain ⟨s1, h⟩ := h
    refine v_iald C hb.l1 hb.k1 hb.n1 s1 dX7_carsAt_17 ?_
    refine v_iload_n C 1 rfl dX7_carsAt_18 ?_
    refine v_icmp_ne C 25 (by decide) dX7_carsAt_19 (fun hc => ?_) (fun hc => ?_)
    · have h := h.2 hc
      refine v_iinc C (j := 3) [(3, .int (x3 + 1)), (0, .ref (w.2.1 b)), (1, .int a1), (2, .int x2)] rfl (x3 + 1) rfl rfl (by decide) dX7_carsAt_25 ?_
      refine v_goto C 4 (by decide) dX7_carsAt_28 ?_
      exact V.sub [1, 2, 3, 0] rfl h
    · have h := h.1 hc
      refine v_iinc C (j := 2) [(2, .int (x2 + 1)), (0, .ref (w.2.1 b)), (1, .int a1), (3, .int x3)] rfl (x2 + 1) rfl rfl (by decide) dX7_carsAt_22 ?_
      refine v_iinc C (j := 3) [(3, .int (x3 + 1)), (2, .int (x2 + 1)), (0, .ref (w.2.1 b)), (1, .int a1)] rfl (x3 + 1) rfl rfl (by decide) dX7_carsAt_25 ?_
      refine v_goto C 4 (by decide) dX7_carsAt_28 ?_
      exact V.sub [2, 3, 1, 0] rfl h
theorem mt_X7_carsAt {w : Wx} {l : Launch} : Ct_X7_carsAt w l := by
  intro b a1 M hb Q h
  refine met_i (by decide +kernel) (Nat.le_of_ble_eq_true rfl) (fun G C hG Rt => ?_)
  subst hG
  exact wk_X7_carsAt C Rt b a1 hb M (h _ (fun x2 x3 M h => wk_X7_carsAt_4 C Rt b a1 hb x2 x3 M h))
theorem ct_X7_carsAt (w : Wx) (l : Launch) : Ct_X7_carsAt w l := mt_X7_carsAt
set_option maxRecDepth 4000 in
theorem wk_X9_cross {w : Wx} {G : Gx} {Q : Int32 → Mem → Prop} (C : Cx w G cX9_cross RX9 4 87 5) (Rt : ∀ (pc : Nat) (lv : List (Nat × Value)) (r0 : Int32) (M0 : Mem), decode cX9_cross pc = .ok (.ireturn, 1) → Q r0 M0 → V w G pc lv [.int r0] M0) (k_X9_isCorner : Ct_X9_isCorner w G.2.1) (k_X7_copyFrom : Ct_X7_copyFrom w G.2.1) (k_X7_carsAt : Ct_X7_carsAt w G.2.1) (k_X7_move : Ct_X7_move w G.2.1) (a1 : Int32) (a2 : Int32) (M : Mem) (h : bd_X9_cross Q (fun (x3 : Int32) (x4 : Int32) (M : Mem) => V w G 41 [(0, .ref (w.2.1 0)), (1, .int a1), (2, .int a2), (3, .int x3), (4, .int x4)] [] M) a1 a2 M) : V w G 0 [(0, .ref (w.2.1 0)), (1, .int a1), (2, .int a2)] [] M := by
  unfold bd_X9_cross at h
  refine v_aload_n C 0 rfl dX9_cross_0 ?_
  refine v_iload_n C 1 rfl dX9_cross_1 ?_
  refine v_callI C [] (k_X9_isCorner a1 M _ h) yX9_isCorner_k ml_X9_199 (rcv8 kb0 kd0) rfl rfl (Nat.le_of_ble_eq_true rfl) ⟨by decide, by decide⟩ dX9_cross_2 (fun r1 M1 h => ?_)
  refine v_if_ne C 11 (by decide) dX9_cross_5 (fun hc => ?_) (fun hc => ?_)
  · have h := h.2 hc
    refine v_iload_n C 2 rfl dX9_cross_11 ?_
    refine v_kc C (1) (by decide) dX9_cross_12 ?_
    refine v_icmp_lt C 22 (by decide) dX9_cross_13 (fun hc => ?_) (fun hc => ?_)
    · have h := h.1 hc
      refine v_ldc C kc_X9_85 dX9_cross_22 ?_
      exact Rt _ _ _ _ dX9_cross_24 h
    · have h := h.2 hc
      refine v_iload_n C 2 rfl dX9_cross_16 ?_
      refine v_kb C (9) (by decide) dX9_cross_17 ?_
      refine v_icmp_le C 25 (by decide) dX9_cross_19 (fun hc => ?_) (fun hc => ?_)
      · have h := h.1 hc
        refine v_aload_n C 0 rfl dX9_cross_25 ?_
        refine g8_3 C kb0 kd0 fl_X9_32 dX9_cross_26 ?_
        refine v_aload_n C 0 rfl dX9_cross_29 ?_
        refine g8_2 C kb0 kd0 fl_X9_28 dX9_cross_30 ?_
        refine v_callV C [] (k_X7_copyFrom 18 11 M1 sc18 sc11 _ h) yX7_copyFrom_k ml_X9_105 (rcv6 sc18.l0 sc18.k0) rfl rfl (Nat.le_of_ble_eq_true rfl) ⟨by decide, by decide⟩ dX9_cross_33 (fun M2 h => ?_)
        refine v_kc C (0) (by decide) dX9_cross_36 ?_
        refine v_istore_n C [(3, .int ((0 : Int32))), (0, .ref (w.2.1 0)), (1, .int a1), (2, .int a2)] rfl (by decide) dX9_cross_37 ?_
        refine v_kc C (0) (by decide) dX9_cross_38 ?_
        refine v_istore C [(4, .int ((0 : Int32))), (3, .int ((0 : Int32))), (0, .ref (w.2.1 0)), (1, .int a1), (2, .int a2)] rfl (by decide) dX9_cross_39 ?_
        exact V.sub [2, 3, 4, 1, 0] rfl h
      · have h := h.2 hc
        refine v_ldc C kc_X9_85 dX9_cross_22 ?_
        exact Rt _ _ _ _ dX9_cross_24 h
  · have h := h.1 hc
    refine v_ldc C kc_X9_140 dX9_cross_8 ?_
    exact Rt _ _ _ _ dX9_cross_10 h
set_option maxRecDepth 4000 in
theorem wk_X9_cross_41 {w : Wx} {G : Gx} {Q : Int32 → Mem → Prop} (C : Cx w G cX9_cross RX9 4 87 5) (Rt : ∀ (pc : Nat) (lv : List (Nat × Value)) (r0 : Int32) (M0 : Mem), decode cX9_cross pc = .ok (.ireturn, 1) → Q r0 M0 → V w G pc lv [.int r0] M0) (k_X9_isCorner : Ct_X9_isCorner w G.2.1) (k_X7_copyFrom : Ct_X7_copyFrom w G.2.1) (k_X7_carsAt : Ct_X7_carsAt w G.2.1) (k_X7_move : Ct_X7_move w G.2.1) (a1 : Int32) (a2 : Int32) (x3 : Int32) (x4 : Int32) (M : Mem) (h : bd_X9_cross_41 Q (fun (x3 : Int32) (x4 : Int32) (M : Mem) => V w G 41 [(0, .ref (w.2.1 0)), (1, .int a1), (2, .int a2), (3, .int x3), (4, .int x4)] [] M) a1 a2 x3 x4 M) : V w G 41 [(0, .ref (w.2.1 0)), (1, .int a1), (2, .int a2), (3, .int x3), (4, .int x4)] [] M := by
  unfold bd_X9_cross_41 at h
  refine v_iload C 4 rfl dX9_cross_41 ?_
  refine v_ks C (200) (by decide) dX9_cross_43 ?_
  refine v_iload_n C 2 rfl dX9_cross_46 ?_
  refine v_iadd C dX9_cross_47 ?_
  refine v_icmp_ge C 95 (by decide) dX9_cross_48 (fun hc => ?_) (fun hc => ?_)
  · have h := h.1 hc
    refine v_kc C (-1) (by decide) dX9_cross_95 ?_
    exact Rt _ _ _ _ dX9_cross_96 h
  · have h := h.2 hc
    refine v_aload_n C 0 rfl dX9_cross_51 ?_
    refine g8_3 C kb0 kd0 fl_X9_32 dX9_cross_52 ?_
    refine v_iload_n C 1 rfl dX9_cross_55 ?_
    refine v_callI C [] (k_X7_carsAt 18 a1 M sc18 _ h) yX7_carsAt_k ml_X9_202 (rcv6 sc18.l0 sc18.k0) rfl rfl (Nat.le_of_ble_eq_true rfl) ⟨by decide, by decide⟩ dX9_cross_56 (fun r1 M1 h => ?_)
    have key2 : V w G 69 [(0, .ref (w.2.1 0)), (1, .int a1), (2, .int a2), (3, .int x3), (4, .int x4)] (.int (if r1 = 0 then x3 + ((1 : Int32)) else (0 : Int32)) :: []) M1 := by
      refine v_istore_n C [(3, .int (if r1 = 0 then x3 + ((1 : Int32)) else (0 : Int32))), (0, .ref (w.2.1 0)), (1, .int a1), (2, .int a2), (4, .int x4)] rfl (by decide) dX9_cross_69 ?_
      refine v_iload_n C 0 rfl dX9_cross_70 ?_
      refine v_iload_n C 3 rfl dX9_cross_71 ?_
      refine v_icmp_ne C 82 (by decide) dX9_cross_72 (fun hc => ?_) (fun hc => ?_)
      · have h := h.2 hc
        refine v_aload_n C 1 rfl dX9_cross_82 ?_
        refine g8_3 C kb0 kd0 fl_X9_32 dX9_cross_83 ?_
        refine v_callV C [] (k_X7_move 18 M1 sc18 _ h) yX7_move_k ml_X9_178 (rcv6 sc18.l0 sc18.k0) rfl rfl (Nat.le_of_ble_eq_true rfl) ⟨by decide, by decide⟩ dX9_cross_86 (fun M3 h => ?_)
        refine v_iinc C (j := 4) [(4, .int (x4 + 1)), (3, .int (if r1 = 0 then x3 + ((1 : Int32)) else (0 : Int32))), (0, .ref (w.2.1 0)), (1, .int a1), (2, .int a2)] rfl (x4 + 1) rfl rfl (by decide) dX9_cross_89 ?_
        refine v_goto C 41 (by decide) dX9_cross_92 ?_
        exact V.sub [2, 3, 4, 1, 0] rfl h
      · have h := h.1 hc
        refine v_iload C 4 rfl dX9_cross_75 ?_
        refine v_iload_n C 3 rfl dX9_cross_77 ?_
        refine v_isub C dX9_cross_78 ?_
        refine v_kc C (1) (by decide) dX9_cross_79 ?_
        refine v_iadd C dX9_cross_80 ?_
        exact Rt _ _ _ _ dX9_cross_81 h
    refine v_if_ne C 68 (by decide) dX9_cross_59 (fun hc => ?_) (fun hc => ?_)
    · rw [show (if r1 = 0 then x3 + ((1 : Int32)) else (0 : Int32) : Int32) = (0 : Int32) from if_neg hc] at key2
      refine v_kc C (0) (by decide) dX9_cross_68 ?_
      exact key2
    · rw [show (if r1 = 0 then x3 + ((1 : Int32)) else (0 : Int32) : Int32) = x3 + ((1 : Int32)) from if_pos hc] at key2
      refine v_iload_n C 3 rfl dX9_cross_62 ?_
      refine v_kc C (1) (by decide) dX9_cross_63 ?_
      refine v_iadd C dX9_cross_64 ?_
      refine v_goto C 69 (by decide) dX9_cross_65 ?_
      exact key2
theorem mt_X9_cross {w : Wx} {l : Launch} (k_X9_isCorner : Ct_X9_isCorner w l) (k_X7_copyFrom : Ct_X7_copyFrom w l) (k_X7_carsAt : Ct_X7_carsAt w l) (k_X7_move : Ct_X7_move w l) : Ct_X9_cross w l := by
  intro a1 a2 M Q h
  refine met_i (by decide +kernel) (Nat.le_of_ble_eq_true rfl) (fun G C hG Rt => ?_)
  subst hG
  exact wk_X9_cross C Rt k_X9_isCorner k_X7_copyFrom k_X7_carsAt k_X7_move a1 a2 M (h _ (fun x3 x4 M h => wk_X9_cross_41 C Rt k_X9_isCorner k_X7_copyFrom k_X7_carsAt k_X7_move a1 a2 x3 x4 M h))
theorem ct_X9_cross (w : Wx) (l : Launch) : Ct_X9_cross w l := mt_X9_cross (ct_X9_isCorner w l) (ct_X7_copyFrom w l) (ct_X7_carsAt w l) (ct_X7_move w l)
set_option maxRecDepth 4000 in
theorem wk_X9_handed {w : Wx} {G : Gx} {Q : Int32 → Mem → Prop} (C : Cx w G cX9_handed RX9 4 87 5) (Rt : ∀ (pc : Nat) (lv : List (Nat × Value)) (r0 : Int32) (M0 : Mem), decode cX9_handed pc = .ok (.ireturn, 1) → Q r0 M0 → V w G pc lv [.int r0] M0) (k_X9_areTwoCars : Ct_X9_areTwoCars w G.2.1) (k_X7_copyFrom : Ct_X7_copyFrom w G.2.1) (k_X7_allBeside : Ct_X7_allBeside w G.2.1) (k_X9_isIn : Ct_X9_isIn w G.2.1) (k_X7_move : Ct_X7_move w G.2.1) (a1 : Int32) (a2 : Int32) (M : Mem) (h : bd_X9_handed Q (fun (x3 : Int32) (x4 : Int32) (M : Mem) => V w G 30 [(0, .ref (w.2.1 0)), (2, .int a2), (3, .int x3), (4, .int x4)] [] M) a1 a2 M) : V w G 0 [(0, .ref (w.2.1 0)), (1, .int a1), (2, .int a2)] [] M := by
  unfold bd_X9_handed at h
  refine v_aload_n C 0 rfl dX9_handed_0 ?_
  refine v_iload_n C 1 rfl dX9_handed_1 ?_
  refine v_iload_n C 2 rfl dX9_handed_2 ?_
  refine v_callI C [] (k_X9_areTwoCars a1 a2 M _ h) yX9_areTwoCars_k ml_X9_167 (rcv8 kb0 kd0) rfl rfl (Nat.le_of_ble_eq_true rfl) ⟨by decide, by decide⟩ dX9_handed_3 (fun r1 M1 h => ?_)
  refine v_if_ne C 12 (by decide) dX9_handed_6 (fun hc => ?_) (fun hc => ?_)
  · have h := h.2 hc
    refine v_aload_n C 0 rfl dX9_handed_12 ?_
    refine g8_3 C kb0 kd0 fl_X9_32 dX9_handed_13 ?_
    refine v_aload_n C 0 rfl dX9_handed_16 ?_
    refine g8_2 C kb0 kd0 fl_X9_28 dX9_handed_17 ?_
    refine v_callV C [] (k_X7_copyFrom 18 11 M1 sc18 sc11 _ h) yX7_copyFrom_k ml_X9_105 (rcv6 sc18.l0 sc18.k0) rfl rfl (Nat.le_of_ble_eq_true rfl) ⟨by decide, by decide⟩ dX9_handed_20 (fun M2 h => ?_)
    refine v_kc C (1) (by decide) dX9_handed_23 ?_
    refine v_iload_n C 1 rfl dX9_handed_24 ?_
    refine v_ishl C dX9_handed_25 ?_
    refine v_istore_n C [(3, .int (((1 : Int32)) <<< (a1 &&& 31))), (0, .ref (w.2.1 0)), (1, .int a1), (2, .int a2)] rfl (by decide) dX9_handed_26 ?_
    refine v_kc C (0) (by decide) dX9_handed_27 ?_
    refine v_istore C [(4, .int ((0 : Int32))), (3, .int (((1 : Int32)) <<< (a1 &&& 31))), (0, .ref (w.2.1 0)), (1, .int a1), (2, .int a2)] rfl (by decide) dX9_handed_28 ?_
    exact V.sub [2, 4, 1, 0] rfl h
  · have h := h.1 hc
    refine v_ldc C kc_X9_140 dX9_handed_9 ?_
    exact Rt _ _ _ _ dX9_handed_11 h
set_option maxRecDepth 4000 in
theorem wk_X9_handed_30 {w : Wx} {G : Gx} {Q : Int32 → Mem → Prop} (C : Cx w G cX9_handed RX9 4 87 5) (Rt : ∀ (pc : Nat) (lv : List (Nat × Value)) (r0 : Int32) (M0 : Mem), decode cX9_handed pc = .ok (.ireturn, 1) → Q r0 M0 → V w G pc lv [.int r0] M0) (k_X9_areTwoCars : Ct_X9_areTwoCars w G.2.1) (k_X7_copyFrom : Ct_X7_copyFrom w G.2.1) (k_X7_allBeside : Ct_X7_allBeside w G.2.1) (k_X9_isIn : Ct_X9_isIn w G.2.1) (k_X7_move : Ct_X7_move w G.2.1) (a1 : Int32) (a2 : Int32) (x3 : Int32) (x4 : Int32) (M : Mem) (h : bd_X9_handed_30 Q (fun (x3 : Int32) (x4 : Int32) (M : Mem) => V w G 30 [(0, .ref (w.2.1 0)), (2, .int a2), (3, .int x3), (4, .int x4)] [] M) a1 a2 x3 x4 M) : V w G 30 [(0, .ref (w.2.1 0)), (2, .int a2), (3, .int x3), (4, .int x4)] [] M := by
  unfold bd_X9_handed_30 at h
  refine v_iload C 3 rfl dX9_handed_30 ?_
  refine v_ks C (200) (by decide) dX9_handed_32 ?_
  refine v_icmp_gt C 71 (by decide) dX9_handed_35 (fun hc => ?_) (fun hc => ?_)
  · have h := h.1 hc
    refine v_kc C (-1) (by decide) dX9_handed_71 ?_
    exact Rt _ _ _ _ dX9_handed_72 h
  · have h := h.2 hc
    refine v_aload_n C 0 rfl dX9_handed_38 ?_
    refine g8_3 C kb0 kd0 fl_X9_32 dX9_handed_39 ?_
    refine v_iload_n C 2 rfl dX9_handed_42 ?_
    refine v_callI C [] (k_X7_allBeside 18 x3 M sc18 _ h) yX7_allBeside_k ml_X9_205 (rcv6 sc18.l0 sc18.k0) rfl rfl (Nat.le_of_ble_eq_true rfl) ⟨by decide, by decide⟩ dX9_handed_43 (fun r1 M1 h => ?_)
    refine v_istore_n C [(3, .int r1), (0, .ref (w.2.1 0)), (2, .int a2), (4, .int x4)] rfl (by decide) dX9_handed_46 ?_
    refine v_iload_n C 0 rfl dX9_handed_47 ?_
    refine v_iload_n C 2 rfl dX9_handed_48 ?_
    refine v_callSI C [] (k_X9_isIn r1 a2 M1 _ h) yX9_isIn_k ml_X9_208 rfl rfl (Nat.le_of_ble_eq_true rfl) ⟨by decide, by decide⟩ dX9_handed_49 (fun r2 M2 h => ?_)
    refine v_if_eq C 58 (by decide) dX9_handed_52 (fun hc => ?_) (fun hc => ?_)
    · have h := h.1 hc
      refine v_aload_n C 1 rfl dX9_handed_58 ?_
      refine g8_3 C kb0 kd0 fl_X9_32 dX9_handed_59 ?_
      refine v_callV C [] (k_X7_move 18 M2 sc18 _ h) yX7_move_k ml_X9_178 (rcv6 sc18.l0 sc18.k0) rfl rfl (Nat.le_of_ble_eq_true rfl) ⟨by decide, by decide⟩ dX9_handed_62 (fun M3 h => ?_)
      refine v_iinc C (j := 3) [(4, .int (x4 + 1)), (3, .int r1), (0, .ref (w.2.1 0)), (2, .int a2)] rfl (x4 + 1) rfl rfl (by decide) dX9_handed_65 ?_
      refine v_goto C 30 (by decide) dX9_handed_68 ?_
      exact V.sub [2, 3, 1, 0] rfl h
    · have h := h.2 hc
      refine v_iload C 3 rfl dX9_handed_55 ?_
      exact Rt _ _ _ _ dX9_handed_57 h
theorem mt_X9_handed {w : Wx} {l : Launch} (k_X9_areTwoCars : Ct_X9_areTwoCars w l) (k_X7_copyFrom : Ct_X7_copyFrom w l) (k_X7_allBeside : Ct_X7_allBeside w l) (k_X9_isIn : Ct_X9_isIn w l) (k_X7_move : Ct_X7_move w l) : Ct_X9_handed w l := by
  intro a1 a2 M Q h
  refine met_i (by decide +kernel) (Nat.le_of_ble_eq_true rfl) (fun G C hG Rt => ?_)
  subst hG
  exact wk_X9_handed C Rt k_X9_areTwoCars k_X7_copyFrom k_X7_allBeside k_X9_isIn k_X7_move a1 a2 M (h _ (fun x3 x4 M h => wk_X9_handed_30 C Rt k_X9_areTwoCars k_X7_copyFrom k_X7_allBeside k_X9_isIn k_X7_move a1 a2 x3 x4 M h))
theorem ct_X9_handed (w : Wx) (l : Launch) : Ct_X9_handed w l := mt_X9_handed (ct_X9_areTwoCars w l) (ct_X7_copyFrom w l) (ct_X7_allBeside w l) (ct_X9_isIn w l) (ct_X7_move w l)
set_option maxRecDepth 4000 in
theorem wk_X9_meets {w : Wx} {G : Gx} {Q : Int32 → Mem → Prop} (C : Cx w G cX9_meets RX9 5 109 4) (Rt : ∀ (pc : Nat) (lv : List (Nat × Value)) (r0 : Int32) (M0 : Mem), decode cX9_meets pc = .ok (.ireturn, 1) → Q r0 M0 → V w G pc lv [.int r0] M0) (k_X7_copyFrom : Ct_X7_copyFrom w G.2.1) (k_X7_moveTimes : Ct_X7_moveTimes w G.2.1) (k_X7_carsAt : Ct_X7_carsAt w G.2.1) (a1 : Int32) (M : Mem) (h : bd_X9_meets Q (fun (x2 : Int32) (x3 : Int32) (M : Mem) => V w G 37 [(0, .ref (w.2.1 0)), (2, .int x2), (3, .int x3)] [] M) a1 M) : V w G 0 [(0, .ref (w.2.1 0)), (1, .int a1)] [] M := by
  unfold bd_X9_meets at h
  refine v_iload_n C 1 rfl dX9_meets_0 ?_
  refine v_if_lt C 11 (by decide) dX9_meets_1 (fun hc => ?_) (fun hc => ?_)
  · have h := h.1 hc
    refine v_ldc C kc_X9_85 dX9_meets_11 ?_
    exact Rt _ _ _ _ dX9_meets_13 h
  · have h := h.2 hc
    refine v_iload_n C 1 rfl dX9_meets_4 ?_
    refine v_ks C (200) (by decide) dX9_meets_5 ?_
    refine v_icmp_le C 14 (by decide) dX9_meets_8 (fun hc => ?_) (fun hc => ?_)
    · have h := h.1 hc
      refine v_aload_n C 0 rfl dX9_meets_14 ?_
      refine g8_3 C kb0 kd0 fl_X9_32 dX9_meets_15 ?_
      refine v_aload_n C 0 rfl dX9_meets_18 ?_
      refine g8_2 C kb0 kd0 fl_X9_28 dX9_meets_19 ?_
      refine v_callV C [] (k_X7_copyFrom 18 11 M sc18 sc11 _ h) yX7_copyFrom_k ml_X9_105 (rcv6 sc18.l0 sc18.k0) rfl rfl (Nat.le_of_ble_eq_true rfl) ⟨by decide, by decide⟩ dX9_meets_22 (fun M1 h => ?_)
      refine v_aload_n C 0 rfl dX9_meets_25 ?_
      refine g8_3 C kb0 kd0 fl_X9_32 dX9_meets_26 ?_
      refine v_iload_n C 1 rfl dX9_meets_29 ?_
      refine v_callV C [] (k_X7_moveTimes 18 a1 M1 sc18 _ h) yX7_moveTimes_k ml_X9_164 (rcv6 sc18.l0 sc18.k0) rfl rfl (Nat.le_of_ble_eq_true rfl) ⟨by decide, by decide⟩ dX9_meets_30 (fun M2 h => ?_)
      refine v_kc C (0) (by decide) dX9_meets_33 ?_
      refine v_istore_n C [(2, .int ((0 : Int32))), (0, .ref (w.2.1 0)), (1, .int a1)] rfl (by decide) dX9_meets_34 ?_
      refine v_kc C (0) (by decide) dX9_meets_35 ?_
      refine v_istore_n C [(3, .int ((0 : Int32))), (2, .int ((0 : Int32))), (0, .ref (w.2.1 0)), (1, .int a1)] rfl (by decide) dX9_meets_36 ?_
      exact V.sub [2, 1, 0] rfl h
    · have h := h.2 hc
      refine v_ldc C kc_X9_85 dX9_meets_11 ?_
      exact Rt _ _ _ _ dX9_meets_13 h
set_option maxRecDepth 4000 in
theorem wk_X9_meets_37 {w : Wx} {G : Gx} {Q : Int32 → Mem → Prop} (C : Cx w G cX9_meets RX9 5 109 4) (Rt : ∀ (pc : Nat) (lv : List (Nat × Value)) (r0 : Int32) (M0 : Mem), decode cX9_meets pc = .ok (.ireturn, 1) → Q r0 M0 → V w G pc lv [.int r0] M0) (k_X7_copyFrom : Ct_X7_copyFrom w G.2.1) (k_X7_moveTimes : Ct_X7_moveTimes w G.2.1) (k_X7_carsAt : Ct_X7_carsAt w G.2.1) (a1 : Int32) (x2 : Int32) (x3 : Int32) (M : Mem) (h : bd_X9_meets_37 Q (fun (x2 : Int32) (x3 : Int32) (M : Mem) => V w G 37 [(0, .ref (w.2.1 0)), (2, .int x2), (3, .int x3)] [] M) a1 x2 x3 M) : V w G 37 [(0, .ref (w.2.1 0)), (2, .int x2), (3, .int x3)] [] M := by
  unfold bd_X9_meets_37 at h
  refine v_iload_n C 2 rfl dX9_meets_37 ?_
  refine v_aload_n C 0 rfl dX9_meets_38 ?_
  refine g8_10 C kb0 kd0 fl_X9_75 dX9_meets_39 ?_
  refine v_icmp_ge C 64 (by decide) dX9_meets_42 (fun hc => ?_) (fun hc => ?_)
  · have h := h.1 hc
    refine v_iload_n C 1 rfl dX9_meets_64 ?_
    exact Rt _ _ _ _ dX9_meets_65 h
  · have h := h.2 hc
    refine v_iload_n C 1 rfl dX9_meets_45 ?_
    refine v_aload_n C 0 rfl dX9_meets_46 ?_
    refine g8_3 C kb0 kd0 fl_X9_32 dX9_meets_47 ?_
    refine v_iload_n C 2 rfl dX9_meets_50 ?_
    refine v_callI C [.int x2] (k_X7_carsAt 18 x3 M sc18 _ h) yX7_carsAt_k ml_X9_202 (rcv6 sc18.l0 sc18.k0) rfl rfl (Nat.le_of_ble_eq_true rfl) ⟨by decide, by decide⟩ dX9_meets_51 (fun r1 M1 h => ?_)
    refine v_mmax C ml_X9_211 ms_max m_mathi mc_max (by decide) (Nat.le_of_ble_eq_true rfl) dX9_meets_54 ?_
    refine v_istore_n C [(2, .int (if x2 < r1 then r1 else x2)), (0, .ref (w.2.1 0)), (3, .int x3)] rfl (by decide) dX9_meets_57 ?_
    refine v_iinc C (j := 2) [(3, .int (x3 + 1)), (2, .int (if x2 < r1 then r1 else x2)), (0, .ref (w.2.1 0))] rfl (x3 + 1) rfl rfl (by decide) dX9_meets_58 ?_
    refine v_goto C 37 (by decide) dX9_meets_61 ?_
    exact V.sub [2, 1, 0] rfl h
theorem mt_X9_meets {w : Wx} {l : Launch} (k_X7_copyFrom : Ct_X7_copyFrom w l) (k_X7_moveTimes : Ct_X7_moveTimes w l) (k_X7_carsAt : Ct_X7_carsAt w l) : Ct_X9_meets w l := by
  intro a1 M Q h
  refine met_i (by decide +kernel) (Nat.le_of_ble_eq_true rfl) (fun G C hG Rt => ?_)
  subst hG
  exact wk_X9_meets C Rt k_X7_copyFrom k_X7_moveTimes k_X7_carsAt a1 M (h _ (fun x2 x3 M h => wk_X9_meets_37 C Rt k_X7_copyFrom k_X7_moveTimes k_X7_carsAt a1 x2 x3 M h))
theorem ct_X9_meets (w : Wx) (l : Launch) : Ct_X9_meets w l := mt_X9_meets (ct_X7_copyFrom w l) (ct_X7_moveTimes w l) (ct_X7_carsAt w l)
set_option maxRecDepth 4000 in
theorem wk_X9_asked {w : Wx} {G : Gx} {Q : Int32 → Mem → Prop} (C : Cx w G cX9_asked RX9 0 0 5) (Rt : ∀ (pc : Nat) (lv : List (Nat × Value)) (r0 : Int32) (M0 : Mem), decode cX9_asked pc = .ok (.ireturn, 1) → Q r0 M0 → V w G pc lv [.int r0] M0) (a1 : Int32) (M : Mem) (h : bd_X9_asked Q (fun (x2 : Int64) (x4 : Int32) (M : Mem) => V w G 20 [(0, .ref (w.2.1 0)), (1, .int a1), (2, .long x2), (4, .int x4)] [] M) a1 M) : V w G 0 [(0, .ref (w.2.1 0)), (1, .int a1)] [] M := by
  unfold bd_X9_asked at h
  refine v_iload_n C 1 rfl dX9_asked_0 ?_
  refine v_if_lt C 10 (by decide) dX9_asked_1 (fun hc => ?_) (fun hc => ?_)
  · have h := h.1 hc
    refine v_ldc C kc_X9_85 dX9_asked_10 ?_
    exact Rt _ _ _ _ dX9_asked_12 h
  · have h := h.2 hc
    refine v_iload_n C 1 rfl dX9_asked_4 ?_
    refine v_kb C (60) (by decide) dX9_asked_5 ?_
    refine v_icmp_le C 13 (by decide) dX9_asked_7 (fun hc => ?_) (fun hc => ?_)
    · have h := h.1 hc
      refine v_ldc2 C kl_X9_217 dX9_asked_13 ?_
      refine v_lstore_n C [(2, .long ((1000000000 : Int64))), (0, .ref (w.2.1 0)), (1, .int a1)] rfl (by decide) dX9_asked_16 ?_
      refine v_kc C (0) (by decide) dX9_asked_17 ?_
      refine v_istore C [(4, .int ((0 : Int32))), (2, .long ((1000000000 : Int64))), (0, .ref (w.2.1 0)), (1, .int a1)] rfl (by decide) dX9_asked_18 ?_
      exact V.sub [2, 3, 1, 0] rfl h
    · have h := h.2 hc
      refine v_ldc C kc_X9_85 dX9_asked_10 ?_
      exact Rt _ _ _ _ dX9_asked_12 h
set_option maxRecDepth 4000 in
theorem wk_X9_asked_20 {w : Wx} {G : Gx} {Q : Int32 → Mem → Prop} (C : Cx w G cX9_asked RX9 0 0 5) (Rt : ∀ (pc : Nat) (lv : List (Nat × Value)) (r0 : Int32) (M0 : Mem), decode cX9_asked pc = .ok (.ireturn, 1) → Q r0 M0 → V w G pc lv [.int r0] M0) (a1 : Int32) (x2 : Int64) (x4 : Int32) (M : Mem) (h : bd_X9_asked_20 Q (fun (x2 : Int64) (x4 : Int32) (M : Mem) => V w G 20 [(0, .ref (w.2.1 0)), (1, .int a1), (2, .long x2), (4, .int x4)] [] M) a1 x2 x4 M) : V w G 20 [(0, .ref (w.2.1 0)), (1, .int a1), (2, .long x2), (4, .int x4)] [] M := by
  unfold bd_X9_asked_20 at h
  refine v_iload C 3 rfl dX9_asked_20 ?_
  refine v_iload_n C 1 rfl dX9_asked_22 ?_
  refine v_icmp_ge C 47 (by decide) dX9_asked_23 (fun hc => ?_) (fun hc => ?_)
  · have h := h.1 hc
    refine v_lload_n C 2 rfl dX9_asked_47 ?_
    refine v_l2i C dX9_asked_48 ?_
    exact Rt _ _ _ _ dX9_asked_49 h
  · have h := h.2 hc
    refine v_lload_n C 2 rfl dX9_asked_26 ?_
    refine v_kb C (100) (by decide) dX9_asked_27 ?_
    refine v_aload_n C 0 rfl dX9_asked_29 ?_
    refine g8_11 C kb0 kd0 fl_X9_79 dX9_asked_30 ?_
    refine v_isub C dX9_asked_33 ?_
    refine v_i2l C dX9_asked_34 ?_
    refine v_lmul C dX9_asked_35 ?_
    refine v_ldc2 C kl_X9_219 dX9_asked_36 ?_
    refine v_ldiv C (by decide) dX9_asked_39 ?_
    refine v_lstore_n C [(2, .long ((x2 * ((((100 : Int32)) - (M 0 11)).toInt64)) / ((100 : Int64)))), (0, .ref (w.2.1 0)), (1, .int a1), (4, .int x4)] rfl (by decide) dX9_asked_40 ?_
    refine v_iinc C (j := 3) [(4, .int (x4 + 1)), (2, .long ((x2 * ((((100 : Int32)) - (M 0 11)).toInt64)) / ((100 : Int64)))), (0, .ref (w.2.1 0)), (1, .int a1)] rfl (x4 + 1) rfl rfl (by decide) dX9_asked_41 ?_
    refine v_goto C 20 (by decide) dX9_asked_44 ?_
    exact V.sub [2, 3, 1, 0] rfl h
theorem mt_X9_asked {w : Wx} {l : Launch} : Ct_X9_asked w l := by
  intro a1 M Q h
  refine met_i (by decide +kernel) (Nat.le_of_ble_eq_true rfl) (fun G C hG Rt => ?_)
  subst hG
  exact wk_X9_asked C Rt a1 M (h _ (fun x2 x4 M h => wk_X9_asked_20 C Rt a1 x2 x4 M h))
theorem ct_X9_asked (w : Wx) (l : Launch) : Ct_X9_asked w l := mt_X9_asked
set_option maxRecDepth 4000 in
theorem wk_X1_add {w : Wx} {G : Gx} {Q : Int32 → Mem → Prop} (C : Cx w G cX1_add RX1 0 0 4) (Rt : ∀ (pc : Nat) (lv : List (Nat × Value)) (r0 : Int32) (M0 : Mem), decode cX1_add pc = .ok (.ireturn, 1) → Q r0 M0 → V w G pc lv [.int r0] M0) (b : Nat) (n : Nat) (a1 : Int32) (a2 : Int32) (a3 : Int32) (hb : Ent b n) (M : Mem) (h : bd_X1_add Q b n a1 a2 a3 M) : V w G 0 [(0, .ref (w.2.1 b)), (1, .int a1), (2, .int a2), (3, .int a3)] [] M := by
  unfold bd_X1_add at h
  refine v_aload_n C 0 rfl dX1_add_0 ?_
  refine g1_4 C hb.l0 hb.k0 fl_X1_9 dX1_add_1 ?_
  refine v_aload_n C 0 rfl dX1_add_4 ?_
  refine g1_0 C hb.l0 hb.k0 fl_X1_21 dX1_add_5 ?_
  refine v_icmp_lt C 14 (by decide) dX1_add_8 (fun hc => ?_) (fun hc => ?_)
  · have h := h.1 hc
    refine v_aload_n C 0 rfl dX1_add_14 ?_
    refine g1_1 C hb.l0 hb.k0 fl_X1_24 dX1_add_15 ?_
    refine v_aload_n C 0 rfl dX1_add_18 ?_
    refine g1_4 C hb.l0 hb.k0 fl_X1_9 dX1_add_19 ?_
    refine v_iload_n C 1 rfl dX1_add_22 ?_
    obtain ⟨s1, h⟩ := h
    refine v_iast C hb.l1 hb.k1 hb.n1 s1 dX1_add_23 (fun M2 e2 => ?_)
    have h := h M2 e2
    refine v_aload_n C 0 rfl dX1_add_24 ?_
    refine g1_2 C hb.l0 hb.k0 fl_X1_28 dX1_add_25 ?_
    refine v_aload_n C 0 rfl dX1_add_28 ?_
    refine g1_4 C hb.l0 hb.k0 fl_X1_9 dX1_add_29 ?_
    refine v_iload_n C 2 rfl dX1_add_32 ?_
    obtain ⟨s3, h⟩ := h
    refine v_iast C hb.l2 hb.k2 hb.n2 s3 dX1_add_33 (fun M4 e4 => ?_)
    have h := h M4 e4
    refine v_aload_n C 0 rfl dX1_add_34 ?_
    refine g1_3 C hb.l0 hb.k0 fl_X1_31 dX1_add_35 ?_
    refine v_aload_n C 0 rfl dX1_add_38 ?_
    refine g1_4 C hb.l0 hb.k0 fl_X1_9 dX1_add_39 ?_
    refine v_iload_n C 3 rfl dX1_add_42 ?_
    obtain ⟨s5, h⟩ := h
    refine v_iast C hb.l3 hb.k3 hb.n3 s5 dX1_add_43 (fun M6 e6 => ?_)
    have h := h M6 e6
    refine v_aload_n C 0 rfl dX1_add_44 ?_
    refine v_dup C rfl dX1_add_45 ?_
    refine g1_4 C hb.l0 hb.k0 fl_X1_9 dX1_add_46 ?_
    refine v_kc C (1) (by decide) dX1_add_49 ?_
    refine v_iadd C dX1_add_50 ?_
    refine p1_4 C hb.l0 hb.k0 fl_X1_9 dX1_add_51 (fun M7 e7 => ?_)
    have h := h M7 e7
    refine v_aload_n C 0 rfl dX1_add_54 ?_
    refine g1_4 C hb.l0 hb.k0 fl_X1_9 dX1_add_55 ?_
    exact Rt _ _ _ _ dX1_add_58 h
  · have h := h.2 hc
    refine v_ldc C kc_X1_34 dX1_add_11 ?_
    exact Rt _ _ _ _ dX1_add_13 h
theorem mt_X1_add {w : Wx} {l : Launch} : Ct_X1_add w l := by
  intro b n a1 a2 a3 M hb Q h
  refine met_i (by decide +kernel) (Nat.le_of_ble_eq_true rfl) (fun G C hG Rt => ?_)
  subst hG
  exact wk_X1_add C Rt b n a1 a2 a3 hb M (h)
theorem ct_X1_add (w : Wx) (l : Launch) : Ct_X1_add w l := mt_X1_add
set_option maxRecDepth 4000 in
theorem wk_X9_see {w : Wx} {G : Gx} {Q : Int32 → Mem → Prop} (C : Cx w G cX9_see RX9 1 23 4) (Rt : ∀ (pc : Nat) (lv : List (Nat × Value)) (r0 : Int32) (M0 : Mem), decode cX9_see pc = .ok (.ireturn, 1) → Q r0 M0 → V w G pc lv [.int r0] M0) (k_X9_isCar : Ct_X9_isCar w G.2.1) (k_X9_isCorner : Ct_X9_isCorner w G.2.1) (k_X1_add : Ct_X1_add w G.2.1) (a1 : Int32) (a2 : Int32) (a3 : Int32) (M : Mem) (h : bd_X9_see Q a1 a2 a3 M) : V w G 0 [(0, .ref (w.2.1 0)), (1, .int a1), (2, .int a2), (3, .int a3)] [] M := by
  unfold bd_X9_see at h
  refine v_aload_n C 0 rfl dX9_see_0 ?_
  refine v_iload_n C 1 rfl dX9_see_1 ?_
  refine v_callI C [] (k_X9_isCar a1 M _ h) yX9_isCar_k ml_X9_136 (rcv8 kb0 kd0) rfl rfl (Nat.le_of_ble_eq_true rfl) ⟨by decide, by decide⟩ dX9_see_2 (fun r1 M1 h => ?_)
  refine v_if_eq C 16 (by decide) dX9_see_5 (fun hc => ?_) (fun hc => ?_)
  · have h := h.1 hc
    refine v_ldc C kc_X9_140 dX9_see_16 ?_
    exact Rt _ _ _ _ dX9_see_18 h
  · have h := h.2 hc
    refine v_aload_n C 0 rfl dX9_see_8 ?_
    refine v_iload_n C 3 rfl dX9_see_9 ?_
    refine v_callI C [] (k_X9_isCorner a3 M1 _ h) yX9_isCorner_k ml_X9_199 (rcv8 kb0 kd0) rfl rfl (Nat.le_of_ble_eq_true rfl) ⟨by decide, by decide⟩ dX9_see_10 (fun r2 M2 h => ?_)
    refine v_if_ne C 19 (by decide) dX9_see_13 (fun hc => ?_) (fun hc => ?_)
    · have h := h.2 hc
      refine v_iload_n C 2 rfl dX9_see_19 ?_
      refine v_kc C (1) (by decide) dX9_see_20 ?_
      refine v_icmp_lt C 30 (by decide) dX9_see_21 (fun hc => ?_) (fun hc => ?_)
      · have h := h.1 hc
        refine v_ldc C kc_X9_85 dX9_see_30 ?_
        exact Rt _ _ _ _ dX9_see_32 h
      · have h := h.2 hc
        refine v_iload_n C 2 rfl dX9_see_24 ?_
        refine v_kb C (30) (by decide) dX9_see_25 ?_
        refine v_icmp_le C 33 (by decide) dX9_see_27 (fun hc => ?_) (fun hc => ?_)
        · have h := h.1 hc
          refine v_aload_n C 0 rfl dX9_see_33 ?_
          refine g8_6 C kb0 kd0 fl_X9_54 dX9_see_34 ?_
          refine v_iload_n C 1 rfl dX9_see_37 ?_
          refine v_iload_n C 2 rfl dX9_see_38 ?_
          refine v_iload_n C 3 rfl dX9_see_39 ?_
          refine v_callI C [] (k_X1_add 185 6 a1 a2 a3 M2 en185 _ h) yX1_add_k ml_X9_221 (rcv1 en185.l0 en185.k0) rfl rfl (Nat.le_of_ble_eq_true rfl) ⟨by decide, by decide⟩ dX9_see_40 (fun r3 M3 h => ?_)
          exact Rt _ _ _ _ dX9_see_43 h
        · have h := h.2 hc
          refine v_ldc C kc_X9_85 dX9_see_30 ?_
          exact Rt _ _ _ _ dX9_see_32 h
    · have h := h.1 hc
      refine v_ldc C kc_X9_140 dX9_see_16 ?_
      exact Rt _ _ _ _ dX9_see_18 h
theorem mt_X9_see {w : Wx} {l : Launch} (k_X9_isCar : Ct_X9_isCar w l) (k_X9_isCorner : Ct_X9_isCorner w l) (k_X1_add : Ct_X1_add w l) : Ct_X9_see w l := by
  intro a1 a2 a3 M Q h
  refine met_i (by decide +kernel) (Nat.le_of_ble_eq_true rfl) (fun G C hG Rt => ?_)
  subst hG
  exact wk_X9_see C Rt k_X9_isCar k_X9_isCorner k_X1_add a1 a2 a3 M (h)
theorem ct_X9_see (w : Wx) (l : Launch) : Ct_X9_see w l := mt_X9_see (ct_X9_isCar w l) (ct_X9_isCorner w l) (ct_X1_add w l)
set_option maxRecDepth 4000 in
theorem wk_X3_recordTrack {w : Wx} {G : Gx} {Q : Mem → Prop} (C : Cx w G cX3_recordTrack RX3 4 87 4) (Rt : ∀ (pc : Nat) (lv : List (Nat × Value)) (M0 : Mem), decode cX3_recordTrack pc = .ok (.return_, 1) → Q M0 → V w G pc lv [] M0) (k_X7_move : Ct_X7_move w G.2.1) (a1 : Int32) (a2 : Int32) (M : Mem) (h : bd_X3_recordTrack Q (fun (x3 : Int32) (M : Mem) => V w G 2 [(0, .ref (w.2.1 193)), (1, .int a1), (2, .int a2), (3, .int x3)] [] M) a1 a2 M) : V w G 0 [(0, .ref (w.2.1 193)), (1, .int a1), (2, .int a2)] [] M := by
  unfold bd_X3_recordTrack at h
  refine v_kc C (1) (by decide) dX3_recordTrack_0 ?_
  refine v_istore_n C [(3, .int ((1 : Int32))), (0, .ref (w.2.1 193)), (1, .int a1), (2, .int a2)] rfl (by decide) dX3_recordTrack_1 ?_
  exact V.sub [1, 2, 3, 0] rfl h
set_option maxRecDepth 4000 in
theorem wk_X3_recordTrack_2 {w : Wx} {G : Gx} {Q : Mem → Prop} (C : Cx w G cX3_recordTrack RX3 4 87 4) (Rt : ∀ (pc : Nat) (lv : List (Nat × Value)) (M0 : Mem), decode cX3_recordTrack pc = .ok (.return_, 1) → Q M0 → V w G pc lv [] M0) (k_X7_move : Ct_X7_move w G.2.1) (a1 : Int32) (a2 : Int32) (x3 : Int32) (M : Mem) (h : bd_X3_recordTrack_2 Q (fun (x3 : Int32) (M : Mem) => V w G 2 [(0, .ref (w.2.1 193)), (1, .int a1), (2, .int a2), (3, .int x3)] [] M) a1 a2 x3 M) : V w G 2 [(0, .ref (w.2.1 193)), (1, .int a1), (2, .int a2), (3, .int x3)] [] M := by
  unfold bd_X3_recordTrack_2 at h
  refine v_iload_n C 3 rfl dX3_recordTrack_2 ?_
  refine v_kb C (30) (by decide) dX3_recordTrack_3 ?_
  refine v_icmp_gt C 38 (by decide) dX3_recordTrack_5 (fun hc => ?_) (fun hc => ?_)
  · have h := h.1 hc
    exact Rt _ _ _ dX3_recordTrack_38 h
  · have h := h.2 hc
    refine v_aload_n C 0 rfl dX3_recordTrack_8 ?_
    refine g2_1 C kb193 kd193 fl_X3_19 dX3_recordTrack_9 ?_
    refine v_callV C [] (k_X7_move 203 M sc203 _ h) yX7_move_k ml_X3_46 (rcv6 sc203.l0 sc203.k0) rfl rfl (Nat.le_of_ble_eq_true rfl) ⟨by decide, by decide⟩ dX3_recordTrack_12 (fun M1 h => ?_)
    refine v_aload_n C 0 rfl dX3_recordTrack_15 ?_
    refine g2_0 C kb193 kd193 fl_X3_11 dX3_recordTrack_16 ?_
    refine v_iload_n C 2 rfl dX3_recordTrack_19 ?_
    obtain ⟨s2, h⟩ := h
    refine v_aald C kb194 kd194 ln194 s2 dX3_recordTrack_20 ?_
    refine v_iload_n C 3 rfl dX3_recordTrack_21 ?_
    refine v_aload_n C 0 rfl dX3_recordTrack_22 ?_
    refine g2_1 C kb193 kd193 fl_X3_19 dX3_recordTrack_23 ?_
    refine g6_2 C sc203.l0 sc203.k0 fl_X3_49 dX3_recordTrack_26 ?_
    refine v_iload_n C 1 rfl dX3_recordTrack_29 ?_
    obtain ⟨s3, h⟩ := h
    refine v_iald C sc203.l1 sc203.k1 sc203.n1 s3 dX3_recordTrack_30 ?_
    obtain ⟨s4, h⟩ := h
    refine v_iast C (tr194 s2).1 (tr194 s2).2.1 (tr194 s2).2.2 s4 dX3_recordTrack_31 (fun M5 e5 => ?_)
    have h := h M5 e5
    refine v_iinc C (j := 3) [(3, .int (x3 + 1)), (0, .ref (w.2.1 193)), (1, .int a1), (2, .int a2)] rfl (x3 + 1) rfl rfl (by decide) dX3_recordTrack_32 ?_
    refine v_goto C 2 (by decide) dX3_recordTrack_35 ?_
    exact V.sub [1, 2, 3, 0] rfl h
theorem mt_X3_recordTrack {w : Wx} {l : Launch} (k_X7_move : Ct_X7_move w l) : Ct_X3_recordTrack w l := by
  intro a1 a2 M Q h
  refine met_v (by decide +kernel) (Nat.le_of_ble_eq_true rfl) (fun G C hG Rt => ?_)
  subst hG
  exact wk_X3_recordTrack C Rt k_X7_move a1 a2 M (h _ (fun x3 M h => wk_X3_recordTrack_2 C Rt k_X7_move a1 a2 x3 M h))
theorem ct_X3_recordTrack (w : Wx) (l : Launch) : Ct_X3_recordTrack w l := mt_X3_recordTrack (ct_X7_move w l)
set_option maxRecDepth 4000 in
theorem wk_X3_fits {w : Wx} {G : Gx} {Q : Int32 → Mem → Prop} (C : Cx w G cX3_fits RX3 0 0 5) (Rt : ∀ (pc : Nat) (lv : List (Nat × Value)) (r0 : Int32) (M0 : Mem), decode cX3_fits pc = .ok (.ireturn, 1) → (r0 = 0 ∨ r0 = 1) → Q r0 M0 → V w G pc lv [.int r0] M0) (a1 : Int32) (a2 : Int32) (M : Mem) (h : bd_X3_fits Q (fun (x4 : Int32) (M : Mem) => V w G 3 [(0, .ref (w.2.1 193)), (1, .int a1), (2, .int a2), (3, .ref (w.2.1 185)), (4, .int x4)] [] M) a1 a2 M) : V w G 0 [(0, .ref (w.2.1 193)), (1, .int a1), (2, .int a2), (3, .ref (w.2.1 185))] [] M := by
  unfold bd_X3_fits at h
  refine v_kc C (0) (by decide) dX3_fits_0 ?_
  refine v_istore C [(4, .int ((0 : Int32))), (0, .ref (w.2.1 193)), (1, .int a1), (2, .int a2), (3, .ref (w.2.1 185))] rfl (by decide) dX3_fits_1 ?_
  exact V.sub [1, 2, 3, 4, 0] rfl h
set_option maxRecDepth 4000 in
theorem wk_X3_fits_3 {w : Wx} {G : Gx} {Q : Int32 → Mem → Prop} (C : Cx w G cX3_fits RX3 0 0 5) (Rt : ∀ (pc : Nat) (lv : List (Nat × Value)) (r0 : Int32) (M0 : Mem), decode cX3_fits pc = .ok (.ireturn, 1) → (r0 = 0 ∨ r0 = 1) → Q r0 M0 → V w G pc lv [.int r0] M0) (a1 : Int32) (a2 : Int32) (x4 : Int32) (M : Mem) (h : bd_X3_fits_3 Q (fun (x4 : Int32) (M : Mem) => V w G 3 [(0, .ref (w.2.1 193)), (1, .int a1), (2, .int a2), (3, .ref (w.2.1 185)), (4, .int x4)] [] M) a1 a2 x4 M) : V w G 3 [(0, .ref (w.2.1 193)), (1, .int a1), (2, .int a2), (3, .ref (w.2.1 185)), (4, .int x4)] [] M := by
  unfold bd_X3_fits_3 at h
  refine v_iload C 4 rfl dX3_fits_3 ?_
  refine v_aload_n C 3 rfl dX3_fits_5 ?_
  refine g1_4 C en185.l0 en185.k0 fl_X3_52 dX3_fits_6 ?_
  refine v_icmp_ge C 55 (by decide) dX3_fits_9 (fun hc => ?_) (fun hc => ?_)
  · have h := h.1 hc
    refine v_kc C (1) (by decide) dX3_fits_55 ?_
    exact Rt _ _ _ _ dX3_fits_56 (by decide) h
  · have h := h.2 hc
    refine v_aload_n C 3 rfl dX3_fits_12 ?_
    refine g1_1 C en185.l0 en185.k0 fl_X3_57 dX3_fits_13 ?_
    refine v_iload C 4 rfl dX3_fits_16 ?_
    obtain ⟨s1, h⟩ := h
    refine v_iald C en185.l1 en185.k1 en185.n1 s1 dX3_fits_18 ?_
    refine v_iload_n C 1 rfl dX3_fits_19 ?_
    refine v_icmp_ne C 49 (by decide) dX3_fits_20 (fun hc => ?_) (fun hc => ?_)
    · have h := h.2 hc
      refine v_iinc C (j := 4) [(4, .int (x4 + 1)), (0, .ref (w.2.1 193)), (1, .int a1), (2, .int a2), (3, .ref (w.2.1 185))] rfl (x4 + 1) rfl rfl (by decide) dX3_fits_49 ?_
      refine v_goto C 3 (by decide) dX3_fits_52 ?_
      exact V.sub [1, 2, 3, 4, 0] rfl h
    · have h := h.1 hc
      refine v_aload_n C 0 rfl dX3_fits_23 ?_
      refine g2_0 C kb193 kd193 fl_X3_11 dX3_fits_24 ?_
      refine v_iload_n C 2 rfl dX3_fits_27 ?_
      obtain ⟨s2, h⟩ := h
      refine v_aald C kb194 kd194 ln194 s2 dX3_fits_28 ?_
      refine v_aload_n C 3 rfl dX3_fits_29 ?_
      refine g1_2 C en185.l0 en185.k0 fl_X3_60 dX3_fits_30 ?_
      refine v_iload C 4 rfl dX3_fits_33 ?_
      obtain ⟨s3, h⟩ := h
      refine v_iald C en185.l2 en185.k2 en185.n2 s3 dX3_fits_35 ?_
      obtain ⟨s4, h⟩ := h
      refine v_iald C (tr194 s2).1 (tr194 s2).2.1 (tr194 s2).2.2 s4 dX3_fits_36 ?_
      refine v_aload_n C 3 rfl dX3_fits_37 ?_
      refine g1_3 C en185.l0 en185.k0 fl_X3_63 dX3_fits_38 ?_
      refine v_iload C 4 rfl dX3_fits_41 ?_
      obtain ⟨s5, h⟩ := h
      refine v_iald C en185.l3 en185.k3 en185.n3 s5 dX3_fits_43 ?_
      refine v_icmp_eq C 49 (by decide) dX3_fits_44 (fun hc => ?_) (fun hc => ?_)
      · have h := h.1 hc
        refine v_iinc C (j := 4) [(4, .int (x4 + 1)), (0, .ref (w.2.1 193)), (1, .int a1), (2, .int a2), (3, .ref (w.2.1 185))] rfl (x4 + 1) rfl rfl (by decide) dX3_fits_49 ?_
        refine v_goto C 3 (by decide) dX3_fits_52 ?_
        exact V.sub [1, 2, 3, 4, 0] rfl h
      · have h := h.2 hc
        refine v_kc C (0) (by decide) dX3_fits_47 ?_
        exact Rt _ _ _ _ dX3_fits_48 (by decide) h
theorem mt_X3_fits {w : Wx} {l : Launch} : Ct_X3_fits w l := by
  intro a1 a2 M Q h
  refine met_z (by decide +kernel) (Nat.le_of_ble_eq_true rfl) (fun G C hG Rt => ?_)
  subst hG
  exact wk_X3_fits C Rt a1 a2 M (h _ (fun x4 M h => wk_X3_fits_3 C Rt a1 a2 x4 M h))
theorem ct_X3_fits (w : Wx) (l : Launch) : Ct_X3_fits w l := mt_X3_fits
set_option maxRecDepth 4000 in
theorem wk_X3_weigh {w : Wx} {G : Gx} {Q : Mem → Prop} (C : Cx w G cX3_weigh RX3 5 110 5) (Rt : ∀ (pc : Nat) (lv : List (Nat × Value)) (M0 : Mem), decode cX3_weigh pc = .ok (.return_, 1) → Q M0 → V w G pc lv [] M0) (k_X7_copyFrom : Ct_X7_copyFrom w G.2.1) (k_X3_recordTrack : Ct_X3_recordTrack w G.2.1) (k_X3_fits : Ct_X3_fits w G.2.1) (a2 : Int32) (M : Mem) (h : bd_X3_weigh Q (fun (x4 : Int32) (M : Mem) => V w G 8 [(0, .ref (w.2.1 193)), (1, .ref (w.2.1 11)), (2, .int a2), (3, .ref (w.2.1 185)), (4, .int x4)] [] M) a2 M) : V w G 0 [(0, .ref (w.2.1 193)), (1, .ref (w.2.1 11)), (2, .int a2), (3, .ref (w.2.1 185))] [] M := by
  unfold bd_X3_weigh at h
  refine v_aload_n C 0 rfl dX3_weigh_0 ?_
  refine v_kc C (0) (by decide) dX3_weigh_1 ?_
  refine p2_2 C kb193 kd193 fl_X3_23 dX3_weigh_2 (fun M1 e1 => ?_)
  have h := h M1 e1
  refine v_kc C (0) (by decide) dX3_weigh_5 ?_
  refine v_istore C [(4, .int ((0 : Int32))), (0, .ref (w.2.1 193)), (1, .ref (w.2.1 11)), (2, .int a2), (3, .ref (w.2.1 185))] rfl (by decide) dX3_weigh_6 ?_
  exact V.sub [1, 2, 3, 4, 0] rfl h
set_option maxRecDepth 4000 in
theorem wk_X3_weigh_8 {w : Wx} {G : Gx} {Q : Mem → Prop} (C : Cx w G cX3_weigh RX3 5 110 5) (Rt : ∀ (pc : Nat) (lv : List (Nat × Value)) (M0 : Mem), decode cX3_weigh pc = .ok (.return_, 1) → Q M0 → V w G pc lv [] M0) (k_X7_copyFrom : Ct_X7_copyFrom w G.2.1) (k_X3_recordTrack : Ct_X3_recordTrack w G.2.1) (k_X3_fits : Ct_X3_fits w G.2.1) (a2 : Int32) (x4 : Int32) (M : Mem) (h : bd_X3_weigh_8 Q (fun (x4 : Int32) (M : Mem) => V w G 8 [(0, .ref (w.2.1 193)), (1, .ref (w.2.1 11)), (2, .int a2), (3, .ref (w.2.1 185)), (4, .int x4)] [] M) a2 x4 M) : V w G 8 [(0, .ref (w.2.1 193)), (1, .ref (w.2.1 11)), (2, .int a2), (3, .ref (w.2.1 185)), (4, .int x4)] [] M := by
  unfold bd_X3_weigh_8 at h
  refine v_iload C 4 rfl dX3_weigh_8 ?_
  refine v_aload_n C 1 rfl dX3_weigh_10 ?_
  refine g6_0 C sc11.l0 sc11.k0 fl_X3_27 dX3_weigh_11 ?_
  refine v_icmp_ge C 79 (by decide) dX3_weigh_14 (fun hc => ?_) (fun hc => ?_)
  · have h := h.1 hc
    exact Rt _ _ _ dX3_weigh_79 h
  · have h := h.2 hc
    refine v_iload C 4 rfl dX3_weigh_17 ?_
    refine v_iload_n C 2 rfl dX3_weigh_19 ?_
    refine v_icmp_eq C 73 (by decide) dX3_weigh_20 (fun hc => ?_) (fun hc => ?_)
    · have h := h.1 hc
      refine v_iinc C (j := 4) [(4, .int (x4 + 1)), (0, .ref (w.2.1 193)), (1, .ref (w.2.1 11)), (2, .int a2), (3, .ref (w.2.1 185))] rfl (x4 + 1) rfl rfl (by decide) dX3_weigh_73 ?_
      refine v_goto C 8 (by decide) dX3_weigh_76 ?_
      exact V.sub [1, 2, 3, 4, 0] rfl h
    · have h := h.2 hc
      refine v_aload_n C 0 rfl dX3_weigh_23 ?_
      refine g2_1 C kb193 kd193 fl_X3_19 dX3_weigh_24 ?_
      refine v_aload_n C 1 rfl dX3_weigh_27 ?_
      refine v_callV C [] (k_X7_copyFrom 203 11 M sc203 sc11 _ h) yX7_copyFrom_k ml_X3_30 (rcv6 sc203.l0 sc203.k0) rfl rfl (Nat.le_of_ble_eq_true rfl) ⟨by decide, by decide⟩ dX3_weigh_28 (fun M1 h => ?_)
      refine v_aload_n C 0 rfl dX3_weigh_31 ?_
      refine g2_1 C kb193 kd193 fl_X3_19 dX3_weigh_32 ?_
      refine g6_3 C sc203.l0 sc203.k0 fl_X3_34 dX3_weigh_35 ?_
      refine v_iload_n C 2 rfl dX3_weigh_38 ?_
      refine v_iload C 4 rfl dX3_weigh_39 ?_
      obtain ⟨s2, h⟩ := h
      refine v_iast C sc203.l2 sc203.k2 sc203.n2 s2 dX3_weigh_41 (fun M3 e3 => ?_)
      have h := h M3 e3
      refine v_aload_n C 0 rfl dX3_weigh_42 ?_
      refine v_iload_n C 2 rfl dX3_weigh_43 ?_
      refine v_iload C 4 rfl dX3_weigh_44 ?_
      refine v_callV C [] (k_X3_recordTrack a2 x4 M3 _ h) yX3_recordTrack_k ml_X3_38 (rcv2 kb193 kd193) rfl rfl (Nat.le_of_ble_eq_true rfl) ⟨by decide, by decide⟩ dX3_weigh_46 (fun M4 h => ?_)
      refine v_aload_n C 0 rfl dX3_weigh_49 ?_
      refine v_iload_n C 2 rfl dX3_weigh_50 ?_
      refine v_iload C 4 rfl dX3_weigh_51 ?_
      refine v_aload_n C 3 rfl dX3_weigh_53 ?_
      refine v_callI C [] (k_X3_fits a2 x4 M4 _ h) yX3_fits_k ml_X3_42 (rcv2 kb193 kd193) rfl rfl (Nat.le_of_ble_eq_true rfl) ⟨by decide, by decide⟩ dX3_weigh_54 (fun r5 M5 h => ?_)
      refine v_if_eq C 73 (by decide) dX3_weigh_57 (fun hc => ?_) (fun hc => ?_)
      · have h := h.1 hc
        refine v_iinc C (j := 4) [(4, .int (x4 + 1)), (0, .ref (w.2.1 193)), (1, .ref (w.2.1 11)), (2, .int a2), (3, .ref (w.2.1 185))] rfl (x4 + 1) rfl rfl (by decide) dX3_weigh_73 ?_
        refine v_goto C 8 (by decide) dX3_weigh_76 ?_
        exact V.sub [1, 2, 3, 4, 0] rfl h
      · have h := h.2 hc
        refine v_aload_n C 0 rfl dX3_weigh_60 ?_
        refine v_dup C rfl dX3_weigh_61 ?_
        refine g2_2 C kb193 kd193 fl_X3_23 dX3_weigh_62 ?_
        refine v_kc C (1) (by decide) dX3_weigh_65 ?_
        refine v_iload C 4 rfl dX3_weigh_66 ?_
        refine v_ishl C dX3_weigh_68 ?_
        refine v_ior C dX3_weigh_69 ?_
        refine p2_2 C kb193 kd193 fl_X3_23 dX3_weigh_70 (fun M6 e6 => ?_)
        have h := h M6 e6
        refine v_iinc C (j := 4) [(4, .int (x4 + 1)), (0, .ref (w.2.1 193)), (1, .ref (w.2.1 11)), (2, .int a2), (3, .ref (w.2.1 185))] rfl (x4 + 1) rfl rfl (by decide) dX3_weigh_73 ?_
        refine v_goto C 8 (by decide) dX3_weigh_76 ?_
        exact V.sub [1, 2, 3, 4, 0] rfl h
theorem mt_X3_weigh {w : Wx} {l : Launch} (k_X7_copyFrom : Ct_X7_copyFrom w l) (k_X3_recordTrack : Ct_X3_recordTrack w l) (k_X3_fits : Ct_X3_fits w l) : Ct_X3_weigh w l := by
  intro a2 M Q h
  refine met_v (by decide +kernel) (Nat.le_of_ble_eq_true rfl) (fun G C hG Rt => ?_)
  subst hG
  exact wk_X3_weigh C Rt k_X7_copyFrom k_X3_recordTrack k_X3_fits a2 M (h _ (fun x4 M h => wk_X3_weigh_8 C Rt k_X7_copyFrom k_X3_recordTrack k_X3_fits a2 x4 M h))
theorem ct_X3_weigh (w : Wx) (l : Launch) : Ct_X3_weigh w l := mt_X3_weigh (ct_X7_copyFrom w l) (ct_X3_recordTrack w l) (ct_X3_fits w l)
set_option maxRecDepth 4000 in
theorem wk_X9_whom {w : Wx} {G : Gx} {Q : Int32 → Mem → Prop} (C : Cx w G cX9_whom RX9 6 134 2) (Rt : ∀ (pc : Nat) (lv : List (Nat × Value)) (r0 : Int32) (M0 : Mem), decode cX9_whom pc = .ok (.ireturn, 1) → Q r0 M0 → V w G pc lv [.int r0] M0) (k_X9_isCar : Ct_X9_isCar w G.2.1) (k_X3_weigh : Ct_X3_weigh w G.2.1) (a1 : Int32) (M : Mem) (h : bd_X9_whom Q a1 M) : V w G 0 [(0, .ref (w.2.1 0)), (1, .int a1)] [] M := by
  unfold bd_X9_whom at h
  refine v_aload_n C 0 rfl dX9_whom_0 ?_
  refine v_iload_n C 1 rfl dX9_whom_1 ?_
  refine v_callI C [] (k_X9_isCar a1 M _ h) yX9_isCar_k ml_X9_136 (rcv8 kb0 kd0) rfl rfl (Nat.le_of_ble_eq_true rfl) ⟨by decide, by decide⟩ dX9_whom_2 (fun r1 M1 h => ?_)
  refine v_if_ne C 11 (by decide) dX9_whom_5 (fun hc => ?_) (fun hc => ?_)
  · have h := h.2 hc
    refine v_aload_n C 0 rfl dX9_whom_11 ?_
    refine g8_8 C kb0 kd0 fl_X9_64 dX9_whom_12 ?_
    refine v_aload_n C 0 rfl dX9_whom_15 ?_
    refine g8_2 C kb0 kd0 fl_X9_28 dX9_whom_16 ?_
    refine v_iload_n C 1 rfl dX9_whom_19 ?_
    refine v_aload_n C 0 rfl dX9_whom_20 ?_
    refine g8_6 C kb0 kd0 fl_X9_54 dX9_whom_21 ?_
    refine v_callV C [] (k_X3_weigh a1 M1 _ h) yX3_weigh_k ml_X9_224 (rcv2 kb193 kd193) rfl rfl (Nat.le_of_ble_eq_true rfl) ⟨by decide, by decide⟩ dX9_whom_24 (fun M2 h => ?_)
    refine v_aload_n C 0 rfl dX9_whom_27 ?_
    refine g8_8 C kb0 kd0 fl_X9_64 dX9_whom_28 ?_
    refine g2_2 C kb193 kd193 fl_X9_228 dX9_whom_31 ?_
    exact Rt _ _ _ _ dX9_whom_34 h
  · have h := h.1 hc
    refine v_ldc C kc_X9_140 dX9_whom_8 ?_
    exact Rt _ _ _ _ dX9_whom_10 h
theorem mt_X9_whom {w : Wx} {l : Launch} (k_X9_isCar : Ct_X9_isCar w l) (k_X3_weigh : Ct_X3_weigh w l) : Ct_X9_whom w l := by
  intro a1 M Q h
  refine met_i (by decide +kernel) (Nat.le_of_ble_eq_true rfl) (fun G C hG Rt => ?_)
  subst hG
  exact wk_X9_whom C Rt k_X9_isCar k_X3_weigh a1 M (h)
theorem ct_X9_whom (w : Wx) (l : Launch) : Ct_X9_whom w l := mt_X9_whom (ct_X9_isCar w l) (ct_X3_weigh w l)
set_option maxRecDepth 4000 in
theorem wk_X3_partAlike {w : Wx} {G : Gx} {Q : Int32 → Mem → Prop} (C : Cx w G cX3_partAlike RX3 1 21 5) (Rt : ∀ (pc : Nat) (lv : List (Nat × Value)) (r0 : Int32) (M0 : Mem), decode cX3_partAlike pc = .ok (.ireturn, 1) → Q r0 M0 → V w G pc lv [.int r0] M0) (k_X9_isIn : Ct_X9_isIn w G.2.1) (a1 : Int32) (a2 : Int32) (M : Mem) (h : bd_X3_partAlike Q (fun (x3 : Int32) (x4 : Int32) (M : Mem) => V w G 5 [(0, .ref (w.2.1 193)), (1, .int a1), (2, .int a2), (3, .int x3), (4, .int x4)] [] M) a1 a2 M) : V w G 0 [(0, .ref (w.2.1 193)), (1, .int a1), (2, .int a2)] [] M := by
  unfold bd_X3_partAlike at h
  refine v_kc C (0) (by decide) dX3_partAlike_0 ?_
  refine v_istore_n C [(3, .int ((0 : Int32))), (0, .ref (w.2.1 193)), (1, .int a1), (2, .int a2)] rfl (by decide) dX3_partAlike_1 ?_
  refine v_kc C (0) (by decide) dX3_partAlike_2 ?_
  refine v_istore C [(4, .int ((0 : Int32))), (3, .int ((0 : Int32))), (0, .ref (w.2.1 193)), (1, .int a1), (2, .int a2)] rfl (by decide) dX3_partAlike_3 ?_
  exact V.sub [2, 3, 4, 1, 0] rfl h
set_option maxRecDepth 4000 in
theorem wk_X3_partAlike_5 {w : Wx} {G : Gx} {Q : Int32 → Mem → Prop} (C : Cx w G cX3_partAlike RX3 1 21 5) (Rt : ∀ (pc : Nat) (lv : List (Nat × Value)) (r0 : Int32) (M0 : Mem), decode cX3_partAlike pc = .ok (.ireturn, 1) → Q r0 M0 → V w G pc lv [.int r0] M0) (k_X9_isIn : Ct_X9_isIn w G.2.1) (a1 : Int32) (a2 : Int32) (x3 : Int32) (x4 : Int32) (M : Mem) (h : bd_X3_partAlike_5 Q (fun (x3 : Int32) (x4 : Int32) (M : Mem) => V w G 5 [(0, .ref (w.2.1 193)), (1, .int a1), (2, .int a2), (3, .int x3), (4, .int x4)] [] M) a1 a2 x3 x4 M) : V w G 5 [(0, .ref (w.2.1 193)), (1, .int a1), (2, .int a2), (3, .int x3), (4, .int x4)] [] M := by
  unfold bd_X3_partAlike_5 at h
  refine v_iload C 4 rfl dX3_partAlike_5 ?_
  refine v_kb C (8) (by decide) dX3_partAlike_7 ?_
  refine v_icmp_ge C 53 (by decide) dX3_partAlike_9 (fun hc => ?_) (fun hc => ?_)
  · have h := h.1 hc
    refine v_iload_n C 3 rfl dX3_partAlike_53 ?_
    exact Rt _ _ _ _ dX3_partAlike_54 h
  · have h := h.2 hc
    refine v_aload_n C 0 rfl dX3_partAlike_12 ?_
    refine g2_2 C kb193 kd193 fl_X3_23 dX3_partAlike_13 ?_
    refine v_iload C 4 rfl dX3_partAlike_16 ?_
    refine v_callNI C [] (k_X9_isIn (M 193 2) x4 M _ h) yX9_isIn_k mn_X3_73 rfl rfl (Nat.le_of_ble_eq_true rfl) ⟨by decide, by decide⟩ dX3_partAlike_18 (fun r1 M1 h => ?_)
    refine v_if_eq C 47 (by decide) dX3_partAlike_21 (fun hc => ?_) (fun hc => ?_)
    · have h := h.1 hc
      refine v_iinc C (j := 4) [(4, .int (x4 + 1)), (0, .ref (w.2.1 193)), (1, .int a1), (2, .int a2), (3, .int x3)] rfl (x4 + 1) rfl rfl (by decide) dX3_partAlike_47 ?_
      refine v_goto C 5 (by decide) dX3_partAlike_50 ?_
      exact V.sub [1, 2, 3, 4, 0] rfl h
    · have h := h.2 hc
      refine v_aload_n C 0 rfl dX3_partAlike_24 ?_
      refine g2_0 C kb193 kd193 fl_X3_11 dX3_partAlike_25 ?_
      refine v_iload C 4 rfl dX3_partAlike_28 ?_
      obtain ⟨s2, h⟩ := h
      refine v_aald C kb194 kd194 ln194 s2 dX3_partAlike_30 ?_
      refine v_iload_n C 2 rfl dX3_partAlike_31 ?_
      obtain ⟨s3, h⟩ := h
      refine v_iald C (tr194 s2).1 (tr194 s2).2.1 (tr194 s2).2.2 s3 dX3_partAlike_32 ?_
      refine v_aload_n C 0 rfl dX3_partAlike_33 ?_
      refine g2_0 C kb193 kd193 fl_X3_11 dX3_partAlike_34 ?_
      refine v_iload_n C 1 rfl dX3_partAlike_37 ?_
      obtain ⟨s4, h⟩ := h
      refine v_aald C kb194 kd194 ln194 s4 dX3_partAlike_38 ?_
      refine v_iload_n C 2 rfl dX3_partAlike_39 ?_
      obtain ⟨s5, h⟩ := h
      refine v_iald C (tr194 s4).1 (tr194 s4).2.1 (tr194 s4).2.2 s5 dX3_partAlike_40 ?_
      refine v_icmp_ne C 47 (by decide) dX3_partAlike_41 (fun hc => ?_) (fun hc => ?_)
      · have h := h.2 hc
        refine v_iinc C (j := 4) [(4, .int (x4 + 1)), (0, .ref (w.2.1 193)), (1, .int a1), (2, .int a2), (3, .int x3)] rfl (x4 + 1) rfl rfl (by decide) dX3_partAlike_47 ?_
        refine v_goto C 5 (by decide) dX3_partAlike_50 ?_
        exact V.sub [1, 2, 3, 4, 0] rfl h
      · have h := h.1 hc
        refine v_iinc C (j := 3) [(3, .int (x3 + 1)), (0, .ref (w.2.1 193)), (1, .int a1), (2, .int a2), (4, .int x4)] rfl (x3 + 1) rfl rfl (by decide) dX3_partAlike_44 ?_
        refine v_iinc C (j := 4) [(4, .int (x4 + 1)), (3, .int (x3 + 1)), (0, .ref (w.2.1 193)), (1, .int a1), (2, .int a2)] rfl (x4 + 1) rfl rfl (by decide) dX3_partAlike_47 ?_
        refine v_goto C 5 (by decide) dX3_partAlike_50 ?_
        exact V.sub [2, 3, 4, 1, 0] rfl h
theorem mt_X3_partAlike {w : Wx} {l : Launch} (k_X9_isIn : Ct_X9_isIn w l) : Ct_X3_partAlike w l := by
  intro a1 a2 M Q h
  refine met_i (by decide +kernel) (Nat.le_of_ble_eq_true rfl) (fun G C hG Rt => ?_)
  subst hG
  exact wk_X3_partAlike C Rt k_X9_isIn a1 a2 M (h _ (fun x3 x4 M h => wk_X3_partAlike_5 C Rt k_X9_isIn a1 a2 x3 x4 M h))
theorem ct_X3_partAlike (w : Wx) (l : Launch) : Ct_X3_partAlike w l := mt_X3_partAlike (ct_X9_isIn w l)
set_option maxRecDepth 4000 in
theorem wk_X3_greatestPart {w : Wx} {G : Gx} {Q : Int32 → Mem → Prop} (C : Cx w G cX3_greatestPart RX3 2 45 4) (Rt : ∀ (pc : Nat) (lv : List (Nat × Value)) (r0 : Int32) (M0 : Mem), decode cX3_greatestPart pc = .ok (.ireturn, 1) → Q r0 M0 → V w G pc lv [.int r0] M0) (k_X9_isIn : Ct_X9_isIn w G.2.1) (k_X3_partAlike : Ct_X3_partAlike w G.2.1) (a1 : Int32) (M : Mem) (h : bd_X3_greatestPart Q (fun (x2 : Int32) (x3 : Int32) (M : Mem) => V w G 4 [(0, .ref (w.2.1 193)), (1, .int a1), (2, .int x2), (3, .int x3)] [] M) a1 M) : V w G 0 [(0, .ref (w.2.1 193)), (1, .int a1)] [] M := by
  unfold bd_X3_greatestPart at h
  refine v_kc C (0) (by decide) dX3_greatestPart_0 ?_
  refine v_istore_n C [(2, .int ((0 : Int32))), (0, .ref (w.2.1 193)), (1, .int a1)] rfl (by decide) dX3_greatestPart_1 ?_
  refine v_kc C (0) (by decide) dX3_greatestPart_2 ?_
  refine v_istore_n C [(3, .int ((0 : Int32))), (2, .int ((0 : Int32))), (0, .ref (w.2.1 193)), (1, .int a1)] rfl (by decide) dX3_greatestPart_3 ?_
  exact V.sub [2, 3, 1, 0] rfl h
set_option maxRecDepth 4000 in
theorem wk_X3_greatestPart_4 {w : Wx} {G : Gx} {Q : Int32 → Mem → Prop} (C : Cx w G cX3_greatestPart RX3 2 45 4) (Rt : ∀ (pc : Nat) (lv : List (Nat × Value)) (r0 : Int32) (M0 : Mem), decode cX3_greatestPart pc = .ok (.ireturn, 1) → Q r0 M0 → V w G pc lv [.int r0] M0) (k_X9_isIn : Ct_X9_isIn w G.2.1) (k_X3_partAlike : Ct_X3_partAlike w G.2.1) (a1 : Int32) (x2 : Int32) (x3 : Int32) (M : Mem) (h : bd_X3_greatestPart_4 Q (fun (x2 : Int32) (x3 : Int32) (M : Mem) => V w G 4 [(0, .ref (w.2.1 193)), (1, .int a1), (2, .int x2), (3, .int x3)] [] M) a1 x2 x3 M) : V w G 4 [(0, .ref (w.2.1 193)), (1, .int a1), (2, .int x2), (3, .int x3)] [] M := by
  unfold bd_X3_greatestPart_4 at h
  refine v_iload_n C 3 rfl dX3_greatestPart_4 ?_
  refine v_kb C (8) (by decide) dX3_greatestPart_5 ?_
  refine v_icmp_ge C 38 (by decide) dX3_greatestPart_7 (fun hc => ?_) (fun hc => ?_)
  · have h := h.1 hc
    refine v_iload_n C 2 rfl dX3_greatestPart_38 ?_
    exact Rt _ _ _ _ dX3_greatestPart_39 h
  · have h := h.2 hc
    refine v_aload_n C 0 rfl dX3_greatestPart_10 ?_
    refine g2_2 C kb193 kd193 fl_X3_23 dX3_greatestPart_11 ?_
    refine v_iload_n C 3 rfl dX3_greatestPart_14 ?_
    refine v_callNI C [] (k_X9_isIn (M 193 2) x3 M _ h) yX9_isIn_k mn_X3_73 rfl rfl (Nat.le_of_ble_eq_true rfl) ⟨by decide, by decide⟩ dX3_greatestPart_15 (fun r1 M1 h => ?_)
    refine v_if_eq C 32 (by decide) dX3_greatestPart_18 (fun hc => ?_) (fun hc => ?_)
    · have h := h.1 hc
      refine v_iinc C (j := 3) [(3, .int (x3 + 1)), (0, .ref (w.2.1 193)), (1, .int a1), (2, .int x2)] rfl (x3 + 1) rfl rfl (by decide) dX3_greatestPart_32 ?_
      refine v_goto C 4 (by decide) dX3_greatestPart_35 ?_
      exact V.sub [1, 2, 3, 0] rfl h
    · have h := h.2 hc
      refine v_iload_n C 2 rfl dX3_greatestPart_21 ?_
      refine v_aload_n C 0 rfl dX3_greatestPart_22 ?_
      refine v_iload_n C 3 rfl dX3_greatestPart_23 ?_
      refine v_iload_n C 1 rfl dX3_greatestPart_24 ?_
      refine v_callI C [.int x2] (k_X3_partAlike x3 a1 M1 _ h) yX3_partAlike_k ml_X3_77 (rcv2 kb193 kd193) rfl rfl (Nat.le_of_ble_eq_true rfl) ⟨by decide, by decide⟩ dX3_greatestPart_25 (fun r2 M2 h => ?_)
      refine v_mmax C ml_X3_81 ms_max m_mathi mc_max (by decide) (Nat.le_of_ble_eq_true rfl) dX3_greatestPart_28 ?_
      refine v_istore_n C [(2, .int (if x2 < r2 then r2 else x2)), (0, .ref (w.2.1 193)), (1, .int a1), (3, .int x3)] rfl (by decide) dX3_greatestPart_31 ?_
      refine v_iinc C (j := 3) [(3, .int (x3 + 1)), (2, .int (if x2 < r2 then r2 else x2)), (0, .ref (w.2.1 193)), (1, .int a1)] rfl (x3 + 1) rfl rfl (by decide) dX3_greatestPart_32 ?_
      refine v_goto C 4 (by decide) dX3_greatestPart_35 ?_
      exact V.sub [2, 3, 1, 0] rfl h
theorem mt_X3_greatestPart {w : Wx} {l : Launch} (k_X9_isIn : Ct_X9_isIn w l) (k_X3_partAlike : Ct_X3_partAlike w l) : Ct_X3_greatestPart w l := by
  intro a1 M Q h
  refine met_i (by decide +kernel) (Nat.le_of_ble_eq_true rfl) (fun G C hG Rt => ?_)
  subst hG
  exact wk_X3_greatestPart C Rt k_X9_isIn k_X3_partAlike a1 M (h _ (fun x2 x3 M h => wk_X3_greatestPart_4 C Rt k_X9_isIn k_X3_partAlike a1 x2 x3 M h))
theorem ct_X3_greatestPart (w : Wx) (l : Launch) : Ct_X3_greatestPart w l := mt_X3_greatestPart (ct_X9_isIn w l) (ct_X3_partAlike w l)
