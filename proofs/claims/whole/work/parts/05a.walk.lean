set_option maxRecDepth 4000 in
theorem wk_X8_add {w : Wx} {G : Gx} {Q : Mem → Prop} (C : Cx w G cX8_add RX8 0 0 2) (Rt : ∀ (pc : Nat) (lv : List (Nat × Value)) (M0 : Mem), decode cX8_add pc = .ok (.return_, 1) → Q M0 → V w G pc lv [] M0) (a1 : Int32) (M : Mem) (h : bd_X8_add Q a1 M) : V w G 0 [(0, .ref (w.2.1 1)), (1, .int a1)] [] M := by
  unfold bd_X8_add at h
  refine v_aload_n C 0 rfl dX8_add_0 ?_
  refine g7_1 C kb1 kd1 fl_X8_15 dX8_add_1 ?_
  refine v_ks C (240) (by decide) dX8_add_4 ?_
  refine v_icmp_ge C 30 (by decide) dX8_add_7 (fun hc => ?_) (fun hc => ?_)
  · have h := h.1 hc
    exact Rt _ _ _ dX8_add_30 h
  · have h := h.2 hc
    refine v_aload_n C 0 rfl dX8_add_10 ?_
    refine g7_0 C kb1 kd1 fl_X8_9 dX8_add_11 ?_
    refine v_aload_n C 0 rfl dX8_add_14 ?_
    refine g7_1 C kb1 kd1 fl_X8_15 dX8_add_15 ?_
    refine v_iload_n C 1 rfl dX8_add_18 ?_
    obtain ⟨s1, h⟩ := h
    refine v_iast C kb2 kd2 ln2 s1 dX8_add_19 (fun M2 e2 => ?_)
    have h := h M2 e2
    refine v_aload_n C 0 rfl dX8_add_20 ?_
    refine v_dup C rfl dX8_add_21 ?_
    refine g7_1 C kb1 kd1 fl_X8_15 dX8_add_22 ?_
    refine v_kc C (1) (by decide) dX8_add_25 ?_
    refine v_iadd C dX8_add_26 ?_
    refine p7_1 C kb1 kd1 fl_X8_15 dX8_add_27 (fun M3 e3 => ?_)
    have h := h M3 e3
    exact Rt _ _ _ dX8_add_30 h
theorem mt_X8_add {w : Wx} {l : Launch} : Ct_X8_add w l := by
  intro a1 M Q h
  refine met_v (by decide +kernel) (Nat.le_of_ble_eq_true rfl) (fun G C hG Rt => ?_)
  subst hG
  exact wk_X8_add C Rt a1 M (h)
theorem ct_X8_add (w : Wx) (l : Launch) : Ct_X8_add w l := mt_X8_add
set_option maxRecDepth 4000 in
theorem wk_X9_feed {w : Wx} {G : Gx} {Q : Int32 → Mem → Prop} (C : Cx w G cX9_feed RX9 1 21 2) (Rt : ∀ (pc : Nat) (lv : List (Nat × Value)) (r0 : Int32) (M0 : Mem), decode cX9_feed pc = .ok (.ireturn, 1) → Q r0 M0 → V w G pc lv [.int r0] M0) (k_X8_add : Ct_X8_add w G.2.1) (a1 : Int32) (M : Mem) (h : bd_X9_feed Q a1 M) : V w G 0 [(0, .ref (w.2.1 0)), (1, .int a1)] [] M := by
  unfold bd_X9_feed at h
  refine v_iload_n C 1 rfl dX9_feed_0 ?_
  refine v_if_lt C 11 (by decide) dX9_feed_1 (fun hc => ?_) (fun hc => ?_)
  · have h := h.1 hc
    refine v_ldc C kc_X9_85 dX9_feed_11 ?_
    exact Rt _ _ _ _ dX9_feed_13 h
  · have h := h.2 hc
    refine v_iload_n C 1 rfl dX9_feed_4 ?_
    refine v_ks C (255) (by decide) dX9_feed_5 ?_
    refine v_icmp_le C 14 (by decide) dX9_feed_8 (fun hc => ?_) (fun hc => ?_)
    · have h := h.1 hc
      refine v_aload_n C 0 rfl dX9_feed_14 ?_
      refine g8_0 C kb0 kd0 fl_X9_10 dX9_feed_15 ?_
      refine g7_1 C kb1 kd1 fl_X9_86 dX9_feed_18 ?_
      refine v_ks C (240) (by decide) dX9_feed_21 ?_
      refine v_icmp_lt C 30 (by decide) dX9_feed_24 (fun hc => ?_) (fun hc => ?_)
      · have h := h.1 hc
        refine v_aload_n C 0 rfl dX9_feed_30 ?_
        refine g8_0 C kb0 kd0 fl_X9_10 dX9_feed_31 ?_
        refine v_iload_n C 1 rfl dX9_feed_34 ?_
        refine v_callV C [] (k_X8_add a1 M _ h) yX8_add_k ml_X9_90 (rcv7 kb1 kd1) rfl rfl (Nat.le_of_ble_eq_true rfl) ⟨by decide, by decide⟩ dX9_feed_35 (fun M1 h => ?_)
        refine v_aload_n C 0 rfl dX9_feed_38 ?_
        refine g8_0 C kb0 kd0 fl_X9_10 dX9_feed_39 ?_
        refine g7_1 C kb1 kd1 fl_X9_86 dX9_feed_42 ?_
        exact Rt _ _ _ _ dX9_feed_45 h
      · have h := h.2 hc
        refine v_ldc C kc_X9_89 dX9_feed_27 ?_
        exact Rt _ _ _ _ dX9_feed_29 h
    · have h := h.2 hc
      refine v_ldc C kc_X9_85 dX9_feed_11 ?_
      exact Rt _ _ _ _ dX9_feed_13 h
theorem mt_X9_feed {w : Wx} {l : Launch} (k_X8_add : Ct_X8_add w l) : Ct_X9_feed w l := by
  intro a1 M Q h
  refine met_i (by decide +kernel) (Nat.le_of_ble_eq_true rfl) (fun G C hG Rt => ?_)
  subst hG
  exact wk_X9_feed C Rt k_X8_add a1 M (h)
theorem ct_X9_feed (w : Wx) (l : Launch) : Ct_X9_feed w l := mt_X9_feed (ct_X8_add w l)
set_option maxRecDepth 4000 in
theorem wk_X7_clear {w : Wx} {G : Gx} {Q : Mem → Prop} (C : Cx w G cX7_clear RX7 0 0 1) (Rt : ∀ (pc : Nat) (lv : List (Nat × Value)) (M0 : Mem), decode cX7_clear pc = .ok (.return_, 1) → Q M0 → V w G pc lv [] M0) (b : Nat) (hb : Sc b) (M : Mem) (h : bd_X7_clear Q b M) : V w G 0 [(0, .ref (w.2.1 b))] [] M := by
  unfold bd_X7_clear at h
  refine v_aload_n C 0 rfl dX7_clear_0 ?_
  refine v_kc C (0) (by decide) dX7_clear_1 ?_
  refine p6_0 C hb.l0 hb.k0 fl_X7_9 dX7_clear_2 (fun M1 e1 => ?_)
  have h := h M1 e1
  refine v_aload_n C 0 rfl dX7_clear_5 ?_
  refine v_kc C (0) (by decide) dX7_clear_6 ?_
  refine p6_1 C hb.l0 hb.k0 fl_X7_15 dX7_clear_7 (fun M2 e2 => ?_)
  have h := h M2 e2
  exact Rt _ _ _ dX7_clear_10 h
theorem mt_X7_clear {w : Wx} {l : Launch} : Ct_X7_clear w l := by
  intro b M hb Q h
  refine met_v (by decide +kernel) (Nat.le_of_ble_eq_true rfl) (fun G C hG Rt => ?_)
  subst hG
  exact wk_X7_clear C Rt b hb M (h)
theorem ct_X7_clear (w : Wx) (l : Launch) : Ct_X7_clear w l := mt_X7_clear
set_option maxRecDepth 4000 in
theorem wk_X8_at {w : Wx} {G : Gx} {Q : Int32 → Mem → Prop} (C : Cx w G cX8_at RX8 0 0 2) (Rt : ∀ (pc : Nat) (lv : List (Nat × Value)) (r0 : Int32) (M0 : Mem), decode cX8_at pc = .ok (.ireturn, 1) → Q r0 M0 → V w G pc lv [.int r0] M0) (a1 : Int32) (M : Mem) (h : bd_X8_at Q a1 M) : V w G 0 [(0, .ref (w.2.1 1)), (1, .int a1)] [] M := by
  unfold bd_X8_at at h
  refine v_iload_n C 1 rfl dX8_at_0 ?_
  refine v_if_lt C 21 (by decide) dX8_at_1 (fun hc => ?_) (fun hc => ?_)
  · have h := h.1 hc
    refine v_kc C (-1) (by decide) dX8_at_21 ?_
    exact Rt _ _ _ _ dX8_at_22 h
  · have h := h.2 hc
    refine v_iload_n C 1 rfl dX8_at_4 ?_
    refine v_aload_n C 0 rfl dX8_at_5 ?_
    refine g7_1 C kb1 kd1 fl_X8_15 dX8_at_6 ?_
    obtain ⟨ca1, cb1, h⟩ := h
    have key1 : V w G 22 [(0, .ref (w.2.1 1)), (1, .int a1)] (.int (if (M 1 1) ≤ a1 then (-1 : Int32) else M 2 a1.toNatClampNeg) :: []) M := by
      exact Rt _ _ _ _ dX8_at_22 h
    refine v_icmp_ge C 21 (by decide) dX8_at_9 (fun hc => ?_) (fun hc => ?_)
    · rw [show (if (M 1 1) ≤ a1 then (-1 : Int32) else M 2 a1.toNatClampNeg : Int32) = (-1 : Int32) from if_pos hc] at key1
      refine v_kc C (-1) (by decide) dX8_at_21 ?_
      exact key1
    · rw [show (if (M 1 1) ≤ a1 then (-1 : Int32) else M 2 a1.toNatClampNeg : Int32) = M 2 a1.toNatClampNeg from if_neg hc] at key1
      obtain ⟨q0, -⟩ := cb1 hc
      refine v_aload_n C 0 rfl dX8_at_12 ?_
      refine g7_0 C kb1 kd1 fl_X8_9 dX8_at_13 ?_
      refine v_iload_n C 1 rfl dX8_at_16 ?_
      refine v_iald C kb2 kd2 ln2 q0 dX8_at_17 ?_
      refine v_goto C 22 (by decide) dX8_at_18 ?_
      exact key1
theorem mt_X8_at {w : Wx} {l : Launch} : Ct_X8_at w l := by
  intro a1 M Q h
  refine met_i (by decide +kernel) (Nat.le_of_ble_eq_true rfl) (fun G C hG Rt => ?_)
  subst hG
  exact wk_X8_at C Rt a1 M (h)
theorem ct_X8_at (w : Wx) (l : Launch) : Ct_X8_at w l := mt_X8_at
set_option maxRecDepth 4000 in
theorem wk_X6_letter {w : Wx} {G : Gx} {Q : Int32 → Mem → Prop} (C : Cx w G cX6_letter RX6 1 21 1) (Rt : ∀ (pc : Nat) (lv : List (Nat × Value)) (r0 : Int32) (M0 : Mem), decode cX6_letter pc = .ok (.ireturn, 1) → Q r0 M0 → V w G pc lv [.int r0] M0) (k_X8_at : Ct_X8_at w G.2.1) (M : Mem) (h : bd_X6_letter Q M) : V w G 0 [(0, .ref (w.2.1 3))] [] M := by
  unfold bd_X6_letter at h
  refine v_aload_n C 0 rfl dX6_letter_0 ?_
  refine g5_5 C kb3 kd3 fl_X6_37 dX6_letter_1 ?_
  refine v_aload_n C 0 rfl dX6_letter_4 ?_
  refine g5_6 C kb3 kd3 fl_X6_31 dX6_letter_5 ?_
  refine v_callI C [] (k_X8_at (M 3 6) M _ h) yX8_at_k ml_X6_55 (rcv7 kb1 kd1) rfl rfl (Nat.le_of_ble_eq_true rfl) ⟨by decide, by decide⟩ dX6_letter_8 (fun r1 M1 h => ?_)
  exact Rt _ _ _ _ dX6_letter_11 h
theorem mt_X6_letter {w : Wx} {l : Launch} (k_X8_at : Ct_X8_at w l) : Ct_X6_letter w l := by
  intro M Q h
  refine met_i (by decide +kernel) (Nat.le_of_ble_eq_true rfl) (fun G C hG Rt => ?_)
  subst hG
  exact wk_X6_letter C Rt k_X8_at M (h)
theorem ct_X6_letter (w : Wx) (l : Launch) : Ct_X6_letter w l := mt_X6_letter (ct_X8_at w l)
set_option maxRecDepth 4000 in
theorem wk_X6_skipBlanks {w : Wx} {G : Gx} {Q : Mem → Prop} (C : Cx w G cX6_skipBlanks RX6 2 41 2) (Rt : ∀ (pc : Nat) (lv : List (Nat × Value)) (M0 : Mem), decode cX6_skipBlanks pc = .ok (.return_, 1) → Q M0 → V w G pc lv [] M0) (k_X6_letter : Ct_X6_letter w G.2.1) (M : Mem) (h : bd_X6_skipBlanks Q (fun (x1 : Int32) (M : Mem) => V w G 2 [(0, .ref (w.2.1 3)), (1, .int x1)] [] M) M) : V w G 0 [(0, .ref (w.2.1 3))] [] M := by
  unfold bd_X6_skipBlanks at h
  refine v_kc C (0) (by decide) dX6_skipBlanks_0 ?_
  refine v_istore_n C [(1, .int ((0 : Int32))), (0, .ref (w.2.1 3))] rfl (by decide) dX6_skipBlanks_1 ?_
  exact V.sub [1, 0] rfl h
set_option maxRecDepth 4000 in
theorem wk_X6_skipBlanks_2 {w : Wx} {G : Gx} {Q : Mem → Prop} (C : Cx w G cX6_skipBlanks RX6 2 41 2) (Rt : ∀ (pc : Nat) (lv : List (Nat × Value)) (M0 : Mem), decode cX6_skipBlanks pc = .ok (.return_, 1) → Q M0 → V w G pc lv [] M0) (k_X6_letter : Ct_X6_letter w G.2.1) (x1 : Int32) (M : Mem) (h : bd_X6_skipBlanks_2 Q (fun (x1 : Int32) (M : Mem) => V w G 2 [(0, .ref (w.2.1 3)), (1, .int x1)] [] M) x1 M) : V w G 2 [(0, .ref (w.2.1 3)), (1, .int x1)] [] M := by
  unfold bd_X6_skipBlanks_2 at h
  refine v_iload_n C 1 rfl dX6_skipBlanks_2 ?_
  refine v_ks C (240) (by decide) dX6_skipBlanks_3 ?_
  refine v_icmp_ge C 34 (by decide) dX6_skipBlanks_6 (fun hc => ?_) (fun hc => ?_)
  · have h := h.1 hc
    exact Rt _ _ _ dX6_skipBlanks_34 h
  · have h := h.2 hc
    refine v_aload_n C 0 rfl dX6_skipBlanks_9 ?_
    refine v_callI C [] (k_X6_letter M _ h) yX6_letter_k ml_X6_59 (rcv5 kb3 kd3) rfl rfl (Nat.le_of_ble_eq_true rfl) ⟨by decide, by decide⟩ dX6_skipBlanks_10 (fun r1 M1 h => ?_)
    refine v_kb C (32) (by decide) dX6_skipBlanks_13 ?_
    refine v_icmp_ne C 34 (by decide) dX6_skipBlanks_15 (fun hc => ?_) (fun hc => ?_)
    · have h := h.2 hc
      exact Rt _ _ _ dX6_skipBlanks_34 h
    · have h := h.1 hc
      refine v_aload_n C 0 rfl dX6_skipBlanks_18 ?_
      refine v_dup C rfl dX6_skipBlanks_19 ?_
      refine g5_6 C kb3 kd3 fl_X6_31 dX6_skipBlanks_20 ?_
      refine v_kc C (1) (by decide) dX6_skipBlanks_23 ?_
      refine v_iadd C dX6_skipBlanks_24 ?_
      refine p5_6 C kb3 kd3 fl_X6_31 dX6_skipBlanks_25 (fun M2 e2 => ?_)
      have h := h M2 e2
      refine v_iinc C (j := 1) [(1, .int (x1 + 1)), (0, .ref (w.2.1 3))] rfl (x1 + 1) rfl rfl (by decide) dX6_skipBlanks_28 ?_
      refine v_goto C 2 (by decide) dX6_skipBlanks_31 ?_
      exact V.sub [1, 0] rfl h
theorem mt_X6_skipBlanks {w : Wx} {l : Launch} (k_X6_letter : Ct_X6_letter w l) : Ct_X6_skipBlanks w l := by
  intro M Q h
  refine met_v (by decide +kernel) (Nat.le_of_ble_eq_true rfl) (fun G C hG Rt => ?_)
  subst hG
  exact wk_X6_skipBlanks C Rt k_X6_letter M (h _ (fun x1 M h => wk_X6_skipBlanks_2 C Rt k_X6_letter x1 M h))
theorem ct_X6_skipBlanks (w : Wx) (l : Launch) : Ct_X6_skipBlanks w l := mt_X6_skipBlanks (ct_X6_letter w l)
set_option maxRecDepth 4000 in
theorem wk_X6_blame {w : Wx} {G : Gx} {Q : Mem → Prop} (C : Cx w G cX6_blame RX6 0 0 3) (Rt : ∀ (pc : Nat) (lv : List (Nat × Value)) (M0 : Mem), decode cX6_blame pc = .ok (.return_, 1) → Q M0 → V w G pc lv [] M0) (a1 : Int32) (a2 : Int32) (M : Mem) (h : bd_X6_blame Q a1 a2 M) : V w G 0 [(0, .ref (w.2.1 3)), (1, .int a1), (2, .int a2)] [] M := by
  unfold bd_X6_blame at h
  refine v_aload_n C 0 rfl dX6_blame_0 ?_
  refine g5_3 C kb3 kd3 fl_X6_25 dX6_blame_1 ?_
  refine v_if_ne C 17 (by decide) dX6_blame_4 (fun hc => ?_) (fun hc => ?_)
  · have h := h.2 hc
    exact Rt _ _ _ dX6_blame_17 h
  · have h := h.1 hc
    refine v_aload_n C 0 rfl dX6_blame_7 ?_
    refine v_iload_n C 1 rfl dX6_blame_8 ?_
    refine p5_3 C kb3 kd3 fl_X6_25 dX6_blame_9 (fun M1 e1 => ?_)
    have h := h M1 e1
    refine v_aload_n C 0 rfl dX6_blame_12 ?_
    refine v_iload_n C 2 rfl dX6_blame_13 ?_
    refine p5_4 C kb3 kd3 fl_X6_28 dX6_blame_14 (fun M2 e2 => ?_)
    have h := h M2 e2
    exact Rt _ _ _ dX6_blame_17 h
theorem mt_X6_blame {w : Wx} {l : Launch} : Ct_X6_blame w l := by
  intro a1 a2 M Q h
  refine met_v (by decide +kernel) (Nat.le_of_ble_eq_true rfl) (fun G C hG Rt => ?_)
  subst hG
  exact wk_X6_blame C Rt a1 a2 M (h)
theorem ct_X6_blame (w : Wx) (l : Launch) : Ct_X6_blame w l := mt_X6_blame
set_option maxRecDepth 4000 in
theorem wk_X6_isFigure {w : Wx} {G : Gx} {Q : Int32 → Mem → Prop} (C : Cx w G cX6_isFigure RX6 2 41 2) (Rt : ∀ (pc : Nat) (lv : List (Nat × Value)) (r0 : Int32) (M0 : Mem), decode cX6_isFigure pc = .ok (.ireturn, 1) → (r0 = 0 ∨ r0 = 1) → Q r0 M0 → V w G pc lv [.int r0] M0) (k_X6_letter : Ct_X6_letter w G.2.1) (M : Mem) (h : bd_X6_isFigure Q M) : V w G 0 [(0, .ref (w.2.1 3))] [] M := by
  unfold bd_X6_isFigure at h
  refine v_aload_n C 0 rfl dX6_isFigure_0 ?_
  refine v_callI C [] (k_X6_letter M _ h) yX6_letter_k ml_X6_59 (rcv5 kb3 kd3) rfl rfl (Nat.le_of_ble_eq_true rfl) ⟨by decide, by decide⟩ dX6_isFigure_1 (fun r1 M1 h => ?_)
  refine v_istore_n C [(1, .int r1), (0, .ref (w.2.1 3))] rfl (by decide) dX6_isFigure_4 ?_
  refine v_iload_n C 0 rfl dX6_isFigure_5 ?_
  refine v_kb C (48) (by decide) dX6_isFigure_6 ?_
  refine v_icmp_lt C 21 (by decide) dX6_isFigure_8 (fun hc => ?_) (fun hc => ?_)
  · have h := h.1 hc
    refine v_kc C (0) (by decide) dX6_isFigure_21 ?_
    exact Rt _ _ _ _ dX6_isFigure_22 (by decide) h
  · have h := h.2 hc
    refine v_iload_n C 0 rfl dX6_isFigure_11 ?_
    refine v_kb C (57) (by decide) dX6_isFigure_12 ?_
    have key2 : V w G 22 [(1, .int r1), (0, .ref (w.2.1 3))] (.int (if ((57 : Int32)) < r1 then (0 : Int32) else (1 : Int32)) :: []) M1 := by
      exact Rt _ _ _ _ dX6_isFigure_22 h.1 h.2
    refine v_icmp_gt C 21 (by decide) dX6_isFigure_14 (fun hc => ?_) (fun hc => ?_)
    · rw [show (if ((57 : Int32)) < r1 then (0 : Int32) else (1 : Int32) : Int32) = (0 : Int32) from if_pos hc] at key2
      refine v_kc C (0) (by decide) dX6_isFigure_21 ?_
      exact key2
    · rw [show (if ((57 : Int32)) < r1 then (0 : Int32) else (1 : Int32) : Int32) = (1 : Int32) from if_neg hc] at key2
      refine v_kc C (1) (by decide) dX6_isFigure_17 ?_
      refine v_goto C 22 (by decide) dX6_isFigure_18 ?_
      exact key2
theorem mt_X6_isFigure {w : Wx} {l : Launch} (k_X6_letter : Ct_X6_letter w l) : Ct_X6_isFigure w l := by
  intro M Q h
  refine met_z (by decide +kernel) (Nat.le_of_ble_eq_true rfl) (fun G C hG Rt => ?_)
  subst hG
  exact wk_X6_isFigure C Rt k_X6_letter M (h)
theorem ct_X6_isFigure (w : Wx) (l : Launch) : Ct_X6_isFigure w l := mt_X6_isFigure (ct_X6_letter w l)
set_option maxRecDepth 4000 in
theorem wk_X6_readNumber {w : Wx} {G : Gx} {Q : Int32 → Mem → Prop} (C : Cx w G cX6_readNumber RX6 3 62 5) (Rt : ∀ (pc : Nat) (lv : List (Nat × Value)) (r0 : Int32) (M0 : Mem), decode cX6_readNumber pc = .ok (.ireturn, 1) → Q r0 M0 → V w G pc lv [.int r0] M0) (k_X6_skipBlanks : Ct_X6_skipBlanks w G.2.1) (k_X6_isFigure : Ct_X6_isFigure w G.2.1) (k_X6_blame : Ct_X6_blame w G.2.1) (k_X6_letter : Ct_X6_letter w G.2.1) (a1 : Int32) (a2 : Int32) (M : Mem) (h : bd_X6_readNumber Q (fun (x3 : Int32) (x4 : Int32) (M : Mem) => V w G 44 [(0, .ref (w.2.1 3)), (1, .int a1), (2, .int a2), (3, .int x3), (4, .int x4)] [] M) a1 a2 M) : V w G 0 [(0, .ref (w.2.1 3)), (1, .int a1), (2, .int a2)] [] M := by
  unfold bd_X6_readNumber at h
  refine v_aload_n C 0 rfl dX6_readNumber_0 ?_
  refine g5_3 C kb3 kd3 fl_X6_25 dX6_readNumber_1 ?_
  refine v_if_eq C 9 (by decide) dX6_readNumber_4 (fun hc => ?_) (fun hc => ?_)
  · have h := h.1 hc
    refine v_aload_n C 0 rfl dX6_readNumber_9 ?_
    refine v_callV C [] (k_X6_skipBlanks M _ h) yX6_skipBlanks_k ml_X6_44 (rcv5 kb3 kd3) rfl rfl (Nat.le_of_ble_eq_true rfl) ⟨by decide, by decide⟩ dX6_readNumber_10 (fun M1 h => ?_)
    refine v_aload_n C 0 rfl dX6_readNumber_13 ?_
    refine v_callI C [] (k_X6_isFigure M1 _ h) yX6_isFigure_k ml_X6_104 (rcv5 kb3 kd3) rfl rfl (Nat.le_of_ble_eq_true rfl) ⟨by decide, by decide⟩ dX6_readNumber_14 (fun r2 M2 h => ?_)
    refine v_if_ne C 31 (by decide) dX6_readNumber_17 (fun hc => ?_) (fun hc => ?_)
    · have h := h.2 hc
      refine v_aload_n C 0 rfl dX6_readNumber_31 ?_
      refine v_aload_n C 0 rfl dX6_readNumber_32 ?_
      refine g5_6 C kb3 kd3 fl_X6_31 dX6_readNumber_33 ?_
      refine p5_7 C kb3 kd3 fl_X6_34 dX6_readNumber_36 (fun M3 e3 => ?_)
      have h := h M3 e3
      refine v_kc C (0) (by decide) dX6_readNumber_39 ?_
      refine v_istore_n C [(3, .int ((0 : Int32))), (0, .ref (w.2.1 3)), (1, .int a1), (2, .int a2)] rfl (by decide) dX6_readNumber_40 ?_
      refine v_kc C (0) (by decide) dX6_readNumber_41 ?_
      refine v_istore C [(4, .int ((0 : Int32))), (3, .int ((0 : Int32))), (0, .ref (w.2.1 3)), (1, .int a1), (2, .int a2)] rfl (by decide) dX6_readNumber_42 ?_
      exact V.sub [2, 3, 4, 1, 0] rfl h
    · have h := h.1 hc
      refine v_aload_n C 0 rfl dX6_readNumber_20 ?_
      refine v_kc C (1) (by decide) dX6_readNumber_21 ?_
      refine v_aload_n C 0 rfl dX6_readNumber_22 ?_
      refine g5_6 C kb3 kd3 fl_X6_31 dX6_readNumber_23 ?_
      refine v_callV C [] (k_X6_blame ((1 : Int32)) (M2 3 6) M2 _ h) yX6_blame_k ml_X6_63 (rcv5 kb3 kd3) rfl rfl (Nat.le_of_ble_eq_true rfl) ⟨by decide, by decide⟩ dX6_readNumber_26 (fun M4 h => ?_)
      refine v_kc C (-1) (by decide) dX6_readNumber_29 ?_
      exact Rt _ _ _ _ dX6_readNumber_30 h
  · have h := h.2 hc
    refine v_kc C (-1) (by decide) dX6_readNumber_7 ?_
    exact Rt _ _ _ _ dX6_readNumber_8 h
set_option maxRecDepth 4000 in
theorem wk_X6_readNumber_44 {w : Wx} {G : Gx} {Q : Int32 → Mem → Prop} (C : Cx w G cX6_readNumber RX6 3 62 5) (Rt : ∀ (pc : Nat) (lv : List (Nat × Value)) (r0 : Int32) (M0 : Mem), decode cX6_readNumber pc = .ok (.ireturn, 1) → Q r0 M0 → V w G pc lv [.int r0] M0) (k_X6_skipBlanks : Ct_X6_skipBlanks w G.2.1) (k_X6_isFigure : Ct_X6_isFigure w G.2.1) (k_X6_blame : Ct_X6_blame w G.2.1) (k_X6_letter : Ct_X6_letter w G.2.1) (a1 : Int32) (a2 : Int32) (x3 : Int32) (x4 : Int32) (M : Mem) (h : bd_X6_readNumber_44 Q (fun (x3 : Int32) (x4 : Int32) (M : Mem) => V w G 44 [(0, .ref (w.2.1 3)), (1, .int a1), (2, .int a2), (3, .int x3), (4, .int x4)] [] M) a1 a2 x3 x4 M) : V w G 44 [(0, .ref (w.2.1 3)), (1, .int a1), (2, .int a2), (3, .int x3), (4, .int x4)] [] M := by
  unfold bd_X6_readNumber_44 at h
  refine v_iload C 4 rfl dX6_readNumber_44 ?_
  refine v_ks C (240) (by decide) dX6_readNumber_46 ?_
  refine v_icmp_ge C 93 (by decide) dX6_readNumber_49 (fun hc => ?_) (fun hc => ?_)
  · have h := h.1 hc
    refine v_aload_n C 0 rfl dX6_readNumber_93 ?_
    refine g5_6 C kb3 kd3 fl_X6_31 dX6_readNumber_94 ?_
    refine v_aload_n C 0 rfl dX6_readNumber_97 ?_
    refine g5_7 C kb3 kd3 fl_X6_34 dX6_readNumber_98 ?_
    refine v_isub C dX6_readNumber_101 ?_
    refine v_kb C (6) (by decide) dX6_readNumber_102 ?_
    refine v_icmp_gt C 117 (by decide) dX6_readNumber_104 (fun hc => ?_) (fun hc => ?_)
    · have h := h.1 hc
      refine v_aload_n C 0 rfl dX6_readNumber_117 ?_
      refine v_kc C (2) (by decide) dX6_readNumber_118 ?_
      refine v_aload_n C 0 rfl dX6_readNumber_119 ?_
      refine g5_7 C kb3 kd3 fl_X6_34 dX6_readNumber_120 ?_
      refine v_callV C [] (k_X6_blame ((2 : Int32)) (M 3 7) M _ h) yX6_blame_k ml_X6_63 (rcv5 kb3 kd3) rfl rfl (Nat.le_of_ble_eq_true rfl) ⟨by decide, by decide⟩ dX6_readNumber_123 (fun M1 h => ?_)
      refine v_kc C (-1) (by decide) dX6_readNumber_126 ?_
      exact Rt _ _ _ _ dX6_readNumber_127 h
    · have h := h.2 hc
      refine v_iload_n C 3 rfl dX6_readNumber_107 ?_
      refine v_iload_n C 1 rfl dX6_readNumber_108 ?_
      refine v_icmp_lt C 117 (by decide) dX6_readNumber_109 (fun hc => ?_) (fun hc => ?_)
      · have h := h.1 hc
        refine v_aload_n C 0 rfl dX6_readNumber_117 ?_
        refine v_kc C (2) (by decide) dX6_readNumber_118 ?_
        refine v_aload_n C 0 rfl dX6_readNumber_119 ?_
        refine g5_7 C kb3 kd3 fl_X6_34 dX6_readNumber_120 ?_
        refine v_callV C [] (k_X6_blame ((2 : Int32)) (M 3 7) M _ h) yX6_blame_k ml_X6_63 (rcv5 kb3 kd3) rfl rfl (Nat.le_of_ble_eq_true rfl) ⟨by decide, by decide⟩ dX6_readNumber_123 (fun M2 h => ?_)
        refine v_kc C (-1) (by decide) dX6_readNumber_126 ?_
        exact Rt _ _ _ _ dX6_readNumber_127 h
      · have h := h.2 hc
        refine v_iload_n C 3 rfl dX6_readNumber_112 ?_
        refine v_iload_n C 2 rfl dX6_readNumber_113 ?_
        refine v_icmp_le C 128 (by decide) dX6_readNumber_114 (fun hc => ?_) (fun hc => ?_)
        · have h := h.1 hc
          refine v_iload_n C 3 rfl dX6_readNumber_128 ?_
          exact Rt _ _ _ _ dX6_readNumber_129 h
        · have h := h.2 hc
          refine v_aload_n C 0 rfl dX6_readNumber_117 ?_
          refine v_kc C (2) (by decide) dX6_readNumber_118 ?_
          refine v_aload_n C 0 rfl dX6_readNumber_119 ?_
          refine g5_7 C kb3 kd3 fl_X6_34 dX6_readNumber_120 ?_
          refine v_callV C [] (k_X6_blame ((2 : Int32)) (M 3 7) M _ h) yX6_blame_k ml_X6_63 (rcv5 kb3 kd3) rfl rfl (Nat.le_of_ble_eq_true rfl) ⟨by decide, by decide⟩ dX6_readNumber_123 (fun M3 h => ?_)
          refine v_kc C (-1) (by decide) dX6_readNumber_126 ?_
          exact Rt _ _ _ _ dX6_readNumber_127 h
  · have h := h.2 hc
    refine v_aload_n C 0 rfl dX6_readNumber_52 ?_
    refine v_callI C [] (k_X6_isFigure M _ h) yX6_isFigure_k ml_X6_104 (rcv5 kb3 kd3) rfl rfl (Nat.le_of_ble_eq_true rfl) ⟨by decide, by decide⟩ dX6_readNumber_53 (fun r4 M4 h => ?_)
    refine v_if_eq C 93 (by decide) dX6_readNumber_56 (fun hc => ?_) (fun hc => ?_)
    · have h := h.1 hc
      refine v_aload_n C 0 rfl dX6_readNumber_93 ?_
      refine g5_6 C kb3 kd3 fl_X6_31 dX6_readNumber_94 ?_
      refine v_aload_n C 0 rfl dX6_readNumber_97 ?_
      refine g5_7 C kb3 kd3 fl_X6_34 dX6_readNumber_98 ?_
      refine v_isub C dX6_readNumber_101 ?_
      refine v_kb C (6) (by decide) dX6_readNumber_102 ?_
      refine v_icmp_gt C 117 (by decide) dX6_readNumber_104 (fun hc => ?_) (fun hc => ?_)
      · have h := h.1 hc
        refine v_aload_n C 0 rfl dX6_readNumber_117 ?_
        refine v_kc C (2) (by decide) dX6_readNumber_118 ?_
        refine v_aload_n C 0 rfl dX6_readNumber_119 ?_
        refine g5_7 C kb3 kd3 fl_X6_34 dX6_readNumber_120 ?_
        refine v_callV C [] (k_X6_blame ((2 : Int32)) (M4 3 7) M4 _ h) yX6_blame_k ml_X6_63 (rcv5 kb3 kd3) rfl rfl (Nat.le_of_ble_eq_true rfl) ⟨by decide, by decide⟩ dX6_readNumber_123 (fun M5 h => ?_)
        refine v_kc C (-1) (by decide) dX6_readNumber_126 ?_
        exact Rt _ _ _ _ dX6_readNumber_127 h
      · have h := h.2 hc
        refine v_iload_n C 3 rfl dX6_readNumber_107 ?_
        refine v_iload_n C 1 rfl dX6_readNumber_108 ?_
        refine v_icmp_lt C 117 (by decide) dX6_readNumber_109 (fun hc => ?_) (fun hc => ?_)
        · have h := h.1 hc
          refine v_aload_n C 0 rfl dX6_readNumber_117 ?_
          refine v_kc C (2) (by decide) dX6_readNumber_118 ?_
          refine v_aload_n C 0 rfl dX6_readNumber_119 ?_
          refine g5_7 C kb3 kd3 fl_X6_34 dX6_readNumber_120 ?_
          refine v_callV C [] (k_X6_blame ((2 : Int32)) (M4 3 7) M4 _ h) yX6_blame_k ml_X6_63 (rcv5 kb3 kd3) rfl rfl (Nat.le_of_ble_eq_true rfl) ⟨by decide, by decide⟩ dX6_readNumber_123 (fun M6 h => ?_)
          refine v_kc C (-1) (by decide) dX6_readNumber_126 ?_
          exact Rt _ _ _ _ dX6_readNumber_127 h
        · have h := h.2 hc
          refine v_iload_n C 3 rfl dX6_readNumber_112 ?_
          refine v_iload_n C 2 rfl dX6_readNumber_113 ?_
          refine v_icmp_le C 128 (by decide) dX6_readNumber_114 (fun hc => ?_) (fun hc => ?_)
          · have h := h.1 hc
            refine v_iload_n C 3 rfl dX6_readNumber_128 ?_
            exact Rt _ _ _ _ dX6_readNumber_129 h
          · have h := h.2 hc
            refine v_aload_n C 0 rfl dX6_readNumber_117 ?_
            refine v_kc C (2) (by decide) dX6_readNumber_118 ?_
            refine v_aload_n C 0 rfl dX6_readNumber_119 ?_
            refine g5_7 C kb3 kd3 fl_X6_34 dX6_readNumber_120 ?_
            refine v_callV C [] (k_X6_blame ((2 : Int32)) (M4 3 7) M4 _ h) yX6_blame_k ml_X6_63 (rcv5 kb3 kd3) rfl rfl (Nat.le_of_ble_eq_true rfl) ⟨by decide, by decide⟩ dX6_readNumber_123 (fun M7 h => ?_)
            refine v_kc C (-1) (by decide) dX6_readNumber_126 ?_
            exact Rt _ _ _ _ dX6_readNumber_127 h
    · have h := h.2 hc
      refine v_iload_n C 3 rfl dX6_readNumber_59 ?_
      refine v_kb C (10) (by decide) dX6_readNumber_60 ?_
      refine v_imul C dX6_readNumber_62 ?_
      refine v_aload_n C 0 rfl dX6_readNumber_63 ?_
      refine v_callI C [.int (x3 * ((10 : Int32)))] (k_X6_letter M4 _ h) yX6_letter_k ml_X6_59 (rcv5 kb3 kd3) rfl rfl (Nat.le_of_ble_eq_true rfl) ⟨by decide, by decide⟩ dX6_readNumber_64 (fun r8 M8 h => ?_)
      refine v_iadd C dX6_readNumber_67 ?_
      refine v_kb C (48) (by decide) dX6_readNumber_68 ?_
      refine v_isub C dX6_readNumber_70 ?_
      refine v_ldc C kc_X6_108 dX6_readNumber_71 ?_
      refine v_mmin C ml_X6_109 ms_min m_mathi mc_min (by decide) (Nat.le_of_ble_eq_true rfl) dX6_readNumber_73 ?_
      refine v_istore_n C [(3, .int (if ((1000000 : Int32)) < (((x3 * ((10 : Int32))) + r8) - ((48 : Int32))) then ((1000000 : Int32)) else (((x3 * ((10 : Int32))) + r8) - ((48 : Int32))))), (0, .ref (w.2.1 3)), (1, .int a1), (2, .int a2), (4, .int x4)] rfl (by decide) dX6_readNumber_76 ?_
      refine v_aload_n C 1 rfl dX6_readNumber_77 ?_
      refine v_dup C rfl dX6_readNumber_78 ?_
      refine g5_6 C kb3 kd3 fl_X6_31 dX6_readNumber_79 ?_
      refine v_kc C (1) (by decide) dX6_readNumber_82 ?_
      refine v_iadd C dX6_readNumber_83 ?_
      refine p5_6 C kb3 kd3 fl_X6_31 dX6_readNumber_84 (fun M9 e9 => ?_)
      have h := h M9 e9
      refine v_iinc C (j := 4) [(4, .int (x4 + 1)), (3, .int (if ((1000000 : Int32)) < (((x3 * ((10 : Int32))) + r8) - ((48 : Int32))) then ((1000000 : Int32)) else (((x3 * ((10 : Int32))) + r8) - ((48 : Int32))))), (0, .ref (w.2.1 3)), (1, .int a1), (2, .int a2)] rfl (x4 + 1) rfl rfl (by decide) dX6_readNumber_87 ?_
      refine v_goto C 44 (by decide) dX6_readNumber_90 ?_
      exact V.sub [2, 3, 4, 1, 0] rfl h
theorem mt_X6_readNumber {w : Wx} {l : Launch} (k_X6_skipBlanks : Ct_X6_skipBlanks w l) (k_X6_isFigure : Ct_X6_isFigure w l) (k_X6_blame : Ct_X6_blame w l) (k_X6_letter : Ct_X6_letter w l) : Ct_X6_readNumber w l := by
  intro a1 a2 M Q h
  refine met_i (by decide +kernel) (Nat.le_of_ble_eq_true rfl) (fun G C hG Rt => ?_)
  subst hG
  exact wk_X6_readNumber C Rt k_X6_skipBlanks k_X6_isFigure k_X6_blame k_X6_letter a1 a2 M (h _ (fun x3 x4 M h => wk_X6_readNumber_44 C Rt k_X6_skipBlanks k_X6_isFigure k_X6_blame k_X6_letter a1 a2 x3 x4 M h))
theorem ct_X6_readNumber (w : Wx) (l : Launch) : Ct_X6_readNumber w l := mt_X6_readNumber (ct_X6_skipBlanks w l) (ct_X6_isFigure w l) (ct_X6_blame w l) (ct_X6_letter w l)
set_option maxRecDepth 4000 in
theorem wk_X6_readFollowing {w : Wx} {G : Gx} {Q : Mem → Prop} (C : Cx w G cX6_readFollowing RX6 4 86 3) (Rt : ∀ (pc : Nat) (lv : List (Nat × Value)) (M0 : Mem), decode cX6_readFollowing pc = .ok (.return_, 1) → Q M0 → V w G pc lv [] M0) (k_X6_readNumber : Ct_X6_readNumber w G.2.1) (k_X6_blame : Ct_X6_blame w G.2.1) (M : Mem) (h : bd_X6_readFollowing Q (fun (x1 : Int32) (M : Mem) => V w G 44 [(0, .ref (w.2.1 3)), (1, .int x1)] [] M) (fun (x1 : Int32) (x2 : Int32) (M : Mem) => V w G 80 [(0, .ref (w.2.1 3)), (1, .int x1), (2, .int x2)] [] M) M) : V w G 0 [(0, .ref (w.2.1 3))] [] M := by
  unfold bd_X6_readFollowing at h
  refine v_aload_n C 0 rfl dX6_readFollowing_0 ?_
  refine v_kc C (0) (by decide) dX6_readFollowing_1 ?_
  refine v_aload_n C 0 rfl dX6_readFollowing_2 ?_
  refine g5_0 C kb3 kd3 fl_X6_12 dX6_readFollowing_3 ?_
  refine g6_0 C sc4.l0 sc4.k0 fl_X6_67 dX6_readFollowing_6 ?_
  refine v_kc C (1) (by decide) dX6_readFollowing_9 ?_
  refine v_isub C dX6_readFollowing_10 ?_
  refine v_callI C [] (k_X6_readNumber ((0 : Int32)) ((M 4 0) - ((1 : Int32))) M _ h) yX6_readNumber_k ml_X6_82 (rcv5 kb3 kd3) rfl rfl (Nat.le_of_ble_eq_true rfl) ⟨by decide, by decide⟩ dX6_readFollowing_11 (fun r1 M1 h => ?_)
  refine v_istore_n C [(1, .int r1), (0, .ref (w.2.1 3))] rfl (by decide) dX6_readFollowing_14 ?_
  refine v_aload_n C 1 rfl dX6_readFollowing_15 ?_
  refine g5_3 C kb3 kd3 fl_X6_25 dX6_readFollowing_16 ?_
  refine v_if_ne C 44 (by decide) dX6_readFollowing_19 (fun hc => ?_) (fun hc => ?_)
  · have h := h.2 hc
    exact V.sub [1, 0] rfl h
  · have h := h.1 hc
    refine v_aload_n C 1 rfl dX6_readFollowing_22 ?_
    refine g5_0 C kb3 kd3 fl_X6_12 dX6_readFollowing_23 ?_
    refine g6_3 C sc4.l0 sc4.k0 fl_X6_100 dX6_readFollowing_26 ?_
    refine v_iload_n C 0 rfl dX6_readFollowing_29 ?_
    obtain ⟨s2, h⟩ := h
    refine v_iald C sc4.l2 sc4.k2 sc4.n2 s2 dX6_readFollowing_30 ?_
    refine v_kc C (-1) (by decide) dX6_readFollowing_31 ?_
    refine v_icmp_eq C 44 (by decide) dX6_readFollowing_32 (fun hc => ?_) (fun hc => ?_)
    · have h := h.1 hc
      exact V.sub [1, 0] rfl h
    · have h := h.2 hc
      refine v_aload_n C 1 rfl dX6_readFollowing_35 ?_
      refine v_kc C (4) (by decide) dX6_readFollowing_36 ?_
      refine v_aload_n C 1 rfl dX6_readFollowing_37 ?_
      refine g5_7 C kb3 kd3 fl_X6_34 dX6_readFollowing_38 ?_
      refine v_callV C [] (k_X6_blame ((4 : Int32)) (M1 3 7) M1 _ h) yX6_blame_k ml_X6_63 (rcv5 kb3 kd3) rfl rfl (Nat.le_of_ble_eq_true rfl) ⟨by decide, by decide⟩ dX6_readFollowing_41 (fun M3 h => ?_)
      exact V.sub [1, 0] rfl h
set_option maxRecDepth 4000 in
theorem wk_X6_readFollowing_44 {w : Wx} {G : Gx} {Q : Mem → Prop} (C : Cx w G cX6_readFollowing RX6 4 86 3) (Rt : ∀ (pc : Nat) (lv : List (Nat × Value)) (M0 : Mem), decode cX6_readFollowing pc = .ok (.return_, 1) → Q M0 → V w G pc lv [] M0) (k_X6_readNumber : Ct_X6_readNumber w G.2.1) (k_X6_blame : Ct_X6_blame w G.2.1) (x1 : Int32) (M : Mem) (h : bd_X6_readFollowing_44 Q (fun (x1 : Int32) (M : Mem) => V w G 44 [(0, .ref (w.2.1 3)), (1, .int x1)] [] M) (fun (x1 : Int32) (x2 : Int32) (M : Mem) => V w G 80 [(0, .ref (w.2.1 3)), (1, .int x1), (2, .int x2)] [] M) x1 M) : V w G 44 [(0, .ref (w.2.1 3)), (1, .int x1)] [] M := by
  unfold bd_X6_readFollowing_44 at h
  refine v_aload_n C 0 rfl dX6_readFollowing_44 ?_
  refine v_kc C (0) (by decide) dX6_readFollowing_45 ?_
  refine v_aload_n C 0 rfl dX6_readFollowing_46 ?_
  refine g5_0 C kb3 kd3 fl_X6_12 dX6_readFollowing_47 ?_
  refine g6_0 C sc4.l0 sc4.k0 fl_X6_67 dX6_readFollowing_50 ?_
  refine v_kc C (1) (by decide) dX6_readFollowing_53 ?_
  refine v_isub C dX6_readFollowing_54 ?_
  refine v_callI C [] (k_X6_readNumber ((0 : Int32)) ((M 4 0) - ((1 : Int32))) M _ h) yX6_readNumber_k ml_X6_82 (rcv5 kb3 kd3) rfl rfl (Nat.le_of_ble_eq_true rfl) ⟨by decide, by decide⟩ dX6_readFollowing_55 (fun r1 M1 h => ?_)
  refine v_istore_n C [(2, .int r1), (0, .ref (w.2.1 3)), (1, .int x1)] rfl (by decide) dX6_readFollowing_58 ?_
  refine v_aload_n C 1 rfl dX6_readFollowing_59 ?_
  refine g5_3 C kb3 kd3 fl_X6_25 dX6_readFollowing_60 ?_
  refine v_if_ne C 80 (by decide) dX6_readFollowing_63 (fun hc => ?_) (fun hc => ?_)
  · have h := h.2 hc
    exact V.sub [1, 2, 0] rfl h
  · have h := h.1 hc
    refine v_iload_n C 2 rfl dX6_readFollowing_66 ?_
    refine v_iload_n C 0 rfl dX6_readFollowing_67 ?_
    refine v_icmp_ne C 80 (by decide) dX6_readFollowing_68 (fun hc => ?_) (fun hc => ?_)
    · have h := h.2 hc
      exact V.sub [1, 2, 0] rfl h
    · have h := h.1 hc
      refine v_aload_n C 1 rfl dX6_readFollowing_71 ?_
      refine v_kc C (4) (by decide) dX6_readFollowing_72 ?_
      refine v_aload_n C 1 rfl dX6_readFollowing_73 ?_
      refine g5_7 C kb3 kd3 fl_X6_34 dX6_readFollowing_74 ?_
      refine v_callV C [] (k_X6_blame ((4 : Int32)) (M1 3 7) M1 _ h) yX6_blame_k ml_X6_63 (rcv5 kb3 kd3) rfl rfl (Nat.le_of_ble_eq_true rfl) ⟨by decide, by decide⟩ dX6_readFollowing_77 (fun M2 h => ?_)
      exact V.sub [1, 2, 0] rfl h
set_option maxRecDepth 4000 in
theorem wk_X6_readFollowing_80 {w : Wx} {G : Gx} {Q : Mem → Prop} (C : Cx w G cX6_readFollowing RX6 4 86 3) (Rt : ∀ (pc : Nat) (lv : List (Nat × Value)) (M0 : Mem), decode cX6_readFollowing pc = .ok (.return_, 1) → Q M0 → V w G pc lv [] M0) (k_X6_readNumber : Ct_X6_readNumber w G.2.1) (k_X6_blame : Ct_X6_blame w G.2.1) (x1 : Int32) (x2 : Int32) (M : Mem) (h : bd_X6_readFollowing_80 Q (fun (x1 : Int32) (M : Mem) => V w G 44 [(0, .ref (w.2.1 3)), (1, .int x1)] [] M) (fun (x1 : Int32) (x2 : Int32) (M : Mem) => V w G 80 [(0, .ref (w.2.1 3)), (1, .int x1), (2, .int x2)] [] M) x1 x2 M) : V w G 80 [(0, .ref (w.2.1 3)), (1, .int x1), (2, .int x2)] [] M := by
  unfold bd_X6_readFollowing_80 at h
  refine v_aload_n C 0 rfl dX6_readFollowing_80 ?_
  refine g5_3 C kb3 kd3 fl_X6_25 dX6_readFollowing_81 ?_
  refine v_if_ne C 97 (by decide) dX6_readFollowing_84 (fun hc => ?_) (fun hc => ?_)
  · have h := h.2 hc
    exact Rt _ _ _ dX6_readFollowing_97 h
  · have h := h.1 hc
    refine v_aload_n C 0 rfl dX6_readFollowing_87 ?_
    refine g5_0 C kb3 kd3 fl_X6_12 dX6_readFollowing_88 ?_
    refine g6_3 C sc4.l0 sc4.k0 fl_X6_100 dX6_readFollowing_91 ?_
    refine v_iload_n C 1 rfl dX6_readFollowing_94 ?_
    refine v_iload_n C 2 rfl dX6_readFollowing_95 ?_
    obtain ⟨s1, h⟩ := h
    refine v_iast C sc4.l2 sc4.k2 sc4.n2 s1 dX6_readFollowing_96 (fun M2 e2 => ?_)
    have h := h M2 e2
    exact Rt _ _ _ dX6_readFollowing_97 h
theorem mt_X6_readFollowing {w : Wx} {l : Launch} (k_X6_readNumber : Ct_X6_readNumber w l) (k_X6_blame : Ct_X6_blame w l) : Ct_X6_readFollowing w l := by
  intro M Q h
  refine met_v (by decide +kernel) (Nat.le_of_ble_eq_true rfl) (fun G C hG Rt => ?_)
  subst hG
  exact wk_X6_readFollowing C Rt k_X6_readNumber k_X6_blame M (h _ _ (fun x1 M h => wk_X6_readFollowing_44 C Rt k_X6_readNumber k_X6_blame x1 M h) (fun x1 x2 M h => wk_X6_readFollowing_80 C Rt k_X6_readNumber k_X6_blame x1 x2 M h))
theorem ct_X6_readFollowing (w : Wx) (l : Launch) : Ct_X6_readFollowing w l := mt_X6_readFollowing (ct_X6_readNumber w l) (ct_X6_blame w l)
set_option maxRecDepth 4000 in
theorem wk_X7_addCar {w : Wx} {G : Gx} {Q : Mem → Prop} (C : Cx w G cX7_addCar RX7 0 0 3) (Rt : ∀ (pc : Nat) (lv : List (Nat × Value)) (M0 : Mem), decode cX7_addCar pc = .ok (.return_, 1) → Q M0 → V w G pc lv [] M0) (b : Nat) (a1 : Int32) (a2 : Int32) (hb : Sc b) (M : Mem) (h : bd_X7_addCar Q b a1 a2 M) : V w G 0 [(0, .ref (w.2.1 b)), (1, .int a1), (2, .int a2)] [] M := by
  unfold bd_X7_addCar at h
  refine v_aload_n C 0 rfl dX7_addCar_0 ?_
  refine g6_0 C hb.l0 hb.k0 fl_X7_9 dX7_addCar_1 ?_
  refine v_kb C (8) (by decide) dX7_addCar_4 ?_
  refine v_icmp_ge C 69 (by decide) dX7_addCar_6 (fun hc => ?_) (fun hc => ?_)
  · have h := h.1 hc
    exact Rt _ _ _ dX7_addCar_69 h
  · have h := h.2 hc
    refine v_aload_n C 0 rfl dX7_addCar_9 ?_
    refine g6_2 C hb.l0 hb.k0 fl_X7_18 dX7_addCar_10 ?_
    refine v_aload_n C 0 rfl dX7_addCar_13 ?_
    refine g6_0 C hb.l0 hb.k0 fl_X7_9 dX7_addCar_14 ?_
    refine v_iload_n C 1 rfl dX7_addCar_17 ?_
    obtain ⟨s1, h⟩ := h
    refine v_iast C hb.l1 hb.k1 hb.n1 s1 dX7_addCar_18 (fun M2 e2 => ?_)
    have h := h M2 e2
    refine v_aload_n C 0 rfl dX7_addCar_19 ?_
    refine g6_3 C hb.l0 hb.k0 fl_X7_22 dX7_addCar_20 ?_
    refine v_aload_n C 0 rfl dX7_addCar_23 ?_
    refine g6_0 C hb.l0 hb.k0 fl_X7_9 dX7_addCar_24 ?_
    refine v_kc C (-1) (by decide) dX7_addCar_27 ?_
    obtain ⟨s3, h⟩ := h
    refine v_iast C hb.l2 hb.k2 hb.n2 s3 dX7_addCar_28 (fun M4 e4 => ?_)
    have h := h M4 e4
    refine v_aload_n C 0 rfl dX7_addCar_29 ?_
    refine g6_4 C hb.l0 hb.k0 fl_X7_25 dX7_addCar_30 ?_
    refine v_aload_n C 0 rfl dX7_addCar_33 ?_
    refine g6_0 C hb.l0 hb.k0 fl_X7_9 dX7_addCar_34 ?_
    refine v_iload_n C 2 rfl dX7_addCar_37 ?_
    obtain ⟨s5, h⟩ := h
    refine v_iast C hb.l3 hb.k3 hb.n3 s5 dX7_addCar_38 (fun M6 e6 => ?_)
    have h := h M6 e6
    refine v_aload_n C 0 rfl dX7_addCar_39 ?_
    refine g6_5 C hb.l0 hb.k0 fl_X7_28 dX7_addCar_40 ?_
    refine v_aload_n C 0 rfl dX7_addCar_43 ?_
    refine g6_0 C hb.l0 hb.k0 fl_X7_9 dX7_addCar_44 ?_
    refine v_kc C (0) (by decide) dX7_addCar_47 ?_
    obtain ⟨s7, h⟩ := h
    refine v_iast C hb.l4 hb.k4 hb.n4 s7 dX7_addCar_48 (fun M8 e8 => ?_)
    have h := h M8 e8
    refine v_aload_n C 0 rfl dX7_addCar_49 ?_
    refine g6_6 C hb.l0 hb.k0 fl_X7_31 dX7_addCar_50 ?_
    refine v_aload_n C 0 rfl dX7_addCar_53 ?_
    refine g6_0 C hb.l0 hb.k0 fl_X7_9 dX7_addCar_54 ?_
    refine v_kc C (0) (by decide) dX7_addCar_57 ?_
    obtain ⟨s9, h⟩ := h
    refine v_iast C hb.l5 hb.k5 hb.n5 s9 dX7_addCar_58 (fun M10 e10 => ?_)
    have h := h M10 e10
    refine v_aload_n C 0 rfl dX7_addCar_59 ?_
    refine v_dup C rfl dX7_addCar_60 ?_
    refine g6_0 C hb.l0 hb.k0 fl_X7_9 dX7_addCar_61 ?_
    refine v_kc C (1) (by decide) dX7_addCar_64 ?_
    refine v_iadd C dX7_addCar_65 ?_
    refine p6_0 C hb.l0 hb.k0 fl_X7_9 dX7_addCar_66 (fun M11 e11 => ?_)
    have h := h M11 e11
    exact Rt _ _ _ dX7_addCar_69 h
theorem mt_X7_addCar {w : Wx} {l : Launch} : Ct_X7_addCar w l := by
  intro b a1 a2 M hb Q h
  refine met_v (by decide +kernel) (Nat.le_of_ble_eq_true rfl) (fun G C hG Rt => ?_)
  subst hG
  exact wk_X7_addCar C Rt b a1 a2 hb M (h)
theorem ct_X7_addCar (w : Wx) (l : Launch) : Ct_X7_addCar w l := mt_X7_addCar
set_option maxRecDepth 4000 in
theorem wk_X2_count {w : Wx} {G : Gx} {Q : Int32 → Mem → Prop} (C : Cx w G cX2_count RX2 0 0 2) (Rt : ∀ (pc : Nat) (lv : List (Nat × Value)) (r0 : Int32) (M0 : Mem), decode cX2_count pc = .ok (.ireturn, 1) → Q r0 M0 → V w G pc lv [.int r0] M0) (a0 : Int32) (M : Mem) (h : bd_X2_count Q (fun (x1 : Int32) (M : Mem) => V w G 2 [(0, .int a0), (1, .int x1)] [] M) a0 M) : V w G 0 [(0, .int a0)] [] M := by
  unfold bd_X2_count at h
  refine v_kc C (1) (by decide) dX2_count_0 ?_
  refine v_istore_n C [(1, .int ((1 : Int32))), (0, .int a0)] rfl (by decide) dX2_count_1 ?_
  exact V.sub [1, 0] rfl h
set_option maxRecDepth 4000 in
theorem wk_X2_count_2 {w : Wx} {G : Gx} {Q : Int32 → Mem → Prop} (C : Cx w G cX2_count RX2 0 0 2) (Rt : ∀ (pc : Nat) (lv : List (Nat × Value)) (r0 : Int32) (M0 : Mem), decode cX2_count pc = .ok (.ireturn, 1) → Q r0 M0 → V w G pc lv [.int r0] M0) (a0 : Int32) (x1 : Int32) (M : Mem) (h : bd_X2_count_2 Q (fun (x1 : Int32) (M : Mem) => V w G 2 [(0, .int a0), (1, .int x1)] [] M) a0 x1 M) : V w G 2 [(0, .int a0), (1, .int x1)] [] M := by
  unfold bd_X2_count_2 at h
  refine v_iload_n C 1 rfl dX2_count_2 ?_
  refine v_kb C (6) (by decide) dX2_count_3 ?_
  refine v_icmp_ge C 23 (by decide) dX2_count_5 (fun hc => ?_) (fun hc => ?_)
  · have h := h.1 hc
    refine v_iload_n C 1 rfl dX2_count_23 ?_
    exact Rt _ _ _ _ dX2_count_24 h
  · have h := h.2 hc
    refine v_iload_n C 0 rfl dX2_count_8 ?_
    refine v_tens C fn_X2_9 dX2_count_9 ?_
    refine v_iload_n C 1 rfl dX2_count_12 ?_
    obtain ⟨s1, h⟩ := h
    refine v_tld C s1 dX2_count_13 ?_
    refine v_icmp_lt C 23 (by decide) dX2_count_14 (fun hc => ?_) (fun hc => ?_)
    · have h := h.1 hc
      refine v_iload_n C 1 rfl dX2_count_23 ?_
      exact Rt _ _ _ _ dX2_count_24 h
    · have h := h.2 hc
      refine v_iinc C (j := 1) [(1, .int (x1 + 1)), (0, .int a0)] rfl (x1 + 1) rfl rfl (by decide) dX2_count_17 ?_
      refine v_goto C 2 (by decide) dX2_count_20 ?_
      exact V.sub [1, 0] rfl h
theorem mt_X2_count {w : Wx} {l : Launch} : Ct_X2_count w l := by
  intro a0 M Q h
  refine met_i (by decide +kernel) (Nat.le_of_ble_eq_true rfl) (fun G C hG Rt => ?_)
  subst hG
  exact wk_X2_count C Rt a0 M (h _ (fun x1 M h => wk_X2_count_2 C Rt a0 x1 M h))
theorem ct_X2_count (w : Wx) (l : Launch) : Ct_X2_count w l := mt_X2_count
set_option maxRecDepth 4000 in
theorem wk_X2_at {w : Wx} {G : Gx} {Q : Int32 → Mem → Prop} (C : Cx w G cX2_at RX2 1 21 3) (Rt : ∀ (pc : Nat) (lv : List (Nat × Value)) (r0 : Int32) (M0 : Mem), decode cX2_at pc = .ok (.ireturn, 1) → Q r0 M0 → V w G pc lv [.int r0] M0) (k_X2_count : Ct_X2_count w G.2.1) (a0 : Int32) (a1 : Int32) (M : Mem) (h : bd_X2_at Q a0 a1 M) : V w G 0 [(0, .int a0), (1, .int a1)] [] M := by
  unfold bd_X2_at at h
  refine v_iload_n C 0 rfl dX2_at_0 ?_
  refine v_callSI C [] (k_X2_count a0 M _ h) yX2_count_k ml_X2_13 rfl rfl (Nat.le_of_ble_eq_true rfl) ⟨by decide, by decide⟩ dX2_at_1 (fun r1 M1 h => ?_)
  refine v_kc C (1) (by decide) dX2_at_4 ?_
  refine v_isub C dX2_at_5 ?_
  refine v_iload_n C 1 rfl dX2_at_6 ?_
  refine v_isub C dX2_at_7 ?_
  refine v_istore_n C [(2, .int ((r1 - ((1 : Int32))) - a1)), (0, .int a0), (1, .int a1)] rfl (by decide) dX2_at_8 ?_
  refine v_iload_n C 0 rfl dX2_at_9 ?_
  refine v_if_lt C 32 (by decide) dX2_at_10 (fun hc => ?_) (fun hc => ?_)
  · have h := h.1 hc
    refine v_kc C (0) (by decide) dX2_at_32 ?_
    exact Rt _ _ _ _ dX2_at_33 h
  · have h := h.2 hc
    refine v_iload_n C 0 rfl dX2_at_13 ?_
    refine v_kb C (6) (by decide) dX2_at_14 ?_
    refine v_icmp_ge C 32 (by decide) dX2_at_16 (fun hc => ?_) (fun hc => ?_)
    · have h := h.1 hc
      refine v_kc C (0) (by decide) dX2_at_32 ?_
      exact Rt _ _ _ _ dX2_at_33 h
    · have h := h.2 hc
      refine v_iload_n C 1 rfl dX2_at_19 ?_
      refine v_tens C fn_X2_9 dX2_at_20 ?_
      refine v_iload_n C 0 rfl dX2_at_23 ?_
      obtain ⟨s2, h⟩ := h
      refine v_tld C s2 dX2_at_24 ?_
      obtain ⟨s3, h⟩ := h
      refine v_idiv C s3 dX2_at_25 ?_
      refine v_kb C (10) (by decide) dX2_at_26 ?_
      refine v_irem C (by decide) dX2_at_28 ?_
      refine v_goto C 33 (by decide) dX2_at_29 ?_
      exact Rt _ _ _ _ dX2_at_33 h
theorem mt_X2_at {w : Wx} {l : Launch} (k_X2_count : Ct_X2_count w l) : Ct_X2_at w l := by
  intro a0 a1 M Q h
  refine met_i (by decide +kernel) (Nat.le_of_ble_eq_true rfl) (fun G C hG Rt => ?_)
  subst hG
  exact wk_X2_at C Rt k_X2_count a0 a1 M (h)
theorem ct_X2_at (w : Wx) (l : Launch) : Ct_X2_at w l := mt_X2_at (ct_X2_count w l)
set_option maxRecDepth 4000 in
theorem wk_X2_areAllUpTo {w : Wx} {G : Gx} {Q : Int32 → Mem → Prop} (C : Cx w G cX2_areAllUpTo RX2 2 43 4) (Rt : ∀ (pc : Nat) (lv : List (Nat × Value)) (r0 : Int32) (M0 : Mem), decode cX2_areAllUpTo pc = .ok (.ireturn, 1) → (r0 = 0 ∨ r0 = 1) → Q r0 M0 → V w G pc lv [.int r0] M0) (k_X2_count : Ct_X2_count w G.2.1) (k_X2_at : Ct_X2_at w G.2.1) (a0 : Int32) (a1 : Int32) (M : Mem) (h : bd_X2_areAllUpTo Q (fun (x2 : Int32) (M : Mem) => V w G 7 [(0, .int a0), (1, .int a1), (2, .int x2)] [] M) a0 a1 M) : V w G 0 [(0, .int a0), (1, .int a1)] [] M := by
  unfold bd_X2_areAllUpTo at h
  refine v_iload_n C 0 rfl dX2_areAllUpTo_0 ?_
  refine v_callSI C [] (k_X2_count a0 M _ h) yX2_count_k ml_X2_13 rfl rfl (Nat.le_of_ble_eq_true rfl) ⟨by decide, by decide⟩ dX2_areAllUpTo_1 (fun r1 M1 h => ?_)
  refine v_kc C (1) (by decide) dX2_areAllUpTo_4 ?_
  refine v_isub C dX2_areAllUpTo_5 ?_
  refine v_istore_n C [(2, .int (r1 - ((1 : Int32)))), (0, .int a0), (1, .int a1)] rfl (by decide) dX2_areAllUpTo_6 ?_
  exact V.sub [1, 2, 0] rfl h
set_option maxRecDepth 4000 in
theorem wk_X2_areAllUpTo_7 {w : Wx} {G : Gx} {Q : Int32 → Mem → Prop} (C : Cx w G cX2_areAllUpTo RX2 2 43 4) (Rt : ∀ (pc : Nat) (lv : List (Nat × Value)) (r0 : Int32) (M0 : Mem), decode cX2_areAllUpTo pc = .ok (.ireturn, 1) → (r0 = 0 ∨ r0 = 1) → Q r0 M0 → V w G pc lv [.int r0] M0) (k_X2_count : Ct_X2_count w G.2.1) (k_X2_at : Ct_X2_at w G.2.1) (a0 : Int32) (a1 : Int32) (x2 : Int32) (M : Mem) (h : bd_X2_areAllUpTo_7 Q (fun (x2 : Int32) (M : Mem) => V w G 7 [(0, .int a0), (1, .int a1), (2, .int x2)] [] M) a0 a1 x2 M) : V w G 7 [(0, .int a0), (1, .int a1), (2, .int x2)] [] M := by
  unfold bd_X2_areAllUpTo_7 at h
  refine v_iload_n C 2 rfl dX2_areAllUpTo_7 ?_
  refine v_if_lt C 35 (by decide) dX2_areAllUpTo_8 (fun hc => ?_) (fun hc => ?_)
  · have h := h.1 hc
    refine v_kc C (1) (by decide) dX2_areAllUpTo_35 ?_
    exact Rt _ _ _ _ dX2_areAllUpTo_36 (by decide) h
  · have h := h.2 hc
    refine v_iload_n C 0 rfl dX2_areAllUpTo_11 ?_
    refine v_iload_n C 2 rfl dX2_areAllUpTo_12 ?_
    refine v_callSI C [] (k_X2_at a0 x2 M _ h) yX2_at_k ml_X2_19 rfl rfl (Nat.le_of_ble_eq_true rfl) ⟨by decide, by decide⟩ dX2_areAllUpTo_13 (fun r1 M1 h => ?_)
    refine v_istore_n C [(3, .int r1), (0, .int a0), (1, .int a1), (2, .int x2)] rfl (by decide) dX2_areAllUpTo_16 ?_
    refine v_iload_n C 0 rfl dX2_areAllUpTo_17 ?_
    refine v_kc C (1) (by decide) dX2_areAllUpTo_18 ?_
    refine v_icmp_lt C 27 (by decide) dX2_areAllUpTo_19 (fun hc => ?_) (fun hc => ?_)
    · have h := h.1 hc
      refine v_kc C (0) (by decide) dX2_areAllUpTo_27 ?_
      exact Rt _ _ _ _ dX2_areAllUpTo_28 (by decide) h
    · have h := h.2 hc
      refine v_iload_n C 0 rfl dX2_areAllUpTo_22 ?_
      refine v_iload_n C 2 rfl dX2_areAllUpTo_23 ?_
      refine v_icmp_le C 29 (by decide) dX2_areAllUpTo_24 (fun hc => ?_) (fun hc => ?_)
      · have h := h.1 hc
        refine v_iinc C (j := 3) [(2, .int (x2 + (-1))), (3, .int r1), (0, .int a0), (1, .int a1)] rfl (x2 + (-1)) (congrArg (fun z => x2 + z) (by decide : Int32.ofInt (-1) = (-1 : Int32))) rfl (by decide) dX2_areAllUpTo_29 ?_
        refine v_goto C 7 (by decide) dX2_areAllUpTo_32 ?_
        exact V.sub [2, 3, 0] rfl h
      · have h := h.2 hc
        refine v_kc C (0) (by decide) dX2_areAllUpTo_27 ?_
        exact Rt _ _ _ _ dX2_areAllUpTo_28 (by decide) h
theorem mt_X2_areAllUpTo {w : Wx} {l : Launch} (k_X2_count : Ct_X2_count w l) (k_X2_at : Ct_X2_at w l) : Ct_X2_areAllUpTo w l := by
  intro a0 a1 M Q h
  refine met_z (by decide +kernel) (Nat.le_of_ble_eq_true rfl) (fun G C hG Rt => ?_)
  subst hG
  exact wk_X2_areAllUpTo C Rt k_X2_count k_X2_at a0 a1 M (h _ (fun x2 M h => wk_X2_areAllUpTo_7 C Rt k_X2_count k_X2_at a0 a1 x2 M h))
theorem ct_X2_areAllUpTo (w : Wx) (l : Launch) : Ct_X2_areAllUpTo w l := mt_X2_areAllUpTo (ct_X2_count w l) (ct_X2_at w l)
set_option maxRecDepth 4000 in
theorem wk_X6_isRound {w : Wx} {G : Gx} {Q : Int32 → Mem → Prop} (C : Cx w G cX6_isRound RX6 3 66 2) (Rt : ∀ (pc : Nat) (lv : List (Nat × Value)) (r0 : Int32) (M0 : Mem), decode cX6_isRound pc = .ok (.ireturn, 1) → (r0 = 0 ∨ r0 = 1) → Q r0 M0 → V w G pc lv [.int r0] M0) (k_X8_at : Ct_X8_at w G.2.1) (k_X2_areAllUpTo : Ct_X2_areAllUpTo w G.2.1) (a1 : Int32) (M : Mem) (h : bd_X6_isRound Q a1 M) : V w G 0 [(0, .ref (w.2.1 3)), (1, .int a1)] [] M := by
  unfold bd_X6_isRound at h
  refine v_aload_n C 0 rfl dX6_isRound_0 ?_
  refine g5_5 C kb3 kd3 fl_X6_37 dX6_isRound_1 ?_
  refine v_aload_n C 0 rfl dX6_isRound_4 ?_
  refine g5_7 C kb3 kd3 fl_X6_34 dX6_isRound_5 ?_
  refine v_callI C [] (k_X8_at (M 3 7) M _ h) yX8_at_k ml_X6_55 (rcv7 kb1 kd1) rfl rfl (Nat.le_of_ble_eq_true rfl) ⟨by decide, by decide⟩ dX6_isRound_8 (fun r1 M1 h => ?_)
  refine v_kb C (48) (by decide) dX6_isRound_11 ?_
  refine v_icmp_eq C 31 (by decide) dX6_isRound_13 (fun hc => ?_) (fun hc => ?_)
  · have h := h.1 hc
    refine v_kc C (0) (by decide) dX6_isRound_31 ?_
    exact Rt _ _ _ _ dX6_isRound_32 (by decide) h
  · have h := h.2 hc
    refine v_iload_n C 1 rfl dX6_isRound_16 ?_
    refine v_aload_n C 0 rfl dX6_isRound_17 ?_
    refine g5_1 C kb3 kd3 fl_X6_18 dX6_isRound_18 ?_
    refine v_callSI C [] (k_X2_areAllUpTo a1 (M1 3 1) M1 _ h) yX2_areAllUpTo_k ml_X6_94 rfl rfl (Nat.le_of_ble_eq_true rfl) ⟨by decide, by decide⟩ dX6_isRound_21 (fun r2 M2 h => ?_)
    have key3 : V w G 32 [(0, .ref (w.2.1 3)), (1, .int a1)] (.int (if r2 = 0 then (0 : Int32) else (1 : Int32)) :: []) M2 := by
      exact Rt _ _ _ _ dX6_isRound_32 h.1 h.2
    refine v_if_eq C 31 (by decide) dX6_isRound_24 (fun hc => ?_) (fun hc => ?_)
    · rw [show (if r2 = 0 then (0 : Int32) else (1 : Int32) : Int32) = (0 : Int32) from if_pos hc] at key3
      refine v_kc C (0) (by decide) dX6_isRound_31 ?_
      exact key3
    · rw [show (if r2 = 0 then (0 : Int32) else (1 : Int32) : Int32) = (1 : Int32) from if_neg hc] at key3
      refine v_kc C (1) (by decide) dX6_isRound_27 ?_
      refine v_goto C 32 (by decide) dX6_isRound_28 ?_
      exact key3
theorem mt_X6_isRound {w : Wx} {l : Launch} (k_X8_at : Ct_X8_at w l) (k_X2_areAllUpTo : Ct_X2_areAllUpTo w l) : Ct_X6_isRound w l := by
  intro a1 M Q h
  refine met_z (by decide +kernel) (Nat.le_of_ble_eq_true rfl) (fun G C hG Rt => ?_)
  subst hG
  exact wk_X6_isRound C Rt k_X8_at k_X2_areAllUpTo a1 M (h)
theorem ct_X6_isRound (w : Wx) (l : Launch) : Ct_X6_isRound w l := mt_X6_isRound (ct_X8_at w l) (ct_X2_areAllUpTo w l)
set_option maxRecDepth 4000 in
theorem wk_X6_readCar {w : Wx} {G : Gx} {Q : Mem → Prop} (C : Cx w G cX6_readCar RX6 4 87 3) (Rt : ∀ (pc : Nat) (lv : List (Nat × Value)) (M0 : Mem), decode cX6_readCar pc = .ok (.return_, 1) → Q M0 → V w G pc lv [] M0) (k_X6_readNumber : Ct_X6_readNumber w G.2.1) (k_X7_addCar : Ct_X7_addCar w G.2.1) (k_X6_isRound : Ct_X6_isRound w G.2.1) (k_X6_blame : Ct_X6_blame w G.2.1) (M : Mem) (h : bd_X6_readCar Q M) : V w G 0 [(0, .ref (w.2.1 3))] [] M := by
  unfold bd_X6_readCar at h
  refine v_aload_n C 0 rfl dX6_readCar_0 ?_
  refine v_kc C (0) (by decide) dX6_readCar_1 ?_
  refine v_aload_n C 0 rfl dX6_readCar_2 ?_
  refine g5_1 C kb3 kd3 fl_X6_18 dX6_readCar_3 ?_
  refine v_kc C (1) (by decide) dX6_readCar_6 ?_
  refine v_isub C dX6_readCar_7 ?_
  refine v_callI C [] (k_X6_readNumber ((0 : Int32)) ((M 3 1) - ((1 : Int32))) M _ h) yX6_readNumber_k ml_X6_82 (rcv5 kb3 kd3) rfl rfl (Nat.le_of_ble_eq_true rfl) ⟨by decide, by decide⟩ dX6_readCar_8 (fun r1 M1 h => ?_)
  refine v_istore_n C [(1, .int r1), (0, .ref (w.2.1 3))] rfl (by decide) dX6_readCar_11 ?_
  refine v_aload_n C 1 rfl dX6_readCar_12 ?_
  refine v_kc C (1) (by decide) dX6_readCar_13 ?_
  refine v_ldc C kc_X6_86 dX6_readCar_14 ?_
  refine v_callI C [] (k_X6_readNumber ((1 : Int32)) ((999999 : Int32)) M1 _ h) yX6_readNumber_k ml_X6_82 (rcv5 kb3 kd3) rfl rfl (Nat.le_of_ble_eq_true rfl) ⟨by decide, by decide⟩ dX6_readCar_16 (fun r2 M2 h => ?_)
  refine v_istore_n C [(2, .int r2), (1, .int r1), (0, .ref (w.2.1 3))] rfl (by decide) dX6_readCar_19 ?_
  refine v_aload_n C 2 rfl dX6_readCar_20 ?_
  refine g5_3 C kb3 kd3 fl_X6_25 dX6_readCar_21 ?_
  refine v_if_ne C 44 (by decide) dX6_readCar_24 (fun hc => ?_) (fun hc => ?_)
  · have h := h.2 hc
    refine v_aload_n C 2 rfl dX6_readCar_44 ?_
    refine g5_3 C kb3 kd3 fl_X6_25 dX6_readCar_45 ?_
    refine v_if_ne C 60 (by decide) dX6_readCar_48 (fun hc => ?_) (fun hc => ?_)
    · have h := h.2 hc
      exact Rt _ _ _ dX6_readCar_60 h
    · have h := h.1 hc
      refine v_aload_n C 2 rfl dX6_readCar_51 ?_
      refine g5_0 C kb3 kd3 fl_X6_12 dX6_readCar_52 ?_
      refine v_iload_n C 1 rfl dX6_readCar_55 ?_
      refine v_iload_n C 0 rfl dX6_readCar_56 ?_
      refine v_callV C [] (k_X7_addCar 4 r1 r2 M2 sc4 _ h) yX7_addCar_k ml_X6_91 (rcv6 sc4.l0 sc4.k0) rfl rfl (Nat.le_of_ble_eq_true rfl) ⟨by decide, by decide⟩ dX6_readCar_57 (fun M3 h => ?_)
      exact Rt _ _ _ dX6_readCar_60 h
  · have h := h.1 hc
    refine v_aload_n C 2 rfl dX6_readCar_27 ?_
    refine v_iload_n C 0 rfl dX6_readCar_28 ?_
    refine v_callI C [] (k_X6_isRound r2 M2 _ h) yX6_isRound_k ml_X6_87 (rcv5 kb3 kd3) rfl rfl (Nat.le_of_ble_eq_true rfl) ⟨by decide, by decide⟩ dX6_readCar_29 (fun r4 M4 h => ?_)
    refine v_if_ne C 44 (by decide) dX6_readCar_32 (fun hc => ?_) (fun hc => ?_)
    · have h := h.2 hc
      refine v_aload_n C 2 rfl dX6_readCar_44 ?_
      refine g5_3 C kb3 kd3 fl_X6_25 dX6_readCar_45 ?_
      refine v_if_ne C 60 (by decide) dX6_readCar_48 (fun hc => ?_) (fun hc => ?_)
      · have h := h.2 hc
        exact Rt _ _ _ dX6_readCar_60 h
      · have h := h.1 hc
        refine v_aload_n C 2 rfl dX6_readCar_51 ?_
        refine g5_0 C kb3 kd3 fl_X6_12 dX6_readCar_52 ?_
        refine v_iload_n C 1 rfl dX6_readCar_55 ?_
        refine v_iload_n C 0 rfl dX6_readCar_56 ?_
        refine v_callV C [] (k_X7_addCar 4 r1 r2 M4 sc4 _ h) yX7_addCar_k ml_X6_91 (rcv6 sc4.l0 sc4.k0) rfl rfl (Nat.le_of_ble_eq_true rfl) ⟨by decide, by decide⟩ dX6_readCar_57 (fun M5 h => ?_)
        exact Rt _ _ _ dX6_readCar_60 h
    · have h := h.1 hc
      refine v_aload_n C 2 rfl dX6_readCar_35 ?_
      refine v_kc C (2) (by decide) dX6_readCar_36 ?_
      refine v_aload_n C 2 rfl dX6_readCar_37 ?_
      refine g5_7 C kb3 kd3 fl_X6_34 dX6_readCar_38 ?_
      refine v_callV C [] (k_X6_blame ((2 : Int32)) (M4 3 7) M4 _ h) yX6_blame_k ml_X6_63 (rcv5 kb3 kd3) rfl rfl (Nat.le_of_ble_eq_true rfl) ⟨by decide, by decide⟩ dX6_readCar_41 (fun M6 h => ?_)
      refine v_aload_n C 2 rfl dX6_readCar_44 ?_
      refine g5_3 C kb3 kd3 fl_X6_25 dX6_readCar_45 ?_
      refine v_if_ne C 60 (by decide) dX6_readCar_48 (fun hc => ?_) (fun hc => ?_)
      · have h := h.2 hc
        exact Rt _ _ _ dX6_readCar_60 h
      · have h := h.1 hc
        refine v_aload_n C 2 rfl dX6_readCar_51 ?_
        refine g5_0 C kb3 kd3 fl_X6_12 dX6_readCar_52 ?_
        refine v_iload_n C 1 rfl dX6_readCar_55 ?_
        refine v_iload_n C 0 rfl dX6_readCar_56 ?_
        refine v_callV C [] (k_X7_addCar 4 r1 r2 M6 sc4 _ h) yX7_addCar_k ml_X6_91 (rcv6 sc4.l0 sc4.k0) rfl rfl (Nat.le_of_ble_eq_true rfl) ⟨by decide, by decide⟩ dX6_readCar_57 (fun M7 h => ?_)
        exact Rt _ _ _ dX6_readCar_60 h
theorem mt_X6_readCar {w : Wx} {l : Launch} (k_X6_readNumber : Ct_X6_readNumber w l) (k_X7_addCar : Ct_X7_addCar w l) (k_X6_isRound : Ct_X6_isRound w l) (k_X6_blame : Ct_X6_blame w l) : Ct_X6_readCar w l := by
  intro M Q h
  refine met_v (by decide +kernel) (Nat.le_of_ble_eq_true rfl) (fun G C hG Rt => ?_)
  subst hG
  exact wk_X6_readCar C Rt k_X6_readNumber k_X7_addCar k_X6_isRound k_X6_blame M (h)
theorem ct_X6_readCar (w : Wx) (l : Launch) : Ct_X6_readCar w l := mt_X6_readCar (ct_X6_readNumber w l) (ct_X7_addCar w l) (ct_X6_isRound w l) (ct_X6_blame w l)
set_option maxRecDepth 4000 in
theorem wk_X6_readTown {w : Wx} {G : Gx} {Q : Mem → Prop} (C : Cx w G cX6_readTown RX6 4 86 3) (Rt : ∀ (pc : Nat) (lv : List (Nat × Value)) (M0 : Mem), decode cX6_readTown pc = .ok (.return_, 1) → Q M0 → V w G pc lv [] M0) (k_X6_readNumber : Ct_X6_readNumber w G.2.1) (M : Mem) (h : bd_X6_readTown Q M) : V w G 0 [(0, .ref (w.2.1 3))] [] M := by
  unfold bd_X6_readTown at h
  refine v_aload_n C 0 rfl dX6_readTown_0 ?_
  refine v_kc C (1) (by decide) dX6_readTown_1 ?_
  refine v_kb C (9) (by decide) dX6_readTown_2 ?_
  refine v_callI C [] (k_X6_readNumber ((1 : Int32)) ((9 : Int32)) M _ h) yX6_readNumber_k ml_X6_82 (rcv5 kb3 kd3) rfl rfl (Nat.le_of_ble_eq_true rfl) ⟨by decide, by decide⟩ dX6_readTown_4 (fun r1 M1 h => ?_)
  refine v_istore_n C [(1, .int r1), (0, .ref (w.2.1 3))] rfl (by decide) dX6_readTown_7 ?_
  refine v_aload_n C 1 rfl dX6_readTown_8 ?_
  refine v_kc C (0) (by decide) dX6_readTown_9 ?_
  refine v_kb C (100) (by decide) dX6_readTown_10 ?_
  refine v_callI C [] (k_X6_readNumber ((0 : Int32)) ((100 : Int32)) M1 _ h) yX6_readNumber_k ml_X6_82 (rcv5 kb3 kd3) rfl rfl (Nat.le_of_ble_eq_true rfl) ⟨by decide, by decide⟩ dX6_readTown_12 (fun r2 M2 h => ?_)
  refine v_istore_n C [(2, .int r2), (1, .int r1), (0, .ref (w.2.1 3))] rfl (by decide) dX6_readTown_15 ?_
  refine v_aload_n C 2 rfl dX6_readTown_16 ?_
  refine g5_3 C kb3 kd3 fl_X6_25 dX6_readTown_17 ?_
  refine v_if_ne C 33 (by decide) dX6_readTown_20 (fun hc => ?_) (fun hc => ?_)
  · have h := h.2 hc
    exact Rt _ _ _ dX6_readTown_33 h
  · have h := h.1 hc
    refine v_aload_n C 2 rfl dX6_readTown_23 ?_
    refine v_iload_n C 1 rfl dX6_readTown_24 ?_
    refine p5_1 C kb3 kd3 fl_X6_18 dX6_readTown_25 (fun M3 e3 => ?_)
    have h := h M3 e3
    refine v_aload_n C 2 rfl dX6_readTown_28 ?_
    refine v_iload_n C 0 rfl dX6_readTown_29 ?_
    refine p5_2 C kb3 kd3 fl_X6_22 dX6_readTown_30 (fun M4 e4 => ?_)
    have h := h M4 e4
    exact Rt _ _ _ dX6_readTown_33 h
theorem mt_X6_readTown {w : Wx} {l : Launch} (k_X6_readNumber : Ct_X6_readNumber w l) : Ct_X6_readTown w l := by
  intro M Q h
  refine met_v (by decide +kernel) (Nat.le_of_ble_eq_true rfl) (fun G C hG Rt => ?_)
  subst hG
  exact wk_X6_readTown C Rt k_X6_readNumber M (h)
theorem ct_X6_readTown (w : Wx) (l : Launch) : Ct_X6_readTown w l := mt_X6_readTown (ct_X6_readNumber w l)
set_option maxRecDepth 4000 in
theorem wk_X6_readSemicolon {w : Wx} {G : Gx} {Q : Mem → Prop} (C : Cx w G cX6_readSemicolon RX6 3 62 1) (Rt : ∀ (pc : Nat) (lv : List (Nat × Value)) (M0 : Mem), decode cX6_readSemicolon pc = .ok (.return_, 1) → Q M0 → V w G pc lv [] M0) (k_X6_skipBlanks : Ct_X6_skipBlanks w G.2.1) (k_X6_letter : Ct_X6_letter w G.2.1) (k_X6_blame : Ct_X6_blame w G.2.1) (M : Mem) (h : bd_X6_readSemicolon Q M) : V w G 0 [(0, .ref (w.2.1 3))] [] M := by
  unfold bd_X6_readSemicolon at h
  refine v_aload_n C 0 rfl dX6_readSemicolon_0 ?_
  refine v_callV C [] (k_X6_skipBlanks M _ h) yX6_skipBlanks_k ml_X6_44 (rcv5 kb3 kd3) rfl rfl (Nat.le_of_ble_eq_true rfl) ⟨by decide, by decide⟩ dX6_readSemicolon_1 (fun M1 h => ?_)
  refine v_aload_n C 0 rfl dX6_readSemicolon_4 ?_
  refine v_callI C [] (k_X6_letter M1 _ h) yX6_letter_k ml_X6_59 (rcv5 kb3 kd3) rfl rfl (Nat.le_of_ble_eq_true rfl) ⟨by decide, by decide⟩ dX6_readSemicolon_5 (fun r2 M2 h => ?_)
  refine v_kb C (59) (by decide) dX6_readSemicolon_8 ?_
  refine v_icmp_eq C 22 (by decide) dX6_readSemicolon_10 (fun hc => ?_) (fun hc => ?_)
  · have h := h.1 hc
    refine v_aload_n C 0 rfl dX6_readSemicolon_22 ?_
    refine v_dup C rfl dX6_readSemicolon_23 ?_
    refine g5_6 C kb3 kd3 fl_X6_31 dX6_readSemicolon_24 ?_
    refine v_kc C (1) (by decide) dX6_readSemicolon_27 ?_
    refine v_iadd C dX6_readSemicolon_28 ?_
    refine p5_6 C kb3 kd3 fl_X6_31 dX6_readSemicolon_29 (fun M3 e3 => ?_)
    have h := h M3 e3
    exact Rt _ _ _ dX6_readSemicolon_32 h
  · have h := h.2 hc
    refine v_aload_n C 0 rfl dX6_readSemicolon_13 ?_
    refine v_kc C (1) (by decide) dX6_readSemicolon_14 ?_
    refine v_aload_n C 0 rfl dX6_readSemicolon_15 ?_
    refine g5_6 C kb3 kd3 fl_X6_31 dX6_readSemicolon_16 ?_
    refine v_callV C [] (k_X6_blame ((1 : Int32)) (M2 3 6) M2 _ h) yX6_blame_k ml_X6_63 (rcv5 kb3 kd3) rfl rfl (Nat.le_of_ble_eq_true rfl) ⟨by decide, by decide⟩ dX6_readSemicolon_19 (fun M4 h => ?_)
    refine v_aload_n C 0 rfl dX6_readSemicolon_22 ?_
    refine v_dup C rfl dX6_readSemicolon_23 ?_
    refine g5_6 C kb3 kd3 fl_X6_31 dX6_readSemicolon_24 ?_
    refine v_kc C (1) (by decide) dX6_readSemicolon_27 ?_
    refine v_iadd C dX6_readSemicolon_28 ?_
    refine p5_6 C kb3 kd3 fl_X6_31 dX6_readSemicolon_29 (fun M5 e5 => ?_)
    have h := h M5 e5
    exact Rt _ _ _ dX6_readSemicolon_32 h
theorem mt_X6_readSemicolon {w : Wx} {l : Launch} (k_X6_skipBlanks : Ct_X6_skipBlanks w l) (k_X6_letter : Ct_X6_letter w l) (k_X6_blame : Ct_X6_blame w l) : Ct_X6_readSemicolon w l := by
  intro M Q h
  refine met_v (by decide +kernel) (Nat.le_of_ble_eq_true rfl) (fun G C hG Rt => ?_)
  subst hG
  exact wk_X6_readSemicolon C Rt k_X6_skipBlanks k_X6_letter k_X6_blame M (h)
theorem ct_X6_readSemicolon (w : Wx) (l : Launch) : Ct_X6_readSemicolon w l := mt_X6_readSemicolon (ct_X6_skipBlanks w l) (ct_X6_letter w l) (ct_X6_blame w l)
set_option maxRecDepth 4000 in
theorem wk_X6_readClause {w : Wx} {G : Gx} {Q : Mem → Prop} (C : Cx w G cX6_readClause RX6 5 109 2) (Rt : ∀ (pc : Nat) (lv : List (Nat × Value)) (M0 : Mem), decode cX6_readClause pc = .ok (.return_, 1) → Q M0 → V w G pc lv [] M0) (k_X6_letter : Ct_X6_letter w G.2.1) (k_X6_blame : Ct_X6_blame w G.2.1) (k_X6_readFollowing : Ct_X6_readFollowing w G.2.1) (k_X6_readCar : Ct_X6_readCar w G.2.1) (k_X6_readTown : Ct_X6_readTown w G.2.1) (k_X6_readSemicolon : Ct_X6_readSemicolon w G.2.1) (M : Mem) (h : bd_X6_readClause Q (fun (x1 : Int32) (M : Mem) => V w G 40 [(0, .ref (w.2.1 3)), (1, .int x1)] [] M) (fun (x1 : Int32) (M : Mem) => V w G 81 [(0, .ref (w.2.1 3)), (1, .int x1)] [] M) (fun (M : Mem) => V w G 121 [(0, .ref (w.2.1 3))] [] M) M) : V w G 0 [(0, .ref (w.2.1 3))] [] M := by
  unfold bd_X6_readClause at h
  refine v_aload_n C 0 rfl dX6_readClause_0 ?_
  refine v_callI C [] (k_X6_letter M _ h) yX6_letter_k ml_X6_59 (rcv5 kb3 kd3) rfl rfl (Nat.le_of_ble_eq_true rfl) ⟨by decide, by decide⟩ dX6_readClause_1 (fun r1 M1 h => ?_)
  refine v_istore_n C [(1, .int r1), (0, .ref (w.2.1 3))] rfl (by decide) dX6_readClause_4 ?_
  refine v_iload_n C 0 rfl dX6_readClause_5 ?_
  refine v_kb C (116) (by decide) dX6_readClause_6 ?_
  refine v_icmp_eq C 40 (by decide) dX6_readClause_8 (fun hc => ?_) (fun hc => ?_)
  · have h := h.1 hc
    exact V.sub [1, 0] rfl h
  · have h := h.2 hc
    refine v_iload_n C 0 rfl dX6_readClause_11 ?_
    refine v_kb C (99) (by decide) dX6_readClause_12 ?_
    refine v_icmp_eq C 23 (by decide) dX6_readClause_14 (fun hc => ?_) (fun hc => ?_)
    · have h := h.1 hc
      refine v_aload_n C 1 rfl dX6_readClause_23 ?_
      refine g5_1 C kb3 kd3 fl_X6_18 dX6_readClause_24 ?_
      refine v_if_ne C 40 (by decide) dX6_readClause_27 (fun hc => ?_) (fun hc => ?_)
      · have h := h.2 hc
        exact V.sub [1, 0] rfl h
      · have h := h.1 hc
        refine v_aload_n C 1 rfl dX6_readClause_30 ?_
        refine v_kc C (1) (by decide) dX6_readClause_31 ?_
        refine v_aload_n C 1 rfl dX6_readClause_32 ?_
        refine g5_6 C kb3 kd3 fl_X6_31 dX6_readClause_33 ?_
        refine v_callV C [] (k_X6_blame ((1 : Int32)) (M1 3 6) M1 _ h) yX6_blame_k ml_X6_63 (rcv5 kb3 kd3) rfl rfl (Nat.le_of_ble_eq_true rfl) ⟨by decide, by decide⟩ dX6_readClause_36 (fun M2 h => ?_)
        exact Rt _ _ _ dX6_readClause_39 h
    · have h := h.2 hc
      refine v_iload_n C 0 rfl dX6_readClause_17 ?_
      refine v_kb C (102) (by decide) dX6_readClause_18 ?_
      refine v_icmp_ne C 30 (by decide) dX6_readClause_20 (fun hc => ?_) (fun hc => ?_)
      · have h := h.2 hc
        refine v_aload_n C 1 rfl dX6_readClause_30 ?_
        refine v_kc C (1) (by decide) dX6_readClause_31 ?_
        refine v_aload_n C 1 rfl dX6_readClause_32 ?_
        refine g5_6 C kb3 kd3 fl_X6_31 dX6_readClause_33 ?_
        refine v_callV C [] (k_X6_blame ((1 : Int32)) (M1 3 6) M1 _ h) yX6_blame_k ml_X6_63 (rcv5 kb3 kd3) rfl rfl (Nat.le_of_ble_eq_true rfl) ⟨by decide, by decide⟩ dX6_readClause_36 (fun M3 h => ?_)
        exact Rt _ _ _ dX6_readClause_39 h
      · have h := h.1 hc
        refine v_aload_n C 1 rfl dX6_readClause_23 ?_
        refine g5_1 C kb3 kd3 fl_X6_18 dX6_readClause_24 ?_
        refine v_if_ne C 40 (by decide) dX6_readClause_27 (fun hc => ?_) (fun hc => ?_)
        · have h := h.2 hc
          exact V.sub [1, 0] rfl h
        · have h := h.1 hc
          refine v_aload_n C 1 rfl dX6_readClause_30 ?_
          refine v_kc C (1) (by decide) dX6_readClause_31 ?_
          refine v_aload_n C 1 rfl dX6_readClause_32 ?_
          refine g5_6 C kb3 kd3 fl_X6_31 dX6_readClause_33 ?_
          refine v_callV C [] (k_X6_blame ((1 : Int32)) (M1 3 6) M1 _ h) yX6_blame_k ml_X6_63 (rcv5 kb3 kd3) rfl rfl (Nat.le_of_ble_eq_true rfl) ⟨by decide, by decide⟩ dX6_readClause_36 (fun M4 h => ?_)
          exact Rt _ _ _ dX6_readClause_39 h
set_option maxRecDepth 4000 in
theorem wk_X6_readClause_40 {w : Wx} {G : Gx} {Q : Mem → Prop} (C : Cx w G cX6_readClause RX6 5 109 2) (Rt : ∀ (pc : Nat) (lv : List (Nat × Value)) (M0 : Mem), decode cX6_readClause pc = .ok (.return_, 1) → Q M0 → V w G pc lv [] M0) (k_X6_letter : Ct_X6_letter w G.2.1) (k_X6_blame : Ct_X6_blame w G.2.1) (k_X6_readFollowing : Ct_X6_readFollowing w G.2.1) (k_X6_readCar : Ct_X6_readCar w G.2.1) (k_X6_readTown : Ct_X6_readTown w G.2.1) (k_X6_readSemicolon : Ct_X6_readSemicolon w G.2.1) (x1 : Int32) (M : Mem) (h : bd_X6_readClause_40 Q (fun (x1 : Int32) (M : Mem) => V w G 40 [(0, .ref (w.2.1 3)), (1, .int x1)] [] M) (fun (x1 : Int32) (M : Mem) => V w G 81 [(0, .ref (w.2.1 3)), (1, .int x1)] [] M) (fun (M : Mem) => V w G 121 [(0, .ref (w.2.1 3))] [] M) x1 M) : V w G 40 [(0, .ref (w.2.1 3)), (1, .int x1)] [] M := by
  unfold bd_X6_readClause_40 at h
  refine v_iload_n C 1 rfl dX6_readClause_40 ?_
  refine v_kb C (116) (by decide) dX6_readClause_41 ?_
  refine v_icmp_ne C 53 (by decide) dX6_readClause_43 (fun hc => ?_) (fun hc => ?_)
  · have h := h.2 hc
    refine v_iload_n C 1 rfl dX6_readClause_53 ?_
    refine v_kb C (99) (by decide) dX6_readClause_54 ?_
    refine v_icmp_ne C 81 (by decide) dX6_readClause_56 (fun hc => ?_) (fun hc => ?_)
    · have h := h.2 hc
      exact V.sub [0, 1] rfl h
    · have h := h.1 hc
      refine v_aload_n C 0 rfl dX6_readClause_59 ?_
      refine g5_0 C kb3 kd3 fl_X6_12 dX6_readClause_60 ?_
      refine g6_0 C sc4.l0 sc4.k0 fl_X6_67 dX6_readClause_63 ?_
      refine v_kb C (8) (by decide) dX6_readClause_66 ?_
      refine v_icmp_lt C 81 (by decide) dX6_readClause_68 (fun hc => ?_) (fun hc => ?_)
      · have h := h.1 hc
        exact V.sub [0, 1] rfl h
      · have h := h.2 hc
        refine v_aload_n C 0 rfl dX6_readClause_71 ?_
        refine v_kc C (3) (by decide) dX6_readClause_72 ?_
        refine v_aload_n C 0 rfl dX6_readClause_73 ?_
        refine g5_6 C kb3 kd3 fl_X6_31 dX6_readClause_74 ?_
        refine v_callV C [] (k_X6_blame ((3 : Int32)) (M 3 6) M _ h) yX6_blame_k ml_X6_63 (rcv5 kb3 kd3) rfl rfl (Nat.le_of_ble_eq_true rfl) ⟨by decide, by decide⟩ dX6_readClause_77 (fun M1 h => ?_)
        exact Rt _ _ _ dX6_readClause_80 h
  · have h := h.1 hc
    refine v_aload_n C 0 rfl dX6_readClause_46 ?_
    refine g5_1 C kb3 kd3 fl_X6_18 dX6_readClause_47 ?_
    refine v_if_ne C 71 (by decide) dX6_readClause_50 (fun hc => ?_) (fun hc => ?_)
    · have h := h.2 hc
      refine v_aload_n C 0 rfl dX6_readClause_71 ?_
      refine v_kc C (3) (by decide) dX6_readClause_72 ?_
      refine v_aload_n C 0 rfl dX6_readClause_73 ?_
      refine g5_6 C kb3 kd3 fl_X6_31 dX6_readClause_74 ?_
      refine v_callV C [] (k_X6_blame ((3 : Int32)) (M 3 6) M _ h) yX6_blame_k ml_X6_63 (rcv5 kb3 kd3) rfl rfl (Nat.le_of_ble_eq_true rfl) ⟨by decide, by decide⟩ dX6_readClause_77 (fun M2 h => ?_)
      exact Rt _ _ _ dX6_readClause_80 h
    · have h := h.1 hc
      refine v_iload_n C 1 rfl dX6_readClause_53 ?_
      refine v_kb C (99) (by decide) dX6_readClause_54 ?_
      refine v_icmp_ne C 81 (by decide) dX6_readClause_56 (fun hc => ?_) (fun hc => ?_)
      · have h := h.2 hc
        exact V.sub [0, 1] rfl h
      · have h := h.1 hc
        refine v_aload_n C 0 rfl dX6_readClause_59 ?_
        refine g5_0 C kb3 kd3 fl_X6_12 dX6_readClause_60 ?_
        refine g6_0 C sc4.l0 sc4.k0 fl_X6_67 dX6_readClause_63 ?_
        refine v_kb C (8) (by decide) dX6_readClause_66 ?_
        refine v_icmp_lt C 81 (by decide) dX6_readClause_68 (fun hc => ?_) (fun hc => ?_)
        · have h := h.1 hc
          exact V.sub [0, 1] rfl h
        · have h := h.2 hc
          refine v_aload_n C 0 rfl dX6_readClause_71 ?_
          refine v_kc C (3) (by decide) dX6_readClause_72 ?_
          refine v_aload_n C 0 rfl dX6_readClause_73 ?_
          refine g5_6 C kb3 kd3 fl_X6_31 dX6_readClause_74 ?_
          refine v_callV C [] (k_X6_blame ((3 : Int32)) (M 3 6) M _ h) yX6_blame_k ml_X6_63 (rcv5 kb3 kd3) rfl rfl (Nat.le_of_ble_eq_true rfl) ⟨by decide, by decide⟩ dX6_readClause_77 (fun M3 h => ?_)
          exact Rt _ _ _ dX6_readClause_80 h
set_option maxRecDepth 4000 in
theorem wk_X6_readClause_81 {w : Wx} {G : Gx} {Q : Mem → Prop} (C : Cx w G cX6_readClause RX6 5 109 2) (Rt : ∀ (pc : Nat) (lv : List (Nat × Value)) (M0 : Mem), decode cX6_readClause pc = .ok (.return_, 1) → Q M0 → V w G pc lv [] M0) (k_X6_letter : Ct_X6_letter w G.2.1) (k_X6_blame : Ct_X6_blame w G.2.1) (k_X6_readFollowing : Ct_X6_readFollowing w G.2.1) (k_X6_readCar : Ct_X6_readCar w G.2.1) (k_X6_readTown : Ct_X6_readTown w G.2.1) (k_X6_readSemicolon : Ct_X6_readSemicolon w G.2.1) (x1 : Int32) (M : Mem) (h : bd_X6_readClause_81 Q (fun (x1 : Int32) (M : Mem) => V w G 40 [(0, .ref (w.2.1 3)), (1, .int x1)] [] M) (fun (x1 : Int32) (M : Mem) => V w G 81 [(0, .ref (w.2.1 3)), (1, .int x1)] [] M) (fun (M : Mem) => V w G 121 [(0, .ref (w.2.1 3))] [] M) x1 M) : V w G 81 [(0, .ref (w.2.1 3)), (1, .int x1)] [] M := by
  unfold bd_X6_readClause_81 at h
  refine v_aload_n C 0 rfl dX6_readClause_81 ?_
  refine v_dup C rfl dX6_readClause_82 ?_
  refine g5_6 C kb3 kd3 fl_X6_31 dX6_readClause_83 ?_
  refine v_kc C (1) (by decide) dX6_readClause_86 ?_
  refine v_iadd C dX6_readClause_87 ?_
  refine p5_6 C kb3 kd3 fl_X6_31 dX6_readClause_88 (fun M1 e1 => ?_)
  have h := h M1 e1
  refine v_iload_n C 1 rfl dX6_readClause_91 ?_
  refine v_kb C (116) (by decide) dX6_readClause_92 ?_
  refine v_icmp_ne C 104 (by decide) dX6_readClause_94 (fun hc => ?_) (fun hc => ?_)
  · have h := h.2 hc
    refine v_iload_n C 1 rfl dX6_readClause_104 ?_
    refine v_kb C (99) (by decide) dX6_readClause_105 ?_
    refine v_icmp_ne C 117 (by decide) dX6_readClause_107 (fun hc => ?_) (fun hc => ?_)
    · have h := h.2 hc
      refine v_aload_n C 0 rfl dX6_readClause_117 ?_
      refine v_callV C [] (k_X6_readFollowing M1 _ h) yX6_readFollowing_k ml_X6_76 (rcv5 kb3 kd3) rfl rfl (Nat.le_of_ble_eq_true rfl) ⟨by decide, by decide⟩ dX6_readClause_118 (fun M2 h => ?_)
      exact V.sub [0] rfl h
    · have h := h.1 hc
      refine v_aload_n C 0 rfl dX6_readClause_110 ?_
      refine v_callV C [] (k_X6_readCar M1 _ h) yX6_readCar_k ml_X6_73 (rcv5 kb3 kd3) rfl rfl (Nat.le_of_ble_eq_true rfl) ⟨by decide, by decide⟩ dX6_readClause_111 (fun M3 h => ?_)
      refine v_goto C 121 (by decide) dX6_readClause_114 ?_
      exact V.sub [0] rfl h
  · have h := h.1 hc
    refine v_aload_n C 0 rfl dX6_readClause_97 ?_
    refine v_callV C [] (k_X6_readTown M1 _ h) yX6_readTown_k ml_X6_70 (rcv5 kb3 kd3) rfl rfl (Nat.le_of_ble_eq_true rfl) ⟨by decide, by decide⟩ dX6_readClause_98 (fun M4 h => ?_)
    refine v_goto C 121 (by decide) dX6_readClause_101 ?_
    exact V.sub [0] rfl h
set_option maxRecDepth 4000 in
theorem wk_X6_readClause_121 {w : Wx} {G : Gx} {Q : Mem → Prop} (C : Cx w G cX6_readClause RX6 5 109 2) (Rt : ∀ (pc : Nat) (lv : List (Nat × Value)) (M0 : Mem), decode cX6_readClause pc = .ok (.return_, 1) → Q M0 → V w G pc lv [] M0) (k_X6_letter : Ct_X6_letter w G.2.1) (k_X6_blame : Ct_X6_blame w G.2.1) (k_X6_readFollowing : Ct_X6_readFollowing w G.2.1) (k_X6_readCar : Ct_X6_readCar w G.2.1) (k_X6_readTown : Ct_X6_readTown w G.2.1) (k_X6_readSemicolon : Ct_X6_readSemicolon w G.2.1) (M : Mem) (h : bd_X6_readClause_121 Q (fun (x1 : Int32) (M : Mem) => V w G 40 [(0, .ref (w.2.1 3)), (1, .int x1)] [] M) (fun (x1 : Int32) (M : Mem) => V w G 81 [(0, .ref (w.2.1 3)), (1, .int x1)] [] M) (fun (M : Mem) => V w G 121 [(0, .ref (w.2.1 3))] [] M) M) : V w G 121 [(0, .ref (w.2.1 3))] [] M := by
  unfold bd_X6_readClause_121 at h
  refine v_aload_n C 0 rfl dX6_readClause_121 ?_
  refine v_callV C [] (k_X6_readSemicolon M _ h) yX6_readSemicolon_k ml_X6_79 (rcv5 kb3 kd3) rfl rfl (Nat.le_of_ble_eq_true rfl) ⟨by decide, by decide⟩ dX6_readClause_122 (fun M1 h => ?_)
  exact Rt _ _ _ dX6_readClause_125 h
theorem mt_X6_readClause {w : Wx} {l : Launch} (k_X6_letter : Ct_X6_letter w l) (k_X6_blame : Ct_X6_blame w l) (k_X6_readFollowing : Ct_X6_readFollowing w l) (k_X6_readCar : Ct_X6_readCar w l) (k_X6_readTown : Ct_X6_readTown w l) (k_X6_readSemicolon : Ct_X6_readSemicolon w l) : Ct_X6_readClause w l := by
  intro M Q h
  refine met_v (by decide +kernel) (Nat.le_of_ble_eq_true rfl) (fun G C hG Rt => ?_)
  subst hG
  exact wk_X6_readClause C Rt k_X6_letter k_X6_blame k_X6_readFollowing k_X6_readCar k_X6_readTown k_X6_readSemicolon M (h _ _ _ (fun x1 M h => wk_X6_readClause_40 C Rt k_X6_letter k_X6_blame k_X6_readFollowing k_X6_readCar k_X6_readTown k_X6_readSemicolon x1 M h) (fun x1 M h => wk_X6_readClause_81 C Rt k_X6_letter k_X6_blame k_X6_readFollowing k_X6_readCar k_X6_readTown k_X6_readSemicolon x1 M h) (fun M h => wk_X6_readClause_121 C Rt k_X6_letter k_X6_blame k_X6_readFollowing k_X6_readCar k_X6_readTown k_X6_readSemicolon M h))
theorem ct_X6_readClause (w : Wx) (l : Launch) : Ct_X6_readClause w l := mt_X6_readClause (ct_X6_letter w l) (ct_X6_blame w l) (ct_X6_readFollowing w l) (ct_X6_readCar w l) (ct_X6_readTown w l) (ct_X6_readSemicolon w l)
set_option maxRecDepth 4000 in
theorem wk_X6_readAll {w : Wx} {G : Gx} {Q : Mem → Prop} (C : Cx w G cX6_readAll RX6 6 130 2) (Rt : ∀ (pc : Nat) (lv : List (Nat × Value)) (M0 : Mem), decode cX6_readAll pc = .ok (.return_, 1) → Q M0 → V w G pc lv [] M0) (k_X7_clear : Ct_X7_clear w G.2.1) (k_X6_skipBlanks : Ct_X6_skipBlanks w G.2.1) (k_X6_readClause : Ct_X6_readClause w G.2.1) (M : Mem) (h : bd_X6_readAll Q (fun (x1 : Int32) (M : Mem) => V w G 38 [(0, .ref (w.2.1 3)), (1, .int x1)] [] M) M) : V w G 0 [(0, .ref (w.2.1 3))] [] M := by
  unfold bd_X6_readAll at h
  refine v_aload_n C 0 rfl dX6_readAll_0 ?_
  refine g5_0 C kb3 kd3 fl_X6_12 dX6_readAll_1 ?_
  refine v_callV C [] (k_X7_clear 4 M sc4 _ h) yX7_clear_k ml_X6_41 (rcv6 sc4.l0 sc4.k0) rfl rfl (Nat.le_of_ble_eq_true rfl) ⟨by decide, by decide⟩ dX6_readAll_4 (fun M1 h => ?_)
  refine v_aload_n C 0 rfl dX6_readAll_7 ?_
  refine v_kc C (0) (by decide) dX6_readAll_8 ?_
  refine p5_1 C kb3 kd3 fl_X6_18 dX6_readAll_9 (fun M2 e2 => ?_)
  have h := h M2 e2
  refine v_aload_n C 0 rfl dX6_readAll_12 ?_
  refine v_kc C (0) (by decide) dX6_readAll_13 ?_
  refine p5_2 C kb3 kd3 fl_X6_22 dX6_readAll_14 (fun M3 e3 => ?_)
  have h := h M3 e3
  refine v_aload_n C 0 rfl dX6_readAll_17 ?_
  refine v_kc C (0) (by decide) dX6_readAll_18 ?_
  refine p5_3 C kb3 kd3 fl_X6_25 dX6_readAll_19 (fun M4 e4 => ?_)
  have h := h M4 e4
  refine v_aload_n C 0 rfl dX6_readAll_22 ?_
  refine v_kc C (-1) (by decide) dX6_readAll_23 ?_
  refine p5_4 C kb3 kd3 fl_X6_28 dX6_readAll_24 (fun M5 e5 => ?_)
  have h := h M5 e5
  refine v_aload_n C 0 rfl dX6_readAll_27 ?_
  refine v_kc C (0) (by decide) dX6_readAll_28 ?_
  refine p5_6 C kb3 kd3 fl_X6_31 dX6_readAll_29 (fun M6 e6 => ?_)
  have h := h M6 e6
  refine v_aload_n C 0 rfl dX6_readAll_32 ?_
  refine v_callV C [] (k_X6_skipBlanks M6 _ h) yX6_skipBlanks_k ml_X6_44 (rcv5 kb3 kd3) rfl rfl (Nat.le_of_ble_eq_true rfl) ⟨by decide, by decide⟩ dX6_readAll_33 (fun M7 h => ?_)
  refine v_kc C (0) (by decide) dX6_readAll_36 ?_
  refine v_istore_n C [(1, .int ((0 : Int32))), (0, .ref (w.2.1 3))] rfl (by decide) dX6_readAll_37 ?_
  exact V.sub [1, 0] rfl h
set_option maxRecDepth 4000 in
theorem wk_X6_readAll_38 {w : Wx} {G : Gx} {Q : Mem → Prop} (C : Cx w G cX6_readAll RX6 6 130 2) (Rt : ∀ (pc : Nat) (lv : List (Nat × Value)) (M0 : Mem), decode cX6_readAll pc = .ok (.return_, 1) → Q M0 → V w G pc lv [] M0) (k_X7_clear : Ct_X7_clear w G.2.1) (k_X6_skipBlanks : Ct_X6_skipBlanks w G.2.1) (k_X6_readClause : Ct_X6_readClause w G.2.1) (x1 : Int32) (M : Mem) (h : bd_X6_readAll_38 Q (fun (x1 : Int32) (M : Mem) => V w G 38 [(0, .ref (w.2.1 3)), (1, .int x1)] [] M) x1 M) : V w G 38 [(0, .ref (w.2.1 3)), (1, .int x1)] [] M := by
  unfold bd_X6_readAll_38 at h
  refine v_iload_n C 1 rfl dX6_readAll_38 ?_
  refine v_ks C (240) (by decide) dX6_readAll_39 ?_
  refine v_icmp_gt C 80 (by decide) dX6_readAll_42 (fun hc => ?_) (fun hc => ?_)
  · have h := h.1 hc
    exact Rt _ _ _ dX6_readAll_80 h
  · have h := h.2 hc
    refine v_aload_n C 0 rfl dX6_readAll_45 ?_
    refine g5_3 C kb3 kd3 fl_X6_25 dX6_readAll_46 ?_
    refine v_if_ne C 80 (by decide) dX6_readAll_49 (fun hc => ?_) (fun hc => ?_)
    · have h := h.2 hc
      exact Rt _ _ _ dX6_readAll_80 h
    · have h := h.1 hc
      refine v_aload_n C 0 rfl dX6_readAll_52 ?_
      refine g5_6 C kb3 kd3 fl_X6_31 dX6_readAll_53 ?_
      refine v_aload_n C 0 rfl dX6_readAll_56 ?_
      refine g5_5 C kb3 kd3 fl_X6_37 dX6_readAll_57 ?_
      refine g7_1 C kb1 kd1 fl_X6_47 dX6_readAll_60 ?_
      refine v_icmp_ge C 80 (by decide) dX6_readAll_63 (fun hc => ?_) (fun hc => ?_)
      · have h := h.1 hc
        exact Rt _ _ _ dX6_readAll_80 h
      · have h := h.2 hc
        refine v_aload_n C 0 rfl dX6_readAll_66 ?_
        refine v_callV C [] (k_X6_readClause M _ h) yX6_readClause_k ml_X6_52 (rcv5 kb3 kd3) rfl rfl (Nat.le_of_ble_eq_true rfl) ⟨by decide, by decide⟩ dX6_readAll_67 (fun M1 h => ?_)
        refine v_aload_n C 0 rfl dX6_readAll_70 ?_
        refine v_callV C [] (k_X6_skipBlanks M1 _ h) yX6_skipBlanks_k ml_X6_44 (rcv5 kb3 kd3) rfl rfl (Nat.le_of_ble_eq_true rfl) ⟨by decide, by decide⟩ dX6_readAll_71 (fun M2 h => ?_)
        refine v_iinc C (j := 1) [(1, .int (x1 + 1)), (0, .ref (w.2.1 3))] rfl (x1 + 1) rfl rfl (by decide) dX6_readAll_74 ?_
        refine v_goto C 38 (by decide) dX6_readAll_77 ?_
        exact V.sub [1, 0] rfl h
theorem mt_X6_readAll {w : Wx} {l : Launch} (k_X7_clear : Ct_X7_clear w l) (k_X6_skipBlanks : Ct_X6_skipBlanks w l) (k_X6_readClause : Ct_X6_readClause w l) : Ct_X6_readAll w l := by
  intro M Q h
  refine met_v (by decide +kernel) (Nat.le_of_ble_eq_true rfl) (fun G C hG Rt => ?_)
  subst hG
  exact wk_X6_readAll C Rt k_X7_clear k_X6_skipBlanks k_X6_readClause M (h _ (fun x1 M h => wk_X6_readAll_38 C Rt k_X7_clear k_X6_skipBlanks k_X6_readClause x1 M h))
theorem ct_X6_readAll (w : Wx) (l : Launch) : Ct_X6_readAll w l := mt_X6_readAll (ct_X7_clear w l) (ct_X6_skipBlanks w l) (ct_X6_readClause w l)
set_option maxRecDepth 4000 in
theorem wk_X7_copyFrom {w : Wx} {G : Gx} {Q : Mem → Prop} (C : Cx w G cX7_copyFrom RX7 1 40 2) (Rt : ∀ (pc : Nat) (lv : List (Nat × Value)) (M0 : Mem), decode cX7_copyFrom pc = .ok (.return_, 1) → Q M0 → V w G pc lv [] M0) (b : Nat) (d : Nat) (hb : Sc b) (hd : Sc d) (M : Mem) (h : bd_X7_copyFrom Q b d M) : V w G 0 [(0, .ref (w.2.1 b)), (1, .ref (w.2.1 d))] [] M := by
  unfold bd_X7_copyFrom at h
  refine v_aload_n C 0 rfl dX7_copyFrom_0 ?_
  refine v_aload_n C 1 rfl dX7_copyFrom_1 ?_
  refine g6_0 C hd.l0 hd.k0 fl_X7_9 dX7_copyFrom_2 ?_
  refine p6_0 C hb.l0 hb.k0 fl_X7_9 dX7_copyFrom_5 (fun M1 e1 => ?_)
  have h := h M1 e1
  refine v_aload_n C 0 rfl dX7_copyFrom_8 ?_
  refine v_aload_n C 1 rfl dX7_copyFrom_9 ?_
  refine g6_1 C hd.l0 hd.k0 fl_X7_15 dX7_copyFrom_10 ?_
  refine p6_1 C hb.l0 hb.k0 fl_X7_15 dX7_copyFrom_13 (fun M2 e2 => ?_)
  have h := h M2 e2
  refine v_aload_n C 1 rfl dX7_copyFrom_16 ?_
  refine g6_2 C hd.l0 hd.k0 fl_X7_18 dX7_copyFrom_17 ?_
  refine v_kc C (0) (by decide) dX7_copyFrom_20 ?_
  refine v_aload_n C 0 rfl dX7_copyFrom_21 ?_
  refine g6_2 C hb.l0 hb.k0 fl_X7_18 dX7_copyFrom_22 ?_
  refine v_kc C (0) (by decide) dX7_copyFrom_25 ?_
  refine v_kb C (8) (by decide) dX7_copyFrom_26 ?_
  refine v_copy8 C ml_X7_37 hd.l1 hd.k1 hd.n1 hb.l1 hb.k1 hb.n1 (by decide) (Nat.le_of_ble_eq_true rfl) dX7_copyFrom_28 (fun M3 e3 => ?_)
  have h := h M3 e3
  refine v_aload_n C 1 rfl dX7_copyFrom_31 ?_
  refine g6_3 C hd.l0 hd.k0 fl_X7_22 dX7_copyFrom_32 ?_
  refine v_kc C (0) (by decide) dX7_copyFrom_35 ?_
  refine v_aload_n C 0 rfl dX7_copyFrom_36 ?_
  refine g6_3 C hb.l0 hb.k0 fl_X7_22 dX7_copyFrom_37 ?_
  refine v_kc C (0) (by decide) dX7_copyFrom_40 ?_
  refine v_kb C (8) (by decide) dX7_copyFrom_41 ?_
  refine v_copy8 C ml_X7_37 hd.l2 hd.k2 hd.n2 hb.l2 hb.k2 hb.n2 (by decide) (Nat.le_of_ble_eq_true rfl) dX7_copyFrom_43 (fun M4 e4 => ?_)
  have h := h M4 e4
  refine v_aload_n C 1 rfl dX7_copyFrom_46 ?_
  refine g6_4 C hd.l0 hd.k0 fl_X7_25 dX7_copyFrom_47 ?_
  refine v_kc C (0) (by decide) dX7_copyFrom_50 ?_
  refine v_aload_n C 0 rfl dX7_copyFrom_51 ?_
  refine g6_4 C hb.l0 hb.k0 fl_X7_25 dX7_copyFrom_52 ?_
  refine v_kc C (0) (by decide) dX7_copyFrom_55 ?_
  refine v_kb C (8) (by decide) dX7_copyFrom_56 ?_
  refine v_copy8 C ml_X7_37 hd.l3 hd.k3 hd.n3 hb.l3 hb.k3 hb.n3 (by decide) (Nat.le_of_ble_eq_true rfl) dX7_copyFrom_58 (fun M5 e5 => ?_)
  have h := h M5 e5
  refine v_aload_n C 1 rfl dX7_copyFrom_61 ?_
  refine g6_5 C hd.l0 hd.k0 fl_X7_28 dX7_copyFrom_62 ?_
  refine v_kc C (0) (by decide) dX7_copyFrom_65 ?_
  refine v_aload_n C 0 rfl dX7_copyFrom_66 ?_
  refine g6_5 C hb.l0 hb.k0 fl_X7_28 dX7_copyFrom_67 ?_
  refine v_kc C (0) (by decide) dX7_copyFrom_70 ?_
  refine v_kb C (8) (by decide) dX7_copyFrom_71 ?_
  refine v_copy8 C ml_X7_37 hd.l4 hd.k4 hd.n4 hb.l4 hb.k4 hb.n4 (by decide) (Nat.le_of_ble_eq_true rfl) dX7_copyFrom_73 (fun M6 e6 => ?_)
  have h := h M6 e6
  refine v_aload_n C 1 rfl dX7_copyFrom_76 ?_
  refine g6_6 C hd.l0 hd.k0 fl_X7_31 dX7_copyFrom_77 ?_
  refine v_kc C (0) (by decide) dX7_copyFrom_80 ?_
  refine v_aload_n C 0 rfl dX7_copyFrom_81 ?_
  refine g6_6 C hb.l0 hb.k0 fl_X7_31 dX7_copyFrom_82 ?_
  refine v_kc C (0) (by decide) dX7_copyFrom_85 ?_
  refine v_kb C (8) (by decide) dX7_copyFrom_86 ?_
  refine v_copy8 C ml_X7_37 hd.l5 hd.k5 hd.n5 hb.l5 hb.k5 hb.n5 (by decide) (Nat.le_of_ble_eq_true rfl) dX7_copyFrom_88 (fun M7 e7 => ?_)
  have h := h M7 e7
  exact Rt _ _ _ dX7_copyFrom_91 h
theorem mt_X7_copyFrom {w : Wx} {l : Launch} : Ct_X7_copyFrom w l := by
  intro b d M hb hd Q h
  refine met_v (by decide +kernel) (Nat.le_of_ble_eq_true rfl) (fun G C hG Rt => ?_)
  subst hG
  exact wk_X7_copyFrom C Rt b d hb hd M (h)
theorem ct_X7_copyFrom (w : Wx) (l : Launch) : Ct_X7_copyFrom w l := mt_X7_copyFrom
set_option maxRecDepth 4000 in
theorem wk_X5_forget {w : Wx} {G : Gx} {Q : Mem → Prop} (C : Cx w G cX5_forget RX5 0 0 2) (Rt : ∀ (pc : Nat) (lv : List (Nat × Value)) (M0 : Mem), decode cX5_forget pc = .ok (.return_, 1) → Q M0 → V w G pc lv [] M0) (M : Mem) (h : bd_X5_forget Q (fun (x1 : Int32) (M : Mem) => V w G 2 [(0, .ref (w.2.1 167)), (1, .int x1)] [] M) M) : V w G 0 [(0, .ref (w.2.1 167))] [] M := by
  unfold bd_X5_forget at h
  refine v_kc C (0) (by decide) dX5_forget_0 ?_
  refine v_istore_n C [(1, .int ((0 : Int32))), (0, .ref (w.2.1 167))] rfl (by decide) dX5_forget_1 ?_
  exact V.sub [1, 0] rfl h
set_option maxRecDepth 4000 in
theorem wk_X5_forget_2 {w : Wx} {G : Gx} {Q : Mem → Prop} (C : Cx w G cX5_forget RX5 0 0 2) (Rt : ∀ (pc : Nat) (lv : List (Nat × Value)) (M0 : Mem), decode cX5_forget pc = .ok (.return_, 1) → Q M0 → V w G pc lv [] M0) (x1 : Int32) (M : Mem) (h : bd_X5_forget_2 Q (fun (x1 : Int32) (M : Mem) => V w G 2 [(0, .ref (w.2.1 167)), (1, .int x1)] [] M) x1 M) : V w G 2 [(0, .ref (w.2.1 167)), (1, .int x1)] [] M := by
  unfold bd_X5_forget_2 at h
  refine v_iload_n C 1 rfl dX5_forget_2 ?_
  refine v_kc C (2) (by decide) dX5_forget_3 ?_
  refine v_icmp_ge C 20 (by decide) dX5_forget_4 (fun hc => ?_) (fun hc => ?_)
  · have h := h.1 hc
    exact Rt _ _ _ dX5_forget_20 h
  · have h := h.2 hc
    refine v_aload_n C 0 rfl dX5_forget_7 ?_
    refine g4_2 C kb167 kd167 fl_X5_21 dX5_forget_8 ?_
    refine v_iload_n C 1 rfl dX5_forget_11 ?_
    refine v_kc C (0) (by decide) dX5_forget_12 ?_
    obtain ⟨s1, h⟩ := h
    refine v_zast C kb170 kd170 ln170 s1 dX5_forget_13 (fun M2 e2 => ?_)
    have h := h M2 e2
    refine v_iinc C (j := 1) [(1, .int (x1 + 1)), (0, .ref (w.2.1 167))] rfl (x1 + 1) rfl rfl (by decide) dX5_forget_14 ?_
    refine v_goto C 2 (by decide) dX5_forget_17 ?_
    exact V.sub [1, 0] rfl h
theorem mt_X5_forget {w : Wx} {l : Launch} : Ct_X5_forget w l := by
  intro M Q h
  refine met_v (by decide +kernel) (Nat.le_of_ble_eq_true rfl) (fun G C hG Rt => ?_)
  subst hG
  exact wk_X5_forget C Rt M (h _ (fun x1 M h => wk_X5_forget_2 C Rt x1 M h))
theorem ct_X5_forget (w : Wx) (l : Launch) : Ct_X5_forget w l := mt_X5_forget
set_option maxRecDepth 4000 in
theorem wk_X4_forget {w : Wx} {G : Gx} {Q : Mem → Prop} (C : Cx w G cX4_forget RX4 0 0 1) (Rt : ∀ (pc : Nat) (lv : List (Nat × Value)) (M0 : Mem), decode cX4_forget pc = .ok (.return_, 1) → Q M0 → V w G pc lv [] M0) (M : Mem) (h : bd_X4_forget Q M) : V w G 0 [(0, .ref (w.2.1 25))] [] M := by
  unfold bd_X4_forget at h
  refine v_aload_n C 0 rfl dX4_forget_0 ?_
  refine v_kc C (0) (by decide) dX4_forget_1 ?_
  refine p3_2 C kb25 kd25 fl_X4_21 dX4_forget_2 (fun M1 e1 => ?_)
  have h := h M1 e1
  exact Rt _ _ _ dX4_forget_5 h
theorem mt_X4_forget {w : Wx} {l : Launch} : Ct_X4_forget w l := by
  intro M Q h
  refine met_v (by decide +kernel) (Nat.le_of_ble_eq_true rfl) (fun G C hG Rt => ?_)
  subst hG
  exact wk_X4_forget C Rt M (h)
theorem ct_X4_forget (w : Wx) (l : Launch) : Ct_X4_forget w l := mt_X4_forget
set_option maxRecDepth 4000 in
theorem wk_X9_town {w : Wx} {G : Gx} {Q : Int32 → Mem → Prop} (C : Cx w G cX9_town RX9 7 151 1) (Rt : ∀ (pc : Nat) (lv : List (Nat × Value)) (r0 : Int32) (M0 : Mem), decode cX9_town pc = .ok (.ireturn, 1) → Q r0 M0 → V w G pc lv [.int r0] M0) (k_X6_readAll : Ct_X6_readAll w G.2.1) (k_X7_copyFrom : Ct_X7_copyFrom w G.2.1) (k_X5_forget : Ct_X5_forget w G.2.1) (k_X4_forget : Ct_X4_forget w G.2.1) (M : Mem) (h : bd_X9_town Q M) : V w G 0 [(0, .ref (w.2.1 0))] [] M := by
  unfold bd_X9_town at h
  refine v_aload_n C 0 rfl dX9_town_0 ?_
  refine g8_1 C kb0 kd0 fl_X9_21 dX9_town_1 ?_
  refine v_callV C [] (k_X6_readAll M _ h) yX6_readAll_k ml_X9_93 (rcv5 kb3 kd3) rfl rfl (Nat.le_of_ble_eq_true rfl) ⟨by decide, by decide⟩ dX9_town_4 (fun M1 h => ?_)
  refine v_aload_n C 0 rfl dX9_town_7 ?_
  refine g8_0 C kb0 kd0 fl_X9_10 dX9_town_8 ?_
  refine v_kc C (0) (by decide) dX9_town_11 ?_
  refine p7_1 C kb1 kd1 fl_X9_86 dX9_town_12 (fun M2 e2 => ?_)
  have h := h M2 e2
  refine v_aload_n C 0 rfl dX9_town_15 ?_
  refine v_aload_n C 0 rfl dX9_town_16 ?_
  refine g8_1 C kb0 kd0 fl_X9_21 dX9_town_17 ?_
  refine g5_4 C kb3 kd3 fl_X9_96 dX9_town_20 ?_
  refine p8_12 C kb0 kd0 fl_X9_82 dX9_town_23 (fun M3 e3 => ?_)
  have h := h M3 e3
  refine v_aload_n C 0 rfl dX9_town_26 ?_
  refine g8_1 C kb0 kd0 fl_X9_21 dX9_town_27 ?_
  refine g5_3 C kb3 kd3 fl_X9_97 dX9_town_30 ?_
  refine v_if_eq C 47 (by decide) dX9_town_33 (fun hc => ?_) (fun hc => ?_)
  · have h := h.1 hc
    refine v_aload_n C 0 rfl dX9_town_47 ?_
    refine v_aload_n C 0 rfl dX9_town_48 ?_
    refine g8_1 C kb0 kd0 fl_X9_21 dX9_town_49 ?_
    refine g5_1 C kb3 kd3 fl_X9_100 dX9_town_52 ?_
    refine p8_10 C kb0 kd0 fl_X9_75 dX9_town_55 (fun M4 e4 => ?_)
    have h := h M4 e4
    refine v_aload_n C 0 rfl dX9_town_58 ?_
    refine v_aload_n C 0 rfl dX9_town_59 ?_
    refine g8_1 C kb0 kd0 fl_X9_21 dX9_town_60 ?_
    refine g5_2 C kb3 kd3 fl_X9_101 dX9_town_63 ?_
    refine p8_11 C kb0 kd0 fl_X9_79 dX9_town_66 (fun M5 e5 => ?_)
    have h := h M5 e5
    refine v_aload_n C 0 rfl dX9_town_69 ?_
    refine g8_2 C kb0 kd0 fl_X9_28 dX9_town_70 ?_
    refine v_aload_n C 0 rfl dX9_town_73 ?_
    refine g8_1 C kb0 kd0 fl_X9_21 dX9_town_74 ?_
    refine g5_0 C kb3 kd3 fl_X9_102 dX9_town_77 ?_
    refine v_callV C [] (k_X7_copyFrom 11 4 M5 sc11 sc4 _ h) yX7_copyFrom_k ml_X9_105 (rcv6 sc11.l0 sc11.k0) rfl rfl (Nat.le_of_ble_eq_true rfl) ⟨by decide, by decide⟩ dX9_town_80 (fun M6 h => ?_)
    refine v_aload_n C 0 rfl dX9_town_83 ?_
    refine g8_6 C kb0 kd0 fl_X9_54 dX9_town_84 ?_
    refine v_kc C (0) (by decide) dX9_town_87 ?_
    refine p1_4 C en185.l0 en185.k0 fl_X9_109 dX9_town_88 (fun M7 e7 => ?_)
    have h := h M7 e7
    refine v_aload_n C 0 rfl dX9_town_91 ?_
    refine g8_7 C kb0 kd0 fl_X9_58 dX9_town_92 ?_
    refine v_kc C (0) (by decide) dX9_town_95 ?_
    refine p1_4 C en189.l0 en189.k0 fl_X9_109 dX9_town_96 (fun M8 e8 => ?_)
    have h := h M8 e8
    refine v_aload_n C 0 rfl dX9_town_99 ?_
    refine g8_5 C kb0 kd0 fl_X9_45 dX9_town_100 ?_
    refine v_callV C [] (k_X5_forget M8 _ h) yX5_forget_k ml_X9_112 (rcv4 kb167 kd167) rfl rfl (Nat.le_of_ble_eq_true rfl) ⟨by decide, by decide⟩ dX9_town_103 (fun M9 h => ?_)
    refine v_aload_n C 0 rfl dX9_town_106 ?_
    refine g8_4 C kb0 kd0 fl_X9_38 dX9_town_107 ?_
    refine v_callV C [] (k_X4_forget M9 _ h) yX4_forget_k ml_X9_115 (rcv3 kb25 kd25) rfl rfl (Nat.le_of_ble_eq_true rfl) ⟨by decide, by decide⟩ dX9_town_110 (fun M10 h => ?_)
    refine v_aload_n C 0 rfl dX9_town_113 ?_
    refine g8_2 C kb0 kd0 fl_X9_28 dX9_town_114 ?_
    refine g6_0 C sc11.l0 sc11.k0 fl_X9_116 dX9_town_117 ?_
    exact Rt _ _ _ _ dX9_town_120 h
  · have h := h.2 hc
    refine v_kb C (-10) (by decide) dX9_town_36 ?_
    refine v_aload_n C 0 rfl dX9_town_38 ?_
    refine g8_1 C kb0 kd0 fl_X9_21 dX9_town_39 ?_
    refine g5_3 C kb3 kd3 fl_X9_97 dX9_town_42 ?_
    refine v_isub C dX9_town_45 ?_
    exact Rt _ _ _ _ dX9_town_46 h
theorem mt_X9_town {w : Wx} {l : Launch} (k_X6_readAll : Ct_X6_readAll w l) (k_X7_copyFrom : Ct_X7_copyFrom w l) (k_X5_forget : Ct_X5_forget w l) (k_X4_forget : Ct_X4_forget w l) : Ct_X9_town w l := by
  intro M Q h
  refine met_i (by decide +kernel) (Nat.le_of_ble_eq_true rfl) (fun G C hG Rt => ?_)
  subst hG
  exact wk_X9_town C Rt k_X6_readAll k_X7_copyFrom k_X5_forget k_X4_forget M (h)
theorem ct_X9_town (w : Wx) (l : Launch) : Ct_X9_town w l := mt_X9_town (ct_X6_readAll w l) (ct_X7_copyFrom w l) (ct_X5_forget w l) (ct_X4_forget w l)
set_option maxRecDepth 4000 in
theorem wk_X9_fault {w : Wx} {G : Gx} {Q : Int32 → Mem → Prop} (C : Cx w G cX9_fault RX9 0 0 1) (Rt : ∀ (pc : Nat) (lv : List (Nat × Value)) (r0 : Int32) (M0 : Mem), decode cX9_fault pc = .ok (.ireturn, 1) → Q r0 M0 → V w G pc lv [.int r0] M0) (M : Mem) (h : bd_X9_fault Q M) : V w G 0 [(0, .ref (w.2.1 0))] [] M := by
  unfold bd_X9_fault at h
  refine v_aload_n C 0 rfl dX9_fault_0 ?_
  refine g8_12 C kb0 kd0 fl_X9_82 dX9_fault_1 ?_
  exact Rt _ _ _ _ dX9_fault_4 h
theorem mt_X9_fault {w : Wx} {l : Launch} : Ct_X9_fault w l := by
  intro M Q h
  refine met_i (by decide +kernel) (Nat.le_of_ble_eq_true rfl) (fun G C hG Rt => ?_)
  subst hG
  exact wk_X9_fault C Rt M (h)
theorem ct_X9_fault (w : Wx) (l : Launch) : Ct_X9_fault w l := mt_X9_fault
set_option maxRecDepth 4000 in
theorem wk_X7_takenCorners {w : Wx} {G : Gx} {Q : Int32 → Mem → Prop} (C : Cx w G cX7_takenCorners RX7 0 0 3) (Rt : ∀ (pc : Nat) (lv : List (Nat × Value)) (r0 : Int32) (M0 : Mem), decode cX7_takenCorners pc = .ok (.ireturn, 1) → Q r0 M0 → V w G pc lv [.int r0] M0) (b : Nat) (hb : Sc b) (M : Mem) (h : bd_X7_takenCorners Q (fun (x1 : Int32) (x2 : Int32) (M : Mem) => V w G 4 [(0, .ref (w.2.1 b)), (1, .int x1), (2, .int x2)] [] M) b M) : V w G 0 [(0, .ref (w.2.1 b))] [] M := by
  unfold bd_X7_takenCorners at h
  refine v_kc C (0) (by decide) dX7_takenCorners_0 ?_
  refine v_istore_n C [(1, .int ((0 : Int32))), (0, .ref (w.2.1 b))] rfl (by decide) dX7_takenCorners_1 ?_
  refine v_kc C (0) (by decide) dX7_takenCorners_2 ?_
  refine v_istore_n C [(2, .int ((0 : Int32))), (1, .int ((0 : Int32))), (0, .ref (w.2.1 b))] rfl (by decide) dX7_takenCorners_3 ?_
  exact V.sub [2, 1, 0] rfl h
set_option maxRecDepth 4000 in
theorem wk_X7_takenCorners_4 {w : Wx} {G : Gx} {Q : Int32 → Mem → Prop} (C : Cx w G cX7_takenCorners RX7 0 0 3) (Rt : ∀ (pc : Nat) (lv : List (Nat × Value)) (r0 : Int32) (M0 : Mem), decode cX7_takenCorners pc = .ok (.ireturn, 1) → Q r0 M0 → V w G pc lv [.int r0] M0) (b : Nat) (hb : Sc b) (x1 : Int32) (x2 : Int32) (M : Mem) (h : bd_X7_takenCorners_4 Q (fun (x1 : Int32) (x2 : Int32) (M : Mem) => V w G 4 [(0, .ref (w.2.1 b)), (1, .int x1), (2, .int x2)] [] M) b x1 x2 M) : V w G 4 [(0, .ref (w.2.1 b)), (1, .int x1), (2, .int x2)] [] M := by
  unfold bd_X7_takenCorners_4 at h
  refine v_iload_n C 2 rfl dX7_takenCorners_4 ?_
  refine v_aload_n C 0 rfl dX7_takenCorners_5 ?_
  refine g6_0 C hb.l0 hb.k0 fl_X7_9 dX7_takenCorners_6 ?_
  refine v_icmp_ge C 29 (by decide) dX7_takenCorners_9 (fun hc => ?_) (fun hc => ?_)
  · have h := h.1 hc
    refine v_iload_n C 1 rfl dX7_takenCorners_29 ?_
    exact Rt _ _ _ _ dX7_takenCorners_30 h
  · have h := h.2 hc
    refine v_iload_n C 1 rfl dX7_takenCorners_12 ?_
    refine v_kc C (1) (by decide) dX7_takenCorners_13 ?_
    refine v_aload_n C 0 rfl dX7_takenCorners_14 ?_
    refine g6_2 C hb.l0 hb.k0 fl_X7_18 dX7_takenCorners_15 ?_
    refine v_iload_n C 2 rfl dX7_takenCorners_18 ?_
    obtain ⟨s1, h⟩ := h
    refine v_iald C hb.l1 hb.k1 hb.n1 s1 dX7_takenCorners_19 ?_
    refine v_ishl C dX7_takenCorners_20 ?_
    refine v_ior C dX7_takenCorners_21 ?_
    refine v_istore_n C [(1, .int (x1 ||| (((1 : Int32)) <<< ((M (b + 1) x2.toNatClampNeg) &&& 31)))), (0, .ref (w.2.1 b)), (2, .int x2)] rfl (by decide) dX7_takenCorners_22 ?_
    refine v_iinc C (j := 2) [(2, .int (x2 + 1)), (1, .int (x1 ||| (((1 : Int32)) <<< ((M (b + 1) x2.toNatClampNeg) &&& 31)))), (0, .ref (w.2.1 b))] rfl (x2 + 1) rfl rfl (by decide) dX7_takenCorners_23 ?_
    refine v_goto C 4 (by decide) dX7_takenCorners_26 ?_
    exact V.sub [2, 1, 0] rfl h
theorem mt_X7_takenCorners {w : Wx} {l : Launch} : Ct_X7_takenCorners w l := by
  intro b M hb Q h
  refine met_i (by decide +kernel) (Nat.le_of_ble_eq_true rfl) (fun G C hG Rt => ?_)
  subst hG
  exact wk_X7_takenCorners C Rt b hb M (h _ (fun x1 x2 M h => wk_X7_takenCorners_4 C Rt b hb x1 x2 M h))
theorem ct_X7_takenCorners (w : Wx) (l : Launch) : Ct_X7_takenCorners w l := mt_X7_takenCorners
