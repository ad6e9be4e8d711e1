set_option maxRecDepth 4000 in
theorem wk_X8_add {w : Wx} {G : Gx} {l : Launch} {Q : Mem → Prop} (C : Cx w G cX8_add RX8 0 0 2) (hG : G.2.1 = l) (Rt : ∀ (pc : Nat) (lv : List (Nat × Value)) (M0 : Mem), decode cX8_add pc = .ok (.return_, 1) → Q M0 → V w G pc lv [] M0) (a1 : Int32) (M : Mem) (h : bd_X8_add Q a1 M) : V w G 0 [(0, .ref (w.2.1 1)), (1, .int a1)] [] M := by
  unfold bd_X8_add at h
  refine v_aload_n C 0 rfl dX8_add_0 ?_
  refine g7_1 C kb1 kd1 fl_X8_15 dX8_add_1 ?_
  refine v_ks C (240) (by decide) dX8_add_4 ?_
  refine v_icmp_ge C 30 (by decide) dX8_add_7 (fun hc => ?_) (fun hc => ?_)
  · have h := h.1 hc
    exact Rt _ _ _ dX8_add_30 h
  · have h := h.2 hc
    refine v_aload_n C 0 rfl dX8_add_10 ?_
    refine g7_0 C kb1 kd1 fl_X8_9 dX8_add_11 ?_
    refine v_aload_n C 0 rfl dX8_add_14 ?_
    refine g7_1 C kb1 kd1 fl_X8_15 dX8_add_15 ?_
    refine v_iload_n C 1 rfl dX8_add_18 ?_
    obtain ⟨s1, h⟩ := h
    refine v_iast C kb2 kd2 ln2 s1 dX8_add_19 (fun M2 e2 => ?_)
    have h := h M2 e2
    refine v_aload_n C 0 rfl dX8_add_20 ?_
    refine v_dup C rfl dX8_add_21 ?_
    refine g7_1 C kb1 kd1 fl_X8_15 dX8_add_22 ?_
    refine v_kc C (1) (by decide) dX8_add_25 ?_
    refine v_iadd C dX8_add_26 ?_
    refine p7_1 C kb1 kd1 fl_X8_15 dX8_add_27 (fun M3 e3 => ?_)
    have h := h M3 e3
    exact Rt _ _ _ dX8_add_30 h
theorem mt_X8_add {w : Wx} {l : Launch} (pu : Pu_X8_add) : Ct_X8_add w l := by
  intro a1 M hp
  refine met_v (by decide +kernel) (Nat.le_of_ble_eq_true rfl) (fun G C hG Rt => ?_)
  exact wk_X8_add C hG Rt a1 M (pu a1 M hp _ rfl)
set_option maxRecDepth 4000 in
theorem wk_X9_feed {w : Wx} {G : Gx} {l : Launch} {Q : Int32 → Mem → Prop} (C : Cx w G cX9_feed RX9 1 21 2) (hG : G.2.1 = l) (Rt : ∀ (pc : Nat) (lv : List (Nat × Value)) (r0 : Int32) (M0 : Mem), decode cX9_feed pc = .ok (.ireturn, 1) → Q r0 M0 → V w G pc lv [.int r0] M0) (k_X8_add : Ct_X8_add w l) (a1 : Int32) (M : Mem) (h : bd_X9_feed Q a1 M) : V w G 0 [(0, .ref (w.2.1 0)), (1, .int a1)] [] M := by
  unfold bd_X9_feed at h
  refine v_iload_n C 1 rfl dX9_feed_0 ?_
  refine v_if_lt C 11 (by decide) dX9_feed_1 (fun hc => ?_) (fun hc => ?_)
  · have h := h.1 hc
    refine v_ldc C kc_X9_85 dX9_feed_11 ?_
    exact Rt _ _ _ _ dX9_feed_13 h
  · have h := h.2 hc
    refine v_iload_n C 1 rfl dX9_feed_4 ?_
    refine v_ks C (255) (by decide) dX9_feed_5 ?_
    refine v_icmp_le C 14 (by decide) dX9_feed_8 (fun hc => ?_) (fun hc => ?_)
    · have h := h.1 hc
      refine v_aload_n C 0 rfl dX9_feed_14 ?_
      refine g8_0 C kb0 kd0 fl_X9_10 dX9_feed_15 ?_
      refine g7_1 C kb1 kd1 fl_X9_86 dX9_feed_18 ?_
      refine v_ks C (240) (by decide) dX9_feed_21 ?_
      refine v_icmp_lt C 30 (by decide) dX9_feed_24 (fun hc => ?_) (fun hc => ?_)
      · have h := h.1 hc
        refine v_aload_n C 0 rfl dX9_feed_30 ?_
        refine g8_0 C kb0 kd0 fl_X9_10 dX9_feed_31 ?_
        refine v_iload_n C 1 rfl dX9_feed_34 ?_
        obtain ⟨s1, h⟩ := h
        refine v_callV C [] (by rw [hG]; exact (k_X8_add a1 M s1)) yX8_add_k ml_X9_90 (rcv7 kb1 kd1) rfl rfl (Nat.le_of_ble_eq_true rfl) ⟨by decide, by decide⟩ dX9_feed_35 (fun M2 em2 => ?_)
        have h := h M2 em2
        refine v_aload_n C 0 rfl dX9_feed_38 ?_
        refine g8_0 C kb0 kd0 fl_X9_10 dX9_feed_39 ?_
        refine g7_1 C kb1 kd1 fl_X9_86 dX9_feed_42 ?_
        exact Rt _ _ _ _ dX9_feed_45 h
      · have h := h.2 hc
        refine v_ldc C kc_X9_89 dX9_feed_27 ?_
        exact Rt _ _ _ _ dX9_feed_29 h
    · have h := h.2 hc
      refine v_ldc C kc_X9_85 dX9_feed_11 ?_
      exact Rt _ _ _ _ dX9_feed_13 h
theorem mt_X9_feed {w : Wx} {l : Launch} (k_X8_add : Ct_X8_add w l) (pu : Pu_X9_feed) : Ct_X9_feed w l := by
  intro a1 M hp
  refine met_i (by decide +kernel) (Nat.le_of_ble_eq_true rfl) (fun G C hG Rt => ?_)
  exact wk_X9_feed C hG Rt k_X8_add a1 M (pu a1 M hp _ ⟨rfl, rfl⟩)
set_option maxRecDepth 4000 in
theorem wk_X7_clear {w : Wx} {G : Gx} {l : Launch} {Q : Mem → Prop} (C : Cx w G cX7_clear RX7 0 0 1) (hG : G.2.1 = l) (Rt : ∀ (pc : Nat) (lv : List (Nat × Value)) (M0 : Mem), decode cX7_clear pc = .ok (.return_, 1) → Q M0 → V w G pc lv [] M0) (b : Nat) (hb : Sc b) (M : Mem) (h : bd_X7_clear Q b M) : V w G 0 [(0, .ref (w.2.1 b))] [] M := by
  unfold bd_X7_clear at h
  refine v_aload_n C 0 rfl dX7_clear_0 ?_
  refine v_kc C (0) (by decide) dX7_clear_1 ?_
  refine p6_0 C hb.l0 hb.k0 fl_X7_9 dX7_clear_2 (fun M1 e1 => ?_)
  have h := h M1 e1
  refine v_aload_n C 0 rfl dX7_clear_5 ?_
  refine v_kc C (0) (by decide) dX7_clear_6 ?_
  refine p6_1 C hb.l0 hb.k0 fl_X7_15 dX7_clear_7 (fun M2 e2 => ?_)
  have h := h M2 e2
  exact Rt _ _ _ dX7_clear_10 h
theorem mt_X7_clear {w : Wx} {l : Launch} (pu : Pu_X7_clear) : Ct_X7_clear w l := by
  intro b M hb hp
  refine met_v (by decide +kernel) (Nat.le_of_ble_eq_true rfl) (fun G C hG Rt => ?_)
  exact wk_X7_clear C hG Rt b hb M (pu b M hb hp _ rfl)
set_option maxRecDepth 4000 in
theorem wk_X8_at {w : Wx} {G : Gx} {l : Launch} {Q : Int32 → Mem → Prop} (C : Cx w G cX8_at RX8 0 0 2) (hG : G.2.1 = l) (Rt : ∀ (pc : Nat) (lv : List (Nat × Value)) (r0 : Int32) (M0 : Mem), decode cX8_at pc = .ok (.ireturn, 1) → Q r0 M0 → V w G pc lv [.int r0] M0) (a1 : Int32) (M : Mem) (h : bd_X8_at Q a1 M) : V w G 0 [(0, .ref (w.2.1 1)), (1, .int a1)] [] M := by
  unfold bd_X8_at at h
  refine v_iload_n C 1 rfl dX8_at_0 ?_
  refine v_if_lt C 21 (by decide) dX8_at_1 (fun hc => ?_) (fun hc => ?_)
  · have h := h.1 hc
    refine v_kc C (-1) (by decide) dX8_at_21 ?_
    exact Rt _ _ _ _ dX8_at_22 h
  · have h := h.2 hc
    refine v_iload_n C 1 rfl dX8_at_4 ?_
    refine v_aload_n C 0 rfl dX8_at_5 ?_
    refine g7_1 C kb1 kd1 fl_X8_15 dX8_at_6 ?_
    obtain ⟨ca1, cb1, h⟩ := h
    have key1 : V w G 22 [(0, .ref (w.2.1 1)), (1, .int a1)] (.int (if (M 1 1) ≤ a1 then (-1 : Int32) else M 2 a1.toNatClampNeg) :: []) M := by
      exact Rt _ _ _ _ dX8_at_22 h
    refine v_icmp_ge C 21 (by decide) dX8_at_9 (fun hc => ?_) (fun hc => ?_)
    · rw [if_pos hc] at key1
      refine v_kc C (-1) (by decide) dX8_at_21 ?_
      exact key1
    · rw [if_neg hc] at key1
      obtain ⟨q0, -⟩ := cb1 hc
      refine v_aload_n C 0 rfl dX8_at_12 ?_
      refine g7_0 C kb1 kd1 fl_X8_9 dX8_at_13 ?_
      refine v_iload_n C 1 rfl dX8_at_16 ?_
      refine v_iald C kb2 kd2 ln2 q0 dX8_at_17 ?_
      refine v_goto C 22 (by decide) dX8_at_18 ?_
      exact key1
theorem mt_X8_at {w : Wx} {l : Launch} (pu : Pu_X8_at) : Ct_X8_at w l := by
  intro a1 M hp
  refine met_i (by decide +kernel) (Nat.le_of_ble_eq_true rfl) (fun G C hG Rt => ?_)
  exact wk_X8_at C hG Rt a1 M (pu a1 M hp _ ⟨rfl, rfl⟩)
set_option maxRecDepth 4000 in
theorem wk_X6_letter {w : Wx} {G : Gx} {l : Launch} {Q : Int32 → Mem → Prop} (C : Cx w G cX6_letter RX6 1 21 1) (hG : G.2.1 = l) (Rt : ∀ (pc : Nat) (lv : List (Nat × Value)) (r0 : Int32) (M0 : Mem), decode cX6_letter pc = .ok (.ireturn, 1) → Q r0 M0 → V w G pc lv [.int r0] M0) (k_X8_at : Ct_X8_at w l) (M : Mem) (h : bd_X6_letter Q M) : V w G 0 [(0, .ref (w.2.1 3))] [] M := by
  unfold bd_X6_letter at h
  refine v_aload_n C 0 rfl dX6_letter_0 ?_
  refine g5_5 C kb3 kd3 fl_X6_37 dX6_letter_1 ?_
  refine v_aload_n C 0 rfl dX6_letter_4 ?_
  refine g5_6 C kb3 kd3 fl_X6_31 dX6_letter_5 ?_
  obtain ⟨s1, h⟩ := h
  refine v_callI C [] (by rw [hG]; exact (k_X8_at (M 3 6) M s1)) yX8_at_k ml_X6_55 (rcv7 kb1 kd1) rfl rfl (Nat.le_of_ble_eq_true rfl) ⟨by decide, by decide⟩ dX6_letter_8 (fun r2 M2 er2 em2 => ?_)
  refine V.eqM em2 ?_
  have h := h r2 er2
  exact Rt _ _ _ _ dX6_letter_11 h
theorem mt_X6_letter {w : Wx} {l : Launch} (k_X8_at : Ct_X8_at w l) (pu : Pu_X6_letter) : Ct_X6_letter w l := by
  intro M hp
  refine met_i (by decide +kernel) (Nat.le_of_ble_eq_true rfl) (fun G C hG Rt => ?_)
  exact wk_X6_letter C hG Rt k_X8_at M (pu M hp _ ⟨rfl, rfl⟩)
set_option maxRecDepth 4000 in
theorem wk_X6_skipBlanks {w : Wx} {G : Gx} {l : Launch} {Q : Mem → Prop} (C : Cx w G cX6_skipBlanks RX6 2 41 2) (hG : G.2.1 = l) (Rt : ∀ (pc : Nat) (lv : List (Nat × Value)) (M0 : Mem), decode cX6_skipBlanks pc = .ok (.return_, 1) → Q M0 → V w G pc lv [] M0) (k_X6_letter : Ct_X6_letter w l) (M : Mem) (h : bd_X6_skipBlanks Q (fun (x1 : Int32) (M : Mem) => V w G 2 [(0, .ref (w.2.1 3)), (1, .int x1)] [] M) M) : V w G 0 [(0, .ref (w.2.1 3))] [] M := by
  unfold bd_X6_skipBlanks at h
  refine v_kc C (0) (by decide) dX6_skipBlanks_0 ?_
  refine v_istore_n C [(1, .int ((0 : Int32))), (0, .ref (w.2.1 3))] rfl (by decide) dX6_skipBlanks_1 ?_
  exact V.sub [1, 0] rfl h
set_option maxRecDepth 4000 in
theorem wk_X6_skipBlanks_2 {w : Wx} {G : Gx} {l : Launch} {Q : Mem → Prop} (C : Cx w G cX6_skipBlanks RX6 2 41 2) (hG : G.2.1 = l) (Rt : ∀ (pc : Nat) (lv : List (Nat × Value)) (M0 : Mem), decode cX6_skipBlanks pc = .ok (.return_, 1) → Q M0 → V w G pc lv [] M0) (k_X6_letter : Ct_X6_letter w l) (x1 : Int32) (M : Mem) (h : bd_X6_skipBlanks_2 Q (fun (x1 : Int32) (M : Mem) => V w G 2 [(0, .ref (w.2.1 3)), (1, .int x1)] [] M) x1 M) : V w G 2 [(0, .ref (w.2.1 3)), (1, .int x1)] [] M := by
  unfold bd_X6_skipBlanks_2 at h
  refine v_iload_n C 1 rfl dX6_skipBlanks_2 ?_
  refine v_ks C (240) (by decide) dX6_skipBlanks_3 ?_
  refine v_icmp_ge C 34 (by decide) dX6_skipBlanks_6 (fun hc => ?_) (fun hc => ?_)
  · have h := h.1 hc
    exact Rt _ _ _ dX6_skipBlanks_34 h
  · have h := h.2 hc
    refine v_aload_n C 0 rfl dX6_skipBlanks_9 ?_
    obtain ⟨s1, h⟩ := h
    refine v_callI C [] (by rw [hG]; exact (k_X6_letter M s1)) yX6_letter_k ml_X6_59 (rcv5 kb3 kd3) rfl rfl (Nat.le_of_ble_eq_true rfl) ⟨by decide, by decide⟩ dX6_skipBlanks_10 (fun r2 M2 er2 em2 => ?_)
    refine V.eqM em2 ?_
    have h := h r2 er2
    refine v_kb C (32) (by decide) dX6_skipBlanks_13 ?_
    refine v_icmp_ne C 34 (by decide) dX6_skipBlanks_15 (fun hc => ?_) (fun hc => ?_)
    · have h := h.2 hc
      exact Rt _ _ _ dX6_skipBlanks_34 h
    · have h := h.1 hc
      refine v_aload_n C 0 rfl dX6_skipBlanks_18 ?_
      refine v_dup C rfl dX6_skipBlanks_19 ?_
      refine g5_6 C kb3 kd3 fl_X6_31 dX6_skipBlanks_20 ?_
      refine v_kc C (1) (by decide) dX6_skipBlanks_23 ?_
      refine v_iadd C dX6_skipBlanks_24 ?_
      refine p5_6 C kb3 kd3 fl_X6_31 dX6_skipBlanks_25 (fun M3 e3 => ?_)
      have h := h M3 e3
      refine v_iinc C (j := 1) [(1, .int (x1 + 1)), (0, .ref (w.2.1 3))] rfl (x1 + 1) rfl rfl (by decide) dX6_skipBlanks_28 ?_
      refine v_goto C 2 (by decide) dX6_skipBlanks_31 ?_
      exact V.sub [1, 0] rfl h
theorem mt_X6_skipBlanks {w : Wx} {l : Launch} (k_X6_letter : Ct_X6_letter w l) (pu : Pu_X6_skipBlanks) : Ct_X6_skipBlanks w l := by
  intro M hp
  refine met_v (by decide +kernel) (Nat.le_of_ble_eq_true rfl) (fun G C hG Rt => ?_)
  exact wk_X6_skipBlanks C hG Rt k_X6_letter M (pu M hp _ _ (fun x1 M h => wk_X6_skipBlanks_2 C hG Rt k_X6_letter x1 M h) rfl)
set_option maxRecDepth 4000 in
theorem wk_X6_blame {w : Wx} {G : Gx} {l : Launch} {Q : Mem → Prop} (C : Cx w G cX6_blame RX6 0 0 3) (hG : G.2.1 = l) (Rt : ∀ (pc : Nat) (lv : List (Nat × Value)) (M0 : Mem), decode cX6_blame pc = .ok (.return_, 1) → Q M0 → V w G pc lv [] M0) (a1 : Int32) (a2 : Int32) (M : Mem) (h : bd_X6_blame Q a1 a2 M) : V w G 0 [(0, .ref (w.2.1 3)), (1, .int a1), (2, .int a2)] [] M := by
  unfold bd_X6_blame at h
  refine v_aload_n C 0 rfl dX6_blame_0 ?_
  refine g5_3 C kb3 kd3 fl_X6_25 dX6_blame_1 ?_
  refine v_if_ne C 17 (by decide) dX6_blame_4 (fun hc => ?_) (fun hc => ?_)
  · have h := h.2 hc
    exact Rt _ _ _ dX6_blame_17 h
  · have h := h.1 hc
    refine v_aload_n C 0 rfl dX6_blame_7 ?_
    refine v_iload_n C 1 rfl dX6_blame_8 ?_
    refine p5_3 C kb3 kd3 fl_X6_25 dX6_blame_9 (fun M1 e1 => ?_)
    have h := h M1 e1
    refine v_aload_n C 0 rfl dX6_blame_12 ?_
    refine v_iload_n C 2 rfl dX6_blame_13 ?_
    refine p5_4 C kb3 kd3 fl_X6_28 dX6_blame_14 (fun M2 e2 => ?_)
    have h := h M2 e2
    exact Rt _ _ _ dX6_blame_17 h
theorem mt_X6_blame {w : Wx} {l : Launch} (pu : Pu_X6_blame) : Ct_X6_blame w l := by
  intro a1 a2 M hp
  refine met_v (by decide +kernel) (Nat.le_of_ble_eq_true rfl) (fun G C hG Rt => ?_)
  exact wk_X6_blame C hG Rt a1 a2 M (pu a1 a2 M hp _ rfl)
set_option maxRecDepth 4000 in
theorem wk_X6_isFigure {w : Wx} {G : Gx} {l : Launch} {Q : Int32 → Mem → Prop} (C : Cx w G cX6_isFigure RX6 2 41 2) (hG : G.2.1 = l) (Rt : ∀ (pc : Nat) (lv : List (Nat × Value)) (r0 : Int32) (M0 : Mem), decode cX6_isFigure pc = .ok (.ireturn, 1) → Q r0 M0 → V w G pc lv [.int r0] M0) (k_X6_letter : Ct_X6_letter w l) (M : Mem) (h : bd_X6_isFigure Q M) : V w G 0 [(0, .ref (w.2.1 3))] [] M := by
  unfold bd_X6_isFigure at h
  refine v_aload_n C 0 rfl dX6_isFigure_0 ?_
  obtain ⟨s1, h⟩ := h
  refine v_callI C [] (by rw [hG]; exact (k_X6_letter M s1)) yX6_letter_k ml_X6_59 (rcv5 kb3 kd3) rfl rfl (Nat.le_of_ble_eq_true rfl) ⟨by decide, by decide⟩ dX6_isFigure_1 (fun r2 M2 er2 em2 => ?_)
  refine V.eqM em2 ?_
  have h := h r2 er2
  refine v_istore_n C [(1, .int r2), (0, .ref (w.2.1 3))] rfl (by decide) dX6_isFigure_4 ?_
  refine v_iload_n C 0 rfl dX6_isFigure_5 ?_
  refine v_kb C (48) (by decide) dX6_isFigure_6 ?_
  refine v_icmp_lt C 21 (by decide) dX6_isFigure_8 (fun hc => ?_) (fun hc => ?_)
  · have h := h.1 hc
    refine v_kc C (0) (by decide) dX6_isFigure_21 ?_
    exact Rt _ _ _ _ dX6_isFigure_22 h
  · have h := h.2 hc
    refine v_iload_n C 0 rfl dX6_isFigure_11 ?_
    refine v_kb C (57) (by decide) dX6_isFigure_12 ?_
    have key3 : V w G 22 [(1, .int r2), (0, .ref (w.2.1 3))] (.int (if ((57 : Int32)) < r2 then (0 : Int32) else (1 : Int32)) :: []) M := by
      exact Rt _ _ _ _ dX6_isFigure_22 h
    refine v_icmp_gt C 21 (by decide) dX6_isFigure_14 (fun hc => ?_) (fun hc => ?_)
    · rw [if_pos hc] at key3
      refine v_kc C (0) (by decide) dX6_isFigure_21 ?_
      exact key3
    · rw [if_neg hc] at key3
      refine v_kc C (1) (by decide) dX6_isFigure_17 ?_
      refine v_goto C 22 (by decide) dX6_isFigure_18 ?_
      exact key3
theorem mt_X6_isFigure {w : Wx} {l : Launch} (k_X6_letter : Ct_X6_letter w l) (pu : Pu_X6_isFigure) : Ct_X6_isFigure w l := by
  intro M hp
  refine met_z (by decide +kernel) (Nat.le_of_ble_eq_true rfl) (pu M hp).1 (fun G C hG Rt => ?_)
  exact wk_X6_isFigure C hG Rt k_X6_letter M ((pu M hp).2 _ ⟨rfl, rfl⟩)
set_option maxRecDepth 4000 in
theorem wk_X6_readNumber {w : Wx} {G : Gx} {l : Launch} {Q : Int32 → Mem → Prop} (C : Cx w G cX6_readNumber RX6 3 62 5) (hG : G.2.1 = l) (Rt : ∀ (pc : Nat) (lv : List (Nat × Value)) (r0 : Int32) (M0 : Mem), decode cX6_readNumber pc = .ok (.ireturn, 1) → Q r0 M0 → V w G pc lv [.int r0] M0) (k_X6_skipBlanks : Ct_X6_skipBlanks w l) (k_X6_isFigure : Ct_X6_isFigure w l) (k_X6_blame : Ct_X6_blame w l) (k_X6_letter : Ct_X6_letter w l) (a1 : Int32) (a2 : Int32) (M : Mem) (h : bd_X6_readNumber Q (fun (x3 : Int32) (x4 : Int32) (M : Mem) => V w G 44 [(0, .ref (w.2.1 3)), (1, .int a1), (2, .int a2), (3, .int x3), (4, .int x4)] [] M) a1 a2 M) : V w G 0 [(0, .ref (w.2.1 3)), (1, .int a1), (2, .int a2)] [] M := by
  unfold bd_X6_readNumber at h
  refine v_aload_n C 0 rfl dX6_readNumber_0 ?_
  refine g5_3 C kb3 kd3 fl_X6_25 dX6_readNumber_1 ?_
  refine v_if_eq C 9 (by decide) dX6_readNumber_4 (fun hc => ?_) (fun hc => ?_)
  · have h := h.1 hc
    refine v_aload_n C 0 rfl dX6_readNumber_9 ?_
    obtain ⟨s1, h⟩ := h
    refine v_callV C [] (by rw [hG]; exact (k_X6_skipBlanks M s1)) yX6_skipBlanks_k ml_X6_44 (rcv5 kb3 kd3) rfl rfl (Nat.le_of_ble_eq_true rfl) ⟨by decide, by decide⟩ dX6_readNumber_10 (fun M2 em2 => ?_)
    have h := h M2 em2
    refine v_aload_n C 0 rfl dX6_readNumber_13 ?_
    obtain ⟨s3, h⟩ := h
    refine v_callI C [] (by rw [hG]; exact (k_X6_isFigure M2 s3)) yX6_isFigure_k ml_X6_104 (rcv5 kb3 kd3) rfl rfl (Nat.le_of_ble_eq_true rfl) ⟨by decide, by decide⟩ dX6_readNumber_14 (fun r4 M4 er4 em4 => ?_)
    refine V.eqM em4 ?_
    have h := h r4 er4
    refine v_if_ne C 31 (by decide) dX6_readNumber_17 (fun hc => ?_) (fun hc => ?_)
    · have h := h.2 hc
      refine v_aload_n C 0 rfl dX6_readNumber_31 ?_
      refine v_aload_n C 0 rfl dX6_readNumber_32 ?_
      refine g5_6 C kb3 kd3 fl_X6_31 dX6_readNumber_33 ?_
      refine p5_7 C kb3 kd3 fl_X6_34 dX6_readNumber_36 (fun M5 e5 => ?_)
      have h := h M5 e5
      refine v_kc C (0) (by decide) dX6_readNumber_39 ?_
      refine v_istore_n C [(3, .int ((0 : Int32))), (0, .ref (w.2.1 3)), (1, .int a1), (2, .int a2)] rfl (by decide) dX6_readNumber_40 ?_
      refine v_kc C (0) (by decide) dX6_readNumber_41 ?_
      refine v_istore C [(4, .int ((0 : Int32))), (3, .int ((0 : Int32))), (0, .ref (w.2.1 3)), (1, .int a1), (2, .int a2)] rfl (by decide) dX6_readNumber_42 ?_
      exact V.sub [2, 3, 4, 1, 0] rfl h
    · have h := h.1 hc
      refine v_aload_n C 0 rfl dX6_readNumber_20 ?_
      refine v_kc C (1) (by decide) dX6_readNumber_21 ?_
      refine v_aload_n C 0 rfl dX6_readNumber_22 ?_
      refine g5_6 C kb3 kd3 fl_X6_31 dX6_readNumber_23 ?_
      obtain ⟨s6, h⟩ := h
      refine v_callV C [] (by rw [hG]; exact (k_X6_blame ((1 : Int32)) (M2 3 6) M2 s6)) yX6_blame_k ml_X6_63 (rcv5 kb3 kd3) rfl rfl (Nat.le_of_ble_eq_true rfl) ⟨by decide, by decide⟩ dX6_readNumber_26 (fun M7 em7 => ?_)
      have h := h M7 em7
      refine v_kc C (-1) (by decide) dX6_readNumber_29 ?_
      exact Rt _ _ _ _ dX6_readNumber_30 h
  · have h := h.2 hc
    refine v_kc C (-1) (by decide) dX6_readNumber_7 ?_
    exact Rt _ _ _ _ dX6_readNumber_8 h
set_option maxRecDepth 4000 in
theorem wk_X6_readNumber_44 {w : Wx} {G : Gx} {l : Launch} {Q : Int32 → Mem → Prop} (C : Cx w G cX6_readNumber RX6 3 62 5) (hG : G.2.1 = l) (Rt : ∀ (pc : Nat) (lv : List (Nat × Value)) (r0 : Int32) (M0 : Mem), decode cX6_readNumber pc = .ok (.ireturn, 1) → Q r0 M0 → V w G pc lv [.int r0] M0) (k_X6_skipBlanks : Ct_X6_skipBlanks w l) (k_X6_isFigure : Ct_X6_isFigure w l) (k_X6_blame : Ct_X6_blame w l) (k_X6_letter : Ct_X6_letter w l) (a1 : Int32) (a2 : Int32) (x3 : Int32) (x4 : Int32) (M : Mem) (h : bd_X6_readNumber_44 Q (fun (x3 : Int32) (x4 : Int32) (M : Mem) => V w G 44 [(0, .ref (w.2.1 3)), (1, .int a1), (2, .int a2), (3, .int x3), (4, .int x4)] [] M) a1 a2 x3 x4 M) : V w G 44 [(0, .ref (w.2.1 3)), (1, .int a1), (2, .int a2), (3, .int x3), (4, .int x4)] [] M := by
  unfold bd_X6_readNumber_44 at h
  refine v_iload C 4 rfl dX6_readNumber_44 ?_
  refine v_ks C (240) (by decide) dX6_readNumber_46 ?_
  refine v_icmp_ge C 93 (by decide) dX6_readNumber_49 (fun hc => ?_) (fun hc => ?_)
  · have h := h.1 hc
    refine v_aload_n C 0 rfl dX6_readNumber_93 ?_
    refine g5_6 C kb3 kd3 fl_X6_31 dX6_readNumber_94 ?_
    refine v_aload_n C 0 rfl dX6_readNumber_97 ?_
    refine g5_7 C kb3 kd3 fl_X6_34 dX6_readNumber_98 ?_
    refine v_isub C dX6_readNumber_101 ?_
    refine v_kb C (6) (by decide) dX6_readNumber_102 ?_
    refine v_icmp_gt C 117 (by decide) dX6_readNumber_104 (fun hc => ?_) (fun hc => ?_)
    · have h := h.1 hc
      refine v_aload_n C 0 rfl dX6_readNumber_117 ?_
      refine v_kc C (2) (by decide) dX6_readNumber_118 ?_
      refine v_aload_n C 0 rfl dX6_readNumber_119 ?_
      refine g5_7 C kb3 kd3 fl_X6_34 dX6_readNumber_120 ?_
      obtain ⟨s1, h⟩ := h
      refine v_callV C [] (by rw [hG]; exact (k_X6_blame ((2 : Int32)) (M 3 7) M s1)) yX6_blame_k ml_X6_63 (rcv5 kb3 kd3) rfl rfl (Nat.le_of_ble_eq_true rfl) ⟨by decide, by decide⟩ dX6_readNumber_123 (fun M2 em2 => ?_)
      have h := h M2 em2
      refine v_kc C (-1) (by decide) dX6_readNumber_126 ?_
      exact Rt _ _ _ _ dX6_readNumber_127 h
    · have h := h.2 hc
      refine v_iload_n C 3 rfl dX6_readNumber_107 ?_
      refine v_iload_n C 1 rfl dX6_readNumber_108 ?_
      refine v_icmp_lt C 117 (by decide) dX6_readNumber_109 (fun hc => ?_) (fun hc => ?_)
      · have h := h.1 hc
        refine v_aload_n C 0 rfl dX6_readNumber_117 ?_
        refine v_kc C (2) (by decide) dX6_readNumber_118 ?_
        refine v_aload_n C 0 rfl dX6_readNumber_119 ?_
        refine g5_7 C kb3 kd3 fl_X6_34 dX6_readNumber_120 ?_
        obtain ⟨s3, h⟩ := h
        refine v_callV C [] (by rw [hG]; exact (k_X6_blame ((2 : Int32)) (M 3 7) M s3)) yX6_blame_k ml_X6_63 (rcv5 kb3 kd3) rfl rfl (Nat.le_of_ble_eq_true rfl) ⟨by decide, by decide⟩ dX6_readNumber_123 (fun M4 em4 => ?_)
        have h := h M4 em4
        refine v_kc C (-1) (by decide) dX6_readNumber_126 ?_
        exact Rt _ _ _ _ dX6_readNumber_127 h
      · have h := h.2 hc
        refine v_iload_n C 3 rfl dX6_readNumber_112 ?_
        refine v_iload_n C 2 rfl dX6_readNumber_113 ?_
        refine v_icmp_le C 128 (by decide) dX6_readNumber_114 (fun hc => ?_) (fun hc => ?_)
        · have h := h.1 hc
          refine v_iload_n C 3 rfl dX6_readNumber_128 ?_
          exact Rt _ _ _ _ dX6_readNumber_129 h
        · have h := h.2 hc
          refine v_aload_n C 0 rfl dX6_readNumber_117 ?_
          refine v_kc C (2) (by decide) dX6_readNumber_118 ?_
          refine v_aload_n C 0 rfl dX6_readNumber_119 ?_
          refine g5_7 C kb3 kd3 fl_X6_34 dX6_readNumber_120 ?_
          obtain ⟨s5, h⟩ := h
          refine v_callV C [] (by rw [hG]; exact (k_X6_blame ((2 : Int32)) (M 3 7) M s5)) yX6_blame_k ml_X6_63 (rcv5 kb3 kd3) rfl rfl (Nat.le_of_ble_eq_true rfl) ⟨by decide, by decide⟩ dX6_readNumber_123 (fun M6 em6 => ?_)
          have h := h M6 em6
          refine v_kc C (-1) (by decide) dX6_readNumber_126 ?_
          exact Rt _ _ _ _ dX6_readNumber_127 h
  · have h := h.2 hc
    refine v_aload_n C 0 rfl dX6_readNumber_52 ?_
    obtain ⟨s7, h⟩ := h
    refine v_callI C [] (by rw [hG]; exact (k_X6_isFigure M s7)) yX6_isFigure_k ml_X6_104 (rcv5 kb3 kd3) rfl rfl (Nat.le_of_ble_eq_true rfl) ⟨by decide, by decide⟩ dX6_readNumber_53 (fun r8 M8 er8 em8 => ?_)
    refine V.eqM em8 ?_
    have h := h r8 er8
    refine v_if_eq C 93 (by decide) dX6_readNumber_56 (fun hc => ?_) (fun hc => ?_)
    · have h := h.1 hc
      refine v_aload_n C 0 rfl dX6_readNumber_93 ?_
      refine g5_6 C kb3 kd3 fl_X6_31 dX6_readNumber_94 ?_
      refine v_aload_n C 0 rfl dX6_readNumber_97 ?_
      refine g5_7 C kb3 kd3 fl_X6_34 dX6_readNumber_98 ?_
      refine v_isub C dX6_readNumber_101 ?_
      refine v_kb C (6) (by decide) dX6_readNumber_102 ?_
      refine v_icmp_gt C 117 (by decide) dX6_readNumber_104 (fun hc => ?_) (fun hc => ?_)
      · have h := h.1 hc
        refine v_aload_n C 0 rfl dX6_readNumber_117 ?_
        refine v_kc C (2) (by decide) dX6_readNumber_118 ?_
        refine v_aload_n C 0 rfl dX6_readNumber_119 ?_
        refine g5_7 C kb3 kd3 fl_X6_34 dX6_readNumber_120 ?_
        obtain ⟨s9, h⟩ := h
        refine v_callV C [] (by rw [hG]; exact (k_X6_blame ((2 : Int32)) (M 3 7) M s9)) yX6_blame_k ml_X6_63 (rcv5 kb3 kd3) rfl rfl (Nat.le_of_ble_eq_true rfl) ⟨by decide, by decide⟩ dX6_readNumber_123 (fun M10 em10 => ?_)
        have h := h M10 em10
        refine v_kc C (-1) (by decide) dX6_readNumber_126 ?_
        exact Rt _ _ _ _ dX6_readNumber_127 h
      · have h := h.2 hc
        refine v_iload_n C 3 rfl dX6_readNumber_107 ?_
        refine v_iload_n C 1 rfl dX6_readNumber_108 ?_
        refine v_icmp_lt C 117 (by decide) dX6_readNumber_109 (fun hc => ?_) (fun hc => ?_)
        · have h := h.1 hc
          refine v_aload_n C 0 rfl dX6_readNumber_117 ?_
          refine v_kc C (2) (by decide) dX6_readNumber_118 ?_
          refine v_aload_n C 0 rfl dX6_readNumber_119 ?_
          refine g5_7 C kb3 kd3 fl_X6_34 dX6_readNumber_120 ?_
          obtain ⟨s11, h⟩ := h
          refine v_callV C [] (by rw [hG]; exact (k_X6_blame ((2 : Int32)) (M 3 7) M s11)) yX6_blame_k ml_X6_63 (rcv5 kb3 kd3) rfl rfl (Nat.le_of_ble_eq_true rfl) ⟨by decide, by decide⟩ dX6_readNumber_123 (fun M12 em12 => ?_)
          have h := h M12 em12
          refine v_kc C (-1) (by decide) dX6_readNumber_126 ?_
          exact Rt _ _ _ _ dX6_readNumber_127 h
        · have h := h.2 hc
          refine v_iload_n C 3 rfl dX6_readNumber_112 ?_
          refine v_iload_n C 2 rfl dX6_readNumber_113 ?_
          refine v_icmp_le C 128 (by decide) dX6_readNumber_114 (fun hc => ?_) (fun hc => ?_)
          · have h := h.1 hc
            refine v_iload_n C 3 rfl dX6_readNumber_128 ?_
            exact Rt _ _ _ _ dX6_readNumber_129 h
          · have h := h.2 hc
            refine v_aload_n C 0 rfl dX6_readNumber_117 ?_
            refine v_kc C (2) (by decide) dX6_readNumber_118 ?_
            refine v_aload_n C 0 rfl dX6_readNumber_119 ?_
            refine g5_7 C kb3 kd3 fl_X6_34 dX6_readNumber_120 ?_
            obtain ⟨s13, h⟩ := h
            refine v_callV C [] (by rw [hG]; exact (k_X6_blame ((2 : Int32)) (M 3 7) M s13)) yX6_blame_k ml_X6_63 (rcv5 kb3 kd3) rfl rfl (Nat.le_of_ble_eq_true rfl) ⟨by decide, by decide⟩ dX6_readNumber_123 (fun M14 em14 => ?_)
            have h := h M14 em14
            refine v_kc C (-1) (by decide) dX6_readNumber_126 ?_
            exact Rt _ _ _ _ dX6_readNumber_127 h
    · have h := h.2 hc
      refine v_iload_n C 3 rfl dX6_readNumber_59 ?_
      refine v_kb C (10) (by decide) dX6_readNumber_60 ?_
      refine v_imul C dX6_readNumber_62 ?_
      refine v_aload_n C 0 rfl dX6_readNumber_63 ?_
      obtain ⟨s15, h⟩ := h
      refine v_callI C [.int (x3 * ((10 : Int32)))] (by rw [hG]; exact (k_X6_letter M s15)) yX6_letter_k ml_X6_59 (rcv5 kb3 kd3) rfl rfl (Nat.le_of_ble_eq_true rfl) ⟨by decide, by decide⟩ dX6_readNumber_64 (fun r16 M16 er16 em16 => ?_)
      refine V.eqM em16 ?_
      have h := h r16 er16
      refine v_iadd C dX6_readNumber_67 ?_
      refine v_kb C (48) (by decide) dX6_readNumber_68 ?_
      refine v_isub C dX6_readNumber_70 ?_
      refine v_ldc C kc_X6_108 dX6_readNumber_71 ?_
      refine v_mmin C ml_X6_109 ms_min m_mathi mc_min (by decide) (Nat.le_of_ble_eq_true rfl) dX6_readNumber_73 ?_
      refine v_istore_n C [(3, .int (if ((1000000 : Int32)) < (((x3 * ((10 : Int32))) + r16) - ((48 : Int32))) then ((1000000 : Int32)) else (((x3 * ((10 : Int32))) + r16) - ((48 : Int32))))), (0, .ref (w.2.1 3)), (1, .int a1), (2, .int a2), (4, .int x4)] rfl (by decide) dX6_readNumber_76 ?_
      refine v_aload_n C 1 rfl dX6_readNumber_77 ?_
      refine v_dup C rfl dX6_readNumber_78 ?_
      refine g5_6 C kb3 kd3 fl_X6_31 dX6_readNumber_79 ?_
      refine v_kc C (1) (by decide) dX6_readNumber_82 ?_
      refine v_iadd C dX6_readNumber_83 ?_
      refine p5_6 C kb3 kd3 fl_X6_31 dX6_readNumber_84 (fun M17 e17 => ?_)
      have h := h M17 e17
      refine v_iinc C (j := 4) [(4, .int (x4 + 1)), (3, .int (if ((1000000 : Int32)) < (((x3 * ((10 : Int32))) + r16) - ((48 : Int32))) then ((1000000 : Int32)) else (((x3 * ((10 : Int32))) + r16) - ((48 : Int32))))), (0, .ref (w.2.1 3)), (1, .int a1), (2, .int a2)] rfl (x4 + 1) rfl rfl (by decide) dX6_readNumber_87 ?_
      refine v_goto C 44 (by decide) dX6_readNumber_90 ?_
      exact V.sub [2, 3, 4, 1, 0] rfl h
theorem mt_X6_readNumber {w : Wx} {l : Launch} (k_X6_skipBlanks : Ct_X6_skipBlanks w l) (k_X6_isFigure : Ct_X6_isFigure w l) (k_X6_blame : Ct_X6_blame w l) (k_X6_letter : Ct_X6_letter w l) (pu : Pu_X6_readNumber) : Ct_X6_readNumber w l := by
  intro a1 a2 M hp
  refine met_i (by decide +kernel) (Nat.le_of_ble_eq_true rfl) (fun G C hG Rt => ?_)
  exact wk_X6_readNumber C hG Rt k_X6_skipBlanks k_X6_isFigure k_X6_blame k_X6_letter a1 a2 M (pu a1 a2 M hp _ _ (fun x3 x4 M h => wk_X6_readNumber_44 C hG Rt k_X6_skipBlanks k_X6_isFigure k_X6_blame k_X6_letter a1 a2 x3 x4 M h) ⟨rfl, rfl⟩)
set_option maxRecDepth 4000 in
theorem wk_X6_readFollowing {w : Wx} {G : Gx} {l : Launch} {Q : Mem → Prop} (C : Cx w G cX6_readFollowing RX6 4 86 3) (hG : G.2.1 = l) (Rt : ∀ (pc : Nat) (lv : List (Nat × Value)) (M0 : Mem), decode cX6_readFollowing pc = .ok (.return_, 1) → Q M0 → V w G pc lv [] M0) (k_X6_readNumber : Ct_X6_readNumber w l) (k_X6_blame : Ct_X6_blame w l) (M : Mem) (h : bd_X6_readFollowing Q (fun (x1 : Int32) (M : Mem) => V w G 44 [(0, .ref (w.2.1 3)), (1, .int x1)] [] M) (fun (x1 : Int32) (x2 : Int32) (M : Mem) => V w G 80 [(0, .ref (w.2.1 3)), (1, .int x1), (2, .int x2)] [] M) M) : V w G 0 [(0, .ref (w.2.1 3))] [] M := by
  unfold bd_X6_readFollowing at h
  refine v_aload_n C 0 rfl dX6_readFollowing_0 ?_
  refine v_kc C (0) (by decide) dX6_readFollowing_1 ?_
  refine v_aload_n C 0 rfl dX6_readFollowing_2 ?_
  refine g5_0 C kb3 kd3 fl_X6_12 dX6_readFollowing_3 ?_
  refine g6_0 C sc4.l0 sc4.k0 fl_X6_67 dX6_readFollowing_6 ?_
  refine v_kc C (1) (by decide) dX6_readFollowing_9 ?_
  refine v_isub C dX6_readFollowing_10 ?_
  obtain ⟨s1, h⟩ := h
  refine v_callI C [] (by rw [hG]; exact (k_X6_readNumber ((0 : Int32)) ((M 4 0) - ((1 : Int32))) M s1)) yX6_readNumber_k ml_X6_82 (rcv5 kb3 kd3) rfl rfl (Nat.le_of_ble_eq_true rfl) ⟨by decide, by decide⟩ dX6_readFollowing_11 (fun r2 M2 er2 em2 => ?_)
  have h := h r2 M2 er2 em2
  refine v_istore_n C [(1, .int r2), (0, .ref (w.2.1 3))] rfl (by decide) dX6_readFollowing_14 ?_
  refine v_aload_n C 1 rfl dX6_readFollowing_15 ?_
  refine g5_3 C kb3 kd3 fl_X6_25 dX6_readFollowing_16 ?_
  refine v_if_ne C 44 (by decide) dX6_readFollowing_19 (fun hc => ?_) (fun hc => ?_)
  · have h := h.2 hc
    exact V.sub [1, 0] rfl h
  · have h := h.1 hc
    refine v_aload_n C 1 rfl dX6_readFollowing_22 ?_
    refine g5_0 C kb3 kd3 fl_X6_12 dX6_readFollowing_23 ?_
    refine g6_3 C sc4.l0 sc4.k0 fl_X6_100 dX6_readFollowing_26 ?_
    refine v_iload_n C 0 rfl dX6_readFollowing_29 ?_
    obtain ⟨s3, h⟩ := h
    refine v_iald C sc4.l2 sc4.k2 sc4.n2 s3 dX6_readFollowing_30 ?_
    refine v_kc C (-1) (by decide) dX6_readFollowing_31 ?_
    refine v_icmp_eq C 44 (by decide) dX6_readFollowing_32 (fun hc => ?_) (fun hc => ?_)
    · have h := h.1 hc
      exact V.sub [1, 0] rfl h
    · have h := h.2 hc
      refine v_aload_n C 1 rfl dX6_readFollowing_35 ?_
      refine v_kc C (4) (by decide) dX6_readFollowing_36 ?_
      refine v_aload_n C 1 rfl dX6_readFollowing_37 ?_
      refine g5_7 C kb3 kd3 fl_X6_34 dX6_readFollowing_38 ?_
      obtain ⟨s4, h⟩ := h
      refine v_callV C [] (by rw [hG]; exact (k_X6_blame ((4 : Int32)) (M2 3 7) M2 s4)) yX6_blame_k ml_X6_63 (rcv5 kb3 kd3) rfl rfl (Nat.le_of_ble_eq_true rfl) ⟨by decide, by decide⟩ dX6_readFollowing_41 (fun M5 em5 => ?_)
      have h := h M5 em5
      exact V.sub [1, 0] rfl h
set_option maxRecDepth 4000 in
theorem wk_X6_readFollowing_44 {w : Wx} {G : Gx} {l : Launch} {Q : Mem → Prop} (C : Cx w G cX6_readFollowing RX6 4 86 3) (hG : G.2.1 = l) (Rt : ∀ (pc : Nat) (lv : List (Nat × Value)) (M0 : Mem), decode cX6_readFollowing pc = .ok (.return_, 1) → Q M0 → V w G pc lv [] M0) (k_X6_readNumber : Ct_X6_readNumber w l) (k_X6_blame : Ct_X6_blame w l) (x1 : Int32) (M : Mem) (h : bd_X6_readFollowing_44 Q (fun (x1 : Int32) (M : Mem) => V w G 44 [(0, .ref (w.2.1 3)), (1, .int x1)] [] M) (fun (x1 : Int32) (x2 : Int32) (M : Mem) => V w G 80 [(0, .ref (w.2.1 3)), (1, .int x1), (2, .int x2)] [] M) x1 M) : V w G 44 [(0, .ref (w.2.1 3)), (1, .int x1)] [] M := by
  unfold bd_X6_readFollowing_44 at h
  refine v_aload_n C 0 rfl dX6_readFollowing_44 ?_
  refine v_kc C (0) (by decide) dX6_readFollowing_45 ?_
  refine v_aload_n C 0 rfl dX6_readFollowing_46 ?_
  refine g5_0 C kb3 kd3 fl_X6_12 dX6_readFollowing_47 ?_
  refine g6_0 C sc4.l0 sc4.k0 fl_X6_67 dX6_readFollowing_50 ?_
  refine v_kc C (1) (by decide) dX6_readFollowing_53 ?_
  refine v_isub C dX6_readFollowing_54 ?_
  obtain ⟨s1, h⟩ := h
  refine v_callI C [] (by rw [hG]; exact (k_X6_readNumber ((0 : Int32)) ((M 4 0) - ((1 : Int32))) M s1)) yX6_readNumber_k ml_X6_82 (rcv5 kb3 kd3) rfl rfl (Nat.le_of_ble_eq_true rfl) ⟨by decide, by decide⟩ dX6_readFollowing_55 (fun r2 M2 er2 em2 => ?_)
  have h := h r2 M2 er2 em2
  refine v_istore_n C [(2, .int r2), (0, .ref (w.2.1 3)), (1, .int x1)] rfl (by decide) dX6_readFollowing_58 ?_
  refine v_aload_n C 1 rfl dX6_readFollowing_59 ?_
  refine g5_3 C kb3 kd3 fl_X6_25 dX6_readFollowing_60 ?_
  refine v_if_ne C 80 (by decide) dX6_readFollowing_63 (fun hc => ?_) (fun hc => ?_)
  · have h := h.2 hc
    exact V.sub [1, 2, 0] rfl h
  · have h := h.1 hc
    refine v_iload_n C 2 rfl dX6_readFollowing_66 ?_
    refine v_iload_n C 0 rfl dX6_readFollowing_67 ?_
    refine v_icmp_ne C 80 (by decide) dX6_readFollowing_68 (fun hc => ?_) (fun hc => ?_)
    · have h := h.2 hc
      exact V.sub [1, 2, 0] rfl h
    · have h := h.1 hc
      refine v_aload_n C 1 rfl dX6_readFollowing_71 ?_
      refine v_kc C (4) (by decide) dX6_readFollowing_72 ?_
      refine v_aload_n C 1 rfl dX6_readFollowing_73 ?_
      refine g5_7 C kb3 kd3 fl_X6_34 dX6_readFollowing_74 ?_
      obtain ⟨s3, h⟩ := h
      refine v_callV C [] (by rw [hG]; exact (k_X6_blame ((4 : Int32)) (M2 3 7) M2 s3)) yX6_blame_k ml_X6_63 (rcv5 kb3 kd3) rfl rfl (Nat.le_of_ble_eq_true rfl) ⟨by decide, by decide⟩ dX6_readFollowing_77 (fun M4 em4 => ?_)
      have h := h M4 em4
      exact V.sub [1, 2, 0] rfl h
set_option maxRecDepth 4000 in
theorem wk_X6_readFollowing_80 {w : Wx} {G : Gx} {l : Launch} {Q : Mem → Prop} (C : Cx w G cX6_readFollowing RX6 4 86 3) (hG : G.2.1 = l) (Rt : ∀ (pc : Nat) (lv : List (Nat × Value)) (M0 : Mem), decode cX6_readFollowing pc = .ok (.return_, 1) → Q M0 → V w G pc lv [] M0) (k_X6_readNumber : Ct_X6_readNumber w l) (k_X6_blame : Ct_X6_blame w l) (x1 : Int32) (x2 : Int32) (M : Mem) (h : bd_X6_readFollowing_80 Q (fun (x1 : Int32) (M : Mem) => V w G 44 [(0, .ref (w.2.1 3)), (1, .int x1)] [] M) (fun (x1 : Int32) (x2 : Int32) (M : Mem) => V w G 80 [(0, .ref (w.2.1 3)), (1, .int x1), (2, .int x2)] [] M) x1 x2 M) : V w G 80 [(0, .ref (w.2.1 3)), (1, .int x1), (2, .int x2)] [] M := by
  unfold bd_X6_readFollowing_80 at h
  refine v_aload_n C 0 rfl dX6_readFollowing_80 ?_
  refine g5_3 C kb3 kd3 fl_X6_25 dX6_readFollowing_81 ?_
  refine v_if_ne C 97 (by decide) dX6_readFollowing_84 (fun hc => ?_) (fun hc => ?_)
  · have h := h.2 hc
    exact Rt _ _ _ dX6_readFollowing_97 h
  · have h := h.1 hc
    refine v_aload_n C 0 rfl dX6_readFollowing_87 ?_
    refine g5_0 C kb3 kd3 fl_X6_12 dX6_readFollowing_88 ?_
    refine g6_3 C sc4.l0 sc4.k0 fl_X6_100 dX6_readFollowing_91 ?_
    refine v_iload_n C 1 rfl dX6_readFollowing_94 ?_
    refine v_iload_n C 2 rfl dX6_readFollowing_95 ?_
    obtain ⟨s1, h⟩ := h
    refine v_iast C sc4.l2 sc4.k2 sc4.n2 s1 dX6_readFollowing_96 (fun M2 e2 => ?_)
    have h := h M2 e2
    exact Rt _ _ _ dX6_readFollowing_97 h
theorem mt_X6_readFollowing {w : Wx} {l : Launch} (k_X6_readNumber : Ct_X6_readNumber w l) (k_X6_blame : Ct_X6_blame w l) (pu : Pu_X6_readFollowing) : Ct_X6_readFollowing w l := by
  intro M hp
  refine met_v (by decide +kernel) (Nat.le_of_ble_eq_true rfl) (fun G C hG Rt => ?_)
  exact wk_X6_readFollowing C hG Rt k_X6_readNumber k_X6_blame M (pu M hp _ _ _ (fun x1 M h => wk_X6_readFollowing_44 C hG Rt k_X6_readNumber k_X6_blame x1 M h) (fun x1 x2 M h => wk_X6_readFollowing_80 C hG Rt k_X6_readNumber k_X6_blame x1 x2 M h) rfl)
set_option maxRecDepth 4000 in
theorem wk_X7_addCar {w : Wx} {G : Gx} {l : Launch} {Q : Mem → Prop} (C : Cx w G cX7_addCar RX7 0 0 3) (hG : G.2.1 = l) (Rt : ∀ (pc : Nat) (lv : List (Nat × Value)) (M0 : Mem), decode cX7_addCar pc = .ok (.return_, 1) → Q M0 → V w G pc lv [] M0) (b : Nat) (a1 : Int32) (a2 : Int32) (hb : Sc b) (M : Mem) (h : bd_X7_addCar Q b a1 a2 M) : V w G 0 [(0, .ref (w.2.1 b)), (1, .int a1), (2, .int a2)] [] M := by
  unfold bd_X7_addCar at h
  refine v_aload_n C 0 rfl dX7_addCar_0 ?_
  refine g6_0 C hb.l0 hb.k0 fl_X7_9 dX7_addCar_1 ?_
  refine v_kb C (8) (by decide) dX7_addCar_4 ?_
  refine v_icmp_ge C 69 (by decide) dX7_addCar_6 (fun hc => ?_) (fun hc => ?_)
  · have h := h.1 hc
    exact Rt _ _ _ dX7_addCar_69 h
  · have h := h.2 hc
    refine v_aload_n C 0 rfl dX7_addCar_9 ?_
    refine g6_2 C hb.l0 hb.k0 fl_X7_18 dX7_addCar_10 ?_
    refine v_aload_n C 0 rfl dX7_addCar_13 ?_
    refine g6_0 C hb.l0 hb.k0 fl_X7_9 dX7_addCar_14 ?_
    refine v_iload_n C 1 rfl dX7_addCar_17 ?_
    obtain ⟨s1, h⟩ := h
    refine v_iast C hb.l1 hb.k1 hb.n1 s1 dX7_addCar_18 (fun M2 e2 => ?_)
    have h := h M2 e2
    refine v_aload_n C 0 rfl dX7_addCar_19 ?_
    refine g6_3 C hb.l0 hb.k0 fl_X7_22 dX7_addCar_20 ?_
    refine v_aload_n C 0 rfl dX7_addCar_23 ?_
    refine g6_0 C hb.l0 hb.k0 fl_X7_9 dX7_addCar_24 ?_
    refine v_kc C (-1) (by decide) dX7_addCar_27 ?_
    obtain ⟨s3, h⟩ := h
    refine v_iast C hb.l2 hb.k2 hb.n2 s3 dX7_addCar_28 (fun M4 e4 => ?_)
    have h := h M4 e4
    refine v_aload_n C 0 rfl dX7_addCar_29 ?_
    refine g6_4 C hb.l0 hb.k0 fl_X7_25 dX7_addCar_30 ?_
    refine v_aload_n C 0 rfl dX7_addCar_33 ?_
    refine g6_0 C hb.l0 hb.k0 fl_X7_9 dX7_addCar_34 ?_
    refine v_iload_n C 2 rfl dX7_addCar_37 ?_
    obtain ⟨s5, h⟩ := h
    refine v_iast C hb.l3 hb.k3 hb.n3 s5 dX7_addCar_38 (fun M6 e6 => ?_)
    have h := h M6 e6
    refine v_aload_n C 0 rfl dX7_addCar_39 ?_
    refine g6_5 C hb.l0 hb.k0 fl_X7_28 dX7_addCar_40 ?_
    refine v_aload_n C 0 rfl dX7_addCar_43 ?_
    refine g6_0 C hb.l0 hb.k0 fl_X7_9 dX7_addCar_44 ?_
    refine v_kc C (0) (by decide) dX7_addCar_47 ?_
    obtain ⟨s7, h⟩ := h
    refine v_iast C hb.l4 hb.k4 hb.n4 s7 dX7_addCar_48 (fun M8 e8 => ?_)
    have h := h M8 e8
    refine v_aload_n C 0 rfl dX7_addCar_49 ?_
    refine g6_6 C hb.l0 hb.k0 fl_X7_31 dX7_addCar_50 ?_
    refine v_aload_n C 0 rfl dX7_addCar_53 ?_
    refine g6_0 C hb.l0 hb.k0 fl_X7_9 dX7_addCar_54 ?_
    refine v_kc C (0) (by decide) dX7_addCar_57 ?_
    obtain ⟨s9, h⟩ := h
    refine v_iast C hb.l5 hb.k5 hb.n5 s9 dX7_addCar_58 (fun M10 e10 => ?_)
    have h := h M10 e10
    refine v_aload_n C 0 rfl dX7_addCar_59 ?_
    refine v_dup C rfl dX7_addCar_60 ?_
    refine g6_0 C hb.l0 hb.k0 fl_X7_9 dX7_addCar_61 ?_
    refine v_kc C (1) (by decide) dX7_addCar_64 ?_
    refine v_iadd C dX7_addCar_65 ?_
    refine p6_0 C hb.l0 hb.k0 fl_X7_9 dX7_addCar_66 (fun M11 e11 => ?_)
    have h := h M11 e11
    exact Rt _ _ _ dX7_addCar_69 h
theorem mt_X7_addCar {w : Wx} {l : Launch} (pu : Pu_X7_addCar) : Ct_X7_addCar w l := by
  intro b a1 a2 M hb hp
  refine met_v (by decide +kernel) (Nat.le_of_ble_eq_true rfl) (fun G C hG Rt => ?_)
  exact wk_X7_addCar C hG Rt b a1 a2 hb M (pu b a1 a2 M hb hp _ rfl)
set_option maxRecDepth 4000 in
theorem wk_X2_count {w : Wx} {G : Gx} {l : Launch} {Q : Int32 → Mem → Prop} (C : Cx w G cX2_count RX2 0 0 2) (hG : G.2.1 = l) (Rt : ∀ (pc : Nat) (lv : List (Nat × Value)) (r0 : Int32) (M0 : Mem), decode cX2_count pc = .ok (.ireturn, 1) → Q r0 M0 → V w G pc lv [.int r0] M0) (a0 : Int32) (M : Mem) (h : bd_X2_count Q (fun (x1 : Int32) (M : Mem) => V w G 2 [(0, .int a0), (1, .int x1)] [] M) a0 M) : V w G 0 [(0, .int a0)] [] M := by
  unfold bd_X2_count at h
  refine v_kc C (1) (by decide) dX2_count_0 ?_
  refine v_istore_n C [(1, .int ((1 : Int32))), (0, .int a0)] rfl (by decide) dX2_count_1 ?_
  exact V.sub [1, 0] rfl h
set_option maxRecDepth 4000 in
theorem wk_X2_count_2 {w : Wx} {G : Gx} {l : Launch} {Q : Int32 → Mem → Prop} (C : Cx w G cX2_count RX2 0 0 2) (hG : G.2.1 = l) (Rt : ∀ (pc : Nat) (lv : List (Nat × Value)) (r0 : Int32) (M0 : Mem), decode cX2_count pc = .ok (.ireturn, 1) → Q r0 M0 → V w G pc lv [.int r0] M0) (a0 : Int32) (x1 : Int32) (M : Mem) (h : bd_X2_count_2 Q (fun (x1 : Int32) (M : Mem) => V w G 2 [(0, .int a0), (1, .int x1)] [] M) a0 x1 M) : V w G 2 [(0, .int a0), (1, .int x1)] [] M := by
  unfold bd_X2_count_2 at h
  refine v_iload_n C 1 rfl dX2_count_2 ?_
  refine v_kb C (6) (by decide) dX2_count_3 ?_
  refine v_icmp_ge C 23 (by decide) dX2_count_5 (fun hc => ?_) (fun hc => ?_)
  · have h := h.1 hc
    refine v_iload_n C 1 rfl dX2_count_23 ?_
    exact Rt _ _ _ _ dX2_count_24 h
  · have h := h.2 hc
    refine v_iload_n C 0 rfl dX2_count_8 ?_
    refine v_tens C fn_X2_9 dX2_count_9 ?_
    refine v_iload_n C 1 rfl dX2_count_12 ?_
    obtain ⟨s1, h⟩ := h
    refine v_tld C s1 dX2_count_13 ?_
    refine v_icmp_lt C 23 (by decide) dX2_count_14 (fun hc => ?_) (fun hc => ?_)
    · have h := h.1 hc
      refine v_iload_n C 1 rfl dX2_count_23 ?_
      exact Rt _ _ _ _ dX2_count_24 h
    · have h := h.2 hc
      refine v_iinc C (j := 1) [(1, .int (x1 + 1)), (0, .int a0)] rfl (x1 + 1) rfl rfl (by decide) dX2_count_17 ?_
      refine v_goto C 2 (by decide) dX2_count_20 ?_
      exact V.sub [1, 0] rfl h
theorem mt_X2_count {w : Wx} {l : Launch} (pu : Pu_X2_count) : Ct_X2_count w l := by
  intro a0 M hp
  refine met_i (by decide +kernel) (Nat.le_of_ble_eq_true rfl) (fun G C hG Rt => ?_)
  exact wk_X2_count C hG Rt a0 M (pu a0 M hp _ _ (fun x1 M h => wk_X2_count_2 C hG Rt a0 x1 M h) ⟨rfl, rfl⟩)
set_option maxRecDepth 4000 in
theorem wk_X2_at {w : Wx} {G : Gx} {l : Launch} {Q : Int32 → Mem → Prop} (C : Cx w G cX2_at RX2 1 21 3) (hG : G.2.1 = l) (Rt : ∀ (pc : Nat) (lv : List (Nat × Value)) (r0 : Int32) (M0 : Mem), decode cX2_at pc = .ok (.ireturn, 1) → Q r0 M0 → V w G pc lv [.int r0] M0) (k_X2_count : Ct_X2_count w l) (a0 : Int32) (a1 : Int32) (M : Mem) (h : bd_X2_at Q a0 a1 M) : V w G 0 [(0, .int a0), (1, .int a1)] [] M := by
  unfold bd_X2_at at h
  refine v_iload_n C 0 rfl dX2_at_0 ?_
  obtain ⟨s1, h⟩ := h
  refine v_callSI C [] (by rw [hG]; exact (k_X2_count a0 M s1)) yX2_count_k ml_X2_13 rfl rfl (Nat.le_of_ble_eq_true rfl) ⟨by decide, by decide⟩ dX2_at_1 (fun r2 M2 er2 em2 => ?_)
  refine V.eqM em2 ?_
  have h := h r2 er2
  refine v_kc C (1) (by decide) dX2_at_4 ?_
  refine v_isub C dX2_at_5 ?_
  refine v_iload_n C 1 rfl dX2_at_6 ?_
  refine v_isub C dX2_at_7 ?_
  refine v_istore_n C [(2, .int ((r2 - ((1 : Int32))) - a1)), (0, .int a0), (1, .int a1)] rfl (by decide) dX2_at_8 ?_
  refine v_iload_n C 0 rfl dX2_at_9 ?_
  refine v_if_lt C 32 (by decide) dX2_at_10 (fun hc => ?_) (fun hc => ?_)
  · have h := h.1 hc
    refine v_kc C (0) (by decide) dX2_at_32 ?_
    exact Rt _ _ _ _ dX2_at_33 h
  · have h := h.2 hc
    refine v_iload_n C 0 rfl dX2_at_13 ?_
    refine v_kb C (6) (by decide) dX2_at_14 ?_
    refine v_icmp_ge C 32 (by decide) dX2_at_16 (fun hc => ?_) (fun hc => ?_)
    · have h := h.1 hc
      refine v_kc C (0) (by decide) dX2_at_32 ?_
      exact Rt _ _ _ _ dX2_at_33 h
    · have h := h.2 hc
      refine v_iload_n C 1 rfl dX2_at_19 ?_
      refine v_tens C fn_X2_9 dX2_at_20 ?_
      refine v_iload_n C 0 rfl dX2_at_23 ?_
      obtain ⟨s3, h⟩ := h
      refine v_tld C s3 dX2_at_24 ?_
      obtain ⟨s4, h⟩ := h
      refine v_idiv C s4 dX2_at_25 ?_
      refine v_kb C (10) (by decide) dX2_at_26 ?_
      refine v_irem C (by decide) dX2_at_28 ?_
      refine v_goto C 33 (by decide) dX2_at_29 ?_
      exact Rt _ _ _ _ dX2_at_33 h
theorem mt_X2_at {w : Wx} {l : Launch} (k_X2_count : Ct_X2_count w l) (pu : Pu_X2_at) : Ct_X2_at w l := by
  intro a0 a1 M hp
  refine met_i (by decide +kernel) (Nat.le_of_ble_eq_true rfl) (fun G C hG Rt => ?_)
  exact wk_X2_at C hG Rt k_X2_count a0 a1 M (pu a0 a1 M hp _ ⟨rfl, rfl⟩)
set_option maxRecDepth 4000 in
theorem wk_X2_areAllUpTo {w : Wx} {G : Gx} {l : Launch} {Q : Int32 → Mem → Prop} (C : Cx w G cX2_areAllUpTo RX2 2 43 4) (hG : G.2.1 = l) (Rt : ∀ (pc : Nat) (lv : List (Nat × Value)) (r0 : Int32) (M0 : Mem), decode cX2_areAllUpTo pc = .ok (.ireturn, 1) → Q r0 M0 → V w G pc lv [.int r0] M0) (k_X2_count : Ct_X2_count w l) (k_X2_at : Ct_X2_at w l) (a0 : Int32) (a1 : Int32) (M : Mem) (h : bd_X2_areAllUpTo Q (fun (x2 : Int32) (M : Mem) => V w G 7 [(0, .int a0), (1, .int a1), (2, .int x2)] [] M) a0 a1 M) : V w G 0 [(0, .int a0), (1, .int a1)] [] M := by
  unfold bd_X2_areAllUpTo at h
  refine v_iload_n C 0 rfl dX2_areAllUpTo_0 ?_
  obtain ⟨s1, h⟩ := h
  refine v_callSI C [] (by rw [hG]; exact (k_X2_count a0 M s1)) yX2_count_k ml_X2_13 rfl rfl (Nat.le_of_ble_eq_true rfl) ⟨by decide, by decide⟩ dX2_areAllUpTo_1 (fun r2 M2 er2 em2 => ?_)
  refine V.eqM em2 ?_
  have h := h r2 er2
  refine v_kc C (1) (by decide) dX2_areAllUpTo_4 ?_
  refine v_isub C dX2_areAllUpTo_5 ?_
  refine v_istore_n C [(2, .int (r2 - ((1 : Int32)))), (0, .int a0), (1, .int a1)] rfl (by decide) dX2_areAllUpTo_6 ?_
  exact V.sub [1, 2, 0] rfl h
set_option maxRecDepth 4000 in
theorem wk_X2_areAllUpTo_7 {w : Wx} {G : Gx} {l : Launch} {Q : Int32 → Mem → Prop} (C : Cx w G cX2_areAllUpTo RX2 2 43 4) (hG : G.2.1 = l) (Rt : ∀ (pc : Nat) (lv : List (Nat × Value)) (r0 : Int32) (M0 : Mem), decode cX2_areAllUpTo pc = .ok (.ireturn, 1) → Q r0 M0 → V w G pc lv [.int r0] M0) (k_X2_count : Ct_X2_count w l) (k_X2_at : Ct_X2_at w l) (a0 : Int32) (a1 : Int32) (x2 : Int32) (M : Mem) (h : bd_X2_areAllUpTo_7 Q (fun (x2 : Int32) (M : Mem) => V w G 7 [(0, .int a0), (1, .int a1), (2, .int x2)] [] M) a0 a1 x2 M) : V w G 7 [(0, .int a0), (1, .int a1), (2, .int x2)] [] M := by
  unfold bd_X2_areAllUpTo_7 at h
  refine v_iload_n C 2 rfl dX2_areAllUpTo_7 ?_
  refine v_if_lt C 35 (by decide) dX2_areAllUpTo_8 (fun hc => ?_) (fun hc => ?_)
  · have h := h.1 hc
    refine v_kc C (1) (by decide) dX2_areAllUpTo_35 ?_
    exact Rt _ _ _ _ dX2_areAllUpTo_36 h
  · have h := h.2 hc
    refine v_iload_n C 0 rfl dX2_areAllUpTo_11 ?_
    refine v_iload_n C 2 rfl dX2_areAllUpTo_12 ?_
    obtain ⟨s1, h⟩ := h
    refine v_callSI C [] (by rw [hG]; exact (k_X2_at a0 x2 M s1)) yX2_at_k ml_X2_19 rfl rfl (Nat.le_of_ble_eq_true rfl) ⟨by decide, by decide⟩ dX2_areAllUpTo_13 (fun r2 M2 er2 em2 => ?_)
    refine V.eqM em2 ?_
    have h := h r2 er2
    refine v_istore_n C [(3, .int r2), (0, .int a0), (1, .int a1), (2, .int x2)] rfl (by decide) dX2_areAllUpTo_16 ?_
    refine v_iload_n C 0 rfl dX2_areAllUpTo_17 ?_
    refine v_kc C (1) (by decide) dX2_areAllUpTo_18 ?_
    refine v_icmp_lt C 27 (by decide) dX2_areAllUpTo_19 (fun hc => ?_) (fun hc => ?_)
    · have h := h.1 hc
      refine v_kc C (0) (by decide) dX2_areAllUpTo_27 ?_
      exact Rt _ _ _ _ dX2_areAllUpTo_28 h
    · have h := h.2 hc
      refine v_iload_n C 0 rfl dX2_areAllUpTo_22 ?_
      refine v_iload_n C 2 rfl dX2_areAllUpTo_23 ?_
      refine v_icmp_le C 29 (by decide) dX2_areAllUpTo_24 (fun hc => ?_) (fun hc => ?_)
      · have h := h.1 hc
        refine v_iinc C (j := 3) [(2, .int (x2 + (-1))), (3, .int r2), (0, .int a0), (1, .int a1)] rfl (x2 + (-1)) rfl rfl (by decide) dX2_areAllUpTo_29 ?_
        refine v_goto C 7 (by decide) dX2_areAllUpTo_32 ?_
        exact V.sub [2, 3, 0] rfl h
      · have h := h.2 hc
        refine v_kc C (0) (by decide) dX2_areAllUpTo_27 ?_
        exact Rt _ _ _ _ dX2_areAllUpTo_28 h
theorem mt_X2_areAllUpTo {w : Wx} {l : Launch} (k_X2_count : Ct_X2_count w l) (k_X2_at : Ct_X2_at w l) (pu : Pu_X2_areAllUpTo) : Ct_X2_areAllUpTo w l := by
  intro a0 a1 M hp
  refine met_z (by decide +kernel) (Nat.le_of_ble_eq_true rfl) (pu a0 a1 M hp).1 (fun G C hG Rt => ?_)
  exact wk_X2_areAllUpTo C hG Rt k_X2_count k_X2_at a0 a1 M ((pu a0 a1 M hp).2 _ _ (fun x2 M h => wk_X2_areAllUpTo_7 C hG Rt k_X2_count k_X2_at a0 a1 x2 M h) ⟨rfl, rfl⟩)
set_option maxRecDepth 4000 in
theorem wk_X6_isRound {w : Wx} {G : Gx} {l : Launch} {Q : Int32 → Mem → Prop} (C : Cx w G cX6_isRound RX6 3 66 2) (hG : G.2.1 = l) (Rt : ∀ (pc : Nat) (lv : List (Nat × Value)) (r0 : Int32) (M0 : Mem), decode cX6_isRound pc = .ok (.ireturn, 1) → Q r0 M0 → V w G pc lv [.int r0] M0) (k_X8_at : Ct_X8_at w l) (k_X2_areAllUpTo : Ct_X2_areAllUpTo w l) (a1 : Int32) (M : Mem) (h : bd_X6_isRound Q a1 M) : V w G 0 [(0, .ref (w.2.1 3)), (1, .int a1)] [] M := by
  unfold bd_X6_isRound at h
  refine v_aload_n C 0 rfl dX6_isRound_0 ?_
  refine g5_5 C kb3 kd3 fl_X6_37 dX6_isRound_1 ?_
  refine v_aload_n C 0 rfl dX6_isRound_4 ?_
  refine g5_7 C kb3 kd3 fl_X6_34 dX6_isRound_5 ?_
  obtain ⟨s1, h⟩ := h
  refine v_callI C [] (by rw [hG]; exact (k_X8_at (M 3 7) M s1)) yX8_at_k ml_X6_55 (rcv7 kb1 kd1) rfl rfl (Nat.le_of_ble_eq_true rfl) ⟨by decide, by decide⟩ dX6_isRound_8 (fun r2 M2 er2 em2 => ?_)
  refine V.eqM em2 ?_
  have h := h r2 er2
  refine v_kb C (48) (by decide) dX6_isRound_11 ?_
  refine v_icmp_eq C 31 (by decide) dX6_isRound_13 (fun hc => ?_) (fun hc => ?_)
  · have h := h.1 hc
    refine v_kc C (0) (by decide) dX6_isRound_31 ?_
    exact Rt _ _ _ _ dX6_isRound_32 h
  · have h := h.2 hc
    refine v_iload_n C 1 rfl dX6_isRound_16 ?_
    refine v_aload_n C 0 rfl dX6_isRound_17 ?_
    refine g5_1 C kb3 kd3 fl_X6_18 dX6_isRound_18 ?_
    obtain ⟨s3, h⟩ := h
    refine v_callSI C [] (by rw [hG]; exact (k_X2_areAllUpTo a1 (M 3 1) M s3)) yX2_areAllUpTo_k ml_X6_94 rfl rfl (Nat.le_of_ble_eq_true rfl) ⟨by decide, by decide⟩ dX6_isRound_21 (fun r4 M4 er4 em4 => ?_)
    refine V.eqM em4 ?_
    have h := h r4 er4
    have key5 : V w G 32 [(0, .ref (w.2.1 3)), (1, .int a1)] (.int (if r4 = 0 then (0 : Int32) else (1 : Int32)) :: []) M := by
      exact Rt _ _ _ _ dX6_isRound_32 h
    refine v_if_eq C 31 (by decide) dX6_isRound_24 (fun hc => ?_) (fun hc => ?_)
    · rw [if_pos hc] at key5
      refine v_kc C (0) (by decide) dX6_isRound_31 ?_
      exact key5
    · rw [if_neg hc] at key5
      refine v_kc C (1) (by decide) dX6_isRound_27 ?_
      refine v_goto C 32 (by decide) dX6_isRound_28 ?_
      exact key5
theorem mt_X6_isRound {w : Wx} {l : Launch} (k_X8_at : Ct_X8_at w l) (k_X2_areAllUpTo : Ct_X2_areAllUpTo w l) (pu : Pu_X6_isRound) : Ct_X6_isRound w l := by
  intro a1 M hp
  refine met_z (by decide +kernel) (Nat.le_of_ble_eq_true rfl) (pu a1 M hp).1 (fun G C hG Rt => ?_)
  exact wk_X6_isRound C hG Rt k_X8_at k_X2_areAllUpTo a1 M ((pu a1 M hp).2 _ ⟨rfl, rfl⟩)
set_option maxRecDepth 4000 in
theorem wk_X6_readCar {w : Wx} {G : Gx} {l : Launch} {Q : Mem → Prop} (C : Cx w G cX6_readCar RX6 4 87 3) (hG : G.2.1 = l) (Rt : ∀ (pc : Nat) (lv : List (Nat × Value)) (M0 : Mem), decode cX6_readCar pc = .ok (.return_, 1) → Q M0 → V w G pc lv [] M0) (k_X6_readNumber : Ct_X6_readNumber w l) (k_X7_addCar : Ct_X7_addCar w l) (k_X6_isRound : Ct_X6_isRound w l) (k_X6_blame : Ct_X6_blame w l) (M : Mem) (h : bd_X6_readCar Q M) : V w G 0 [(0, .ref (w.2.1 3))] [] M := by
  unfold bd_X6_readCar at h
  refine v_aload_n C 0 rfl dX6_readCar_0 ?_
  refine v_kc C (0) (by decide) dX6_readCar_1 ?_
  refine v_aload_n C 0 rfl dX6_readCar_2 ?_
  refine g5_1 C kb3 kd3 fl_X6_18 dX6_readCar_3 ?_
  refine v_kc C (1) (by decide) dX6_readCar_6 ?_
  refine v_isub C dX6_readCar_7 ?_
  obtain ⟨s1, h⟩ := h
  refine v_callI C [] (by rw [hG]; exact (k_X6_readNumber ((0 : Int32)) ((M 3 1) - ((1 : Int32))) M s1)) yX6_readNumber_k ml_X6_82 (rcv5 kb3 kd3) rfl rfl (Nat.le_of_ble_eq_true rfl) ⟨by decide, by decide⟩ dX6_readCar_8 (fun r2 M2 er2 em2 => ?_)
  have h := h r2 M2 er2 em2
  refine v_istore_n C [(1, .int r2), (0, .ref (w.2.1 3))] rfl (by decide) dX6_readCar_11 ?_
  refine v_aload_n C 1 rfl dX6_readCar_12 ?_
  refine v_kc C (1) (by decide) dX6_readCar_13 ?_
  refine v_ldc C kc_X6_86 dX6_readCar_14 ?_
  obtain ⟨s3, h⟩ := h
  refine v_callI C [] (by rw [hG]; exact (k_X6_readNumber ((1 : Int32)) ((999999 : Int32)) M2 s3)) yX6_readNumber_k ml_X6_82 (rcv5 kb3 kd3) rfl rfl (Nat.le_of_ble_eq_true rfl) ⟨by decide, by decide⟩ dX6_readCar_16 (fun r4 M4 er4 em4 => ?_)
  have h := h r4 M4 er4 em4
  refine v_istore_n C [(2, .int r4), (1, .int r2), (0, .ref (w.2.1 3))] rfl (by decide) dX6_readCar_19 ?_
  refine v_aload_n C 2 rfl dX6_readCar_20 ?_
  refine g5_3 C kb3 kd3 fl_X6_25 dX6_readCar_21 ?_
  refine v_if_ne C 44 (by decide) dX6_readCar_24 (fun hc => ?_) (fun hc => ?_)
  · have h := h.2 hc
    refine v_aload_n C 2 rfl dX6_readCar_44 ?_
    refine g5_3 C kb3 kd3 fl_X6_25 dX6_readCar_45 ?_
    refine v_if_ne C 60 (by decide) dX6_readCar_48 (fun hc => ?_) (fun hc => ?_)
    · have h := h.2 hc
      exact Rt _ _ _ dX6_readCar_60 h
    · have h := h.1 hc
      refine v_aload_n C 2 rfl dX6_readCar_51 ?_
      refine g5_0 C kb3 kd3 fl_X6_12 dX6_readCar_52 ?_
      refine v_iload_n C 1 rfl dX6_readCar_55 ?_
      refine v_iload_n C 0 rfl dX6_readCar_56 ?_
      obtain ⟨s5, h⟩ := h
      refine v_callV C [] (by rw [hG]; exact (k_X7_addCar 4 r2 r4 M4 sc4 s5)) yX7_addCar_k ml_X6_91 (rcv6 sc4.l0 sc4.k0) rfl rfl (Nat.le_of_ble_eq_true rfl) ⟨by decide, by decide⟩ dX6_readCar_57 (fun M6 em6 => ?_)
      have h := h M6 em6
      exact Rt _ _ _ dX6_readCar_60 h
  · have h := h.1 hc
    refine v_aload_n C 2 rfl dX6_readCar_27 ?_
    refine v_iload_n C 0 rfl dX6_readCar_28 ?_
    obtain ⟨s7, h⟩ := h
    refine v_callI C [] (by rw [hG]; exact (k_X6_isRound r4 M4 s7)) yX6_isRound_k ml_X6_87 (rcv5 kb3 kd3) rfl rfl (Nat.le_of_ble_eq_true rfl) ⟨by decide, by decide⟩ dX6_readCar_29 (fun r8 M8 er8 em8 => ?_)
    refine V.eqM em8 ?_
    have h := h r8 er8
    refine v_if_ne C 44 (by decide) dX6_readCar_32 (fun hc => ?_) (fun hc => ?_)
    · have h := h.2 hc
      refine v_aload_n C 2 rfl dX6_readCar_44 ?_
      refine g5_3 C kb3 kd3 fl_X6_25 dX6_readCar_45 ?_
      refine v_if_ne C 60 (by decide) dX6_readCar_48 (fun hc => ?_) (fun hc => ?_)
      · have h := h.2 hc
        exact Rt _ _ _ dX6_readCar_60 h
      · have h := h.1 hc
        refine v_aload_n C 2 rfl dX6_readCar_51 ?_
        refine g5_0 C kb3 kd3 fl_X6_12 dX6_readCar_52 ?_
        refine v_iload_n C 1 rfl dX6_readCar_55 ?_
        refine v_iload_n C 0 rfl dX6_readCar_56 ?_
        obtain ⟨s9, h⟩ := h
        refine v_callV C [] (by rw [hG]; exact (k_X7_addCar 4 r2 r4 M4 sc4 s9)) yX7_addCar_k ml_X6_91 (rcv6 sc4.l0 sc4.k0) rfl rfl (Nat.le_of_ble_eq_true rfl) ⟨by decide, by decide⟩ dX6_readCar_57 (fun M10 em10 => ?_)
        have h := h M10 em10
        exact Rt _ _ _ dX6_readCar_60 h
    · have h := h.1 hc
      refine v_aload_n C 2 rfl dX6_readCar_35 ?_
      refine v_kc C (2) (by decide) dX6_readCar_36 ?_
      refine v_aload_n C 2 rfl dX6_readCar_37 ?_
      refine g5_7 C kb3 kd3 fl_X6_34 dX6_readCar_38 ?_
      obtain ⟨s11, h⟩ := h
      refine v_callV C [] (by rw [hG]; exact (k_X6_blame ((2 : Int32)) (M4 3 7) M4 s11)) yX6_blame_k ml_X6_63 (rcv5 kb3 kd3) rfl rfl (Nat.le_of_ble_eq_true rfl) ⟨by decide, by decide⟩ dX6_readCar_41 (fun M12 em12 => ?_)
      have h := h M12 em12
      refine v_aload_n C 2 rfl dX6_readCar_44 ?_
      refine g5_3 C kb3 kd3 fl_X6_25 dX6_readCar_45 ?_
      refine v_if_ne C 60 (by decide) dX6_readCar_48 (fun hc => ?_) (fun hc => ?_)
      · have h := h.2 hc
        exact Rt _ _ _ dX6_readCar_60 h
      · have h := h.1 hc
        refine v_aload_n C 2 rfl dX6_readCar_51 ?_
        refine g5_0 C kb3 kd3 fl_X6_12 dX6_readCar_52 ?_
        refine v_iload_n C 1 rfl dX6_readCar_55 ?_
        refine v_iload_n C 0 rfl dX6_readCar_56 ?_
        obtain ⟨s13, h⟩ := h
        refine v_callV C [] (by rw [hG]; exact (k_X7_addCar 4 r2 r4 M12 sc4 s13)) yX7_addCar_k ml_X6_91 (rcv6 sc4.l0 sc4.k0) rfl rfl (Nat.le_of_ble_eq_true rfl) ⟨by decide, by decide⟩ dX6_readCar_57 (fun M14 em14 => ?_)
        have h := h M14 em14
        exact Rt _ _ _ dX6_readCar_60 h
theorem mt_X6_readCar {w : Wx} {l : Launch} (k_X6_readNumber : Ct_X6_readNumber w l) (k_X7_addCar : Ct_X7_addCar w l) (k_X6_isRound : Ct_X6_isRound w l) (k_X6_blame : Ct_X6_blame w l) (pu : Pu_X6_readCar) : Ct_X6_readCar w l := by
  intro M hp
  refine met_v (by decide +kernel) (Nat.le_of_ble_eq_true rfl) (fun G C hG Rt => ?_)
  exact wk_X6_readCar C hG Rt k_X6_readNumber k_X7_addCar k_X6_isRound k_X6_blame M (pu M hp _ rfl)
set_option maxRecDepth 4000 in
theorem wk_X6_readTown {w : Wx} {G : Gx} {l : Launch} {Q : Mem → Prop} (C : Cx w G cX6_readTown RX6 4 86 3) (hG : G.2.1 = l) (Rt : ∀ (pc : Nat) (lv : List (Nat × Value)) (M0 : Mem), decode cX6_readTown pc = .ok (.return_, 1) → Q M0 → V w G pc lv [] M0) (k_X6_readNumber : Ct_X6_readNumber w l) (M : Mem) (h : bd_X6_readTown Q M) : V w G 0 [(0, .ref (w.2.1 3))] [] M := by
  unfold bd_X6_readTown at h
  refine v_aload_n C 0 rfl dX6_readTown_0 ?_
  refine v_kc C (1) (by decide) dX6_readTown_1 ?_
  refine v_kb C (9) (by decide) dX6_readTown_2 ?_
  obtain ⟨s1, h⟩ := h
  refine v_callI C [] (by rw [hG]; exact (k_X6_readNumber ((1 : Int32)) ((9 : Int32)) M s1)) yX6_readNumber_k ml_X6_82 (rcv5 kb3 kd3) rfl rfl (Nat.le_of_ble_eq_true rfl) ⟨by decide, by decide⟩ dX6_readTown_4 (fun r2 M2 er2 em2 => ?_)
  have h := h r2 M2 er2 em2
  refine v_istore_n C [(1, .int r2), (0, .ref (w.2.1 3))] rfl (by decide) dX6_readTown_7 ?_
  refine v_aload_n C 1 rfl dX6_readTown_8 ?_
  refine v_kc C (0) (by decide) dX6_readTown_9 ?_
  refine v_kb C (100) (by decide) dX6_readTown_10 ?_
  obtain ⟨s3, h⟩ := h
  refine v_callI C [] (by rw [hG]; exact (k_X6_readNumber ((0 : Int32)) ((100 : Int32)) M2 s3)) yX6_readNumber_k ml_X6_82 (rcv5 kb3 kd3) rfl rfl (Nat.le_of_ble_eq_true rfl) ⟨by decide, by decide⟩ dX6_readTown_12 (fun r4 M4 er4 em4 => ?_)
  have h := h r4 M4 er4 em4
  refine v_istore_n C [(2, .int r4), (1, .int r2), (0, .ref (w.2.1 3))] rfl (by decide) dX6_readTown_15 ?_
  refine v_aload_n C 2 rfl dX6_readTown_16 ?_
  refine g5_3 C kb3 kd3 fl_X6_25 dX6_readTown_17 ?_
  refine v_if_ne C 33 (by decide) dX6_readTown_20 (fun hc => ?_) (fun hc => ?_)
  · have h := h.2 hc
    exact Rt _ _ _ dX6_readTown_33 h
  · have h := h.1 hc
    refine v_aload_n C 2 rfl dX6_readTown_23 ?_
    refine v_iload_n C 1 rfl dX6_readTown_24 ?_
    refine p5_1 C kb3 kd3 fl_X6_18 dX6_readTown_25 (fun M5 e5 => ?_)
    have h := h M5 e5
    refine v_aload_n C 2 rfl dX6_readTown_28 ?_
    refine v_iload_n C 0 rfl dX6_readTown_29 ?_
    refine p5_2 C kb3 kd3 fl_X6_22 dX6_readTown_30 (fun M6 e6 => ?_)
    have h := h M6 e6
    exact Rt _ _ _ dX6_readTown_33 h
theorem mt_X6_readTown {w : Wx} {l : Launch} (k_X6_readNumber : Ct_X6_readNumber w l) (pu : Pu_X6_readTown) : Ct_X6_readTown w l := by
  intro M hp
  refine met_v (by decide +kernel) (Nat.le_of_ble_eq_true rfl) (fun G C hG Rt => ?_)
  exact wk_X6_readTown C hG Rt k_X6_readNumber M (pu M hp _ rfl)
set_option maxRecDepth 4000 in
theorem wk_X6_readSemicolon {w : Wx} {G : Gx} {l : Launch} {Q : Mem → Prop} (C : Cx w G cX6_readSemicolon RX6 3 62 1) (hG : G.2.1 = l) (Rt : ∀ (pc : Nat) (lv : List (Nat × Value)) (M0 : Mem), decode cX6_readSemicolon pc = .ok (.return_, 1) → Q M0 → V w G pc lv [] M0) (k_X6_skipBlanks : Ct_X6_skipBlanks w l) (k_X6_letter : Ct_X6_letter w l) (k_X6_blame : Ct_X6_blame w l) (M : Mem) (h : bd_X6_readSemicolon Q M) : V w G 0 [(0, .ref (w.2.1 3))] [] M := by
  unfold bd_X6_readSemicolon at h
  refine v_aload_n C 0 rfl dX6_readSemicolon_0 ?_
  obtain ⟨s1, h⟩ := h
  refine v_callV C [] (by rw [hG]; exact (k_X6_skipBlanks M s1)) yX6_skipBlanks_k ml_X6_44 (rcv5 kb3 kd3) rfl rfl (Nat.le_of_ble_eq_true rfl) ⟨by decide, by decide⟩ dX6_readSemicolon_1 (fun M2 em2 => ?_)
  have h := h M2 em2
  refine v_aload_n C 0 rfl dX6_readSemicolon_4 ?_
  obtain ⟨s3, h⟩ := h
  refine v_callI C [] (by rw [hG]; exact (k_X6_letter M2 s3)) yX6_letter_k ml_X6_59 (rcv5 kb3 kd3) rfl rfl (Nat.le_of_ble_eq_true rfl) ⟨by decide, by decide⟩ dX6_readSemicolon_5 (fun r4 M4 er4 em4 => ?_)
  refine V.eqM em4 ?_
  have h := h r4 er4
  refine v_kb C (59) (by decide) dX6_readSemicolon_8 ?_
  refine v_icmp_eq C 22 (by decide) dX6_readSemicolon_10 (fun hc => ?_) (fun hc => ?_)
  · have h := h.1 hc
    refine v_aload_n C 0 rfl dX6_readSemicolon_22 ?_
    refine v_dup C rfl dX6_readSemicolon_23 ?_
    refine g5_6 C kb3 kd3 fl_X6_31 dX6_readSemicolon_24 ?_
    refine v_kc C (1) (by decide) dX6_readSemicolon_27 ?_
    refine v_iadd C dX6_readSemicolon_28 ?_
    refine p5_6 C kb3 kd3 fl_X6_31 dX6_readSemicolon_29 (fun M5 e5 => ?_)
    have h := h M5 e5
    exact Rt _ _ _ dX6_readSemicolon_32 h
  · have h := h.2 hc
    refine v_aload_n C 0 rfl dX6_readSemicolon_13 ?_
    refine v_kc C (1) (by decide) dX6_readSemicolon_14 ?_
    refine v_aload_n C 0 rfl dX6_readSemicolon_15 ?_
    refine g5_6 C kb3 kd3 fl_X6_31 dX6_readSemicolon_16 ?_
    obtain ⟨s6, h⟩ := h
    refine v_callV C [] (by rw [hG]; exact (k_X6_blame ((1 : Int32)) (M2 3 6) M2 s6)) yX6_blame_k ml_X6_63 (rcv5 kb3 kd3) rfl rfl (Nat.le_of_ble_eq_true rfl) ⟨by decide, by decide⟩ dX6_readSemicolon_19 (fun M7 em7 => ?_)
    have h := h M7 em7
    refine v_aload_n C 0 rfl dX6_readSemicolon_22 ?_
    refine v_dup C rfl dX6_readSemicolon_23 ?_
    refine g5_6 C kb3 kd3 fl_X6_31 dX6_readSemicolon_24 ?_
    refine v_kc C (1) (by decide) dX6_readSemicolon_27 ?_
    refine v_iadd C dX6_readSemicolon_28 ?_
    refine p5_6 C kb3 kd3 fl_X6_31 dX6_readSemicolon_29 (fun M8 e8 => ?_)
    have h := h M8 e8
    exact Rt _ _ _ dX6_readSemicolon_32 h
theorem mt_X6_readSemicolon {w : Wx} {l : Launch} (k_X6_skipBlanks : Ct_X6_skipBlanks w l) (k_X6_letter : Ct_X6_letter w l) (k_X6_blame : Ct_X6_blame w l) (pu : Pu_X6_readSemicolon) : Ct_X6_readSemicolon w l := by
  intro M hp
  refine met_v (by decide +kernel) (Nat.le_of_ble_eq_true rfl) (fun G C hG Rt => ?_)
  exact wk_X6_readSemicolon C hG Rt k_X6_skipBlanks k_X6_letter k_X6_blame M (pu M hp _ rfl)
set_option maxRecDepth 4000 in
theorem wk_X6_readClause {w : Wx} {G : Gx} {l : Launch} {Q : Mem → Prop} (C : Cx w G cX6_readClause RX6 5 109 2) (hG : G.2.1 = l) (Rt : ∀ (pc : Nat) (lv : List (Nat × Value)) (M0 : Mem), decode cX6_readClause pc = .ok (.return_, 1) → Q M0 → V w G pc lv [] M0) (k_X6_letter : Ct_X6_letter w l) (k_X6_blame : Ct_X6_blame w l) (k_X6_readFollowing : Ct_X6_readFollowing w l) (k_X6_readCar : Ct_X6_readCar w l) (k_X6_readTown : Ct_X6_readTown w l) (k_X6_readSemicolon : Ct_X6_readSemicolon w l) (M : Mem) (h : bd_X6_readClause Q (fun (x1 : Int32) (M : Mem) => V w G 40 [(0, .ref (w.2.1 3)), (1, .int x1)] [] M) (fun (x1 : Int32) (M : Mem) => V w G 81 [(0, .ref (w.2.1 3)), (1, .int x1)] [] M) (fun (M : Mem) => V w G 121 [(0, .ref (w.2.1 3))] [] M) M) : V w G 0 [(0, .ref (w.2.1 3))] [] M := by
  unfold bd_X6_readClause at h
  refine v_aload_n C 0 rfl dX6_readClause_0 ?_
  obtain ⟨s1, h⟩ := h
  refine v_callI C [] (by rw [hG]; exact (k_X6_letter M s1)) yX6_letter_k ml_X6_59 (rcv5 kb3 kd3) rfl rfl (Nat.le_of_ble_eq_true rfl) ⟨by decide, by decide⟩ dX6_readClause_1 (fun r2 M2 er2 em2 => ?_)
  refine V.eqM em2 ?_
  have h := h r2 er2
  refine v_istore_n C [(1, .int r2), (0, .ref (w.2.1 3))] rfl (by decide) dX6_readClause_4 ?_
  refine v_iload_n C 0 rfl dX6_readClause_5 ?_
  refine v_kb C (116) (by decide) dX6_readClause_6 ?_
  refine v_icmp_eq C 40 (by decide) dX6_readClause_8 (fun hc => ?_) (fun hc => ?_)
  · have h := h.1 hc
    exact V.sub [1, 0] rfl h
  · have h := h.2 hc
    refine v_iload_n C 0 rfl dX6_readClause_11 ?_
    refine v_kb C (99) (by decide) dX6_readClause_12 ?_
    refine v_icmp_eq C 23 (by decide) dX6_readClause_14 (fun hc => ?_) (fun hc => ?_)
    · have h := h.1 hc
      refine v_aload_n C 1 rfl dX6_readClause_23 ?_
      refine g5_1 C kb3 kd3 fl_X6_18 dX6_readClause_24 ?_
      refine v_if_ne C 40 (by decide) dX6_readClause_27 (fun hc => ?_) (fun hc => ?_)
      · have h := h.2 hc
        exact V.sub [1, 0] rfl h
      · have h := h.1 hc
        refine v_aload_n C 1 rfl dX6_readClause_30 ?_
        refine v_kc C (1) (by decide) dX6_readClause_31 ?_
        refine v_aload_n C 1 rfl dX6_readClause_32 ?_
        refine g5_6 C kb3 kd3 fl_X6_31 dX6_readClause_33 ?_
        obtain ⟨s3, h⟩ := h
        refine v_callV C [] (by rw [hG]; exact (k_X6_blame ((1 : Int32)) (M 3 6) M s3)) yX6_blame_k ml_X6_63 (rcv5 kb3 kd3) rfl rfl (Nat.le_of_ble_eq_true rfl) ⟨by decide, by decide⟩ dX6_readClause_36 (fun M4 em4 => ?_)
        have h := h M4 em4
        exact Rt _ _ _ dX6_readClause_39 h
    · have h := h.2 hc
      refine v_iload_n C 0 rfl dX6_readClause_17 ?_
      refine v_kb C (102) (by decide) dX6_readClause_18 ?_
      refine v_icmp_ne C 30 (by decide) dX6_readClause_20 (fun hc => ?_) (fun hc => ?_)
      · have h := h.2 hc
        refine v_aload_n C 1 rfl dX6_readClause_30 ?_
        refine v_kc C (1) (by decide) dX6_readClause_31 ?_
        refine v_aload_n C 1 rfl dX6_readClause_32 ?_
        refine g5_6 C kb3 kd3 fl_X6_31 dX6_readClause_33 ?_
        obtain ⟨s5, h⟩ := h
        refine v_callV C [] (by rw [hG]; exact (k_X6_blame ((1 : Int32)) (M 3 6) M s5)) yX6_blame_k ml_X6_63 (rcv5 kb3 kd3) rfl rfl (Nat.le_of_ble_eq_true rfl) ⟨by decide, by decide⟩ dX6_readClause_36 (fun M6 em6 => ?_)
        have h := h M6 em6
        exact Rt _ _ _ dX6_readClause_39 h
      · have h := h.1 hc
        refine v_aload_n C 1 rfl dX6_readClause_23 ?_
        refine g5_1 C kb3 kd3 fl_X6_18 dX6_readClause_24 ?_
        refine v_if_ne C 40 (by decide) dX6_readClause_27 (fun hc => ?_) (fun hc => ?_)
        · have h := h.2 hc
          exact V.sub [1, 0] rfl h
        · have h := h.1 hc
          refine v_aload_n C 1 rfl dX6_readClause_30 ?_
          refine v_kc C (1) (by decide) dX6_readClause_31 ?_
          refine v_aload_n C 1 rfl dX6_readClause_32 ?_
          refine g5_6 C kb3 kd3 fl_X6_31 dX6_readClause_33 ?_
          obtain ⟨s7, h⟩ := h
          refine v_callV C [] (by rw [hG]; exact (k_X6_blame ((1 : Int32)) (M 3 6) M s7)) yX6_blame_k ml_X6_63 (rcv5 kb3 kd3) rfl rfl (Nat.le_of_ble_eq_true rfl) ⟨by decide, by decide⟩ dX6_readClause_36 (fun M8 em8 => ?_)
          have h := h M8 em8
          exact Rt _ _ _ dX6_readClause_39 h
set_option maxRecDepth 4000 in
theorem wk_X6_readClause_40 {w : Wx} {G : Gx} {l : Launch} {Q : Mem → Prop} (C : Cx w G cX6_readClause RX6 5 109 2) (hG : G.2.1 = l) (Rt : ∀ (pc : Nat) (lv : List (Nat × Value)) (M0 : Mem), decode cX6_readClause pc = .ok (.return_, 1) → Q M0 → V w G pc lv [] M0) (k_X6_letter : Ct_X6_letter w l) (k_X6_blame : Ct_X6_blame w l) (k_X6_readFollowing : Ct_X6_readFollowing w l) (k_X6_readCar : Ct_X6_readCar w l) (k_X6_readTown : Ct_X6_readTown w l) (k_X6_readSemicolon : Ct_X6_readSemicolon w l) (x1 : Int32) (M : Mem) (h : bd_X6_readClause_40 Q (fun (x1 : Int32) (M : Mem) => V w G 40 [(0, .ref (w.2.1 3)), (1, .int x1)] [] M) (fun (x1 : Int32) (M : Mem) => V w G 81 [(0, .ref (w.2.1 3)), (1, .int x1)] [] M) (fun (M : Mem) => V w G 121 [(0, .ref (w.2.1 3))] [] M) x1 M) : V w G 40 [(0, .ref (w.2.1 3)), (1, .int x1)] [] M := by
  unfold bd_X6_readClause_40 at h
  refine v_iload_n C 1 rfl dX6_readClause_40 ?_
  refine v_kb C (116) (by decide) dX6_readClause_41 ?_
  refine v_icmp_ne C 53 (by decide) dX6_readClause_43 (fun hc => ?_) (fun hc => ?_)
  · have h := h.2 hc
    refine v_iload_n C 1 rfl dX6_readClause_53 ?_
    refine v_kb C (99) (by decide) dX6_readClause_54 ?_
    refine v_icmp_ne C 81 (by decide) dX6_readClause_56 (fun hc => ?_) (fun hc => ?_)
    · have h := h.2 hc
      exact V.sub [0, 1] rfl h
    · have h := h.1 hc
      refine v_aload_n C 0 rfl dX6_readClause_59 ?_
      refine g5_0 C kb3 kd3 fl_X6_12 dX6_readClause_60 ?_
      refine g6_0 C sc4.l0 sc4.k0 fl_X6_67 dX6_readClause_63 ?_
      refine v_kb C (8) (by decide) dX6_readClause_66 ?_
      refine v_icmp_lt C 81 (by decide) dX6_readClause_68 (fun hc => ?_) (fun hc => ?_)
      · have h := h.1 hc
        exact V.sub [0, 1] rfl h
      · have h := h.2 hc
        refine v_aload_n C 0 rfl dX6_readClause_71 ?_
        refine v_kc C (3) (by decide) dX6_readClause_72 ?_
        refine v_aload_n C 0 rfl dX6_readClause_73 ?_
        refine g5_6 C kb3 kd3 fl_X6_31 dX6_readClause_74 ?_
        obtain ⟨s1, h⟩ := h
        refine v_callV C [] (by rw [hG]; exact (k_X6_blame ((3 : Int32)) (M 3 6) M s1)) yX6_blame_k ml_X6_63 (rcv5 kb3 kd3) rfl rfl (Nat.le_of_ble_eq_true rfl) ⟨by decide, by decide⟩ dX6_readClause_77 (fun M2 em2 => ?_)
        have h := h M2 em2
        exact Rt _ _ _ dX6_readClause_80 h
  · have h := h.1 hc
    refine v_aload_n C 0 rfl dX6_readClause_46 ?_
    refine g5_1 C kb3 kd3 fl_X6_18 dX6_readClause_47 ?_
    refine v_if_ne C 71 (by decide) dX6_readClause_50 (fun hc => ?_) (fun hc => ?_)
    · have h := h.2 hc
      refine v_aload_n C 0 rfl dX6_readClause_71 ?_
      refine v_kc C (3) (by decide) dX6_readClause_72 ?_
      refine v_aload_n C 0 rfl dX6_readClause_73 ?_
      refine g5_6 C kb3 kd3 fl_X6_31 dX6_readClause_74 ?_
      obtain ⟨s3, h⟩ := h
      refine v_callV C [] (by rw [hG]; exact (k_X6_blame ((3 : Int32)) (M 3 6) M s3)) yX6_blame_k ml_X6_63 (rcv5 kb3 kd3) rfl rfl (Nat.le_of_ble_eq_true rfl) ⟨by decide, by decide⟩ dX6_readClause_77 (fun M4 em4 => ?_)
      have h := h M4 em4
      exact Rt _ _ _ dX6_readClause_80 h
    · have h := h.1 hc
      refine v_iload_n C 1 rfl dX6_readClause_53 ?_
      refine v_kb C (99) (by decide) dX6_readClause_54 ?_
      refine v_icmp_ne C 81 (by decide) dX6_readClause_56 (fun hc => ?_) (fun hc => ?_)
      · have h := h.2 hc
        exact V.sub [0, 1] rfl h
      · have h := h.1 hc
        refine v_aload_n C 0 rfl dX6_readClause_59 ?_
        refine g5_0 C kb3 kd3 fl_X6_12 dX6_readClause_60 ?_
        refine g6_0 C sc4.l0 sc4.k0 fl_X6_67 dX6_readClause_63 ?_
        refine v_kb C (8) (by decide) dX6_readClause_66 ?_
        refine v_icmp_lt C 81 (by decide) dX6_readClause_68 (fun hc => ?_) (fun hc => ?_)
        · have h := h.1 hc
          exact V.sub [0, 1] rfl h
        · have h := h.2 hc
          refine v_aload_n C 0 rfl dX6_readClause_71 ?_
          refine v_kc C (3) (by decide) dX6_readClause_72 ?_
          refine v_aload_n C 0 rfl dX6_readClause_73 ?_
          refine g5_6 C kb3 kd3 fl_X6_31 dX6_readClause_74 ?_
          obtain ⟨s5, h⟩ := h
          refine v_callV C [] (by rw [hG]; exact (k_X6_blame ((3 : Int32)) (M 3 6) M s5)) yX6_blame_k ml_X6_63 (rcv5 kb3 kd3) rfl rfl (Nat.le_of_ble_eq_true rfl) ⟨by decide, by decide⟩ dX6_readClause_77 (fun M6 em6 => ?_)
          have h := h M6 em6
          exact Rt _ _ _ dX6_readClause_80 h
set_option maxRecDepth 4000 in
theorem wk_X6_readClause_81 {w : Wx} {G : Gx} {l : Launch} {Q : Mem → Prop} (C : Cx w G cX6_readClause RX6 5 109 2) (hG : G.2.1 = l) (Rt : ∀ (pc : Nat) (lv : List (Nat × Value)) (M0 : Mem), decode cX6_readClause pc = .ok (.return_, 1) → Q M0 → V w G pc lv [] M0) (k_X6_letter : Ct_X6_letter w l) (k_X6_blame : Ct_X6_blame w l) (k_X6_readFollowing : Ct_X6_readFollowing w l) (k_X6_readCar : Ct_X6_readCar w l) (k_X6_readTown : Ct_X6_readTown w l) (k_X6_readSemicolon : Ct_X6_readSemicolon w l) (x1 : Int32) (M : Mem) (h : bd_X6_readClause_81 Q (fun (x1 : Int32) (M : Mem) => V w G 40 [(0, .ref (w.2.1 3)), (1, .int x1)] [] M) (fun (x1 : Int32) (M : Mem) => V w G 81 [(0, .ref (w.2.1 3)), (1, .int x1)] [] M) (fun (M : Mem) => V w G 121 [(0, .ref (w.2.1 3))] [] M) x1 M) : V w G 81 [(0, .ref (w.2.1 3)), (1, .int x1)] [] M := by
  unfold bd_X6_readClause_81 at h
  refine v_aload_n C 0 rfl dX6_readClause_81 ?_
  refine v_dup C rfl dX6_readClause_82 ?_
  refine g5_6 C kb3 kd3 fl_X6_31 dX6_readClause_83 ?_
  refine v_kc C (1) (by decide) dX6_readClause_86 ?_
  refine v_iadd C dX6_readClause_87 ?_
  refine p5_6 C kb3 kd3 fl_X6_31 dX6_readClause_88 (fun M1 e1 => ?_)
  have h := h M1 e1
  refine v_iload_n C 1 rfl dX6_readClause_91 ?_
  refine v_kb C (116) (by decide) dX6_readClause_92 ?_
  refine v_icmp_ne C 104 (by decide) dX6_readClause_94 (fun hc => ?_) (fun hc => ?_)
  · have h := h.2 hc
    refine v_iload_n C 1 rfl dX6_readClause_104 ?_
    refine v_kb C (99) (by decide) dX6_readClause_105 ?_
    refine v_icmp_ne C 117 (by decide) dX6_readClause_107 (fun hc => ?_) (fun hc => ?_)
    · have h := h.2 hc
      refine v_aload_n C 0 rfl dX6_readClause_117 ?_
      obtain ⟨s2, h⟩ := h
      refine v_callV C [] (by rw [hG]; exact (k_X6_readFollowing M1 s2)) yX6_readFollowing_k ml_X6_76 (rcv5 kb3 kd3) rfl rfl (Nat.le_of_ble_eq_true rfl) ⟨by decide, by decide⟩ dX6_readClause_118 (fun M3 em3 => ?_)
      have h := h M3 em3
      exact V.sub [0] rfl h
    · have h := h.1 hc
      refine v_aload_n C 0 rfl dX6_readClause_110 ?_
      obtain ⟨s4, h⟩ := h
      refine v_callV C [] (by rw [hG]; exact (k_X6_readCar M1 s4)) yX6_readCar_k ml_X6_73 (rcv5 kb3 kd3) rfl rfl (Nat.le_of_ble_eq_true rfl) ⟨by decide, by decide⟩ dX6_readClause_111 (fun M5 em5 => ?_)
      have h := h M5 em5
      refine v_goto C 121 (by decide) dX6_readClause_114 ?_
      exact V.sub [0] rfl h
  · have h := h.1 hc
    refine v_aload_n C 0 rfl dX6_readClause_97 ?_
    obtain ⟨s6, h⟩ := h
    refine v_callV C [] (by rw [hG]; exact (k_X6_readTown M1 s6)) yX6_readTown_k ml_X6_70 (rcv5 kb3 kd3) rfl rfl (Nat.le_of_ble_eq_true rfl) ⟨by decide, by decide⟩ dX6_readClause_98 (fun M7 em7 => ?_)
    have h := h M7 em7
    refine v_goto C 121 (by decide) dX6_readClause_101 ?_
    exact V.sub [0] rfl h
set_option maxRecDepth 4000 in
theorem wk_X6_readClause_121 {w : Wx} {G : Gx} {l : Launch} {Q : Mem → Prop} (C : Cx w G cX6_readClause RX6 5 109 2) (hG : G.2.1 = l) (Rt : ∀ (pc : Nat) (lv : List (Nat × Value)) (M0 : Mem), decode cX6_readClause pc = .ok (.return_, 1) → Q M0 → V w G pc lv [] M0) (k_X6_letter : Ct_X6_letter w l) (k_X6_blame : Ct_X6_blame w l) (k_X6_readFollowing : Ct_X6_readFollowing w l) (k_X6_readCar : Ct_X6_readCar w l) (k_X6_readTown : Ct_X6_readTown w l) (k_X6_readSemicolon : Ct_X6_readSemicolon w l) (M : Mem) (h : bd_X6_readClause_121 Q (fun (x1 : Int32) (M : Mem) => V w G 40 [(0, .ref (w.2.1 3)), (1, .int x1)] [] M) (fun (x1 : Int32) (M : Mem) => V w G 81 [(0, .ref (w.2.1 3)), (1, .int x1)] [] M) (fun (M : Mem) => V w G 121 [(0, .ref (w.2.1 3))] [] M) M) : V w G 121 [(0, .ref (w.2.1 3))] [] M := by
  unfold bd_X6_readClause_121 at h
  refine v_aload_n C 0 rfl dX6_readClause_121 ?_
  obtain ⟨s1, h⟩ := h
  refine v_callV C [] (by rw [hG]; exact (k_X6_readSemicolon M s1)) yX6_readSemicolon_k ml_X6_79 (rcv5 kb3 kd3) rfl rfl (Nat.le_of_ble_eq_true rfl) ⟨by decide, by decide⟩ dX6_readClause_122 (fun M2 em2 => ?_)
  have h := h M2 em2
  exact Rt _ _ _ dX6_readClause_125 h
theorem mt_X6_readClause {w : Wx} {l : Launch} (k_X6_letter : Ct_X6_letter w l) (k_X6_blame : Ct_X6_blame w l) (k_X6_readFollowing : Ct_X6_readFollowing w l) (k_X6_readCar : Ct_X6_readCar w l) (k_X6_readTown : Ct_X6_readTown w l) (k_X6_readSemicolon : Ct_X6_readSemicolon w l) (pu : Pu_X6_readClause) : Ct_X6_readClause w l := by
  intro M hp
  refine met_v (by decide +kernel) (Nat.le_of_ble_eq_true rfl) (fun G C hG Rt => ?_)
  exact wk_X6_readClause C hG Rt k_X6_letter k_X6_blame k_X6_readFollowing k_X6_readCar k_X6_readTown k_X6_readSemicolon M (pu M hp _ _ _ _ (fun x1 M h => wk_X6_readClause_40 C hG Rt k_X6_letter k_X6_blame k_X6_readFollowing k_X6_readCar k_X6_readTown k_X6_readSemicolon x1 M h) (fun x1 M h => wk_X6_readClause_81 C hG Rt k_X6_letter k_X6_blame k_X6_readFollowing k_X6_readCar k_X6_readTown k_X6_readSemicolon x1 M h) (fun M h => wk_X6_readClause_121 C hG Rt k_X6_letter k_X6_blame k_X6_readFollowing k_X6_readCar k_X6_readTown k_X6_readSemicolon M h) rfl)
set_option maxRecDepth 4000 in
theorem wk_X6_readAll {w : Wx} {G : Gx} {l : Launch} {Q : Mem → Prop} (C : Cx w G cX6_readAll RX6 6 130 2) (hG : G.2.1 = l) (Rt : ∀ (pc : Nat) (lv : List (Nat × Value)) (M0 : Mem), decode cX6_readAll pc = .ok (.return_, 1) → Q M0 → V w G pc lv [] M0) (k_X7_clear : Ct_X7_clear w l) (k_X6_skipBlanks : Ct_X6_skipBlanks w l) (k_X6_readClause : Ct_X6_readClause w l) (M : Mem) (h : bd_X6_readAll Q (fun (x1 : Int32) (M : Mem) => V w G 38 [(0, .ref (w.2.1 3)), (1, .int x1)] [] M) M) : V w G 0 [(0, .ref (w.2.1 3))] [] M := by
  unfold bd_X6_readAll at h
  refine v_aload_n C 0 rfl dX6_readAll_0 ?_
  refine g5_0 C kb3 kd3 fl_X6_12 dX6_readAll_1 ?_
  obtain ⟨s1, h⟩ := h
  refine v_callV C [] (by rw [hG]; exact (k_X7_clear 4 M sc4 s1)) yX7_clear_k ml_X6_41 (rcv6 sc4.l0 sc4.k0) rfl rfl (Nat.le_of_ble_eq_true rfl) ⟨by decide, by decide⟩ dX6_readAll_4 (fun M2 em2 => ?_)
  have h := h M2 em2
  refine v_aload_n C 0 rfl dX6_readAll_7 ?_
  refine v_kc C (0) (by decide) dX6_readAll_8 ?_
  refine p5_1 C kb3 kd3 fl_X6_18 dX6_readAll_9 (fun M3 e3 => ?_)
  have h := h M3 e3
  refine v_aload_n C 0 rfl dX6_readAll_12 ?_
  refine v_kc C (0) (by decide) dX6_readAll_13 ?_
  refine p5_2 C kb3 kd3 fl_X6_22 dX6_readAll_14 (fun M4 e4 => ?_)
  have h := h M4 e4
  refine v_aload_n C 0 rfl dX6_readAll_17 ?_
  refine v_kc C (0) (by decide) dX6_readAll_18 ?_
  refine p5_3 C kb3 kd3 fl_X6_25 dX6_readAll_19 (fun M5 e5 => ?_)
  have h := h M5 e5
  refine v_aload_n C 0 rfl dX6_readAll_22 ?_
  refine v_kc C (-1) (by decide) dX6_readAll_23 ?_
  refine p5_4 C kb3 kd3 fl_X6_28 dX6_readAll_24 (fun M6 e6 => ?_)
  have h := h M6 e6
  refine v_aload_n C 0 rfl dX6_readAll_27 ?_
  refine v_kc C (0) (by decide) dX6_readAll_28 ?_
  refine p5_6 C kb3 kd3 fl_X6_31 dX6_readAll_29 (fun M7 e7 => ?_)
  have h := h M7 e7
  refine v_aload_n C 0 rfl dX6_readAll_32 ?_
  obtain ⟨s8, h⟩ := h
  refine v_callV C [] (by rw [hG]; exact (k_X6_skipBlanks M7 s8)) yX6_skipBlanks_k ml_X6_44 (rcv5 kb3 kd3) rfl rfl (Nat.le_of_ble_eq_true rfl) ⟨by decide, by decide⟩ dX6_readAll_33 (fun M9 em9 => ?_)
  have h := h M9 em9
  refine v_kc C (0) (by decide) dX6_readAll_36 ?_
  refine v_istore_n C [(1, .int ((0 : Int32))), (0, .ref (w.2.1 3))] rfl (by decide) dX6_readAll_37 ?_
  exact V.sub [1, 0] rfl h
set_option maxRecDepth 4000 in
theorem wk_X6_readAll_38 {w : Wx} {G : Gx} {l : Launch} {Q : Mem → Prop} (C : Cx w G cX6_readAll RX6 6 130 2) (hG : G.2.1 = l) (Rt : ∀ (pc : Nat) (lv : List (Nat × Value)) (M0 : Mem), decode cX6_readAll pc = .ok (.return_, 1) → Q M0 → V w G pc lv [] M0) (k_X7_clear : Ct_X7_clear w l) (k_X6_skipBlanks : Ct_X6_skipBlanks w l) (k_X6_readClause : Ct_X6_readClause w l) (x1 : Int32) (M : Mem) (h : bd_X6_readAll_38 Q (fun (x1 : Int32) (M : Mem) => V w G 38 [(0, .ref (w.2.1 3)), (1, .int x1)] [] M) x1 M) : V w G 38 [(0, .ref (w.2.1 3)), (1, .int x1)] [] M := by
  unfold bd_X6_readAll_38 at h
  refine v_iload_n C 1 rfl dX6_readAll_38 ?_
  refine v_ks C (240) (by decide) dX6_readAll_39 ?_
  refine v_icmp_gt C 80 (by decide) dX6_readAll_42 (fun hc => ?_) (fun hc => ?_)
  · have h := h.1 hc
    exact Rt _ _ _ dX6_readAll_80 h
  · have h := h.2 hc
    refine v_aload_n C 0 rfl dX6_readAll_45 ?_
    refine g5_3 C kb3 kd3 fl_X6_25 dX6_readAll_46 ?_
    refine v_if_ne C 80 (by decide) dX6_readAll_49 (fun hc => ?_) (fun hc => ?_)
    · have h := h.2 hc
      exact Rt _ _ _ dX6_readAll_80 h
    · have h := h.1 hc
      refine v_aload_n C 0 rfl dX6_readAll_52 ?_
      refine g5_6 C kb3 kd3 fl_X6_31 dX6_readAll_53 ?_
      refine v_aload_n C 0 rfl dX6_readAll_56 ?_
      refine g5_5 C kb3 kd3 fl_X6_37 dX6_readAll_57 ?_
      refine g7_1 C kb1 kd1 fl_X6_47 dX6_readAll_60 ?_
      refine v_icmp_ge C 80 (by decide) dX6_readAll_63 (fun hc => ?_) (fun hc => ?_)
      · have h := h.1 hc
        exact Rt _ _ _ dX6_readAll_80 h
      · have h := h.2 hc
        refine v_aload_n C 0 rfl dX6_readAll_66 ?_
        obtain ⟨s1, h⟩ := h
        refine v_callV C [] (by rw [hG]; exact (k_X6_readClause M s1)) yX6_readClause_k ml_X6_52 (rcv5 kb3 kd3) rfl rfl (Nat.le_of_ble_eq_true rfl) ⟨by decide, by decide⟩ dX6_readAll_67 (fun M2 em2 => ?_)
        have h := h M2 em2
        refine v_aload_n C 0 rfl dX6_readAll_70 ?_
        obtain ⟨s3, h⟩ := h
        refine v_callV C [] (by rw [hG]; exact (k_X6_skipBlanks M2 s3)) yX6_skipBlanks_k ml_X6_44 (rcv5 kb3 kd3) rfl rfl (Nat.le_of_ble_eq_true rfl) ⟨by decide, by decide⟩ dX6_readAll_71 (fun M4 em4 => ?_)
        have h := h M4 em4
        refine v_iinc C (j := 1) [(1, .int (x1 + 1)), (0, .ref (w.2.1 3))] rfl (x1 + 1) rfl rfl (by decide) dX6_readAll_74 ?_
        refine v_goto C 38 (by decide) dX6_readAll_77 ?_
        exact V.sub [1, 0] rfl h
theorem mt_X6_readAll {w : Wx} {l : Launch} (k_X7_clear : Ct_X7_clear w l) (k_X6_skipBlanks : Ct_X6_skipBlanks w l) (k_X6_readClause : Ct_X6_readClause w l) (pu : Pu_X6_readAll) : Ct_X6_readAll w l := by
  intro M hp
  refine met_v (by decide +kernel) (Nat.le_of_ble_eq_true rfl) (fun G C hG Rt => ?_)
  exact wk_X6_readAll C hG Rt k_X7_clear k_X6_skipBlanks k_X6_readClause M (pu M hp _ _ (fun x1 M h => wk_X6_readAll_38 C hG Rt k_X7_clear k_X6_skipBlanks k_X6_readClause x1 M h) rfl)
set_option maxRecDepth 4000 in
theorem wk_X7_copyFrom {w : Wx} {G : Gx} {l : Launch} {Q : Mem → Prop} (C : Cx w G cX7_copyFrom RX7 1 40 2) (hG : G.2.1 = l) (Rt : ∀ (pc : Nat) (lv : List (Nat × Value)) (M0 : Mem), decode cX7_copyFrom pc = .ok (.return_, 1) → Q M0 → V w G pc lv [] M0) (b : Nat) (d : Nat) (hb : Sc b) (hd : Sc d) (M : Mem) (h : bd_X7_copyFrom Q b d M) : V w G 0 [(0, .ref (w.2.1 b)), (1, .ref (w.2.1 d))] [] M := by
  unfold bd_X7_copyFrom at h
  refine v_aload_n C 0 rfl dX7_copyFrom_0 ?_
  refine v_aload_n C 1 rfl dX7_copyFrom_1 ?_
  refine g6_0 C hd.l0 hd.k0 fl_X7_9 dX7_copyFrom_2 ?_
  refine p6_0 C hb.l0 hb.k0 fl_X7_9 dX7_copyFrom_5 (fun M1 e1 => ?_)
  have h := h M1 e1
  refine v_aload_n C 0 rfl dX7_copyFrom_8 ?_
  refine v_aload_n C 1 rfl dX7_copyFrom_9 ?_
  refine g6_1 C hd.l0 hd.k0 fl_X7_15 dX7_copyFrom_10 ?_
  refine p6_1 C hb.l0 hb.k0 fl_X7_15 dX7_copyFrom_13 (fun M2 e2 => ?_)
  have h := h M2 e2
  refine v_aload_n C 1 rfl dX7_copyFrom_16 ?_
  refine g6_2 C hd.l0 hd.k0 fl_X7_18 dX7_copyFrom_17 ?_
  refine v_kc C (0) (by decide) dX7_copyFrom_20 ?_
  refine v_aload_n C 0 rfl dX7_copyFrom_21 ?_
  refine g6_2 C hb.l0 hb.k0 fl_X7_18 dX7_copyFrom_22 ?_
  refine v_kc C (0) (by decide) dX7_copyFrom_25 ?_
  refine v_kb C (8) (by decide) dX7_copyFrom_26 ?_
  refine v_copy8 C ml_X7_37 hd.l1 hd.k1 hd.n1 hb.l1 hb.k1 hb.n1 (by decide) (Nat.le_of_ble_eq_true rfl) dX7_copyFrom_28 (fun M3 e3 => ?_)
  have h := h M3 e3
  refine v_aload_n C 1 rfl dX7_copyFrom_31 ?_
  refine g6_3 C hd.l0 hd.k0 fl_X7_22 dX7_copyFrom_32 ?_
  refine v_kc C (0) (by decide) dX7_copyFrom_35 ?_
  refine v_aload_n C 0 rfl dX7_copyFrom_36 ?_
  refine g6_3 C hb.l0 hb.k0 fl_X7_22 dX7_copyFrom_37 ?_
  refine v_kc C (0) (by decide) dX7_copyFrom_40 ?_
  refine v_kb C (8) (by decide) dX7_copyFrom_41 ?_
  refine v_copy8 C ml_X7_37 hd.l2 hd.k2 hd.n2 hb.l2 hb.k2 hb.n2 (by decide) (Nat.le_of_ble_eq_true rfl) dX7_copyFrom_43 (fun M4 e4 => ?_)
  have h := h M4 e4
  refine v_aload_n C 1 rfl dX7_copyFrom_46 ?_
  refine g6_4 C hd.l0 hd.k0 fl_X7_25 dX7_copyFrom_47 ?_
  refine v_kc C (0) (by decide) dX7_copyFrom_50 ?_
  refine v_aload_n C 0 rfl dX7_copyFrom_51 ?_
  refine g6_4 C hb.l0 hb.k0 fl_X7_25 dX7_copyFrom_52 ?_
  refine v_kc C (0) (by decide) dX7_copyFrom_55 ?_
  refine v_kb C (8) (by decide) dX7_copyFrom_56 ?_
  refine v_copy8 C ml_X7_37 hd.l3 hd.k3 hd.n3 hb.l3 hb.k3 hb.n3 (by decide) (Nat.le_of_ble_eq_true rfl) dX7_copyFrom_58 (fun M5 e5 => ?_)
  have h := h M5 e5
  refine v_aload_n C 1 rfl dX7_copyFrom_61 ?_
  refine g6_5 C hd.l0 hd.k0 fl_X7_28 dX7_copyFrom_62 ?_
  refine v_kc C (0) (by decide) dX7_copyFrom_65 ?_
  refine v_aload_n C 0 rfl dX7_copyFrom_66 ?_
  refine g6_5 C hb.l0 hb.k0 fl_X7_28 dX7_copyFrom_67 ?_
  refine v_kc C (0) (by decide) dX7_copyFrom_70 ?_
  refine v_kb C (8) (by decide) dX7_copyFrom_71 ?_
  refine v_copy8 C ml_X7_37 hd.l4 hd.k4 hd.n4 hb.l4 hb.k4 hb.n4 (by decide) (Nat.le_of_ble_eq_true rfl) dX7_copyFrom_73 (fun M6 e6 => ?_)
  have h := h M6 e6
  refine v_aload_n C 1 rfl dX7_copyFrom_76 ?_
  refine g6_6 C hd.l0 hd.k0 fl_X7_31 dX7_copyFrom_77 ?_
  refine v_kc C (0) (by decide) dX7_copyFrom_80 ?_
  refine v_aload_n C 0 rfl dX7_copyFrom_81 ?_
  refine g6_6 C hb.l0 hb.k0 fl_X7_31 dX7_copyFrom_82 ?_
  refine v_kc C (0) (by decide) dX7_copyFrom_85 ?_
  refine v_kb C (8) (by decide) dX7_copyFrom_86 ?_
  refine v_copy8 C ml_X7_37 hd.l5 hd.k5 hd.n5 hb.l5 hb.k5 hb.n5 (by decide) (Nat.le_of_ble_eq_true rfl) dX7_copyFrom_88 (fun M7 e7 => ?_)
  have h := h M7 e7
  exact Rt _ _ _ dX7_copyFrom_91 h
theorem mt_X7_copyFrom {w : Wx} {l : Launch} (pu : Pu_X7_copyFrom) : Ct_X7_copyFrom w l := by
  intro b d M hb hd hp
  refine met_v (by decide +kernel) (Nat.le_of_ble_eq_true rfl) (fun G C hG Rt => ?_)
  exact wk_X7_copyFrom C hG Rt b d hb hd M (pu b d M hb hd hp _ rfl)
set_option maxRecDepth 4000 in
theorem wk_X5_forget {w : Wx} {G : Gx} {l : Launch} {Q : Mem → Prop} (C : Cx w G cX5_forget RX5 0 0 2) (hG : G.2.1 = l) (Rt : ∀ (pc : Nat) (lv : List (Nat × Value)) (M0 : Mem), decode cX5_forget pc = .ok (.return_, 1) → Q M0 → V w G pc lv [] M0) (M : Mem) (h : bd_X5_forget Q (fun (x1 : Int32) (M : Mem) => V w G 2 [(0, .ref (w.2.1 167)), (1, .int x1)] [] M) M) : V w G 0 [(0, .ref (w.2.1 167))] [] M := by
  unfold bd_X5_forget at h
  refine v_kc C (0) (by decide) dX5_forget_0 ?_
  refine v_istore_n C [(1, .int ((0 : Int32))), (0, .ref (w.2.1 167))] rfl (by decide) dX5_forget_1 ?_
  exact V.sub [1, 0] rfl h
set_option maxRecDepth 4000 in
theorem wk_X5_forget_2 {w : Wx} {G : Gx} {l : Launch} {Q : Mem → Prop} (C : Cx w G cX5_forget RX5 0 0 2) (hG : G.2.1 = l) (Rt : ∀ (pc : Nat) (lv : List (Nat × Value)) (M0 : Mem), decode cX5_forget pc = .ok (.return_, 1) → Q M0 → V w G pc lv [] M0) (x1 : Int32) (M : Mem) (h : bd_X5_forget_2 Q (fun (x1 : Int32) (M : Mem) => V w G 2 [(0, .ref (w.2.1 167)), (1, .int x1)] [] M) x1 M) : V w G 2 [(0, .ref (w.2.1 167)), (1, .int x1)] [] M := by
  unfold bd_X5_forget_2 at h
  refine v_iload_n C 1 rfl dX5_forget_2 ?_
  refine v_kc C (2) (by decide) dX5_forget_3 ?_
  refine v_icmp_ge C 20 (by decide) dX5_forget_4 (fun hc => ?_) (fun hc => ?_)
  · have h := h.1 hc
    exact Rt _ _ _ dX5_forget_20 h
  · have h := h.2 hc
    refine v_aload_n C 0 rfl dX5_forget_7 ?_
    refine g4_2 C kb167 kd167 fl_X5_21 dX5_forget_8 ?_
    refine v_iload_n C 1 rfl dX5_forget_11 ?_
    refine v_kc C (0) (by decide) dX5_forget_12 ?_
    obtain ⟨s1, h⟩ := h
    refine v_zast C kb170 kd170 ln170 s1 dX5_forget_13 (fun M2 e2 => ?_)
    have h := h M2 e2
    refine v_iinc C (j := 1) [(1, .int (x1 + 1)), (0, .ref (w.2.1 167))] rfl (x1 + 1) rfl rfl (by decide) dX5_forget_14 ?_
    refine v_goto C 2 (by decide) dX5_forget_17 ?_
    exact V.sub [1, 0] rfl h
theorem mt_X5_forget {w : Wx} {l : Launch} (pu : Pu_X5_forget) : Ct_X5_forget w l := by
  intro M hp
  refine met_v (by decide +kernel) (Nat.le_of_ble_eq_true rfl) (fun G C hG Rt => ?_)
  exact wk_X5_forget C hG Rt M (pu M hp _ _ (fun x1 M h => wk_X5_forget_2 C hG Rt x1 M h) rfl)
set_option maxRecDepth 4000 in
theorem wk_X4_forget {w : Wx} {G : Gx} {l : Launch} {Q : Mem → Prop} (C : Cx w G cX4_forget RX4 0 0 1) (hG : G.2.1 = l) (Rt : ∀ (pc : Nat) (lv : List (Nat × Value)) (M0 : Mem), decode cX4_forget pc = .ok (.return_, 1) → Q M0 → V w G pc lv [] M0) (M : Mem) (h : bd_X4_forget Q M) : V w G 0 [(0, .ref (w.2.1 25))] [] M := by
  unfold bd_X4_forget at h
  refine v_aload_n C 0 rfl dX4_forget_0 ?_
  refine v_kc C (0) (by decide) dX4_forget_1 ?_
  refine p3_2 C kb25 kd25 fl_X4_21 dX4_forget_2 (fun M1 e1 => ?_)
  have h := h M1 e1
  exact Rt _ _ _ dX4_forget_5 h
theorem mt_X4_forget {w : Wx} {l : Launch} (pu : Pu_X4_forget) : Ct_X4_forget w l := by
  intro M hp
  refine met_v (by decide +kernel) (Nat.le_of_ble_eq_true rfl) (fun G C hG Rt => ?_)
  exact wk_X4_forget C hG Rt M (pu M hp _ rfl)
