set_option maxRecDepth 4000 in
theorem wk_X10_stepsRefused {w : Wx} {G : Gx} {l : Launch} {Q : Int32 → Mem → Prop} (C : Cx w G cX10_stepsRefused RX10 1 25 2) (hG : G.2.1 = l) (Rt : ∀ (pc : Nat) (lv : List (Nat × Value)) (r0 : Int32) (M0 : Mem), decode cX10_stepsRefused pc = .ok (.ireturn, 1) → Q r0 M0 → V w G pc lv [.int r0] M0) (k_X10_in : Ct_X10_in w l) (a1 : Int32) (M : Mem) (h : bd_X10_stepsRefused Q a1 M) : V w G 0 [(0, .ref (w.2.1 211)), (1, .int a1)] [] M := by
  unfold bd_X10_stepsRefused at h
  refine v_iload_n C 1 rfl dX10_stepsRefused_0 ?_
  refine v_i2l C dX10_stepsRefused_1 ?_
  refine v_lconst C 1 (by decide) dX10_stepsRefused_2 ?_
  refine v_ldc2 C kl_X10_192 dX10_stepsRefused_3 ?_
  obtain ⟨s1, h⟩ := h
  refine v_callSI C [] (by rw [hG]; exact (k_X10_in a1.toInt64 ((1 : Int64)) ((60 : Int64)) M s1)) yX10_in_k ml_X10_81 rfl rfl (Nat.le_of_ble_eq_true rfl) ⟨by decide, by decide⟩ dX10_stepsRefused_6 (fun r2 M2 er2 em2 => ?_)
  refine V.eqM em2 ?_
  have h := h r2 er2
  refine v_if_ne C 15 (by decide) dX10_stepsRefused_9 (fun hc => ?_) (fun hc => ?_)
  · have h := h.2 hc
    refine v_aload_n C 0 rfl dX10_stepsRefused_15 ?_
    refine g9_0 C kb211 kd211 fl_X10_78 dX10_stepsRefused_16 ?_
    refine v_if_ne C 27 (by decide) dX10_stepsRefused_19 (fun hc => ?_) (fun hc => ?_)
    · have h := h.2 hc
      refine v_aload_n C 0 rfl dX10_stepsRefused_27 ?_
      refine g9_5 C kb211 kd211 fl_X10_16 dX10_stepsRefused_28 ?_
      refine v_kb C (40) (by decide) dX10_stepsRefused_31 ?_
      obtain ⟨s3, h⟩ := h
      refine v_iald C kb214 kd214 ln214 s3 dX10_stepsRefused_33 ?_
      refine v_ks C (9000) (by decide) dX10_stepsRefused_34 ?_
      refine v_icmp_le C 45 (by decide) dX10_stepsRefused_37 (fun hc => ?_) (fun hc => ?_)
      · have h := h.1 hc
        refine v_kc C (0) (by decide) dX10_stepsRefused_45 ?_
        exact Rt _ _ _ _ dX10_stepsRefused_46 h
      · have h := h.2 hc
        refine v_ldc C kc_X10_98 dX10_stepsRefused_40 ?_
        refine v_goto C 46 (by decide) dX10_stepsRefused_42 ?_
        exact Rt _ _ _ _ dX10_stepsRefused_46 h
    · have h := h.1 hc
      refine v_ldc C kc_X10_194 dX10_stepsRefused_22 ?_
      refine v_goto C 46 (by decide) dX10_stepsRefused_24 ?_
      exact Rt _ _ _ _ dX10_stepsRefused_46 h
  · have h := h.1 hc
    refine v_ldc C kc_X10_94 dX10_stepsRefused_12 ?_
    exact Rt _ _ _ _ dX10_stepsRefused_14 h
theorem mt_X10_stepsRefused {w : Wx} {l : Launch} (k_X10_in : Ct_X10_in w l) (pu : Pu_X10_stepsRefused) : Ct_X10_stepsRefused w l := by
  intro a1 M hp
  refine met_i (by decide +kernel) (Nat.le_of_ble_eq_true rfl) (fun G C hG Rt => ?_)
  exact wk_X10_stepsRefused C hG Rt k_X10_in a1 M (pu a1 M hp _ ⟨rfl, rfl⟩)
set_option maxRecDepth 4000 in
theorem wk_X10_remember {w : Wx} {G : Gx} {l : Launch} {Q : Mem → Prop} (C : Cx w G cX10_remember RX10 0 0 2) (hG : G.2.1 = l) (Rt : ∀ (pc : Nat) (lv : List (Nat × Value)) (M0 : Mem), decode cX10_remember pc = .ok (.return_, 1) → Q M0 → V w G pc lv [] M0) (M : Mem) (h : bd_X10_remember Q (fun (x1 : Int32) (M : Mem) => V w G 12 [(0, .ref (w.2.1 211)), (1, .int x1)] [] M) (fun (x1 : Int32) (M : Mem) => V w G 52 [(0, .ref (w.2.1 211)), (1, .int x1)] [] M) M) : V w G 0 [(0, .ref (w.2.1 211))] [] M := by
  unfold bd_X10_remember at h
  refine v_aload_n C 0 rfl dX10_remember_0 ?_
  refine g9_20 C kb211 kd211 fl_X10_156 dX10_remember_1 ?_
  refine v_kb C (20) (by decide) dX10_remember_4 ?_
  refine v_icmp_ne C 50 (by decide) dX10_remember_6 (fun hc => ?_) (fun hc => ?_)
  · have h := h.2 hc
    refine v_kc C (0) (by decide) dX10_remember_50 ?_
    refine v_istore_n C [(1, .int ((0 : Int32))), (0, .ref (w.2.1 211))] rfl (by decide) dX10_remember_51 ?_
    exact V.sub [1, 0] rfl h
  · have h := h.1 hc
    refine v_kb C (41) (by decide) dX10_remember_9 ?_
    refine v_istore_n C [(1, .int ((41 : Int32))), (0, .ref (w.2.1 211))] rfl (by decide) dX10_remember_11 ?_
    exact V.sub [1, 0] rfl h
set_option maxRecDepth 4000 in
theorem wk_X10_remember_12 {w : Wx} {G : Gx} {l : Launch} {Q : Mem → Prop} (C : Cx w G cX10_remember RX10 0 0 2) (hG : G.2.1 = l) (Rt : ∀ (pc : Nat) (lv : List (Nat × Value)) (M0 : Mem), decode cX10_remember pc = .ok (.return_, 1) → Q M0 → V w G pc lv [] M0) (x1 : Int32) (M : Mem) (h : bd_X10_remember_12 Q (fun (x1 : Int32) (M : Mem) => V w G 12 [(0, .ref (w.2.1 211)), (1, .int x1)] [] M) (fun (x1 : Int32) (M : Mem) => V w G 52 [(0, .ref (w.2.1 211)), (1, .int x1)] [] M) x1 M) : V w G 12 [(0, .ref (w.2.1 211)), (1, .int x1)] [] M := by
  unfold bd_X10_remember_12 at h
  refine v_iload_n C 1 rfl dX10_remember_12 ?_
  refine v_ks C (820) (by decide) dX10_remember_13 ?_
  refine v_icmp_ge C 40 (by decide) dX10_remember_16 (fun hc => ?_) (fun hc => ?_)
  · have h := h.1 hc
    refine v_aload_n C 0 rfl dX10_remember_40 ?_
    refine v_dup C rfl dX10_remember_41 ?_
    refine g9_20 C kb211 kd211 fl_X10_156 dX10_remember_42 ?_
    refine v_kc C (1) (by decide) dX10_remember_45 ?_
    refine v_isub C dX10_remember_46 ?_
    refine p9_20 C kb211 kd211 fl_X10_156 dX10_remember_47 (fun M1 e1 => ?_)
    have h := h M1 e1
    refine v_kc C (0) (by decide) dX10_remember_50 ?_
    refine v_istore_n C [(1, .int ((0 : Int32))), (0, .ref (w.2.1 211))] rfl (by decide) dX10_remember_51 ?_
    exact V.sub [1, 0] rfl h
  · have h := h.2 hc
    refine v_aload_n C 0 rfl dX10_remember_19 ?_
    refine g9_21 C kb211 kd211 fl_X10_44 dX10_remember_20 ?_
    refine v_iload_n C 1 rfl dX10_remember_23 ?_
    refine v_kb C (41) (by decide) dX10_remember_24 ?_
    refine v_isub C dX10_remember_26 ?_
    refine v_aload_n C 0 rfl dX10_remember_27 ?_
    refine g9_21 C kb211 kd211 fl_X10_44 dX10_remember_28 ?_
    refine v_iload_n C 1 rfl dX10_remember_31 ?_
    obtain ⟨s2, h⟩ := h
    refine v_iald C kb222 kd222 ln222 s2 dX10_remember_32 ?_
    obtain ⟨s3, h⟩ := h
    refine v_iast C kb222 kd222 ln222 s3 dX10_remember_33 (fun M4 e4 => ?_)
    have h := h M4 e4
    refine v_iinc C (j := 1) [(1, .int (x1 + 1)), (0, .ref (w.2.1 211))] rfl (x1 + 1) rfl rfl (by decide) dX10_remember_34 ?_
    refine v_goto C 12 (by decide) dX10_remember_37 ?_
    exact V.sub [1, 0] rfl h
set_option maxRecDepth 4000 in
theorem wk_X10_remember_52 {w : Wx} {G : Gx} {l : Launch} {Q : Mem → Prop} (C : Cx w G cX10_remember RX10 0 0 2) (hG : G.2.1 = l) (Rt : ∀ (pc : Nat) (lv : List (Nat × Value)) (M0 : Mem), decode cX10_remember pc = .ok (.return_, 1) → Q M0 → V w G pc lv [] M0) (x1 : Int32) (M : Mem) (h : bd_X10_remember_52 Q (fun (x1 : Int32) (M : Mem) => V w G 12 [(0, .ref (w.2.1 211)), (1, .int x1)] [] M) (fun (x1 : Int32) (M : Mem) => V w G 52 [(0, .ref (w.2.1 211)), (1, .int x1)] [] M) x1 M) : V w G 52 [(0, .ref (w.2.1 211)), (1, .int x1)] [] M := by
  unfold bd_X10_remember_52 at h
  refine v_iload_n C 1 rfl dX10_remember_52 ?_
  refine v_kb C (41) (by decide) dX10_remember_53 ?_
  refine v_icmp_ge C 84 (by decide) dX10_remember_55 (fun hc => ?_) (fun hc => ?_)
  · have h := h.1 hc
    refine v_aload_n C 0 rfl dX10_remember_84 ?_
    refine v_dup C rfl dX10_remember_85 ?_
    refine g9_20 C kb211 kd211 fl_X10_156 dX10_remember_86 ?_
    refine v_kc C (1) (by decide) dX10_remember_89 ?_
    refine v_iadd C dX10_remember_90 ?_
    refine p9_20 C kb211 kd211 fl_X10_156 dX10_remember_91 (fun M1 e1 => ?_)
    have h := h M1 e1
    exact Rt _ _ _ dX10_remember_94 h
  · have h := h.2 hc
    refine v_aload_n C 0 rfl dX10_remember_58 ?_
    refine g9_21 C kb211 kd211 fl_X10_44 dX10_remember_59 ?_
    refine v_kb C (41) (by decide) dX10_remember_62 ?_
    refine v_aload_n C 0 rfl dX10_remember_64 ?_
    refine g9_20 C kb211 kd211 fl_X10_156 dX10_remember_65 ?_
    refine v_imul C dX10_remember_68 ?_
    refine v_iload_n C 1 rfl dX10_remember_69 ?_
    refine v_iadd C dX10_remember_70 ?_
    refine v_aload_n C 0 rfl dX10_remember_71 ?_
    refine g9_5 C kb211 kd211 fl_X10_16 dX10_remember_72 ?_
    refine v_iload_n C 1 rfl dX10_remember_75 ?_
    obtain ⟨s2, h⟩ := h
    refine v_iald C kb214 kd214 ln214 s2 dX10_remember_76 ?_
    obtain ⟨s3, h⟩ := h
    refine v_iast C kb222 kd222 ln222 s3 dX10_remember_77 (fun M4 e4 => ?_)
    have h := h M4 e4
    refine v_iinc C (j := 1) [(1, .int (x1 + 1)), (0, .ref (w.2.1 211))] rfl (x1 + 1) rfl rfl (by decide) dX10_remember_78 ?_
    refine v_goto C 52 (by decide) dX10_remember_81 ?_
    exact V.sub [1, 0] rfl h
theorem mt_X10_remember {w : Wx} {l : Launch} (pu : Pu_X10_remember) : Ct_X10_remember w l := by
  intro M hp
  refine met_v (by decide +kernel) (Nat.le_of_ble_eq_true rfl) (fun G C hG Rt => ?_)
  exact wk_X10_remember C hG Rt M (pu M hp _ _ _ (fun x1 M h => wk_X10_remember_12 C hG Rt x1 M h) (fun x1 M h => wk_X10_remember_52 C hG Rt x1 M h) rfl)
set_option maxRecDepth 4000 in
theorem wk_X10_stepAll {w : Wx} {G : Gx} {l : Launch} {Q : Mem → Prop} (C : Cx w G cX10_stepAll RX10 1 22 3) (hG : G.2.1 = l) (Rt : ∀ (pc : Nat) (lv : List (Nat × Value)) (M0 : Mem), decode cX10_stepAll pc = .ok (.return_, 1) → Q M0 → V w G pc lv [] M0) (k_X10_cornerOf : Ct_X10_cornerOf w l) (M : Mem) (h : bd_X10_stepAll Q (fun (x1 : Int32) (M : Mem) => V w G 2 [(0, .ref (w.2.1 211)), (1, .int x1)] [] M) (fun (x1 : Int32) (M : Mem) => V w G 30 [(0, .ref (w.2.1 211)), (1, .int x1)] [] M) M) : V w G 0 [(0, .ref (w.2.1 211))] [] M := by
  unfold bd_X10_stepAll at h
  refine v_kc C (0) (by decide) dX10_stepAll_0 ?_
  refine v_istore_n C [(1, .int ((0 : Int32))), (0, .ref (w.2.1 211))] rfl (by decide) dX10_stepAll_1 ?_
  exact V.sub [1, 0] rfl h
set_option maxRecDepth 4000 in
theorem wk_X10_stepAll_2 {w : Wx} {G : Gx} {l : Launch} {Q : Mem → Prop} (C : Cx w G cX10_stepAll RX10 1 22 3) (hG : G.2.1 = l) (Rt : ∀ (pc : Nat) (lv : List (Nat × Value)) (M0 : Mem), decode cX10_stepAll pc = .ok (.return_, 1) → Q M0 → V w G pc lv [] M0) (k_X10_cornerOf : Ct_X10_cornerOf w l) (x1 : Int32) (M : Mem) (h : bd_X10_stepAll_2 Q (fun (x1 : Int32) (M : Mem) => V w G 2 [(0, .ref (w.2.1 211)), (1, .int x1)] [] M) (fun (x1 : Int32) (M : Mem) => V w G 30 [(0, .ref (w.2.1 211)), (1, .int x1)] [] M) x1 M) : V w G 2 [(0, .ref (w.2.1 211)), (1, .int x1)] [] M := by
  unfold bd_X10_stepAll_2 at h
  refine v_iload_n C 1 rfl dX10_stepAll_2 ?_
  refine v_aload_n C 0 rfl dX10_stepAll_3 ?_
  refine g9_2 C kb211 kd211 fl_X10_85 dX10_stepAll_4 ?_
  refine v_icmp_ge C 28 (by decide) dX10_stepAll_7 (fun hc => ?_) (fun hc => ?_)
  · have h := h.1 hc
    refine v_kc C (0) (by decide) dX10_stepAll_28 ?_
    refine v_istore_n C [(1, .int ((0 : Int32))), (0, .ref (w.2.1 211))] rfl (by decide) dX10_stepAll_29 ?_
    exact V.sub [1, 0] rfl h
  · have h := h.2 hc
    refine v_aload_n C 0 rfl dX10_stepAll_10 ?_
    refine g9_19 C kb211 kd211 fl_X10_41 dX10_stepAll_11 ?_
    refine v_iload_n C 1 rfl dX10_stepAll_14 ?_
    refine v_aload_n C 0 rfl dX10_stepAll_15 ?_
    refine g9_5 C kb211 kd211 fl_X10_16 dX10_stepAll_16 ?_
    refine v_iload_n C 1 rfl dX10_stepAll_19 ?_
    obtain ⟨s1, h⟩ := h
    refine v_iald C kb214 kd214 ln214 s1 dX10_stepAll_20 ?_
    obtain ⟨s2, h⟩ := h
    refine v_iast C kb221 kd221 ln221 s2 dX10_stepAll_21 (fun M3 e3 => ?_)
    have h := h M3 e3
    refine v_iinc C (j := 1) [(1, .int (x1 + 1)), (0, .ref (w.2.1 211))] rfl (x1 + 1) rfl rfl (by decide) dX10_stepAll_22 ?_
    refine v_goto C 2 (by decide) dX10_stepAll_25 ?_
    exact V.sub [1, 0] rfl h
set_option maxRecDepth 4000 in
theorem wk_X10_stepAll_30 {w : Wx} {G : Gx} {l : Launch} {Q : Mem → Prop} (C : Cx w G cX10_stepAll RX10 1 22 3) (hG : G.2.1 = l) (Rt : ∀ (pc : Nat) (lv : List (Nat × Value)) (M0 : Mem), decode cX10_stepAll pc = .ok (.return_, 1) → Q M0 → V w G pc lv [] M0) (k_X10_cornerOf : Ct_X10_cornerOf w l) (x1 : Int32) (M : Mem) (h : bd_X10_stepAll_30 Q (fun (x1 : Int32) (M : Mem) => V w G 2 [(0, .ref (w.2.1 211)), (1, .int x1)] [] M) (fun (x1 : Int32) (M : Mem) => V w G 30 [(0, .ref (w.2.1 211)), (1, .int x1)] [] M) x1 M) : V w G 30 [(0, .ref (w.2.1 211)), (1, .int x1)] [] M := by
  unfold bd_X10_stepAll_30 at h
  refine v_iload_n C 1 rfl dX10_stepAll_30 ?_
  refine v_aload_n C 0 rfl dX10_stepAll_31 ?_
  refine g9_2 C kb211 kd211 fl_X10_85 dX10_stepAll_32 ?_
  refine v_icmp_ge C 152 (by decide) dX10_stepAll_35 (fun hc => ?_) (fun hc => ?_)
  · have h := h.1 hc
    refine v_aload_n C 0 rfl dX10_stepAll_152 ?_
    refine g9_5 C kb211 kd211 fl_X10_16 dX10_stepAll_153 ?_
    refine v_kb C (40) (by decide) dX10_stepAll_156 ?_
    refine v_dup2 C rfl rfl dX10_stepAll_158 ?_
    obtain ⟨s1, h⟩ := h
    refine v_iald C kb214 kd214 ln214 s1 dX10_stepAll_159 ?_
    refine v_kc C (1) (by decide) dX10_stepAll_160 ?_
    refine v_iadd C dX10_stepAll_161 ?_
    obtain ⟨s2, h⟩ := h
    refine v_iast C kb214 kd214 ln214 s2 dX10_stepAll_162 (fun M3 e3 => ?_)
    have h := h M3 e3
    exact Rt _ _ _ dX10_stepAll_163 h
  · have h := h.2 hc
    refine v_aload_n C 0 rfl dX10_stepAll_38 ?_
    refine g9_5 C kb211 kd211 fl_X10_16 dX10_stepAll_39 ?_
    refine v_kb C (8) (by decide) dX10_stepAll_42 ?_
    refine v_iload_n C 1 rfl dX10_stepAll_44 ?_
    refine v_iadd C dX10_stepAll_45 ?_
    obtain ⟨s4, h⟩ := h
    refine v_iald C kb214 kd214 ln214 s4 dX10_stepAll_46 ?_
    refine v_istore_n C [(2, .int (M 214 (((8 : Int32)) + x1).toNatClampNeg)), (0, .ref (w.2.1 211)), (1, .int x1)] rfl (by decide) dX10_stepAll_47 ?_
    refine v_iload_n C 0 rfl dX10_stepAll_48 ?_
    refine v_if_lt C 67 (by decide) dX10_stepAll_49 (fun hc => ?_) (fun hc => ?_)
    · have h := h.1 hc
      refine v_aload_n C 1 rfl dX10_stepAll_67 ?_
      refine g9_5 C kb211 kd211 fl_X10_16 dX10_stepAll_68 ?_
      refine v_iload_n C 2 rfl dX10_stepAll_71 ?_
      refine v_aload_n C 1 rfl dX10_stepAll_72 ?_
      refine v_iload_n C 2 rfl dX10_stepAll_73 ?_
      refine v_aload_n C 1 rfl dX10_stepAll_74 ?_
      refine g9_5 C kb211 kd211 fl_X10_16 dX10_stepAll_75 ?_
      refine v_kb C (16) (by decide) dX10_stepAll_78 ?_
      refine v_iload_n C 2 rfl dX10_stepAll_80 ?_
      refine v_iadd C dX10_stepAll_81 ?_
      obtain ⟨s5, h⟩ := h
      refine v_iald C kb214 kd214 ln214 s5 dX10_stepAll_82 ?_
      obtain ⟨s6, h⟩ := h
      refine v_callI C [.int x1, .ref (w.2.1 214)] (by rw [hG]; exact (k_X10_cornerOf x1 (M 214 (((16 : Int32)) + x1).toNatClampNeg) M s6)) yX10_cornerOf_k ml_X10_159 (rcv9 kb211 kd211) rfl rfl (Nat.le_of_ble_eq_true rfl) ⟨by decide, by decide⟩ dX10_stepAll_83 (fun r7 M7 er7 em7 => ?_)
      refine V.eqM em7 ?_
      have h := h r7 er7
      obtain ⟨s8, h⟩ := h
      refine v_iast C kb214 kd214 ln214 s8 dX10_stepAll_86 (fun M9 e9 => ?_)
      have h := h M9 e9
      refine v_aload_n C 1 rfl dX10_stepAll_87 ?_
      refine g9_5 C kb211 kd211 fl_X10_16 dX10_stepAll_88 ?_
      refine v_kb C (16) (by decide) dX10_stepAll_91 ?_
      refine v_iload_n C 2 rfl dX10_stepAll_93 ?_
      refine v_iadd C dX10_stepAll_94 ?_
      refine v_aload_n C 1 rfl dX10_stepAll_95 ?_
      refine g9_5 C kb211 kd211 fl_X10_16 dX10_stepAll_96 ?_
      refine v_kb C (16) (by decide) dX10_stepAll_99 ?_
      refine v_iload_n C 2 rfl dX10_stepAll_101 ?_
      refine v_iadd C dX10_stepAll_102 ?_
      obtain ⟨s10, h⟩ := h
      refine v_iald C kb214 kd214 ln214 s10 dX10_stepAll_103 ?_
      refine v_kc C (1) (by decide) dX10_stepAll_104 ?_
      refine v_iadd C dX10_stepAll_105 ?_
      refine v_aload_n C 1 rfl dX10_stepAll_106 ?_
      refine g9_4 C kb211 kd211 fl_X10_13 dX10_stepAll_107 ?_
      refine v_iload_n C 2 rfl dX10_stepAll_110 ?_
      obtain ⟨s11, h⟩ := h
      refine v_iald C kb213 kd213 ln213 s11 dX10_stepAll_111 ?_
      obtain ⟨s12, h⟩ := h
      refine v_irem C s12 dX10_stepAll_112 ?_
      obtain ⟨s13, h⟩ := h
      refine v_iast C kb214 kd214 ln214 s13 dX10_stepAll_113 (fun M14 e14 => ?_)
      have h := h M14 e14
      refine v_aload_n C 1 rfl dX10_stepAll_114 ?_
      refine g9_5 C kb211 kd211 fl_X10_16 dX10_stepAll_115 ?_
      refine v_kb C (24) (by decide) dX10_stepAll_118 ?_
      refine v_iload_n C 2 rfl dX10_stepAll_120 ?_
      refine v_iadd C dX10_stepAll_121 ?_
      refine v_dup2 C rfl rfl dX10_stepAll_122 ?_
      obtain ⟨s15, h⟩ := h
      refine v_iald C kb214 kd214 ln214 s15 dX10_stepAll_123 ?_
      refine v_aload_n C 1 rfl dX10_stepAll_124 ?_
      refine g9_5 C kb211 kd211 fl_X10_16 dX10_stepAll_125 ?_
      refine v_iload_n C 2 rfl dX10_stepAll_128 ?_
      obtain ⟨s16, h⟩ := h
      refine v_iald C kb214 kd214 ln214 s16 dX10_stepAll_129 ?_
      refine v_aload_n C 1 rfl dX10_stepAll_130 ?_
      refine g9_19 C kb211 kd211 fl_X10_41 dX10_stepAll_131 ?_
      refine v_iload_n C 2 rfl dX10_stepAll_134 ?_
      obtain ⟨s17, h⟩ := h
      refine v_iald C kb221 kd221 ln221 s17 dX10_stepAll_135 ?_
      have key18 : V w G 144 [(2, .int (M 214 (((8 : Int32)) + x1).toNatClampNeg)), (0, .ref (w.2.1 211)), (1, .int x1)] (.int (if (M14 214 x1.toNatClampNeg) = (M14 221 x1.toNatClampNeg) then (0 : Int32) else (1 : Int32)) :: .int (M14 214 (((24 : Int32)) + x1).toNatClampNeg) :: .int (((24 : Int32)) + x1) :: .ref (w.2.1 214) :: []) M14 := by
        refine v_iadd C dX10_stepAll_144 ?_
        obtain ⟨s19, h⟩ := h
        refine v_iast C kb214 kd214 ln214 s19 dX10_stepAll_145 (fun M20 e20 => ?_)
        have h := h M20 e20
        refine v_iinc C (j := 2) [(1, .int (x1 + 1)), (2, .int (M 214 (((8 : Int32)) + x1).toNatClampNeg)), (0, .ref (w.2.1 211))] rfl (x1 + 1) rfl rfl (by decide) dX10_stepAll_146 ?_
        refine v_goto C 30 (by decide) dX10_stepAll_149 ?_
        exact V.sub [2, 0] rfl h
      refine v_icmp_ne C 143 (by decide) dX10_stepAll_136 (fun hc => ?_) (fun hc => ?_)
      · rw [if_neg hc] at key18
        refine v_kc C (1) (by decide) dX10_stepAll_143 ?_
        exact key18
      · rw [if_pos hc] at key18
        refine v_kc C (0) (by decide) dX10_stepAll_139 ?_
        refine v_goto C 144 (by decide) dX10_stepAll_140 ?_
        exact key18
    · have h := h.2 hc
      refine v_aload_n C 1 rfl dX10_stepAll_52 ?_
      refine g9_5 C kb211 kd211 fl_X10_16 dX10_stepAll_53 ?_
      refine v_iload_n C 2 rfl dX10_stepAll_56 ?_
      refine v_aload_n C 1 rfl dX10_stepAll_57 ?_
      refine g9_19 C kb211 kd211 fl_X10_41 dX10_stepAll_58 ?_
      refine v_iload_n C 0 rfl dX10_stepAll_61 ?_
      obtain ⟨s21, h⟩ := h
      refine v_iald C kb221 kd221 ln221 s21 dX10_stepAll_62 ?_
      obtain ⟨s22, h⟩ := h
      refine v_iast C kb214 kd214 ln214 s22 dX10_stepAll_63 (fun M23 e23 => ?_)
      have h := h M23 e23
      refine v_goto C 114 (by decide) dX10_stepAll_64 ?_
      refine v_aload_n C 1 rfl dX10_stepAll_114 ?_
      refine g9_5 C kb211 kd211 fl_X10_16 dX10_stepAll_115 ?_
      refine v_kb C (24) (by decide) dX10_stepAll_118 ?_
      refine v_iload_n C 2 rfl dX10_stepAll_120 ?_
      refine v_iadd C dX10_stepAll_121 ?_
      refine v_dup2 C rfl rfl dX10_stepAll_122 ?_
      obtain ⟨s24, h⟩ := h
      refine v_iald C kb214 kd214 ln214 s24 dX10_stepAll_123 ?_
      refine v_aload_n C 1 rfl dX10_stepAll_124 ?_
      refine g9_5 C kb211 kd211 fl_X10_16 dX10_stepAll_125 ?_
      refine v_iload_n C 2 rfl dX10_stepAll_128 ?_
      obtain ⟨s25, h⟩ := h
      refine v_iald C kb214 kd214 ln214 s25 dX10_stepAll_129 ?_
      refine v_aload_n C 1 rfl dX10_stepAll_130 ?_
      refine g9_19 C kb211 kd211 fl_X10_41 dX10_stepAll_131 ?_
      refine v_iload_n C 2 rfl dX10_stepAll_134 ?_
      obtain ⟨s26, h⟩ := h
      refine v_iald C kb221 kd221 ln221 s26 dX10_stepAll_135 ?_
      have key27 : V w G 144 [(2, .int (M 214 (((8 : Int32)) + x1).toNatClampNeg)), (0, .ref (w.2.1 211)), (1, .int x1)] (.int (if (M23 214 x1.toNatClampNeg) = (M23 221 x1.toNatClampNeg) then (0 : Int32) else (1 : Int32)) :: .int (M23 214 (((24 : Int32)) + x1).toNatClampNeg) :: .int (((24 : Int32)) + x1) :: .ref (w.2.1 214) :: []) M23 := by
        refine v_iadd C dX10_stepAll_144 ?_
        obtain ⟨s28, h⟩ := h
        refine v_iast C kb214 kd214 ln214 s28 dX10_stepAll_145 (fun M29 e29 => ?_)
        have h := h M29 e29
        refine v_iinc C (j := 2) [(1, .int (x1 + 1)), (2, .int (M 214 (((8 : Int32)) + x1).toNatClampNeg)), (0, .ref (w.2.1 211))] rfl (x1 + 1) rfl rfl (by decide) dX10_stepAll_146 ?_
        refine v_goto C 30 (by decide) dX10_stepAll_149 ?_
        exact V.sub [2, 0] rfl h
      refine v_icmp_ne C 143 (by decide) dX10_stepAll_136 (fun hc => ?_) (fun hc => ?_)
      · rw [if_neg hc] at key27
        refine v_kc C (1) (by decide) dX10_stepAll_143 ?_
        exact key27
      · rw [if_pos hc] at key27
        refine v_kc C (0) (by decide) dX10_stepAll_139 ?_
        refine v_goto C 144 (by decide) dX10_stepAll_140 ?_
        exact key27
theorem mt_X10_stepAll {w : Wx} {l : Launch} (k_X10_cornerOf : Ct_X10_cornerOf w l) (pu : Pu_X10_stepAll) : Ct_X10_stepAll w l := by
  intro M hp
  refine met_v (by decide +kernel) (Nat.le_of_ble_eq_true rfl) (fun G C hG Rt => ?_)
  exact wk_X10_stepAll C hG Rt k_X10_cornerOf M (pu M hp _ _ _ (fun x1 M h => wk_X10_stepAll_2 C hG Rt k_X10_cornerOf x1 M h) (fun x1 M h => wk_X10_stepAll_30 C hG Rt k_X10_cornerOf x1 M h) rfl)
set_option maxRecDepth 4000 in
theorem wk_X10_step {w : Wx} {G : Gx} {l : Launch} {Q : Int32 → Mem → Prop} (C : Cx w G cX10_step RX10 2 46 4) (hG : G.2.1 = l) (Rt : ∀ (pc : Nat) (lv : List (Nat × Value)) (r0 : Int32) (M0 : Mem), decode cX10_step pc = .ok (.ireturn, 1) → Q r0 M0 → V w G pc lv [.int r0] M0) (k_X10_stepsRefused : Ct_X10_stepsRefused w l) (k_X10_remember : Ct_X10_remember w l) (k_X10_stepAll : Ct_X10_stepAll w l) (a1 : Int32) (M : Mem) (h : bd_X10_step Q (fun (x3 : Int32) (M : Mem) => V w G 18 [(0, .ref (w.2.1 211)), (1, .int a1), (3, .int x3)] [] M) a1 M) : V w G 0 [(0, .ref (w.2.1 211)), (1, .int a1)] [] M := by
  unfold bd_X10_step at h
  refine v_aload_n C 0 rfl dX10_step_0 ?_
  refine v_iload_n C 1 rfl dX10_step_1 ?_
  obtain ⟨s1, h⟩ := h
  refine v_callI C [] (by rw [hG]; exact (k_X10_stepsRefused a1 M s1)) yX10_stepsRefused_k ml_X10_195 (rcv9 kb211 kd211) rfl rfl (Nat.le_of_ble_eq_true rfl) ⟨by decide, by decide⟩ dX10_step_2 (fun r2 M2 er2 em2 => ?_)
  refine V.eqM em2 ?_
  have h := h r2 er2
  refine v_istore_n C [(2, .int r2), (0, .ref (w.2.1 211)), (1, .int a1)] rfl (by decide) dX10_step_5 ?_
  refine v_iload_n C 0 rfl dX10_step_6 ?_
  refine v_if_eq C 12 (by decide) dX10_step_7 (fun hc => ?_) (fun hc => ?_)
  · have h := h.1 hc
    refine v_aload_n C 1 rfl dX10_step_12 ?_
    obtain ⟨s3, h⟩ := h
    refine v_callV C [] (by rw [hG]; exact (k_X10_remember M s3)) yX10_remember_k ml_X10_198 (rcv9 kb211 kd211) rfl rfl (Nat.le_of_ble_eq_true rfl) ⟨by decide, by decide⟩ dX10_step_13 (fun M4 em4 => ?_)
    have h := h M4 em4
    refine v_kc C (0) (by decide) dX10_step_16 ?_
    refine v_istore_n C [(3, .int ((0 : Int32))), (2, .int r2), (0, .ref (w.2.1 211)), (1, .int a1)] rfl (by decide) dX10_step_17 ?_
    exact V.sub [2, 3, 0] rfl h
  · have h := h.2 hc
    refine v_iload_n C 0 rfl dX10_step_10 ?_
    exact Rt _ _ _ _ dX10_step_11 h
set_option maxRecDepth 4000 in
theorem wk_X10_step_18 {w : Wx} {G : Gx} {l : Launch} {Q : Int32 → Mem → Prop} (C : Cx w G cX10_step RX10 2 46 4) (hG : G.2.1 = l) (Rt : ∀ (pc : Nat) (lv : List (Nat × Value)) (r0 : Int32) (M0 : Mem), decode cX10_step pc = .ok (.ireturn, 1) → Q r0 M0 → V w G pc lv [.int r0] M0) (k_X10_stepsRefused : Ct_X10_stepsRefused w l) (k_X10_remember : Ct_X10_remember w l) (k_X10_stepAll : Ct_X10_stepAll w l) (a1 : Int32) (x3 : Int32) (M : Mem) (h : bd_X10_step_18 Q (fun (x3 : Int32) (M : Mem) => V w G 18 [(0, .ref (w.2.1 211)), (1, .int a1), (3, .int x3)] [] M) a1 x3 M) : V w G 18 [(0, .ref (w.2.1 211)), (1, .int a1), (3, .int x3)] [] M := by
  unfold bd_X10_step_18 at h
  refine v_iload_n C 2 rfl dX10_step_18 ?_
  refine v_iload_n C 1 rfl dX10_step_19 ?_
  refine v_icmp_ge C 33 (by decide) dX10_step_20 (fun hc => ?_) (fun hc => ?_)
  · have h := h.1 hc
    refine v_aload_n C 0 rfl dX10_step_33 ?_
    refine g9_5 C kb211 kd211 fl_X10_16 dX10_step_34 ?_
    refine v_kb C (40) (by decide) dX10_step_37 ?_
    obtain ⟨s1, h⟩ := h
    refine v_iald C kb214 kd214 ln214 s1 dX10_step_39 ?_
    exact Rt _ _ _ _ dX10_step_40 h
  · have h := h.2 hc
    refine v_aload_n C 0 rfl dX10_step_23 ?_
    obtain ⟨s2, h⟩ := h
    refine v_callV C [] (by rw [hG]; exact (k_X10_stepAll M s2)) yX10_stepAll_k ml_X10_201 (rcv9 kb211 kd211) rfl rfl (Nat.le_of_ble_eq_true rfl) ⟨by decide, by decide⟩ dX10_step_24 (fun M3 em3 => ?_)
    have h := h M3 em3
    refine v_iinc C (j := 2) [(3, .int (x3 + 1)), (0, .ref (w.2.1 211)), (1, .int a1)] rfl (x3 + 1) rfl rfl (by decide) dX10_step_27 ?_
    refine v_goto C 18 (by decide) dX10_step_30 ?_
    exact V.sub [1, 2, 0] rfl h
theorem mt_X10_step {w : Wx} {l : Launch} (k_X10_stepsRefused : Ct_X10_stepsRefused w l) (k_X10_remember : Ct_X10_remember w l) (k_X10_stepAll : Ct_X10_stepAll w l) (pu : Pu_X10_step) : Ct_X10_step w l := by
  intro a1 M hp
  refine met_i (by decide +kernel) (Nat.le_of_ble_eq_true rfl) (fun G C hG Rt => ?_)
  exact wk_X10_step C hG Rt k_X10_stepsRefused k_X10_remember k_X10_stepAll a1 M (pu a1 M hp _ _ (fun x3 M h => wk_X10_step_18 C hG Rt k_X10_stepsRefused k_X10_remember k_X10_stepAll a1 x3 M h) ⟨rfl, rfl⟩)
set_option maxRecDepth 4000 in
theorem wk_X10_areTwo {w : Wx} {G : Gx} {l : Launch} {Q : Int32 → Mem → Prop} (C : Cx w G cX10_areTwo RX10 2 46 3) (hG : G.2.1 = l) (Rt : ∀ (pc : Nat) (lv : List (Nat × Value)) (r0 : Int32) (M0 : Mem), decode cX10_areTwo pc = .ok (.ireturn, 1) → Q r0 M0 → V w G pc lv [.int r0] M0) (k_X10_isCar : Ct_X10_isCar w l) (a1 : Int32) (a2 : Int32) (M : Mem) (h : bd_X10_areTwo Q a1 a2 M) : V w G 0 [(0, .ref (w.2.1 211)), (1, .int a1), (2, .int a2)] [] M := by
  unfold bd_X10_areTwo at h
  refine v_aload_n C 0 rfl dX10_areTwo_0 ?_
  refine v_iload_n C 1 rfl dX10_areTwo_1 ?_
  obtain ⟨s1, h⟩ := h
  refine v_callI C [] (by rw [hG]; exact (k_X10_isCar a1 M s1)) yX10_isCar_k ml_X10_88 (rcv9 kb211 kd211) rfl rfl (Nat.le_of_ble_eq_true rfl) ⟨by decide, by decide⟩ dX10_areTwo_2 (fun r2 M2 er2 em2 => ?_)
  refine V.eqM em2 ?_
  have h := h r2 er2
  refine v_if_eq C 25 (by decide) dX10_areTwo_5 (fun hc => ?_) (fun hc => ?_)
  · have h := h.1 hc
    refine v_kc C (0) (by decide) dX10_areTwo_25 ?_
    exact Rt _ _ _ _ dX10_areTwo_26 h
  · have h := h.2 hc
    refine v_aload_n C 0 rfl dX10_areTwo_8 ?_
    refine v_iload_n C 2 rfl dX10_areTwo_9 ?_
    obtain ⟨s3, h⟩ := h
    refine v_callI C [] (by rw [hG]; exact (k_X10_isCar a2 M s3)) yX10_isCar_k ml_X10_88 (rcv9 kb211 kd211) rfl rfl (Nat.le_of_ble_eq_true rfl) ⟨by decide, by decide⟩ dX10_areTwo_10 (fun r4 M4 er4 em4 => ?_)
    refine V.eqM em4 ?_
    have h := h r4 er4
    refine v_if_eq C 25 (by decide) dX10_areTwo_13 (fun hc => ?_) (fun hc => ?_)
    · have h := h.1 hc
      refine v_kc C (0) (by decide) dX10_areTwo_25 ?_
      exact Rt _ _ _ _ dX10_areTwo_26 h
    · have h := h.2 hc
      refine v_iload_n C 1 rfl dX10_areTwo_16 ?_
      refine v_iload_n C 2 rfl dX10_areTwo_17 ?_
      have key5 : V w G 26 [(0, .ref (w.2.1 211)), (1, .int a1), (2, .int a2)] (.int (if a1 = a2 then (0 : Int32) else (1 : Int32)) :: []) M := by
        exact Rt _ _ _ _ dX10_areTwo_26 h
      refine v_icmp_eq C 25 (by decide) dX10_areTwo_18 (fun hc => ?_) (fun hc => ?_)
      · rw [if_pos hc] at key5
        refine v_kc C (0) (by decide) dX10_areTwo_25 ?_
        exact key5
      · rw [if_neg hc] at key5
        refine v_kc C (1) (by decide) dX10_areTwo_21 ?_
        refine v_goto C 26 (by decide) dX10_areTwo_22 ?_
        exact key5
theorem mt_X10_areTwo {w : Wx} {l : Launch} (k_X10_isCar : Ct_X10_isCar w l) (pu : Pu_X10_areTwo) : Ct_X10_areTwo w l := by
  intro a1 a2 M hp
  refine met_z (by decide +kernel) (Nat.le_of_ble_eq_true rfl) (pu a1 a2 M hp).1 (fun G C hG Rt => ?_)
  exact wk_X10_areTwo C hG Rt k_X10_isCar a1 a2 M ((pu a1 a2 M hp).2 _ ⟨rfl, rfl⟩)
set_option maxRecDepth 4000 in
theorem wk_X10_follow {w : Wx} {G : Gx} {l : Launch} {Q : Int32 → Mem → Prop} (C : Cx w G cX10_follow RX10 3 68 4) (hG : G.2.1 = l) (Rt : ∀ (pc : Nat) (lv : List (Nat × Value)) (r0 : Int32) (M0 : Mem), decode cX10_follow pc = .ok (.ireturn, 1) → Q r0 M0 → V w G pc lv [.int r0] M0) (k_X10_areTwo : Ct_X10_areTwo w l) (k_X10_remember : Ct_X10_remember w l) (a1 : Int32) (a2 : Int32) (M : Mem) (h : bd_X10_follow Q a1 a2 M) : V w G 0 [(0, .ref (w.2.1 211)), (1, .int a1), (2, .int a2)] [] M := by
  unfold bd_X10_follow at h
  refine v_aload_n C 0 rfl dX10_follow_0 ?_
  refine v_iload_n C 1 rfl dX10_follow_1 ?_
  refine v_iload_n C 2 rfl dX10_follow_2 ?_
  obtain ⟨s1, h⟩ := h
  refine v_callI C [] (by rw [hG]; exact (k_X10_areTwo a1 a2 M s1)) yX10_areTwo_k ml_X10_204 (rcv9 kb211 kd211) rfl rfl (Nat.le_of_ble_eq_true rfl) ⟨by decide, by decide⟩ dX10_follow_3 (fun r2 M2 er2 em2 => ?_)
  refine V.eqM em2 ?_
  have h := h r2 er2
  refine v_if_ne C 12 (by decide) dX10_follow_6 (fun hc => ?_) (fun hc => ?_)
  · have h := h.2 hc
    refine v_aload_n C 0 rfl dX10_follow_12 ?_
    obtain ⟨s3, h⟩ := h
    refine v_callV C [] (by rw [hG]; exact (k_X10_remember M s3)) yX10_remember_k ml_X10_198 (rcv9 kb211 kd211) rfl rfl (Nat.le_of_ble_eq_true rfl) ⟨by decide, by decide⟩ dX10_follow_13 (fun M4 em4 => ?_)
    have h := h M4 em4
    refine v_aload_n C 0 rfl dX10_follow_16 ?_
    refine g9_5 C kb211 kd211 fl_X10_16 dX10_follow_17 ?_
    refine v_kb C (8) (by decide) dX10_follow_20 ?_
    refine v_iload_n C 1 rfl dX10_follow_22 ?_
    refine v_iadd C dX10_follow_23 ?_
    obtain ⟨s5, h⟩ := h
    refine v_iald C kb214 kd214 ln214 s5 dX10_follow_24 ?_
    refine v_istore_n C [(3, .int (M4 214 (((8 : Int32)) + a1).toNatClampNeg)), (0, .ref (w.2.1 211)), (1, .int a1), (2, .int a2)] rfl (by decide) dX10_follow_25 ?_
    refine v_aload_n C 1 rfl dX10_follow_26 ?_
    refine g9_5 C kb211 kd211 fl_X10_16 dX10_follow_27 ?_
    refine v_kb C (8) (by decide) dX10_follow_30 ?_
    refine v_iload_n C 2 rfl dX10_follow_32 ?_
    refine v_iadd C dX10_follow_33 ?_
    refine v_iload_n C 3 rfl dX10_follow_34 ?_
    obtain ⟨s6, h⟩ := h
    refine v_iast C kb214 kd214 ln214 s6 dX10_follow_35 (fun M7 e7 => ?_)
    have h := h M7 e7
    refine v_iload_n C 0 rfl dX10_follow_36 ?_
    exact Rt _ _ _ _ dX10_follow_37 h
  · have h := h.1 hc
    refine v_ldc C kc_X10_188 dX10_follow_9 ?_
    exact Rt _ _ _ _ dX10_follow_11 h
theorem mt_X10_follow {w : Wx} {l : Launch} (k_X10_areTwo : Ct_X10_areTwo w l) (k_X10_remember : Ct_X10_remember w l) (pu : Pu_X10_follow) : Ct_X10_follow w l := by
  intro a1 a2 M hp
  refine met_i (by decide +kernel) (Nat.le_of_ble_eq_true rfl) (fun G C hG Rt => ?_)
  exact wk_X10_follow C hG Rt k_X10_areTwo k_X10_remember a1 a2 M (pu a1 a2 M hp _ ⟨rfl, rfl⟩)
set_option maxRecDepth 4000 in
theorem wk_X10_letOff {w : Wx} {G : Gx} {l : Launch} {Q : Int32 → Mem → Prop} (C : Cx w G cX10_letOff RX10 2 46 3) (hG : G.2.1 = l) (Rt : ∀ (pc : Nat) (lv : List (Nat × Value)) (r0 : Int32) (M0 : Mem), decode cX10_letOff pc = .ok (.ireturn, 1) → Q r0 M0 → V w G pc lv [.int r0] M0) (k_X10_isCar : Ct_X10_isCar w l) (k_X10_remember : Ct_X10_remember w l) (a1 : Int32) (M : Mem) (h : bd_X10_letOff Q a1 M) : V w G 0 [(0, .ref (w.2.1 211)), (1, .int a1)] [] M := by
  unfold bd_X10_letOff at h
  refine v_aload_n C 0 rfl dX10_letOff_0 ?_
  refine v_iload_n C 1 rfl dX10_letOff_1 ?_
  obtain ⟨s1, h⟩ := h
  refine v_callI C [] (by rw [hG]; exact (k_X10_isCar a1 M s1)) yX10_isCar_k ml_X10_88 (rcv9 kb211 kd211) rfl rfl (Nat.le_of_ble_eq_true rfl) ⟨by decide, by decide⟩ dX10_letOff_2 (fun r2 M2 er2 em2 => ?_)
  refine V.eqM em2 ?_
  have h := h r2 er2
  refine v_if_ne C 11 (by decide) dX10_letOff_5 (fun hc => ?_) (fun hc => ?_)
  · have h := h.2 hc
    refine v_aload_n C 0 rfl dX10_letOff_11 ?_
    refine g9_5 C kb211 kd211 fl_X10_16 dX10_letOff_12 ?_
    refine v_kb C (8) (by decide) dX10_letOff_15 ?_
    refine v_iload_n C 1 rfl dX10_letOff_17 ?_
    refine v_iadd C dX10_letOff_18 ?_
    obtain ⟨s3, h⟩ := h
    refine v_iald C kb214 kd214 ln214 s3 dX10_letOff_19 ?_
    refine v_if_ge C 26 (by decide) dX10_letOff_20 (fun hc => ?_) (fun hc => ?_)
    · have h := h.1 hc
      refine v_aload_n C 0 rfl dX10_letOff_26 ?_
      obtain ⟨s4, h⟩ := h
      refine v_callV C [] (by rw [hG]; exact (k_X10_remember M s4)) yX10_remember_k ml_X10_198 (rcv9 kb211 kd211) rfl rfl (Nat.le_of_ble_eq_true rfl) ⟨by decide, by decide⟩ dX10_letOff_27 (fun M5 em5 => ?_)
      have h := h M5 em5
      refine v_aload_n C 0 rfl dX10_letOff_30 ?_
      refine g9_5 C kb211 kd211 fl_X10_16 dX10_letOff_31 ?_
      refine v_kb C (8) (by decide) dX10_letOff_34 ?_
      refine v_iload_n C 1 rfl dX10_letOff_36 ?_
      refine v_iadd C dX10_letOff_37 ?_
      obtain ⟨s6, h⟩ := h
      refine v_iald C kb214 kd214 ln214 s6 dX10_letOff_38 ?_
      refine v_istore_n C [(2, .int (M5 214 (((8 : Int32)) + a1).toNatClampNeg)), (0, .ref (w.2.1 211)), (1, .int a1)] rfl (by decide) dX10_letOff_39 ?_
      refine v_aload_n C 1 rfl dX10_letOff_40 ?_
      refine g9_5 C kb211 kd211 fl_X10_16 dX10_letOff_41 ?_
      refine v_kb C (8) (by decide) dX10_letOff_44 ?_
      refine v_iload_n C 2 rfl dX10_letOff_46 ?_
      refine v_iadd C dX10_letOff_47 ?_
      refine v_kc C (-1) (by decide) dX10_letOff_48 ?_
      obtain ⟨s7, h⟩ := h
      refine v_iast C kb214 kd214 ln214 s7 dX10_letOff_49 (fun M8 e8 => ?_)
      have h := h M8 e8
      refine v_iload_n C 0 rfl dX10_letOff_50 ?_
      exact Rt _ _ _ _ dX10_letOff_51 h
    · have h := h.2 hc
      refine v_ldc C kc_X10_194 dX10_letOff_23 ?_
      exact Rt _ _ _ _ dX10_letOff_25 h
  · have h := h.1 hc
    refine v_ldc C kc_X10_188 dX10_letOff_8 ?_
    exact Rt _ _ _ _ dX10_letOff_10 h
theorem mt_X10_letOff {w : Wx} {l : Launch} (k_X10_isCar : Ct_X10_isCar w l) (k_X10_remember : Ct_X10_remember w l) (pu : Pu_X10_letOff) : Ct_X10_letOff w l := by
  intro a1 M hp
  refine met_i (by decide +kernel) (Nat.le_of_ble_eq_true rfl) (fun G C hG Rt => ?_)
  exact wk_X10_letOff C hG Rt k_X10_isCar k_X10_remember a1 M (pu a1 M hp _ ⟨rfl, rfl⟩)
set_option maxRecDepth 4000 in
theorem wk_X10_turn {w : Wx} {G : Gx} {l : Launch} {Q : Int32 → Mem → Prop} (C : Cx w G cX10_turn RX10 2 46 2) (hG : G.2.1 = l) (Rt : ∀ (pc : Nat) (lv : List (Nat × Value)) (r0 : Int32) (M0 : Mem), decode cX10_turn pc = .ok (.ireturn, 1) → Q r0 M0 → V w G pc lv [.int r0] M0) (k_X10_isCar : Ct_X10_isCar w l) (k_X10_remember : Ct_X10_remember w l) (k_X10_roundOf : Ct_X10_roundOf w l) (a1 : Int32) (M : Mem) (h : bd_X10_turn Q a1 M) : V w G 0 [(0, .ref (w.2.1 211)), (1, .int a1)] [] M := by
  unfold bd_X10_turn at h
  refine v_aload_n C 0 rfl dX10_turn_0 ?_
  refine v_iload_n C 1 rfl dX10_turn_1 ?_
  obtain ⟨s1, h⟩ := h
  refine v_callI C [] (by rw [hG]; exact (k_X10_isCar a1 M s1)) yX10_isCar_k ml_X10_88 (rcv9 kb211 kd211) rfl rfl (Nat.le_of_ble_eq_true rfl) ⟨by decide, by decide⟩ dX10_turn_2 (fun r2 M2 er2 em2 => ?_)
  refine V.eqM em2 ?_
  have h := h r2 er2
  refine v_if_ne C 11 (by decide) dX10_turn_5 (fun hc => ?_) (fun hc => ?_)
  · have h := h.2 hc
    refine v_aload_n C 0 rfl dX10_turn_11 ?_
    obtain ⟨s3, h⟩ := h
    refine v_callV C [] (by rw [hG]; exact (k_X10_remember M s3)) yX10_remember_k ml_X10_198 (rcv9 kb211 kd211) rfl rfl (Nat.le_of_ble_eq_true rfl) ⟨by decide, by decide⟩ dX10_turn_12 (fun M4 em4 => ?_)
    have h := h M4 em4
    refine v_aload_n C 0 rfl dX10_turn_15 ?_
    refine g9_5 C kb211 kd211 fl_X10_16 dX10_turn_16 ?_
    refine v_kb C (32) (by decide) dX10_turn_19 ?_
    refine v_iload_n C 1 rfl dX10_turn_21 ?_
    refine v_iadd C dX10_turn_22 ?_
    refine v_kc C (1) (by decide) dX10_turn_23 ?_
    refine v_aload_n C 0 rfl dX10_turn_24 ?_
    refine g9_5 C kb211 kd211 fl_X10_16 dX10_turn_25 ?_
    refine v_kb C (32) (by decide) dX10_turn_28 ?_
    refine v_iload_n C 1 rfl dX10_turn_30 ?_
    refine v_iadd C dX10_turn_31 ?_
    obtain ⟨s5, h⟩ := h
    refine v_iald C kb214 kd214 ln214 s5 dX10_turn_32 ?_
    refine v_isub C dX10_turn_33 ?_
    obtain ⟨s6, h⟩ := h
    refine v_iast C kb214 kd214 ln214 s6 dX10_turn_34 (fun M7 e7 => ?_)
    have h := h M7 e7
    refine v_aload_n C 0 rfl dX10_turn_35 ?_
    refine g9_5 C kb211 kd211 fl_X10_16 dX10_turn_36 ?_
    refine v_kb C (16) (by decide) dX10_turn_39 ?_
    refine v_iload_n C 1 rfl dX10_turn_41 ?_
    refine v_iadd C dX10_turn_42 ?_
    refine v_kc C (0) (by decide) dX10_turn_43 ?_
    obtain ⟨s8, h⟩ := h
    refine v_iast C kb214 kd214 ln214 s8 dX10_turn_44 (fun M9 e9 => ?_)
    have h := h M9 e9
    refine v_aload_n C 0 rfl dX10_turn_45 ?_
    refine v_iload_n C 1 rfl dX10_turn_46 ?_
    obtain ⟨s10, h⟩ := h
    refine v_callI C [] (by rw [hG]; exact (k_X10_roundOf a1 M9 s10)) yX10_roundOf_k ml_X10_189 (rcv9 kb211 kd211) rfl rfl (Nat.le_of_ble_eq_true rfl) ⟨by decide, by decide⟩ dX10_turn_47 (fun r11 M11 er11 em11 => ?_)
    refine V.eqM em11 ?_
    have h := h r11 er11
    exact Rt _ _ _ _ dX10_turn_50 h
  · have h := h.1 hc
    refine v_ldc C kc_X10_188 dX10_turn_8 ?_
    exact Rt _ _ _ _ dX10_turn_10 h
theorem mt_X10_turn {w : Wx} {l : Launch} (k_X10_isCar : Ct_X10_isCar w l) (k_X10_remember : Ct_X10_remember w l) (k_X10_roundOf : Ct_X10_roundOf w l) (pu : Pu_X10_turn) : Ct_X10_turn w l := by
  intro a1 M hp
  refine met_i (by decide +kernel) (Nat.le_of_ble_eq_true rfl) (fun G C hG Rt => ?_)
  exact wk_X10_turn C hG Rt k_X10_isCar k_X10_remember k_X10_roundOf a1 M (pu a1 M hp _ ⟨rfl, rfl⟩)
set_option maxRecDepth 4000 in
theorem wk_X10_draw {w : Wx} {G : Gx} {l : Launch} {Q : Int32 → Mem → Prop} (C : Cx w G cX10_draw RX10 0 0 2) (hG : G.2.1 = l) (Rt : ∀ (pc : Nat) (lv : List (Nat × Value)) (r0 : Int32) (M0 : Mem), decode cX10_draw pc = .ok (.ireturn, 1) → Q r0 M0 → V w G pc lv [.int r0] M0) (a1 : Int32) (M : Mem) (h : bd_X10_draw Q a1 M) : V w G 0 [(0, .ref (w.2.1 211)), (1, .int a1)] [] M := by
  unfold bd_X10_draw at h
  refine v_aload_n C 0 rfl dX10_draw_0 ?_
  refine v_aload_n C 0 rfl dX10_draw_1 ?_
  refine g9_6 C kb211 kd211 fl_X10_207 dX10_draw_2 ?_
  refine v_i2l C dX10_draw_5 ?_
  refine v_ldc2 C kl_X10_210 dX10_draw_6 ?_
  refine v_lmul C dX10_draw_9 ?_
  refine v_ldc2 C kl_X10_212 dX10_draw_10 ?_
  refine v_ladd C dX10_draw_13 ?_
  refine v_ldc2 C kl_X10_214 dX10_draw_14 ?_
  refine v_lrem C (by decide) dX10_draw_17 ?_
  refine v_l2i C dX10_draw_18 ?_
  refine p9_6 C kb211 kd211 fl_X10_207 dX10_draw_19 (fun M1 e1 => ?_)
  have h := h M1 e1
  refine v_aload_n C 0 rfl dX10_draw_22 ?_
  refine g9_6 C kb211 kd211 fl_X10_207 dX10_draw_23 ?_
  refine v_ldc C kc_X10_216 dX10_draw_26 ?_
  refine v_idiv C (by decide) dX10_draw_28 ?_
  refine v_iload_n C 1 rfl dX10_draw_29 ?_
  obtain ⟨s2, h⟩ := h
  refine v_irem C s2 dX10_draw_30 ?_
  exact Rt _ _ _ _ dX10_draw_31 h
theorem mt_X10_draw {w : Wx} {l : Launch} (pu : Pu_X10_draw) : Ct_X10_draw w l := by
  intro a1 M hp
  refine met_i (by decide +kernel) (Nat.le_of_ble_eq_true rfl) (fun G C hG Rt => ?_)
  exact wk_X10_draw C hG Rt a1 M (pu a1 M hp _ ⟨rfl, rfl⟩)
set_option maxRecDepth 4000 in
theorem wk_X10_chance {w : Wx} {G : Gx} {l : Launch} {Q : Mem → Prop} (C : Cx w G cX10_chance RX10 1 21 4) (hG : G.2.1 = l) (Rt : ∀ (pc : Nat) (lv : List (Nat × Value)) (M0 : Mem), decode cX10_chance pc = .ok (.return_, 1) → Q M0 → V w G pc lv [] M0) (k_X10_draw : Ct_X10_draw w l) (M : Mem) (h : bd_X10_chance Q M) : V w G 0 [(0, .ref (w.2.1 211))] [] M := by
  unfold bd_X10_chance at h
  refine v_aload_n C 0 rfl dX10_chance_0 ?_
  refine v_aload_n C 0 rfl dX10_chance_1 ?_
  refine g9_2 C kb211 kd211 fl_X10_85 dX10_chance_2 ?_
  obtain ⟨s1, h⟩ := h
  refine v_callI C [] (by rw [hG]; exact (k_X10_draw (M 211 2) M s1)) yX10_draw_k ml_X10_217 (rcv9 kb211 kd211) rfl rfl (Nat.le_of_ble_eq_true rfl) ⟨by decide, by decide⟩ dX10_chance_5 (fun r2 M2 er2 em2 => ?_)
  have h := h r2 M2 er2 em2
  refine v_istore_n C [(1, .int r2), (0, .ref (w.2.1 211))] rfl (by decide) dX10_chance_8 ?_
  refine v_aload_n C 1 rfl dX10_chance_9 ?_
  refine v_kb C (100) (by decide) dX10_chance_10 ?_
  obtain ⟨s3, h⟩ := h
  refine v_callI C [] (by rw [hG]; exact (k_X10_draw ((100 : Int32)) M2 s3)) yX10_draw_k ml_X10_217 (rcv9 kb211 kd211) rfl rfl (Nat.le_of_ble_eq_true rfl) ⟨by decide, by decide⟩ dX10_chance_12 (fun r4 M4 er4 em4 => ?_)
  have h := h r4 M4 er4 em4
  refine v_istore_n C [(2, .int r4), (1, .int r2), (0, .ref (w.2.1 211))] rfl (by decide) dX10_chance_15 ?_
  refine v_iload_n C 0 rfl dX10_chance_16 ?_
  refine v_aload_n C 2 rfl dX10_chance_17 ?_
  refine g9_1 C kb211 kd211 fl_X10_141 dX10_chance_18 ?_
  refine v_icmp_ge C 60 (by decide) dX10_chance_21 (fun hc => ?_) (fun hc => ?_)
  · have h := h.1 hc
    exact Rt _ _ _ dX10_chance_60 h
  · have h := h.2 hc
    refine v_aload_n C 2 rfl dX10_chance_24 ?_
    refine v_aload_n C 2 rfl dX10_chance_25 ?_
    refine g9_2 C kb211 kd211 fl_X10_85 dX10_chance_26 ?_
    obtain ⟨s5, h⟩ := h
    refine v_callI C [] (by rw [hG]; exact (k_X10_draw (M4 211 2) M4 s5)) yX10_draw_k ml_X10_217 (rcv9 kb211 kd211) rfl rfl (Nat.le_of_ble_eq_true rfl) ⟨by decide, by decide⟩ dX10_chance_29 (fun r6 M6 er6 em6 => ?_)
    have h := h r6 M6 er6 em6
    refine v_istore_n C [(3, .int r6), (2, .int r4), (1, .int r2), (0, .ref (w.2.1 211))] rfl (by decide) dX10_chance_32 ?_
    refine v_aload_n C 3 rfl dX10_chance_33 ?_
    refine g9_5 C kb211 kd211 fl_X10_16 dX10_chance_34 ?_
    refine v_kb C (8) (by decide) dX10_chance_37 ?_
    refine v_iload_n C 2 rfl dX10_chance_39 ?_
    refine v_iadd C dX10_chance_40 ?_
    refine v_iload_n C 2 rfl dX10_chance_41 ?_
    refine v_iload_n C 0 rfl dX10_chance_42 ?_
    obtain ⟨ca7, cb7, h⟩ := h
    have key7 : V w G 59 [(3, .int r6), (2, .int r4), (1, .int r2), (0, .ref (w.2.1 211))] (.int (if r2 = r6 then M6 214 (((8 : Int32)) + r2).toNatClampNeg else r6) :: .int (((8 : Int32)) + r2) :: .ref (w.2.1 214) :: []) M6 := by
      obtain ⟨s8, h⟩ := h
      refine v_iast C kb214 kd214 ln214 s8 dX10_chance_59 (fun M9 e9 => ?_)
      have h := h M9 e9
      exact Rt _ _ _ dX10_chance_60 h
    refine v_icmp_ne C 58 (by decide) dX10_chance_43 (fun hc => ?_) (fun hc => ?_)
    · rw [if_neg hc] at key7
      refine v_iload_n C 0 rfl dX10_chance_58 ?_
      exact key7
    · rw [if_pos hc] at key7
      obtain ⟨q0, -⟩ := ca7 hc
      refine v_aload_n C 3 rfl dX10_chance_46 ?_
      refine g9_5 C kb211 kd211 fl_X10_16 dX10_chance_47 ?_
      refine v_kb C (8) (by decide) dX10_chance_50 ?_
      refine v_iload_n C 2 rfl dX10_chance_52 ?_
      refine v_iadd C dX10_chance_53 ?_
      refine v_iald C kb214 kd214 ln214 q0 dX10_chance_54 ?_
      refine v_goto C 59 (by decide) dX10_chance_55 ?_
      exact key7
theorem mt_X10_chance {w : Wx} {l : Launch} (k_X10_draw : Ct_X10_draw w l) (pu : Pu_X10_chance) : Ct_X10_chance w l := by
  intro M hp
  refine met_v (by decide +kernel) (Nat.le_of_ble_eq_true rfl) (fun G C hG Rt => ?_)
  exact wk_X10_chance C hG Rt k_X10_draw M (pu M hp _ rfl)
set_option maxRecDepth 4000 in
theorem wk_X10_drift {w : Wx} {G : Gx} {l : Launch} {Q : Int32 → Mem → Prop} (C : Cx w G cX10_drift RX10 2 46 4) (hG : G.2.1 = l) (Rt : ∀ (pc : Nat) (lv : List (Nat × Value)) (r0 : Int32) (M0 : Mem), decode cX10_drift pc = .ok (.ireturn, 1) → Q r0 M0 → V w G pc lv [.int r0] M0) (k_X10_stepsRefused : Ct_X10_stepsRefused w l) (k_X10_remember : Ct_X10_remember w l) (k_X10_stepAll : Ct_X10_stepAll w l) (k_X10_chance : Ct_X10_chance w l) (a1 : Int32) (M : Mem) (h : bd_X10_drift Q (fun (x3 : Int32) (M : Mem) => V w G 18 [(0, .ref (w.2.1 211)), (1, .int a1), (3, .int x3)] [] M) a1 M) : V w G 0 [(0, .ref (w.2.1 211)), (1, .int a1)] [] M := by
  unfold bd_X10_drift at h
  refine v_aload_n C 0 rfl dX10_drift_0 ?_
  refine v_iload_n C 1 rfl dX10_drift_1 ?_
  obtain ⟨s1, h⟩ := h
  refine v_callI C [] (by rw [hG]; exact (k_X10_stepsRefused a1 M s1)) yX10_stepsRefused_k ml_X10_195 (rcv9 kb211 kd211) rfl rfl (Nat.le_of_ble_eq_true rfl) ⟨by decide, by decide⟩ dX10_drift_2 (fun r2 M2 er2 em2 => ?_)
  refine V.eqM em2 ?_
  have h := h r2 er2
  refine v_istore_n C [(2, .int r2), (0, .ref (w.2.1 211)), (1, .int a1)] rfl (by decide) dX10_drift_5 ?_
  refine v_iload_n C 0 rfl dX10_drift_6 ?_
  refine v_if_eq C 12 (by decide) dX10_drift_7 (fun hc => ?_) (fun hc => ?_)
  · have h := h.1 hc
    refine v_aload_n C 1 rfl dX10_drift_12 ?_
    obtain ⟨s3, h⟩ := h
    refine v_callV C [] (by rw [hG]; exact (k_X10_remember M s3)) yX10_remember_k ml_X10_198 (rcv9 kb211 kd211) rfl rfl (Nat.le_of_ble_eq_true rfl) ⟨by decide, by decide⟩ dX10_drift_13 (fun M4 em4 => ?_)
    have h := h M4 em4
    refine v_kc C (0) (by decide) dX10_drift_16 ?_
    refine v_istore_n C [(3, .int ((0 : Int32))), (2, .int r2), (0, .ref (w.2.1 211)), (1, .int a1)] rfl (by decide) dX10_drift_17 ?_
    exact V.sub [2, 3, 0] rfl h
  · have h := h.2 hc
    refine v_iload_n C 0 rfl dX10_drift_10 ?_
    exact Rt _ _ _ _ dX10_drift_11 h
set_option maxRecDepth 4000 in
theorem wk_X10_drift_18 {w : Wx} {G : Gx} {l : Launch} {Q : Int32 → Mem → Prop} (C : Cx w G cX10_drift RX10 2 46 4) (hG : G.2.1 = l) (Rt : ∀ (pc : Nat) (lv : List (Nat × Value)) (r0 : Int32) (M0 : Mem), decode cX10_drift pc = .ok (.ireturn, 1) → Q r0 M0 → V w G pc lv [.int r0] M0) (k_X10_stepsRefused : Ct_X10_stepsRefused w l) (k_X10_remember : Ct_X10_remember w l) (k_X10_stepAll : Ct_X10_stepAll w l) (k_X10_chance : Ct_X10_chance w l) (a1 : Int32) (x3 : Int32) (M : Mem) (h : bd_X10_drift_18 Q (fun (x3 : Int32) (M : Mem) => V w G 18 [(0, .ref (w.2.1 211)), (1, .int a1), (3, .int x3)] [] M) a1 x3 M) : V w G 18 [(0, .ref (w.2.1 211)), (1, .int a1), (3, .int x3)] [] M := by
  unfold bd_X10_drift_18 at h
  refine v_iload_n C 2 rfl dX10_drift_18 ?_
  refine v_iload_n C 1 rfl dX10_drift_19 ?_
  refine v_icmp_ge C 44 (by decide) dX10_drift_20 (fun hc => ?_) (fun hc => ?_)
  · have h := h.1 hc
    refine v_aload_n C 0 rfl dX10_drift_44 ?_
    refine g9_5 C kb211 kd211 fl_X10_16 dX10_drift_45 ?_
    refine v_kb C (40) (by decide) dX10_drift_48 ?_
    obtain ⟨s1, h⟩ := h
    refine v_iald C kb214 kd214 ln214 s1 dX10_drift_50 ?_
    exact Rt _ _ _ _ dX10_drift_51 h
  · have h := h.2 hc
    refine v_aload_n C 0 rfl dX10_drift_23 ?_
    refine g9_2 C kb211 kd211 fl_X10_85 dX10_drift_24 ?_
    refine v_if_le C 34 (by decide) dX10_drift_27 (fun hc => ?_) (fun hc => ?_)
    · have h := h.1 hc
      refine v_aload_n C 0 rfl dX10_drift_34 ?_
      obtain ⟨s2, h⟩ := h
      refine v_callV C [] (by rw [hG]; exact (k_X10_stepAll M s2)) yX10_stepAll_k ml_X10_201 (rcv9 kb211 kd211) rfl rfl (Nat.le_of_ble_eq_true rfl) ⟨by decide, by decide⟩ dX10_drift_35 (fun M3 em3 => ?_)
      have h := h M3 em3
      refine v_iinc C (j := 2) [(3, .int (x3 + 1)), (0, .ref (w.2.1 211)), (1, .int a1)] rfl (x3 + 1) rfl rfl (by decide) dX10_drift_38 ?_
      refine v_goto C 18 (by decide) dX10_drift_41 ?_
      exact V.sub [1, 2, 0] rfl h
    · have h := h.2 hc
      refine v_aload_n C 0 rfl dX10_drift_30 ?_
      obtain ⟨s4, h⟩ := h
      refine v_callV C [] (by rw [hG]; exact (k_X10_chance M s4)) yX10_chance_k ml_X10_220 (rcv9 kb211 kd211) rfl rfl (Nat.le_of_ble_eq_true rfl) ⟨by decide, by decide⟩ dX10_drift_31 (fun M5 em5 => ?_)
      have h := h M5 em5
      refine v_aload_n C 0 rfl dX10_drift_34 ?_
      obtain ⟨s6, h⟩ := h
      refine v_callV C [] (by rw [hG]; exact (k_X10_stepAll M5 s6)) yX10_stepAll_k ml_X10_201 (rcv9 kb211 kd211) rfl rfl (Nat.le_of_ble_eq_true rfl) ⟨by decide, by decide⟩ dX10_drift_35 (fun M7 em7 => ?_)
      have h := h M7 em7
      refine v_iinc C (j := 2) [(3, .int (x3 + 1)), (0, .ref (w.2.1 211)), (1, .int a1)] rfl (x3 + 1) rfl rfl (by decide) dX10_drift_38 ?_
      refine v_goto C 18 (by decide) dX10_drift_41 ?_
      exact V.sub [1, 2, 0] rfl h
theorem mt_X10_drift {w : Wx} {l : Launch} (k_X10_stepsRefused : Ct_X10_stepsRefused w l) (k_X10_remember : Ct_X10_remember w l) (k_X10_stepAll : Ct_X10_stepAll w l) (k_X10_chance : Ct_X10_chance w l) (pu : Pu_X10_drift) : Ct_X10_drift w l := by
  intro a1 M hp
  refine met_i (by decide +kernel) (Nat.le_of_ble_eq_true rfl) (fun G C hG Rt => ?_)
  exact wk_X10_drift C hG Rt k_X10_stepsRefused k_X10_remember k_X10_stepAll k_X10_chance a1 M (pu a1 M hp _ _ (fun x3 M h => wk_X10_drift_18 C hG Rt k_X10_stepsRefused k_X10_remember k_X10_stepAll k_X10_chance a1 x3 M h) ⟨rfl, rfl⟩)
set_option maxRecDepth 4000 in
theorem wk_X10_undo {w : Wx} {G : Gx} {l : Launch} {Q : Int32 → Mem → Prop} (C : Cx w G cX10_undo RX10 0 0 2) (hG : G.2.1 = l) (Rt : ∀ (pc : Nat) (lv : List (Nat × Value)) (r0 : Int32) (M0 : Mem), decode cX10_undo pc = .ok (.ireturn, 1) → Q r0 M0 → V w G pc lv [.int r0] M0) (M : Mem) (h : bd_X10_undo Q (fun (x1 : Int32) (M : Mem) => V w G 22 [(0, .ref (w.2.1 211)), (1, .int x1)] [] M) M) : V w G 0 [(0, .ref (w.2.1 211))] [] M := by
  unfold bd_X10_undo at h
  refine v_aload_n C 0 rfl dX10_undo_0 ?_
  refine g9_20 C kb211 kd211 fl_X10_156 dX10_undo_1 ?_
  refine v_if_ne C 10 (by decide) dX10_undo_4 (fun hc => ?_) (fun hc => ?_)
  · have h := h.2 hc
    refine v_aload_n C 0 rfl dX10_undo_10 ?_
    refine v_dup C rfl dX10_undo_11 ?_
    refine g9_20 C kb211 kd211 fl_X10_156 dX10_undo_12 ?_
    refine v_kc C (1) (by decide) dX10_undo_15 ?_
    refine v_isub C dX10_undo_16 ?_
    refine p9_20 C kb211 kd211 fl_X10_156 dX10_undo_17 (fun M1 e1 => ?_)
    have h := h M1 e1
    refine v_kc C (0) (by decide) dX10_undo_20 ?_
    refine v_istore_n C [(1, .int ((0 : Int32))), (0, .ref (w.2.1 211))] rfl (by decide) dX10_undo_21 ?_
    exact V.sub [1, 0] rfl h
  · have h := h.1 hc
    refine v_ldc C kc_X10_194 dX10_undo_7 ?_
    exact Rt _ _ _ _ dX10_undo_9 h
set_option maxRecDepth 4000 in
theorem wk_X10_undo_22 {w : Wx} {G : Gx} {l : Launch} {Q : Int32 → Mem → Prop} (C : Cx w G cX10_undo RX10 0 0 2) (hG : G.2.1 = l) (Rt : ∀ (pc : Nat) (lv : List (Nat × Value)) (r0 : Int32) (M0 : Mem), decode cX10_undo pc = .ok (.ireturn, 1) → Q r0 M0 → V w G pc lv [.int r0] M0) (x1 : Int32) (M : Mem) (h : bd_X10_undo_22 Q (fun (x1 : Int32) (M : Mem) => V w G 22 [(0, .ref (w.2.1 211)), (1, .int x1)] [] M) x1 M) : V w G 22 [(0, .ref (w.2.1 211)), (1, .int x1)] [] M := by
  unfold bd_X10_undo_22 at h
  refine v_iload_n C 1 rfl dX10_undo_22 ?_
  refine v_kb C (41) (by decide) dX10_undo_23 ?_
  refine v_icmp_ge C 54 (by decide) dX10_undo_25 (fun hc => ?_) (fun hc => ?_)
  · have h := h.1 hc
    refine v_aload_n C 0 rfl dX10_undo_54 ?_
    refine g9_20 C kb211 kd211 fl_X10_156 dX10_undo_55 ?_
    exact Rt _ _ _ _ dX10_undo_58 h
  · have h := h.2 hc
    refine v_aload_n C 0 rfl dX10_undo_28 ?_
    refine g9_5 C kb211 kd211 fl_X10_16 dX10_undo_29 ?_
    refine v_iload_n C 1 rfl dX10_undo_32 ?_
    refine v_aload_n C 0 rfl dX10_undo_33 ?_
    refine g9_21 C kb211 kd211 fl_X10_44 dX10_undo_34 ?_
    refine v_kb C (41) (by decide) dX10_undo_37 ?_
    refine v_aload_n C 0 rfl dX10_undo_39 ?_
    refine g9_20 C kb211 kd211 fl_X10_156 dX10_undo_40 ?_
    refine v_imul C dX10_undo_43 ?_
    refine v_iload_n C 1 rfl dX10_undo_44 ?_
    refine v_iadd C dX10_undo_45 ?_
    obtain ⟨s1, h⟩ := h
    refine v_iald C kb222 kd222 ln222 s1 dX10_undo_46 ?_
    obtain ⟨s2, h⟩ := h
    refine v_iast C kb214 kd214 ln214 s2 dX10_undo_47 (fun M3 e3 => ?_)
    have h := h M3 e3
    refine v_iinc C (j := 1) [(1, .int (x1 + 1)), (0, .ref (w.2.1 211))] rfl (x1 + 1) rfl rfl (by decide) dX10_undo_48 ?_
    refine v_goto C 22 (by decide) dX10_undo_51 ?_
    exact V.sub [1, 0] rfl h
theorem mt_X10_undo {w : Wx} {l : Launch} (pu : Pu_X10_undo) : Ct_X10_undo w l := by
  intro M hp
  refine met_i (by decide +kernel) (Nat.le_of_ble_eq_true rfl) (fun G C hG Rt => ?_)
  exact wk_X10_undo C hG Rt M (pu M hp _ _ (fun x1 M h => wk_X10_undo_22 C hG Rt x1 M h) ⟨rfl, rfl⟩)
set_option maxRecDepth 4000 in
theorem wk_X10_save {w : Wx} {G : Gx} {l : Launch} {Q : Mem → Prop} (C : Cx w G cX10_save RX10 0 0 2) (hG : G.2.1 = l) (Rt : ∀ (pc : Nat) (lv : List (Nat × Value)) (M0 : Mem), decode cX10_save pc = .ok (.return_, 1) → Q M0 → V w G pc lv [] M0) (M : Mem) (h : bd_X10_save Q (fun (x1 : Int32) (M : Mem) => V w G 2 [(0, .ref (w.2.1 211)), (1, .int x1)] [] M) M) : V w G 0 [(0, .ref (w.2.1 211))] [] M := by
  unfold bd_X10_save at h
  refine v_kc C (0) (by decide) dX10_save_0 ?_
  refine v_istore_n C [(1, .int ((0 : Int32))), (0, .ref (w.2.1 211))] rfl (by decide) dX10_save_1 ?_
  exact V.sub [1, 0] rfl h
set_option maxRecDepth 4000 in
theorem wk_X10_save_2 {w : Wx} {G : Gx} {l : Launch} {Q : Mem → Prop} (C : Cx w G cX10_save RX10 0 0 2) (hG : G.2.1 = l) (Rt : ∀ (pc : Nat) (lv : List (Nat × Value)) (M0 : Mem), decode cX10_save pc = .ok (.return_, 1) → Q M0 → V w G pc lv [] M0) (x1 : Int32) (M : Mem) (h : bd_X10_save_2 Q (fun (x1 : Int32) (M : Mem) => V w G 2 [(0, .ref (w.2.1 211)), (1, .int x1)] [] M) x1 M) : V w G 2 [(0, .ref (w.2.1 211)), (1, .int x1)] [] M := by
  unfold bd_X10_save_2 at h
  refine v_iload_n C 1 rfl dX10_save_2 ?_
  refine v_kb C (41) (by decide) dX10_save_3 ?_
  refine v_icmp_ge C 26 (by decide) dX10_save_5 (fun hc => ?_) (fun hc => ?_)
  · have h := h.1 hc
    exact Rt _ _ _ dX10_save_26 h
  · have h := h.2 hc
    refine v_aload_n C 0 rfl dX10_save_8 ?_
    refine g9_22 C kb211 kd211 fl_X10_47 dX10_save_9 ?_
    refine v_iload_n C 1 rfl dX10_save_12 ?_
    refine v_aload_n C 0 rfl dX10_save_13 ?_
    refine g9_5 C kb211 kd211 fl_X10_16 dX10_save_14 ?_
    refine v_iload_n C 1 rfl dX10_save_17 ?_
    obtain ⟨s1, h⟩ := h
    refine v_iald C kb214 kd214 ln214 s1 dX10_save_18 ?_
    obtain ⟨s2, h⟩ := h
    refine v_iast C kb223 kd223 ln223 s2 dX10_save_19 (fun M3 e3 => ?_)
    have h := h M3 e3
    refine v_iinc C (j := 1) [(1, .int (x1 + 1)), (0, .ref (w.2.1 211))] rfl (x1 + 1) rfl rfl (by decide) dX10_save_20 ?_
    refine v_goto C 2 (by decide) dX10_save_23 ?_
    exact V.sub [1, 0] rfl h
theorem mt_X10_save {w : Wx} {l : Launch} (pu : Pu_X10_save) : Ct_X10_save w l := by
  intro M hp
  refine met_v (by decide +kernel) (Nat.le_of_ble_eq_true rfl) (fun G C hG Rt => ?_)
  exact wk_X10_save C hG Rt M (pu M hp _ _ (fun x1 M h => wk_X10_save_2 C hG Rt x1 M h) rfl)
set_option maxRecDepth 4000 in
theorem wk_X10_stepTo {w : Wx} {G : Gx} {l : Launch} {Q : Mem → Prop} (C : Cx w G cX10_stepTo RX10 2 44 3) (hG : G.2.1 = l) (Rt : ∀ (pc : Nat) (lv : List (Nat × Value)) (M0 : Mem), decode cX10_stepTo pc = .ok (.return_, 1) → Q M0 → V w G pc lv [] M0) (k_X10_stepAll : Ct_X10_stepAll w l) (a1 : Int32) (M : Mem) (h : bd_X10_stepTo Q (fun (x2 : Int32) (M : Mem) => V w G 2 [(0, .ref (w.2.1 211)), (1, .int a1), (2, .int x2)] [] M) a1 M) : V w G 0 [(0, .ref (w.2.1 211)), (1, .int a1)] [] M := by
  unfold bd_X10_stepTo at h
  refine v_kc C (0) (by decide) dX10_stepTo_0 ?_
  refine v_istore_n C [(2, .int ((0 : Int32))), (0, .ref (w.2.1 211)), (1, .int a1)] rfl (by decide) dX10_stepTo_1 ?_
  exact V.sub [1, 2, 0] rfl h
set_option maxRecDepth 4000 in
theorem wk_X10_stepTo_2 {w : Wx} {G : Gx} {l : Launch} {Q : Mem → Prop} (C : Cx w G cX10_stepTo RX10 2 44 3) (hG : G.2.1 = l) (Rt : ∀ (pc : Nat) (lv : List (Nat × Value)) (M0 : Mem), decode cX10_stepTo pc = .ok (.return_, 1) → Q M0 → V w G pc lv [] M0) (k_X10_stepAll : Ct_X10_stepAll w l) (a1 : Int32) (x2 : Int32) (M : Mem) (h : bd_X10_stepTo_2 Q (fun (x2 : Int32) (M : Mem) => V w G 2 [(0, .ref (w.2.1 211)), (1, .int a1), (2, .int x2)] [] M) a1 x2 M) : V w G 2 [(0, .ref (w.2.1 211)), (1, .int a1), (2, .int x2)] [] M := by
  unfold bd_X10_stepTo_2 at h
  refine v_iload_n C 2 rfl dX10_stepTo_2 ?_
  refine v_iload_n C 1 rfl dX10_stepTo_3 ?_
  refine v_icmp_ge C 17 (by decide) dX10_stepTo_4 (fun hc => ?_) (fun hc => ?_)
  · have h := h.1 hc
    exact Rt _ _ _ dX10_stepTo_17 h
  · have h := h.2 hc
    refine v_aload_n C 0 rfl dX10_stepTo_7 ?_
    obtain ⟨s1, h⟩ := h
    refine v_callV C [] (by rw [hG]; exact (k_X10_stepAll M s1)) yX10_stepAll_k ml_X10_201 (rcv9 kb211 kd211) rfl rfl (Nat.le_of_ble_eq_true rfl) ⟨by decide, by decide⟩ dX10_stepTo_8 (fun M2 em2 => ?_)
    have h := h M2 em2
    refine v_iinc C (j := 2) [(2, .int (x2 + 1)), (0, .ref (w.2.1 211)), (1, .int a1)] rfl (x2 + 1) rfl rfl (by decide) dX10_stepTo_11 ?_
    refine v_goto C 2 (by decide) dX10_stepTo_14 ?_
    exact V.sub [1, 2, 0] rfl h
theorem mt_X10_stepTo {w : Wx} {l : Launch} (k_X10_stepAll : Ct_X10_stepAll w l) (pu : Pu_X10_stepTo) : Ct_X10_stepTo w l := by
  intro a1 M hp
  refine met_v (by decide +kernel) (Nat.le_of_ble_eq_true rfl) (fun G C hG Rt => ?_)
  exact wk_X10_stepTo C hG Rt k_X10_stepAll a1 M (pu a1 M hp _ _ (fun x2 M h => wk_X10_stepTo_2 C hG Rt k_X10_stepAll a1 x2 M h) rfl)
set_option maxRecDepth 4000 in
theorem wk_X10_putBack {w : Wx} {G : Gx} {l : Launch} {Q : Mem → Prop} (C : Cx w G cX10_putBack RX10 0 0 2) (hG : G.2.1 = l) (Rt : ∀ (pc : Nat) (lv : List (Nat × Value)) (M0 : Mem), decode cX10_putBack pc = .ok (.return_, 1) → Q M0 → V w G pc lv [] M0) (M : Mem) (h : bd_X10_putBack Q (fun (x1 : Int32) (M : Mem) => V w G 2 [(0, .ref (w.2.1 211)), (1, .int x1)] [] M) M) : V w G 0 [(0, .ref (w.2.1 211))] [] M := by
  unfold bd_X10_putBack at h
  refine v_kc C (0) (by decide) dX10_putBack_0 ?_
  refine v_istore_n C [(1, .int ((0 : Int32))), (0, .ref (w.2.1 211))] rfl (by decide) dX10_putBack_1 ?_
  exact V.sub [1, 0] rfl h
set_option maxRecDepth 4000 in
theorem wk_X10_putBack_2 {w : Wx} {G : Gx} {l : Launch} {Q : Mem → Prop} (C : Cx w G cX10_putBack RX10 0 0 2) (hG : G.2.1 = l) (Rt : ∀ (pc : Nat) (lv : List (Nat × Value)) (M0 : Mem), decode cX10_putBack pc = .ok (.return_, 1) → Q M0 → V w G pc lv [] M0) (x1 : Int32) (M : Mem) (h : bd_X10_putBack_2 Q (fun (x1 : Int32) (M : Mem) => V w G 2 [(0, .ref (w.2.1 211)), (1, .int x1)] [] M) x1 M) : V w G 2 [(0, .ref (w.2.1 211)), (1, .int x1)] [] M := by
  unfold bd_X10_putBack_2 at h
  refine v_iload_n C 1 rfl dX10_putBack_2 ?_
  refine v_kb C (41) (by decide) dX10_putBack_3 ?_
  refine v_icmp_ge C 26 (by decide) dX10_putBack_5 (fun hc => ?_) (fun hc => ?_)
  · have h := h.1 hc
    exact Rt _ _ _ dX10_putBack_26 h
  · have h := h.2 hc
    refine v_aload_n C 0 rfl dX10_putBack_8 ?_
    refine g9_5 C kb211 kd211 fl_X10_16 dX10_putBack_9 ?_
    refine v_iload_n C 1 rfl dX10_putBack_12 ?_
    refine v_aload_n C 0 rfl dX10_putBack_13 ?_
    refine g9_22 C kb211 kd211 fl_X10_47 dX10_putBack_14 ?_
    refine v_iload_n C 1 rfl dX10_putBack_17 ?_
    obtain ⟨s1, h⟩ := h
    refine v_iald C kb223 kd223 ln223 s1 dX10_putBack_18 ?_
    obtain ⟨s2, h⟩ := h
    refine v_iast C kb214 kd214 ln214 s2 dX10_putBack_19 (fun M3 e3 => ?_)
    have h := h M3 e3
    refine v_iinc C (j := 1) [(1, .int (x1 + 1)), (0, .ref (w.2.1 211))] rfl (x1 + 1) rfl rfl (by decide) dX10_putBack_20 ?_
    refine v_goto C 2 (by decide) dX10_putBack_23 ?_
    exact V.sub [1, 0] rfl h
theorem mt_X10_putBack {w : Wx} {l : Launch} (pu : Pu_X10_putBack) : Ct_X10_putBack w l := by
  intro M hp
  refine met_v (by decide +kernel) (Nat.le_of_ble_eq_true rfl) (fun G C hG Rt => ?_)
  exact wk_X10_putBack C hG Rt M (pu M hp _ _ (fun x1 M h => wk_X10_putBack_2 C hG Rt x1 M h) rfl)
set_option maxRecDepth 4000 in
theorem wk_X10_where {w : Wx} {G : Gx} {l : Launch} {Q : Int32 → Mem → Prop} (C : Cx w G cX10_where RX10 3 66 4) (hG : G.2.1 = l) (Rt : ∀ (pc : Nat) (lv : List (Nat × Value)) (r0 : Int32) (M0 : Mem), decode cX10_where pc = .ok (.ireturn, 1) → Q r0 M0 → V w G pc lv [.int r0] M0) (k_X10_isCar : Ct_X10_isCar w l) (k_X10_in : Ct_X10_in w l) (k_X10_save : Ct_X10_save w l) (k_X10_stepTo : Ct_X10_stepTo w l) (k_X10_putBack : Ct_X10_putBack w l) (a1 : Int32) (a2 : Int32) (M : Mem) (h : bd_X10_where Q a1 a2 M) : V w G 0 [(0, .ref (w.2.1 211)), (1, .int a1), (2, .int a2)] [] M := by
  unfold bd_X10_where at h
  refine v_aload_n C 0 rfl dX10_where_0 ?_
  refine v_iload_n C 1 rfl dX10_where_1 ?_
  obtain ⟨s1, h⟩ := h
  refine v_callI C [] (by rw [hG]; exact (k_X10_isCar a1 M s1)) yX10_isCar_k ml_X10_88 (rcv9 kb211 kd211) rfl rfl (Nat.le_of_ble_eq_true rfl) ⟨by decide, by decide⟩ dX10_where_2 (fun r2 M2 er2 em2 => ?_)
  refine V.eqM em2 ?_
  have h := h r2 er2
  refine v_if_ne C 11 (by decide) dX10_where_5 (fun hc => ?_) (fun hc => ?_)
  · have h := h.2 hc
    refine v_iload_n C 2 rfl dX10_where_11 ?_
    refine v_i2l C dX10_where_12 ?_
    refine v_lconst C 0 (by decide) dX10_where_13 ?_
    refine v_ldc2 C kl_X10_223 dX10_where_14 ?_
    obtain ⟨s3, h⟩ := h
    refine v_callSI C [] (by rw [hG]; exact (k_X10_in a2.toInt64 ((0 : Int64)) ((200 : Int64)) M s3)) yX10_in_k ml_X10_81 rfl rfl (Nat.le_of_ble_eq_true rfl) ⟨by decide, by decide⟩ dX10_where_17 (fun r4 M4 er4 em4 => ?_)
    refine V.eqM em4 ?_
    have h := h r4 er4
    refine v_if_ne C 26 (by decide) dX10_where_20 (fun hc => ?_) (fun hc => ?_)
    · have h := h.2 hc
      refine v_aload_n C 0 rfl dX10_where_26 ?_
      obtain ⟨s5, h⟩ := h
      refine v_callV C [] (by rw [hG]; exact (k_X10_save M s5)) yX10_save_k ml_X10_225 (rcv9 kb211 kd211) rfl rfl (Nat.le_of_ble_eq_true rfl) ⟨by decide, by decide⟩ dX10_where_27 (fun M6 em6 => ?_)
      have h := h M6 em6
      refine v_aload_n C 0 rfl dX10_where_30 ?_
      refine v_iload_n C 2 rfl dX10_where_31 ?_
      obtain ⟨s7, h⟩ := h
      refine v_callV C [] (by rw [hG]; exact (k_X10_stepTo a2 M6 s7)) yX10_stepTo_k ml_X10_228 (rcv9 kb211 kd211) rfl rfl (Nat.le_of_ble_eq_true rfl) ⟨by decide, by decide⟩ dX10_where_32 (fun M8 em8 => ?_)
      have h := h M8 em8
      refine v_aload_n C 0 rfl dX10_where_35 ?_
      refine g9_5 C kb211 kd211 fl_X10_16 dX10_where_36 ?_
      refine v_iload_n C 1 rfl dX10_where_39 ?_
      obtain ⟨s9, h⟩ := h
      refine v_iald C kb214 kd214 ln214 s9 dX10_where_40 ?_
      refine v_istore_n C [(3, .int (M8 214 a1.toNatClampNeg)), (0, .ref (w.2.1 211)), (1, .int a1), (2, .int a2)] rfl (by decide) dX10_where_41 ?_
      refine v_aload_n C 1 rfl dX10_where_42 ?_
      obtain ⟨s10, h⟩ := h
      refine v_callV C [] (by rw [hG]; exact (k_X10_putBack M8 s10)) yX10_putBack_k ml_X10_232 (rcv9 kb211 kd211) rfl rfl (Nat.le_of_ble_eq_true rfl) ⟨by decide, by decide⟩ dX10_where_43 (fun M11 em11 => ?_)
      have h := h M11 em11
      refine v_iload_n C 0 rfl dX10_where_46 ?_
      exact Rt _ _ _ _ dX10_where_47 h
    · have h := h.1 hc
      refine v_ldc C kc_X10_94 dX10_where_23 ?_
      exact Rt _ _ _ _ dX10_where_25 h
  · have h := h.1 hc
    refine v_ldc C kc_X10_188 dX10_where_8 ?_
    exact Rt _ _ _ _ dX10_where_10 h
theorem mt_X10_where {w : Wx} {l : Launch} (k_X10_isCar : Ct_X10_isCar w l) (k_X10_in : Ct_X10_in w l) (k_X10_save : Ct_X10_save w l) (k_X10_stepTo : Ct_X10_stepTo w l) (k_X10_putBack : Ct_X10_putBack w l) (pu : Pu_X10_where) : Ct_X10_where w l := by
  intro a1 a2 M hp
  refine met_i (by decide +kernel) (Nat.le_of_ble_eq_true rfl) (fun G C hG Rt => ?_)
  exact wk_X10_where C hG Rt k_X10_isCar k_X10_in k_X10_save k_X10_stepTo k_X10_putBack a1 a2 M (pu a1 a2 M hp _ ⟨rfl, rfl⟩)
set_option maxRecDepth 4000 in
theorem wk_X10_sees {w : Wx} {G : Gx} {l : Launch} {Q : Int32 → Mem → Prop} (C : Cx w G cX10_sees RX10 3 68 5) (hG : G.2.1 = l) (Rt : ∀ (pc : Nat) (lv : List (Nat × Value)) (r0 : Int32) (M0 : Mem), decode cX10_sees pc = .ok (.ireturn, 1) → Q r0 M0 → V w G pc lv [.int r0] M0) (k_X10_areTwo : Ct_X10_areTwo w l) (k_X10_save : Ct_X10_save w l) (k_X10_putBack : Ct_X10_putBack w l) (k_X10_stepAll : Ct_X10_stepAll w l) (a1 : Int32) (a2 : Int32) (M : Mem) (h : bd_X10_sees Q (fun (x3 : Int32) (x4 : Int32) (M : Mem) => V w G 40 [(0, .ref (w.2.1 211)), (1, .int a1), (2, .int a2), (3, .int x3), (4, .int x4)] [] M) a1 a2 M) : V w G 0 [(0, .ref (w.2.1 211)), (1, .int a1), (2, .int a2)] [] M := by
  unfold bd_X10_sees at h
  refine v_aload_n C 0 rfl dX10_sees_0 ?_
  refine v_iload_n C 1 rfl dX10_sees_1 ?_
  refine v_iload_n C 2 rfl dX10_sees_2 ?_
  obtain ⟨s1, h⟩ := h
  refine v_callI C [] (by rw [hG]; exact (k_X10_areTwo a1 a2 M s1)) yX10_areTwo_k ml_X10_204 (rcv9 kb211 kd211) rfl rfl (Nat.le_of_ble_eq_true rfl) ⟨by decide, by decide⟩ dX10_sees_3 (fun r2 M2 er2 em2 => ?_)
  refine V.eqM em2 ?_
  have h := h r2 er2
  refine v_if_ne C 12 (by decide) dX10_sees_6 (fun hc => ?_) (fun hc => ?_)
  · have h := h.2 hc
    refine v_aload_n C 0 rfl dX10_sees_12 ?_
    obtain ⟨s3, h⟩ := h
    refine v_callV C [] (by rw [hG]; exact (k_X10_save M s3)) yX10_save_k ml_X10_225 (rcv9 kb211 kd211) rfl rfl (Nat.le_of_ble_eq_true rfl) ⟨by decide, by decide⟩ dX10_sees_13 (fun M4 em4 => ?_)
    have h := h M4 em4
    refine v_aload_n C 0 rfl dX10_sees_16 ?_
    refine g9_5 C kb211 kd211 fl_X10_16 dX10_sees_17 ?_
    refine v_iload_n C 1 rfl dX10_sees_20 ?_
    obtain ⟨s5, h⟩ := h
    refine v_iald C kb214 kd214 ln214 s5 dX10_sees_21 ?_
    refine v_aload_n C 0 rfl dX10_sees_22 ?_
    refine g9_5 C kb211 kd211 fl_X10_16 dX10_sees_23 ?_
    refine v_iload_n C 2 rfl dX10_sees_26 ?_
    obtain ⟨s6, h⟩ := h
    refine v_iald C kb214 kd214 ln214 s6 dX10_sees_27 ?_
    have key7 : V w G 36 [(0, .ref (w.2.1 211)), (1, .int a1), (2, .int a2)] (.int (if (M4 214 a1.toNatClampNeg) = (M4 214 a2.toNatClampNeg) then (0 : Int32) else (-1 : Int32)) :: []) M4 := by
      refine v_istore_n C [(3, .int (if (M4 214 a1.toNatClampNeg) = (M4 214 a2.toNatClampNeg) then (0 : Int32) else (-1 : Int32))), (0, .ref (w.2.1 211)), (1, .int a1), (2, .int a2)] rfl (by decide) dX10_sees_36 ?_
      refine v_kc C (1) (by decide) dX10_sees_37 ?_
      refine v_istore C [(4, .int ((1 : Int32))), (3, .int (if (M4 214 a1.toNatClampNeg) = (M4 214 a2.toNatClampNeg) then (0 : Int32) else (-1 : Int32))), (0, .ref (w.2.1 211)), (1, .int a1), (2, .int a2)] rfl (by decide) dX10_sees_38 ?_
      exact V.sub [2, 3, 4, 1, 0] rfl h
    refine v_icmp_ne C 35 (by decide) dX10_sees_28 (fun hc => ?_) (fun hc => ?_)
    · rw [if_neg hc] at key7
      refine v_kc C (-1) (by decide) dX10_sees_35 ?_
      exact key7
    · rw [if_pos hc] at key7
      refine v_kc C (0) (by decide) dX10_sees_31 ?_
      refine v_goto C 36 (by decide) dX10_sees_32 ?_
      exact key7
  · have h := h.1 hc
    refine v_ldc C kc_X10_188 dX10_sees_9 ?_
    exact Rt _ _ _ _ dX10_sees_11 h
set_option maxRecDepth 4000 in
theorem wk_X10_sees_40 {w : Wx} {G : Gx} {l : Launch} {Q : Int32 → Mem → Prop} (C : Cx w G cX10_sees RX10 3 68 5) (hG : G.2.1 = l) (Rt : ∀ (pc : Nat) (lv : List (Nat × Value)) (r0 : Int32) (M0 : Mem), decode cX10_sees pc = .ok (.ireturn, 1) → Q r0 M0 → V w G pc lv [.int r0] M0) (k_X10_areTwo : Ct_X10_areTwo w l) (k_X10_save : Ct_X10_save w l) (k_X10_putBack : Ct_X10_putBack w l) (k_X10_stepAll : Ct_X10_stepAll w l) (a1 : Int32) (a2 : Int32) (x3 : Int32) (x4 : Int32) (M : Mem) (h : bd_X10_sees_40 Q (fun (x3 : Int32) (x4 : Int32) (M : Mem) => V w G 40 [(0, .ref (w.2.1 211)), (1, .int a1), (2, .int a2), (3, .int x3), (4, .int x4)] [] M) a1 a2 x3 x4 M) : V w G 40 [(0, .ref (w.2.1 211)), (1, .int a1), (2, .int a2), (3, .int x3), (4, .int x4)] [] M := by
  unfold bd_X10_sees_40 at h
  refine v_iload C 4 rfl dX10_sees_40 ?_
  refine v_ks C (200) (by decide) dX10_sees_42 ?_
  refine v_icmp_gt C 84 (by decide) dX10_sees_45 (fun hc => ?_) (fun hc => ?_)
  · have h := h.1 hc
    refine v_aload_n C 0 rfl dX10_sees_84 ?_
    obtain ⟨s1, h⟩ := h
    refine v_callV C [] (by rw [hG]; exact (k_X10_putBack M s1)) yX10_putBack_k ml_X10_232 (rcv9 kb211 kd211) rfl rfl (Nat.le_of_ble_eq_true rfl) ⟨by decide, by decide⟩ dX10_sees_85 (fun M2 em2 => ?_)
    have h := h M2 em2
    refine v_iload_n C 3 rfl dX10_sees_88 ?_
    exact Rt _ _ _ _ dX10_sees_89 h
  · have h := h.2 hc
    refine v_iload_n C 3 rfl dX10_sees_48 ?_
    refine v_if_ge C 84 (by decide) dX10_sees_49 (fun hc => ?_) (fun hc => ?_)
    · have h := h.1 hc
      refine v_aload_n C 0 rfl dX10_sees_84 ?_
      obtain ⟨s3, h⟩ := h
      refine v_callV C [] (by rw [hG]; exact (k_X10_putBack M s3)) yX10_putBack_k ml_X10_232 (rcv9 kb211 kd211) rfl rfl (Nat.le_of_ble_eq_true rfl) ⟨by decide, by decide⟩ dX10_sees_85 (fun M4 em4 => ?_)
      have h := h M4 em4
      refine v_iload_n C 3 rfl dX10_sees_88 ?_
      exact Rt _ _ _ _ dX10_sees_89 h
    · have h := h.2 hc
      refine v_aload_n C 0 rfl dX10_sees_52 ?_
      obtain ⟨s5, h⟩ := h
      refine v_callV C [] (by rw [hG]; exact (k_X10_stepAll M s5)) yX10_stepAll_k ml_X10_201 (rcv9 kb211 kd211) rfl rfl (Nat.le_of_ble_eq_true rfl) ⟨by decide, by decide⟩ dX10_sees_53 (fun M6 em6 => ?_)
      have h := h M6 em6
      refine v_aload_n C 0 rfl dX10_sees_56 ?_
      refine g9_5 C kb211 kd211 fl_X10_16 dX10_sees_57 ?_
      refine v_iload_n C 1 rfl dX10_sees_60 ?_
      obtain ⟨s7, h⟩ := h
      refine v_iald C kb214 kd214 ln214 s7 dX10_sees_61 ?_
      refine v_aload_n C 0 rfl dX10_sees_62 ?_
      refine g9_5 C kb211 kd211 fl_X10_16 dX10_sees_63 ?_
      refine v_iload_n C 2 rfl dX10_sees_66 ?_
      obtain ⟨s8, h⟩ := h
      refine v_iald C kb214 kd214 ln214 s8 dX10_sees_67 ?_
      have key9 : V w G 77 [(0, .ref (w.2.1 211)), (1, .int a1), (2, .int a2), (3, .int x3), (4, .int x4)] (.int (if (M6 214 a1.toNatClampNeg) = (M6 214 a2.toNatClampNeg) then x4 else (-1 : Int32)) :: []) M6 := by
        refine v_istore_n C [(3, .int (if (M6 214 a1.toNatClampNeg) = (M6 214 a2.toNatClampNeg) then x4 else (-1 : Int32))), (0, .ref (w.2.1 211)), (1, .int a1), (2, .int a2), (4, .int x4)] rfl (by decide) dX10_sees_77 ?_
        refine v_iinc C (j := 4) [(4, .int (x4 + 1)), (3, .int (if (M6 214 a1.toNatClampNeg) = (M6 214 a2.toNatClampNeg) then x4 else (-1 : Int32))), (0, .ref (w.2.1 211)), (1, .int a1), (2, .int a2)] rfl (x4 + 1) rfl rfl (by decide) dX10_sees_78 ?_
        refine v_goto C 40 (by decide) dX10_sees_81 ?_
        exact V.sub [2, 3, 4, 1, 0] rfl h
      refine v_icmp_ne C 76 (by decide) dX10_sees_68 (fun hc => ?_) (fun hc => ?_)
      · rw [if_neg hc] at key9
        refine v_kc C (-1) (by decide) dX10_sees_76 ?_
        exact key9
      · rw [if_pos hc] at key9
        refine v_iload C 4 rfl dX10_sees_71 ?_
        refine v_goto C 77 (by decide) dX10_sees_73 ?_
        exact key9
theorem mt_X10_sees {w : Wx} {l : Launch} (k_X10_areTwo : Ct_X10_areTwo w l) (k_X10_save : Ct_X10_save w l) (k_X10_putBack : Ct_X10_putBack w l) (k_X10_stepAll : Ct_X10_stepAll w l) (pu : Pu_X10_sees) : Ct_X10_sees w l := by
  intro a1 a2 M hp
  refine met_i (by decide +kernel) (Nat.le_of_ble_eq_true rfl) (fun G C hG Rt => ?_)
  exact wk_X10_sees C hG Rt k_X10_areTwo k_X10_save k_X10_putBack k_X10_stepAll a1 a2 M (pu a1 a2 M hp _ _ (fun x3 x4 M h => wk_X10_sees_40 C hG Rt k_X10_areTwo k_X10_save k_X10_putBack k_X10_stepAll a1 a2 x3 x4 M h) ⟨rfl, rfl⟩)
set_option maxRecDepth 4000 in
theorem wk_X10_rings {w : Wx} {G : Gx} {l : Launch} {Q : Int32 → Mem → Prop} (C : Cx w G cX10_rings RX10 3 66 2) (hG : G.2.1 = l) (Rt : ∀ (pc : Nat) (lv : List (Nat × Value)) (r0 : Int32) (M0 : Mem), decode cX10_rings pc = .ok (.ireturn, 1) → Q r0 M0 → V w G pc lv [.int r0] M0) (k_X10_ringsNow : Ct_X10_ringsNow w l) (a1 : Int32) (M : Mem) (h : bd_X10_rings Q a1 M) : V w G 0 [(0, .ref (w.2.1 211)), (1, .int a1)] [] M := by
  unfold bd_X10_rings at h
  refine v_aload_n C 0 rfl dX10_rings_0 ?_
  refine v_iload_n C 1 rfl dX10_rings_1 ?_
  obtain ⟨s1, h⟩ := h
  refine v_callI C [] (by rw [hG]; exact (k_X10_ringsNow a1 M s1)) yX10_ringsNow_k ml_X10_182 (rcv9 kb211 kd211) rfl rfl (Nat.le_of_ble_eq_true rfl) ⟨by decide, by decide⟩ dX10_rings_2 (fun r2 M2 er2 em2 => ?_)
  refine V.eqM em2 ?_
  have h := h r2 er2
  exact Rt _ _ _ _ dX10_rings_5 h
theorem mt_X10_rings {w : Wx} {l : Launch} (k_X10_ringsNow : Ct_X10_ringsNow w l) (pu : Pu_X10_rings) : Ct_X10_rings w l := by
  intro a1 M hp
  refine met_i (by decide +kernel) (Nat.le_of_ble_eq_true rfl) (fun G C hG Rt => ?_)
  exact wk_X10_rings C hG Rt k_X10_ringsNow a1 M (pu a1 M hp _ ⟨rfl, rfl⟩)
set_option maxRecDepth 4000 in
theorem wk_X10_end {w : Wx} {G : Gx} {l : Launch} {Q : Int32 → Mem → Prop} (C : Cx w G cX10_end RX10 2 46 5) (hG : G.2.1 = l) (Rt : ∀ (pc : Nat) (lv : List (Nat × Value)) (r0 : Int32) (M0 : Mem), decode cX10_end pc = .ok (.ireturn, 1) → Q r0 M0 → V w G pc lv [.int r0] M0) (k_X10_isCar : Ct_X10_isCar w l) (k_X10_in : Ct_X10_in w l) (k_X10_ringOf : Ct_X10_ringOf w l) (k_X10_least : Ct_X10_least w l) (a1 : Int32) (a2 : Int32) (M : Mem) (h : bd_X10_end Q (fun (x3 : Int32) (x4 : Int32) (M : Mem) => V w G 29 [(0, .ref (w.2.1 211)), (2, .int a2), (3, .int x3), (4, .int x4)] [] M) a1 a2 M) : V w G 0 [(0, .ref (w.2.1 211)), (1, .int a1), (2, .int a2)] [] M := by
  unfold bd_X10_end at h
  refine v_aload_n C 0 rfl dX10_end_0 ?_
  refine v_iload_n C 1 rfl dX10_end_1 ?_
  obtain ⟨s1, h⟩ := h
  refine v_callI C [] (by rw [hG]; exact (k_X10_isCar a1 M s1)) yX10_isCar_k ml_X10_88 (rcv9 kb211 kd211) rfl rfl (Nat.le_of_ble_eq_true rfl) ⟨by decide, by decide⟩ dX10_end_2 (fun r2 M2 er2 em2 => ?_)
  refine V.eqM em2 ?_
  have h := h r2 er2
  refine v_if_ne C 11 (by decide) dX10_end_5 (fun hc => ?_) (fun hc => ?_)
  · have h := h.2 hc
    refine v_iload_n C 2 rfl dX10_end_11 ?_
    refine v_i2l C dX10_end_12 ?_
    refine v_lconst C 0 (by decide) dX10_end_13 ?_
    refine v_lconst C 1 (by decide) dX10_end_14 ?_
    obtain ⟨s3, h⟩ := h
    refine v_callSI C [] (by rw [hG]; exact (k_X10_in a2.toInt64 ((0 : Int64)) ((1 : Int64)) M s3)) yX10_in_k ml_X10_81 rfl rfl (Nat.le_of_ble_eq_true rfl) ⟨by decide, by decide⟩ dX10_end_15 (fun r4 M4 er4 em4 => ?_)
    refine V.eqM em4 ?_
    have h := h r4 er4
    refine v_if_ne C 24 (by decide) dX10_end_18 (fun hc => ?_) (fun hc => ?_)
    · have h := h.2 hc
      refine v_iload_n C 1 rfl dX10_end_24 ?_
      refine v_istore_n C [(3, .int a1), (0, .ref (w.2.1 211)), (1, .int a1), (2, .int a2)] rfl (by decide) dX10_end_25 ?_
      refine v_kc C (0) (by decide) dX10_end_26 ?_
      refine v_istore C [(4, .int ((0 : Int32))), (3, .int a1), (0, .ref (w.2.1 211)), (1, .int a1), (2, .int a2)] rfl (by decide) dX10_end_27 ?_
      exact V.sub [2, 4, 1, 0] rfl h
    · have h := h.1 hc
      refine v_ldc C kc_X10_94 dX10_end_21 ?_
      exact Rt _ _ _ _ dX10_end_23 h
  · have h := h.1 hc
    refine v_ldc C kc_X10_188 dX10_end_8 ?_
    exact Rt _ _ _ _ dX10_end_10 h
set_option maxRecDepth 4000 in
theorem wk_X10_end_29 {w : Wx} {G : Gx} {l : Launch} {Q : Int32 → Mem → Prop} (C : Cx w G cX10_end RX10 2 46 5) (hG : G.2.1 = l) (Rt : ∀ (pc : Nat) (lv : List (Nat × Value)) (r0 : Int32) (M0 : Mem), decode cX10_end pc = .ok (.ireturn, 1) → Q r0 M0 → V w G pc lv [.int r0] M0) (k_X10_isCar : Ct_X10_isCar w l) (k_X10_in : Ct_X10_in w l) (k_X10_ringOf : Ct_X10_ringOf w l) (k_X10_least : Ct_X10_least w l) (a1 : Int32) (a2 : Int32) (x3 : Int32) (x4 : Int32) (M : Mem) (h : bd_X10_end_29 Q (fun (x3 : Int32) (x4 : Int32) (M : Mem) => V w G 29 [(0, .ref (w.2.1 211)), (2, .int a2), (3, .int x3), (4, .int x4)] [] M) a1 a2 x3 x4 M) : V w G 29 [(0, .ref (w.2.1 211)), (2, .int a2), (3, .int x3), (4, .int x4)] [] M := by
  unfold bd_X10_end_29 at h
  refine v_aload_n C 0 rfl dX10_end_29 ?_
  refine v_iload_n C 2 rfl dX10_end_30 ?_
  obtain ⟨s1, h⟩ := h
  refine v_callI C [] (by rw [hG]; exact (k_X10_ringOf x3 M s1)) yX10_ringOf_k ml_X10_166 (rcv9 kb211 kd211) rfl rfl (Nat.le_of_ble_eq_true rfl) ⟨by decide, by decide⟩ dX10_end_31 (fun r2 M2 er2 em2 => ?_)
  refine V.eqM em2 ?_
  have h := h r2 er2
  refine v_if_ne C 65 (by decide) dX10_end_34 (fun hc => ?_) (fun hc => ?_)
  · have h := h.2 hc
    refine v_iload_n C 1 rfl dX10_end_65 ?_
    refine v_kc C (1) (by decide) dX10_end_66 ?_
    refine v_icmp_ne C 75 (by decide) dX10_end_67 (fun hc => ?_) (fun hc => ?_)
    · have h := h.2 hc
      refine v_aload_n C 0 rfl dX10_end_75 ?_
      refine v_iload_n C 2 rfl dX10_end_76 ?_
      obtain ⟨s3, h⟩ := h
      refine v_callI C [] (by rw [hG]; exact (k_X10_ringOf x3 M s3)) yX10_ringOf_k ml_X10_166 (rcv9 kb211 kd211) rfl rfl (Nat.le_of_ble_eq_true rfl) ⟨by decide, by decide⟩ dX10_end_77 (fun r4 M4 er4 em4 => ?_)
      refine V.eqM em4 ?_
      have h := h r4 er4
      refine v_if_ne C 87 (by decide) dX10_end_80 (fun hc => ?_) (fun hc => ?_)
      · have h := h.2 hc
        refine v_aload_n C 0 rfl dX10_end_87 ?_
        refine v_iload_n C 2 rfl dX10_end_88 ?_
        obtain ⟨s5, h⟩ := h
        refine v_callI C [] (by rw [hG]; exact (k_X10_ringOf x3 M s5)) yX10_ringOf_k ml_X10_166 (rcv9 kb211 kd211) rfl rfl (Nat.le_of_ble_eq_true rfl) ⟨by decide, by decide⟩ dX10_end_89 (fun r6 M6 er6 em6 => ?_)
        refine V.eqM em6 ?_
        have h := h r6 er6
        obtain ⟨s7, h⟩ := h
        refine v_callSI C [] (by rw [hG]; exact (k_X10_least r6 M s7)) yX10_least_k ml_X10_170 rfl rfl (Nat.le_of_ble_eq_true rfl) ⟨by decide, by decide⟩ dX10_end_92 (fun r8 M8 er8 em8 => ?_)
        refine V.eqM em8 ?_
        have h := h r8 er8
        exact Rt _ _ _ _ dX10_end_95 h
      · have h := h.1 hc
        refine v_iload_n C 2 rfl dX10_end_83 ?_
        refine v_goto C 95 (by decide) dX10_end_84 ?_
        exact Rt _ _ _ _ dX10_end_95 h
    · have h := h.1 hc
      refine v_iload C 3 rfl dX10_end_70 ?_
      refine v_goto C 95 (by decide) dX10_end_72 ?_
      exact Rt _ _ _ _ dX10_end_95 h
  · have h := h.1 hc
    refine v_aload_n C 0 rfl dX10_end_37 ?_
    refine g9_5 C kb211 kd211 fl_X10_16 dX10_end_38 ?_
    refine v_kb C (8) (by decide) dX10_end_41 ?_
    refine v_iload_n C 2 rfl dX10_end_43 ?_
    refine v_iadd C dX10_end_44 ?_
    obtain ⟨s9, h⟩ := h
    refine v_iald C kb214 kd214 ln214 s9 dX10_end_45 ?_
    refine v_if_lt C 65 (by decide) dX10_end_46 (fun hc => ?_) (fun hc => ?_)
    · have h := h.1 hc
      refine v_iload_n C 1 rfl dX10_end_65 ?_
      refine v_kc C (1) (by decide) dX10_end_66 ?_
      refine v_icmp_ne C 75 (by decide) dX10_end_67 (fun hc => ?_) (fun hc => ?_)
      · have h := h.2 hc
        refine v_aload_n C 0 rfl dX10_end_75 ?_
        refine v_iload_n C 2 rfl dX10_end_76 ?_
        obtain ⟨s10, h⟩ := h
        refine v_callI C [] (by rw [hG]; exact (k_X10_ringOf x3 M s10)) yX10_ringOf_k ml_X10_166 (rcv9 kb211 kd211) rfl rfl (Nat.le_of_ble_eq_true rfl) ⟨by decide, by decide⟩ dX10_end_77 (fun r11 M11 er11 em11 => ?_)
        refine V.eqM em11 ?_
        have h := h r11 er11
        refine v_if_ne C 87 (by decide) dX10_end_80 (fun hc => ?_) (fun hc => ?_)
        · have h := h.2 hc
          refine v_aload_n C 0 rfl dX10_end_87 ?_
          refine v_iload_n C 2 rfl dX10_end_88 ?_
          obtain ⟨s12, h⟩ := h
          refine v_callI C [] (by rw [hG]; exact (k_X10_ringOf x3 M s12)) yX10_ringOf_k ml_X10_166 (rcv9 kb211 kd211) rfl rfl (Nat.le_of_ble_eq_true rfl) ⟨by decide, by decide⟩ dX10_end_89 (fun r13 M13 er13 em13 => ?_)
          refine V.eqM em13 ?_
          have h := h r13 er13
          obtain ⟨s14, h⟩ := h
          refine v_callSI C [] (by rw [hG]; exact (k_X10_least r13 M s14)) yX10_least_k ml_X10_170 rfl rfl (Nat.le_of_ble_eq_true rfl) ⟨by decide, by decide⟩ dX10_end_92 (fun r15 M15 er15 em15 => ?_)
          refine V.eqM em15 ?_
          have h := h r15 er15
          exact Rt _ _ _ _ dX10_end_95 h
        · have h := h.1 hc
          refine v_iload_n C 2 rfl dX10_end_83 ?_
          refine v_goto C 95 (by decide) dX10_end_84 ?_
          exact Rt _ _ _ _ dX10_end_95 h
      · have h := h.1 hc
        refine v_iload C 3 rfl dX10_end_70 ?_
        refine v_goto C 95 (by decide) dX10_end_72 ?_
        exact Rt _ _ _ _ dX10_end_95 h
    · have h := h.2 hc
      refine v_aload_n C 0 rfl dX10_end_49 ?_
      refine g9_5 C kb211 kd211 fl_X10_16 dX10_end_50 ?_
      refine v_kb C (8) (by decide) dX10_end_53 ?_
      refine v_iload_n C 2 rfl dX10_end_55 ?_
      refine v_iadd C dX10_end_56 ?_
      obtain ⟨s16, h⟩ := h
      refine v_iald C kb214 kd214 ln214 s16 dX10_end_57 ?_
      refine v_istore_n C [(3, .int (M 214 (((8 : Int32)) + x3).toNatClampNeg)), (0, .ref (w.2.1 211)), (2, .int a2), (4, .int x4)] rfl (by decide) dX10_end_58 ?_
      refine v_iinc C (j := 3) [(4, .int (x4 + 1)), (3, .int (M 214 (((8 : Int32)) + x3).toNatClampNeg)), (0, .ref (w.2.1 211)), (2, .int a2)] rfl (x4 + 1) rfl rfl (by decide) dX10_end_59 ?_
      refine v_goto C 29 (by decide) dX10_end_62 ?_
      exact V.sub [2, 3, 1, 0] rfl h
theorem mt_X10_end {w : Wx} {l : Launch} (k_X10_isCar : Ct_X10_isCar w l) (k_X10_in : Ct_X10_in w l) (k_X10_ringOf : Ct_X10_ringOf w l) (k_X10_least : Ct_X10_least w l) (pu : Pu_X10_end) : Ct_X10_end w l := by
  intro a1 a2 M hp
  refine met_i (by decide +kernel) (Nat.le_of_ble_eq_true rfl) (fun G C hG Rt => ?_)
  exact wk_X10_end C hG Rt k_X10_isCar k_X10_in k_X10_ringOf k_X10_least a1 a2 M (pu a1 a2 M hp _ _ (fun x3 x4 M h => wk_X10_end_29 C hG Rt k_X10_isCar k_X10_in k_X10_ringOf k_X10_least a1 a2 x3 x4 M h) ⟨rfl, rfl⟩)
set_option maxRecDepth 4000 in
theorem wk_X10_behind {w : Wx} {G : Gx} {l : Launch} {Q : Int32 → Mem → Prop} (C : Cx w G cX10_behind RX10 2 46 2) (hG : G.2.1 = l) (Rt : ∀ (pc : Nat) (lv : List (Nat × Value)) (r0 : Int32) (M0 : Mem), decode cX10_behind pc = .ok (.ireturn, 1) → Q r0 M0 → V w G pc lv [.int r0] M0) (k_X10_isCar : Ct_X10_isCar w l) (k_X10_behindOf : Ct_X10_behindOf w l) (a1 : Int32) (M : Mem) (h : bd_X10_behind Q a1 M) : V w G 0 [(0, .ref (w.2.1 211)), (1, .int a1)] [] M := by
  unfold bd_X10_behind at h
  refine v_aload_n C 0 rfl dX10_behind_0 ?_
  refine v_iload_n C 1 rfl dX10_behind_1 ?_
  obtain ⟨s1, h⟩ := h
  refine v_callI C [] (by rw [hG]; exact (k_X10_isCar a1 M s1)) yX10_isCar_k ml_X10_88 (rcv9 kb211 kd211) rfl rfl (Nat.le_of_ble_eq_true rfl) ⟨by decide, by decide⟩ dX10_behind_2 (fun r2 M2 er2 em2 => ?_)
  refine V.eqM em2 ?_
  have h := h r2 er2
  refine v_if_eq C 16 (by decide) dX10_behind_5 (fun hc => ?_) (fun hc => ?_)
  · have h := h.1 hc
    refine v_ldc C kc_X10_188 dX10_behind_16 ?_
    exact Rt _ _ _ _ dX10_behind_18 h
  · have h := h.2 hc
    refine v_aload_n C 0 rfl dX10_behind_8 ?_
    refine v_iload_n C 1 rfl dX10_behind_9 ?_
    obtain ⟨s3, h⟩ := h
    refine v_callI C [] (by rw [hG]; exact (k_X10_behindOf a1 M s3)) yX10_behindOf_k ml_X10_173 (rcv9 kb211 kd211) rfl rfl (Nat.le_of_ble_eq_true rfl) ⟨by decide, by decide⟩ dX10_behind_10 (fun r4 M4 er4 em4 => ?_)
    refine V.eqM em4 ?_
    have h := h r4 er4
    refine v_goto C 18 (by decide) dX10_behind_13 ?_
    exact Rt _ _ _ _ dX10_behind_18 h
theorem mt_X10_behind {w : Wx} {l : Launch} (k_X10_isCar : Ct_X10_isCar w l) (k_X10_behindOf : Ct_X10_behindOf w l) (pu : Pu_X10_behind) : Ct_X10_behind w l := by
  intro a1 M hp
  refine met_i (by decide +kernel) (Nat.le_of_ble_eq_true rfl) (fun G C hG Rt => ?_)
  exact wk_X10_behind C hG Rt k_X10_isCar k_X10_behindOf a1 M (pu a1 M hp _ ⟨rfl, rfl⟩)
set_option maxRecDepth 4000 in
theorem wk_X10_stop {w : Wx} {G : Gx} {l : Launch} {Q : Int32 → Mem → Prop} (C : Cx w G cX10_stop RX10 2 42 4) (hG : G.2.1 = l) (Rt : ∀ (pc : Nat) (lv : List (Nat × Value)) (r0 : Int32) (M0 : Mem), decode cX10_stop pc = .ok (.ireturn, 1) → Q r0 M0 → V w G pc lv [.int r0] M0) (k_X10_ringOf : Ct_X10_ringOf w l) (k_X10_least : Ct_X10_least w l) (M : Mem) (h : bd_X10_stop Q (fun (x1 : Int32) (x2 : Int32) (M : Mem) => V w G 4 [(0, .ref (w.2.1 211)), (1, .int x1), (2, .int x2)] [] M) M) : V w G 0 [(0, .ref (w.2.1 211))] [] M := by
  unfold bd_X10_stop at h
  refine v_kc C (0) (by decide) dX10_stop_0 ?_
  refine v_istore_n C [(1, .int ((0 : Int32))), (0, .ref (w.2.1 211))] rfl (by decide) dX10_stop_1 ?_
  refine v_kc C (0) (by decide) dX10_stop_2 ?_
  refine v_istore_n C [(2, .int ((0 : Int32))), (1, .int ((0 : Int32))), (0, .ref (w.2.1 211))] rfl (by decide) dX10_stop_3 ?_
  exact V.sub [2, 1, 0] rfl h
set_option maxRecDepth 4000 in
theorem wk_X10_stop_4 {w : Wx} {G : Gx} {l : Launch} {Q : Int32 → Mem → Prop} (C : Cx w G cX10_stop RX10 2 42 4) (hG : G.2.1 = l) (Rt : ∀ (pc : Nat) (lv : List (Nat × Value)) (r0 : Int32) (M0 : Mem), decode cX10_stop pc = .ok (.ireturn, 1) → Q r0 M0 → V w G pc lv [.int r0] M0) (k_X10_ringOf : Ct_X10_ringOf w l) (k_X10_least : Ct_X10_least w l) (x1 : Int32) (x2 : Int32) (M : Mem) (h : bd_X10_stop_4 Q (fun (x1 : Int32) (x2 : Int32) (M : Mem) => V w G 4 [(0, .ref (w.2.1 211)), (1, .int x1), (2, .int x2)] [] M) x1 x2 M) : V w G 4 [(0, .ref (w.2.1 211)), (1, .int x1), (2, .int x2)] [] M := by
  unfold bd_X10_stop_4 at h
  refine v_iload_n C 2 rfl dX10_stop_4 ?_
  refine v_aload_n C 0 rfl dX10_stop_5 ?_
  refine g9_2 C kb211 kd211 fl_X10_85 dX10_stop_6 ?_
  refine v_icmp_ge C 46 (by decide) dX10_stop_9 (fun hc => ?_) (fun hc => ?_)
  · have h := h.1 hc
    refine v_iload_n C 1 rfl dX10_stop_46 ?_
    exact Rt _ _ _ _ dX10_stop_47 h
  · have h := h.2 hc
    refine v_aload_n C 0 rfl dX10_stop_12 ?_
    refine v_iload_n C 2 rfl dX10_stop_13 ?_
    obtain ⟨s1, h⟩ := h
    refine v_callI C [] (by rw [hG]; exact (k_X10_ringOf x2 M s1)) yX10_ringOf_k ml_X10_166 (rcv9 kb211 kd211) rfl rfl (Nat.le_of_ble_eq_true rfl) ⟨by decide, by decide⟩ dX10_stop_14 (fun r2 M2 er2 em2 => ?_)
    refine V.eqM em2 ?_
    have h := h r2 er2
    refine v_istore_n C [(3, .int r2), (0, .ref (w.2.1 211)), (1, .int x1), (2, .int x2)] rfl (by decide) dX10_stop_17 ?_
    refine v_iload_n C 2 rfl dX10_stop_18 ?_
    refine v_iload_n C 0 rfl dX10_stop_19 ?_
    refine v_if_eq C 37 (by decide) dX10_stop_20 (fun hc => ?_) (fun hc => ?_)
    · have h := h.1 hc
      refine v_kc C (0) (by decide) dX10_stop_37 ?_
      refine v_ior C dX10_stop_38 ?_
      refine v_istore_n C [(1, .int (x1 ||| ((0 : Int32)))), (3, .int r2), (0, .ref (w.2.1 211)), (2, .int x2)] rfl (by decide) dX10_stop_39 ?_
      refine v_iinc C (j := 3) [(2, .int (x2 + 1)), (1, .int (x1 ||| ((0 : Int32)))), (3, .int r2), (0, .ref (w.2.1 211))] rfl (x2 + 1) rfl rfl (by decide) dX10_stop_40 ?_
      refine v_goto C 4 (by decide) dX10_stop_43 ?_
      exact V.sub [3, 1, 0] rfl h
    · have h := h.2 hc
      refine v_iload_n C 0 rfl dX10_stop_23 ?_
      obtain ⟨s3, h⟩ := h
      refine v_callSI C [.int x1] (by rw [hG]; exact (k_X10_least r2 M s3)) yX10_least_k ml_X10_170 rfl rfl (Nat.le_of_ble_eq_true rfl) ⟨by decide, by decide⟩ dX10_stop_24 (fun r4 M4 er4 em4 => ?_)
      refine V.eqM em4 ?_
      have h := h r4 er4
      refine v_iload_n C 3 rfl dX10_stop_27 ?_
      have key5 : V w G 38 [(3, .int r2), (0, .ref (w.2.1 211)), (1, .int x1), (2, .int x2)] (.int (if r4 = x2 then ((1 : Int32)) <<< (x2 &&& 31) else (0 : Int32)) :: .int x1 :: []) M := by
        refine v_ior C dX10_stop_38 ?_
        refine v_istore_n C [(1, .int (x1 ||| (if r4 = x2 then ((1 : Int32)) <<< (x2 &&& 31) else (0 : Int32)))), (3, .int r2), (0, .ref (w.2.1 211)), (2, .int x2)] rfl (by decide) dX10_stop_39 ?_
        refine v_iinc C (j := 3) [(2, .int (x2 + 1)), (1, .int (x1 ||| (if r4 = x2 then ((1 : Int32)) <<< (x2 &&& 31) else (0 : Int32)))), (3, .int r2), (0, .ref (w.2.1 211))] rfl (x2 + 1) rfl rfl (by decide) dX10_stop_40 ?_
        refine v_goto C 4 (by decide) dX10_stop_43 ?_
        exact V.sub [3, 1, 0] rfl h
      refine v_icmp_ne C 37 (by decide) dX10_stop_28 (fun hc => ?_) (fun hc => ?_)
      · rw [if_neg hc] at key5
        refine v_kc C (0) (by decide) dX10_stop_37 ?_
        exact key5
      · rw [if_pos hc] at key5
        refine v_kc C (1) (by decide) dX10_stop_31 ?_
        refine v_iload_n C 3 rfl dX10_stop_32 ?_
        refine v_ishl C dX10_stop_33 ?_
        refine v_goto C 38 (by decide) dX10_stop_34 ?_
        exact key5
theorem mt_X10_stop {w : Wx} {l : Launch} (k_X10_ringOf : Ct_X10_ringOf w l) (k_X10_least : Ct_X10_least w l) (pu : Pu_X10_stop) : Ct_X10_stop w l := by
  intro M hp
  refine met_i (by decide +kernel) (Nat.le_of_ble_eq_true rfl) (fun G C hG Rt => ?_)
  exact wk_X10_stop C hG Rt k_X10_ringOf k_X10_least M (pu M hp _ _ (fun x1 x2 M h => wk_X10_stop_4 C hG Rt k_X10_ringOf k_X10_least x1 x2 M h) ⟨rfl, rfl⟩)
set_option maxRecDepth 4000 in
theorem wk_X10_isCorner {w : Wx} {G : Gx} {l : Launch} {Q : Int32 → Mem → Prop} (C : Cx w G cX10_isCorner RX10 1 25 2) (hG : G.2.1 = l) (Rt : ∀ (pc : Nat) (lv : List (Nat × Value)) (r0 : Int32) (M0 : Mem), decode cX10_isCorner pc = .ok (.ireturn, 1) → Q r0 M0 → V w G pc lv [.int r0] M0) (k_X10_in : Ct_X10_in w l) (a1 : Int32) (M : Mem) (h : bd_X10_isCorner Q a1 M) : V w G 0 [(0, .ref (w.2.1 211)), (1, .int a1)] [] M := by
  unfold bd_X10_isCorner at h
  refine v_iload_n C 1 rfl dX10_isCorner_0 ?_
  refine v_i2l C dX10_isCorner_1 ?_
  refine v_lconst C 0 (by decide) dX10_isCorner_2 ?_
  refine v_aload_n C 0 rfl dX10_isCorner_3 ?_
  refine g9_0 C kb211 kd211 fl_X10_78 dX10_isCorner_4 ?_
  refine v_kc C (1) (by decide) dX10_isCorner_7 ?_
  refine v_isub C dX10_isCorner_8 ?_
  refine v_i2l C dX10_isCorner_9 ?_
  obtain ⟨s1, h⟩ := h
  refine v_callSI C [] (by rw [hG]; exact (k_X10_in a1.toInt64 ((0 : Int64)) (((M 211 0) - ((1 : Int32))).toInt64) M s1)) yX10_in_k ml_X10_81 rfl rfl (Nat.le_of_ble_eq_true rfl) ⟨by decide, by decide⟩ dX10_isCorner_10 (fun r2 M2 er2 em2 => ?_)
  refine V.eqM em2 ?_
  have h := h r2 er2
  exact Rt _ _ _ _ dX10_isCorner_13 h
theorem mt_X10_isCorner {w : Wx} {l : Launch} (k_X10_in : Ct_X10_in w l) (pu : Pu_X10_isCorner) : Ct_X10_isCorner w l := by
  intro a1 M hp
  refine met_z (by decide +kernel) (Nat.le_of_ble_eq_true rfl) (pu a1 M hp).1 (fun G C hG Rt => ?_)
  exact wk_X10_isCorner C hG Rt k_X10_in a1 M ((pu a1 M hp).2 _ ⟨rfl, rfl⟩)
