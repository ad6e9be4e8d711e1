set_option maxRecDepth 4000 in
theorem wk_X10_stepAll {w : Wx} {G : Gx} {Q : Mem → Prop} (C : Cx w G cX10_stepAll RX10 1 22 3) (Rt : ∀ (pc : Nat) (lv : List (Nat × Value)) (M0 : Mem), decode cX10_stepAll pc = .ok (.return_, 1) → Q M0 → V w G pc lv [] M0) (k_X10_cornerOf : Ct_X10_cornerOf w G.2.1) (M : Mem) (h : bd_X10_stepAll Q (fun (x1 : Int32) (M : Mem) => V w G 2 [(0, .ref (w.2.1 211)), (1, .int x1)] [] M) (fun (x1 : Int32) (M : Mem) => V w G 30 [(0, .ref (w.2.1 211)), (1, .int x1)] [] M) M) : V w G 0 [(0, .ref (w.2.1 211))] [] M := by
  unfold bd_X10_stepAll at h
  refine v_kc C (0) (by decide) dX10_stepAll_0 ?_
  refine v_istore_n C [(1, .int ((0 : Int32))), (0, .ref (w.2.1 211))] rfl (by decide) dX10_stepAll_1 ?_
  exact V.sub [1, 0] rfl h
set_option maxRecDepth 4000 in
theorem wk_X10_stepAll_2 {w : Wx} {G : Gx} {Q : Mem → Prop} (C : Cx w G cX10_stepAll RX10 1 22 3) (Rt : ∀ (pc : Nat) (lv : List (Nat × Value)) (M0 : Mem), decode cX10_stepAll pc = .ok (.return_, 1) → Q M0 → V w G pc lv [] M0) (k_X10_cornerOf : Ct_X10_cornerOf w G.2.1) (x1 : Int32) (M : Mem) (h : bd_X10_stepAll_2 Q (fun (x1 : Int32) (M : Mem) => V w G 2 [(0, .ref (w.2.1 211)), (1, .int x1)] [] M) (fun (x1 : Int32) (M : Mem) => V w G 30 [(0, .ref (w.2.1 211)), (1, .int x1)] [] M) x1 M) : V w G 2 [(0, .ref (w.2.1 211)), (1, .int x1)] [] M := by
  unfold bd_X10_stepAll_2 at h
  refine v_iload_n C 1 rfl dX10_stepAll_2 ?_
  refine v_aload_n C 0 rfl dX10_stepAll_3 ?_
  refine g9_2 C kb211 kd211 fl_X10_85 dX10_stepAll_4 ?_
  refine v_icmp_ge C 28 (by decide) dX10_stepAll_7 (fun hc => ?_) (fun hc => ?_)
  · have h := h.1 hc
    refine v_kc C (0) (by decide) dX10_stepAll_28 ?_
    refine v_istore_n C [(1, .int ((0 : Int32))), (0, .ref (w.2.1 211))] rfl (by decide) dX10_stepAll_29 ?_
    exact V.sub [1, 0] rfl h
  · have h := h.2 hc
    refine v_aload_n C 0 rfl dX10_stepAll_10 ?_
    refine g9_19 C kb211 kd211 fl_X10_41 dX10_stepAll_11 ?_
    refine v_iload_n C 1 rfl dX10_stepAll_14 ?_
    refine v_aload_n C 0 rfl dX10_stepAll_15 ?_
    refine g9_5 C kb211 kd211 fl_X10_16 dX10_stepAll_16 ?_
    refine v_iload_n C 1 rfl dX10_stepAll_19 ?_
    obtain ⟨s1, h⟩ := h
    refine v_iald C kb214 kd214 ln214 s1 dX10_stepAll_20 ?_
    obtain ⟨s2, h⟩ := h
    refine v_iast C kb221 kd221 ln221 s2 dX10_stepAll_21 (fun M3 e3 => ?_)
    have h := h M3 e3
    refine v_iinc C (j := 1) [(1, .int (x1 + 1)), (0, .ref (w.2.1 211))] rfl (x1 + 1) rfl rfl (by decide) dX10_stepAll_22 ?_
    refine v_goto C 2 (by decide) dX10_stepAll_25 ?_
    exact V.sub [1, 0] rfl h
set_option maxRecDepth 4000 in
theorem wk_X10_stepAll_30 {w : Wx} {G : Gx} {Q : Mem → Prop} (C : Cx w G cX10_stepAll RX10 1 22 3) (Rt : ∀ (pc : Nat) (lv : List (Nat × Value)) (M0 : Mem), decode cX10_stepAll pc = .ok (.return_, 1) → Q M0 → V w G pc lv [] M0) (k_X10_cornerOf : Ct_X10_cornerOf w G.2.1) (x1 : Int32) (M : Mem) (h : bd_X10_stepAll_30 Q (fun (x1 : Int32) (M : Mem) => V w G 2 [(0, .ref (w.2.1 211)), (1, .int x1)] [] M) (fun (x1 : Int32) (M : Mem) => V w G 30 [(0, .ref (w.2.1 211)), (1, .int x1)] [] M) x1 M) : V w G 30 [(0, .ref (w.2.1 211)), (1, .int x1)] [] M := by
  unfold bd_X10_stepAll_30 at h
  refine v_iload_n C 1 rfl dX10_stepAll_30 ?_
  refine v_aload_n C 0 rfl dX10_stepAll_31 ?_
  refine g9_2 C kb211 kd211 fl_X10_85 dX10_stepAll_32 ?_
  refine v_icmp_ge C 152 (by decide) dX10_stepAll_35 (fun hc => ?_) (fun hc => ?_)
  · have h := h.1 hc
    refine v_aload_n C 0 rfl dX10_stepAll_152 ?_
    refine g9_5 C kb211 kd211 fl_X10_16 dX10_stepAll_153 ?_
    refine v_kb C (40) (by decide) dX10_stepAll_156 ?_
    refine v_dup2 C rfl rfl dX10_stepAll_158 ?_
    obtain ⟨s1, h⟩ := h
    refine v_iald C kb214 kd214 ln214 s1 dX10_stepAll_159 ?_
    refine v_kc C (1) (by decide) dX10_stepAll_160 ?_
    refine v_iadd C dX10_stepAll_161 ?_
    obtain ⟨s2, h⟩ := h
    refine v_iast C kb214 kd214 ln214 s2 dX10_stepAll_162 (fun M3 e3 => ?_)
    have h := h M3 e3
    exact Rt _ _ _ dX10_stepAll_163 h
  · have h := h.2 hc
    refine v_aload_n C 0 rfl dX10_stepAll_38 ?_
    refine g9_5 C kb211 kd211 fl_X10_16 dX10_stepAll_39 ?_
    refine v_kb C (8) (by decide) dX10_stepAll_42 ?_
    refine v_iload_n C 1 rfl dX10_stepAll_44 ?_
    refine v_iadd C dX10_stepAll_45 ?_
    obtain ⟨s4, h⟩ := h
    refine v_iald C kb214 kd214 ln214 s4 dX10_stepAll_46 ?_
    refine v_istore_n C [(2, .int (M 214 (((8 : Int32)) + x1).toNatClampNeg)), (0, .ref (w.2.1 211)), (1, .int x1)] rfl (by decide) dX10_stepAll_47 ?_
    refine v_iload_n C 0 rfl dX10_stepAll_48 ?_
    refine v_if_lt C 67 (by decide) dX10_stepAll_49 (fun hc => ?_) (fun hc => ?_)
    · have h := h.1 hc
      refine v_aload_n C 1 rfl dX10_stepAll_67 ?_
      refine g9_5 C kb211 kd211 fl_X10_16 dX10_stepAll_68 ?_
      refine v_iload_n C 2 rfl dX10_stepAll_71 ?_
      refine v_aload_n C 1 rfl dX10_stepAll_72 ?_
      refine v_iload_n C 2 rfl dX10_stepAll_73 ?_
      refine v_aload_n C 1 rfl dX10_stepAll_74 ?_
      refine g9_5 C kb211 kd211 fl_X10_16 dX10_stepAll_75 ?_
      refine v_kb C (16) (by decide) dX10_stepAll_78 ?_
      refine v_iload_n C 2 rfl dX10_stepAll_80 ?_
      refine v_iadd C dX10_stepAll_81 ?_
      obtain ⟨s5, h⟩ := h
      refine v_iald C kb214 kd214 ln214 s5 dX10_stepAll_82 ?_
      refine v_callI C [.int x1, .ref (w.2.1 214)] (k_X10_cornerOf x1 (M 214 (((16 : Int32)) + x1).toNatClampNeg) M _ h) yX10_cornerOf_k ml_X10_159 (rcv9 kb211 kd211) rfl rfl (Nat.le_of_ble_eq_true rfl) ⟨by decide, by decide⟩ dX10_stepAll_83 (fun r6 M6 h => ?_)
      obtain ⟨s7, h⟩ := h
      refine v_iast C kb214 kd214 ln214 s7 dX10_stepAll_86 (fun M8 e8 => ?_)
      have h := h M8 e8
      refine v_aload_n C 1 rfl dX10_stepAll_87 ?_
      refine g9_5 C kb211 kd211 fl_X10_16 dX10_stepAll_88 ?_
      refine v_kb C (16) (by decide) dX10_stepAll_91 ?_
      refine v_iload_n C 2 rfl dX10_stepAll_93 ?_
      refine v_iadd C dX10_stepAll_94 ?_
      refine v_aload_n C 1 rfl dX10_stepAll_95 ?_
      refine g9_5 C kb211 kd211 fl_X10_16 dX10_stepAll_96 ?_
      refine v_kb C (16) (by decide) dX10_stepAll_99 ?_
      refine v_iload_n C 2 rfl dX10_stepAll_101 ?_
      refine v_iadd C dX10_stepAll_102 ?_
      obtain ⟨s9, h⟩ := h
      refine v_iald C kb214 kd214 ln214 s9 dX10_stepAll_103 ?_
      refine v_kc C (1) (by decide) dX10_stepAll_104 ?_
      refine v_iadd C dX10_stepAll_105 ?_
      refine v_aload_n C 1 rfl dX10_stepAll_106 ?_
      refine g9_4 C kb211 kd211 fl_X10_13 dX10_stepAll_107 ?_
      refine v_iload_n C 2 rfl dX10_stepAll_110 ?_
      obtain ⟨s10, h⟩ := h
      refine v_iald C kb213 kd213 ln213 s10 dX10_stepAll_111 ?_
      obtain ⟨s11, h⟩ := h
      refine v_irem C s11 dX10_stepAll_112 ?_
      obtain ⟨s12, h⟩ := h
      refine v_iast C kb214 kd214 ln214 s12 dX10_stepAll_113 (fun M13 e13 => ?_)
      have h := h M13 e13
      refine v_aload_n C 1 rfl dX10_stepAll_114 ?_
      refine g9_5 C kb211 kd211 fl_X10_16 dX10_stepAll_115 ?_
      refine v_kb C (24) (by decide) dX10_stepAll_118 ?_
      refine v_iload_n C 2 rfl dX10_stepAll_120 ?_
      refine v_iadd C dX10_stepAll_121 ?_
      refine v_dup2 C rfl rfl dX10_stepAll_122 ?_
      obtain ⟨s14, h⟩ := h
      refine v_iald C kb214 kd214 ln214 s14 dX10_stepAll_123 ?_
      refine v_aload_n C 1 rfl dX10_stepAll_124 ?_
      refine g9_5 C kb211 kd211 fl_X10_16 dX10_stepAll_125 ?_
      refine v_iload_n C 2 rfl dX10_stepAll_128 ?_
      obtain ⟨s15, h⟩ := h
      refine v_iald C kb214 kd214 ln214 s15 dX10_stepAll_129 ?_
      refine v_aload_n C 1 rfl dX10_stepAll_130 ?_
      refine g9_19 C kb211 kd211 fl_X10_41 dX10_stepAll_131 ?_
      refine v_iload_n C 2 rfl dX10_stepAll_134 ?_
      obtain ⟨s16, h⟩ := h
      refine v_iald C kb221 kd221 ln221 s16 dX10_stepAll_135 ?_
      have key17 : V w G 144 [(2, .int (M 214 (((8 : Int32)) + x1).toNatClampNeg)), (0, .ref (w.2.1 211)), (1, .int x1)] (.int (if (M13 214 x1.toNatClampNeg) = (M13 221 x1.toNatClampNeg) then (0 : Int32) else (1 : Int32)) :: .int (M13 214 (((24 : Int32)) + x1).toNatClampNeg) :: .int (((24 : Int32)) + x1) :: .ref (w.2.1 214) :: []) M13 := by
        refine v_iadd C dX10_stepAll_144 ?_
        obtain ⟨s18, h⟩ := h
        refine v_iast C kb214 kd214 ln214 s18 dX10_stepAll_145 (fun M19 e19 => ?_)
        have h := h M19 e19
        refine v_iinc C (j := 2) [(1, .int (x1 + 1)), (2, .int (M 214 (((8 : Int32)) + x1).toNatClampNeg)), (0, .ref (w.2.1 211))] rfl (x1 + 1) rfl rfl (by decide) dX10_stepAll_146 ?_
        refine v_goto C 30 (by decide) dX10_stepAll_149 ?_
        exact V.sub [2, 0] rfl h
      refine v_icmp_ne C 143 (by decide) dX10_stepAll_136 (fun hc => ?_) (fun hc => ?_)
      · rw [show (if (M13 214 x1.toNatClampNeg) = (M13 221 x1.toNatClampNeg) then (0 : Int32) else (1 : Int32) : Int32) = (1 : Int32) from if_neg hc] at key17
        refine v_kc C (1) (by decide) dX10_stepAll_143 ?_
        exact key17
      · rw [show (if (M13 214 x1.toNatClampNeg) = (M13 221 x1.toNatClampNeg) then (0 : Int32) else (1 : Int32) : Int32) = (0 : Int32) from if_pos hc] at key17
        refine v_kc C (0) (by decide) dX10_stepAll_139 ?_
        refine v_goto C 144 (by decide) dX10_stepAll_140 ?_
        exact key17
    · have h := h.2 hc
      refine v_aload_n C 1 rfl dX10_stepAll_52 ?_
      refine g9_5 C kb211 kd211 fl_X10_16 dX10_stepAll_53 ?_
      refine v_iload_n C 2 rfl dX10_stepAll_56 ?_
      refine v_aload_n C 1 rfl dX10_stepAll_57 ?_
      refine g9_19 C kb211 kd211 fl_X10_41 dX10_stepAll_58 ?_
      refine v_iload_n C 0 rfl dX10_stepAll_61 ?_
      obtain ⟨s20, h⟩ := h
      refine v_iald C kb221 kd221 ln221 s20 dX10_stepAll_62 ?_
      obtain ⟨s21, h⟩ := h
      refine v_iast C kb214 kd214 ln214 s21 dX10_stepAll_63 (fun M22 e22 => ?_)
      have h := h M22 e22
      refine v_goto C 114 (by decide) dX10_stepAll_64 ?_
      refine v_aload_n C 1 rfl dX10_stepAll_114 ?_
      refine g9_5 C kb211 kd211 fl_X10_16 dX10_stepAll_115 ?_
      refine v_kb C (24) (by decide) dX10_stepAll_118 ?_
      refine v_iload_n C 2 rfl dX10_stepAll_120 ?_
      refine v_iadd C dX10_stepAll_121 ?_
      refine v_dup2 C rfl rfl dX10_stepAll_122 ?_
      obtain ⟨s23, h⟩ := h
      refine v_iald C kb214 kd214 ln214 s23 dX10_stepAll_123 ?_
      refine v_aload_n C 1 rfl dX10_stepAll_124 ?_
      refine g9_5 C kb211 kd211 fl_X10_16 dX10_stepAll_125 ?_
      refine v_iload_n C 2 rfl dX10_stepAll_128 ?_
      obtain ⟨s24, h⟩ := h
      refine v_iald C kb214 kd214 ln214 s24 dX10_stepAll_129 ?_
      refine v_aload_n C 1 rfl dX10_stepAll_130 ?_
      refine g9_19 C kb211 kd211 fl_X10_41 dX10_stepAll_131 ?_
      refine v_iload_n C 2 rfl dX10_stepAll_134 ?_
      obtain ⟨s25, h⟩ := h
      refine v_iald C kb221 kd221 ln221 s25 dX10_stepAll_135 ?_
      have key26 : V w G 144 [(2, .int (M 214 (((8 : Int32)) + x1).toNatClampNeg)), (0, .ref (w.2.1 211)), (1, .int x1)] (.int (if (M22 214 x1.toNatClampNeg) = (M22 221 x1.toNatClampNeg) then (0 : Int32) else (1 : Int32)) :: .int (M22 214 (((24 : Int32)) + x1).toNatClampNeg) :: .int (((24 : Int32)) + x1) :: .ref (w.2.1 214) :: []) M22 := by
        refine v_iadd C dX10_stepAll_144 ?_
        obtain ⟨s27, h⟩ := h
        refine v_iast C kb214 kd214 ln214 s27 dX10_stepAll_145 (fun M28 e28 => ?_)
        have h := h M28 e28
        refine v_iinc C (j := 2) [(1, .int (x1 + 1)), (2, .int (M 214 (((8 : Int32)) + x1).toNatClampNeg)), (0, .ref (w.2.1 211))] rfl (x1 + 1) rfl rfl (by decide) dX10_stepAll_146 ?_
        refine v_goto C 30 (by decide) dX10_stepAll_149 ?_
        exact V.sub [2, 0] rfl h
      refine v_icmp_ne C 143 (by decide) dX10_stepAll_136 (fun hc => ?_) (fun hc => ?_)
      · rw [show (if (M22 214 x1.toNatClampNeg) = (M22 221 x1.toNatClampNeg) then (0 : Int32) else (1 : Int32) : Int32) = (1 : Int32) from if_neg hc] at key26
        refine v_kc C (1) (by decide) dX10_stepAll_143 ?_
        exact key26
      · rw [show (if (M22 214 x1.toNatClampNeg) = (M22 221 x1.toNatClampNeg) then (0 : Int32) else (1 : Int32) : Int32) = (0 : Int32) from if_pos hc] at key26
        refine v_kc C (0) (by decide) dX10_stepAll_139 ?_
        refine v_goto C 144 (by decide) dX10_stepAll_140 ?_
        exact key26
theorem mt_X10_stepAll {w : Wx} {l : Launch} (k_X10_cornerOf : Ct_X10_cornerOf w l) : Ct_X10_stepAll w l := by
  intro M Q h
  refine met_v (by decide +kernel) (Nat.le_of_ble_eq_true rfl) (fun G C hG Rt => ?_)
  subst hG
  exact wk_X10_stepAll C Rt k_X10_cornerOf M (h _ _ (fun x1 M h => wk_X10_stepAll_2 C Rt k_X10_cornerOf x1 M h) (fun x1 M h => wk_X10_stepAll_30 C Rt k_X10_cornerOf x1 M h))
theorem ct_X10_stepAll (w : Wx) (l : Launch) : Ct_X10_stepAll w l := mt_X10_stepAll (ct_X10_cornerOf w l)
set_option maxRecDepth 4000 in
theorem wk_X10_step {w : Wx} {G : Gx} {Q : Int32 → Mem → Prop} (C : Cx w G cX10_step RX10 2 46 4) (Rt : ∀ (pc : Nat) (lv : List (Nat × Value)) (r0 : Int32) (M0 : Mem), decode cX10_step pc = .ok (.ireturn, 1) → Q r0 M0 → V w G pc lv [.int r0] M0) (k_X10_stepsRefused : Ct_X10_stepsRefused w G.2.1) (k_X10_remember : Ct_X10_remember w G.2.1) (k_X10_stepAll : Ct_X10_stepAll w G.2.1) (a1 : Int32) (M : Mem) (h : bd_X10_step Q (fun (x3 : Int32) (M : Mem) => V w G 18 [(0, .ref (w.2.1 211)), (1, .int a1), (3, .int x3)] [] M) a1 M) : V w G 0 [(0, .ref (w.2.1 211)), (1, .int a1)] [] M := by
  unfold bd_X10_step at h
  refine v_aload_n C 0 rfl dX10_step_0 ?_
  refine v_iload_n C 1 rfl dX10_step_1 ?_
  refine v_callI C [] (k_X10_stepsRefused a1 M _ h) yX10_stepsRefused_k ml_X10_195 (rcv9 kb211 kd211) rfl rfl (Nat.le_of_ble_eq_true rfl) ⟨by decide, by decide⟩ dX10_step_2 (fun r1 M1 h => ?_)
  refine v_istore_n C [(2, .int r1), (0, .ref (w.2.1 211)), (1, .int a1)] rfl (by decide) dX10_step_5 ?_
  refine v_iload_n C 0 rfl dX10_step_6 ?_
  refine v_if_eq C 12 (by decide) dX10_step_7 (fun hc => ?_) (fun hc => ?_)
  · have h := h.1 hc
    refine v_aload_n C 1 rfl dX10_step_12 ?_
    refine v_callV C [] (k_X10_remember M1 _ h) yX10_remember_k ml_X10_198 (rcv9 kb211 kd211) rfl rfl (Nat.le_of_ble_eq_true rfl) ⟨by decide, by decide⟩ dX10_step_13 (fun M2 h => ?_)
    refine v_kc C (0) (by decide) dX10_step_16 ?_
    refine v_istore_n C [(3, .int ((0 : Int32))), (2, .int r1), (0, .ref (w.2.1 211)), (1, .int a1)] rfl (by decide) dX10_step_17 ?_
    exact V.sub [2, 3, 0] rfl h
  · have h := h.2 hc
    refine v_iload_n C 0 rfl dX10_step_10 ?_
    exact Rt _ _ _ _ dX10_step_11 h
set_option maxRecDepth 4000 in
theorem wk_X10_step_18 {w : Wx} {G : Gx} {Q : Int32 → Mem → Prop} (C : Cx w G cX10_step RX10 2 46 4) (Rt : ∀ (pc : Nat) (lv : List (Nat × Value)) (r0 : Int32) (M0 : Mem), decode cX10_step pc = .ok (.ireturn, 1) → Q r0 M0 → V w G pc lv [.int r0] M0) (k_X10_stepsRefused : Ct_X10_stepsRefused w G.2.1) (k_X10_remember : Ct_X10_remember w G.2.1) (k_X10_stepAll : Ct_X10_stepAll w G.2.1) (a1 : Int32) (x3 : Int32) (M : Mem) (h : bd_X10_step_18 Q (fun (x3 : Int32) (M : Mem) => V w G 18 [(0, .ref (w.2.1 211)), (1, .int a1), (3, .int x3)] [] M) a1 x3 M) : V w G 18 [(0, .ref (w.2.1 211)), (1, .int a1), (3, .int x3)] [] M := by
  unfold bd_X10_step_18 at h
  refine v_iload_n C 2 rfl dX10_step_18 ?_
  refine v_iload_n C 1 rfl dX10_step_19 ?_
  refine v_icmp_ge C 33 (by decide) dX10_step_20 (fun hc => ?_) (fun hc => ?_)
  · have h := h.1 hc
    refine v_aload_n C 0 rfl dX10_step_33 ?_
    refine g9_5 C kb211 kd211 fl_X10_16 dX10_step_34 ?_
    refine v_kb C (40) (by decide) dX10_step_37 ?_
    obtain ⟨s1, h⟩ := h
    refine v_iald C kb214 kd214 ln214 s1 dX10_step_39 ?_
    exact Rt _ _ _ _ dX10_step_40 h
  · have h := h.2 hc
    refine v_aload_n C 0 rfl dX10_step_23 ?_
    refine v_callV C [] (k_X10_stepAll M _ h) yX10_stepAll_k ml_X10_201 (rcv9 kb211 kd211) rfl rfl (Nat.le_of_ble_eq_true rfl) ⟨by decide, by decide⟩ dX10_step_24 (fun M2 h => ?_)
    refine v_iinc C (j := 2) [(3, .int (x3 + 1)), (0, .ref (w.2.1 211)), (1, .int a1)] rfl (x3 + 1) rfl rfl (by decide) dX10_step_27 ?_
    refine v_goto C 18 (by decide) dX10_step_30 ?_
    exact V.sub [1, 2, 0] rfl h
theorem mt_X10_step {w : Wx} {l : Launch} (k_X10_stepsRefused : Ct_X10_stepsRefused w l) (k_X10_remember : Ct_X10_remember w l) (k_X10_stepAll : Ct_X10_stepAll w l) : Ct_X10_step w l := by
  intro a1 M Q h
  refine met_i (by decide +kernel) (Nat.le_of_ble_eq_true rfl) (fun G C hG Rt => ?_)
  subst hG
  exact wk_X10_step C Rt k_X10_stepsRefused k_X10_remember k_X10_stepAll a1 M (h _ (fun x3 M h => wk_X10_step_18 C Rt k_X10_stepsRefused k_X10_remember k_X10_stepAll a1 x3 M h))
theorem ct_X10_step (w : Wx) (l : Launch) : Ct_X10_step w l := mt_X10_step (ct_X10_stepsRefused w l) (ct_X10_remember w l) (ct_X10_stepAll w l)
set_option maxRecDepth 4000 in
theorem wk_X10_areTwo {w : Wx} {G : Gx} {Q : Int32 → Mem → Prop} (C : Cx w G cX10_areTwo RX10 2 46 3) (Rt : ∀ (pc : Nat) (lv : List (Nat × Value)) (r0 : Int32) (M0 : Mem), decode cX10_areTwo pc = .ok (.ireturn, 1) → (r0 = 0 ∨ r0 = 1) → Q r0 M0 → V w G pc lv [.int r0] M0) (k_X10_isCar : Ct_X10_isCar w G.2.1) (a1 : Int32) (a2 : Int32) (M : Mem) (h : bd_X10_areTwo Q a1 a2 M) : V w G 0 [(0, .ref (w.2.1 211)), (1, .int a1), (2, .int a2)] [] M := by
  unfold bd_X10_areTwo at h
  refine v_aload_n C 0 rfl dX10_areTwo_0 ?_
  refine v_iload_n C 1 rfl dX10_areTwo_1 ?_
  refine v_callI C [] (k_X10_isCar a1 M _ h) yX10_isCar_k ml_X10_88 (rcv9 kb211 kd211) rfl rfl (Nat.le_of_ble_eq_true rfl) ⟨by decide, by decide⟩ dX10_areTwo_2 (fun r1 M1 h => ?_)
  refine v_if_eq C 25 (by decide) dX10_areTwo_5 (fun hc => ?_) (fun hc => ?_)
  · have h := h.1 hc
    refine v_kc C (0) (by decide) dX10_areTwo_25 ?_
    exact Rt _ _ _ _ dX10_areTwo_26 (by decide) h
  · have h := h.2 hc
    refine v_aload_n C 0 rfl dX10_areTwo_8 ?_
    refine v_iload_n C 2 rfl dX10_areTwo_9 ?_
    refine v_callI C [] (k_X10_isCar a2 M1 _ h) yX10_isCar_k ml_X10_88 (rcv9 kb211 kd211) rfl rfl (Nat.le_of_ble_eq_true rfl) ⟨by decide, by decide⟩ dX10_areTwo_10 (fun r2 M2 h => ?_)
    refine v_if_eq C 25 (by decide) dX10_areTwo_13 (fun hc => ?_) (fun hc => ?_)
    · have h := h.1 hc
      refine v_kc C (0) (by decide) dX10_areTwo_25 ?_
      exact Rt _ _ _ _ dX10_areTwo_26 (by decide) h
    · have h := h.2 hc
      refine v_iload_n C 1 rfl dX10_areTwo_16 ?_
      refine v_iload_n C 2 rfl dX10_areTwo_17 ?_
      have key3 : V w G 26 [(0, .ref (w.2.1 211)), (1, .int a1), (2, .int a2)] (.int (if a1 = a2 then (0 : Int32) else (1 : Int32)) :: []) M2 := by
        exact Rt _ _ _ _ dX10_areTwo_26 h.1 h.2
      refine v_icmp_eq C 25 (by decide) dX10_areTwo_18 (fun hc => ?_) (fun hc => ?_)
      · rw [show (if a1 = a2 then (0 : Int32) else (1 : Int32) : Int32) = (0 : Int32) from if_pos hc] at key3
        refine v_kc C (0) (by decide) dX10_areTwo_25 ?_
        exact key3
      · rw [show (if a1 = a2 then (0 : Int32) else (1 : Int32) : Int32) = (1 : Int32) from if_neg hc] at key3
        refine v_kc C (1) (by decide) dX10_areTwo_21 ?_
        refine v_goto C 26 (by decide) dX10_areTwo_22 ?_
        exact key3
theorem mt_X10_areTwo {w : Wx} {l : Launch} (k_X10_isCar : Ct_X10_isCar w l) : Ct_X10_areTwo w l := by
  intro a1 a2 M Q h
  refine met_z (by decide +kernel) (Nat.le_of_ble_eq_true rfl) (fun G C hG Rt => ?_)
  subst hG
  exact wk_X10_areTwo C Rt k_X10_isCar a1 a2 M (h)
theorem ct_X10_areTwo (w : Wx) (l : Launch) : Ct_X10_areTwo w l := mt_X10_areTwo (ct_X10_isCar w l)
set_option maxRecDepth 4000 in
theorem wk_X10_follow {w : Wx} {G : Gx} {Q : Int32 → Mem → Prop} (C : Cx w G cX10_follow RX10 3 68 4) (Rt : ∀ (pc : Nat) (lv : List (Nat × Value)) (r0 : Int32) (M0 : Mem), decode cX10_follow pc = .ok (.ireturn, 1) → Q r0 M0 → V w G pc lv [.int r0] M0) (k_X10_areTwo : Ct_X10_areTwo w G.2.1) (k_X10_remember : Ct_X10_remember w G.2.1) (a1 : Int32) (a2 : Int32) (M : Mem) (h : bd_X10_follow Q a1 a2 M) : V w G 0 [(0, .ref (w.2.1 211)), (1, .int a1), (2, .int a2)] [] M := by
  unfold bd_X10_follow at h
  refine v_aload_n C 0 rfl dX10_follow_0 ?_
  refine v_iload_n C 1 rfl dX10_follow_1 ?_
  refine v_iload_n C 2 rfl dX10_follow_2 ?_
  refine v_callI C [] (k_X10_areTwo a1 a2 M _ h) yX10_areTwo_k ml_X10_204 (rcv9 kb211 kd211) rfl rfl (Nat.le_of_ble_eq_true rfl) ⟨by decide, by decide⟩ dX10_follow_3 (fun r1 M1 h => ?_)
  refine v_if_ne C 12 (by decide) dX10_follow_6 (fun hc => ?_) (fun hc => ?_)
  · have h := h.2 hc
    refine v_aload_n C 0 rfl dX10_follow_12 ?_
    refine v_callV C [] (k_X10_remember M1 _ h) yX10_remember_k ml_X10_198 (rcv9 kb211 kd211) rfl rfl (Nat.le_of_ble_eq_true rfl) ⟨by decide, by decide⟩ dX10_follow_13 (fun M2 h => ?_)
    refine v_aload_n C 0 rfl dX10_follow_16 ?_
    refine g9_5 C kb211 kd211 fl_X10_16 dX10_follow_17 ?_
    refine v_kb C (8) (by decide) dX10_follow_20 ?_
    refine v_iload_n C 1 rfl dX10_follow_22 ?_
    refine v_iadd C dX10_follow_23 ?_
    obtain ⟨s3, h⟩ := h
    refine v_iald C kb214 kd214 ln214 s3 dX10_follow_24 ?_
    refine v_istore_n C [(3, .int (M2 214 (((8 : Int32)) + a1).toNatClampNeg)), (0, .ref (w.2.1 211)), (1, .int a1), (2, .int a2)] rfl (by decide) dX10_follow_25 ?_
    refine v_aload_n C 1 rfl dX10_follow_26 ?_
    refine g9_5 C kb211 kd211 fl_X10_16 dX10_follow_27 ?_
    refine v_kb C (8) (by decide) dX10_follow_30 ?_
    refine v_iload_n C 2 rfl dX10_follow_32 ?_
    refine v_iadd C dX10_follow_33 ?_
    refine v_iload_n C 3 rfl dX10_follow_34 ?_
    obtain ⟨s4, h⟩ := h
    refine v_iast C kb214 kd214 ln214 s4 dX10_follow_35 (fun M5 e5 => ?_)
    have h := h M5 e5
    refine v_iload_n C 0 rfl dX10_follow_36 ?_
    exact Rt _ _ _ _ dX10_follow_37 h
  · have h := h.1 hc
    refine v_ldc C kc_X10_188 dX10_follow_9 ?_
    exact Rt _ _ _ _ dX10_follow_11 h
theorem mt_X10_follow {w : Wx} {l : Launch} (k_X10_areTwo : Ct_X10_areTwo w l) (k_X10_remember : Ct_X10_remember w l) : Ct_X10_follow w l := by
  intro a1 a2 M Q h
  refine met_i (by decide +kernel) (Nat.le_of_ble_eq_true rfl) (fun G C hG Rt => ?_)
  subst hG
  exact wk_X10_follow C Rt k_X10_areTwo k_X10_remember a1 a2 M (h)
theorem ct_X10_follow (w : Wx) (l : Launch) : Ct_X10_follow w l := mt_X10_follow (ct_X10_areTwo w l) (ct_X10_remember w l)
set_option maxRecDepth 4000 in
theorem wk_X10_letOff {w : Wx} {G : Gx} {Q : Int32 → Mem → Prop} (C : Cx w G cX10_letOff RX10 2 46 3) (Rt : ∀ (pc : Nat) (lv : List (Nat × Value)) (r0 : Int32) (M0 : Mem), decode cX10_letOff pc = .ok (.ireturn, 1) → Q r0 M0 → V w G pc lv [.int r0] M0) (k_X10_isCar : Ct_X10_isCar w G.2.1) (k_X10_remember : Ct_X10_remember w G.2.1) (a1 : Int32) (M : Mem) (h : bd_X10_letOff Q a1 M) : V w G 0 [(0, .ref (w.2.1 211)), (1, .int a1)] [] M := by
  unfold bd_X10_letOff at h
  refine v_aload_n C 0 rfl dX10_letOff_0 ?_
  refine v_iload_n C 1 rfl dX10_letOff_1 ?_
  refine v_callI C [] (k_X10_isCar a1 M _ h) yX10_isCar_k ml_X10_88 (rcv9 kb211 kd211) rfl rfl (Nat.le_of_ble_eq_true rfl) ⟨by decide, by decide⟩ dX10_letOff_2 (fun r1 M1 h => ?_)
  refine v_if_ne C 11 (by decide) dX10_letOff_5 (fun hc => ?_) (fun hc => ?_)
  · have h := h.2 hc
    refine v_aload_n C 0 rfl dX10_letOff_11 ?_
    refine g9_5 C kb211 kd211 fl_X10_16 dX10_letOff_12 ?_
    refine v_kb C (8) (by decide) dX10_letOff_15 ?_
    refine v_iload_n C 1 rfl dX10_letOff_17 ?_
    refine v_iadd C dX10_letOff_18 ?_
    obtain ⟨s2, h⟩ := h
    refine v_iald C kb214 kd214 ln214 s2 dX10_letOff_19 ?_
    refine v_if_ge C 26 (by decide) dX10_letOff_20 (fun hc => ?_) (fun hc => ?_)
    · have h := h.1 hc
      refine v_aload_n C 0 rfl dX10_letOff_26 ?_
      refine v_callV C [] (k_X10_remember M1 _ h) yX10_remember_k ml_X10_198 (rcv9 kb211 kd211) rfl rfl (Nat.le_of_ble_eq_true rfl) ⟨by decide, by decide⟩ dX10_letOff_27 (fun M3 h => ?_)
      refine v_aload_n C 0 rfl dX10_letOff_30 ?_
      refine g9_5 C kb211 kd211 fl_X10_16 dX10_letOff_31 ?_
      refine v_kb C (8) (by decide) dX10_letOff_34 ?_
      refine v_iload_n C 1 rfl dX10_letOff_36 ?_
      refine v_iadd C dX10_letOff_37 ?_
      obtain ⟨s4, h⟩ := h
      refine v_iald C kb214 kd214 ln214 s4 dX10_letOff_38 ?_
      refine v_istore_n C [(2, .int (M3 214 (((8 : Int32)) + a1).toNatClampNeg)), (0, .ref (w.2.1 211)), (1, .int a1)] rfl (by decide) dX10_letOff_39 ?_
      refine v_aload_n C 1 rfl dX10_letOff_40 ?_
      refine g9_5 C kb211 kd211 fl_X10_16 dX10_letOff_41 ?_
      refine v_kb C (8) (by decide) dX10_letOff_44 ?_
      refine v_iload_n C 2 rfl dX10_letOff_46 ?_
      refine v_iadd C dX10_letOff_47 ?_
      refine v_kc C (-1) (by decide) dX10_letOff_48 ?_
      obtain ⟨s5, h⟩ := h
      refine v_iast C kb214 kd214 ln214 s5 dX10_letOff_49 (fun M6 e6 => ?_)
      have h := h M6 e6
      refine v_iload_n C 0 rfl dX10_letOff_50 ?_
      exact Rt _ _ _ _ dX10_letOff_51 h
    · have h := h.2 hc
      refine v_ldc C kc_X10_194 dX10_letOff_23 ?_
      exact Rt _ _ _ _ dX10_letOff_25 h
  · have h := h.1 hc
    refine v_ldc C kc_X10_188 dX10_letOff_8 ?_
    exact Rt _ _ _ _ dX10_letOff_10 h
theorem mt_X10_letOff {w : Wx} {l : Launch} (k_X10_isCar : Ct_X10_isCar w l) (k_X10_remember : Ct_X10_remember w l) : Ct_X10_letOff w l := by
  intro a1 M Q h
  refine met_i (by decide +kernel) (Nat.le_of_ble_eq_true rfl) (fun G C hG Rt => ?_)
  subst hG
  exact wk_X10_letOff C Rt k_X10_isCar k_X10_remember a1 M (h)
theorem ct_X10_letOff (w : Wx) (l : Launch) : Ct_X10_letOff w l := mt_X10_letOff (ct_X10_isCar w l) (ct_X10_remember w l)
set_option maxRecDepth 4000 in
theorem wk_X10_turn {w : Wx} {G : Gx} {Q : Int32 → Mem → Prop} (C : Cx w G cX10_turn RX10 2 46 2) (Rt : ∀ (pc : Nat) (lv : List (Nat × Value)) (r0 : Int32) (M0 : Mem), decode cX10_turn pc = .ok (.ireturn, 1) → Q r0 M0 → V w G pc lv [.int r0] M0) (k_X10_isCar : Ct_X10_isCar w G.2.1) (k_X10_remember : Ct_X10_remember w G.2.1) (k_X10_roundOf : Ct_X10_roundOf w G.2.1) (a1 : Int32) (M : Mem) (h : bd_X10_turn Q a1 M) : V w G 0 [(0, .ref (w.2.1 211)), (1, .int a1)] [] M := by
  unfold bd_X10_turn at h
  refine v_aload_n C 0 rfl dX10_turn_0 ?_
  refine v_iload_n C 1 rfl dX10_turn_1 ?_
  refine v_callI C [] (k_X10_isCar a1 M _ h) yX10_isCar_k ml_X10_88 (rcv9 kb211 kd211) rfl rfl (Nat.le_of_ble_eq_true rfl) ⟨by decide, by decide⟩ dX10_turn_2 (fun r1 M1 h => ?_)
  refine v_if_ne C 11 (by decide) dX10_turn_5 (fun hc => ?_) (fun hc => ?_)
  · have h := h.2 hc
    refine v_aload_n C 0 rfl dX10_turn_11 ?_
    refine v_callV C [] (k_X10_remember M1 _ h) yX10_remember_k ml_X10_198 (rcv9 kb211 kd211) rfl rfl (Nat.le_of_ble_eq_true rfl) ⟨by decide, by decide⟩ dX10_turn_12 (fun M2 h => ?_)
    refine v_aload_n C 0 rfl dX10_turn_15 ?_
    refine g9_5 C kb211 kd211 fl_X10_16 dX10_turn_16 ?_
    refine v_kb C (32) (by decide) dX10_turn_19 ?_
    refine v_iload_n C 1 rfl dX10_turn_21 ?_
    refine v_iadd C dX10_turn_22 ?_
    refine v_kc C (1) (by decide) dX10_turn_23 ?_
    refine v_aload_n C 0 rfl dX10_turn_24 ?_
    refine g9_5 C kb211 kd211 fl_X10_16 dX10_turn_25 ?_
    refine v_kb C (32) (by decide) dX10_turn_28 ?_
    refine v_iload_n C 1 rfl dX10_turn_30 ?_
    refine v_iadd C dX10_turn_31 ?_
    obtain ⟨s3, h⟩ := h
    refine v_iald C kb214 kd214 ln214 s3 dX10_turn_32 ?_
    refine v_isub C dX10_turn_33 ?_
    obtain ⟨s4, h⟩ := h
    refine v_iast C kb214 kd214 ln214 s4 dX10_turn_34 (fun M5 e5 => ?_)
    have h := h M5 e5
    refine v_aload_n C 0 rfl dX10_turn_35 ?_
    refine g9_5 C kb211 kd211 fl_X10_16 dX10_turn_36 ?_
    refine v_kb C (16) (by decide) dX10_turn_39 ?_
    refine v_iload_n C 1 rfl dX10_turn_41 ?_
    refine v_iadd C dX10_turn_42 ?_
    refine v_kc C (0) (by decide) dX10_turn_43 ?_
    obtain ⟨s6, h⟩ := h
    refine v_iast C kb214 kd214 ln214 s6 dX10_turn_44 (fun M7 e7 => ?_)
    have h := h M7 e7
    refine v_aload_n C 0 rfl dX10_turn_45 ?_
    refine v_iload_n C 1 rfl dX10_turn_46 ?_
    refine v_callI C [] (k_X10_roundOf a1 M7 _ h) yX10_roundOf_k ml_X10_189 (rcv9 kb211 kd211) rfl rfl (Nat.le_of_ble_eq_true rfl) ⟨by decide, by decide⟩ dX10_turn_47 (fun r8 M8 h => ?_)
    exact Rt _ _ _ _ dX10_turn_50 h
  · have h := h.1 hc
    refine v_ldc C kc_X10_188 dX10_turn_8 ?_
    exact Rt _ _ _ _ dX10_turn_10 h
theorem mt_X10_turn {w : Wx} {l : Launch} (k_X10_isCar : Ct_X10_isCar w l) (k_X10_remember : Ct_X10_remember w l) (k_X10_roundOf : Ct_X10_roundOf w l) : Ct_X10_turn w l := by
  intro a1 M Q h
  refine met_i (by decide +kernel) (Nat.le_of_ble_eq_true rfl) (fun G C hG Rt => ?_)
  subst hG
  exact wk_X10_turn C Rt k_X10_isCar k_X10_remember k_X10_roundOf a1 M (h)
theorem ct_X10_turn (w : Wx) (l : Launch) : Ct_X10_turn w l := mt_X10_turn (ct_X10_isCar w l) (ct_X10_remember w l) (ct_X10_roundOf w l)
set_option maxRecDepth 4000 in
theorem wk_X10_draw {w : Wx} {G : Gx} {Q : Int32 → Mem → Prop} (C : Cx w G cX10_draw RX10 0 0 2) (Rt : ∀ (pc : Nat) (lv : List (Nat × Value)) (r0 : Int32) (M0 : Mem), decode cX10_draw pc = .ok (.ireturn, 1) → Q r0 M0 → V w G pc lv [.int r0] M0) (a1 : Int32) (M : Mem) (h : bd_X10_draw Q a1 M) : V w G 0 [(0, .ref (w.2.1 211)), (1, .int a1)] [] M := by
  unfold bd_X10_draw at h
  refine v_aload_n C 0 rfl dX10_draw_0 ?_
  refine v_aload_n C 0 rfl dX10_draw_1 ?_
  refine g9_6 C kb211 kd211 fl_X10_207 dX10_draw_2 ?_
  refine v_i2l C dX10_draw_5 ?_
  refine v_ldc2 C kl_X10_210 dX10_draw_6 ?_
  refine v_lmul C dX10_draw_9 ?_
  refine v_ldc2 C kl_X10_212 dX10_draw_10 ?_
  refine v_ladd C dX10_draw_13 ?_
  refine v_ldc2 C kl_X10_214 dX10_draw_14 ?_
  refine v_lrem C (by decide) dX10_draw_17 ?_
  refine v_l2i C dX10_draw_18 ?_
  refine p9_6 C kb211 kd211 fl_X10_207 dX10_draw_19 (fun M1 e1 => ?_)
  have h := h M1 e1
  refine v_aload_n C 0 rfl dX10_draw_22 ?_
  refine g9_6 C kb211 kd211 fl_X10_207 dX10_draw_23 ?_
  refine v_ldc C kc_X10_216 dX10_draw_26 ?_
  refine v_idiv C (by decide) dX10_draw_28 ?_
  refine v_iload_n C 1 rfl dX10_draw_29 ?_
  obtain ⟨s2, h⟩ := h
  refine v_irem C s2 dX10_draw_30 ?_
  exact Rt _ _ _ _ dX10_draw_31 h
theorem mt_X10_draw {w : Wx} {l : Launch} : Ct_X10_draw w l := by
  intro a1 M Q h
  refine met_i (by decide +kernel) (Nat.le_of_ble_eq_true rfl) (fun G C hG Rt => ?_)
  subst hG
  exact wk_X10_draw C Rt a1 M (h)
theorem ct_X10_draw (w : Wx) (l : Launch) : Ct_X10_draw w l := mt_X10_draw
set_option maxRecDepth 4000 in
theorem wk_X10_chance {w : Wx} {G : Gx} {Q : Mem → Prop} (C : Cx w G cX10_chance RX10 1 21 4) (Rt : ∀ (pc : Nat) (lv : List (Nat × Value)) (M0 : Mem), decode cX10_chance pc = .ok (.return_, 1) → Q M0 → V w G pc lv [] M0) (k_X10_draw : Ct_X10_draw w G.2.1) (M : Mem) (h : bd_X10_chance Q M) : V w G 0 [(0, .ref (w.2.1 211))] [] M := by
  unfold bd_X10_chance at h
  refine v_aload_n C 0 rfl dX10_chance_0 ?_
  refine v_aload_n C 0 rfl dX10_chance_1 ?_
  refine g9_2 C kb211 kd211 fl_X10_85 dX10_chance_2 ?_
  refine v_callI C [] (k_X10_draw (M 211 2) M _ h) yX10_draw_k ml_X10_217 (rcv9 kb211 kd211) rfl rfl (Nat.le_of_ble_eq_true rfl) ⟨by decide, by decide⟩ dX10_chance_5 (fun r1 M1 h => ?_)
  refine v_istore_n C [(1, .int r1), (0, .ref (w.2.1 211))] rfl (by decide) dX10_chance_8 ?_
  refine v_aload_n C 1 rfl dX10_chance_9 ?_
  refine v_kb C (100) (by decide) dX10_chance_10 ?_
  refine v_callI C [] (k_X10_draw ((100 : Int32)) M1 _ h) yX10_draw_k ml_X10_217 (rcv9 kb211 kd211) rfl rfl (Nat.le_of_ble_eq_true rfl) ⟨by decide, by decide⟩ dX10_chance_12 (fun r2 M2 h => ?_)
  refine v_istore_n C [(2, .int r2), (1, .int r1), (0, .ref (w.2.1 211))] rfl (by decide) dX10_chance_15 ?_
  refine v_iload_n C 0 rfl dX10_chance_16 ?_
  refine v_aload_n C 2 rfl dX10_chance_17 ?_
  refine g9_1 C kb211 kd211 fl_X10_141 dX10_chance_18 ?_
  refine v_icmp_ge C 60 (by decide) dX10_chance_21 (fun hc => ?_) (fun hc => ?_)
  · have h := h.1 hc
    exact Rt _ _ _ dX10_chance_60 h
  · have h := h.2 hc
    refine v_aload_n C 2 rfl dX10_chance_24 ?_
    refine v_aload_n C 2 rfl dX10_chance_25 ?_
    refine g9_2 C kb211 kd211 fl_X10_85 dX10_chance_26 ?_
    refine v_callI C [] (k_X10_draw (M2 211 2) M2 _ h) yX10_draw_k ml_X10_217 (rcv9 kb211 kd211) rfl rfl (Nat.le_of_ble_eq_true rfl) ⟨by decide, by decide⟩ dX10_chance_29 (fun r3 M3 h => ?_)
    refine v_istore_n C [(3, .int r3), (2, .int r2), (1, .int r1), (0, .ref (w.2.1 211))] rfl (by decide) dX10_chance_32 ?_
    refine v_aload_n C 3 rfl dX10_chance_33 ?_
    refine g9_5 C kb211 kd211 fl_X10_16 dX10_chance_34 ?_
    refine v_kb C (8) (by decide) dX10_chance_37 ?_
    refine v_iload_n C 2 rfl dX10_chance_39 ?_
    refine v_iadd C dX10_chance_40 ?_
    refine v_iload_n C 2 rfl dX10_chance_41 ?_
    refine v_iload_n C 0 rfl dX10_chance_42 ?_
    obtain ⟨ca4, cb4, h⟩ := h
    have key4 : V w G 59 [(3, .int r3), (2, .int r2), (1, .int r1), (0, .ref (w.2.1 211))] (.int (if r1 = r3 then M3 214 (((8 : Int32)) + r1).toNatClampNeg else r3) :: .int (((8 : Int32)) + r1) :: .ref (w.2.1 214) :: []) M3 := by
      obtain ⟨s5, h⟩ := h
      refine v_iast C kb214 kd214 ln214 s5 dX10_chance_59 (fun M6 e6 => ?_)
      have h := h M6 e6
      exact Rt _ _ _ dX10_chance_60 h
    refine v_icmp_ne C 58 (by decide) dX10_chance_43 (fun hc => ?_) (fun hc => ?_)
    · rw [show (if r1 = r3 then M3 214 (((8 : Int32)) + r1).toNatClampNeg else r3 : Int32) = r3 from if_neg hc] at key4
      refine v_iload_n C 0 rfl dX10_chance_58 ?_
      exact key4
    · rw [show (if r1 = r3 then M3 214 (((8 : Int32)) + r1).toNatClampNeg else r3 : Int32) = M3 214 (((8 : Int32)) + r1).toNatClampNeg from if_pos hc] at key4
      obtain ⟨q0, -⟩ := ca4 hc
      refine v_aload_n C 3 rfl dX10_chance_46 ?_
      refine g9_5 C kb211 kd211 fl_X10_16 dX10_chance_47 ?_
      refine v_kb C (8) (by decide) dX10_chance_50 ?_
      refine v_iload_n C 2 rfl dX10_chance_52 ?_
      refine v_iadd C dX10_chance_53 ?_
      refine v_iald C kb214 kd214 ln214 q0 dX10_chance_54 ?_
      refine v_goto C 59 (by decide) dX10_chance_55 ?_
      exact key4
theorem mt_X10_chance {w : Wx} {l : Launch} (k_X10_draw : Ct_X10_draw w l) : Ct_X10_chance w l := by
  intro M Q h
  refine met_v (by decide +kernel) (Nat.le_of_ble_eq_true rfl) (fun G C hG Rt => ?_)
  subst hG
  exact wk_X10_chance C Rt k_X10_draw M (h)
theorem ct_X10_chance (w : Wx) (l : Launch) : Ct_X10_chance w l := mt_X10_chance (ct_X10_draw w l)
set_option maxRecDepth 4000 in
theorem wk_X10_drift {w : Wx} {G : Gx} {Q : Int32 → Mem → Prop} (C : Cx w G cX10_drift RX10 2 46 4) (Rt : ∀ (pc : Nat) (lv : List (Nat × Value)) (r0 : Int32) (M0 : Mem), decode cX10_drift pc = .ok (.ireturn, 1) → Q r0 M0 → V w G pc lv [.int r0] M0) (k_X10_stepsRefused : Ct_X10_stepsRefused w G.2.1) (k_X10_remember : Ct_X10_remember w G.2.1) (k_X10_stepAll : Ct_X10_stepAll w G.2.1) (k_X10_chance : Ct_X10_chance w G.2.1) (a1 : Int32) (M : Mem) (h : bd_X10_drift Q (fun (x3 : Int32) (M : Mem) => V w G 18 [(0, .ref (w.2.1 211)), (1, .int a1), (3, .int x3)] [] M) a1 M) : V w G 0 [(0, .ref (w.2.1 211)), (1, .int a1)] [] M := by
  unfold bd_X10_drift at h
  refine v_aload_n C 0 rfl dX10_drift_0 ?_
  refine v_iload_n C 1 rfl dX10_drift_1 ?_
  refine v_callI C [] (k_X10_stepsRefused a1 M _ h) yX10_stepsRefused_k ml_X10_195 (rcv9 kb211 kd211) rfl rfl (Nat.le_of_ble_eq_true rfl) ⟨by decide, by decide⟩ dX10_drift_2 (fun r1 M1 h => ?_)
  refine v_istore_n C [(2, .int r1), (0, .ref (w.2.1 211)), (1, .int a1)] rfl (by decide) dX10_drift_5 ?_
  refine v_iload_n C 0 rfl dX10_drift_6 ?_
  refine v_if_eq C 12 (by decide) dX10_drift_7 (fun hc => ?_) (fun hc => ?_)
  · have h := h.1 hc
    refine v_aload_n C 1 rfl dX10_drift_12 ?_
    refine v_callV C [] (k_X10_remember M1 _ h) yX10_remember_k ml_X10_198 (rcv9 kb211 kd211) rfl rfl (Nat.le_of_ble_eq_true rfl) ⟨by decide, by decide⟩ dX10_drift_13 (fun M2 h => ?_)
    refine v_kc C (0) (by decide) dX10_drift_16 ?_
    refine v_istore_n C [(3, .int ((0 : Int32))), (2, .int r1), (0, .ref (w.2.1 211)), (1, .int a1)] rfl (by decide) dX10_drift_17 ?_
    exact V.sub [2, 3, 0] rfl h
  · have h := h.2 hc
    refine v_iload_n C 0 rfl dX10_drift_10 ?_
    exact Rt _ _ _ _ dX10_drift_11 h
set_option maxRecDepth 4000 in
theorem wk_X10_drift_18 {w : Wx} {G : Gx} {Q : Int32 → Mem → Prop} (C : Cx w G cX10_drift RX10 2 46 4) (Rt : ∀ (pc : Nat) (lv : List (Nat × Value)) (r0 : Int32) (M0 : Mem), decode cX10_drift pc = .ok (.ireturn, 1) → Q r0 M0 → V w G pc lv [.int r0] M0) (k_X10_stepsRefused : Ct_X10_stepsRefused w G.2.1) (k_X10_remember : Ct_X10_remember w G.2.1) (k_X10_stepAll : Ct_X10_stepAll w G.2.1) (k_X10_chance : Ct_X10_chance w G.2.1) (a1 : Int32) (x3 : Int32) (M : Mem) (h : bd_X10_drift_18 Q (fun (x3 : Int32) (M : Mem) => V w G 18 [(0, .ref (w.2.1 211)), (1, .int a1), (3, .int x3)] [] M) a1 x3 M) : V w G 18 [(0, .ref (w.2.1 211)), (1, .int a1), (3, .int x3)] [] M := by
  unfold bd_X10_drift_18 at h
  refine v_iload_n C 2 rfl dX10_drift_18 ?_
  refine v_iload_n C 1 rfl dX10_drift_19 ?_
  refine v_icmp_ge C 44 (by decide) dX10_drift_20 (fun hc => ?_) (fun hc => ?_)
  · have h := h.1 hc
    refine v_aload_n C 0 rfl dX10_drift_44 ?_
    refine g9_5 C kb211 kd211 fl_X10_16 dX10_drift_45 ?_
    refine v_kb C (40) (by decide) dX10_drift_48 ?_
    obtain ⟨s1, h⟩ := h
    refine v_iald C kb214 kd214 ln214 s1 dX10_drift_50 ?_
    exact Rt _ _ _ _ dX10_drift_51 h
  · have h := h.2 hc
    refine v_aload_n C 0 rfl dX10_drift_23 ?_
    refine g9_2 C kb211 kd211 fl_X10_85 dX10_drift_24 ?_
    refine v_if_le C 34 (by decide) dX10_drift_27 (fun hc => ?_) (fun hc => ?_)
    · have h := h.1 hc
      refine v_aload_n C 0 rfl dX10_drift_34 ?_
      refine v_callV C [] (k_X10_stepAll M _ h) yX10_stepAll_k ml_X10_201 (rcv9 kb211 kd211) rfl rfl (Nat.le_of_ble_eq_true rfl) ⟨by decide, by decide⟩ dX10_drift_35 (fun M2 h => ?_)
      refine v_iinc C (j := 2) [(3, .int (x3 + 1)), (0, .ref (w.2.1 211)), (1, .int a1)] rfl (x3 + 1) rfl rfl (by decide) dX10_drift_38 ?_
      refine v_goto C 18 (by decide) dX10_drift_41 ?_
      exact V.sub [1, 2, 0] rfl h
    · have h := h.2 hc
      refine v_aload_n C 0 rfl dX10_drift_30 ?_
      refine v_callV C [] (k_X10_chance M _ h) yX10_chance_k ml_X10_220 (rcv9 kb211 kd211) rfl rfl (Nat.le_of_ble_eq_true rfl) ⟨by decide, by decide⟩ dX10_drift_31 (fun M3 h => ?_)
      refine v_aload_n C 0 rfl dX10_drift_34 ?_
      refine v_callV C [] (k_X10_stepAll M3 _ h) yX10_stepAll_k ml_X10_201 (rcv9 kb211 kd211) rfl rfl (Nat.le_of_ble_eq_true rfl) ⟨by decide, by decide⟩ dX10_drift_35 (fun M4 h => ?_)
      refine v_iinc C (j := 2) [(3, .int (x3 + 1)), (0, .ref (w.2.1 211)), (1, .int a1)] rfl (x3 + 1) rfl rfl (by decide) dX10_drift_38 ?_
      refine v_goto C 18 (by decide) dX10_drift_41 ?_
      exact V.sub [1, 2, 0] rfl h
theorem mt_X10_drift {w : Wx} {l : Launch} (k_X10_stepsRefused : Ct_X10_stepsRefused w l) (k_X10_remember : Ct_X10_remember w l) (k_X10_stepAll : Ct_X10_stepAll w l) (k_X10_chance : Ct_X10_chance w l) : Ct_X10_drift w l := by
  intro a1 M Q h
  refine met_i (by decide +kernel) (Nat.le_of_ble_eq_true rfl) (fun G C hG Rt => ?_)
  subst hG
  exact wk_X10_drift C Rt k_X10_stepsRefused k_X10_remember k_X10_stepAll k_X10_chance a1 M (h _ (fun x3 M h => wk_X10_drift_18 C Rt k_X10_stepsRefused k_X10_remember k_X10_stepAll k_X10_chance a1 x3 M h))
theorem ct_X10_drift (w : Wx) (l : Launch) : Ct_X10_drift w l := mt_X10_drift (ct_X10_stepsRefused w l) (ct_X10_remember w l) (ct_X10_stepAll w l) (ct_X10_chance w l)
set_option maxRecDepth 4000 in
theorem wk_X10_undo {w : Wx} {G : Gx} {Q : Int32 → Mem → Prop} (C : Cx w G cX10_undo RX10 0 0 2) (Rt : ∀ (pc : Nat) (lv : List (Nat × Value)) (r0 : Int32) (M0 : Mem), decode cX10_undo pc = .ok (.ireturn, 1) → Q r0 M0 → V w G pc lv [.int r0] M0) (M : Mem) (h : bd_X10_undo Q (fun (x1 : Int32) (M : Mem) => V w G 22 [(0, .ref (w.2.1 211)), (1, .int x1)] [] M) M) : V w G 0 [(0, .ref (w.2.1 211))] [] M := by
  unfold bd_X10_undo at h
  refine v_aload_n C 0 rfl dX10_undo_0 ?_
  refine g9_20 C kb211 kd211 fl_X10_156 dX10_undo_1 ?_
  refine v_if_ne C 10 (by decide) dX10_undo_4 (fun hc => ?_) (fun hc => ?_)
  · have h := h.2 hc
    refine v_aload_n C 0 rfl dX10_undo_10 ?_
    refine v_dup C rfl dX10_undo_11 ?_
    refine g9_20 C kb211 kd211 fl_X10_156 dX10_undo_12 ?_
    refine v_kc C (1) (by decide) dX10_undo_15 ?_
    refine v_isub C dX10_undo_16 ?_
    refine p9_20 C kb211 kd211 fl_X10_156 dX10_undo_17 (fun M1 e1 => ?_)
    have h := h M1 e1
    refine v_kc C (0) (by decide) dX10_undo_20 ?_
    refine v_istore_n C [(1, .int ((0 : Int32))), (0, .ref (w.2.1 211))] rfl (by decide) dX10_undo_21 ?_
    exact V.sub [1, 0] rfl h
  · have h := h.1 hc
    refine v_ldc C kc_X10_194 dX10_undo_7 ?_
    exact Rt _ _ _ _ dX10_undo_9 h
set_option maxRecDepth 4000 in
theorem wk_X10_undo_22 {w : Wx} {G : Gx} {Q : Int32 → Mem → Prop} (C : Cx w G cX10_undo RX10 0 0 2) (Rt : ∀ (pc : Nat) (lv : List (Nat × Value)) (r0 : Int32) (M0 : Mem), decode cX10_undo pc = .ok (.ireturn, 1) → Q r0 M0 → V w G pc lv [.int r0] M0) (x1 : Int32) (M : Mem) (h : bd_X10_undo_22 Q (fun (x1 : Int32) (M : Mem) => V w G 22 [(0, .ref (w.2.1 211)), (1, .int x1)] [] M) x1 M) : V w G 22 [(0, .ref (w.2.1 211)), (1, .int x1)] [] M := by
  unfold bd_X10_undo_22 at h
  refine v_iload_n C 1 rfl dX10_undo_22 ?_
  refine v_kb C (41) (by decide) dX10_undo_23 ?_
  refine v_icmp_ge C 54 (by decide) dX10_undo_25 (fun hc => ?_) (fun hc => ?_)
  · have h := h.1 hc
    refine v_aload_n C 0 rfl dX10_undo_54 ?_
    refine g9_20 C kb211 kd211 fl_X10_156 dX10_undo_55 ?_
    exact Rt _ _ _ _ dX10_undo_58 h
  · have h := h.2 hc
    refine v_aload_n C 0 rfl dX10_undo_28 ?_
    refine g9_5 C kb211 kd211 fl_X10_16 dX10_undo_29 ?_
    refine v_iload_n C 1 rfl dX10_undo_32 ?_
    refine v_aload_n C 0 rfl dX10_undo_33 ?_
    refine g9_21 C kb211 kd211 fl_X10_44 dX10_undo_34 ?_
    refine v_kb C (41) (by decide) dX10_undo_37 ?_
    refine v_aload_n C 0 rfl dX10_undo_39 ?_
    refine g9_20 C kb211 kd211 fl_X10_156 dX10_undo_40 ?_
    refine v_imul C dX10_undo_43 ?_
    refine v_iload_n C 1 rfl dX10_undo_44 ?_
    refine v_iadd C dX10_undo_45 ?_
    obtain ⟨s1, h⟩ := h
    refine v_iald C kb222 kd222 ln222 s1 dX10_undo_46 ?_
    obtain ⟨s2, h⟩ := h
    refine v_iast C kb214 kd214 ln214 s2 dX10_undo_47 (fun M3 e3 => ?_)
    have h := h M3 e3
    refine v_iinc C (j := 1) [(1, .int (x1 + 1)), (0, .ref (w.2.1 211))] rfl (x1 + 1) rfl rfl (by decide) dX10_undo_48 ?_
    refine v_goto C 22 (by decide) dX10_undo_51 ?_
    exact V.sub [1, 0] rfl h
theorem mt_X10_undo {w : Wx} {l : Launch} : Ct_X10_undo w l := by
  intro M Q h
  refine met_i (by decide +kernel) (Nat.le_of_ble_eq_true rfl) (fun G C hG Rt => ?_)
  subst hG
  exact wk_X10_undo C Rt M (h _ (fun x1 M h => wk_X10_undo_22 C Rt x1 M h))
theorem ct_X10_undo (w : Wx) (l : Launch) : Ct_X10_undo w l := mt_X10_undo
set_option maxRecDepth 4000 in
theorem wk_X10_save {w : Wx} {G : Gx} {Q : Mem → Prop} (C : Cx w G cX10_save RX10 0 0 2) (Rt : ∀ (pc : Nat) (lv : List (Nat × Value)) (M0 : Mem), decode cX10_save pc = .ok (.return_, 1) → Q M0 → V w G pc lv [] M0) (M : Mem) (h : bd_X10_save Q (fun (x1 : Int32) (M : Mem) => V w G 2 [(0, .ref (w.2.1 211)), (1, .int x1)] [] M) M) : V w G 0 [(0, .ref (w.2.1 211))] [] M := by
  unfold bd_X10_save at h
  refine v_kc C (0) (by decide) dX10_save_0 ?_
  refine v_istore_n C [(1, .int ((0 : Int32))), (0, .ref (w.2.1 211))] rfl (by decide) dX10_save_1 ?_
  exact V.sub [1, 0] rfl h
set_option maxRecDepth 4000 in
theorem wk_X10_save_2 {w : Wx} {G : Gx} {Q : Mem → Prop} (C : Cx w G cX10_save RX10 0 0 2) (Rt : ∀ (pc : Nat) (lv : List (Nat × Value)) (M0 : Mem), decode cX10_save pc = .ok (.return_, 1) → Q M0 → V w G pc lv [] M0) (x1 : Int32) (M : Mem) (h : bd_X10_save_2 Q (fun (x1 : Int32) (M : Mem) => V w G 2 [(0, .ref (w.2.1 211)), (1, .int x1)] [] M) x1 M) : V w G 2 [(0, .ref (w.2.1 211)), (1, .int x1)] [] M := by
  unfold bd_X10_save_2 at h
  refine v_iload_n C 1 rfl dX10_save_2 ?_
  refine v_kb C (41) (by decide) dX10_save_3 ?_
  refine v_icmp_ge C 26 (by decide) dX10_save_5 (fun hc => ?_) (fun hc => ?_)
  · have h := h.1 hc
    exact Rt _ _ _ dX10_save_26 h
  · have h := h.2 hc
    refine v_aload_n C 0 rfl dX10_save_8 ?_
    refine g9_22 C kb211 kd211 fl_X10_47 dX10_save_9 ?_
    refine v_iload_n C 1 rfl dX10_save_12 ?_
    refine v_aload_n C 0 rfl dX10_save_13 ?_
    refine g9_5 C kb211 kd211 fl_X10_16 dX10_save_14 ?_
    refine v_iload_n C 1 rfl dX10_save_17 ?_
    obtain ⟨s1, h⟩ := h
    refine v_iald C kb214 kd214 ln214 s1 dX10_save_18 ?_
    obtain ⟨s2, h⟩ := h
    refine v_iast C kb223 kd223 ln223 s2 dX10_save_19 (fun M3 e3 => ?_)
    have h := h M3 e3
    refine v_iinc C (j := 1) [(1, .int (x1 + 1)), (0, .ref (w.2.1 211))] rfl (x1 + 1) rfl rfl (by decide) dX10_save_20 ?_
    refine v_goto C 2 (by decide) dX10_save_23 ?_
    exact V.sub [1, 0] rfl h
theorem mt_X10_save {w : Wx} {l : Launch} : Ct_X10_save w l := by
  intro M Q h
  refine met_v (by decide +kernel) (Nat.le_of_ble_eq_true rfl) (fun G C hG Rt => ?_)
  subst hG
  exact wk_X10_save C Rt M (h _ (fun x1 M h => wk_X10_save_2 C Rt x1 M h))
theorem ct_X10_save (w : Wx) (l : Launch) : Ct_X10_save w l := mt_X10_save
set_option maxRecDepth 4000 in
theorem wk_X10_stepTo {w : Wx} {G : Gx} {Q : Mem → Prop} (C : Cx w G cX10_stepTo RX10 2 44 3) (Rt : ∀ (pc : Nat) (lv : List (Nat × Value)) (M0 : Mem), decode cX10_stepTo pc = .ok (.return_, 1) → Q M0 → V w G pc lv [] M0) (k_X10_stepAll : Ct_X10_stepAll w G.2.1) (a1 : Int32) (M : Mem) (h : bd_X10_stepTo Q (fun (x2 : Int32) (M : Mem) => V w G 2 [(0, .ref (w.2.1 211)), (1, .int a1), (2, .int x2)] [] M) a1 M) : V w G 0 [(0, .ref (w.2.1 211)), (1, .int a1)] [] M := by
  unfold bd_X10_stepTo at h
  refine v_kc C (0) (by decide) dX10_stepTo_0 ?_
  refine v_istore_n C [(2, .int ((0 : Int32))), (0, .ref (w.2.1 211)), (1, .int a1)] rfl (by decide) dX10_stepTo_1 ?_
  exact V.sub [1, 2, 0] rfl h
set_option maxRecDepth 4000 in
theorem wk_X10_stepTo_2 {w : Wx} {G : Gx} {Q : Mem → Prop} (C : Cx w G cX10_stepTo RX10 2 44 3) (Rt : ∀ (pc : Nat) (lv : List (Nat × Value)) (M0 : Mem), decode cX10_stepTo pc = .ok (.return_, 1) → Q M0 → V w G pc lv [] M0) (k_X10_stepAll : Ct_X10_stepAll w G.2.1) (a1 : Int32) (x2 : Int32) (M : Mem) (h : bd_X10_stepTo_2 Q (fun (x2 : Int32) (M : Mem) => V w G 2 [(0, .ref (w.2.1 211)), (1, .int a1), (2, .int x2)] [] M) a1 x2 M) : V w G 2 [(0, .ref (w.2.1 211)), (1, .int a1), (2, .int x2)] [] M := by
  unfold bd_X10_stepTo_2 at h
  refine v_iload_n C 2 rfl dX10_stepTo_2 ?_
  refine v_iload_n C 1 rfl dX10_stepTo_3 ?_
  refine v_icmp_ge C 17 (by decide) dX10_stepTo_4 (fun hc => ?_) (fun hc => ?_)
  · have h := h.1 hc
    exact Rt _ _ _ dX10_stepTo_17 h
  · have h := h.2 hc
    refine v_aload_n C 0 rfl dX10_stepTo_7 ?_
    refine v_callV C [] (k_X10_stepAll M _ h) yX10_stepAll_k ml_X10_201 (rcv9 kb211 kd211) rfl rfl (Nat.le_of_ble_eq_true rfl) ⟨by decide, by decide⟩ dX10_stepTo_8 (fun M1 h => ?_)
    refine v_iinc C (j := 2) [(2, .int (x2 + 1)), (0, .ref (w.2.1 211)), (1, .int a1)] rfl (x2 + 1) rfl rfl (by decide) dX10_stepTo_11 ?_
    refine v_goto C 2 (by decide) dX10_stepTo_14 ?_
    exact V.sub [1, 2, 0] rfl h
theorem mt_X10_stepTo {w : Wx} {l : Launch} (k_X10_stepAll : Ct_X10_stepAll w l) : Ct_X10_stepTo w l := by
  intro a1 M Q h
  refine met_v (by decide +kernel) (Nat.le_of_ble_eq_true rfl) (fun G C hG Rt => ?_)
  subst hG
  exact wk_X10_stepTo C Rt k_X10_stepAll a1 M (h _ (fun x2 M h => wk_X10_stepTo_2 C Rt k_X10_stepAll a1 x2 M h))
theorem ct_X10_stepTo (w : Wx) (l : Launch) : Ct_X10_stepTo w l := mt_X10_stepTo (ct_X10_stepAll w l)
set_option maxRecDepth 4000 in
theorem wk_X10_putBack {w : Wx} {G : Gx} {Q : Mem → Prop} (C : Cx w G cX10_putBack RX10 0 0 2) (Rt : ∀ (pc : Nat) (lv : List (Nat × Value)) (M0 : Mem), decode cX10_putBack pc = .ok (.return_, 1) → Q M0 → V w G pc lv [] M0) (M : Mem) (h : bd_X10_putBack Q (fun (x1 : Int32) (M : Mem) => V w G 2 [(0, .ref (w.2.1 211)), (1, .int x1)] [] M) M) : V w G 0 [(0, .ref (w.2.1 211))] [] M := by
  unfold bd_X10_putBack at h
  refine v_kc C (0) (by decide) dX10_putBack_0 ?_
  refine v_istore_n C [(1, .int ((0 : Int32))), (0, .ref (w.2.1 211))] rfl (by decide) dX10_putBack_1 ?_
  exact V.sub [1, 0] rfl h
set_option maxRecDepth 4000 in
theorem wk_X10_putBack_2 {w : Wx} {G : Gx} {Q : Mem → Prop} (C : Cx w G cX10_putBack RX10 0 0 2) (Rt : ∀ (pc : Nat) (lv : List (Nat × Value)) (M0 : Mem), decode cX10_putBack pc = .ok (.return_, 1) → Q M0 → V w G pc lv [] M0) (x1 : Int32) (M : Mem) (h : bd_X10_putBack_2 Q (fun (x1 : Int32) (M : Mem) => V w G 2 [(0, .ref (w.2.1 211)), (1, .int x1)] [] M) x1 M) : V w G 2 [(0, .ref (w.2.1 211)), (1, .int x1)] [] M := by
  unfold bd_X10_putBack_2 at h
  refine v_iload_n C 1 rfl dX10_putBack_2 ?_
  refine v_kb C (41) (by decide) dX10_putBack_3 ?_
  refine v_icmp_ge C 26 (by decide) dX10_putBack_5 (fun hc => ?_) (fun hc => ?_)
  · have h := h.1 hc
    exact Rt _ _ _ dX10_putBack_26 h
  · have h := h.2 hc
    refine v_aload_n C 0 rfl dX10_putBack_8 ?_
    refine g9_5 C kb211 kd211 fl_X10_16 dX10_putBack_9 ?_
    refine v_iload_n C 1 rfl dX10_putBack_12 ?_
    refine v_aload_n C 0 rfl dX10_putBack_13 ?_
    refine g9_22 C kb211 kd211 fl_X10_47 dX10_putBack_14 ?_
    refine v_iload_n C 1 rfl dX10_putBack_17 ?_
    obtain ⟨s1, h⟩ := h
    refine v_iald C kb223 kd223 ln223 s1 dX10_putBack_18 ?_
    obtain ⟨s2, h⟩ := h
    refine v_iast C kb214 kd214 ln214 s2 dX10_putBack_19 (fun M3 e3 => ?_)
    have h := h M3 e3
    refine v_iinc C (j := 1) [(1, .int (x1 + 1)), (0, .ref (w.2.1 211))] rfl (x1 + 1) rfl rfl (by decide) dX10_putBack_20 ?_
    refine v_goto C 2 (by decide) dX10_putBack_23 ?_
    exact V.sub [1, 0] rfl h
theorem mt_X10_putBack {w : Wx} {l : Launch} : Ct_X10_putBack w l := by
  intro M Q h
  refine met_v (by decide +kernel) (Nat.le_of_ble_eq_true rfl) (fun G C hG Rt => ?_)
  subst hG
  exact wk_X10_putBack C Rt M (h _ (fun x1 M h => wk_X10_putBack_2 C Rt x1 M h))
theorem ct_X10_putBack (w : Wx) (l : Launch) : Ct_X10_putBack w l := mt_X10_putBack
set_option maxRecDepth 4000 in
theorem wk_X10_where {w : Wx} {G : Gx} {Q : Int32 → Mem → Prop} (C : Cx w G cX10_where RX10 3 66 4) (Rt : ∀ (pc : Nat) (lv : List (Nat × Value)) (r0 : Int32) (M0 : Mem), decode cX10_where pc = .ok (.ireturn, 1) → Q r0 M0 → V w G pc lv [.int r0] M0) (k_X10_isCar : Ct_X10_isCar w G.2.1) (k_X10_in : Ct_X10_in w G.2.1) (k_X10_save : Ct_X10_save w G.2.1) (k_X10_stepTo : Ct_X10_stepTo w G.2.1) (k_X10_putBack : Ct_X10_putBack w G.2.1) (a1 : Int32) (a2 : Int32) (M : Mem) (h : bd_X10_where Q a1 a2 M) : V w G 0 [(0, .ref (w.2.1 211)), (1, .int a1), (2, .int a2)] [] M := by
  unfold bd_X10_where at h
  refine v_aload_n C 0 rfl dX10_where_0 ?_
  refine v_iload_n C 1 rfl dX10_where_1 ?_
  refine v_callI C [] (k_X10_isCar a1 M _ h) yX10_isCar_k ml_X10_88 (rcv9 kb211 kd211) rfl rfl (Nat.le_of_ble_eq_true rfl) ⟨by decide, by decide⟩ dX10_where_2 (fun r1 M1 h => ?_)
  refine v_if_ne C 11 (by decide) dX10_where_5 (fun hc => ?_) (fun hc => ?_)
  · have h := h.2 hc
    refine v_iload_n C 2 rfl dX10_where_11 ?_
    refine v_i2l C dX10_where_12 ?_
    refine v_lconst C 0 (by decide) dX10_where_13 ?_
    refine v_ldc2 C kl_X10_223 dX10_where_14 ?_
    refine v_callSI C [] (k_X10_in a2.toInt64 ((0 : Int64)) ((200 : Int64)) M1 _ h) yX10_in_k ml_X10_81 rfl rfl (Nat.le_of_ble_eq_true rfl) ⟨by decide, by decide⟩ dX10_where_17 (fun r2 M2 h => ?_)
    refine v_if_ne C 26 (by decide) dX10_where_20 (fun hc => ?_) (fun hc => ?_)
    · have h := h.2 hc
      refine v_aload_n C 0 rfl dX10_where_26 ?_
      refine v_callV C [] (k_X10_save M2 _ h) yX10_save_k ml_X10_225 (rcv9 kb211 kd211) rfl rfl (Nat.le_of_ble_eq_true rfl) ⟨by decide, by decide⟩ dX10_where_27 (fun M3 h => ?_)
      refine v_aload_n C 0 rfl dX10_where_30 ?_
      refine v_iload_n C 2 rfl dX10_where_31 ?_
      refine v_callV C [] (k_X10_stepTo a2 M3 _ h) yX10_stepTo_k ml_X10_228 (rcv9 kb211 kd211) rfl rfl (Nat.le_of_ble_eq_true rfl) ⟨by decide, by decide⟩ dX10_where_32 (fun M4 h => ?_)
      refine v_aload_n C 0 rfl dX10_where_35 ?_
      refine g9_5 C kb211 kd211 fl_X10_16 dX10_where_36 ?_
      refine v_iload_n C 1 rfl dX10_where_39 ?_
      obtain ⟨s5, h⟩ := h
      refine v_iald C kb214 kd214 ln214 s5 dX10_where_40 ?_
      refine v_istore_n C [(3, .int (M4 214 a1.toNatClampNeg)), (0, .ref (w.2.1 211)), (1, .int a1), (2, .int a2)] rfl (by decide) dX10_where_41 ?_
      refine v_aload_n C 1 rfl dX10_where_42 ?_
      refine v_callV C [] (k_X10_putBack M4 _ h) yX10_putBack_k ml_X10_232 (rcv9 kb211 kd211) rfl rfl (Nat.le_of_ble_eq_true rfl) ⟨by decide, by decide⟩ dX10_where_43 (fun M6 h => ?_)
      refine v_iload_n C 0 rfl dX10_where_46 ?_
      exact Rt _ _ _ _ dX10_where_47 h
    · have h := h.1 hc
      refine v_ldc C kc_X10_94 dX10_where_23 ?_
      exact Rt _ _ _ _ dX10_where_25 h
  · have h := h.1 hc
    refine v_ldc C kc_X10_188 dX10_where_8 ?_
    exact Rt _ _ _ _ dX10_where_10 h
theorem mt_X10_where {w : Wx} {l : Launch} (k_X10_isCar : Ct_X10_isCar w l) (k_X10_in : Ct_X10_in w l) (k_X10_save : Ct_X10_save w l) (k_X10_stepTo : Ct_X10_stepTo w l) (k_X10_putBack : Ct_X10_putBack w l) : Ct_X10_where w l := by
  intro a1 a2 M Q h
  refine met_i (by decide +kernel) (Nat.le_of_ble_eq_true rfl) (fun G C hG Rt => ?_)
  subst hG
  exact wk_X10_where C Rt k_X10_isCar k_X10_in k_X10_save k_X10_stepTo k_X10_putBack a1 a2 M (h)
theorem ct_X10_where (w : Wx) (l : Launch) : Ct_X10_where w l := mt_X10_where (ct_X10_isCar w l) (ct_X10_in w l) (ct_X10_save w l) (ct_X10_stepTo w l) (ct_X10_putBack w l)
set_option maxRecDepth 4000 in
theorem wk_X10_sees {w : Wx} {G : Gx} {Q : Int32 → Mem → Prop} (C : Cx w G cX10_sees RX10 3 68 5) (Rt : ∀ (pc : Nat) (lv : List (Nat × Value)) (r0 : Int32) (M0 : Mem), decode cX10_sees pc = .ok (.ireturn, 1) → Q r0 M0 → V w G pc lv [.int r0] M0) (k_X10_areTwo : Ct_X10_areTwo w G.2.1) (k_X10_save : Ct_X10_save w G.2.1) (k_X10_putBack : Ct_X10_putBack w G.2.1) (k_X10_stepAll : Ct_X10_stepAll w G.2.1) (a1 : Int32) (a2 : Int32) (M : Mem) (h : bd_X10_sees Q (fun (x3 : Int32) (x4 : Int32) (M : Mem) => V w G 40 [(0, .ref (w.2.1 211)), (1, .int a1), (2, .int a2), (3, .int x3), (4, .int x4)] [] M) a1 a2 M) : V w G 0 [(0, .ref (w.2.1 211)), (1, .int a1), (2, .int a2)] [] M := by
  unfold bd_X10_sees at h
  refine v_aload_n C 0 rfl dX10_sees_0 ?_
  refine v_iload_n C 1 rfl dX10_sees_1 ?_
  refine v_iload_n C 2 rfl dX10_sees_2 ?_
  refine v_callI C [] (k_X10_areTwo a1 a2 M _ h) yX10_areTwo_k ml_X10_204 (rcv9 kb211 kd211) rfl rfl (Nat.le_of_ble_eq_true rfl) ⟨by decide, by decide⟩ dX10_sees_3 (fun r1 M1 h => ?_)
  refine v_if_ne C 12 (by decide) dX10_sees_6 (fun hc => ?_) (fun hc => ?_)
  · have h := h.2 hc
    refine v_aload_n C 0 rfl dX10_sees_12 ?_
    refine v_callV C [] (k_X10_save M1 _ h) yX10_save_k ml_X10_225 (rcv9 kb211 kd211) rfl rfl (Nat.le_of_ble_eq_true rfl) ⟨by decide, by decide⟩ dX10_sees_13 (fun M2 h => ?_)
    refine v_aload_n C 0 rfl dX10_sees_16 ?_
    refine g9_5 C kb211 kd211 fl_X10_16 dX10_sees_17 ?_
    refine v_iload_n C 1 rfl dX10_sees_20 ?_
    obtain ⟨s3, h⟩ := h
    refine v_iald C kb214 kd214 ln214 s3 dX10_sees_21 ?_
    refine v_aload_n C 0 rfl dX10_sees_22 ?_
    refine g9_5 C kb211 kd211 fl_X10_16 dX10_sees_23 ?_
    refine v_iload_n C 2 rfl dX10_sees_26 ?_
    obtain ⟨s4, h⟩ := h
    refine v_iald C kb214 kd214 ln214 s4 dX10_sees_27 ?_
    have key5 : V w G 36 [(0, .ref (w.2.1 211)), (1, .int a1), (2, .int a2)] (.int (if (M2 214 a1.toNatClampNeg) = (M2 214 a2.toNatClampNeg) then (0 : Int32) else (-1 : Int32)) :: []) M2 := by
      refine v_istore_n C [(3, .int (if (M2 214 a1.toNatClampNeg) = (M2 214 a2.toNatClampNeg) then (0 : Int32) else (-1 : Int32))), (0, .ref (w.2.1 211)), (1, .int a1), (2, .int a2)] rfl (by decide) dX10_sees_36 ?_
      refine v_kc C (1) (by decide) dX10_sees_37 ?_
      refine v_istore C [(4, .int ((1 : Int32))), (3, .int (if (M2 214 a1.toNatClampNeg) = (M2 214 a2.toNatClampNeg) then (0 : Int32) else (-1 : Int32))), (0, .ref (w.2.1 211)), (1, .int a1), (2, .int a2)] rfl (by decide) dX10_sees_38 ?_
      exact V.sub [2, 3, 4, 1, 0] rfl h
    refine v_icmp_ne C 35 (by decide) dX10_sees_28 (fun hc => ?_) (fun hc => ?_)
    · rw [show (if (M2 214 a1.toNatClampNeg) = (M2 214 a2.toNatClampNeg) then (0 : Int32) else (-1 : Int32) : Int32) = (-1 : Int32) from if_neg hc] at key5
      refine v_kc C (-1) (by decide) dX10_sees_35 ?_
      exact key5
    · rw [show (if (M2 214 a1.toNatClampNeg) = (M2 214 a2.toNatClampNeg) then (0 : Int32) else (-1 : Int32) : Int32) = (0 : Int32) from if_pos hc] at key5
      refine v_kc C (0) (by decide) dX10_sees_31 ?_
      refine v_goto C 36 (by decide) dX10_sees_32 ?_
      exact key5
  · have h := h.1 hc
    refine v_ldc C kc_X10_188 dX10_sees_9 ?_
    exact Rt _ _ _ _ dX10_sees_11 h
set_option maxRecDepth 4000 in
theorem wk_X10_sees_40 {w : Wx} {G : Gx} {Q : Int32 → Mem → Prop} (C : Cx w G cX10_sees RX10 3 68 5) (Rt : ∀ (pc : Nat) (lv : List (Nat × Value)) (r0 : Int32) (M0 : Mem), decode cX10_sees pc = .ok (.ireturn, 1) → Q r0 M0 → V w G pc lv [.int r0] M0) (k_X10_areTwo : Ct_X10_areTwo w G.2.1) (k_X10_save : Ct_X10_save w G.2.1) (k_X10_putBack : Ct_X10_putBack w G.2.1) (k_X10_stepAll : Ct_X10_stepAll w G.2.1) (a1 : Int32) (a2 : Int32) (x3 : Int32) (x4 : Int32) (M : Mem) (h : bd_X10_sees_40 Q (fun (x3 : Int32) (x4 : Int32) (M : Mem) => V w G 40 [(0, .ref (w.2.1 211)), (1, .int a1), (2, .int a2), (3, .int x3), (4, .int x4)] [] M) a1 a2 x3 x4 M) : V w G 40 [(0, .ref (w.2.1 211)), (1, .int a1), (2, .int a2), (3, .int x3), (4, .int x4)] [] M := by
  unfold bd_X10_sees_40 at h
  refine v_iload C 4 rfl dX10_sees_40 ?_
  refine v_ks C (200) (by decide) dX10_sees_42 ?_
  refine v_icmp_gt C 84 (by decide) dX10_sees_45 (fun hc => ?_) (fun hc => ?_)
  · have h := h.1 hc
    refine v_aload_n C 0 rfl dX10_sees_84 ?_
    refine v_callV C [] (k_X10_putBack M _ h) yX10_putBack_k ml_X10_232 (rcv9 kb211 kd211) rfl rfl (Nat.le_of_ble_eq_true rfl) ⟨by decide, by decide⟩ dX10_sees_85 (fun M1 h => ?_)
    refine v_iload_n C 3 rfl dX10_sees_88 ?_
    exact Rt _ _ _ _ dX10_sees_89 h
  · have h := h.2 hc
    refine v_iload_n C 3 rfl dX10_sees_48 ?_
    refine v_if_ge C 84 (by decide) dX10_sees_49 (fun hc => ?_) (fun hc => ?_)
    · have h := h.1 hc
      refine v_aload_n C 0 rfl dX10_sees_84 ?_
      refine v_callV C [] (k_X10_putBack M _ h) yX10_putBack_k ml_X10_232 (rcv9 kb211 kd211) rfl rfl (Nat.le_of_ble_eq_true rfl) ⟨by decide, by decide⟩ dX10_sees_85 (fun M2 h => ?_)
      refine v_iload_n C 3 rfl dX10_sees_88 ?_
      exact Rt _ _ _ _ dX10_sees_89 h
    · have h := h.2 hc
      refine v_aload_n C 0 rfl dX10_sees_52 ?_
      refine v_callV C [] (k_X10_stepAll M _ h) yX10_stepAll_k ml_X10_201 (rcv9 kb211 kd211) rfl rfl (Nat.le_of_ble_eq_true rfl) ⟨by decide, by decide⟩ dX10_sees_53 (fun M3 h => ?_)
      refine v_aload_n C 0 rfl dX10_sees_56 ?_
      refine g9_5 C kb211 kd211 fl_X10_16 dX10_sees_57 ?_
      refine v_iload_n C 1 rfl dX10_sees_60 ?_
      obtain ⟨s4, h⟩ := h
      refine v_iald C kb214 kd214 ln214 s4 dX10_sees_61 ?_
      refine v_aload_n C 0 rfl dX10_sees_62 ?_
      refine g9_5 C kb211 kd211 fl_X10_16 dX10_sees_63 ?_
      refine v_iload_n C 2 rfl dX10_sees_66 ?_
      obtain ⟨s5, h⟩ := h
      refine v_iald C kb214 kd214 ln214 s5 dX10_sees_67 ?_
      have key6 : V w G 77 [(0, .ref (w.2.1 211)), (1, .int a1), (2, .int a2), (3, .int x3), (4, .int x4)] (.int (if (M3 214 a1.toNatClampNeg) = (M3 214 a2.toNatClampNeg) then x4 else (-1 : Int32)) :: []) M3 := by
        refine v_istore_n C [(3, .int (if (M3 214 a1.toNatClampNeg) = (M3 214 a2.toNatClampNeg) then x4 else (-1 : Int32))), (0, .ref (w.2.1 211)), (1, .int a1), (2, .int a2), (4, .int x4)] rfl (by decide) dX10_sees_77 ?_
        refine v_iinc C (j := 4) [(4, .int (x4 + 1)), (3, .int (if (M3 214 a1.toNatClampNeg) = (M3 214 a2.toNatClampNeg) then x4 else (-1 : Int32))), (0, .ref (w.2.1 211)), (1, .int a1), (2, .int a2)] rfl (x4 + 1) rfl rfl (by decide) dX10_sees_78 ?_
        refine v_goto C 40 (by decide) dX10_sees_81 ?_
        exact V.sub [2, 3, 4, 1, 0] rfl h
      refine v_icmp_ne C 76 (by decide) dX10_sees_68 (fun hc => ?_) (fun hc => ?_)
      · rw [show (if (M3 214 a1.toNatClampNeg) = (M3 214 a2.toNatClampNeg) then x4 else (-1 : Int32) : Int32) = (-1 : Int32) from if_neg hc] at key6
        refine v_kc C (-1) (by decide) dX10_sees_76 ?_
        exact key6
      · rw [show (if (M3 214 a1.toNatClampNeg) = (M3 214 a2.toNatClampNeg) then x4 else (-1 : Int32) : Int32) = x4 from if_pos hc] at key6
        refine v_iload C 4 rfl dX10_sees_71 ?_
        refine v_goto C 77 (by decide) dX10_sees_73 ?_
        exact key6
theorem mt_X10_sees {w : Wx} {l : Launch} (k_X10_areTwo : Ct_X10_areTwo w l) (k_X10_save : Ct_X10_save w l) (k_X10_putBack : Ct_X10_putBack w l) (k_X10_stepAll : Ct_X10_stepAll w l) : Ct_X10_sees w l := by
  intro a1 a2 M Q h
  refine met_i (by decide +kernel) (Nat.le_of_ble_eq_true rfl) (fun G C hG Rt => ?_)
  subst hG
  exact wk_X10_sees C Rt k_X10_areTwo k_X10_save k_X10_putBack k_X10_stepAll a1 a2 M (h _ (fun x3 x4 M h => wk_X10_sees_40 C Rt k_X10_areTwo k_X10_save k_X10_putBack k_X10_stepAll a1 a2 x3 x4 M h))
theorem ct_X10_sees (w : Wx) (l : Launch) : Ct_X10_sees w l := mt_X10_sees (ct_X10_areTwo w l) (ct_X10_save w l) (ct_X10_putBack w l) (ct_X10_stepAll w l)
set_option maxRecDepth 4000 in
theorem wk_X10_rings {w : Wx} {G : Gx} {Q : Int32 → Mem → Prop} (C : Cx w G cX10_rings RX10 3 66 2) (Rt : ∀ (pc : Nat) (lv : List (Nat × Value)) (r0 : Int32) (M0 : Mem), decode cX10_rings pc = .ok (.ireturn, 1) → Q r0 M0 → V w G pc lv [.int r0] M0) (k_X10_ringsNow : Ct_X10_ringsNow w G.2.1) (a1 : Int32) (M : Mem) (h : bd_X10_rings Q a1 M) : V w G 0 [(0, .ref (w.2.1 211)), (1, .int a1)] [] M := by
  unfold bd_X10_rings at h
  refine v_aload_n C 0 rfl dX10_rings_0 ?_
  refine v_iload_n C 1 rfl dX10_rings_1 ?_
  refine v_callI C [] (k_X10_ringsNow a1 M _ h) yX10_ringsNow_k ml_X10_182 (rcv9 kb211 kd211) rfl rfl (Nat.le_of_ble_eq_true rfl) ⟨by decide, by decide⟩ dX10_rings_2 (fun r1 M1 h => ?_)
  exact Rt _ _ _ _ dX10_rings_5 h
theorem mt_X10_rings {w : Wx} {l : Launch} (k_X10_ringsNow : Ct_X10_ringsNow w l) : Ct_X10_rings w l := by
  intro a1 M Q h
  refine met_i (by decide +kernel) (Nat.le_of_ble_eq_true rfl) (fun G C hG Rt => ?_)
  subst hG
  exact wk_X10_rings C Rt k_X10_ringsNow a1 M (h)
theorem ct_X10_rings (w : Wx) (l : Launch) : Ct_X10_rings w l := mt_X10_rings (ct_X10_ringsNow w l)
set_option maxRecDepth 4000 in
theorem wk_X10_end {w : Wx} {G : Gx} {Q : Int32 → Mem → Prop} (C : Cx w G cX10_end RX10 2 46 5) (Rt : ∀ (pc : Nat) (lv : List (Nat × Value)) (r0 : Int32) (M0 : Mem), decode cX10_end pc = .ok (.ireturn, 1) → Q r0 M0 → V w G pc lv [.int r0] M0) (k_X10_isCar : Ct_X10_isCar w G.2.1) (k_X10_in : Ct_X10_in w G.2.1) (k_X10_ringOf : Ct_X10_ringOf w G.2.1) (k_X10_least : Ct_X10_least w G.2.1) (a1 : Int32) (a2 : Int32) (M : Mem) (h : bd_X10_end Q (fun (x3 : Int32) (x4 : Int32) (M : Mem) => V w G 29 [(0, .ref (w.2.1 211)), (2, .int a2), (3, .int x3), (4, .int x4)] [] M) a1 a2 M) : V w G 0 [(0, .ref (w.2.1 211)), (1, .int a1), (2, .int a2)] [] M := by
  unfold bd_X10_end at h
  refine v_aload_n C 0 rfl dX10_end_0 ?_
  refine v_iload_n C 1 rfl dX10_end_1 ?_
  refine v_callI C [] (k_X10_isCar a1 M _ h) yX10_isCar_k ml_X10_88 (rcv9 kb211 kd211) rfl rfl (Nat.le_of_ble_eq_true rfl) ⟨by decide, by decide⟩ dX10_end_2 (fun r1 M1 h => ?_)
  refine v_if_ne C 11 (by decide) dX10_end_5 (fun hc => ?_) (fun hc => ?_)
  · have h := h.2 hc
    refine v_iload_n C 2 rfl dX10_end_11 ?_
    refine v_i2l C dX10_end_12 ?_
    refine v_lconst C 0 (by decide) dX10_end_13 ?_
    refine v_lconst C 1 (by decide) dX10_end_14 ?_
    refine v_callSI C [] (k_X10_in a2.toInt64 ((0 : Int64)) ((1 : Int64)) M1 _ h) yX10_in_k ml_X10_81 rfl rfl (Nat.le_of_ble_eq_true rfl) ⟨by decide, by decide⟩ dX10_end_15 (fun r2 M2 h => ?_)
    refine v_if_ne C 24 (by decide) dX10_end_18 (fun hc => ?_) (fun hc => ?_)
    · have h := h.2 hc
      refine v_iload_n C 1 rfl dX10_end_24 ?_
      refine v_istore_n C [(3, .int a1), (0, .ref (w.2.1 211)), (1, .int a1), (2, .int a2)] rfl (by decide) dX10_end_25 ?_
      refine v_kc C (0) (by decide) dX10_end_26 ?_
      refine v_istore C [(4, .int ((0 : Int32))), (3, .int a1), (0, .ref (w.2.1 211)), (1, .int a1), (2, .int a2)] rfl (by decide) dX10_end_27 ?_
      exact V.sub [2, 4, 1, 0] rfl h
    · have h := h.1 hc
      refine v_ldc C kc_X10_94 dX10_end_21 ?_
      exact Rt _ _ _ _ dX10_end_23 h
  · have h := h.1 hc
    refine v_ldc C kc_X10_188 dX10_end_8 ?_
    exact Rt _ _ _ _ dX10_end_10 h
set_option maxRecDepth 4000 in
theorem wk_X10_end_29 {w : Wx} {G : Gx} {Q : Int32 → Mem → Prop} (C : Cx w G cX10_end RX10 2 46 5) (Rt : ∀ (pc : Nat) (lv : List (Nat × Value)) (r0 : Int32) (M0 : Mem), decode cX10_end pc = .ok (.ireturn, 1) → Q r0 M0 → V w G pc lv [.int r0] M0) (k_X10_isCar : Ct_X10_isCar w G.2.1) (k_X10_in : Ct_X10_in w G.2.1) (k_X10_ringOf : Ct_X10_ringOf w G.2.1) (k_X10_least : Ct_X10_least w G.2.1) (a1 : Int32) (a2 : Int32) (x3 : Int32) (x4 : Int32) (M : Mem) (h : bd_X10_end_29 Q (fun (x3 : Int32) (x4 : Int32) (M : Mem) => V w G 29 [(0, .ref (w.2.1 211)), (2, .int a2), (3, .int x3), (4, .int x4)] [] M) a1 a2 x3 x4 M) : V w G 29 [(0, .ref (w.2.1 211)), (2, .int a2), (3, .int x3), (4, .int x4)] [] M := by
  unfold bd_X10_end_29 at h
  refine v_aload_n C 0 rfl dX10_end_29 ?_
  refine v_iload_n C 2 rfl dX10_end_30 ?_
  refine v_callI C [] (k_X10_ringOf x3 M _ h) yX10_ringOf_k ml_X10_166 (rcv9 kb211 kd211) rfl rfl (Nat.le_of_ble_eq_true rfl) ⟨by decide, by decide⟩ dX10_end_31 (fun r1 M1 h => ?_)
  refine v_if_ne C 65 (by decide) dX10_end_34 (fun hc => ?_) (fun hc => ?_)
  · have h := h.2 hc
    refine v_iload_n C 1 rfl dX10_end_65 ?_
    refine v_kc C (1) (by decide) dX10_end_66 ?_
    refine v_icmp_ne C 75 (by decide) dX10_end_67 (fun hc => ?_) (fun hc => ?_)
    · have h := h.2 hc
      refine v_aload_n C 0 rfl dX10_end_75 ?_
      refine v_iload_n C 2 rfl dX10_end_76 ?_
      refine v_callI C [] (k_X10_ringOf x3 M1 _ h) yX10_ringOf_k ml_X10_166 (rcv9 kb211 kd211) rfl rfl (Nat.le_of_ble_eq_true rfl) ⟨by decide, by decide⟩ dX10_end_77 (fun r2 M2 h => ?_)
      refine v_if_ne C 87 (by decide) dX10_end_80 (fun hc => ?_) (fun hc => ?_)
      · have h := h.2 hc
        refine v_aload_n C 0 rfl dX10_end_87 ?_
        refine v_iload_n C 2 rfl dX10_end_88 ?_
        refine v_callI C [] (k_X10_ringOf x3 M2 _ h) yX10_ringOf_k ml_X10_166 (rcv9 kb211 kd211) rfl rfl (Nat.le_of_ble_eq_true rfl) ⟨by decide, by decide⟩ dX10_end_89 (fun r3 M3 h => ?_)
        refine v_callSI C [] (k_X10_least r3 M3 _ h) yX10_least_k ml_X10_170 rfl rfl (Nat.le_of_ble_eq_true rfl) ⟨by decide, by decide⟩ dX10_end_92 (fun r4 M4 h => ?_)
        exact Rt _ _ _ _ dX10_end_95 h
      · have h := h.1 hc
        refine v_iload_n C 2 rfl dX10_end_83 ?_
        refine v_goto C 95 (by decide) dX10_end_84 ?_
        exact Rt _ _ _ _ dX10_end_95 h
    · have h := h.1 hc
      refine v_iload C 3 rfl dX10_end_70 ?_
      refine v_goto C 95 (by decide) dX10_end_72 ?_
      exact Rt _ _ _ _ dX10_end_95 h
  · have h := h.1 hc
    refine v_aload_n C 0 rfl dX10_end_37 ?_
    refine g9_5 C kb211 kd211 fl_X10_16 dX10_end_38 ?_
    refine v_kb C (8) (by decide) dX10_end_41 ?_
    refine v_iload_n C 2 rfl dX10_end_43 ?_
    refine v_iadd C dX10_end_44 ?_
    obtain ⟨s5, h⟩ := h
    refine v_iald C kb214 kd214 ln214 s5 dX10_end_45 ?_
    refine v_if_lt C 65 (by decide) dX10_end_46 (fun hc => ?_) (fun hc => ?_)
    · have h := h.1 hc
      refine v_iload_n C 1 rfl dX10_end_65 ?_
      refine v_kc C (1) (by decide) dX10_end_66 ?_
      refine v_icmp_ne C 75 (by decide) dX10_end_67 (fun hc => ?_) (fun hc => ?_)
      · have h := h.2 hc
        refine v_aload_n C 0 rfl dX10_end_75 ?_
        refine v_iload_n C 2 rfl dX10_end_76 ?_
        refine v_callI C [] (k_X10_ringOf x3 M1 _ h) yX10_ringOf_k ml_X10_166 (rcv9 kb211 kd211) rfl rfl (Nat.le_of_ble_eq_true rfl) ⟨by decide, by decide⟩ dX10_end_77 (fun r6 M6 h => ?_)
        refine v_if_ne C 87 (by decide) dX10_end_80 (fun hc => ?_) (fun hc => ?_)
        · have h := h.2 hc
          refine v_aload_n C 0 rfl dX10_end_87 ?_
          refine v_iload_n C 2 rfl dX10_end_88 ?_
          refine v_callI C [] (k_X10_ringOf x3 M6 _ h) yX10_ringOf_k ml_X10_166 (rcv9 kb211 kd211) rfl rfl (Nat.le_of_ble_eq_true rfl) ⟨by decide, by decide⟩ dX10_end_89 (fun r7 M7 h => ?_)
          refine v_callSI C [] (k_X10_least r7 M7 _ h) yX10_least_k ml_X10_170 rfl rfl (Nat.le_of_ble_eq_true rfl) ⟨by decide, by decide⟩ dX10_end_92 (fun r8 M8 h => ?_)
          exact Rt _ _ _ _ dX10_end_95 h
        · have h := h.1 hc
          refine v_iload_n C 2 rfl dX10_end_83 ?_
          refine v_goto C 95 (by decide) dX10_end_84 ?_
          exact Rt _ _ _ _ dX10_end_95 h
      · have h := h.1 hc
        refine v_iload C 3 rfl dX10_end_70 ?_
        refine v_goto C 95 (by decide) dX10_end_72 ?_
        exact Rt _ _ _ _ dX10_end_95 h
    · have h := h.2 hc
      refine v_aload_n C 0 rfl dX10_end_49 ?_
      refine g9_5 C kb211 kd211 fl_X10_16 dX10_end_50 ?_
      refine v_kb C (8) (by decide) dX10_end_53 ?_
      refine v_iload_n C 2 rfl dX10_end_55 ?_
      refine v_iadd C dX10_end_56 ?_
      obtain ⟨s9, h⟩ := h
      refine v_iald C kb214 kd214 ln214 s9 dX10_end_57 ?_
      refine v_istore_n C [(3, .int (M1 214 (((8 : Int32)) + x3).toNatClampNeg)), (0, .ref (w.2.1 211)), (2, .int a2), (4, .int x4)] rfl (by decide) dX10_end_58 ?_
      refine v_iinc C (j := 3) [(4, .int (x4 + 1)), (3, .int (M1 214 (((8 : Int32)) + x3).toNatClampNeg)), (0, .ref (w.2.1 211)), (2, .int a2)] rfl (x4 + 1) rfl rfl (by decide) dX10_end_59 ?_
      refine v_goto C 29 (by decide) dX10_end_62 ?_
      exact V.sub [2, 3, 1, 0] rfl h
theorem mt_X10_end {w : Wx} {l : Launch} (k_X10_isCar : Ct_X10_isCar w l) (k_X10_in : Ct_X10_in w l) (k_X10_ringOf : Ct_X10_ringOf w l) (k_X10_least : Ct_X10_least w l) : Ct_X10_end w l := by
  intro a1 a2 M Q h
  refine met_i (by decide +kernel) (Nat.le_of_ble_eq_true rfl) (fun G C hG Rt => ?_)
  subst hG
  exact wk_X10_end C Rt k_X10_isCar k_X10_in k_X10_ringOf k_X10_least a1 a2 M (h _ (fun x3 x4 M h => wk_X10_end_29 C Rt k_X10_isCar k_X10_in k_X10_ringOf k_X10_least a1 a2 x3 x4 M h))
theorem ct_X10_end (w : Wx) (l : Launch) : Ct_X10_end w l := mt_X10_end (ct_X10_isCar w l) (ct_X10_in w l) (ct_X10_ringOf w l) (ct_X10_least w l)
set_option maxRecDepth 4000 in
theorem wk_X10_behind {w : Wx} {G : Gx} {Q : Int32 → Mem → Prop} (C : Cx w G cX10_behind RX10 2 46 2) (Rt : ∀ (pc : Nat) (lv : List (Nat × Value)) (r0 : Int32) (M0 : Mem), decode cX10_behind pc = .ok (.ireturn, 1) → Q r0 M0 → V w G pc lv [.int r0] M0) (k_X10_isCar : Ct_X10_isCar w G.2.1) (k_X10_behindOf : Ct_X10_behindOf w G.2.1) (a1 : Int32) (M : Mem) (h : bd_X10_behind Q a1 M) : V w G 0 [(0, .ref (w.2.1 211)), (1, .int a1)] [] M := by
  unfold bd_X10_behind at h
  refine v_aload_n C 0 rfl dX10_behind_0 ?_
  refine v_iload_n C 1 rfl dX10_behind_1 ?_
  refine v_callI C [] (k_X10_isCar a1 M _ h) yX10_isCar_k ml_X10_88 (rcv9 kb211 kd211) rfl rfl (Nat.le_of_ble_eq_true rfl) ⟨by decide, by decide⟩ dX10_behind_2 (fun r1 M1 h => ?_)
  refine v_if_eq C 16 (by decide) dX10_behind_5 (fun hc => ?_) (fun hc => ?_)
  · have h := h.1 hc
    refine v_ldc C kc_X10_188 dX10_behind_16 ?_
    exact Rt _ _ _ _ dX10_behind_18 h
  · have h := h.2 hc
    refine v_aload_n C 0 rfl dX10_behind_8 ?_
    refine v_iload_n C 1 rfl dX10_behind_9 ?_
    refine v_callI C [] (k_X10_behindOf a1 M1 _ h) yX10_behindOf_k ml_X10_173 (rcv9 kb211 kd211) rfl rfl (Nat.le_of_ble_eq_true rfl) ⟨by decide, by decide⟩ dX10_behind_10 (fun r2 M2 h => ?_)
    refine v_goto C 18 (by decide) dX10_behind_13 ?_
    exact Rt _ _ _ _ dX10_behind_18 h
theorem mt_X10_behind {w : Wx} {l : Launch} (k_X10_isCar : Ct_X10_isCar w l) (k_X10_behindOf : Ct_X10_behindOf w l) : Ct_X10_behind w l := by
  intro a1 M Q h
  refine met_i (by decide +kernel) (Nat.le_of_ble_eq_true rfl) (fun G C hG Rt => ?_)
  subst hG
  exact wk_X10_behind C Rt k_X10_isCar k_X10_behindOf a1 M (h)
theorem ct_X10_behind (w : Wx) (l : Launch) : Ct_X10_behind w l := mt_X10_behind (ct_X10_isCar w l) (ct_X10_behindOf w l)
set_option maxRecDepth 4000 in
theorem wk_X10_stop {w : Wx} {G : Gx} {Q : Int32 → Mem → Prop} (C : Cx w G cX10_stop RX10 2 42 4) (Rt : ∀ (pc : Nat) (lv : List (Nat × Value)) (r0 : Int32) (M0 : Mem), decode cX10_stop pc = .ok (.ireturn, 1) → Q r0 M0 → V w G pc lv [.int r0] M0) (k_X10_ringOf : Ct_X10_ringOf w G.2.1) (k_X10_least : Ct_X10_least w G.2.1) (M : Mem) (h : bd_X10_stop Q (fun (x1 : Int32) (x2 : Int32) (M : Mem) => V w G 4 [(0, .ref (w.2.1 211)), (1, .int x1), (2, .int x2)] [] M) M) : V w G 0 [(0, .ref (w.2.1 211))] [] M := by
  unfold bd_X10_stop at h
  refine v_kc C (0) (by decide) dX10_stop_0 ?_
  refine v_istore_n C [(1, .int ((0 : Int32))), (0, .ref (w.2.1 211))] rfl (by decide) dX10_stop_1 ?_
  refine v_kc C (0) (by decide) dX10_stop_2 ?_
  refine v_istore_n C [(2, .int ((0 : Int32))), (1, .int ((0 : Int32))), (0, .ref (w.2.1 211))] rfl (by decide) dX10_stop_3 ?_
  exact V.sub [2, 1, 0] rfl h
set_option maxRecDepth 4000 in
theorem wk_X10_stop_4 {w : Wx} {G : Gx} {Q : Int32 → Mem → Prop} (C : Cx w G cX10_stop RX10 2 42 4) (Rt : ∀ (pc : Nat) (lv : List (Nat × Value)) (r0 : Int32) (M0 : Mem), decode cX10_stop pc = .ok (.ireturn, 1) → Q r0 M0 → V w G pc lv [.int r0] M0) (k_X10_ringOf : Ct_X10_ringOf w G.2.1) (k_X10_least : Ct_X10_least w G.2.1) (x1 : Int32) (x2 : Int32) (M : Mem) (h : bd_X10_stop_4 Q (fun (x1 : Int32) (x2 : Int32) (M : Mem) => V w G 4 [(0, .ref (w.2.1 211)), (1, .int x1), (2, .int x2)] [] M) x1 x2 M) : V w G 4 [(0, .ref (w.2.1 211)), (1, .int x1), (2, .int x2)] [] M := by
  unfold bd_X10_stop_4 at h
  refine v_iload_n C 2 rfl dX10_stop_4 ?_
  refine v_aload_n C 0 rfl dX10_stop_5 ?_
  refine g9_2 C kb211 kd211 fl_X10_85 dX10_stop_6 ?_
  refine v_icmp_ge C 46 (by decide) dX10_stop_9 (fun hc => ?_) (fun hc => ?_)
  · have h := h.1 hc
    refine v_iload_n C 1 rfl dX10_stop_46 ?_
    exact Rt _ _ _ _ dX10_stop_47 h
  · have h := h.2 hc
    refine v_aload_n C 0 rfl dX10_stop_12 ?_
    refine v_iload_n C 2 rfl dX10_stop_13 ?_
    refine v_callI C [] (k_X10_ringOf x2 M _ h) yX10_ringOf_k ml_X10_166 (rcv9 kb211 kd211) rfl rfl (Nat.le_of_ble_eq_true rfl) ⟨by decide, by decide⟩ dX10_stop_14 (fun r1 M1 h => ?_)
    refine v_istore_n C [(3, .int r1), (0, .ref (w.2.1 211)), (1, .int x1), (2, .int x2)] rfl (by decide) dX10_stop_17 ?_
    refine v_iload_n C 2 rfl dX10_stop_18 ?_
    refine v_iload_n C 0 rfl dX10_stop_19 ?_
    refine v_if_eq C 37 (by decide) dX10_stop_20 (fun hc => ?_) (fun hc => ?_)
    · have h := h.1 hc
      refine v_kc C (0) (by decide) dX10_stop_37 ?_
      refine v_ior C dX10_stop_38 ?_
      refine v_istore_n C [(1, .int (x1 ||| ((0 : Int32)))), (3, .int r1), (0, .ref (w.2.1 211)), (2, .int x2)] rfl (by decide) dX10_stop_39 ?_
      refine v_iinc C (j := 3) [(2, .int (x2 + 1)), (1, .int (x1 ||| ((0 : Int32)))), (3, .int r1), (0, .ref (w.2.1 211))] rfl (x2 + 1) rfl rfl (by decide) dX10_stop_40 ?_
      refine v_goto C 4 (by decide) dX10_stop_43 ?_
      exact V.sub [3, 1, 0] rfl h
    · have h := h.2 hc
      refine v_iload_n C 0 rfl dX10_stop_23 ?_
      refine v_callSI C [.int x1] (k_X10_least r1 M1 _ h) yX10_least_k ml_X10_170 rfl rfl (Nat.le_of_ble_eq_true rfl) ⟨by decide, by decide⟩ dX10_stop_24 (fun r2 M2 h => ?_)
      refine v_iload_n C 3 rfl dX10_stop_27 ?_
      have key3 : V w G 38 [(3, .int r1), (0, .ref (w.2.1 211)), (1, .int x1), (2, .int x2)] (.int (if r2 = x2 then ((1 : Int32)) <<< (x2 &&& 31) else (0 : Int32)) :: .int x1 :: []) M2 := by
        refine v_ior C dX10_stop_38 ?_
        refine v_istore_n C [(1, .int (x1 ||| (if r2 = x2 then ((1 : Int32)) <<< (x2 &&& 31) else (0 : Int32)))), (3, .int r1), (0, .ref (w.2.1 211)), (2, .int x2)] rfl (by decide) dX10_stop_39 ?_
        refine v_iinc C (j := 3) [(2, .int (x2 + 1)), (1, .int (x1 ||| (if r2 = x2 then ((1 : Int32)) <<< (x2 &&& 31) else (0 : Int32)))), (3, .int r1), (0, .ref (w.2.1 211))] rfl (x2 + 1) rfl rfl (by decide) dX10_stop_40 ?_
        refine v_goto C 4 (by decide) dX10_stop_43 ?_
        exact V.sub [3, 1, 0] rfl h
      refine v_icmp_ne C 37 (by decide) dX10_stop_28 (fun hc => ?_) (fun hc => ?_)
      · rw [show (if r2 = x2 then ((1 : Int32)) <<< (x2 &&& 31) else (0 : Int32) : Int32) = (0 : Int32) from if_neg hc] at key3
        refine v_kc C (0) (by decide) dX10_stop_37 ?_
        exact key3
      · rw [show (if r2 = x2 then ((1 : Int32)) <<< (x2 &&& 31) else (0 : Int32) : Int32) = ((1 : Int32)) <<< (x2 &&& 31) from if_pos hc] at key3
        refine v_kc C (1) (by decide) dX10_stop_31 ?_
        refine v_iload_n C 3 rfl dX10_stop_32 ?_
        refine v_ishl C dX10_stop_33 ?_
        refine v_goto C 38 (by decide) dX10_stop_34 ?_
        exact key3
theorem mt_X10_stop {w : Wx} {l : Launch} (k_X10_ringOf : Ct_X10_ringOf w l) (k_X10_least : Ct_X10_least w l) : Ct_X10_stop w l := by
  intro M Q h
  refine met_i (by decide +kernel) (Nat.le_of_ble_eq_true rfl) (fun G C hG Rt => ?_)
  subst hG
  exact wk_X10_stop C Rt k_X10_ringOf k_X10_least M (h _ (fun x1 x2 M h => wk_X10_stop_4 C Rt k_X10_ringOf k_X10_least x1 x2 M h))
theorem ct_X10_stop (w : Wx) (l : Launch) : Ct_X10_stop w l := mt_X10_stop (ct_X10_ringOf w l) (ct_X10_least w l)
set_option maxRecDepth 4000 in
theorem wk_X10_isCorner {w : Wx} {G : Gx} {Q : Int32 → Mem → Prop} (C : Cx w G cX10_isCorner RX10 1 25 2) (Rt : ∀ (pc : Nat) (lv : List (Nat × Value)) (r0 : Int32) (M0 : Mem), decode cX10_isCorner pc = .ok (.ireturn, 1) → (r0 = 0 ∨ r0 = 1) → Q r0 M0 → V w G pc lv [.int r0] M0) (k_X10_in : Ct_X10_in w G.2.1) (a1 : Int32) (M : Mem) (h : bd_X10_isCorner Q a1 M) : V w G 0 [(0, .ref (w.2.1 211)), (1, .int a1)] [] M := by
  unfold bd_X10_isCorner at h
  refine v_iload_n C 1 rfl dX10_isCorner_0 ?_
  refine v_i2l C dX10_isCorner_1 ?_
  refine v_lconst C 0 (by decide) dX10_isCorner_2 ?_
  refine v_aload_n C 0 rfl dX10_isCorner_3 ?_
  refine g9_0 C kb211 kd211 fl_X10_78 dX10_isCorner_4 ?_
  refine v_kc C (1) (by decide) dX10_isCorner_7 ?_
  refine v_isub C dX10_isCorner_8 ?_
  refine v_i2l C dX10_isCorner_9 ?_
  refine v_callSI C [] (k_X10_in a1.toInt64 ((0 : Int64)) (((M 211 0) - ((1 : Int32))).toInt64) M _ h) yX10_in_k ml_X10_81 rfl rfl (Nat.le_of_ble_eq_true rfl) ⟨by decide, by decide⟩ dX10_isCorner_10 (fun r1 M1 h => ?_)
  exact Rt _ _ _ _ dX10_isCorner_13 h.1 h.2
theorem mt_X10_isCorner {w : Wx} {l : Launch} (k_X10_in : Ct_X10_in w l) : Ct_X10_isCorner w l := by
  intro a1 M Q h
  refine met_z (by decide +kernel) (Nat.le_of_ble_eq_true rfl) (fun G C hG Rt => ?_)
  subst hG
  exact wk_X10_isCorner C Rt k_X10_in a1 M (h)
theorem ct_X10_isCorner (w : Wx) (l : Launch) : Ct_X10_isCorner w l := mt_X10_isCorner (ct_X10_in w l)
set_option maxRecDepth 4000 in
theorem wk_X10_cross {w : Wx} {G : Gx} {Q : Int32 → Mem → Prop} (C : Cx w G cX10_cross RX10 2 46 6) (Rt : ∀ (pc : Nat) (lv : List (Nat × Value)) (r0 : Int32) (M0 : Mem), decode cX10_cross pc = .ok (.ireturn, 1) → Q r0 M0 → V w G pc lv [.int r0] M0) (k_X10_isCorner : Ct_X10_isCorner w G.2.1) (k_X10_in : Ct_X10_in w G.2.1) (k_X10_save : Ct_X10_save w G.2.1) (k_X10_putBack : Ct_X10_putBack w G.2.1) (k_X10_taken : Ct_X10_taken w G.2.1) (k_X10_has : Ct_X10_has w G.2.1) (k_X10_stepAll : Ct_X10_stepAll w G.2.1) (a1 : Int32) (a2 : Int32) (M : Mem) (h : bd_X10_cross Q (fun (x3 : Int32) (x4 : Int32) (x5 : Int32) (M : Mem) => V w G 38 [(0, .ref (w.2.1 211)), (1, .int a1), (2, .int a2), (3, .int x3), (4, .int x4), (5, .int x5)] [] M) a1 a2 M) : V w G 0 [(0, .ref (w.2.1 211)), (1, .int a1), (2, .int a2)] [] M := by
  unfold bd_X10_cross at h
  refine v_aload_n C 0 rfl dX10_cross_0 ?_
  refine v_iload_n C 1 rfl dX10_cross_1 ?_
  refine v_callI C [] (k_X10_isCorner a1 M _ h) yX10_isCorner_k ml_X10_235 (rcv9 kb211 kd211) rfl rfl (Nat.le_of_ble_eq_true rfl) ⟨by decide, by decide⟩ dX10_cross_2 (fun r1 M1 h => ?_)
  refine v_if_ne C 11 (by decide) dX10_cross_5 (fun hc => ?_) (fun hc => ?_)
  · have h := h.2 hc
    refine v_iload_n C 2 rfl dX10_cross_11 ?_
    refine v_i2l C dX10_cross_12 ?_
    refine v_lconst C 1 (by decide) dX10_cross_13 ?_
    refine v_ldc2 C kl_X10_238 dX10_cross_14 ?_
    refine v_callSI C [] (k_X10_in a2.toInt64 ((1 : Int64)) ((9 : Int64)) M1 _ h) yX10_in_k ml_X10_81 rfl rfl (Nat.le_of_ble_eq_true rfl) ⟨by decide, by decide⟩ dX10_cross_17 (fun r2 M2 h => ?_)
    refine v_if_ne C 26 (by decide) dX10_cross_20 (fun hc => ?_) (fun hc => ?_)
    · have h := h.2 hc
      refine v_aload_n C 0 rfl dX10_cross_26 ?_
      refine v_callV C [] (k_X10_save M2 _ h) yX10_save_k ml_X10_225 (rcv9 kb211 kd211) rfl rfl (Nat.le_of_ble_eq_true rfl) ⟨by decide, by decide⟩ dX10_cross_27 (fun M3 h => ?_)
      refine v_kc C (0) (by decide) dX10_cross_30 ?_
      refine v_istore_n C [(3, .int ((0 : Int32))), (0, .ref (w.2.1 211)), (1, .int a1), (2, .int a2)] rfl (by decide) dX10_cross_31 ?_
      refine v_kc C (-1) (by decide) dX10_cross_32 ?_
      refine v_istore C [(4, .int ((-1 : Int32))), (3, .int ((0 : Int32))), (0, .ref (w.2.1 211)), (1, .int a1), (2, .int a2)] rfl (by decide) dX10_cross_33 ?_
      refine v_kc C (0) (by decide) dX10_cross_35 ?_
      refine v_istore C [(5, .int ((0 : Int32))), (4, .int ((-1 : Int32))), (3, .int ((0 : Int32))), (0, .ref (w.2.1 211)), (1, .int a1), (2, .int a2)] rfl (by decide) dX10_cross_36 ?_
      exact V.sub [3, 4, 5, 2, 1, 0] rfl h
    · have h := h.1 hc
      refine v_ldc C kc_X10_94 dX10_cross_23 ?_
      exact Rt _ _ _ _ dX10_cross_25 h
  · have h := h.1 hc
    refine v_ldc C kc_X10_188 dX10_cross_8 ?_
    exact Rt _ _ _ _ dX10_cross_10 h
set_option maxRecDepth 4000 in
theorem wk_X10_cross_38 {w : Wx} {G : Gx} {Q : Int32 → Mem → Prop} (C : Cx w G cX10_cross RX10 2 46 6) (Rt : ∀ (pc : Nat) (lv : List (Nat × Value)) (r0 : Int32) (M0 : Mem), decode cX10_cross pc = .ok (.ireturn, 1) → Q r0 M0 → V w G pc lv [.int r0] M0) (k_X10_isCorner : Ct_X10_isCorner w G.2.1) (k_X10_in : Ct_X10_in w G.2.1) (k_X10_save : Ct_X10_save w G.2.1) (k_X10_putBack : Ct_X10_putBack w G.2.1) (k_X10_taken : Ct_X10_taken w G.2.1) (k_X10_has : Ct_X10_has w G.2.1) (k_X10_stepAll : Ct_X10_stepAll w G.2.1) (a1 : Int32) (a2 : Int32) (x3 : Int32) (x4 : Int32) (x5 : Int32) (M : Mem) (h : bd_X10_cross_38 Q (fun (x3 : Int32) (x4 : Int32) (x5 : Int32) (M : Mem) => V w G 38 [(0, .ref (w.2.1 211)), (1, .int a1), (2, .int a2), (3, .int x3), (4, .int x4), (5, .int x5)] [] M) a1 a2 x3 x4 x5 M) : V w G 38 [(0, .ref (w.2.1 211)), (1, .int a1), (2, .int a2), (3, .int x3), (4, .int x4), (5, .int x5)] [] M := by
  unfold bd_X10_cross_38 at h
  refine v_iload C 5 rfl dX10_cross_38 ?_
  refine v_ks C (200) (by decide) dX10_cross_40 ?_
  refine v_iload_n C 2 rfl dX10_cross_43 ?_
  refine v_iadd C dX10_cross_44 ?_
  refine v_icmp_ge C 99 (by decide) dX10_cross_45 (fun hc => ?_) (fun hc => ?_)
  · have h := h.1 hc
    refine v_aload_n C 0 rfl dX10_cross_99 ?_
    refine v_callV C [] (k_X10_putBack M _ h) yX10_putBack_k ml_X10_232 (rcv9 kb211 kd211) rfl rfl (Nat.le_of_ble_eq_true rfl) ⟨by decide, by decide⟩ dX10_cross_100 (fun M1 h => ?_)
    refine v_iload C 4 rfl dX10_cross_103 ?_
    exact Rt _ _ _ _ dX10_cross_105 h
  · have h := h.2 hc
    refine v_iload C 4 rfl dX10_cross_48 ?_
    refine v_if_ge C 99 (by decide) dX10_cross_50 (fun hc => ?_) (fun hc => ?_)
    · have h := h.1 hc
      refine v_aload_n C 0 rfl dX10_cross_99 ?_
      refine v_callV C [] (k_X10_putBack M _ h) yX10_putBack_k ml_X10_232 (rcv9 kb211 kd211) rfl rfl (Nat.le_of_ble_eq_true rfl) ⟨by decide, by decide⟩ dX10_cross_100 (fun M2 h => ?_)
      refine v_iload C 4 rfl dX10_cross_103 ?_
      exact Rt _ _ _ _ dX10_cross_105 h
    · have h := h.2 hc
      refine v_aload_n C 0 rfl dX10_cross_53 ?_
      refine v_callI C [] (k_X10_taken M _ h) yX10_taken_k ml_X10_176 (rcv9 kb211 kd211) rfl rfl (Nat.le_of_ble_eq_true rfl) ⟨by decide, by decide⟩ dX10_cross_54 (fun r3 M3 h => ?_)
      refine v_iload_n C 1 rfl dX10_cross_57 ?_
      refine v_callSI C [] (k_X10_has r3 a1 M3 _ h) yX10_has_k ml_X10_162 rfl rfl (Nat.le_of_ble_eq_true rfl) ⟨by decide, by decide⟩ dX10_cross_58 (fun r4 M4 h => ?_)
      have key5 : V w G 71 [(0, .ref (w.2.1 211)), (1, .int a1), (2, .int a2), (3, .int x3), (4, .int x4), (5, .int x5)] (.int (if r4 = 0 then x3 + ((1 : Int32)) else (0 : Int32)) :: []) M4 := by
        refine v_istore_n C [(3, .int (if r4 = 0 then x3 + ((1 : Int32)) else (0 : Int32))), (0, .ref (w.2.1 211)), (1, .int a1), (2, .int a2), (4, .int x4), (5, .int x5)] rfl (by decide) dX10_cross_71 ?_
        refine v_iload_n C 0 rfl dX10_cross_72 ?_
        refine v_iload_n C 3 rfl dX10_cross_73 ?_
        have key6 : V w G 87 [(3, .int (if r4 = 0 then x3 + ((1 : Int32)) else (0 : Int32))), (0, .ref (w.2.1 211)), (1, .int a1), (2, .int a2), (4, .int x4), (5, .int x5)] (.int (if (if r4 = 0 then x3 + ((1 : Int32)) else (0 : Int32)) = a2 then (x5 - a2) + ((1 : Int32)) else (-1 : Int32)) :: []) M4 := by
          refine v_istore C [(4, .int (if (if r4 = 0 then x3 + ((1 : Int32)) else (0 : Int32)) = a2 then (x5 - a2) + ((1 : Int32)) else (-1 : Int32))), (3, .int (if r4 = 0 then x3 + ((1 : Int32)) else (0 : Int32))), (0, .ref (w.2.1 211)), (1, .int a1), (2, .int a2), (5, .int x5)] rfl (by decide) dX10_cross_87 ?_
          refine v_aload_n C 2 rfl dX10_cross_89 ?_
          refine v_callV C [] (k_X10_stepAll M4 _ h) yX10_stepAll_k ml_X10_201 (rcv9 kb211 kd211) rfl rfl (Nat.le_of_ble_eq_true rfl) ⟨by decide, by decide⟩ dX10_cross_90 (fun M7 h => ?_)
          refine v_iinc C (j := 5) [(5, .int (x5 + 1)), (4, .int (if (if r4 = 0 then x3 + ((1 : Int32)) else (0 : Int32)) = a2 then (x5 - a2) + ((1 : Int32)) else (-1 : Int32))), (3, .int (if r4 = 0 then x3 + ((1 : Int32)) else (0 : Int32))), (0, .ref (w.2.1 211)), (1, .int a1), (2, .int a2)] rfl (x5 + 1) rfl rfl (by decide) dX10_cross_93 ?_
          refine v_goto C 38 (by decide) dX10_cross_96 ?_
          exact V.sub [3, 4, 5, 2, 1, 0] rfl h
        refine v_icmp_ne C 86 (by decide) dX10_cross_74 (fun hc => ?_) (fun hc => ?_)
        · rw [show (if (if r4 = 0 then x3 + ((1 : Int32)) else (0 : Int32)) = a2 then (x5 - a2) + ((1 : Int32)) else (-1 : Int32) : Int32) = (-1 : Int32) from if_neg hc] at key6
          refine v_kc C (-1) (by decide) dX10_cross_86 ?_
          exact key6
        · rw [show (if (if r4 = 0 then x3 + ((1 : Int32)) else (0 : Int32)) = a2 then (x5 - a2) + ((1 : Int32)) else (-1 : Int32) : Int32) = (x5 - a2) + ((1 : Int32)) from if_pos hc] at key6
          refine v_iload C 5 rfl dX10_cross_77 ?_
          refine v_iload_n C 3 rfl dX10_cross_79 ?_
          refine v_isub C dX10_cross_80 ?_
          refine v_kc C (1) (by decide) dX10_cross_81 ?_
          refine v_iadd C dX10_cross_82 ?_
          refine v_goto C 87 (by decide) dX10_cross_83 ?_
          exact key6
      refine v_if_eq C 68 (by decide) dX10_cross_61 (fun hc => ?_) (fun hc => ?_)
      · rw [show (if r4 = 0 then x3 + ((1 : Int32)) else (0 : Int32) : Int32) = x3 + ((1 : Int32)) from if_pos hc] at key5
        refine v_iload_n C 3 rfl dX10_cross_68 ?_
        refine v_kc C (1) (by decide) dX10_cross_69 ?_
        refine v_iadd C dX10_cross_70 ?_
        exact key5
      · rw [show (if r4 = 0 then x3 + ((1 : Int32)) else (0 : Int32) : Int32) = (0 : Int32) from if_neg hc] at key5
        refine v_kc C (0) (by decide) dX10_cross_64 ?_
        refine v_goto C 71 (by decide) dX10_cross_65 ?_
        exact key5
theorem mt_X10_cross {w : Wx} {l : Launch} (k_X10_isCorner : Ct_X10_isCorner w l) (k_X10_in : Ct_X10_in w l) (k_X10_save : Ct_X10_save w l) (k_X10_putBack : Ct_X10_putBack w l) (k_X10_taken : Ct_X10_taken w l) (k_X10_has : Ct_X10_has w l) (k_X10_stepAll : Ct_X10_stepAll w l) : Ct_X10_cross w l := by
  intro a1 a2 M Q h
  refine met_i (by decide +kernel) (Nat.le_of_ble_eq_true rfl) (fun G C hG Rt => ?_)
  subst hG
  exact wk_X10_cross C Rt k_X10_isCorner k_X10_in k_X10_save k_X10_putBack k_X10_taken k_X10_has k_X10_stepAll a1 a2 M (h _ (fun x3 x4 x5 M h => wk_X10_cross_38 C Rt k_X10_isCorner k_X10_in k_X10_save k_X10_putBack k_X10_taken k_X10_has k_X10_stepAll a1 a2 x3 x4 x5 M h))
theorem ct_X10_cross (w : Wx) (l : Launch) : Ct_X10_cross w l := mt_X10_cross (ct_X10_isCorner w l) (ct_X10_in w l) (ct_X10_save w l) (ct_X10_putBack w l) (ct_X10_taken w l) (ct_X10_has w l) (ct_X10_stepAll w l)
set_option maxRecDepth 4000 in
theorem wk_X10_handedOn {w : Wx} {G : Gx} {Q : Int32 → Mem → Prop} (C : Cx w G cX10_handedOn RX10 1 21 5) (Rt : ∀ (pc : Nat) (lv : List (Nat × Value)) (r0 : Int32) (M0 : Mem), decode cX10_handedOn pc = .ok (.ireturn, 1) → Q r0 M0 → V w G pc lv [.int r0] M0) (k_X10_has : Ct_X10_has w G.2.1) (a1 : Int32) (M : Mem) (h : bd_X10_handedOn Q (fun (x2 : Int32) (x3 : Int32) (M : Mem) => V w G 4 [(0, .ref (w.2.1 211)), (1, .int a1), (2, .int x2), (3, .int x3)] [] M) (fun (x2 : Int32) (x3 : Int32) (x4 : Int32) (M : Mem) => V w G 46 [(0, .ref (w.2.1 211)), (2, .int x2), (3, .int x3), (4, .int x4)] [] M) a1 M) : V w G 0 [(0, .ref (w.2.1 211)), (1, .int a1)] [] M := by
  unfold bd_X10_handedOn at h
  refine v_kc C (0) (by decide) dX10_handedOn_0 ?_
  refine v_istore_n C [(2, .int ((0 : Int32))), (0, .ref (w.2.1 211)), (1, .int a1)] rfl (by decide) dX10_handedOn_1 ?_
  refine v_kc C (0) (by decide) dX10_handedOn_2 ?_
  refine v_istore_n C [(3, .int ((0 : Int32))), (2, .int ((0 : Int32))), (0, .ref (w.2.1 211)), (1, .int a1)] rfl (by decide) dX10_handedOn_3 ?_
  exact V.sub [2, 3, 1, 0] rfl h
set_option maxRecDepth 4000 in
theorem wk_X10_handedOn_4 {w : Wx} {G : Gx} {Q : Int32 → Mem → Prop} (C : Cx w G cX10_handedOn RX10 1 21 5) (Rt : ∀ (pc : Nat) (lv : List (Nat × Value)) (r0 : Int32) (M0 : Mem), decode cX10_handedOn pc = .ok (.ireturn, 1) → Q r0 M0 → V w G pc lv [.int r0] M0) (k_X10_has : Ct_X10_has w G.2.1) (a1 : Int32) (x2 : Int32) (x3 : Int32) (M : Mem) (h : bd_X10_handedOn_4 Q (fun (x2 : Int32) (x3 : Int32) (M : Mem) => V w G 4 [(0, .ref (w.2.1 211)), (1, .int a1), (2, .int x2), (3, .int x3)] [] M) (fun (x2 : Int32) (x3 : Int32) (x4 : Int32) (M : Mem) => V w G 46 [(0, .ref (w.2.1 211)), (2, .int x2), (3, .int x3), (4, .int x4)] [] M) a1 x2 x3 M) : V w G 4 [(0, .ref (w.2.1 211)), (1, .int a1), (2, .int x2), (3, .int x3)] [] M := by
  unfold bd_X10_handedOn_4 at h
  refine v_iload_n C 3 rfl dX10_handedOn_4 ?_
  refine v_aload_n C 0 rfl dX10_handedOn_5 ?_
  refine g9_2 C kb211 kd211 fl_X10_85 dX10_handedOn_6 ?_
  refine v_icmp_ge C 41 (by decide) dX10_handedOn_9 (fun hc => ?_) (fun hc => ?_)
  · have h := h.1 hc
    refine v_kc C (0) (by decide) dX10_handedOn_41 ?_
    refine v_istore_n C [(3, .int ((0 : Int32))), (0, .ref (w.2.1 211)), (1, .int a1), (2, .int x2)] rfl (by decide) dX10_handedOn_42 ?_
    refine v_kc C (0) (by decide) dX10_handedOn_43 ?_
    refine v_istore C [(4, .int ((0 : Int32))), (3, .int ((0 : Int32))), (0, .ref (w.2.1 211)), (1, .int a1), (2, .int x2)] rfl (by decide) dX10_handedOn_44 ?_
    exact V.sub [2, 4, 1, 0] rfl h
  · have h := h.2 hc
    refine v_iload_n C 2 rfl dX10_handedOn_12 ?_
    refine v_iload_n C 1 rfl dX10_handedOn_13 ?_
    refine v_iload_n C 3 rfl dX10_handedOn_14 ?_
    refine v_callSI C [.int x2] (k_X10_has a1 x3 M _ h) yX10_has_k ml_X10_162 rfl rfl (Nat.le_of_ble_eq_true rfl) ⟨by decide, by decide⟩ dX10_handedOn_15 (fun r1 M1 h => ?_)
    obtain ⟨ca2, cb2, h⟩ := h
    have key2 : V w G 33 [(0, .ref (w.2.1 211)), (1, .int a1), (2, .int x2), (3, .int x3)] (.int (if r1 = 0 then (0 : Int32) else ((1 : Int32)) <<< ((M1 214 x3.toNatClampNeg) &&& 31)) :: .int x2 :: []) M1 := by
      refine v_ior C dX10_handedOn_33 ?_
      refine v_istore_n C [(2, .int (x2 ||| (if r1 = 0 then (0 : Int32) else ((1 : Int32)) <<< ((M1 214 x3.toNatClampNeg) &&& 31)))), (0, .ref (w.2.1 211)), (1, .int a1), (3, .int x3)] rfl (by decide) dX10_handedOn_34 ?_
      refine v_iinc C (j := 3) [(3, .int (x3 + 1)), (2, .int (x2 ||| (if r1 = 0 then (0 : Int32) else ((1 : Int32)) <<< ((M1 214 x3.toNatClampNeg) &&& 31)))), (0, .ref (w.2.1 211)), (1, .int a1)] rfl (x3 + 1) rfl rfl (by decide) dX10_handedOn_35 ?_
      refine v_goto C 4 (by decide) dX10_handedOn_38 ?_
      exact V.sub [2, 3, 1, 0] rfl h
    refine v_if_eq C 32 (by decide) dX10_handedOn_18 (fun hc => ?_) (fun hc => ?_)
    · rw [show (if r1 = 0 then (0 : Int32) else ((1 : Int32)) <<< ((M1 214 x3.toNatClampNeg) &&& 31) : Int32) = (0 : Int32) from if_pos hc] at key2
      refine v_kc C (0) (by decide) dX10_handedOn_32 ?_
      exact key2
    · rw [show (if r1 = 0 then (0 : Int32) else ((1 : Int32)) <<< ((M1 214 x3.toNatClampNeg) &&& 31) : Int32) = ((1 : Int32)) <<< ((M1 214 x3.toNatClampNeg) &&& 31) from if_neg hc] at key2
      obtain ⟨q0, -⟩ := cb2 hc
      refine v_kc C (1) (by decide) dX10_handedOn_21 ?_
      refine v_aload_n C 0 rfl dX10_handedOn_22 ?_
      refine g9_5 C kb211 kd211 fl_X10_16 dX10_handedOn_23 ?_
      refine v_iload_n C 3 rfl dX10_handedOn_26 ?_
      refine v_iald C kb214 kd214 ln214 q0 dX10_handedOn_27 ?_
      refine v_ishl C dX10_handedOn_28 ?_
      refine v_goto C 33 (by decide) dX10_handedOn_29 ?_
      exact key2
set_option maxRecDepth 4000 in
theorem wk_X10_handedOn_46 {w : Wx} {G : Gx} {Q : Int32 → Mem → Prop} (C : Cx w G cX10_handedOn RX10 1 21 5) (Rt : ∀ (pc : Nat) (lv : List (Nat × Value)) (r0 : Int32) (M0 : Mem), decode cX10_handedOn pc = .ok (.ireturn, 1) → Q r0 M0 → V w G pc lv [.int r0] M0) (k_X10_has : Ct_X10_has w G.2.1) (a1 : Int32) (x2 : Int32) (x3 : Int32) (x4 : Int32) (M : Mem) (h : bd_X10_handedOn_46 Q (fun (x2 : Int32) (x3 : Int32) (M : Mem) => V w G 4 [(0, .ref (w.2.1 211)), (1, .int a1), (2, .int x2), (3, .int x3)] [] M) (fun (x2 : Int32) (x3 : Int32) (x4 : Int32) (M : Mem) => V w G 46 [(0, .ref (w.2.1 211)), (2, .int x2), (3, .int x3), (4, .int x4)] [] M) a1 x2 x3 x4 M) : V w G 46 [(0, .ref (w.2.1 211)), (2, .int x2), (3, .int x3), (4, .int x4)] [] M := by
  unfold bd_X10_handedOn_46 at h
  refine v_iload C 3 rfl dX10_handedOn_46 ?_
  refine v_aload_n C 0 rfl dX10_handedOn_48 ?_
  refine g9_2 C kb211 kd211 fl_X10_85 dX10_handedOn_49 ?_
  refine v_icmp_ge C 86 (by decide) dX10_handedOn_52 (fun hc => ?_) (fun hc => ?_)
  · have h := h.1 hc
    refine v_iload_n C 2 rfl dX10_handedOn_86 ?_
    exact Rt _ _ _ _ dX10_handedOn_87 h
  · have h := h.2 hc
    refine v_iload_n C 2 rfl dX10_handedOn_55 ?_
    refine v_iload_n C 1 rfl dX10_handedOn_56 ?_
    refine v_aload_n C 0 rfl dX10_handedOn_57 ?_
    refine g9_5 C kb211 kd211 fl_X10_16 dX10_handedOn_58 ?_
    refine v_iload C 3 rfl dX10_handedOn_61 ?_
    obtain ⟨s1, h⟩ := h
    refine v_iald C kb214 kd214 ln214 s1 dX10_handedOn_63 ?_
    refine v_callSI C [.int x3] (k_X10_has x2 (M 214 x4.toNatClampNeg) M _ h) yX10_has_k ml_X10_162 rfl rfl (Nat.le_of_ble_eq_true rfl) ⟨by decide, by decide⟩ dX10_handedOn_64 (fun r2 M2 h => ?_)
    have key3 : V w G 78 [(0, .ref (w.2.1 211)), (2, .int x2), (3, .int x3), (4, .int x4)] (.int (if r2 = 0 then (0 : Int32) else ((1 : Int32)) <<< (x4 &&& 31)) :: .int x3 :: []) M2 := by
      refine v_ior C dX10_handedOn_78 ?_
      refine v_istore_n C [(3, .int (x3 ||| (if r2 = 0 then (0 : Int32) else ((1 : Int32)) <<< (x4 &&& 31)))), (0, .ref (w.2.1 211)), (2, .int x2), (4, .int x4)] rfl (by decide) dX10_handedOn_79 ?_
      refine v_iinc C (j := 3) [(4, .int (x4 + 1)), (3, .int (x3 ||| (if r2 = 0 then (0 : Int32) else ((1 : Int32)) <<< (x4 &&& 31)))), (0, .ref (w.2.1 211)), (2, .int x2)] rfl (x4 + 1) rfl rfl (by decide) dX10_handedOn_80 ?_
      refine v_goto C 46 (by decide) dX10_handedOn_83 ?_
      exact V.sub [2, 3, 1, 0] rfl h
    refine v_if_eq C 77 (by decide) dX10_handedOn_67 (fun hc => ?_) (fun hc => ?_)
    · rw [show (if r2 = 0 then (0 : Int32) else ((1 : Int32)) <<< (x4 &&& 31) : Int32) = (0 : Int32) from if_pos hc] at key3
      refine v_kc C (0) (by decide) dX10_handedOn_77 ?_
      exact key3
    · rw [show (if r2 = 0 then (0 : Int32) else ((1 : Int32)) <<< (x4 &&& 31) : Int32) = ((1 : Int32)) <<< (x4 &&& 31) from if_neg hc] at key3
      refine v_kc C (1) (by decide) dX10_handedOn_70 ?_
      refine v_iload C 3 rfl dX10_handedOn_71 ?_
      refine v_ishl C dX10_handedOn_73 ?_
      refine v_goto C 78 (by decide) dX10_handedOn_74 ?_
      exact key3
theorem mt_X10_handedOn {w : Wx} {l : Launch} (k_X10_has : Ct_X10_has w l) : Ct_X10_handedOn w l := by
  intro a1 M Q h
  refine met_i (by decide +kernel) (Nat.le_of_ble_eq_true rfl) (fun G C hG Rt => ?_)
  subst hG
  exact wk_X10_handedOn C Rt k_X10_has a1 M (h _ _ (fun x2 x3 M h => wk_X10_handedOn_4 C Rt k_X10_has a1 x2 x3 M h) (fun x2 x3 x4 M h => wk_X10_handedOn_46 C Rt k_X10_has a1 x2 x3 x4 M h))
theorem ct_X10_handedOn (w : Wx) (l : Launch) : Ct_X10_handedOn w l := mt_X10_handedOn (ct_X10_has w l)
