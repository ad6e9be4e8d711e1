set_option maxRecDepth 4000 in
theorem wk_X10_takeClause {w : Wx} {G : Gx} {Q : Int32 → Mem → Prop} (C : Cx w G cX10_takeClause RX10 4 97 5) (Rt : ∀ (pc : Nat) (lv : List (Nat × Value)) (r0 : Int32) (M0 : Mem), decode cX10_takeClause pc = .ok (.ireturn, 1) → Q r0 M0 → V w G pc lv [.int r0] M0) (k_X10_here : Ct_X10_here w G.2.1) (k_X10_fails : Ct_X10_fails w G.2.1) (k_X10_takeFollows : Ct_X10_takeFollows w G.2.1) (k_X10_takeCar : Ct_X10_takeCar w G.2.1) (k_X10_takeTown : Ct_X10_takeTown w G.2.1) (M : Mem) (h : bd_X10_takeClause Q (fun (t0 : Int32) (M : Mem) => V w G 36 [(0, .ref (w.2.1 211))] [.int t0] M) (fun (x2 : Int32) (M : Mem) => V w G 64 [(0, .ref (w.2.1 211)), (2, .int x2)] [] M) (fun (x2 : Int32) (t0 : Int32) (M : Mem) => V w G 104 [(0, .ref (w.2.1 211)), (2, .int x2)] [.int t0] M) (fun (x2 : Int32) (M : Mem) => V w G 119 [(0, .ref (w.2.1 211)), (2, .int x2)] [] M) (fun (t0 : Int32) (M : Mem) => V w G 156 [(0, .ref (w.2.1 211))] [.int t0] M) M) : V w G 0 [(0, .ref (w.2.1 211))] [] M := by
  unfold bd_X10_takeClause at h
  refine v_aload_n C 0 rfl dX10_takeClause_0 ?_
  refine v_callI C [] (k_X10_here M _ h) yX10_here_k ml_X10_102 (rcv9 kb211 kd211) rfl rfl (Nat.le_of_ble_eq_true rfl) ⟨by decide, by decide⟩ dX10_takeClause_1 (fun r1 M1 h => ?_)
  refine v_istore_n C [(1, .int r1), (0, .ref (w.2.1 211))] rfl (by decide) dX10_takeClause_4 ?_
  refine v_iload_n C 0 rfl dX10_takeClause_5 ?_
  refine v_kb C (116) (by decide) dX10_takeClause_6 ?_
  refine v_icmp_ne C 15 (by decide) dX10_takeClause_8 (fun hc => ?_) (fun hc => ?_)
  · have h := h.2 hc
    refine v_iload_n C 0 rfl dX10_takeClause_15 ?_
    refine v_kb C (99) (by decide) dX10_takeClause_16 ?_
    refine v_icmp_ne C 25 (by decide) dX10_takeClause_18 (fun hc => ?_) (fun hc => ?_)
    · have h := h.2 hc
      refine v_iload_n C 0 rfl dX10_takeClause_25 ?_
      refine v_kb C (102) (by decide) dX10_takeClause_26 ?_
      refine v_icmp_ne C 35 (by decide) dX10_takeClause_28 (fun hc => ?_) (fun hc => ?_)
      · have h := h.2 hc
        refine v_kc C (-1) (by decide) dX10_takeClause_35 ?_
        exact V.sub [1] rfl h
      · have h := h.1 hc
        refine v_kc C (2) (by decide) dX10_takeClause_31 ?_
        refine v_goto C 36 (by decide) dX10_takeClause_32 ?_
        exact V.sub [1] rfl h
    · have h := h.1 hc
      refine v_kc C (1) (by decide) dX10_takeClause_21 ?_
      refine v_goto C 36 (by decide) dX10_takeClause_22 ?_
      exact V.sub [1] rfl h
  · have h := h.1 hc
    refine v_kc C (0) (by decide) dX10_takeClause_11 ?_
    refine v_goto C 36 (by decide) dX10_takeClause_12 ?_
    exact V.sub [1] rfl h
set_option maxRecDepth 4000 in
theorem wk_X10_takeClause_36 {w : Wx} {G : Gx} {Q : Int32 → Mem → Prop} (C : Cx w G cX10_takeClause RX10 4 97 5) (Rt : ∀ (pc : Nat) (lv : List (Nat × Value)) (r0 : Int32) (M0 : Mem), decode cX10_takeClause pc = .ok (.ireturn, 1) → Q r0 M0 → V w G pc lv [.int r0] M0) (k_X10_here : Ct_X10_here w G.2.1) (k_X10_fails : Ct_X10_fails w G.2.1) (k_X10_takeFollows : Ct_X10_takeFollows w G.2.1) (k_X10_takeCar : Ct_X10_takeCar w G.2.1) (k_X10_takeTown : Ct_X10_takeTown w G.2.1) (t0 : Int32) (M : Mem) (h : bd_X10_takeClause_36 Q (fun (t0 : Int32) (M : Mem) => V w G 36 [(0, .ref (w.2.1 211))] [.int t0] M) (fun (x2 : Int32) (M : Mem) => V w G 64 [(0, .ref (w.2.1 211)), (2, .int x2)] [] M) (fun (x2 : Int32) (t0 : Int32) (M : Mem) => V w G 104 [(0, .ref (w.2.1 211)), (2, .int x2)] [.int t0] M) (fun (x2 : Int32) (M : Mem) => V w G 119 [(0, .ref (w.2.1 211)), (2, .int x2)] [] M) (fun (t0 : Int32) (M : Mem) => V w G 156 [(0, .ref (w.2.1 211))] [.int t0] M) t0 M) : V w G 36 [(0, .ref (w.2.1 211))] [.int t0] M := by
  unfold bd_X10_takeClause_36 at h
  refine v_istore_n C [(2, .int t0), (0, .ref (w.2.1 211))] rfl (by decide) dX10_takeClause_36 ?_
  refine v_iload_n C 0 rfl dX10_takeClause_37 ?_
  refine v_if_lt C 54 (by decide) dX10_takeClause_38 (fun hc => ?_) (fun hc => ?_)
  · have h := h.1 hc
    refine v_aload_n C 1 rfl dX10_takeClause_54 ?_
    refine v_kc C (1) (by decide) dX10_takeClause_55 ?_
    refine v_aload_n C 1 rfl dX10_takeClause_56 ?_
    refine g9_10 C kb211 kd211 fl_X10_99 dX10_takeClause_57 ?_
    refine v_callI C [] (k_X10_fails ((1 : Int32)) (M 211 10) M _ h) yX10_fails_k ml_X10_110 (rcv9 kb211 kd211) rfl rfl (Nat.le_of_ble_eq_true rfl) ⟨by decide, by decide⟩ dX10_takeClause_60 (fun r1 M1 h => ?_)
    exact Rt _ _ _ _ dX10_takeClause_63 h
  · have h := h.2 hc
    refine v_iload_n C 0 rfl dX10_takeClause_41 ?_
    refine v_if_le C 64 (by decide) dX10_takeClause_42 (fun hc => ?_) (fun hc => ?_)
    · have h := h.1 hc
      exact V.sub [1, 0] rfl h
    · have h := h.2 hc
      refine v_aload_n C 1 rfl dX10_takeClause_45 ?_
      refine g9_13 C kb211 kd211 fl_X10_26 dX10_takeClause_46 ?_
      refine v_kc C (0) (by decide) dX10_takeClause_49 ?_
      obtain ⟨s2, h⟩ := h
      refine v_iald C kb216 kd216 ln216 s2 dX10_takeClause_50 ?_
      refine v_if_ne C 64 (by decide) dX10_takeClause_51 (fun hc => ?_) (fun hc => ?_)
      · have h := h.2 hc
        exact V.sub [1, 0] rfl h
      · have h := h.1 hc
        refine v_aload_n C 1 rfl dX10_takeClause_54 ?_
        refine v_kc C (1) (by decide) dX10_takeClause_55 ?_
        refine v_aload_n C 1 rfl dX10_takeClause_56 ?_
        refine g9_10 C kb211 kd211 fl_X10_99 dX10_takeClause_57 ?_
        refine v_callI C [] (k_X10_fails ((1 : Int32)) (M 211 10) M _ h) yX10_fails_k ml_X10_110 (rcv9 kb211 kd211) rfl rfl (Nat.le_of_ble_eq_true rfl) ⟨by decide, by decide⟩ dX10_takeClause_60 (fun r3 M3 h => ?_)
        exact Rt _ _ _ _ dX10_takeClause_63 h
set_option maxRecDepth 4000 in
theorem wk_X10_takeClause_64 {w : Wx} {G : Gx} {Q : Int32 → Mem → Prop} (C : Cx w G cX10_takeClause RX10 4 97 5) (Rt : ∀ (pc : Nat) (lv : List (Nat × Value)) (r0 : Int32) (M0 : Mem), decode cX10_takeClause pc = .ok (.ireturn, 1) → Q r0 M0 → V w G pc lv [.int r0] M0) (k_X10_here : Ct_X10_here w G.2.1) (k_X10_fails : Ct_X10_fails w G.2.1) (k_X10_takeFollows : Ct_X10_takeFollows w G.2.1) (k_X10_takeCar : Ct_X10_takeCar w G.2.1) (k_X10_takeTown : Ct_X10_takeTown w G.2.1) (x2 : Int32) (M : Mem) (h : bd_X10_takeClause_64 Q (fun (t0 : Int32) (M : Mem) => V w G 36 [(0, .ref (w.2.1 211))] [.int t0] M) (fun (x2 : Int32) (M : Mem) => V w G 64 [(0, .ref (w.2.1 211)), (2, .int x2)] [] M) (fun (x2 : Int32) (t0 : Int32) (M : Mem) => V w G 104 [(0, .ref (w.2.1 211)), (2, .int x2)] [.int t0] M) (fun (x2 : Int32) (M : Mem) => V w G 119 [(0, .ref (w.2.1 211)), (2, .int x2)] [] M) (fun (t0 : Int32) (M : Mem) => V w G 156 [(0, .ref (w.2.1 211))] [.int t0] M) x2 M) : V w G 64 [(0, .ref (w.2.1 211)), (2, .int x2)] [] M := by
  unfold bd_X10_takeClause_64 at h
  refine v_iload_n C 1 rfl dX10_takeClause_64 ?_
  refine v_if_ne C 85 (by decide) dX10_takeClause_65 (fun hc => ?_) (fun hc => ?_)
  · have h := h.2 hc
    refine v_iload_n C 1 rfl dX10_takeClause_85 ?_
    refine v_kc C (1) (by decide) dX10_takeClause_86 ?_
    refine v_icmp_ne C 103 (by decide) dX10_takeClause_87 (fun hc => ?_) (fun hc => ?_)
    · have h := h.2 hc
      refine v_kc C (0) (by decide) dX10_takeClause_103 ?_
      exact V.sub [0, 1] rfl h
    · have h := h.1 hc
      refine v_aload_n C 0 rfl dX10_takeClause_90 ?_
      refine g9_14 C kb211 kd211 fl_X10_128 dX10_takeClause_91 ?_
      refine v_kb C (8) (by decide) dX10_takeClause_94 ?_
      refine v_icmp_ne C 103 (by decide) dX10_takeClause_96 (fun hc => ?_) (fun hc => ?_)
      · have h := h.2 hc
        refine v_kc C (0) (by decide) dX10_takeClause_103 ?_
        exact V.sub [0, 1] rfl h
      · have h := h.1 hc
        refine v_kc C (1) (by decide) dX10_takeClause_99 ?_
        refine v_goto C 104 (by decide) dX10_takeClause_100 ?_
        exact V.sub [0, 1] rfl h
  · have h := h.1 hc
    refine v_aload_n C 0 rfl dX10_takeClause_68 ?_
    refine g9_13 C kb211 kd211 fl_X10_26 dX10_takeClause_69 ?_
    refine v_kc C (0) (by decide) dX10_takeClause_72 ?_
    obtain ⟨s1, h⟩ := h
    refine v_iald C kb216 kd216 ln216 s1 dX10_takeClause_73 ?_
    refine v_if_le C 81 (by decide) dX10_takeClause_74 (fun hc => ?_) (fun hc => ?_)
    · have h := h.1 hc
      refine v_kc C (0) (by decide) dX10_takeClause_81 ?_
      refine v_goto C 104 (by decide) dX10_takeClause_82 ?_
      exact V.sub [0, 1] rfl h
    · have h := h.2 hc
      refine v_kc C (1) (by decide) dX10_takeClause_77 ?_
      refine v_goto C 104 (by decide) dX10_takeClause_78 ?_
      exact V.sub [0, 1] rfl h
set_option maxRecDepth 4000 in
theorem wk_X10_takeClause_104 {w : Wx} {G : Gx} {Q : Int32 → Mem → Prop} (C : Cx w G cX10_takeClause RX10 4 97 5) (Rt : ∀ (pc : Nat) (lv : List (Nat × Value)) (r0 : Int32) (M0 : Mem), decode cX10_takeClause pc = .ok (.ireturn, 1) → Q r0 M0 → V w G pc lv [.int r0] M0) (k_X10_here : Ct_X10_here w G.2.1) (k_X10_fails : Ct_X10_fails w G.2.1) (k_X10_takeFollows : Ct_X10_takeFollows w G.2.1) (k_X10_takeCar : Ct_X10_takeCar w G.2.1) (k_X10_takeTown : Ct_X10_takeTown w G.2.1) (x2 : Int32) (t0 : Int32) (M : Mem) (h : bd_X10_takeClause_104 Q (fun (t0 : Int32) (M : Mem) => V w G 36 [(0, .ref (w.2.1 211))] [.int t0] M) (fun (x2 : Int32) (M : Mem) => V w G 64 [(0, .ref (w.2.1 211)), (2, .int x2)] [] M) (fun (x2 : Int32) (t0 : Int32) (M : Mem) => V w G 104 [(0, .ref (w.2.1 211)), (2, .int x2)] [.int t0] M) (fun (x2 : Int32) (M : Mem) => V w G 119 [(0, .ref (w.2.1 211)), (2, .int x2)] [] M) (fun (t0 : Int32) (M : Mem) => V w G 156 [(0, .ref (w.2.1 211))] [.int t0] M) x2 t0 M) : V w G 104 [(0, .ref (w.2.1 211)), (2, .int x2)] [.int t0] M := by
  unfold bd_X10_takeClause_104 at h
  refine v_istore_n C [(3, .int t0), (0, .ref (w.2.1 211)), (2, .int x2)] rfl (by decide) dX10_takeClause_104 ?_
  refine v_iload_n C 0 rfl dX10_takeClause_105 ?_
  refine v_if_eq C 119 (by decide) dX10_takeClause_106 (fun hc => ?_) (fun hc => ?_)
  · have h := h.1 hc
    exact V.sub [1, 2] rfl h
  · have h := h.2 hc
    refine v_aload_n C 1 rfl dX10_takeClause_109 ?_
    refine v_kc C (3) (by decide) dX10_takeClause_110 ?_
    refine v_aload_n C 1 rfl dX10_takeClause_111 ?_
    refine g9_10 C kb211 kd211 fl_X10_99 dX10_takeClause_112 ?_
    refine v_callI C [] (k_X10_fails ((3 : Int32)) (M 211 10) M _ h) yX10_fails_k ml_X10_110 (rcv9 kb211 kd211) rfl rfl (Nat.le_of_ble_eq_true rfl) ⟨by decide, by decide⟩ dX10_takeClause_115 (fun r1 M1 h => ?_)
    exact Rt _ _ _ _ dX10_takeClause_118 h
set_option maxRecDepth 4000 in
theorem wk_X10_takeClause_119 {w : Wx} {G : Gx} {Q : Int32 → Mem → Prop} (C : Cx w G cX10_takeClause RX10 4 97 5) (Rt : ∀ (pc : Nat) (lv : List (Nat × Value)) (r0 : Int32) (M0 : Mem), decode cX10_takeClause pc = .ok (.ireturn, 1) → Q r0 M0 → V w G pc lv [.int r0] M0) (k_X10_here : Ct_X10_here w G.2.1) (k_X10_fails : Ct_X10_fails w G.2.1) (k_X10_takeFollows : Ct_X10_takeFollows w G.2.1) (k_X10_takeCar : Ct_X10_takeCar w G.2.1) (k_X10_takeTown : Ct_X10_takeTown w G.2.1) (x2 : Int32) (M : Mem) (h : bd_X10_takeClause_119 Q (fun (t0 : Int32) (M : Mem) => V w G 36 [(0, .ref (w.2.1 211))] [.int t0] M) (fun (x2 : Int32) (M : Mem) => V w G 64 [(0, .ref (w.2.1 211)), (2, .int x2)] [] M) (fun (x2 : Int32) (t0 : Int32) (M : Mem) => V w G 104 [(0, .ref (w.2.1 211)), (2, .int x2)] [.int t0] M) (fun (x2 : Int32) (M : Mem) => V w G 119 [(0, .ref (w.2.1 211)), (2, .int x2)] [] M) (fun (t0 : Int32) (M : Mem) => V w G 156 [(0, .ref (w.2.1 211))] [.int t0] M) x2 M) : V w G 119 [(0, .ref (w.2.1 211)), (2, .int x2)] [] M := by
  unfold bd_X10_takeClause_119 at h
  refine v_aload_n C 0 rfl dX10_takeClause_119 ?_
  refine v_dup C rfl dX10_takeClause_120 ?_
  refine g9_10 C kb211 kd211 fl_X10_99 dX10_takeClause_121 ?_
  refine v_kc C (1) (by decide) dX10_takeClause_124 ?_
  refine v_iadd C dX10_takeClause_125 ?_
  refine p9_10 C kb211 kd211 fl_X10_99 dX10_takeClause_126 (fun M1 e1 => ?_)
  have h := h M1 e1
  refine v_iload_n C 1 rfl dX10_takeClause_129 ?_
  refine v_if_ne C 140 (by decide) dX10_takeClause_130 (fun hc => ?_) (fun hc => ?_)
  · have h := h.2 hc
    refine v_iload_n C 1 rfl dX10_takeClause_140 ?_
    refine v_kc C (1) (by decide) dX10_takeClause_141 ?_
    refine v_icmp_ne C 152 (by decide) dX10_takeClause_142 (fun hc => ?_) (fun hc => ?_)
    · have h := h.2 hc
      refine v_aload_n C 0 rfl dX10_takeClause_152 ?_
      refine v_callI C [] (k_X10_takeFollows M1 _ h) yX10_takeFollows_k ml_X10_138 (rcv9 kb211 kd211) rfl rfl (Nat.le_of_ble_eq_true rfl) ⟨by decide, by decide⟩ dX10_takeClause_153 (fun r2 M2 h => ?_)
      exact V.sub [0] rfl h
    · have h := h.1 hc
      refine v_aload_n C 0 rfl dX10_takeClause_145 ?_
      refine v_callI C [] (k_X10_takeCar M1 _ h) yX10_takeCar_k ml_X10_135 (rcv9 kb211 kd211) rfl rfl (Nat.le_of_ble_eq_true rfl) ⟨by decide, by decide⟩ dX10_takeClause_146 (fun r3 M3 h => ?_)
      refine v_goto C 156 (by decide) dX10_takeClause_149 ?_
      exact V.sub [0] rfl h
  · have h := h.1 hc
    refine v_aload_n C 0 rfl dX10_takeClause_133 ?_
    refine v_callI C [] (k_X10_takeTown M1 _ h) yX10_takeTown_k ml_X10_132 (rcv9 kb211 kd211) rfl rfl (Nat.le_of_ble_eq_true rfl) ⟨by decide, by decide⟩ dX10_takeClause_134 (fun r4 M4 h => ?_)
    refine v_goto C 156 (by decide) dX10_takeClause_137 ?_
    exact V.sub [0] rfl h
set_option maxRecDepth 4000 in
theorem wk_X10_takeClause_156 {w : Wx} {G : Gx} {Q : Int32 → Mem → Prop} (C : Cx w G cX10_takeClause RX10 4 97 5) (Rt : ∀ (pc : Nat) (lv : List (Nat × Value)) (r0 : Int32) (M0 : Mem), decode cX10_takeClause pc = .ok (.ireturn, 1) → Q r0 M0 → V w G pc lv [.int r0] M0) (k_X10_here : Ct_X10_here w G.2.1) (k_X10_fails : Ct_X10_fails w G.2.1) (k_X10_takeFollows : Ct_X10_takeFollows w G.2.1) (k_X10_takeCar : Ct_X10_takeCar w G.2.1) (k_X10_takeTown : Ct_X10_takeTown w G.2.1) (t0 : Int32) (M : Mem) (h : bd_X10_takeClause_156 Q (fun (t0 : Int32) (M : Mem) => V w G 36 [(0, .ref (w.2.1 211))] [.int t0] M) (fun (x2 : Int32) (M : Mem) => V w G 64 [(0, .ref (w.2.1 211)), (2, .int x2)] [] M) (fun (x2 : Int32) (t0 : Int32) (M : Mem) => V w G 104 [(0, .ref (w.2.1 211)), (2, .int x2)] [.int t0] M) (fun (x2 : Int32) (M : Mem) => V w G 119 [(0, .ref (w.2.1 211)), (2, .int x2)] [] M) (fun (t0 : Int32) (M : Mem) => V w G 156 [(0, .ref (w.2.1 211))] [.int t0] M) t0 M) : V w G 156 [(0, .ref (w.2.1 211))] [.int t0] M := by
  unfold bd_X10_takeClause_156 at h
  refine v_istore C [(4, .int t0), (0, .ref (w.2.1 211))] rfl (by decide) dX10_takeClause_156 ?_
  refine v_iload C 0 rfl dX10_takeClause_158 ?_
  refine v_if_ne C 182 (by decide) dX10_takeClause_160 (fun hc => ?_) (fun hc => ?_)
  · have h := h.2 hc
    refine v_aload_n C 1 rfl dX10_takeClause_182 ?_
    refine v_dup C rfl dX10_takeClause_183 ?_
    refine g9_10 C kb211 kd211 fl_X10_99 dX10_takeClause_184 ?_
    refine v_kc C (1) (by decide) dX10_takeClause_187 ?_
    refine v_iadd C dX10_takeClause_188 ?_
    refine p9_10 C kb211 kd211 fl_X10_99 dX10_takeClause_189 (fun M1 e1 => ?_)
    have h := h M1 e1
    refine v_iload C 0 rfl dX10_takeClause_192 ?_
    exact Rt _ _ _ _ dX10_takeClause_194 h
  · have h := h.1 hc
    refine v_aload_n C 1 rfl dX10_takeClause_163 ?_
    refine v_callI C [] (k_X10_here M _ h) yX10_here_k ml_X10_102 (rcv9 kb211 kd211) rfl rfl (Nat.le_of_ble_eq_true rfl) ⟨by decide, by decide⟩ dX10_takeClause_164 (fun r2 M2 h => ?_)
    refine v_kb C (59) (by decide) dX10_takeClause_167 ?_
    refine v_icmp_eq C 182 (by decide) dX10_takeClause_169 (fun hc => ?_) (fun hc => ?_)
    · have h := h.1 hc
      refine v_aload_n C 1 rfl dX10_takeClause_182 ?_
      refine v_dup C rfl dX10_takeClause_183 ?_
      refine g9_10 C kb211 kd211 fl_X10_99 dX10_takeClause_184 ?_
      refine v_kc C (1) (by decide) dX10_takeClause_187 ?_
      refine v_iadd C dX10_takeClause_188 ?_
      refine p9_10 C kb211 kd211 fl_X10_99 dX10_takeClause_189 (fun M3 e3 => ?_)
      have h := h M3 e3
      refine v_iload C 0 rfl dX10_takeClause_192 ?_
      exact Rt _ _ _ _ dX10_takeClause_194 h
    · have h := h.2 hc
      refine v_aload_n C 1 rfl dX10_takeClause_172 ?_
      refine v_kc C (1) (by decide) dX10_takeClause_173 ?_
      refine v_aload_n C 1 rfl dX10_takeClause_174 ?_
      refine g9_10 C kb211 kd211 fl_X10_99 dX10_takeClause_175 ?_
      refine v_callI C [] (k_X10_fails ((1 : Int32)) (M2 211 10) M2 _ h) yX10_fails_k ml_X10_110 (rcv9 kb211 kd211) rfl rfl (Nat.le_of_ble_eq_true rfl) ⟨by decide, by decide⟩ dX10_takeClause_178 (fun r4 M4 h => ?_)
      exact Rt _ _ _ _ dX10_takeClause_181 h
theorem mt_X10_takeClause {w : Wx} {l : Launch} (k_X10_here : Ct_X10_here w l) (k_X10_fails : Ct_X10_fails w l) (k_X10_takeFollows : Ct_X10_takeFollows w l) (k_X10_takeCar : Ct_X10_takeCar w l) (k_X10_takeTown : Ct_X10_takeTown w l) : Ct_X10_takeClause w l := by
  intro M Q h
  refine met_i (by decide +kernel) (Nat.le_of_ble_eq_true rfl) (fun G C hG Rt => ?_)
  subst hG
  exact wk_X10_takeClause C Rt k_X10_here k_X10_fails k_X10_takeFollows k_X10_takeCar k_X10_takeTown M (h _ _ _ _ _ (fun t0 M h => wk_X10_takeClause_36 C Rt k_X10_here k_X10_fails k_X10_takeFollows k_X10_takeCar k_X10_takeTown t0 M h) (fun x2 M h => wk_X10_takeClause_64 C Rt k_X10_here k_X10_fails k_X10_takeFollows k_X10_takeCar k_X10_takeTown x2 M h) (fun x2 t0 M h => wk_X10_takeClause_104 C Rt k_X10_here k_X10_fails k_X10_takeFollows k_X10_takeCar k_X10_takeTown x2 t0 M h) (fun x2 M h => wk_X10_takeClause_119 C Rt k_X10_here k_X10_fails k_X10_takeFollows k_X10_takeCar k_X10_takeTown x2 M h) (fun t0 M h => wk_X10_takeClause_156 C Rt k_X10_here k_X10_fails k_X10_takeFollows k_X10_takeCar k_X10_takeTown t0 M h))
theorem ct_X10_takeClause (w : Wx) (l : Launch) : Ct_X10_takeClause w l := mt_X10_takeClause (ct_X10_here w l) (ct_X10_fails w l) (ct_X10_takeFollows w l) (ct_X10_takeCar w l) (ct_X10_takeTown w l)
set_option maxRecDepth 4000 in
theorem wk_X10_town {w : Wx} {G : Gx} {Q : Int32 → Mem → Prop} (C : Cx w G cX10_town RX10 5 121 2) (Rt : ∀ (pc : Nat) (lv : List (Nat × Value)) (r0 : Int32) (M0 : Mem), decode cX10_town pc = .ok (.ireturn, 1) → Q r0 M0 → V w G pc lv [.int r0] M0) (k_X10_takeRead : Ct_X10_takeRead w G.2.1) (k_X10_here : Ct_X10_here w G.2.1) (k_X10_takeClause : Ct_X10_takeClause w G.2.1) (M : Mem) (h : bd_X10_town Q (fun (x1 : Int32) (M : Mem) => V w G 31 [(0, .ref (w.2.1 211)), (1, .int x1)] [] M) M) : V w G 0 [(0, .ref (w.2.1 211))] [] M := by
  unfold bd_X10_town at h
  refine v_aload_n C 0 rfl dX10_town_0 ?_
  refine v_kc C (-1) (by decide) dX10_town_1 ?_
  refine p9_9 C kb211 kd211 fl_X10_22 dX10_town_2 (fun M1 e1 => ?_)
  have h := h M1 e1
  refine v_aload_n C 0 rfl dX10_town_5 ?_
  refine v_kc C (0) (by decide) dX10_town_6 ?_
  refine p9_10 C kb211 kd211 fl_X10_99 dX10_town_7 (fun M2 e2 => ?_)
  have h := h M2 e2
  refine v_aload_n C 0 rfl dX10_town_10 ?_
  refine g9_13 C kb211 kd211 fl_X10_26 dX10_town_11 ?_
  refine v_kc C (0) (by decide) dX10_town_14 ?_
  refine v_kc C (0) (by decide) dX10_town_15 ?_
  obtain ⟨s3, h⟩ := h
  refine v_iast C kb216 kd216 ln216 s3 dX10_town_16 (fun M4 e4 => ?_)
  have h := h M4 e4
  refine v_aload_n C 0 rfl dX10_town_17 ?_
  refine g9_13 C kb211 kd211 fl_X10_26 dX10_town_18 ?_
  refine v_kc C (1) (by decide) dX10_town_21 ?_
  refine v_kc C (0) (by decide) dX10_town_22 ?_
  obtain ⟨s5, h⟩ := h
  refine v_iast C kb216 kd216 ln216 s5 dX10_town_23 (fun M6 e6 => ?_)
  have h := h M6 e6
  refine v_aload_n C 0 rfl dX10_town_24 ?_
  refine v_kc C (0) (by decide) dX10_town_25 ?_
  refine p9_14 C kb211 kd211 fl_X10_128 dX10_town_26 (fun M7 e7 => ?_)
  have h := h M7 e7
  refine v_kc C (0) (by decide) dX10_town_29 ?_
  refine v_istore_n C [(1, .int ((0 : Int32))), (0, .ref (w.2.1 211))] rfl (by decide) dX10_town_30 ?_
  exact V.sub [1, 0] rfl h
set_option maxRecDepth 4000 in
theorem wk_X10_town_31 {w : Wx} {G : Gx} {Q : Int32 → Mem → Prop} (C : Cx w G cX10_town RX10 5 121 2) (Rt : ∀ (pc : Nat) (lv : List (Nat × Value)) (r0 : Int32) (M0 : Mem), decode cX10_town pc = .ok (.ireturn, 1) → Q r0 M0 → V w G pc lv [.int r0] M0) (k_X10_takeRead : Ct_X10_takeRead w G.2.1) (k_X10_here : Ct_X10_here w G.2.1) (k_X10_takeClause : Ct_X10_takeClause w G.2.1) (x1 : Int32) (M : Mem) (h : bd_X10_town_31 Q (fun (x1 : Int32) (M : Mem) => V w G 31 [(0, .ref (w.2.1 211)), (1, .int x1)] [] M) x1 M) : V w G 31 [(0, .ref (w.2.1 211)), (1, .int x1)] [] M := by
  unfold bd_X10_town_31 at h
  refine v_iload_n C 1 rfl dX10_town_31 ?_
  refine v_if_ne C 50 (by decide) dX10_town_32 (fun hc => ?_) (fun hc => ?_)
  · have h := h.2 hc
    refine v_aload_n C 0 rfl dX10_town_50 ?_
    refine v_kc C (0) (by decide) dX10_town_51 ?_
    refine p9_8 C kb211 kd211 fl_X10_95 dX10_town_52 (fun M1 e1 => ?_)
    have h := h M1 e1
    refine v_iload_n C 1 rfl dX10_town_55 ?_
    refine v_if_le C 64 (by decide) dX10_town_56 (fun hc => ?_) (fun hc => ?_)
    · have h := h.1 hc
      refine v_aload_n C 0 rfl dX10_town_64 ?_
      refine v_callV C [] (k_X10_takeRead M1 _ h) yX10_takeRead_k ml_X10_147 (rcv9 kb211 kd211) rfl rfl (Nat.le_of_ble_eq_true rfl) ⟨by decide, by decide⟩ dX10_town_65 (fun M2 h => ?_)
      refine v_aload_n C 0 rfl dX10_town_68 ?_
      refine v_kc C (0) (by decide) dX10_town_69 ?_
      refine p9_23 C kb211 kd211 fl_X10_150 dX10_town_70 (fun M3 e3 => ?_)
      have h := h M3 e3
      refine v_aload_n C 0 rfl dX10_town_73 ?_
      refine v_kc C (0) (by decide) dX10_town_74 ?_
      refine p9_29 C kb211 kd211 fl_X10_153 dX10_town_75 (fun M4 e4 => ?_)
      have h := h M4 e4
      refine v_aload_n C 0 rfl dX10_town_78 ?_
      refine v_kc C (0) (by decide) dX10_town_79 ?_
      refine p9_20 C kb211 kd211 fl_X10_156 dX10_town_80 (fun M5 e5 => ?_)
      have h := h M5 e5
      refine v_aload_n C 0 rfl dX10_town_83 ?_
      refine g9_33 C kb211 kd211 fl_X10_74 dX10_town_84 ?_
      refine v_kc C (0) (by decide) dX10_town_87 ?_
      refine v_kc C (0) (by decide) dX10_town_88 ?_
      obtain ⟨s6, h⟩ := h
      refine v_zast C kb232 kd232 ln232 s6 dX10_town_89 (fun M7 e7 => ?_)
      have h := h M7 e7
      refine v_aload_n C 0 rfl dX10_town_90 ?_
      refine g9_33 C kb211 kd211 fl_X10_74 dX10_town_91 ?_
      refine v_kc C (1) (by decide) dX10_town_94 ?_
      refine v_kc C (0) (by decide) dX10_town_95 ?_
      obtain ⟨s8, h⟩ := h
      refine v_zast C kb232 kd232 ln232 s8 dX10_town_96 (fun M9 e9 => ?_)
      have h := h M9 e9
      refine v_aload_n C 0 rfl dX10_town_97 ?_
      refine g9_2 C kb211 kd211 fl_X10_85 dX10_town_98 ?_
      exact Rt _ _ _ _ dX10_town_101 h
    · have h := h.2 hc
      refine v_kb C (-10) (by decide) dX10_town_59 ?_
      refine v_iload_n C 1 rfl dX10_town_61 ?_
      refine v_isub C dX10_town_62 ?_
      exact Rt _ _ _ _ dX10_town_63 h
  · have h := h.1 hc
    refine v_aload_n C 0 rfl dX10_town_35 ?_
    refine v_callI C [] (k_X10_here M _ h) yX10_here_k ml_X10_102 (rcv9 kb211 kd211) rfl rfl (Nat.le_of_ble_eq_true rfl) ⟨by decide, by decide⟩ dX10_town_36 (fun r10 M10 h => ?_)
    refine v_if_lt C 50 (by decide) dX10_town_39 (fun hc => ?_) (fun hc => ?_)
    · have h := h.1 hc
      refine v_aload_n C 0 rfl dX10_town_50 ?_
      refine v_kc C (0) (by decide) dX10_town_51 ?_
      refine p9_8 C kb211 kd211 fl_X10_95 dX10_town_52 (fun M11 e11 => ?_)
      have h := h M11 e11
      refine v_iload_n C 1 rfl dX10_town_55 ?_
      refine v_if_le C 64 (by decide) dX10_town_56 (fun hc => ?_) (fun hc => ?_)
      · have h := h.1 hc
        refine v_aload_n C 0 rfl dX10_town_64 ?_
        refine v_callV C [] (k_X10_takeRead M11 _ h) yX10_takeRead_k ml_X10_147 (rcv9 kb211 kd211) rfl rfl (Nat.le_of_ble_eq_true rfl) ⟨by decide, by decide⟩ dX10_town_65 (fun M12 h => ?_)
        refine v_aload_n C 0 rfl dX10_town_68 ?_
        refine v_kc C (0) (by decide) dX10_town_69 ?_
        refine p9_23 C kb211 kd211 fl_X10_150 dX10_town_70 (fun M13 e13 => ?_)
        have h := h M13 e13
        refine v_aload_n C 0 rfl dX10_town_73 ?_
        refine v_kc C (0) (by decide) dX10_town_74 ?_
        refine p9_29 C kb211 kd211 fl_X10_153 dX10_town_75 (fun M14 e14 => ?_)
        have h := h M14 e14
        refine v_aload_n C 0 rfl dX10_town_78 ?_
        refine v_kc C (0) (by decide) dX10_town_79 ?_
        refine p9_20 C kb211 kd211 fl_X10_156 dX10_town_80 (fun M15 e15 => ?_)
        have h := h M15 e15
        refine v_aload_n C 0 rfl dX10_town_83 ?_
        refine g9_33 C kb211 kd211 fl_X10_74 dX10_town_84 ?_
        refine v_kc C (0) (by decide) dX10_town_87 ?_
        refine v_kc C (0) (by decide) dX10_town_88 ?_
        obtain ⟨s16, h⟩ := h
        refine v_zast C kb232 kd232 ln232 s16 dX10_town_89 (fun M17 e17 => ?_)
        have h := h M17 e17
        refine v_aload_n C 0 rfl dX10_town_90 ?_
        refine g9_33 C kb211 kd211 fl_X10_74 dX10_town_91 ?_
        refine v_kc C (1) (by decide) dX10_town_94 ?_
        refine v_kc C (0) (by decide) dX10_town_95 ?_
        obtain ⟨s18, h⟩ := h
        refine v_zast C kb232 kd232 ln232 s18 dX10_town_96 (fun M19 e19 => ?_)
        have h := h M19 e19
        refine v_aload_n C 0 rfl dX10_town_97 ?_
        refine g9_2 C kb211 kd211 fl_X10_85 dX10_town_98 ?_
        exact Rt _ _ _ _ dX10_town_101 h
      · have h := h.2 hc
        refine v_kb C (-10) (by decide) dX10_town_59 ?_
        refine v_iload_n C 1 rfl dX10_town_61 ?_
        refine v_isub C dX10_town_62 ?_
        exact Rt _ _ _ _ dX10_town_63 h
    · have h := h.2 hc
      refine v_aload_n C 0 rfl dX10_town_42 ?_
      refine v_callI C [] (k_X10_takeClause M10 _ h) yX10_takeClause_k ml_X10_144 (rcv9 kb211 kd211) rfl rfl (Nat.le_of_ble_eq_true rfl) ⟨by decide, by decide⟩ dX10_town_43 (fun r20 M20 h => ?_)
      refine v_istore_n C [(1, .int r20), (0, .ref (w.2.1 211))] rfl (by decide) dX10_town_46 ?_
      refine v_goto C 31 (by decide) dX10_town_47 ?_
      exact V.sub [1, 0] rfl h
theorem mt_X10_town {w : Wx} {l : Launch} (k_X10_takeRead : Ct_X10_takeRead w l) (k_X10_here : Ct_X10_here w l) (k_X10_takeClause : Ct_X10_takeClause w l) : Ct_X10_town w l := by
  intro M Q h
  refine met_i (by decide +kernel) (Nat.le_of_ble_eq_true rfl) (fun G C hG Rt => ?_)
  subst hG
  exact wk_X10_town C Rt k_X10_takeRead k_X10_here k_X10_takeClause M (h _ (fun x1 M h => wk_X10_town_31 C Rt k_X10_takeRead k_X10_here k_X10_takeClause x1 M h))
theorem ct_X10_town (w : Wx) (l : Launch) : Ct_X10_town w l := mt_X10_town (ct_X10_takeRead w l) (ct_X10_here w l) (ct_X10_takeClause w l)
set_option maxRecDepth 4000 in
theorem wk_X10_fault {w : Wx} {G : Gx} {Q : Int32 → Mem → Prop} (C : Cx w G cX10_fault RX10 0 0 1) (Rt : ∀ (pc : Nat) (lv : List (Nat × Value)) (r0 : Int32) (M0 : Mem), decode cX10_fault pc = .ok (.ireturn, 1) → Q r0 M0 → V w G pc lv [.int r0] M0) (M : Mem) (h : bd_X10_fault Q M) : V w G 0 [(0, .ref (w.2.1 211))] [] M := by
  unfold bd_X10_fault at h
  refine v_aload_n C 0 rfl dX10_fault_0 ?_
  refine g9_9 C kb211 kd211 fl_X10_22 dX10_fault_1 ?_
  exact Rt _ _ _ _ dX10_fault_4 h
theorem mt_X10_fault {w : Wx} {l : Launch} : Ct_X10_fault w l := by
  intro M Q h
  refine met_i (by decide +kernel) (Nat.le_of_ble_eq_true rfl) (fun G C hG Rt => ?_)
  subst hG
  exact wk_X10_fault C Rt M (h)
theorem ct_X10_fault (w : Wx) (l : Launch) : Ct_X10_fault w l := mt_X10_fault
set_option maxRecDepth 4000 in
theorem wk_X10_taken {w : Wx} {G : Gx} {Q : Int32 → Mem → Prop} (C : Cx w G cX10_taken RX10 0 0 3) (Rt : ∀ (pc : Nat) (lv : List (Nat × Value)) (r0 : Int32) (M0 : Mem), decode cX10_taken pc = .ok (.ireturn, 1) → Q r0 M0 → V w G pc lv [.int r0] M0) (M : Mem) (h : bd_X10_taken Q (fun (x1 : Int32) (x2 : Int32) (M : Mem) => V w G 4 [(0, .ref (w.2.1 211)), (1, .int x1), (2, .int x2)] [] M) M) : V w G 0 [(0, .ref (w.2.1 211))] [] M := by
  unfold bd_X10_taken at h
  refine v_kc C (0) (by decide) dX10_taken_0 ?_
  refine v_istore_n C [(1, .int ((0 : Int32))), (0, .ref (w.2.1 211))] rfl (by decide) dX10_taken_1 ?_
  refine v_kc C (0) (by decide) dX10_taken_2 ?_
  refine v_istore_n C [(2, .int ((0 : Int32))), (1, .int ((0 : Int32))), (0, .ref (w.2.1 211))] rfl (by decide) dX10_taken_3 ?_
  exact V.sub [2, 1, 0] rfl h
set_option maxRecDepth 4000 in
theorem wk_X10_taken_4 {w : Wx} {G : Gx} {Q : Int32 → Mem → Prop} (C : Cx w G cX10_taken RX10 0 0 3) (Rt : ∀ (pc : Nat) (lv : List (Nat × Value)) (r0 : Int32) (M0 : Mem), decode cX10_taken pc = .ok (.ireturn, 1) → Q r0 M0 → V w G pc lv [.int r0] M0) (x1 : Int32) (x2 : Int32) (M : Mem) (h : bd_X10_taken_4 Q (fun (x1 : Int32) (x2 : Int32) (M : Mem) => V w G 4 [(0, .ref (w.2.1 211)), (1, .int x1), (2, .int x2)] [] M) x1 x2 M) : V w G 4 [(0, .ref (w.2.1 211)), (1, .int x1), (2, .int x2)] [] M := by
  unfold bd_X10_taken_4 at h
  refine v_iload_n C 2 rfl dX10_taken_4 ?_
  refine v_aload_n C 0 rfl dX10_taken_5 ?_
  refine g9_2 C kb211 kd211 fl_X10_85 dX10_taken_6 ?_
  refine v_icmp_ge C 29 (by decide) dX10_taken_9 (fun hc => ?_) (fun hc => ?_)
  · have h := h.1 hc
    refine v_iload_n C 1 rfl dX10_taken_29 ?_
    exact Rt _ _ _ _ dX10_taken_30 h
  · have h := h.2 hc
    refine v_iload_n C 1 rfl dX10_taken_12 ?_
    refine v_kc C (1) (by decide) dX10_taken_13 ?_
    refine v_aload_n C 0 rfl dX10_taken_14 ?_
    refine g9_5 C kb211 kd211 fl_X10_16 dX10_taken_15 ?_
    refine v_iload_n C 2 rfl dX10_taken_18 ?_
    obtain ⟨s1, h⟩ := h
    refine v_iald C kb214 kd214 ln214 s1 dX10_taken_19 ?_
    refine v_ishl C dX10_taken_20 ?_
    refine v_ior C dX10_taken_21 ?_
    refine v_istore_n C [(1, .int (x1 ||| (((1 : Int32)) <<< ((M 214 x2.toNatClampNeg) &&& 31)))), (0, .ref (w.2.1 211)), (2, .int x2)] rfl (by decide) dX10_taken_22 ?_
    refine v_iinc C (j := 2) [(2, .int (x2 + 1)), (1, .int (x1 ||| (((1 : Int32)) <<< ((M 214 x2.toNatClampNeg) &&& 31)))), (0, .ref (w.2.1 211))] rfl (x2 + 1) rfl rfl (by decide) dX10_taken_23 ?_
    refine v_goto C 4 (by decide) dX10_taken_26 ?_
    exact V.sub [2, 1, 0] rfl h
theorem mt_X10_taken {w : Wx} {l : Launch} : Ct_X10_taken w l := by
  intro M Q h
  refine met_i (by decide +kernel) (Nat.le_of_ble_eq_true rfl) (fun G C hG Rt => ?_)
  subst hG
  exact wk_X10_taken C Rt M (h _ (fun x1 x2 M h => wk_X10_taken_4 C Rt x1 x2 M h))
theorem ct_X10_taken (w : Wx) (l : Launch) : Ct_X10_taken w l := mt_X10_taken
set_option maxRecDepth 4000 in
theorem wk_X10_followers {w : Wx} {G : Gx} {Q : Int32 → Mem → Prop} (C : Cx w G cX10_followers RX10 0 0 3) (Rt : ∀ (pc : Nat) (lv : List (Nat × Value)) (r0 : Int32) (M0 : Mem), decode cX10_followers pc = .ok (.ireturn, 1) → Q r0 M0 → V w G pc lv [.int r0] M0) (M : Mem) (h : bd_X10_followers Q (fun (x1 : Int32) (x2 : Int32) (M : Mem) => V w G 4 [(0, .ref (w.2.1 211)), (1, .int x1), (2, .int x2)] [] M) M) : V w G 0 [(0, .ref (w.2.1 211))] [] M := by
  unfold bd_X10_followers at h
  refine v_kc C (0) (by decide) dX10_followers_0 ?_
  refine v_istore_n C [(1, .int ((0 : Int32))), (0, .ref (w.2.1 211))] rfl (by decide) dX10_followers_1 ?_
  refine v_kc C (0) (by decide) dX10_followers_2 ?_
  refine v_istore_n C [(2, .int ((0 : Int32))), (1, .int ((0 : Int32))), (0, .ref (w.2.1 211))] rfl (by decide) dX10_followers_3 ?_
  exact V.sub [2, 1, 0] rfl h
set_option maxRecDepth 4000 in
theorem wk_X10_followers_4 {w : Wx} {G : Gx} {Q : Int32 → Mem → Prop} (C : Cx w G cX10_followers RX10 0 0 3) (Rt : ∀ (pc : Nat) (lv : List (Nat × Value)) (r0 : Int32) (M0 : Mem), decode cX10_followers pc = .ok (.ireturn, 1) → Q r0 M0 → V w G pc lv [.int r0] M0) (x1 : Int32) (x2 : Int32) (M : Mem) (h : bd_X10_followers_4 Q (fun (x1 : Int32) (x2 : Int32) (M : Mem) => V w G 4 [(0, .ref (w.2.1 211)), (1, .int x1), (2, .int x2)] [] M) x1 x2 M) : V w G 4 [(0, .ref (w.2.1 211)), (1, .int x1), (2, .int x2)] [] M := by
  unfold bd_X10_followers_4 at h
  refine v_iload_n C 2 rfl dX10_followers_4 ?_
  refine v_aload_n C 0 rfl dX10_followers_5 ?_
  refine g9_2 C kb211 kd211 fl_X10_85 dX10_followers_6 ?_
  refine v_icmp_ge C 40 (by decide) dX10_followers_9 (fun hc => ?_) (fun hc => ?_)
  · have h := h.1 hc
    refine v_iload_n C 1 rfl dX10_followers_40 ?_
    exact Rt _ _ _ _ dX10_followers_41 h
  · have h := h.2 hc
    refine v_iload_n C 1 rfl dX10_followers_12 ?_
    refine v_aload_n C 0 rfl dX10_followers_13 ?_
    refine g9_5 C kb211 kd211 fl_X10_16 dX10_followers_14 ?_
    refine v_kb C (8) (by decide) dX10_followers_17 ?_
    refine v_iload_n C 2 rfl dX10_followers_19 ?_
    refine v_iadd C dX10_followers_20 ?_
    obtain ⟨s1, h⟩ := h
    refine v_iald C kb214 kd214 ln214 s1 dX10_followers_21 ?_
    have key2 : V w G 32 [(0, .ref (w.2.1 211)), (1, .int x1), (2, .int x2)] (.int (if (M 214 (((8 : Int32)) + x2).toNatClampNeg) < 0 then (0 : Int32) else ((1 : Int32)) <<< (x2 &&& 31)) :: .int x1 :: []) M := by
      refine v_ior C dX10_followers_32 ?_
      refine v_istore_n C [(1, .int (x1 ||| (if (M 214 (((8 : Int32)) + x2).toNatClampNeg) < 0 then (0 : Int32) else ((1 : Int32)) <<< (x2 &&& 31)))), (0, .ref (w.2.1 211)), (2, .int x2)] rfl (by decide) dX10_followers_33 ?_
      refine v_iinc C (j := 2) [(2, .int (x2 + 1)), (1, .int (x1 ||| (if (M 214 (((8 : Int32)) + x2).toNatClampNeg) < 0 then (0 : Int32) else ((1 : Int32)) <<< (x2 &&& 31)))), (0, .ref (w.2.1 211))] rfl (x2 + 1) rfl rfl (by decide) dX10_followers_34 ?_
      refine v_goto C 4 (by decide) dX10_followers_37 ?_
      exact V.sub [2, 1, 0] rfl h
    refine v_if_lt C 31 (by decide) dX10_followers_22 (fun hc => ?_) (fun hc => ?_)
    · rw [show (if (M 214 (((8 : Int32)) + x2).toNatClampNeg) < 0 then (0 : Int32) else ((1 : Int32)) <<< (x2 &&& 31) : Int32) = (0 : Int32) from if_pos hc] at key2
      refine v_kc C (0) (by decide) dX10_followers_31 ?_
      exact key2
    · rw [show (if (M 214 (((8 : Int32)) + x2).toNatClampNeg) < 0 then (0 : Int32) else ((1 : Int32)) <<< (x2 &&& 31) : Int32) = ((1 : Int32)) <<< (x2 &&& 31) from if_neg hc] at key2
      refine v_kc C (1) (by decide) dX10_followers_25 ?_
      refine v_iload_n C 2 rfl dX10_followers_26 ?_
      refine v_ishl C dX10_followers_27 ?_
      refine v_goto C 32 (by decide) dX10_followers_28 ?_
      exact key2
theorem mt_X10_followers {w : Wx} {l : Launch} : Ct_X10_followers w l := by
  intro M Q h
  refine met_i (by decide +kernel) (Nat.le_of_ble_eq_true rfl) (fun G C hG Rt => ?_)
  subst hG
  exact wk_X10_followers C Rt M (h _ (fun x1 x2 M h => wk_X10_followers_4 C Rt x1 x2 M h))
theorem ct_X10_followers (w : Wx) (l : Launch) : Ct_X10_followers w l := mt_X10_followers
set_option maxRecDepth 4000 in
theorem wk_X10_ringOf {w : Wx} {G : Gx} {Q : Int32 → Mem → Prop} (C : Cx w G cX10_ringOf RX10 0 0 5) (Rt : ∀ (pc : Nat) (lv : List (Nat × Value)) (r0 : Int32) (M0 : Mem), decode cX10_ringOf pc = .ok (.ireturn, 1) → Q r0 M0 → V w G pc lv [.int r0] M0) (a1 : Int32) (M : Mem) (h : bd_X10_ringOf Q (fun (x2 : Int32) (x3 : Int32) (x4 : Int32) (M : Mem) => V w G 7 [(0, .ref (w.2.1 211)), (1, .int a1), (2, .int x2), (3, .int x3), (4, .int x4)] [] M) a1 M) : V w G 0 [(0, .ref (w.2.1 211)), (1, .int a1)] [] M := by
  unfold bd_X10_ringOf at h
  refine v_kc C (0) (by decide) dX10_ringOf_0 ?_
  refine v_istore_n C [(2, .int ((0 : Int32))), (0, .ref (w.2.1 211)), (1, .int a1)] rfl (by decide) dX10_ringOf_1 ?_
  refine v_iload_n C 2 rfl dX10_ringOf_2 ?_
  refine v_istore_n C [(3, .int a1), (2, .int ((0 : Int32))), (0, .ref (w.2.1 211)), (1, .int a1)] rfl (by decide) dX10_ringOf_3 ?_
  refine v_kc C (0) (by decide) dX10_ringOf_4 ?_
  refine v_istore C [(4, .int ((0 : Int32))), (3, .int a1), (2, .int ((0 : Int32))), (0, .ref (w.2.1 211)), (1, .int a1)] rfl (by decide) dX10_ringOf_5 ?_
  exact V.sub [3, 4, 2, 1, 0] rfl h
set_option maxRecDepth 4000 in
theorem wk_X10_ringOf_7 {w : Wx} {G : Gx} {Q : Int32 → Mem → Prop} (C : Cx w G cX10_ringOf RX10 0 0 5) (Rt : ∀ (pc : Nat) (lv : List (Nat × Value)) (r0 : Int32) (M0 : Mem), decode cX10_ringOf pc = .ok (.ireturn, 1) → Q r0 M0 → V w G pc lv [.int r0] M0) (a1 : Int32) (x2 : Int32) (x3 : Int32) (x4 : Int32) (M : Mem) (h : bd_X10_ringOf_7 Q (fun (x2 : Int32) (x3 : Int32) (x4 : Int32) (M : Mem) => V w G 7 [(0, .ref (w.2.1 211)), (1, .int a1), (2, .int x2), (3, .int x3), (4, .int x4)] [] M) a1 x2 x3 x4 M) : V w G 7 [(0, .ref (w.2.1 211)), (1, .int a1), (2, .int x2), (3, .int x3), (4, .int x4)] [] M := by
  unfold bd_X10_ringOf_7 at h
  refine v_iload C 4 rfl dX10_ringOf_7 ?_
  refine v_kb C (8) (by decide) dX10_ringOf_9 ?_
  refine v_icmp_ge C 55 (by decide) dX10_ringOf_11 (fun hc => ?_) (fun hc => ?_)
  · have h := h.1 hc
    refine v_kc C (0) (by decide) dX10_ringOf_55 ?_
    exact Rt _ _ _ _ dX10_ringOf_56 h
  · have h := h.2 hc
    refine v_iload_n C 3 rfl dX10_ringOf_14 ?_
    refine v_if_lt C 55 (by decide) dX10_ringOf_15 (fun hc => ?_) (fun hc => ?_)
    · have h := h.1 hc
      refine v_kc C (0) (by decide) dX10_ringOf_55 ?_
      exact Rt _ _ _ _ dX10_ringOf_56 h
    · have h := h.2 hc
      refine v_aload_n C 0 rfl dX10_ringOf_18 ?_
      refine g9_5 C kb211 kd211 fl_X10_16 dX10_ringOf_19 ?_
      refine v_kb C (8) (by decide) dX10_ringOf_22 ?_
      refine v_iload_n C 3 rfl dX10_ringOf_24 ?_
      refine v_iadd C dX10_ringOf_25 ?_
      obtain ⟨s1, h⟩ := h
      refine v_iald C kb214 kd214 ln214 s1 dX10_ringOf_26 ?_
      refine v_istore_n C [(3, .int (M 214 (((8 : Int32)) + x3).toNatClampNeg)), (0, .ref (w.2.1 211)), (1, .int a1), (2, .int x2), (4, .int x4)] rfl (by decide) dX10_ringOf_27 ?_
      refine v_iload_n C 3 rfl dX10_ringOf_28 ?_
      refine v_iload_n C 0 rfl dX10_ringOf_29 ?_
      have key2 : V w G 40 [(3, .int (M 214 (((8 : Int32)) + x3).toNatClampNeg)), (0, .ref (w.2.1 211)), (1, .int a1), (2, .int x2), (4, .int x4)] (.int (if (M 214 (((8 : Int32)) + x3).toNatClampNeg) < 0 then (0 : Int32) else ((1 : Int32)) <<< ((M 214 (((8 : Int32)) + x3).toNatClampNeg) &&& 31)) :: .int x2 :: []) M := by
        refine v_ior C dX10_ringOf_40 ?_
        refine v_istore_n C [(2, .int (x2 ||| (if (M 214 (((8 : Int32)) + x3).toNatClampNeg) < 0 then (0 : Int32) else ((1 : Int32)) <<< ((M 214 (((8 : Int32)) + x3).toNatClampNeg) &&& 31)))), (3, .int (M 214 (((8 : Int32)) + x3).toNatClampNeg)), (0, .ref (w.2.1 211)), (1, .int a1), (4, .int x4)] rfl (by decide) dX10_ringOf_41 ?_
        refine v_iload_n C 1 rfl dX10_ringOf_42 ?_
        refine v_iload_n C 3 rfl dX10_ringOf_43 ?_
        refine v_icmp_ne C 49 (by decide) dX10_ringOf_44 (fun hc => ?_) (fun hc => ?_)
        · have h := h.2 hc
          refine v_iinc C (j := 4) [(4, .int (x4 + 1)), (2, .int (x2 ||| (if (M 214 (((8 : Int32)) + x3).toNatClampNeg) < 0 then (0 : Int32) else ((1 : Int32)) <<< ((M 214 (((8 : Int32)) + x3).toNatClampNeg) &&& 31)))), (3, .int (M 214 (((8 : Int32)) + x3).toNatClampNeg)), (0, .ref (w.2.1 211)), (1, .int a1)] rfl (x4 + 1) rfl rfl (by decide) dX10_ringOf_49 ?_
          refine v_goto C 7 (by decide) dX10_ringOf_52 ?_
          exact V.sub [3, 4, 1, 2, 0] rfl h
        · have h := h.1 hc
          refine v_iload_n C 0 rfl dX10_ringOf_47 ?_
          exact Rt _ _ _ _ dX10_ringOf_48 h
      refine v_if_lt C 39 (by decide) dX10_ringOf_30 (fun hc => ?_) (fun hc => ?_)
      · rw [show (if (M 214 (((8 : Int32)) + x3).toNatClampNeg) < 0 then (0 : Int32) else ((1 : Int32)) <<< ((M 214 (((8 : Int32)) + x3).toNatClampNeg) &&& 31) : Int32) = (0 : Int32) from if_pos hc] at key2
        refine v_kc C (0) (by decide) dX10_ringOf_39 ?_
        exact key2
      · rw [show (if (M 214 (((8 : Int32)) + x3).toNatClampNeg) < 0 then (0 : Int32) else ((1 : Int32)) <<< ((M 214 (((8 : Int32)) + x3).toNatClampNeg) &&& 31) : Int32) = ((1 : Int32)) <<< ((M 214 (((8 : Int32)) + x3).toNatClampNeg) &&& 31) from if_neg hc] at key2
        refine v_kc C (1) (by decide) dX10_ringOf_33 ?_
        refine v_iload_n C 0 rfl dX10_ringOf_34 ?_
        refine v_ishl C dX10_ringOf_35 ?_
        refine v_goto C 40 (by decide) dX10_ringOf_36 ?_
        exact key2
theorem mt_X10_ringOf {w : Wx} {l : Launch} : Ct_X10_ringOf w l := by
  intro a1 M Q h
  refine met_i (by decide +kernel) (Nat.le_of_ble_eq_true rfl) (fun G C hG Rt => ?_)
  subst hG
  exact wk_X10_ringOf C Rt a1 M (h _ (fun x2 x3 x4 M h => wk_X10_ringOf_7 C Rt a1 x2 x3 x4 M h))
theorem ct_X10_ringOf (w : Wx) (l : Launch) : Ct_X10_ringOf w l := mt_X10_ringOf
set_option maxRecDepth 4000 in
theorem wk_X10_has {w : Wx} {G : Gx} {Q : Int32 → Mem → Prop} (C : Cx w G cX10_has RX10 0 0 2) (Rt : ∀ (pc : Nat) (lv : List (Nat × Value)) (r0 : Int32) (M0 : Mem), decode cX10_has pc = .ok (.ireturn, 1) → (r0 = 0 ∨ r0 = 1) → Q r0 M0 → V w G pc lv [.int r0] M0) (a0 : Int32) (a1 : Int32) (M : Mem) (h : bd_X10_has Q a0 a1 M) : V w G 0 [(0, .int a0), (1, .int a1)] [] M := by
  unfold bd_X10_has at h
  refine v_iload_n C 0 rfl dX10_has_0 ?_
  refine v_iload_n C 1 rfl dX10_has_1 ?_
  refine v_ishr C dX10_has_2 ?_
  refine v_kc C (1) (by decide) dX10_has_3 ?_
  refine v_iand C dX10_has_4 ?_
  refine v_kc C (1) (by decide) dX10_has_5 ?_
  have key1 : V w G 14 [(0, .int a0), (1, .int a1)] (.int (if ((a0 >>> (a1 &&& 31)) &&& ((1 : Int32))) = ((1 : Int32)) then (1 : Int32) else (0 : Int32)) :: []) M := by
    exact Rt _ _ _ _ dX10_has_14 h.1 h.2
  refine v_icmp_ne C 13 (by decide) dX10_has_6 (fun hc => ?_) (fun hc => ?_)
  · rw [show (if ((a0 >>> (a1 &&& 31)) &&& ((1 : Int32))) = ((1 : Int32)) then (1 : Int32) else (0 : Int32) : Int32) = (0 : Int32) from if_neg hc] at key1
    refine v_kc C (0) (by decide) dX10_has_13 ?_
    exact key1
  · rw [show (if ((a0 >>> (a1 &&& 31)) &&& ((1 : Int32))) = ((1 : Int32)) then (1 : Int32) else (0 : Int32) : Int32) = (1 : Int32) from if_pos hc] at key1
    refine v_kc C (1) (by decide) dX10_has_9 ?_
    refine v_goto C 14 (by decide) dX10_has_10 ?_
    exact key1
theorem mt_X10_has {w : Wx} {l : Launch} : Ct_X10_has w l := by
  intro a0 a1 M Q h
  refine met_z (by decide +kernel) (Nat.le_of_ble_eq_true rfl) (fun G C hG Rt => ?_)
  subst hG
  exact wk_X10_has C Rt a0 a1 M (h)
theorem ct_X10_has (w : Wx) (l : Launch) : Ct_X10_has w l := mt_X10_has
set_option maxRecDepth 4000 in
theorem wk_X10_least {w : Wx} {G : Gx} {Q : Int32 → Mem → Prop} (C : Cx w G cX10_least RX10 1 21 2) (Rt : ∀ (pc : Nat) (lv : List (Nat × Value)) (r0 : Int32) (M0 : Mem), decode cX10_least pc = .ok (.ireturn, 1) → Q r0 M0 → V w G pc lv [.int r0] M0) (k_X10_has : Ct_X10_has w G.2.1) (a0 : Int32) (M : Mem) (h : bd_X10_least Q (fun (x1 : Int32) (M : Mem) => V w G 2 [(0, .int a0), (1, .int x1)] [] M) a0 M) : V w G 0 [(0, .int a0)] [] M := by
  unfold bd_X10_least at h
  refine v_kc C (0) (by decide) dX10_least_0 ?_
  refine v_istore_n C [(1, .int ((0 : Int32))), (0, .int a0)] rfl (by decide) dX10_least_1 ?_
  exact V.sub [1, 0] rfl h
set_option maxRecDepth 4000 in
theorem wk_X10_least_2 {w : Wx} {G : Gx} {Q : Int32 → Mem → Prop} (C : Cx w G cX10_least RX10 1 21 2) (Rt : ∀ (pc : Nat) (lv : List (Nat × Value)) (r0 : Int32) (M0 : Mem), decode cX10_least pc = .ok (.ireturn, 1) → Q r0 M0 → V w G pc lv [.int r0] M0) (k_X10_has : Ct_X10_has w G.2.1) (a0 : Int32) (x1 : Int32) (M : Mem) (h : bd_X10_least_2 Q (fun (x1 : Int32) (M : Mem) => V w G 2 [(0, .int a0), (1, .int x1)] [] M) a0 x1 M) : V w G 2 [(0, .int a0), (1, .int x1)] [] M := by
  unfold bd_X10_least_2 at h
  refine v_iload_n C 0 rfl dX10_least_2 ?_
  refine v_iload_n C 1 rfl dX10_least_3 ?_
  refine v_callSI C [] (k_X10_has a0 x1 M _ h) yX10_has_k ml_X10_162 rfl rfl (Nat.le_of_ble_eq_true rfl) ⟨by decide, by decide⟩ dX10_least_4 (fun r1 M1 h => ?_)
  refine v_if_ne C 16 (by decide) dX10_least_7 (fun hc => ?_) (fun hc => ?_)
  · have h := h.2 hc
    refine v_iload_n C 1 rfl dX10_least_16 ?_
    exact Rt _ _ _ _ dX10_least_17 h
  · have h := h.1 hc
    refine v_iinc C (j := 1) [(1, .int (x1 + 1)), (0, .int a0)] rfl (x1 + 1) rfl rfl (by decide) dX10_least_10 ?_
    refine v_goto C 2 (by decide) dX10_least_13 ?_
    exact V.sub [1, 0] rfl h
theorem mt_X10_least {w : Wx} {l : Launch} (k_X10_has : Ct_X10_has w l) : Ct_X10_least w l := by
  intro a0 M Q h
  refine met_i (by decide +kernel) (Nat.le_of_ble_eq_true rfl) (fun G C hG Rt => ?_)
  subst hG
  exact wk_X10_least C Rt k_X10_has a0 M (h _ (fun x1 M h => wk_X10_least_2 C Rt k_X10_has a0 x1 M h))
theorem ct_X10_least (w : Wx) (l : Launch) : Ct_X10_least w l := mt_X10_least (ct_X10_has w l)
set_option maxRecDepth 4000 in
theorem wk_X10_ringsNow {w : Wx} {G : Gx} {Q : Int32 → Mem → Prop} (C : Cx w G cX10_ringsNow RX10 2 42 5) (Rt : ∀ (pc : Nat) (lv : List (Nat × Value)) (r0 : Int32) (M0 : Mem), decode cX10_ringsNow pc = .ok (.ireturn, 1) → Q r0 M0 → V w G pc lv [.int r0] M0) (k_X10_ringOf : Ct_X10_ringOf w G.2.1) (k_X10_least : Ct_X10_least w G.2.1) (a1 : Int32) (M : Mem) (h : bd_X10_ringsNow Q (fun (x2 : Int32) (x3 : Int32) (M : Mem) => V w G 4 [(0, .ref (w.2.1 211)), (1, .int a1), (2, .int x2), (3, .int x3)] [] M) a1 M) : V w G 0 [(0, .ref (w.2.1 211)), (1, .int a1)] [] M := by
  unfold bd_X10_ringsNow at h
  refine v_kc C (0) (by decide) dX10_ringsNow_0 ?_
  refine v_istore_n C [(2, .int ((0 : Int32))), (0, .ref (w.2.1 211)), (1, .int a1)] rfl (by decide) dX10_ringsNow_1 ?_
  refine v_kc C (0) (by decide) dX10_ringsNow_2 ?_
  refine v_istore_n C [(3, .int ((0 : Int32))), (2, .int ((0 : Int32))), (0, .ref (w.2.1 211)), (1, .int a1)] rfl (by decide) dX10_ringsNow_3 ?_
  exact V.sub [2, 3, 1, 0] rfl h
set_option maxRecDepth 4000 in
theorem wk_X10_ringsNow_4 {w : Wx} {G : Gx} {Q : Int32 → Mem → Prop} (C : Cx w G cX10_ringsNow RX10 2 42 5) (Rt : ∀ (pc : Nat) (lv : List (Nat × Value)) (r0 : Int32) (M0 : Mem), decode cX10_ringsNow pc = .ok (.ireturn, 1) → Q r0 M0 → V w G pc lv [.int r0] M0) (k_X10_ringOf : Ct_X10_ringOf w G.2.1) (k_X10_least : Ct_X10_least w G.2.1) (a1 : Int32) (x2 : Int32) (x3 : Int32) (M : Mem) (h : bd_X10_ringsNow_4 Q (fun (x2 : Int32) (x3 : Int32) (M : Mem) => V w G 4 [(0, .ref (w.2.1 211)), (1, .int a1), (2, .int x2), (3, .int x3)] [] M) a1 x2 x3 M) : V w G 4 [(0, .ref (w.2.1 211)), (1, .int a1), (2, .int x2), (3, .int x3)] [] M := by
  unfold bd_X10_ringsNow_4 at h
  refine v_iload_n C 3 rfl dX10_ringsNow_4 ?_
  refine v_aload_n C 0 rfl dX10_ringsNow_5 ?_
  refine g9_2 C kb211 kd211 fl_X10_85 dX10_ringsNow_6 ?_
  refine v_icmp_ge C 50 (by decide) dX10_ringsNow_9 (fun hc => ?_) (fun hc => ?_)
  · have h := h.1 hc
    refine v_iload_n C 1 rfl dX10_ringsNow_50 ?_
    refine v_kc C (-1) (by decide) dX10_ringsNow_51 ?_
    have key1 : V w G 60 [(0, .ref (w.2.1 211)), (1, .int a1), (2, .int x2), (3, .int x3)] (.int (if a1 = ((-1 : Int32)) then x2 else (-1 : Int32)) :: []) M := by
      exact Rt _ _ _ _ dX10_ringsNow_60 h
    refine v_icmp_ne C 59 (by decide) dX10_ringsNow_52 (fun hc => ?_) (fun hc => ?_)
    · rw [show (if a1 = ((-1 : Int32)) then x2 else (-1 : Int32) : Int32) = (-1 : Int32) from if_neg hc] at key1
      refine v_kc C (-1) (by decide) dX10_ringsNow_59 ?_
      exact key1
    · rw [show (if a1 = ((-1 : Int32)) then x2 else (-1 : Int32) : Int32) = x2 from if_pos hc] at key1
      refine v_iload_n C 2 rfl dX10_ringsNow_55 ?_
      refine v_goto C 60 (by decide) dX10_ringsNow_56 ?_
      exact key1
  · have h := h.2 hc
    refine v_aload_n C 0 rfl dX10_ringsNow_12 ?_
    refine v_iload_n C 3 rfl dX10_ringsNow_13 ?_
    refine v_callI C [] (k_X10_ringOf x3 M _ h) yX10_ringOf_k ml_X10_166 (rcv9 kb211 kd211) rfl rfl (Nat.le_of_ble_eq_true rfl) ⟨by decide, by decide⟩ dX10_ringsNow_14 (fun r2 M2 h => ?_)
    refine v_istore C [(4, .int r2), (0, .ref (w.2.1 211)), (1, .int a1), (2, .int x2), (3, .int x3)] rfl (by decide) dX10_ringsNow_17 ?_
    refine v_iload C 0 rfl dX10_ringsNow_19 ?_
    refine v_if_eq C 44 (by decide) dX10_ringsNow_21 (fun hc => ?_) (fun hc => ?_)
    · have h := h.1 hc
      refine v_iinc C (j := 4) [(3, .int (x3 + 1)), (4, .int r2), (0, .ref (w.2.1 211)), (1, .int a1), (2, .int x2)] rfl (x3 + 1) rfl rfl (by decide) dX10_ringsNow_44 ?_
      refine v_goto C 4 (by decide) dX10_ringsNow_47 ?_
      exact V.sub [2, 3, 4, 0] rfl h
    · have h := h.2 hc
      refine v_iload C 0 rfl dX10_ringsNow_24 ?_
      refine v_callSI C [] (k_X10_least r2 M2 _ h) yX10_least_k ml_X10_170 rfl rfl (Nat.le_of_ble_eq_true rfl) ⟨by decide, by decide⟩ dX10_ringsNow_26 (fun r3 M3 h => ?_)
      refine v_iload_n C 4 rfl dX10_ringsNow_29 ?_
      refine v_icmp_ne C 44 (by decide) dX10_ringsNow_30 (fun hc => ?_) (fun hc => ?_)
      · have h := h.2 hc
        refine v_iinc C (j := 4) [(3, .int (x3 + 1)), (4, .int r2), (0, .ref (w.2.1 211)), (1, .int a1), (2, .int x2)] rfl (x3 + 1) rfl rfl (by decide) dX10_ringsNow_44 ?_
        refine v_goto C 4 (by decide) dX10_ringsNow_47 ?_
        exact V.sub [2, 3, 4, 0] rfl h
      · have h := h.1 hc
        refine v_iload_n C 3 rfl dX10_ringsNow_33 ?_
        refine v_iload_n C 2 rfl dX10_ringsNow_34 ?_
        refine v_icmp_ne C 41 (by decide) dX10_ringsNow_35 (fun hc => ?_) (fun hc => ?_)
        · have h := h.2 hc
          refine v_iinc C (j := 3) [(2, .int (x2 + 1)), (4, .int r2), (0, .ref (w.2.1 211)), (1, .int a1), (3, .int x3)] rfl (x2 + 1) rfl rfl (by decide) dX10_ringsNow_41 ?_
          refine v_iinc C (j := 4) [(3, .int (x3 + 1)), (2, .int (x2 + 1)), (4, .int r2), (0, .ref (w.2.1 211)), (1, .int a1)] rfl (x3 + 1) rfl rfl (by decide) dX10_ringsNow_44 ?_
          refine v_goto C 4 (by decide) dX10_ringsNow_47 ?_
          exact V.sub [3, 4, 1, 0] rfl h
        · have h := h.1 hc
          refine v_iload C 0 rfl dX10_ringsNow_38 ?_
          exact Rt _ _ _ _ dX10_ringsNow_40 h
theorem mt_X10_ringsNow {w : Wx} {l : Launch} (k_X10_ringOf : Ct_X10_ringOf w l) (k_X10_least : Ct_X10_least w l) : Ct_X10_ringsNow w l := by
  intro a1 M Q h
  refine met_i (by decide +kernel) (Nat.le_of_ble_eq_true rfl) (fun G C hG Rt => ?_)
  subst hG
  exact wk_X10_ringsNow C Rt k_X10_ringOf k_X10_least a1 M (h _ (fun x2 x3 M h => wk_X10_ringsNow_4 C Rt k_X10_ringOf k_X10_least a1 x2 x3 M h))
theorem ct_X10_ringsNow (w : Wx) (l : Launch) : Ct_X10_ringsNow w l := mt_X10_ringsNow (ct_X10_ringOf w l) (ct_X10_least w l)
set_option maxRecDepth 4000 in
theorem wk_X10_behindOf {w : Wx} {G : Gx} {Q : Int32 → Mem → Prop} (C : Cx w G cX10_behindOf RX10 1 21 6) (Rt : ∀ (pc : Nat) (lv : List (Nat × Value)) (r0 : Int32) (M0 : Mem), decode cX10_behindOf pc = .ok (.ireturn, 1) → Q r0 M0 → V w G pc lv [.int r0] M0) (k_X10_has : Ct_X10_has w G.2.1) (a1 : Int32) (M : Mem) (h : bd_X10_behindOf Q (fun (x2 : Int32) (x3 : Int32) (M : Mem) => V w G 4 [(0, .ref (w.2.1 211)), (1, .int a1), (2, .int x2), (3, .int x3)] [] M) (fun (x2 : Int32) (x3 : Int32) (x4 : Int32) (M : Mem) => V w G 13 [(0, .ref (w.2.1 211)), (1, .int a1), (2, .int x2), (3, .int x3), (4, .int x4)] [] M) a1 M) : V w G 0 [(0, .ref (w.2.1 211)), (1, .int a1)] [] M := by
  unfold bd_X10_behindOf at h
  refine v_kc C (0) (by decide) dX10_behindOf_0 ?_
  refine v_istore_n C [(2, .int ((0 : Int32))), (0, .ref (w.2.1 211)), (1, .int a1)] rfl (by decide) dX10_behindOf_1 ?_
  refine v_kc C (0) (by decide) dX10_behindOf_2 ?_
  refine v_istore_n C [(3, .int ((0 : Int32))), (2, .int ((0 : Int32))), (0, .ref (w.2.1 211)), (1, .int a1)] rfl (by decide) dX10_behindOf_3 ?_
  exact V.sub [2, 3, 1, 0] rfl h
set_option maxRecDepth 4000 in
theorem wk_X10_behindOf_4 {w : Wx} {G : Gx} {Q : Int32 → Mem → Prop} (C : Cx w G cX10_behindOf RX10 1 21 6) (Rt : ∀ (pc : Nat) (lv : List (Nat × Value)) (r0 : Int32) (M0 : Mem), decode cX10_behindOf pc = .ok (.ireturn, 1) → Q r0 M0 → V w G pc lv [.int r0] M0) (k_X10_has : Ct_X10_has w G.2.1) (a1 : Int32) (x2 : Int32) (x3 : Int32) (M : Mem) (h : bd_X10_behindOf_4 Q (fun (x2 : Int32) (x3 : Int32) (M : Mem) => V w G 4 [(0, .ref (w.2.1 211)), (1, .int a1), (2, .int x2), (3, .int x3)] [] M) (fun (x2 : Int32) (x3 : Int32) (x4 : Int32) (M : Mem) => V w G 13 [(0, .ref (w.2.1 211)), (1, .int a1), (2, .int x2), (3, .int x3), (4, .int x4)] [] M) a1 x2 x3 M) : V w G 4 [(0, .ref (w.2.1 211)), (1, .int a1), (2, .int x2), (3, .int x3)] [] M := by
  unfold bd_X10_behindOf_4 at h
  refine v_iload_n C 3 rfl dX10_behindOf_4 ?_
  refine v_kb C (8) (by decide) dX10_behindOf_5 ?_
  refine v_icmp_ge C 77 (by decide) dX10_behindOf_7 (fun hc => ?_) (fun hc => ?_)
  · have h := h.1 hc
    refine v_iload_n C 2 rfl dX10_behindOf_77 ?_
    exact Rt _ _ _ _ dX10_behindOf_78 h
  · have h := h.2 hc
    refine v_kc C (0) (by decide) dX10_behindOf_10 ?_
    refine v_istore C [(4, .int ((0 : Int32))), (0, .ref (w.2.1 211)), (1, .int a1), (2, .int x2), (3, .int x3)] rfl (by decide) dX10_behindOf_11 ?_
    exact V.sub [1, 2, 3, 4, 0] rfl h
set_option maxRecDepth 4000 in
theorem wk_X10_behindOf_13 {w : Wx} {G : Gx} {Q : Int32 → Mem → Prop} (C : Cx w G cX10_behindOf RX10 1 21 6) (Rt : ∀ (pc : Nat) (lv : List (Nat × Value)) (r0 : Int32) (M0 : Mem), decode cX10_behindOf pc = .ok (.ireturn, 1) → Q r0 M0 → V w G pc lv [.int r0] M0) (k_X10_has : Ct_X10_has w G.2.1) (a1 : Int32) (x2 : Int32) (x3 : Int32) (x4 : Int32) (M : Mem) (h : bd_X10_behindOf_13 Q (fun (x2 : Int32) (x3 : Int32) (M : Mem) => V w G 4 [(0, .ref (w.2.1 211)), (1, .int a1), (2, .int x2), (3, .int x3)] [] M) (fun (x2 : Int32) (x3 : Int32) (x4 : Int32) (M : Mem) => V w G 13 [(0, .ref (w.2.1 211)), (1, .int a1), (2, .int x2), (3, .int x3), (4, .int x4)] [] M) a1 x2 x3 x4 M) : V w G 13 [(0, .ref (w.2.1 211)), (1, .int a1), (2, .int x2), (3, .int x3), (4, .int x4)] [] M := by
  unfold bd_X10_behindOf_13 at h
  refine v_iload C 4 rfl dX10_behindOf_13 ?_
  refine v_aload_n C 0 rfl dX10_behindOf_15 ?_
  refine g9_2 C kb211 kd211 fl_X10_85 dX10_behindOf_16 ?_
  refine v_icmp_ge C 71 (by decide) dX10_behindOf_19 (fun hc => ?_) (fun hc => ?_)
  · have h := h.1 hc
    refine v_iinc C (j := 3) [(3, .int (x3 + 1)), (0, .ref (w.2.1 211)), (1, .int a1), (2, .int x2), (4, .int x4)] rfl (x3 + 1) rfl rfl (by decide) dX10_behindOf_71 ?_
    refine v_goto C 4 (by decide) dX10_behindOf_74 ?_
    exact V.sub [1, 2, 3, 0] rfl h
  · have h := h.2 hc
    refine v_aload_n C 0 rfl dX10_behindOf_22 ?_
    refine g9_5 C kb211 kd211 fl_X10_16 dX10_behindOf_23 ?_
    refine v_kb C (8) (by decide) dX10_behindOf_26 ?_
    refine v_iload C 4 rfl dX10_behindOf_28 ?_
    refine v_iadd C dX10_behindOf_30 ?_
    obtain ⟨s1, h⟩ := h
    refine v_iald C kb214 kd214 ln214 s1 dX10_behindOf_31 ?_
    refine v_istore C [(5, .int (M 214 (((8 : Int32)) + x4).toNatClampNeg)), (0, .ref (w.2.1 211)), (1, .int a1), (2, .int x2), (3, .int x3), (4, .int x4)] rfl (by decide) dX10_behindOf_32 ?_
    refine v_iload_n C 3 rfl dX10_behindOf_34 ?_
    refine v_iload C 0 rfl dX10_behindOf_35 ?_
    refine v_iload_n C 2 rfl dX10_behindOf_37 ?_
    refine v_icmp_eq C 55 (by decide) dX10_behindOf_38 (fun hc => ?_) (fun hc => ?_)
    · have h := h.1 hc
      refine v_kc C (1) (by decide) dX10_behindOf_55 ?_
      refine v_iload C 5 rfl dX10_behindOf_56 ?_
      refine v_ishl C dX10_behindOf_58 ?_
      refine v_goto C 63 (by decide) dX10_behindOf_59 ?_
      refine v_ior C dX10_behindOf_63 ?_
      refine v_istore_n C [(2, .int (x2 ||| (((1 : Int32)) <<< (x4 &&& 31)))), (5, .int (M 214 (((8 : Int32)) + x4).toNatClampNeg)), (0, .ref (w.2.1 211)), (1, .int a1), (3, .int x3), (4, .int x4)] rfl (by decide) dX10_behindOf_64 ?_
      refine v_iinc C (j := 5) [(4, .int (x4 + 1)), (2, .int (x2 ||| (((1 : Int32)) <<< (x4 &&& 31)))), (5, .int (M 214 (((8 : Int32)) + x4).toNatClampNeg)), (0, .ref (w.2.1 211)), (1, .int a1), (3, .int x3)] rfl (x4 + 1) rfl rfl (by decide) dX10_behindOf_65 ?_
      refine v_goto C 13 (by decide) dX10_behindOf_68 ?_
      exact V.sub [3, 4, 1, 5, 0] rfl h
    · have h := h.2 hc
      refine v_iload C 0 rfl dX10_behindOf_41 ?_
      refine v_if_lt C 62 (by decide) dX10_behindOf_43 (fun hc => ?_) (fun hc => ?_)
      · have h := h.1 hc
        refine v_kc C (0) (by decide) dX10_behindOf_62 ?_
        refine v_ior C dX10_behindOf_63 ?_
        refine v_istore_n C [(2, .int (x2 ||| ((0 : Int32)))), (5, .int (M 214 (((8 : Int32)) + x4).toNatClampNeg)), (0, .ref (w.2.1 211)), (1, .int a1), (3, .int x3), (4, .int x4)] rfl (by decide) dX10_behindOf_64 ?_
        refine v_iinc C (j := 5) [(4, .int (x4 + 1)), (2, .int (x2 ||| ((0 : Int32)))), (5, .int (M 214 (((8 : Int32)) + x4).toNatClampNeg)), (0, .ref (w.2.1 211)), (1, .int a1), (3, .int x3)] rfl (x4 + 1) rfl rfl (by decide) dX10_behindOf_65 ?_
        refine v_goto C 13 (by decide) dX10_behindOf_68 ?_
        exact V.sub [3, 4, 1, 5, 0] rfl h
      · have h := h.2 hc
        refine v_iload_n C 3 rfl dX10_behindOf_46 ?_
        refine v_iload C 0 rfl dX10_behindOf_47 ?_
        refine v_callSI C [.int x2] (k_X10_has x2 (M 214 (((8 : Int32)) + x4).toNatClampNeg) M _ h) yX10_has_k ml_X10_162 rfl rfl (Nat.le_of_ble_eq_true rfl) ⟨by decide, by decide⟩ dX10_behindOf_49 (fun r2 M2 h => ?_)
        have key3 : V w G 63 [(5, .int (M 214 (((8 : Int32)) + x4).toNatClampNeg)), (0, .ref (w.2.1 211)), (1, .int a1), (2, .int x2), (3, .int x3), (4, .int x4)] (.int (if r2 = 0 then (0 : Int32) else ((1 : Int32)) <<< (x4 &&& 31)) :: .int x2 :: []) M2 := by
          refine v_ior C dX10_behindOf_63 ?_
          refine v_istore_n C [(2, .int (x2 ||| (if r2 = 0 then (0 : Int32) else ((1 : Int32)) <<< (x4 &&& 31)))), (5, .int (M 214 (((8 : Int32)) + x4).toNatClampNeg)), (0, .ref (w.2.1 211)), (1, .int a1), (3, .int x3), (4, .int x4)] rfl (by decide) dX10_behindOf_64 ?_
          refine v_iinc C (j := 5) [(4, .int (x4 + 1)), (2, .int (x2 ||| (if r2 = 0 then (0 : Int32) else ((1 : Int32)) <<< (x4 &&& 31)))), (5, .int (M 214 (((8 : Int32)) + x4).toNatClampNeg)), (0, .ref (w.2.1 211)), (1, .int a1), (3, .int x3)] rfl (x4 + 1) rfl rfl (by decide) dX10_behindOf_65 ?_
          refine v_goto C 13 (by decide) dX10_behindOf_68 ?_
          exact V.sub [3, 4, 1, 5, 0] rfl h
        refine v_if_eq C 62 (by decide) dX10_behindOf_52 (fun hc => ?_) (fun hc => ?_)
        · rw [show (if r2 = 0 then (0 : Int32) else ((1 : Int32)) <<< (x4 &&& 31) : Int32) = (0 : Int32) from if_pos hc] at key3
          refine v_kc C (0) (by decide) dX10_behindOf_62 ?_
          exact key3
        · rw [show (if r2 = 0 then (0 : Int32) else ((1 : Int32)) <<< (x4 &&& 31) : Int32) = ((1 : Int32)) <<< (x4 &&& 31) from if_neg hc] at key3
          refine v_kc C (1) (by decide) dX10_behindOf_55 ?_
          refine v_iload C 5 rfl dX10_behindOf_56 ?_
          refine v_ishl C dX10_behindOf_58 ?_
          refine v_goto C 63 (by decide) dX10_behindOf_59 ?_
          exact key3
theorem mt_X10_behindOf {w : Wx} {l : Launch} (k_X10_has : Ct_X10_has w l) : Ct_X10_behindOf w l := by
  intro a1 M Q h
  refine met_i (by decide +kernel) (Nat.le_of_ble_eq_true rfl) (fun G C hG Rt => ?_)
  subst hG
  exact wk_X10_behindOf C Rt k_X10_has a1 M (h _ _ (fun x2 x3 M h => wk_X10_behindOf_4 C Rt k_X10_has a1 x2 x3 M h) (fun x2 x3 x4 M h => wk_X10_behindOf_13 C Rt k_X10_has a1 x2 x3 x4 M h))
theorem ct_X10_behindOf (w : Wx) (l : Launch) : Ct_X10_behindOf w l := mt_X10_behindOf (ct_X10_has w l)
set_option maxRecDepth 4000 in
theorem wk_X10_heads {w : Wx} {G : Gx} {Q : Int32 → Mem → Prop} (C : Cx w G cX10_heads RX10 2 46 5) (Rt : ∀ (pc : Nat) (lv : List (Nat × Value)) (r0 : Int32) (M0 : Mem), decode cX10_heads pc = .ok (.ireturn, 1) → Q r0 M0 → V w G pc lv [.int r0] M0) (k_X10_behindOf : Ct_X10_behindOf w G.2.1) (k_X10_has : Ct_X10_has w G.2.1) (M : Mem) (h : bd_X10_heads Q (fun (x1 : Int32) (x2 : Int32) (M : Mem) => V w G 4 [(0, .ref (w.2.1 211)), (1, .int x1), (2, .int x2)] [] M) (fun (x1 : Int32) (x2 : Int32) (x3 : Int32) (x4 : Int32) (M : Mem) => V w G 27 [(0, .ref (w.2.1 211)), (1, .int x1), (2, .int x2), (3, .int x3), (4, .int x4)] [] M) M) : V w G 0 [(0, .ref (w.2.1 211))] [] M := by
  unfold bd_X10_heads at h
  refine v_kc C (0) (by decide) dX10_heads_0 ?_
  refine v_istore_n C [(1, .int ((0 : Int32))), (0, .ref (w.2.1 211))] rfl (by decide) dX10_heads_1 ?_
  refine v_kc C (0) (by decide) dX10_heads_2 ?_
  refine v_istore_n C [(2, .int ((0 : Int32))), (1, .int ((0 : Int32))), (0, .ref (w.2.1 211))] rfl (by decide) dX10_heads_3 ?_
  exact V.sub [2, 1, 0] rfl h
set_option maxRecDepth 4000 in
theorem wk_X10_heads_4 {w : Wx} {G : Gx} {Q : Int32 → Mem → Prop} (C : Cx w G cX10_heads RX10 2 46 5) (Rt : ∀ (pc : Nat) (lv : List (Nat × Value)) (r0 : Int32) (M0 : Mem), decode cX10_heads pc = .ok (.ireturn, 1) → Q r0 M0 → V w G pc lv [.int r0] M0) (k_X10_behindOf : Ct_X10_behindOf w G.2.1) (k_X10_has : Ct_X10_has w G.2.1) (x1 : Int32) (x2 : Int32) (M : Mem) (h : bd_X10_heads_4 Q (fun (x1 : Int32) (x2 : Int32) (M : Mem) => V w G 4 [(0, .ref (w.2.1 211)), (1, .int x1), (2, .int x2)] [] M) (fun (x1 : Int32) (x2 : Int32) (x3 : Int32) (x4 : Int32) (M : Mem) => V w G 27 [(0, .ref (w.2.1 211)), (1, .int x1), (2, .int x2), (3, .int x3), (4, .int x4)] [] M) x1 x2 M) : V w G 4 [(0, .ref (w.2.1 211)), (1, .int x1), (2, .int x2)] [] M := by
  unfold bd_X10_heads_4 at h
  refine v_iload_n C 2 rfl dX10_heads_4 ?_
  refine v_aload_n C 0 rfl dX10_heads_5 ?_
  refine g9_2 C kb211 kd211 fl_X10_85 dX10_heads_6 ?_
  refine v_icmp_ge C 83 (by decide) dX10_heads_9 (fun hc => ?_) (fun hc => ?_)
  · have h := h.1 hc
    refine v_iload_n C 1 rfl dX10_heads_83 ?_
    exact Rt _ _ _ _ dX10_heads_84 h
  · have h := h.2 hc
    refine v_aload_n C 0 rfl dX10_heads_12 ?_
    refine v_iload_n C 2 rfl dX10_heads_13 ?_
    refine v_callI C [] (k_X10_behindOf x2 M _ h) yX10_behindOf_k ml_X10_173 (rcv9 kb211 kd211) rfl rfl (Nat.le_of_ble_eq_true rfl) ⟨by decide, by decide⟩ dX10_heads_14 (fun r1 M1 h => ?_)
    refine v_kc C (1) (by decide) dX10_heads_17 ?_
    refine v_iload_n C 2 rfl dX10_heads_18 ?_
    refine v_ishl C dX10_heads_19 ?_
    refine v_kc C (-1) (by decide) dX10_heads_20 ?_
    refine v_ixor C dX10_heads_21 ?_
    refine v_iand C dX10_heads_22 ?_
    refine v_istore_n C [(3, .int (r1 &&& ((((1 : Int32)) <<< (x2 &&& 31)) ^^^ ((-1 : Int32))))), (0, .ref (w.2.1 211)), (1, .int x1), (2, .int x2)] rfl (by decide) dX10_heads_23 ?_
    refine v_kc C (0) (by decide) dX10_heads_24 ?_
    refine v_istore C [(4, .int ((0 : Int32))), (3, .int (r1 &&& ((((1 : Int32)) <<< (x2 &&& 31)) ^^^ ((-1 : Int32))))), (0, .ref (w.2.1 211)), (1, .int x1), (2, .int x2)] rfl (by decide) dX10_heads_25 ?_
    exact V.sub [2, 3, 4, 1, 0] rfl h
set_option maxRecDepth 4000 in
theorem wk_X10_heads_27 {w : Wx} {G : Gx} {Q : Int32 → Mem → Prop} (C : Cx w G cX10_heads RX10 2 46 5) (Rt : ∀ (pc : Nat) (lv : List (Nat × Value)) (r0 : Int32) (M0 : Mem), decode cX10_heads pc = .ok (.ireturn, 1) → Q r0 M0 → V w G pc lv [.int r0] M0) (k_X10_behindOf : Ct_X10_behindOf w G.2.1) (k_X10_has : Ct_X10_has w G.2.1) (x1 : Int32) (x2 : Int32) (x3 : Int32) (x4 : Int32) (M : Mem) (h : bd_X10_heads_27 Q (fun (x1 : Int32) (x2 : Int32) (M : Mem) => V w G 4 [(0, .ref (w.2.1 211)), (1, .int x1), (2, .int x2)] [] M) (fun (x1 : Int32) (x2 : Int32) (x3 : Int32) (x4 : Int32) (M : Mem) => V w G 27 [(0, .ref (w.2.1 211)), (1, .int x1), (2, .int x2), (3, .int x3), (4, .int x4)] [] M) x1 x2 x3 x4 M) : V w G 27 [(0, .ref (w.2.1 211)), (1, .int x1), (2, .int x2), (3, .int x3), (4, .int x4)] [] M := by
  unfold bd_X10_heads_27 at h
  refine v_iload C 4 rfl dX10_heads_27 ?_
  refine v_aload_n C 0 rfl dX10_heads_29 ?_
  refine g9_2 C kb211 kd211 fl_X10_85 dX10_heads_30 ?_
  refine v_icmp_ge C 77 (by decide) dX10_heads_33 (fun hc => ?_) (fun hc => ?_)
  · have h := h.1 hc
    refine v_iinc C (j := 2) [(2, .int (x2 + 1)), (0, .ref (w.2.1 211)), (1, .int x1), (3, .int x3), (4, .int x4)] rfl (x2 + 1) rfl rfl (by decide) dX10_heads_77 ?_
    refine v_goto C 4 (by decide) dX10_heads_80 ?_
    exact V.sub [1, 2, 0] rfl h
  · have h := h.2 hc
    refine v_iload_n C 1 rfl dX10_heads_36 ?_
    refine v_iload_n C 3 rfl dX10_heads_37 ?_
    refine v_iload C 4 rfl dX10_heads_38 ?_
    refine v_callSI C [.int x1] (k_X10_has x3 x4 M _ h) yX10_has_k ml_X10_162 rfl rfl (Nat.le_of_ble_eq_true rfl) ⟨by decide, by decide⟩ dX10_heads_40 (fun r1 M1 h => ?_)
    refine v_if_eq C 68 (by decide) dX10_heads_43 (fun hc => ?_) (fun hc => ?_)
    · have h := h.1 hc
      refine v_kc C (0) (by decide) dX10_heads_68 ?_
      refine v_ior C dX10_heads_69 ?_
      refine v_istore_n C [(1, .int (x1 ||| ((0 : Int32)))), (0, .ref (w.2.1 211)), (2, .int x2), (3, .int x3), (4, .int x4)] rfl (by decide) dX10_heads_70 ?_
      refine v_iinc C (j := 4) [(4, .int (x4 + 1)), (1, .int (x1 ||| ((0 : Int32)))), (0, .ref (w.2.1 211)), (2, .int x2), (3, .int x3)] rfl (x4 + 1) rfl rfl (by decide) dX10_heads_71 ?_
      refine v_goto C 27 (by decide) dX10_heads_74 ?_
      exact V.sub [2, 1, 3, 4, 0] rfl h
    · have h := h.2 hc
      refine v_aload_n C 0 rfl dX10_heads_46 ?_
      refine g9_5 C kb211 kd211 fl_X10_16 dX10_heads_47 ?_
      refine v_iload C 4 rfl dX10_heads_50 ?_
      obtain ⟨s2, h⟩ := h
      refine v_iald C kb214 kd214 ln214 s2 dX10_heads_52 ?_
      refine v_aload_n C 0 rfl dX10_heads_53 ?_
      refine g9_5 C kb211 kd211 fl_X10_16 dX10_heads_54 ?_
      refine v_iload_n C 2 rfl dX10_heads_57 ?_
      obtain ⟨s3, h⟩ := h
      refine v_iald C kb214 kd214 ln214 s3 dX10_heads_58 ?_
      have key4 : V w G 69 [(0, .ref (w.2.1 211)), (1, .int x1), (2, .int x2), (3, .int x3), (4, .int x4)] (.int (if (M1 214 x4.toNatClampNeg) = (M1 214 x2.toNatClampNeg) then ((1 : Int32)) <<< (x2 &&& 31) else (0 : Int32)) :: .int x1 :: []) M1 := by
        refine v_ior C dX10_heads_69 ?_
        refine v_istore_n C [(1, .int (x1 ||| (if (M1 214 x4.toNatClampNeg) = (M1 214 x2.toNatClampNeg) then ((1 : Int32)) <<< (x2 &&& 31) else (0 : Int32)))), (0, .ref (w.2.1 211)), (2, .int x2), (3, .int x3), (4, .int x4)] rfl (by decide) dX10_heads_70 ?_
        refine v_iinc C (j := 4) [(4, .int (x4 + 1)), (1, .int (x1 ||| (if (M1 214 x4.toNatClampNeg) = (M1 214 x2.toNatClampNeg) then ((1 : Int32)) <<< (x2 &&& 31) else (0 : Int32)))), (0, .ref (w.2.1 211)), (2, .int x2), (3, .int x3)] rfl (x4 + 1) rfl rfl (by decide) dX10_heads_71 ?_
        refine v_goto C 27 (by decide) dX10_heads_74 ?_
        exact V.sub [2, 1, 3, 4, 0] rfl h
      refine v_icmp_ne C 68 (by decide) dX10_heads_59 (fun hc => ?_) (fun hc => ?_)
      · rw [show (if (M1 214 x4.toNatClampNeg) = (M1 214 x2.toNatClampNeg) then ((1 : Int32)) <<< (x2 &&& 31) else (0 : Int32) : Int32) = (0 : Int32) from if_neg hc] at key4
        refine v_kc C (0) (by decide) dX10_heads_68 ?_
        exact key4
      · rw [show (if (M1 214 x4.toNatClampNeg) = (M1 214 x2.toNatClampNeg) then ((1 : Int32)) <<< (x2 &&& 31) else (0 : Int32) : Int32) = ((1 : Int32)) <<< (x2 &&& 31) from if_pos hc] at key4
        refine v_kc C (1) (by decide) dX10_heads_62 ?_
        refine v_iload_n C 2 rfl dX10_heads_63 ?_
        refine v_ishl C dX10_heads_64 ?_
        refine v_goto C 69 (by decide) dX10_heads_65 ?_
        exact key4
theorem mt_X10_heads {w : Wx} {l : Launch} (k_X10_behindOf : Ct_X10_behindOf w l) (k_X10_has : Ct_X10_has w l) : Ct_X10_heads w l := by
  intro M Q h
  refine met_i (by decide +kernel) (Nat.le_of_ble_eq_true rfl) (fun G C hG Rt => ?_)
  subst hG
  exact wk_X10_heads C Rt k_X10_behindOf k_X10_has M (h _ _ (fun x1 x2 M h => wk_X10_heads_4 C Rt k_X10_behindOf k_X10_has x1 x2 M h) (fun x1 x2 x3 x4 M h => wk_X10_heads_27 C Rt k_X10_behindOf k_X10_has x1 x2 x3 x4 M h))
theorem ct_X10_heads (w : Wx) (l : Launch) : Ct_X10_heads w l := mt_X10_heads (ct_X10_behindOf w l) (ct_X10_has w l)
set_option maxRecDepth 4000 in
theorem wk_X10_told {w : Wx} {G : Gx} {Q : Int32 → Mem → Prop} (C : Cx w G cX10_told RX10 3 70 2) (Rt : ∀ (pc : Nat) (lv : List (Nat × Value)) (r0 : Int32) (M0 : Mem), decode cX10_told pc = .ok (.ireturn, 1) → Q r0 M0 → V w G pc lv [.int r0] M0) (k_X10_taken : Ct_X10_taken w G.2.1) (k_X10_followers : Ct_X10_followers w G.2.1) (k_X10_ringsNow : Ct_X10_ringsNow w G.2.1) (k_X10_heads : Ct_X10_heads w G.2.1) (a1 : Int32) (M : Mem) (h : bd_X10_told Q a1 M) : V w G 0 [(0, .ref (w.2.1 211)), (1, .int a1)] [] M := by
  unfold bd_X10_told at h
  refine v_iload_n C 1 rfl dX10_told_0 ?_
  by_cases z1_0 : a1 = 0
  · have h := h.1 z1_0
    refine v_tableIn C (off := 63) 64 (by decide) (by rw [z1_0]; decide) (by rw [z1_0]; decide) (by rw [z1_0]; decide) dX10_told_1 ?_
    refine v_aload_n C 0 rfl dX10_told_64 ?_
    refine g9_0 C kb211 kd211 fl_X10_78 dX10_told_65 ?_
    exact Rt _ _ _ _ dX10_told_68 h
  by_cases z1_1 : a1 = 1
  · have h := h.2.1 z1_1
    refine v_tableIn C (off := 68) 69 (by decide) (by rw [z1_1]; decide) (by rw [z1_1]; decide) (by rw [z1_1]; decide) dX10_told_1 ?_
    refine v_aload_n C 0 rfl dX10_told_69 ?_
    refine g9_1 C kb211 kd211 fl_X10_141 dX10_told_70 ?_
    exact Rt _ _ _ _ dX10_told_73 h
  by_cases z1_2 : a1 = 2
  · have h := h.2.2.1 z1_2
    refine v_tableIn C (off := 73) 74 (by decide) (by rw [z1_2]; decide) (by rw [z1_2]; decide) (by rw [z1_2]; decide) dX10_told_1 ?_
    refine v_aload_n C 0 rfl dX10_told_74 ?_
    refine g9_2 C kb211 kd211 fl_X10_85 dX10_told_75 ?_
    exact Rt _ _ _ _ dX10_told_78 h
  by_cases z1_3 : a1 = 3
  · have h := h.2.2.2.1 z1_3
    refine v_tableIn C (off := 78) 79 (by decide) (by rw [z1_3]; decide) (by rw [z1_3]; decide) (by rw [z1_3]; decide) dX10_told_1 ?_
    refine v_aload_n C 0 rfl dX10_told_79 ?_
    refine g9_8 C kb211 kd211 fl_X10_95 dX10_told_80 ?_
    exact Rt _ _ _ _ dX10_told_83 h
  by_cases z1_4 : a1 = 4
  · have h := h.2.2.2.2.1 z1_4
    refine v_tableIn C (off := 83) 84 (by decide) (by rw [z1_4]; decide) (by rw [z1_4]; decide) (by rw [z1_4]; decide) dX10_told_1 ?_
    refine v_aload_n C 0 rfl dX10_told_84 ?_
    refine g9_5 C kb211 kd211 fl_X10_16 dX10_told_85 ?_
    refine v_kb C (40) (by decide) dX10_told_88 ?_
    obtain ⟨s2, h⟩ := h
    refine v_iald C kb214 kd214 ln214 s2 dX10_told_90 ?_
    exact Rt _ _ _ _ dX10_told_91 h
  by_cases z1_5 : a1 = 5
  · have h := h.2.2.2.2.2.1 z1_5
    refine v_tableIn C (off := 91) 92 (by decide) (by rw [z1_5]; decide) (by rw [z1_5]; decide) (by rw [z1_5]; decide) dX10_told_1 ?_
    refine v_aload_n C 0 rfl dX10_told_92 ?_
    refine v_callI C [] (k_X10_taken M _ h) yX10_taken_k ml_X10_176 (rcv9 kb211 kd211) rfl rfl (Nat.le_of_ble_eq_true rfl) ⟨by decide, by decide⟩ dX10_told_93 (fun r3 M3 h => ?_)
    exact Rt _ _ _ _ dX10_told_96 h
  by_cases z1_6 : a1 = 6
  · have h := h.2.2.2.2.2.2.1 z1_6
    refine v_tableIn C (off := 96) 97 (by decide) (by rw [z1_6]; decide) (by rw [z1_6]; decide) (by rw [z1_6]; decide) dX10_told_1 ?_
    refine v_aload_n C 0 rfl dX10_told_97 ?_
    refine v_callI C [] (k_X10_followers M _ h) yX10_followers_k ml_X10_179 (rcv9 kb211 kd211) rfl rfl (Nat.le_of_ble_eq_true rfl) ⟨by decide, by decide⟩ dX10_told_98 (fun r4 M4 h => ?_)
    exact Rt _ _ _ _ dX10_told_101 h
  by_cases z1_7 : a1 = 7
  · have h := h.2.2.2.2.2.2.2.1 z1_7
    refine v_tableIn C (off := 101) 102 (by decide) (by rw [z1_7]; decide) (by rw [z1_7]; decide) (by rw [z1_7]; decide) dX10_told_1 ?_
    refine v_aload_n C 0 rfl dX10_told_102 ?_
    refine v_kc C (-1) (by decide) dX10_told_103 ?_
    refine v_callI C [] (k_X10_ringsNow ((-1 : Int32)) M _ h) yX10_ringsNow_k ml_X10_182 (rcv9 kb211 kd211) rfl rfl (Nat.le_of_ble_eq_true rfl) ⟨by decide, by decide⟩ dX10_told_104 (fun r5 M5 h => ?_)
    exact Rt _ _ _ _ dX10_told_107 h
  by_cases z1_8 : a1 = 8
  · have h := h.2.2.2.2.2.2.2.2.1 z1_8
    refine v_tableIn C (off := 107) 108 (by decide) (by rw [z1_8]; decide) (by rw [z1_8]; decide) (by rw [z1_8]; decide) dX10_told_1 ?_
    refine v_aload_n C 0 rfl dX10_told_108 ?_
    refine v_callI C [] (k_X10_heads M _ h) yX10_heads_k ml_X10_185 (rcv9 kb211 kd211) rfl rfl (Nat.le_of_ble_eq_true rfl) ⟨by decide, by decide⟩ dX10_told_109 (fun r6 M6 h => ?_)
    exact Rt _ _ _ _ dX10_told_112 h
  by_cases z1_9 : a1 = 9
  · have h := h.2.2.2.2.2.2.2.2.2.1 z1_9
    refine v_tableIn C (off := 112) 113 (by decide) (by rw [z1_9]; decide) (by rw [z1_9]; decide) (by rw [z1_9]; decide) dX10_told_1 ?_
    refine v_aload_n C 0 rfl dX10_told_113 ?_
    refine g9_23 C kb211 kd211 fl_X10_150 dX10_told_114 ?_
    exact Rt _ _ _ _ dX10_told_117 h
  by_cases z1_10 : a1 = 10
  · have h := h.2.2.2.2.2.2.2.2.2.2.1 z1_10
    refine v_tableIn C (off := 117) 118 (by decide) (by rw [z1_10]; decide) (by rw [z1_10]; decide) (by rw [z1_10]; decide) dX10_told_1 ?_
    refine v_aload_n C 0 rfl dX10_told_118 ?_
    refine g9_29 C kb211 kd211 fl_X10_153 dX10_told_119 ?_
    exact Rt _ _ _ _ dX10_told_122 h
  by_cases z1_11 : a1 = 11
  · have h := h.2.2.2.2.2.2.2.2.2.2.2.1 z1_11
    refine v_tableIn C (off := 122) 123 (by decide) (by rw [z1_11]; decide) (by rw [z1_11]; decide) (by rw [z1_11]; decide) dX10_told_1 ?_
    refine v_aload_n C 0 rfl dX10_told_123 ?_
    refine g9_20 C kb211 kd211 fl_X10_156 dX10_told_124 ?_
    exact Rt _ _ _ _ dX10_told_127 h
  have h := h.2.2.2.2.2.2.2.2.2.2.2.2 ⟨z1_0, z1_1, z1_2, z1_3, z1_4, z1_5, z1_6, z1_7, z1_8, z1_9, z1_10, z1_11⟩
  refine v_tableOut C 128 (by decide) (sw_out_11 z1_0 z1_1 z1_2 z1_3 z1_4 z1_5 z1_6 z1_7 z1_8 z1_9 z1_10 z1_11) dX10_told_1 ?_
  refine v_ldc C kc_X10_94 dX10_told_128 ?_
  exact Rt _ _ _ _ dX10_told_130 h
theorem mt_X10_told {w : Wx} {l : Launch} (k_X10_taken : Ct_X10_taken w l) (k_X10_followers : Ct_X10_followers w l) (k_X10_ringsNow : Ct_X10_ringsNow w l) (k_X10_heads : Ct_X10_heads w l) : Ct_X10_told w l := by
  intro a1 M Q h
  refine met_i (by decide +kernel) (Nat.le_of_ble_eq_true rfl) (fun G C hG Rt => ?_)
  subst hG
  exact wk_X10_told C Rt k_X10_taken k_X10_followers k_X10_ringsNow k_X10_heads a1 M (h)
theorem ct_X10_told (w : Wx) (l : Launch) : Ct_X10_told w l := mt_X10_told (ct_X10_taken w l) (ct_X10_followers w l) (ct_X10_ringsNow w l) (ct_X10_heads w l)
set_option maxRecDepth 4000 in
theorem wk_X10_isCar {w : Wx} {G : Gx} {Q : Int32 → Mem → Prop} (C : Cx w G cX10_isCar RX10 1 25 2) (Rt : ∀ (pc : Nat) (lv : List (Nat × Value)) (r0 : Int32) (M0 : Mem), decode cX10_isCar pc = .ok (.ireturn, 1) → (r0 = 0 ∨ r0 = 1) → Q r0 M0 → V w G pc lv [.int r0] M0) (k_X10_in : Ct_X10_in w G.2.1) (a1 : Int32) (M : Mem) (h : bd_X10_isCar Q a1 M) : V w G 0 [(0, .ref (w.2.1 211)), (1, .int a1)] [] M := by
  unfold bd_X10_isCar at h
  refine v_iload_n C 1 rfl dX10_isCar_0 ?_
  refine v_i2l C dX10_isCar_1 ?_
  refine v_lconst C 0 (by decide) dX10_isCar_2 ?_
  refine v_aload_n C 0 rfl dX10_isCar_3 ?_
  refine g9_2 C kb211 kd211 fl_X10_85 dX10_isCar_4 ?_
  refine v_kc C (1) (by decide) dX10_isCar_7 ?_
  refine v_isub C dX10_isCar_8 ?_
  refine v_i2l C dX10_isCar_9 ?_
  refine v_callSI C [] (k_X10_in a1.toInt64 ((0 : Int64)) (((M 211 2) - ((1 : Int32))).toInt64) M _ h) yX10_in_k ml_X10_81 rfl rfl (Nat.le_of_ble_eq_true rfl) ⟨by decide, by decide⟩ dX10_isCar_10 (fun r1 M1 h => ?_)
  exact Rt _ _ _ _ dX10_isCar_13 h.1 h.2
theorem mt_X10_isCar {w : Wx} {l : Launch} (k_X10_in : Ct_X10_in w l) : Ct_X10_isCar w l := by
  intro a1 M Q h
  refine met_z (by decide +kernel) (Nat.le_of_ble_eq_true rfl) (fun G C hG Rt => ?_)
  subst hG
  exact wk_X10_isCar C Rt k_X10_in a1 M (h)
theorem ct_X10_isCar (w : Wx) (l : Launch) : Ct_X10_isCar w l := mt_X10_isCar (ct_X10_in w l)
set_option maxRecDepth 4000 in
theorem wk_X10_cornerOf {w : Wx} {G : Gx} {Q : Int32 → Mem → Prop} (C : Cx w G cX10_cornerOf RX10 0 0 3) (Rt : ∀ (pc : Nat) (lv : List (Nat × Value)) (r0 : Int32) (M0 : Mem), decode cX10_cornerOf pc = .ok (.ireturn, 1) → Q r0 M0 → V w G pc lv [.int r0] M0) (a1 : Int32) (a2 : Int32) (M : Mem) (h : bd_X10_cornerOf Q a1 a2 M) : V w G 0 [(0, .ref (w.2.1 211)), (1, .int a1), (2, .int a2)] [] M := by
  unfold bd_X10_cornerOf at h
  refine v_aload_n C 0 rfl dX10_cornerOf_0 ?_
  refine g9_3 C kb211 kd211 fl_X10_7 dX10_cornerOf_1 ?_
  refine v_kb C (6) (by decide) dX10_cornerOf_4 ?_
  refine v_iload_n C 1 rfl dX10_cornerOf_6 ?_
  refine v_imul C dX10_cornerOf_7 ?_
  refine v_aload_n C 0 rfl dX10_cornerOf_8 ?_
  refine g9_5 C kb211 kd211 fl_X10_16 dX10_cornerOf_9 ?_
  refine v_kb C (32) (by decide) dX10_cornerOf_12 ?_
  refine v_iload_n C 1 rfl dX10_cornerOf_14 ?_
  refine v_iadd C dX10_cornerOf_15 ?_
  obtain ⟨s1, h⟩ := h
  refine v_iald C kb214 kd214 ln214 s1 dX10_cornerOf_16 ?_
  refine v_kc C (1) (by decide) dX10_cornerOf_17 ?_
  obtain ⟨ca2, cb2, h⟩ := h
  have key2 : V w G 35 [(0, .ref (w.2.1 211)), (1, .int a1), (2, .int a2)] (.int (if (M 214 (((32 : Int32)) + a1).toNatClampNeg) = ((1 : Int32)) then ((M 213 a1.toNatClampNeg) - ((1 : Int32))) - a2 else a2) :: .int (((6 : Int32)) * a1) :: .ref (w.2.1 212) :: []) M := by
    refine v_iadd C dX10_cornerOf_35 ?_
    obtain ⟨s3, h⟩ := h
    refine v_iald C kb212 kd212 ln212 s3 dX10_cornerOf_36 ?_
    exact Rt _ _ _ _ dX10_cornerOf_37 h
  refine v_icmp_ne C 34 (by decide) dX10_cornerOf_18 (fun hc => ?_) (fun hc => ?_)
  · rw [show (if (M 214 (((32 : Int32)) + a1).toNatClampNeg) = ((1 : Int32)) then ((M 213 a1.toNatClampNeg) - ((1 : Int32))) - a2 else a2 : Int32) = a2 from if_neg hc] at key2
    refine v_iload_n C 2 rfl dX10_cornerOf_34 ?_
    exact key2
  · rw [show (if (M 214 (((32 : Int32)) + a1).toNatClampNeg) = ((1 : Int32)) then ((M 213 a1.toNatClampNeg) - ((1 : Int32))) - a2 else a2 : Int32) = ((M 213 a1.toNatClampNeg) - ((1 : Int32))) - a2 from if_pos hc] at key2
    obtain ⟨q0, -⟩ := ca2 hc
    refine v_aload_n C 0 rfl dX10_cornerOf_21 ?_
    refine g9_4 C kb211 kd211 fl_X10_13 dX10_cornerOf_22 ?_
    refine v_iload_n C 1 rfl dX10_cornerOf_25 ?_
    refine v_iald C kb213 kd213 ln213 q0 dX10_cornerOf_26 ?_
    refine v_kc C (1) (by decide) dX10_cornerOf_27 ?_
    refine v_isub C dX10_cornerOf_28 ?_
    refine v_iload_n C 2 rfl dX10_cornerOf_29 ?_
    refine v_isub C dX10_cornerOf_30 ?_
    refine v_goto C 35 (by decide) dX10_cornerOf_31 ?_
    exact key2
theorem mt_X10_cornerOf {w : Wx} {l : Launch} : Ct_X10_cornerOf w l := by
  intro a1 a2 M Q h
  refine met_i (by decide +kernel) (Nat.le_of_ble_eq_true rfl) (fun G C hG Rt => ?_)
  subst hG
  exact wk_X10_cornerOf C Rt a1 a2 M (h)
theorem ct_X10_cornerOf (w : Wx) (l : Launch) : Ct_X10_cornerOf w l := mt_X10_cornerOf
set_option maxRecDepth 4000 in
theorem wk_X10_roundOf {w : Wx} {G : Gx} {Q : Int32 → Mem → Prop} (C : Cx w G cX10_roundOf RX10 1 22 4) (Rt : ∀ (pc : Nat) (lv : List (Nat × Value)) (r0 : Int32) (M0 : Mem), decode cX10_roundOf pc = .ok (.ireturn, 1) → Q r0 M0 → V w G pc lv [.int r0] M0) (k_X10_cornerOf : Ct_X10_cornerOf w G.2.1) (a1 : Int32) (M : Mem) (h : bd_X10_roundOf Q (fun (x2 : Int32) (x3 : Int32) (M : Mem) => V w G 4 [(0, .ref (w.2.1 211)), (1, .int a1), (2, .int x2), (3, .int x3)] [] M) a1 M) : V w G 0 [(0, .ref (w.2.1 211)), (1, .int a1)] [] M := by
  unfold bd_X10_roundOf at h
  refine v_kc C (0) (by decide) dX10_roundOf_0 ?_
  refine v_istore_n C [(2, .int ((0 : Int32))), (0, .ref (w.2.1 211)), (1, .int a1)] rfl (by decide) dX10_roundOf_1 ?_
  refine v_kc C (0) (by decide) dX10_roundOf_2 ?_
  refine v_istore_n C [(3, .int ((0 : Int32))), (2, .int ((0 : Int32))), (0, .ref (w.2.1 211)), (1, .int a1)] rfl (by decide) dX10_roundOf_3 ?_
  exact V.sub [2, 3, 1, 0] rfl h
set_option maxRecDepth 4000 in
theorem wk_X10_roundOf_4 {w : Wx} {G : Gx} {Q : Int32 → Mem → Prop} (C : Cx w G cX10_roundOf RX10 1 22 4) (Rt : ∀ (pc : Nat) (lv : List (Nat × Value)) (r0 : Int32) (M0 : Mem), decode cX10_roundOf pc = .ok (.ireturn, 1) → Q r0 M0 → V w G pc lv [.int r0] M0) (k_X10_cornerOf : Ct_X10_cornerOf w G.2.1) (a1 : Int32) (x2 : Int32) (x3 : Int32) (M : Mem) (h : bd_X10_roundOf_4 Q (fun (x2 : Int32) (x3 : Int32) (M : Mem) => V w G 4 [(0, .ref (w.2.1 211)), (1, .int a1), (2, .int x2), (3, .int x3)] [] M) a1 x2 x3 M) : V w G 4 [(0, .ref (w.2.1 211)), (1, .int a1), (2, .int x2), (3, .int x3)] [] M := by
  unfold bd_X10_roundOf_4 at h
  refine v_iload_n C 3 rfl dX10_roundOf_4 ?_
  refine v_aload_n C 0 rfl dX10_roundOf_5 ?_
  refine g9_4 C kb211 kd211 fl_X10_13 dX10_roundOf_6 ?_
  refine v_iload_n C 1 rfl dX10_roundOf_9 ?_
  obtain ⟨s1, h⟩ := h
  refine v_iald C kb213 kd213 ln213 s1 dX10_roundOf_10 ?_
  refine v_icmp_ge C 34 (by decide) dX10_roundOf_11 (fun hc => ?_) (fun hc => ?_)
  · have h := h.1 hc
    refine v_iload_n C 2 rfl dX10_roundOf_34 ?_
    exact Rt _ _ _ _ dX10_roundOf_35 h
  · have h := h.2 hc
    refine v_kb C (10) (by decide) dX10_roundOf_14 ?_
    refine v_iload_n C 2 rfl dX10_roundOf_16 ?_
    refine v_imul C dX10_roundOf_17 ?_
    refine v_aload_n C 0 rfl dX10_roundOf_18 ?_
    refine v_iload_n C 1 rfl dX10_roundOf_19 ?_
    refine v_iload_n C 3 rfl dX10_roundOf_20 ?_
    refine v_callI C [.int (((10 : Int32)) * x2)] (k_X10_cornerOf a1 x3 M _ h) yX10_cornerOf_k ml_X10_159 (rcv9 kb211 kd211) rfl rfl (Nat.le_of_ble_eq_true rfl) ⟨by decide, by decide⟩ dX10_roundOf_21 (fun r2 M2 h => ?_)
    refine v_iadd C dX10_roundOf_24 ?_
    refine v_kc C (1) (by decide) dX10_roundOf_25 ?_
    refine v_iadd C dX10_roundOf_26 ?_
    refine v_istore_n C [(2, .int (((((10 : Int32)) * x2) + r2) + ((1 : Int32)))), (0, .ref (w.2.1 211)), (1, .int a1), (3, .int x3)] rfl (by decide) dX10_roundOf_27 ?_
    refine v_iinc C (j := 3) [(3, .int (x3 + 1)), (2, .int (((((10 : Int32)) * x2) + r2) + ((1 : Int32)))), (0, .ref (w.2.1 211)), (1, .int a1)] rfl (x3 + 1) rfl rfl (by decide) dX10_roundOf_28 ?_
    refine v_goto C 4 (by decide) dX10_roundOf_31 ?_
    exact V.sub [2, 3, 1, 0] rfl h
theorem mt_X10_roundOf {w : Wx} {l : Launch} (k_X10_cornerOf : Ct_X10_cornerOf w l) : Ct_X10_roundOf w l := by
  intro a1 M Q h
  refine met_i (by decide +kernel) (Nat.le_of_ble_eq_true rfl) (fun G C hG Rt => ?_)
  subst hG
  exact wk_X10_roundOf C Rt k_X10_cornerOf a1 M (h _ (fun x2 x3 M h => wk_X10_roundOf_4 C Rt k_X10_cornerOf a1 x2 x3 M h))
theorem ct_X10_roundOf (w : Wx) (l : Launch) : Ct_X10_roundOf w l := mt_X10_roundOf (ct_X10_cornerOf w l)
set_option maxRecDepth 4000 in
theorem wk_X10_car {w : Wx} {G : Gx} {Q : Int32 → Mem → Prop} (C : Cx w G cX10_car RX10 2 46 3) (Rt : ∀ (pc : Nat) (lv : List (Nat × Value)) (r0 : Int32) (M0 : Mem), decode cX10_car pc = .ok (.ireturn, 1) → Q r0 M0 → V w G pc lv [.int r0] M0) (k_X10_isCar : Ct_X10_isCar w G.2.1) (k_X10_roundOf : Ct_X10_roundOf w G.2.1) (a1 : Int32) (a2 : Int32) (M : Mem) (h : bd_X10_car Q a1 a2 M) : V w G 0 [(0, .ref (w.2.1 211)), (1, .int a1), (2, .int a2)] [] M := by
  unfold bd_X10_car at h
  refine v_aload_n C 0 rfl dX10_car_0 ?_
  refine v_iload_n C 1 rfl dX10_car_1 ?_
  refine v_callI C [] (k_X10_isCar a1 M _ h) yX10_isCar_k ml_X10_88 (rcv9 kb211 kd211) rfl rfl (Nat.le_of_ble_eq_true rfl) ⟨by decide, by decide⟩ dX10_car_2 (fun r1 M1 h => ?_)
  refine v_if_ne C 11 (by decide) dX10_car_5 (fun hc => ?_) (fun hc => ?_)
  · have h := h.2 hc
    refine v_iload_n C 2 rfl dX10_car_11 ?_
    by_cases z2_0 : a2 = 0
    · have h := h.1 z2_0
      refine v_tableIn C (off := 36) 48 (by decide) (by rw [z2_0]; decide) (by rw [z2_0]; decide) (by rw [z2_0]; decide) dX10_car_12 ?_
      refine v_aload_n C 0 rfl dX10_car_48 ?_
      refine g9_5 C kb211 kd211 fl_X10_16 dX10_car_49 ?_
      refine v_iload_n C 1 rfl dX10_car_52 ?_
      obtain ⟨s3, h⟩ := h
      refine v_iald C kb214 kd214 ln214 s3 dX10_car_53 ?_
      exact Rt _ _ _ _ dX10_car_54 h
    by_cases z2_1 : a2 = 1
    · have h := h.2.1 z2_1
      refine v_tableIn C (off := 43) 55 (by decide) (by rw [z2_1]; decide) (by rw [z2_1]; decide) (by rw [z2_1]; decide) dX10_car_12 ?_
      refine v_aload_n C 0 rfl dX10_car_55 ?_
      refine g9_5 C kb211 kd211 fl_X10_16 dX10_car_56 ?_
      refine v_kb C (8) (by decide) dX10_car_59 ?_
      refine v_iload_n C 1 rfl dX10_car_61 ?_
      refine v_iadd C dX10_car_62 ?_
      obtain ⟨s4, h⟩ := h
      refine v_iald C kb214 kd214 ln214 s4 dX10_car_63 ?_
      exact Rt _ _ _ _ dX10_car_64 h
    by_cases z2_2 : a2 = 2
    · have h := h.2.2.1 z2_2
      refine v_tableIn C (off := 53) 65 (by decide) (by rw [z2_2]; decide) (by rw [z2_2]; decide) (by rw [z2_2]; decide) dX10_car_12 ?_
      refine v_aload_n C 0 rfl dX10_car_65 ?_
      refine v_iload_n C 1 rfl dX10_car_66 ?_
      refine v_callI C [] (k_X10_roundOf a1 M1 _ h) yX10_roundOf_k ml_X10_189 (rcv9 kb211 kd211) rfl rfl (Nat.le_of_ble_eq_true rfl) ⟨by decide, by decide⟩ dX10_car_67 (fun r5 M5 h => ?_)
      exact Rt _ _ _ _ dX10_car_70 h
    by_cases z2_3 : a2 = 3
    · have h := h.2.2.2.1 z2_3
      refine v_tableIn C (off := 59) 71 (by decide) (by rw [z2_3]; decide) (by rw [z2_3]; decide) (by rw [z2_3]; decide) dX10_car_12 ?_
      refine v_aload_n C 0 rfl dX10_car_71 ?_
      refine g9_5 C kb211 kd211 fl_X10_16 dX10_car_72 ?_
      refine v_kb C (16) (by decide) dX10_car_75 ?_
      refine v_iload_n C 1 rfl dX10_car_77 ?_
      refine v_iadd C dX10_car_78 ?_
      obtain ⟨s6, h⟩ := h
      refine v_iald C kb214 kd214 ln214 s6 dX10_car_79 ?_
      exact Rt _ _ _ _ dX10_car_80 h
    by_cases z2_4 : a2 = 4
    · have h := h.2.2.2.2.1 z2_4
      refine v_tableIn C (off := 69) 81 (by decide) (by rw [z2_4]; decide) (by rw [z2_4]; decide) (by rw [z2_4]; decide) dX10_car_12 ?_
      refine v_aload_n C 0 rfl dX10_car_81 ?_
      refine g9_5 C kb211 kd211 fl_X10_16 dX10_car_82 ?_
      refine v_kb C (24) (by decide) dX10_car_85 ?_
      refine v_iload_n C 1 rfl dX10_car_87 ?_
      refine v_iadd C dX10_car_88 ?_
      obtain ⟨s7, h⟩ := h
      refine v_iald C kb214 kd214 ln214 s7 dX10_car_89 ?_
      exact Rt _ _ _ _ dX10_car_90 h
    have h := h.2.2.2.2.2 ⟨z2_0, z2_1, z2_2, z2_3, z2_4⟩
    refine v_tableOut C 91 (by decide) (sw_out_4 z2_0 z2_1 z2_2 z2_3 z2_4) dX10_car_12 ?_
    refine v_ldc C kc_X10_94 dX10_car_91 ?_
    exact Rt _ _ _ _ dX10_car_93 h
  · have h := h.1 hc
    refine v_ldc C kc_X10_188 dX10_car_8 ?_
    exact Rt _ _ _ _ dX10_car_10 h
theorem mt_X10_car {w : Wx} {l : Launch} (k_X10_isCar : Ct_X10_isCar w l) (k_X10_roundOf : Ct_X10_roundOf w l) : Ct_X10_car w l := by
  intro a1 a2 M Q h
  refine met_i (by decide +kernel) (Nat.le_of_ble_eq_true rfl) (fun G C hG Rt => ?_)
  subst hG
  exact wk_X10_car C Rt k_X10_isCar k_X10_roundOf a1 a2 M (h)
theorem ct_X10_car (w : Wx) (l : Launch) : Ct_X10_car w l := mt_X10_car (ct_X10_isCar w l) (ct_X10_roundOf w l)
set_option maxRecDepth 4000 in
theorem wk_X10_stepsRefused {w : Wx} {G : Gx} {Q : Int32 → Mem → Prop} (C : Cx w G cX10_stepsRefused RX10 1 25 2) (Rt : ∀ (pc : Nat) (lv : List (Nat × Value)) (r0 : Int32) (M0 : Mem), decode cX10_stepsRefused pc = .ok (.ireturn, 1) → Q r0 M0 → V w G pc lv [.int r0] M0) (k_X10_in : Ct_X10_in w G.2.1) (a1 : Int32) (M : Mem) (h : bd_X10_stepsRefused Q a1 M) : V w G 0 [(0, .ref (w.2.1 211)), (1, .int a1)] [] M := by
  unfold bd_X10_stepsRefused at h
  refine v_iload_n C 1 rfl dX10_stepsRefused_0 ?_
  refine v_i2l C dX10_stepsRefused_1 ?_
  refine v_lconst C 1 (by decide) dX10_stepsRefused_2 ?_
  refine v_ldc2 C kl_X10_192 dX10_stepsRefused_3 ?_
  refine v_callSI C [] (k_X10_in a1.toInt64 ((1 : Int64)) ((60 : Int64)) M _ h) yX10_in_k ml_X10_81 rfl rfl (Nat.le_of_ble_eq_true rfl) ⟨by decide, by decide⟩ dX10_stepsRefused_6 (fun r1 M1 h => ?_)
  refine v_if_ne C 15 (by decide) dX10_stepsRefused_9 (fun hc => ?_) (fun hc => ?_)
  · have h := h.2 hc
    refine v_aload_n C 0 rfl dX10_stepsRefused_15 ?_
    refine g9_0 C kb211 kd211 fl_X10_78 dX10_stepsRefused_16 ?_
    refine v_if_ne C 27 (by decide) dX10_stepsRefused_19 (fun hc => ?_) (fun hc => ?_)
    · have h := h.2 hc
      refine v_aload_n C 0 rfl dX10_stepsRefused_27 ?_
      refine g9_5 C kb211 kd211 fl_X10_16 dX10_stepsRefused_28 ?_
      refine v_kb C (40) (by decide) dX10_stepsRefused_31 ?_
      obtain ⟨s2, h⟩ := h
      refine v_iald C kb214 kd214 ln214 s2 dX10_stepsRefused_33 ?_
      refine v_ks C (9000) (by decide) dX10_stepsRefused_34 ?_
      refine v_icmp_le C 45 (by decide) dX10_stepsRefused_37 (fun hc => ?_) (fun hc => ?_)
      · have h := h.1 hc
        refine v_kc C (0) (by decide) dX10_stepsRefused_45 ?_
        exact Rt _ _ _ _ dX10_stepsRefused_46 h
      · have h := h.2 hc
        refine v_ldc C kc_X10_98 dX10_stepsRefused_40 ?_
        refine v_goto C 46 (by decide) dX10_stepsRefused_42 ?_
        exact Rt _ _ _ _ dX10_stepsRefused_46 h
    · have h := h.1 hc
      refine v_ldc C kc_X10_194 dX10_stepsRefused_22 ?_
      refine v_goto C 46 (by decide) dX10_stepsRefused_24 ?_
      exact Rt _ _ _ _ dX10_stepsRefused_46 h
  · have h := h.1 hc
    refine v_ldc C kc_X10_94 dX10_stepsRefused_12 ?_
    exact Rt _ _ _ _ dX10_stepsRefused_14 h
theorem mt_X10_stepsRefused {w : Wx} {l : Launch} (k_X10_in : Ct_X10_in w l) : Ct_X10_stepsRefused w l := by
  intro a1 M Q h
  refine met_i (by decide +kernel) (Nat.le_of_ble_eq_true rfl) (fun G C hG Rt => ?_)
  subst hG
  exact wk_X10_stepsRefused C Rt k_X10_in a1 M (h)
theorem ct_X10_stepsRefused (w : Wx) (l : Launch) : Ct_X10_stepsRefused w l := mt_X10_stepsRefused (ct_X10_in w l)
set_option maxRecDepth 4000 in
theorem wk_X10_remember {w : Wx} {G : Gx} {Q : Mem → Prop} (C : Cx w G cX10_remember RX10 0 0 2) (Rt : ∀ (pc : Nat) (lv : List (Nat × Value)) (M0 : Mem), decode cX10_remember pc = .ok (.return_, 1) → Q M0 → V w G pc lv [] M0) (M : Mem) (h : bd_X10_remember Q (fun (x1 : Int32) (M : Mem) => V w G 12 [(0, .ref (w.2.1 211)), (1, .int x1)] [] M) (fun (x1 : Int32) (M : Mem) => V w G 52 [(0, .ref (w.2.1 211)), (1, .int x1)] [] M) M) : V w G 0 [(0, .ref (w.2.1 211))] [] M := by
  unfold bd_X10_remember at h
  refine v_aload_n C 0 rfl dX10_remember_0 ?_
  refine g9_20 C kb211 kd211 fl_X10_156 dX10_remember_1 ?_
  refine v_kb C (20) (by decide) dX10_remember_4 ?_
  refine v_icmp_ne C 50 (by decide) dX10_remember_6 (fun hc => ?_) (fun hc => ?_)
  · have h := h.2 hc
    refine v_kc C (0) (by decide) dX10_remember_50 ?_
    refine v_istore_n C [(1, .int ((0 : Int32))), (0, .ref (w.2.1 211))] rfl (by decide) dX10_remember_51 ?_
    exact V.sub [1, 0] rfl h
  · have h := h.1 hc
    refine v_kb C (41) (by decide) dX10_remember_9 ?_
    refine v_istore_n C [(1, .int ((41 : Int32))), (0, .ref (w.2.1 211))] rfl (by decide) dX10_remember_11 ?_
    exact V.sub [1, 0] rfl h
set_option maxRecDepth 4000 in
theorem wk_X10_remember_12 {w : Wx} {G : Gx} {Q : Mem → Prop} (C : Cx w G cX10_remember RX10 0 0 2) (Rt : ∀ (pc : Nat) (lv : List (Nat × Value)) (M0 : Mem), decode cX10_remember pc = .ok (.return_, 1) → Q M0 → V w G pc lv [] M0) (x1 : Int32) (M : Mem) (h : bd_X10_remember_12 Q (fun (x1 : Int32) (M : Mem) => V w G 12 [(0, .ref (w.2.1 211)), (1, .int x1)] [] M) (fun (x1 : Int32) (M : Mem) => V w G 52 [(0, .ref (w.2.1 211)), (1, .int x1)] [] M) x1 M) : V w G 12 [(0, .ref (w.2.1 211)), (1, .int x1)] [] M := by
  unfold bd_X10_remember_12 at h
  refine v_iload_n C 1 rfl dX10_remember_12 ?_
  refine v_ks C (820) (by decide) dX10_remember_13 ?_
  refine v_icmp_ge C 40 (by decide) dX10_remember_16 (fun hc => ?_) (fun hc => ?_)
  · have h := h.1 hc
    refine v_aload_n C 0 rfl dX10_remember_40 ?_
    refine v_dup C rfl dX10_remember_41 ?_
    refine g9_20 C kb211 kd211 fl_X10_156 dX10_remember_42 ?_
    refine v_kc C (1) (by decide) dX10_remember_45 ?_
    refine v_isub C dX10_remember_46 ?_
    refine p9_20 C kb211 kd211 fl_X10_156 dX10_remember_47 (fun M1 e1 => ?_)
    have h := h M1 e1
    refine v_kc C (0) (by decide) dX10_remember_50 ?_
    refine v_istore_n C [(1, .int ((0 : Int32))), (0, .ref (w.2.1 211))] rfl (by decide) dX10_remember_51 ?_
    exact V.sub [1, 0] rfl h
  · have h := h.2 hc
    refine v_aload_n C 0 rfl dX10_remember_19 ?_
    refine g9_21 C kb211 kd211 fl_X10_44 dX10_remember_20 ?_
    refine v_iload_n C 1 rfl dX10_remember_23 ?_
    refine v_kb C (41) (by decide) dX10_remember_24 ?_
    refine v_isub C dX10_remember_26 ?_
    refine v_aload_n C 0 rfl dX10_remember_27 ?_
    refine g9_21 C kb211 kd211 fl_X10_44 dX10_remember_28 ?_
    refine v_iload_n C 1 rfl dX10_remember_31 ?_
    obtain ⟨s2, h⟩ := h
    refine v_iald C kb222 kd222 ln222 s2 dX10_remember_32 ?_
    obtain ⟨s3, h⟩ := h
    refine v_iast C kb222 kd222 ln222 s3 dX10_remember_33 (fun M4 e4 => ?_)
    have h := h M4 e4
    refine v_iinc C (j := 1) [(1, .int (x1 + 1)), (0, .ref (w.2.1 211))] rfl (x1 + 1) rfl rfl (by decide) dX10_remember_34 ?_
    refine v_goto C 12 (by decide) dX10_remember_37 ?_
    exact V.sub [1, 0] rfl h
set_option maxRecDepth 4000 in
theorem wk_X10_remember_52 {w : Wx} {G : Gx} {Q : Mem → Prop} (C : Cx w G cX10_remember RX10 0 0 2) (Rt : ∀ (pc : Nat) (lv : List (Nat × Value)) (M0 : Mem), decode cX10_remember pc = .ok (.return_, 1) → Q M0 → V w G pc lv [] M0) (x1 : Int32) (M : Mem) (h : bd_X10_remember_52 Q (fun (x1 : Int32) (M : Mem) => V w G 12 [(0, .ref (w.2.1 211)), (1, .int x1)] [] M) (fun (x1 : Int32) (M : Mem) => V w G 52 [(0, .ref (w.2.1 211)), (1, .int x1)] [] M) x1 M) : V w G 52 [(0, .ref (w.2.1 211)), (1, .int x1)] [] M := by
  unfold bd_X10_remember_52 at h
  refine v_iload_n C 1 rfl dX10_remember_52 ?_
  refine v_kb C (41) (by decide) dX10_remember_53 ?_
  refine v_icmp_ge C 84 (by decide) dX10_remember_55 (fun hc => ?_) (fun hc => ?_)
  · have h := h.1 hc
    refine v_aload_n C 0 rfl dX10_remember_84 ?_
    refine v_dup C rfl dX10_remember_85 ?_
    refine g9_20 C kb211 kd211 fl_X10_156 dX10_remember_86 ?_
    refine v_kc C (1) (by decide) dX10_remember_89 ?_
    refine v_iadd C dX10_remember_90 ?_
    refine p9_20 C kb211 kd211 fl_X10_156 dX10_remember_91 (fun M1 e1 => ?_)
    have h := h M1 e1
    exact Rt _ _ _ dX10_remember_94 h
  · have h := h.2 hc
    refine v_aload_n C 0 rfl dX10_remember_58 ?_
    refine g9_21 C kb211 kd211 fl_X10_44 dX10_remember_59 ?_
    refine v_kb C (41) (by decide) dX10_remember_62 ?_
    refine v_aload_n C 0 rfl dX10_remember_64 ?_
    refine g9_20 C kb211 kd211 fl_X10_156 dX10_remember_65 ?_
    refine v_imul C dX10_remember_68 ?_
    refine v_iload_n C 1 rfl dX10_remember_69 ?_
    refine v_iadd C dX10_remember_70 ?_
    refine v_aload_n C 0 rfl dX10_remember_71 ?_
    refine g9_5 C kb211 kd211 fl_X10_16 dX10_remember_72 ?_
    refine v_iload_n C 1 rfl dX10_remember_75 ?_
    obtain ⟨s2, h⟩ := h
    refine v_iald C kb214 kd214 ln214 s2 dX10_remember_76 ?_
    obtain ⟨s3, h⟩ := h
    refine v_iast C kb222 kd222 ln222 s3 dX10_remember_77 (fun M4 e4 => ?_)
    have h := h M4 e4
    refine v_iinc C (j := 1) [(1, .int (x1 + 1)), (0, .ref (w.2.1 211))] rfl (x1 + 1) rfl rfl (by decide) dX10_remember_78 ?_
    refine v_goto C 52 (by decide) dX10_remember_81 ?_
    exact V.sub [1, 0] rfl h
theorem mt_X10_remember {w : Wx} {l : Launch} : Ct_X10_remember w l := by
  intro M Q h
  refine met_v (by decide +kernel) (Nat.le_of_ble_eq_true rfl) (fun G C hG Rt => ?_)
  subst hG
  exact wk_X10_remember C Rt M (h _ _ (fun x1 M h => wk_X10_remember_12 C Rt x1 M h) (fun x1 M h => wk_X10_remember_52 C Rt x1 M h))
theorem ct_X10_remember (w : Wx) (l : Launch) : Ct_X10_remember w l := mt_X10_remember
