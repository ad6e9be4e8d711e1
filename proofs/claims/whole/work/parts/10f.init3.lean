set_option maxHeartbeats 4000000 in
theorem ct_X9_init {w : Wx} {ba : Nat} {l : Launch} {E : Nat → va_E} (hE : E 0 = .inr (8, [.null, .null, .null, .null, .null, .null, .null, .null, .null, .null, .int 0, .int 0, .int 0])) : CtN w ba l yX9_init cX9_init 1 3 53 210 2071 [.ref (w.2.1 0)] E (mix w 0 E) (1) (211) := by
  refine met_n (by decide +kernel) rfl (Nat.le_of_ble_eq_true rfl) (by omega) (fun G C hG hI ret => ?_)
  refine VG.cong (E' := cE w 0 8 [.null, .null, .null, .null, .null, .null, .null, .null, .null, .null, .int 0, .int 0, .int 0] E) (fun j hj => cE_start hE (by omega)) ?_
  refine g_aload_n C 0 rfl dX9_init_0 ?_
  refine g_oi C ml_X9_1 (by decide) (by decide) dX9_init_1 ?_
  refine g_aload_n C 0 rfl dX9_init_4 ?_
  refine g_new C tyX8 tyX8_ok inX8 cl_X9_7 it_X8 ii_X8 (ci := 7) rfl [.null, .int 0] (fun j hj => by rcases (show j = 0 ∨ j = 1 by omega) with rfl | rfl <;> rfl) (by decide) (by decide) dX9_init_5 ?_
  refine g_dup C rfl dX9_init_8 ?_
  refine g_callN C [.ref (w.2.1 (1)), .ref (w.2.1 0)] (ct_X8_init (upE_s _ _ _)) yX8_init_y mn_X9_9 rfl rfl (by simp [Value.category]) (by decide) (by decide) (by decide) rfl dX9_init_9 ?_
  rw [cE_mix (by omega)]
  refine g_putF C hI (j := 0) tyX9 tyX9_ok inX9 nmX9 rfl (by omega) cE_b (by decide) fl_X9_10 rfl rfl (ty := (.object "FollowCab$Text")) (.ref (w.2.1 (1))) (by decide +kernel) rfl rfl (Nat.le_of_ble_eq_true rfl) dX9_init_12 ?_
  rw [cE_put]
  show VG w ba G _ _ _ (cE w 0 8 [.ref (w.2.1 (1)), .null, .null, .null, .null, .null, .null, .null, .null, .null, .int 0, .int 0, .int 0] E) _ _ _
  refine g_aload_n C 0 rfl dX9_init_15 ?_
  refine g_new C tyX6 tyX6_ok inX6 cl_X9_16 it_X6 ii_X6 (ci := 5) rfl [.null, .int 0, .int 0, .int 0, .int 0, .null, .int 0, .int 0] (fun j hj => by rcases (show j = 0 ∨ j = 1 ∨ j = 2 ∨ j = 3 ∨ j = 4 ∨ j = 5 ∨ j = 6 ∨ j = 7 by omega) with rfl | rfl | rfl | rfl | rfl | rfl | rfl | rfl <;> rfl) (by decide) (by decide) dX9_init_16 ?_
  refine g_dup C rfl dX9_init_19 ?_
  refine g_aload_n C 0 rfl dX9_init_20 ?_
  refine g_get C (j := 0) inX9 rfl (by omega) ((upE_n (by omega)).trans cE_b) (by decide) fl_X9_10 rfl rfl dX9_init_21 ?_
  refine g_callI C [.ref (w.2.1 (3)), .ref (w.2.1 0)] (ct_X6_init (upE_s _ _ _)) yX6_init_y ml_X9_18 rfl rfl (by simp [Value.category]) (by decide) (by decide) (by decide) rfl dX9_init_24 ?_
  rw [cE_mix (by omega)]
  refine g_putF C hI (j := 1) tyX9 tyX9_ok inX9 nmX9 rfl (by omega) cE_b (by decide) fl_X9_21 rfl rfl (ty := (.object "FollowCab$Reader")) (.ref (w.2.1 (3))) (by decide +kernel) rfl rfl (Nat.le_of_ble_eq_true rfl) dX9_init_27 ?_
  rw [cE_put]
  show VG w ba G _ _ _ (cE w 0 8 [.ref (w.2.1 (1)), .ref (w.2.1 (3)), .null, .null, .null, .null, .null, .null, .null, .null, .int 0, .int 0, .int 0] E) _ _ _
  refine g_aload_n C 0 rfl dX9_init_30 ?_
  refine g_new C tyX7 tyX7_ok inX7 cl_X9_25 it_X7 ii_X7 (ci := 6) rfl [.int 0, .int 0, .null, .null, .null, .null, .null, .null] (fun j hj => by rcases (show j = 0 ∨ j = 1 ∨ j = 2 ∨ j = 3 ∨ j = 4 ∨ j = 5 ∨ j = 6 ∨ j = 7 by omega) with rfl | rfl | rfl | rfl | rfl | rfl | rfl | rfl <;> rfl) (by decide) (by decide) dX9_init_31 ?_
  refine g_dup C rfl dX9_init_34 ?_
  refine g_callN C [.ref (w.2.1 (11)), .ref (w.2.1 0)] (ct_X7_init sc_11 (upE_s _ _ _)) yX7_init_y mn_X9_27 rfl rfl (by simp [Value.category]) (by decide) (by decide) (by decide) rfl dX9_init_35 ?_
  rw [cE_mix (by omega)]
  refine g_putF C hI (j := 2) tyX9 tyX9_ok inX9 nmX9 rfl (by omega) cE_b (by decide) fl_X9_28 rfl rfl (ty := (.object "FollowCab$Scene")) (.ref (w.2.1 (11))) (by decide +kernel) rfl rfl (Nat.le_of_ble_eq_true rfl) dX9_init_38 ?_
  rw [cE_put]
  show VG w ba G _ _ _ (cE w 0 8 [.ref (w.2.1 (1)), .ref (w.2.1 (3)), .ref (w.2.1 (11)), .null, .null, .null, .null, .null, .null, .null, .int 0, .int 0, .int 0] E) _ _ _
  refine g_aload_n C 0 rfl dX9_init_41 ?_
  refine g_new C tyX7 tyX7_ok inX7 cl_X9_25 it_X7 ii_X7 (ci := 6) rfl [.int 0, .int 0, .null, .null, .null, .null, .null, .null] (fun j hj => by rcases (show j = 0 ∨ j = 1 ∨ j = 2 ∨ j = 3 ∨ j = 4 ∨ j = 5 ∨ j = 6 ∨ j = 7 by omega) with rfl | rfl | rfl | rfl | rfl | rfl | rfl | rfl <;> rfl) (by decide) (by decide) dX9_init_42 ?_
  refine g_dup C rfl dX9_init_45 ?_
  refine g_callN C [.ref (w.2.1 (18)), .ref (w.2.1 0)] (ct_X7_init sc_18 (upE_s _ _ _)) yX7_init_y mn_X9_27 rfl rfl (by simp [Value.category]) (by decide) (by decide) (by decide) rfl dX9_init_46 ?_
  rw [cE_mix (by omega)]
  refine g_putF C hI (j := 3) tyX9 tyX9_ok inX9 nmX9 rfl (by omega) cE_b (by decide) fl_X9_32 rfl rfl (ty := (.object "FollowCab$Scene")) (.ref (w.2.1 (18))) (by decide +kernel) rfl rfl (Nat.le_of_ble_eq_true rfl) dX9_init_49 ?_
  rw [cE_put]
  show VG w ba G _ _ _ (cE w 0 8 [.ref (w.2.1 (1)), .ref (w.2.1 (3)), .ref (w.2.1 (11)), .ref (w.2.1 (18)), .null, .null, .null, .null, .null, .null, .int 0, .int 0, .int 0] E) _ _ _
  refine g_aload_n C 0 rfl dX9_init_52 ?_
  refine g_new C tyX4 tyX4_ok inX4 cl_X9_35 it_X4 ii_X4 (ci := 3) rfl [.null, .int 0, .int 0] (fun j hj => by rcases (show j = 0 ∨ j = 1 ∨ j = 2 by omega) with rfl | rfl | rfl <;> rfl) (by decide) (by decide) dX9_init_53 ?_
  refine g_dup C rfl dX9_init_56 ?_
  refine g_callI C [.ref (w.2.1 (25)), .ref (w.2.1 0)] (ct_X4_init (upE_s _ _ _)) yX4_init_y ml_X9_37 rfl rfl (by simp [Value.category]) (by decide) (by decide) (by decide) rfl dX9_init_57 ?_
  rw [cE_mix (by omega)]
  refine g_putF C hI (j := 4) tyX9 tyX9_ok inX9 nmX9 rfl (by omega) cE_b (by decide) fl_X9_38 rfl rfl (ty := (.object "FollowCab$History")) (.ref (w.2.1 (25))) (by decide +kernel) rfl rfl (Nat.le_of_ble_eq_true rfl) dX9_init_60 ?_
  rw [cE_put]
  show VG w ba G _ _ _ (cE w 0 8 [.ref (w.2.1 (1)), .ref (w.2.1 (3)), .ref (w.2.1 (11)), .ref (w.2.1 (18)), .ref (w.2.1 (25)), .null, .null, .null, .null, .null, .int 0, .int 0, .int 0] E) _ _ _
  refine g_aload_n C 0 rfl dX9_init_63 ?_
  refine g_new C tyX5 tyX5_ok inX5 cl_X9_42 it_X5 ii_X5 (ci := 4) rfl [.null, .null, .null] (fun j hj => by rcases (show j = 0 ∨ j = 1 ∨ j = 2 by omega) with rfl | rfl | rfl <;> rfl) (by decide) (by decide) dX9_init_64 ?_
  refine g_dup C rfl dX9_init_67 ?_
  refine g_callI C [.ref (w.2.1 (167)), .ref (w.2.1 0)] (ct_X5_init (upE_s _ _ _)) yX5_init_y ml_X9_44 rfl rfl (by simp [Value.category]) (by decide) (by decide) (by decide) rfl dX9_init_68 ?_
  rw [cE_mix (by omega)]
  refine g_putF C hI (j := 5) tyX9 tyX9_ok inX9 nmX9 rfl (by omega) cE_b (by decide) fl_X9_45 rfl rfl (ty := (.object "FollowCab$Images")) (.ref (w.2.1 (167))) (by decide +kernel) rfl rfl (Nat.le_of_ble_eq_true rfl) dX9_init_71 ?_
  rw [cE_put]
  show VG w ba G _ _ _ (cE w 0 8 [.ref (w.2.1 (1)), .ref (w.2.1 (3)), .ref (w.2.1 (11)), .ref (w.2.1 (18)), .ref (w.2.1 (25)), .ref (w.2.1 (167)), .null, .null, .null, .null, .int 0, .int 0, .int 0] E) _ _ _
  refine g_aload_n C 0 rfl dX9_init_74 ?_
  refine g_new C tyX1 tyX1_ok inX1 cl_X9_49 it_X1 ii_X1 (ci := 1) rfl [.int 0, .null, .null, .null, .int 0] (fun j hj => by rcases (show j = 0 ∨ j = 1 ∨ j = 2 ∨ j = 3 ∨ j = 4 by omega) with rfl | rfl | rfl | rfl | rfl <;> rfl) (by decide) (by decide) dX9_init_75 ?_
  refine g_dup C rfl dX9_init_78 ?_
  refine g_kb C (6) (by decide) dX9_init_79 ?_
  refine g_callI C [.ref (w.2.1 (185)), .ref (w.2.1 0)] (ct_X1_init6 (upE_s _ _ _)) yX1_init_y ml_X9_51 rfl rfl (by simp [Value.category]) (by decide) (by decide) (by decide) rfl dX9_init_81 ?_
  rw [cE_mix (by omega)]
  refine g_putF C hI (j := 6) tyX9 tyX9_ok inX9 nmX9 rfl (by omega) cE_b (by decide) fl_X9_54 rfl rfl (ty := (.object "FollowCab$Entries")) (.ref (w.2.1 (185))) (by decide +kernel) rfl rfl (Nat.le_of_ble_eq_true rfl) dX9_init_84 ?_
  rw [cE_put]
  show VG w ba G _ _ _ (cE w 0 8 [.ref (w.2.1 (1)), .ref (w.2.1 (3)), .ref (w.2.1 (11)), .ref (w.2.1 (18)), .ref (w.2.1 (25)), .ref (w.2.1 (167)), .ref (w.2.1 (185)), .null, .null, .null, .int 0, .int 0, .int 0] E) _ _ _
  refine g_aload_n C 0 rfl dX9_init_87 ?_
  refine g_new C tyX1 tyX1_ok inX1 cl_X9_49 it_X1 ii_X1 (ci := 1) rfl [.int 0, .null, .null, .null, .int 0] (fun j hj => by rcases (show j = 0 ∨ j = 1 ∨ j = 2 ∨ j = 3 ∨ j = 4 by omega) with rfl | rfl | rfl | rfl | rfl <;> rfl) (by decide) (by decide) dX9_init_88 ?_
  refine g_dup C rfl dX9_init_91 ?_
  refine g_kb C (15) (by decide) dX9_init_92 ?_
  refine g_callI C [.ref (w.2.1 (189)), .ref (w.2.1 0)] (ct_X1_init15 (upE_s _ _ _)) yX1_init_y ml_X9_51 rfl rfl (by simp [Value.category]) (by decide) (by decide) (by decide) rfl dX9_init_94 ?_
  rw [cE_mix (by omega)]
  refine g_putF C hI (j := 7) tyX9 tyX9_ok inX9 nmX9 rfl (by omega) cE_b (by decide) fl_X9_58 rfl rfl (ty := (.object "FollowCab$Entries")) (.ref (w.2.1 (189))) (by decide +kernel) rfl rfl (Nat.le_of_ble_eq_true rfl) dX9_init_97 ?_
  rw [cE_put]
  show VG w ba G _ _ _ (cE w 0 8 [.ref (w.2.1 (1)), .ref (w.2.1 (3)), .ref (w.2.1 (11)), .ref (w.2.1 (18)), .ref (w.2.1 (25)), .ref (w.2.1 (167)), .ref (w.2.1 (185)), .ref (w.2.1 (189)), .null, .null, .int 0, .int 0, .int 0] E) _ _ _
  refine g_aload_n C 0 rfl dX9_init_100 ?_
  refine g_new C tyX3 tyX3_ok inX3 cl_X9_61 it_X3 ii_X3 (ci := 2) rfl [.null, .null, .int 0] (fun j hj => by rcases (show j = 0 ∨ j = 1 ∨ j = 2 by omega) with rfl | rfl | rfl <;> rfl) (by decide) (by decide) dX9_init_101 ?_
  refine g_dup C rfl dX9_init_104 ?_
  refine g_callN C [.ref (w.2.1 (193)), .ref (w.2.1 0)] (ct_X3_init (upE_s _ _ _)) yX3_init_y mn_X9_63 rfl rfl (by simp [Value.category]) (by decide) (by decide) (by decide) rfl dX9_init_105 ?_
  rw [cE_mix (by omega)]
  refine g_putF C hI (j := 8) tyX9 tyX9_ok inX9 nmX9 rfl (by omega) cE_b (by decide) fl_X9_64 rfl rfl (ty := (.object "FollowCab$Guess")) (.ref (w.2.1 (193))) (by decide +kernel) rfl rfl (Nat.le_of_ble_eq_true rfl) dX9_init_108 ?_
  rw [cE_put]
  show VG w ba G _ _ _ (cE w 0 8 [.ref (w.2.1 (1)), .ref (w.2.1 (3)), .ref (w.2.1 (11)), .ref (w.2.1 (18)), .ref (w.2.1 (25)), .ref (w.2.1 (167)), .ref (w.2.1 (185)), .ref (w.2.1 (189)), .ref (w.2.1 (193)), .null, .int 0, .int 0, .int 0] E) _ _ _
  refine g_aload_n C 0 rfl dX9_init_111 ?_
  refine g_new C tyX0 tyX0_ok inX0 cl_X9_68 it_X0 ii_X0 (ci := 0) rfl [.int 0] (fun j hj => by rcases (show j = 0 by omega) with rfl <;> rfl) (by decide) (by decide) dX9_init_112 ?_
  refine g_dup C rfl dX9_init_115 ?_
  refine g_callN C [.ref (w.2.1 (210)), .ref (w.2.1 0)] (ct_X0_init (upE_s _ _ _)) yX0_init_y mn_X9_70 rfl rfl (by simp [Value.category]) (by decide) (by decide) (by decide) rfl dX9_init_116 ?_
  rw [cE_mix (by omega)]
  refine g_putF C hI (j := 9) tyX9 tyX9_ok inX9 nmX9 rfl (by omega) cE_b (by decide) fl_X9_71 rfl rfl (ty := (.object "FollowCab$Draws")) (.ref (w.2.1 (210))) (by decide +kernel) rfl rfl (Nat.le_of_ble_eq_true rfl) dX9_init_119 ?_
  rw [cE_put]
  show VG w ba G _ _ _ (cE w 0 8 [.ref (w.2.1 (1)), .ref (w.2.1 (3)), .ref (w.2.1 (11)), .ref (w.2.1 (18)), .ref (w.2.1 (25)), .ref (w.2.1 (167)), .ref (w.2.1 (185)), .ref (w.2.1 (189)), .ref (w.2.1 (193)), .ref (w.2.1 (210)), .int 0, .int 0, .int 0] E) _ _ _
  refine g_aload_n C 0 rfl dX9_init_122 ?_
  refine g_kc C (0) (by decide) dX9_init_123 ?_
  refine g_put C (j := 10) tyX9 tyX9_ok inX9 nmX9 rfl (by omega) cE_b (by decide) fl_X9_75 rfl rfl (ty := .int) (.int 0) (by decide +kernel) rfl rfl (Nat.le_of_ble_eq_true rfl) dX9_init_124 ?_
  rw [cE_put]
  show VG w ba G _ _ _ (cE w 0 8 [.ref (w.2.1 (1)), .ref (w.2.1 (3)), .ref (w.2.1 (11)), .ref (w.2.1 (18)), .ref (w.2.1 (25)), .ref (w.2.1 (167)), .ref (w.2.1 (185)), .ref (w.2.1 (189)), .ref (w.2.1 (193)), .ref (w.2.1 (210)), .int 0, .int 0, .int 0] E) _ _ _
  refine g_aload_n C 0 rfl dX9_init_127 ?_
  refine g_kc C (0) (by decide) dX9_init_128 ?_
  refine g_put C (j := 11) tyX9 tyX9_ok inX9 nmX9 rfl (by omega) cE_b (by decide) fl_X9_79 rfl rfl (ty := .int) (.int 0) (by decide +kernel) rfl rfl (Nat.le_of_ble_eq_true rfl) dX9_init_129 ?_
  rw [cE_put]
  show VG w ba G _ _ _ (cE w 0 8 [.ref (w.2.1 (1)), .ref (w.2.1 (3)), .ref (w.2.1 (11)), .ref (w.2.1 (18)), .ref (w.2.1 (25)), .ref (w.2.1 (167)), .ref (w.2.1 (185)), .ref (w.2.1 (189)), .ref (w.2.1 (193)), .ref (w.2.1 (210)), .int 0, .int 0, .int 0] E) _ _ _
  refine g_aload_n C 0 rfl dX9_init_132 ?_
  refine g_kc C (-1) (by decide) dX9_init_133 ?_
  refine g_put C (j := 12) tyX9 tyX9_ok inX9 nmX9 rfl (by omega) cE_b (by decide) fl_X9_82 rfl rfl (ty := .int) (.int (-1)) (by decide +kernel) rfl rfl (Nat.le_of_ble_eq_true rfl) dX9_init_134 ?_
  rw [cE_put]
  show VG w ba G _ _ _ (cE w 0 8 [.ref (w.2.1 (1)), .ref (w.2.1 (3)), .ref (w.2.1 (11)), .ref (w.2.1 (18)), .ref (w.2.1 (25)), .ref (w.2.1 (167)), .ref (w.2.1 (185)), .ref (w.2.1 (189)), .ref (w.2.1 (193)), .ref (w.2.1 (210)), .int 0, .int 0, .int (-1)] E) _ _ _
  exact ret 137 _ _ dX9_init_137 (fun j _ => cE_end (rfl) j)
set_option maxHeartbeats 4000000 in
theorem ct_X10_init {w : Wx} {ba : Nat} {l : Launch} {E : Nat → va_E} (hE : E 211 = .inr (9, [.int 0, .int 0, .int 0, .null, .null, .null, .int 0, .null, .int 0, .int 0, .int 0, .int 0, .int 0, .null, .int 0, .null, .null, .null, .null, .null, .int 0, .null, .null, .int 0, .null, .null, .null, .null, .null, .int 0, .null, .null, .null, .null])) : CtN w ba l yX10_init cX10_init 1 1 12 21 1724 [.ref (w.2.1 211)] E (mix w 211 E) (212) (233) := by
  refine met_n (by decide +kernel) rfl (Nat.le_of_ble_eq_true rfl) (by omega) (fun G C hG hI ret => ?_)
  refine VG.cong (E' := cE w 211 9 [.int 0, .int 0, .int 0, .null, .null, .null, .int 0, .null, .int 0, .int 0, .int 0, .int 0, .int 0, .null, .int 0, .null, .null, .null, .null, .null, .int 0, .null, .null, .int 0, .null, .null, .null, .null, .null, .int 0, .null, .null, .null, .null] E) (fun j hj => cE_start hE (by omega)) ?_
  refine g_aload_n C 0 rfl dX10_init_0 ?_
  refine g_oi C ml_X10_1 (by decide) (by decide) dX10_init_1 ?_
  refine g_aload_n C 0 rfl dX10_init_4 ?_
  refine g_kb C (48) (by decide) dX10_init_5 ?_
  refine g_newi C (k := 48) (by decide) (by decide) (by decide) (by decide) (by decide) dX10_init_7 ?_
  rw [cE_new (fe_i (n := 48) (by decide +kernel) (by decide +kernel) (m0z (by decide) (by decide) (by decide) (by decide) (by decide))) (by omega)]
  refine g_putF C hI (j := 3) tyX10 tyX10_ok inX10 nmX10 rfl (by omega) cE_b (by decide) fl_X10_7 rfl rfl (ty := (.array .int)) (.ref (w.2.1 (212))) (by decide +kernel) rfl rfl (Nat.le_of_ble_eq_true rfl) dX10_init_9 ?_
  rw [cE_put]
  show VG w ba G _ _ _ (cE w 211 9 [.int 0, .int 0, .int 0, .ref (w.2.1 (212)), .null, .null, .int 0, .null, .int 0, .int 0, .int 0, .int 0, .int 0, .null, .int 0, .null, .null, .null, .null, .null, .int 0, .null, .null, .int 0, .null, .null, .null, .null, .null, .int 0, .null, .null, .null, .null] E) _ _ _
  refine g_aload_n C 0 rfl dX10_init_12 ?_
  refine g_kb C (8) (by decide) dX10_init_13 ?_
  refine g_newi C (k := 8) (by decide) (by decide) (by decide) (by decide) (by decide) dX10_init_15 ?_
  rw [cE_new (fe_i (n := 8) (by decide +kernel) (by decide +kernel) (m0z (by decide) (by decide) (by decide) (by decide) (by decide))) (by omega)]
  refine g_putF C hI (j := 4) tyX10 tyX10_ok inX10 nmX10 rfl (by omega) cE_b (by decide) fl_X10_13 rfl rfl (ty := (.array .int)) (.ref (w.2.1 (213))) (by decide +kernel) rfl rfl (Nat.le_of_ble_eq_true rfl) dX10_init_17 ?_
  rw [cE_put]
  show VG w ba G _ _ _ (cE w 211 9 [.int 0, .int 0, .int 0, .ref (w.2.1 (212)), .ref (w.2.1 (213)), .null, .int 0, .null, .int 0, .int 0, .int 0, .int 0, .int 0, .null, .int 0, .null, .null, .null, .null, .null, .int 0, .null, .null, .int 0, .null, .null, .null, .null, .null, .int 0, .null, .null, .null, .null] E) _ _ _
  refine g_aload_n C 0 rfl dX10_init_20 ?_
  refine g_kb C (41) (by decide) dX10_init_21 ?_
  refine g_newi C (k := 41) (by decide) (by decide) (by decide) (by decide) (by decide) dX10_init_23 ?_
  rw [cE_new (fe_i (n := 41) (by decide +kernel) (by decide +kernel) (m0z (by decide) (by decide) (by decide) (by decide) (by decide))) (by omega)]
  refine g_putF C hI (j := 5) tyX10 tyX10_ok inX10 nmX10 rfl (by omega) cE_b (by decide) fl_X10_16 rfl rfl (ty := (.array .int)) (.ref (w.2.1 (214))) (by decide +kernel) rfl rfl (Nat.le_of_ble_eq_true rfl) dX10_init_25 ?_
  rw [cE_put]
  show VG w ba G _ _ _ (cE w 211 9 [.int 0, .int 0, .int 0, .ref (w.2.1 (212)), .ref (w.2.1 (213)), .ref (w.2.1 (214)), .int 0, .null, .int 0, .int 0, .int 0, .int 0, .int 0, .null, .int 0, .null, .null, .null, .null, .null, .int 0, .null, .null, .int 0, .null, .null, .null, .null, .null, .int 0, .null, .null, .null, .null] E) _ _ _
  refine g_aload_n C 0 rfl dX10_init_28 ?_
  refine g_ks C (240) (by decide) dX10_init_29 ?_
  refine g_newi C (k := 240) (by decide) (by decide) (by decide) (by decide) (by decide) dX10_init_32 ?_
  rw [cE_new (fe_i (n := 240) (by decide +kernel) (by decide +kernel) (m0z (by decide) (by decide) (by decide) (by decide) (by decide))) (by omega)]
  refine g_putF C hI (j := 7) tyX10 tyX10_ok inX10 nmX10 rfl (by omega) cE_b (by decide) fl_X10_19 rfl rfl (ty := (.array .int)) (.ref (w.2.1 (215))) (by decide +kernel) rfl rfl (Nat.le_of_ble_eq_true rfl) dX10_init_34 ?_
  rw [cE_put]
  show VG w ba G _ _ _ (cE w 211 9 [.int 0, .int 0, .int 0, .ref (w.2.1 (212)), .ref (w.2.1 (213)), .ref (w.2.1 (214)), .int 0, .ref (w.2.1 (215)), .int 0, .int 0, .int 0, .int 0, .int 0, .null, .int 0, .null, .null, .null, .null, .null, .int 0, .null, .null, .int 0, .null, .null, .null, .null, .null, .int 0, .null, .null, .null, .null] E) _ _ _
  refine g_aload_n C 0 rfl dX10_init_37 ?_
  refine g_kc C (-1) (by decide) dX10_init_38 ?_
  refine g_put C (j := 9) tyX10 tyX10_ok inX10 nmX10 rfl (by omega) cE_b (by decide) fl_X10_22 rfl rfl (ty := .int) (.int (-1)) (by decide +kernel) rfl rfl (Nat.le_of_ble_eq_true rfl) dX10_init_39 ?_
  rw [cE_put]
  show VG w ba G _ _ _ (cE w 211 9 [.int 0, .int 0, .int 0, .ref (w.2.1 (212)), .ref (w.2.1 (213)), .ref (w.2.1 (214)), .int 0, .ref (w.2.1 (215)), .int 0, .int (-1), .int 0, .int 0, .int 0, .null, .int 0, .null, .null, .null, .null, .null, .int 0, .null, .null, .int 0, .null, .null, .null, .null, .null, .int 0, .null, .null, .null, .null] E) _ _ _
  refine g_aload_n C 0 rfl dX10_init_42 ?_
  refine g_kc C (2) (by decide) dX10_init_43 ?_
  refine g_newi C (k := 2) (by decide) (by decide) (by decide) (by decide) (by decide) dX10_init_44 ?_
  rw [cE_new (fe_i (n := 2) (by decide +kernel) (by decide +kernel) (m0z (by decide) (by decide) (by decide) (by decide) (by decide))) (by omega)]
  refine g_putF C hI (j := 13) tyX10 tyX10_ok inX10 nmX10 rfl (by omega) cE_b (by decide) fl_X10_26 rfl rfl (ty := (.array .int)) (.ref (w.2.1 (216))) (by decide +kernel) rfl rfl (Nat.le_of_ble_eq_true rfl) dX10_init_46 ?_
  rw [cE_put]
  show VG w ba G _ _ _ (cE w 211 9 [.int 0, .int 0, .int 0, .ref (w.2.1 (212)), .ref (w.2.1 (213)), .ref (w.2.1 (214)), .int 0, .ref (w.2.1 (215)), .int 0, .int (-1), .int 0, .int 0, .int 0, .ref (w.2.1 (216)), .int 0, .null, .null, .null, .null, .null, .int 0, .null, .null, .int 0, .null, .null, .null, .null, .null, .int 0, .null, .null, .null, .null] E) _ _ _
  refine g_aload_n C 0 rfl dX10_init_49 ?_
  refine g_kb C (8) (by decide) dX10_init_50 ?_
  refine g_newi C (k := 8) (by decide) (by decide) (by decide) (by decide) (by decide) dX10_init_52 ?_
  rw [cE_new (fe_i (n := 8) (by decide +kernel) (by decide +kernel) (m0z (by decide) (by decide) (by decide) (by decide) (by decide))) (by omega)]
  refine g_putF C hI (j := 15) tyX10 tyX10_ok inX10 nmX10 rfl (by omega) cE_b (by decide) fl_X10_29 rfl rfl (ty := (.array .int)) (.ref (w.2.1 (217))) (by decide +kernel) rfl rfl (Nat.le_of_ble_eq_true rfl) dX10_init_54 ?_
  rw [cE_put]
  show VG w ba G _ _ _ (cE w 211 9 [.int 0, .int 0, .int 0, .ref (w.2.1 (212)), .ref (w.2.1 (213)), .ref (w.2.1 (214)), .int 0, .ref (w.2.1 (215)), .int 0, .int (-1), .int 0, .int 0, .int 0, .ref (w.2.1 (216)), .int 0, .ref (w.2.1 (217)), .null, .null, .null, .null, .int 0, .null, .null, .int 0, .null, .null, .null, .null, .null, .int 0, .null, .null, .null, .null] E) _ _ _
  refine g_aload_n C 0 rfl dX10_init_57 ?_
  refine g_kb C (48) (by decide) dX10_init_58 ?_
  refine g_newi C (k := 48) (by decide) (by decide) (by decide) (by decide) (by decide) dX10_init_60 ?_
  rw [cE_new (fe_i (n := 48) (by decide +kernel) (by decide +kernel) (m0z (by decide) (by decide) (by decide) (by decide) (by decide))) (by omega)]
  refine g_putF C hI (j := 16) tyX10 tyX10_ok inX10 nmX10 rfl (by omega) cE_b (by decide) fl_X10_32 rfl rfl (ty := (.array .int)) (.ref (w.2.1 (218))) (by decide +kernel) rfl rfl (Nat.le_of_ble_eq_true rfl) dX10_init_62 ?_
  rw [cE_put]
  show VG w ba G _ _ _ (cE w 211 9 [.int 0, .int 0, .int 0, .ref (w.2.1 (212)), .ref (w.2.1 (213)), .ref (w.2.1 (214)), .int 0, .ref (w.2.1 (215)), .int 0, .int (-1), .int 0, .int 0, .int 0, .ref (w.2.1 (216)), .int 0, .ref (w.2.1 (217)), .ref (w.2.1 (218)), .null, .null, .null, .int 0, .null, .null, .int 0, .null, .null, .null, .null, .null, .int 0, .null, .null, .null, .null] E) _ _ _
  refine g_aload_n C 0 rfl dX10_init_65 ?_
  refine g_kb C (8) (by decide) dX10_init_66 ?_
  refine g_newi C (k := 8) (by decide) (by decide) (by decide) (by decide) (by decide) dX10_init_68 ?_
  rw [cE_new (fe_i (n := 8) (by decide +kernel) (by decide +kernel) (m0z (by decide) (by decide) (by decide) (by decide) (by decide))) (by omega)]
  refine g_putF C hI (j := 17) tyX10 tyX10_ok inX10 nmX10 rfl (by omega) cE_b (by decide) fl_X10_35 rfl rfl (ty := (.array .int)) (.ref (w.2.1 (219))) (by decide +kernel) rfl rfl (Nat.le_of_ble_eq_true rfl) dX10_init_70 ?_
  rw [cE_put]
  show VG w ba G _ _ _ (cE w 211 9 [.int 0, .int 0, .int 0, .ref (w.2.1 (212)), .ref (w.2.1 (213)), .ref (w.2.1 (214)), .int 0, .ref (w.2.1 (215)), .int 0, .int (-1), .int 0, .int 0, .int 0, .ref (w.2.1 (216)), .int 0, .ref (w.2.1 (217)), .ref (w.2.1 (218)), .ref (w.2.1 (219)), .null, .null, .int 0, .null, .null, .int 0, .null, .null, .null, .null, .null, .int 0, .null, .null, .null, .null] E) _ _ _
  refine g_aload_n C 0 rfl dX10_init_73 ?_
  refine g_kb C (8) (by decide) dX10_init_74 ?_
  refine g_newi C (k := 8) (by decide) (by decide) (by decide) (by decide) (by decide) dX10_init_76 ?_
  rw [cE_new (fe_i (n := 8) (by decide +kernel) (by decide +kernel) (m0z (by decide) (by decide) (by decide) (by decide) (by decide))) (by omega)]
  refine g_putF C hI (j := 18) tyX10 tyX10_ok inX10 nmX10 rfl (by omega) cE_b (by decide) fl_X10_38 rfl rfl (ty := (.array .int)) (.ref (w.2.1 (220))) (by decide +kernel) rfl rfl (Nat.le_of_ble_eq_true rfl) dX10_init_78 ?_
  rw [cE_put]
  show VG w ba G _ _ _ (cE w 211 9 [.int 0, .int 0, .int 0, .ref (w.2.1 (212)), .ref (w.2.1 (213)), .ref (w.2.1 (214)), .int 0, .ref (w.2.1 (215)), .int 0, .int (-1), .int 0, .int 0, .int 0, .ref (w.2.1 (216)), .int 0, .ref (w.2.1 (217)), .ref (w.2.1 (218)), .ref (w.2.1 (219)), .ref (w.2.1 (220)), .null, .int 0, .null, .null, .int 0, .null, .null, .null, .null, .null, .int 0, .null, .null, .null, .null] E) _ _ _
  refine g_aload_n C 0 rfl dX10_init_81 ?_
  refine g_kb C (8) (by decide) dX10_init_82 ?_
  refine g_newi C (k := 8) (by decide) (by decide) (by decide) (by decide) (by decide) dX10_init_84 ?_
  rw [cE_new (fe_i (n := 8) (by decide +kernel) (by decide +kernel) (m0z (by decide) (by decide) (by decide) (by decide) (by decide))) (by omega)]
  refine g_putF C hI (j := 19) tyX10 tyX10_ok inX10 nmX10 rfl (by omega) cE_b (by decide) fl_X10_41 rfl rfl (ty := (.array .int)) (.ref (w.2.1 (221))) (by decide +kernel) rfl rfl (Nat.le_of_ble_eq_true rfl) dX10_init_86 ?_
  rw [cE_put]
  show VG w ba G _ _ _ (cE w 211 9 [.int 0, .int 0, .int 0, .ref (w.2.1 (212)), .ref (w.2.1 (213)), .ref (w.2.1 (214)), .int 0, .ref (w.2.1 (215)), .int 0, .int (-1), .int 0, .int 0, .int 0, .ref (w.2.1 (216)), .int 0, .ref (w.2.1 (217)), .ref (w.2.1 (218)), .ref (w.2.1 (219)), .ref (w.2.1 (220)), .ref (w.2.1 (221)), .int 0, .null, .null, .int 0, .null, .null, .null, .null, .null, .int 0, .null, .null, .null, .null] E) _ _ _
  refine g_aload_n C 0 rfl dX10_init_89 ?_
  refine g_ks C (820) (by decide) dX10_init_90 ?_
  refine g_newi C (k := 820) (by decide) (by decide) (by decide) (by decide) (by decide) dX10_init_93 ?_
  rw [cE_new (fe_i (n := 820) (by decide +kernel) (by decide +kernel) (m0z (by decide) (by decide) (by decide) (by decide) (by decide))) (by omega)]
  refine g_putF C hI (j := 21) tyX10 tyX10_ok inX10 nmX10 rfl (by omega) cE_b (by decide) fl_X10_44 rfl rfl (ty := (.array .int)) (.ref (w.2.1 (222))) (by decide +kernel) rfl rfl (Nat.le_of_ble_eq_true rfl) dX10_init_95 ?_
  rw [cE_put]
  show VG w ba G _ _ _ (cE w 211 9 [.int 0, .int 0, .int 0, .ref (w.2.1 (212)), .ref (w.2.1 (213)), .ref (w.2.1 (214)), .int 0, .ref (w.2.1 (215)), .int 0, .int (-1), .int 0, .int 0, .int 0, .ref (w.2.1 (216)), .int 0, .ref (w.2.1 (217)), .ref (w.2.1 (218)), .ref (w.2.1 (219)), .ref (w.2.1 (220)), .ref (w.2.1 (221)), .int 0, .ref (w.2.1 (222)), .null, .int 0, .null, .null, .null, .null, .null, .int 0, .null, .null, .null, .null] E) _ _ _
  refine g_aload_n C 0 rfl dX10_init_98 ?_
  refine g_kb C (41) (by decide) dX10_init_99 ?_
  refine g_newi C (k := 41) (by decide) (by decide) (by decide) (by decide) (by decide) dX10_init_101 ?_
  rw [cE_new (fe_i (n := 41) (by decide +kernel) (by decide +kernel) (m0z (by decide) (by decide) (by decide) (by decide) (by decide))) (by omega)]
  refine g_putF C hI (j := 22) tyX10 tyX10_ok inX10 nmX10 rfl (by omega) cE_b (by decide) fl_X10_47 rfl rfl (ty := (.array .int)) (.ref (w.2.1 (223))) (by decide +kernel) rfl rfl (Nat.le_of_ble_eq_true rfl) dX10_init_103 ?_
  rw [cE_put]
  show VG w ba G _ _ _ (cE w 211 9 [.int 0, .int 0, .int 0, .ref (w.2.1 (212)), .ref (w.2.1 (213)), .ref (w.2.1 (214)), .int 0, .ref (w.2.1 (215)), .int 0, .int (-1), .int 0, .int 0, .int 0, .ref (w.2.1 (216)), .int 0, .ref (w.2.1 (217)), .ref (w.2.1 (218)), .ref (w.2.1 (219)), .ref (w.2.1 (220)), .ref (w.2.1 (221)), .int 0, .ref (w.2.1 (222)), .ref (w.2.1 (223)), .int 0, .null, .null, .null, .null, .null, .int 0, .null, .null, .null, .null] E) _ _ _
  refine g_aload_n C 0 rfl dX10_init_106 ?_
  refine g_kb C (6) (by decide) dX10_init_107 ?_
  refine g_newi C (k := 6) (by decide) (by decide) (by decide) (by decide) (by decide) dX10_init_109 ?_
  rw [cE_new (fe_i (n := 6) (by decide +kernel) (by decide +kernel) (m0z (by decide) (by decide) (by decide) (by decide) (by decide))) (by omega)]
  refine g_putF C hI (j := 24) tyX10 tyX10_ok inX10 nmX10 rfl (by omega) cE_b (by decide) fl_X10_50 rfl rfl (ty := (.array .int)) (.ref (w.2.1 (224))) (by decide +kernel) rfl rfl (Nat.le_of_ble_eq_true rfl) dX10_init_111 ?_
  rw [cE_put]
  show VG w ba G _ _ _ (cE w 211 9 [.int 0, .int 0, .int 0, .ref (w.2.1 (212)), .ref (w.2.1 (213)), .ref (w.2.1 (214)), .int 0, .ref (w.2.1 (215)), .int 0, .int (-1), .int 0, .int 0, .int 0, .ref (w.2.1 (216)), .int 0, .ref (w.2.1 (217)), .ref (w.2.1 (218)), .ref (w.2.1 (219)), .ref (w.2.1 (220)), .ref (w.2.1 (221)), .int 0, .ref (w.2.1 (222)), .ref (w.2.1 (223)), .int 0, .ref (w.2.1 (224)), .null, .null, .null, .null, .int 0, .null, .null, .null, .null] E) _ _ _
  refine g_aload_n C 0 rfl dX10_init_114 ?_
  refine g_kb C (6) (by decide) dX10_init_115 ?_
  refine g_newi C (k := 6) (by decide) (by decide) (by decide) (by decide) (by decide) dX10_init_117 ?_
  rw [cE_new (fe_i (n := 6) (by decide +kernel) (by decide +kernel) (m0z (by decide) (by decide) (by decide) (by decide) (by decide))) (by omega)]
  refine g_putF C hI (j := 25) tyX10 tyX10_ok inX10 nmX10 rfl (by omega) cE_b (by decide) fl_X10_53 rfl rfl (ty := (.array .int)) (.ref (w.2.1 (225))) (by decide +kernel) rfl rfl (Nat.le_of_ble_eq_true rfl) dX10_init_119 ?_
  rw [cE_put]
  show VG w ba G _ _ _ (cE w 211 9 [.int 0, .int 0, .int 0, .ref (w.2.1 (212)), .ref (w.2.1 (213)), .ref (w.2.1 (214)), .int 0, .ref (w.2.1 (215)), .int 0, .int (-1), .int 0, .int 0, .int 0, .ref (w.2.1 (216)), .int 0, .ref (w.2.1 (217)), .ref (w.2.1 (218)), .ref (w.2.1 (219)), .ref (w.2.1 (220)), .ref (w.2.1 (221)), .int 0, .ref (w.2.1 (222)), .ref (w.2.1 (223)), .int 0, .ref (w.2.1 (224)), .ref (w.2.1 (225)), .null, .null, .null, .int 0, .null, .null, .null, .null] E) _ _ _
  refine g_aload_n C 0 rfl dX10_init_122 ?_
  refine g_kb C (6) (by decide) dX10_init_123 ?_
  refine g_newi C (k := 6) (by decide) (by decide) (by decide) (by decide) (by decide) dX10_init_125 ?_
  rw [cE_new (fe_i (n := 6) (by decide +kernel) (by decide +kernel) (m0z (by decide) (by decide) (by decide) (by decide) (by decide))) (by omega)]
  refine g_putF C hI (j := 26) tyX10 tyX10_ok inX10 nmX10 rfl (by omega) cE_b (by decide) fl_X10_56 rfl rfl (ty := (.array .int)) (.ref (w.2.1 (226))) (by decide +kernel) rfl rfl (Nat.le_of_ble_eq_true rfl) dX10_init_127 ?_
  rw [cE_put]
  show VG w ba G _ _ _ (cE w 211 9 [.int 0, .int 0, .int 0, .ref (w.2.1 (212)), .ref (w.2.1 (213)), .ref (w.2.1 (214)), .int 0, .ref (w.2.1 (215)), .int 0, .int (-1), .int 0, .int 0, .int 0, .ref (w.2.1 (216)), .int 0, .ref (w.2.1 (217)), .ref (w.2.1 (218)), .ref (w.2.1 (219)), .ref (w.2.1 (220)), .ref (w.2.1 (221)), .int 0, .ref (w.2.1 (222)), .ref (w.2.1 (223)), .int 0, .ref (w.2.1 (224)), .ref (w.2.1 (225)), .ref (w.2.1 (226)), .null, .null, .int 0, .null, .null, .null, .null] E) _ _ _
  refine g_aload_n C 0 rfl dX10_init_130 ?_
  refine g_kb C (31) (by decide) dX10_init_131 ?_
  refine g_newi C (k := 31) (by decide) (by decide) (by decide) (by decide) (by decide) dX10_init_133 ?_
  rw [cE_new (fe_i (n := 31) (by decide +kernel) (by decide +kernel) (m0z (by decide) (by decide) (by decide) (by decide) (by decide))) (by omega)]
  refine g_putF C hI (j := 27) tyX10 tyX10_ok inX10 nmX10 rfl (by omega) cE_b (by decide) fl_X10_59 rfl rfl (ty := (.array .int)) (.ref (w.2.1 (227))) (by decide +kernel) rfl rfl (Nat.le_of_ble_eq_true rfl) dX10_init_135 ?_
  rw [cE_put]
  show VG w ba G _ _ _ (cE w 211 9 [.int 0, .int 0, .int 0, .ref (w.2.1 (212)), .ref (w.2.1 (213)), .ref (w.2.1 (214)), .int 0, .ref (w.2.1 (215)), .int 0, .int (-1), .int 0, .int 0, .int 0, .ref (w.2.1 (216)), .int 0, .ref (w.2.1 (217)), .ref (w.2.1 (218)), .ref (w.2.1 (219)), .ref (w.2.1 (220)), .ref (w.2.1 (221)), .int 0, .ref (w.2.1 (222)), .ref (w.2.1 (223)), .int 0, .ref (w.2.1 (224)), .ref (w.2.1 (225)), .ref (w.2.1 (226)), .ref (w.2.1 (227)), .null, .int 0, .null, .null, .null, .null] E) _ _ _
  refine g_aload_n C 0 rfl dX10_init_138 ?_
  refine g_ks C (279) (by decide) dX10_init_139 ?_
  refine g_newi C (k := 279) (by decide) (by decide) (by decide) (by decide) (by decide) dX10_init_142 ?_
  rw [cE_new (fe_i (n := 279) (by decide +kernel) (by decide +kernel) (m0z (by decide) (by decide) (by decide) (by decide) (by decide))) (by omega)]
  refine g_putF C hI (j := 28) tyX10 tyX10_ok inX10 nmX10 rfl (by omega) cE_b (by decide) fl_X10_62 rfl rfl (ty := (.array .int)) (.ref (w.2.1 (228))) (by decide +kernel) rfl rfl (Nat.le_of_ble_eq_true rfl) dX10_init_144 ?_
  rw [cE_put]
  show VG w ba G _ _ _ (cE w 211 9 [.int 0, .int 0, .int 0, .ref (w.2.1 (212)), .ref (w.2.1 (213)), .ref (w.2.1 (214)), .int 0, .ref (w.2.1 (215)), .int 0, .int (-1), .int 0, .int 0, .int 0, .ref (w.2.1 (216)), .int 0, .ref (w.2.1 (217)), .ref (w.2.1 (218)), .ref (w.2.1 (219)), .ref (w.2.1 (220)), .ref (w.2.1 (221)), .int 0, .ref (w.2.1 (222)), .ref (w.2.1 (223)), .int 0, .ref (w.2.1 (224)), .ref (w.2.1 (225)), .ref (w.2.1 (226)), .ref (w.2.1 (227)), .ref (w.2.1 (228)), .int 0, .null, .null, .null, .null] E) _ _ _
  refine g_aload_n C 0 rfl dX10_init_147 ?_
  refine g_kb C (15) (by decide) dX10_init_148 ?_
  refine g_newi C (k := 15) (by decide) (by decide) (by decide) (by decide) (by decide) dX10_init_150 ?_
  rw [cE_new (fe_i (n := 15) (by decide +kernel) (by decide +kernel) (m0z (by decide) (by decide) (by decide) (by decide) (by decide))) (by omega)]
  refine g_putF C hI (j := 30) tyX10 tyX10_ok inX10 nmX10 rfl (by omega) cE_b (by decide) fl_X10_65 rfl rfl (ty := (.array .int)) (.ref (w.2.1 (229))) (by decide +kernel) rfl rfl (Nat.le_of_ble_eq_true rfl) dX10_init_152 ?_
  rw [cE_put]
  show VG w ba G _ _ _ (cE w 211 9 [.int 0, .int 0, .int 0, .ref (w.2.1 (212)), .ref (w.2.1 (213)), .ref (w.2.1 (214)), .int 0, .ref (w.2.1 (215)), .int 0, .int (-1), .int 0, .int 0, .int 0, .ref (w.2.1 (216)), .int 0, .ref (w.2.1 (217)), .ref (w.2.1 (218)), .ref (w.2.1 (219)), .ref (w.2.1 (220)), .ref (w.2.1 (221)), .int 0, .ref (w.2.1 (222)), .ref (w.2.1 (223)), .int 0, .ref (w.2.1 (224)), .ref (w.2.1 (225)), .ref (w.2.1 (226)), .ref (w.2.1 (227)), .ref (w.2.1 (228)), .int 0, .ref (w.2.1 (229)), .null, .null, .null] E) _ _ _
  refine g_aload_n C 0 rfl dX10_init_155 ?_
  refine g_kb C (15) (by decide) dX10_init_156 ?_
  refine g_newi C (k := 15) (by decide) (by decide) (by decide) (by decide) (by decide) dX10_init_158 ?_
  rw [cE_new (fe_i (n := 15) (by decide +kernel) (by decide +kernel) (m0z (by decide) (by decide) (by decide) (by decide) (by decide))) (by omega)]
  refine g_putF C hI (j := 31) tyX10 tyX10_ok inX10 nmX10 rfl (by omega) cE_b (by decide) fl_X10_68 rfl rfl (ty := (.array .int)) (.ref (w.2.1 (230))) (by decide +kernel) rfl rfl (Nat.le_of_ble_eq_true rfl) dX10_init_160 ?_
  rw [cE_put]
  show VG w ba G _ _ _ (cE w 211 9 [.int 0, .int 0, .int 0, .ref (w.2.1 (212)), .ref (w.2.1 (213)), .ref (w.2.1 (214)), .int 0, .ref (w.2.1 (215)), .int 0, .int (-1), .int 0, .int 0, .int 0, .ref (w.2.1 (216)), .int 0, .ref (w.2.1 (217)), .ref (w.2.1 (218)), .ref (w.2.1 (219)), .ref (w.2.1 (220)), .ref (w.2.1 (221)), .int 0, .ref (w.2.1 (222)), .ref (w.2.1 (223)), .int 0, .ref (w.2.1 (224)), .ref (w.2.1 (225)), .ref (w.2.1 (226)), .ref (w.2.1 (227)), .ref (w.2.1 (228)), .int 0, .ref (w.2.1 (229)), .ref (w.2.1 (230)), .null, .null] E) _ _ _
  refine g_aload_n C 0 rfl dX10_init_163 ?_
  refine g_kb C (84) (by decide) dX10_init_164 ?_
  refine g_newi C (k := 84) (by decide) (by decide) (by decide) (by decide) (by decide) dX10_init_166 ?_
  rw [cE_new (fe_i (n := 84) (by decide +kernel) (by decide +kernel) (m0z (by decide) (by decide) (by decide) (by decide) (by decide))) (by omega)]
  refine g_putF C hI (j := 32) tyX10 tyX10_ok inX10 nmX10 rfl (by omega) cE_b (by decide) fl_X10_71 rfl rfl (ty := (.array .int)) (.ref (w.2.1 (231))) (by decide +kernel) rfl rfl (Nat.le_of_ble_eq_true rfl) dX10_init_168 ?_
  rw [cE_put]
  show VG w ba G _ _ _ (cE w 211 9 [.int 0, .int 0, .int 0, .ref (w.2.1 (212)), .ref (w.2.1 (213)), .ref (w.2.1 (214)), .int 0, .ref (w.2.1 (215)), .int 0, .int (-1), .int 0, .int 0, .int 0, .ref (w.2.1 (216)), .int 0, .ref (w.2.1 (217)), .ref (w.2.1 (218)), .ref (w.2.1 (219)), .ref (w.2.1 (220)), .ref (w.2.1 (221)), .int 0, .ref (w.2.1 (222)), .ref (w.2.1 (223)), .int 0, .ref (w.2.1 (224)), .ref (w.2.1 (225)), .ref (w.2.1 (226)), .ref (w.2.1 (227)), .ref (w.2.1 (228)), .int 0, .ref (w.2.1 (229)), .ref (w.2.1 (230)), .ref (w.2.1 (231)), .null] E) _ _ _
  refine g_aload_n C 0 rfl dX10_init_171 ?_
  refine g_kc C (2) (by decide) dX10_init_172 ?_
  refine g_newz C (k := 2) (by decide) (by decide) (by decide) (by decide) (by decide) dX10_init_173 ?_
  rw [cE_new (fe_z (n := 2) (by decide +kernel) (by decide +kernel) (m0z (by decide) (by decide) (by decide) (by decide) (by decide))) (by omega)]
  refine g_putF C hI (j := 33) tyX10 tyX10_ok inX10 nmX10 rfl (by omega) cE_b (by decide) fl_X10_74 rfl rfl (ty := (.array .boolean)) (.ref (w.2.1 (232))) (by decide +kernel) rfl rfl (Nat.le_of_ble_eq_true rfl) dX10_init_175 ?_
  rw [cE_put]
  show VG w ba G _ _ _ (cE w 211 9 [.int 0, .int 0, .int 0, .ref (w.2.1 (212)), .ref (w.2.1 (213)), .ref (w.2.1 (214)), .int 0, .ref (w.2.1 (215)), .int 0, .int (-1), .int 0, .int 0, .int 0, .ref (w.2.1 (216)), .int 0, .ref (w.2.1 (217)), .ref (w.2.1 (218)), .ref (w.2.1 (219)), .ref (w.2.1 (220)), .ref (w.2.1 (221)), .int 0, .ref (w.2.1 (222)), .ref (w.2.1 (223)), .int 0, .ref (w.2.1 (224)), .ref (w.2.1 (225)), .ref (w.2.1 (226)), .ref (w.2.1 (227)), .ref (w.2.1 (228)), .int 0, .ref (w.2.1 (229)), .ref (w.2.1 (230)), .ref (w.2.1 (231)), .ref (w.2.1 (232))] E) _ _ _
  refine g_aload_n C 0 rfl dX10_init_178 ?_
  refine g_kc C (0) (by decide) dX10_init_179 ?_
  refine g_put C (j := 0) tyX10 tyX10_ok inX10 nmX10 rfl (by omega) cE_b (by decide) fl_X10_78 rfl rfl (ty := .int) (.int 0) (by decide +kernel) rfl rfl (Nat.le_of_ble_eq_true rfl) dX10_init_180 ?_
  rw [cE_put]
  show VG w ba G _ _ _ (cE w 211 9 [.int 0, .int 0, .int 0, .ref (w.2.1 (212)), .ref (w.2.1 (213)), .ref (w.2.1 (214)), .int 0, .ref (w.2.1 (215)), .int 0, .int (-1), .int 0, .int 0, .int 0, .ref (w.2.1 (216)), .int 0, .ref (w.2.1 (217)), .ref (w.2.1 (218)), .ref (w.2.1 (219)), .ref (w.2.1 (220)), .ref (w.2.1 (221)), .int 0, .ref (w.2.1 (222)), .ref (w.2.1 (223)), .int 0, .ref (w.2.1 (224)), .ref (w.2.1 (225)), .ref (w.2.1 (226)), .ref (w.2.1 (227)), .ref (w.2.1 (228)), .int 0, .ref (w.2.1 (229)), .ref (w.2.1 (230)), .ref (w.2.1 (231)), .ref (w.2.1 (232))] E) _ _ _
  exact ret 183 _ _ dX10_init_183 (fun j _ => cE_end (rfl) j)
