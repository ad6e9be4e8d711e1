set_option maxHeartbeats 4000000 in
theorem ct_X4_init {w : Wx} {ba : Nat} {l : Launch} {E : Nat → va_E} (hE : E 25 = .inr (3, [.null, .int 0, .int 0])) : CtN w ba l yX4_init cX4_init 2 2 32 141 1140 [.ref (w.2.1 25)] E (mix w 25 E) 26 167 := by
  refine met_n (by decide +kernel) rfl (Nat.le_of_ble_eq_true rfl) (by omega) (fun G C hG hI ret => ?_)
  refine VG.cong (E' := cE w 25 3 [.null, .int 0, .int 0] E) (fun j hj => cE_start hE (by omega)) ?_
  have key : ∀ k i, i + k = 20 → VG w ba G 25 [(1, .int (nI i)), (0, .ref (w.2.1 25))] [] (qE w 25 3 [.ref (w.2.1 26), .int 0, .int 0] 26 20 i E) (27 + 7 * i) (1 + 7 * i) (20 + 56 * i) := by
    intro k
    induction k with
    | zero =>
      intro i hi
      have e : i = 20 := by omega
      subst e
      refine g_iload_n C 0 rfl dX4_init_25 ?_
      refine g_kb C (20) (by decide) dX4_init_26 ?_
      refine g_icmp_ge C 50 rfl dX4_init_28 (fun _ => ?_) (fun z => absurd (by decide) z)
      refine VG.imp (E' := cE w 25 3 [.ref (w.2.1 26), .int 0, .int 0] E) (fun H hP => qE_full (by decide +kernel) (by decide +kernel) (by decide) (by decide) hP) ?_
      exact ret 50 _ _ dX4_init_50 (fun j _ => cE_end rfl j)
    | succ k ih =>
      intro i hi
      have hsc := sc_h (i := i) (by omega)
      refine g_iload_n C 0 rfl dX4_init_25 ?_
      refine g_kb C (20) (by decide) dX4_init_26 ?_
      refine g_icmp_ge C 50 rfl dX4_init_28 (fun z => absurd ((leN (a := 20) (b := i) (by decide) (by omega)).mp z) (by omega)) (fun _ => ?_)
      refine g_aload_n C 1 rfl dX4_init_31 ?_
      refine g_get C (j := 0) inX4 rfl (by omega) (qE_b (by decide)) (by decide) fl_X4_11 rfl rfl dX4_init_32 ?_
      refine g_iload_n C 0 rfl dX4_init_35 ?_
      refine g_new C tyX7 tyX7_ok inX7 cl_X4_9 it_X7 ii_X7 (ci := 6) rfl [.int 0, .int 0, .null, .null, .null, .null, .null, .null] (fun j hj => by rcases (show j = 0 ∨ j = 1 ∨ j = 2 ∨ j = 3 ∨ j = 4 ∨ j = 5 ∨ j = 6 ∨ j = 7 by omega) with rfl | rfl | rfl | rfl | rfl | rfl | rfl | rfl <;> rfl) (by omega) (by omega) dX4_init_36 ?_
      refine g_dup C rfl dX4_init_39 ?_
      refine g_callN C [.ref (w.2.1 (27 + 7 * i)), .int (nI i), .ref (w.2.1 26)] (ct_X7_init hsc (upE_s _ _ _)) yX7_init_y mn_X4_24 rfl rfl (by simp [Value.category]) (by decide) (by omega) (by omega) rfl dX4_init_40 ?_
      rw [qE_mix (by omega) (by omega)]
      refine g_aast C (a := 26) (k := 27 + 7 * i) (n := 20) (by omega) (by omega) qE_a ((show qE w 25 3 [.ref (w.2.1 26), .int 0, .int 0] 26 20 i E (27 + 7 * i) = FE w (27 + 7 * i) from (upE_n (by omega)).trans (cE_gt (by omega))).trans (fe_s hsc.1 (hsc.2.2 0 (by decide)))) (inb (by omega) (by decide)) dX4_init_43 ?_
      rw [qE_st (by rw [cl (by omega)]; exact qa_s 26 20 i)]
      refine g_iinc C (j := 0) (d := 1) [(1, .int (nI (i + 1))), (0, .ref (w.2.1 25))] rfl (nI (i + 1)) (nI_1 i) rfl (by decide) dX4_init_44 ?_
      refine g_goto C 25 rfl dX4_init_47 ?_
      have h := ih (i + 1) (by omega)
      rw [show 27 + 7 * (i + 1) = 27 + 7 * i + 1 + 6 by omega, show 1 + 7 * (i + 1) = 1 + 7 * i + 1 + 6 by omega, show 20 + 56 * (i + 1) = 20 + 56 * i + 8 + 48 by omega] at h
      exact h
  refine g_aload_n C 0 rfl dX4_init_0 ?_
  refine g_oi C ml_X4_3 (by decide) (by decide) dX4_init_1 ?_
  refine g_aload_n C 0 rfl dX4_init_4 ?_
  refine g_kb C (20) (by decide) dX4_init_5 ?_
  refine g_newq C (k := 20) (by decide) (by decide) (by decide) cl_X4_9 (by decide) (by decide) dX4_init_7 ?_
  rw [← qa_0 26 20]
  show VG w ba G _ _ _ (qE w 25 3 [.null, .int 0, .int 0] 26 20 0 E) _ _ _
  refine g_putF C hI (j := 0) tyX4 tyX4_ok inX4 nmX4 rfl (by omega) (qE_b (by decide)) (by decide) fl_X4_11 rfl rfl (ty := (.array (.object "FollowCab$Scene"))) (.ref (w.2.1 26)) (by decide +kernel) rfl rfl (Nat.le_of_ble_eq_true rfl) dX4_init_10 ?_
  rw [qE_put (by decide)]
  show VG w ba G _ _ _ (qE w 25 3 [.ref (w.2.1 26), .int 0, .int 0] 26 20 0 E) _ _ _
  refine g_aload_n C 0 rfl dX4_init_13 ?_
  refine g_kc C (0) (by decide) dX4_init_14 ?_
  refine g_put C (j := 1) tyX4 tyX4_ok inX4 nmX4 rfl (by omega) (qE_b (by decide)) (by decide) fl_X4_17 rfl rfl (ty := .int) (.int 0) (by decide +kernel) rfl rfl (Nat.le_of_ble_eq_true rfl) dX4_init_15 ?_
  rw [qE_put (by decide)]
  show VG w ba G _ _ _ (qE w 25 3 [.ref (w.2.1 26), .int 0, .int 0] 26 20 0 E) _ _ _
  refine g_aload_n C 0 rfl dX4_init_18 ?_
  refine g_kc C (0) (by decide) dX4_init_19 ?_
  refine g_put C (j := 2) tyX4 tyX4_ok inX4 nmX4 rfl (by omega) (qE_b (by decide)) (by decide) fl_X4_21 rfl rfl (ty := .int) (.int 0) (by decide +kernel) rfl rfl (Nat.le_of_ble_eq_true rfl) dX4_init_20 ?_
  rw [qE_put (by decide)]
  show VG w ba G _ _ _ (qE w 25 3 [.ref (w.2.1 26), .int 0, .int 0] 26 20 0 E) _ _ _
  refine g_kc C (0) (by decide) dX4_init_23 ?_
  refine g_istore_n C [(1, .int 0), (0, .ref (w.2.1 25))] rfl (by decide) dX4_init_24 ?_
  exact key 20 0 (by decide)
set_option maxHeartbeats 4000000 in
theorem ct_X5_init {w : Wx} {ba : Nat} {l : Launch} {E : Nat → va_E} (hE : E 167 = .inr (4, [.null, .null, .null])) : CtN w ba l yX5_init cX5_init 2 2 32 17 118 [.ref (w.2.1 167)] E (mix w 167 E) 168 185 := by
  refine met_n (by decide +kernel) rfl (Nat.le_of_ble_eq_true rfl) (by omega) (fun G C hG hI ret => ?_)
  refine VG.cong (E' := cE w 167 4 [.null, .null, .null] E) (fun j hj => cE_start hE (by omega)) ?_
  have key : ∀ k i, i + k = 2 → VG w ba G 28 [(1, .int (nI i)), (0, .ref (w.2.1 167))] [] (qE w 167 4 [.ref (w.2.1 168), .ref (w.2.1 169), .ref (w.2.1 170)] 168 2 i E) (171 + 7 * i) (3 + 7 * i) (6 + 56 * i) := by
    intro k
    induction k with
    | zero =>
      intro i hi
      have e : i = 2 := by omega
      subst e
      refine g_iload_n C 0 rfl dX5_init_28 ?_
      refine g_kc C (2) (by decide) dX5_init_29 ?_
      refine g_icmp_ge C 52 rfl dX5_init_30 (fun _ => ?_) (fun z => absurd (by decide) z)
      refine VG.imp (E' := cE w 167 4 [.ref (w.2.1 168), .ref (w.2.1 169), .ref (w.2.1 170)] E) (fun H hP => qE_full (by decide +kernel) (by decide +kernel) (by decide) (by decide) hP) ?_
      exact ret 52 _ _ dX5_init_52 (fun j _ => cE_end rfl j)
    | succ k ih =>
      intro i hi
      have hsc := sc_m (i := i) (by omega)
      refine g_iload_n C 0 rfl dX5_init_28 ?_
      refine g_kc C (2) (by decide) dX5_init_29 ?_
      refine g_icmp_ge C 52 rfl dX5_init_30 (fun z => absurd ((leN (a := 2) (b := i) (by decide) (by omega)).mp z) (by omega)) (fun _ => ?_)
      refine g_aload_n C 1 rfl dX5_init_33 ?_
      refine g_get C (j := 0) inX5 rfl (by omega) (qE_b (by decide)) (by decide) fl_X5_11 rfl rfl dX5_init_34 ?_
      refine g_iload_n C 0 rfl dX5_init_37 ?_
      refine g_new C tyX7 tyX7_ok inX7 cl_X5_9 it_X7 ii_X7 (ci := 6) rfl [.int 0, .int 0, .null, .null, .null, .null, .null, .null] (fun j hj => by rcases (show j = 0 ∨ j = 1 ∨ j = 2 ∨ j = 3 ∨ j = 4 ∨ j = 5 ∨ j = 6 ∨ j = 7 by omega) with rfl | rfl | rfl | rfl | rfl | rfl | rfl | rfl <;> rfl) (by omega) (by omega) dX5_init_38 ?_
      refine g_dup C rfl dX5_init_41 ?_
      refine g_callN C [.ref (w.2.1 (171 + 7 * i)), .int (nI i), .ref (w.2.1 168)] (ct_X7_init hsc (upE_s _ _ _)) yX7_init_y mn_X5_25 rfl rfl (by simp [Value.category]) (by decide) (by omega) (by omega) rfl dX5_init_42 ?_
      rw [qE_mix (by omega) (by omega)]
      refine g_aast C (a := 168) (k := 171 + 7 * i) (n := 2) (by omega) (by omega) qE_a ((show qE w 167 4 [.ref (w.2.1 168), .ref (w.2.1 169), .ref (w.2.1 170)] 168 2 i E (171 + 7 * i) = FE w (171 + 7 * i) from (upE_n (by omega)).trans (cE_gt (by omega))).trans (fe_s hsc.1 (hsc.2.2 0 (by decide)))) (inb (by omega) (by decide)) dX5_init_45 ?_
      rw [qE_st (by rw [cl (by omega)]; exact qa_s 168 2 i)]
      refine g_iinc C (j := 0) (d := 1) [(1, .int (nI (i + 1))), (0, .ref (w.2.1 167))] rfl (nI (i + 1)) (nI_1 i) rfl (by decide) dX5_init_46 ?_
      refine g_goto C 28 rfl dX5_init_49 ?_
      have h := ih (i + 1) (by omega)
      rw [show 171 + 7 * (i + 1) = 171 + 7 * i + 1 + 6 by omega, show 3 + 7 * (i + 1) = 3 + 7 * i + 1 + 6 by omega, show 6 + 56 * (i + 1) = 6 + 56 * i + 8 + 48 by omega] at h
      exact h
  refine g_aload_n C 0 rfl dX5_init_0 ?_
  refine g_oi C ml_X5_3 (by decide) (by decide) dX5_init_1 ?_
  refine g_aload_n C 0 rfl dX5_init_4 ?_
  refine g_kc C (2) (by decide) dX5_init_5 ?_
  refine g_newq C (k := 2) (by decide) (by decide) (by decide) cl_X5_9 (by decide) (by decide) dX5_init_6 ?_
  rw [← qa_0 168 2]
  show VG w ba G _ _ _ (qE w 167 4 [.null, .null, .null] 168 2 0 E) _ _ _
  refine g_putF C hI (j := 0) tyX5 tyX5_ok inX5 nmX5 rfl (by omega) (qE_b (by decide)) (by decide) fl_X5_11 rfl rfl (ty := (.array (.object "FollowCab$Scene"))) (.ref (w.2.1 168)) (by decide +kernel) rfl rfl (Nat.le_of_ble_eq_true rfl) dX5_init_9 ?_
  rw [qE_put (by decide)]
  show VG w ba G _ _ _ (qE w 167 4 [.ref (w.2.1 168), .null, .null] 168 2 0 E) _ _ _
  refine g_aload_n C 0 rfl dX5_init_12 ?_
  refine g_kc C (2) (by decide) dX5_init_13 ?_
  refine g_newi C (k := 2) (by decide) (by decide) (by decide) (by decide) (by decide) dX5_init_14 ?_
  rw [qE_new (fe_i (n := 2) (by decide +kernel) (by decide +kernel) (m0z (by decide) (by decide) (by decide) (by decide) (by decide))) (by omega) (by decide)]
  refine g_putF C hI (j := 1) tyX5 tyX5_ok inX5 nmX5 rfl (by omega) (qE_b (by decide)) (by decide) fl_X5_17 rfl rfl (ty := (.array .int)) (.ref (w.2.1 169)) (by decide +kernel) rfl rfl (Nat.le_of_ble_eq_true rfl) dX5_init_16 ?_
  rw [qE_put (by decide)]
  show VG w ba G _ _ _ (qE w 167 4 [.ref (w.2.1 168), .ref (w.2.1 169), .null] 168 2 0 E) _ _ _
  refine g_aload_n C 0 rfl dX5_init_19 ?_
  refine g_kc C (2) (by decide) dX5_init_20 ?_
  refine g_newz C (k := 2) (by decide) (by decide) (by decide) (by decide) (by decide) dX5_init_21 ?_
  rw [qE_new (fe_z (n := 2) (by decide +kernel) (by decide +kernel) (m0z (by decide) (by decide) (by decide) (by decide) (by decide))) (by omega) (by decide)]
  refine g_putF C hI (j := 2) tyX5 tyX5_ok inX5 nmX5 rfl (by omega) (qE_b (by decide)) (by decide) fl_X5_21 rfl rfl (ty := (.array .boolean)) (.ref (w.2.1 170)) (by decide +kernel) rfl rfl (Nat.le_of_ble_eq_true rfl) dX5_init_23 ?_
  rw [qE_put (by decide)]
  show VG w ba G _ _ _ (qE w 167 4 [.ref (w.2.1 168), .ref (w.2.1 169), .ref (w.2.1 170)] 168 2 0 E) _ _ _
  refine g_kc C (0) (by decide) dX5_init_26 ?_
  refine g_istore_n C [(1, .int 0), (0, .ref (w.2.1 167))] rfl (by decide) dX5_init_27 ?_
  exact key 2 0 (by decide)
