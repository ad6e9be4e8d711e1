theorem yX0_init_y : Yi yX0_init cX0_init 1 0 := ⟨yX0_init_k.1, yX0_init_k.2, rfl, by decide +kernel, by decide +kernel, by decide +kernel⟩
theorem yX1_init_y : Yi yX1_init cX1_init 2 1 := ⟨yX1_init_k.1, yX1_init_k.2, rfl, by decide +kernel, by decide +kernel, by decide +kernel⟩
theorem yX3_init_y : Yi yX3_init cX3_init 1 0 := ⟨yX3_init_k.1, yX3_init_k.2, rfl, by decide +kernel, by decide +kernel, by decide +kernel⟩
theorem yX4_init_y : Yi yX4_init cX4_init 2 0 := ⟨yX4_init_k.1, yX4_init_k.2, rfl, by decide +kernel, by decide +kernel, by decide +kernel⟩
theorem yX5_init_y : Yi yX5_init cX5_init 2 0 := ⟨yX5_init_k.1, yX5_init_k.2, rfl, by decide +kernel, by decide +kernel, by decide +kernel⟩
theorem yX6_init_y : Yi yX6_init cX6_init 2 1 := ⟨yX6_init_k.1, yX6_init_k.2, rfl, by decide +kernel, by decide +kernel, by decide +kernel⟩
theorem yX7_init_y : Yi yX7_init cX7_init 1 0 := ⟨yX7_init_k.1, yX7_init_k.2, rfl, by decide +kernel, by decide +kernel, by decide +kernel⟩
theorem yX8_init_y : Yi yX8_init cX8_init 1 0 := ⟨yX8_init_k.1, yX8_init_k.2, rfl, by decide +kernel, by decide +kernel, by decide +kernel⟩
theorem yX9_init_y : Yi yX9_init cX9_init 1 0 := ⟨yX9_init_k.1, yX9_init_k.2, rfl, by decide +kernel, by decide +kernel, by decide +kernel⟩
theorem yX10_init_y : Yi yX10_init cX10_init 1 0 := ⟨yX10_init_k.1, yX10_init_k.2, rfl, by decide +kernel, by decide +kernel, by decide +kernel⟩
def ScB (b : Nat) : Prop := kd b = 6 ∧ (∀ i, i < 6 → kd (b + 1 + i) = 10 ∧ ln (b + 1 + i) = 8) ∧ ∀ i, i < 7 → M0 (b + i) = fun _ => 0
theorem sc_h {i : Nat} (h : i < 20) : ScB (27 + 7 * i) := by
  refine ⟨(by decide +kernel : ∀ i, i < 20 → kd (27 + 7 * i) = 6) i h, fun j hj => (by decide +kernel : ∀ i, i < 20 → ∀ j, j < 6 → kd (27 + 7 * i + 1 + j) = 10 ∧ ln (27 + 7 * i + 1 + j) = 8) i h j hj, fun j hj => m0z (by omega) (by omega) (by omega) (by omega) (by omega)⟩
theorem sc_m {i : Nat} (h : i < 2) : ScB (171 + 7 * i) := by
  refine ⟨(by decide +kernel : ∀ i, i < 2 → kd (171 + 7 * i) = 6) i h, fun j hj => (by decide +kernel : ∀ i, i < 2 → ∀ j, j < 6 → kd (171 + 7 * i + 1 + j) = 10 ∧ ln (171 + 7 * i + 1 + j) = 8) i h j hj, fun j hj => m0z (by omega) (by omega) (by omega) (by omega) (by omega)⟩
theorem sc_4 : ScB 4 := ⟨by decide +kernel, by decide +kernel, fun j hj => m0z (by omega) (by omega) (by omega) (by omega) (by omega)⟩
theorem sc_11 : ScB 11 := ⟨by decide +kernel, by decide +kernel, fun j hj => m0z (by omega) (by omega) (by omega) (by omega) (by omega)⟩
theorem sc_18 : ScB 18 := ⟨by decide +kernel, by decide +kernel, fun j hj => m0z (by omega) (by omega) (by omega) (by omega) (by omega)⟩
theorem sc_203 : ScB 203 := ⟨by decide +kernel, by decide +kernel, fun j hj => m0z (by omega) (by omega) (by omega) (by omega) (by omega)⟩
set_option maxHeartbeats 4000000 in
theorem ct_X8_init {w : Wx} {ba : Nat} {l : Launch} {E : Nat → va_E} (hE : E 1 = .inr (7, [.null, .int 0])) : CtN w ba l yX8_init cX8_init 1 1 12 1 240 [.ref (w.2.1 1)] E (mix w 1 E) (2) (3) := by
  refine met_n (by decide +kernel) rfl (Nat.le_of_ble_eq_true rfl) (by omega) (fun G C hG hI ret => ?_)
  refine VG.cong (E' := cE w 1 7 [.null, .int 0] E) (fun j hj => cE_start hE (by omega)) ?_
  refine g_aload_n C 0 rfl dX8_init_0 ?_
  refine g_oi C ml_X8_3 (by decide) (by decide) dX8_init_1 ?_
  refine g_aload_n C 0 rfl dX8_init_4 ?_
  refine g_ks C (240) (by decide) dX8_init_5 ?_
  refine g_newi C (k := 240) (by decide) (by decide) (by decide) (by decide) (by decide) dX8_init_8 ?_
  rw [cE_new (fe_i (n := 240) (by decide +kernel) (by decide +kernel) (m0z (by decide) (by decide) (by decide) (by decide) (by decide))) (by omega)]
  refine g_putF C hI (j := 0) tyX8 tyX8_ok inX8 nmX8 rfl (by omega) cE_b (by decide) fl_X8_9 rfl rfl (ty := (.array .int)) (.ref (w.2.1 (2))) (by decide +kernel) rfl rfl (Nat.le_of_ble_eq_true rfl) dX8_init_10 ?_
  rw [cE_put]
  show VG w ba G _ _ _ (cE w 1 7 [.ref (w.2.1 (2)), .int 0] E) _ _ _
  refine g_aload_n C 0 rfl dX8_init_13 ?_
  refine g_kc C (0) (by decide) dX8_init_14 ?_
  refine g_put C (j := 1) tyX8 tyX8_ok inX8 nmX8 rfl (by omega) cE_b (by decide) fl_X8_15 rfl rfl (ty := .int) (.int 0) (by decide +kernel) rfl rfl (Nat.le_of_ble_eq_true rfl) dX8_init_15 ?_
  rw [cE_put]
  show VG w ba G _ _ _ (cE w 1 7 [.ref (w.2.1 (2)), .int 0] E) _ _ _
  exact ret 18 _ _ dX8_init_18 (fun j _ => cE_end (rfl) j)
set_option maxHeartbeats 4000000 in
theorem ct_X0_init {w : Wx} {ba : Nat} {l : Launch} {E : Nat → va_E} (hE : E 210 = .inr (0, [.int 0])) : CtN w ba l yX0_init cX0_init 1 1 12 0 0 [.ref (w.2.1 210)] E (mix w 210 E) (211) (211) := by
  refine met_n (by decide +kernel) rfl (Nat.le_of_ble_eq_true rfl) (by omega) (fun G C hG hI ret => ?_)
  refine VG.cong (E' := cE w 210 0 [.int 0] E) (fun j hj => cE_start hE (by omega)) ?_
  refine g_aload_n C 0 rfl dX0_init_0 ?_
  refine g_oi C ml_X0_3 (by decide) (by decide) dX0_init_1 ?_
  refine g_aload_n C 0 rfl dX0_init_4 ?_
  refine g_kc C (0) (by decide) dX0_init_5 ?_
  refine g_put C (j := 0) tyX0 tyX0_ok inX0 nmX0 rfl (by omega) cE_b (by decide) fl_X0_9 rfl rfl (ty := .int) (.int 0) (by decide +kernel) rfl rfl (Nat.le_of_ble_eq_true rfl) dX0_init_6 ?_
  rw [cE_put]
  show VG w ba G _ _ _ (cE w 210 0 [.int 0] E) _ _ _
  exact ret 9 _ _ dX0_init_9 (fun j _ => cE_end (rfl) j)
set_option maxHeartbeats 4000000 in
theorem ct_X7_init {w : Wx} {ba : Nat} {l : Launch} {E : Nat → va_E} {b : Nat} (hs : ScB b) (hE : E (b) = .inr (6, [.int 0, .int 0, .null, .null, .null, .null, .null, .null])) : CtN w ba l yX7_init cX7_init 1 1 12 6 48 [.ref (w.2.1 b)] E (mix w (b) E) (b + 1) (b + 1 + 6) := by
  refine met_n (by decide +kernel) rfl (Nat.le_of_ble_eq_true rfl) (by omega) (fun G C hG hI ret => ?_)
  have hF : ∀ i, i < 6 → FE w (b + 1 + i) = .inl (w.2.2.1, 8, .inl (fun _ => 0)) := fun i hi => fe_i (hs.2.1 i hi).1 (hs.2.1 i hi).2 (by rw [show b + 1 + i = b + (i + 1) by omega]; exact hs.2.2 (i + 1) (by omega))
  refine VG.cong (E' := cE w b 6 [.int 0, .int 0, .null, .null, .null, .null, .null, .null] E) (fun j hj => cE_start hE (by omega)) ?_
  refine g_aload_n C 0 rfl dX7_init_0 ?_
  refine g_oi C ml_X7_3 (by decide) (by decide) dX7_init_1 ?_
  refine g_aload_n C 0 rfl dX7_init_4 ?_
  refine g_kc C (0) (by decide) dX7_init_5 ?_
  refine g_put C (j := 0) tyX7 tyX7_ok inX7 nmX7 rfl (by omega) cE_b (by decide) fl_X7_9 rfl rfl (ty := .int) (.int 0) (by decide +kernel) rfl rfl (Nat.le_of_ble_eq_true rfl) dX7_init_6 ?_
  rw [cE_put]
  show VG w ba G _ _ _ (cE w b 6 [.int 0, .int 0, .null, .null, .null, .null, .null, .null] E) _ _ _
  refine g_aload_n C 0 rfl dX7_init_9 ?_
  refine g_kc C (0) (by decide) dX7_init_10 ?_
  refine g_put C (j := 1) tyX7 tyX7_ok inX7 nmX7 rfl (by omega) cE_b (by decide) fl_X7_15 rfl rfl (ty := .int) (.int 0) (by decide +kernel) rfl rfl (Nat.le_of_ble_eq_true rfl) dX7_init_11 ?_
  rw [cE_put]
  show VG w ba G _ _ _ (cE w b 6 [.int 0, .int 0, .null, .null, .null, .null, .null, .null] E) _ _ _
  refine g_aload_n C 0 rfl dX7_init_14 ?_
  refine g_kb C (8) (by decide) dX7_init_15 ?_
  refine g_newi C (k := 8) (by decide) (by decide) (by decide) (by decide) (by decide) dX7_init_17 ?_
  rw [cE_new (hF 0 (by decide)) (by omega)]
  refine g_putF C hI (j := 2) tyX7 tyX7_ok inX7 nmX7 rfl (by omega) cE_b (by decide) fl_X7_18 rfl rfl (ty := (.array .int)) (.ref (w.2.1 (b + 1))) (by decide +kernel) rfl rfl (Nat.le_of_ble_eq_true rfl) dX7_init_19 ?_
  rw [cE_put]
  show VG w ba G _ _ _ (cE w b 6 [.int 0, .int 0, .ref (w.2.1 (b + 1)), .null, .null, .null, .null, .null] E) _ _ _
  refine g_aload_n C 0 rfl dX7_init_22 ?_
  refine g_kb C (8) (by decide) dX7_init_23 ?_
  refine g_newi C (k := 8) (by decide) (by decide) (by decide) (by decide) (by decide) dX7_init_25 ?_
  rw [cE_new (hF 1 (by decide)) (by omega)]
  refine g_putF C hI (j := 3) tyX7 tyX7_ok inX7 nmX7 rfl (by omega) cE_b (by decide) fl_X7_22 rfl rfl (ty := (.array .int)) (.ref (w.2.1 (b + 1 + 1))) (by decide +kernel) rfl rfl (Nat.le_of_ble_eq_true rfl) dX7_init_27 ?_
  rw [cE_put]
  show VG w ba G _ _ _ (cE w b 6 [.int 0, .int 0, .ref (w.2.1 (b + 1)), .ref (w.2.1 (b + 1 + 1)), .null, .null, .null, .null] E) _ _ _
  refine g_aload_n C 0 rfl dX7_init_30 ?_
  refine g_kb C (8) (by decide) dX7_init_31 ?_
  refine g_newi C (k := 8) (by decide) (by decide) (by decide) (by decide) (by decide) dX7_init_33 ?_
  rw [cE_new (hF 2 (by decide)) (by omega)]
  refine g_putF C hI (j := 4) tyX7 tyX7_ok inX7 nmX7 rfl (by omega) cE_b (by decide) fl_X7_25 rfl rfl (ty := (.array .int)) (.ref (w.2.1 (b + 1 + 2))) (by decide +kernel) rfl rfl (Nat.le_of_ble_eq_true rfl) dX7_init_35 ?_
  rw [cE_put]
  show VG w ba G _ _ _ (cE w b 6 [.int 0, .int 0, .ref (w.2.1 (b + 1)), .ref (w.2.1 (b + 1 + 1)), .ref (w.2.1 (b + 1 + 2)), .null, .null, .null] E) _ _ _
  refine g_aload_n C 0 rfl dX7_init_38 ?_
  refine g_kb C (8) (by decide) dX7_init_39 ?_
  refine g_newi C (k := 8) (by decide) (by decide) (by decide) (by decide) (by decide) dX7_init_41 ?_
  rw [cE_new (hF 3 (by decide)) (by omega)]
  refine g_putF C hI (j := 5) tyX7 tyX7_ok inX7 nmX7 rfl (by omega) cE_b (by decide) fl_X7_28 rfl rfl (ty := (.array .int)) (.ref (w.2.1 (b + 1 + 3))) (by decide +kernel) rfl rfl (Nat.le_of_ble_eq_true rfl) dX7_init_43 ?_
  rw [cE_put]
  show VG w ba G _ _ _ (cE w b 6 [.int 0, .int 0, .ref (w.2.1 (b + 1)), .ref (w.2.1 (b + 1 + 1)), .ref (w.2.1 (b + 1 + 2)), .ref (w.2.1 (b + 1 + 3)), .null, .null] E) _ _ _
  refine g_aload_n C 0 rfl dX7_init_46 ?_
  refine g_kb C (8) (by decide) dX7_init_47 ?_
  refine g_newi C (k := 8) (by decide) (by decide) (by decide) (by decide) (by decide) dX7_init_49 ?_
  rw [cE_new (hF 4 (by decide)) (by omega)]
  refine g_putF C hI (j := 6) tyX7 tyX7_ok inX7 nmX7 rfl (by omega) cE_b (by decide) fl_X7_31 rfl rfl (ty := (.array .int)) (.ref (w.2.1 (b + 1 + 4))) (by decide +kernel) rfl rfl (Nat.le_of_ble_eq_true rfl) dX7_init_51 ?_
  rw [cE_put]
  show VG w ba G _ _ _ (cE w b 6 [.int 0, .int 0, .ref (w.2.1 (b + 1)), .ref (w.2.1 (b + 1 + 1)), .ref (w.2.1 (b + 1 + 2)), .ref (w.2.1 (b + 1 + 3)), .ref (w.2.1 (b + 1 + 4)), .null] E) _ _ _
  refine g_aload_n C 0 rfl dX7_init_54 ?_
  refine g_kb C (8) (by decide) dX7_init_55 ?_
  refine g_newi C (k := 8) (by decide) (by decide) (by decide) (by decide) (by decide) dX7_init_57 ?_
  rw [cE_new (hF 5 (by decide)) (by omega)]
  refine g_putF C hI (j := 7) tyX7 tyX7_ok inX7 nmX7 rfl (by omega) cE_b (by decide) fl_X7_34 rfl rfl (ty := (.array .int)) (.ref (w.2.1 (b + 1 + 5))) (by decide +kernel) rfl rfl (Nat.le_of_ble_eq_true rfl) dX7_init_59 ?_
  rw [cE_put]
  show VG w ba G _ _ _ (cE w b 6 [.int 0, .int 0, .ref (w.2.1 (b + 1)), .ref (w.2.1 (b + 1 + 1)), .ref (w.2.1 (b + 1 + 2)), .ref (w.2.1 (b + 1 + 3)), .ref (w.2.1 (b + 1 + 4)), .ref (w.2.1 (b + 1 + 5))] E) _ _ _
  exact ret 62 _ _ dX7_init_62 (fun j _ => cE_end (fe_s hs.1 (hs.2.2 0 (by decide))) j)
set_option maxHeartbeats 4000000 in
theorem ct_X1_init6 {w : Wx} {ba : Nat} {l : Launch} {E : Nat → va_E} (hE : E 185 = .inr (1, [.int 0, .null, .null, .null, .int 0])) : CtN w ba l yX1_init cX1_init 2 1 14 3 18 [.ref (w.2.1 185), .int 6] E (mix w 185 E) (186) (189) := by
  refine met_n (by decide +kernel) rfl (Nat.le_of_ble_eq_true rfl) (by omega) (fun G C hG hI ret => ?_)
  refine VG.cong (E' := cE w 185 1 [.int 0, .null, .null, .null, .int 0] E) (fun j hj => cE_start hE (by omega)) ?_
  refine g_aload_n C 0 rfl dX1_init_0 ?_
  refine g_oi C ml_X1_3 (by decide) (by decide) dX1_init_1 ?_
  refine g_aload_n C 0 rfl dX1_init_4 ?_
  refine g_kc C (0) (by decide) dX1_init_5 ?_
  refine g_put C (j := 4) tyX1 tyX1_ok inX1 nmX1 rfl (by omega) cE_b (by decide) fl_X1_9 rfl rfl (ty := .int) (.int 0) (by decide +kernel) rfl rfl (Nat.le_of_ble_eq_true rfl) dX1_init_6 ?_
  rw [cE_put]
  show VG w ba G _ _ _ (cE w 185 1 [.int 0, .null, .null, .null, .int 0] E) _ _ _
  refine g_aload_n C 0 rfl dX1_init_9 ?_
  refine g_iload_n C 1 rfl dX1_init_10 ?_
  refine g_kc C (0) (by decide) dX1_init_11 ?_
  refine g_mmax C ml_X1_15 mc_max (by decide) (Nat.le_of_ble_eq_true rfl) (by decide) (by decide) dX1_init_12 ?_
  rw [show (if (6 : Int32) < 0 then (0 : Int32) else 6) = 6 from by decide]
  refine g_putF C hI (j := 0) tyX1 tyX1_ok inX1 nmX1 rfl (by omega) cE_b (by decide) fl_X1_21 rfl rfl (ty := .int) (.int 6) (by decide +kernel) rfl rfl (Nat.le_of_ble_eq_true rfl) dX1_init_15 ?_
  rw [cE_put]
  show VG w ba G _ _ _ (cE w 185 1 [.int 6, .null, .null, .null, .int 0] E) _ _ _
  refine g_aload_n C 0 rfl dX1_init_18 ?_
  refine g_aload_n C 0 rfl dX1_init_19 ?_
  refine g_get C (j := 0) inX1 rfl (by omega) cE_b (by decide) fl_X1_21 rfl rfl dX1_init_20 ?_
  refine g_newi C (k := 6) (by decide) (by decide) (by decide) (by decide) (by decide) dX1_init_23 ?_
  rw [cE_new (fe_i (n := 6) (by decide +kernel) (by decide +kernel) (m0z (by decide) (by decide) (by decide) (by decide) (by decide))) (by omega)]
  refine g_putF C hI (j := 1) tyX1 tyX1_ok inX1 nmX1 rfl (by omega) cE_b (by decide) fl_X1_24 rfl rfl (ty := (.array .int)) (.ref (w.2.1 (186))) (by decide +kernel) rfl rfl (Nat.le_of_ble_eq_true rfl) dX1_init_25 ?_
  rw [cE_put]
  show VG w ba G _ _ _ (cE w 185 1 [.int 6, .ref (w.2.1 (186)), .null, .null, .int 0] E) _ _ _
  refine g_aload_n C 0 rfl dX1_init_28 ?_
  refine g_aload_n C 0 rfl dX1_init_29 ?_
  refine g_get C (j := 0) inX1 rfl (by omega) cE_b (by decide) fl_X1_21 rfl rfl dX1_init_30 ?_
  refine g_newi C (k := 6) (by decide) (by decide) (by decide) (by decide) (by decide) dX1_init_33 ?_
  rw [cE_new (fe_i (n := 6) (by decide +kernel) (by decide +kernel) (m0z (by decide) (by decide) (by decide) (by decide) (by decide))) (by omega)]
  refine g_putF C hI (j := 2) tyX1 tyX1_ok inX1 nmX1 rfl (by omega) cE_b (by decide) fl_X1_28 rfl rfl (ty := (.array .int)) (.ref (w.2.1 (187))) (by decide +kernel) rfl rfl (Nat.le_of_ble_eq_true rfl) dX1_init_35 ?_
  rw [cE_put]
  show VG w ba G _ _ _ (cE w 185 1 [.int 6, .ref (w.2.1 (186)), .ref (w.2.1 (187)), .null, .int 0] E) _ _ _
  refine g_aload_n C 0 rfl dX1_init_38 ?_
  refine g_aload_n C 0 rfl dX1_init_39 ?_
  refine g_get C (j := 0) inX1 rfl (by omega) cE_b (by decide) fl_X1_21 rfl rfl dX1_init_40 ?_
  refine g_newi C (k := 6) (by decide) (by decide) (by decide) (by decide) (by decide) dX1_init_43 ?_
  rw [cE_new (fe_i (n := 6) (by decide +kernel) (by decide +kernel) (m0z (by decide) (by decide) (by decide) (by decide) (by decide))) (by omega)]
  refine g_putF C hI (j := 3) tyX1 tyX1_ok inX1 nmX1 rfl (by omega) cE_b (by decide) fl_X1_31 rfl rfl (ty := (.array .int)) (.ref (w.2.1 (188))) (by decide +kernel) rfl rfl (Nat.le_of_ble_eq_true rfl) dX1_init_45 ?_
  rw [cE_put]
  show VG w ba G _ _ _ (cE w 185 1 [.int 6, .ref (w.2.1 (186)), .ref (w.2.1 (187)), .ref (w.2.1 (188)), .int 0] E) _ _ _
  exact ret 48 _ _ dX1_init_48 (fun j _ => cE_end (rfl) j)
set_option maxHeartbeats 4000000 in
theorem ct_X1_init15 {w : Wx} {ba : Nat} {l : Launch} {E : Nat → va_E} (hE : E 189 = .inr (1, [.int 0, .null, .null, .null, .int 0])) : CtN w ba l yX1_init cX1_init 2 1 14 3 45 [.ref (w.2.1 189), .int 15] E (mix w 189 E) (190) (193) := by
  refine met_n (by decide +kernel) rfl (Nat.le_of_ble_eq_true rfl) (by omega) (fun G C hG hI ret => ?_)
  refine VG.cong (E' := cE w 189 1 [.int 0, .null, .null, .null, .int 0] E) (fun j hj => cE_start hE (by omega)) ?_
  refine g_aload_n C 0 rfl dX1_init_0 ?_
  refine g_oi C ml_X1_3 (by decide) (by decide) dX1_init_1 ?_
  refine g_aload_n C 0 rfl dX1_init_4 ?_
  refine g_kc C (0) (by decide) dX1_init_5 ?_
  refine g_put C (j := 4) tyX1 tyX1_ok inX1 nmX1 rfl (by omega) cE_b (by decide) fl_X1_9 rfl rfl (ty := .int) (.int 0) (by decide +kernel) rfl rfl (Nat.le_of_ble_eq_true rfl) dX1_init_6 ?_
  rw [cE_put]
  show VG w ba G _ _ _ (cE w 189 1 [.int 0, .null, .null, .null, .int 0] E) _ _ _
  refine g_aload_n C 0 rfl dX1_init_9 ?_
  refine g_iload_n C 1 rfl dX1_init_10 ?_
  refine g_kc C (0) (by decide) dX1_init_11 ?_
  refine g_mmax C ml_X1_15 mc_max (by decide) (Nat.le_of_ble_eq_true rfl) (by decide) (by decide) dX1_init_12 ?_
  rw [show (if (15 : Int32) < 0 then (0 : Int32) else 15) = 15 from by decide]
  refine g_putF C hI (j := 0) tyX1 tyX1_ok inX1 nmX1 rfl (by omega) cE_b (by decide) fl_X1_21 rfl rfl (ty := .int) (.int 15) (by decide +kernel) rfl rfl (Nat.le_of_ble_eq_true rfl) dX1_init_15 ?_
  rw [cE_put]
  show VG w ba G _ _ _ (cE w 189 1 [.int 15, .null, .null, .null, .int 0] E) _ _ _
  refine g_aload_n C 0 rfl dX1_init_18 ?_
  refine g_aload_n C 0 rfl dX1_init_19 ?_
  refine g_get C (j := 0) inX1 rfl (by omega) cE_b (by decide) fl_X1_21 rfl rfl dX1_init_20 ?_
  refine g_newi C (k := 15) (by decide) (by decide) (by decide) (by decide) (by decide) dX1_init_23 ?_
  rw [cE_new (fe_i (n := 15) (by decide +kernel) (by decide +kernel) (m0z (by decide) (by decide) (by decide) (by decide) (by decide))) (by omega)]
  refine g_putF C hI (j := 1) tyX1 tyX1_ok inX1 nmX1 rfl (by omega) cE_b (by decide) fl_X1_24 rfl rfl (ty := (.array .int)) (.ref (w.2.1 (190))) (by decide +kernel) rfl rfl (Nat.le_of_ble_eq_true rfl) dX1_init_25 ?_
  rw [cE_put]
  show VG w ba G _ _ _ (cE w 189 1 [.int 15, .ref (w.2.1 (190)), .null, .null, .int 0] E) _ _ _
  refine g_aload_n C 0 rfl dX1_init_28 ?_
  refine g_aload_n C 0 rfl dX1_init_29 ?_
  refine g_get C (j := 0) inX1 rfl (by omega) cE_b (by decide) fl_X1_21 rfl rfl dX1_init_30 ?_
  refine g_newi C (k := 15) (by decide) (by decide) (by decide) (by decide) (by decide) dX1_init_33 ?_
  rw [cE_new (fe_i (n := 15) (by decide +kernel) (by decide +kernel) (m0z (by decide) (by decide) (by decide) (by decide) (by decide))) (by omega)]
  refine g_putF C hI (j := 2) tyX1 tyX1_ok inX1 nmX1 rfl (by omega) cE_b (by decide) fl_X1_28 rfl rfl (ty := (.array .int)) (.ref (w.2.1 (191))) (by decide +kernel) rfl rfl (Nat.le_of_ble_eq_true rfl) dX1_init_35 ?_
  rw [cE_put]
  show VG w ba G _ _ _ (cE w 189 1 [.int 15, .ref (w.2.1 (190)), .ref (w.2.1 (191)), .null, .int 0] E) _ _ _
  refine g_aload_n C 0 rfl dX1_init_38 ?_
  refine g_aload_n C 0 rfl dX1_init_39 ?_
  refine g_get C (j := 0) inX1 rfl (by omega) cE_b (by decide) fl_X1_21 rfl rfl dX1_init_40 ?_
  refine g_newi C (k := 15) (by decide) (by decide) (by decide) (by decide) (by decide) dX1_init_43 ?_
  rw [cE_new (fe_i (n := 15) (by decide +kernel) (by decide +kernel) (m0z (by decide) (by decide) (by decide) (by decide) (by decide))) (by omega)]
  refine g_putF C hI (j := 3) tyX1 tyX1_ok inX1 nmX1 rfl (by omega) cE_b (by decide) fl_X1_31 rfl rfl (ty := (.array .int)) (.ref (w.2.1 (192))) (by decide +kernel) rfl rfl (Nat.le_of_ble_eq_true rfl) dX1_init_45 ?_
  rw [cE_put]
  show VG w ba G _ _ _ (cE w 189 1 [.int 15, .ref (w.2.1 (190)), .ref (w.2.1 (191)), .ref (w.2.1 (192)), .int 0] E) _ _ _
  exact ret 48 _ _ dX1_init_48 (fun j _ => cE_end (rfl) j)
theorem mk_cE {w : Wx} {fs : List Value} {E0 : Nat → va_E} : mkE w (cE w 193 2 fs E0) 194 = cE w 193 2 fs E0 := by
  funext j
  unfold mkE
  by_cases g : j = 194
  · rw [if_pos g, g, cE_gt (by decide)]
    rfl
  · rw [if_neg g]
    by_cases h : 194 < j ∧ j < 194 + 9
    · rw [if_pos h, cE_gt (by omega)]
      exact (fe_i ((by decide +kernel : ∀ j, j < 203 → 194 < j → kd j = 10) j (by omega) h.1) ((by decide +kernel : ∀ j, j < 203 → 194 < j → ln j = 31) j (by omega) h.1) (m0z (by omega) (by omega) (by omega) (by omega) (by omega))).symm
    · rw [if_neg h]
set_option maxHeartbeats 4000000 in
theorem ct_X6_init {w : Wx} {ba : Nat} {l : Launch} {E : Nat → va_E} (hE : E 3 = .inr (5, [.null, .int 0, .int 0, .int 0, .int 0, .null, .int 0, .int 0])) : CtN w ba l yX6_init cX6_init 2 2 32 7 56 [.ref (w.2.1 3), .ref (w.2.1 1)] E (mix w 3 E) (4) (11) := by
  refine met_n (by decide +kernel) rfl (Nat.le_of_ble_eq_true rfl) (by omega) (fun G C hG hI ret => ?_)
  refine VG.cong (E' := cE w 3 5 [.null, .int 0, .int 0, .int 0, .int 0, .null, .int 0, .int 0] E) (fun j hj => cE_start hE (by omega)) ?_
  refine g_aload_n C 0 rfl dX6_init_0 ?_
  refine g_oi C ml_X6_3 (by decide) (by decide) dX6_init_1 ?_
  refine g_aload_n C 0 rfl dX6_init_4 ?_
  refine g_new C tyX7 tyX7_ok inX7 cl_X6_9 it_X7 ii_X7 (ci := 6) rfl [.int 0, .int 0, .null, .null, .null, .null, .null, .null] (fun j hj => by rcases (show j = 0 ∨ j = 1 ∨ j = 2 ∨ j = 3 ∨ j = 4 ∨ j = 5 ∨ j = 6 ∨ j = 7 by omega) with rfl | rfl | rfl | rfl | rfl | rfl | rfl | rfl <;> rfl) (by decide) (by decide) dX6_init_5 ?_
  refine g_dup C rfl dX6_init_8 ?_
  refine g_callN C [.ref (w.2.1 (4)), .ref (w.2.1 3)] (ct_X7_init sc_4 (upE_s _ _ _)) yX7_init_y mn_X6_11 rfl rfl (by simp [Value.category]) (by decide) (by decide) (by decide) rfl dX6_init_9 ?_
  rw [cE_mix (by omega)]
  refine g_putF C hI (j := 0) tyX6 tyX6_ok inX6 nmX6 rfl (by omega) cE_b (by decide) fl_X6_12 rfl rfl (ty := (.object "FollowCab$Scene")) (.ref (w.2.1 (4))) (by decide +kernel) rfl rfl (Nat.le_of_ble_eq_true rfl) dX6_init_12 ?_
  rw [cE_put]
  show VG w ba G _ _ _ (cE w 3 5 [.ref (w.2.1 (4)), .int 0, .int 0, .int 0, .int 0, .null, .int 0, .int 0] E) _ _ _
  refine g_aload_n C 0 rfl dX6_init_15 ?_
  refine g_kc C (0) (by decide) dX6_init_16 ?_
  refine g_put C (j := 1) tyX6 tyX6_ok inX6 nmX6 rfl (by omega) cE_b (by decide) fl_X6_18 rfl rfl (ty := .int) (.int 0) (by decide +kernel) rfl rfl (Nat.le_of_ble_eq_true rfl) dX6_init_17 ?_
  rw [cE_put]
  show VG w ba G _ _ _ (cE w 3 5 [.ref (w.2.1 (4)), .int 0, .int 0, .int 0, .int 0, .null, .int 0, .int 0] E) _ _ _
  refine g_aload_n C 0 rfl dX6_init_20 ?_
  refine g_kc C (0) (by decide) dX6_init_21 ?_
  refine g_put C (j := 2) tyX6 tyX6_ok inX6 nmX6 rfl (by omega) cE_b (by decide) fl_X6_22 rfl rfl (ty := .int) (.int 0) (by decide +kernel) rfl rfl (Nat.le_of_ble_eq_true rfl) dX6_init_22 ?_
  rw [cE_put]
  show VG w ba G _ _ _ (cE w 3 5 [.ref (w.2.1 (4)), .int 0, .int 0, .int 0, .int 0, .null, .int 0, .int 0] E) _ _ _
  refine g_aload_n C 0 rfl dX6_init_25 ?_
  refine g_kc C (0) (by decide) dX6_init_26 ?_
  refine g_put C (j := 3) tyX6 tyX6_ok inX6 nmX6 rfl (by omega) cE_b (by decide) fl_X6_25 rfl rfl (ty := .int) (.int 0) (by decide +kernel) rfl rfl (Nat.le_of_ble_eq_true rfl) dX6_init_27 ?_
  rw [cE_put]
  show VG w ba G _ _ _ (cE w 3 5 [.ref (w.2.1 (4)), .int 0, .int 0, .int 0, .int 0, .null, .int 0, .int 0] E) _ _ _
  refine g_aload_n C 0 rfl dX6_init_30 ?_
  refine g_kc C (-1) (by decide) dX6_init_31 ?_
  refine g_put C (j := 4) tyX6 tyX6_ok inX6 nmX6 rfl (by omega) cE_b (by decide) fl_X6_28 rfl rfl (ty := .int) (.int (-1)) (by decide +kernel) rfl rfl (Nat.le_of_ble_eq_true rfl) dX6_init_32 ?_
  rw [cE_put]
  show VG w ba G _ _ _ (cE w 3 5 [.ref (w.2.1 (4)), .int 0, .int 0, .int 0, .int (-1), .null, .int 0, .int 0] E) _ _ _
  refine g_aload_n C 0 rfl dX6_init_35 ?_
  refine g_kc C (0) (by decide) dX6_init_36 ?_
  refine g_put C (j := 6) tyX6 tyX6_ok inX6 nmX6 rfl (by omega) cE_b (by decide) fl_X6_31 rfl rfl (ty := .int) (.int 0) (by decide +kernel) rfl rfl (Nat.le_of_ble_eq_true rfl) dX6_init_37 ?_
  rw [cE_put]
  show VG w ba G _ _ _ (cE w 3 5 [.ref (w.2.1 (4)), .int 0, .int 0, .int 0, .int (-1), .null, .int 0, .int 0] E) _ _ _
  refine g_aload_n C 0 rfl dX6_init_40 ?_
  refine g_kc C (0) (by decide) dX6_init_41 ?_
  refine g_put C (j := 7) tyX6 tyX6_ok inX6 nmX6 rfl (by omega) cE_b (by decide) fl_X6_34 rfl rfl (ty := .int) (.int 0) (by decide +kernel) rfl rfl (Nat.le_of_ble_eq_true rfl) dX6_init_42 ?_
  rw [cE_put]
  show VG w ba G _ _ _ (cE w 3 5 [.ref (w.2.1 (4)), .int 0, .int 0, .int 0, .int (-1), .null, .int 0, .int 0] E) _ _ _
  refine g_aload_n C 0 rfl dX6_init_45 ?_
  refine g_aload_n C 1 rfl dX6_init_46 ?_
  refine g_putF C hI (j := 5) tyX6 tyX6_ok inX6 nmX6 rfl (by omega) cE_b (by decide) fl_X6_37 rfl rfl (ty := (.object "FollowCab$Text")) (.ref (w.2.1 1)) (by decide +kernel) rfl rfl (Nat.le_of_ble_eq_true rfl) dX6_init_47 ?_
  rw [cE_put]
  show VG w ba G _ _ _ (cE w 3 5 [.ref (w.2.1 (4)), .int 0, .int 0, .int 0, .int (-1), .ref (w.2.1 1), .int 0, .int 0] E) _ _ _
  exact ret 50 _ _ dX6_init_50 (fun j _ => cE_end (rfl) j)
set_option maxHeartbeats 4000000 in
theorem ct_X3_init {w : Wx} {ba : Nat} {l : Launch} {E : Nat → va_E} (hE : E 193 = .inr (2, [.null, .null, .int 0])) : CtN w ba l yX3_init cX3_init 1 2 32 16 312 [.ref (w.2.1 193)] E (mix w 193 E) (194) (210) := by
  refine met_n (by decide +kernel) rfl (Nat.le_of_ble_eq_true rfl) (by omega) (fun G C hG hI ret => ?_)
  refine VG.cong (E' := cE w 193 2 [.null, .null, .int 0] E) (fun j hj => cE_start hE (by omega)) ?_
  refine g_aload_n C 0 rfl dX3_init_0 ?_
  refine g_oi C ml_X3_3 (by decide) (by decide) dX3_init_1 ?_
  refine g_aload_n C 0 rfl dX3_init_4 ?_
  refine g_kb C (8) (by decide) dX3_init_5 ?_
  refine g_kb C (31) (by decide) dX3_init_7 ?_
  refine g_mk2 C cl_X3_9 (by decide) (by decide) dX3_init_9 ?_
  rw [mk_cE]
  refine g_putF C hI (j := 0) tyX3 tyX3_ok inX3 nmX3 rfl (by omega) cE_b (by decide) fl_X3_11 rfl rfl (ty := (.array (.array .int))) (.ref (w.2.1 (194))) (by decide +kernel) rfl rfl (Nat.le_of_ble_eq_true rfl) dX3_init_13 ?_
  rw [cE_put]
  show VG w ba G _ _ _ (cE w 193 2 [.ref (w.2.1 (194)), .null, .int 0] E) _ _ _
  refine g_aload_n C 0 rfl dX3_init_16 ?_
  refine g_new C tyX7 tyX7_ok inX7 cl_X3_16 it_X7 ii_X7 (ci := 6) rfl [.int 0, .int 0, .null, .null, .null, .null, .null, .null] (fun j hj => by rcases (show j = 0 ∨ j = 1 ∨ j = 2 ∨ j = 3 ∨ j = 4 ∨ j = 5 ∨ j = 6 ∨ j = 7 by omega) with rfl | rfl | rfl | rfl | rfl | rfl | rfl | rfl <;> rfl) (by decide) (by decide) dX3_init_17 ?_
  refine g_dup C rfl dX3_init_20 ?_
  refine g_callN C [.ref (w.2.1 (203)), .ref (w.2.1 193)] (ct_X7_init sc_203 (upE_s _ _ _)) yX7_init_y mn_X3_18 rfl rfl (by simp [Value.category]) (by decide) (by decide) (by decide) rfl dX3_init_21 ?_
  rw [cE_mix (by omega)]
  refine g_putF C hI (j := 1) tyX3 tyX3_ok inX3 nmX3 rfl (by omega) cE_b (by decide) fl_X3_19 rfl rfl (ty := (.object "FollowCab$Scene")) (.ref (w.2.1 (203))) (by decide +kernel) rfl rfl (Nat.le_of_ble_eq_true rfl) dX3_init_24 ?_
  rw [cE_put]
  show VG w ba G _ _ _ (cE w 193 2 [.ref (w.2.1 (194)), .ref (w.2.1 (203)), .int 0] E) _ _ _
  refine g_aload_n C 0 rfl dX3_init_27 ?_
  refine g_kc C (0) (by decide) dX3_init_28 ?_
  refine g_put C (j := 2) tyX3 tyX3_ok inX3 nmX3 rfl (by omega) cE_b (by decide) fl_X3_23 rfl rfl (ty := .int) (.int 0) (by decide +kernel) rfl rfl (Nat.le_of_ble_eq_true rfl) dX3_init_29 ?_
  rw [cE_put]
  show VG w ba G _ _ _ (cE w 193 2 [.ref (w.2.1 (194)), .ref (w.2.1 (203)), .int 0] E) _ _ _
  exact ret 32 _ _ dX3_init_32 (fun j _ => cE_end (rfl) j)
