theorem nI_of0 {a : Int32} (h : 0 ≤ a) : ∃ v, v < 2147483648 ∧ a = nI v := by
  rw [leI] at h
  have e0 : (0 : Int32).toInt = 0 := by decide
  have e1 := Int32.toInt_lt a
  have e2 : a.toInt.toNat < 2147483648 := by omega
  refine ⟨a.toInt.toNat, e2, Int32.toInt_inj.mp ?_⟩
  rw [nI_toInt e2]
  omega
theorem cl_seed {P : Int32 → Int32 → Mem → Prop} {a : Int32} {M : Mem} (hi : Inv M) (hp : ∀ r M', Inv M' → P r r M') : wp_X9_seed (fun r M1 => wp_X10_seed (fun q M2 => P r q M2) a M1) a M := by
  unfold wp_X9_seed bd_X9_seed wp_X10_seed bd_X10_seed
  refine ⟨fun h => ?_, fun h => ⟨fun h2 => absurd h2 h, fun _ => hp _ M hi⟩⟩
  intro M1 e1
  refine ⟨fun _ => ?_, fun h2 => absurd h h2⟩
  intro M2 e2
  obtain ⟨n, R, L, f, q1, q2, q3, q4, q5, q6, q7, q8, q9⟩ := hi
  obtain ⟨v, v1, v2, v3⟩ := q6
  obtain ⟨w, w1, w2⟩ := nI_of0 h
  have ho : ∀ a, a ≠ 210 → a ≠ 211 → M2 a = M a := fun a b1 b2 => by rw [e2, up_o b2, e1, up_o b1]
  have h1 : ∀ k, k ≠ 6 → M2 211 k = M 211 k := fun k hk => by rw [e2, up_sn hk, e1, up_o (by decide)]
  have hr : M1 211 6 = M 210 0 := by rw [e1, up_o (by decide), v3, v2]
  rw [hr]
  refine hp _ M2 ⟨n, R, L, f, Nw_c (fun a b1 b2 => ho a (by omega) (by omega)) (h1 _ (by decide)) (fun a b1 b2 => ho a (by omega) (by omega)) q1,
    Hi_c (fun a b1 b2 => ho a (by omega) (by omega)) (h1 _ (by decide)) (ho _ (by decide) (by decide)) q2,
    Im_c (fun a b1 b2 => ho a (by omega) (by omega)) (fun a b1 b2 => ho a (by omega) (by omega)) q3,
    Si_c (fun a b1 b2 => ho a (by omega) (by omega)) (h1 _ (by decide)) (fun a b1 b2 => ho a (by omega) (by omega)) q4,
    Bk_c (fun a b1 b2 => ho a (by omega) (by omega)) (h1 _ (by decide)) (fun a b1 b2 => ho a (by omega) (by omega)) q5,
    ⟨w, w1, ?_, ?_⟩,
    Tx_c (fun a b1 b2 => ho a (by omega) (by omega)) (h1 _ (by decide)) (ho _ (by decide) (by decide)) q7,
    Tn_c (congrFun (ho 0 (by decide) (by decide)) _) (congrFun (ho 0 (by decide) (by decide)) _) (h1 _ (by decide)) (h1 _ (by decide)) q8,
    Fl_c (congrFun (ho 0 (by decide) (by decide)) _) (h1 _ (by decide)) q9⟩
  · rw [e2, up_o (by decide), e1, up_ss]
    exact w2
  · rw [e2, up_ss]
    exact w2
theorem cl_tear {P : Int32 → Int32 → Mem → Prop} {M : Mem} (hi : Inv M) (hp : ∀ r M', Inv M' → P r r M') : wp_X9_tear (fun r M1 => wp_X10_tear (fun q M2 => P r q M2) M1) M := by
  unfold wp_X9_tear bd_X9_tear wp_X10_tear bd_X10_tear
  intro M1 e1 M2 e2 M3 e3 M4 e4
  obtain ⟨n, R, L, f, q1, q2, q3, q4, q5, q6, q7, q8, q9⟩ := hi
  obtain ⟨sn, s1, s2, s3, r1, r2, r3⟩ := q4
  obtain ⟨bn, b1, b2, b3, b4, b5⟩ := q5
  have ho : ∀ a, a ≠ 185 → a ≠ 189 → a ≠ 211 → M4 a = M a := fun a b1 b2 b3 => by rw [e4, up_o b3, e3, up_o b3, e2, up_o b2, e1, up_o b1]
  have h1 : ∀ k, k ≠ 23 → k ≠ 29 → M4 211 k = M 211 k := fun k hk hl => by rw [e4, up_sn hl, e3, up_sn hk, e2, up_o (by decide), e1, up_o (by decide)]
  have hr : M2 211 23 + M2 211 29 = M 185 4 + M 189 4 := by rw [e2, up_o (by decide), e1, up_o (by decide), r2.2.1, r3.1, b3, b4]
  rw [hr]
  refine hp _ M4 ⟨n, R, L, f, Nw_c (fun a b1 b2 => ho a (by omega) (by omega) (by omega)) (h1 _ (by decide) (by decide)) (fun a b1 b2 => ho a (by omega) (by omega) (by omega)) q1,
    Hi_c (fun a b1 b2 => ho a (by omega) (by omega) (by omega)) (h1 _ (by decide) (by decide)) (ho _ (by decide) (by decide) (by decide)) q2,
    Im_c (fun a b1 b2 => ho a (by omega) (by omega) (by omega)) (fun a b1 b2 => ho a (by omega) (by omega) (by omega)) q3,
    ⟨0, s1, s2, s3, ⟨by decide, fun i hi => absurd hi (by omega)⟩, ⟨?_, ?_, fun i hi => absurd hi (by omega)⟩, ⟨?_, fun i hi => absurd hi (by omega)⟩⟩,
    ⟨0, by decide, ?_, ?_, ?_, fun i hi => absurd hi (by omega)⟩,
    Dw_c (ho _ (by decide) (by decide) (by decide)) (h1 _ (by decide) (by decide)) q6,
    Tx_c (fun a b1 b2 => ho a (by omega) (by omega) (by omega)) (h1 _ (by decide) (by decide)) (ho _ (by decide) (by decide) (by decide)) q7,
    Tn_c (congrFun (ho 0 (by decide) (by decide) (by decide)) _) (congrFun (ho 0 (by decide) (by decide) (by decide)) _) (h1 _ (by decide) (by decide)) (h1 _ (by decide) (by decide)) q8,
    Fl_c (congrFun (ho 0 (by decide) (by decide) (by decide)) _) (h1 _ (by decide) (by decide)) q9⟩
  · rw [e4, up_o (by decide), e3, up_o (by decide), e2, up_o (by decide), e1, up_sn (by decide)]
    exact r2.1
  · rw [e4, up_o (by decide), e3, up_o (by decide), e2, up_o (by decide), e1, up_ss]
    rfl
  · rw [e4, up_sn (by decide), e3, up_ss]
    rfl
  · rw [e4, up_o (by decide), e3, up_o (by decide), e2, up_sn (by decide), e1, up_o (by decide)]
    exact b2
  · rw [e4, up_o (by decide), e3, up_o (by decide), e2, up_ss]
    rfl
  · rw [e4, up_ss]
    rfl
