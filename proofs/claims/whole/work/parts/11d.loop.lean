theorem sw31 (x : Int32) : ∃ j : Nat, j < 32 ∧ x &&& 31 = nI j := by
  refine ⟨(x &&& 31).toBitVec.toNat, ?_, ?_⟩
  · rw [Int32.toBitVec_and, BitVec.toNat_and]
    have h : x.toBitVec.toNat &&& (31 : Int32).toBitVec.toNat ≤ (31 : Int32).toBitVec.toNat := Nat.and_le_right
    have h2 : (31 : Int32).toBitVec.toNat = 31 := by decide
    omega
  · apply Int32.toBitVec_inj.mp
    show _ = BitVec.ofNat 32 _
    rw [BitVec.ofNat_toNat]
    exact (BitVec.setWidth_eq _).symm
theorem law_loop {w : Wx} {G : Gx} {b L : Nat} {xs : Nat → Int32} (C : Cx w G cL_law RL 10 342 4) (hX : LX w G b L xs) (hL : L ≤ 256) (fin : ∀ M lv, V w G 904 lv [] M) : ∀ n k M, Inv M → L < 4 * (k + n) → 4 * k ≤ 300 → V w G 18 (lvk w b k) [] M := by
  intro n
  induction n with
  | zero =>
    intro k M hi hn hk
    have cmp : nI L - 4 < nI (4 * k) := by
      rw [ltI, show (4 : Int32) = nI 4 from rfl, pk_sub_toInt (by omega) (by decide), nI_toInt (by omega)]
      omega
    refine v_iload_n C 0 rfl dL_law_18 ?_
    refine v_aload_n C 3 rfl dL_law_19 ?_
    refine v_slen C hX dL_law_20 ?_
    refine v_kc C (4) (by decide) dL_law_21 ?_
    refine v_isub C dL_law_22 ?_
    exact v_icmp_gt C 904 rfl dL_law_23 (fun _ => fin M _) (fun z => absurd cmp z)
  | succ n ih =>
    intro k M hi hn hk
    refine v_iload_n C 0 rfl dL_law_18 ?_
    refine v_aload_n C 3 rfl dL_law_19 ?_
    refine v_slen C hX dL_law_20 ?_
    refine v_kc C (4) (by decide) dL_law_21 ?_
    refine v_isub C dL_law_22 ?_
    refine v_icmp_gt C 904 rfl dL_law_23 (fun _ => fin M _) (fun z => ?_)
    have hk4 : 4 * k + 4 ≤ L := by
      rw [ltI, show (4 : Int32) = nI 4 from rfl, pk_sub_toInt (by omega) (by decide), nI_toInt (by omega)] at z
      omega
    have kk : ∀ M2, Inv M2 → V w G 898 (lvk w b k) [] M2 := by
      intro M2 h2
      refine v_iinc C (j := 0) (d := 4) (lvk w b (k + 1)) rfl (nI (4 * (k + 1))) (nI_add (4 * k) 4) rfl (by decide) dL_law_898 ?_
      refine v_goto C 18 rfl dL_law_901 ?_
      exact ih (k + 1) M2 h2 (by omega) (by omega)
    refine v_aload_n C 3 rfl dL_law_26 ?_
    refine v_iload_n C 0 rfl dL_law_27 ?_
    refine v_sld C hX (inb (by omega) (by omega)) dL_law_28 ?_
    refine v_kb C (31) (by decide) dL_law_29 ?_
    refine v_iand C dL_law_31 ?_
    obtain ⟨j, hj, e⟩ := sw31 (xs (nI (4 * k)).toNatClampNeg)
    rw [e]
    clear e
    rcases (show j = 0 ∨ j = 1 ∨ j = 2 ∨ j = 3 ∨ j = 4 ∨ j = 5 ∨ j = 6 ∨ j = 7 ∨ j = 8 ∨ j = 9 ∨ j = 10 ∨ j = 11 ∨ j = 12 ∨ j = 13 ∨ j = 14 ∨ j = 15 ∨ j = 16 ∨ j = 17 ∨ j = 18 ∨ j = 19 ∨ j = 20 ∨ j = 21 ∨ j = 22 ∨ j = 23 ∨ j = 24 ∨ j = 25 ∨ j = 26 ∨ j = 27 ∨ j = 28 ∨ j = 29 ∨ j = 30 ∨ j = 31 by omega) with rfl | rfl | rfl | rfl | rfl | rfl | rfl | rfl | rfl | rfl | rfl | rfl | rfl | rfl | rfl | rfl | rfl | rfl | rfl | rfl | rfl | rfl | rfl | rfl | rfl | rfl | rfl | rfl | rfl | rfl | rfl | rfl
    · exact v_tableIn C 168 rfl (by decide) (by decide) rfl dL_law_32 (lc_0 C hX hk4 hL hi kk)
    · exact v_tableIn C 191 rfl (by decide) (by decide) rfl dL_law_32 (lc_1 C hX hk4 hL hi kk)
    · exact v_tableIn C 204 rfl (by decide) (by decide) rfl dL_law_32 (lc_2 C hX hk4 hL hi kk)
    · exact v_tableIn C 217 rfl (by decide) (by decide) rfl dL_law_32 (lc_3 C hX hk4 hL hi kk)
    · exact v_tableIn C 240 rfl (by decide) (by decide) rfl dL_law_32 (lc_4 C hX hk4 hL hi kk)
    · exact v_tableIn C 273 rfl (by decide) (by decide) rfl dL_law_32 (lc_5 C hX hk4 hL hi kk)
    · exact v_tableIn C 296 rfl (by decide) (by decide) rfl dL_law_32 (lc_6 C hX hk4 hL hi kk)
    · exact v_tableIn C 329 rfl (by decide) (by decide) rfl dL_law_32 (lc_7 C hX hk4 hL hi kk)
    · exact v_tableIn C 352 rfl (by decide) (by decide) rfl dL_law_32 (lc_8 C hX hk4 hL hi kk)
    · exact v_tableIn C 375 rfl (by decide) (by decide) rfl dL_law_32 (lc_9 C hX hk4 hL hi kk)
    · exact v_tableIn C 398 rfl (by decide) (by decide) rfl dL_law_32 (lc_10 C hX hk4 hL hi kk)
    · exact v_tableIn C 411 rfl (by decide) (by decide) rfl dL_law_32 (lc_11 C hX hk4 hL hi kk)
    · exact v_tableIn C 444 rfl (by decide) (by decide) rfl dL_law_32 (lc_12 C hX hk4 hL hi kk)
    · exact v_tableIn C 477 rfl (by decide) (by decide) rfl dL_law_32 (lc_13 C hX hk4 hL hi kk)
    · exact v_tableIn C 500 rfl (by decide) (by decide) rfl dL_law_32 (lc_14 C hX hk4 hL hi kk)
    · exact v_tableIn C 533 rfl (by decide) (by decide) rfl dL_law_32 (lc_15 C hX hk4 hL hi kk)
    · exact v_tableIn C 556 rfl (by decide) (by decide) rfl dL_law_32 (lc_16 C hX hk4 hL hi kk)
    · exact v_tableIn C 569 rfl (by decide) (by decide) rfl dL_law_32 (lc_17 C hX hk4 hL hi kk)
    · exact v_tableIn C 602 rfl (by decide) (by decide) rfl dL_law_32 (lc_18 C hX hk4 hL hi kk)
    · exact v_tableIn C 635 rfl (by decide) (by decide) rfl dL_law_32 (lc_19 C hX hk4 hL hi kk)
    · exact v_tableIn C 658 rfl (by decide) (by decide) rfl dL_law_32 (lc_20 C hX hk4 hL hi kk)
    · exact v_tableIn C 681 rfl (by decide) (by decide) rfl dL_law_32 (lc_21 C hX hk4 hL hi kk)
    · exact v_tableIn C 724 rfl (by decide) (by decide) rfl dL_law_32 (lc_22 C hX hk4 hL hi kk)
    · exact v_tableIn C 747 rfl (by decide) (by decide) rfl dL_law_32 (lc_23 C hX hk4 hL hi kk)
    · exact v_tableIn C 770 rfl (by decide) (by decide) rfl dL_law_32 (lc_24 C hX hk4 hL hi kk)
    · exact v_tableIn C 803 rfl (by decide) (by decide) rfl dL_law_32 (lc_25 C hX hk4 hL hi kk)
    · exact v_tableIn C 816 rfl (by decide) (by decide) rfl dL_law_32 (lc_26 C hX hk4 hL hi kk)
    · exact v_tableIn C 829 rfl (by decide) (by decide) rfl dL_law_32 (lc_27 C hX hk4 hL hi kk)
    · exact v_tableIn C 852 rfl (by decide) (by decide) rfl dL_law_32 (lc_28 C hX hk4 hL hi kk)
    · exact v_tableIn C 875 rfl (by decide) (by decide) rfl dL_law_32 (lc_29 C hX hk4 hL hi kk)
    · exact v_tableOut C 898 rfl (by decide) dL_law_32 (kk M hi)
    · exact v_tableOut C 898 rfl (by decide) dL_law_32 (kk M hi)
