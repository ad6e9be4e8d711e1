/-! HEAD -/
def hdp (n : Nat) (f : Nat → Int32) (c d : Nat) : Bool := decide (d ≠ c) && (decide (f d = f c) && rch n f d c)
def hd (n : Nat) (f : Nat → Int32) (c : Nat) : Bool := anyb (hdp n f c) n
theorem bt_not {c j : Nat} (hc : c < 32) (hj : j < 32) : bt (((1 : Int32) <<< (nI c &&& 31)) ^^^ (-1)) j = decide (j ≠ c) := by
  rw [b_xor, bt_one hc hj, b_m1 j hj]
  by_cases e : j = c
  · rw [decide_eq_true e, decide_eq_false (fun q => q e)]; rfl
  · rw [decide_eq_false e, decide_eq_true e]; rfl
theorem sp_heads {Q : Int32 → Mem → Prop} {b n : Nat} {f : Nat → Int32} {M : Mem} (h : Ldr n f) (hcor : Cor n f) (h0 : M b 0 = nI n) (hl1 : ∀ c, c < n → M (b + 1) c = f c) (hl : ∀ c, c < n → M (b + 2) c = f (8 + c)) (hq : Q (bs (hd n f) n) M) : wp_X7_heads Q b M := by
  have h8 := h.1
  intro X4 h4
  have key : X4 (bs (hd n f) 0) (nI 0) M := by
    refine upto (P := fun i => X4 (bs (hd n f) i) (nI i) M) (n := n) ?_ ?_
    · apply h4
      unfold bd_X7_heads_4
      rw [h0]
      exact ⟨fun _ => hq, fun q => absurd ((leN (by omega) (by omega)).mpr (Nat.le_refl n)) q⟩
    · intro i hi ih
      apply h4
      unfold bd_X7_heads_4
      rw [h0, leN (by omega) (by omega), nI_1]
      refine ⟨fun q => absurd q (by omega), fun _ => sp_allBeside hcor h0 hl1 (sp_trailOf h h0 hl hi ?_)⟩
      have e : ((bs (bsd n f ((1 : Int32) <<< (nI i &&& 31))) n &&& (((1 : Int32) <<< (nI i &&& 31)) ^^^ (-1))) &&& bs (fun d => rch n f d i) n = 0) ↔ ¬ hd n f i = true := by
        rw [and_0]
        unfold hd
        rw [anyb_iff]
        constructor
        · intro hz ⟨d, d1, d2⟩
          unfold hdp at d2
          rw [Bool.and_eq_true, Bool.and_eq_true, decide_eq_true_eq, decide_eq_true_eq] at d2
          refine hz d (by omega) ⟨?_, ?_⟩
          · rw [b_and, bt_bs _ _ _ (by omega) (by omega), bt_not (by omega) (by omega), Bool.and_eq_true, Bool.and_eq_true, decide_eq_true_eq, decide_eq_true_eq]
            refine ⟨⟨d1, ?_⟩, d2.1⟩
            unfold bsd
            exact (anyb_iff _ _).mpr ⟨i, hi, by rw [bt_one (by omega) (by omega), decide_eq_true rfl, Bool.true_and, decide_eq_true_eq]; exact d2.2.1.symm⟩
          · rw [bt_bs _ _ _ (by omega) (by omega), Bool.and_eq_true, decide_eq_true_eq]
            exact ⟨d1, d2.2.2⟩
        · intro hz d hd ⟨g1, g2⟩
          rw [b_and, bt_bs _ _ _ (by omega) hd, bt_not (by omega) hd, Bool.and_eq_true, Bool.and_eq_true, decide_eq_true_eq, decide_eq_true_eq] at g1
          rw [bt_bs _ _ _ (by omega) hd, Bool.and_eq_true, decide_eq_true_eq] at g2
          refine hz ⟨d, g2.1, ?_⟩
          unfold hdp
          rw [Bool.and_eq_true, Bool.and_eq_true, decide_eq_true_eq, decide_eq_true_eq]
          refine ⟨g1.2, ?_, g2.2⟩
          obtain ⟨e, e1, e2⟩ := (anyb_iff _ _).mp g1.1.2
          rw [bt_one (by omega) (by omega), Bool.and_eq_true, decide_eq_true_eq, decide_eq_true_eq] at e2
          rw [e2.1] at e2
          exact e2.2.symm
      rw [e]
      rw [bs_succ] at ih
      refine ⟨fun q => ?_, fun q => ?_⟩
      · rw [if_neg q] at ih; exact ih
      · rw [if_pos (by simpa using q)] at ih; exact ih
  rw [nI_0] at key
  exact key
theorem or_idem (s b : Int32) : (s ||| b) ||| b = s ||| b := by
  apply b_ext
  intro i hi
  rw [b_or, b_or]
  cases bt s i <;> cases bt b i <;> rfl
theorem sp_headsR {Q : Int32 → Mem → Prop} {n : Nat} {f : Nat → Int32} {M : Mem} (h : Ldr n f) (h0 : M 211 2 = nI n) (hf : M 214 = f) (hq : Q (bs (hd n f) n) M) : wp_X10_heads Q M := by
  have h8 := h.1
  intro X4 X27 h4 h27
  have key : X4 (bs (hd n f) 0) (nI 0) M := by
    refine upto (P := fun i => X4 (bs (hd n f) i) (nI i) M) (n := n) ?_ ?_
    · apply h4
      unfold bd_X10_heads_4
      rw [h0]
      exact ⟨fun _ => hq, fun q => absurd ((leN (by omega) (by omega)).mpr (Nat.le_refl n)) q⟩
    · intro c hc ih
      apply h4
      unfold bd_X10_heads_4
      rw [h0, leN (by omega) (by omega)]
      refine ⟨fun q => absurd q (by omega), fun _ => sp_behindOf h h0 hf hc ?_⟩
      have k2 : X27 (if anyb (hdp n f c) 0 = true then bs (hd n f) c ||| ((1 : Int32) <<< (nI c &&& 31)) else bs (hd n f) c) (nI c) (bs (fun d => rch n f d c) n &&& (((1 : Int32) <<< (nI c &&& 31)) ^^^ (-1))) (nI 0) M := by
        refine upto (P := fun i => X27 (if anyb (hdp n f c) i = true then bs (hd n f) c ||| ((1 : Int32) <<< (nI c &&& 31)) else bs (hd n f) c) (nI c) (bs (fun d => rch n f d c) n &&& (((1 : Int32) <<< (nI c &&& 31)) ^^^ (-1))) (nI i) M) (n := n) ?_ ?_
        · apply h27
          unfold bd_X10_heads_27
          rw [h0, nI_1]
          rw [bs_succ] at ih
          exact ⟨fun _ => ih, fun q => absurd ((leN (by omega) (by omega)).mpr (Nat.le_refl n)) q⟩
        · intro i hi ih2
          apply h27
          unfold bd_X10_heads_27
          rw [h0, leN (by omega) (by omega), nI_1 i]
          refine ⟨fun q => absurd q (by omega), fun _ => sp_has (by omega) ?_⟩
          rw [b_and, bt_bs _ _ _ (by omega) (by omega), bt_not (by omega) (by omega), decide_eq_true (show i < n by omega), Bool.true_and, cl (show i < 1000000 by omega), cl (show c < 1000000 by omega), hf]
          rw [anyb] at ih2
          have no : hdp n f c i = false → X27 (if anyb (hdp n f c) i = true then bs (hd n f) c ||| ((1 : Int32) <<< (nI c &&& 31)) else bs (hd n f) c) (nI c) (bs (fun d => rch n f d c) n &&& (((1 : Int32) <<< (nI c &&& 31)) ^^^ (-1))) (nI (i + 1)) M := by
            intro e
            rw [e, Bool.or_false] at ih2
            exact ih2
          cases e : (rch n f i c && decide (i ≠ c))
          · refine ⟨fun _ => ?_, fun q => absurd rfl q⟩
            rw [or0]
            apply no
            unfold hdp
            rw [Bool.and_eq_false_iff] at e
            rcases e with e | e
            · rw [e]; simp
            · rw [e]; simp
          · rw [Bool.and_eq_true] at e
            refine ⟨fun q => absurd q (by decide), fun _ => ⟨inb (by omega) (by omega), inb (by omega) (by omega), ?_⟩⟩
            by_cases ef : f i = f c
            · have eh : hdp n f c i = true := by unfold hdp; rw [e.2, e.1, decide_eq_true ef]; rfl
              rw [eh, Bool.or_true, if_pos rfl] at ih2
              rw [if_pos ef]
              by_cases ea : anyb (hdp n f c) i = true
              · rw [if_pos ea, or_idem]; exact ih2
              · rw [if_neg ea]; exact ih2
            · rw [if_neg ef, or0]
              apply no
              unfold hdp
              rw [decide_eq_false ef]; simp
      rw [nI_0] at k2
      exact k2
  rw [nI_0] at key
  exact key
/-! copies -/
theorem sp_copyFrom {Q : Mem → Prop} {b d n : Nat} {R L f : Nat → Int32} {M : Mem} (hn : n ≤ 8) (hdis : b + 6 < d ∨ d + 6 < b) (hr : SR n R L f M d) (hq : ∀ M', SR n R L f M' b → (∀ a, (a < b ∨ b + 6 < a) → M' a = M a) → Q M') : wp_X7_copyFrom Q b d M := by
  intro M1 e1 M2 e2 M3 e3 M4 e4 M5 e5 M6 e6 M7 e7
  obtain ⟨r0, r1, r2⟩ := hr
  have f1 : ∀ a, a ≠ b → M2 a = M a := fun a ha => by rw [e2, up_o ha, e1, up_o ha]
  have f3 : ∀ a, a ≠ b → a ≠ b + 1 → M3 a = M a := fun a h1 h2 => by rw [e3, upr_o h2, f1 a h1]
  have f4 : ∀ a, a ≠ b → a ≠ b + 1 → a ≠ b + 2 → M4 a = M a := fun a h1 h2 h3 => by rw [e4, upr_o h3, f3 a h1 h2]
  have f5 : ∀ a, a ≠ b → a ≠ b + 1 → a ≠ b + 2 → a ≠ b + 3 → M5 a = M a := fun a h1 h2 h3 h4 => by rw [e5, upr_o h4, f4 a h1 h2 h3]
  have f6 : ∀ a, a ≠ b → a ≠ b + 1 → a ≠ b + 2 → a ≠ b + 3 → a ≠ b + 4 → M6 a = M a := fun a h1 h2 h3 h4 h5 => by rw [e6, upr_o h5, f5 a h1 h2 h3 h4]
  have f7 : ∀ a, a ≠ b → a ≠ b + 1 → a ≠ b + 2 → a ≠ b + 3 → a ≠ b + 4 → a ≠ b + 5 → M7 a = M a := fun a h1 h2 h3 h4 h5 h6 => by rw [e7, upr_o h6, f6 a h1 h2 h3 h4 h5]
  have gb : M7 b = upd (upd (M b) 0 (M d 0)) 1 (M d 1) := by
    rw [e7, upr_o (by omega), e6, upr_o (by omega), e5, upr_o (by omega), e4, upr_o (by omega), e3, upr_o (by omega), e2, up_s, e1, up_s, up_o (by omega)]
  refine hq M7 ⟨?_, ?_, fun c hc => ?_⟩ (fun a ha => f7 a (by omega) (by omega) (by omega) (by omega) (by omega) (by omega))
  · rw [gb, ← r0]; rfl
  · rw [gb, ← r1]; rfl
  · obtain ⟨g1, g2, g3, g4, g5⟩ := r2 c hc
    have h8 : c < 8 := by omega
    refine ⟨?_, ?_, ?_, ?_, ?_⟩
    · rw [e7, upr_o (by omega), e6, upr_o (by omega), e5, upr_o (by omega), e4, upr_o (by omega), e3, upr_s, f1 (d + 1) (by omega)]
      exact (if_pos h8).trans g1
    · rw [e7, upr_o (by omega), e6, upr_o (by omega), e5, upr_o (by omega), e4, upr_s, f3 (d + 2) (by omega) (by omega)]
      exact (if_pos h8).trans g2
    · rw [e7, upr_o (by omega), e6, upr_o (by omega), e5, upr_s, f4 (d + 3) (by omega) (by omega) (by omega)]
      exact (if_pos h8).trans g3
    · rw [e7, upr_o (by omega), e6, upr_s, f5 (d + 4) (by omega) (by omega) (by omega) (by omega)]
      exact (if_pos h8).trans g4
    · rw [e7, upr_s, f6 (d + 5) (by omega) (by omega) (by omega) (by omega) (by omega)]
      exact (if_pos h8).trans g5
def cp41 (f g : Nat → Int32) : Nat → Int32 := fun k => if k < 41 then f k else g k
theorem l41 : (41 : Int32) = nI 41 := rfl
/-- a loop that copies row s to row t, 41 places -/
theorem cp_step {f g : Nat → Int32} {i : Nat} (hi : i < 41) : upd (fun k => if k < i then f k else g k) i (f i) = fun k => if k < i + 1 then f k else g k := by
  funext k
  unfold upd
  by_cases e : k = i
  · rw [if_pos e, if_pos (by omega), e]
  · rw [if_neg e]
    have a1 : (k < i + 1) = (k < i) := by apply propext; omega
    simp only [a1]
theorem sp_save {Q : Mem → Prop} {M : Mem} (hq : ∀ M', M' 223 = cp41 (M 214) (M 223) → (∀ a, a ≠ 223 → M' a = M a) → Q M') : wp_X10_save Q M := by
  intro X2 h2
  have key : ∀ M', M' 223 = (fun k => if k < 0 then M 214 k else M 223 k) → (∀ a, a ≠ 223 → M' a = M a) → X2 (nI 0) M' := by
    refine upto (P := fun i => ∀ M', M' 223 = (fun k => if k < i then M 214 k else M 223 k) → (∀ a, a ≠ 223 → M' a = M a) → X2 (nI i) M') (n := 41) ?_ ?_
    · intro M' e1 e2
      apply h2
      unfold bd_X10_save_2
      rw [l41]
      exact ⟨fun _ => hq M' e1 e2, fun q => absurd ((leN (by omega) (by omega)).mpr (Nat.le_refl 41)) q⟩
    · intro i hi ih M' e1 e2
      apply h2
      unfold bd_X10_save_2
      rw [l41, leN (by omega) (by omega), cl (by omega), nI_1]
      refine ⟨fun q => absurd q (by omega), fun _ => ⟨inb hi (by omega), inb hi (by omega), fun M3 e3 => ih M3 ?_ (fun a ha => by rw [e3, up_o ha, e2 a ha])⟩⟩
      rw [e3, up_s, e1, e2 214 (by decide)]
      exact cp_step hi
  have h1 := key M (by funext k; simp) (fun _ _ => rfl)
  rw [nI_0] at h1
  exact h1
theorem sp_putBack {Q : Mem → Prop} {M : Mem} (hq : ∀ M', M' 214 = cp41 (M 223) (M 214) → (∀ a, a ≠ 214 → M' a = M a) → Q M') : wp_X10_putBack Q M := by
  intro X2 h2
  have key : ∀ M', M' 214 = (fun k => if k < 0 then M 223 k else M 214 k) → (∀ a, a ≠ 214 → M' a = M a) → X2 (nI 0) M' := by
    refine upto (P := fun i => ∀ M', M' 214 = (fun k => if k < i then M 223 k else M 214 k) → (∀ a, a ≠ 214 → M' a = M a) → X2 (nI i) M') (n := 41) ?_ ?_
    · intro M' e1 e2
      apply h2
      unfold bd_X10_putBack_2
      rw [l41]
      exact ⟨fun _ => hq M' e1 e2, fun q => absurd ((leN (by omega) (by omega)).mpr (Nat.le_refl 41)) q⟩
    · intro i hi ih M' e1 e2
      apply h2
      unfold bd_X10_putBack_2
      rw [l41, leN (by omega) (by omega), cl (by omega), nI_1]
      refine ⟨fun q => absurd q (by omega), fun _ => ⟨inb hi (by omega), inb hi (by omega), fun M3 e3 => ih M3 ?_ (fun a ha => by rw [e3, up_o ha, e2 a ha])⟩⟩
      rw [e3, up_s, e1, e2 223 (by decide)]
      exact cp_step hi
  have h1 := key M (by funext k; simp) (fun _ _ => rfl)
  rw [nI_0] at h1
  exact h1
/-- beyond its 41 places a vector stays -/
theorem stpN_far {n : Nat} {R L f : Nat → Int32} {j : Nat} (hj : 41 ≤ j) : ∀ k, stpN n R L f k j = f j
  | 0 => rfl
  | k + 1 => by
    show stp n R L (stpN n R L f k) j = f j
    rw [stp_o (by omega), pst_32 (by omega), stpN_far hj k]
/-- steps are tried and put back -/
theorem put_again {n k : Nat} {R L f g : Nat → Int32} : cp41 (cp41 f g) (stpN n R L f k) = f := by
  funext j
  unfold cp41
  by_cases h : j < 41
  · rw [if_pos h, if_pos h]
  · rw [if_neg h, stpN_far (by omega)]
