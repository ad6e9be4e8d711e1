theorem sp_whom {Q : Int32 → Mem → Prop} {a1 : Int32} {n sn : Nat} {R L f s1 s2 s3 : Nat → Int32} {M : Mem} (hw : WF n R L f) (hr : SR n R L f M 11) (hs : Sn n sn s1 s2) (he : CE sn s1 s2 s3 M) (hu : (∀ j, j < n → a1 ≠ nI j) → Q (-1000000001) M) (hq : ∀ c, c < n → a1 = nI c → ∀ M', (∀ a, (a < 193 ∨ 209 < a) → M' a = M a) → Q (bs (fitp n R L f s1 s2 s3 sn c) n) M') : wp_X9_whom Q a1 M := by
  have h8 := hw.1
  unfold wp_X9_whom bd_X9_whom
  refine sp_isCar (n := n) (by omega) hr.1 (fun j hj ej => ⟨fun q => absurd q (by decide), fun _ => ?_⟩) (fun q => ⟨fun _ => hu q, fun q => absurd rfl q⟩)
  have hq := hq j hj ej
  rw [ej]
  refine sp_weigh hw hj hr hs he (fun M' h1 h2 h3 => ?_)
  rw [h1]
  exact hq M' h3
theorem sp_whomR {Q : Int32 → Mem → Prop} {a1 : Int32} {n sn : Nat} {R L f s1 s2 s3 : Nat → Int32} {M : Mem} (hw : WF n R L f) (hcr : M 211 2 = nI n) (hR : M 212 = R) (hL : M 213 = L) (hf : M 214 = f) (hs : Sn n sn s1 s2) (he : RE sn s1 s2 s3 M) (hu : (∀ j, j < n → a1 ≠ nI j) → Q (-1000000001) M) (hq : ∀ c, c < n → a1 = nI c → ∀ M', (∀ a, a ≠ 221 → a ≠ 223 → a ≠ 227 → M' a = M a) → Q (bs (fitp n R L f s1 s2 s3 sn c) n) M') : wp_X10_whom Q a1 M := by
  have h8 := hw.1
  intro X15 hx
  refine sp_isCarR (n := n) (by omega) hcr (fun c hc ec => ⟨fun q => absurd q (by decide), fun _ => ?_⟩) (fun q => ⟨fun _ => hu q, fun q => absurd rfl q⟩)
  have hq := hq c hc ec
  have key : ∀ M', (∀ a, a ≠ 221 → a ≠ 223 → a ≠ 227 → M' a = M a) → X15 (bs (fitp n R L f s1 s2 s3 sn c) 0) (nI 0) M' := by
    refine upto (P := fun i => ∀ M', (∀ a, a ≠ 221 → a ≠ 223 → a ≠ 227 → M' a = M a) → X15 (bs (fitp n R L f s1 s2 s3 sn c) i) (nI i) M') (n := n) ?_ ?_
    · intro M' h3
      apply hx
      unfold bd_X10_whom_15
      rw [h3 211 (by decide) (by decide) (by decide), hcr]
      exact ⟨fun _ => hq M' h3, fun z => absurd ((leN (by omega) (by omega)).mpr (Nat.le_refl n)) z⟩
    · intro i hi ih M' h3
      apply hx
      unfold bd_X10_whom_15
      have f11 := h3 211 (by decide) (by decide) (by decide)
      rw [f11, hcr, leN (by omega) (by omega), ec, eqN (by omega) (by omega), nI_1]
      refine ⟨fun z => absurd z (by omega), fun _ => ⟨fun q => ?_, fun q => ?_⟩⟩
      · have h4 := ih M' h3
        rw [bs_succ, if_neg (by unfold fitp; rw [decide_eq_false (fun z => z q), Bool.false_and]; decide)] at h4
        rw [or0]; exact h4
      · have he' : RE sn s1 s2 s3 M' := by
          refine ⟨by rw [f11]; exact he.1, fun j hj => ?_⟩
          rw [h3 224 (by decide) (by decide) (by decide), h3 225 (by decide) (by decide) (by decide), h3 226 (by decide) (by decide) (by decide)]
          exact he.2 j hj
        refine sp_couldFollow hw hc hi q (by rw [f11, hcr]) (by rw [h3 212 (by decide) (by decide) (by decide), hR]) (by rw [h3 213 (by decide) (by decide) (by decide), hL]) (by rw [h3 214 (by decide) (by decide) (by decide), hf]) hs he' (fun M2 g1 g2 => ?_)
        have h4 := ih M2 (fun a b1 b2 b3 => by rw [g2 a b1 b2 b3, h3 a b1 b2 b3])
        rw [bs_succ] at h4
        by_cases z : fitp n R L f s1 s2 s3 sn c i = true
        · rw [if_pos z] at h4 ⊢
          rw [if_neg (by decide)]; exact h4
        · rw [if_neg z] at h4 ⊢
          rw [if_pos rfl, or0]; exact h4
  have h3 := key M (fun _ _ _ _ => rfl)
  rw [nI_0] at h3
  exact h3
/-- how many with p are at j -/
def cwj (p : Nat → Bool) (w : Nat → Int32) (j : Int32) : Nat → Nat
  | 0 => 0
  | i + 1 => cwj p w j i + (if p i = true ∧ w i = j then 1 else 0)
theorem cwj_le (p : Nat → Bool) (w : Nat → Int32) (j : Int32) : ∀ n, cwj p w j n ≤ n
  | 0 => Nat.le_refl 0
  | n + 1 => by
    have := cwj_le p w j n
    rw [cwj]
    split <;> omega
theorem cwj_pos {p : Nat → Bool} {w : Nat → Int32} {j : Int32} : ∀ n, 0 < cwj p w j n → ∃ d, d < n ∧ p d = true ∧ w d = j
  | 0, h => by rw [cwj] at h; omega
  | n + 1, h => by
    rw [cwj] at h
    by_cases q : p n = true ∧ w n = j
    · exact ⟨n, by omega, q⟩
    · rw [if_neg q] at h
      obtain ⟨d, d1, d2⟩ := cwj_pos n (by omega)
      exact ⟨d, by omega, d2⟩
theorem cwj_cut {p : Nat → Bool} {w w' : Nat → Int32} {j : Int32} {n : Nat} (hp : ∀ i, n ≤ i → p i = false) (hw : ∀ i, i < n → p i = true → w i = w' i) : ∀ m, n ≤ m → cwj p w j m = cwj p w' j n
  | 0, h => by
    have e : n = 0 := by omega
    rw [e]; rfl
  | m + 1, h => by
    rcases Nat.lt_or_ge m n with q | q
    · have e : n = m + 1 := by omega
      have hc : ∀ i, i ≤ n → cwj p w j i = cwj p w' j i := by
        intro i
        induction i with
        | zero => intro _; rfl
        | succ i ih =>
          intro hi
          rw [cwj, cwj, ih (by omega)]
          by_cases z : p i = true
          · rw [hw i (by omega) z]
          · rw [if_neg (fun y => z y.1), if_neg (fun y => z y.1)]
      rw [← e]; exact hc n (Nat.le_refl n)
    · rw [cwj, cwj_cut hp hw m q, if_neg (fun y => by rw [hp m q] at y; exact absurd y.1 (by decide)), Nat.add_zero]
/-- the greatest part, by corners -/
def mxw (p : Nat → Bool) (w : Nat → Int32) (n : Nat) : Nat → Nat
  | 0 => 0
  | j + 1 => if mxw p w n j < cwj p w (nI j) n then cwj p w (nI j) n else mxw p w n j
theorem mxw_ge {p : Nat → Bool} {w : Nat → Int32} {n : Nat} : ∀ m j, j < m → cwj p w (nI j) n ≤ mxw p w n m
  | 0, j, h => by omega
  | m + 1, j, h => by
    rw [mxw]
    rcases Nat.lt_or_ge j m with q | q
    · have := mxw_ge (p := p) (w := w) (n := n) m j q
      split <;> omega
    · have e : j = m := by omega
      rw [e]
      split <;> omega
theorem mxw_is {p : Nat → Bool} {w : Nat → Int32} {n : Nat} : ∀ m, mxw p w n m = 0 ∨ ∃ j, j < m ∧ mxw p w n m = cwj p w (nI j) n
  | 0 => Or.inl rfl
  | m + 1 => by
    rw [mxw]
    by_cases q : mxw p w n m < cwj p w (nI m) n
    · rw [if_pos q]; exact Or.inr ⟨m, by omega, rfl⟩
    · rw [if_neg q]
      rcases mxw_is m with z | ⟨j, z1, z2⟩
      · exact Or.inl z
      · exact Or.inr ⟨j, by omega, z2⟩
/-- the greatest part, by those with p -/
def gmx (p : Nat → Bool) (w : Nat → Int32) (n : Nat) : Nat → Nat
  | 0 => 0
  | d + 1 => if p d = true then (if gmx p w n d < cwj p w (w d) n then cwj p w (w d) n else gmx p w n d) else gmx p w n d
theorem gmx_ge {p : Nat → Bool} {w : Nat → Int32} {n : Nat} : ∀ m d, d < m → p d = true → cwj p w (w d) n ≤ gmx p w n m
  | 0, d, h, _ => by omega
  | m + 1, d, h, hp => by
    rw [gmx]
    rcases Nat.lt_or_ge d m with q | q
    · have := gmx_ge (p := p) (w := w) (n := n) m d q hp
      split
      · split <;> omega
      · exact this
    · have e : d = m := by omega
      rw [← e, if_pos hp]
      split <;> omega
theorem gmx_is {p : Nat → Bool} {w : Nat → Int32} {n : Nat} : ∀ m, gmx p w n m = 0 ∨ ∃ d, d < m ∧ p d = true ∧ gmx p w n m = cwj p w (w d) n
  | 0 => Or.inl rfl
  | m + 1 => by
    rw [gmx]
    by_cases hp : p m = true
    · rw [if_pos hp]
      by_cases q : gmx p w n m < cwj p w (w m) n
      · rw [if_pos q]; exact Or.inr ⟨m, by omega, hp, rfl⟩
      · rw [if_neg q]
        rcases gmx_is m with z | ⟨j, z1, z2⟩
        · exact Or.inl z
        · exact Or.inr ⟨j, by omega, z2⟩
    · rw [if_neg hp]
      rcases gmx_is m with z | ⟨j, z1, z2⟩
      · exact Or.inl z
      · exact Or.inr ⟨j, by omega, z2⟩
theorem gmx_mxw {p : Nat → Bool} {w : Nat → Int32} {n m : Nat} (hm : n ≤ m) (hp : ∀ i, n ≤ i → p i = false) (hw : ∀ d, d < n → p d = true → ∃ j, j < 9 ∧ w d = nI j) : gmx p w n m = mxw p w n 9 := by
  apply Nat.le_antisymm
  · rcases gmx_is (p := p) (w := w) (n := n) m with z | ⟨d, d1, d2, d3⟩
    · omega
    · have hd : d < n := by
        rcases Nat.lt_or_ge d n with q | q
        · exact q
        · rw [hp d q] at d2; cases d2
      obtain ⟨j, j1, j2⟩ := hw d hd d2
      rw [d3, j2]
      exact mxw_ge 9 j j1
  · rcases mxw_is (p := p) (w := w) (n := n) 9 with z | ⟨j, j1, j2⟩
    · omega
    · rcases Nat.eq_zero_or_pos (cwj p w (nI j) n) with z | z
      · omega
      · obtain ⟨d, d1, d2, d3⟩ := cwj_pos n z
        rw [j2, ← d3]
        exact gmx_ge m d (by omega) d2
theorem mxw_le {p : Nat → Bool} {w : Nat → Int32} {n : Nat} (m : Nat) : mxw p w n m ≤ n := by
  rcases mxw_is (p := p) (w := w) (n := n) m with z | ⟨j, j1, j2⟩
  · omega
  · rw [j2]; exact cwj_le _ _ _ _
/-- best and least part so far, behind the steps 1 .. i -/
def blk (n : Nat) (p : Nat → Bool) (w : Nat → Nat → Int32) : Nat → Int32 × Nat
  | 0 => (-1, cpt p n)
  | i + 1 => if mxw p (w (i + 1)) n 9 < (blk n p w i).2 then (nI (i + 1), mxw p (w (i + 1)) n 9) else blk n p w i
theorem blk_le (n : Nat) (p : Nat → Bool) (w : Nat → Nat → Int32) : ∀ i, (blk n p w i).2 ≤ n
  | 0 => cpt_le p n
  | i + 1 => by
    rw [blk]
    split
    · exact mxw_le 9
    · exact blk_le n p w i
/-- the set of those that fit, as the class holds it -/
def fin8 (p : Nat → Bool) (n : Nat) : Nat → Bool := fun i => decide (i < n) && p i
theorem sp_partAlike {Q : Int32 → Mem → Prop} {p : Nat → Bool} {w : Nat → Int32} {n d k : Nat} {M : Mem} (hn : n ≤ 8) (hd : d < 8) (hk : k < 31) (hf : M 193 2 = bs p n) (hp : ∀ i, n ≤ i → p i = false) (ht : ∀ e, e < n → p e = true → M (195 + e) k = w e) (hdp : p d = true) (hq : Q (nI (cwj p w (w d) n)) M) : wp_X3_partAlike Q (nI d) (nI k) M := by
  have hdn : d < n := by
    rcases Nat.lt_or_ge d n with q | q
    · exact q
    · rw [hp d q] at hdp; cases hdp
  intro X5 hx
  have key : X5 (nI (cwj p (fun e => M (195 + e) k) (w d) 0)) (nI 0) M := by
    refine upto (P := fun i => X5 (nI (cwj p (fun e => M (195 + e) k) (w d) i)) (nI i) M) (n := 8) ?_ ?_
    · apply hx
      unfold bd_X3_partAlike_5
      rw [cwj_cut (w' := w) hp (fun i hi hz => ht i hi hz) 8 hn]
      exact ⟨fun _ => hq, fun z => absurd (by rw [l8]; exact (leN (by omega) (by omega)).mpr (Nat.le_refl 8)) z⟩
    · intro i hi ih
      apply hx
      unfold bd_X3_partAlike_5
      have hle := cwj_le p (fun e => M (195 + e) k) (w d) i
      rw [l8, leN (by omega) (by omega), hf]
      refine ⟨fun z => absurd z (by omega), fun _ => sp_isIn (by omega) ?_⟩
      have eb : bt (bs p n) i = p i := by
        rw [bt_bs _ _ _ (by omega) (by omega)]
        rcases Nat.lt_or_ge i n with q | q
        · rw [decide_eq_true q, Bool.true_and]
        · rw [hp i q, Bool.and_false]
      rw [eb, cl (show i < 1000000 by omega), cl (show k < 1000000 by omega), cl (show d < 1000000 by omega), ra194, ra194, ht d hdn hdp, nI_1, nI_1]
      rw [cwj] at ih
      cases e : p i
      · rw [e, if_neg (fun y => absurd y.1 (by decide)), Nat.add_zero] at ih
        exact ⟨fun _ => ih, fun z => absurd rfl z⟩
      · rw [e] at ih
        refine ⟨fun z => absurd z (by decide), fun _ => ⟨inb (by omega) (by omega), inb hk (by omega), inb (by omega) (by omega), inb hk (by omega), fun z => ?_, fun z => ?_⟩⟩
        · rw [if_pos ⟨rfl, z⟩] at ih; exact ih
        · rw [if_neg (fun y => z y.2), Nat.add_zero] at ih; exact ih
  rw [nI_0] at key
  exact key
theorem sp_greatestPart {Q : Int32 → Mem → Prop} {p : Nat → Bool} {w : Nat → Int32} {n k : Nat} {M : Mem} (hn : n ≤ 8) (hk : k < 31) (hf : M 193 2 = bs p n) (hp : ∀ i, n ≤ i → p i = false) (ht : ∀ e, e < n → p e = true → M (195 + e) k = w e) (hw : ∀ d, d < n → p d = true → ∃ j, j < 9 ∧ w d = nI j) (hq : Q (nI (mxw p w n 9)) M) : wp_X3_greatestPart Q (nI k) M := by
  intro X4 hx
  have gle : ∀ i, gmx p w n i ≤ n := by
    intro i
    rcases gmx_is (p := p) (w := w) (n := n) i with z | ⟨d, d1, d2, d3⟩
    · omega
    · rw [d3]; exact cwj_le _ _ _ _
  have key : X4 (nI (gmx p w n 0)) (nI 0) M := by
    refine upto (P := fun i => X4 (nI (gmx p w n i)) (nI i) M) (n := 8) ?_ ?_
    · apply hx
      unfold bd_X3_greatestPart_4
      rw [gmx_mxw hn hp hw]
      exact ⟨fun _ => hq, fun z => absurd (by rw [l8]; exact (leN (by omega) (by omega)).mpr (Nat.le_refl 8)) z⟩
    · intro i hi ih
      apply hx
      unfold bd_X3_greatestPart_4
      rw [l8, leN (by omega) (by omega), hf, nI_1]
      refine ⟨fun z => absurd z (by omega), fun _ => sp_isIn (by omega) ?_⟩
      have eb : bt (bs p n) i = p i := by
        rw [bt_bs _ _ _ (by omega) (by omega)]
        rcases Nat.lt_or_ge i n with q | q
        · rw [decide_eq_true q, Bool.true_and]
        · rw [hp i q, Bool.and_false]
      rw [eb]
      rw [gmx] at ih
      cases e : p i
      · rw [e, if_neg (by decide)] at ih
        exact ⟨fun _ => ih, fun z => absurd rfl z⟩
      · rw [e, if_pos rfl] at ih
        refine ⟨fun z => absurd z (by decide), fun _ => sp_partAlike hn hi hk hf hp ht e ?_⟩
        have h1 := gle i
        have h2 := cwj_le p w (w i) n
        by_cases z : gmx p w n i < cwj p w (w i) n
        · rw [if_pos z] at ih
          rw [if_pos ((ltN (by omega) (by omega)).mpr z)]; exact ih
        · rw [if_neg z] at ih
          rw [if_neg (fun y => z ((ltN (by omega) (by omega)).mp y))]; exact ih
  rw [nI_0] at key
  exact key
theorem sp_bestLook {Q : Int32 → Mem → Prop} {p : Nat → Bool} {w : Nat → Nat → Int32} {n : Nat} {M : Mem} (hn : n ≤ 8) (hf : M 193 2 = bs p n) (hp : ∀ i, n ≤ i → p i = false) (ht : ∀ k e, 1 ≤ k → k ≤ 30 → e < n → p e = true → M (195 + e) k = w k e) (hw : ∀ k d, d < n → p d = true → ∃ j, j < 9 ∧ w k d = nI j) (hq : Q (blk n p w 30).1 M) : wp_X3_bestLook Q M := by
  intro X12 hx
  show wp_J6_bitCount_0f7a4 (fun (r1 : Int32) (M1 : Mem) => X12 (-1) r1 1 M1) (M 193 2) M
  rw [hf]
  refine sp_bitCount hn ?_
  have key : X12 (blk n p w 0).1 (nI (blk n p w 0).2) (nI (0 + 1)) M := by
    refine upto (P := fun i => X12 (blk n p w i).1 (nI (blk n p w i).2) (nI (i + 1)) M) (n := 30) ?_ ?_
    · apply hx
      unfold bd_X3_bestLook_12
      rw [l30, ltN (by omega) (by omega)]
      exact ⟨fun _ => hq, fun z => absurd (by omega) z⟩
    · intro i hi ih
      apply hx
      unfold bd_X3_bestLook_12
      rw [l30, ltN (by omega) (by omega)]
      refine ⟨fun z => absurd z (by omega), fun _ => sp_greatestPart (w := w (i + 1)) hn (by omega) hf hp (fun e h1 h2 => ht (i + 1) e (by omega) (by omega) h1 h2) (fun d h1 h2 => hw (i + 1) d h1 h2) ?_⟩
      have h1 := blk_le n p w i
      have h2 := mxw_le (p := p) (w := w (i + 1)) (n := n) 9
      rw [leN (by omega) (by omega), nI_1]
      rw [blk] at ih
      refine ⟨fun z => ?_, fun z => ?_⟩
      · rw [if_neg (by omega)] at ih; exact ih
      · rw [if_pos (by omega)] at ih; exact ih
  exact key
