/-- those that fit, nobody beyond n -/
def fp (n : Nat) (R L f s1 s2 s3 : Nat → Int32) (sn c : Nat) : Nat → Bool := fin8 (fitp n R L f s1 s2 s3 sn c) n
theorem fp_bs {n : Nat} {R L f s1 s2 s3 : Nat → Int32} {sn c : Nat} : bs (fp n R L f s1 s2 s3 sn c) n = bs (fitp n R L f s1 s2 s3 sn c) n := by
  refine bs_cong n (fun i hi => ?_)
  unfold fp fin8
  rw [decide_eq_true hi, Bool.true_and]
theorem fp_far {n : Nat} {R L f s1 s2 s3 : Nat → Int32} {sn c i : Nat} (h : n ≤ i) : fp n R L f s1 s2 s3 sn c i = false := by
  unfold fp fin8
  rw [decide_eq_false (by omega), Bool.false_and]
theorem fp_in {n : Nat} {R L f s1 s2 s3 : Nat → Int32} {sn c i : Nat} (h : i < n) : fp n R L f s1 s2 s3 sn c i = fitp n R L f s1 s2 s3 sn c i := by
  unfold fp fin8
  rw [decide_eq_true h, Bool.true_and]
theorem fp_ne {n : Nat} {R L f s1 s2 s3 : Nat → Int32} {sn c i : Nat} (h : fp n R L f s1 s2 s3 sn c i = true) : i ≠ c := by
  intro e
  unfold fp fin8 fitp at h
  rw [decide_eq_false (show ¬ ¬ i = c from fun z => z e), Bool.false_and, Bool.and_false] at h
  cases h
theorem way_ok {n c d k : Nat} {R L f : Nat → Int32} (hw : WF n R L f) (hc : c < n) (hd : d < n) (hdc : d ≠ c) : ∃ j, j < 9 ∧ way n R L f c d k = nI j :=
  (WF_stpN (WF_lead hw hc (Or.inr ⟨d, hd, hdc, rfl⟩)) k).2.1 c hc
def lkr (n : Nat) (R L f s1 s2 s3 : Nat → Int32) (sn c : Nat) : Int32 := (blk n (fp n R L f s1 s2 s3 sn c) (fun k d => way n R L f c d k) 30).1
theorem sp_look {Q : Int32 → Mem → Prop} {a1 : Int32} {n sn : Nat} {R L f s1 s2 s3 : Nat → Int32} {M : Mem} (hw : WF n R L f) (hr : SR n R L f M 11) (hs : Sn n sn s1 s2) (he : CE sn s1 s2 s3 M) (hu : (∀ j, j < n → a1 ≠ nI j) → Q (-1000000001) M) (hq : ∀ c, c < n → a1 = nI c → ∀ M', (∀ a, (a < 193 ∨ 209 < a) → M' a = M a) → Q (lkr n R L f s1 s2 s3 sn c) M') : wp_X9_look Q a1 M := by
  have h8 := hw.1
  unfold wp_X9_look bd_X9_look
  refine sp_isCar (n := n) (by omega) hr.1 (fun c hc ec => ⟨fun q => absurd q (by decide), fun _ => ?_⟩) (fun q => ⟨fun _ => hu q, fun q => absurd rfl q⟩)
  have hq := hq c hc ec
  rw [ec]
  refine sp_weigh hw hc hr hs he (fun M' h1 h2 h3 => ?_)
  rw [← fp_bs] at h1
  exact sp_bestLook (w := fun k d => way n R L f c d k) h8 h1 (fun i hi => fp_far hi) (fun k e k1 k2 e1 e2 => h2 e k e1 (fp_ne e2) k1 k2) (fun k d d1 d2 => way_ok hw hc d1 (fp_ne d2)) (hq M' h3)
theorem m9 (k : Nat) : (9 : Int32) * nI k = nI (9 * k) := by rw [show (9 : Int32) = nI 9 from rfl, pk_mul]
theorem cwj_succ (p : Nat → Bool) (w : Nat → Int32) (j : Int32) (i : Nat) : cwj p w j (i + 1) = cwj p w j i + (if p i = true ∧ w i = j then 1 else 0) := rfl
theorem sp_lookR {Q : Int32 → Mem → Prop} {a1 : Int32} {n sn : Nat} {R L f s1 s2 s3 : Nat → Int32} {M : Mem} (hw : WF n R L f) (hcr : M 211 2 = nI n) (hR : M 212 = R) (hL : M 213 = L) (hf : M 214 = f) (hs : Sn n sn s1 s2) (he : RE sn s1 s2 s3 M) (hu : (∀ j, j < n → a1 ≠ nI j) → Q (-1000000001) M) (hq : ∀ c, c < n → a1 = nI c → ∀ M', (∀ a, a ≠ 221 → a ≠ 223 → a ≠ 227 → a ≠ 228 → M' a = M a) → Q (lkr n R L f s1 s2 s3 sn c) M') : wp_X10_look Q a1 M := by
  have h8 := hw.1
  intro X13 X37 X65 X114 X127 h13 h37 h65 h114 h127
  refine sp_isCarR (n := n) (by omega) hcr (fun c hc ec => ⟨fun q => absurd q (by decide), fun _ => ?_⟩) (fun q => ⟨fun _ => hu q, fun q => absurd rfl q⟩)
  have hq := hq c hc ec
  unfold lkr at hq
  generalize hp : fp n R L f s1 s2 s3 sn c = p at hq
  have hpn : ∀ i, i < n → p i = fitp n R L f s1 s2 s3 sn c i := fun i hi => by rw [← hp]; exact fp_in hi
  have hpc : ∀ i, p i = true → i ≠ c := fun i hi => by rw [← hp] at hi; exact fp_ne hi
  -- what the counts are
  have wl9 : ∀ d, d < n → d ≠ c → ∀ k, ∃ j, j < 9 ∧ way n R L f c d k = nI j := fun d h1 h2 k => way_ok hw hc h1 h2
  -- third stage
  have third : ∀ M', (∀ k j, k < 31 → j < 9 → M' 228 (9 * k + j) = nI (cwj p (fun d => way n R L f c d k) (nI j) n)) → (∀ a, a ≠ 221 → a ≠ 223 → a ≠ 227 → a ≠ 228 → M' a = M a) → X114 (-1) (nI (cpt p n)) 1 M' := by
    intro M' hb hfr
    have key : X114 (blk n p (fun k d => way n R L f c d k) 0).1 (nI (blk n p (fun k d => way n R L f c d k) 0).2) (nI (0 + 1)) M' := by
      refine upto (P := fun i => X114 (blk n p (fun k d => way n R L f c d k) i).1 (nI (blk n p (fun k d => way n R L f c d k) i).2) (nI (i + 1)) M') (n := 30) ?_ ?_
      · apply h114
        unfold bd_X10_look_114
        rw [l31]
        exact ⟨fun _ => hq M' hfr, fun z => absurd ((leN (by omega) (by omega)).mpr (Nat.le_refl 31)) z⟩
      · intro i hi ih
        apply h114
        unfold bd_X10_look_114
        rw [l31, leN (by omega) (by omega)]
        refine ⟨fun z => absurd z (by omega), fun _ => ?_⟩
        generalize hB : blk n p (fun k d => way n R L f c d k) i = B at ih ⊢
        have hB2 : B.2 ≤ n := by rw [← hB]; exact blk_le _ _ _ _
        have k2 : X127 B.1 (nI B.2) (nI (i + 1)) (nI (mxw p (fun d => way n R L f c d (i + 1)) n 0)) (nI 0) M' := by
          refine upto (P := fun j => X127 B.1 (nI B.2) (nI (i + 1)) (nI (mxw p (fun d => way n R L f c d (i + 1)) n j)) (nI j) M') (n := 9) ?_ ?_
          · apply h127
            unfold bd_X10_look_127
            refine ⟨fun _ => ?_, fun z => absurd (by decide) z⟩
            have h2 := mxw_le (p := p) (w := fun d => way n R L f c d (i + 1)) (n := n) 9
            rw [nI_1]
            have ib : blk n p (fun k d => way n R L f c d k) (i + 1) = if mxw p (fun d => way n R L f c d (i + 1)) n 9 < B.2 then (nI (i + 1), mxw p (fun d => way n R L f c d (i + 1)) n 9) else B := by rw [blk, hB]
            rw [ib] at ih
            by_cases z : mxw p (fun d => way n R L f c d (i + 1)) n 9 < B.2
            · rw [if_pos z] at ih
              rw [if_neg (by rw [leN (by omega) (by omega)]; omega), if_neg (by rw [leN (by omega) (by omega)]; omega)]
              exact ih
            · rw [if_neg z] at ih
              rw [if_pos ((leN (by omega) (by omega)).mpr (by omega)), if_pos ((leN (by omega) (by omega)).mpr (by omega))]
              exact ih
          · intro j hj ih2
            apply h127
            unfold bd_X10_look_127
            have b1 : vp_in (nI (9 * (i + 1) + j)) 279 := inb (by omega) (by omega)
            have h2 := mxw_le (p := p) (w := fun d => way n R L f c d (i + 1)) (n := n) j
            have h3 := cwj_le p (fun d => way n R L f c d (i + 1)) (nI j) n
            rw [show (9 : Int32) ≤ nI j ↔ 9 ≤ j by rw [show (9 : Int32) = nI 9 from rfl]; exact leN (by omega) (by omega), m9, nI_add, cl (by omega), hb (i + 1) j (by omega) hj, nI_1 j]
            refine ⟨fun z => absurd z (by omega), fun _ => ⟨b1, fun _ => trivial, fun _ => ⟨b1, trivial⟩, ?_⟩⟩
            rw [mxw] at ih2
            by_cases z : mxw p (fun d => way n R L f c d (i + 1)) n j < cwj p (fun d => way n R L f c d (i + 1)) (nI j) n
            · rw [if_pos z] at ih2
              rw [if_neg (by rw [leN (by omega) (by omega)]; omega)]; exact ih2
            · rw [if_neg z] at ih2
              rw [if_pos ((leN (by omega) (by omega)).mpr (by omega))]; exact ih2
        exact k2
    exact key
  -- second stage
  have second : ∀ M', (∀ k j, k < 31 → j < 9 → M' 228 (9 * k + j) = nI (cwj p (fun d => way n R L f c d k) (nI j) 0)) → (∀ a, a ≠ 221 → a ≠ 223 → a ≠ 227 → a ≠ 228 → M' a = M a) → X37 (nI (cpt p 0)) (nI 0) M' := by
    refine upto (P := fun i => ∀ M', (∀ k j, k < 31 → j < 9 → M' 228 (9 * k + j) = nI (cwj p (fun d => way n R L f c d k) (nI j) i)) → (∀ a, a ≠ 221 → a ≠ 223 → a ≠ 227 → a ≠ 228 → M' a = M a) → X37 (nI (cpt p i)) (nI i) M') (n := n) ?_ ?_
    · intro M' hb hfr
      apply h37
      unfold bd_X10_look_37
      rw [hfr 211 (by decide) (by decide) (by decide) (by decide), hcr]
      exact ⟨fun _ => third M' hb hfr, fun z => absurd ((leN (by omega) (by omega)).mpr (Nat.le_refl n)) z⟩
    · intro i hi ih M' hb hfr
      apply h37
      unfold bd_X10_look_37
      have f11 := hfr 211 (by decide) (by decide) (by decide) (by decide)
      have hle := cpt_le p i
      rw [f11, hcr, leN (by omega) (by omega), ec, eqN (by omega) (by omega), nI_1 i, nI_1 (cpt p i)]
      have skip : p i = false → ∀ M2, (∀ k j, k < 31 → j < 9 → M2 228 (9 * k + j) = nI (cwj p (fun d => way n R L f c d k) (nI j) i)) → (∀ a, a ≠ 221 → a ≠ 223 → a ≠ 227 → a ≠ 228 → M2 a = M a) → X37 (nI (cpt p i)) (nI (i + 1)) M2 := by
        intro hpi M2 hb2 hfr2
        have h4 := ih M2 (fun k j k1 j1 => by rw [hb2 k j k1 j1, cwj_succ, if_neg (fun y => by rw [hpi] at y; exact absurd y.1 (by decide)), Nat.add_zero]) hfr2
        rw [cpt, if_neg (by rw [hpi]; decide), Nat.add_zero] at h4
        exact h4
      refine ⟨fun z => absurd z (by omega), fun _ => ⟨fun q => skip ?_ M' hb hfr, fun q => ?_⟩⟩
      · cases e : p i
        · rfl
        · exact absurd q (hpc i e)
      · have he' : RE sn s1 s2 s3 M' := by
          refine ⟨by rw [f11]; exact he.1, fun j hj => ?_⟩
          rw [hfr 224 (by decide) (by decide) (by decide) (by decide), hfr 225 (by decide) (by decide) (by decide) (by decide), hfr 226 (by decide) (by decide) (by decide) (by decide)]
          exact he.2 j hj
        refine sp_couldFollow hw hc hi q (by rw [f11, hcr]) (by rw [hfr 212 (by decide) (by decide) (by decide) (by decide), hR]) (by rw [hfr 213 (by decide) (by decide) (by decide) (by decide), hL]) (by rw [hfr 214 (by decide) (by decide) (by decide) (by decide), hf]) hs he' (fun M2 g1 g2 => ?_)
        have hb2 : ∀ k j, k < 31 → j < 9 → M2 228 (9 * k + j) = nI (cwj p (fun d => way n R L f c d k) (nI j) i) := fun k j k1 j1 => by rw [g2 228 (by decide) (by decide) (by decide)]; exact hb k j k1 j1
        have hfr2 : ∀ a, a ≠ 221 → a ≠ 223 → a ≠ 227 → a ≠ 228 → M2 a = M a := fun a b1 b2 b3 b4 => by rw [g2 a b1 b2 b3, hfr a b1 b2 b3 b4]
        rw [← hpn i hi]
        cases e : p i
        · exact ⟨fun _ => skip e M2 hb2 hfr2, fun z => absurd rfl z⟩
        · refine ⟨fun z => absurd z (by decide), fun _ => ?_⟩
          have k3 : ∀ M3, (∀ k j, k < 31 → j < 9 → M3 228 (9 * k + j) = nI (cwj p (fun d => way n R L f c d k) (nI j) (if k < 0 then i + 1 else i))) → (∀ k, k < 31 → M3 227 k = way n R L f c i k) → (∀ a, a ≠ 221 → a ≠ 223 → a ≠ 227 → a ≠ 228 → M3 a = M a) → X65 (nI (cpt p i + 1)) (nI i) (nI 0) M3 := by
            refine upto (P := fun t => ∀ M3, (∀ k j, k < 31 → j < 9 → M3 228 (9 * k + j) = nI (cwj p (fun d => way n R L f c d k) (nI j) (if k < t then i + 1 else i))) → (∀ k, k < 31 → M3 227 k = way n R L f c i k) → (∀ a, a ≠ 221 → a ≠ 223 → a ≠ 227 → a ≠ 228 → M3 a = M a) → X65 (nI (cpt p i + 1)) (nI i) (nI t) M3) (n := 31) ?_ ?_
            · intro M3 q1 q2 q3
              apply h65
              unfold bd_X10_look_65
              rw [l31, nI_1]
              refine ⟨fun _ => ?_, fun z => absurd ((leN (by omega) (by omega)).mpr (Nat.le_refl 31)) z⟩
              have h4 := ih M3 (fun k j k1 j1 => by rw [q1 k j k1 j1, if_pos k1]) q3
              rw [cpt, if_pos e] at h4
              exact h4
            · intro t ht ih3 M3 q1 q2 q3
              apply h65
              unfold bd_X10_look_65
              obtain ⟨j0, j1, j2⟩ := wl9 i hi q t
              have hcw := cwj_le p (fun d => way n R L f c d t) (nI j0) i
              rw [l31, leN (by omega) (by omega), cl (show t < 1000000 by omega), q2 t ht, j2, m9, nI_add, cl (show 9 * t + j0 < 1000000 by omega), q1 t j0 ht j1, if_neg (by omega), nI_1 t, nI_1]
              refine ⟨fun z => absurd z (by omega), fun _ => ⟨inb ht (by omega), inb (by omega) (by omega), inb (by omega) (by omega), fun M4 e4 => ih3 M4 (fun k j k1 j3 => ?_) (fun k hk => by rw [e4, up_o (by decide)]; exact q2 k hk) (fun a b1 b2 b3 b4 => by rw [e4, up_o b4, q3 a b1 b2 b3 b4])⟩⟩
              rw [e4]
              by_cases y : 9 * k + j = 9 * t + j0
              · have ek : k = t := by omega
                have ej : j = j0 := by omega
                rw [y, up_ss, ek, ej, if_pos (by omega), cwj_succ, if_pos ⟨e, j2⟩, nI_1]
              · rw [up_sn y, q1 k j k1 j3]
                by_cases z : k = t
                · rw [z, if_neg (by omega), if_pos (by omega), cwj_succ, if_neg]
                  · rfl
                  · intro x
                    rw [j2, eqN (by omega) (by omega)] at x
                    omega
                · have ez : (k < t + 1) = (k < t) := by apply propext; omega
                  simp only [ez]
          have h5 := k3 M2 (fun k j k1 j1 => by rw [if_neg (by omega)]; exact hb2 k j k1 j1) g1 hfr2
          exact h5
  have first : ∀ M', (∀ x, x < 0 → M' 228 x = 0) → (∀ a, a ≠ 228 → M' a = M a) → X13 (nI 0) M' := by
    refine upto (P := fun i => ∀ M', (∀ x, x < i → M' 228 x = 0) → (∀ a, a ≠ 228 → M' a = M a) → X13 (nI i) M') (n := 279) ?_ ?_
    · intro M' q1 q2
      apply h13
      unfold bd_X10_look_13
      rw [show (279 : Int32) = nI 279 from rfl]
      refine ⟨fun _ => ?_, fun z => absurd ((leN (by omega) (by omega)).mpr (Nat.le_refl 279)) z⟩
      have h4 := second M' (fun k j k1 j1 => by rw [q1 _ (by omega)]; rfl) (fun a _ _ _ b4 => q2 a b4)
      exact h4
    · intro i hi ih M' q1 q2
      apply h13
      unfold bd_X10_look_13
      rw [show (279 : Int32) = nI 279 from rfl, leN (by omega) (by omega), cl (by omega), nI_1]
      refine ⟨fun z => absurd z (by omega), fun _ => ⟨inb hi (by omega), fun M2 e2 => ih M2 (fun x hx => ?_) (fun a ha => by rw [e2, up_o ha, q2 a ha])⟩⟩
      by_cases e : x = i
      · rw [e2, e, up_ss]
      · rw [e2, up_sn e]; exact q1 x (by omega)
  have h5 := first M (fun x hx => by omega) (fun _ _ => rfl)
  rw [nI_0] at h5
  exact h5
