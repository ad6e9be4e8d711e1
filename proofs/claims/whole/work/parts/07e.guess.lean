/-! WHOM, LOOK -/
def way (n : Nat) (R L f : Nat → Int32) (c d k : Nat) : Int32 := stpN n R L (upd f (8 + c) (nI d)) k c
def fitb (s1 s2 s3 : Nat → Int32) (c : Nat) (wy : Nat → Int32) : Nat → Bool
  | 0 => true
  | i + 1 => fitb s1 s2 s3 c wy i && (decide (¬ s1 i = nI c) || decide (wy (s2 i).toNatClampNeg = s3 i))
theorem fitb_mono {s1 s2 s3 : Nat → Int32} {c : Nat} {wy : Nat → Int32} {i : Nat} (h : fitb s1 s2 s3 c wy i = false) : ∀ m, i ≤ m → fitb s1 s2 s3 c wy m = false
  | 0, hm => by have e : i = 0 := by omega
                rw [e] at h; exact h
  | m + 1, hm => by
    rcases Nat.lt_or_ge i (m + 1) with q | q
    · rw [fitb, fitb_mono h m (by omega), Bool.false_and]
    · have e : i = m + 1 := by omega
      rw [e] at h; exact h
def fitp (n : Nat) (R L f : Nat → Int32) (s1 s2 s3 : Nat → Int32) (sn c d : Nat) : Bool := decide (¬ d = c) && fitb s1 s2 s3 c (way n R L f c d) sn
def Sn (n sn : Nat) (s1 s2 : Nat → Int32) : Prop := sn ≤ 6 ∧ ∀ i, i < sn → (∃ c, c < n ∧ s1 i = nI c) ∧ ∃ k, 1 ≤ k ∧ k ≤ 30 ∧ s2 i = nI k
def CE (sn : Nat) (s1 s2 s3 : Nat → Int32) (M : Mem) : Prop := M 185 0 = 6 ∧ M 185 4 = nI sn ∧ ∀ i, i < sn → M 186 i = s1 i ∧ M 187 i = s2 i ∧ M 188 i = s3 i
def RE (sn : Nat) (s1 s2 s3 : Nat → Int32) (M : Mem) : Prop := M 211 23 = nI sn ∧ ∀ i, i < sn → M 224 i = s1 i ∧ M 225 i = s2 i ∧ M 226 i = s3 i
theorem ra194 (t : Nat) : ra 194 t = 195 + t := rfl
theorem l30 : (30 : Int32) = nI 30 := rfl
theorem l31 : (31 : Int32) = nI 31 := rfl
theorem sp_recordTrack {Q : Mem → Prop} {n c d : Nat} {R L g : Nat → Int32} {M : Mem} (hw : WF n R L g) (hc : c < n) (hd : d < n) (hr : SR n R L g M 203) (hq : ∀ M', (∀ k, 1 ≤ k → k ≤ 30 → M' (195 + d) k = stpN n R L g k c) → (∀ a, (a < 203 ∨ 209 < a) → a ≠ 195 + d → M' a = M a) → Q M') : wp_X3_recordTrack Q (nI c) (nI d) M := by
  have h8 := hw.1
  intro X2 hx
  have key : ∀ M', SR n R L (stpN n R L g (1 - 1)) M' 203 → (∀ k, 1 ≤ k → k < 1 → M' (195 + d) k = stpN n R L g k c) → (∀ a, (a < 203 ∨ 209 < a) → a ≠ 195 + d → M' a = M a) → X2 (nI 1) M' := by
    refine upto_from (P := fun i => ∀ M', SR n R L (stpN n R L g (i - 1)) M' 203 → (∀ k, 1 ≤ k → k < i → M' (195 + d) k = stpN n R L g k c) → (∀ a, (a < 203 ∨ 209 < a) → a ≠ 195 + d → M' a = M a) → X2 (nI i) M') (n := 31) (m := 1) (by omega) ?_ ?_
    · intro M' h1 h2 h3
      apply hx
      unfold bd_X3_recordTrack_2
      rw [l30, ltN (by omega) (by omega)]
      exact ⟨fun _ => hq M' (fun k k1 k2 => h2 k k1 (by omega)) h3, fun z => absurd (by omega) z⟩
    · intro i i1 hi ih M' h1 h2 h3
      apply hx
      unfold bd_X3_recordTrack_2
      rw [l30, ltN (by omega) (by omega)]
      refine ⟨fun z => absurd z (by omega), fun _ => sp_move (WF_stpN hw (i - 1)) h1 (fun M1 g1 g2 => ?_)⟩
      have e : i - 1 + 1 = i := by omega
      have g1 : SR n R L (stpN n R L g i) M1 203 := by rw [← e]; exact g1
      rw [cl (show d < 1000000 by omega), cl (show c < 1000000 by omega), cl (show i < 1000000 by omega), ra194, (g1.2.2 c hc).1, nI_1]
      refine ⟨inb (by omega) (by omega), inb (by omega) (by omega), inb (by omega) (by omega), fun M5 e5 => ih M5 ?_ (fun k k1 k2 => ?_) (fun a b1 b2 => ?_)⟩
      · exact SR_c (fun a b1 b2 => by rw [e5, up_o (by omega)]) g1
      · by_cases z : k = i
        · rw [e5, z, up_ss]
        · rw [e5, up_sn z, g2 (195 + d) (by omega)]; exact h2 k k1 (by omega)
      · rw [e5, up_o b2, g2 a (by omega), h3 a b1 b2]
  have h3 := key M hr (fun k k1 k2 => by omega) (fun _ _ _ => rfl)
  rw [show nI 1 = 1 from rfl] at h3
  exact h3
theorem sp_fits {Q : Int32 → Mem → Prop} {n c d sn : Nat} {s1 s2 s3 wy : Nat → Int32} {M : Mem} (h8 : n ≤ 8) (hc : c < n) (hd : d < n) (hs : Sn n sn s1 s2) (he : CE sn s1 s2 s3 M) (ht : ∀ k, 1 ≤ k → k ≤ 30 → M (195 + d) k = wy k) (hq : Q (if fitb s1 s2 s3 c wy sn = true then 1 else 0) M) : wp_X3_fits Q (nI c) (nI d) M := by
  obtain ⟨hs1, hs2⟩ := hs
  obtain ⟨_, e2, e3⟩ := he
  intro X3 hx
  have key : fitb s1 s2 s3 c wy 0 = true → X3 (nI 0) M := by
    refine upto (P := fun i => fitb s1 s2 s3 c wy i = true → X3 (nI i) M) (n := sn) ?_ ?_
    · intro hf
      apply hx
      unfold bd_X3_fits_3
      rw [e2]
      rw [if_pos hf] at hq
      exact ⟨fun _ => hq, fun z => absurd ((leN (by omega) (by omega)).mpr (Nat.le_refl sn)) z⟩
    · intro i hi ih hf
      apply hx
      unfold bd_X3_fits_3
      obtain ⟨⟨c', c1, c2⟩, k, k1, k2, k3⟩ := hs2 i hi
      obtain ⟨g1, g2, g3⟩ := e3 i hi
      rw [e2, leN (by omega) (by omega), cl (show i < 1000000 by omega), cl (show d < 1000000 by omega), ra194, nI_1, show (185 + 1 : Nat) = 186 from rfl, show (185 + 2 : Nat) = 187 from rfl, show (185 + 3 : Nat) = 188 from rfl, g1, g2, g3, k3, cl (show k < 1000000 by omega), ht k k1 k2]
      rw [fitb, hf, Bool.true_and, k3, cl (show k < 1000000 by omega)] at ih
      have b6 : vp_in (nI i) 6 := inb (by omega) (by omega)
      refine ⟨fun z => absurd z (by omega), fun _ => ⟨b6, fun q => ⟨inb (by omega) (by omega), b6, inb (by omega) (by omega), b6, fun q2 => ?_, fun q2 => ?_⟩, fun q => ?_⟩⟩
      · exact ih (by rw [decide_eq_true q2, Bool.or_true])
      · have hz : fitb s1 s2 s3 c wy (i + 1) = false := by
          rw [fitb, hf, Bool.true_and, decide_eq_false (fun z => z q), k3, cl (show k < 1000000 by omega), decide_eq_false q2]; rfl
        rw [fitb_mono hz sn (by omega), if_neg (by decide)] at hq
        exact hq
      · exact ih (by rw [decide_eq_true q, Bool.true_or])
  have h3 := key rfl
  rw [nI_0] at h3
  exact h3
theorem sp_weigh {Q : Mem → Prop} {n c sn : Nat} {R L f s1 s2 s3 : Nat → Int32} {M : Mem} (hw : WF n R L f) (hc : c < n) (hr : SR n R L f M 11) (hs : Sn n sn s1 s2) (he : CE sn s1 s2 s3 M) (hq : ∀ M', M' 193 2 = bs (fitp n R L f s1 s2 s3 sn c) n → (∀ d k, d < n → d ≠ c → 1 ≤ k → k ≤ 30 → M' (195 + d) k = way n R L f c d k) → (∀ a, (a < 193 ∨ 209 < a) → M' a = M a) → Q M') : wp_X3_weigh Q (nI c) M := by
  have h8 := hw.1
  intro X8 hx M1 e1
  have key : ∀ M', M' 193 2 = bs (fitp n R L f s1 s2 s3 sn c) 0 → (∀ d k, d < 0 → d ≠ c → 1 ≤ k → k ≤ 30 → M' (195 + d) k = way n R L f c d k) → (∀ a, (a < 193 ∨ 209 < a) → M' a = M a) → X8 (nI 0) M' := by
    refine upto (P := fun i => ∀ M', M' 193 2 = bs (fitp n R L f s1 s2 s3 sn c) i → (∀ d k, d < i → d ≠ c → 1 ≤ k → k ≤ 30 → M' (195 + d) k = way n R L f c d k) → (∀ a, (a < 193 ∨ 209 < a) → M' a = M a) → X8 (nI i) M') (n := n) ?_ ?_
    · intro M' h1 h2 h3
      apply hx
      unfold bd_X3_weigh_8
      rw [h3 11 (by omega), hr.1]
      exact ⟨fun _ => hq M' h1 h2 h3, fun z => absurd ((leN (by omega) (by omega)).mpr (Nat.le_refl n)) z⟩
    · intro i hi ih M' h1 h2 h3
      apply hx
      unfold bd_X3_weigh_8
      rw [h3 11 (by omega), hr.1, leN (by omega) (by omega), eqN (by omega) (by omega), nI_1]
      refine ⟨fun z => absurd z (by omega), fun _ => ⟨fun q => ih M' ?_ (fun d k q1 q2 q3 q4 => h2 d k (by omega) q2 q3 q4) h3, fun q => ?_⟩⟩
      · rw [bs_succ, if_neg (by unfold fitp; rw [decide_eq_false (fun z => z q), Bool.false_and]; decide)]; exact h1
      · have hr' : SR n R L f M' 11 := SR_c (fun a b1 b2 => h3 a (by omega)) hr
        refine sp_copyFrom h8 (by omega) hr' (fun M2 g1 g2 => ?_)
        rw [cl (show c < 1000000 by omega)]
        refine ⟨inb (by omega) (by omega), fun M3 e3 => ?_⟩
        have hr3 : SR n R L (upd f (8 + c) (nI i)) M3 203 := SR_lead h8 hc g1 (by rw [e3, up_s]) (fun a _ _ b3 => by rw [e3, up_o b3])
        have hw3 : WF n R L (upd f (8 + c) (nI i)) := WF_lead hw hc (Or.inr ⟨i, hi, q, rfl⟩)
        have f3 : ∀ a, (a < 203 ∨ 209 < a) → M3 a = M' a := fun a ha => by rw [e3, up_o (by omega), g2 a (by omega)]
        refine sp_recordTrack hw3 hc hi hr3 (fun M4 t1 t2 => ?_)
        have f4 : ∀ a, (a < 203 ∨ 209 < a) → a ≠ 195 + i → M4 a = M' a := fun a b1 b2 => by rw [t2 a b1 b2, f3 a b1]
        have he4 : CE sn s1 s2 s3 M4 := by
          obtain ⟨z1, z2, z3⟩ := he
          have e185 : M4 185 = M 185 := by rw [f4 185 (by omega) (by omega), h3 185 (by omega)]
          have e186 : M4 186 = M 186 := by rw [f4 186 (by omega) (by omega), h3 186 (by omega)]
          have e187 : M4 187 = M 187 := by rw [f4 187 (by omega) (by omega), h3 187 (by omega)]
          have e188 : M4 188 = M 188 := by rw [f4 188 (by omega) (by omega), h3 188 (by omega)]
          exact ⟨by rw [e185]; exact z1, by rw [e185]; exact z2, fun j hj => by rw [e186, e187, e188]; exact z3 j hj⟩
        refine sp_fits (wy := way n R L f c i) h8 hc hi hs he4 (fun k k1 k2 => t1 k k1 k2) ?_
        have ep : fitp n R L f s1 s2 s3 sn c i = fitb s1 s2 s3 c (way n R L f c i) sn := by unfold fitp; rw [decide_eq_true q, Bool.true_and]
        have tr : ∀ M5 : Mem, (∀ a, a ≠ 193 → M5 a = M4 a) → ∀ d k, d < i + 1 → d ≠ c → 1 ≤ k → k ≤ 30 → M5 (195 + d) k = way n R L f c d k := by
          intro M5 hm d k q1 q2 q3 q4
          rw [hm _ (by omega)]
          by_cases z : d = i
          · rw [z]; exact t1 k q3 q4
          · rw [f4 _ (by omega) (by omega)]; exact h2 d k (by omega) q2 q3 q4
        have e193 : M4 193 = M' 193 := f4 193 (by omega) (by omega)
        have ba : ∀ a, (a < 193 ∨ 209 < a) → M4 a = M a := fun a ha => by rw [f4 a (by omega) (by omega), h3 a ha]
        by_cases z : fitb s1 s2 s3 c (way n R L f c i) sn = true
        · rw [if_pos z]
          refine ⟨fun w => absurd w (by decide), fun _ M6 e6 => ih M6 ?_ (tr M6 (fun a ha => by rw [e6, up_o ha])) (fun a ha => by rw [e6, up_o (by omega), ba a ha])⟩
          rw [e6, up_ss, e193, h1, bs_succ, if_pos (by rw [ep]; exact z)]
        · rw [if_neg z]
          refine ⟨fun _ => ih M4 ?_ (tr M4 (fun _ _ => rfl)) ba, fun w => absurd rfl w⟩
          rw [e193, h1, bs_succ, if_neg (by rw [ep]; exact z)]
  have h3 := key M1 (by rw [e1, up_ss]; rfl) (fun d k q1 => by omega) (fun a ha => by rw [e1, up_o (by omega)])
  rw [nI_0] at h3
  exact h3
theorem sp_findWay {Q : Mem → Prop} {n c d : Nat} {R L f : Nat → Int32} {M : Mem} (hw : WF n R L f) (hc : c < n) (hd : d < n) (hdc : d ≠ c) (hcr : M 211 2 = nI n) (hR : M 212 = R) (hL : M 213 = L) (hf : M 214 = f) (hq : ∀ M', (∀ k, k < 31 → M' 227 k = way n R L f c d k) → (∀ a, a ≠ 221 → a ≠ 223 → a ≠ 227 → M' a = M a) → Q M') : wp_X10_findWay Q (nI c) (nI d) M := by
  have h8 := hw.1
  intro X16 hx
  refine sp_save (fun M1 g1 g2 => ?_)
  rw [a8, cl (by omega)]
  refine ⟨inb (by omega) (by omega), fun M3 e3 => ?_⟩
  have hw3 : WF n R L (upd f (8 + c) (nI d)) := WF_lead hw hc (Or.inr ⟨d, hd, hdc, rfl⟩)
  have f214 : M3 214 = upd f (8 + c) (nI d) := by rw [e3, up_s, g2 214 (by decide), hf]
  have f223 : M3 223 = cp41 f (M 223) := by rw [e3, up_o (by decide), g1, hf]
  have fo3 : ∀ a, a ≠ 214 → a ≠ 223 → M3 a = M a := fun a b1 b2 => by rw [e3, up_o b1, g2 a b2]
  have key : ∀ M', M' 214 = stpN n R L (upd f (8 + c) (nI d)) 0 → (∀ k, k < 0 → M' 227 k = way n R L f c d k) → M' 223 = cp41 f (M 223) → (∀ a, a ≠ 214 → a ≠ 221 → a ≠ 223 → a ≠ 227 → M' a = M a) → X16 (nI 0) M' := by
    refine upto (P := fun i => ∀ M', M' 214 = stpN n R L (upd f (8 + c) (nI d)) i → (∀ k, k < i → M' 227 k = way n R L f c d k) → M' 223 = cp41 f (M 223) → (∀ a, a ≠ 214 → a ≠ 221 → a ≠ 223 → a ≠ 227 → M' a = M a) → X16 (nI i) M') (n := 31) ?_ ?_
    · intro M' h1 h2 h3 h4
      apply hx
      unfold bd_X10_findWay_16
      rw [l31]
      refine ⟨fun _ => sp_putBack (fun M6 k1 k2 => hq M6 (fun k hk => by rw [k2 227 (by decide)]; exact h2 k hk) (fun a b1 b2 b3 => ?_)), fun z => absurd ((leN (by omega) (by omega)).mpr (Nat.le_refl 31)) z⟩
      by_cases e : a = 214
      · rw [e, k1, h1, h3, hf]
        funext j
        unfold cp41
        by_cases h : j < 41
        · rw [if_pos h, if_pos h]
        · rw [if_neg h, stpN_far (by omega)]; unfold upd; rw [if_neg (by omega)]
      · rw [k2 a e, h4 a e b1 b2 b3]
    · intro i hi ih M' h1 h2 h3 h4
      apply hx
      unfold bd_X10_findWay_16
      rw [l31, leN (by omega) (by omega), cl (show c < 1000000 by omega), cl (show i < 1000000 by omega), h1, nI_1]
      refine ⟨fun z => absurd z (by omega), fun _ => ⟨inb (by omega) (by omega), inb (by omega) (by omega), fun M4 e4 => ?_⟩⟩
      have fo4 : ∀ a, a ≠ 227 → M4 a = M' a := fun a ha => by rw [e4, up_o ha]
      refine sp_stepAll (WF_stpN hw3 i) (by rw [fo4 211 (by decide), h4 211 (by decide) (by decide) (by decide) (by decide), hcr]) (by rw [fo4 212 (by decide), h4 212 (by decide) (by decide) (by decide) (by decide), hR]) (by rw [fo4 213 (by decide), h4 213 (by decide) (by decide) (by decide) (by decide), hL]) (by rw [fo4 214 (by decide), h1]) (fun M5 k1 k2 => ih M5 k1 (fun k hk => ?_) (by rw [k2 223 (by decide) (by decide), fo4 223 (by decide), h3]) (fun a b1 b2 b3 b4 => by rw [k2 a b1 b2, fo4 a b4, h4 a b1 b2 b3 b4]))
      rw [k2 227 (by decide) (by decide), e4]
      by_cases e : k = i
      · rw [e, up_ss]; rfl
      · rw [up_sn e]; exact h2 k (by omega)
  have h3 := key M3 f214 (fun k hk => by omega) f223 (fun a b1 b2 b3 b4 => fo3 a b1 b3)
  rw [nI_0] at h3
  exact h3
theorem sp_couldFollow {Q : Int32 → Mem → Prop} {n c d sn : Nat} {R L f s1 s2 s3 : Nat → Int32} {M : Mem} (hw : WF n R L f) (hc : c < n) (hd : d < n) (hdc : d ≠ c) (hcr : M 211 2 = nI n) (hR : M 212 = R) (hL : M 213 = L) (hf : M 214 = f) (hs : Sn n sn s1 s2) (he : RE sn s1 s2 s3 M) (hq : ∀ M', (∀ k, k < 31 → M' 227 k = way n R L f c d k) → (∀ a, a ≠ 221 → a ≠ 223 → a ≠ 227 → M' a = M a) → Q (if fitp n R L f s1 s2 s3 sn c d = true then 1 else 0) M') : wp_X10_couldFollow Q (nI c) (nI d) M := by
  have h8 := hw.1
  obtain ⟨hs1, hs2⟩ := hs
  obtain ⟨e2, e3⟩ := he
  intro X11 hx
  refine sp_findWay hw hc hd hdc hcr hR hL hf (fun M1 g1 g2 => ?_)
  have ep : fitp n R L f s1 s2 s3 sn c d = fitb s1 s2 s3 c (way n R L f c d) sn := by unfold fitp; rw [decide_eq_true hdc, Bool.true_and]
  have hq := hq M1 g1 g2
  rw [ep] at hq
  have key : X11 (if fitb s1 s2 s3 c (way n R L f c d) 0 = true then 1 else 0) (nI 0) M1 := by
    refine upto (P := fun i => X11 (if fitb s1 s2 s3 c (way n R L f c d) i = true then 1 else 0) (nI i) M1) (n := sn) ?_ ?_
    · apply hx
      unfold bd_X10_couldFollow_11
      rw [g2 211 (by decide) (by decide) (by decide), e2]
      refine ⟨fun _ => ⟨?_, hq⟩, fun z => absurd ((leN (by omega) (by omega)).mpr (Nat.le_refl sn)) z⟩
      split
      · exact Or.inr rfl
      · exact Or.inl rfl
    · intro i hi ih
      apply hx
      unfold bd_X10_couldFollow_11
      obtain ⟨⟨c', c1, c2⟩, k, k1, k2, k3⟩ := hs2 i hi
      obtain ⟨q1, q2, q3⟩ := e3 i hi
      have b6 : vp_in (nI i) 6 := inb (by omega) (by omega)
      rw [g2 211 (by decide) (by decide) (by decide), e2, leN (by omega) (by omega), cl (show i < 1000000 by omega), nI_1, g2 224 (by decide) (by decide) (by decide), g2 225 (by decide) (by decide) (by decide), g2 226 (by decide) (by decide) (by decide), q1, q2, q3, k3, cl (show k < 1000000 by omega), g1 k (by omega)]
      rw [fitb, k3, cl (show k < 1000000 by omega)] at ih
      refine ⟨fun z => absurd z (by omega), fun _ => ⟨fun z => ?_, fun z => ⟨b6, fun w => ⟨b6, inb (by omega) (by omega), b6, ?_⟩, fun w => ?_⟩⟩⟩
      · have hz : fitb s1 s2 s3 c (way n R L f c d) i = false := by
          cases e : fitb s1 s2 s3 c (way n R L f c d) i
          · rfl
          · rw [e] at z; exact absurd z (by decide)
        rw [hz, Bool.false_and, if_neg (by decide)] at ih
        exact ih
      · have hz : fitb s1 s2 s3 c (way n R L f c d) i = true := by
          cases e : fitb s1 s2 s3 c (way n R L f c d) i
          · rw [e] at z; exact absurd rfl z
          · rfl
        rw [hz, Bool.true_and, decide_eq_false (fun y => y w), Bool.false_or] at ih
        by_cases y : way n R L f c d k = s3 i
        · rw [if_pos y]; rw [decide_eq_true y, if_pos rfl] at ih; exact ih
        · rw [if_neg y]; rw [decide_eq_false y, if_neg (by decide)] at ih; exact ih
      · have hz : fitb s1 s2 s3 c (way n R L f c d) i = true := by
          cases e : fitb s1 s2 s3 c (way n R L f c d) i
          · rw [e] at z; exact absurd rfl z
          · rfl
        rw [hz, Bool.true_and, decide_eq_true w, Bool.true_or, if_pos rfl] at ih
        exact ih
  rw [nI_0] at key
  exact key
