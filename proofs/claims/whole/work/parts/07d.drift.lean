/-! DRAWS -/
def nxs (v : Nat) : Nat := (v * 1103515245 + 12345) % 2147483648
theorem nxs_lt (v : Nat) : nxs v < 2147483648 := Nat.mod_lt _ (by decide)
theorem cls_draw (v : Nat) : (nI v * 1103515245 + 12345) &&& 2147483647 = nI (nxs v) := by
  rw [show (1103515245 : Int32) = nI 1103515245 from rfl, show (12345 : Int32) = nI 12345 from rfl, pk_mul, nI_add, pk_and _ 31 (by decide)]
  unfold nxs
  have e : (nI (v * 1103515245 + 12345)).toBitVec.toNat = (v * 1103515245 + 12345) % 2 ^ 32 := by
    show (BitVec.ofNat 32 _).toNat = _
    rw [BitVec.toNat_ofNat]
  rw [e]
  exact congrArg nI (by omega)
theorem ref_draw {v : Nat} (hv : v < 2147483648) : ((((nI v).toInt64 * (1103515245 : Int64)) + (12345 : Int64)) - (((nI v).toInt64 * (1103515245 : Int64)) + (12345 : Int64)) / (2147483648 : Int64) * (2147483648 : Int64)).toInt32 = nI (nxs v) := by
  rw [nI_l (by omega), show (1103515245 : Int64) = lN 1103515245 from rfl, show (12345 : Int64) = lN 12345 from rfl, show (2147483648 : Int64) = lN 2147483648 from rfl, lN_mul, lN_add, pk_lRem (by omega) (by omega) (by omega), lN_i]
  rfl
theorem dr_val {v m : Nat} (hv : v < 2147483648) (h0 : 0 < m) (hm : m < 1000000) : nI v / 65536 - nI v / 65536 / nI m * nI m = nI (v / 65536 % m) := by
  rw [show (65536 : Int32) = nI 65536 from rfl, pk_div (by omega) (by omega) (by omega), pk_rem (by omega) h0 (by omega)]
theorem sp_drawOf {Q : Int32 → Mem → Prop} {v m : Nat} {M : Mem} (hs : M 210 0 = nI v) (h0 : 0 < m) (hm : m < 1000000) (hq : ∀ M', M' = up M 210 0 (nI (nxs v)) → Q (nI (nxs v / 65536 % m)) M') : wp_X0_drawOf Q (nI m) M := by
  intro M1 e1
  rw [hs, cls_draw] at e1
  have e2 : M1 210 0 = nI (nxs v) := by rw [e1, up_ss]
  rw [e2, dr_val (nxs_lt v) h0 hm, show (0 : Int32) = nI 0 from rfl, leN (by omega) (by omega), eqN (by omega) (by omega)]
  exact ⟨fun z => absurd z (by omega), fun _ => ⟨by omega, hq M1 e1⟩⟩
theorem sp_drawR {Q : Int32 → Mem → Prop} {v m : Nat} {M : Mem} (hv : v < 2147483648) (hs : M 211 6 = nI v) (h0 : 0 < m) (hm : m < 1000000) (hq : ∀ M', M' = up M 211 6 (nI (nxs v)) → Q (nI (nxs v / 65536 % m)) M') : wp_X10_draw Q (nI m) M := by
  intro M1 e1
  rw [hs, ref_draw hv] at e1
  have e2 : M1 211 6 = nI (nxs v) := by rw [e1, up_ss]
  rw [e2, dr_val (nxs_lt v) h0 hm, show (0 : Int32) = nI 0 from rfl, eqN (by omega) (by omega)]
  exact ⟨by omega, hq M1 e1⟩
def asks (od : Int32) (v : Nat) : Prop := nI (nxs (nxs v) / 65536 % 100) < od
def d1 (n v : Nat) : Nat := nxs v / 65536 % n
def d3 (n v : Nat) : Nat := nxs (nxs (nxs v)) / 65536 % n
noncomputable def chv (n : Nat) (od : Int32) (v : Nat) : Nat := if n = 0 then v else if nI (nxs (nxs v) / 65536 % 100) < od then nxs (nxs (nxs v)) else nxs (nxs v)
noncomputable def chf (n : Nat) (od : Int32) (v : Nat) (f : Nat → Int32) : Nat → Int32 := if n = 0 then f else if nI (nxs (nxs v) / 65536 % 100) < od then (if d1 n v = d3 n v then f else upd f (8 + d1 n v) (nI (d3 n v))) else f
theorem chv_lt {n : Nat} {od : Int32} {v : Nat} (hv : v < 2147483648) : chv n od v < 2147483648 := by
  unfold chv
  split
  · exact hv
  · split
    · exact nxs_lt _
    · exact nxs_lt _
theorem WF_chf {n : Nat} {R L f : Nat → Int32} {od : Int32} {v : Nat} (hw : WF n R L f) : WF n R L (chf n od v f) := by
  unfold chf
  by_cases h : n = 0
  · rw [if_pos h]; exact hw
  · rw [if_neg h]
    by_cases h2 : nI (nxs (nxs v) / 65536 % 100) < od
    · rw [if_pos h2]
      by_cases h3 : d1 n v = d3 n v
      · rw [if_pos h3]; exact hw
      · rw [if_neg h3]
        exact WF_lead hw (Nat.mod_lt _ (by omega)) (Or.inr ⟨d3 n v, Nat.mod_lt _ (by omega), fun e => h3 e.symm, rfl⟩)
    · rw [if_neg h2]; exact hw
theorem chf_far {n : Nat} {od : Int32} {v : Nat} {f : Nat → Int32} {j : Nat} (hn : n ≤ 8) (hj : 32 ≤ j) : chf n od v f j = f j := by
  unfold chf
  by_cases h : n = 0
  · rw [if_pos h]
  · rw [if_neg h]
    have : d1 n v < n := Nat.mod_lt _ (by omega)
    split
    · split
      · rfl
      · unfold upd; rw [if_neg (by omega)]
    · rfl
theorem sp_askByDraws {Q : Mem → Prop} {n v : Nat} {od : Int32} {R L f : Nat → Int32} {M : Mem} (hn : n ≤ 8) (hr : SR n R L f M 11) (hs : M 210 0 = nI v) (ho : M 0 11 = od) (hq : ∀ M', SR n R L (chf n od v f) M' 11 → M' 210 0 = nI (chv n od v) → (∀ a, (a < 11 ∨ 17 < a) → a ≠ 210 → M' a = M a) → Q M') : wp_X9_askByDraws Q M := by
  unfold wp_X9_askByDraws bd_X9_askByDraws
  rw [hr.1, show (0 : Int32) = nI 0 from rfl, eqN (by omega) (by omega)]
  refine ⟨fun z => hq M (by unfold chf; rw [if_pos z]; exact hr) (by unfold chv; rw [if_pos z]; exact hs) (fun _ _ _ => rfl), fun z => ?_⟩
  refine sp_drawOf hs (by omega) (by omega) (fun M1 e1 => ?_)
  rw [show (100 : Int32) = nI 100 from rfl]
  refine sp_drawOf (v := nxs v) (by rw [e1, up_ss]) (by omega) (by omega) (fun M2 e2 => ?_)
  have fo2 : ∀ a, a ≠ 210 → M2 a = M a := fun a ha => by rw [e2, up_o ha, e1, up_o ha]
  rw [fo2 0 (by decide), fo2 11 (by decide), ho, hr.1]
  have hr2 : SR n R L f M2 11 := SR_c (fun a _ _ => fo2 a (by omega)) hr
  refine ⟨fun q => sp_drawOf (v := nxs (nxs v)) (by rw [e2, up_ss]) (by omega) (by omega) (fun M3 e3 => ?_), fun q => hq M2 ?_ ?_ (fun a _ b2 => fo2 a b2)⟩
  · have fo3 : ∀ a, a ≠ 210 → M3 a = M a := fun a ha => by rw [e3, up_o ha, fo2 a ha]
    have hr3 : SR n R L f M3 11 := SR_c (fun a _ _ => fo3 a (by omega)) hr
    have h1 : d1 n v < n := Nat.mod_lt _ (by omega)
    have h3 : d3 n v < n := Nat.mod_lt _ (by omega)
    have ev : chv n od v = nxs (nxs (nxs v)) := by unfold chv; rw [if_neg z, if_pos q]
    show (nI (d1 n v) = nI (d3 n v) → Q M3) ∧ (¬ nI (d1 n v) = nI (d3 n v) → vp_in (nI (d1 n v)) 8 ∧ ∀ M5 : Mem, M5 = up M3 (11 + 2) (nI (d1 n v)).toNatClampNeg (nI (d3 n v)) → Q M5)
    rw [eqN (by omega) (by omega), cl (by omega)]
    refine ⟨fun e => hq M3 ?_ (by rw [ev, e3, up_ss]) (fun a _ b2 => fo3 a b2), fun e => ⟨inb (by omega) (by omega), fun M5 e5 => hq M5 ?_ ?_ (fun a b1 b2 => ?_)⟩⟩
    · unfold chf; rw [if_neg z, if_pos q, if_pos e]; exact hr3
    · unfold chf; rw [if_neg z, if_pos q, if_neg e]
      exact SR_lead hn h1 hr3 (by rw [e5, up_s]) (fun a _ _ b3 => by rw [e5, up_o b3])
    · rw [ev, e5, up_o (by decide), e3, up_ss]
    · rw [e5, up_o (by omega), fo3 a b2]
  · unfold chf; rw [if_neg z, if_neg q]; exact hr2
  · unfold chv; rw [if_neg z, if_neg q, e2, up_ss]
theorem sp_chance {Q : Mem → Prop} {n v : Nat} {od : Int32} {f : Nat → Int32} {M : Mem} (hn : n ≤ 8) (h0 : ¬ n = 0) (hv : v < 2147483648) (hc : M 211 2 = nI n) (hf : M 214 = f) (hs : M 211 6 = nI v) (ho : M 211 1 = od) (hq : ∀ M', M' 214 = chf n od v f → M' 211 6 = nI (chv n od v) → (∀ k, k ≠ 6 → M' 211 k = M 211 k) → (∀ a, a ≠ 211 → a ≠ 214 → M' a = M a) → Q M') : wp_X10_chance Q M := by
  unfold wp_X10_chance bd_X10_chance
  rw [hc]
  refine sp_drawR hv hs (by omega) (by omega) (fun M1 e1 => ?_)
  rw [show (100 : Int32) = nI 100 from rfl]
  refine sp_drawR (v := nxs v) (nxs_lt v) (by rw [e1, up_ss]) (by omega) (by omega) (fun M2 e2 => ?_)
  have f2 : ∀ k, k ≠ 6 → M2 211 k = M 211 k := fun k hk => by rw [e2, up_sn hk, e1, up_sn hk]
  have fo2 : ∀ a, a ≠ 211 → M2 a = M a := fun a ha => by rw [e2, up_o ha, e1, up_o ha]
  rw [f2 1 (by decide), f2 2 (by decide), ho, hc]
  have hle : (od ≤ nI (nxs (nxs v) / 65536 % 100)) ↔ ¬ nI (nxs (nxs v) / 65536 % 100) < od := by rw [leI, ltI]; omega
  rw [hle]
  refine ⟨fun q => hq M2 ?_ ?_ f2 (fun a b1 _ => fo2 a b1), fun q => ?_⟩
  · unfold chf; rw [if_neg h0, if_neg q, fo2 214 (by decide), hf]
  · unfold chv; rw [if_neg h0, if_neg q, e2, up_ss]
  · have q : nI (nxs (nxs v) / 65536 % 100) < od := Classical.not_not.mp q
    refine sp_drawR (v := nxs (nxs v)) (nxs_lt _) (by rw [e2, up_ss]) (by omega) (by omega) (fun M3 e3 => ?_)
    have f3 : ∀ k, k ≠ 6 → M3 211 k = M 211 k := fun k hk => by rw [e3, up_sn hk, f2 k hk]
    have fo3 : ∀ a, a ≠ 211 → M3 a = M a := fun a ha => by rw [e3, up_o ha, fo2 a ha]
    have h1 : d1 n v < n := Nat.mod_lt _ (by omega)
    have h3 : d3 n v < n := Nat.mod_lt _ (by omega)
    have ev : chv n od v = nxs (nxs (nxs v)) := by unfold chv; rw [if_neg h0, if_pos q]
    have b8 : vp_in (nI (8 + d1 n v)) 41 := inb (by omega) (by omega)
    show (nI (d1 n v) = nI (d3 n v) → vp_in (8 + nI (d1 n v)) 41 ∧ True) ∧ (¬ nI (d1 n v) = nI (d3 n v) → True) ∧ vp_in (8 + nI (d1 n v)) 41 ∧ ∀ M6 : Mem, M6 = up M3 214 (8 + nI (d1 n v)).toNatClampNeg (if nI (d1 n v) = nI (d3 n v) then M3 214 (8 + nI (d1 n v)).toNatClampNeg else nI (d3 n v)) → Q M6
    rw [a8, cl (by omega)]
    refine ⟨fun _ => ⟨b8, trivial⟩, fun _ => trivial, b8, fun M6 e6 => hq M6 ?_ (by rw [ev, e6, up_o (by decide), e3, up_ss]) (fun k hk => by rw [e6, up_o (by decide), f3 k hk]) (fun a b1 b2 => by rw [e6, up_o b2, fo3 a b1])⟩
    unfold chf
    rw [if_neg h0, if_pos q, e6, up_s, fo3 214 (by decide), hf]
    by_cases e : d1 n v = d3 n v
    · rw [if_pos e, if_pos (by rw [e])]
      exact upd_same rfl
    · rw [if_neg e, if_neg (by rw [eqN (by omega) (by omega)]; exact e)]
noncomputable def dr (n : Nat) (R L : Nat → Int32) (od : Int32) (v : Nat) (f : Nat → Int32) : Nat → Nat × (Nat → Int32)
  | 0 => (v, f)
  | i + 1 => (chv n od (dr n R L od v f i).1, stp n R L (chf n od (dr n R L od v f i).1 (dr n R L od v f i).2))
theorem dr_lt {n : Nat} {R L : Nat → Int32} {od : Int32} {v : Nat} {f : Nat → Int32} (hv : v < 2147483648) : ∀ i, (dr n R L od v f i).1 < 2147483648
  | 0 => hv
  | i + 1 => chv_lt (dr_lt hv i)
theorem dr_WF {n : Nat} {R L : Nat → Int32} {od : Int32} {v : Nat} {f : Nat → Int32} (hw : WF n R L f) : ∀ i, WF n R L (dr n R L od v f i).2
  | 0 => hw
  | i + 1 => WF_stp (WF_chf (dr_WF hw i))
theorem sp_driftLoop {Q : Int32 → Mem → Prop} {X25 : Int32 → Mem → Prop} {n v k : Nat} {od a1 : Int32} {R L f : Nat → Int32} {M : Mem} (hw : WF n R L f) (hk : k ≤ 60) (hr : SR n R L f M 11) (hs : M 210 0 = nI v) (ho : M 0 11 = od) (ha : a1 = nI k) (hx : ∀ (x3 : Int32) (M : Mem), bd_X9_drift_25 Q X25 a1 x3 M → X25 x3 M) (hq : ∀ M', SR n R L (dr n R L od v f k).2 M' 11 → M' 210 0 = nI (dr n R L od v f k).1 → (∀ a, (a < 11 ∨ 17 < a) → a ≠ 210 → M' a = M a) → Q ((dr n R L od v f k).2 40) M') : X25 0 M := by
  have key : ∀ M', SR n R L (dr n R L od v f 0).2 M' 11 → M' 210 0 = nI (dr n R L od v f 0).1 → (∀ a, (a < 11 ∨ 17 < a) → a ≠ 210 → M' a = M a) → X25 (nI 0) M' := by
    refine upto (P := fun i => ∀ M', SR n R L (dr n R L od v f i).2 M' 11 → M' 210 0 = nI (dr n R L od v f i).1 → (∀ a, (a < 11 ∨ 17 < a) → a ≠ 210 → M' a = M a) → X25 (nI i) M') (n := k) ?_ ?_
    · intro M' h1 h2 h3
      apply hx
      unfold bd_X9_drift_25
      rw [ha, h1.2.1]
      exact ⟨fun _ => hq M' h1 h2 h3, fun z => absurd ((leN (by omega) (by omega)).mpr (Nat.le_refl k)) z⟩
    · intro i hi ih M' h1 h2 h3
      apply hx
      unfold bd_X9_drift_25
      rw [ha, leN (by omega) (by omega), nI_1]
      refine ⟨fun z => absurd z (by omega), fun _ => sp_askByDraws hw.1 h1 h2 (by rw [h3 0 (by omega) (by decide), ho]) (fun M2 g1 g2 g3 => sp_move (WF_chf (dr_WF hw i)) g1 (fun M3 g4 g5 => ih M3 g4 (by rw [g5 210 (by omega), g2]; rfl) (fun a b1 b2 => by rw [g5 a (by omega), g3 a b1 b2, h3 a b1 b2])))⟩
  have h3 := key M hr hs (fun _ _ _ => rfl)
  rw [nI_0] at h3
  exact h3
theorem sp_driftLoopR {Q : Int32 → Mem → Prop} {X18 : Int32 → Mem → Prop} {n v k : Nat} {od a1 : Int32} {R L f : Nat → Int32} {M : Mem} (hw : WF n R L f) (hv : v < 2147483648) (hk : k ≤ 60) (hc : M 211 2 = nI n) (hR : M 212 = R) (hL : M 213 = L) (hf : M 214 = f) (hs : M 211 6 = nI v) (ho : M 211 1 = od) (ha : a1 = nI k) (hx : ∀ (x3 : Int32) (M : Mem), bd_X10_drift_18 Q X18 a1 x3 M → X18 x3 M) (hq : ∀ M', M' 214 = (dr n R L od v f k).2 → M' 211 6 = nI (dr n R L od v f k).1 → (∀ k, k ≠ 6 → M' 211 k = M 211 k) → (∀ a, a ≠ 211 → a ≠ 214 → a ≠ 221 → M' a = M a) → Q ((dr n R L od v f k).2 40) M') : X18 0 M := by
  have h8 := hw.1
  have key : ∀ M', M' 214 = (dr n R L od v f 0).2 → M' 211 6 = nI (dr n R L od v f 0).1 → (∀ k, k ≠ 6 → M' 211 k = M 211 k) → (∀ a, a ≠ 211 → a ≠ 214 → a ≠ 221 → M' a = M a) → X18 (nI 0) M' := by
    refine upto (P := fun i => ∀ M', M' 214 = (dr n R L od v f i).2 → M' 211 6 = nI (dr n R L od v f i).1 → (∀ k, k ≠ 6 → M' 211 k = M 211 k) → (∀ a, a ≠ 211 → a ≠ 214 → a ≠ 221 → M' a = M a) → X18 (nI i) M') (n := k) ?_ ?_
    · intro M' h1 h2 h3 h4
      apply hx
      unfold bd_X10_drift_18
      rw [ha, show (40 : Int32) = nI 40 from rfl, cl (by omega), h1]
      exact ⟨fun _ => ⟨inb (by omega) (by omega), hq M' h1 h2 h3 h4⟩, fun z => absurd ((leN (by omega) (by omega)).mpr (Nat.le_refl k)) z⟩
    · intro i hi ih M' h1 h2 h3 h4
      apply hx
      unfold bd_X10_drift_18
      rw [ha, leN (by omega) (by omega), nI_1, h3 2 (by decide), hc, show (0 : Int32) = nI 0 from rfl, leN (by omega) (by omega)]
      have step : ∀ M2, M2 214 = chf n od (dr n R L od v f i).1 (dr n R L od v f i).2 → M2 211 6 = nI (chv n od (dr n R L od v f i).1) → (∀ k, k ≠ 6 → M2 211 k = M 211 k) → (∀ a, a ≠ 211 → a ≠ 214 → a ≠ 221 → M2 a = M a) → wp_X10_stepAll (fun (M4 : Mem) => X18 (nI (i + 1)) M4) M2 := by
        intro M2 g1 g2 g3 g4
        refine sp_stepAll (WF_chf (dr_WF hw i)) (by rw [g3 2 (by decide), hc]) (by rw [g4 212 (by decide) (by decide) (by decide), hR]) (by rw [g4 213 (by decide) (by decide) (by decide), hL]) g1 (fun M4 k1 k2 => ih M4 k1 (by rw [k2 211 (by decide) (by decide), g2]; rfl) (fun k hk => by rw [k2 211 (by decide) (by decide), g3 k hk]) (fun a b1 b2 b3 => by rw [k2 a b2 b3, g4 a b1 b2 b3]))
      refine ⟨fun z => absurd z (by omega), fun _ => ⟨fun z => step M' ?_ ?_ h3 h4, fun z => sp_chance h8 (by omega) (dr_lt hv i) (by rw [h3 2 (by decide), hc]) h1 h2 (by rw [h3 1 (by decide), ho]) (fun M3 g1 g2 g3 g4 => step M3 g1 g2 (fun k hk => by rw [g3 k hk, h3 k hk]) (fun a b1 b2 b3 => by rw [g4 a b1 b2, h4 a b1 b2 b3]))⟩⟩
      · unfold chf; rw [if_pos (by omega), h1]
      · unfold chv; rw [if_pos (by omega), h2]
  have h3 := key M hf hs (fun _ _ => rfl) (fun _ _ _ _ => rfl)
  rw [nI_0] at h3
  exact h3
