theorem Inv_t {M M' : Mem} (h : ∀ a, (a < 18 ∨ 24 < a) → M' a = M a) (q : Inv M) : Inv M' :=
  Inv_c (fun a b1 => h a (by omega)) (fun a b1 b2 => h a (by omega)) (h 210 (by omega)) (h 211 (by omega)) (fun a b1 b2 => h a (by omega)) (h 222 (by omega)) (fun a b1 b2 => h a (by omega)) (fun a b1 b2 => h a (by omega)) q
theorem Inv_g {M M' : Mem} (h : ∀ a, (a < 193 ∨ 209 < a) → M' a = M a) (q : Inv M) : Inv M' :=
  Inv_c (fun a b1 => h a (by omega)) (fun a b1 b2 => h a (by omega)) (h 210 (by omega)) (h 211 (by omega)) (fun a b1 b2 => h a (by omega)) (h 222 (by omega)) (fun a b1 b2 => h a (by omega)) (fun a b1 b2 => h a (by omega)) q
theorem Inv_r {M M' : Mem} (h : ∀ a, a ≠ 221 → a ≠ 223 → a ≠ 227 → a ≠ 228 → M' a = M a) (q : Inv M) : Inv M' :=
  Inv_c (fun a b1 => h a (by omega) (by omega) (by omega) (by omega)) (fun a b1 b2 => h a (by omega) (by omega) (by omega) (by omega)) (h 210 (by omega) (by omega) (by omega) (by omega)) (h 211 (by omega) (by omega) (by omega) (by omega)) (fun a b1 b2 => h a (by omega) (by omega) (by omega) (by omega)) (h 222 (by omega) (by omega) (by omega) (by omega)) (fun a b1 b2 => h a (by omega) (by omega) (by omega) (by omega)) (fun a b1 b2 => h a (by omega) (by omega) (by omega) (by omega)) q
theorem cl_where {P : Int32 → Int32 → Mem → Prop} {a : Int32} {d : Int32} {M : Mem} (hi : Inv M) (hp : ∀ r M', Inv M' → P r r M') : wp_X9_where (fun r M1 => wp_X10_where (fun q M2 => P r q M2) a d M1) a d M := by
  have hi' := hi
  obtain ⟨n, R, L, f, ⟨hw, hs, hn, hR, hL, hf⟩, q2, q3, ⟨sn, s1, s2, s3, r1, r2, r3⟩, q5, q6, q7, ⟨nc, c1, c2, c3, c4⟩, q9⟩ := hi'
  have h8 := hw.1
  refine sp_where hw hs (fun u => ?_) (fun u o => ?_) (fun j k j1 k1 ej ek M1 h1 => ?_)
  · exact sp_whereR hw hn hR hL hf (fun _ => hp _ M hi) (fun ⟨j, j1, j2⟩ _ => absurd j2 (u j j1)) (fun j k j1 _ j2 _ _ _ => absurd j2 (u j j1))
  · obtain ⟨j, j1, j2⟩ := u
    exact sp_whereR hw hn hR hL hf (fun v => absurd j2 (v j j1)) (fun _ _ => hp _ M hi) (fun j k _ k1 _ k2 _ _ => absurd k2 (o k k1))
  · refine sp_whereR hw ((congrFun (h1 211 (Or.inr (by decide))) 2).trans hn) ((h1 212 (Or.inr (by decide))).trans hR) ((h1 213 (Or.inr (by decide))).trans hL) ((h1 214 (Or.inr (by decide))).trans hf) (fun v => absurd ej (v j j1)) (fun _ v => absurd ek (v k k1)) (fun j' k' j1' k1' ej' ek' M2 h2 => ?_)
    have e1 : j' = j := (eqN (by omega) (by omega)).mp (ej'.symm.trans ej)
    have e2 : k' = k := (eqN (by omega) (by omega)).mp (ek'.symm.trans ek)
    rw [e1, e2]
    exact hp _ M2 (Inv_r (fun a b1 b2 _ _ => h2 a b1 b2) (Inv_t h1 hi))
theorem cl_sees {P : Int32 → Int32 → Mem → Prop} {a : Int32} {d : Int32} {M : Mem} (hi : Inv M) (hp : ∀ r M', Inv M' → P r r M') : wp_X9_sees (fun r M1 => wp_X10_sees (fun q M2 => P r q M2) a d M1) a d M := by
  have hi' := hi
  obtain ⟨n, R, L, f, ⟨hw, hs, hn, hR, hL, hf⟩, q2, q3, ⟨sn, s1, s2, s3, r1, r2, r3⟩, q5, q6, q7, ⟨nc, c1, c2, c3, c4⟩, q9⟩ := hi'
  have h8 := hw.1
  refine sp_sees hw hs (fun u => ?_) (fun i j i1 j1 hij ei ej M1 h1 => ?_)
  · exact sp_seesR hw hn hR hL hf (fun _ => hp _ M hi) (fun i j i1 j1 hij ei ej _ _ => (u i j i1 j1 hij ei ej).elim)
  · refine sp_seesR hw ((congrFun (h1 211 (Or.inr (by decide))) 2).trans hn) ((h1 212 (Or.inr (by decide))).trans hR) ((h1 213 (Or.inr (by decide))).trans hL) ((h1 214 (Or.inr (by decide))).trans hf) (fun v => (v i j i1 j1 hij ei ej).elim) (fun i' j' i1' j1' _ ei' ej' M2 h2 => ?_)
    have e1 : i' = i := (eqN (by omega) (by omega)).mp (ei'.symm.trans ei)
    have e2 : j' = j := (eqN (by omega) (by omega)).mp (ej'.symm.trans ej)
    rw [e1, e2]
    exact hp _ M2 (Inv_r (fun a b1 b2 _ _ => h2 a b1 b2) (Inv_t h1 hi))
theorem cl_handed {P : Int32 → Int32 → Mem → Prop} {a : Int32} {d : Int32} {M : Mem} (hi : Inv M) (hp : ∀ r M', Inv M' → P r r M') : wp_X9_handed (fun r M1 => wp_X10_handed (fun q M2 => P r q M2) a d M1) a d M := by
  have hi' := hi
  obtain ⟨n, R, L, f, ⟨hw, hs, hn, hR, hL, hf⟩, q2, q3, ⟨sn, s1, s2, s3, r1, r2, r3⟩, q5, q6, q7, ⟨nc, c1, c2, c3, c4⟩, q9⟩ := hi'
  have h8 := hw.1
  refine sp_handed hw hs (fun u => ?_) (fun i j i1 j1 hij ei ej M1 h1 => ?_)
  · exact sp_handedR hw hn hR hL hf (fun _ => hp _ M hi) (fun i j i1 j1 hij ei ej _ _ => (u i j i1 j1 hij ei ej).elim)
  · refine sp_handedR hw ((congrFun (h1 211 (Or.inr (by decide))) 2).trans hn) ((h1 212 (Or.inr (by decide))).trans hR) ((h1 213 (Or.inr (by decide))).trans hL) ((h1 214 (Or.inr (by decide))).trans hf) (fun v => (v i j i1 j1 hij ei ej).elim) (fun i' j' i1' j1' _ ei' ej' M2 h2 => ?_)
    have e1 : i' = i := (eqN (by omega) (by omega)).mp (ei'.symm.trans ei)
    have e2 : j' = j := (eqN (by omega) (by omega)).mp (ej'.symm.trans ej)
    rw [e1, e2]
    exact hp _ M2 (Inv_r (fun a b1 b2 _ _ => h2 a b1 b2) (Inv_t h1 hi))
theorem cl_cross {P : Int32 → Int32 → Mem → Prop} {a : Int32} {d : Int32} {M : Mem} (hi : Inv M) (hp : ∀ r M', Inv M' → P r r M') : wp_X9_cross (fun r M1 => wp_X10_cross (fun q M2 => P r q M2) a d M1) a d M := by
  have hi' := hi
  obtain ⟨n, R, L, f, ⟨hw, hs, hn, hR, hL, hf⟩, q2, q3, ⟨sn, s1, s2, s3, r1, r2, r3⟩, q5, q6, q7, ⟨nc, c1, c2, c3, c4⟩, q9⟩ := hi'
  have h8 := hw.1
  refine sp_cross c1 c2 hw hs (fun u => ?_) (fun u o => ?_) (fun j w j1 w1 w2 ej ew M1 h1 => ?_)
  · exact sp_crossR c1 c3 hw hn hR hL hf (fun _ => hp _ M hi) (fun ⟨j, j1, j2⟩ _ => absurd j2 (u j j1)) (fun j k j1 _ _ j2 _ _ _ => absurd j2 (u j j1))
  · obtain ⟨j, j1, j2⟩ := u
    exact sp_crossR c1 c3 hw hn hR hL hf (fun v => absurd j2 (v j j1)) (fun _ _ => hp _ M hi) (fun j k _ k1 k2 _ k3 _ _ => absurd k3 (o k k1 k2))
  · refine sp_crossR c1 ((congrFun (h1 211 (Or.inr (by decide))) 0).trans c3) hw ((congrFun (h1 211 (Or.inr (by decide))) 2).trans hn) ((h1 212 (Or.inr (by decide))).trans hR) ((h1 213 (Or.inr (by decide))).trans hL) ((h1 214 (Or.inr (by decide))).trans hf) (fun v => absurd ej (v j j1)) (fun _ v => absurd ew (v w w1 w2)) (fun j' k' j1' k1' k2' ej' ek' M2 h2 => ?_)
    have e1 : j' = j := (eqN (by omega) (by omega)).mp (ej'.symm.trans ej)
    have e2 : k' = w := (eqN (by omega) (by omega)).mp (ek'.symm.trans ew)
    rw [e1, e2]
    exact hp _ M2 (Inv_r (fun a b1 b2 _ _ => h2 a b1 b2) (Inv_t h1 hi))
theorem cl_meets {P : Int32 → Int32 → Mem → Prop} {a : Int32} {M : Mem} (hi : Inv M) (hp : ∀ r M', Inv M' → P r r M') : wp_X9_meets (fun r M1 => wp_X10_meets (fun q M2 => P r q M2) a M1) a M := by
  have hi' := hi
  obtain ⟨n, R, L, f, ⟨hw, hs, hn, hR, hL, hf⟩, q2, q3, ⟨sn, s1, s2, s3, r1, r2, r3⟩, q5, q6, q7, ⟨nc, c1, c2, c3, c4⟩, q9⟩ := hi'
  have h8 := hw.1
  refine sp_meets c1 c2 hw hs (fun o => ?_) (fun k k1 ek M1 h1 => ?_)
  · exact sp_meetsR c1 c3 hw hn hR hL hf (fun _ => hp _ M hi) (fun k k1 ek _ _ => absurd ek (o k k1))
  · refine sp_meetsR c1 ((congrFun (h1 211 (Or.inr (by decide))) 0).trans c3) hw ((congrFun (h1 211 (Or.inr (by decide))) 2).trans hn) ((h1 212 (Or.inr (by decide))).trans hR) ((h1 213 (Or.inr (by decide))).trans hL) ((h1 214 (Or.inr (by decide))).trans hf) (fun v => absurd ek (v k k1)) (fun k' k1' ek' M2 h2 => ?_)
    have e2 : k' = k := (eqN (by omega) (by omega)).mp (ek'.symm.trans ek)
    rw [e2]
    exact hp _ M2 (Inv_r (fun a b1 b2 _ _ => h2 a b1 b2) (Inv_t h1 hi))
theorem cl_asked {P : Int32 → Int32 → Mem → Prop} {a : Int32} {M : Mem} (hi : Inv M) (hp : ∀ r M', Inv M' → P r r M') : wp_X9_asked (fun r M1 => wp_X10_asked (fun q M2 => P r q M2) a M1) a M := by
  have hi' := hi
  obtain ⟨n, R, L, f, ⟨hw, hs, hn, hR, hL, hf⟩, q2, q3, ⟨sn, s1, s2, s3, r1, r2, r3⟩, q5, q6, q7, ⟨nc, c1, c2, c3, c4⟩, q9⟩ := hi'
  have h8 := hw.1
  refine sp_asked (fun o => ?_) (fun k k1 ek => ?_)
  · exact sp_askedR (fun _ => hp _ M hi) (fun k k1 ek => absurd ek (o k k1))
  · refine sp_askedR (fun v => absurd ek (v k k1)) (fun k' k1' ek' => ?_)
    have e2 : k' = k := (eqN (by omega) (by omega)).mp (ek'.symm.trans ek)
    rw [e2, c4]
    exact hp _ M hi
theorem cl_whom {P : Int32 → Int32 → Mem → Prop} {a : Int32} {M : Mem} (hi : Inv M) (hp : ∀ r M', Inv M' → P r r M') : wp_X9_whom (fun r M1 => wp_X10_whom (fun q M2 => P r q M2) a M1) a M := by
  have hi' := hi
  obtain ⟨n, R, L, f, ⟨hw, hs, hn, hR, hL, hf⟩, q2, q3, ⟨sn, s1, s2, s3, r1, r2, r3⟩, q5, q6, q7, ⟨nc, c1, c2, c3, c4⟩, q9⟩ := hi'
  have h8 := hw.1
  refine sp_whom hw hs r1 r2 (fun u => ?_) (fun c hc ec M1 h1 => ?_)
  · exact sp_whomR hw hn hR hL hf r1 r3 (fun _ => hp _ M hi) (fun c hc ec _ _ => absurd ec (u c hc))
  · refine sp_whomR hw ((congrFun (h1 211 (Or.inr (by decide))) 2).trans hn) ((h1 212 (Or.inr (by decide))).trans hR) ((h1 213 (Or.inr (by decide))).trans hL) ((h1 214 (Or.inr (by decide))).trans hf) r1 (RE_c (congrFun (h1 211 (Or.inr (by decide))) 23) (fun a b1 b2 => h1 a (by omega)) r3) (fun v => absurd ec (v c hc)) (fun c' hc' ec' M2 h2 => ?_)
    have e2 : c' = c := (eqN (by omega) (by omega)).mp (ec'.symm.trans ec)
    rw [e2]
    exact hp _ M2 (Inv_r (fun a b1 b2 b3 _ => h2 a b1 b2 b3) (Inv_g h1 hi))
theorem cl_look {P : Int32 → Int32 → Mem → Prop} {a : Int32} {M : Mem} (hi : Inv M) (hp : ∀ r M', Inv M' → P r r M') : wp_X9_look (fun r M1 => wp_X10_look (fun q M2 => P r q M2) a M1) a M := by
  have hi' := hi
  obtain ⟨n, R, L, f, ⟨hw, hs, hn, hR, hL, hf⟩, q2, q3, ⟨sn, s1, s2, s3, r1, r2, r3⟩, q5, q6, q7, ⟨nc, c1, c2, c3, c4⟩, q9⟩ := hi'
  have h8 := hw.1
  refine sp_look hw hs r1 r2 (fun u => ?_) (fun c hc ec M1 h1 => ?_)
  · exact sp_lookR hw hn hR hL hf r1 r3 (fun _ => hp _ M hi) (fun c hc ec _ _ => absurd ec (u c hc))
  · refine sp_lookR hw ((congrFun (h1 211 (Or.inr (by decide))) 2).trans hn) ((h1 212 (Or.inr (by decide))).trans hR) ((h1 213 (Or.inr (by decide))).trans hL) ((h1 214 (Or.inr (by decide))).trans hf) r1 (RE_c (congrFun (h1 211 (Or.inr (by decide))) 23) (fun a b1 b2 => h1 a (by omega)) r3) (fun v => absurd ec (v c hc)) (fun c' hc' ec' M2 h2 => ?_)
    have e2 : c' = c := (eqN (by omega) (by omega)).mp (ec'.symm.trans ec)
    rw [e2]
    exact hp _ M2 (Inv_r h2 (Inv_g h1 hi))
theorem cl_rings {P : Int32 → Int32 → Mem → Prop} {a : Int32} {M : Mem} (hi : Inv M) (hp : ∀ r M', Inv M' → P r r M') : wp_X9_rings (fun r M1 => wp_X10_rings (fun q M2 => P r q M2) a M1) a M := by
  have hi' := hi
  obtain ⟨n, R, L, f, ⟨hw, hs, hn, hR, hL, hf⟩, q2, q3, ⟨sn, s1, s2, s3, r1, r2, r3⟩, q5, q6, q7, ⟨nc, c1, c2, c3, c4⟩, q9⟩ := hi'
  have h8 := hw.1
  unfold wp_X9_rings bd_X9_rings
  refine ⟨fun e => sp_ringCount hw.ldr hs.1 (fun c hc => (hs.2.2 c hc).2.1) ?_, fun e => sp_ringNumber hw.ldr hs.1 (fun c hc => (hs.2.2 c hc).2.1) e ?_⟩
  · unfold wp_X10_rings bd_X10_rings
    refine sp_ringsNow hw.ldr hn hf ?_
    rw [e, rga_m1 hw.1]
    exact hp _ M hi
  · unfold wp_X10_rings bd_X10_rings
    exact sp_ringsNow hw.ldr hn hf (hp _ M hi)
theorem cl_stop {P : Int32 → Int32 → Mem → Prop} {M : Mem} (hi : Inv M) (hp : ∀ r M', Inv M' → P r r M') : wp_X9_stop (fun r M1 => wp_X10_stop (fun q M2 => P r q M2)  M1)  M := by
  have hi' := hi
  obtain ⟨n, R, L, f, ⟨hw, hs, hn, hR, hL, hf⟩, q2, q3, ⟨sn, s1, s2, s3, r1, r2, r3⟩, q5, q6, q7, ⟨nc, c1, c2, c3, c4⟩, q9⟩ := hi'
  have h8 := hw.1
  unfold wp_X9_stop bd_X9_stop
  exact sp_leastOfRings hw.ldr hs.1 (fun c hc => (hs.2.2 c hc).2.1) (sp_stopR hw.ldr hn hf (hp _ M hi))
theorem cl_behind {P : Int32 → Int32 → Mem → Prop} {a : Int32} {M : Mem} (hi : Inv M) (hp : ∀ r M', Inv M' → P r r M') : wp_X9_behind (fun r M1 => wp_X10_behind (fun q M2 => P r q M2) a M1) a M := by
  have hi' := hi
  obtain ⟨n, R, L, f, ⟨hw, hs, hn, hR, hL, hf⟩, q2, q3, ⟨sn, s1, s2, s3, r1, r2, r3⟩, q5, q6, q7, ⟨nc, c1, c2, c3, c4⟩, q9⟩ := hi'
  have h8 := hw.1
  unfold wp_X9_behind bd_X9_behind
  refine sp_isCar (n := n) (by omega) hs.1 (fun c hc ec => ⟨fun z => absurd z (by decide), fun _ => ?_⟩) (fun u => ⟨fun _ => ?_, fun z => absurd rfl z⟩)
  · rw [ec]
    refine sp_trailOf hw.ldr hs.1 (fun c hc => (hs.2.2 c hc).2.1) hc ?_
    unfold wp_X10_behind bd_X10_behind
    refine sp_isCarR (n := n) (by omega) hn (fun d hd ed => ⟨fun z => absurd z (by decide), fun _ => ?_⟩) (fun u => absurd rfl (u c hc))
    exact sp_behindOf hw.ldr hn hf hc (hp _ M hi)
  · unfold wp_X10_behind bd_X10_behind
    exact sp_isCarR (n := n) (by omega) hn (fun d hd ed => absurd ed (u d hd)) (fun _ => ⟨fun _ => hp _ M hi, fun z => absurd rfl z⟩)
