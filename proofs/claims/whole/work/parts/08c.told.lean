theorem cl_told {P : Int32 → Int32 → Mem → Prop} {a : Int32} {M : Mem} (hi : Inv M) (hp : ∀ r M', Inv M' → P r r M') : wp_X9_told (fun r M1 => wp_X10_told (fun q M2 => P r q M2) a M1) a M := by
  have hi' := hi
  obtain ⟨n, R, L, f, ⟨hw, hs, hn, hR, hL, hf⟩, ⟨u, hs', hc1, hc2, hc3⟩, q3, ⟨sn, s1, s2, s3, r1, r2, r3⟩, ⟨bn, b1, b2, b3, b4, b5⟩, q6, ⟨tl, t1, t2, t3, t4⟩, ⟨nc, c1, c2, c3, c4⟩, q9⟩ := hi'
  have hl1 : ∀ c, c < n → M (11 + 1) c = f c := fun c hc => (hs.2.2 c hc).1
  have hl2 : ∀ c, c < n → M (11 + 2) c = f (8 + c) := fun c hc => (hs.2.2 c hc).2.1
  have hc1t : M 25 2 = nI u := by
    obtain ⟨_, top, _, _, z, _⟩ := hc1
    exact z
  unfold wp_X9_told bd_X9_told
  refine ⟨fun e => ?_, fun e => ?_, fun e => ?_, fun e => ?_, fun e => ?_, fun e => ?_, fun e => ?_, fun e => ?_, fun e => ?_, fun e => ?_, fun e => ?_, fun e => ?_, fun e => ?_⟩
  · unfold wp_X10_told bd_X10_told
    refine ⟨fun _ => ?_, fun z => absurd (e.symm.trans z) (by decide), fun z => absurd (e.symm.trans z) (by decide), fun z => absurd (e.symm.trans z) (by decide), fun z => absurd (e.symm.trans z) (by decide), fun z => absurd (e.symm.trans z) (by decide), fun z => absurd (e.symm.trans z) (by decide), fun z => absurd (e.symm.trans z) (by decide), fun z => absurd (e.symm.trans z) (by decide), fun z => absurd (e.symm.trans z) (by decide), fun z => absurd (e.symm.trans z) (by decide), fun z => absurd (e.symm.trans z) (by decide), fun z => absurd e z.1⟩
    rw [c2, ← c3]
    exact hp _ M hi
  · unfold wp_X10_told bd_X10_told
    refine ⟨fun z => absurd (e.symm.trans z) (by decide), fun _ => ?_, fun z => absurd (e.symm.trans z) (by decide), fun z => absurd (e.symm.trans z) (by decide), fun z => absurd (e.symm.trans z) (by decide), fun z => absurd (e.symm.trans z) (by decide), fun z => absurd (e.symm.trans z) (by decide), fun z => absurd (e.symm.trans z) (by decide), fun z => absurd (e.symm.trans z) (by decide), fun z => absurd (e.symm.trans z) (by decide), fun z => absurd (e.symm.trans z) (by decide), fun z => absurd (e.symm.trans z) (by decide), fun z => absurd e z.2.1⟩
    rw [c4]
    exact hp _ M hi
  · unfold wp_X10_told bd_X10_told
    refine ⟨fun z => absurd (e.symm.trans z) (by decide), fun z => absurd (e.symm.trans z) (by decide), fun _ => ?_, fun z => absurd (e.symm.trans z) (by decide), fun z => absurd (e.symm.trans z) (by decide), fun z => absurd (e.symm.trans z) (by decide), fun z => absurd (e.symm.trans z) (by decide), fun z => absurd (e.symm.trans z) (by decide), fun z => absurd (e.symm.trans z) (by decide), fun z => absurd (e.symm.trans z) (by decide), fun z => absurd (e.symm.trans z) (by decide), fun z => absurd (e.symm.trans z) (by decide), fun z => absurd e z.2.2.1⟩
    rw [hs.1, ← hn]
    exact hp _ M hi
  · unfold wp_X10_told bd_X10_told
    refine ⟨fun z => absurd (e.symm.trans z) (by decide), fun z => absurd (e.symm.trans z) (by decide), fun z => absurd (e.symm.trans z) (by decide), fun _ => ?_, fun z => absurd (e.symm.trans z) (by decide), fun z => absurd (e.symm.trans z) (by decide), fun z => absurd (e.symm.trans z) (by decide), fun z => absurd (e.symm.trans z) (by decide), fun z => absurd (e.symm.trans z) (by decide), fun z => absurd (e.symm.trans z) (by decide), fun z => absurd (e.symm.trans z) (by decide), fun z => absurd (e.symm.trans z) (by decide), fun z => absurd e z.2.2.2.1⟩
    rw [t2, ← t3]
    exact hp _ M hi
  · unfold wp_X10_told bd_X10_told
    refine ⟨fun z => absurd (e.symm.trans z) (by decide), fun z => absurd (e.symm.trans z) (by decide), fun z => absurd (e.symm.trans z) (by decide), fun z => absurd (e.symm.trans z) (by decide), fun _ => ?_, fun z => absurd (e.symm.trans z) (by decide), fun z => absurd (e.symm.trans z) (by decide), fun z => absurd (e.symm.trans z) (by decide), fun z => absurd (e.symm.trans z) (by decide), fun z => absurd (e.symm.trans z) (by decide), fun z => absurd (e.symm.trans z) (by decide), fun z => absurd (e.symm.trans z) (by decide), fun z => absurd e z.2.2.2.2.1⟩
    exact ⟨inb (i := 40) (by decide) (by decide), by rw [hs.2.1, ← hf]; exact hp _ M hi⟩
  · refine sp_takenCorners hw.1 hs.1 hl1 ?_
    unfold wp_X10_told bd_X10_told
    refine ⟨fun z => absurd (e.symm.trans z) (by decide), fun z => absurd (e.symm.trans z) (by decide), fun z => absurd (e.symm.trans z) (by decide), fun z => absurd (e.symm.trans z) (by decide), fun z => absurd (e.symm.trans z) (by decide), fun _ => ?_, fun z => absurd (e.symm.trans z) (by decide), fun z => absurd (e.symm.trans z) (by decide), fun z => absurd (e.symm.trans z) (by decide), fun z => absurd (e.symm.trans z) (by decide), fun z => absurd (e.symm.trans z) (by decide), fun z => absurd (e.symm.trans z) (by decide), fun z => absurd e z.2.2.2.2.2.1⟩
    exact sp_taken hw.1 hn hf (hp _ M hi)
  · refine sp_allFollowers hw.ldr hs.1 hl2 ?_
    unfold wp_X10_told bd_X10_told
    refine ⟨fun z => absurd (e.symm.trans z) (by decide), fun z => absurd (e.symm.trans z) (by decide), fun z => absurd (e.symm.trans z) (by decide), fun z => absurd (e.symm.trans z) (by decide), fun z => absurd (e.symm.trans z) (by decide), fun z => absurd (e.symm.trans z) (by decide), fun _ => ?_, fun z => absurd (e.symm.trans z) (by decide), fun z => absurd (e.symm.trans z) (by decide), fun z => absurd (e.symm.trans z) (by decide), fun z => absurd (e.symm.trans z) (by decide), fun z => absurd (e.symm.trans z) (by decide), fun z => absurd e z.2.2.2.2.2.2.1⟩
    exact sp_followers hw.1 hn hf (hp _ M hi)
  · refine sp_ringCount hw.ldr hs.1 hl2 ?_
    unfold wp_X10_told bd_X10_told
    refine ⟨fun z => absurd (e.symm.trans z) (by decide), fun z => absurd (e.symm.trans z) (by decide), fun z => absurd (e.symm.trans z) (by decide), fun z => absurd (e.symm.trans z) (by decide), fun z => absurd (e.symm.trans z) (by decide), fun z => absurd (e.symm.trans z) (by decide), fun z => absurd (e.symm.trans z) (by decide), fun _ => ?_, fun z => absurd (e.symm.trans z) (by decide), fun z => absurd (e.symm.trans z) (by decide), fun z => absurd (e.symm.trans z) (by decide), fun z => absurd (e.symm.trans z) (by decide), fun z => absurd e z.2.2.2.2.2.2.2.1⟩
    exact sp_ringsNow hw.ldr hn hf (by rw [rga_m1 hw.1]; exact hp _ M hi)
  · refine sp_heads hw.ldr hw.cor hs.1 hl1 hl2 ?_
    unfold wp_X10_told bd_X10_told
    refine ⟨fun z => absurd (e.symm.trans z) (by decide), fun z => absurd (e.symm.trans z) (by decide), fun z => absurd (e.symm.trans z) (by decide), fun z => absurd (e.symm.trans z) (by decide), fun z => absurd (e.symm.trans z) (by decide), fun z => absurd (e.symm.trans z) (by decide), fun z => absurd (e.symm.trans z) (by decide), fun z => absurd (e.symm.trans z) (by decide), fun _ => ?_, fun z => absurd (e.symm.trans z) (by decide), fun z => absurd (e.symm.trans z) (by decide), fun z => absurd (e.symm.trans z) (by decide), fun z => absurd e z.2.2.2.2.2.2.2.2.1⟩
    exact sp_headsR hw.ldr hn hf (hp _ M hi)
  · unfold wp_X10_told bd_X10_told
    refine ⟨fun z => absurd (e.symm.trans z) (by decide), fun z => absurd (e.symm.trans z) (by decide), fun z => absurd (e.symm.trans z) (by decide), fun z => absurd (e.symm.trans z) (by decide), fun z => absurd (e.symm.trans z) (by decide), fun z => absurd (e.symm.trans z) (by decide), fun z => absurd (e.symm.trans z) (by decide), fun z => absurd (e.symm.trans z) (by decide), fun z => absurd (e.symm.trans z) (by decide), fun _ => ?_, fun z => absurd (e.symm.trans z) (by decide), fun z => absurd (e.symm.trans z) (by decide), fun z => absurd e z.2.2.2.2.2.2.2.2.2.1⟩
    rw [r2.2.1, ← r3.1]
    exact hp _ M hi
  · unfold wp_X10_told bd_X10_told
    refine ⟨fun z => absurd (e.symm.trans z) (by decide), fun z => absurd (e.symm.trans z) (by decide), fun z => absurd (e.symm.trans z) (by decide), fun z => absurd (e.symm.trans z) (by decide), fun z => absurd (e.symm.trans z) (by decide), fun z => absurd (e.symm.trans z) (by decide), fun z => absurd (e.symm.trans z) (by decide), fun z => absurd (e.symm.trans z) (by decide), fun z => absurd (e.symm.trans z) (by decide), fun z => absurd (e.symm.trans z) (by decide), fun _ => ?_, fun z => absurd (e.symm.trans z) (by decide), fun z => absurd e z.2.2.2.2.2.2.2.2.2.2.1⟩
    rw [b3, ← b4]
    exact hp _ M hi
  · unfold wp_X10_told bd_X10_told
    refine ⟨fun z => absurd (e.symm.trans z) (by decide), fun z => absurd (e.symm.trans z) (by decide), fun z => absurd (e.symm.trans z) (by decide), fun z => absurd (e.symm.trans z) (by decide), fun z => absurd (e.symm.trans z) (by decide), fun z => absurd (e.symm.trans z) (by decide), fun z => absurd (e.symm.trans z) (by decide), fun z => absurd (e.symm.trans z) (by decide), fun z => absurd (e.symm.trans z) (by decide), fun z => absurd (e.symm.trans z) (by decide), fun z => absurd (e.symm.trans z) (by decide), fun _ => ?_, fun z => absurd e z.2.2.2.2.2.2.2.2.2.2.2⟩
    rw [hc1t, ← hc2.2.1]
    exact hp _ M hi
  · unfold wp_X10_told bd_X10_told
    exact ⟨fun z => absurd z e.1, fun z => absurd z e.2.1, fun z => absurd z e.2.2.1, fun z => absurd z e.2.2.2.1, fun z => absurd z e.2.2.2.2.1, fun z => absurd z e.2.2.2.2.2.1, fun z => absurd z e.2.2.2.2.2.2.1, fun z => absurd z e.2.2.2.2.2.2.2.1, fun z => absurd z e.2.2.2.2.2.2.2.2.1, fun z => absurd z e.2.2.2.2.2.2.2.2.2.1, fun z => absurd z e.2.2.2.2.2.2.2.2.2.2.1, fun z => absurd z e.2.2.2.2.2.2.2.2.2.2.2, fun _ => hp _ M hi⟩
