theorem w_ex {args : Array Value} {s : State} (hts : ∀ x ∈ lw_tbl, x.before args s = true) (hgv : (Jvm.Cond.and given_1 narrow_1).before args s = true) : ∃ w : Wx, KG w s.heap.size s ∧ va_Z "FollowCab" "TENS" "[I" (.ref w.2.2.2.2.2.2) (A0 s.heap.size) s s.heap ∧ va_T .int w.2.2.2.2.2.2 6 (fun j => .int (tens j)) (A0 s.heap.size) s s.heap := by
  have htl : ∀ x ∈ lwg, x.before args s = true := fun x h => hts x (List.mem_filter.mp h).1
  have hD : ∀ ci : Nat, ∃ (cC : ClassId) (iS : Nat → Nat), ∀ q : vw_C, vwCl[ci]? = some q → u_Kn s q.1 q.2.1 q.2.2 cC iS := by
    intro ci
    match ci with
    | 0 =>
      obtain ⟨a, i, h⟩ := u_known htl inX0 (htl _ it_X0)
      refine ⟨a, i, fun q hq => ?_⟩
      cases Option.some.inj hq
      exact h
    | 1 =>
      obtain ⟨a, i, h⟩ := u_known htl inX1 (htl _ it_X1)
      refine ⟨a, i, fun q hq => ?_⟩
      cases Option.some.inj hq
      exact h
    | 2 =>
      obtain ⟨a, i, h⟩ := u_known htl inX3 (htl _ it_X3)
      refine ⟨a, i, fun q hq => ?_⟩
      cases Option.some.inj hq
      exact h
    | 3 =>
      obtain ⟨a, i, h⟩ := u_known htl inX4 (htl _ it_X4)
      refine ⟨a, i, fun q hq => ?_⟩
      cases Option.some.inj hq
      exact h
    | 4 =>
      obtain ⟨a, i, h⟩ := u_known htl inX5 (htl _ it_X5)
      refine ⟨a, i, fun q hq => ?_⟩
      cases Option.some.inj hq
      exact h
    | 5 =>
      obtain ⟨a, i, h⟩ := u_known htl inX6 (htl _ it_X6)
      refine ⟨a, i, fun q hq => ?_⟩
      cases Option.some.inj hq
      exact h
    | 6 =>
      obtain ⟨a, i, h⟩ := u_known htl inX7 (htl _ it_X7)
      refine ⟨a, i, fun q hq => ?_⟩
      cases Option.some.inj hq
      exact h
    | 7 =>
      obtain ⟨a, i, h⟩ := u_known htl inX8 (htl _ it_X8)
      refine ⟨a, i, fun q hq => ?_⟩
      cases Option.some.inj hq
      exact h
    | 8 =>
      obtain ⟨a, i, h⟩ := u_known htl inX9 (htl _ it_X9)
      refine ⟨a, i, fun q hq => ?_⟩
      cases Option.some.inj hq
      exact h
    | 9 =>
      obtain ⟨a, i, h⟩ := u_known htl inX10 (htl _ it_X10)
      refine ⟨a, i, fun q hq => ?_⟩
      cases Option.some.inj hq
      exact h
    | n + 10 =>
      refine ⟨0, fun _ => 0, fun q hq => ?_⟩
      have e : vwCl[n + 10]? = none := rfl
      rw [e] at hq
      cases hq
  obtain ⟨cI, kI, pI, i1, i2, i3⟩ := Cond.arrayClass_spec (htl _ ac_int)
  obtain ⟨cZ, kZ, pZ, z1, z2, z3⟩ := Cond.arrayClass_spec (htl _ ac_boolean)
  have ho : (Cond.arrayOver (.object RX7)).before args s = true := hts _ (List.mem_of_getElem? (i := 182) (by decide +kernel))
  have ha : (Cond.arrayOver (.array .int)).before args s = true := hts _ (List.mem_of_getElem? (i := 256) (by decide +kernel))
  obtain ⟨pS, cS, kS, s1, s2, s3, s4, s5⟩ := Cond.arrayOver_spec ho
  obtain ⟨pA, cA, kA, a1, a2, a3, a4, a5⟩ := arrayOverA_spec ha
  have hs := flat_of_before _ hgv
  have hA : ∀ a : Nat, a < s.heap.size → ¬ A0 s.heap.size a := fun a h z => absurd h (Nat.not_lt.mpr z)
  have h0 : (Cond.arrayOf (.static "FollowCab" "TENS" "[I") .int).before args s = true := hs _ (by decide +kernel)
  have h6 : (Cond.eq (.length (.static "FollowCab" "TENS" "[I")) (.int 6)).before args s = true := hs _ (by decide +kernel)
  obtain ⟨t, ht, hT⟩ := va_Tof (tm := .static "FollowCab" "TENS" "[I") (ty := .int) (N := 6) (f := fun j => .int (tens j)) (A := A0 s.heap.size) (by decide) h0 (va_eqt (z := 6) h6) (fun j hj => by
    rcases (show j = 0 ∨ j = 1 ∨ j = 2 ∨ j = 3 ∨ j = 4 ∨ j = 5 by omega) with rfl | rfl | rfl | rfl | rfl | rfl
    · exact va_eqt (z := 1) (hs _ (by decide +kernel))
    · exact va_eqt (z := 10) (hs _ (by decide +kernel))
    · exact va_eqt (z := 100) (hs _ (by decide +kernel))
    · exact va_eqt (z := 1000) (hs _ (by decide +kernel))
    · exact va_eqt (z := 10000) (hs _ (by decide +kernel))
    · exact va_eqt (z := 100000) (hs _ (by decide +kernel))) hA
  have hl : (Cond.laysStatic "FollowCab" "TENS" "[I").before args s = true := hts _ (List.mem_of_getElem? (i := 395) (by decide +kernel))
  have hZ := va_Zref (A := A0 s.heap.size) hl (htl _ ii_X9) ht hA
  refine ⟨((fun c => Classical.choose (hD c), fun c => Classical.choose (Classical.choose_spec (hD c))), fun k => s.heap.size + k, cI, cZ, cS, cA, t), ⟨rfl, ⟨fun c q hq => Classical.choose_spec (Classical.choose_spec (hD c)) q hq, fun k q hq => ?_⟩, fun x hx => ?_, va_AO.of ho, ha⟩, hZ, hT⟩
  · match k with
    | 0 =>
      cases Option.some.inj hq
      exact ⟨fun n z => ⟨fun k h => (by cases h), kI, i2, pI, i3⟩, i1⟩
    | 1 =>
      cases Option.some.inj hq
      exact ⟨fun n z => ⟨fun k h => (by cases h), kZ, z2, pZ, z3⟩, z1⟩
    | 2 =>
      cases Option.some.inj hq
      exact ⟨fun n z => ⟨fun k h => (by cases h), kS, s3, pS, s4⟩, kS, pS, s3, s4, s1, s5⟩
    | 3 =>
      cases Option.some.inj hq
      exact ⟨fun n z => ⟨fun k h => (by cases h), kA, a3, pA, a4⟩, a5⟩
    | n + 4 => cases hq
  · have hm := hts x (List.mem_append_right _ (List.mem_filter.mp hx).1)
    rcases nws_kind x hx with ⟨a, i, y, h, rfl⟩ | ⟨a, i, b, n, d, h, rfl⟩
    · exact va_Nw.of rfl hm
    · exact va_Nw.of rfl hm
