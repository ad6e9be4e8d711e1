/-- both begin alike -/
theorem Inv_M0 : Inv M0 := by
  refine ⟨0, M0 212, M0 213, M0 214, ⟨⟨by decide, fun c hc => absurd hc (by omega), fun c hc => absurd hc (by omega), fun c hc => absurd hc (by omega), fun c hc => absurd hc (by omega)⟩, ⟨rfl, rfl, fun c hc => absurd hc (by omega)⟩, rfl, rfl, rfl, rfl⟩, ⟨0, fun _ _ => 0, ⟨by decide, 0, by decide, rfl, rfl, fun j hj => absurd hj (by omega)⟩, ⟨by decide, rfl, fun j k hj => absurd hj (by omega)⟩, fun j hj => absurd hj (by omega)⟩, ⟨fun _ => false, fun _ _ => 0, fun _ => 0, fun i hi => ⟨?_, fun z => nomatch (show false = true from z)⟩, fun i hi => ⟨?_, fun z => nomatch (show false = true from z)⟩, fun i hi z => nomatch (show false = true from z)⟩, ⟨0, fun _ => 0, fun _ => 0, fun _ => 0, ⟨by decide, fun i hi => absurd hi (by omega)⟩, ⟨rfl, rfl, fun i hi => absurd hi (by omega)⟩, ⟨rfl, fun i hi => absurd hi (by omega)⟩⟩, ⟨0, by decide, rfl, rfl, rfl, fun i hi => absurd hi (by omega)⟩, ⟨0, by decide, rfl, rfl⟩, ⟨0, by decide, rfl, rfl, fun i hi => absurd hi (by omega)⟩, ⟨0, by decide, rfl, rfl, rfl⟩, rfl⟩
  · rw [show M0 170 = fun _ => 0 from m0z (by decide) (by decide) (by decide) (by decide) (by decide)]
    rfl
  · rw [show M0 232 = fun _ => 0 from m0z (by decide) (by decide) (by decide) (by decide) (by decide)]
    rfl
/-- the script, beside the world -/
def LX (w : Wx) (G : Gx) (b L : Nat) (xs : Nat → Int32) : Prop := match G with
  | (p, l, e, R, s, m, args, below, meth, c, Q, nL, cells, slots) => va_X b L xs s s.heap ∧ b < s.heap.size ∧ ¬ AA w b
abbrev lvk (w : Wx) (b k : Nat) : List (Nat × Value) := [(3, .int (nI (4 * k))), (2, .ref (w.2.1 211)), (1, .ref (w.2.1 0)), (0, .ref b)]
theorem sa1 (k : Nat) : nI (4 * k) + 1 = nI (4 * k + 1) := nI_add _ 1
theorem sa2 (k : Nat) : nI (4 * k) + 2 = nI (4 * k + 2) := nI_add _ 2
theorem sa3 (k : Nat) : nI (4 * k) + 3 = nI (4 * k + 3) := nI_add _ 3
section
variable {w : Wx} {G : Gx} {cc : ByteArray} {own : String} {fr lo nl pc : Nat} {lv : List (Nat × Value)} {st : List Value} {M : Mem}
theorem v_sld (C : Cx w G cc own fr lo nl) {b L : Nat} {xs : Nat → Int32} (hX : LX w G b L xs) {i : Int32} (hin : vp_in i L) (hd : decode cc pc = .ok (.iaload, 1)) (k : V w G (pc + 1) lv (.int (xs i.toNatClampNeg) :: st) M) : V w G pc lv (.int i :: .ref b :: st) M := by
  obtain ⟨p, l, e, R, s, m, args, below, meth, c, Q, nL, cells, slots⟩ := G
  obtain ⟨hx, hb, hml, hown, hts, hy, hRf, hRl, hRc, hRs, hnl⟩ := C
  intro H locs ls hP hS hl
  exact va_sld hx hb hX.1 hX.2.1 hX.2.2 hS hin hd (k H locs ls hP hS hl)
theorem v_slen (C : Cx w G cc own fr lo nl) {b L : Nat} {xs : Nat → Int32} (hX : LX w G b L xs) (hd : decode cc pc = .ok (.arraylength, 1)) (k : V w G (pc + 1) lv (.int (nI L) :: st) M) : V w G pc lv (.ref b :: st) M := by
  obtain ⟨p, l, e, R, s, m, args, below, meth, c, Q, nL, cells, slots⟩ := G
  obtain ⟨hx, hb, hml, hown, hts, hy, hRf, hRl, hRc, hRs, hnl⟩ := C
  intro H locs ls hP hS hl
  exact va_slen hx hb hX.1 hX.2.1 hX.2.2 hS hd (k H locs ls hP hS hl)
end
