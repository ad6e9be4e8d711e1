theorem vlf_rnum (t : Nat → Int32) (s : Nat) : ∀ k, vlf t s k = rnum (fun j => (t (s + j)).toNatClampNeg - 48) k
  | 0 => rfl
  | k + 1 => by
    show vlf t s k * 10 + ((t (s + k)).toNatClampNeg - 48) = 10 * rnum (fun j => (t (s + j)).toNatClampNeg - 48) k + ((t (s + k)).toNatClampNeg - 48)
    rw [vlf_rnum t s k]
    omega
