/-! digs: bits of a set of years -/
def bits8 (v : Int32) : Int32 := ((((((((0 : Int32) + ((v >>> ((0 : Int32) &&& 31)) &&& 1)) + ((v >>> ((1 : Int32) &&& 31)) &&& 1)) + ((v >>> ((2 : Int32) &&& 31)) &&& 1)) + ((v >>> ((3 : Int32) &&& 31)) &&& 1)) + ((v >>> ((4 : Int32) &&& 31)) &&& 1)) + ((v >>> ((5 : Int32) &&& 31)) &&& 1)) + ((v >>> ((6 : Int32) &&& 31)) &&& 1)) + ((v >>> ((7 : Int32) &&& 31)) &&& 1)
theorem many_eq {nF : Nat} (hF : 1000 ≤ nF) (M : PS) (v : Int32) : fX10_many nF M v = some (bits8 v) := by
  obtain ⟨k, rfl⟩ : ∃ k, nF = k + 9 := ⟨nF - 9, by omega⟩
  rfl
theorem bitCount_eq (S : PS) : ∀ s : Nat, s < 256 → fJ6_bitCount_0f7a4 S (nI s) = bits8 (nI s) := by
  have h : ∀ s : Nat, s < 256 → fJ6_bitCount_0f7a4 (fun _ _ => 0, fun _ _ => 0) (nI s) = bits8 (nI s) := by decide +kernel
  exact h
