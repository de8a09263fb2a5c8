/-! bits of a set of WORKS -/
theorem bit_iff {y : Int32} {w : Nat} (hw : w < 8) : (y >>> (nI w &&& 31) &&& nI 1 = nI 1) = (y.toBitVec.getLsbD w = true) := by
  have hs : ((nI w &&& 31).toBitVec.smod 32).toNat = w := by
    have : w = 0 ∨ w = 1 ∨ w = 2 ∨ w = 3 ∨ w = 4 ∨ w = 5 ∨ w = 6 ∨ w = 7 := by omega
    rcases this with rfl | rfl | rfl | rfl | rfl | rfl | rfl | rfl <;> decide
  rw [pk_and _ 1 (by decide)]
  have h1 := pk_shr y (nI w &&& 31) w hs
  have e : ∀ z : Int32, (z.toBitVec.toNat : Int) = z.toInt % 4294967296 := fun z => by
    have h : z.toInt = z.toBitVec.toInt := rfl
    rw [h, BitVec.toInt_eq_toNat_cond]
    have := z.toBitVec.isLt
    split <;> omega
  have e1 := e (y >>> (nI w &&& 31))
  have e2 := e y
  rw [h1] at e1
  have h2 : y.toInt >>> w = y.toInt / (2 ^ w : Int) := Int.shiftRight_eq_div_pow _ _
  rw [h2] at e1
  rw [nI_eqq (by omega) (by omega)]
  have hb1 := y.toBitVec.isLt
  have g : y.toBitVec.getLsbD w = y.toBitVec.toNat.testBit w := rfl
  rw [g, Nat.testBit_eq_decide_div_mod_eq]
  generalize y.toBitVec.toNat = a at e2 hb1 ⊢
  generalize (y >>> (nI w &&& 31)).toBitVec.toNat = b at e1 ⊢
  generalize y.toInt = c at e1 e2
  apply propext
  rw [decide_eq_true_iff]
  have : w = 0 ∨ w = 1 ∨ w = 2 ∨ w = 3 ∨ w = 4 ∨ w = 5 ∨ w = 6 ∨ w = 7 := by omega
  rcases this with rfl | rfl | rfl | rfl | rfl | rfl | rfl | rfl
  · rw [show (2 : Int) ^ 0 = 1 by decide] at e1
    rw [show (2 : Nat) ^ 0 = 1 by decide]
    omega
  · rw [show (2 : Int) ^ 1 = 2 by decide] at e1
    rw [show (2 : Nat) ^ 1 = 2 by decide]
    omega
  · rw [show (2 : Int) ^ 2 = 4 by decide] at e1
    rw [show (2 : Nat) ^ 2 = 4 by decide]
    omega
  · rw [show (2 : Int) ^ 3 = 8 by decide] at e1
    rw [show (2 : Nat) ^ 3 = 8 by decide]
    omega
  · rw [show (2 : Int) ^ 4 = 16 by decide] at e1
    rw [show (2 : Nat) ^ 4 = 16 by decide]
    omega
  · rw [show (2 : Int) ^ 5 = 32 by decide] at e1
    rw [show (2 : Nat) ^ 5 = 32 by decide]
    omega
  · rw [show (2 : Int) ^ 6 = 64 by decide] at e1
    rw [show (2 : Nat) ^ 6 = 64 by decide]
    omega
  · rw [show (2 : Int) ^ 7 = 128 by decide] at e1
    rw [show (2 : Nat) ^ 7 = 128 by decide]
    omega
theorem bit_all {W w : Nat} (hW : W ≤ 8) (hw : w < W) : (nI 1 <<< (nI W &&& 31) - nI 1).toBitVec.getLsbD w = true := by
  have h1 : W = 1 ∨ W = 2 ∨ W = 3 ∨ W = 4 ∨ W = 5 ∨ W = 6 ∨ W = 7 ∨ W = 8 := by omega
  have h2 : w = 0 ∨ w = 1 ∨ w = 2 ∨ w = 3 ∨ w = 4 ∨ w = 5 ∨ w = 6 ∨ w = 7 := by omega
  rcases h1 with rfl | rfl | rfl | rfl | rfl | rfl | rfl | rfl <;> rcases h2 with rfl | rfl | rfl | rfl | rfl | rfl | rfl | rfl <;> first | decide | omega
/-- who stands by what is told, stands no more than who is not of the set -/
theorem bit_st {W w : Nat} {set : Int32} (hW : W ≤ 8) (hw : w < W) : (¬ ((nI 1 <<< (nI W &&& 31) - nI 1) &&& (set ^^^ -1)) >>> (nI w &&& 31) &&& nI 1 = nI 1) = (set >>> (nI w &&& 31) &&& nI 1 = nI 1) := by
  rw [bit_iff (by omega), bit_iff (by omega)]
  have e : ((nI 1 <<< (nI W &&& 31) - nI 1) &&& (set ^^^ -1)).toBitVec.getLsbD w = ((nI 1 <<< (nI W &&& 31) - nI 1).toBitVec.getLsbD w && (set.toBitVec.getLsbD w ^^ (-1 : Int32).toBitVec.getLsbD w)) := by
    show ((nI 1 <<< (nI W &&& 31) - nI 1).toBitVec &&& (set.toBitVec ^^^ (-1 : Int32).toBitVec)).getLsbD w = _
    rw [BitVec.getLsbD_and, BitVec.getLsbD_xor]
  have m1 : (-1 : Int32).toBitVec.getLsbD w = true := by
    have h2 : w = 0 ∨ w = 1 ∨ w = 2 ∨ w = 3 ∨ w = 4 ∨ w = 5 ∨ w = 6 ∨ w = 7 := by omega
    rcases h2 with rfl | rfl | rfl | rfl | rfl | rfl | rfl | rfl <;> decide
  rw [e, bit_all hW hw, m1]
  cases set.toBitVec.getLsbD w <;> simp
