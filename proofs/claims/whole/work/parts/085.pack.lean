/-! PACKED WORDS of the reference. -/
theorem sh8c : (((8 : Int32).toInt64 &&& 63).toBitVec.smod 64) = 8#64 := by decide +kernel
theorem shl8 (a : Nat) : shlL (nJ a) 8 = nJ (a * 256) := by
  apply Int64.toBitVec_inj.1
  show (BitVec.ofNat 64 a) <<< (((8 : Int32).toInt64 &&& 63).toBitVec.smod 64) = BitVec.ofNat 64 (a * 256)
  rw [sh8c]
  apply BitVec.eq_of_toNat_eq
  simp [BitVec.toNat_shiftLeft, Nat.shiftLeft_eq]
theorem i64b : ∀ b, b < 256 → Int32.toInt64 (nI b) = nJ b := by decide +kernel
theorem or8 {a b : Nat} (h : b < 256) : nJ (a * 256) ||| nJ b = nJ (a * 256 + b) := by
  apply Int64.toBitVec_inj.1
  show BitVec.ofNat 64 (a * 256) ||| BitVec.ofNat 64 b = BitVec.ofNat 64 (a * 256 + b)
  apply BitVec.eq_of_getLsbD_eq
  intro i hi
  have e1 : (a * 256 + b).testBit i = ((a * 256).testBit i || b.testBit i) := by
    rw [Nat.mul_comm a 256, show (256 : Nat) = 2 ^ 8 from rfl, Nat.testBit_two_pow_mul_add _ h, Nat.testBit_two_pow_mul]
    by_cases q : i < 8
    · rw [if_pos q, decide_eq_false (by omega)]; rfl
    · have hb : b.testBit i = false := Nat.testBit_lt_two_pow (Nat.lt_of_lt_of_le h (by rw [show (256 : Nat) = 2 ^ 8 from rfl]; exact Nat.pow_le_pow_right (by decide) (by omega)))
      rw [if_neg q, decide_eq_true (by omega), hb, Bool.true_and, Bool.or_false]
  rw [BitVec.getLsbD_or, BitVec.getLsbD_ofNat, BitVec.getLsbD_ofNat, BitVec.getLsbD_ofNat, e1]
  cases (a * 256).testBit i <;> cases b.testBit i <;> simp [hi]
def pkN (B : Nat → Nat) (s : Nat) : Nat → Nat
  | 0 => 0
  | k + 1 => if 8 ≤ k then 0 else pkN B s k * 256 + B (s + k)
theorem pk_nat {B : Nat → Nat} {s : Nat} : ∀ k, (∀ i, i < k → B (s + i) < 256) → pk8 B s k = nJ (pkN B s k)
  | 0, _ => rfl
  | k + 1, h => by
    rw [pk8, pkN]
    by_cases q : 8 ≤ k
    · rw [if_pos q, if_pos q]; rfl
    · rw [if_neg q, if_neg q, pk_nat k (fun i hi => h i (by omega)), shl8, i64b _ (h k (by omega)), or8 (h k (by omega))]
theorem pkN_lt {B : Nat → Nat} {s : Nat} : ∀ k, (∀ i, i < k → B (s + i) < 256) → pkN B s k < 256 ^ k
  | 0, _ => by rw [pkN]; exact Nat.pow_pos (by decide)
  | k + 1, h => by
    have ih := pkN_lt (B := B) (s := s) k (fun i hi => h i (by omega))
    have hb := h k (by omega)
    have hp : 0 < 256 ^ k := Nat.pow_pos (by decide)
    rw [pkN, Nat.pow_succ]
    split <;> omega
