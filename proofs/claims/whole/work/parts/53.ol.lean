section OL
/-- a long by its number -/
def oL (z : Int) : Int64 := Int64.ofInt z
theorem oL_add (a b : Int) : oL a + oL b = oL (a + b) := (Int64.ofInt_add a b).symm
theorem oL_mul (a b : Int) : oL a * oL b = oL (a * b) := (Int64.ofInt_mul a b).symm
theorem oL_neg (a : Int) : -oL a = oL (-a) := (Int64.ofInt_neg a).symm
theorem oL_sub (a b : Int) : oL a - oL b = oL (a - b) := by rw [Int64.sub_eq_add_neg, oL_neg, oL_add]; rfl
theorem oL_n (n : Nat) : lN n = oL n := ofI_n n
theorem oL_ti {z : Int} (h : fl_Z z) : (oL z).toInt = z := Int64.toInt_ofInt_of_le h.1 h.2
theorem oL_le {a b : Int} (ha : fl_Z a) (hb : fl_Z b) : oL a ≤ oL b ↔ a ≤ b := by rw [Int64.le_iff_toInt_le, oL_ti ha, oL_ti hb]
theorem oL_lt {a b : Int} (ha : fl_Z a) (hb : fl_Z b) : oL a < oL b ↔ a < b := by rw [Int64.lt_iff_toInt_lt, oL_ti ha, oL_ti hb]
theorem oL_eq {a b : Int} (ha : fl_Z a) (hb : fl_Z b) : oL a = oL b ↔ a = b := by rw [← Int64.toInt_inj, oL_ti ha, oL_ti hb]
theorem oL_div {a b : Int} (h0 : 0 ≤ a) (ha : fl_Z a) (h1 : 0 < b) (hb : fl_Z b) : oL a / oL b = oL (a / b) := by
  apply Int64.toInt_inj.mp
  have h2 : a / b ≤ a := Int.ediv_le_self b h0
  have h3 : 0 ≤ a / b := Int.ediv_nonneg h0 (Int.le_of_lt h1)
  have hf : fl_Z (a / b) := ⟨by unfold fl_Z at ha; omega, by unfold fl_Z at ha; omega⟩
  rw [Int64.toInt_div, oL_ti ha, oL_ti hb, oL_ti hf, Int.tdiv_eq_ediv_of_nonneg h0]
  generalize a / b = c at *
  unfold fl_Z at hf
  apply Int.bmod_eq_of_le <;> omega
theorem oL_m (z : Int) : oL z = lN (z % 18446744073709551616).toNat := by
  have h1 : 0 ≤ z % 18446744073709551616 := Int.emod_nonneg _ (by decide)
  rw [oL_n, Int.toNat_of_nonneg h1]
  apply Int64.toBitVec_inj.mp
  show BitVec.ofInt 64 z = BitVec.ofInt 64 _
  apply BitVec.eq_of_toInt_eq
  rw [BitVec.toInt_ofInt, BitVec.toInt_ofInt]
  exact (Int.emod_bmod z 18446744073709551616).symm
theorem oL_ms (z : Int) : oL z &&& (4294967295 : Int64) = lN (z % 4294967296).toNat := by
  rw [oL_m, ms_k (by omega)]
  congr 1
  omega
theorem oL_sr {z : Int} (h : fl_Z z) : oL z >>> ((32 : Int32).toInt64 &&& 63) = oL (z / 4294967296) := by
  apply Int64.toInt_inj.mp
  have hf : fl_Z (z / 4294967296) := by unfold fl_Z at *; omega
  rw [oL_ti hf]
  show ((oL z >>> ((32 : Int32).toInt64 &&& 63)).toBitVec).toInt = _
  rw [Int64.toBitVec_shiftRight]
  have e1 : (((32 : Int32).toInt64 &&& 63).toBitVec.smod 64) = 32#64 := by decide
  rw [e1]
  show ((oL z).toBitVec.sshiftRight 32).toInt = _
  rw [BitVec.toInt_sshiftRight]
  show (oL z).toInt >>> 32 = _
  rw [oL_ti h, Int.shiftRight_eq_div_pow]
  rfl
theorem oL_ab {z : Int} (h : -9223372036854775808 < z ∧ z < 9223372036854775808) : (if 0 < oL z then oL z else -oL z) = oL (if 0 < z then z else -z) := by
  have hz : (0 < oL z) ↔ 0 < z := by
    rw [show (0 : Int64) = oL 0 from rfl]
    exact oL_lt ⟨by decide, by decide⟩ ⟨by omega, by omega⟩
  by_cases h1 : 0 < z
  · rw [if_pos (hz.mpr h1), if_pos h1]
  · rw [if_neg (fun y => h1 (hz.mp y)), if_neg h1, oL_neg]
end OL
