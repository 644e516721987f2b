/-! bits of an int that is a set of small numbers -/
theorem i32_nat {k : Nat} (h : k < 2147483648) : (Int32.ofInt (k : Int)).toBitVec.toNat = k := by
  rw [Int32.ofInt_eq_ofNat]
  show k % 2 ^ 32 = k
  omega
theorem i32_of {x : Int32} {k : Nat} (h : x.toBitVec.toNat = k) (hk : k < 2147483648) : x.toInt = (k : Int) := by
  rw [← Int32.toInt_toBitVec, BitVec.toInt_eq_toNat_of_lt (by rw [h]; omega), h]
theorem n_and_lt {a b : Nat} (ha : a < 2147483648) : a &&& b < 2147483648 := Nat.lt_of_le_of_lt Nat.and_le_left ha
theorem n_or_lt {a b : Nat} (ha : a < 2147483648) (hb : b < 2147483648) : a ||| b < 2147483648 := by
  have h : a ||| b < 2 ^ 31 := Nat.or_lt_two_pow (by omega) (by omega)
  omega
theorem m_and {a b : Nat} (ha : a < 2147483648) (hb : b < 2147483648) : (Int32.ofInt (a : Int) &&& Int32.ofInt (b : Int)).toInt = ((a &&& b : Nat) : Int) :=
  i32_of (by rw [Int32.toBitVec_and, BitVec.toNat_and, i32_nat ha, i32_nat hb]) (n_and_lt ha)
theorem m_or {a b : Nat} (ha : a < 2147483648) (hb : b < 2147483648) : (Int32.ofInt (a : Int) ||| Int32.ofInt (b : Int)).toInt = ((a ||| b : Nat) : Int) :=
  i32_of (by rw [Int32.toBitVec_or, BitVec.toNat_or, i32_nat ha, i32_nat hb]) (n_or_lt ha hb)
theorem m_shl1 {d : Int} (h1 : 0 ≤ d) (h2 : d < 31) : (Int32.ofInt 1 <<< (Int32.ofInt d &&& 31)).toInt = ((2 ^ d.toNat : Nat) : Int) := by
  have h : ∀ k, k < 31 → (Int32.ofInt 1 <<< (Int32.ofInt (k : Nat) &&& 31)).toInt = ((2 ^ k : Nat) : Int) := by decide +kernel
  have h3 := h d.toNat (by omega)
  rw [Int.toNat_of_nonneg h1] at h3
  exact h3
/-- the number of ones among the lowest nine bits -/
def popc (k : Nat) : Int := sumF (fun v => bI (k.testBit v.toNat)) 9 0
def bcE (i : Int) : Int := (Int32.ofInt (((Int32.ofInt (((Int32.ofInt (i - (Int32.ofInt (((Int32.ofInt i).toUInt32 >>> ((Int32.ofInt 1).toUInt32 &&& Int32.toUInt32 31)).toInt32.toInt) &&& Int32.ofInt 1431655765).toInt) &&& Int32.ofInt 858993459).toInt + (Int32.ofInt (((Int32.ofInt (i - (Int32.ofInt (((Int32.ofInt i).toUInt32 >>> ((Int32.ofInt 1).toUInt32 &&& Int32.toUInt32 31)).toInt32.toInt) &&& Int32.ofInt 1431655765).toInt)).toUInt32 >>> ((Int32.ofInt 2).toUInt32 &&& Int32.toUInt32 31)).toInt32.toInt) &&& Int32.ofInt 858993459).toInt) + ((Int32.ofInt ((Int32.ofInt (i - (Int32.ofInt (((Int32.ofInt i).toUInt32 >>> ((Int32.ofInt 1).toUInt32 &&& Int32.toUInt32 31)).toInt32.toInt) &&& Int32.ofInt 1431655765).toInt) &&& Int32.ofInt 858993459).toInt + (Int32.ofInt (((Int32.ofInt (i - (Int32.ofInt (((Int32.ofInt i).toUInt32 >>> ((Int32.ofInt 1).toUInt32 &&& Int32.toUInt32 31)).toInt32.toInt) &&& Int32.ofInt 1431655765).toInt)).toUInt32 >>> ((Int32.ofInt 2).toUInt32 &&& Int32.toUInt32 31)).toInt32.toInt) &&& Int32.ofInt 858993459).toInt)).toUInt32 >>> ((Int32.ofInt 4).toUInt32 &&& Int32.toUInt32 31)).toInt32.toInt) &&& Int32.ofInt 252645135).toInt + ((Int32.ofInt ((Int32.ofInt (((Int32.ofInt (i - (Int32.ofInt (((Int32.ofInt i).toUInt32 >>> ((Int32.ofInt 1).toUInt32 &&& Int32.toUInt32 31)).toInt32.toInt) &&& Int32.ofInt 1431655765).toInt) &&& Int32.ofInt 858993459).toInt + (Int32.ofInt (((Int32.ofInt (i - (Int32.ofInt (((Int32.ofInt i).toUInt32 >>> ((Int32.ofInt 1).toUInt32 &&& Int32.toUInt32 31)).toInt32.toInt) &&& Int32.ofInt 1431655765).toInt)).toUInt32 >>> ((Int32.ofInt 2).toUInt32 &&& Int32.toUInt32 31)).toInt32.toInt) &&& Int32.ofInt 858993459).toInt) + ((Int32.ofInt ((Int32.ofInt (i - (Int32.ofInt (((Int32.ofInt i).toUInt32 >>> ((Int32.ofInt 1).toUInt32 &&& Int32.toUInt32 31)).toInt32.toInt) &&& Int32.ofInt 1431655765).toInt) &&& Int32.ofInt 858993459).toInt + (Int32.ofInt (((Int32.ofInt (i - (Int32.ofInt (((Int32.ofInt i).toUInt32 >>> ((Int32.ofInt 1).toUInt32 &&& Int32.toUInt32 31)).toInt32.toInt) &&& Int32.ofInt 1431655765).toInt)).toUInt32 >>> ((Int32.ofInt 2).toUInt32 &&& Int32.toUInt32 31)).toInt32.toInt) &&& Int32.ofInt 858993459).toInt)).toUInt32 >>> ((Int32.ofInt 4).toUInt32 &&& Int32.toUInt32 31)).toInt32.toInt) &&& Int32.ofInt 252645135).toInt)).toUInt32 >>> ((Int32.ofInt 8).toUInt32 &&& Int32.toUInt32 31)).toInt32.toInt) + ((Int32.ofInt ((Int32.ofInt (((Int32.ofInt (i - (Int32.ofInt (((Int32.ofInt i).toUInt32 >>> ((Int32.ofInt 1).toUInt32 &&& Int32.toUInt32 31)).toInt32.toInt) &&& Int32.ofInt 1431655765).toInt) &&& Int32.ofInt 858993459).toInt + (Int32.ofInt (((Int32.ofInt (i - (Int32.ofInt (((Int32.ofInt i).toUInt32 >>> ((Int32.ofInt 1).toUInt32 &&& Int32.toUInt32 31)).toInt32.toInt) &&& Int32.ofInt 1431655765).toInt)).toUInt32 >>> ((Int32.ofInt 2).toUInt32 &&& Int32.toUInt32 31)).toInt32.toInt) &&& Int32.ofInt 858993459).toInt) + ((Int32.ofInt ((Int32.ofInt (i - (Int32.ofInt (((Int32.ofInt i).toUInt32 >>> ((Int32.ofInt 1).toUInt32 &&& Int32.toUInt32 31)).toInt32.toInt) &&& Int32.ofInt 1431655765).toInt) &&& Int32.ofInt 858993459).toInt + (Int32.ofInt (((Int32.ofInt (i - (Int32.ofInt (((Int32.ofInt i).toUInt32 >>> ((Int32.ofInt 1).toUInt32 &&& Int32.toUInt32 31)).toInt32.toInt) &&& Int32.ofInt 1431655765).toInt)).toUInt32 >>> ((Int32.ofInt 2).toUInt32 &&& Int32.toUInt32 31)).toInt32.toInt) &&& Int32.ofInt 858993459).toInt)).toUInt32 >>> ((Int32.ofInt 4).toUInt32 &&& Int32.toUInt32 31)).toInt32.toInt) &&& Int32.ofInt 252645135).toInt + ((Int32.ofInt ((Int32.ofInt (((Int32.ofInt (i - (Int32.ofInt (((Int32.ofInt i).toUInt32 >>> ((Int32.ofInt 1).toUInt32 &&& Int32.toUInt32 31)).toInt32.toInt) &&& Int32.ofInt 1431655765).toInt) &&& Int32.ofInt 858993459).toInt + (Int32.ofInt (((Int32.ofInt (i - (Int32.ofInt (((Int32.ofInt i).toUInt32 >>> ((Int32.ofInt 1).toUInt32 &&& Int32.toUInt32 31)).toInt32.toInt) &&& Int32.ofInt 1431655765).toInt)).toUInt32 >>> ((Int32.ofInt 2).toUInt32 &&& Int32.toUInt32 31)).toInt32.toInt) &&& Int32.ofInt 858993459).toInt) + ((Int32.ofInt ((Int32.ofInt (i - (Int32.ofInt (((Int32.ofInt i).toUInt32 >>> ((Int32.ofInt 1).toUInt32 &&& Int32.toUInt32 31)).toInt32.toInt) &&& Int32.ofInt 1431655765).toInt) &&& Int32.ofInt 858993459).toInt + (Int32.ofInt (((Int32.ofInt (i - (Int32.ofInt (((Int32.ofInt i).toUInt32 >>> ((Int32.ofInt 1).toUInt32 &&& Int32.toUInt32 31)).toInt32.toInt) &&& Int32.ofInt 1431655765).toInt)).toUInt32 >>> ((Int32.ofInt 2).toUInt32 &&& Int32.toUInt32 31)).toInt32.toInt) &&& Int32.ofInt 858993459).toInt)).toUInt32 >>> ((Int32.ofInt 4).toUInt32 &&& Int32.toUInt32 31)).toInt32.toInt) &&& Int32.ofInt 252645135).toInt)).toUInt32 >>> ((Int32.ofInt 8).toUInt32 &&& Int32.toUInt32 31)).toInt32.toInt)).toUInt32 >>> ((Int32.ofInt 16).toUInt32 &&& Int32.toUInt32 31)).toInt32.toInt) &&& Int32.ofInt 63).toInt
theorem bc_pop : ∀ k, k < 512 → bcE (k : Nat) = popc k := by decide +kernel
set_option maxHeartbeats 4000000 in
set_option maxRecDepth 100000 in
theorem k_bc {X : Nat × Nat × (Nat → Int32)} {n : Int} {T : Int → Int} {h : HS} {t : TS} {x : XS} {M : MS} {i : Int} : m_Run X 42 [.inl i] (mW (n, T, h, t, x) M) (m_V (bcE i) (mW (n, T, h, t, x) M)) := by
  show m_Sem X 42 (0, [some (.inl i)], [], mW (n, T, h, t, x) M, 0, 0) _
  refine m_run 41 (ps' := (52, [some (.inl (((Int32.ofInt (((Int32.ofInt (i - (Int32.ofInt (((Int32.ofInt i).toUInt32 >>> ((Int32.ofInt 1).toUInt32 &&& Int32.toUInt32 31)).toInt32.toInt) &&& Int32.ofInt 1431655765).toInt) &&& Int32.ofInt 858993459).toInt + (Int32.ofInt (((Int32.ofInt (i - (Int32.ofInt (((Int32.ofInt i).toUInt32 >>> ((Int32.ofInt 1).toUInt32 &&& Int32.toUInt32 31)).toInt32.toInt) &&& Int32.ofInt 1431655765).toInt)).toUInt32 >>> ((Int32.ofInt 2).toUInt32 &&& Int32.toUInt32 31)).toInt32.toInt) &&& Int32.ofInt 858993459).toInt) + ((Int32.ofInt ((Int32.ofInt (i - (Int32.ofInt (((Int32.ofInt i).toUInt32 >>> ((Int32.ofInt 1).toUInt32 &&& Int32.toUInt32 31)).toInt32.toInt) &&& Int32.ofInt 1431655765).toInt) &&& Int32.ofInt 858993459).toInt + (Int32.ofInt (((Int32.ofInt (i - (Int32.ofInt (((Int32.ofInt i).toUInt32 >>> ((Int32.ofInt 1).toUInt32 &&& Int32.toUInt32 31)).toInt32.toInt) &&& Int32.ofInt 1431655765).toInt)).toUInt32 >>> ((Int32.ofInt 2).toUInt32 &&& Int32.toUInt32 31)).toInt32.toInt) &&& Int32.ofInt 858993459).toInt)).toUInt32 >>> ((Int32.ofInt 4).toUInt32 &&& Int32.toUInt32 31)).toInt32.toInt) &&& Int32.ofInt 252645135).toInt + ((Int32.ofInt ((Int32.ofInt (((Int32.ofInt (i - (Int32.ofInt (((Int32.ofInt i).toUInt32 >>> ((Int32.ofInt 1).toUInt32 &&& Int32.toUInt32 31)).toInt32.toInt) &&& Int32.ofInt 1431655765).toInt) &&& Int32.ofInt 858993459).toInt + (Int32.ofInt (((Int32.ofInt (i - (Int32.ofInt (((Int32.ofInt i).toUInt32 >>> ((Int32.ofInt 1).toUInt32 &&& Int32.toUInt32 31)).toInt32.toInt) &&& Int32.ofInt 1431655765).toInt)).toUInt32 >>> ((Int32.ofInt 2).toUInt32 &&& Int32.toUInt32 31)).toInt32.toInt) &&& Int32.ofInt 858993459).toInt) + ((Int32.ofInt ((Int32.ofInt (i - (Int32.ofInt (((Int32.ofInt i).toUInt32 >>> ((Int32.ofInt 1).toUInt32 &&& Int32.toUInt32 31)).toInt32.toInt) &&& Int32.ofInt 1431655765).toInt) &&& Int32.ofInt 858993459).toInt + (Int32.ofInt (((Int32.ofInt (i - (Int32.ofInt (((Int32.ofInt i).toUInt32 >>> ((Int32.ofInt 1).toUInt32 &&& Int32.toUInt32 31)).toInt32.toInt) &&& Int32.ofInt 1431655765).toInt)).toUInt32 >>> ((Int32.ofInt 2).toUInt32 &&& Int32.toUInt32 31)).toInt32.toInt) &&& Int32.ofInt 858993459).toInt)).toUInt32 >>> ((Int32.ofInt 4).toUInt32 &&& Int32.toUInt32 31)).toInt32.toInt) &&& Int32.ofInt 252645135).toInt)).toUInt32 >>> ((Int32.ofInt 8).toUInt32 &&& Int32.toUInt32 31)).toInt32.toInt) + ((Int32.ofInt ((Int32.ofInt (((Int32.ofInt (i - (Int32.ofInt (((Int32.ofInt i).toUInt32 >>> ((Int32.ofInt 1).toUInt32 &&& Int32.toUInt32 31)).toInt32.toInt) &&& Int32.ofInt 1431655765).toInt) &&& Int32.ofInt 858993459).toInt + (Int32.ofInt (((Int32.ofInt (i - (Int32.ofInt (((Int32.ofInt i).toUInt32 >>> ((Int32.ofInt 1).toUInt32 &&& Int32.toUInt32 31)).toInt32.toInt) &&& Int32.ofInt 1431655765).toInt)).toUInt32 >>> ((Int32.ofInt 2).toUInt32 &&& Int32.toUInt32 31)).toInt32.toInt) &&& Int32.ofInt 858993459).toInt) + ((Int32.ofInt ((Int32.ofInt (i - (Int32.ofInt (((Int32.ofInt i).toUInt32 >>> ((Int32.ofInt 1).toUInt32 &&& Int32.toUInt32 31)).toInt32.toInt) &&& Int32.ofInt 1431655765).toInt) &&& Int32.ofInt 858993459).toInt + (Int32.ofInt (((Int32.ofInt (i - (Int32.ofInt (((Int32.ofInt i).toUInt32 >>> ((Int32.ofInt 1).toUInt32 &&& Int32.toUInt32 31)).toInt32.toInt) &&& Int32.ofInt 1431655765).toInt)).toUInt32 >>> ((Int32.ofInt 2).toUInt32 &&& Int32.toUInt32 31)).toInt32.toInt) &&& Int32.ofInt 858993459).toInt)).toUInt32 >>> ((Int32.ofInt 4).toUInt32 &&& Int32.toUInt32 31)).toInt32.toInt) &&& Int32.ofInt 252645135).toInt + ((Int32.ofInt ((Int32.ofInt (((Int32.ofInt (i - (Int32.ofInt (((Int32.ofInt i).toUInt32 >>> ((Int32.ofInt 1).toUInt32 &&& Int32.toUInt32 31)).toInt32.toInt) &&& Int32.ofInt 1431655765).toInt) &&& Int32.ofInt 858993459).toInt + (Int32.ofInt (((Int32.ofInt (i - (Int32.ofInt (((Int32.ofInt i).toUInt32 >>> ((Int32.ofInt 1).toUInt32 &&& Int32.toUInt32 31)).toInt32.toInt) &&& Int32.ofInt 1431655765).toInt)).toUInt32 >>> ((Int32.ofInt 2).toUInt32 &&& Int32.toUInt32 31)).toInt32.toInt) &&& Int32.ofInt 858993459).toInt) + ((Int32.ofInt ((Int32.ofInt (i - (Int32.ofInt (((Int32.ofInt i).toUInt32 >>> ((Int32.ofInt 1).toUInt32 &&& Int32.toUInt32 31)).toInt32.toInt) &&& Int32.ofInt 1431655765).toInt) &&& Int32.ofInt 858993459).toInt + (Int32.ofInt (((Int32.ofInt (i - (Int32.ofInt (((Int32.ofInt i).toUInt32 >>> ((Int32.ofInt 1).toUInt32 &&& Int32.toUInt32 31)).toInt32.toInt) &&& Int32.ofInt 1431655765).toInt)).toUInt32 >>> ((Int32.ofInt 2).toUInt32 &&& Int32.toUInt32 31)).toInt32.toInt) &&& Int32.ofInt 858993459).toInt)).toUInt32 >>> ((Int32.ofInt 4).toUInt32 &&& Int32.toUInt32 31)).toInt32.toInt) &&& Int32.ofInt 252645135).toInt)).toUInt32 >>> ((Int32.ofInt 8).toUInt32 &&& Int32.toUInt32 31)).toInt32.toInt)).toUInt32 >>> ((Int32.ofInt 16).toUInt32 &&& Int32.toUInt32 31)).toInt32.toInt))], [.inl ((Int32.ofInt (((Int32.ofInt (((Int32.ofInt (i - (Int32.ofInt (((Int32.ofInt i).toUInt32 >>> ((Int32.ofInt 1).toUInt32 &&& Int32.toUInt32 31)).toInt32.toInt) &&& Int32.ofInt 1431655765).toInt) &&& Int32.ofInt 858993459).toInt + (Int32.ofInt (((Int32.ofInt (i - (Int32.ofInt (((Int32.ofInt i).toUInt32 >>> ((Int32.ofInt 1).toUInt32 &&& Int32.toUInt32 31)).toInt32.toInt) &&& Int32.ofInt 1431655765).toInt)).toUInt32 >>> ((Int32.ofInt 2).toUInt32 &&& Int32.toUInt32 31)).toInt32.toInt) &&& Int32.ofInt 858993459).toInt) + ((Int32.ofInt ((Int32.ofInt (i - (Int32.ofInt (((Int32.ofInt i).toUInt32 >>> ((Int32.ofInt 1).toUInt32 &&& Int32.toUInt32 31)).toInt32.toInt) &&& Int32.ofInt 1431655765).toInt) &&& Int32.ofInt 858993459).toInt + (Int32.ofInt (((Int32.ofInt (i - (Int32.ofInt (((Int32.ofInt i).toUInt32 >>> ((Int32.ofInt 1).toUInt32 &&& Int32.toUInt32 31)).toInt32.toInt) &&& Int32.ofInt 1431655765).toInt)).toUInt32 >>> ((Int32.ofInt 2).toUInt32 &&& Int32.toUInt32 31)).toInt32.toInt) &&& Int32.ofInt 858993459).toInt)).toUInt32 >>> ((Int32.ofInt 4).toUInt32 &&& Int32.toUInt32 31)).toInt32.toInt) &&& Int32.ofInt 252645135).toInt + ((Int32.ofInt ((Int32.ofInt (((Int32.ofInt (i - (Int32.ofInt (((Int32.ofInt i).toUInt32 >>> ((Int32.ofInt 1).toUInt32 &&& Int32.toUInt32 31)).toInt32.toInt) &&& Int32.ofInt 1431655765).toInt) &&& Int32.ofInt 858993459).toInt + (Int32.ofInt (((Int32.ofInt (i - (Int32.ofInt (((Int32.ofInt i).toUInt32 >>> ((Int32.ofInt 1).toUInt32 &&& Int32.toUInt32 31)).toInt32.toInt) &&& Int32.ofInt 1431655765).toInt)).toUInt32 >>> ((Int32.ofInt 2).toUInt32 &&& Int32.toUInt32 31)).toInt32.toInt) &&& Int32.ofInt 858993459).toInt) + ((Int32.ofInt ((Int32.ofInt (i - (Int32.ofInt (((Int32.ofInt i).toUInt32 >>> ((Int32.ofInt 1).toUInt32 &&& Int32.toUInt32 31)).toInt32.toInt) &&& Int32.ofInt 1431655765).toInt) &&& Int32.ofInt 858993459).toInt + (Int32.ofInt (((Int32.ofInt (i - (Int32.ofInt (((Int32.ofInt i).toUInt32 >>> ((Int32.ofInt 1).toUInt32 &&& Int32.toUInt32 31)).toInt32.toInt) &&& Int32.ofInt 1431655765).toInt)).toUInt32 >>> ((Int32.ofInt 2).toUInt32 &&& Int32.toUInt32 31)).toInt32.toInt) &&& Int32.ofInt 858993459).toInt)).toUInt32 >>> ((Int32.ofInt 4).toUInt32 &&& Int32.toUInt32 31)).toInt32.toInt) &&& Int32.ofInt 252645135).toInt)).toUInt32 >>> ((Int32.ofInt 8).toUInt32 &&& Int32.toUInt32 31)).toInt32.toInt) + ((Int32.ofInt ((Int32.ofInt (((Int32.ofInt (i - (Int32.ofInt (((Int32.ofInt i).toUInt32 >>> ((Int32.ofInt 1).toUInt32 &&& Int32.toUInt32 31)).toInt32.toInt) &&& Int32.ofInt 1431655765).toInt) &&& Int32.ofInt 858993459).toInt + (Int32.ofInt (((Int32.ofInt (i - (Int32.ofInt (((Int32.ofInt i).toUInt32 >>> ((Int32.ofInt 1).toUInt32 &&& Int32.toUInt32 31)).toInt32.toInt) &&& Int32.ofInt 1431655765).toInt)).toUInt32 >>> ((Int32.ofInt 2).toUInt32 &&& Int32.toUInt32 31)).toInt32.toInt) &&& Int32.ofInt 858993459).toInt) + ((Int32.ofInt ((Int32.ofInt (i - (Int32.ofInt (((Int32.ofInt i).toUInt32 >>> ((Int32.ofInt 1).toUInt32 &&& Int32.toUInt32 31)).toInt32.toInt) &&& Int32.ofInt 1431655765).toInt) &&& Int32.ofInt 858993459).toInt + (Int32.ofInt (((Int32.ofInt (i - (Int32.ofInt (((Int32.ofInt i).toUInt32 >>> ((Int32.ofInt 1).toUInt32 &&& Int32.toUInt32 31)).toInt32.toInt) &&& Int32.ofInt 1431655765).toInt)).toUInt32 >>> ((Int32.ofInt 2).toUInt32 &&& Int32.toUInt32 31)).toInt32.toInt) &&& Int32.ofInt 858993459).toInt)).toUInt32 >>> ((Int32.ofInt 4).toUInt32 &&& Int32.toUInt32 31)).toInt32.toInt) &&& Int32.ofInt 252645135).toInt + ((Int32.ofInt ((Int32.ofInt (((Int32.ofInt (i - (Int32.ofInt (((Int32.ofInt i).toUInt32 >>> ((Int32.ofInt 1).toUInt32 &&& Int32.toUInt32 31)).toInt32.toInt) &&& Int32.ofInt 1431655765).toInt) &&& Int32.ofInt 858993459).toInt + (Int32.ofInt (((Int32.ofInt (i - (Int32.ofInt (((Int32.ofInt i).toUInt32 >>> ((Int32.ofInt 1).toUInt32 &&& Int32.toUInt32 31)).toInt32.toInt) &&& Int32.ofInt 1431655765).toInt)).toUInt32 >>> ((Int32.ofInt 2).toUInt32 &&& Int32.toUInt32 31)).toInt32.toInt) &&& Int32.ofInt 858993459).toInt) + ((Int32.ofInt ((Int32.ofInt (i - (Int32.ofInt (((Int32.ofInt i).toUInt32 >>> ((Int32.ofInt 1).toUInt32 &&& Int32.toUInt32 31)).toInt32.toInt) &&& Int32.ofInt 1431655765).toInt) &&& Int32.ofInt 858993459).toInt + (Int32.ofInt (((Int32.ofInt (i - (Int32.ofInt (((Int32.ofInt i).toUInt32 >>> ((Int32.ofInt 1).toUInt32 &&& Int32.toUInt32 31)).toInt32.toInt) &&& Int32.ofInt 1431655765).toInt)).toUInt32 >>> ((Int32.ofInt 2).toUInt32 &&& Int32.toUInt32 31)).toInt32.toInt) &&& Int32.ofInt 858993459).toInt)).toUInt32 >>> ((Int32.ofInt 4).toUInt32 &&& Int32.toUInt32 31)).toInt32.toInt) &&& Int32.ofInt 252645135).toInt)).toUInt32 >>> ((Int32.ofInt 8).toUInt32 &&& Int32.toUInt32 31)).toInt32.toInt)).toUInt32 >>> ((Int32.ofInt 16).toUInt32 &&& Int32.toUInt32 31)).toInt32.toInt) &&& Int32.ofInt 63).toInt)], mW (n, T, h, t, x) M, 0, 0)) rfl ?_
  exact m_ret1 rfl (Or.inl rfl) rfl (m_Vi rfl)
/-- numbers that come just once: s those seen, e those seen again -/
def onceK (f : Int → Int) : Nat → Int → Nat → Nat → Int
  | 0, _, s, e => popc (s &&& (e ^^^ 4294967295))
  | k + 1, i, s, e => onceK f k (i + 1) (s ||| 2 ^ (f i).toNat) (e ||| (s &&& 2 ^ (f i).toNat))
theorem once_end (f : Int → Int) (n : Int) (s e : Nat) : onceK f (n - n).toNat n s e = popc (s &&& (e ^^^ 4294967295)) := by rw [nat_end]; rfl
theorem once_step {f : Int → Int} {n i : Int} {s e : Nat} (h : i < n) : onceK f (n - i).toNat i s e = onceK f (n - (i + 1)).toNat (i + 1) (s ||| 2 ^ (f i).toNat) (e ||| (s &&& 2 ^ (f i).toNat)) := by rw [nat_step h]; rfl
def difF (n : Int) (tb : Int → Int → Int) (r : Bool) (a b : Int) : Int → Int := fun x => difS n (sideS tb r a x) (sideS tb r b x)
def onceS (n : Int) (tb : Int → Int → Int) (r : Bool) (a b : Int) : Int := onceK (difF n tb r a b) n.toNat 0 0 0
theorem pow9 {d : Int} (h1 : 0 ≤ d) (h2 : d < 9) : 2 ^ d.toNat < 512 := by
  have h : ∀ k, k < 9 → 2 ^ k < 512 := by decide
  exact h d.toNat (by omega)
theorem or9 {a b : Nat} (ha : a < 512) (hb : b < 512) : a ||| b < 512 := Nat.or_lt_two_pow (n := 9) ha hb
theorem and9 {a b : Nat} (ha : a < 512) : a &&& b < 512 := Nat.lt_of_le_of_lt Nat.and_le_left ha
theorem popc_in (k : Nat) : 0 ≤ popc k ∧ popc k ≤ 9 := by
  have h := sum_bound (f := fun v => bI (k.testBit v.toNat)) (B := 1) 9 0 (fun j _ _ => by cases k.testBit j.toNat <;> decide)
  exact ⟨h.1, by have h2 : popc k ≤ ((9 : Nat) : Int) * 1 := h.2; omega⟩
theorem onceK_in (f : Int → Int) : ∀ (k : Nat) (i : Int) (s e : Nat), 0 ≤ onceK f k i s e ∧ onceK f k i s e ≤ 9
  | 0, _, s, e => popc_in _
  | k + 1, i, s, e => onceK_in f k (i + 1) _ _
theorem onceS_in (n : Int) (tb : Int → Int → Int) (r : Bool) (a b : Int) : 0 ≤ onceS n tb r a b ∧ onceS n tb r a b ≤ 9 := onceK_in _ _ _ _ _
theorem and_not9 {s e : Nat} (hs : s < 512) (he : e < 512) : (Int32.ofInt (s : Int) &&& Int32.ofInt (Int32.ofInt (e : Int) ^^^ Int32.ofInt (-1)).toInt).toInt = ((s &&& (e ^^^ 4294967295) : Nat) : Int) := by
  rw [Int32.ofInt_toInt]
  refine i32_of ?_ (n_and_lt (by omega))
  rw [Int32.toBitVec_and, BitVec.toNat_and, Int32.toBitVec_xor, BitVec.toNat_xor, i32_nat (by omega), i32_nat (by omega)]
  rfl
set_option maxHeartbeats 4000000 in
set_option maxRecDepth 100000 in
theorem l_once {X : Nat × Nat × (Nat → Int32)} {n : Int} {T : Int → Int} {h : HS} {t : TS} {x : XS} {M : MS} {tb : Int → Int → Int} {a b : Int} {r : Bool} {v : Int} (hR : repC n T tb) (ha : 0 ≤ a) (ha2 : a < n) (hb : 0 ≤ b) (hb2 : b < n) : ∀ i : Int, 0 ≤ i → i ≤ n → ∀ (s : Nat) (e : Nat) (hs : s < 512) (he : e < 512) (hu : onceK (difF n tb r a b) (n - i).toNat i s e = v), m_Sem X 9 (9, [some (.inr (.inl 2)), some (.inl a), some (.inl b), some (.inl (bI r)), some (.inl (s : Int)), some (.inl (e : Int)), some (.inl i), none], [], mW (n, T, h, t, x) M, 0, 0) (m_V v (mW (n, T, h, t, x) M)) := by
  have hn := hR.1
  have hl := okN_lo hn
  refine m_down 0 n ?_ ?_
  · intro s e hs he hu
    show m_Sem X 9 (9, [some (.inr (.inl 2)), some (.inl a), some (.inl b), some (.inl (bI r)), some (.inl (s : Int)), some (.inl (e : Int)), some (.inl n), none], [], mW (n, T, h, t, x) M, 0, 0) _
    refine m_run 3 (ps' := (15, [some (.inr (.inl 2)), some (.inl a), some (.inl b), some (.inl (bI r)), some (.inl (s : Int)), some (.inl (e : Int)), some (.inl n), none], [.inl n, .inl n], mW (n, T, h, t, x) M, 0, 0)) rfl ?_
    refine m_icmp rfl ⟨by omega, by omega⟩ ⟨by omega, by omega⟩ (fun (zc1 : n ≤ n) => ?_) (fun (zc1 : ¬ n ≤ n) => absurd zc1 (not_not_intro (by omega)))
    refine m_run 5 (ps' := (72, [some (.inr (.inl 2)), some (.inl a), some (.inl b), some (.inl (bI r)), some (.inl (s : Int)), some (.inl (e : Int)), some (.inl n), none], [.inl ((Int32.ofInt (s : Int) &&& Int32.ofInt ((Int32.ofInt (e : Int) ^^^ Int32.ofInt (-1)).toInt)).toInt)], mW (n, T, h, t, x) M, 0, 0)) rfl ?_
    refine m_callSF [.inl ((Int32.ofInt (s : Int) &&& Int32.ofInt ((Int32.ofInt (e : Int) ^^^ Int32.ofInt (-1)).toInt)).toInt)] [] rfl rfl rfl (k_bc (i := (Int32.ofInt (s : Int) &&& Int32.ofInt ((Int32.ofInt (e : Int) ^^^ Int32.ofInt (-1)).toInt)).toInt)) ?_
    show m_Sem X 9 (75, [some (.inr (.inl 2)), some (.inl a), some (.inl b), some (.inl (bI r)), some (.inl (s : Int)), some (.inl (e : Int)), some (.inl n), none], [.inl (bcE ((Int32.ofInt (s : Int) &&& Int32.ofInt ((Int32.ofInt (e : Int) ^^^ Int32.ofInt (-1)).toInt)).toInt))], mW (n, T, h, t, x) M, 0, 0) _
    exact m_ret1 rfl (Or.inl rfl) rfl (m_Vi (by rw [← hu, once_end, and_not9 hs he]; exact bc_pop _ (and9 hs)))
  · intro i hi1 hi2 ih s e hs he hu
    rw [once_step hi2] at hu
    refine m_run 3 (ps' := (15, [some (.inr (.inl 2)), some (.inl a), some (.inl b), some (.inl (bI r)), some (.inl (s : Int)), some (.inl (e : Int)), some (.inl i), none], [.inl n, .inl i], mW (n, T, h, t, x) M, 0, 0)) rfl ?_
    refine m_icmp rfl ⟨by omega, by omega⟩ ⟨by omega, by omega⟩ (fun (zc1 : n ≤ i) => absurd zc1 (by omega)) (fun (zc1 : ¬ n ≤ i) => ?_)
    refine m_run 6 (ps' := (25, [some (.inr (.inl 2)), some (.inl a), some (.inl b), some (.inl (bI r)), some (.inl (s : Int)), some (.inl (e : Int)), some (.inl i), none], [.inl (bI r), .inl i, .inl a, .inr (.inl 2), .inr (.inl 2), .inl 1], mW (n, T, h, t, x) M, 0, 0)) rfl ?_
    refine m_callVF [.inl a, .inl i, .inl (bI r)] [.inr (.inl 2), .inl 1] rfl rfl ⟨_, rfl, rfl⟩ rfl rfl (k_side (a := a) (b := i) (r := r) hR (by omega) (by omega) (by omega) (by omega)) ?_
    have zt1 := sideS_in hR (r := r) (a := a) (x := i) (by omega) (by omega) (by omega) (by omega)
    show m_Sem X 9 (28, [some (.inr (.inl 2)), some (.inl a), some (.inl b), some (.inl (bI r)), some (.inl (s : Int)), some (.inl (e : Int)), some (.inl i), none], [.inl (sideS tb r a i), .inr (.inl 2), .inl 1], mW (n, T, h, t, x) M, 0, 0) _
    refine m_run 4 (ps' := (33, [some (.inr (.inl 2)), some (.inl a), some (.inl b), some (.inl (bI r)), some (.inl (s : Int)), some (.inl (e : Int)), some (.inl i), none], [.inl (bI r), .inl i, .inl b, .inr (.inl 2), .inl (sideS tb r a i), .inr (.inl 2), .inl 1], mW (n, T, h, t, x) M, 0, 0)) rfl ?_
    refine m_callVF [.inl b, .inl i, .inl (bI r)] [.inl (sideS tb r a i), .inr (.inl 2), .inl 1] rfl rfl ⟨_, rfl, rfl⟩ rfl rfl (k_side (a := b) (b := i) (r := r) hR (by omega) (by omega) (by omega) (by omega)) ?_
    have zt2 := sideS_in hR (r := r) (a := b) (x := i) (by omega) (by omega) (by omega) (by omega)
    show m_Sem X 9 (36, [some (.inr (.inl 2)), some (.inl a), some (.inl b), some (.inl (bI r)), some (.inl (s : Int)), some (.inl (e : Int)), some (.inl i), none], [.inl (sideS tb r b i), .inl (sideS tb r a i), .inr (.inl 2), .inl 1], mW (n, T, h, t, x) M, 0, 0) _
    refine m_callVF [.inl (sideS tb r a i), .inl (sideS tb r b i)] [.inl 1] rfl rfl ⟨_, rfl, rfl⟩ rfl rfl (k_dif (a := (sideS tb r a i)) (b := (sideS tb r b i)) hn (by omega) (by omega) (by omega) (by omega)) ?_
    have zt3 := difS_in (n := n) (a := (sideS tb r a i)) (b := (sideS tb r b i)) hn (by omega) (by omega) (by omega) (by omega)
    show m_Sem X 9 (39, [some (.inr (.inl 2)), some (.inl a), some (.inl b), some (.inl (bI r)), some (.inl (s : Int)), some (.inl (e : Int)), some (.inl i), none], [.inl (difS n (sideS tb r a i) (sideS tb r b i)), .inl 1], mW (n, T, h, t, x) M, 0, 0) _
    refine m_run 14 (ps' := (9, [some (.inr (.inl 2)), some (.inl a), some (.inl b), some (.inl (bI r)), some (.inl ((Int32.ofInt (s : Int) ||| Int32.ofInt ((Int32.ofInt 1 <<< (Int32.ofInt (difS n (sideS tb r a i) (sideS tb r b i)) &&& 31)).toInt)).toInt)), some (.inl ((Int32.ofInt (e : Int) ||| Int32.ofInt ((Int32.ofInt (s : Int) &&& Int32.ofInt ((Int32.ofInt 1 <<< (Int32.ofInt (difS n (sideS tb r a i) (sideS tb r b i)) &&& 31)).toInt)).toInt)).toInt)), some (.inl (i + 1)), some (.inl ((Int32.ofInt 1 <<< (Int32.ofInt (difS n (sideS tb r a i) (sideS tb r b i)) &&& 31)).toInt))], [], mW (n, T, h, t, x) M, 0, 0)) rfl ?_
    refine m_weak [some (.inr (.inl 2)), some (.inl a), some (.inl b), some (.inl (bI r)), some (.inl ((Int32.ofInt (s : Int) ||| Int32.ofInt ((Int32.ofInt 1 <<< (Int32.ofInt (difS n (sideS tb r a i) (sideS tb r b i)) &&& 31)).toInt)).toInt)), some (.inl ((Int32.ofInt (e : Int) ||| Int32.ofInt ((Int32.ofInt (s : Int) &&& Int32.ofInt ((Int32.ofInt 1 <<< (Int32.ofInt (difS n (sideS tb r a i) (sideS tb r b i)) &&& 31)).toInt)).toInt)).toInt)), some (.inl (i + 1)), none] ⟨rfl, ⟨rfl, ⟨rfl, ⟨rfl, ⟨rfl, ⟨rfl, ⟨rfl, trivial⟩⟩⟩⟩⟩⟩⟩ ?_
    have hd1 : 0 ≤ difS n (sideS tb r a i) (sideS tb r b i) ∧ difS n (sideS tb r a i) (sideS tb r b i) < 9 := by omega
    have hw := pow9 hd1.1 hd1.2
    rw [m_shl1 hd1.1 (by omega), m_and (by omega) (by omega), m_or (by omega) (by omega), m_or (by omega) (n_and_lt (by omega))]
    exact ih _ _ (or9 hs hw) (or9 he (and9 hs)) hu
set_option maxHeartbeats 4000000 in
set_option maxRecDepth 100000 in
theorem k_once {X : Nat × Nat × (Nat → Int32)} {n : Int} {T : Int → Int} {h : HS} {t : TS} {x : XS} {M : MS} {tb : Int → Int → Int} {a b : Int} {r : Bool} (hR : repC n T tb) (ha : 0 ≤ a) (ha2 : a < n) (hb : 0 ≤ b) (hb2 : b < n) : m_Run X 9 [.inr (.inl 2), .inl a, .inl b, .inl (bI r)] (mW (n, T, h, t, x) M) (m_V (onceS n tb r a b) (mW (n, T, h, t, x) M)) := by
  have hn := hR.1
  have hl := okN_lo hn
  show m_Sem X 9 (0, [some (.inr (.inl 2)), some (.inl a), some (.inl b), some (.inl (bI r)), none, none, none, none], [], mW (n, T, h, t, x) M, 0, 0) _
  refine m_run 6 (ps' := (9, [some (.inr (.inl 2)), some (.inl a), some (.inl b), some (.inl (bI r)), some (.inl 0), some (.inl 0), some (.inl 0), none], [], mW (n, T, h, t, x) M, 0, 0)) rfl ?_
  refine m_weak [some (.inr (.inl 2)), some (.inl a), some (.inl b), some (.inl (bI r)), some (.inl 0), some (.inl 0), some (.inl 0), none] ⟨rfl, ⟨rfl, ⟨rfl, ⟨rfl, ⟨rfl, ⟨rfl, ⟨rfl, trivial⟩⟩⟩⟩⟩⟩⟩ ?_
  exact l_once (v := onceS n tb r a b) hR ha ha2 hb hb2 0 (by omega) (by omega) 0 0 (by omega) (by omega) (by rw [z_sub]; rfl)
def holdsS (n : Int) (tb : Int → Int → Int) (law a b c : Int) : Bool :=
  if law = 0 then decide (tb 0 a = 0) && decide (tb a 0 = 0)
  else if law = 1 then decide (tb 1 a = a) && decide (tb a 1 = a)
  else if law = 2 then decide (tb a (sumS n b c) = sumS n (tb a b) (tb a c))
  else if law = 3 then decide (tb (sumS n a b) c = sumS n (tb a c) (tb b c))
  else if law = 4 then decide (tb (tb a b) c = tb a (tb b c))
  else if law = 5 then decide (tb a b = tb b a)
  else decide (a = b) || decide (onceS n tb (decide (law = 6)) a b = n)
theorem m_Vb {b : Bool} {a : Int} {w : mPW} (h : a = bI b) : m_V (bI b) w (some (.inl a)) w := ⟨by rw [h], rfl⟩
theorem b1 {b : Bool} (h : b = true) : 1 = bI b := by rw [h]; rfl
theorem b0 {b : Bool} (h : b = false) : 0 = bI b := by rw [h]; rfl
set_option maxHeartbeats 4000000 in
set_option maxRecDepth 100000 in
theorem k_holds {X : Nat × Nat × (Nat → Int32)} {n : Int} {T : Int → Int} {h : HS} {t : TS} {x : XS} {M : MS} {tb : Int → Int → Int} {law a b c : Int} (hR : repC n T tb) (hw : 0 ≤ law) (hw2 : law < 8) (ha : 0 ≤ a) (ha2 : a < n) (hb : 0 ≤ b) (hb2 : b < n) (hc : 0 ≤ c) (hc2 : c < n) : m_Run X 6 [.inr (.inl 2), .inl law, .inl a, .inl b, .inl c] (mW (n, T, h, t, x) M) (m_V (bI (holdsS n tb law a b c)) (mW (n, T, h, t, x) M)) := by
  have hn := hR.1
  have hl := okN_lo hn
  show m_Sem X 6 (0, [some (.inr (.inl 2)), some (.inl law), some (.inl a), some (.inl b), some (.inl c)], [], mW (n, T, h, t, x) M, 0, 0) _
  refine m_run 1 (ps' := (1, [some (.inr (.inl 2)), some (.inl law), some (.inl a), some (.inl b), some (.inl c)], [.inl law], mW (n, T, h, t, x) M, 0, 0)) rfl ?_
  rcases (show law = 0 ∨ law = 1 ∨ law = 2 ∨ law = 3 ∨ law = 4 ∨ law = 5 ∨ 5 < law by omega) with rfl | rfl | rfl | rfl | rfl | rfl | zs1
  · refine m_tabIn (tgt := 40) rfl ⟨by decide, by decide⟩ (by decide) (by decide) rfl rfl ?_
    refine m_run 3 (ps' := (43, [some (.inr (.inl 2)), some (.inl 0), some (.inl a), some (.inl b), some (.inl c)], [.inl a, .inl 0, .inr (.inl 2)], mW (n, T, h, t, x) M, 0, 0)) rfl ?_
    refine m_callVF [.inl 0, .inl a] [] rfl rfl ⟨_, rfl, rfl⟩ rfl rfl (k_times (a := 0) (b := a) hR (by omega) (by omega) (by omega) (by omega)) ?_
    have zt1 := (hR.2 0 a (by omega) (by omega) (by omega) (by omega)).2
    show m_Sem X 6 (46, [some (.inr (.inl 2)), some (.inl 0), some (.inl a), some (.inl b), some (.inl c)], [.inl (tb 0 a)], mW (n, T, h, t, x) M, 0, 0) _
    refine m_if rfl ⟨by omega, by omega⟩ (fun (zc1 : ¬ (tb 0 a) = 0) => ?_) (fun (zc1 : ¬ ¬ (tb 0 a) = 0) => ?_)
    · refine m_run 1 (ps' := (63, [some (.inr (.inl 2)), some (.inl 0), some (.inl a), some (.inl b), some (.inl c)], [.inl 0], mW (n, T, h, t, x) M, 0, 0)) rfl ?_
      exact m_ret1 rfl (Or.inr ⟨rfl, Or.inl rfl⟩) rfl (m_Vb (b0 (by unfold holdsS; simp [*])))
    · replace zc1 : (tb 0 a) = 0 := Decidable.not_not.mp zc1
      refine m_run 3 (ps' := (52, [some (.inr (.inl 2)), some (.inl 0), some (.inl a), some (.inl b), some (.inl c)], [.inl 0, .inl a, .inr (.inl 2)], mW (n, T, h, t, x) M, 0, 0)) rfl ?_
      refine m_callVF [.inl a, .inl 0] [] rfl rfl ⟨_, rfl, rfl⟩ rfl rfl (k_times (a := a) (b := 0) hR (by omega) (by omega) (by omega) (by omega)) ?_
      have zt2 := (hR.2 a 0 (by omega) (by omega) (by omega) (by omega)).2
      show m_Sem X 6 (55, [some (.inr (.inl 2)), some (.inl 0), some (.inl a), some (.inl b), some (.inl c)], [.inl (tb a 0)], mW (n, T, h, t, x) M, 0, 0) _
      refine m_if rfl ⟨by omega, by omega⟩ (fun (zc2 : ¬ (tb a 0) = 0) => ?_) (fun (zc2 : ¬ ¬ (tb a 0) = 0) => ?_)
      · refine m_run 1 (ps' := (63, [some (.inr (.inl 2)), some (.inl 0), some (.inl a), some (.inl b), some (.inl c)], [.inl 0], mW (n, T, h, t, x) M, 0, 0)) rfl ?_
        exact m_ret1 rfl (Or.inr ⟨rfl, Or.inl rfl⟩) rfl (m_Vb (b0 (by unfold holdsS; simp [*])))
      · replace zc2 : (tb a 0) = 0 := Decidable.not_not.mp zc2
        refine m_run 2 (ps' := (63, [some (.inr (.inl 2)), some (.inl 0), some (.inl a), some (.inl b), some (.inl c)], [.inl 1], mW (n, T, h, t, x) M, 0, 0)) rfl ?_
        exact m_ret1 rfl (Or.inr ⟨rfl, Or.inr rfl⟩) rfl (m_Vb (b1 (by unfold holdsS; simp [*])))
  · refine m_tabIn (tgt := 64) rfl ⟨by decide, by decide⟩ (by decide) (by decide) rfl rfl ?_
    refine m_run 3 (ps' := (67, [some (.inr (.inl 2)), some (.inl 1), some (.inl a), some (.inl b), some (.inl c)], [.inl a, .inl 1, .inr (.inl 2)], mW (n, T, h, t, x) M, 0, 0)) rfl ?_
    refine m_callVF [.inl 1, .inl a] [] rfl rfl ⟨_, rfl, rfl⟩ rfl rfl (k_times (a := 1) (b := a) hR (by omega) (by omega) (by omega) (by omega)) ?_
    have zt1 := (hR.2 1 a (by omega) (by omega) (by omega) (by omega)).2
    show m_Sem X 6 (70, [some (.inr (.inl 2)), some (.inl 1), some (.inl a), some (.inl b), some (.inl c)], [.inl (tb 1 a)], mW (n, T, h, t, x) M, 0, 0) _
    refine m_run 1 (ps' := (71, [some (.inr (.inl 2)), some (.inl 1), some (.inl a), some (.inl b), some (.inl c)], [.inl a, .inl (tb 1 a)], mW (n, T, h, t, x) M, 0, 0)) rfl ?_
    refine m_icmp rfl ⟨by omega, by omega⟩ ⟨by omega, by omega⟩ (fun (zc1 : ¬ (tb 1 a) = a) => ?_) (fun (zc1 : ¬ ¬ (tb 1 a) = a) => ?_)
    · refine m_run 1 (ps' := (89, [some (.inr (.inl 2)), some (.inl 1), some (.inl a), some (.inl b), some (.inl c)], [.inl 0], mW (n, T, h, t, x) M, 0, 0)) rfl ?_
      exact m_ret1 rfl (Or.inr ⟨rfl, Or.inl rfl⟩) rfl (m_Vb (b0 (by unfold holdsS; simp [*])))
    · replace zc1 : (tb 1 a) = a := Decidable.not_not.mp zc1
      refine m_run 3 (ps' := (77, [some (.inr (.inl 2)), some (.inl 1), some (.inl a), some (.inl b), some (.inl c)], [.inl 1, .inl a, .inr (.inl 2)], mW (n, T, h, t, x) M, 0, 0)) rfl ?_
      refine m_callVF [.inl a, .inl 1] [] rfl rfl ⟨_, rfl, rfl⟩ rfl rfl (k_times (a := a) (b := 1) hR (by omega) (by omega) (by omega) (by omega)) ?_
      have zt2 := (hR.2 a 1 (by omega) (by omega) (by omega) (by omega)).2
      show m_Sem X 6 (80, [some (.inr (.inl 2)), some (.inl 1), some (.inl a), some (.inl b), some (.inl c)], [.inl (tb a 1)], mW (n, T, h, t, x) M, 0, 0) _
      refine m_run 1 (ps' := (81, [some (.inr (.inl 2)), some (.inl 1), some (.inl a), some (.inl b), some (.inl c)], [.inl a, .inl (tb a 1)], mW (n, T, h, t, x) M, 0, 0)) rfl ?_
      refine m_icmp rfl ⟨by omega, by omega⟩ ⟨by omega, by omega⟩ (fun (zc2 : ¬ (tb a 1) = a) => ?_) (fun (zc2 : ¬ ¬ (tb a 1) = a) => ?_)
      · refine m_run 1 (ps' := (89, [some (.inr (.inl 2)), some (.inl 1), some (.inl a), some (.inl b), some (.inl c)], [.inl 0], mW (n, T, h, t, x) M, 0, 0)) rfl ?_
        exact m_ret1 rfl (Or.inr ⟨rfl, Or.inl rfl⟩) rfl (m_Vb (b0 (by unfold holdsS; simp [*])))
      · replace zc2 : (tb a 1) = a := Decidable.not_not.mp zc2
        refine m_run 2 (ps' := (89, [some (.inr (.inl 2)), some (.inl 1), some (.inl a), some (.inl b), some (.inl c)], [.inl 1], mW (n, T, h, t, x) M, 0, 0)) rfl ?_
        exact m_ret1 rfl (Or.inr ⟨rfl, Or.inr rfl⟩) rfl (m_Vb (b1 (by unfold holdsS; simp [*])))
  · refine m_tabIn (tgt := 90) rfl ⟨by decide, by decide⟩ (by decide) (by decide) rfl rfl ?_
    refine m_run 5 (ps' := (96, [some (.inr (.inl 2)), some (.inl 2), some (.inl a), some (.inl b), some (.inl c)], [.inl c, .inl b, .inr (.inl 2), .inl a, .inr (.inl 2)], mW (n, T, h, t, x) M, 0, 0)) rfl ?_
    refine m_callVF [.inl b, .inl c] [.inl a, .inr (.inl 2)] rfl rfl ⟨_, rfl, rfl⟩ rfl rfl (k_sum (a := b) (b := c) hn (by omega) (by omega) (by omega) (by omega)) ?_
    have zt1 := sumS_in (n := n) (a := b) (b := c) hn (by omega) (by omega) (by omega) (by omega)
    show m_Sem X 6 (99, [some (.inr (.inl 2)), some (.inl 2), some (.inl a), some (.inl b), some (.inl c)], [.inl (sumS n b c), .inl a, .inr (.inl 2)], mW (n, T, h, t, x) M, 0, 0) _
    refine m_callVF [.inl a, .inl (sumS n b c)] [] rfl rfl ⟨_, rfl, rfl⟩ rfl rfl (k_times (a := a) (b := (sumS n b c)) hR (by omega) (by omega) (by omega) (by omega)) ?_
    have zt2 := (hR.2 a (sumS n b c) (by omega) (by omega) (by omega) (by omega)).2
    show m_Sem X 6 (102, [some (.inr (.inl 2)), some (.inl 2), some (.inl a), some (.inl b), some (.inl c)], [.inl (tb a (sumS n b c))], mW (n, T, h, t, x) M, 0, 0) _
    refine m_run 4 (ps' := (106, [some (.inr (.inl 2)), some (.inl 2), some (.inl a), some (.inl b), some (.inl c)], [.inl b, .inl a, .inr (.inl 2), .inr (.inl 2), .inl (tb a (sumS n b c))], mW (n, T, h, t, x) M, 0, 0)) rfl ?_
    refine m_callVF [.inl a, .inl b] [.inr (.inl 2), .inl (tb a (sumS n b c))] rfl rfl ⟨_, rfl, rfl⟩ rfl rfl (k_times (a := a) (b := b) hR (by omega) (by omega) (by omega) (by omega)) ?_
    have zt3 := (hR.2 a b (by omega) (by omega) (by omega) (by omega)).2
    show m_Sem X 6 (109, [some (.inr (.inl 2)), some (.inl 2), some (.inl a), some (.inl b), some (.inl c)], [.inl (tb a b), .inr (.inl 2), .inl (tb a (sumS n b c))], mW (n, T, h, t, x) M, 0, 0) _
    refine m_run 3 (ps' := (113, [some (.inr (.inl 2)), some (.inl 2), some (.inl a), some (.inl b), some (.inl c)], [.inl c, .inl a, .inr (.inl 2), .inl (tb a b), .inr (.inl 2), .inl (tb a (sumS n b c))], mW (n, T, h, t, x) M, 0, 0)) rfl ?_
    refine m_callVF [.inl a, .inl c] [.inl (tb a b), .inr (.inl 2), .inl (tb a (sumS n b c))] rfl rfl ⟨_, rfl, rfl⟩ rfl rfl (k_times (a := a) (b := c) hR (by omega) (by omega) (by omega) (by omega)) ?_
    have zt4 := (hR.2 a c (by omega) (by omega) (by omega) (by omega)).2
    show m_Sem X 6 (116, [some (.inr (.inl 2)), some (.inl 2), some (.inl a), some (.inl b), some (.inl c)], [.inl (tb a c), .inl (tb a b), .inr (.inl 2), .inl (tb a (sumS n b c))], mW (n, T, h, t, x) M, 0, 0) _
    refine m_callVF [.inl (tb a b), .inl (tb a c)] [.inl (tb a (sumS n b c))] rfl rfl ⟨_, rfl, rfl⟩ rfl rfl (k_sum (a := (tb a b)) (b := (tb a c)) hn (by omega) (by omega) (by omega) (by omega)) ?_
    have zt5 := sumS_in (n := n) (a := (tb a b)) (b := (tb a c)) hn (by omega) (by omega) (by omega) (by omega)
    show m_Sem X 6 (119, [some (.inr (.inl 2)), some (.inl 2), some (.inl a), some (.inl b), some (.inl c)], [.inl (sumS n (tb a b) (tb a c)), .inl (tb a (sumS n b c))], mW (n, T, h, t, x) M, 0, 0) _
    refine m_icmp rfl ⟨by omega, by omega⟩ ⟨by omega, by omega⟩ (fun (zc1 : ¬ (tb a (sumS n b c)) = (sumS n (tb a b) (tb a c))) => ?_) (fun (zc1 : ¬ ¬ (tb a (sumS n b c)) = (sumS n (tb a b) (tb a c))) => ?_)
    · refine m_run 1 (ps' := (127, [some (.inr (.inl 2)), some (.inl 2), some (.inl a), some (.inl b), some (.inl c)], [.inl 0], mW (n, T, h, t, x) M, 0, 0)) rfl ?_
      exact m_ret1 rfl (Or.inr ⟨rfl, Or.inl rfl⟩) rfl (m_Vb (b0 (by unfold holdsS; simp [*])))
    · replace zc1 : (tb a (sumS n b c)) = (sumS n (tb a b) (tb a c)) := Decidable.not_not.mp zc1
      refine m_run 2 (ps' := (127, [some (.inr (.inl 2)), some (.inl 2), some (.inl a), some (.inl b), some (.inl c)], [.inl 1], mW (n, T, h, t, x) M, 0, 0)) rfl ?_
      exact m_ret1 rfl (Or.inr ⟨rfl, Or.inr rfl⟩) rfl (m_Vb (b1 (by unfold holdsS; simp [*])))
  · refine m_tabIn (tgt := 128) rfl ⟨by decide, by decide⟩ (by decide) (by decide) rfl rfl ?_
    refine m_run 4 (ps' := (132, [some (.inr (.inl 2)), some (.inl 3), some (.inl a), some (.inl b), some (.inl c)], [.inl b, .inl a, .inr (.inl 2), .inr (.inl 2)], mW (n, T, h, t, x) M, 0, 0)) rfl ?_
    refine m_callVF [.inl a, .inl b] [.inr (.inl 2)] rfl rfl ⟨_, rfl, rfl⟩ rfl rfl (k_sum (a := a) (b := b) hn (by omega) (by omega) (by omega) (by omega)) ?_
    have zt1 := sumS_in (n := n) (a := a) (b := b) hn (by omega) (by omega) (by omega) (by omega)
    show m_Sem X 6 (135, [some (.inr (.inl 2)), some (.inl 3), some (.inl a), some (.inl b), some (.inl c)], [.inl (sumS n a b), .inr (.inl 2)], mW (n, T, h, t, x) M, 0, 0) _
    refine m_run 1 (ps' := (137, [some (.inr (.inl 2)), some (.inl 3), some (.inl a), some (.inl b), some (.inl c)], [.inl c, .inl (sumS n a b), .inr (.inl 2)], mW (n, T, h, t, x) M, 0, 0)) rfl ?_
    refine m_callVF [.inl (sumS n a b), .inl c] [] rfl rfl ⟨_, rfl, rfl⟩ rfl rfl (k_times (a := (sumS n a b)) (b := c) hR (by omega) (by omega) (by omega) (by omega)) ?_
    have zt2 := (hR.2 (sumS n a b) c (by omega) (by omega) (by omega) (by omega)).2
    show m_Sem X 6 (140, [some (.inr (.inl 2)), some (.inl 3), some (.inl a), some (.inl b), some (.inl c)], [.inl (tb (sumS n a b) c)], mW (n, T, h, t, x) M, 0, 0) _
    refine m_run 4 (ps' := (145, [some (.inr (.inl 2)), some (.inl 3), some (.inl a), some (.inl b), some (.inl c)], [.inl c, .inl a, .inr (.inl 2), .inr (.inl 2), .inl (tb (sumS n a b) c)], mW (n, T, h, t, x) M, 0, 0)) rfl ?_
    refine m_callVF [.inl a, .inl c] [.inr (.inl 2), .inl (tb (sumS n a b) c)] rfl rfl ⟨_, rfl, rfl⟩ rfl rfl (k_times (a := a) (b := c) hR (by omega) (by omega) (by omega) (by omega)) ?_
    have zt3 := (hR.2 a c (by omega) (by omega) (by omega) (by omega)).2
    show m_Sem X 6 (148, [some (.inr (.inl 2)), some (.inl 3), some (.inl a), some (.inl b), some (.inl c)], [.inl (tb a c), .inr (.inl 2), .inl (tb (sumS n a b) c)], mW (n, T, h, t, x) M, 0, 0) _
    refine m_run 3 (ps' := (152, [some (.inr (.inl 2)), some (.inl 3), some (.inl a), some (.inl b), some (.inl c)], [.inl c, .inl b, .inr (.inl 2), .inl (tb a c), .inr (.inl 2), .inl (tb (sumS n a b) c)], mW (n, T, h, t, x) M, 0, 0)) rfl ?_
    refine m_callVF [.inl b, .inl c] [.inl (tb a c), .inr (.inl 2), .inl (tb (sumS n a b) c)] rfl rfl ⟨_, rfl, rfl⟩ rfl rfl (k_times (a := b) (b := c) hR (by omega) (by omega) (by omega) (by omega)) ?_
    have zt4 := (hR.2 b c (by omega) (by omega) (by omega) (by omega)).2
    show m_Sem X 6 (155, [some (.inr (.inl 2)), some (.inl 3), some (.inl a), some (.inl b), some (.inl c)], [.inl (tb b c), .inl (tb a c), .inr (.inl 2), .inl (tb (sumS n a b) c)], mW (n, T, h, t, x) M, 0, 0) _
    refine m_callVF [.inl (tb a c), .inl (tb b c)] [.inl (tb (sumS n a b) c)] rfl rfl ⟨_, rfl, rfl⟩ rfl rfl (k_sum (a := (tb a c)) (b := (tb b c)) hn (by omega) (by omega) (by omega) (by omega)) ?_
    have zt5 := sumS_in (n := n) (a := (tb a c)) (b := (tb b c)) hn (by omega) (by omega) (by omega) (by omega)
    show m_Sem X 6 (158, [some (.inr (.inl 2)), some (.inl 3), some (.inl a), some (.inl b), some (.inl c)], [.inl (sumS n (tb a c) (tb b c)), .inl (tb (sumS n a b) c)], mW (n, T, h, t, x) M, 0, 0) _
    refine m_icmp rfl ⟨by omega, by omega⟩ ⟨by omega, by omega⟩ (fun (zc1 : ¬ (tb (sumS n a b) c) = (sumS n (tb a c) (tb b c))) => ?_) (fun (zc1 : ¬ ¬ (tb (sumS n a b) c) = (sumS n (tb a c) (tb b c))) => ?_)
    · refine m_run 1 (ps' := (166, [some (.inr (.inl 2)), some (.inl 3), some (.inl a), some (.inl b), some (.inl c)], [.inl 0], mW (n, T, h, t, x) M, 0, 0)) rfl ?_
      exact m_ret1 rfl (Or.inr ⟨rfl, Or.inl rfl⟩) rfl (m_Vb (b0 (by unfold holdsS; simp [*])))
    · replace zc1 : (tb (sumS n a b) c) = (sumS n (tb a c) (tb b c)) := Decidable.not_not.mp zc1
      refine m_run 2 (ps' := (166, [some (.inr (.inl 2)), some (.inl 3), some (.inl a), some (.inl b), some (.inl c)], [.inl 1], mW (n, T, h, t, x) M, 0, 0)) rfl ?_
      exact m_ret1 rfl (Or.inr ⟨rfl, Or.inr rfl⟩) rfl (m_Vb (b1 (by unfold holdsS; simp [*])))
  · refine m_tabIn (tgt := 167) rfl ⟨by decide, by decide⟩ (by decide) (by decide) rfl rfl ?_
    refine m_run 4 (ps' := (171, [some (.inr (.inl 2)), some (.inl 4), some (.inl a), some (.inl b), some (.inl c)], [.inl b, .inl a, .inr (.inl 2), .inr (.inl 2)], mW (n, T, h, t, x) M, 0, 0)) rfl ?_
    refine m_callVF [.inl a, .inl b] [.inr (.inl 2)] rfl rfl ⟨_, rfl, rfl⟩ rfl rfl (k_times (a := a) (b := b) hR (by omega) (by omega) (by omega) (by omega)) ?_
    have zt1 := (hR.2 a b (by omega) (by omega) (by omega) (by omega)).2
    show m_Sem X 6 (174, [some (.inr (.inl 2)), some (.inl 4), some (.inl a), some (.inl b), some (.inl c)], [.inl (tb a b), .inr (.inl 2)], mW (n, T, h, t, x) M, 0, 0) _
    refine m_run 1 (ps' := (176, [some (.inr (.inl 2)), some (.inl 4), some (.inl a), some (.inl b), some (.inl c)], [.inl c, .inl (tb a b), .inr (.inl 2)], mW (n, T, h, t, x) M, 0, 0)) rfl ?_
    refine m_callVF [.inl (tb a b), .inl c] [] rfl rfl ⟨_, rfl, rfl⟩ rfl rfl (k_times (a := (tb a b)) (b := c) hR (by omega) (by omega) (by omega) (by omega)) ?_
    have zt2 := (hR.2 (tb a b) c (by omega) (by omega) (by omega) (by omega)).2
    show m_Sem X 6 (179, [some (.inr (.inl 2)), some (.inl 4), some (.inl a), some (.inl b), some (.inl c)], [.inl (tb (tb a b) c)], mW (n, T, h, t, x) M, 0, 0) _
    refine m_run 5 (ps' := (185, [some (.inr (.inl 2)), some (.inl 4), some (.inl a), some (.inl b), some (.inl c)], [.inl c, .inl b, .inr (.inl 2), .inl a, .inr (.inl 2), .inl (tb (tb a b) c)], mW (n, T, h, t, x) M, 0, 0)) rfl ?_
    refine m_callVF [.inl b, .inl c] [.inl a, .inr (.inl 2), .inl (tb (tb a b) c)] rfl rfl ⟨_, rfl, rfl⟩ rfl rfl (k_times (a := b) (b := c) hR (by omega) (by omega) (by omega) (by omega)) ?_
    have zt3 := (hR.2 b c (by omega) (by omega) (by omega) (by omega)).2
    show m_Sem X 6 (188, [some (.inr (.inl 2)), some (.inl 4), some (.inl a), some (.inl b), some (.inl c)], [.inl (tb b c), .inl a, .inr (.inl 2), .inl (tb (tb a b) c)], mW (n, T, h, t, x) M, 0, 0) _
    refine m_callVF [.inl a, .inl (tb b c)] [.inl (tb (tb a b) c)] rfl rfl ⟨_, rfl, rfl⟩ rfl rfl (k_times (a := a) (b := (tb b c)) hR (by omega) (by omega) (by omega) (by omega)) ?_
    have zt4 := (hR.2 a (tb b c) (by omega) (by omega) (by omega) (by omega)).2
    show m_Sem X 6 (191, [some (.inr (.inl 2)), some (.inl 4), some (.inl a), some (.inl b), some (.inl c)], [.inl (tb a (tb b c)), .inl (tb (tb a b) c)], mW (n, T, h, t, x) M, 0, 0) _
    refine m_icmp rfl ⟨by omega, by omega⟩ ⟨by omega, by omega⟩ (fun (zc1 : ¬ (tb (tb a b) c) = (tb a (tb b c))) => ?_) (fun (zc1 : ¬ ¬ (tb (tb a b) c) = (tb a (tb b c))) => ?_)
    · refine m_run 1 (ps' := (199, [some (.inr (.inl 2)), some (.inl 4), some (.inl a), some (.inl b), some (.inl c)], [.inl 0], mW (n, T, h, t, x) M, 0, 0)) rfl ?_
      exact m_ret1 rfl (Or.inr ⟨rfl, Or.inl rfl⟩) rfl (m_Vb (b0 (by unfold holdsS; simp [*])))
    · replace zc1 : (tb (tb a b) c) = (tb a (tb b c)) := Decidable.not_not.mp zc1
      refine m_run 2 (ps' := (199, [some (.inr (.inl 2)), some (.inl 4), some (.inl a), some (.inl b), some (.inl c)], [.inl 1], mW (n, T, h, t, x) M, 0, 0)) rfl ?_
      exact m_ret1 rfl (Or.inr ⟨rfl, Or.inr rfl⟩) rfl (m_Vb (b1 (by unfold holdsS; simp [*])))
  · refine m_tabIn (tgt := 200) rfl ⟨by decide, by decide⟩ (by decide) (by decide) rfl rfl ?_
    refine m_run 3 (ps' := (203, [some (.inr (.inl 2)), some (.inl 5), some (.inl a), some (.inl b), some (.inl c)], [.inl b, .inl a, .inr (.inl 2)], mW (n, T, h, t, x) M, 0, 0)) rfl ?_
    refine m_callVF [.inl a, .inl b] [] rfl rfl ⟨_, rfl, rfl⟩ rfl rfl (k_times (a := a) (b := b) hR (by omega) (by omega) (by omega) (by omega)) ?_
    have zt1 := (hR.2 a b (by omega) (by omega) (by omega) (by omega)).2
    show m_Sem X 6 (206, [some (.inr (.inl 2)), some (.inl 5), some (.inl a), some (.inl b), some (.inl c)], [.inl (tb a b)], mW (n, T, h, t, x) M, 0, 0) _
    refine m_run 3 (ps' := (209, [some (.inr (.inl 2)), some (.inl 5), some (.inl a), some (.inl b), some (.inl c)], [.inl a, .inl b, .inr (.inl 2), .inl (tb a b)], mW (n, T, h, t, x) M, 0, 0)) rfl ?_
    refine m_callVF [.inl b, .inl a] [.inl (tb a b)] rfl rfl ⟨_, rfl, rfl⟩ rfl rfl (k_times (a := b) (b := a) hR (by omega) (by omega) (by omega) (by omega)) ?_
    have zt2 := (hR.2 b a (by omega) (by omega) (by omega) (by omega)).2
    show m_Sem X 6 (212, [some (.inr (.inl 2)), some (.inl 5), some (.inl a), some (.inl b), some (.inl c)], [.inl (tb b a), .inl (tb a b)], mW (n, T, h, t, x) M, 0, 0) _
    refine m_icmp rfl ⟨by omega, by omega⟩ ⟨by omega, by omega⟩ (fun (zc1 : ¬ (tb a b) = (tb b a)) => ?_) (fun (zc1 : ¬ ¬ (tb a b) = (tb b a)) => ?_)
    · refine m_run 1 (ps' := (220, [some (.inr (.inl 2)), some (.inl 5), some (.inl a), some (.inl b), some (.inl c)], [.inl 0], mW (n, T, h, t, x) M, 0, 0)) rfl ?_
      exact m_ret1 rfl (Or.inr ⟨rfl, Or.inl rfl⟩) rfl (m_Vb (b0 (by unfold holdsS; simp [*])))
    · replace zc1 : (tb a b) = (tb b a) := Decidable.not_not.mp zc1
      refine m_run 2 (ps' := (220, [some (.inr (.inl 2)), some (.inl 5), some (.inl a), some (.inl b), some (.inl c)], [.inl 1], mW (n, T, h, t, x) M, 0, 0)) rfl ?_
      exact m_ret1 rfl (Or.inr ⟨rfl, Or.inr rfl⟩) rfl (m_Vb (b1 (by unfold holdsS; simp [*])))
  · refine m_tabOut (tgt := 221) rfl ⟨by omega, by omega⟩ (Or.inr (by omega)) rfl ?_
    refine m_run 2 (ps' := (223, [some (.inr (.inl 2)), some (.inl law), some (.inl a), some (.inl b), some (.inl c)], [.inl b, .inl a], mW (n, T, h, t, x) M, 0, 0)) rfl ?_
    refine m_icmp rfl ⟨by omega, by omega⟩ ⟨by omega, by omega⟩ (fun (zc1 : a = b) => ?_) (fun (zc1 : ¬ a = b) => ?_)
    · refine m_run 2 (ps' := (255, [some (.inr (.inl 2)), some (.inl law), some (.inl a), some (.inl b), some (.inl c)], [.inl 1], mW (n, T, h, t, x) M, 0, 0)) rfl ?_
      exact m_ret1 rfl (Or.inr ⟨rfl, Or.inr rfl⟩) rfl (m_Vb (b1 (by unfold holdsS; simp only [show ¬ law = 0 by omega, show ¬ law = 1 by omega, show ¬ law = 2 by omega, show ¬ law = 3 by omega, show ¬ law = 4 by omega, show ¬ law = 5 by omega, if_false]; simp [*])))
    · refine m_run 5 (ps' := (232, [some (.inr (.inl 2)), some (.inl law), some (.inl a), some (.inl b), some (.inl c)], [.inl 6, .inl law, .inl b, .inl a, .inr (.inl 2)], mW (n, T, h, t, x) M, 0, 0)) rfl ?_
      refine m_icmp rfl ⟨by omega, by omega⟩ ⟨by omega, by omega⟩ (fun (zc2 : ¬ law = 6) => ?_) (fun (zc2 : ¬ ¬ law = 6) => ?_)
      · refine m_run 1 (ps' := (240, [some (.inr (.inl 2)), some (.inl law), some (.inl a), some (.inl b), some (.inl c)], [.inl 0, .inl b, .inl a, .inr (.inl 2)], mW (n, T, h, t, x) M, 0, 0)) rfl ?_
        refine m_callSF [.inr (.inl 2), .inl a, .inl b, .inl 0] [] rfl rfl rfl (k_once (a := a) (b := b) (r := false) hR (by omega) (by omega) (by omega) (by omega)) ?_
        have zt1 := onceS_in n tb false a b
        show m_Sem X 6 (243, [some (.inr (.inl 2)), some (.inl law), some (.inl a), some (.inl b), some (.inl c)], [.inl (onceS n tb false a b)], mW (n, T, h, t, x) M, 0, 0) _
        refine m_run 2 (ps' := (247, [some (.inr (.inl 2)), some (.inl law), some (.inl a), some (.inl b), some (.inl c)], [.inl n, .inl (onceS n tb false a b)], mW (n, T, h, t, x) M, 0, 0)) rfl ?_
        refine m_icmp rfl ⟨by omega, by omega⟩ ⟨by omega, by omega⟩ (fun (zc3 : ¬ (onceS n tb false a b) = n) => ?_) (fun (zc3 : ¬ ¬ (onceS n tb false a b) = n) => ?_)
        · refine m_run 1 (ps' := (255, [some (.inr (.inl 2)), some (.inl law), some (.inl a), some (.inl b), some (.inl c)], [.inl 0], mW (n, T, h, t, x) M, 0, 0)) rfl ?_
          exact m_ret1 rfl (Or.inr ⟨rfl, Or.inl rfl⟩) rfl (m_Vb (b0 (by unfold holdsS; simp only [show ¬ law = 0 by omega, show ¬ law = 1 by omega, show ¬ law = 2 by omega, show ¬ law = 3 by omega, show ¬ law = 4 by omega, show ¬ law = 5 by omega, if_false]; simp [*])))
        · replace zc3 : (onceS n tb false a b) = n := Decidable.not_not.mp zc3
          refine m_run 2 (ps' := (255, [some (.inr (.inl 2)), some (.inl law), some (.inl a), some (.inl b), some (.inl c)], [.inl 1], mW (n, T, h, t, x) M, 0, 0)) rfl ?_
          exact m_ret1 rfl (Or.inr ⟨rfl, Or.inr rfl⟩) rfl (m_Vb (b1 (by unfold holdsS; simp only [show ¬ law = 0 by omega, show ¬ law = 1 by omega, show ¬ law = 2 by omega, show ¬ law = 3 by omega, show ¬ law = 4 by omega, show ¬ law = 5 by omega, if_false]; simp [*])))
      · replace zc2 : law = 6 := Decidable.not_not.mp zc2
        refine m_run 2 (ps' := (240, [some (.inr (.inl 2)), some (.inl law), some (.inl a), some (.inl b), some (.inl c)], [.inl 1, .inl b, .inl a, .inr (.inl 2)], mW (n, T, h, t, x) M, 0, 0)) rfl ?_
        refine m_callSF [.inr (.inl 2), .inl a, .inl b, .inl 1] [] rfl rfl rfl (k_once (a := a) (b := b) (r := true) hR (by omega) (by omega) (by omega) (by omega)) ?_
        have zt1 := onceS_in n tb true a b
        show m_Sem X 6 (243, [some (.inr (.inl 2)), some (.inl law), some (.inl a), some (.inl b), some (.inl c)], [.inl (onceS n tb true a b)], mW (n, T, h, t, x) M, 0, 0) _
        refine m_run 2 (ps' := (247, [some (.inr (.inl 2)), some (.inl law), some (.inl a), some (.inl b), some (.inl c)], [.inl n, .inl (onceS n tb true a b)], mW (n, T, h, t, x) M, 0, 0)) rfl ?_
        refine m_icmp rfl ⟨by omega, by omega⟩ ⟨by omega, by omega⟩ (fun (zc3 : ¬ (onceS n tb true a b) = n) => ?_) (fun (zc3 : ¬ ¬ (onceS n tb true a b) = n) => ?_)
        · refine m_run 1 (ps' := (255, [some (.inr (.inl 2)), some (.inl law), some (.inl a), some (.inl b), some (.inl c)], [.inl 0], mW (n, T, h, t, x) M, 0, 0)) rfl ?_
          exact m_ret1 rfl (Or.inr ⟨rfl, Or.inl rfl⟩) rfl (m_Vb (b0 (by unfold holdsS; simp only [show ¬ law = 0 by omega, show ¬ law = 1 by omega, show ¬ law = 2 by omega, show ¬ law = 3 by omega, show ¬ law = 4 by omega, show ¬ law = 5 by omega, if_false]; simp [*])))
        · replace zc3 : (onceS n tb true a b) = n := Decidable.not_not.mp zc3
          refine m_run 2 (ps' := (255, [some (.inr (.inl 2)), some (.inl law), some (.inl a), some (.inl b), some (.inl c)], [.inl 1], mW (n, T, h, t, x) M, 0, 0)) rfl ?_
          exact m_ret1 rfl (Or.inr ⟨rfl, Or.inr rfl⟩) rfl (m_Vb (b1 (by unfold holdsS; simp only [show ¬ law = 0 by omega, show ¬ law = 1 by omega, show ¬ law = 2 by omega, show ¬ law = 3 by omega, show ¬ law = 4 by omega, show ¬ law = 5 by omega, if_false]; simp [*])))
/-- the first row (a, b, c) by which a law fails -/
def witC (n : Int) (tb : Int → Int → Int) (law lc a b : Int) : Int → Option (Int × Int × Int) := fun c => if holdsS n tb law a b c = true then none else some (a, b, c)
def witB (n : Int) (tb : Int → Int → Int) (law lc a : Int) : Int → Option (Int × Int × Int) := fun b => optF (witC n tb law lc a b) lc.toNat 0
def witA (n : Int) (tb : Int → Int → Int) (law lb lc : Int) : Int → Option (Int × Int × Int) := fun a => optF (witB n tb law lc a) lb.toNat 0
def lbS (n law : Int) : Int := if 1 < law then n else 1
def lcS (n law : Int) : Int := if 1 < law ∧ law < 5 then n else 1
def witS (n : Int) (tb : Int → Int → Int) (law : Int) : Option (Int × Int × Int) := optF (witA n tb law (lbS n law) (lcS n law)) n.toNat 0
def wcode : Option (Int × Int × Int) → Int
  | none => -1
  | some (a, b, c) => 81 * a + 9 * b + c
set_option maxHeartbeats 4000000 in
set_option maxRecDepth 100000 in
theorem l_witC {X : Nat × Nat × (Nat → Int32)} {n : Int} {T : Int → Int} {h : HS} {t : TS} {x : XS} {M : MS} {tb : Int → Int → Int} {law lb lc : Int} {Q : Option mPV → mPW → Prop} {o : Option (Int × Int × Int)} (hR : repC n T tb) (hw : 0 ≤ law) (hw2 : law < 8) (hlb : 1 ≤ lb) (hlb2 : lb ≤ n) (hlc : 1 ≤ lc) (hlc2 : lc ≤ n) {a b : Int} (ha : 0 ≤ a) (ha2 : a < n) (hb : 0 ≤ b) (hb2 : b < lb) (K : o = none → m_Sem X 4 (48, [some (.inr (.inl 2)), some (.inl law), some (.inl lb), some (.inl lc), some (.inl a), some (.inl (b + 1)), none], [], mW (n, T, h, t, x) M, 0, 0) Q) (R : o ≠ none → Q (some (.inl (wcode o))) (mW (n, T, h, t, x) M)) : ∀ c : Int, 0 ≤ c → c ≤ lc → ∀ (ho : optF (witC n tb law lc a b) (lc - c).toNat c = o), m_Sem X 4 (57, [some (.inr (.inl 2)), some (.inl law), some (.inl lb), some (.inl lc), some (.inl a), some (.inl b), some (.inl c)], [], mW (n, T, h, t, x) M, 0, 0) (Q) := by
  have hn := hR.1
  have hl := okN_lo hn
  refine m_down 0 lc ?_ ?_
  · intro ho
    rw [opt_end] at ho
    show m_Sem X 4 (57, [some (.inr (.inl 2)), some (.inl law), some (.inl lb), some (.inl lc), some (.inl a), some (.inl b), some (.inl lc)], [], mW (n, T, h, t, x) M, 0, 0) _
    refine m_run 2 (ps' := (60, [some (.inr (.inl 2)), some (.inl law), some (.inl lb), some (.inl lc), some (.inl a), some (.inl b), some (.inl lc)], [.inl lc, .inl lc], mW (n, T, h, t, x) M, 0, 0)) rfl ?_
    refine m_icmp rfl ⟨by omega, by omega⟩ ⟨by omega, by omega⟩ (fun (zc1 : lc ≤ lc) => ?_) (fun (zc1 : ¬ lc ≤ lc) => absurd zc1 (not_not_intro (by omega)))
    refine m_run 2 (ps' := (48, [some (.inr (.inl 2)), some (.inl law), some (.inl lb), some (.inl lc), some (.inl a), some (.inl (b + 1)), some (.inl lc)], [], mW (n, T, h, t, x) M, 0, 0)) rfl ?_
    refine m_weak [some (.inr (.inl 2)), some (.inl law), some (.inl lb), some (.inl lc), some (.inl a), some (.inl (b + 1)), none] ⟨rfl, ⟨rfl, ⟨rfl, ⟨rfl, ⟨rfl, ⟨rfl, trivial⟩⟩⟩⟩⟩⟩ ?_
    exact K ho.symm
  · intro c hi1 hi2 ih ho
    refine m_run 2 (ps' := (60, [some (.inr (.inl 2)), some (.inl law), some (.inl lb), some (.inl lc), some (.inl a), some (.inl b), some (.inl c)], [.inl lc, .inl c], mW (n, T, h, t, x) M, 0, 0)) rfl ?_
    refine m_icmp rfl ⟨by omega, by omega⟩ ⟨by omega, by omega⟩ (fun (zc1 : lc ≤ c) => absurd zc1 (by omega)) (fun (zc1 : ¬ lc ≤ c) => ?_)
    refine m_run 5 (ps' := (71, [some (.inr (.inl 2)), some (.inl law), some (.inl lb), some (.inl lc), some (.inl a), some (.inl b), some (.inl c)], [.inl c, .inl b, .inl a, .inl law, .inr (.inl 2)], mW (n, T, h, t, x) M, 0, 0)) rfl ?_
    refine m_callSF [.inr (.inl 2), .inl law, .inl a, .inl b, .inl c] [] rfl rfl rfl (k_holds (law := law) (a := a) (b := b) (c := c) hR (by omega) (by omega) (by omega) (by omega) (by omega) (by omega) (by omega) (by omega)) ?_
    show m_Sem X 4 (74, [some (.inr (.inl 2)), some (.inl law), some (.inl lb), some (.inl lc), some (.inl a), some (.inl b), some (.inl c)], [.inl (bI (holdsS n tb law a b c))], mW (n, T, h, t, x) M, 0, 0) _
    refine m_if rfl (bI_R (holdsS n tb law a b c)) (fun (zc2 : ¬ (bI (holdsS n tb law a b c)) = 0) => ?_) (fun (zc2 : ¬ ¬ (bI (holdsS n tb law a b c)) = 0) => ?_)
    · replace zc2 : (holdsS n tb law a b c) = true := bI_n0.mp zc2
      refine m_run 2 (ps' := (57, [some (.inr (.inl 2)), some (.inl law), some (.inl lb), some (.inl lc), some (.inl a), some (.inl b), some (.inl (c + 1))], [], mW (n, T, h, t, x) M, 0, 0)) rfl ?_
      refine m_weak [some (.inr (.inl 2)), some (.inl law), some (.inl lb), some (.inl lc), some (.inl a), some (.inl b), some (.inl (c + 1))] ⟨rfl, ⟨rfl, ⟨rfl, ⟨rfl, ⟨rfl, ⟨rfl, ⟨rfl, trivial⟩⟩⟩⟩⟩⟩⟩ ?_
      have hh : witC n tb law lc a b c = none := by unfold witC; rw [if_pos zc2]
      rw [opt_n hi2 hh] at ho
      exact ih ho
    · replace zc2 : (holdsS n tb law a b c) = false := bI_e0.mp (Decidable.not_not.mp zc2)
      refine m_run 9 (ps' := (91, [some (.inr (.inl 2)), some (.inl law), some (.inl lb), some (.inl lc), some (.inl a), some (.inl b), some (.inl c)], [.inl (((81 * a) + (9 * b)) + c)], mW (n, T, h, t, x) M, 0, 0)) rfl ?_
      exact m_ret1 rfl (Or.inl rfl) rfl (by
        have hh : witC n tb law lc a b c = some (a, b, c) := by unfold witC; rw [if_neg (by rw [zc2]; decide)]
        rw [opt_s hi2 hh] at ho
        subst ho
        exact R (fun h => by cases h))
set_option maxHeartbeats 4000000 in
set_option maxRecDepth 100000 in
theorem l_witB {X : Nat × Nat × (Nat → Int32)} {n : Int} {T : Int → Int} {h : HS} {t : TS} {x : XS} {M : MS} {tb : Int → Int → Int} {law lb lc : Int} {Q : Option mPV → mPW → Prop} {o : Option (Int × Int × Int)} (hR : repC n T tb) (hw : 0 ≤ law) (hw2 : law < 8) (hlb : 1 ≤ lb) (hlb2 : lb ≤ n) (hlc : 1 ≤ lc) (hlc2 : lc ≤ n) {a : Int} (ha : 0 ≤ a) (ha2 : a < n) (K : o = none → m_Sem X 4 (36, [some (.inr (.inl 2)), some (.inl law), some (.inl lb), some (.inl lc), some (.inl (a + 1)), none, none], [], mW (n, T, h, t, x) M, 0, 0) Q) (R : o ≠ none → Q (some (.inl (wcode o))) (mW (n, T, h, t, x) M)) : ∀ b : Int, 0 ≤ b → b ≤ lb → ∀ (ho : optF (witB n tb law lc a) (lb - b).toNat b = o), m_Sem X 4 (48, [some (.inr (.inl 2)), some (.inl law), some (.inl lb), some (.inl lc), some (.inl a), some (.inl b), none], [], mW (n, T, h, t, x) M, 0, 0) (Q) := by
  have hn := hR.1
  have hl := okN_lo hn
  refine m_down 0 lb ?_ ?_
  · intro ho
    rw [opt_end] at ho
    show m_Sem X 4 (48, [some (.inr (.inl 2)), some (.inl law), some (.inl lb), some (.inl lc), some (.inl a), some (.inl lb), none], [], mW (n, T, h, t, x) M, 0, 0) _
    refine m_run 2 (ps' := (51, [some (.inr (.inl 2)), some (.inl law), some (.inl lb), some (.inl lc), some (.inl a), some (.inl lb), none], [.inl lb, .inl lb], mW (n, T, h, t, x) M, 0, 0)) rfl ?_
    refine m_icmp rfl ⟨by omega, by omega⟩ ⟨by omega, by omega⟩ (fun (zc1 : lb ≤ lb) => ?_) (fun (zc1 : ¬ lb ≤ lb) => absurd zc1 (not_not_intro (by omega)))
    refine m_run 2 (ps' := (36, [some (.inr (.inl 2)), some (.inl law), some (.inl lb), some (.inl lc), some (.inl (a + 1)), some (.inl lb), none], [], mW (n, T, h, t, x) M, 0, 0)) rfl ?_
    refine m_weak [some (.inr (.inl 2)), some (.inl law), some (.inl lb), some (.inl lc), some (.inl (a + 1)), none, none] ⟨rfl, ⟨rfl, ⟨rfl, ⟨rfl, ⟨rfl, trivial⟩⟩⟩⟩⟩ ?_
    exact K ho.symm
  · intro b hi1 hi2 ih ho
    refine m_run 2 (ps' := (51, [some (.inr (.inl 2)), some (.inl law), some (.inl lb), some (.inl lc), some (.inl a), some (.inl b), none], [.inl lb, .inl b], mW (n, T, h, t, x) M, 0, 0)) rfl ?_
    refine m_icmp rfl ⟨by omega, by omega⟩ ⟨by omega, by omega⟩ (fun (zc1 : lb ≤ b) => absurd zc1 (by omega)) (fun (zc1 : ¬ lb ≤ b) => ?_)
    refine m_run 2 (ps' := (57, [some (.inr (.inl 2)), some (.inl law), some (.inl lb), some (.inl lc), some (.inl a), some (.inl b), some (.inl 0)], [], mW (n, T, h, t, x) M, 0, 0)) rfl ?_
    refine m_weak [some (.inr (.inl 2)), some (.inl law), some (.inl lb), some (.inl lc), some (.inl a), some (.inl b), some (.inl 0)] ⟨rfl, ⟨rfl, ⟨rfl, ⟨rfl, ⟨rfl, ⟨rfl, ⟨rfl, trivial⟩⟩⟩⟩⟩⟩⟩ ?_
    cases hh : witB n tb law lc a b with
    | none =>
      rw [opt_n hi2 hh] at ho
      exact l_witC (o := none) hR hw hw2 hlb hlb2 hlc hlc2 ha ha2 hi1 hi2 (fun _ => ih ho) (fun h => absurd rfl h) 0 (by omega) (by omega) (by rw [z_sub]; exact hh)
    | some w9 =>
      rw [opt_s hi2 hh] at ho
      subst ho
      exact l_witC (o := some w9) hR hw hw2 hlb hlb2 hlc hlc2 ha ha2 hi1 hi2 (fun h => by cases h) R 0 (by omega) (by omega) (by rw [z_sub]; exact hh)
set_option maxHeartbeats 4000000 in
set_option maxRecDepth 100000 in
theorem l_witA {X : Nat × Nat × (Nat → Int32)} {n : Int} {T : Int → Int} {h : HS} {t : TS} {x : XS} {M : MS} {tb : Int → Int → Int} {law lb lc : Int} {Q : Option mPV → mPW → Prop} {o : Option (Int × Int × Int)} (hR : repC n T tb) (hw : 0 ≤ law) (hw2 : law < 8) (hlb : 1 ≤ lb) (hlb2 : lb ≤ n) (hlc : 1 ≤ lc) (hlc2 : lc ≤ n) (R : Q (some (.inl (wcode o))) (mW (n, T, h, t, x) M)) : ∀ a : Int, 0 ≤ a → a ≤ n → ∀ (ho : optF (witA n tb law lb lc) (n - a).toNat a = o), m_Sem X 4 (36, [some (.inr (.inl 2)), some (.inl law), some (.inl lb), some (.inl lc), some (.inl a), none, none], [], mW (n, T, h, t, x) M, 0, 0) (Q) := by
  have hn := hR.1
  have hl := okN_lo hn
  refine m_down 0 n ?_ ?_
  · intro ho
    show m_Sem X 4 (36, [some (.inr (.inl 2)), some (.inl law), some (.inl lb), some (.inl lc), some (.inl n), none, none], [], mW (n, T, h, t, x) M, 0, 0) _
    refine m_run 3 (ps' := (42, [some (.inr (.inl 2)), some (.inl law), some (.inl lb), some (.inl lc), some (.inl n), none, none], [.inl n, .inl n], mW (n, T, h, t, x) M, 0, 0)) rfl ?_
    refine m_icmp rfl ⟨by omega, by omega⟩ ⟨by omega, by omega⟩ (fun (zc1 : n ≤ n) => ?_) (fun (zc1 : ¬ n ≤ n) => absurd zc1 (not_not_intro (by omega)))
    refine m_run 1 (ps' := (111, [some (.inr (.inl 2)), some (.inl law), some (.inl lb), some (.inl lc), some (.inl n), none, none], [.inl (-1)], mW (n, T, h, t, x) M, 0, 0)) rfl ?_
    exact m_ret1 rfl (Or.inl rfl) rfl (by rw [opt_end] at ho; subst ho; exact R)
  · intro a hi1 hi2 ih ho
    refine m_run 3 (ps' := (42, [some (.inr (.inl 2)), some (.inl law), some (.inl lb), some (.inl lc), some (.inl a), none, none], [.inl n, .inl a], mW (n, T, h, t, x) M, 0, 0)) rfl ?_
    refine m_icmp rfl ⟨by omega, by omega⟩ ⟨by omega, by omega⟩ (fun (zc1 : n ≤ a) => absurd zc1 (by omega)) (fun (zc1 : ¬ n ≤ a) => ?_)
    refine m_run 2 (ps' := (48, [some (.inr (.inl 2)), some (.inl law), some (.inl lb), some (.inl lc), some (.inl a), some (.inl 0), none], [], mW (n, T, h, t, x) M, 0, 0)) rfl ?_
    refine m_weak [some (.inr (.inl 2)), some (.inl law), some (.inl lb), some (.inl lc), some (.inl a), some (.inl 0), none] ⟨rfl, ⟨rfl, ⟨rfl, ⟨rfl, ⟨rfl, ⟨rfl, trivial⟩⟩⟩⟩⟩⟩ ?_
    cases hh : witA n tb law lb lc a with
    | none =>
      rw [opt_n hi2 hh] at ho
      exact l_witB (o := none) hR hw hw2 hlb hlb2 hlc hlc2 hi1 hi2 (fun _ => ih ho) (fun h => absurd rfl h) 0 (by omega) (by omega) (by rw [z_sub]; exact hh)
    | some w9 =>
      rw [opt_s hi2 hh] at ho
      subst ho
      exact l_witB (o := some w9) hR hw hw2 hlb hlb2 hlc hlc2 hi1 hi2 (fun h => by cases h) (fun _ => R) 0 (by omega) (by omega) (by rw [z_sub]; exact hh)
set_option maxHeartbeats 4000000 in
set_option maxRecDepth 100000 in
theorem k_wit {X : Nat × Nat × (Nat → Int32)} {n : Int} {T : Int → Int} {h : HS} {t : TS} {x : XS} {M : MS} {tb : Int → Int → Int} {law : Int} (hR : repC n T tb) (hw : 0 ≤ law) (hw2 : law < 8) : m_Run X 4 [.inr (.inl 2), .inl law] (mW (n, T, h, t, x) M) (m_V (wcode (witS n tb law)) (mW (n, T, h, t, x) M)) := by
  have hn := hR.1
  have hl := okN_lo hn
  show m_Sem X 4 (0, [some (.inr (.inl 2)), some (.inl law), none, none, none, none, none], [], mW (n, T, h, t, x) M, 0, 0) _
  refine m_run 2 (ps' := (2, [some (.inr (.inl 2)), some (.inl law), none, none, none, none, none], [.inl 1, .inl law], mW (n, T, h, t, x) M, 0, 0)) rfl ?_
  refine m_icmp rfl ⟨by omega, by omega⟩ ⟨by omega, by omega⟩ (fun (zc1 : law ≤ 1) => ?_) (fun (zc1 : ¬ law ≤ 1) => ?_)
  · refine m_run 4 (ps' := (16, [some (.inr (.inl 2)), some (.inl law), some (.inl 1), none, none, none, none], [.inl 1, .inl law], mW (n, T, h, t, x) M, 0, 0)) rfl ?_
    refine m_icmp rfl ⟨by omega, by omega⟩ ⟨by omega, by omega⟩ (fun (zc2 : law ≤ 1) => ?_) (fun (zc2 : ¬ law ≤ 1) => ?_)
    · refine m_run 4 (ps' := (36, [some (.inr (.inl 2)), some (.inl law), some (.inl 1), some (.inl 1), some (.inl 0), none, none], [], mW (n, T, h, t, x) M, 0, 0)) rfl ?_
      refine m_weak [some (.inr (.inl 2)), some (.inl law), some (.inl 1), some (.inl 1), some (.inl 0), none, none] ⟨rfl, ⟨rfl, ⟨rfl, ⟨rfl, ⟨rfl, trivial⟩⟩⟩⟩⟩ ?_
      exact l_witA (lb := 1) (lc := 1) (o := witS n tb law) hR hw hw2 (by omega) (by omega) (by omega) (by omega) ⟨rfl, rfl⟩ 0 (by omega) (by omega) (by rw [z_sub]; unfold witS lbS lcS; rw [if_neg (by omega), if_neg (by omega)])
    · refine m_run 2 (ps' := (21, [some (.inr (.inl 2)), some (.inl law), some (.inl 1), none, none, none, none], [.inl 5, .inl law], mW (n, T, h, t, x) M, 0, 0)) rfl ?_
      refine m_icmp rfl ⟨by omega, by omega⟩ ⟨by omega, by omega⟩ (fun (zc3 : 5 ≤ law) => ?_) (fun (zc3 : ¬ 5 ≤ law) => ?_)
      · refine m_run 4 (ps' := (36, [some (.inr (.inl 2)), some (.inl law), some (.inl 1), some (.inl 1), some (.inl 0), none, none], [], mW (n, T, h, t, x) M, 0, 0)) rfl ?_
        refine m_weak [some (.inr (.inl 2)), some (.inl law), some (.inl 1), some (.inl 1), some (.inl 0), none, none] ⟨rfl, ⟨rfl, ⟨rfl, ⟨rfl, ⟨rfl, trivial⟩⟩⟩⟩⟩ ?_
        exact l_witA (lb := 1) (lc := 1) (o := witS n tb law) hR hw hw2 (by omega) (by omega) (by omega) (by omega) ⟨rfl, rfl⟩ 0 (by omega) (by omega) (by rw [z_sub]; unfold witS lbS lcS; rw [if_neg (by omega), if_neg (by omega)])
      · refine m_run 6 (ps' := (36, [some (.inr (.inl 2)), some (.inl law), some (.inl 1), some (.inl n), some (.inl 0), none, none], [], mW (n, T, h, t, x) M, 0, 0)) rfl ?_
        refine m_weak [some (.inr (.inl 2)), some (.inl law), some (.inl 1), some (.inl n), some (.inl 0), none, none] ⟨rfl, ⟨rfl, ⟨rfl, ⟨rfl, ⟨rfl, trivial⟩⟩⟩⟩⟩ ?_
        exact l_witA (lb := 1) (lc := n) (o := witS n tb law) hR hw hw2 (by omega) (by omega) (by omega) (by omega) ⟨rfl, rfl⟩ 0 (by omega) (by omega) (by rw [z_sub]; unfold witS lbS lcS; rw [if_neg (by omega), if_pos (by omega)])
  · refine m_run 6 (ps' := (16, [some (.inr (.inl 2)), some (.inl law), some (.inl n), none, none, none, none], [.inl 1, .inl law], mW (n, T, h, t, x) M, 0, 0)) rfl ?_
    refine m_icmp rfl ⟨by omega, by omega⟩ ⟨by omega, by omega⟩ (fun (zc2 : law ≤ 1) => ?_) (fun (zc2 : ¬ law ≤ 1) => ?_)
    · refine m_run 4 (ps' := (36, [some (.inr (.inl 2)), some (.inl law), some (.inl n), some (.inl 1), some (.inl 0), none, none], [], mW (n, T, h, t, x) M, 0, 0)) rfl ?_
      refine m_weak [some (.inr (.inl 2)), some (.inl law), some (.inl n), some (.inl 1), some (.inl 0), none, none] ⟨rfl, ⟨rfl, ⟨rfl, ⟨rfl, ⟨rfl, trivial⟩⟩⟩⟩⟩ ?_
      exact l_witA (lb := n) (lc := 1) (o := witS n tb law) hR hw hw2 (by omega) (by omega) (by omega) (by omega) ⟨rfl, rfl⟩ 0 (by omega) (by omega) (by rw [z_sub]; unfold witS lbS lcS; rw [if_pos (by omega), if_neg (by omega)])
    · refine m_run 2 (ps' := (21, [some (.inr (.inl 2)), some (.inl law), some (.inl n), none, none, none, none], [.inl 5, .inl law], mW (n, T, h, t, x) M, 0, 0)) rfl ?_
      refine m_icmp rfl ⟨by omega, by omega⟩ ⟨by omega, by omega⟩ (fun (zc3 : 5 ≤ law) => ?_) (fun (zc3 : ¬ 5 ≤ law) => ?_)
      · refine m_run 4 (ps' := (36, [some (.inr (.inl 2)), some (.inl law), some (.inl n), some (.inl 1), some (.inl 0), none, none], [], mW (n, T, h, t, x) M, 0, 0)) rfl ?_
        refine m_weak [some (.inr (.inl 2)), some (.inl law), some (.inl n), some (.inl 1), some (.inl 0), none, none] ⟨rfl, ⟨rfl, ⟨rfl, ⟨rfl, ⟨rfl, trivial⟩⟩⟩⟩⟩ ?_
        exact l_witA (lb := n) (lc := 1) (o := witS n tb law) hR hw hw2 (by omega) (by omega) (by omega) (by omega) ⟨rfl, rfl⟩ 0 (by omega) (by omega) (by rw [z_sub]; unfold witS lbS lcS; rw [if_pos (by omega), if_neg (by omega)])
      · refine m_run 6 (ps' := (36, [some (.inr (.inl 2)), some (.inl law), some (.inl n), some (.inl n), some (.inl 0), none, none], [], mW (n, T, h, t, x) M, 0, 0)) rfl ?_
        refine m_weak [some (.inr (.inl 2)), some (.inl law), some (.inl n), some (.inl n), some (.inl 0), none, none] ⟨rfl, ⟨rfl, ⟨rfl, ⟨rfl, ⟨rfl, trivial⟩⟩⟩⟩⟩ ?_
        exact l_witA (lb := n) (lc := n) (o := witS n tb law) hR hw hw2 (by omega) (by omega) (by omega) (by omega) ⟨rfl, rfl⟩ 0 (by omega) (by omega) (by rw [z_sub]; unfold witS lbS lcS; rw [if_pos (by omega), if_pos (by omega)])
theorem opt_some {α : Type} {f : Int → Option α} {a : α} : ∀ (k : Nat) (i : Int), optF f k i = some a → ∃ j, i ≤ j ∧ j < i + k ∧ f j = some a ∧ ∀ j', i ≤ j' → j' < j → f j' = none
  | 0, _, h => by cases h
  | k + 1, i, h => by
    unfold optF at h
    split at h
    next b hb =>
      cases h
      exact ⟨i, by omega, by omega, hb, fun j' h1 h2 => absurd h2 (by omega)⟩
    next hb =>
      obtain ⟨j, h1, h2, h3, h4⟩ := opt_some k (i + 1) h
      refine ⟨j, by omega, by omega, h3, fun j' g1 g2 => ?_⟩
      by_cases he : j' = i
      · rw [he]; exact hb
      · exact h4 j' (by omega) g2
theorem witS_in {n : Int} {tb : Int → Int → Int} {law : Int} (hn : okN n) {a b c : Int} (h : witS n tb law = some (a, b, c)) : (0 ≤ a ∧ a < n) ∧ (0 ≤ b ∧ b < n) ∧ (0 ≤ c ∧ c < n) := by
  have hl := okN_lo hn
  have e1 : 1 ≤ lbS n law ∧ lbS n law ≤ n := by unfold lbS; split <;> omega
  have e2 : 1 ≤ lcS n law ∧ lcS n law ≤ n := by unfold lcS; split <;> omega
  obtain ⟨a', h1, h2, h3, -⟩ := opt_some _ _ h
  obtain ⟨b', h4, h5, h6, -⟩ := opt_some _ _ h3
  obtain ⟨c', h7, h8, h9, -⟩ := opt_some _ _ h6
  unfold witC at h9
  split at h9
  · cases h9
  · cases h9
    omega
theorem wcode_in {n : Int} {tb : Int → Int → Int} {law : Int} (hn : okN n) : -1 ≤ wcode (witS n tb law) ∧ wcode (witS n tb law) < 729 := by
  have hl := okN_lo hn
  cases h : witS n tb law with
  | none => exact ⟨by decide, by decide⟩
  | some w =>
    obtain ⟨a, b, c⟩ := w
    have h1 := witS_in hn h
    show -1 ≤ 81 * a + 9 * b + c ∧ 81 * a + 9 * b + c < 729
    omega
def welS (w j : Int) : Int := if j = 1 then w / 81 else if j = 2 then w / 9 % 9 else w % 9
set_option maxHeartbeats 4000000 in
set_option maxRecDepth 100000 in
theorem k_wel {X : Nat × Nat × (Nat → Int32)} {n : Int} {T : Int → Int} {h : HS} {t : TS} {x : XS} {M : MS} {w0 j : Int} (h1 : 0 ≤ w0) (h2 : w0 < 729) (hj : m_R j) : m_Run X 5 [.inl w0, .inl j] (mW (n, T, h, t, x) M) (m_V (welS w0 j) (mW (n, T, h, t, x) M)) := by
  show m_Sem X 5 (0, [some (.inl w0), some (.inl j)], [], mW (n, T, h, t, x) M, 0, 0) _
  refine m_run 2 (ps' := (2, [some (.inl w0), some (.inl j)], [.inl 1, .inl j], mW (n, T, h, t, x) M, 0, 0)) rfl ?_
  refine m_icmp rfl hj ⟨by omega, by omega⟩ (fun (zc1 : ¬ j = 1) => ?_) (fun (zc1 : ¬ ¬ j = 1) => ?_)
  · refine m_run 2 (ps' := (12, [some (.inl w0), some (.inl j)], [.inl 2, .inl j], mW (n, T, h, t, x) M, 0, 0)) rfl ?_
    refine m_icmp rfl hj ⟨by omega, by omega⟩ (fun (zc2 : ¬ j = 2) => ?_) (fun (zc2 : ¬ ¬ j = 2) => ?_)
    · refine m_run 2 (ps' := (28, [some (.inl w0), some (.inl j)], [.inl 9, .inl w0], mW (n, T, h, t, x) M, 0, 0)) rfl ?_
      refine m_rem rfl (by omega) (by omega) (by omega) (by omega) ?_
      exact m_ret1 rfl (Or.inl rfl) rfl (m_Vi (by unfold welS; (repeat' split) <;> first | rfl | omega))
    · replace zc2 : j = 2 := Decidable.not_not.mp zc2
      refine m_run 2 (ps' := (18, [some (.inl w0), some (.inl j)], [.inl 9, .inl w0], mW (n, T, h, t, x) M, 0, 0)) rfl ?_
      refine m_div rfl (by omega) (by omega) (by omega) (by omega) ?_
      refine m_run 1 (ps' := (21, [some (.inl w0), some (.inl j)], [.inl 9, .inl (w0 / 9)], mW (n, T, h, t, x) M, 0, 0)) rfl ?_
      refine m_rem rfl (by omega) (by omega) (by omega) (by omega) ?_
      refine m_run 1 (ps' := (29, [some (.inl w0), some (.inl j)], [.inl ((w0 / 9) % 9)], mW (n, T, h, t, x) M, 0, 0)) rfl ?_
      exact m_ret1 rfl (Or.inl rfl) rfl (m_Vi (by unfold welS; (repeat' split) <;> first | rfl | omega))
  · replace zc1 : j = 1 := Decidable.not_not.mp zc1
    refine m_run 2 (ps' := (8, [some (.inl w0), some (.inl j)], [.inl 81, .inl w0], mW (n, T, h, t, x) M, 0, 0)) rfl ?_
    refine m_div rfl (by omega) (by omega) (by omega) (by omega) ?_
    exact m_ret1 rfl (Or.inl rfl) rfl (m_Vi (by unfold welS; (repeat' split) <;> first | rfl | omega))
def fitsS (n : Int) (tb : Int → Int → Int) (j a b c : Int) : Bool := if j = 0 then holdsS n tb 5 a b 0 else if j = 1 then holdsS n tb 3 b c a else holdsS n tb 4 a b c
set_option maxHeartbeats 4000000 in
set_option maxRecDepth 100000 in
theorem k_fits {X : Nat × Nat × (Nat → Int32)} {n : Int} {T : Int → Int} {h : HS} {t : TS} {x : XS} {M : MS} {tb : Int → Int → Int} {j a b c : Int} (hR : repC n T tb) (hj : 0 ≤ j) (hj2 : j < 3) (ha : 0 ≤ a) (ha2 : a < n) (hb : 0 ≤ b) (hb2 : b < n) (hc : 0 ≤ c) (hc2 : c < n) : m_Run X 8 [.inr (.inl 2), .inl j, .inl a, .inl b, .inl c] (mW (n, T, h, t, x) M) (m_V (bI (fitsS n tb j a b c)) (mW (n, T, h, t, x) M)) := by
  have hn := hR.1
  have hl := okN_lo hn
  show m_Sem X 8 (0, [some (.inr (.inl 2)), some (.inl j), some (.inl a), some (.inl b), some (.inl c)], [], mW (n, T, h, t, x) M, 0, 0) _
  refine m_run 1 (ps' := (1, [some (.inr (.inl 2)), some (.inl j), some (.inl a), some (.inl b), some (.inl c)], [.inl j], mW (n, T, h, t, x) M, 0, 0)) rfl ?_
  refine m_if rfl ⟨by omega, by omega⟩ (fun (zc1 : ¬ j = 0) => ?_) (fun (zc1 : ¬ ¬ j = 0) => ?_)
  · refine m_run 2 (ps' := (15, [some (.inr (.inl 2)), some (.inl j), some (.inl a), some (.inl b), some (.inl c)], [.inl 1, .inl j], mW (n, T, h, t, x) M, 0, 0)) rfl ?_
    refine m_icmp rfl ⟨by omega, by omega⟩ ⟨by omega, by omega⟩ (fun (zc2 : ¬ j = 1) => ?_) (fun (zc2 : ¬ ¬ j = 1) => ?_)
    · refine m_run 5 (ps' := (36, [some (.inr (.inl 2)), some (.inl j), some (.inl a), some (.inl b), some (.inl c)], [.inl c, .inl b, .inl a, .inl 4, .inr (.inl 2)], mW (n, T, h, t, x) M, 0, 0)) rfl ?_
      refine m_callSF [.inr (.inl 2), .inl 4, .inl a, .inl b, .inl c] [] rfl rfl rfl (k_holds (law := 4) (a := a) (b := b) (c := c) hR (by omega) (by omega) (by omega) (by omega) (by omega) (by omega) (by omega) (by omega)) ?_
      show m_Sem X 8 (39, [some (.inr (.inl 2)), some (.inl j), some (.inl a), some (.inl b), some (.inl c)], [.inl (bI (holdsS n tb 4 a b c))], mW (n, T, h, t, x) M, 0, 0) _
      exact m_ret1 rfl (Or.inr ⟨rfl, bI_01 (holdsS n tb 4 a b c)⟩) rfl (m_Vb (by unfold fitsS; (repeat' split) <;> first | rfl | omega))
    · replace zc2 : j = 1 := Decidable.not_not.mp zc2
      refine m_run 5 (ps' := (24, [some (.inr (.inl 2)), some (.inl j), some (.inl a), some (.inl b), some (.inl c)], [.inl a, .inl c, .inl b, .inl 3, .inr (.inl 2)], mW (n, T, h, t, x) M, 0, 0)) rfl ?_
      refine m_callSF [.inr (.inl 2), .inl 3, .inl b, .inl c, .inl a] [] rfl rfl rfl (k_holds (law := 3) (a := b) (b := c) (c := a) hR (by omega) (by omega) (by omega) (by omega) (by omega) (by omega) (by omega) (by omega)) ?_
      show m_Sem X 8 (27, [some (.inr (.inl 2)), some (.inl j), some (.inl a), some (.inl b), some (.inl c)], [.inl (bI (holdsS n tb 3 b c a))], mW (n, T, h, t, x) M, 0, 0) _
      refine m_run 1 (ps' := (39, [some (.inr (.inl 2)), some (.inl j), some (.inl a), some (.inl b), some (.inl c)], [.inl (bI (holdsS n tb 3 b c a))], mW (n, T, h, t, x) M, 0, 0)) rfl ?_
      exact m_ret1 rfl (Or.inr ⟨rfl, bI_01 (holdsS n tb 3 b c a)⟩) rfl (m_Vb (by unfold fitsS; (repeat' split) <;> first | rfl | omega))
  · replace zc1 : j = 0 := Decidable.not_not.mp zc1
    refine m_run 5 (ps' := (9, [some (.inr (.inl 2)), some (.inl j), some (.inl a), some (.inl b), some (.inl c)], [.inl 0, .inl b, .inl a, .inl 5, .inr (.inl 2)], mW (n, T, h, t, x) M, 0, 0)) rfl ?_
    refine m_callSF [.inr (.inl 2), .inl 5, .inl a, .inl b, .inl 0] [] rfl rfl rfl (k_holds (law := 5) (a := a) (b := b) (c := 0) hR (by omega) (by omega) (by omega) (by omega) (by omega) (by omega) (by omega) (by omega)) ?_
    show m_Sem X 8 (12, [some (.inr (.inl 2)), some (.inl j), some (.inl a), some (.inl b), some (.inl c)], [.inl (bI (holdsS n tb 5 a b 0))], mW (n, T, h, t, x) M, 0, 0) _
    exact m_ret1 rfl (Or.inr ⟨rfl, bI_01 (holdsS n tb 5 a b 0)⟩) rfl (m_Vb (by unfold fitsS; (repeat' split) <;> first | rfl | omega))
def isInR (n : Int) (tb : Int → Int → Int) (j lc a b : Int) : Bool := allF (fun c => fitsS n tb j a b c) lc.toNat 0
def isInS (n : Int) (tb : Int → Int → Int) (j a : Int) : Bool := allF (isInR n tb j (if j = 0 then 1 else n) a) n.toNat 0
set_option maxHeartbeats 4000000 in
set_option maxRecDepth 100000 in
theorem l_inI {X : Nat × Nat × (Nat → Int32)} {n : Int} {T : Int → Int} {h : HS} {t : TS} {x : XS} {M : MS} {tb : Int → Int → Int} {j a lc : Int} {Q : Option mPV → mPW → Prop} {o : Bool} (hR : repC n T tb) (hj : 0 ≤ j) (hj2 : j < 3) (hlc : 1 ≤ lc) (hlc2 : lc ≤ n) (ha : 0 ≤ a) (ha2 : a < n) {b : Int} (hb : 0 ≤ b) (hb2 : b < n) (K : o = true → m_Sem X 7 (16, [some (.inr (.inl 2)), some (.inl j), some (.inl a), some (.inl lc), some (.inl (b + 1)), none], [], mW (n, T, h, t, x) M, 0, 0) Q) (R : o = false → Q (some (.inl 0)) (mW (n, T, h, t, x) M)) : ∀ c : Int, 0 ≤ c → c ≤ lc → ∀ (ho : allF (fun c => fitsS n tb j a b c) (lc - c).toNat c = o), m_Sem X 7 (28, [some (.inr (.inl 2)), some (.inl j), some (.inl a), some (.inl lc), some (.inl b), some (.inl c)], [], mW (n, T, h, t, x) M, 0, 0) (Q) := by
  have hn := hR.1
  have hl := okN_lo hn
  refine m_down 0 lc ?_ ?_
  · intro ho
    rw [all_end] at ho
    show m_Sem X 7 (28, [some (.inr (.inl 2)), some (.inl j), some (.inl a), some (.inl lc), some (.inl b), some (.inl lc)], [], mW (n, T, h, t, x) M, 0, 0) _
    refine m_run 2 (ps' := (31, [some (.inr (.inl 2)), some (.inl j), some (.inl a), some (.inl lc), some (.inl b), some (.inl lc)], [.inl lc, .inl lc], mW (n, T, h, t, x) M, 0, 0)) rfl ?_
    refine m_icmp rfl ⟨by omega, by omega⟩ ⟨by omega, by omega⟩ (fun (zc1 : lc ≤ lc) => ?_) (fun (zc1 : ¬ lc ≤ lc) => absurd zc1 (not_not_intro (by omega)))
    refine m_run 2 (ps' := (16, [some (.inr (.inl 2)), some (.inl j), some (.inl a), some (.inl lc), some (.inl (b + 1)), some (.inl lc)], [], mW (n, T, h, t, x) M, 0, 0)) rfl ?_
    refine m_weak [some (.inr (.inl 2)), some (.inl j), some (.inl a), some (.inl lc), some (.inl (b + 1)), none] ⟨rfl, ⟨rfl, ⟨rfl, ⟨rfl, ⟨rfl, trivial⟩⟩⟩⟩⟩ ?_
    exact K ho.symm
  · intro c hi1 hi2 ih ho
    refine m_run 2 (ps' := (31, [some (.inr (.inl 2)), some (.inl j), some (.inl a), some (.inl lc), some (.inl b), some (.inl c)], [.inl lc, .inl c], mW (n, T, h, t, x) M, 0, 0)) rfl ?_
    refine m_icmp rfl ⟨by omega, by omega⟩ ⟨by omega, by omega⟩ (fun (zc1 : lc ≤ c) => absurd zc1 (by omega)) (fun (zc1 : ¬ lc ≤ c) => ?_)
    refine m_run 5 (ps' := (41, [some (.inr (.inl 2)), some (.inl j), some (.inl a), some (.inl lc), some (.inl b), some (.inl c)], [.inl c, .inl b, .inl a, .inl j, .inr (.inl 2)], mW (n, T, h, t, x) M, 0, 0)) rfl ?_
    refine m_callSF [.inr (.inl 2), .inl j, .inl a, .inl b, .inl c] [] rfl rfl rfl (k_fits (j := j) (a := a) (b := b) (c := c) hR (by omega) (by omega) (by omega) (by omega) (by omega) (by omega) (by omega) (by omega)) ?_
    show m_Sem X 7 (44, [some (.inr (.inl 2)), some (.inl j), some (.inl a), some (.inl lc), some (.inl b), some (.inl c)], [.inl (bI (fitsS n tb j a b c))], mW (n, T, h, t, x) M, 0, 0) _
    refine m_if rfl (bI_R (fitsS n tb j a b c)) (fun (zc2 : ¬ (bI (fitsS n tb j a b c)) = 0) => ?_) (fun (zc2 : ¬ ¬ (bI (fitsS n tb j a b c)) = 0) => ?_)
    · replace zc2 : (fitsS n tb j a b c) = true := bI_n0.mp zc2
      refine m_run 2 (ps' := (28, [some (.inr (.inl 2)), some (.inl j), some (.inl a), some (.inl lc), some (.inl b), some (.inl (c + 1))], [], mW (n, T, h, t, x) M, 0, 0)) rfl ?_
      refine m_weak [some (.inr (.inl 2)), some (.inl j), some (.inl a), some (.inl lc), some (.inl b), some (.inl (c + 1))] ⟨rfl, ⟨rfl, ⟨rfl, ⟨rfl, ⟨rfl, ⟨rfl, trivial⟩⟩⟩⟩⟩⟩ ?_
      rw [all_t hi2 zc2] at ho
      exact ih ho
    · replace zc2 : (fitsS n tb j a b c) = false := bI_e0.mp (Decidable.not_not.mp zc2)
      refine m_run 1 (ps' := (48, [some (.inr (.inl 2)), some (.inl j), some (.inl a), some (.inl lc), some (.inl b), some (.inl c)], [.inl 0], mW (n, T, h, t, x) M, 0, 0)) rfl ?_
      exact m_ret1 rfl (Or.inr ⟨rfl, Or.inl rfl⟩) rfl (R (by rw [← ho]; exact all_f hi2 zc2))
set_option maxHeartbeats 4000000 in
set_option maxRecDepth 100000 in
theorem l_inO {X : Nat × Nat × (Nat → Int32)} {n : Int} {T : Int → Int} {h : HS} {t : TS} {x : XS} {M : MS} {tb : Int → Int → Int} {j a lc : Int} {Q : Option mPV → mPW → Prop} {o : Bool} (hR : repC n T tb) (hj : 0 ≤ j) (hj2 : j < 3) (hlc : 1 ≤ lc) (hlc2 : lc ≤ n) (ha : 0 ≤ a) (ha2 : a < n) (R : Q (some (.inl (bI o))) (mW (n, T, h, t, x) M)) : ∀ b : Int, 0 ≤ b → b ≤ n → ∀ (ho : allF (isInR n tb j lc a) (n - b).toNat b = o), m_Sem X 7 (16, [some (.inr (.inl 2)), some (.inl j), some (.inl a), some (.inl lc), some (.inl b), none], [], mW (n, T, h, t, x) M, 0, 0) (Q) := by
  have hn := hR.1
  have hl := okN_lo hn
  refine m_down 0 n ?_ ?_
  · intro ho
    show m_Sem X 7 (16, [some (.inr (.inl 2)), some (.inl j), some (.inl a), some (.inl lc), some (.inl n), none], [], mW (n, T, h, t, x) M, 0, 0) _
    refine m_run 3 (ps' := (22, [some (.inr (.inl 2)), some (.inl j), some (.inl a), some (.inl lc), some (.inl n), none], [.inl n, .inl n], mW (n, T, h, t, x) M, 0, 0)) rfl ?_
    refine m_icmp rfl ⟨by omega, by omega⟩ ⟨by omega, by omega⟩ (fun (zc1 : n ≤ n) => ?_) (fun (zc1 : ¬ n ≤ n) => absurd zc1 (not_not_intro (by omega)))
    refine m_run 1 (ps' := (62, [some (.inr (.inl 2)), some (.inl j), some (.inl a), some (.inl lc), some (.inl n), none], [.inl 1], mW (n, T, h, t, x) M, 0, 0)) rfl ?_
    exact m_ret1 rfl (Or.inr ⟨rfl, Or.inr rfl⟩) rfl (by rw [all_end] at ho; subst ho; exact R)
  · intro b hi1 hi2 ih ho
    refine m_run 3 (ps' := (22, [some (.inr (.inl 2)), some (.inl j), some (.inl a), some (.inl lc), some (.inl b), none], [.inl n, .inl b], mW (n, T, h, t, x) M, 0, 0)) rfl ?_
    refine m_icmp rfl ⟨by omega, by omega⟩ ⟨by omega, by omega⟩ (fun (zc1 : n ≤ b) => absurd zc1 (by omega)) (fun (zc1 : ¬ n ≤ b) => ?_)
    refine m_run 2 (ps' := (28, [some (.inr (.inl 2)), some (.inl j), some (.inl a), some (.inl lc), some (.inl b), some (.inl 0)], [], mW (n, T, h, t, x) M, 0, 0)) rfl ?_
    refine m_weak [some (.inr (.inl 2)), some (.inl j), some (.inl a), some (.inl lc), some (.inl b), some (.inl 0)] ⟨rfl, ⟨rfl, ⟨rfl, ⟨rfl, ⟨rfl, ⟨rfl, trivial⟩⟩⟩⟩⟩⟩ ?_
    cases hh : isInR n tb j lc a b with
    | true =>
      rw [all_t hi2 hh] at ho
      exact l_inI (o := true) hR hj hj2 hlc hlc2 ha ha2 hi1 hi2 (fun _ => ih ho) (fun h => by cases h) 0 (by omega) (by omega) (by rw [z_sub]; exact hh)
    | false =>
      rw [all_f hi2 hh] at ho
      subst ho
      exact l_inI (o := false) hR hj hj2 hlc hlc2 ha ha2 hi1 hi2 (fun h => by cases h) (fun _ => R) 0 (by omega) (by omega) (by rw [z_sub]; exact hh)
set_option maxHeartbeats 4000000 in
set_option maxRecDepth 100000 in
theorem k_isin {X : Nat × Nat × (Nat → Int32)} {n : Int} {T : Int → Int} {h : HS} {t : TS} {x : XS} {M : MS} {tb : Int → Int → Int} {j a : Int} (hR : repC n T tb) (hj : 0 ≤ j) (hj2 : j < 3) (ha : 0 ≤ a) (ha2 : a < n) : m_Run X 7 [.inr (.inl 2), .inl j, .inl a] (mW (n, T, h, t, x) M) (m_V (bI (isInS n tb j a)) (mW (n, T, h, t, x) M)) := by
  have hn := hR.1
  have hl := okN_lo hn
  show m_Sem X 7 (0, [some (.inr (.inl 2)), some (.inl j), some (.inl a), none, none, none], [], mW (n, T, h, t, x) M, 0, 0) _
  refine m_run 1 (ps' := (1, [some (.inr (.inl 2)), some (.inl j), some (.inl a), none, none, none], [.inl j], mW (n, T, h, t, x) M, 0, 0)) rfl ?_
  refine m_if rfl ⟨by omega, by omega⟩ (fun (zc1 : ¬ j = 0) => ?_) (fun (zc1 : ¬ ¬ j = 0) => ?_)
  · refine m_run 5 (ps' := (16, [some (.inr (.inl 2)), some (.inl j), some (.inl a), some (.inl n), some (.inl 0), none], [], mW (n, T, h, t, x) M, 0, 0)) rfl ?_
    refine m_weak [some (.inr (.inl 2)), some (.inl j), some (.inl a), some (.inl n), some (.inl 0), none] ⟨rfl, ⟨rfl, ⟨rfl, ⟨rfl, ⟨rfl, trivial⟩⟩⟩⟩⟩ ?_
    exact l_inO (lc := n) (o := isInS n tb j a) hR hj hj2 (by omega) (by omega) ha ha2 ⟨rfl, rfl⟩ 0 (by omega) (by omega) (by rw [z_sub]; unfold isInS; rw [if_neg (by omega)])
  · replace zc1 : j = 0 := Decidable.not_not.mp zc1
    refine m_run 5 (ps' := (16, [some (.inr (.inl 2)), some (.inl j), some (.inl a), some (.inl 1), some (.inl 0), none], [], mW (n, T, h, t, x) M, 0, 0)) rfl ?_
    refine m_weak [some (.inr (.inl 2)), some (.inl j), some (.inl a), some (.inl 1), some (.inl 0), none] ⟨rfl, ⟨rfl, ⟨rfl, ⟨rfl, ⟨rfl, trivial⟩⟩⟩⟩⟩ ?_
    exact l_inO (lc := 1) (o := isInS n tb j a) hR hj hj2 (by omega) (by omega) ha ha2 ⟨rfl, rfl⟩ 0 (by omega) (by omega) (by rw [z_sub]; unfold isInS; rw [if_pos (by omega)])
