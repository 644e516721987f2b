
theorem m_of_add (x y : Int) : Int32.ofInt (x + y) = Int32.ofInt x + Int32.ofInt y := Int32.toBitVec.inj (by simp [BitVec.ofInt_add])
theorem m_of_sub (x y : Int) : Int32.ofInt (x - y) = Int32.ofInt x - Int32.ofInt y := by
  have h := m_of_add (x - y) y
  rw [show x - y + y = x by omega] at h
  rw [h, Int32.add_sub_cancel]
theorem m_of_mul (x y : Int) : Int32.ofInt (x * y) = Int32.ofInt x * Int32.ofInt y := Int32.toBitVec.inj (by simp [BitVec.ofInt_mul])
/-- a whole number in the range of an int -/
def m_R (x : Int) : Prop := -2147483648 ≤ x ∧ x < 2147483648
theorem m_R_to {x : Int} (h : m_R x) : (Int32.ofInt x).toInt = x := Int32.toInt_ofInt_of_le (by have := h.1; omega) (by have := h.2; omega)
theorem m_R_32 (x : Int32) : m_R x.toInt := ⟨Int32.le_toInt x, Int32.toInt_lt x⟩
theorem m_R_nat {x : Int} (h : m_R x) : (Int32.ofInt x).toNatClampNeg = x.toNat := Int32.toNatClampNeg_ofInt_of_le (by have := h.1; omega) (by have := h.2; omega)
theorem m_R_eq {x y : Int} (hx : m_R x) (hy : m_R y) : Int32.ofInt x = Int32.ofInt y ↔ x = y := by rw [← Int32.toInt_inj, m_R_to hx, m_R_to hy]
theorem m_R_lt {x y : Int} (hx : m_R x) (hy : m_R y) : Int32.ofInt x < Int32.ofInt y ↔ x < y := by rw [Int32.lt_iff_toInt_lt, m_R_to hx, m_R_to hy]
theorem m_R_le {x y : Int} (hx : m_R x) (hy : m_R y) : Int32.ofInt x ≤ Int32.ofInt y ↔ x ≤ y := by rw [Int32.le_iff_toInt_le, m_R_to hx, m_R_to hy]
theorem m_R_0 : m_R 0 := ⟨by decide, by decide⟩
theorem m_R_div {x y : Int} (hx : 0 ≤ x) (hx' : x < 2147483648) (hy : 0 < y) (hy' : y < 2147483648) : Int32.ofInt (x / y) = Int32.ofInt x / Int32.ofInt y := by
  have h1 := m_R_to (x := x) ⟨by omega, hx'⟩
  have h2 := m_R_to (x := y) ⟨by omega, hy'⟩
  have h3 : Int32.ofInt x ≠ Int32.minValue := by
    intro h
    have h4 := congrArg Int32.toInt h
    rw [h1, Int32.toInt_minValue] at h4
    omega
  have h5 : 0 ≤ x / y := Int.ediv_nonneg hx (by omega)
  have h6 : x / y ≤ x := Int.ediv_le_self y hx
  rw [← Int32.toInt_inj, m_R_to ⟨by omega, by omega⟩, Int32.toInt_div_of_ne_left _ _ h3, h1, h2, Int.tdiv_eq_ediv_of_nonneg hx]
theorem m_R_rem {x y : Int} (hx : 0 ≤ x) (hx' : x < 2147483648) (hy : 0 < y) (hy' : y < 2147483648) : Int32.ofInt (x % y) = Int32.ofInt x - Int32.ofInt x / Int32.ofInt y * Int32.ofInt y := by
  rw [← m_R_div hx hx' hy hy', ← m_of_mul, ← m_of_sub]
  congr 1
  have := Int.mul_ediv_add_emod x y
  rw [Int.mul_comm (x / y) y]
  omega
/-- the length of an instruction that the tables hold -/
def m_len : Instr → Nat
  | .iload _ | .aload _ | .lload _ | .fload _ | .istore _ | .astore _ | .lstore _ | .fstore _ | .bipush _ | .ldc _ | .newarray _ => 2
  | .sipush _ | .ldc_w _ | .ldc2_w _ | .iinc _ _ | .getfield _ | .putfield _ | .goto _ | .if_icmp _ _ | .ifCond _ _ | .invokevirtual _ | .invokespecial _ | .invokestatic _ | .new _ => 3
  | _ => 1
def m_okb (mi : Nat) (e : BE) : Bool :=
  (match e.2.1 with | .tableswitch .. => (match decode (m_cd mi) e.1 with | .ok (i, _) => decide (i = e.2.1) | _ => false) | _ => decide (decode (m_cd mi) e.1 = .ok (e.2.1, m_len e.2.1))) &&
  match e.2.1 with
  | .bipush n => decide ((Int8.ofInt n).toInt32 = Int32.ofInt e.2.2.2.2)
  | .sipush n => decide ((Int16.ofInt n).toInt32 = Int32.ofInt e.2.2.2.2)
  | .getfield i => decide ((m_on mi, i, e.2.2.1, e.2.2.2.1) ∈ m_flds)
  | .putfield i => decide ((m_on mi, i, e.2.2.1, e.2.2.2.1) ∈ m_flds) && (match vwCl[e.2.2.1]? with | some r => (if e.2.2.2.2 = 0 then decide (r.2.1 e.2.2.2.1 = ((r.2.1 e.2.2.2.1).1, (r.2.1 e.2.2.2.1).2.1, "I", false)) else (r.2.1 e.2.2.2.1).2.2.2 && decide (m_kind mi = 2) && decide ((r.2.1 e.2.2.2.1).1 = m_own mi) && (match parseFieldDescriptor (r.2.1 e.2.2.2.1).2.2.1 with | some (.object _) => true | some (.array _) => true | _ => false)) | none => false)
  | .invokevirtual i => decide ((m_on mi, i, e.2.2.1) ∈ m_mths) && decide (e.2.2.1 < 1000 ∧ 0 < e.2.2.1 ∧ m_kind e.2.2.1 = 1)
  | .invokespecial i => decide ((m_on mi, i, e.2.2.1) ∈ m_mths) && decide (e.2.2.1 = 1000 ∨ (e.2.2.1 < 1000 ∧ 0 < e.2.2.1 ∧ m_kind e.2.2.1 = 2))
  | .invokestatic i => decide ((m_on mi, i, e.2.2.1) ∈ m_mths) && decide (e.2.2.1 = 1001 ∨ e.2.2.1 = 1002 ∨ (e.2.2.1 < 1000 ∧ 0 < e.2.2.1 ∧ m_kind e.2.2.1 = 0))
  | .ldc i => decide ((m_on mi, i, e.2.2.2.1, e.2.2.2.2) ∈ m_csts)
  | .ldc_w i => decide ((m_on mi, i, e.2.2.2.1, e.2.2.2.2) ∈ m_csts)
  | .ldc2_w i => decide ((m_on mi, i, e.2.2.2.2) ∈ m_cstl)
  | .new i => decide ((m_on mi, i, e.2.2.1) ∈ m_clss)
  | .goto off => decide ((e.1 : Int) + off = (e.2.2.1 : Int))
  | .if_icmp _ off => decide ((e.1 : Int) + off = (e.2.2.1 : Int))
  | .ifCond _ off => decide ((e.1 : Int) + off = (e.2.2.1 : Int))
  | .newarray t => decide (newarray.typeOf t = (if e.2.2.1 = 0 then .int else if e.2.2.1 = 1 then .char else .long)) && decide (e.2.2.1 < 3)
  | _ => true

theorem m_bk0 : bd_0.all (m_okb 0) = true := by decide +kernel
theorem m_bk1 : bd_1.all (m_okb 1) = true := by decide +kernel
theorem m_bk2 : bd_2.all (m_okb 2) = true := by decide +kernel
theorem m_bk3 : bd_3.all (m_okb 3) = true := by decide +kernel
theorem m_bk4 : bd_4.all (m_okb 4) = true := by decide +kernel
theorem m_bk5 : bd_5.all (m_okb 5) = true := by decide +kernel
theorem m_bk6 : bd_6.all (m_okb 6) = true := by decide +kernel
theorem m_bk7 : bd_7.all (m_okb 7) = true := by decide +kernel
theorem m_bk8 : bd_8.all (m_okb 8) = true := by decide +kernel
theorem m_bk9 : bd_9.all (m_okb 9) = true := by decide +kernel
theorem m_bk10 : bd_10.all (m_okb 10) = true := by decide +kernel
theorem m_bk11 : bd_11.all (m_okb 11) = true := by decide +kernel
theorem m_bk12 : bd_12.all (m_okb 12) = true := by decide +kernel
theorem m_bk13 : bd_13.all (m_okb 13) = true := by decide +kernel
theorem m_bk14 : bd_14.all (m_okb 14) = true := by decide +kernel
theorem m_bk15 : bd_15.all (m_okb 15) = true := by decide +kernel
theorem m_bk16 : bd_16.all (m_okb 16) = true := by decide +kernel
theorem m_bk17 : bd_17.all (m_okb 17) = true := by decide +kernel
theorem m_bk18 : bd_18.all (m_okb 18) = true := by decide +kernel
theorem m_bk19 : bd_19.all (m_okb 19) = true := by decide +kernel
theorem m_bk20 : bd_20.all (m_okb 20) = true := by decide +kernel
theorem m_bk21 : bd_21.all (m_okb 21) = true := by decide +kernel
theorem m_bk22 : bd_22.all (m_okb 22) = true := by decide +kernel
theorem m_bk23 : bd_23.all (m_okb 23) = true := by decide +kernel
theorem m_bk24 : bd_24.all (m_okb 24) = true := by decide +kernel
theorem m_bk25 : bd_25.all (m_okb 25) = true := by decide +kernel
theorem m_bk26 : bd_26.all (m_okb 26) = true := by decide +kernel
theorem m_bk27 : bd_27.all (m_okb 27) = true := by decide +kernel
theorem m_bk28 : bd_28.all (m_okb 28) = true := by decide +kernel
theorem m_bk29 : bd_29.all (m_okb 29) = true := by decide +kernel
theorem m_bk30 : bd_30.all (m_okb 30) = true := by decide +kernel
theorem m_bk31 : bd_31.all (m_okb 31) = true := by decide +kernel
theorem m_bk32 : bd_32.all (m_okb 32) = true := by decide +kernel
theorem m_bk33 : bd_33.all (m_okb 33) = true := by decide +kernel
theorem m_bk34 : bd_34.all (m_okb 34) = true := by decide +kernel
theorem m_bk35 : bd_35.all (m_okb 35) = true := by decide +kernel
theorem m_bk36 : bd_36.all (m_okb 36) = true := by decide +kernel
theorem m_bk37 : bd_37.all (m_okb 37) = true := by decide +kernel
theorem m_bk38 : bd_38.all (m_okb 38) = true := by decide +kernel
theorem m_bk39 : bd_39.all (m_okb 39) = true := by decide +kernel
theorem m_bk40 : bd_40.all (m_okb 40) = true := by decide +kernel
theorem m_bk41 : bd_41.all (m_okb 41) = true := by decide +kernel
theorem m_bk42 : bd_42.all (m_okb 42) = true := by decide +kernel
theorem m_bk43 : bd_43.all (m_okb 43) = true := by decide +kernel
theorem m_bk44 : bd_44.all (m_okb 44) = true := by decide +kernel
theorem m_bk45 : bd_45.all (m_okb 45) = true := by decide +kernel
theorem m_bk46 : bd_46.all (m_okb 46) = true := by decide +kernel
theorem m_bk47 : bd_47.all (m_okb 47) = true := by decide +kernel
theorem m_bk48 : bd_48.all (m_okb 48) = true := by decide +kernel
theorem m_bk49 : bd_49.all (m_okb 49) = true := by decide +kernel
theorem m_bk50 : bd_50.all (m_okb 50) = true := by decide +kernel
theorem m_bk51 : bd_51.all (m_okb 51) = true := by decide +kernel
theorem m_bk52 : bd_52.all (m_okb 52) = true := by decide +kernel
theorem m_bk53 : bd_53.all (m_okb 53) = true := by decide +kernel
theorem m_bk54 : bd_54.all (m_okb 54) = true := by decide +kernel
theorem m_bk55 : bd_55.all (m_okb 55) = true := by decide +kernel
theorem m_bk56 : bd_56.all (m_okb 56) = true := by decide +kernel
theorem m_bk57 : bd_57.all (m_okb 57) = true := by decide +kernel
theorem m_bk58 : bd_58.all (m_okb 58) = true := by decide +kernel
theorem m_bk59 : bd_59.all (m_okb 59) = true := by decide +kernel
theorem m_bk60 : bd_60.all (m_okb 60) = true := by decide +kernel
theorem m_bk61 : bd_61.all (m_okb 61) = true := by decide +kernel
theorem m_bk : ∀ mi, ∀ e ∈ m_bodies.getD mi [], m_okb mi e = true := by
  intro mi e he
  match mi, he with
  | 0, he => exact List.all_eq_true.mp m_bk0 e he
  | 1, he => exact List.all_eq_true.mp m_bk1 e he
  | 2, he => exact List.all_eq_true.mp m_bk2 e he
  | 3, he => exact List.all_eq_true.mp m_bk3 e he
  | 4, he => exact List.all_eq_true.mp m_bk4 e he
  | 5, he => exact List.all_eq_true.mp m_bk5 e he
  | 6, he => exact List.all_eq_true.mp m_bk6 e he
  | 7, he => exact List.all_eq_true.mp m_bk7 e he
  | 8, he => exact List.all_eq_true.mp m_bk8 e he
  | 9, he => exact List.all_eq_true.mp m_bk9 e he
  | 10, he => exact List.all_eq_true.mp m_bk10 e he
  | 11, he => exact List.all_eq_true.mp m_bk11 e he
  | 12, he => exact List.all_eq_true.mp m_bk12 e he
  | 13, he => exact List.all_eq_true.mp m_bk13 e he
  | 14, he => exact List.all_eq_true.mp m_bk14 e he
  | 15, he => exact List.all_eq_true.mp m_bk15 e he
  | 16, he => exact List.all_eq_true.mp m_bk16 e he
  | 17, he => exact List.all_eq_true.mp m_bk17 e he
  | 18, he => exact List.all_eq_true.mp m_bk18 e he
  | 19, he => exact List.all_eq_true.mp m_bk19 e he
  | 20, he => exact List.all_eq_true.mp m_bk20 e he
  | 21, he => exact List.all_eq_true.mp m_bk21 e he
  | 22, he => exact List.all_eq_true.mp m_bk22 e he
  | 23, he => exact List.all_eq_true.mp m_bk23 e he
  | 24, he => exact List.all_eq_true.mp m_bk24 e he
  | 25, he => exact List.all_eq_true.mp m_bk25 e he
  | 26, he => exact List.all_eq_true.mp m_bk26 e he
  | 27, he => exact List.all_eq_true.mp m_bk27 e he
  | 28, he => exact List.all_eq_true.mp m_bk28 e he
  | 29, he => exact List.all_eq_true.mp m_bk29 e he
  | 30, he => exact List.all_eq_true.mp m_bk30 e he
  | 31, he => exact List.all_eq_true.mp m_bk31 e he
  | 32, he => exact List.all_eq_true.mp m_bk32 e he
  | 33, he => exact List.all_eq_true.mp m_bk33 e he
  | 34, he => exact List.all_eq_true.mp m_bk34 e he
  | 35, he => exact List.all_eq_true.mp m_bk35 e he
  | 36, he => exact List.all_eq_true.mp m_bk36 e he
  | 37, he => exact List.all_eq_true.mp m_bk37 e he
  | 38, he => exact List.all_eq_true.mp m_bk38 e he
  | 39, he => exact List.all_eq_true.mp m_bk39 e he
  | 40, he => exact List.all_eq_true.mp m_bk40 e he
  | 41, he => exact List.all_eq_true.mp m_bk41 e he
  | 42, he => exact List.all_eq_true.mp m_bk42 e he
  | 43, he => exact List.all_eq_true.mp m_bk43 e he
  | 44, he => exact List.all_eq_true.mp m_bk44 e he
  | 45, he => exact List.all_eq_true.mp m_bk45 e he
  | 46, he => exact List.all_eq_true.mp m_bk46 e he
  | 47, he => exact List.all_eq_true.mp m_bk47 e he
  | 48, he => exact List.all_eq_true.mp m_bk48 e he
  | 49, he => exact List.all_eq_true.mp m_bk49 e he
  | 50, he => exact List.all_eq_true.mp m_bk50 e he
  | 51, he => exact List.all_eq_true.mp m_bk51 e he
  | 52, he => exact List.all_eq_true.mp m_bk52 e he
  | 53, he => exact List.all_eq_true.mp m_bk53 e he
  | 54, he => exact List.all_eq_true.mp m_bk54 e he
  | 55, he => exact List.all_eq_true.mp m_bk55 e he
  | 56, he => exact List.all_eq_true.mp m_bk56 e he
  | 57, he => exact List.all_eq_true.mp m_bk57 e he
  | 58, he => exact List.all_eq_true.mp m_bk58 e he
  | 59, he => exact List.all_eq_true.mp m_bk59 e he
  | 60, he => exact List.all_eq_true.mp m_bk60 e he
  | 61, he => exact List.all_eq_true.mp m_bk61 e he
  | k + 62, he => exact absurd he (by rw [List.getD_eq_getElem?_getD, List.getElem?_eq_none (by show 62 ≤ k + 62; omega)]; exact List.not_mem_nil)

theorem m_fetch_ok {mi pc : Nat} {e : BE} (h : m_fetch mi pc = some e) : e.1 = pc ∧ m_okb mi e = true := by
  refine ⟨?_, m_bk mi e (List.mem_of_find?_eq_some h)⟩
  have := List.find?_some h
  simpa using this

