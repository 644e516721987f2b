
theorem m_of_add (x y : Int) : Int32.ofInt (x + y) = Int32.ofInt x + Int32.ofInt y := Int32.toBitVec.inj (by simp [BitVec.ofInt_add])
theorem m_of_sub (x y : Int) : Int32.ofInt (x - y) = Int32.ofInt x - Int32.ofInt y := by
  have h := m_of_add (x - y) y
  rw [show x - y + y = x by omega] at h
  rw [h, Int32.add_sub_cancel]
theorem m_of_mul (x y : Int) : Int32.ofInt (x * y) = Int32.ofInt x * Int32.ofInt y := Int32.toBitVec.inj (by simp [BitVec.ofInt_mul])
/-- a whole number in the range of an int -/
def m_R (x : Int) : Prop := -2147483648 ≤ x ∧ x < 2147483648
theorem m_R_to {x : Int} (h : m_R x) : (Int32.ofInt x).toInt = x := Int32.toInt_ofInt_of_le (by have := h.1; omega) (by have := h.2; omega)
theorem m_R_32 (x : Int32) : m_R x.toInt := ⟨Int32.le_toInt x, Int32.toInt_lt x⟩
theorem m_R_nat {x : Int} (h : m_R x) : (Int32.ofInt x).toNatClampNeg = x.toNat := Int32.toNatClampNeg_ofInt_of_le (by have := h.1; omega) (by have := h.2; omega)
theorem m_R_eq {x y : Int} (hx : m_R x) (hy : m_R y) : Int32.ofInt x = Int32.ofInt y ↔ x = y := by rw [← Int32.toInt_inj, m_R_to hx, m_R_to hy]
theorem m_R_lt {x y : Int} (hx : m_R x) (hy : m_R y) : Int32.ofInt x < Int32.ofInt y ↔ x < y := by rw [Int32.lt_iff_toInt_lt, m_R_to hx, m_R_to hy]
theorem m_R_le {x y : Int} (hx : m_R x) (hy : m_R y) : Int32.ofInt x ≤ Int32.ofInt y ↔ x ≤ y := by rw [Int32.le_iff_toInt_le, m_R_to hx, m_R_to hy]
theorem m_R_0 : m_R 0 := ⟨by decide, by decide⟩
theorem m_R_div {x y : Int} (hx : 0 ≤ x) (hx' : x < 2147483648) (hy : 0 < y) (hy' : y < 2147483648) : Int32.ofInt (x / y) = Int32.ofInt x / Int32.ofInt y := by
  have h1 := m_R_to (x := x) ⟨by omega, hx'⟩
  have h2 := m_R_to (x := y) ⟨by omega, hy'⟩
  have h3 : Int32.ofInt x ≠ Int32.minValue := by
    intro h
    have h4 := congrArg Int32.toInt h
    rw [h1, Int32.toInt_minValue] at h4
    omega
  have h5 : 0 ≤ x / y := Int.ediv_nonneg hx (by omega)
  have h6 : x / y ≤ x := Int.ediv_le_self y hx
  rw [← Int32.toInt_inj, m_R_to ⟨by omega, by omega⟩, Int32.toInt_div_of_ne_left _ _ h3, h1, h2, Int.tdiv_eq_ediv_of_nonneg hx]
theorem m_R_rem {x y : Int} (hx : 0 ≤ x) (hx' : x < 2147483648) (hy : 0 < y) (hy' : y < 2147483648) : Int32.ofInt (x % y) = Int32.ofInt x - Int32.ofInt x / Int32.ofInt y * Int32.ofInt y := by
  rw [← m_R_div hx hx' hy hy', ← m_of_mul, ← m_of_sub]
  congr 1
  have := Int.mul_ediv_add_emod x y
  rw [Int.mul_comm (x / y) y]
  omega
/-- the length of an instruction that the tables hold -/
def m_len : Instr → Nat
  | .iload _ | .aload _ | .lload _ | .fload _ | .istore _ | .astore _ | .lstore _ | .fstore _ | .bipush _ | .ldc _ | .newarray _ => 2
  | .sipush _ | .ldc_w _ | .iinc _ _ | .getfield _ | .putfield _ | .goto _ | .if_icmp _ _ | .ifCond _ _ | .invokevirtual _ | .invokespecial _ | .invokestatic _ | .new _ => 3
  | _ => 1
def m_okb (mi : Nat) (e : BE) : Bool :=
  (match e.2.1 with | .tableswitch .. => (match decode (m_cd mi) e.1 with | .ok (i, _) => decide (i = e.2.1) | _ => false) | _ => decide (decode (m_cd mi) e.1 = .ok (e.2.1, m_len e.2.1))) &&
  match e.2.1 with
  | .bipush n => decide ((Int8.ofInt n).toInt32 = Int32.ofInt e.2.2.2.2)
  | .sipush n => decide ((Int16.ofInt n).toInt32 = Int32.ofInt e.2.2.2.2)
  | .getfield i => decide ((m_on mi, i, e.2.2.1, e.2.2.2.1) ∈ m_flds)
  | .putfield i => decide ((m_on mi, i, e.2.2.1, e.2.2.2.1) ∈ m_flds) && (match vwCl[e.2.2.1]? with | some r => (if e.2.2.2.2 = 0 then decide (r.2.1 e.2.2.2.1 = ((r.2.1 e.2.2.2.1).1, (r.2.1 e.2.2.2.1).2.1, "I", false)) else (r.2.1 e.2.2.2.1).2.2.2 && decide (m_kind mi = 2) && decide ((r.2.1 e.2.2.2.1).1 = m_own mi) && (match parseFieldDescriptor (r.2.1 e.2.2.2.1).2.2.1 with | some (.object _) => true | some (.array _) => true | _ => false)) | none => false)
  | .invokevirtual i => decide ((m_on mi, i, e.2.2.1) ∈ m_mths) && decide (e.2.2.1 < 1000 ∧ 0 < e.2.2.1 ∧ m_kind e.2.2.1 = 1)
  | .invokespecial i => decide ((m_on mi, i, e.2.2.1) ∈ m_mths) && decide (e.2.2.1 = 1000 ∨ (e.2.2.1 < 1000 ∧ 0 < e.2.2.1 ∧ m_kind e.2.2.1 = 2))
  | .invokestatic i => decide ((m_on mi, i, e.2.2.1) ∈ m_mths) && decide (e.2.2.1 = 1001 ∨ e.2.2.1 = 1002 ∨ (e.2.2.1 < 1000 ∧ 0 < e.2.2.1 ∧ m_kind e.2.2.1 = 0))
  | .ldc i => decide ((m_on mi, i, e.2.2.2.1, e.2.2.2.2) ∈ m_csts)
  | .ldc_w i => decide ((m_on mi, i, e.2.2.2.1, e.2.2.2.2) ∈ m_csts)
  | .new i => decide ((m_on mi, i, e.2.2.1) ∈ m_clss)
  | .goto off => decide ((e.1 : Int) + off = (e.2.2.1 : Int))
  | .if_icmp _ off => decide ((e.1 : Int) + off = (e.2.2.1 : Int))
  | .ifCond _ off => decide ((e.1 : Int) + off = (e.2.2.1 : Int))
  | .newarray t => decide (newarray.typeOf t = (if e.2.2.1 = 0 then .int else if e.2.2.1 = 1 then .char else .long)) && decide (e.2.2.1 < 3)
  | _ => true

theorem m_bk0 : bd_0.all (m_okb 0) = true := by decide +kernel
theorem m_bk1 : bd_1.all (m_okb 1) = true := by decide +kernel
theorem m_bk2 : bd_2.all (m_okb 2) = true := by decide +kernel
theorem m_bk3 : bd_3.all (m_okb 3) = true := by decide +kernel
theorem m_bk4 : bd_4.all (m_okb 4) = true := by decide +kernel
theorem m_bk5 : bd_5.all (m_okb 5) = true := by decide +kernel
theorem m_bk6 : bd_6.all (m_okb 6) = true := by decide +kernel
theorem m_bk7 : bd_7.all (m_okb 7) = true := by decide +kernel
theorem m_bk8 : bd_8.all (m_okb 8) = true := by decide +kernel
theorem m_bk9 : bd_9.all (m_okb 9) = true := by decide +kernel
theorem m_bk10 : bd_10.all (m_okb 10) = true := by decide +kernel
theorem m_bk11 : bd_11.all (m_okb 11) = true := by decide +kernel
theorem m_bk12 : bd_12.all (m_okb 12) = true := by decide +kernel
theorem m_bk13 : bd_13.all (m_okb 13) = true := by decide +kernel
theorem m_bk14 : bd_14.all (m_okb 14) = true := by decide +kernel
theorem m_bk15 : bd_15.all (m_okb 15) = true := by decide +kernel
theorem m_bk16 : bd_16.all (m_okb 16) = true := by decide +kernel
theorem m_bk17 : bd_17.all (m_okb 17) = true := by decide +kernel
theorem m_bk18 : bd_18.all (m_okb 18) = true := by decide +kernel
theorem m_bk19 : bd_19.all (m_okb 19) = true := by decide +kernel
theorem m_bk20 : bd_20.all (m_okb 20) = true := by decide +kernel
theorem m_bk21 : bd_21.all (m_okb 21) = true := by decide +kernel
theorem m_bk22 : bd_22.all (m_okb 22) = true := by decide +kernel
theorem m_bk23 : bd_23.all (m_okb 23) = true := by decide +kernel
theorem m_bk24 : bd_24.all (m_okb 24) = true := by decide +kernel
theorem m_bk25 : bd_25.all (m_okb 25) = true := by decide +kernel
theorem m_bk26 : bd_26.all (m_okb 26) = true := by decide +kernel
theorem m_bk27 : bd_27.all (m_okb 27) = true := by decide +kernel
theorem m_bk28 : bd_28.all (m_okb 28) = true := by decide +kernel
theorem m_bk29 : bd_29.all (m_okb 29) = true := by decide +kernel
theorem m_bk30 : bd_30.all (m_okb 30) = true := by decide +kernel
theorem m_bk31 : bd_31.all (m_okb 31) = true := by decide +kernel
theorem m_bk32 : bd_32.all (m_okb 32) = true := by decide +kernel
theorem m_bk33 : bd_33.all (m_okb 33) = true := by decide +kernel
theorem m_bk34 : bd_34.all (m_okb 34) = true := by decide +kernel
theorem m_bk35 : bd_35.all (m_okb 35) = true := by decide +kernel
theorem m_bk36 : bd_36.all (m_okb 36) = true := by decide +kernel
theorem m_bk37 : bd_37.all (m_okb 37) = true := by decide +kernel
theorem m_bk38 : bd_38.all (m_okb 38) = true := by decide +kernel
theorem m_bk39 : bd_39.all (m_okb 39) = true := by decide +kernel
theorem m_bk40 : bd_40.all (m_okb 40) = true := by decide +kernel
theorem m_bk41 : bd_41.all (m_okb 41) = true := by decide +kernel
theorem m_bk42 : bd_42.all (m_okb 42) = true := by decide +kernel
theorem m_bk43 : bd_43.all (m_okb 43) = true := by decide +kernel
theorem m_bk44 : bd_44.all (m_okb 44) = true := by decide +kernel
theorem m_bk45 : bd_45.all (m_okb 45) = true := by decide +kernel
theorem m_bk46 : bd_46.all (m_okb 46) = true := by decide +kernel
theorem m_bk47 : bd_47.all (m_okb 47) = true := by decide +kernel
theorem m_bk48 : bd_48.all (m_okb 48) = true := by decide +kernel
theorem m_bk49 : bd_49.all (m_okb 49) = true := by decide +kernel
theorem m_bk50 : bd_50.all (m_okb 50) = true := by decide +kernel
theorem m_bk51 : bd_51.all (m_okb 51) = true := by decide +kernel
theorem m_bk52 : bd_52.all (m_okb 52) = true := by decide +kernel
theorem m_bk53 : bd_53.all (m_okb 53) = true := by decide +kernel
theorem m_bk54 : bd_54.all (m_okb 54) = true := by decide +kernel
theorem m_bk55 : bd_55.all (m_okb 55) = true := by decide +kernel
theorem m_bk56 : bd_56.all (m_okb 56) = true := by decide +kernel
theorem m_bk57 : bd_57.all (m_okb 57) = true := by decide +kernel
theorem m_bk58 : bd_58.all (m_okb 58) = true := by decide +kernel
theorem m_bk59 : bd_59.all (m_okb 59) = true := by decide +kernel
theorem m_bk60 : bd_60.all (m_okb 60) = true := by decide +kernel
theorem m_bk61 : bd_61.all (m_okb 61) = true := by decide +kernel
theorem m_bk62 : bd_62.all (m_okb 62) = true := by decide +kernel
theorem m_bk63 : bd_63.all (m_okb 63) = true := by decide +kernel
theorem m_bk64 : bd_64.all (m_okb 64) = true := by decide +kernel
theorem m_bk65 : bd_65.all (m_okb 65) = true := by decide +kernel
theorem m_bk66 : bd_66.all (m_okb 66) = true := by decide +kernel
theorem m_bk67 : bd_67.all (m_okb 67) = true := by decide +kernel
theorem m_bk68 : bd_68.all (m_okb 68) = true := by decide +kernel
theorem m_bk69 : bd_69.all (m_okb 69) = true := by decide +kernel
theorem m_bk70 : bd_70.all (m_okb 70) = true := by decide +kernel
theorem m_bk71 : bd_71.all (m_okb 71) = true := by decide +kernel
theorem m_bk72 : bd_72.all (m_okb 72) = true := by decide +kernel
theorem m_bk73 : bd_73.all (m_okb 73) = true := by decide +kernel
theorem m_bk74 : bd_74.all (m_okb 74) = true := by decide +kernel
theorem m_bk75 : bd_75.all (m_okb 75) = true := by decide +kernel
theorem m_bk76 : bd_76.all (m_okb 76) = true := by decide +kernel
theorem m_bk77 : bd_77.all (m_okb 77) = true := by decide +kernel
theorem m_bk78 : bd_78.all (m_okb 78) = true := by decide +kernel
theorem m_bk79 : bd_79.all (m_okb 79) = true := by decide +kernel
theorem m_bk80 : bd_80.all (m_okb 80) = true := by decide +kernel
theorem m_bk81 : bd_81.all (m_okb 81) = true := by decide +kernel
theorem m_bk82 : bd_82.all (m_okb 82) = true := by decide +kernel
theorem m_bk83 : bd_83.all (m_okb 83) = true := by decide +kernel
theorem m_bk84 : bd_84.all (m_okb 84) = true := by decide +kernel
theorem m_bk85 : bd_85.all (m_okb 85) = true := by decide +kernel
theorem m_bk86 : bd_86.all (m_okb 86) = true := by decide +kernel
theorem m_bk87 : bd_87.all (m_okb 87) = true := by decide +kernel
theorem m_bk88 : bd_88.all (m_okb 88) = true := by decide +kernel
theorem m_bk89 : bd_89.all (m_okb 89) = true := by decide +kernel
theorem m_bk90 : bd_90.all (m_okb 90) = true := by decide +kernel
theorem m_bk91 : bd_91.all (m_okb 91) = true := by decide +kernel
theorem m_bk92 : bd_92.all (m_okb 92) = true := by decide +kernel
theorem m_bk93 : bd_93.all (m_okb 93) = true := by decide +kernel
theorem m_bk94 : bd_94.all (m_okb 94) = true := by decide +kernel
theorem m_bk95 : bd_95.all (m_okb 95) = true := by decide +kernel
theorem m_bk96 : bd_96.all (m_okb 96) = true := by decide +kernel
theorem m_bk97 : bd_97.all (m_okb 97) = true := by decide +kernel
theorem m_bk98 : bd_98.all (m_okb 98) = true := by decide +kernel
theorem m_bk99 : bd_99.all (m_okb 99) = true := by decide +kernel
theorem m_bk100 : bd_100.all (m_okb 100) = true := by decide +kernel
theorem m_bk101 : bd_101.all (m_okb 101) = true := by decide +kernel
theorem m_bk102 : bd_102.all (m_okb 102) = true := by decide +kernel
theorem m_bk103 : bd_103.all (m_okb 103) = true := by decide +kernel
theorem m_bk104 : bd_104.all (m_okb 104) = true := by decide +kernel
theorem m_bk105 : bd_105.all (m_okb 105) = true := by decide +kernel
theorem m_bk106 : bd_106.all (m_okb 106) = true := by decide +kernel
theorem m_bk107 : bd_107.all (m_okb 107) = true := by decide +kernel
theorem m_bk108 : bd_108.all (m_okb 108) = true := by decide +kernel
theorem m_bk109 : bd_109.all (m_okb 109) = true := by decide +kernel
theorem m_bk110 : bd_110.all (m_okb 110) = true := by decide +kernel
theorem m_bk111 : bd_111.all (m_okb 111) = true := by decide +kernel
theorem m_bk112 : bd_112.all (m_okb 112) = true := by decide +kernel
theorem m_bk113 : bd_113.all (m_okb 113) = true := by decide +kernel
theorem m_bk114 : bd_114.all (m_okb 114) = true := by decide +kernel
theorem m_bk115 : bd_115.all (m_okb 115) = true := by decide +kernel
theorem m_bk116 : bd_116.all (m_okb 116) = true := by decide +kernel
theorem m_bk117 : bd_117.all (m_okb 117) = true := by decide +kernel
theorem m_bk118 : bd_118.all (m_okb 118) = true := by decide +kernel
theorem m_bk119 : bd_119.all (m_okb 119) = true := by decide +kernel
theorem m_bk120 : bd_120.all (m_okb 120) = true := by decide +kernel
theorem m_bk121 : bd_121.all (m_okb 121) = true := by decide +kernel
theorem m_bk122 : bd_122.all (m_okb 122) = true := by decide +kernel
theorem m_bk123 : bd_123.all (m_okb 123) = true := by decide +kernel
theorem m_bk124 : bd_124.all (m_okb 124) = true := by decide +kernel
theorem m_bk125 : bd_125.all (m_okb 125) = true := by decide +kernel
theorem m_bk126 : bd_126.all (m_okb 126) = true := by decide +kernel
theorem m_bk127 : bd_127.all (m_okb 127) = true := by decide +kernel
theorem m_bk128 : bd_128.all (m_okb 128) = true := by decide +kernel
theorem m_bk129 : bd_129.all (m_okb 129) = true := by decide +kernel
theorem m_bk130 : bd_130.all (m_okb 130) = true := by decide +kernel
theorem m_bk131 : bd_131.all (m_okb 131) = true := by decide +kernel
theorem m_bk132 : bd_132.all (m_okb 132) = true := by decide +kernel
theorem m_bk133 : bd_133.all (m_okb 133) = true := by decide +kernel
theorem m_bk134 : bd_134.all (m_okb 134) = true := by decide +kernel
theorem m_bk135 : bd_135.all (m_okb 135) = true := by decide +kernel
theorem m_bk136 : bd_136.all (m_okb 136) = true := by decide +kernel
theorem m_bk137 : bd_137.all (m_okb 137) = true := by decide +kernel
theorem m_bk138 : bd_138.all (m_okb 138) = true := by decide +kernel
theorem m_bk139 : bd_139.all (m_okb 139) = true := by decide +kernel
theorem m_bk140 : bd_140.all (m_okb 140) = true := by decide +kernel
theorem m_bk141 : bd_141.all (m_okb 141) = true := by decide +kernel
theorem m_bk142 : bd_142.all (m_okb 142) = true := by decide +kernel
theorem m_bk143 : bd_143.all (m_okb 143) = true := by decide +kernel
theorem m_bk144 : bd_144.all (m_okb 144) = true := by decide +kernel
theorem m_bk145 : bd_145.all (m_okb 145) = true := by decide +kernel
theorem m_bk146 : bd_146.all (m_okb 146) = true := by decide +kernel
theorem m_bk147 : bd_147.all (m_okb 147) = true := by decide +kernel
theorem m_bk148 : bd_148.all (m_okb 148) = true := by decide +kernel
theorem m_bk : ∀ mi, ∀ e ∈ m_bodies.getD mi [], m_okb mi e = true := by
  intro mi e he
  match mi, he with
  | 0, he => exact List.all_eq_true.mp m_bk0 e he
  | 1, he => exact List.all_eq_true.mp m_bk1 e he
  | 2, he => exact List.all_eq_true.mp m_bk2 e he
  | 3, he => exact List.all_eq_true.mp m_bk3 e he
  | 4, he => exact List.all_eq_true.mp m_bk4 e he
  | 5, he => exact List.all_eq_true.mp m_bk5 e he
  | 6, he => exact List.all_eq_true.mp m_bk6 e he
  | 7, he => exact List.all_eq_true.mp m_bk7 e he
  | 8, he => exact List.all_eq_true.mp m_bk8 e he
  | 9, he => exact List.all_eq_true.mp m_bk9 e he
  | 10, he => exact List.all_eq_true.mp m_bk10 e he
  | 11, he => exact List.all_eq_true.mp m_bk11 e he
  | 12, he => exact List.all_eq_true.mp m_bk12 e he
  | 13, he => exact List.all_eq_true.mp m_bk13 e he
  | 14, he => exact List.all_eq_true.mp m_bk14 e he
  | 15, he => exact List.all_eq_true.mp m_bk15 e he
  | 16, he => exact List.all_eq_true.mp m_bk16 e he
  | 17, he => exact List.all_eq_true.mp m_bk17 e he
  | 18, he => exact List.all_eq_true.mp m_bk18 e he
  | 19, he => exact List.all_eq_true.mp m_bk19 e he
  | 20, he => exact List.all_eq_true.mp m_bk20 e he
  | 21, he => exact List.all_eq_true.mp m_bk21 e he
  | 22, he => exact List.all_eq_true.mp m_bk22 e he
  | 23, he => exact List.all_eq_true.mp m_bk23 e he
  | 24, he => exact List.all_eq_true.mp m_bk24 e he
  | 25, he => exact List.all_eq_true.mp m_bk25 e he
  | 26, he => exact List.all_eq_true.mp m_bk26 e he
  | 27, he => exact List.all_eq_true.mp m_bk27 e he
  | 28, he => exact List.all_eq_true.mp m_bk28 e he
  | 29, he => exact List.all_eq_true.mp m_bk29 e he
  | 30, he => exact List.all_eq_true.mp m_bk30 e he
  | 31, he => exact List.all_eq_true.mp m_bk31 e he
  | 32, he => exact List.all_eq_true.mp m_bk32 e he
  | 33, he => exact List.all_eq_true.mp m_bk33 e he
  | 34, he => exact List.all_eq_true.mp m_bk34 e he
  | 35, he => exact List.all_eq_true.mp m_bk35 e he
  | 36, he => exact List.all_eq_true.mp m_bk36 e he
  | 37, he => exact List.all_eq_true.mp m_bk37 e he
  | 38, he => exact List.all_eq_true.mp m_bk38 e he
  | 39, he => exact List.all_eq_true.mp m_bk39 e he
  | 40, he => exact List.all_eq_true.mp m_bk40 e he
  | 41, he => exact List.all_eq_true.mp m_bk41 e he
  | 42, he => exact List.all_eq_true.mp m_bk42 e he
  | 43, he => exact List.all_eq_true.mp m_bk43 e he
  | 44, he => exact List.all_eq_true.mp m_bk44 e he
  | 45, he => exact List.all_eq_true.mp m_bk45 e he
  | 46, he => exact List.all_eq_true.mp m_bk46 e he
  | 47, he => exact List.all_eq_true.mp m_bk47 e he
  | 48, he => exact List.all_eq_true.mp m_bk48 e he
  | 49, he => exact List.all_eq_true.mp m_bk49 e he
  | 50, he => exact List.all_eq_true.mp m_bk50 e he
  | 51, he => exact List.all_eq_true.mp m_bk51 e he
  | 52, he => exact List.all_eq_true.mp m_bk52 e he
  | 53, he => exact List.all_eq_true.mp m_bk53 e he
  | 54, he => exact List.all_eq_true.mp m_bk54 e he
  | 55, he => exact List.all_eq_true.mp m_bk55 e he
  | 56, he => exact List.all_eq_true.mp m_bk56 e he
  | 57, he => exact List.all_eq_true.mp m_bk57 e he
  | 58, he => exact List.all_eq_true.mp m_bk58 e he
  | 59, he => exact List.all_eq_true.mp m_bk59 e he
  | 60, he => exact List.all_eq_true.mp m_bk60 e he
  | 61, he => exact List.all_eq_true.mp m_bk61 e he
  | 62, he => exact List.all_eq_true.mp m_bk62 e he
  | 63, he => exact List.all_eq_true.mp m_bk63 e he
  | 64, he => exact List.all_eq_true.mp m_bk64 e he
  | 65, he => exact List.all_eq_true.mp m_bk65 e he
  | 66, he => exact List.all_eq_true.mp m_bk66 e he
  | 67, he => exact List.all_eq_true.mp m_bk67 e he
  | 68, he => exact List.all_eq_true.mp m_bk68 e he
  | 69, he => exact List.all_eq_true.mp m_bk69 e he
  | 70, he => exact List.all_eq_true.mp m_bk70 e he
  | 71, he => exact List.all_eq_true.mp m_bk71 e he
  | 72, he => exact List.all_eq_true.mp m_bk72 e he
  | 73, he => exact List.all_eq_true.mp m_bk73 e he
  | 74, he => exact List.all_eq_true.mp m_bk74 e he
  | 75, he => exact List.all_eq_true.mp m_bk75 e he
  | 76, he => exact List.all_eq_true.mp m_bk76 e he
  | 77, he => exact List.all_eq_true.mp m_bk77 e he
  | 78, he => exact List.all_eq_true.mp m_bk78 e he
  | 79, he => exact List.all_eq_true.mp m_bk79 e he
  | 80, he => exact List.all_eq_true.mp m_bk80 e he
  | 81, he => exact List.all_eq_true.mp m_bk81 e he
  | 82, he => exact List.all_eq_true.mp m_bk82 e he
  | 83, he => exact List.all_eq_true.mp m_bk83 e he
  | 84, he => exact List.all_eq_true.mp m_bk84 e he
  | 85, he => exact List.all_eq_true.mp m_bk85 e he
  | 86, he => exact List.all_eq_true.mp m_bk86 e he
  | 87, he => exact List.all_eq_true.mp m_bk87 e he
  | 88, he => exact List.all_eq_true.mp m_bk88 e he
  | 89, he => exact List.all_eq_true.mp m_bk89 e he
  | 90, he => exact List.all_eq_true.mp m_bk90 e he
  | 91, he => exact List.all_eq_true.mp m_bk91 e he
  | 92, he => exact List.all_eq_true.mp m_bk92 e he
  | 93, he => exact List.all_eq_true.mp m_bk93 e he
  | 94, he => exact List.all_eq_true.mp m_bk94 e he
  | 95, he => exact List.all_eq_true.mp m_bk95 e he
  | 96, he => exact List.all_eq_true.mp m_bk96 e he
  | 97, he => exact List.all_eq_true.mp m_bk97 e he
  | 98, he => exact List.all_eq_true.mp m_bk98 e he
  | 99, he => exact List.all_eq_true.mp m_bk99 e he
  | 100, he => exact List.all_eq_true.mp m_bk100 e he
  | 101, he => exact List.all_eq_true.mp m_bk101 e he
  | 102, he => exact List.all_eq_true.mp m_bk102 e he
  | 103, he => exact List.all_eq_true.mp m_bk103 e he
  | 104, he => exact List.all_eq_true.mp m_bk104 e he
  | 105, he => exact List.all_eq_true.mp m_bk105 e he
  | 106, he => exact List.all_eq_true.mp m_bk106 e he
  | 107, he => exact List.all_eq_true.mp m_bk107 e he
  | 108, he => exact List.all_eq_true.mp m_bk108 e he
  | 109, he => exact List.all_eq_true.mp m_bk109 e he
  | 110, he => exact List.all_eq_true.mp m_bk110 e he
  | 111, he => exact List.all_eq_true.mp m_bk111 e he
  | 112, he => exact List.all_eq_true.mp m_bk112 e he
  | 113, he => exact List.all_eq_true.mp m_bk113 e he
  | 114, he => exact List.all_eq_true.mp m_bk114 e he
  | 115, he => exact List.all_eq_true.mp m_bk115 e he
  | 116, he => exact List.all_eq_true.mp m_bk116 e he
  | 117, he => exact List.all_eq_true.mp m_bk117 e he
  | 118, he => exact List.all_eq_true.mp m_bk118 e he
  | 119, he => exact List.all_eq_true.mp m_bk119 e he
  | 120, he => exact List.all_eq_true.mp m_bk120 e he
  | 121, he => exact List.all_eq_true.mp m_bk121 e he
  | 122, he => exact List.all_eq_true.mp m_bk122 e he
  | 123, he => exact List.all_eq_true.mp m_bk123 e he
  | 124, he => exact List.all_eq_true.mp m_bk124 e he
  | 125, he => exact List.all_eq_true.mp m_bk125 e he
  | 126, he => exact List.all_eq_true.mp m_bk126 e he
  | 127, he => exact List.all_eq_true.mp m_bk127 e he
  | 128, he => exact List.all_eq_true.mp m_bk128 e he
  | 129, he => exact List.all_eq_true.mp m_bk129 e he
  | 130, he => exact List.all_eq_true.mp m_bk130 e he
  | 131, he => exact List.all_eq_true.mp m_bk131 e he
  | 132, he => exact List.all_eq_true.mp m_bk132 e he
  | 133, he => exact List.all_eq_true.mp m_bk133 e he
  | 134, he => exact List.all_eq_true.mp m_bk134 e he
  | 135, he => exact List.all_eq_true.mp m_bk135 e he
  | 136, he => exact List.all_eq_true.mp m_bk136 e he
  | 137, he => exact List.all_eq_true.mp m_bk137 e he
  | 138, he => exact List.all_eq_true.mp m_bk138 e he
  | 139, he => exact List.all_eq_true.mp m_bk139 e he
  | 140, he => exact List.all_eq_true.mp m_bk140 e he
  | 141, he => exact List.all_eq_true.mp m_bk141 e he
  | 142, he => exact List.all_eq_true.mp m_bk142 e he
  | 143, he => exact List.all_eq_true.mp m_bk143 e he
  | 144, he => exact List.all_eq_true.mp m_bk144 e he
  | 145, he => exact List.all_eq_true.mp m_bk145 e he
  | 146, he => exact List.all_eq_true.mp m_bk146 e he
  | 147, he => exact List.all_eq_true.mp m_bk147 e he
  | 148, he => exact List.all_eq_true.mp m_bk148 e he
  | k + 149, he => exact absurd he (by rw [List.getD_eq_getElem?_getD, List.getElem?_eq_none (by show 149 ≤ k + 149; omega)]; exact List.not_mem_nil)

theorem m_fetch_ok {mi pc : Nat} {e : BE} (h : m_fetch mi pc = some e) : e.1 = pc ∧ m_okb mi e = true := by
  refine ⟨?_, m_bk mi e (List.mem_of_find?_eq_some h)⟩
  have := List.find?_some h
  simpa using this

