def heldS (n : Int) (tb : Int → Int → Int) : Int := sumF (fun l => if wcode (witS n tb l) = -1 then 1 else 0) 8 0
/-- the bits of k eighths -/
def shB (k : Int) : Int := if k = 0 then 0 else if k = 1 then 1040187392 else if k = 2 then 1048576000 else if k = 3 then 1052770304 else if k = 4 then 1056964608 else if k = 5 then 1059061760 else if k = 6 then 1061158912 else if k = 7 then 1063256064 else 1065353216
theorem heldS_in (n : Int) (tb : Int → Int → Int) : 0 ≤ heldS n tb ∧ heldS n tb ≤ 8 := by
  have h := sum_bound (f := fun l => if wcode (witS n tb l) = -1 then 1 else 0) (B := 1) 8 0 (fun j _ _ => by split <;> decide)
  exact ⟨h.1, by have h2 : heldS n tb ≤ ((8 : Nat) : Int) * 1 := h.2; omega⟩
set_option maxHeartbeats 4000000 in
set_option maxRecDepth 100000 in
theorem k_bits0 {X : Nat × Nat × (Nat → Int32)} {n : Int} {T : Int → Int} {h : HS} {t : TS} {x : XS} {M : MS} : m_Run X 41 [.inr (.inr (.float 0))] (mW (n, T, h, t, x) M) (m_V 0 (mW (n, T, h, t, x) M)) := by
  show m_Sem X 41 (0, [some (.inr (.inr (.float 0))), none, none, none], [], mW (n, T, h, t, x) M, 0, 0) _
  refine m_run 3 (ps' := (3, [some (.inr (.inr (.float 0))), none, none, none], [.inl ((Op.cmpValue (FP.fcmp 0 FP.fconst0) .g).toInt)], mW (n, T, h, t, x) M, 0, 0)) rfl ?_
  refine m_if rfl ⟨by decide +kernel, by decide +kernel⟩ (fun (zc1 : 0 < (Op.cmpValue (FP.fcmp 0 FP.fconst0) .g).toInt) => absurd zc1 (by decide +kernel)) (fun (zc1 : ¬ 0 < (Op.cmpValue (FP.fcmp 0 FP.fconst0) .g).toInt) => ?_)
  refine m_run 1 (ps' := (7, [some (.inr (.inr (.float 0))), none, none, none], [.inl 0], mW (n, T, h, t, x) M, 0, 0)) rfl ?_
  exact m_ret1 rfl (Or.inl rfl) rfl (m_Vi (by decide +kernel))
set_option maxHeartbeats 4000000 in
set_option maxRecDepth 100000 in
theorem k_bits1 {X : Nat × Nat × (Nat → Int32)} {n : Int} {T : Int → Int} {h : HS} {t : TS} {x : XS} {M : MS} : m_Run X 41 [.inr (.inr (.float 1040187392))] (mW (n, T, h, t, x) M) (m_V 1040187392 (mW (n, T, h, t, x) M)) := by
  show m_Sem X 41 (0, [some (.inr (.inr (.float 1040187392))), none, none, none], [], mW (n, T, h, t, x) M, 0, 0) _
  refine m_run 3 (ps' := (3, [some (.inr (.inr (.float 1040187392))), none, none, none], [.inl ((Op.cmpValue (FP.fcmp 1040187392 FP.fconst0) .g).toInt)], mW (n, T, h, t, x) M, 0, 0)) rfl ?_
  refine m_if rfl ⟨by decide +kernel, by decide +kernel⟩ (fun (zc1 : 0 < (Op.cmpValue (FP.fcmp 1040187392 FP.fconst0) .g).toInt) => ?_) (fun (zc1 : ¬ 0 < (Op.cmpValue (FP.fcmp 1040187392 FP.fconst0) .g).toInt) => absurd zc1 (not_not_intro (by decide +kernel)))
  refine m_run 8 (ps' := (18, [some (.inr (.inr (.float 1040187392))), some (.inr (.inr (.float 1040187392))), some (.inl 127), some (.inl 0)], [.inl 126, .inl 0], mW (n, T, h, t, x) M, 0, 0)) rfl ?_
  refine m_icmp rfl ⟨by omega, by omega⟩ ⟨by omega, by omega⟩ (fun (zc2 : 126 ≤ 0) => absurd zc2 (by omega)) (fun (zc2 : ¬ 126 ≤ 0) => ?_)
  refine m_run 3 (ps' := (24, [some (.inr (.inr (.float 1040187392))), some (.inr (.inr (.float 1040187392))), some (.inl 127), some (.inl 0)], [.inl ((Op.cmpValue (FP.fcmp 1040187392 FP.fconst1) .g).toInt)], mW (n, T, h, t, x) M, 0, 0)) rfl ?_
  refine m_if rfl ⟨by decide +kernel, by decide +kernel⟩ (fun (zc3 : 0 ≤ (Op.cmpValue (FP.fcmp 1040187392 FP.fconst1) .g).toInt) => absurd zc3 (by decide +kernel)) (fun (zc3 : ¬ 0 ≤ (Op.cmpValue (FP.fcmp 1040187392 FP.fconst1) .g).toInt) => ?_)
  refine m_run 2 (ps' := (29, [some (.inr (.inr (.float 1040187392))), some (.inr (.inr (.float 1040187392))), some (.inl 127), some (.inl 0)], [.inr (.inr (.float FP.fconst2)), .inr (.inr (.float 1040187392))], mW (n, T, h, t, x) M, 0, 0)) rfl ?_
  refine m_fmul (v := 1048576000) rfl (by decide +kernel) (show vf_n32 1048576000 from by unfold vf_n32; decide +kernel) ?_
  refine m_run 6 (ps' := (18, [some (.inr (.inr (.float 1040187392))), some (.inr (.inr (.float 1048576000))), some (.inl (127 + (-1))), some (.inl (0 + 1))], [.inl 126, .inl (0 + 1)], mW (n, T, h, t, x) M, 0, 0)) rfl ?_
  refine m_icmp rfl ⟨by omega, by omega⟩ ⟨by omega, by omega⟩ (fun (zc4 : 126 ≤ (0 + 1)) => absurd zc4 (by omega)) (fun (zc4 : ¬ 126 ≤ (0 + 1)) => ?_)
  refine m_run 3 (ps' := (24, [some (.inr (.inr (.float 1040187392))), some (.inr (.inr (.float 1048576000))), some (.inl (127 + (-1))), some (.inl (0 + 1))], [.inl ((Op.cmpValue (FP.fcmp 1048576000 FP.fconst1) .g).toInt)], mW (n, T, h, t, x) M, 0, 0)) rfl ?_
  refine m_if rfl ⟨by decide +kernel, by decide +kernel⟩ (fun (zc5 : 0 ≤ (Op.cmpValue (FP.fcmp 1048576000 FP.fconst1) .g).toInt) => absurd zc5 (by decide +kernel)) (fun (zc5 : ¬ 0 ≤ (Op.cmpValue (FP.fcmp 1048576000 FP.fconst1) .g).toInt) => ?_)
  refine m_run 2 (ps' := (29, [some (.inr (.inr (.float 1040187392))), some (.inr (.inr (.float 1048576000))), some (.inl (127 + (-1))), some (.inl (0 + 1))], [.inr (.inr (.float FP.fconst2)), .inr (.inr (.float 1048576000))], mW (n, T, h, t, x) M, 0, 0)) rfl ?_
  refine m_fmul (v := 1056964608) rfl (by decide +kernel) (show vf_n32 1056964608 from by unfold vf_n32; decide +kernel) ?_
  refine m_run 6 (ps' := (18, [some (.inr (.inr (.float 1040187392))), some (.inr (.inr (.float 1056964608))), some (.inl ((127 + (-1)) + (-1))), some (.inl ((0 + 1) + 1))], [.inl 126, .inl ((0 + 1) + 1)], mW (n, T, h, t, x) M, 0, 0)) rfl ?_
  refine m_icmp rfl ⟨by omega, by omega⟩ ⟨by omega, by omega⟩ (fun (zc6 : 126 ≤ ((0 + 1) + 1)) => absurd zc6 (by omega)) (fun (zc6 : ¬ 126 ≤ ((0 + 1) + 1)) => ?_)
  refine m_run 3 (ps' := (24, [some (.inr (.inr (.float 1040187392))), some (.inr (.inr (.float 1056964608))), some (.inl ((127 + (-1)) + (-1))), some (.inl ((0 + 1) + 1))], [.inl ((Op.cmpValue (FP.fcmp 1056964608 FP.fconst1) .g).toInt)], mW (n, T, h, t, x) M, 0, 0)) rfl ?_
  refine m_if rfl ⟨by decide +kernel, by decide +kernel⟩ (fun (zc7 : 0 ≤ (Op.cmpValue (FP.fcmp 1056964608 FP.fconst1) .g).toInt) => absurd zc7 (by decide +kernel)) (fun (zc7 : ¬ 0 ≤ (Op.cmpValue (FP.fcmp 1056964608 FP.fconst1) .g).toInt) => ?_)
  refine m_run 2 (ps' := (29, [some (.inr (.inr (.float 1040187392))), some (.inr (.inr (.float 1056964608))), some (.inl ((127 + (-1)) + (-1))), some (.inl ((0 + 1) + 1))], [.inr (.inr (.float FP.fconst2)), .inr (.inr (.float 1056964608))], mW (n, T, h, t, x) M, 0, 0)) rfl ?_
  refine m_fmul (v := 1065353216) rfl (by decide +kernel) (show vf_n32 1065353216 from by unfold vf_n32; decide +kernel) ?_
  refine m_run 6 (ps' := (18, [some (.inr (.inr (.float 1040187392))), some (.inr (.inr (.float 1065353216))), some (.inl (((127 + (-1)) + (-1)) + (-1))), some (.inl (((0 + 1) + 1) + 1))], [.inl 126, .inl (((0 + 1) + 1) + 1)], mW (n, T, h, t, x) M, 0, 0)) rfl ?_
  refine m_icmp rfl ⟨by omega, by omega⟩ ⟨by omega, by omega⟩ (fun (zc8 : 126 ≤ (((0 + 1) + 1) + 1)) => absurd zc8 (by omega)) (fun (zc8 : ¬ 126 ≤ (((0 + 1) + 1) + 1)) => ?_)
  refine m_run 3 (ps' := (24, [some (.inr (.inr (.float 1040187392))), some (.inr (.inr (.float 1065353216))), some (.inl (((127 + (-1)) + (-1)) + (-1))), some (.inl (((0 + 1) + 1) + 1))], [.inl ((Op.cmpValue (FP.fcmp 1065353216 FP.fconst1) .g).toInt)], mW (n, T, h, t, x) M, 0, 0)) rfl ?_
  refine m_if rfl ⟨by decide +kernel, by decide +kernel⟩ (fun (zc9 : 0 ≤ (Op.cmpValue (FP.fcmp 1065353216 FP.fconst1) .g).toInt) => ?_) (fun (zc9 : ¬ 0 ≤ (Op.cmpValue (FP.fcmp 1065353216 FP.fconst1) .g).toInt) => absurd zc9 (not_not_intro (by decide +kernel)))
  refine m_run 5 (ps' := (46, [some (.inr (.inr (.float 1040187392))), some (.inr (.inr (.float 1065353216))), some (.inl (((127 + (-1)) + (-1)) + (-1))), some (.inl (((0 + 1) + 1) + 1))], [.inr (.inr (.float FP.fconst1)), .inr (.inr (.float 1065353216)), .inl ((Int32.ofInt (((127 + (-1)) + (-1)) + (-1)) <<< (Int32.ofInt 23 &&& 31)).toInt)], mW (n, T, h, t, x) M, 0, 0)) rfl ?_
  refine m_fsub (v := 0) rfl (by decide +kernel) (show vf_n32 0 from by unfold vf_n32; decide +kernel) ?_
  refine m_run 1 (ps' := (49, [some (.inr (.inr (.float 1040187392))), some (.inr (.inr (.float 1065353216))), some (.inl (((127 + (-1)) + (-1)) + (-1))), some (.inl (((0 + 1) + 1) + 1))], [.inr (.inr (.float 1258291200)), .inr (.inr (.float 0)), .inl ((Int32.ofInt (((127 + (-1)) + (-1)) + (-1)) <<< (Int32.ofInt 23 &&& 31)).toInt)], mW (n, T, h, t, x) M, 0, 0)) rfl ?_
  refine m_fmul (v := 0) rfl (by decide +kernel) (show vf_n32 0 from by unfold vf_n32; decide +kernel) ?_
  refine m_run 2 (ps' := (52, [some (.inr (.inr (.float 1040187392))), some (.inr (.inr (.float 1065353216))), some (.inl (((127 + (-1)) + (-1)) + (-1))), some (.inl (((0 + 1) + 1) + 1))], [.inl ((Int32.ofInt (((127 + (-1)) + (-1)) + (-1)) <<< (Int32.ofInt 23 &&& 31)).toInt + (FP.f2i 0).toInt)], mW (n, T, h, t, x) M, 0, 0)) rfl ?_
  exact m_ret1 rfl (Or.inl rfl) rfl (m_Vi (by decide +kernel))
set_option maxHeartbeats 4000000 in
set_option maxRecDepth 100000 in
theorem k_bits2 {X : Nat × Nat × (Nat → Int32)} {n : Int} {T : Int → Int} {h : HS} {t : TS} {x : XS} {M : MS} : m_Run X 41 [.inr (.inr (.float 1048576000))] (mW (n, T, h, t, x) M) (m_V 1048576000 (mW (n, T, h, t, x) M)) := by
  show m_Sem X 41 (0, [some (.inr (.inr (.float 1048576000))), none, none, none], [], mW (n, T, h, t, x) M, 0, 0) _
  refine m_run 3 (ps' := (3, [some (.inr (.inr (.float 1048576000))), none, none, none], [.inl ((Op.cmpValue (FP.fcmp 1048576000 FP.fconst0) .g).toInt)], mW (n, T, h, t, x) M, 0, 0)) rfl ?_
  refine m_if rfl ⟨by decide +kernel, by decide +kernel⟩ (fun (zc1 : 0 < (Op.cmpValue (FP.fcmp 1048576000 FP.fconst0) .g).toInt) => ?_) (fun (zc1 : ¬ 0 < (Op.cmpValue (FP.fcmp 1048576000 FP.fconst0) .g).toInt) => absurd zc1 (not_not_intro (by decide +kernel)))
  refine m_run 8 (ps' := (18, [some (.inr (.inr (.float 1048576000))), some (.inr (.inr (.float 1048576000))), some (.inl 127), some (.inl 0)], [.inl 126, .inl 0], mW (n, T, h, t, x) M, 0, 0)) rfl ?_
  refine m_icmp rfl ⟨by omega, by omega⟩ ⟨by omega, by omega⟩ (fun (zc2 : 126 ≤ 0) => absurd zc2 (by omega)) (fun (zc2 : ¬ 126 ≤ 0) => ?_)
  refine m_run 3 (ps' := (24, [some (.inr (.inr (.float 1048576000))), some (.inr (.inr (.float 1048576000))), some (.inl 127), some (.inl 0)], [.inl ((Op.cmpValue (FP.fcmp 1048576000 FP.fconst1) .g).toInt)], mW (n, T, h, t, x) M, 0, 0)) rfl ?_
  refine m_if rfl ⟨by decide +kernel, by decide +kernel⟩ (fun (zc3 : 0 ≤ (Op.cmpValue (FP.fcmp 1048576000 FP.fconst1) .g).toInt) => absurd zc3 (by decide +kernel)) (fun (zc3 : ¬ 0 ≤ (Op.cmpValue (FP.fcmp 1048576000 FP.fconst1) .g).toInt) => ?_)
  refine m_run 2 (ps' := (29, [some (.inr (.inr (.float 1048576000))), some (.inr (.inr (.float 1048576000))), some (.inl 127), some (.inl 0)], [.inr (.inr (.float FP.fconst2)), .inr (.inr (.float 1048576000))], mW (n, T, h, t, x) M, 0, 0)) rfl ?_
  refine m_fmul (v := 1056964608) rfl (by decide +kernel) (show vf_n32 1056964608 from by unfold vf_n32; decide +kernel) ?_
  refine m_run 6 (ps' := (18, [some (.inr (.inr (.float 1048576000))), some (.inr (.inr (.float 1056964608))), some (.inl (127 + (-1))), some (.inl (0 + 1))], [.inl 126, .inl (0 + 1)], mW (n, T, h, t, x) M, 0, 0)) rfl ?_
  refine m_icmp rfl ⟨by omega, by omega⟩ ⟨by omega, by omega⟩ (fun (zc4 : 126 ≤ (0 + 1)) => absurd zc4 (by omega)) (fun (zc4 : ¬ 126 ≤ (0 + 1)) => ?_)
  refine m_run 3 (ps' := (24, [some (.inr (.inr (.float 1048576000))), some (.inr (.inr (.float 1056964608))), some (.inl (127 + (-1))), some (.inl (0 + 1))], [.inl ((Op.cmpValue (FP.fcmp 1056964608 FP.fconst1) .g).toInt)], mW (n, T, h, t, x) M, 0, 0)) rfl ?_
  refine m_if rfl ⟨by decide +kernel, by decide +kernel⟩ (fun (zc5 : 0 ≤ (Op.cmpValue (FP.fcmp 1056964608 FP.fconst1) .g).toInt) => absurd zc5 (by decide +kernel)) (fun (zc5 : ¬ 0 ≤ (Op.cmpValue (FP.fcmp 1056964608 FP.fconst1) .g).toInt) => ?_)
  refine m_run 2 (ps' := (29, [some (.inr (.inr (.float 1048576000))), some (.inr (.inr (.float 1056964608))), some (.inl (127 + (-1))), some (.inl (0 + 1))], [.inr (.inr (.float FP.fconst2)), .inr (.inr (.float 1056964608))], mW (n, T, h, t, x) M, 0, 0)) rfl ?_
  refine m_fmul (v := 1065353216) rfl (by decide +kernel) (show vf_n32 1065353216 from by unfold vf_n32; decide +kernel) ?_
  refine m_run 6 (ps' := (18, [some (.inr (.inr (.float 1048576000))), some (.inr (.inr (.float 1065353216))), some (.inl ((127 + (-1)) + (-1))), some (.inl ((0 + 1) + 1))], [.inl 126, .inl ((0 + 1) + 1)], mW (n, T, h, t, x) M, 0, 0)) rfl ?_
  refine m_icmp rfl ⟨by omega, by omega⟩ ⟨by omega, by omega⟩ (fun (zc6 : 126 ≤ ((0 + 1) + 1)) => absurd zc6 (by omega)) (fun (zc6 : ¬ 126 ≤ ((0 + 1) + 1)) => ?_)
  refine m_run 3 (ps' := (24, [some (.inr (.inr (.float 1048576000))), some (.inr (.inr (.float 1065353216))), some (.inl ((127 + (-1)) + (-1))), some (.inl ((0 + 1) + 1))], [.inl ((Op.cmpValue (FP.fcmp 1065353216 FP.fconst1) .g).toInt)], mW (n, T, h, t, x) M, 0, 0)) rfl ?_
  refine m_if rfl ⟨by decide +kernel, by decide +kernel⟩ (fun (zc7 : 0 ≤ (Op.cmpValue (FP.fcmp 1065353216 FP.fconst1) .g).toInt) => ?_) (fun (zc7 : ¬ 0 ≤ (Op.cmpValue (FP.fcmp 1065353216 FP.fconst1) .g).toInt) => absurd zc7 (not_not_intro (by decide +kernel)))
  refine m_run 5 (ps' := (46, [some (.inr (.inr (.float 1048576000))), some (.inr (.inr (.float 1065353216))), some (.inl ((127 + (-1)) + (-1))), some (.inl ((0 + 1) + 1))], [.inr (.inr (.float FP.fconst1)), .inr (.inr (.float 1065353216)), .inl ((Int32.ofInt ((127 + (-1)) + (-1)) <<< (Int32.ofInt 23 &&& 31)).toInt)], mW (n, T, h, t, x) M, 0, 0)) rfl ?_
  refine m_fsub (v := 0) rfl (by decide +kernel) (show vf_n32 0 from by unfold vf_n32; decide +kernel) ?_
  refine m_run 1 (ps' := (49, [some (.inr (.inr (.float 1048576000))), some (.inr (.inr (.float 1065353216))), some (.inl ((127 + (-1)) + (-1))), some (.inl ((0 + 1) + 1))], [.inr (.inr (.float 1258291200)), .inr (.inr (.float 0)), .inl ((Int32.ofInt ((127 + (-1)) + (-1)) <<< (Int32.ofInt 23 &&& 31)).toInt)], mW (n, T, h, t, x) M, 0, 0)) rfl ?_
  refine m_fmul (v := 0) rfl (by decide +kernel) (show vf_n32 0 from by unfold vf_n32; decide +kernel) ?_
  refine m_run 2 (ps' := (52, [some (.inr (.inr (.float 1048576000))), some (.inr (.inr (.float 1065353216))), some (.inl ((127 + (-1)) + (-1))), some (.inl ((0 + 1) + 1))], [.inl ((Int32.ofInt ((127 + (-1)) + (-1)) <<< (Int32.ofInt 23 &&& 31)).toInt + (FP.f2i 0).toInt)], mW (n, T, h, t, x) M, 0, 0)) rfl ?_
  exact m_ret1 rfl (Or.inl rfl) rfl (m_Vi (by decide +kernel))
set_option maxHeartbeats 4000000 in
set_option maxRecDepth 100000 in
theorem k_bits3 {X : Nat × Nat × (Nat → Int32)} {n : Int} {T : Int → Int} {h : HS} {t : TS} {x : XS} {M : MS} : m_Run X 41 [.inr (.inr (.float 1052770304))] (mW (n, T, h, t, x) M) (m_V 1052770304 (mW (n, T, h, t, x) M)) := by
  show m_Sem X 41 (0, [some (.inr (.inr (.float 1052770304))), none, none, none], [], mW (n, T, h, t, x) M, 0, 0) _
  refine m_run 3 (ps' := (3, [some (.inr (.inr (.float 1052770304))), none, none, none], [.inl ((Op.cmpValue (FP.fcmp 1052770304 FP.fconst0) .g).toInt)], mW (n, T, h, t, x) M, 0, 0)) rfl ?_
  refine m_if rfl ⟨by decide +kernel, by decide +kernel⟩ (fun (zc1 : 0 < (Op.cmpValue (FP.fcmp 1052770304 FP.fconst0) .g).toInt) => ?_) (fun (zc1 : ¬ 0 < (Op.cmpValue (FP.fcmp 1052770304 FP.fconst0) .g).toInt) => absurd zc1 (not_not_intro (by decide +kernel)))
  refine m_run 8 (ps' := (18, [some (.inr (.inr (.float 1052770304))), some (.inr (.inr (.float 1052770304))), some (.inl 127), some (.inl 0)], [.inl 126, .inl 0], mW (n, T, h, t, x) M, 0, 0)) rfl ?_
  refine m_icmp rfl ⟨by omega, by omega⟩ ⟨by omega, by omega⟩ (fun (zc2 : 126 ≤ 0) => absurd zc2 (by omega)) (fun (zc2 : ¬ 126 ≤ 0) => ?_)
  refine m_run 3 (ps' := (24, [some (.inr (.inr (.float 1052770304))), some (.inr (.inr (.float 1052770304))), some (.inl 127), some (.inl 0)], [.inl ((Op.cmpValue (FP.fcmp 1052770304 FP.fconst1) .g).toInt)], mW (n, T, h, t, x) M, 0, 0)) rfl ?_
  refine m_if rfl ⟨by decide +kernel, by decide +kernel⟩ (fun (zc3 : 0 ≤ (Op.cmpValue (FP.fcmp 1052770304 FP.fconst1) .g).toInt) => absurd zc3 (by decide +kernel)) (fun (zc3 : ¬ 0 ≤ (Op.cmpValue (FP.fcmp 1052770304 FP.fconst1) .g).toInt) => ?_)
  refine m_run 2 (ps' := (29, [some (.inr (.inr (.float 1052770304))), some (.inr (.inr (.float 1052770304))), some (.inl 127), some (.inl 0)], [.inr (.inr (.float FP.fconst2)), .inr (.inr (.float 1052770304))], mW (n, T, h, t, x) M, 0, 0)) rfl ?_
  refine m_fmul (v := 1061158912) rfl (by decide +kernel) (show vf_n32 1061158912 from by unfold vf_n32; decide +kernel) ?_
  refine m_run 6 (ps' := (18, [some (.inr (.inr (.float 1052770304))), some (.inr (.inr (.float 1061158912))), some (.inl (127 + (-1))), some (.inl (0 + 1))], [.inl 126, .inl (0 + 1)], mW (n, T, h, t, x) M, 0, 0)) rfl ?_
  refine m_icmp rfl ⟨by omega, by omega⟩ ⟨by omega, by omega⟩ (fun (zc4 : 126 ≤ (0 + 1)) => absurd zc4 (by omega)) (fun (zc4 : ¬ 126 ≤ (0 + 1)) => ?_)
  refine m_run 3 (ps' := (24, [some (.inr (.inr (.float 1052770304))), some (.inr (.inr (.float 1061158912))), some (.inl (127 + (-1))), some (.inl (0 + 1))], [.inl ((Op.cmpValue (FP.fcmp 1061158912 FP.fconst1) .g).toInt)], mW (n, T, h, t, x) M, 0, 0)) rfl ?_
  refine m_if rfl ⟨by decide +kernel, by decide +kernel⟩ (fun (zc5 : 0 ≤ (Op.cmpValue (FP.fcmp 1061158912 FP.fconst1) .g).toInt) => absurd zc5 (by decide +kernel)) (fun (zc5 : ¬ 0 ≤ (Op.cmpValue (FP.fcmp 1061158912 FP.fconst1) .g).toInt) => ?_)
  refine m_run 2 (ps' := (29, [some (.inr (.inr (.float 1052770304))), some (.inr (.inr (.float 1061158912))), some (.inl (127 + (-1))), some (.inl (0 + 1))], [.inr (.inr (.float FP.fconst2)), .inr (.inr (.float 1061158912))], mW (n, T, h, t, x) M, 0, 0)) rfl ?_
  refine m_fmul (v := 1069547520) rfl (by decide +kernel) (show vf_n32 1069547520 from by unfold vf_n32; decide +kernel) ?_
  refine m_run 6 (ps' := (18, [some (.inr (.inr (.float 1052770304))), some (.inr (.inr (.float 1069547520))), some (.inl ((127 + (-1)) + (-1))), some (.inl ((0 + 1) + 1))], [.inl 126, .inl ((0 + 1) + 1)], mW (n, T, h, t, x) M, 0, 0)) rfl ?_
  refine m_icmp rfl ⟨by omega, by omega⟩ ⟨by omega, by omega⟩ (fun (zc6 : 126 ≤ ((0 + 1) + 1)) => absurd zc6 (by omega)) (fun (zc6 : ¬ 126 ≤ ((0 + 1) + 1)) => ?_)
  refine m_run 3 (ps' := (24, [some (.inr (.inr (.float 1052770304))), some (.inr (.inr (.float 1069547520))), some (.inl ((127 + (-1)) + (-1))), some (.inl ((0 + 1) + 1))], [.inl ((Op.cmpValue (FP.fcmp 1069547520 FP.fconst1) .g).toInt)], mW (n, T, h, t, x) M, 0, 0)) rfl ?_
  refine m_if rfl ⟨by decide +kernel, by decide +kernel⟩ (fun (zc7 : 0 ≤ (Op.cmpValue (FP.fcmp 1069547520 FP.fconst1) .g).toInt) => ?_) (fun (zc7 : ¬ 0 ≤ (Op.cmpValue (FP.fcmp 1069547520 FP.fconst1) .g).toInt) => absurd zc7 (not_not_intro (by decide +kernel)))
  refine m_run 5 (ps' := (46, [some (.inr (.inr (.float 1052770304))), some (.inr (.inr (.float 1069547520))), some (.inl ((127 + (-1)) + (-1))), some (.inl ((0 + 1) + 1))], [.inr (.inr (.float FP.fconst1)), .inr (.inr (.float 1069547520)), .inl ((Int32.ofInt ((127 + (-1)) + (-1)) <<< (Int32.ofInt 23 &&& 31)).toInt)], mW (n, T, h, t, x) M, 0, 0)) rfl ?_
  refine m_fsub (v := 1056964608) rfl (by decide +kernel) (show vf_n32 1056964608 from by unfold vf_n32; decide +kernel) ?_
  refine m_run 1 (ps' := (49, [some (.inr (.inr (.float 1052770304))), some (.inr (.inr (.float 1069547520))), some (.inl ((127 + (-1)) + (-1))), some (.inl ((0 + 1) + 1))], [.inr (.inr (.float 1258291200)), .inr (.inr (.float 1056964608)), .inl ((Int32.ofInt ((127 + (-1)) + (-1)) <<< (Int32.ofInt 23 &&& 31)).toInt)], mW (n, T, h, t, x) M, 0, 0)) rfl ?_
  refine m_fmul (v := 1249902592) rfl (by decide +kernel) (show vf_n32 1249902592 from by unfold vf_n32; decide +kernel) ?_
  refine m_run 2 (ps' := (52, [some (.inr (.inr (.float 1052770304))), some (.inr (.inr (.float 1069547520))), some (.inl ((127 + (-1)) + (-1))), some (.inl ((0 + 1) + 1))], [.inl ((Int32.ofInt ((127 + (-1)) + (-1)) <<< (Int32.ofInt 23 &&& 31)).toInt + (FP.f2i 1249902592).toInt)], mW (n, T, h, t, x) M, 0, 0)) rfl ?_
  exact m_ret1 rfl (Or.inl rfl) rfl (m_Vi (by decide +kernel))
set_option maxHeartbeats 4000000 in
set_option maxRecDepth 100000 in
theorem k_bits4 {X : Nat × Nat × (Nat → Int32)} {n : Int} {T : Int → Int} {h : HS} {t : TS} {x : XS} {M : MS} : m_Run X 41 [.inr (.inr (.float 1056964608))] (mW (n, T, h, t, x) M) (m_V 1056964608 (mW (n, T, h, t, x) M)) := by
  show m_Sem X 41 (0, [some (.inr (.inr (.float 1056964608))), none, none, none], [], mW (n, T, h, t, x) M, 0, 0) _
  refine m_run 3 (ps' := (3, [some (.inr (.inr (.float 1056964608))), none, none, none], [.inl ((Op.cmpValue (FP.fcmp 1056964608 FP.fconst0) .g).toInt)], mW (n, T, h, t, x) M, 0, 0)) rfl ?_
  refine m_if rfl ⟨by decide +kernel, by decide +kernel⟩ (fun (zc1 : 0 < (Op.cmpValue (FP.fcmp 1056964608 FP.fconst0) .g).toInt) => ?_) (fun (zc1 : ¬ 0 < (Op.cmpValue (FP.fcmp 1056964608 FP.fconst0) .g).toInt) => absurd zc1 (not_not_intro (by decide +kernel)))
  refine m_run 8 (ps' := (18, [some (.inr (.inr (.float 1056964608))), some (.inr (.inr (.float 1056964608))), some (.inl 127), some (.inl 0)], [.inl 126, .inl 0], mW (n, T, h, t, x) M, 0, 0)) rfl ?_
  refine m_icmp rfl ⟨by omega, by omega⟩ ⟨by omega, by omega⟩ (fun (zc2 : 126 ≤ 0) => absurd zc2 (by omega)) (fun (zc2 : ¬ 126 ≤ 0) => ?_)
  refine m_run 3 (ps' := (24, [some (.inr (.inr (.float 1056964608))), some (.inr (.inr (.float 1056964608))), some (.inl 127), some (.inl 0)], [.inl ((Op.cmpValue (FP.fcmp 1056964608 FP.fconst1) .g).toInt)], mW (n, T, h, t, x) M, 0, 0)) rfl ?_
  refine m_if rfl ⟨by decide +kernel, by decide +kernel⟩ (fun (zc3 : 0 ≤ (Op.cmpValue (FP.fcmp 1056964608 FP.fconst1) .g).toInt) => absurd zc3 (by decide +kernel)) (fun (zc3 : ¬ 0 ≤ (Op.cmpValue (FP.fcmp 1056964608 FP.fconst1) .g).toInt) => ?_)
  refine m_run 2 (ps' := (29, [some (.inr (.inr (.float 1056964608))), some (.inr (.inr (.float 1056964608))), some (.inl 127), some (.inl 0)], [.inr (.inr (.float FP.fconst2)), .inr (.inr (.float 1056964608))], mW (n, T, h, t, x) M, 0, 0)) rfl ?_
  refine m_fmul (v := 1065353216) rfl (by decide +kernel) (show vf_n32 1065353216 from by unfold vf_n32; decide +kernel) ?_
  refine m_run 6 (ps' := (18, [some (.inr (.inr (.float 1056964608))), some (.inr (.inr (.float 1065353216))), some (.inl (127 + (-1))), some (.inl (0 + 1))], [.inl 126, .inl (0 + 1)], mW (n, T, h, t, x) M, 0, 0)) rfl ?_
  refine m_icmp rfl ⟨by omega, by omega⟩ ⟨by omega, by omega⟩ (fun (zc4 : 126 ≤ (0 + 1)) => absurd zc4 (by omega)) (fun (zc4 : ¬ 126 ≤ (0 + 1)) => ?_)
  refine m_run 3 (ps' := (24, [some (.inr (.inr (.float 1056964608))), some (.inr (.inr (.float 1065353216))), some (.inl (127 + (-1))), some (.inl (0 + 1))], [.inl ((Op.cmpValue (FP.fcmp 1065353216 FP.fconst1) .g).toInt)], mW (n, T, h, t, x) M, 0, 0)) rfl ?_
  refine m_if rfl ⟨by decide +kernel, by decide +kernel⟩ (fun (zc5 : 0 ≤ (Op.cmpValue (FP.fcmp 1065353216 FP.fconst1) .g).toInt) => ?_) (fun (zc5 : ¬ 0 ≤ (Op.cmpValue (FP.fcmp 1065353216 FP.fconst1) .g).toInt) => absurd zc5 (not_not_intro (by decide +kernel)))
  refine m_run 5 (ps' := (46, [some (.inr (.inr (.float 1056964608))), some (.inr (.inr (.float 1065353216))), some (.inl (127 + (-1))), some (.inl (0 + 1))], [.inr (.inr (.float FP.fconst1)), .inr (.inr (.float 1065353216)), .inl ((Int32.ofInt (127 + (-1)) <<< (Int32.ofInt 23 &&& 31)).toInt)], mW (n, T, h, t, x) M, 0, 0)) rfl ?_
  refine m_fsub (v := 0) rfl (by decide +kernel) (show vf_n32 0 from by unfold vf_n32; decide +kernel) ?_
  refine m_run 1 (ps' := (49, [some (.inr (.inr (.float 1056964608))), some (.inr (.inr (.float 1065353216))), some (.inl (127 + (-1))), some (.inl (0 + 1))], [.inr (.inr (.float 1258291200)), .inr (.inr (.float 0)), .inl ((Int32.ofInt (127 + (-1)) <<< (Int32.ofInt 23 &&& 31)).toInt)], mW (n, T, h, t, x) M, 0, 0)) rfl ?_
  refine m_fmul (v := 0) rfl (by decide +kernel) (show vf_n32 0 from by unfold vf_n32; decide +kernel) ?_
  refine m_run 2 (ps' := (52, [some (.inr (.inr (.float 1056964608))), some (.inr (.inr (.float 1065353216))), some (.inl (127 + (-1))), some (.inl (0 + 1))], [.inl ((Int32.ofInt (127 + (-1)) <<< (Int32.ofInt 23 &&& 31)).toInt + (FP.f2i 0).toInt)], mW (n, T, h, t, x) M, 0, 0)) rfl ?_
  exact m_ret1 rfl (Or.inl rfl) rfl (m_Vi (by decide +kernel))
set_option maxHeartbeats 4000000 in
set_option maxRecDepth 100000 in
theorem k_bits5 {X : Nat × Nat × (Nat → Int32)} {n : Int} {T : Int → Int} {h : HS} {t : TS} {x : XS} {M : MS} : m_Run X 41 [.inr (.inr (.float 1059061760))] (mW (n, T, h, t, x) M) (m_V 1059061760 (mW (n, T, h, t, x) M)) := by
  show m_Sem X 41 (0, [some (.inr (.inr (.float 1059061760))), none, none, none], [], mW (n, T, h, t, x) M, 0, 0) _
  refine m_run 3 (ps' := (3, [some (.inr (.inr (.float 1059061760))), none, none, none], [.inl ((Op.cmpValue (FP.fcmp 1059061760 FP.fconst0) .g).toInt)], mW (n, T, h, t, x) M, 0, 0)) rfl ?_
  refine m_if rfl ⟨by decide +kernel, by decide +kernel⟩ (fun (zc1 : 0 < (Op.cmpValue (FP.fcmp 1059061760 FP.fconst0) .g).toInt) => ?_) (fun (zc1 : ¬ 0 < (Op.cmpValue (FP.fcmp 1059061760 FP.fconst0) .g).toInt) => absurd zc1 (not_not_intro (by decide +kernel)))
  refine m_run 8 (ps' := (18, [some (.inr (.inr (.float 1059061760))), some (.inr (.inr (.float 1059061760))), some (.inl 127), some (.inl 0)], [.inl 126, .inl 0], mW (n, T, h, t, x) M, 0, 0)) rfl ?_
  refine m_icmp rfl ⟨by omega, by omega⟩ ⟨by omega, by omega⟩ (fun (zc2 : 126 ≤ 0) => absurd zc2 (by omega)) (fun (zc2 : ¬ 126 ≤ 0) => ?_)
  refine m_run 3 (ps' := (24, [some (.inr (.inr (.float 1059061760))), some (.inr (.inr (.float 1059061760))), some (.inl 127), some (.inl 0)], [.inl ((Op.cmpValue (FP.fcmp 1059061760 FP.fconst1) .g).toInt)], mW (n, T, h, t, x) M, 0, 0)) rfl ?_
  refine m_if rfl ⟨by decide +kernel, by decide +kernel⟩ (fun (zc3 : 0 ≤ (Op.cmpValue (FP.fcmp 1059061760 FP.fconst1) .g).toInt) => absurd zc3 (by decide +kernel)) (fun (zc3 : ¬ 0 ≤ (Op.cmpValue (FP.fcmp 1059061760 FP.fconst1) .g).toInt) => ?_)
  refine m_run 2 (ps' := (29, [some (.inr (.inr (.float 1059061760))), some (.inr (.inr (.float 1059061760))), some (.inl 127), some (.inl 0)], [.inr (.inr (.float FP.fconst2)), .inr (.inr (.float 1059061760))], mW (n, T, h, t, x) M, 0, 0)) rfl ?_
  refine m_fmul (v := 1067450368) rfl (by decide +kernel) (show vf_n32 1067450368 from by unfold vf_n32; decide +kernel) ?_
  refine m_run 6 (ps' := (18, [some (.inr (.inr (.float 1059061760))), some (.inr (.inr (.float 1067450368))), some (.inl (127 + (-1))), some (.inl (0 + 1))], [.inl 126, .inl (0 + 1)], mW (n, T, h, t, x) M, 0, 0)) rfl ?_
  refine m_icmp rfl ⟨by omega, by omega⟩ ⟨by omega, by omega⟩ (fun (zc4 : 126 ≤ (0 + 1)) => absurd zc4 (by omega)) (fun (zc4 : ¬ 126 ≤ (0 + 1)) => ?_)
  refine m_run 3 (ps' := (24, [some (.inr (.inr (.float 1059061760))), some (.inr (.inr (.float 1067450368))), some (.inl (127 + (-1))), some (.inl (0 + 1))], [.inl ((Op.cmpValue (FP.fcmp 1067450368 FP.fconst1) .g).toInt)], mW (n, T, h, t, x) M, 0, 0)) rfl ?_
  refine m_if rfl ⟨by decide +kernel, by decide +kernel⟩ (fun (zc5 : 0 ≤ (Op.cmpValue (FP.fcmp 1067450368 FP.fconst1) .g).toInt) => ?_) (fun (zc5 : ¬ 0 ≤ (Op.cmpValue (FP.fcmp 1067450368 FP.fconst1) .g).toInt) => absurd zc5 (not_not_intro (by decide +kernel)))
  refine m_run 5 (ps' := (46, [some (.inr (.inr (.float 1059061760))), some (.inr (.inr (.float 1067450368))), some (.inl (127 + (-1))), some (.inl (0 + 1))], [.inr (.inr (.float FP.fconst1)), .inr (.inr (.float 1067450368)), .inl ((Int32.ofInt (127 + (-1)) <<< (Int32.ofInt 23 &&& 31)).toInt)], mW (n, T, h, t, x) M, 0, 0)) rfl ?_
  refine m_fsub (v := 1048576000) rfl (by decide +kernel) (show vf_n32 1048576000 from by unfold vf_n32; decide +kernel) ?_
  refine m_run 1 (ps' := (49, [some (.inr (.inr (.float 1059061760))), some (.inr (.inr (.float 1067450368))), some (.inl (127 + (-1))), some (.inl (0 + 1))], [.inr (.inr (.float 1258291200)), .inr (.inr (.float 1048576000)), .inl ((Int32.ofInt (127 + (-1)) <<< (Int32.ofInt 23 &&& 31)).toInt)], mW (n, T, h, t, x) M, 0, 0)) rfl ?_
  refine m_fmul (v := 1241513984) rfl (by decide +kernel) (show vf_n32 1241513984 from by unfold vf_n32; decide +kernel) ?_
  refine m_run 2 (ps' := (52, [some (.inr (.inr (.float 1059061760))), some (.inr (.inr (.float 1067450368))), some (.inl (127 + (-1))), some (.inl (0 + 1))], [.inl ((Int32.ofInt (127 + (-1)) <<< (Int32.ofInt 23 &&& 31)).toInt + (FP.f2i 1241513984).toInt)], mW (n, T, h, t, x) M, 0, 0)) rfl ?_
  exact m_ret1 rfl (Or.inl rfl) rfl (m_Vi (by decide +kernel))
set_option maxHeartbeats 4000000 in
set_option maxRecDepth 100000 in
theorem k_bits6 {X : Nat × Nat × (Nat → Int32)} {n : Int} {T : Int → Int} {h : HS} {t : TS} {x : XS} {M : MS} : m_Run X 41 [.inr (.inr (.float 1061158912))] (mW (n, T, h, t, x) M) (m_V 1061158912 (mW (n, T, h, t, x) M)) := by
  show m_Sem X 41 (0, [some (.inr (.inr (.float 1061158912))), none, none, none], [], mW (n, T, h, t, x) M, 0, 0) _
  refine m_run 3 (ps' := (3, [some (.inr (.inr (.float 1061158912))), none, none, none], [.inl ((Op.cmpValue (FP.fcmp 1061158912 FP.fconst0) .g).toInt)], mW (n, T, h, t, x) M, 0, 0)) rfl ?_
  refine m_if rfl ⟨by decide +kernel, by decide +kernel⟩ (fun (zc1 : 0 < (Op.cmpValue (FP.fcmp 1061158912 FP.fconst0) .g).toInt) => ?_) (fun (zc1 : ¬ 0 < (Op.cmpValue (FP.fcmp 1061158912 FP.fconst0) .g).toInt) => absurd zc1 (not_not_intro (by decide +kernel)))
  refine m_run 8 (ps' := (18, [some (.inr (.inr (.float 1061158912))), some (.inr (.inr (.float 1061158912))), some (.inl 127), some (.inl 0)], [.inl 126, .inl 0], mW (n, T, h, t, x) M, 0, 0)) rfl ?_
  refine m_icmp rfl ⟨by omega, by omega⟩ ⟨by omega, by omega⟩ (fun (zc2 : 126 ≤ 0) => absurd zc2 (by omega)) (fun (zc2 : ¬ 126 ≤ 0) => ?_)
  refine m_run 3 (ps' := (24, [some (.inr (.inr (.float 1061158912))), some (.inr (.inr (.float 1061158912))), some (.inl 127), some (.inl 0)], [.inl ((Op.cmpValue (FP.fcmp 1061158912 FP.fconst1) .g).toInt)], mW (n, T, h, t, x) M, 0, 0)) rfl ?_
  refine m_if rfl ⟨by decide +kernel, by decide +kernel⟩ (fun (zc3 : 0 ≤ (Op.cmpValue (FP.fcmp 1061158912 FP.fconst1) .g).toInt) => absurd zc3 (by decide +kernel)) (fun (zc3 : ¬ 0 ≤ (Op.cmpValue (FP.fcmp 1061158912 FP.fconst1) .g).toInt) => ?_)
  refine m_run 2 (ps' := (29, [some (.inr (.inr (.float 1061158912))), some (.inr (.inr (.float 1061158912))), some (.inl 127), some (.inl 0)], [.inr (.inr (.float FP.fconst2)), .inr (.inr (.float 1061158912))], mW (n, T, h, t, x) M, 0, 0)) rfl ?_
  refine m_fmul (v := 1069547520) rfl (by decide +kernel) (show vf_n32 1069547520 from by unfold vf_n32; decide +kernel) ?_
  refine m_run 6 (ps' := (18, [some (.inr (.inr (.float 1061158912))), some (.inr (.inr (.float 1069547520))), some (.inl (127 + (-1))), some (.inl (0 + 1))], [.inl 126, .inl (0 + 1)], mW (n, T, h, t, x) M, 0, 0)) rfl ?_
  refine m_icmp rfl ⟨by omega, by omega⟩ ⟨by omega, by omega⟩ (fun (zc4 : 126 ≤ (0 + 1)) => absurd zc4 (by omega)) (fun (zc4 : ¬ 126 ≤ (0 + 1)) => ?_)
  refine m_run 3 (ps' := (24, [some (.inr (.inr (.float 1061158912))), some (.inr (.inr (.float 1069547520))), some (.inl (127 + (-1))), some (.inl (0 + 1))], [.inl ((Op.cmpValue (FP.fcmp 1069547520 FP.fconst1) .g).toInt)], mW (n, T, h, t, x) M, 0, 0)) rfl ?_
  refine m_if rfl ⟨by decide +kernel, by decide +kernel⟩ (fun (zc5 : 0 ≤ (Op.cmpValue (FP.fcmp 1069547520 FP.fconst1) .g).toInt) => ?_) (fun (zc5 : ¬ 0 ≤ (Op.cmpValue (FP.fcmp 1069547520 FP.fconst1) .g).toInt) => absurd zc5 (not_not_intro (by decide +kernel)))
  refine m_run 5 (ps' := (46, [some (.inr (.inr (.float 1061158912))), some (.inr (.inr (.float 1069547520))), some (.inl (127 + (-1))), some (.inl (0 + 1))], [.inr (.inr (.float FP.fconst1)), .inr (.inr (.float 1069547520)), .inl ((Int32.ofInt (127 + (-1)) <<< (Int32.ofInt 23 &&& 31)).toInt)], mW (n, T, h, t, x) M, 0, 0)) rfl ?_
  refine m_fsub (v := 1056964608) rfl (by decide +kernel) (show vf_n32 1056964608 from by unfold vf_n32; decide +kernel) ?_
  refine m_run 1 (ps' := (49, [some (.inr (.inr (.float 1061158912))), some (.inr (.inr (.float 1069547520))), some (.inl (127 + (-1))), some (.inl (0 + 1))], [.inr (.inr (.float 1258291200)), .inr (.inr (.float 1056964608)), .inl ((Int32.ofInt (127 + (-1)) <<< (Int32.ofInt 23 &&& 31)).toInt)], mW (n, T, h, t, x) M, 0, 0)) rfl ?_
  refine m_fmul (v := 1249902592) rfl (by decide +kernel) (show vf_n32 1249902592 from by unfold vf_n32; decide +kernel) ?_
  refine m_run 2 (ps' := (52, [some (.inr (.inr (.float 1061158912))), some (.inr (.inr (.float 1069547520))), some (.inl (127 + (-1))), some (.inl (0 + 1))], [.inl ((Int32.ofInt (127 + (-1)) <<< (Int32.ofInt 23 &&& 31)).toInt + (FP.f2i 1249902592).toInt)], mW (n, T, h, t, x) M, 0, 0)) rfl ?_
  exact m_ret1 rfl (Or.inl rfl) rfl (m_Vi (by decide +kernel))
set_option maxHeartbeats 4000000 in
set_option maxRecDepth 100000 in
theorem k_bits7 {X : Nat × Nat × (Nat → Int32)} {n : Int} {T : Int → Int} {h : HS} {t : TS} {x : XS} {M : MS} : m_Run X 41 [.inr (.inr (.float 1063256064))] (mW (n, T, h, t, x) M) (m_V 1063256064 (mW (n, T, h, t, x) M)) := by
  show m_Sem X 41 (0, [some (.inr (.inr (.float 1063256064))), none, none, none], [], mW (n, T, h, t, x) M, 0, 0) _
  refine m_run 3 (ps' := (3, [some (.inr (.inr (.float 1063256064))), none, none, none], [.inl ((Op.cmpValue (FP.fcmp 1063256064 FP.fconst0) .g).toInt)], mW (n, T, h, t, x) M, 0, 0)) rfl ?_
  refine m_if rfl ⟨by decide +kernel, by decide +kernel⟩ (fun (zc1 : 0 < (Op.cmpValue (FP.fcmp 1063256064 FP.fconst0) .g).toInt) => ?_) (fun (zc1 : ¬ 0 < (Op.cmpValue (FP.fcmp 1063256064 FP.fconst0) .g).toInt) => absurd zc1 (not_not_intro (by decide +kernel)))
  refine m_run 8 (ps' := (18, [some (.inr (.inr (.float 1063256064))), some (.inr (.inr (.float 1063256064))), some (.inl 127), some (.inl 0)], [.inl 126, .inl 0], mW (n, T, h, t, x) M, 0, 0)) rfl ?_
  refine m_icmp rfl ⟨by omega, by omega⟩ ⟨by omega, by omega⟩ (fun (zc2 : 126 ≤ 0) => absurd zc2 (by omega)) (fun (zc2 : ¬ 126 ≤ 0) => ?_)
  refine m_run 3 (ps' := (24, [some (.inr (.inr (.float 1063256064))), some (.inr (.inr (.float 1063256064))), some (.inl 127), some (.inl 0)], [.inl ((Op.cmpValue (FP.fcmp 1063256064 FP.fconst1) .g).toInt)], mW (n, T, h, t, x) M, 0, 0)) rfl ?_
  refine m_if rfl ⟨by decide +kernel, by decide +kernel⟩ (fun (zc3 : 0 ≤ (Op.cmpValue (FP.fcmp 1063256064 FP.fconst1) .g).toInt) => absurd zc3 (by decide +kernel)) (fun (zc3 : ¬ 0 ≤ (Op.cmpValue (FP.fcmp 1063256064 FP.fconst1) .g).toInt) => ?_)
  refine m_run 2 (ps' := (29, [some (.inr (.inr (.float 1063256064))), some (.inr (.inr (.float 1063256064))), some (.inl 127), some (.inl 0)], [.inr (.inr (.float FP.fconst2)), .inr (.inr (.float 1063256064))], mW (n, T, h, t, x) M, 0, 0)) rfl ?_
  refine m_fmul (v := 1071644672) rfl (by decide +kernel) (show vf_n32 1071644672 from by unfold vf_n32; decide +kernel) ?_
  refine m_run 6 (ps' := (18, [some (.inr (.inr (.float 1063256064))), some (.inr (.inr (.float 1071644672))), some (.inl (127 + (-1))), some (.inl (0 + 1))], [.inl 126, .inl (0 + 1)], mW (n, T, h, t, x) M, 0, 0)) rfl ?_
  refine m_icmp rfl ⟨by omega, by omega⟩ ⟨by omega, by omega⟩ (fun (zc4 : 126 ≤ (0 + 1)) => absurd zc4 (by omega)) (fun (zc4 : ¬ 126 ≤ (0 + 1)) => ?_)
  refine m_run 3 (ps' := (24, [some (.inr (.inr (.float 1063256064))), some (.inr (.inr (.float 1071644672))), some (.inl (127 + (-1))), some (.inl (0 + 1))], [.inl ((Op.cmpValue (FP.fcmp 1071644672 FP.fconst1) .g).toInt)], mW (n, T, h, t, x) M, 0, 0)) rfl ?_
  refine m_if rfl ⟨by decide +kernel, by decide +kernel⟩ (fun (zc5 : 0 ≤ (Op.cmpValue (FP.fcmp 1071644672 FP.fconst1) .g).toInt) => ?_) (fun (zc5 : ¬ 0 ≤ (Op.cmpValue (FP.fcmp 1071644672 FP.fconst1) .g).toInt) => absurd zc5 (not_not_intro (by decide +kernel)))
  refine m_run 5 (ps' := (46, [some (.inr (.inr (.float 1063256064))), some (.inr (.inr (.float 1071644672))), some (.inl (127 + (-1))), some (.inl (0 + 1))], [.inr (.inr (.float FP.fconst1)), .inr (.inr (.float 1071644672)), .inl ((Int32.ofInt (127 + (-1)) <<< (Int32.ofInt 23 &&& 31)).toInt)], mW (n, T, h, t, x) M, 0, 0)) rfl ?_
  refine m_fsub (v := 1061158912) rfl (by decide +kernel) (show vf_n32 1061158912 from by unfold vf_n32; decide +kernel) ?_
  refine m_run 1 (ps' := (49, [some (.inr (.inr (.float 1063256064))), some (.inr (.inr (.float 1071644672))), some (.inl (127 + (-1))), some (.inl (0 + 1))], [.inr (.inr (.float 1258291200)), .inr (.inr (.float 1061158912)), .inl ((Int32.ofInt (127 + (-1)) <<< (Int32.ofInt 23 &&& 31)).toInt)], mW (n, T, h, t, x) M, 0, 0)) rfl ?_
  refine m_fmul (v := 1254096896) rfl (by decide +kernel) (show vf_n32 1254096896 from by unfold vf_n32; decide +kernel) ?_
  refine m_run 2 (ps' := (52, [some (.inr (.inr (.float 1063256064))), some (.inr (.inr (.float 1071644672))), some (.inl (127 + (-1))), some (.inl (0 + 1))], [.inl ((Int32.ofInt (127 + (-1)) <<< (Int32.ofInt 23 &&& 31)).toInt + (FP.f2i 1254096896).toInt)], mW (n, T, h, t, x) M, 0, 0)) rfl ?_
  exact m_ret1 rfl (Or.inl rfl) rfl (m_Vi (by decide +kernel))
set_option maxHeartbeats 4000000 in
set_option maxRecDepth 100000 in
theorem k_bits8 {X : Nat × Nat × (Nat → Int32)} {n : Int} {T : Int → Int} {h : HS} {t : TS} {x : XS} {M : MS} : m_Run X 41 [.inr (.inr (.float 1065353216))] (mW (n, T, h, t, x) M) (m_V 1065353216 (mW (n, T, h, t, x) M)) := by
  show m_Sem X 41 (0, [some (.inr (.inr (.float 1065353216))), none, none, none], [], mW (n, T, h, t, x) M, 0, 0) _
  refine m_run 3 (ps' := (3, [some (.inr (.inr (.float 1065353216))), none, none, none], [.inl ((Op.cmpValue (FP.fcmp 1065353216 FP.fconst0) .g).toInt)], mW (n, T, h, t, x) M, 0, 0)) rfl ?_
  refine m_if rfl ⟨by decide +kernel, by decide +kernel⟩ (fun (zc1 : 0 < (Op.cmpValue (FP.fcmp 1065353216 FP.fconst0) .g).toInt) => ?_) (fun (zc1 : ¬ 0 < (Op.cmpValue (FP.fcmp 1065353216 FP.fconst0) .g).toInt) => absurd zc1 (not_not_intro (by decide +kernel)))
  refine m_run 8 (ps' := (18, [some (.inr (.inr (.float 1065353216))), some (.inr (.inr (.float 1065353216))), some (.inl 127), some (.inl 0)], [.inl 126, .inl 0], mW (n, T, h, t, x) M, 0, 0)) rfl ?_
  refine m_icmp rfl ⟨by omega, by omega⟩ ⟨by omega, by omega⟩ (fun (zc2 : 126 ≤ 0) => absurd zc2 (by omega)) (fun (zc2 : ¬ 126 ≤ 0) => ?_)
  refine m_run 3 (ps' := (24, [some (.inr (.inr (.float 1065353216))), some (.inr (.inr (.float 1065353216))), some (.inl 127), some (.inl 0)], [.inl ((Op.cmpValue (FP.fcmp 1065353216 FP.fconst1) .g).toInt)], mW (n, T, h, t, x) M, 0, 0)) rfl ?_
  refine m_if rfl ⟨by decide +kernel, by decide +kernel⟩ (fun (zc3 : 0 ≤ (Op.cmpValue (FP.fcmp 1065353216 FP.fconst1) .g).toInt) => ?_) (fun (zc3 : ¬ 0 ≤ (Op.cmpValue (FP.fcmp 1065353216 FP.fconst1) .g).toInt) => absurd zc3 (not_not_intro (by decide +kernel)))
  refine m_run 5 (ps' := (46, [some (.inr (.inr (.float 1065353216))), some (.inr (.inr (.float 1065353216))), some (.inl 127), some (.inl 0)], [.inr (.inr (.float FP.fconst1)), .inr (.inr (.float 1065353216)), .inl ((Int32.ofInt 127 <<< (Int32.ofInt 23 &&& 31)).toInt)], mW (n, T, h, t, x) M, 0, 0)) rfl ?_
  refine m_fsub (v := 0) rfl (by decide +kernel) (show vf_n32 0 from by unfold vf_n32; decide +kernel) ?_
  refine m_run 1 (ps' := (49, [some (.inr (.inr (.float 1065353216))), some (.inr (.inr (.float 1065353216))), some (.inl 127), some (.inl 0)], [.inr (.inr (.float 1258291200)), .inr (.inr (.float 0)), .inl ((Int32.ofInt 127 <<< (Int32.ofInt 23 &&& 31)).toInt)], mW (n, T, h, t, x) M, 0, 0)) rfl ?_
  refine m_fmul (v := 0) rfl (by decide +kernel) (show vf_n32 0 from by unfold vf_n32; decide +kernel) ?_
  refine m_run 2 (ps' := (52, [some (.inr (.inr (.float 1065353216))), some (.inr (.inr (.float 1065353216))), some (.inl 127), some (.inl 0)], [.inl ((Int32.ofInt 127 <<< (Int32.ofInt 23 &&& 31)).toInt + (FP.f2i 0).toInt)], mW (n, T, h, t, x) M, 0, 0)) rfl ?_
  exact m_ret1 rfl (Or.inl rfl) rfl (m_Vi (by decide +kernel))
set_option maxHeartbeats 4000000 in
set_option maxRecDepth 100000 in
theorem l_sh {X : Nat × Nat × (Nat → Int32)} {n : Int} {T : Int → Int} {h : HS} {t : TS} {x : XS} {M : MS} {tb : Int → Int → Int} {v : Int} (hv : 0 ≤ v) (hv2 : v ≤ 8) (hR : repC n T tb) : ∀ iv : Int, 0 ≤ iv → iv ≤ 8 → ∀ (u : Int) (hu0 : 0 ≤ u) (hu : u + sumF (fun l => if wcode (witS n tb l) = -1 then 1 else 0) (8 - iv).toNat iv = v), m_Sem X 37 (4, [some (.inr (.inl 0)), some (.inl u), some (.inl iv)], [], mW (n, T, h, t, x) M, 0, 0) (m_V (shB v) (mW (n, T, h, t, x) M)) := by
  have hn := hR.1
  have hl := okN_lo hn
  refine m_down 0 8 ?_ ?_
  · intro u hu0 hu
    rw [sum_end] at hu
    have hu : u = v := by omega
    subst hu
    show m_Sem X 37 (4, [some (.inr (.inl 0)), some (.inl u), some (.inl 8)], [], mW (n, T, h, t, x) M, 0, 0) _
    refine m_run 2 (ps' := (7, [some (.inr (.inl 0)), some (.inl u), some (.inl 8)], [.inl 8, .inl 8], mW (n, T, h, t, x) M, 0, 0)) rfl ?_
    refine m_icmp rfl ⟨by omega, by omega⟩ ⟨by omega, by omega⟩ (fun (zc1 : 8 ≤ 8) => ?_) (fun (zc1 : ¬ 8 ≤ 8) => absurd zc1 (not_not_intro (by omega)))
    rcases (show u = 0 ∨ u = 1 ∨ u = 2 ∨ u = 3 ∨ u = 4 ∨ u = 5 ∨ u = 6 ∨ u = 7 ∨ u = 8 by omega) with rfl | rfl | rfl | rfl | rfl | rfl | rfl | rfl | rfl
    · refine m_run 3 (ps' := (35, [some (.inr (.inl 0)), some (.inl 0), some (.inl 8)], [.inr (.inr (.float 1090519040)), .inr (.inr (.float (FP.i2f (Int32.ofInt 0))))], mW (n, T, h, t, x) M, 0, 0)) rfl ?_
      refine m_fdiv (v := 0) rfl (by decide +kernel) (show vf_n32 0 from by unfold vf_n32; decide +kernel) ?_
      refine m_callSF [.inr (.inr (.float 0))] [] rfl rfl rfl k_bits0 ?_
      show m_Sem X 37 (39, [some (.inr (.inl 0)), some (.inl 0), some (.inl 8)], [.inl 0], mW (n, T, h, t, x) M, 0, 0) _
      exact m_ret1 rfl (Or.inl rfl) rfl (m_Vi rfl)
    · refine m_run 3 (ps' := (35, [some (.inr (.inl 0)), some (.inl 1), some (.inl 8)], [.inr (.inr (.float 1090519040)), .inr (.inr (.float (FP.i2f (Int32.ofInt 1))))], mW (n, T, h, t, x) M, 0, 0)) rfl ?_
      refine m_fdiv (v := 1040187392) rfl (by decide +kernel) (show vf_n32 1040187392 from by unfold vf_n32; decide +kernel) ?_
      refine m_callSF [.inr (.inr (.float 1040187392))] [] rfl rfl rfl k_bits1 ?_
      show m_Sem X 37 (39, [some (.inr (.inl 0)), some (.inl 1), some (.inl 8)], [.inl 1040187392], mW (n, T, h, t, x) M, 0, 0) _
      exact m_ret1 rfl (Or.inl rfl) rfl (m_Vi rfl)
    · refine m_run 3 (ps' := (35, [some (.inr (.inl 0)), some (.inl 2), some (.inl 8)], [.inr (.inr (.float 1090519040)), .inr (.inr (.float (FP.i2f (Int32.ofInt 2))))], mW (n, T, h, t, x) M, 0, 0)) rfl ?_
      refine m_fdiv (v := 1048576000) rfl (by decide +kernel) (show vf_n32 1048576000 from by unfold vf_n32; decide +kernel) ?_
      refine m_callSF [.inr (.inr (.float 1048576000))] [] rfl rfl rfl k_bits2 ?_
      show m_Sem X 37 (39, [some (.inr (.inl 0)), some (.inl 2), some (.inl 8)], [.inl 1048576000], mW (n, T, h, t, x) M, 0, 0) _
      exact m_ret1 rfl (Or.inl rfl) rfl (m_Vi rfl)
    · refine m_run 3 (ps' := (35, [some (.inr (.inl 0)), some (.inl 3), some (.inl 8)], [.inr (.inr (.float 1090519040)), .inr (.inr (.float (FP.i2f (Int32.ofInt 3))))], mW (n, T, h, t, x) M, 0, 0)) rfl ?_
      refine m_fdiv (v := 1052770304) rfl (by decide +kernel) (show vf_n32 1052770304 from by unfold vf_n32; decide +kernel) ?_
      refine m_callSF [.inr (.inr (.float 1052770304))] [] rfl rfl rfl k_bits3 ?_
      show m_Sem X 37 (39, [some (.inr (.inl 0)), some (.inl 3), some (.inl 8)], [.inl 1052770304], mW (n, T, h, t, x) M, 0, 0) _
      exact m_ret1 rfl (Or.inl rfl) rfl (m_Vi rfl)
    · refine m_run 3 (ps' := (35, [some (.inr (.inl 0)), some (.inl 4), some (.inl 8)], [.inr (.inr (.float 1090519040)), .inr (.inr (.float (FP.i2f (Int32.ofInt 4))))], mW (n, T, h, t, x) M, 0, 0)) rfl ?_
      refine m_fdiv (v := 1056964608) rfl (by decide +kernel) (show vf_n32 1056964608 from by unfold vf_n32; decide +kernel) ?_
      refine m_callSF [.inr (.inr (.float 1056964608))] [] rfl rfl rfl k_bits4 ?_
      show m_Sem X 37 (39, [some (.inr (.inl 0)), some (.inl 4), some (.inl 8)], [.inl 1056964608], mW (n, T, h, t, x) M, 0, 0) _
      exact m_ret1 rfl (Or.inl rfl) rfl (m_Vi rfl)
    · refine m_run 3 (ps' := (35, [some (.inr (.inl 0)), some (.inl 5), some (.inl 8)], [.inr (.inr (.float 1090519040)), .inr (.inr (.float (FP.i2f (Int32.ofInt 5))))], mW (n, T, h, t, x) M, 0, 0)) rfl ?_
      refine m_fdiv (v := 1059061760) rfl (by decide +kernel) (show vf_n32 1059061760 from by unfold vf_n32; decide +kernel) ?_
      refine m_callSF [.inr (.inr (.float 1059061760))] [] rfl rfl rfl k_bits5 ?_
      show m_Sem X 37 (39, [some (.inr (.inl 0)), some (.inl 5), some (.inl 8)], [.inl 1059061760], mW (n, T, h, t, x) M, 0, 0) _
      exact m_ret1 rfl (Or.inl rfl) rfl (m_Vi rfl)
    · refine m_run 3 (ps' := (35, [some (.inr (.inl 0)), some (.inl 6), some (.inl 8)], [.inr (.inr (.float 1090519040)), .inr (.inr (.float (FP.i2f (Int32.ofInt 6))))], mW (n, T, h, t, x) M, 0, 0)) rfl ?_
      refine m_fdiv (v := 1061158912) rfl (by decide +kernel) (show vf_n32 1061158912 from by unfold vf_n32; decide +kernel) ?_
      refine m_callSF [.inr (.inr (.float 1061158912))] [] rfl rfl rfl k_bits6 ?_
      show m_Sem X 37 (39, [some (.inr (.inl 0)), some (.inl 6), some (.inl 8)], [.inl 1061158912], mW (n, T, h, t, x) M, 0, 0) _
      exact m_ret1 rfl (Or.inl rfl) rfl (m_Vi rfl)
    · refine m_run 3 (ps' := (35, [some (.inr (.inl 0)), some (.inl 7), some (.inl 8)], [.inr (.inr (.float 1090519040)), .inr (.inr (.float (FP.i2f (Int32.ofInt 7))))], mW (n, T, h, t, x) M, 0, 0)) rfl ?_
      refine m_fdiv (v := 1063256064) rfl (by decide +kernel) (show vf_n32 1063256064 from by unfold vf_n32; decide +kernel) ?_
      refine m_callSF [.inr (.inr (.float 1063256064))] [] rfl rfl rfl k_bits7 ?_
      show m_Sem X 37 (39, [some (.inr (.inl 0)), some (.inl 7), some (.inl 8)], [.inl 1063256064], mW (n, T, h, t, x) M, 0, 0) _
      exact m_ret1 rfl (Or.inl rfl) rfl (m_Vi rfl)
    · refine m_run 3 (ps' := (35, [some (.inr (.inl 0)), some (.inl 8), some (.inl 8)], [.inr (.inr (.float 1090519040)), .inr (.inr (.float (FP.i2f (Int32.ofInt 8))))], mW (n, T, h, t, x) M, 0, 0)) rfl ?_
      refine m_fdiv (v := 1065353216) rfl (by decide +kernel) (show vf_n32 1065353216 from by unfold vf_n32; decide +kernel) ?_
      refine m_callSF [.inr (.inr (.float 1065353216))] [] rfl rfl rfl k_bits8 ?_
      show m_Sem X 37 (39, [some (.inr (.inl 0)), some (.inl 8), some (.inl 8)], [.inl 1065353216], mW (n, T, h, t, x) M, 0, 0) _
      exact m_ret1 rfl (Or.inl rfl) rfl (m_Vi rfl)
  · intro iv hi1 hi2 ih u hu0 hu
    rw [sum_step hi2] at hu
    refine m_run 2 (ps' := (7, [some (.inr (.inl 0)), some (.inl u), some (.inl iv)], [.inl 8, .inl iv], mW (n, T, h, t, x) M, 0, 0)) rfl ?_
    refine m_icmp rfl ⟨by omega, by omega⟩ ⟨by omega, by omega⟩ (fun (zc1 : 8 ≤ iv) => absurd zc1 (by omega)) (fun (zc1 : ¬ 8 ≤ iv) => ?_)
    refine m_run 3 (ps' := (15, [some (.inr (.inl 0)), some (.inl u), some (.inl iv)], [.inl iv, .inr (.inl 2)], mW (n, T, h, t, x) M, 0, 0)) rfl ?_
    refine m_callSF [.inr (.inl 2), .inl iv] [] rfl rfl rfl (k_wit (law := iv) hR (by omega) (by omega)) ?_
    have zt1 := wcode_in (tb := tb) (law := iv) hn
    show m_Sem X 37 (18, [some (.inr (.inl 0)), some (.inl u), some (.inl iv)], [.inl (wcode (witS n tb iv))], mW (n, T, h, t, x) M, 0, 0) _
    refine m_run 1 (ps' := (19, [some (.inr (.inl 0)), some (.inl u), some (.inl iv)], [.inl (-1), .inl (wcode (witS n tb iv))], mW (n, T, h, t, x) M, 0, 0)) rfl ?_
    refine m_icmp rfl ⟨by omega, by omega⟩ ⟨by omega, by omega⟩ (fun (zc2 : ¬ (wcode (witS n tb iv)) = (-1)) => ?_) (fun (zc2 : ¬ ¬ (wcode (witS n tb iv)) = (-1)) => ?_)
    · refine m_run 2 (ps' := (4, [some (.inr (.inl 0)), some (.inl u), some (.inl (iv + 1))], [], mW (n, T, h, t, x) M, 0, 0)) rfl ?_
      refine m_weak [some (.inr (.inl 0)), some (.inl u), some (.inl (iv + 1))] ⟨rfl, ⟨rfl, ⟨rfl, trivial⟩⟩⟩ ?_
      refine ih _ (by omega) ?_
      rw [← hu]
      simp only [zc2, if_true, if_false]
      omega
    · replace zc2 : (wcode (witS n tb iv)) = (-1) := Decidable.not_not.mp zc2
      refine m_run 3 (ps' := (4, [some (.inr (.inl 0)), some (.inl (u + 1)), some (.inl (iv + 1))], [], mW (n, T, h, t, x) M, 0, 0)) rfl ?_
      refine m_weak [some (.inr (.inl 0)), some (.inl (u + 1)), some (.inl (iv + 1))] ⟨rfl, ⟨rfl, ⟨rfl, trivial⟩⟩⟩ ?_
      refine ih _ (by omega) ?_
      rw [← hu]
      simp only [zc2, if_true, if_false]
      omega
set_option maxHeartbeats 4000000 in
set_option maxRecDepth 100000 in
theorem k_share {X : Nat × Nat × (Nat → Int32)} {n : Int} {T : Int → Int} {h : HS} {t : TS} {x : XS} {M : MS} {tb : Int → Int → Int} (hR : repC n T tb) : m_Run X 37 [.inr (.inl 0)] (mW (n, T, h, t, x) M) (m_V (shB (heldS n tb)) (mW (n, T, h, t, x) M)) := by
  have hn := hR.1
  have hl := okN_lo hn
  show m_Sem X 37 (0, [some (.inr (.inl 0)), none, none], [], mW (n, T, h, t, x) M, 0, 0) _
  refine m_run 4 (ps' := (4, [some (.inr (.inl 0)), some (.inl 0), some (.inl 0)], [], mW (n, T, h, t, x) M, 0, 0)) rfl ?_
  refine m_weak [some (.inr (.inl 0)), some (.inl 0), some (.inl 0)] ⟨rfl, ⟨rfl, ⟨rfl, trivial⟩⟩⟩ ?_
  have h9 := heldS_in n tb
  exact l_sh h9.1 h9.2 hR 0 (by omega) (by omega) 0 (by omega) (by rw [Int.zero_add]; rfl)
def cntS (n : Int) (tb : Int → Int → Int) (hc ln w : Int) : Int := if w = 0 then n else if w = 1 then NP n else if w = 2 then unlS n tb else if w = 3 then zeroS n tb else if w = 4 then hc else if w = 5 then ln else -1000001
set_option maxHeartbeats 4000000 in
set_option maxRecDepth 100000 in
theorem k_cnt {X : Nat × Nat × (Nat → Int32)} {n : Int} {T : Int → Int} {hc : Int} {hs hp : Int → Int} {ln : Int} {sg : Int → Int} {x : XS} {M : MS} {tb : Int → Int → Int} {wh : Int} (hw : m_R wh) (hR : repC n T tb) : m_Run X 38 [.inr (.inl 0), .inl wh] (mW (n, T, (hc, hs, hp), (ln, sg), x) M) (m_V (cntS n tb hc ln wh) (mW (n, T, (hc, hs, hp), (ln, sg), x) M)) := by
  have hn := hR.1
  have hl := okN_lo hn
  have hq := sq_b hn
  obtain ⟨hw1, hw2⟩ := id hw
  show m_Sem X 38 (0, [some (.inr (.inl 0)), some (.inl wh)], [], mW (n, T, (hc, hs, hp), (ln, sg), x) M, 0, 0) _
  refine m_run 1 (ps' := (1, [some (.inr (.inl 0)), some (.inl wh)], [.inl wh], mW (n, T, (hc, hs, hp), (ln, sg), x) M, 0, 0)) rfl ?_
  rcases (show wh < 0 ∨ wh = 0 ∨ wh = 1 ∨ wh = 2 ∨ wh = 3 ∨ wh = 4 ∨ wh = 5 ∨ 5 < wh by omega) with zs1 | rfl | rfl | rfl | rfl | rfl | rfl | zs1
  · refine m_tabOut (tgt := 88) rfl ⟨by omega, by omega⟩ (Or.inl (by omega)) rfl ?_
    refine m_run 1 (ps' := (90, [some (.inr (.inl 0)), some (.inl wh)], [.inl (-1000001)], mW (n, T, (hc, hs, hp), (ln, sg), x) M, 0, 0)) rfl ?_
    exact m_ret1 rfl (Or.inl rfl) rfl (m_Vi (by unfold cntS; (repeat' split) <;> first | rfl | (exfalso; omega) | omega | simp_all))
  · refine m_tabIn (tgt := 40) rfl ⟨by decide, by decide⟩ (by decide) (by decide) rfl rfl ?_
    refine m_run 3 (ps' := (47, [some (.inr (.inl 0)), some (.inl 0)], [.inl n], mW (n, T, (hc, hs, hp), (ln, sg), x) M, 0, 0)) rfl ?_
    exact m_ret1 rfl (Or.inl rfl) rfl (m_Vi (by unfold cntS; (repeat' split) <;> first | rfl | (exfalso; omega) | omega | simp_all))
  · refine m_tabIn (tgt := 48) rfl ⟨by decide, by decide⟩ (by decide) (by decide) rfl rfl ?_
    refine m_run 2 (ps' := (52, [some (.inr (.inl 0)), some (.inl 1)], [.inr (.inl 1)], mW (n, T, (hc, hs, hp), (ln, sg), x) M, 0, 0)) rfl ?_
    refine m_callVF [] [] rfl rfl ⟨_, rfl, rfl⟩ rfl rfl (k_pts hR) ?_
    have zt1 : NP n = n * n + n + 1 := rfl
    show m_Sem X 38 (55, [some (.inr (.inl 0)), some (.inl 1)], [.inl (NP n)], mW (n, T, (hc, hs, hp), (ln, sg), x) M, 0, 0) _
    exact m_ret1 rfl (Or.inl rfl) rfl (m_Vi (by unfold cntS; (repeat' split) <;> first | rfl | (exfalso; omega) | omega | simp_all))
  · refine m_tabIn (tgt := 56) rfl ⟨by decide, by decide⟩ (by decide) (by decide) rfl rfl ?_
    refine m_run 2 (ps' := (60, [some (.inr (.inl 0)), some (.inl 2)], [.inr (.inl 2)], mW (n, T, (hc, hs, hp), (ln, sg), x) M, 0, 0)) rfl ?_
    refine m_callVF [] [] rfl rfl ⟨_, rfl, rfl⟩ rfl rfl (k_unl hR) ?_
    show m_Sem X 38 (63, [some (.inr (.inl 0)), some (.inl 2)], [.inl (unlS n tb)], mW (n, T, (hc, hs, hp), (ln, sg), x) M, 0, 0) _
    exact m_ret1 rfl (Or.inl rfl) rfl (m_Vi (by unfold cntS; (repeat' split) <;> first | rfl | (exfalso; omega) | omega | simp_all))
  · refine m_tabIn (tgt := 64) rfl ⟨by decide, by decide⟩ (by decide) (by decide) rfl rfl ?_
    refine m_run 2 (ps' := (68, [some (.inr (.inl 0)), some (.inl 3)], [.inr (.inl 2)], mW (n, T, (hc, hs, hp), (ln, sg), x) M, 0, 0)) rfl ?_
    refine m_callVF [] [] rfl rfl ⟨_, rfl, rfl⟩ rfl rfl (k_zero hR) ?_
    show m_Sem X 38 (71, [some (.inr (.inl 0)), some (.inl 3)], [.inl (zeroS n tb)], mW (n, T, (hc, hs, hp), (ln, sg), x) M, 0, 0) _
    exact m_ret1 rfl (Or.inl rfl) rfl (m_Vi (by unfold cntS; (repeat' split) <;> first | rfl | (exfalso; omega) | omega | simp_all))
  · refine m_tabIn (tgt := 72) rfl ⟨by decide, by decide⟩ (by decide) (by decide) rfl rfl ?_
    refine m_run 3 (ps' := (79, [some (.inr (.inl 0)), some (.inl 4)], [.inl hc], mW (n, T, (hc, hs, hp), (ln, sg), x) M, 0, 0)) rfl ?_
    exact m_ret1 rfl (Or.inl rfl) rfl (m_Vi (by unfold cntS; (repeat' split) <;> first | rfl | (exfalso; omega) | omega | simp_all))
  · refine m_tabIn (tgt := 80) rfl ⟨by decide, by decide⟩ (by decide) (by decide) rfl rfl ?_
    refine m_run 3 (ps' := (87, [some (.inr (.inl 0)), some (.inl 5)], [.inl ln], mW (n, T, (hc, hs, hp), (ln, sg), x) M, 0, 0)) rfl ?_
    exact m_ret1 rfl (Or.inl rfl) rfl (m_Vi (by unfold cntS; (repeat' split) <;> first | rfl | (exfalso; omega) | omega | simp_all))
  · refine m_tabOut (tgt := 88) rfl ⟨by omega, by omega⟩ (Or.inr (by omega)) rfl ?_
    refine m_run 1 (ps' := (90, [some (.inr (.inl 0)), some (.inl wh)], [.inl (-1000001)], mW (n, T, (hc, hs, hp), (ln, sg), x) M, 0, 0)) rfl ?_
    exact m_ret1 rfl (Or.inl rfl) rfl (m_Vi (by unfold cntS; (repeat' split) <;> first | rfl | (exfalso; omega) | omega | simp_all))
