set_option maxHeartbeats 4000000 in
set_option maxRecDepth 100000 in
theorem e_held {X : Nat × Nat × (Nat → Int32)} {C : CS} {n : Int} {S : Int → Int} {P K : TS} {B : (Nat → Int64) × (Nat → Int64)} {G : Int → Int} {E : Int × Int} {tb : Int → Int → Int} {v : Int} (hR : repM n S tb) : ∀ iv : Int, 0 ≤ iv → iv ≤ 8 → ∀ (F : Int × Int × Int) (u : Int) (hu : u + sumF (fun l => if wcode (witS n tb l) = -1 then 1 else 0) (8 - iv).toNat iv = v), m_Sem X 135 (4, [some (.inr (.inl 13)), some (.inl u), some (.inl iv)], [], mW C (S, P, K, F, B, G, E), 0, 0) (fun r w => r = some (.inl v) ∧ ∃ F2 : Int × Int × Int, w = mW C (S, P, K, F2, B, G, E)) := by
  have hn := hR.1
  have hl := okN_lo hn
  have hs0 := hR.2.1
  refine m_down 0 8 ?_ ?_
  · intro F u hu
    show m_Sem X 135 (4, [some (.inr (.inl 13)), some (.inl u), some (.inl 8)], [], mW C (S, P, K, F, B, G, E), 0, 0) _
    refine m_run 2 (ps' := (7, [some (.inr (.inl 13)), some (.inl u), some (.inl 8)], [.inl 8, .inl 8], mW C (S, P, K, F, B, G, E), 0, 0)) rfl ?_
    refine m_icmp rfl ⟨by omega, by omega⟩ ⟨by omega, by omega⟩ (fun (zc1 : 8 ≤ 8) => ?_) (fun (zc1 : ¬ 8 ≤ 8) => absurd zc1 (not_not_intro (by omega)))
    refine m_run 1 (ps' := (33, [some (.inr (.inl 13)), some (.inl u), some (.inl 8)], [.inl u], mW C (S, P, K, F, B, G, E), 0, 0)) rfl ?_
    exact m_ret1 rfl (Or.inl rfl) rfl (by rw [sum_end] at hu; exact ⟨by rw [← hu, Int.add_zero], F, rfl⟩)
  · intro iv hi1 hi2 ih F u hu
    rw [sum_step hi2] at hu
    refine m_run 2 (ps' := (7, [some (.inr (.inl 13)), some (.inl u), some (.inl iv)], [.inl 8, .inl iv], mW C (S, P, K, F, B, G, E), 0, 0)) rfl ?_
    refine m_icmp rfl ⟨by omega, by omega⟩ ⟨by omega, by omega⟩ (fun (zc1 : 8 ≤ iv) => absurd zc1 (by omega)) (fun (zc1 : ¬ 8 ≤ iv) => ?_)
    refine m_run 3 (ps' := (13, [some (.inr (.inl 13)), some (.inl u), some (.inl iv)], [.inl iv, .inr (.inl 13), .inl u], mW C (S, P, K, F, B, G, E), 0, 0)) rfl ?_
    refine m_callVF [.inl iv] [.inl u] rfl rfl ⟨_, rfl, rfl⟩ rfl rfl (d_hol (law := iv) hR (by omega) (by omega)) ?_
    show m_Sem X 135 (16, [some (.inr (.inl 13)), some (.inl u), some (.inl iv)], [.inl (bI ((witS n tb iv).isNone)), .inl u], mW C (S, P, K, ((witS n tb iv).getD F), B, G, E), 0, 0) _
    refine m_if rfl (bI_R ((witS n tb iv).isNone)) (fun (zc2 : (bI ((witS n tb iv).isNone)) = 0) => ?_) (fun (zc2 : ¬ (bI ((witS n tb iv).isNone)) = 0) => ?_)
    · replace zc2 : ((witS n tb iv).isNone) = false := bI_e0.mp zc2
      refine m_run 5 (ps' := (4, [some (.inr (.inl 13)), some (.inl (u + 0)), some (.inl (iv + 1))], [], mW C (S, P, K, ((witS n tb iv).getD F), B, G, E), 0, 0)) rfl ?_
      refine m_weak [some (.inr (.inl 13)), some (.inl (u + 0)), some (.inl (iv + 1))] ⟨rfl, ⟨rfl, ⟨rfl, trivial⟩⟩⟩ ?_
      exact ih _ _ (by rw [← hu, if_neg (wit_some (F := F) hn zc2).1]; omega)
    · replace zc2 : ((witS n tb iv).isNone) = true := bI_n0.mp zc2
      refine m_run 6 (ps' := (4, [some (.inr (.inl 13)), some (.inl (u + 1)), some (.inl (iv + 1))], [], mW C (S, P, K, ((witS n tb iv).getD F), B, G, E), 0, 0)) rfl ?_
      refine m_weak [some (.inr (.inl 13)), some (.inl (u + 1)), some (.inl (iv + 1))] ⟨rfl, ⟨rfl, ⟨rfl, trivial⟩⟩⟩ ?_
      exact ih _ _ (by rw [← hu, if_pos (wit_none zc2)]; omega)
set_option maxHeartbeats 4000000 in
set_option maxRecDepth 100000 in
theorem d_held {X : Nat × Nat × (Nat → Int32)} {C : CS} {n : Int} {S : Int → Int} {P K : TS} {F : Int × Int × Int} {B : (Nat → Int64) × (Nat → Int64)} {G : Int → Int} {E : Int × Int} {tb : Int → Int → Int} (hR : repM n S tb) : m_Run X 135 [.inr (.inl 13)] (mW C (S, P, K, F, B, G, E)) (fun r w => r = some (.inl (heldS n tb)) ∧ ∃ F2 : Int × Int × Int, w = mW C (S, P, K, F2, B, G, E)) := by
  show m_Sem X 135 (0, [some (.inr (.inl 13)), none, none], [], mW C (S, P, K, F, B, G, E), 0, 0) _
  refine m_run 4 (ps' := (4, [some (.inr (.inl 13)), some (.inl 0), some (.inl 0)], [], mW C (S, P, K, F, B, G, E), 0, 0)) rfl ?_
  refine m_weak [some (.inr (.inl 13)), some (.inl 0), some (.inl 0)] ⟨rfl, ⟨rfl, ⟨rfl, trivial⟩⟩⟩ ?_
  exact e_held (v := heldS n tb) hR 0 (by omega) (by omega) F 0 (by rw [Int.zero_add]; rfl)
set_option maxHeartbeats 4000000 in
set_option maxRecDepth 100000 in
theorem d_nan0 {X : Nat × Nat × (Nat → Int32)} {C : CS} {S : Int → Int} {P K : TS} {F : Int × Int × Int} {B : (Nat → Int64) × (Nat → Int64)} {G : Int → Int} {E : Int × Int} : m_Run X 146 [.inr (.inr (.float 0))] (mW C (S, P, K, F, B, G, E)) (m_V 0 (mW C (S, P, K, F, B, G, E))) := by
  show m_Sem X 146 (0, [some (.inr (.inr (.float 0)))], [], mW C (S, P, K, F, B, G, E), 0, 0) _
  refine m_run 3 (ps' := (3, [some (.inr (.inr (.float 0)))], [.inl ((Op.cmpValue (FP.fcmp 0 0) .l).toInt)], mW C (S, P, K, F, B, G, E), 0, 0)) rfl ?_
  refine m_if rfl ⟨by decide +kernel, by decide +kernel⟩ (fun (zc1 : (Op.cmpValue (FP.fcmp 0 0) .l).toInt = 0) => ?_) (fun (zc1 : ¬ (Op.cmpValue (FP.fcmp 0 0) .l).toInt = 0) => absurd zc1 (not_not_intro (by decide +kernel)))
  refine m_run 1 (ps' := (11, [some (.inr (.inr (.float 0)))], [.inl 0], mW C (S, P, K, F, B, G, E), 0, 0)) rfl ?_
  exact m_ret1 rfl (Or.inr ⟨rfl, Or.inl rfl⟩) rfl (m_Vi rfl)
set_option maxHeartbeats 4000000 in
set_option maxRecDepth 100000 in
theorem d_bits0 {X : Nat × Nat × (Nat → Int32)} {C : CS} {S : Int → Int} {P K : TS} {F : Int × Int × Int} {B : (Nat → Int64) × (Nat → Int64)} {G : Int → Int} {E : Int × Int} : m_Run X 147 [.inr (.inr (.float 0))] (mW C (S, P, K, F, B, G, E)) (m_V 0 (mW C (S, P, K, F, B, G, E))) := by
  show m_Sem X 147 (0, [some (.inr (.inr (.float 0)))], [], mW C (S, P, K, F, B, G, E), 0, 0) _
  refine m_run 1 (ps' := (1, [some (.inr (.inr (.float 0)))], [.inr (.inr (.float 0))], mW C (S, P, K, F, B, G, E), 0, 0)) rfl ?_
  refine m_callSF [.inr (.inr (.float 0))] [] rfl rfl rfl d_nan0 ?_
  show m_Sem X 147 (4, [some (.inr (.inr (.float 0)))], [.inl 0], mW C (S, P, K, F, B, G, E), 0, 0) _
  refine m_if rfl ⟨by omega, by omega⟩ (fun (zc1 : ¬ 0 = 0) => absurd zc1 (by omega)) (fun (zc1 : ¬ ¬ 0 = 0) => ?_)
  refine m_run 1 (ps' := (8, [some (.inr (.inr (.float 0)))], [.inr (.inr (.float 0))], mW C (S, P, K, F, B, G, E), 0, 0)) rfl ?_
  refine m_frb rfl rfl rfl ?_
  exact m_ret1 rfl (Or.inl rfl) rfl (m_Vi (by decide +kernel))
set_option maxHeartbeats 4000000 in
set_option maxRecDepth 100000 in
theorem d_nan1 {X : Nat × Nat × (Nat → Int32)} {C : CS} {S : Int → Int} {P K : TS} {F : Int × Int × Int} {B : (Nat → Int64) × (Nat → Int64)} {G : Int → Int} {E : Int × Int} : m_Run X 146 [.inr (.inr (.float 1040187392))] (mW C (S, P, K, F, B, G, E)) (m_V 0 (mW C (S, P, K, F, B, G, E))) := by
  show m_Sem X 146 (0, [some (.inr (.inr (.float 1040187392)))], [], mW C (S, P, K, F, B, G, E), 0, 0) _
  refine m_run 3 (ps' := (3, [some (.inr (.inr (.float 1040187392)))], [.inl ((Op.cmpValue (FP.fcmp 1040187392 1040187392) .l).toInt)], mW C (S, P, K, F, B, G, E), 0, 0)) rfl ?_
  refine m_if rfl ⟨by decide +kernel, by decide +kernel⟩ (fun (zc1 : (Op.cmpValue (FP.fcmp 1040187392 1040187392) .l).toInt = 0) => ?_) (fun (zc1 : ¬ (Op.cmpValue (FP.fcmp 1040187392 1040187392) .l).toInt = 0) => absurd zc1 (not_not_intro (by decide +kernel)))
  refine m_run 1 (ps' := (11, [some (.inr (.inr (.float 1040187392)))], [.inl 0], mW C (S, P, K, F, B, G, E), 0, 0)) rfl ?_
  exact m_ret1 rfl (Or.inr ⟨rfl, Or.inl rfl⟩) rfl (m_Vi rfl)
set_option maxHeartbeats 4000000 in
set_option maxRecDepth 100000 in
theorem d_bits1 {X : Nat × Nat × (Nat → Int32)} {C : CS} {S : Int → Int} {P K : TS} {F : Int × Int × Int} {B : (Nat → Int64) × (Nat → Int64)} {G : Int → Int} {E : Int × Int} : m_Run X 147 [.inr (.inr (.float 1040187392))] (mW C (S, P, K, F, B, G, E)) (m_V 1040187392 (mW C (S, P, K, F, B, G, E))) := by
  show m_Sem X 147 (0, [some (.inr (.inr (.float 1040187392)))], [], mW C (S, P, K, F, B, G, E), 0, 0) _
  refine m_run 1 (ps' := (1, [some (.inr (.inr (.float 1040187392)))], [.inr (.inr (.float 1040187392))], mW C (S, P, K, F, B, G, E), 0, 0)) rfl ?_
  refine m_callSF [.inr (.inr (.float 1040187392))] [] rfl rfl rfl d_nan1 ?_
  show m_Sem X 147 (4, [some (.inr (.inr (.float 1040187392)))], [.inl 0], mW C (S, P, K, F, B, G, E), 0, 0) _
  refine m_if rfl ⟨by omega, by omega⟩ (fun (zc1 : ¬ 0 = 0) => absurd zc1 (by omega)) (fun (zc1 : ¬ ¬ 0 = 0) => ?_)
  refine m_run 1 (ps' := (8, [some (.inr (.inr (.float 1040187392)))], [.inr (.inr (.float 1040187392))], mW C (S, P, K, F, B, G, E), 0, 0)) rfl ?_
  refine m_frb rfl rfl rfl ?_
  exact m_ret1 rfl (Or.inl rfl) rfl (m_Vi (by decide +kernel))
set_option maxHeartbeats 4000000 in
set_option maxRecDepth 100000 in
theorem d_nan2 {X : Nat × Nat × (Nat → Int32)} {C : CS} {S : Int → Int} {P K : TS} {F : Int × Int × Int} {B : (Nat → Int64) × (Nat → Int64)} {G : Int → Int} {E : Int × Int} : m_Run X 146 [.inr (.inr (.float 1048576000))] (mW C (S, P, K, F, B, G, E)) (m_V 0 (mW C (S, P, K, F, B, G, E))) := by
  show m_Sem X 146 (0, [some (.inr (.inr (.float 1048576000)))], [], mW C (S, P, K, F, B, G, E), 0, 0) _
  refine m_run 3 (ps' := (3, [some (.inr (.inr (.float 1048576000)))], [.inl ((Op.cmpValue (FP.fcmp 1048576000 1048576000) .l).toInt)], mW C (S, P, K, F, B, G, E), 0, 0)) rfl ?_
  refine m_if rfl ⟨by decide +kernel, by decide +kernel⟩ (fun (zc1 : (Op.cmpValue (FP.fcmp 1048576000 1048576000) .l).toInt = 0) => ?_) (fun (zc1 : ¬ (Op.cmpValue (FP.fcmp 1048576000 1048576000) .l).toInt = 0) => absurd zc1 (not_not_intro (by decide +kernel)))
  refine m_run 1 (ps' := (11, [some (.inr (.inr (.float 1048576000)))], [.inl 0], mW C (S, P, K, F, B, G, E), 0, 0)) rfl ?_
  exact m_ret1 rfl (Or.inr ⟨rfl, Or.inl rfl⟩) rfl (m_Vi rfl)
set_option maxHeartbeats 4000000 in
set_option maxRecDepth 100000 in
theorem d_bits2 {X : Nat × Nat × (Nat → Int32)} {C : CS} {S : Int → Int} {P K : TS} {F : Int × Int × Int} {B : (Nat → Int64) × (Nat → Int64)} {G : Int → Int} {E : Int × Int} : m_Run X 147 [.inr (.inr (.float 1048576000))] (mW C (S, P, K, F, B, G, E)) (m_V 1048576000 (mW C (S, P, K, F, B, G, E))) := by
  show m_Sem X 147 (0, [some (.inr (.inr (.float 1048576000)))], [], mW C (S, P, K, F, B, G, E), 0, 0) _
  refine m_run 1 (ps' := (1, [some (.inr (.inr (.float 1048576000)))], [.inr (.inr (.float 1048576000))], mW C (S, P, K, F, B, G, E), 0, 0)) rfl ?_
  refine m_callSF [.inr (.inr (.float 1048576000))] [] rfl rfl rfl d_nan2 ?_
  show m_Sem X 147 (4, [some (.inr (.inr (.float 1048576000)))], [.inl 0], mW C (S, P, K, F, B, G, E), 0, 0) _
  refine m_if rfl ⟨by omega, by omega⟩ (fun (zc1 : ¬ 0 = 0) => absurd zc1 (by omega)) (fun (zc1 : ¬ ¬ 0 = 0) => ?_)
  refine m_run 1 (ps' := (8, [some (.inr (.inr (.float 1048576000)))], [.inr (.inr (.float 1048576000))], mW C (S, P, K, F, B, G, E), 0, 0)) rfl ?_
  refine m_frb rfl rfl rfl ?_
  exact m_ret1 rfl (Or.inl rfl) rfl (m_Vi (by decide +kernel))
set_option maxHeartbeats 4000000 in
set_option maxRecDepth 100000 in
theorem d_nan3 {X : Nat × Nat × (Nat → Int32)} {C : CS} {S : Int → Int} {P K : TS} {F : Int × Int × Int} {B : (Nat → Int64) × (Nat → Int64)} {G : Int → Int} {E : Int × Int} : m_Run X 146 [.inr (.inr (.float 1052770304))] (mW C (S, P, K, F, B, G, E)) (m_V 0 (mW C (S, P, K, F, B, G, E))) := by
  show m_Sem X 146 (0, [some (.inr (.inr (.float 1052770304)))], [], mW C (S, P, K, F, B, G, E), 0, 0) _
  refine m_run 3 (ps' := (3, [some (.inr (.inr (.float 1052770304)))], [.inl ((Op.cmpValue (FP.fcmp 1052770304 1052770304) .l).toInt)], mW C (S, P, K, F, B, G, E), 0, 0)) rfl ?_
  refine m_if rfl ⟨by decide +kernel, by decide +kernel⟩ (fun (zc1 : (Op.cmpValue (FP.fcmp 1052770304 1052770304) .l).toInt = 0) => ?_) (fun (zc1 : ¬ (Op.cmpValue (FP.fcmp 1052770304 1052770304) .l).toInt = 0) => absurd zc1 (not_not_intro (by decide +kernel)))
  refine m_run 1 (ps' := (11, [some (.inr (.inr (.float 1052770304)))], [.inl 0], mW C (S, P, K, F, B, G, E), 0, 0)) rfl ?_
  exact m_ret1 rfl (Or.inr ⟨rfl, Or.inl rfl⟩) rfl (m_Vi rfl)
set_option maxHeartbeats 4000000 in
set_option maxRecDepth 100000 in
theorem d_bits3 {X : Nat × Nat × (Nat → Int32)} {C : CS} {S : Int → Int} {P K : TS} {F : Int × Int × Int} {B : (Nat → Int64) × (Nat → Int64)} {G : Int → Int} {E : Int × Int} : m_Run X 147 [.inr (.inr (.float 1052770304))] (mW C (S, P, K, F, B, G, E)) (m_V 1052770304 (mW C (S, P, K, F, B, G, E))) := by
  show m_Sem X 147 (0, [some (.inr (.inr (.float 1052770304)))], [], mW C (S, P, K, F, B, G, E), 0, 0) _
  refine m_run 1 (ps' := (1, [some (.inr (.inr (.float 1052770304)))], [.inr (.inr (.float 1052770304))], mW C (S, P, K, F, B, G, E), 0, 0)) rfl ?_
  refine m_callSF [.inr (.inr (.float 1052770304))] [] rfl rfl rfl d_nan3 ?_
  show m_Sem X 147 (4, [some (.inr (.inr (.float 1052770304)))], [.inl 0], mW C (S, P, K, F, B, G, E), 0, 0) _
  refine m_if rfl ⟨by omega, by omega⟩ (fun (zc1 : ¬ 0 = 0) => absurd zc1 (by omega)) (fun (zc1 : ¬ ¬ 0 = 0) => ?_)
  refine m_run 1 (ps' := (8, [some (.inr (.inr (.float 1052770304)))], [.inr (.inr (.float 1052770304))], mW C (S, P, K, F, B, G, E), 0, 0)) rfl ?_
  refine m_frb rfl rfl rfl ?_
  exact m_ret1 rfl (Or.inl rfl) rfl (m_Vi (by decide +kernel))
set_option maxHeartbeats 4000000 in
set_option maxRecDepth 100000 in
theorem d_nan4 {X : Nat × Nat × (Nat → Int32)} {C : CS} {S : Int → Int} {P K : TS} {F : Int × Int × Int} {B : (Nat → Int64) × (Nat → Int64)} {G : Int → Int} {E : Int × Int} : m_Run X 146 [.inr (.inr (.float 1056964608))] (mW C (S, P, K, F, B, G, E)) (m_V 0 (mW C (S, P, K, F, B, G, E))) := by
  show m_Sem X 146 (0, [some (.inr (.inr (.float 1056964608)))], [], mW C (S, P, K, F, B, G, E), 0, 0) _
  refine m_run 3 (ps' := (3, [some (.inr (.inr (.float 1056964608)))], [.inl ((Op.cmpValue (FP.fcmp 1056964608 1056964608) .l).toInt)], mW C (S, P, K, F, B, G, E), 0, 0)) rfl ?_
  refine m_if rfl ⟨by decide +kernel, by decide +kernel⟩ (fun (zc1 : (Op.cmpValue (FP.fcmp 1056964608 1056964608) .l).toInt = 0) => ?_) (fun (zc1 : ¬ (Op.cmpValue (FP.fcmp 1056964608 1056964608) .l).toInt = 0) => absurd zc1 (not_not_intro (by decide +kernel)))
  refine m_run 1 (ps' := (11, [some (.inr (.inr (.float 1056964608)))], [.inl 0], mW C (S, P, K, F, B, G, E), 0, 0)) rfl ?_
  exact m_ret1 rfl (Or.inr ⟨rfl, Or.inl rfl⟩) rfl (m_Vi rfl)
set_option maxHeartbeats 4000000 in
set_option maxRecDepth 100000 in
theorem d_bits4 {X : Nat × Nat × (Nat → Int32)} {C : CS} {S : Int → Int} {P K : TS} {F : Int × Int × Int} {B : (Nat → Int64) × (Nat → Int64)} {G : Int → Int} {E : Int × Int} : m_Run X 147 [.inr (.inr (.float 1056964608))] (mW C (S, P, K, F, B, G, E)) (m_V 1056964608 (mW C (S, P, K, F, B, G, E))) := by
  show m_Sem X 147 (0, [some (.inr (.inr (.float 1056964608)))], [], mW C (S, P, K, F, B, G, E), 0, 0) _
  refine m_run 1 (ps' := (1, [some (.inr (.inr (.float 1056964608)))], [.inr (.inr (.float 1056964608))], mW C (S, P, K, F, B, G, E), 0, 0)) rfl ?_
  refine m_callSF [.inr (.inr (.float 1056964608))] [] rfl rfl rfl d_nan4 ?_
  show m_Sem X 147 (4, [some (.inr (.inr (.float 1056964608)))], [.inl 0], mW C (S, P, K, F, B, G, E), 0, 0) _
  refine m_if rfl ⟨by omega, by omega⟩ (fun (zc1 : ¬ 0 = 0) => absurd zc1 (by omega)) (fun (zc1 : ¬ ¬ 0 = 0) => ?_)
  refine m_run 1 (ps' := (8, [some (.inr (.inr (.float 1056964608)))], [.inr (.inr (.float 1056964608))], mW C (S, P, K, F, B, G, E), 0, 0)) rfl ?_
  refine m_frb rfl rfl rfl ?_
  exact m_ret1 rfl (Or.inl rfl) rfl (m_Vi (by decide +kernel))
set_option maxHeartbeats 4000000 in
set_option maxRecDepth 100000 in
theorem d_nan5 {X : Nat × Nat × (Nat → Int32)} {C : CS} {S : Int → Int} {P K : TS} {F : Int × Int × Int} {B : (Nat → Int64) × (Nat → Int64)} {G : Int → Int} {E : Int × Int} : m_Run X 146 [.inr (.inr (.float 1059061760))] (mW C (S, P, K, F, B, G, E)) (m_V 0 (mW C (S, P, K, F, B, G, E))) := by
  show m_Sem X 146 (0, [some (.inr (.inr (.float 1059061760)))], [], mW C (S, P, K, F, B, G, E), 0, 0) _
  refine m_run 3 (ps' := (3, [some (.inr (.inr (.float 1059061760)))], [.inl ((Op.cmpValue (FP.fcmp 1059061760 1059061760) .l).toInt)], mW C (S, P, K, F, B, G, E), 0, 0)) rfl ?_
  refine m_if rfl ⟨by decide +kernel, by decide +kernel⟩ (fun (zc1 : (Op.cmpValue (FP.fcmp 1059061760 1059061760) .l).toInt = 0) => ?_) (fun (zc1 : ¬ (Op.cmpValue (FP.fcmp 1059061760 1059061760) .l).toInt = 0) => absurd zc1 (not_not_intro (by decide +kernel)))
  refine m_run 1 (ps' := (11, [some (.inr (.inr (.float 1059061760)))], [.inl 0], mW C (S, P, K, F, B, G, E), 0, 0)) rfl ?_
  exact m_ret1 rfl (Or.inr ⟨rfl, Or.inl rfl⟩) rfl (m_Vi rfl)
set_option maxHeartbeats 4000000 in
set_option maxRecDepth 100000 in
theorem d_bits5 {X : Nat × Nat × (Nat → Int32)} {C : CS} {S : Int → Int} {P K : TS} {F : Int × Int × Int} {B : (Nat → Int64) × (Nat → Int64)} {G : Int → Int} {E : Int × Int} : m_Run X 147 [.inr (.inr (.float 1059061760))] (mW C (S, P, K, F, B, G, E)) (m_V 1059061760 (mW C (S, P, K, F, B, G, E))) := by
  show m_Sem X 147 (0, [some (.inr (.inr (.float 1059061760)))], [], mW C (S, P, K, F, B, G, E), 0, 0) _
  refine m_run 1 (ps' := (1, [some (.inr (.inr (.float 1059061760)))], [.inr (.inr (.float 1059061760))], mW C (S, P, K, F, B, G, E), 0, 0)) rfl ?_
  refine m_callSF [.inr (.inr (.float 1059061760))] [] rfl rfl rfl d_nan5 ?_
  show m_Sem X 147 (4, [some (.inr (.inr (.float 1059061760)))], [.inl 0], mW C (S, P, K, F, B, G, E), 0, 0) _
  refine m_if rfl ⟨by omega, by omega⟩ (fun (zc1 : ¬ 0 = 0) => absurd zc1 (by omega)) (fun (zc1 : ¬ ¬ 0 = 0) => ?_)
  refine m_run 1 (ps' := (8, [some (.inr (.inr (.float 1059061760)))], [.inr (.inr (.float 1059061760))], mW C (S, P, K, F, B, G, E), 0, 0)) rfl ?_
  refine m_frb rfl rfl rfl ?_
  exact m_ret1 rfl (Or.inl rfl) rfl (m_Vi (by decide +kernel))
set_option maxHeartbeats 4000000 in
set_option maxRecDepth 100000 in
theorem d_nan6 {X : Nat × Nat × (Nat → Int32)} {C : CS} {S : Int → Int} {P K : TS} {F : Int × Int × Int} {B : (Nat → Int64) × (Nat → Int64)} {G : Int → Int} {E : Int × Int} : m_Run X 146 [.inr (.inr (.float 1061158912))] (mW C (S, P, K, F, B, G, E)) (m_V 0 (mW C (S, P, K, F, B, G, E))) := by
  show m_Sem X 146 (0, [some (.inr (.inr (.float 1061158912)))], [], mW C (S, P, K, F, B, G, E), 0, 0) _
  refine m_run 3 (ps' := (3, [some (.inr (.inr (.float 1061158912)))], [.inl ((Op.cmpValue (FP.fcmp 1061158912 1061158912) .l).toInt)], mW C (S, P, K, F, B, G, E), 0, 0)) rfl ?_
  refine m_if rfl ⟨by decide +kernel, by decide +kernel⟩ (fun (zc1 : (Op.cmpValue (FP.fcmp 1061158912 1061158912) .l).toInt = 0) => ?_) (fun (zc1 : ¬ (Op.cmpValue (FP.fcmp 1061158912 1061158912) .l).toInt = 0) => absurd zc1 (not_not_intro (by decide +kernel)))
  refine m_run 1 (ps' := (11, [some (.inr (.inr (.float 1061158912)))], [.inl 0], mW C (S, P, K, F, B, G, E), 0, 0)) rfl ?_
  exact m_ret1 rfl (Or.inr ⟨rfl, Or.inl rfl⟩) rfl (m_Vi rfl)
set_option maxHeartbeats 4000000 in
set_option maxRecDepth 100000 in
theorem d_bits6 {X : Nat × Nat × (Nat → Int32)} {C : CS} {S : Int → Int} {P K : TS} {F : Int × Int × Int} {B : (Nat → Int64) × (Nat → Int64)} {G : Int → Int} {E : Int × Int} : m_Run X 147 [.inr (.inr (.float 1061158912))] (mW C (S, P, K, F, B, G, E)) (m_V 1061158912 (mW C (S, P, K, F, B, G, E))) := by
  show m_Sem X 147 (0, [some (.inr (.inr (.float 1061158912)))], [], mW C (S, P, K, F, B, G, E), 0, 0) _
  refine m_run 1 (ps' := (1, [some (.inr (.inr (.float 1061158912)))], [.inr (.inr (.float 1061158912))], mW C (S, P, K, F, B, G, E), 0, 0)) rfl ?_
  refine m_callSF [.inr (.inr (.float 1061158912))] [] rfl rfl rfl d_nan6 ?_
  show m_Sem X 147 (4, [some (.inr (.inr (.float 1061158912)))], [.inl 0], mW C (S, P, K, F, B, G, E), 0, 0) _
  refine m_if rfl ⟨by omega, by omega⟩ (fun (zc1 : ¬ 0 = 0) => absurd zc1 (by omega)) (fun (zc1 : ¬ ¬ 0 = 0) => ?_)
  refine m_run 1 (ps' := (8, [some (.inr (.inr (.float 1061158912)))], [.inr (.inr (.float 1061158912))], mW C (S, P, K, F, B, G, E), 0, 0)) rfl ?_
  refine m_frb rfl rfl rfl ?_
  exact m_ret1 rfl (Or.inl rfl) rfl (m_Vi (by decide +kernel))
set_option maxHeartbeats 4000000 in
set_option maxRecDepth 100000 in
theorem d_nan7 {X : Nat × Nat × (Nat → Int32)} {C : CS} {S : Int → Int} {P K : TS} {F : Int × Int × Int} {B : (Nat → Int64) × (Nat → Int64)} {G : Int → Int} {E : Int × Int} : m_Run X 146 [.inr (.inr (.float 1063256064))] (mW C (S, P, K, F, B, G, E)) (m_V 0 (mW C (S, P, K, F, B, G, E))) := by
  show m_Sem X 146 (0, [some (.inr (.inr (.float 1063256064)))], [], mW C (S, P, K, F, B, G, E), 0, 0) _
  refine m_run 3 (ps' := (3, [some (.inr (.inr (.float 1063256064)))], [.inl ((Op.cmpValue (FP.fcmp 1063256064 1063256064) .l).toInt)], mW C (S, P, K, F, B, G, E), 0, 0)) rfl ?_
  refine m_if rfl ⟨by decide +kernel, by decide +kernel⟩ (fun (zc1 : (Op.cmpValue (FP.fcmp 1063256064 1063256064) .l).toInt = 0) => ?_) (fun (zc1 : ¬ (Op.cmpValue (FP.fcmp 1063256064 1063256064) .l).toInt = 0) => absurd zc1 (not_not_intro (by decide +kernel)))
  refine m_run 1 (ps' := (11, [some (.inr (.inr (.float 1063256064)))], [.inl 0], mW C (S, P, K, F, B, G, E), 0, 0)) rfl ?_
  exact m_ret1 rfl (Or.inr ⟨rfl, Or.inl rfl⟩) rfl (m_Vi rfl)
set_option maxHeartbeats 4000000 in
set_option maxRecDepth 100000 in
theorem d_bits7 {X : Nat × Nat × (Nat → Int32)} {C : CS} {S : Int → Int} {P K : TS} {F : Int × Int × Int} {B : (Nat → Int64) × (Nat → Int64)} {G : Int → Int} {E : Int × Int} : m_Run X 147 [.inr (.inr (.float 1063256064))] (mW C (S, P, K, F, B, G, E)) (m_V 1063256064 (mW C (S, P, K, F, B, G, E))) := by
  show m_Sem X 147 (0, [some (.inr (.inr (.float 1063256064)))], [], mW C (S, P, K, F, B, G, E), 0, 0) _
  refine m_run 1 (ps' := (1, [some (.inr (.inr (.float 1063256064)))], [.inr (.inr (.float 1063256064))], mW C (S, P, K, F, B, G, E), 0, 0)) rfl ?_
  refine m_callSF [.inr (.inr (.float 1063256064))] [] rfl rfl rfl d_nan7 ?_
  show m_Sem X 147 (4, [some (.inr (.inr (.float 1063256064)))], [.inl 0], mW C (S, P, K, F, B, G, E), 0, 0) _
  refine m_if rfl ⟨by omega, by omega⟩ (fun (zc1 : ¬ 0 = 0) => absurd zc1 (by omega)) (fun (zc1 : ¬ ¬ 0 = 0) => ?_)
  refine m_run 1 (ps' := (8, [some (.inr (.inr (.float 1063256064)))], [.inr (.inr (.float 1063256064))], mW C (S, P, K, F, B, G, E), 0, 0)) rfl ?_
  refine m_frb rfl rfl rfl ?_
  exact m_ret1 rfl (Or.inl rfl) rfl (m_Vi (by decide +kernel))
set_option maxHeartbeats 4000000 in
set_option maxRecDepth 100000 in
theorem d_nan8 {X : Nat × Nat × (Nat → Int32)} {C : CS} {S : Int → Int} {P K : TS} {F : Int × Int × Int} {B : (Nat → Int64) × (Nat → Int64)} {G : Int → Int} {E : Int × Int} : m_Run X 146 [.inr (.inr (.float 1065353216))] (mW C (S, P, K, F, B, G, E)) (m_V 0 (mW C (S, P, K, F, B, G, E))) := by
  show m_Sem X 146 (0, [some (.inr (.inr (.float 1065353216)))], [], mW C (S, P, K, F, B, G, E), 0, 0) _
  refine m_run 3 (ps' := (3, [some (.inr (.inr (.float 1065353216)))], [.inl ((Op.cmpValue (FP.fcmp 1065353216 1065353216) .l).toInt)], mW C (S, P, K, F, B, G, E), 0, 0)) rfl ?_
  refine m_if rfl ⟨by decide +kernel, by decide +kernel⟩ (fun (zc1 : (Op.cmpValue (FP.fcmp 1065353216 1065353216) .l).toInt = 0) => ?_) (fun (zc1 : ¬ (Op.cmpValue (FP.fcmp 1065353216 1065353216) .l).toInt = 0) => absurd zc1 (not_not_intro (by decide +kernel)))
  refine m_run 1 (ps' := (11, [some (.inr (.inr (.float 1065353216)))], [.inl 0], mW C (S, P, K, F, B, G, E), 0, 0)) rfl ?_
  exact m_ret1 rfl (Or.inr ⟨rfl, Or.inl rfl⟩) rfl (m_Vi rfl)
set_option maxHeartbeats 4000000 in
set_option maxRecDepth 100000 in
theorem d_bits8 {X : Nat × Nat × (Nat → Int32)} {C : CS} {S : Int → Int} {P K : TS} {F : Int × Int × Int} {B : (Nat → Int64) × (Nat → Int64)} {G : Int → Int} {E : Int × Int} : m_Run X 147 [.inr (.inr (.float 1065353216))] (mW C (S, P, K, F, B, G, E)) (m_V 1065353216 (mW C (S, P, K, F, B, G, E))) := by
  show m_Sem X 147 (0, [some (.inr (.inr (.float 1065353216)))], [], mW C (S, P, K, F, B, G, E), 0, 0) _
  refine m_run 1 (ps' := (1, [some (.inr (.inr (.float 1065353216)))], [.inr (.inr (.float 1065353216))], mW C (S, P, K, F, B, G, E), 0, 0)) rfl ?_
  refine m_callSF [.inr (.inr (.float 1065353216))] [] rfl rfl rfl d_nan8 ?_
  show m_Sem X 147 (4, [some (.inr (.inr (.float 1065353216)))], [.inl 0], mW C (S, P, K, F, B, G, E), 0, 0) _
  refine m_if rfl ⟨by omega, by omega⟩ (fun (zc1 : ¬ 0 = 0) => absurd zc1 (by omega)) (fun (zc1 : ¬ ¬ 0 = 0) => ?_)
  refine m_run 1 (ps' := (8, [some (.inr (.inr (.float 1065353216)))], [.inr (.inr (.float 1065353216))], mW C (S, P, K, F, B, G, E), 0, 0)) rfl ?_
  refine m_frb rfl rfl rfl ?_
  exact m_ret1 rfl (Or.inl rfl) rfl (m_Vi (by decide +kernel))
set_option maxHeartbeats 4000000 in
set_option maxRecDepth 100000 in
theorem d_share {X : Nat × Nat × (Nat → Int32)} {C : CS} {n : Int} {S : Int → Int} {P K : TS} {F : Int × Int × Int} {B : (Nat → Int64) × (Nat → Int64)} {G : Int → Int} {E : Int × Int} {tb : Int → Int → Int} (hR : repM n S tb) : m_Run X 136 [.inr (.inl 13)] (mW C (S, P, K, F, B, G, E)) (fun r w => r = some (.inl (shB (heldS n tb))) ∧ ∃ F2 : Int × Int × Int, w = mW C (S, P, K, F2, B, G, E)) := by
  show m_Sem X 136 (0, [some (.inr (.inl 13)), none], [], mW C (S, P, K, F, B, G, E), 0, 0) _
  refine m_run 1 (ps' := (1, [some (.inr (.inl 13)), none], [.inr (.inl 13)], mW C (S, P, K, F, B, G, E), 0, 0)) rfl ?_
  refine m_callV [] [] rfl rfl ⟨_, rfl, rfl⟩ rfl rfl (d_held hR) (fun r_ w_ hq_ _ => ?_)
  obtain ⟨rfl, F2, rfl⟩ := hq_
  show m_Sem X 136 (4, [some (.inr (.inl 13)), none], [.inl (heldS n tb)], mW C (S, P, K, F2, B, G, E), 0, 0) _
  obtain ⟨h91, h92⟩ := heldS_in n tb
  obtain ⟨u, hu⟩ : ∃ u, heldS n tb = u := ⟨_, rfl⟩
  rw [hu] at h91 h92 ⊢
  rcases (show u = 0 ∨ u = 1 ∨ u = 2 ∨ u = 3 ∨ u = 4 ∨ u = 5 ∨ u = 6 ∨ u = 7 ∨ u = 8 by omega) with rfl | rfl | rfl | rfl | rfl | rfl | rfl | rfl | rfl
  · refine m_run 2 (ps' := (7, [some (.inr (.inl 13)), none], [.inr (.inr (.float 1090519040)), .inr (.inr (.float (FP.i2f (Int32.ofInt 0))))], mW C (S, P, K, F2, B, G, E), 0, 0)) rfl ?_
    refine m_fdiv (v := 0) rfl (by decide +kernel) (show vf_n32 0 from by unfold vf_n32; decide +kernel) ?_
    refine m_run 2 (ps' := (10, [some (.inr (.inl 13)), some (.inr (.inr (.float 0)))], [.inr (.inr (.float 0))], mW C (S, P, K, F2, B, G, E), 0, 0)) rfl ?_
    refine m_callSF [.inr (.inr (.float 0))] [] rfl rfl rfl d_bits0 ?_
    show m_Sem X 136 (13, [some (.inr (.inl 13)), some (.inr (.inr (.float 0)))], [.inl 0], mW C (S, P, K, F2, B, G, E), 0, 0) _
    exact m_ret1 rfl (Or.inl rfl) rfl (⟨rfl, F2, rfl⟩)
  · refine m_run 2 (ps' := (7, [some (.inr (.inl 13)), none], [.inr (.inr (.float 1090519040)), .inr (.inr (.float (FP.i2f (Int32.ofInt 1))))], mW C (S, P, K, F2, B, G, E), 0, 0)) rfl ?_
    refine m_fdiv (v := 1040187392) rfl (by decide +kernel) (show vf_n32 1040187392 from by unfold vf_n32; decide +kernel) ?_
    refine m_run 2 (ps' := (10, [some (.inr (.inl 13)), some (.inr (.inr (.float 1040187392)))], [.inr (.inr (.float 1040187392))], mW C (S, P, K, F2, B, G, E), 0, 0)) rfl ?_
    refine m_callSF [.inr (.inr (.float 1040187392))] [] rfl rfl rfl d_bits1 ?_
    show m_Sem X 136 (13, [some (.inr (.inl 13)), some (.inr (.inr (.float 1040187392)))], [.inl 1040187392], mW C (S, P, K, F2, B, G, E), 0, 0) _
    exact m_ret1 rfl (Or.inl rfl) rfl (⟨rfl, F2, rfl⟩)
  · refine m_run 2 (ps' := (7, [some (.inr (.inl 13)), none], [.inr (.inr (.float 1090519040)), .inr (.inr (.float (FP.i2f (Int32.ofInt 2))))], mW C (S, P, K, F2, B, G, E), 0, 0)) rfl ?_
    refine m_fdiv (v := 1048576000) rfl (by decide +kernel) (show vf_n32 1048576000 from by unfold vf_n32; decide +kernel) ?_
    refine m_run 2 (ps' := (10, [some (.inr (.inl 13)), some (.inr (.inr (.float 1048576000)))], [.inr (.inr (.float 1048576000))], mW C (S, P, K, F2, B, G, E), 0, 0)) rfl ?_
    refine m_callSF [.inr (.inr (.float 1048576000))] [] rfl rfl rfl d_bits2 ?_
    show m_Sem X 136 (13, [some (.inr (.inl 13)), some (.inr (.inr (.float 1048576000)))], [.inl 1048576000], mW C (S, P, K, F2, B, G, E), 0, 0) _
    exact m_ret1 rfl (Or.inl rfl) rfl (⟨rfl, F2, rfl⟩)
  · refine m_run 2 (ps' := (7, [some (.inr (.inl 13)), none], [.inr (.inr (.float 1090519040)), .inr (.inr (.float (FP.i2f (Int32.ofInt 3))))], mW C (S, P, K, F2, B, G, E), 0, 0)) rfl ?_
    refine m_fdiv (v := 1052770304) rfl (by decide +kernel) (show vf_n32 1052770304 from by unfold vf_n32; decide +kernel) ?_
    refine m_run 2 (ps' := (10, [some (.inr (.inl 13)), some (.inr (.inr (.float 1052770304)))], [.inr (.inr (.float 1052770304))], mW C (S, P, K, F2, B, G, E), 0, 0)) rfl ?_
    refine m_callSF [.inr (.inr (.float 1052770304))] [] rfl rfl rfl d_bits3 ?_
    show m_Sem X 136 (13, [some (.inr (.inl 13)), some (.inr (.inr (.float 1052770304)))], [.inl 1052770304], mW C (S, P, K, F2, B, G, E), 0, 0) _
    exact m_ret1 rfl (Or.inl rfl) rfl (⟨rfl, F2, rfl⟩)
  · refine m_run 2 (ps' := (7, [some (.inr (.inl 13)), none], [.inr (.inr (.float 1090519040)), .inr (.inr (.float (FP.i2f (Int32.ofInt 4))))], mW C (S, P, K, F2, B, G, E), 0, 0)) rfl ?_
    refine m_fdiv (v := 1056964608) rfl (by decide +kernel) (show vf_n32 1056964608 from by unfold vf_n32; decide +kernel) ?_
    refine m_run 2 (ps' := (10, [some (.inr (.inl 13)), some (.inr (.inr (.float 1056964608)))], [.inr (.inr (.float 1056964608))], mW C (S, P, K, F2, B, G, E), 0, 0)) rfl ?_
    refine m_callSF [.inr (.inr (.float 1056964608))] [] rfl rfl rfl d_bits4 ?_
    show m_Sem X 136 (13, [some (.inr (.inl 13)), some (.inr (.inr (.float 1056964608)))], [.inl 1056964608], mW C (S, P, K, F2, B, G, E), 0, 0) _
    exact m_ret1 rfl (Or.inl rfl) rfl (⟨rfl, F2, rfl⟩)
  · refine m_run 2 (ps' := (7, [some (.inr (.inl 13)), none], [.inr (.inr (.float 1090519040)), .inr (.inr (.float (FP.i2f (Int32.ofInt 5))))], mW C (S, P, K, F2, B, G, E), 0, 0)) rfl ?_
    refine m_fdiv (v := 1059061760) rfl (by decide +kernel) (show vf_n32 1059061760 from by unfold vf_n32; decide +kernel) ?_
    refine m_run 2 (ps' := (10, [some (.inr (.inl 13)), some (.inr (.inr (.float 1059061760)))], [.inr (.inr (.float 1059061760))], mW C (S, P, K, F2, B, G, E), 0, 0)) rfl ?_
    refine m_callSF [.inr (.inr (.float 1059061760))] [] rfl rfl rfl d_bits5 ?_
    show m_Sem X 136 (13, [some (.inr (.inl 13)), some (.inr (.inr (.float 1059061760)))], [.inl 1059061760], mW C (S, P, K, F2, B, G, E), 0, 0) _
    exact m_ret1 rfl (Or.inl rfl) rfl (⟨rfl, F2, rfl⟩)
  · refine m_run 2 (ps' := (7, [some (.inr (.inl 13)), none], [.inr (.inr (.float 1090519040)), .inr (.inr (.float (FP.i2f (Int32.ofInt 6))))], mW C (S, P, K, F2, B, G, E), 0, 0)) rfl ?_
    refine m_fdiv (v := 1061158912) rfl (by decide +kernel) (show vf_n32 1061158912 from by unfold vf_n32; decide +kernel) ?_
    refine m_run 2 (ps' := (10, [some (.inr (.inl 13)), some (.inr (.inr (.float 1061158912)))], [.inr (.inr (.float 1061158912))], mW C (S, P, K, F2, B, G, E), 0, 0)) rfl ?_
    refine m_callSF [.inr (.inr (.float 1061158912))] [] rfl rfl rfl d_bits6 ?_
    show m_Sem X 136 (13, [some (.inr (.inl 13)), some (.inr (.inr (.float 1061158912)))], [.inl 1061158912], mW C (S, P, K, F2, B, G, E), 0, 0) _
    exact m_ret1 rfl (Or.inl rfl) rfl (⟨rfl, F2, rfl⟩)
  · refine m_run 2 (ps' := (7, [some (.inr (.inl 13)), none], [.inr (.inr (.float 1090519040)), .inr (.inr (.float (FP.i2f (Int32.ofInt 7))))], mW C (S, P, K, F2, B, G, E), 0, 0)) rfl ?_
    refine m_fdiv (v := 1063256064) rfl (by decide +kernel) (show vf_n32 1063256064 from by unfold vf_n32; decide +kernel) ?_
    refine m_run 2 (ps' := (10, [some (.inr (.inl 13)), some (.inr (.inr (.float 1063256064)))], [.inr (.inr (.float 1063256064))], mW C (S, P, K, F2, B, G, E), 0, 0)) rfl ?_
    refine m_callSF [.inr (.inr (.float 1063256064))] [] rfl rfl rfl d_bits7 ?_
    show m_Sem X 136 (13, [some (.inr (.inl 13)), some (.inr (.inr (.float 1063256064)))], [.inl 1063256064], mW C (S, P, K, F2, B, G, E), 0, 0) _
    exact m_ret1 rfl (Or.inl rfl) rfl (⟨rfl, F2, rfl⟩)
  · refine m_run 2 (ps' := (7, [some (.inr (.inl 13)), none], [.inr (.inr (.float 1090519040)), .inr (.inr (.float (FP.i2f (Int32.ofInt 8))))], mW C (S, P, K, F2, B, G, E), 0, 0)) rfl ?_
    refine m_fdiv (v := 1065353216) rfl (by decide +kernel) (show vf_n32 1065353216 from by unfold vf_n32; decide +kernel) ?_
    refine m_run 2 (ps' := (10, [some (.inr (.inl 13)), some (.inr (.inr (.float 1065353216)))], [.inr (.inr (.float 1065353216))], mW C (S, P, K, F2, B, G, E), 0, 0)) rfl ?_
    refine m_callSF [.inr (.inr (.float 1065353216))] [] rfl rfl rfl d_bits8 ?_
    show m_Sem X 136 (13, [some (.inr (.inl 13)), some (.inr (.inr (.float 1065353216)))], [.inl 1065353216], mW C (S, P, K, F2, B, G, E), 0, 0) _
    exact m_ret1 rfl (Or.inl rfl) rfl (⟨rfl, F2, rfl⟩)
set_option maxHeartbeats 4000000 in
set_option maxRecDepth 100000 in
theorem e_prZI {X : Nat × Nat × (Nat → Int32)} {C : CS} {n : Int} {S : Int → Int} {P K : TS} {F : Int × Int × Int} {B : (Nat → Int64) × (Nat → Int64)} {G : Int → Int} {E : Int × Int} {tb : Int → Int → Int} {a : Int} {Q : Option mPV → mPW → Prop} {v : Int} (hR : repM n S tb) (ha : 0 ≤ a) (ha2 : a < n) (K9 : m_Sem X 137 (4, [some (.inr (.inl 13)), some (.inl 1), some (.inl v), some (.inl (a + 1)), none], [], mW C (S, P, K, F, B, G, E), 0, 0) Q) : ∀ b : Int, 0 ≤ b → b ≤ n → ∀ (u : Int) (hu : u + sumF (fun b => (if tb a b = 0 then 1 else 0)) (n - b).toNat b = v), m_Sem X 137 (17, [some (.inr (.inl 13)), some (.inl 1), some (.inl u), some (.inl a), some (.inl b)], [], mW C (S, P, K, F, B, G, E), 0, 0) (Q) := by
  have hn := hR.1
  have hl := okN_lo hn
  have hs0 := hR.2.1
  refine m_down 0 n ?_ ?_
  · intro u hu
    rw [sum_end] at hu
    have hu : u = v := by omega
    subst hu
    show m_Sem X 137 (17, [some (.inr (.inl 13)), some (.inl 1), some (.inl u), some (.inl a), some (.inl n)], [], mW C (S, P, K, F, B, G, E), 0, 0) _
    refine m_run 4 (ps' := (24, [some (.inr (.inl 13)), some (.inl 1), some (.inl u), some (.inl a), some (.inl n)], [.inl 0, .inr (.inl 14), .inl n], mW C (S, P, K, F, B, G, E), 0, 0)) rfl ?_
    refine m_iald rfl rfl (by omega) (by omega) (by decide) ?_
    show m_Sem X 137 (25, [some (.inr (.inl 13)), some (.inl 1), some (.inl u), some (.inl a), some (.inl n)], [.inl (S 0), .inl n], mW C (S, P, K, F, B, G, E), 0, 0) _
    rw [hs0]
    refine m_icmp rfl ⟨by omega, by omega⟩ ⟨by omega, by omega⟩ (fun (zc1 : n ≤ n) => ?_) (fun (zc1 : ¬ n ≤ n) => absurd zc1 (not_not_intro (by omega)))
    refine m_run 2 (ps' := (4, [some (.inr (.inl 13)), some (.inl 1), some (.inl u), some (.inl (a + 1)), some (.inl n)], [], mW C (S, P, K, F, B, G, E), 0, 0)) rfl ?_
    refine m_weak [some (.inr (.inl 13)), some (.inl 1), some (.inl u), some (.inl (a + 1)), none] ⟨rfl, ⟨rfl, ⟨rfl, ⟨rfl, trivial⟩⟩⟩⟩ ?_
    exact K9
  · intro b hi1 hi2 ih u hu
    rw [sum_step hi2] at hu
    refine m_run 4 (ps' := (24, [some (.inr (.inl 13)), some (.inl 1), some (.inl u), some (.inl a), some (.inl b)], [.inl 0, .inr (.inl 14), .inl b], mW C (S, P, K, F, B, G, E), 0, 0)) rfl ?_
    refine m_iald rfl rfl (by omega) (by omega) (by decide) ?_
    show m_Sem X 137 (25, [some (.inr (.inl 13)), some (.inl 1), some (.inl u), some (.inl a), some (.inl b)], [.inl (S 0), .inl b], mW C (S, P, K, F, B, G, E), 0, 0) _
    rw [hs0]
    refine m_icmp rfl ⟨by omega, by omega⟩ ⟨by omega, by omega⟩ (fun (zc1 : n ≤ b) => absurd zc1 (by omega)) (fun (zc1 : ¬ n ≤ b) => ?_)
    refine m_run 2 (ps' := (30, [some (.inr (.inl 13)), some (.inl 1), some (.inl u), some (.inl a), some (.inl b)], [.inl 1, .inl u], mW C (S, P, K, F, B, G, E), 0, 0)) rfl ?_
    refine m_if rfl ⟨by omega, by omega⟩ (fun (zc2 : 1 = 0) => absurd zc2 (by omega)) (fun (zc2 : ¬ 1 = 0) => ?_)
    refine m_run 3 (ps' := (37, [some (.inr (.inl 13)), some (.inl 1), some (.inl u), some (.inl a), some (.inl b)], [.inl b, .inl a, .inr (.inl 13), .inl u], mW C (S, P, K, F, B, G, E), 0, 0)) rfl ?_
    refine m_callVF [.inl a, .inl b] [.inl u] rfl rfl ⟨_, rfl, rfl⟩ rfl rfl (d_times (a := a) (b := b) hR (by omega) (by omega) (by omega) (by omega)) ?_
    have zt1 := (hR.2.2 a b (by omega) (by omega) (by omega) (by omega)).2
    show m_Sem X 137 (40, [some (.inr (.inl 13)), some (.inl 1), some (.inl u), some (.inl a), some (.inl b)], [.inl (tb a b), .inl u], mW C (S, P, K, F, B, G, E), 0, 0) _
    refine m_if rfl ⟨by omega, by omega⟩ (fun (zc3 : ¬ (tb a b) = 0) => ?_) (fun (zc3 : ¬ ¬ (tb a b) = 0) => ?_)
    · refine m_run 6 (ps' := (17, [some (.inr (.inl 13)), some (.inl 1), some (.inl (u + 0)), some (.inl a), some (.inl (b + 1))], [], mW C (S, P, K, F, B, G, E), 0, 0)) rfl ?_
      refine m_weak [some (.inr (.inl 13)), some (.inl 1), some (.inl (u + 0)), some (.inl a), some (.inl (b + 1))] ⟨rfl, ⟨rfl, ⟨rfl, ⟨rfl, ⟨rfl, trivial⟩⟩⟩⟩⟩ ?_
      rw [if_neg zc3] at hu
      exact ih _ (by rw [← hu]; omega)
    · replace zc3 : (tb a b) = 0 := Decidable.not_not.mp zc3
      refine m_run 6 (ps' := (17, [some (.inr (.inl 13)), some (.inl 1), some (.inl (u + 1)), some (.inl a), some (.inl (b + 1))], [], mW C (S, P, K, F, B, G, E), 0, 0)) rfl ?_
      refine m_weak [some (.inr (.inl 13)), some (.inl 1), some (.inl (u + 1)), some (.inl a), some (.inl (b + 1))] ⟨rfl, ⟨rfl, ⟨rfl, ⟨rfl, ⟨rfl, trivial⟩⟩⟩⟩⟩ ?_
      rw [if_pos zc3] at hu
      exact ih _ (by rw [← hu]; omega)
set_option maxHeartbeats 4000000 in
set_option maxRecDepth 100000 in
theorem e_prZO {X : Nat × Nat × (Nat → Int32)} {C : CS} {n : Int} {S : Int → Int} {P K : TS} {F : Int × Int × Int} {B : (Nat → Int64) × (Nat → Int64)} {G : Int → Int} {E : Int × Int} {tb : Int → Int → Int} {Q : Option mPV → mPW → Prop} {v : Int} (hR : repM n S tb) (K9 : Q (some (.inl v)) (mW C (S, P, K, F, B, G, E))) : ∀ a : Int, 0 ≤ a → a ≤ n → ∀ (u : Int) (hu : u + sumF (fun a => sumF (fun b => (if tb a b = 0 then 1 else 0)) n.toNat 0) (n - a).toNat a = v), m_Sem X 137 (4, [some (.inr (.inl 13)), some (.inl 1), some (.inl u), some (.inl a), none], [], mW C (S, P, K, F, B, G, E), 0, 0) (Q) := by
  have hn := hR.1
  have hl := okN_lo hn
  have hs0 := hR.2.1
  refine m_down 0 n ?_ ?_
  · intro u hu
    rw [sum_end] at hu
    have hu : u = v := by omega
    subst hu
    show m_Sem X 137 (4, [some (.inr (.inl 13)), some (.inl 1), some (.inl u), some (.inl n), none], [], mW C (S, P, K, F, B, G, E), 0, 0) _
    refine m_run 4 (ps' := (10, [some (.inr (.inl 13)), some (.inl 1), some (.inl u), some (.inl n), none], [.inl 0, .inr (.inl 14), .inl n], mW C (S, P, K, F, B, G, E), 0, 0)) rfl ?_
    refine m_iald rfl rfl (by omega) (by omega) (by decide) ?_
    show m_Sem X 137 (11, [some (.inr (.inl 13)), some (.inl 1), some (.inl u), some (.inl n), none], [.inl (S 0), .inl n], mW C (S, P, K, F, B, G, E), 0, 0) _
    rw [hs0]
    refine m_icmp rfl ⟨by omega, by omega⟩ ⟨by omega, by omega⟩ (fun (zc1 : n ≤ n) => ?_) (fun (zc1 : ¬ n ≤ n) => absurd zc1 (not_not_intro (by omega)))
    refine m_run 1 (ps' := (88, [some (.inr (.inl 13)), some (.inl 1), some (.inl u), some (.inl n), none], [.inl u], mW C (S, P, K, F, B, G, E), 0, 0)) rfl ?_
    exact m_ret1 rfl (Or.inl rfl) rfl K9
  · intro a hi1 hi2 ih u hu
    rw [sum_step hi2] at hu
    refine m_run 4 (ps' := (10, [some (.inr (.inl 13)), some (.inl 1), some (.inl u), some (.inl a), none], [.inl 0, .inr (.inl 14), .inl a], mW C (S, P, K, F, B, G, E), 0, 0)) rfl ?_
    refine m_iald rfl rfl (by omega) (by omega) (by decide) ?_
    show m_Sem X 137 (11, [some (.inr (.inl 13)), some (.inl 1), some (.inl u), some (.inl a), none], [.inl (S 0), .inl a], mW C (S, P, K, F, B, G, E), 0, 0) _
    rw [hs0]
    refine m_icmp rfl ⟨by omega, by omega⟩ ⟨by omega, by omega⟩ (fun (zc1 : n ≤ a) => absurd zc1 (by omega)) (fun (zc1 : ¬ n ≤ a) => ?_)
    refine m_run 2 (ps' := (17, [some (.inr (.inl 13)), some (.inl 1), some (.inl u), some (.inl a), some (.inl 0)], [], mW C (S, P, K, F, B, G, E), 0, 0)) rfl ?_
    refine m_weak [some (.inr (.inl 13)), some (.inl 1), some (.inl u), some (.inl a), some (.inl 0)] ⟨rfl, ⟨rfl, ⟨rfl, ⟨rfl, ⟨rfl, trivial⟩⟩⟩⟩⟩ ?_
    exact e_prZI (v := u + sumF (fun b => (if tb a b = 0 then 1 else 0)) n.toNat 0) hR hi1 hi2 (ih _ (by rw [← hu]; omega)) 0 (by omega) (by omega) u (by rw [Int.sub_zero])
set_option maxHeartbeats 4000000 in
set_option maxRecDepth 100000 in
theorem d_prZ {X : Nat × Nat × (Nat → Int32)} {C : CS} {n : Int} {S : Int → Int} {P K : TS} {F : Int × Int × Int} {B : (Nat → Int64) × (Nat → Int64)} {G : Int → Int} {E : Int × Int} {tb : Int → Int → Int} (hR : repM n S tb) : m_Run X 137 [.inr (.inl 13), .inl 1] (mW C (S, P, K, F, B, G, E)) (m_V (zeroS n tb) (mW C (S, P, K, F, B, G, E))) := by
  have hn := hR.1
  have hl := okN_lo hn
  have hs0 := hR.2.1
  show m_Sem X 137 (0, [some (.inr (.inl 13)), some (.inl 1), none, none, none], [], mW C (S, P, K, F, B, G, E), 0, 0) _
  refine m_run 4 (ps' := (4, [some (.inr (.inl 13)), some (.inl 1), some (.inl 0), some (.inl 0), none], [], mW C (S, P, K, F, B, G, E), 0, 0)) rfl ?_
  refine m_weak [some (.inr (.inl 13)), some (.inl 1), some (.inl 0), some (.inl 0), none] ⟨rfl, ⟨rfl, ⟨rfl, ⟨rfl, trivial⟩⟩⟩⟩ ?_
  exact e_prZO (v := zeroS n tb) hR ⟨rfl, rfl⟩ 0 (by omega) (by omega) 0 (by rw [Int.sub_zero, Int.zero_add]; rfl)
set_option maxHeartbeats 4000000 in
set_option maxRecDepth 100000 in
theorem e_prUI {X : Nat × Nat × (Nat → Int32)} {C : CS} {n : Int} {S : Int → Int} {P K : TS} {F : Int × Int × Int} {B : (Nat → Int64) × (Nat → Int64)} {G : Int → Int} {E : Int × Int} {tb : Int → Int → Int} {a : Int} {Q : Option mPV → mPW → Prop} {v : Int} (hR : repM n S tb) (ha : 0 ≤ a) (ha2 : a < n) (K9 : m_Sem X 137 (4, [some (.inr (.inl 13)), some (.inl 0), some (.inl v), some (.inl (a + 1)), none], [], mW C (S, P, K, F, B, G, E), 0, 0) Q) : ∀ b : Int, 0 ≤ b → b ≤ n → ∀ (u : Int) (hu : u + sumF (fun b => (if tb a b = fpS n a b then 0 else 1)) (n - b).toNat b = v), m_Sem X 137 (17, [some (.inr (.inl 13)), some (.inl 0), some (.inl u), some (.inl a), some (.inl b)], [], mW C (S, P, K, F, B, G, E), 0, 0) (Q) := by
  have hn := hR.1
  have hl := okN_lo hn
  have hs0 := hR.2.1
  refine m_down 0 n ?_ ?_
  · intro u hu
    rw [sum_end] at hu
    have hu : u = v := by omega
    subst hu
    show m_Sem X 137 (17, [some (.inr (.inl 13)), some (.inl 0), some (.inl u), some (.inl a), some (.inl n)], [], mW C (S, P, K, F, B, G, E), 0, 0) _
    refine m_run 4 (ps' := (24, [some (.inr (.inl 13)), some (.inl 0), some (.inl u), some (.inl a), some (.inl n)], [.inl 0, .inr (.inl 14), .inl n], mW C (S, P, K, F, B, G, E), 0, 0)) rfl ?_
    refine m_iald rfl rfl (by omega) (by omega) (by decide) ?_
    show m_Sem X 137 (25, [some (.inr (.inl 13)), some (.inl 0), some (.inl u), some (.inl a), some (.inl n)], [.inl (S 0), .inl n], mW C (S, P, K, F, B, G, E), 0, 0) _
    rw [hs0]
    refine m_icmp rfl ⟨by omega, by omega⟩ ⟨by omega, by omega⟩ (fun (zc1 : n ≤ n) => ?_) (fun (zc1 : ¬ n ≤ n) => absurd zc1 (not_not_intro (by omega)))
    refine m_run 2 (ps' := (4, [some (.inr (.inl 13)), some (.inl 0), some (.inl u), some (.inl (a + 1)), some (.inl n)], [], mW C (S, P, K, F, B, G, E), 0, 0)) rfl ?_
    refine m_weak [some (.inr (.inl 13)), some (.inl 0), some (.inl u), some (.inl (a + 1)), none] ⟨rfl, ⟨rfl, ⟨rfl, ⟨rfl, trivial⟩⟩⟩⟩ ?_
    exact K9
  · intro b hi1 hi2 ih u hu
    rw [sum_step hi2] at hu
    refine m_run 4 (ps' := (24, [some (.inr (.inl 13)), some (.inl 0), some (.inl u), some (.inl a), some (.inl b)], [.inl 0, .inr (.inl 14), .inl b], mW C (S, P, K, F, B, G, E), 0, 0)) rfl ?_
    refine m_iald rfl rfl (by omega) (by omega) (by decide) ?_
    show m_Sem X 137 (25, [some (.inr (.inl 13)), some (.inl 0), some (.inl u), some (.inl a), some (.inl b)], [.inl (S 0), .inl b], mW C (S, P, K, F, B, G, E), 0, 0) _
    rw [hs0]
    refine m_icmp rfl ⟨by omega, by omega⟩ ⟨by omega, by omega⟩ (fun (zc1 : n ≤ b) => absurd zc1 (by omega)) (fun (zc1 : ¬ n ≤ b) => ?_)
    refine m_run 2 (ps' := (30, [some (.inr (.inl 13)), some (.inl 0), some (.inl u), some (.inl a), some (.inl b)], [.inl 0, .inl u], mW C (S, P, K, F, B, G, E), 0, 0)) rfl ?_
    refine m_if rfl ⟨by omega, by omega⟩ (fun (zc2 : 0 = 0) => ?_) (fun (zc2 : ¬ 0 = 0) => absurd zc2 (not_not_intro (by omega)))
    refine m_run 3 (ps' := (55, [some (.inr (.inl 13)), some (.inl 0), some (.inl u), some (.inl a), some (.inl b)], [.inl b, .inl a, .inr (.inl 13), .inl u], mW C (S, P, K, F, B, G, E), 0, 0)) rfl ?_
    refine m_callVF [.inl a, .inl b] [.inl u] rfl rfl ⟨_, rfl, rfl⟩ rfl rfl (d_times (a := a) (b := b) hR (by omega) (by omega) (by omega) (by omega)) ?_
    have zt1 := (hR.2.2 a b (by omega) (by omega) (by omega) (by omega)).2
    show m_Sem X 137 (58, [some (.inr (.inl 13)), some (.inl 0), some (.inl u), some (.inl a), some (.inl b)], [.inl (tb a b), .inl u], mW C (S, P, K, F, B, G, E), 0, 0) _
    refine m_run 3 (ps' := (62, [some (.inr (.inl 13)), some (.inl 0), some (.inl u), some (.inl a), some (.inl b)], [.inl b, .inl a, .inr (.inl 13), .inl (tb a b), .inl u], mW C (S, P, K, F, B, G, E), 0, 0)) rfl ?_
    refine m_callVF [.inl a, .inl b] [.inl (tb a b), .inl u] rfl rfl ⟨_, rfl, rfl⟩ rfl rfl (d_fp (a := a) (b := b) hn hs0 (by omega) (by omega) (by omega) (by omega)) ?_
    have zt2 := fpS_in (n := n) (a := a) (b := b) hn (by omega) (by omega) (by omega) (by omega)
    show m_Sem X 137 (65, [some (.inr (.inl 13)), some (.inl 0), some (.inl u), some (.inl a), some (.inl b)], [.inl (fpS n a b), .inl (tb a b), .inl u], mW C (S, P, K, F, B, G, E), 0, 0) _
    refine m_icmp rfl ⟨by omega, by omega⟩ ⟨by omega, by omega⟩ (fun (zc3 : (tb a b) = (fpS n a b)) => ?_) (fun (zc3 : ¬ (tb a b) = (fpS n a b)) => ?_)
    · refine m_run 5 (ps' := (17, [some (.inr (.inl 13)), some (.inl 0), some (.inl (u + 0)), some (.inl a), some (.inl (b + 1))], [], mW C (S, P, K, F, B, G, E), 0, 0)) rfl ?_
      refine m_weak [some (.inr (.inl 13)), some (.inl 0), some (.inl (u + 0)), some (.inl a), some (.inl (b + 1))] ⟨rfl, ⟨rfl, ⟨rfl, ⟨rfl, ⟨rfl, trivial⟩⟩⟩⟩⟩ ?_
      rw [if_pos zc3] at hu
      exact ih _ (by rw [← hu]; omega)
    · refine m_run 6 (ps' := (17, [some (.inr (.inl 13)), some (.inl 0), some (.inl (u + 1)), some (.inl a), some (.inl (b + 1))], [], mW C (S, P, K, F, B, G, E), 0, 0)) rfl ?_
      refine m_weak [some (.inr (.inl 13)), some (.inl 0), some (.inl (u + 1)), some (.inl a), some (.inl (b + 1))] ⟨rfl, ⟨rfl, ⟨rfl, ⟨rfl, ⟨rfl, trivial⟩⟩⟩⟩⟩ ?_
      rw [if_neg zc3] at hu
      exact ih _ (by rw [← hu]; omega)
set_option maxHeartbeats 4000000 in
set_option maxRecDepth 100000 in
theorem e_prUO {X : Nat × Nat × (Nat → Int32)} {C : CS} {n : Int} {S : Int → Int} {P K : TS} {F : Int × Int × Int} {B : (Nat → Int64) × (Nat → Int64)} {G : Int → Int} {E : Int × Int} {tb : Int → Int → Int} {Q : Option mPV → mPW → Prop} {v : Int} (hR : repM n S tb) (K9 : Q (some (.inl v)) (mW C (S, P, K, F, B, G, E))) : ∀ a : Int, 0 ≤ a → a ≤ n → ∀ (u : Int) (hu : u + sumF (fun a => sumF (fun b => (if tb a b = fpS n a b then 0 else 1)) n.toNat 0) (n - a).toNat a = v), m_Sem X 137 (4, [some (.inr (.inl 13)), some (.inl 0), some (.inl u), some (.inl a), none], [], mW C (S, P, K, F, B, G, E), 0, 0) (Q) := by
  have hn := hR.1
  have hl := okN_lo hn
  have hs0 := hR.2.1
  refine m_down 0 n ?_ ?_
  · intro u hu
    rw [sum_end] at hu
    have hu : u = v := by omega
    subst hu
    show m_Sem X 137 (4, [some (.inr (.inl 13)), some (.inl 0), some (.inl u), some (.inl n), none], [], mW C (S, P, K, F, B, G, E), 0, 0) _
    refine m_run 4 (ps' := (10, [some (.inr (.inl 13)), some (.inl 0), some (.inl u), some (.inl n), none], [.inl 0, .inr (.inl 14), .inl n], mW C (S, P, K, F, B, G, E), 0, 0)) rfl ?_
    refine m_iald rfl rfl (by omega) (by omega) (by decide) ?_
    show m_Sem X 137 (11, [some (.inr (.inl 13)), some (.inl 0), some (.inl u), some (.inl n), none], [.inl (S 0), .inl n], mW C (S, P, K, F, B, G, E), 0, 0) _
    rw [hs0]
    refine m_icmp rfl ⟨by omega, by omega⟩ ⟨by omega, by omega⟩ (fun (zc1 : n ≤ n) => ?_) (fun (zc1 : ¬ n ≤ n) => absurd zc1 (not_not_intro (by omega)))
    refine m_run 1 (ps' := (88, [some (.inr (.inl 13)), some (.inl 0), some (.inl u), some (.inl n), none], [.inl u], mW C (S, P, K, F, B, G, E), 0, 0)) rfl ?_
    exact m_ret1 rfl (Or.inl rfl) rfl K9
  · intro a hi1 hi2 ih u hu
    rw [sum_step hi2] at hu
    refine m_run 4 (ps' := (10, [some (.inr (.inl 13)), some (.inl 0), some (.inl u), some (.inl a), none], [.inl 0, .inr (.inl 14), .inl a], mW C (S, P, K, F, B, G, E), 0, 0)) rfl ?_
    refine m_iald rfl rfl (by omega) (by omega) (by decide) ?_
    show m_Sem X 137 (11, [some (.inr (.inl 13)), some (.inl 0), some (.inl u), some (.inl a), none], [.inl (S 0), .inl a], mW C (S, P, K, F, B, G, E), 0, 0) _
    rw [hs0]
    refine m_icmp rfl ⟨by omega, by omega⟩ ⟨by omega, by omega⟩ (fun (zc1 : n ≤ a) => absurd zc1 (by omega)) (fun (zc1 : ¬ n ≤ a) => ?_)
    refine m_run 2 (ps' := (17, [some (.inr (.inl 13)), some (.inl 0), some (.inl u), some (.inl a), some (.inl 0)], [], mW C (S, P, K, F, B, G, E), 0, 0)) rfl ?_
    refine m_weak [some (.inr (.inl 13)), some (.inl 0), some (.inl u), some (.inl a), some (.inl 0)] ⟨rfl, ⟨rfl, ⟨rfl, ⟨rfl, ⟨rfl, trivial⟩⟩⟩⟩⟩ ?_
    exact e_prUI (v := u + sumF (fun b => (if tb a b = fpS n a b then 0 else 1)) n.toNat 0) hR hi1 hi2 (ih _ (by rw [← hu]; omega)) 0 (by omega) (by omega) u (by rw [Int.sub_zero])
set_option maxHeartbeats 4000000 in
set_option maxRecDepth 100000 in
theorem d_prU {X : Nat × Nat × (Nat → Int32)} {C : CS} {n : Int} {S : Int → Int} {P K : TS} {F : Int × Int × Int} {B : (Nat → Int64) × (Nat → Int64)} {G : Int → Int} {E : Int × Int} {tb : Int → Int → Int} (hR : repM n S tb) : m_Run X 137 [.inr (.inl 13), .inl 0] (mW C (S, P, K, F, B, G, E)) (m_V (unlS n tb) (mW C (S, P, K, F, B, G, E))) := by
  have hn := hR.1
  have hl := okN_lo hn
  have hs0 := hR.2.1
  show m_Sem X 137 (0, [some (.inr (.inl 13)), some (.inl 0), none, none, none], [], mW C (S, P, K, F, B, G, E), 0, 0) _
  refine m_run 4 (ps' := (4, [some (.inr (.inl 13)), some (.inl 0), some (.inl 0), some (.inl 0), none], [], mW C (S, P, K, F, B, G, E), 0, 0)) rfl ?_
  refine m_weak [some (.inr (.inl 13)), some (.inl 0), some (.inl 0), some (.inl 0), none] ⟨rfl, ⟨rfl, ⟨rfl, ⟨rfl, trivial⟩⟩⟩⟩ ?_
  exact e_prUO (v := unlS n tb) hR ⟨rfl, rfl⟩ 0 (by omega) (by omega) 0 (by rw [Int.sub_zero, Int.zero_add]; rfl)
set_option maxHeartbeats 4000000 in
set_option maxRecDepth 100000 in
theorem d_cnt {X : Nat × Nat × (Nat → Int32)} {C : CS} {n : Int} {S : Int → Int} {F : Int × Int × Int} {B : (Nat → Int64) × (Nat → Int64)} {G : Int → Int} {E : Int × Int} {tb : Int → Int → Int} {q ty : Int} {p tx : Int → Int} {wh : Int} (hw : m_R wh) (hR : repM n S tb) : m_Run X 138 [.inr (.inl 13), .inl wh] (mW C (S, (q, p), (ty, tx), F, B, G, E)) (m_V (cntS n tb q ty wh) (mW C (S, (q, p), (ty, tx), F, B, G, E))) := by
  have hn := hR.1
  have hl := okN_lo hn
  have hs0 := hR.2.1
  obtain ⟨hw1, hw2⟩ := id hw
  show m_Sem X 138 (0, [some (.inr (.inl 13)), some (.inl wh)], [], mW C (S, (q, p), (ty, tx), F, B, G, E), 0, 0) _
  refine m_run 1 (ps' := (1, [some (.inr (.inl 13)), some (.inl wh)], [.inl wh], mW C (S, (q, p), (ty, tx), F, B, G, E), 0, 0)) rfl ?_
  rcases (show wh < 0 ∨ wh = 0 ∨ wh = 1 ∨ wh = 2 ∨ wh = 3 ∨ wh = 4 ∨ wh = 5 ∨ 5 < wh by omega) with zs1 | rfl | rfl | rfl | rfl | rfl | rfl | zs1
  · refine m_tabOut (tgt := 74) rfl ⟨by omega, by omega⟩ (Or.inl (by omega)) rfl ?_
    refine m_run 1 (ps' := (76, [some (.inr (.inl 13)), some (.inl wh)], [.inl (-1000001)], mW C (S, (q, p), (ty, tx), F, B, G, E), 0, 0)) rfl ?_
    exact m_ret1 rfl (Or.inl rfl) rfl (m_Vi (by unfold cntS; rw [if_neg (by omega), if_neg (by omega), if_neg (by omega), if_neg (by omega), if_neg (by omega), if_neg (by omega)]))
  · refine m_tabIn (tgt := 40) rfl ⟨by decide, by decide⟩ (by decide) (by decide) rfl rfl ?_
    refine m_run 3 (ps' := (45, [some (.inr (.inl 13)), some (.inl 0)], [.inl 0, .inr (.inl 14)], mW C (S, (q, p), (ty, tx), F, B, G, E), 0, 0)) rfl ?_
    refine m_iald rfl rfl (by omega) (by omega) (by decide) ?_
    show m_Sem X 138 (46, [some (.inr (.inl 13)), some (.inl 0)], [.inl (S 0)], mW C (S, (q, p), (ty, tx), F, B, G, E), 0, 0) _
    rw [hs0]
    exact m_ret1 rfl (Or.inl rfl) rfl (m_Vi rfl)
  · refine m_tabIn (tgt := 47) rfl ⟨by decide, by decide⟩ (by decide) (by decide) rfl rfl ?_
    refine m_run 1 (ps' := (48, [some (.inr (.inl 13)), some (.inl 1)], [.inr (.inl 13)], mW C (S, (q, p), (ty, tx), F, B, G, E), 0, 0)) rfl ?_
    refine m_callVF [] [] rfl rfl ⟨_, rfl, rfl⟩ rfl rfl (d_pts hs0) ?_
    show m_Sem X 138 (51, [some (.inr (.inl 13)), some (.inl 1)], [.inl (NP n)], mW C (S, (q, p), (ty, tx), F, B, G, E), 0, 0) _
    exact m_ret1 rfl (Or.inl rfl) rfl (m_Vi rfl)
  · refine m_tabIn (tgt := 52) rfl ⟨by decide, by decide⟩ (by decide) (by decide) rfl rfl ?_
    refine m_run 2 (ps' := (54, [some (.inr (.inl 13)), some (.inl 2)], [.inl 0, .inr (.inl 13)], mW C (S, (q, p), (ty, tx), F, B, G, E), 0, 0)) rfl ?_
    refine m_callVF [.inl 0] [] rfl rfl ⟨_, rfl, rfl⟩ rfl rfl (d_prU hR) ?_
    show m_Sem X 138 (57, [some (.inr (.inl 13)), some (.inl 2)], [.inl (unlS n tb)], mW C (S, (q, p), (ty, tx), F, B, G, E), 0, 0) _
    exact m_ret1 rfl (Or.inl rfl) rfl (m_Vi rfl)
  · refine m_tabIn (tgt := 58) rfl ⟨by decide, by decide⟩ (by decide) (by decide) rfl rfl ?_
    refine m_run 2 (ps' := (60, [some (.inr (.inl 13)), some (.inl 3)], [.inl 1, .inr (.inl 13)], mW C (S, (q, p), (ty, tx), F, B, G, E), 0, 0)) rfl ?_
    refine m_callVF [.inl 1] [] rfl rfl ⟨_, rfl, rfl⟩ rfl rfl (d_prZ hR) ?_
    show m_Sem X 138 (63, [some (.inr (.inl 13)), some (.inl 3)], [.inl (zeroS n tb)], mW C (S, (q, p), (ty, tx), F, B, G, E), 0, 0) _
    exact m_ret1 rfl (Or.inl rfl) rfl (m_Vi rfl)
  · refine m_tabIn (tgt := 64) rfl ⟨by decide, by decide⟩ (by decide) (by decide) rfl rfl ?_
    refine m_run 2 (ps' := (68, [some (.inr (.inl 13)), some (.inl 4)], [.inl q], mW C (S, (q, p), (ty, tx), F, B, G, E), 0, 0)) rfl ?_
    exact m_ret1 rfl (Or.inl rfl) rfl (m_Vi rfl)
  · refine m_tabIn (tgt := 69) rfl ⟨by decide, by decide⟩ (by decide) (by decide) rfl rfl ?_
    refine m_run 2 (ps' := (73, [some (.inr (.inl 13)), some (.inl 5)], [.inl ty], mW C (S, (q, p), (ty, tx), F, B, G, E), 0, 0)) rfl ?_
    exact m_ret1 rfl (Or.inl rfl) rfl (m_Vi rfl)
  · refine m_tabOut (tgt := 74) rfl ⟨by omega, by omega⟩ (Or.inr (by omega)) rfl ?_
    refine m_run 1 (ps' := (76, [some (.inr (.inl 13)), some (.inl wh)], [.inl (-1000001)], mW C (S, (q, p), (ty, tx), F, B, G, E), 0, 0)) rfl ?_
    exact m_ret1 rfl (Or.inl rfl) rfl (m_Vi (by unfold cntS; rw [if_neg (by omega), if_neg (by omega), if_neg (by omega), if_neg (by omega), if_neg (by omega), if_neg (by omega)]))
set_option maxHeartbeats 4000000 in
set_option maxRecDepth 100000 in
theorem e_undo {X : Nat × Nat × (Nat → Int32)} {C : CS} {K : TS} {F : Int × Int × Int} {B : (Nat → Int64) × (Nat → Int64)} {G : Int → Int} {E : Int × Int} {q : Int} {p : Int → Int} (hq1 : 0 ≤ q) (hq2 : q ≤ 3) : ∀ iv : Int, 0 ≤ iv → iv ≤ 82 → ∀ (S : Int → Int) (hf : ∀ j, 0 ≤ j → j < iv → S j = p (82 * q + j)), m_Sem X 139 (22, [some (.inr (.inl 13)), some (.inl iv)], [], mW C (S, (q, p), K, F, B, G, E), 0, 0) (fun r w => r = some (.inl q) ∧ ∃ S3 : Int → Int, w = mW C (S3, (q, p), K, F, B, G, E) ∧ ∀ j, 0 ≤ j → j < 82 → S3 j = p (82 * q + j)) := by
  refine m_down 0 82 ?_ ?_
  · intro S hf
    show m_Sem X 139 (22, [some (.inr (.inl 13)), some (.inl 82)], [], mW C (S, (q, p), K, F, B, G, E), 0, 0) _
    refine m_run 2 (ps' := (25, [some (.inr (.inl 13)), some (.inl 82)], [.inl 82, .inl 82], mW C (S, (q, p), K, F, B, G, E), 0, 0)) rfl ?_
    refine m_icmp rfl ⟨by omega, by omega⟩ ⟨by omega, by omega⟩ (fun (zc1 : 82 ≤ 82) => ?_) (fun (zc1 : ¬ 82 ≤ 82) => absurd zc1 (not_not_intro (by omega)))
    refine m_run 2 (ps' := (58, [some (.inr (.inl 13)), some (.inl 82)], [.inl q], mW C (S, (q, p), K, F, B, G, E), 0, 0)) rfl ?_
    exact m_ret1 rfl (Or.inl rfl) rfl (⟨rfl, S, rfl, hf⟩)
  · intro iv hi1 hi2 ih S hf
    refine m_run 2 (ps' := (25, [some (.inr (.inl 13)), some (.inl iv)], [.inl 82, .inl iv], mW C (S, (q, p), K, F, B, G, E), 0, 0)) rfl ?_
    refine m_icmp rfl ⟨by omega, by omega⟩ ⟨by omega, by omega⟩ (fun (zc1 : 82 ≤ iv) => absurd zc1 (by omega)) (fun (zc1 : ¬ 82 ≤ iv) => ?_)
    refine m_run 11 (ps' := (46, [some (.inr (.inl 13)), some (.inl iv)], [.inl ((82 * q) + iv), .inr (.inl 15), .inl iv, .inr (.inl 14)], mW C (S, (q, p), K, F, B, G, E), 0, 0)) rfl ?_
    refine m_iald rfl rfl (by omega) (by omega) (by decide) ?_
    refine m_iast rfl rfl (by omega) (by omega) (by decide) ?_
    show m_Sem X 139 (48, [some (.inr (.inl 13)), some (.inl iv)], [], mW C ((m_up S iv (p ((82 * q) + iv))), (q, p), K, F, B, G, E), 0, 0) _
    refine m_run 2 (ps' := (22, [some (.inr (.inl 13)), some (.inl (iv + 1))], [], mW C ((m_up S iv (p ((82 * q) + iv))), (q, p), K, F, B, G, E), 0, 0)) rfl ?_
    refine m_weak [some (.inr (.inl 13)), some (.inl (iv + 1))] ⟨rfl, ⟨rfl, trivial⟩⟩ ?_
    refine ih _ (fun j h3 h4 => ?_)
    by_cases he : j = iv
    · rw [he, m_up_s]
    · rw [m_up_n S _ he]; exact hf j h3 (by omega)
set_option maxHeartbeats 4000000 in
set_option maxRecDepth 100000 in
theorem d_undo {X : Nat × Nat × (Nat → Int32)} {C : CS} {S : Int → Int} {K : TS} {F : Int × Int × Int} {B : (Nat → Int64) × (Nat → Int64)} {G : Int → Int} {E : Int × Int} {q : Int} {p : Int → Int} (hq1 : 1 ≤ q) (hq2 : q ≤ 4) : m_Run X 139 [.inr (.inl 13)] (mW C (S, (q, p), K, F, B, G, E)) (fun r w => r = some (.inl (q - 1)) ∧ ∃ S3 : Int → Int, w = mW C (S3, (q - 1, p), K, F, B, G, E) ∧ ∀ j, 0 ≤ j → j < 82 → S3 j = p (82 * (q - 1) + j)) := by
  show m_Sem X 139 (0, [some (.inr (.inl 13)), none], [], mW C (S, (q, p), K, F, B, G, E), 0, 0) _
  refine m_run 2 (ps' := (4, [some (.inr (.inl 13)), none], [.inl q], mW C (S, (q, p), K, F, B, G, E), 0, 0)) rfl ?_
  refine m_if rfl ⟨by omega, by omega⟩ (fun (zc1 : ¬ q = 0) => ?_) (fun (zc1 : ¬ ¬ q = 0) => absurd zc1 (not_not_intro (by omega)))
  refine m_run 8 (ps' := (22, [some (.inr (.inl 13)), some (.inl 0)], [], mW C (S, ((q - 1), p), K, F, B, G, E), 0, 0)) rfl ?_
  refine m_weak [some (.inr (.inl 13)), some (.inl 0)] ⟨rfl, ⟨rfl, trivial⟩⟩ ?_
  exact e_undo (q := q - 1) (by omega) (by omega) 0 (by omega) (by omega) S (fun j h3 h4 => absurd h4 (by omega))
set_option maxHeartbeats 4000000 in
set_option maxRecDepth 100000 in
theorem d_undoN {X : Nat × Nat × (Nat → Int32)} {C : CS} {S : Int → Int} {K : TS} {F : Int × Int × Int} {B : (Nat → Int64) × (Nat → Int64)} {G : Int → Int} {E : Int × Int} {p : Int → Int} : m_Run X 139 [.inr (.inl 13)] (mW C (S, (0, p), K, F, B, G, E)) (m_V (-1000002) (mW C (S, (0, p), K, F, B, G, E))) := by
  show m_Sem X 139 (0, [some (.inr (.inl 13)), none], [], mW C (S, (0, p), K, F, B, G, E), 0, 0) _
  refine m_run 2 (ps' := (4, [some (.inr (.inl 13)), none], [.inl 0], mW C (S, (0, p), K, F, B, G, E), 0, 0)) rfl ?_
  refine m_if rfl ⟨by omega, by omega⟩ (fun (zc1 : ¬ 0 = 0) => absurd zc1 (by omega)) (fun (zc1 : ¬ ¬ 0 = 0) => ?_)
  refine m_run 1 (ps' := (9, [some (.inr (.inl 13)), none], [.inl (-1000002)], mW C (S, (0, p), K, F, B, G, E), 0, 0)) rfl ?_
  exact m_ret1 rfl (Or.inl rfl) rfl (m_Vi rfl)
set_option maxHeartbeats 4000000 in
set_option maxRecDepth 100000 in
theorem d_type {X : Nat × Nat × (Nat → Int32)} {C : CS} {S : Int → Int} {P : TS} {F : Int × Int × Int} {B : (Nat → Int64) × (Nat → Int64)} {G : Int → Int} {E : Int × Int} {ln : Int} {sg : Int → Int} {c : Int} (hc : m_R c) (hS : okS ln sg) : m_Run X 140 [.inr (.inl 13), .inl c] (mW C (S, P, (ln, sg), F, B, G, E)) (m_V (typS ln c) (mW C (S, P, (typT ln sg c), F, B, G, E))) := by
  obtain ⟨hs1, hs2, hs3⟩ := id hS
  show m_Sem X 140 (0, [some (.inr (.inl 13)), some (.inl c)], [], mW C (S, P, (ln, sg), F, B, G, E), 0, 0) _
  refine m_run 3 (ps' := (5, [some (.inr (.inl 13)), some (.inl c)], [.inl 126, .inl 32, .inl c], mW C (S, P, (ln, sg), F, B, G, E), 0, 0)) rfl ?_
  refine m_callSF [.inl c, .inl 32, .inl 126] [] rfl rfl rfl (d_in (v := c) (l := 32) (m := 126) hc ⟨by omega, by omega⟩ ⟨by omega, by omega⟩) ?_
  show m_Sem X 140 (8, [some (.inr (.inl 13)), some (.inl c)], [.inl (bI (insS c 32 126))], mW C (S, P, (ln, sg), F, B, G, E), 0, 0) _
  refine m_if rfl (bI_R (insS c 32 126)) (fun (zc1 : ¬ (bI (insS c 32 126)) = 0) => ?_) (fun (zc1 : ¬ ¬ (bI (insS c 32 126)) = 0) => ?_)
  · replace zc1 : (insS c 32 126) = true := bI_n0.mp zc1
    have zi9 := insS_i.mp zc1
    refine m_run 3 (ps' := (20, [some (.inr (.inl 13)), some (.inl c)], [.inl 60, .inl ln], mW C (S, P, (ln, sg), F, B, G, E), 0, 0)) rfl ?_
    refine m_icmp rfl ⟨by omega, by omega⟩ ⟨by omega, by omega⟩ (fun (zc2 : ¬ ln = 60) => ?_) (fun (zc2 : ¬ ¬ ln = 60) => ?_)
    · refine m_run 5 (ps' := (35, [some (.inr (.inl 13)), some (.inl c)], [.inl c, .inl ln, .inr (.inl 16)], mW C (S, P, (ln, sg), F, B, G, E), 0, 0)) rfl ?_
      refine m_iast rfl rfl (by omega) (by omega) (by decide) ?_
      show m_Sem X 140 (36, [some (.inr (.inl 13)), some (.inl c)], [], mW C (S, P, (ln, (m_up sg ln c)), F, B, G, E), 0, 0) _
      refine m_run 8 (ps' := (50, [some (.inr (.inl 13)), some (.inl c)], [.inl (ln + 1)], mW C (S, P, ((ln + 1), (m_up sg ln c)), F, B, G, E), 0, 0)) rfl ?_
      exact m_ret1 rfl (Or.inl rfl) rfl (m_Vw (by unfold typS; rw [if_neg (by omega), if_neg (by omega), if_pos (by omega)]) (by unfold typT; rw [if_neg (by omega), if_neg (by omega), if_pos (by omega)]))
    · replace zc2 : ln = 60 := Decidable.not_not.mp zc2
      refine m_run 1 (ps' := (25, [some (.inr (.inl 13)), some (.inl c)], [.inl (-1000003)], mW C (S, P, (ln, sg), F, B, G, E), 0, 0)) rfl ?_
      exact m_ret1 rfl (Or.inl rfl) rfl (m_Vw (by unfold typS; rw [if_neg (by omega), if_neg (by omega), if_neg (by omega)]) (by unfold typT; rw [if_neg (by omega), if_neg (by omega), if_neg (by omega)]))
  · replace zc1 : (insS c 32 126) = false := bI_e0.mp (Decidable.not_not.mp zc1)
    have zi9 := insS_f.mp zc1
    refine m_run 1 (ps' := (13, [some (.inr (.inl 13)), some (.inl c)], [.inl (-1000001)], mW C (S, P, (ln, sg), F, B, G, E), 0, 0)) rfl ?_
    exact m_ret1 rfl (Or.inl rfl) rfl (m_Vw (by unfold typS; split <;> first | rfl | rw [if_pos (by omega)]) (by unfold typT; split <;> first | rfl | rw [if_pos (by omega)]))
set_option maxHeartbeats 4000000 in
set_option maxRecDepth 100000 in
theorem d_clr {X : Nat × Nat × (Nat → Int32)} {C : CS} {S : Int → Int} {P : TS} {F : Int × Int × Int} {B : (Nat → Int64) × (Nat → Int64)} {G : Int → Int} {E : Int × Int} {ln : Int} {sg : Int → Int} : m_Run X 141 [.inr (.inl 13)] (mW C (S, P, (ln, sg), F, B, G, E)) (m_V ln (mW C (S, P, (0, sg), F, B, G, E))) := by
  show m_Sem X 141 (0, [some (.inr (.inl 13)), none], [], mW C (S, P, (ln, sg), F, B, G, E), 0, 0) _
  refine m_run 7 (ps' := (11, [some (.inr (.inl 13)), some (.inl ln)], [.inl ln], mW C (S, P, (0, sg), F, B, G, E), 0, 0)) rfl ?_
  exact m_ret1 rfl (Or.inl rfl) rfl (m_Vi rfl)
set_option maxHeartbeats 4000000 in
set_option maxRecDepth 100000 in
theorem d_isat {X : Nat × Nat × (Nat → Int32)} {C : CS} {S : Int → Int} {P : TS} {F : Int × Int × Int} {B : (Nat → Int64) × (Nat → Int64)} {G : Int → Int} {E : Int × Int} {ln : Int} {sg : Int → Int} {j lo hi9 : Int} (hS : okS ln sg) (hj : 0 ≤ j) (hj2 : j < 200) (hlo : m_R lo) (hhi : m_R hi9) : m_Run X 142 [.inr (.inl 13), .inl j, .inl lo, .inl hi9] (mW C (S, P, (ln, sg), F, B, G, E)) (m_V (bI (decide (j < ln) && insS (sg j) lo hi9)) (mW C (S, P, (ln, sg), F, B, G, E))) := by
  obtain ⟨hs1, hs2, hs3⟩ := id hS
  show m_Sem X 142 (0, [some (.inr (.inl 13)), some (.inl j), some (.inl lo), some (.inl hi9)], [], mW C (S, P, (ln, sg), F, B, G, E), 0, 0) _
  refine m_run 3 (ps' := (5, [some (.inr (.inl 13)), some (.inl j), some (.inl lo), some (.inl hi9)], [.inl ln, .inl j], mW C (S, P, (ln, sg), F, B, G, E), 0, 0)) rfl ?_
  refine m_icmp rfl ⟨by omega, by omega⟩ ⟨by omega, by omega⟩ (fun (zc1 : ln ≤ j) => ?_) (fun (zc1 : ¬ ln ≤ j) => ?_)
  · refine m_run 1 (ps' := (27, [some (.inr (.inl 13)), some (.inl j), some (.inl lo), some (.inl hi9)], [.inl 0], mW C (S, P, (ln, sg), F, B, G, E), 0, 0)) rfl ?_
    exact m_ret1 rfl (Or.inr ⟨rfl, Or.inl rfl⟩) rfl (m_Vb (b0 (by first | (rw [decide_eq_false (show ¬ j < ln by omega)]; rfl) | (rw [zc2, Bool.and_false]))))
  · refine m_run 3 (ps' := (13, [some (.inr (.inl 13)), some (.inl j), some (.inl lo), some (.inl hi9)], [.inl j, .inr (.inl 16)], mW C (S, P, (ln, sg), F, B, G, E), 0, 0)) rfl ?_
    have hs9 := hs3 j hj (by omega)
    refine m_iald rfl rfl (by omega) (by omega) (by decide) ?_
    refine m_run 2 (ps' := (16, [some (.inr (.inl 13)), some (.inl j), some (.inl lo), some (.inl hi9)], [.inl hi9, .inl lo, .inl (sg j)], mW C (S, P, (ln, sg), F, B, G, E), 0, 0)) rfl ?_
    refine m_callSF [.inl (sg j), .inl lo, .inl hi9] [] rfl rfl rfl (d_in (v := (sg j)) (l := lo) (m := hi9) ⟨by omega, by omega⟩ hlo hhi) ?_
    show m_Sem X 142 (19, [some (.inr (.inl 13)), some (.inl j), some (.inl lo), some (.inl hi9)], [.inl (bI (insS (sg j) lo hi9))], mW C (S, P, (ln, sg), F, B, G, E), 0, 0) _
    refine m_if rfl (bI_R (insS (sg j) lo hi9)) (fun (zc2 : (bI (insS (sg j) lo hi9)) = 0) => ?_) (fun (zc2 : ¬ (bI (insS (sg j) lo hi9)) = 0) => ?_)
    · replace zc2 : (insS (sg j) lo hi9) = false := bI_e0.mp zc2
      refine m_run 1 (ps' := (27, [some (.inr (.inl 13)), some (.inl j), some (.inl lo), some (.inl hi9)], [.inl 0], mW C (S, P, (ln, sg), F, B, G, E), 0, 0)) rfl ?_
      exact m_ret1 rfl (Or.inr ⟨rfl, Or.inl rfl⟩) rfl (m_Vb (b0 (by first | (rw [decide_eq_false (show ¬ j < ln by omega)]; rfl) | (rw [zc2, Bool.and_false]))))
    · replace zc2 : (insS (sg j) lo hi9) = true := bI_n0.mp zc2
      refine m_run 2 (ps' := (27, [some (.inr (.inl 13)), some (.inl j), some (.inl lo), some (.inl hi9)], [.inl 1], mW C (S, P, (ln, sg), F, B, G, E), 0, 0)) rfl ?_
      exact m_ret1 rfl (Or.inr ⟨rfl, Or.inr rfl⟩) rfl (m_Vb (b1 (by rw [decide_eq_true (show j < ln by omega), zc2]; rfl)))
theorem sgS_v {ln : Int} {sg : Int → Int} {s : Int} (h : 0 ≤ s) (h1 : s < ln) : sgS ln sg s = sg s := by
  unfold sgS
  rw [if_neg (show ¬ s < 0 by omega), if_neg (show ¬ ln ≤ s by omega)]
theorem sgS_o {ln : Int} {sg : Int → Int} {s : Int} (h1 : ln ≤ s) : sgS ln sg s = 0 := by
  unfold sgS
  by_cases h : s < 0
  · rw [if_pos h]
  · rw [if_neg h, if_pos h1]
theorem dig_b {ln : Int} {sg : Int → Int} {s : Int} (h : 0 ≤ s) : (decide (s < ln) && insS (sg s) 48 57) = decide (digS ln sg s ≠ -1) := by
  unfold digS
  by_cases h1 : s < ln
  · rw [sgS_v h h1, decide_eq_true h1, Bool.true_and]
    cases h2 : insS (sg s) 48 57 with
    | true =>
      have h3 := insS_i.mp h2
      rw [if_neg (show ¬ sg s < 48 by omega), if_neg (show ¬ 57 < sg s by omega)]
      exact (decide_eq_true (by omega)).symm
    | false =>
      have h3 := insS_f.mp h2
      refine (decide_eq_false (fun h4 => h4 ?_)).symm
      by_cases h5 : sg s < 48
      · rw [if_pos h5]
      · rw [if_neg h5, if_pos (show 57 < sg s by omega)]
  · rw [sgS_o (by omega), decide_eq_false h1]
    rfl
theorem sg_b {ln : Int} {sg : Int → Int} {s c : Int} (h : 0 ≤ s) (hc : c ≠ 0) : (decide (s < ln) && insS (sg s) c c) = decide (sgS ln sg s = c) := by
  by_cases h1 : s < ln
  · rw [sgS_v h h1, decide_eq_true h1, Bool.true_and]
    cases h2 : insS (sg s) c c with
    | true => have h3 := insS_i.mp h2; exact (decide_eq_true (by omega)).symm
    | false => have h3 := insS_f.mp h2; exact (decide_eq_false (by omega)).symm
  · rw [sgS_o (by omega), decide_eq_false h1, Bool.false_and]
    exact (decide_eq_false (fun h9 => hc h9.symm)).symm
theorem dig_v {ln : Int} {sg : Int → Int} {s : Int} (h : 0 ≤ s) (h1 : decide (digS ln sg s ≠ -1) = true) : s < ln ∧ (48 ≤ sg s ∧ sg s ≤ 57) ∧ digS ln sg s = sg s - 48 := by
  have h2 := h1
  rw [← dig_b h, Bool.and_eq_true] at h2
  have h3 := of_decide_eq_true h2.1
  have h4 := insS_i.mp h2.2
  refine ⟨h3, h4, ?_⟩
  unfold digS
  rw [sgS_v h h3, if_neg (show ¬ sg s < 48 by omega), if_neg (show ¬ 57 < sg s by omega)]
theorem d_isatD {X : Nat × Nat × (Nat → Int32)} {C : CS} {S : Int → Int} {P : TS} {F : Int × Int × Int} {B : (Nat → Int64) × (Nat → Int64)} {G : Int → Int} {E : Int × Int} {ln : Int} {sg : Int → Int} {s : Int} (hS : okS ln sg) (h : 0 ≤ s) (h2 : s < 200) : m_Run X 142 [.inr (.inl 13), .inl s, .inl 48, .inl 57] (mW C (S, P, (ln, sg), F, B, G, E)) (m_V (bI (decide (digS ln sg s ≠ -1))) (mW C (S, P, (ln, sg), F, B, G, E))) := by
  rw [← dig_b h]
  exact d_isat hS h h2 ⟨by omega, by omega⟩ ⟨by omega, by omega⟩
theorem d_isatS {X : Nat × Nat × (Nat → Int32)} {C : CS} {S : Int → Int} {P : TS} {F : Int × Int × Int} {B : (Nat → Int64) × (Nat → Int64)} {G : Int → Int} {E : Int × Int} {ln : Int} {sg : Int → Int} {s c : Int} (hS : okS ln sg) (h : 0 ≤ s) (h2 : s < 200) (hc : c ≠ 0) (hc2 : m_R c) : m_Run X 142 [.inr (.inl 13), .inl s, .inl c, .inl c] (mW C (S, P, (ln, sg), F, B, G, E)) (m_V (bI (decide (sgS ln sg s = c))) (mW C (S, P, (ln, sg), F, B, G, E))) := by
  rw [← sg_b h hc]
  exact d_isat hS h h2 hc2 hc2
theorem d_elD {X : Nat × Nat × (Nat → Int32)} {C : CS} {n : Int} {S : Int → Int} {P : TS} {F : Int × Int × Int} {B : (Nat → Int64) × (Nat → Int64)} {G : Int → Int} {E : Int × Int} {ln : Int} {sg : Int → Int} {s : Int} (hn : okN n) (hs0 : S 0 = n) (h : 0 ≤ s) (h1 : decide (digS ln sg s ≠ -1) = true) : m_Run X 88 [.inr (.inl 13), .inl (sg s - 48)] (mW C (S, P, (ln, sg), F, B, G, E)) (m_V (bI (inN n (digS ln sg s))) (mW C (S, P, (ln, sg), F, B, G, E))) := by
  have h2 := dig_v h h1
  rw [h2.2.2]
  exact d_el hn hs0 ⟨by omega, by omega⟩
set_option maxHeartbeats 4000000 in
set_option maxRecDepth 100000 in
theorem e_rig {X : Nat × Nat × (Nat → Int32)} {C : CS} {n : Int} {S : Int → Int} {P : TS} {F : Int × Int × Int} {B : (Nat → Int64) × (Nat → Int64)} {G : Int → Int} {ln : Int} {sg : Int → Int} {o : Option Int} (hn : okN n) (hs0 : S 0 = n) (hS : okS ln sg) : ∀ iv : Int, 0 ≤ iv → iv ≤ ((ln + 5) / 6) → ∀ (re : Int) (ho : optF (fplF n ln sg) ((ln + 5) / 6 - iv).toNat iv = o), m_Sem X 143 (5, [some (.inr (.inl 13)), none], [], mW C (S, P, (ln, sg), F, B, G, (6 * iv, re)), 0, 0) (fun r w => r = some (.inl (bI (o).isNone)) ∧ ∃ E2 : Int × Int, w = mW C (S, P, (ln, sg), F, B, G, E2) ∧ ∀ p, o = some p → E2 = (p, reaS n ln sg p)) := by
  have hln := okN_lo hn
  obtain ⟨hs1, hs2, hs3⟩ := id hS
  refine m_down 0 ((ln + 5) / 6) ?_ ?_
  · intro re ho
    show m_Sem X 143 (5, [some (.inr (.inl 13)), none], [], mW C (S, P, (ln, sg), F, B, G, (6 * ((ln + 5) / 6), re)), 0, 0) _
    refine m_run 4 (ps' := (13, [some (.inr (.inl 13)), none], [.inl ln, .inl (6 * ((ln + 5) / 6))], mW C (S, P, (ln, sg), F, B, G, (6 * ((ln + 5) / 6), re)), 0, 0)) rfl ?_
    refine m_icmp rfl ⟨by omega, by omega⟩ ⟨by omega, by omega⟩ (fun (zc1 : ln ≤ 6 * ((ln + 5) / 6)) => ?_) (fun (zc1 : ¬ ln ≤ 6 * ((ln + 5) / 6)) => absurd zc1 (not_not_intro (by omega)))
    refine m_run 1 (ps' := (237, [some (.inr (.inl 13)), none], [.inl 1], mW C (S, P, (ln, sg), F, B, G, (6 * ((ln + 5) / 6), re)), 0, 0)) rfl ?_
    exact m_ret1 rfl (Or.inr ⟨rfl, Or.inr rfl⟩) rfl (by rw [opt_end] at ho; subst ho; exact ⟨rfl, _, rfl, fun p hp => by cases hp⟩)
  · intro iv hi1 hi2 ih re ho
    refine m_run 4 (ps' := (13, [some (.inr (.inl 13)), none], [.inl ln, .inl (6 * iv)], mW C (S, P, (ln, sg), F, B, G, (6 * iv, re)), 0, 0)) rfl ?_
    refine m_icmp rfl ⟨by omega, by omega⟩ ⟨by omega, by omega⟩ (fun (zc1 : ln ≤ 6 * iv) => absurd zc1 (by omega)) (fun (zc1 : ¬ ln ≤ 6 * iv) => ?_)
    refine m_run 5 (ps' := (25, [some (.inr (.inl 13)), none], [.inl 57, .inl 48, .inl (6 * iv), .inr (.inl 13)], mW C (S, P, (ln, sg), F, B, G, (6 * iv, re)), 0, 0)) rfl ?_
    refine m_callVF [.inl (6 * iv), .inl 48, .inl 57] [] rfl rfl ⟨_, rfl, rfl⟩ rfl rfl (d_isatD (s := 6 * iv) hS (by omega) (by omega)) ?_
    show m_Sem X 143 (28, [some (.inr (.inl 13)), none], [.inl (bI (decide (digS ln sg (6 * iv) ≠ -1)))], mW C (S, P, (ln, sg), F, B, G, (6 * iv, re)), 0, 0) _
    refine m_if rfl (bI_R (decide (digS ln sg (6 * iv) ≠ -1))) (fun (zc2 : (bI (decide (digS ln sg (6 * iv) ≠ -1))) = 0) => ?_) (fun (zc2 : ¬ (bI (decide (digS ln sg (6 * iv) ≠ -1))) = 0) => ?_)
    · replace zc2 : (decide (digS ln sg (6 * iv) ≠ -1)) = false := bI_e0.mp zc2
      refine m_run 3 (ps' := (72, [some (.inr (.inl 13)), some (.inl 0)], [.inl 0], mW C (S, P, (ln, sg), F, B, G, (6 * iv, re)), 0, 0)) rfl ?_
      refine m_if rfl ⟨by omega, by omega⟩ (fun (zc3 : 0 = 0) => ?_) (fun (zc3 : ¬ 0 = 0) => absurd zc3 (not_not_intro (by omega)))
      refine m_run 4 (ps' := (134, [some (.inr (.inl 13)), some (.inl 0)], [.inl 0, .inr (.inl 13)], mW C (S, P, (ln, sg), F, B, G, (6 * iv, re)), 0, 0)) rfl ?_
      refine m_if rfl ⟨by omega, by omega⟩ (fun (zc4 : 0 = 0) => ?_) (fun (zc4 : ¬ 0 = 0) => absurd zc4 (not_not_intro (by omega)))
      refine m_run 3 (ps' := (146, [some (.inr (.inl 13)), some (.inl 0)], [.inl 0], mW C (S, P, (ln, sg), F, B, G, (6 * iv, 1)), 0, 0)) rfl ?_
      refine m_if rfl ⟨by omega, by omega⟩ (fun (zc5 : 0 = 0) => ?_) (fun (zc5 : ¬ 0 = 0) => absurd zc5 (not_not_intro (by omega)))
      refine m_run 3 (ps' := (217, [some (.inr (.inl 13)), some (.inl 0)], [.inl 0], mW C (S, P, (ln, sg), F, B, G, (6 * iv, 1)), 0, 0)) rfl ?_
      refine m_if rfl ⟨by omega, by omega⟩ (fun (zc6 : ¬ 0 = 0) => absurd zc6 (by omega)) (fun (zc6 : ¬ ¬ 0 = 0) => ?_)
      refine m_run 1 (ps' := (221, [some (.inr (.inl 13)), some (.inl 0)], [.inl 0], mW C (S, P, (ln, sg), F, B, G, (6 * iv, 1)), 0, 0)) rfl ?_
      have hf : formS ln sg (6 * iv) = false := by unfold formS; simp only [zc2, zc3, zc4, zc5, Bool.false_and, Bool.and_false, Bool.true_and]
      have hv : reaS n ln sg (6 * iv) = 1 := by unfold reaS; rw [if_pos hf]
      have hw : fplF n ln sg iv = some (6 * iv) := by unfold fplF; rw [if_neg (by rw [hv]; decide)]
      rw [opt_s hi2 hw] at ho
      subst ho
      exact m_ret1 rfl (Or.inr ⟨rfl, Or.inl rfl⟩) rfl (⟨rfl, (6 * iv, 1), rfl, fun p hp => by cases hp; rw [hv]⟩)
    · replace zc2 : (decide (digS ln sg (6 * iv) ≠ -1)) = true := bI_n0.mp zc2
      refine m_run 7 (ps' := (42, [some (.inr (.inl 13)), none], [.inl 42, .inl 42, .inl (6 * iv + 1), .inr (.inl 13)], mW C (S, P, (ln, sg), F, B, G, (6 * iv, re)), 0, 0)) rfl ?_
      refine m_callVF [.inl (6 * iv + 1), .inl 42, .inl 42] [] rfl rfl ⟨_, rfl, rfl⟩ rfl rfl (d_isatS (s := (6 * iv + 1)) (c := 42) hS (by omega) (by omega) (by omega) ⟨by omega, by omega⟩) ?_
      show m_Sem X 143 (45, [some (.inr (.inl 13)), none], [.inl (bI (decide (sgS ln sg (6 * iv + 1) = 42)))], mW C (S, P, (ln, sg), F, B, G, (6 * iv, re)), 0, 0) _
      refine m_if rfl (bI_R (decide (sgS ln sg (6 * iv + 1) = 42))) (fun (zc3 : (bI (decide (sgS ln sg (6 * iv + 1) = 42))) = 0) => ?_) (fun (zc3 : ¬ (bI (decide (sgS ln sg (6 * iv + 1) = 42))) = 0) => ?_)
      · replace zc3 : (decide (sgS ln sg (6 * iv + 1) = 42)) = false := bI_e0.mp zc3
        refine m_run 3 (ps' := (72, [some (.inr (.inl 13)), some (.inl 0)], [.inl 0], mW C (S, P, (ln, sg), F, B, G, (6 * iv, re)), 0, 0)) rfl ?_
        refine m_if rfl ⟨by omega, by omega⟩ (fun (zc4 : 0 = 0) => ?_) (fun (zc4 : ¬ 0 = 0) => absurd zc4 (not_not_intro (by omega)))
        refine m_run 4 (ps' := (134, [some (.inr (.inl 13)), some (.inl 0)], [.inl 0, .inr (.inl 13)], mW C (S, P, (ln, sg), F, B, G, (6 * iv, re)), 0, 0)) rfl ?_
        refine m_if rfl ⟨by omega, by omega⟩ (fun (zc5 : 0 = 0) => ?_) (fun (zc5 : ¬ 0 = 0) => absurd zc5 (not_not_intro (by omega)))
        refine m_run 3 (ps' := (146, [some (.inr (.inl 13)), some (.inl 0)], [.inl 0], mW C (S, P, (ln, sg), F, B, G, (6 * iv, 1)), 0, 0)) rfl ?_
        refine m_if rfl ⟨by omega, by omega⟩ (fun (zc6 : 0 = 0) => ?_) (fun (zc6 : ¬ 0 = 0) => absurd zc6 (not_not_intro (by omega)))
        refine m_run 3 (ps' := (217, [some (.inr (.inl 13)), some (.inl 0)], [.inl 0], mW C (S, P, (ln, sg), F, B, G, (6 * iv, 1)), 0, 0)) rfl ?_
        refine m_if rfl ⟨by omega, by omega⟩ (fun (zc7 : ¬ 0 = 0) => absurd zc7 (by omega)) (fun (zc7 : ¬ ¬ 0 = 0) => ?_)
        refine m_run 1 (ps' := (221, [some (.inr (.inl 13)), some (.inl 0)], [.inl 0], mW C (S, P, (ln, sg), F, B, G, (6 * iv, 1)), 0, 0)) rfl ?_
        have hf : formS ln sg (6 * iv) = false := by unfold formS; simp only [zc2, zc3, zc4, zc5, zc6, Bool.false_and, Bool.and_false, Bool.true_and]
        have hv : reaS n ln sg (6 * iv) = 1 := by unfold reaS; rw [if_pos hf]
        have hw : fplF n ln sg iv = some (6 * iv) := by unfold fplF; rw [if_neg (by rw [hv]; decide)]
        rw [opt_s hi2 hw] at ho
        subst ho
        exact m_ret1 rfl (Or.inr ⟨rfl, Or.inl rfl⟩) rfl (⟨rfl, (6 * iv, 1), rfl, fun p hp => by cases hp; rw [hv]⟩)
      · replace zc3 : (decide (sgS ln sg (6 * iv + 1) = 42)) = true := bI_n0.mp zc3
        refine m_run 7 (ps' := (59, [some (.inr (.inl 13)), none], [.inl 57, .inl 48, .inl (6 * iv + 2), .inr (.inl 13)], mW C (S, P, (ln, sg), F, B, G, (6 * iv, re)), 0, 0)) rfl ?_
        refine m_callVF [.inl (6 * iv + 2), .inl 48, .inl 57] [] rfl rfl ⟨_, rfl, rfl⟩ rfl rfl (d_isatD (s := (6 * iv + 2)) hS (by omega) (by omega)) ?_
        show m_Sem X 143 (62, [some (.inr (.inl 13)), none], [.inl (bI (decide (digS ln sg (6 * iv + 2) ≠ -1)))], mW C (S, P, (ln, sg), F, B, G, (6 * iv, re)), 0, 0) _
        refine m_if rfl (bI_R (decide (digS ln sg (6 * iv + 2) ≠ -1))) (fun (zc4 : (bI (decide (digS ln sg (6 * iv + 2) ≠ -1))) = 0) => ?_) (fun (zc4 : ¬ (bI (decide (digS ln sg (6 * iv + 2) ≠ -1))) = 0) => ?_)
        · replace zc4 : (decide (digS ln sg (6 * iv + 2) ≠ -1)) = false := bI_e0.mp zc4
          refine m_run 3 (ps' := (72, [some (.inr (.inl 13)), some (.inl 0)], [.inl 0], mW C (S, P, (ln, sg), F, B, G, (6 * iv, re)), 0, 0)) rfl ?_
          refine m_if rfl ⟨by omega, by omega⟩ (fun (zc5 : 0 = 0) => ?_) (fun (zc5 : ¬ 0 = 0) => absurd zc5 (not_not_intro (by omega)))
          refine m_run 4 (ps' := (134, [some (.inr (.inl 13)), some (.inl 0)], [.inl 0, .inr (.inl 13)], mW C (S, P, (ln, sg), F, B, G, (6 * iv, re)), 0, 0)) rfl ?_
          refine m_if rfl ⟨by omega, by omega⟩ (fun (zc6 : 0 = 0) => ?_) (fun (zc6 : ¬ 0 = 0) => absurd zc6 (not_not_intro (by omega)))
          refine m_run 3 (ps' := (146, [some (.inr (.inl 13)), some (.inl 0)], [.inl 0], mW C (S, P, (ln, sg), F, B, G, (6 * iv, 1)), 0, 0)) rfl ?_
          refine m_if rfl ⟨by omega, by omega⟩ (fun (zc7 : 0 = 0) => ?_) (fun (zc7 : ¬ 0 = 0) => absurd zc7 (not_not_intro (by omega)))
          refine m_run 3 (ps' := (217, [some (.inr (.inl 13)), some (.inl 0)], [.inl 0], mW C (S, P, (ln, sg), F, B, G, (6 * iv, 1)), 0, 0)) rfl ?_
          refine m_if rfl ⟨by omega, by omega⟩ (fun (zc8 : ¬ 0 = 0) => absurd zc8 (by omega)) (fun (zc8 : ¬ ¬ 0 = 0) => ?_)
          refine m_run 1 (ps' := (221, [some (.inr (.inl 13)), some (.inl 0)], [.inl 0], mW C (S, P, (ln, sg), F, B, G, (6 * iv, 1)), 0, 0)) rfl ?_
          have hf : formS ln sg (6 * iv) = false := by unfold formS; simp only [zc2, zc3, zc4, zc5, zc6, zc7, Bool.false_and, Bool.and_false, Bool.true_and]
          have hv : reaS n ln sg (6 * iv) = 1 := by unfold reaS; rw [if_pos hf]
          have hw : fplF n ln sg iv = some (6 * iv) := by unfold fplF; rw [if_neg (by rw [hv]; decide)]
          rw [opt_s hi2 hw] at ho
          subst ho
          exact m_ret1 rfl (Or.inr ⟨rfl, Or.inl rfl⟩) rfl (⟨rfl, (6 * iv, 1), rfl, fun p hp => by cases hp; rw [hv]⟩)
        · replace zc4 : (decide (digS ln sg (6 * iv + 2) ≠ -1)) = true := bI_n0.mp zc4
          refine m_run 4 (ps' := (72, [some (.inr (.inl 13)), some (.inl 1)], [.inl 1], mW C (S, P, (ln, sg), F, B, G, (6 * iv, re)), 0, 0)) rfl ?_
          refine m_if rfl ⟨by omega, by omega⟩ (fun (zc5 : 1 = 0) => absurd zc5 (by omega)) (fun (zc5 : ¬ 1 = 0) => ?_)
          refine m_run 7 (ps' := (86, [some (.inr (.inl 13)), some (.inl 1)], [.inl 61, .inl 61, .inl (6 * iv + 3), .inr (.inl 13)], mW C (S, P, (ln, sg), F, B, G, (6 * iv, re)), 0, 0)) rfl ?_
          refine m_callVF [.inl (6 * iv + 3), .inl 61, .inl 61] [] rfl rfl ⟨_, rfl, rfl⟩ rfl rfl (d_isatS (s := (6 * iv + 3)) (c := 61) hS (by omega) (by omega) (by omega) ⟨by omega, by omega⟩) ?_
          show m_Sem X 143 (89, [some (.inr (.inl 13)), some (.inl 1)], [.inl (bI (decide (sgS ln sg (6 * iv + 3) = 61)))], mW C (S, P, (ln, sg), F, B, G, (6 * iv, re)), 0, 0) _
          refine m_if rfl (bI_R (decide (sgS ln sg (6 * iv + 3) = 61))) (fun (zc6 : (bI (decide (sgS ln sg (6 * iv + 3) = 61))) = 0) => ?_) (fun (zc6 : ¬ (bI (decide (sgS ln sg (6 * iv + 3) = 61))) = 0) => ?_)
          · replace zc6 : (decide (sgS ln sg (6 * iv + 3) = 61)) = false := bI_e0.mp zc6
            refine m_run 4 (ps' := (134, [some (.inr (.inl 13)), some (.inl 0)], [.inl 0, .inr (.inl 13)], mW C (S, P, (ln, sg), F, B, G, (6 * iv, re)), 0, 0)) rfl ?_
            refine m_if rfl ⟨by omega, by omega⟩ (fun (zc7 : 0 = 0) => ?_) (fun (zc7 : ¬ 0 = 0) => absurd zc7 (not_not_intro (by omega)))
            refine m_run 3 (ps' := (146, [some (.inr (.inl 13)), some (.inl 0)], [.inl 0], mW C (S, P, (ln, sg), F, B, G, (6 * iv, 1)), 0, 0)) rfl ?_
            refine m_if rfl ⟨by omega, by omega⟩ (fun (zc8 : 0 = 0) => ?_) (fun (zc8 : ¬ 0 = 0) => absurd zc8 (not_not_intro (by omega)))
            refine m_run 3 (ps' := (217, [some (.inr (.inl 13)), some (.inl 0)], [.inl 0], mW C (S, P, (ln, sg), F, B, G, (6 * iv, 1)), 0, 0)) rfl ?_
            refine m_if rfl ⟨by omega, by omega⟩ (fun (zc9 : ¬ 0 = 0) => absurd zc9 (by omega)) (fun (zc9 : ¬ ¬ 0 = 0) => ?_)
            refine m_run 1 (ps' := (221, [some (.inr (.inl 13)), some (.inl 0)], [.inl 0], mW C (S, P, (ln, sg), F, B, G, (6 * iv, 1)), 0, 0)) rfl ?_
            have hf : formS ln sg (6 * iv) = false := by unfold formS; simp only [zc2, zc3, zc4, zc5, zc6, zc7, zc8, Bool.false_and, Bool.and_false, Bool.true_and]
            have hv : reaS n ln sg (6 * iv) = 1 := by unfold reaS; rw [if_pos hf]
            have hw : fplF n ln sg iv = some (6 * iv) := by unfold fplF; rw [if_neg (by rw [hv]; decide)]
            rw [opt_s hi2 hw] at ho
            subst ho
            exact m_ret1 rfl (Or.inr ⟨rfl, Or.inl rfl⟩) rfl (⟨rfl, (6 * iv, 1), rfl, fun p hp => by cases hp; rw [hv]⟩)
          · replace zc6 : (decide (sgS ln sg (6 * iv + 3) = 61)) = true := bI_n0.mp zc6
            refine m_run 7 (ps' := (103, [some (.inr (.inl 13)), some (.inl 1)], [.inl 57, .inl 48, .inl (6 * iv + 4), .inr (.inl 13)], mW C (S, P, (ln, sg), F, B, G, (6 * iv, re)), 0, 0)) rfl ?_
            refine m_callVF [.inl (6 * iv + 4), .inl 48, .inl 57] [] rfl rfl ⟨_, rfl, rfl⟩ rfl rfl (d_isatD (s := (6 * iv + 4)) hS (by omega) (by omega)) ?_
            show m_Sem X 143 (106, [some (.inr (.inl 13)), some (.inl 1)], [.inl (bI (decide (digS ln sg (6 * iv + 4) ≠ -1)))], mW C (S, P, (ln, sg), F, B, G, (6 * iv, re)), 0, 0) _
            refine m_if rfl (bI_R (decide (digS ln sg (6 * iv + 4) ≠ -1))) (fun (zc7 : (bI (decide (digS ln sg (6 * iv + 4) ≠ -1))) = 0) => ?_) (fun (zc7 : ¬ (bI (decide (digS ln sg (6 * iv + 4) ≠ -1))) = 0) => ?_)
            · replace zc7 : (decide (digS ln sg (6 * iv + 4) ≠ -1)) = false := bI_e0.mp zc7
              refine m_run 4 (ps' := (134, [some (.inr (.inl 13)), some (.inl 0)], [.inl 0, .inr (.inl 13)], mW C (S, P, (ln, sg), F, B, G, (6 * iv, re)), 0, 0)) rfl ?_
              refine m_if rfl ⟨by omega, by omega⟩ (fun (zc8 : 0 = 0) => ?_) (fun (zc8 : ¬ 0 = 0) => absurd zc8 (not_not_intro (by omega)))
              refine m_run 3 (ps' := (146, [some (.inr (.inl 13)), some (.inl 0)], [.inl 0], mW C (S, P, (ln, sg), F, B, G, (6 * iv, 1)), 0, 0)) rfl ?_
              refine m_if rfl ⟨by omega, by omega⟩ (fun (zc9 : 0 = 0) => ?_) (fun (zc9 : ¬ 0 = 0) => absurd zc9 (not_not_intro (by omega)))
              refine m_run 3 (ps' := (217, [some (.inr (.inl 13)), some (.inl 0)], [.inl 0], mW C (S, P, (ln, sg), F, B, G, (6 * iv, 1)), 0, 0)) rfl ?_
              refine m_if rfl ⟨by omega, by omega⟩ (fun (zc10 : ¬ 0 = 0) => absurd zc10 (by omega)) (fun (zc10 : ¬ ¬ 0 = 0) => ?_)
              refine m_run 1 (ps' := (221, [some (.inr (.inl 13)), some (.inl 0)], [.inl 0], mW C (S, P, (ln, sg), F, B, G, (6 * iv, 1)), 0, 0)) rfl ?_
              have hf : formS ln sg (6 * iv) = false := by unfold formS; simp only [zc2, zc3, zc4, zc5, zc6, zc7, zc8, zc9, Bool.false_and, Bool.and_false, Bool.true_and]
              have hv : reaS n ln sg (6 * iv) = 1 := by unfold reaS; rw [if_pos hf]
              have hw : fplF n ln sg iv = some (6 * iv) := by unfold fplF; rw [if_neg (by rw [hv]; decide)]
              rw [opt_s hi2 hw] at ho
              subst ho
              exact m_ret1 rfl (Or.inr ⟨rfl, Or.inl rfl⟩) rfl (⟨rfl, (6 * iv, 1), rfl, fun p hp => by cases hp; rw [hv]⟩)
            · replace zc7 : (decide (digS ln sg (6 * iv + 4) ≠ -1)) = true := bI_n0.mp zc7
              refine m_run 7 (ps' := (120, [some (.inr (.inl 13)), some (.inl 1)], [.inl 59, .inl 59, .inl (6 * iv + 5), .inr (.inl 13)], mW C (S, P, (ln, sg), F, B, G, (6 * iv, re)), 0, 0)) rfl ?_
              refine m_callVF [.inl (6 * iv + 5), .inl 59, .inl 59] [] rfl rfl ⟨_, rfl, rfl⟩ rfl rfl (d_isatS (s := (6 * iv + 5)) (c := 59) hS (by omega) (by omega) (by omega) ⟨by omega, by omega⟩) ?_
              show m_Sem X 143 (123, [some (.inr (.inl 13)), some (.inl 1)], [.inl (bI (decide (sgS ln sg (6 * iv + 5) = 59)))], mW C (S, P, (ln, sg), F, B, G, (6 * iv, re)), 0, 0) _
              refine m_if rfl (bI_R (decide (sgS ln sg (6 * iv + 5) = 59))) (fun (zc8 : (bI (decide (sgS ln sg (6 * iv + 5) = 59))) = 0) => ?_) (fun (zc8 : ¬ (bI (decide (sgS ln sg (6 * iv + 5) = 59))) = 0) => ?_)
              · replace zc8 : (decide (sgS ln sg (6 * iv + 5) = 59)) = false := bI_e0.mp zc8
                refine m_run 4 (ps' := (134, [some (.inr (.inl 13)), some (.inl 0)], [.inl 0, .inr (.inl 13)], mW C (S, P, (ln, sg), F, B, G, (6 * iv, re)), 0, 0)) rfl ?_
                refine m_if rfl ⟨by omega, by omega⟩ (fun (zc9 : 0 = 0) => ?_) (fun (zc9 : ¬ 0 = 0) => absurd zc9 (not_not_intro (by omega)))
                refine m_run 3 (ps' := (146, [some (.inr (.inl 13)), some (.inl 0)], [.inl 0], mW C (S, P, (ln, sg), F, B, G, (6 * iv, 1)), 0, 0)) rfl ?_
                refine m_if rfl ⟨by omega, by omega⟩ (fun (zc10 : 0 = 0) => ?_) (fun (zc10 : ¬ 0 = 0) => absurd zc10 (not_not_intro (by omega)))
                refine m_run 3 (ps' := (217, [some (.inr (.inl 13)), some (.inl 0)], [.inl 0], mW C (S, P, (ln, sg), F, B, G, (6 * iv, 1)), 0, 0)) rfl ?_
                refine m_if rfl ⟨by omega, by omega⟩ (fun (zc11 : ¬ 0 = 0) => absurd zc11 (by omega)) (fun (zc11 : ¬ ¬ 0 = 0) => ?_)
                refine m_run 1 (ps' := (221, [some (.inr (.inl 13)), some (.inl 0)], [.inl 0], mW C (S, P, (ln, sg), F, B, G, (6 * iv, 1)), 0, 0)) rfl ?_
                have hf : formS ln sg (6 * iv) = false := by unfold formS; simp only [zc2, zc3, zc4, zc5, zc6, zc7, zc8, zc9, zc10, Bool.false_and, Bool.and_false, Bool.true_and]
                have hv : reaS n ln sg (6 * iv) = 1 := by unfold reaS; rw [if_pos hf]
                have hw : fplF n ln sg iv = some (6 * iv) := by unfold fplF; rw [if_neg (by rw [hv]; decide)]
                rw [opt_s hi2 hw] at ho
                subst ho
                exact m_ret1 rfl (Or.inr ⟨rfl, Or.inl rfl⟩) rfl (⟨rfl, (6 * iv, 1), rfl, fun p hp => by cases hp; rw [hv]⟩)
              · replace zc8 : (decide (sgS ln sg (6 * iv + 5) = 59)) = true := bI_n0.mp zc8
                refine m_run 5 (ps' := (134, [some (.inr (.inl 13)), some (.inl 1)], [.inl 1, .inr (.inl 13)], mW C (S, P, (ln, sg), F, B, G, (6 * iv, re)), 0, 0)) rfl ?_
                refine m_if rfl ⟨by omega, by omega⟩ (fun (zc9 : 1 = 0) => absurd zc9 (by omega)) (fun (zc9 : ¬ 1 = 0) => ?_)
                refine m_run 4 (ps' := (146, [some (.inr (.inl 13)), some (.inl 1)], [.inl 1], mW C (S, P, (ln, sg), F, B, G, (6 * iv, 2)), 0, 0)) rfl ?_
                refine m_if rfl ⟨by omega, by omega⟩ (fun (zc10 : 1 = 0) => absurd zc10 (by omega)) (fun (zc10 : ¬ 1 = 0) => ?_)
                refine m_run 5 (ps' := (158, [some (.inr (.inl 13)), some (.inl 1)], [.inl (6 * iv), .inr (.inl 16), .inr (.inl 13)], mW C (S, P, (ln, sg), F, B, G, (6 * iv, 2)), 0, 0)) rfl ?_
                have zd1 := dig_v (s := 6 * iv) (by omega) zc2
                refine m_iald rfl rfl (by omega) (by omega) (by decide) ?_
                refine m_run 2 (ps' := (162, [some (.inr (.inl 13)), some (.inl 1)], [.inl ((sg (6 * iv)) - 48), .inr (.inl 13)], mW C (S, P, (ln, sg), F, B, G, (6 * iv, 2)), 0, 0)) rfl ?_
                refine m_callVF [.inl ((sg (6 * iv)) - 48)] [] rfl rfl ⟨_, rfl, rfl⟩ rfl rfl (d_elD (s := (6 * iv)) hn hs0 (by omega) zc2) ?_
                show m_Sem X 143 (165, [some (.inr (.inl 13)), some (.inl 1)], [.inl (bI (inN n (digS ln sg (6 * iv))))], mW C (S, P, (ln, sg), F, B, G, (6 * iv, 2)), 0, 0) _
                refine m_if rfl (bI_R (inN n (digS ln sg (6 * iv)))) (fun (zc11 : (bI (inN n (digS ln sg (6 * iv)))) = 0) => ?_) (fun (zc11 : ¬ (bI (inN n (digS ln sg (6 * iv)))) = 0) => ?_)
                · replace zc11 : (inN n (digS ln sg (6 * iv))) = false := bI_e0.mp zc11
                  refine m_run 3 (ps' := (217, [some (.inr (.inl 13)), some (.inl 0)], [.inl 0], mW C (S, P, (ln, sg), F, B, G, (6 * iv, 2)), 0, 0)) rfl ?_
                  refine m_if rfl ⟨by omega, by omega⟩ (fun (zc12 : ¬ 0 = 0) => absurd zc12 (by omega)) (fun (zc12 : ¬ ¬ 0 = 0) => ?_)
                  refine m_run 1 (ps' := (221, [some (.inr (.inl 13)), some (.inl 0)], [.inl 0], mW C (S, P, (ln, sg), F, B, G, (6 * iv, 2)), 0, 0)) rfl ?_
                  have hf : formS ln sg (6 * iv) = true := by unfold formS; simp only [zc2, zc3, zc4, zc6, zc7, zc8, Bool.and_self]
                  have he : elemS n ln sg (6 * iv) = false := by unfold elemS; simp only [zc2, zc3, zc4, zc5, zc6, zc7, zc8, zc9, zc10, zc11, Bool.false_and, Bool.and_false, Bool.true_and]
                  have hv : reaS n ln sg (6 * iv) = 2 := by unfold reaS; rw [if_neg (by rw [hf]; decide), if_neg (by rw [he]; decide)]
                  have hw : fplF n ln sg iv = some (6 * iv) := by unfold fplF; rw [if_neg (by rw [hv]; decide)]
                  rw [opt_s hi2 hw] at ho
                  subst ho
                  exact m_ret1 rfl (Or.inr ⟨rfl, Or.inl rfl⟩) rfl (⟨rfl, (6 * iv, 2), rfl, fun p hp => by cases hp; rw [hv]⟩)
                · replace zc11 : (inN n (digS ln sg (6 * iv))) = true := bI_n0.mp zc11
                  have zi1 := inN_i.mp zc11
                  refine m_run 7 (ps' := (179, [some (.inr (.inl 13)), some (.inl 1)], [.inl (6 * iv + 2), .inr (.inl 16), .inr (.inl 13)], mW C (S, P, (ln, sg), F, B, G, (6 * iv, 2)), 0, 0)) rfl ?_
                  have zd2 := dig_v (s := 6 * iv + 2) (by omega) zc4
                  refine m_iald rfl rfl (by omega) (by omega) (by decide) ?_
                  refine m_run 2 (ps' := (183, [some (.inr (.inl 13)), some (.inl 1)], [.inl ((sg (6 * iv + 2)) - 48), .inr (.inl 13)], mW C (S, P, (ln, sg), F, B, G, (6 * iv, 2)), 0, 0)) rfl ?_
                  refine m_callVF [.inl ((sg (6 * iv + 2)) - 48)] [] rfl rfl ⟨_, rfl, rfl⟩ rfl rfl (d_elD (s := (6 * iv + 2)) hn hs0 (by omega) zc4) ?_
                  show m_Sem X 143 (186, [some (.inr (.inl 13)), some (.inl 1)], [.inl (bI (inN n (digS ln sg (6 * iv + 2))))], mW C (S, P, (ln, sg), F, B, G, (6 * iv, 2)), 0, 0) _
                  refine m_if rfl (bI_R (inN n (digS ln sg (6 * iv + 2)))) (fun (zc12 : (bI (inN n (digS ln sg (6 * iv + 2)))) = 0) => ?_) (fun (zc12 : ¬ (bI (inN n (digS ln sg (6 * iv + 2)))) = 0) => ?_)
                  · replace zc12 : (inN n (digS ln sg (6 * iv + 2))) = false := bI_e0.mp zc12
                    refine m_run 3 (ps' := (217, [some (.inr (.inl 13)), some (.inl 0)], [.inl 0], mW C (S, P, (ln, sg), F, B, G, (6 * iv, 2)), 0, 0)) rfl ?_
                    refine m_if rfl ⟨by omega, by omega⟩ (fun (zc13 : ¬ 0 = 0) => absurd zc13 (by omega)) (fun (zc13 : ¬ ¬ 0 = 0) => ?_)
                    refine m_run 1 (ps' := (221, [some (.inr (.inl 13)), some (.inl 0)], [.inl 0], mW C (S, P, (ln, sg), F, B, G, (6 * iv, 2)), 0, 0)) rfl ?_
                    have hf : formS ln sg (6 * iv) = true := by unfold formS; simp only [zc2, zc3, zc4, zc6, zc7, zc8, Bool.and_self]
                    have he : elemS n ln sg (6 * iv) = false := by unfold elemS; simp only [zc2, zc3, zc4, zc5, zc6, zc7, zc8, zc9, zc10, zc11, zc12, Bool.false_and, Bool.and_false, Bool.true_and]
                    have hv : reaS n ln sg (6 * iv) = 2 := by unfold reaS; rw [if_neg (by rw [hf]; decide), if_neg (by rw [he]; decide)]
                    have hw : fplF n ln sg iv = some (6 * iv) := by unfold fplF; rw [if_neg (by rw [hv]; decide)]
                    rw [opt_s hi2 hw] at ho
                    subst ho
                    exact m_ret1 rfl (Or.inr ⟨rfl, Or.inl rfl⟩) rfl (⟨rfl, (6 * iv, 2), rfl, fun p hp => by cases hp; rw [hv]⟩)
                  · replace zc12 : (inN n (digS ln sg (6 * iv + 2))) = true := bI_n0.mp zc12
                    have zi2 := inN_i.mp zc12
                    refine m_run 7 (ps' := (200, [some (.inr (.inl 13)), some (.inl 1)], [.inl (6 * iv + 4), .inr (.inl 16), .inr (.inl 13)], mW C (S, P, (ln, sg), F, B, G, (6 * iv, 2)), 0, 0)) rfl ?_
                    have zd3 := dig_v (s := 6 * iv + 4) (by omega) zc7
                    refine m_iald rfl rfl (by omega) (by omega) (by decide) ?_
                    refine m_run 2 (ps' := (204, [some (.inr (.inl 13)), some (.inl 1)], [.inl ((sg (6 * iv + 4)) - 48), .inr (.inl 13)], mW C (S, P, (ln, sg), F, B, G, (6 * iv, 2)), 0, 0)) rfl ?_
                    refine m_callVF [.inl ((sg (6 * iv + 4)) - 48)] [] rfl rfl ⟨_, rfl, rfl⟩ rfl rfl (d_elD (s := (6 * iv + 4)) hn hs0 (by omega) zc7) ?_
                    show m_Sem X 143 (207, [some (.inr (.inl 13)), some (.inl 1)], [.inl (bI (inN n (digS ln sg (6 * iv + 4))))], mW C (S, P, (ln, sg), F, B, G, (6 * iv, 2)), 0, 0) _
                    refine m_if rfl (bI_R (inN n (digS ln sg (6 * iv + 4)))) (fun (zc13 : (bI (inN n (digS ln sg (6 * iv + 4)))) = 0) => ?_) (fun (zc13 : ¬ (bI (inN n (digS ln sg (6 * iv + 4)))) = 0) => ?_)
                    · replace zc13 : (inN n (digS ln sg (6 * iv + 4))) = false := bI_e0.mp zc13
                      refine m_run 3 (ps' := (217, [some (.inr (.inl 13)), some (.inl 0)], [.inl 0], mW C (S, P, (ln, sg), F, B, G, (6 * iv, 2)), 0, 0)) rfl ?_
                      refine m_if rfl ⟨by omega, by omega⟩ (fun (zc14 : ¬ 0 = 0) => absurd zc14 (by omega)) (fun (zc14 : ¬ ¬ 0 = 0) => ?_)
                      refine m_run 1 (ps' := (221, [some (.inr (.inl 13)), some (.inl 0)], [.inl 0], mW C (S, P, (ln, sg), F, B, G, (6 * iv, 2)), 0, 0)) rfl ?_
                      have hf : formS ln sg (6 * iv) = true := by unfold formS; simp only [zc2, zc3, zc4, zc6, zc7, zc8, Bool.and_self]
                      have he : elemS n ln sg (6 * iv) = false := by unfold elemS; simp only [zc2, zc3, zc4, zc5, zc6, zc7, zc8, zc9, zc10, zc11, zc12, zc13, Bool.false_and, Bool.and_false, Bool.true_and]
                      have hv : reaS n ln sg (6 * iv) = 2 := by unfold reaS; rw [if_neg (by rw [hf]; decide), if_neg (by rw [he]; decide)]
                      have hw : fplF n ln sg iv = some (6 * iv) := by unfold fplF; rw [if_neg (by rw [hv]; decide)]
                      rw [opt_s hi2 hw] at ho
                      subst ho
                      exact m_ret1 rfl (Or.inr ⟨rfl, Or.inl rfl⟩) rfl (⟨rfl, (6 * iv, 2), rfl, fun p hp => by cases hp; rw [hv]⟩)
                    · replace zc13 : (inN n (digS ln sg (6 * iv + 4))) = true := bI_n0.mp zc13
                      have zi3 := inN_i.mp zc13
                      refine m_run 4 (ps' := (217, [some (.inr (.inl 13)), some (.inl 1)], [.inl 1], mW C (S, P, (ln, sg), F, B, G, (6 * iv, 2)), 0, 0)) rfl ?_
                      refine m_if rfl ⟨by omega, by omega⟩ (fun (zc14 : ¬ 1 = 0) => ?_) (fun (zc14 : ¬ ¬ 1 = 0) => absurd zc14 (not_not_intro (by omega)))
                      refine m_run 7 (ps' := (5, [some (.inr (.inl 13)), some (.inl 1)], [], mW C (S, P, (ln, sg), F, B, G, ((6 * iv + 6), 2)), 0, 0)) rfl ?_
                      refine m_weak [some (.inr (.inl 13)), none] ⟨rfl, trivial⟩ ?_
                      have hf : formS ln sg (6 * iv) = true := by unfold formS; simp only [zc2, zc3, zc4, zc6, zc7, zc8, Bool.and_self]
                      have he : elemS n ln sg (6 * iv) = true := by unfold elemS; simp only [zc11, zc12, zc13, Bool.and_self]
                      have hv : reaS n ln sg (6 * iv) = 0 := by unfold reaS; rw [if_neg (by rw [hf]; decide), if_pos he]
                      have hw : fplF n ln sg iv = none := by unfold fplF; rw [if_pos hv]
                      rw [opt_n hi2 hw] at ho
                      have h9 := ih 2 ho
                      rw [show 6 * (iv + 1) = 6 * iv + 6 by omega] at h9
                      exact h9
set_option maxHeartbeats 4000000 in
set_option maxRecDepth 100000 in
theorem d_rig {X : Nat × Nat × (Nat → Int32)} {C : CS} {n : Int} {S : Int → Int} {P : TS} {F : Int × Int × Int} {B : (Nat → Int64) × (Nat → Int64)} {G : Int → Int} {E : Int × Int} {ln : Int} {sg : Int → Int} (hn : okN n) (hs0 : S 0 = n) (hS : okS ln sg) : m_Run X 143 [.inr (.inl 13)] (mW C (S, P, (ln, sg), F, B, G, E)) (fun r w => r = some (.inl (bI ((fplS n ln sg)).isNone)) ∧ ∃ E2 : Int × Int, w = mW C (S, P, (ln, sg), F, B, G, E2) ∧ ∀ p, (fplS n ln sg) = some p → E2 = (p, reaS n ln sg p)) := by
  obtain ⟨hs1, hs2, hs3⟩ := id hS
  show m_Sem X 143 (0, [some (.inr (.inl 13)), none], [], mW C (S, P, (ln, sg), F, B, G, E), 0, 0) _
  refine m_run 3 (ps' := (5, [some (.inr (.inl 13)), none], [], mW C (S, P, (ln, sg), F, B, G, (0, E.2)), 0, 0)) rfl ?_
  refine m_weak [some (.inr (.inl 13)), none] ⟨rfl, trivial⟩ ?_
  exact e_rig (o := fplS n ln sg) hn hs0 hS 0 (by omega) (by omega) E.2 (by rw [z_sub]; rfl)
theorem fpl_none {n ln : Int} {sg : Int → Int} (h : (fplS n ln sg).isNone = true) : oI (fplS n ln sg) = -1 := by
  cases hf : fplS n ln sg with
  | none => rfl
  | some p => rw [hf] at h; cases h
theorem fpl_some {n ln : Int} {sg : Int → Int} (h : (fplS n ln sg).isNone = false) : ∃ p, fplS n ln sg = some p ∧ ¬ p = -1 := by
  cases hf : fplS n ln sg with
  | none => rw [hf] at h; cases h
  | some p => exact ⟨p, rfl, by have := fplS_in hf; omega⟩
set_option maxHeartbeats 4000000 in
set_option maxRecDepth 100000 in
theorem d_fau {X : Nat × Nat × (Nat → Int32)} {C : CS} {n : Int} {S : Int → Int} {P : TS} {F : Int × Int × Int} {B : (Nat → Int64) × (Nat → Int64)} {G : Int → Int} {E : Int × Int} {ln : Int} {sg : Int → Int} {tb : Int → Int → Int} {wh : Int} (hw : m_R wh) (hS : okS ln sg) (hR : repM n S tb) : m_Run X 144 [.inr (.inl 13), .inl wh] (mW C (S, P, (ln, sg), F, B, G, E)) (fun r w => r = some (.inl (fauS n ln sg wh)) ∧ ∃ E2 : Int × Int, w = mW C (S, P, (ln, sg), F, B, G, E2)) := by
  have hn := hR.1
  have hl := okN_lo hn
  have hs0 := hR.2.1
  show m_Sem X 144 (0, [some (.inr (.inl 13)), some (.inl wh)], [], mW C (S, P, (ln, sg), F, B, G, E), 0, 0) _
  refine m_run 3 (ps' := (3, [some (.inr (.inl 13)), some (.inl wh)], [.inl 1, .inl 0, .inl wh], mW C (S, P, (ln, sg), F, B, G, E), 0, 0)) rfl ?_
  refine m_callSF [.inl wh, .inl 0, .inl 1] [] rfl rfl rfl (d_in (v := wh) (l := 0) (m := 1) hw ⟨by omega, by omega⟩ ⟨by omega, by omega⟩) ?_
  show m_Sem X 144 (6, [some (.inr (.inl 13)), some (.inl wh)], [.inl (bI (insS wh 0 1))], mW C (S, P, (ln, sg), F, B, G, E), 0, 0) _
  refine m_if rfl (bI_R _) (fun (zc1 : ¬ (bI (insS wh 0 1)) = 0) => ?_) (fun (zc1 : ¬ ¬ (bI (insS wh 0 1)) = 0) => ?_)
  · replace zc1 : (insS wh 0 1) = true := bI_n0.mp zc1
    have zi9 := insS_i.mp zc1
    refine m_run 1 (ps' := (13, [some (.inr (.inl 13)), some (.inl wh)], [.inr (.inl 13)], mW C (S, P, (ln, sg), F, B, G, E), 0, 0)) rfl ?_
    refine m_callV [] [] rfl rfl ⟨_, rfl, rfl⟩ rfl rfl (d_rig hn hs0 hS) (fun r_ w_ hq_ _ => ?_)
    obtain ⟨rfl, E2, rfl, hE2⟩ := hq_
    show m_Sem X 144 (16, [some (.inr (.inl 13)), some (.inl wh)], [.inl (bI ((fplS n ln sg).isNone))], mW C (S, P, (ln, sg), F, B, G, E2), 0, 0) _
    refine m_if rfl (bI_R _) (fun (zc2 : (bI ((fplS n ln sg).isNone)) = 0) => ?_) (fun (zc2 : ¬ (bI ((fplS n ln sg).isNone)) = 0) => ?_)
    · replace zc2 : ((fplS n ln sg).isNone) = false := bI_e0.mp zc2
      refine m_run 1 (ps' := (25, [some (.inr (.inl 13)), some (.inl wh)], [.inl wh], mW C (S, P, (ln, sg), F, B, G, E2), 0, 0)) rfl ?_
      refine m_if rfl hw (fun (zc3 : ¬ wh = 0) => ?_) (fun (zc3 : ¬ ¬ wh = 0) => ?_)
      · refine m_run 2 (ps' := (39, [some (.inr (.inl 13)), some (.inl wh)], [.inl E2.2], mW C (S, P, (ln, sg), F, B, G, E2), 0, 0)) rfl ?_
        exact m_ret1 rfl (Or.inl rfl) rfl (by
            obtain ⟨p, hp, hp1⟩ := fpl_some zc2
            refine ⟨congrArg (fun x => some (Sum.inl x)) ?_, E2, rfl⟩
            rw [hE2 p hp]
            unfold fauS
            rw [hp, if_neg (by omega), if_neg (by omega), if_neg (show ¬ oI (some p) = -1 from hp1), if_neg zc3]
            rfl)
      · replace zc3 : wh = 0 := Decidable.not_not.mp zc3
        refine m_run 3 (ps' := (39, [some (.inr (.inl 13)), some (.inl wh)], [.inl E2.1], mW C (S, P, (ln, sg), F, B, G, E2), 0, 0)) rfl ?_
        exact m_ret1 rfl (Or.inl rfl) rfl (by
            obtain ⟨p, hp, hp1⟩ := fpl_some zc2
            refine ⟨congrArg (fun x => some (Sum.inl x)) ?_, E2, rfl⟩
            rw [hE2 p hp]
            unfold fauS
            rw [hp, if_neg (by omega), if_neg (by omega), if_neg (show ¬ oI (some p) = -1 from hp1), if_pos zc3]
            rfl)
    · replace zc2 : ((fplS n ln sg).isNone) = true := bI_n0.mp zc2
      refine m_run 2 (ps' := (39, [some (.inr (.inl 13)), some (.inl wh)], [.inl (-1000004)], mW C (S, P, (ln, sg), F, B, G, E2), 0, 0)) rfl ?_
      exact m_ret1 rfl (Or.inl rfl) rfl (⟨congrArg (fun x => some (Sum.inl x)) (by unfold fauS; rw [if_neg (by omega), if_neg (by omega), if_pos (fpl_none zc2)]), E2, rfl⟩)
  · replace zc1 : (insS wh 0 1) = false := bI_e0.mp (Decidable.not_not.mp zc1)
    have zi9 := insS_f.mp zc1
    refine m_run 1 (ps' := (11, [some (.inr (.inl 13)), some (.inl wh)], [.inl (-1000001)], mW C (S, P, (ln, sg), F, B, G, E), 0, 0)) rfl ?_
    exact m_ret1 rfl (Or.inl rfl) rfl (⟨congrArg (fun x => some (Sum.inl x)) (by unfold fauS; split <;> first | rfl | rw [if_pos (by omega)]), E, rfl⟩)
theorem play_len {n ln : Int} {sg : Int → Int} (h0 : 0 ≤ ln) (h : oI (fplS n ln sg) = -1) : ln % 6 = 0 := by
  by_cases h1 : ln = 0
  · rw [h1]; rfl
  · have h2 : fplS n ln sg = none := by
      cases hf : fplS n ln sg with
      | none => rfl
      | some p =>
        have h3 := fplS_in hf
        rw [hf] at h
        have h4 : p = -1 := h
        omega
    have h3 := opt_none _ _ h2 ((ln - 1) / 6) (by omega) (by omega)
    unfold fplF at h3
    split at h3
    next h4 =>
      unfold reaS at h4
      split at h4
      · cases h4
      next h5 =>
        have h6 : formS ln sg (6 * ((ln - 1) / 6)) = true := by simpa using h5
        unfold formS at h6
        simp only [Bool.and_eq_true] at h6
        have h7 := of_decide_eq_true h6.2.2
        unfold sgS at h7
        split at h7
        · omega
        · split at h7
          · omega
          · omega
    next => cases h3
set_option maxHeartbeats 4000000 in
set_option maxRecDepth 100000 in
theorem e_play {X : Nat × Nat × (Nat → Int32)} {C : CS} {n : Int} {P2 : TS} {F : Int × Int × Int} {B : (Nat → Int64) × (Nat → Int64)} {G : Int → Int} {E : Int × Int} {ln : Int} {sg : Int → Int} {T2 : Int → Int} {Q : Option mPV → mPW → Prop} (hn : okN n) (hS : okS ln sg) (hg : goodS n ln sg) (hm6 : ln % 6 = 0) (K9 : ∀ S : Int → Int, S 0 = n → shM S = T2 → Q (some (.inl ((ln + 5) / 6))) (mW C (S, P2, (ln, sg), F, B, G, E))) : ∀ iv : Int, 0 ≤ iv → iv ≤ ((ln + 5) / 6) → ∀ (S : Int → Int) (hs0 : S 0 = n) (ho : setsT ln sg ((ln + 5) / 6 - iv).toNat iv (shM S) = T2), m_Sem X 145 (16, [some (.inr (.inl 13)), some (.inl (6 * iv))], [], mW C (S, P2, (ln, sg), F, B, G, E), 0, 0) (Q) := by
  have hln := okN_lo hn
  obtain ⟨hs1, hs2, hs3⟩ := id hS
  refine m_down 0 ((ln + 5) / 6) ?_ ?_
  · intro S hs0 ho
    show m_Sem X 145 (16, [some (.inr (.inl 13)), some (.inl (6 * ((ln + 5) / 6)))], [], mW C (S, P2, (ln, sg), F, B, G, E), 0, 0) _
    refine m_run 3 (ps' := (21, [some (.inr (.inl 13)), some (.inl (6 * ((ln + 5) / 6)))], [.inl ln, .inl (6 * ((ln + 5) / 6))], mW C (S, P2, (ln, sg), F, B, G, E), 0, 0)) rfl ?_
    refine m_icmp rfl ⟨by omega, by omega⟩ ⟨by omega, by omega⟩ (fun (zc1 : ln ≤ (6 * ((ln + 5) / 6))) => ?_) (fun (zc1 : ¬ ln ≤ (6 * ((ln + 5) / 6))) => absurd zc1 (not_not_intro (by omega)))
    refine m_run 3 (ps' := (71, [some (.inr (.inl 13)), some (.inl (6 * ((ln + 5) / 6)))], [.inl 6, .inl ln], mW C (S, P2, (ln, sg), F, B, G, E), 0, 0)) rfl ?_
    refine m_div rfl (by omega) (by omega) (by omega) (by omega) ?_
    exact m_ret1 rfl (Or.inl rfl) rfl (by rw [sets_end] at ho; rw [show ln / 6 = (ln + 5) / 6 by omega]; exact K9 S hs0 ho)
  · intro iv hi1 hi2 ih S hs0 ho
    rw [sets_step hi2] at ho
    have hg1 := hg iv hi1 hi2
    have hz1 := dig_v (s := 6 * iv) (ln := ln) (sg := sg) (by omega) (decide_eq_true (by omega))
    have hz2 := dig_v (s := 6 * iv + 2) (ln := ln) (sg := sg) (by omega) (decide_eq_true (by omega))
    have hz3 := dig_v (s := 6 * iv + 4) (ln := ln) (sg := sg) (by omega) (decide_eq_true (by omega))
    refine m_run 3 (ps' := (21, [some (.inr (.inl 13)), some (.inl (6 * iv))], [.inl ln, .inl (6 * iv)], mW C (S, P2, (ln, sg), F, B, G, E), 0, 0)) rfl ?_
    refine m_icmp rfl ⟨by omega, by omega⟩ ⟨by omega, by omega⟩ (fun (zc1 : ln ≤ (6 * iv)) => absurd zc1 (by omega)) (fun (zc1 : ¬ ln ≤ (6 * iv)) => ?_)
    refine m_run 4 (ps' := (30, [some (.inr (.inl 13)), some (.inl (6 * iv))], [.inl (6 * iv), .inr (.inl 16), .inr (.inl 13)], mW C (S, P2, (ln, sg), F, B, G, E), 0, 0)) rfl ?_
    refine m_iald rfl rfl (by omega) (by omega) (by decide) ?_
    refine m_run 7 (ps' := (41, [some (.inr (.inl 13)), some (.inl (6 * iv))], [.inl ((6 * iv) + 2), .inr (.inl 16), .inl ((sg (6 * iv)) - 48), .inr (.inl 13)], mW C (S, P2, (ln, sg), F, B, G, E), 0, 0)) rfl ?_
    refine m_iald rfl rfl (by omega) (by omega) (by decide) ?_
    refine m_run 7 (ps' := (52, [some (.inr (.inl 13)), some (.inl (6 * iv))], [.inl ((6 * iv) + 4), .inr (.inl 16), .inl ((sg ((6 * iv) + 2)) - 48), .inl ((sg (6 * iv)) - 48), .inr (.inl 13)], mW C (S, P2, (ln, sg), F, B, G, E), 0, 0)) rfl ?_
    refine m_iald rfl rfl (by omega) (by omega) (by decide) ?_
    refine m_run 2 (ps' := (56, [some (.inr (.inl 13)), some (.inl (6 * iv))], [.inl ((sg ((6 * iv) + 4)) - 48), .inl ((sg ((6 * iv) + 2)) - 48), .inl ((sg (6 * iv)) - 48), .inr (.inl 13)], mW C (S, P2, (ln, sg), F, B, G, E), 0, 0)) rfl ?_
    refine m_callVU [.inl ((sg (6 * iv)) - 48), .inl ((sg ((6 * iv) + 2)) - 48), .inl ((sg ((6 * iv) + 4)) - 48)] [] rfl rfl ⟨_, rfl, rfl⟩ rfl rfl (d_set (S := S) (a := ((sg (6 * iv)) - 48)) (b := ((sg ((6 * iv) + 2)) - 48)) (r := ((sg ((6 * iv) + 4)) - 48)) (by omega) (by omega)) ?_
    show m_Sem X 145 (59, [some (.inr (.inl 13)), some (.inl (6 * iv))], [], mW C ((m_up S (1 + 9 * ((sg (6 * iv)) - 48) + ((sg ((6 * iv) + 2)) - 48)) ((sg ((6 * iv) + 4)) - 48)), P2, (ln, sg), F, B, G, E), 0, 0) _
    refine m_run 2 (ps' := (16, [some (.inr (.inl 13)), some (.inl ((6 * iv) + 6))], [], mW C ((m_up S (1 + 9 * ((sg (6 * iv)) - 48) + ((sg ((6 * iv) + 2)) - 48)) ((sg ((6 * iv) + 4)) - 48)), P2, (ln, sg), F, B, G, E), 0, 0)) rfl ?_
    refine m_weak [some (.inr (.inl 13)), some (.inl ((6 * iv) + 6))] ⟨rfl, ⟨rfl, trivial⟩⟩ ?_
    have h9 := ih (m_up S (1 + 9 * (sg (6 * iv) - 48) + (sg (6 * iv + 2) - 48)) (sg (6 * iv + 4) - 48)) ((sh_0 _ _ (by omega) (by omega)).trans hs0) (by rw [sh_up, ← hz1.2.2, ← hz2.2.2, ← hz3.2.2]; exact ho)
    rw [show 6 * (iv + 1) = 6 * iv + 6 by omega] at h9
    exact h9
set_option maxHeartbeats 4000000 in
set_option maxRecDepth 100000 in
theorem d_play {X : Nat × Nat × (Nat → Int32)} {C : CS} {n : Int} {S : Int → Int} {q : Int} {p : Int → Int} {F : Int × Int × Int} {B : (Nat → Int64) × (Nat → Int64)} {G : Int → Int} {E : Int × Int} {ln : Int} {sg : Int → Int} {tb : Int → Int → Int} (hg0 : oI (fplS n ln sg) = -1) (hS : okS ln sg) (hR : repM n S tb) (hq1 : 0 ≤ q) (hq2 : q ≤ 4) : m_Run X 145 [.inr (.inl 13)] (mW C (S, (q, p), (ln, sg), F, B, G, E)) (fun r w => r = some (.inl ((ln + 5) / 6)) ∧ ∃ (P2 : TS) (S3 : Int → Int) (E2 : Int × Int), w = mW C (S3, P2, (ln, sg), F, B, G, E2) ∧ svM S (q, p) P2 ∧ S3 0 = n ∧ shM S3 = setsT ln sg ((ln + 5) / 6).toNat 0 (shM S)) := by
  have hn := hR.1
  have hl := okN_lo hn
  have hs0 := hR.2.1
  obtain ⟨hs1, hs2, hs3⟩ := id hS
  show m_Sem X 145 (0, [some (.inr (.inl 13)), none], [], mW C (S, (q, p), (ln, sg), F, B, G, E), 0, 0) _
  refine m_run 1 (ps' := (1, [some (.inr (.inl 13)), none], [.inr (.inl 13)], mW C (S, (q, p), (ln, sg), F, B, G, E), 0, 0)) rfl ?_
  refine m_callV [] [] rfl rfl ⟨_, rfl, rfl⟩ rfl rfl (d_rig hn hs0 hS) (fun r_ w_ hq_ _ => ?_)
  obtain ⟨rfl, E2, rfl, hE2⟩ := hq_
  show m_Sem X 145 (4, [some (.inr (.inl 13)), none], [.inl (bI ((fplS n ln sg).isNone))], mW C (S, (q, p), (ln, sg), F, B, G, E2), 0, 0) _
  refine m_if rfl (bI_R ((fplS n ln sg).isNone)) (fun (zc1 : ¬ (bI ((fplS n ln sg).isNone)) = 0) => ?_) (fun (zc1 : ¬ ¬ (bI ((fplS n ln sg).isNone)) = 0) => absurd zc1 (not_not_intro (by intro h8; obtain ⟨p9, hp9, hp8⟩ := fpl_some (bI_e0.mp h8); rw [hp9] at hg0; exact hp8 hg0)))
  replace zc1 : ((fplS n ln sg).isNone) = true := bI_n0.mp zc1
  refine m_run 1 (ps' := (11, [some (.inr (.inl 13)), none], [.inr (.inl 13)], mW C (S, (q, p), (ln, sg), F, B, G, E2), 0, 0)) rfl ?_
  refine m_callV [] [] rfl rfl ⟨_, rfl, rfl⟩ rfl rfl (d_chg hq1 hq2) (fun r_ w_ hq_ _ => ?_)
  obtain ⟨rfl, P2, rfl, hsv⟩ := hq_
  show m_Sem X 145 (14, [some (.inr (.inl 13)), none], [], mW C (S, P2, (ln, sg), F, B, G, E2), 0, 0) _
  refine m_run 2 (ps' := (16, [some (.inr (.inl 13)), some (.inl 0)], [], mW C (S, P2, (ln, sg), F, B, G, E2), 0, 0)) rfl ?_
  refine m_weak [some (.inr (.inl 13)), some (.inl 0)] ⟨rfl, ⟨rfl, trivial⟩⟩ ?_
  have hm6 := play_len hS.1 hg0
  exact e_play (T2 := setsT ln sg ((ln + 5) / 6).toNat 0 (shM S)) hn hS (good_of hS.1 hg0) hm6 (fun S3 h8 h9 => ⟨rfl, P2, S3, E2, rfl, hsv, h8, h9⟩) 0 (by omega) (by omega) S hs0 (by rw [z_sub])
set_option maxHeartbeats 4000000 in
set_option maxRecDepth 100000 in
theorem d_playN {X : Nat × Nat × (Nat → Int32)} {C : CS} {n : Int} {S : Int → Int} {P : TS} {F : Int × Int × Int} {B : (Nat → Int64) × (Nat → Int64)} {G : Int → Int} {E : Int × Int} {ln : Int} {sg : Int → Int} {tb : Int → Int → Int} (hg0 : ¬ oI (fplS n ln sg) = -1) (hS : okS ln sg) (hR : repM n S tb) : m_Run X 145 [.inr (.inl 13)] (mW C (S, P, (ln, sg), F, B, G, E)) (fun r w => r = some (.inl (-1000002)) ∧ ∃ E2 : Int × Int, w = mW C (S, P, (ln, sg), F, B, G, E2)) := by
  have hn := hR.1
  have hl := okN_lo hn
  have hs0 := hR.2.1
  show m_Sem X 145 (0, [some (.inr (.inl 13)), none], [], mW C (S, P, (ln, sg), F, B, G, E), 0, 0) _
  refine m_run 1 (ps' := (1, [some (.inr (.inl 13)), none], [.inr (.inl 13)], mW C (S, P, (ln, sg), F, B, G, E), 0, 0)) rfl ?_
  refine m_callV [] [] rfl rfl ⟨_, rfl, rfl⟩ rfl rfl (d_rig hn hs0 hS) (fun r_ w_ hq_ _ => ?_)
  obtain ⟨rfl, E2, rfl, hE2⟩ := hq_
  show m_Sem X 145 (4, [some (.inr (.inl 13)), none], [.inl (bI ((fplS n ln sg).isNone))], mW C (S, P, (ln, sg), F, B, G, E2), 0, 0) _
  refine m_if rfl (bI_R ((fplS n ln sg).isNone)) (fun (zc1 : ¬ (bI ((fplS n ln sg).isNone)) = 0) => absurd zc1 (by intro h8; exact hg0 (fpl_none (bI_n0.mp h8)))) (fun (zc1 : ¬ ¬ (bI ((fplS n ln sg).isNone)) = 0) => ?_)
  replace zc1 : ((fplS n ln sg).isNone) = false := bI_e0.mp (Decidable.not_not.mp zc1)
  refine m_run 1 (ps' := (9, [some (.inr (.inl 13)), none], [.inl (-1000002)], mW C (S, P, (ln, sg), F, B, G, E2), 0, 0)) rfl ?_
  exact m_ret1 rfl (Or.inl rfl) rfl (⟨rfl, E2, rfl⟩)
