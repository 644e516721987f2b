theorem law_v {n : Int} {tb : Int → Int → Int} {law : Int} (hn : okN n) (h1 : 0 ≤ law) (h2 : law < 8) : (-1 ≤ wcdL (witS n tb law) ∧ wcdL (witS n tb law) < 1000) ∧ ((0 ≤ wcdL (witS n tb law) ∨ (lawS n tb law 0 = 1 ∧ lawS n tb law 1 = -1000004 ∧ lawS n tb law 2 = -1000004 ∧ lawS n tb law 3 = -1000004)) ∧ (wcdL (witS n tb law) < 0 ∨ (lawS n tb law 0 = 0 ∧ lawS n tb law 1 = wcdL (witS n tb law) / 100 ∧ lawS n tb law 2 = wcdL (witS n tb law) / 10 % 10 ∧ lawS n tb law 3 = wcdL (witS n tb law) % 10))) ∧ (wcode (witS n tb law) = -1 ↔ wcdL (witS n tb law) < 0) := by
  have e : ∀ w, 0 ≤ w → w ≤ 3 → lawS n tb law w = if w = 0 then (if wcode (witS n tb law) = -1 then 1 else 0) else if wcode (witS n tb law) = -1 then -1000004 else welS (wcode (witS n tb law)) w := by
    intro w g1 g2
    unfold lawS
    rw [if_neg (by omega), if_neg (by omega), if_neg (by omega), if_neg (by omega)]
  rw [e 0 (by omega) (by omega), e 1 (by omega) (by omega), e 2 (by omega) (by omega), e 3 (by omega) (by omega)]
  rcases wcd_lt (tb := tb) (law := law) hn with ⟨w1, w2⟩ | ⟨a, b, c, ⟨a1, a2⟩, ⟨b1, b2⟩, ⟨c1, c2⟩, w1, w2⟩
  · rw [w1, w2]
    refine ⟨by omega, ⟨Or.inr ⟨rfl, rfl, rfl, rfl⟩, Or.inl (by omega)⟩, by omega⟩
  · rw [w1, w2]
    have hne : ¬ (81 * a + 9 * b + c = -1) := by omega
    refine ⟨by omega, ⟨Or.inl (by omega), Or.inr ⟨?_, ?_, ?_, ?_⟩⟩, by omega⟩
    · rw [if_pos rfl, if_neg hne]
    · rw [if_neg (by decide), if_neg hne]
      show (81 * a + 9 * b + c) / 81 = _
      have q1 : (81 * a + 9 * b + c) / 81 = a := by omega
      have q2 : (100 * a + 10 * b + c) / 100 = a := by omega
      rw [q1, q2]
    · rw [if_neg (by decide), if_neg hne]
      show (81 * a + 9 * b + c) / 9 % 9 = _
      have q1 : (81 * a + 9 * b + c) / 9 = 9 * a + b := by omega
      have q2 : (100 * a + 10 * b + c) / 10 = 10 * a + b := by omega
      have q3 : (9 * a + b) % 9 = b := by omega
      have q4 : (10 * a + b) % 10 = b := by omega
      rw [q1, q2, q3, q4]
    · rw [if_neg (by decide), if_neg hne]
      show (81 * a + 9 * b + c) % 9 = _
      have q1 : (81 * a + 9 * b + c) % 9 = c := by omega
      have q2 : (100 * a + 10 * b + c) % 10 = c := by omega
      rw [q1, q2]
theorem shB_R {v : Int} : 0 ≤ shB v ∧ shB v < 2147483648 := by
  unfold shB
  (repeat' split) <;> omega
theorem law_i1 {n : Int} {tb : Int → Int → Int} : lawS n tb 8 0 = -1000001 := by unfold lawS; simp
theorem law_i2 {n : Int} {tb : Int → Int → Int} : lawS n tb 0 4 = -1000001 := by unfold lawS; simp
set_option maxHeartbeats 4000000 in
set_option maxRecDepth 100000 in
theorem a_arL {X : Nat × Nat × (Nat → Int32)} {n : Int} {T : Int → Int} {h : HS} {t : TS} {x : XS} {g : Int → Int} {f : Nat → Int64} {J : mPW} {tb : Int → Int → Int} (hg : g 0 = n) (hL : repL n f tb) (hR : repC n T tb) : ∀ iv : Int, 0 ≤ iv → iv ≤ 8 → ∀ (u : Int) (hu : u + sumF (fun l => if wcode (witS n tb l) = -1 then 1 else 0) (8 - iv).toNat iv = heldS n tb), m_Sem X 58 (8, [some (.inr (.inl 0)), some (.inr (.inl 13)), some (.inr (.inl 14)), some (.inl u), some (.inl 1), some (.inl iv), none], [], mW (n, T, h, t, x) (.inl (0, 1, .inl g) :: .inl (2, 9, .inr f) :: J), 0, 0) (m_V 1 (mW (n, T, h, t, x) (.inl (0, 1, .inl g) :: .inl (2, 9, .inr f) :: J))) := by
  have hn := hL.1
  have hl := okN_lo hn
  refine m_down 0 8 ?_ ?_
  · intro u hu
    rw [sum_end] at hu
    have hu : u = heldS n tb := by omega
    have hh := heldS_in n tb
    show m_Sem X 58 (8, [some (.inr (.inl 0)), some (.inr (.inl 13)), some (.inr (.inl 14)), some (.inl u), some (.inl 1), some (.inl 8), none], [], mW (n, T, h, t, x) (.inl (0, 1, .inl g) :: .inl (2, 9, .inr f) :: J), 0, 0) _
    refine m_run 2 (ps' := (12, [some (.inr (.inl 0)), some (.inr (.inl 13)), some (.inr (.inl 14)), some (.inl u), some (.inl 1), some (.inl 8), none], [.inl 8, .inl 8], mW (n, T, h, t, x) (.inl (0, 1, .inl g) :: .inl (2, 9, .inr f) :: J), 0, 0)) rfl ?_
    refine m_icmp rfl ⟨by omega, by omega⟩ ⟨by omega, by omega⟩ (fun (zc1 : 8 ≤ 8) => ?_) (fun (zc1 : ¬ 8 ≤ 8) => absurd zc1 (not_not_intro (by omega)))
    refine m_run 1 (ps' := (155, [some (.inr (.inl 0)), some (.inr (.inl 13)), some (.inr (.inl 14)), some (.inl u), some (.inl 1), some (.inl 8), none], [.inl 1], mW (n, T, h, t, x) (.inl (0, 1, .inl g) :: .inl (2, 9, .inr f) :: J), 0, 0)) rfl ?_
    refine m_if rfl ⟨by omega, by omega⟩ (fun (zc2 : 1 = 0) => absurd zc2 (by omega)) (fun (zc2 : ¬ 1 = 0) => ?_)
    refine m_run 1 (ps' := (159, [some (.inr (.inl 0)), some (.inr (.inl 13)), some (.inr (.inl 14)), some (.inl u), some (.inl 1), some (.inl 8), none], [.inr (.inl 0)], mW (n, T, h, t, x) (.inl (0, 1, .inl g) :: .inl (2, 9, .inr f) :: J), 0, 0)) rfl ?_
    refine m_callVF [] [] rfl rfl ⟨_, rfl, rfl⟩ rfl rfl (k_share hR) ?_
    have zt1 := shB_R (v := heldS n tb)
    show m_Sem X 58 (162, [some (.inr (.inl 0)), some (.inr (.inl 13)), some (.inr (.inl 14)), some (.inl u), some (.inl 1), some (.inl 8), none], [.inl (shB (heldS n tb))], mW (n, T, h, t, x) (.inl (0, 1, .inl g) :: .inl (2, 9, .inr f) :: J), 0, 0) _
    refine m_run 1 (ps' := (163, [some (.inr (.inl 0)), some (.inr (.inl 13)), some (.inr (.inl 14)), some (.inl u), some (.inl 1), some (.inl 8), none], [.inl u, .inl (shB (heldS n tb))], mW (n, T, h, t, x) (.inl (0, 1, .inl g) :: .inl (2, 9, .inr f) :: J), 0, 0)) rfl ?_
    refine m_callSF [.inl u] [.inl (shB (heldS n tb))] rfl rfl rfl (a_eig (v := u) (by omega) (by omega)) ?_
    have zt2 := shB_R (v := u)
    show m_Sem X 58 (166, [some (.inr (.inl 0)), some (.inr (.inl 13)), some (.inr (.inl 14)), some (.inl u), some (.inl 1), some (.inl 8), none], [.inl (shB u), .inl (shB (heldS n tb))], mW (n, T, h, t, x) (.inl (0, 1, .inl g) :: .inl (2, 9, .inr f) :: J), 0, 0) _
    refine m_icmp rfl ⟨by omega, by omega⟩ ⟨by omega, by omega⟩ (fun (zc3 : ¬ (shB (heldS n tb)) = (shB u)) => absurd zc3 (by rw [hu]; exact fun h9 => h9 rfl)) (fun (zc3 : ¬ ¬ (shB (heldS n tb)) = (shB u)) => ?_)
    replace zc3 : (shB (heldS n tb)) = (shB u) := Decidable.not_not.mp zc3
    refine m_run 3 (ps' := (173, [some (.inr (.inl 0)), some (.inr (.inl 13)), some (.inr (.inl 14)), some (.inl u), some (.inl 1), some (.inl 8), none], [.inl 0, .inl 8, .inr (.inl 0)], mW (n, T, h, t, x) (.inl (0, 1, .inl g) :: .inl (2, 9, .inr f) :: J), 0, 0)) rfl ?_
    refine m_callVF [.inl 8, .inl 0] [] rfl rfl ⟨_, rfl, rfl⟩ rfl rfl (k_law (l := 8) (wh := 0) ⟨by omega, by omega⟩ ⟨by omega, by omega⟩ hR) ?_
    have zt3 := law_i1 (n := n) (tb := tb)
    show m_Sem X 58 (176, [some (.inr (.inl 0)), some (.inr (.inl 13)), some (.inr (.inl 14)), some (.inl u), some (.inl 1), some (.inl 8), none], [.inl (lawS n tb 8 0)], mW (n, T, h, t, x) (.inl (0, 1, .inl g) :: .inl (2, 9, .inr f) :: J), 0, 0) _
    refine m_run 1 (ps' := (178, [some (.inr (.inl 0)), some (.inr (.inl 13)), some (.inr (.inl 14)), some (.inl u), some (.inl 1), some (.inl 8), none], [.inl (-1000001), .inl (lawS n tb 8 0)], mW (n, T, h, t, x) (.inl (0, 1, .inl g) :: .inl (2, 9, .inr f) :: J), 0, 0)) rfl ?_
    refine m_icmp rfl ⟨by omega, by omega⟩ ⟨by omega, by omega⟩ (fun (zc4 : ¬ (lawS n tb 8 0) = (-1000001)) => absurd zc4 (by omega)) (fun (zc4 : ¬ ¬ (lawS n tb 8 0) = (-1000001)) => ?_)
    replace zc4 : (lawS n tb 8 0) = (-1000001) := Decidable.not_not.mp zc4
    refine m_run 3 (ps' := (184, [some (.inr (.inl 0)), some (.inr (.inl 13)), some (.inr (.inl 14)), some (.inl u), some (.inl 1), some (.inl 8), none], [.inl 4, .inl 0, .inr (.inl 0)], mW (n, T, h, t, x) (.inl (0, 1, .inl g) :: .inl (2, 9, .inr f) :: J), 0, 0)) rfl ?_
    refine m_callVF [.inl 0, .inl 4] [] rfl rfl ⟨_, rfl, rfl⟩ rfl rfl (k_law (l := 0) (wh := 4) ⟨by omega, by omega⟩ ⟨by omega, by omega⟩ hR) ?_
    have zt4 := law_i2 (n := n) (tb := tb)
    show m_Sem X 58 (187, [some (.inr (.inl 0)), some (.inr (.inl 13)), some (.inr (.inl 14)), some (.inl u), some (.inl 1), some (.inl 8), none], [.inl (lawS n tb 0 4)], mW (n, T, h, t, x) (.inl (0, 1, .inl g) :: .inl (2, 9, .inr f) :: J), 0, 0) _
    refine m_run 1 (ps' := (189, [some (.inr (.inl 0)), some (.inr (.inl 13)), some (.inr (.inl 14)), some (.inl u), some (.inl 1), some (.inl 8), none], [.inl (-1000001), .inl (lawS n tb 0 4)], mW (n, T, h, t, x) (.inl (0, 1, .inl g) :: .inl (2, 9, .inr f) :: J), 0, 0)) rfl ?_
    refine m_icmp rfl ⟨by omega, by omega⟩ ⟨by omega, by omega⟩ (fun (zc5 : ¬ (lawS n tb 0 4) = (-1000001)) => absurd zc5 (by omega)) (fun (zc5 : ¬ ¬ (lawS n tb 0 4) = (-1000001)) => ?_)
    replace zc5 : (lawS n tb 0 4) = (-1000001) := Decidable.not_not.mp zc5
    refine m_run 2 (ps' := (197, [some (.inr (.inl 0)), some (.inr (.inl 13)), some (.inr (.inl 14)), some (.inl u), some (.inl 1), some (.inl 8), none], [.inl 1], mW (n, T, h, t, x) (.inl (0, 1, .inl g) :: .inl (2, 9, .inr f) :: J), 0, 0)) rfl ?_
    exact m_ret1 rfl (Or.inr ⟨rfl, Or.inr rfl⟩) rfl (m_Vi rfl)
  · intro iv hi1 hi2 ih u hu
    rw [sum_step hi2] at hu
    obtain ⟨⟨v1, v2⟩, ⟨v3, v4⟩, v5⟩ := law_v (tb := tb) (law := iv) hn hi1 hi2
    refine m_run 2 (ps' := (12, [some (.inr (.inl 0)), some (.inr (.inl 13)), some (.inr (.inl 14)), some (.inl u), some (.inl 1), some (.inl iv), none], [.inl 8, .inl iv], mW (n, T, h, t, x) (.inl (0, 1, .inl g) :: .inl (2, 9, .inr f) :: J), 0, 0)) rfl ?_
    refine m_icmp rfl ⟨by omega, by omega⟩ ⟨by omega, by omega⟩ (fun (zc1 : 8 ≤ iv) => absurd zc1 (by omega)) (fun (zc1 : ¬ 8 ≤ iv) => ?_)
    refine m_run 1 (ps' := (17, [some (.inr (.inl 0)), some (.inr (.inl 13)), some (.inr (.inl 14)), some (.inl u), some (.inl 1), some (.inl iv), none], [.inl 1], mW (n, T, h, t, x) (.inl (0, 1, .inl g) :: .inl (2, 9, .inr f) :: J), 0, 0)) rfl ?_
    refine m_if rfl ⟨by omega, by omega⟩ (fun (zc2 : 1 = 0) => absurd zc2 (by omega)) (fun (zc2 : ¬ 1 = 0) => ?_)
    refine m_run 3 (ps' := (24, [some (.inr (.inl 0)), some (.inr (.inl 13)), some (.inr (.inl 14)), some (.inl u), some (.inl 1), some (.inl iv), none], [.inl iv, .inr (.inl 14), .inr (.inl 13)], mW (n, T, h, t, x) (.inl (0, 1, .inl g) :: .inl (2, 9, .inr f) :: J), 0, 0)) rfl ?_
    refine m_callSF [.inr (.inl 13), .inr (.inl 14), .inl iv] [] rfl rfl rfl (a_wit (law := iv) hg hL (by omega) (by omega)) ?_
    show m_Sem X 58 (27, [some (.inr (.inl 0)), some (.inr (.inl 13)), some (.inr (.inl 14)), some (.inl u), some (.inl 1), some (.inl iv), none], [.inl (wcdL (witS n tb iv))], mW (n, T, h, t, x) (.inl (0, 1, .inl g) :: .inl (2, 9, .inr f) :: J), 0, 0) _
    refine m_run 3 (ps' := (32, [some (.inr (.inl 0)), some (.inr (.inl 13)), some (.inr (.inl 14)), some (.inl u), some (.inl 1), some (.inl iv), some (.inl (wcdL (witS n tb iv)))], [.inl (wcdL (witS n tb iv)), .inl u], mW (n, T, h, t, x) (.inl (0, 1, .inl g) :: .inl (2, 9, .inr f) :: J), 0, 0)) rfl ?_
    refine m_if rfl ⟨by omega, by omega⟩ (fun (zc3 : 0 ≤ (wcdL (witS n tb iv))) => ?_) (fun (zc3 : ¬ 0 ≤ (wcdL (witS n tb iv))) => ?_)
    · refine m_run 6 (ps' := (46, [some (.inr (.inl 0)), some (.inr (.inl 13)), some (.inr (.inl 14)), some (.inl (u + 0)), some (.inl 1), some (.inl iv), some (.inl (wcdL (witS n tb iv)))], [.inl 0, .inl iv, .inr (.inl 0)], mW (n, T, h, t, x) (.inl (0, 1, .inl g) :: .inl (2, 9, .inr f) :: J), 0, 0)) rfl ?_
      refine m_callVF [.inl iv, .inl 0] [] rfl rfl ⟨_, rfl, rfl⟩ rfl rfl (k_law (l := iv) (wh := 0) ⟨by omega, by omega⟩ ⟨by omega, by omega⟩ hR) ?_
      show m_Sem X 58 (49, [some (.inr (.inl 0)), some (.inr (.inl 13)), some (.inr (.inl 14)), some (.inl (u + 0)), some (.inl 1), some (.inl iv), some (.inl (wcdL (witS n tb iv)))], [.inl (lawS n tb iv 0)], mW (n, T, h, t, x) (.inl (0, 1, .inl g) :: .inl (2, 9, .inr f) :: J), 0, 0) _
      refine m_run 1 (ps' := (51, [some (.inr (.inl 0)), some (.inr (.inl 13)), some (.inr (.inl 14)), some (.inl (u + 0)), some (.inl 1), some (.inl iv), some (.inl (wcdL (witS n tb iv)))], [.inl (wcdL (witS n tb iv)), .inl (lawS n tb iv 0)], mW (n, T, h, t, x) (.inl (0, 1, .inl g) :: .inl (2, 9, .inr f) :: J), 0, 0)) rfl ?_
      refine m_if rfl ⟨by omega, by omega⟩ (fun (zc4 : 0 ≤ (wcdL (witS n tb iv))) => ?_) (fun (zc4 : ¬ 0 ≤ (wcdL (witS n tb iv))) => absurd zc4 (not_not_intro (by omega)))
      refine m_run 1 (ps' := (59, [some (.inr (.inl 0)), some (.inr (.inl 13)), some (.inr (.inl 14)), some (.inl (u + 0)), some (.inl 1), some (.inl iv), some (.inl (wcdL (witS n tb iv)))], [.inl 0, .inl (lawS n tb iv 0)], mW (n, T, h, t, x) (.inl (0, 1, .inl g) :: .inl (2, 9, .inr f) :: J), 0, 0)) rfl ?_
      refine m_icmp rfl ⟨by omega, by omega⟩ ⟨by omega, by omega⟩ (fun (zc5 : ¬ (lawS n tb iv 0) = 0) => absurd zc5 (by omega)) (fun (zc5 : ¬ ¬ (lawS n tb iv 0) = 0) => ?_)
      replace zc5 : (lawS n tb iv 0) = 0 := Decidable.not_not.mp zc5
      refine m_run 3 (ps' := (66, [some (.inr (.inl 0)), some (.inr (.inl 13)), some (.inr (.inl 14)), some (.inl (u + 0)), some (.inl 1), some (.inl iv), some (.inl (wcdL (witS n tb iv)))], [.inl 1, .inl iv, .inr (.inl 0)], mW (n, T, h, t, x) (.inl (0, 1, .inl g) :: .inl (2, 9, .inr f) :: J), 0, 0)) rfl ?_
      refine m_callVF [.inl iv, .inl 1] [] rfl rfl ⟨_, rfl, rfl⟩ rfl rfl (k_law (l := iv) (wh := 1) ⟨by omega, by omega⟩ ⟨by omega, by omega⟩ hR) ?_
      show m_Sem X 58 (69, [some (.inr (.inl 0)), some (.inr (.inl 13)), some (.inr (.inl 14)), some (.inl (u + 0)), some (.inl 1), some (.inl iv), some (.inl (wcdL (witS n tb iv)))], [.inl (lawS n tb iv 1)], mW (n, T, h, t, x) (.inl (0, 1, .inl g) :: .inl (2, 9, .inr f) :: J), 0, 0) _
      refine m_run 1 (ps' := (71, [some (.inr (.inl 0)), some (.inr (.inl 13)), some (.inr (.inl 14)), some (.inl (u + 0)), some (.inl 1), some (.inl iv), some (.inl (wcdL (witS n tb iv)))], [.inl (wcdL (witS n tb iv)), .inl (lawS n tb iv 1)], mW (n, T, h, t, x) (.inl (0, 1, .inl g) :: .inl (2, 9, .inr f) :: J), 0, 0)) rfl ?_
      refine m_if rfl ⟨by omega, by omega⟩ (fun (zc6 : 0 ≤ (wcdL (witS n tb iv))) => ?_) (fun (zc6 : ¬ 0 ≤ (wcdL (witS n tb iv))) => absurd zc6 (not_not_intro (by omega)))
      refine m_run 2 (ps' := (83, [some (.inr (.inl 0)), some (.inr (.inl 13)), some (.inr (.inl 14)), some (.inl (u + 0)), some (.inl 1), some (.inl iv), some (.inl (wcdL (witS n tb iv)))], [.inl 100, .inl (wcdL (witS n tb iv)), .inl (lawS n tb iv 1)], mW (n, T, h, t, x) (.inl (0, 1, .inl g) :: .inl (2, 9, .inr f) :: J), 0, 0)) rfl ?_
      refine m_div rfl (by omega) (by omega) (by omega) (by omega) ?_
      refine m_icmp rfl ⟨by omega, by omega⟩ ⟨by omega, by omega⟩ (fun (zc7 : ¬ (lawS n tb iv 1) = ((wcdL (witS n tb iv)) / 100)) => absurd zc7 (by omega)) (fun (zc7 : ¬ ¬ (lawS n tb iv 1) = ((wcdL (witS n tb iv)) / 100)) => ?_)
      replace zc7 : (lawS n tb iv 1) = ((wcdL (witS n tb iv)) / 100) := Decidable.not_not.mp zc7
      refine m_run 3 (ps' := (91, [some (.inr (.inl 0)), some (.inr (.inl 13)), some (.inr (.inl 14)), some (.inl (u + 0)), some (.inl 1), some (.inl iv), some (.inl (wcdL (witS n tb iv)))], [.inl 2, .inl iv, .inr (.inl 0)], mW (n, T, h, t, x) (.inl (0, 1, .inl g) :: .inl (2, 9, .inr f) :: J), 0, 0)) rfl ?_
      refine m_callVF [.inl iv, .inl 2] [] rfl rfl ⟨_, rfl, rfl⟩ rfl rfl (k_law (l := iv) (wh := 2) ⟨by omega, by omega⟩ ⟨by omega, by omega⟩ hR) ?_
      show m_Sem X 58 (94, [some (.inr (.inl 0)), some (.inr (.inl 13)), some (.inr (.inl 14)), some (.inl (u + 0)), some (.inl 1), some (.inl iv), some (.inl (wcdL (witS n tb iv)))], [.inl (lawS n tb iv 2)], mW (n, T, h, t, x) (.inl (0, 1, .inl g) :: .inl (2, 9, .inr f) :: J), 0, 0) _
      refine m_run 1 (ps' := (96, [some (.inr (.inl 0)), some (.inr (.inl 13)), some (.inr (.inl 14)), some (.inl (u + 0)), some (.inl 1), some (.inl iv), some (.inl (wcdL (witS n tb iv)))], [.inl (wcdL (witS n tb iv)), .inl (lawS n tb iv 2)], mW (n, T, h, t, x) (.inl (0, 1, .inl g) :: .inl (2, 9, .inr f) :: J), 0, 0)) rfl ?_
      refine m_if rfl ⟨by omega, by omega⟩ (fun (zc8 : 0 ≤ (wcdL (witS n tb iv))) => ?_) (fun (zc8 : ¬ 0 ≤ (wcdL (witS n tb iv))) => absurd zc8 (not_not_intro (by omega)))
      refine m_run 2 (ps' := (108, [some (.inr (.inl 0)), some (.inr (.inl 13)), some (.inr (.inl 14)), some (.inl (u + 0)), some (.inl 1), some (.inl iv), some (.inl (wcdL (witS n tb iv)))], [.inl 10, .inl (wcdL (witS n tb iv)), .inl (lawS n tb iv 2)], mW (n, T, h, t, x) (.inl (0, 1, .inl g) :: .inl (2, 9, .inr f) :: J), 0, 0)) rfl ?_
      refine m_div rfl (by omega) (by omega) (by omega) (by omega) ?_
      refine m_run 1 (ps' := (111, [some (.inr (.inl 0)), some (.inr (.inl 13)), some (.inr (.inl 14)), some (.inl (u + 0)), some (.inl 1), some (.inl iv), some (.inl (wcdL (witS n tb iv)))], [.inl 10, .inl ((wcdL (witS n tb iv)) / 10), .inl (lawS n tb iv 2)], mW (n, T, h, t, x) (.inl (0, 1, .inl g) :: .inl (2, 9, .inr f) :: J), 0, 0)) rfl ?_
      refine m_rem rfl (by omega) (by omega) (by omega) (by omega) ?_
      refine m_icmp rfl ⟨by omega, by omega⟩ ⟨by omega, by omega⟩ (fun (zc9 : ¬ (lawS n tb iv 2) = (((wcdL (witS n tb iv)) / 10) % 10)) => absurd zc9 (by omega)) (fun (zc9 : ¬ ¬ (lawS n tb iv 2) = (((wcdL (witS n tb iv)) / 10) % 10)) => ?_)
      replace zc9 : (lawS n tb iv 2) = (((wcdL (witS n tb iv)) / 10) % 10) := Decidable.not_not.mp zc9
      refine m_run 3 (ps' := (119, [some (.inr (.inl 0)), some (.inr (.inl 13)), some (.inr (.inl 14)), some (.inl (u + 0)), some (.inl 1), some (.inl iv), some (.inl (wcdL (witS n tb iv)))], [.inl 3, .inl iv, .inr (.inl 0)], mW (n, T, h, t, x) (.inl (0, 1, .inl g) :: .inl (2, 9, .inr f) :: J), 0, 0)) rfl ?_
      refine m_callVF [.inl iv, .inl 3] [] rfl rfl ⟨_, rfl, rfl⟩ rfl rfl (k_law (l := iv) (wh := 3) ⟨by omega, by omega⟩ ⟨by omega, by omega⟩ hR) ?_
      show m_Sem X 58 (122, [some (.inr (.inl 0)), some (.inr (.inl 13)), some (.inr (.inl 14)), some (.inl (u + 0)), some (.inl 1), some (.inl iv), some (.inl (wcdL (witS n tb iv)))], [.inl (lawS n tb iv 3)], mW (n, T, h, t, x) (.inl (0, 1, .inl g) :: .inl (2, 9, .inr f) :: J), 0, 0) _
      refine m_run 1 (ps' := (124, [some (.inr (.inl 0)), some (.inr (.inl 13)), some (.inr (.inl 14)), some (.inl (u + 0)), some (.inl 1), some (.inl iv), some (.inl (wcdL (witS n tb iv)))], [.inl (wcdL (witS n tb iv)), .inl (lawS n tb iv 3)], mW (n, T, h, t, x) (.inl (0, 1, .inl g) :: .inl (2, 9, .inr f) :: J), 0, 0)) rfl ?_
      refine m_if rfl ⟨by omega, by omega⟩ (fun (zc10 : 0 ≤ (wcdL (witS n tb iv))) => ?_) (fun (zc10 : ¬ 0 ≤ (wcdL (witS n tb iv))) => absurd zc10 (not_not_intro (by omega)))
      refine m_run 2 (ps' := (136, [some (.inr (.inl 0)), some (.inr (.inl 13)), some (.inr (.inl 14)), some (.inl (u + 0)), some (.inl 1), some (.inl iv), some (.inl (wcdL (witS n tb iv)))], [.inl 10, .inl (wcdL (witS n tb iv)), .inl (lawS n tb iv 3)], mW (n, T, h, t, x) (.inl (0, 1, .inl g) :: .inl (2, 9, .inr f) :: J), 0, 0)) rfl ?_
      refine m_rem rfl (by omega) (by omega) (by omega) (by omega) ?_
      refine m_icmp rfl ⟨by omega, by omega⟩ ⟨by omega, by omega⟩ (fun (zc11 : ¬ (lawS n tb iv 3) = ((wcdL (witS n tb iv)) % 10)) => absurd zc11 (by omega)) (fun (zc11 : ¬ ¬ (lawS n tb iv 3) = ((wcdL (witS n tb iv)) % 10)) => ?_)
      replace zc11 : (lawS n tb iv 3) = ((wcdL (witS n tb iv)) % 10) := Decidable.not_not.mp zc11
      refine m_run 5 (ps' := (8, [some (.inr (.inl 0)), some (.inr (.inl 13)), some (.inr (.inl 14)), some (.inl (u + 0)), some (.inl 1), some (.inl (iv + 1)), some (.inl (wcdL (witS n tb iv)))], [], mW (n, T, h, t, x) (.inl (0, 1, .inl g) :: .inl (2, 9, .inr f) :: J), 0, 0)) rfl ?_
      refine m_weak [some (.inr (.inl 0)), some (.inr (.inl 13)), some (.inr (.inl 14)), some (.inl (u + 0)), some (.inl 1), some (.inl (iv + 1)), none] ⟨rfl, ⟨rfl, ⟨rfl, ⟨rfl, ⟨rfl, ⟨rfl, trivial⟩⟩⟩⟩⟩⟩ ?_
      rw [if_neg (fun h9 => absurd (v5.mp h9) (by omega))] at hu
      exact ih _ (by omega)
    · refine m_run 7 (ps' := (46, [some (.inr (.inl 0)), some (.inr (.inl 13)), some (.inr (.inl 14)), some (.inl (u + 1)), some (.inl 1), some (.inl iv), some (.inl (wcdL (witS n tb iv)))], [.inl 0, .inl iv, .inr (.inl 0)], mW (n, T, h, t, x) (.inl (0, 1, .inl g) :: .inl (2, 9, .inr f) :: J), 0, 0)) rfl ?_
      refine m_callVF [.inl iv, .inl 0] [] rfl rfl ⟨_, rfl, rfl⟩ rfl rfl (k_law (l := iv) (wh := 0) ⟨by omega, by omega⟩ ⟨by omega, by omega⟩ hR) ?_
      show m_Sem X 58 (49, [some (.inr (.inl 0)), some (.inr (.inl 13)), some (.inr (.inl 14)), some (.inl (u + 1)), some (.inl 1), some (.inl iv), some (.inl (wcdL (witS n tb iv)))], [.inl (lawS n tb iv 0)], mW (n, T, h, t, x) (.inl (0, 1, .inl g) :: .inl (2, 9, .inr f) :: J), 0, 0) _
      refine m_run 1 (ps' := (51, [some (.inr (.inl 0)), some (.inr (.inl 13)), some (.inr (.inl 14)), some (.inl (u + 1)), some (.inl 1), some (.inl iv), some (.inl (wcdL (witS n tb iv)))], [.inl (wcdL (witS n tb iv)), .inl (lawS n tb iv 0)], mW (n, T, h, t, x) (.inl (0, 1, .inl g) :: .inl (2, 9, .inr f) :: J), 0, 0)) rfl ?_
      refine m_if rfl ⟨by omega, by omega⟩ (fun (zc4 : 0 ≤ (wcdL (witS n tb iv))) => absurd zc4 (by omega)) (fun (zc4 : ¬ 0 ≤ (wcdL (witS n tb iv))) => ?_)
      refine m_run 2 (ps' := (59, [some (.inr (.inl 0)), some (.inr (.inl 13)), some (.inr (.inl 14)), some (.inl (u + 1)), some (.inl 1), some (.inl iv), some (.inl (wcdL (witS n tb iv)))], [.inl 1, .inl (lawS n tb iv 0)], mW (n, T, h, t, x) (.inl (0, 1, .inl g) :: .inl (2, 9, .inr f) :: J), 0, 0)) rfl ?_
      refine m_icmp rfl ⟨by omega, by omega⟩ ⟨by omega, by omega⟩ (fun (zc5 : ¬ (lawS n tb iv 0) = 1) => absurd zc5 (by omega)) (fun (zc5 : ¬ ¬ (lawS n tb iv 0) = 1) => ?_)
      replace zc5 : (lawS n tb iv 0) = 1 := Decidable.not_not.mp zc5
      refine m_run 3 (ps' := (66, [some (.inr (.inl 0)), some (.inr (.inl 13)), some (.inr (.inl 14)), some (.inl (u + 1)), some (.inl 1), some (.inl iv), some (.inl (wcdL (witS n tb iv)))], [.inl 1, .inl iv, .inr (.inl 0)], mW (n, T, h, t, x) (.inl (0, 1, .inl g) :: .inl (2, 9, .inr f) :: J), 0, 0)) rfl ?_
      refine m_callVF [.inl iv, .inl 1] [] rfl rfl ⟨_, rfl, rfl⟩ rfl rfl (k_law (l := iv) (wh := 1) ⟨by omega, by omega⟩ ⟨by omega, by omega⟩ hR) ?_
      show m_Sem X 58 (69, [some (.inr (.inl 0)), some (.inr (.inl 13)), some (.inr (.inl 14)), some (.inl (u + 1)), some (.inl 1), some (.inl iv), some (.inl (wcdL (witS n tb iv)))], [.inl (lawS n tb iv 1)], mW (n, T, h, t, x) (.inl (0, 1, .inl g) :: .inl (2, 9, .inr f) :: J), 0, 0) _
      refine m_run 1 (ps' := (71, [some (.inr (.inl 0)), some (.inr (.inl 13)), some (.inr (.inl 14)), some (.inl (u + 1)), some (.inl 1), some (.inl iv), some (.inl (wcdL (witS n tb iv)))], [.inl (wcdL (witS n tb iv)), .inl (lawS n tb iv 1)], mW (n, T, h, t, x) (.inl (0, 1, .inl g) :: .inl (2, 9, .inr f) :: J), 0, 0)) rfl ?_
      refine m_if rfl ⟨by omega, by omega⟩ (fun (zc6 : 0 ≤ (wcdL (witS n tb iv))) => absurd zc6 (by omega)) (fun (zc6 : ¬ 0 ≤ (wcdL (witS n tb iv))) => ?_)
      refine m_run 2 (ps' := (84, [some (.inr (.inl 0)), some (.inr (.inl 13)), some (.inr (.inl 14)), some (.inl (u + 1)), some (.inl 1), some (.inl iv), some (.inl (wcdL (witS n tb iv)))], [.inl (-1000004), .inl (lawS n tb iv 1)], mW (n, T, h, t, x) (.inl (0, 1, .inl g) :: .inl (2, 9, .inr f) :: J), 0, 0)) rfl ?_
      refine m_icmp rfl ⟨by omega, by omega⟩ ⟨by omega, by omega⟩ (fun (zc7 : ¬ (lawS n tb iv 1) = (-1000004)) => absurd zc7 (by omega)) (fun (zc7 : ¬ ¬ (lawS n tb iv 1) = (-1000004)) => ?_)
      replace zc7 : (lawS n tb iv 1) = (-1000004) := Decidable.not_not.mp zc7
      refine m_run 3 (ps' := (91, [some (.inr (.inl 0)), some (.inr (.inl 13)), some (.inr (.inl 14)), some (.inl (u + 1)), some (.inl 1), some (.inl iv), some (.inl (wcdL (witS n tb iv)))], [.inl 2, .inl iv, .inr (.inl 0)], mW (n, T, h, t, x) (.inl (0, 1, .inl g) :: .inl (2, 9, .inr f) :: J), 0, 0)) rfl ?_
      refine m_callVF [.inl iv, .inl 2] [] rfl rfl ⟨_, rfl, rfl⟩ rfl rfl (k_law (l := iv) (wh := 2) ⟨by omega, by omega⟩ ⟨by omega, by omega⟩ hR) ?_
      show m_Sem X 58 (94, [some (.inr (.inl 0)), some (.inr (.inl 13)), some (.inr (.inl 14)), some (.inl (u + 1)), some (.inl 1), some (.inl iv), some (.inl (wcdL (witS n tb iv)))], [.inl (lawS n tb iv 2)], mW (n, T, h, t, x) (.inl (0, 1, .inl g) :: .inl (2, 9, .inr f) :: J), 0, 0) _
      refine m_run 1 (ps' := (96, [some (.inr (.inl 0)), some (.inr (.inl 13)), some (.inr (.inl 14)), some (.inl (u + 1)), some (.inl 1), some (.inl iv), some (.inl (wcdL (witS n tb iv)))], [.inl (wcdL (witS n tb iv)), .inl (lawS n tb iv 2)], mW (n, T, h, t, x) (.inl (0, 1, .inl g) :: .inl (2, 9, .inr f) :: J), 0, 0)) rfl ?_
      refine m_if rfl ⟨by omega, by omega⟩ (fun (zc8 : 0 ≤ (wcdL (witS n tb iv))) => absurd zc8 (by omega)) (fun (zc8 : ¬ 0 ≤ (wcdL (witS n tb iv))) => ?_)
      refine m_run 2 (ps' := (112, [some (.inr (.inl 0)), some (.inr (.inl 13)), some (.inr (.inl 14)), some (.inl (u + 1)), some (.inl 1), some (.inl iv), some (.inl (wcdL (witS n tb iv)))], [.inl (-1000004), .inl (lawS n tb iv 2)], mW (n, T, h, t, x) (.inl (0, 1, .inl g) :: .inl (2, 9, .inr f) :: J), 0, 0)) rfl ?_
      refine m_icmp rfl ⟨by omega, by omega⟩ ⟨by omega, by omega⟩ (fun (zc9 : ¬ (lawS n tb iv 2) = (-1000004)) => absurd zc9 (by omega)) (fun (zc9 : ¬ ¬ (lawS n tb iv 2) = (-1000004)) => ?_)
      replace zc9 : (lawS n tb iv 2) = (-1000004) := Decidable.not_not.mp zc9
      refine m_run 3 (ps' := (119, [some (.inr (.inl 0)), some (.inr (.inl 13)), some (.inr (.inl 14)), some (.inl (u + 1)), some (.inl 1), some (.inl iv), some (.inl (wcdL (witS n tb iv)))], [.inl 3, .inl iv, .inr (.inl 0)], mW (n, T, h, t, x) (.inl (0, 1, .inl g) :: .inl (2, 9, .inr f) :: J), 0, 0)) rfl ?_
      refine m_callVF [.inl iv, .inl 3] [] rfl rfl ⟨_, rfl, rfl⟩ rfl rfl (k_law (l := iv) (wh := 3) ⟨by omega, by omega⟩ ⟨by omega, by omega⟩ hR) ?_
      show m_Sem X 58 (122, [some (.inr (.inl 0)), some (.inr (.inl 13)), some (.inr (.inl 14)), some (.inl (u + 1)), some (.inl 1), some (.inl iv), some (.inl (wcdL (witS n tb iv)))], [.inl (lawS n tb iv 3)], mW (n, T, h, t, x) (.inl (0, 1, .inl g) :: .inl (2, 9, .inr f) :: J), 0, 0) _
      refine m_run 1 (ps' := (124, [some (.inr (.inl 0)), some (.inr (.inl 13)), some (.inr (.inl 14)), some (.inl (u + 1)), some (.inl 1), some (.inl iv), some (.inl (wcdL (witS n tb iv)))], [.inl (wcdL (witS n tb iv)), .inl (lawS n tb iv 3)], mW (n, T, h, t, x) (.inl (0, 1, .inl g) :: .inl (2, 9, .inr f) :: J), 0, 0)) rfl ?_
      refine m_if rfl ⟨by omega, by omega⟩ (fun (zc10 : 0 ≤ (wcdL (witS n tb iv))) => absurd zc10 (by omega)) (fun (zc10 : ¬ 0 ≤ (wcdL (witS n tb iv))) => ?_)
      refine m_run 2 (ps' := (137, [some (.inr (.inl 0)), some (.inr (.inl 13)), some (.inr (.inl 14)), some (.inl (u + 1)), some (.inl 1), some (.inl iv), some (.inl (wcdL (witS n tb iv)))], [.inl (-1000004), .inl (lawS n tb iv 3)], mW (n, T, h, t, x) (.inl (0, 1, .inl g) :: .inl (2, 9, .inr f) :: J), 0, 0)) rfl ?_
      refine m_icmp rfl ⟨by omega, by omega⟩ ⟨by omega, by omega⟩ (fun (zc11 : ¬ (lawS n tb iv 3) = (-1000004)) => absurd zc11 (by omega)) (fun (zc11 : ¬ ¬ (lawS n tb iv 3) = (-1000004)) => ?_)
      replace zc11 : (lawS n tb iv 3) = (-1000004) := Decidable.not_not.mp zc11
      refine m_run 5 (ps' := (8, [some (.inr (.inl 0)), some (.inr (.inl 13)), some (.inr (.inl 14)), some (.inl (u + 1)), some (.inl 1), some (.inl (iv + 1)), some (.inl (wcdL (witS n tb iv)))], [], mW (n, T, h, t, x) (.inl (0, 1, .inl g) :: .inl (2, 9, .inr f) :: J), 0, 0)) rfl ?_
      refine m_weak [some (.inr (.inl 0)), some (.inr (.inl 13)), some (.inr (.inl 14)), some (.inl (u + 1)), some (.inl 1), some (.inl (iv + 1)), none] ⟨rfl, ⟨rfl, ⟨rfl, ⟨rfl, ⟨rfl, ⟨rfl, trivial⟩⟩⟩⟩⟩⟩ ?_
      rw [if_pos (v5.mpr (by omega))] at hu
      exact ih _ (by omega)
set_option maxHeartbeats 4000000 in
set_option maxRecDepth 100000 in
theorem a_are {X : Nat × Nat × (Nat → Int32)} {n : Int} {T : Int → Int} {h : HS} {t : TS} {x : XS} {g : Int → Int} {f : Nat → Int64} {J : mPW} {tb : Int → Int → Int} (hg : g 0 = n) (hL : repL n f tb) (hR : repC n T tb) : m_Run X 58 [.inr (.inl 0), .inr (.inl 13), .inr (.inl 14)] (mW (n, T, h, t, x) (.inl (0, 1, .inl g) :: .inl (2, 9, .inr f) :: J)) (m_V 1 (mW (n, T, h, t, x) (.inl (0, 1, .inl g) :: .inl (2, 9, .inr f) :: J))) := by
  have hn := hL.1
  have hl := okN_lo hn
  show m_Sem X 58 (0, [some (.inr (.inl 0)), some (.inr (.inl 13)), some (.inr (.inl 14)), none, none, none, none], [], mW (n, T, h, t, x) (.inl (0, 1, .inl g) :: .inl (2, 9, .inr f) :: J), 0, 0) _
  refine m_run 6 (ps' := (8, [some (.inr (.inl 0)), some (.inr (.inl 13)), some (.inr (.inl 14)), some (.inl 0), some (.inl 1), some (.inl 0), none], [], mW (n, T, h, t, x) (.inl (0, 1, .inl g) :: .inl (2, 9, .inr f) :: J), 0, 0)) rfl ?_
  refine m_weak [some (.inr (.inl 0)), some (.inr (.inl 13)), some (.inr (.inl 14)), some (.inl 0), some (.inl 1), some (.inl 0), none] ⟨rfl, ⟨rfl, ⟨rfl, ⟨rfl, ⟨rfl, ⟨rfl, trivial⟩⟩⟩⟩⟩⟩ ?_
  exact a_arL hg hL hR 0 (by omega) (by omega) 0 (by rw [Int.zero_add]; rfl)
def bp (b : Bool) (a : Int) : Int := bif b then ((2 ^ a.toNat : Nat) : Int) else 0
theorem els_sum (p : Int → Bool) : ∀ (k : Nat) (i : Int) (s : Nat), 0 ≤ i → s < 2 ^ i.toNat → elsK p k i s = (s : Int) + sumF (fun a => bp (p a) a) k i ∧ 0 ≤ elsK p k i s ∧ elsK p k i s < ((2 ^ (i.toNat + k) : Nat) : Int)
  | 0, i, s, h0, hs => by
    refine ⟨(Int.add_zero _).symm, Int.natCast_nonneg s, ?_⟩
    rw [Nat.add_zero]
    exact Int.ofNat_lt.mpr hs
  | k + 1, i, s, h0, hs => by
    have e1 : (i + 1).toNat = i.toNat + 1 := by omega
    have hp : (2 : Nat) ^ (i.toNat + 1) = 2 ^ i.toNat * 2 := Nat.pow_succ 2 i.toNat
    have ih := fun s2 hs2 => els_sum p k (i + 1) s2 (by omega) hs2
    rw [e1, show i.toNat + 1 + k = i.toNat + (k + 1) by omega] at ih
    show elsK p k (i + 1) (bif p i then s ||| 2 ^ i.toNat else s) = (s : Int) + (bp (p i) i + sumF (fun a => bp (p a) a) k (i + 1)) ∧ 0 ≤ elsK p k (i + 1) (bif p i then s ||| 2 ^ i.toNat else s) ∧ elsK p k (i + 1) (bif p i then s ||| 2 ^ i.toNat else s) < _
    cases h : p i with
    | true =>
      rw [cond_true, or_add hs]
      have h2 := ih (s + 2 ^ i.toNat) (by omega)
      refine ⟨?_, h2.2⟩
      rw [h2.1, Int.natCast_add]
      show _ = (s : Int) + (((2 ^ i.toNat : Nat) : Int) + _)
      omega
    | false =>
      rw [cond_false]
      have h2 := ih s (by omega)
      refine ⟨?_, h2.2⟩
      rw [h2.1]
      show _ = (s : Int) + (0 + _)
      omega
def elC (n : Int) (tb : Int → Int → Int) (j a b : Int) : Bool := if j = 0 then holdsS n tb 5 a b 0 else if j = 1 then allF (fun c => holdsS n tb 3 b c a) n.toNat 0 else allF (fun c => holdsS n tb 4 a b c) n.toNat 0
def elA (n : Int) (tb : Int → Int → Int) (j a : Int) : Bool := allF (elC n tb j a) n.toNat 0
theorem isIn_elA {n : Int} {tb : Int → Int → Int} {j a : Int} (h1 : 0 ≤ j) (h2 : j < 3) : isInS n tb j a = elA n tb j a := by
  unfold isInS elA
  refine all_congr _ _ (fun b _ _ => ?_)
  unfold isInR elC
  rcases (show j = 0 ∨ j = 1 ∨ j = 2 by omega) with rfl | rfl | rfl
  · rw [if_pos rfl, if_pos rfl]
    show (fitsS n tb 0 a b 0 && true) = _
    rw [Bool.and_true]
    rfl
  · rfl
  · rfl
theorem elm_v {n : Int} {tb : Int → Int → Int} {j : Int} (hn : okN n) (h1 : 0 ≤ j) (h2 : j < 3) : elmS n tb j = sumF (fun a => bp (elA n tb j a) a) n.toNat 0 ∧ 0 ≤ elmS n tb j ∧ elmS n tb j < 512 := by
  have hl := okN_lo hn
  have e : elmS n tb j = elsK (isInS n tb j) n.toNat 0 0 := by unfold elmS; rw [if_neg (by omega), if_neg (by omega)]
  have h := els_sum (isInS n tb j) n.toNat 0 0 (by omega) (by decide)
  rw [e]
  refine ⟨?_, h.2.1, Int.lt_of_lt_of_le h.2.2 ?_⟩
  · rw [h.1]
    show (0 : Int) + _ = _
    rw [Int.zero_add]
    exact sum_congr _ _ (fun a _ _ => by rw [isIn_elA h1 h2])
  · have h3 : (2 : Nat) ^ ((0 : Int).toNat + n.toNat) ≤ 2 ^ 9 := Nat.pow_le_pow_right (by decide) (by omega)
    have h4 : (2 : Nat) ^ 9 = 512 := by decide
    omega
theorem elm_i {n : Int} {tb : Int → Int → Int} : elmS n tb 3 = -1000001 := by unfold elmS; simp
theorem all_s {p : Int → Bool} {n i : Int} (h : i < n) : allF p (n - i).toNat i = (p i && allF p (n - (i + 1)).toNat (i + 1)) := by rw [nat_step h]; rfl
set_option maxHeartbeats 4000000 in
set_option maxRecDepth 100000 in
theorem a_elC {X : Nat × Nat × (Nat → Int32)} {n : Int} {T : Int → Int} {h : HS} {t : TS} {x : XS} {g : Int → Int} {f : Nat → Int64} {J : mPW} {tb : Int → Int → Int} {p q r a b : Int} {o1 v2 v3 : Bool} {Q : Option mPV → mPW → Prop} (hg : g 0 = n) (hL : repL n f tb) (ha : 0 ≤ a) (ha2 : a < n) (hb : 0 ≤ b) (hb2 : b < n) (K : m_Sem X 59 (34, [some (.inr (.inl 0)), some (.inr (.inl 13)), some (.inr (.inl 14)), some (.inl n), some (.inl p), some (.inl q), some (.inl r), some (.inl a), some (.inl (bI o1)), some (.inl (bI v2)), some (.inl (bI v3)), some (.inl (b + 1)), none], [], mW (n, T, h, t, x) (.inl (0, 1, .inl g) :: .inl (2, 9, .inr f) :: J), 0, 0) Q) : ∀ c : Int, 0 ≤ c → c ≤ n → ∀ (o2 : Bool) (o3 : Bool) (hu2 : v2 = (o2 && allF (fun c => holdsS n tb 3 b c a) (n - c).toNat c)) (hu3 : v3 = (o3 && allF (fun c => holdsS n tb 4 a b c) (n - c).toNat c)), m_Sem X 59 (69, [some (.inr (.inl 0)), some (.inr (.inl 13)), some (.inr (.inl 14)), some (.inl n), some (.inl p), some (.inl q), some (.inl r), some (.inl a), some (.inl (bI o1)), some (.inl (bI o2)), some (.inl (bI o3)), some (.inl b), some (.inl c)], [], mW (n, T, h, t, x) (.inl (0, 1, .inl g) :: .inl (2, 9, .inr f) :: J), 0, 0) (Q) := by
  have hn := hL.1
  have hl := okN_lo hn
  refine m_down 0 n ?_ ?_
  · intro o2 o3 hu2 hu3
    rw [all_end, Bool.and_true] at hu2 hu3
    replace hu2 := hu2.symm
    replace hu3 := hu3.symm
    subst hu2
    subst hu3
    show m_Sem X 59 (69, [some (.inr (.inl 0)), some (.inr (.inl 13)), some (.inr (.inl 14)), some (.inl n), some (.inl p), some (.inl q), some (.inl r), some (.inl a), some (.inl (bI o1)), some (.inl (bI o2)), some (.inl (bI o3)), some (.inl b), some (.inl n)], [], mW (n, T, h, t, x) (.inl (0, 1, .inl g) :: .inl (2, 9, .inr f) :: J), 0, 0) _
    refine m_run 2 (ps' := (72, [some (.inr (.inl 0)), some (.inr (.inl 13)), some (.inr (.inl 14)), some (.inl n), some (.inl p), some (.inl q), some (.inl r), some (.inl a), some (.inl (bI o1)), some (.inl (bI o2)), some (.inl (bI o3)), some (.inl b), some (.inl n)], [.inl n, .inl n], mW (n, T, h, t, x) (.inl (0, 1, .inl g) :: .inl (2, 9, .inr f) :: J), 0, 0)) rfl ?_
    refine m_icmp rfl ⟨by omega, by omega⟩ ⟨by omega, by omega⟩ (fun (zc1 : n ≤ n) => ?_) (fun (zc1 : ¬ n ≤ n) => absurd zc1 (not_not_intro (by omega)))
    refine m_run 2 (ps' := (34, [some (.inr (.inl 0)), some (.inr (.inl 13)), some (.inr (.inl 14)), some (.inl n), some (.inl p), some (.inl q), some (.inl r), some (.inl a), some (.inl (bI o1)), some (.inl (bI o2)), some (.inl (bI o3)), some (.inl (b + 1)), some (.inl n)], [], mW (n, T, h, t, x) (.inl (0, 1, .inl g) :: .inl (2, 9, .inr f) :: J), 0, 0)) rfl ?_
    refine m_weak [some (.inr (.inl 0)), some (.inr (.inl 13)), some (.inr (.inl 14)), some (.inl n), some (.inl p), some (.inl q), some (.inl r), some (.inl a), some (.inl (bI o1)), some (.inl (bI o2)), some (.inl (bI o3)), some (.inl (b + 1)), none] ⟨rfl, ⟨rfl, ⟨rfl, ⟨rfl, ⟨rfl, ⟨rfl, ⟨rfl, ⟨rfl, ⟨rfl, ⟨rfl, ⟨rfl, ⟨rfl, trivial⟩⟩⟩⟩⟩⟩⟩⟩⟩⟩⟩⟩ ?_
    exact K
  · intro c hi1 hi2 ih o2 o3 hu2 hu3
    rw [all_s hi2] at hu2 hu3
    refine m_run 2 (ps' := (72, [some (.inr (.inl 0)), some (.inr (.inl 13)), some (.inr (.inl 14)), some (.inl n), some (.inl p), some (.inl q), some (.inl r), some (.inl a), some (.inl (bI o1)), some (.inl (bI o2)), some (.inl (bI o3)), some (.inl b), some (.inl c)], [.inl n, .inl c], mW (n, T, h, t, x) (.inl (0, 1, .inl g) :: .inl (2, 9, .inr f) :: J), 0, 0)) rfl ?_
    refine m_icmp rfl ⟨by omega, by omega⟩ ⟨by omega, by omega⟩ (fun (zc1 : n ≤ c) => absurd zc1 (by omega)) (fun (zc1 : ¬ n ≤ c) => ?_)
    refine m_run 1 (ps' := (77, [some (.inr (.inl 0)), some (.inr (.inl 13)), some (.inr (.inl 14)), some (.inl n), some (.inl p), some (.inl q), some (.inl r), some (.inl a), some (.inl (bI o1)), some (.inl (bI o2)), some (.inl (bI o3)), some (.inl b), some (.inl c)], [.inl (bI o2)], mW (n, T, h, t, x) (.inl (0, 1, .inl g) :: .inl (2, 9, .inr f) :: J), 0, 0)) rfl ?_
    refine m_if rfl (bI_R _) (fun (zc2 : (bI o2) = 0) => ?_) (fun (zc2 : ¬ (bI o2) = 0) => ?_)
    · replace zc2 : o2 = false := bI_e0.mp zc2
      refine m_run 3 (ps' := (104, [some (.inr (.inl 0)), some (.inr (.inl 13)), some (.inr (.inl 14)), some (.inl n), some (.inl p), some (.inl q), some (.inl r), some (.inl a), some (.inl (bI o1)), some (.inl 0), some (.inl (bI o3)), some (.inl b), some (.inl c)], [.inl (bI o3)], mW (n, T, h, t, x) (.inl (0, 1, .inl g) :: .inl (2, 9, .inr f) :: J), 0, 0)) rfl ?_
      refine m_if rfl (bI_R _) (fun (zc3 : (bI o3) = 0) => ?_) (fun (zc3 : ¬ (bI o3) = 0) => ?_)
      · replace zc3 : o3 = false := bI_e0.mp zc3
        refine m_run 4 (ps' := (69, [some (.inr (.inl 0)), some (.inr (.inl 13)), some (.inr (.inl 14)), some (.inl n), some (.inl p), some (.inl q), some (.inl r), some (.inl a), some (.inl (bI o1)), some (.inl 0), some (.inl 0), some (.inl b), some (.inl (c + 1))], [], mW (n, T, h, t, x) (.inl (0, 1, .inl g) :: .inl (2, 9, .inr f) :: J), 0, 0)) rfl ?_
        refine m_weak [some (.inr (.inl 0)), some (.inr (.inl 13)), some (.inr (.inl 14)), some (.inl n), some (.inl p), some (.inl q), some (.inl r), some (.inl a), some (.inl (bI o1)), some (.inl 0), some (.inl 0), some (.inl b), some (.inl (c + 1))] ⟨rfl, ⟨rfl, ⟨rfl, ⟨rfl, ⟨rfl, ⟨rfl, ⟨rfl, ⟨rfl, ⟨rfl, ⟨rfl, ⟨rfl, ⟨rfl, ⟨rfl, trivial⟩⟩⟩⟩⟩⟩⟩⟩⟩⟩⟩⟩⟩ ?_
        exact ih false false (by simp [*]) (by simp [*])
      · replace zc3 : o3 = true := bI_n0.mp zc3
        refine m_run 6 (ps' := (116, [some (.inr (.inl 0)), some (.inr (.inl 13)), some (.inr (.inl 14)), some (.inl n), some (.inl p), some (.inl q), some (.inl r), some (.inl a), some (.inl (bI o1)), some (.inl 0), some (.inl (bI o3)), some (.inl b), some (.inl c)], [.inl c, .inl b, .inl a, .inl 4, .inr (.inl 14), .inr (.inl 13)], mW (n, T, h, t, x) (.inl (0, 1, .inl g) :: .inl (2, 9, .inr f) :: J), 0, 0)) rfl ?_
        refine m_callSF [.inr (.inl 13), .inr (.inl 14), .inl 4, .inl a, .inl b, .inl c] [] rfl rfl rfl (a_hold (law := 4) (a := a) (b := b) (c := c) hg hL (by omega) (by omega) (by omega) (by omega) (by omega) (by omega) (by omega) (by omega)) ?_
        show m_Sem X 59 (119, [some (.inr (.inl 0)), some (.inr (.inl 13)), some (.inr (.inl 14)), some (.inl n), some (.inl p), some (.inl q), some (.inl r), some (.inl a), some (.inl (bI o1)), some (.inl 0), some (.inl (bI o3)), some (.inl b), some (.inl c)], [.inl (bI (holdsS n tb 4 a b c))], mW (n, T, h, t, x) (.inl (0, 1, .inl g) :: .inl (2, 9, .inr f) :: J), 0, 0) _
        refine m_if rfl (bI_R _) (fun (zc4 : (bI (holdsS n tb 4 a b c)) = 0) => ?_) (fun (zc4 : ¬ (bI (holdsS n tb 4 a b c)) = 0) => ?_)
        · replace zc4 : (holdsS n tb 4 a b c) = false := bI_e0.mp zc4
          refine m_run 4 (ps' := (69, [some (.inr (.inl 0)), some (.inr (.inl 13)), some (.inr (.inl 14)), some (.inl n), some (.inl p), some (.inl q), some (.inl r), some (.inl a), some (.inl (bI o1)), some (.inl 0), some (.inl 0), some (.inl b), some (.inl (c + 1))], [], mW (n, T, h, t, x) (.inl (0, 1, .inl g) :: .inl (2, 9, .inr f) :: J), 0, 0)) rfl ?_
          refine m_weak [some (.inr (.inl 0)), some (.inr (.inl 13)), some (.inr (.inl 14)), some (.inl n), some (.inl p), some (.inl q), some (.inl r), some (.inl a), some (.inl (bI o1)), some (.inl 0), some (.inl 0), some (.inl b), some (.inl (c + 1))] ⟨rfl, ⟨rfl, ⟨rfl, ⟨rfl, ⟨rfl, ⟨rfl, ⟨rfl, ⟨rfl, ⟨rfl, ⟨rfl, ⟨rfl, ⟨rfl, ⟨rfl, trivial⟩⟩⟩⟩⟩⟩⟩⟩⟩⟩⟩⟩⟩ ?_
          exact ih false false (by simp [*]) (by simp [*])
        · replace zc4 : (holdsS n tb 4 a b c) = true := bI_n0.mp zc4
          refine m_run 5 (ps' := (69, [some (.inr (.inl 0)), some (.inr (.inl 13)), some (.inr (.inl 14)), some (.inl n), some (.inl p), some (.inl q), some (.inl r), some (.inl a), some (.inl (bI o1)), some (.inl 0), some (.inl 1), some (.inl b), some (.inl (c + 1))], [], mW (n, T, h, t, x) (.inl (0, 1, .inl g) :: .inl (2, 9, .inr f) :: J), 0, 0)) rfl ?_
          refine m_weak [some (.inr (.inl 0)), some (.inr (.inl 13)), some (.inr (.inl 14)), some (.inl n), some (.inl p), some (.inl q), some (.inl r), some (.inl a), some (.inl (bI o1)), some (.inl 0), some (.inl 1), some (.inl b), some (.inl (c + 1))] ⟨rfl, ⟨rfl, ⟨rfl, ⟨rfl, ⟨rfl, ⟨rfl, ⟨rfl, ⟨rfl, ⟨rfl, ⟨rfl, ⟨rfl, ⟨rfl, ⟨rfl, trivial⟩⟩⟩⟩⟩⟩⟩⟩⟩⟩⟩⟩⟩ ?_
          exact ih false true (by simp [*]) (by simp [*])
    · replace zc2 : o2 = true := bI_n0.mp zc2
      refine m_run 6 (ps' := (89, [some (.inr (.inl 0)), some (.inr (.inl 13)), some (.inr (.inl 14)), some (.inl n), some (.inl p), some (.inl q), some (.inl r), some (.inl a), some (.inl (bI o1)), some (.inl (bI o2)), some (.inl (bI o3)), some (.inl b), some (.inl c)], [.inl a, .inl c, .inl b, .inl 3, .inr (.inl 14), .inr (.inl 13)], mW (n, T, h, t, x) (.inl (0, 1, .inl g) :: .inl (2, 9, .inr f) :: J), 0, 0)) rfl ?_
      refine m_callSF [.inr (.inl 13), .inr (.inl 14), .inl 3, .inl b, .inl c, .inl a] [] rfl rfl rfl (a_hold (law := 3) (a := b) (b := c) (c := a) hg hL (by omega) (by omega) (by omega) (by omega) (by omega) (by omega) (by omega) (by omega)) ?_
      show m_Sem X 59 (92, [some (.inr (.inl 0)), some (.inr (.inl 13)), some (.inr (.inl 14)), some (.inl n), some (.inl p), some (.inl q), some (.inl r), some (.inl a), some (.inl (bI o1)), some (.inl (bI o2)), some (.inl (bI o3)), some (.inl b), some (.inl c)], [.inl (bI (holdsS n tb 3 b c a))], mW (n, T, h, t, x) (.inl (0, 1, .inl g) :: .inl (2, 9, .inr f) :: J), 0, 0) _
      refine m_if rfl (bI_R _) (fun (zc3 : (bI (holdsS n tb 3 b c a)) = 0) => ?_) (fun (zc3 : ¬ (bI (holdsS n tb 3 b c a)) = 0) => ?_)
      · replace zc3 : (holdsS n tb 3 b c a) = false := bI_e0.mp zc3
        refine m_run 3 (ps' := (104, [some (.inr (.inl 0)), some (.inr (.inl 13)), some (.inr (.inl 14)), some (.inl n), some (.inl p), some (.inl q), some (.inl r), some (.inl a), some (.inl (bI o1)), some (.inl 0), some (.inl (bI o3)), some (.inl b), some (.inl c)], [.inl (bI o3)], mW (n, T, h, t, x) (.inl (0, 1, .inl g) :: .inl (2, 9, .inr f) :: J), 0, 0)) rfl ?_
        refine m_if rfl (bI_R _) (fun (zc4 : (bI o3) = 0) => ?_) (fun (zc4 : ¬ (bI o3) = 0) => ?_)
        · replace zc4 : o3 = false := bI_e0.mp zc4
          refine m_run 4 (ps' := (69, [some (.inr (.inl 0)), some (.inr (.inl 13)), some (.inr (.inl 14)), some (.inl n), some (.inl p), some (.inl q), some (.inl r), some (.inl a), some (.inl (bI o1)), some (.inl 0), some (.inl 0), some (.inl b), some (.inl (c + 1))], [], mW (n, T, h, t, x) (.inl (0, 1, .inl g) :: .inl (2, 9, .inr f) :: J), 0, 0)) rfl ?_
          refine m_weak [some (.inr (.inl 0)), some (.inr (.inl 13)), some (.inr (.inl 14)), some (.inl n), some (.inl p), some (.inl q), some (.inl r), some (.inl a), some (.inl (bI o1)), some (.inl 0), some (.inl 0), some (.inl b), some (.inl (c + 1))] ⟨rfl, ⟨rfl, ⟨rfl, ⟨rfl, ⟨rfl, ⟨rfl, ⟨rfl, ⟨rfl, ⟨rfl, ⟨rfl, ⟨rfl, ⟨rfl, ⟨rfl, trivial⟩⟩⟩⟩⟩⟩⟩⟩⟩⟩⟩⟩⟩ ?_
          exact ih false false (by simp [*]) (by simp [*])
        · replace zc4 : o3 = true := bI_n0.mp zc4
          refine m_run 6 (ps' := (116, [some (.inr (.inl 0)), some (.inr (.inl 13)), some (.inr (.inl 14)), some (.inl n), some (.inl p), some (.inl q), some (.inl r), some (.inl a), some (.inl (bI o1)), some (.inl 0), some (.inl (bI o3)), some (.inl b), some (.inl c)], [.inl c, .inl b, .inl a, .inl 4, .inr (.inl 14), .inr (.inl 13)], mW (n, T, h, t, x) (.inl (0, 1, .inl g) :: .inl (2, 9, .inr f) :: J), 0, 0)) rfl ?_
          refine m_callSF [.inr (.inl 13), .inr (.inl 14), .inl 4, .inl a, .inl b, .inl c] [] rfl rfl rfl (a_hold (law := 4) (a := a) (b := b) (c := c) hg hL (by omega) (by omega) (by omega) (by omega) (by omega) (by omega) (by omega) (by omega)) ?_
          show m_Sem X 59 (119, [some (.inr (.inl 0)), some (.inr (.inl 13)), some (.inr (.inl 14)), some (.inl n), some (.inl p), some (.inl q), some (.inl r), some (.inl a), some (.inl (bI o1)), some (.inl 0), some (.inl (bI o3)), some (.inl b), some (.inl c)], [.inl (bI (holdsS n tb 4 a b c))], mW (n, T, h, t, x) (.inl (0, 1, .inl g) :: .inl (2, 9, .inr f) :: J), 0, 0) _
          refine m_if rfl (bI_R _) (fun (zc5 : (bI (holdsS n tb 4 a b c)) = 0) => ?_) (fun (zc5 : ¬ (bI (holdsS n tb 4 a b c)) = 0) => ?_)
          · replace zc5 : (holdsS n tb 4 a b c) = false := bI_e0.mp zc5
            refine m_run 4 (ps' := (69, [some (.inr (.inl 0)), some (.inr (.inl 13)), some (.inr (.inl 14)), some (.inl n), some (.inl p), some (.inl q), some (.inl r), some (.inl a), some (.inl (bI o1)), some (.inl 0), some (.inl 0), some (.inl b), some (.inl (c + 1))], [], mW (n, T, h, t, x) (.inl (0, 1, .inl g) :: .inl (2, 9, .inr f) :: J), 0, 0)) rfl ?_
            refine m_weak [some (.inr (.inl 0)), some (.inr (.inl 13)), some (.inr (.inl 14)), some (.inl n), some (.inl p), some (.inl q), some (.inl r), some (.inl a), some (.inl (bI o1)), some (.inl 0), some (.inl 0), some (.inl b), some (.inl (c + 1))] ⟨rfl, ⟨rfl, ⟨rfl, ⟨rfl, ⟨rfl, ⟨rfl, ⟨rfl, ⟨rfl, ⟨rfl, ⟨rfl, ⟨rfl, ⟨rfl, ⟨rfl, trivial⟩⟩⟩⟩⟩⟩⟩⟩⟩⟩⟩⟩⟩ ?_
            exact ih false false (by simp [*]) (by simp [*])
          · replace zc5 : (holdsS n tb 4 a b c) = true := bI_n0.mp zc5
            refine m_run 5 (ps' := (69, [some (.inr (.inl 0)), some (.inr (.inl 13)), some (.inr (.inl 14)), some (.inl n), some (.inl p), some (.inl q), some (.inl r), some (.inl a), some (.inl (bI o1)), some (.inl 0), some (.inl 1), some (.inl b), some (.inl (c + 1))], [], mW (n, T, h, t, x) (.inl (0, 1, .inl g) :: .inl (2, 9, .inr f) :: J), 0, 0)) rfl ?_
            refine m_weak [some (.inr (.inl 0)), some (.inr (.inl 13)), some (.inr (.inl 14)), some (.inl n), some (.inl p), some (.inl q), some (.inl r), some (.inl a), some (.inl (bI o1)), some (.inl 0), some (.inl 1), some (.inl b), some (.inl (c + 1))] ⟨rfl, ⟨rfl, ⟨rfl, ⟨rfl, ⟨rfl, ⟨rfl, ⟨rfl, ⟨rfl, ⟨rfl, ⟨rfl, ⟨rfl, ⟨rfl, ⟨rfl, trivial⟩⟩⟩⟩⟩⟩⟩⟩⟩⟩⟩⟩⟩ ?_
            exact ih false true (by simp [*]) (by simp [*])
      · replace zc3 : (holdsS n tb 3 b c a) = true := bI_n0.mp zc3
        refine m_run 4 (ps' := (104, [some (.inr (.inl 0)), some (.inr (.inl 13)), some (.inr (.inl 14)), some (.inl n), some (.inl p), some (.inl q), some (.inl r), some (.inl a), some (.inl (bI o1)), some (.inl 1), some (.inl (bI o3)), some (.inl b), some (.inl c)], [.inl (bI o3)], mW (n, T, h, t, x) (.inl (0, 1, .inl g) :: .inl (2, 9, .inr f) :: J), 0, 0)) rfl ?_
        refine m_if rfl (bI_R _) (fun (zc4 : (bI o3) = 0) => ?_) (fun (zc4 : ¬ (bI o3) = 0) => ?_)
        · replace zc4 : o3 = false := bI_e0.mp zc4
          refine m_run 4 (ps' := (69, [some (.inr (.inl 0)), some (.inr (.inl 13)), some (.inr (.inl 14)), some (.inl n), some (.inl p), some (.inl q), some (.inl r), some (.inl a), some (.inl (bI o1)), some (.inl 1), some (.inl 0), some (.inl b), some (.inl (c + 1))], [], mW (n, T, h, t, x) (.inl (0, 1, .inl g) :: .inl (2, 9, .inr f) :: J), 0, 0)) rfl ?_
          refine m_weak [some (.inr (.inl 0)), some (.inr (.inl 13)), some (.inr (.inl 14)), some (.inl n), some (.inl p), some (.inl q), some (.inl r), some (.inl a), some (.inl (bI o1)), some (.inl 1), some (.inl 0), some (.inl b), some (.inl (c + 1))] ⟨rfl, ⟨rfl, ⟨rfl, ⟨rfl, ⟨rfl, ⟨rfl, ⟨rfl, ⟨rfl, ⟨rfl, ⟨rfl, ⟨rfl, ⟨rfl, ⟨rfl, trivial⟩⟩⟩⟩⟩⟩⟩⟩⟩⟩⟩⟩⟩ ?_
          exact ih true false (by simp [*]) (by simp [*])
        · replace zc4 : o3 = true := bI_n0.mp zc4
          refine m_run 6 (ps' := (116, [some (.inr (.inl 0)), some (.inr (.inl 13)), some (.inr (.inl 14)), some (.inl n), some (.inl p), some (.inl q), some (.inl r), some (.inl a), some (.inl (bI o1)), some (.inl 1), some (.inl (bI o3)), some (.inl b), some (.inl c)], [.inl c, .inl b, .inl a, .inl 4, .inr (.inl 14), .inr (.inl 13)], mW (n, T, h, t, x) (.inl (0, 1, .inl g) :: .inl (2, 9, .inr f) :: J), 0, 0)) rfl ?_
          refine m_callSF [.inr (.inl 13), .inr (.inl 14), .inl 4, .inl a, .inl b, .inl c] [] rfl rfl rfl (a_hold (law := 4) (a := a) (b := b) (c := c) hg hL (by omega) (by omega) (by omega) (by omega) (by omega) (by omega) (by omega) (by omega)) ?_
          show m_Sem X 59 (119, [some (.inr (.inl 0)), some (.inr (.inl 13)), some (.inr (.inl 14)), some (.inl n), some (.inl p), some (.inl q), some (.inl r), some (.inl a), some (.inl (bI o1)), some (.inl 1), some (.inl (bI o3)), some (.inl b), some (.inl c)], [.inl (bI (holdsS n tb 4 a b c))], mW (n, T, h, t, x) (.inl (0, 1, .inl g) :: .inl (2, 9, .inr f) :: J), 0, 0) _
          refine m_if rfl (bI_R _) (fun (zc5 : (bI (holdsS n tb 4 a b c)) = 0) => ?_) (fun (zc5 : ¬ (bI (holdsS n tb 4 a b c)) = 0) => ?_)
          · replace zc5 : (holdsS n tb 4 a b c) = false := bI_e0.mp zc5
            refine m_run 4 (ps' := (69, [some (.inr (.inl 0)), some (.inr (.inl 13)), some (.inr (.inl 14)), some (.inl n), some (.inl p), some (.inl q), some (.inl r), some (.inl a), some (.inl (bI o1)), some (.inl 1), some (.inl 0), some (.inl b), some (.inl (c + 1))], [], mW (n, T, h, t, x) (.inl (0, 1, .inl g) :: .inl (2, 9, .inr f) :: J), 0, 0)) rfl ?_
            refine m_weak [some (.inr (.inl 0)), some (.inr (.inl 13)), some (.inr (.inl 14)), some (.inl n), some (.inl p), some (.inl q), some (.inl r), some (.inl a), some (.inl (bI o1)), some (.inl 1), some (.inl 0), some (.inl b), some (.inl (c + 1))] ⟨rfl, ⟨rfl, ⟨rfl, ⟨rfl, ⟨rfl, ⟨rfl, ⟨rfl, ⟨rfl, ⟨rfl, ⟨rfl, ⟨rfl, ⟨rfl, ⟨rfl, trivial⟩⟩⟩⟩⟩⟩⟩⟩⟩⟩⟩⟩⟩ ?_
            exact ih true false (by simp [*]) (by simp [*])
          · replace zc5 : (holdsS n tb 4 a b c) = true := bI_n0.mp zc5
            refine m_run 5 (ps' := (69, [some (.inr (.inl 0)), some (.inr (.inl 13)), some (.inr (.inl 14)), some (.inl n), some (.inl p), some (.inl q), some (.inl r), some (.inl a), some (.inl (bI o1)), some (.inl 1), some (.inl 1), some (.inl b), some (.inl (c + 1))], [], mW (n, T, h, t, x) (.inl (0, 1, .inl g) :: .inl (2, 9, .inr f) :: J), 0, 0)) rfl ?_
            refine m_weak [some (.inr (.inl 0)), some (.inr (.inl 13)), some (.inr (.inl 14)), some (.inl n), some (.inl p), some (.inl q), some (.inl r), some (.inl a), some (.inl (bI o1)), some (.inl 1), some (.inl 1), some (.inl b), some (.inl (c + 1))] ⟨rfl, ⟨rfl, ⟨rfl, ⟨rfl, ⟨rfl, ⟨rfl, ⟨rfl, ⟨rfl, ⟨rfl, ⟨rfl, ⟨rfl, ⟨rfl, ⟨rfl, trivial⟩⟩⟩⟩⟩⟩⟩⟩⟩⟩⟩⟩⟩ ?_
            exact ih true true (by simp [*]) (by simp [*])
set_option maxHeartbeats 4000000 in
set_option maxRecDepth 100000 in
theorem a_elB {X : Nat × Nat × (Nat → Int32)} {n : Int} {T : Int → Int} {h : HS} {t : TS} {x : XS} {g : Int → Int} {f : Nat → Int64} {J : mPW} {tb : Int → Int → Int} {p q r a : Int} {v1 v2 v3 : Bool} {Q : Option mPV → mPW → Prop} (hg : g 0 = n) (hL : repL n f tb) (ha : 0 ≤ a) (ha2 : a < n) (K : m_Sem X 59 (16, [some (.inr (.inl 0)), some (.inr (.inl 13)), some (.inr (.inl 14)), some (.inl n), some (.inl (p + bp v1 a)), some (.inl (q + bp v2 a)), some (.inl (r + bp v3 a)), some (.inl (a + 1)), none, none, none, none, none], [], mW (n, T, h, t, x) (.inl (0, 1, .inl g) :: .inl (2, 9, .inr f) :: J), 0, 0) Q) : ∀ b : Int, 0 ≤ b → b ≤ n → ∀ (o1 : Bool) (o2 : Bool) (o3 : Bool) (hu1 : v1 = (o1 && allF (elC n tb 0 a) (n - b).toNat b)) (hu2 : v2 = (o2 && allF (elC n tb 1 a) (n - b).toNat b)) (hu3 : v3 = (o3 && allF (elC n tb 2 a) (n - b).toNat b)), m_Sem X 59 (34, [some (.inr (.inl 0)), some (.inr (.inl 13)), some (.inr (.inl 14)), some (.inl n), some (.inl p), some (.inl q), some (.inl r), some (.inl a), some (.inl (bI o1)), some (.inl (bI o2)), some (.inl (bI o3)), some (.inl b), none], [], mW (n, T, h, t, x) (.inl (0, 1, .inl g) :: .inl (2, 9, .inr f) :: J), 0, 0) (Q) := by
  have hn := hL.1
  have hl := okN_lo hn
  refine m_down 0 n ?_ ?_
  · intro o1 o2 o3 hu1 hu2 hu3
    rw [all_end, Bool.and_true] at hu1 hu2 hu3
    replace hu1 := hu1.symm
    replace hu2 := hu2.symm
    replace hu3 := hu3.symm
    subst hu1
    subst hu2
    subst hu3
    show m_Sem X 59 (34, [some (.inr (.inl 0)), some (.inr (.inl 13)), some (.inr (.inl 14)), some (.inl n), some (.inl p), some (.inl q), some (.inl r), some (.inl a), some (.inl (bI o1)), some (.inl (bI o2)), some (.inl (bI o3)), some (.inl n), none], [], mW (n, T, h, t, x) (.inl (0, 1, .inl g) :: .inl (2, 9, .inr f) :: J), 0, 0) _
    refine m_run 2 (ps' := (37, [some (.inr (.inl 0)), some (.inr (.inl 13)), some (.inr (.inl 14)), some (.inl n), some (.inl p), some (.inl q), some (.inl r), some (.inl a), some (.inl (bI o1)), some (.inl (bI o2)), some (.inl (bI o3)), some (.inl n), none], [.inl n, .inl n], mW (n, T, h, t, x) (.inl (0, 1, .inl g) :: .inl (2, 9, .inr f) :: J), 0, 0)) rfl ?_
    refine m_icmp rfl ⟨by omega, by omega⟩ ⟨by omega, by omega⟩ (fun (zc1 : n ≤ n) => ?_) (fun (zc1 : ¬ n ≤ n) => absurd zc1 (not_not_intro (by omega)))
    refine m_run 2 (ps' := (145, [some (.inr (.inl 0)), some (.inr (.inl 13)), some (.inr (.inl 14)), some (.inl n), some (.inl p), some (.inl q), some (.inl r), some (.inl a), some (.inl (bI o1)), some (.inl (bI o2)), some (.inl (bI o3)), some (.inl n), none], [.inl (bI o1), .inl p], mW (n, T, h, t, x) (.inl (0, 1, .inl g) :: .inl (2, 9, .inr f) :: J), 0, 0)) rfl ?_
    refine m_if rfl (bI_R _) (fun (zc2 : (bI o1) = 0) => ?_) (fun (zc2 : ¬ (bI o1) = 0) => ?_)
    · replace zc2 : o1 = false := bI_e0.mp zc2
      refine m_run 5 (ps' := (163, [some (.inr (.inl 0)), some (.inr (.inl 13)), some (.inr (.inl 14)), some (.inl n), some (.inl (p + 0)), some (.inl q), some (.inl r), some (.inl a), some (.inl (bI o1)), some (.inl (bI o2)), some (.inl (bI o3)), some (.inl n), none], [.inl (bI o2), .inl q], mW (n, T, h, t, x) (.inl (0, 1, .inl g) :: .inl (2, 9, .inr f) :: J), 0, 0)) rfl ?_
      refine m_if rfl (bI_R _) (fun (zc3 : (bI o2) = 0) => ?_) (fun (zc3 : ¬ (bI o2) = 0) => ?_)
      · replace zc3 : o2 = false := bI_e0.mp zc3
        refine m_run 5 (ps' := (181, [some (.inr (.inl 0)), some (.inr (.inl 13)), some (.inr (.inl 14)), some (.inl n), some (.inl (p + 0)), some (.inl (q + 0)), some (.inl r), some (.inl a), some (.inl (bI o1)), some (.inl (bI o2)), some (.inl (bI o3)), some (.inl n), none], [.inl (bI o3), .inl r], mW (n, T, h, t, x) (.inl (0, 1, .inl g) :: .inl (2, 9, .inr f) :: J), 0, 0)) rfl ?_
        refine m_if rfl (bI_R _) (fun (zc4 : (bI o3) = 0) => ?_) (fun (zc4 : ¬ (bI o3) = 0) => ?_)
        · replace zc4 : o3 = false := bI_e0.mp zc4
          refine m_run 5 (ps' := (16, [some (.inr (.inl 0)), some (.inr (.inl 13)), some (.inr (.inl 14)), some (.inl n), some (.inl (p + 0)), some (.inl (q + 0)), some (.inl (r + 0)), some (.inl (a + 1)), some (.inl (bI o1)), some (.inl (bI o2)), some (.inl (bI o3)), some (.inl n), none], [], mW (n, T, h, t, x) (.inl (0, 1, .inl g) :: .inl (2, 9, .inr f) :: J), 0, 0)) rfl ?_
          refine m_weak [some (.inr (.inl 0)), some (.inr (.inl 13)), some (.inr (.inl 14)), some (.inl n), some (.inl (p + 0)), some (.inl (q + 0)), some (.inl (r + 0)), some (.inl (a + 1)), none, none, none, none, none] ⟨rfl, ⟨rfl, ⟨rfl, ⟨rfl, ⟨rfl, ⟨rfl, ⟨rfl, ⟨rfl, trivial⟩⟩⟩⟩⟩⟩⟩⟩ ?_
          rw [zc2, zc3, zc4] at K
          exact K
        · replace zc4 : o3 = true := bI_n0.mp zc4
          refine m_run 8 (ps' := (16, [some (.inr (.inl 0)), some (.inr (.inl 13)), some (.inr (.inl 14)), some (.inl n), some (.inl (p + 0)), some (.inl (q + 0)), some (.inl (r + (Int32.ofInt 1 <<< (Int32.ofInt a &&& 31)).toInt)), some (.inl (a + 1)), some (.inl (bI o1)), some (.inl (bI o2)), some (.inl (bI o3)), some (.inl n), none], [], mW (n, T, h, t, x) (.inl (0, 1, .inl g) :: .inl (2, 9, .inr f) :: J), 0, 0)) rfl ?_
          refine m_weak [some (.inr (.inl 0)), some (.inr (.inl 13)), some (.inr (.inl 14)), some (.inl n), some (.inl (p + 0)), some (.inl (q + 0)), some (.inl (r + (Int32.ofInt 1 <<< (Int32.ofInt a &&& 31)).toInt)), some (.inl (a + 1)), none, none, none, none, none] ⟨rfl, ⟨rfl, ⟨rfl, ⟨rfl, ⟨rfl, ⟨rfl, ⟨rfl, ⟨rfl, trivial⟩⟩⟩⟩⟩⟩⟩⟩ ?_
          rw [zc2, zc3, zc4] at K
          rw [m_shl1 ha (by omega)]
          exact K
      · replace zc3 : o2 = true := bI_n0.mp zc3
        refine m_run 8 (ps' := (181, [some (.inr (.inl 0)), some (.inr (.inl 13)), some (.inr (.inl 14)), some (.inl n), some (.inl (p + 0)), some (.inl (q + (Int32.ofInt 1 <<< (Int32.ofInt a &&& 31)).toInt)), some (.inl r), some (.inl a), some (.inl (bI o1)), some (.inl (bI o2)), some (.inl (bI o3)), some (.inl n), none], [.inl (bI o3), .inl r], mW (n, T, h, t, x) (.inl (0, 1, .inl g) :: .inl (2, 9, .inr f) :: J), 0, 0)) rfl ?_
        refine m_if rfl (bI_R _) (fun (zc4 : (bI o3) = 0) => ?_) (fun (zc4 : ¬ (bI o3) = 0) => ?_)
        · replace zc4 : o3 = false := bI_e0.mp zc4
          refine m_run 5 (ps' := (16, [some (.inr (.inl 0)), some (.inr (.inl 13)), some (.inr (.inl 14)), some (.inl n), some (.inl (p + 0)), some (.inl (q + (Int32.ofInt 1 <<< (Int32.ofInt a &&& 31)).toInt)), some (.inl (r + 0)), some (.inl (a + 1)), some (.inl (bI o1)), some (.inl (bI o2)), some (.inl (bI o3)), some (.inl n), none], [], mW (n, T, h, t, x) (.inl (0, 1, .inl g) :: .inl (2, 9, .inr f) :: J), 0, 0)) rfl ?_
          refine m_weak [some (.inr (.inl 0)), some (.inr (.inl 13)), some (.inr (.inl 14)), some (.inl n), some (.inl (p + 0)), some (.inl (q + (Int32.ofInt 1 <<< (Int32.ofInt a &&& 31)).toInt)), some (.inl (r + 0)), some (.inl (a + 1)), none, none, none, none, none] ⟨rfl, ⟨rfl, ⟨rfl, ⟨rfl, ⟨rfl, ⟨rfl, ⟨rfl, ⟨rfl, trivial⟩⟩⟩⟩⟩⟩⟩⟩ ?_
          rw [zc2, zc3, zc4] at K
          rw [m_shl1 ha (by omega)]
          exact K
        · replace zc4 : o3 = true := bI_n0.mp zc4
          refine m_run 8 (ps' := (16, [some (.inr (.inl 0)), some (.inr (.inl 13)), some (.inr (.inl 14)), some (.inl n), some (.inl (p + 0)), some (.inl (q + (Int32.ofInt 1 <<< (Int32.ofInt a &&& 31)).toInt)), some (.inl (r + (Int32.ofInt 1 <<< (Int32.ofInt a &&& 31)).toInt)), some (.inl (a + 1)), some (.inl (bI o1)), some (.inl (bI o2)), some (.inl (bI o3)), some (.inl n), none], [], mW (n, T, h, t, x) (.inl (0, 1, .inl g) :: .inl (2, 9, .inr f) :: J), 0, 0)) rfl ?_
          refine m_weak [some (.inr (.inl 0)), some (.inr (.inl 13)), some (.inr (.inl 14)), some (.inl n), some (.inl (p + 0)), some (.inl (q + (Int32.ofInt 1 <<< (Int32.ofInt a &&& 31)).toInt)), some (.inl (r + (Int32.ofInt 1 <<< (Int32.ofInt a &&& 31)).toInt)), some (.inl (a + 1)), none, none, none, none, none] ⟨rfl, ⟨rfl, ⟨rfl, ⟨rfl, ⟨rfl, ⟨rfl, ⟨rfl, ⟨rfl, trivial⟩⟩⟩⟩⟩⟩⟩⟩ ?_
          rw [zc2, zc3, zc4] at K
          rw [m_shl1 ha (by omega)]
          exact K
    · replace zc2 : o1 = true := bI_n0.mp zc2
      refine m_run 8 (ps' := (163, [some (.inr (.inl 0)), some (.inr (.inl 13)), some (.inr (.inl 14)), some (.inl n), some (.inl (p + (Int32.ofInt 1 <<< (Int32.ofInt a &&& 31)).toInt)), some (.inl q), some (.inl r), some (.inl a), some (.inl (bI o1)), some (.inl (bI o2)), some (.inl (bI o3)), some (.inl n), none], [.inl (bI o2), .inl q], mW (n, T, h, t, x) (.inl (0, 1, .inl g) :: .inl (2, 9, .inr f) :: J), 0, 0)) rfl ?_
      refine m_if rfl (bI_R _) (fun (zc3 : (bI o2) = 0) => ?_) (fun (zc3 : ¬ (bI o2) = 0) => ?_)
      · replace zc3 : o2 = false := bI_e0.mp zc3
        refine m_run 5 (ps' := (181, [some (.inr (.inl 0)), some (.inr (.inl 13)), some (.inr (.inl 14)), some (.inl n), some (.inl (p + (Int32.ofInt 1 <<< (Int32.ofInt a &&& 31)).toInt)), some (.inl (q + 0)), some (.inl r), some (.inl a), some (.inl (bI o1)), some (.inl (bI o2)), some (.inl (bI o3)), some (.inl n), none], [.inl (bI o3), .inl r], mW (n, T, h, t, x) (.inl (0, 1, .inl g) :: .inl (2, 9, .inr f) :: J), 0, 0)) rfl ?_
        refine m_if rfl (bI_R _) (fun (zc4 : (bI o3) = 0) => ?_) (fun (zc4 : ¬ (bI o3) = 0) => ?_)
        · replace zc4 : o3 = false := bI_e0.mp zc4
          refine m_run 5 (ps' := (16, [some (.inr (.inl 0)), some (.inr (.inl 13)), some (.inr (.inl 14)), some (.inl n), some (.inl (p + (Int32.ofInt 1 <<< (Int32.ofInt a &&& 31)).toInt)), some (.inl (q + 0)), some (.inl (r + 0)), some (.inl (a + 1)), some (.inl (bI o1)), some (.inl (bI o2)), some (.inl (bI o3)), some (.inl n), none], [], mW (n, T, h, t, x) (.inl (0, 1, .inl g) :: .inl (2, 9, .inr f) :: J), 0, 0)) rfl ?_
          refine m_weak [some (.inr (.inl 0)), some (.inr (.inl 13)), some (.inr (.inl 14)), some (.inl n), some (.inl (p + (Int32.ofInt 1 <<< (Int32.ofInt a &&& 31)).toInt)), some (.inl (q + 0)), some (.inl (r + 0)), some (.inl (a + 1)), none, none, none, none, none] ⟨rfl, ⟨rfl, ⟨rfl, ⟨rfl, ⟨rfl, ⟨rfl, ⟨rfl, ⟨rfl, trivial⟩⟩⟩⟩⟩⟩⟩⟩ ?_
          rw [zc2, zc3, zc4] at K
          rw [m_shl1 ha (by omega)]
          exact K
        · replace zc4 : o3 = true := bI_n0.mp zc4
          refine m_run 8 (ps' := (16, [some (.inr (.inl 0)), some (.inr (.inl 13)), some (.inr (.inl 14)), some (.inl n), some (.inl (p + (Int32.ofInt 1 <<< (Int32.ofInt a &&& 31)).toInt)), some (.inl (q + 0)), some (.inl (r + (Int32.ofInt 1 <<< (Int32.ofInt a &&& 31)).toInt)), some (.inl (a + 1)), some (.inl (bI o1)), some (.inl (bI o2)), some (.inl (bI o3)), some (.inl n), none], [], mW (n, T, h, t, x) (.inl (0, 1, .inl g) :: .inl (2, 9, .inr f) :: J), 0, 0)) rfl ?_
          refine m_weak [some (.inr (.inl 0)), some (.inr (.inl 13)), some (.inr (.inl 14)), some (.inl n), some (.inl (p + (Int32.ofInt 1 <<< (Int32.ofInt a &&& 31)).toInt)), some (.inl (q + 0)), some (.inl (r + (Int32.ofInt 1 <<< (Int32.ofInt a &&& 31)).toInt)), some (.inl (a + 1)), none, none, none, none, none] ⟨rfl, ⟨rfl, ⟨rfl, ⟨rfl, ⟨rfl, ⟨rfl, ⟨rfl, ⟨rfl, trivial⟩⟩⟩⟩⟩⟩⟩⟩ ?_
          rw [zc2, zc3, zc4] at K
          rw [m_shl1 ha (by omega)]
          exact K
      · replace zc3 : o2 = true := bI_n0.mp zc3
        refine m_run 8 (ps' := (181, [some (.inr (.inl 0)), some (.inr (.inl 13)), some (.inr (.inl 14)), some (.inl n), some (.inl (p + (Int32.ofInt 1 <<< (Int32.ofInt a &&& 31)).toInt)), some (.inl (q + (Int32.ofInt 1 <<< (Int32.ofInt a &&& 31)).toInt)), some (.inl r), some (.inl a), some (.inl (bI o1)), some (.inl (bI o2)), some (.inl (bI o3)), some (.inl n), none], [.inl (bI o3), .inl r], mW (n, T, h, t, x) (.inl (0, 1, .inl g) :: .inl (2, 9, .inr f) :: J), 0, 0)) rfl ?_
        refine m_if rfl (bI_R _) (fun (zc4 : (bI o3) = 0) => ?_) (fun (zc4 : ¬ (bI o3) = 0) => ?_)
        · replace zc4 : o3 = false := bI_e0.mp zc4
          refine m_run 5 (ps' := (16, [some (.inr (.inl 0)), some (.inr (.inl 13)), some (.inr (.inl 14)), some (.inl n), some (.inl (p + (Int32.ofInt 1 <<< (Int32.ofInt a &&& 31)).toInt)), some (.inl (q + (Int32.ofInt 1 <<< (Int32.ofInt a &&& 31)).toInt)), some (.inl (r + 0)), some (.inl (a + 1)), some (.inl (bI o1)), some (.inl (bI o2)), some (.inl (bI o3)), some (.inl n), none], [], mW (n, T, h, t, x) (.inl (0, 1, .inl g) :: .inl (2, 9, .inr f) :: J), 0, 0)) rfl ?_
          refine m_weak [some (.inr (.inl 0)), some (.inr (.inl 13)), some (.inr (.inl 14)), some (.inl n), some (.inl (p + (Int32.ofInt 1 <<< (Int32.ofInt a &&& 31)).toInt)), some (.inl (q + (Int32.ofInt 1 <<< (Int32.ofInt a &&& 31)).toInt)), some (.inl (r + 0)), some (.inl (a + 1)), none, none, none, none, none] ⟨rfl, ⟨rfl, ⟨rfl, ⟨rfl, ⟨rfl, ⟨rfl, ⟨rfl, ⟨rfl, trivial⟩⟩⟩⟩⟩⟩⟩⟩ ?_
          rw [zc2, zc3, zc4] at K
          rw [m_shl1 ha (by omega)]
          exact K
        · replace zc4 : o3 = true := bI_n0.mp zc4
          refine m_run 8 (ps' := (16, [some (.inr (.inl 0)), some (.inr (.inl 13)), some (.inr (.inl 14)), some (.inl n), some (.inl (p + (Int32.ofInt 1 <<< (Int32.ofInt a &&& 31)).toInt)), some (.inl (q + (Int32.ofInt 1 <<< (Int32.ofInt a &&& 31)).toInt)), some (.inl (r + (Int32.ofInt 1 <<< (Int32.ofInt a &&& 31)).toInt)), some (.inl (a + 1)), some (.inl (bI o1)), some (.inl (bI o2)), some (.inl (bI o3)), some (.inl n), none], [], mW (n, T, h, t, x) (.inl (0, 1, .inl g) :: .inl (2, 9, .inr f) :: J), 0, 0)) rfl ?_
          refine m_weak [some (.inr (.inl 0)), some (.inr (.inl 13)), some (.inr (.inl 14)), some (.inl n), some (.inl (p + (Int32.ofInt 1 <<< (Int32.ofInt a &&& 31)).toInt)), some (.inl (q + (Int32.ofInt 1 <<< (Int32.ofInt a &&& 31)).toInt)), some (.inl (r + (Int32.ofInt 1 <<< (Int32.ofInt a &&& 31)).toInt)), some (.inl (a + 1)), none, none, none, none, none] ⟨rfl, ⟨rfl, ⟨rfl, ⟨rfl, ⟨rfl, ⟨rfl, ⟨rfl, ⟨rfl, trivial⟩⟩⟩⟩⟩⟩⟩⟩ ?_
          rw [zc2, zc3, zc4] at K
          rw [m_shl1 ha (by omega)]
          exact K
  · intro b hi1 hi2 ih o1 o2 o3 hu1 hu2 hu3
    rw [all_s hi2] at hu1 hu2 hu3
    have e5 : elC n tb 0 a b = holdsS n tb 5 a b 0 := rfl
    refine m_run 2 (ps' := (37, [some (.inr (.inl 0)), some (.inr (.inl 13)), some (.inr (.inl 14)), some (.inl n), some (.inl p), some (.inl q), some (.inl r), some (.inl a), some (.inl (bI o1)), some (.inl (bI o2)), some (.inl (bI o3)), some (.inl b), none], [.inl n, .inl b], mW (n, T, h, t, x) (.inl (0, 1, .inl g) :: .inl (2, 9, .inr f) :: J), 0, 0)) rfl ?_
    refine m_icmp rfl ⟨by omega, by omega⟩ ⟨by omega, by omega⟩ (fun (zc1 : n ≤ b) => absurd zc1 (by omega)) (fun (zc1 : ¬ n ≤ b) => ?_)
    refine m_run 1 (ps' := (42, [some (.inr (.inl 0)), some (.inr (.inl 13)), some (.inr (.inl 14)), some (.inl n), some (.inl p), some (.inl q), some (.inl r), some (.inl a), some (.inl (bI o1)), some (.inl (bI o2)), some (.inl (bI o3)), some (.inl b), none], [.inl (bI o1)], mW (n, T, h, t, x) (.inl (0, 1, .inl g) :: .inl (2, 9, .inr f) :: J), 0, 0)) rfl ?_
    refine m_if rfl (bI_R _) (fun (zc2 : (bI o1) = 0) => ?_) (fun (zc2 : ¬ (bI o1) = 0) => ?_)
    · replace zc2 : o1 = false := bI_e0.mp zc2
      refine m_run 4 (ps' := (69, [some (.inr (.inl 0)), some (.inr (.inl 13)), some (.inr (.inl 14)), some (.inl n), some (.inl p), some (.inl q), some (.inl r), some (.inl a), some (.inl 0), some (.inl (bI o2)), some (.inl (bI o3)), some (.inl b), some (.inl 0)], [], mW (n, T, h, t, x) (.inl (0, 1, .inl g) :: .inl (2, 9, .inr f) :: J), 0, 0)) rfl ?_
      refine m_weak [some (.inr (.inl 0)), some (.inr (.inl 13)), some (.inr (.inl 14)), some (.inl n), some (.inl p), some (.inl q), some (.inl r), some (.inl a), some (.inl 0), some (.inl (bI o2)), some (.inl (bI o3)), some (.inl b), some (.inl 0)] ⟨rfl, ⟨rfl, ⟨rfl, ⟨rfl, ⟨rfl, ⟨rfl, ⟨rfl, ⟨rfl, ⟨rfl, ⟨rfl, ⟨rfl, ⟨rfl, ⟨rfl, trivial⟩⟩⟩⟩⟩⟩⟩⟩⟩⟩⟩⟩⟩ ?_
      exact a_elC (o1 := false) (v2 := (o2 && elC n tb 1 a b)) (v3 := (o3 && elC n tb 2 a b)) hg hL ha ha2 hi1 hi2 (ih false (o2 && elC n tb 1 a b) (o3 && elC n tb 2 a b) (by simp [*]) (by rw [hu2, Bool.and_assoc]) (by rw [hu3, Bool.and_assoc])) 0 (by omega) (by omega) o2 o3 (by rw [z_sub]; rfl) (by rw [z_sub]; rfl)
    · replace zc2 : o1 = true := bI_n0.mp zc2
      refine m_run 6 (ps' := (53, [some (.inr (.inl 0)), some (.inr (.inl 13)), some (.inr (.inl 14)), some (.inl n), some (.inl p), some (.inl q), some (.inl r), some (.inl a), some (.inl (bI o1)), some (.inl (bI o2)), some (.inl (bI o3)), some (.inl b), none], [.inl 0, .inl b, .inl a, .inl 5, .inr (.inl 14), .inr (.inl 13)], mW (n, T, h, t, x) (.inl (0, 1, .inl g) :: .inl (2, 9, .inr f) :: J), 0, 0)) rfl ?_
      refine m_callSF [.inr (.inl 13), .inr (.inl 14), .inl 5, .inl a, .inl b, .inl 0] [] rfl rfl rfl (a_hold (law := 5) (a := a) (b := b) (c := 0) hg hL (by omega) (by omega) (by omega) (by omega) (by omega) (by omega) (by omega) (by omega)) ?_
      show m_Sem X 59 (56, [some (.inr (.inl 0)), some (.inr (.inl 13)), some (.inr (.inl 14)), some (.inl n), some (.inl p), some (.inl q), some (.inl r), some (.inl a), some (.inl (bI o1)), some (.inl (bI o2)), some (.inl (bI o3)), some (.inl b), none], [.inl (bI (holdsS n tb 5 a b 0))], mW (n, T, h, t, x) (.inl (0, 1, .inl g) :: .inl (2, 9, .inr f) :: J), 0, 0) _
      refine m_if rfl (bI_R _) (fun (zc3 : (bI (holdsS n tb 5 a b 0)) = 0) => ?_) (fun (zc3 : ¬ (bI (holdsS n tb 5 a b 0)) = 0) => ?_)
      · replace zc3 : (holdsS n tb 5 a b 0) = false := bI_e0.mp zc3
        refine m_run 4 (ps' := (69, [some (.inr (.inl 0)), some (.inr (.inl 13)), some (.inr (.inl 14)), some (.inl n), some (.inl p), some (.inl q), some (.inl r), some (.inl a), some (.inl 0), some (.inl (bI o2)), some (.inl (bI o3)), some (.inl b), some (.inl 0)], [], mW (n, T, h, t, x) (.inl (0, 1, .inl g) :: .inl (2, 9, .inr f) :: J), 0, 0)) rfl ?_
        refine m_weak [some (.inr (.inl 0)), some (.inr (.inl 13)), some (.inr (.inl 14)), some (.inl n), some (.inl p), some (.inl q), some (.inl r), some (.inl a), some (.inl 0), some (.inl (bI o2)), some (.inl (bI o3)), some (.inl b), some (.inl 0)] ⟨rfl, ⟨rfl, ⟨rfl, ⟨rfl, ⟨rfl, ⟨rfl, ⟨rfl, ⟨rfl, ⟨rfl, ⟨rfl, ⟨rfl, ⟨rfl, ⟨rfl, trivial⟩⟩⟩⟩⟩⟩⟩⟩⟩⟩⟩⟩⟩ ?_
        exact a_elC (o1 := false) (v2 := (o2 && elC n tb 1 a b)) (v3 := (o3 && elC n tb 2 a b)) hg hL ha ha2 hi1 hi2 (ih false (o2 && elC n tb 1 a b) (o3 && elC n tb 2 a b) (by simp [*]) (by rw [hu2, Bool.and_assoc]) (by rw [hu3, Bool.and_assoc])) 0 (by omega) (by omega) o2 o3 (by rw [z_sub]; rfl) (by rw [z_sub]; rfl)
      · replace zc3 : (holdsS n tb 5 a b 0) = true := bI_n0.mp zc3
        refine m_run 5 (ps' := (69, [some (.inr (.inl 0)), some (.inr (.inl 13)), some (.inr (.inl 14)), some (.inl n), some (.inl p), some (.inl q), some (.inl r), some (.inl a), some (.inl 1), some (.inl (bI o2)), some (.inl (bI o3)), some (.inl b), some (.inl 0)], [], mW (n, T, h, t, x) (.inl (0, 1, .inl g) :: .inl (2, 9, .inr f) :: J), 0, 0)) rfl ?_
        refine m_weak [some (.inr (.inl 0)), some (.inr (.inl 13)), some (.inr (.inl 14)), some (.inl n), some (.inl p), some (.inl q), some (.inl r), some (.inl a), some (.inl 1), some (.inl (bI o2)), some (.inl (bI o3)), some (.inl b), some (.inl 0)] ⟨rfl, ⟨rfl, ⟨rfl, ⟨rfl, ⟨rfl, ⟨rfl, ⟨rfl, ⟨rfl, ⟨rfl, ⟨rfl, ⟨rfl, ⟨rfl, ⟨rfl, trivial⟩⟩⟩⟩⟩⟩⟩⟩⟩⟩⟩⟩⟩ ?_
        exact a_elC (o1 := true) (v2 := (o2 && elC n tb 1 a b)) (v3 := (o3 && elC n tb 2 a b)) hg hL ha ha2 hi1 hi2 (ih true (o2 && elC n tb 1 a b) (o3 && elC n tb 2 a b) (by simp [*]) (by rw [hu2, Bool.and_assoc]) (by rw [hu3, Bool.and_assoc])) 0 (by omega) (by omega) o2 o3 (by rw [z_sub]; rfl) (by rw [z_sub]; rfl)
set_option maxHeartbeats 4000000 in
set_option maxRecDepth 100000 in
theorem a_elA {X : Nat × Nat × (Nat → Int32)} {n : Int} {T : Int → Int} {h : HS} {t : TS} {x : XS} {g : Int → Int} {f : Nat → Int64} {J : mPW} {tb : Int → Int → Int} {v1 v2 v3 : Int} (hg : g 0 = n) (hL : repL n f tb) (hR : repC n T tb) (hv1 : v1 = sumF (fun a => bp (elA n tb 0 a) a) n.toNat 0) (hv2 : v2 = sumF (fun a => bp (elA n tb 1 a) a) n.toNat 0) (hv3 : v3 = sumF (fun a => bp (elA n tb 2 a) a) n.toNat 0) : ∀ a : Int, 0 ≤ a → a ≤ n → ∀ (p : Int) (q : Int) (r : Int) (hu1 : v1 = p + sumF (fun a => bp (elA n tb 0 a) a) (n - a).toNat a) (hu2 : v2 = q + sumF (fun a => bp (elA n tb 1 a) a) (n - a).toNat a) (hu3 : v3 = r + sumF (fun a => bp (elA n tb 2 a) a) (n - a).toNat a), m_Sem X 59 (16, [some (.inr (.inl 0)), some (.inr (.inl 13)), some (.inr (.inl 14)), some (.inl n), some (.inl p), some (.inl q), some (.inl r), some (.inl a), none, none, none, none, none], [], mW (n, T, h, t, x) (.inl (0, 1, .inl g) :: .inl (2, 9, .inr f) :: J), 0, 0) (m_V 1 (mW (n, T, h, t, x) (.inl (0, 1, .inl g) :: .inl (2, 9, .inr f) :: J))) := by
  have hn := hL.1
  have hl := okN_lo hn
  refine m_down 0 n ?_ ?_
  · intro p q r hu1 hu2 hu3
    rw [sum_end] at hu1 hu2 hu3
    have w0 := elm_v (tb := tb) (j := 0) hn (by omega) (by omega)
    have w1 := elm_v (tb := tb) (j := 1) hn (by omega) (by omega)
    have w2 := elm_v (tb := tb) (j := 2) hn (by omega) (by omega)
    show m_Sem X 59 (16, [some (.inr (.inl 0)), some (.inr (.inl 13)), some (.inr (.inl 14)), some (.inl n), some (.inl p), some (.inl q), some (.inl r), some (.inl n), none, none, none, none, none], [], mW (n, T, h, t, x) (.inl (0, 1, .inl g) :: .inl (2, 9, .inr f) :: J), 0, 0) _
    refine m_run 2 (ps' := (19, [some (.inr (.inl 0)), some (.inr (.inl 13)), some (.inr (.inl 14)), some (.inl n), some (.inl p), some (.inl q), some (.inl r), some (.inl n), none, none, none, none, none], [.inl n, .inl n], mW (n, T, h, t, x) (.inl (0, 1, .inl g) :: .inl (2, 9, .inr f) :: J), 0, 0)) rfl ?_
    refine m_icmp rfl ⟨by omega, by omega⟩ ⟨by omega, by omega⟩ (fun (zc1 : n ≤ n) => ?_) (fun (zc1 : ¬ n ≤ n) => absurd zc1 (not_not_intro (by omega)))
    refine m_run 2 (ps' := (203, [some (.inr (.inl 0)), some (.inr (.inl 13)), some (.inr (.inl 14)), some (.inl n), some (.inl p), some (.inl q), some (.inl r), some (.inl n), none, none, none, none, none], [.inl 0, .inr (.inl 0)], mW (n, T, h, t, x) (.inl (0, 1, .inl g) :: .inl (2, 9, .inr f) :: J), 0, 0)) rfl ?_
    refine m_callVF [.inl 0] [] rfl rfl ⟨_, rfl, rfl⟩ rfl rfl (k_els (wh := 0) ⟨by omega, by omega⟩ hR) ?_
    have zt1 := elm_v (tb := tb) (j := 0) hn (by omega) (by omega)
    show m_Sem X 59 (206, [some (.inr (.inl 0)), some (.inr (.inl 13)), some (.inr (.inl 14)), some (.inl n), some (.inl p), some (.inl q), some (.inl r), some (.inl n), none, none, none, none, none], [.inl (elmS n tb 0)], mW (n, T, h, t, x) (.inl (0, 1, .inl g) :: .inl (2, 9, .inr f) :: J), 0, 0) _
    refine m_run 1 (ps' := (208, [some (.inr (.inl 0)), some (.inr (.inl 13)), some (.inr (.inl 14)), some (.inl n), some (.inl p), some (.inl q), some (.inl r), some (.inl n), none, none, none, none, none], [.inl p, .inl (elmS n tb 0)], mW (n, T, h, t, x) (.inl (0, 1, .inl g) :: .inl (2, 9, .inr f) :: J), 0, 0)) rfl ?_
    refine m_icmp rfl ⟨by omega, by omega⟩ ⟨by omega, by omega⟩ (fun (zc2 : ¬ (elmS n tb 0) = p) => absurd zc2 (by omega)) (fun (zc2 : ¬ ¬ (elmS n tb 0) = p) => ?_)
    replace zc2 : (elmS n tb 0) = p := Decidable.not_not.mp zc2
    refine m_run 2 (ps' := (213, [some (.inr (.inl 0)), some (.inr (.inl 13)), some (.inr (.inl 14)), some (.inl n), some (.inl p), some (.inl q), some (.inl r), some (.inl n), none, none, none, none, none], [.inl 1, .inr (.inl 0)], mW (n, T, h, t, x) (.inl (0, 1, .inl g) :: .inl (2, 9, .inr f) :: J), 0, 0)) rfl ?_
    refine m_callVF [.inl 1] [] rfl rfl ⟨_, rfl, rfl⟩ rfl rfl (k_els (wh := 1) ⟨by omega, by omega⟩ hR) ?_
    have zt2 := elm_v (tb := tb) (j := 1) hn (by omega) (by omega)
    show m_Sem X 59 (216, [some (.inr (.inl 0)), some (.inr (.inl 13)), some (.inr (.inl 14)), some (.inl n), some (.inl p), some (.inl q), some (.inl r), some (.inl n), none, none, none, none, none], [.inl (elmS n tb 1)], mW (n, T, h, t, x) (.inl (0, 1, .inl g) :: .inl (2, 9, .inr f) :: J), 0, 0) _
    refine m_run 1 (ps' := (218, [some (.inr (.inl 0)), some (.inr (.inl 13)), some (.inr (.inl 14)), some (.inl n), some (.inl p), some (.inl q), some (.inl r), some (.inl n), none, none, none, none, none], [.inl q, .inl (elmS n tb 1)], mW (n, T, h, t, x) (.inl (0, 1, .inl g) :: .inl (2, 9, .inr f) :: J), 0, 0)) rfl ?_
    refine m_icmp rfl ⟨by omega, by omega⟩ ⟨by omega, by omega⟩ (fun (zc3 : ¬ (elmS n tb 1) = q) => absurd zc3 (by omega)) (fun (zc3 : ¬ ¬ (elmS n tb 1) = q) => ?_)
    replace zc3 : (elmS n tb 1) = q := Decidable.not_not.mp zc3
    refine m_run 2 (ps' := (223, [some (.inr (.inl 0)), some (.inr (.inl 13)), some (.inr (.inl 14)), some (.inl n), some (.inl p), some (.inl q), some (.inl r), some (.inl n), none, none, none, none, none], [.inl 2, .inr (.inl 0)], mW (n, T, h, t, x) (.inl (0, 1, .inl g) :: .inl (2, 9, .inr f) :: J), 0, 0)) rfl ?_
    refine m_callVF [.inl 2] [] rfl rfl ⟨_, rfl, rfl⟩ rfl rfl (k_els (wh := 2) ⟨by omega, by omega⟩ hR) ?_
    have zt3 := elm_v (tb := tb) (j := 2) hn (by omega) (by omega)
    show m_Sem X 59 (226, [some (.inr (.inl 0)), some (.inr (.inl 13)), some (.inr (.inl 14)), some (.inl n), some (.inl p), some (.inl q), some (.inl r), some (.inl n), none, none, none, none, none], [.inl (elmS n tb 2)], mW (n, T, h, t, x) (.inl (0, 1, .inl g) :: .inl (2, 9, .inr f) :: J), 0, 0) _
    refine m_run 1 (ps' := (228, [some (.inr (.inl 0)), some (.inr (.inl 13)), some (.inr (.inl 14)), some (.inl n), some (.inl p), some (.inl q), some (.inl r), some (.inl n), none, none, none, none, none], [.inl r, .inl (elmS n tb 2)], mW (n, T, h, t, x) (.inl (0, 1, .inl g) :: .inl (2, 9, .inr f) :: J), 0, 0)) rfl ?_
    refine m_icmp rfl ⟨by omega, by omega⟩ ⟨by omega, by omega⟩ (fun (zc4 : ¬ (elmS n tb 2) = r) => absurd zc4 (by omega)) (fun (zc4 : ¬ ¬ (elmS n tb 2) = r) => ?_)
    replace zc4 : (elmS n tb 2) = r := Decidable.not_not.mp zc4
    refine m_run 2 (ps' := (233, [some (.inr (.inl 0)), some (.inr (.inl 13)), some (.inr (.inl 14)), some (.inl n), some (.inl p), some (.inl q), some (.inl r), some (.inl n), none, none, none, none, none], [.inl 3, .inr (.inl 0)], mW (n, T, h, t, x) (.inl (0, 1, .inl g) :: .inl (2, 9, .inr f) :: J), 0, 0)) rfl ?_
    refine m_callVF [.inl 3] [] rfl rfl ⟨_, rfl, rfl⟩ rfl rfl (k_els (wh := 3) ⟨by omega, by omega⟩ hR) ?_
    have zt4 := elm_i (n := n) (tb := tb)
    show m_Sem X 59 (236, [some (.inr (.inl 0)), some (.inr (.inl 13)), some (.inr (.inl 14)), some (.inl n), some (.inl p), some (.inl q), some (.inl r), some (.inl n), none, none, none, none, none], [.inl (elmS n tb 3)], mW (n, T, h, t, x) (.inl (0, 1, .inl g) :: .inl (2, 9, .inr f) :: J), 0, 0) _
    refine m_run 1 (ps' := (238, [some (.inr (.inl 0)), some (.inr (.inl 13)), some (.inr (.inl 14)), some (.inl n), some (.inl p), some (.inl q), some (.inl r), some (.inl n), none, none, none, none, none], [.inl (-1000001), .inl (elmS n tb 3)], mW (n, T, h, t, x) (.inl (0, 1, .inl g) :: .inl (2, 9, .inr f) :: J), 0, 0)) rfl ?_
    refine m_icmp rfl ⟨by omega, by omega⟩ ⟨by omega, by omega⟩ (fun (zc5 : ¬ (elmS n tb 3) = (-1000001)) => absurd zc5 (by omega)) (fun (zc5 : ¬ ¬ (elmS n tb 3) = (-1000001)) => ?_)
    replace zc5 : (elmS n tb 3) = (-1000001) := Decidable.not_not.mp zc5
    refine m_run 2 (ps' := (246, [some (.inr (.inl 0)), some (.inr (.inl 13)), some (.inr (.inl 14)), some (.inl n), some (.inl p), some (.inl q), some (.inl r), some (.inl n), none, none, none, none, none], [.inl 1], mW (n, T, h, t, x) (.inl (0, 1, .inl g) :: .inl (2, 9, .inr f) :: J), 0, 0)) rfl ?_
    exact m_ret1 rfl (Or.inr ⟨rfl, Or.inr rfl⟩) rfl (m_Vi rfl)
  · intro a hi1 hi2 ih p q r hu1 hu2 hu3
    rw [sum_step hi2] at hu1 hu2 hu3
    refine m_run 2 (ps' := (19, [some (.inr (.inl 0)), some (.inr (.inl 13)), some (.inr (.inl 14)), some (.inl n), some (.inl p), some (.inl q), some (.inl r), some (.inl a), none, none, none, none, none], [.inl n, .inl a], mW (n, T, h, t, x) (.inl (0, 1, .inl g) :: .inl (2, 9, .inr f) :: J), 0, 0)) rfl ?_
    refine m_icmp rfl ⟨by omega, by omega⟩ ⟨by omega, by omega⟩ (fun (zc1 : n ≤ a) => absurd zc1 (by omega)) (fun (zc1 : ¬ n ≤ a) => ?_)
    refine m_run 8 (ps' := (34, [some (.inr (.inl 0)), some (.inr (.inl 13)), some (.inr (.inl 14)), some (.inl n), some (.inl p), some (.inl q), some (.inl r), some (.inl a), some (.inl 1), some (.inl 1), some (.inl 1), some (.inl 0), none], [], mW (n, T, h, t, x) (.inl (0, 1, .inl g) :: .inl (2, 9, .inr f) :: J), 0, 0)) rfl ?_
    refine m_weak [some (.inr (.inl 0)), some (.inr (.inl 13)), some (.inr (.inl 14)), some (.inl n), some (.inl p), some (.inl q), some (.inl r), some (.inl a), some (.inl 1), some (.inl 1), some (.inl 1), some (.inl 0), none] ⟨rfl, ⟨rfl, ⟨rfl, ⟨rfl, ⟨rfl, ⟨rfl, ⟨rfl, ⟨rfl, ⟨rfl, ⟨rfl, ⟨rfl, ⟨rfl, trivial⟩⟩⟩⟩⟩⟩⟩⟩⟩⟩⟩⟩ ?_
    exact a_elB (v1 := elA n tb 0 a) (v2 := elA n tb 1 a) (v3 := elA n tb 2 a) hg hL hi1 hi2 (ih _ _ _ (by rw [hu1, Int.add_assoc]) (by rw [hu2, Int.add_assoc]) (by rw [hu3, Int.add_assoc])) 0 (by omega) (by omega) true true true (by rw [z_sub]; rfl) (by rw [z_sub]; rfl) (by rw [z_sub]; rfl)
set_option maxHeartbeats 4000000 in
set_option maxRecDepth 100000 in
theorem a_els {X : Nat × Nat × (Nat → Int32)} {n : Int} {T : Int → Int} {h : HS} {t : TS} {x : XS} {g : Int → Int} {f : Nat → Int64} {J : mPW} {tb : Int → Int → Int} (hg : g 0 = n) (hL : repL n f tb) (hR : repC n T tb) : m_Run X 59 [.inr (.inl 0), .inr (.inl 13), .inr (.inl 14)] (mW (n, T, h, t, x) (.inl (0, 1, .inl g) :: .inl (2, 9, .inr f) :: J)) (m_V 1 (mW (n, T, h, t, x) (.inl (0, 1, .inl g) :: .inl (2, 9, .inr f) :: J))) := by
  have hn := hL.1
  have hl := okN_lo hn
  show m_Sem X 59 (0, [some (.inr (.inl 0)), some (.inr (.inl 13)), some (.inr (.inl 14)), none, none, none, none, none, none, none, none, none, none], [], mW (n, T, h, t, x) (.inl (0, 1, .inl g) :: .inl (2, 9, .inr f) :: J), 0, 0) _
  refine m_run 2 (ps' := (2, [some (.inr (.inl 0)), some (.inr (.inl 13)), some (.inr (.inl 14)), none, none, none, none, none, none, none, none, none, none], [.inl 0, .inr (.inl 13)], mW (n, T, h, t, x) (.inl (0, 1, .inl g) :: .inl (2, 9, .inr f) :: J), 0, 0)) rfl ?_
  refine m_iald rfl rfl (by omega) (by omega) (by decide) ?_
  show m_Sem X 59 (3, [some (.inr (.inl 0)), some (.inr (.inl 13)), some (.inr (.inl 14)), none, none, none, none, none, none, none, none, none, none], [.inl (g 0)], mW (n, T, h, t, x) (.inl (0, 1, .inl g) :: .inl (2, 9, .inr f) :: J), 0, 0) _
  rw [hg]
  refine m_run 9 (ps' := (16, [some (.inr (.inl 0)), some (.inr (.inl 13)), some (.inr (.inl 14)), some (.inl n), some (.inl 0), some (.inl 0), some (.inl 0), some (.inl 0), none, none, none, none, none], [], mW (n, T, h, t, x) (.inl (0, 1, .inl g) :: .inl (2, 9, .inr f) :: J), 0, 0)) rfl ?_
  refine m_weak [some (.inr (.inl 0)), some (.inr (.inl 13)), some (.inr (.inl 14)), some (.inl n), some (.inl 0), some (.inl 0), some (.inl 0), some (.inl 0), none, none, none, none, none] ⟨rfl, ⟨rfl, ⟨rfl, ⟨rfl, ⟨rfl, ⟨rfl, ⟨rfl, ⟨rfl, trivial⟩⟩⟩⟩⟩⟩⟩⟩ ?_
  exact a_elA hg hL hR rfl rfl rfl 0 (by omega) (by omega) 0 0 0 (by rw [z_sub, Int.zero_add]) (by rw [z_sub, Int.zero_add]) (by rw [z_sub, Int.zero_add])
