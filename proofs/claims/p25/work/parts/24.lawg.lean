/-! The law's run. -/
theorem cok_mono {mi mi' na nw : Nat} {S : List mPV} {bc bs bc' bs' : Nat} (h : m_cok mi mi' na nw S bc bs = true) (h1 : bc ≤ bc') (h2 : bs ≤ bs') : m_cok mi mi' na nw S bc' bs' = true := by
  unfold m_cok at h ⊢
  simp only [Bool.and_eq_true] at h ⊢
  obtain ⟨a, b, c, d, e⟩ := h
  exact ⟨a, b, c, Nat.ble_eq_true_of_le (Nat.le_trans (Nat.le_of_ble_eq_true d) h1), Nat.ble_eq_true_of_le (Nat.le_trans (Nat.le_of_ble_eq_true e) h2)⟩
set_option maxHeartbeats 4000000 in
set_option maxRecDepth 100000 in
theorem w_beh {b Ls : Nat} {xs : Nat → Int32} {tn kv : Int} (hk1 : 0 ≤ kv) (hk2 : kv < tn) (ih : ∀ (jn : Nat) (w : mPW) (bc bs : Nat), InvL jn w → (jn : Int) ≤ (kv + 1) → bc + jn = 599985 → bs + 9 * jn = 7301479 → m_Sem (b, Ls, xs) 0 (49, [some (.inr (.inr (.ref b))), some (.inr (.inl 0)), some (.inr (.inl 13)), some (.inr (.inl 14)), some (.inl 1), some (.inl tn), some (.inl (kv + 1))], [], w, bc, bs) (fun r w => r = some (.inl 1))) : ∀ (jn : Nat) (w : mPW) (bc bs : Nat), InvL jn w → (jn : Int) ≤ kv + 1 → bc + jn = 599985 → bs + 9 * jn = 7301479 → m_Sem (b, Ls, xs) 0 (82, [some (.inr (.inr (.ref b))), some (.inr (.inl 0)), some (.inr (.inl 13)), some (.inr (.inl 14)), some (.inl 1), some (.inl tn), some (.inl kv)], [.inl 1], w, bc, bs) (fun r w => r = some (.inl 1)) := by
  intro jn w bc bs hi hj hbc hbs
  have hi2 := hi
  obtain ⟨n, T, h, sg, x, g, f, J, tb, rfl, hg, hL, hR, hT, ⟨k1, k2⟩, hJ⟩ := hi
  obtain ⟨hc, hs, hp⟩ := h
  have hn := hL.1
  have hl := okN_lo hn
  have k1 : 0 ≤ hc := k1
  have k2 : hc ≤ 4 := k2
  show m_Sem (b, Ls, xs) 0 (82, [some (.inr (.inr (.ref b))), some (.inr (.inl 0)), some (.inr (.inl 13)), some (.inr (.inl 14)), some (.inl 1), some (.inl tn), some (.inl kv)], [.inl 1], mW (n, T, (hc, hs, hp), (0, sg), x) (.inl (0, 1, .inl g) :: .inl (2, 9, .inr f) :: J), bc, bs) _
  refine m_if rfl ⟨by omega, by omega⟩ (fun (zc1 : 1 = 0) => absurd zc1 (by omega)) (fun (zc1 : ¬ 1 = 0) => ?_)
  refine m_run 3 (ps' := (88, [some (.inr (.inr (.ref b))), some (.inr (.inl 0)), some (.inr (.inl 13)), some (.inr (.inl 14)), some (.inl 1), some (.inl tn), some (.inl kv)], [.inr (.inl 14), .inr (.inl 13), .inr (.inl 0)], mW (n, T, (hc, hs, hp), (0, sg), x) (.inl (0, 1, .inl g) :: .inl (2, 9, .inr f) :: J), bc, bs)) rfl ?_
  refine m_callSF [.inr (.inl 0), .inr (.inl 13), .inr (.inl 14)] [] rfl rfl rfl (a_so hg hL hR) ?_
  show m_Sem (b, Ls, xs) 0 (91, [some (.inr (.inr (.ref b))), some (.inr (.inl 0)), some (.inr (.inl 13)), some (.inr (.inl 14)), some (.inl 1), some (.inl tn), some (.inl kv)], [.inl 1], mW (n, T, (hc, hs, hp), (0, sg), x) (.inl (0, 1, .inl g) :: .inl (2, 9, .inr f) :: J), bc, bs) _
  refine m_if rfl ⟨by omega, by omega⟩ (fun (zc2 : 1 = 0) => absurd zc2 (by omega)) (fun (zc2 : ¬ 1 = 0) => ?_)
  refine m_run 5 (ps' := (49, [some (.inr (.inr (.ref b))), some (.inr (.inl 0)), some (.inr (.inl 13)), some (.inr (.inl 14)), some (.inl 1), some (.inl tn), some (.inl (kv + 1))], [], mW (n, T, (hc, hs, hp), (0, sg), x) (.inl (0, 1, .inl g) :: .inl (2, 9, .inr f) :: J), bc, bs)) rfl ?_
  refine m_weak [some (.inr (.inr (.ref b))), some (.inr (.inl 0)), some (.inr (.inl 13)), some (.inr (.inl 14)), some (.inl 1), some (.inl tn), some (.inl (kv + 1))] ⟨rfl, ⟨rfl, ⟨rfl, ⟨rfl, ⟨rfl, ⟨rfl, ⟨rfl, trivial⟩⟩⟩⟩⟩⟩⟩ ?_
  exact ih jn _ bc bs hi2 hj hbc hbs
set_option maxHeartbeats 4000000 in
set_option maxRecDepth 100000 in
theorem w_loop {b Ls : Nat} {xs : Nat → Int32} (hLs : Ls < 2147483648) {tn : Int} (ht : tn ≤ 100) : ∀ kv : Int, 0 ≤ kv → kv ≤ tn → ∀ (jn : Nat) (w : mPW) (bc bs : Nat), InvL jn w → (jn : Int) ≤ kv → bc + jn = 599985 → bs + 9 * jn = 7301479 → m_Sem (b, Ls, xs) 0 (49, [some (.inr (.inr (.ref b))), some (.inr (.inl 0)), some (.inr (.inl 13)), some (.inr (.inl 14)), some (.inl 1), some (.inl tn), some (.inl kv)], [], w, bc, bs) (fun r w => r = some (.inl 1)) := by
  refine m_down 0 tn ?_ ?_
  · intro jn w bc bs hi hj hbc hbs
    obtain ⟨n, T, h, sg, x, g, f, J, tb, rfl, hg, hL, hR, hT, ⟨k1, k2⟩, hJ⟩ := hi
    obtain ⟨hc, hs, hp⟩ := h
    have hn := hL.1
    have hl := okN_lo hn
    have k1 : 0 ≤ hc := k1
    have k2 : hc ≤ 4 := k2
    show m_Sem (b, Ls, xs) 0 (49, [some (.inr (.inr (.ref b))), some (.inr (.inl 0)), some (.inr (.inl 13)), some (.inr (.inl 14)), some (.inl 1), some (.inl tn), some (.inl tn)], [], mW (n, T, (hc, hs, hp), (0, sg), x) (.inl (0, 1, .inl g) :: .inl (2, 9, .inr f) :: J), bc, bs) _
    refine m_run 2 (ps' := (53, [some (.inr (.inr (.ref b))), some (.inr (.inl 0)), some (.inr (.inl 13)), some (.inr (.inl 14)), some (.inl 1), some (.inl tn), some (.inl tn)], [.inl tn, .inl tn], mW (n, T, (hc, hs, hp), (0, sg), x) (.inl (0, 1, .inl g) :: .inl (2, 9, .inr f) :: J), bc, bs)) rfl ?_
    refine m_icmp rfl ⟨by omega, by omega⟩ ⟨by omega, by omega⟩ (fun (zc1 : tn ≤ tn) => ?_) (fun (zc1 : ¬ tn ≤ tn) => absurd zc1 (not_not_intro (by omega)))
    refine m_run 1 (ps' := (109, [some (.inr (.inr (.ref b))), some (.inr (.inl 0)), some (.inr (.inl 13)), some (.inr (.inl 14)), some (.inl 1), some (.inl tn), some (.inl tn)], [.inl 1], mW (n, T, (hc, hs, hp), (0, sg), x) (.inl (0, 1, .inl g) :: .inl (2, 9, .inr f) :: J), bc, bs)) rfl ?_
    refine m_if rfl ⟨by omega, by omega⟩ (fun (zc2 : 1 = 0) => absurd zc2 (by omega)) (fun (zc2 : ¬ 1 = 0) => ?_)
    refine m_run 2 (ps' := (115, [some (.inr (.inr (.ref b))), some (.inr (.inl 0)), some (.inr (.inl 13)), some (.inr (.inl 14)), some (.inl 1), some (.inl tn), some (.inl tn)], [.inl 6, .inr (.inl 0)], mW (n, T, (hc, hs, hp), (0, sg), x) (.inl (0, 1, .inl g) :: .inl (2, 9, .inr f) :: J), bc, bs)) rfl ?_
    refine m_callVF [.inl 6] [] rfl rfl ⟨_, rfl, rfl⟩ rfl rfl (a_cnt6 hR) ?_
    show m_Sem (b, Ls, xs) 0 (118, [some (.inr (.inr (.ref b))), some (.inr (.inl 0)), some (.inr (.inl 13)), some (.inr (.inl 14)), some (.inl 1), some (.inl tn), some (.inl tn)], [.inl (-1000001)], mW (n, T, (hc, hs, hp), (0, sg), x) (.inl (0, 1, .inl g) :: .inl (2, 9, .inr f) :: J), bc, bs) _
    refine m_run 1 (ps' := (120, [some (.inr (.inr (.ref b))), some (.inr (.inl 0)), some (.inr (.inl 13)), some (.inr (.inl 14)), some (.inl 1), some (.inl tn), some (.inl tn)], [.inl (-1000001), .inl (-1000001)], mW (n, T, (hc, hs, hp), (0, sg), x) (.inl (0, 1, .inl g) :: .inl (2, 9, .inr f) :: J), bc, bs)) rfl ?_
    refine m_icmp rfl ⟨by omega, by omega⟩ ⟨by omega, by omega⟩ (fun (zc3 : ¬ (-1000001) = (-1000001)) => absurd zc3 (by omega)) (fun (zc3 : ¬ ¬ (-1000001) = (-1000001)) => ?_)
    refine m_run 2 (ps' := (126, [some (.inr (.inr (.ref b))), some (.inr (.inl 0)), some (.inr (.inl 13)), some (.inr (.inl 14)), some (.inl 1), some (.inl tn), some (.inl tn)], [.inl 6, .inr (.inl 0)], mW (n, T, (hc, hs, hp), (0, sg), x) (.inl (0, 1, .inl g) :: .inl (2, 9, .inr f) :: J), bc, bs)) rfl ?_
    refine m_callVF [.inl 6] [] rfl rfl ⟨_, rfl, rfl⟩ rfl rfl (k_fieldN (e := 6) ⟨by omega, by omega⟩ (by unfold okN; omega)) ?_
    show m_Sem (b, Ls, xs) 0 (129, [some (.inr (.inr (.ref b))), some (.inr (.inl 0)), some (.inr (.inl 13)), some (.inr (.inl 14)), some (.inl 1), some (.inl tn), some (.inl tn)], [.inl (-1000001)], mW (n, T, (hc, hs, hp), (0, sg), x) (.inl (0, 1, .inl g) :: .inl (2, 9, .inr f) :: J), bc, bs) _
    refine m_run 1 (ps' := (131, [some (.inr (.inr (.ref b))), some (.inr (.inl 0)), some (.inr (.inl 13)), some (.inr (.inl 14)), some (.inl 1), some (.inl tn), some (.inl tn)], [.inl (-1000001), .inl (-1000001)], mW (n, T, (hc, hs, hp), (0, sg), x) (.inl (0, 1, .inl g) :: .inl (2, 9, .inr f) :: J), bc, bs)) rfl ?_
    refine m_icmp rfl ⟨by omega, by omega⟩ ⟨by omega, by omega⟩ (fun (zc4 : ¬ (-1000001) = (-1000001)) => absurd zc4 (by omega)) (fun (zc4 : ¬ ¬ (-1000001) = (-1000001)) => ?_)
    refine m_run 4 (ps' := (139, [some (.inr (.inr (.ref b))), some (.inr (.inl 0)), some (.inr (.inl 13)), some (.inr (.inl 14)), some (.inl 1), some (.inl tn), some (.inl tn)], [.inl 0, .inl 0, .inl 9, .inr (.inl 0)], mW (n, T, (hc, hs, hp), (0, sg), x) (.inl (0, 1, .inl g) :: .inl (2, 9, .inr f) :: J), bc, bs)) rfl ?_
    refine m_callV [.inl 9, .inl 0, .inl 0] [] rfl rfl ⟨_, rfl, rfl⟩ rfl rfl (k_prod (a := 9) (b := 0) (r := 0) ⟨by omega, by omega⟩ ⟨by omega, by omega⟩ ⟨by omega, by omega⟩ hR hT k1 k2) (fun r_ w_ hq_ _ => ?_)
    rw [if_neg (fun h9 => absurd (inN_i.mp h9.1) (by omega))] at hq_
    obtain ⟨rfl, rfl⟩ := hq_
    show m_Sem (b, Ls, xs) 0 (142, [some (.inr (.inr (.ref b))), some (.inr (.inl 0)), some (.inr (.inl 13)), some (.inr (.inl 14)), some (.inl 1), some (.inl tn), some (.inl tn)], [.inl (-1000001)], mW (n, T, (hc, hs, hp), (0, sg), x) (.inl (0, 1, .inl g) :: .inl (2, 9, .inr f) :: J), bc, bs) _
    refine m_run 1 (ps' := (144, [some (.inr (.inr (.ref b))), some (.inr (.inl 0)), some (.inr (.inl 13)), some (.inr (.inl 14)), some (.inl 1), some (.inl tn), some (.inl tn)], [.inl (-1000001), .inl (-1000001)], mW (n, T, (hc, hs, hp), (0, sg), x) (.inl (0, 1, .inl g) :: .inl (2, 9, .inr f) :: J), bc, bs)) rfl ?_
    refine m_icmp rfl ⟨by omega, by omega⟩ ⟨by omega, by omega⟩ (fun (zc5 : ¬ (-1000001) = (-1000001)) => absurd zc5 (by omega)) (fun (zc5 : ¬ ¬ (-1000001) = (-1000001)) => ?_)
    refine m_run 2 (ps' := (152, [some (.inr (.inr (.ref b))), some (.inr (.inl 0)), some (.inr (.inl 13)), some (.inr (.inl 14)), some (.inl 1), some (.inl tn), some (.inl tn)], [.inl 1], mW (n, T, (hc, hs, hp), (0, sg), x) (.inl (0, 1, .inl g) :: .inl (2, 9, .inr f) :: J), bc, bs)) rfl ?_
    exact m_retz rfl (Or.inr ⟨rfl, Or.inr rfl⟩) rfl
  · intro kv hi1 hi2 ih jn w bc bs hi hj hbc hbs
    have hbeh := w_beh (b := b) (Ls := Ls) (xs := xs) hi1 hi2 ih
    obtain ⟨n, T, h, sg, x, g, f, J, tb, rfl, hg, hL, hR, hT, ⟨k1, k2⟩, hJ⟩ := hi
    obtain ⟨hc, hs, hp⟩ := h
    have hn := hL.1
    have hl := okN_lo hn
    have k1 : 0 ≤ hc := k1
    have k2 : hc ≤ 4 := k2
    show m_Sem (b, Ls, xs) 0 (49, [some (.inr (.inr (.ref b))), some (.inr (.inl 0)), some (.inr (.inl 13)), some (.inr (.inl 14)), some (.inl 1), some (.inl tn), some (.inl kv)], [], mW (n, T, (hc, hs, hp), (0, sg), x) (.inl (0, 1, .inl g) :: .inl (2, 9, .inr f) :: J), bc, bs) _
    refine m_run 2 (ps' := (53, [some (.inr (.inr (.ref b))), some (.inr (.inl 0)), some (.inr (.inl 13)), some (.inr (.inl 14)), some (.inl 1), some (.inl tn), some (.inl kv)], [.inl tn, .inl kv], mW (n, T, (hc, hs, hp), (0, sg), x) (.inl (0, 1, .inl g) :: .inl (2, 9, .inr f) :: J), bc, bs)) rfl ?_
    refine m_icmp rfl ⟨by omega, by omega⟩ ⟨by omega, by omega⟩ (fun (zc1 : tn ≤ kv) => absurd zc1 (by omega)) (fun (zc1 : ¬ tn ≤ kv) => ?_)
    refine m_run 1 (ps' := (58, [some (.inr (.inr (.ref b))), some (.inr (.inl 0)), some (.inr (.inl 13)), some (.inr (.inl 14)), some (.inl 1), some (.inl tn), some (.inl kv)], [.inl 1], mW (n, T, (hc, hs, hp), (0, sg), x) (.inl (0, 1, .inl g) :: .inl (2, 9, .inr f) :: J), bc, bs)) rfl ?_
    refine m_if rfl ⟨by omega, by omega⟩ (fun (zc2 : 1 = 0) => absurd zc2 (by omega)) (fun (zc2 : ¬ 1 = 0) => ?_)
    refine m_run 7 (ps' := (69, [some (.inr (.inr (.ref b))), some (.inr (.inl 0)), some (.inr (.inl 13)), some (.inr (.inl 14)), some (.inl 1), some (.inl tn), some (.inl kv)], [.inl (1 + kv), .inr (.inr (.ref b)), .inr (.inl 14), .inr (.inl 13), .inr (.inl 0)], mW (n, T, (hc, hs, hp), (0, sg), x) (.inl (0, 1, .inl g) :: .inl (2, 9, .inr f) :: J), bc, bs)) rfl ?_
    refine m_callSF [.inr (.inr (.ref b)), .inl (1 + kv)] [.inr (.inl 14), .inr (.inl 13), .inr (.inl 0)] rfl rfl rfl (a_cell (k := (1 + kv)) hLs (by omega) (by omega)) ?_
    show m_Sem (b, Ls, xs) 0 (72, [some (.inr (.inr (.ref b))), some (.inr (.inl 0)), some (.inr (.inl 13)), some (.inr (.inl 14)), some (.inl 1), some (.inl tn), some (.inl kv)], [.inl (cellL Ls xs (1 + kv)), .inr (.inl 14), .inr (.inl 13), .inr (.inl 0)], mW (n, T, (hc, hs, hp), (0, sg), x) (.inl (0, 1, .inl g) :: .inl (2, 9, .inr f) :: J), bc, bs) _
    refine m_run 4 (ps' := (79, [some (.inr (.inr (.ref b))), some (.inr (.inl 0)), some (.inr (.inl 13)), some (.inr (.inl 14)), some (.inl 1), some (.inl tn), some (.inl kv)], [.inl ((Int32.ofInt (cellL Ls xs (1 + kv)) ^^^ Int32.ofInt (7919 * kv)).toInt), .inr (.inl 14), .inr (.inl 13), .inr (.inl 0)], mW (n, T, (hc, hs, hp), (0, sg), x) (.inl (0, 1, .inl g) :: .inl (2, 9, .inr f) :: J), bc, bs)) rfl ?_
    generalize (Int32.ofInt (cellL Ls xs (1 + kv)) ^^^ Int32.ofInt (7919 * kv)).toInt = z
    have hw0 := lowL_in (v := z) (m := 16) (by omega)
    by_cases v1 : lowL z 16 < 6
    · refine m_callS [.inr (.inl 0), .inr (.inl 13), .inr (.inl 14), .inl z] [] rfl rfl rfl (a_acF (z := z) hg hL hR hT k1 k2 v1) (fun r_ w_ hq_ _ => ?_)
      obtain ⟨rfl, hi3⟩ := hq_
      exact hbeh _ _ bc bs hi3 (by omega) (by omega) (by omega)
    by_cases v2 : lowL z 16 < 9
    · by_cases v3 : n = 9
      · subst v3
        refine m_callS [.inr (.inl 0), .inr (.inl 13), .inr (.inl 14), .inl z] [] rfl rfl rfl (a_acT (z := z) hg hL hR hT k1 k2 (by omega) v2) (fun r_ w_ hq_ _ => ?_)
        obtain ⟨rfl, hi3⟩ := hq_
        exact hbeh _ _ bc bs hi3 (by omega) (by omega) (by omega)
      · refine m_callS [.inr (.inl 0), .inr (.inl 13), .inr (.inl 14), .inl z] [] rfl rfl rfl (a_acTN (z := z) hg hL hR hT k1 k2 (by omega) v2 v3) (fun r_ w_ hq_ _ => ?_)
        obtain ⟨rfl, hi3⟩ := hq_
        exact hbeh _ _ bc bs hi3 (by omega) (by omega) (by omega)
    by_cases v4 : lowL z 16 < 12
    · refine m_callS2 (mi' := 61) [.inr (.inl 0), .inr (.inl 13), .inr (.inl 14), .inl z] [] rfl rfl (by decide) ⟨by decide, rfl⟩ rfl (cok_mono (bc := 1) (bs := 9) rfl (by omega) (by omega)) (a_acX (z := z) hg hL hR hT k1 k2 (by omega) v4) (fun r_ w_ hq_ _ => ?_)
      obtain ⟨rfl, hi3⟩ := hq_
      exact hbeh _ _ (bc - 1) (bs - 9) hi3 (by omega) (by omega) (by omega)
    · refine m_callS [.inr (.inl 0), .inr (.inl 13), .inr (.inl 14), .inl z] [] rfl rfl rfl (a_acP (z := z) hg hL hR hT k1 k2 (by omega)) (fun r_ w_ hq_ _ => ?_)
      obtain ⟨rfl, hi3⟩ := hq_
      exact hbeh _ _ bc bs hi3 (by omega) (by omega) (by omega)
set_option maxHeartbeats 4000000 in
set_option maxRecDepth 100000 in
theorem w_start {b Ls : Nat} {xs : Nat → Int32} (hLs : Ls < 2147483648) : m_Run (b, Ls, xs) 0 [.inr (.inr (.ref b))] [] (fun r w => r = some (.inl 1)) := by
  show m_Sem (b, Ls, xs) 0 (0, [some (.inr (.inr (.ref b))), none, none, none, none, none, none], [], [], 600000, 7302250) _
  refine m_run 2 (ps' := (4, [some (.inr (.inr (.ref b))), none, none, none, none, none, none], [.inr (.inl 0), .inr (.inl 0)], [.inr (5, [.inr (.inr .null), .inr (.inr .null), .inr (.inr .null), .inr (.inr .null), .inr (.inr .null)])], 599999, 7302245)) rfl ?_
  refine m_callI [] [.inr (.inl 0)] rfl rfl rfl i_rp (fun r_ w_ hq_ _ => ?_)
  obtain ⟨rfl, T2, rfl, hT2, hF2⟩ := hq_
  refine m_run 10 (ps' := (20, [some (.inr (.inr (.ref b))), some (.inr (.inl 0)), some (.inr (.inl 13)), some (.inr (.inl 14)), none, none, none], [.inl 3, .inr (.inl 14), .inr (.inl 13)], mW (3, T2, (0, (fun _ => 0), (fun _ => 0)), (0, (fun _ => 0)), ((fun _ => 0), (fun _ => 0), (fun _ => 0), 0, 0, 0)) (.inl (0, 1, .inl (fun _ => 0)) :: .inl (2, 9, .inr (fun _ => 0)) :: ([])), 599985, 7301479)) rfl ?_
  have hn3 : okN 3 := by unfold okN; omega
  refine m_callS [.inr (.inl 13), .inr (.inl 14), .inl 3] [] rfl rfl rfl (a_beg (n := 3) hn3) (fun r_ w_ hq_ _ => ?_)
  obtain ⟨rfl, f2, rfl, hG2⟩ := hq_
  have hL := tbl_L hn3 hG2 (fun a b g1 g2 g3 g4 => fpS_in hn3 g1 g2 g3 g4)
  have hR := tbl_C hn3 hF2 (fun a b g1 g2 g3 g4 => fpS_in hn3 g1 g2 g3 g4)
  show m_Sem (b, Ls, xs) 0 (23, [some (.inr (.inr (.ref b))), some (.inr (.inl 0)), some (.inr (.inl 13)), some (.inr (.inl 14)), none, none, none], [], mW (3, T2, (0, (fun _ => 0), (fun _ => 0)), (0, (fun _ => 0)), ((fun _ => 0), (fun _ => 0), (fun _ => 0), 0, 0, 0)) (.inl (0, 1, .inl (m_up (fun _ => 0) 0 3)) :: .inl (2, 9, .inr f2) :: ([])), 599985, 7301479) _
  refine m_run 3 (ps' := (26, [some (.inr (.inr (.ref b))), some (.inr (.inl 0)), some (.inr (.inl 13)), some (.inr (.inl 14)), none, none, none], [.inr (.inl 14), .inr (.inl 13), .inr (.inl 0)], mW (3, T2, (0, (fun _ => 0), (fun _ => 0)), (0, (fun _ => 0)), ((fun _ => 0), (fun _ => 0), (fun _ => 0), 0, 0, 0)) (.inl (0, 1, .inl (m_up (fun _ => 0) 0 3)) :: .inl (2, 9, .inr f2) :: ([])), 599985, 7301479)) rfl ?_
  refine m_callSF [.inr (.inl 0), .inr (.inl 13), .inr (.inl 14)] [] rfl rfl rfl (a_so (m_up_s _ _ _) hL hR) ?_
  show m_Sem (b, Ls, xs) 0 (29, [some (.inr (.inr (.ref b))), some (.inr (.inl 0)), some (.inr (.inl 13)), some (.inr (.inl 14)), none, none, none], [.inl 1], mW (3, T2, (0, (fun _ => 0), (fun _ => 0)), (0, (fun _ => 0)), ((fun _ => 0), (fun _ => 0), (fun _ => 0), 0, 0, 0)) (.inl (0, 1, .inl (m_up (fun _ => 0) 0 3)) :: .inl (2, 9, .inr f2) :: ([])), 599985, 7301479) _
  refine m_run 4 (ps' := (35, [some (.inr (.inr (.ref b))), some (.inr (.inl 0)), some (.inr (.inl 13)), some (.inr (.inl 14)), some (.inl 1), none, none], [.inl 0, .inr (.inr (.ref b)), .inl 8], mW (3, T2, (0, (fun _ => 0), (fun _ => 0)), (0, (fun _ => 0)), ((fun _ => 0), (fun _ => 0), (fun _ => 0), 0, 0, 0)) (.inl (0, 1, .inl (m_up (fun _ => 0) 0 3)) :: .inl (2, 9, .inr f2) :: ([])), 599985, 7301479)) rfl ?_
  refine m_callSF [.inr (.inr (.ref b)), .inl 0] [.inl 8] rfl rfl rfl (a_cell (k := 0) hLs (by omega) (by omega)) ?_
  show m_Sem (b, Ls, xs) 0 (38, [some (.inr (.inr (.ref b))), some (.inr (.inl 0)), some (.inr (.inl 13)), some (.inr (.inl 14)), some (.inl 1), none, none], [.inl (cellL Ls xs 0), .inl 8], mW (3, T2, (0, (fun _ => 0), (fun _ => 0)), (0, (fun _ => 0)), ((fun _ => 0), (fun _ => 0), (fun _ => 0), 0, 0, 0)) (.inl (0, 1, .inl (m_up (fun _ => 0) 0 3)) :: .inl (2, 9, .inr f2) :: ([])), 599985, 7301479) _
  refine m_run 1 (ps' := (40, [some (.inr (.inr (.ref b))), some (.inr (.inl 0)), some (.inr (.inl 13)), some (.inr (.inl 14)), some (.inl 1), none, none], [.inl 30, .inl (cellL Ls xs 0), .inl 8], mW (3, T2, (0, (fun _ => 0), (fun _ => 0)), (0, (fun _ => 0)), ((fun _ => 0), (fun _ => 0), (fun _ => 0), 0, 0, 0)) (.inl (0, 1, .inl (m_up (fun _ => 0) 0 3)) :: .inl (2, 9, .inr f2) :: ([])), 599985, 7301479)) rfl ?_
  refine m_callSF [.inl (cellL Ls xs 0), .inl 30] [.inl 8] rfl rfl rfl (a_low (v := (cellL Ls xs 0)) (m := 30) (by omega) (by omega)) ?_
  have zt1 := lowL_in (v := (cellL Ls xs 0)) (m := 30) (by omega)
  show m_Sem (b, Ls, xs) 0 (43, [some (.inr (.inr (.ref b))), some (.inr (.inl 0)), some (.inr (.inl 13)), some (.inr (.inl 14)), some (.inl 1), none, none], [.inl (lowL (cellL Ls xs 0) 30), .inl 8], mW (3, T2, (0, (fun _ => 0), (fun _ => 0)), (0, (fun _ => 0)), ((fun _ => 0), (fun _ => 0), (fun _ => 0), 0, 0, 0)) (.inl (0, 1, .inl (m_up (fun _ => 0) 0 3)) :: .inl (2, 9, .inr f2) :: ([])), 599985, 7301479) _
  refine m_run 4 (ps' := (49, [some (.inr (.inr (.ref b))), some (.inr (.inl 0)), some (.inr (.inl 13)), some (.inr (.inl 14)), some (.inl 1), some (.inl (8 + (lowL (cellL Ls xs 0) 30))), some (.inl 0)], [], mW (3, T2, (0, (fun _ => 0), (fun _ => 0)), (0, (fun _ => 0)), ((fun _ => 0), (fun _ => 0), (fun _ => 0), 0, 0, 0)) (.inl (0, 1, .inl (m_up (fun _ => 0) 0 3)) :: .inl (2, 9, .inr f2) :: ([])), 599985, 7301479)) rfl ?_
  exact w_loop (b := b) (Ls := Ls) (xs := xs) hLs (by omega) 0 (by omega) (by omega) 0 _ _ _ ⟨3, T2, _, _, _, _, f2, [], fpS 3, rfl, m_up_s _ _ _, hL, hR, hT2, ⟨by show (0 : Int) ≤ 0; omega, by show (0 : Int) ≤ 4; omega⟩, rfl⟩ (by omega) rfl rfl
