set_option maxHeartbeats 4000000 in
set_option maxRecDepth 100000 in
theorem w_loop {b Ls : Nat} {xs : Nat → Int32} (hLs : Ls < 2147483648) : ∀ jv : Int, 0 ≤ jv → jv ≤ ((Ls : Int) / 7) → ∀ (c : CS) (m : MS) (hrel : Rel c m), m_Sem (b, Ls, xs) 0 (18, [some (.inr (.inr (.ref b))), some (.inr (.inl 0)), some (.inr (.inl 13)), some (.inl (7 * jv))], [], mW c m, 0, 0) (fun r w => r = some (.inl 1)) := by
  refine m_down 0 ((Ls : Int) / 7) ?_ ?_
  · intro c m hrel
    show m_Sem (b, Ls, xs) 0 (18, [some (.inr (.inr (.ref b))), some (.inr (.inl 0)), some (.inr (.inl 13)), some (.inl (7 * ((Ls : Int) / 7)))], [], mW c m, 0, 0) _
    refine m_run 2 (ps' := (20, [some (.inr (.inr (.ref b))), some (.inr (.inl 0)), some (.inr (.inl 13)), some (.inl (7 * ((Ls : Int) / 7)))], [.inr (.inr (.ref b)), .inl (7 * ((Ls : Int) / 7))], mW c m, 0, 0)) rfl ?_
    refine m_slen rfl ?_
    refine m_run 2 (ps' := (24, [some (.inr (.inr (.ref b))), some (.inr (.inl 0)), some (.inr (.inl 13)), some (.inl (7 * ((Ls : Int) / 7)))], [.inl ((Ls : Int) - 7), .inl (7 * ((Ls : Int) / 7))], mW c m, 0, 0)) rfl ?_
    refine m_icmp rfl ⟨by omega, by omega⟩ ⟨by omega, by omega⟩ (fun (zc1 : ((Ls : Int) - 7) < (7 * ((Ls : Int) / 7))) => ?_) (fun (zc1 : ¬ ((Ls : Int) - 7) < (7 * ((Ls : Int) / 7))) => absurd zc1 (not_not_intro (by omega)))
    refine m_run 1 (ps' := (761, [some (.inr (.inr (.ref b))), some (.inr (.inl 0)), some (.inr (.inl 13)), some (.inl (7 * ((Ls : Int) / 7)))], [.inl 1], mW c m, 0, 0)) rfl ?_
    exact m_ret1 rfl (Or.inr ⟨rfl, Or.inr rfl⟩) rfl rfl
  · intro jv hi1 hi2 ih c m hrel
    refine m_run 2 (ps' := (20, [some (.inr (.inr (.ref b))), some (.inr (.inl 0)), some (.inr (.inl 13)), some (.inl (7 * jv))], [.inr (.inr (.ref b)), .inl (7 * jv)], mW c m, 0, 0)) rfl ?_
    refine m_slen rfl ?_
    refine m_run 2 (ps' := (24, [some (.inr (.inr (.ref b))), some (.inr (.inl 0)), some (.inr (.inl 13)), some (.inl (7 * jv))], [.inl ((Ls : Int) - 7), .inl (7 * jv)], mW c m, 0, 0)) rfl ?_
    refine m_icmp rfl ⟨by omega, by omega⟩ ⟨by omega, by omega⟩ (fun (zc1 : ((Ls : Int) - 7) < (7 * jv)) => absurd zc1 (by omega)) (fun (zc1 : ¬ ((Ls : Int) - 7) < (7 * jv)) => ?_)
    refine m_run 2 (ps' := (29, [some (.inr (.inr (.ref b))), some (.inr (.inl 0)), some (.inr (.inl 13)), some (.inl (7 * jv))], [.inl (7 * jv), .inr (.inr (.ref b))], mW c m, 0, 0)) rfl ?_
    refine m_sld rfl (by omega) (by omega) hLs ?_
    refine m_run 2 (ps' := (33, [some (.inr (.inr (.ref b))), some (.inr (.inl 0)), some (.inr (.inl 13)), some (.inl (7 * jv))], [.inl ((Int32.ofInt ((xs ((7 * jv)).toNat).toInt) &&& Int32.ofInt 31).toInt)], mW c m, 0, 0)) rfl ?_
    obtain ⟨v, hv⟩ : ∃ v, (Int32.ofInt ((xs ((7 * jv)).toNat).toInt) &&& Int32.ofInt 31).toInt = v := ⟨_, rfl⟩
    have hvr : m_R v := by rw [← hv]; exact i32_R _
    rw [hv]
    obtain ⟨n, T, ⟨hc, hs, hp⟩, ⟨ln, sg⟩, ⟨ry, ft, im, en, br, hl⟩⟩ := c
    obtain ⟨S, ⟨q, p⟩, ⟨ty, tx⟩, F, B, G, E⟩ := m
    have e1 : q = hc := hrel.2.1.1
    have e2 : (ty, tx) = (ln, sg) := hrel.2.2.1
    have e3 : ty = ln := congrArg Prod.fst e2
    have e4 : tx = sg := congrArg Prod.snd e2
    subst e1 e3 e4
    have hK : ∀ (c : CS) (m : MS), Rel c m → m_Sem (b, Ls, xs) 0 (754, [some (.inr (.inr (.ref b))), some (.inr (.inl 0)), some (.inr (.inl 13)), some (.inl (7 * jv))], [], mW c m, 0, 0) (fun r w => r = some (.inl 1)) := fun c m hr => m_run 2 (ps' := (18, [some (.inr (.inr (.ref b))), some (.inr (.inl 0)), some (.inr (.inl 13)), some (.inl (7 * jv + 7))], [], mW c m, 0, 0)) rfl (by
      have h9 := ih c m hr
      rw [show 7 * (jv + 1) = 7 * jv + 7 by omega] at h9
      exact h9)
    have h7 : 7 * jv + 7 ≤ Ls := by omega
    have h0 : 0 ≤ 7 * jv := by omega
    rcases (show v < 0 ∨ v = 0 ∨ v = 1 ∨ v = 2 ∨ v = 3 ∨ v = 4 ∨ v = 5 ∨ v = 6 ∨ v = 7 ∨ v = 8 ∨ v = 9 ∨ v = 10 ∨ v = 11 ∨ v = 12 ∨ v = 13 ∨ v = 14 ∨ v = 15 ∨ v = 16 ∨ v = 17 ∨ v = 18 ∨ v = 19 ∨ v = 20 ∨ v = 21 ∨ 21 < v by omega) with hz | rfl | rfl | rfl | rfl | rfl | rfl | rfl | rfl | rfl | rfl | rfl | rfl | rfl | rfl | rfl | rfl | rfl | rfl | rfl | rfl | rfl | rfl | hz
    · refine m_tabOut (tgt := 754) rfl hvr (Or.inl (by omega)) rfl ?_
      exact hK _ _ hrel
    · refine m_tabIn (tgt := 136) rfl ⟨by decide, by decide⟩ (by decide) (by decide) rfl rfl ?_
      by_cases h9 : okN (xs (7 * jv + 1).toNat).toInt
      · exact w_fieldY h9 hrel h0 h7 hLs hK
      · exact w_fieldN h9 hrel h0 h7 hLs hK
    · refine m_tabIn (tgt := 159) rfl ⟨by decide, by decide⟩ (by decide) (by decide) rfl rfl ?_
      by_cases h9 : n = 9
      · subst h9; exact w_twistY hrel h0 h7 hLs hK
      · exact w_twistN h9 hrel h0 h7 hLs hK
    · refine m_tabIn (tgt := 172) rfl ⟨by decide, by decide⟩ (by decide) (by decide) rfl rfl ?_
      by_cases h9 : inN n (xs (7 * jv + 1).toNat).toInt = true ∧ inN n (xs (7 * jv + 2).toNat).toInt = true ∧ inN n (xs (7 * jv + 3).toNat).toInt = true
      · exact w_prodY h9 hrel h0 h7 hLs hK
      · exact w_prodN h9 hrel h0 h7 hLs hK
    · refine m_tabIn (tgt := 215) rfl ⟨by decide, by decide⟩ (by decide) (by decide) rfl rfl ?_
      exact w_exch hrel h0 h7 hLs hK
    · refine m_tabIn (tgt := 228) rfl ⟨by decide, by decide⟩ (by decide) (by decide) rfl rfl ?_
      exact w_by hrel h0 h7 hLs hK
    · refine m_tabIn (tgt := 271) rfl ⟨by decide, by decide⟩ (by decide) (by decide) rfl rfl ?_
      exact w_law hrel h0 h7 hLs hK
    · refine m_tabIn (tgt := 304) rfl ⟨by decide, by decide⟩ (by decide) (by decide) rfl rfl ?_
      exact w_els hrel h0 h7 hLs hK
    · refine m_tabIn (tgt := 327) rfl ⟨by decide, by decide⟩ (by decide) (by decide) rfl rfl ?_
      exact w_on hrel h0 h7 hLs hK
    · refine m_tabIn (tgt := 360) rfl ⟨by decide, by decide⟩ (by decide) (by decide) rfl rfl ?_
      exact w_at hrel h0 h7 hLs hK
    · refine m_tabIn (tgt := 403) rfl ⟨by decide, by decide⟩ (by decide) (by decide) rfl rfl ?_
      exact w_join hrel h0 h7 hLs hK
    · refine m_tabIn (tgt := 446) rfl ⟨by decide, by decide⟩ (by decide) (by decide) rfl rfl ?_
      exact w_plane hrel h0 h7 hLs hK
    · refine m_tabIn (tgt := 469) rfl ⟨by decide, by decide⟩ (by decide) (by decide) rfl rfl ?_
      exact w_tri hrel h0 h7 hLs hK
    · refine m_tabIn (tgt := 544) rfl ⟨by decide, by decide⟩ (by decide) (by decide) rfl rfl ?_
      exact w_open hrel h0 h7 hLs hK
    · refine m_tabIn (tgt := 567) rfl ⟨by decide, by decide⟩ (by decide) (by decide) rfl rfl ?_
      exact w_hex hrel h0 h7 hLs hK
    · refine m_tabIn (tgt := 600) rfl ⟨by decide, by decide⟩ (by decide) (by decide) rfl rfl ?_
      exact w_mir hrel h0 h7 hLs hK
    · refine m_tabIn (tgt := 633) rfl ⟨by decide, by decide⟩ (by decide) (by decide) rfl rfl ?_
      exact w_share hrel h0 h7 hLs hK
    · refine m_tabIn (tgt := 646) rfl ⟨by decide, by decide⟩ (by decide) (by decide) rfl rfl ?_
      exact w_cnt hrel h0 h7 hLs hK
    · refine m_tabIn (tgt := 669) rfl ⟨by decide, by decide⟩ (by decide) (by decide) rfl rfl ?_
      by_cases h9 : q = 0
      · subst h9; exact w_undoN hrel h0 h7 hLs hK
      · exact w_undoY (by have h8 := hrel.2.1.2.1.1; have h6 : 0 ≤ q := h8; omega) hrel h0 h7 hLs hK
    · refine m_tabIn (tgt := 682) rfl ⟨by decide, by decide⟩ (by decide) (by decide) rfl rfl ?_
      exact w_type hrel h0 h7 hLs hK
    · refine m_tabIn (tgt := 705) rfl ⟨by decide, by decide⟩ (by decide) (by decide) rfl rfl ?_
      exact w_clr hrel h0 h7 hLs hK
    · refine m_tabIn (tgt := 718) rfl ⟨by decide, by decide⟩ (by decide) (by decide) rfl rfl ?_
      exact w_fau hrel h0 h7 hLs hK
    · refine m_tabIn (tgt := 741) rfl ⟨by decide, by decide⟩ (by decide) (by decide) rfl rfl ?_
      by_cases h9 : oI (fplS n ty tx) = -1
      · exact w_playY h9 hrel h0 h7 hLs hK
      · exact w_playN h9 hrel h0 h7 hLs hK
    · refine m_tabOut (tgt := 754) rfl hvr (Or.inr (by omega)) rfl ?_
      exact hK _ _ hrel
set_option maxHeartbeats 4000000 in
set_option maxRecDepth 100000 in
theorem w_start {b Ls : Nat} {xs : Nat → Int32} (hLs : Ls < 2147483648) : m_Run (b, Ls, xs) 0 [.inr (.inr (.ref b))] [] (fun r w => r = some (.inl 1)) := by
  show m_Sem (b, Ls, xs) 0 (0, [some (.inr (.inr (.ref b))), none, none, none], [], [], 20, 1699) _
  refine m_run 2 (ps' := (4, [some (.inr (.inr (.ref b))), none, none, none], [.inr (.inl 0), .inr (.inl 0)], [.inr (5, [.inr (.inr .null), .inr (.inr .null), .inr (.inr .null), .inr (.inr .null), .inr (.inr .null)])], 19, 1694)) rfl ?_
  refine m_callI [] [.inr (.inl 0)] rfl rfl rfl i_rp (fun r_ w_ hq_ _ => ?_)
  obtain ⟨rfl, T2, rfl, hT2, hF2⟩ := hq_
  refine m_run 3 (ps' := (12, [some (.inr (.inr (.ref b))), some (.inr (.inl 0)), none, none], [.inr (.inl 13), .inr (.inl 13)], mC (3, T2, (0, (fun _ => 0), (fun _ => 0)), (0, (fun _ => 0)), ((fun _ => 0), (fun _ => 0), (fun _ => 0), 0, 0, 0)) ++ [.inr (6, [.inr (.inr .null), .inr (.inr .null), .inl 0, .inr (.inr .null), .inl 0, .inl 0, .inl 0, .inl 0, .inr (.inr .null), .inr (.inr .null), .inr (.inr .null), .inl 0, .inl 0])], 6, 925)) rfl ?_
  refine m_callI [] [.inr (.inl 13)] rfl rfl rfl i_model (fun r_ w_ hq_ _ => ?_)
  obtain ⟨rfl, S3, rfl, hfm⟩ := hq_
  show m_Sem (b, Ls, xs) 0 (15, [some (.inr (.inr (.ref b))), some (.inr (.inl 0)), none, none], [.inr (.inl 13)], mW _ _, 0, 0) _
  refine m_run 3 (ps' := (18, [some (.inr (.inr (.ref b))), some (.inr (.inl 0)), some (.inr (.inl 13)), some (.inl 0)], [], mW _ _, 0, 0)) rfl ?_
  have h9 := w_loop (b := b) (Ls := Ls) (xs := xs) hLs 0 (by omega) (by omega) _ _ (rel_0 (z1 := fun _ => 0) (z2 := fun _ => 0) (p := fun _ => 0) (sg := fun _ => 0) (x := ((fun _ => 0), (fun _ => 0), (fun _ => 0), 0, 0, 0)) (F := (0, 0, 0)) (B := ((fun _ => 0), (fun _ => 0))) (G := fun _ => 0) (E := (0, 0)) hT2 hF2 hfm rfl)
  exact h9
