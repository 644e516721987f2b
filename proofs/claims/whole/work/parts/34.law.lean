set_option maxHeartbeats 4000000 in
set_option maxRecDepth 100000 in
theorem w_fieldY {b Ls : Nat} {xs : Nat → Int32} {Q : Option mPV → mPW → Prop} {n : Int} {T : Int → Int} {hc : Int} {hs hp : Int → Int} {ln : Int} {sg : Int → Int} {x : XS} {S p : Int → Int} {F : Int × Int × Int} {B : (Nat → Int64) × (Nat → Int64)} {G : Int → Int} {E : Int × Int} {i : Int} (hok : okN (xs (i + 1).toNat).toInt) (hrel : Rel (n, T, (hc, hs, hp), (ln, sg), x) (S, (hc, p), (ln, sg), F, B, G, E)) (h0 : 0 ≤ i) (h7 : i + 7 ≤ Ls) (hLs : Ls < 2147483648) (K9 : ∀ (c : CS) (m : MS), Rel c m → m_Sem (b, Ls, xs) 0 (754, [some (.inr (.inr (.ref b))), some (.inr (.inl 0)), some (.inr (.inl 13)), some (.inl i)], [], mW c m, 0, 0) Q) : m_Sem (b, Ls, xs) 0 (136, [some (.inr (.inr (.ref b))), some (.inr (.inl 0)), some (.inr (.inl 13)), some (.inl i)], [], mW (n, T, (hc, hs, hp), (ln, sg), x) (S, (hc, p), (ln, sg), F, B, G, E), 0, 0) (Q) := by
  obtain ⟨⟨tb, hC, hM, hT⟩, hH, -, hS⟩ := id hrel
  obtain ⟨hH1, hH2⟩ := id hH.2.1
  dsimp only at hC hM hT hS hH1 hH2
  have hn := hC.1
  have hln := okN_lo hn
  refine m_run 5 (ps' := (141, [some (.inr (.inr (.ref b))), some (.inr (.inl 0)), some (.inr (.inl 13)), some (.inl i)], [.inl (i + 1), .inr (.inr (.ref b)), .inr (.inl 0)], mW (n, T, (hc, hs, hp), (ln, sg), x) (S, (hc, p), (ln, sg), F, B, G, E), 0, 0)) rfl ?_
  refine m_sld rfl (by omega) (by omega) hLs ?_
  refine m_callV [.inl ((xs ((i + 1)).toNat).toInt)] [] rfl rfl ⟨_, rfl, rfl⟩ rfl rfl (k_field (i32_R _) hok hC hT hH1 hH2) (fun r_ w_ hq_ _ => ?_)
  obtain ⟨rfl, T2, rfl, hT2, hF2⟩ := hq_
  show m_Sem (b, Ls, xs) 0 (145, [some (.inr (.inr (.ref b))), some (.inr (.inl 0)), some (.inr (.inl 13)), some (.inl i)], [.inl n], mW ((xs (i + 1).toNat).toInt, T2, (keepH n T (hc, hs, hp)), (ln, sg), x) (S, (hc, p), (ln, sg), F, B, G, E), 0, 0) _
  refine m_run 5 (ps' := (150, [some (.inr (.inr (.ref b))), some (.inr (.inl 0)), some (.inr (.inl 13)), some (.inl i)], [.inl (i + 1), .inr (.inr (.ref b)), .inr (.inl 13), .inl n], mW ((xs (i + 1).toNat).toInt, T2, (keepH n T (hc, hs, hp)), (ln, sg), x) (S, (hc, p), (ln, sg), F, B, G, E), 0, 0)) rfl ?_
  refine m_sld rfl (by omega) (by omega) hLs ?_
  refine m_callV [.inl ((xs ((i + 1)).toNat).toInt)] [.inl n] rfl rfl ⟨_, rfl, rfl⟩ rfl rfl (d_field (i32_R _) hok hn hM.2.1 hH1 hH2) (fun r_ w_ hq_ _ => ?_)
  obtain ⟨rfl, P2, S3, rfl, hsv, hfm⟩ := hq_
  show m_Sem (b, Ls, xs) 0 (154, [some (.inr (.inr (.ref b))), some (.inr (.inl 0)), some (.inr (.inl 13)), some (.inl i)], [.inl n, .inl n], mW ((xs (i + 1).toNat).toInt, T2, (keepH n T (hc, hs, hp)), (ln, sg), x) (S3, P2, (ln, sg), F, B, G, E), 0, 0) _
  refine m_eqr rfl ?_
  exact K9 _ _ (⟨kp_field hok hT2 hF2 hfm, hs_keep ⟨tb, hC, hM, hT⟩ hH hsv, rfl, hS⟩)
set_option maxHeartbeats 4000000 in
set_option maxRecDepth 100000 in
theorem w_fieldN {b Ls : Nat} {xs : Nat → Int32} {Q : Option mPV → mPW → Prop} {n : Int} {T : Int → Int} {hc : Int} {hs hp : Int → Int} {ln : Int} {sg : Int → Int} {x : XS} {S p : Int → Int} {F : Int × Int × Int} {B : (Nat → Int64) × (Nat → Int64)} {G : Int → Int} {E : Int × Int} {i : Int} (hok : ¬ okN (xs (i + 1).toNat).toInt) (hrel : Rel (n, T, (hc, hs, hp), (ln, sg), x) (S, (hc, p), (ln, sg), F, B, G, E)) (h0 : 0 ≤ i) (h7 : i + 7 ≤ Ls) (hLs : Ls < 2147483648) (K9 : ∀ (c : CS) (m : MS), Rel c m → m_Sem (b, Ls, xs) 0 (754, [some (.inr (.inr (.ref b))), some (.inr (.inl 0)), some (.inr (.inl 13)), some (.inl i)], [], mW c m, 0, 0) Q) : m_Sem (b, Ls, xs) 0 (136, [some (.inr (.inr (.ref b))), some (.inr (.inl 0)), some (.inr (.inl 13)), some (.inl i)], [], mW (n, T, (hc, hs, hp), (ln, sg), x) (S, (hc, p), (ln, sg), F, B, G, E), 0, 0) (Q) := by
  obtain ⟨⟨tb, hC, hM, hT⟩, hH, -, hS⟩ := id hrel
  obtain ⟨hH1, hH2⟩ := id hH.2.1
  dsimp only at hC hM hT hS hH1 hH2
  have hn := hC.1
  have hln := okN_lo hn
  refine m_run 5 (ps' := (141, [some (.inr (.inr (.ref b))), some (.inr (.inl 0)), some (.inr (.inl 13)), some (.inl i)], [.inl (i + 1), .inr (.inr (.ref b)), .inr (.inl 0)], mW (n, T, (hc, hs, hp), (ln, sg), x) (S, (hc, p), (ln, sg), F, B, G, E), 0, 0)) rfl ?_
  refine m_sld rfl (by omega) (by omega) hLs ?_
  refine m_callVF [.inl ((xs ((i + 1)).toNat).toInt)] [] rfl rfl ⟨_, rfl, rfl⟩ rfl rfl (k_fieldN (i32_R _) hok) ?_
  show m_Sem (b, Ls, xs) 0 (145, [some (.inr (.inr (.ref b))), some (.inr (.inl 0)), some (.inr (.inl 13)), some (.inl i)], [.inl (-1000001)], mW (n, T, (hc, hs, hp), (ln, sg), x) (S, (hc, p), (ln, sg), F, B, G, E), 0, 0) _
  refine m_run 5 (ps' := (150, [some (.inr (.inr (.ref b))), some (.inr (.inl 0)), some (.inr (.inl 13)), some (.inl i)], [.inl (i + 1), .inr (.inr (.ref b)), .inr (.inl 13), .inl (-1000001)], mW (n, T, (hc, hs, hp), (ln, sg), x) (S, (hc, p), (ln, sg), F, B, G, E), 0, 0)) rfl ?_
  refine m_sld rfl (by omega) (by omega) hLs ?_
  refine m_callVF [.inl ((xs ((i + 1)).toNat).toInt)] [.inl (-1000001)] rfl rfl ⟨_, rfl, rfl⟩ rfl rfl (d_fieldN (i32_R _) hok) ?_
  show m_Sem (b, Ls, xs) 0 (154, [some (.inr (.inr (.ref b))), some (.inr (.inl 0)), some (.inr (.inl 13)), some (.inl i)], [.inl (-1000001), .inl (-1000001)], mW (n, T, (hc, hs, hp), (ln, sg), x) (S, (hc, p), (ln, sg), F, B, G, E), 0, 0) _
  refine m_eqr rfl ?_
  exact K9 _ _ (hrel)
set_option maxHeartbeats 4000000 in
set_option maxRecDepth 100000 in
theorem w_twistY {b Ls : Nat} {xs : Nat → Int32} {Q : Option mPV → mPW → Prop} {T : Int → Int} {hc : Int} {hs hp : Int → Int} {ln : Int} {sg : Int → Int} {x : XS} {S p : Int → Int} {F : Int × Int × Int} {B : (Nat → Int64) × (Nat → Int64)} {G : Int → Int} {E : Int × Int} {i : Int}  (hrel : Rel (9, T, (hc, hs, hp), (ln, sg), x) (S, (hc, p), (ln, sg), F, B, G, E)) (h0 : 0 ≤ i) (h7 : i + 7 ≤ Ls) (hLs : Ls < 2147483648) (K9 : ∀ (c : CS) (m : MS), Rel c m → m_Sem (b, Ls, xs) 0 (754, [some (.inr (.inr (.ref b))), some (.inr (.inl 0)), some (.inr (.inl 13)), some (.inl i)], [], mW c m, 0, 0) Q) : m_Sem (b, Ls, xs) 0 (159, [some (.inr (.inr (.ref b))), some (.inr (.inl 0)), some (.inr (.inl 13)), some (.inl i)], [], mW (9, T, (hc, hs, hp), (ln, sg), x) (S, (hc, p), (ln, sg), F, B, G, E), 0, 0) (Q) := by
  obtain ⟨⟨tb, hC, hM, hT⟩, hH, -, hS⟩ := id hrel
  obtain ⟨hH1, hH2⟩ := id hH.2.1
  dsimp only at hC hM hT hS hH1 hH2
  have hn := hC.1
  have hln := okN_lo hn
  refine m_run 1 (ps' := (160, [some (.inr (.inr (.ref b))), some (.inr (.inl 0)), some (.inr (.inl 13)), some (.inl i)], [.inr (.inl 0)], mW (9, T, (hc, hs, hp), (ln, sg), x) (S, (hc, p), (ln, sg), F, B, G, E), 0, 0)) rfl ?_
  refine m_callV [] [] rfl rfl ⟨_, rfl, rfl⟩ rfl rfl (k_twist  hC hT hH1 hH2) (fun r_ w_ hq_ _ => ?_)
  obtain ⟨rfl, T2, rfl, hT2, hF2⟩ := hq_
  show m_Sem (b, Ls, xs) 0 (163, [some (.inr (.inr (.ref b))), some (.inr (.inl 0)), some (.inr (.inl 13)), some (.inl i)], [.inl (twC tb)], mW (9, T2, (keepH 9 T (hc, hs, hp)), (ln, sg), x) (S, (hc, p), (ln, sg), F, B, G, E), 0, 0) _
  refine m_run 1 (ps' := (164, [some (.inr (.inr (.ref b))), some (.inr (.inl 0)), some (.inr (.inl 13)), some (.inl i)], [.inr (.inl 13), .inl (twC tb)], mW (9, T2, (keepH 9 T (hc, hs, hp)), (ln, sg), x) (S, (hc, p), (ln, sg), F, B, G, E), 0, 0)) rfl ?_
  refine m_callV [] [.inl (twC tb)] rfl rfl ⟨_, rfl, rfl⟩ rfl rfl (d_twist  hM hH1 hH2) (fun r_ w_ hq_ _ => ?_)
  obtain ⟨rfl, P2, S3, rfl, hsv, hfm⟩ := hq_
  show m_Sem (b, Ls, xs) 0 (167, [some (.inr (.inr (.ref b))), some (.inr (.inl 0)), some (.inr (.inl 13)), some (.inl i)], [.inl (twC tb), .inl (twC tb)], mW (9, T2, (keepH 9 T (hc, hs, hp)), (ln, sg), x) (S3, P2, (ln, sg), F, B, G, E), 0, 0) _
  refine m_eqr rfl ?_
  exact K9 _ _ (⟨kp_twist hT2 hF2 hfm, hs_keep ⟨tb, hC, hM, hT⟩ hH hsv, rfl, hS⟩)
set_option maxHeartbeats 4000000 in
set_option maxRecDepth 100000 in
theorem w_twistN {b Ls : Nat} {xs : Nat → Int32} {Q : Option mPV → mPW → Prop} {n : Int} {T : Int → Int} {hc : Int} {hs hp : Int → Int} {ln : Int} {sg : Int → Int} {x : XS} {S p : Int → Int} {F : Int × Int × Int} {B : (Nat → Int64) × (Nat → Int64)} {G : Int → Int} {E : Int × Int} {i : Int} (hno : ¬ n = 9) (hrel : Rel (n, T, (hc, hs, hp), (ln, sg), x) (S, (hc, p), (ln, sg), F, B, G, E)) (h0 : 0 ≤ i) (h7 : i + 7 ≤ Ls) (hLs : Ls < 2147483648) (K9 : ∀ (c : CS) (m : MS), Rel c m → m_Sem (b, Ls, xs) 0 (754, [some (.inr (.inr (.ref b))), some (.inr (.inl 0)), some (.inr (.inl 13)), some (.inl i)], [], mW c m, 0, 0) Q) : m_Sem (b, Ls, xs) 0 (159, [some (.inr (.inr (.ref b))), some (.inr (.inl 0)), some (.inr (.inl 13)), some (.inl i)], [], mW (n, T, (hc, hs, hp), (ln, sg), x) (S, (hc, p), (ln, sg), F, B, G, E), 0, 0) (Q) := by
  obtain ⟨⟨tb, hC, hM, hT⟩, hH, -, hS⟩ := id hrel
  obtain ⟨hH1, hH2⟩ := id hH.2.1
  dsimp only at hC hM hT hS hH1 hH2
  have hn := hC.1
  have hln := okN_lo hn
  refine m_run 1 (ps' := (160, [some (.inr (.inr (.ref b))), some (.inr (.inl 0)), some (.inr (.inl 13)), some (.inl i)], [.inr (.inl 0)], mW (n, T, (hc, hs, hp), (ln, sg), x) (S, (hc, p), (ln, sg), F, B, G, E), 0, 0)) rfl ?_
  refine m_callVF [] [] rfl rfl ⟨_, rfl, rfl⟩ rfl rfl (k_twistN  hn hno) ?_
  show m_Sem (b, Ls, xs) 0 (163, [some (.inr (.inr (.ref b))), some (.inr (.inl 0)), some (.inr (.inl 13)), some (.inl i)], [.inl (-1000002)], mW (n, T, (hc, hs, hp), (ln, sg), x) (S, (hc, p), (ln, sg), F, B, G, E), 0, 0) _
  refine m_run 1 (ps' := (164, [some (.inr (.inr (.ref b))), some (.inr (.inl 0)), some (.inr (.inl 13)), some (.inl i)], [.inr (.inl 13), .inl (-1000002)], mW (n, T, (hc, hs, hp), (ln, sg), x) (S, (hc, p), (ln, sg), F, B, G, E), 0, 0)) rfl ?_
  refine m_callVF [] [.inl (-1000002)] rfl rfl ⟨_, rfl, rfl⟩ rfl rfl (d_twistN  hn hM.2.1 hno) ?_
  show m_Sem (b, Ls, xs) 0 (167, [some (.inr (.inr (.ref b))), some (.inr (.inl 0)), some (.inr (.inl 13)), some (.inl i)], [.inl (-1000002), .inl (-1000002)], mW (n, T, (hc, hs, hp), (ln, sg), x) (S, (hc, p), (ln, sg), F, B, G, E), 0, 0) _
  refine m_eqr rfl ?_
  exact K9 _ _ (hrel)
set_option maxHeartbeats 4000000 in
set_option maxRecDepth 100000 in
theorem w_prodY {b Ls : Nat} {xs : Nat → Int32} {Q : Option mPV → mPW → Prop} {n : Int} {T : Int → Int} {hc : Int} {hs hp : Int → Int} {ln : Int} {sg : Int → Int} {x : XS} {S p : Int → Int} {F : Int × Int × Int} {B : (Nat → Int64) × (Nat → Int64)} {G : Int → Int} {E : Int × Int} {i : Int} (hok : inN n (xs (i + 1).toNat).toInt = true ∧ inN n (xs (i + 2).toNat).toInt = true ∧ inN n (xs (i + 3).toNat).toInt = true) (hrel : Rel (n, T, (hc, hs, hp), (ln, sg), x) (S, (hc, p), (ln, sg), F, B, G, E)) (h0 : 0 ≤ i) (h7 : i + 7 ≤ Ls) (hLs : Ls < 2147483648) (K9 : ∀ (c : CS) (m : MS), Rel c m → m_Sem (b, Ls, xs) 0 (754, [some (.inr (.inr (.ref b))), some (.inr (.inl 0)), some (.inr (.inl 13)), some (.inl i)], [], mW c m, 0, 0) Q) : m_Sem (b, Ls, xs) 0 (172, [some (.inr (.inr (.ref b))), some (.inr (.inl 0)), some (.inr (.inl 13)), some (.inl i)], [], mW (n, T, (hc, hs, hp), (ln, sg), x) (S, (hc, p), (ln, sg), F, B, G, E), 0, 0) (Q) := by
  obtain ⟨⟨tb, hC, hM, hT⟩, hH, -, hS⟩ := id hrel
  obtain ⟨hH1, hH2⟩ := id hH.2.1
  dsimp only at hC hM hT hS hH1 hH2
  have hn := hC.1
  have hln := okN_lo hn
  refine m_run 5 (ps' := (177, [some (.inr (.inr (.ref b))), some (.inr (.inl 0)), some (.inr (.inl 13)), some (.inl i)], [.inl (i + 1), .inr (.inr (.ref b)), .inr (.inl 0)], mW (n, T, (hc, hs, hp), (ln, sg), x) (S, (hc, p), (ln, sg), F, B, G, E), 0, 0)) rfl ?_
  refine m_sld rfl (by omega) (by omega) hLs ?_
  refine m_run 4 (ps' := (182, [some (.inr (.inr (.ref b))), some (.inr (.inl 0)), some (.inr (.inl 13)), some (.inl i)], [.inl (i + 2), .inr (.inr (.ref b)), .inl ((xs ((i + 1)).toNat).toInt), .inr (.inl 0)], mW (n, T, (hc, hs, hp), (ln, sg), x) (S, (hc, p), (ln, sg), F, B, G, E), 0, 0)) rfl ?_
  refine m_sld rfl (by omega) (by omega) hLs ?_
  refine m_run 4 (ps' := (187, [some (.inr (.inr (.ref b))), some (.inr (.inl 0)), some (.inr (.inl 13)), some (.inl i)], [.inl (i + 3), .inr (.inr (.ref b)), .inl ((xs ((i + 2)).toNat).toInt), .inl ((xs ((i + 1)).toNat).toInt), .inr (.inl 0)], mW (n, T, (hc, hs, hp), (ln, sg), x) (S, (hc, p), (ln, sg), F, B, G, E), 0, 0)) rfl ?_
  refine m_sld rfl (by omega) (by omega) hLs ?_
  refine m_callV [.inl ((xs ((i + 1)).toNat).toInt), .inl ((xs ((i + 2)).toNat).toInt), .inl ((xs ((i + 3)).toNat).toInt)] [] rfl rfl ⟨_, rfl, rfl⟩ rfl rfl (k_prod (i32_R _) (i32_R _) (i32_R _) hC hT hH1 hH2) (fun r_ w_ hq_ _ => ?_)
  rw [if_pos hok] at hq_
  obtain ⟨rfl, rfl⟩ := hq_
  show m_Sem (b, Ls, xs) 0 (191, [some (.inr (.inr (.ref b))), some (.inr (.inl 0)), some (.inr (.inl 13)), some (.inl i)], [.inl (tb (xs (i + 1).toNat).toInt (xs (i + 2).toNat).toInt)], mW (n, (m_up T (9 * (xs (i + 1).toNat).toInt + (xs (i + 2).toNat).toInt) (xs (i + 3).toNat).toInt), (keepH n T (hc, hs, hp)), (ln, sg), x) (S, (hc, p), (ln, sg), F, B, G, E), 0, 0) _
  refine m_run 5 (ps' := (196, [some (.inr (.inr (.ref b))), some (.inr (.inl 0)), some (.inr (.inl 13)), some (.inl i)], [.inl (i + 1), .inr (.inr (.ref b)), .inr (.inl 13), .inl (tb (xs (i + 1).toNat).toInt (xs (i + 2).toNat).toInt)], mW (n, (m_up T (9 * (xs (i + 1).toNat).toInt + (xs (i + 2).toNat).toInt) (xs (i + 3).toNat).toInt), (keepH n T (hc, hs, hp)), (ln, sg), x) (S, (hc, p), (ln, sg), F, B, G, E), 0, 0)) rfl ?_
  refine m_sld rfl (by omega) (by omega) hLs ?_
  refine m_run 4 (ps' := (201, [some (.inr (.inr (.ref b))), some (.inr (.inl 0)), some (.inr (.inl 13)), some (.inl i)], [.inl (i + 2), .inr (.inr (.ref b)), .inl ((xs ((i + 1)).toNat).toInt), .inr (.inl 13), .inl (tb (xs (i + 1).toNat).toInt (xs (i + 2).toNat).toInt)], mW (n, (m_up T (9 * (xs (i + 1).toNat).toInt + (xs (i + 2).toNat).toInt) (xs (i + 3).toNat).toInt), (keepH n T (hc, hs, hp)), (ln, sg), x) (S, (hc, p), (ln, sg), F, B, G, E), 0, 0)) rfl ?_
  refine m_sld rfl (by omega) (by omega) hLs ?_
  refine m_run 4 (ps' := (206, [some (.inr (.inr (.ref b))), some (.inr (.inl 0)), some (.inr (.inl 13)), some (.inl i)], [.inl (i + 3), .inr (.inr (.ref b)), .inl ((xs ((i + 2)).toNat).toInt), .inl ((xs ((i + 1)).toNat).toInt), .inr (.inl 13), .inl (tb (xs (i + 1).toNat).toInt (xs (i + 2).toNat).toInt)], mW (n, (m_up T (9 * (xs (i + 1).toNat).toInt + (xs (i + 2).toNat).toInt) (xs (i + 3).toNat).toInt), (keepH n T (hc, hs, hp)), (ln, sg), x) (S, (hc, p), (ln, sg), F, B, G, E), 0, 0)) rfl ?_
  refine m_sld rfl (by omega) (by omega) hLs ?_
  refine m_callV [.inl ((xs ((i + 1)).toNat).toInt), .inl ((xs ((i + 2)).toNat).toInt), .inl ((xs ((i + 3)).toNat).toInt)] [.inl (tb (xs (i + 1).toNat).toInt (xs (i + 2).toNat).toInt)] rfl rfl ⟨_, rfl, rfl⟩ rfl rfl (d_prod (i32_R _) (i32_R _) (i32_R _) hM hH1 hH2) (fun r_ w_ hq_ _ => ?_)
  rw [if_pos hok] at hq_
  obtain ⟨rfl, P2, rfl, hsv⟩ := hq_
  show m_Sem (b, Ls, xs) 0 (210, [some (.inr (.inr (.ref b))), some (.inr (.inl 0)), some (.inr (.inl 13)), some (.inl i)], [.inl (tb (xs (i + 1).toNat).toInt (xs (i + 2).toNat).toInt), .inl (tb (xs (i + 1).toNat).toInt (xs (i + 2).toNat).toInt)], mW (n, (m_up T (9 * (xs (i + 1).toNat).toInt + (xs (i + 2).toNat).toInt) (xs (i + 3).toNat).toInt), (keepH n T (hc, hs, hp)), (ln, sg), x) ((m_up S (1 + 9 * (xs (i + 1).toNat).toInt + (xs (i + 2).toNat).toInt) (xs (i + 3).toNat).toInt), P2, (ln, sg), F, B, G, E), 0, 0) _
  refine m_eqr rfl ?_
  exact K9 _ _ (⟨kp_set hC hM hT (inN_i.mp hok.1) (inN_i.mp hok.2.1) (inN_i.mp hok.2.2), hs_keep ⟨tb, hC, hM, hT⟩ hH hsv, rfl, hS⟩)
set_option maxHeartbeats 4000000 in
set_option maxRecDepth 100000 in
theorem w_prodN {b Ls : Nat} {xs : Nat → Int32} {Q : Option mPV → mPW → Prop} {n : Int} {T : Int → Int} {hc : Int} {hs hp : Int → Int} {ln : Int} {sg : Int → Int} {x : XS} {S p : Int → Int} {F : Int × Int × Int} {B : (Nat → Int64) × (Nat → Int64)} {G : Int → Int} {E : Int × Int} {i : Int} (hok : ¬ (inN n (xs (i + 1).toNat).toInt = true ∧ inN n (xs (i + 2).toNat).toInt = true ∧ inN n (xs (i + 3).toNat).toInt = true)) (hrel : Rel (n, T, (hc, hs, hp), (ln, sg), x) (S, (hc, p), (ln, sg), F, B, G, E)) (h0 : 0 ≤ i) (h7 : i + 7 ≤ Ls) (hLs : Ls < 2147483648) (K9 : ∀ (c : CS) (m : MS), Rel c m → m_Sem (b, Ls, xs) 0 (754, [some (.inr (.inr (.ref b))), some (.inr (.inl 0)), some (.inr (.inl 13)), some (.inl i)], [], mW c m, 0, 0) Q) : m_Sem (b, Ls, xs) 0 (172, [some (.inr (.inr (.ref b))), some (.inr (.inl 0)), some (.inr (.inl 13)), some (.inl i)], [], mW (n, T, (hc, hs, hp), (ln, sg), x) (S, (hc, p), (ln, sg), F, B, G, E), 0, 0) (Q) := by
  obtain ⟨⟨tb, hC, hM, hT⟩, hH, -, hS⟩ := id hrel
  obtain ⟨hH1, hH2⟩ := id hH.2.1
  dsimp only at hC hM hT hS hH1 hH2
  have hn := hC.1
  have hln := okN_lo hn
  refine m_run 5 (ps' := (177, [some (.inr (.inr (.ref b))), some (.inr (.inl 0)), some (.inr (.inl 13)), some (.inl i)], [.inl (i + 1), .inr (.inr (.ref b)), .inr (.inl 0)], mW (n, T, (hc, hs, hp), (ln, sg), x) (S, (hc, p), (ln, sg), F, B, G, E), 0, 0)) rfl ?_
  refine m_sld rfl (by omega) (by omega) hLs ?_
  refine m_run 4 (ps' := (182, [some (.inr (.inr (.ref b))), some (.inr (.inl 0)), some (.inr (.inl 13)), some (.inl i)], [.inl (i + 2), .inr (.inr (.ref b)), .inl ((xs ((i + 1)).toNat).toInt), .inr (.inl 0)], mW (n, T, (hc, hs, hp), (ln, sg), x) (S, (hc, p), (ln, sg), F, B, G, E), 0, 0)) rfl ?_
  refine m_sld rfl (by omega) (by omega) hLs ?_
  refine m_run 4 (ps' := (187, [some (.inr (.inr (.ref b))), some (.inr (.inl 0)), some (.inr (.inl 13)), some (.inl i)], [.inl (i + 3), .inr (.inr (.ref b)), .inl ((xs ((i + 2)).toNat).toInt), .inl ((xs ((i + 1)).toNat).toInt), .inr (.inl 0)], mW (n, T, (hc, hs, hp), (ln, sg), x) (S, (hc, p), (ln, sg), F, B, G, E), 0, 0)) rfl ?_
  refine m_sld rfl (by omega) (by omega) hLs ?_
  refine m_callV [.inl ((xs ((i + 1)).toNat).toInt), .inl ((xs ((i + 2)).toNat).toInt), .inl ((xs ((i + 3)).toNat).toInt)] [] rfl rfl ⟨_, rfl, rfl⟩ rfl rfl (k_prod (i32_R _) (i32_R _) (i32_R _) hC hT hH1 hH2) (fun r_ w_ hq_ _ => ?_)
  rw [if_neg hok] at hq_
  obtain ⟨rfl, rfl⟩ := hq_
  show m_Sem (b, Ls, xs) 0 (191, [some (.inr (.inr (.ref b))), some (.inr (.inl 0)), some (.inr (.inl 13)), some (.inl i)], [.inl (-1000001)], mW (n, T, (hc, hs, hp), (ln, sg), x) (S, (hc, p), (ln, sg), F, B, G, E), 0, 0) _
  refine m_run 5 (ps' := (196, [some (.inr (.inr (.ref b))), some (.inr (.inl 0)), some (.inr (.inl 13)), some (.inl i)], [.inl (i + 1), .inr (.inr (.ref b)), .inr (.inl 13), .inl (-1000001)], mW (n, T, (hc, hs, hp), (ln, sg), x) (S, (hc, p), (ln, sg), F, B, G, E), 0, 0)) rfl ?_
  refine m_sld rfl (by omega) (by omega) hLs ?_
  refine m_run 4 (ps' := (201, [some (.inr (.inr (.ref b))), some (.inr (.inl 0)), some (.inr (.inl 13)), some (.inl i)], [.inl (i + 2), .inr (.inr (.ref b)), .inl ((xs ((i + 1)).toNat).toInt), .inr (.inl 13), .inl (-1000001)], mW (n, T, (hc, hs, hp), (ln, sg), x) (S, (hc, p), (ln, sg), F, B, G, E), 0, 0)) rfl ?_
  refine m_sld rfl (by omega) (by omega) hLs ?_
  refine m_run 4 (ps' := (206, [some (.inr (.inr (.ref b))), some (.inr (.inl 0)), some (.inr (.inl 13)), some (.inl i)], [.inl (i + 3), .inr (.inr (.ref b)), .inl ((xs ((i + 2)).toNat).toInt), .inl ((xs ((i + 1)).toNat).toInt), .inr (.inl 13), .inl (-1000001)], mW (n, T, (hc, hs, hp), (ln, sg), x) (S, (hc, p), (ln, sg), F, B, G, E), 0, 0)) rfl ?_
  refine m_sld rfl (by omega) (by omega) hLs ?_
  refine m_callV [.inl ((xs ((i + 1)).toNat).toInt), .inl ((xs ((i + 2)).toNat).toInt), .inl ((xs ((i + 3)).toNat).toInt)] [.inl (-1000001)] rfl rfl ⟨_, rfl, rfl⟩ rfl rfl (d_prod (i32_R _) (i32_R _) (i32_R _) hM hH1 hH2) (fun r_ w_ hq_ _ => ?_)
  rw [if_neg hok] at hq_
  obtain ⟨rfl, rfl⟩ := hq_
  show m_Sem (b, Ls, xs) 0 (210, [some (.inr (.inr (.ref b))), some (.inr (.inl 0)), some (.inr (.inl 13)), some (.inl i)], [.inl (-1000001), .inl (-1000001)], mW (n, T, (hc, hs, hp), (ln, sg), x) (S, (hc, p), (ln, sg), F, B, G, E), 0, 0) _
  refine m_eqr rfl ?_
  exact K9 _ _ (hrel)
set_option maxHeartbeats 4000000 in
set_option maxRecDepth 100000 in
theorem w_exch {b Ls : Nat} {xs : Nat → Int32} {Q : Option mPV → mPW → Prop} {n : Int} {T : Int → Int} {hc : Int} {hs hp : Int → Int} {ln : Int} {sg : Int → Int} {x : XS} {S p : Int → Int} {F : Int × Int × Int} {B : (Nat → Int64) × (Nat → Int64)} {G : Int → Int} {E : Int × Int} {i : Int}  (hrel : Rel (n, T, (hc, hs, hp), (ln, sg), x) (S, (hc, p), (ln, sg), F, B, G, E)) (h0 : 0 ≤ i) (h7 : i + 7 ≤ Ls) (hLs : Ls < 2147483648) (K9 : ∀ (c : CS) (m : MS), Rel c m → m_Sem (b, Ls, xs) 0 (754, [some (.inr (.inr (.ref b))), some (.inr (.inl 0)), some (.inr (.inl 13)), some (.inl i)], [], mW c m, 0, 0) Q) : m_Sem (b, Ls, xs) 0 (215, [some (.inr (.inr (.ref b))), some (.inr (.inl 0)), some (.inr (.inl 13)), some (.inl i)], [], mW (n, T, (hc, hs, hp), (ln, sg), x) (S, (hc, p), (ln, sg), F, B, G, E), 0, 0) (Q) := by
  obtain ⟨⟨tb, hC, hM, hT⟩, hH, -, hS⟩ := id hrel
  obtain ⟨hH1, hH2⟩ := id hH.2.1
  dsimp only at hC hM hT hS hH1 hH2
  have hn := hC.1
  have hln := okN_lo hn
  refine m_run 1 (ps' := (216, [some (.inr (.inr (.ref b))), some (.inr (.inl 0)), some (.inr (.inl 13)), some (.inl i)], [.inr (.inl 0)], mW (n, T, (hc, hs, hp), (ln, sg), x) (S, (hc, p), (ln, sg), F, B, G, E), 0, 0)) rfl ?_
  refine m_callV [] [] rfl rfl ⟨_, rfl, rfl⟩ rfl rfl (k_exch  hC hT hH1 hH2) (fun r_ w_ hq_ _ => ?_)
  obtain ⟨rfl, T2, rfl, hT2, hF2⟩ := hq_
  show m_Sem (b, Ls, xs) 0 (219, [some (.inr (.inr (.ref b))), some (.inr (.inl 0)), some (.inr (.inl 13)), some (.inl i)], [.inl (exC n tb)], mW (n, T2, (keepH n T (hc, hs, hp)), (ln, sg), x) (S, (hc, p), (ln, sg), F, B, G, E), 0, 0) _
  refine m_run 1 (ps' := (220, [some (.inr (.inr (.ref b))), some (.inr (.inl 0)), some (.inr (.inl 13)), some (.inl i)], [.inr (.inl 13), .inl (exC n tb)], mW (n, T2, (keepH n T (hc, hs, hp)), (ln, sg), x) (S, (hc, p), (ln, sg), F, B, G, E), 0, 0)) rfl ?_
  refine m_callV [] [.inl (exC n tb)] rfl rfl ⟨_, rfl, rfl⟩ rfl rfl (d_exch  hM hH1 hH2) (fun r_ w_ hq_ _ => ?_)
  obtain ⟨rfl, P2, S3, rfl, hsv, hfm⟩ := hq_
  show m_Sem (b, Ls, xs) 0 (223, [some (.inr (.inr (.ref b))), some (.inr (.inl 0)), some (.inr (.inl 13)), some (.inl i)], [.inl (exC n tb), .inl (exC n tb)], mW (n, T2, (keepH n T (hc, hs, hp)), (ln, sg), x) (S3, P2, (ln, sg), F, B, G, E), 0, 0) _
  refine m_eqr rfl ?_
  exact K9 _ _ (⟨kp_exch hM.tb hT2 hF2 hfm, hs_keep ⟨tb, hC, hM, hT⟩ hH hsv, rfl, hS⟩)
set_option maxHeartbeats 4000000 in
set_option maxRecDepth 100000 in
theorem w_by {b Ls : Nat} {xs : Nat → Int32} {Q : Option mPV → mPW → Prop} {n : Int} {T : Int → Int} {hc : Int} {hs hp : Int → Int} {ln : Int} {sg : Int → Int} {x : XS} {S p : Int → Int} {F : Int × Int × Int} {B : (Nat → Int64) × (Nat → Int64)} {G : Int → Int} {E : Int × Int} {i : Int}  (hrel : Rel (n, T, (hc, hs, hp), (ln, sg), x) (S, (hc, p), (ln, sg), F, B, G, E)) (h0 : 0 ≤ i) (h7 : i + 7 ≤ Ls) (hLs : Ls < 2147483648) (K9 : ∀ (c : CS) (m : MS), Rel c m → m_Sem (b, Ls, xs) 0 (754, [some (.inr (.inr (.ref b))), some (.inr (.inl 0)), some (.inr (.inl 13)), some (.inl i)], [], mW c m, 0, 0) Q) : m_Sem (b, Ls, xs) 0 (228, [some (.inr (.inr (.ref b))), some (.inr (.inl 0)), some (.inr (.inl 13)), some (.inl i)], [], mW (n, T, (hc, hs, hp), (ln, sg), x) (S, (hc, p), (ln, sg), F, B, G, E), 0, 0) (Q) := by
  obtain ⟨⟨tb, hC, hM, hT⟩, hH, -, hS⟩ := id hrel
  obtain ⟨hH1, hH2⟩ := id hH.2.1
  dsimp only at hC hM hT hS hH1 hH2
  have hn := hC.1
  have hln := okN_lo hn
  refine m_run 5 (ps' := (233, [some (.inr (.inr (.ref b))), some (.inr (.inl 0)), some (.inr (.inl 13)), some (.inl i)], [.inl (i + 1), .inr (.inr (.ref b)), .inr (.inl 0)], mW (n, T, (hc, hs, hp), (ln, sg), x) (S, (hc, p), (ln, sg), F, B, G, E), 0, 0)) rfl ?_
  refine m_sld rfl (by omega) (by omega) hLs ?_
  refine m_run 4 (ps' := (238, [some (.inr (.inr (.ref b))), some (.inr (.inl 0)), some (.inr (.inl 13)), some (.inl i)], [.inl (i + 2), .inr (.inr (.ref b)), .inl ((xs ((i + 1)).toNat).toInt), .inr (.inl 0)], mW (n, T, (hc, hs, hp), (ln, sg), x) (S, (hc, p), (ln, sg), F, B, G, E), 0, 0)) rfl ?_
  refine m_sld rfl (by omega) (by omega) hLs ?_
  refine m_run 4 (ps' := (243, [some (.inr (.inr (.ref b))), some (.inr (.inl 0)), some (.inr (.inl 13)), some (.inl i)], [.inl (i + 3), .inr (.inr (.ref b)), .inl ((xs ((i + 2)).toNat).toInt), .inl ((xs ((i + 1)).toNat).toInt), .inr (.inl 0)], mW (n, T, (hc, hs, hp), (ln, sg), x) (S, (hc, p), (ln, sg), F, B, G, E), 0, 0)) rfl ?_
  refine m_sld rfl (by omega) (by omega) hLs ?_
  refine m_callVF [.inl ((xs ((i + 1)).toNat).toInt), .inl ((xs ((i + 2)).toNat).toInt), .inl ((xs ((i + 3)).toNat).toInt)] [] rfl rfl ⟨_, rfl, rfl⟩ rfl rfl (k_by (i32_R _) (i32_R _) (i32_R _) hC) ?_
  show m_Sem (b, Ls, xs) 0 (247, [some (.inr (.inr (.ref b))), some (.inr (.inl 0)), some (.inr (.inl 13)), some (.inl i)], [.inl (byS n tb ((xs ((i + 1)).toNat).toInt) ((xs ((i + 2)).toNat).toInt) ((xs ((i + 3)).toNat).toInt))], mW (n, T, (hc, hs, hp), (ln, sg), x) (S, (hc, p), (ln, sg), F, B, G, E), 0, 0) _
  refine m_run 5 (ps' := (252, [some (.inr (.inr (.ref b))), some (.inr (.inl 0)), some (.inr (.inl 13)), some (.inl i)], [.inl (i + 1), .inr (.inr (.ref b)), .inr (.inl 13), .inl (byS n tb ((xs ((i + 1)).toNat).toInt) ((xs ((i + 2)).toNat).toInt) ((xs ((i + 3)).toNat).toInt))], mW (n, T, (hc, hs, hp), (ln, sg), x) (S, (hc, p), (ln, sg), F, B, G, E), 0, 0)) rfl ?_
  refine m_sld rfl (by omega) (by omega) hLs ?_
  refine m_run 4 (ps' := (257, [some (.inr (.inr (.ref b))), some (.inr (.inl 0)), some (.inr (.inl 13)), some (.inl i)], [.inl (i + 2), .inr (.inr (.ref b)), .inl ((xs ((i + 1)).toNat).toInt), .inr (.inl 13), .inl (byS n tb ((xs ((i + 1)).toNat).toInt) ((xs ((i + 2)).toNat).toInt) ((xs ((i + 3)).toNat).toInt))], mW (n, T, (hc, hs, hp), (ln, sg), x) (S, (hc, p), (ln, sg), F, B, G, E), 0, 0)) rfl ?_
  refine m_sld rfl (by omega) (by omega) hLs ?_
  refine m_run 4 (ps' := (262, [some (.inr (.inr (.ref b))), some (.inr (.inl 0)), some (.inr (.inl 13)), some (.inl i)], [.inl (i + 3), .inr (.inr (.ref b)), .inl ((xs ((i + 2)).toNat).toInt), .inl ((xs ((i + 1)).toNat).toInt), .inr (.inl 13), .inl (byS n tb ((xs ((i + 1)).toNat).toInt) ((xs ((i + 2)).toNat).toInt) ((xs ((i + 3)).toNat).toInt))], mW (n, T, (hc, hs, hp), (ln, sg), x) (S, (hc, p), (ln, sg), F, B, G, E), 0, 0)) rfl ?_
  refine m_sld rfl (by omega) (by omega) hLs ?_
  refine m_callVF [.inl ((xs ((i + 1)).toNat).toInt), .inl ((xs ((i + 2)).toNat).toInt), .inl ((xs ((i + 3)).toNat).toInt)] [.inl (byS n tb ((xs ((i + 1)).toNat).toInt) ((xs ((i + 2)).toNat).toInt) ((xs ((i + 3)).toNat).toInt))] rfl rfl ⟨_, rfl, rfl⟩ rfl rfl (d_by (i32_R _) (i32_R _) (i32_R _) hM) ?_
  show m_Sem (b, Ls, xs) 0 (266, [some (.inr (.inr (.ref b))), some (.inr (.inl 0)), some (.inr (.inl 13)), some (.inl i)], [.inl (byS n tb ((xs ((i + 1)).toNat).toInt) ((xs ((i + 2)).toNat).toInt) ((xs ((i + 3)).toNat).toInt)), .inl (byS n tb ((xs ((i + 1)).toNat).toInt) ((xs ((i + 2)).toNat).toInt) ((xs ((i + 3)).toNat).toInt))], mW (n, T, (hc, hs, hp), (ln, sg), x) (S, (hc, p), (ln, sg), F, B, G, E), 0, 0) _
  refine m_eqr rfl ?_
  exact K9 _ _ (hrel)
set_option maxHeartbeats 4000000 in
set_option maxRecDepth 100000 in
theorem w_law {b Ls : Nat} {xs : Nat → Int32} {Q : Option mPV → mPW → Prop} {n : Int} {T : Int → Int} {hc : Int} {hs hp : Int → Int} {ln : Int} {sg : Int → Int} {x : XS} {S p : Int → Int} {F : Int × Int × Int} {B : (Nat → Int64) × (Nat → Int64)} {G : Int → Int} {E : Int × Int} {i : Int}  (hrel : Rel (n, T, (hc, hs, hp), (ln, sg), x) (S, (hc, p), (ln, sg), F, B, G, E)) (h0 : 0 ≤ i) (h7 : i + 7 ≤ Ls) (hLs : Ls < 2147483648) (K9 : ∀ (c : CS) (m : MS), Rel c m → m_Sem (b, Ls, xs) 0 (754, [some (.inr (.inr (.ref b))), some (.inr (.inl 0)), some (.inr (.inl 13)), some (.inl i)], [], mW c m, 0, 0) Q) : m_Sem (b, Ls, xs) 0 (271, [some (.inr (.inr (.ref b))), some (.inr (.inl 0)), some (.inr (.inl 13)), some (.inl i)], [], mW (n, T, (hc, hs, hp), (ln, sg), x) (S, (hc, p), (ln, sg), F, B, G, E), 0, 0) (Q) := by
  obtain ⟨⟨tb, hC, hM, hT⟩, hH, -, hS⟩ := id hrel
  obtain ⟨hH1, hH2⟩ := id hH.2.1
  dsimp only at hC hM hT hS hH1 hH2
  have hn := hC.1
  have hln := okN_lo hn
  refine m_run 5 (ps' := (276, [some (.inr (.inr (.ref b))), some (.inr (.inl 0)), some (.inr (.inl 13)), some (.inl i)], [.inl (i + 1), .inr (.inr (.ref b)), .inr (.inl 0)], mW (n, T, (hc, hs, hp), (ln, sg), x) (S, (hc, p), (ln, sg), F, B, G, E), 0, 0)) rfl ?_
  refine m_sld rfl (by omega) (by omega) hLs ?_
  refine m_run 4 (ps' := (281, [some (.inr (.inr (.ref b))), some (.inr (.inl 0)), some (.inr (.inl 13)), some (.inl i)], [.inl (i + 2), .inr (.inr (.ref b)), .inl ((xs ((i + 1)).toNat).toInt), .inr (.inl 0)], mW (n, T, (hc, hs, hp), (ln, sg), x) (S, (hc, p), (ln, sg), F, B, G, E), 0, 0)) rfl ?_
  refine m_sld rfl (by omega) (by omega) hLs ?_
  refine m_callVF [.inl ((xs ((i + 1)).toNat).toInt), .inl ((xs ((i + 2)).toNat).toInt)] [] rfl rfl ⟨_, rfl, rfl⟩ rfl rfl (k_law (i32_R _) (i32_R _) hC) ?_
  show m_Sem (b, Ls, xs) 0 (285, [some (.inr (.inr (.ref b))), some (.inr (.inl 0)), some (.inr (.inl 13)), some (.inl i)], [.inl (lawS n tb ((xs ((i + 1)).toNat).toInt) ((xs ((i + 2)).toNat).toInt))], mW (n, T, (hc, hs, hp), (ln, sg), x) (S, (hc, p), (ln, sg), F, B, G, E), 0, 0) _
  refine m_run 5 (ps' := (290, [some (.inr (.inr (.ref b))), some (.inr (.inl 0)), some (.inr (.inl 13)), some (.inl i)], [.inl (i + 1), .inr (.inr (.ref b)), .inr (.inl 13), .inl (lawS n tb ((xs ((i + 1)).toNat).toInt) ((xs ((i + 2)).toNat).toInt))], mW (n, T, (hc, hs, hp), (ln, sg), x) (S, (hc, p), (ln, sg), F, B, G, E), 0, 0)) rfl ?_
  refine m_sld rfl (by omega) (by omega) hLs ?_
  refine m_run 4 (ps' := (295, [some (.inr (.inr (.ref b))), some (.inr (.inl 0)), some (.inr (.inl 13)), some (.inl i)], [.inl (i + 2), .inr (.inr (.ref b)), .inl ((xs ((i + 1)).toNat).toInt), .inr (.inl 13), .inl (lawS n tb ((xs ((i + 1)).toNat).toInt) ((xs ((i + 2)).toNat).toInt))], mW (n, T, (hc, hs, hp), (ln, sg), x) (S, (hc, p), (ln, sg), F, B, G, E), 0, 0)) rfl ?_
  refine m_sld rfl (by omega) (by omega) hLs ?_
  refine m_callV [.inl ((xs ((i + 1)).toNat).toInt), .inl ((xs ((i + 2)).toNat).toInt)] [.inl (lawS n tb ((xs ((i + 1)).toNat).toInt) ((xs ((i + 2)).toNat).toInt))] rfl rfl ⟨_, rfl, rfl⟩ rfl rfl (d_law (i32_R _) (i32_R _) hM) (fun r_ w_ hq_ _ => ?_)
  obtain ⟨rfl, F2, rfl⟩ := hq_
  show m_Sem (b, Ls, xs) 0 (299, [some (.inr (.inr (.ref b))), some (.inr (.inl 0)), some (.inr (.inl 13)), some (.inl i)], [.inl (lawS n tb ((xs ((i + 1)).toNat).toInt) ((xs ((i + 2)).toNat).toInt)), .inl (lawS n tb ((xs ((i + 1)).toNat).toInt) ((xs ((i + 2)).toNat).toInt))], mW (n, T, (hc, hs, hp), (ln, sg), x) (S, (hc, p), (ln, sg), F2, B, G, E), 0, 0) _
  refine m_eqr rfl ?_
  exact K9 _ _ (hrel)
set_option maxHeartbeats 4000000 in
set_option maxRecDepth 100000 in
theorem w_els {b Ls : Nat} {xs : Nat → Int32} {Q : Option mPV → mPW → Prop} {n : Int} {T : Int → Int} {hc : Int} {hs hp : Int → Int} {ln : Int} {sg : Int → Int} {x : XS} {S p : Int → Int} {F : Int × Int × Int} {B : (Nat → Int64) × (Nat → Int64)} {G : Int → Int} {E : Int × Int} {i : Int}  (hrel : Rel (n, T, (hc, hs, hp), (ln, sg), x) (S, (hc, p), (ln, sg), F, B, G, E)) (h0 : 0 ≤ i) (h7 : i + 7 ≤ Ls) (hLs : Ls < 2147483648) (K9 : ∀ (c : CS) (m : MS), Rel c m → m_Sem (b, Ls, xs) 0 (754, [some (.inr (.inr (.ref b))), some (.inr (.inl 0)), some (.inr (.inl 13)), some (.inl i)], [], mW c m, 0, 0) Q) : m_Sem (b, Ls, xs) 0 (304, [some (.inr (.inr (.ref b))), some (.inr (.inl 0)), some (.inr (.inl 13)), some (.inl i)], [], mW (n, T, (hc, hs, hp), (ln, sg), x) (S, (hc, p), (ln, sg), F, B, G, E), 0, 0) (Q) := by
  obtain ⟨⟨tb, hC, hM, hT⟩, hH, -, hS⟩ := id hrel
  obtain ⟨hH1, hH2⟩ := id hH.2.1
  dsimp only at hC hM hT hS hH1 hH2
  have hn := hC.1
  have hln := okN_lo hn
  refine m_run 5 (ps' := (309, [some (.inr (.inr (.ref b))), some (.inr (.inl 0)), some (.inr (.inl 13)), some (.inl i)], [.inl (i + 1), .inr (.inr (.ref b)), .inr (.inl 0)], mW (n, T, (hc, hs, hp), (ln, sg), x) (S, (hc, p), (ln, sg), F, B, G, E), 0, 0)) rfl ?_
  refine m_sld rfl (by omega) (by omega) hLs ?_
  refine m_callVF [.inl ((xs ((i + 1)).toNat).toInt)] [] rfl rfl ⟨_, rfl, rfl⟩ rfl rfl (k_els (i32_R _) hC) ?_
  show m_Sem (b, Ls, xs) 0 (313, [some (.inr (.inr (.ref b))), some (.inr (.inl 0)), some (.inr (.inl 13)), some (.inl i)], [.inl (elmS n tb ((xs ((i + 1)).toNat).toInt))], mW (n, T, (hc, hs, hp), (ln, sg), x) (S, (hc, p), (ln, sg), F, B, G, E), 0, 0) _
  refine m_run 5 (ps' := (318, [some (.inr (.inr (.ref b))), some (.inr (.inl 0)), some (.inr (.inl 13)), some (.inl i)], [.inl (i + 1), .inr (.inr (.ref b)), .inr (.inl 13), .inl (elmS n tb ((xs ((i + 1)).toNat).toInt))], mW (n, T, (hc, hs, hp), (ln, sg), x) (S, (hc, p), (ln, sg), F, B, G, E), 0, 0)) rfl ?_
  refine m_sld rfl (by omega) (by omega) hLs ?_
  refine m_callVF [.inl ((xs ((i + 1)).toNat).toInt)] [.inl (elmS n tb ((xs ((i + 1)).toNat).toInt))] rfl rfl ⟨_, rfl, rfl⟩ rfl rfl (d_els (i32_R _) hM) ?_
  show m_Sem (b, Ls, xs) 0 (322, [some (.inr (.inr (.ref b))), some (.inr (.inl 0)), some (.inr (.inl 13)), some (.inl i)], [.inl (elmS n tb ((xs ((i + 1)).toNat).toInt)), .inl (elmS n tb ((xs ((i + 1)).toNat).toInt))], mW (n, T, (hc, hs, hp), (ln, sg), x) (S, (hc, p), (ln, sg), F, B, G, E), 0, 0) _
  refine m_eqr rfl ?_
  exact K9 _ _ (hrel)
set_option maxHeartbeats 4000000 in
set_option maxRecDepth 100000 in
theorem w_on {b Ls : Nat} {xs : Nat → Int32} {Q : Option mPV → mPW → Prop} {n : Int} {T : Int → Int} {hc : Int} {hs hp : Int → Int} {ln : Int} {sg : Int → Int} {x : XS} {S p : Int → Int} {F : Int × Int × Int} {B : (Nat → Int64) × (Nat → Int64)} {G : Int → Int} {E : Int × Int} {i : Int}  (hrel : Rel (n, T, (hc, hs, hp), (ln, sg), x) (S, (hc, p), (ln, sg), F, B, G, E)) (h0 : 0 ≤ i) (h7 : i + 7 ≤ Ls) (hLs : Ls < 2147483648) (K9 : ∀ (c : CS) (m : MS), Rel c m → m_Sem (b, Ls, xs) 0 (754, [some (.inr (.inr (.ref b))), some (.inr (.inl 0)), some (.inr (.inl 13)), some (.inl i)], [], mW c m, 0, 0) Q) : m_Sem (b, Ls, xs) 0 (327, [some (.inr (.inr (.ref b))), some (.inr (.inl 0)), some (.inr (.inl 13)), some (.inl i)], [], mW (n, T, (hc, hs, hp), (ln, sg), x) (S, (hc, p), (ln, sg), F, B, G, E), 0, 0) (Q) := by
  obtain ⟨⟨tb, hC, hM, hT⟩, hH, -, hS⟩ := id hrel
  obtain ⟨hH1, hH2⟩ := id hH.2.1
  dsimp only at hC hM hT hS hH1 hH2
  have hn := hC.1
  have hln := okN_lo hn
  refine m_run 5 (ps' := (332, [some (.inr (.inr (.ref b))), some (.inr (.inl 0)), some (.inr (.inl 13)), some (.inl i)], [.inl (i + 1), .inr (.inr (.ref b)), .inr (.inl 0)], mW (n, T, (hc, hs, hp), (ln, sg), x) (S, (hc, p), (ln, sg), F, B, G, E), 0, 0)) rfl ?_
  refine m_sld rfl (by omega) (by omega) hLs ?_
  refine m_run 4 (ps' := (337, [some (.inr (.inr (.ref b))), some (.inr (.inl 0)), some (.inr (.inl 13)), some (.inl i)], [.inl (i + 2), .inr (.inr (.ref b)), .inl ((xs ((i + 1)).toNat).toInt), .inr (.inl 0)], mW (n, T, (hc, hs, hp), (ln, sg), x) (S, (hc, p), (ln, sg), F, B, G, E), 0, 0)) rfl ?_
  refine m_sld rfl (by omega) (by omega) hLs ?_
  refine m_callVF [.inl ((xs ((i + 1)).toNat).toInt), .inl ((xs ((i + 2)).toNat).toInt)] [] rfl rfl ⟨_, rfl, rfl⟩ rfl rfl (k_fon (i32_R _) (i32_R _) hC) ?_
  show m_Sem (b, Ls, xs) 0 (341, [some (.inr (.inr (.ref b))), some (.inr (.inl 0)), some (.inr (.inl 13)), some (.inl i)], [.inl (onFS n tb ((xs ((i + 1)).toNat).toInt) ((xs ((i + 2)).toNat).toInt))], mW (n, T, (hc, hs, hp), (ln, sg), x) (S, (hc, p), (ln, sg), F, B, G, E), 0, 0) _
  refine m_run 5 (ps' := (346, [some (.inr (.inr (.ref b))), some (.inr (.inl 0)), some (.inr (.inl 13)), some (.inl i)], [.inl (i + 1), .inr (.inr (.ref b)), .inr (.inl 13), .inl (onFS n tb ((xs ((i + 1)).toNat).toInt) ((xs ((i + 2)).toNat).toInt))], mW (n, T, (hc, hs, hp), (ln, sg), x) (S, (hc, p), (ln, sg), F, B, G, E), 0, 0)) rfl ?_
  refine m_sld rfl (by omega) (by omega) hLs ?_
  refine m_run 4 (ps' := (351, [some (.inr (.inr (.ref b))), some (.inr (.inl 0)), some (.inr (.inl 13)), some (.inl i)], [.inl (i + 2), .inr (.inr (.ref b)), .inl ((xs ((i + 1)).toNat).toInt), .inr (.inl 13), .inl (onFS n tb ((xs ((i + 1)).toNat).toInt) ((xs ((i + 2)).toNat).toInt))], mW (n, T, (hc, hs, hp), (ln, sg), x) (S, (hc, p), (ln, sg), F, B, G, E), 0, 0)) rfl ?_
  refine m_sld rfl (by omega) (by omega) hLs ?_
  refine m_callVF [.inl ((xs ((i + 1)).toNat).toInt), .inl ((xs ((i + 2)).toNat).toInt)] [.inl (onFS n tb ((xs ((i + 1)).toNat).toInt) ((xs ((i + 2)).toNat).toInt))] rfl rfl ⟨_, rfl, rfl⟩ rfl rfl (d_fon (i32_R _) (i32_R _) hM) ?_
  show m_Sem (b, Ls, xs) 0 (355, [some (.inr (.inr (.ref b))), some (.inr (.inl 0)), some (.inr (.inl 13)), some (.inl i)], [.inl (onFS n tb ((xs ((i + 1)).toNat).toInt) ((xs ((i + 2)).toNat).toInt)), .inl (onFS n tb ((xs ((i + 1)).toNat).toInt) ((xs ((i + 2)).toNat).toInt))], mW (n, T, (hc, hs, hp), (ln, sg), x) (S, (hc, p), (ln, sg), F, B, G, E), 0, 0) _
  refine m_eqr rfl ?_
  exact K9 _ _ (hrel)
set_option maxHeartbeats 4000000 in
set_option maxRecDepth 100000 in
theorem w_at {b Ls : Nat} {xs : Nat → Int32} {Q : Option mPV → mPW → Prop} {n : Int} {T : Int → Int} {hc : Int} {hs hp : Int → Int} {ln : Int} {sg : Int → Int} {x : XS} {S p : Int → Int} {F : Int × Int × Int} {B : (Nat → Int64) × (Nat → Int64)} {G : Int → Int} {E : Int × Int} {i : Int}  (hrel : Rel (n, T, (hc, hs, hp), (ln, sg), x) (S, (hc, p), (ln, sg), F, B, G, E)) (h0 : 0 ≤ i) (h7 : i + 7 ≤ Ls) (hLs : Ls < 2147483648) (K9 : ∀ (c : CS) (m : MS), Rel c m → m_Sem (b, Ls, xs) 0 (754, [some (.inr (.inr (.ref b))), some (.inr (.inl 0)), some (.inr (.inl 13)), some (.inl i)], [], mW c m, 0, 0) Q) : m_Sem (b, Ls, xs) 0 (360, [some (.inr (.inr (.ref b))), some (.inr (.inl 0)), some (.inr (.inl 13)), some (.inl i)], [], mW (n, T, (hc, hs, hp), (ln, sg), x) (S, (hc, p), (ln, sg), F, B, G, E), 0, 0) (Q) := by
  obtain ⟨⟨tb, hC, hM, hT⟩, hH, -, hS⟩ := id hrel
  obtain ⟨hH1, hH2⟩ := id hH.2.1
  dsimp only at hC hM hT hS hH1 hH2
  have hn := hC.1
  have hln := okN_lo hn
  refine m_run 5 (ps' := (365, [some (.inr (.inr (.ref b))), some (.inr (.inl 0)), some (.inr (.inl 13)), some (.inl i)], [.inl (i + 1), .inr (.inr (.ref b)), .inr (.inl 0)], mW (n, T, (hc, hs, hp), (ln, sg), x) (S, (hc, p), (ln, sg), F, B, G, E), 0, 0)) rfl ?_
  refine m_sld rfl (by omega) (by omega) hLs ?_
  refine m_run 4 (ps' := (370, [some (.inr (.inr (.ref b))), some (.inr (.inl 0)), some (.inr (.inl 13)), some (.inl i)], [.inl (i + 2), .inr (.inr (.ref b)), .inl ((xs ((i + 1)).toNat).toInt), .inr (.inl 0)], mW (n, T, (hc, hs, hp), (ln, sg), x) (S, (hc, p), (ln, sg), F, B, G, E), 0, 0)) rfl ?_
  refine m_sld rfl (by omega) (by omega) hLs ?_
  refine m_run 4 (ps' := (375, [some (.inr (.inr (.ref b))), some (.inr (.inl 0)), some (.inr (.inl 13)), some (.inl i)], [.inl (i + 3), .inr (.inr (.ref b)), .inl ((xs ((i + 2)).toNat).toInt), .inl ((xs ((i + 1)).toNat).toInt), .inr (.inl 0)], mW (n, T, (hc, hs, hp), (ln, sg), x) (S, (hc, p), (ln, sg), F, B, G, E), 0, 0)) rfl ?_
  refine m_sld rfl (by omega) (by omega) hLs ?_
  refine m_callVF [.inl ((xs ((i + 1)).toNat).toInt), .inl ((xs ((i + 2)).toNat).toInt), .inl ((xs ((i + 3)).toNat).toInt)] [] rfl rfl ⟨_, rfl, rfl⟩ rfl rfl (k_fat (i32_R _) (i32_R _) (i32_R _) hC) ?_
  show m_Sem (b, Ls, xs) 0 (379, [some (.inr (.inr (.ref b))), some (.inr (.inl 0)), some (.inr (.inl 13)), some (.inl i)], [.inl (atFS n tb ((xs ((i + 1)).toNat).toInt) ((xs ((i + 2)).toNat).toInt) ((xs ((i + 3)).toNat).toInt))], mW (n, T, (hc, hs, hp), (ln, sg), x) (S, (hc, p), (ln, sg), F, B, G, E), 0, 0) _
  refine m_run 5 (ps' := (384, [some (.inr (.inr (.ref b))), some (.inr (.inl 0)), some (.inr (.inl 13)), some (.inl i)], [.inl (i + 1), .inr (.inr (.ref b)), .inr (.inl 13), .inl (atFS n tb ((xs ((i + 1)).toNat).toInt) ((xs ((i + 2)).toNat).toInt) ((xs ((i + 3)).toNat).toInt))], mW (n, T, (hc, hs, hp), (ln, sg), x) (S, (hc, p), (ln, sg), F, B, G, E), 0, 0)) rfl ?_
  refine m_sld rfl (by omega) (by omega) hLs ?_
  refine m_run 4 (ps' := (389, [some (.inr (.inr (.ref b))), some (.inr (.inl 0)), some (.inr (.inl 13)), some (.inl i)], [.inl (i + 2), .inr (.inr (.ref b)), .inl ((xs ((i + 1)).toNat).toInt), .inr (.inl 13), .inl (atFS n tb ((xs ((i + 1)).toNat).toInt) ((xs ((i + 2)).toNat).toInt) ((xs ((i + 3)).toNat).toInt))], mW (n, T, (hc, hs, hp), (ln, sg), x) (S, (hc, p), (ln, sg), F, B, G, E), 0, 0)) rfl ?_
  refine m_sld rfl (by omega) (by omega) hLs ?_
  refine m_run 4 (ps' := (394, [some (.inr (.inr (.ref b))), some (.inr (.inl 0)), some (.inr (.inl 13)), some (.inl i)], [.inl (i + 3), .inr (.inr (.ref b)), .inl ((xs ((i + 2)).toNat).toInt), .inl ((xs ((i + 1)).toNat).toInt), .inr (.inl 13), .inl (atFS n tb ((xs ((i + 1)).toNat).toInt) ((xs ((i + 2)).toNat).toInt) ((xs ((i + 3)).toNat).toInt))], mW (n, T, (hc, hs, hp), (ln, sg), x) (S, (hc, p), (ln, sg), F, B, G, E), 0, 0)) rfl ?_
  refine m_sld rfl (by omega) (by omega) hLs ?_
  refine m_callV [.inl ((xs ((i + 1)).toNat).toInt), .inl ((xs ((i + 2)).toNat).toInt), .inl ((xs ((i + 3)).toNat).toInt)] [.inl (atFS n tb ((xs ((i + 1)).toNat).toInt) ((xs ((i + 2)).toNat).toInt) ((xs ((i + 3)).toNat).toInt))] rfl rfl ⟨_, rfl, rfl⟩ rfl rfl (d_fat (i32_R _) (i32_R _) (i32_R _) hM) (fun r_ w_ hq_ _ => ?_)
  obtain ⟨rfl, B2, rfl⟩ := hq_
  show m_Sem (b, Ls, xs) 0 (398, [some (.inr (.inr (.ref b))), some (.inr (.inl 0)), some (.inr (.inl 13)), some (.inl i)], [.inl (atFS n tb ((xs ((i + 1)).toNat).toInt) ((xs ((i + 2)).toNat).toInt) ((xs ((i + 3)).toNat).toInt)), .inl (atFS n tb ((xs ((i + 1)).toNat).toInt) ((xs ((i + 2)).toNat).toInt) ((xs ((i + 3)).toNat).toInt))], mW (n, T, (hc, hs, hp), (ln, sg), x) (S, (hc, p), (ln, sg), F, B2, G, E), 0, 0) _
  refine m_eqr rfl ?_
  exact K9 _ _ (hrel)
set_option maxHeartbeats 4000000 in
set_option maxRecDepth 100000 in
theorem w_join {b Ls : Nat} {xs : Nat → Int32} {Q : Option mPV → mPW → Prop} {n : Int} {T : Int → Int} {hc : Int} {hs hp : Int → Int} {ln : Int} {sg : Int → Int} {x : XS} {S p : Int → Int} {F : Int × Int × Int} {B : (Nat → Int64) × (Nat → Int64)} {G : Int → Int} {E : Int × Int} {i : Int}  (hrel : Rel (n, T, (hc, hs, hp), (ln, sg), x) (S, (hc, p), (ln, sg), F, B, G, E)) (h0 : 0 ≤ i) (h7 : i + 7 ≤ Ls) (hLs : Ls < 2147483648) (K9 : ∀ (c : CS) (m : MS), Rel c m → m_Sem (b, Ls, xs) 0 (754, [some (.inr (.inr (.ref b))), some (.inr (.inl 0)), some (.inr (.inl 13)), some (.inl i)], [], mW c m, 0, 0) Q) : m_Sem (b, Ls, xs) 0 (403, [some (.inr (.inr (.ref b))), some (.inr (.inl 0)), some (.inr (.inl 13)), some (.inl i)], [], mW (n, T, (hc, hs, hp), (ln, sg), x) (S, (hc, p), (ln, sg), F, B, G, E), 0, 0) (Q) := by
  obtain ⟨⟨tb, hC, hM, hT⟩, hH, -, hS⟩ := id hrel
  obtain ⟨hH1, hH2⟩ := id hH.2.1
  dsimp only at hC hM hT hS hH1 hH2
  have hn := hC.1
  have hln := okN_lo hn
  refine m_run 5 (ps' := (408, [some (.inr (.inr (.ref b))), some (.inr (.inl 0)), some (.inr (.inl 13)), some (.inl i)], [.inl (i + 1), .inr (.inr (.ref b)), .inr (.inl 0)], mW (n, T, (hc, hs, hp), (ln, sg), x) (S, (hc, p), (ln, sg), F, B, G, E), 0, 0)) rfl ?_
  refine m_sld rfl (by omega) (by omega) hLs ?_
  refine m_run 4 (ps' := (413, [some (.inr (.inr (.ref b))), some (.inr (.inl 0)), some (.inr (.inl 13)), some (.inl i)], [.inl (i + 2), .inr (.inr (.ref b)), .inl ((xs ((i + 1)).toNat).toInt), .inr (.inl 0)], mW (n, T, (hc, hs, hp), (ln, sg), x) (S, (hc, p), (ln, sg), F, B, G, E), 0, 0)) rfl ?_
  refine m_sld rfl (by omega) (by omega) hLs ?_
  refine m_run 4 (ps' := (418, [some (.inr (.inr (.ref b))), some (.inr (.inl 0)), some (.inr (.inl 13)), some (.inl i)], [.inl (i + 3), .inr (.inr (.ref b)), .inl ((xs ((i + 2)).toNat).toInt), .inl ((xs ((i + 1)).toNat).toInt), .inr (.inl 0)], mW (n, T, (hc, hs, hp), (ln, sg), x) (S, (hc, p), (ln, sg), F, B, G, E), 0, 0)) rfl ?_
  refine m_sld rfl (by omega) (by omega) hLs ?_
  refine m_callVF [.inl ((xs ((i + 1)).toNat).toInt), .inl ((xs ((i + 2)).toNat).toInt), .inl ((xs ((i + 3)).toNat).toInt)] [] rfl rfl ⟨_, rfl, rfl⟩ rfl rfl (k_fjo (i32_R _) (i32_R _) (i32_R _) hC) ?_
  show m_Sem (b, Ls, xs) 0 (422, [some (.inr (.inr (.ref b))), some (.inr (.inl 0)), some (.inr (.inl 13)), some (.inl i)], [.inl (joFS n tb ((xs ((i + 1)).toNat).toInt) ((xs ((i + 2)).toNat).toInt) ((xs ((i + 3)).toNat).toInt))], mW (n, T, (hc, hs, hp), (ln, sg), x) (S, (hc, p), (ln, sg), F, B, G, E), 0, 0) _
  refine m_run 5 (ps' := (427, [some (.inr (.inr (.ref b))), some (.inr (.inl 0)), some (.inr (.inl 13)), some (.inl i)], [.inl (i + 1), .inr (.inr (.ref b)), .inr (.inl 13), .inl (joFS n tb ((xs ((i + 1)).toNat).toInt) ((xs ((i + 2)).toNat).toInt) ((xs ((i + 3)).toNat).toInt))], mW (n, T, (hc, hs, hp), (ln, sg), x) (S, (hc, p), (ln, sg), F, B, G, E), 0, 0)) rfl ?_
  refine m_sld rfl (by omega) (by omega) hLs ?_
  refine m_run 4 (ps' := (432, [some (.inr (.inr (.ref b))), some (.inr (.inl 0)), some (.inr (.inl 13)), some (.inl i)], [.inl (i + 2), .inr (.inr (.ref b)), .inl ((xs ((i + 1)).toNat).toInt), .inr (.inl 13), .inl (joFS n tb ((xs ((i + 1)).toNat).toInt) ((xs ((i + 2)).toNat).toInt) ((xs ((i + 3)).toNat).toInt))], mW (n, T, (hc, hs, hp), (ln, sg), x) (S, (hc, p), (ln, sg), F, B, G, E), 0, 0)) rfl ?_
  refine m_sld rfl (by omega) (by omega) hLs ?_
  refine m_run 4 (ps' := (437, [some (.inr (.inr (.ref b))), some (.inr (.inl 0)), some (.inr (.inl 13)), some (.inl i)], [.inl (i + 3), .inr (.inr (.ref b)), .inl ((xs ((i + 2)).toNat).toInt), .inl ((xs ((i + 1)).toNat).toInt), .inr (.inl 13), .inl (joFS n tb ((xs ((i + 1)).toNat).toInt) ((xs ((i + 2)).toNat).toInt) ((xs ((i + 3)).toNat).toInt))], mW (n, T, (hc, hs, hp), (ln, sg), x) (S, (hc, p), (ln, sg), F, B, G, E), 0, 0)) rfl ?_
  refine m_sld rfl (by omega) (by omega) hLs ?_
  refine m_callV [.inl ((xs ((i + 1)).toNat).toInt), .inl ((xs ((i + 2)).toNat).toInt), .inl ((xs ((i + 3)).toNat).toInt)] [.inl (joFS n tb ((xs ((i + 1)).toNat).toInt) ((xs ((i + 2)).toNat).toInt) ((xs ((i + 3)).toNat).toInt))] rfl rfl ⟨_, rfl, rfl⟩ rfl rfl (d_fjo (i32_R _) (i32_R _) (i32_R _) hM) (fun r_ w_ hq_ _ => ?_)
  obtain ⟨rfl, B2, rfl⟩ := hq_
  show m_Sem (b, Ls, xs) 0 (441, [some (.inr (.inr (.ref b))), some (.inr (.inl 0)), some (.inr (.inl 13)), some (.inl i)], [.inl (joFS n tb ((xs ((i + 1)).toNat).toInt) ((xs ((i + 2)).toNat).toInt) ((xs ((i + 3)).toNat).toInt)), .inl (joFS n tb ((xs ((i + 1)).toNat).toInt) ((xs ((i + 2)).toNat).toInt) ((xs ((i + 3)).toNat).toInt))], mW (n, T, (hc, hs, hp), (ln, sg), x) (S, (hc, p), (ln, sg), F, B2, G, E), 0, 0) _
  refine m_eqr rfl ?_
  exact K9 _ _ (hrel)
set_option maxHeartbeats 4000000 in
set_option maxRecDepth 100000 in
theorem w_plane {b Ls : Nat} {xs : Nat → Int32} {Q : Option mPV → mPW → Prop} {n : Int} {T : Int → Int} {hc : Int} {hs hp : Int → Int} {ln : Int} {sg : Int → Int} {x : XS} {S p : Int → Int} {F : Int × Int × Int} {B : (Nat → Int64) × (Nat → Int64)} {G : Int → Int} {E : Int × Int} {i : Int}  (hrel : Rel (n, T, (hc, hs, hp), (ln, sg), x) (S, (hc, p), (ln, sg), F, B, G, E)) (h0 : 0 ≤ i) (h7 : i + 7 ≤ Ls) (hLs : Ls < 2147483648) (K9 : ∀ (c : CS) (m : MS), Rel c m → m_Sem (b, Ls, xs) 0 (754, [some (.inr (.inr (.ref b))), some (.inr (.inl 0)), some (.inr (.inl 13)), some (.inl i)], [], mW c m, 0, 0) Q) : m_Sem (b, Ls, xs) 0 (446, [some (.inr (.inr (.ref b))), some (.inr (.inl 0)), some (.inr (.inl 13)), some (.inl i)], [], mW (n, T, (hc, hs, hp), (ln, sg), x) (S, (hc, p), (ln, sg), F, B, G, E), 0, 0) (Q) := by
  obtain ⟨⟨tb, hC, hM, hT⟩, hH, -, hS⟩ := id hrel
  obtain ⟨hH1, hH2⟩ := id hH.2.1
  dsimp only at hC hM hT hS hH1 hH2
  have hn := hC.1
  have hln := okN_lo hn
  refine m_run 5 (ps' := (451, [some (.inr (.inr (.ref b))), some (.inr (.inl 0)), some (.inr (.inl 13)), some (.inl i)], [.inl (i + 1), .inr (.inr (.ref b)), .inr (.inl 0)], mW (n, T, (hc, hs, hp), (ln, sg), x) (S, (hc, p), (ln, sg), F, B, G, E), 0, 0)) rfl ?_
  refine m_sld rfl (by omega) (by omega) hLs ?_
  refine m_callVF [.inl ((xs ((i + 1)).toNat).toInt)] [] rfl rfl ⟨_, rfl, rfl⟩ rfl rfl (k_fpl2 (i32_R _) hC) ?_
  show m_Sem (b, Ls, xs) 0 (455, [some (.inr (.inr (.ref b))), some (.inr (.inl 0)), some (.inr (.inl 13)), some (.inl i)], [.inl (plFS n tb ((xs ((i + 1)).toNat).toInt))], mW (n, T, (hc, hs, hp), (ln, sg), x) (S, (hc, p), (ln, sg), F, B, G, E), 0, 0) _
  refine m_run 5 (ps' := (460, [some (.inr (.inr (.ref b))), some (.inr (.inl 0)), some (.inr (.inl 13)), some (.inl i)], [.inl (i + 1), .inr (.inr (.ref b)), .inr (.inl 13), .inl (plFS n tb ((xs ((i + 1)).toNat).toInt))], mW (n, T, (hc, hs, hp), (ln, sg), x) (S, (hc, p), (ln, sg), F, B, G, E), 0, 0)) rfl ?_
  refine m_sld rfl (by omega) (by omega) hLs ?_
  refine m_callV [.inl ((xs ((i + 1)).toNat).toInt)] [.inl (plFS n tb ((xs ((i + 1)).toNat).toInt))] rfl rfl ⟨_, rfl, rfl⟩ rfl rfl (d_fpl (i32_R _) hM) (fun r_ w_ hq_ _ => ?_)
  obtain ⟨rfl, B2, rfl⟩ := hq_
  show m_Sem (b, Ls, xs) 0 (464, [some (.inr (.inr (.ref b))), some (.inr (.inl 0)), some (.inr (.inl 13)), some (.inl i)], [.inl (plFS n tb ((xs ((i + 1)).toNat).toInt)), .inl (plFS n tb ((xs ((i + 1)).toNat).toInt))], mW (n, T, (hc, hs, hp), (ln, sg), x) (S, (hc, p), (ln, sg), F, B2, G, E), 0, 0) _
  refine m_eqr rfl ?_
  exact K9 _ _ (hrel)
set_option maxHeartbeats 4000000 in
set_option maxRecDepth 100000 in
theorem w_tri {b Ls : Nat} {xs : Nat → Int32} {Q : Option mPV → mPW → Prop} {n : Int} {T : Int → Int} {hc : Int} {hs hp : Int → Int} {ln : Int} {sg : Int → Int} {x : XS} {S p : Int → Int} {F : Int × Int × Int} {B : (Nat → Int64) × (Nat → Int64)} {G : Int → Int} {E : Int × Int} {i : Int}  (hrel : Rel (n, T, (hc, hs, hp), (ln, sg), x) (S, (hc, p), (ln, sg), F, B, G, E)) (h0 : 0 ≤ i) (h7 : i + 7 ≤ Ls) (hLs : Ls < 2147483648) (K9 : ∀ (c : CS) (m : MS), Rel c m → m_Sem (b, Ls, xs) 0 (754, [some (.inr (.inr (.ref b))), some (.inr (.inl 0)), some (.inr (.inl 13)), some (.inl i)], [], mW c m, 0, 0) Q) : m_Sem (b, Ls, xs) 0 (469, [some (.inr (.inr (.ref b))), some (.inr (.inl 0)), some (.inr (.inl 13)), some (.inl i)], [], mW (n, T, (hc, hs, hp), (ln, sg), x) (S, (hc, p), (ln, sg), F, B, G, E), 0, 0) (Q) := by
  obtain ⟨⟨tb, hC, hM, hT⟩, hH, -, hS⟩ := id hrel
  obtain ⟨hH1, hH2⟩ := id hH.2.1
  dsimp only at hC hM hT hS hH1 hH2
  have hn := hC.1
  have hln := okN_lo hn
  refine m_run 5 (ps' := (474, [some (.inr (.inr (.ref b))), some (.inr (.inl 0)), some (.inr (.inl 13)), some (.inl i)], [.inl (i + 1), .inr (.inr (.ref b)), .inr (.inl 0)], mW (n, T, (hc, hs, hp), (ln, sg), x) (S, (hc, p), (ln, sg), F, B, G, E), 0, 0)) rfl ?_
  refine m_sld rfl (by omega) (by omega) hLs ?_
  refine m_run 4 (ps' := (479, [some (.inr (.inr (.ref b))), some (.inr (.inl 0)), some (.inr (.inl 13)), some (.inl i)], [.inl (i + 2), .inr (.inr (.ref b)), .inl ((xs ((i + 1)).toNat).toInt), .inr (.inl 0)], mW (n, T, (hc, hs, hp), (ln, sg), x) (S, (hc, p), (ln, sg), F, B, G, E), 0, 0)) rfl ?_
  refine m_sld rfl (by omega) (by omega) hLs ?_
  refine m_run 4 (ps' := (484, [some (.inr (.inr (.ref b))), some (.inr (.inl 0)), some (.inr (.inl 13)), some (.inl i)], [.inl (i + 3), .inr (.inr (.ref b)), .inl ((xs ((i + 2)).toNat).toInt), .inl ((xs ((i + 1)).toNat).toInt), .inr (.inl 0)], mW (n, T, (hc, hs, hp), (ln, sg), x) (S, (hc, p), (ln, sg), F, B, G, E), 0, 0)) rfl ?_
  refine m_sld rfl (by omega) (by omega) hLs ?_
  refine m_run 4 (ps' := (489, [some (.inr (.inr (.ref b))), some (.inr (.inl 0)), some (.inr (.inl 13)), some (.inl i)], [.inl (i + 4), .inr (.inr (.ref b)), .inl ((xs ((i + 3)).toNat).toInt), .inl ((xs ((i + 2)).toNat).toInt), .inl ((xs ((i + 1)).toNat).toInt), .inr (.inl 0)], mW (n, T, (hc, hs, hp), (ln, sg), x) (S, (hc, p), (ln, sg), F, B, G, E), 0, 0)) rfl ?_
  refine m_sld rfl (by omega) (by omega) hLs ?_
  refine m_run 4 (ps' := (494, [some (.inr (.inr (.ref b))), some (.inr (.inl 0)), some (.inr (.inl 13)), some (.inl i)], [.inl (i + 5), .inr (.inr (.ref b)), .inl ((xs ((i + 4)).toNat).toInt), .inl ((xs ((i + 3)).toNat).toInt), .inl ((xs ((i + 2)).toNat).toInt), .inl ((xs ((i + 1)).toNat).toInt), .inr (.inl 0)], mW (n, T, (hc, hs, hp), (ln, sg), x) (S, (hc, p), (ln, sg), F, B, G, E), 0, 0)) rfl ?_
  refine m_sld rfl (by omega) (by omega) hLs ?_
  refine m_run 4 (ps' := (500, [some (.inr (.inr (.ref b))), some (.inr (.inl 0)), some (.inr (.inl 13)), some (.inl i)], [.inl (i + 6), .inr (.inr (.ref b)), .inl ((xs ((i + 5)).toNat).toInt), .inl ((xs ((i + 4)).toNat).toInt), .inl ((xs ((i + 3)).toNat).toInt), .inl ((xs ((i + 2)).toNat).toInt), .inl ((xs ((i + 1)).toNat).toInt), .inr (.inl 0)], mW (n, T, (hc, hs, hp), (ln, sg), x) (S, (hc, p), (ln, sg), F, B, G, E), 0, 0)) rfl ?_
  refine m_sld rfl (by omega) (by omega) hLs ?_
  refine m_callVF [.inl ((xs ((i + 1)).toNat).toInt), .inl ((xs ((i + 2)).toNat).toInt), .inl ((xs ((i + 3)).toNat).toInt), .inl ((xs ((i + 4)).toNat).toInt), .inl ((xs ((i + 5)).toNat).toInt), .inl ((xs ((i + 6)).toNat).toInt)] [] rfl rfl ⟨_, rfl, rfl⟩ rfl rfl (k_ftri (i32_R _) (i32_R _) (i32_R _) (i32_R _) (i32_R _) (i32_R _) hC) ?_
  show m_Sem (b, Ls, xs) 0 (504, [some (.inr (.inr (.ref b))), some (.inr (.inl 0)), some (.inr (.inl 13)), some (.inl i)], [.inl (triFS n tb ((xs ((i + 1)).toNat).toInt) ((xs ((i + 2)).toNat).toInt) ((xs ((i + 3)).toNat).toInt) ((xs ((i + 4)).toNat).toInt) ((xs ((i + 5)).toNat).toInt) ((xs ((i + 6)).toNat).toInt))], mW (n, T, (hc, hs, hp), (ln, sg), x) (S, (hc, p), (ln, sg), F, B, G, E), 0, 0) _
  refine m_run 5 (ps' := (509, [some (.inr (.inr (.ref b))), some (.inr (.inl 0)), some (.inr (.inl 13)), some (.inl i)], [.inl (i + 1), .inr (.inr (.ref b)), .inr (.inl 13), .inl (triFS n tb ((xs ((i + 1)).toNat).toInt) ((xs ((i + 2)).toNat).toInt) ((xs ((i + 3)).toNat).toInt) ((xs ((i + 4)).toNat).toInt) ((xs ((i + 5)).toNat).toInt) ((xs ((i + 6)).toNat).toInt))], mW (n, T, (hc, hs, hp), (ln, sg), x) (S, (hc, p), (ln, sg), F, B, G, E), 0, 0)) rfl ?_
  refine m_sld rfl (by omega) (by omega) hLs ?_
  refine m_run 4 (ps' := (514, [some (.inr (.inr (.ref b))), some (.inr (.inl 0)), some (.inr (.inl 13)), some (.inl i)], [.inl (i + 2), .inr (.inr (.ref b)), .inl ((xs ((i + 1)).toNat).toInt), .inr (.inl 13), .inl (triFS n tb ((xs ((i + 1)).toNat).toInt) ((xs ((i + 2)).toNat).toInt) ((xs ((i + 3)).toNat).toInt) ((xs ((i + 4)).toNat).toInt) ((xs ((i + 5)).toNat).toInt) ((xs ((i + 6)).toNat).toInt))], mW (n, T, (hc, hs, hp), (ln, sg), x) (S, (hc, p), (ln, sg), F, B, G, E), 0, 0)) rfl ?_
  refine m_sld rfl (by omega) (by omega) hLs ?_
  refine m_run 4 (ps' := (519, [some (.inr (.inr (.ref b))), some (.inr (.inl 0)), some (.inr (.inl 13)), some (.inl i)], [.inl (i + 3), .inr (.inr (.ref b)), .inl ((xs ((i + 2)).toNat).toInt), .inl ((xs ((i + 1)).toNat).toInt), .inr (.inl 13), .inl (triFS n tb ((xs ((i + 1)).toNat).toInt) ((xs ((i + 2)).toNat).toInt) ((xs ((i + 3)).toNat).toInt) ((xs ((i + 4)).toNat).toInt) ((xs ((i + 5)).toNat).toInt) ((xs ((i + 6)).toNat).toInt))], mW (n, T, (hc, hs, hp), (ln, sg), x) (S, (hc, p), (ln, sg), F, B, G, E), 0, 0)) rfl ?_
  refine m_sld rfl (by omega) (by omega) hLs ?_
  refine m_run 4 (ps' := (524, [some (.inr (.inr (.ref b))), some (.inr (.inl 0)), some (.inr (.inl 13)), some (.inl i)], [.inl (i + 4), .inr (.inr (.ref b)), .inl ((xs ((i + 3)).toNat).toInt), .inl ((xs ((i + 2)).toNat).toInt), .inl ((xs ((i + 1)).toNat).toInt), .inr (.inl 13), .inl (triFS n tb ((xs ((i + 1)).toNat).toInt) ((xs ((i + 2)).toNat).toInt) ((xs ((i + 3)).toNat).toInt) ((xs ((i + 4)).toNat).toInt) ((xs ((i + 5)).toNat).toInt) ((xs ((i + 6)).toNat).toInt))], mW (n, T, (hc, hs, hp), (ln, sg), x) (S, (hc, p), (ln, sg), F, B, G, E), 0, 0)) rfl ?_
  refine m_sld rfl (by omega) (by omega) hLs ?_
  refine m_run 4 (ps' := (529, [some (.inr (.inr (.ref b))), some (.inr (.inl 0)), some (.inr (.inl 13)), some (.inl i)], [.inl (i + 5), .inr (.inr (.ref b)), .inl ((xs ((i + 4)).toNat).toInt), .inl ((xs ((i + 3)).toNat).toInt), .inl ((xs ((i + 2)).toNat).toInt), .inl ((xs ((i + 1)).toNat).toInt), .inr (.inl 13), .inl (triFS n tb ((xs ((i + 1)).toNat).toInt) ((xs ((i + 2)).toNat).toInt) ((xs ((i + 3)).toNat).toInt) ((xs ((i + 4)).toNat).toInt) ((xs ((i + 5)).toNat).toInt) ((xs ((i + 6)).toNat).toInt))], mW (n, T, (hc, hs, hp), (ln, sg), x) (S, (hc, p), (ln, sg), F, B, G, E), 0, 0)) rfl ?_
  refine m_sld rfl (by omega) (by omega) hLs ?_
  refine m_run 4 (ps' := (535, [some (.inr (.inr (.ref b))), some (.inr (.inl 0)), some (.inr (.inl 13)), some (.inl i)], [.inl (i + 6), .inr (.inr (.ref b)), .inl ((xs ((i + 5)).toNat).toInt), .inl ((xs ((i + 4)).toNat).toInt), .inl ((xs ((i + 3)).toNat).toInt), .inl ((xs ((i + 2)).toNat).toInt), .inl ((xs ((i + 1)).toNat).toInt), .inr (.inl 13), .inl (triFS n tb ((xs ((i + 1)).toNat).toInt) ((xs ((i + 2)).toNat).toInt) ((xs ((i + 3)).toNat).toInt) ((xs ((i + 4)).toNat).toInt) ((xs ((i + 5)).toNat).toInt) ((xs ((i + 6)).toNat).toInt))], mW (n, T, (hc, hs, hp), (ln, sg), x) (S, (hc, p), (ln, sg), F, B, G, E), 0, 0)) rfl ?_
  refine m_sld rfl (by omega) (by omega) hLs ?_
  refine m_callV [.inl ((xs ((i + 1)).toNat).toInt), .inl ((xs ((i + 2)).toNat).toInt), .inl ((xs ((i + 3)).toNat).toInt), .inl ((xs ((i + 4)).toNat).toInt), .inl ((xs ((i + 5)).toNat).toInt), .inl ((xs ((i + 6)).toNat).toInt)] [.inl (triFS n tb ((xs ((i + 1)).toNat).toInt) ((xs ((i + 2)).toNat).toInt) ((xs ((i + 3)).toNat).toInt) ((xs ((i + 4)).toNat).toInt) ((xs ((i + 5)).toNat).toInt) ((xs ((i + 6)).toNat).toInt))] rfl rfl ⟨_, rfl, rfl⟩ rfl rfl (d_ftri (i32_R _) (i32_R _) (i32_R _) (i32_R _) (i32_R _) (i32_R _) hM) (fun r_ w_ hq_ _ => ?_)
  obtain ⟨rfl, B2, rfl⟩ := hq_
  show m_Sem (b, Ls, xs) 0 (539, [some (.inr (.inr (.ref b))), some (.inr (.inl 0)), some (.inr (.inl 13)), some (.inl i)], [.inl (triFS n tb ((xs ((i + 1)).toNat).toInt) ((xs ((i + 2)).toNat).toInt) ((xs ((i + 3)).toNat).toInt) ((xs ((i + 4)).toNat).toInt) ((xs ((i + 5)).toNat).toInt) ((xs ((i + 6)).toNat).toInt)), .inl (triFS n tb ((xs ((i + 1)).toNat).toInt) ((xs ((i + 2)).toNat).toInt) ((xs ((i + 3)).toNat).toInt) ((xs ((i + 4)).toNat).toInt) ((xs ((i + 5)).toNat).toInt) ((xs ((i + 6)).toNat).toInt))], mW (n, T, (hc, hs, hp), (ln, sg), x) (S, (hc, p), (ln, sg), F, B2, G, E), 0, 0) _
  refine m_eqr rfl ?_
  exact K9 _ _ (hrel)
set_option maxHeartbeats 4000000 in
set_option maxRecDepth 100000 in
theorem w_open {b Ls : Nat} {xs : Nat → Int32} {Q : Option mPV → mPW → Prop} {n : Int} {T : Int → Int} {hc : Int} {hs hp : Int → Int} {ln : Int} {sg : Int → Int} {x : XS} {S p : Int → Int} {F : Int × Int × Int} {B : (Nat → Int64) × (Nat → Int64)} {G : Int → Int} {E : Int × Int} {i : Int}  (hrel : Rel (n, T, (hc, hs, hp), (ln, sg), x) (S, (hc, p), (ln, sg), F, B, G, E)) (h0 : 0 ≤ i) (h7 : i + 7 ≤ Ls) (hLs : Ls < 2147483648) (K9 : ∀ (c : CS) (m : MS), Rel c m → m_Sem (b, Ls, xs) 0 (754, [some (.inr (.inr (.ref b))), some (.inr (.inl 0)), some (.inr (.inl 13)), some (.inl i)], [], mW c m, 0, 0) Q) : m_Sem (b, Ls, xs) 0 (544, [some (.inr (.inr (.ref b))), some (.inr (.inl 0)), some (.inr (.inl 13)), some (.inl i)], [], mW (n, T, (hc, hs, hp), (ln, sg), x) (S, (hc, p), (ln, sg), F, B, G, E), 0, 0) (Q) := by
  obtain ⟨⟨tb, hC, hM, hT⟩, hH, -, hS⟩ := id hrel
  obtain ⟨hH1, hH2⟩ := id hH.2.1
  dsimp only at hC hM hT hS hH1 hH2
  have hn := hC.1
  have hln := okN_lo hn
  refine m_run 5 (ps' := (549, [some (.inr (.inr (.ref b))), some (.inr (.inl 0)), some (.inr (.inl 13)), some (.inl i)], [.inl (i + 1), .inr (.inr (.ref b)), .inr (.inl 0)], mW (n, T, (hc, hs, hp), (ln, sg), x) (S, (hc, p), (ln, sg), F, B, G, E), 0, 0)) rfl ?_
  refine m_sld rfl (by omega) (by omega) hLs ?_
  refine m_callVF [.inl ((xs ((i + 1)).toNat).toInt)] [] rfl rfl ⟨_, rfl, rfl⟩ rfl rfl (k_fop (i32_R _) hC) ?_
  show m_Sem (b, Ls, xs) 0 (553, [some (.inr (.inr (.ref b))), some (.inr (.inl 0)), some (.inr (.inl 13)), some (.inl i)], [.inl (opFS n tb ((xs ((i + 1)).toNat).toInt))], mW (n, T, (hc, hs, hp), (ln, sg), x) (S, (hc, p), (ln, sg), F, B, G, E), 0, 0) _
  refine m_run 5 (ps' := (558, [some (.inr (.inr (.ref b))), some (.inr (.inl 0)), some (.inr (.inl 13)), some (.inl i)], [.inl (i + 1), .inr (.inr (.ref b)), .inr (.inl 13), .inl (opFS n tb ((xs ((i + 1)).toNat).toInt))], mW (n, T, (hc, hs, hp), (ln, sg), x) (S, (hc, p), (ln, sg), F, B, G, E), 0, 0)) rfl ?_
  refine m_sld rfl (by omega) (by omega) hLs ?_
  refine m_callV [.inl ((xs ((i + 1)).toNat).toInt)] [.inl (opFS n tb ((xs ((i + 1)).toNat).toInt))] rfl rfl ⟨_, rfl, rfl⟩ rfl rfl (d_fop (i32_R _) hM) (fun r_ w_ hq_ _ => ?_)
  obtain ⟨rfl, B2, rfl⟩ := hq_
  show m_Sem (b, Ls, xs) 0 (562, [some (.inr (.inr (.ref b))), some (.inr (.inl 0)), some (.inr (.inl 13)), some (.inl i)], [.inl (opFS n tb ((xs ((i + 1)).toNat).toInt)), .inl (opFS n tb ((xs ((i + 1)).toNat).toInt))], mW (n, T, (hc, hs, hp), (ln, sg), x) (S, (hc, p), (ln, sg), F, B2, G, E), 0, 0) _
  refine m_eqr rfl ?_
  exact K9 _ _ (hrel)
set_option maxHeartbeats 4000000 in
set_option maxRecDepth 100000 in
theorem w_hex {b Ls : Nat} {xs : Nat → Int32} {Q : Option mPV → mPW → Prop} {n : Int} {T : Int → Int} {hc : Int} {hs hp : Int → Int} {ln : Int} {sg : Int → Int} {x : XS} {S p : Int → Int} {F : Int × Int × Int} {B : (Nat → Int64) × (Nat → Int64)} {G : Int → Int} {E : Int × Int} {i : Int}  (hrel : Rel (n, T, (hc, hs, hp), (ln, sg), x) (S, (hc, p), (ln, sg), F, B, G, E)) (h0 : 0 ≤ i) (h7 : i + 7 ≤ Ls) (hLs : Ls < 2147483648) (K9 : ∀ (c : CS) (m : MS), Rel c m → m_Sem (b, Ls, xs) 0 (754, [some (.inr (.inr (.ref b))), some (.inr (.inl 0)), some (.inr (.inl 13)), some (.inl i)], [], mW c m, 0, 0) Q) : m_Sem (b, Ls, xs) 0 (567, [some (.inr (.inr (.ref b))), some (.inr (.inl 0)), some (.inr (.inl 13)), some (.inl i)], [], mW (n, T, (hc, hs, hp), (ln, sg), x) (S, (hc, p), (ln, sg), F, B, G, E), 0, 0) (Q) := by
  obtain ⟨⟨tb, hC, hM, hT⟩, hH, -, hS⟩ := id hrel
  obtain ⟨hH1, hH2⟩ := id hH.2.1
  dsimp only at hC hM hT hS hH1 hH2
  have hn := hC.1
  have hln := okN_lo hn
  refine m_run 5 (ps' := (572, [some (.inr (.inr (.ref b))), some (.inr (.inl 0)), some (.inr (.inl 13)), some (.inl i)], [.inl (i + 1), .inr (.inr (.ref b)), .inr (.inl 0)], mW (n, T, (hc, hs, hp), (ln, sg), x) (S, (hc, p), (ln, sg), F, B, G, E), 0, 0)) rfl ?_
  refine m_sld rfl (by omega) (by omega) hLs ?_
  refine m_run 4 (ps' := (577, [some (.inr (.inr (.ref b))), some (.inr (.inl 0)), some (.inr (.inl 13)), some (.inl i)], [.inl (i + 2), .inr (.inr (.ref b)), .inl ((xs ((i + 1)).toNat).toInt), .inr (.inl 0)], mW (n, T, (hc, hs, hp), (ln, sg), x) (S, (hc, p), (ln, sg), F, B, G, E), 0, 0)) rfl ?_
  refine m_sld rfl (by omega) (by omega) hLs ?_
  refine m_callVF [.inl ((xs ((i + 1)).toNat).toInt), .inl ((xs ((i + 2)).toNat).toInt)] [] rfl rfl ⟨_, rfl, rfl⟩ rfl rfl (k_fhex (i32_R _) (i32_R _) hC) ?_
  show m_Sem (b, Ls, xs) 0 (581, [some (.inr (.inr (.ref b))), some (.inr (.inl 0)), some (.inr (.inl 13)), some (.inl i)], [.inl (hexFS n tb ((xs ((i + 1)).toNat).toInt) ((xs ((i + 2)).toNat).toInt))], mW (n, T, (hc, hs, hp), (ln, sg), x) (S, (hc, p), (ln, sg), F, B, G, E), 0, 0) _
  refine m_run 5 (ps' := (586, [some (.inr (.inr (.ref b))), some (.inr (.inl 0)), some (.inr (.inl 13)), some (.inl i)], [.inl (i + 1), .inr (.inr (.ref b)), .inr (.inl 13), .inl (hexFS n tb ((xs ((i + 1)).toNat).toInt) ((xs ((i + 2)).toNat).toInt))], mW (n, T, (hc, hs, hp), (ln, sg), x) (S, (hc, p), (ln, sg), F, B, G, E), 0, 0)) rfl ?_
  refine m_sld rfl (by omega) (by omega) hLs ?_
  refine m_run 4 (ps' := (591, [some (.inr (.inr (.ref b))), some (.inr (.inl 0)), some (.inr (.inl 13)), some (.inl i)], [.inl (i + 2), .inr (.inr (.ref b)), .inl ((xs ((i + 1)).toNat).toInt), .inr (.inl 13), .inl (hexFS n tb ((xs ((i + 1)).toNat).toInt) ((xs ((i + 2)).toNat).toInt))], mW (n, T, (hc, hs, hp), (ln, sg), x) (S, (hc, p), (ln, sg), F, B, G, E), 0, 0)) rfl ?_
  refine m_sld rfl (by omega) (by omega) hLs ?_
  refine m_callV [.inl ((xs ((i + 1)).toNat).toInt), .inl ((xs ((i + 2)).toNat).toInt)] [.inl (hexFS n tb ((xs ((i + 1)).toNat).toInt) ((xs ((i + 2)).toNat).toInt))] rfl rfl ⟨_, rfl, rfl⟩ rfl rfl (d_fhex (i32_R _) (i32_R _) hM) (fun r_ w_ hq_ _ => ?_)
  obtain ⟨rfl, B2, rfl⟩ := hq_
  show m_Sem (b, Ls, xs) 0 (595, [some (.inr (.inr (.ref b))), some (.inr (.inl 0)), some (.inr (.inl 13)), some (.inl i)], [.inl (hexFS n tb ((xs ((i + 1)).toNat).toInt) ((xs ((i + 2)).toNat).toInt)), .inl (hexFS n tb ((xs ((i + 1)).toNat).toInt) ((xs ((i + 2)).toNat).toInt))], mW (n, T, (hc, hs, hp), (ln, sg), x) (S, (hc, p), (ln, sg), F, B2, G, E), 0, 0) _
  refine m_eqr rfl ?_
  exact K9 _ _ (hrel)
set_option maxHeartbeats 4000000 in
set_option maxRecDepth 100000 in
theorem w_mir {b Ls : Nat} {xs : Nat → Int32} {Q : Option mPV → mPW → Prop} {n : Int} {T : Int → Int} {hc : Int} {hs hp : Int → Int} {ln : Int} {sg : Int → Int} {ry ft im : Int → Int} {en br hl : Int} {S p : Int → Int} {F : Int × Int × Int} {B : (Nat → Int64) × (Nat → Int64)} {G : Int → Int} {E : Int × Int} {i : Int}  (hrel : Rel (n, T, (hc, hs, hp), (ln, sg), (ry, ft, im, en, br, hl)) (S, (hc, p), (ln, sg), F, B, G, E)) (h0 : 0 ≤ i) (h7 : i + 7 ≤ Ls) (hLs : Ls < 2147483648) (K9 : ∀ (c : CS) (m : MS), Rel c m → m_Sem (b, Ls, xs) 0 (754, [some (.inr (.inr (.ref b))), some (.inr (.inl 0)), some (.inr (.inl 13)), some (.inl i)], [], mW c m, 0, 0) Q) : m_Sem (b, Ls, xs) 0 (600, [some (.inr (.inr (.ref b))), some (.inr (.inl 0)), some (.inr (.inl 13)), some (.inl i)], [], mW (n, T, (hc, hs, hp), (ln, sg), (ry, ft, im, en, br, hl)) (S, (hc, p), (ln, sg), F, B, G, E), 0, 0) (Q) := by
  obtain ⟨⟨tb, hC, hM, hT⟩, hH, -, hS⟩ := id hrel
  obtain ⟨hH1, hH2⟩ := id hH.2.1
  dsimp only at hC hM hT hS hH1 hH2
  have hn := hC.1
  have hln := okN_lo hn
  refine m_run 5 (ps' := (605, [some (.inr (.inr (.ref b))), some (.inr (.inl 0)), some (.inr (.inl 13)), some (.inl i)], [.inl (i + 1), .inr (.inr (.ref b)), .inr (.inl 0)], mW (n, T, (hc, hs, hp), (ln, sg), (ry, ft, im, en, br, hl)) (S, (hc, p), (ln, sg), F, B, G, E), 0, 0)) rfl ?_
  refine m_sld rfl (by omega) (by omega) hLs ?_
  refine m_run 4 (ps' := (610, [some (.inr (.inr (.ref b))), some (.inr (.inl 0)), some (.inr (.inl 13)), some (.inl i)], [.inl (i + 2), .inr (.inr (.ref b)), .inl ((xs ((i + 1)).toNat).toInt), .inr (.inl 0)], mW (n, T, (hc, hs, hp), (ln, sg), (ry, ft, im, en, br, hl)) (S, (hc, p), (ln, sg), F, B, G, E), 0, 0)) rfl ?_
  refine m_sld rfl (by omega) (by omega) hLs ?_
  refine m_callV [.inl ((xs ((i + 1)).toNat).toInt), .inl ((xs ((i + 2)).toNat).toInt)] [] rfl rfl ⟨_, rfl, rfl⟩ rfl rfl (k_fmir (i32_R _) (i32_R _) hC) (fun r_ w_ hq_ _ => ?_)
  obtain ⟨rfl, x2, rfl⟩ := hq_
  show m_Sem (b, Ls, xs) 0 (614, [some (.inr (.inr (.ref b))), some (.inr (.inl 0)), some (.inr (.inl 13)), some (.inl i)], [.inl (mirFS n tb ((xs ((i + 1)).toNat).toInt) ((xs ((i + 2)).toNat).toInt))], mW (n, T, (hc, hs, hp), (ln, sg), x2) (S, (hc, p), (ln, sg), F, B, G, E), 0, 0) _
  refine m_run 5 (ps' := (619, [some (.inr (.inr (.ref b))), some (.inr (.inl 0)), some (.inr (.inl 13)), some (.inl i)], [.inl (i + 1), .inr (.inr (.ref b)), .inr (.inl 13), .inl (mirFS n tb ((xs ((i + 1)).toNat).toInt) ((xs ((i + 2)).toNat).toInt))], mW (n, T, (hc, hs, hp), (ln, sg), x2) (S, (hc, p), (ln, sg), F, B, G, E), 0, 0)) rfl ?_
  refine m_sld rfl (by omega) (by omega) hLs ?_
  refine m_run 4 (ps' := (624, [some (.inr (.inr (.ref b))), some (.inr (.inl 0)), some (.inr (.inl 13)), some (.inl i)], [.inl (i + 2), .inr (.inr (.ref b)), .inl ((xs ((i + 1)).toNat).toInt), .inr (.inl 13), .inl (mirFS n tb ((xs ((i + 1)).toNat).toInt) ((xs ((i + 2)).toNat).toInt))], mW (n, T, (hc, hs, hp), (ln, sg), x2) (S, (hc, p), (ln, sg), F, B, G, E), 0, 0)) rfl ?_
  refine m_sld rfl (by omega) (by omega) hLs ?_
  refine m_callV [.inl ((xs ((i + 1)).toNat).toInt), .inl ((xs ((i + 2)).toNat).toInt)] [.inl (mirFS n tb ((xs ((i + 1)).toNat).toInt) ((xs ((i + 2)).toNat).toInt))] rfl rfl ⟨_, rfl, rfl⟩ rfl rfl (d_fmir (i32_R _) (i32_R _) hM) (fun r_ w_ hq_ _ => ?_)
  obtain ⟨rfl, B2, G2, rfl⟩ := hq_
  show m_Sem (b, Ls, xs) 0 (628, [some (.inr (.inr (.ref b))), some (.inr (.inl 0)), some (.inr (.inl 13)), some (.inl i)], [.inl (mirFS n tb ((xs ((i + 1)).toNat).toInt) ((xs ((i + 2)).toNat).toInt)), .inl (mirFS n tb ((xs ((i + 1)).toNat).toInt) ((xs ((i + 2)).toNat).toInt))], mW (n, T, (hc, hs, hp), (ln, sg), x2) (S, (hc, p), (ln, sg), F, B2, G2, E), 0, 0) _
  refine m_eqr rfl ?_
  exact K9 _ _ (hrel)
set_option maxHeartbeats 4000000 in
set_option maxRecDepth 100000 in
theorem w_share {b Ls : Nat} {xs : Nat → Int32} {Q : Option mPV → mPW → Prop} {n : Int} {T : Int → Int} {hc : Int} {hs hp : Int → Int} {ln : Int} {sg : Int → Int} {x : XS} {S p : Int → Int} {F : Int × Int × Int} {B : (Nat → Int64) × (Nat → Int64)} {G : Int → Int} {E : Int × Int} {i : Int}  (hrel : Rel (n, T, (hc, hs, hp), (ln, sg), x) (S, (hc, p), (ln, sg), F, B, G, E)) (h0 : 0 ≤ i) (h7 : i + 7 ≤ Ls) (hLs : Ls < 2147483648) (K9 : ∀ (c : CS) (m : MS), Rel c m → m_Sem (b, Ls, xs) 0 (754, [some (.inr (.inr (.ref b))), some (.inr (.inl 0)), some (.inr (.inl 13)), some (.inl i)], [], mW c m, 0, 0) Q) : m_Sem (b, Ls, xs) 0 (633, [some (.inr (.inr (.ref b))), some (.inr (.inl 0)), some (.inr (.inl 13)), some (.inl i)], [], mW (n, T, (hc, hs, hp), (ln, sg), x) (S, (hc, p), (ln, sg), F, B, G, E), 0, 0) (Q) := by
  obtain ⟨⟨tb, hC, hM, hT⟩, hH, -, hS⟩ := id hrel
  obtain ⟨hH1, hH2⟩ := id hH.2.1
  dsimp only at hC hM hT hS hH1 hH2
  have hn := hC.1
  have hln := okN_lo hn
  refine m_run 1 (ps' := (634, [some (.inr (.inr (.ref b))), some (.inr (.inl 0)), some (.inr (.inl 13)), some (.inl i)], [.inr (.inl 0)], mW (n, T, (hc, hs, hp), (ln, sg), x) (S, (hc, p), (ln, sg), F, B, G, E), 0, 0)) rfl ?_
  refine m_callVF [] [] rfl rfl ⟨_, rfl, rfl⟩ rfl rfl (k_share  hC) ?_
  show m_Sem (b, Ls, xs) 0 (637, [some (.inr (.inr (.ref b))), some (.inr (.inl 0)), some (.inr (.inl 13)), some (.inl i)], [.inl (shB (heldS n tb))], mW (n, T, (hc, hs, hp), (ln, sg), x) (S, (hc, p), (ln, sg), F, B, G, E), 0, 0) _
  refine m_run 1 (ps' := (638, [some (.inr (.inr (.ref b))), some (.inr (.inl 0)), some (.inr (.inl 13)), some (.inl i)], [.inr (.inl 13), .inl (shB (heldS n tb))], mW (n, T, (hc, hs, hp), (ln, sg), x) (S, (hc, p), (ln, sg), F, B, G, E), 0, 0)) rfl ?_
  refine m_callV [] [.inl (shB (heldS n tb))] rfl rfl ⟨_, rfl, rfl⟩ rfl rfl (d_share  hM) (fun r_ w_ hq_ _ => ?_)
  obtain ⟨rfl, F2, rfl⟩ := hq_
  show m_Sem (b, Ls, xs) 0 (641, [some (.inr (.inr (.ref b))), some (.inr (.inl 0)), some (.inr (.inl 13)), some (.inl i)], [.inl (shB (heldS n tb)), .inl (shB (heldS n tb))], mW (n, T, (hc, hs, hp), (ln, sg), x) (S, (hc, p), (ln, sg), F2, B, G, E), 0, 0) _
  refine m_eqr rfl ?_
  exact K9 _ _ (hrel)
set_option maxHeartbeats 4000000 in
set_option maxRecDepth 100000 in
theorem w_cnt {b Ls : Nat} {xs : Nat → Int32} {Q : Option mPV → mPW → Prop} {n : Int} {T : Int → Int} {hc : Int} {hs hp : Int → Int} {ln : Int} {sg : Int → Int} {x : XS} {S p : Int → Int} {F : Int × Int × Int} {B : (Nat → Int64) × (Nat → Int64)} {G : Int → Int} {E : Int × Int} {i : Int}  (hrel : Rel (n, T, (hc, hs, hp), (ln, sg), x) (S, (hc, p), (ln, sg), F, B, G, E)) (h0 : 0 ≤ i) (h7 : i + 7 ≤ Ls) (hLs : Ls < 2147483648) (K9 : ∀ (c : CS) (m : MS), Rel c m → m_Sem (b, Ls, xs) 0 (754, [some (.inr (.inr (.ref b))), some (.inr (.inl 0)), some (.inr (.inl 13)), some (.inl i)], [], mW c m, 0, 0) Q) : m_Sem (b, Ls, xs) 0 (646, [some (.inr (.inr (.ref b))), some (.inr (.inl 0)), some (.inr (.inl 13)), some (.inl i)], [], mW (n, T, (hc, hs, hp), (ln, sg), x) (S, (hc, p), (ln, sg), F, B, G, E), 0, 0) (Q) := by
  obtain ⟨⟨tb, hC, hM, hT⟩, hH, -, hS⟩ := id hrel
  obtain ⟨hH1, hH2⟩ := id hH.2.1
  dsimp only at hC hM hT hS hH1 hH2
  have hn := hC.1
  have hln := okN_lo hn
  refine m_run 5 (ps' := (651, [some (.inr (.inr (.ref b))), some (.inr (.inl 0)), some (.inr (.inl 13)), some (.inl i)], [.inl (i + 1), .inr (.inr (.ref b)), .inr (.inl 0)], mW (n, T, (hc, hs, hp), (ln, sg), x) (S, (hc, p), (ln, sg), F, B, G, E), 0, 0)) rfl ?_
  refine m_sld rfl (by omega) (by omega) hLs ?_
  refine m_callVF [.inl ((xs ((i + 1)).toNat).toInt)] [] rfl rfl ⟨_, rfl, rfl⟩ rfl rfl (k_cnt (i32_R _) hC) ?_
  show m_Sem (b, Ls, xs) 0 (655, [some (.inr (.inr (.ref b))), some (.inr (.inl 0)), some (.inr (.inl 13)), some (.inl i)], [.inl (cntS n tb hc ln ((xs ((i + 1)).toNat).toInt))], mW (n, T, (hc, hs, hp), (ln, sg), x) (S, (hc, p), (ln, sg), F, B, G, E), 0, 0) _
  refine m_run 5 (ps' := (660, [some (.inr (.inr (.ref b))), some (.inr (.inl 0)), some (.inr (.inl 13)), some (.inl i)], [.inl (i + 1), .inr (.inr (.ref b)), .inr (.inl 13), .inl (cntS n tb hc ln ((xs ((i + 1)).toNat).toInt))], mW (n, T, (hc, hs, hp), (ln, sg), x) (S, (hc, p), (ln, sg), F, B, G, E), 0, 0)) rfl ?_
  refine m_sld rfl (by omega) (by omega) hLs ?_
  refine m_callVF [.inl ((xs ((i + 1)).toNat).toInt)] [.inl (cntS n tb hc ln ((xs ((i + 1)).toNat).toInt))] rfl rfl ⟨_, rfl, rfl⟩ rfl rfl (d_cnt (i32_R _) hM) ?_
  show m_Sem (b, Ls, xs) 0 (664, [some (.inr (.inr (.ref b))), some (.inr (.inl 0)), some (.inr (.inl 13)), some (.inl i)], [.inl (cntS n tb hc ln ((xs ((i + 1)).toNat).toInt)), .inl (cntS n tb hc ln ((xs ((i + 1)).toNat).toInt))], mW (n, T, (hc, hs, hp), (ln, sg), x) (S, (hc, p), (ln, sg), F, B, G, E), 0, 0) _
  refine m_eqr rfl ?_
  exact K9 _ _ (hrel)
set_option maxHeartbeats 4000000 in
set_option maxRecDepth 100000 in
theorem w_undoY {b Ls : Nat} {xs : Nat → Int32} {Q : Option mPV → mPW → Prop} {n : Int} {T : Int → Int} {hc : Int} {hs hp : Int → Int} {ln : Int} {sg : Int → Int} {x : XS} {S p : Int → Int} {F : Int × Int × Int} {B : (Nat → Int64) × (Nat → Int64)} {G : Int → Int} {E : Int × Int} {i : Int} (h1 : 1 ≤ hc) (hrel : Rel (n, T, (hc, hs, hp), (ln, sg), x) (S, (hc, p), (ln, sg), F, B, G, E)) (h0 : 0 ≤ i) (h7 : i + 7 ≤ Ls) (hLs : Ls < 2147483648) (K9 : ∀ (c : CS) (m : MS), Rel c m → m_Sem (b, Ls, xs) 0 (754, [some (.inr (.inr (.ref b))), some (.inr (.inl 0)), some (.inr (.inl 13)), some (.inl i)], [], mW c m, 0, 0) Q) : m_Sem (b, Ls, xs) 0 (669, [some (.inr (.inr (.ref b))), some (.inr (.inl 0)), some (.inr (.inl 13)), some (.inl i)], [], mW (n, T, (hc, hs, hp), (ln, sg), x) (S, (hc, p), (ln, sg), F, B, G, E), 0, 0) (Q) := by
  obtain ⟨⟨tb, hC, hM, hT⟩, hH, -, hS⟩ := id hrel
  obtain ⟨hH1, hH2⟩ := id hH.2.1
  dsimp only at hC hM hT hS hH1 hH2
  have hn := hC.1
  have hln := okN_lo hn
  refine m_run 1 (ps' := (670, [some (.inr (.inr (.ref b))), some (.inr (.inl 0)), some (.inr (.inl 13)), some (.inl i)], [.inr (.inl 0)], mW (n, T, (hc, hs, hp), (ln, sg), x) (S, (hc, p), (ln, sg), F, B, G, E), 0, 0)) rfl ?_
  refine m_callVF [] [] rfl rfl ⟨_, rfl, rfl⟩ rfl rfl (k_undo h1 hH2) ?_
  show m_Sem (b, Ls, xs) 0 (673, [some (.inr (.inr (.ref b))), some (.inr (.inl 0)), some (.inr (.inl 13)), some (.inl i)], [.inl (hc - 1)], mW ((hs (hc - 1)), (popT T (hc, hs, hp)), (hc - 1, hs, hp), (ln, sg), x) (S, (hc, p), (ln, sg), F, B, G, E), 0, 0) _
  refine m_run 1 (ps' := (674, [some (.inr (.inr (.ref b))), some (.inr (.inl 0)), some (.inr (.inl 13)), some (.inl i)], [.inr (.inl 13), .inl (hc - 1)], mW ((hs (hc - 1)), (popT T (hc, hs, hp)), (hc - 1, hs, hp), (ln, sg), x) (S, (hc, p), (ln, sg), F, B, G, E), 0, 0)) rfl ?_
  refine m_callV [] [.inl (hc - 1)] rfl rfl ⟨_, rfl, rfl⟩ rfl rfl (d_undo  h1 hH2) (fun r_ w_ hq_ _ => ?_)
  obtain ⟨rfl, S3, rfl, hpp⟩ := hq_
  show m_Sem (b, Ls, xs) 0 (677, [some (.inr (.inr (.ref b))), some (.inr (.inl 0)), some (.inr (.inl 13)), some (.inl i)], [.inl (hc - 1), .inl (hc - 1)], mW ((hs (hc - 1)), (popT T (hc, hs, hp)), (hc - 1, hs, hp), (ln, sg), x) (S3, (hc - 1, p), (ln, sg), F, B, G, E), 0, 0) _
  refine m_eqr rfl ?_
  exact K9 _ _ (⟨(hs_pop (T := T) hH h1 hpp).1, (hs_pop (T := T) hH h1 hpp).2, rfl, hS⟩)
set_option maxHeartbeats 4000000 in
set_option maxRecDepth 100000 in
theorem w_undoN {b Ls : Nat} {xs : Nat → Int32} {Q : Option mPV → mPW → Prop} {n : Int} {T : Int → Int} {hs hp : Int → Int} {ln : Int} {sg : Int → Int} {x : XS} {S p : Int → Int} {F : Int × Int × Int} {B : (Nat → Int64) × (Nat → Int64)} {G : Int → Int} {E : Int × Int} {i : Int}  (hrel : Rel (n, T, (0, hs, hp), (ln, sg), x) (S, (0, p), (ln, sg), F, B, G, E)) (h0 : 0 ≤ i) (h7 : i + 7 ≤ Ls) (hLs : Ls < 2147483648) (K9 : ∀ (c : CS) (m : MS), Rel c m → m_Sem (b, Ls, xs) 0 (754, [some (.inr (.inr (.ref b))), some (.inr (.inl 0)), some (.inr (.inl 13)), some (.inl i)], [], mW c m, 0, 0) Q) : m_Sem (b, Ls, xs) 0 (669, [some (.inr (.inr (.ref b))), some (.inr (.inl 0)), some (.inr (.inl 13)), some (.inl i)], [], mW (n, T, (0, hs, hp), (ln, sg), x) (S, (0, p), (ln, sg), F, B, G, E), 0, 0) (Q) := by
  obtain ⟨⟨tb, hC, hM, hT⟩, hH, -, hS⟩ := id hrel
  obtain ⟨hH1, hH2⟩ := id hH.2.1
  dsimp only at hC hM hT hS hH1 hH2
  have hn := hC.1
  have hln := okN_lo hn
  refine m_run 1 (ps' := (670, [some (.inr (.inr (.ref b))), some (.inr (.inl 0)), some (.inr (.inl 13)), some (.inl i)], [.inr (.inl 0)], mW (n, T, (0, hs, hp), (ln, sg), x) (S, (0, p), (ln, sg), F, B, G, E), 0, 0)) rfl ?_
  refine m_callVF [] [] rfl rfl ⟨_, rfl, rfl⟩ rfl rfl (k_undoN  ) ?_
  show m_Sem (b, Ls, xs) 0 (673, [some (.inr (.inr (.ref b))), some (.inr (.inl 0)), some (.inr (.inl 13)), some (.inl i)], [.inl (-1000002)], mW (n, T, (0, hs, hp), (ln, sg), x) (S, (0, p), (ln, sg), F, B, G, E), 0, 0) _
  refine m_run 1 (ps' := (674, [some (.inr (.inr (.ref b))), some (.inr (.inl 0)), some (.inr (.inl 13)), some (.inl i)], [.inr (.inl 13), .inl (-1000002)], mW (n, T, (0, hs, hp), (ln, sg), x) (S, (0, p), (ln, sg), F, B, G, E), 0, 0)) rfl ?_
  refine m_callVF [] [.inl (-1000002)] rfl rfl ⟨_, rfl, rfl⟩ rfl rfl (d_undoN  ) ?_
  show m_Sem (b, Ls, xs) 0 (677, [some (.inr (.inr (.ref b))), some (.inr (.inl 0)), some (.inr (.inl 13)), some (.inl i)], [.inl (-1000002), .inl (-1000002)], mW (n, T, (0, hs, hp), (ln, sg), x) (S, (0, p), (ln, sg), F, B, G, E), 0, 0) _
  refine m_eqr rfl ?_
  exact K9 _ _ (hrel)
set_option maxHeartbeats 4000000 in
set_option maxRecDepth 100000 in
theorem w_type {b Ls : Nat} {xs : Nat → Int32} {Q : Option mPV → mPW → Prop} {n : Int} {T : Int → Int} {hc : Int} {hs hp : Int → Int} {ln : Int} {sg : Int → Int} {x : XS} {S p : Int → Int} {F : Int × Int × Int} {B : (Nat → Int64) × (Nat → Int64)} {G : Int → Int} {E : Int × Int} {i : Int}  (hrel : Rel (n, T, (hc, hs, hp), (ln, sg), x) (S, (hc, p), (ln, sg), F, B, G, E)) (h0 : 0 ≤ i) (h7 : i + 7 ≤ Ls) (hLs : Ls < 2147483648) (K9 : ∀ (c : CS) (m : MS), Rel c m → m_Sem (b, Ls, xs) 0 (754, [some (.inr (.inr (.ref b))), some (.inr (.inl 0)), some (.inr (.inl 13)), some (.inl i)], [], mW c m, 0, 0) Q) : m_Sem (b, Ls, xs) 0 (682, [some (.inr (.inr (.ref b))), some (.inr (.inl 0)), some (.inr (.inl 13)), some (.inl i)], [], mW (n, T, (hc, hs, hp), (ln, sg), x) (S, (hc, p), (ln, sg), F, B, G, E), 0, 0) (Q) := by
  obtain ⟨⟨tb, hC, hM, hT⟩, hH, -, hS⟩ := id hrel
  obtain ⟨hH1, hH2⟩ := id hH.2.1
  dsimp only at hC hM hT hS hH1 hH2
  have hn := hC.1
  have hln := okN_lo hn
  refine m_run 5 (ps' := (687, [some (.inr (.inr (.ref b))), some (.inr (.inl 0)), some (.inr (.inl 13)), some (.inl i)], [.inl (i + 1), .inr (.inr (.ref b)), .inr (.inl 0)], mW (n, T, (hc, hs, hp), (ln, sg), x) (S, (hc, p), (ln, sg), F, B, G, E), 0, 0)) rfl ?_
  refine m_sld rfl (by omega) (by omega) hLs ?_
  refine m_callVF [.inl ((xs ((i + 1)).toNat).toInt)] [] rfl rfl ⟨_, rfl, rfl⟩ rfl rfl (k_type (i32_R _) hS) ?_
  show m_Sem (b, Ls, xs) 0 (691, [some (.inr (.inr (.ref b))), some (.inr (.inl 0)), some (.inr (.inl 13)), some (.inl i)], [.inl (typS ln ((xs ((i + 1)).toNat).toInt))], mW (n, T, (hc, hs, hp), (typT ln sg ((xs ((i + 1)).toNat).toInt)), x) (S, (hc, p), (ln, sg), F, B, G, E), 0, 0) _
  refine m_run 5 (ps' := (696, [some (.inr (.inr (.ref b))), some (.inr (.inl 0)), some (.inr (.inl 13)), some (.inl i)], [.inl (i + 1), .inr (.inr (.ref b)), .inr (.inl 13), .inl (typS ln ((xs ((i + 1)).toNat).toInt))], mW (n, T, (hc, hs, hp), (typT ln sg ((xs ((i + 1)).toNat).toInt)), x) (S, (hc, p), (ln, sg), F, B, G, E), 0, 0)) rfl ?_
  refine m_sld rfl (by omega) (by omega) hLs ?_
  refine m_callVF [.inl ((xs ((i + 1)).toNat).toInt)] [.inl (typS ln ((xs ((i + 1)).toNat).toInt))] rfl rfl ⟨_, rfl, rfl⟩ rfl rfl (d_type (i32_R _) hS) ?_
  show m_Sem (b, Ls, xs) 0 (700, [some (.inr (.inr (.ref b))), some (.inr (.inl 0)), some (.inr (.inl 13)), some (.inl i)], [.inl (typS ln ((xs ((i + 1)).toNat).toInt)), .inl (typS ln ((xs ((i + 1)).toNat).toInt))], mW (n, T, (hc, hs, hp), (typT ln sg ((xs ((i + 1)).toNat).toInt)), x) (S, (hc, p), (typT ln sg ((xs ((i + 1)).toNat).toInt)), F, B, G, E), 0, 0) _
  refine m_eqr rfl ?_
  exact K9 _ _ (⟨⟨tb, hC, hM, hT⟩, hH, rfl, okS_typ hS⟩)
set_option maxHeartbeats 4000000 in
set_option maxRecDepth 100000 in
theorem w_clr {b Ls : Nat} {xs : Nat → Int32} {Q : Option mPV → mPW → Prop} {n : Int} {T : Int → Int} {hc : Int} {hs hp : Int → Int} {ln : Int} {sg : Int → Int} {x : XS} {S p : Int → Int} {F : Int × Int × Int} {B : (Nat → Int64) × (Nat → Int64)} {G : Int → Int} {E : Int × Int} {i : Int}  (hrel : Rel (n, T, (hc, hs, hp), (ln, sg), x) (S, (hc, p), (ln, sg), F, B, G, E)) (h0 : 0 ≤ i) (h7 : i + 7 ≤ Ls) (hLs : Ls < 2147483648) (K9 : ∀ (c : CS) (m : MS), Rel c m → m_Sem (b, Ls, xs) 0 (754, [some (.inr (.inr (.ref b))), some (.inr (.inl 0)), some (.inr (.inl 13)), some (.inl i)], [], mW c m, 0, 0) Q) : m_Sem (b, Ls, xs) 0 (705, [some (.inr (.inr (.ref b))), some (.inr (.inl 0)), some (.inr (.inl 13)), some (.inl i)], [], mW (n, T, (hc, hs, hp), (ln, sg), x) (S, (hc, p), (ln, sg), F, B, G, E), 0, 0) (Q) := by
  obtain ⟨⟨tb, hC, hM, hT⟩, hH, -, hS⟩ := id hrel
  obtain ⟨hH1, hH2⟩ := id hH.2.1
  dsimp only at hC hM hT hS hH1 hH2
  have hn := hC.1
  have hln := okN_lo hn
  refine m_run 1 (ps' := (706, [some (.inr (.inr (.ref b))), some (.inr (.inl 0)), some (.inr (.inl 13)), some (.inl i)], [.inr (.inl 0)], mW (n, T, (hc, hs, hp), (ln, sg), x) (S, (hc, p), (ln, sg), F, B, G, E), 0, 0)) rfl ?_
  refine m_callVF [] [] rfl rfl ⟨_, rfl, rfl⟩ rfl rfl k_clr ?_
  show m_Sem (b, Ls, xs) 0 (709, [some (.inr (.inr (.ref b))), some (.inr (.inl 0)), some (.inr (.inl 13)), some (.inl i)], [.inl ln], mW (n, T, (hc, hs, hp), (0, sg), x) (S, (hc, p), (ln, sg), F, B, G, E), 0, 0) _
  refine m_run 1 (ps' := (710, [some (.inr (.inr (.ref b))), some (.inr (.inl 0)), some (.inr (.inl 13)), some (.inl i)], [.inr (.inl 13), .inl ln], mW (n, T, (hc, hs, hp), (0, sg), x) (S, (hc, p), (ln, sg), F, B, G, E), 0, 0)) rfl ?_
  refine m_callVF [] [.inl ln] rfl rfl ⟨_, rfl, rfl⟩ rfl rfl d_clr ?_
  show m_Sem (b, Ls, xs) 0 (713, [some (.inr (.inr (.ref b))), some (.inr (.inl 0)), some (.inr (.inl 13)), some (.inl i)], [.inl ln, .inl ln], mW (n, T, (hc, hs, hp), (0, sg), x) (S, (hc, p), (0, sg), F, B, G, E), 0, 0) _
  refine m_eqr rfl ?_
  exact K9 _ _ (⟨⟨tb, hC, hM, hT⟩, hH, rfl, okS_0 hS⟩)
set_option maxHeartbeats 4000000 in
set_option maxRecDepth 100000 in
theorem w_fau {b Ls : Nat} {xs : Nat → Int32} {Q : Option mPV → mPW → Prop} {n : Int} {T : Int → Int} {hc : Int} {hs hp : Int → Int} {ln : Int} {sg : Int → Int} {x : XS} {S p : Int → Int} {F : Int × Int × Int} {B : (Nat → Int64) × (Nat → Int64)} {G : Int → Int} {E : Int × Int} {i : Int}  (hrel : Rel (n, T, (hc, hs, hp), (ln, sg), x) (S, (hc, p), (ln, sg), F, B, G, E)) (h0 : 0 ≤ i) (h7 : i + 7 ≤ Ls) (hLs : Ls < 2147483648) (K9 : ∀ (c : CS) (m : MS), Rel c m → m_Sem (b, Ls, xs) 0 (754, [some (.inr (.inr (.ref b))), some (.inr (.inl 0)), some (.inr (.inl 13)), some (.inl i)], [], mW c m, 0, 0) Q) : m_Sem (b, Ls, xs) 0 (718, [some (.inr (.inr (.ref b))), some (.inr (.inl 0)), some (.inr (.inl 13)), some (.inl i)], [], mW (n, T, (hc, hs, hp), (ln, sg), x) (S, (hc, p), (ln, sg), F, B, G, E), 0, 0) (Q) := by
  obtain ⟨⟨tb, hC, hM, hT⟩, hH, -, hS⟩ := id hrel
  obtain ⟨hH1, hH2⟩ := id hH.2.1
  dsimp only at hC hM hT hS hH1 hH2
  have hn := hC.1
  have hln := okN_lo hn
  refine m_run 5 (ps' := (723, [some (.inr (.inr (.ref b))), some (.inr (.inl 0)), some (.inr (.inl 13)), some (.inl i)], [.inl (i + 1), .inr (.inr (.ref b)), .inr (.inl 0)], mW (n, T, (hc, hs, hp), (ln, sg), x) (S, (hc, p), (ln, sg), F, B, G, E), 0, 0)) rfl ?_
  refine m_sld rfl (by omega) (by omega) hLs ?_
  refine m_callVF [.inl ((xs ((i + 1)).toNat).toInt)] [] rfl rfl ⟨_, rfl, rfl⟩ rfl rfl (k_fau (i32_R _) hS hC) ?_
  show m_Sem (b, Ls, xs) 0 (727, [some (.inr (.inr (.ref b))), some (.inr (.inl 0)), some (.inr (.inl 13)), some (.inl i)], [.inl (fauS n ln sg ((xs ((i + 1)).toNat).toInt))], mW (n, T, (hc, hs, hp), (ln, sg), x) (S, (hc, p), (ln, sg), F, B, G, E), 0, 0) _
  refine m_run 5 (ps' := (732, [some (.inr (.inr (.ref b))), some (.inr (.inl 0)), some (.inr (.inl 13)), some (.inl i)], [.inl (i + 1), .inr (.inr (.ref b)), .inr (.inl 13), .inl (fauS n ln sg ((xs ((i + 1)).toNat).toInt))], mW (n, T, (hc, hs, hp), (ln, sg), x) (S, (hc, p), (ln, sg), F, B, G, E), 0, 0)) rfl ?_
  refine m_sld rfl (by omega) (by omega) hLs ?_
  refine m_callV [.inl ((xs ((i + 1)).toNat).toInt)] [.inl (fauS n ln sg ((xs ((i + 1)).toNat).toInt))] rfl rfl ⟨_, rfl, rfl⟩ rfl rfl (d_fau (i32_R _) hS hM) (fun r_ w_ hq_ _ => ?_)
  obtain ⟨rfl, E2, rfl⟩ := hq_
  show m_Sem (b, Ls, xs) 0 (736, [some (.inr (.inr (.ref b))), some (.inr (.inl 0)), some (.inr (.inl 13)), some (.inl i)], [.inl (fauS n ln sg ((xs ((i + 1)).toNat).toInt)), .inl (fauS n ln sg ((xs ((i + 1)).toNat).toInt))], mW (n, T, (hc, hs, hp), (ln, sg), x) (S, (hc, p), (ln, sg), F, B, G, E2), 0, 0) _
  refine m_eqr rfl ?_
  exact K9 _ _ (hrel)
set_option maxHeartbeats 4000000 in
set_option maxRecDepth 100000 in
theorem w_playY {b Ls : Nat} {xs : Nat → Int32} {Q : Option mPV → mPW → Prop} {n : Int} {T : Int → Int} {hc : Int} {hs hp : Int → Int} {ln : Int} {sg : Int → Int} {x : XS} {S p : Int → Int} {F : Int × Int × Int} {B : (Nat → Int64) × (Nat → Int64)} {G : Int → Int} {E : Int × Int} {i : Int} (hg0 : oI (fplS n ln sg) = -1) (hrel : Rel (n, T, (hc, hs, hp), (ln, sg), x) (S, (hc, p), (ln, sg), F, B, G, E)) (h0 : 0 ≤ i) (h7 : i + 7 ≤ Ls) (hLs : Ls < 2147483648) (K9 : ∀ (c : CS) (m : MS), Rel c m → m_Sem (b, Ls, xs) 0 (754, [some (.inr (.inr (.ref b))), some (.inr (.inl 0)), some (.inr (.inl 13)), some (.inl i)], [], mW c m, 0, 0) Q) : m_Sem (b, Ls, xs) 0 (741, [some (.inr (.inr (.ref b))), some (.inr (.inl 0)), some (.inr (.inl 13)), some (.inl i)], [], mW (n, T, (hc, hs, hp), (ln, sg), x) (S, (hc, p), (ln, sg), F, B, G, E), 0, 0) (Q) := by
  obtain ⟨⟨tb, hC, hM, hT⟩, hH, -, hS⟩ := id hrel
  obtain ⟨hH1, hH2⟩ := id hH.2.1
  dsimp only at hC hM hT hS hH1 hH2
  have hn := hC.1
  have hln := okN_lo hn
  refine m_run 1 (ps' := (742, [some (.inr (.inr (.ref b))), some (.inr (.inl 0)), some (.inr (.inl 13)), some (.inl i)], [.inr (.inl 0)], mW (n, T, (hc, hs, hp), (ln, sg), x) (S, (hc, p), (ln, sg), F, B, G, E), 0, 0)) rfl ?_
  refine m_callVF [] [] rfl rfl ⟨_, rfl, rfl⟩ rfl rfl (k_play hg0 hS hC hT hH1 hH2) ?_
  show m_Sem (b, Ls, xs) 0 (745, [some (.inr (.inr (.ref b))), some (.inr (.inl 0)), some (.inr (.inl 13)), some (.inl i)], [.inl ((ln + 5) / 6)], mW (n, (setsT ln sg ((ln + 5) / 6).toNat 0 T), (keepH n T (hc, hs, hp)), (ln, sg), x) (S, (hc, p), (ln, sg), F, B, G, E), 0, 0) _
  refine m_run 1 (ps' := (746, [some (.inr (.inr (.ref b))), some (.inr (.inl 0)), some (.inr (.inl 13)), some (.inl i)], [.inr (.inl 13), .inl ((ln + 5) / 6)], mW (n, (setsT ln sg ((ln + 5) / 6).toNat 0 T), (keepH n T (hc, hs, hp)), (ln, sg), x) (S, (hc, p), (ln, sg), F, B, G, E), 0, 0)) rfl ?_
  refine m_callV [] [.inl ((ln + 5) / 6)] rfl rfl ⟨_, rfl, rfl⟩ rfl rfl (d_play  hg0 hS hM hH1 hH2) (fun r_ w_ hq_ _ => ?_)
  obtain ⟨rfl, P2, S3, E2, rfl, hsv, hs0, hsh⟩ := hq_
  show m_Sem (b, Ls, xs) 0 (749, [some (.inr (.inr (.ref b))), some (.inr (.inl 0)), some (.inr (.inl 13)), some (.inl i)], [.inl ((ln + 5) / 6), .inl ((ln + 5) / 6)], mW (n, (setsT ln sg ((ln + 5) / 6).toNat 0 T), (keepH n T (hc, hs, hp)), (ln, sg), x) (S3, P2, (ln, sg), F, B, G, E2), 0, 0) _
  refine m_eqr rfl ?_
  exact K9 _ _ (⟨kp_play hS hg0 hC hM hT hs0 hsh, hs_keep ⟨tb, hC, hM, hT⟩ hH hsv, rfl, hS⟩)
set_option maxHeartbeats 4000000 in
set_option maxRecDepth 100000 in
theorem w_playN {b Ls : Nat} {xs : Nat → Int32} {Q : Option mPV → mPW → Prop} {n : Int} {T : Int → Int} {hc : Int} {hs hp : Int → Int} {ln : Int} {sg : Int → Int} {x : XS} {S p : Int → Int} {F : Int × Int × Int} {B : (Nat → Int64) × (Nat → Int64)} {G : Int → Int} {E : Int × Int} {i : Int} (hg0 : ¬ oI (fplS n ln sg) = -1) (hrel : Rel (n, T, (hc, hs, hp), (ln, sg), x) (S, (hc, p), (ln, sg), F, B, G, E)) (h0 : 0 ≤ i) (h7 : i + 7 ≤ Ls) (hLs : Ls < 2147483648) (K9 : ∀ (c : CS) (m : MS), Rel c m → m_Sem (b, Ls, xs) 0 (754, [some (.inr (.inr (.ref b))), some (.inr (.inl 0)), some (.inr (.inl 13)), some (.inl i)], [], mW c m, 0, 0) Q) : m_Sem (b, Ls, xs) 0 (741, [some (.inr (.inr (.ref b))), some (.inr (.inl 0)), some (.inr (.inl 13)), some (.inl i)], [], mW (n, T, (hc, hs, hp), (ln, sg), x) (S, (hc, p), (ln, sg), F, B, G, E), 0, 0) (Q) := by
  obtain ⟨⟨tb, hC, hM, hT⟩, hH, -, hS⟩ := id hrel
  obtain ⟨hH1, hH2⟩ := id hH.2.1
  dsimp only at hC hM hT hS hH1 hH2
  have hn := hC.1
  have hln := okN_lo hn
  refine m_run 1 (ps' := (742, [some (.inr (.inr (.ref b))), some (.inr (.inl 0)), some (.inr (.inl 13)), some (.inl i)], [.inr (.inl 0)], mW (n, T, (hc, hs, hp), (ln, sg), x) (S, (hc, p), (ln, sg), F, B, G, E), 0, 0)) rfl ?_
  refine m_callVF [] [] rfl rfl ⟨_, rfl, rfl⟩ rfl rfl (k_playN  hg0 hS hC) ?_
  show m_Sem (b, Ls, xs) 0 (745, [some (.inr (.inr (.ref b))), some (.inr (.inl 0)), some (.inr (.inl 13)), some (.inl i)], [.inl (-1000002)], mW (n, T, (hc, hs, hp), (ln, sg), x) (S, (hc, p), (ln, sg), F, B, G, E), 0, 0) _
  refine m_run 1 (ps' := (746, [some (.inr (.inr (.ref b))), some (.inr (.inl 0)), some (.inr (.inl 13)), some (.inl i)], [.inr (.inl 13), .inl (-1000002)], mW (n, T, (hc, hs, hp), (ln, sg), x) (S, (hc, p), (ln, sg), F, B, G, E), 0, 0)) rfl ?_
  refine m_callV [] [.inl (-1000002)] rfl rfl ⟨_, rfl, rfl⟩ rfl rfl (d_playN  hg0 hS hM) (fun r_ w_ hq_ _ => ?_)
  obtain ⟨rfl, E2, rfl⟩ := hq_
  show m_Sem (b, Ls, xs) 0 (749, [some (.inr (.inr (.ref b))), some (.inr (.inl 0)), some (.inr (.inl 13)), some (.inl i)], [.inl (-1000002), .inl (-1000002)], mW (n, T, (hc, hs, hp), (ln, sg), x) (S, (hc, p), (ln, sg), F, B, G, E2), 0, 0) _
  refine m_eqr rfl ?_
  exact K9 _ _ (hrel)
