/-! The law's acts. What the law keeps: the class's ring and its own table, alike. -/
def InvL (k : Nat) (w : mPW) : Prop := ∃ (n : Int) (T : Int → Int) (h : HS) (sg : Int → Int) (x : XS) (g : Int → Int) (f : Nat → Int64) (J : mPW) (tb : Int → Int → Int), w = mW (n, T, h, (0, sg), x) (.inl (0, 1, .inl g) :: .inl (2, 9, .inr f) :: J) ∧ g 0 = n ∧ repL n f tb ∧ repC n T tb ∧ okT T ∧ (0 ≤ h.1 ∧ h.1 ≤ 4) ∧ J.length = k
def actQ (k : Nat) : Option mPV → mPW → Prop := fun r w => r = some (.inl 1) ∧ InvL k w
theorem keepH_in {n : Int} {T : Int → Int} {h : HS} (h1 : 0 ≤ h.1) (h2 : h.1 ≤ 4) : 0 ≤ (keepH n T h).1 ∧ (keepH n T h).1 ≤ 4 := by
  unfold keepH
  split
  · show 0 ≤ (3 : Int) + 1 ∧ (3 : Int) + 1 ≤ 4
    omega
  · show 0 ≤ h.1 + 1 ∧ h.1 + 1 ≤ 4
    omega
theorem tbl_L {n : Int} {f : Nat → Int64} {tb : Int → Int → Int} (hn : okN n) (h : ∀ a b, 0 ≤ a → a < n → 0 ≤ b → b < n → nib (f a.toNat) b = tb a b) (hr : ∀ a b, 0 ≤ a → a < n → 0 ≤ b → b < n → 0 ≤ tb a b ∧ tb a b < n) : repL n f tb := ⟨hn, fun a b h1 h2 h3 h4 => ⟨h a b h1 h2 h3 h4, hr a b h1 h2 h3 h4⟩⟩
theorem tbl_C {n : Int} {T : Int → Int} {tb : Int → Int → Int} (hn : okN n) (h : ∀ a b, 0 ≤ a → a < n → 0 ≤ b → b < n → T (9 * a + b) = tb a b) (hr : ∀ a b, 0 ≤ a → a < n → 0 ≤ b → b < n → 0 ≤ tb a b ∧ tb a b < n) : repC n T tb := ⟨hn, fun a b h1 h2 h3 h4 => ⟨h a b h1 h2 h3 h4, hr a b h1 h2 h3 h4⟩⟩
theorem twS_in {a b : Int} (ha : 0 ≤ a) (ha2 : a < 9) (hb : 0 ≤ b) (hb2 : b < 9) : 0 ≤ twS a b ∧ twS a b < 9 := by
  have hc := cubeS_in ha ha2
  unfold twS
  cases sqS 9 b
  · exact fpS_in (n := 9) (by unfold okN; omega) hc.1 hc.2 hb hb2
  · exact fpS_in (n := 9) (by unfold okN; omega) ha ha2 hb hb2
def prodT (tb : Int → Int → Int) (A B r : Int) : Int → Int → Int := fun a b => if a = A ∧ b = B then r else tb a b
theorem prod_L {n : Int} {f : Nat → Int64} {tb : Int → Int → Int} {A B r : Int} (hL : repL n f tb) (hA : 0 ≤ A) (hA2 : A < n) (hB : 0 ≤ B) (hB2 : B < n) (hr : 0 ≤ r) (hr2 : r < n) : repL n (putF f A B r) (prodT tb A B r) := by
  have hl := okN_lo hL.1
  refine ⟨hL.1, fun a b h1 h2 h3 h4 => ?_⟩
  have h5 := hL.2 a b h1 h2 h3 h4
  unfold prodT
  by_cases h : a = A ∧ b = B
  · rw [if_pos h, h.1, h.2, putF_s f hB (by omega) hr (by omega)]
    exact ⟨rfl, hr, hr2⟩
  · rw [if_neg h, putF_n f hA h1 hB (by omega) hr (by omega) h3 (by omega) h]
    exact h5
theorem prod_C {n : Int} {T : Int → Int} {tb : Int → Int → Int} {A B r : Int} (hL : repC n T tb) (hA : 0 ≤ A) (hA2 : A < n) (hB : 0 ≤ B) (hB2 : B < n) (hr : 0 ≤ r) (hr2 : r < n) : repC n (m_up T (9 * A + B) r) (prodT tb A B r) := by
  have hl := okN_lo hL.1
  refine ⟨hL.1, fun a b h1 h2 h3 h4 => ?_⟩
  have h5 := hL.2 a b h1 h2 h3 h4
  unfold prodT
  by_cases h : a = A ∧ b = B
  · rw [if_pos h, h.1, h.2, m_up_s]
    exact ⟨rfl, hr, hr2⟩
  · rw [if_neg h, m_up_n T r (by omega)]
    exact h5
set_option maxHeartbeats 4000000 in
set_option maxRecDepth 100000 in
theorem a_acF {X : Nat × Nat × (Nat → Int32)} {n : Int} {T : Int → Int} {hc : Int} {hs hp : Int → Int} {sg : Int → Int} {x : XS} {g : Int → Int} {f : Nat → Int64} {J : mPW} {tb : Int → Int → Int} {z : Int} (hg : g 0 = n) (hL : repL n f tb) (hR : repC n T tb) (hT : okT T) (h1 : 0 ≤ hc) (h2 : hc ≤ 4) (hw : lowL z 16 < 6) : m_Run X 53 [.inr (.inl 0), .inr (.inl 13), .inr (.inl 14), .inl z] (mW (n, T, (hc, hs, hp), (0, sg), x) (.inl (0, 1, .inl g) :: .inl (2, 9, .inr f) :: J)) (actQ J.length) := by
  have hn := hL.1
  have hl := okN_lo hn
  show m_Sem X 53 (0, [some (.inr (.inl 0)), some (.inr (.inl 13)), some (.inr (.inl 14)), some (.inl z), none, none, none, none, none, none, none, none, none], [], mW (n, T, (hc, hs, hp), (0, sg), x) (.inl (0, 1, .inl g) :: .inl (2, 9, .inr f) :: J), 0, 0) _
  refine m_run 4 (ps' := (5, [some (.inr (.inl 0)), some (.inr (.inl 13)), some (.inr (.inl 14)), some (.inl z), none, none, none, none, none, none, none, none, none], [.inl 10000000, .inl ((Int32.ofInt z >>> (Int32.ofInt 4 &&& 31)).toInt)], mW (n, T, (hc, hs, hp), (0, sg), x) (.inl (0, 1, .inl g) :: .inl (2, 9, .inr f) :: J), 0, 0)) rfl ?_
  refine m_callSF [.inl ((Int32.ofInt z >>> (Int32.ofInt 4 &&& 31)).toInt), .inl 10000000] [] rfl rfl rfl (a_low (v := (Int32.ofInt z >>> (Int32.ofInt 4 &&& 31)).toInt) (m := 10000000) (by omega) (by omega)) ?_
  have zt1 := lowL_in (v := (Int32.ofInt z >>> (Int32.ofInt 4 &&& 31)).toInt) (m := 10000000) (by omega)
  generalize lowL ((Int32.ofInt z >>> (Int32.ofInt 4 &&& 31)).toInt) 10000000 = y at zt1 ⊢
  show m_Sem X 53 (8, [some (.inr (.inl 0)), some (.inr (.inl 13)), some (.inr (.inl 14)), some (.inl z), none, none, none, none, none, none, none, none, none], [.inl y], mW (n, T, (hc, hs, hp), (0, sg), x) (.inl (0, 1, .inl g) :: .inl (2, 9, .inr f) :: J), 0, 0) _
  refine m_run 3 (ps' := (13, [some (.inr (.inl 0)), some (.inr (.inl 13)), some (.inr (.inl 14)), some (.inl z), some (.inl y), none, none, none, none, none, none, none, none], [.inl 16, .inl z], mW (n, T, (hc, hs, hp), (0, sg), x) (.inl (0, 1, .inl g) :: .inl (2, 9, .inr f) :: J), 0, 0)) rfl ?_
  refine m_callSF [.inl z, .inl 16] [] rfl rfl rfl (a_low (v := z) (m := 16) (by omega) (by omega)) ?_
  have zt2 := lowL_in (v := z) (m := 16) (by omega)
  show m_Sem X 53 (16, [some (.inr (.inl 0)), some (.inr (.inl 13)), some (.inr (.inl 14)), some (.inl z), some (.inl y), none, none, none, none, none, none, none, none], [.inl (lowL z 16)], mW (n, T, (hc, hs, hp), (0, sg), x) (.inl (0, 1, .inl g) :: .inl (2, 9, .inr f) :: J), 0, 0) _
  refine m_run 3 (ps' := (20, [some (.inr (.inl 0)), some (.inr (.inl 13)), some (.inr (.inl 14)), some (.inl z), some (.inl y), some (.inl (lowL z 16)), none, none, none, none, none, none, none], [.inl 0, .inr (.inl 13)], mW (n, T, (hc, hs, hp), (0, sg), x) (.inl (0, 1, .inl g) :: .inl (2, 9, .inr f) :: J), 0, 0)) rfl ?_
  refine m_iald rfl rfl (by omega) (by omega) (by decide) ?_
  show m_Sem X 53 (21, [some (.inr (.inl 0)), some (.inr (.inl 13)), some (.inr (.inl 14)), some (.inl z), some (.inl y), some (.inl (lowL z 16)), none, none, none, none, none, none, none], [.inl (g 0)], mW (n, T, (hc, hs, hp), (0, sg), x) (.inl (0, 1, .inl g) :: .inl (2, 9, .inr f) :: J), 0, 0) _
  rw [hg]
  refine m_run 3 (ps' := (27, [some (.inr (.inl 0)), some (.inr (.inl 13)), some (.inr (.inl 14)), some (.inl z), some (.inl y), some (.inl (lowL z 16)), some (.inl n), none, none, none, none, none, none], [.inl 6, .inl (lowL z 16)], mW (n, T, (hc, hs, hp), (0, sg), x) (.inl (0, 1, .inl g) :: .inl (2, 9, .inr f) :: J), 0, 0)) rfl ?_
  refine m_icmp rfl ⟨by omega, by omega⟩ ⟨by omega, by omega⟩ (fun (zc1 : 6 ≤ (lowL z 16)) => absurd zc1 (by omega)) (fun (zc1 : ¬ 6 ≤ (lowL z 16)) => ?_)
  refine m_run 3 (ps' := (34, [some (.inr (.inl 0)), some (.inr (.inl 13)), some (.inr (.inl 14)), some (.inl z), some (.inl y), some (.inl (lowL z 16)), some (.inl n), none, none, none, none, none, none], [.inl y, .inr (.inl 14), .inr (.inl 13)], mW (n, T, (hc, hs, hp), (0, sg), x) (.inl (0, 1, .inl g) :: .inl (2, 9, .inr f) :: J), 0, 0)) rfl ?_
  refine m_callSF [.inl y] [.inr (.inl 14), .inr (.inl 13)] rfl rfl rfl (a_size (y := y) (by omega) (by omega)) ?_
  have hok := szL_ok y
  generalize szL y = m at hok ⊢
  have hl2 := okN_lo hok
  show m_Sem X 53 (37, [some (.inr (.inl 0)), some (.inr (.inl 13)), some (.inr (.inl 14)), some (.inl z), some (.inl y), some (.inl (lowL z 16)), some (.inl n), none, none, none, none, none, none], [.inl m, .inr (.inl 14), .inr (.inl 13)], mW (n, T, (hc, hs, hp), (0, sg), x) (.inl (0, 1, .inl g) :: .inl (2, 9, .inr f) :: J), 0, 0) _
  refine m_callS [.inr (.inl 13), .inr (.inl 14), .inl m] [] rfl rfl rfl (a_beg (n := m) hok) (fun r_ w_ hq_ _ => ?_)
  obtain ⟨rfl, f2, rfl, hF2⟩ := hq_
  show m_Sem X 53 (40, [some (.inr (.inl 0)), some (.inr (.inl 13)), some (.inr (.inl 14)), some (.inl z), some (.inl y), some (.inl (lowL z 16)), some (.inl n), none, none, none, none, none, none], [], mW (n, T, (hc, hs, hp), (0, sg), x) (.inl (0, 1, .inl (m_up g 0 m)) :: .inl (2, 9, .inr f2) :: J), 0, 0) _
  refine m_run 3 (ps' := (43, [some (.inr (.inl 0)), some (.inr (.inl 13)), some (.inr (.inl 14)), some (.inl z), some (.inl y), some (.inl (lowL z 16)), some (.inl n), none, none, none, none, none, none], [.inl 0, .inr (.inl 13), .inr (.inl 0)], mW (n, T, (hc, hs, hp), (0, sg), x) (.inl (0, 1, .inl (m_up g 0 m)) :: .inl (2, 9, .inr f2) :: J), 0, 0)) rfl ?_
  refine m_iald rfl rfl (by omega) (by omega) (by decide) ?_
  show m_Sem X 53 (44, [some (.inr (.inl 0)), some (.inr (.inl 13)), some (.inr (.inl 14)), some (.inl z), some (.inl y), some (.inl (lowL z 16)), some (.inl n), none, none, none, none, none, none], [.inl ((m_up g 0 m) 0), .inr (.inl 0)], mW (n, T, (hc, hs, hp), (0, sg), x) (.inl (0, 1, .inl (m_up g 0 m)) :: .inl (2, 9, .inr f2) :: J), 0, 0) _
  rw [m_up_s]
  refine m_callV [.inl m] [] rfl rfl ⟨_, rfl, rfl⟩ rfl rfl (k_field (e := m) ⟨by omega, by omega⟩ hok hR hT h1 h2) (fun r_ w_ hq_ _ => ?_)
  obtain ⟨rfl, T2, rfl, hT2, hF3⟩ := hq_
  show m_Sem X 53 (47, [some (.inr (.inl 0)), some (.inr (.inl 13)), some (.inr (.inl 14)), some (.inl z), some (.inl y), some (.inl (lowL z 16)), some (.inl n), none, none, none, none, none, none], [.inl n], mW (m, T2, (keepH n T (hc, hs, hp)), (0, sg), x) (.inl (0, 1, .inl (m_up g 0 m)) :: .inl (2, 9, .inr f2) :: J), 0, 0) _
  refine m_run 1 (ps' := (49, [some (.inr (.inl 0)), some (.inr (.inl 13)), some (.inr (.inl 14)), some (.inl z), some (.inl y), some (.inl (lowL z 16)), some (.inl n), none, none, none, none, none, none], [.inl n, .inl n], mW (m, T2, (keepH n T (hc, hs, hp)), (0, sg), x) (.inl (0, 1, .inl (m_up g 0 m)) :: .inl (2, 9, .inr f2) :: J), 0, 0)) rfl ?_
  refine m_icmp rfl ⟨by omega, by omega⟩ ⟨by omega, by omega⟩ (fun (zc2 : ¬ n = n) => absurd zc2 (by omega)) (fun (zc2 : ¬ ¬ n = n) => ?_)
  replace zc2 : n = n := Decidable.not_not.mp zc2
  refine m_run 2 (ps' := (57, [some (.inr (.inl 0)), some (.inr (.inl 13)), some (.inr (.inl 14)), some (.inl z), some (.inl y), some (.inl (lowL z 16)), some (.inl n), none, none, none, none, none, none], [.inl 1], mW (m, T2, (keepH n T (hc, hs, hp)), (0, sg), x) (.inl (0, 1, .inl (m_up g 0 m)) :: .inl (2, 9, .inr f2) :: J), 0, 0)) rfl ?_
  exact m_ret1 rfl (Or.inr ⟨rfl, Or.inr rfl⟩) rfl (⟨rfl, m, T2, _, sg, x, _, f2, J, fpS m, rfl, m_up_s _ _ _, tbl_L hok hF2 (fun a b g1 g2 g3 g4 => fpS_in hok g1 g2 g3 g4), tbl_C hok hF3 (fun a b g1 g2 g3 g4 => fpS_in hok g1 g2 g3 g4), hT2, keepH_in h1 h2, rfl⟩)
set_option maxHeartbeats 4000000 in
set_option maxRecDepth 100000 in
theorem a_acTN {X : Nat × Nat × (Nat → Int32)} {n : Int} {T : Int → Int} {hc : Int} {hs hp : Int → Int} {sg : Int → Int} {x : XS} {g : Int → Int} {f : Nat → Int64} {J : mPW} {tb : Int → Int → Int} {z : Int} (hg : g 0 = n) (hL : repL n f tb) (hR : repC n T tb) (hT : okT T) (h1 : 0 ≤ hc) (h2 : hc ≤ 4) (hw : 6 ≤ lowL z 16) (hw2 : lowL z 16 < 9) (hno : ¬ n = 9) : m_Run X 53 [.inr (.inl 0), .inr (.inl 13), .inr (.inl 14), .inl z] (mW (n, T, (hc, hs, hp), (0, sg), x) (.inl (0, 1, .inl g) :: .inl (2, 9, .inr f) :: J)) (actQ J.length) := by
  have hn := hL.1
  have hl := okN_lo hn
  show m_Sem X 53 (0, [some (.inr (.inl 0)), some (.inr (.inl 13)), some (.inr (.inl 14)), some (.inl z), none, none, none, none, none, none, none, none, none], [], mW (n, T, (hc, hs, hp), (0, sg), x) (.inl (0, 1, .inl g) :: .inl (2, 9, .inr f) :: J), 0, 0) _
  refine m_run 4 (ps' := (5, [some (.inr (.inl 0)), some (.inr (.inl 13)), some (.inr (.inl 14)), some (.inl z), none, none, none, none, none, none, none, none, none], [.inl 10000000, .inl ((Int32.ofInt z >>> (Int32.ofInt 4 &&& 31)).toInt)], mW (n, T, (hc, hs, hp), (0, sg), x) (.inl (0, 1, .inl g) :: .inl (2, 9, .inr f) :: J), 0, 0)) rfl ?_
  refine m_callSF [.inl ((Int32.ofInt z >>> (Int32.ofInt 4 &&& 31)).toInt), .inl 10000000] [] rfl rfl rfl (a_low (v := (Int32.ofInt z >>> (Int32.ofInt 4 &&& 31)).toInt) (m := 10000000) (by omega) (by omega)) ?_
  have zt1 := lowL_in (v := (Int32.ofInt z >>> (Int32.ofInt 4 &&& 31)).toInt) (m := 10000000) (by omega)
  generalize lowL ((Int32.ofInt z >>> (Int32.ofInt 4 &&& 31)).toInt) 10000000 = y at zt1 ⊢
  show m_Sem X 53 (8, [some (.inr (.inl 0)), some (.inr (.inl 13)), some (.inr (.inl 14)), some (.inl z), none, none, none, none, none, none, none, none, none], [.inl y], mW (n, T, (hc, hs, hp), (0, sg), x) (.inl (0, 1, .inl g) :: .inl (2, 9, .inr f) :: J), 0, 0) _
  refine m_run 3 (ps' := (13, [some (.inr (.inl 0)), some (.inr (.inl 13)), some (.inr (.inl 14)), some (.inl z), some (.inl y), none, none, none, none, none, none, none, none], [.inl 16, .inl z], mW (n, T, (hc, hs, hp), (0, sg), x) (.inl (0, 1, .inl g) :: .inl (2, 9, .inr f) :: J), 0, 0)) rfl ?_
  refine m_callSF [.inl z, .inl 16] [] rfl rfl rfl (a_low (v := z) (m := 16) (by omega) (by omega)) ?_
  have zt2 := lowL_in (v := z) (m := 16) (by omega)
  show m_Sem X 53 (16, [some (.inr (.inl 0)), some (.inr (.inl 13)), some (.inr (.inl 14)), some (.inl z), some (.inl y), none, none, none, none, none, none, none, none], [.inl (lowL z 16)], mW (n, T, (hc, hs, hp), (0, sg), x) (.inl (0, 1, .inl g) :: .inl (2, 9, .inr f) :: J), 0, 0) _
  refine m_run 3 (ps' := (20, [some (.inr (.inl 0)), some (.inr (.inl 13)), some (.inr (.inl 14)), some (.inl z), some (.inl y), some (.inl (lowL z 16)), none, none, none, none, none, none, none], [.inl 0, .inr (.inl 13)], mW (n, T, (hc, hs, hp), (0, sg), x) (.inl (0, 1, .inl g) :: .inl (2, 9, .inr f) :: J), 0, 0)) rfl ?_
  refine m_iald rfl rfl (by omega) (by omega) (by decide) ?_
  show m_Sem X 53 (21, [some (.inr (.inl 0)), some (.inr (.inl 13)), some (.inr (.inl 14)), some (.inl z), some (.inl y), some (.inl (lowL z 16)), none, none, none, none, none, none, none], [.inl (g 0)], mW (n, T, (hc, hs, hp), (0, sg), x) (.inl (0, 1, .inl g) :: .inl (2, 9, .inr f) :: J), 0, 0) _
  rw [hg]
  refine m_run 3 (ps' := (27, [some (.inr (.inl 0)), some (.inr (.inl 13)), some (.inr (.inl 14)), some (.inl z), some (.inl y), some (.inl (lowL z 16)), some (.inl n), none, none, none, none, none, none], [.inl 6, .inl (lowL z 16)], mW (n, T, (hc, hs, hp), (0, sg), x) (.inl (0, 1, .inl g) :: .inl (2, 9, .inr f) :: J), 0, 0)) rfl ?_
  refine m_icmp rfl ⟨by omega, by omega⟩ ⟨by omega, by omega⟩ (fun (zc1 : 6 ≤ (lowL z 16)) => ?_) (fun (zc1 : ¬ 6 ≤ (lowL z 16)) => absurd zc1 (not_not_intro (by omega)))
  refine m_run 2 (ps' := (62, [some (.inr (.inl 0)), some (.inr (.inl 13)), some (.inr (.inl 14)), some (.inl z), some (.inl y), some (.inl (lowL z 16)), some (.inl n), none, none, none, none, none, none], [.inl 9, .inl (lowL z 16)], mW (n, T, (hc, hs, hp), (0, sg), x) (.inl (0, 1, .inl g) :: .inl (2, 9, .inr f) :: J), 0, 0)) rfl ?_
  refine m_icmp rfl ⟨by omega, by omega⟩ ⟨by omega, by omega⟩ (fun (zc2 : 9 ≤ (lowL z 16)) => absurd zc2 (by omega)) (fun (zc2 : ¬ 9 ≤ (lowL z 16)) => ?_)
  refine m_run 2 (ps' := (69, [some (.inr (.inl 0)), some (.inr (.inl 13)), some (.inr (.inl 14)), some (.inl z), some (.inl y), some (.inl (lowL z 16)), some (.inl n), none, none, none, none, none, none], [.inl 9, .inl n], mW (n, T, (hc, hs, hp), (0, sg), x) (.inl (0, 1, .inl g) :: .inl (2, 9, .inr f) :: J), 0, 0)) rfl ?_
  refine m_icmp rfl ⟨by omega, by omega⟩ ⟨by omega, by omega⟩ (fun (zc3 : n = 9) => absurd zc3 (by omega)) (fun (zc3 : ¬ n = 9) => ?_)
  refine m_run 1 (ps' := (73, [some (.inr (.inl 0)), some (.inr (.inl 13)), some (.inr (.inl 14)), some (.inl z), some (.inl y), some (.inl (lowL z 16)), some (.inl n), none, none, none, none, none, none], [.inr (.inl 0)], mW (n, T, (hc, hs, hp), (0, sg), x) (.inl (0, 1, .inl g) :: .inl (2, 9, .inr f) :: J), 0, 0)) rfl ?_
  refine m_callVF [] [] rfl rfl ⟨_, rfl, rfl⟩ rfl rfl (k_twistN hn hno) ?_
  show m_Sem X 53 (76, [some (.inr (.inl 0)), some (.inr (.inl 13)), some (.inr (.inl 14)), some (.inl z), some (.inl y), some (.inl (lowL z 16)), some (.inl n), none, none, none, none, none, none], [.inl (-1000002)], mW (n, T, (hc, hs, hp), (0, sg), x) (.inl (0, 1, .inl g) :: .inl (2, 9, .inr f) :: J), 0, 0) _
  refine m_run 1 (ps' := (78, [some (.inr (.inl 0)), some (.inr (.inl 13)), some (.inr (.inl 14)), some (.inl z), some (.inl y), some (.inl (lowL z 16)), some (.inl n), none, none, none, none, none, none], [.inl (-1000002), .inl (-1000002)], mW (n, T, (hc, hs, hp), (0, sg), x) (.inl (0, 1, .inl g) :: .inl (2, 9, .inr f) :: J), 0, 0)) rfl ?_
  refine m_icmp rfl ⟨by omega, by omega⟩ ⟨by omega, by omega⟩ (fun (zc4 : ¬ (-1000002) = (-1000002)) => absurd zc4 (by omega)) (fun (zc4 : ¬ ¬ (-1000002) = (-1000002)) => ?_)
  refine m_run 2 (ps' := (86, [some (.inr (.inl 0)), some (.inr (.inl 13)), some (.inr (.inl 14)), some (.inl z), some (.inl y), some (.inl (lowL z 16)), some (.inl n), none, none, none, none, none, none], [.inl 1], mW (n, T, (hc, hs, hp), (0, sg), x) (.inl (0, 1, .inl g) :: .inl (2, 9, .inr f) :: J), 0, 0)) rfl ?_
  exact m_ret1 rfl (Or.inr ⟨rfl, Or.inr rfl⟩) rfl (⟨rfl, n, T, (hc, hs, hp), sg, x, g, f, J, tb, rfl, hg, hL, hR, hT, ⟨h1, h2⟩, rfl⟩)
def fillW (F tb : Int → Int → Int) (f : Nat → Int64) (a b : Int) : Prop := ∀ a' b', 0 ≤ a' → a' < 9 → 0 ≤ b' → b' < 9 → nib (f a'.toNat) b' = if a' < a ∨ (a' = a ∧ b' < b) then F a' b' else tb a' b'
theorem fillW_g {F tb : Int → Int → Int} {f : Nat → Int64} {a b : Int} (h : fillW F tb f a b) (h1 : 0 ≤ a) (h2 : a < 9) (h3 : 0 ≤ b) (h4 : b < 9) : nib (f a.toNat) b = tb a b := by
  rw [h a b h1 h2 h3 h4, if_neg (by omega)]
theorem fillW_s {F tb : Int → Int → Int} {f : Nat → Int64} {a b v : Int} (h : fillW F tb f a b) (h1 : 0 ≤ a) (h2 : a < 9) (h3 : 0 ≤ b) (h4 : b < 9) (h5 : 0 ≤ v) (h6 : v < 16) (hv : F a b = v) : fillW F tb (putF f a b v) a (b + 1) := by
  intro a' b' g1 g2 g3 g4
  by_cases he : a' = a ∧ b' = b
  · rw [he.1, he.2, putF_s f h3 h4 h5 h6, if_pos (by omega), hv]
  · rw [putF_n f h1 g1 h3 h4 h5 h6 g3 g4 he, h a' b' g1 g2 g3 g4]
    by_cases hc : a' < a ∨ (a' = a ∧ b' < b)
    · rw [if_pos hc, if_pos (by omega)]
    · rw [if_neg hc, if_neg (by omega)]
theorem fillW_r {F tb : Int → Int → Int} {f : Nat → Int64} {a : Int} (h : fillW F tb f a 9) : fillW F tb f (a + 1) 0 := by
  intro a' b' g1 g2 g3 g4
  rw [h a' b' g1 g2 g3 g4]
  by_cases hc : a' < a ∨ (a' = a ∧ b' < 9)
  · rw [if_pos hc, if_pos (by omega)]
  · rw [if_neg hc, if_neg (by omega)]
theorem fillW_0 {F tb : Int → Int → Int} {f : Nat → Int64} (h : repL 9 f tb) : fillW F tb f 0 0 := by
  intro a' b' g1 g2 g3 g4
  rw [if_neg (by omega)]
  exact (h.2 a' b' g1 g2 g3 g4).1
theorem sqM_bi {b : Int} (h1 : 0 ≤ b) (h2 : b < 9) : (Int32.ofInt (Int32.ofInt (sqM : Int) >>> (Int32.ofInt b &&& 31)).toInt &&& Int32.ofInt 1).toInt = bI (sqS 9 b) := by
  have h := sqM_b b.toNat (by omega)
  rw [Int.toNat_of_nonneg h1] at h
  rw [← h]
  exact bit_at_i (by decide +kernel) h1 h2
theorem cube_i {a : Int} (h1 : 0 ≤ a) (h2 : a < 9) : fpS 9 a (fpS 9 a a) = cubeS a := by
  have h := cube_c a.toNat (by omega)
  rw [Int.toNat_of_nonneg h1] at h
  exact h
theorem a_ofV {X : Nat × Nat × (Nat → Int32)} {C : CS} {g : Int → Int} {f : Nat → Int64} {J : mPW} {a b v : Int} (ha : 0 ≤ a) (ha2 : a < 9) (hv : nib (f a.toNat) b = v) : m_Run X 47 [.inr (.inl 14), .inl a, .inl b] (mW C (.inl (0, 1, .inl g) :: .inl (2, 9, .inr f) :: J)) (m_V v (mW C (.inl (0, 1, .inl g) :: .inl (2, 9, .inr f) :: J))) := by
  have h := a_ofG (X := X) (w := mW C (.inl (0, 1, .inl g) :: .inl (2, 9, .inr f) :: J)) (q := 14) (f := f) (a := a) (b := b) rfl ha ha2
  rw [hv] at h
  exact h
set_option maxHeartbeats 4000000 in
set_option maxRecDepth 100000 in
theorem a_twB {X : Nat × Nat × (Nat → Int32)} {T : Int → Int} {hc : Int} {hs hp : Int → Int} {sg : Int → Int} {x : XS} {g : Int → Int} {J : mPW} {tb : Int → Int → Int} {y z : Int} {a v : Int} {Q : Option mPV → mPW → Prop} (hg : g 0 = 9) (hn : okN 9) (hL0 : ∀ a b, 0 ≤ a → a < 9 → 0 ≤ b → b < 9 → 0 ≤ tb a b ∧ tb a b < 9) (ha : 0 ≤ a) (ha2 : a < 9) (K : ∀ f : Nat → Int64, fillW twS tb f (a + 1) 0 → m_Sem X 53 (127, [some (.inr (.inl 0)), some (.inr (.inl 13)), some (.inr (.inl 14)), some (.inl z), some (.inl y), some (.inl (lowL z 16)), some (.inl 9), some (.inl v), some (.inl (sqM : Int)), some (.inl (a + 1)), none, none, none], [], mW (9, T, (hc, hs, hp), (0, sg), x) (.inl (0, 1, .inl g) :: .inl (2, 9, .inr f) :: J), 0, 0) Q) : ∀ b : Int, 0 ≤ b → b ≤ 9 → ∀ (f : Nat → Int64) (u : Int) (hf : fillW twS tb f a b) (hu : u + sumF (fun b => if twS a b = tb a b then 0 else 1) (9 - b).toNat b = v), m_Sem X 53 (153, [some (.inr (.inl 0)), some (.inr (.inl 13)), some (.inr (.inl 14)), some (.inl z), some (.inl y), some (.inl (lowL z 16)), some (.inl 9), some (.inl u), some (.inl (sqM : Int)), some (.inl a), some (.inl (fpS 9 a (fpS 9 a a))), some (.inl b), none], [], mW (9, T, (hc, hs, hp), (0, sg), x) (.inl (0, 1, .inl g) :: .inl (2, 9, .inr f) :: J), 0, 0) (Q) := by
  refine m_down 0 9 ?_ ?_
  · intro f u hf hu
    rw [sum_end] at hu
    have hu : u = v := by omega
    subst hu
    show m_Sem X 53 (153, [some (.inr (.inl 0)), some (.inr (.inl 13)), some (.inr (.inl 14)), some (.inl z), some (.inl y), some (.inl (lowL z 16)), some (.inl 9), some (.inl u), some (.inl (sqM : Int)), some (.inl a), some (.inl (fpS 9 a (fpS 9 a a))), some (.inl 9), none], [], mW (9, T, (hc, hs, hp), (0, sg), x) (.inl (0, 1, .inl g) :: .inl (2, 9, .inr f) :: J), 0, 0) _
    refine m_run 2 (ps' := (157, [some (.inr (.inl 0)), some (.inr (.inl 13)), some (.inr (.inl 14)), some (.inl z), some (.inl y), some (.inl (lowL z 16)), some (.inl 9), some (.inl u), some (.inl (sqM : Int)), some (.inl a), some (.inl (fpS 9 a (fpS 9 a a))), some (.inl 9), none], [.inl 9, .inl 9], mW (9, T, (hc, hs, hp), (0, sg), x) (.inl (0, 1, .inl g) :: .inl (2, 9, .inr f) :: J), 0, 0)) rfl ?_
    refine m_icmp rfl ⟨by omega, by omega⟩ ⟨by omega, by omega⟩ (fun (zc1 : 9 ≤ 9) => ?_) (fun (zc1 : ¬ 9 ≤ 9) => absurd zc1 (not_not_intro (by omega)))
    refine m_run 2 (ps' := (127, [some (.inr (.inl 0)), some (.inr (.inl 13)), some (.inr (.inl 14)), some (.inl z), some (.inl y), some (.inl (lowL z 16)), some (.inl 9), some (.inl u), some (.inl (sqM : Int)), some (.inl (a + 1)), some (.inl (fpS 9 a (fpS 9 a a))), some (.inl 9), none], [], mW (9, T, (hc, hs, hp), (0, sg), x) (.inl (0, 1, .inl g) :: .inl (2, 9, .inr f) :: J), 0, 0)) rfl ?_
    refine m_weak [some (.inr (.inl 0)), some (.inr (.inl 13)), some (.inr (.inl 14)), some (.inl z), some (.inl y), some (.inl (lowL z 16)), some (.inl 9), some (.inl u), some (.inl (sqM : Int)), some (.inl (a + 1)), none, none, none] ⟨rfl, ⟨rfl, ⟨rfl, ⟨rfl, ⟨rfl, ⟨rfl, ⟨rfl, ⟨rfl, ⟨rfl, ⟨rfl, trivial⟩⟩⟩⟩⟩⟩⟩⟩⟩⟩ ?_
    exact K f (fillW_r hf)
  · intro b hi1 hi2 ih f u hf hu
    rw [sum_step hi2] at hu
    have hb8 := sqM_bi hi1 hi2
    have hb9 := bI_in (sqS 9 b)
    have hcu := fpS_in (n := 9) (a := a) (b := a) hn ha ha2 ha ha2
    have hcv := fpS_in (n := 9) (a := a) (b := fpS 9 a a) hn ha ha2 hcu.1 hcu.2
    refine m_run 2 (ps' := (157, [some (.inr (.inl 0)), some (.inr (.inl 13)), some (.inr (.inl 14)), some (.inl z), some (.inl y), some (.inl (lowL z 16)), some (.inl 9), some (.inl u), some (.inl (sqM : Int)), some (.inl a), some (.inl (fpS 9 a (fpS 9 a a))), some (.inl b), none], [.inl 9, .inl b], mW (9, T, (hc, hs, hp), (0, sg), x) (.inl (0, 1, .inl g) :: .inl (2, 9, .inr f) :: J), 0, 0)) rfl ?_
    refine m_icmp rfl ⟨by omega, by omega⟩ ⟨by omega, by omega⟩ (fun (zc1 : 9 ≤ b) => absurd zc1 (by omega)) (fun (zc1 : ¬ 9 ≤ b) => ?_)
    refine m_run 7 (ps' := (169, [some (.inr (.inl 0)), some (.inr (.inl 13)), some (.inr (.inl 14)), some (.inl z), some (.inl y), some (.inl (lowL z 16)), some (.inl 9), some (.inl u), some (.inl (sqM : Int)), some (.inl a), some (.inl (fpS 9 a (fpS 9 a a))), some (.inl b), none], [.inl 1, .inl ((Int32.ofInt ((Int32.ofInt (sqM : Int) >>> (Int32.ofInt b &&& 31)).toInt) &&& Int32.ofInt 1).toInt), .inr (.inl 13)], mW (9, T, (hc, hs, hp), (0, sg), x) (.inl (0, 1, .inl g) :: .inl (2, 9, .inr f) :: J), 0, 0)) rfl ?_
    refine m_icmp rfl ⟨by omega, by omega⟩ ⟨by omega, by omega⟩ (fun (zc2 : ¬ (Int32.ofInt ((Int32.ofInt (sqM : Int) >>> (Int32.ofInt b &&& 31)).toInt) &&& Int32.ofInt 1).toInt = 1) => ?_) (fun (zc2 : ¬ ¬ (Int32.ofInt ((Int32.ofInt (sqM : Int) >>> (Int32.ofInt b &&& 31)).toInt) &&& Int32.ofInt 1).toInt = 1) => ?_)
    · refine m_run 2 (ps' := (181, [some (.inr (.inl 0)), some (.inr (.inl 13)), some (.inr (.inl 14)), some (.inl z), some (.inl y), some (.inl (lowL z 16)), some (.inl 9), some (.inl u), some (.inl (sqM : Int)), some (.inl a), some (.inl (fpS 9 a (fpS 9 a a))), some (.inl b), none], [.inl b, .inl (fpS 9 a (fpS 9 a a)), .inr (.inl 13)], mW (9, T, (hc, hs, hp), (0, sg), x) (.inl (0, 1, .inl g) :: .inl (2, 9, .inr f) :: J), 0, 0)) rfl ?_
      refine m_callSF [.inr (.inl 13), .inl (fpS 9 a (fpS 9 a a)), .inl b] [] rfl rfl rfl (a_mul (n := 9) (a := (fpS 9 a (fpS 9 a a))) (b := b) hg hn (by omega) (by omega) (by omega) (by omega)) ?_
      have zt1 := fpS_in (n := 9) (a := (fpS 9 a (fpS 9 a a))) (b := b) hn (by omega) (by omega) (by omega) (by omega)
      have e9 : twS a b = fpS 9 (fpS 9 a (fpS 9 a a)) b := by
        unfold twS
        rw [cube_i ha ha2, show sqS 9 b = false from bI_e0.mp (by have h8 := bI_in (sqS 9 b); omega)]
        rfl
      show m_Sem X 53 (184, [some (.inr (.inl 0)), some (.inr (.inl 13)), some (.inr (.inl 14)), some (.inl z), some (.inl y), some (.inl (lowL z 16)), some (.inl 9), some (.inl u), some (.inl (sqM : Int)), some (.inl a), some (.inl (fpS 9 a (fpS 9 a a))), some (.inl b), none], [.inl (fpS 9 (fpS 9 a (fpS 9 a a)) b)], mW (9, T, (hc, hs, hp), (0, sg), x) (.inl (0, 1, .inl g) :: .inl (2, 9, .inr f) :: J), 0, 0) _
      refine m_run 6 (ps' := (195, [some (.inr (.inl 0)), some (.inr (.inl 13)), some (.inr (.inl 14)), some (.inl z), some (.inl y), some (.inl (lowL z 16)), some (.inl 9), some (.inl u), some (.inl (sqM : Int)), some (.inl a), some (.inl (fpS 9 a (fpS 9 a a))), some (.inl b), some (.inl (fpS 9 (fpS 9 a (fpS 9 a a)) b))], [.inl b, .inl a, .inr (.inl 14), .inl (fpS 9 (fpS 9 a (fpS 9 a a)) b), .inl u], mW (9, T, (hc, hs, hp), (0, sg), x) (.inl (0, 1, .inl g) :: .inl (2, 9, .inr f) :: J), 0, 0)) rfl ?_
      refine m_callSF [.inr (.inl 14), .inl a, .inl b] [.inl (fpS 9 (fpS 9 a (fpS 9 a a)) b), .inl u] rfl rfl rfl (a_ofV (a := a) (b := b) (by omega) (by omega) (fillW_g hf ha ha2 hi1 hi2)) ?_
      have zt2 := (hL0 a b ha ha2 hi1 hi2)
      show m_Sem X 53 (198, [some (.inr (.inl 0)), some (.inr (.inl 13)), some (.inr (.inl 14)), some (.inl z), some (.inl y), some (.inl (lowL z 16)), some (.inl 9), some (.inl u), some (.inl (sqM : Int)), some (.inl a), some (.inl (fpS 9 a (fpS 9 a a))), some (.inl b), some (.inl (fpS 9 (fpS 9 a (fpS 9 a a)) b))], [.inl (tb a b), .inl (fpS 9 (fpS 9 a (fpS 9 a a)) b), .inl u], mW (9, T, (hc, hs, hp), (0, sg), x) (.inl (0, 1, .inl g) :: .inl (2, 9, .inr f) :: J), 0, 0) _
      refine m_icmp rfl ⟨by omega, by omega⟩ ⟨by omega, by omega⟩ (fun (zc3 : (fpS 9 (fpS 9 a (fpS 9 a a)) b) = (tb a b)) => ?_) (fun (zc3 : ¬ (fpS 9 (fpS 9 a (fpS 9 a a)) b) = (tb a b)) => ?_)
      · refine m_run 7 (ps' := (216, [some (.inr (.inl 0)), some (.inr (.inl 13)), some (.inr (.inl 14)), some (.inl z), some (.inl y), some (.inl (lowL z 16)), some (.inl 9), some (.inl (u + 0)), some (.inl (sqM : Int)), some (.inl a), some (.inl (fpS 9 a (fpS 9 a a))), some (.inl b), some (.inl (fpS 9 (fpS 9 a (fpS 9 a a)) b))], [.inl (fpS 9 (fpS 9 a (fpS 9 a a)) b), .inl b, .inl a, .inr (.inl 14)], mW (9, T, (hc, hs, hp), (0, sg), x) (.inl (0, 1, .inl g) :: .inl (2, 9, .inr f) :: J), 0, 0)) rfl ?_
        refine m_callSU [.inr (.inl 14), .inl a, .inl b, .inl (fpS 9 (fpS 9 a (fpS 9 a a)) b)] [] rfl rfl rfl (a_put (a := a) (b := b) (r := (fpS 9 (fpS 9 a (fpS 9 a a)) b)) (by omega) (by omega)) ?_
        show m_Sem X 53 (219, [some (.inr (.inl 0)), some (.inr (.inl 13)), some (.inr (.inl 14)), some (.inl z), some (.inl y), some (.inl (lowL z 16)), some (.inl 9), some (.inl (u + 0)), some (.inl (sqM : Int)), some (.inl a), some (.inl (fpS 9 a (fpS 9 a a))), some (.inl b), some (.inl (fpS 9 (fpS 9 a (fpS 9 a a)) b))], [], mW (9, T, (hc, hs, hp), (0, sg), x) (.inl (0, 1, .inl g) :: .inl (2, 9, .inr (putF f a b (fpS 9 (fpS 9 a (fpS 9 a a)) b))) :: J), 0, 0) _
        refine m_run 2 (ps' := (153, [some (.inr (.inl 0)), some (.inr (.inl 13)), some (.inr (.inl 14)), some (.inl z), some (.inl y), some (.inl (lowL z 16)), some (.inl 9), some (.inl (u + 0)), some (.inl (sqM : Int)), some (.inl a), some (.inl (fpS 9 a (fpS 9 a a))), some (.inl (b + 1)), some (.inl (fpS 9 (fpS 9 a (fpS 9 a a)) b))], [], mW (9, T, (hc, hs, hp), (0, sg), x) (.inl (0, 1, .inl g) :: .inl (2, 9, .inr (putF f a b (fpS 9 (fpS 9 a (fpS 9 a a)) b))) :: J), 0, 0)) rfl ?_
        refine m_weak [some (.inr (.inl 0)), some (.inr (.inl 13)), some (.inr (.inl 14)), some (.inl z), some (.inl y), some (.inl (lowL z 16)), some (.inl 9), some (.inl (u + 0)), some (.inl (sqM : Int)), some (.inl a), some (.inl (fpS 9 a (fpS 9 a a))), some (.inl (b + 1)), none] ⟨rfl, ⟨rfl, ⟨rfl, ⟨rfl, ⟨rfl, ⟨rfl, ⟨rfl, ⟨rfl, ⟨rfl, ⟨rfl, ⟨rfl, ⟨rfl, trivial⟩⟩⟩⟩⟩⟩⟩⟩⟩⟩⟩⟩ ?_
        refine ih _ _ (fillW_s hf ha ha2 hi1 hi2 (by omega) (by omega) e9) ?_
        rw [← hu, e9]
        simp only [zc3, if_true, if_false]
        omega
      · refine m_run 8 (ps' := (216, [some (.inr (.inl 0)), some (.inr (.inl 13)), some (.inr (.inl 14)), some (.inl z), some (.inl y), some (.inl (lowL z 16)), some (.inl 9), some (.inl (u + 1)), some (.inl (sqM : Int)), some (.inl a), some (.inl (fpS 9 a (fpS 9 a a))), some (.inl b), some (.inl (fpS 9 (fpS 9 a (fpS 9 a a)) b))], [.inl (fpS 9 (fpS 9 a (fpS 9 a a)) b), .inl b, .inl a, .inr (.inl 14)], mW (9, T, (hc, hs, hp), (0, sg), x) (.inl (0, 1, .inl g) :: .inl (2, 9, .inr f) :: J), 0, 0)) rfl ?_
        refine m_callSU [.inr (.inl 14), .inl a, .inl b, .inl (fpS 9 (fpS 9 a (fpS 9 a a)) b)] [] rfl rfl rfl (a_put (a := a) (b := b) (r := (fpS 9 (fpS 9 a (fpS 9 a a)) b)) (by omega) (by omega)) ?_
        show m_Sem X 53 (219, [some (.inr (.inl 0)), some (.inr (.inl 13)), some (.inr (.inl 14)), some (.inl z), some (.inl y), some (.inl (lowL z 16)), some (.inl 9), some (.inl (u + 1)), some (.inl (sqM : Int)), some (.inl a), some (.inl (fpS 9 a (fpS 9 a a))), some (.inl b), some (.inl (fpS 9 (fpS 9 a (fpS 9 a a)) b))], [], mW (9, T, (hc, hs, hp), (0, sg), x) (.inl (0, 1, .inl g) :: .inl (2, 9, .inr (putF f a b (fpS 9 (fpS 9 a (fpS 9 a a)) b))) :: J), 0, 0) _
        refine m_run 2 (ps' := (153, [some (.inr (.inl 0)), some (.inr (.inl 13)), some (.inr (.inl 14)), some (.inl z), some (.inl y), some (.inl (lowL z 16)), some (.inl 9), some (.inl (u + 1)), some (.inl (sqM : Int)), some (.inl a), some (.inl (fpS 9 a (fpS 9 a a))), some (.inl (b + 1)), some (.inl (fpS 9 (fpS 9 a (fpS 9 a a)) b))], [], mW (9, T, (hc, hs, hp), (0, sg), x) (.inl (0, 1, .inl g) :: .inl (2, 9, .inr (putF f a b (fpS 9 (fpS 9 a (fpS 9 a a)) b))) :: J), 0, 0)) rfl ?_
        refine m_weak [some (.inr (.inl 0)), some (.inr (.inl 13)), some (.inr (.inl 14)), some (.inl z), some (.inl y), some (.inl (lowL z 16)), some (.inl 9), some (.inl (u + 1)), some (.inl (sqM : Int)), some (.inl a), some (.inl (fpS 9 a (fpS 9 a a))), some (.inl (b + 1)), none] ⟨rfl, ⟨rfl, ⟨rfl, ⟨rfl, ⟨rfl, ⟨rfl, ⟨rfl, ⟨rfl, ⟨rfl, ⟨rfl, ⟨rfl, ⟨rfl, trivial⟩⟩⟩⟩⟩⟩⟩⟩⟩⟩⟩⟩ ?_
        refine ih _ _ (fillW_s hf ha ha2 hi1 hi2 (by omega) (by omega) e9) ?_
        rw [← hu, e9]
        simp only [zc3, if_true, if_false]
        omega
    · replace zc2 : (Int32.ofInt ((Int32.ofInt (sqM : Int) >>> (Int32.ofInt b &&& 31)).toInt) &&& Int32.ofInt 1).toInt = 1 := Decidable.not_not.mp zc2
      refine m_run 3 (ps' := (181, [some (.inr (.inl 0)), some (.inr (.inl 13)), some (.inr (.inl 14)), some (.inl z), some (.inl y), some (.inl (lowL z 16)), some (.inl 9), some (.inl u), some (.inl (sqM : Int)), some (.inl a), some (.inl (fpS 9 a (fpS 9 a a))), some (.inl b), none], [.inl b, .inl a, .inr (.inl 13)], mW (9, T, (hc, hs, hp), (0, sg), x) (.inl (0, 1, .inl g) :: .inl (2, 9, .inr f) :: J), 0, 0)) rfl ?_
      refine m_callSF [.inr (.inl 13), .inl a, .inl b] [] rfl rfl rfl (a_mul (n := 9) (a := a) (b := b) hg hn (by omega) (by omega) (by omega) (by omega)) ?_
      have zt1 := fpS_in (n := 9) (a := a) (b := b) hn (by omega) (by omega) (by omega) (by omega)
      have e9 : twS a b = fpS 9 a b := by
        unfold twS
        rw [show sqS 9 b = true from bI_n0.mp (by omega)]
        rfl
      show m_Sem X 53 (184, [some (.inr (.inl 0)), some (.inr (.inl 13)), some (.inr (.inl 14)), some (.inl z), some (.inl y), some (.inl (lowL z 16)), some (.inl 9), some (.inl u), some (.inl (sqM : Int)), some (.inl a), some (.inl (fpS 9 a (fpS 9 a a))), some (.inl b), none], [.inl (fpS 9 a b)], mW (9, T, (hc, hs, hp), (0, sg), x) (.inl (0, 1, .inl g) :: .inl (2, 9, .inr f) :: J), 0, 0) _
      refine m_run 6 (ps' := (195, [some (.inr (.inl 0)), some (.inr (.inl 13)), some (.inr (.inl 14)), some (.inl z), some (.inl y), some (.inl (lowL z 16)), some (.inl 9), some (.inl u), some (.inl (sqM : Int)), some (.inl a), some (.inl (fpS 9 a (fpS 9 a a))), some (.inl b), some (.inl (fpS 9 a b))], [.inl b, .inl a, .inr (.inl 14), .inl (fpS 9 a b), .inl u], mW (9, T, (hc, hs, hp), (0, sg), x) (.inl (0, 1, .inl g) :: .inl (2, 9, .inr f) :: J), 0, 0)) rfl ?_
      refine m_callSF [.inr (.inl 14), .inl a, .inl b] [.inl (fpS 9 a b), .inl u] rfl rfl rfl (a_ofV (a := a) (b := b) (by omega) (by omega) (fillW_g hf ha ha2 hi1 hi2)) ?_
      have zt2 := (hL0 a b ha ha2 hi1 hi2)
      show m_Sem X 53 (198, [some (.inr (.inl 0)), some (.inr (.inl 13)), some (.inr (.inl 14)), some (.inl z), some (.inl y), some (.inl (lowL z 16)), some (.inl 9), some (.inl u), some (.inl (sqM : Int)), some (.inl a), some (.inl (fpS 9 a (fpS 9 a a))), some (.inl b), some (.inl (fpS 9 a b))], [.inl (tb a b), .inl (fpS 9 a b), .inl u], mW (9, T, (hc, hs, hp), (0, sg), x) (.inl (0, 1, .inl g) :: .inl (2, 9, .inr f) :: J), 0, 0) _
      refine m_icmp rfl ⟨by omega, by omega⟩ ⟨by omega, by omega⟩ (fun (zc3 : (fpS 9 a b) = (tb a b)) => ?_) (fun (zc3 : ¬ (fpS 9 a b) = (tb a b)) => ?_)
      · refine m_run 7 (ps' := (216, [some (.inr (.inl 0)), some (.inr (.inl 13)), some (.inr (.inl 14)), some (.inl z), some (.inl y), some (.inl (lowL z 16)), some (.inl 9), some (.inl (u + 0)), some (.inl (sqM : Int)), some (.inl a), some (.inl (fpS 9 a (fpS 9 a a))), some (.inl b), some (.inl (fpS 9 a b))], [.inl (fpS 9 a b), .inl b, .inl a, .inr (.inl 14)], mW (9, T, (hc, hs, hp), (0, sg), x) (.inl (0, 1, .inl g) :: .inl (2, 9, .inr f) :: J), 0, 0)) rfl ?_
        refine m_callSU [.inr (.inl 14), .inl a, .inl b, .inl (fpS 9 a b)] [] rfl rfl rfl (a_put (a := a) (b := b) (r := (fpS 9 a b)) (by omega) (by omega)) ?_
        show m_Sem X 53 (219, [some (.inr (.inl 0)), some (.inr (.inl 13)), some (.inr (.inl 14)), some (.inl z), some (.inl y), some (.inl (lowL z 16)), some (.inl 9), some (.inl (u + 0)), some (.inl (sqM : Int)), some (.inl a), some (.inl (fpS 9 a (fpS 9 a a))), some (.inl b), some (.inl (fpS 9 a b))], [], mW (9, T, (hc, hs, hp), (0, sg), x) (.inl (0, 1, .inl g) :: .inl (2, 9, .inr (putF f a b (fpS 9 a b))) :: J), 0, 0) _
        refine m_run 2 (ps' := (153, [some (.inr (.inl 0)), some (.inr (.inl 13)), some (.inr (.inl 14)), some (.inl z), some (.inl y), some (.inl (lowL z 16)), some (.inl 9), some (.inl (u + 0)), some (.inl (sqM : Int)), some (.inl a), some (.inl (fpS 9 a (fpS 9 a a))), some (.inl (b + 1)), some (.inl (fpS 9 a b))], [], mW (9, T, (hc, hs, hp), (0, sg), x) (.inl (0, 1, .inl g) :: .inl (2, 9, .inr (putF f a b (fpS 9 a b))) :: J), 0, 0)) rfl ?_
        refine m_weak [some (.inr (.inl 0)), some (.inr (.inl 13)), some (.inr (.inl 14)), some (.inl z), some (.inl y), some (.inl (lowL z 16)), some (.inl 9), some (.inl (u + 0)), some (.inl (sqM : Int)), some (.inl a), some (.inl (fpS 9 a (fpS 9 a a))), some (.inl (b + 1)), none] ⟨rfl, ⟨rfl, ⟨rfl, ⟨rfl, ⟨rfl, ⟨rfl, ⟨rfl, ⟨rfl, ⟨rfl, ⟨rfl, ⟨rfl, ⟨rfl, trivial⟩⟩⟩⟩⟩⟩⟩⟩⟩⟩⟩⟩ ?_
        refine ih _ _ (fillW_s hf ha ha2 hi1 hi2 (by omega) (by omega) e9) ?_
        rw [← hu, e9]
        simp only [zc3, if_true, if_false]
        omega
      · refine m_run 8 (ps' := (216, [some (.inr (.inl 0)), some (.inr (.inl 13)), some (.inr (.inl 14)), some (.inl z), some (.inl y), some (.inl (lowL z 16)), some (.inl 9), some (.inl (u + 1)), some (.inl (sqM : Int)), some (.inl a), some (.inl (fpS 9 a (fpS 9 a a))), some (.inl b), some (.inl (fpS 9 a b))], [.inl (fpS 9 a b), .inl b, .inl a, .inr (.inl 14)], mW (9, T, (hc, hs, hp), (0, sg), x) (.inl (0, 1, .inl g) :: .inl (2, 9, .inr f) :: J), 0, 0)) rfl ?_
        refine m_callSU [.inr (.inl 14), .inl a, .inl b, .inl (fpS 9 a b)] [] rfl rfl rfl (a_put (a := a) (b := b) (r := (fpS 9 a b)) (by omega) (by omega)) ?_
        show m_Sem X 53 (219, [some (.inr (.inl 0)), some (.inr (.inl 13)), some (.inr (.inl 14)), some (.inl z), some (.inl y), some (.inl (lowL z 16)), some (.inl 9), some (.inl (u + 1)), some (.inl (sqM : Int)), some (.inl a), some (.inl (fpS 9 a (fpS 9 a a))), some (.inl b), some (.inl (fpS 9 a b))], [], mW (9, T, (hc, hs, hp), (0, sg), x) (.inl (0, 1, .inl g) :: .inl (2, 9, .inr (putF f a b (fpS 9 a b))) :: J), 0, 0) _
        refine m_run 2 (ps' := (153, [some (.inr (.inl 0)), some (.inr (.inl 13)), some (.inr (.inl 14)), some (.inl z), some (.inl y), some (.inl (lowL z 16)), some (.inl 9), some (.inl (u + 1)), some (.inl (sqM : Int)), some (.inl a), some (.inl (fpS 9 a (fpS 9 a a))), some (.inl (b + 1)), some (.inl (fpS 9 a b))], [], mW (9, T, (hc, hs, hp), (0, sg), x) (.inl (0, 1, .inl g) :: .inl (2, 9, .inr (putF f a b (fpS 9 a b))) :: J), 0, 0)) rfl ?_
        refine m_weak [some (.inr (.inl 0)), some (.inr (.inl 13)), some (.inr (.inl 14)), some (.inl z), some (.inl y), some (.inl (lowL z 16)), some (.inl 9), some (.inl (u + 1)), some (.inl (sqM : Int)), some (.inl a), some (.inl (fpS 9 a (fpS 9 a a))), some (.inl (b + 1)), none] ⟨rfl, ⟨rfl, ⟨rfl, ⟨rfl, ⟨rfl, ⟨rfl, ⟨rfl, ⟨rfl, ⟨rfl, ⟨rfl, ⟨rfl, ⟨rfl, trivial⟩⟩⟩⟩⟩⟩⟩⟩⟩⟩⟩⟩ ?_
        refine ih _ _ (fillW_s hf ha ha2 hi1 hi2 (by omega) (by omega) e9) ?_
        rw [← hu, e9]
        simp only [zc3, if_true, if_false]
        omega
set_option maxHeartbeats 4000000 in
set_option maxRecDepth 100000 in
theorem a_twA {X : Nat × Nat × (Nat → Int32)} {T : Int → Int} {hc : Int} {hs hp : Int → Int} {sg : Int → Int} {x : XS} {g : Int → Int} {J : mPW} {tb : Int → Int → Int} {y z : Int} {v : Int} {Q : Option mPV → mPW → Prop} (hg : g 0 = 9) (hn : okN 9) (hL0 : ∀ a b, 0 ≤ a → a < 9 → 0 ≤ b → b < 9 → 0 ≤ tb a b ∧ tb a b < 9) (K : ∀ f : Nat → Int64, fillW twS tb f 9 0 → m_Sem X 53 (231, [some (.inr (.inl 0)), some (.inr (.inl 13)), some (.inr (.inl 14)), some (.inl z), some (.inl y), some (.inl (lowL z 16)), some (.inl 9), some (.inl v), some (.inl (sqM : Int)), some (.inl 9), none, none, none], [], mW (9, T, (hc, hs, hp), (0, sg), x) (.inl (0, 1, .inl g) :: .inl (2, 9, .inr f) :: J), 0, 0) Q) : ∀ a : Int, 0 ≤ a → a ≤ 9 → ∀ (f : Nat → Int64) (u : Int) (hf : fillW twS tb f a 0) (hu : u + sumF (fun a => sumF (fun b => if twS a b = tb a b then 0 else 1) 9 0) (9 - a).toNat a = v), m_Sem X 53 (127, [some (.inr (.inl 0)), some (.inr (.inl 13)), some (.inr (.inl 14)), some (.inl z), some (.inl y), some (.inl (lowL z 16)), some (.inl 9), some (.inl u), some (.inl (sqM : Int)), some (.inl a), none, none, none], [], mW (9, T, (hc, hs, hp), (0, sg), x) (.inl (0, 1, .inl g) :: .inl (2, 9, .inr f) :: J), 0, 0) (Q) := by
  refine m_down 0 9 ?_ ?_
  · intro f u hf hu
    rw [sum_end] at hu
    have hu : u = v := by omega
    subst hu
    show m_Sem X 53 (127, [some (.inr (.inl 0)), some (.inr (.inl 13)), some (.inr (.inl 14)), some (.inl z), some (.inl y), some (.inl (lowL z 16)), some (.inl 9), some (.inl u), some (.inl (sqM : Int)), some (.inl 9), none, none, none], [], mW (9, T, (hc, hs, hp), (0, sg), x) (.inl (0, 1, .inl g) :: .inl (2, 9, .inr f) :: J), 0, 0) _
    refine m_run 2 (ps' := (131, [some (.inr (.inl 0)), some (.inr (.inl 13)), some (.inr (.inl 14)), some (.inl z), some (.inl y), some (.inl (lowL z 16)), some (.inl 9), some (.inl u), some (.inl (sqM : Int)), some (.inl 9), none, none, none], [.inl 9, .inl 9], mW (9, T, (hc, hs, hp), (0, sg), x) (.inl (0, 1, .inl g) :: .inl (2, 9, .inr f) :: J), 0, 0)) rfl ?_
    refine m_icmp rfl ⟨by omega, by omega⟩ ⟨by omega, by omega⟩ (fun (zc1 : 9 ≤ 9) => ?_) (fun (zc1 : ¬ 9 ≤ 9) => absurd zc1 (not_not_intro (by omega)))
    refine m_weak [some (.inr (.inl 0)), some (.inr (.inl 13)), some (.inr (.inl 14)), some (.inl z), some (.inl y), some (.inl (lowL z 16)), some (.inl 9), some (.inl u), some (.inl (sqM : Int)), some (.inl 9), none, none, none] ⟨rfl, ⟨rfl, ⟨rfl, ⟨rfl, ⟨rfl, ⟨rfl, ⟨rfl, ⟨rfl, ⟨rfl, ⟨rfl, trivial⟩⟩⟩⟩⟩⟩⟩⟩⟩⟩ ?_
    exact K f hf
  · intro a hi1 hi2 ih f u hf hu
    rw [sum_step hi2] at hu
    refine m_run 2 (ps' := (131, [some (.inr (.inl 0)), some (.inr (.inl 13)), some (.inr (.inl 14)), some (.inl z), some (.inl y), some (.inl (lowL z 16)), some (.inl 9), some (.inl u), some (.inl (sqM : Int)), some (.inl a), none, none, none], [.inl 9, .inl a], mW (9, T, (hc, hs, hp), (0, sg), x) (.inl (0, 1, .inl g) :: .inl (2, 9, .inr f) :: J), 0, 0)) rfl ?_
    refine m_icmp rfl ⟨by omega, by omega⟩ ⟨by omega, by omega⟩ (fun (zc1 : 9 ≤ a) => absurd zc1 (by omega)) (fun (zc1 : ¬ 9 ≤ a) => ?_)
    refine m_run 5 (ps' := (142, [some (.inr (.inl 0)), some (.inr (.inl 13)), some (.inr (.inl 14)), some (.inl z), some (.inl y), some (.inl (lowL z 16)), some (.inl 9), some (.inl u), some (.inl (sqM : Int)), some (.inl a), none, none, none], [.inl a, .inl a, .inr (.inl 13), .inl a, .inr (.inl 13)], mW (9, T, (hc, hs, hp), (0, sg), x) (.inl (0, 1, .inl g) :: .inl (2, 9, .inr f) :: J), 0, 0)) rfl ?_
    refine m_callSF [.inr (.inl 13), .inl a, .inl a] [.inl a, .inr (.inl 13)] rfl rfl rfl (a_mul (a := a) (b := a) hg hn (by omega) (by omega) (by omega) (by omega)) ?_
    have zt1 := fpS_in (n := 9) (a := a) (b := a) hn (by omega) (by omega) (by omega) (by omega)
    show m_Sem X 53 (145, [some (.inr (.inl 0)), some (.inr (.inl 13)), some (.inr (.inl 14)), some (.inl z), some (.inl y), some (.inl (lowL z 16)), some (.inl 9), some (.inl u), some (.inl (sqM : Int)), some (.inl a), none, none, none], [.inl (fpS 9 a a), .inl a, .inr (.inl 13)], mW (9, T, (hc, hs, hp), (0, sg), x) (.inl (0, 1, .inl g) :: .inl (2, 9, .inr f) :: J), 0, 0) _
    refine m_callSF [.inr (.inl 13), .inl a, .inl (fpS 9 a a)] [] rfl rfl rfl (a_mul (a := a) (b := (fpS 9 a a)) hg hn (by omega) (by omega) (by omega) (by omega)) ?_
    have zt2 := fpS_in (n := 9) (a := a) (b := (fpS 9 a a)) hn (by omega) (by omega) (by omega) (by omega)
    show m_Sem X 53 (148, [some (.inr (.inl 0)), some (.inr (.inl 13)), some (.inr (.inl 14)), some (.inl z), some (.inl y), some (.inl (lowL z 16)), some (.inl 9), some (.inl u), some (.inl (sqM : Int)), some (.inl a), none, none, none], [.inl (fpS 9 a (fpS 9 a a))], mW (9, T, (hc, hs, hp), (0, sg), x) (.inl (0, 1, .inl g) :: .inl (2, 9, .inr f) :: J), 0, 0) _
    refine m_run 3 (ps' := (153, [some (.inr (.inl 0)), some (.inr (.inl 13)), some (.inr (.inl 14)), some (.inl z), some (.inl y), some (.inl (lowL z 16)), some (.inl 9), some (.inl u), some (.inl (sqM : Int)), some (.inl a), some (.inl (fpS 9 a (fpS 9 a a))), some (.inl 0), none], [], mW (9, T, (hc, hs, hp), (0, sg), x) (.inl (0, 1, .inl g) :: .inl (2, 9, .inr f) :: J), 0, 0)) rfl ?_
    refine m_weak [some (.inr (.inl 0)), some (.inr (.inl 13)), some (.inr (.inl 14)), some (.inl z), some (.inl y), some (.inl (lowL z 16)), some (.inl 9), some (.inl u), some (.inl (sqM : Int)), some (.inl a), some (.inl (fpS 9 a (fpS 9 a a))), some (.inl 0), none] ⟨rfl, ⟨rfl, ⟨rfl, ⟨rfl, ⟨rfl, ⟨rfl, ⟨rfl, ⟨rfl, ⟨rfl, ⟨rfl, ⟨rfl, ⟨rfl, trivial⟩⟩⟩⟩⟩⟩⟩⟩⟩⟩⟩⟩ ?_
    exact a_twB (v := u + sumF (fun b => if twS a b = tb a b then 0 else 1) 9 0) hg hn hL0 hi1 hi2 (fun f2 hf2 => ih f2 _ hf2 (by rw [← hu]; omega)) 0 (by omega) (by omega) f u hf rfl
set_option maxHeartbeats 4000000 in
set_option maxRecDepth 100000 in
theorem a_sqL {X : Nat × Nat × (Nat → Int32)} {T : Int → Int} {hc : Int} {hs hp : Int → Int} {sg : Int → Int} {x : XS} {g : Int → Int} {f : Nat → Int64} {J : mPW} {y z : Int} {Q : Option mPV → mPW → Prop} (hg : g 0 = 9) (hn : okN 9) (K : m_Sem X 53 (127, [some (.inr (.inl 0)), some (.inr (.inl 13)), some (.inr (.inl 14)), some (.inl z), some (.inl y), some (.inl (lowL z 16)), some (.inl 9), some (.inl 0), some (.inl (sqM : Int)), some (.inl 0), none, none, none], [], mW (9, T, (hc, hs, hp), (0, sg), x) (.inl (0, 1, .inl g) :: .inl (2, 9, .inr f) :: J), 0, 0) Q) : ∀ a : Int, 0 ≤ a → a ≤ 9 → ∀ (s : Nat) (hs9 : s < 512) (hu : setK (fun a => fpS 9 a a) (9 - a).toNat a s = sqM), m_Sem X 53 (96, [some (.inr (.inl 0)), some (.inr (.inl 13)), some (.inr (.inl 14)), some (.inl z), some (.inl y), some (.inl (lowL z 16)), some (.inl 9), some (.inl 0), some (.inl (s : Int)), some (.inl a), none, none, none], [], mW (9, T, (hc, hs, hp), (0, sg), x) (.inl (0, 1, .inl g) :: .inl (2, 9, .inr f) :: J), 0, 0) (Q) := by
  refine m_down 0 9 ?_ ?_
  · intro s hs9 hu
    rw [set_end] at hu
    show m_Sem X 53 (96, [some (.inr (.inl 0)), some (.inr (.inl 13)), some (.inr (.inl 14)), some (.inl z), some (.inl y), some (.inl (lowL z 16)), some (.inl 9), some (.inl 0), some (.inl (s : Int)), some (.inl 9), none, none, none], [], mW (9, T, (hc, hs, hp), (0, sg), x) (.inl (0, 1, .inl g) :: .inl (2, 9, .inr f) :: J), 0, 0) _
    refine m_run 2 (ps' := (100, [some (.inr (.inl 0)), some (.inr (.inl 13)), some (.inr (.inl 14)), some (.inl z), some (.inl y), some (.inl (lowL z 16)), some (.inl 9), some (.inl 0), some (.inl (s : Int)), some (.inl 9), none, none, none], [.inl 9, .inl 9], mW (9, T, (hc, hs, hp), (0, sg), x) (.inl (0, 1, .inl g) :: .inl (2, 9, .inr f) :: J), 0, 0)) rfl ?_
    refine m_icmp rfl ⟨by omega, by omega⟩ ⟨by omega, by omega⟩ (fun (zc1 : 9 ≤ 9) => ?_) (fun (zc1 : ¬ 9 ≤ 9) => absurd zc1 (not_not_intro (by omega)))
    refine m_run 2 (ps' := (127, [some (.inr (.inl 0)), some (.inr (.inl 13)), some (.inr (.inl 14)), some (.inl z), some (.inl y), some (.inl (lowL z 16)), some (.inl 9), some (.inl 0), some (.inl (s : Int)), some (.inl 0), none, none, none], [], mW (9, T, (hc, hs, hp), (0, sg), x) (.inl (0, 1, .inl g) :: .inl (2, 9, .inr f) :: J), 0, 0)) rfl ?_
    refine m_weak [some (.inr (.inl 0)), some (.inr (.inl 13)), some (.inr (.inl 14)), some (.inl z), some (.inl y), some (.inl (lowL z 16)), some (.inl 9), some (.inl 0), some (.inl (s : Int)), some (.inl 0), none, none, none] ⟨rfl, ⟨rfl, ⟨rfl, ⟨rfl, ⟨rfl, ⟨rfl, ⟨rfl, ⟨rfl, ⟨rfl, ⟨rfl, trivial⟩⟩⟩⟩⟩⟩⟩⟩⟩⟩ ?_
    rw [hu]
    exact K
  · intro a hi1 hi2 ih s hs9 hu
    rw [set_step hi2] at hu
    have hw := pow9 (d := fpS 9 a a) (fpS_in (n := 9) hn hi1 hi2 hi1 hi2).1 (fpS_in (n := 9) hn hi1 hi2 hi1 hi2).2
    refine m_run 2 (ps' := (100, [some (.inr (.inl 0)), some (.inr (.inl 13)), some (.inr (.inl 14)), some (.inl z), some (.inl y), some (.inl (lowL z 16)), some (.inl 9), some (.inl 0), some (.inl (s : Int)), some (.inl a), none, none, none], [.inl 9, .inl a], mW (9, T, (hc, hs, hp), (0, sg), x) (.inl (0, 1, .inl g) :: .inl (2, 9, .inr f) :: J), 0, 0)) rfl ?_
    refine m_icmp rfl ⟨by omega, by omega⟩ ⟨by omega, by omega⟩ (fun (zc1 : 9 ≤ a) => absurd zc1 (by omega)) (fun (zc1 : ¬ 9 ≤ a) => ?_)
    refine m_run 5 (ps' := (111, [some (.inr (.inl 0)), some (.inr (.inl 13)), some (.inr (.inl 14)), some (.inl z), some (.inl y), some (.inl (lowL z 16)), some (.inl 9), some (.inl 0), some (.inl (s : Int)), some (.inl a), none, none, none], [.inl a, .inl a, .inr (.inl 13), .inl 1, .inl (s : Int)], mW (9, T, (hc, hs, hp), (0, sg), x) (.inl (0, 1, .inl g) :: .inl (2, 9, .inr f) :: J), 0, 0)) rfl ?_
    refine m_callSF [.inr (.inl 13), .inl a, .inl a] [.inl 1, .inl (s : Int)] rfl rfl rfl (a_mul (a := a) (b := a) hg hn (by omega) (by omega) (by omega) (by omega)) ?_
    have zt1 := fpS_in (n := 9) (a := a) (b := a) hn (by omega) (by omega) (by omega) (by omega)
    show m_Sem X 53 (114, [some (.inr (.inl 0)), some (.inr (.inl 13)), some (.inr (.inl 14)), some (.inl z), some (.inl y), some (.inl (lowL z 16)), some (.inl 9), some (.inl 0), some (.inl (s : Int)), some (.inl a), none, none, none], [.inl (fpS 9 a a), .inl 1, .inl (s : Int)], mW (9, T, (hc, hs, hp), (0, sg), x) (.inl (0, 1, .inl g) :: .inl (2, 9, .inr f) :: J), 0, 0) _
    refine m_run 5 (ps' := (96, [some (.inr (.inl 0)), some (.inr (.inl 13)), some (.inr (.inl 14)), some (.inl z), some (.inl y), some (.inl (lowL z 16)), some (.inl 9), some (.inl 0), some (.inl ((Int32.ofInt (s : Int) ||| Int32.ofInt ((Int32.ofInt 1 <<< (Int32.ofInt (fpS 9 a a) &&& 31)).toInt)).toInt)), some (.inl (a + 1)), none, none, none], [], mW (9, T, (hc, hs, hp), (0, sg), x) (.inl (0, 1, .inl g) :: .inl (2, 9, .inr f) :: J), 0, 0)) rfl ?_
    refine m_weak [some (.inr (.inl 0)), some (.inr (.inl 13)), some (.inr (.inl 14)), some (.inl z), some (.inl y), some (.inl (lowL z 16)), some (.inl 9), some (.inl 0), some (.inl ((Int32.ofInt (s : Int) ||| Int32.ofInt ((Int32.ofInt 1 <<< (Int32.ofInt (fpS 9 a a) &&& 31)).toInt)).toInt)), some (.inl (a + 1)), none, none, none] ⟨rfl, ⟨rfl, ⟨rfl, ⟨rfl, ⟨rfl, ⟨rfl, ⟨rfl, ⟨rfl, ⟨rfl, ⟨rfl, trivial⟩⟩⟩⟩⟩⟩⟩⟩⟩⟩ ?_
    rw [m_shl1 (by omega) (by omega), m_or (by omega) (by omega)]
    exact ih _ (or9 hs9 hw) hu
theorem twC_in (tb : Int → Int → Int) : 0 ≤ twC tb ∧ twC tb ≤ 1000 := by
  have h := sum_bound (f := twR tb) (B := 9) 9 0 (fun j _ _ => by
    have h := sum_bound (f := fun a => if tb a j = twS a j then 0 else 1) (B := 1) 9 0 (fun j _ _ => by (try dsimp only); split <;> decide)
    unfold twR
    exact ⟨h.1, by omega⟩)
  unfold twC
  omega
set_option maxHeartbeats 4000000 in
set_option maxRecDepth 100000 in
theorem a_acT {X : Nat × Nat × (Nat → Int32)} {T : Int → Int} {hc : Int} {hs hp : Int → Int} {sg : Int → Int} {x : XS} {g : Int → Int} {f : Nat → Int64} {J : mPW} {tb : Int → Int → Int} {z : Int} (hg : g 0 = 9) (hL : repL 9 f tb) (hR : repC 9 T tb) (hT : okT T) (h1 : 0 ≤ hc) (h2 : hc ≤ 4) (hw : 6 ≤ lowL z 16) (hw2 : lowL z 16 < 9) : m_Run X 53 [.inr (.inl 0), .inr (.inl 13), .inr (.inl 14), .inl z] (mW (9, T, (hc, hs, hp), (0, sg), x) (.inl (0, 1, .inl g) :: .inl (2, 9, .inr f) :: J)) (actQ J.length) := by
  have hn : okN 9 := hL.1
  have htw := twC_in tb
  show m_Sem X 53 (0, [some (.inr (.inl 0)), some (.inr (.inl 13)), some (.inr (.inl 14)), some (.inl z), none, none, none, none, none, none, none, none, none], [], mW (9, T, (hc, hs, hp), (0, sg), x) (.inl (0, 1, .inl g) :: .inl (2, 9, .inr f) :: J), 0, 0) _
  refine m_run 4 (ps' := (5, [some (.inr (.inl 0)), some (.inr (.inl 13)), some (.inr (.inl 14)), some (.inl z), none, none, none, none, none, none, none, none, none], [.inl 10000000, .inl ((Int32.ofInt z >>> (Int32.ofInt 4 &&& 31)).toInt)], mW (9, T, (hc, hs, hp), (0, sg), x) (.inl (0, 1, .inl g) :: .inl (2, 9, .inr f) :: J), 0, 0)) rfl ?_
  refine m_callSF [.inl ((Int32.ofInt z >>> (Int32.ofInt 4 &&& 31)).toInt), .inl 10000000] [] rfl rfl rfl (a_low (v := (Int32.ofInt z >>> (Int32.ofInt 4 &&& 31)).toInt) (m := 10000000) (by omega) (by omega)) ?_
  have zt1 := lowL_in (v := (Int32.ofInt z >>> (Int32.ofInt 4 &&& 31)).toInt) (m := 10000000) (by omega)
  generalize lowL ((Int32.ofInt z >>> (Int32.ofInt 4 &&& 31)).toInt) 10000000 = y at zt1 ⊢
  show m_Sem X 53 (8, [some (.inr (.inl 0)), some (.inr (.inl 13)), some (.inr (.inl 14)), some (.inl z), none, none, none, none, none, none, none, none, none], [.inl y], mW (9, T, (hc, hs, hp), (0, sg), x) (.inl (0, 1, .inl g) :: .inl (2, 9, .inr f) :: J), 0, 0) _
  refine m_run 3 (ps' := (13, [some (.inr (.inl 0)), some (.inr (.inl 13)), some (.inr (.inl 14)), some (.inl z), some (.inl y), none, none, none, none, none, none, none, none], [.inl 16, .inl z], mW (9, T, (hc, hs, hp), (0, sg), x) (.inl (0, 1, .inl g) :: .inl (2, 9, .inr f) :: J), 0, 0)) rfl ?_
  refine m_callSF [.inl z, .inl 16] [] rfl rfl rfl (a_low (v := z) (m := 16) (by omega) (by omega)) ?_
  have zt2 := lowL_in (v := z) (m := 16) (by omega)
  show m_Sem X 53 (16, [some (.inr (.inl 0)), some (.inr (.inl 13)), some (.inr (.inl 14)), some (.inl z), some (.inl y), none, none, none, none, none, none, none, none], [.inl (lowL z 16)], mW (9, T, (hc, hs, hp), (0, sg), x) (.inl (0, 1, .inl g) :: .inl (2, 9, .inr f) :: J), 0, 0) _
  refine m_run 3 (ps' := (20, [some (.inr (.inl 0)), some (.inr (.inl 13)), some (.inr (.inl 14)), some (.inl z), some (.inl y), some (.inl (lowL z 16)), none, none, none, none, none, none, none], [.inl 0, .inr (.inl 13)], mW (9, T, (hc, hs, hp), (0, sg), x) (.inl (0, 1, .inl g) :: .inl (2, 9, .inr f) :: J), 0, 0)) rfl ?_
  refine m_iald rfl rfl (by omega) (by omega) (by decide) ?_
  show m_Sem X 53 (21, [some (.inr (.inl 0)), some (.inr (.inl 13)), some (.inr (.inl 14)), some (.inl z), some (.inl y), some (.inl (lowL z 16)), none, none, none, none, none, none, none], [.inl (g 0)], mW (9, T, (hc, hs, hp), (0, sg), x) (.inl (0, 1, .inl g) :: .inl (2, 9, .inr f) :: J), 0, 0) _
  rw [hg]
  refine m_run 3 (ps' := (27, [some (.inr (.inl 0)), some (.inr (.inl 13)), some (.inr (.inl 14)), some (.inl z), some (.inl y), some (.inl (lowL z 16)), some (.inl 9), none, none, none, none, none, none], [.inl 6, .inl (lowL z 16)], mW (9, T, (hc, hs, hp), (0, sg), x) (.inl (0, 1, .inl g) :: .inl (2, 9, .inr f) :: J), 0, 0)) rfl ?_
  refine m_icmp rfl ⟨by omega, by omega⟩ ⟨by omega, by omega⟩ (fun (zc1 : 6 ≤ (lowL z 16)) => ?_) (fun (zc1 : ¬ 6 ≤ (lowL z 16)) => absurd zc1 (not_not_intro (by omega)))
  refine m_run 2 (ps' := (62, [some (.inr (.inl 0)), some (.inr (.inl 13)), some (.inr (.inl 14)), some (.inl z), some (.inl y), some (.inl (lowL z 16)), some (.inl 9), none, none, none, none, none, none], [.inl 9, .inl (lowL z 16)], mW (9, T, (hc, hs, hp), (0, sg), x) (.inl (0, 1, .inl g) :: .inl (2, 9, .inr f) :: J), 0, 0)) rfl ?_
  refine m_icmp rfl ⟨by omega, by omega⟩ ⟨by omega, by omega⟩ (fun (zc2 : 9 ≤ (lowL z 16)) => absurd zc2 (by omega)) (fun (zc2 : ¬ 9 ≤ (lowL z 16)) => ?_)
  refine m_run 2 (ps' := (69, [some (.inr (.inl 0)), some (.inr (.inl 13)), some (.inr (.inl 14)), some (.inl z), some (.inl y), some (.inl (lowL z 16)), some (.inl 9), none, none, none, none, none, none], [.inl 9, .inl 9], mW (9, T, (hc, hs, hp), (0, sg), x) (.inl (0, 1, .inl g) :: .inl (2, 9, .inr f) :: J), 0, 0)) rfl ?_
  refine m_icmp rfl ⟨by omega, by omega⟩ ⟨by omega, by omega⟩ (fun (zc3 : 9 = 9) => ?_) (fun (zc3 : ¬ 9 = 9) => absurd zc3 (not_not_intro (by omega)))
  refine m_run 6 (ps' := (96, [some (.inr (.inl 0)), some (.inr (.inl 13)), some (.inr (.inl 14)), some (.inl z), some (.inl y), some (.inl (lowL z 16)), some (.inl 9), some (.inl 0), some (.inl 0), some (.inl 0), none, none, none], [], mW (9, T, (hc, hs, hp), (0, sg), x) (.inl (0, 1, .inl g) :: .inl (2, 9, .inr f) :: J), 0, 0)) rfl ?_
  refine m_weak [some (.inr (.inl 0)), some (.inr (.inl 13)), some (.inr (.inl 14)), some (.inl z), some (.inl y), some (.inl (lowL z 16)), some (.inl 9), some (.inl 0), some (.inl 0), some (.inl 0), none, none, none] ⟨rfl, ⟨rfl, ⟨rfl, ⟨rfl, ⟨rfl, ⟨rfl, ⟨rfl, ⟨rfl, ⟨rfl, ⟨rfl, trivial⟩⟩⟩⟩⟩⟩⟩⟩⟩⟩ ?_
  refine a_sqL hg hn ?_ 0 (by omega) (by omega) 0 (by omega) rfl
  refine a_twA (v := twC tb) hg hn (fun a b g1 g2 g3 g4 => (hL.2 a b g1 g2 g3 g4).2) (fun f2 hf2 => ?_) 0 (by omega) (by omega) f 0 (fillW_0 hL) (by rw [Int.zero_add]; exact tw_eq tb)
  show m_Sem X 53 (231, [some (.inr (.inl 0)), some (.inr (.inl 13)), some (.inr (.inl 14)), some (.inl z), some (.inl y), some (.inl (lowL z 16)), some (.inl 9), some (.inl (twC tb)), some (.inl (sqM : Int)), some (.inl 9), none, none, none], [], mW (9, T, (hc, hs, hp), (0, sg), x) (.inl (0, 1, .inl g) :: .inl (2, 9, .inr f2) :: J), 0, 0) _
  refine m_run 1 (ps' := (232, [some (.inr (.inl 0)), some (.inr (.inl 13)), some (.inr (.inl 14)), some (.inl z), some (.inl y), some (.inl (lowL z 16)), some (.inl 9), some (.inl (twC tb)), some (.inl (sqM : Int)), some (.inl 9), none, none, none], [.inr (.inl 0)], mW (9, T, (hc, hs, hp), (0, sg), x) (.inl (0, 1, .inl g) :: .inl (2, 9, .inr f2) :: J), 0, 0)) rfl ?_
  refine m_callV [] [] rfl rfl ⟨_, rfl, rfl⟩ rfl rfl (k_twist hR hT h1 h2) (fun r_ w_ hq_ _ => ?_)
  obtain ⟨rfl, T2, rfl, hT2, hF3⟩ := hq_
  show m_Sem X 53 (235, [some (.inr (.inl 0)), some (.inr (.inl 13)), some (.inr (.inl 14)), some (.inl z), some (.inl y), some (.inl (lowL z 16)), some (.inl 9), some (.inl (twC tb)), some (.inl (sqM : Int)), some (.inl 9), none, none, none], [.inl (twC tb)], mW (9, T2, (keepH 9 T (hc, hs, hp)), (0, sg), x) (.inl (0, 1, .inl g) :: .inl (2, 9, .inr f2) :: J), 0, 0) _
  refine m_run 1 (ps' := (237, [some (.inr (.inl 0)), some (.inr (.inl 13)), some (.inr (.inl 14)), some (.inl z), some (.inl y), some (.inl (lowL z 16)), some (.inl 9), some (.inl (twC tb)), some (.inl (sqM : Int)), some (.inl 9), none, none, none], [.inl (twC tb), .inl (twC tb)], mW (9, T2, (keepH 9 T (hc, hs, hp)), (0, sg), x) (.inl (0, 1, .inl g) :: .inl (2, 9, .inr f2) :: J), 0, 0)) rfl ?_
  refine m_icmp rfl ⟨by omega, by omega⟩ ⟨by omega, by omega⟩ (fun (zc4 : ¬ (twC tb) = (twC tb)) => absurd zc4 (by omega)) (fun (zc4 : ¬ ¬ (twC tb) = (twC tb)) => ?_)
  replace zc4 : (twC tb) = (twC tb) := Decidable.not_not.mp zc4
  refine m_run 2 (ps' := (245, [some (.inr (.inl 0)), some (.inr (.inl 13)), some (.inr (.inl 14)), some (.inl z), some (.inl y), some (.inl (lowL z 16)), some (.inl 9), some (.inl (twC tb)), some (.inl (sqM : Int)), some (.inl 9), none, none, none], [.inl 1], mW (9, T2, (keepH 9 T (hc, hs, hp)), (0, sg), x) (.inl (0, 1, .inl g) :: .inl (2, 9, .inr f2) :: J), 0, 0)) rfl ?_
  exact m_ret1 rfl (Or.inr ⟨rfl, Or.inr rfl⟩) rfl (⟨rfl, 9, T2, _, sg, x, g, f2, J, twS, rfl, hg, tbl_L hn (fun a b g1 g2 g3 g4 => by rw [hf2 a b g1 g2 g3 g4, if_pos (by omega)]) (fun a b g1 g2 g3 g4 => twS_in g1 g2 g3 g4), tbl_C hn hF3 (fun a b g1 g2 g3 g4 => twS_in g1 g2 g3 g4), hT2, keepH_in h1 h2, rfl⟩)
set_option maxHeartbeats 4000000 in
set_option maxRecDepth 100000 in
theorem a_acP {X : Nat × Nat × (Nat → Int32)} {n : Int} {T : Int → Int} {hc : Int} {hs hp : Int → Int} {sg : Int → Int} {x : XS} {g : Int → Int} {f : Nat → Int64} {J : mPW} {tb : Int → Int → Int} {z : Int} (hg : g 0 = n) (hL : repL n f tb) (hR : repC n T tb) (hT : okT T) (h1 : 0 ≤ hc) (h2 : hc ≤ 4) (hw : 12 ≤ lowL z 16) : m_Run X 53 [.inr (.inl 0), .inr (.inl 13), .inr (.inl 14), .inl z] (mW (n, T, (hc, hs, hp), (0, sg), x) (.inl (0, 1, .inl g) :: .inl (2, 9, .inr f) :: J)) (actQ J.length) := by
  have hn := hL.1
  have hl := okN_lo hn
  show m_Sem X 53 (0, [some (.inr (.inl 0)), some (.inr (.inl 13)), some (.inr (.inl 14)), some (.inl z), none, none, none, none, none, none, none, none, none], [], mW (n, T, (hc, hs, hp), (0, sg), x) (.inl (0, 1, .inl g) :: .inl (2, 9, .inr f) :: J), 0, 0) _
  refine m_run 4 (ps' := (5, [some (.inr (.inl 0)), some (.inr (.inl 13)), some (.inr (.inl 14)), some (.inl z), none, none, none, none, none, none, none, none, none], [.inl 10000000, .inl ((Int32.ofInt z >>> (Int32.ofInt 4 &&& 31)).toInt)], mW (n, T, (hc, hs, hp), (0, sg), x) (.inl (0, 1, .inl g) :: .inl (2, 9, .inr f) :: J), 0, 0)) rfl ?_
  refine m_callSF [.inl ((Int32.ofInt z >>> (Int32.ofInt 4 &&& 31)).toInt), .inl 10000000] [] rfl rfl rfl (a_low (v := (Int32.ofInt z >>> (Int32.ofInt 4 &&& 31)).toInt) (m := 10000000) (by omega) (by omega)) ?_
  have zt1 := lowL_in (v := (Int32.ofInt z >>> (Int32.ofInt 4 &&& 31)).toInt) (m := 10000000) (by omega)
  generalize lowL ((Int32.ofInt z >>> (Int32.ofInt 4 &&& 31)).toInt) 10000000 = y at zt1 ⊢
  show m_Sem X 53 (8, [some (.inr (.inl 0)), some (.inr (.inl 13)), some (.inr (.inl 14)), some (.inl z), none, none, none, none, none, none, none, none, none], [.inl y], mW (n, T, (hc, hs, hp), (0, sg), x) (.inl (0, 1, .inl g) :: .inl (2, 9, .inr f) :: J), 0, 0) _
  refine m_run 3 (ps' := (13, [some (.inr (.inl 0)), some (.inr (.inl 13)), some (.inr (.inl 14)), some (.inl z), some (.inl y), none, none, none, none, none, none, none, none], [.inl 16, .inl z], mW (n, T, (hc, hs, hp), (0, sg), x) (.inl (0, 1, .inl g) :: .inl (2, 9, .inr f) :: J), 0, 0)) rfl ?_
  refine m_callSF [.inl z, .inl 16] [] rfl rfl rfl (a_low (v := z) (m := 16) (by omega) (by omega)) ?_
  have zt2 := lowL_in (v := z) (m := 16) (by omega)
  show m_Sem X 53 (16, [some (.inr (.inl 0)), some (.inr (.inl 13)), some (.inr (.inl 14)), some (.inl z), some (.inl y), none, none, none, none, none, none, none, none], [.inl (lowL z 16)], mW (n, T, (hc, hs, hp), (0, sg), x) (.inl (0, 1, .inl g) :: .inl (2, 9, .inr f) :: J), 0, 0) _
  refine m_run 3 (ps' := (20, [some (.inr (.inl 0)), some (.inr (.inl 13)), some (.inr (.inl 14)), some (.inl z), some (.inl y), some (.inl (lowL z 16)), none, none, none, none, none, none, none], [.inl 0, .inr (.inl 13)], mW (n, T, (hc, hs, hp), (0, sg), x) (.inl (0, 1, .inl g) :: .inl (2, 9, .inr f) :: J), 0, 0)) rfl ?_
  refine m_iald rfl rfl (by omega) (by omega) (by decide) ?_
  show m_Sem X 53 (21, [some (.inr (.inl 0)), some (.inr (.inl 13)), some (.inr (.inl 14)), some (.inl z), some (.inl y), some (.inl (lowL z 16)), none, none, none, none, none, none, none], [.inl (g 0)], mW (n, T, (hc, hs, hp), (0, sg), x) (.inl (0, 1, .inl g) :: .inl (2, 9, .inr f) :: J), 0, 0) _
  rw [hg]
  refine m_run 3 (ps' := (27, [some (.inr (.inl 0)), some (.inr (.inl 13)), some (.inr (.inl 14)), some (.inl z), some (.inl y), some (.inl (lowL z 16)), some (.inl n), none, none, none, none, none, none], [.inl 6, .inl (lowL z 16)], mW (n, T, (hc, hs, hp), (0, sg), x) (.inl (0, 1, .inl g) :: .inl (2, 9, .inr f) :: J), 0, 0)) rfl ?_
  refine m_icmp rfl ⟨by omega, by omega⟩ ⟨by omega, by omega⟩ (fun (zc1 : 6 ≤ (lowL z 16)) => ?_) (fun (zc1 : ¬ 6 ≤ (lowL z 16)) => absurd zc1 (not_not_intro (by omega)))
  refine m_run 2 (ps' := (62, [some (.inr (.inl 0)), some (.inr (.inl 13)), some (.inr (.inl 14)), some (.inl z), some (.inl y), some (.inl (lowL z 16)), some (.inl n), none, none, none, none, none, none], [.inl 9, .inl (lowL z 16)], mW (n, T, (hc, hs, hp), (0, sg), x) (.inl (0, 1, .inl g) :: .inl (2, 9, .inr f) :: J), 0, 0)) rfl ?_
  refine m_icmp rfl ⟨by omega, by omega⟩ ⟨by omega, by omega⟩ (fun (zc2 : 9 ≤ (lowL z 16)) => ?_) (fun (zc2 : ¬ 9 ≤ (lowL z 16)) => absurd zc2 (not_not_intro (by omega)))
  refine m_run 2 (ps' := (250, [some (.inr (.inl 0)), some (.inr (.inl 13)), some (.inr (.inl 14)), some (.inl z), some (.inl y), some (.inl (lowL z 16)), some (.inl n), none, none, none, none, none, none], [.inl 12, .inl (lowL z 16)], mW (n, T, (hc, hs, hp), (0, sg), x) (.inl (0, 1, .inl g) :: .inl (2, 9, .inr f) :: J), 0, 0)) rfl ?_
  have zt3 := mod_in (p := y) hn
  have zt4 := mod_in (p := (y / 9)) hn
  have zt5 := mod_in (p := (y / 81)) hn
  refine m_icmp rfl ⟨by omega, by omega⟩ ⟨by omega, by omega⟩ (fun (zc3 : 12 ≤ (lowL z 16)) => ?_) (fun (zc3 : ¬ 12 ≤ (lowL z 16)) => absurd zc3 (not_not_intro (by omega)))
  refine m_run 2 (ps' := (384, [some (.inr (.inl 0)), some (.inr (.inl 13)), some (.inr (.inl 14)), some (.inl z), some (.inl y), some (.inl (lowL z 16)), some (.inl n), none, none, none, none, none, none], [.inl n, .inl y], mW (n, T, (hc, hs, hp), (0, sg), x) (.inl (0, 1, .inl g) :: .inl (2, 9, .inr f) :: J), 0, 0)) rfl ?_
  refine m_rem rfl (by omega) (by omega) (by omega) (by omega) ?_
  refine m_run 3 (ps' := (391, [some (.inr (.inl 0)), some (.inr (.inl 13)), some (.inr (.inl 14)), some (.inl z), some (.inl y), some (.inl (lowL z 16)), some (.inl n), some (.inl (y % n)), none, none, none, none, none], [.inl 9, .inl y], mW (n, T, (hc, hs, hp), (0, sg), x) (.inl (0, 1, .inl g) :: .inl (2, 9, .inr f) :: J), 0, 0)) rfl ?_
  refine m_div rfl (by omega) (by omega) (by omega) (by omega) ?_
  refine m_run 1 (ps' := (394, [some (.inr (.inl 0)), some (.inr (.inl 13)), some (.inr (.inl 14)), some (.inl z), some (.inl y), some (.inl (lowL z 16)), some (.inl n), some (.inl (y % n)), none, none, none, none, none], [.inl n, .inl (y / 9)], mW (n, T, (hc, hs, hp), (0, sg), x) (.inl (0, 1, .inl g) :: .inl (2, 9, .inr f) :: J), 0, 0)) rfl ?_
  refine m_rem rfl (by omega) (by omega) (by omega) (by omega) ?_
  refine m_run 4 (ps' := (402, [some (.inr (.inl 0)), some (.inr (.inl 13)), some (.inr (.inl 14)), some (.inl z), some (.inl y), some (.inl (lowL z 16)), some (.inl n), some (.inl (y % n)), some (.inl ((y / 9) % n)), none, none, none, none], [.inl ((y / 9) % n), .inl (y % n), .inr (.inl 14)], mW (n, T, (hc, hs, hp), (0, sg), x) (.inl (0, 1, .inl g) :: .inl (2, 9, .inr f) :: J), 0, 0)) rfl ?_
  refine m_callSF [.inr (.inl 14), .inl (y % n), .inl ((y / 9) % n)] [] rfl rfl rfl (a_of (a := (y % n)) (b := ((y / 9) % n)) hL (by omega) (by omega) (by omega) (by omega)) ?_
  have zt6 := (hL.2 (y % n) ((y / 9) % n) (by omega) (by omega) (by omega) (by omega)).2
  show m_Sem X 53 (405, [some (.inr (.inl 0)), some (.inr (.inl 13)), some (.inr (.inl 14)), some (.inl z), some (.inl y), some (.inl (lowL z 16)), some (.inl n), some (.inl (y % n)), some (.inl ((y / 9) % n)), none, none, none, none], [.inl (tb (y % n) ((y / 9) % n))], mW (n, T, (hc, hs, hp), (0, sg), x) (.inl (0, 1, .inl g) :: .inl (2, 9, .inr f) :: J), 0, 0) _
  refine m_run 6 (ps' := (416, [some (.inr (.inl 0)), some (.inr (.inl 13)), some (.inr (.inl 14)), some (.inl z), some (.inl y), some (.inl (lowL z 16)), some (.inl n), some (.inl (y % n)), some (.inl ((y / 9) % n)), some (.inl (tb (y % n) ((y / 9) % n))), none, none, none], [.inl 81, .inl y, .inl ((y / 9) % n), .inl (y % n), .inr (.inl 14)], mW (n, T, (hc, hs, hp), (0, sg), x) (.inl (0, 1, .inl g) :: .inl (2, 9, .inr f) :: J), 0, 0)) rfl ?_
  refine m_div rfl (by omega) (by omega) (by omega) (by omega) ?_
  refine m_run 1 (ps' := (419, [some (.inr (.inl 0)), some (.inr (.inl 13)), some (.inr (.inl 14)), some (.inl z), some (.inl y), some (.inl (lowL z 16)), some (.inl n), some (.inl (y % n)), some (.inl ((y / 9) % n)), some (.inl (tb (y % n) ((y / 9) % n))), none, none, none], [.inl n, .inl (y / 81), .inl ((y / 9) % n), .inl (y % n), .inr (.inl 14)], mW (n, T, (hc, hs, hp), (0, sg), x) (.inl (0, 1, .inl g) :: .inl (2, 9, .inr f) :: J), 0, 0)) rfl ?_
  refine m_rem rfl (by omega) (by omega) (by omega) (by omega) ?_
  refine m_callSU [.inr (.inl 14), .inl (y % n), .inl ((y / 9) % n), .inl ((y / 81) % n)] [] rfl rfl rfl (a_put (a := (y % n)) (b := ((y / 9) % n)) (r := ((y / 81) % n)) (by omega) (by omega)) ?_
  show m_Sem X 53 (423, [some (.inr (.inl 0)), some (.inr (.inl 13)), some (.inr (.inl 14)), some (.inl z), some (.inl y), some (.inl (lowL z 16)), some (.inl n), some (.inl (y % n)), some (.inl ((y / 9) % n)), some (.inl (tb (y % n) ((y / 9) % n))), none, none, none], [], mW (n, T, (hc, hs, hp), (0, sg), x) (.inl (0, 1, .inl g) :: .inl (2, 9, .inr (putF f (y % n) ((y / 9) % n) ((y / 81) % n))) :: J), 0, 0) _
  refine m_run 5 (ps' := (432, [some (.inr (.inl 0)), some (.inr (.inl 13)), some (.inr (.inl 14)), some (.inl z), some (.inl y), some (.inl (lowL z 16)), some (.inl n), some (.inl (y % n)), some (.inl ((y / 9) % n)), some (.inl (tb (y % n) ((y / 9) % n))), none, none, none], [.inl 81, .inl y, .inl ((y / 9) % n), .inl (y % n), .inr (.inl 0)], mW (n, T, (hc, hs, hp), (0, sg), x) (.inl (0, 1, .inl g) :: .inl (2, 9, .inr (putF f (y % n) ((y / 9) % n) ((y / 81) % n))) :: J), 0, 0)) rfl ?_
  refine m_div rfl (by omega) (by omega) (by omega) (by omega) ?_
  refine m_run 1 (ps' := (435, [some (.inr (.inl 0)), some (.inr (.inl 13)), some (.inr (.inl 14)), some (.inl z), some (.inl y), some (.inl (lowL z 16)), some (.inl n), some (.inl (y % n)), some (.inl ((y / 9) % n)), some (.inl (tb (y % n) ((y / 9) % n))), none, none, none], [.inl n, .inl (y / 81), .inl ((y / 9) % n), .inl (y % n), .inr (.inl 0)], mW (n, T, (hc, hs, hp), (0, sg), x) (.inl (0, 1, .inl g) :: .inl (2, 9, .inr (putF f (y % n) ((y / 9) % n) ((y / 81) % n))) :: J), 0, 0)) rfl ?_
  refine m_rem rfl (by omega) (by omega) (by omega) (by omega) ?_
  refine m_callV [.inl (y % n), .inl ((y / 9) % n), .inl ((y / 81) % n)] [] rfl rfl ⟨_, rfl, rfl⟩ rfl rfl (k_prod (a := (y % n)) (b := ((y / 9) % n)) (r := ((y / 81) % n)) ⟨by omega, by omega⟩ ⟨by omega, by omega⟩ ⟨by omega, by omega⟩ hR hT h1 h2) (fun r_ w_ hq_ _ => ?_)
  rw [if_pos (show inN n (y % n) = true ∧ inN n ((y / 9) % n) = true ∧ inN n ((y / 81) % n) = true from ⟨inN_t (by omega) (by omega), inN_t (by omega) (by omega), inN_t (by omega) (by omega)⟩)] at hq_
  obtain ⟨rfl, rfl⟩ := hq_
  show m_Sem X 53 (439, [some (.inr (.inl 0)), some (.inr (.inl 13)), some (.inr (.inl 14)), some (.inl z), some (.inl y), some (.inl (lowL z 16)), some (.inl n), some (.inl (y % n)), some (.inl ((y / 9) % n)), some (.inl (tb (y % n) ((y / 9) % n))), none, none, none], [.inl (tb (y % n) ((y / 9) % n))], mW (n, (m_up T (9 * (y % n) + ((y / 9) % n)) ((y / 81) % n)), (keepH n T (hc, hs, hp)), (0, sg), x) (.inl (0, 1, .inl g) :: .inl (2, 9, .inr (putF f (y % n) ((y / 9) % n) ((y / 81) % n))) :: J), 0, 0) _
  refine m_run 1 (ps' := (441, [some (.inr (.inl 0)), some (.inr (.inl 13)), some (.inr (.inl 14)), some (.inl z), some (.inl y), some (.inl (lowL z 16)), some (.inl n), some (.inl (y % n)), some (.inl ((y / 9) % n)), some (.inl (tb (y % n) ((y / 9) % n))), none, none, none], [.inl (tb (y % n) ((y / 9) % n)), .inl (tb (y % n) ((y / 9) % n))], mW (n, (m_up T (9 * (y % n) + ((y / 9) % n)) ((y / 81) % n)), (keepH n T (hc, hs, hp)), (0, sg), x) (.inl (0, 1, .inl g) :: .inl (2, 9, .inr (putF f (y % n) ((y / 9) % n) ((y / 81) % n))) :: J), 0, 0)) rfl ?_
  refine m_icmp rfl ⟨by omega, by omega⟩ ⟨by omega, by omega⟩ (fun (zc4 : ¬ (tb (y % n) ((y / 9) % n)) = (tb (y % n) ((y / 9) % n))) => absurd zc4 (by omega)) (fun (zc4 : ¬ ¬ (tb (y % n) ((y / 9) % n)) = (tb (y % n) ((y / 9) % n))) => ?_)
  replace zc4 : (tb (y % n) ((y / 9) % n)) = (tb (y % n) ((y / 9) % n)) := Decidable.not_not.mp zc4
  refine m_run 2 (ps' := (449, [some (.inr (.inl 0)), some (.inr (.inl 13)), some (.inr (.inl 14)), some (.inl z), some (.inl y), some (.inl (lowL z 16)), some (.inl n), some (.inl (y % n)), some (.inl ((y / 9) % n)), some (.inl (tb (y % n) ((y / 9) % n))), none, none, none], [.inl 1], mW (n, (m_up T (9 * (y % n) + ((y / 9) % n)) ((y / 81) % n)), (keepH n T (hc, hs, hp)), (0, sg), x) (.inl (0, 1, .inl g) :: .inl (2, 9, .inr (putF f (y % n) ((y / 9) % n) ((y / 81) % n))) :: J), 0, 0)) rfl ?_
  exact m_ret1 rfl (Or.inr ⟨rfl, Or.inr rfl⟩) rfl (⟨rfl, n, _, _, sg, x, g, _, J, prodT tb (y % n) (y / 9 % n) (y / 81 % n), rfl, hg, prod_L hL (by omega) (by omega) (by omega) (by omega) (by omega) (by omega), prod_C hR (by omega) (by omega) (by omega) (by omega) (by omega) (by omega), okT_up hT (by omega) (by omega), keepH_in h1 h2, rfl⟩)
