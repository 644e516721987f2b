def szS (n : Int) : Bool := decide (n = 2 ∨ n = 3 ∨ n = 4 ∨ n = 5 ∨ n = 7 ∨ n = 9)
theorem szS_i {n : Int} : szS n = true ↔ okN n := by unfold szS okN; exact decide_eq_true_iff
set_option maxHeartbeats 4000000 in
set_option maxRecDepth 100000 in
theorem k_sz {X : Nat × Nat × (Nat → Int32)} {n : Int} {T : Int → Int} {h : HS} {t : TS} {x : XS} {M : MS} {e : Int} (he : m_R e) : m_Run X 39 [.inl e] (mW (n, T, h, t, x) M) (m_V (bI (szS e)) (mW (n, T, h, t, x) M)) := by
  show m_Sem X 39 (0, [some (.inl e)], [], mW (n, T, h, t, x) M, 0, 0) _
  refine m_run 2 (ps' := (2, [some (.inl e)], [.inl 2, .inl e], mW (n, T, h, t, x) M, 0, 0)) rfl ?_
  refine m_icmp rfl he ⟨by omega, by omega⟩ (fun (zc1 : e = 2) => ?_) (fun (zc1 : ¬ e = 2) => ?_)
  · refine m_run 2 (ps' := (37, [some (.inl e)], [.inl 1], mW (n, T, h, t, x) M, 0, 0)) rfl ?_
    exact m_ret1 rfl (Or.inr ⟨rfl, Or.inr rfl⟩) rfl (m_Vb (b1 (decide_eq_true (by omega))))
  · refine m_run 2 (ps' := (7, [some (.inl e)], [.inl 3, .inl e], mW (n, T, h, t, x) M, 0, 0)) rfl ?_
    refine m_icmp rfl he ⟨by omega, by omega⟩ (fun (zc2 : e = 3) => ?_) (fun (zc2 : ¬ e = 3) => ?_)
    · refine m_run 2 (ps' := (37, [some (.inl e)], [.inl 1], mW (n, T, h, t, x) M, 0, 0)) rfl ?_
      exact m_ret1 rfl (Or.inr ⟨rfl, Or.inr rfl⟩) rfl (m_Vb (b1 (decide_eq_true (by omega))))
    · refine m_run 2 (ps' := (12, [some (.inl e)], [.inl 4, .inl e], mW (n, T, h, t, x) M, 0, 0)) rfl ?_
      refine m_icmp rfl he ⟨by omega, by omega⟩ (fun (zc3 : e = 4) => ?_) (fun (zc3 : ¬ e = 4) => ?_)
      · refine m_run 2 (ps' := (37, [some (.inl e)], [.inl 1], mW (n, T, h, t, x) M, 0, 0)) rfl ?_
        exact m_ret1 rfl (Or.inr ⟨rfl, Or.inr rfl⟩) rfl (m_Vb (b1 (decide_eq_true (by omega))))
      · refine m_run 2 (ps' := (17, [some (.inl e)], [.inl 5, .inl e], mW (n, T, h, t, x) M, 0, 0)) rfl ?_
        refine m_icmp rfl he ⟨by omega, by omega⟩ (fun (zc4 : e = 5) => ?_) (fun (zc4 : ¬ e = 5) => ?_)
        · refine m_run 2 (ps' := (37, [some (.inl e)], [.inl 1], mW (n, T, h, t, x) M, 0, 0)) rfl ?_
          exact m_ret1 rfl (Or.inr ⟨rfl, Or.inr rfl⟩) rfl (m_Vb (b1 (decide_eq_true (by omega))))
        · refine m_run 2 (ps' := (23, [some (.inl e)], [.inl 7, .inl e], mW (n, T, h, t, x) M, 0, 0)) rfl ?_
          refine m_icmp rfl he ⟨by omega, by omega⟩ (fun (zc5 : e = 7) => ?_) (fun (zc5 : ¬ e = 7) => ?_)
          · refine m_run 2 (ps' := (37, [some (.inl e)], [.inl 1], mW (n, T, h, t, x) M, 0, 0)) rfl ?_
            exact m_ret1 rfl (Or.inr ⟨rfl, Or.inr rfl⟩) rfl (m_Vb (b1 (decide_eq_true (by omega))))
          · refine m_run 2 (ps' := (29, [some (.inl e)], [.inl 9, .inl e], mW (n, T, h, t, x) M, 0, 0)) rfl ?_
            refine m_icmp rfl he ⟨by omega, by omega⟩ (fun (zc6 : ¬ e = 9) => ?_) (fun (zc6 : ¬ ¬ e = 9) => ?_)
            · refine m_run 1 (ps' := (37, [some (.inl e)], [.inl 0], mW (n, T, h, t, x) M, 0, 0)) rfl ?_
              exact m_ret1 rfl (Or.inr ⟨rfl, Or.inl rfl⟩) rfl (m_Vb (b0 (decide_eq_false (by omega))))
            · replace zc6 : e = 9 := Decidable.not_not.mp zc6
              refine m_run 2 (ps' := (37, [some (.inl e)], [.inl 1], mW (n, T, h, t, x) M, 0, 0)) rfl ?_
              exact m_ret1 rfl (Or.inr ⟨rfl, Or.inr rfl⟩) rfl (m_Vb (b1 (decide_eq_true (by omega))))
def onfS (v : Int) : Int := if v = -1 then -1000004 else v
set_option maxHeartbeats 4000000 in
set_option maxRecDepth 100000 in
theorem k_onf {X : Nat × Nat × (Nat → Int32)} {n : Int} {T : Int → Int} {h : HS} {t : TS} {x : XS} {M : MS} {e : Int} (he : m_R e) : m_Run X 40 [.inl e] (mW (n, T, h, t, x) M) (m_V (onfS e) (mW (n, T, h, t, x) M)) := by
  show m_Sem X 40 (0, [some (.inl e)], [], mW (n, T, h, t, x) M, 0, 0) _
  refine m_run 2 (ps' := (2, [some (.inl e)], [.inl (-1), .inl e], mW (n, T, h, t, x) M, 0, 0)) rfl ?_
  refine m_icmp rfl he ⟨by omega, by omega⟩ (fun (zc1 : ¬ e = (-1)) => ?_) (fun (zc1 : ¬ ¬ e = (-1)) => ?_)
  · refine m_run 1 (ps' := (11, [some (.inl e)], [.inl e], mW (n, T, h, t, x) M, 0, 0)) rfl ?_
    exact m_ret1 rfl (Or.inl rfl) rfl (m_Vi (by unfold onfS; (repeat' split) <;> first | rfl | (exfalso; omega) | omega | simp_all))
  · replace zc1 : e = (-1) := Decidable.not_not.mp zc1
    refine m_run 2 (ps' := (11, [some (.inl e)], [.inl (-1000004)], mW (n, T, h, t, x) M, 0, 0)) rfl ?_
    exact m_ret1 rfl (Or.inl rfl) rfl (m_Vi (by unfold onfS; (repeat' split) <;> first | rfl | (exfalso; omega) | omega | simp_all))
set_option maxHeartbeats 4000000 in
set_option maxRecDepth 100000 in
theorem k_field {X : Nat × Nat × (Nat → Int32)} {n : Int} {T : Int → Int} {hc : Int} {hs hp : Int → Int} {t : TS} {x : XS} {M : MS} {tb : Int → Int → Int} {e : Int} (he : m_R e) (hok : okN e) (hR : repC n T tb) (hT : okT T) (h1 : 0 ≤ hc) (h2 : hc ≤ 4) : m_Run X 30 [.inr (.inl 0), .inl e] (mW (n, T, (hc, hs, hp), t, x) M) (fun r w => r = some (.inl n) ∧ ∃ T2, w = mW (e, T2, keepH n T (hc, hs, hp), t, x) M ∧ okT T2 ∧ ∀ a b, 0 ≤ a → a < e → 0 ≤ b → b < e → T2 (9 * a + b) = fpS e a b) := by
  have hn := hR.1
  have hl := okN_lo hn
  show m_Sem X 30 (0, [some (.inr (.inl 0)), some (.inl e), none], [], mW (n, T, (hc, hs, hp), t, x) M, 0, 0) _
  refine m_run 1 (ps' := (1, [some (.inr (.inl 0)), some (.inl e), none], [.inl e], mW (n, T, (hc, hs, hp), t, x) M, 0, 0)) rfl ?_
  refine m_callSF [.inl e] [] rfl rfl rfl (k_sz (e := e) he) ?_
  show m_Sem X 30 (4, [some (.inr (.inl 0)), some (.inl e), none], [.inl (bI (szS e))], mW (n, T, (hc, hs, hp), t, x) M, 0, 0) _
  refine m_if rfl (bI_R (szS e)) (fun (zc1 : ¬ (bI (szS e)) = 0) => ?_) (fun (zc1 : ¬ ¬ (bI (szS e)) = 0) => absurd zc1 (not_not_intro (by rw [szS_i.mpr hok]; decide)))
  replace zc1 : (szS e) = true := bI_n0.mp zc1
  refine m_run 4 (ps' := (18, [some (.inr (.inl 0)), some (.inl e), none], [.inr (.inl 2), .inr (.inl 4)], mW (n, T, (hc, hs, hp), t, x) M, 0, 0)) rfl ?_
  refine m_callVU [.inr (.inl 2)] [] rfl rfl ⟨_, rfl, rfl⟩ rfl rfl (k_keep ⟨by omega, by omega⟩ (by omega) (by omega)) ?_
  show m_Sem X 30 (21, [some (.inr (.inl 0)), some (.inl e), none], [], mW (n, T, (keepH n T (hc, hs, hp)), t, x) M, 0, 0) _
  refine m_run 7 (ps' := (34, [some (.inr (.inl 0)), some (.inl e), some (.inl n)], [.inl e, .inr (.inl 2)], mW (n, T, (keepH n T (hc, hs, hp)), t, x) M, 0, 0)) rfl ?_
  refine m_callV [.inl e] [] rfl rfl ⟨_, rfl, rfl⟩ rfl rfl (k_bf hok hT) (fun r_ w_ hq_ _ => ?_)
  obtain ⟨rfl, T2, rfl, hT2, hF2⟩ := hq_
  show m_Sem X 30 (37, [some (.inr (.inl 0)), some (.inl e), some (.inl n)], [], mW (e, T2, (keepH n T (hc, hs, hp)), t, x) M, 0, 0) _
  refine m_run 1 (ps' := (38, [some (.inr (.inl 0)), some (.inl e), some (.inl n)], [.inl n], mW (e, T2, (keepH n T (hc, hs, hp)), t, x) M, 0, 0)) rfl ?_
  exact m_ret1 rfl (Or.inl rfl) rfl (⟨rfl, T2, rfl, hT2, hF2⟩)
set_option maxHeartbeats 4000000 in
set_option maxRecDepth 100000 in
theorem k_fieldN {X : Nat × Nat × (Nat → Int32)} {n : Int} {T : Int → Int} {h : HS} {t : TS} {x : XS} {M : MS} {e : Int} (he : m_R e) (hno : ¬ okN e) : m_Run X 30 [.inr (.inl 0), .inl e] (mW (n, T, h, t, x) M) (m_V (-1000001) (mW (n, T, h, t, x) M)) := by
  show m_Sem X 30 (0, [some (.inr (.inl 0)), some (.inl e), none], [], mW (n, T, h, t, x) M, 0, 0) _
  refine m_run 1 (ps' := (1, [some (.inr (.inl 0)), some (.inl e), none], [.inl e], mW (n, T, h, t, x) M, 0, 0)) rfl ?_
  refine m_callSF [.inl e] [] rfl rfl rfl (k_sz (e := e) he) ?_
  show m_Sem X 30 (4, [some (.inr (.inl 0)), some (.inl e), none], [.inl (bI (szS e))], mW (n, T, h, t, x) M, 0, 0) _
  refine m_if rfl (bI_R (szS e)) (fun (zc1 : ¬ (bI (szS e)) = 0) => absurd zc1 (by rw [Bool.eq_false_iff.mpr (fun h9 => hno (szS_i.mp h9))]; decide)) (fun (zc1 : ¬ ¬ (bI (szS e)) = 0) => ?_)
  replace zc1 : (szS e) = false := bI_e0.mp (Decidable.not_not.mp zc1)
  refine m_run 1 (ps' := (9, [some (.inr (.inl 0)), some (.inl e), none], [.inl (-1000001)], mW (n, T, h, t, x) M, 0, 0)) rfl ?_
  exact m_ret1 rfl (Or.inl rfl) rfl (m_Vi rfl)
set_option maxHeartbeats 4000000 in
set_option maxRecDepth 100000 in
theorem k_twist {X : Nat × Nat × (Nat → Int32)} {T : Int → Int} {hc : Int} {hs hp : Int → Int} {t : TS} {x : XS} {M : MS} {tb : Int → Int → Int} (hR : repC 9 T tb) (hT : okT T) (h1 : 0 ≤ hc) (h2 : hc ≤ 4) : m_Run X 31 [.inr (.inl 0)] (mW (9, T, (hc, hs, hp), t, x) M) (fun r w => r = some (.inl (twC tb)) ∧ ∃ T2, w = mW (9, T2, keepH 9 T (hc, hs, hp), t, x) M ∧ okT T2 ∧ ∀ a b, 0 ≤ a → a < 9 → 0 ≤ b → b < 9 → T2 (9 * a + b) = twS a b) := by
  show m_Sem X 31 (0, [some (.inr (.inl 0))], [], mW (9, T, (hc, hs, hp), t, x) M, 0, 0) _
  refine m_run 4 (ps' := (9, [some (.inr (.inl 0))], [.inl 9, .inl 9], mW (9, T, (hc, hs, hp), t, x) M, 0, 0)) rfl ?_
  refine m_icmp rfl ⟨by omega, by omega⟩ ⟨by omega, by omega⟩ (fun (zc1 : 9 = 9) => ?_) (fun (zc1 : ¬ 9 = 9) => absurd zc1 (not_not_intro (by omega)))
  refine m_run 4 (ps' := (23, [some (.inr (.inl 0))], [.inr (.inl 2), .inr (.inl 4)], mW (9, T, (hc, hs, hp), t, x) M, 0, 0)) rfl ?_
  refine m_callVU [.inr (.inl 2)] [] rfl rfl ⟨_, rfl, rfl⟩ rfl rfl (k_keep ⟨by omega, by omega⟩ (by omega) (by omega)) ?_
  show m_Sem X 31 (26, [some (.inr (.inl 0))], [], mW (9, T, (keepH 9 T (hc, hs, hp)), t, x) M, 0, 0) _
  refine m_run 2 (ps' := (30, [some (.inr (.inl 0))], [.inr (.inl 2)], mW (9, T, (keepH 9 T (hc, hs, hp)), t, x) M, 0, 0)) rfl ?_
  refine m_callV [] [] rfl rfl ⟨_, rfl, rfl⟩ rfl rfl (k_bt hR hT) (fun r_ w_ hq_ _ => ?_)
  obtain ⟨rfl, T2, rfl, hT2, hF2⟩ := hq_
  show m_Sem X 31 (33, [some (.inr (.inl 0))], [.inl (twC tb)], mW (9, T2, (keepH 9 T (hc, hs, hp)), t, x) M, 0, 0) _
  exact m_ret1 rfl (Or.inl rfl) rfl (⟨rfl, T2, rfl, hT2, hF2⟩)
set_option maxHeartbeats 4000000 in
set_option maxRecDepth 100000 in
theorem k_twistN {X : Nat × Nat × (Nat → Int32)} {n : Int} {T : Int → Int} {h : HS} {t : TS} {x : XS} {M : MS} (hn : okN n) (hno : ¬ n = 9) : m_Run X 31 [.inr (.inl 0)] (mW (n, T, h, t, x) M) (m_V (-1000002) (mW (n, T, h, t, x) M)) := by
  have hl := okN_lo hn
  show m_Sem X 31 (0, [some (.inr (.inl 0))], [], mW (n, T, h, t, x) M, 0, 0) _
  refine m_run 4 (ps' := (9, [some (.inr (.inl 0))], [.inl 9, .inl n], mW (n, T, h, t, x) M, 0, 0)) rfl ?_
  refine m_icmp rfl ⟨by omega, by omega⟩ ⟨by omega, by omega⟩ (fun (zc1 : n = 9) => absurd zc1 (by omega)) (fun (zc1 : ¬ n = 9) => ?_)
  refine m_run 1 (ps' := (14, [some (.inr (.inl 0))], [.inl (-1000002)], mW (n, T, h, t, x) M, 0, 0)) rfl ?_
  exact m_ret1 rfl (Or.inl rfl) rfl (m_Vi rfl)
set_option maxHeartbeats 4000000 in
set_option maxRecDepth 100000 in
theorem k_prod {X : Nat × Nat × (Nat → Int32)} {n : Int} {T : Int → Int} {hc : Int} {hs hp : Int → Int} {t : TS} {x : XS} {M : MS} {tb : Int → Int → Int} {a b r : Int} (ha : m_R a) (hb : m_R b) (hr : m_R r) (hR : repC n T tb) (hT : okT T) (h1 : 0 ≤ hc) (h2 : hc ≤ 4) : m_Run X 32 [.inr (.inl 0), .inl a, .inl b, .inl r] (mW (n, T, (hc, hs, hp), t, x) M) (fun r9 w => if inN n a = true ∧ inN n b = true ∧ inN n r = true then r9 = some (.inl (tb a b)) ∧ w = mW (n, m_up T (9 * a + b) r, keepH n T (hc, hs, hp), t, x) M else r9 = some (.inl (-1000001)) ∧ w = mW (n, T, (hc, hs, hp), t, x) M) := by
  have hn := hR.1
  have hl := okN_lo hn
  show m_Sem X 32 (0, [some (.inr (.inl 0)), some (.inl a), some (.inl b), some (.inl r), none], [], mW (n, T, (hc, hs, hp), t, x) M, 0, 0) _
  refine m_run 3 (ps' := (5, [some (.inr (.inl 0)), some (.inl a), some (.inl b), some (.inl r), none], [.inl a, .inr (.inl 2)], mW (n, T, (hc, hs, hp), t, x) M, 0, 0)) rfl ?_
  refine m_callVF [.inl a] [] rfl rfl ⟨_, rfl, rfl⟩ rfl rfl (k_has (e := a) hn ha) ?_
  show m_Sem X 32 (8, [some (.inr (.inl 0)), some (.inl a), some (.inl b), some (.inl r), none], [.inl (bI (inN n a))], mW (n, T, (hc, hs, hp), t, x) M, 0, 0) _
  refine m_if rfl (bI_R (inN n a)) (fun (zc1 : (bI (inN n a)) = 0) => ?_) (fun (zc1 : ¬ (bI (inN n a)) = 0) => ?_)
  · replace zc1 : (inN n a) = false := bI_e0.mp zc1
    refine m_run 1 (ps' := (35, [some (.inr (.inl 0)), some (.inl a), some (.inl b), some (.inl r), none], [.inl (-1000001)], mW (n, T, (hc, hs, hp), t, x) M, 0, 0)) rfl ?_
    exact m_ret1 rfl (Or.inl rfl) rfl (by rw [if_neg (by simp [*])]; exact ⟨rfl, rfl⟩)
  · replace zc1 : (inN n a) = true := bI_n0.mp zc1
    have zi1 := inN_i.mp zc1
    refine m_run 3 (ps' := (16, [some (.inr (.inl 0)), some (.inl a), some (.inl b), some (.inl r), none], [.inl b, .inr (.inl 2)], mW (n, T, (hc, hs, hp), t, x) M, 0, 0)) rfl ?_
    refine m_callVF [.inl b] [] rfl rfl ⟨_, rfl, rfl⟩ rfl rfl (k_has (e := b) hn hb) ?_
    show m_Sem X 32 (19, [some (.inr (.inl 0)), some (.inl a), some (.inl b), some (.inl r), none], [.inl (bI (inN n b))], mW (n, T, (hc, hs, hp), t, x) M, 0, 0) _
    refine m_if rfl (bI_R (inN n b)) (fun (zc2 : (bI (inN n b)) = 0) => ?_) (fun (zc2 : ¬ (bI (inN n b)) = 0) => ?_)
    · replace zc2 : (inN n b) = false := bI_e0.mp zc2
      refine m_run 1 (ps' := (35, [some (.inr (.inl 0)), some (.inl a), some (.inl b), some (.inl r), none], [.inl (-1000001)], mW (n, T, (hc, hs, hp), t, x) M, 0, 0)) rfl ?_
      exact m_ret1 rfl (Or.inl rfl) rfl (by rw [if_neg (by simp [*])]; exact ⟨rfl, rfl⟩)
    · replace zc2 : (inN n b) = true := bI_n0.mp zc2
      have zi2 := inN_i.mp zc2
      refine m_run 3 (ps' := (27, [some (.inr (.inl 0)), some (.inl a), some (.inl b), some (.inl r), none], [.inl r, .inr (.inl 2)], mW (n, T, (hc, hs, hp), t, x) M, 0, 0)) rfl ?_
      refine m_callVF [.inl r] [] rfl rfl ⟨_, rfl, rfl⟩ rfl rfl (k_has (e := r) hn hr) ?_
      show m_Sem X 32 (30, [some (.inr (.inl 0)), some (.inl a), some (.inl b), some (.inl r), none], [.inl (bI (inN n r))], mW (n, T, (hc, hs, hp), t, x) M, 0, 0) _
      refine m_if rfl (bI_R (inN n r)) (fun (zc3 : ¬ (bI (inN n r)) = 0) => ?_) (fun (zc3 : ¬ ¬ (bI (inN n r)) = 0) => ?_)
      · replace zc3 : (inN n r) = true := bI_n0.mp zc3
        have zi3 := inN_i.mp zc3
        refine m_run 4 (ps' := (44, [some (.inr (.inl 0)), some (.inl a), some (.inl b), some (.inl r), none], [.inr (.inl 2), .inr (.inl 4)], mW (n, T, (hc, hs, hp), t, x) M, 0, 0)) rfl ?_
        refine m_callVU [.inr (.inl 2)] [] rfl rfl ⟨_, rfl, rfl⟩ rfl rfl (k_keep ⟨by omega, by omega⟩ (by omega) (by omega)) ?_
        show m_Sem X 32 (47, [some (.inr (.inl 0)), some (.inl a), some (.inl b), some (.inl r), none], [], mW (n, T, (keepH n T (hc, hs, hp)), t, x) M, 0, 0) _
        refine m_run 4 (ps' := (53, [some (.inr (.inl 0)), some (.inl a), some (.inl b), some (.inl r), none], [.inl b, .inl a, .inr (.inl 2)], mW (n, T, (keepH n T (hc, hs, hp)), t, x) M, 0, 0)) rfl ?_
        refine m_callVF [.inl a, .inl b] [] rfl rfl ⟨_, rfl, rfl⟩ rfl rfl (k_times (a := a) (b := b) hR (by omega) (by omega) (by omega) (by omega)) ?_
        have zt1 := (hR.2 a b (by omega) (by omega) (by omega) (by omega)).2
        show m_Sem X 32 (56, [some (.inr (.inl 0)), some (.inl a), some (.inl b), some (.inl r), none], [.inl (tb a b)], mW (n, T, (keepH n T (hc, hs, hp)), t, x) M, 0, 0) _
        refine m_run 6 (ps' := (65, [some (.inr (.inl 0)), some (.inl a), some (.inl b), some (.inl r), some (.inl (tb a b))], [.inl r, .inl b, .inl a, .inr (.inl 2)], mW (n, T, (keepH n T (hc, hs, hp)), t, x) M, 0, 0)) rfl ?_
        have hp9 := hT (9 * a + b) (by omega) (by omega)
        refine m_callVF [.inl a, .inl b, .inl r] [] rfl rfl ⟨_, rfl, rfl⟩ rfl rfl (k_set (T := T) (a := a) (b := b) (r := r) ⟨by omega, by omega⟩ ⟨by omega, by omega⟩ (by omega) (by omega) ⟨by omega, by omega⟩ ⟨by omega, by omega⟩) ?_
        show m_Sem X 32 (68, [some (.inr (.inl 0)), some (.inl a), some (.inl b), some (.inl r), some (.inl (tb a b))], [.inl (if T (9 * a + b) = r then 0 else 1)], mW (n, (m_up T (9 * a + b) r), (keepH n T (hc, hs, hp)), t, x) M, 0, 0) _
        refine m_run 2 (ps' := (71, [some (.inr (.inl 0)), some (.inl a), some (.inl b), some (.inl r), some (.inl (tb a b))], [.inl (tb a b)], mW (n, (m_up T (9 * a + b) r), (keepH n T (hc, hs, hp)), t, x) M, 0, 0)) rfl ?_
        exact m_ret1 rfl (Or.inl rfl) rfl (by rw [if_pos ⟨zc1, zc2, zc3⟩]; exact ⟨rfl, rfl⟩)
      · replace zc3 : (inN n r) = false := bI_e0.mp (Decidable.not_not.mp zc3)
        refine m_run 1 (ps' := (35, [some (.inr (.inl 0)), some (.inl a), some (.inl b), some (.inl r), none], [.inl (-1000001)], mW (n, T, (hc, hs, hp), t, x) M, 0, 0)) rfl ?_
        exact m_ret1 rfl (Or.inl rfl) rfl (by rw [if_neg (by simp [*])]; exact ⟨rfl, rfl⟩)
set_option maxHeartbeats 4000000 in
set_option maxRecDepth 100000 in
theorem k_exch {X : Nat × Nat × (Nat → Int32)} {n : Int} {T : Int → Int} {hc : Int} {hs hp : Int → Int} {t : TS} {x : XS} {M : MS} {tb : Int → Int → Int} (hR : repC n T tb) (hT : okT T) (h1 : 0 ≤ hc) (h2 : hc ≤ 4) : m_Run X 33 [.inr (.inl 0)] (mW (n, T, (hc, hs, hp), t, x) M) (fun r w => r = some (.inl (exC n tb)) ∧ ∃ T2, w = mW (n, T2, keepH n T (hc, hs, hp), t, x) M ∧ okT T2 ∧ ∀ a b, 0 ≤ a → a < n → 0 ≤ b → b < n → T2 (9 * a + b) = tb b a) := by
  have hn := hR.1
  have hl := okN_lo hn
  show m_Sem X 33 (0, [some (.inr (.inl 0))], [], mW (n, T, (hc, hs, hp), t, x) M, 0, 0) _
  refine m_run 4 (ps' := (8, [some (.inr (.inl 0))], [.inr (.inl 2), .inr (.inl 4)], mW (n, T, (hc, hs, hp), t, x) M, 0, 0)) rfl ?_
  refine m_callVU [.inr (.inl 2)] [] rfl rfl ⟨_, rfl, rfl⟩ rfl rfl (k_keep ⟨by omega, by omega⟩ (by omega) (by omega)) ?_
  show m_Sem X 33 (11, [some (.inr (.inl 0))], [], mW (n, T, (keepH n T (hc, hs, hp)), t, x) M, 0, 0) _
  refine m_run 2 (ps' := (15, [some (.inr (.inl 0))], [.inr (.inl 2)], mW (n, T, (keepH n T (hc, hs, hp)), t, x) M, 0, 0)) rfl ?_
  refine m_callV [] [] rfl rfl ⟨_, rfl, rfl⟩ rfl rfl (k_cs hR hT) (fun r_ w_ hq_ _ => ?_)
  obtain ⟨rfl, T2, rfl, hT2, hF2⟩ := hq_
  show m_Sem X 33 (18, [some (.inr (.inl 0))], [.inl (exC n tb)], mW (n, T2, (keepH n T (hc, hs, hp)), t, x) M, 0, 0) _
  exact m_ret1 rfl (Or.inl rfl) rfl (⟨rfl, T2, rfl, hT2, hF2⟩)
def facS (n : Int) (tb : Int → Int → Int) (r : Bool) (a b : Int) : Int := fstF (fun i => decide (sideS tb r a i = b)) n.toNat 0
def byS (n : Int) (tb : Int → Int → Int) (a b w : Int) : Int :=
  if inN n a = false then -1000001 else if inN n b = false then -1000001
  else if w = 0 then sumS n a b else if w = 1 then difS n a b else if w = 2 then tb a b else if w = 3 then onfS (facS n tb true a b) else if w = 4 then onfS (facS n tb false a b) else -1000001
theorem facS_in {n : Int} {tb : Int → Int → Int} {r : Bool} {a b : Int} (hn : okN n) : -1 ≤ facS n tb r a b ∧ facS n tb r a b < 9 := by
  have hl := okN_lo hn
  rcases fst_in (p := fun i => decide (sideS tb r a i = b)) n.toNat 0 with h | ⟨h1, h2, -⟩
  · unfold facS; rw [h]; omega
  · unfold facS; omega
set_option maxHeartbeats 4000000 in
set_option maxRecDepth 100000 in
theorem k_by {X : Nat × Nat × (Nat → Int32)} {n : Int} {T : Int → Int} {h : HS} {t : TS} {x : XS} {M : MS} {tb : Int → Int → Int} {a b wh : Int} (ha : m_R a) (hb : m_R b) (hw : m_R wh) (hR : repC n T tb) : m_Run X 34 [.inr (.inl 0), .inl a, .inl b, .inl wh] (mW (n, T, h, t, x) M) (m_V (byS n tb a b wh) (mW (n, T, h, t, x) M)) := by
  have hn := hR.1
  have hl := okN_lo hn
  obtain ⟨hw1, hw2⟩ := id hw
  show m_Sem X 34 (0, [some (.inr (.inl 0)), some (.inl a), some (.inl b), some (.inl wh)], [], mW (n, T, h, t, x) M, 0, 0) _
  refine m_run 3 (ps' := (5, [some (.inr (.inl 0)), some (.inl a), some (.inl b), some (.inl wh)], [.inl a, .inr (.inl 2)], mW (n, T, h, t, x) M, 0, 0)) rfl ?_
  refine m_callVF [.inl a] [] rfl rfl ⟨_, rfl, rfl⟩ rfl rfl (k_has (e := a) hn ha) ?_
  show m_Sem X 34 (8, [some (.inr (.inl 0)), some (.inl a), some (.inl b), some (.inl wh)], [.inl (bI (inN n a))], mW (n, T, h, t, x) M, 0, 0) _
  refine m_if rfl (bI_R (inN n a)) (fun (zc1 : (bI (inN n a)) = 0) => ?_) (fun (zc1 : ¬ (bI (inN n a)) = 0) => ?_)
  · replace zc1 : (inN n a) = false := bI_e0.mp zc1
    refine m_run 1 (ps' := (24, [some (.inr (.inl 0)), some (.inl a), some (.inl b), some (.inl wh)], [.inl (-1000001)], mW (n, T, h, t, x) M, 0, 0)) rfl ?_
    exact m_ret1 rfl (Or.inl rfl) rfl (m_Vi (by unfold byS; simp [*] <;> omega))
  · replace zc1 : (inN n a) = true := bI_n0.mp zc1
    have zi1 := inN_i.mp zc1
    refine m_run 3 (ps' := (16, [some (.inr (.inl 0)), some (.inl a), some (.inl b), some (.inl wh)], [.inl b, .inr (.inl 2)], mW (n, T, h, t, x) M, 0, 0)) rfl ?_
    refine m_callVF [.inl b] [] rfl rfl ⟨_, rfl, rfl⟩ rfl rfl (k_has (e := b) hn hb) ?_
    show m_Sem X 34 (19, [some (.inr (.inl 0)), some (.inl a), some (.inl b), some (.inl wh)], [.inl (bI (inN n b))], mW (n, T, h, t, x) M, 0, 0) _
    refine m_if rfl (bI_R (inN n b)) (fun (zc2 : ¬ (bI (inN n b)) = 0) => ?_) (fun (zc2 : ¬ ¬ (bI (inN n b)) = 0) => ?_)
    · replace zc2 : (inN n b) = true := bI_n0.mp zc2
      have zi2 := inN_i.mp zc2
      refine m_run 1 (ps' := (26, [some (.inr (.inl 0)), some (.inl a), some (.inl b), some (.inl wh)], [.inl wh], mW (n, T, h, t, x) M, 0, 0)) rfl ?_
      rcases (show wh < 0 ∨ wh = 0 ∨ wh = 1 ∨ wh = 2 ∨ wh = 3 ∨ wh = 4 ∨ 4 < wh by omega) with zs1 | rfl | rfl | rfl | rfl | rfl | zs1
      · refine m_tabOut (tgt := 118) rfl ⟨by omega, by omega⟩ (Or.inl (by omega)) rfl ?_
        refine m_run 1 (ps' := (120, [some (.inr (.inl 0)), some (.inl a), some (.inl b), some (.inl wh)], [.inl (-1000001)], mW (n, T, h, t, x) M, 0, 0)) rfl ?_
        exact m_ret1 rfl (Or.inl rfl) rfl (m_Vi (by unfold byS; simp [*] <;> omega))
      · refine m_tabIn (tgt := 60) rfl ⟨by decide, by decide⟩ (by decide) (by decide) rfl rfl ?_
        refine m_run 4 (ps' := (66, [some (.inr (.inl 0)), some (.inl a), some (.inl b), some (.inl 0)], [.inl b, .inl a, .inr (.inl 2)], mW (n, T, h, t, x) M, 0, 0)) rfl ?_
        refine m_callVF [.inl a, .inl b] [] rfl rfl ⟨_, rfl, rfl⟩ rfl rfl (k_sum (a := a) (b := b) hn (by omega) (by omega) (by omega) (by omega)) ?_
        have zt1 := sumS_in (n := n) (a := a) (b := b) hn (by omega) (by omega) (by omega) (by omega)
        show m_Sem X 34 (69, [some (.inr (.inl 0)), some (.inl a), some (.inl b), some (.inl 0)], [.inl (sumS n a b)], mW (n, T, h, t, x) M, 0, 0) _
        exact m_ret1 rfl (Or.inl rfl) rfl (m_Vi (by unfold byS; simp [*] <;> omega))
      · refine m_tabIn (tgt := 70) rfl ⟨by decide, by decide⟩ (by decide) (by decide) rfl rfl ?_
        refine m_run 4 (ps' := (76, [some (.inr (.inl 0)), some (.inl a), some (.inl b), some (.inl 1)], [.inl b, .inl a, .inr (.inl 2)], mW (n, T, h, t, x) M, 0, 0)) rfl ?_
        refine m_callVF [.inl a, .inl b] [] rfl rfl ⟨_, rfl, rfl⟩ rfl rfl (k_dif (a := a) (b := b) hn (by omega) (by omega) (by omega) (by omega)) ?_
        have zt1 := difS_in (n := n) (a := a) (b := b) hn (by omega) (by omega) (by omega) (by omega)
        show m_Sem X 34 (79, [some (.inr (.inl 0)), some (.inl a), some (.inl b), some (.inl 1)], [.inl (difS n a b)], mW (n, T, h, t, x) M, 0, 0) _
        exact m_ret1 rfl (Or.inl rfl) rfl (m_Vi (by unfold byS; simp [*] <;> omega))
      · refine m_tabIn (tgt := 80) rfl ⟨by decide, by decide⟩ (by decide) (by decide) rfl rfl ?_
        refine m_run 4 (ps' := (86, [some (.inr (.inl 0)), some (.inl a), some (.inl b), some (.inl 2)], [.inl b, .inl a, .inr (.inl 2)], mW (n, T, h, t, x) M, 0, 0)) rfl ?_
        refine m_callVF [.inl a, .inl b] [] rfl rfl ⟨_, rfl, rfl⟩ rfl rfl (k_times (a := a) (b := b) hR (by omega) (by omega) (by omega) (by omega)) ?_
        have zt1 := (hR.2 a b (by omega) (by omega) (by omega) (by omega)).2
        show m_Sem X 34 (89, [some (.inr (.inl 0)), some (.inl a), some (.inl b), some (.inl 2)], [.inl (tb a b)], mW (n, T, h, t, x) M, 0, 0) _
        exact m_ret1 rfl (Or.inl rfl) rfl (m_Vi (by unfold byS; simp [*] <;> omega))
      · refine m_tabIn (tgt := 90) rfl ⟨by decide, by decide⟩ (by decide) (by decide) rfl rfl ?_
        refine m_run 5 (ps' := (97, [some (.inr (.inl 0)), some (.inl a), some (.inl b), some (.inl 3)], [.inl 1, .inl b, .inl a, .inr (.inl 2)], mW (n, T, h, t, x) M, 0, 0)) rfl ?_
        refine m_callVF [.inl a, .inl b, .inl 1] [] rfl rfl ⟨_, rfl, rfl⟩ rfl rfl (k_low (r := true) hR (by omega) (by omega) (by omega) (by omega)) ?_
        have zt1 := facS_in (tb := tb) (r := true) (a := a) (b := b) hn
        show m_Sem X 34 (100, [some (.inr (.inl 0)), some (.inl a), some (.inl b), some (.inl 3)], [.inl (facS n tb true a b)], mW (n, T, h, t, x) M, 0, 0) _
        refine m_callSF [.inl (facS n tb true a b)] [] rfl rfl rfl (k_onf (e := (facS n tb true a b)) ⟨by omega, by omega⟩) ?_
        show m_Sem X 34 (103, [some (.inr (.inl 0)), some (.inl a), some (.inl b), some (.inl 3)], [.inl (onfS (facS n tb true a b))], mW (n, T, h, t, x) M, 0, 0) _
        exact m_ret1 rfl (Or.inl rfl) rfl (m_Vi (by unfold byS; simp [*] <;> omega))
      · refine m_tabIn (tgt := 104) rfl ⟨by decide, by decide⟩ (by decide) (by decide) rfl rfl ?_
        refine m_run 5 (ps' := (111, [some (.inr (.inl 0)), some (.inl a), some (.inl b), some (.inl 4)], [.inl 0, .inl b, .inl a, .inr (.inl 2)], mW (n, T, h, t, x) M, 0, 0)) rfl ?_
        refine m_callVF [.inl a, .inl b, .inl 0] [] rfl rfl ⟨_, rfl, rfl⟩ rfl rfl (k_low (r := false) hR (by omega) (by omega) (by omega) (by omega)) ?_
        have zt1 := facS_in (tb := tb) (r := false) (a := a) (b := b) hn
        show m_Sem X 34 (114, [some (.inr (.inl 0)), some (.inl a), some (.inl b), some (.inl 4)], [.inl (facS n tb false a b)], mW (n, T, h, t, x) M, 0, 0) _
        refine m_callSF [.inl (facS n tb false a b)] [] rfl rfl rfl (k_onf (e := (facS n tb false a b)) ⟨by omega, by omega⟩) ?_
        show m_Sem X 34 (117, [some (.inr (.inl 0)), some (.inl a), some (.inl b), some (.inl 4)], [.inl (onfS (facS n tb false a b))], mW (n, T, h, t, x) M, 0, 0) _
        exact m_ret1 rfl (Or.inl rfl) rfl (m_Vi (by unfold byS; simp [*] <;> omega))
      · refine m_tabOut (tgt := 118) rfl ⟨by omega, by omega⟩ (Or.inr (by omega)) rfl ?_
        refine m_run 1 (ps' := (120, [some (.inr (.inl 0)), some (.inl a), some (.inl b), some (.inl wh)], [.inl (-1000001)], mW (n, T, h, t, x) M, 0, 0)) rfl ?_
        exact m_ret1 rfl (Or.inl rfl) rfl (m_Vi (by unfold byS; simp [*] <;> omega))
    · replace zc2 : (inN n b) = false := bI_e0.mp (Decidable.not_not.mp zc2)
      refine m_run 1 (ps' := (24, [some (.inr (.inl 0)), some (.inl a), some (.inl b), some (.inl wh)], [.inl (-1000001)], mW (n, T, h, t, x) M, 0, 0)) rfl ?_
      exact m_ret1 rfl (Or.inl rfl) rfl (m_Vi (by unfold byS; simp [*] <;> omega))
def lawS (n : Int) (tb : Int → Int → Int) (l w : Int) : Int :=
  if l < 0 then -1000001 else if 8 ≤ l then -1000001 else if w < 0 then -1000001 else if 3 < w then -1000001
  else if w = 0 then (if wcode (witS n tb l) = -1 then 1 else 0) else if wcode (witS n tb l) = -1 then -1000004 else welS (wcode (witS n tb l)) w
set_option maxHeartbeats 4000000 in
set_option maxRecDepth 100000 in
theorem k_law {X : Nat × Nat × (Nat → Int32)} {n : Int} {T : Int → Int} {h : HS} {t : TS} {x : XS} {M : MS} {tb : Int → Int → Int} {l wh : Int} (hl9 : m_R l) (hw : m_R wh) (hR : repC n T tb) : m_Run X 35 [.inr (.inl 0), .inl l, .inl wh] (mW (n, T, h, t, x) M) (m_V (lawS n tb l wh) (mW (n, T, h, t, x) M)) := by
  have hn := hR.1
  have hl := okN_lo hn
  show m_Sem X 35 (0, [some (.inr (.inl 0)), some (.inl l), some (.inl wh), none], [], mW (n, T, h, t, x) M, 0, 0) _
  refine m_run 1 (ps' := (1, [some (.inr (.inl 0)), some (.inl l), some (.inl wh), none], [.inl l], mW (n, T, h, t, x) M, 0, 0)) rfl ?_
  refine m_if rfl hl9 (fun (zc1 : l < 0) => ?_) (fun (zc1 : ¬ l < 0) => ?_)
  · refine m_run 1 (ps' := (21, [some (.inr (.inl 0)), some (.inl l), some (.inl wh), none], [.inl (-1000001)], mW (n, T, h, t, x) M, 0, 0)) rfl ?_
    exact m_ret1 rfl (Or.inl rfl) rfl (m_Vi (by unfold lawS; (repeat' split) <;> first | rfl | (exfalso; omega) | omega | simp_all))
  · refine m_run 2 (ps' := (7, [some (.inr (.inl 0)), some (.inl l), some (.inl wh), none], [.inl 8, .inl l], mW (n, T, h, t, x) M, 0, 0)) rfl ?_
    refine m_icmp rfl hl9 ⟨by omega, by omega⟩ (fun (zc2 : 8 ≤ l) => ?_) (fun (zc2 : ¬ 8 ≤ l) => ?_)
    · refine m_run 1 (ps' := (21, [some (.inr (.inl 0)), some (.inl l), some (.inl wh), none], [.inl (-1000001)], mW (n, T, h, t, x) M, 0, 0)) rfl ?_
      exact m_ret1 rfl (Or.inl rfl) rfl (m_Vi (by unfold lawS; (repeat' split) <;> first | rfl | (exfalso; omega) | omega | simp_all))
    · refine m_run 1 (ps' := (11, [some (.inr (.inl 0)), some (.inl l), some (.inl wh), none], [.inl wh], mW (n, T, h, t, x) M, 0, 0)) rfl ?_
      refine m_if rfl hw (fun (zc3 : wh < 0) => ?_) (fun (zc3 : ¬ wh < 0) => ?_)
      · refine m_run 1 (ps' := (21, [some (.inr (.inl 0)), some (.inl l), some (.inl wh), none], [.inl (-1000001)], mW (n, T, h, t, x) M, 0, 0)) rfl ?_
        exact m_ret1 rfl (Or.inl rfl) rfl (m_Vi (by unfold lawS; (repeat' split) <;> first | rfl | (exfalso; omega) | omega | simp_all))
      · refine m_run 2 (ps' := (16, [some (.inr (.inl 0)), some (.inl l), some (.inl wh), none], [.inl 3, .inl wh], mW (n, T, h, t, x) M, 0, 0)) rfl ?_
        refine m_icmp rfl hw ⟨by omega, by omega⟩ (fun (zc4 : wh ≤ 3) => ?_) (fun (zc4 : ¬ wh ≤ 3) => ?_)
        · refine m_run 3 (ps' := (27, [some (.inr (.inl 0)), some (.inl l), some (.inl wh), none], [.inl l, .inr (.inl 2)], mW (n, T, h, t, x) M, 0, 0)) rfl ?_
          refine m_callSF [.inr (.inl 2), .inl l] [] rfl rfl rfl (k_wit (law := l) hR (by omega) (by omega)) ?_
          have zt1 := wcode_in (tb := tb) (law := l) hn
          show m_Sem X 35 (30, [some (.inr (.inl 0)), some (.inl l), some (.inl wh), none], [.inl (wcode (witS n tb l))], mW (n, T, h, t, x) M, 0, 0) _
          refine m_run 2 (ps' := (32, [some (.inr (.inl 0)), some (.inl l), some (.inl wh), some (.inl (wcode (witS n tb l)))], [.inl wh], mW (n, T, h, t, x) M, 0, 0)) rfl ?_
          refine m_if rfl hw (fun (zc5 : ¬ wh = 0) => ?_) (fun (zc5 : ¬ ¬ wh = 0) => ?_)
          · refine m_run 2 (ps' := (48, [some (.inr (.inl 0)), some (.inl l), some (.inl wh), some (.inl (wcode (witS n tb l)))], [.inl (-1), .inl (wcode (witS n tb l))], mW (n, T, h, t, x) M, 0, 0)) rfl ?_
            refine m_icmp rfl ⟨by omega, by omega⟩ ⟨by omega, by omega⟩ (fun (zc6 : ¬ (wcode (witS n tb l)) = (-1)) => ?_) (fun (zc6 : ¬ ¬ (wcode (witS n tb l)) = (-1)) => ?_)
            · refine m_run 2 (ps' := (58, [some (.inr (.inl 0)), some (.inl l), some (.inl wh), some (.inl (wcode (witS n tb l)))], [.inl wh, .inl (wcode (witS n tb l))], mW (n, T, h, t, x) M, 0, 0)) rfl ?_
              refine m_callSF [.inl (wcode (witS n tb l)), .inl wh] [] rfl rfl rfl (k_wel (w0 := (wcode (witS n tb l))) (j := wh) (by omega) (by omega) ⟨by omega, by omega⟩) ?_
              show m_Sem X 35 (61, [some (.inr (.inl 0)), some (.inl l), some (.inl wh), some (.inl (wcode (witS n tb l)))], [.inl (welS (wcode (witS n tb l)) wh)], mW (n, T, h, t, x) M, 0, 0) _
              exact m_ret1 rfl (Or.inl rfl) rfl (m_Vi (by unfold lawS; (repeat' split) <;> first | rfl | (exfalso; omega) | omega | simp_all))
            · replace zc6 : (wcode (witS n tb l)) = (-1) := Decidable.not_not.mp zc6
              refine m_run 2 (ps' := (61, [some (.inr (.inl 0)), some (.inl l), some (.inl wh), some (.inl (wcode (witS n tb l)))], [.inl (-1000004)], mW (n, T, h, t, x) M, 0, 0)) rfl ?_
              exact m_ret1 rfl (Or.inl rfl) rfl (m_Vi (by unfold lawS; (repeat' split) <;> first | rfl | (exfalso; omega) | omega | simp_all))
          · replace zc5 : wh = 0 := Decidable.not_not.mp zc5
            refine m_run 2 (ps' := (37, [some (.inr (.inl 0)), some (.inl l), some (.inl wh), some (.inl (wcode (witS n tb l)))], [.inl (-1), .inl (wcode (witS n tb l))], mW (n, T, h, t, x) M, 0, 0)) rfl ?_
            refine m_icmp rfl ⟨by omega, by omega⟩ ⟨by omega, by omega⟩ (fun (zc6 : ¬ (wcode (witS n tb l)) = (-1)) => ?_) (fun (zc6 : ¬ ¬ (wcode (witS n tb l)) = (-1)) => ?_)
            · refine m_run 1 (ps' := (45, [some (.inr (.inl 0)), some (.inl l), some (.inl wh), some (.inl (wcode (witS n tb l)))], [.inl 0], mW (n, T, h, t, x) M, 0, 0)) rfl ?_
              exact m_ret1 rfl (Or.inl rfl) rfl (m_Vi (by unfold lawS; (repeat' split) <;> first | rfl | (exfalso; omega) | omega | simp_all))
            · replace zc6 : (wcode (witS n tb l)) = (-1) := Decidable.not_not.mp zc6
              refine m_run 2 (ps' := (45, [some (.inr (.inl 0)), some (.inl l), some (.inl wh), some (.inl (wcode (witS n tb l)))], [.inl 1], mW (n, T, h, t, x) M, 0, 0)) rfl ?_
              exact m_ret1 rfl (Or.inl rfl) rfl (m_Vi (by unfold lawS; (repeat' split) <;> first | rfl | (exfalso; omega) | omega | simp_all))
        · refine m_run 1 (ps' := (21, [some (.inr (.inl 0)), some (.inl l), some (.inl wh), none], [.inl (-1000001)], mW (n, T, h, t, x) M, 0, 0)) rfl ?_
          exact m_ret1 rfl (Or.inl rfl) rfl (m_Vi (by unfold lawS; (repeat' split) <;> first | rfl | (exfalso; omega) | omega | simp_all))
def elsK (p : Int → Bool) : Nat → Int → Nat → Int
  | 0, _, s => (s : Int)
  | k + 1, i, s => elsK p k (i + 1) (bif p i then s ||| 2 ^ i.toNat else s)
theorem els_end (p : Int → Bool) (n : Int) (s : Nat) : elsK p (n - n).toNat n s = (s : Int) := by rw [nat_end]; rfl
theorem els_step {p : Int → Bool} {n i : Int} {s : Nat} (h : i < n) : elsK p (n - i).toNat i s = elsK p (n - (i + 1)).toNat (i + 1) (bif p i then s ||| 2 ^ i.toNat else s) := by rw [nat_step h]; rfl
def elmS (n : Int) (tb : Int → Int → Int) (w : Int) : Int := if w < 0 then -1000001 else if 2 < w then -1000001 else elsK (isInS n tb w) n.toNat 0 0
set_option maxHeartbeats 4000000 in
set_option maxRecDepth 100000 in
theorem l_els {X : Nat × Nat × (Nat → Int32)} {n : Int} {T : Int → Int} {h : HS} {t : TS} {x : XS} {M : MS} {tb : Int → Int → Int} {wh v : Int} (hw1 : 0 ≤ wh) (hw2 : wh < 3) (hR : repC n T tb) : ∀ iv : Int, 0 ≤ iv → iv ≤ n → ∀ (s : Nat) (hs : s < 512) (hu : elsK (isInS n tb wh) (n - iv).toNat iv s = v), m_Sem X 36 (16, [some (.inr (.inl 0)), some (.inl wh), some (.inl (s : Int)), some (.inl iv)], [], mW (n, T, h, t, x) M, 0, 0) (m_V v (mW (n, T, h, t, x) M)) := by
  have hn := hR.1
  have hl := okN_lo hn
  refine m_down 0 n ?_ ?_
  · intro s hs hu
    show m_Sem X 36 (16, [some (.inr (.inl 0)), some (.inl wh), some (.inl (s : Int)), some (.inl n)], [], mW (n, T, h, t, x) M, 0, 0) _
    refine m_run 4 (ps' := (24, [some (.inr (.inl 0)), some (.inl wh), some (.inl (s : Int)), some (.inl n)], [.inl n, .inl n], mW (n, T, h, t, x) M, 0, 0)) rfl ?_
    refine m_icmp rfl ⟨by omega, by omega⟩ ⟨by omega, by omega⟩ (fun (zc1 : n ≤ n) => ?_) (fun (zc1 : ¬ n ≤ n) => absurd zc1 (not_not_intro (by omega)))
    refine m_run 1 (ps' := (52, [some (.inr (.inl 0)), some (.inl wh), some (.inl (s : Int)), some (.inl n)], [.inl (s : Int)], mW (n, T, h, t, x) M, 0, 0)) rfl ?_
    exact m_ret1 rfl (Or.inl rfl) rfl (m_Vi (by rw [els_end] at hu; exact hu))
  · intro iv hi1 hi2 ih s hs hu
    rw [els_step hi2] at hu
    refine m_run 4 (ps' := (24, [some (.inr (.inl 0)), some (.inl wh), some (.inl (s : Int)), some (.inl iv)], [.inl n, .inl iv], mW (n, T, h, t, x) M, 0, 0)) rfl ?_
    refine m_icmp rfl ⟨by omega, by omega⟩ ⟨by omega, by omega⟩ (fun (zc1 : n ≤ iv) => absurd zc1 (by omega)) (fun (zc1 : ¬ n ≤ iv) => ?_)
    refine m_run 4 (ps' := (33, [some (.inr (.inl 0)), some (.inl wh), some (.inl (s : Int)), some (.inl iv)], [.inl iv, .inl wh, .inr (.inl 2)], mW (n, T, h, t, x) M, 0, 0)) rfl ?_
    refine m_callSF [.inr (.inl 2), .inl wh, .inl iv] [] rfl rfl rfl (k_isin (j := wh) (a := iv) hR (by omega) (by omega) (by omega) (by omega)) ?_
    show m_Sem X 36 (36, [some (.inr (.inl 0)), some (.inl wh), some (.inl (s : Int)), some (.inl iv)], [.inl (bI (isInS n tb wh iv))], mW (n, T, h, t, x) M, 0, 0) _
    refine m_if rfl (bI_R (isInS n tb wh iv)) (fun (zc2 : (bI (isInS n tb wh iv)) = 0) => ?_) (fun (zc2 : ¬ (bI (isInS n tb wh iv)) = 0) => ?_)
    · replace zc2 : (isInS n tb wh iv) = false := bI_e0.mp zc2
      refine m_run 2 (ps' := (16, [some (.inr (.inl 0)), some (.inl wh), some (.inl (s : Int)), some (.inl (iv + 1))], [], mW (n, T, h, t, x) M, 0, 0)) rfl ?_
      refine m_weak [some (.inr (.inl 0)), some (.inl wh), some (.inl (s : Int)), some (.inl (iv + 1))] ⟨rfl, ⟨rfl, ⟨rfl, ⟨rfl, trivial⟩⟩⟩⟩ ?_
      rw [zc2] at hu
      exact ih _ hs hu
    · replace zc2 : (isInS n tb wh iv) = true := bI_n0.mp zc2
      refine m_run 8 (ps' := (16, [some (.inr (.inl 0)), some (.inl wh), some (.inl ((Int32.ofInt (s : Int) ||| Int32.ofInt ((Int32.ofInt 1 <<< (Int32.ofInt iv &&& 31)).toInt)).toInt)), some (.inl (iv + 1))], [], mW (n, T, h, t, x) M, 0, 0)) rfl ?_
      refine m_weak [some (.inr (.inl 0)), some (.inl wh), some (.inl ((Int32.ofInt (s : Int) ||| Int32.ofInt ((Int32.ofInt 1 <<< (Int32.ofInt iv &&& 31)).toInt)).toInt)), some (.inl (iv + 1))] ⟨rfl, ⟨rfl, ⟨rfl, ⟨rfl, trivial⟩⟩⟩⟩ ?_
      rw [zc2] at hu
      have hw := pow9 hi1 (by omega)
      rw [m_shl1 hi1 (by omega), m_or (by omega) (by omega)]
      exact ih _ (or9 hs hw) hu
set_option maxHeartbeats 4000000 in
set_option maxRecDepth 100000 in
theorem k_els {X : Nat × Nat × (Nat → Int32)} {n : Int} {T : Int → Int} {h : HS} {t : TS} {x : XS} {M : MS} {tb : Int → Int → Int} {wh : Int} (hw : m_R wh) (hR : repC n T tb) : m_Run X 36 [.inr (.inl 0), .inl wh] (mW (n, T, h, t, x) M) (m_V (elmS n tb wh) (mW (n, T, h, t, x) M)) := by
  have hn := hR.1
  have hl := okN_lo hn
  show m_Sem X 36 (0, [some (.inr (.inl 0)), some (.inl wh), none, none], [], mW (n, T, h, t, x) M, 0, 0) _
  refine m_run 1 (ps' := (1, [some (.inr (.inl 0)), some (.inl wh), none, none], [.inl wh], mW (n, T, h, t, x) M, 0, 0)) rfl ?_
  refine m_if rfl hw (fun (zc1 : wh < 0) => ?_) (fun (zc1 : ¬ wh < 0) => ?_)
  · refine m_run 1 (ps' := (11, [some (.inr (.inl 0)), some (.inl wh), none, none], [.inl (-1000001)], mW (n, T, h, t, x) M, 0, 0)) rfl ?_
    exact m_ret1 rfl (Or.inl rfl) rfl (m_Vi (by unfold elmS; (repeat' split) <;> first | rfl | (exfalso; omega) | omega | simp_all))
  · refine m_run 2 (ps' := (6, [some (.inr (.inl 0)), some (.inl wh), none, none], [.inl 2, .inl wh], mW (n, T, h, t, x) M, 0, 0)) rfl ?_
    refine m_icmp rfl hw ⟨by omega, by omega⟩ (fun (zc2 : wh ≤ 2) => ?_) (fun (zc2 : ¬ wh ≤ 2) => ?_)
    · refine m_run 4 (ps' := (16, [some (.inr (.inl 0)), some (.inl wh), some (.inl 0), some (.inl 0)], [], mW (n, T, h, t, x) M, 0, 0)) rfl ?_
      refine m_weak [some (.inr (.inl 0)), some (.inl wh), some (.inl 0), some (.inl 0)] ⟨rfl, ⟨rfl, ⟨rfl, ⟨rfl, trivial⟩⟩⟩⟩ ?_
      have e9 : elmS n tb wh = elsK (isInS n tb wh) n.toNat 0 0 := by unfold elmS; rw [if_neg (by omega), if_neg (by omega)]
      rw [e9]
      exact l_els (by omega) (by omega) hR 0 (by omega) (by omega) 0 (by omega) (by rw [z_sub])
    · refine m_run 1 (ps' := (11, [some (.inr (.inl 0)), some (.inl wh), none, none], [.inl (-1000001)], mW (n, T, h, t, x) M, 0, 0)) rfl ?_
      exact m_ret1 rfl (Or.inl rfl) rfl (m_Vi (by unfold elmS; (repeat' split) <;> first | rfl | (exfalso; omega) | omega | simp_all))
