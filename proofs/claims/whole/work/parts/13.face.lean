def szS (n : Int) : Bool := decide (n = 2 ∨ n = 3 ∨ n = 4 ∨ n = 5 ∨ n = 7 ∨ n = 9)
theorem szS_i {n : Int} : szS n = true ↔ okN n := by unfold szS okN; exact decide_eq_true_iff
set_option maxHeartbeats 4000000 in
set_option maxRecDepth 100000 in
theorem k_sz {X : Nat × Nat × (Nat → Int32)} {n : Int} {T : Int → Int} {h : HS} {t : TS} {x : XS} {M : MS} {e : Int} (he : m_R e) : m_Run X 81 [.inl e] (mW (n, T, h, t, x) M) (m_V (bI (szS e)) (mW (n, T, h, t, x) M)) := by
  show m_Sem X 81 (0, [some (.inl e)], [], mW (n, T, h, t, x) M, 0, 0) _
  refine m_run 2 (ps' := (2, [some (.inl e)], [.inl 2, .inl e], mW (n, T, h, t, x) M, 0, 0)) rfl ?_
  refine m_icmp rfl he ⟨by omega, by omega⟩ (fun (zc1 : e = 2) => ?_) (fun (zc1 : ¬ e = 2) => ?_)
  · refine m_run 2 (ps' := (37, [some (.inl e)], [.inl 1], mW (n, T, h, t, x) M, 0, 0)) rfl ?_
    exact m_ret1 rfl (Or.inr ⟨rfl, Or.inr rfl⟩) rfl (m_Vb (b1 (decide_eq_true (by omega))))
  · refine m_run 2 (ps' := (7, [some (.inl e)], [.inl 3, .inl e], mW (n, T, h, t, x) M, 0, 0)) rfl ?_
    refine m_icmp rfl he ⟨by omega, by omega⟩ (fun (zc2 : e = 3) => ?_) (fun (zc2 : ¬ e = 3) => ?_)
    · refine m_run 2 (ps' := (37, [some (.inl e)], [.inl 1], mW (n, T, h, t, x) M, 0, 0)) rfl ?_
      exact m_ret1 rfl (Or.inr ⟨rfl, Or.inr rfl⟩) rfl (m_Vb (b1 (decide_eq_true (by omega))))
    · refine m_run 2 (ps' := (12, [some (.inl e)], [.inl 4, .inl e], mW (n, T, h, t, x) M, 0, 0)) rfl ?_
      refine m_icmp rfl he ⟨by omega, by omega⟩ (fun (zc3 : e = 4) => ?_) (fun (zc3 : ¬ e = 4) => ?_)
      · refine m_run 2 (ps' := (37, [some (.inl e)], [.inl 1], mW (n, T, h, t, x) M, 0, 0)) rfl ?_
        exact m_ret1 rfl (Or.inr ⟨rfl, Or.inr rfl⟩) rfl (m_Vb (b1 (decide_eq_true (by omega))))
      · refine m_run 2 (ps' := (17, [some (.inl e)], [.inl 5, .inl e], mW (n, T, h, t, x) M, 0, 0)) rfl ?_
        refine m_icmp rfl he ⟨by omega, by omega⟩ (fun (zc4 : e = 5) => ?_) (fun (zc4 : ¬ e = 5) => ?_)
        · refine m_run 2 (ps' := (37, [some (.inl e)], [.inl 1], mW (n, T, h, t, x) M, 0, 0)) rfl ?_
          exact m_ret1 rfl (Or.inr ⟨rfl, Or.inr rfl⟩) rfl (m_Vb (b1 (decide_eq_true (by omega))))
        · refine m_run 2 (ps' := (23, [some (.inl e)], [.inl 7, .inl e], mW (n, T, h, t, x) M, 0, 0)) rfl ?_
          refine m_icmp rfl he ⟨by omega, by omega⟩ (fun (zc5 : e = 7) => ?_) (fun (zc5 : ¬ e = 7) => ?_)
          · refine m_run 2 (ps' := (37, [some (.inl e)], [.inl 1], mW (n, T, h, t, x) M, 0, 0)) rfl ?_
            exact m_ret1 rfl (Or.inr ⟨rfl, Or.inr rfl⟩) rfl (m_Vb (b1 (decide_eq_true (by omega))))
          · refine m_run 2 (ps' := (29, [some (.inl e)], [.inl 9, .inl e], mW (n, T, h, t, x) M, 0, 0)) rfl ?_
            refine m_icmp rfl he ⟨by omega, by omega⟩ (fun (zc6 : ¬ e = 9) => ?_) (fun (zc6 : ¬ ¬ e = 9) => ?_)
            · refine m_run 1 (ps' := (37, [some (.inl e)], [.inl 0], mW (n, T, h, t, x) M, 0, 0)) rfl ?_
              exact m_ret1 rfl (Or.inr ⟨rfl, Or.inl rfl⟩) rfl (m_Vb (b0 (decide_eq_false (by omega))))
            · replace zc6 : e = 9 := Decidable.not_not.mp zc6
              refine m_run 2 (ps' := (37, [some (.inl e)], [.inl 1], mW (n, T, h, t, x) M, 0, 0)) rfl ?_
              exact m_ret1 rfl (Or.inr ⟨rfl, Or.inr rfl⟩) rfl (m_Vb (b1 (decide_eq_true (by omega))))
def onfS (v : Int) : Int := if v = -1 then -1000004 else v
set_option maxHeartbeats 4000000 in
set_option maxRecDepth 100000 in
theorem k_onf {X : Nat × Nat × (Nat → Int32)} {n : Int} {T : Int → Int} {h : HS} {t : TS} {x : XS} {M : MS} {e : Int} (he : m_R e) : m_Run X 83 [.inl e] (mW (n, T, h, t, x) M) (m_V (onfS e) (mW (n, T, h, t, x) M)) := by
  show m_Sem X 83 (0, [some (.inl e)], [], mW (n, T, h, t, x) M, 0, 0) _
  refine m_run 2 (ps' := (2, [some (.inl e)], [.inl (-1), .inl e], mW (n, T, h, t, x) M, 0, 0)) rfl ?_
  refine m_icmp rfl he ⟨by omega, by omega⟩ (fun (zc1 : ¬ e = (-1)) => ?_) (fun (zc1 : ¬ ¬ e = (-1)) => ?_)
  · refine m_run 1 (ps' := (11, [some (.inl e)], [.inl e], mW (n, T, h, t, x) M, 0, 0)) rfl ?_
    exact m_ret1 rfl (Or.inl rfl) rfl (m_Vi (by unfold onfS; (repeat' split) <;> first | rfl | (exfalso; omega) | omega | simp_all))
  · replace zc1 : e = (-1) := Decidable.not_not.mp zc1
    refine m_run 2 (ps' := (11, [some (.inl e)], [.inl (-1000004)], mW (n, T, h, t, x) M, 0, 0)) rfl ?_
    exact m_ret1 rfl (Or.inl rfl) rfl (m_Vi (by unfold onfS; (repeat' split) <;> first | rfl | (exfalso; omega) | omega | simp_all))
def ixS (i l : Int) : Bool := decide (0 ≤ i) && decide (i ≤ l)
theorem ixS_i {i l : Int} : ixS i l = true ↔ 0 ≤ i ∧ i ≤ l := by unfold ixS; simp
set_option maxHeartbeats 4000000 in
set_option maxRecDepth 100000 in
theorem k_ix {X : Nat × Nat × (Nat → Int32)} {n : Int} {T : Int → Int} {h : HS} {t : TS} {x : XS} {M : MS} {i l : Int} (hi : m_R i) (hl : m_R l) : m_Run X 82 [.inl i, .inl l] (mW (n, T, h, t, x) M) (m_V (bI (ixS i l)) (mW (n, T, h, t, x) M)) := by
  show m_Sem X 82 (0, [some (.inl i), some (.inl l)], [], mW (n, T, h, t, x) M, 0, 0) _
  refine m_run 1 (ps' := (1, [some (.inl i), some (.inl l)], [.inl i], mW (n, T, h, t, x) M, 0, 0)) rfl ?_
  refine m_if rfl hi (fun (zc1 : i < 0) => ?_) (fun (zc1 : ¬ i < 0) => ?_)
  · refine m_run 1 (ps' := (14, [some (.inl i), some (.inl l)], [.inl 0], mW (n, T, h, t, x) M, 0, 0)) rfl ?_
    exact m_ret1 rfl (Or.inr ⟨rfl, Or.inl rfl⟩) rfl (m_Vb (b0 (by unfold ixS; simp; omega)))
  · refine m_run 2 (ps' := (6, [some (.inl i), some (.inl l)], [.inl l, .inl i], mW (n, T, h, t, x) M, 0, 0)) rfl ?_
    refine m_icmp rfl hi hl (fun (zc2 : l < i) => ?_) (fun (zc2 : ¬ l < i) => ?_)
    · refine m_run 1 (ps' := (14, [some (.inl i), some (.inl l)], [.inl 0], mW (n, T, h, t, x) M, 0, 0)) rfl ?_
      exact m_ret1 rfl (Or.inr ⟨rfl, Or.inl rfl⟩) rfl (m_Vb (b0 (by unfold ixS; simp; omega)))
    · refine m_run 2 (ps' := (14, [some (.inl i), some (.inl l)], [.inl 1], mW (n, T, h, t, x) M, 0, 0)) rfl ?_
      exact m_ret1 rfl (Or.inr ⟨rfl, Or.inr rfl⟩) rfl (m_Vb (b1 (by unfold ixS; simp; omega)))
set_option maxHeartbeats 4000000 in
set_option maxRecDepth 100000 in
theorem k_field {X : Nat × Nat × (Nat → Int32)} {n : Int} {T : Int → Int} {hc : Int} {hs hp : Int → Int} {t : TS} {x : XS} {M : MS} {tb : Int → Int → Int} {e : Int} (he : m_R e) (hok : okN e) (hR : repC n T tb) (hT : okT T) (h1 : 0 ≤ hc) (h2 : hc ≤ 4) : m_Run X 59 [.inr (.inl 0), .inl e] (mW (n, T, (hc, hs, hp), t, x) M) (fun r w => r = some (.inl n) ∧ ∃ T2, w = mW (e, T2, keepH n T (hc, hs, hp), t, x) M ∧ okT T2 ∧ ∀ a b, 0 ≤ a → a < e → 0 ≤ b → b < e → T2 (9 * a + b) = fpS e a b) := by
  have hn := hR.1
  have hl := okN_lo hn
  show m_Sem X 59 (0, [some (.inr (.inl 0)), some (.inl e), none], [], mW (n, T, (hc, hs, hp), t, x) M, 0, 0) _
  refine m_run 1 (ps' := (1, [some (.inr (.inl 0)), some (.inl e), none], [.inl e], mW (n, T, (hc, hs, hp), t, x) M, 0, 0)) rfl ?_
  refine m_callSF [.inl e] [] rfl rfl rfl (k_sz (e := e) he) ?_
  show m_Sem X 59 (4, [some (.inr (.inl 0)), some (.inl e), none], [.inl (bI (szS e))], mW (n, T, (hc, hs, hp), t, x) M, 0, 0) _
  refine m_if rfl (bI_R (szS e)) (fun (zc1 : ¬ (bI (szS e)) = 0) => ?_) (fun (zc1 : ¬ ¬ (bI (szS e)) = 0) => absurd zc1 (not_not_intro (by rw [szS_i.mpr hok]; decide)))
  replace zc1 : (szS e) = true := bI_n0.mp zc1
  refine m_run 4 (ps' := (18, [some (.inr (.inl 0)), some (.inl e), none], [.inr (.inl 2), .inr (.inl 4)], mW (n, T, (hc, hs, hp), t, x) M, 0, 0)) rfl ?_
  refine m_callVU [.inr (.inl 2)] [] rfl rfl ⟨_, rfl, rfl⟩ rfl rfl (k_keep ⟨by omega, by omega⟩ (by omega) (by omega)) ?_
  show m_Sem X 59 (21, [some (.inr (.inl 0)), some (.inl e), none], [], mW (n, T, (keepH n T (hc, hs, hp)), t, x) M, 0, 0) _
  refine m_run 7 (ps' := (34, [some (.inr (.inl 0)), some (.inl e), some (.inl n)], [.inl e, .inr (.inl 2)], mW (n, T, (keepH n T (hc, hs, hp)), t, x) M, 0, 0)) rfl ?_
  refine m_callV [.inl e] [] rfl rfl ⟨_, rfl, rfl⟩ rfl rfl (k_bf hok hT) (fun r_ w_ hq_ _ => ?_)
  obtain ⟨rfl, T2, rfl, hT2, hF2⟩ := hq_
  show m_Sem X 59 (37, [some (.inr (.inl 0)), some (.inl e), some (.inl n)], [], mW (e, T2, (keepH n T (hc, hs, hp)), t, x) M, 0, 0) _
  refine m_run 1 (ps' := (38, [some (.inr (.inl 0)), some (.inl e), some (.inl n)], [.inl n], mW (e, T2, (keepH n T (hc, hs, hp)), t, x) M, 0, 0)) rfl ?_
  exact m_ret1 rfl (Or.inl rfl) rfl (⟨rfl, T2, rfl, hT2, hF2⟩)
set_option maxHeartbeats 4000000 in
set_option maxRecDepth 100000 in
theorem k_fieldN {X : Nat × Nat × (Nat → Int32)} {n : Int} {T : Int → Int} {h : HS} {t : TS} {x : XS} {M : MS} {e : Int} (he : m_R e) (hno : ¬ okN e) : m_Run X 59 [.inr (.inl 0), .inl e] (mW (n, T, h, t, x) M) (m_V (-1000001) (mW (n, T, h, t, x) M)) := by
  show m_Sem X 59 (0, [some (.inr (.inl 0)), some (.inl e), none], [], mW (n, T, h, t, x) M, 0, 0) _
  refine m_run 1 (ps' := (1, [some (.inr (.inl 0)), some (.inl e), none], [.inl e], mW (n, T, h, t, x) M, 0, 0)) rfl ?_
  refine m_callSF [.inl e] [] rfl rfl rfl (k_sz (e := e) he) ?_
  show m_Sem X 59 (4, [some (.inr (.inl 0)), some (.inl e), none], [.inl (bI (szS e))], mW (n, T, h, t, x) M, 0, 0) _
  refine m_if rfl (bI_R (szS e)) (fun (zc1 : ¬ (bI (szS e)) = 0) => absurd zc1 (by rw [Bool.eq_false_iff.mpr (fun h9 => hno (szS_i.mp h9))]; decide)) (fun (zc1 : ¬ ¬ (bI (szS e)) = 0) => ?_)
  replace zc1 : (szS e) = false := bI_e0.mp (Decidable.not_not.mp zc1)
  refine m_run 1 (ps' := (9, [some (.inr (.inl 0)), some (.inl e), none], [.inl (-1000001)], mW (n, T, h, t, x) M, 0, 0)) rfl ?_
  exact m_ret1 rfl (Or.inl rfl) rfl (m_Vi rfl)
set_option maxHeartbeats 4000000 in
set_option maxRecDepth 100000 in
theorem k_twist {X : Nat × Nat × (Nat → Int32)} {T : Int → Int} {hc : Int} {hs hp : Int → Int} {t : TS} {x : XS} {M : MS} {tb : Int → Int → Int} (hR : repC 9 T tb) (hT : okT T) (h1 : 0 ≤ hc) (h2 : hc ≤ 4) : m_Run X 60 [.inr (.inl 0)] (mW (9, T, (hc, hs, hp), t, x) M) (fun r w => r = some (.inl (twC tb)) ∧ ∃ T2, w = mW (9, T2, keepH 9 T (hc, hs, hp), t, x) M ∧ okT T2 ∧ ∀ a b, 0 ≤ a → a < 9 → 0 ≤ b → b < 9 → T2 (9 * a + b) = twS a b) := by
  show m_Sem X 60 (0, [some (.inr (.inl 0))], [], mW (9, T, (hc, hs, hp), t, x) M, 0, 0) _
  refine m_run 4 (ps' := (9, [some (.inr (.inl 0))], [.inl 9, .inl 9], mW (9, T, (hc, hs, hp), t, x) M, 0, 0)) rfl ?_
  refine m_icmp rfl ⟨by omega, by omega⟩ ⟨by omega, by omega⟩ (fun (zc1 : 9 = 9) => ?_) (fun (zc1 : ¬ 9 = 9) => absurd zc1 (not_not_intro (by omega)))
  refine m_run 4 (ps' := (23, [some (.inr (.inl 0))], [.inr (.inl 2), .inr (.inl 4)], mW (9, T, (hc, hs, hp), t, x) M, 0, 0)) rfl ?_
  refine m_callVU [.inr (.inl 2)] [] rfl rfl ⟨_, rfl, rfl⟩ rfl rfl (k_keep ⟨by omega, by omega⟩ (by omega) (by omega)) ?_
  show m_Sem X 60 (26, [some (.inr (.inl 0))], [], mW (9, T, (keepH 9 T (hc, hs, hp)), t, x) M, 0, 0) _
  refine m_run 2 (ps' := (30, [some (.inr (.inl 0))], [.inr (.inl 2)], mW (9, T, (keepH 9 T (hc, hs, hp)), t, x) M, 0, 0)) rfl ?_
  refine m_callV [] [] rfl rfl ⟨_, rfl, rfl⟩ rfl rfl (k_bt hR hT) (fun r_ w_ hq_ _ => ?_)
  obtain ⟨rfl, T2, rfl, hT2, hF2⟩ := hq_
  show m_Sem X 60 (33, [some (.inr (.inl 0))], [.inl (twC tb)], mW (9, T2, (keepH 9 T (hc, hs, hp)), t, x) M, 0, 0) _
  exact m_ret1 rfl (Or.inl rfl) rfl (⟨rfl, T2, rfl, hT2, hF2⟩)
set_option maxHeartbeats 4000000 in
set_option maxRecDepth 100000 in
theorem k_twistN {X : Nat × Nat × (Nat → Int32)} {n : Int} {T : Int → Int} {h : HS} {t : TS} {x : XS} {M : MS} (hn : okN n) (hno : ¬ n = 9) : m_Run X 60 [.inr (.inl 0)] (mW (n, T, h, t, x) M) (m_V (-1000002) (mW (n, T, h, t, x) M)) := by
  have hl := okN_lo hn
  show m_Sem X 60 (0, [some (.inr (.inl 0))], [], mW (n, T, h, t, x) M, 0, 0) _
  refine m_run 4 (ps' := (9, [some (.inr (.inl 0))], [.inl 9, .inl n], mW (n, T, h, t, x) M, 0, 0)) rfl ?_
  refine m_icmp rfl ⟨by omega, by omega⟩ ⟨by omega, by omega⟩ (fun (zc1 : n = 9) => absurd zc1 (by omega)) (fun (zc1 : ¬ n = 9) => ?_)
  refine m_run 1 (ps' := (14, [some (.inr (.inl 0))], [.inl (-1000002)], mW (n, T, h, t, x) M, 0, 0)) rfl ?_
  exact m_ret1 rfl (Or.inl rfl) rfl (m_Vi rfl)
set_option maxHeartbeats 4000000 in
set_option maxRecDepth 100000 in
theorem k_prod {X : Nat × Nat × (Nat → Int32)} {n : Int} {T : Int → Int} {hc : Int} {hs hp : Int → Int} {t : TS} {x : XS} {M : MS} {tb : Int → Int → Int} {a b r : Int} (ha : m_R a) (hb : m_R b) (hr : m_R r) (hR : repC n T tb) (hT : okT T) (h1 : 0 ≤ hc) (h2 : hc ≤ 4) : m_Run X 61 [.inr (.inl 0), .inl a, .inl b, .inl r] (mW (n, T, (hc, hs, hp), t, x) M) (fun r9 w => if inN n a = true ∧ inN n b = true ∧ inN n r = true then r9 = some (.inl (tb a b)) ∧ w = mW (n, m_up T (9 * a + b) r, keepH n T (hc, hs, hp), t, x) M else r9 = some (.inl (-1000001)) ∧ w = mW (n, T, (hc, hs, hp), t, x) M) := by
  have hn := hR.1
  have hl := okN_lo hn
  show m_Sem X 61 (0, [some (.inr (.inl 0)), some (.inl a), some (.inl b), some (.inl r), none], [], mW (n, T, (hc, hs, hp), t, x) M, 0, 0) _
  refine m_run 3 (ps' := (5, [some (.inr (.inl 0)), some (.inl a), some (.inl b), some (.inl r), none], [.inl a, .inr (.inl 2)], mW (n, T, (hc, hs, hp), t, x) M, 0, 0)) rfl ?_
  refine m_callVF [.inl a] [] rfl rfl ⟨_, rfl, rfl⟩ rfl rfl (k_has (e := a) hn ha) ?_
  show m_Sem X 61 (8, [some (.inr (.inl 0)), some (.inl a), some (.inl b), some (.inl r), none], [.inl (bI (inN n a))], mW (n, T, (hc, hs, hp), t, x) M, 0, 0) _
  refine m_if rfl (bI_R (inN n a)) (fun (zc1 : (bI (inN n a)) = 0) => ?_) (fun (zc1 : ¬ (bI (inN n a)) = 0) => ?_)
  · replace zc1 : (inN n a) = false := bI_e0.mp zc1
    refine m_run 1 (ps' := (35, [some (.inr (.inl 0)), some (.inl a), some (.inl b), some (.inl r), none], [.inl (-1000001)], mW (n, T, (hc, hs, hp), t, x) M, 0, 0)) rfl ?_
    exact m_ret1 rfl (Or.inl rfl) rfl (by rw [if_neg (by simp [*])]; exact ⟨rfl, rfl⟩)
  · replace zc1 : (inN n a) = true := bI_n0.mp zc1
    have zi1 := inN_i.mp zc1
    refine m_run 3 (ps' := (16, [some (.inr (.inl 0)), some (.inl a), some (.inl b), some (.inl r), none], [.inl b, .inr (.inl 2)], mW (n, T, (hc, hs, hp), t, x) M, 0, 0)) rfl ?_
    refine m_callVF [.inl b] [] rfl rfl ⟨_, rfl, rfl⟩ rfl rfl (k_has (e := b) hn hb) ?_
    show m_Sem X 61 (19, [some (.inr (.inl 0)), some (.inl a), some (.inl b), some (.inl r), none], [.inl (bI (inN n b))], mW (n, T, (hc, hs, hp), t, x) M, 0, 0) _
    refine m_if rfl (bI_R (inN n b)) (fun (zc2 : (bI (inN n b)) = 0) => ?_) (fun (zc2 : ¬ (bI (inN n b)) = 0) => ?_)
    · replace zc2 : (inN n b) = false := bI_e0.mp zc2
      refine m_run 1 (ps' := (35, [some (.inr (.inl 0)), some (.inl a), some (.inl b), some (.inl r), none], [.inl (-1000001)], mW (n, T, (hc, hs, hp), t, x) M, 0, 0)) rfl ?_
      exact m_ret1 rfl (Or.inl rfl) rfl (by rw [if_neg (by simp [*])]; exact ⟨rfl, rfl⟩)
    · replace zc2 : (inN n b) = true := bI_n0.mp zc2
      have zi2 := inN_i.mp zc2
      refine m_run 3 (ps' := (27, [some (.inr (.inl 0)), some (.inl a), some (.inl b), some (.inl r), none], [.inl r, .inr (.inl 2)], mW (n, T, (hc, hs, hp), t, x) M, 0, 0)) rfl ?_
      refine m_callVF [.inl r] [] rfl rfl ⟨_, rfl, rfl⟩ rfl rfl (k_has (e := r) hn hr) ?_
      show m_Sem X 61 (30, [some (.inr (.inl 0)), some (.inl a), some (.inl b), some (.inl r), none], [.inl (bI (inN n r))], mW (n, T, (hc, hs, hp), t, x) M, 0, 0) _
      refine m_if rfl (bI_R (inN n r)) (fun (zc3 : ¬ (bI (inN n r)) = 0) => ?_) (fun (zc3 : ¬ ¬ (bI (inN n r)) = 0) => ?_)
      · replace zc3 : (inN n r) = true := bI_n0.mp zc3
        have zi3 := inN_i.mp zc3
        refine m_run 4 (ps' := (44, [some (.inr (.inl 0)), some (.inl a), some (.inl b), some (.inl r), none], [.inr (.inl 2), .inr (.inl 4)], mW (n, T, (hc, hs, hp), t, x) M, 0, 0)) rfl ?_
        refine m_callVU [.inr (.inl 2)] [] rfl rfl ⟨_, rfl, rfl⟩ rfl rfl (k_keep ⟨by omega, by omega⟩ (by omega) (by omega)) ?_
        show m_Sem X 61 (47, [some (.inr (.inl 0)), some (.inl a), some (.inl b), some (.inl r), none], [], mW (n, T, (keepH n T (hc, hs, hp)), t, x) M, 0, 0) _
        refine m_run 4 (ps' := (53, [some (.inr (.inl 0)), some (.inl a), some (.inl b), some (.inl r), none], [.inl b, .inl a, .inr (.inl 2)], mW (n, T, (keepH n T (hc, hs, hp)), t, x) M, 0, 0)) rfl ?_
        refine m_callVF [.inl a, .inl b] [] rfl rfl ⟨_, rfl, rfl⟩ rfl rfl (k_times (a := a) (b := b) hR (by omega) (by omega) (by omega) (by omega)) ?_
        have zt1 := (hR.2 a b (by omega) (by omega) (by omega) (by omega)).2
        show m_Sem X 61 (56, [some (.inr (.inl 0)), some (.inl a), some (.inl b), some (.inl r), none], [.inl (tb a b)], mW (n, T, (keepH n T (hc, hs, hp)), t, x) M, 0, 0) _
        refine m_run 6 (ps' := (65, [some (.inr (.inl 0)), some (.inl a), some (.inl b), some (.inl r), some (.inl (tb a b))], [.inl r, .inl b, .inl a, .inr (.inl 2)], mW (n, T, (keepH n T (hc, hs, hp)), t, x) M, 0, 0)) rfl ?_
        have hp9 := hT (9 * a + b) (by omega) (by omega)
        refine m_callVF [.inl a, .inl b, .inl r] [] rfl rfl ⟨_, rfl, rfl⟩ rfl rfl (k_set (T := T) (a := a) (b := b) (r := r) ⟨by omega, by omega⟩ ⟨by omega, by omega⟩ (by omega) (by omega) ⟨by omega, by omega⟩ ⟨by omega, by omega⟩) ?_
        show m_Sem X 61 (68, [some (.inr (.inl 0)), some (.inl a), some (.inl b), some (.inl r), some (.inl (tb a b))], [.inl (if T (9 * a + b) = r then 0 else 1)], mW (n, (m_up T (9 * a + b) r), (keepH n T (hc, hs, hp)), t, x) M, 0, 0) _
        refine m_run 2 (ps' := (71, [some (.inr (.inl 0)), some (.inl a), some (.inl b), some (.inl r), some (.inl (tb a b))], [.inl (tb a b)], mW (n, (m_up T (9 * a + b) r), (keepH n T (hc, hs, hp)), t, x) M, 0, 0)) rfl ?_
        exact m_ret1 rfl (Or.inl rfl) rfl (by rw [if_pos ⟨zc1, zc2, zc3⟩]; exact ⟨rfl, rfl⟩)
      · replace zc3 : (inN n r) = false := bI_e0.mp (Decidable.not_not.mp zc3)
        refine m_run 1 (ps' := (35, [some (.inr (.inl 0)), some (.inl a), some (.inl b), some (.inl r), none], [.inl (-1000001)], mW (n, T, (hc, hs, hp), t, x) M, 0, 0)) rfl ?_
        exact m_ret1 rfl (Or.inl rfl) rfl (by rw [if_neg (by simp [*])]; exact ⟨rfl, rfl⟩)
set_option maxHeartbeats 4000000 in
set_option maxRecDepth 100000 in
theorem k_exch {X : Nat × Nat × (Nat → Int32)} {n : Int} {T : Int → Int} {hc : Int} {hs hp : Int → Int} {t : TS} {x : XS} {M : MS} {tb : Int → Int → Int} (hR : repC n T tb) (hT : okT T) (h1 : 0 ≤ hc) (h2 : hc ≤ 4) : m_Run X 62 [.inr (.inl 0)] (mW (n, T, (hc, hs, hp), t, x) M) (fun r w => r = some (.inl (exC n tb)) ∧ ∃ T2, w = mW (n, T2, keepH n T (hc, hs, hp), t, x) M ∧ okT T2 ∧ ∀ a b, 0 ≤ a → a < n → 0 ≤ b → b < n → T2 (9 * a + b) = tb b a) := by
  have hn := hR.1
  have hl := okN_lo hn
  show m_Sem X 62 (0, [some (.inr (.inl 0))], [], mW (n, T, (hc, hs, hp), t, x) M, 0, 0) _
  refine m_run 4 (ps' := (8, [some (.inr (.inl 0))], [.inr (.inl 2), .inr (.inl 4)], mW (n, T, (hc, hs, hp), t, x) M, 0, 0)) rfl ?_
  refine m_callVU [.inr (.inl 2)] [] rfl rfl ⟨_, rfl, rfl⟩ rfl rfl (k_keep ⟨by omega, by omega⟩ (by omega) (by omega)) ?_
  show m_Sem X 62 (11, [some (.inr (.inl 0))], [], mW (n, T, (keepH n T (hc, hs, hp)), t, x) M, 0, 0) _
  refine m_run 2 (ps' := (15, [some (.inr (.inl 0))], [.inr (.inl 2)], mW (n, T, (keepH n T (hc, hs, hp)), t, x) M, 0, 0)) rfl ?_
  refine m_callV [] [] rfl rfl ⟨_, rfl, rfl⟩ rfl rfl (k_cs hR hT) (fun r_ w_ hq_ _ => ?_)
  obtain ⟨rfl, T2, rfl, hT2, hF2⟩ := hq_
  show m_Sem X 62 (18, [some (.inr (.inl 0))], [.inl (exC n tb)], mW (n, T2, (keepH n T (hc, hs, hp)), t, x) M, 0, 0) _
  exact m_ret1 rfl (Or.inl rfl) rfl (⟨rfl, T2, rfl, hT2, hF2⟩)
def facS (n : Int) (tb : Int → Int → Int) (r : Bool) (a b : Int) : Int := fstF (fun i => decide (sideS tb r a i = b)) n.toNat 0
def byS (n : Int) (tb : Int → Int → Int) (a b w : Int) : Int :=
  if inN n a = false then -1000001 else if inN n b = false then -1000001
  else if w = 0 then sumS n a b else if w = 1 then difS n a b else if w = 2 then tb a b else if w = 3 then onfS (facS n tb true a b) else if w = 4 then onfS (facS n tb false a b) else -1000001
theorem facS_in {n : Int} {tb : Int → Int → Int} {r : Bool} {a b : Int} (hn : okN n) : -1 ≤ facS n tb r a b ∧ facS n tb r a b < 9 := by
  have hl := okN_lo hn
  rcases fst_in (p := fun i => decide (sideS tb r a i = b)) n.toNat 0 with h | ⟨h1, h2, -⟩
  · unfold facS; rw [h]; omega
  · unfold facS; omega
set_option maxHeartbeats 4000000 in
set_option maxRecDepth 100000 in
theorem k_by {X : Nat × Nat × (Nat → Int32)} {n : Int} {T : Int → Int} {h : HS} {t : TS} {x : XS} {M : MS} {tb : Int → Int → Int} {a b wh : Int} (ha : m_R a) (hb : m_R b) (hw : m_R wh) (hR : repC n T tb) : m_Run X 63 [.inr (.inl 0), .inl a, .inl b, .inl wh] (mW (n, T, h, t, x) M) (m_V (byS n tb a b wh) (mW (n, T, h, t, x) M)) := by
  have hn := hR.1
  have hl := okN_lo hn
  obtain ⟨hw1, hw2⟩ := id hw
  show m_Sem X 63 (0, [some (.inr (.inl 0)), some (.inl a), some (.inl b), some (.inl wh)], [], mW (n, T, h, t, x) M, 0, 0) _
  refine m_run 3 (ps' := (5, [some (.inr (.inl 0)), some (.inl a), some (.inl b), some (.inl wh)], [.inl a, .inr (.inl 2)], mW (n, T, h, t, x) M, 0, 0)) rfl ?_
  refine m_callVF [.inl a] [] rfl rfl ⟨_, rfl, rfl⟩ rfl rfl (k_has (e := a) hn ha) ?_
  show m_Sem X 63 (8, [some (.inr (.inl 0)), some (.inl a), some (.inl b), some (.inl wh)], [.inl (bI (inN n a))], mW (n, T, h, t, x) M, 0, 0) _
  refine m_if rfl (bI_R (inN n a)) (fun (zc1 : (bI (inN n a)) = 0) => ?_) (fun (zc1 : ¬ (bI (inN n a)) = 0) => ?_)
  · replace zc1 : (inN n a) = false := bI_e0.mp zc1
    refine m_run 1 (ps' := (24, [some (.inr (.inl 0)), some (.inl a), some (.inl b), some (.inl wh)], [.inl (-1000001)], mW (n, T, h, t, x) M, 0, 0)) rfl ?_
    exact m_ret1 rfl (Or.inl rfl) rfl (m_Vi (by unfold byS; simp [*] <;> omega))
  · replace zc1 : (inN n a) = true := bI_n0.mp zc1
    have zi1 := inN_i.mp zc1
    refine m_run 3 (ps' := (16, [some (.inr (.inl 0)), some (.inl a), some (.inl b), some (.inl wh)], [.inl b, .inr (.inl 2)], mW (n, T, h, t, x) M, 0, 0)) rfl ?_
    refine m_callVF [.inl b] [] rfl rfl ⟨_, rfl, rfl⟩ rfl rfl (k_has (e := b) hn hb) ?_
    show m_Sem X 63 (19, [some (.inr (.inl 0)), some (.inl a), some (.inl b), some (.inl wh)], [.inl (bI (inN n b))], mW (n, T, h, t, x) M, 0, 0) _
    refine m_if rfl (bI_R (inN n b)) (fun (zc2 : ¬ (bI (inN n b)) = 0) => ?_) (fun (zc2 : ¬ ¬ (bI (inN n b)) = 0) => ?_)
    · replace zc2 : (inN n b) = true := bI_n0.mp zc2
      have zi2 := inN_i.mp zc2
      refine m_run 1 (ps' := (26, [some (.inr (.inl 0)), some (.inl a), some (.inl b), some (.inl wh)], [.inl wh], mW (n, T, h, t, x) M, 0, 0)) rfl ?_
      rcases (show wh < 0 ∨ wh = 0 ∨ wh = 1 ∨ wh = 2 ∨ wh = 3 ∨ wh = 4 ∨ 4 < wh by omega) with zs1 | rfl | rfl | rfl | rfl | rfl | zs1
      · refine m_tabOut (tgt := 118) rfl ⟨by omega, by omega⟩ (Or.inl (by omega)) rfl ?_
        refine m_run 1 (ps' := (120, [some (.inr (.inl 0)), some (.inl a), some (.inl b), some (.inl wh)], [.inl (-1000001)], mW (n, T, h, t, x) M, 0, 0)) rfl ?_
        exact m_ret1 rfl (Or.inl rfl) rfl (m_Vi (by unfold byS; simp [*] <;> omega))
      · refine m_tabIn (tgt := 60) rfl ⟨by decide, by decide⟩ (by decide) (by decide) rfl rfl ?_
        refine m_run 4 (ps' := (66, [some (.inr (.inl 0)), some (.inl a), some (.inl b), some (.inl 0)], [.inl b, .inl a, .inr (.inl 2)], mW (n, T, h, t, x) M, 0, 0)) rfl ?_
        refine m_callVF [.inl a, .inl b] [] rfl rfl ⟨_, rfl, rfl⟩ rfl rfl (k_sum (a := a) (b := b) hn (by omega) (by omega) (by omega) (by omega)) ?_
        have zt1 := sumS_in (n := n) (a := a) (b := b) hn (by omega) (by omega) (by omega) (by omega)
        show m_Sem X 63 (69, [some (.inr (.inl 0)), some (.inl a), some (.inl b), some (.inl 0)], [.inl (sumS n a b)], mW (n, T, h, t, x) M, 0, 0) _
        exact m_ret1 rfl (Or.inl rfl) rfl (m_Vi (by unfold byS; simp [*] <;> omega))
      · refine m_tabIn (tgt := 70) rfl ⟨by decide, by decide⟩ (by decide) (by decide) rfl rfl ?_
        refine m_run 4 (ps' := (76, [some (.inr (.inl 0)), some (.inl a), some (.inl b), some (.inl 1)], [.inl b, .inl a, .inr (.inl 2)], mW (n, T, h, t, x) M, 0, 0)) rfl ?_
        refine m_callVF [.inl a, .inl b] [] rfl rfl ⟨_, rfl, rfl⟩ rfl rfl (k_dif (a := a) (b := b) hn (by omega) (by omega) (by omega) (by omega)) ?_
        have zt1 := difS_in (n := n) (a := a) (b := b) hn (by omega) (by omega) (by omega) (by omega)
        show m_Sem X 63 (79, [some (.inr (.inl 0)), some (.inl a), some (.inl b), some (.inl 1)], [.inl (difS n a b)], mW (n, T, h, t, x) M, 0, 0) _
        exact m_ret1 rfl (Or.inl rfl) rfl (m_Vi (by unfold byS; simp [*] <;> omega))
      · refine m_tabIn (tgt := 80) rfl ⟨by decide, by decide⟩ (by decide) (by decide) rfl rfl ?_
        refine m_run 4 (ps' := (86, [some (.inr (.inl 0)), some (.inl a), some (.inl b), some (.inl 2)], [.inl b, .inl a, .inr (.inl 2)], mW (n, T, h, t, x) M, 0, 0)) rfl ?_
        refine m_callVF [.inl a, .inl b] [] rfl rfl ⟨_, rfl, rfl⟩ rfl rfl (k_times (a := a) (b := b) hR (by omega) (by omega) (by omega) (by omega)) ?_
        have zt1 := (hR.2 a b (by omega) (by omega) (by omega) (by omega)).2
        show m_Sem X 63 (89, [some (.inr (.inl 0)), some (.inl a), some (.inl b), some (.inl 2)], [.inl (tb a b)], mW (n, T, h, t, x) M, 0, 0) _
        exact m_ret1 rfl (Or.inl rfl) rfl (m_Vi (by unfold byS; simp [*] <;> omega))
      · refine m_tabIn (tgt := 90) rfl ⟨by decide, by decide⟩ (by decide) (by decide) rfl rfl ?_
        refine m_run 5 (ps' := (97, [some (.inr (.inl 0)), some (.inl a), some (.inl b), some (.inl 3)], [.inl 1, .inl b, .inl a, .inr (.inl 2)], mW (n, T, h, t, x) M, 0, 0)) rfl ?_
        refine m_callVF [.inl a, .inl b, .inl 1] [] rfl rfl ⟨_, rfl, rfl⟩ rfl rfl (k_low (r := true) hR (by omega) (by omega) (by omega) (by omega)) ?_
        have zt1 := facS_in (tb := tb) (r := true) (a := a) (b := b) hn
        show m_Sem X 63 (100, [some (.inr (.inl 0)), some (.inl a), some (.inl b), some (.inl 3)], [.inl (facS n tb true a b)], mW (n, T, h, t, x) M, 0, 0) _
        refine m_callSF [.inl (facS n tb true a b)] [] rfl rfl rfl (k_onf (e := (facS n tb true a b)) ⟨by omega, by omega⟩) ?_
        show m_Sem X 63 (103, [some (.inr (.inl 0)), some (.inl a), some (.inl b), some (.inl 3)], [.inl (onfS (facS n tb true a b))], mW (n, T, h, t, x) M, 0, 0) _
        exact m_ret1 rfl (Or.inl rfl) rfl (m_Vi (by unfold byS; simp [*] <;> omega))
      · refine m_tabIn (tgt := 104) rfl ⟨by decide, by decide⟩ (by decide) (by decide) rfl rfl ?_
        refine m_run 5 (ps' := (111, [some (.inr (.inl 0)), some (.inl a), some (.inl b), some (.inl 4)], [.inl 0, .inl b, .inl a, .inr (.inl 2)], mW (n, T, h, t, x) M, 0, 0)) rfl ?_
        refine m_callVF [.inl a, .inl b, .inl 0] [] rfl rfl ⟨_, rfl, rfl⟩ rfl rfl (k_low (r := false) hR (by omega) (by omega) (by omega) (by omega)) ?_
        have zt1 := facS_in (tb := tb) (r := false) (a := a) (b := b) hn
        show m_Sem X 63 (114, [some (.inr (.inl 0)), some (.inl a), some (.inl b), some (.inl 4)], [.inl (facS n tb false a b)], mW (n, T, h, t, x) M, 0, 0) _
        refine m_callSF [.inl (facS n tb false a b)] [] rfl rfl rfl (k_onf (e := (facS n tb false a b)) ⟨by omega, by omega⟩) ?_
        show m_Sem X 63 (117, [some (.inr (.inl 0)), some (.inl a), some (.inl b), some (.inl 4)], [.inl (onfS (facS n tb false a b))], mW (n, T, h, t, x) M, 0, 0) _
        exact m_ret1 rfl (Or.inl rfl) rfl (m_Vi (by unfold byS; simp [*] <;> omega))
      · refine m_tabOut (tgt := 118) rfl ⟨by omega, by omega⟩ (Or.inr (by omega)) rfl ?_
        refine m_run 1 (ps' := (120, [some (.inr (.inl 0)), some (.inl a), some (.inl b), some (.inl wh)], [.inl (-1000001)], mW (n, T, h, t, x) M, 0, 0)) rfl ?_
        exact m_ret1 rfl (Or.inl rfl) rfl (m_Vi (by unfold byS; simp [*] <;> omega))
    · replace zc2 : (inN n b) = false := bI_e0.mp (Decidable.not_not.mp zc2)
      refine m_run 1 (ps' := (24, [some (.inr (.inl 0)), some (.inl a), some (.inl b), some (.inl wh)], [.inl (-1000001)], mW (n, T, h, t, x) M, 0, 0)) rfl ?_
      exact m_ret1 rfl (Or.inl rfl) rfl (m_Vi (by unfold byS; simp [*] <;> omega))
def lawS (n : Int) (tb : Int → Int → Int) (l w : Int) : Int :=
  if l < 0 then -1000001 else if 8 ≤ l then -1000001 else if w < 0 then -1000001 else if 3 < w then -1000001
  else if w = 0 then (if wcode (witS n tb l) = -1 then 1 else 0) else if wcode (witS n tb l) = -1 then -1000004 else welS (wcode (witS n tb l)) w
set_option maxHeartbeats 4000000 in
set_option maxRecDepth 100000 in
theorem k_law {X : Nat × Nat × (Nat → Int32)} {n : Int} {T : Int → Int} {h : HS} {t : TS} {x : XS} {M : MS} {tb : Int → Int → Int} {l wh : Int} (hl9 : m_R l) (hw : m_R wh) (hR : repC n T tb) : m_Run X 64 [.inr (.inl 0), .inl l, .inl wh] (mW (n, T, h, t, x) M) (m_V (lawS n tb l wh) (mW (n, T, h, t, x) M)) := by
  have hn := hR.1
  have hl := okN_lo hn
  show m_Sem X 64 (0, [some (.inr (.inl 0)), some (.inl l), some (.inl wh), none], [], mW (n, T, h, t, x) M, 0, 0) _
  refine m_run 1 (ps' := (1, [some (.inr (.inl 0)), some (.inl l), some (.inl wh), none], [.inl l], mW (n, T, h, t, x) M, 0, 0)) rfl ?_
  refine m_if rfl hl9 (fun (zc1 : l < 0) => ?_) (fun (zc1 : ¬ l < 0) => ?_)
  · refine m_run 1 (ps' := (21, [some (.inr (.inl 0)), some (.inl l), some (.inl wh), none], [.inl (-1000001)], mW (n, T, h, t, x) M, 0, 0)) rfl ?_
    exact m_ret1 rfl (Or.inl rfl) rfl (m_Vi (by unfold lawS; (repeat' split) <;> first | rfl | (exfalso; omega) | omega | simp_all))
  · refine m_run 2 (ps' := (7, [some (.inr (.inl 0)), some (.inl l), some (.inl wh), none], [.inl 8, .inl l], mW (n, T, h, t, x) M, 0, 0)) rfl ?_
    refine m_icmp rfl hl9 ⟨by omega, by omega⟩ (fun (zc2 : 8 ≤ l) => ?_) (fun (zc2 : ¬ 8 ≤ l) => ?_)
    · refine m_run 1 (ps' := (21, [some (.inr (.inl 0)), some (.inl l), some (.inl wh), none], [.inl (-1000001)], mW (n, T, h, t, x) M, 0, 0)) rfl ?_
      exact m_ret1 rfl (Or.inl rfl) rfl (m_Vi (by unfold lawS; (repeat' split) <;> first | rfl | (exfalso; omega) | omega | simp_all))
    · refine m_run 1 (ps' := (11, [some (.inr (.inl 0)), some (.inl l), some (.inl wh), none], [.inl wh], mW (n, T, h, t, x) M, 0, 0)) rfl ?_
      refine m_if rfl hw (fun (zc3 : wh < 0) => ?_) (fun (zc3 : ¬ wh < 0) => ?_)
      · refine m_run 1 (ps' := (21, [some (.inr (.inl 0)), some (.inl l), some (.inl wh), none], [.inl (-1000001)], mW (n, T, h, t, x) M, 0, 0)) rfl ?_
        exact m_ret1 rfl (Or.inl rfl) rfl (m_Vi (by unfold lawS; (repeat' split) <;> first | rfl | (exfalso; omega) | omega | simp_all))
      · refine m_run 2 (ps' := (16, [some (.inr (.inl 0)), some (.inl l), some (.inl wh), none], [.inl 3, .inl wh], mW (n, T, h, t, x) M, 0, 0)) rfl ?_
        refine m_icmp rfl hw ⟨by omega, by omega⟩ (fun (zc4 : wh ≤ 3) => ?_) (fun (zc4 : ¬ wh ≤ 3) => ?_)
        · refine m_run 3 (ps' := (27, [some (.inr (.inl 0)), some (.inl l), some (.inl wh), none], [.inl l, .inr (.inl 2)], mW (n, T, h, t, x) M, 0, 0)) rfl ?_
          refine m_callSF [.inr (.inl 2), .inl l] [] rfl rfl rfl (k_wit (law := l) hR (by omega) (by omega)) ?_
          have zt1 := wcode_in (tb := tb) (law := l) hn
          show m_Sem X 64 (30, [some (.inr (.inl 0)), some (.inl l), some (.inl wh), none], [.inl (wcode (witS n tb l))], mW (n, T, h, t, x) M, 0, 0) _
          refine m_run 2 (ps' := (32, [some (.inr (.inl 0)), some (.inl l), some (.inl wh), some (.inl (wcode (witS n tb l)))], [.inl wh], mW (n, T, h, t, x) M, 0, 0)) rfl ?_
          refine m_if rfl hw (fun (zc5 : ¬ wh = 0) => ?_) (fun (zc5 : ¬ ¬ wh = 0) => ?_)
          · refine m_run 2 (ps' := (48, [some (.inr (.inl 0)), some (.inl l), some (.inl wh), some (.inl (wcode (witS n tb l)))], [.inl (-1), .inl (wcode (witS n tb l))], mW (n, T, h, t, x) M, 0, 0)) rfl ?_
            refine m_icmp rfl ⟨by omega, by omega⟩ ⟨by omega, by omega⟩ (fun (zc6 : ¬ (wcode (witS n tb l)) = (-1)) => ?_) (fun (zc6 : ¬ ¬ (wcode (witS n tb l)) = (-1)) => ?_)
            · refine m_run 2 (ps' := (58, [some (.inr (.inl 0)), some (.inl l), some (.inl wh), some (.inl (wcode (witS n tb l)))], [.inl wh, .inl (wcode (witS n tb l))], mW (n, T, h, t, x) M, 0, 0)) rfl ?_
              refine m_callSF [.inl (wcode (witS n tb l)), .inl wh] [] rfl rfl rfl (k_wel (w0 := (wcode (witS n tb l))) (j := wh) (by omega) (by omega) ⟨by omega, by omega⟩) ?_
              show m_Sem X 64 (61, [some (.inr (.inl 0)), some (.inl l), some (.inl wh), some (.inl (wcode (witS n tb l)))], [.inl (welS (wcode (witS n tb l)) wh)], mW (n, T, h, t, x) M, 0, 0) _
              exact m_ret1 rfl (Or.inl rfl) rfl (m_Vi (by unfold lawS; (repeat' split) <;> first | rfl | (exfalso; omega) | omega | simp_all))
            · replace zc6 : (wcode (witS n tb l)) = (-1) := Decidable.not_not.mp zc6
              refine m_run 2 (ps' := (61, [some (.inr (.inl 0)), some (.inl l), some (.inl wh), some (.inl (wcode (witS n tb l)))], [.inl (-1000004)], mW (n, T, h, t, x) M, 0, 0)) rfl ?_
              exact m_ret1 rfl (Or.inl rfl) rfl (m_Vi (by unfold lawS; (repeat' split) <;> first | rfl | (exfalso; omega) | omega | simp_all))
          · replace zc5 : wh = 0 := Decidable.not_not.mp zc5
            refine m_run 2 (ps' := (37, [some (.inr (.inl 0)), some (.inl l), some (.inl wh), some (.inl (wcode (witS n tb l)))], [.inl (-1), .inl (wcode (witS n tb l))], mW (n, T, h, t, x) M, 0, 0)) rfl ?_
            refine m_icmp rfl ⟨by omega, by omega⟩ ⟨by omega, by omega⟩ (fun (zc6 : ¬ (wcode (witS n tb l)) = (-1)) => ?_) (fun (zc6 : ¬ ¬ (wcode (witS n tb l)) = (-1)) => ?_)
            · refine m_run 1 (ps' := (45, [some (.inr (.inl 0)), some (.inl l), some (.inl wh), some (.inl (wcode (witS n tb l)))], [.inl 0], mW (n, T, h, t, x) M, 0, 0)) rfl ?_
              exact m_ret1 rfl (Or.inl rfl) rfl (m_Vi (by unfold lawS; (repeat' split) <;> first | rfl | (exfalso; omega) | omega | simp_all))
            · replace zc6 : (wcode (witS n tb l)) = (-1) := Decidable.not_not.mp zc6
              refine m_run 2 (ps' := (45, [some (.inr (.inl 0)), some (.inl l), some (.inl wh), some (.inl (wcode (witS n tb l)))], [.inl 1], mW (n, T, h, t, x) M, 0, 0)) rfl ?_
              exact m_ret1 rfl (Or.inl rfl) rfl (m_Vi (by unfold lawS; (repeat' split) <;> first | rfl | (exfalso; omega) | omega | simp_all))
        · refine m_run 1 (ps' := (21, [some (.inr (.inl 0)), some (.inl l), some (.inl wh), none], [.inl (-1000001)], mW (n, T, h, t, x) M, 0, 0)) rfl ?_
          exact m_ret1 rfl (Or.inl rfl) rfl (m_Vi (by unfold lawS; (repeat' split) <;> first | rfl | (exfalso; omega) | omega | simp_all))
def elsK (p : Int → Bool) : Nat → Int → Nat → Int
  | 0, _, s => (s : Int)
  | k + 1, i, s => elsK p k (i + 1) (bif p i then s ||| 2 ^ i.toNat else s)
theorem els_end (p : Int → Bool) (n : Int) (s : Nat) : elsK p (n - n).toNat n s = (s : Int) := by rw [nat_end]; rfl
theorem els_step {p : Int → Bool} {n i : Int} {s : Nat} (h : i < n) : elsK p (n - i).toNat i s = elsK p (n - (i + 1)).toNat (i + 1) (bif p i then s ||| 2 ^ i.toNat else s) := by rw [nat_step h]; rfl
def elmS (n : Int) (tb : Int → Int → Int) (w : Int) : Int := if w < 0 then -1000001 else if 2 < w then -1000001 else elsK (isInS n tb w) n.toNat 0 0
set_option maxHeartbeats 4000000 in
set_option maxRecDepth 100000 in
theorem l_els {X : Nat × Nat × (Nat → Int32)} {n : Int} {T : Int → Int} {h : HS} {t : TS} {x : XS} {M : MS} {tb : Int → Int → Int} {wh v : Int} (hw1 : 0 ≤ wh) (hw2 : wh < 3) (hR : repC n T tb) : ∀ iv : Int, 0 ≤ iv → iv ≤ n → ∀ (s : Nat) (hs : s < 512) (hu : elsK (isInS n tb wh) (n - iv).toNat iv s = v), m_Sem X 65 (16, [some (.inr (.inl 0)), some (.inl wh), some (.inl (s : Int)), some (.inl iv)], [], mW (n, T, h, t, x) M, 0, 0) (m_V v (mW (n, T, h, t, x) M)) := by
  have hn := hR.1
  have hl := okN_lo hn
  refine m_down 0 n ?_ ?_
  · intro s hs hu
    show m_Sem X 65 (16, [some (.inr (.inl 0)), some (.inl wh), some (.inl (s : Int)), some (.inl n)], [], mW (n, T, h, t, x) M, 0, 0) _
    refine m_run 4 (ps' := (24, [some (.inr (.inl 0)), some (.inl wh), some (.inl (s : Int)), some (.inl n)], [.inl n, .inl n], mW (n, T, h, t, x) M, 0, 0)) rfl ?_
    refine m_icmp rfl ⟨by omega, by omega⟩ ⟨by omega, by omega⟩ (fun (zc1 : n ≤ n) => ?_) (fun (zc1 : ¬ n ≤ n) => absurd zc1 (not_not_intro (by omega)))
    refine m_run 1 (ps' := (52, [some (.inr (.inl 0)), some (.inl wh), some (.inl (s : Int)), some (.inl n)], [.inl (s : Int)], mW (n, T, h, t, x) M, 0, 0)) rfl ?_
    exact m_ret1 rfl (Or.inl rfl) rfl (m_Vi (by rw [els_end] at hu; exact hu))
  · intro iv hi1 hi2 ih s hs hu
    rw [els_step hi2] at hu
    refine m_run 4 (ps' := (24, [some (.inr (.inl 0)), some (.inl wh), some (.inl (s : Int)), some (.inl iv)], [.inl n, .inl iv], mW (n, T, h, t, x) M, 0, 0)) rfl ?_
    refine m_icmp rfl ⟨by omega, by omega⟩ ⟨by omega, by omega⟩ (fun (zc1 : n ≤ iv) => absurd zc1 (by omega)) (fun (zc1 : ¬ n ≤ iv) => ?_)
    refine m_run 4 (ps' := (33, [some (.inr (.inl 0)), some (.inl wh), some (.inl (s : Int)), some (.inl iv)], [.inl iv, .inl wh, .inr (.inl 2)], mW (n, T, h, t, x) M, 0, 0)) rfl ?_
    refine m_callSF [.inr (.inl 2), .inl wh, .inl iv] [] rfl rfl rfl (k_isin (j := wh) (a := iv) hR (by omega) (by omega) (by omega) (by omega)) ?_
    show m_Sem X 65 (36, [some (.inr (.inl 0)), some (.inl wh), some (.inl (s : Int)), some (.inl iv)], [.inl (bI (isInS n tb wh iv))], mW (n, T, h, t, x) M, 0, 0) _
    refine m_if rfl (bI_R (isInS n tb wh iv)) (fun (zc2 : (bI (isInS n tb wh iv)) = 0) => ?_) (fun (zc2 : ¬ (bI (isInS n tb wh iv)) = 0) => ?_)
    · replace zc2 : (isInS n tb wh iv) = false := bI_e0.mp zc2
      refine m_run 2 (ps' := (16, [some (.inr (.inl 0)), some (.inl wh), some (.inl (s : Int)), some (.inl (iv + 1))], [], mW (n, T, h, t, x) M, 0, 0)) rfl ?_
      refine m_weak [some (.inr (.inl 0)), some (.inl wh), some (.inl (s : Int)), some (.inl (iv + 1))] ⟨rfl, ⟨rfl, ⟨rfl, ⟨rfl, trivial⟩⟩⟩⟩ ?_
      rw [zc2] at hu
      exact ih _ hs hu
    · replace zc2 : (isInS n tb wh iv) = true := bI_n0.mp zc2
      refine m_run 8 (ps' := (16, [some (.inr (.inl 0)), some (.inl wh), some (.inl ((Int32.ofInt (s : Int) ||| Int32.ofInt ((Int32.ofInt 1 <<< (Int32.ofInt iv &&& 31)).toInt)).toInt)), some (.inl (iv + 1))], [], mW (n, T, h, t, x) M, 0, 0)) rfl ?_
      refine m_weak [some (.inr (.inl 0)), some (.inl wh), some (.inl ((Int32.ofInt (s : Int) ||| Int32.ofInt ((Int32.ofInt 1 <<< (Int32.ofInt iv &&& 31)).toInt)).toInt)), some (.inl (iv + 1))] ⟨rfl, ⟨rfl, ⟨rfl, ⟨rfl, trivial⟩⟩⟩⟩ ?_
      rw [zc2] at hu
      have hw := pow9 hi1 (by omega)
      rw [m_shl1 hi1 (by omega), m_or (by omega) (by omega)]
      exact ih _ (or9 hs hw) hu
set_option maxHeartbeats 4000000 in
set_option maxRecDepth 100000 in
theorem k_els {X : Nat × Nat × (Nat → Int32)} {n : Int} {T : Int → Int} {h : HS} {t : TS} {x : XS} {M : MS} {tb : Int → Int → Int} {wh : Int} (hw : m_R wh) (hR : repC n T tb) : m_Run X 65 [.inr (.inl 0), .inl wh] (mW (n, T, h, t, x) M) (m_V (elmS n tb wh) (mW (n, T, h, t, x) M)) := by
  have hn := hR.1
  have hl := okN_lo hn
  show m_Sem X 65 (0, [some (.inr (.inl 0)), some (.inl wh), none, none], [], mW (n, T, h, t, x) M, 0, 0) _
  refine m_run 1 (ps' := (1, [some (.inr (.inl 0)), some (.inl wh), none, none], [.inl wh], mW (n, T, h, t, x) M, 0, 0)) rfl ?_
  refine m_if rfl hw (fun (zc1 : wh < 0) => ?_) (fun (zc1 : ¬ wh < 0) => ?_)
  · refine m_run 1 (ps' := (11, [some (.inr (.inl 0)), some (.inl wh), none, none], [.inl (-1000001)], mW (n, T, h, t, x) M, 0, 0)) rfl ?_
    exact m_ret1 rfl (Or.inl rfl) rfl (m_Vi (by unfold elmS; (repeat' split) <;> first | rfl | (exfalso; omega) | omega | simp_all))
  · refine m_run 2 (ps' := (6, [some (.inr (.inl 0)), some (.inl wh), none, none], [.inl 2, .inl wh], mW (n, T, h, t, x) M, 0, 0)) rfl ?_
    refine m_icmp rfl hw ⟨by omega, by omega⟩ (fun (zc2 : wh ≤ 2) => ?_) (fun (zc2 : ¬ wh ≤ 2) => ?_)
    · refine m_run 4 (ps' := (16, [some (.inr (.inl 0)), some (.inl wh), some (.inl 0), some (.inl 0)], [], mW (n, T, h, t, x) M, 0, 0)) rfl ?_
      refine m_weak [some (.inr (.inl 0)), some (.inl wh), some (.inl 0), some (.inl 0)] ⟨rfl, ⟨rfl, ⟨rfl, ⟨rfl, trivial⟩⟩⟩⟩ ?_
      have e9 : elmS n tb wh = elsK (isInS n tb wh) n.toNat 0 0 := by unfold elmS; rw [if_neg (by omega), if_neg (by omega)]
      rw [e9]
      exact l_els (by omega) (by omega) hR 0 (by omega) (by omega) 0 (by omega) (by rw [z_sub])
    · refine m_run 1 (ps' := (11, [some (.inr (.inl 0)), some (.inl wh), none, none], [.inl (-1000001)], mW (n, T, h, t, x) M, 0, 0)) rfl ?_
      exact m_ret1 rfl (Or.inl rfl) rfl (m_Vi (by unfold elmS; (repeat' split) <;> first | rfl | (exfalso; omega) | omega | simp_all))
def onFS (n : Int) (tb : Int → Int → Int) (p l : Int) : Int := if inN (NP n) p = false then -1000001 else if inN (NP n) l = false then -1000001 else bI (onC n tb p l)
def atFS (n : Int) (tb : Int → Int → Int) (m w i : Int) : Int := if inN (NP n) m = false then -1000001 else if w < 0 then -1000001 else if 1 < w then -1000001 else if i < 0 then -1000001 else if w = 0 then onfS (ptC n tb m i) else onfS (ltC n tb m i)
def joFS (n : Int) (tb : Int → Int → Int) (a b w : Int) : Int := if inN (NP n) a = false then -1000001 else if inN (NP n) b = false then -1000001 else if a = b then -1000001 else if w < 0 then -1000001 else if 1 < w then -1000001 else if w = 0 then onfS (lnC n tb a b) else onfS (mtC n tb a b)
def plFS (n : Int) (tb : Int → Int → Int) (w : Int) : Int := if w = 0 then bI (plS n tb) else if w = 1 then paS n tb true else if w = 2 then paS n tb false else -1000001
set_option maxHeartbeats 4000000 in
set_option maxRecDepth 100000 in
theorem k_fon {X : Nat × Nat × (Nat → Int32)} {n : Int} {T : Int → Int} {h : HS} {t : TS} {x : XS} {M : MS} {tb : Int → Int → Int} {p l : Int} (hp : m_R p) (hll : m_R l) (hR : repC n T tb) : m_Run X 66 [.inr (.inl 0), .inl p, .inl l] (mW (n, T, h, t, x) M) (m_V (onFS n tb p l) (mW (n, T, h, t, x) M)) := by
  have hn := hR.1
  have hl := okN_lo hn
  have hq := sq_b hn
  show m_Sem X 66 (0, [some (.inr (.inl 0)), some (.inl p), some (.inl l)], [], mW (n, T, h, t, x) M, 0, 0) _
  refine m_run 3 (ps' := (5, [some (.inr (.inl 0)), some (.inl p), some (.inl l)], [.inl p, .inr (.inl 1)], mW (n, T, h, t, x) M, 0, 0)) rfl ?_
  refine m_callVF [.inl p] [] rfl rfl ⟨_, rfl, rfl⟩ rfl rfl (k_phas (e := p) hR hp) ?_
  show m_Sem X 66 (8, [some (.inr (.inl 0)), some (.inl p), some (.inl l)], [.inl (bI (inN (NP n) p))], mW (n, T, h, t, x) M, 0, 0) _
  refine m_if rfl (bI_R (inN (NP n) p)) (fun (zc1 : (bI (inN (NP n) p)) = 0) => ?_) (fun (zc1 : ¬ (bI (inN (NP n) p)) = 0) => ?_)
  · replace zc1 : (inN (NP n) p) = false := bI_e0.mp zc1
    refine m_run 1 (ps' := (24, [some (.inr (.inl 0)), some (.inl p), some (.inl l)], [.inl (-1000001)], mW (n, T, h, t, x) M, 0, 0)) rfl ?_
    exact m_ret1 rfl (Or.inl rfl) rfl (m_Vi (by unfold onFS; simp [*, bI]))
  · replace zc1 : (inN (NP n) p) = true := bI_n0.mp zc1
    have zi1 := inN_i.mp zc1
    unfold NP at zi1
    refine m_run 3 (ps' := (16, [some (.inr (.inl 0)), some (.inl p), some (.inl l)], [.inl l, .inr (.inl 1)], mW (n, T, h, t, x) M, 0, 0)) rfl ?_
    refine m_callVF [.inl l] [] rfl rfl ⟨_, rfl, rfl⟩ rfl rfl (k_phas (e := l) hR hll) ?_
    show m_Sem X 66 (19, [some (.inr (.inl 0)), some (.inl p), some (.inl l)], [.inl (bI (inN (NP n) l))], mW (n, T, h, t, x) M, 0, 0) _
    refine m_if rfl (bI_R (inN (NP n) l)) (fun (zc2 : ¬ (bI (inN (NP n) l)) = 0) => ?_) (fun (zc2 : ¬ ¬ (bI (inN (NP n) l)) = 0) => ?_)
    · replace zc2 : (inN (NP n) l) = true := bI_n0.mp zc2
      have zi2 := inN_i.mp zc2
      unfold NP at zi2
      refine m_run 4 (ps' := (31, [some (.inr (.inl 0)), some (.inl p), some (.inl l)], [.inl l, .inl p, .inr (.inl 1)], mW (n, T, h, t, x) M, 0, 0)) rfl ?_
      refine m_callVF [.inl p, .inl l] [] rfl rfl ⟨_, rfl, rfl⟩ rfl rfl (k_on (p := p) (l := l) hR hp hll) ?_
      show m_Sem X 66 (34, [some (.inr (.inl 0)), some (.inl p), some (.inl l)], [.inl (bI (onC n tb p l))], mW (n, T, h, t, x) M, 0, 0) _
      refine m_if rfl (bI_R (onC n tb p l)) (fun (zc3 : (bI (onC n tb p l)) = 0) => ?_) (fun (zc3 : ¬ (bI (onC n tb p l)) = 0) => ?_)
      · replace zc3 : (onC n tb p l) = false := bI_e0.mp zc3
        refine m_run 1 (ps' := (42, [some (.inr (.inl 0)), some (.inl p), some (.inl l)], [.inl 0], mW (n, T, h, t, x) M, 0, 0)) rfl ?_
        exact m_ret1 rfl (Or.inl rfl) rfl (m_Vi (by unfold onFS; simp [*, bI]))
      · replace zc3 : (onC n tb p l) = true := bI_n0.mp zc3
        refine m_run 2 (ps' := (42, [some (.inr (.inl 0)), some (.inl p), some (.inl l)], [.inl 1], mW (n, T, h, t, x) M, 0, 0)) rfl ?_
        exact m_ret1 rfl (Or.inl rfl) rfl (m_Vi (by unfold onFS; simp [*, bI]))
    · replace zc2 : (inN (NP n) l) = false := bI_e0.mp (Decidable.not_not.mp zc2)
      refine m_run 1 (ps' := (24, [some (.inr (.inl 0)), some (.inl p), some (.inl l)], [.inl (-1000001)], mW (n, T, h, t, x) M, 0, 0)) rfl ?_
      exact m_ret1 rfl (Or.inl rfl) rfl (m_Vi (by unfold onFS; simp [*, bI]))
set_option maxHeartbeats 4000000 in
set_option maxRecDepth 100000 in
theorem k_fat {X : Nat × Nat × (Nat → Int32)} {n : Int} {T : Int → Int} {h : HS} {t : TS} {x : XS} {M : MS} {tb : Int → Int → Int} {m wh i : Int} (hm : m_R m) (hw : m_R wh) (hi : m_R i) (hR : repC n T tb) : m_Run X 67 [.inr (.inl 0), .inl m, .inl wh, .inl i] (mW (n, T, h, t, x) M) (m_V (atFS n tb m wh i) (mW (n, T, h, t, x) M)) := by
  have hn := hR.1
  have hl := okN_lo hn
  have hq := sq_b hn
  show m_Sem X 67 (0, [some (.inr (.inl 0)), some (.inl m), some (.inl wh), some (.inl i)], [], mW (n, T, h, t, x) M, 0, 0) _
  refine m_run 3 (ps' := (5, [some (.inr (.inl 0)), some (.inl m), some (.inl wh), some (.inl i)], [.inl m, .inr (.inl 1)], mW (n, T, h, t, x) M, 0, 0)) rfl ?_
  refine m_callVF [.inl m] [] rfl rfl ⟨_, rfl, rfl⟩ rfl rfl (k_phas (e := m) hR hm) ?_
  show m_Sem X 67 (8, [some (.inr (.inl 0)), some (.inl m), some (.inl wh), some (.inl i)], [.inl (bI (inN (NP n) m))], mW (n, T, h, t, x) M, 0, 0) _
  refine m_if rfl (bI_R _) (fun (zc1 : (bI (inN (NP n) m)) = 0) => ?_) (fun (zc1 : ¬ (bI (inN (NP n) m)) = 0) => ?_)
  · replace zc1 : (inN (NP n) m) = false := bI_e0.mp zc1
    refine m_run 1 (ps' := (26, [some (.inr (.inl 0)), some (.inl m), some (.inl wh), some (.inl i)], [.inl (-1000001)], mW (n, T, h, t, x) M, 0, 0)) rfl ?_
    exact m_ret1 rfl (Or.inl rfl) rfl (m_Vi (by unfold atFS; (try simp only [*, if_false, if_true, Bool.false_eq_true, Bool.true_eq_false]) <;> ((repeat' split) <;> first | rfl | (exfalso; omega) | omega | simp_all)))
  · replace zc1 : (inN (NP n) m) = true := bI_n0.mp zc1
    have zi1 := inN_i.mp zc1
    unfold NP at zi1
    refine m_run 1 (ps' := (12, [some (.inr (.inl 0)), some (.inl m), some (.inl wh), some (.inl i)], [.inl wh], mW (n, T, h, t, x) M, 0, 0)) rfl ?_
    refine m_if rfl hw (fun (zc2 : wh < 0) => ?_) (fun (zc2 : ¬ wh < 0) => ?_)
    · refine m_run 1 (ps' := (26, [some (.inr (.inl 0)), some (.inl m), some (.inl wh), some (.inl i)], [.inl (-1000001)], mW (n, T, h, t, x) M, 0, 0)) rfl ?_
      exact m_ret1 rfl (Or.inl rfl) rfl (m_Vi (by unfold atFS; (try simp only [*, if_false, if_true, Bool.false_eq_true, Bool.true_eq_false]) <;> ((repeat' split) <;> first | rfl | (exfalso; omega) | omega | simp_all)))
    · refine m_run 2 (ps' := (17, [some (.inr (.inl 0)), some (.inl m), some (.inl wh), some (.inl i)], [.inl 1, .inl wh], mW (n, T, h, t, x) M, 0, 0)) rfl ?_
      refine m_icmp rfl hw ⟨by omega, by omega⟩ (fun (zc3 : 1 < wh) => ?_) (fun (zc3 : ¬ 1 < wh) => ?_)
      · refine m_run 1 (ps' := (26, [some (.inr (.inl 0)), some (.inl m), some (.inl wh), some (.inl i)], [.inl (-1000001)], mW (n, T, h, t, x) M, 0, 0)) rfl ?_
        exact m_ret1 rfl (Or.inl rfl) rfl (m_Vi (by unfold atFS; (try simp only [*, if_false, if_true, Bool.false_eq_true, Bool.true_eq_false]) <;> ((repeat' split) <;> first | rfl | (exfalso; omega) | omega | simp_all)))
      · refine m_run 1 (ps' := (21, [some (.inr (.inl 0)), some (.inl m), some (.inl wh), some (.inl i)], [.inl i], mW (n, T, h, t, x) M, 0, 0)) rfl ?_
        refine m_if rfl hi (fun (zc4 : 0 ≤ i) => ?_) (fun (zc4 : ¬ 0 ≤ i) => ?_)
        · refine m_run 1 (ps' := (28, [some (.inr (.inl 0)), some (.inl m), some (.inl wh), some (.inl i)], [.inl wh], mW (n, T, h, t, x) M, 0, 0)) rfl ?_
          refine m_if rfl hw (fun (zc5 : ¬ wh = 0) => ?_) (fun (zc5 : ¬ ¬ wh = 0) => ?_)
          · refine m_run 4 (ps' := (49, [some (.inr (.inl 0)), some (.inl m), some (.inl wh), some (.inl i)], [.inl i, .inl m, .inr (.inl 1)], mW (n, T, h, t, x) M, 0, 0)) rfl ?_
            refine m_callVF [.inl m, .inl i] [] rfl rfl ⟨_, rfl, rfl⟩ rfl rfl (k_lt (l := m) (i := i) hR hm hi) ?_
            have zt1 := ltC_in (p := m) (i := i) hn hR.tb
            unfold NP at zt1
            show m_Sem X 67 (52, [some (.inr (.inl 0)), some (.inl m), some (.inl wh), some (.inl i)], [.inl (ltC n tb m i)], mW (n, T, h, t, x) M, 0, 0) _
            refine m_callSF [.inl (ltC n tb m i)] [] rfl rfl rfl (k_onf (e := (ltC n tb m i)) ⟨by omega, by omega⟩) ?_
            show m_Sem X 67 (55, [some (.inr (.inl 0)), some (.inl m), some (.inl wh), some (.inl i)], [.inl (onfS (ltC n tb m i))], mW (n, T, h, t, x) M, 0, 0) _
            exact m_ret1 rfl (Or.inl rfl) rfl (m_Vi (by unfold atFS; (try simp only [*, if_false, if_true, Bool.false_eq_true, Bool.true_eq_false]) <;> ((repeat' split) <;> first | rfl | (exfalso; omega) | omega | simp_all)))
          · replace zc5 : wh = 0 := Decidable.not_not.mp zc5
            refine m_run 4 (ps' := (37, [some (.inr (.inl 0)), some (.inl m), some (.inl wh), some (.inl i)], [.inl i, .inl m, .inr (.inl 1)], mW (n, T, h, t, x) M, 0, 0)) rfl ?_
            refine m_callVF [.inl m, .inl i] [] rfl rfl ⟨_, rfl, rfl⟩ rfl rfl (k_pt (l := m) (i := i) hR hm hi) ?_
            have zt1 := ptC_in (l := m) (i := i) hn hR.tb
            unfold NP at zt1
            show m_Sem X 67 (40, [some (.inr (.inl 0)), some (.inl m), some (.inl wh), some (.inl i)], [.inl (ptC n tb m i)], mW (n, T, h, t, x) M, 0, 0) _
            refine m_run 1 (ps' := (52, [some (.inr (.inl 0)), some (.inl m), some (.inl wh), some (.inl i)], [.inl (ptC n tb m i)], mW (n, T, h, t, x) M, 0, 0)) rfl ?_
            refine m_callSF [.inl (ptC n tb m i)] [] rfl rfl rfl (k_onf (e := (ptC n tb m i)) ⟨by omega, by omega⟩) ?_
            show m_Sem X 67 (55, [some (.inr (.inl 0)), some (.inl m), some (.inl wh), some (.inl i)], [.inl (onfS (ptC n tb m i))], mW (n, T, h, t, x) M, 0, 0) _
            exact m_ret1 rfl (Or.inl rfl) rfl (m_Vi (by unfold atFS; (try simp only [*, if_false, if_true, Bool.false_eq_true, Bool.true_eq_false]) <;> ((repeat' split) <;> first | rfl | (exfalso; omega) | omega | simp_all)))
        · refine m_run 1 (ps' := (26, [some (.inr (.inl 0)), some (.inl m), some (.inl wh), some (.inl i)], [.inl (-1000001)], mW (n, T, h, t, x) M, 0, 0)) rfl ?_
          exact m_ret1 rfl (Or.inl rfl) rfl (m_Vi (by unfold atFS; (try simp only [*, if_false, if_true, Bool.false_eq_true, Bool.true_eq_false]) <;> ((repeat' split) <;> first | rfl | (exfalso; omega) | omega | simp_all)))
set_option maxHeartbeats 4000000 in
set_option maxRecDepth 100000 in
theorem k_fjo {X : Nat × Nat × (Nat → Int32)} {n : Int} {T : Int → Int} {h : HS} {t : TS} {x : XS} {M : MS} {tb : Int → Int → Int} {a b wh : Int} (ha : m_R a) (hb : m_R b) (hw : m_R wh) (hR : repC n T tb) : m_Run X 68 [.inr (.inl 0), .inl a, .inl b, .inl wh] (mW (n, T, h, t, x) M) (m_V (joFS n tb a b wh) (mW (n, T, h, t, x) M)) := by
  have hn := hR.1
  have hl := okN_lo hn
  have hq := sq_b hn
  show m_Sem X 68 (0, [some (.inr (.inl 0)), some (.inl a), some (.inl b), some (.inl wh)], [], mW (n, T, h, t, x) M, 0, 0) _
  refine m_run 3 (ps' := (5, [some (.inr (.inl 0)), some (.inl a), some (.inl b), some (.inl wh)], [.inl a, .inr (.inl 1)], mW (n, T, h, t, x) M, 0, 0)) rfl ?_
  refine m_callVF [.inl a] [] rfl rfl ⟨_, rfl, rfl⟩ rfl rfl (k_phas (e := a) hR ha) ?_
  show m_Sem X 68 (8, [some (.inr (.inl 0)), some (.inl a), some (.inl b), some (.inl wh)], [.inl (bI (inN (NP n) a))], mW (n, T, h, t, x) M, 0, 0) _
  refine m_if rfl (bI_R _) (fun (zc1 : (bI (inN (NP n) a)) = 0) => ?_) (fun (zc1 : ¬ (bI (inN (NP n) a)) = 0) => ?_)
  · replace zc1 : (inN (NP n) a) = false := bI_e0.mp zc1
    refine m_run 1 (ps' := (38, [some (.inr (.inl 0)), some (.inl a), some (.inl b), some (.inl wh)], [.inl (-1000001)], mW (n, T, h, t, x) M, 0, 0)) rfl ?_
    exact m_ret1 rfl (Or.inl rfl) rfl (m_Vi (by unfold joFS; (try simp only [*, if_false, if_true, Bool.false_eq_true, Bool.true_eq_false]) <;> ((repeat' split) <;> first | rfl | (exfalso; omega) | omega | simp_all)))
  · replace zc1 : (inN (NP n) a) = true := bI_n0.mp zc1
    have zi1 := inN_i.mp zc1
    unfold NP at zi1
    refine m_run 3 (ps' := (16, [some (.inr (.inl 0)), some (.inl a), some (.inl b), some (.inl wh)], [.inl b, .inr (.inl 1)], mW (n, T, h, t, x) M, 0, 0)) rfl ?_
    refine m_callVF [.inl b] [] rfl rfl ⟨_, rfl, rfl⟩ rfl rfl (k_phas (e := b) hR hb) ?_
    show m_Sem X 68 (19, [some (.inr (.inl 0)), some (.inl a), some (.inl b), some (.inl wh)], [.inl (bI (inN (NP n) b))], mW (n, T, h, t, x) M, 0, 0) _
    refine m_if rfl (bI_R _) (fun (zc2 : (bI (inN (NP n) b)) = 0) => ?_) (fun (zc2 : ¬ (bI (inN (NP n) b)) = 0) => ?_)
    · replace zc2 : (inN (NP n) b) = false := bI_e0.mp zc2
      refine m_run 1 (ps' := (38, [some (.inr (.inl 0)), some (.inl a), some (.inl b), some (.inl wh)], [.inl (-1000001)], mW (n, T, h, t, x) M, 0, 0)) rfl ?_
      exact m_ret1 rfl (Or.inl rfl) rfl (m_Vi (by unfold joFS; (try simp only [*, if_false, if_true, Bool.false_eq_true, Bool.true_eq_false]) <;> ((repeat' split) <;> first | rfl | (exfalso; omega) | omega | simp_all)))
    · replace zc2 : (inN (NP n) b) = true := bI_n0.mp zc2
      have zi2 := inN_i.mp zc2
      unfold NP at zi2
      refine m_run 2 (ps' := (24, [some (.inr (.inl 0)), some (.inl a), some (.inl b), some (.inl wh)], [.inl b, .inl a], mW (n, T, h, t, x) M, 0, 0)) rfl ?_
      refine m_icmp rfl ⟨by omega, by omega⟩ ⟨by omega, by omega⟩ (fun (zc3 : a = b) => ?_) (fun (zc3 : ¬ a = b) => ?_)
      · refine m_run 1 (ps' := (38, [some (.inr (.inl 0)), some (.inl a), some (.inl b), some (.inl wh)], [.inl (-1000001)], mW (n, T, h, t, x) M, 0, 0)) rfl ?_
        exact m_ret1 rfl (Or.inl rfl) rfl (m_Vi (by unfold joFS; (try simp only [*, if_false, if_true, Bool.false_eq_true, Bool.true_eq_false]) <;> ((repeat' split) <;> first | rfl | (exfalso; omega) | omega | simp_all)))
      · refine m_run 1 (ps' := (28, [some (.inr (.inl 0)), some (.inl a), some (.inl b), some (.inl wh)], [.inl wh], mW (n, T, h, t, x) M, 0, 0)) rfl ?_
        refine m_if rfl hw (fun (zc4 : wh < 0) => ?_) (fun (zc4 : ¬ wh < 0) => ?_)
        · refine m_run 1 (ps' := (38, [some (.inr (.inl 0)), some (.inl a), some (.inl b), some (.inl wh)], [.inl (-1000001)], mW (n, T, h, t, x) M, 0, 0)) rfl ?_
          exact m_ret1 rfl (Or.inl rfl) rfl (m_Vi (by unfold joFS; (try simp only [*, if_false, if_true, Bool.false_eq_true, Bool.true_eq_false]) <;> ((repeat' split) <;> first | rfl | (exfalso; omega) | omega | simp_all)))
        · refine m_run 2 (ps' := (33, [some (.inr (.inl 0)), some (.inl a), some (.inl b), some (.inl wh)], [.inl 1, .inl wh], mW (n, T, h, t, x) M, 0, 0)) rfl ?_
          refine m_icmp rfl hw ⟨by omega, by omega⟩ (fun (zc5 : wh ≤ 1) => ?_) (fun (zc5 : ¬ wh ≤ 1) => ?_)
          · refine m_run 1 (ps' := (40, [some (.inr (.inl 0)), some (.inl a), some (.inl b), some (.inl wh)], [.inl wh], mW (n, T, h, t, x) M, 0, 0)) rfl ?_
            refine m_if rfl hw (fun (zc6 : ¬ wh = 0) => ?_) (fun (zc6 : ¬ ¬ wh = 0) => ?_)
            · refine m_run 4 (ps' := (61, [some (.inr (.inl 0)), some (.inl a), some (.inl b), some (.inl wh)], [.inl b, .inl a, .inr (.inl 1)], mW (n, T, h, t, x) M, 0, 0)) rfl ?_
              refine m_callVF [.inl a, .inl b] [] rfl rfl ⟨_, rfl, rfl⟩ rfl rfl (k_mt (p := a) (q := b) hR ha hb) ?_
              have zt1 := mtC_in (n := n) (tb := tb) (p := a) (q := b)
              unfold NP at zt1
              show m_Sem X 68 (64, [some (.inr (.inl 0)), some (.inl a), some (.inl b), some (.inl wh)], [.inl (mtC n tb a b)], mW (n, T, h, t, x) M, 0, 0) _
              refine m_callSF [.inl (mtC n tb a b)] [] rfl rfl rfl (k_onf (e := (mtC n tb a b)) ⟨by omega, by omega⟩) ?_
              show m_Sem X 68 (67, [some (.inr (.inl 0)), some (.inl a), some (.inl b), some (.inl wh)], [.inl (onfS (mtC n tb a b))], mW (n, T, h, t, x) M, 0, 0) _
              exact m_ret1 rfl (Or.inl rfl) rfl (m_Vi (by unfold joFS; (try simp only [*, if_false, if_true, Bool.false_eq_true, Bool.true_eq_false]) <;> ((repeat' split) <;> first | rfl | (exfalso; omega) | omega | simp_all)))
            · replace zc6 : wh = 0 := Decidable.not_not.mp zc6
              refine m_run 4 (ps' := (49, [some (.inr (.inl 0)), some (.inl a), some (.inl b), some (.inl wh)], [.inl b, .inl a, .inr (.inl 1)], mW (n, T, h, t, x) M, 0, 0)) rfl ?_
              refine m_callVF [.inl a, .inl b] [] rfl rfl ⟨_, rfl, rfl⟩ rfl rfl (k_ln (p := a) (q := b) hR ha hb) ?_
              have zt1 := lnC_in (n := n) (tb := tb) (p := a) (q := b)
              unfold NP at zt1
              show m_Sem X 68 (52, [some (.inr (.inl 0)), some (.inl a), some (.inl b), some (.inl wh)], [.inl (lnC n tb a b)], mW (n, T, h, t, x) M, 0, 0) _
              refine m_run 1 (ps' := (64, [some (.inr (.inl 0)), some (.inl a), some (.inl b), some (.inl wh)], [.inl (lnC n tb a b)], mW (n, T, h, t, x) M, 0, 0)) rfl ?_
              refine m_callSF [.inl (lnC n tb a b)] [] rfl rfl rfl (k_onf (e := (lnC n tb a b)) ⟨by omega, by omega⟩) ?_
              show m_Sem X 68 (67, [some (.inr (.inl 0)), some (.inl a), some (.inl b), some (.inl wh)], [.inl (onfS (lnC n tb a b))], mW (n, T, h, t, x) M, 0, 0) _
              exact m_ret1 rfl (Or.inl rfl) rfl (m_Vi (by unfold joFS; (try simp only [*, if_false, if_true, Bool.false_eq_true, Bool.true_eq_false]) <;> ((repeat' split) <;> first | rfl | (exfalso; omega) | omega | simp_all)))
          · refine m_run 1 (ps' := (38, [some (.inr (.inl 0)), some (.inl a), some (.inl b), some (.inl wh)], [.inl (-1000001)], mW (n, T, h, t, x) M, 0, 0)) rfl ?_
            exact m_ret1 rfl (Or.inl rfl) rfl (m_Vi (by unfold joFS; (try simp only [*, if_false, if_true, Bool.false_eq_true, Bool.true_eq_false]) <;> ((repeat' split) <;> first | rfl | (exfalso; omega) | omega | simp_all)))
set_option maxHeartbeats 4000000 in
set_option maxRecDepth 100000 in
theorem k_fpl2 {X : Nat × Nat × (Nat → Int32)} {n : Int} {T : Int → Int} {h : HS} {t : TS} {x : XS} {M : MS} {tb : Int → Int → Int} {wh : Int} (hw : m_R wh) (hR : repC n T tb) : m_Run X 69 [.inr (.inl 0), .inl wh] (mW (n, T, h, t, x) M) (m_V (plFS n tb wh) (mW (n, T, h, t, x) M)) := by
  have hn := hR.1
  have hl := okN_lo hn
  have hq := sq_b hn
  obtain ⟨hw1, hw2⟩ := id hw
  show m_Sem X 69 (0, [some (.inr (.inl 0)), some (.inl wh)], [], mW (n, T, h, t, x) M, 0, 0) _
  refine m_run 1 (ps' := (1, [some (.inr (.inl 0)), some (.inl wh)], [.inl wh], mW (n, T, h, t, x) M, 0, 0)) rfl ?_
  rcases (show wh < 0 ∨ wh = 0 ∨ wh = 1 ∨ wh = 2 ∨ 2 < wh by omega) with zs1 | rfl | rfl | rfl | zs1
  · refine m_tabOut (tgt := 62) rfl ⟨by omega, by omega⟩ (Or.inl (by omega)) rfl ?_
    refine m_run 1 (ps' := (64, [some (.inr (.inl 0)), some (.inl wh)], [.inl (-1000001)], mW (n, T, h, t, x) M, 0, 0)) rfl ?_
    exact m_ret1 rfl (Or.inl rfl) rfl (m_Vi (by unfold plFS; simp [*, bI] <;> omega))
  · refine m_tabIn (tgt := 28) rfl ⟨by decide, by decide⟩ (by decide) (by decide) rfl rfl ?_
    refine m_run 2 (ps' := (32, [some (.inr (.inl 0)), some (.inl 0)], [.inr (.inl 1)], mW (n, T, h, t, x) M, 0, 0)) rfl ?_
    refine m_callVF [] [] rfl rfl ⟨_, rfl, rfl⟩ rfl rfl (k_pl hR) ?_
    show m_Sem X 69 (35, [some (.inr (.inl 0)), some (.inl 0)], [.inl (bI (plS n tb))], mW (n, T, h, t, x) M, 0, 0) _
    refine m_if rfl (bI_R (plS n tb)) (fun (zc1 : (bI (plS n tb)) = 0) => ?_) (fun (zc1 : ¬ (bI (plS n tb)) = 0) => ?_)
    · replace zc1 : (plS n tb) = false := bI_e0.mp zc1
      refine m_run 1 (ps' := (43, [some (.inr (.inl 0)), some (.inl 0)], [.inl 0], mW (n, T, h, t, x) M, 0, 0)) rfl ?_
      exact m_ret1 rfl (Or.inl rfl) rfl (m_Vi (by unfold plFS; simp [*, bI] <;> omega))
    · replace zc1 : (plS n tb) = true := bI_n0.mp zc1
      refine m_run 2 (ps' := (43, [some (.inr (.inl 0)), some (.inl 0)], [.inl 1], mW (n, T, h, t, x) M, 0, 0)) rfl ?_
      exact m_ret1 rfl (Or.inl rfl) rfl (m_Vi (by unfold plFS; simp [*, bI] <;> omega))
  · refine m_tabIn (tgt := 44) rfl ⟨by decide, by decide⟩ (by decide) (by decide) rfl rfl ?_
    refine m_run 3 (ps' := (49, [some (.inr (.inl 0)), some (.inl 1)], [.inl 1, .inr (.inl 2)], mW (n, T, h, t, x) M, 0, 0)) rfl ?_
    refine m_callSF [.inr (.inl 2), .inl 1] [] rfl rfl rfl (k_pa (r := true) hR) ?_
    show m_Sem X 69 (52, [some (.inr (.inl 0)), some (.inl 1)], [.inl (paS n tb true)], mW (n, T, h, t, x) M, 0, 0) _
    exact m_ret1 rfl (Or.inl rfl) rfl (m_Vi (by unfold plFS; simp [*, bI] <;> omega))
  · refine m_tabIn (tgt := 53) rfl ⟨by decide, by decide⟩ (by decide) (by decide) rfl rfl ?_
    refine m_run 3 (ps' := (58, [some (.inr (.inl 0)), some (.inl 2)], [.inl 0, .inr (.inl 2)], mW (n, T, h, t, x) M, 0, 0)) rfl ?_
    refine m_callSF [.inr (.inl 2), .inl 0] [] rfl rfl rfl (k_pa (r := false) hR) ?_
    show m_Sem X 69 (61, [some (.inr (.inl 0)), some (.inl 2)], [.inl (paS n tb false)], mW (n, T, h, t, x) M, 0, 0) _
    exact m_ret1 rfl (Or.inl rfl) rfl (m_Vi (by unfold plFS; simp [*, bI] <;> omega))
  · refine m_tabOut (tgt := 62) rfl ⟨by omega, by omega⟩ (Or.inr (by omega)) rfl ?_
    refine m_run 1 (ps' := (64, [some (.inr (.inl 0)), some (.inl wh)], [.inl (-1000001)], mW (n, T, h, t, x) M, 0, 0)) rfl ?_
    exact m_ret1 rfl (Or.inl rfl) rfl (m_Vi (by unfold plFS; simp [*, bI] <;> omega))
def triFS (n : Int) (tb : Int → Int → Int) (p l m k i j : Int) : Int :=
  if (ixS l n && ixS m n && ixS k n && decide (l ≠ m) && decide (l ≠ k) && decide (m ≠ k)) = false then -1000001
  else if (ixS i (n - 1) && ixS j (n - 1) && decide (i ≠ j)) = false then -1000001
  else if inN (NP n) p = false then -1000001 else if plS n tb = false then -1000002 else triC n tb p l m k i j
def hexFS (n : Int) (tb : Int → Int → Int) (l m : Int) : Int := if inN (NP n) l = false then -1000001 else if inN (NP n) m = false then -1000001 else if l = m then -1000001 else if n < 3 then -1000002 else if plS n tb = false then -1000002 else bI (hexC n tb l m)
def mirFS (n : Int) (tb : Int → Int → Int) (l p : Int) : Int := if inN (NP n) l = false then -1000001 else if inN (NP n) p = false then -1000001 else if plS n tb = false then -1000002 else talS n tb l p
set_option maxHeartbeats 4000000 in
set_option maxRecDepth 100000 in
theorem k_ftri {X : Nat × Nat × (Nat → Int32)} {n : Int} {T : Int → Int} {h : HS} {t : TS} {x : XS} {M : MS} {tb : Int → Int → Int} {p l m k i j : Int} (hp : m_R p) (hll : m_R l) (hm : m_R m) (hk : m_R k) (hi : m_R i) (hj : m_R j) (hR : repC n T tb) : m_Run X 70 [.inr (.inl 0), .inl p, .inl l, .inl m, .inl k, .inl i, .inl j] (mW (n, T, h, t, x) M) (m_V (triFS n tb p l m k i j) (mW (n, T, h, t, x) M)) := by
  have hn := hR.1
  have hl := okN_lo hn
  have hq := sq_b hn
  show m_Sem X 70 (0, [some (.inr (.inl 0)), some (.inl p), some (.inl l), some (.inl m), some (.inl k), some (.inl i), some (.inl j), none, none, none], [], mW (n, T, h, t, x) M, 0, 0) _
  refine m_run 6 (ps' := (12, [some (.inr (.inl 0)), some (.inl p), some (.inl l), some (.inl m), some (.inl k), some (.inl i), some (.inl j), some (.inl n), none, none], [.inl n, .inl l], mW (n, T, h, t, x) M, 0, 0)) rfl ?_
  refine m_callSF [.inl l, .inl n] [] rfl rfl rfl (k_ix (i := l) (l := n) hll ⟨by omega, by omega⟩) ?_
  show m_Sem X 70 (15, [some (.inr (.inl 0)), some (.inl p), some (.inl l), some (.inl m), some (.inl k), some (.inl i), some (.inl j), some (.inl n), none, none], [.inl (bI (ixS l n))], mW (n, T, h, t, x) M, 0, 0) _
  refine m_if rfl (bI_R _) (fun (zc1 : (bI (ixS l n)) = 0) => ?_) (fun (zc1 : ¬ (bI (ixS l n)) = 0) => ?_)
  · replace zc1 : (ixS l n) = false := bI_e0.mp zc1
    refine m_run 6 (ps' := (67, [some (.inr (.inl 0)), some (.inl p), some (.inl l), some (.inl m), some (.inl k), some (.inl i), some (.inl j), some (.inl n), some (.inl 0), none], [.inl (n - 1), .inl i], mW (n, T, h, t, x) M, 0, 0)) rfl ?_
    refine m_callSF [.inl i, .inl (n - 1)] [] rfl rfl rfl (k_ix (i := i) (l := (n - 1)) hi ⟨by omega, by omega⟩) ?_
    show m_Sem X 70 (70, [some (.inr (.inl 0)), some (.inl p), some (.inl l), some (.inl m), some (.inl k), some (.inl i), some (.inl j), some (.inl n), some (.inl 0), none], [.inl (bI (ixS i (n - 1)))], mW (n, T, h, t, x) M, 0, 0) _
    refine m_if rfl (bI_R _) (fun (zc2 : (bI (ixS i (n - 1))) = 0) => ?_) (fun (zc2 : ¬ (bI (ixS i (n - 1))) = 0) => ?_)
    · replace zc2 : (ixS i (n - 1)) = false := bI_e0.mp zc2
      refine m_run 5 (ps' := (104, [some (.inr (.inl 0)), some (.inl p), some (.inl l), some (.inl m), some (.inl k), some (.inl i), some (.inl j), some (.inl n), some (.inl 0), some (.inl 0)], [.inl p, .inr (.inl 1)], mW (n, T, h, t, x) M, 0, 0)) rfl ?_
      refine m_callVF [.inl p] [] rfl rfl ⟨_, rfl, rfl⟩ rfl rfl (k_phas (e := p) hR hp) ?_
      show m_Sem X 70 (107, [some (.inr (.inl 0)), some (.inl p), some (.inl l), some (.inl m), some (.inl k), some (.inl i), some (.inl j), some (.inl n), some (.inl 0), some (.inl 0)], [.inl (bI (inN (NP n) p))], mW (n, T, h, t, x) M, 0, 0) _
      refine m_if rfl (bI_R _) (fun (zc3 : (bI (inN (NP n) p)) = 0) => ?_) (fun (zc3 : ¬ (bI (inN (NP n) p)) = 0) => ?_)
      · replace zc3 : (inN (NP n) p) = false := bI_e0.mp zc3
        refine m_run 1 (ps' := (122, [some (.inr (.inl 0)), some (.inl p), some (.inl l), some (.inl m), some (.inl k), some (.inl i), some (.inl j), some (.inl n), some (.inl 0), some (.inl 0)], [.inl (-1000001)], mW (n, T, h, t, x) M, 0, 0)) rfl ?_
        exact m_ret1 rfl (Or.inl rfl) rfl (m_Vi (by unfold triFS; simp [*]))
      · replace zc3 : (inN (NP n) p) = true := bI_n0.mp zc3
        have zi1 := inN_i.mp zc3
        unfold NP at zi1
        refine m_run 1 (ps' := (112, [some (.inr (.inl 0)), some (.inl p), some (.inl l), some (.inl m), some (.inl k), some (.inl i), some (.inl j), some (.inl n), some (.inl 0), some (.inl 0)], [.inl 0], mW (n, T, h, t, x) M, 0, 0)) rfl ?_
        refine m_if rfl ⟨by omega, by omega⟩ (fun (zc4 : 0 = 0) => ?_) (fun (zc4 : ¬ 0 = 0) => absurd zc4 (not_not_intro (by omega)))
        refine m_run 1 (ps' := (122, [some (.inr (.inl 0)), some (.inl p), some (.inl l), some (.inl m), some (.inl k), some (.inl i), some (.inl j), some (.inl n), some (.inl 0), some (.inl 0)], [.inl (-1000001)], mW (n, T, h, t, x) M, 0, 0)) rfl ?_
        exact m_ret1 rfl (Or.inl rfl) rfl (m_Vi (by unfold triFS; simp [*]))
    · replace zc2 : (ixS i (n - 1)) = true := bI_n0.mp zc2
      have zi1 := ixS_i.mp zc2
      refine m_run 4 (ps' := (79, [some (.inr (.inl 0)), some (.inl p), some (.inl l), some (.inl m), some (.inl k), some (.inl i), some (.inl j), some (.inl n), some (.inl 0), none], [.inl (n - 1), .inl j], mW (n, T, h, t, x) M, 0, 0)) rfl ?_
      refine m_callSF [.inl j, .inl (n - 1)] [] rfl rfl rfl (k_ix (i := j) (l := (n - 1)) hj ⟨by omega, by omega⟩) ?_
      show m_Sem X 70 (82, [some (.inr (.inl 0)), some (.inl p), some (.inl l), some (.inl m), some (.inl k), some (.inl i), some (.inl j), some (.inl n), some (.inl 0), none], [.inl (bI (ixS j (n - 1)))], mW (n, T, h, t, x) M, 0, 0) _
      refine m_if rfl (bI_R _) (fun (zc3 : (bI (ixS j (n - 1))) = 0) => ?_) (fun (zc3 : ¬ (bI (ixS j (n - 1))) = 0) => ?_)
      · replace zc3 : (ixS j (n - 1)) = false := bI_e0.mp zc3
        refine m_run 5 (ps' := (104, [some (.inr (.inl 0)), some (.inl p), some (.inl l), some (.inl m), some (.inl k), some (.inl i), some (.inl j), some (.inl n), some (.inl 0), some (.inl 0)], [.inl p, .inr (.inl 1)], mW (n, T, h, t, x) M, 0, 0)) rfl ?_
        refine m_callVF [.inl p] [] rfl rfl ⟨_, rfl, rfl⟩ rfl rfl (k_phas (e := p) hR hp) ?_
        show m_Sem X 70 (107, [some (.inr (.inl 0)), some (.inl p), some (.inl l), some (.inl m), some (.inl k), some (.inl i), some (.inl j), some (.inl n), some (.inl 0), some (.inl 0)], [.inl (bI (inN (NP n) p))], mW (n, T, h, t, x) M, 0, 0) _
        refine m_if rfl (bI_R _) (fun (zc4 : (bI (inN (NP n) p)) = 0) => ?_) (fun (zc4 : ¬ (bI (inN (NP n) p)) = 0) => ?_)
        · replace zc4 : (inN (NP n) p) = false := bI_e0.mp zc4
          refine m_run 1 (ps' := (122, [some (.inr (.inl 0)), some (.inl p), some (.inl l), some (.inl m), some (.inl k), some (.inl i), some (.inl j), some (.inl n), some (.inl 0), some (.inl 0)], [.inl (-1000001)], mW (n, T, h, t, x) M, 0, 0)) rfl ?_
          exact m_ret1 rfl (Or.inl rfl) rfl (m_Vi (by unfold triFS; simp [*]))
        · replace zc4 : (inN (NP n) p) = true := bI_n0.mp zc4
          have zi2 := inN_i.mp zc4
          unfold NP at zi2
          refine m_run 1 (ps' := (112, [some (.inr (.inl 0)), some (.inl p), some (.inl l), some (.inl m), some (.inl k), some (.inl i), some (.inl j), some (.inl n), some (.inl 0), some (.inl 0)], [.inl 0], mW (n, T, h, t, x) M, 0, 0)) rfl ?_
          refine m_if rfl ⟨by omega, by omega⟩ (fun (zc5 : 0 = 0) => ?_) (fun (zc5 : ¬ 0 = 0) => absurd zc5 (not_not_intro (by omega)))
          refine m_run 1 (ps' := (122, [some (.inr (.inl 0)), some (.inl p), some (.inl l), some (.inl m), some (.inl k), some (.inl i), some (.inl j), some (.inl n), some (.inl 0), some (.inl 0)], [.inl (-1000001)], mW (n, T, h, t, x) M, 0, 0)) rfl ?_
          exact m_ret1 rfl (Or.inl rfl) rfl (m_Vi (by unfold triFS; simp [*]))
      · replace zc3 : (ixS j (n - 1)) = true := bI_n0.mp zc3
        have zi2 := ixS_i.mp zc3
        refine m_run 2 (ps' := (89, [some (.inr (.inl 0)), some (.inl p), some (.inl l), some (.inl m), some (.inl k), some (.inl i), some (.inl j), some (.inl n), some (.inl 0), none], [.inl j, .inl i], mW (n, T, h, t, x) M, 0, 0)) rfl ?_
        refine m_icmp rfl hi hj (fun (zc4 : i = j) => ?_) (fun (zc4 : ¬ i = j) => ?_)
        · refine m_run 5 (ps' := (104, [some (.inr (.inl 0)), some (.inl p), some (.inl l), some (.inl m), some (.inl k), some (.inl i), some (.inl j), some (.inl n), some (.inl 0), some (.inl 0)], [.inl p, .inr (.inl 1)], mW (n, T, h, t, x) M, 0, 0)) rfl ?_
          refine m_callVF [.inl p] [] rfl rfl ⟨_, rfl, rfl⟩ rfl rfl (k_phas (e := p) hR hp) ?_
          show m_Sem X 70 (107, [some (.inr (.inl 0)), some (.inl p), some (.inl l), some (.inl m), some (.inl k), some (.inl i), some (.inl j), some (.inl n), some (.inl 0), some (.inl 0)], [.inl (bI (inN (NP n) p))], mW (n, T, h, t, x) M, 0, 0) _
          refine m_if rfl (bI_R _) (fun (zc5 : (bI (inN (NP n) p)) = 0) => ?_) (fun (zc5 : ¬ (bI (inN (NP n) p)) = 0) => ?_)
          · replace zc5 : (inN (NP n) p) = false := bI_e0.mp zc5
            refine m_run 1 (ps' := (122, [some (.inr (.inl 0)), some (.inl p), some (.inl l), some (.inl m), some (.inl k), some (.inl i), some (.inl j), some (.inl n), some (.inl 0), some (.inl 0)], [.inl (-1000001)], mW (n, T, h, t, x) M, 0, 0)) rfl ?_
            exact m_ret1 rfl (Or.inl rfl) rfl (m_Vi (by unfold triFS; simp [*]))
          · replace zc5 : (inN (NP n) p) = true := bI_n0.mp zc5
            have zi3 := inN_i.mp zc5
            unfold NP at zi3
            refine m_run 1 (ps' := (112, [some (.inr (.inl 0)), some (.inl p), some (.inl l), some (.inl m), some (.inl k), some (.inl i), some (.inl j), some (.inl n), some (.inl 0), some (.inl 0)], [.inl 0], mW (n, T, h, t, x) M, 0, 0)) rfl ?_
            refine m_if rfl ⟨by omega, by omega⟩ (fun (zc6 : 0 = 0) => ?_) (fun (zc6 : ¬ 0 = 0) => absurd zc6 (not_not_intro (by omega)))
            refine m_run 1 (ps' := (122, [some (.inr (.inl 0)), some (.inl p), some (.inl l), some (.inl m), some (.inl k), some (.inl i), some (.inl j), some (.inl n), some (.inl 0), some (.inl 0)], [.inl (-1000001)], mW (n, T, h, t, x) M, 0, 0)) rfl ?_
            exact m_ret1 rfl (Or.inl rfl) rfl (m_Vi (by unfold triFS; simp [*]))
        · refine m_run 6 (ps' := (104, [some (.inr (.inl 0)), some (.inl p), some (.inl l), some (.inl m), some (.inl k), some (.inl i), some (.inl j), some (.inl n), some (.inl 0), some (.inl 1)], [.inl p, .inr (.inl 1)], mW (n, T, h, t, x) M, 0, 0)) rfl ?_
          refine m_callVF [.inl p] [] rfl rfl ⟨_, rfl, rfl⟩ rfl rfl (k_phas (e := p) hR hp) ?_
          show m_Sem X 70 (107, [some (.inr (.inl 0)), some (.inl p), some (.inl l), some (.inl m), some (.inl k), some (.inl i), some (.inl j), some (.inl n), some (.inl 0), some (.inl 1)], [.inl (bI (inN (NP n) p))], mW (n, T, h, t, x) M, 0, 0) _
          refine m_if rfl (bI_R _) (fun (zc5 : (bI (inN (NP n) p)) = 0) => ?_) (fun (zc5 : ¬ (bI (inN (NP n) p)) = 0) => ?_)
          · replace zc5 : (inN (NP n) p) = false := bI_e0.mp zc5
            refine m_run 1 (ps' := (122, [some (.inr (.inl 0)), some (.inl p), some (.inl l), some (.inl m), some (.inl k), some (.inl i), some (.inl j), some (.inl n), some (.inl 0), some (.inl 1)], [.inl (-1000001)], mW (n, T, h, t, x) M, 0, 0)) rfl ?_
            exact m_ret1 rfl (Or.inl rfl) rfl (m_Vi (by unfold triFS; simp [*]))
          · replace zc5 : (inN (NP n) p) = true := bI_n0.mp zc5
            have zi3 := inN_i.mp zc5
            unfold NP at zi3
            refine m_run 1 (ps' := (112, [some (.inr (.inl 0)), some (.inl p), some (.inl l), some (.inl m), some (.inl k), some (.inl i), some (.inl j), some (.inl n), some (.inl 0), some (.inl 1)], [.inl 0], mW (n, T, h, t, x) M, 0, 0)) rfl ?_
            refine m_if rfl ⟨by omega, by omega⟩ (fun (zc6 : 0 = 0) => ?_) (fun (zc6 : ¬ 0 = 0) => absurd zc6 (not_not_intro (by omega)))
            refine m_run 1 (ps' := (122, [some (.inr (.inl 0)), some (.inl p), some (.inl l), some (.inl m), some (.inl k), some (.inl i), some (.inl j), some (.inl n), some (.inl 0), some (.inl 1)], [.inl (-1000001)], mW (n, T, h, t, x) M, 0, 0)) rfl ?_
            exact m_ret1 rfl (Or.inl rfl) rfl (m_Vi (by unfold triFS; simp [*]))
  · replace zc1 : (ixS l n) = true := bI_n0.mp zc1
    have zi1 := ixS_i.mp zc1
    refine m_run 2 (ps' := (21, [some (.inr (.inl 0)), some (.inl p), some (.inl l), some (.inl m), some (.inl k), some (.inl i), some (.inl j), some (.inl n), none, none], [.inl n, .inl m], mW (n, T, h, t, x) M, 0, 0)) rfl ?_
    refine m_callSF [.inl m, .inl n] [] rfl rfl rfl (k_ix (i := m) (l := n) hm ⟨by omega, by omega⟩) ?_
    show m_Sem X 70 (24, [some (.inr (.inl 0)), some (.inl p), some (.inl l), some (.inl m), some (.inl k), some (.inl i), some (.inl j), some (.inl n), none, none], [.inl (bI (ixS m n))], mW (n, T, h, t, x) M, 0, 0) _
    refine m_if rfl (bI_R _) (fun (zc2 : (bI (ixS m n)) = 0) => ?_) (fun (zc2 : ¬ (bI (ixS m n)) = 0) => ?_)
    · replace zc2 : (ixS m n) = false := bI_e0.mp zc2
      refine m_run 6 (ps' := (67, [some (.inr (.inl 0)), some (.inl p), some (.inl l), some (.inl m), some (.inl k), some (.inl i), some (.inl j), some (.inl n), some (.inl 0), none], [.inl (n - 1), .inl i], mW (n, T, h, t, x) M, 0, 0)) rfl ?_
      refine m_callSF [.inl i, .inl (n - 1)] [] rfl rfl rfl (k_ix (i := i) (l := (n - 1)) hi ⟨by omega, by omega⟩) ?_
      show m_Sem X 70 (70, [some (.inr (.inl 0)), some (.inl p), some (.inl l), some (.inl m), some (.inl k), some (.inl i), some (.inl j), some (.inl n), some (.inl 0), none], [.inl (bI (ixS i (n - 1)))], mW (n, T, h, t, x) M, 0, 0) _
      refine m_if rfl (bI_R _) (fun (zc3 : (bI (ixS i (n - 1))) = 0) => ?_) (fun (zc3 : ¬ (bI (ixS i (n - 1))) = 0) => ?_)
      · replace zc3 : (ixS i (n - 1)) = false := bI_e0.mp zc3
        refine m_run 5 (ps' := (104, [some (.inr (.inl 0)), some (.inl p), some (.inl l), some (.inl m), some (.inl k), some (.inl i), some (.inl j), some (.inl n), some (.inl 0), some (.inl 0)], [.inl p, .inr (.inl 1)], mW (n, T, h, t, x) M, 0, 0)) rfl ?_
        refine m_callVF [.inl p] [] rfl rfl ⟨_, rfl, rfl⟩ rfl rfl (k_phas (e := p) hR hp) ?_
        show m_Sem X 70 (107, [some (.inr (.inl 0)), some (.inl p), some (.inl l), some (.inl m), some (.inl k), some (.inl i), some (.inl j), some (.inl n), some (.inl 0), some (.inl 0)], [.inl (bI (inN (NP n) p))], mW (n, T, h, t, x) M, 0, 0) _
        refine m_if rfl (bI_R _) (fun (zc4 : (bI (inN (NP n) p)) = 0) => ?_) (fun (zc4 : ¬ (bI (inN (NP n) p)) = 0) => ?_)
        · replace zc4 : (inN (NP n) p) = false := bI_e0.mp zc4
          refine m_run 1 (ps' := (122, [some (.inr (.inl 0)), some (.inl p), some (.inl l), some (.inl m), some (.inl k), some (.inl i), some (.inl j), some (.inl n), some (.inl 0), some (.inl 0)], [.inl (-1000001)], mW (n, T, h, t, x) M, 0, 0)) rfl ?_
          exact m_ret1 rfl (Or.inl rfl) rfl (m_Vi (by unfold triFS; simp [*]))
        · replace zc4 : (inN (NP n) p) = true := bI_n0.mp zc4
          have zi2 := inN_i.mp zc4
          unfold NP at zi2
          refine m_run 1 (ps' := (112, [some (.inr (.inl 0)), some (.inl p), some (.inl l), some (.inl m), some (.inl k), some (.inl i), some (.inl j), some (.inl n), some (.inl 0), some (.inl 0)], [.inl 0], mW (n, T, h, t, x) M, 0, 0)) rfl ?_
          refine m_if rfl ⟨by omega, by omega⟩ (fun (zc5 : 0 = 0) => ?_) (fun (zc5 : ¬ 0 = 0) => absurd zc5 (not_not_intro (by omega)))
          refine m_run 1 (ps' := (122, [some (.inr (.inl 0)), some (.inl p), some (.inl l), some (.inl m), some (.inl k), some (.inl i), some (.inl j), some (.inl n), some (.inl 0), some (.inl 0)], [.inl (-1000001)], mW (n, T, h, t, x) M, 0, 0)) rfl ?_
          exact m_ret1 rfl (Or.inl rfl) rfl (m_Vi (by unfold triFS; simp [*]))
      · replace zc3 : (ixS i (n - 1)) = true := bI_n0.mp zc3
        have zi2 := ixS_i.mp zc3
        refine m_run 4 (ps' := (79, [some (.inr (.inl 0)), some (.inl p), some (.inl l), some (.inl m), some (.inl k), some (.inl i), some (.inl j), some (.inl n), some (.inl 0), none], [.inl (n - 1), .inl j], mW (n, T, h, t, x) M, 0, 0)) rfl ?_
        refine m_callSF [.inl j, .inl (n - 1)] [] rfl rfl rfl (k_ix (i := j) (l := (n - 1)) hj ⟨by omega, by omega⟩) ?_
        show m_Sem X 70 (82, [some (.inr (.inl 0)), some (.inl p), some (.inl l), some (.inl m), some (.inl k), some (.inl i), some (.inl j), some (.inl n), some (.inl 0), none], [.inl (bI (ixS j (n - 1)))], mW (n, T, h, t, x) M, 0, 0) _
        refine m_if rfl (bI_R _) (fun (zc4 : (bI (ixS j (n - 1))) = 0) => ?_) (fun (zc4 : ¬ (bI (ixS j (n - 1))) = 0) => ?_)
        · replace zc4 : (ixS j (n - 1)) = false := bI_e0.mp zc4
          refine m_run 5 (ps' := (104, [some (.inr (.inl 0)), some (.inl p), some (.inl l), some (.inl m), some (.inl k), some (.inl i), some (.inl j), some (.inl n), some (.inl 0), some (.inl 0)], [.inl p, .inr (.inl 1)], mW (n, T, h, t, x) M, 0, 0)) rfl ?_
          refine m_callVF [.inl p] [] rfl rfl ⟨_, rfl, rfl⟩ rfl rfl (k_phas (e := p) hR hp) ?_
          show m_Sem X 70 (107, [some (.inr (.inl 0)), some (.inl p), some (.inl l), some (.inl m), some (.inl k), some (.inl i), some (.inl j), some (.inl n), some (.inl 0), some (.inl 0)], [.inl (bI (inN (NP n) p))], mW (n, T, h, t, x) M, 0, 0) _
          refine m_if rfl (bI_R _) (fun (zc5 : (bI (inN (NP n) p)) = 0) => ?_) (fun (zc5 : ¬ (bI (inN (NP n) p)) = 0) => ?_)
          · replace zc5 : (inN (NP n) p) = false := bI_e0.mp zc5
            refine m_run 1 (ps' := (122, [some (.inr (.inl 0)), some (.inl p), some (.inl l), some (.inl m), some (.inl k), some (.inl i), some (.inl j), some (.inl n), some (.inl 0), some (.inl 0)], [.inl (-1000001)], mW (n, T, h, t, x) M, 0, 0)) rfl ?_
            exact m_ret1 rfl (Or.inl rfl) rfl (m_Vi (by unfold triFS; simp [*]))
          · replace zc5 : (inN (NP n) p) = true := bI_n0.mp zc5
            have zi3 := inN_i.mp zc5
            unfold NP at zi3
            refine m_run 1 (ps' := (112, [some (.inr (.inl 0)), some (.inl p), some (.inl l), some (.inl m), some (.inl k), some (.inl i), some (.inl j), some (.inl n), some (.inl 0), some (.inl 0)], [.inl 0], mW (n, T, h, t, x) M, 0, 0)) rfl ?_
            refine m_if rfl ⟨by omega, by omega⟩ (fun (zc6 : 0 = 0) => ?_) (fun (zc6 : ¬ 0 = 0) => absurd zc6 (not_not_intro (by omega)))
            refine m_run 1 (ps' := (122, [some (.inr (.inl 0)), some (.inl p), some (.inl l), some (.inl m), some (.inl k), some (.inl i), some (.inl j), some (.inl n), some (.inl 0), some (.inl 0)], [.inl (-1000001)], mW (n, T, h, t, x) M, 0, 0)) rfl ?_
            exact m_ret1 rfl (Or.inl rfl) rfl (m_Vi (by unfold triFS; simp [*]))
        · replace zc4 : (ixS j (n - 1)) = true := bI_n0.mp zc4
          have zi3 := ixS_i.mp zc4
          refine m_run 2 (ps' := (89, [some (.inr (.inl 0)), some (.inl p), some (.inl l), some (.inl m), some (.inl k), some (.inl i), some (.inl j), some (.inl n), some (.inl 0), none], [.inl j, .inl i], mW (n, T, h, t, x) M, 0, 0)) rfl ?_
          refine m_icmp rfl hi hj (fun (zc5 : i = j) => ?_) (fun (zc5 : ¬ i = j) => ?_)
          · refine m_run 5 (ps' := (104, [some (.inr (.inl 0)), some (.inl p), some (.inl l), some (.inl m), some (.inl k), some (.inl i), some (.inl j), some (.inl n), some (.inl 0), some (.inl 0)], [.inl p, .inr (.inl 1)], mW (n, T, h, t, x) M, 0, 0)) rfl ?_
            refine m_callVF [.inl p] [] rfl rfl ⟨_, rfl, rfl⟩ rfl rfl (k_phas (e := p) hR hp) ?_
            show m_Sem X 70 (107, [some (.inr (.inl 0)), some (.inl p), some (.inl l), some (.inl m), some (.inl k), some (.inl i), some (.inl j), some (.inl n), some (.inl 0), some (.inl 0)], [.inl (bI (inN (NP n) p))], mW (n, T, h, t, x) M, 0, 0) _
            refine m_if rfl (bI_R _) (fun (zc6 : (bI (inN (NP n) p)) = 0) => ?_) (fun (zc6 : ¬ (bI (inN (NP n) p)) = 0) => ?_)
            · replace zc6 : (inN (NP n) p) = false := bI_e0.mp zc6
              refine m_run 1 (ps' := (122, [some (.inr (.inl 0)), some (.inl p), some (.inl l), some (.inl m), some (.inl k), some (.inl i), some (.inl j), some (.inl n), some (.inl 0), some (.inl 0)], [.inl (-1000001)], mW (n, T, h, t, x) M, 0, 0)) rfl ?_
              exact m_ret1 rfl (Or.inl rfl) rfl (m_Vi (by unfold triFS; simp [*]))
            · replace zc6 : (inN (NP n) p) = true := bI_n0.mp zc6
              have zi4 := inN_i.mp zc6
              unfold NP at zi4
              refine m_run 1 (ps' := (112, [some (.inr (.inl 0)), some (.inl p), some (.inl l), some (.inl m), some (.inl k), some (.inl i), some (.inl j), some (.inl n), some (.inl 0), some (.inl 0)], [.inl 0], mW (n, T, h, t, x) M, 0, 0)) rfl ?_
              refine m_if rfl ⟨by omega, by omega⟩ (fun (zc7 : 0 = 0) => ?_) (fun (zc7 : ¬ 0 = 0) => absurd zc7 (not_not_intro (by omega)))
              refine m_run 1 (ps' := (122, [some (.inr (.inl 0)), some (.inl p), some (.inl l), some (.inl m), some (.inl k), some (.inl i), some (.inl j), some (.inl n), some (.inl 0), some (.inl 0)], [.inl (-1000001)], mW (n, T, h, t, x) M, 0, 0)) rfl ?_
              exact m_ret1 rfl (Or.inl rfl) rfl (m_Vi (by unfold triFS; simp [*]))
          · refine m_run 6 (ps' := (104, [some (.inr (.inl 0)), some (.inl p), some (.inl l), some (.inl m), some (.inl k), some (.inl i), some (.inl j), some (.inl n), some (.inl 0), some (.inl 1)], [.inl p, .inr (.inl 1)], mW (n, T, h, t, x) M, 0, 0)) rfl ?_
            refine m_callVF [.inl p] [] rfl rfl ⟨_, rfl, rfl⟩ rfl rfl (k_phas (e := p) hR hp) ?_
            show m_Sem X 70 (107, [some (.inr (.inl 0)), some (.inl p), some (.inl l), some (.inl m), some (.inl k), some (.inl i), some (.inl j), some (.inl n), some (.inl 0), some (.inl 1)], [.inl (bI (inN (NP n) p))], mW (n, T, h, t, x) M, 0, 0) _
            refine m_if rfl (bI_R _) (fun (zc6 : (bI (inN (NP n) p)) = 0) => ?_) (fun (zc6 : ¬ (bI (inN (NP n) p)) = 0) => ?_)
            · replace zc6 : (inN (NP n) p) = false := bI_e0.mp zc6
              refine m_run 1 (ps' := (122, [some (.inr (.inl 0)), some (.inl p), some (.inl l), some (.inl m), some (.inl k), some (.inl i), some (.inl j), some (.inl n), some (.inl 0), some (.inl 1)], [.inl (-1000001)], mW (n, T, h, t, x) M, 0, 0)) rfl ?_
              exact m_ret1 rfl (Or.inl rfl) rfl (m_Vi (by unfold triFS; simp [*]))
            · replace zc6 : (inN (NP n) p) = true := bI_n0.mp zc6
              have zi4 := inN_i.mp zc6
              unfold NP at zi4
              refine m_run 1 (ps' := (112, [some (.inr (.inl 0)), some (.inl p), some (.inl l), some (.inl m), some (.inl k), some (.inl i), some (.inl j), some (.inl n), some (.inl 0), some (.inl 1)], [.inl 0], mW (n, T, h, t, x) M, 0, 0)) rfl ?_
              refine m_if rfl ⟨by omega, by omega⟩ (fun (zc7 : 0 = 0) => ?_) (fun (zc7 : ¬ 0 = 0) => absurd zc7 (not_not_intro (by omega)))
              refine m_run 1 (ps' := (122, [some (.inr (.inl 0)), some (.inl p), some (.inl l), some (.inl m), some (.inl k), some (.inl i), some (.inl j), some (.inl n), some (.inl 0), some (.inl 1)], [.inl (-1000001)], mW (n, T, h, t, x) M, 0, 0)) rfl ?_
              exact m_ret1 rfl (Or.inl rfl) rfl (m_Vi (by unfold triFS; simp [*]))
    · replace zc2 : (ixS m n) = true := bI_n0.mp zc2
      have zi2 := ixS_i.mp zc2
      refine m_run 2 (ps' := (31, [some (.inr (.inl 0)), some (.inl p), some (.inl l), some (.inl m), some (.inl k), some (.inl i), some (.inl j), some (.inl n), none, none], [.inl n, .inl k], mW (n, T, h, t, x) M, 0, 0)) rfl ?_
      refine m_callSF [.inl k, .inl n] [] rfl rfl rfl (k_ix (i := k) (l := n) hk ⟨by omega, by omega⟩) ?_
      show m_Sem X 70 (34, [some (.inr (.inl 0)), some (.inl p), some (.inl l), some (.inl m), some (.inl k), some (.inl i), some (.inl j), some (.inl n), none, none], [.inl (bI (ixS k n))], mW (n, T, h, t, x) M, 0, 0) _
      refine m_if rfl (bI_R _) (fun (zc3 : (bI (ixS k n)) = 0) => ?_) (fun (zc3 : ¬ (bI (ixS k n)) = 0) => ?_)
      · replace zc3 : (ixS k n) = false := bI_e0.mp zc3
        refine m_run 6 (ps' := (67, [some (.inr (.inl 0)), some (.inl p), some (.inl l), some (.inl m), some (.inl k), some (.inl i), some (.inl j), some (.inl n), some (.inl 0), none], [.inl (n - 1), .inl i], mW (n, T, h, t, x) M, 0, 0)) rfl ?_
        refine m_callSF [.inl i, .inl (n - 1)] [] rfl rfl rfl (k_ix (i := i) (l := (n - 1)) hi ⟨by omega, by omega⟩) ?_
        show m_Sem X 70 (70, [some (.inr (.inl 0)), some (.inl p), some (.inl l), some (.inl m), some (.inl k), some (.inl i), some (.inl j), some (.inl n), some (.inl 0), none], [.inl (bI (ixS i (n - 1)))], mW (n, T, h, t, x) M, 0, 0) _
        refine m_if rfl (bI_R _) (fun (zc4 : (bI (ixS i (n - 1))) = 0) => ?_) (fun (zc4 : ¬ (bI (ixS i (n - 1))) = 0) => ?_)
        · replace zc4 : (ixS i (n - 1)) = false := bI_e0.mp zc4
          refine m_run 5 (ps' := (104, [some (.inr (.inl 0)), some (.inl p), some (.inl l), some (.inl m), some (.inl k), some (.inl i), some (.inl j), some (.inl n), some (.inl 0), some (.inl 0)], [.inl p, .inr (.inl 1)], mW (n, T, h, t, x) M, 0, 0)) rfl ?_
          refine m_callVF [.inl p] [] rfl rfl ⟨_, rfl, rfl⟩ rfl rfl (k_phas (e := p) hR hp) ?_
          show m_Sem X 70 (107, [some (.inr (.inl 0)), some (.inl p), some (.inl l), some (.inl m), some (.inl k), some (.inl i), some (.inl j), some (.inl n), some (.inl 0), some (.inl 0)], [.inl (bI (inN (NP n) p))], mW (n, T, h, t, x) M, 0, 0) _
          refine m_if rfl (bI_R _) (fun (zc5 : (bI (inN (NP n) p)) = 0) => ?_) (fun (zc5 : ¬ (bI (inN (NP n) p)) = 0) => ?_)
          · replace zc5 : (inN (NP n) p) = false := bI_e0.mp zc5
            refine m_run 1 (ps' := (122, [some (.inr (.inl 0)), some (.inl p), some (.inl l), some (.inl m), some (.inl k), some (.inl i), some (.inl j), some (.inl n), some (.inl 0), some (.inl 0)], [.inl (-1000001)], mW (n, T, h, t, x) M, 0, 0)) rfl ?_
            exact m_ret1 rfl (Or.inl rfl) rfl (m_Vi (by unfold triFS; simp [*]))
          · replace zc5 : (inN (NP n) p) = true := bI_n0.mp zc5
            have zi3 := inN_i.mp zc5
            unfold NP at zi3
            refine m_run 1 (ps' := (112, [some (.inr (.inl 0)), some (.inl p), some (.inl l), some (.inl m), some (.inl k), some (.inl i), some (.inl j), some (.inl n), some (.inl 0), some (.inl 0)], [.inl 0], mW (n, T, h, t, x) M, 0, 0)) rfl ?_
            refine m_if rfl ⟨by omega, by omega⟩ (fun (zc6 : 0 = 0) => ?_) (fun (zc6 : ¬ 0 = 0) => absurd zc6 (not_not_intro (by omega)))
            refine m_run 1 (ps' := (122, [some (.inr (.inl 0)), some (.inl p), some (.inl l), some (.inl m), some (.inl k), some (.inl i), some (.inl j), some (.inl n), some (.inl 0), some (.inl 0)], [.inl (-1000001)], mW (n, T, h, t, x) M, 0, 0)) rfl ?_
            exact m_ret1 rfl (Or.inl rfl) rfl (m_Vi (by unfold triFS; simp [*]))
        · replace zc4 : (ixS i (n - 1)) = true := bI_n0.mp zc4
          have zi3 := ixS_i.mp zc4
          refine m_run 4 (ps' := (79, [some (.inr (.inl 0)), some (.inl p), some (.inl l), some (.inl m), some (.inl k), some (.inl i), some (.inl j), some (.inl n), some (.inl 0), none], [.inl (n - 1), .inl j], mW (n, T, h, t, x) M, 0, 0)) rfl ?_
          refine m_callSF [.inl j, .inl (n - 1)] [] rfl rfl rfl (k_ix (i := j) (l := (n - 1)) hj ⟨by omega, by omega⟩) ?_
          show m_Sem X 70 (82, [some (.inr (.inl 0)), some (.inl p), some (.inl l), some (.inl m), some (.inl k), some (.inl i), some (.inl j), some (.inl n), some (.inl 0), none], [.inl (bI (ixS j (n - 1)))], mW (n, T, h, t, x) M, 0, 0) _
          refine m_if rfl (bI_R _) (fun (zc5 : (bI (ixS j (n - 1))) = 0) => ?_) (fun (zc5 : ¬ (bI (ixS j (n - 1))) = 0) => ?_)
          · replace zc5 : (ixS j (n - 1)) = false := bI_e0.mp zc5
            refine m_run 5 (ps' := (104, [some (.inr (.inl 0)), some (.inl p), some (.inl l), some (.inl m), some (.inl k), some (.inl i), some (.inl j), some (.inl n), some (.inl 0), some (.inl 0)], [.inl p, .inr (.inl 1)], mW (n, T, h, t, x) M, 0, 0)) rfl ?_
            refine m_callVF [.inl p] [] rfl rfl ⟨_, rfl, rfl⟩ rfl rfl (k_phas (e := p) hR hp) ?_
            show m_Sem X 70 (107, [some (.inr (.inl 0)), some (.inl p), some (.inl l), some (.inl m), some (.inl k), some (.inl i), some (.inl j), some (.inl n), some (.inl 0), some (.inl 0)], [.inl (bI (inN (NP n) p))], mW (n, T, h, t, x) M, 0, 0) _
            refine m_if rfl (bI_R _) (fun (zc6 : (bI (inN (NP n) p)) = 0) => ?_) (fun (zc6 : ¬ (bI (inN (NP n) p)) = 0) => ?_)
            · replace zc6 : (inN (NP n) p) = false := bI_e0.mp zc6
              refine m_run 1 (ps' := (122, [some (.inr (.inl 0)), some (.inl p), some (.inl l), some (.inl m), some (.inl k), some (.inl i), some (.inl j), some (.inl n), some (.inl 0), some (.inl 0)], [.inl (-1000001)], mW (n, T, h, t, x) M, 0, 0)) rfl ?_
              exact m_ret1 rfl (Or.inl rfl) rfl (m_Vi (by unfold triFS; simp [*]))
            · replace zc6 : (inN (NP n) p) = true := bI_n0.mp zc6
              have zi4 := inN_i.mp zc6
              unfold NP at zi4
              refine m_run 1 (ps' := (112, [some (.inr (.inl 0)), some (.inl p), some (.inl l), some (.inl m), some (.inl k), some (.inl i), some (.inl j), some (.inl n), some (.inl 0), some (.inl 0)], [.inl 0], mW (n, T, h, t, x) M, 0, 0)) rfl ?_
              refine m_if rfl ⟨by omega, by omega⟩ (fun (zc7 : 0 = 0) => ?_) (fun (zc7 : ¬ 0 = 0) => absurd zc7 (not_not_intro (by omega)))
              refine m_run 1 (ps' := (122, [some (.inr (.inl 0)), some (.inl p), some (.inl l), some (.inl m), some (.inl k), some (.inl i), some (.inl j), some (.inl n), some (.inl 0), some (.inl 0)], [.inl (-1000001)], mW (n, T, h, t, x) M, 0, 0)) rfl ?_
              exact m_ret1 rfl (Or.inl rfl) rfl (m_Vi (by unfold triFS; simp [*]))
          · replace zc5 : (ixS j (n - 1)) = true := bI_n0.mp zc5
            have zi4 := ixS_i.mp zc5
            refine m_run 2 (ps' := (89, [some (.inr (.inl 0)), some (.inl p), some (.inl l), some (.inl m), some (.inl k), some (.inl i), some (.inl j), some (.inl n), some (.inl 0), none], [.inl j, .inl i], mW (n, T, h, t, x) M, 0, 0)) rfl ?_
            refine m_icmp rfl hi hj (fun (zc6 : i = j) => ?_) (fun (zc6 : ¬ i = j) => ?_)
            · refine m_run 5 (ps' := (104, [some (.inr (.inl 0)), some (.inl p), some (.inl l), some (.inl m), some (.inl k), some (.inl i), some (.inl j), some (.inl n), some (.inl 0), some (.inl 0)], [.inl p, .inr (.inl 1)], mW (n, T, h, t, x) M, 0, 0)) rfl ?_
              refine m_callVF [.inl p] [] rfl rfl ⟨_, rfl, rfl⟩ rfl rfl (k_phas (e := p) hR hp) ?_
              show m_Sem X 70 (107, [some (.inr (.inl 0)), some (.inl p), some (.inl l), some (.inl m), some (.inl k), some (.inl i), some (.inl j), some (.inl n), some (.inl 0), some (.inl 0)], [.inl (bI (inN (NP n) p))], mW (n, T, h, t, x) M, 0, 0) _
              refine m_if rfl (bI_R _) (fun (zc7 : (bI (inN (NP n) p)) = 0) => ?_) (fun (zc7 : ¬ (bI (inN (NP n) p)) = 0) => ?_)
              · replace zc7 : (inN (NP n) p) = false := bI_e0.mp zc7
                refine m_run 1 (ps' := (122, [some (.inr (.inl 0)), some (.inl p), some (.inl l), some (.inl m), some (.inl k), some (.inl i), some (.inl j), some (.inl n), some (.inl 0), some (.inl 0)], [.inl (-1000001)], mW (n, T, h, t, x) M, 0, 0)) rfl ?_
                exact m_ret1 rfl (Or.inl rfl) rfl (m_Vi (by unfold triFS; simp [*]))
              · replace zc7 : (inN (NP n) p) = true := bI_n0.mp zc7
                have zi5 := inN_i.mp zc7
                unfold NP at zi5
                refine m_run 1 (ps' := (112, [some (.inr (.inl 0)), some (.inl p), some (.inl l), some (.inl m), some (.inl k), some (.inl i), some (.inl j), some (.inl n), some (.inl 0), some (.inl 0)], [.inl 0], mW (n, T, h, t, x) M, 0, 0)) rfl ?_
                refine m_if rfl ⟨by omega, by omega⟩ (fun (zc8 : 0 = 0) => ?_) (fun (zc8 : ¬ 0 = 0) => absurd zc8 (not_not_intro (by omega)))
                refine m_run 1 (ps' := (122, [some (.inr (.inl 0)), some (.inl p), some (.inl l), some (.inl m), some (.inl k), some (.inl i), some (.inl j), some (.inl n), some (.inl 0), some (.inl 0)], [.inl (-1000001)], mW (n, T, h, t, x) M, 0, 0)) rfl ?_
                exact m_ret1 rfl (Or.inl rfl) rfl (m_Vi (by unfold triFS; simp [*]))
            · refine m_run 6 (ps' := (104, [some (.inr (.inl 0)), some (.inl p), some (.inl l), some (.inl m), some (.inl k), some (.inl i), some (.inl j), some (.inl n), some (.inl 0), some (.inl 1)], [.inl p, .inr (.inl 1)], mW (n, T, h, t, x) M, 0, 0)) rfl ?_
              refine m_callVF [.inl p] [] rfl rfl ⟨_, rfl, rfl⟩ rfl rfl (k_phas (e := p) hR hp) ?_
              show m_Sem X 70 (107, [some (.inr (.inl 0)), some (.inl p), some (.inl l), some (.inl m), some (.inl k), some (.inl i), some (.inl j), some (.inl n), some (.inl 0), some (.inl 1)], [.inl (bI (inN (NP n) p))], mW (n, T, h, t, x) M, 0, 0) _
              refine m_if rfl (bI_R _) (fun (zc7 : (bI (inN (NP n) p)) = 0) => ?_) (fun (zc7 : ¬ (bI (inN (NP n) p)) = 0) => ?_)
              · replace zc7 : (inN (NP n) p) = false := bI_e0.mp zc7
                refine m_run 1 (ps' := (122, [some (.inr (.inl 0)), some (.inl p), some (.inl l), some (.inl m), some (.inl k), some (.inl i), some (.inl j), some (.inl n), some (.inl 0), some (.inl 1)], [.inl (-1000001)], mW (n, T, h, t, x) M, 0, 0)) rfl ?_
                exact m_ret1 rfl (Or.inl rfl) rfl (m_Vi (by unfold triFS; simp [*]))
              · replace zc7 : (inN (NP n) p) = true := bI_n0.mp zc7
                have zi5 := inN_i.mp zc7
                unfold NP at zi5
                refine m_run 1 (ps' := (112, [some (.inr (.inl 0)), some (.inl p), some (.inl l), some (.inl m), some (.inl k), some (.inl i), some (.inl j), some (.inl n), some (.inl 0), some (.inl 1)], [.inl 0], mW (n, T, h, t, x) M, 0, 0)) rfl ?_
                refine m_if rfl ⟨by omega, by omega⟩ (fun (zc8 : 0 = 0) => ?_) (fun (zc8 : ¬ 0 = 0) => absurd zc8 (not_not_intro (by omega)))
                refine m_run 1 (ps' := (122, [some (.inr (.inl 0)), some (.inl p), some (.inl l), some (.inl m), some (.inl k), some (.inl i), some (.inl j), some (.inl n), some (.inl 0), some (.inl 1)], [.inl (-1000001)], mW (n, T, h, t, x) M, 0, 0)) rfl ?_
                exact m_ret1 rfl (Or.inl rfl) rfl (m_Vi (by unfold triFS; simp [*]))
      · replace zc3 : (ixS k n) = true := bI_n0.mp zc3
        have zi3 := ixS_i.mp zc3
        refine m_run 2 (ps' := (39, [some (.inr (.inl 0)), some (.inl p), some (.inl l), some (.inl m), some (.inl k), some (.inl i), some (.inl j), some (.inl n), none, none], [.inl m, .inl l], mW (n, T, h, t, x) M, 0, 0)) rfl ?_
        refine m_icmp rfl hll hm (fun (zc4 : l = m) => ?_) (fun (zc4 : ¬ l = m) => ?_)
        · refine m_run 6 (ps' := (67, [some (.inr (.inl 0)), some (.inl p), some (.inl l), some (.inl m), some (.inl k), some (.inl i), some (.inl j), some (.inl n), some (.inl 0), none], [.inl (n - 1), .inl i], mW (n, T, h, t, x) M, 0, 0)) rfl ?_
          refine m_callSF [.inl i, .inl (n - 1)] [] rfl rfl rfl (k_ix (i := i) (l := (n - 1)) hi ⟨by omega, by omega⟩) ?_
          show m_Sem X 70 (70, [some (.inr (.inl 0)), some (.inl p), some (.inl l), some (.inl m), some (.inl k), some (.inl i), some (.inl j), some (.inl n), some (.inl 0), none], [.inl (bI (ixS i (n - 1)))], mW (n, T, h, t, x) M, 0, 0) _
          refine m_if rfl (bI_R _) (fun (zc5 : (bI (ixS i (n - 1))) = 0) => ?_) (fun (zc5 : ¬ (bI (ixS i (n - 1))) = 0) => ?_)
          · replace zc5 : (ixS i (n - 1)) = false := bI_e0.mp zc5
            refine m_run 5 (ps' := (104, [some (.inr (.inl 0)), some (.inl p), some (.inl l), some (.inl m), some (.inl k), some (.inl i), some (.inl j), some (.inl n), some (.inl 0), some (.inl 0)], [.inl p, .inr (.inl 1)], mW (n, T, h, t, x) M, 0, 0)) rfl ?_
            refine m_callVF [.inl p] [] rfl rfl ⟨_, rfl, rfl⟩ rfl rfl (k_phas (e := p) hR hp) ?_
            show m_Sem X 70 (107, [some (.inr (.inl 0)), some (.inl p), some (.inl l), some (.inl m), some (.inl k), some (.inl i), some (.inl j), some (.inl n), some (.inl 0), some (.inl 0)], [.inl (bI (inN (NP n) p))], mW (n, T, h, t, x) M, 0, 0) _
            refine m_if rfl (bI_R _) (fun (zc6 : (bI (inN (NP n) p)) = 0) => ?_) (fun (zc6 : ¬ (bI (inN (NP n) p)) = 0) => ?_)
            · replace zc6 : (inN (NP n) p) = false := bI_e0.mp zc6
              refine m_run 1 (ps' := (122, [some (.inr (.inl 0)), some (.inl p), some (.inl l), some (.inl m), some (.inl k), some (.inl i), some (.inl j), some (.inl n), some (.inl 0), some (.inl 0)], [.inl (-1000001)], mW (n, T, h, t, x) M, 0, 0)) rfl ?_
              exact m_ret1 rfl (Or.inl rfl) rfl (m_Vi (by unfold triFS; simp [*]))
            · replace zc6 : (inN (NP n) p) = true := bI_n0.mp zc6
              have zi4 := inN_i.mp zc6
              unfold NP at zi4
              refine m_run 1 (ps' := (112, [some (.inr (.inl 0)), some (.inl p), some (.inl l), some (.inl m), some (.inl k), some (.inl i), some (.inl j), some (.inl n), some (.inl 0), some (.inl 0)], [.inl 0], mW (n, T, h, t, x) M, 0, 0)) rfl ?_
              refine m_if rfl ⟨by omega, by omega⟩ (fun (zc7 : 0 = 0) => ?_) (fun (zc7 : ¬ 0 = 0) => absurd zc7 (not_not_intro (by omega)))
              refine m_run 1 (ps' := (122, [some (.inr (.inl 0)), some (.inl p), some (.inl l), some (.inl m), some (.inl k), some (.inl i), some (.inl j), some (.inl n), some (.inl 0), some (.inl 0)], [.inl (-1000001)], mW (n, T, h, t, x) M, 0, 0)) rfl ?_
              exact m_ret1 rfl (Or.inl rfl) rfl (m_Vi (by unfold triFS; simp [*]))
          · replace zc5 : (ixS i (n - 1)) = true := bI_n0.mp zc5
            have zi4 := ixS_i.mp zc5
            refine m_run 4 (ps' := (79, [some (.inr (.inl 0)), some (.inl p), some (.inl l), some (.inl m), some (.inl k), some (.inl i), some (.inl j), some (.inl n), some (.inl 0), none], [.inl (n - 1), .inl j], mW (n, T, h, t, x) M, 0, 0)) rfl ?_
            refine m_callSF [.inl j, .inl (n - 1)] [] rfl rfl rfl (k_ix (i := j) (l := (n - 1)) hj ⟨by omega, by omega⟩) ?_
            show m_Sem X 70 (82, [some (.inr (.inl 0)), some (.inl p), some (.inl l), some (.inl m), some (.inl k), some (.inl i), some (.inl j), some (.inl n), some (.inl 0), none], [.inl (bI (ixS j (n - 1)))], mW (n, T, h, t, x) M, 0, 0) _
            refine m_if rfl (bI_R _) (fun (zc6 : (bI (ixS j (n - 1))) = 0) => ?_) (fun (zc6 : ¬ (bI (ixS j (n - 1))) = 0) => ?_)
            · replace zc6 : (ixS j (n - 1)) = false := bI_e0.mp zc6
              refine m_run 5 (ps' := (104, [some (.inr (.inl 0)), some (.inl p), some (.inl l), some (.inl m), some (.inl k), some (.inl i), some (.inl j), some (.inl n), some (.inl 0), some (.inl 0)], [.inl p, .inr (.inl 1)], mW (n, T, h, t, x) M, 0, 0)) rfl ?_
              refine m_callVF [.inl p] [] rfl rfl ⟨_, rfl, rfl⟩ rfl rfl (k_phas (e := p) hR hp) ?_
              show m_Sem X 70 (107, [some (.inr (.inl 0)), some (.inl p), some (.inl l), some (.inl m), some (.inl k), some (.inl i), some (.inl j), some (.inl n), some (.inl 0), some (.inl 0)], [.inl (bI (inN (NP n) p))], mW (n, T, h, t, x) M, 0, 0) _
              refine m_if rfl (bI_R _) (fun (zc7 : (bI (inN (NP n) p)) = 0) => ?_) (fun (zc7 : ¬ (bI (inN (NP n) p)) = 0) => ?_)
              · replace zc7 : (inN (NP n) p) = false := bI_e0.mp zc7
                refine m_run 1 (ps' := (122, [some (.inr (.inl 0)), some (.inl p), some (.inl l), some (.inl m), some (.inl k), some (.inl i), some (.inl j), some (.inl n), some (.inl 0), some (.inl 0)], [.inl (-1000001)], mW (n, T, h, t, x) M, 0, 0)) rfl ?_
                exact m_ret1 rfl (Or.inl rfl) rfl (m_Vi (by unfold triFS; simp [*]))
              · replace zc7 : (inN (NP n) p) = true := bI_n0.mp zc7
                have zi5 := inN_i.mp zc7
                unfold NP at zi5
                refine m_run 1 (ps' := (112, [some (.inr (.inl 0)), some (.inl p), some (.inl l), some (.inl m), some (.inl k), some (.inl i), some (.inl j), some (.inl n), some (.inl 0), some (.inl 0)], [.inl 0], mW (n, T, h, t, x) M, 0, 0)) rfl ?_
                refine m_if rfl ⟨by omega, by omega⟩ (fun (zc8 : 0 = 0) => ?_) (fun (zc8 : ¬ 0 = 0) => absurd zc8 (not_not_intro (by omega)))
                refine m_run 1 (ps' := (122, [some (.inr (.inl 0)), some (.inl p), some (.inl l), some (.inl m), some (.inl k), some (.inl i), some (.inl j), some (.inl n), some (.inl 0), some (.inl 0)], [.inl (-1000001)], mW (n, T, h, t, x) M, 0, 0)) rfl ?_
                exact m_ret1 rfl (Or.inl rfl) rfl (m_Vi (by unfold triFS; simp [*]))
            · replace zc6 : (ixS j (n - 1)) = true := bI_n0.mp zc6
              have zi5 := ixS_i.mp zc6
              refine m_run 2 (ps' := (89, [some (.inr (.inl 0)), some (.inl p), some (.inl l), some (.inl m), some (.inl k), some (.inl i), some (.inl j), some (.inl n), some (.inl 0), none], [.inl j, .inl i], mW (n, T, h, t, x) M, 0, 0)) rfl ?_
              refine m_icmp rfl hi hj (fun (zc7 : i = j) => ?_) (fun (zc7 : ¬ i = j) => ?_)
              · refine m_run 5 (ps' := (104, [some (.inr (.inl 0)), some (.inl p), some (.inl l), some (.inl m), some (.inl k), some (.inl i), some (.inl j), some (.inl n), some (.inl 0), some (.inl 0)], [.inl p, .inr (.inl 1)], mW (n, T, h, t, x) M, 0, 0)) rfl ?_
                refine m_callVF [.inl p] [] rfl rfl ⟨_, rfl, rfl⟩ rfl rfl (k_phas (e := p) hR hp) ?_
                show m_Sem X 70 (107, [some (.inr (.inl 0)), some (.inl p), some (.inl l), some (.inl m), some (.inl k), some (.inl i), some (.inl j), some (.inl n), some (.inl 0), some (.inl 0)], [.inl (bI (inN (NP n) p))], mW (n, T, h, t, x) M, 0, 0) _
                refine m_if rfl (bI_R _) (fun (zc8 : (bI (inN (NP n) p)) = 0) => ?_) (fun (zc8 : ¬ (bI (inN (NP n) p)) = 0) => ?_)
                · replace zc8 : (inN (NP n) p) = false := bI_e0.mp zc8
                  refine m_run 1 (ps' := (122, [some (.inr (.inl 0)), some (.inl p), some (.inl l), some (.inl m), some (.inl k), some (.inl i), some (.inl j), some (.inl n), some (.inl 0), some (.inl 0)], [.inl (-1000001)], mW (n, T, h, t, x) M, 0, 0)) rfl ?_
                  exact m_ret1 rfl (Or.inl rfl) rfl (m_Vi (by unfold triFS; simp [*]))
                · replace zc8 : (inN (NP n) p) = true := bI_n0.mp zc8
                  have zi6 := inN_i.mp zc8
                  unfold NP at zi6
                  refine m_run 1 (ps' := (112, [some (.inr (.inl 0)), some (.inl p), some (.inl l), some (.inl m), some (.inl k), some (.inl i), some (.inl j), some (.inl n), some (.inl 0), some (.inl 0)], [.inl 0], mW (n, T, h, t, x) M, 0, 0)) rfl ?_
                  refine m_if rfl ⟨by omega, by omega⟩ (fun (zc9 : 0 = 0) => ?_) (fun (zc9 : ¬ 0 = 0) => absurd zc9 (not_not_intro (by omega)))
                  refine m_run 1 (ps' := (122, [some (.inr (.inl 0)), some (.inl p), some (.inl l), some (.inl m), some (.inl k), some (.inl i), some (.inl j), some (.inl n), some (.inl 0), some (.inl 0)], [.inl (-1000001)], mW (n, T, h, t, x) M, 0, 0)) rfl ?_
                  exact m_ret1 rfl (Or.inl rfl) rfl (m_Vi (by unfold triFS; simp [*]))
              · refine m_run 6 (ps' := (104, [some (.inr (.inl 0)), some (.inl p), some (.inl l), some (.inl m), some (.inl k), some (.inl i), some (.inl j), some (.inl n), some (.inl 0), some (.inl 1)], [.inl p, .inr (.inl 1)], mW (n, T, h, t, x) M, 0, 0)) rfl ?_
                refine m_callVF [.inl p] [] rfl rfl ⟨_, rfl, rfl⟩ rfl rfl (k_phas (e := p) hR hp) ?_
                show m_Sem X 70 (107, [some (.inr (.inl 0)), some (.inl p), some (.inl l), some (.inl m), some (.inl k), some (.inl i), some (.inl j), some (.inl n), some (.inl 0), some (.inl 1)], [.inl (bI (inN (NP n) p))], mW (n, T, h, t, x) M, 0, 0) _
                refine m_if rfl (bI_R _) (fun (zc8 : (bI (inN (NP n) p)) = 0) => ?_) (fun (zc8 : ¬ (bI (inN (NP n) p)) = 0) => ?_)
                · replace zc8 : (inN (NP n) p) = false := bI_e0.mp zc8
                  refine m_run 1 (ps' := (122, [some (.inr (.inl 0)), some (.inl p), some (.inl l), some (.inl m), some (.inl k), some (.inl i), some (.inl j), some (.inl n), some (.inl 0), some (.inl 1)], [.inl (-1000001)], mW (n, T, h, t, x) M, 0, 0)) rfl ?_
                  exact m_ret1 rfl (Or.inl rfl) rfl (m_Vi (by unfold triFS; simp [*]))
                · replace zc8 : (inN (NP n) p) = true := bI_n0.mp zc8
                  have zi6 := inN_i.mp zc8
                  unfold NP at zi6
                  refine m_run 1 (ps' := (112, [some (.inr (.inl 0)), some (.inl p), some (.inl l), some (.inl m), some (.inl k), some (.inl i), some (.inl j), some (.inl n), some (.inl 0), some (.inl 1)], [.inl 0], mW (n, T, h, t, x) M, 0, 0)) rfl ?_
                  refine m_if rfl ⟨by omega, by omega⟩ (fun (zc9 : 0 = 0) => ?_) (fun (zc9 : ¬ 0 = 0) => absurd zc9 (not_not_intro (by omega)))
                  refine m_run 1 (ps' := (122, [some (.inr (.inl 0)), some (.inl p), some (.inl l), some (.inl m), some (.inl k), some (.inl i), some (.inl j), some (.inl n), some (.inl 0), some (.inl 1)], [.inl (-1000001)], mW (n, T, h, t, x) M, 0, 0)) rfl ?_
                  exact m_ret1 rfl (Or.inl rfl) rfl (m_Vi (by unfold triFS; simp [*]))
        · refine m_run 2 (ps' := (45, [some (.inr (.inl 0)), some (.inl p), some (.inl l), some (.inl m), some (.inl k), some (.inl i), some (.inl j), some (.inl n), none, none], [.inl k, .inl l], mW (n, T, h, t, x) M, 0, 0)) rfl ?_
          refine m_icmp rfl hll hk (fun (zc5 : l = k) => ?_) (fun (zc5 : ¬ l = k) => ?_)
          · refine m_run 6 (ps' := (67, [some (.inr (.inl 0)), some (.inl p), some (.inl l), some (.inl m), some (.inl k), some (.inl i), some (.inl j), some (.inl n), some (.inl 0), none], [.inl (n - 1), .inl i], mW (n, T, h, t, x) M, 0, 0)) rfl ?_
            refine m_callSF [.inl i, .inl (n - 1)] [] rfl rfl rfl (k_ix (i := i) (l := (n - 1)) hi ⟨by omega, by omega⟩) ?_
            show m_Sem X 70 (70, [some (.inr (.inl 0)), some (.inl p), some (.inl l), some (.inl m), some (.inl k), some (.inl i), some (.inl j), some (.inl n), some (.inl 0), none], [.inl (bI (ixS i (n - 1)))], mW (n, T, h, t, x) M, 0, 0) _
            refine m_if rfl (bI_R _) (fun (zc6 : (bI (ixS i (n - 1))) = 0) => ?_) (fun (zc6 : ¬ (bI (ixS i (n - 1))) = 0) => ?_)
            · replace zc6 : (ixS i (n - 1)) = false := bI_e0.mp zc6
              refine m_run 5 (ps' := (104, [some (.inr (.inl 0)), some (.inl p), some (.inl l), some (.inl m), some (.inl k), some (.inl i), some (.inl j), some (.inl n), some (.inl 0), some (.inl 0)], [.inl p, .inr (.inl 1)], mW (n, T, h, t, x) M, 0, 0)) rfl ?_
              refine m_callVF [.inl p] [] rfl rfl ⟨_, rfl, rfl⟩ rfl rfl (k_phas (e := p) hR hp) ?_
              show m_Sem X 70 (107, [some (.inr (.inl 0)), some (.inl p), some (.inl l), some (.inl m), some (.inl k), some (.inl i), some (.inl j), some (.inl n), some (.inl 0), some (.inl 0)], [.inl (bI (inN (NP n) p))], mW (n, T, h, t, x) M, 0, 0) _
              refine m_if rfl (bI_R _) (fun (zc7 : (bI (inN (NP n) p)) = 0) => ?_) (fun (zc7 : ¬ (bI (inN (NP n) p)) = 0) => ?_)
              · replace zc7 : (inN (NP n) p) = false := bI_e0.mp zc7
                refine m_run 1 (ps' := (122, [some (.inr (.inl 0)), some (.inl p), some (.inl l), some (.inl m), some (.inl k), some (.inl i), some (.inl j), some (.inl n), some (.inl 0), some (.inl 0)], [.inl (-1000001)], mW (n, T, h, t, x) M, 0, 0)) rfl ?_
                exact m_ret1 rfl (Or.inl rfl) rfl (m_Vi (by unfold triFS; simp [*]))
              · replace zc7 : (inN (NP n) p) = true := bI_n0.mp zc7
                have zi4 := inN_i.mp zc7
                unfold NP at zi4
                refine m_run 1 (ps' := (112, [some (.inr (.inl 0)), some (.inl p), some (.inl l), some (.inl m), some (.inl k), some (.inl i), some (.inl j), some (.inl n), some (.inl 0), some (.inl 0)], [.inl 0], mW (n, T, h, t, x) M, 0, 0)) rfl ?_
                refine m_if rfl ⟨by omega, by omega⟩ (fun (zc8 : 0 = 0) => ?_) (fun (zc8 : ¬ 0 = 0) => absurd zc8 (not_not_intro (by omega)))
                refine m_run 1 (ps' := (122, [some (.inr (.inl 0)), some (.inl p), some (.inl l), some (.inl m), some (.inl k), some (.inl i), some (.inl j), some (.inl n), some (.inl 0), some (.inl 0)], [.inl (-1000001)], mW (n, T, h, t, x) M, 0, 0)) rfl ?_
                exact m_ret1 rfl (Or.inl rfl) rfl (m_Vi (by unfold triFS; simp [*]))
            · replace zc6 : (ixS i (n - 1)) = true := bI_n0.mp zc6
              have zi4 := ixS_i.mp zc6
              refine m_run 4 (ps' := (79, [some (.inr (.inl 0)), some (.inl p), some (.inl l), some (.inl m), some (.inl k), some (.inl i), some (.inl j), some (.inl n), some (.inl 0), none], [.inl (n - 1), .inl j], mW (n, T, h, t, x) M, 0, 0)) rfl ?_
              refine m_callSF [.inl j, .inl (n - 1)] [] rfl rfl rfl (k_ix (i := j) (l := (n - 1)) hj ⟨by omega, by omega⟩) ?_
              show m_Sem X 70 (82, [some (.inr (.inl 0)), some (.inl p), some (.inl l), some (.inl m), some (.inl k), some (.inl i), some (.inl j), some (.inl n), some (.inl 0), none], [.inl (bI (ixS j (n - 1)))], mW (n, T, h, t, x) M, 0, 0) _
              refine m_if rfl (bI_R _) (fun (zc7 : (bI (ixS j (n - 1))) = 0) => ?_) (fun (zc7 : ¬ (bI (ixS j (n - 1))) = 0) => ?_)
              · replace zc7 : (ixS j (n - 1)) = false := bI_e0.mp zc7
                refine m_run 5 (ps' := (104, [some (.inr (.inl 0)), some (.inl p), some (.inl l), some (.inl m), some (.inl k), some (.inl i), some (.inl j), some (.inl n), some (.inl 0), some (.inl 0)], [.inl p, .inr (.inl 1)], mW (n, T, h, t, x) M, 0, 0)) rfl ?_
                refine m_callVF [.inl p] [] rfl rfl ⟨_, rfl, rfl⟩ rfl rfl (k_phas (e := p) hR hp) ?_
                show m_Sem X 70 (107, [some (.inr (.inl 0)), some (.inl p), some (.inl l), some (.inl m), some (.inl k), some (.inl i), some (.inl j), some (.inl n), some (.inl 0), some (.inl 0)], [.inl (bI (inN (NP n) p))], mW (n, T, h, t, x) M, 0, 0) _
                refine m_if rfl (bI_R _) (fun (zc8 : (bI (inN (NP n) p)) = 0) => ?_) (fun (zc8 : ¬ (bI (inN (NP n) p)) = 0) => ?_)
                · replace zc8 : (inN (NP n) p) = false := bI_e0.mp zc8
                  refine m_run 1 (ps' := (122, [some (.inr (.inl 0)), some (.inl p), some (.inl l), some (.inl m), some (.inl k), some (.inl i), some (.inl j), some (.inl n), some (.inl 0), some (.inl 0)], [.inl (-1000001)], mW (n, T, h, t, x) M, 0, 0)) rfl ?_
                  exact m_ret1 rfl (Or.inl rfl) rfl (m_Vi (by unfold triFS; simp [*]))
                · replace zc8 : (inN (NP n) p) = true := bI_n0.mp zc8
                  have zi5 := inN_i.mp zc8
                  unfold NP at zi5
                  refine m_run 1 (ps' := (112, [some (.inr (.inl 0)), some (.inl p), some (.inl l), some (.inl m), some (.inl k), some (.inl i), some (.inl j), some (.inl n), some (.inl 0), some (.inl 0)], [.inl 0], mW (n, T, h, t, x) M, 0, 0)) rfl ?_
                  refine m_if rfl ⟨by omega, by omega⟩ (fun (zc9 : 0 = 0) => ?_) (fun (zc9 : ¬ 0 = 0) => absurd zc9 (not_not_intro (by omega)))
                  refine m_run 1 (ps' := (122, [some (.inr (.inl 0)), some (.inl p), some (.inl l), some (.inl m), some (.inl k), some (.inl i), some (.inl j), some (.inl n), some (.inl 0), some (.inl 0)], [.inl (-1000001)], mW (n, T, h, t, x) M, 0, 0)) rfl ?_
                  exact m_ret1 rfl (Or.inl rfl) rfl (m_Vi (by unfold triFS; simp [*]))
              · replace zc7 : (ixS j (n - 1)) = true := bI_n0.mp zc7
                have zi5 := ixS_i.mp zc7
                refine m_run 2 (ps' := (89, [some (.inr (.inl 0)), some (.inl p), some (.inl l), some (.inl m), some (.inl k), some (.inl i), some (.inl j), some (.inl n), some (.inl 0), none], [.inl j, .inl i], mW (n, T, h, t, x) M, 0, 0)) rfl ?_
                refine m_icmp rfl hi hj (fun (zc8 : i = j) => ?_) (fun (zc8 : ¬ i = j) => ?_)
                · refine m_run 5 (ps' := (104, [some (.inr (.inl 0)), some (.inl p), some (.inl l), some (.inl m), some (.inl k), some (.inl i), some (.inl j), some (.inl n), some (.inl 0), some (.inl 0)], [.inl p, .inr (.inl 1)], mW (n, T, h, t, x) M, 0, 0)) rfl ?_
                  refine m_callVF [.inl p] [] rfl rfl ⟨_, rfl, rfl⟩ rfl rfl (k_phas (e := p) hR hp) ?_
                  show m_Sem X 70 (107, [some (.inr (.inl 0)), some (.inl p), some (.inl l), some (.inl m), some (.inl k), some (.inl i), some (.inl j), some (.inl n), some (.inl 0), some (.inl 0)], [.inl (bI (inN (NP n) p))], mW (n, T, h, t, x) M, 0, 0) _
                  refine m_if rfl (bI_R _) (fun (zc9 : (bI (inN (NP n) p)) = 0) => ?_) (fun (zc9 : ¬ (bI (inN (NP n) p)) = 0) => ?_)
                  · replace zc9 : (inN (NP n) p) = false := bI_e0.mp zc9
                    refine m_run 1 (ps' := (122, [some (.inr (.inl 0)), some (.inl p), some (.inl l), some (.inl m), some (.inl k), some (.inl i), some (.inl j), some (.inl n), some (.inl 0), some (.inl 0)], [.inl (-1000001)], mW (n, T, h, t, x) M, 0, 0)) rfl ?_
                    exact m_ret1 rfl (Or.inl rfl) rfl (m_Vi (by unfold triFS; simp [*]))
                  · replace zc9 : (inN (NP n) p) = true := bI_n0.mp zc9
                    have zi6 := inN_i.mp zc9
                    unfold NP at zi6
                    refine m_run 1 (ps' := (112, [some (.inr (.inl 0)), some (.inl p), some (.inl l), some (.inl m), some (.inl k), some (.inl i), some (.inl j), some (.inl n), some (.inl 0), some (.inl 0)], [.inl 0], mW (n, T, h, t, x) M, 0, 0)) rfl ?_
                    refine m_if rfl ⟨by omega, by omega⟩ (fun (zc10 : 0 = 0) => ?_) (fun (zc10 : ¬ 0 = 0) => absurd zc10 (not_not_intro (by omega)))
                    refine m_run 1 (ps' := (122, [some (.inr (.inl 0)), some (.inl p), some (.inl l), some (.inl m), some (.inl k), some (.inl i), some (.inl j), some (.inl n), some (.inl 0), some (.inl 0)], [.inl (-1000001)], mW (n, T, h, t, x) M, 0, 0)) rfl ?_
                    exact m_ret1 rfl (Or.inl rfl) rfl (m_Vi (by unfold triFS; simp [*]))
                · refine m_run 6 (ps' := (104, [some (.inr (.inl 0)), some (.inl p), some (.inl l), some (.inl m), some (.inl k), some (.inl i), some (.inl j), some (.inl n), some (.inl 0), some (.inl 1)], [.inl p, .inr (.inl 1)], mW (n, T, h, t, x) M, 0, 0)) rfl ?_
                  refine m_callVF [.inl p] [] rfl rfl ⟨_, rfl, rfl⟩ rfl rfl (k_phas (e := p) hR hp) ?_
                  show m_Sem X 70 (107, [some (.inr (.inl 0)), some (.inl p), some (.inl l), some (.inl m), some (.inl k), some (.inl i), some (.inl j), some (.inl n), some (.inl 0), some (.inl 1)], [.inl (bI (inN (NP n) p))], mW (n, T, h, t, x) M, 0, 0) _
                  refine m_if rfl (bI_R _) (fun (zc9 : (bI (inN (NP n) p)) = 0) => ?_) (fun (zc9 : ¬ (bI (inN (NP n) p)) = 0) => ?_)
                  · replace zc9 : (inN (NP n) p) = false := bI_e0.mp zc9
                    refine m_run 1 (ps' := (122, [some (.inr (.inl 0)), some (.inl p), some (.inl l), some (.inl m), some (.inl k), some (.inl i), some (.inl j), some (.inl n), some (.inl 0), some (.inl 1)], [.inl (-1000001)], mW (n, T, h, t, x) M, 0, 0)) rfl ?_
                    exact m_ret1 rfl (Or.inl rfl) rfl (m_Vi (by unfold triFS; simp [*]))
                  · replace zc9 : (inN (NP n) p) = true := bI_n0.mp zc9
                    have zi6 := inN_i.mp zc9
                    unfold NP at zi6
                    refine m_run 1 (ps' := (112, [some (.inr (.inl 0)), some (.inl p), some (.inl l), some (.inl m), some (.inl k), some (.inl i), some (.inl j), some (.inl n), some (.inl 0), some (.inl 1)], [.inl 0], mW (n, T, h, t, x) M, 0, 0)) rfl ?_
                    refine m_if rfl ⟨by omega, by omega⟩ (fun (zc10 : 0 = 0) => ?_) (fun (zc10 : ¬ 0 = 0) => absurd zc10 (not_not_intro (by omega)))
                    refine m_run 1 (ps' := (122, [some (.inr (.inl 0)), some (.inl p), some (.inl l), some (.inl m), some (.inl k), some (.inl i), some (.inl j), some (.inl n), some (.inl 0), some (.inl 1)], [.inl (-1000001)], mW (n, T, h, t, x) M, 0, 0)) rfl ?_
                    exact m_ret1 rfl (Or.inl rfl) rfl (m_Vi (by unfold triFS; simp [*]))
          · refine m_run 2 (ps' := (51, [some (.inr (.inl 0)), some (.inl p), some (.inl l), some (.inl m), some (.inl k), some (.inl i), some (.inl j), some (.inl n), none, none], [.inl k, .inl m], mW (n, T, h, t, x) M, 0, 0)) rfl ?_
            refine m_icmp rfl hm hk (fun (zc6 : m = k) => ?_) (fun (zc6 : ¬ m = k) => ?_)
            · refine m_run 6 (ps' := (67, [some (.inr (.inl 0)), some (.inl p), some (.inl l), some (.inl m), some (.inl k), some (.inl i), some (.inl j), some (.inl n), some (.inl 0), none], [.inl (n - 1), .inl i], mW (n, T, h, t, x) M, 0, 0)) rfl ?_
              refine m_callSF [.inl i, .inl (n - 1)] [] rfl rfl rfl (k_ix (i := i) (l := (n - 1)) hi ⟨by omega, by omega⟩) ?_
              show m_Sem X 70 (70, [some (.inr (.inl 0)), some (.inl p), some (.inl l), some (.inl m), some (.inl k), some (.inl i), some (.inl j), some (.inl n), some (.inl 0), none], [.inl (bI (ixS i (n - 1)))], mW (n, T, h, t, x) M, 0, 0) _
              refine m_if rfl (bI_R _) (fun (zc7 : (bI (ixS i (n - 1))) = 0) => ?_) (fun (zc7 : ¬ (bI (ixS i (n - 1))) = 0) => ?_)
              · replace zc7 : (ixS i (n - 1)) = false := bI_e0.mp zc7
                refine m_run 5 (ps' := (104, [some (.inr (.inl 0)), some (.inl p), some (.inl l), some (.inl m), some (.inl k), some (.inl i), some (.inl j), some (.inl n), some (.inl 0), some (.inl 0)], [.inl p, .inr (.inl 1)], mW (n, T, h, t, x) M, 0, 0)) rfl ?_
                refine m_callVF [.inl p] [] rfl rfl ⟨_, rfl, rfl⟩ rfl rfl (k_phas (e := p) hR hp) ?_
                show m_Sem X 70 (107, [some (.inr (.inl 0)), some (.inl p), some (.inl l), some (.inl m), some (.inl k), some (.inl i), some (.inl j), some (.inl n), some (.inl 0), some (.inl 0)], [.inl (bI (inN (NP n) p))], mW (n, T, h, t, x) M, 0, 0) _
                refine m_if rfl (bI_R _) (fun (zc8 : (bI (inN (NP n) p)) = 0) => ?_) (fun (zc8 : ¬ (bI (inN (NP n) p)) = 0) => ?_)
                · replace zc8 : (inN (NP n) p) = false := bI_e0.mp zc8
                  refine m_run 1 (ps' := (122, [some (.inr (.inl 0)), some (.inl p), some (.inl l), some (.inl m), some (.inl k), some (.inl i), some (.inl j), some (.inl n), some (.inl 0), some (.inl 0)], [.inl (-1000001)], mW (n, T, h, t, x) M, 0, 0)) rfl ?_
                  exact m_ret1 rfl (Or.inl rfl) rfl (m_Vi (by unfold triFS; simp [*]))
                · replace zc8 : (inN (NP n) p) = true := bI_n0.mp zc8
                  have zi4 := inN_i.mp zc8
                  unfold NP at zi4
                  refine m_run 1 (ps' := (112, [some (.inr (.inl 0)), some (.inl p), some (.inl l), some (.inl m), some (.inl k), some (.inl i), some (.inl j), some (.inl n), some (.inl 0), some (.inl 0)], [.inl 0], mW (n, T, h, t, x) M, 0, 0)) rfl ?_
                  refine m_if rfl ⟨by omega, by omega⟩ (fun (zc9 : 0 = 0) => ?_) (fun (zc9 : ¬ 0 = 0) => absurd zc9 (not_not_intro (by omega)))
                  refine m_run 1 (ps' := (122, [some (.inr (.inl 0)), some (.inl p), some (.inl l), some (.inl m), some (.inl k), some (.inl i), some (.inl j), some (.inl n), some (.inl 0), some (.inl 0)], [.inl (-1000001)], mW (n, T, h, t, x) M, 0, 0)) rfl ?_
                  exact m_ret1 rfl (Or.inl rfl) rfl (m_Vi (by unfold triFS; simp [*]))
              · replace zc7 : (ixS i (n - 1)) = true := bI_n0.mp zc7
                have zi4 := ixS_i.mp zc7
                refine m_run 4 (ps' := (79, [some (.inr (.inl 0)), some (.inl p), some (.inl l), some (.inl m), some (.inl k), some (.inl i), some (.inl j), some (.inl n), some (.inl 0), none], [.inl (n - 1), .inl j], mW (n, T, h, t, x) M, 0, 0)) rfl ?_
                refine m_callSF [.inl j, .inl (n - 1)] [] rfl rfl rfl (k_ix (i := j) (l := (n - 1)) hj ⟨by omega, by omega⟩) ?_
                show m_Sem X 70 (82, [some (.inr (.inl 0)), some (.inl p), some (.inl l), some (.inl m), some (.inl k), some (.inl i), some (.inl j), some (.inl n), some (.inl 0), none], [.inl (bI (ixS j (n - 1)))], mW (n, T, h, t, x) M, 0, 0) _
                refine m_if rfl (bI_R _) (fun (zc8 : (bI (ixS j (n - 1))) = 0) => ?_) (fun (zc8 : ¬ (bI (ixS j (n - 1))) = 0) => ?_)
                · replace zc8 : (ixS j (n - 1)) = false := bI_e0.mp zc8
                  refine m_run 5 (ps' := (104, [some (.inr (.inl 0)), some (.inl p), some (.inl l), some (.inl m), some (.inl k), some (.inl i), some (.inl j), some (.inl n), some (.inl 0), some (.inl 0)], [.inl p, .inr (.inl 1)], mW (n, T, h, t, x) M, 0, 0)) rfl ?_
                  refine m_callVF [.inl p] [] rfl rfl ⟨_, rfl, rfl⟩ rfl rfl (k_phas (e := p) hR hp) ?_
                  show m_Sem X 70 (107, [some (.inr (.inl 0)), some (.inl p), some (.inl l), some (.inl m), some (.inl k), some (.inl i), some (.inl j), some (.inl n), some (.inl 0), some (.inl 0)], [.inl (bI (inN (NP n) p))], mW (n, T, h, t, x) M, 0, 0) _
                  refine m_if rfl (bI_R _) (fun (zc9 : (bI (inN (NP n) p)) = 0) => ?_) (fun (zc9 : ¬ (bI (inN (NP n) p)) = 0) => ?_)
                  · replace zc9 : (inN (NP n) p) = false := bI_e0.mp zc9
                    refine m_run 1 (ps' := (122, [some (.inr (.inl 0)), some (.inl p), some (.inl l), some (.inl m), some (.inl k), some (.inl i), some (.inl j), some (.inl n), some (.inl 0), some (.inl 0)], [.inl (-1000001)], mW (n, T, h, t, x) M, 0, 0)) rfl ?_
                    exact m_ret1 rfl (Or.inl rfl) rfl (m_Vi (by unfold triFS; simp [*]))
                  · replace zc9 : (inN (NP n) p) = true := bI_n0.mp zc9
                    have zi5 := inN_i.mp zc9
                    unfold NP at zi5
                    refine m_run 1 (ps' := (112, [some (.inr (.inl 0)), some (.inl p), some (.inl l), some (.inl m), some (.inl k), some (.inl i), some (.inl j), some (.inl n), some (.inl 0), some (.inl 0)], [.inl 0], mW (n, T, h, t, x) M, 0, 0)) rfl ?_
                    refine m_if rfl ⟨by omega, by omega⟩ (fun (zc10 : 0 = 0) => ?_) (fun (zc10 : ¬ 0 = 0) => absurd zc10 (not_not_intro (by omega)))
                    refine m_run 1 (ps' := (122, [some (.inr (.inl 0)), some (.inl p), some (.inl l), some (.inl m), some (.inl k), some (.inl i), some (.inl j), some (.inl n), some (.inl 0), some (.inl 0)], [.inl (-1000001)], mW (n, T, h, t, x) M, 0, 0)) rfl ?_
                    exact m_ret1 rfl (Or.inl rfl) rfl (m_Vi (by unfold triFS; simp [*]))
                · replace zc8 : (ixS j (n - 1)) = true := bI_n0.mp zc8
                  have zi5 := ixS_i.mp zc8
                  refine m_run 2 (ps' := (89, [some (.inr (.inl 0)), some (.inl p), some (.inl l), some (.inl m), some (.inl k), some (.inl i), some (.inl j), some (.inl n), some (.inl 0), none], [.inl j, .inl i], mW (n, T, h, t, x) M, 0, 0)) rfl ?_
                  refine m_icmp rfl hi hj (fun (zc9 : i = j) => ?_) (fun (zc9 : ¬ i = j) => ?_)
                  · refine m_run 5 (ps' := (104, [some (.inr (.inl 0)), some (.inl p), some (.inl l), some (.inl m), some (.inl k), some (.inl i), some (.inl j), some (.inl n), some (.inl 0), some (.inl 0)], [.inl p, .inr (.inl 1)], mW (n, T, h, t, x) M, 0, 0)) rfl ?_
                    refine m_callVF [.inl p] [] rfl rfl ⟨_, rfl, rfl⟩ rfl rfl (k_phas (e := p) hR hp) ?_
                    show m_Sem X 70 (107, [some (.inr (.inl 0)), some (.inl p), some (.inl l), some (.inl m), some (.inl k), some (.inl i), some (.inl j), some (.inl n), some (.inl 0), some (.inl 0)], [.inl (bI (inN (NP n) p))], mW (n, T, h, t, x) M, 0, 0) _
                    refine m_if rfl (bI_R _) (fun (zc10 : (bI (inN (NP n) p)) = 0) => ?_) (fun (zc10 : ¬ (bI (inN (NP n) p)) = 0) => ?_)
                    · replace zc10 : (inN (NP n) p) = false := bI_e0.mp zc10
                      refine m_run 1 (ps' := (122, [some (.inr (.inl 0)), some (.inl p), some (.inl l), some (.inl m), some (.inl k), some (.inl i), some (.inl j), some (.inl n), some (.inl 0), some (.inl 0)], [.inl (-1000001)], mW (n, T, h, t, x) M, 0, 0)) rfl ?_
                      exact m_ret1 rfl (Or.inl rfl) rfl (m_Vi (by unfold triFS; simp [*]))
                    · replace zc10 : (inN (NP n) p) = true := bI_n0.mp zc10
                      have zi6 := inN_i.mp zc10
                      unfold NP at zi6
                      refine m_run 1 (ps' := (112, [some (.inr (.inl 0)), some (.inl p), some (.inl l), some (.inl m), some (.inl k), some (.inl i), some (.inl j), some (.inl n), some (.inl 0), some (.inl 0)], [.inl 0], mW (n, T, h, t, x) M, 0, 0)) rfl ?_
                      refine m_if rfl ⟨by omega, by omega⟩ (fun (zc11 : 0 = 0) => ?_) (fun (zc11 : ¬ 0 = 0) => absurd zc11 (not_not_intro (by omega)))
                      refine m_run 1 (ps' := (122, [some (.inr (.inl 0)), some (.inl p), some (.inl l), some (.inl m), some (.inl k), some (.inl i), some (.inl j), some (.inl n), some (.inl 0), some (.inl 0)], [.inl (-1000001)], mW (n, T, h, t, x) M, 0, 0)) rfl ?_
                      exact m_ret1 rfl (Or.inl rfl) rfl (m_Vi (by unfold triFS; simp [*]))
                  · refine m_run 6 (ps' := (104, [some (.inr (.inl 0)), some (.inl p), some (.inl l), some (.inl m), some (.inl k), some (.inl i), some (.inl j), some (.inl n), some (.inl 0), some (.inl 1)], [.inl p, .inr (.inl 1)], mW (n, T, h, t, x) M, 0, 0)) rfl ?_
                    refine m_callVF [.inl p] [] rfl rfl ⟨_, rfl, rfl⟩ rfl rfl (k_phas (e := p) hR hp) ?_
                    show m_Sem X 70 (107, [some (.inr (.inl 0)), some (.inl p), some (.inl l), some (.inl m), some (.inl k), some (.inl i), some (.inl j), some (.inl n), some (.inl 0), some (.inl 1)], [.inl (bI (inN (NP n) p))], mW (n, T, h, t, x) M, 0, 0) _
                    refine m_if rfl (bI_R _) (fun (zc10 : (bI (inN (NP n) p)) = 0) => ?_) (fun (zc10 : ¬ (bI (inN (NP n) p)) = 0) => ?_)
                    · replace zc10 : (inN (NP n) p) = false := bI_e0.mp zc10
                      refine m_run 1 (ps' := (122, [some (.inr (.inl 0)), some (.inl p), some (.inl l), some (.inl m), some (.inl k), some (.inl i), some (.inl j), some (.inl n), some (.inl 0), some (.inl 1)], [.inl (-1000001)], mW (n, T, h, t, x) M, 0, 0)) rfl ?_
                      exact m_ret1 rfl (Or.inl rfl) rfl (m_Vi (by unfold triFS; simp [*]))
                    · replace zc10 : (inN (NP n) p) = true := bI_n0.mp zc10
                      have zi6 := inN_i.mp zc10
                      unfold NP at zi6
                      refine m_run 1 (ps' := (112, [some (.inr (.inl 0)), some (.inl p), some (.inl l), some (.inl m), some (.inl k), some (.inl i), some (.inl j), some (.inl n), some (.inl 0), some (.inl 1)], [.inl 0], mW (n, T, h, t, x) M, 0, 0)) rfl ?_
                      refine m_if rfl ⟨by omega, by omega⟩ (fun (zc11 : 0 = 0) => ?_) (fun (zc11 : ¬ 0 = 0) => absurd zc11 (not_not_intro (by omega)))
                      refine m_run 1 (ps' := (122, [some (.inr (.inl 0)), some (.inl p), some (.inl l), some (.inl m), some (.inl k), some (.inl i), some (.inl j), some (.inl n), some (.inl 0), some (.inl 1)], [.inl (-1000001)], mW (n, T, h, t, x) M, 0, 0)) rfl ?_
                      exact m_ret1 rfl (Or.inl rfl) rfl (m_Vi (by unfold triFS; simp [*]))
            · refine m_run 7 (ps' := (67, [some (.inr (.inl 0)), some (.inl p), some (.inl l), some (.inl m), some (.inl k), some (.inl i), some (.inl j), some (.inl n), some (.inl 1), none], [.inl (n - 1), .inl i], mW (n, T, h, t, x) M, 0, 0)) rfl ?_
              refine m_callSF [.inl i, .inl (n - 1)] [] rfl rfl rfl (k_ix (i := i) (l := (n - 1)) hi ⟨by omega, by omega⟩) ?_
              show m_Sem X 70 (70, [some (.inr (.inl 0)), some (.inl p), some (.inl l), some (.inl m), some (.inl k), some (.inl i), some (.inl j), some (.inl n), some (.inl 1), none], [.inl (bI (ixS i (n - 1)))], mW (n, T, h, t, x) M, 0, 0) _
              refine m_if rfl (bI_R _) (fun (zc7 : (bI (ixS i (n - 1))) = 0) => ?_) (fun (zc7 : ¬ (bI (ixS i (n - 1))) = 0) => ?_)
              · replace zc7 : (ixS i (n - 1)) = false := bI_e0.mp zc7
                refine m_run 5 (ps' := (104, [some (.inr (.inl 0)), some (.inl p), some (.inl l), some (.inl m), some (.inl k), some (.inl i), some (.inl j), some (.inl n), some (.inl 1), some (.inl 0)], [.inl p, .inr (.inl 1)], mW (n, T, h, t, x) M, 0, 0)) rfl ?_
                refine m_callVF [.inl p] [] rfl rfl ⟨_, rfl, rfl⟩ rfl rfl (k_phas (e := p) hR hp) ?_
                show m_Sem X 70 (107, [some (.inr (.inl 0)), some (.inl p), some (.inl l), some (.inl m), some (.inl k), some (.inl i), some (.inl j), some (.inl n), some (.inl 1), some (.inl 0)], [.inl (bI (inN (NP n) p))], mW (n, T, h, t, x) M, 0, 0) _
                refine m_if rfl (bI_R _) (fun (zc8 : (bI (inN (NP n) p)) = 0) => ?_) (fun (zc8 : ¬ (bI (inN (NP n) p)) = 0) => ?_)
                · replace zc8 : (inN (NP n) p) = false := bI_e0.mp zc8
                  refine m_run 1 (ps' := (122, [some (.inr (.inl 0)), some (.inl p), some (.inl l), some (.inl m), some (.inl k), some (.inl i), some (.inl j), some (.inl n), some (.inl 1), some (.inl 0)], [.inl (-1000001)], mW (n, T, h, t, x) M, 0, 0)) rfl ?_
                  exact m_ret1 rfl (Or.inl rfl) rfl (m_Vi (by unfold triFS; simp [*]))
                · replace zc8 : (inN (NP n) p) = true := bI_n0.mp zc8
                  have zi4 := inN_i.mp zc8
                  unfold NP at zi4
                  refine m_run 1 (ps' := (112, [some (.inr (.inl 0)), some (.inl p), some (.inl l), some (.inl m), some (.inl k), some (.inl i), some (.inl j), some (.inl n), some (.inl 1), some (.inl 0)], [.inl 1], mW (n, T, h, t, x) M, 0, 0)) rfl ?_
                  refine m_if rfl ⟨by omega, by omega⟩ (fun (zc9 : 1 = 0) => absurd zc9 (by omega)) (fun (zc9 : ¬ 1 = 0) => ?_)
                  refine m_run 1 (ps' := (117, [some (.inr (.inl 0)), some (.inl p), some (.inl l), some (.inl m), some (.inl k), some (.inl i), some (.inl j), some (.inl n), some (.inl 1), some (.inl 0)], [.inl 0], mW (n, T, h, t, x) M, 0, 0)) rfl ?_
                  refine m_if rfl ⟨by omega, by omega⟩ (fun (zc10 : ¬ 0 = 0) => absurd zc10 (by omega)) (fun (zc10 : ¬ ¬ 0 = 0) => ?_)
                  refine m_run 1 (ps' := (122, [some (.inr (.inl 0)), some (.inl p), some (.inl l), some (.inl m), some (.inl k), some (.inl i), some (.inl j), some (.inl n), some (.inl 1), some (.inl 0)], [.inl (-1000001)], mW (n, T, h, t, x) M, 0, 0)) rfl ?_
                  exact m_ret1 rfl (Or.inl rfl) rfl (m_Vi (by unfold triFS; simp [*]))
              · replace zc7 : (ixS i (n - 1)) = true := bI_n0.mp zc7
                have zi4 := ixS_i.mp zc7
                refine m_run 4 (ps' := (79, [some (.inr (.inl 0)), some (.inl p), some (.inl l), some (.inl m), some (.inl k), some (.inl i), some (.inl j), some (.inl n), some (.inl 1), none], [.inl (n - 1), .inl j], mW (n, T, h, t, x) M, 0, 0)) rfl ?_
                refine m_callSF [.inl j, .inl (n - 1)] [] rfl rfl rfl (k_ix (i := j) (l := (n - 1)) hj ⟨by omega, by omega⟩) ?_
                show m_Sem X 70 (82, [some (.inr (.inl 0)), some (.inl p), some (.inl l), some (.inl m), some (.inl k), some (.inl i), some (.inl j), some (.inl n), some (.inl 1), none], [.inl (bI (ixS j (n - 1)))], mW (n, T, h, t, x) M, 0, 0) _
                refine m_if rfl (bI_R _) (fun (zc8 : (bI (ixS j (n - 1))) = 0) => ?_) (fun (zc8 : ¬ (bI (ixS j (n - 1))) = 0) => ?_)
                · replace zc8 : (ixS j (n - 1)) = false := bI_e0.mp zc8
                  refine m_run 5 (ps' := (104, [some (.inr (.inl 0)), some (.inl p), some (.inl l), some (.inl m), some (.inl k), some (.inl i), some (.inl j), some (.inl n), some (.inl 1), some (.inl 0)], [.inl p, .inr (.inl 1)], mW (n, T, h, t, x) M, 0, 0)) rfl ?_
                  refine m_callVF [.inl p] [] rfl rfl ⟨_, rfl, rfl⟩ rfl rfl (k_phas (e := p) hR hp) ?_
                  show m_Sem X 70 (107, [some (.inr (.inl 0)), some (.inl p), some (.inl l), some (.inl m), some (.inl k), some (.inl i), some (.inl j), some (.inl n), some (.inl 1), some (.inl 0)], [.inl (bI (inN (NP n) p))], mW (n, T, h, t, x) M, 0, 0) _
                  refine m_if rfl (bI_R _) (fun (zc9 : (bI (inN (NP n) p)) = 0) => ?_) (fun (zc9 : ¬ (bI (inN (NP n) p)) = 0) => ?_)
                  · replace zc9 : (inN (NP n) p) = false := bI_e0.mp zc9
                    refine m_run 1 (ps' := (122, [some (.inr (.inl 0)), some (.inl p), some (.inl l), some (.inl m), some (.inl k), some (.inl i), some (.inl j), some (.inl n), some (.inl 1), some (.inl 0)], [.inl (-1000001)], mW (n, T, h, t, x) M, 0, 0)) rfl ?_
                    exact m_ret1 rfl (Or.inl rfl) rfl (m_Vi (by unfold triFS; simp [*]))
                  · replace zc9 : (inN (NP n) p) = true := bI_n0.mp zc9
                    have zi5 := inN_i.mp zc9
                    unfold NP at zi5
                    refine m_run 1 (ps' := (112, [some (.inr (.inl 0)), some (.inl p), some (.inl l), some (.inl m), some (.inl k), some (.inl i), some (.inl j), some (.inl n), some (.inl 1), some (.inl 0)], [.inl 1], mW (n, T, h, t, x) M, 0, 0)) rfl ?_
                    refine m_if rfl ⟨by omega, by omega⟩ (fun (zc10 : 1 = 0) => absurd zc10 (by omega)) (fun (zc10 : ¬ 1 = 0) => ?_)
                    refine m_run 1 (ps' := (117, [some (.inr (.inl 0)), some (.inl p), some (.inl l), some (.inl m), some (.inl k), some (.inl i), some (.inl j), some (.inl n), some (.inl 1), some (.inl 0)], [.inl 0], mW (n, T, h, t, x) M, 0, 0)) rfl ?_
                    refine m_if rfl ⟨by omega, by omega⟩ (fun (zc11 : ¬ 0 = 0) => absurd zc11 (by omega)) (fun (zc11 : ¬ ¬ 0 = 0) => ?_)
                    refine m_run 1 (ps' := (122, [some (.inr (.inl 0)), some (.inl p), some (.inl l), some (.inl m), some (.inl k), some (.inl i), some (.inl j), some (.inl n), some (.inl 1), some (.inl 0)], [.inl (-1000001)], mW (n, T, h, t, x) M, 0, 0)) rfl ?_
                    exact m_ret1 rfl (Or.inl rfl) rfl (m_Vi (by unfold triFS; simp [*]))
                · replace zc8 : (ixS j (n - 1)) = true := bI_n0.mp zc8
                  have zi5 := ixS_i.mp zc8
                  refine m_run 2 (ps' := (89, [some (.inr (.inl 0)), some (.inl p), some (.inl l), some (.inl m), some (.inl k), some (.inl i), some (.inl j), some (.inl n), some (.inl 1), none], [.inl j, .inl i], mW (n, T, h, t, x) M, 0, 0)) rfl ?_
                  refine m_icmp rfl hi hj (fun (zc9 : i = j) => ?_) (fun (zc9 : ¬ i = j) => ?_)
                  · refine m_run 5 (ps' := (104, [some (.inr (.inl 0)), some (.inl p), some (.inl l), some (.inl m), some (.inl k), some (.inl i), some (.inl j), some (.inl n), some (.inl 1), some (.inl 0)], [.inl p, .inr (.inl 1)], mW (n, T, h, t, x) M, 0, 0)) rfl ?_
                    refine m_callVF [.inl p] [] rfl rfl ⟨_, rfl, rfl⟩ rfl rfl (k_phas (e := p) hR hp) ?_
                    show m_Sem X 70 (107, [some (.inr (.inl 0)), some (.inl p), some (.inl l), some (.inl m), some (.inl k), some (.inl i), some (.inl j), some (.inl n), some (.inl 1), some (.inl 0)], [.inl (bI (inN (NP n) p))], mW (n, T, h, t, x) M, 0, 0) _
                    refine m_if rfl (bI_R _) (fun (zc10 : (bI (inN (NP n) p)) = 0) => ?_) (fun (zc10 : ¬ (bI (inN (NP n) p)) = 0) => ?_)
                    · replace zc10 : (inN (NP n) p) = false := bI_e0.mp zc10
                      refine m_run 1 (ps' := (122, [some (.inr (.inl 0)), some (.inl p), some (.inl l), some (.inl m), some (.inl k), some (.inl i), some (.inl j), some (.inl n), some (.inl 1), some (.inl 0)], [.inl (-1000001)], mW (n, T, h, t, x) M, 0, 0)) rfl ?_
                      exact m_ret1 rfl (Or.inl rfl) rfl (m_Vi (by unfold triFS; simp [*]))
                    · replace zc10 : (inN (NP n) p) = true := bI_n0.mp zc10
                      have zi6 := inN_i.mp zc10
                      unfold NP at zi6
                      refine m_run 1 (ps' := (112, [some (.inr (.inl 0)), some (.inl p), some (.inl l), some (.inl m), some (.inl k), some (.inl i), some (.inl j), some (.inl n), some (.inl 1), some (.inl 0)], [.inl 1], mW (n, T, h, t, x) M, 0, 0)) rfl ?_
                      refine m_if rfl ⟨by omega, by omega⟩ (fun (zc11 : 1 = 0) => absurd zc11 (by omega)) (fun (zc11 : ¬ 1 = 0) => ?_)
                      refine m_run 1 (ps' := (117, [some (.inr (.inl 0)), some (.inl p), some (.inl l), some (.inl m), some (.inl k), some (.inl i), some (.inl j), some (.inl n), some (.inl 1), some (.inl 0)], [.inl 0], mW (n, T, h, t, x) M, 0, 0)) rfl ?_
                      refine m_if rfl ⟨by omega, by omega⟩ (fun (zc12 : ¬ 0 = 0) => absurd zc12 (by omega)) (fun (zc12 : ¬ ¬ 0 = 0) => ?_)
                      refine m_run 1 (ps' := (122, [some (.inr (.inl 0)), some (.inl p), some (.inl l), some (.inl m), some (.inl k), some (.inl i), some (.inl j), some (.inl n), some (.inl 1), some (.inl 0)], [.inl (-1000001)], mW (n, T, h, t, x) M, 0, 0)) rfl ?_
                      exact m_ret1 rfl (Or.inl rfl) rfl (m_Vi (by unfold triFS; simp [*]))
                  · refine m_run 6 (ps' := (104, [some (.inr (.inl 0)), some (.inl p), some (.inl l), some (.inl m), some (.inl k), some (.inl i), some (.inl j), some (.inl n), some (.inl 1), some (.inl 1)], [.inl p, .inr (.inl 1)], mW (n, T, h, t, x) M, 0, 0)) rfl ?_
                    refine m_callVF [.inl p] [] rfl rfl ⟨_, rfl, rfl⟩ rfl rfl (k_phas (e := p) hR hp) ?_
                    show m_Sem X 70 (107, [some (.inr (.inl 0)), some (.inl p), some (.inl l), some (.inl m), some (.inl k), some (.inl i), some (.inl j), some (.inl n), some (.inl 1), some (.inl 1)], [.inl (bI (inN (NP n) p))], mW (n, T, h, t, x) M, 0, 0) _
                    refine m_if rfl (bI_R _) (fun (zc10 : (bI (inN (NP n) p)) = 0) => ?_) (fun (zc10 : ¬ (bI (inN (NP n) p)) = 0) => ?_)
                    · replace zc10 : (inN (NP n) p) = false := bI_e0.mp zc10
                      refine m_run 1 (ps' := (122, [some (.inr (.inl 0)), some (.inl p), some (.inl l), some (.inl m), some (.inl k), some (.inl i), some (.inl j), some (.inl n), some (.inl 1), some (.inl 1)], [.inl (-1000001)], mW (n, T, h, t, x) M, 0, 0)) rfl ?_
                      exact m_ret1 rfl (Or.inl rfl) rfl (m_Vi (by unfold triFS; simp [*]))
                    · replace zc10 : (inN (NP n) p) = true := bI_n0.mp zc10
                      have zi6 := inN_i.mp zc10
                      unfold NP at zi6
                      refine m_run 1 (ps' := (112, [some (.inr (.inl 0)), some (.inl p), some (.inl l), some (.inl m), some (.inl k), some (.inl i), some (.inl j), some (.inl n), some (.inl 1), some (.inl 1)], [.inl 1], mW (n, T, h, t, x) M, 0, 0)) rfl ?_
                      refine m_if rfl ⟨by omega, by omega⟩ (fun (zc11 : 1 = 0) => absurd zc11 (by omega)) (fun (zc11 : ¬ 1 = 0) => ?_)
                      refine m_run 1 (ps' := (117, [some (.inr (.inl 0)), some (.inl p), some (.inl l), some (.inl m), some (.inl k), some (.inl i), some (.inl j), some (.inl n), some (.inl 1), some (.inl 1)], [.inl 1], mW (n, T, h, t, x) M, 0, 0)) rfl ?_
                      refine m_if rfl ⟨by omega, by omega⟩ (fun (zc12 : ¬ 1 = 0) => ?_) (fun (zc12 : ¬ ¬ 1 = 0) => absurd zc12 (not_not_intro (by omega)))
                      refine m_run 2 (ps' := (127, [some (.inr (.inl 0)), some (.inl p), some (.inl l), some (.inl m), some (.inl k), some (.inl i), some (.inl j), some (.inl n), some (.inl 1), some (.inl 1)], [.inr (.inl 1)], mW (n, T, h, t, x) M, 0, 0)) rfl ?_
                      refine m_callVF [] [] rfl rfl ⟨_, rfl, rfl⟩ rfl rfl (k_pl hR) ?_
                      show m_Sem X 70 (130, [some (.inr (.inl 0)), some (.inl p), some (.inl l), some (.inl m), some (.inl k), some (.inl i), some (.inl j), some (.inl n), some (.inl 1), some (.inl 1)], [.inl (bI (plS n tb))], mW (n, T, h, t, x) M, 0, 0) _
                      refine m_if rfl (bI_R _) (fun (zc13 : ¬ (bI (plS n tb)) = 0) => ?_) (fun (zc13 : ¬ ¬ (bI (plS n tb)) = 0) => ?_)
                      · replace zc13 : (plS n tb) = true := bI_n0.mp zc13
                        refine m_run 8 (ps' := (149, [some (.inr (.inl 0)), some (.inl p), some (.inl l), some (.inl m), some (.inl k), some (.inl i), some (.inl j), some (.inl n), some (.inl 1), some (.inl 1)], [.inl j, .inl i, .inl k, .inl m, .inl l, .inl p, .inr (.inl 1)], mW (n, T, h, t, x) M, 0, 0)) rfl ?_
                        refine m_callVF [.inl p, .inl l, .inl m, .inl k, .inl i, .inl j] [] rfl rfl ⟨_, rfl, rfl⟩ rfl rfl (k_tri (p := p) (l := l) (m := m) (k := k) (i := i) (j := j) hR hp hll hm hk (by omega) (by omega)) ?_
                        show m_Sem X 70 (152, [some (.inr (.inl 0)), some (.inl p), some (.inl l), some (.inl m), some (.inl k), some (.inl i), some (.inl j), some (.inl n), some (.inl 1), some (.inl 1)], [.inl (triC n tb p l m k i j)], mW (n, T, h, t, x) M, 0, 0) _
                        exact m_ret1 rfl (Or.inl rfl) rfl (m_Vi (by unfold triFS; simp [*]))
                      · replace zc13 : (plS n tb) = false := bI_e0.mp (Decidable.not_not.mp zc13)
                        refine m_run 1 (ps' := (135, [some (.inr (.inl 0)), some (.inl p), some (.inl l), some (.inl m), some (.inl k), some (.inl i), some (.inl j), some (.inl n), some (.inl 1), some (.inl 1)], [.inl (-1000002)], mW (n, T, h, t, x) M, 0, 0)) rfl ?_
                        exact m_ret1 rfl (Or.inl rfl) rfl (m_Vi (by unfold triFS; simp [*]))
set_option maxHeartbeats 4000000 in
set_option maxRecDepth 100000 in
theorem k_fhex {X : Nat × Nat × (Nat → Int32)} {n : Int} {T : Int → Int} {h : HS} {t : TS} {x : XS} {M : MS} {tb : Int → Int → Int} {l m : Int} (hll : m_R l) (hm : m_R m) (hR : repC n T tb) : m_Run X 72 [.inr (.inl 0), .inl l, .inl m] (mW (n, T, h, t, x) M) (m_V (hexFS n tb l m) (mW (n, T, h, t, x) M)) := by
  have hn := hR.1
  have hl := okN_lo hn
  have hq := sq_b hn
  show m_Sem X 72 (0, [some (.inr (.inl 0)), some (.inl l), some (.inl m)], [], mW (n, T, h, t, x) M, 0, 0) _
  refine m_run 3 (ps' := (5, [some (.inr (.inl 0)), some (.inl l), some (.inl m)], [.inl l, .inr (.inl 1)], mW (n, T, h, t, x) M, 0, 0)) rfl ?_
  refine m_callVF [.inl l] [] rfl rfl ⟨_, rfl, rfl⟩ rfl rfl (k_phas (e := l) hR hll) ?_
  show m_Sem X 72 (8, [some (.inr (.inl 0)), some (.inl l), some (.inl m)], [.inl (bI (inN (NP n) l))], mW (n, T, h, t, x) M, 0, 0) _
  refine m_if rfl (bI_R (inN (NP n) l)) (fun (zc1 : (bI (inN (NP n) l)) = 0) => ?_) (fun (zc1 : ¬ (bI (inN (NP n) l)) = 0) => ?_)
  · replace zc1 : (inN (NP n) l) = false := bI_e0.mp zc1
    refine m_run 1 (ps' := (29, [some (.inr (.inl 0)), some (.inl l), some (.inl m)], [.inl (-1000001)], mW (n, T, h, t, x) M, 0, 0)) rfl ?_
    exact m_ret1 rfl (Or.inl rfl) rfl (m_Vi (by unfold hexFS; simp [*, bI] <;> omega))
  · replace zc1 : (inN (NP n) l) = true := bI_n0.mp zc1
    have zi1 := inN_i.mp zc1
    unfold NP at zi1
    refine m_run 3 (ps' := (16, [some (.inr (.inl 0)), some (.inl l), some (.inl m)], [.inl m, .inr (.inl 1)], mW (n, T, h, t, x) M, 0, 0)) rfl ?_
    refine m_callVF [.inl m] [] rfl rfl ⟨_, rfl, rfl⟩ rfl rfl (k_phas (e := m) hR hm) ?_
    show m_Sem X 72 (19, [some (.inr (.inl 0)), some (.inl l), some (.inl m)], [.inl (bI (inN (NP n) m))], mW (n, T, h, t, x) M, 0, 0) _
    refine m_if rfl (bI_R (inN (NP n) m)) (fun (zc2 : (bI (inN (NP n) m)) = 0) => ?_) (fun (zc2 : ¬ (bI (inN (NP n) m)) = 0) => ?_)
    · replace zc2 : (inN (NP n) m) = false := bI_e0.mp zc2
      refine m_run 1 (ps' := (29, [some (.inr (.inl 0)), some (.inl l), some (.inl m)], [.inl (-1000001)], mW (n, T, h, t, x) M, 0, 0)) rfl ?_
      exact m_ret1 rfl (Or.inl rfl) rfl (m_Vi (by unfold hexFS; simp [*, bI] <;> omega))
    · replace zc2 : (inN (NP n) m) = true := bI_n0.mp zc2
      have zi2 := inN_i.mp zc2
      unfold NP at zi2
      refine m_run 2 (ps' := (24, [some (.inr (.inl 0)), some (.inl l), some (.inl m)], [.inl m, .inl l], mW (n, T, h, t, x) M, 0, 0)) rfl ?_
      refine m_icmp rfl ⟨by omega, by omega⟩ ⟨by omega, by omega⟩ (fun (zc3 : ¬ l = m) => ?_) (fun (zc3 : ¬ ¬ l = m) => ?_)
      · refine m_run 4 (ps' := (38, [some (.inr (.inl 0)), some (.inl l), some (.inl m)], [.inl 3, .inl n], mW (n, T, h, t, x) M, 0, 0)) rfl ?_
        refine m_icmp rfl ⟨by omega, by omega⟩ ⟨by omega, by omega⟩ (fun (zc4 : n < 3) => ?_) (fun (zc4 : ¬ n < 3) => ?_)
        · refine m_run 1 (ps' := (53, [some (.inr (.inl 0)), some (.inl l), some (.inl m)], [.inl (-1000002)], mW (n, T, h, t, x) M, 0, 0)) rfl ?_
          exact m_ret1 rfl (Or.inl rfl) rfl (m_Vi (by unfold hexFS; simp [*, bI] <;> omega))
        · refine m_run 2 (ps' := (45, [some (.inr (.inl 0)), some (.inl l), some (.inl m)], [.inr (.inl 1)], mW (n, T, h, t, x) M, 0, 0)) rfl ?_
          refine m_callVF [] [] rfl rfl ⟨_, rfl, rfl⟩ rfl rfl (k_pl hR) ?_
          show m_Sem X 72 (48, [some (.inr (.inl 0)), some (.inl l), some (.inl m)], [.inl (bI (plS n tb))], mW (n, T, h, t, x) M, 0, 0) _
          refine m_if rfl (bI_R (plS n tb)) (fun (zc5 : ¬ (bI (plS n tb)) = 0) => ?_) (fun (zc5 : ¬ ¬ (bI (plS n tb)) = 0) => ?_)
          · replace zc5 : (plS n tb) = true := bI_n0.mp zc5
            refine m_run 4 (ps' := (60, [some (.inr (.inl 0)), some (.inl l), some (.inl m)], [.inl m, .inl l, .inr (.inl 1)], mW (n, T, h, t, x) M, 0, 0)) rfl ?_
            refine m_callVF [.inl l, .inl m] [] rfl rfl ⟨_, rfl, rfl⟩ rfl rfl (k_hex (l := l) (m := m) hR hll hm) ?_
            show m_Sem X 72 (63, [some (.inr (.inl 0)), some (.inl l), some (.inl m)], [.inl (bI (hexC n tb l m))], mW (n, T, h, t, x) M, 0, 0) _
            refine m_if rfl (bI_R (hexC n tb l m)) (fun (zc6 : (bI (hexC n tb l m)) = 0) => ?_) (fun (zc6 : ¬ (bI (hexC n tb l m)) = 0) => ?_)
            · replace zc6 : (hexC n tb l m) = false := bI_e0.mp zc6
              refine m_run 1 (ps' := (71, [some (.inr (.inl 0)), some (.inl l), some (.inl m)], [.inl 0], mW (n, T, h, t, x) M, 0, 0)) rfl ?_
              exact m_ret1 rfl (Or.inl rfl) rfl (m_Vi (by unfold hexFS; simp [*, bI] <;> omega))
            · replace zc6 : (hexC n tb l m) = true := bI_n0.mp zc6
              refine m_run 2 (ps' := (71, [some (.inr (.inl 0)), some (.inl l), some (.inl m)], [.inl 1], mW (n, T, h, t, x) M, 0, 0)) rfl ?_
              exact m_ret1 rfl (Or.inl rfl) rfl (m_Vi (by unfold hexFS; simp [*, bI] <;> omega))
          · replace zc5 : (plS n tb) = false := bI_e0.mp (Decidable.not_not.mp zc5)
            refine m_run 1 (ps' := (53, [some (.inr (.inl 0)), some (.inl l), some (.inl m)], [.inl (-1000002)], mW (n, T, h, t, x) M, 0, 0)) rfl ?_
            exact m_ret1 rfl (Or.inl rfl) rfl (m_Vi (by unfold hexFS; simp [*, bI] <;> omega))
      · replace zc3 : l = m := Decidable.not_not.mp zc3
        refine m_run 1 (ps' := (29, [some (.inr (.inl 0)), some (.inl l), some (.inl m)], [.inl (-1000001)], mW (n, T, h, t, x) M, 0, 0)) rfl ?_
        exact m_ret1 rfl (Or.inl rfl) rfl (m_Vi (by unfold hexFS; simp [*, bI] <;> omega))
set_option maxHeartbeats 4000000 in
set_option maxRecDepth 100000 in
theorem k_fmir {X : Nat × Nat × (Nat → Int32)} {n : Int} {T : Int → Int} {h : HS} {t : TS} {ry ft im : Int → Int} {en br hl : Int} {M : MS} {tb : Int → Int → Int} {l p : Int} (hll : m_R l) (hp : m_R p) (hR : repC n T tb) : m_Run X 73 [.inr (.inl 0), .inl l, .inl p] (mW (n, T, h, t, (ry, ft, im, en, br, hl)) M) (fun r w => r = some (.inl (mirFS n tb l p)) ∧ ∃ x2, w = mW (n, T, h, t, x2) M) := by
  have hn := hR.1
  have hln := okN_lo hn
  have hq := sq_b hn
  show m_Sem X 73 (0, [some (.inr (.inl 0)), some (.inl l), some (.inl p)], [], mW (n, T, h, t, (ry, ft, im, en, br, hl)) M, 0, 0) _
  refine m_run 3 (ps' := (5, [some (.inr (.inl 0)), some (.inl l), some (.inl p)], [.inl l, .inr (.inl 1)], mW (n, T, h, t, (ry, ft, im, en, br, hl)) M, 0, 0)) rfl ?_
  refine m_callVF [.inl l] [] rfl rfl ⟨_, rfl, rfl⟩ rfl rfl (k_phas (e := l) hR hll) ?_
  show m_Sem X 73 (8, [some (.inr (.inl 0)), some (.inl l), some (.inl p)], [.inl (bI (inN (NP n) l))], mW (n, T, h, t, (ry, ft, im, en, br, hl)) M, 0, 0) _
  refine m_if rfl (bI_R (inN (NP n) l)) (fun (zc1 : (bI (inN (NP n) l)) = 0) => ?_) (fun (zc1 : ¬ (bI (inN (NP n) l)) = 0) => ?_)
  · replace zc1 : (inN (NP n) l) = false := bI_e0.mp zc1
    refine m_run 1 (ps' := (24, [some (.inr (.inl 0)), some (.inl l), some (.inl p)], [.inl (-1000001)], mW (n, T, h, t, (ry, ft, im, en, br, hl)) M, 0, 0)) rfl ?_
    exact m_ret1 rfl (Or.inl rfl) rfl (⟨by unfold mirFS; simp [*], _, rfl⟩)
  · replace zc1 : (inN (NP n) l) = true := bI_n0.mp zc1
    have zi1 := inN_i.mp zc1
    unfold NP at zi1
    refine m_run 3 (ps' := (16, [some (.inr (.inl 0)), some (.inl l), some (.inl p)], [.inl p, .inr (.inl 1)], mW (n, T, h, t, (ry, ft, im, en, br, hl)) M, 0, 0)) rfl ?_
    refine m_callVF [.inl p] [] rfl rfl ⟨_, rfl, rfl⟩ rfl rfl (k_phas (e := p) hR hp) ?_
    show m_Sem X 73 (19, [some (.inr (.inl 0)), some (.inl l), some (.inl p)], [.inl (bI (inN (NP n) p))], mW (n, T, h, t, (ry, ft, im, en, br, hl)) M, 0, 0) _
    refine m_if rfl (bI_R (inN (NP n) p)) (fun (zc2 : ¬ (bI (inN (NP n) p)) = 0) => ?_) (fun (zc2 : ¬ ¬ (bI (inN (NP n) p)) = 0) => ?_)
    · replace zc2 : (inN (NP n) p) = true := bI_n0.mp zc2
      have zi2 := inN_i.mp zc2
      unfold NP at zi2
      refine m_run 2 (ps' := (29, [some (.inr (.inl 0)), some (.inl l), some (.inl p)], [.inr (.inl 1)], mW (n, T, h, t, (ry, ft, im, en, br, hl)) M, 0, 0)) rfl ?_
      refine m_callVF [] [] rfl rfl ⟨_, rfl, rfl⟩ rfl rfl (k_pl hR) ?_
      show m_Sem X 73 (32, [some (.inr (.inl 0)), some (.inl l), some (.inl p)], [.inl (bI (plS n tb))], mW (n, T, h, t, (ry, ft, im, en, br, hl)) M, 0, 0) _
      refine m_if rfl (bI_R (plS n tb)) (fun (zc3 : ¬ (bI (plS n tb)) = 0) => ?_) (fun (zc3 : ¬ ¬ (bI (plS n tb)) = 0) => ?_)
      · replace zc3 : (plS n tb) = true := bI_n0.mp zc3
        refine m_run 6 (ps' := (48, [some (.inr (.inl 0)), some (.inl l), some (.inl p)], [.inl p, .inl l, .inr (.inl 1), .inr (.inl 9)], mW (n, T, h, t, (ry, ft, im, en, br, hl)) M, 0, 0)) rfl ?_
        refine m_callV [.inr (.inl 1), .inl l, .inl p] [] rfl rfl ⟨_, rfl, rfl⟩ rfl rfl (k_tal (ax := l) (ce := p) hR hll hp) (fun r_ w_ hq_ _ => ?_)
        obtain ⟨rfl, x2, rfl⟩ := hq_
        show m_Sem X 73 (51, [some (.inr (.inl 0)), some (.inl l), some (.inl p)], [.inl (talS n tb l p)], mW (n, T, h, t, x2) M, 0, 0) _
        exact m_ret1 rfl (Or.inl rfl) rfl (⟨by unfold mirFS; simp [*], _, rfl⟩)
      · replace zc3 : (plS n tb) = false := bI_e0.mp (Decidable.not_not.mp zc3)
        refine m_run 1 (ps' := (37, [some (.inr (.inl 0)), some (.inl l), some (.inl p)], [.inl (-1000002)], mW (n, T, h, t, (ry, ft, im, en, br, hl)) M, 0, 0)) rfl ?_
        exact m_ret1 rfl (Or.inl rfl) rfl (⟨by unfold mirFS; simp [*], _, rfl⟩)
    · replace zc2 : (inN (NP n) p) = false := bI_e0.mp (Decidable.not_not.mp zc2)
      refine m_run 1 (ps' := (24, [some (.inr (.inl 0)), some (.inl l), some (.inl p)], [.inl (-1000001)], mW (n, T, h, t, (ry, ft, im, en, br, hl)) M, 0, 0)) rfl ?_
      exact m_ret1 rfl (Or.inl rfl) rfl (⟨by unfold mirFS; simp [*], _, rfl⟩)
def opR (n : Int) (tb : Int → Int → Int) (p j : Int) : Int := sumF (fun i => if triC n tb p 0 1 2 i j = 0 then 1 else 0) j.toNat 0
def opS (n : Int) (tb : Int → Int → Int) (p : Int) : Int := sumF (opR n tb p) n.toNat 0
def opFS (n : Int) (tb : Int → Int → Int) (p : Int) : Int := if inN (NP n) p = false then -1000001 else if plS n tb = false then -1000002 else opS n tb p
theorem triC_R {n : Int} {tb : Int → Int → Int} {p l m k i j : Int} : m_R (triC n tb p l m k i j) := by
  show m_R (if _ then _ else if _ then _ else _)
  split
  · exact ⟨by decide, by decide⟩
  · split
    · exact ⟨by decide, by decide⟩
    · exact bI_R _
set_option maxHeartbeats 4000000 in
set_option maxRecDepth 100000 in
theorem l_opI {X : Nat × Nat × (Nat → Int32)} {n : Int} {T : Int → Int} {h : HS} {t : TS} {x : XS} {M : MS} {tb : Int → Int → Int} {p : Int} (hp : m_R p) (hR : repC n T tb) {j : Int} {Q : Option mPV → mPW → Prop} {v : Int} (hj : 1 ≤ j) (hj2 : j < n) (K : m_Sem X 71 (31, [some (.inr (.inl 0)), some (.inl p), some (.inl v), some (.inl (j + 1)), none], [], mW (n, T, h, t, x) M, 0, 0) Q) : ∀ i : Int, 0 ≤ i → i ≤ j → ∀ (u : Int) (hu : u + sumF (fun i => if triC n tb p 0 1 2 i j = 0 then 1 else 0) (j - i).toNat i = v), m_Sem X 71 (45, [some (.inr (.inl 0)), some (.inl p), some (.inl u), some (.inl j), some (.inl i)], [], mW (n, T, h, t, x) M, 0, 0) (Q) := by
  have hn := hR.1
  have hl := okN_lo hn
  have hq := sq_b hn
  refine m_down 0 j ?_ ?_
  · intro u hu
    rw [sum_end] at hu
    have hu : u = v := by omega
    subst hu
    show m_Sem X 71 (45, [some (.inr (.inl 0)), some (.inl p), some (.inl u), some (.inl j), some (.inl j)], [], mW (n, T, h, t, x) M, 0, 0) _
    refine m_run 2 (ps' := (48, [some (.inr (.inl 0)), some (.inl p), some (.inl u), some (.inl j), some (.inl j)], [.inl j, .inl j], mW (n, T, h, t, x) M, 0, 0)) rfl ?_
    refine m_icmp rfl ⟨by omega, by omega⟩ ⟨by omega, by omega⟩ (fun (zc1 : j ≤ j) => ?_) (fun (zc1 : ¬ j ≤ j) => absurd zc1 (not_not_intro (by omega)))
    refine m_run 2 (ps' := (31, [some (.inr (.inl 0)), some (.inl p), some (.inl u), some (.inl (j + 1)), some (.inl j)], [], mW (n, T, h, t, x) M, 0, 0)) rfl ?_
    refine m_weak [some (.inr (.inl 0)), some (.inl p), some (.inl u), some (.inl (j + 1)), none] ⟨rfl, ⟨rfl, ⟨rfl, ⟨rfl, trivial⟩⟩⟩⟩ ?_
    exact K
  · intro i hi1 hi2 ih u hu
    rw [sum_step hi2] at hu
    refine m_run 2 (ps' := (48, [some (.inr (.inl 0)), some (.inl p), some (.inl u), some (.inl j), some (.inl i)], [.inl j, .inl i], mW (n, T, h, t, x) M, 0, 0)) rfl ?_
    refine m_icmp rfl ⟨by omega, by omega⟩ ⟨by omega, by omega⟩ (fun (zc1 : j ≤ i) => absurd zc1 (by omega)) (fun (zc1 : ¬ j ≤ i) => ?_)
    refine m_run 8 (ps' := (62, [some (.inr (.inl 0)), some (.inl p), some (.inl u), some (.inl j), some (.inl i)], [.inl j, .inl i, .inl 2, .inl 1, .inl 0, .inl p, .inr (.inl 1)], mW (n, T, h, t, x) M, 0, 0)) rfl ?_
    refine m_callVF [.inl p, .inl 0, .inl 1, .inl 2, .inl i, .inl j] [] rfl rfl ⟨_, rfl, rfl⟩ rfl rfl (k_tri (p := p) (l := 0) (m := 1) (k := 2) (i := i) (j := j) hR hp ⟨by omega, by omega⟩ ⟨by omega, by omega⟩ ⟨by omega, by omega⟩ (by omega) (by omega)) ?_
    show m_Sem X 71 (65, [some (.inr (.inl 0)), some (.inl p), some (.inl u), some (.inl j), some (.inl i)], [.inl (triC n tb p 0 1 2 i j)], mW (n, T, h, t, x) M, 0, 0) _
    refine m_if rfl triC_R (fun (zc2 : ¬ (triC n tb p 0 1 2 i j) = 0) => ?_) (fun (zc2 : ¬ ¬ (triC n tb p 0 1 2 i j) = 0) => ?_)
    · refine m_run 2 (ps' := (45, [some (.inr (.inl 0)), some (.inl p), some (.inl u), some (.inl j), some (.inl (i + 1))], [], mW (n, T, h, t, x) M, 0, 0)) rfl ?_
      refine m_weak [some (.inr (.inl 0)), some (.inl p), some (.inl u), some (.inl j), some (.inl (i + 1))] ⟨rfl, ⟨rfl, ⟨rfl, ⟨rfl, ⟨rfl, trivial⟩⟩⟩⟩⟩ ?_
      refine ih _ ?_
      rw [← hu]
      simp only [zc2, if_true, if_false]
      omega
    · replace zc2 : (triC n tb p 0 1 2 i j) = 0 := Decidable.not_not.mp zc2
      refine m_run 3 (ps' := (45, [some (.inr (.inl 0)), some (.inl p), some (.inl (u + 1)), some (.inl j), some (.inl (i + 1))], [], mW (n, T, h, t, x) M, 0, 0)) rfl ?_
      refine m_weak [some (.inr (.inl 0)), some (.inl p), some (.inl (u + 1)), some (.inl j), some (.inl (i + 1))] ⟨rfl, ⟨rfl, ⟨rfl, ⟨rfl, ⟨rfl, trivial⟩⟩⟩⟩⟩ ?_
      refine ih _ ?_
      rw [← hu]
      simp only [zc2, if_true, if_false]
      omega
set_option maxHeartbeats 4000000 in
set_option maxRecDepth 100000 in
theorem l_opO {X : Nat × Nat × (Nat → Int32)} {n : Int} {T : Int → Int} {h : HS} {t : TS} {x : XS} {M : MS} {tb : Int → Int → Int} {p : Int} (hp : m_R p) (hR : repC n T tb) {Q : Option mPV → mPW → Prop} {v : Int} (K : Q (some (.inl v)) (mW (n, T, h, t, x) M)) : ∀ j : Int, 1 ≤ j → j ≤ n → ∀ (u : Int) (hu : u + sumF (opR n tb p) (n - j).toNat j = v), m_Sem X 71 (31, [some (.inr (.inl 0)), some (.inl p), some (.inl u), some (.inl j), none], [], mW (n, T, h, t, x) M, 0, 0) (Q) := by
  have hn := hR.1
  have hl := okN_lo hn
  have hq := sq_b hn
  refine m_down 1 n ?_ ?_
  · intro u hu
    rw [sum_end] at hu
    have hu : u = v := by omega
    subst hu
    show m_Sem X 71 (31, [some (.inr (.inl 0)), some (.inl p), some (.inl u), some (.inl n), none], [], mW (n, T, h, t, x) M, 0, 0) _
    refine m_run 4 (ps' := (39, [some (.inr (.inl 0)), some (.inl p), some (.inl u), some (.inl n), none], [.inl n, .inl n], mW (n, T, h, t, x) M, 0, 0)) rfl ?_
    refine m_icmp rfl ⟨by omega, by omega⟩ ⟨by omega, by omega⟩ (fun (zc1 : n ≤ n) => ?_) (fun (zc1 : ¬ n ≤ n) => absurd zc1 (not_not_intro (by omega)))
    refine m_run 1 (ps' := (84, [some (.inr (.inl 0)), some (.inl p), some (.inl u), some (.inl n), none], [.inl u], mW (n, T, h, t, x) M, 0, 0)) rfl ?_
    exact m_ret1 rfl (Or.inl rfl) rfl K
  · intro j hi1 hi2 ih u hu
    rw [sum_step hi2] at hu
    refine m_run 4 (ps' := (39, [some (.inr (.inl 0)), some (.inl p), some (.inl u), some (.inl j), none], [.inl n, .inl j], mW (n, T, h, t, x) M, 0, 0)) rfl ?_
    refine m_icmp rfl ⟨by omega, by omega⟩ ⟨by omega, by omega⟩ (fun (zc1 : n ≤ j) => absurd zc1 (by omega)) (fun (zc1 : ¬ n ≤ j) => ?_)
    refine m_run 2 (ps' := (45, [some (.inr (.inl 0)), some (.inl p), some (.inl u), some (.inl j), some (.inl 0)], [], mW (n, T, h, t, x) M, 0, 0)) rfl ?_
    refine m_weak [some (.inr (.inl 0)), some (.inl p), some (.inl u), some (.inl j), some (.inl 0)] ⟨rfl, ⟨rfl, ⟨rfl, ⟨rfl, ⟨rfl, trivial⟩⟩⟩⟩⟩ ?_
    exact l_opI (v := u + opR n tb p j) hp hR hi1 hi2 (ih _ (by rw [← hu]; omega)) 0 (by omega) (by omega) u (by rw [Int.sub_zero]; rfl)
set_option maxHeartbeats 4000000 in
set_option maxRecDepth 100000 in
theorem k_fop {X : Nat × Nat × (Nat → Int32)} {n : Int} {T : Int → Int} {h : HS} {t : TS} {x : XS} {M : MS} {tb : Int → Int → Int} {p : Int} (hp : m_R p) (hR : repC n T tb) : m_Run X 71 [.inr (.inl 0), .inl p] (mW (n, T, h, t, x) M) (m_V (opFS n tb p) (mW (n, T, h, t, x) M)) := by
  have hn := hR.1
  have hl := okN_lo hn
  have hq := sq_b hn
  show m_Sem X 71 (0, [some (.inr (.inl 0)), some (.inl p), none, none, none], [], mW (n, T, h, t, x) M, 0, 0) _
  refine m_run 3 (ps' := (5, [some (.inr (.inl 0)), some (.inl p), none, none, none], [.inl p, .inr (.inl 1)], mW (n, T, h, t, x) M, 0, 0)) rfl ?_
  refine m_callVF [.inl p] [] rfl rfl ⟨_, rfl, rfl⟩ rfl rfl (k_phas (e := p) hR hp) ?_
  show m_Sem X 71 (8, [some (.inr (.inl 0)), some (.inl p), none, none, none], [.inl (bI (inN (NP n) p))], mW (n, T, h, t, x) M, 0, 0) _
  refine m_if rfl (bI_R _) (fun (zc1 : ¬ (bI (inN (NP n) p)) = 0) => ?_) (fun (zc1 : ¬ ¬ (bI (inN (NP n) p)) = 0) => ?_)
  · replace zc1 : (inN (NP n) p) = true := bI_n0.mp zc1
    have zi1 := inN_i.mp zc1
    unfold NP at zi1
    refine m_run 2 (ps' := (18, [some (.inr (.inl 0)), some (.inl p), none, none, none], [.inr (.inl 1)], mW (n, T, h, t, x) M, 0, 0)) rfl ?_
    refine m_callVF [] [] rfl rfl ⟨_, rfl, rfl⟩ rfl rfl (k_pl hR) ?_
    show m_Sem X 71 (21, [some (.inr (.inl 0)), some (.inl p), none, none, none], [.inl (bI (plS n tb))], mW (n, T, h, t, x) M, 0, 0) _
    refine m_if rfl (bI_R _) (fun (zc2 : ¬ (bI (plS n tb)) = 0) => ?_) (fun (zc2 : ¬ ¬ (bI (plS n tb)) = 0) => ?_)
    · replace zc2 : (plS n tb) = true := bI_n0.mp zc2
      refine m_run 4 (ps' := (31, [some (.inr (.inl 0)), some (.inl p), some (.inl 0), some (.inl 1), none], [], mW (n, T, h, t, x) M, 0, 0)) rfl ?_
      refine m_weak [some (.inr (.inl 0)), some (.inl p), some (.inl 0), some (.inl 1), none] ⟨rfl, ⟨rfl, ⟨rfl, ⟨rfl, trivial⟩⟩⟩⟩ ?_
      have h0 : opFS n tb p = 0 + sumF (opR n tb p) (n - 1).toNat 1 := by
        unfold opFS opS
        rw [if_neg (by simp [*]), if_neg (by simp [*])]
        rw [← Int.sub_zero n, sum_step (by omega), Int.sub_zero, Int.zero_add]
        show (0 : Int) + _ = _
        rw [Int.zero_add]
      exact l_opO (v := opFS n tb p) hp hR ⟨rfl, rfl⟩ 1 (by omega) (by omega) 0 h0.symm
    · replace zc2 : (plS n tb) = false := bI_e0.mp (Decidable.not_not.mp zc2)
      refine m_run 1 (ps' := (26, [some (.inr (.inl 0)), some (.inl p), none, none, none], [.inl (-1000002)], mW (n, T, h, t, x) M, 0, 0)) rfl ?_
      exact m_ret1 rfl (Or.inl rfl) rfl (m_Vi (by unfold opFS; simp [*]))
  · replace zc1 : (inN (NP n) p) = false := bI_e0.mp (Decidable.not_not.mp zc1)
    refine m_run 1 (ps' := (13, [some (.inr (.inl 0)), some (.inl p), none, none, none], [.inl (-1000001)], mW (n, T, h, t, x) M, 0, 0)) rfl ?_
    exact m_ret1 rfl (Or.inl rfl) rfl (m_Vi (by unfold opFS; simp [*]))
